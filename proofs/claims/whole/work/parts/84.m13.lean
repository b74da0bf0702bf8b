/-! methods as functions, group 13 -/
def cL_Y_readSheet_14 (L : Nat) (xs : Nat → Int32) (Q : Option Value → ab_H → Prop) (v0 : Nat) (v1 : Int32) (v2 : Int32) (g : g_S) (out : (Int32) ⊕ (Int32)) : Prop := match out with
  | .inl s => wp (ab_ext L xs) J_Y_readSheet 14 [(0, .ref v0), (1, .int v1), (2, .int v2), (3, .int s)] [] (hp g) Q
  | .inr s => wp (ab_ext L xs) J_Y_readSheet 36 [(0, .ref v0), (1, .int v1), (2, .int v2), (3, .int s)] [] (hp g) Q
noncomputable def b_Y_readSheet_14 (v0 : Nat) (v1 : Int32) (v2 : Int32) (v3 : Int32) (g : g_S) : Option ((Int32) ⊕ (Int32)) :=
  if v3 < v1 then
    (rQ g 112 v0 101).bind fun z1 =>
    (aI g 1 z1 v3).bind fun z2 =>
    if z2 = 125 then
      some (.inr v3)
    else
      some (.inl (v3 + 1))
  else
    some (.inr v3)
set_option maxRecDepth 20000 in
theorem y_Y_readSheet_14 {L : Nat} {xs : Nat → Int32} {Q : Option Value → ab_H → Prop} {v0 : Nat} {v1 : Int32} {v2 : Int32} {v3 : Int32} {g : g_S} {out : (Int32) ⊕ (Int32)} (e : b_Y_readSheet_14 v0 v1 v2 v3 g = some out) (c : cL_Y_readSheet_14 L xs Q v0 v1 v2 g out) : wp (ab_ext L xs) J_Y_readSheet 14 [(0, .ref v0), (1, .int v1), (2, .int v2), (3, .int v3)] [] (hp g) Q := by
  unfold b_Y_readSheet_14 at e
  refine wp_p (j := J_Y_readSheet) 2 (pc' := 16) (lv' := [(0, .ref v0), (1, .int v1), (2, .int v2), (3, .int v3)]) (st' := [.int v1, .int v3]) rfl ?_
  refine x_ge e rfl (fun e => ?_) (fun e => ?_)
  · refine wp_p (j := J_Y_readSheet) 1 (pc' := 20) (lv' := [(0, .ref v0), (1, .int v1), (2, .int v2), (3, .int v3)]) (st' := [.ref v0]) rfl ?_
    refine x_gQ e rfl rfl fd_12_101 rfl (fun z1 e => ?_)
    refine wp_p (j := J_Y_readSheet) 1 (pc' := 24) (lv' := [(0, .ref v0), (1, .int v1), (2, .int v2), (3, .int v3)]) (st' := [.int v3, .ref z1]) rfl ?_
    refine x_aB e rfl (.inl rfl) rfl (fun z2 e => ?_)
    refine wp_p (j := J_Y_readSheet) 1 (pc' := 27) (lv' := [(0, .ref v0), (1, .int v1), (2, .int v2), (3, .int v3)]) (st' := [.int 125, .int z2]) rfl ?_
    refine x_eq e rfl (fun e => ?_) (fun e => ?_)
    · have e := Option.some.inj e; subst e; exact wp_lv (lv' := [(0, .ref v0), (1, .int v1), (2, .int v2), (3, .int v3)]) rfl ⟨rfl, rfl, rfl, rfl, trivial⟩ c
    · refine wp_p (j := J_Y_readSheet) 2 (pc' := 14) (lv' := [(3, .int (v3 + 1)), (0, .ref v0), (1, .int v1), (2, .int v2)]) (st' := []) rfl ?_
      have e := Option.some.inj e; subst e; exact wp_lv (lv' := [(0, .ref v0), (1, .int v1), (2, .int v2), (3, .int (v3 + 1))]) rfl ⟨rfl, rfl, rfl, rfl, trivial⟩ c
  · have e := Option.some.inj e; subst e; exact wp_lv (lv' := [(0, .ref v0), (1, .int v1), (2, .int v2), (3, .int v3)]) rfl ⟨rfl, rfl, rfl, rfl, trivial⟩ c
noncomputable def L_Y_readSheet_14 (v0 : Nat) (v1 : Int32) (v2 : Int32) (v3 : Int32) (g : g_S) : Option (Int32) := it (fun s : Int32 => b_Y_readSheet_14 v0 v1 v2 s g) (v3)
theorem l_Y_readSheet_14 {L : Nat} {xs : Nat → Int32} {Q : Option Value → ab_H → Prop} {v0 : Nat} {v1 : Int32} {v2 : Int32} {v3 : Int32} {g : g_S} {r : Int32} (e : L_Y_readSheet_14 v0 v1 v2 v3 g = some r) (c : cL_Y_readSheet_14 L xs Q v0 v1 v2 g (.inr r)) : wp (ab_ext L xs) J_Y_readSheet 14 [(0, .ref v0), (1, .int v1), (2, .int v2), (3, .int v3)] [] (hp g) Q :=
  it_wp (P := fun s : Int32 => wp (ab_ext L xs) J_Y_readSheet 14 [(0, .ref v0), (1, .int v1), (2, .int v2), (3, .int s)] [] (hp g) Q) (E := fun r => cL_Y_readSheet_14 L xs Q v0 v1 v2 g (.inr r)) (fun s out e c => y_Y_readSheet_14 e (by cases out <;> exact c)) e c
theorem L_Y_readSheet_14_eq (v0 : Nat) (v1 : Int32) (v2 : Int32) (v3 : Int32) (g : g_S) : L_Y_readSheet_14 v0 v1 v2 v3 g = itc (b_Y_readSheet_14 v0 v1 v2 v3 g) (fun s => L_Y_readSheet_14 v0 v1 v2 s g) := it_eq2 (fun s : Int32 => b_Y_readSheet_14 v0 v1 v2 s g) (v3)
def cL_Y_readSheet_45 (L : Nat) (xs : Nat → Int32) (Q : Option Value → ab_H → Prop) (v0 : Nat) (v1 : Int32) (v2 : Int32) (v3 : Int32) (g : g_S) (out : (Int32) ⊕ (Int32)) : Prop := match out with
  | .inl s => wp (ab_ext L xs) J_Y_readSheet 45 [(0, .ref v0), (1, .int v1), (2, .int v2), (3, .int v3), (4, .int s)] [] (hp g) Q
  | .inr s => wp (ab_ext L xs) J_Y_readSheet 69 [(0, .ref v0), (1, .int v1), (2, .int v2), (3, .int v3), (4, .int s)] [] (hp g) Q
noncomputable def b_Y_readSheet_45 (v0 : Nat) (v1 : Int32) (v2 : Int32) (v3 : Int32) (v4 : Int32) (g : g_S) : Option ((Int32) ⊕ (Int32)) :=
  if v4 < v3 then
    (rQ g 112 v0 101).bind fun z1 =>
    (aI g 1 z1 v4).bind fun z2 =>
    if z2 = 123 then
      some (.inr v4)
    else
      some (.inl (v4 + 1))
  else
    some (.inr v4)
set_option maxRecDepth 20000 in
theorem y_Y_readSheet_45 {L : Nat} {xs : Nat → Int32} {Q : Option Value → ab_H → Prop} {v0 : Nat} {v1 : Int32} {v2 : Int32} {v3 : Int32} {v4 : Int32} {g : g_S} {out : (Int32) ⊕ (Int32)} (e : b_Y_readSheet_45 v0 v1 v2 v3 v4 g = some out) (c : cL_Y_readSheet_45 L xs Q v0 v1 v2 v3 g out) : wp (ab_ext L xs) J_Y_readSheet 45 [(0, .ref v0), (1, .int v1), (2, .int v2), (3, .int v3), (4, .int v4)] [] (hp g) Q := by
  unfold b_Y_readSheet_45 at e
  refine wp_p (j := J_Y_readSheet) 2 (pc' := 48) (lv' := [(0, .ref v0), (1, .int v1), (2, .int v2), (3, .int v3), (4, .int v4)]) (st' := [.int v3, .int v4]) rfl ?_
  refine x_ge e rfl (fun e => ?_) (fun e => ?_)
  · refine wp_p (j := J_Y_readSheet) 1 (pc' := 52) (lv' := [(0, .ref v0), (1, .int v1), (2, .int v2), (3, .int v3), (4, .int v4)]) (st' := [.ref v0]) rfl ?_
    refine x_gQ e rfl rfl fd_12_101 rfl (fun z1 e => ?_)
    refine wp_p (j := J_Y_readSheet) 1 (pc' := 57) (lv' := [(0, .ref v0), (1, .int v1), (2, .int v2), (3, .int v3), (4, .int v4)]) (st' := [.int v4, .ref z1]) rfl ?_
    refine x_aB e rfl (.inl rfl) rfl (fun z2 e => ?_)
    refine wp_p (j := J_Y_readSheet) 1 (pc' := 60) (lv' := [(0, .ref v0), (1, .int v1), (2, .int v2), (3, .int v3), (4, .int v4)]) (st' := [.int 123, .int z2]) rfl ?_
    refine x_eq e rfl (fun e => ?_) (fun e => ?_)
    · have e := Option.some.inj e; subst e; exact wp_lv (lv' := [(0, .ref v0), (1, .int v1), (2, .int v2), (3, .int v3), (4, .int v4)]) rfl ⟨rfl, rfl, rfl, rfl, rfl, trivial⟩ c
    · refine wp_p (j := J_Y_readSheet) 2 (pc' := 45) (lv' := [(4, .int (v4 + 1)), (0, .ref v0), (1, .int v1), (2, .int v2), (3, .int v3)]) (st' := []) rfl ?_
      have e := Option.some.inj e; subst e; exact wp_lv (lv' := [(0, .ref v0), (1, .int v1), (2, .int v2), (3, .int v3), (4, .int (v4 + 1))]) rfl ⟨rfl, rfl, rfl, rfl, rfl, trivial⟩ c
  · have e := Option.some.inj e; subst e; exact wp_lv (lv' := [(0, .ref v0), (1, .int v1), (2, .int v2), (3, .int v3), (4, .int v4)]) rfl ⟨rfl, rfl, rfl, rfl, rfl, trivial⟩ c
noncomputable def L_Y_readSheet_45 (v0 : Nat) (v1 : Int32) (v2 : Int32) (v3 : Int32) (v4 : Int32) (g : g_S) : Option (Int32) := it (fun s : Int32 => b_Y_readSheet_45 v0 v1 v2 v3 s g) (v4)
theorem l_Y_readSheet_45 {L : Nat} {xs : Nat → Int32} {Q : Option Value → ab_H → Prop} {v0 : Nat} {v1 : Int32} {v2 : Int32} {v3 : Int32} {v4 : Int32} {g : g_S} {r : Int32} (e : L_Y_readSheet_45 v0 v1 v2 v3 v4 g = some r) (c : cL_Y_readSheet_45 L xs Q v0 v1 v2 v3 g (.inr r)) : wp (ab_ext L xs) J_Y_readSheet 45 [(0, .ref v0), (1, .int v1), (2, .int v2), (3, .int v3), (4, .int v4)] [] (hp g) Q :=
  it_wp (P := fun s : Int32 => wp (ab_ext L xs) J_Y_readSheet 45 [(0, .ref v0), (1, .int v1), (2, .int v2), (3, .int v3), (4, .int s)] [] (hp g) Q) (E := fun r => cL_Y_readSheet_45 L xs Q v0 v1 v2 v3 g (.inr r)) (fun s out e c => y_Y_readSheet_45 e (by cases out <;> exact c)) e c
theorem L_Y_readSheet_45_eq (v0 : Nat) (v1 : Int32) (v2 : Int32) (v3 : Int32) (v4 : Int32) (g : g_S) : L_Y_readSheet_45 v0 v1 v2 v3 v4 g = itc (b_Y_readSheet_45 v0 v1 v2 v3 v4 g) (fun s => L_Y_readSheet_45 v0 v1 v2 v3 s g) := it_eq2 (fun s : Int32 => b_Y_readSheet_45 v0 v1 v2 v3 s g) (v4)
def cL_Y_readSheet_7 (L : Nat) (xs : Nat → Int32) (Q : Option Value → ab_H → Prop) (v0 : Nat) (v1 : Int32) (out : (Int32 × g_S) ⊕ ((g_S) ⊕ (g_S))) : Prop := match out with
  | .inl s => wp (ab_ext L xs) J_Y_readSheet 7 [(0, .ref v0), (1, .int v1), (2, .int s.1)] [] (hp s.2) Q
  | .inr (.inl s) => wp (ab_ext L xs) J_Y_readSheet 41 [] [] (hp s) Q
  | .inr (.inr s) => wp (ab_ext L xs) J_Y_readSheet 95 [] [] (hp s) Q
noncomputable def k_Y_readSheet_83 (v0 : Nat) (v1 : Int32) (v3 : Int32) (g : g_S) : Option ((Int32 × g_S) ⊕ ((g_S) ⊕ (g_S))) :=
  (vc g 112 v0 (M_Y_blanks v0 (v3 + 1) v1 g)).bind fun z1 =>
  some (.inl (z1, g))
set_option maxRecDepth 20000 in
theorem x_Y_readSheet_83 {L : Nat} {xs : Nat → Int32} {Q : Option Value → ab_H → Prop} {v0 : Nat} {v1 : Int32} {v3 : Int32} {g : g_S} {out : (Int32 × g_S) ⊕ ((g_S) ⊕ (g_S))} (e : k_Y_readSheet_83 v0 v1 v3 g = some out) (c : cL_Y_readSheet_7 L xs Q v0 v1 out) : wp (ab_ext L xs) J_Y_readSheet 83 [(0, .ref v0), (1, .int v1), (3, .int v3)] [] (hp g) Q := by
  unfold k_Y_readSheet_83 at e
  refine wp_p (j := J_Y_readSheet) 5 (pc' := 88) (lv' := [(0, .ref v0), (1, .int v1), (3, .int v3)]) (st' := [.int v1, .int (v3 + 1), .ref v0]) rfl ?_
  refine x_cv1 (As := [.int (v3 + 1), .int v1]) (rest := []) Value.int e rfl rfl rfl rfl rfl rfl (fun h => d_Y_blanks h ⟨rfl, rfl⟩) (fun z1 e => ?_)
  refine wp_p (j := J_Y_readSheet) 2 (pc' := 7) (lv' := [(2, .int z1), (0, .ref v0), (1, .int v1), (3, .int v3)]) (st' := []) rfl ?_
  have e := Option.some.inj e; subst e; exact wp_lv (lv' := [(0, .ref v0), (1, .int v1), (2, .int z1)]) rfl ⟨rfl, rfl, rfl, trivial⟩ c
noncomputable def k_Y_readSheet_69 (v0 : Nat) (v1 : Int32) (v2 : Int32) (v3 : Int32) (v4 : Int32) (g : g_S) : Option ((Int32 × g_S) ⊕ ((g_S) ⊕ (g_S))) :=
  if v4 < v3 then
    (vc g 112 v0 (M_Y_readRule v0 v2 v4 v3 g)).bind fun g1 =>
    k_Y_readSheet_83 v0 v1 v3 g1
  else
    k_Y_readSheet_83 v0 v1 v3 g
set_option maxRecDepth 20000 in
theorem x_Y_readSheet_69 {L : Nat} {xs : Nat → Int32} {Q : Option Value → ab_H → Prop} {v0 : Nat} {v1 : Int32} {v2 : Int32} {v3 : Int32} {v4 : Int32} {g : g_S} {out : (Int32 × g_S) ⊕ ((g_S) ⊕ (g_S))} (e : k_Y_readSheet_69 v0 v1 v2 v3 v4 g = some out) (c : cL_Y_readSheet_7 L xs Q v0 v1 out) : wp (ab_ext L xs) J_Y_readSheet 69 [(0, .ref v0), (1, .int v1), (2, .int v2), (3, .int v3), (4, .int v4)] [] (hp g) Q := by
  unfold k_Y_readSheet_69 at e
  refine wp_p (j := J_Y_readSheet) 2 (pc' := 72) (lv' := [(0, .ref v0), (1, .int v1), (2, .int v2), (3, .int v3), (4, .int v4)]) (st' := [.int v3, .int v4]) rfl ?_
  refine x_ge e rfl (fun e => ?_) (fun e => ?_)
  · refine wp_p (j := J_Y_readSheet) 4 (pc' := 80) (lv' := [(0, .ref v0), (1, .int v1), (2, .int v2), (3, .int v3), (4, .int v4)]) (st' := [.int v3, .int v4, .int v2, .ref v0]) rfl ?_
    refine x_cv0 (As := [.int v2, .int v4, .int v3]) (rest := []) e rfl rfl rfl rfl rfl rfl (fun h => d_Y_readRule h ⟨rfl, rfl⟩) (fun g1 e => ?_)
    exact wp_lv (lv' := [(0, .ref v0), (1, .int v1), (3, .int v3)]) rfl ⟨rfl, rfl, rfl, trivial⟩ (x_Y_readSheet_83 e c)
  · exact wp_lv (lv' := [(0, .ref v0), (1, .int v1), (3, .int v3)]) rfl ⟨rfl, rfl, rfl, trivial⟩ (x_Y_readSheet_83 e c)
noncomputable def k_Y_readSheet_36 (v0 : Nat) (v1 : Int32) (v2 : Int32) (v3 : Int32) (g : g_S) : Option ((Int32 × g_S) ⊕ ((g_S) ⊕ (g_S))) :=
  if v3 = v1 then
    some (.inr (.inl g))
  else
    (L_Y_readSheet_45 v0 v1 v2 v3 v2 g).bind <| fun z3 =>
    k_Y_readSheet_69 v0 v1 v2 v3 z3 g
set_option maxRecDepth 20000 in
theorem x_Y_readSheet_36 {L : Nat} {xs : Nat → Int32} {Q : Option Value → ab_H → Prop} {v0 : Nat} {v1 : Int32} {v2 : Int32} {v3 : Int32} {g : g_S} {out : (Int32 × g_S) ⊕ ((g_S) ⊕ (g_S))} (e : k_Y_readSheet_36 v0 v1 v2 v3 g = some out) (c : cL_Y_readSheet_7 L xs Q v0 v1 out) : wp (ab_ext L xs) J_Y_readSheet 36 [(0, .ref v0), (1, .int v1), (2, .int v2), (3, .int v3)] [] (hp g) Q := by
  unfold k_Y_readSheet_36 at e
  refine wp_p (j := J_Y_readSheet) 2 (pc' := 38) (lv' := [(0, .ref v0), (1, .int v1), (2, .int v2), (3, .int v3)]) (st' := [.int v1, .int v3]) rfl ?_
  refine x_ne e rfl (fun e => ?_) (fun e => ?_)
  · have e := Option.some.inj e; subst e; exact wp_lv (lv' := []) rfl trivial c
  · refine wp_p (j := J_Y_readSheet) 2 (pc' := 45) (lv' := [(4, .int v2), (0, .ref v0), (1, .int v1), (2, .int v2), (3, .int v3)]) (st' := []) rfl ?_
    obtain ⟨z3, h2, e⟩ := bd e
    refine wp_lv (lv' := [(0, .ref v0), (1, .int v1), (2, .int v2), (3, .int v3), (4, .int v2)]) rfl ⟨rfl, rfl, rfl, rfl, rfl, trivial⟩ ?_
    refine l_Y_readSheet_45 h2 ?_
    show wp (ab_ext L xs) J_Y_readSheet 69 [(0, .ref v0), (1, .int v1), (2, .int v2), (3, .int v3), (4, .int z3)] [] (hp g) Q
    exact wp_lv (lv' := [(0, .ref v0), (1, .int v1), (2, .int v2), (3, .int v3), (4, .int z3)]) rfl ⟨rfl, rfl, rfl, rfl, rfl, trivial⟩ (x_Y_readSheet_69 e c)
noncomputable def b_Y_readSheet_7 (v0 : Nat) (v1 : Int32) (v2 : Int32) (g : g_S) : Option ((Int32 × g_S) ⊕ ((g_S) ⊕ (g_S))) :=
  if v2 < v1 then
    (L_Y_readSheet_14 v0 v1 v2 v2 g).bind <| fun z3 =>
    k_Y_readSheet_36 v0 v1 v2 z3 g
  else
    some (.inr (.inr g))
set_option maxRecDepth 20000 in
theorem y_Y_readSheet_7 {L : Nat} {xs : Nat → Int32} {Q : Option Value → ab_H → Prop} {v0 : Nat} {v1 : Int32} {v2 : Int32} {g : g_S} {out : (Int32 × g_S) ⊕ ((g_S) ⊕ (g_S))} (e : b_Y_readSheet_7 v0 v1 v2 g = some out) (c : cL_Y_readSheet_7 L xs Q v0 v1 out) : wp (ab_ext L xs) J_Y_readSheet 7 [(0, .ref v0), (1, .int v1), (2, .int v2)] [] (hp g) Q := by
  unfold b_Y_readSheet_7 at e
  refine wp_p (j := J_Y_readSheet) 2 (pc' := 9) (lv' := [(0, .ref v0), (1, .int v1), (2, .int v2)]) (st' := [.int v1, .int v2]) rfl ?_
  refine x_ge e rfl (fun e => ?_) (fun e => ?_)
  · refine wp_p (j := J_Y_readSheet) 2 (pc' := 14) (lv' := [(3, .int v2), (0, .ref v0), (1, .int v1), (2, .int v2)]) (st' := []) rfl ?_
    obtain ⟨z3, h2, e⟩ := bd e
    refine wp_lv (lv' := [(0, .ref v0), (1, .int v1), (2, .int v2), (3, .int v2)]) rfl ⟨rfl, rfl, rfl, rfl, trivial⟩ ?_
    refine l_Y_readSheet_14 h2 ?_
    show wp (ab_ext L xs) J_Y_readSheet 36 [(0, .ref v0), (1, .int v1), (2, .int v2), (3, .int z3)] [] (hp g) Q
    exact wp_lv (lv' := [(0, .ref v0), (1, .int v1), (2, .int v2), (3, .int z3)]) rfl ⟨rfl, rfl, rfl, rfl, trivial⟩ (x_Y_readSheet_36 e c)
  · have e := Option.some.inj e; subst e; exact wp_lv (lv' := []) rfl trivial c
noncomputable def L_Y_readSheet_7 (v0 : Nat) (v1 : Int32) (v2 : Int32) (g : g_S) : Option ((g_S) ⊕ (g_S)) := it (fun s : Int32 × g_S => b_Y_readSheet_7 v0 v1 s.1 s.2) (v2, g)
theorem l_Y_readSheet_7 {L : Nat} {xs : Nat → Int32} {Q : Option Value → ab_H → Prop} {v0 : Nat} {v1 : Int32} {v2 : Int32} {g : g_S} {r : (g_S) ⊕ (g_S)} (e : L_Y_readSheet_7 v0 v1 v2 g = some r) (c : cL_Y_readSheet_7 L xs Q v0 v1 (.inr r)) : wp (ab_ext L xs) J_Y_readSheet 7 [(0, .ref v0), (1, .int v1), (2, .int v2)] [] (hp g) Q :=
  it_wp (P := fun s : Int32 × g_S => wp (ab_ext L xs) J_Y_readSheet 7 [(0, .ref v0), (1, .int v1), (2, .int s.1)] [] (hp s.2) Q) (E := fun r => cL_Y_readSheet_7 L xs Q v0 v1 (.inr r)) (fun s out e c => y_Y_readSheet_7 e (by cases out <;> exact c)) e c
theorem L_Y_readSheet_7_eq (v0 : Nat) (v1 : Int32) (v2 : Int32) (g : g_S) : L_Y_readSheet_7 v0 v1 v2 g = itc (b_Y_readSheet_7 v0 v1 v2 g) (fun s => L_Y_readSheet_7 v0 v1 s.1 s.2) := it_eq2 (fun s : Int32 × g_S => b_Y_readSheet_7 v0 v1 s.1 s.2) (v2, g)
noncomputable def M_Y_readSheet (v0 : Nat) (v1 : Int32) (g : g_S) : Option g_S :=
  (vc g 112 v0 (M_Y_blanks v0 0 v1 g)).bind fun z1 =>
  (L_Y_readSheet_7 v0 v1 z1 g).bind <|
    us (fun g4 =>
    some g4)
    (fun g5 =>
    some g5)
set_option maxRecDepth 20000 in
theorem d_Y_readSheet {L : Nat} {xs : Nat → Int32} {Q : Option Value → ab_H → Prop} {v0 : Nat} {v1 : Int32} {g : g_S} {out : g_S} (e : M_Y_readSheet v0 v1 g = some out) (c : Q none (hp out)) : mw (ab_ext L xs) J_Y_readSheet [.ref v0, .int v1] (hp g) Q := by
  unfold M_Y_readSheet at e
  refine wp_p (j := J_Y_readSheet) 3 (pc' := 3) (lv' := [(0, .ref v0), (1, .int v1)]) (st' := [.int v1, .int 0, .ref v0]) rfl ?_
  refine x_cv1 (As := [.int 0, .int v1]) (rest := []) Value.int e rfl rfl rfl rfl rfl rfl (fun h => d_Y_blanks h ⟨rfl, rfl⟩) (fun z1 e => ?_)
  refine wp_p (j := J_Y_readSheet) 1 (pc' := 7) (lv' := [(2, .int z1), (0, .ref v0), (1, .int v1)]) (st' := []) rfl ?_
  obtain ⟨s2, h3, e⟩ := bd e
  refine wp_lv (lv' := [(0, .ref v0), (1, .int v1), (2, .int z1)]) rfl ⟨rfl, rfl, rfl, trivial⟩ ?_
  refine l_Y_readSheet_7 h3 ?_
  rcases s2 with g4 | g5
  · replace e := (us_l e)
    show wp (ab_ext L xs) J_Y_readSheet 41 [] [] (hp g4) Q
    have e := Option.some.inj e; subst e; exact wp_vret rfl rfl c
  · replace e := (us_r e)
    show wp (ab_ext L xs) J_Y_readSheet 95 [] [] (hp g5) Q
    have e := Option.some.inj e; subst e; exact wp_vret rfl rfl c
def cL_Y_readStyles_44 (L : Nat) (xs : Nat → Int32) (Q : Option Value → ab_H → Prop) (v0 : Nat) (v1 : Int32) (out : (Int32 × g_S) ⊕ (g_S)) : Prop := match out with
  | .inl s => wp (ab_ext L xs) J_Y_readStyles 44 [(0, .ref v0), (1, .int v1), (2, .int s.1)] [] (hp s.2) Q
  | .inr s => wp (ab_ext L xs) J_Y_readStyles 78 [(0, .ref v0), (1, .int v1)] [] (hp s) Q
noncomputable def b_Y_readStyles_44 (v0 : Nat) (v1 : Int32) (v2 : Int32) (g : g_S) : Option ((Int32 × g_S) ⊕ (g_S)) :=
  (rQ g 112 v0 62).bind fun z1 =>
  (aI g 0 z1 v1).bind fun z2 =>
  if v2 < z2 then
    (rQ g 112 v0 101).bind fun z3 =>
    (rQ g 112 v0 61).bind fun z4 =>
    (aI g 1 z4 ((400 * v1) + v2)).bind fun z5 =>
    (sB g z3 v2 z5).bind fun g6 =>
    some (.inl (v2 + 1, g6))
  else
    some (.inr g)
set_option maxRecDepth 20000 in
theorem y_Y_readStyles_44 {L : Nat} {xs : Nat → Int32} {Q : Option Value → ab_H → Prop} {v0 : Nat} {v1 : Int32} {v2 : Int32} {g : g_S} {out : (Int32 × g_S) ⊕ (g_S)} (e : b_Y_readStyles_44 v0 v1 v2 g = some out) (c : cL_Y_readStyles_44 L xs Q v0 v1 out) : wp (ab_ext L xs) J_Y_readStyles 44 [(0, .ref v0), (1, .int v1), (2, .int v2)] [] (hp g) Q := by
  unfold b_Y_readStyles_44 at e
  refine wp_p (j := J_Y_readStyles) 2 (pc' := 46) (lv' := [(0, .ref v0), (1, .int v1), (2, .int v2)]) (st' := [.ref v0, .int v2]) rfl ?_
  refine x_gQ e rfl rfl fd_12_62 rfl (fun z1 e => ?_)
  refine wp_p (j := J_Y_readStyles) 1 (pc' := 50) (lv' := [(0, .ref v0), (1, .int v1), (2, .int v2)]) (st' := [.int v1, .ref z1, .int v2]) rfl ?_
  refine x_aI e rfl rfl (fun z2 e => ?_)
  refine x_ge e rfl (fun e => ?_) (fun e => ?_)
  · refine wp_p (j := J_Y_readStyles) 1 (pc' := 55) (lv' := [(0, .ref v0), (1, .int v1), (2, .int v2)]) (st' := [.ref v0]) rfl ?_
    refine x_gQ e rfl rfl fd_12_101 rfl (fun z3 e => ?_)
    refine wp_p (j := J_Y_readStyles) 2 (pc' := 60) (lv' := [(0, .ref v0), (1, .int v1), (2, .int v2)]) (st' := [.ref v0, .int v2, .ref z3]) rfl ?_
    refine x_gQ e rfl rfl fd_12_61 rfl (fun z4 e => ?_)
    refine wp_p (j := J_Y_readStyles) 5 (pc' := 70) (lv' := [(0, .ref v0), (1, .int v1), (2, .int v2)]) (st' := [.int ((400 * v1) + v2), .ref z4, .int v2, .ref z3]) rfl ?_
    refine x_aB e rfl (.inl rfl) rfl (fun z5 e => ?_)
    refine x_sB e rfl rfl (fun g6 e => ?_)
    refine wp_p (j := J_Y_readStyles) 2 (pc' := 44) (lv' := [(2, .int (v2 + 1)), (0, .ref v0), (1, .int v1)]) (st' := []) rfl ?_
    have e := Option.some.inj e; subst e; exact wp_lv (lv' := [(0, .ref v0), (1, .int v1), (2, .int (v2 + 1))]) rfl ⟨rfl, rfl, rfl, trivial⟩ c
  · have e := Option.some.inj e; subst e; exact wp_lv (lv' := [(0, .ref v0), (1, .int v1)]) rfl ⟨rfl, rfl, trivial⟩ c
noncomputable def L_Y_readStyles_44 (v0 : Nat) (v1 : Int32) (v2 : Int32) (g : g_S) : Option (g_S) := it (fun s : Int32 × g_S => b_Y_readStyles_44 v0 v1 s.1 s.2) (v2, g)
theorem l_Y_readStyles_44 {L : Nat} {xs : Nat → Int32} {Q : Option Value → ab_H → Prop} {v0 : Nat} {v1 : Int32} {v2 : Int32} {g : g_S} {r : g_S} (e : L_Y_readStyles_44 v0 v1 v2 g = some r) (c : cL_Y_readStyles_44 L xs Q v0 v1 (.inr r)) : wp (ab_ext L xs) J_Y_readStyles 44 [(0, .ref v0), (1, .int v1), (2, .int v2)] [] (hp g) Q :=
  it_wp (P := fun s : Int32 × g_S => wp (ab_ext L xs) J_Y_readStyles 44 [(0, .ref v0), (1, .int v1), (2, .int s.1)] [] (hp s.2) Q) (E := fun r => cL_Y_readStyles_44 L xs Q v0 v1 (.inr r)) (fun s out e c => y_Y_readStyles_44 e (by cases out <;> exact c)) e c
theorem L_Y_readStyles_44_eq (v0 : Nat) (v1 : Int32) (v2 : Int32) (g : g_S) : L_Y_readStyles_44 v0 v1 v2 g = itc (b_Y_readStyles_44 v0 v1 v2 g) (fun s => L_Y_readStyles_44 v0 v1 s.1 s.2) := it_eq2 (fun s : Int32 × g_S => b_Y_readStyles_44 v0 v1 s.1 s.2) (v2, g)
def cL_Y_readStyles_7 (L : Nat) (xs : Nat → Int32) (Q : Option Value → ab_H → Prop) (v0 : Nat) (out : (Int32 × g_S) ⊕ (g_S)) : Prop := match out with
  | .inl s => wp (ab_ext L xs) J_Y_readStyles 7 [(0, .ref v0), (1, .int s.1)] [] (hp s.2) Q
  | .inr s => wp (ab_ext L xs) J_Y_readStyles 98 [] [] (hp s) Q
noncomputable def k_Y_readStyles_88 (v0 : Nat) (v1 : Int32) (g : g_S) : Option ((Int32 × g_S) ⊕ (g_S)) :=
  (vc g 112 v0 (M_Y_after v0 v1 0 g)).bind fun z1 =>
  some (.inl (z1, g))
set_option maxRecDepth 20000 in
theorem x_Y_readStyles_88 {L : Nat} {xs : Nat → Int32} {Q : Option Value → ab_H → Prop} {v0 : Nat} {v1 : Int32} {g : g_S} {out : (Int32 × g_S) ⊕ (g_S)} (e : k_Y_readStyles_88 v0 v1 g = some out) (c : cL_Y_readStyles_7 L xs Q v0 out) : wp (ab_ext L xs) J_Y_readStyles 88 [(0, .ref v0), (1, .int v1)] [] (hp g) Q := by
  unfold k_Y_readStyles_88 at e
  refine wp_p (j := J_Y_readStyles) 3 (pc' := 91) (lv' := [(0, .ref v0), (1, .int v1)]) (st' := [.int 0, .int v1, .ref v0]) rfl ?_
  refine x_cv1 (As := [.int v1, .int 0]) (rest := []) Value.int e rfl rfl rfl rfl rfl rfl (fun h => d_Y_after h ⟨rfl, rfl⟩) (fun z1 e => ?_)
  refine wp_p (j := J_Y_readStyles) 2 (pc' := 7) (lv' := [(1, .int z1), (0, .ref v0)]) (st' := []) rfl ?_
  have e := Option.some.inj e; subst e; exact wp_lv (lv' := [(0, .ref v0), (1, .int z1)]) rfl ⟨rfl, rfl, trivial⟩ c
noncomputable def b_Y_readStyles_7 (v0 : Nat) (v1 : Int32) (g : g_S) : Option ((Int32 × g_S) ⊕ (g_S)) :=
  if v1 = (-1) then
    some (.inr g)
  else
    (rQ g 112 v0 46).bind fun z1 =>
    (aI g 0 z1 v1).bind fun z2 =>
    if z2 = 17 then
      (rQ g 112 v0 46).bind fun z3 =>
      (rQ g 112 v0 49).bind fun z4 =>
      (aI g 0 z4 v1).bind fun z5 =>
      (aI g 0 z3 z5).bind fun z6 =>
      if z6 = 15 then
        (L_Y_readStyles_44 v0 v1 0 g).bind <| fun g9 =>
        (rQ g9 112 v0 62).bind fun z10 =>
        (aI g9 0 z10 v1).bind fun z11 =>
        (vc g9 112 v0 (M_Y_readSheet v0 z11 g9)).bind fun g12 =>
        k_Y_readStyles_88 v0 v1 g12
      else
        k_Y_readStyles_88 v0 v1 g
    else
      k_Y_readStyles_88 v0 v1 g
set_option maxRecDepth 20000 in
theorem y_Y_readStyles_7 {L : Nat} {xs : Nat → Int32} {Q : Option Value → ab_H → Prop} {v0 : Nat} {v1 : Int32} {g : g_S} {out : (Int32 × g_S) ⊕ (g_S)} (e : b_Y_readStyles_7 v0 v1 g = some out) (c : cL_Y_readStyles_7 L xs Q v0 out) : wp (ab_ext L xs) J_Y_readStyles 7 [(0, .ref v0), (1, .int v1)] [] (hp g) Q := by
  unfold b_Y_readStyles_7 at e
  refine wp_p (j := J_Y_readStyles) 2 (pc' := 9) (lv' := [(0, .ref v0), (1, .int v1)]) (st' := [.int (-1), .int v1]) rfl ?_
  refine x_eq e rfl (fun e => ?_) (fun e => ?_)
  · have e := Option.some.inj e; subst e; exact wp_lv (lv' := []) rfl trivial c
  · refine wp_p (j := J_Y_readStyles) 1 (pc' := 13) (lv' := [(0, .ref v0), (1, .int v1)]) (st' := [.ref v0]) rfl ?_
    refine x_gQ e rfl rfl fd_12_46 rfl (fun z1 e => ?_)
    refine wp_p (j := J_Y_readStyles) 1 (pc' := 17) (lv' := [(0, .ref v0), (1, .int v1)]) (st' := [.int v1, .ref z1]) rfl ?_
    refine x_aI e rfl rfl (fun z2 e => ?_)
    refine wp_p (j := J_Y_readStyles) 1 (pc' := 20) (lv' := [(0, .ref v0), (1, .int v1)]) (st' := [.int 17, .int z2]) rfl ?_
    refine x_ne e rfl (fun e => ?_) (fun e => ?_)
    · refine wp_p (j := J_Y_readStyles) 1 (pc' := 24) (lv' := [(0, .ref v0), (1, .int v1)]) (st' := [.ref v0]) rfl ?_
      refine x_gQ e rfl rfl fd_12_46 rfl (fun z3 e => ?_)
      refine wp_p (j := J_Y_readStyles) 1 (pc' := 28) (lv' := [(0, .ref v0), (1, .int v1)]) (st' := [.ref v0, .ref z3]) rfl ?_
      refine x_gQ e rfl rfl fd_12_49 rfl (fun z4 e => ?_)
      refine wp_p (j := J_Y_readStyles) 1 (pc' := 32) (lv' := [(0, .ref v0), (1, .int v1)]) (st' := [.int v1, .ref z4, .ref z3]) rfl ?_
      refine x_aI e rfl rfl (fun z5 e => ?_)
      refine x_aI e rfl rfl (fun z6 e => ?_)
      refine wp_p (j := J_Y_readStyles) 1 (pc' := 36) (lv' := [(0, .ref v0), (1, .int v1)]) (st' := [.int 15, .int z6]) rfl ?_
      refine x_eq e rfl (fun e => ?_) (fun e => ?_)
      · refine wp_p (j := J_Y_readStyles) 2 (pc' := 44) (lv' := [(2, .int 0), (0, .ref v0), (1, .int v1)]) (st' := []) rfl ?_
        obtain ⟨g9, h8, e⟩ := bd e
        refine wp_lv (lv' := [(0, .ref v0), (1, .int v1), (2, .int 0)]) rfl ⟨rfl, rfl, rfl, trivial⟩ ?_
        refine l_Y_readStyles_44 h8 ?_
        show wp (ab_ext L xs) J_Y_readStyles 78 [(0, .ref v0), (1, .int v1)] [] (hp g9) Q
        refine wp_p (j := J_Y_readStyles) 2 (pc' := 80) (lv' := [(0, .ref v0), (1, .int v1)]) (st' := [.ref v0, .ref v0]) rfl ?_
        refine x_gQ e rfl rfl fd_12_62 rfl (fun z10 e => ?_)
        refine wp_p (j := J_Y_readStyles) 1 (pc' := 84) (lv' := [(0, .ref v0), (1, .int v1)]) (st' := [.int v1, .ref z10, .ref v0]) rfl ?_
        refine x_aI e rfl rfl (fun z11 e => ?_)
        refine x_cv0 (As := [.int z11]) (rest := []) e rfl rfl rfl rfl rfl rfl (fun h => d_Y_readSheet h ⟨rfl, rfl⟩) (fun g12 e => ?_)
        exact wp_lv (lv' := [(0, .ref v0), (1, .int v1)]) rfl ⟨rfl, rfl, trivial⟩ (x_Y_readStyles_88 e c)
      · refine wp_p (j := J_Y_readStyles) 1 (pc' := 88) (lv' := [(0, .ref v0), (1, .int v1)]) (st' := []) rfl ?_
        exact wp_lv (lv' := [(0, .ref v0), (1, .int v1)]) rfl ⟨rfl, rfl, trivial⟩ (x_Y_readStyles_88 e c)
    · exact wp_lv (lv' := [(0, .ref v0), (1, .int v1)]) rfl ⟨rfl, rfl, trivial⟩ (x_Y_readStyles_88 e c)
noncomputable def L_Y_readStyles_7 (v0 : Nat) (v1 : Int32) (g : g_S) : Option (g_S) := it (fun s : Int32 × g_S => b_Y_readStyles_7 v0 s.1 s.2) (v1, g)
theorem l_Y_readStyles_7 {L : Nat} {xs : Nat → Int32} {Q : Option Value → ab_H → Prop} {v0 : Nat} {v1 : Int32} {g : g_S} {r : g_S} (e : L_Y_readStyles_7 v0 v1 g = some r) (c : cL_Y_readStyles_7 L xs Q v0 (.inr r)) : wp (ab_ext L xs) J_Y_readStyles 7 [(0, .ref v0), (1, .int v1)] [] (hp g) Q :=
  it_wp (P := fun s : Int32 × g_S => wp (ab_ext L xs) J_Y_readStyles 7 [(0, .ref v0), (1, .int s.1)] [] (hp s.2) Q) (E := fun r => cL_Y_readStyles_7 L xs Q v0 (.inr r)) (fun s out e c => y_Y_readStyles_7 e (by cases out <;> exact c)) e c
theorem L_Y_readStyles_7_eq (v0 : Nat) (v1 : Int32) (g : g_S) : L_Y_readStyles_7 v0 v1 g = itc (b_Y_readStyles_7 v0 v1 g) (fun s => L_Y_readStyles_7 v0 s.1 s.2) := it_eq2 (fun s : Int32 × g_S => b_Y_readStyles_7 v0 s.1 s.2) (v1, g)
noncomputable def M_Y_readStyles (v0 : Nat) (g : g_S) : Option g_S :=
  (wI g 112 v0 89 0).bind fun g1 =>
  (L_Y_readStyles_7 v0 0 g1).bind <| fun g4 =>
  some g4
set_option maxRecDepth 20000 in
theorem d_Y_readStyles {L : Nat} {xs : Nat → Int32} {Q : Option Value → ab_H → Prop} {v0 : Nat} {g : g_S} {out : g_S} (e : M_Y_readStyles v0 g = some out) (c : Q none (hp out)) : mw (ab_ext L xs) J_Y_readStyles [.ref v0] (hp g) Q := by
  unfold M_Y_readStyles at e
  refine wp_p (j := J_Y_readStyles) 2 (pc' := 2) (lv' := [(0, .ref v0)]) (st' := [.int 0, .ref v0]) rfl ?_
  refine x_pI e rfl rfl fw_12_89 rfl (fun g1 e => ?_)
  refine wp_p (j := J_Y_readStyles) 2 (pc' := 7) (lv' := [(1, .int 0), (0, .ref v0)]) (st' := []) rfl ?_
  obtain ⟨g4, h3, e⟩ := bd e
  refine wp_lv (lv' := [(0, .ref v0), (1, .int 0)]) rfl ⟨rfl, rfl, trivial⟩ ?_
  refine l_Y_readStyles_7 h3 ?_
  show wp (ab_ext L xs) J_Y_readStyles 98 [] [] (hp g4) Q
  have e := Option.some.inj e; subst e; exact wp_vret rfl rfl c
noncomputable def M_Y_of (v0 : Nat) (v1 : Int32) (v2 : Int32) (g : g_S) : Option Int32 :=
  (rQ g 112 v0 105).bind fun z1 =>
  (aI g 0 z1 ((11 * v1) + v2)).bind fun z2 =>
  some z2
set_option maxRecDepth 20000 in
theorem d_Y_of {L : Nat} {xs : Nat → Int32} {Q : Option Value → ab_H → Prop} {v0 : Nat} {v1 : Int32} {v2 : Int32} {g : g_S} {out : Int32} (e : M_Y_of v0 v1 v2 g = some out) (c : Q (some (.int out)) (hp g)) : mw (ab_ext L xs) J_Y_of [.ref v0, .int v1, .int v2] (hp g) Q := by
  unfold M_Y_of at e
  refine wp_p (j := J_Y_of) 1 (pc' := 1) (lv' := [(0, .ref v0), (1, .int v1), (2, .int v2)]) (st' := [.ref v0]) rfl ?_
  refine x_gQ e rfl rfl fd_12_105 rfl (fun z1 e => ?_)
  refine wp_p (j := J_Y_of) 5 (pc' := 10) (lv' := [(0, .ref v0), (1, .int v1), (2, .int v2)]) (st' := [.int ((11 * v1) + v2), .ref z1]) rfl ?_
  refine x_aI e rfl rfl (fun z2 e => ?_)
  have e := Option.some.inj e; subst e; exact wp_iret (ty := .int) rfl rfl rfl c
noncomputable def M_Y_first (v0 : Nat) (v1 : Int32) (v2 : Int32) (g : g_S) : Option Int32 :=
  (rQ g 112 v0 46).bind fun z1 =>
  (aI g 0 z1 v1).bind fun z2 =>
  if v2 = 0 then
    if z2 = 15 then
      some 2
    else
      (M_Y_isBlockTag z2 g).bind fun z4 =>
      if z4 = 0 then
        some 1
      else
        some 0
  else if v2 = 1 then
    if v1 = 0 then
      some 63
    else
      (rQ g 112 v0 49).bind fun z6 =>
      (aI g 0 z6 v1).bind fun z7 =>
      (vc g 112 v0 (M_Y_of v0 z7 1 g)).bind fun z8 =>
      some z8
  else if v2 = 2 then
    some (-1)
  else if v2 = 3 then
    if z2 = 1 then
      some 2
    else
      if z2 = 2 then
        some 2
      else
        if z2 = 3 then
          some 2
        else
          some 0
  else if v2 = 4 then
    if z2 = 3 then
      some 4
    else
      if z2 = 14 then
        some 1
      else
        some 0
  else if v2 = 5 then
    if z2 = 14 then
      some 1
    else
      if z2 = 13 then
        some 1
      else
        if z2 = 11 then
          some 1
        else
          some 0
  else if v2 = 6 then
    some (-1)
  else if v2 = 7 then
    some (-1)
  else if v2 = 8 then
    if z2 = 2 then
      some 2
    else
      if v1 = 0 then
        some 1
      else
        (rQ g 112 v0 49).bind fun z16 =>
        (aI g 0 z16 v1).bind fun z17 =>
        (vc g 112 v0 (M_Y_of v0 z17 8 g)).bind fun z18 =>
        some z18
  else if v2 = 9 then
    if v1 = 0 then
      some 0
    else
      (rQ g 112 v0 49).bind fun z20 =>
      (aI g 0 z20 v1).bind fun z21 =>
      (vc g 112 v0 (M_Y_of v0 z21 9 g)).bind fun z22 =>
      some z22
  else
    some 0
set_option maxRecDepth 20000 in
theorem d_Y_first {L : Nat} {xs : Nat → Int32} {Q : Option Value → ab_H → Prop} {v0 : Nat} {v1 : Int32} {v2 : Int32} {g : g_S} {out : Int32} (e : M_Y_first v0 v1 v2 g = some out) (c : Q (some (.int out)) (hp g)) : mw (ab_ext L xs) J_Y_first [.ref v0, .int v1, .int v2] (hp g) Q := by
  unfold M_Y_first at e
  refine wp_p (j := J_Y_first) 1 (pc' := 1) (lv' := [(0, .ref v0), (1, .int v1), (2, .int v2)]) (st' := [.ref v0]) rfl ?_
  refine x_gQ e rfl rfl fd_12_46 rfl (fun z1 e => ?_)
  refine wp_p (j := J_Y_first) 1 (pc' := 5) (lv' := [(0, .ref v0), (1, .int v1), (2, .int v2)]) (st' := [.int v1, .ref z1]) rfl ?_
  refine x_aI e rfl rfl (fun z2 e => ?_)
  refine wp_p (j := J_Y_first) 2 (pc' := 8) (lv' := [(3, .int z2), (0, .ref v0), (1, .int v1), (2, .int v2)]) (st' := [.int v2]) rfl ?_
  refine x_if e (fun h3 e => ?_) (fun h3 e => ?_)
  · refine x_sw (cst := 0) (pc' := 64) (rest := []) h3 rfl rfl rfl ?_
    refine wp_p (j := J_Y_first) 2 (pc' := 67) (lv' := [(3, .int z2), (0, .ref v0), (1, .int v1), (2, .int v2)]) (st' := [.int 15, .int z2]) rfl ?_
    refine x_ne e rfl (fun e => ?_) (fun e => ?_)
    · refine wp_p (j := J_Y_first) 2 (pc' := 86) (lv' := [(3, .int z2), (0, .ref v0), (1, .int v1), (2, .int v2)]) (st' := [.int 2]) rfl ?_
      have e := Option.some.inj e; subst e; exact wp_iret (ty := .int) rfl rfl rfl c
    · refine wp_p (j := J_Y_first) 1 (pc' := 75) (lv' := [(3, .int z2), (0, .ref v0), (1, .int v1), (2, .int v2)]) (st' := [.int z2]) rfl ?_
      refine x_cs1 (As := [.int z2]) (rest := []) Value.int e rfl rfl rfl rfl rfl (fun h => d_Y_isBlockTag h ⟨rfl, rfl⟩) (fun z4 e => ?_)
      refine z_eq e rfl (fun e => ?_) (fun e => ?_)
      · refine wp_p (j := J_Y_first) 1 (pc' := 86) (lv' := [(3, .int z2), (0, .ref v0), (1, .int v1), (2, .int v2)]) (st' := [.int 1]) rfl ?_
        have e := Option.some.inj e; subst e; exact wp_iret (ty := .int) rfl rfl rfl c
      · refine wp_p (j := J_Y_first) 2 (pc' := 86) (lv' := [(3, .int z2), (0, .ref v0), (1, .int v1), (2, .int v2)]) (st' := [.int 0]) rfl ?_
        have e := Option.some.inj e; subst e; exact wp_iret (ty := .int) rfl rfl rfl c
  refine x_if e (fun h5 e => ?_) (fun h5 e => ?_)
  · refine x_sw (cst := 1) (pc' := 87) (rest := []) h5 rfl rfl rfl ?_
    refine wp_p (j := J_Y_first) 1 (pc' := 88) (lv' := [(3, .int z2), (0, .ref v0), (1, .int v1), (2, .int v2)]) (st' := [.int v1]) rfl ?_
    refine z_ne e rfl (fun e => ?_) (fun e => ?_)
    · refine wp_p (j := J_Y_first) 2 (pc' := 107) (lv' := [(3, .int z2), (0, .ref v0), (1, .int v1), (2, .int v2)]) (st' := [.int 63]) rfl ?_
      have e := Option.some.inj e; subst e; exact wp_iret (ty := .int) rfl rfl rfl c
    · refine wp_p (j := J_Y_first) 2 (pc' := 98) (lv' := [(3, .int z2), (0, .ref v0), (1, .int v1), (2, .int v2)]) (st' := [.ref v0, .ref v0]) rfl ?_
      refine x_gQ e rfl rfl fd_12_49 rfl (fun z6 e => ?_)
      refine wp_p (j := J_Y_first) 1 (pc' := 102) (lv' := [(3, .int z2), (0, .ref v0), (1, .int v1), (2, .int v2)]) (st' := [.int v1, .ref z6, .ref v0]) rfl ?_
      refine x_aI e rfl rfl (fun z7 e => ?_)
      refine wp_p (j := J_Y_first) 1 (pc' := 104) (lv' := [(3, .int z2), (0, .ref v0), (1, .int v1), (2, .int v2)]) (st' := [.int 1, .int z7, .ref v0]) rfl ?_
      refine x_cv1 (As := [.int z7, .int 1]) (rest := []) Value.int e rfl rfl rfl rfl rfl rfl (fun h => d_Y_of h ⟨rfl, rfl⟩) (fun z8 e => ?_)
      have e := Option.some.inj e; subst e; exact wp_iret (ty := .int) rfl rfl rfl c
  refine x_if e (fun h9 e => ?_) (fun h9 e => ?_)
  · refine x_sw (cst := 2) (pc' := 108) (rest := []) h9 rfl rfl rfl ?_
    refine wp_p (j := J_Y_first) 1 (pc' := 109) (lv' := [(3, .int z2), (0, .ref v0), (1, .int v1), (2, .int v2)]) (st' := [.int (-1)]) rfl ?_
    have e := Option.some.inj e; subst e; exact wp_iret (ty := .int) rfl rfl rfl c
  refine x_if e (fun h10 e => ?_) (fun h10 e => ?_)
  · refine x_sw (cst := 3) (pc' := 110) (rest := []) h10 rfl rfl rfl ?_
    refine wp_p (j := J_Y_first) 2 (pc' := 112) (lv' := [(3, .int z2), (0, .ref v0), (1, .int v1), (2, .int v2)]) (st' := [.int 1, .int z2]) rfl ?_
    refine x_eq e rfl (fun e => ?_) (fun e => ?_)
    · refine wp_p (j := J_Y_first) 2 (pc' := 130) (lv' := [(3, .int z2), (0, .ref v0), (1, .int v1), (2, .int v2)]) (st' := [.int 2]) rfl ?_
      have e := Option.some.inj e; subst e; exact wp_iret (ty := .int) rfl rfl rfl c
    · refine wp_p (j := J_Y_first) 2 (pc' := 117) (lv' := [(3, .int z2), (0, .ref v0), (1, .int v1), (2, .int v2)]) (st' := [.int 2, .int z2]) rfl ?_
      refine x_eq e rfl (fun e => ?_) (fun e => ?_)
      · refine wp_p (j := J_Y_first) 2 (pc' := 130) (lv' := [(3, .int z2), (0, .ref v0), (1, .int v1), (2, .int v2)]) (st' := [.int 2]) rfl ?_
        have e := Option.some.inj e; subst e; exact wp_iret (ty := .int) rfl rfl rfl c
      · refine wp_p (j := J_Y_first) 2 (pc' := 122) (lv' := [(3, .int z2), (0, .ref v0), (1, .int v1), (2, .int v2)]) (st' := [.int 3, .int z2]) rfl ?_
        refine x_ne e rfl (fun e => ?_) (fun e => ?_)
        · refine wp_p (j := J_Y_first) 2 (pc' := 130) (lv' := [(3, .int z2), (0, .ref v0), (1, .int v1), (2, .int v2)]) (st' := [.int 2]) rfl ?_
          have e := Option.some.inj e; subst e; exact wp_iret (ty := .int) rfl rfl rfl c
        · refine wp_p (j := J_Y_first) 1 (pc' := 130) (lv' := [(3, .int z2), (0, .ref v0), (1, .int v1), (2, .int v2)]) (st' := [.int 0]) rfl ?_
          have e := Option.some.inj e; subst e; exact wp_iret (ty := .int) rfl rfl rfl c
  refine x_if e (fun h11 e => ?_) (fun h11 e => ?_)
  · refine x_sw (cst := 4) (pc' := 131) (rest := []) h11 rfl rfl rfl ?_
    refine wp_p (j := J_Y_first) 2 (pc' := 133) (lv' := [(3, .int z2), (0, .ref v0), (1, .int v1), (2, .int v2)]) (st' := [.int 3, .int z2]) rfl ?_
    refine x_ne e rfl (fun e => ?_) (fun e => ?_)
    · refine wp_p (j := J_Y_first) 2 (pc' := 151) (lv' := [(3, .int z2), (0, .ref v0), (1, .int v1), (2, .int v2)]) (st' := [.int 4]) rfl ?_
      have e := Option.some.inj e; subst e; exact wp_iret (ty := .int) rfl rfl rfl c
    · refine wp_p (j := J_Y_first) 2 (pc' := 143) (lv' := [(3, .int z2), (0, .ref v0), (1, .int v1), (2, .int v2)]) (st' := [.int 14, .int z2]) rfl ?_
      refine x_ne e rfl (fun e => ?_) (fun e => ?_)
      · refine wp_p (j := J_Y_first) 2 (pc' := 151) (lv' := [(3, .int z2), (0, .ref v0), (1, .int v1), (2, .int v2)]) (st' := [.int 1]) rfl ?_
        have e := Option.some.inj e; subst e; exact wp_iret (ty := .int) rfl rfl rfl c
      · refine wp_p (j := J_Y_first) 1 (pc' := 151) (lv' := [(3, .int z2), (0, .ref v0), (1, .int v1), (2, .int v2)]) (st' := [.int 0]) rfl ?_
        have e := Option.some.inj e; subst e; exact wp_iret (ty := .int) rfl rfl rfl c
  refine x_if e (fun h12 e => ?_) (fun h12 e => ?_)
  · refine x_sw (cst := 5) (pc' := 152) (rest := []) h12 rfl rfl rfl ?_
    refine wp_p (j := J_Y_first) 2 (pc' := 155) (lv' := [(3, .int z2), (0, .ref v0), (1, .int v1), (2, .int v2)]) (st' := [.int 14, .int z2]) rfl ?_
    refine x_eq e rfl (fun e => ?_) (fun e => ?_)
    · refine wp_p (j := J_Y_first) 2 (pc' := 175) (lv' := [(3, .int z2), (0, .ref v0), (1, .int v1), (2, .int v2)]) (st' := [.int 1]) rfl ?_
      have e := Option.some.inj e; subst e; exact wp_iret (ty := .int) rfl rfl rfl c
    · refine wp_p (j := J_Y_first) 2 (pc' := 161) (lv' := [(3, .int z2), (0, .ref v0), (1, .int v1), (2, .int v2)]) (st' := [.int 13, .int z2]) rfl ?_
      refine x_eq e rfl (fun e => ?_) (fun e => ?_)
      · refine wp_p (j := J_Y_first) 2 (pc' := 175) (lv' := [(3, .int z2), (0, .ref v0), (1, .int v1), (2, .int v2)]) (st' := [.int 1]) rfl ?_
        have e := Option.some.inj e; subst e; exact wp_iret (ty := .int) rfl rfl rfl c
      · refine wp_p (j := J_Y_first) 2 (pc' := 167) (lv' := [(3, .int z2), (0, .ref v0), (1, .int v1), (2, .int v2)]) (st' := [.int 11, .int z2]) rfl ?_
        refine x_ne e rfl (fun e => ?_) (fun e => ?_)
        · refine wp_p (j := J_Y_first) 2 (pc' := 175) (lv' := [(3, .int z2), (0, .ref v0), (1, .int v1), (2, .int v2)]) (st' := [.int 1]) rfl ?_
          have e := Option.some.inj e; subst e; exact wp_iret (ty := .int) rfl rfl rfl c
        · refine wp_p (j := J_Y_first) 1 (pc' := 175) (lv' := [(3, .int z2), (0, .ref v0), (1, .int v1), (2, .int v2)]) (st' := [.int 0]) rfl ?_
          have e := Option.some.inj e; subst e; exact wp_iret (ty := .int) rfl rfl rfl c
  refine x_if e (fun h13 e => ?_) (fun h13 e => ?_)
  · refine x_sw (cst := 6) (pc' := 108) (rest := []) h13 rfl rfl rfl ?_
    refine wp_p (j := J_Y_first) 1 (pc' := 109) (lv' := [(3, .int z2), (0, .ref v0), (1, .int v1), (2, .int v2)]) (st' := [.int (-1)]) rfl ?_
    have e := Option.some.inj e; subst e; exact wp_iret (ty := .int) rfl rfl rfl c
  refine x_if e (fun h14 e => ?_) (fun h14 e => ?_)
  · refine x_sw (cst := 7) (pc' := 108) (rest := []) h14 rfl rfl rfl ?_
    refine wp_p (j := J_Y_first) 1 (pc' := 109) (lv' := [(3, .int z2), (0, .ref v0), (1, .int v1), (2, .int v2)]) (st' := [.int (-1)]) rfl ?_
    have e := Option.some.inj e; subst e; exact wp_iret (ty := .int) rfl rfl rfl c
  refine x_if e (fun h15 e => ?_) (fun h15 e => ?_)
  · refine x_sw (cst := 8) (pc' := 176) (rest := []) h15 rfl rfl rfl ?_
    refine wp_p (j := J_Y_first) 2 (pc' := 178) (lv' := [(3, .int z2), (0, .ref v0), (1, .int v1), (2, .int v2)]) (st' := [.int 2, .int z2]) rfl ?_
    refine x_ne e rfl (fun e => ?_) (fun e => ?_)
    · refine wp_p (j := J_Y_first) 2 (pc' := 205) (lv' := [(3, .int z2), (0, .ref v0), (1, .int v1), (2, .int v2)]) (st' := [.int 2]) rfl ?_
      have e := Option.some.inj e; subst e; exact wp_iret (ty := .int) rfl rfl rfl c
    · refine wp_p (j := J_Y_first) 1 (pc' := 186) (lv' := [(3, .int z2), (0, .ref v0), (1, .int v1), (2, .int v2)]) (st' := [.int v1]) rfl ?_
      refine z_ne e rfl (fun e => ?_) (fun e => ?_)
      · refine wp_p (j := J_Y_first) 2 (pc' := 205) (lv' := [(3, .int z2), (0, .ref v0), (1, .int v1), (2, .int v2)]) (st' := [.int 1]) rfl ?_
        have e := Option.some.inj e; subst e; exact wp_iret (ty := .int) rfl rfl rfl c
      · refine wp_p (j := J_Y_first) 2 (pc' := 195) (lv' := [(3, .int z2), (0, .ref v0), (1, .int v1), (2, .int v2)]) (st' := [.ref v0, .ref v0]) rfl ?_
        refine x_gQ e rfl rfl fd_12_49 rfl (fun z16 e => ?_)
        refine wp_p (j := J_Y_first) 1 (pc' := 199) (lv' := [(3, .int z2), (0, .ref v0), (1, .int v1), (2, .int v2)]) (st' := [.int v1, .ref z16, .ref v0]) rfl ?_
        refine x_aI e rfl rfl (fun z17 e => ?_)
        refine wp_p (j := J_Y_first) 1 (pc' := 202) (lv' := [(3, .int z2), (0, .ref v0), (1, .int v1), (2, .int v2)]) (st' := [.int 8, .int z17, .ref v0]) rfl ?_
        refine x_cv1 (As := [.int z17, .int 8]) (rest := []) Value.int e rfl rfl rfl rfl rfl rfl (fun h => d_Y_of h ⟨rfl, rfl⟩) (fun z18 e => ?_)
        have e := Option.some.inj e; subst e; exact wp_iret (ty := .int) rfl rfl rfl c
  refine x_if e (fun h19 e => ?_) (fun h19 e => ?_)
  · refine x_sw (cst := 9) (pc' := 206) (rest := []) h19 rfl rfl rfl ?_
    refine wp_p (j := J_Y_first) 1 (pc' := 207) (lv' := [(3, .int z2), (0, .ref v0), (1, .int v1), (2, .int v2)]) (st' := [.int v1]) rfl ?_
    refine z_ne e rfl (fun e => ?_) (fun e => ?_)
    · refine wp_p (j := J_Y_first) 2 (pc' := 226) (lv' := [(3, .int z2), (0, .ref v0), (1, .int v1), (2, .int v2)]) (st' := [.int 0]) rfl ?_
      have e := Option.some.inj e; subst e; exact wp_iret (ty := .int) rfl rfl rfl c
    · refine wp_p (j := J_Y_first) 2 (pc' := 216) (lv' := [(3, .int z2), (0, .ref v0), (1, .int v1), (2, .int v2)]) (st' := [.ref v0, .ref v0]) rfl ?_
      refine x_gQ e rfl rfl fd_12_49 rfl (fun z20 e => ?_)
      refine wp_p (j := J_Y_first) 1 (pc' := 220) (lv' := [(3, .int z2), (0, .ref v0), (1, .int v1), (2, .int v2)]) (st' := [.int v1, .ref z20, .ref v0]) rfl ?_
      refine x_aI e rfl rfl (fun z21 e => ?_)
      refine wp_p (j := J_Y_first) 1 (pc' := 223) (lv' := [(3, .int z2), (0, .ref v0), (1, .int v1), (2, .int v2)]) (st' := [.int 9, .int z21, .ref v0]) rfl ?_
      refine x_cv1 (As := [.int z21, .int 9]) (rest := []) Value.int e rfl rfl rfl rfl rfl rfl (fun h => d_Y_of h ⟨rfl, rfl⟩) (fun z22 e => ?_)
      have e := Option.some.inj e; subst e; exact wp_iret (ty := .int) rfl rfl rfl c
  refine wp_b (pc' := 227) (st' := []) rfl rfl ((ts_d (x := v2) (lo := 0) 10 rfl ⟨h3, h5, h9, h10, h11, h12, h13, h14, h15, h19, trivial⟩).trans rfl) ?_
  refine wp_p (j := J_Y_first) 1 (pc' := 228) (lv' := [(3, .int z2), (0, .ref v0), (1, .int v1), (2, .int v2)]) (st' := [.int 0]) rfl ?_
  have e := Option.some.inj e; subst e; exact wp_iret (ty := .int) rfl rfl rfl c
noncomputable def M_Y_isPieceTag (v0 : Nat) (v1 : Int32) (g : g_S) : Option Int32 :=
  if v1 = 12 then
    some 1
  else
    if v1 = 13 then
      some 1
    else
      if v1 = 14 then
        some 1
      else
        some 0
set_option maxRecDepth 20000 in
theorem d_Y_isPieceTag {L : Nat} {xs : Nat → Int32} {Q : Option Value → ab_H → Prop} {v0 : Nat} {v1 : Int32} {g : g_S} {out : Int32} (e : M_Y_isPieceTag v0 v1 g = some out) (c : Q (some (.int out)) (hp g)) : mw (ab_ext L xs) J_Y_isPieceTag [.ref v0, .int v1] (hp g) Q := by
  unfold M_Y_isPieceTag at e
  refine wp_p (j := J_Y_isPieceTag) 2 (pc' := 3) (lv' := [(0, .ref v0), (1, .int v1)]) (st' := [.int 12, .int v1]) rfl ?_
  refine x_eq e rfl (fun e => ?_) (fun e => ?_)
  · refine wp_p (j := J_Y_isPieceTag) 2 (pc' := 23) (lv' := [(0, .ref v0), (1, .int v1)]) (st' := [.int 1]) rfl ?_
    have e := Option.some.inj e; subst e; exact wp_iret (ty := .boolean) rfl rfl (by decide) c
  · refine wp_p (j := J_Y_isPieceTag) 2 (pc' := 9) (lv' := [(0, .ref v0), (1, .int v1)]) (st' := [.int 13, .int v1]) rfl ?_
    refine x_eq e rfl (fun e => ?_) (fun e => ?_)
    · refine wp_p (j := J_Y_isPieceTag) 2 (pc' := 23) (lv' := [(0, .ref v0), (1, .int v1)]) (st' := [.int 1]) rfl ?_
      have e := Option.some.inj e; subst e; exact wp_iret (ty := .boolean) rfl rfl (by decide) c
    · refine wp_p (j := J_Y_isPieceTag) 2 (pc' := 15) (lv' := [(0, .ref v0), (1, .int v1)]) (st' := [.int 14, .int v1]) rfl ?_
      refine x_ne e rfl (fun e => ?_) (fun e => ?_)
      · refine wp_p (j := J_Y_isPieceTag) 2 (pc' := 23) (lv' := [(0, .ref v0), (1, .int v1)]) (st' := [.int 1]) rfl ?_
        have e := Option.some.inj e; subst e; exact wp_iret (ty := .boolean) rfl rfl (by decide) c
      · refine wp_p (j := J_Y_isPieceTag) 1 (pc' := 23) (lv' := [(0, .ref v0), (1, .int v1)]) (st' := [.int 0]) rfl ?_
        have e := Option.some.inj e; subst e; exact wp_iret (ty := .boolean) rfl rfl (by decide) c
def cL_Y_cascade_38 (L : Nat) (xs : Nat → Int32) (Q : Option Value → ab_H → Prop) (v0 : Nat) (v1 : Int32) (v2 : Int32) (g : g_S) (out : (Int32 × Int32) ⊕ (Int32)) : Prop := match out with
  | .inl s => wp (ab_ext L xs) J_Y_cascade 38 [(0, .ref v0), (1, .int v1), (2, .int v2), (3, .int s.1), (4, .int s.2)] [] (hp g) Q
  | .inr s => wp (ab_ext L xs) J_Y_cascade 140 [(0, .ref v0), (1, .int v1), (2, .int v2), (3, .int s)] [] (hp g) Q
noncomputable def k_Y_cascade_99 (v0 : Nat) (v1 : Int32) (v2 : Int32) (v3 : Int32) (v4 : Int32) (v5 : Int32) (w0 : Int32) (g : g_S) : Option ((Int32 × Int32) ⊕ (Int32)) :=
  if w0 < v5 then
    some (.inl (v4, v4 + 1))
  else
    if v5 = w0 then
      (rQ g 112 v0 97).bind fun z1 =>
      (aI g 0 z1 v4).bind fun z2 =>
      (rQ g 112 v0 97).bind fun z3 =>
      (aI g 0 z3 v3).bind fun z4 =>
      if z2 < z4 then
        some (.inl (v3, v4 + 1))
      else
        some (.inl (v4, v4 + 1))
    else
      some (.inl (v3, v4 + 1))
set_option maxRecDepth 20000 in
theorem x_Y_cascade_99 {L : Nat} {xs : Nat → Int32} {Q : Option Value → ab_H → Prop} {v0 : Nat} {v1 : Int32} {v2 : Int32} {v3 : Int32} {v4 : Int32} {v5 : Int32} {w0 : Int32} {g : g_S} {out : (Int32 × Int32) ⊕ (Int32)} (e : k_Y_cascade_99 v0 v1 v2 v3 v4 v5 w0 g = some out) (c : cL_Y_cascade_38 L xs Q v0 v1 v2 g out) : wp (ab_ext L xs) J_Y_cascade 99 [(0, .ref v0), (1, .int v1), (2, .int v2), (3, .int v3), (4, .int v4), (5, .int v5)] [.int w0] (hp g) Q := by
  unfold k_Y_cascade_99 at e
  refine wp_p (j := J_Y_cascade) 3 (pc' := 105) (lv' := [(6, .int w0), (0, .ref v0), (1, .int v1), (2, .int v2), (3, .int v3), (4, .int v4), (5, .int v5)]) (st' := [.int w0, .int v5]) rfl ?_
  refine x_gt e rfl (fun e => ?_) (fun e => ?_)
  · refine wp_p (j := J_Y_cascade) 4 (pc' := 38) (lv' := [(4, .int (v4 + 1)), (3, .int v4), (6, .int w0), (0, .ref v0), (1, .int v1), (2, .int v2), (5, .int v5)]) (st' := []) rfl ?_
    have e := Option.some.inj e; subst e; exact wp_lv (lv' := [(0, .ref v0), (1, .int v1), (2, .int v2), (3, .int v4), (4, .int (v4 + 1))]) rfl ⟨rfl, rfl, rfl, rfl, rfl, trivial⟩ c
  · refine wp_p (j := J_Y_cascade) 2 (pc' := 112) (lv' := [(6, .int w0), (0, .ref v0), (1, .int v1), (2, .int v2), (3, .int v3), (4, .int v4), (5, .int v5)]) (st' := [.int w0, .int v5]) rfl ?_
    refine x_ne e rfl (fun e => ?_) (fun e => ?_)
    · refine wp_p (j := J_Y_cascade) 1 (pc' := 116) (lv' := [(6, .int w0), (0, .ref v0), (1, .int v1), (2, .int v2), (3, .int v3), (4, .int v4), (5, .int v5)]) (st' := [.ref v0]) rfl ?_
      refine x_gQ e rfl rfl fd_12_97 rfl (fun z1 e => ?_)
      refine wp_p (j := J_Y_cascade) 1 (pc' := 121) (lv' := [(6, .int w0), (0, .ref v0), (1, .int v1), (2, .int v2), (3, .int v3), (4, .int v4), (5, .int v5)]) (st' := [.int v4, .ref z1]) rfl ?_
      refine x_aI e rfl rfl (fun z2 e => ?_)
      refine wp_p (j := J_Y_cascade) 1 (pc' := 123) (lv' := [(6, .int w0), (0, .ref v0), (1, .int v1), (2, .int v2), (3, .int v3), (4, .int v4), (5, .int v5)]) (st' := [.ref v0, .int z2]) rfl ?_
      refine x_gQ e rfl rfl fd_12_97 rfl (fun z3 e => ?_)
      refine wp_p (j := J_Y_cascade) 1 (pc' := 127) (lv' := [(6, .int w0), (0, .ref v0), (1, .int v1), (2, .int v2), (3, .int v3), (4, .int v4), (5, .int v5)]) (st' := [.int v3, .ref z3, .int z2]) rfl ?_
      refine x_aI e rfl rfl (fun z4 e => ?_)
      refine x_lt e rfl (fun e => ?_) (fun e => ?_)
      · refine wp_p (j := J_Y_cascade) 2 (pc' := 38) (lv' := [(4, .int (v4 + 1)), (6, .int w0), (0, .ref v0), (1, .int v1), (2, .int v2), (3, .int v3), (5, .int v5)]) (st' := []) rfl ?_
        have e := Option.some.inj e; subst e; exact wp_lv (lv' := [(0, .ref v0), (1, .int v1), (2, .int v2), (3, .int v3), (4, .int (v4 + 1))]) rfl ⟨rfl, rfl, rfl, rfl, rfl, trivial⟩ c
      · refine wp_p (j := J_Y_cascade) 4 (pc' := 38) (lv' := [(4, .int (v4 + 1)), (3, .int v4), (6, .int w0), (0, .ref v0), (1, .int v1), (2, .int v2), (5, .int v5)]) (st' := []) rfl ?_
        have e := Option.some.inj e; subst e; exact wp_lv (lv' := [(0, .ref v0), (1, .int v1), (2, .int v2), (3, .int v4), (4, .int (v4 + 1))]) rfl ⟨rfl, rfl, rfl, rfl, rfl, trivial⟩ c
    · refine wp_p (j := J_Y_cascade) 2 (pc' := 38) (lv' := [(4, .int (v4 + 1)), (6, .int w0), (0, .ref v0), (1, .int v1), (2, .int v2), (3, .int v3), (5, .int v5)]) (st' := []) rfl ?_
      have e := Option.some.inj e; subst e; exact wp_lv (lv' := [(0, .ref v0), (1, .int v1), (2, .int v2), (3, .int v3), (4, .int (v4 + 1))]) rfl ⟨rfl, rfl, rfl, rfl, rfl, trivial⟩ c
noncomputable def b_Y_cascade_38 (v0 : Nat) (v1 : Int32) (v2 : Int32) (v3 : Int32) (v4 : Int32) (g : g_S) : Option ((Int32 × Int32) ⊕ (Int32)) :=
  (rI g 112 v0 89).bind fun z1 =>
  if v4 < z1 then
    (rQ g 112 v0 99).bind fun z2 =>
    (aI g 0 z2 ((11 * v4) + v2)).bind fun z3 =>
    if z3 = 0 then
      some (.inl (v3, v4 + 1))
    else
      (vc g 112 v0 (M_Y_matches v0 v1 v4 g)).bind fun z4 =>
      if z4 = 0 then
        some (.inl (v3, v4 + 1))
      else
        if v3 = (-1) then
          k_Y_cascade_99 v0 v1 v2 v3 v4 z3 0 g
        else
          (rQ g 112 v0 99).bind fun z5 =>
          (aI g 0 z5 ((11 * v3) + v2)).bind fun z6 =>
          k_Y_cascade_99 v0 v1 v2 v3 v4 z3 z6 g
  else
    some (.inr v3)
set_option maxRecDepth 20000 in
theorem y_Y_cascade_38 {L : Nat} {xs : Nat → Int32} {Q : Option Value → ab_H → Prop} {v0 : Nat} {v1 : Int32} {v2 : Int32} {v3 : Int32} {v4 : Int32} {g : g_S} {out : (Int32 × Int32) ⊕ (Int32)} (e : b_Y_cascade_38 v0 v1 v2 v3 v4 g = some out) (c : cL_Y_cascade_38 L xs Q v0 v1 v2 g out) : wp (ab_ext L xs) J_Y_cascade 38 [(0, .ref v0), (1, .int v1), (2, .int v2), (3, .int v3), (4, .int v4)] [] (hp g) Q := by
  unfold b_Y_cascade_38 at e
  refine wp_p (j := J_Y_cascade) 2 (pc' := 41) (lv' := [(0, .ref v0), (1, .int v1), (2, .int v2), (3, .int v3), (4, .int v4)]) (st' := [.ref v0, .int v4]) rfl ?_
  refine x_gI e rfl rfl fd_12_89 rfl (fun z1 e => ?_)
  refine x_ge e rfl (fun e => ?_) (fun e => ?_)
  · refine wp_p (j := J_Y_cascade) 1 (pc' := 48) (lv' := [(0, .ref v0), (1, .int v1), (2, .int v2), (3, .int v3), (4, .int v4)]) (st' := [.ref v0]) rfl ?_
    refine x_gQ e rfl rfl fd_12_99 rfl (fun z2 e => ?_)
    refine wp_p (j := J_Y_cascade) 5 (pc' := 58) (lv' := [(0, .ref v0), (1, .int v1), (2, .int v2), (3, .int v3), (4, .int v4)]) (st' := [.int ((11 * v4) + v2), .ref z2]) rfl ?_
    refine x_aI e rfl rfl (fun z3 e => ?_)
    refine wp_p (j := J_Y_cascade) 2 (pc' := 63) (lv' := [(5, .int z3), (0, .ref v0), (1, .int v1), (2, .int v2), (3, .int v3), (4, .int v4)]) (st' := [.int z3]) rfl ?_
    refine z_eq e rfl (fun e => ?_) (fun e => ?_)
    · refine wp_p (j := J_Y_cascade) 2 (pc' := 38) (lv' := [(4, .int (v4 + 1)), (5, .int z3), (0, .ref v0), (1, .int v1), (2, .int v2), (3, .int v3)]) (st' := []) rfl ?_
      have e := Option.some.inj e; subst e; exact wp_lv (lv' := [(0, .ref v0), (1, .int v1), (2, .int v2), (3, .int v3), (4, .int (v4 + 1))]) rfl ⟨rfl, rfl, rfl, rfl, rfl, trivial⟩ c
    · refine wp_p (j := J_Y_cascade) 3 (pc' := 70) (lv' := [(5, .int z3), (0, .ref v0), (1, .int v1), (2, .int v2), (3, .int v3), (4, .int v4)]) (st' := [.int v4, .int v1, .ref v0]) rfl ?_
      refine x_cv1 (As := [.int v1, .int v4]) (rest := []) Value.int e rfl rfl rfl rfl rfl rfl (fun h => d_Y_matches h ⟨rfl, rfl⟩) (fun z4 e => ?_)
      refine z_ne e rfl (fun e => ?_) (fun e => ?_)
      · refine wp_p (j := J_Y_cascade) 3 (pc' := 38) (lv' := [(4, .int (v4 + 1)), (5, .int z3), (0, .ref v0), (1, .int v1), (2, .int v2), (3, .int v3)]) (st' := []) rfl ?_
        have e := Option.some.inj e; subst e; exact wp_lv (lv' := [(0, .ref v0), (1, .int v1), (2, .int v2), (3, .int v3), (4, .int (v4 + 1))]) rfl ⟨rfl, rfl, rfl, rfl, rfl, trivial⟩ c
      · refine wp_p (j := J_Y_cascade) 2 (pc' := 81) (lv' := [(5, .int z3), (0, .ref v0), (1, .int v1), (2, .int v2), (3, .int v3), (4, .int v4)]) (st' := [.int (-1), .int v3]) rfl ?_
        refine x_ne e rfl (fun e => ?_) (fun e => ?_)
        · refine wp_p (j := J_Y_cascade) 2 (pc' := 99) (lv' := [(5, .int z3), (0, .ref v0), (1, .int v1), (2, .int v2), (3, .int v3), (4, .int v4)]) (st' := [.int 0]) rfl ?_
          exact wp_lv (lv' := [(0, .ref v0), (1, .int v1), (2, .int v2), (3, .int v3), (4, .int v4), (5, .int z3)]) rfl ⟨rfl, rfl, rfl, rfl, rfl, rfl, trivial⟩ (x_Y_cascade_99 e c)
        · refine wp_p (j := J_Y_cascade) 1 (pc' := 89) (lv' := [(5, .int z3), (0, .ref v0), (1, .int v1), (2, .int v2), (3, .int v3), (4, .int v4)]) (st' := [.ref v0]) rfl ?_
          refine x_gQ e rfl rfl fd_12_99 rfl (fun z5 e => ?_)
          refine wp_p (j := J_Y_cascade) 5 (pc' := 98) (lv' := [(5, .int z3), (0, .ref v0), (1, .int v1), (2, .int v2), (3, .int v3), (4, .int v4)]) (st' := [.int ((11 * v3) + v2), .ref z5]) rfl ?_
          refine x_aI e rfl rfl (fun z6 e => ?_)
          exact wp_lv (lv' := [(0, .ref v0), (1, .int v1), (2, .int v2), (3, .int v3), (4, .int v4), (5, .int z3)]) rfl ⟨rfl, rfl, rfl, rfl, rfl, rfl, trivial⟩ (x_Y_cascade_99 e c)
  · have e := Option.some.inj e; subst e; exact wp_lv (lv' := [(0, .ref v0), (1, .int v1), (2, .int v2), (3, .int v3)]) rfl ⟨rfl, rfl, rfl, rfl, trivial⟩ c
noncomputable def L_Y_cascade_38 (v0 : Nat) (v1 : Int32) (v2 : Int32) (v3 : Int32) (v4 : Int32) (g : g_S) : Option (Int32) := it (fun s : Int32 × Int32 => b_Y_cascade_38 v0 v1 v2 s.1 s.2 g) (v3, v4)
theorem l_Y_cascade_38 {L : Nat} {xs : Nat → Int32} {Q : Option Value → ab_H → Prop} {v0 : Nat} {v1 : Int32} {v2 : Int32} {v3 : Int32} {v4 : Int32} {g : g_S} {r : Int32} (e : L_Y_cascade_38 v0 v1 v2 v3 v4 g = some r) (c : cL_Y_cascade_38 L xs Q v0 v1 v2 g (.inr r)) : wp (ab_ext L xs) J_Y_cascade 38 [(0, .ref v0), (1, .int v1), (2, .int v2), (3, .int v3), (4, .int v4)] [] (hp g) Q :=
  it_wp (P := fun s : Int32 × Int32 => wp (ab_ext L xs) J_Y_cascade 38 [(0, .ref v0), (1, .int v1), (2, .int v2), (3, .int s.1), (4, .int s.2)] [] (hp g) Q) (E := fun r => cL_Y_cascade_38 L xs Q v0 v1 v2 g (.inr r)) (fun s out e c => y_Y_cascade_38 e (by cases out <;> exact c)) e c
theorem L_Y_cascade_38_eq (v0 : Nat) (v1 : Int32) (v2 : Int32) (v3 : Int32) (v4 : Int32) (g : g_S) : L_Y_cascade_38 v0 v1 v2 v3 v4 g = itc (b_Y_cascade_38 v0 v1 v2 v3 v4 g) (fun s => L_Y_cascade_38 v0 v1 v2 s.1 s.2 g) := it_eq2 (fun s : Int32 × Int32 => b_Y_cascade_38 v0 v1 v2 s.1 s.2 g) (v3, v4)
def cL_Y_cascade_27 (L : Nat) (xs : Nat → Int32) (Q : Option Value → ab_H → Prop) (v0 : Nat) (v1 : Int32) (out : (Int32 × g_S) ⊕ (g_S)) : Prop := match out with
  | .inl s => wp (ab_ext L xs) J_Y_cascade 27 [(0, .ref v0), (1, .int v1), (2, .int s.1)] [] (hp s.2) Q
  | .inr s => wp (ab_ext L xs) J_Y_cascade 182 [(0, .ref v0), (1, .int v1)] [] (hp s) Q
noncomputable def k_Y_cascade_175 (v0 : Nat) (v1 : Int32) (v2 : Int32) (w0 : Int32) (w1 : Int32) (w2 : Nat) (g : g_S) : Option ((Int32 × g_S) ⊕ (g_S)) :=
  (sI g w2 w1 w0).bind fun g1 =>
  some (.inl (v2 + 1, g1))
set_option maxRecDepth 20000 in
theorem x_Y_cascade_175 {L : Nat} {xs : Nat → Int32} {Q : Option Value → ab_H → Prop} {v0 : Nat} {v1 : Int32} {v2 : Int32} {w0 : Int32} {w1 : Int32} {w2 : Nat} {g : g_S} {out : (Int32 × g_S) ⊕ (g_S)} (e : k_Y_cascade_175 v0 v1 v2 w0 w1 w2 g = some out) (c : cL_Y_cascade_27 L xs Q v0 v1 out) : wp (ab_ext L xs) J_Y_cascade 175 [(0, .ref v0), (1, .int v1), (2, .int v2)] [.int w0, .int w1, .ref w2] (hp g) Q := by
  unfold k_Y_cascade_175 at e
  refine x_sI e rfl rfl (fun g1 e => ?_)
  refine wp_p (j := J_Y_cascade) 2 (pc' := 27) (lv' := [(2, .int (v2 + 1)), (0, .ref v0), (1, .int v1)]) (st' := []) rfl ?_
  have e := Option.some.inj e; subst e; exact wp_lv (lv' := [(0, .ref v0), (1, .int v1), (2, .int (v2 + 1))]) rfl ⟨rfl, rfl, rfl, trivial⟩ c
noncomputable def b_Y_cascade_27 (v0 : Nat) (v1 : Int32) (v2 : Int32) (g : g_S) : Option ((Int32 × g_S) ⊕ (g_S)) :=
  if v2 < 11 then
    (L_Y_cascade_38 v0 v1 v2 (-1) 0 g).bind <| fun z3 =>
    (rQ g 112 v0 105).bind fun z4 =>
    if z3 = (-1) then
      (vc g 112 v0 (M_Y_first v0 v1 v2 g)).bind fun z5 =>
      k_Y_cascade_175 v0 v1 v2 z5 ((11 * v1) + v2) z4 g
    else
      (rQ g 112 v0 98).bind fun z6 =>
      (aI g 0 z6 ((11 * z3) + v2)).bind fun z7 =>
      k_Y_cascade_175 v0 v1 v2 z7 ((11 * v1) + v2) z4 g
  else
    some (.inr g)
set_option maxRecDepth 20000 in
theorem y_Y_cascade_27 {L : Nat} {xs : Nat → Int32} {Q : Option Value → ab_H → Prop} {v0 : Nat} {v1 : Int32} {v2 : Int32} {g : g_S} {out : (Int32 × g_S) ⊕ (g_S)} (e : b_Y_cascade_27 v0 v1 v2 g = some out) (c : cL_Y_cascade_27 L xs Q v0 v1 out) : wp (ab_ext L xs) J_Y_cascade 27 [(0, .ref v0), (1, .int v1), (2, .int v2)] [] (hp g) Q := by
  unfold b_Y_cascade_27 at e
  refine wp_p (j := J_Y_cascade) 2 (pc' := 30) (lv' := [(0, .ref v0), (1, .int v1), (2, .int v2)]) (st' := [.int 11, .int v2]) rfl ?_
  refine x_ge e rfl (fun e => ?_) (fun e => ?_)
  · refine wp_p (j := J_Y_cascade) 4 (pc' := 38) (lv' := [(4, .int 0), (3, .int (-1)), (0, .ref v0), (1, .int v1), (2, .int v2)]) (st' := []) rfl ?_
    obtain ⟨z3, h2, e⟩ := bd e
    refine wp_lv (lv' := [(0, .ref v0), (1, .int v1), (2, .int v2), (3, .int (-1)), (4, .int 0)]) rfl ⟨rfl, rfl, rfl, rfl, rfl, trivial⟩ ?_
    refine l_Y_cascade_38 h2 ?_
    show wp (ab_ext L xs) J_Y_cascade 140 [(0, .ref v0), (1, .int v1), (2, .int v2), (3, .int z3)] [] (hp g) Q
    refine wp_p (j := J_Y_cascade) 1 (pc' := 141) (lv' := [(0, .ref v0), (1, .int v1), (2, .int v2), (3, .int z3)]) (st' := [.ref v0]) rfl ?_
    refine x_gQ e rfl rfl fd_12_105 rfl (fun z4 e => ?_)
    refine wp_p (j := J_Y_cascade) 7 (pc' := 152) (lv' := [(0, .ref v0), (1, .int v1), (2, .int v2), (3, .int z3)]) (st' := [.int (-1), .int z3, .int ((11 * v1) + v2), .ref z4]) rfl ?_
    refine x_ne e rfl (fun e => ?_) (fun e => ?_)
    · refine wp_p (j := J_Y_cascade) 3 (pc' := 158) (lv' := [(0, .ref v0), (1, .int v1), (2, .int v2), (3, .int z3)]) (st' := [.int v2, .int v1, .ref v0, .int ((11 * v1) + v2), .ref z4]) rfl ?_
      refine x_cv1 (As := [.int v1, .int v2]) (rest := [.int ((11 * v1) + v2), .ref z4]) Value.int e rfl rfl rfl rfl rfl rfl (fun h => d_Y_first h ⟨rfl, rfl⟩) (fun z5 e => ?_)
      refine wp_p (j := J_Y_cascade) 1 (pc' := 175) (lv' := [(0, .ref v0), (1, .int v1), (2, .int v2), (3, .int z3)]) (st' := [.int z5, .int ((11 * v1) + v2), .ref z4]) rfl ?_
      exact wp_lv (lv' := [(0, .ref v0), (1, .int v1), (2, .int v2)]) rfl ⟨rfl, rfl, rfl, trivial⟩ (x_Y_cascade_175 e c)
    · refine wp_p (j := J_Y_cascade) 1 (pc' := 165) (lv' := [(0, .ref v0), (1, .int v1), (2, .int v2), (3, .int z3)]) (st' := [.ref v0, .int ((11 * v1) + v2), .ref z4]) rfl ?_
      refine x_gQ e rfl rfl fd_12_98 rfl (fun z6 e => ?_)
      refine wp_p (j := J_Y_cascade) 5 (pc' := 174) (lv' := [(0, .ref v0), (1, .int v1), (2, .int v2), (3, .int z3)]) (st' := [.int ((11 * z3) + v2), .ref z6, .int ((11 * v1) + v2), .ref z4]) rfl ?_
      refine x_aI e rfl rfl (fun z7 e => ?_)
      exact wp_lv (lv' := [(0, .ref v0), (1, .int v1), (2, .int v2)]) rfl ⟨rfl, rfl, rfl, trivial⟩ (x_Y_cascade_175 e c)
  · have e := Option.some.inj e; subst e; exact wp_lv (lv' := [(0, .ref v0), (1, .int v1)]) rfl ⟨rfl, rfl, trivial⟩ c
noncomputable def L_Y_cascade_27 (v0 : Nat) (v1 : Int32) (v2 : Int32) (g : g_S) : Option (g_S) := it (fun s : Int32 × g_S => b_Y_cascade_27 v0 v1 s.1 s.2) (v2, g)
theorem l_Y_cascade_27 {L : Nat} {xs : Nat → Int32} {Q : Option Value → ab_H → Prop} {v0 : Nat} {v1 : Int32} {v2 : Int32} {g : g_S} {r : g_S} (e : L_Y_cascade_27 v0 v1 v2 g = some r) (c : cL_Y_cascade_27 L xs Q v0 v1 (.inr r)) : wp (ab_ext L xs) J_Y_cascade 27 [(0, .ref v0), (1, .int v1), (2, .int v2)] [] (hp g) Q :=
  it_wp (P := fun s : Int32 × g_S => wp (ab_ext L xs) J_Y_cascade 27 [(0, .ref v0), (1, .int v1), (2, .int s.1)] [] (hp s.2) Q) (E := fun r => cL_Y_cascade_27 L xs Q v0 v1 (.inr r)) (fun s out e c => y_Y_cascade_27 e (by cases out <;> exact c)) e c
theorem L_Y_cascade_27_eq (v0 : Nat) (v1 : Int32) (v2 : Int32) (g : g_S) : L_Y_cascade_27 v0 v1 v2 g = itc (b_Y_cascade_27 v0 v1 v2 g) (fun s => L_Y_cascade_27 v0 v1 s.1 s.2) := it_eq2 (fun s : Int32 × g_S => b_Y_cascade_27 v0 v1 s.1 s.2) (v2, g)
def cL_Y_cascade_6 (L : Nat) (xs : Nat → Int32) (Q : Option Value → ab_H → Prop) (v0 : Nat) (out : (Int32 × g_S) ⊕ (g_S)) : Prop := match out with
  | .inl s => wp (ab_ext L xs) J_Y_cascade 6 [(0, .ref v0), (1, .int s.1)] [] (hp s.2) Q
  | .inr s => wp (ab_ext L xs) J_Y_cascade 316 [] [] (hp s) Q
noncomputable def k_Y_cascade_306 (v0 : Nat) (v1 : Int32) (g : g_S) : Option ((Int32 × g_S) ⊕ (g_S)) :=
  (vc g 112 v0 (M_Y_after v0 v1 0 g)).bind fun z1 =>
  some (.inl (z1, g))
set_option maxRecDepth 20000 in
theorem x_Y_cascade_306 {L : Nat} {xs : Nat → Int32} {Q : Option Value → ab_H → Prop} {v0 : Nat} {v1 : Int32} {g : g_S} {out : (Int32 × g_S) ⊕ (g_S)} (e : k_Y_cascade_306 v0 v1 g = some out) (c : cL_Y_cascade_6 L xs Q v0 out) : wp (ab_ext L xs) J_Y_cascade 306 [(0, .ref v0), (1, .int v1)] [] (hp g) Q := by
  unfold k_Y_cascade_306 at e
  refine wp_p (j := J_Y_cascade) 3 (pc' := 309) (lv' := [(0, .ref v0), (1, .int v1)]) (st' := [.int 0, .int v1, .ref v0]) rfl ?_
  refine x_cv1 (As := [.int v1, .int 0]) (rest := []) Value.int e rfl rfl rfl rfl rfl rfl (fun h => d_Y_after h ⟨rfl, rfl⟩) (fun z1 e => ?_)
  refine wp_p (j := J_Y_cascade) 2 (pc' := 6) (lv' := [(1, .int z1), (0, .ref v0)]) (st' := []) rfl ?_
  have e := Option.some.inj e; subst e; exact wp_lv (lv' := [(0, .ref v0), (1, .int z1)]) rfl ⟨rfl, rfl, trivial⟩ c
noncomputable def k_Y_cascade_273 (v0 : Nat) (v1 : Int32) (w0 : Int32) (w1 : Int32) (w2 : Nat) (g : g_S) : Option ((Int32 × g_S) ⊕ (g_S)) :=
  (sI g w2 w1 w0).bind fun g1 =>
  k_Y_cascade_306 v0 v1 g1
set_option maxRecDepth 20000 in
theorem x_Y_cascade_273 {L : Nat} {xs : Nat → Int32} {Q : Option Value → ab_H → Prop} {v0 : Nat} {v1 : Int32} {w0 : Int32} {w1 : Int32} {w2 : Nat} {g : g_S} {out : (Int32 × g_S) ⊕ (g_S)} (e : k_Y_cascade_273 v0 v1 w0 w1 w2 g = some out) (c : cL_Y_cascade_6 L xs Q v0 out) : wp (ab_ext L xs) J_Y_cascade 273 [(0, .ref v0), (1, .int v1)] [.int w0, .int w1, .ref w2] (hp g) Q := by
  unfold k_Y_cascade_273 at e
  refine x_sI e rfl rfl (fun g1 e => ?_)
  refine wp_p (j := J_Y_cascade) 1 (pc' := 306) (lv' := [(0, .ref v0), (1, .int v1)]) (st' := []) rfl ?_
  exact wp_lv (lv' := [(0, .ref v0), (1, .int v1)]) rfl ⟨rfl, rfl, trivial⟩ (x_Y_cascade_306 e c)
noncomputable def k_Y_cascade_235 (v0 : Nat) (v1 : Int32) (v2 : Int32) (v3 : Int32) (g : g_S) : Option ((Int32 × g_S) ⊕ (g_S)) :=
  if v1 = 0 then
    (rQ g 112 v0 105).bind fun z1 =>
    (sI g z1 v3 0).bind fun g2 =>
    k_Y_cascade_306 v0 v1 g2
  else
    if v2 = 0 then
      (rQ g 112 v0 105).bind fun z3 =>
      (aI g 0 z3 (v3 + 10)).bind fun z4 =>
      if 0 < z4 then
        (rQ g 112 v0 105).bind fun z5 =>
        (aI g 0 z5 v3).bind fun z6 =>
        if z6 = 1 then
          (rQ g 112 v0 105).bind fun z7 =>
          (sI g z7 v3 0).bind fun g8 =>
          k_Y_cascade_306 v0 v1 g8
        else
          k_Y_cascade_306 v0 v1 g
      else
        k_Y_cascade_306 v0 v1 g
    else
      (rQ g 112 v0 105).bind fun z9 =>
      (rQ g 112 v0 105).bind fun z10 =>
      (aI g 0 z10 v3).bind fun z11 =>
      if z11 = 2 then
        k_Y_cascade_273 v0 v1 2 v3 z9 g
      else
        k_Y_cascade_273 v0 v1 1 v3 z9 g
set_option maxRecDepth 20000 in
theorem x_Y_cascade_235 {L : Nat} {xs : Nat → Int32} {Q : Option Value → ab_H → Prop} {v0 : Nat} {v1 : Int32} {v2 : Int32} {v3 : Int32} {g : g_S} {out : (Int32 × g_S) ⊕ (g_S)} (e : k_Y_cascade_235 v0 v1 v2 v3 g = some out) (c : cL_Y_cascade_6 L xs Q v0 out) : wp (ab_ext L xs) J_Y_cascade 235 [(0, .ref v0), (1, .int v1), (2, .int v2), (3, .int v3)] [] (hp g) Q := by
  unfold k_Y_cascade_235 at e
  refine wp_p (j := J_Y_cascade) 1 (pc' := 236) (lv' := [(0, .ref v0), (1, .int v1), (2, .int v2), (3, .int v3)]) (st' := [.int v1]) rfl ?_
  refine z_ne e rfl (fun e => ?_) (fun e => ?_)
  · refine wp_p (j := J_Y_cascade) 1 (pc' := 240) (lv' := [(0, .ref v0), (1, .int v1), (2, .int v2), (3, .int v3)]) (st' := [.ref v0]) rfl ?_
    refine x_gQ e rfl rfl fd_12_105 rfl (fun z1 e => ?_)
    refine wp_p (j := J_Y_cascade) 2 (pc' := 245) (lv' := [(0, .ref v0), (1, .int v1), (2, .int v2), (3, .int v3)]) (st' := [.int 0, .int v3, .ref z1]) rfl ?_
    refine x_sI e rfl rfl (fun g2 e => ?_)
    refine wp_p (j := J_Y_cascade) 1 (pc' := 306) (lv' := [(0, .ref v0), (1, .int v1), (2, .int v2), (3, .int v3)]) (st' := []) rfl ?_
    exact wp_lv (lv' := [(0, .ref v0), (1, .int v1)]) rfl ⟨rfl, rfl, trivial⟩ (x_Y_cascade_306 e c)
  · refine wp_p (j := J_Y_cascade) 1 (pc' := 250) (lv' := [(0, .ref v0), (1, .int v1), (2, .int v2), (3, .int v3)]) (st' := [.int v2]) rfl ?_
    refine z_eq e rfl (fun e => ?_) (fun e => ?_)
    · refine wp_p (j := J_Y_cascade) 1 (pc' := 278) (lv' := [(0, .ref v0), (1, .int v1), (2, .int v2), (3, .int v3)]) (st' := [.ref v0]) rfl ?_
      refine x_gQ e rfl rfl fd_12_105 rfl (fun z3 e => ?_)
      refine wp_p (j := J_Y_cascade) 3 (pc' := 285) (lv' := [(0, .ref v0), (1, .int v1), (2, .int v2), (3, .int v3)]) (st' := [.int (v3 + 10), .ref z3]) rfl ?_
      refine x_aI e rfl rfl (fun z4 e => ?_)
      refine z_le e rfl (fun e => ?_) (fun e => ?_)
      · refine wp_p (j := J_Y_cascade) 1 (pc' := 290) (lv' := [(0, .ref v0), (1, .int v1), (2, .int v2), (3, .int v3)]) (st' := [.ref v0]) rfl ?_
        refine x_gQ e rfl rfl fd_12_105 rfl (fun z5 e => ?_)
        refine wp_p (j := J_Y_cascade) 1 (pc' := 294) (lv' := [(0, .ref v0), (1, .int v1), (2, .int v2), (3, .int v3)]) (st' := [.int v3, .ref z5]) rfl ?_
        refine x_aI e rfl rfl (fun z6 e => ?_)
        refine wp_p (j := J_Y_cascade) 1 (pc' := 296) (lv' := [(0, .ref v0), (1, .int v1), (2, .int v2), (3, .int v3)]) (st' := [.int 1, .int z6]) rfl ?_
        refine x_ne e rfl (fun e => ?_) (fun e => ?_)
        · refine wp_p (j := J_Y_cascade) 1 (pc' := 300) (lv' := [(0, .ref v0), (1, .int v1), (2, .int v2), (3, .int v3)]) (st' := [.ref v0]) rfl ?_
          refine x_gQ e rfl rfl fd_12_105 rfl (fun z7 e => ?_)
          refine wp_p (j := J_Y_cascade) 2 (pc' := 305) (lv' := [(0, .ref v0), (1, .int v1), (2, .int v2), (3, .int v3)]) (st' := [.int 0, .int v3, .ref z7]) rfl ?_
          refine x_sI e rfl rfl (fun g8 e => ?_)
          exact wp_lv (lv' := [(0, .ref v0), (1, .int v1)]) rfl ⟨rfl, rfl, trivial⟩ (x_Y_cascade_306 e c)
        · exact wp_lv (lv' := [(0, .ref v0), (1, .int v1)]) rfl ⟨rfl, rfl, trivial⟩ (x_Y_cascade_306 e c)
      · exact wp_lv (lv' := [(0, .ref v0), (1, .int v1)]) rfl ⟨rfl, rfl, trivial⟩ (x_Y_cascade_306 e c)
    · refine wp_p (j := J_Y_cascade) 1 (pc' := 254) (lv' := [(0, .ref v0), (1, .int v1), (2, .int v2), (3, .int v3)]) (st' := [.ref v0]) rfl ?_
      refine x_gQ e rfl rfl fd_12_105 rfl (fun z9 e => ?_)
      refine wp_p (j := J_Y_cascade) 2 (pc' := 259) (lv' := [(0, .ref v0), (1, .int v1), (2, .int v2), (3, .int v3)]) (st' := [.ref v0, .int v3, .ref z9]) rfl ?_
      refine x_gQ e rfl rfl fd_12_105 rfl (fun z10 e => ?_)
      refine wp_p (j := J_Y_cascade) 1 (pc' := 263) (lv' := [(0, .ref v0), (1, .int v1), (2, .int v2), (3, .int v3)]) (st' := [.int v3, .ref z10, .int v3, .ref z9]) rfl ?_
      refine x_aI e rfl rfl (fun z11 e => ?_)
      refine wp_p (j := J_Y_cascade) 1 (pc' := 265) (lv' := [(0, .ref v0), (1, .int v1), (2, .int v2), (3, .int v3)]) (st' := [.int 2, .int z11, .int v3, .ref z9]) rfl ?_
      refine x_ne e rfl (fun e => ?_) (fun e => ?_)
      · refine wp_p (j := J_Y_cascade) 2 (pc' := 273) (lv' := [(0, .ref v0), (1, .int v1), (2, .int v2), (3, .int v3)]) (st' := [.int 2, .int v3, .ref z9]) rfl ?_
        exact wp_lv (lv' := [(0, .ref v0), (1, .int v1)]) rfl ⟨rfl, rfl, trivial⟩ (x_Y_cascade_273 e c)
      · refine wp_p (j := J_Y_cascade) 1 (pc' := 273) (lv' := [(0, .ref v0), (1, .int v1), (2, .int v2), (3, .int v3)]) (st' := [.int 1, .int v3, .ref z9]) rfl ?_
        exact wp_lv (lv' := [(0, .ref v0), (1, .int v1)]) rfl ⟨rfl, rfl, trivial⟩ (x_Y_cascade_273 e c)
noncomputable def k_Y_cascade_225 (v0 : Nat) (v1 : Int32) (v2 : Int32) (v3 : Int32) (g : g_S) : Option ((Int32 × g_S) ⊕ (g_S)) :=
  (rQ g 112 v0 105).bind fun z1 =>
  (sI g z1 (v3 + 10) 0).bind fun g2 =>
  k_Y_cascade_235 v0 v1 v2 v3 g2
set_option maxRecDepth 20000 in
theorem x_Y_cascade_225 {L : Nat} {xs : Nat → Int32} {Q : Option Value → ab_H → Prop} {v0 : Nat} {v1 : Int32} {v2 : Int32} {v3 : Int32} {g : g_S} {out : (Int32 × g_S) ⊕ (g_S)} (e : k_Y_cascade_225 v0 v1 v2 v3 g = some out) (c : cL_Y_cascade_6 L xs Q v0 out) : wp (ab_ext L xs) J_Y_cascade 225 [(0, .ref v0), (1, .int v1), (2, .int v2), (3, .int v3)] [] (hp g) Q := by
  unfold k_Y_cascade_225 at e
  refine wp_p (j := J_Y_cascade) 1 (pc' := 226) (lv' := [(0, .ref v0), (1, .int v1), (2, .int v2), (3, .int v3)]) (st' := [.ref v0]) rfl ?_
  refine x_gQ e rfl rfl fd_12_105 rfl (fun z1 e => ?_)
  refine wp_p (j := J_Y_cascade) 4 (pc' := 234) (lv' := [(0, .ref v0), (1, .int v1), (2, .int v2), (3, .int v3)]) (st' := [.int 0, .int (v3 + 10), .ref z1]) rfl ?_
  refine x_sI e rfl rfl (fun g2 e => ?_)
  exact wp_lv (lv' := [(0, .ref v0), (1, .int v1), (2, .int v2), (3, .int v3)]) rfl ⟨rfl, rfl, rfl, rfl, trivial⟩ (x_Y_cascade_235 e c)
noncomputable def k_Y_cascade_211 (v0 : Nat) (v1 : Int32) (w0 : Int32) (g : g_S) : Option ((Int32 × g_S) ⊕ (g_S)) :=
  if v1 = 0 then
    k_Y_cascade_225 v0 v1 w0 (11 * v1) g
  else
    if w0 = 0 then
      k_Y_cascade_235 v0 v1 w0 (11 * v1) g
    else
      k_Y_cascade_225 v0 v1 w0 (11 * v1) g
set_option maxRecDepth 20000 in
theorem x_Y_cascade_211 {L : Nat} {xs : Nat → Int32} {Q : Option Value → ab_H → Prop} {v0 : Nat} {v1 : Int32} {w0 : Int32} {g : g_S} {out : (Int32 × g_S) ⊕ (g_S)} (e : k_Y_cascade_211 v0 v1 w0 g = some out) (c : cL_Y_cascade_6 L xs Q v0 out) : wp (ab_ext L xs) J_Y_cascade 211 [(0, .ref v0), (1, .int v1)] [.int w0] (hp g) Q := by
  unfold k_Y_cascade_211 at e
  refine wp_p (j := J_Y_cascade) 6 (pc' := 218) (lv' := [(3, .int (11 * v1)), (2, .int w0), (0, .ref v0), (1, .int v1)]) (st' := [.int v1]) rfl ?_
  refine z_eq e rfl (fun e => ?_) (fun e => ?_)
  · exact wp_lv (lv' := [(0, .ref v0), (1, .int v1), (2, .int w0), (3, .int (11 * v1))]) rfl ⟨rfl, rfl, rfl, rfl, trivial⟩ (x_Y_cascade_225 e c)
  · refine wp_p (j := J_Y_cascade) 1 (pc' := 222) (lv' := [(3, .int (11 * v1)), (2, .int w0), (0, .ref v0), (1, .int v1)]) (st' := [.int w0]) rfl ?_
    refine z_eq e rfl (fun e => ?_) (fun e => ?_)
    · exact wp_lv (lv' := [(0, .ref v0), (1, .int v1), (2, .int w0), (3, .int (11 * v1))]) rfl ⟨rfl, rfl, rfl, rfl, trivial⟩ (x_Y_cascade_235 e c)
    · exact wp_lv (lv' := [(0, .ref v0), (1, .int v1), (2, .int w0), (3, .int (11 * v1))]) rfl ⟨rfl, rfl, rfl, rfl, trivial⟩ (x_Y_cascade_225 e c)
noncomputable def k_Y_cascade_206 (v0 : Nat) (v1 : Int32) (g : g_S) : Option ((Int32 × g_S) ⊕ (g_S)) :=
  k_Y_cascade_211 v0 v1 1 g
set_option maxRecDepth 20000 in
theorem x_Y_cascade_206 {L : Nat} {xs : Nat → Int32} {Q : Option Value → ab_H → Prop} {v0 : Nat} {v1 : Int32} {g : g_S} {out : (Int32 × g_S) ⊕ (g_S)} (e : k_Y_cascade_206 v0 v1 g = some out) (c : cL_Y_cascade_6 L xs Q v0 out) : wp (ab_ext L xs) J_Y_cascade 206 [(0, .ref v0), (1, .int v1)] [] (hp g) Q := by
  unfold k_Y_cascade_206 at e
  refine wp_p (j := J_Y_cascade) 2 (pc' := 211) (lv' := [(0, .ref v0), (1, .int v1)]) (st' := [.int 1]) rfl ?_
  exact wp_lv (lv' := [(0, .ref v0), (1, .int v1)]) rfl ⟨rfl, rfl, trivial⟩ (x_Y_cascade_211 e c)
noncomputable def b_Y_cascade_6 (v0 : Nat) (v1 : Int32) (g : g_S) : Option ((Int32 × g_S) ⊕ (g_S)) :=
  if v1 = (-1) then
    some (.inr g)
  else
    (rQ g 112 v0 46).bind fun z1 =>
    (aI g 0 z1 v1).bind fun z2 =>
    if z2 = 17 then
      k_Y_cascade_306 v0 v1 g
    else
      (L_Y_cascade_27 v0 v1 0 g).bind <| fun g5 =>
      (rQ g5 112 v0 46).bind fun z6 =>
      (aI g5 0 z6 v1).bind fun z7 =>
      if z7 = 10 then
        k_Y_cascade_206 v0 v1 g5
      else
        (rQ g5 112 v0 46).bind fun z8 =>
        (aI g5 0 z8 v1).bind fun z9 =>
        (vc g5 112 v0 (M_Y_isPieceTag v0 z9 g5)).bind fun z10 =>
        if z10 = 0 then
          k_Y_cascade_211 v0 v1 0 g5
        else
          k_Y_cascade_206 v0 v1 g5
set_option maxRecDepth 20000 in
theorem y_Y_cascade_6 {L : Nat} {xs : Nat → Int32} {Q : Option Value → ab_H → Prop} {v0 : Nat} {v1 : Int32} {g : g_S} {out : (Int32 × g_S) ⊕ (g_S)} (e : b_Y_cascade_6 v0 v1 g = some out) (c : cL_Y_cascade_6 L xs Q v0 out) : wp (ab_ext L xs) J_Y_cascade 6 [(0, .ref v0), (1, .int v1)] [] (hp g) Q := by
  unfold b_Y_cascade_6 at e
  refine wp_p (j := J_Y_cascade) 2 (pc' := 8) (lv' := [(0, .ref v0), (1, .int v1)]) (st' := [.int (-1), .int v1]) rfl ?_
  refine x_eq e rfl (fun e => ?_) (fun e => ?_)
  · have e := Option.some.inj e; subst e; exact wp_lv (lv' := []) rfl trivial c
  · refine wp_p (j := J_Y_cascade) 1 (pc' := 12) (lv' := [(0, .ref v0), (1, .int v1)]) (st' := [.ref v0]) rfl ?_
    refine x_gQ e rfl rfl fd_12_46 rfl (fun z1 e => ?_)
    refine wp_p (j := J_Y_cascade) 1 (pc' := 16) (lv' := [(0, .ref v0), (1, .int v1)]) (st' := [.int v1, .ref z1]) rfl ?_
    refine x_aI e rfl rfl (fun z2 e => ?_)
    refine wp_p (j := J_Y_cascade) 1 (pc' := 19) (lv' := [(0, .ref v0), (1, .int v1)]) (st' := [.int 17, .int z2]) rfl ?_
    refine x_ne e rfl (fun e => ?_) (fun e => ?_)
    · refine wp_p (j := J_Y_cascade) 1 (pc' := 306) (lv' := [(0, .ref v0), (1, .int v1)]) (st' := []) rfl ?_
      exact wp_lv (lv' := [(0, .ref v0), (1, .int v1)]) rfl ⟨rfl, rfl, trivial⟩ (x_Y_cascade_306 e c)
    · refine wp_p (j := J_Y_cascade) 2 (pc' := 27) (lv' := [(2, .int 0), (0, .ref v0), (1, .int v1)]) (st' := []) rfl ?_
      obtain ⟨g5, h4, e⟩ := bd e
      refine wp_lv (lv' := [(0, .ref v0), (1, .int v1), (2, .int 0)]) rfl ⟨rfl, rfl, rfl, trivial⟩ ?_
      refine l_Y_cascade_27 h4 ?_
      show wp (ab_ext L xs) J_Y_cascade 182 [(0, .ref v0), (1, .int v1)] [] (hp g5) Q
      refine wp_p (j := J_Y_cascade) 1 (pc' := 183) (lv' := [(0, .ref v0), (1, .int v1)]) (st' := [.ref v0]) rfl ?_
      refine x_gQ e rfl rfl fd_12_46 rfl (fun z6 e => ?_)
      refine wp_p (j := J_Y_cascade) 1 (pc' := 187) (lv' := [(0, .ref v0), (1, .int v1)]) (st' := [.int v1, .ref z6]) rfl ?_
      refine x_aI e rfl rfl (fun z7 e => ?_)
      refine wp_p (j := J_Y_cascade) 1 (pc' := 190) (lv' := [(0, .ref v0), (1, .int v1)]) (st' := [.int 10, .int z7]) rfl ?_
      refine x_eq e rfl (fun e => ?_) (fun e => ?_)
      · exact wp_lv (lv' := [(0, .ref v0), (1, .int v1)]) rfl ⟨rfl, rfl, trivial⟩ (x_Y_cascade_206 e c)
      · refine wp_p (j := J_Y_cascade) 2 (pc' := 195) (lv' := [(0, .ref v0), (1, .int v1)]) (st' := [.ref v0, .ref v0]) rfl ?_
        refine x_gQ e rfl rfl fd_12_46 rfl (fun z8 e => ?_)
        refine wp_p (j := J_Y_cascade) 1 (pc' := 199) (lv' := [(0, .ref v0), (1, .int v1)]) (st' := [.int v1, .ref z8, .ref v0]) rfl ?_
        refine x_aI e rfl rfl (fun z9 e => ?_)
        refine x_cv1 (As := [.int z9]) (rest := []) Value.int e rfl rfl rfl rfl rfl rfl (fun h => d_Y_isPieceTag h ⟨rfl, rfl⟩) (fun z10 e => ?_)
        refine z_eq e rfl (fun e => ?_) (fun e => ?_)
        · refine wp_p (j := J_Y_cascade) 1 (pc' := 211) (lv' := [(0, .ref v0), (1, .int v1)]) (st' := [.int 0]) rfl ?_
          exact wp_lv (lv' := [(0, .ref v0), (1, .int v1)]) rfl ⟨rfl, rfl, trivial⟩ (x_Y_cascade_211 e c)
        · exact wp_lv (lv' := [(0, .ref v0), (1, .int v1)]) rfl ⟨rfl, rfl, trivial⟩ (x_Y_cascade_206 e c)
noncomputable def L_Y_cascade_6 (v0 : Nat) (v1 : Int32) (g : g_S) : Option (g_S) := it (fun s : Int32 × g_S => b_Y_cascade_6 v0 s.1 s.2) (v1, g)
theorem l_Y_cascade_6 {L : Nat} {xs : Nat → Int32} {Q : Option Value → ab_H → Prop} {v0 : Nat} {v1 : Int32} {g : g_S} {r : g_S} (e : L_Y_cascade_6 v0 v1 g = some r) (c : cL_Y_cascade_6 L xs Q v0 (.inr r)) : wp (ab_ext L xs) J_Y_cascade 6 [(0, .ref v0), (1, .int v1)] [] (hp g) Q :=
  it_wp (P := fun s : Int32 × g_S => wp (ab_ext L xs) J_Y_cascade 6 [(0, .ref v0), (1, .int s.1)] [] (hp s.2) Q) (E := fun r => cL_Y_cascade_6 L xs Q v0 (.inr r)) (fun s out e c => y_Y_cascade_6 e (by cases out <;> exact c)) e c
theorem L_Y_cascade_6_eq (v0 : Nat) (v1 : Int32) (g : g_S) : L_Y_cascade_6 v0 v1 g = itc (b_Y_cascade_6 v0 v1 g) (fun s => L_Y_cascade_6 v0 s.1 s.2) := it_eq2 (fun s : Int32 × g_S => b_Y_cascade_6 v0 s.1 s.2) (v1, g)
noncomputable def M_Y_cascade (v0 : Nat) (g : g_S) : Option g_S :=
  (vc g 112 v0 (M_Y_readStyles v0 g)).bind fun g1 =>
  (L_Y_cascade_6 v0 0 g1).bind <| fun g4 =>
  some g4
set_option maxRecDepth 20000 in
theorem d_Y_cascade {L : Nat} {xs : Nat → Int32} {Q : Option Value → ab_H → Prop} {v0 : Nat} {g : g_S} {out : g_S} (e : M_Y_cascade v0 g = some out) (c : Q none (hp out)) : mw (ab_ext L xs) J_Y_cascade [.ref v0] (hp g) Q := by
  unfold M_Y_cascade at e
  refine wp_p (j := J_Y_cascade) 1 (pc' := 1) (lv' := [(0, .ref v0)]) (st' := [.ref v0]) rfl ?_
  refine x_cv0 (As := []) (rest := []) e rfl rfl rfl rfl rfl rfl (fun h => d_Y_readStyles h ⟨rfl, rfl⟩) (fun g1 e => ?_)
  refine wp_p (j := J_Y_cascade) 2 (pc' := 6) (lv' := [(1, .int 0), (0, .ref v0)]) (st' := []) rfl ?_
  obtain ⟨g4, h3, e⟩ := bd e
  refine wp_lv (lv' := [(0, .ref v0), (1, .int 0)]) rfl ⟨rfl, rfl, trivial⟩ ?_
  refine l_Y_cascade_6 h3 ?_
  show wp (ab_ext L xs) J_Y_cascade 316 [] [] (hp g4) Q
  have e := Option.some.inj e; subst e; exact wp_vret rfl rfl c
noncomputable def M_Y_isBox (v0 : Nat) (v1 : Int32) (g : g_S) : Option Int32 :=
  (rQ g 112 v0 107).bind fun z1 =>
  (aI g 0 z1 v1).bind fun z2 =>
  if z2 = 1 then
    some 1
  else
    (rQ g 112 v0 107).bind fun z3 =>
    (aI g 0 z3 v1).bind fun z4 =>
    if z4 = 2 then
      some 1
    else
      some 0
set_option maxRecDepth 20000 in
theorem d_Y_isBox {L : Nat} {xs : Nat → Int32} {Q : Option Value → ab_H → Prop} {v0 : Nat} {v1 : Int32} {g : g_S} {out : Int32} (e : M_Y_isBox v0 v1 g = some out) (c : Q (some (.int out)) (hp g)) : mw (ab_ext L xs) J_Y_isBox [.ref v0, .int v1] (hp g) Q := by
  unfold M_Y_isBox at e
  refine wp_p (j := J_Y_isBox) 1 (pc' := 1) (lv' := [(0, .ref v0), (1, .int v1)]) (st' := [.ref v0]) rfl ?_
  refine x_gQ e rfl rfl fd_12_107 rfl (fun z1 e => ?_)
  refine wp_p (j := J_Y_isBox) 1 (pc' := 5) (lv' := [(0, .ref v0), (1, .int v1)]) (st' := [.int v1, .ref z1]) rfl ?_
  refine x_aI e rfl rfl (fun z2 e => ?_)
  refine wp_p (j := J_Y_isBox) 1 (pc' := 7) (lv' := [(0, .ref v0), (1, .int v1)]) (st' := [.int 1, .int z2]) rfl ?_
  refine x_eq e rfl (fun e => ?_) (fun e => ?_)
  · refine wp_p (j := J_Y_isBox) 2 (pc' := 25) (lv' := [(0, .ref v0), (1, .int v1)]) (st' := [.int 1]) rfl ?_
    have e := Option.some.inj e; subst e; exact wp_iret (ty := .boolean) rfl rfl (by decide) c
  · refine wp_p (j := J_Y_isBox) 1 (pc' := 11) (lv' := [(0, .ref v0), (1, .int v1)]) (st' := [.ref v0]) rfl ?_
    refine x_gQ e rfl rfl fd_12_107 rfl (fun z3 e => ?_)
    refine wp_p (j := J_Y_isBox) 1 (pc' := 15) (lv' := [(0, .ref v0), (1, .int v1)]) (st' := [.int v1, .ref z3]) rfl ?_
    refine x_aI e rfl rfl (fun z4 e => ?_)
    refine wp_p (j := J_Y_isBox) 1 (pc' := 17) (lv' := [(0, .ref v0), (1, .int v1)]) (st' := [.int 2, .int z4]) rfl ?_
    refine x_ne e rfl (fun e => ?_) (fun e => ?_)
    · refine wp_p (j := J_Y_isBox) 2 (pc' := 25) (lv' := [(0, .ref v0), (1, .int v1)]) (st' := [.int 1]) rfl ?_
      have e := Option.some.inj e; subst e; exact wp_iret (ty := .boolean) rfl rfl (by decide) c
    · refine wp_p (j := J_Y_isBox) 1 (pc' := 25) (lv' := [(0, .ref v0), (1, .int v1)]) (st' := [.int 0]) rfl ?_
      have e := Option.some.inj e; subst e; exact wp_iret (ty := .boolean) rfl rfl (by decide) c
noncomputable def M_Y_modeOf (v0 : Nat) (v1 : Int32) (g : g_S) : Option Int32 :=
  (rQ g 112 v0 49).bind fun z1 =>
  (aI g 0 z1 v1).bind fun z2 =>
  (rQ g 112 v0 107).bind fun z3 =>
  (aI g 0 z3 z2).bind fun z4 =>
  (rQ g 112 v0 46).bind fun z5 =>
  (aI g 0 z5 v1).bind fun z6 =>
  if z4 = 0 then
    some 0
  else
    if z4 = 4 then
      some 0
    else
      if z4 = 5 then
        some 0
      else
        if z6 = 17 then
          if z4 = 2 then
            some 0
          else
            some 6
        else
          (vc g 112 v0 (M_Y_of v0 v1 0 g)).bind fun z7 =>
          if z7 = 2 then
            some 0
          else
            (vc g 112 v0 (M_Y_isPieceTag v0 z6 g)).bind fun z8 =>
            if z8 = 0 then
              if z6 = 10 then
                if z4 = 2 then
                  some 0
                else
                  some 5
              else
                if z4 = 2 then
                  (vc g 112 v0 (M_Y_of v0 v1 0 g)).bind fun z9 =>
                  if z9 = 3 then
                    some 2
                  else
                    some 1
                else
                  if z4 = 3 then
                    if z6 = 11 then
                      some 0
                    else
                      some 3
                  else
                    (vc g 112 v0 (M_Y_of v0 v1 0 g)).bind fun z10 =>
                    if z10 = 1 then
                      some 3
                    else
                      (vc g 112 v0 (M_Y_of v0 v1 0 g)).bind fun z11 =>
                      if z11 = 3 then
                        some 2
                      else
                        some 1
            else
              some 4
set_option maxRecDepth 20000 in
theorem d_Y_modeOf {L : Nat} {xs : Nat → Int32} {Q : Option Value → ab_H → Prop} {v0 : Nat} {v1 : Int32} {g : g_S} {out : Int32} (e : M_Y_modeOf v0 v1 g = some out) (c : Q (some (.int out)) (hp g)) : mw (ab_ext L xs) J_Y_modeOf [.ref v0, .int v1] (hp g) Q := by
  unfold M_Y_modeOf at e
  refine wp_p (j := J_Y_modeOf) 1 (pc' := 1) (lv' := [(0, .ref v0), (1, .int v1)]) (st' := [.ref v0]) rfl ?_
  refine x_gQ e rfl rfl fd_12_49 rfl (fun z1 e => ?_)
  refine wp_p (j := J_Y_modeOf) 1 (pc' := 5) (lv' := [(0, .ref v0), (1, .int v1)]) (st' := [.int v1, .ref z1]) rfl ?_
  refine x_aI e rfl rfl (fun z2 e => ?_)
  refine wp_p (j := J_Y_modeOf) 2 (pc' := 8) (lv' := [(2, .int z2), (0, .ref v0), (1, .int v1)]) (st' := [.ref v0]) rfl ?_
  refine x_gQ e rfl rfl fd_12_107 rfl (fun z3 e => ?_)
  refine wp_p (j := J_Y_modeOf) 1 (pc' := 12) (lv' := [(2, .int z2), (0, .ref v0), (1, .int v1)]) (st' := [.int z2, .ref z3]) rfl ?_
  refine x_aI e rfl rfl (fun z4 e => ?_)
  refine wp_p (j := J_Y_modeOf) 2 (pc' := 15) (lv' := [(3, .int z4), (2, .int z2), (0, .ref v0), (1, .int v1)]) (st' := [.ref v0]) rfl ?_
  refine x_gQ e rfl rfl fd_12_46 rfl (fun z5 e => ?_)
  refine wp_p (j := J_Y_modeOf) 1 (pc' := 19) (lv' := [(3, .int z4), (2, .int z2), (0, .ref v0), (1, .int v1)]) (st' := [.int v1, .ref z5]) rfl ?_
  refine x_aI e rfl rfl (fun z6 e => ?_)
  refine wp_p (j := J_Y_modeOf) 2 (pc' := 23) (lv' := [(4, .int z6), (3, .int z4), (2, .int z2), (0, .ref v0), (1, .int v1)]) (st' := [.int z4]) rfl ?_
  refine z_eq e rfl (fun e => ?_) (fun e => ?_)
  · refine wp_p (j := J_Y_modeOf) 1 (pc' := 37) (lv' := [(4, .int z6), (3, .int z4), (2, .int z2), (0, .ref v0), (1, .int v1)]) (st' := [.int 0]) rfl ?_
    have e := Option.some.inj e; subst e; exact wp_iret (ty := .int) rfl rfl rfl c
  · refine wp_p (j := J_Y_modeOf) 2 (pc' := 28) (lv' := [(4, .int z6), (3, .int z4), (2, .int z2), (0, .ref v0), (1, .int v1)]) (st' := [.int 4, .int z4]) rfl ?_
    refine x_eq e rfl (fun e => ?_) (fun e => ?_)
    · refine wp_p (j := J_Y_modeOf) 1 (pc' := 37) (lv' := [(4, .int z6), (3, .int z4), (2, .int z2), (0, .ref v0), (1, .int v1)]) (st' := [.int 0]) rfl ?_
      have e := Option.some.inj e; subst e; exact wp_iret (ty := .int) rfl rfl rfl c
    · refine wp_p (j := J_Y_modeOf) 2 (pc' := 33) (lv' := [(4, .int z6), (3, .int z4), (2, .int z2), (0, .ref v0), (1, .int v1)]) (st' := [.int 5, .int z4]) rfl ?_
      refine x_ne e rfl (fun e => ?_) (fun e => ?_)
      · refine wp_p (j := J_Y_modeOf) 1 (pc' := 37) (lv' := [(4, .int z6), (3, .int z4), (2, .int z2), (0, .ref v0), (1, .int v1)]) (st' := [.int 0]) rfl ?_
        have e := Option.some.inj e; subst e; exact wp_iret (ty := .int) rfl rfl rfl c
      · refine wp_p (j := J_Y_modeOf) 2 (pc' := 42) (lv' := [(4, .int z6), (3, .int z4), (2, .int z2), (0, .ref v0), (1, .int v1)]) (st' := [.int 17, .int z6]) rfl ?_
        refine x_ne e rfl (fun e => ?_) (fun e => ?_)
        · refine wp_p (j := J_Y_modeOf) 2 (pc' := 47) (lv' := [(4, .int z6), (3, .int z4), (2, .int z2), (0, .ref v0), (1, .int v1)]) (st' := [.int 2, .int z4]) rfl ?_
          refine x_ne e rfl (fun e => ?_) (fun e => ?_)
          · refine wp_p (j := J_Y_modeOf) 2 (pc' := 56) (lv' := [(4, .int z6), (3, .int z4), (2, .int z2), (0, .ref v0), (1, .int v1)]) (st' := [.int 0]) rfl ?_
            have e := Option.some.inj e; subst e; exact wp_iret (ty := .int) rfl rfl rfl c
          · refine wp_p (j := J_Y_modeOf) 1 (pc' := 56) (lv' := [(4, .int z6), (3, .int z4), (2, .int z2), (0, .ref v0), (1, .int v1)]) (st' := [.int 6]) rfl ?_
            have e := Option.some.inj e; subst e; exact wp_iret (ty := .int) rfl rfl rfl c
        · refine wp_p (j := J_Y_modeOf) 3 (pc' := 60) (lv' := [(4, .int z6), (3, .int z4), (2, .int z2), (0, .ref v0), (1, .int v1)]) (st' := [.int 0, .int v1, .ref v0]) rfl ?_
          refine x_cv1 (As := [.int v1, .int 0]) (rest := []) Value.int e rfl rfl rfl rfl rfl rfl (fun h => d_Y_of h ⟨rfl, rfl⟩) (fun z7 e => ?_)
          refine wp_p (j := J_Y_modeOf) 1 (pc' := 64) (lv' := [(4, .int z6), (3, .int z4), (2, .int z2), (0, .ref v0), (1, .int v1)]) (st' := [.int 2, .int z7]) rfl ?_
          refine x_ne e rfl (fun e => ?_) (fun e => ?_)
          · refine wp_p (j := J_Y_modeOf) 1 (pc' := 68) (lv' := [(4, .int z6), (3, .int z4), (2, .int z2), (0, .ref v0), (1, .int v1)]) (st' := [.int 0]) rfl ?_
            have e := Option.some.inj e; subst e; exact wp_iret (ty := .int) rfl rfl rfl c
          · refine wp_p (j := J_Y_modeOf) 2 (pc' := 72) (lv' := [(4, .int z6), (3, .int z4), (2, .int z2), (0, .ref v0), (1, .int v1)]) (st' := [.int z6, .ref v0]) rfl ?_
            refine x_cv1 (As := [.int z6]) (rest := []) Value.int e rfl rfl rfl rfl rfl rfl (fun h => d_Y_isPieceTag h ⟨rfl, rfl⟩) (fun z8 e => ?_)
            refine z_eq e rfl (fun e => ?_) (fun e => ?_)
            · refine wp_p (j := J_Y_modeOf) 2 (pc' := 84) (lv' := [(4, .int z6), (3, .int z4), (2, .int z2), (0, .ref v0), (1, .int v1)]) (st' := [.int 10, .int z6]) rfl ?_
              refine x_ne e rfl (fun e => ?_) (fun e => ?_)
              · refine wp_p (j := J_Y_modeOf) 2 (pc' := 89) (lv' := [(4, .int z6), (3, .int z4), (2, .int z2), (0, .ref v0), (1, .int v1)]) (st' := [.int 2, .int z4]) rfl ?_
                refine x_ne e rfl (fun e => ?_) (fun e => ?_)
                · refine wp_p (j := J_Y_modeOf) 2 (pc' := 97) (lv' := [(4, .int z6), (3, .int z4), (2, .int z2), (0, .ref v0), (1, .int v1)]) (st' := [.int 0]) rfl ?_
                  have e := Option.some.inj e; subst e; exact wp_iret (ty := .int) rfl rfl rfl c
                · refine wp_p (j := J_Y_modeOf) 1 (pc' := 97) (lv' := [(4, .int z6), (3, .int z4), (2, .int z2), (0, .ref v0), (1, .int v1)]) (st' := [.int 5]) rfl ?_
                  have e := Option.some.inj e; subst e; exact wp_iret (ty := .int) rfl rfl rfl c
              · refine wp_p (j := J_Y_modeOf) 2 (pc' := 100) (lv' := [(4, .int z6), (3, .int z4), (2, .int z2), (0, .ref v0), (1, .int v1)]) (st' := [.int 2, .int z4]) rfl ?_
                refine x_ne e rfl (fun e => ?_) (fun e => ?_)
                · refine wp_p (j := J_Y_modeOf) 3 (pc' := 106) (lv' := [(4, .int z6), (3, .int z4), (2, .int z2), (0, .ref v0), (1, .int v1)]) (st' := [.int 0, .int v1, .ref v0]) rfl ?_
                  refine x_cv1 (As := [.int v1, .int 0]) (rest := []) Value.int e rfl rfl rfl rfl rfl rfl (fun h => d_Y_of h ⟨rfl, rfl⟩) (fun z9 e => ?_)
                  refine wp_p (j := J_Y_modeOf) 1 (pc' := 110) (lv' := [(4, .int z6), (3, .int z4), (2, .int z2), (0, .ref v0), (1, .int v1)]) (st' := [.int 3, .int z9]) rfl ?_
                  refine x_ne e rfl (fun e => ?_) (fun e => ?_)
                  · refine wp_p (j := J_Y_modeOf) 2 (pc' := 118) (lv' := [(4, .int z6), (3, .int z4), (2, .int z2), (0, .ref v0), (1, .int v1)]) (st' := [.int 2]) rfl ?_
                    have e := Option.some.inj e; subst e; exact wp_iret (ty := .int) rfl rfl rfl c
                  · refine wp_p (j := J_Y_modeOf) 1 (pc' := 118) (lv' := [(4, .int z6), (3, .int z4), (2, .int z2), (0, .ref v0), (1, .int v1)]) (st' := [.int 1]) rfl ?_
                    have e := Option.some.inj e; subst e; exact wp_iret (ty := .int) rfl rfl rfl c
                · refine wp_p (j := J_Y_modeOf) 2 (pc' := 121) (lv' := [(4, .int z6), (3, .int z4), (2, .int z2), (0, .ref v0), (1, .int v1)]) (st' := [.int 3, .int z4]) rfl ?_
                  refine x_ne e rfl (fun e => ?_) (fun e => ?_)
                  · refine wp_p (j := J_Y_modeOf) 2 (pc' := 128) (lv' := [(4, .int z6), (3, .int z4), (2, .int z2), (0, .ref v0), (1, .int v1)]) (st' := [.int 11, .int z6]) rfl ?_
                    refine x_ne e rfl (fun e => ?_) (fun e => ?_)
                    · refine wp_p (j := J_Y_modeOf) 2 (pc' := 136) (lv' := [(4, .int z6), (3, .int z4), (2, .int z2), (0, .ref v0), (1, .int v1)]) (st' := [.int 0]) rfl ?_
                      have e := Option.some.inj e; subst e; exact wp_iret (ty := .int) rfl rfl rfl c
                    · refine wp_p (j := J_Y_modeOf) 1 (pc' := 136) (lv' := [(4, .int z6), (3, .int z4), (2, .int z2), (0, .ref v0), (1, .int v1)]) (st' := [.int 3]) rfl ?_
                      have e := Option.some.inj e; subst e; exact wp_iret (ty := .int) rfl rfl rfl c
                  · refine wp_p (j := J_Y_modeOf) 3 (pc' := 140) (lv' := [(4, .int z6), (3, .int z4), (2, .int z2), (0, .ref v0), (1, .int v1)]) (st' := [.int 0, .int v1, .ref v0]) rfl ?_
                    refine x_cv1 (As := [.int v1, .int 0]) (rest := []) Value.int e rfl rfl rfl rfl rfl rfl (fun h => d_Y_of h ⟨rfl, rfl⟩) (fun z10 e => ?_)
                    refine wp_p (j := J_Y_modeOf) 1 (pc' := 144) (lv' := [(4, .int z6), (3, .int z4), (2, .int z2), (0, .ref v0), (1, .int v1)]) (st' := [.int 1, .int z10]) rfl ?_
                    refine x_ne e rfl (fun e => ?_) (fun e => ?_)
                    · refine wp_p (j := J_Y_modeOf) 1 (pc' := 148) (lv' := [(4, .int z6), (3, .int z4), (2, .int z2), (0, .ref v0), (1, .int v1)]) (st' := [.int 3]) rfl ?_
                      have e := Option.some.inj e; subst e; exact wp_iret (ty := .int) rfl rfl rfl c
                    · refine wp_p (j := J_Y_modeOf) 3 (pc' := 152) (lv' := [(4, .int z6), (3, .int z4), (2, .int z2), (0, .ref v0), (1, .int v1)]) (st' := [.int 0, .int v1, .ref v0]) rfl ?_
                      refine x_cv1 (As := [.int v1, .int 0]) (rest := []) Value.int e rfl rfl rfl rfl rfl rfl (fun h => d_Y_of h ⟨rfl, rfl⟩) (fun z11 e => ?_)
                      refine wp_p (j := J_Y_modeOf) 1 (pc' := 156) (lv' := [(4, .int z6), (3, .int z4), (2, .int z2), (0, .ref v0), (1, .int v1)]) (st' := [.int 3, .int z11]) rfl ?_
                      refine x_ne e rfl (fun e => ?_) (fun e => ?_)
                      · refine wp_p (j := J_Y_modeOf) 2 (pc' := 164) (lv' := [(4, .int z6), (3, .int z4), (2, .int z2), (0, .ref v0), (1, .int v1)]) (st' := [.int 2]) rfl ?_
                        have e := Option.some.inj e; subst e; exact wp_iret (ty := .int) rfl rfl rfl c
                      · refine wp_p (j := J_Y_modeOf) 1 (pc' := 164) (lv' := [(4, .int z6), (3, .int z4), (2, .int z2), (0, .ref v0), (1, .int v1)]) (st' := [.int 1]) rfl ?_
                        have e := Option.some.inj e; subst e; exact wp_iret (ty := .int) rfl rfl rfl c
            · refine wp_p (j := J_Y_modeOf) 1 (pc' := 79) (lv' := [(4, .int z6), (3, .int z4), (2, .int z2), (0, .ref v0), (1, .int v1)]) (st' := [.int 4]) rfl ?_
              have e := Option.some.inj e; subst e; exact wp_iret (ty := .int) rfl rfl rfl c
noncomputable def M_Y_edges (v0 : Nat) (v1 : Int32) (g : g_S) : Option Int32 :=
  (vc g 112 v0 (M_Y_of v0 v1 4 g)).bind fun z1 =>
  (vc g 112 v0 (M_Y_of v0 v1 5 g)).bind fun z2 =>
  some (z1 + z2)
set_option maxRecDepth 20000 in
theorem d_Y_edges {L : Nat} {xs : Nat → Int32} {Q : Option Value → ab_H → Prop} {v0 : Nat} {v1 : Int32} {g : g_S} {out : Int32} (e : M_Y_edges v0 v1 g = some out) (c : Q (some (.int out)) (hp g)) : mw (ab_ext L xs) J_Y_edges [.ref v0, .int v1] (hp g) Q := by
  unfold M_Y_edges at e
  refine wp_p (j := J_Y_edges) 3 (pc' := 3) (lv' := [(0, .ref v0), (1, .int v1)]) (st' := [.int 4, .int v1, .ref v0]) rfl ?_
  refine x_cv1 (As := [.int v1, .int 4]) (rest := []) Value.int e rfl rfl rfl rfl rfl rfl (fun h => d_Y_of h ⟨rfl, rfl⟩) (fun z1 e => ?_)
  refine wp_p (j := J_Y_edges) 3 (pc' := 9) (lv' := [(0, .ref v0), (1, .int v1)]) (st' := [.int 5, .int v1, .ref v0, .int z1]) rfl ?_
  refine x_cv1 (As := [.int v1, .int 5]) (rest := [.int z1]) Value.int e rfl rfl rfl rfl rfl rfl (fun h => d_Y_of h ⟨rfl, rfl⟩) (fun z2 e => ?_)
  refine wp_p (j := J_Y_edges) 1 (pc' := 13) (lv' := [(0, .ref v0), (1, .int v1)]) (st' := [.int (z1 + z2)]) rfl ?_
  have e := Option.some.inj e; subst e; exact wp_iret (ty := .int) rfl rfl rfl c
noncomputable def M_Y_inner (v0 : Nat) (v1 : Int32) (g : g_S) : Option Int32 :=
  (rQ g 112 v0 112).bind fun z1 =>
  (aI g 0 z1 v1).bind fun z2 =>
  (vc g 112 v0 (M_Y_edges v0 v1 g)).bind fun z3 =>
  some (mx 0 (z2 - (2 * z3)))
set_option maxRecDepth 20000 in
theorem d_Y_inner {L : Nat} {xs : Nat → Int32} {Q : Option Value → ab_H → Prop} {v0 : Nat} {v1 : Int32} {g : g_S} {out : Int32} (e : M_Y_inner v0 v1 g = some out) (c : Q (some (.int out)) (hp g)) : mw (ab_ext L xs) J_Y_inner [.ref v0, .int v1] (hp g) Q := by
  unfold M_Y_inner at e
  refine wp_p (j := J_Y_inner) 2 (pc' := 2) (lv' := [(0, .ref v0), (1, .int v1)]) (st' := [.ref v0, .int 0]) rfl ?_
  refine x_gQ e rfl rfl fd_12_112 rfl (fun z1 e => ?_)
  refine wp_p (j := J_Y_inner) 1 (pc' := 6) (lv' := [(0, .ref v0), (1, .int v1)]) (st' := [.int v1, .ref z1, .int 0]) rfl ?_
  refine x_aI e rfl rfl (fun z2 e => ?_)
  refine wp_p (j := J_Y_inner) 3 (pc' := 10) (lv' := [(0, .ref v0), (1, .int v1)]) (st' := [.int v1, .ref v0, .int 2, .int z2, .int 0]) rfl ?_
  refine x_cv1 (As := [.int v1]) (rest := [.int 2, .int z2, .int 0]) Value.int e rfl rfl rfl rfl rfl rfl (fun h => d_Y_edges h ⟨rfl, rfl⟩) (fun z3 e => ?_)
  refine wp_p (j := J_Y_inner) 2 (pc' := 15) (lv' := [(0, .ref v0), (1, .int v1)]) (st' := [.int (z2 - (2 * z3)), .int 0]) rfl ?_
  refine x_mx rfl rfl ?_
  have e := Option.some.inj e; subst e; exact wp_iret (ty := .int) rfl rfl rfl c
noncomputable def M_Y_told (v0 : Nat) (v1 : Int32) (v2 : Int32) (g : g_S) : Option Int32 :=
  (vc g 112 v0 (M_Y_of v0 v1 6 g)).bind fun z1 =>
  if z1 < 1000 then
    some z1
  else
    (dv (v2 * (z1 - 1000)) 100).bind fun z2 =>
    some z2
set_option maxRecDepth 20000 in
theorem d_Y_told {L : Nat} {xs : Nat → Int32} {Q : Option Value → ab_H → Prop} {v0 : Nat} {v1 : Int32} {v2 : Int32} {g : g_S} {out : Int32} (e : M_Y_told v0 v1 v2 g = some out) (c : Q (some (.int out)) (hp g)) : mw (ab_ext L xs) J_Y_told [.ref v0, .int v1, .int v2] (hp g) Q := by
  unfold M_Y_told at e
  refine wp_p (j := J_Y_told) 3 (pc' := 4) (lv' := [(0, .ref v0), (1, .int v1), (2, .int v2)]) (st' := [.int 6, .int v1, .ref v0]) rfl ?_
  refine x_cv1 (As := [.int v1, .int 6]) (rest := []) Value.int e rfl rfl rfl rfl rfl rfl (fun h => d_Y_of h ⟨rfl, rfl⟩) (fun z1 e => ?_)
  refine wp_p (j := J_Y_told) 3 (pc' := 12) (lv' := [(3, .int z1), (0, .ref v0), (1, .int v1), (2, .int v2)]) (st' := [.int 1000, .int z1]) rfl ?_
  refine x_lt e rfl (fun e => ?_) (fun e => ?_)
  · refine wp_p (j := J_Y_told) 1 (pc' := 29) (lv' := [(3, .int z1), (0, .ref v0), (1, .int v1), (2, .int v2)]) (st' := [.int z1]) rfl ?_
    have e := Option.some.inj e; subst e; exact wp_iret (ty := .int) rfl rfl rfl c
  · refine wp_p (j := J_Y_told) 6 (pc' := 24) (lv' := [(3, .int z1), (0, .ref v0), (1, .int v1), (2, .int v2)]) (st' := [.int 100, .int (v2 * (z1 - 1000))]) rfl ?_
    refine x_dv e rfl (fun z2 e => ?_)
    refine wp_p (j := J_Y_told) 1 (pc' := 29) (lv' := [(3, .int z1), (0, .ref v0), (1, .int v1), (2, .int v2)]) (st' := [.int z2]) rfl ?_
    have e := Option.some.inj e; subst e; exact wp_iret (ty := .int) rfl rfl rfl c
noncomputable def M_Y_glyph (v0 : Int32) (g : g_S) : Option Int32 :=
  if v0 = 105 then
    some 2
  else
    if v0 = 108 then
      some 2
    else
      if v0 = 106 then
        some 2
      else
        if v0 = 46 then
          some 2
        else
          if v0 = 44 then
            some 2
          else
            if v0 = 39 then
              some 2
            else
              if v0 = 58 then
                some 2
              else
                if v0 = 59 then
                  some 2
                else
                  if v0 = 33 then
                    some 2
                  else
                    if v0 = 124 then
                      some 2
                    else
                      if v0 = 109 then
                        some 5
                      else
                        if v0 = 119 then
                          some 5
                        else
                          if v0 = 77 then
                            some 5
                          else
                            if v0 = 87 then
                              some 5
                            else
                              if v0 = 64 then
                                some 5
                              else
                                some 4
set_option maxRecDepth 20000 in
theorem d_Y_glyph {L : Nat} {xs : Nat → Int32} {Q : Option Value → ab_H → Prop} {v0 : Int32} {g : g_S} {out : Int32} (e : M_Y_glyph v0 g = some out) (c : Q (some (.int out)) (hp g)) : mw (ab_ext L xs) J_Y_glyph [.int v0] (hp g) Q := by
  unfold M_Y_glyph at e
  refine wp_p (j := J_Y_glyph) 2 (pc' := 3) (lv' := [(0, .int v0)]) (st' := [.int 105, .int v0]) rfl ?_
  refine x_eq e rfl (fun e => ?_) (fun e => ?_)
  · refine wp_p (j := J_Y_glyph) 1 (pc' := 61) (lv' := [(0, .int v0)]) (st' := [.int 2]) rfl ?_
    have e := Option.some.inj e; subst e; exact wp_iret (ty := .int) rfl rfl rfl c
  · refine wp_p (j := J_Y_glyph) 2 (pc' := 9) (lv' := [(0, .int v0)]) (st' := [.int 108, .int v0]) rfl ?_
    refine x_eq e rfl (fun e => ?_) (fun e => ?_)
    · refine wp_p (j := J_Y_glyph) 1 (pc' := 61) (lv' := [(0, .int v0)]) (st' := [.int 2]) rfl ?_
      have e := Option.some.inj e; subst e; exact wp_iret (ty := .int) rfl rfl rfl c
    · refine wp_p (j := J_Y_glyph) 2 (pc' := 15) (lv' := [(0, .int v0)]) (st' := [.int 106, .int v0]) rfl ?_
      refine x_eq e rfl (fun e => ?_) (fun e => ?_)
      · refine wp_p (j := J_Y_glyph) 1 (pc' := 61) (lv' := [(0, .int v0)]) (st' := [.int 2]) rfl ?_
        have e := Option.some.inj e; subst e; exact wp_iret (ty := .int) rfl rfl rfl c
      · refine wp_p (j := J_Y_glyph) 2 (pc' := 21) (lv' := [(0, .int v0)]) (st' := [.int 46, .int v0]) rfl ?_
        refine x_eq e rfl (fun e => ?_) (fun e => ?_)
        · refine wp_p (j := J_Y_glyph) 1 (pc' := 61) (lv' := [(0, .int v0)]) (st' := [.int 2]) rfl ?_
          have e := Option.some.inj e; subst e; exact wp_iret (ty := .int) rfl rfl rfl c
        · refine wp_p (j := J_Y_glyph) 2 (pc' := 27) (lv' := [(0, .int v0)]) (st' := [.int 44, .int v0]) rfl ?_
          refine x_eq e rfl (fun e => ?_) (fun e => ?_)
          · refine wp_p (j := J_Y_glyph) 1 (pc' := 61) (lv' := [(0, .int v0)]) (st' := [.int 2]) rfl ?_
            have e := Option.some.inj e; subst e; exact wp_iret (ty := .int) rfl rfl rfl c
          · refine wp_p (j := J_Y_glyph) 2 (pc' := 33) (lv' := [(0, .int v0)]) (st' := [.int 39, .int v0]) rfl ?_
            refine x_eq e rfl (fun e => ?_) (fun e => ?_)
            · refine wp_p (j := J_Y_glyph) 1 (pc' := 61) (lv' := [(0, .int v0)]) (st' := [.int 2]) rfl ?_
              have e := Option.some.inj e; subst e; exact wp_iret (ty := .int) rfl rfl rfl c
            · refine wp_p (j := J_Y_glyph) 2 (pc' := 39) (lv' := [(0, .int v0)]) (st' := [.int 58, .int v0]) rfl ?_
              refine x_eq e rfl (fun e => ?_) (fun e => ?_)
              · refine wp_p (j := J_Y_glyph) 1 (pc' := 61) (lv' := [(0, .int v0)]) (st' := [.int 2]) rfl ?_
                have e := Option.some.inj e; subst e; exact wp_iret (ty := .int) rfl rfl rfl c
              · refine wp_p (j := J_Y_glyph) 2 (pc' := 45) (lv' := [(0, .int v0)]) (st' := [.int 59, .int v0]) rfl ?_
                refine x_eq e rfl (fun e => ?_) (fun e => ?_)
                · refine wp_p (j := J_Y_glyph) 1 (pc' := 61) (lv' := [(0, .int v0)]) (st' := [.int 2]) rfl ?_
                  have e := Option.some.inj e; subst e; exact wp_iret (ty := .int) rfl rfl rfl c
                · refine wp_p (j := J_Y_glyph) 2 (pc' := 51) (lv' := [(0, .int v0)]) (st' := [.int 33, .int v0]) rfl ?_
                  refine x_eq e rfl (fun e => ?_) (fun e => ?_)
                  · refine wp_p (j := J_Y_glyph) 1 (pc' := 61) (lv' := [(0, .int v0)]) (st' := [.int 2]) rfl ?_
                    have e := Option.some.inj e; subst e; exact wp_iret (ty := .int) rfl rfl rfl c
                  · refine wp_p (j := J_Y_glyph) 2 (pc' := 57) (lv' := [(0, .int v0)]) (st' := [.int 124, .int v0]) rfl ?_
                    refine x_ne e rfl (fun e => ?_) (fun e => ?_)
                    · refine wp_p (j := J_Y_glyph) 1 (pc' := 61) (lv' := [(0, .int v0)]) (st' := [.int 2]) rfl ?_
                      have e := Option.some.inj e; subst e; exact wp_iret (ty := .int) rfl rfl rfl c
                    · refine wp_p (j := J_Y_glyph) 2 (pc' := 65) (lv' := [(0, .int v0)]) (st' := [.int 109, .int v0]) rfl ?_
                      refine x_eq e rfl (fun e => ?_) (fun e => ?_)
                      · refine wp_p (j := J_Y_glyph) 2 (pc' := 97) (lv' := [(0, .int v0)]) (st' := [.int 5]) rfl ?_
                        have e := Option.some.inj e; subst e; exact wp_iret (ty := .int) rfl rfl rfl c
                      · refine wp_p (j := J_Y_glyph) 2 (pc' := 71) (lv' := [(0, .int v0)]) (st' := [.int 119, .int v0]) rfl ?_
                        refine x_eq e rfl (fun e => ?_) (fun e => ?_)
                        · refine wp_p (j := J_Y_glyph) 2 (pc' := 97) (lv' := [(0, .int v0)]) (st' := [.int 5]) rfl ?_
                          have e := Option.some.inj e; subst e; exact wp_iret (ty := .int) rfl rfl rfl c
                        · refine wp_p (j := J_Y_glyph) 2 (pc' := 77) (lv' := [(0, .int v0)]) (st' := [.int 77, .int v0]) rfl ?_
                          refine x_eq e rfl (fun e => ?_) (fun e => ?_)
                          · refine wp_p (j := J_Y_glyph) 2 (pc' := 97) (lv' := [(0, .int v0)]) (st' := [.int 5]) rfl ?_
                            have e := Option.some.inj e; subst e; exact wp_iret (ty := .int) rfl rfl rfl c
                          · refine wp_p (j := J_Y_glyph) 2 (pc' := 83) (lv' := [(0, .int v0)]) (st' := [.int 87, .int v0]) rfl ?_
                            refine x_eq e rfl (fun e => ?_) (fun e => ?_)
                            · refine wp_p (j := J_Y_glyph) 2 (pc' := 97) (lv' := [(0, .int v0)]) (st' := [.int 5]) rfl ?_
                              have e := Option.some.inj e; subst e; exact wp_iret (ty := .int) rfl rfl rfl c
                            · refine wp_p (j := J_Y_glyph) 2 (pc' := 89) (lv' := [(0, .int v0)]) (st' := [.int 64, .int v0]) rfl ?_
                              refine x_ne e rfl (fun e => ?_) (fun e => ?_)
                              · refine wp_p (j := J_Y_glyph) 2 (pc' := 97) (lv' := [(0, .int v0)]) (st' := [.int 5]) rfl ?_
                                have e := Option.some.inj e; subst e; exact wp_iret (ty := .int) rfl rfl rfl c
                              · refine wp_p (j := J_Y_glyph) 1 (pc' := 97) (lv' := [(0, .int v0)]) (st' := [.int 4]) rfl ?_
                                have e := Option.some.inj e; subst e; exact wp_iret (ty := .int) rfl rfl rfl c
def cL_Y_oneLine_43 (L : Nat) (xs : Nat → Int32) (Q : Option Value → ab_H → Prop) (v0 : Nat) (v1 : Int32) (v5 : Int32) (v6 : Int32) (g : g_S) (out : (Int32 × Int32 × Int32 × Int32) ⊕ (Int32 × Int32 × Int32)) : Prop := match out with
  | .inl s => wp (ab_ext L xs) J_Y_oneLine 43 [(0, .ref v0), (1, .int v1), (2, .int s.1), (3, .int s.2.1), (4, .int s.2.2.1), (5, .int v5), (6, .int v6), (7, .int s.2.2.2)] [] (hp g) Q
  | .inr s => wp (ab_ext L xs) J_Y_oneLine 120 [(0, .ref v0), (1, .int v1), (2, .int s.1), (3, .int s.2.1), (4, .int s.2.2), (5, .int v5)] [] (hp g) Q
noncomputable def b_Y_oneLine_43 (v0 : Nat) (v1 : Int32) (v5 : Int32) (v6 : Int32) (v2 : Int32) (v3 : Int32) (v4 : Int32) (v7 : Int32) (g : g_S) : Option ((Int32 × Int32 × Int32 × Int32) ⊕ (Int32 × Int32 × Int32)) :=
  (rQ g 112 v0 62).bind fun z1 =>
  (aI g 0 z1 v5).bind fun z2 =>
  if v7 < z2 then
    (rQ g 112 v0 61).bind fun z3 =>
    (aI g 1 z3 ((400 * v5) + v7)).bind fun z4 =>
    (M_Y_isBlank z4 g).bind fun z5 =>
    if z5 = 0 then
      (M_Y_glyph z4 g).bind fun z6 =>
      some (.inl (v2 + (v3 + (z6 * v6)), 0, 1, v7 + 1))
    else
      if v4 = 0 then
        some (.inl (v2, v3, v4, v7 + 1))
      else
        if v3 = 0 then
          some (.inl (v2, 3 * v6, v4, v7 + 1))
        else
          some (.inl (v2, v3, v4, v7 + 1))
  else
    some (.inr (v2, v3, v4))
set_option maxRecDepth 20000 in
theorem y_Y_oneLine_43 {L : Nat} {xs : Nat → Int32} {Q : Option Value → ab_H → Prop} {v0 : Nat} {v1 : Int32} {v5 : Int32} {v6 : Int32} {v2 : Int32} {v3 : Int32} {v4 : Int32} {v7 : Int32} {g : g_S} {out : (Int32 × Int32 × Int32 × Int32) ⊕ (Int32 × Int32 × Int32)} (e : b_Y_oneLine_43 v0 v1 v5 v6 v2 v3 v4 v7 g = some out) (c : cL_Y_oneLine_43 L xs Q v0 v1 v5 v6 g out) : wp (ab_ext L xs) J_Y_oneLine 43 [(0, .ref v0), (1, .int v1), (2, .int v2), (3, .int v3), (4, .int v4), (5, .int v5), (6, .int v6), (7, .int v7)] [] (hp g) Q := by
  unfold b_Y_oneLine_43 at e
  refine wp_p (j := J_Y_oneLine) 2 (pc' := 46) (lv' := [(0, .ref v0), (1, .int v1), (2, .int v2), (3, .int v3), (4, .int v4), (5, .int v5), (6, .int v6), (7, .int v7)]) (st' := [.ref v0, .int v7]) rfl ?_
  refine x_gQ e rfl rfl fd_12_62 rfl (fun z1 e => ?_)
  refine wp_p (j := J_Y_oneLine) 1 (pc' := 51) (lv' := [(0, .ref v0), (1, .int v1), (2, .int v2), (3, .int v3), (4, .int v4), (5, .int v5), (6, .int v6), (7, .int v7)]) (st' := [.int v5, .ref z1, .int v7]) rfl ?_
  refine x_aI e rfl rfl (fun z2 e => ?_)
  refine x_ge e rfl (fun e => ?_) (fun e => ?_)
  · refine wp_p (j := J_Y_oneLine) 1 (pc' := 56) (lv' := [(0, .ref v0), (1, .int v1), (2, .int v2), (3, .int v3), (4, .int v4), (5, .int v5), (6, .int v6), (7, .int v7)]) (st' := [.ref v0]) rfl ?_
    refine x_gQ e rfl rfl fd_12_61 rfl (fun z3 e => ?_)
    refine wp_p (j := J_Y_oneLine) 5 (pc' := 68) (lv' := [(0, .ref v0), (1, .int v1), (2, .int v2), (3, .int v3), (4, .int v4), (5, .int v5), (6, .int v6), (7, .int v7)]) (st' := [.int ((400 * v5) + v7), .ref z3]) rfl ?_
    refine x_aB e rfl (.inl rfl) rfl (fun z4 e => ?_)
    refine wp_p (j := J_Y_oneLine) 2 (pc' := 73) (lv' := [(8, .int z4), (0, .ref v0), (1, .int v1), (2, .int v2), (3, .int v3), (4, .int v4), (5, .int v5), (6, .int v6), (7, .int v7)]) (st' := [.int z4]) rfl ?_
    refine x_cs1 (As := [.int z4]) (rest := []) Value.int e rfl rfl rfl rfl rfl (fun h => d_Y_isBlank h ⟨rfl, rfl⟩) (fun z5 e => ?_)
    refine z_eq e rfl (fun e => ?_) (fun e => ?_)
    · refine wp_p (j := J_Y_oneLine) 3 (pc' := 100) (lv' := [(8, .int z4), (0, .ref v0), (1, .int v1), (2, .int v2), (3, .int v3), (4, .int v4), (5, .int v5), (6, .int v6), (7, .int v7)]) (st' := [.int z4, .int v3, .int v2]) rfl ?_
      refine x_cs1 (As := [.int z4]) (rest := [.int v3, .int v2]) Value.int e rfl rfl rfl rfl rfl (fun h => d_Y_glyph h ⟨rfl, rfl⟩) (fun z6 e => ?_)
      refine wp_p (j := J_Y_oneLine) 11 (pc' := 43) (lv' := [(7, .int (v7 + 1)), (4, .int 1), (3, .int 0), (2, .int (v2 + (v3 + (z6 * v6)))), (8, .int z4), (0, .ref v0), (1, .int v1), (5, .int v5), (6, .int v6)]) (st' := []) rfl ?_
      have e := Option.some.inj e; subst e; exact wp_lv (lv' := [(0, .ref v0), (1, .int v1), (2, .int (v2 + (v3 + (z6 * v6)))), (3, .int 0), (4, .int 1), (5, .int v5), (6, .int v6), (7, .int (v7 + 1))]) rfl ⟨rfl, rfl, rfl, rfl, rfl, rfl, rfl, rfl, trivial⟩ c
    · refine wp_p (j := J_Y_oneLine) 1 (pc' := 81) (lv' := [(8, .int z4), (0, .ref v0), (1, .int v1), (2, .int v2), (3, .int v3), (4, .int v4), (5, .int v5), (6, .int v6), (7, .int v7)]) (st' := [.int v4]) rfl ?_
      refine z_eq e rfl (fun e => ?_) (fun e => ?_)
      · refine wp_p (j := J_Y_oneLine) 2 (pc' := 43) (lv' := [(7, .int (v7 + 1)), (8, .int z4), (0, .ref v0), (1, .int v1), (2, .int v2), (3, .int v3), (4, .int v4), (5, .int v5), (6, .int v6)]) (st' := []) rfl ?_
        have e := Option.some.inj e; subst e; exact wp_lv (lv' := [(0, .ref v0), (1, .int v1), (2, .int v2), (3, .int v3), (4, .int v4), (5, .int v5), (6, .int v6), (7, .int (v7 + 1))]) rfl ⟨rfl, rfl, rfl, rfl, rfl, rfl, rfl, rfl, trivial⟩ c
      · refine wp_p (j := J_Y_oneLine) 1 (pc' := 85) (lv' := [(8, .int z4), (0, .ref v0), (1, .int v1), (2, .int v2), (3, .int v3), (4, .int v4), (5, .int v5), (6, .int v6), (7, .int v7)]) (st' := [.int v3]) rfl ?_
        refine z_ne e rfl (fun e => ?_) (fun e => ?_)
        · refine wp_p (j := J_Y_oneLine) 7 (pc' := 43) (lv' := [(7, .int (v7 + 1)), (3, .int (3 * v6)), (8, .int z4), (0, .ref v0), (1, .int v1), (2, .int v2), (4, .int v4), (5, .int v5), (6, .int v6)]) (st' := []) rfl ?_
          have e := Option.some.inj e; subst e; exact wp_lv (lv' := [(0, .ref v0), (1, .int v1), (2, .int v2), (3, .int (3 * v6)), (4, .int v4), (5, .int v5), (6, .int v6), (7, .int (v7 + 1))]) rfl ⟨rfl, rfl, rfl, rfl, rfl, rfl, rfl, rfl, trivial⟩ c
        · refine wp_p (j := J_Y_oneLine) 2 (pc' := 43) (lv' := [(7, .int (v7 + 1)), (8, .int z4), (0, .ref v0), (1, .int v1), (2, .int v2), (3, .int v3), (4, .int v4), (5, .int v5), (6, .int v6)]) (st' := []) rfl ?_
          have e := Option.some.inj e; subst e; exact wp_lv (lv' := [(0, .ref v0), (1, .int v1), (2, .int v2), (3, .int v3), (4, .int v4), (5, .int v5), (6, .int v6), (7, .int (v7 + 1))]) rfl ⟨rfl, rfl, rfl, rfl, rfl, rfl, rfl, rfl, trivial⟩ c
  · have e := Option.some.inj e; subst e; exact wp_lv (lv' := [(0, .ref v0), (1, .int v1), (2, .int v2), (3, .int v3), (4, .int v4), (5, .int v5)]) rfl ⟨rfl, rfl, rfl, rfl, rfl, rfl, trivial⟩ c
noncomputable def L_Y_oneLine_43 (v0 : Nat) (v1 : Int32) (v5 : Int32) (v6 : Int32) (v2 : Int32) (v3 : Int32) (v4 : Int32) (v7 : Int32) (g : g_S) : Option (Int32 × Int32 × Int32) := it (fun s : Int32 × Int32 × Int32 × Int32 => b_Y_oneLine_43 v0 v1 v5 v6 s.1 s.2.1 s.2.2.1 s.2.2.2 g) (v2, v3, v4, v7)
theorem l_Y_oneLine_43 {L : Nat} {xs : Nat → Int32} {Q : Option Value → ab_H → Prop} {v0 : Nat} {v1 : Int32} {v5 : Int32} {v6 : Int32} {v2 : Int32} {v3 : Int32} {v4 : Int32} {v7 : Int32} {g : g_S} {r : Int32 × Int32 × Int32} (e : L_Y_oneLine_43 v0 v1 v5 v6 v2 v3 v4 v7 g = some r) (c : cL_Y_oneLine_43 L xs Q v0 v1 v5 v6 g (.inr r)) : wp (ab_ext L xs) J_Y_oneLine 43 [(0, .ref v0), (1, .int v1), (2, .int v2), (3, .int v3), (4, .int v4), (5, .int v5), (6, .int v6), (7, .int v7)] [] (hp g) Q :=
  it_wp (P := fun s : Int32 × Int32 × Int32 × Int32 => wp (ab_ext L xs) J_Y_oneLine 43 [(0, .ref v0), (1, .int v1), (2, .int s.1), (3, .int s.2.1), (4, .int s.2.2.1), (5, .int v5), (6, .int v6), (7, .int s.2.2.2)] [] (hp g) Q) (E := fun r => cL_Y_oneLine_43 L xs Q v0 v1 v5 v6 g (.inr r)) (fun s out e c => y_Y_oneLine_43 e (by cases out <;> exact c)) e c
theorem L_Y_oneLine_43_eq (v0 : Nat) (v1 : Int32) (v5 : Int32) (v6 : Int32) (v2 : Int32) (v3 : Int32) (v4 : Int32) (v7 : Int32) (g : g_S) : L_Y_oneLine_43 v0 v1 v5 v6 v2 v3 v4 v7 g = itc (b_Y_oneLine_43 v0 v1 v5 v6 v2 v3 v4 v7 g) (fun s => L_Y_oneLine_43 v0 v1 v5 v6 s.1 s.2.1 s.2.2.1 s.2.2.2 g) := it_eq2 (fun s : Int32 × Int32 × Int32 × Int32 => b_Y_oneLine_43 v0 v1 v5 v6 s.1 s.2.1 s.2.2.1 s.2.2.2 g) (v2, v3, v4, v7)
def cL_Y_oneLine_10 (L : Nat) (xs : Nat → Int32) (Q : Option Value → ab_H → Prop) (v0 : Nat) (v1 : Int32) (g : g_S) (out : (Int32 × Int32 × Int32 × Int32) ⊕ (Int32)) : Prop := match out with
  | .inl s => wp (ab_ext L xs) J_Y_oneLine 10 [(0, .ref v0), (1, .int v1), (2, .int s.1), (3, .int s.2.1), (4, .int s.2.2.1), (5, .int s.2.2.2)] [] (hp g) Q
  | .inr s => wp (ab_ext L xs) J_Y_oneLine 132 [(2, .int s)] [] (hp g) Q
noncomputable def k_Y_oneLine_120 (v0 : Nat) (v1 : Int32) (v2 : Int32) (v3 : Int32) (v4 : Int32) (v5 : Int32) (g : g_S) : Option ((Int32 × Int32 × Int32 × Int32) ⊕ (Int32)) :=
  (vc g 112 v0 (M_Y_after v0 v5 v1 g)).bind fun z1 =>
  some (.inl (v2, v3, v4, z1))
set_option maxRecDepth 20000 in
theorem x_Y_oneLine_120 {L : Nat} {xs : Nat → Int32} {Q : Option Value → ab_H → Prop} {v0 : Nat} {v1 : Int32} {v2 : Int32} {v3 : Int32} {v4 : Int32} {v5 : Int32} {g : g_S} {out : (Int32 × Int32 × Int32 × Int32) ⊕ (Int32)} (e : k_Y_oneLine_120 v0 v1 v2 v3 v4 v5 g = some out) (c : cL_Y_oneLine_10 L xs Q v0 v1 g out) : wp (ab_ext L xs) J_Y_oneLine 120 [(0, .ref v0), (1, .int v1), (2, .int v2), (3, .int v3), (4, .int v4), (5, .int v5)] [] (hp g) Q := by
  unfold k_Y_oneLine_120 at e
  refine wp_p (j := J_Y_oneLine) 3 (pc' := 124) (lv' := [(0, .ref v0), (1, .int v1), (2, .int v2), (3, .int v3), (4, .int v4), (5, .int v5)]) (st' := [.int v1, .int v5, .ref v0]) rfl ?_
  refine x_cv1 (As := [.int v5, .int v1]) (rest := []) Value.int e rfl rfl rfl rfl rfl rfl (fun h => d_Y_after h ⟨rfl, rfl⟩) (fun z1 e => ?_)
  refine wp_p (j := J_Y_oneLine) 2 (pc' := 10) (lv' := [(5, .int z1), (0, .ref v0), (1, .int v1), (2, .int v2), (3, .int v3), (4, .int v4)]) (st' := []) rfl ?_
  have e := Option.some.inj e; subst e; exact wp_lv (lv' := [(0, .ref v0), (1, .int v1), (2, .int v2), (3, .int v3), (4, .int v4), (5, .int z1)]) rfl ⟨rfl, rfl, rfl, rfl, rfl, rfl, trivial⟩ c
noncomputable def b_Y_oneLine_10 (v0 : Nat) (v1 : Int32) (v2 : Int32) (v3 : Int32) (v4 : Int32) (v5 : Int32) (g : g_S) : Option ((Int32 × Int32 × Int32 × Int32) ⊕ (Int32)) :=
  if v5 = (-1) then
    some (.inr v2)
  else
    (rQ g 112 v0 46).bind fun z1 =>
    (aI g 0 z1 v5).bind fun z2 =>
    if z2 = 17 then
      (vc g 112 v0 (M_Y_of v0 v1 8 g)).bind fun z3 =>
      (L_Y_oneLine_43 v0 v1 v5 z3 v2 v3 v4 0 g).bind <| u3 fun z6 z7 z8 =>
      k_Y_oneLine_120 v0 v1 z6 z7 z8 v5 g
    else
      k_Y_oneLine_120 v0 v1 v2 v3 v4 v5 g
set_option maxRecDepth 20000 in
theorem y_Y_oneLine_10 {L : Nat} {xs : Nat → Int32} {Q : Option Value → ab_H → Prop} {v0 : Nat} {v1 : Int32} {v2 : Int32} {v3 : Int32} {v4 : Int32} {v5 : Int32} {g : g_S} {out : (Int32 × Int32 × Int32 × Int32) ⊕ (Int32)} (e : b_Y_oneLine_10 v0 v1 v2 v3 v4 v5 g = some out) (c : cL_Y_oneLine_10 L xs Q v0 v1 g out) : wp (ab_ext L xs) J_Y_oneLine 10 [(0, .ref v0), (1, .int v1), (2, .int v2), (3, .int v3), (4, .int v4), (5, .int v5)] [] (hp g) Q := by
  unfold b_Y_oneLine_10 at e
  refine wp_p (j := J_Y_oneLine) 2 (pc' := 13) (lv' := [(0, .ref v0), (1, .int v1), (2, .int v2), (3, .int v3), (4, .int v4), (5, .int v5)]) (st' := [.int (-1), .int v5]) rfl ?_
  refine x_eq e rfl (fun e => ?_) (fun e => ?_)
  · have e := Option.some.inj e; subst e; exact wp_lv (lv' := [(2, .int v2)]) rfl ⟨rfl, trivial⟩ c
  · refine wp_p (j := J_Y_oneLine) 1 (pc' := 17) (lv' := [(0, .ref v0), (1, .int v1), (2, .int v2), (3, .int v3), (4, .int v4), (5, .int v5)]) (st' := [.ref v0]) rfl ?_
    refine x_gQ e rfl rfl fd_12_46 rfl (fun z1 e => ?_)
    refine wp_p (j := J_Y_oneLine) 1 (pc' := 22) (lv' := [(0, .ref v0), (1, .int v1), (2, .int v2), (3, .int v3), (4, .int v4), (5, .int v5)]) (st' := [.int v5, .ref z1]) rfl ?_
    refine x_aI e rfl rfl (fun z2 e => ?_)
    refine wp_p (j := J_Y_oneLine) 1 (pc' := 25) (lv' := [(0, .ref v0), (1, .int v1), (2, .int v2), (3, .int v3), (4, .int v4), (5, .int v5)]) (st' := [.int 17, .int z2]) rfl ?_
    refine x_eq e rfl (fun e => ?_) (fun e => ?_)
    · refine wp_p (j := J_Y_oneLine) 3 (pc' := 35) (lv' := [(0, .ref v0), (1, .int v1), (2, .int v2), (3, .int v3), (4, .int v4), (5, .int v5)]) (st' := [.int 8, .int v1, .ref v0]) rfl ?_
      refine x_cv1 (As := [.int v1, .int 8]) (rest := []) Value.int e rfl rfl rfl rfl rfl rfl (fun h => d_Y_of h ⟨rfl, rfl⟩) (fun z3 e => ?_)
      refine wp_p (j := J_Y_oneLine) 3 (pc' := 43) (lv' := [(7, .int 0), (6, .int z3), (0, .ref v0), (1, .int v1), (2, .int v2), (3, .int v3), (4, .int v4), (5, .int v5)]) (st' := []) rfl ?_
      obtain ⟨s4, h5, e⟩ := bd e
      refine wp_lv (lv' := [(0, .ref v0), (1, .int v1), (2, .int v2), (3, .int v3), (4, .int v4), (5, .int v5), (6, .int z3), (7, .int 0)]) rfl ⟨rfl, rfl, rfl, rfl, rfl, rfl, rfl, rfl, trivial⟩ ?_
      refine l_Y_oneLine_43 h5 ?_
      obtain ⟨z6, z7, z8⟩ := s4
      replace e := u3_e e
      show wp (ab_ext L xs) J_Y_oneLine 120 [(0, .ref v0), (1, .int v1), (2, .int z6), (3, .int z7), (4, .int z8), (5, .int v5)] [] (hp g) Q
      exact wp_lv (lv' := [(0, .ref v0), (1, .int v1), (2, .int z6), (3, .int z7), (4, .int z8), (5, .int v5)]) rfl ⟨rfl, rfl, rfl, rfl, rfl, rfl, trivial⟩ (x_Y_oneLine_120 e c)
    · refine wp_p (j := J_Y_oneLine) 1 (pc' := 120) (lv' := [(0, .ref v0), (1, .int v1), (2, .int v2), (3, .int v3), (4, .int v4), (5, .int v5)]) (st' := []) rfl ?_
      exact wp_lv (lv' := [(0, .ref v0), (1, .int v1), (2, .int v2), (3, .int v3), (4, .int v4), (5, .int v5)]) rfl ⟨rfl, rfl, rfl, rfl, rfl, rfl, trivial⟩ (x_Y_oneLine_120 e c)
noncomputable def L_Y_oneLine_10 (v0 : Nat) (v1 : Int32) (v2 : Int32) (v3 : Int32) (v4 : Int32) (v5 : Int32) (g : g_S) : Option (Int32) := it (fun s : Int32 × Int32 × Int32 × Int32 => b_Y_oneLine_10 v0 v1 s.1 s.2.1 s.2.2.1 s.2.2.2 g) (v2, v3, v4, v5)
theorem l_Y_oneLine_10 {L : Nat} {xs : Nat → Int32} {Q : Option Value → ab_H → Prop} {v0 : Nat} {v1 : Int32} {v2 : Int32} {v3 : Int32} {v4 : Int32} {v5 : Int32} {g : g_S} {r : Int32} (e : L_Y_oneLine_10 v0 v1 v2 v3 v4 v5 g = some r) (c : cL_Y_oneLine_10 L xs Q v0 v1 g (.inr r)) : wp (ab_ext L xs) J_Y_oneLine 10 [(0, .ref v0), (1, .int v1), (2, .int v2), (3, .int v3), (4, .int v4), (5, .int v5)] [] (hp g) Q :=
  it_wp (P := fun s : Int32 × Int32 × Int32 × Int32 => wp (ab_ext L xs) J_Y_oneLine 10 [(0, .ref v0), (1, .int v1), (2, .int s.1), (3, .int s.2.1), (4, .int s.2.2.1), (5, .int s.2.2.2)] [] (hp g) Q) (E := fun r => cL_Y_oneLine_10 L xs Q v0 v1 g (.inr r)) (fun s out e c => y_Y_oneLine_10 e (by cases out <;> exact c)) e c
theorem L_Y_oneLine_10_eq (v0 : Nat) (v1 : Int32) (v2 : Int32) (v3 : Int32) (v4 : Int32) (v5 : Int32) (g : g_S) : L_Y_oneLine_10 v0 v1 v2 v3 v4 v5 g = itc (b_Y_oneLine_10 v0 v1 v2 v3 v4 v5 g) (fun s => L_Y_oneLine_10 v0 v1 s.1 s.2.1 s.2.2.1 s.2.2.2 g) := it_eq2 (fun s : Int32 × Int32 × Int32 × Int32 => b_Y_oneLine_10 v0 v1 s.1 s.2.1 s.2.2.1 s.2.2.2 g) (v2, v3, v4, v5)
noncomputable def M_Y_oneLine (v0 : Nat) (v1 : Int32) (g : g_S) : Option Int32 :=
  (L_Y_oneLine_10 v0 v1 0 0 0 v1 g).bind <| fun z3 =>
  some z3
set_option maxRecDepth 20000 in
theorem d_Y_oneLine {L : Nat} {xs : Nat → Int32} {Q : Option Value → ab_H → Prop} {v0 : Nat} {v1 : Int32} {g : g_S} {out : Int32} (e : M_Y_oneLine v0 v1 g = some out) (c : Q (some (.int out)) (hp g)) : mw (ab_ext L xs) J_Y_oneLine [.ref v0, .int v1] (hp g) Q := by
  unfold M_Y_oneLine at e
  refine wp_p (j := J_Y_oneLine) 8 (pc' := 10) (lv' := [(5, .int v1), (4, .int 0), (3, .int 0), (2, .int 0), (0, .ref v0), (1, .int v1)]) (st' := []) rfl ?_
  obtain ⟨z3, h2, e⟩ := bd e
  refine wp_lv (lv' := [(0, .ref v0), (1, .int v1), (2, .int 0), (3, .int 0), (4, .int 0), (5, .int v1)]) rfl ⟨rfl, rfl, rfl, rfl, rfl, rfl, trivial⟩ ?_
  refine l_Y_oneLine_10 h2 ?_
  show wp (ab_ext L xs) J_Y_oneLine 132 [(2, .int z3)] [] (hp g) Q
  refine wp_p (j := J_Y_oneLine) 1 (pc' := 133) (lv' := [(2, .int z3)]) (st' := [.int z3]) rfl ?_
  have e := Option.some.inj e; subst e; exact wp_iret (ty := .int) rfl rfl rfl c
noncomputable def k_Y_widen_95 (v0 : Nat) (v1 : Int32) (v3 : Int32) (v4 : Int32) (g : g_S) : Option g_S :=
  (rQ g 112 v0 112).bind fun z1 =>
  (sI g z1 v1 (mx v4 v3)).bind fun g2 =>
  some g2
set_option maxRecDepth 20000 in
theorem x_Y_widen_95 {L : Nat} {xs : Nat → Int32} {Q : Option Value → ab_H → Prop} {v0 : Nat} {v1 : Int32} {v3 : Int32} {v4 : Int32} {g : g_S} {out : g_S} (e : k_Y_widen_95 v0 v1 v3 v4 g = some out) (c : Q none (hp out)) : wp (ab_ext L xs) J_Y_widen 95 [(0, .ref v0), (1, .int v1), (3, .int v3), (4, .int v4)] [] (hp g) Q := by
  unfold k_Y_widen_95 at e
  refine wp_p (j := J_Y_widen) 1 (pc' := 96) (lv' := [(0, .ref v0), (1, .int v1), (3, .int v3), (4, .int v4)]) (st' := [.ref v0]) rfl ?_
  refine x_gQ e rfl rfl fd_12_112 rfl (fun z1 e => ?_)
  refine wp_p (j := J_Y_widen) 3 (pc' := 103) (lv' := [(0, .ref v0), (1, .int v1), (3, .int v3), (4, .int v4)]) (st' := [.int v3, .int v4, .int v1, .ref z1]) rfl ?_
  refine x_mx rfl rfl ?_
  refine x_sI e rfl rfl (fun g2 e => ?_)
  have e := Option.some.inj e; subst e; exact wp_vret rfl rfl c
noncomputable def M_Y_widen (v0 : Nat) (v1 : Int32) (g : g_S) : Option g_S :=
  (rQ g 112 v0 109).bind fun z1 =>
  (aI g 0 z1 v1).bind fun z2 =>
  (vc g 112 v0 (M_Y_inner v0 z2 g)).bind fun z3 =>
  (vc g 112 v0 (M_Y_edges v0 v1 g)).bind fun z4 =>
  (vc g 112 v0 (M_Y_told v0 v1 z3 g)).bind fun z5 =>
  if z5 = (-1) then
    (vc g 112 v0 (M_Y_of v0 v1 3 g)).bind fun z6 =>
    (rQ g 112 v0 108).bind fun z7 =>
    (aI g 2 z7 v1).bind fun z8 =>
    if z8 = 0 then
      (rQ g 112 v0 107).bind fun z9 =>
      (rQ g 112 v0 109).bind fun z10 =>
      (aI g 0 z10 v1).bind fun z11 =>
      (aI g 0 z9 z11).bind fun z12 =>
      if z12 = 2 then
        (vc g 112 v0 (M_Y_oneLine v0 v1 g)).bind fun z13 =>
        k_Y_widen_95 v0 v1 (2 * z4) (z13 + (2 * z4)) g
      else
        k_Y_widen_95 v0 v1 (2 * z4) (z3 - (2 * z6)) g
    else
      (vc g 112 v0 (M_Y_oneLine v0 v1 g)).bind fun z14 =>
      k_Y_widen_95 v0 v1 (2 * z4) (mn (z3 - (2 * z6)) (z14 + (2 * z4))) g
  else
    k_Y_widen_95 v0 v1 (2 * z4) z5 g
set_option maxRecDepth 20000 in
theorem d_Y_widen {L : Nat} {xs : Nat → Int32} {Q : Option Value → ab_H → Prop} {v0 : Nat} {v1 : Int32} {g : g_S} {out : g_S} (e : M_Y_widen v0 v1 g = some out) (c : Q none (hp out)) : mw (ab_ext L xs) J_Y_widen [.ref v0, .int v1] (hp g) Q := by
  unfold M_Y_widen at e
  refine wp_p (j := J_Y_widen) 2 (pc' := 2) (lv' := [(0, .ref v0), (1, .int v1)]) (st' := [.ref v0, .ref v0]) rfl ?_
  refine x_gQ e rfl rfl fd_12_109 rfl (fun z1 e => ?_)
  refine wp_p (j := J_Y_widen) 1 (pc' := 6) (lv' := [(0, .ref v0), (1, .int v1)]) (st' := [.int v1, .ref z1, .ref v0]) rfl ?_
  refine x_aI e rfl rfl (fun z2 e => ?_)
  refine x_cv1 (As := [.int z2]) (rest := []) Value.int e rfl rfl rfl rfl rfl rfl (fun h => d_Y_inner h ⟨rfl, rfl⟩) (fun z3 e => ?_)
  refine wp_p (j := J_Y_widen) 4 (pc' := 14) (lv' := [(2, .int z3), (0, .ref v0), (1, .int v1)]) (st' := [.int v1, .ref v0, .int 2]) rfl ?_
  refine x_cv1 (As := [.int v1]) (rest := [.int 2]) Value.int e rfl rfl rfl rfl rfl rfl (fun h => d_Y_edges h ⟨rfl, rfl⟩) (fun z4 e => ?_)
  refine wp_p (j := J_Y_widen) 5 (pc' := 22) (lv' := [(3, .int (2 * z4)), (2, .int z3), (0, .ref v0), (1, .int v1)]) (st' := [.int z3, .int v1, .ref v0]) rfl ?_
  refine x_cv1 (As := [.int v1, .int z3]) (rest := []) Value.int e rfl rfl rfl rfl rfl rfl (fun h => d_Y_told h ⟨rfl, rfl⟩) (fun z5 e => ?_)
  refine wp_p (j := J_Y_widen) 3 (pc' := 30) (lv' := [(4, .int z5), (3, .int (2 * z4)), (2, .int z3), (0, .ref v0), (1, .int v1)]) (st' := [.int (-1), .int z5]) rfl ?_
  refine x_ne e rfl (fun e => ?_) (fun e => ?_)
  · refine wp_p (j := J_Y_widen) 5 (pc' := 38) (lv' := [(4, .int z5), (3, .int (2 * z4)), (2, .int z3), (0, .ref v0), (1, .int v1)]) (st' := [.int 3, .int v1, .ref v0, .int 2, .int z3]) rfl ?_
    refine x_cv1 (As := [.int v1, .int 3]) (rest := [.int 2, .int z3]) Value.int e rfl rfl rfl rfl rfl rfl (fun h => d_Y_of h ⟨rfl, rfl⟩) (fun z6 e => ?_)
    refine wp_p (j := J_Y_widen) 4 (pc' := 46) (lv' := [(4, .int (z3 - (2 * z6))), (3, .int (2 * z4)), (2, .int z3), (0, .ref v0), (1, .int v1)]) (st' := [.ref v0]) rfl ?_
    refine x_gQ e rfl rfl fd_12_108 rfl (fun z7 e => ?_)
    refine wp_p (j := J_Y_widen) 1 (pc' := 50) (lv' := [(4, .int (z3 - (2 * z6))), (3, .int (2 * z4)), (2, .int z3), (0, .ref v0), (1, .int v1)]) (st' := [.int v1, .ref z7]) rfl ?_
    refine x_aB e rfl (.inr rfl) rfl (fun z8 e => ?_)
    refine z_eq e rfl (fun e => ?_) (fun e => ?_)
    · refine wp_p (j := J_Y_widen) 1 (pc' := 72) (lv' := [(4, .int (z3 - (2 * z6))), (3, .int (2 * z4)), (2, .int z3), (0, .ref v0), (1, .int v1)]) (st' := [.ref v0]) rfl ?_
      refine x_gQ e rfl rfl fd_12_107 rfl (fun z9 e => ?_)
      refine wp_p (j := J_Y_widen) 1 (pc' := 76) (lv' := [(4, .int (z3 - (2 * z6))), (3, .int (2 * z4)), (2, .int z3), (0, .ref v0), (1, .int v1)]) (st' := [.ref v0, .ref z9]) rfl ?_
      refine x_gQ e rfl rfl fd_12_109 rfl (fun z10 e => ?_)
      refine wp_p (j := J_Y_widen) 1 (pc' := 80) (lv' := [(4, .int (z3 - (2 * z6))), (3, .int (2 * z4)), (2, .int z3), (0, .ref v0), (1, .int v1)]) (st' := [.int v1, .ref z10, .ref z9]) rfl ?_
      refine x_aI e rfl rfl (fun z11 e => ?_)
      refine x_aI e rfl rfl (fun z12 e => ?_)
      refine wp_p (j := J_Y_widen) 1 (pc' := 83) (lv' := [(4, .int (z3 - (2 * z6))), (3, .int (2 * z4)), (2, .int z3), (0, .ref v0), (1, .int v1)]) (st' := [.int 2, .int z12]) rfl ?_
      refine x_ne e rfl (fun e => ?_) (fun e => ?_)
      · refine wp_p (j := J_Y_widen) 2 (pc' := 88) (lv' := [(4, .int (z3 - (2 * z6))), (3, .int (2 * z4)), (2, .int z3), (0, .ref v0), (1, .int v1)]) (st' := [.int v1, .ref v0]) rfl ?_
        refine x_cv1 (As := [.int v1]) (rest := []) Value.int e rfl rfl rfl rfl rfl rfl (fun h => d_Y_oneLine h ⟨rfl, rfl⟩) (fun z13 e => ?_)
        refine wp_p (j := J_Y_widen) 3 (pc' := 95) (lv' := [(4, .int (z13 + (2 * z4))), (3, .int (2 * z4)), (2, .int z3), (0, .ref v0), (1, .int v1)]) (st' := []) rfl ?_
        exact wp_lv (lv' := [(0, .ref v0), (1, .int v1), (3, .int (2 * z4)), (4, .int (z13 + (2 * z4)))]) rfl ⟨rfl, rfl, rfl, rfl, trivial⟩ (x_Y_widen_95 e c)
      · exact wp_lv (lv' := [(0, .ref v0), (1, .int v1), (3, .int (2 * z4)), (4, .int (z3 - (2 * z6)))]) rfl ⟨rfl, rfl, rfl, rfl, trivial⟩ (x_Y_widen_95 e c)
    · refine wp_p (j := J_Y_widen) 3 (pc' := 58) (lv' := [(4, .int (z3 - (2 * z6))), (3, .int (2 * z4)), (2, .int z3), (0, .ref v0), (1, .int v1)]) (st' := [.int v1, .ref v0, .int (z3 - (2 * z6))]) rfl ?_
      refine x_cv1 (As := [.int v1]) (rest := [.int (z3 - (2 * z6))]) Value.int e rfl rfl rfl rfl rfl rfl (fun h => d_Y_oneLine h ⟨rfl, rfl⟩) (fun z14 e => ?_)
      refine wp_p (j := J_Y_widen) 2 (pc' := 63) (lv' := [(4, .int (z3 - (2 * z6))), (3, .int (2 * z4)), (2, .int z3), (0, .ref v0), (1, .int v1)]) (st' := [.int (z14 + (2 * z4)), .int (z3 - (2 * z6))]) rfl ?_
      refine x_mn rfl rfl ?_
      refine wp_p (j := J_Y_widen) 2 (pc' := 95) (lv' := [(4, .int (mn (z3 - (2 * z6)) (z14 + (2 * z4)))), (3, .int (2 * z4)), (2, .int z3), (0, .ref v0), (1, .int v1)]) (st' := []) rfl ?_
      exact wp_lv (lv' := [(0, .ref v0), (1, .int v1), (3, .int (2 * z4)), (4, .int (mn (z3 - (2 * z6)) (z14 + (2 * z4))))]) rfl ⟨rfl, rfl, rfl, rfl, trivial⟩ (x_Y_widen_95 e c)
  · exact wp_lv (lv' := [(0, .ref v0), (1, .int v1), (3, .int (2 * z4)), (4, .int z5)]) rfl ⟨rfl, rfl, rfl, rfl, trivial⟩ (x_Y_widen_95 e c)
noncomputable def k_Y_measure_118 (v0 : Nat) (v1 : Int32) (v2 : Int32) (w0 : Int32) (w1 : Int32) (w2 : Nat) (g : g_S) : Option g_S :=
  (sI g w2 w1 w0).bind fun g1 =>
  (rQ g1 112 v0 113).bind fun z2 =>
  (sI g1 z2 v1 ((7 * v2) + 4)).bind fun g3 =>
  some g3
set_option maxRecDepth 20000 in
theorem x_Y_measure_118 {L : Nat} {xs : Nat → Int32} {Q : Option Value → ab_H → Prop} {v0 : Nat} {v1 : Int32} {v2 : Int32} {w0 : Int32} {w1 : Int32} {w2 : Nat} {g : g_S} {out : g_S} (e : k_Y_measure_118 v0 v1 v2 w0 w1 w2 g = some out) (c : Q none (hp out)) : wp (ab_ext L xs) J_Y_measure 118 [(0, .ref v0), (1, .int v1), (2, .int v2)] [.int w0, .int w1, .ref w2] (hp g) Q := by
  unfold k_Y_measure_118 at e
  refine x_sI e rfl rfl (fun g1 e => ?_)
  refine wp_p (j := J_Y_measure) 1 (pc' := 120) (lv' := [(0, .ref v0), (1, .int v1), (2, .int v2)]) (st' := [.ref v0]) rfl ?_
  refine x_gQ e rfl rfl fd_12_113 rfl (fun z2 e => ?_)
  refine wp_p (j := J_Y_measure) 6 (pc' := 130) (lv' := [(0, .ref v0), (1, .int v1), (2, .int v2)]) (st' := [.int ((7 * v2) + 4), .int v1, .ref z2]) rfl ?_
  refine x_sI e rfl rfl (fun g3 e => ?_)
  refine wp_p (j := J_Y_measure) 1 (pc' := 171) (lv' := [(0, .ref v0), (1, .int v1), (2, .int v2)]) (st' := []) rfl ?_
  have e := Option.some.inj e; subst e; exact wp_vret rfl rfl c
noncomputable def k_Y_measure_85 (w0 : Int32) (w1 : Int32) (w2 : Nat) (g : g_S) : Option g_S :=
  (sI g w2 w1 w0).bind fun g1 =>
  some g1
set_option maxRecDepth 20000 in
theorem x_Y_measure_85 {L : Nat} {xs : Nat → Int32} {Q : Option Value → ab_H → Prop} {w0 : Int32} {w1 : Int32} {w2 : Nat} {g : g_S} {out : g_S} (e : k_Y_measure_85 w0 w1 w2 g = some out) (c : Q none (hp out)) : wp (ab_ext L xs) J_Y_measure 85 [] [.int w0, .int w1, .ref w2] (hp g) Q := by
  unfold k_Y_measure_85 at e
  refine x_sI e rfl rfl (fun g1 e => ?_)
  refine wp_p (j := J_Y_measure) 1 (pc' := 171) (lv' := []) (st' := []) rfl ?_
  have e := Option.some.inj e; subst e; exact wp_vret rfl rfl c
noncomputable def k_Y_measure_56 (v0 : Nat) (v1 : Int32) (w0 : Int32) (w1 : Int32) (w2 : Nat) (g : g_S) : Option g_S :=
  (sI g w2 w1 w0).bind fun g1 =>
  (rQ g1 112 v0 113).bind fun z2 =>
  (vc g1 112 v0 (M_Y_of v0 v1 7 g1)).bind fun z3 =>
  if z3 = (-1) then
    k_Y_measure_85 8 v1 z2 g1
  else
    (vc g1 112 v0 (M_Y_of v0 v1 7 g1)).bind fun z4 =>
    k_Y_measure_85 z4 v1 z2 g1
set_option maxRecDepth 20000 in
theorem x_Y_measure_56 {L : Nat} {xs : Nat → Int32} {Q : Option Value → ab_H → Prop} {v0 : Nat} {v1 : Int32} {w0 : Int32} {w1 : Int32} {w2 : Nat} {g : g_S} {out : g_S} (e : k_Y_measure_56 v0 v1 w0 w1 w2 g = some out) (c : Q none (hp out)) : wp (ab_ext L xs) J_Y_measure 56 [(0, .ref v0), (1, .int v1)] [.int w0, .int w1, .ref w2] (hp g) Q := by
  unfold k_Y_measure_56 at e
  refine x_sI e rfl rfl (fun g1 e => ?_)
  refine wp_p (j := J_Y_measure) 1 (pc' := 58) (lv' := [(0, .ref v0), (1, .int v1)]) (st' := [.ref v0]) rfl ?_
  refine x_gQ e rfl rfl fd_12_113 rfl (fun z2 e => ?_)
  refine wp_p (j := J_Y_measure) 4 (pc' := 66) (lv' := [(0, .ref v0), (1, .int v1)]) (st' := [.int 7, .int v1, .ref v0, .int v1, .ref z2]) rfl ?_
  refine x_cv1 (As := [.int v1, .int 7]) (rest := [.int v1, .ref z2]) Value.int e rfl rfl rfl rfl rfl rfl (fun h => d_Y_of h ⟨rfl, rfl⟩) (fun z3 e => ?_)
  refine wp_p (j := J_Y_measure) 1 (pc' := 70) (lv' := [(0, .ref v0), (1, .int v1)]) (st' := [.int (-1), .int z3, .int v1, .ref z2]) rfl ?_
  refine x_ne e rfl (fun e => ?_) (fun e => ?_)
  · refine wp_p (j := J_Y_measure) 2 (pc' := 85) (lv' := [(0, .ref v0), (1, .int v1)]) (st' := [.int 8, .int v1, .ref z2]) rfl ?_
    exact wp_lv (lv' := []) rfl trivial (x_Y_measure_85 e c)
  · refine wp_p (j := J_Y_measure) 3 (pc' := 82) (lv' := [(0, .ref v0), (1, .int v1)]) (st' := [.int 7, .int v1, .ref v0, .int v1, .ref z2]) rfl ?_
    refine x_cv1 (As := [.int v1, .int 7]) (rest := [.int v1, .ref z2]) Value.int e rfl rfl rfl rfl rfl rfl (fun h => d_Y_of h ⟨rfl, rfl⟩) (fun z4 e => ?_)
    exact wp_lv (lv' := []) rfl trivial (x_Y_measure_85 e c)
noncomputable def M_Y_measure (v0 : Nat) (v1 : Int32) (g : g_S) : Option g_S :=
  (vc g 112 v0 (M_Y_of v0 v1 8 g)).bind fun z1 =>
  (rQ g 112 v0 109).bind fun z2 =>
  (aI g 0 z2 v1).bind fun z3 =>
  (vc g 112 v0 (M_Y_inner v0 z3 g)).bind fun z4 =>
  (vc g 112 v0 (M_Y_told v0 v1 z4 g)).bind fun z5 =>
  (rQ g 112 v0 46).bind fun z6 =>
  (aI g 0 z6 v1).bind fun z7 =>
  if z7 = 12 then
    (rQ g 112 v0 112).bind fun z8 =>
    if z5 = (-1) then
      k_Y_measure_56 v0 v1 8 v1 z8 g
    else
      k_Y_measure_56 v0 v1 z5 v1 z8 g
  else
    (rQ g 112 v0 46).bind fun z9 =>
    (aI g 0 z9 v1).bind fun z10 =>
    if z10 = 13 then
      (rQ g 112 v0 112).bind fun z11 =>
      if z5 = (-1) then
        k_Y_measure_118 v0 v1 z1 24 v1 z11 g
      else
        k_Y_measure_118 v0 v1 z1 z5 v1 z11 g
    else
      (rQ g 112 v0 112).bind fun z12 =>
      (vc g 112 v0 (M_Y_oneLine v0 v1 g)).bind fun z13 =>
      (vc g 112 v0 (M_Y_edges v0 v1 g)).bind fun z14 =>
      (sI g z12 v1 (z13 + (2 * z14))).bind fun g15 =>
      (rQ g15 112 v0 113).bind fun z16 =>
      (vc g15 112 v0 (M_Y_edges v0 v1 g15)).bind fun z17 =>
      (sI g15 z16 v1 ((7 * z1) + (2 * z17))).bind fun g18 =>
      some g18
set_option maxRecDepth 20000 in
theorem d_Y_measure {L : Nat} {xs : Nat → Int32} {Q : Option Value → ab_H → Prop} {v0 : Nat} {v1 : Int32} {g : g_S} {out : g_S} (e : M_Y_measure v0 v1 g = some out) (c : Q none (hp out)) : mw (ab_ext L xs) J_Y_measure [.ref v0, .int v1] (hp g) Q := by
  unfold M_Y_measure at e
  refine wp_p (j := J_Y_measure) 3 (pc' := 4) (lv' := [(0, .ref v0), (1, .int v1)]) (st' := [.int 8, .int v1, .ref v0]) rfl ?_
  refine x_cv1 (As := [.int v1, .int 8]) (rest := []) Value.int e rfl rfl rfl rfl rfl rfl (fun h => d_Y_of h ⟨rfl, rfl⟩) (fun z1 e => ?_)
  refine wp_p (j := J_Y_measure) 3 (pc' := 10) (lv' := [(2, .int z1), (0, .ref v0), (1, .int v1)]) (st' := [.ref v0, .ref v0]) rfl ?_
  refine x_gQ e rfl rfl fd_12_109 rfl (fun z2 e => ?_)
  refine wp_p (j := J_Y_measure) 1 (pc' := 14) (lv' := [(2, .int z1), (0, .ref v0), (1, .int v1)]) (st' := [.int v1, .ref z2, .ref v0]) rfl ?_
  refine x_aI e rfl rfl (fun z3 e => ?_)
  refine x_cv1 (As := [.int z3]) (rest := []) Value.int e rfl rfl rfl rfl rfl rfl (fun h => d_Y_inner h ⟨rfl, rfl⟩) (fun z4 e => ?_)
  refine wp_p (j := J_Y_measure) 4 (pc' := 22) (lv' := [(3, .int z4), (2, .int z1), (0, .ref v0), (1, .int v1)]) (st' := [.int z4, .int v1, .ref v0]) rfl ?_
  refine x_cv1 (As := [.int v1, .int z4]) (rest := []) Value.int e rfl rfl rfl rfl rfl rfl (fun h => d_Y_told h ⟨rfl, rfl⟩) (fun z5 e => ?_)
  refine wp_p (j := J_Y_measure) 2 (pc' := 28) (lv' := [(4, .int z5), (3, .int z4), (2, .int z1), (0, .ref v0), (1, .int v1)]) (st' := [.ref v0]) rfl ?_
  refine x_gQ e rfl rfl fd_12_46 rfl (fun z6 e => ?_)
  refine wp_p (j := J_Y_measure) 1 (pc' := 32) (lv' := [(4, .int z5), (3, .int z4), (2, .int z1), (0, .ref v0), (1, .int v1)]) (st' := [.int v1, .ref z6]) rfl ?_
  refine x_aI e rfl rfl (fun z7 e => ?_)
  refine wp_p (j := J_Y_measure) 1 (pc' := 35) (lv' := [(4, .int z5), (3, .int z4), (2, .int z1), (0, .ref v0), (1, .int v1)]) (st' := [.int 12, .int z7]) rfl ?_
  refine x_ne e rfl (fun e => ?_) (fun e => ?_)
  · refine wp_p (j := J_Y_measure) 1 (pc' := 39) (lv' := [(4, .int z5), (3, .int z4), (2, .int z1), (0, .ref v0), (1, .int v1)]) (st' := [.ref v0]) rfl ?_
    refine x_gQ e rfl rfl fd_12_112 rfl (fun z8 e => ?_)
    refine wp_p (j := J_Y_measure) 3 (pc' := 46) (lv' := [(4, .int z5), (3, .int z4), (2, .int z1), (0, .ref v0), (1, .int v1)]) (st' := [.int (-1), .int z5, .int v1, .ref z8]) rfl ?_
    refine x_ne e rfl (fun e => ?_) (fun e => ?_)
    · refine wp_p (j := J_Y_measure) 2 (pc' := 56) (lv' := [(4, .int z5), (3, .int z4), (2, .int z1), (0, .ref v0), (1, .int v1)]) (st' := [.int 8, .int v1, .ref z8]) rfl ?_
      exact wp_lv (lv' := [(0, .ref v0), (1, .int v1)]) rfl ⟨rfl, rfl, trivial⟩ (x_Y_measure_56 e c)
    · refine wp_p (j := J_Y_measure) 1 (pc' := 56) (lv' := [(4, .int z5), (3, .int z4), (2, .int z1), (0, .ref v0), (1, .int v1)]) (st' := [.int z5, .int v1, .ref z8]) rfl ?_
      exact wp_lv (lv' := [(0, .ref v0), (1, .int v1)]) rfl ⟨rfl, rfl, trivial⟩ (x_Y_measure_56 e c)
  · refine wp_p (j := J_Y_measure) 1 (pc' := 90) (lv' := [(4, .int z5), (3, .int z4), (2, .int z1), (0, .ref v0), (1, .int v1)]) (st' := [.ref v0]) rfl ?_
    refine x_gQ e rfl rfl fd_12_46 rfl (fun z9 e => ?_)
    refine wp_p (j := J_Y_measure) 1 (pc' := 94) (lv' := [(4, .int z5), (3, .int z4), (2, .int z1), (0, .ref v0), (1, .int v1)]) (st' := [.int v1, .ref z9]) rfl ?_
    refine x_aI e rfl rfl (fun z10 e => ?_)
    refine wp_p (j := J_Y_measure) 1 (pc' := 97) (lv' := [(4, .int z5), (3, .int z4), (2, .int z1), (0, .ref v0), (1, .int v1)]) (st' := [.int 13, .int z10]) rfl ?_
    refine x_ne e rfl (fun e => ?_) (fun e => ?_)
    · refine wp_p (j := J_Y_measure) 1 (pc' := 101) (lv' := [(4, .int z5), (3, .int z4), (2, .int z1), (0, .ref v0), (1, .int v1)]) (st' := [.ref v0]) rfl ?_
      refine x_gQ e rfl rfl fd_12_112 rfl (fun z11 e => ?_)
      refine wp_p (j := J_Y_measure) 3 (pc' := 108) (lv' := [(4, .int z5), (3, .int z4), (2, .int z1), (0, .ref v0), (1, .int v1)]) (st' := [.int (-1), .int z5, .int v1, .ref z11]) rfl ?_
      refine x_ne e rfl (fun e => ?_) (fun e => ?_)
      · refine wp_p (j := J_Y_measure) 2 (pc' := 118) (lv' := [(4, .int z5), (3, .int z4), (2, .int z1), (0, .ref v0), (1, .int v1)]) (st' := [.int 24, .int v1, .ref z11]) rfl ?_
        exact wp_lv (lv' := [(0, .ref v0), (1, .int v1), (2, .int z1)]) rfl ⟨rfl, rfl, rfl, trivial⟩ (x_Y_measure_118 e c)
      · refine wp_p (j := J_Y_measure) 1 (pc' := 118) (lv' := [(4, .int z5), (3, .int z4), (2, .int z1), (0, .ref v0), (1, .int v1)]) (st' := [.int z5, .int v1, .ref z11]) rfl ?_
        exact wp_lv (lv' := [(0, .ref v0), (1, .int v1), (2, .int z1)]) rfl ⟨rfl, rfl, rfl, trivial⟩ (x_Y_measure_118 e c)
    · refine wp_p (j := J_Y_measure) 1 (pc' := 135) (lv' := [(4, .int z5), (3, .int z4), (2, .int z1), (0, .ref v0), (1, .int v1)]) (st' := [.ref v0]) rfl ?_
      refine x_gQ e rfl rfl fd_12_112 rfl (fun z12 e => ?_)
      refine wp_p (j := J_Y_measure) 3 (pc' := 141) (lv' := [(4, .int z5), (3, .int z4), (2, .int z1), (0, .ref v0), (1, .int v1)]) (st' := [.int v1, .ref v0, .int v1, .ref z12]) rfl ?_
      refine x_cv1 (As := [.int v1]) (rest := [.int v1, .ref z12]) Value.int e rfl rfl rfl rfl rfl rfl (fun h => d_Y_oneLine h ⟨rfl, rfl⟩) (fun z13 e => ?_)
      refine wp_p (j := J_Y_measure) 3 (pc' := 147) (lv' := [(4, .int z5), (3, .int z4), (2, .int z1), (0, .ref v0), (1, .int v1)]) (st' := [.int v1, .ref v0, .int 2, .int z13, .int v1, .ref z12]) rfl ?_
      refine x_cv1 (As := [.int v1]) (rest := [.int 2, .int z13, .int v1, .ref z12]) Value.int e rfl rfl rfl rfl rfl rfl (fun h => d_Y_edges h ⟨rfl, rfl⟩) (fun z14 e => ?_)
      refine wp_p (j := J_Y_measure) 2 (pc' := 152) (lv' := [(4, .int z5), (3, .int z4), (2, .int z1), (0, .ref v0), (1, .int v1)]) (st' := [.int (z13 + (2 * z14)), .int v1, .ref z12]) rfl ?_
      refine x_sI e rfl rfl (fun g15 e => ?_)
      refine wp_p (j := J_Y_measure) 1 (pc' := 154) (lv' := [(4, .int z5), (3, .int z4), (2, .int z1), (0, .ref v0), (1, .int v1)]) (st' := [.ref v0]) rfl ?_
      refine x_gQ e rfl rfl fd_12_113 rfl (fun z16 e => ?_)
      refine wp_p (j := J_Y_measure) 7 (pc' := 165) (lv' := [(4, .int z5), (3, .int z4), (2, .int z1), (0, .ref v0), (1, .int v1)]) (st' := [.int v1, .ref v0, .int 2, .int (7 * z1), .int v1, .ref z16]) rfl ?_
      refine x_cv1 (As := [.int v1]) (rest := [.int 2, .int (7 * z1), .int v1, .ref z16]) Value.int e rfl rfl rfl rfl rfl rfl (fun h => d_Y_edges h ⟨rfl, rfl⟩) (fun z17 e => ?_)
      refine wp_p (j := J_Y_measure) 2 (pc' := 170) (lv' := [(4, .int z5), (3, .int z4), (2, .int z1), (0, .ref v0), (1, .int v1)]) (st' := [.int ((7 * z1) + (2 * z17)), .int v1, .ref z16]) rfl ?_
      refine x_sI e rfl rfl (fun g18 e => ?_)
      have e := Option.some.inj e; subst e; exact wp_vret rfl rfl c
def cL_Y_split_72 (L : Nat) (xs : Nat → Int32) (Q : Option Value → ab_H → Prop) (v0 : Nat) (v1 : Int32) (v2 : Int32) (g : g_S) (out : (Int32 × Int32) ⊕ (Int32 × Int32)) : Prop := match out with
  | .inl s => wp (ab_ext L xs) J_Y_split 72 [(0, .ref v0), (1, .int v1), (2, .int v2), (3, .int s.1), (4, .int s.2)] [] (hp g) Q
  | .inr s => wp (ab_ext L xs) J_Y_split 128 [(0, .ref v0), (1, .int v1), (2, .int v2), (3, .int s.1), (4, .int s.2)] [] (hp g) Q
noncomputable def b_Y_split_72 (v0 : Nat) (v1 : Int32) (v2 : Int32) (v3 : Int32) (v4 : Int32) (g : g_S) : Option ((Int32 × Int32) ⊕ (Int32 × Int32)) :=
  (rQ g 112 v0 62).bind fun z1 =>
  (aI g 0 z1 v1).bind fun z2 =>
  if v3 < z2 then
    (rQ g 112 v0 61).bind fun z3 =>
    (aI g 1 z3 ((400 * v1) + v3)).bind fun z4 =>
    (M_Y_isBlank z4 g).bind fun z5 =>
    if z5 = 0 then
      (rQ g 112 v0 61).bind fun z6 =>
      (aI g 1 z6 ((400 * v1) + v3)).bind fun z7 =>
      (M_Y_glyph z7 g).bind fun z8 =>
      some (.inl (v3 + 1, v4 + (z8 * v2)))
    else
      some (.inr (v3, v4))
  else
    some (.inr (v3, v4))
set_option maxRecDepth 20000 in
theorem y_Y_split_72 {L : Nat} {xs : Nat → Int32} {Q : Option Value → ab_H → Prop} {v0 : Nat} {v1 : Int32} {v2 : Int32} {v3 : Int32} {v4 : Int32} {g : g_S} {out : (Int32 × Int32) ⊕ (Int32 × Int32)} (e : b_Y_split_72 v0 v1 v2 v3 v4 g = some out) (c : cL_Y_split_72 L xs Q v0 v1 v2 g out) : wp (ab_ext L xs) J_Y_split 72 [(0, .ref v0), (1, .int v1), (2, .int v2), (3, .int v3), (4, .int v4)] [] (hp g) Q := by
  unfold b_Y_split_72 at e
  refine wp_p (j := J_Y_split) 2 (pc' := 74) (lv' := [(0, .ref v0), (1, .int v1), (2, .int v2), (3, .int v3), (4, .int v4)]) (st' := [.ref v0, .int v3]) rfl ?_
  refine x_gQ e rfl rfl fd_12_62 rfl (fun z1 e => ?_)
  refine wp_p (j := J_Y_split) 1 (pc' := 78) (lv' := [(0, .ref v0), (1, .int v1), (2, .int v2), (3, .int v3), (4, .int v4)]) (st' := [.int v1, .ref z1, .int v3]) rfl ?_
  refine x_aI e rfl rfl (fun z2 e => ?_)
  refine x_ge e rfl (fun e => ?_) (fun e => ?_)
  · refine wp_p (j := J_Y_split) 1 (pc' := 83) (lv' := [(0, .ref v0), (1, .int v1), (2, .int v2), (3, .int v3), (4, .int v4)]) (st' := [.ref v0]) rfl ?_
    refine x_gQ e rfl rfl fd_12_61 rfl (fun z3 e => ?_)
    refine wp_p (j := J_Y_split) 5 (pc' := 93) (lv' := [(0, .ref v0), (1, .int v1), (2, .int v2), (3, .int v3), (4, .int v4)]) (st' := [.int ((400 * v1) + v3), .ref z3]) rfl ?_
    refine x_aB e rfl (.inl rfl) rfl (fun z4 e => ?_)
    refine x_cs1 (As := [.int z4]) (rest := []) Value.int e rfl rfl rfl rfl rfl (fun h => d_Y_isBlank h ⟨rfl, rfl⟩) (fun z5 e => ?_)
    refine z_ne e rfl (fun e => ?_) (fun e => ?_)
    · refine wp_p (j := J_Y_split) 2 (pc' := 103) (lv' := [(0, .ref v0), (1, .int v1), (2, .int v2), (3, .int v3), (4, .int v4)]) (st' := [.ref v0, .int v4]) rfl ?_
      refine x_gQ e rfl rfl fd_12_61 rfl (fun z6 e => ?_)
      refine wp_p (j := J_Y_split) 5 (pc' := 113) (lv' := [(0, .ref v0), (1, .int v1), (2, .int v2), (3, .int v3), (4, .int v4)]) (st' := [.int ((400 * v1) + v3), .ref z6, .int v4]) rfl ?_
      refine x_aB e rfl (.inl rfl) rfl (fun z7 e => ?_)
      refine x_cs1 (As := [.int z7]) (rest := [.int v4]) Value.int e rfl rfl rfl rfl rfl (fun h => d_Y_glyph h ⟨rfl, rfl⟩) (fun z8 e => ?_)
      refine wp_p (j := J_Y_split) 6 (pc' := 72) (lv' := [(3, .int (v3 + 1)), (4, .int (v4 + (z8 * v2))), (0, .ref v0), (1, .int v1), (2, .int v2)]) (st' := []) rfl ?_
      have e := Option.some.inj e; subst e; exact wp_lv (lv' := [(0, .ref v0), (1, .int v1), (2, .int v2), (3, .int (v3 + 1)), (4, .int (v4 + (z8 * v2)))]) rfl ⟨rfl, rfl, rfl, rfl, rfl, trivial⟩ c
    · have e := Option.some.inj e; subst e; exact wp_lv (lv' := [(0, .ref v0), (1, .int v1), (2, .int v2), (3, .int v3), (4, .int v4)]) rfl ⟨rfl, rfl, rfl, rfl, rfl, trivial⟩ c
  · have e := Option.some.inj e; subst e; exact wp_lv (lv' := [(0, .ref v0), (1, .int v1), (2, .int v2), (3, .int v3), (4, .int v4)]) rfl ⟨rfl, rfl, rfl, rfl, rfl, trivial⟩ c
noncomputable def L_Y_split_72 (v0 : Nat) (v1 : Int32) (v2 : Int32) (v3 : Int32) (v4 : Int32) (g : g_S) : Option (Int32 × Int32) := it (fun s : Int32 × Int32 => b_Y_split_72 v0 v1 v2 s.1 s.2 g) (v3, v4)
theorem l_Y_split_72 {L : Nat} {xs : Nat → Int32} {Q : Option Value → ab_H → Prop} {v0 : Nat} {v1 : Int32} {v2 : Int32} {v3 : Int32} {v4 : Int32} {g : g_S} {r : Int32 × Int32} (e : L_Y_split_72 v0 v1 v2 v3 v4 g = some r) (c : cL_Y_split_72 L xs Q v0 v1 v2 g (.inr r)) : wp (ab_ext L xs) J_Y_split 72 [(0, .ref v0), (1, .int v1), (2, .int v2), (3, .int v3), (4, .int v4)] [] (hp g) Q :=
  it_wp (P := fun s : Int32 × Int32 => wp (ab_ext L xs) J_Y_split 72 [(0, .ref v0), (1, .int v1), (2, .int v2), (3, .int s.1), (4, .int s.2)] [] (hp g) Q) (E := fun r => cL_Y_split_72 L xs Q v0 v1 v2 g (.inr r)) (fun s out e c => y_Y_split_72 e (by cases out <;> exact c)) e c
theorem L_Y_split_72_eq (v0 : Nat) (v1 : Int32) (v2 : Int32) (v3 : Int32) (v4 : Int32) (g : g_S) : L_Y_split_72 v0 v1 v2 v3 v4 g = itc (b_Y_split_72 v0 v1 v2 v3 v4 g) (fun s => L_Y_split_72 v0 v1 v2 s.1 s.2 g) := it_eq2 (fun s : Int32 × Int32 => b_Y_split_72 v0 v1 v2 s.1 s.2 g) (v3, v4)
def cL_Y_split_15 (L : Nat) (xs : Nat → Int32) (Q : Option Value → ab_H → Prop) (v0 : Nat) (v1 : Int32) (v2 : Int32) (out : (Int32 × g_S) ⊕ (g_S)) : Prop := match out with
  | .inl s => wp (ab_ext L xs) J_Y_split 15 [(0, .ref v0), (1, .int v1), (2, .int v2), (3, .int s.1)] [] (hp s.2) Q
  | .inr s => wp (ab_ext L xs) J_Y_split 172 [] [] (hp s) Q
noncomputable def k_Y_split_128 (v0 : Nat) (v1 : Int32) (v2 : Int32) (v3 : Int32) (v4 : Int32) (g : g_S) : Option ((Int32 × g_S) ⊕ (g_S)) :=
  (rQ g 112 v0 120).bind fun z1 =>
  (rI g 112 v0 117).bind fun z2 =>
  (rQ g 112 v0 119).bind fun z3 =>
  (rI g 112 v0 117).bind fun z4 =>
  (aI g 0 z3 z4).bind fun z5 =>
  (sI g z1 z2 (v3 - z5)).bind fun g6 =>
  (rQ g6 112 v0 123).bind fun z7 =>
  (rI g6 112 v0 117).bind fun z8 =>
  (sI g6 z7 z8 v4).bind fun g9 =>
  (rI g9 112 v0 117).bind fun z10 =>
  (wI g9 112 v0 117 (z10 + 1)).bind fun g11 =>
  some (.inl (v3, g11))
set_option maxRecDepth 20000 in
theorem x_Y_split_128 {L : Nat} {xs : Nat → Int32} {Q : Option Value → ab_H → Prop} {v0 : Nat} {v1 : Int32} {v2 : Int32} {v3 : Int32} {v4 : Int32} {g : g_S} {out : (Int32 × g_S) ⊕ (g_S)} (e : k_Y_split_128 v0 v1 v2 v3 v4 g = some out) (c : cL_Y_split_15 L xs Q v0 v1 v2 out) : wp (ab_ext L xs) J_Y_split 128 [(0, .ref v0), (1, .int v1), (2, .int v2), (3, .int v3), (4, .int v4)] [] (hp g) Q := by
  unfold k_Y_split_128 at e
  refine wp_p (j := J_Y_split) 1 (pc' := 129) (lv' := [(0, .ref v0), (1, .int v1), (2, .int v2), (3, .int v3), (4, .int v4)]) (st' := [.ref v0]) rfl ?_
  refine x_gQ e rfl rfl fd_12_120 rfl (fun z1 e => ?_)
  refine wp_p (j := J_Y_split) 1 (pc' := 133) (lv' := [(0, .ref v0), (1, .int v1), (2, .int v2), (3, .int v3), (4, .int v4)]) (st' := [.ref v0, .ref z1]) rfl ?_
  refine x_gI e rfl rfl fd_12_117 rfl (fun z2 e => ?_)
  refine wp_p (j := J_Y_split) 2 (pc' := 138) (lv' := [(0, .ref v0), (1, .int v1), (2, .int v2), (3, .int v3), (4, .int v4)]) (st' := [.ref v0, .int v3, .int z2, .ref z1]) rfl ?_
  refine x_gQ e rfl rfl fd_12_119 rfl (fun z3 e => ?_)
  refine wp_p (j := J_Y_split) 1 (pc' := 142) (lv' := [(0, .ref v0), (1, .int v1), (2, .int v2), (3, .int v3), (4, .int v4)]) (st' := [.ref v0, .ref z3, .int v3, .int z2, .ref z1]) rfl ?_
  refine x_gI e rfl rfl fd_12_117 rfl (fun z4 e => ?_)
  refine x_aI e rfl rfl (fun z5 e => ?_)
  refine wp_p (j := J_Y_split) 1 (pc' := 147) (lv' := [(0, .ref v0), (1, .int v1), (2, .int v2), (3, .int v3), (4, .int v4)]) (st' := [.int (v3 - z5), .int z2, .ref z1]) rfl ?_
  refine x_sI e rfl rfl (fun g6 e => ?_)
  refine wp_p (j := J_Y_split) 1 (pc' := 149) (lv' := [(0, .ref v0), (1, .int v1), (2, .int v2), (3, .int v3), (4, .int v4)]) (st' := [.ref v0]) rfl ?_
  refine x_gQ e rfl rfl fd_12_123 rfl (fun z7 e => ?_)
  refine wp_p (j := J_Y_split) 1 (pc' := 153) (lv' := [(0, .ref v0), (1, .int v1), (2, .int v2), (3, .int v3), (4, .int v4)]) (st' := [.ref v0, .ref z7]) rfl ?_
  refine x_gI e rfl rfl fd_12_117 rfl (fun z8 e => ?_)
  refine wp_p (j := J_Y_split) 1 (pc' := 158) (lv' := [(0, .ref v0), (1, .int v1), (2, .int v2), (3, .int v3), (4, .int v4)]) (st' := [.int v4, .int z8, .ref z7]) rfl ?_
  refine x_sI e rfl rfl (fun g9 e => ?_)
  refine wp_p (j := J_Y_split) 2 (pc' := 161) (lv' := [(0, .ref v0), (1, .int v1), (2, .int v2), (3, .int v3), (4, .int v4)]) (st' := [.ref v0, .ref v0]) rfl ?_
  refine x_gI e rfl rfl fd_12_117 rfl (fun z10 e => ?_)
  refine wp_p (j := J_Y_split) 2 (pc' := 166) (lv' := [(0, .ref v0), (1, .int v1), (2, .int v2), (3, .int v3), (4, .int v4)]) (st' := [.int (z10 + 1), .ref v0]) rfl ?_
  refine x_pI e rfl rfl fw_12_117 rfl (fun g11 e => ?_)
  refine wp_p (j := J_Y_split) 1 (pc' := 15) (lv' := [(0, .ref v0), (1, .int v1), (2, .int v2), (3, .int v3), (4, .int v4)]) (st' := []) rfl ?_
  have e := Option.some.inj e; subst e; exact wp_lv (lv' := [(0, .ref v0), (1, .int v1), (2, .int v2), (3, .int v3)]) rfl ⟨rfl, rfl, rfl, rfl, trivial⟩ c
noncomputable def b_Y_split_15 (v0 : Nat) (v1 : Int32) (v2 : Int32) (v3 : Int32) (g : g_S) : Option ((Int32 × g_S) ⊕ (g_S)) :=
  (rQ g 112 v0 62).bind fun z1 =>
  (aI g 0 z1 v1).bind fun z2 =>
  if v3 < z2 then
    (rQ g 112 v0 61).bind fun z3 =>
    (aI g 1 z3 ((400 * v1) + v3)).bind fun z4 =>
    (M_Y_isBlank z4 g).bind fun z5 =>
    if z5 = 0 then
      (rQ g 112 v0 118).bind fun z6 =>
      (rI g 112 v0 117).bind fun z7 =>
      (sI g z6 z7 v1).bind fun g8 =>
      (rQ g8 112 v0 119).bind fun z9 =>
      (rI g8 112 v0 117).bind fun z10 =>
      (sI g8 z9 z10 v3).bind fun g11 =>
      (L_Y_split_72 v0 v1 v2 v3 0 g11).bind <| u2 fun z14 z15 =>
      k_Y_split_128 v0 v1 v2 z14 z15 g11
    else
      some (.inl (v3 + 1, g))
  else
    some (.inr g)
set_option maxRecDepth 20000 in
theorem y_Y_split_15 {L : Nat} {xs : Nat → Int32} {Q : Option Value → ab_H → Prop} {v0 : Nat} {v1 : Int32} {v2 : Int32} {v3 : Int32} {g : g_S} {out : (Int32 × g_S) ⊕ (g_S)} (e : b_Y_split_15 v0 v1 v2 v3 g = some out) (c : cL_Y_split_15 L xs Q v0 v1 v2 out) : wp (ab_ext L xs) J_Y_split 15 [(0, .ref v0), (1, .int v1), (2, .int v2), (3, .int v3)] [] (hp g) Q := by
  unfold b_Y_split_15 at e
  refine wp_p (j := J_Y_split) 2 (pc' := 17) (lv' := [(0, .ref v0), (1, .int v1), (2, .int v2), (3, .int v3)]) (st' := [.ref v0, .int v3]) rfl ?_
  refine x_gQ e rfl rfl fd_12_62 rfl (fun z1 e => ?_)
  refine wp_p (j := J_Y_split) 1 (pc' := 21) (lv' := [(0, .ref v0), (1, .int v1), (2, .int v2), (3, .int v3)]) (st' := [.int v1, .ref z1, .int v3]) rfl ?_
  refine x_aI e rfl rfl (fun z2 e => ?_)
  refine x_ge e rfl (fun e => ?_) (fun e => ?_)
  · refine wp_p (j := J_Y_split) 1 (pc' := 26) (lv' := [(0, .ref v0), (1, .int v1), (2, .int v2), (3, .int v3)]) (st' := [.ref v0]) rfl ?_
    refine x_gQ e rfl rfl fd_12_61 rfl (fun z3 e => ?_)
    refine wp_p (j := J_Y_split) 5 (pc' := 36) (lv' := [(0, .ref v0), (1, .int v1), (2, .int v2), (3, .int v3)]) (st' := [.int ((400 * v1) + v3), .ref z3]) rfl ?_
    refine x_aB e rfl (.inl rfl) rfl (fun z4 e => ?_)
    refine x_cs1 (As := [.int z4]) (rest := []) Value.int e rfl rfl rfl rfl rfl (fun h => d_Y_isBlank h ⟨rfl, rfl⟩) (fun z5 e => ?_)
    refine z_eq e rfl (fun e => ?_) (fun e => ?_)
    · refine wp_p (j := J_Y_split) 1 (pc' := 50) (lv' := [(0, .ref v0), (1, .int v1), (2, .int v2), (3, .int v3)]) (st' := [.ref v0]) rfl ?_
      refine x_gQ e rfl rfl fd_12_118 rfl (fun z6 e => ?_)
      refine wp_p (j := J_Y_split) 1 (pc' := 54) (lv' := [(0, .ref v0), (1, .int v1), (2, .int v2), (3, .int v3)]) (st' := [.ref v0, .ref z6]) rfl ?_
      refine x_gI e rfl rfl fd_12_117 rfl (fun z7 e => ?_)
      refine wp_p (j := J_Y_split) 1 (pc' := 58) (lv' := [(0, .ref v0), (1, .int v1), (2, .int v2), (3, .int v3)]) (st' := [.int v1, .int z7, .ref z6]) rfl ?_
      refine x_sI e rfl rfl (fun g8 e => ?_)
      refine wp_p (j := J_Y_split) 1 (pc' := 60) (lv' := [(0, .ref v0), (1, .int v1), (2, .int v2), (3, .int v3)]) (st' := [.ref v0]) rfl ?_
      refine x_gQ e rfl rfl fd_12_119 rfl (fun z9 e => ?_)
      refine wp_p (j := J_Y_split) 1 (pc' := 64) (lv' := [(0, .ref v0), (1, .int v1), (2, .int v2), (3, .int v3)]) (st' := [.ref v0, .ref z9]) rfl ?_
      refine x_gI e rfl rfl fd_12_117 rfl (fun z10 e => ?_)
      refine wp_p (j := J_Y_split) 1 (pc' := 68) (lv' := [(0, .ref v0), (1, .int v1), (2, .int v2), (3, .int v3)]) (st' := [.int v3, .int z10, .ref z9]) rfl ?_
      refine x_sI e rfl rfl (fun g11 e => ?_)
      refine wp_p (j := J_Y_split) 2 (pc' := 72) (lv' := [(4, .int 0), (0, .ref v0), (1, .int v1), (2, .int v2), (3, .int v3)]) (st' := []) rfl ?_
      obtain ⟨s12, h13, e⟩ := bd e
      refine wp_lv (lv' := [(0, .ref v0), (1, .int v1), (2, .int v2), (3, .int v3), (4, .int 0)]) rfl ⟨rfl, rfl, rfl, rfl, rfl, trivial⟩ ?_
      refine l_Y_split_72 h13 ?_
      obtain ⟨z14, z15⟩ := s12
      replace e := u2_e e
      show wp (ab_ext L xs) J_Y_split 128 [(0, .ref v0), (1, .int v1), (2, .int v2), (3, .int z14), (4, .int z15)] [] (hp g11) Q
      exact wp_lv (lv' := [(0, .ref v0), (1, .int v1), (2, .int v2), (3, .int z14), (4, .int z15)]) rfl ⟨rfl, rfl, rfl, rfl, rfl, trivial⟩ (x_Y_split_128 e c)
    · refine wp_p (j := J_Y_split) 2 (pc' := 15) (lv' := [(3, .int (v3 + 1)), (0, .ref v0), (1, .int v1), (2, .int v2)]) (st' := []) rfl ?_
      have e := Option.some.inj e; subst e; exact wp_lv (lv' := [(0, .ref v0), (1, .int v1), (2, .int v2), (3, .int (v3 + 1))]) rfl ⟨rfl, rfl, rfl, rfl, trivial⟩ c
  · have e := Option.some.inj e; subst e; exact wp_lv (lv' := []) rfl trivial c
noncomputable def L_Y_split_15 (v0 : Nat) (v1 : Int32) (v2 : Int32) (v3 : Int32) (g : g_S) : Option (g_S) := it (fun s : Int32 × g_S => b_Y_split_15 v0 v1 v2 s.1 s.2) (v3, g)
theorem l_Y_split_15 {L : Nat} {xs : Nat → Int32} {Q : Option Value → ab_H → Prop} {v0 : Nat} {v1 : Int32} {v2 : Int32} {v3 : Int32} {g : g_S} {r : g_S} (e : L_Y_split_15 v0 v1 v2 v3 g = some r) (c : cL_Y_split_15 L xs Q v0 v1 v2 (.inr r)) : wp (ab_ext L xs) J_Y_split 15 [(0, .ref v0), (1, .int v1), (2, .int v2), (3, .int v3)] [] (hp g) Q :=
  it_wp (P := fun s : Int32 × g_S => wp (ab_ext L xs) J_Y_split 15 [(0, .ref v0), (1, .int v1), (2, .int v2), (3, .int s.1)] [] (hp s.2) Q) (E := fun r => cL_Y_split_15 L xs Q v0 v1 v2 (.inr r)) (fun s out e c => y_Y_split_15 e (by cases out <;> exact c)) e c
theorem L_Y_split_15_eq (v0 : Nat) (v1 : Int32) (v2 : Int32) (v3 : Int32) (g : g_S) : L_Y_split_15 v0 v1 v2 v3 g = itc (b_Y_split_15 v0 v1 v2 v3 g) (fun s => L_Y_split_15 v0 v1 v2 s.1 s.2) := it_eq2 (fun s : Int32 × g_S => b_Y_split_15 v0 v1 v2 s.1 s.2) (v3, g)
noncomputable def M_Y_split (v0 : Nat) (v1 : Int32) (g : g_S) : Option g_S :=
  (rQ g 112 v0 49).bind fun z1 =>
  (aI g 0 z1 v1).bind fun z2 =>
  (vc g 112 v0 (M_Y_of v0 z2 8 g)).bind fun z3 =>
  (L_Y_split_15 v0 v1 z3 0 g).bind <| fun g6 =>
  some g6
set_option maxRecDepth 20000 in
theorem d_Y_split {L : Nat} {xs : Nat → Int32} {Q : Option Value → ab_H → Prop} {v0 : Nat} {v1 : Int32} {g : g_S} {out : g_S} (e : M_Y_split v0 v1 g = some out) (c : Q none (hp out)) : mw (ab_ext L xs) J_Y_split [.ref v0, .int v1] (hp g) Q := by
  unfold M_Y_split at e
  refine wp_p (j := J_Y_split) 2 (pc' := 2) (lv' := [(0, .ref v0), (1, .int v1)]) (st' := [.ref v0, .ref v0]) rfl ?_
  refine x_gQ e rfl rfl fd_12_49 rfl (fun z1 e => ?_)
  refine wp_p (j := J_Y_split) 1 (pc' := 6) (lv' := [(0, .ref v0), (1, .int v1)]) (st' := [.int v1, .ref z1, .ref v0]) rfl ?_
  refine x_aI e rfl rfl (fun z2 e => ?_)
  refine wp_p (j := J_Y_split) 1 (pc' := 9) (lv' := [(0, .ref v0), (1, .int v1)]) (st' := [.int 8, .int z2, .ref v0]) rfl ?_
  refine x_cv1 (As := [.int z2, .int 8]) (rest := []) Value.int e rfl rfl rfl rfl rfl rfl (fun h => d_Y_of h ⟨rfl, rfl⟩) (fun z3 e => ?_)
  refine wp_p (j := J_Y_split) 3 (pc' := 15) (lv' := [(3, .int 0), (2, .int z3), (0, .ref v0), (1, .int v1)]) (st' := []) rfl ?_
  obtain ⟨g6, h5, e⟩ := bd e
  refine wp_lv (lv' := [(0, .ref v0), (1, .int v1), (2, .int z3), (3, .int 0)]) rfl ⟨rfl, rfl, rfl, rfl, trivial⟩ ?_
  refine l_Y_split_15 h5 ?_
  show wp (ab_ext L xs) J_Y_split 172 [] [] (hp g6) Q
  have e := Option.some.inj e; subst e; exact wp_vret rfl rfl c
noncomputable def M_Y_joins (v0 : Nat) (v1 : Int32) (g : g_S) : Option Int32 :=
  (rQ g 112 v0 107).bind fun z1 =>
  (aI g 0 z1 v1).bind fun z2 =>
  if z2 = 1 then
    if 0 < v1 then
      (rQ g 112 v0 108).bind fun z3 =>
      (aI g 2 z3 v1).bind fun z4 =>
      if z4 = 0 then
        (vc g 112 v0 (M_Y_edges v0 v1 g)).bind fun z5 =>
        if z5 = 0 then
          (rQ g 112 v0 107).bind fun z6 =>
          (rQ g 112 v0 49).bind fun z7 =>
          (aI g 0 z7 v1).bind fun z8 =>
          (aI g 0 z6 z8).bind fun z9 =>
          if z9 = 1 then
            (rQ g 112 v0 49).bind fun z10 =>
            (aI g 0 z10 v1).bind fun z11 =>
            (vc g 112 v0 (M_Y_of v0 z11 0 g)).bind fun z12 =>
            if z12 = 0 then
              some 1
            else
              some 0
          else
            some 0
        else
          some 0
      else
        some 0
    else
      some 0
  else
    some 0
set_option maxRecDepth 20000 in
theorem d_Y_joins {L : Nat} {xs : Nat → Int32} {Q : Option Value → ab_H → Prop} {v0 : Nat} {v1 : Int32} {g : g_S} {out : Int32} (e : M_Y_joins v0 v1 g = some out) (c : Q (some (.int out)) (hp g)) : mw (ab_ext L xs) J_Y_joins [.ref v0, .int v1] (hp g) Q := by
  unfold M_Y_joins at e
  refine wp_p (j := J_Y_joins) 1 (pc' := 1) (lv' := [(0, .ref v0), (1, .int v1)]) (st' := [.ref v0]) rfl ?_
  refine x_gQ e rfl rfl fd_12_107 rfl (fun z1 e => ?_)
  refine wp_p (j := J_Y_joins) 1 (pc' := 5) (lv' := [(0, .ref v0), (1, .int v1)]) (st' := [.int v1, .ref z1]) rfl ?_
  refine x_aI e rfl rfl (fun z2 e => ?_)
  refine wp_p (j := J_Y_joins) 1 (pc' := 7) (lv' := [(0, .ref v0), (1, .int v1)]) (st' := [.int 1, .int z2]) rfl ?_
  refine x_ne e rfl (fun e => ?_) (fun e => ?_)
  · refine wp_p (j := J_Y_joins) 1 (pc' := 11) (lv' := [(0, .ref v0), (1, .int v1)]) (st' := [.int v1]) rfl ?_
    refine z_le e rfl (fun e => ?_) (fun e => ?_)
    · refine wp_p (j := J_Y_joins) 1 (pc' := 15) (lv' := [(0, .ref v0), (1, .int v1)]) (st' := [.ref v0]) rfl ?_
      refine x_gQ e rfl rfl fd_12_108 rfl (fun z3 e => ?_)
      refine wp_p (j := J_Y_joins) 1 (pc' := 19) (lv' := [(0, .ref v0), (1, .int v1)]) (st' := [.int v1, .ref z3]) rfl ?_
      refine x_aB e rfl (.inr rfl) rfl (fun z4 e => ?_)
      refine z_ne e rfl (fun e => ?_) (fun e => ?_)
      · refine wp_p (j := J_Y_joins) 2 (pc' := 25) (lv' := [(0, .ref v0), (1, .int v1)]) (st' := [.int v1, .ref v0]) rfl ?_
        refine x_cv1 (As := [.int v1]) (rest := []) Value.int e rfl rfl rfl rfl rfl rfl (fun h => d_Y_edges h ⟨rfl, rfl⟩) (fun z5 e => ?_)
        refine z_ne e rfl (fun e => ?_) (fun e => ?_)
        · refine wp_p (j := J_Y_joins) 1 (pc' := 32) (lv' := [(0, .ref v0), (1, .int v1)]) (st' := [.ref v0]) rfl ?_
          refine x_gQ e rfl rfl fd_12_107 rfl (fun z6 e => ?_)
          refine wp_p (j := J_Y_joins) 1 (pc' := 36) (lv' := [(0, .ref v0), (1, .int v1)]) (st' := [.ref v0, .ref z6]) rfl ?_
          refine x_gQ e rfl rfl fd_12_49 rfl (fun z7 e => ?_)
          refine wp_p (j := J_Y_joins) 1 (pc' := 40) (lv' := [(0, .ref v0), (1, .int v1)]) (st' := [.int v1, .ref z7, .ref z6]) rfl ?_
          refine x_aI e rfl rfl (fun z8 e => ?_)
          refine x_aI e rfl rfl (fun z9 e => ?_)
          refine wp_p (j := J_Y_joins) 1 (pc' := 43) (lv' := [(0, .ref v0), (1, .int v1)]) (st' := [.int 1, .int z9]) rfl ?_
          refine x_ne e rfl (fun e => ?_) (fun e => ?_)
          · refine wp_p (j := J_Y_joins) 2 (pc' := 48) (lv' := [(0, .ref v0), (1, .int v1)]) (st' := [.ref v0, .ref v0]) rfl ?_
            refine x_gQ e rfl rfl fd_12_49 rfl (fun z10 e => ?_)
            refine wp_p (j := J_Y_joins) 1 (pc' := 52) (lv' := [(0, .ref v0), (1, .int v1)]) (st' := [.int v1, .ref z10, .ref v0]) rfl ?_
            refine x_aI e rfl rfl (fun z11 e => ?_)
            refine wp_p (j := J_Y_joins) 1 (pc' := 54) (lv' := [(0, .ref v0), (1, .int v1)]) (st' := [.int 0, .int z11, .ref v0]) rfl ?_
            refine x_cv1 (As := [.int z11, .int 0]) (rest := []) Value.int e rfl rfl rfl rfl rfl rfl (fun h => d_Y_of h ⟨rfl, rfl⟩) (fun z12 e => ?_)
            refine z_ne e rfl (fun e => ?_) (fun e => ?_)
            · refine wp_p (j := J_Y_joins) 2 (pc' := 65) (lv' := [(0, .ref v0), (1, .int v1)]) (st' := [.int 1]) rfl ?_
              have e := Option.some.inj e; subst e; exact wp_iret (ty := .boolean) rfl rfl (by decide) c
            · refine wp_p (j := J_Y_joins) 1 (pc' := 65) (lv' := [(0, .ref v0), (1, .int v1)]) (st' := [.int 0]) rfl ?_
              have e := Option.some.inj e; subst e; exact wp_iret (ty := .boolean) rfl rfl (by decide) c
          · refine wp_p (j := J_Y_joins) 1 (pc' := 65) (lv' := [(0, .ref v0), (1, .int v1)]) (st' := [.int 0]) rfl ?_
            have e := Option.some.inj e; subst e; exact wp_iret (ty := .boolean) rfl rfl (by decide) c
        · refine wp_p (j := J_Y_joins) 1 (pc' := 65) (lv' := [(0, .ref v0), (1, .int v1)]) (st' := [.int 0]) rfl ?_
          have e := Option.some.inj e; subst e; exact wp_iret (ty := .boolean) rfl rfl (by decide) c
      · refine wp_p (j := J_Y_joins) 1 (pc' := 65) (lv' := [(0, .ref v0), (1, .int v1)]) (st' := [.int 0]) rfl ?_
        have e := Option.some.inj e; subst e; exact wp_iret (ty := .boolean) rfl rfl (by decide) c
    · refine wp_p (j := J_Y_joins) 1 (pc' := 65) (lv' := [(0, .ref v0), (1, .int v1)]) (st' := [.int 0]) rfl ?_
      have e := Option.some.inj e; subst e; exact wp_iret (ty := .boolean) rfl rfl (by decide) c
  · refine wp_p (j := J_Y_joins) 1 (pc' := 65) (lv' := [(0, .ref v0), (1, .int v1)]) (st' := [.int 0]) rfl ?_
    have e := Option.some.inj e; subst e; exact wp_iret (ty := .boolean) rfl rfl (by decide) c
noncomputable def M_Y_isFloatAt (v0 : Nat) (v1 : Int32) (v2 : Int32) (g : g_S) : Option Int32 :=
  (rQ g 112 v0 139).bind fun z1 =>
  (aI g 0 z1 v1).bind fun z2 =>
  if v2 < z2 then
    some 0
  else
    (rQ g 112 v0 140).bind fun z3 =>
    (aI g 0 z3 v1).bind fun z4 =>
    if v2 < z4 then
      some 1
    else
      some 0
set_option maxRecDepth 20000 in
theorem d_Y_isFloatAt {L : Nat} {xs : Nat → Int32} {Q : Option Value → ab_H → Prop} {v0 : Nat} {v1 : Int32} {v2 : Int32} {g : g_S} {out : Int32} (e : M_Y_isFloatAt v0 v1 v2 g = some out) (c : Q (some (.int out)) (hp g)) : mw (ab_ext L xs) J_Y_isFloatAt [.ref v0, .int v1, .int v2] (hp g) Q := by
  unfold M_Y_isFloatAt at e
  refine wp_p (j := J_Y_isFloatAt) 1 (pc' := 1) (lv' := [(0, .ref v0), (1, .int v1), (2, .int v2)]) (st' := [.ref v0]) rfl ?_
  refine x_gQ e rfl rfl fd_12_139 rfl (fun z1 e => ?_)
  refine wp_p (j := J_Y_isFloatAt) 1 (pc' := 5) (lv' := [(0, .ref v0), (1, .int v1), (2, .int v2)]) (st' := [.int v1, .ref z1]) rfl ?_
  refine x_aI e rfl rfl (fun z2 e => ?_)
  refine wp_p (j := J_Y_isFloatAt) 1 (pc' := 7) (lv' := [(0, .ref v0), (1, .int v1), (2, .int v2)]) (st' := [.int v2, .int z2]) rfl ?_
  refine x_gt e rfl (fun e => ?_) (fun e => ?_)
  · refine wp_p (j := J_Y_isFloatAt) 1 (pc' := 25) (lv' := [(0, .ref v0), (1, .int v1), (2, .int v2)]) (st' := [.int 0]) rfl ?_
    have e := Option.some.inj e; subst e; exact wp_iret (ty := .boolean) rfl rfl (by decide) c
  · refine wp_p (j := J_Y_isFloatAt) 2 (pc' := 12) (lv' := [(0, .ref v0), (1, .int v1), (2, .int v2)]) (st' := [.ref v0, .int v2]) rfl ?_
    refine x_gQ e rfl rfl fd_12_140 rfl (fun z3 e => ?_)
    refine wp_p (j := J_Y_isFloatAt) 1 (pc' := 16) (lv' := [(0, .ref v0), (1, .int v1), (2, .int v2)]) (st' := [.int v1, .ref z3, .int v2]) rfl ?_
    refine x_aI e rfl rfl (fun z4 e => ?_)
    refine x_ge e rfl (fun e => ?_) (fun e => ?_)
    · refine wp_p (j := J_Y_isFloatAt) 2 (pc' := 25) (lv' := [(0, .ref v0), (1, .int v1), (2, .int v2)]) (st' := [.int 1]) rfl ?_
      have e := Option.some.inj e; subst e; exact wp_iret (ty := .boolean) rfl rfl (by decide) c
    · refine wp_p (j := J_Y_isFloatAt) 1 (pc' := 25) (lv' := [(0, .ref v0), (1, .int v1), (2, .int v2)]) (st' := [.int 0]) rfl ?_
      have e := Option.some.inj e; subst e; exact wp_iret (ty := .boolean) rfl rfl (by decide) c
def cL_Y_edgesAt_15 (L : Nat) (xs : Nat → Int32) (Q : Option Value → ab_H → Prop) (v0 : Nat) (v1 : Int32) (out : (Int32 × g_S) ⊕ (g_S)) : Prop := match out with
  | .inl s => wp (ab_ext L xs) J_Y_edgesAt 15 [(0, .ref v0), (1, .int v1), (2, .int s.1)] [] (hp s.2) Q
  | .inr s => wp (ab_ext L xs) J_Y_edgesAt 88 [] [] (hp s) Q
noncomputable def b_Y_edgesAt_15 (v0 : Nat) (v1 : Int32) (v2 : Int32) (g : g_S) : Option ((Int32 × g_S) ⊕ (g_S)) :=
  (rI g 112 v0 136).bind fun z1 =>
  if v2 < z1 then
    (vc g 112 v0 (M_Y_isFloatAt v0 v2 v1 g)).bind fun z2 =>
    if z2 = 0 then
      some (.inl (v2 + 1, g))
    else
      (rQ g 112 v0 141).bind fun z3 =>
      (aI g 0 z3 v2).bind fun z4 =>
      if z4 = 1 then
        (rI g 112 v0 128).bind fun z5 =>
        (rQ g 112 v0 138).bind fun z6 =>
        (aI g 0 z6 v2).bind fun z7 =>
        (wI g 112 v0 128 (mx z5 z7)).bind fun g8 =>
        some (.inl (v2 + 1, g8))
      else
        (rI g 112 v0 129).bind fun z9 =>
        (rQ g 112 v0 137).bind fun z10 =>
        (aI g 0 z10 v2).bind fun z11 =>
        (wI g 112 v0 129 (mn z9 z11)).bind fun g12 =>
        some (.inl (v2 + 1, g12))
  else
    some (.inr g)
set_option maxRecDepth 20000 in
theorem y_Y_edgesAt_15 {L : Nat} {xs : Nat → Int32} {Q : Option Value → ab_H → Prop} {v0 : Nat} {v1 : Int32} {v2 : Int32} {g : g_S} {out : (Int32 × g_S) ⊕ (g_S)} (e : b_Y_edgesAt_15 v0 v1 v2 g = some out) (c : cL_Y_edgesAt_15 L xs Q v0 v1 out) : wp (ab_ext L xs) J_Y_edgesAt 15 [(0, .ref v0), (1, .int v1), (2, .int v2)] [] (hp g) Q := by
  unfold b_Y_edgesAt_15 at e
  refine wp_p (j := J_Y_edgesAt) 2 (pc' := 17) (lv' := [(0, .ref v0), (1, .int v1), (2, .int v2)]) (st' := [.ref v0, .int v2]) rfl ?_
  refine x_gI e rfl rfl fd_12_136 rfl (fun z1 e => ?_)
  refine x_ge e rfl (fun e => ?_) (fun e => ?_)
  · refine wp_p (j := J_Y_edgesAt) 3 (pc' := 26) (lv' := [(0, .ref v0), (1, .int v1), (2, .int v2)]) (st' := [.int v1, .int v2, .ref v0]) rfl ?_
    refine x_cv1 (As := [.int v2, .int v1]) (rest := []) Value.int e rfl rfl rfl rfl rfl rfl (fun h => d_Y_isFloatAt h ⟨rfl, rfl⟩) (fun z2 e => ?_)
    refine z_ne e rfl (fun e => ?_) (fun e => ?_)
    · refine wp_p (j := J_Y_edgesAt) 3 (pc' := 15) (lv' := [(2, .int (v2 + 1)), (0, .ref v0), (1, .int v1)]) (st' := []) rfl ?_
      have e := Option.some.inj e; subst e; exact wp_lv (lv' := [(0, .ref v0), (1, .int v1), (2, .int (v2 + 1))]) rfl ⟨rfl, rfl, rfl, trivial⟩ c
    · refine wp_p (j := J_Y_edgesAt) 1 (pc' := 36) (lv' := [(0, .ref v0), (1, .int v1), (2, .int v2)]) (st' := [.ref v0]) rfl ?_
      refine x_gQ e rfl rfl fd_12_141 rfl (fun z3 e => ?_)
      refine wp_p (j := J_Y_edgesAt) 1 (pc' := 40) (lv' := [(0, .ref v0), (1, .int v1), (2, .int v2)]) (st' := [.int v2, .ref z3]) rfl ?_
      refine x_aI e rfl rfl (fun z4 e => ?_)
      refine wp_p (j := J_Y_edgesAt) 1 (pc' := 42) (lv' := [(0, .ref v0), (1, .int v1), (2, .int v2)]) (st' := [.int 1, .int z4]) rfl ?_
      refine x_ne e rfl (fun e => ?_) (fun e => ?_)
      · refine wp_p (j := J_Y_edgesAt) 2 (pc' := 47) (lv' := [(0, .ref v0), (1, .int v1), (2, .int v2)]) (st' := [.ref v0, .ref v0]) rfl ?_
        refine x_gI e rfl rfl fd_12_128 rfl (fun z5 e => ?_)
        refine wp_p (j := J_Y_edgesAt) 1 (pc' := 51) (lv' := [(0, .ref v0), (1, .int v1), (2, .int v2)]) (st' := [.ref v0, .int z5, .ref v0]) rfl ?_
        refine x_gQ e rfl rfl fd_12_138 rfl (fun z6 e => ?_)
        refine wp_p (j := J_Y_edgesAt) 1 (pc' := 55) (lv' := [(0, .ref v0), (1, .int v1), (2, .int v2)]) (st' := [.int v2, .ref z6, .int z5, .ref v0]) rfl ?_
        refine x_aI e rfl rfl (fun z7 e => ?_)
        refine x_mx rfl rfl ?_
        refine x_pI e rfl rfl fw_12_128 rfl (fun g8 e => ?_)
        refine wp_p (j := J_Y_edgesAt) 3 (pc' := 15) (lv' := [(2, .int (v2 + 1)), (0, .ref v0), (1, .int v1)]) (st' := []) rfl ?_
        have e := Option.some.inj e; subst e; exact wp_lv (lv' := [(0, .ref v0), (1, .int v1), (2, .int (v2 + 1))]) rfl ⟨rfl, rfl, rfl, trivial⟩ c
      · refine wp_p (j := J_Y_edgesAt) 2 (pc' := 67) (lv' := [(0, .ref v0), (1, .int v1), (2, .int v2)]) (st' := [.ref v0, .ref v0]) rfl ?_
        refine x_gI e rfl rfl fd_12_129 rfl (fun z9 e => ?_)
        refine wp_p (j := J_Y_edgesAt) 1 (pc' := 71) (lv' := [(0, .ref v0), (1, .int v1), (2, .int v2)]) (st' := [.ref v0, .int z9, .ref v0]) rfl ?_
        refine x_gQ e rfl rfl fd_12_137 rfl (fun z10 e => ?_)
        refine wp_p (j := J_Y_edgesAt) 1 (pc' := 75) (lv' := [(0, .ref v0), (1, .int v1), (2, .int v2)]) (st' := [.int v2, .ref z10, .int z9, .ref v0]) rfl ?_
        refine x_aI e rfl rfl (fun z11 e => ?_)
        refine x_mn rfl rfl ?_
        refine x_pI e rfl rfl fw_12_129 rfl (fun g12 e => ?_)
        refine wp_p (j := J_Y_edgesAt) 2 (pc' := 15) (lv' := [(2, .int (v2 + 1)), (0, .ref v0), (1, .int v1)]) (st' := []) rfl ?_
        have e := Option.some.inj e; subst e; exact wp_lv (lv' := [(0, .ref v0), (1, .int v1), (2, .int (v2 + 1))]) rfl ⟨rfl, rfl, rfl, trivial⟩ c
  · have e := Option.some.inj e; subst e; exact wp_lv (lv' := []) rfl trivial c
noncomputable def L_Y_edgesAt_15 (v0 : Nat) (v1 : Int32) (v2 : Int32) (g : g_S) : Option (g_S) := it (fun s : Int32 × g_S => b_Y_edgesAt_15 v0 v1 s.1 s.2) (v2, g)
theorem l_Y_edgesAt_15 {L : Nat} {xs : Nat → Int32} {Q : Option Value → ab_H → Prop} {v0 : Nat} {v1 : Int32} {v2 : Int32} {g : g_S} {r : g_S} (e : L_Y_edgesAt_15 v0 v1 v2 g = some r) (c : cL_Y_edgesAt_15 L xs Q v0 v1 (.inr r)) : wp (ab_ext L xs) J_Y_edgesAt 15 [(0, .ref v0), (1, .int v1), (2, .int v2)] [] (hp g) Q :=
  it_wp (P := fun s : Int32 × g_S => wp (ab_ext L xs) J_Y_edgesAt 15 [(0, .ref v0), (1, .int v1), (2, .int s.1)] [] (hp s.2) Q) (E := fun r => cL_Y_edgesAt_15 L xs Q v0 v1 (.inr r)) (fun s out e c => y_Y_edgesAt_15 e (by cases out <;> exact c)) e c
theorem L_Y_edgesAt_15_eq (v0 : Nat) (v1 : Int32) (v2 : Int32) (g : g_S) : L_Y_edgesAt_15 v0 v1 v2 g = itc (b_Y_edgesAt_15 v0 v1 v2 g) (fun s => L_Y_edgesAt_15 v0 v1 s.1 s.2) := it_eq2 (fun s : Int32 × g_S => b_Y_edgesAt_15 v0 v1 s.1 s.2) (v2, g)
noncomputable def M_Y_edgesAt (v0 : Nat) (v1 : Int32) (g : g_S) : Option g_S :=
  (wI g 112 v0 128 0).bind fun g1 =>
  (rI g1 112 v0 145).bind fun z2 =>
  (wI g1 112 v0 129 z2).bind fun g3 =>
  (L_Y_edgesAt_15 v0 v1 0 g3).bind <| fun g6 =>
  some g6
set_option maxRecDepth 20000 in
theorem d_Y_edgesAt {L : Nat} {xs : Nat → Int32} {Q : Option Value → ab_H → Prop} {v0 : Nat} {v1 : Int32} {g : g_S} {out : g_S} (e : M_Y_edgesAt v0 v1 g = some out) (c : Q none (hp out)) : mw (ab_ext L xs) J_Y_edgesAt [.ref v0, .int v1] (hp g) Q := by
  unfold M_Y_edgesAt at e
  refine wp_p (j := J_Y_edgesAt) 2 (pc' := 2) (lv' := [(0, .ref v0), (1, .int v1)]) (st' := [.int 0, .ref v0]) rfl ?_
  refine x_pI e rfl rfl fw_12_128 rfl (fun g1 e => ?_)
  refine wp_p (j := J_Y_edgesAt) 2 (pc' := 7) (lv' := [(0, .ref v0), (1, .int v1)]) (st' := [.ref v0, .ref v0]) rfl ?_
  refine x_gI e rfl rfl fd_12_145 rfl (fun z2 e => ?_)
  refine x_pI e rfl rfl fw_12_129 rfl (fun g3 e => ?_)
  refine wp_p (j := J_Y_edgesAt) 2 (pc' := 15) (lv' := [(2, .int 0), (0, .ref v0), (1, .int v1)]) (st' := []) rfl ?_
  obtain ⟨g6, h5, e⟩ := bd e
  refine wp_lv (lv' := [(0, .ref v0), (1, .int v1), (2, .int 0)]) rfl ⟨rfl, rfl, rfl, trivial⟩ ?_
  refine l_Y_edgesAt_15 h5 ?_
  show wp (ab_ext L xs) J_Y_edgesAt 88 [] [] (hp g6) Q
  have e := Option.some.inj e; subst e; exact wp_vret rfl rfl c
def cL_Y_leastEnd_4 (L : Nat) (xs : Nat → Int32) (Q : Option Value → ab_H → Prop) (v0 : Nat) (v1 : Int32) (g : g_S) (out : (Int32 × Int32) ⊕ (Int32)) : Prop := match out with
  | .inl s => wp (ab_ext L xs) J_Y_leastEnd 4 [(0, .ref v0), (1, .int v1), (2, .int s.1), (3, .int s.2)] [] (hp g) Q
  | .inr s => wp (ab_ext L xs) J_Y_leastEnd 49 [(2, .int s)] [] (hp g) Q
noncomputable def k_Y_leastEnd_36 (v0 : Nat) (v1 : Int32) (v3 : Int32) (g : g_S) : Option ((Int32 × Int32) ⊕ (Int32)) :=
  (rQ g 112 v0 140).bind fun z1 =>
  (aI g 0 z1 v3).bind fun z2 =>
  some (.inl (z2, v3 + 1))
set_option maxRecDepth 20000 in
theorem x_Y_leastEnd_36 {L : Nat} {xs : Nat → Int32} {Q : Option Value → ab_H → Prop} {v0 : Nat} {v1 : Int32} {v3 : Int32} {g : g_S} {out : (Int32 × Int32) ⊕ (Int32)} (e : k_Y_leastEnd_36 v0 v1 v3 g = some out) (c : cL_Y_leastEnd_4 L xs Q v0 v1 g out) : wp (ab_ext L xs) J_Y_leastEnd 36 [(0, .ref v0), (1, .int v1), (3, .int v3)] [] (hp g) Q := by
  unfold k_Y_leastEnd_36 at e
  refine wp_p (j := J_Y_leastEnd) 1 (pc' := 37) (lv' := [(0, .ref v0), (1, .int v1), (3, .int v3)]) (st' := [.ref v0]) rfl ?_
  refine x_gQ e rfl rfl fd_12_140 rfl (fun z1 e => ?_)
  refine wp_p (j := J_Y_leastEnd) 1 (pc' := 41) (lv' := [(0, .ref v0), (1, .int v1), (3, .int v3)]) (st' := [.int v3, .ref z1]) rfl ?_
  refine x_aI e rfl rfl (fun z2 e => ?_)
  refine wp_p (j := J_Y_leastEnd) 3 (pc' := 4) (lv' := [(3, .int (v3 + 1)), (2, .int z2), (0, .ref v0), (1, .int v1)]) (st' := []) rfl ?_
  have e := Option.some.inj e; subst e; exact wp_lv (lv' := [(0, .ref v0), (1, .int v1), (2, .int z2), (3, .int (v3 + 1))]) rfl ⟨rfl, rfl, rfl, rfl, trivial⟩ c
noncomputable def b_Y_leastEnd_4 (v0 : Nat) (v1 : Int32) (v2 : Int32) (v3 : Int32) (g : g_S) : Option ((Int32 × Int32) ⊕ (Int32)) :=
  (rI g 112 v0 136).bind fun z1 =>
  if v3 < z1 then
    (vc g 112 v0 (M_Y_isFloatAt v0 v3 v1 g)).bind fun z2 =>
    if z2 = 0 then
      some (.inl (v2, v3 + 1))
    else
      if v2 = (-1) then
        k_Y_leastEnd_36 v0 v1 v3 g
      else
        (rQ g 112 v0 140).bind fun z3 =>
        (aI g 0 z3 v3).bind fun z4 =>
        if z4 < v2 then
          k_Y_leastEnd_36 v0 v1 v3 g
        else
          some (.inl (v2, v3 + 1))
  else
    some (.inr v2)
set_option maxRecDepth 20000 in
theorem y_Y_leastEnd_4 {L : Nat} {xs : Nat → Int32} {Q : Option Value → ab_H → Prop} {v0 : Nat} {v1 : Int32} {v2 : Int32} {v3 : Int32} {g : g_S} {out : (Int32 × Int32) ⊕ (Int32)} (e : b_Y_leastEnd_4 v0 v1 v2 v3 g = some out) (c : cL_Y_leastEnd_4 L xs Q v0 v1 g out) : wp (ab_ext L xs) J_Y_leastEnd 4 [(0, .ref v0), (1, .int v1), (2, .int v2), (3, .int v3)] [] (hp g) Q := by
  unfold b_Y_leastEnd_4 at e
  refine wp_p (j := J_Y_leastEnd) 2 (pc' := 6) (lv' := [(0, .ref v0), (1, .int v1), (2, .int v2), (3, .int v3)]) (st' := [.ref v0, .int v3]) rfl ?_
  refine x_gI e rfl rfl fd_12_136 rfl (fun z1 e => ?_)
  refine x_ge e rfl (fun e => ?_) (fun e => ?_)
  · refine wp_p (j := J_Y_leastEnd) 3 (pc' := 15) (lv' := [(0, .ref v0), (1, .int v1), (2, .int v2), (3, .int v3)]) (st' := [.int v1, .int v3, .ref v0]) rfl ?_
    refine x_cv1 (As := [.int v3, .int v1]) (rest := []) Value.int e rfl rfl rfl rfl rfl rfl (fun h => d_Y_isFloatAt h ⟨rfl, rfl⟩) (fun z2 e => ?_)
    refine z_eq e rfl (fun e => ?_) (fun e => ?_)
    · refine wp_p (j := J_Y_leastEnd) 2 (pc' := 4) (lv' := [(3, .int (v3 + 1)), (0, .ref v0), (1, .int v1), (2, .int v2)]) (st' := []) rfl ?_
      have e := Option.some.inj e; subst e; exact wp_lv (lv' := [(0, .ref v0), (1, .int v1), (2, .int v2), (3, .int (v3 + 1))]) rfl ⟨rfl, rfl, rfl, rfl, trivial⟩ c
    · refine wp_p (j := J_Y_leastEnd) 2 (pc' := 23) (lv' := [(0, .ref v0), (1, .int v1), (2, .int v2), (3, .int v3)]) (st' := [.int (-1), .int v2]) rfl ?_
      refine x_eq e rfl (fun e => ?_) (fun e => ?_)
      · exact wp_lv (lv' := [(0, .ref v0), (1, .int v1), (3, .int v3)]) rfl ⟨rfl, rfl, rfl, trivial⟩ (x_Y_leastEnd_36 e c)
      · refine wp_p (j := J_Y_leastEnd) 1 (pc' := 27) (lv' := [(0, .ref v0), (1, .int v1), (2, .int v2), (3, .int v3)]) (st' := [.ref v0]) rfl ?_
        refine x_gQ e rfl rfl fd_12_140 rfl (fun z3 e => ?_)
        refine wp_p (j := J_Y_leastEnd) 1 (pc' := 31) (lv' := [(0, .ref v0), (1, .int v1), (2, .int v2), (3, .int v3)]) (st' := [.int v3, .ref z3]) rfl ?_
        refine x_aI e rfl rfl (fun z4 e => ?_)
        refine wp_p (j := J_Y_leastEnd) 1 (pc' := 33) (lv' := [(0, .ref v0), (1, .int v1), (2, .int v2), (3, .int v3)]) (st' := [.int v2, .int z4]) rfl ?_
        refine x_ge e rfl (fun e => ?_) (fun e => ?_)
        · exact wp_lv (lv' := [(0, .ref v0), (1, .int v1), (3, .int v3)]) rfl ⟨rfl, rfl, rfl, trivial⟩ (x_Y_leastEnd_36 e c)
        · refine wp_p (j := J_Y_leastEnd) 2 (pc' := 4) (lv' := [(3, .int (v3 + 1)), (0, .ref v0), (1, .int v1), (2, .int v2)]) (st' := []) rfl ?_
          have e := Option.some.inj e; subst e; exact wp_lv (lv' := [(0, .ref v0), (1, .int v1), (2, .int v2), (3, .int (v3 + 1))]) rfl ⟨rfl, rfl, rfl, rfl, trivial⟩ c
  · have e := Option.some.inj e; subst e; exact wp_lv (lv' := [(2, .int v2)]) rfl ⟨rfl, trivial⟩ c
noncomputable def L_Y_leastEnd_4 (v0 : Nat) (v1 : Int32) (v2 : Int32) (v3 : Int32) (g : g_S) : Option (Int32) := it (fun s : Int32 × Int32 => b_Y_leastEnd_4 v0 v1 s.1 s.2 g) (v2, v3)
theorem l_Y_leastEnd_4 {L : Nat} {xs : Nat → Int32} {Q : Option Value → ab_H → Prop} {v0 : Nat} {v1 : Int32} {v2 : Int32} {v3 : Int32} {g : g_S} {r : Int32} (e : L_Y_leastEnd_4 v0 v1 v2 v3 g = some r) (c : cL_Y_leastEnd_4 L xs Q v0 v1 g (.inr r)) : wp (ab_ext L xs) J_Y_leastEnd 4 [(0, .ref v0), (1, .int v1), (2, .int v2), (3, .int v3)] [] (hp g) Q :=
  it_wp (P := fun s : Int32 × Int32 => wp (ab_ext L xs) J_Y_leastEnd 4 [(0, .ref v0), (1, .int v1), (2, .int s.1), (3, .int s.2)] [] (hp g) Q) (E := fun r => cL_Y_leastEnd_4 L xs Q v0 v1 g (.inr r)) (fun s out e c => y_Y_leastEnd_4 e (by cases out <;> exact c)) e c
theorem L_Y_leastEnd_4_eq (v0 : Nat) (v1 : Int32) (v2 : Int32) (v3 : Int32) (g : g_S) : L_Y_leastEnd_4 v0 v1 v2 v3 g = itc (b_Y_leastEnd_4 v0 v1 v2 v3 g) (fun s => L_Y_leastEnd_4 v0 v1 s.1 s.2 g) := it_eq2 (fun s : Int32 × Int32 => b_Y_leastEnd_4 v0 v1 s.1 s.2 g) (v2, v3)
noncomputable def M_Y_leastEnd (v0 : Nat) (v1 : Int32) (g : g_S) : Option Int32 :=
  (L_Y_leastEnd_4 v0 v1 (-1) 0 g).bind <| fun z3 =>
  some z3
set_option maxRecDepth 20000 in
theorem d_Y_leastEnd {L : Nat} {xs : Nat → Int32} {Q : Option Value → ab_H → Prop} {v0 : Nat} {v1 : Int32} {g : g_S} {out : Int32} (e : M_Y_leastEnd v0 v1 g = some out) (c : Q (some (.int out)) (hp g)) : mw (ab_ext L xs) J_Y_leastEnd [.ref v0, .int v1] (hp g) Q := by
  unfold M_Y_leastEnd at e
  refine wp_p (j := J_Y_leastEnd) 4 (pc' := 4) (lv' := [(3, .int 0), (2, .int (-1)), (0, .ref v0), (1, .int v1)]) (st' := []) rfl ?_
  obtain ⟨z3, h2, e⟩ := bd e
  refine wp_lv (lv' := [(0, .ref v0), (1, .int v1), (2, .int (-1)), (3, .int 0)]) rfl ⟨rfl, rfl, rfl, rfl, trivial⟩ ?_
  refine l_Y_leastEnd_4 h2 ?_
  show wp (ab_ext L xs) J_Y_leastEnd 49 [(2, .int z3)] [] (hp g) Q
  refine wp_p (j := J_Y_leastEnd) 1 (pc' := 50) (lv' := [(2, .int z3)]) (st' := [.int z3]) rfl ?_
  have e := Option.some.inj e; subst e; exact wp_iret (ty := .int) rfl rfl rfl c
def cL_Y_putFloat_27 (L : Nat) (xs : Nat → Int32) (Q : Option Value → ab_H → Prop) (v0 : Nat) (v1 : Int32) (v2 : Int32) (v3 : Int32) (g : g_S) (out : (Int32 × Int32) ⊕ (Int32)) : Prop := match out with
  | .inl s => wp (ab_ext L xs) J_Y_putFloat 27 [(0, .ref v0), (1, .int v1), (2, .int v2), (3, .int v3), (4, .int s.1), (5, .int s.2)] [] (hp g) Q
  | .inr s => wp (ab_ext L xs) J_Y_putFloat 56 [(0, .ref v0), (1, .int v1), (2, .int v2), (3, .int v3), (4, .int s)] [] (hp g) Q
noncomputable def b_Y_putFloat_27 (v0 : Nat) (v1 : Int32) (v2 : Int32) (v3 : Int32) (v4 : Int32) (v5 : Int32) (g : g_S) : Option ((Int32 × Int32) ⊕ (Int32)) :=
  (rI g 112 v0 136).bind fun z1 =>
  if v5 < z1 then
    (rQ g 112 v0 139).bind fun z2 =>
    (aI g 0 z2 v5).bind fun z3 =>
    some (.inl (mx v4 z3, v5 + 1))
  else
    some (.inr v4)
set_option maxRecDepth 20000 in
theorem y_Y_putFloat_27 {L : Nat} {xs : Nat → Int32} {Q : Option Value → ab_H → Prop} {v0 : Nat} {v1 : Int32} {v2 : Int32} {v3 : Int32} {v4 : Int32} {v5 : Int32} {g : g_S} {out : (Int32 × Int32) ⊕ (Int32)} (e : b_Y_putFloat_27 v0 v1 v2 v3 v4 v5 g = some out) (c : cL_Y_putFloat_27 L xs Q v0 v1 v2 v3 g out) : wp (ab_ext L xs) J_Y_putFloat 27 [(0, .ref v0), (1, .int v1), (2, .int v2), (3, .int v3), (4, .int v4), (5, .int v5)] [] (hp g) Q := by
  unfold b_Y_putFloat_27 at e
  refine wp_p (j := J_Y_putFloat) 2 (pc' := 30) (lv' := [(0, .ref v0), (1, .int v1), (2, .int v2), (3, .int v3), (4, .int v4), (5, .int v5)]) (st' := [.ref v0, .int v5]) rfl ?_
  refine x_gI e rfl rfl fd_12_136 rfl (fun z1 e => ?_)
  refine x_ge e rfl (fun e => ?_) (fun e => ?_)
  · refine wp_p (j := J_Y_putFloat) 2 (pc' := 39) (lv' := [(0, .ref v0), (1, .int v1), (2, .int v2), (3, .int v3), (4, .int v4), (5, .int v5)]) (st' := [.ref v0, .int v4]) rfl ?_
    refine x_gQ e rfl rfl fd_12_139 rfl (fun z2 e => ?_)
    refine wp_p (j := J_Y_putFloat) 1 (pc' := 44) (lv' := [(0, .ref v0), (1, .int v1), (2, .int v2), (3, .int v3), (4, .int v4), (5, .int v5)]) (st' := [.int v5, .ref z2, .int v4]) rfl ?_
    refine x_aI e rfl rfl (fun z3 e => ?_)
    refine x_mx rfl rfl ?_
    refine wp_p (j := J_Y_putFloat) 3 (pc' := 27) (lv' := [(5, .int (v5 + 1)), (4, .int (mx v4 z3)), (0, .ref v0), (1, .int v1), (2, .int v2), (3, .int v3)]) (st' := []) rfl ?_
    have e := Option.some.inj e; subst e; exact wp_lv (lv' := [(0, .ref v0), (1, .int v1), (2, .int v2), (3, .int v3), (4, .int (mx v4 z3)), (5, .int (v5 + 1))]) rfl ⟨rfl, rfl, rfl, rfl, rfl, rfl, trivial⟩ c
  · have e := Option.some.inj e; subst e; exact wp_lv (lv' := [(0, .ref v0), (1, .int v1), (2, .int v2), (3, .int v3), (4, .int v4)]) rfl ⟨rfl, rfl, rfl, rfl, rfl, trivial⟩ c
noncomputable def L_Y_putFloat_27 (v0 : Nat) (v1 : Int32) (v2 : Int32) (v3 : Int32) (v4 : Int32) (v5 : Int32) (g : g_S) : Option (Int32) := it (fun s : Int32 × Int32 => b_Y_putFloat_27 v0 v1 v2 v3 s.1 s.2 g) (v4, v5)
theorem l_Y_putFloat_27 {L : Nat} {xs : Nat → Int32} {Q : Option Value → ab_H → Prop} {v0 : Nat} {v1 : Int32} {v2 : Int32} {v3 : Int32} {v4 : Int32} {v5 : Int32} {g : g_S} {r : Int32} (e : L_Y_putFloat_27 v0 v1 v2 v3 v4 v5 g = some r) (c : cL_Y_putFloat_27 L xs Q v0 v1 v2 v3 g (.inr r)) : wp (ab_ext L xs) J_Y_putFloat 27 [(0, .ref v0), (1, .int v1), (2, .int v2), (3, .int v3), (4, .int v4), (5, .int v5)] [] (hp g) Q :=
  it_wp (P := fun s : Int32 × Int32 => wp (ab_ext L xs) J_Y_putFloat 27 [(0, .ref v0), (1, .int v1), (2, .int v2), (3, .int v3), (4, .int s.1), (5, .int s.2)] [] (hp g) Q) (E := fun r => cL_Y_putFloat_27 L xs Q v0 v1 v2 v3 g (.inr r)) (fun s out e c => y_Y_putFloat_27 e (by cases out <;> exact c)) e c
theorem L_Y_putFloat_27_eq (v0 : Nat) (v1 : Int32) (v2 : Int32) (v3 : Int32) (v4 : Int32) (v5 : Int32) (g : g_S) : L_Y_putFloat_27 v0 v1 v2 v3 v4 v5 g = itc (b_Y_putFloat_27 v0 v1 v2 v3 v4 v5 g) (fun s => L_Y_putFloat_27 v0 v1 v2 v3 s.1 s.2 g) := it_eq2 (fun s : Int32 × Int32 => b_Y_putFloat_27 v0 v1 v2 v3 s.1 s.2 g) (v4, v5)
def cL_Y_putFloat_70 (L : Nat) (xs : Nat → Int32) (Q : Option Value → ab_H → Prop) (v0 : Nat) (v1 : Int32) (v2 : Int32) (v3 : Int32) (out : (Int32 × Int32 × g_S) ⊕ (Int32 × g_S)) : Prop := match out with
  | .inl s => wp (ab_ext L xs) J_Y_putFloat 70 [(0, .ref v0), (1, .int v1), (2, .int v2), (3, .int v3), (4, .int s.1), (5, .int s.2.1)] [] (hp s.2.2) Q
  | .inr s => wp (ab_ext L xs) J_Y_putFloat 110 [(0, .ref v0), (1, .int v1), (2, .int v2), (3, .int v3), (4, .int s.1)] [] (hp s.2) Q
noncomputable def b_Y_putFloat_70 (v0 : Nat) (v1 : Int32) (v2 : Int32) (v3 : Int32) (v4 : Int32) (v5 : Int32) (g : g_S) : Option ((Int32 × Int32 × g_S) ⊕ (Int32 × g_S)) :=
  (rI g 112 v0 128).bind fun z1 =>
  (rI g 112 v0 129).bind fun z2 =>
  if z2 < (z1 + v3) then
    if v5 = (-1) then
      some (.inr (v4, g))
    else
      (vc g 112 v0 (M_Y_edgesAt v0 v5 g)).bind fun g3 =>
      (vc g3 112 v0 (M_Y_leastEnd v0 v5 g3)).bind fun z4 =>
      some (.inl (v5, z4, g3))
  else
    some (.inr (v4, g))
set_option maxRecDepth 20000 in
theorem y_Y_putFloat_70 {L : Nat} {xs : Nat → Int32} {Q : Option Value → ab_H → Prop} {v0 : Nat} {v1 : Int32} {v2 : Int32} {v3 : Int32} {v4 : Int32} {v5 : Int32} {g : g_S} {out : (Int32 × Int32 × g_S) ⊕ (Int32 × g_S)} (e : b_Y_putFloat_70 v0 v1 v2 v3 v4 v5 g = some out) (c : cL_Y_putFloat_70 L xs Q v0 v1 v2 v3 out) : wp (ab_ext L xs) J_Y_putFloat 70 [(0, .ref v0), (1, .int v1), (2, .int v2), (3, .int v3), (4, .int v4), (5, .int v5)] [] (hp g) Q := by
  unfold b_Y_putFloat_70 at e
  refine wp_p (j := J_Y_putFloat) 1 (pc' := 71) (lv' := [(0, .ref v0), (1, .int v1), (2, .int v2), (3, .int v3), (4, .int v4), (5, .int v5)]) (st' := [.ref v0]) rfl ?_
  refine x_gI e rfl rfl fd_12_128 rfl (fun z1 e => ?_)
  refine wp_p (j := J_Y_putFloat) 3 (pc' := 77) (lv' := [(0, .ref v0), (1, .int v1), (2, .int v2), (3, .int v3), (4, .int v4), (5, .int v5)]) (st' := [.ref v0, .int (z1 + v3)]) rfl ?_
  refine x_gI e rfl rfl fd_12_129 rfl (fun z2 e => ?_)
  refine x_le e rfl (fun e => ?_) (fun e => ?_)
  · refine wp_p (j := J_Y_putFloat) 2 (pc' := 86) (lv' := [(0, .ref v0), (1, .int v1), (2, .int v2), (3, .int v3), (4, .int v4), (5, .int v5)]) (st' := [.int (-1), .int v5]) rfl ?_
    refine x_eq e rfl (fun e => ?_) (fun e => ?_)
    · have e := Option.some.inj e; subst e; exact wp_lv (lv' := [(0, .ref v0), (1, .int v1), (2, .int v2), (3, .int v3), (4, .int v4)]) rfl ⟨rfl, rfl, rfl, rfl, rfl, trivial⟩ c
    · refine wp_p (j := J_Y_putFloat) 4 (pc' := 96) (lv' := [(4, .int v5), (0, .ref v0), (1, .int v1), (2, .int v2), (3, .int v3), (5, .int v5)]) (st' := [.int v5, .ref v0]) rfl ?_
      refine x_cv0 (As := [.int v5]) (rest := []) e rfl rfl rfl rfl rfl rfl (fun h => d_Y_edgesAt h ⟨rfl, rfl⟩) (fun g3 e => ?_)
      refine wp_p (j := J_Y_putFloat) 2 (pc' := 102) (lv' := [(4, .int v5), (0, .ref v0), (1, .int v1), (2, .int v2), (3, .int v3), (5, .int v5)]) (st' := [.int v5, .ref v0]) rfl ?_
      refine x_cv1 (As := [.int v5]) (rest := []) Value.int e rfl rfl rfl rfl rfl rfl (fun h => d_Y_leastEnd h ⟨rfl, rfl⟩) (fun z4 e => ?_)
      refine wp_p (j := J_Y_putFloat) 2 (pc' := 70) (lv' := [(5, .int z4), (4, .int v5), (0, .ref v0), (1, .int v1), (2, .int v2), (3, .int v3)]) (st' := []) rfl ?_
      have e := Option.some.inj e; subst e; exact wp_lv (lv' := [(0, .ref v0), (1, .int v1), (2, .int v2), (3, .int v3), (4, .int v5), (5, .int z4)]) rfl ⟨rfl, rfl, rfl, rfl, rfl, rfl, trivial⟩ c
  · have e := Option.some.inj e; subst e; exact wp_lv (lv' := [(0, .ref v0), (1, .int v1), (2, .int v2), (3, .int v3), (4, .int v4)]) rfl ⟨rfl, rfl, rfl, rfl, rfl, trivial⟩ c
noncomputable def L_Y_putFloat_70 (v0 : Nat) (v1 : Int32) (v2 : Int32) (v3 : Int32) (v4 : Int32) (v5 : Int32) (g : g_S) : Option (Int32 × g_S) := it (fun s : Int32 × Int32 × g_S => b_Y_putFloat_70 v0 v1 v2 v3 s.1 s.2.1 s.2.2) (v4, v5, g)
theorem l_Y_putFloat_70 {L : Nat} {xs : Nat → Int32} {Q : Option Value → ab_H → Prop} {v0 : Nat} {v1 : Int32} {v2 : Int32} {v3 : Int32} {v4 : Int32} {v5 : Int32} {g : g_S} {r : Int32 × g_S} (e : L_Y_putFloat_70 v0 v1 v2 v3 v4 v5 g = some r) (c : cL_Y_putFloat_70 L xs Q v0 v1 v2 v3 (.inr r)) : wp (ab_ext L xs) J_Y_putFloat 70 [(0, .ref v0), (1, .int v1), (2, .int v2), (3, .int v3), (4, .int v4), (5, .int v5)] [] (hp g) Q :=
  it_wp (P := fun s : Int32 × Int32 × g_S => wp (ab_ext L xs) J_Y_putFloat 70 [(0, .ref v0), (1, .int v1), (2, .int v2), (3, .int v3), (4, .int s.1), (5, .int s.2.1)] [] (hp s.2.2) Q) (E := fun r => cL_Y_putFloat_70 L xs Q v0 v1 v2 v3 (.inr r)) (fun s out e c => y_Y_putFloat_70 e (by cases out <;> exact c)) e c
theorem L_Y_putFloat_70_eq (v0 : Nat) (v1 : Int32) (v2 : Int32) (v3 : Int32) (v4 : Int32) (v5 : Int32) (g : g_S) : L_Y_putFloat_70 v0 v1 v2 v3 v4 v5 g = itc (b_Y_putFloat_70 v0 v1 v2 v3 v4 v5 g) (fun s => L_Y_putFloat_70 v0 v1 v2 v3 s.1 s.2.1 s.2.2) := it_eq2 (fun s : Int32 × Int32 × g_S => b_Y_putFloat_70 v0 v1 v2 v3 s.1 s.2.1 s.2.2) (v4, v5, g)
noncomputable def k_Y_putFloat_134 (v0 : Nat) (v1 : Int32) (v2 : Int32) (v3 : Int32) (v4 : Int32) (w0 : Int32) (g : g_S) : Option g_S :=
  (rQ g 112 v0 137).bind fun z1 =>
  (rI g 112 v0 136).bind fun z2 =>
  (sI g z1 z2 w0).bind fun g3 =>
  (rQ g3 112 v0 138).bind fun z4 =>
  (rI g3 112 v0 136).bind fun z5 =>
  (sI g3 z4 z5 (w0 + v3)).bind fun g6 =>
  (rQ g6 112 v0 139).bind fun z7 =>
  (rI g6 112 v0 136).bind fun z8 =>
  (sI g6 z7 z8 v4).bind fun g9 =>
  (rQ g9 112 v0 140).bind fun z10 =>
  (rI g9 112 v0 136).bind fun z11 =>
  (rQ g9 112 v0 113).bind fun z12 =>
  (aI g9 0 z12 v1).bind fun z13 =>
  (sI g9 z10 z11 ((v4 + z13) + (2 * v2))).bind fun g14 =>
  (rQ g14 112 v0 141).bind fun z15 =>
  (rI g14 112 v0 136).bind fun z16 =>
  (vc g14 112 v0 (M_Y_of v0 v1 10 g14)).bind fun z17 =>
  (sI g14 z15 z16 z17).bind fun g18 =>
  (rI g18 112 v0 136).bind fun z19 =>
  (wI g18 112 v0 136 (z19 + 1)).bind fun g20 =>
  (rQ g20 112 v0 110).bind fun z21 =>
  (sI g20 z21 v1 (w0 + v2)).bind fun g22 =>
  (rQ g22 112 v0 111).bind fun z23 =>
  (sI g22 z23 v1 (v4 + v2)).bind fun g24 =>
  some g24
set_option maxRecDepth 20000 in
theorem x_Y_putFloat_134 {L : Nat} {xs : Nat → Int32} {Q : Option Value → ab_H → Prop} {v0 : Nat} {v1 : Int32} {v2 : Int32} {v3 : Int32} {v4 : Int32} {w0 : Int32} {g : g_S} {out : g_S} (e : k_Y_putFloat_134 v0 v1 v2 v3 v4 w0 g = some out) (c : Q none (hp out)) : wp (ab_ext L xs) J_Y_putFloat 134 [(0, .ref v0), (1, .int v1), (2, .int v2), (3, .int v3), (4, .int v4)] [.int w0] (hp g) Q := by
  unfold k_Y_putFloat_134 at e
  refine wp_p (j := J_Y_putFloat) 2 (pc' := 137) (lv' := [(6, .int w0), (0, .ref v0), (1, .int v1), (2, .int v2), (3, .int v3), (4, .int v4)]) (st' := [.ref v0]) rfl ?_
  refine x_gQ e rfl rfl fd_12_137 rfl (fun z1 e => ?_)
  refine wp_p (j := J_Y_putFloat) 1 (pc' := 141) (lv' := [(6, .int w0), (0, .ref v0), (1, .int v1), (2, .int v2), (3, .int v3), (4, .int v4)]) (st' := [.ref v0, .ref z1]) rfl ?_
  refine x_gI e rfl rfl fd_12_136 rfl (fun z2 e => ?_)
  refine wp_p (j := J_Y_putFloat) 1 (pc' := 146) (lv' := [(6, .int w0), (0, .ref v0), (1, .int v1), (2, .int v2), (3, .int v3), (4, .int v4)]) (st' := [.int w0, .int z2, .ref z1]) rfl ?_
  refine x_sI e rfl rfl (fun g3 e => ?_)
  refine wp_p (j := J_Y_putFloat) 1 (pc' := 148) (lv' := [(6, .int w0), (0, .ref v0), (1, .int v1), (2, .int v2), (3, .int v3), (4, .int v4)]) (st' := [.ref v0]) rfl ?_
  refine x_gQ e rfl rfl fd_12_138 rfl (fun z4 e => ?_)
  refine wp_p (j := J_Y_putFloat) 1 (pc' := 152) (lv' := [(6, .int w0), (0, .ref v0), (1, .int v1), (2, .int v2), (3, .int v3), (4, .int v4)]) (st' := [.ref v0, .ref z4]) rfl ?_
  refine x_gI e rfl rfl fd_12_136 rfl (fun z5 e => ?_)
  refine wp_p (j := J_Y_putFloat) 3 (pc' := 159) (lv' := [(6, .int w0), (0, .ref v0), (1, .int v1), (2, .int v2), (3, .int v3), (4, .int v4)]) (st' := [.int (w0 + v3), .int z5, .ref z4]) rfl ?_
  refine x_sI e rfl rfl (fun g6 e => ?_)
  refine wp_p (j := J_Y_putFloat) 1 (pc' := 161) (lv' := [(6, .int w0), (0, .ref v0), (1, .int v1), (2, .int v2), (3, .int v3), (4, .int v4)]) (st' := [.ref v0]) rfl ?_
  refine x_gQ e rfl rfl fd_12_139 rfl (fun z7 e => ?_)
  refine wp_p (j := J_Y_putFloat) 1 (pc' := 165) (lv' := [(6, .int w0), (0, .ref v0), (1, .int v1), (2, .int v2), (3, .int v3), (4, .int v4)]) (st' := [.ref v0, .ref z7]) rfl ?_
  refine x_gI e rfl rfl fd_12_136 rfl (fun z8 e => ?_)
  refine wp_p (j := J_Y_putFloat) 1 (pc' := 170) (lv' := [(6, .int w0), (0, .ref v0), (1, .int v1), (2, .int v2), (3, .int v3), (4, .int v4)]) (st' := [.int v4, .int z8, .ref z7]) rfl ?_
  refine x_sI e rfl rfl (fun g9 e => ?_)
  refine wp_p (j := J_Y_putFloat) 1 (pc' := 172) (lv' := [(6, .int w0), (0, .ref v0), (1, .int v1), (2, .int v2), (3, .int v3), (4, .int v4)]) (st' := [.ref v0]) rfl ?_
  refine x_gQ e rfl rfl fd_12_140 rfl (fun z10 e => ?_)
  refine wp_p (j := J_Y_putFloat) 1 (pc' := 176) (lv' := [(6, .int w0), (0, .ref v0), (1, .int v1), (2, .int v2), (3, .int v3), (4, .int v4)]) (st' := [.ref v0, .ref z10]) rfl ?_
  refine x_gI e rfl rfl fd_12_136 rfl (fun z11 e => ?_)
  refine wp_p (j := J_Y_putFloat) 2 (pc' := 182) (lv' := [(6, .int w0), (0, .ref v0), (1, .int v1), (2, .int v2), (3, .int v3), (4, .int v4)]) (st' := [.ref v0, .int v4, .int z11, .ref z10]) rfl ?_
  refine x_gQ e rfl rfl fd_12_113 rfl (fun z12 e => ?_)
  refine wp_p (j := J_Y_putFloat) 1 (pc' := 186) (lv' := [(6, .int w0), (0, .ref v0), (1, .int v1), (2, .int v2), (3, .int v3), (4, .int v4)]) (st' := [.int v1, .ref z12, .int v4, .int z11, .ref z10]) rfl ?_
  refine x_aI e rfl rfl (fun z13 e => ?_)
  refine wp_p (j := J_Y_putFloat) 5 (pc' := 192) (lv' := [(6, .int w0), (0, .ref v0), (1, .int v1), (2, .int v2), (3, .int v3), (4, .int v4)]) (st' := [.int ((v4 + z13) + (2 * v2)), .int z11, .ref z10]) rfl ?_
  refine x_sI e rfl rfl (fun g14 e => ?_)
  refine wp_p (j := J_Y_putFloat) 1 (pc' := 194) (lv' := [(6, .int w0), (0, .ref v0), (1, .int v1), (2, .int v2), (3, .int v3), (4, .int v4)]) (st' := [.ref v0]) rfl ?_
  refine x_gQ e rfl rfl fd_12_141 rfl (fun z15 e => ?_)
  refine wp_p (j := J_Y_putFloat) 1 (pc' := 198) (lv' := [(6, .int w0), (0, .ref v0), (1, .int v1), (2, .int v2), (3, .int v3), (4, .int v4)]) (st' := [.ref v0, .ref z15]) rfl ?_
  refine x_gI e rfl rfl fd_12_136 rfl (fun z16 e => ?_)
  refine wp_p (j := J_Y_putFloat) 3 (pc' := 205) (lv' := [(6, .int w0), (0, .ref v0), (1, .int v1), (2, .int v2), (3, .int v3), (4, .int v4)]) (st' := [.int 10, .int v1, .ref v0, .int z16, .ref z15]) rfl ?_
  refine x_cv1 (As := [.int v1, .int 10]) (rest := [.int z16, .ref z15]) Value.int e rfl rfl rfl rfl rfl rfl (fun h => d_Y_of h ⟨rfl, rfl⟩) (fun z17 e => ?_)
  refine x_sI e rfl rfl (fun g18 e => ?_)
  refine wp_p (j := J_Y_putFloat) 2 (pc' := 211) (lv' := [(6, .int w0), (0, .ref v0), (1, .int v1), (2, .int v2), (3, .int v3), (4, .int v4)]) (st' := [.ref v0, .ref v0]) rfl ?_
  refine x_gI e rfl rfl fd_12_136 rfl (fun z19 e => ?_)
  refine wp_p (j := J_Y_putFloat) 2 (pc' := 216) (lv' := [(6, .int w0), (0, .ref v0), (1, .int v1), (2, .int v2), (3, .int v3), (4, .int v4)]) (st' := [.int (z19 + 1), .ref v0]) rfl ?_
  refine x_pI e rfl rfl fw_12_136 rfl (fun g20 e => ?_)
  refine wp_p (j := J_Y_putFloat) 1 (pc' := 220) (lv' := [(6, .int w0), (0, .ref v0), (1, .int v1), (2, .int v2), (3, .int v3), (4, .int v4)]) (st' := [.ref v0]) rfl ?_
  refine x_gQ e rfl rfl fd_12_110 rfl (fun z21 e => ?_)
  refine wp_p (j := J_Y_putFloat) 4 (pc' := 228) (lv' := [(6, .int w0), (0, .ref v0), (1, .int v1), (2, .int v2), (3, .int v3), (4, .int v4)]) (st' := [.int (w0 + v2), .int v1, .ref z21]) rfl ?_
  refine x_sI e rfl rfl (fun g22 e => ?_)
  refine wp_p (j := J_Y_putFloat) 1 (pc' := 230) (lv' := [(6, .int w0), (0, .ref v0), (1, .int v1), (2, .int v2), (3, .int v3), (4, .int v4)]) (st' := [.ref v0]) rfl ?_
  refine x_gQ e rfl rfl fd_12_111 rfl (fun z23 e => ?_)
  refine wp_p (j := J_Y_putFloat) 4 (pc' := 238) (lv' := [(6, .int w0), (0, .ref v0), (1, .int v1), (2, .int v2), (3, .int v3), (4, .int v4)]) (st' := [.int (v4 + v2), .int v1, .ref z23]) rfl ?_
  refine x_sI e rfl rfl (fun g24 e => ?_)
  have e := Option.some.inj e; subst e; exact wp_vret rfl rfl c
noncomputable def k_Y_putFloat_110 (v0 : Nat) (v1 : Int32) (v2 : Int32) (v3 : Int32) (v4 : Int32) (g : g_S) : Option g_S :=
  (vc g 112 v0 (M_Y_of v0 v1 10 g)).bind fun z1 =>
  if z1 = 1 then
    (rI g 112 v0 128).bind fun z2 =>
    k_Y_putFloat_134 v0 v1 v2 v3 v4 z2 g
  else
    (rI g 112 v0 129).bind fun z3 =>
    k_Y_putFloat_134 v0 v1 v2 v3 v4 (z3 - v3) g
set_option maxRecDepth 20000 in
theorem x_Y_putFloat_110 {L : Nat} {xs : Nat → Int32} {Q : Option Value → ab_H → Prop} {v0 : Nat} {v1 : Int32} {v2 : Int32} {v3 : Int32} {v4 : Int32} {g : g_S} {out : g_S} (e : k_Y_putFloat_110 v0 v1 v2 v3 v4 g = some out) (c : Q none (hp out)) : wp (ab_ext L xs) J_Y_putFloat 110 [(0, .ref v0), (1, .int v1), (2, .int v2), (3, .int v3), (4, .int v4)] [] (hp g) Q := by
  unfold k_Y_putFloat_110 at e
  refine wp_p (j := J_Y_putFloat) 3 (pc' := 114) (lv' := [(0, .ref v0), (1, .int v1), (2, .int v2), (3, .int v3), (4, .int v4)]) (st' := [.int 10, .int v1, .ref v0]) rfl ?_
  refine x_cv1 (As := [.int v1, .int 10]) (rest := []) Value.int e rfl rfl rfl rfl rfl rfl (fun h => d_Y_of h ⟨rfl, rfl⟩) (fun z1 e => ?_)
  refine wp_p (j := J_Y_putFloat) 1 (pc' := 118) (lv' := [(0, .ref v0), (1, .int v1), (2, .int v2), (3, .int v3), (4, .int v4)]) (st' := [.int 1, .int z1]) rfl ?_
  refine x_ne e rfl (fun e => ?_) (fun e => ?_)
  · refine wp_p (j := J_Y_putFloat) 1 (pc' := 122) (lv' := [(0, .ref v0), (1, .int v1), (2, .int v2), (3, .int v3), (4, .int v4)]) (st' := [.ref v0]) rfl ?_
    refine x_gI e rfl rfl fd_12_128 rfl (fun z2 e => ?_)
    refine wp_p (j := J_Y_putFloat) 1 (pc' := 134) (lv' := [(0, .ref v0), (1, .int v1), (2, .int v2), (3, .int v3), (4, .int v4)]) (st' := [.int z2]) rfl ?_
    exact wp_lv (lv' := [(0, .ref v0), (1, .int v1), (2, .int v2), (3, .int v3), (4, .int v4)]) rfl ⟨rfl, rfl, rfl, rfl, rfl, trivial⟩ (x_Y_putFloat_134 e c)
  · refine wp_p (j := J_Y_putFloat) 1 (pc' := 129) (lv' := [(0, .ref v0), (1, .int v1), (2, .int v2), (3, .int v3), (4, .int v4)]) (st' := [.ref v0]) rfl ?_
    refine x_gI e rfl rfl fd_12_129 rfl (fun z3 e => ?_)
    refine wp_p (j := J_Y_putFloat) 2 (pc' := 134) (lv' := [(0, .ref v0), (1, .int v1), (2, .int v2), (3, .int v3), (4, .int v4)]) (st' := [.int (z3 - v3)]) rfl ?_
    exact wp_lv (lv' := [(0, .ref v0), (1, .int v1), (2, .int v2), (3, .int v3), (4, .int v4)]) rfl ⟨rfl, rfl, rfl, rfl, rfl, trivial⟩ (x_Y_putFloat_134 e c)
noncomputable def M_Y_putFloat (v0 : Nat) (v1 : Int32) (g : g_S) : Option g_S :=
  (vc g 112 v0 (M_Y_of v0 v1 3 g)).bind fun z1 =>
  (rQ g 112 v0 112).bind fun z2 =>
  (aI g 0 z2 v1).bind fun z3 =>
  (rI g 112 v0 127).bind fun z4 =>
  (L_Y_putFloat_27 v0 v1 z1 (z3 + (2 * z1)) z4 0 g).bind <| fun z7 =>
  (vc g 112 v0 (M_Y_edgesAt v0 z7 g)).bind fun g8 =>
  (vc g8 112 v0 (M_Y_leastEnd v0 z7 g8)).bind fun z9 =>
  (L_Y_putFloat_70 v0 v1 z1 (z3 + (2 * z1)) z7 z9 g8).bind <| u2 fun z12 g13 =>
  k_Y_putFloat_110 v0 v1 z1 (z3 + (2 * z1)) z12 g13
set_option maxRecDepth 20000 in
theorem d_Y_putFloat {L : Nat} {xs : Nat → Int32} {Q : Option Value → ab_H → Prop} {v0 : Nat} {v1 : Int32} {g : g_S} {out : g_S} (e : M_Y_putFloat v0 v1 g = some out) (c : Q none (hp out)) : mw (ab_ext L xs) J_Y_putFloat [.ref v0, .int v1] (hp g) Q := by
  unfold M_Y_putFloat at e
  refine wp_p (j := J_Y_putFloat) 3 (pc' := 3) (lv' := [(0, .ref v0), (1, .int v1)]) (st' := [.int 3, .int v1, .ref v0]) rfl ?_
  refine x_cv1 (As := [.int v1, .int 3]) (rest := []) Value.int e rfl rfl rfl rfl rfl rfl (fun h => d_Y_of h ⟨rfl, rfl⟩) (fun z1 e => ?_)
  refine wp_p (j := J_Y_putFloat) 2 (pc' := 8) (lv' := [(2, .int z1), (0, .ref v0), (1, .int v1)]) (st' := [.ref v0]) rfl ?_
  refine x_gQ e rfl rfl fd_12_112 rfl (fun z2 e => ?_)
  refine wp_p (j := J_Y_putFloat) 1 (pc' := 12) (lv' := [(2, .int z1), (0, .ref v0), (1, .int v1)]) (st' := [.int v1, .ref z2]) rfl ?_
  refine x_aI e rfl rfl (fun z3 e => ?_)
  refine wp_p (j := J_Y_putFloat) 6 (pc' := 19) (lv' := [(3, .int (z3 + (2 * z1))), (2, .int z1), (0, .ref v0), (1, .int v1)]) (st' := [.ref v0]) rfl ?_
  refine x_gI e rfl rfl fd_12_127 rfl (fun z4 e => ?_)
  refine wp_p (j := J_Y_putFloat) 3 (pc' := 27) (lv' := [(5, .int 0), (4, .int z4), (3, .int (z3 + (2 * z1))), (2, .int z1), (0, .ref v0), (1, .int v1)]) (st' := []) rfl ?_
  obtain ⟨z7, h6, e⟩ := bd e
  refine wp_lv (lv' := [(0, .ref v0), (1, .int v1), (2, .int z1), (3, .int (z3 + (2 * z1))), (4, .int z4), (5, .int 0)]) rfl ⟨rfl, rfl, rfl, rfl, rfl, rfl, trivial⟩ ?_
  refine l_Y_putFloat_27 h6 ?_
  show wp (ab_ext L xs) J_Y_putFloat 56 [(0, .ref v0), (1, .int v1), (2, .int z1), (3, .int (z3 + (2 * z1))), (4, .int z7)] [] (hp g) Q
  refine wp_p (j := J_Y_putFloat) 2 (pc' := 59) (lv' := [(0, .ref v0), (1, .int v1), (2, .int z1), (3, .int (z3 + (2 * z1))), (4, .int z7)]) (st' := [.int z7, .ref v0]) rfl ?_
  refine x_cv0 (As := [.int z7]) (rest := []) e rfl rfl rfl rfl rfl rfl (fun h => d_Y_edgesAt h ⟨rfl, rfl⟩) (fun g8 e => ?_)
  refine wp_p (j := J_Y_putFloat) 2 (pc' := 65) (lv' := [(0, .ref v0), (1, .int v1), (2, .int z1), (3, .int (z3 + (2 * z1))), (4, .int z7)]) (st' := [.int z7, .ref v0]) rfl ?_
  refine x_cv1 (As := [.int z7]) (rest := []) Value.int e rfl rfl rfl rfl rfl rfl (fun h => d_Y_leastEnd h ⟨rfl, rfl⟩) (fun z9 e => ?_)
  refine wp_p (j := J_Y_putFloat) 1 (pc' := 70) (lv' := [(5, .int z9), (0, .ref v0), (1, .int v1), (2, .int z1), (3, .int (z3 + (2 * z1))), (4, .int z7)]) (st' := []) rfl ?_
  obtain ⟨s10, h11, e⟩ := bd e
  refine wp_lv (lv' := [(0, .ref v0), (1, .int v1), (2, .int z1), (3, .int (z3 + (2 * z1))), (4, .int z7), (5, .int z9)]) rfl ⟨rfl, rfl, rfl, rfl, rfl, rfl, trivial⟩ ?_
  refine l_Y_putFloat_70 h11 ?_
  obtain ⟨z12, g13⟩ := s10
  replace e := u2_e e
  show wp (ab_ext L xs) J_Y_putFloat 110 [(0, .ref v0), (1, .int v1), (2, .int z1), (3, .int (z3 + (2 * z1))), (4, .int z12)] [] (hp g13) Q
  exact wp_lv (lv' := [(0, .ref v0), (1, .int v1), (2, .int z1), (3, .int (z3 + (2 * z1))), (4, .int z12)]) rfl ⟨rfl, rfl, rfl, rfl, rfl, trivial⟩ (x_Y_putFloat_110 e c)
noncomputable def M_Y_itemHigh (v0 : Nat) (v1 : Int32) (g : g_S) : Option Int32 :=
  if v1 < 0 then
    (rQ g 112 v0 113).bind fun z1 =>
    (aI g 0 z1 ((-1) - v1)).bind fun z2 =>
    some z2
  else
    (rQ g 112 v0 49).bind fun z3 =>
    (rQ g 112 v0 118).bind fun z4 =>
    (aI g 0 z4 v1).bind fun z5 =>
    (aI g 0 z3 z5).bind fun z6 =>
    (vc g 112 v0 (M_Y_of v0 z6 8 g)).bind fun z7 =>
    some (7 * z7)
set_option maxRecDepth 20000 in
theorem d_Y_itemHigh {L : Nat} {xs : Nat → Int32} {Q : Option Value → ab_H → Prop} {v0 : Nat} {v1 : Int32} {g : g_S} {out : Int32} (e : M_Y_itemHigh v0 v1 g = some out) (c : Q (some (.int out)) (hp g)) : mw (ab_ext L xs) J_Y_itemHigh [.ref v0, .int v1] (hp g) Q := by
  unfold M_Y_itemHigh at e
  refine wp_p (j := J_Y_itemHigh) 1 (pc' := 1) (lv' := [(0, .ref v0), (1, .int v1)]) (st' := [.int v1]) rfl ?_
  refine z_ge e rfl (fun e => ?_) (fun e => ?_)
  · refine wp_p (j := J_Y_itemHigh) 1 (pc' := 5) (lv' := [(0, .ref v0), (1, .int v1)]) (st' := [.ref v0]) rfl ?_
    refine x_gQ e rfl rfl fd_12_113 rfl (fun z1 e => ?_)
    refine wp_p (j := J_Y_itemHigh) 3 (pc' := 11) (lv' := [(0, .ref v0), (1, .int v1)]) (st' := [.int ((-1) - v1), .ref z1]) rfl ?_
    refine x_aI e rfl rfl (fun z2 e => ?_)
    refine wp_p (j := J_Y_itemHigh) 1 (pc' := 35) (lv' := [(0, .ref v0), (1, .int v1)]) (st' := [.int z2]) rfl ?_
    have e := Option.some.inj e; subst e; exact wp_iret (ty := .int) rfl rfl rfl c
  · refine wp_p (j := J_Y_itemHigh) 3 (pc' := 19) (lv' := [(0, .ref v0), (1, .int v1)]) (st' := [.ref v0, .ref v0, .int 7]) rfl ?_
    refine x_gQ e rfl rfl fd_12_49 rfl (fun z3 e => ?_)
    refine wp_p (j := J_Y_itemHigh) 1 (pc' := 23) (lv' := [(0, .ref v0), (1, .int v1)]) (st' := [.ref v0, .ref z3, .ref v0, .int 7]) rfl ?_
    refine x_gQ e rfl rfl fd_12_118 rfl (fun z4 e => ?_)
    refine wp_p (j := J_Y_itemHigh) 1 (pc' := 27) (lv' := [(0, .ref v0), (1, .int v1)]) (st' := [.int v1, .ref z4, .ref z3, .ref v0, .int 7]) rfl ?_
    refine x_aI e rfl rfl (fun z5 e => ?_)
    refine x_aI e rfl rfl (fun z6 e => ?_)
    refine wp_p (j := J_Y_itemHigh) 1 (pc' := 31) (lv' := [(0, .ref v0), (1, .int v1)]) (st' := [.int 8, .int z6, .ref v0, .int 7]) rfl ?_
    refine x_cv1 (As := [.int z6, .int 8]) (rest := [.int 7]) Value.int e rfl rfl rfl rfl rfl rfl (fun h => d_Y_of h ⟨rfl, rfl⟩) (fun z7 e => ?_)
    refine wp_p (j := J_Y_itemHigh) 1 (pc' := 35) (lv' := [(0, .ref v0), (1, .int v1)]) (st' := [.int (7 * z7)]) rfl ?_
    have e := Option.some.inj e; subst e; exact wp_iret (ty := .int) rfl rfl rfl c
def cL_Y_endLine_173 (L : Nat) (xs : Nat → Int32) (Q : Option Value → ab_H → Prop) (v0 : Nat) (out : (Int32 × g_S) ⊕ (g_S)) : Prop := match out with
  | .inl s => wp (ab_ext L xs) J_Y_endLine 173 [(0, .ref v0), (3, .int s.1)] [] (hp s.2) Q
  | .inr s => wp (ab_ext L xs) J_Y_endLine 197 [(0, .ref v0)] [] (hp s) Q
noncomputable def b_Y_endLine_173 (v0 : Nat) (v3 : Int32) (g : g_S) : Option ((Int32 × g_S) ⊕ (g_S)) :=
  (rI g 112 v0 143).bind fun z1 =>
  if v3 < z1 then
    (rQ g 112 v0 142).bind fun z2 =>
    (aI g 0 z2 v3).bind fun z3 =>
    (vc g 112 v0 (M_Y_putFloat v0 z3 g)).bind fun g4 =>
    some (.inl (v3 + 1, g4))
  else
    some (.inr g)
set_option maxRecDepth 20000 in
theorem y_Y_endLine_173 {L : Nat} {xs : Nat → Int32} {Q : Option Value → ab_H → Prop} {v0 : Nat} {v3 : Int32} {g : g_S} {out : (Int32 × g_S) ⊕ (g_S)} (e : b_Y_endLine_173 v0 v3 g = some out) (c : cL_Y_endLine_173 L xs Q v0 out) : wp (ab_ext L xs) J_Y_endLine 173 [(0, .ref v0), (3, .int v3)] [] (hp g) Q := by
  unfold b_Y_endLine_173 at e
  refine wp_p (j := J_Y_endLine) 2 (pc' := 175) (lv' := [(0, .ref v0), (3, .int v3)]) (st' := [.ref v0, .int v3]) rfl ?_
  refine x_gI e rfl rfl fd_12_143 rfl (fun z1 e => ?_)
  refine x_ge e rfl (fun e => ?_) (fun e => ?_)
  · refine wp_p (j := J_Y_endLine) 2 (pc' := 183) (lv' := [(0, .ref v0), (3, .int v3)]) (st' := [.ref v0, .ref v0]) rfl ?_
    refine x_gQ e rfl rfl fd_12_142 rfl (fun z2 e => ?_)
    refine wp_p (j := J_Y_endLine) 1 (pc' := 187) (lv' := [(0, .ref v0), (3, .int v3)]) (st' := [.int v3, .ref z2, .ref v0]) rfl ?_
    refine x_aI e rfl rfl (fun z3 e => ?_)
    refine x_cv0 (As := [.int z3]) (rest := []) e rfl rfl rfl rfl rfl rfl (fun h => d_Y_putFloat h ⟨rfl, rfl⟩) (fun g4 e => ?_)
    refine wp_p (j := J_Y_endLine) 2 (pc' := 173) (lv' := [(3, .int (v3 + 1)), (0, .ref v0)]) (st' := []) rfl ?_
    have e := Option.some.inj e; subst e; exact wp_lv (lv' := [(0, .ref v0), (3, .int (v3 + 1))]) rfl ⟨rfl, rfl, trivial⟩ c
  · have e := Option.some.inj e; subst e; exact wp_lv (lv' := [(0, .ref v0)]) rfl ⟨rfl, trivial⟩ c
noncomputable def L_Y_endLine_173 (v0 : Nat) (v3 : Int32) (g : g_S) : Option (g_S) := it (fun s : Int32 × g_S => b_Y_endLine_173 v0 s.1 s.2) (v3, g)
theorem l_Y_endLine_173 {L : Nat} {xs : Nat → Int32} {Q : Option Value → ab_H → Prop} {v0 : Nat} {v3 : Int32} {g : g_S} {r : g_S} (e : L_Y_endLine_173 v0 v3 g = some r) (c : cL_Y_endLine_173 L xs Q v0 (.inr r)) : wp (ab_ext L xs) J_Y_endLine 173 [(0, .ref v0), (3, .int v3)] [] (hp g) Q :=
  it_wp (P := fun s : Int32 × g_S => wp (ab_ext L xs) J_Y_endLine 173 [(0, .ref v0), (3, .int s.1)] [] (hp s.2) Q) (E := fun r => cL_Y_endLine_173 L xs Q v0 (.inr r)) (fun s out e c => y_Y_endLine_173 e (by cases out <;> exact c)) e c
theorem L_Y_endLine_173_eq (v0 : Nat) (v3 : Int32) (g : g_S) : L_Y_endLine_173 v0 v3 g = itc (b_Y_endLine_173 v0 v3 g) (fun s => L_Y_endLine_173 v0 s.1 s.2) := it_eq2 (fun s : Int32 × g_S => b_Y_endLine_173 v0 s.1 s.2) (v3, g)
def cL_Y_endLine_43 (L : Nat) (xs : Nat → Int32) (Q : Option Value → ab_H → Prop) (v0 : Nat) (v2 : Int32) (out : (Int32 × g_S) ⊕ (g_S)) : Prop := match out with
  | .inl s => wp (ab_ext L xs) J_Y_endLine 43 [(0, .ref v0), (2, .int v2), (3, .int s.1)] [] (hp s.2) Q
  | .inr s => wp (ab_ext L xs) J_Y_endLine 143 [(0, .ref v0)] [] (hp s) Q
noncomputable def b_Y_endLine_43 (v0 : Nat) (v2 : Int32) (v3 : Int32) (g : g_S) : Option ((Int32 × g_S) ⊕ (g_S)) :=
  (rI g 112 v0 131).bind fun z1 =>
  if v3 < z1 then
    (rQ g 112 v0 134).bind fun z2 =>
    (aI g 0 z2 v3).bind fun z3 =>
    (rI g 112 v0 127).bind fun z4 =>
    (rI g 112 v0 132).bind fun z5 =>
    (vc g 112 v0 (M_Y_itemHigh v0 z3 g)).bind fun z6 =>
    if z3 < 0 then
      (rQ g 112 v0 110).bind fun z7 =>
      (rQ g 112 v0 135).bind fun z8 =>
      (aI g 0 z8 v3).bind fun z9 =>
      (sI g z7 ((-1) - z3) (z9 + v2)).bind fun g10 =>
      (rQ g10 112 v0 111).bind fun z11 =>
      (sI g10 z11 ((-1) - z3) ((z4 + z5) - z6)).bind fun g12 =>
      some (.inl (v3 + 1, g12))
    else
      (rQ g 112 v0 121).bind fun z13 =>
      (rQ g 112 v0 135).bind fun z14 =>
      (aI g 0 z14 v3).bind fun z15 =>
      (sI g z13 z3 (z15 + v2)).bind fun g16 =>
      (rQ g16 112 v0 122).bind fun z17 =>
      (sI g16 z17 z3 ((z4 + z5) - z6)).bind fun g18 =>
      some (.inl (v3 + 1, g18))
  else
    some (.inr g)
set_option maxRecDepth 20000 in
theorem y_Y_endLine_43 {L : Nat} {xs : Nat → Int32} {Q : Option Value → ab_H → Prop} {v0 : Nat} {v2 : Int32} {v3 : Int32} {g : g_S} {out : (Int32 × g_S) ⊕ (g_S)} (e : b_Y_endLine_43 v0 v2 v3 g = some out) (c : cL_Y_endLine_43 L xs Q v0 v2 out) : wp (ab_ext L xs) J_Y_endLine 43 [(0, .ref v0), (2, .int v2), (3, .int v3)] [] (hp g) Q := by
  unfold b_Y_endLine_43 at e
  refine wp_p (j := J_Y_endLine) 2 (pc' := 45) (lv' := [(0, .ref v0), (2, .int v2), (3, .int v3)]) (st' := [.ref v0, .int v3]) rfl ?_
  refine x_gI e rfl rfl fd_12_131 rfl (fun z1 e => ?_)
  refine x_ge e rfl (fun e => ?_) (fun e => ?_)
  · refine wp_p (j := J_Y_endLine) 1 (pc' := 52) (lv' := [(0, .ref v0), (2, .int v2), (3, .int v3)]) (st' := [.ref v0]) rfl ?_
    refine x_gQ e rfl rfl fd_12_134 rfl (fun z2 e => ?_)
    refine wp_p (j := J_Y_endLine) 1 (pc' := 56) (lv' := [(0, .ref v0), (2, .int v2), (3, .int v3)]) (st' := [.int v3, .ref z2]) rfl ?_
    refine x_aI e rfl rfl (fun z3 e => ?_)
    refine wp_p (j := J_Y_endLine) 2 (pc' := 60) (lv' := [(4, .int z3), (0, .ref v0), (2, .int v2), (3, .int v3)]) (st' := [.ref v0]) rfl ?_
    refine x_gI e rfl rfl fd_12_127 rfl (fun z4 e => ?_)
    refine wp_p (j := J_Y_endLine) 1 (pc' := 64) (lv' := [(4, .int z3), (0, .ref v0), (2, .int v2), (3, .int v3)]) (st' := [.ref v0, .int z4]) rfl ?_
    refine x_gI e rfl rfl fd_12_132 rfl (fun z5 e => ?_)
    refine wp_p (j := J_Y_endLine) 3 (pc' := 71) (lv' := [(4, .int z3), (0, .ref v0), (2, .int v2), (3, .int v3)]) (st' := [.int z3, .ref v0, .int (z4 + z5)]) rfl ?_
    refine x_cv1 (As := [.int z3]) (rest := [.int (z4 + z5)]) Value.int e rfl rfl rfl rfl rfl rfl (fun h => d_Y_itemHigh h ⟨rfl, rfl⟩) (fun z6 e => ?_)
    refine wp_p (j := J_Y_endLine) 3 (pc' := 79) (lv' := [(5, .int ((z4 + z5) - z6)), (4, .int z3), (0, .ref v0), (2, .int v2), (3, .int v3)]) (st' := [.int z3]) rfl ?_
    refine z_ge e rfl (fun e => ?_) (fun e => ?_)
    · refine wp_p (j := J_Y_endLine) 1 (pc' := 83) (lv' := [(5, .int ((z4 + z5) - z6)), (4, .int z3), (0, .ref v0), (2, .int v2), (3, .int v3)]) (st' := [.ref v0]) rfl ?_
      refine x_gQ e rfl rfl fd_12_110 rfl (fun z7 e => ?_)
      refine wp_p (j := J_Y_endLine) 4 (pc' := 91) (lv' := [(5, .int ((z4 + z5) - z6)), (4, .int z3), (0, .ref v0), (2, .int v2), (3, .int v3)]) (st' := [.ref v0, .int ((-1) - z3), .ref z7]) rfl ?_
      refine x_gQ e rfl rfl fd_12_135 rfl (fun z8 e => ?_)
      refine wp_p (j := J_Y_endLine) 1 (pc' := 95) (lv' := [(5, .int ((z4 + z5) - z6)), (4, .int z3), (0, .ref v0), (2, .int v2), (3, .int v3)]) (st' := [.int v3, .ref z8, .int ((-1) - z3), .ref z7]) rfl ?_
      refine x_aI e rfl rfl (fun z9 e => ?_)
      refine wp_p (j := J_Y_endLine) 2 (pc' := 98) (lv' := [(5, .int ((z4 + z5) - z6)), (4, .int z3), (0, .ref v0), (2, .int v2), (3, .int v3)]) (st' := [.int (z9 + v2), .int ((-1) - z3), .ref z7]) rfl ?_
      refine x_sI e rfl rfl (fun g10 e => ?_)
      refine wp_p (j := J_Y_endLine) 1 (pc' := 100) (lv' := [(5, .int ((z4 + z5) - z6)), (4, .int z3), (0, .ref v0), (2, .int v2), (3, .int v3)]) (st' := [.ref v0]) rfl ?_
      refine x_gQ e rfl rfl fd_12_111 rfl (fun z11 e => ?_)
      refine wp_p (j := J_Y_endLine) 4 (pc' := 109) (lv' := [(5, .int ((z4 + z5) - z6)), (4, .int z3), (0, .ref v0), (2, .int v2), (3, .int v3)]) (st' := [.int ((z4 + z5) - z6), .int ((-1) - z3), .ref z11]) rfl ?_
      refine x_sI e rfl rfl (fun g12 e => ?_)
      refine wp_p (j := J_Y_endLine) 3 (pc' := 43) (lv' := [(3, .int (v3 + 1)), (5, .int ((z4 + z5) - z6)), (4, .int z3), (0, .ref v0), (2, .int v2)]) (st' := []) rfl ?_
      have e := Option.some.inj e; subst e; exact wp_lv (lv' := [(0, .ref v0), (2, .int v2), (3, .int (v3 + 1))]) rfl ⟨rfl, rfl, rfl, trivial⟩ c
    · refine wp_p (j := J_Y_endLine) 1 (pc' := 114) (lv' := [(5, .int ((z4 + z5) - z6)), (4, .int z3), (0, .ref v0), (2, .int v2), (3, .int v3)]) (st' := [.ref v0]) rfl ?_
      refine x_gQ e rfl rfl fd_12_121 rfl (fun z13 e => ?_)
      refine wp_p (j := J_Y_endLine) 2 (pc' := 120) (lv' := [(5, .int ((z4 + z5) - z6)), (4, .int z3), (0, .ref v0), (2, .int v2), (3, .int v3)]) (st' := [.ref v0, .int z3, .ref z13]) rfl ?_
      refine x_gQ e rfl rfl fd_12_135 rfl (fun z14 e => ?_)
      refine wp_p (j := J_Y_endLine) 1 (pc' := 124) (lv' := [(5, .int ((z4 + z5) - z6)), (4, .int z3), (0, .ref v0), (2, .int v2), (3, .int v3)]) (st' := [.int v3, .ref z14, .int z3, .ref z13]) rfl ?_
      refine x_aI e rfl rfl (fun z15 e => ?_)
      refine wp_p (j := J_Y_endLine) 2 (pc' := 127) (lv' := [(5, .int ((z4 + z5) - z6)), (4, .int z3), (0, .ref v0), (2, .int v2), (3, .int v3)]) (st' := [.int (z15 + v2), .int z3, .ref z13]) rfl ?_
      refine x_sI e rfl rfl (fun g16 e => ?_)
      refine wp_p (j := J_Y_endLine) 1 (pc' := 129) (lv' := [(5, .int ((z4 + z5) - z6)), (4, .int z3), (0, .ref v0), (2, .int v2), (3, .int v3)]) (st' := [.ref v0]) rfl ?_
      refine x_gQ e rfl rfl fd_12_122 rfl (fun z17 e => ?_)
      refine wp_p (j := J_Y_endLine) 2 (pc' := 136) (lv' := [(5, .int ((z4 + z5) - z6)), (4, .int z3), (0, .ref v0), (2, .int v2), (3, .int v3)]) (st' := [.int ((z4 + z5) - z6), .int z3, .ref z17]) rfl ?_
      refine x_sI e rfl rfl (fun g18 e => ?_)
      refine wp_p (j := J_Y_endLine) 2 (pc' := 43) (lv' := [(3, .int (v3 + 1)), (5, .int ((z4 + z5) - z6)), (4, .int z3), (0, .ref v0), (2, .int v2)]) (st' := []) rfl ?_
      have e := Option.some.inj e; subst e; exact wp_lv (lv' := [(0, .ref v0), (2, .int v2), (3, .int (v3 + 1))]) rfl ⟨rfl, rfl, rfl, trivial⟩ c
  · have e := Option.some.inj e; subst e; exact wp_lv (lv' := [(0, .ref v0)]) rfl ⟨rfl, trivial⟩ c
noncomputable def L_Y_endLine_43 (v0 : Nat) (v2 : Int32) (v3 : Int32) (g : g_S) : Option (g_S) := it (fun s : Int32 × g_S => b_Y_endLine_43 v0 v2 s.1 s.2) (v3, g)
theorem l_Y_endLine_43 {L : Nat} {xs : Nat → Int32} {Q : Option Value → ab_H → Prop} {v0 : Nat} {v2 : Int32} {v3 : Int32} {g : g_S} {r : g_S} (e : L_Y_endLine_43 v0 v2 v3 g = some r) (c : cL_Y_endLine_43 L xs Q v0 v2 (.inr r)) : wp (ab_ext L xs) J_Y_endLine 43 [(0, .ref v0), (2, .int v2), (3, .int v3)] [] (hp g) Q :=
  it_wp (P := fun s : Int32 × g_S => wp (ab_ext L xs) J_Y_endLine 43 [(0, .ref v0), (2, .int v2), (3, .int s.1)] [] (hp s.2) Q) (E := fun r => cL_Y_endLine_43 L xs Q v0 v2 (.inr r)) (fun s out e c => y_Y_endLine_43 e (by cases out <;> exact c)) e c
theorem L_Y_endLine_43_eq (v0 : Nat) (v2 : Int32) (v3 : Int32) (g : g_S) : L_Y_endLine_43 v0 v2 v3 g = itc (b_Y_endLine_43 v0 v2 v3 g) (fun s => L_Y_endLine_43 v0 v2 s.1 s.2) := it_eq2 (fun s : Int32 × g_S => b_Y_endLine_43 v0 v2 s.1 s.2) (v3, g)
noncomputable def k_Y_endLine_40 (v0 : Nat) (w0 : Int32) (g : g_S) : Option g_S :=
  (L_Y_endLine_43 v0 w0 0 g).bind <| fun g3 =>
  (rI g3 112 v0 127).bind fun z4 =>
  (rI g3 112 v0 132).bind fun z5 =>
  (wI g3 112 v0 127 (z4 + z5)).bind fun g6 =>
  (wI g6 112 v0 131 0).bind fun g7 =>
  (wI g7 112 v0 132 0).bind fun g8 =>
  (wZ g8 112 v0 144 0).bind fun g9 =>
  (L_Y_endLine_173 v0 0 g9).bind <| fun g12 =>
  (wI g12 112 v0 143 0).bind fun g13 =>
  some g13
set_option maxRecDepth 20000 in
theorem x_Y_endLine_40 {L : Nat} {xs : Nat → Int32} {Q : Option Value → ab_H → Prop} {v0 : Nat} {w0 : Int32} {g : g_S} {out : g_S} (e : k_Y_endLine_40 v0 w0 g = some out) (c : Q none (hp out)) : wp (ab_ext L xs) J_Y_endLine 40 [(0, .ref v0)] [.int w0] (hp g) Q := by
  unfold k_Y_endLine_40 at e
  refine wp_p (j := J_Y_endLine) 3 (pc' := 43) (lv' := [(3, .int 0), (2, .int w0), (0, .ref v0)]) (st' := []) rfl ?_
  obtain ⟨g3, h2, e⟩ := bd e
  refine wp_lv (lv' := [(0, .ref v0), (2, .int w0), (3, .int 0)]) rfl ⟨rfl, rfl, rfl, trivial⟩ ?_
  refine l_Y_endLine_43 h2 ?_
  show wp (ab_ext L xs) J_Y_endLine 143 [(0, .ref v0)] [] (hp g3) Q
  refine wp_p (j := J_Y_endLine) 2 (pc' := 145) (lv' := [(0, .ref v0)]) (st' := [.ref v0, .ref v0]) rfl ?_
  refine x_gI e rfl rfl fd_12_127 rfl (fun z4 e => ?_)
  refine wp_p (j := J_Y_endLine) 1 (pc' := 149) (lv' := [(0, .ref v0)]) (st' := [.ref v0, .int z4, .ref v0]) rfl ?_
  refine x_gI e rfl rfl fd_12_132 rfl (fun z5 e => ?_)
  refine wp_p (j := J_Y_endLine) 1 (pc' := 153) (lv' := [(0, .ref v0)]) (st' := [.int (z4 + z5), .ref v0]) rfl ?_
  refine x_pI e rfl rfl fw_12_127 rfl (fun g6 e => ?_)
  refine wp_p (j := J_Y_endLine) 2 (pc' := 158) (lv' := [(0, .ref v0)]) (st' := [.int 0, .ref v0]) rfl ?_
  refine x_pI e rfl rfl fw_12_131 rfl (fun g7 e => ?_)
  refine wp_p (j := J_Y_endLine) 2 (pc' := 163) (lv' := [(0, .ref v0)]) (st' := [.int 0, .ref v0]) rfl ?_
  refine x_pI e rfl rfl fw_12_132 rfl (fun g8 e => ?_)
  refine wp_p (j := J_Y_endLine) 2 (pc' := 168) (lv' := [(0, .ref v0)]) (st' := [.int 0, .ref v0]) rfl ?_
  refine x_pZ e rfl rfl fw_12_144 rfl (fun g9 e => ?_)
  refine wp_p (j := J_Y_endLine) 2 (pc' := 173) (lv' := [(3, .int 0), (0, .ref v0)]) (st' := []) rfl ?_
  obtain ⟨g12, h11, e⟩ := bd e
  refine wp_lv (lv' := [(0, .ref v0), (3, .int 0)]) rfl ⟨rfl, rfl, trivial⟩ ?_
  refine l_Y_endLine_173 h11 ?_
  show wp (ab_ext L xs) J_Y_endLine 197 [(0, .ref v0)] [] (hp g12) Q
  refine wp_p (j := J_Y_endLine) 2 (pc' := 199) (lv' := [(0, .ref v0)]) (st' := [.int 0, .ref v0]) rfl ?_
  refine x_pI e rfl rfl fw_12_143 rfl (fun g13 e => ?_)
  have e := Option.some.inj e; subst e; exact wp_vret rfl rfl c
noncomputable def M_Y_endLine (v0 : Nat) (g : g_S) : Option g_S :=
  (rI g 112 v0 129).bind fun z1 =>
  (rI g 112 v0 130).bind fun z2 =>
  (rI g 112 v0 133).bind fun z3 =>
  if z3 = 0 then
    k_Y_endLine_40 v0 0 g
  else
    (rI g 112 v0 133).bind fun z4 =>
    if z4 = 1 then
      (dv (mx 0 (z1 - z2)) 2).bind fun z5 =>
      k_Y_endLine_40 v0 z5 g
    else
      k_Y_endLine_40 v0 (mx 0 (z1 - z2)) g
set_option maxRecDepth 20000 in
theorem d_Y_endLine {L : Nat} {xs : Nat → Int32} {Q : Option Value → ab_H → Prop} {v0 : Nat} {g : g_S} {out : g_S} (e : M_Y_endLine v0 g = some out) (c : Q none (hp out)) : mw (ab_ext L xs) J_Y_endLine [.ref v0] (hp g) Q := by
  unfold M_Y_endLine at e
  refine wp_p (j := J_Y_endLine) 2 (pc' := 2) (lv' := [(0, .ref v0)]) (st' := [.ref v0, .int 0]) rfl ?_
  refine x_gI e rfl rfl fd_12_129 rfl (fun z1 e => ?_)
  refine wp_p (j := J_Y_endLine) 1 (pc' := 6) (lv' := [(0, .ref v0)]) (st' := [.ref v0, .int z1, .int 0]) rfl ?_
  refine x_gI e rfl rfl fd_12_130 rfl (fun z2 e => ?_)
  refine wp_p (j := J_Y_endLine) 1 (pc' := 10) (lv' := [(0, .ref v0)]) (st' := [.int (z1 - z2), .int 0]) rfl ?_
  refine x_mx rfl rfl ?_
  refine wp_p (j := J_Y_endLine) 2 (pc' := 15) (lv' := [(1, .int (mx 0 (z1 - z2))), (0, .ref v0)]) (st' := [.ref v0]) rfl ?_
  refine x_gI e rfl rfl fd_12_133 rfl (fun z3 e => ?_)
  refine z_ne e rfl (fun e => ?_) (fun e => ?_)
  · refine wp_p (j := J_Y_endLine) 2 (pc' := 40) (lv' := [(1, .int (mx 0 (z1 - z2))), (0, .ref v0)]) (st' := [.int 0]) rfl ?_
    exact wp_lv (lv' := [(0, .ref v0)]) rfl ⟨rfl, trivial⟩ (x_Y_endLine_40 e c)
  · refine wp_p (j := J_Y_endLine) 1 (pc' := 26) (lv' := [(1, .int (mx 0 (z1 - z2))), (0, .ref v0)]) (st' := [.ref v0]) rfl ?_
    refine x_gI e rfl rfl fd_12_133 rfl (fun z4 e => ?_)
    refine wp_p (j := J_Y_endLine) 1 (pc' := 30) (lv' := [(1, .int (mx 0 (z1 - z2))), (0, .ref v0)]) (st' := [.int 1, .int z4]) rfl ?_
    refine x_ne e rfl (fun e => ?_) (fun e => ?_)
    · refine wp_p (j := J_Y_endLine) 2 (pc' := 35) (lv' := [(1, .int (mx 0 (z1 - z2))), (0, .ref v0)]) (st' := [.int 2, .int (mx 0 (z1 - z2))]) rfl ?_
      refine x_dv e rfl (fun z5 e => ?_)
      refine wp_p (j := J_Y_endLine) 1 (pc' := 40) (lv' := [(1, .int (mx 0 (z1 - z2))), (0, .ref v0)]) (st' := [.int z5]) rfl ?_
      exact wp_lv (lv' := [(0, .ref v0)]) rfl ⟨rfl, trivial⟩ (x_Y_endLine_40 e c)
    · refine wp_p (j := J_Y_endLine) 1 (pc' := 40) (lv' := [(1, .int (mx 0 (z1 - z2))), (0, .ref v0)]) (st' := [.int (mx 0 (z1 - z2))]) rfl ?_
      exact wp_lv (lv' := [(0, .ref v0)]) rfl ⟨rfl, trivial⟩ (x_Y_endLine_40 e c)
def cL_Y_putItem_3 (L : Nat) (xs : Nat → Int32) (Q : Option Value → ab_H → Prop) (v0 : Nat) (v1 : Int32) (v2 : Int32) (v3 : Int32) (out : (Int32 × g_S) ⊕ (g_S)) : Prop := match out with
  | .inl s => wp (ab_ext L xs) J_Y_putItem 3 [(0, .ref v0), (1, .int v1), (2, .int v2), (3, .int v3), (4, .int s.1)] [] (hp s.2) Q
  | .inr s => wp (ab_ext L xs) J_Y_putItem 188 [(0, .ref v0)] [] (hp s) Q
noncomputable def k_Y_putItem_165 (v0 : Nat) (v1 : Int32) (v2 : Int32) (v3 : Int32) (v4 : Int32) (v6 : Int32) (g : g_S) : Option ((Int32 × g_S) ⊕ (g_S)) :=
  (rI g 112 v0 131).bind fun z1 =>
  if 0 < z1 then
    (vc g 112 v0 (M_Y_endLine v0 g)).bind fun g2 =>
    some (.inl (v4, g2))
  else
    (wI g 112 v0 127 v6).bind fun g3 =>
    some (.inl (v4, g3))
set_option maxRecDepth 20000 in
theorem x_Y_putItem_165 {L : Nat} {xs : Nat → Int32} {Q : Option Value → ab_H → Prop} {v0 : Nat} {v1 : Int32} {v2 : Int32} {v3 : Int32} {v4 : Int32} {v6 : Int32} {g : g_S} {out : (Int32 × g_S) ⊕ (g_S)} (e : k_Y_putItem_165 v0 v1 v2 v3 v4 v6 g = some out) (c : cL_Y_putItem_3 L xs Q v0 v1 v2 v3 out) : wp (ab_ext L xs) J_Y_putItem 165 [(0, .ref v0), (1, .int v1), (2, .int v2), (3, .int v3), (4, .int v4), (6, .int v6)] [] (hp g) Q := by
  unfold k_Y_putItem_165 at e
  refine wp_p (j := J_Y_putItem) 1 (pc' := 166) (lv' := [(0, .ref v0), (1, .int v1), (2, .int v2), (3, .int v3), (4, .int v4), (6, .int v6)]) (st' := [.ref v0]) rfl ?_
  refine x_gI e rfl rfl fd_12_131 rfl (fun z1 e => ?_)
  refine z_le e rfl (fun e => ?_) (fun e => ?_)
  · refine wp_p (j := J_Y_putItem) 1 (pc' := 173) (lv' := [(0, .ref v0), (1, .int v1), (2, .int v2), (3, .int v3), (4, .int v4), (6, .int v6)]) (st' := [.ref v0]) rfl ?_
    refine x_cv0 (As := []) (rest := []) e rfl rfl rfl rfl rfl rfl (fun h => d_Y_endLine h ⟨rfl, rfl⟩) (fun g2 e => ?_)
    refine wp_p (j := J_Y_putItem) 2 (pc' := 3) (lv' := [(0, .ref v0), (1, .int v1), (2, .int v2), (3, .int v3), (4, .int v4), (6, .int v6)]) (st' := []) rfl ?_
    have e := Option.some.inj e; subst e; exact wp_lv (lv' := [(0, .ref v0), (1, .int v1), (2, .int v2), (3, .int v3), (4, .int v4)]) rfl ⟨rfl, rfl, rfl, rfl, rfl, trivial⟩ c
  · refine wp_p (j := J_Y_putItem) 2 (pc' := 182) (lv' := [(0, .ref v0), (1, .int v1), (2, .int v2), (3, .int v3), (4, .int v4), (6, .int v6)]) (st' := [.int v6, .ref v0]) rfl ?_
    refine x_pI e rfl rfl fw_12_127 rfl (fun g3 e => ?_)
    refine wp_p (j := J_Y_putItem) 1 (pc' := 3) (lv' := [(0, .ref v0), (1, .int v1), (2, .int v2), (3, .int v3), (4, .int v4), (6, .int v6)]) (st' := []) rfl ?_
    have e := Option.some.inj e; subst e; exact wp_lv (lv' := [(0, .ref v0), (1, .int v1), (2, .int v2), (3, .int v3), (4, .int v4)]) rfl ⟨rfl, rfl, rfl, rfl, rfl, trivial⟩ c
noncomputable def k_Y_putItem_104 (v0 : Nat) (v1 : Int32) (v2 : Int32) (v3 : Int32) (v5 : Int32) (g : g_S) : Option ((Int32 × g_S) ⊕ (g_S)) :=
  (rQ g 112 v0 134).bind fun z1 =>
  (rI g 112 v0 131).bind fun z2 =>
  (sI g z1 z2 v1).bind fun g3 =>
  (rQ g3 112 v0 135).bind fun z4 =>
  (rI g3 112 v0 131).bind fun z5 =>
  (sI g3 z4 z5 v5).bind fun g6 =>
  (rI g6 112 v0 131).bind fun z7 =>
  (wI g6 112 v0 131 (z7 + 1)).bind fun g8 =>
  (wI g8 112 v0 130 (v5 + v2)).bind fun g9 =>
  (rI g9 112 v0 132).bind fun z10 =>
  (vc g9 112 v0 (M_Y_itemHigh v0 v1 g9)).bind fun z11 =>
  (wI g9 112 v0 132 (mx z10 z11)).bind fun g12 =>
  some (.inl (1, g12))
set_option maxRecDepth 20000 in
theorem x_Y_putItem_104 {L : Nat} {xs : Nat → Int32} {Q : Option Value → ab_H → Prop} {v0 : Nat} {v1 : Int32} {v2 : Int32} {v3 : Int32} {v5 : Int32} {g : g_S} {out : (Int32 × g_S) ⊕ (g_S)} (e : k_Y_putItem_104 v0 v1 v2 v3 v5 g = some out) (c : cL_Y_putItem_3 L xs Q v0 v1 v2 v3 out) : wp (ab_ext L xs) J_Y_putItem 104 [(0, .ref v0), (1, .int v1), (2, .int v2), (3, .int v3), (5, .int v5)] [] (hp g) Q := by
  unfold k_Y_putItem_104 at e
  refine wp_p (j := J_Y_putItem) 1 (pc' := 105) (lv' := [(0, .ref v0), (1, .int v1), (2, .int v2), (3, .int v3), (5, .int v5)]) (st' := [.ref v0]) rfl ?_
  refine x_gQ e rfl rfl fd_12_134 rfl (fun z1 e => ?_)
  refine wp_p (j := J_Y_putItem) 1 (pc' := 109) (lv' := [(0, .ref v0), (1, .int v1), (2, .int v2), (3, .int v3), (5, .int v5)]) (st' := [.ref v0, .ref z1]) rfl ?_
  refine x_gI e rfl rfl fd_12_131 rfl (fun z2 e => ?_)
  refine wp_p (j := J_Y_putItem) 1 (pc' := 113) (lv' := [(0, .ref v0), (1, .int v1), (2, .int v2), (3, .int v3), (5, .int v5)]) (st' := [.int v1, .int z2, .ref z1]) rfl ?_
  refine x_sI e rfl rfl (fun g3 e => ?_)
  refine wp_p (j := J_Y_putItem) 1 (pc' := 115) (lv' := [(0, .ref v0), (1, .int v1), (2, .int v2), (3, .int v3), (5, .int v5)]) (st' := [.ref v0]) rfl ?_
  refine x_gQ e rfl rfl fd_12_135 rfl (fun z4 e => ?_)
  refine wp_p (j := J_Y_putItem) 1 (pc' := 119) (lv' := [(0, .ref v0), (1, .int v1), (2, .int v2), (3, .int v3), (5, .int v5)]) (st' := [.ref v0, .ref z4]) rfl ?_
  refine x_gI e rfl rfl fd_12_131 rfl (fun z5 e => ?_)
  refine wp_p (j := J_Y_putItem) 1 (pc' := 124) (lv' := [(0, .ref v0), (1, .int v1), (2, .int v2), (3, .int v3), (5, .int v5)]) (st' := [.int v5, .int z5, .ref z4]) rfl ?_
  refine x_sI e rfl rfl (fun g6 e => ?_)
  refine wp_p (j := J_Y_putItem) 2 (pc' := 127) (lv' := [(0, .ref v0), (1, .int v1), (2, .int v2), (3, .int v3), (5, .int v5)]) (st' := [.ref v0, .ref v0]) rfl ?_
  refine x_gI e rfl rfl fd_12_131 rfl (fun z7 e => ?_)
  refine wp_p (j := J_Y_putItem) 2 (pc' := 132) (lv' := [(0, .ref v0), (1, .int v1), (2, .int v2), (3, .int v3), (5, .int v5)]) (st' := [.int (z7 + 1), .ref v0]) rfl ?_
  refine x_pI e rfl rfl fw_12_131 rfl (fun g8 e => ?_)
  refine wp_p (j := J_Y_putItem) 4 (pc' := 140) (lv' := [(0, .ref v0), (1, .int v1), (2, .int v2), (3, .int v3), (5, .int v5)]) (st' := [.int (v5 + v2), .ref v0]) rfl ?_
  refine x_pI e rfl rfl fw_12_130 rfl (fun g9 e => ?_)
  refine wp_p (j := J_Y_putItem) 2 (pc' := 145) (lv' := [(0, .ref v0), (1, .int v1), (2, .int v2), (3, .int v3), (5, .int v5)]) (st' := [.ref v0, .ref v0]) rfl ?_
  refine x_gI e rfl rfl fd_12_132 rfl (fun z10 e => ?_)
  refine wp_p (j := J_Y_putItem) 2 (pc' := 150) (lv' := [(0, .ref v0), (1, .int v1), (2, .int v2), (3, .int v3), (5, .int v5)]) (st' := [.int v1, .ref v0, .int z10, .ref v0]) rfl ?_
  refine x_cv1 (As := [.int v1]) (rest := [.int z10, .ref v0]) Value.int e rfl rfl rfl rfl rfl rfl (fun h => d_Y_itemHigh h ⟨rfl, rfl⟩) (fun z11 e => ?_)
  refine x_mx rfl rfl ?_
  refine x_pI e rfl rfl fw_12_132 rfl (fun g12 e => ?_)
  refine wp_p (j := J_Y_putItem) 4 (pc' := 3) (lv' := [(4, .int 1), (0, .ref v0), (1, .int v1), (2, .int v2), (3, .int v3), (5, .int v5)]) (st' := []) rfl ?_
  have e := Option.some.inj e; subst e; exact wp_lv (lv' := [(0, .ref v0), (1, .int v1), (2, .int v2), (3, .int v3), (4, .int 1)]) rfl ⟨rfl, rfl, rfl, rfl, rfl, trivial⟩ c
noncomputable def k_Y_putItem_78 (v0 : Nat) (v1 : Int32) (v2 : Int32) (v3 : Int32) (v4 : Int32) (v5 : Int32) (w0 : Int32) (g : g_S) : Option ((Int32 × g_S) ⊕ (g_S)) :=
  (rI g 112 v0 129).bind fun z1 =>
  if z1 < (v5 + v2) then
    (rI g 112 v0 131).bind fun z2 =>
    if z2 = 0 then
      if w0 = (-1) then
        k_Y_putItem_104 v0 v1 v2 v3 v5 g
      else
        k_Y_putItem_165 v0 v1 v2 v3 v4 w0 g
    else
      k_Y_putItem_165 v0 v1 v2 v3 v4 w0 g
  else
    k_Y_putItem_104 v0 v1 v2 v3 v5 g
set_option maxRecDepth 20000 in
theorem x_Y_putItem_78 {L : Nat} {xs : Nat → Int32} {Q : Option Value → ab_H → Prop} {v0 : Nat} {v1 : Int32} {v2 : Int32} {v3 : Int32} {v4 : Int32} {v5 : Int32} {w0 : Int32} {g : g_S} {out : (Int32 × g_S) ⊕ (g_S)} (e : k_Y_putItem_78 v0 v1 v2 v3 v4 v5 w0 g = some out) (c : cL_Y_putItem_3 L xs Q v0 v1 v2 v3 out) : wp (ab_ext L xs) J_Y_putItem 78 [(0, .ref v0), (1, .int v1), (2, .int v2), (3, .int v3), (4, .int v4), (5, .int v5)] [.int w0] (hp g) Q := by
  unfold k_Y_putItem_78 at e
  refine wp_p (j := J_Y_putItem) 5 (pc' := 85) (lv' := [(6, .int w0), (0, .ref v0), (1, .int v1), (2, .int v2), (3, .int v3), (4, .int v4), (5, .int v5)]) (st' := [.ref v0, .int (v5 + v2)]) rfl ?_
  refine x_gI e rfl rfl fd_12_129 rfl (fun z1 e => ?_)
  refine x_le e rfl (fun e => ?_) (fun e => ?_)
  · refine wp_p (j := J_Y_putItem) 1 (pc' := 92) (lv' := [(6, .int w0), (0, .ref v0), (1, .int v1), (2, .int v2), (3, .int v3), (4, .int v4), (5, .int v5)]) (st' := [.ref v0]) rfl ?_
    refine x_gI e rfl rfl fd_12_131 rfl (fun z2 e => ?_)
    refine z_ne e rfl (fun e => ?_) (fun e => ?_)
    · refine wp_p (j := J_Y_putItem) 2 (pc' := 101) (lv' := [(6, .int w0), (0, .ref v0), (1, .int v1), (2, .int v2), (3, .int v3), (4, .int v4), (5, .int v5)]) (st' := [.int (-1), .int w0]) rfl ?_
      refine x_ne e rfl (fun e => ?_) (fun e => ?_)
      · exact wp_lv (lv' := [(0, .ref v0), (1, .int v1), (2, .int v2), (3, .int v3), (5, .int v5)]) rfl ⟨rfl, rfl, rfl, rfl, rfl, trivial⟩ (x_Y_putItem_104 e c)
      · exact wp_lv (lv' := [(0, .ref v0), (1, .int v1), (2, .int v2), (3, .int v3), (4, .int v4), (6, .int w0)]) rfl ⟨rfl, rfl, rfl, rfl, rfl, rfl, trivial⟩ (x_Y_putItem_165 e c)
    · exact wp_lv (lv' := [(0, .ref v0), (1, .int v1), (2, .int v2), (3, .int v3), (4, .int v4), (6, .int w0)]) rfl ⟨rfl, rfl, rfl, rfl, rfl, rfl, trivial⟩ (x_Y_putItem_165 e c)
  · exact wp_lv (lv' := [(0, .ref v0), (1, .int v1), (2, .int v2), (3, .int v3), (5, .int v5)]) rfl ⟨rfl, rfl, rfl, rfl, rfl, trivial⟩ (x_Y_putItem_104 e c)
noncomputable def k_Y_putItem_56 (v0 : Nat) (v1 : Int32) (v2 : Int32) (v3 : Int32) (v4 : Int32) (w0 : Int32) (w1 : Int32) (g : g_S) : Option ((Int32 × g_S) ⊕ (g_S)) :=
  (rI g 112 v0 131).bind fun z1 =>
  if 0 < z1 then
    k_Y_putItem_78 v0 v1 v2 v3 v4 (w1 + w0) (-1) g
  else
    (rI g 112 v0 127).bind fun z2 =>
    (vc g 112 v0 (M_Y_leastEnd v0 z2 g)).bind fun z3 =>
    k_Y_putItem_78 v0 v1 v2 v3 v4 (w1 + w0) z3 g
set_option maxRecDepth 20000 in
theorem x_Y_putItem_56 {L : Nat} {xs : Nat → Int32} {Q : Option Value → ab_H → Prop} {v0 : Nat} {v1 : Int32} {v2 : Int32} {v3 : Int32} {v4 : Int32} {w0 : Int32} {w1 : Int32} {g : g_S} {out : (Int32 × g_S) ⊕ (g_S)} (e : k_Y_putItem_56 v0 v1 v2 v3 v4 w0 w1 g = some out) (c : cL_Y_putItem_3 L xs Q v0 v1 v2 v3 out) : wp (ab_ext L xs) J_Y_putItem 56 [(0, .ref v0), (1, .int v1), (2, .int v2), (3, .int v3), (4, .int v4)] [.int w0, .int w1] (hp g) Q := by
  unfold k_Y_putItem_56 at e
  refine wp_p (j := J_Y_putItem) 3 (pc' := 60) (lv' := [(5, .int (w1 + w0)), (0, .ref v0), (1, .int v1), (2, .int v2), (3, .int v3), (4, .int v4)]) (st' := [.ref v0]) rfl ?_
  refine x_gI e rfl rfl fd_12_131 rfl (fun z1 e => ?_)
  refine z_le e rfl (fun e => ?_) (fun e => ?_)
  · refine wp_p (j := J_Y_putItem) 2 (pc' := 78) (lv' := [(5, .int (w1 + w0)), (0, .ref v0), (1, .int v1), (2, .int v2), (3, .int v3), (4, .int v4)]) (st' := [.int (-1)]) rfl ?_
    exact wp_lv (lv' := [(0, .ref v0), (1, .int v1), (2, .int v2), (3, .int v3), (4, .int v4), (5, .int (w1 + w0))]) rfl ⟨rfl, rfl, rfl, rfl, rfl, rfl, trivial⟩ (x_Y_putItem_78 e c)
  · refine wp_p (j := J_Y_putItem) 2 (pc' := 72) (lv' := [(5, .int (w1 + w0)), (0, .ref v0), (1, .int v1), (2, .int v2), (3, .int v3), (4, .int v4)]) (st' := [.ref v0, .ref v0]) rfl ?_
    refine x_gI e rfl rfl fd_12_127 rfl (fun z2 e => ?_)
    refine x_cv1 (As := [.int z2]) (rest := []) Value.int e rfl rfl rfl rfl rfl rfl (fun h => d_Y_leastEnd h ⟨rfl, rfl⟩) (fun z3 e => ?_)
    exact wp_lv (lv' := [(0, .ref v0), (1, .int v1), (2, .int v2), (3, .int v3), (4, .int v4), (5, .int (w1 + w0))]) rfl ⟨rfl, rfl, rfl, rfl, rfl, rfl, trivial⟩ (x_Y_putItem_78 e c)
noncomputable def k_Y_putItem_55 (v0 : Nat) (v1 : Int32) (v2 : Int32) (v3 : Int32) (v4 : Int32) (w0 : Int32) (g : g_S) : Option ((Int32 × g_S) ⊕ (g_S)) :=
  k_Y_putItem_56 v0 v1 v2 v3 v4 0 w0 g
set_option maxRecDepth 20000 in
theorem x_Y_putItem_55 {L : Nat} {xs : Nat → Int32} {Q : Option Value → ab_H → Prop} {v0 : Nat} {v1 : Int32} {v2 : Int32} {v3 : Int32} {v4 : Int32} {w0 : Int32} {g : g_S} {out : (Int32 × g_S) ⊕ (g_S)} (e : k_Y_putItem_55 v0 v1 v2 v3 v4 w0 g = some out) (c : cL_Y_putItem_3 L xs Q v0 v1 v2 v3 out) : wp (ab_ext L xs) J_Y_putItem 55 [(0, .ref v0), (1, .int v1), (2, .int v2), (3, .int v3), (4, .int v4)] [.int w0] (hp g) Q := by
  unfold k_Y_putItem_55 at e
  refine wp_p (j := J_Y_putItem) 1 (pc' := 56) (lv' := [(0, .ref v0), (1, .int v1), (2, .int v2), (3, .int v3), (4, .int v4)]) (st' := [.int 0, .int w0]) rfl ?_
  exact wp_lv (lv' := [(0, .ref v0), (1, .int v1), (2, .int v2), (3, .int v3), (4, .int v4)]) rfl ⟨rfl, rfl, rfl, rfl, rfl, trivial⟩ (x_Y_putItem_56 e c)
noncomputable def k_Y_putItem_31 (v0 : Nat) (v1 : Int32) (v2 : Int32) (v3 : Int32) (v4 : Int32) (g : g_S) : Option ((Int32 × g_S) ⊕ (g_S)) :=
  (rI g 112 v0 130).bind fun z1 =>
  (rI g 112 v0 131).bind fun z2 =>
  if 0 < z2 then
    (rI g 112 v0 144).bind fun z3 =>
    if z3 = 0 then
      k_Y_putItem_55 v0 v1 v2 v3 v4 z1 g
    else
      k_Y_putItem_56 v0 v1 v2 v3 v4 (3 * v3) z1 g
  else
    k_Y_putItem_55 v0 v1 v2 v3 v4 z1 g
set_option maxRecDepth 20000 in
theorem x_Y_putItem_31 {L : Nat} {xs : Nat → Int32} {Q : Option Value → ab_H → Prop} {v0 : Nat} {v1 : Int32} {v2 : Int32} {v3 : Int32} {v4 : Int32} {g : g_S} {out : (Int32 × g_S) ⊕ (g_S)} (e : k_Y_putItem_31 v0 v1 v2 v3 v4 g = some out) (c : cL_Y_putItem_3 L xs Q v0 v1 v2 v3 out) : wp (ab_ext L xs) J_Y_putItem 31 [(0, .ref v0), (1, .int v1), (2, .int v2), (3, .int v3), (4, .int v4)] [] (hp g) Q := by
  unfold k_Y_putItem_31 at e
  refine wp_p (j := J_Y_putItem) 1 (pc' := 32) (lv' := [(0, .ref v0), (1, .int v1), (2, .int v2), (3, .int v3), (4, .int v4)]) (st' := [.ref v0]) rfl ?_
  refine x_gI e rfl rfl fd_12_130 rfl (fun z1 e => ?_)
  refine wp_p (j := J_Y_putItem) 1 (pc' := 36) (lv' := [(0, .ref v0), (1, .int v1), (2, .int v2), (3, .int v3), (4, .int v4)]) (st' := [.ref v0, .int z1]) rfl ?_
  refine x_gI e rfl rfl fd_12_131 rfl (fun z2 e => ?_)
  refine z_le e rfl (fun e => ?_) (fun e => ?_)
  · refine wp_p (j := J_Y_putItem) 1 (pc' := 43) (lv' := [(0, .ref v0), (1, .int v1), (2, .int v2), (3, .int v3), (4, .int v4)]) (st' := [.ref v0, .int z1]) rfl ?_
    refine x_gI e rfl rfl fd_12_144 rfl (fun z3 e => ?_)
    refine z_eq e rfl (fun e => ?_) (fun e => ?_)
    · exact wp_lv (lv' := [(0, .ref v0), (1, .int v1), (2, .int v2), (3, .int v3), (4, .int v4)]) rfl ⟨rfl, rfl, rfl, rfl, rfl, trivial⟩ (x_Y_putItem_55 e c)
    · refine wp_p (j := J_Y_putItem) 4 (pc' := 56) (lv' := [(0, .ref v0), (1, .int v1), (2, .int v2), (3, .int v3), (4, .int v4)]) (st' := [.int (3 * v3), .int z1]) rfl ?_
      exact wp_lv (lv' := [(0, .ref v0), (1, .int v1), (2, .int v2), (3, .int v3), (4, .int v4)]) rfl ⟨rfl, rfl, rfl, rfl, rfl, trivial⟩ (x_Y_putItem_56 e c)
  · exact wp_lv (lv' := [(0, .ref v0), (1, .int v1), (2, .int v2), (3, .int v3), (4, .int v4)]) rfl ⟨rfl, rfl, rfl, rfl, rfl, trivial⟩ (x_Y_putItem_55 e c)
noncomputable def b_Y_putItem_3 (v0 : Nat) (v1 : Int32) (v2 : Int32) (v3 : Int32) (v4 : Int32) (g : g_S) : Option ((Int32 × g_S) ⊕ (g_S)) :=
  if v4 = 0 then
    (rI g 112 v0 131).bind fun z1 =>
    if z1 = 0 then
      (rI g 112 v0 127).bind fun z2 =>
      (vc g 112 v0 (M_Y_edgesAt v0 z2 g)).bind fun g3 =>
      (rI g3 112 v0 128).bind fun z4 =>
      (wI g3 112 v0 130 z4).bind fun g5 =>
      k_Y_putItem_31 v0 v1 v2 v3 v4 g5
    else
      k_Y_putItem_31 v0 v1 v2 v3 v4 g
  else
    some (.inr g)
set_option maxRecDepth 20000 in
theorem y_Y_putItem_3 {L : Nat} {xs : Nat → Int32} {Q : Option Value → ab_H → Prop} {v0 : Nat} {v1 : Int32} {v2 : Int32} {v3 : Int32} {v4 : Int32} {g : g_S} {out : (Int32 × g_S) ⊕ (g_S)} (e : b_Y_putItem_3 v0 v1 v2 v3 v4 g = some out) (c : cL_Y_putItem_3 L xs Q v0 v1 v2 v3 out) : wp (ab_ext L xs) J_Y_putItem 3 [(0, .ref v0), (1, .int v1), (2, .int v2), (3, .int v3), (4, .int v4)] [] (hp g) Q := by
  unfold b_Y_putItem_3 at e
  refine wp_p (j := J_Y_putItem) 1 (pc' := 5) (lv' := [(0, .ref v0), (1, .int v1), (2, .int v2), (3, .int v3), (4, .int v4)]) (st' := [.int v4]) rfl ?_
  refine z_ne e rfl (fun e => ?_) (fun e => ?_)
  · refine wp_p (j := J_Y_putItem) 1 (pc' := 9) (lv' := [(0, .ref v0), (1, .int v1), (2, .int v2), (3, .int v3), (4, .int v4)]) (st' := [.ref v0]) rfl ?_
    refine x_gI e rfl rfl fd_12_131 rfl (fun z1 e => ?_)
    refine z_ne e rfl (fun e => ?_) (fun e => ?_)
    · refine wp_p (j := J_Y_putItem) 2 (pc' := 17) (lv' := [(0, .ref v0), (1, .int v1), (2, .int v2), (3, .int v3), (4, .int v4)]) (st' := [.ref v0, .ref v0]) rfl ?_
      refine x_gI e rfl rfl fd_12_127 rfl (fun z2 e => ?_)
      refine x_cv0 (As := [.int z2]) (rest := []) e rfl rfl rfl rfl rfl rfl (fun h => d_Y_edgesAt h ⟨rfl, rfl⟩) (fun g3 e => ?_)
      refine wp_p (j := J_Y_putItem) 2 (pc' := 25) (lv' := [(0, .ref v0), (1, .int v1), (2, .int v2), (3, .int v3), (4, .int v4)]) (st' := [.ref v0, .ref v0]) rfl ?_
      refine x_gI e rfl rfl fd_12_128 rfl (fun z4 e => ?_)
      refine x_pI e rfl rfl fw_12_130 rfl (fun g5 e => ?_)
      exact wp_lv (lv' := [(0, .ref v0), (1, .int v1), (2, .int v2), (3, .int v3), (4, .int v4)]) rfl ⟨rfl, rfl, rfl, rfl, rfl, trivial⟩ (x_Y_putItem_31 e c)
    · exact wp_lv (lv' := [(0, .ref v0), (1, .int v1), (2, .int v2), (3, .int v3), (4, .int v4)]) rfl ⟨rfl, rfl, rfl, rfl, rfl, trivial⟩ (x_Y_putItem_31 e c)
  · have e := Option.some.inj e; subst e; exact wp_lv (lv' := [(0, .ref v0)]) rfl ⟨rfl, trivial⟩ c
noncomputable def L_Y_putItem_3 (v0 : Nat) (v1 : Int32) (v2 : Int32) (v3 : Int32) (v4 : Int32) (g : g_S) : Option (g_S) := it (fun s : Int32 × g_S => b_Y_putItem_3 v0 v1 v2 v3 s.1 s.2) (v4, g)
theorem l_Y_putItem_3 {L : Nat} {xs : Nat → Int32} {Q : Option Value → ab_H → Prop} {v0 : Nat} {v1 : Int32} {v2 : Int32} {v3 : Int32} {v4 : Int32} {g : g_S} {r : g_S} (e : L_Y_putItem_3 v0 v1 v2 v3 v4 g = some r) (c : cL_Y_putItem_3 L xs Q v0 v1 v2 v3 (.inr r)) : wp (ab_ext L xs) J_Y_putItem 3 [(0, .ref v0), (1, .int v1), (2, .int v2), (3, .int v3), (4, .int v4)] [] (hp g) Q :=
  it_wp (P := fun s : Int32 × g_S => wp (ab_ext L xs) J_Y_putItem 3 [(0, .ref v0), (1, .int v1), (2, .int v2), (3, .int v3), (4, .int s.1)] [] (hp s.2) Q) (E := fun r => cL_Y_putItem_3 L xs Q v0 v1 v2 v3 (.inr r)) (fun s out e c => y_Y_putItem_3 e (by cases out <;> exact c)) e c
theorem L_Y_putItem_3_eq (v0 : Nat) (v1 : Int32) (v2 : Int32) (v3 : Int32) (v4 : Int32) (g : g_S) : L_Y_putItem_3 v0 v1 v2 v3 v4 g = itc (b_Y_putItem_3 v0 v1 v2 v3 v4 g) (fun s => L_Y_putItem_3 v0 v1 v2 v3 s.1 s.2) := it_eq2 (fun s : Int32 × g_S => b_Y_putItem_3 v0 v1 v2 v3 s.1 s.2) (v4, g)
noncomputable def M_Y_putItem (v0 : Nat) (v1 : Int32) (v2 : Int32) (v3 : Int32) (g : g_S) : Option g_S :=
  (L_Y_putItem_3 v0 v1 v2 v3 0 g).bind <| fun g3 =>
  (wZ g3 112 v0 144 0).bind fun g4 =>
  some g4
set_option maxRecDepth 20000 in
theorem d_Y_putItem {L : Nat} {xs : Nat → Int32} {Q : Option Value → ab_H → Prop} {v0 : Nat} {v1 : Int32} {v2 : Int32} {v3 : Int32} {g : g_S} {out : g_S} (e : M_Y_putItem v0 v1 v2 v3 g = some out) (c : Q none (hp out)) : mw (ab_ext L xs) J_Y_putItem [.ref v0, .int v1, .int v2, .int v3] (hp g) Q := by
  unfold M_Y_putItem at e
  refine wp_p (j := J_Y_putItem) 2 (pc' := 3) (lv' := [(4, .int 0), (0, .ref v0), (1, .int v1), (2, .int v2), (3, .int v3)]) (st' := []) rfl ?_
  obtain ⟨g3, h2, e⟩ := bd e
  refine wp_lv (lv' := [(0, .ref v0), (1, .int v1), (2, .int v2), (3, .int v3), (4, .int 0)]) rfl ⟨rfl, rfl, rfl, rfl, rfl, trivial⟩ ?_
  refine l_Y_putItem_3 h2 ?_
  show wp (ab_ext L xs) J_Y_putItem 188 [(0, .ref v0)] [] (hp g3) Q
  refine wp_p (j := J_Y_putItem) 2 (pc' := 190) (lv' := [(0, .ref v0)]) (st' := [.int 0, .ref v0]) rfl ?_
  refine x_pZ e rfl rfl fw_12_144 rfl (fun g4 e => ?_)
  have e := Option.some.inj e; subst e; exact wp_vret rfl rfl c
def cL_Y_lineText_23 (L : Nat) (xs : Nat → Int32) (Q : Option Value → ab_H → Prop) (v0 : Nat) (v1 : Int32) (v3 : Int32) (out : (Int32 × Int32 × g_S) ⊕ (g_S)) : Prop := match out with
  | .inl s => wp (ab_ext L xs) J_Y_lineText 23 [(0, .ref v0), (1, .int v1), (2, .int s.1), (3, .int v3), (4, .int s.2.1)] [] (hp s.2.2) Q
  | .inr s => wp (ab_ext L xs) J_Y_lineText 97 [] [] (hp s) Q
noncomputable def b_Y_lineText_23 (v0 : Nat) (v1 : Int32) (v3 : Int32) (v2 : Int32) (v4 : Int32) (g : g_S) : Option ((Int32 × Int32 × g_S) ⊕ (g_S)) :=
  (rQ g 112 v0 62).bind fun z1 =>
  (aI g 0 z1 v1).bind fun z2 =>
  if v4 < z2 then
    (rQ g 112 v0 61).bind fun z3 =>
    (aI g 1 z3 ((400 * v1) + v4)).bind fun z4 =>
    (M_Y_isBlank z4 g).bind fun z5 =>
    if z5 = 0 then
      (rQ g 112 v0 123).bind fun z6 =>
      (aI g 0 z6 v2).bind fun z7 =>
      (vc g 112 v0 (M_Y_putItem v0 v2 z7 v3 g)).bind fun g8 =>
      (rQ g8 112 v0 119).bind fun z9 =>
      (aI g8 0 z9 v2).bind fun z10 =>
      (rQ g8 112 v0 120).bind fun z11 =>
      (aI g8 0 z11 v2).bind fun z12 =>
      some (.inl (v2 + 1, z10 + z12, g8))
    else
      (wZ g 112 v0 144 1).bind fun g13 =>
      some (.inl (v2, v4 + 1, g13))
  else
    some (.inr g)
set_option maxRecDepth 20000 in
theorem y_Y_lineText_23 {L : Nat} {xs : Nat → Int32} {Q : Option Value → ab_H → Prop} {v0 : Nat} {v1 : Int32} {v3 : Int32} {v2 : Int32} {v4 : Int32} {g : g_S} {out : (Int32 × Int32 × g_S) ⊕ (g_S)} (e : b_Y_lineText_23 v0 v1 v3 v2 v4 g = some out) (c : cL_Y_lineText_23 L xs Q v0 v1 v3 out) : wp (ab_ext L xs) J_Y_lineText 23 [(0, .ref v0), (1, .int v1), (2, .int v2), (3, .int v3), (4, .int v4)] [] (hp g) Q := by
  unfold b_Y_lineText_23 at e
  refine wp_p (j := J_Y_lineText) 2 (pc' := 26) (lv' := [(0, .ref v0), (1, .int v1), (2, .int v2), (3, .int v3), (4, .int v4)]) (st' := [.ref v0, .int v4]) rfl ?_
  refine x_gQ e rfl rfl fd_12_62 rfl (fun z1 e => ?_)
  refine wp_p (j := J_Y_lineText) 1 (pc' := 30) (lv' := [(0, .ref v0), (1, .int v1), (2, .int v2), (3, .int v3), (4, .int v4)]) (st' := [.int v1, .ref z1, .int v4]) rfl ?_
  refine x_aI e rfl rfl (fun z2 e => ?_)
  refine x_ge e rfl (fun e => ?_) (fun e => ?_)
  · refine wp_p (j := J_Y_lineText) 1 (pc' := 35) (lv' := [(0, .ref v0), (1, .int v1), (2, .int v2), (3, .int v3), (4, .int v4)]) (st' := [.ref v0]) rfl ?_
    refine x_gQ e rfl rfl fd_12_61 rfl (fun z3 e => ?_)
    refine wp_p (j := J_Y_lineText) 5 (pc' := 46) (lv' := [(0, .ref v0), (1, .int v1), (2, .int v2), (3, .int v3), (4, .int v4)]) (st' := [.int ((400 * v1) + v4), .ref z3]) rfl ?_
    refine x_aB e rfl (.inl rfl) rfl (fun z4 e => ?_)
    refine x_cs1 (As := [.int z4]) (rest := []) Value.int e rfl rfl rfl rfl rfl (fun h => d_Y_isBlank h ⟨rfl, rfl⟩) (fun z5 e => ?_)
    refine z_eq e rfl (fun e => ?_) (fun e => ?_)
    · refine wp_p (j := J_Y_lineText) 3 (pc' := 67) (lv' := [(0, .ref v0), (1, .int v1), (2, .int v2), (3, .int v3), (4, .int v4)]) (st' := [.ref v0, .int v2, .ref v0]) rfl ?_
      refine x_gQ e rfl rfl fd_12_123 rfl (fun z6 e => ?_)
      refine wp_p (j := J_Y_lineText) 1 (pc' := 71) (lv' := [(0, .ref v0), (1, .int v1), (2, .int v2), (3, .int v3), (4, .int v4)]) (st' := [.int v2, .ref z6, .int v2, .ref v0]) rfl ?_
      refine x_aI e rfl rfl (fun z7 e => ?_)
      refine wp_p (j := J_Y_lineText) 1 (pc' := 73) (lv' := [(0, .ref v0), (1, .int v1), (2, .int v2), (3, .int v3), (4, .int v4)]) (st' := [.int v3, .int z7, .int v2, .ref v0]) rfl ?_
      refine x_cv0 (As := [.int v2, .int z7, .int v3]) (rest := []) e rfl rfl rfl rfl rfl rfl (fun h => d_Y_putItem h ⟨rfl, rfl⟩) (fun g8 e => ?_)
      refine wp_p (j := J_Y_lineText) 1 (pc' := 77) (lv' := [(0, .ref v0), (1, .int v1), (2, .int v2), (3, .int v3), (4, .int v4)]) (st' := [.ref v0]) rfl ?_
      refine x_gQ e rfl rfl fd_12_119 rfl (fun z9 e => ?_)
      refine wp_p (j := J_Y_lineText) 1 (pc' := 81) (lv' := [(0, .ref v0), (1, .int v1), (2, .int v2), (3, .int v3), (4, .int v4)]) (st' := [.int v2, .ref z9]) rfl ?_
      refine x_aI e rfl rfl (fun z10 e => ?_)
      refine wp_p (j := J_Y_lineText) 1 (pc' := 83) (lv' := [(0, .ref v0), (1, .int v1), (2, .int v2), (3, .int v3), (4, .int v4)]) (st' := [.ref v0, .int z10]) rfl ?_
      refine x_gQ e rfl rfl fd_12_120 rfl (fun z11 e => ?_)
      refine wp_p (j := J_Y_lineText) 1 (pc' := 87) (lv' := [(0, .ref v0), (1, .int v1), (2, .int v2), (3, .int v3), (4, .int v4)]) (st' := [.int v2, .ref z11, .int z10]) rfl ?_
      refine x_aI e rfl rfl (fun z12 e => ?_)
      refine wp_p (j := J_Y_lineText) 4 (pc' := 23) (lv' := [(2, .int (v2 + 1)), (4, .int (z10 + z12)), (0, .ref v0), (1, .int v1), (3, .int v3)]) (st' := []) rfl ?_
      have e := Option.some.inj e; subst e; exact wp_lv (lv' := [(0, .ref v0), (1, .int v1), (2, .int (v2 + 1)), (3, .int v3), (4, .int (z10 + z12))]) rfl ⟨rfl, rfl, rfl, rfl, rfl, trivial⟩ c
    · refine wp_p (j := J_Y_lineText) 2 (pc' := 55) (lv' := [(0, .ref v0), (1, .int v1), (2, .int v2), (3, .int v3), (4, .int v4)]) (st' := [.int 1, .ref v0]) rfl ?_
      refine x_pZ e rfl rfl fw_12_144 rfl (fun g13 e => ?_)
      refine wp_p (j := J_Y_lineText) 2 (pc' := 23) (lv' := [(4, .int (v4 + 1)), (0, .ref v0), (1, .int v1), (2, .int v2), (3, .int v3)]) (st' := []) rfl ?_
      have e := Option.some.inj e; subst e; exact wp_lv (lv' := [(0, .ref v0), (1, .int v1), (2, .int v2), (3, .int v3), (4, .int (v4 + 1))]) rfl ⟨rfl, rfl, rfl, rfl, rfl, trivial⟩ c
  · have e := Option.some.inj e; subst e; exact wp_lv (lv' := []) rfl trivial c
noncomputable def L_Y_lineText_23 (v0 : Nat) (v1 : Int32) (v3 : Int32) (v2 : Int32) (v4 : Int32) (g : g_S) : Option (g_S) := it (fun s : Int32 × Int32 × g_S => b_Y_lineText_23 v0 v1 v3 s.1 s.2.1 s.2.2) (v2, v4, g)
theorem l_Y_lineText_23 {L : Nat} {xs : Nat → Int32} {Q : Option Value → ab_H → Prop} {v0 : Nat} {v1 : Int32} {v3 : Int32} {v2 : Int32} {v4 : Int32} {g : g_S} {r : g_S} (e : L_Y_lineText_23 v0 v1 v3 v2 v4 g = some r) (c : cL_Y_lineText_23 L xs Q v0 v1 v3 (.inr r)) : wp (ab_ext L xs) J_Y_lineText 23 [(0, .ref v0), (1, .int v1), (2, .int v2), (3, .int v3), (4, .int v4)] [] (hp g) Q :=
  it_wp (P := fun s : Int32 × Int32 × g_S => wp (ab_ext L xs) J_Y_lineText 23 [(0, .ref v0), (1, .int v1), (2, .int s.1), (3, .int v3), (4, .int s.2.1)] [] (hp s.2.2) Q) (E := fun r => cL_Y_lineText_23 L xs Q v0 v1 v3 (.inr r)) (fun s out e c => y_Y_lineText_23 e (by cases out <;> exact c)) e c
theorem L_Y_lineText_23_eq (v0 : Nat) (v1 : Int32) (v3 : Int32) (v2 : Int32) (v4 : Int32) (g : g_S) : L_Y_lineText_23 v0 v1 v3 v2 v4 g = itc (b_Y_lineText_23 v0 v1 v3 v2 v4 g) (fun s => L_Y_lineText_23 v0 v1 v3 s.1 s.2.1 s.2.2) := it_eq2 (fun s : Int32 × Int32 × g_S => b_Y_lineText_23 v0 v1 v3 s.1 s.2.1 s.2.2) (v2, v4, g)
noncomputable def M_Y_lineText (v0 : Nat) (v1 : Int32) (g : g_S) : Option g_S :=
  (rQ g 112 v0 116).bind fun z1 =>
  (aI g 0 z1 v1).bind fun z2 =>
  (rQ g 112 v0 49).bind fun z3 =>
  (aI g 0 z3 v1).bind fun z4 =>
  (vc g 112 v0 (M_Y_of v0 z4 8 g)).bind fun z5 =>
  (L_Y_lineText_23 v0 v1 z5 z2 0 g).bind <| fun g8 =>
  some g8
set_option maxRecDepth 20000 in
theorem d_Y_lineText {L : Nat} {xs : Nat → Int32} {Q : Option Value → ab_H → Prop} {v0 : Nat} {v1 : Int32} {g : g_S} {out : g_S} (e : M_Y_lineText v0 v1 g = some out) (c : Q none (hp out)) : mw (ab_ext L xs) J_Y_lineText [.ref v0, .int v1] (hp g) Q := by
  unfold M_Y_lineText at e
  refine wp_p (j := J_Y_lineText) 1 (pc' := 1) (lv' := [(0, .ref v0), (1, .int v1)]) (st' := [.ref v0]) rfl ?_
  refine x_gQ e rfl rfl fd_12_116 rfl (fun z1 e => ?_)
  refine wp_p (j := J_Y_lineText) 1 (pc' := 5) (lv' := [(0, .ref v0), (1, .int v1)]) (st' := [.int v1, .ref z1]) rfl ?_
  refine x_aI e rfl rfl (fun z2 e => ?_)
  refine wp_p (j := J_Y_lineText) 3 (pc' := 9) (lv' := [(2, .int z2), (0, .ref v0), (1, .int v1)]) (st' := [.ref v0, .ref v0]) rfl ?_
  refine x_gQ e rfl rfl fd_12_49 rfl (fun z3 e => ?_)
  refine wp_p (j := J_Y_lineText) 1 (pc' := 13) (lv' := [(2, .int z2), (0, .ref v0), (1, .int v1)]) (st' := [.int v1, .ref z3, .ref v0]) rfl ?_
  refine x_aI e rfl rfl (fun z4 e => ?_)
  refine wp_p (j := J_Y_lineText) 1 (pc' := 16) (lv' := [(2, .int z2), (0, .ref v0), (1, .int v1)]) (st' := [.int 8, .int z4, .ref v0]) rfl ?_
  refine x_cv1 (As := [.int z4, .int 8]) (rest := []) Value.int e rfl rfl rfl rfl rfl rfl (fun h => d_Y_of h ⟨rfl, rfl⟩) (fun z5 e => ?_)
  refine wp_p (j := J_Y_lineText) 3 (pc' := 23) (lv' := [(4, .int 0), (3, .int z5), (2, .int z2), (0, .ref v0), (1, .int v1)]) (st' := []) rfl ?_
  obtain ⟨g8, h7, e⟩ := bd e
  refine wp_lv (lv' := [(0, .ref v0), (1, .int v1), (2, .int z2), (3, .int z5), (4, .int 0)]) rfl ⟨rfl, rfl, rfl, rfl, rfl, trivial⟩ ?_
  refine l_Y_lineText_23 h7 ?_
  show wp (ab_ext L xs) J_Y_lineText 97 [] [] (hp g8) Q
  have e := Option.some.inj e; subst e; exact wp_vret rfl rfl c
