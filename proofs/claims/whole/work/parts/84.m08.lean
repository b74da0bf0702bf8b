/-! methods as functions, group 8 -/
def cL_Y_server_193 (L : Nat) (xs : Nat → Int32) (Q : Option Value → ab_H → Prop) (v0 : Nat) (v2 : Int32) (g : g_S) (out : (Int32) ⊕ (Int32)) : Prop := match out with
  | .inl s => wp (ab_ext L xs) J_Y_server 193 [(0, .ref v0), (2, .int v2), (3, .int s)] [] (hp g) Q
  | .inr s => wp (ab_ext L xs) J_Y_server 219 [(0, .ref v0), (2, .int v2), (3, .int s)] [] (hp g) Q
noncomputable def b_Y_server_193 (v0 : Nat) (v2 : Int32) (v3 : Int32) (g : g_S) : Option ((Int32) ⊕ (Int32)) :=
  (rI g 112 v0 16).bind fun z1 =>
  if v3 < z1 then
    (vc g 112 v0 (M_Y_alike v0 (6 + v3) 3 g)).bind fun z2 =>
    if z2 = 0 then
      some (.inl (v3 + 1))
    else
      some (.inr v3)
  else
    some (.inr v3)
set_option maxRecDepth 20000 in
theorem y_Y_server_193 {L : Nat} {xs : Nat → Int32} {Q : Option Value → ab_H → Prop} {v0 : Nat} {v2 : Int32} {v3 : Int32} {g : g_S} {out : (Int32) ⊕ (Int32)} (e : b_Y_server_193 v0 v2 v3 g = some out) (c : cL_Y_server_193 L xs Q v0 v2 g out) : wp (ab_ext L xs) J_Y_server 193 [(0, .ref v0), (2, .int v2), (3, .int v3)] [] (hp g) Q := by
  unfold b_Y_server_193 at e
  refine wp_p (j := J_Y_server) 2 (pc' := 195) (lv' := [(0, .ref v0), (2, .int v2), (3, .int v3)]) (st' := [.ref v0, .int v3]) rfl ?_
  refine x_gI e rfl rfl fd_12_16 rfl (fun z1 e => ?_)
  refine x_ge e rfl (fun e => ?_) (fun e => ?_)
  · refine wp_p (j := J_Y_server) 5 (pc' := 207) (lv' := [(0, .ref v0), (2, .int v2), (3, .int v3)]) (st' := [.int 3, .int (6 + v3), .ref v0]) rfl ?_
    refine x_cv1 (As := [.int (6 + v3), .int 3]) (rest := []) Value.int e rfl rfl rfl rfl rfl rfl (fun h => d_Y_alike h ⟨rfl, rfl⟩) (fun z2 e => ?_)
    refine z_ne e rfl (fun e => ?_) (fun e => ?_)
    · refine wp_p (j := J_Y_server) 2 (pc' := 193) (lv' := [(3, .int (v3 + 1)), (0, .ref v0), (2, .int v2)]) (st' := []) rfl ?_
      have e := Option.some.inj e; subst e; exact wp_lv (lv' := [(0, .ref v0), (2, .int v2), (3, .int (v3 + 1))]) rfl ⟨rfl, rfl, rfl, trivial⟩ c
    · have e := Option.some.inj e; subst e; exact wp_lv (lv' := [(0, .ref v0), (2, .int v2), (3, .int v3)]) rfl ⟨rfl, rfl, rfl, trivial⟩ c
  · have e := Option.some.inj e; subst e; exact wp_lv (lv' := [(0, .ref v0), (2, .int v2), (3, .int v3)]) rfl ⟨rfl, rfl, rfl, trivial⟩ c
noncomputable def L_Y_server_193 (v0 : Nat) (v2 : Int32) (v3 : Int32) (g : g_S) : Option (Int32) := it (fun s : Int32 => b_Y_server_193 v0 v2 s g) (v3)
theorem l_Y_server_193 {L : Nat} {xs : Nat → Int32} {Q : Option Value → ab_H → Prop} {v0 : Nat} {v2 : Int32} {v3 : Int32} {g : g_S} {r : Int32} (e : L_Y_server_193 v0 v2 v3 g = some r) (c : cL_Y_server_193 L xs Q v0 v2 g (.inr r)) : wp (ab_ext L xs) J_Y_server 193 [(0, .ref v0), (2, .int v2), (3, .int v3)] [] (hp g) Q :=
  it_wp (P := fun s : Int32 => wp (ab_ext L xs) J_Y_server 193 [(0, .ref v0), (2, .int v2), (3, .int s)] [] (hp g) Q) (E := fun r => cL_Y_server_193 L xs Q v0 v2 g (.inr r)) (fun s out e c => y_Y_server_193 e (by cases out <;> exact c)) e c
theorem L_Y_server_193_eq (v0 : Nat) (v2 : Int32) (v3 : Int32) (g : g_S) : L_Y_server_193 v0 v2 v3 g = itc (b_Y_server_193 v0 v2 v3 g) (fun s => L_Y_server_193 v0 v2 s g) := it_eq2 (fun s : Int32 => b_Y_server_193 v0 v2 s g) (v3)
def cL_Y_server_348 (L : Nat) (xs : Nat → Int32) (Q : Option Value → ab_H → Prop) (v0 : Nat) (v3 : Int32) (out : (Int32 × g_S) ⊕ (g_S)) : Prop := match out with
  | .inl s => wp (ab_ext L xs) J_Y_server 348 [(0, .ref v0), (3, .int v3), (4, .int s.1)] [] (hp s.2) Q
  | .inr s => wp (ab_ext L xs) J_Y_server 380 [(0, .ref v0), (3, .int v3)] [] (hp s) Q
noncomputable def b_Y_server_348 (v0 : Nat) (v3 : Int32) (v4 : Int32) (g : g_S) : Option ((Int32 × g_S) ⊕ (g_S)) :=
  if v4 < 16 then
    (rQ g 112 v0 20).bind fun z1 =>
    (rQ g 112 v0 43).bind fun z2 =>
    (aI g 1 z2 v4).bind fun z3 =>
    (sB g z1 ((16 * v3) + v4) z3).bind fun g4 =>
    some (.inl (v4 + 1, g4))
  else
    some (.inr g)
set_option maxRecDepth 20000 in
theorem y_Y_server_348 {L : Nat} {xs : Nat → Int32} {Q : Option Value → ab_H → Prop} {v0 : Nat} {v3 : Int32} {v4 : Int32} {g : g_S} {out : (Int32 × g_S) ⊕ (g_S)} (e : b_Y_server_348 v0 v3 v4 g = some out) (c : cL_Y_server_348 L xs Q v0 v3 out) : wp (ab_ext L xs) J_Y_server 348 [(0, .ref v0), (3, .int v3), (4, .int v4)] [] (hp g) Q := by
  unfold b_Y_server_348 at e
  refine wp_p (j := J_Y_server) 2 (pc' := 352) (lv' := [(0, .ref v0), (3, .int v3), (4, .int v4)]) (st' := [.int 16, .int v4]) rfl ?_
  refine x_ge e rfl (fun e => ?_) (fun e => ?_)
  · refine wp_p (j := J_Y_server) 1 (pc' := 356) (lv' := [(0, .ref v0), (3, .int v3), (4, .int v4)]) (st' := [.ref v0]) rfl ?_
    refine x_gQ e rfl rfl fd_12_20 rfl (fun z1 e => ?_)
    refine wp_p (j := J_Y_server) 6 (pc' := 367) (lv' := [(0, .ref v0), (3, .int v3), (4, .int v4)]) (st' := [.ref v0, .int ((16 * v3) + v4), .ref z1]) rfl ?_
    refine x_gQ e rfl rfl fd_12_43 rfl (fun z2 e => ?_)
    refine wp_p (j := J_Y_server) 1 (pc' := 372) (lv' := [(0, .ref v0), (3, .int v3), (4, .int v4)]) (st' := [.int v4, .ref z2, .int ((16 * v3) + v4), .ref z1]) rfl ?_
    refine x_aB e rfl (.inl rfl) rfl (fun z3 e => ?_)
    refine x_sB e rfl rfl (fun g4 e => ?_)
    refine wp_p (j := J_Y_server) 2 (pc' := 348) (lv' := [(4, .int (v4 + 1)), (0, .ref v0), (3, .int v3)]) (st' := []) rfl ?_
    have e := Option.some.inj e; subst e; exact wp_lv (lv' := [(0, .ref v0), (3, .int v3), (4, .int (v4 + 1))]) rfl ⟨rfl, rfl, rfl, trivial⟩ c
  · have e := Option.some.inj e; subst e; exact wp_lv (lv' := [(0, .ref v0), (3, .int v3)]) rfl ⟨rfl, rfl, trivial⟩ c
noncomputable def L_Y_server_348 (v0 : Nat) (v3 : Int32) (v4 : Int32) (g : g_S) : Option (g_S) := it (fun s : Int32 × g_S => b_Y_server_348 v0 v3 s.1 s.2) (v4, g)
theorem l_Y_server_348 {L : Nat} {xs : Nat → Int32} {Q : Option Value → ab_H → Prop} {v0 : Nat} {v3 : Int32} {v4 : Int32} {g : g_S} {r : g_S} (e : L_Y_server_348 v0 v3 v4 g = some r) (c : cL_Y_server_348 L xs Q v0 v3 (.inr r)) : wp (ab_ext L xs) J_Y_server 348 [(0, .ref v0), (3, .int v3), (4, .int v4)] [] (hp g) Q :=
  it_wp (P := fun s : Int32 × g_S => wp (ab_ext L xs) J_Y_server 348 [(0, .ref v0), (3, .int v3), (4, .int s.1)] [] (hp s.2) Q) (E := fun r => cL_Y_server_348 L xs Q v0 v3 (.inr r)) (fun s out e c => y_Y_server_348 e (by cases out <;> exact c)) e c
theorem L_Y_server_348_eq (v0 : Nat) (v3 : Int32) (v4 : Int32) (g : g_S) : L_Y_server_348 v0 v3 v4 g = itc (b_Y_server_348 v0 v3 v4 g) (fun s => L_Y_server_348 v0 v3 s.1 s.2) := it_eq2 (fun s : Int32 × g_S => b_Y_server_348 v0 v3 s.1 s.2) (v4, g)
def cL_Y_server_276 (L : Nat) (xs : Nat → Int32) (Q : Option Value → ab_H → Prop) (v0 : Nat) (v2 : Int32) (v3 : Int32) (out : (Int32 × g_S) ⊕ (g_S)) : Prop := match out with
  | .inl s => wp (ab_ext L xs) J_Y_server 276 [(0, .ref v0), (2, .int v2), (3, .int v3), (4, .int s.1)] [] (hp s.2) Q
  | .inr s => wp (ab_ext L xs) J_Y_server 315 [(0, .ref v0), (3, .int v3)] [] (hp s) Q
noncomputable def b_Y_server_276 (v0 : Nat) (v2 : Int32) (v3 : Int32) (v4 : Int32) (g : g_S) : Option ((Int32 × g_S) ⊕ (g_S)) :=
  (rQ g 112 v0 18).bind fun z1 =>
  (aI g 0 z1 v3).bind fun z2 =>
  if v4 < z2 then
    (rQ g 112 v0 17).bind fun z3 =>
    (rQ g 112 v0 2).bind fun z4 =>
    (aI g 1 z4 (v2 + v4)).bind fun z5 =>
    (sB g z3 ((v3 * 1500) + v4) z5).bind fun g6 =>
    some (.inl (v4 + 1, g6))
  else
    some (.inr g)
set_option maxRecDepth 20000 in
theorem y_Y_server_276 {L : Nat} {xs : Nat → Int32} {Q : Option Value → ab_H → Prop} {v0 : Nat} {v2 : Int32} {v3 : Int32} {v4 : Int32} {g : g_S} {out : (Int32 × g_S) ⊕ (g_S)} (e : b_Y_server_276 v0 v2 v3 v4 g = some out) (c : cL_Y_server_276 L xs Q v0 v2 v3 out) : wp (ab_ext L xs) J_Y_server 276 [(0, .ref v0), (2, .int v2), (3, .int v3), (4, .int v4)] [] (hp g) Q := by
  unfold b_Y_server_276 at e
  refine wp_p (j := J_Y_server) 2 (pc' := 279) (lv' := [(0, .ref v0), (2, .int v2), (3, .int v3), (4, .int v4)]) (st' := [.ref v0, .int v4]) rfl ?_
  refine x_gQ e rfl rfl fd_12_18 rfl (fun z1 e => ?_)
  refine wp_p (j := J_Y_server) 1 (pc' := 283) (lv' := [(0, .ref v0), (2, .int v2), (3, .int v3), (4, .int v4)]) (st' := [.int v3, .ref z1, .int v4]) rfl ?_
  refine x_aI e rfl rfl (fun z2 e => ?_)
  refine x_ge e rfl (fun e => ?_) (fun e => ?_)
  · refine wp_p (j := J_Y_server) 1 (pc' := 288) (lv' := [(0, .ref v0), (2, .int v2), (3, .int v3), (4, .int v4)]) (st' := [.ref v0]) rfl ?_
    refine x_gQ e rfl rfl fd_12_17 rfl (fun z3 e => ?_)
    refine wp_p (j := J_Y_server) 6 (pc' := 300) (lv' := [(0, .ref v0), (2, .int v2), (3, .int v3), (4, .int v4)]) (st' := [.ref v0, .int ((v3 * 1500) + v4), .ref z3]) rfl ?_
    refine x_gQ e rfl rfl fd_12_2 rfl (fun z4 e => ?_)
    refine wp_p (j := J_Y_server) 3 (pc' := 307) (lv' := [(0, .ref v0), (2, .int v2), (3, .int v3), (4, .int v4)]) (st' := [.int (v2 + v4), .ref z4, .int ((v3 * 1500) + v4), .ref z3]) rfl ?_
    refine x_aB e rfl (.inl rfl) rfl (fun z5 e => ?_)
    refine x_sB e rfl rfl (fun g6 e => ?_)
    refine wp_p (j := J_Y_server) 2 (pc' := 276) (lv' := [(4, .int (v4 + 1)), (0, .ref v0), (2, .int v2), (3, .int v3)]) (st' := []) rfl ?_
    have e := Option.some.inj e; subst e; exact wp_lv (lv' := [(0, .ref v0), (2, .int v2), (3, .int v3), (4, .int (v4 + 1))]) rfl ⟨rfl, rfl, rfl, rfl, trivial⟩ c
  · have e := Option.some.inj e; subst e; exact wp_lv (lv' := [(0, .ref v0), (3, .int v3)]) rfl ⟨rfl, rfl, trivial⟩ c
noncomputable def L_Y_server_276 (v0 : Nat) (v2 : Int32) (v3 : Int32) (v4 : Int32) (g : g_S) : Option (g_S) := it (fun s : Int32 × g_S => b_Y_server_276 v0 v2 v3 s.1 s.2) (v4, g)
theorem l_Y_server_276 {L : Nat} {xs : Nat → Int32} {Q : Option Value → ab_H → Prop} {v0 : Nat} {v2 : Int32} {v3 : Int32} {v4 : Int32} {g : g_S} {r : g_S} (e : L_Y_server_276 v0 v2 v3 v4 g = some r) (c : cL_Y_server_276 L xs Q v0 v2 v3 (.inr r)) : wp (ab_ext L xs) J_Y_server 276 [(0, .ref v0), (2, .int v2), (3, .int v3), (4, .int v4)] [] (hp g) Q :=
  it_wp (P := fun s : Int32 × g_S => wp (ab_ext L xs) J_Y_server 276 [(0, .ref v0), (2, .int v2), (3, .int v3), (4, .int s.1)] [] (hp s.2) Q) (E := fun r => cL_Y_server_276 L xs Q v0 v2 v3 (.inr r)) (fun s out e c => y_Y_server_276 e (by cases out <;> exact c)) e c
theorem L_Y_server_276_eq (v0 : Nat) (v2 : Int32) (v3 : Int32) (v4 : Int32) (g : g_S) : L_Y_server_276 v0 v2 v3 v4 g = itc (b_Y_server_276 v0 v2 v3 v4 g) (fun s => L_Y_server_276 v0 v2 v3 s.1 s.2) := it_eq2 (fun s : Int32 × g_S => b_Y_server_276 v0 v2 v3 s.1 s.2) (v4, g)
def cL_Y_server_101 (L : Nat) (xs : Nat → Int32) (Q : Option Value → ab_H → Prop) (v0 : Nat) (out : (Int32 × g_S) ⊕ ((Int32 × g_S) ⊕ (Int32 × g_S))) : Prop := match out with
  | .inl s => wp (ab_ext L xs) J_Y_server 101 [(0, .ref v0), (2, .int s.1)] [] (hp s.2) Q
  | .inr (.inl s) => wp (ab_ext L xs) J_Y_server 139 [(2, .int s.1)] [] (hp s.2) Q
  | .inr (.inr s) => wp (ab_ext L xs) J_Y_server 151 [(0, .ref v0), (2, .int s.1)] [] (hp s.2) Q
noncomputable def b_Y_server_101 (v0 : Nat) (v2 : Int32) (g : g_S) : Option ((Int32 × g_S) ⊕ ((Int32 × g_S) ⊕ (Int32 × g_S))) :=
  (rI g 112 v0 3).bind fun z1 =>
  if v2 < z1 then
    (rQ g 112 v0 2).bind fun z2 =>
    (aI g 1 z2 v2).bind fun z3 =>
    if z3 = 32 then
      (vc g 112 v0 (M_Y_tokenEnd v0 (v2 + 1) g)).bind fun z4 =>
      c2 (vc g 112 v0 (M_Y_field v0 (v2 + 1) z4 g)) fun z5 g6 =>
      if z5 = 0 then
        some (.inr (.inl (v2, g6)))
      else
        some (.inl (z4, g6))
    else
      some (.inr (.inr (v2, g)))
  else
    some (.inr (.inr (v2, g)))
set_option maxRecDepth 20000 in
theorem y_Y_server_101 {L : Nat} {xs : Nat → Int32} {Q : Option Value → ab_H → Prop} {v0 : Nat} {v2 : Int32} {g : g_S} {out : (Int32 × g_S) ⊕ ((Int32 × g_S) ⊕ (Int32 × g_S))} (e : b_Y_server_101 v0 v2 g = some out) (c : cL_Y_server_101 L xs Q v0 out) : wp (ab_ext L xs) J_Y_server 101 [(0, .ref v0), (2, .int v2)] [] (hp g) Q := by
  unfold b_Y_server_101 at e
  refine wp_p (j := J_Y_server) 2 (pc' := 103) (lv' := [(0, .ref v0), (2, .int v2)]) (st' := [.ref v0, .int v2]) rfl ?_
  refine x_gI e rfl rfl fd_12_3 rfl (fun z1 e => ?_)
  refine x_ge e rfl (fun e => ?_) (fun e => ?_)
  · refine wp_p (j := J_Y_server) 1 (pc' := 110) (lv' := [(0, .ref v0), (2, .int v2)]) (st' := [.ref v0]) rfl ?_
    refine x_gQ e rfl rfl fd_12_2 rfl (fun z2 e => ?_)
    refine wp_p (j := J_Y_server) 1 (pc' := 114) (lv' := [(0, .ref v0), (2, .int v2)]) (st' := [.int v2, .ref z2]) rfl ?_
    refine x_aB e rfl (.inl rfl) rfl (fun z3 e => ?_)
    refine wp_p (j := J_Y_server) 1 (pc' := 117) (lv' := [(0, .ref v0), (2, .int v2)]) (st' := [.int 32, .int z3]) rfl ?_
    refine x_ne e rfl (fun e => ?_) (fun e => ?_)
    · refine wp_p (j := J_Y_server) 4 (pc' := 124) (lv' := [(0, .ref v0), (2, .int v2)]) (st' := [.int (v2 + 1), .ref v0]) rfl ?_
      refine x_cv1 (As := [.int (v2 + 1)]) (rest := []) Value.int e rfl rfl rfl rfl rfl rfl (fun h => d_Y_tokenEnd h ⟨rfl, rfl⟩) (fun z4 e => ?_)
      refine wp_p (j := J_Y_server) 6 (pc' := 133) (lv' := [(3, .int z4), (0, .ref v0), (2, .int v2)]) (st' := [.int z4, .int (v2 + 1), .ref v0]) rfl ?_
      refine x_cv2 (As := [.int (v2 + 1), .int z4]) (rest := []) Value.int e rfl rfl rfl rfl rfl rfl (fun h => d_Y_field h ⟨rfl, rfl⟩) (fun z5 g6 e => ?_)
      refine z_ne e rfl (fun e => ?_) (fun e => ?_)
      · have e := Option.some.inj e; subst e; exact wp_lv (lv' := [(2, .int v2)]) rfl ⟨rfl, trivial⟩ c
      · refine wp_p (j := J_Y_server) 3 (pc' := 101) (lv' := [(2, .int z4), (3, .int z4), (0, .ref v0)]) (st' := []) rfl ?_
        have e := Option.some.inj e; subst e; exact wp_lv (lv' := [(0, .ref v0), (2, .int z4)]) rfl ⟨rfl, rfl, trivial⟩ c
    · have e := Option.some.inj e; subst e; exact wp_lv (lv' := [(0, .ref v0), (2, .int v2)]) rfl ⟨rfl, rfl, trivial⟩ c
  · have e := Option.some.inj e; subst e; exact wp_lv (lv' := [(0, .ref v0), (2, .int v2)]) rfl ⟨rfl, rfl, trivial⟩ c
noncomputable def L_Y_server_101 (v0 : Nat) (v2 : Int32) (g : g_S) : Option ((Int32 × g_S) ⊕ (Int32 × g_S)) := it (fun s : Int32 × g_S => b_Y_server_101 v0 s.1 s.2) (v2, g)
theorem l_Y_server_101 {L : Nat} {xs : Nat → Int32} {Q : Option Value → ab_H → Prop} {v0 : Nat} {v2 : Int32} {g : g_S} {r : (Int32 × g_S) ⊕ (Int32 × g_S)} (e : L_Y_server_101 v0 v2 g = some r) (c : cL_Y_server_101 L xs Q v0 (.inr r)) : wp (ab_ext L xs) J_Y_server 101 [(0, .ref v0), (2, .int v2)] [] (hp g) Q :=
  it_wp (P := fun s : Int32 × g_S => wp (ab_ext L xs) J_Y_server 101 [(0, .ref v0), (2, .int s.1)] [] (hp s.2) Q) (E := fun r => cL_Y_server_101 L xs Q v0 (.inr r)) (fun s out e c => y_Y_server_101 e (by cases out <;> exact c)) e c
theorem L_Y_server_101_eq (v0 : Nat) (v2 : Int32) (g : g_S) : L_Y_server_101 v0 v2 g = itc (b_Y_server_101 v0 v2 g) (fun s => L_Y_server_101 v0 s.1 s.2) := it_eq2 (fun s : Int32 × g_S => b_Y_server_101 v0 s.1 s.2) (v2, g)
noncomputable def k_Y_server_433 (v0 : Nat) (w0 : Int32) (w1 : Int32) (w2 : Nat) (g : g_S) : Option (Int32 × g_S) :=
  (sZ g w2 w1 w0).bind fun g1 =>
  (rI g1 112 v0 16).bind fun z2 =>
  some (z2, g1)
set_option maxRecDepth 20000 in
theorem x_Y_server_433 {L : Nat} {xs : Nat → Int32} {Q : Option Value → ab_H → Prop} {v0 : Nat} {w0 : Int32} {w1 : Int32} {w2 : Nat} {g : g_S} {out : Int32 × g_S} (e : k_Y_server_433 v0 w0 w1 w2 g = some out) (c : Q (some (.int out.1)) (hp out.2)) : wp (ab_ext L xs) J_Y_server 433 [(0, .ref v0)] [.int w0, .int w1, .ref w2] (hp g) Q := by
  unfold k_Y_server_433 at e
  refine x_sZ e rfl rfl (fun g1 e => ?_)
  refine wp_p (j := J_Y_server) 1 (pc' := 435) (lv' := [(0, .ref v0)]) (st' := [.ref v0]) rfl ?_
  refine x_gI e rfl rfl fd_12_16 rfl (fun z2 e => ?_)
  have e := Option.some.inj e; subst e; exact wp_iret (ty := .int) rfl rfl rfl c
noncomputable def k_Y_server_416 (v0 : Nat) (v3 : Int32) (g : g_S) : Option (Int32 × g_S) :=
  (rQ g 112 v0 24).bind fun z1 =>
  (rI g 112 v0 42).bind fun z2 =>
  if 0 < z2 then
    k_Y_server_433 v0 1 v3 z1 g
  else
    k_Y_server_433 v0 0 v3 z1 g
set_option maxRecDepth 20000 in
theorem x_Y_server_416 {L : Nat} {xs : Nat → Int32} {Q : Option Value → ab_H → Prop} {v0 : Nat} {v3 : Int32} {g : g_S} {out : Int32 × g_S} (e : k_Y_server_416 v0 v3 g = some out) (c : Q (some (.int out.1)) (hp out.2)) : wp (ab_ext L xs) J_Y_server 416 [(0, .ref v0), (3, .int v3)] [] (hp g) Q := by
  unfold k_Y_server_416 at e
  refine wp_p (j := J_Y_server) 1 (pc' := 417) (lv' := [(0, .ref v0), (3, .int v3)]) (st' := [.ref v0]) rfl ?_
  refine x_gQ e rfl rfl fd_12_24 rfl (fun z1 e => ?_)
  refine wp_p (j := J_Y_server) 2 (pc' := 422) (lv' := [(0, .ref v0), (3, .int v3)]) (st' := [.ref v0, .int v3, .ref z1]) rfl ?_
  refine x_gI e rfl rfl fd_12_42 rfl (fun z2 e => ?_)
  refine z_le e rfl (fun e => ?_) (fun e => ?_)
  · refine wp_p (j := J_Y_server) 2 (pc' := 433) (lv' := [(0, .ref v0), (3, .int v3)]) (st' := [.int 1, .int v3, .ref z1]) rfl ?_
    exact wp_lv (lv' := [(0, .ref v0)]) rfl ⟨rfl, trivial⟩ (x_Y_server_433 e c)
  · refine wp_p (j := J_Y_server) 1 (pc' := 433) (lv' := [(0, .ref v0), (3, .int v3)]) (st' := [.int 0, .int v3, .ref z1]) rfl ?_
    exact wp_lv (lv' := [(0, .ref v0)]) rfl ⟨rfl, trivial⟩ (x_Y_server_433 e c)
noncomputable def k_Y_server_397 (v0 : Nat) (v3 : Int32) (w0 : Int32) (w1 : Int32) (w2 : Nat) (g : g_S) : Option (Int32 × g_S) :=
  (sZ g w2 w1 w0).bind fun g1 =>
  (rQ g1 112 v0 23).bind fun z2 =>
  (aI g1 2 z2 v3).bind fun z3 =>
  if z3 = 0 then
    k_Y_server_416 v0 v3 g1
  else
    (vc g1 112 v0 (M_Y_copyRow v0 (46 + v3) 4 g1)).bind fun g4 =>
    k_Y_server_416 v0 v3 g4
set_option maxRecDepth 20000 in
theorem x_Y_server_397 {L : Nat} {xs : Nat → Int32} {Q : Option Value → ab_H → Prop} {v0 : Nat} {v3 : Int32} {w0 : Int32} {w1 : Int32} {w2 : Nat} {g : g_S} {out : Int32 × g_S} (e : k_Y_server_397 v0 v3 w0 w1 w2 g = some out) (c : Q (some (.int out.1)) (hp out.2)) : wp (ab_ext L xs) J_Y_server 397 [(0, .ref v0), (3, .int v3)] [.int w0, .int w1, .ref w2] (hp g) Q := by
  unfold k_Y_server_397 at e
  refine x_sZ e rfl rfl (fun g1 e => ?_)
  refine wp_p (j := J_Y_server) 1 (pc' := 399) (lv' := [(0, .ref v0), (3, .int v3)]) (st' := [.ref v0]) rfl ?_
  refine x_gQ e rfl rfl fd_12_23 rfl (fun z2 e => ?_)
  refine wp_p (j := J_Y_server) 1 (pc' := 403) (lv' := [(0, .ref v0), (3, .int v3)]) (st' := [.int v3, .ref z2]) rfl ?_
  refine x_aB e rfl (.inr rfl) rfl (fun z3 e => ?_)
  refine z_eq e rfl (fun e => ?_) (fun e => ?_)
  · exact wp_lv (lv' := [(0, .ref v0), (3, .int v3)]) rfl ⟨rfl, rfl, trivial⟩ (x_Y_server_416 e c)
  · refine wp_p (j := J_Y_server) 5 (pc' := 413) (lv' := [(0, .ref v0), (3, .int v3)]) (st' := [.int 4, .int (46 + v3), .ref v0]) rfl ?_
    refine x_cv0 (As := [.int (46 + v3), .int 4]) (rest := []) e rfl rfl rfl rfl rfl rfl (fun h => d_Y_copyRow h ⟨rfl, rfl⟩) (fun g4 e => ?_)
    exact wp_lv (lv' := [(0, .ref v0), (3, .int v3)]) rfl ⟨rfl, rfl, trivial⟩ (x_Y_server_416 e c)
noncomputable def k_Y_server_249 (v0 : Nat) (v2 : Int32) (v3 : Int32) (w0 : Int32) (w1 : Nat) (g : g_S) : Option (Int32 × g_S) :=
  (wI g 112 w1 16 w0).bind fun g1 =>
  (vc g1 112 v0 (M_Y_copyRow v0 (6 + v3) 3 g1)).bind fun g2 =>
  (rQ g2 112 v0 18).bind fun z3 =>
  (rI g2 112 v0 3).bind fun z4 =>
  (sI g2 z3 v3 (z4 - v2)).bind fun g5 =>
  (L_Y_server_276 v0 v2 v3 0 g5).bind <| fun g8 =>
  (rQ g8 112 v0 19).bind fun z9 =>
  (rI g8 112 v0 38).bind fun z10 =>
  (sI g8 z9 v3 z10).bind fun g11 =>
  (rQ g11 112 v0 21).bind fun z12 =>
  (rI g11 112 v0 39).bind fun z13 =>
  (sI g11 z12 v3 z13).bind fun g14 =>
  (rQ g14 112 v0 22).bind fun z15 =>
  (rI g14 112 v0 40).bind fun z16 =>
  (sI g14 z15 v3 z16).bind fun g17 =>
  (L_Y_server_348 v0 v3 0 g17).bind <| fun g20 =>
  (rQ g20 112 v0 23).bind fun z21 =>
  (rI g20 112 v0 41).bind fun z22 =>
  if 0 < z22 then
    k_Y_server_397 v0 v3 1 v3 z21 g20
  else
    k_Y_server_397 v0 v3 0 v3 z21 g20
set_option maxRecDepth 20000 in
theorem x_Y_server_249 {L : Nat} {xs : Nat → Int32} {Q : Option Value → ab_H → Prop} {v0 : Nat} {v2 : Int32} {v3 : Int32} {w0 : Int32} {w1 : Nat} {g : g_S} {out : Int32 × g_S} (e : k_Y_server_249 v0 v2 v3 w0 w1 g = some out) (c : Q (some (.int out.1)) (hp out.2)) : wp (ab_ext L xs) J_Y_server 249 [(0, .ref v0), (2, .int v2), (3, .int v3)] [.int w0, .ref w1] (hp g) Q := by
  unfold k_Y_server_249 at e
  refine x_pI e rfl rfl fw_12_16 rfl (fun g1 e => ?_)
  refine wp_p (j := J_Y_server) 5 (pc' := 258) (lv' := [(0, .ref v0), (2, .int v2), (3, .int v3)]) (st' := [.int 3, .int (6 + v3), .ref v0]) rfl ?_
  refine x_cv0 (As := [.int (6 + v3), .int 3]) (rest := []) e rfl rfl rfl rfl rfl rfl (fun h => d_Y_copyRow h ⟨rfl, rfl⟩) (fun g2 e => ?_)
  refine wp_p (j := J_Y_server) 1 (pc' := 262) (lv' := [(0, .ref v0), (2, .int v2), (3, .int v3)]) (st' := [.ref v0]) rfl ?_
  refine x_gQ e rfl rfl fd_12_18 rfl (fun z3 e => ?_)
  refine wp_p (j := J_Y_server) 2 (pc' := 267) (lv' := [(0, .ref v0), (2, .int v2), (3, .int v3)]) (st' := [.ref v0, .int v3, .ref z3]) rfl ?_
  refine x_gI e rfl rfl fd_12_3 rfl (fun z4 e => ?_)
  refine wp_p (j := J_Y_server) 2 (pc' := 272) (lv' := [(0, .ref v0), (2, .int v2), (3, .int v3)]) (st' := [.int (z4 - v2), .int v3, .ref z3]) rfl ?_
  refine x_sI e rfl rfl (fun g5 e => ?_)
  refine wp_p (j := J_Y_server) 2 (pc' := 276) (lv' := [(4, .int 0), (0, .ref v0), (2, .int v2), (3, .int v3)]) (st' := []) rfl ?_
  obtain ⟨g8, h7, e⟩ := bd e
  refine wp_lv (lv' := [(0, .ref v0), (2, .int v2), (3, .int v3), (4, .int 0)]) rfl ⟨rfl, rfl, rfl, rfl, trivial⟩ ?_
  refine l_Y_server_276 h7 ?_
  show wp (ab_ext L xs) J_Y_server 315 [(0, .ref v0), (3, .int v3)] [] (hp g8) Q
  refine wp_p (j := J_Y_server) 1 (pc' := 316) (lv' := [(0, .ref v0), (3, .int v3)]) (st' := [.ref v0]) rfl ?_
  refine x_gQ e rfl rfl fd_12_19 rfl (fun z9 e => ?_)
  refine wp_p (j := J_Y_server) 2 (pc' := 321) (lv' := [(0, .ref v0), (3, .int v3)]) (st' := [.ref v0, .int v3, .ref z9]) rfl ?_
  refine x_gI e rfl rfl fd_12_38 rfl (fun z10 e => ?_)
  refine x_sI e rfl rfl (fun g11 e => ?_)
  refine wp_p (j := J_Y_server) 1 (pc' := 326) (lv' := [(0, .ref v0), (3, .int v3)]) (st' := [.ref v0]) rfl ?_
  refine x_gQ e rfl rfl fd_12_21 rfl (fun z12 e => ?_)
  refine wp_p (j := J_Y_server) 2 (pc' := 331) (lv' := [(0, .ref v0), (3, .int v3)]) (st' := [.ref v0, .int v3, .ref z12]) rfl ?_
  refine x_gI e rfl rfl fd_12_39 rfl (fun z13 e => ?_)
  refine x_sI e rfl rfl (fun g14 e => ?_)
  refine wp_p (j := J_Y_server) 1 (pc' := 336) (lv' := [(0, .ref v0), (3, .int v3)]) (st' := [.ref v0]) rfl ?_
  refine x_gQ e rfl rfl fd_12_22 rfl (fun z15 e => ?_)
  refine wp_p (j := J_Y_server) 2 (pc' := 341) (lv' := [(0, .ref v0), (3, .int v3)]) (st' := [.ref v0, .int v3, .ref z15]) rfl ?_
  refine x_gI e rfl rfl fd_12_40 rfl (fun z16 e => ?_)
  refine x_sI e rfl rfl (fun g17 e => ?_)
  refine wp_p (j := J_Y_server) 2 (pc' := 348) (lv' := [(4, .int 0), (0, .ref v0), (3, .int v3)]) (st' := []) rfl ?_
  obtain ⟨g20, h19, e⟩ := bd e
  refine wp_lv (lv' := [(0, .ref v0), (3, .int v3), (4, .int 0)]) rfl ⟨rfl, rfl, rfl, trivial⟩ ?_
  refine l_Y_server_348 h19 ?_
  show wp (ab_ext L xs) J_Y_server 380 [(0, .ref v0), (3, .int v3)] [] (hp g20) Q
  refine wp_p (j := J_Y_server) 1 (pc' := 381) (lv' := [(0, .ref v0), (3, .int v3)]) (st' := [.ref v0]) rfl ?_
  refine x_gQ e rfl rfl fd_12_23 rfl (fun z21 e => ?_)
  refine wp_p (j := J_Y_server) 2 (pc' := 386) (lv' := [(0, .ref v0), (3, .int v3)]) (st' := [.ref v0, .int v3, .ref z21]) rfl ?_
  refine x_gI e rfl rfl fd_12_41 rfl (fun z22 e => ?_)
  refine z_le e rfl (fun e => ?_) (fun e => ?_)
  · refine wp_p (j := J_Y_server) 2 (pc' := 397) (lv' := [(0, .ref v0), (3, .int v3)]) (st' := [.int 1, .int v3, .ref z21]) rfl ?_
    exact wp_lv (lv' := [(0, .ref v0), (3, .int v3)]) rfl ⟨rfl, rfl, trivial⟩ (x_Y_server_397 e c)
  · refine wp_p (j := J_Y_server) 1 (pc' := 397) (lv' := [(0, .ref v0), (3, .int v3)]) (st' := [.int 0, .int v3, .ref z21]) rfl ?_
    exact wp_lv (lv' := [(0, .ref v0), (3, .int v3)]) rfl ⟨rfl, rfl, trivial⟩ (x_Y_server_397 e c)
noncomputable def k_Y_server_219 (v0 : Nat) (v2 : Int32) (v3 : Int32) (g : g_S) : Option (Int32 × g_S) :=
  if v3 = 12 then
    some ((-1), g)
  else
    (rI g 112 v0 16).bind fun z1 =>
    if v3 = z1 then
      (rI g 112 v0 16).bind fun z2 =>
      k_Y_server_249 v0 v2 v3 (z2 + 1) v0 g
    else
      (rI g 112 v0 16).bind fun z3 =>
      k_Y_server_249 v0 v2 v3 z3 v0 g
set_option maxRecDepth 20000 in
theorem x_Y_server_219 {L : Nat} {xs : Nat → Int32} {Q : Option Value → ab_H → Prop} {v0 : Nat} {v2 : Int32} {v3 : Int32} {g : g_S} {out : Int32 × g_S} (e : k_Y_server_219 v0 v2 v3 g = some out) (c : Q (some (.int out.1)) (hp out.2)) : wp (ab_ext L xs) J_Y_server 219 [(0, .ref v0), (2, .int v2), (3, .int v3)] [] (hp g) Q := by
  unfold k_Y_server_219 at e
  refine wp_p (j := J_Y_server) 2 (pc' := 222) (lv' := [(0, .ref v0), (2, .int v2), (3, .int v3)]) (st' := [.int 12, .int v3]) rfl ?_
  refine x_ne e rfl (fun e => ?_) (fun e => ?_)
  · refine wp_p (j := J_Y_server) 1 (pc' := 226) (lv' := [(0, .ref v0), (2, .int v2), (3, .int v3)]) (st' := [.int (-1)]) rfl ?_
    have e := Option.some.inj e; subst e; exact wp_iret (ty := .int) rfl rfl rfl c
  · refine wp_p (j := J_Y_server) 3 (pc' := 230) (lv' := [(0, .ref v0), (2, .int v2), (3, .int v3)]) (st' := [.ref v0, .int v3, .ref v0]) rfl ?_
    refine x_gI e rfl rfl fd_12_16 rfl (fun z1 e => ?_)
    refine x_ne e rfl (fun e => ?_) (fun e => ?_)
    · refine wp_p (j := J_Y_server) 1 (pc' := 237) (lv' := [(0, .ref v0), (2, .int v2), (3, .int v3)]) (st' := [.ref v0, .ref v0]) rfl ?_
      refine x_gI e rfl rfl fd_12_16 rfl (fun z2 e => ?_)
      refine wp_p (j := J_Y_server) 3 (pc' := 249) (lv' := [(0, .ref v0), (2, .int v2), (3, .int v3)]) (st' := [.int (z2 + 1), .ref v0]) rfl ?_
      exact wp_lv (lv' := [(0, .ref v0), (2, .int v2), (3, .int v3)]) rfl ⟨rfl, rfl, rfl, trivial⟩ (x_Y_server_249 e c)
    · refine wp_p (j := J_Y_server) 1 (pc' := 246) (lv' := [(0, .ref v0), (2, .int v2), (3, .int v3)]) (st' := [.ref v0, .ref v0]) rfl ?_
      refine x_gI e rfl rfl fd_12_16 rfl (fun z3 e => ?_)
      exact wp_lv (lv' := [(0, .ref v0), (2, .int v2), (3, .int v3)]) rfl ⟨rfl, rfl, rfl, trivial⟩ (x_Y_server_249 e c)
noncomputable def k_Y_server_151 (v0 : Nat) (v2 : Int32) (g : g_S) : Option (Int32 × g_S) :=
  (rI g 112 v0 3).bind fun z1 =>
  if v2 = z1 then
    (rI g 112 v0 3).bind fun z2 =>
    (M_Y_wrong z2 g).bind fun z3 =>
    some (z3, g)
  else
    (rI g 112 v0 3).bind fun z4 =>
    if 1500 < (z4 - (v2 + 1)) then
      (M_Y_wrong ((v2 + 1) + 1500) g).bind fun z5 =>
      some (z5, g)
    else
      (L_Y_server_193 v0 (v2 + 1) 0 g).bind <| fun z8 =>
      k_Y_server_219 v0 (v2 + 1) z8 g
set_option maxRecDepth 20000 in
theorem x_Y_server_151 {L : Nat} {xs : Nat → Int32} {Q : Option Value → ab_H → Prop} {v0 : Nat} {v2 : Int32} {g : g_S} {out : Int32 × g_S} (e : k_Y_server_151 v0 v2 g = some out) (c : Q (some (.int out.1)) (hp out.2)) : wp (ab_ext L xs) J_Y_server 151 [(0, .ref v0), (2, .int v2)] [] (hp g) Q := by
  unfold k_Y_server_151 at e
  refine wp_p (j := J_Y_server) 2 (pc' := 153) (lv' := [(0, .ref v0), (2, .int v2)]) (st' := [.ref v0, .int v2]) rfl ?_
  refine x_gI e rfl rfl fd_12_3 rfl (fun z1 e => ?_)
  refine x_ne e rfl (fun e => ?_) (fun e => ?_)
  · refine wp_p (j := J_Y_server) 1 (pc' := 160) (lv' := [(0, .ref v0), (2, .int v2)]) (st' := [.ref v0]) rfl ?_
    refine x_gI e rfl rfl fd_12_3 rfl (fun z2 e => ?_)
    refine x_cs1 (As := [.int z2]) (rest := []) Value.int e rfl rfl rfl rfl rfl (fun h => d_Y_wrong h ⟨rfl, rfl⟩) (fun z3 e => ?_)
    have e := Option.some.inj e; subst e; exact wp_iret (ty := .int) rfl rfl rfl c
  · refine wp_p (j := J_Y_server) 2 (pc' := 171) (lv' := [(2, .int (v2 + 1)), (0, .ref v0)]) (st' := [.ref v0]) rfl ?_
    refine x_gI e rfl rfl fd_12_3 rfl (fun z4 e => ?_)
    refine wp_p (j := J_Y_server) 3 (pc' := 179) (lv' := [(2, .int (v2 + 1)), (0, .ref v0)]) (st' := [.int 1500, .int (z4 - (v2 + 1))]) rfl ?_
    refine x_le e rfl (fun e => ?_) (fun e => ?_)
    · refine wp_p (j := J_Y_server) 3 (pc' := 187) (lv' := [(2, .int (v2 + 1)), (0, .ref v0)]) (st' := [.int ((v2 + 1) + 1500)]) rfl ?_
      refine x_cs1 (As := [.int ((v2 + 1) + 1500)]) (rest := []) Value.int e rfl rfl rfl rfl rfl (fun h => d_Y_wrong h ⟨rfl, rfl⟩) (fun z5 e => ?_)
      have e := Option.some.inj e; subst e; exact wp_iret (ty := .int) rfl rfl rfl c
    · refine wp_p (j := J_Y_server) 2 (pc' := 193) (lv' := [(3, .int 0), (2, .int (v2 + 1)), (0, .ref v0)]) (st' := []) rfl ?_
      obtain ⟨z8, h7, e⟩ := bd e
      refine wp_lv (lv' := [(0, .ref v0), (2, .int (v2 + 1)), (3, .int 0)]) rfl ⟨rfl, rfl, rfl, trivial⟩ ?_
      refine l_Y_server_193 h7 ?_
      show wp (ab_ext L xs) J_Y_server 219 [(0, .ref v0), (2, .int (v2 + 1)), (3, .int z8)] [] (hp g) Q
      exact wp_lv (lv' := [(0, .ref v0), (2, .int (v2 + 1)), (3, .int z8)]) rfl ⟨rfl, rfl, rfl, trivial⟩ (x_Y_server_219 e c)
noncomputable def k_Y_server_70 (g : g_S) : Option (Int32 × g_S) :=
  (M_Y_wrong 0 g).bind fun z1 =>
  some (z1, g)
set_option maxRecDepth 20000 in
theorem x_Y_server_70 {L : Nat} {xs : Nat → Int32} {Q : Option Value → ab_H → Prop} {g : g_S} {out : Int32 × g_S} (e : k_Y_server_70 g = some out) (c : Q (some (.int out.1)) (hp out.2)) : wp (ab_ext L xs) J_Y_server 70 [] [] (hp g) Q := by
  unfold k_Y_server_70 at e
  refine wp_p (j := J_Y_server) 1 (pc' := 71) (lv' := []) (st' := [.int 0]) rfl ?_
  refine x_cs1 (As := [.int 0]) (rest := []) Value.int e rfl rfl rfl rfl rfl (fun h => d_Y_wrong h ⟨rfl, rfl⟩) (fun z1 e => ?_)
  have e := Option.some.inj e; subst e; exact wp_iret (ty := .int) rfl rfl rfl c
noncomputable def M_Y_server (v0 : Nat) (g : g_S) : Option (Int32 × g_S) :=
  c2 (vc g 112 v0 (M_Y_take v0 g)) fun z1 g2 =>
  if z1 < 0 then
    (vc g2 112 v0 (M_Y_tokenEnd v0 0 g2)).bind fun z3 =>
    if z3 < 2 then
      k_Y_server_70 g2
    else
      (rQ g2 112 v0 2).bind fun z4 =>
      (aI g2 1 z4 0).bind fun z5 =>
      if z5 = 47 then
        (rQ g2 112 v0 2).bind fun z6 =>
        (aI g2 1 z6 1).bind fun z7 =>
        if z7 = 47 then
          (rQ g2 112 v0 2).bind fun z8 =>
          c2 (vc g2 112 v0 (M_Y_refer v0 z8 0 z3 5 g2)) fun z9 g10 =>
          if z9 = 0 then
            k_Y_server_70 g10
          else
            (rQ g10 112 v0 8).bind fun z11 =>
            (aI g10 0 z11 0).bind fun z12 =>
            if 0 < z12 then
              k_Y_server_70 g10
            else
              (vc g10 112 v0 (M_Y_copyRow v0 3 0 g10)).bind fun g13 =>
              (wI g13 112 v0 38 (-1)).bind fun g14 =>
              (wI g14 112 v0 39 0).bind fun g15 =>
              (wI g15 112 v0 41 0).bind fun g16 =>
              (wI g16 112 v0 42 0).bind fun g17 =>
              (L_Y_server_101 v0 z3 g17).bind <|
                us (u2 fun z20 g21 =>
                (M_Y_wrong (z20 + 1) g21).bind fun z22 =>
                some (z22, g21))
                (u2 fun z23 g24 =>
                k_Y_server_151 v0 z23 g24)
        else
          k_Y_server_70 g2
      else
        k_Y_server_70 g2
  else
    (M_Y_wrong z1 g2).bind fun z25 =>
    some (z25, g2)
set_option maxRecDepth 20000 in
theorem d_Y_server {L : Nat} {xs : Nat → Int32} {Q : Option Value → ab_H → Prop} {v0 : Nat} {g : g_S} {out : Int32 × g_S} (e : M_Y_server v0 g = some out) (c : Q (some (.int out.1)) (hp out.2)) : mw (ab_ext L xs) J_Y_server [.ref v0] (hp g) Q := by
  unfold M_Y_server at e
  refine wp_p (j := J_Y_server) 1 (pc' := 1) (lv' := [(0, .ref v0)]) (st' := [.ref v0]) rfl ?_
  refine x_cv2 (As := []) (rest := []) Value.int e rfl rfl rfl rfl rfl rfl (fun h => d_Y_take h ⟨rfl, rfl⟩) (fun z1 g2 e => ?_)
  refine wp_p (j := J_Y_server) 2 (pc' := 6) (lv' := [(1, .int z1), (0, .ref v0)]) (st' := [.int z1]) rfl ?_
  refine z_lt e rfl (fun e => ?_) (fun e => ?_)
  · refine wp_p (j := J_Y_server) 2 (pc' := 16) (lv' := [(1, .int z1), (0, .ref v0)]) (st' := [.int 0, .ref v0]) rfl ?_
    refine x_cv1 (As := [.int 0]) (rest := []) Value.int e rfl rfl rfl rfl rfl rfl (fun h => d_Y_tokenEnd h ⟨rfl, rfl⟩) (fun z3 e => ?_)
    refine wp_p (j := J_Y_server) 3 (pc' := 22) (lv' := [(2, .int z3), (1, .int z1), (0, .ref v0)]) (st' := [.int 2, .int z3]) rfl ?_
    refine x_lt e rfl (fun e => ?_) (fun e => ?_)
    · exact wp_lv (lv' := []) rfl trivial (x_Y_server_70 e c)
    · refine wp_p (j := J_Y_server) 1 (pc' := 26) (lv' := [(2, .int z3), (1, .int z1), (0, .ref v0)]) (st' := [.ref v0]) rfl ?_
      refine x_gQ e rfl rfl fd_12_2 rfl (fun z4 e => ?_)
      refine wp_p (j := J_Y_server) 1 (pc' := 30) (lv' := [(2, .int z3), (1, .int z1), (0, .ref v0)]) (st' := [.int 0, .ref z4]) rfl ?_
      refine x_aB e rfl (.inl rfl) rfl (fun z5 e => ?_)
      refine wp_p (j := J_Y_server) 1 (pc' := 33) (lv' := [(2, .int z3), (1, .int z1), (0, .ref v0)]) (st' := [.int 47, .int z5]) rfl ?_
      refine x_ne e rfl (fun e => ?_) (fun e => ?_)
      · refine wp_p (j := J_Y_server) 1 (pc' := 37) (lv' := [(2, .int z3), (1, .int z1), (0, .ref v0)]) (st' := [.ref v0]) rfl ?_
        refine x_gQ e rfl rfl fd_12_2 rfl (fun z6 e => ?_)
        refine wp_p (j := J_Y_server) 1 (pc' := 41) (lv' := [(2, .int z3), (1, .int z1), (0, .ref v0)]) (st' := [.int 1, .ref z6]) rfl ?_
        refine x_aB e rfl (.inl rfl) rfl (fun z7 e => ?_)
        refine wp_p (j := J_Y_server) 1 (pc' := 44) (lv' := [(2, .int z3), (1, .int z1), (0, .ref v0)]) (st' := [.int 47, .int z7]) rfl ?_
        refine x_ne e rfl (fun e => ?_) (fun e => ?_)
        · refine wp_p (j := J_Y_server) 2 (pc' := 49) (lv' := [(2, .int z3), (1, .int z1), (0, .ref v0)]) (st' := [.ref v0, .ref v0]) rfl ?_
          refine x_gQ e rfl rfl fd_12_2 rfl (fun z8 e => ?_)
          refine wp_p (j := J_Y_server) 3 (pc' := 55) (lv' := [(2, .int z3), (1, .int z1), (0, .ref v0)]) (st' := [.int 5, .int z3, .int 0, .ref z8, .ref v0]) rfl ?_
          refine x_cv2 (As := [.ref z8, .int 0, .int z3, .int 5]) (rest := []) Value.int e rfl rfl rfl rfl rfl rfl (fun h => d_Y_refer h ⟨rfl, rfl⟩) (fun z9 g10 e => ?_)
          refine z_eq e rfl (fun e => ?_) (fun e => ?_)
          · exact wp_lv (lv' := []) rfl trivial (x_Y_server_70 e c)
          · refine wp_p (j := J_Y_server) 1 (pc' := 62) (lv' := [(2, .int z3), (1, .int z1), (0, .ref v0)]) (st' := [.ref v0]) rfl ?_
            refine x_gQ e rfl rfl fd_12_8 rfl (fun z11 e => ?_)
            refine wp_p (j := J_Y_server) 1 (pc' := 66) (lv' := [(2, .int z3), (1, .int z1), (0, .ref v0)]) (st' := [.int 0, .ref z11]) rfl ?_
            refine x_aI e rfl rfl (fun z12 e => ?_)
            refine z_le e rfl (fun e => ?_) (fun e => ?_)
            · exact wp_lv (lv' := []) rfl trivial (x_Y_server_70 e c)
            · refine wp_p (j := J_Y_server) 3 (pc' := 78) (lv' := [(2, .int z3), (1, .int z1), (0, .ref v0)]) (st' := [.int 0, .int 3, .ref v0]) rfl ?_
              refine x_cv0 (As := [.int 3, .int 0]) (rest := []) e rfl rfl rfl rfl rfl rfl (fun h => d_Y_copyRow h ⟨rfl, rfl⟩) (fun g13 e => ?_)
              refine wp_p (j := J_Y_server) 2 (pc' := 83) (lv' := [(2, .int z3), (1, .int z1), (0, .ref v0)]) (st' := [.int (-1), .ref v0]) rfl ?_
              refine x_pI e rfl rfl fw_12_38 rfl (fun g14 e => ?_)
              refine wp_p (j := J_Y_server) 2 (pc' := 88) (lv' := [(2, .int z3), (1, .int z1), (0, .ref v0)]) (st' := [.int 0, .ref v0]) rfl ?_
              refine x_pI e rfl rfl fw_12_39 rfl (fun g15 e => ?_)
              refine wp_p (j := J_Y_server) 2 (pc' := 93) (lv' := [(2, .int z3), (1, .int z1), (0, .ref v0)]) (st' := [.int 0, .ref v0]) rfl ?_
              refine x_pI e rfl rfl fw_12_41 rfl (fun g16 e => ?_)
              refine wp_p (j := J_Y_server) 2 (pc' := 98) (lv' := [(2, .int z3), (1, .int z1), (0, .ref v0)]) (st' := [.int 0, .ref v0]) rfl ?_
              refine x_pI e rfl rfl fw_12_42 rfl (fun g17 e => ?_)
              obtain ⟨s18, h19, e⟩ := bd e
              refine wp_lv (lv' := [(0, .ref v0), (2, .int z3)]) rfl ⟨rfl, rfl, trivial⟩ ?_
              refine l_Y_server_101 h19 ?_
              rcases s18 with ⟨z20, g21⟩ | ⟨z23, g24⟩
              · replace e := (u2_e (us_l e))
                show wp (ab_ext L xs) J_Y_server 139 [(2, .int z20)] [] (hp g21) Q
                refine wp_p (j := J_Y_server) 3 (pc' := 142) (lv' := [(2, .int z20)]) (st' := [.int (z20 + 1)]) rfl ?_
                refine x_cs1 (As := [.int (z20 + 1)]) (rest := []) Value.int e rfl rfl rfl rfl rfl (fun h => d_Y_wrong h ⟨rfl, rfl⟩) (fun z22 e => ?_)
                have e := Option.some.inj e; subst e; exact wp_iret (ty := .int) rfl rfl rfl c
              · replace e := (u2_e (us_r e))
                show wp (ab_ext L xs) J_Y_server 151 [(0, .ref v0), (2, .int z23)] [] (hp g24) Q
                exact wp_lv (lv' := [(0, .ref v0), (2, .int z23)]) rfl ⟨rfl, rfl, trivial⟩ (x_Y_server_151 e c)
        · exact wp_lv (lv' := []) rfl trivial (x_Y_server_70 e c)
      · exact wp_lv (lv' := []) rfl trivial (x_Y_server_70 e c)
  · refine wp_p (j := J_Y_server) 1 (pc' := 10) (lv' := [(1, .int z1), (0, .ref v0)]) (st' := [.int z1]) rfl ?_
    refine x_cs1 (As := [.int z1]) (rest := []) Value.int e rfl rfl rfl rfl rfl (fun h => d_Y_wrong h ⟨rfl, rfl⟩) (fun z25 e => ?_)
    have e := Option.some.inj e; subst e; exact wp_iret (ty := .int) rfl rfl rfl c
noncomputable def M_Y_there (v0 : Nat) (v1 : Int32) (g : g_S) : Option Int32 :=
  if v1 < 0 then
    some 0
  else
    if v1 < 120 then
      (rQ g 112 v0 45).bind fun z1 =>
      (aI g 2 z1 v1).bind fun z2 =>
      if z2 = 0 then
        some 0
      else
        some 1
    else
      some 0
set_option maxRecDepth 20000 in
theorem d_Y_there {L : Nat} {xs : Nat → Int32} {Q : Option Value → ab_H → Prop} {v0 : Nat} {v1 : Int32} {g : g_S} {out : Int32} (e : M_Y_there v0 v1 g = some out) (c : Q (some (.int out)) (hp g)) : mw (ab_ext L xs) J_Y_there [.ref v0, .int v1] (hp g) Q := by
  unfold M_Y_there at e
  refine wp_p (j := J_Y_there) 1 (pc' := 1) (lv' := [(0, .ref v0), (1, .int v1)]) (st' := [.int v1]) rfl ?_
  refine z_lt e rfl (fun e => ?_) (fun e => ?_)
  · refine wp_p (j := J_Y_there) 1 (pc' := 24) (lv' := [(0, .ref v0), (1, .int v1)]) (st' := [.int 0]) rfl ?_
    have e := Option.some.inj e; subst e; exact wp_iret (ty := .boolean) rfl rfl (by decide) c
  · refine wp_p (j := J_Y_there) 2 (pc' := 7) (lv' := [(0, .ref v0), (1, .int v1)]) (st' := [.int 120, .int v1]) rfl ?_
    refine x_ge e rfl (fun e => ?_) (fun e => ?_)
    · refine wp_p (j := J_Y_there) 1 (pc' := 11) (lv' := [(0, .ref v0), (1, .int v1)]) (st' := [.ref v0]) rfl ?_
      refine x_gQ e rfl rfl fd_12_45 rfl (fun z1 e => ?_)
      refine wp_p (j := J_Y_there) 1 (pc' := 15) (lv' := [(0, .ref v0), (1, .int v1)]) (st' := [.int v1, .ref z1]) rfl ?_
      refine x_aB e rfl (.inr rfl) rfl (fun z2 e => ?_)
      refine z_eq e rfl (fun e => ?_) (fun e => ?_)
      · refine wp_p (j := J_Y_there) 1 (pc' := 24) (lv' := [(0, .ref v0), (1, .int v1)]) (st' := [.int 0]) rfl ?_
        have e := Option.some.inj e; subst e; exact wp_iret (ty := .boolean) rfl rfl (by decide) c
      · refine wp_p (j := J_Y_there) 2 (pc' := 24) (lv' := [(0, .ref v0), (1, .int v1)]) (st' := [.int 1]) rfl ?_
        have e := Option.some.inj e; subst e; exact wp_iret (ty := .boolean) rfl rfl (by decide) c
    · refine wp_p (j := J_Y_there) 1 (pc' := 24) (lv' := [(0, .ref v0), (1, .int v1)]) (st' := [.int 0]) rfl ?_
      have e := Option.some.inj e; subst e; exact wp_iret (ty := .boolean) rfl rfl (by decide) c
noncomputable def M_Y_say (v0 : Nat) (v1 : Int32) (g : g_S) : Option g_S :=
  (rI g 112 v0 5).bind fun z1 =>
  if z1 < 8000 then
    (rQ g 112 v0 4).bind fun z2 =>
    (rI g 112 v0 5).bind fun z3 =>
    (sB g z2 z3 ((Int32.toInt8 v1).toInt32)).bind fun g4 =>
    (rI g4 112 v0 5).bind fun z5 =>
    (wI g4 112 v0 5 (z5 + 1)).bind fun g6 =>
    some g6
  else
    some g
set_option maxRecDepth 20000 in
theorem d_Y_say {L : Nat} {xs : Nat → Int32} {Q : Option Value → ab_H → Prop} {v0 : Nat} {v1 : Int32} {g : g_S} {out : g_S} (e : M_Y_say v0 v1 g = some out) (c : Q none (hp out)) : mw (ab_ext L xs) J_Y_say [.ref v0, .int v1] (hp g) Q := by
  unfold M_Y_say at e
  refine wp_p (j := J_Y_say) 1 (pc' := 1) (lv' := [(0, .ref v0), (1, .int v1)]) (st' := [.ref v0]) rfl ?_
  refine x_gI e rfl rfl fd_12_5 rfl (fun z1 e => ?_)
  refine wp_p (j := J_Y_say) 1 (pc' := 7) (lv' := [(0, .ref v0), (1, .int v1)]) (st' := [.int 8000, .int z1]) rfl ?_
  refine x_ge e rfl (fun e => ?_) (fun e => ?_)
  · refine wp_p (j := J_Y_say) 1 (pc' := 11) (lv' := [(0, .ref v0), (1, .int v1)]) (st' := [.ref v0]) rfl ?_
    refine x_gQ e rfl rfl fd_12_4 rfl (fun z2 e => ?_)
    refine wp_p (j := J_Y_say) 1 (pc' := 15) (lv' := [(0, .ref v0), (1, .int v1)]) (st' := [.ref v0, .ref z2]) rfl ?_
    refine x_gI e rfl rfl fd_12_5 rfl (fun z3 e => ?_)
    refine wp_p (j := J_Y_say) 2 (pc' := 20) (lv' := [(0, .ref v0), (1, .int v1)]) (st' := [.int ((Int32.toInt8 v1).toInt32), .int z3, .ref z2]) rfl ?_
    refine x_sB e rfl rfl (fun g4 e => ?_)
    refine wp_p (j := J_Y_say) 2 (pc' := 23) (lv' := [(0, .ref v0), (1, .int v1)]) (st' := [.ref v0, .ref v0]) rfl ?_
    refine x_gI e rfl rfl fd_12_5 rfl (fun z5 e => ?_)
    refine wp_p (j := J_Y_say) 2 (pc' := 28) (lv' := [(0, .ref v0), (1, .int v1)]) (st' := [.int (z5 + 1), .ref v0]) rfl ?_
    refine x_pI e rfl rfl fw_12_5 rfl (fun g6 e => ?_)
    have e := Option.some.inj e; subst e; exact wp_vret rfl rfl c
  · have e := Option.some.inj e; subst e; exact wp_vret rfl rfl c
def cL_Y_sayEscaped_3 (L : Nat) (xs : Nat → Int32) (Q : Option Value → ab_H → Prop) (v0 : Nat) (v1 : Nat) (v2 : Int32) (v3 : Int32) (v4 : Int32) (out : (Int32 × g_S) ⊕ (g_S)) : Prop := match out with
  | .inl s => wp (ab_ext L xs) J_Y_sayEscaped 3 [(0, .ref v0), (1, .ref v1), (2, .int v2), (3, .int v3), (4, .int v4), (5, .int s.1)] [] (hp s.2) Q
  | .inr s => wp (ab_ext L xs) J_Y_sayEscaped 185 [] [] (hp s) Q
noncomputable def k_Y_sayEscaped_173 (v0 : Nat) (v1 : Nat) (v2 : Int32) (v3 : Int32) (v4 : Int32) (v5 : Int32) (g : g_S) : Option ((Int32 × g_S) ⊕ (g_S)) :=
  (vc g 112 v0 (M_Y_say v0 59 g)).bind fun g1 =>
  some (.inl (v5 + 1, g1))
set_option maxRecDepth 20000 in
theorem x_Y_sayEscaped_173 {L : Nat} {xs : Nat → Int32} {Q : Option Value → ab_H → Prop} {v0 : Nat} {v1 : Nat} {v2 : Int32} {v3 : Int32} {v4 : Int32} {v5 : Int32} {g : g_S} {out : (Int32 × g_S) ⊕ (g_S)} (e : k_Y_sayEscaped_173 v0 v1 v2 v3 v4 v5 g = some out) (c : cL_Y_sayEscaped_3 L xs Q v0 v1 v2 v3 v4 out) : wp (ab_ext L xs) J_Y_sayEscaped 173 [(0, .ref v0), (1, .ref v1), (2, .int v2), (3, .int v3), (4, .int v4), (5, .int v5)] [] (hp g) Q := by
  unfold k_Y_sayEscaped_173 at e
  refine wp_p (j := J_Y_sayEscaped) 2 (pc' := 176) (lv' := [(0, .ref v0), (1, .ref v1), (2, .int v2), (3, .int v3), (4, .int v4), (5, .int v5)]) (st' := [.int 59, .ref v0]) rfl ?_
  refine x_cv0 (As := [.int 59]) (rest := []) e rfl rfl rfl rfl rfl rfl (fun h => d_Y_say h ⟨rfl, rfl⟩) (fun g1 e => ?_)
  refine wp_p (j := J_Y_sayEscaped) 2 (pc' := 3) (lv' := [(5, .int (v5 + 1)), (0, .ref v0), (1, .ref v1), (2, .int v2), (3, .int v3), (4, .int v4)]) (st' := []) rfl ?_
  have e := Option.some.inj e; subst e; exact wp_lv (lv' := [(0, .ref v0), (1, .ref v1), (2, .int v2), (3, .int v3), (4, .int v4), (5, .int (v5 + 1))]) rfl ⟨rfl, rfl, rfl, rfl, rfl, rfl, trivial⟩ c
noncomputable def k_Y_sayEscaped_164 (v0 : Nat) (v1 : Nat) (v2 : Int32) (v3 : Int32) (v4 : Int32) (v5 : Int32) (w0 : Int32) (w1 : Nat) (g : g_S) : Option ((Int32 × g_S) ⊕ (g_S)) :=
  (vc g 112 w1 (M_Y_say w1 w0 g)).bind fun g1 =>
  (vc g1 112 v0 (M_Y_say v0 116 g1)).bind fun g2 =>
  k_Y_sayEscaped_173 v0 v1 v2 v3 v4 v5 g2
set_option maxRecDepth 20000 in
theorem x_Y_sayEscaped_164 {L : Nat} {xs : Nat → Int32} {Q : Option Value → ab_H → Prop} {v0 : Nat} {v1 : Nat} {v2 : Int32} {v3 : Int32} {v4 : Int32} {v5 : Int32} {w0 : Int32} {w1 : Nat} {g : g_S} {out : (Int32 × g_S) ⊕ (g_S)} (e : k_Y_sayEscaped_164 v0 v1 v2 v3 v4 v5 w0 w1 g = some out) (c : cL_Y_sayEscaped_3 L xs Q v0 v1 v2 v3 v4 out) : wp (ab_ext L xs) J_Y_sayEscaped 164 [(0, .ref v0), (1, .ref v1), (2, .int v2), (3, .int v3), (4, .int v4), (5, .int v5)] [.int w0, .ref w1] (hp g) Q := by
  unfold k_Y_sayEscaped_164 at e
  refine x_cv0 (As := [.int w0]) (rest := []) e rfl rfl rfl rfl rfl rfl (fun h => d_Y_say h ⟨rfl, rfl⟩) (fun g1 e => ?_)
  refine wp_p (j := J_Y_sayEscaped) 2 (pc' := 170) (lv' := [(0, .ref v0), (1, .ref v1), (2, .int v2), (3, .int v3), (4, .int v4), (5, .int v5)]) (st' := [.int 116, .ref v0]) rfl ?_
  refine x_cv0 (As := [.int 116]) (rest := []) e rfl rfl rfl rfl rfl rfl (fun h => d_Y_say h ⟨rfl, rfl⟩) (fun g2 e => ?_)
  exact wp_lv (lv' := [(0, .ref v0), (1, .ref v1), (2, .int v2), (3, .int v3), (4, .int v4), (5, .int v5)]) rfl ⟨rfl, rfl, rfl, rfl, rfl, rfl, trivial⟩ (x_Y_sayEscaped_173 e c)
noncomputable def k_Y_sayEscaped_130 (v0 : Nat) (v1 : Nat) (v2 : Int32) (v3 : Int32) (v4 : Int32) (v5 : Int32) (v6 : Int32) (w0 : Int32) (w1 : Nat) (g : g_S) : Option ((Int32 × g_S) ⊕ (g_S)) :=
  (vc g 112 w1 (M_Y_say w1 w0 g)).bind fun g1 =>
  if v6 = 34 then
    (vc g1 112 v0 (M_Y_say v0 116 g1)).bind fun g2 =>
    k_Y_sayEscaped_173 v0 v1 v2 v3 v4 v5 g2
  else
    k_Y_sayEscaped_173 v0 v1 v2 v3 v4 v5 g1
set_option maxRecDepth 20000 in
theorem x_Y_sayEscaped_130 {L : Nat} {xs : Nat → Int32} {Q : Option Value → ab_H → Prop} {v0 : Nat} {v1 : Nat} {v2 : Int32} {v3 : Int32} {v4 : Int32} {v5 : Int32} {v6 : Int32} {w0 : Int32} {w1 : Nat} {g : g_S} {out : (Int32 × g_S) ⊕ (g_S)} (e : k_Y_sayEscaped_130 v0 v1 v2 v3 v4 v5 v6 w0 w1 g = some out) (c : cL_Y_sayEscaped_3 L xs Q v0 v1 v2 v3 v4 out) : wp (ab_ext L xs) J_Y_sayEscaped 130 [(0, .ref v0), (1, .ref v1), (2, .int v2), (3, .int v3), (4, .int v4), (5, .int v5), (6, .int v6)] [.int w0, .ref w1] (hp g) Q := by
  unfold k_Y_sayEscaped_130 at e
  refine x_cv0 (As := [.int w0]) (rest := []) e rfl rfl rfl rfl rfl rfl (fun h => d_Y_say h ⟨rfl, rfl⟩) (fun g1 e => ?_)
  refine wp_p (j := J_Y_sayEscaped) 2 (pc' := 137) (lv' := [(0, .ref v0), (1, .ref v1), (2, .int v2), (3, .int v3), (4, .int v4), (5, .int v5), (6, .int v6)]) (st' := [.int 34, .int v6]) rfl ?_
  refine x_ne e rfl (fun e => ?_) (fun e => ?_)
  · refine wp_p (j := J_Y_sayEscaped) 2 (pc' := 143) (lv' := [(0, .ref v0), (1, .ref v1), (2, .int v2), (3, .int v3), (4, .int v4), (5, .int v5), (6, .int v6)]) (st' := [.int 116, .ref v0]) rfl ?_
    refine x_cv0 (As := [.int 116]) (rest := []) e rfl rfl rfl rfl rfl rfl (fun h => d_Y_say h ⟨rfl, rfl⟩) (fun g2 e => ?_)
    refine wp_p (j := J_Y_sayEscaped) 1 (pc' := 173) (lv' := [(0, .ref v0), (1, .ref v1), (2, .int v2), (3, .int v3), (4, .int v4), (5, .int v5), (6, .int v6)]) (st' := []) rfl ?_
    exact wp_lv (lv' := [(0, .ref v0), (1, .ref v1), (2, .int v2), (3, .int v3), (4, .int v4), (5, .int v5)]) rfl ⟨rfl, rfl, rfl, rfl, rfl, rfl, trivial⟩ (x_Y_sayEscaped_173 e c)
  · exact wp_lv (lv' := [(0, .ref v0), (1, .ref v1), (2, .int v2), (3, .int v3), (4, .int v4), (5, .int v5)]) rfl ⟨rfl, rfl, rfl, rfl, rfl, rfl, trivial⟩ (x_Y_sayEscaped_173 e c)
noncomputable def k_Y_sayEscaped_112 (v0 : Nat) (v1 : Nat) (v2 : Int32) (v3 : Int32) (v4 : Int32) (v5 : Int32) (v6 : Int32) (w0 : Int32) (w1 : Nat) (g : g_S) : Option ((Int32 × g_S) ⊕ (g_S)) :=
  (vc g 112 w1 (M_Y_say w1 w0 g)).bind fun g1 =>
  if v6 = 38 then
    k_Y_sayEscaped_130 v0 v1 v2 v3 v4 v5 v6 112 v0 g1
  else
    k_Y_sayEscaped_130 v0 v1 v2 v3 v4 v5 v6 111 v0 g1
set_option maxRecDepth 20000 in
theorem x_Y_sayEscaped_112 {L : Nat} {xs : Nat → Int32} {Q : Option Value → ab_H → Prop} {v0 : Nat} {v1 : Nat} {v2 : Int32} {v3 : Int32} {v4 : Int32} {v5 : Int32} {v6 : Int32} {w0 : Int32} {w1 : Nat} {g : g_S} {out : (Int32 × g_S) ⊕ (g_S)} (e : k_Y_sayEscaped_112 v0 v1 v2 v3 v4 v5 v6 w0 w1 g = some out) (c : cL_Y_sayEscaped_3 L xs Q v0 v1 v2 v3 v4 out) : wp (ab_ext L xs) J_Y_sayEscaped 112 [(0, .ref v0), (1, .ref v1), (2, .int v2), (3, .int v3), (4, .int v4), (5, .int v5), (6, .int v6)] [.int w0, .ref w1] (hp g) Q := by
  unfold k_Y_sayEscaped_112 at e
  refine x_cv0 (As := [.int w0]) (rest := []) e rfl rfl rfl rfl rfl rfl (fun h => d_Y_say h ⟨rfl, rfl⟩) (fun g1 e => ?_)
  refine wp_p (j := J_Y_sayEscaped) 3 (pc' := 120) (lv' := [(0, .ref v0), (1, .ref v1), (2, .int v2), (3, .int v3), (4, .int v4), (5, .int v5), (6, .int v6)]) (st' := [.int 38, .int v6, .ref v0]) rfl ?_
  refine x_ne e rfl (fun e => ?_) (fun e => ?_)
  · refine wp_p (j := J_Y_sayEscaped) 2 (pc' := 130) (lv' := [(0, .ref v0), (1, .ref v1), (2, .int v2), (3, .int v3), (4, .int v4), (5, .int v5), (6, .int v6)]) (st' := [.int 112, .ref v0]) rfl ?_
    exact wp_lv (lv' := [(0, .ref v0), (1, .ref v1), (2, .int v2), (3, .int v3), (4, .int v4), (5, .int v5), (6, .int v6)]) rfl ⟨rfl, rfl, rfl, rfl, rfl, rfl, rfl, trivial⟩ (x_Y_sayEscaped_130 e c)
  · refine wp_p (j := J_Y_sayEscaped) 1 (pc' := 130) (lv' := [(0, .ref v0), (1, .ref v1), (2, .int v2), (3, .int v3), (4, .int v4), (5, .int v5), (6, .int v6)]) (st' := [.int 111, .ref v0]) rfl ?_
    exact wp_lv (lv' := [(0, .ref v0), (1, .ref v1), (2, .int v2), (3, .int v3), (4, .int v4), (5, .int v5), (6, .int v6)]) rfl ⟨rfl, rfl, rfl, rfl, rfl, rfl, rfl, trivial⟩ (x_Y_sayEscaped_130 e c)
noncomputable def k_Y_sayEscaped_94 (v0 : Nat) (v1 : Nat) (v2 : Int32) (v3 : Int32) (v4 : Int32) (v5 : Int32) (v6 : Int32) (w0 : Int32) (w1 : Nat) (g : g_S) : Option ((Int32 × g_S) ⊕ (g_S)) :=
  (vc g 112 w1 (M_Y_say w1 w0 g)).bind fun g1 =>
  if v6 = 38 then
    k_Y_sayEscaped_112 v0 v1 v2 v3 v4 v5 v6 109 v0 g1
  else
    k_Y_sayEscaped_112 v0 v1 v2 v3 v4 v5 v6 117 v0 g1
set_option maxRecDepth 20000 in
theorem x_Y_sayEscaped_94 {L : Nat} {xs : Nat → Int32} {Q : Option Value → ab_H → Prop} {v0 : Nat} {v1 : Nat} {v2 : Int32} {v3 : Int32} {v4 : Int32} {v5 : Int32} {v6 : Int32} {w0 : Int32} {w1 : Nat} {g : g_S} {out : (Int32 × g_S) ⊕ (g_S)} (e : k_Y_sayEscaped_94 v0 v1 v2 v3 v4 v5 v6 w0 w1 g = some out) (c : cL_Y_sayEscaped_3 L xs Q v0 v1 v2 v3 v4 out) : wp (ab_ext L xs) J_Y_sayEscaped 94 [(0, .ref v0), (1, .ref v1), (2, .int v2), (3, .int v3), (4, .int v4), (5, .int v5), (6, .int v6)] [.int w0, .ref w1] (hp g) Q := by
  unfold k_Y_sayEscaped_94 at e
  refine x_cv0 (As := [.int w0]) (rest := []) e rfl rfl rfl rfl rfl rfl (fun h => d_Y_say h ⟨rfl, rfl⟩) (fun g1 e => ?_)
  refine wp_p (j := J_Y_sayEscaped) 3 (pc' := 102) (lv' := [(0, .ref v0), (1, .ref v1), (2, .int v2), (3, .int v3), (4, .int v4), (5, .int v5), (6, .int v6)]) (st' := [.int 38, .int v6, .ref v0]) rfl ?_
  refine x_ne e rfl (fun e => ?_) (fun e => ?_)
  · refine wp_p (j := J_Y_sayEscaped) 2 (pc' := 112) (lv' := [(0, .ref v0), (1, .ref v1), (2, .int v2), (3, .int v3), (4, .int v4), (5, .int v5), (6, .int v6)]) (st' := [.int 109, .ref v0]) rfl ?_
    exact wp_lv (lv' := [(0, .ref v0), (1, .ref v1), (2, .int v2), (3, .int v3), (4, .int v4), (5, .int v5), (6, .int v6)]) rfl ⟨rfl, rfl, rfl, rfl, rfl, rfl, rfl, trivial⟩ (x_Y_sayEscaped_112 e c)
  · refine wp_p (j := J_Y_sayEscaped) 1 (pc' := 112) (lv' := [(0, .ref v0), (1, .ref v1), (2, .int v2), (3, .int v3), (4, .int v4), (5, .int v5), (6, .int v6)]) (st' := [.int 117, .ref v0]) rfl ?_
    exact wp_lv (lv' := [(0, .ref v0), (1, .ref v1), (2, .int v2), (3, .int v3), (4, .int v4), (5, .int v5), (6, .int v6)]) rfl ⟨rfl, rfl, rfl, rfl, rfl, rfl, rfl, trivial⟩ (x_Y_sayEscaped_112 e c)
noncomputable def k_Y_sayEscaped_79 (v0 : Nat) (v1 : Nat) (v2 : Int32) (v3 : Int32) (v4 : Int32) (v5 : Int32) (v6 : Int32) (g : g_S) : Option ((Int32 × g_S) ⊕ (g_S)) :=
  if v6 = 38 then
    k_Y_sayEscaped_94 v0 v1 v2 v3 v4 v5 v6 97 v0 g
  else
    k_Y_sayEscaped_94 v0 v1 v2 v3 v4 v5 v6 113 v0 g
set_option maxRecDepth 20000 in
theorem x_Y_sayEscaped_79 {L : Nat} {xs : Nat → Int32} {Q : Option Value → ab_H → Prop} {v0 : Nat} {v1 : Nat} {v2 : Int32} {v3 : Int32} {v4 : Int32} {v5 : Int32} {v6 : Int32} {g : g_S} {out : (Int32 × g_S) ⊕ (g_S)} (e : k_Y_sayEscaped_79 v0 v1 v2 v3 v4 v5 v6 g = some out) (c : cL_Y_sayEscaped_3 L xs Q v0 v1 v2 v3 v4 out) : wp (ab_ext L xs) J_Y_sayEscaped 79 [(0, .ref v0), (1, .ref v1), (2, .int v2), (3, .int v3), (4, .int v4), (5, .int v5), (6, .int v6)] [] (hp g) Q := by
  unfold k_Y_sayEscaped_79 at e
  refine wp_p (j := J_Y_sayEscaped) 3 (pc' := 84) (lv' := [(0, .ref v0), (1, .ref v1), (2, .int v2), (3, .int v3), (4, .int v4), (5, .int v5), (6, .int v6)]) (st' := [.int 38, .int v6, .ref v0]) rfl ?_
  refine x_ne e rfl (fun e => ?_) (fun e => ?_)
  · refine wp_p (j := J_Y_sayEscaped) 2 (pc' := 94) (lv' := [(0, .ref v0), (1, .ref v1), (2, .int v2), (3, .int v3), (4, .int v4), (5, .int v5), (6, .int v6)]) (st' := [.int 97, .ref v0]) rfl ?_
    exact wp_lv (lv' := [(0, .ref v0), (1, .ref v1), (2, .int v2), (3, .int v3), (4, .int v4), (5, .int v5), (6, .int v6)]) rfl ⟨rfl, rfl, rfl, rfl, rfl, rfl, rfl, trivial⟩ (x_Y_sayEscaped_94 e c)
  · refine wp_p (j := J_Y_sayEscaped) 1 (pc' := 94) (lv' := [(0, .ref v0), (1, .ref v1), (2, .int v2), (3, .int v3), (4, .int v4), (5, .int v5), (6, .int v6)]) (st' := [.int 113, .ref v0]) rfl ?_
    exact wp_lv (lv' := [(0, .ref v0), (1, .ref v1), (2, .int v2), (3, .int v3), (4, .int v4), (5, .int v5), (6, .int v6)]) rfl ⟨rfl, rfl, rfl, rfl, rfl, rfl, rfl, trivial⟩ (x_Y_sayEscaped_94 e c)
noncomputable def k_Y_sayEscaped_59 (v0 : Nat) (v1 : Nat) (v2 : Int32) (v3 : Int32) (v4 : Int32) (v5 : Int32) (v6 : Int32) (g : g_S) : Option ((Int32 × g_S) ⊕ (g_S)) :=
  (vc g 112 v0 (M_Y_say v0 38 g)).bind fun g1 =>
  if v6 = 38 then
    k_Y_sayEscaped_79 v0 v1 v2 v3 v4 v5 v6 g1
  else
    if v6 = 34 then
      k_Y_sayEscaped_79 v0 v1 v2 v3 v4 v5 v6 g1
    else
      if v6 = 60 then
        k_Y_sayEscaped_164 v0 v1 v2 v3 v4 v5 108 v0 g1
      else
        k_Y_sayEscaped_164 v0 v1 v2 v3 v4 v5 103 v0 g1
set_option maxRecDepth 20000 in
theorem x_Y_sayEscaped_59 {L : Nat} {xs : Nat → Int32} {Q : Option Value → ab_H → Prop} {v0 : Nat} {v1 : Nat} {v2 : Int32} {v3 : Int32} {v4 : Int32} {v5 : Int32} {v6 : Int32} {g : g_S} {out : (Int32 × g_S) ⊕ (g_S)} (e : k_Y_sayEscaped_59 v0 v1 v2 v3 v4 v5 v6 g = some out) (c : cL_Y_sayEscaped_3 L xs Q v0 v1 v2 v3 v4 out) : wp (ab_ext L xs) J_Y_sayEscaped 59 [(0, .ref v0), (1, .ref v1), (2, .int v2), (3, .int v3), (4, .int v4), (5, .int v5), (6, .int v6)] [] (hp g) Q := by
  unfold k_Y_sayEscaped_59 at e
  refine wp_p (j := J_Y_sayEscaped) 2 (pc' := 62) (lv' := [(0, .ref v0), (1, .ref v1), (2, .int v2), (3, .int v3), (4, .int v4), (5, .int v5), (6, .int v6)]) (st' := [.int 38, .ref v0]) rfl ?_
  refine x_cv0 (As := [.int 38]) (rest := []) e rfl rfl rfl rfl rfl rfl (fun h => d_Y_say h ⟨rfl, rfl⟩) (fun g1 e => ?_)
  refine wp_p (j := J_Y_sayEscaped) 2 (pc' := 69) (lv' := [(0, .ref v0), (1, .ref v1), (2, .int v2), (3, .int v3), (4, .int v4), (5, .int v5), (6, .int v6)]) (st' := [.int 38, .int v6]) rfl ?_
  refine x_eq e rfl (fun e => ?_) (fun e => ?_)
  · exact wp_lv (lv' := [(0, .ref v0), (1, .ref v1), (2, .int v2), (3, .int v3), (4, .int v4), (5, .int v5), (6, .int v6)]) rfl ⟨rfl, rfl, rfl, rfl, rfl, rfl, rfl, trivial⟩ (x_Y_sayEscaped_79 e c)
  · refine wp_p (j := J_Y_sayEscaped) 2 (pc' := 76) (lv' := [(0, .ref v0), (1, .ref v1), (2, .int v2), (3, .int v3), (4, .int v4), (5, .int v5), (6, .int v6)]) (st' := [.int 34, .int v6]) rfl ?_
    refine x_ne e rfl (fun e => ?_) (fun e => ?_)
    · exact wp_lv (lv' := [(0, .ref v0), (1, .ref v1), (2, .int v2), (3, .int v3), (4, .int v4), (5, .int v5), (6, .int v6)]) rfl ⟨rfl, rfl, rfl, rfl, rfl, rfl, rfl, trivial⟩ (x_Y_sayEscaped_79 e c)
    · refine wp_p (j := J_Y_sayEscaped) 3 (pc' := 154) (lv' := [(0, .ref v0), (1, .ref v1), (2, .int v2), (3, .int v3), (4, .int v4), (5, .int v5), (6, .int v6)]) (st' := [.int 60, .int v6, .ref v0]) rfl ?_
      refine x_ne e rfl (fun e => ?_) (fun e => ?_)
      · refine wp_p (j := J_Y_sayEscaped) 2 (pc' := 164) (lv' := [(0, .ref v0), (1, .ref v1), (2, .int v2), (3, .int v3), (4, .int v4), (5, .int v5), (6, .int v6)]) (st' := [.int 108, .ref v0]) rfl ?_
        exact wp_lv (lv' := [(0, .ref v0), (1, .ref v1), (2, .int v2), (3, .int v3), (4, .int v4), (5, .int v5)]) rfl ⟨rfl, rfl, rfl, rfl, rfl, rfl, trivial⟩ (x_Y_sayEscaped_164 e c)
      · refine wp_p (j := J_Y_sayEscaped) 1 (pc' := 164) (lv' := [(0, .ref v0), (1, .ref v1), (2, .int v2), (3, .int v3), (4, .int v4), (5, .int v5), (6, .int v6)]) (st' := [.int 103, .ref v0]) rfl ?_
        exact wp_lv (lv' := [(0, .ref v0), (1, .ref v1), (2, .int v2), (3, .int v3), (4, .int v4), (5, .int v5)]) rfl ⟨rfl, rfl, rfl, rfl, rfl, rfl, trivial⟩ (x_Y_sayEscaped_164 e c)
noncomputable def k_Y_sayEscaped_50 (v0 : Nat) (v1 : Nat) (v2 : Int32) (v3 : Int32) (v4 : Int32) (v5 : Int32) (v6 : Int32) (g : g_S) : Option ((Int32 × g_S) ⊕ (g_S)) :=
  (vc g 112 v0 (M_Y_say v0 v6 g)).bind fun g1 =>
  some (.inl (v5 + 1, g1))
set_option maxRecDepth 20000 in
theorem x_Y_sayEscaped_50 {L : Nat} {xs : Nat → Int32} {Q : Option Value → ab_H → Prop} {v0 : Nat} {v1 : Nat} {v2 : Int32} {v3 : Int32} {v4 : Int32} {v5 : Int32} {v6 : Int32} {g : g_S} {out : (Int32 × g_S) ⊕ (g_S)} (e : k_Y_sayEscaped_50 v0 v1 v2 v3 v4 v5 v6 g = some out) (c : cL_Y_sayEscaped_3 L xs Q v0 v1 v2 v3 v4 out) : wp (ab_ext L xs) J_Y_sayEscaped 50 [(0, .ref v0), (1, .ref v1), (2, .int v2), (3, .int v3), (4, .int v4), (5, .int v5), (6, .int v6)] [] (hp g) Q := by
  unfold k_Y_sayEscaped_50 at e
  refine wp_p (j := J_Y_sayEscaped) 2 (pc' := 53) (lv' := [(0, .ref v0), (1, .ref v1), (2, .int v2), (3, .int v3), (4, .int v4), (5, .int v5), (6, .int v6)]) (st' := [.int v6, .ref v0]) rfl ?_
  refine x_cv0 (As := [.int v6]) (rest := []) e rfl rfl rfl rfl rfl rfl (fun h => d_Y_say h ⟨rfl, rfl⟩) (fun g1 e => ?_)
  refine wp_p (j := J_Y_sayEscaped) 3 (pc' := 3) (lv' := [(5, .int (v5 + 1)), (0, .ref v0), (1, .ref v1), (2, .int v2), (3, .int v3), (4, .int v4), (6, .int v6)]) (st' := []) rfl ?_
  have e := Option.some.inj e; subst e; exact wp_lv (lv' := [(0, .ref v0), (1, .ref v1), (2, .int v2), (3, .int v3), (4, .int v4), (5, .int (v5 + 1))]) rfl ⟨rfl, rfl, rfl, rfl, rfl, rfl, trivial⟩ c
noncomputable def b_Y_sayEscaped_3 (v0 : Nat) (v1 : Nat) (v2 : Int32) (v3 : Int32) (v4 : Int32) (v5 : Int32) (g : g_S) : Option ((Int32 × g_S) ⊕ (g_S)) :=
  if v5 < v3 then
    (aI g 1 v1 (v2 + v5)).bind fun z1 =>
    if v4 = 0 then
      if z1 = 60 then
        k_Y_sayEscaped_59 v0 v1 v2 v3 v4 v5 z1 g
      else
        if z1 = 62 then
          k_Y_sayEscaped_59 v0 v1 v2 v3 v4 v5 z1 g
        else
          if z1 = 38 then
            k_Y_sayEscaped_59 v0 v1 v2 v3 v4 v5 z1 g
          else
            if z1 = 34 then
              k_Y_sayEscaped_59 v0 v1 v2 v3 v4 v5 z1 g
            else
              k_Y_sayEscaped_50 v0 v1 v2 v3 v4 v5 z1 g
    else
      k_Y_sayEscaped_50 v0 v1 v2 v3 v4 v5 z1 g
  else
    some (.inr g)
set_option maxRecDepth 20000 in
theorem y_Y_sayEscaped_3 {L : Nat} {xs : Nat → Int32} {Q : Option Value → ab_H → Prop} {v0 : Nat} {v1 : Nat} {v2 : Int32} {v3 : Int32} {v4 : Int32} {v5 : Int32} {g : g_S} {out : (Int32 × g_S) ⊕ (g_S)} (e : b_Y_sayEscaped_3 v0 v1 v2 v3 v4 v5 g = some out) (c : cL_Y_sayEscaped_3 L xs Q v0 v1 v2 v3 v4 out) : wp (ab_ext L xs) J_Y_sayEscaped 3 [(0, .ref v0), (1, .ref v1), (2, .int v2), (3, .int v3), (4, .int v4), (5, .int v5)] [] (hp g) Q := by
  unfold b_Y_sayEscaped_3 at e
  refine wp_p (j := J_Y_sayEscaped) 2 (pc' := 6) (lv' := [(0, .ref v0), (1, .ref v1), (2, .int v2), (3, .int v3), (4, .int v4), (5, .int v5)]) (st' := [.int v3, .int v5]) rfl ?_
  refine x_ge e rfl (fun e => ?_) (fun e => ?_)
  · refine wp_p (j := J_Y_sayEscaped) 4 (pc' := 14) (lv' := [(0, .ref v0), (1, .ref v1), (2, .int v2), (3, .int v3), (4, .int v4), (5, .int v5)]) (st' := [.int (v2 + v5), .ref v1]) rfl ?_
    refine x_aB e rfl (.inl rfl) rfl (fun z1 e => ?_)
    refine wp_p (j := J_Y_sayEscaped) 2 (pc' := 19) (lv' := [(6, .int z1), (0, .ref v0), (1, .ref v1), (2, .int v2), (3, .int v3), (4, .int v4), (5, .int v5)]) (st' := [.int v4]) rfl ?_
    refine z_ne e rfl (fun e => ?_) (fun e => ?_)
    · refine wp_p (j := J_Y_sayEscaped) 2 (pc' := 26) (lv' := [(6, .int z1), (0, .ref v0), (1, .ref v1), (2, .int v2), (3, .int v3), (4, .int v4), (5, .int v5)]) (st' := [.int 60, .int z1]) rfl ?_
      refine x_eq e rfl (fun e => ?_) (fun e => ?_)
      · exact wp_lv (lv' := [(0, .ref v0), (1, .ref v1), (2, .int v2), (3, .int v3), (4, .int v4), (5, .int v5), (6, .int z1)]) rfl ⟨rfl, rfl, rfl, rfl, rfl, rfl, rfl, trivial⟩ (x_Y_sayEscaped_59 e c)
      · refine wp_p (j := J_Y_sayEscaped) 2 (pc' := 33) (lv' := [(6, .int z1), (0, .ref v0), (1, .ref v1), (2, .int v2), (3, .int v3), (4, .int v4), (5, .int v5)]) (st' := [.int 62, .int z1]) rfl ?_
        refine x_eq e rfl (fun e => ?_) (fun e => ?_)
        · exact wp_lv (lv' := [(0, .ref v0), (1, .ref v1), (2, .int v2), (3, .int v3), (4, .int v4), (5, .int v5), (6, .int z1)]) rfl ⟨rfl, rfl, rfl, rfl, rfl, rfl, rfl, trivial⟩ (x_Y_sayEscaped_59 e c)
        · refine wp_p (j := J_Y_sayEscaped) 2 (pc' := 40) (lv' := [(6, .int z1), (0, .ref v0), (1, .ref v1), (2, .int v2), (3, .int v3), (4, .int v4), (5, .int v5)]) (st' := [.int 38, .int z1]) rfl ?_
          refine x_eq e rfl (fun e => ?_) (fun e => ?_)
          · exact wp_lv (lv' := [(0, .ref v0), (1, .ref v1), (2, .int v2), (3, .int v3), (4, .int v4), (5, .int v5), (6, .int z1)]) rfl ⟨rfl, rfl, rfl, rfl, rfl, rfl, rfl, trivial⟩ (x_Y_sayEscaped_59 e c)
          · refine wp_p (j := J_Y_sayEscaped) 2 (pc' := 47) (lv' := [(6, .int z1), (0, .ref v0), (1, .ref v1), (2, .int v2), (3, .int v3), (4, .int v4), (5, .int v5)]) (st' := [.int 34, .int z1]) rfl ?_
            refine x_eq e rfl (fun e => ?_) (fun e => ?_)
            · exact wp_lv (lv' := [(0, .ref v0), (1, .ref v1), (2, .int v2), (3, .int v3), (4, .int v4), (5, .int v5), (6, .int z1)]) rfl ⟨rfl, rfl, rfl, rfl, rfl, rfl, rfl, trivial⟩ (x_Y_sayEscaped_59 e c)
            · exact wp_lv (lv' := [(0, .ref v0), (1, .ref v1), (2, .int v2), (3, .int v3), (4, .int v4), (5, .int v5), (6, .int z1)]) rfl ⟨rfl, rfl, rfl, rfl, rfl, rfl, rfl, trivial⟩ (x_Y_sayEscaped_50 e c)
    · exact wp_lv (lv' := [(0, .ref v0), (1, .ref v1), (2, .int v2), (3, .int v3), (4, .int v4), (5, .int v5), (6, .int z1)]) rfl ⟨rfl, rfl, rfl, rfl, rfl, rfl, rfl, trivial⟩ (x_Y_sayEscaped_50 e c)
  · have e := Option.some.inj e; subst e; exact wp_lv (lv' := []) rfl trivial c
noncomputable def L_Y_sayEscaped_3 (v0 : Nat) (v1 : Nat) (v2 : Int32) (v3 : Int32) (v4 : Int32) (v5 : Int32) (g : g_S) : Option (g_S) := it (fun s : Int32 × g_S => b_Y_sayEscaped_3 v0 v1 v2 v3 v4 s.1 s.2) (v5, g)
theorem l_Y_sayEscaped_3 {L : Nat} {xs : Nat → Int32} {Q : Option Value → ab_H → Prop} {v0 : Nat} {v1 : Nat} {v2 : Int32} {v3 : Int32} {v4 : Int32} {v5 : Int32} {g : g_S} {r : g_S} (e : L_Y_sayEscaped_3 v0 v1 v2 v3 v4 v5 g = some r) (c : cL_Y_sayEscaped_3 L xs Q v0 v1 v2 v3 v4 (.inr r)) : wp (ab_ext L xs) J_Y_sayEscaped 3 [(0, .ref v0), (1, .ref v1), (2, .int v2), (3, .int v3), (4, .int v4), (5, .int v5)] [] (hp g) Q :=
  it_wp (P := fun s : Int32 × g_S => wp (ab_ext L xs) J_Y_sayEscaped 3 [(0, .ref v0), (1, .ref v1), (2, .int v2), (3, .int v3), (4, .int v4), (5, .int s.1)] [] (hp s.2) Q) (E := fun r => cL_Y_sayEscaped_3 L xs Q v0 v1 v2 v3 v4 (.inr r)) (fun s out e c => y_Y_sayEscaped_3 e (by cases out <;> exact c)) e c
theorem L_Y_sayEscaped_3_eq (v0 : Nat) (v1 : Nat) (v2 : Int32) (v3 : Int32) (v4 : Int32) (v5 : Int32) (g : g_S) : L_Y_sayEscaped_3 v0 v1 v2 v3 v4 v5 g = itc (b_Y_sayEscaped_3 v0 v1 v2 v3 v4 v5 g) (fun s => L_Y_sayEscaped_3 v0 v1 v2 v3 v4 s.1 s.2) := it_eq2 (fun s : Int32 × g_S => b_Y_sayEscaped_3 v0 v1 v2 v3 v4 s.1 s.2) (v5, g)
noncomputable def M_Y_sayEscaped (v0 : Nat) (v1 : Nat) (v2 : Int32) (v3 : Int32) (v4 : Int32) (g : g_S) : Option g_S :=
  (L_Y_sayEscaped_3 v0 v1 v2 v3 v4 0 g).bind <| fun g3 =>
  some g3
set_option maxRecDepth 20000 in
theorem d_Y_sayEscaped {L : Nat} {xs : Nat → Int32} {Q : Option Value → ab_H → Prop} {v0 : Nat} {v1 : Nat} {v2 : Int32} {v3 : Int32} {v4 : Int32} {g : g_S} {out : g_S} (e : M_Y_sayEscaped v0 v1 v2 v3 v4 g = some out) (c : Q none (hp out)) : mw (ab_ext L xs) J_Y_sayEscaped [.ref v0, .ref v1, .int v2, .int v3, .int v4] (hp g) Q := by
  unfold M_Y_sayEscaped at e
  refine wp_p (j := J_Y_sayEscaped) 2 (pc' := 3) (lv' := [(5, .int 0), (0, .ref v0), (1, .ref v1), (2, .int v2), (3, .int v3), (4, .int v4)]) (st' := []) rfl ?_
  obtain ⟨g3, h2, e⟩ := bd e
  refine wp_lv (lv' := [(0, .ref v0), (1, .ref v1), (2, .int v2), (3, .int v3), (4, .int v4), (5, .int 0)]) rfl ⟨rfl, rfl, rfl, rfl, rfl, rfl, trivial⟩ ?_
  refine l_Y_sayEscaped_3 h2 ?_
  show wp (ab_ext L xs) J_Y_sayEscaped 185 [] [] (hp g3) Q
  have e := Option.some.inj e; subst e; exact wp_vret rfl rfl c
def cL_Y_sayAll_3 (L : Nat) (xs : Nat → Int32) (Q : Option Value → ab_H → Prop) (v0 : Nat) (v1 : Nat) (v2 : Int32) (v3 : Int32) (out : (Int32 × g_S) ⊕ (g_S)) : Prop := match out with
  | .inl s => wp (ab_ext L xs) J_Y_sayAll 3 [(0, .ref v0), (1, .ref v1), (2, .int v2), (3, .int v3), (4, .int s.1)] [] (hp s.2) Q
  | .inr s => wp (ab_ext L xs) J_Y_sayAll 25 [] [] (hp s) Q
noncomputable def b_Y_sayAll_3 (v0 : Nat) (v1 : Nat) (v2 : Int32) (v3 : Int32) (v4 : Int32) (g : g_S) : Option ((Int32 × g_S) ⊕ (g_S)) :=
  if v4 < v3 then
    (aI g 1 v1 (v2 + v4)).bind fun z1 =>
    (vc g 112 v0 (M_Y_say v0 z1 g)).bind fun g2 =>
    some (.inl (v4 + 1, g2))
  else
    some (.inr g)
set_option maxRecDepth 20000 in
theorem y_Y_sayAll_3 {L : Nat} {xs : Nat → Int32} {Q : Option Value → ab_H → Prop} {v0 : Nat} {v1 : Nat} {v2 : Int32} {v3 : Int32} {v4 : Int32} {g : g_S} {out : (Int32 × g_S) ⊕ (g_S)} (e : b_Y_sayAll_3 v0 v1 v2 v3 v4 g = some out) (c : cL_Y_sayAll_3 L xs Q v0 v1 v2 v3 out) : wp (ab_ext L xs) J_Y_sayAll 3 [(0, .ref v0), (1, .ref v1), (2, .int v2), (3, .int v3), (4, .int v4)] [] (hp g) Q := by
  unfold b_Y_sayAll_3 at e
  refine wp_p (j := J_Y_sayAll) 2 (pc' := 6) (lv' := [(0, .ref v0), (1, .ref v1), (2, .int v2), (3, .int v3), (4, .int v4)]) (st' := [.int v3, .int v4]) rfl ?_
  refine x_ge e rfl (fun e => ?_) (fun e => ?_)
  · refine wp_p (j := J_Y_sayAll) 5 (pc' := 15) (lv' := [(0, .ref v0), (1, .ref v1), (2, .int v2), (3, .int v3), (4, .int v4)]) (st' := [.int (v2 + v4), .ref v1, .ref v0]) rfl ?_
    refine x_aB e rfl (.inl rfl) rfl (fun z1 e => ?_)
    refine x_cv0 (As := [.int z1]) (rest := []) e rfl rfl rfl rfl rfl rfl (fun h => d_Y_say h ⟨rfl, rfl⟩) (fun g2 e => ?_)
    refine wp_p (j := J_Y_sayAll) 2 (pc' := 3) (lv' := [(4, .int (v4 + 1)), (0, .ref v0), (1, .ref v1), (2, .int v2), (3, .int v3)]) (st' := []) rfl ?_
    have e := Option.some.inj e; subst e; exact wp_lv (lv' := [(0, .ref v0), (1, .ref v1), (2, .int v2), (3, .int v3), (4, .int (v4 + 1))]) rfl ⟨rfl, rfl, rfl, rfl, rfl, trivial⟩ c
  · have e := Option.some.inj e; subst e; exact wp_lv (lv' := []) rfl trivial c
noncomputable def L_Y_sayAll_3 (v0 : Nat) (v1 : Nat) (v2 : Int32) (v3 : Int32) (v4 : Int32) (g : g_S) : Option (g_S) := it (fun s : Int32 × g_S => b_Y_sayAll_3 v0 v1 v2 v3 s.1 s.2) (v4, g)
theorem l_Y_sayAll_3 {L : Nat} {xs : Nat → Int32} {Q : Option Value → ab_H → Prop} {v0 : Nat} {v1 : Nat} {v2 : Int32} {v3 : Int32} {v4 : Int32} {g : g_S} {r : g_S} (e : L_Y_sayAll_3 v0 v1 v2 v3 v4 g = some r) (c : cL_Y_sayAll_3 L xs Q v0 v1 v2 v3 (.inr r)) : wp (ab_ext L xs) J_Y_sayAll 3 [(0, .ref v0), (1, .ref v1), (2, .int v2), (3, .int v3), (4, .int v4)] [] (hp g) Q :=
  it_wp (P := fun s : Int32 × g_S => wp (ab_ext L xs) J_Y_sayAll 3 [(0, .ref v0), (1, .ref v1), (2, .int v2), (3, .int v3), (4, .int s.1)] [] (hp s.2) Q) (E := fun r => cL_Y_sayAll_3 L xs Q v0 v1 v2 v3 (.inr r)) (fun s out e c => y_Y_sayAll_3 e (by cases out <;> exact c)) e c
theorem L_Y_sayAll_3_eq (v0 : Nat) (v1 : Nat) (v2 : Int32) (v3 : Int32) (v4 : Int32) (g : g_S) : L_Y_sayAll_3 v0 v1 v2 v3 v4 g = itc (b_Y_sayAll_3 v0 v1 v2 v3 v4 g) (fun s => L_Y_sayAll_3 v0 v1 v2 v3 s.1 s.2) := it_eq2 (fun s : Int32 × g_S => b_Y_sayAll_3 v0 v1 v2 v3 s.1 s.2) (v4, g)
noncomputable def M_Y_sayAll (v0 : Nat) (v1 : Nat) (v2 : Int32) (v3 : Int32) (g : g_S) : Option g_S :=
  (L_Y_sayAll_3 v0 v1 v2 v3 0 g).bind <| fun g3 =>
  some g3
set_option maxRecDepth 20000 in
theorem d_Y_sayAll {L : Nat} {xs : Nat → Int32} {Q : Option Value → ab_H → Prop} {v0 : Nat} {v1 : Nat} {v2 : Int32} {v3 : Int32} {g : g_S} {out : g_S} (e : M_Y_sayAll v0 v1 v2 v3 g = some out) (c : Q none (hp out)) : mw (ab_ext L xs) J_Y_sayAll [.ref v0, .ref v1, .int v2, .int v3] (hp g) Q := by
  unfold M_Y_sayAll at e
  refine wp_p (j := J_Y_sayAll) 2 (pc' := 3) (lv' := [(4, .int 0), (0, .ref v0), (1, .ref v1), (2, .int v2), (3, .int v3)]) (st' := []) rfl ?_
  obtain ⟨g3, h2, e⟩ := bd e
  refine wp_lv (lv' := [(0, .ref v0), (1, .ref v1), (2, .int v2), (3, .int v3), (4, .int 0)]) rfl ⟨rfl, rfl, rfl, rfl, rfl, trivial⟩ ?_
  refine l_Y_sayAll_3 h2 ?_
  show wp (ab_ext L xs) J_Y_sayAll 25 [] [] (hp g3) Q
  have e := Option.some.inj e; subst e; exact wp_vret rfl rfl c
def cL_Y_sayBegin_28 (L : Nat) (xs : Nat → Int32) (Q : Option Value → ab_H → Prop) (v0 : Nat) (v1 : Int32) (out : (Int32 × g_S) ⊕ (g_S)) : Prop := match out with
  | .inl s => wp (ab_ext L xs) J_Y_sayBegin 28 [(0, .ref v0), (1, .int v1), (2, .int s.1)] [] (hp s.2) Q
  | .inr s => wp (ab_ext L xs) J_Y_sayBegin 109 [(0, .ref v0)] [] (hp s) Q
noncomputable def b_Y_sayBegin_28 (v0 : Nat) (v1 : Int32) (v2 : Int32) (g : g_S) : Option ((Int32 × g_S) ⊕ (g_S)) :=
  (rQ g 112 v0 56).bind fun z1 =>
  (aI g 0 z1 v1).bind fun z2 =>
  if v2 < ((4 * v1) + z2) then
    (vc g 112 v0 (M_Y_say v0 32 g)).bind fun g3 =>
    (rQ g3 112 v0 57).bind fun z4 =>
    (rQ g3 112 v0 58).bind fun z5 =>
    (aI g3 0 z5 v2).bind fun z6 =>
    (vc g3 112 v0 (M_Y_sayAll v0 z4 (8 * v2) z6 g3)).bind fun g7 =>
    (vc g7 112 v0 (M_Y_say v0 61 g7)).bind fun g8 =>
    (vc g8 112 v0 (M_Y_say v0 34 g8)).bind fun g9 =>
    (rQ g9 112 v0 59).bind fun z10 =>
    (rQ g9 112 v0 60).bind fun z11 =>
    (aI g9 0 z11 v2).bind fun z12 =>
    (vc g9 112 v0 (M_Y_sayEscaped v0 z10 (60 * v2) z12 0 g9)).bind fun g13 =>
    (vc g13 112 v0 (M_Y_say v0 34 g13)).bind fun g14 =>
    some (.inl (v2 + 1, g14))
  else
    some (.inr g)
set_option maxRecDepth 20000 in
theorem y_Y_sayBegin_28 {L : Nat} {xs : Nat → Int32} {Q : Option Value → ab_H → Prop} {v0 : Nat} {v1 : Int32} {v2 : Int32} {g : g_S} {out : (Int32 × g_S) ⊕ (g_S)} (e : b_Y_sayBegin_28 v0 v1 v2 g = some out) (c : cL_Y_sayBegin_28 L xs Q v0 v1 out) : wp (ab_ext L xs) J_Y_sayBegin 28 [(0, .ref v0), (1, .int v1), (2, .int v2)] [] (hp g) Q := by
  unfold b_Y_sayBegin_28 at e
  refine wp_p (j := J_Y_sayBegin) 5 (pc' := 33) (lv' := [(0, .ref v0), (1, .int v1), (2, .int v2)]) (st' := [.ref v0, .int (4 * v1), .int v2]) rfl ?_
  refine x_gQ e rfl rfl fd_12_56 rfl (fun z1 e => ?_)
  refine wp_p (j := J_Y_sayBegin) 1 (pc' := 37) (lv' := [(0, .ref v0), (1, .int v1), (2, .int v2)]) (st' := [.int v1, .ref z1, .int (4 * v1), .int v2]) rfl ?_
  refine x_aI e rfl rfl (fun z2 e => ?_)
  refine wp_p (j := J_Y_sayBegin) 1 (pc' := 39) (lv' := [(0, .ref v0), (1, .int v1), (2, .int v2)]) (st' := [.int ((4 * v1) + z2), .int v2]) rfl ?_
  refine x_ge e rfl (fun e => ?_) (fun e => ?_)
  · refine wp_p (j := J_Y_sayBegin) 2 (pc' := 45) (lv' := [(0, .ref v0), (1, .int v1), (2, .int v2)]) (st' := [.int 32, .ref v0]) rfl ?_
    refine x_cv0 (As := [.int 32]) (rest := []) e rfl rfl rfl rfl rfl rfl (fun h => d_Y_say h ⟨rfl, rfl⟩) (fun g3 e => ?_)
    refine wp_p (j := J_Y_sayBegin) 2 (pc' := 50) (lv' := [(0, .ref v0), (1, .int v1), (2, .int v2)]) (st' := [.ref v0, .ref v0]) rfl ?_
    refine x_gQ e rfl rfl fd_12_57 rfl (fun z4 e => ?_)
    refine wp_p (j := J_Y_sayBegin) 4 (pc' := 58) (lv' := [(0, .ref v0), (1, .int v1), (2, .int v2)]) (st' := [.ref v0, .int (8 * v2), .ref z4, .ref v0]) rfl ?_
    refine x_gQ e rfl rfl fd_12_58 rfl (fun z5 e => ?_)
    refine wp_p (j := J_Y_sayBegin) 1 (pc' := 62) (lv' := [(0, .ref v0), (1, .int v1), (2, .int v2)]) (st' := [.int v2, .ref z5, .int (8 * v2), .ref z4, .ref v0]) rfl ?_
    refine x_aI e rfl rfl (fun z6 e => ?_)
    refine x_cv0 (As := [.ref z4, .int (8 * v2), .int z6]) (rest := []) e rfl rfl rfl rfl rfl rfl (fun h => d_Y_sayAll h ⟨rfl, rfl⟩) (fun g7 e => ?_)
    refine wp_p (j := J_Y_sayBegin) 2 (pc' := 69) (lv' := [(0, .ref v0), (1, .int v1), (2, .int v2)]) (st' := [.int 61, .ref v0]) rfl ?_
    refine x_cv0 (As := [.int 61]) (rest := []) e rfl rfl rfl rfl rfl rfl (fun h => d_Y_say h ⟨rfl, rfl⟩) (fun g8 e => ?_)
    refine wp_p (j := J_Y_sayBegin) 2 (pc' := 75) (lv' := [(0, .ref v0), (1, .int v1), (2, .int v2)]) (st' := [.int 34, .ref v0]) rfl ?_
    refine x_cv0 (As := [.int 34]) (rest := []) e rfl rfl rfl rfl rfl rfl (fun h => d_Y_say h ⟨rfl, rfl⟩) (fun g9 e => ?_)
    refine wp_p (j := J_Y_sayBegin) 2 (pc' := 80) (lv' := [(0, .ref v0), (1, .int v1), (2, .int v2)]) (st' := [.ref v0, .ref v0]) rfl ?_
    refine x_gQ e rfl rfl fd_12_59 rfl (fun z10 e => ?_)
    refine wp_p (j := J_Y_sayBegin) 4 (pc' := 88) (lv' := [(0, .ref v0), (1, .int v1), (2, .int v2)]) (st' := [.ref v0, .int (60 * v2), .ref z10, .ref v0]) rfl ?_
    refine x_gQ e rfl rfl fd_12_60 rfl (fun z11 e => ?_)
    refine wp_p (j := J_Y_sayBegin) 1 (pc' := 92) (lv' := [(0, .ref v0), (1, .int v1), (2, .int v2)]) (st' := [.int v2, .ref z11, .int (60 * v2), .ref z10, .ref v0]) rfl ?_
    refine x_aI e rfl rfl (fun z12 e => ?_)
    refine wp_p (j := J_Y_sayBegin) 1 (pc' := 94) (lv' := [(0, .ref v0), (1, .int v1), (2, .int v2)]) (st' := [.int 0, .int z12, .int (60 * v2), .ref z10, .ref v0]) rfl ?_
    refine x_cv0 (As := [.ref z10, .int (60 * v2), .int z12, .int 0]) (rest := []) e rfl rfl rfl rfl rfl rfl (fun h => d_Y_sayEscaped h ⟨rfl, rfl⟩) (fun g13 e => ?_)
    refine wp_p (j := J_Y_sayBegin) 2 (pc' := 100) (lv' := [(0, .ref v0), (1, .int v1), (2, .int v2)]) (st' := [.int 34, .ref v0]) rfl ?_
    refine x_cv0 (As := [.int 34]) (rest := []) e rfl rfl rfl rfl rfl rfl (fun h => d_Y_say h ⟨rfl, rfl⟩) (fun g14 e => ?_)
    refine wp_p (j := J_Y_sayBegin) 2 (pc' := 28) (lv' := [(2, .int (v2 + 1)), (0, .ref v0), (1, .int v1)]) (st' := []) rfl ?_
    have e := Option.some.inj e; subst e; exact wp_lv (lv' := [(0, .ref v0), (1, .int v1), (2, .int (v2 + 1))]) rfl ⟨rfl, rfl, rfl, trivial⟩ c
  · have e := Option.some.inj e; subst e; exact wp_lv (lv' := [(0, .ref v0)]) rfl ⟨rfl, trivial⟩ c
noncomputable def L_Y_sayBegin_28 (v0 : Nat) (v1 : Int32) (v2 : Int32) (g : g_S) : Option (g_S) := it (fun s : Int32 × g_S => b_Y_sayBegin_28 v0 v1 s.1 s.2) (v2, g)
theorem l_Y_sayBegin_28 {L : Nat} {xs : Nat → Int32} {Q : Option Value → ab_H → Prop} {v0 : Nat} {v1 : Int32} {v2 : Int32} {g : g_S} {r : g_S} (e : L_Y_sayBegin_28 v0 v1 v2 g = some r) (c : cL_Y_sayBegin_28 L xs Q v0 v1 (.inr r)) : wp (ab_ext L xs) J_Y_sayBegin 28 [(0, .ref v0), (1, .int v1), (2, .int v2)] [] (hp g) Q :=
  it_wp (P := fun s : Int32 × g_S => wp (ab_ext L xs) J_Y_sayBegin 28 [(0, .ref v0), (1, .int v1), (2, .int s.1)] [] (hp s.2) Q) (E := fun r => cL_Y_sayBegin_28 L xs Q v0 v1 (.inr r)) (fun s out e c => y_Y_sayBegin_28 e (by cases out <;> exact c)) e c
theorem L_Y_sayBegin_28_eq (v0 : Nat) (v1 : Int32) (v2 : Int32) (g : g_S) : L_Y_sayBegin_28 v0 v1 v2 g = itc (b_Y_sayBegin_28 v0 v1 v2 g) (fun s => L_Y_sayBegin_28 v0 v1 s.1 s.2) := it_eq2 (fun s : Int32 × g_S => b_Y_sayBegin_28 v0 v1 s.1 s.2) (v2, g)
noncomputable def M_Y_sayBegin (v0 : Nat) (v1 : Int32) (g : g_S) : Option g_S :=
  (vc g 112 v0 (M_Y_say v0 60 g)).bind fun g1 =>
  (rQ g1 112 v0 47).bind fun z2 =>
  (rQ g1 112 v0 48).bind fun z3 =>
  (aI g1 0 z3 v1).bind fun z4 =>
  (vc g1 112 v0 (M_Y_sayAll v0 z2 (8 * v1) z4 g1)).bind fun g5 =>
  (L_Y_sayBegin_28 v0 v1 (4 * v1) g5).bind <| fun g8 =>
  (vc g8 112 v0 (M_Y_say v0 62 g8)).bind fun g9 =>
  some g9
set_option maxRecDepth 20000 in
theorem d_Y_sayBegin {L : Nat} {xs : Nat → Int32} {Q : Option Value → ab_H → Prop} {v0 : Nat} {v1 : Int32} {g : g_S} {out : g_S} (e : M_Y_sayBegin v0 v1 g = some out) (c : Q none (hp out)) : mw (ab_ext L xs) J_Y_sayBegin [.ref v0, .int v1] (hp g) Q := by
  unfold M_Y_sayBegin at e
  refine wp_p (j := J_Y_sayBegin) 2 (pc' := 3) (lv' := [(0, .ref v0), (1, .int v1)]) (st' := [.int 60, .ref v0]) rfl ?_
  refine x_cv0 (As := [.int 60]) (rest := []) e rfl rfl rfl rfl rfl rfl (fun h => d_Y_say h ⟨rfl, rfl⟩) (fun g1 e => ?_)
  refine wp_p (j := J_Y_sayBegin) 2 (pc' := 8) (lv' := [(0, .ref v0), (1, .int v1)]) (st' := [.ref v0, .ref v0]) rfl ?_
  refine x_gQ e rfl rfl fd_12_47 rfl (fun z2 e => ?_)
  refine wp_p (j := J_Y_sayBegin) 4 (pc' := 16) (lv' := [(0, .ref v0), (1, .int v1)]) (st' := [.ref v0, .int (8 * v1), .ref z2, .ref v0]) rfl ?_
  refine x_gQ e rfl rfl fd_12_48 rfl (fun z3 e => ?_)
  refine wp_p (j := J_Y_sayBegin) 1 (pc' := 20) (lv' := [(0, .ref v0), (1, .int v1)]) (st' := [.int v1, .ref z3, .int (8 * v1), .ref z2, .ref v0]) rfl ?_
  refine x_aI e rfl rfl (fun z4 e => ?_)
  refine x_cv0 (As := [.ref z2, .int (8 * v1), .int z4]) (rest := []) e rfl rfl rfl rfl rfl rfl (fun h => d_Y_sayAll h ⟨rfl, rfl⟩) (fun g5 e => ?_)
  refine wp_p (j := J_Y_sayBegin) 4 (pc' := 28) (lv' := [(2, .int (4 * v1)), (0, .ref v0), (1, .int v1)]) (st' := []) rfl ?_
  obtain ⟨g8, h7, e⟩ := bd e
  refine wp_lv (lv' := [(0, .ref v0), (1, .int v1), (2, .int (4 * v1))]) rfl ⟨rfl, rfl, rfl, trivial⟩ ?_
  refine l_Y_sayBegin_28 h7 ?_
  show wp (ab_ext L xs) J_Y_sayBegin 109 [(0, .ref v0)] [] (hp g8) Q
  refine wp_p (j := J_Y_sayBegin) 2 (pc' := 112) (lv' := [(0, .ref v0)]) (st' := [.int 62, .ref v0]) rfl ?_
  refine x_cv0 (As := [.int 62]) (rest := []) e rfl rfl rfl rfl rfl rfl (fun h => d_Y_say h ⟨rfl, rfl⟩) (fun g9 e => ?_)
  have e := Option.some.inj e; subst e; exact wp_vret rfl rfl c
noncomputable def M_Y_isEmptyTag (v0 : Int32) (g : g_S) : Option Int32 :=
  if v0 < 10 then
    some 0
  else
    if 13 < v0 then
      some 0
    else
      some 1
set_option maxRecDepth 20000 in
theorem d_Y_isEmptyTag {L : Nat} {xs : Nat → Int32} {Q : Option Value → ab_H → Prop} {v0 : Int32} {g : g_S} {out : Int32} (e : M_Y_isEmptyTag v0 g = some out) (c : Q (some (.int out)) (hp g)) : mw (ab_ext L xs) J_Y_isEmptyTag [.int v0] (hp g) Q := by
  unfold M_Y_isEmptyTag at e
  refine wp_p (j := J_Y_isEmptyTag) 2 (pc' := 3) (lv' := [(0, .int v0)]) (st' := [.int 10, .int v0]) rfl ?_
  refine x_lt e rfl (fun e => ?_) (fun e => ?_)
  · refine wp_p (j := J_Y_isEmptyTag) 1 (pc' := 17) (lv' := [(0, .int v0)]) (st' := [.int 0]) rfl ?_
    have e := Option.some.inj e; subst e; exact wp_iret (ty := .boolean) rfl rfl (by decide) c
  · refine wp_p (j := J_Y_isEmptyTag) 2 (pc' := 9) (lv' := [(0, .int v0)]) (st' := [.int 13, .int v0]) rfl ?_
    refine x_gt e rfl (fun e => ?_) (fun e => ?_)
    · refine wp_p (j := J_Y_isEmptyTag) 1 (pc' := 17) (lv' := [(0, .int v0)]) (st' := [.int 0]) rfl ?_
      have e := Option.some.inj e; subst e; exact wp_iret (ty := .boolean) rfl rfl (by decide) c
    · refine wp_p (j := J_Y_isEmptyTag) 2 (pc' := 17) (lv' := [(0, .int v0)]) (st' := [.int 1]) rfl ?_
      have e := Option.some.inj e; subst e; exact wp_iret (ty := .boolean) rfl rfl (by decide) c
noncomputable def M_Y_sayEnd (v0 : Nat) (v1 : Int32) (g : g_S) : Option g_S :=
  (rQ g 112 v0 46).bind fun z1 =>
  (aI g 0 z1 v1).bind fun z2 =>
  (M_Y_isEmptyTag z2 g).bind fun z3 =>
  if z3 = 0 then
    (vc g 112 v0 (M_Y_say v0 60 g)).bind fun g4 =>
    (vc g4 112 v0 (M_Y_say v0 47 g4)).bind fun g5 =>
    (rQ g5 112 v0 47).bind fun z6 =>
    (rQ g5 112 v0 48).bind fun z7 =>
    (aI g5 0 z7 v1).bind fun z8 =>
    (vc g5 112 v0 (M_Y_sayAll v0 z6 (8 * v1) z8 g5)).bind fun g9 =>
    (vc g9 112 v0 (M_Y_say v0 62 g9)).bind fun g10 =>
    some g10
  else
    some g
set_option maxRecDepth 20000 in
theorem d_Y_sayEnd {L : Nat} {xs : Nat → Int32} {Q : Option Value → ab_H → Prop} {v0 : Nat} {v1 : Int32} {g : g_S} {out : g_S} (e : M_Y_sayEnd v0 v1 g = some out) (c : Q none (hp out)) : mw (ab_ext L xs) J_Y_sayEnd [.ref v0, .int v1] (hp g) Q := by
  unfold M_Y_sayEnd at e
  refine wp_p (j := J_Y_sayEnd) 1 (pc' := 1) (lv' := [(0, .ref v0), (1, .int v1)]) (st' := [.ref v0]) rfl ?_
  refine x_gQ e rfl rfl fd_12_46 rfl (fun z1 e => ?_)
  refine wp_p (j := J_Y_sayEnd) 1 (pc' := 5) (lv' := [(0, .ref v0), (1, .int v1)]) (st' := [.int v1, .ref z1]) rfl ?_
  refine x_aI e rfl rfl (fun z2 e => ?_)
  refine x_cs1 (As := [.int z2]) (rest := []) Value.int e rfl rfl rfl rfl rfl (fun h => d_Y_isEmptyTag h ⟨rfl, rfl⟩) (fun z3 e => ?_)
  refine z_eq e rfl (fun e => ?_) (fun e => ?_)
  · refine wp_p (j := J_Y_sayEnd) 2 (pc' := 16) (lv' := [(0, .ref v0), (1, .int v1)]) (st' := [.int 60, .ref v0]) rfl ?_
    refine x_cv0 (As := [.int 60]) (rest := []) e rfl rfl rfl rfl rfl rfl (fun h => d_Y_say h ⟨rfl, rfl⟩) (fun g4 e => ?_)
    refine wp_p (j := J_Y_sayEnd) 2 (pc' := 22) (lv' := [(0, .ref v0), (1, .int v1)]) (st' := [.int 47, .ref v0]) rfl ?_
    refine x_cv0 (As := [.int 47]) (rest := []) e rfl rfl rfl rfl rfl rfl (fun h => d_Y_say h ⟨rfl, rfl⟩) (fun g5 e => ?_)
    refine wp_p (j := J_Y_sayEnd) 2 (pc' := 27) (lv' := [(0, .ref v0), (1, .int v1)]) (st' := [.ref v0, .ref v0]) rfl ?_
    refine x_gQ e rfl rfl fd_12_47 rfl (fun z6 e => ?_)
    refine wp_p (j := J_Y_sayEnd) 4 (pc' := 35) (lv' := [(0, .ref v0), (1, .int v1)]) (st' := [.ref v0, .int (8 * v1), .ref z6, .ref v0]) rfl ?_
    refine x_gQ e rfl rfl fd_12_48 rfl (fun z7 e => ?_)
    refine wp_p (j := J_Y_sayEnd) 1 (pc' := 39) (lv' := [(0, .ref v0), (1, .int v1)]) (st' := [.int v1, .ref z7, .int (8 * v1), .ref z6, .ref v0]) rfl ?_
    refine x_aI e rfl rfl (fun z8 e => ?_)
    refine x_cv0 (As := [.ref z6, .int (8 * v1), .int z8]) (rest := []) e rfl rfl rfl rfl rfl rfl (fun h => d_Y_sayAll h ⟨rfl, rfl⟩) (fun g9 e => ?_)
    refine wp_p (j := J_Y_sayEnd) 2 (pc' := 46) (lv' := [(0, .ref v0), (1, .int v1)]) (st' := [.int 62, .ref v0]) rfl ?_
    refine x_cv0 (As := [.int 62]) (rest := []) e rfl rfl rfl rfl rfl rfl (fun h => d_Y_say h ⟨rfl, rfl⟩) (fun g10 e => ?_)
    have e := Option.some.inj e; subst e; exact wp_vret rfl rfl c
  · have e := Option.some.inj e; subst e; exact wp_vret rfl rfl c
def cL_Y_serialise_128 (L : Nat) (xs : Nat → Int32) (Q : Option Value → ab_H → Prop) (v0 : Nat) (v1 : Int32) (out : (Int32 × g_S) ⊕ (Int32 × g_S)) : Prop := match out with
  | .inl s => wp (ab_ext L xs) J_Y_serialise 128 [(0, .ref v0), (1, .int v1), (2, .int s.1)] [] (hp s.2) Q
  | .inr s => wp (ab_ext L xs) J_Y_serialise 158 [(0, .ref v0), (1, .int v1), (2, .int s.1)] [] (hp s.2) Q
noncomputable def b_Y_serialise_128 (v0 : Nat) (v1 : Int32) (v2 : Int32) (g : g_S) : Option ((Int32 × g_S) ⊕ (Int32 × g_S)) :=
  if v2 = v1 then
    some (.inr (v2, g))
  else
    (rQ g 112 v0 52).bind fun z1 =>
    (aI g 0 z1 v2).bind fun z2 =>
    if z2 = (-1) then
      (rQ g 112 v0 49).bind fun z3 =>
      (aI g 0 z3 v2).bind fun z4 =>
      (vc g 112 v0 (M_Y_sayEnd v0 z4 g)).bind fun g5 =>
      some (.inl (z4, g5))
    else
      some (.inr (v2, g))
set_option maxRecDepth 20000 in
theorem y_Y_serialise_128 {L : Nat} {xs : Nat → Int32} {Q : Option Value → ab_H → Prop} {v0 : Nat} {v1 : Int32} {v2 : Int32} {g : g_S} {out : (Int32 × g_S) ⊕ (Int32 × g_S)} (e : b_Y_serialise_128 v0 v1 v2 g = some out) (c : cL_Y_serialise_128 L xs Q v0 v1 out) : wp (ab_ext L xs) J_Y_serialise 128 [(0, .ref v0), (1, .int v1), (2, .int v2)] [] (hp g) Q := by
  unfold b_Y_serialise_128 at e
  refine wp_p (j := J_Y_serialise) 2 (pc' := 130) (lv' := [(0, .ref v0), (1, .int v1), (2, .int v2)]) (st' := [.int v1, .int v2]) rfl ?_
  refine x_eq e rfl (fun e => ?_) (fun e => ?_)
  · have e := Option.some.inj e; subst e; exact wp_lv (lv' := [(0, .ref v0), (1, .int v1), (2, .int v2)]) rfl ⟨rfl, rfl, rfl, trivial⟩ c
  · refine wp_p (j := J_Y_serialise) 1 (pc' := 134) (lv' := [(0, .ref v0), (1, .int v1), (2, .int v2)]) (st' := [.ref v0]) rfl ?_
    refine x_gQ e rfl rfl fd_12_52 rfl (fun z1 e => ?_)
    refine wp_p (j := J_Y_serialise) 1 (pc' := 138) (lv' := [(0, .ref v0), (1, .int v1), (2, .int v2)]) (st' := [.int v2, .ref z1]) rfl ?_
    refine x_aI e rfl rfl (fun z2 e => ?_)
    refine wp_p (j := J_Y_serialise) 1 (pc' := 140) (lv' := [(0, .ref v0), (1, .int v1), (2, .int v2)]) (st' := [.int (-1), .int z2]) rfl ?_
    refine x_ne e rfl (fun e => ?_) (fun e => ?_)
    · refine wp_p (j := J_Y_serialise) 1 (pc' := 144) (lv' := [(0, .ref v0), (1, .int v1), (2, .int v2)]) (st' := [.ref v0]) rfl ?_
      refine x_gQ e rfl rfl fd_12_49 rfl (fun z3 e => ?_)
      refine wp_p (j := J_Y_serialise) 1 (pc' := 148) (lv' := [(0, .ref v0), (1, .int v1), (2, .int v2)]) (st' := [.int v2, .ref z3]) rfl ?_
      refine x_aI e rfl rfl (fun z4 e => ?_)
      refine wp_p (j := J_Y_serialise) 3 (pc' := 152) (lv' := [(2, .int z4), (0, .ref v0), (1, .int v1)]) (st' := [.int z4, .ref v0]) rfl ?_
      refine x_cv0 (As := [.int z4]) (rest := []) e rfl rfl rfl rfl rfl rfl (fun h => d_Y_sayEnd h ⟨rfl, rfl⟩) (fun g5 e => ?_)
      refine wp_p (j := J_Y_serialise) 1 (pc' := 128) (lv' := [(2, .int z4), (0, .ref v0), (1, .int v1)]) (st' := []) rfl ?_
      have e := Option.some.inj e; subst e; exact wp_lv (lv' := [(0, .ref v0), (1, .int v1), (2, .int z4)]) rfl ⟨rfl, rfl, rfl, trivial⟩ c
    · have e := Option.some.inj e; subst e; exact wp_lv (lv' := [(0, .ref v0), (1, .int v1), (2, .int v2)]) rfl ⟨rfl, rfl, rfl, trivial⟩ c
noncomputable def L_Y_serialise_128 (v0 : Nat) (v1 : Int32) (v2 : Int32) (g : g_S) : Option (Int32 × g_S) := it (fun s : Int32 × g_S => b_Y_serialise_128 v0 v1 s.1 s.2) (v2, g)
theorem l_Y_serialise_128 {L : Nat} {xs : Nat → Int32} {Q : Option Value → ab_H → Prop} {v0 : Nat} {v1 : Int32} {v2 : Int32} {g : g_S} {r : Int32 × g_S} (e : L_Y_serialise_128 v0 v1 v2 g = some r) (c : cL_Y_serialise_128 L xs Q v0 v1 (.inr r)) : wp (ab_ext L xs) J_Y_serialise 128 [(0, .ref v0), (1, .int v1), (2, .int v2)] [] (hp g) Q :=
  it_wp (P := fun s : Int32 × g_S => wp (ab_ext L xs) J_Y_serialise 128 [(0, .ref v0), (1, .int v1), (2, .int s.1)] [] (hp s.2) Q) (E := fun r => cL_Y_serialise_128 L xs Q v0 v1 (.inr r)) (fun s out e c => y_Y_serialise_128 e (by cases out <;> exact c)) e c
theorem L_Y_serialise_128_eq (v0 : Nat) (v1 : Int32) (v2 : Int32) (g : g_S) : L_Y_serialise_128 v0 v1 v2 g = itc (b_Y_serialise_128 v0 v1 v2 g) (fun s => L_Y_serialise_128 v0 v1 s.1 s.2) := it_eq2 (fun s : Int32 × g_S => b_Y_serialise_128 v0 v1 s.1 s.2) (v2, g)
def cL_Y_serialise_19 (L : Nat) (xs : Nat → Int32) (Q : Option Value → ab_H → Prop) (v0 : Nat) (v1 : Int32) (out : (Int32 × Int32 × g_S) ⊕ (g_S)) : Prop := match out with
  | .inl s => wp (ab_ext L xs) J_Y_serialise 19 [(0, .ref v0), (1, .int v1), (2, .int s.1), (3, .int s.2.1)] [] (hp s.2.2) Q
  | .inr s => wp (ab_ext L xs) J_Y_serialise 187 [(0, .ref v0)] [] (hp s) Q
noncomputable def k_Y_serialise_168 (v0 : Nat) (v1 : Int32) (v2 : Int32) (w0 : Int32) (g : g_S) : Option ((Int32 × Int32 × g_S) ⊕ (g_S)) :=
  if w0 = 0 then
    some (.inl (v2, w0, g))
  else
    (rQ g 112 v0 52).bind fun z1 =>
    (aI g 0 z1 v2).bind fun z2 =>
    some (.inl (z2, w0, g))
set_option maxRecDepth 20000 in
theorem x_Y_serialise_168 {L : Nat} {xs : Nat → Int32} {Q : Option Value → ab_H → Prop} {v0 : Nat} {v1 : Int32} {v2 : Int32} {w0 : Int32} {g : g_S} {out : (Int32 × Int32 × g_S) ⊕ (g_S)} (e : k_Y_serialise_168 v0 v1 v2 w0 g = some out) (c : cL_Y_serialise_19 L xs Q v0 v1 out) : wp (ab_ext L xs) J_Y_serialise 168 [(0, .ref v0), (1, .int v1), (2, .int v2)] [.int w0] (hp g) Q := by
  unfold k_Y_serialise_168 at e
  refine wp_p (j := J_Y_serialise) 2 (pc' := 170) (lv' := [(3, .int w0), (0, .ref v0), (1, .int v1), (2, .int v2)]) (st' := [.int w0]) rfl ?_
  refine z_eq e rfl (fun e => ?_) (fun e => ?_)
  · refine wp_p (j := J_Y_serialise) 3 (pc' := 19) (lv' := [(2, .int v2), (3, .int w0), (0, .ref v0), (1, .int v1)]) (st' := []) rfl ?_
    have e := Option.some.inj e; subst e; exact wp_lv (lv' := [(0, .ref v0), (1, .int v1), (2, .int v2), (3, .int w0)]) rfl ⟨rfl, rfl, rfl, rfl, trivial⟩ c
  · refine wp_p (j := J_Y_serialise) 1 (pc' := 174) (lv' := [(3, .int w0), (0, .ref v0), (1, .int v1), (2, .int v2)]) (st' := [.ref v0]) rfl ?_
    refine x_gQ e rfl rfl fd_12_52 rfl (fun z1 e => ?_)
    refine wp_p (j := J_Y_serialise) 1 (pc' := 178) (lv' := [(3, .int w0), (0, .ref v0), (1, .int v1), (2, .int v2)]) (st' := [.int v2, .ref z1]) rfl ?_
    refine x_aI e rfl rfl (fun z2 e => ?_)
    refine wp_p (j := J_Y_serialise) 3 (pc' := 19) (lv' := [(2, .int z2), (3, .int w0), (0, .ref v0), (1, .int v1)]) (st' := []) rfl ?_
    have e := Option.some.inj e; subst e; exact wp_lv (lv' := [(0, .ref v0), (1, .int v1), (2, .int z2), (3, .int w0)]) rfl ⟨rfl, rfl, rfl, rfl, trivial⟩ c
noncomputable def k_Y_serialise_158 (v0 : Nat) (v1 : Int32) (v2 : Int32) (g : g_S) : Option ((Int32 × Int32 × g_S) ⊕ (g_S)) :=
  if v2 = v1 then
    k_Y_serialise_168 v0 v1 v2 0 g
  else
    k_Y_serialise_168 v0 v1 v2 1 g
set_option maxRecDepth 20000 in
theorem x_Y_serialise_158 {L : Nat} {xs : Nat → Int32} {Q : Option Value → ab_H → Prop} {v0 : Nat} {v1 : Int32} {v2 : Int32} {g : g_S} {out : (Int32 × Int32 × g_S) ⊕ (g_S)} (e : k_Y_serialise_158 v0 v1 v2 g = some out) (c : cL_Y_serialise_19 L xs Q v0 v1 out) : wp (ab_ext L xs) J_Y_serialise 158 [(0, .ref v0), (1, .int v1), (2, .int v2)] [] (hp g) Q := by
  unfold k_Y_serialise_158 at e
  refine wp_p (j := J_Y_serialise) 2 (pc' := 160) (lv' := [(0, .ref v0), (1, .int v1), (2, .int v2)]) (st' := [.int v1, .int v2]) rfl ?_
  refine x_eq e rfl (fun e => ?_) (fun e => ?_)
  · refine wp_p (j := J_Y_serialise) 1 (pc' := 168) (lv' := [(0, .ref v0), (1, .int v1), (2, .int v2)]) (st' := [.int 0]) rfl ?_
    exact wp_lv (lv' := [(0, .ref v0), (1, .int v1), (2, .int v2)]) rfl ⟨rfl, rfl, rfl, trivial⟩ (x_Y_serialise_168 e c)
  · refine wp_p (j := J_Y_serialise) 2 (pc' := 168) (lv' := [(0, .ref v0), (1, .int v1), (2, .int v2)]) (st' := [.int 1]) rfl ?_
    exact wp_lv (lv' := [(0, .ref v0), (1, .int v1), (2, .int v2)]) rfl ⟨rfl, rfl, rfl, trivial⟩ (x_Y_serialise_168 e c)
noncomputable def k_Y_serialise_92 (v0 : Nat) (v1 : Int32) (v2 : Int32) (v3 : Int32) (g : g_S) : Option ((Int32 × Int32 × g_S) ⊕ (g_S)) :=
  (rQ g 112 v0 50).bind fun z1 =>
  (aI g 0 z1 v2).bind fun z2 =>
  if z2 = (-1) then
    (rQ g 112 v0 46).bind fun z3 =>
    (aI g 0 z3 v2).bind fun z4 =>
    if z4 = 17 then
      (L_Y_serialise_128 v0 v1 v2 g).bind <| u2 fun z7 g8 =>
      k_Y_serialise_158 v0 v1 z7 g8
    else
      (vc g 112 v0 (M_Y_sayEnd v0 v2 g)).bind fun g9 =>
      (L_Y_serialise_128 v0 v1 v2 g9).bind <| u2 fun z12 g13 =>
      k_Y_serialise_158 v0 v1 z12 g13
  else
    (rQ g 112 v0 50).bind fun z14 =>
    (aI g 0 z14 v2).bind fun z15 =>
    some (.inl (z15, v3, g))
set_option maxRecDepth 20000 in
theorem x_Y_serialise_92 {L : Nat} {xs : Nat → Int32} {Q : Option Value → ab_H → Prop} {v0 : Nat} {v1 : Int32} {v2 : Int32} {v3 : Int32} {g : g_S} {out : (Int32 × Int32 × g_S) ⊕ (g_S)} (e : k_Y_serialise_92 v0 v1 v2 v3 g = some out) (c : cL_Y_serialise_19 L xs Q v0 v1 out) : wp (ab_ext L xs) J_Y_serialise 92 [(0, .ref v0), (1, .int v1), (2, .int v2), (3, .int v3)] [] (hp g) Q := by
  unfold k_Y_serialise_92 at e
  refine wp_p (j := J_Y_serialise) 1 (pc' := 93) (lv' := [(0, .ref v0), (1, .int v1), (2, .int v2), (3, .int v3)]) (st' := [.ref v0]) rfl ?_
  refine x_gQ e rfl rfl fd_12_50 rfl (fun z1 e => ?_)
  refine wp_p (j := J_Y_serialise) 1 (pc' := 97) (lv' := [(0, .ref v0), (1, .int v1), (2, .int v2), (3, .int v3)]) (st' := [.int v2, .ref z1]) rfl ?_
  refine x_aI e rfl rfl (fun z2 e => ?_)
  refine wp_p (j := J_Y_serialise) 1 (pc' := 99) (lv' := [(0, .ref v0), (1, .int v1), (2, .int v2), (3, .int v3)]) (st' := [.int (-1), .int z2]) rfl ?_
  refine x_eq e rfl (fun e => ?_) (fun e => ?_)
  · refine wp_p (j := J_Y_serialise) 1 (pc' := 113) (lv' := [(0, .ref v0), (1, .int v1), (2, .int v2), (3, .int v3)]) (st' := [.ref v0]) rfl ?_
    refine x_gQ e rfl rfl fd_12_46 rfl (fun z3 e => ?_)
    refine wp_p (j := J_Y_serialise) 1 (pc' := 117) (lv' := [(0, .ref v0), (1, .int v1), (2, .int v2), (3, .int v3)]) (st' := [.int v2, .ref z3]) rfl ?_
    refine x_aI e rfl rfl (fun z4 e => ?_)
    refine wp_p (j := J_Y_serialise) 1 (pc' := 120) (lv' := [(0, .ref v0), (1, .int v1), (2, .int v2), (3, .int v3)]) (st' := [.int 17, .int z4]) rfl ?_
    refine x_eq e rfl (fun e => ?_) (fun e => ?_)
    · obtain ⟨s5, h6, e⟩ := bd e
      refine wp_lv (lv' := [(0, .ref v0), (1, .int v1), (2, .int v2)]) rfl ⟨rfl, rfl, rfl, trivial⟩ ?_
      refine l_Y_serialise_128 h6 ?_
      obtain ⟨z7, g8⟩ := s5
      replace e := u2_e e
      show wp (ab_ext L xs) J_Y_serialise 158 [(0, .ref v0), (1, .int v1), (2, .int z7)] [] (hp g8) Q
      exact wp_lv (lv' := [(0, .ref v0), (1, .int v1), (2, .int z7)]) rfl ⟨rfl, rfl, rfl, trivial⟩ (x_Y_serialise_158 e c)
    · refine wp_p (j := J_Y_serialise) 2 (pc' := 125) (lv' := [(0, .ref v0), (1, .int v1), (2, .int v2), (3, .int v3)]) (st' := [.int v2, .ref v0]) rfl ?_
      refine x_cv0 (As := [.int v2]) (rest := []) e rfl rfl rfl rfl rfl rfl (fun h => d_Y_sayEnd h ⟨rfl, rfl⟩) (fun g9 e => ?_)
      obtain ⟨s10, h11, e⟩ := bd e
      refine wp_lv (lv' := [(0, .ref v0), (1, .int v1), (2, .int v2)]) rfl ⟨rfl, rfl, rfl, trivial⟩ ?_
      refine l_Y_serialise_128 h11 ?_
      obtain ⟨z12, g13⟩ := s10
      replace e := u2_e e
      show wp (ab_ext L xs) J_Y_serialise 158 [(0, .ref v0), (1, .int v1), (2, .int z12)] [] (hp g13) Q
      exact wp_lv (lv' := [(0, .ref v0), (1, .int v1), (2, .int z12)]) rfl ⟨rfl, rfl, rfl, trivial⟩ (x_Y_serialise_158 e c)
  · refine wp_p (j := J_Y_serialise) 1 (pc' := 103) (lv' := [(0, .ref v0), (1, .int v1), (2, .int v2), (3, .int v3)]) (st' := [.ref v0]) rfl ?_
    refine x_gQ e rfl rfl fd_12_50 rfl (fun z14 e => ?_)
    refine wp_p (j := J_Y_serialise) 1 (pc' := 107) (lv' := [(0, .ref v0), (1, .int v1), (2, .int v2), (3, .int v3)]) (st' := [.int v2, .ref z14]) rfl ?_
    refine x_aI e rfl rfl (fun z15 e => ?_)
    refine wp_p (j := J_Y_serialise) 2 (pc' := 19) (lv' := [(2, .int z15), (0, .ref v0), (1, .int v1), (3, .int v3)]) (st' := []) rfl ?_
    have e := Option.some.inj e; subst e; exact wp_lv (lv' := [(0, .ref v0), (1, .int v1), (2, .int z15), (3, .int v3)]) rfl ⟨rfl, rfl, rfl, rfl, trivial⟩ c
noncomputable def k_Y_serialise_81 (v0 : Nat) (v1 : Int32) (v2 : Int32) (v3 : Int32) (w0 : Int32) (w1 : Int32) (w2 : Int32) (w3 : Nat) (w4 : Nat) (g : g_S) : Option ((Int32 × Int32 × g_S) ⊕ (g_S)) :=
  (vc g 112 w4 (M_Y_sayEscaped w4 w3 w2 w1 w0 g)).bind fun g1 =>
  k_Y_serialise_92 v0 v1 v2 v3 g1
set_option maxRecDepth 20000 in
theorem x_Y_serialise_81 {L : Nat} {xs : Nat → Int32} {Q : Option Value → ab_H → Prop} {v0 : Nat} {v1 : Int32} {v2 : Int32} {v3 : Int32} {w0 : Int32} {w1 : Int32} {w2 : Int32} {w3 : Nat} {w4 : Nat} {g : g_S} {out : (Int32 × Int32 × g_S) ⊕ (g_S)} (e : k_Y_serialise_81 v0 v1 v2 v3 w0 w1 w2 w3 w4 g = some out) (c : cL_Y_serialise_19 L xs Q v0 v1 out) : wp (ab_ext L xs) J_Y_serialise 81 [(0, .ref v0), (1, .int v1), (2, .int v2), (3, .int v3)] [.int w0, .int w1, .int w2, .ref w3, .ref w4] (hp g) Q := by
  unfold k_Y_serialise_81 at e
  refine x_cv0 (As := [.ref w3, .int w2, .int w1, .int w0]) (rest := []) e rfl rfl rfl rfl rfl rfl (fun h => d_Y_sayEscaped h ⟨rfl, rfl⟩) (fun g1 e => ?_)
  refine wp_p (j := J_Y_serialise) 1 (pc' := 92) (lv' := [(0, .ref v0), (1, .int v1), (2, .int v2), (3, .int v3)]) (st' := []) rfl ?_
  exact wp_lv (lv' := [(0, .ref v0), (1, .int v1), (2, .int v2), (3, .int v3)]) rfl ⟨rfl, rfl, rfl, rfl, trivial⟩ (x_Y_serialise_92 e c)
noncomputable def k_Y_serialise_80 (v0 : Nat) (v1 : Int32) (v2 : Int32) (v3 : Int32) (w0 : Int32) (w1 : Int32) (w2 : Nat) (w3 : Nat) (g : g_S) : Option ((Int32 × Int32 × g_S) ⊕ (g_S)) :=
  k_Y_serialise_81 v0 v1 v2 v3 0 w0 w1 w2 w3 g
set_option maxRecDepth 20000 in
theorem x_Y_serialise_80 {L : Nat} {xs : Nat → Int32} {Q : Option Value → ab_H → Prop} {v0 : Nat} {v1 : Int32} {v2 : Int32} {v3 : Int32} {w0 : Int32} {w1 : Int32} {w2 : Nat} {w3 : Nat} {g : g_S} {out : (Int32 × Int32 × g_S) ⊕ (g_S)} (e : k_Y_serialise_80 v0 v1 v2 v3 w0 w1 w2 w3 g = some out) (c : cL_Y_serialise_19 L xs Q v0 v1 out) : wp (ab_ext L xs) J_Y_serialise 80 [(0, .ref v0), (1, .int v1), (2, .int v2), (3, .int v3)] [.int w0, .int w1, .ref w2, .ref w3] (hp g) Q := by
  unfold k_Y_serialise_80 at e
  refine wp_p (j := J_Y_serialise) 1 (pc' := 81) (lv' := [(0, .ref v0), (1, .int v1), (2, .int v2), (3, .int v3)]) (st' := [.int 0, .int w0, .int w1, .ref w2, .ref w3]) rfl ?_
  exact wp_lv (lv' := [(0, .ref v0), (1, .int v1), (2, .int v2), (3, .int v3)]) rfl ⟨rfl, rfl, rfl, rfl, trivial⟩ (x_Y_serialise_81 e c)
noncomputable def b_Y_serialise_19 (v0 : Nat) (v1 : Int32) (v2 : Int32) (v3 : Int32) (g : g_S) : Option ((Int32 × Int32 × g_S) ⊕ (g_S)) :=
  if v3 = 0 then
    some (.inr g)
  else
    (rQ g 112 v0 46).bind fun z1 =>
    (aI g 0 z1 v2).bind fun z2 =>
    if z2 = 17 then
      (rQ g 112 v0 61).bind fun z3 =>
      (rQ g 112 v0 62).bind fun z4 =>
      (aI g 0 z4 v2).bind fun z5 =>
      (rQ g 112 v0 49).bind fun z6 =>
      (aI g 0 z6 v2).bind fun z7 =>
      if z7 = (-1) then
        k_Y_serialise_80 v0 v1 v2 v3 z5 (400 * v2) z3 v0 g
      else
        (rQ g 112 v0 46).bind fun z8 =>
        (rQ g 112 v0 49).bind fun z9 =>
        (aI g 0 z9 v2).bind fun z10 =>
        (aI g 0 z8 z10).bind fun z11 =>
        if z11 = 15 then
          k_Y_serialise_81 v0 v1 v2 v3 1 z5 (400 * v2) z3 v0 g
        else
          k_Y_serialise_80 v0 v1 v2 v3 z5 (400 * v2) z3 v0 g
    else
      (vc g 112 v0 (M_Y_sayBegin v0 v2 g)).bind fun g12 =>
      k_Y_serialise_92 v0 v1 v2 v3 g12
set_option maxRecDepth 20000 in
theorem y_Y_serialise_19 {L : Nat} {xs : Nat → Int32} {Q : Option Value → ab_H → Prop} {v0 : Nat} {v1 : Int32} {v2 : Int32} {v3 : Int32} {g : g_S} {out : (Int32 × Int32 × g_S) ⊕ (g_S)} (e : b_Y_serialise_19 v0 v1 v2 v3 g = some out) (c : cL_Y_serialise_19 L xs Q v0 v1 out) : wp (ab_ext L xs) J_Y_serialise 19 [(0, .ref v0), (1, .int v1), (2, .int v2), (3, .int v3)] [] (hp g) Q := by
  unfold b_Y_serialise_19 at e
  refine wp_p (j := J_Y_serialise) 1 (pc' := 20) (lv' := [(0, .ref v0), (1, .int v1), (2, .int v2), (3, .int v3)]) (st' := [.int v3]) rfl ?_
  refine z_eq e rfl (fun e => ?_) (fun e => ?_)
  · have e := Option.some.inj e; subst e; exact wp_lv (lv' := [(0, .ref v0)]) rfl ⟨rfl, trivial⟩ c
  · refine wp_p (j := J_Y_serialise) 1 (pc' := 24) (lv' := [(0, .ref v0), (1, .int v1), (2, .int v2), (3, .int v3)]) (st' := [.ref v0]) rfl ?_
    refine x_gQ e rfl rfl fd_12_46 rfl (fun z1 e => ?_)
    refine wp_p (j := J_Y_serialise) 1 (pc' := 28) (lv' := [(0, .ref v0), (1, .int v1), (2, .int v2), (3, .int v3)]) (st' := [.int v2, .ref z1]) rfl ?_
    refine x_aI e rfl rfl (fun z2 e => ?_)
    refine wp_p (j := J_Y_serialise) 1 (pc' := 31) (lv' := [(0, .ref v0), (1, .int v1), (2, .int v2), (3, .int v3)]) (st' := [.int 17, .int z2]) rfl ?_
    refine x_ne e rfl (fun e => ?_) (fun e => ?_)
    · refine wp_p (j := J_Y_serialise) 2 (pc' := 36) (lv' := [(0, .ref v0), (1, .int v1), (2, .int v2), (3, .int v3)]) (st' := [.ref v0, .ref v0]) rfl ?_
      refine x_gQ e rfl rfl fd_12_61 rfl (fun z3 e => ?_)
      refine wp_p (j := J_Y_serialise) 4 (pc' := 45) (lv' := [(0, .ref v0), (1, .int v1), (2, .int v2), (3, .int v3)]) (st' := [.ref v0, .int (400 * v2), .ref z3, .ref v0]) rfl ?_
      refine x_gQ e rfl rfl fd_12_62 rfl (fun z4 e => ?_)
      refine wp_p (j := J_Y_serialise) 1 (pc' := 49) (lv' := [(0, .ref v0), (1, .int v1), (2, .int v2), (3, .int v3)]) (st' := [.int v2, .ref z4, .int (400 * v2), .ref z3, .ref v0]) rfl ?_
      refine x_aI e rfl rfl (fun z5 e => ?_)
      refine wp_p (j := J_Y_serialise) 1 (pc' := 51) (lv' := [(0, .ref v0), (1, .int v1), (2, .int v2), (3, .int v3)]) (st' := [.ref v0, .int z5, .int (400 * v2), .ref z3, .ref v0]) rfl ?_
      refine x_gQ e rfl rfl fd_12_49 rfl (fun z6 e => ?_)
      refine wp_p (j := J_Y_serialise) 1 (pc' := 55) (lv' := [(0, .ref v0), (1, .int v1), (2, .int v2), (3, .int v3)]) (st' := [.int v2, .ref z6, .int z5, .int (400 * v2), .ref z3, .ref v0]) rfl ?_
      refine x_aI e rfl rfl (fun z7 e => ?_)
      refine wp_p (j := J_Y_serialise) 1 (pc' := 57) (lv' := [(0, .ref v0), (1, .int v1), (2, .int v2), (3, .int v3)]) (st' := [.int (-1), .int z7, .int z5, .int (400 * v2), .ref z3, .ref v0]) rfl ?_
      refine x_eq e rfl (fun e => ?_) (fun e => ?_)
      · exact wp_lv (lv' := [(0, .ref v0), (1, .int v1), (2, .int v2), (3, .int v3)]) rfl ⟨rfl, rfl, rfl, rfl, trivial⟩ (x_Y_serialise_80 e c)
      · refine wp_p (j := J_Y_serialise) 1 (pc' := 61) (lv' := [(0, .ref v0), (1, .int v1), (2, .int v2), (3, .int v3)]) (st' := [.ref v0, .int z5, .int (400 * v2), .ref z3, .ref v0]) rfl ?_
        refine x_gQ e rfl rfl fd_12_46 rfl (fun z8 e => ?_)
        refine wp_p (j := J_Y_serialise) 1 (pc' := 65) (lv' := [(0, .ref v0), (1, .int v1), (2, .int v2), (3, .int v3)]) (st' := [.ref v0, .ref z8, .int z5, .int (400 * v2), .ref z3, .ref v0]) rfl ?_
        refine x_gQ e rfl rfl fd_12_49 rfl (fun z9 e => ?_)
        refine wp_p (j := J_Y_serialise) 1 (pc' := 69) (lv' := [(0, .ref v0), (1, .int v1), (2, .int v2), (3, .int v3)]) (st' := [.int v2, .ref z9, .ref z8, .int z5, .int (400 * v2), .ref z3, .ref v0]) rfl ?_
        refine x_aI e rfl rfl (fun z10 e => ?_)
        refine x_aI e rfl rfl (fun z11 e => ?_)
        refine wp_p (j := J_Y_serialise) 1 (pc' := 73) (lv' := [(0, .ref v0), (1, .int v1), (2, .int v2), (3, .int v3)]) (st' := [.int 15, .int z11, .int z5, .int (400 * v2), .ref z3, .ref v0]) rfl ?_
        refine x_ne e rfl (fun e => ?_) (fun e => ?_)
        · refine wp_p (j := J_Y_serialise) 2 (pc' := 81) (lv' := [(0, .ref v0), (1, .int v1), (2, .int v2), (3, .int v3)]) (st' := [.int 1, .int z5, .int (400 * v2), .ref z3, .ref v0]) rfl ?_
          exact wp_lv (lv' := [(0, .ref v0), (1, .int v1), (2, .int v2), (3, .int v3)]) rfl ⟨rfl, rfl, rfl, rfl, trivial⟩ (x_Y_serialise_81 e c)
        · exact wp_lv (lv' := [(0, .ref v0), (1, .int v1), (2, .int v2), (3, .int v3)]) rfl ⟨rfl, rfl, rfl, rfl, trivial⟩ (x_Y_serialise_80 e c)
    · refine wp_p (j := J_Y_serialise) 2 (pc' := 89) (lv' := [(0, .ref v0), (1, .int v1), (2, .int v2), (3, .int v3)]) (st' := [.int v2, .ref v0]) rfl ?_
      refine x_cv0 (As := [.int v2]) (rest := []) e rfl rfl rfl rfl rfl rfl (fun h => d_Y_sayBegin h ⟨rfl, rfl⟩) (fun g12 e => ?_)
      exact wp_lv (lv' := [(0, .ref v0), (1, .int v1), (2, .int v2), (3, .int v3)]) rfl ⟨rfl, rfl, rfl, rfl, trivial⟩ (x_Y_serialise_92 e c)
noncomputable def L_Y_serialise_19 (v0 : Nat) (v1 : Int32) (v2 : Int32) (v3 : Int32) (g : g_S) : Option (g_S) := it (fun s : Int32 × Int32 × g_S => b_Y_serialise_19 v0 v1 s.1 s.2.1 s.2.2) (v2, v3, g)
theorem l_Y_serialise_19 {L : Nat} {xs : Nat → Int32} {Q : Option Value → ab_H → Prop} {v0 : Nat} {v1 : Int32} {v2 : Int32} {v3 : Int32} {g : g_S} {r : g_S} (e : L_Y_serialise_19 v0 v1 v2 v3 g = some r) (c : cL_Y_serialise_19 L xs Q v0 v1 (.inr r)) : wp (ab_ext L xs) J_Y_serialise 19 [(0, .ref v0), (1, .int v1), (2, .int v2), (3, .int v3)] [] (hp g) Q :=
  it_wp (P := fun s : Int32 × Int32 × g_S => wp (ab_ext L xs) J_Y_serialise 19 [(0, .ref v0), (1, .int v1), (2, .int s.1), (3, .int s.2.1)] [] (hp s.2.2) Q) (E := fun r => cL_Y_serialise_19 L xs Q v0 v1 (.inr r)) (fun s out e c => y_Y_serialise_19 e (by cases out <;> exact c)) e c
theorem L_Y_serialise_19_eq (v0 : Nat) (v1 : Int32) (v2 : Int32) (v3 : Int32) (g : g_S) : L_Y_serialise_19 v0 v1 v2 v3 g = itc (b_Y_serialise_19 v0 v1 v2 v3 g) (fun s => L_Y_serialise_19 v0 v1 s.1 s.2.1 s.2.2) := it_eq2 (fun s : Int32 × Int32 × g_S => b_Y_serialise_19 v0 v1 s.1 s.2.1 s.2.2) (v2, v3, g)
noncomputable def M_Y_serialise (v0 : Nat) (v1 : Int32) (g : g_S) : Option (Int32 × g_S) :=
  (vc g 112 v0 (M_Y_there v0 v1 g)).bind fun z1 =>
  if z1 = 0 then
    some ((-1), g)
  else
    (wI g 112 v0 5 0).bind fun g2 =>
    (L_Y_serialise_19 v0 v1 v1 1 g2).bind <| fun g5 =>
    (rI g5 112 v0 5).bind fun z6 =>
    some (z6, g5)
set_option maxRecDepth 20000 in
theorem d_Y_serialise {L : Nat} {xs : Nat → Int32} {Q : Option Value → ab_H → Prop} {v0 : Nat} {v1 : Int32} {g : g_S} {out : Int32 × g_S} (e : M_Y_serialise v0 v1 g = some out) (c : Q (some (.int out.1)) (hp out.2)) : mw (ab_ext L xs) J_Y_serialise [.ref v0, .int v1] (hp g) Q := by
  unfold M_Y_serialise at e
  refine wp_p (j := J_Y_serialise) 2 (pc' := 2) (lv' := [(0, .ref v0), (1, .int v1)]) (st' := [.int v1, .ref v0]) rfl ?_
  refine x_cv1 (As := [.int v1]) (rest := []) Value.int e rfl rfl rfl rfl rfl rfl (fun h => d_Y_there h ⟨rfl, rfl⟩) (fun z1 e => ?_)
  refine z_ne e rfl (fun e => ?_) (fun e => ?_)
  · refine wp_p (j := J_Y_serialise) 1 (pc' := 9) (lv' := [(0, .ref v0), (1, .int v1)]) (st' := [.int (-1)]) rfl ?_
    have e := Option.some.inj e; subst e; exact wp_iret (ty := .int) rfl rfl rfl c
  · refine wp_p (j := J_Y_serialise) 2 (pc' := 12) (lv' := [(0, .ref v0), (1, .int v1)]) (st' := [.int 0, .ref v0]) rfl ?_
    refine x_pI e rfl rfl fw_12_5 rfl (fun g2 e => ?_)
    refine wp_p (j := J_Y_serialise) 4 (pc' := 19) (lv' := [(3, .int 1), (2, .int v1), (0, .ref v0), (1, .int v1)]) (st' := []) rfl ?_
    obtain ⟨g5, h4, e⟩ := bd e
    refine wp_lv (lv' := [(0, .ref v0), (1, .int v1), (2, .int v1), (3, .int 1)]) rfl ⟨rfl, rfl, rfl, rfl, trivial⟩ ?_
    refine l_Y_serialise_19 h4 ?_
    show wp (ab_ext L xs) J_Y_serialise 187 [(0, .ref v0)] [] (hp g5) Q
    refine wp_p (j := J_Y_serialise) 1 (pc' := 188) (lv' := [(0, .ref v0)]) (st' := [.ref v0]) rfl ?_
    refine x_gI e rfl rfl fd_12_5 rfl (fun z6 e => ?_)
    have e := Option.some.inj e; subst e; exact wp_iret (ty := .int) rfl rfl rfl c
def cL_Y_node_74 (L : Nat) (xs : Nat → Int32) (Q : Option Value → ab_H → Prop) (v0 : Nat) (g : g_S) (out : (Int32 × Int32) ⊕ (Int32)) : Prop := match out with
  | .inl s => wp (ab_ext L xs) J_Y_node 74 [(0, .ref v0), (3, .int s.1), (4, .int s.2)] [] (hp g) Q
  | .inr s => wp (ab_ext L xs) J_Y_node 95 [(3, .int s)] [] (hp g) Q
noncomputable def b_Y_node_74 (v0 : Nat) (v3 : Int32) (v4 : Int32) (g : g_S) : Option ((Int32 × Int32) ⊕ (Int32)) :=
  if v4 = (-1) then
    some (.inr v3)
  else
    (rQ g 112 v0 52).bind fun z1 =>
    (aI g 0 z1 v4).bind fun z2 =>
    some (.inl (v3 + 1, z2))
set_option maxRecDepth 20000 in
theorem y_Y_node_74 {L : Nat} {xs : Nat → Int32} {Q : Option Value → ab_H → Prop} {v0 : Nat} {v3 : Int32} {v4 : Int32} {g : g_S} {out : (Int32 × Int32) ⊕ (Int32)} (e : b_Y_node_74 v0 v3 v4 g = some out) (c : cL_Y_node_74 L xs Q v0 g out) : wp (ab_ext L xs) J_Y_node 74 [(0, .ref v0), (3, .int v3), (4, .int v4)] [] (hp g) Q := by
  unfold b_Y_node_74 at e
  refine wp_p (j := J_Y_node) 2 (pc' := 77) (lv' := [(0, .ref v0), (3, .int v3), (4, .int v4)]) (st' := [.int (-1), .int v4]) rfl ?_
  refine x_eq e rfl (fun e => ?_) (fun e => ?_)
  · have e := Option.some.inj e; subst e; exact wp_lv (lv' := [(3, .int v3)]) rfl ⟨rfl, trivial⟩ c
  · refine wp_p (j := J_Y_node) 2 (pc' := 84) (lv' := [(3, .int (v3 + 1)), (0, .ref v0), (4, .int v4)]) (st' := [.ref v0]) rfl ?_
    refine x_gQ e rfl rfl fd_12_52 rfl (fun z1 e => ?_)
    refine wp_p (j := J_Y_node) 1 (pc' := 89) (lv' := [(3, .int (v3 + 1)), (0, .ref v0), (4, .int v4)]) (st' := [.int v4, .ref z1]) rfl ?_
    refine x_aI e rfl rfl (fun z2 e => ?_)
    refine wp_p (j := J_Y_node) 2 (pc' := 74) (lv' := [(4, .int z2), (3, .int (v3 + 1)), (0, .ref v0)]) (st' := []) rfl ?_
    have e := Option.some.inj e; subst e; exact wp_lv (lv' := [(0, .ref v0), (3, .int (v3 + 1)), (4, .int z2)]) rfl ⟨rfl, rfl, rfl, trivial⟩ c
noncomputable def L_Y_node_74 (v0 : Nat) (v3 : Int32) (v4 : Int32) (g : g_S) : Option (Int32) := it (fun s : Int32 × Int32 => b_Y_node_74 v0 s.1 s.2 g) (v3, v4)
theorem l_Y_node_74 {L : Nat} {xs : Nat → Int32} {Q : Option Value → ab_H → Prop} {v0 : Nat} {v3 : Int32} {v4 : Int32} {g : g_S} {r : Int32} (e : L_Y_node_74 v0 v3 v4 g = some r) (c : cL_Y_node_74 L xs Q v0 g (.inr r)) : wp (ab_ext L xs) J_Y_node 74 [(0, .ref v0), (3, .int v3), (4, .int v4)] [] (hp g) Q :=
  it_wp (P := fun s : Int32 × Int32 => wp (ab_ext L xs) J_Y_node 74 [(0, .ref v0), (3, .int s.1), (4, .int s.2)] [] (hp g) Q) (E := fun r => cL_Y_node_74 L xs Q v0 g (.inr r)) (fun s out e c => y_Y_node_74 e (by cases out <;> exact c)) e c
theorem L_Y_node_74_eq (v0 : Nat) (v3 : Int32) (v4 : Int32) (g : g_S) : L_Y_node_74 v0 v3 v4 g = itc (b_Y_node_74 v0 v3 v4 g) (fun s => L_Y_node_74 v0 s.1 s.2 g) := it_eq2 (fun s : Int32 × Int32 => b_Y_node_74 v0 s.1 s.2 g) (v3, v4)
def cL_Y_node_105 (L : Nat) (xs : Nat → Int32) (Q : Option Value → ab_H → Prop) (v0 : Nat) (g : g_S) (out : (Int32 × Int32) ⊕ (Int32)) : Prop := match out with
  | .inl s => wp (ab_ext L xs) J_Y_node 105 [(0, .ref v0), (3, .int s.1), (4, .int s.2)] [] (hp g) Q
  | .inr s => wp (ab_ext L xs) J_Y_node 126 [(3, .int s)] [] (hp g) Q
noncomputable def b_Y_node_105 (v0 : Nat) (v3 : Int32) (v4 : Int32) (g : g_S) : Option ((Int32 × Int32) ⊕ (Int32)) :=
  if v4 = (-1) then
    some (.inr v3)
  else
    (rQ g 112 v0 53).bind fun z1 =>
    (aI g 0 z1 v4).bind fun z2 =>
    some (.inl (v3 + 1, z2))
set_option maxRecDepth 20000 in
theorem y_Y_node_105 {L : Nat} {xs : Nat → Int32} {Q : Option Value → ab_H → Prop} {v0 : Nat} {v3 : Int32} {v4 : Int32} {g : g_S} {out : (Int32 × Int32) ⊕ (Int32)} (e : b_Y_node_105 v0 v3 v4 g = some out) (c : cL_Y_node_105 L xs Q v0 g out) : wp (ab_ext L xs) J_Y_node 105 [(0, .ref v0), (3, .int v3), (4, .int v4)] [] (hp g) Q := by
  unfold b_Y_node_105 at e
  refine wp_p (j := J_Y_node) 2 (pc' := 108) (lv' := [(0, .ref v0), (3, .int v3), (4, .int v4)]) (st' := [.int (-1), .int v4]) rfl ?_
  refine x_eq e rfl (fun e => ?_) (fun e => ?_)
  · have e := Option.some.inj e; subst e; exact wp_lv (lv' := [(3, .int v3)]) rfl ⟨rfl, trivial⟩ c
  · refine wp_p (j := J_Y_node) 2 (pc' := 115) (lv' := [(3, .int (v3 + 1)), (0, .ref v0), (4, .int v4)]) (st' := [.ref v0]) rfl ?_
    refine x_gQ e rfl rfl fd_12_53 rfl (fun z1 e => ?_)
    refine wp_p (j := J_Y_node) 1 (pc' := 120) (lv' := [(3, .int (v3 + 1)), (0, .ref v0), (4, .int v4)]) (st' := [.int v4, .ref z1]) rfl ?_
    refine x_aI e rfl rfl (fun z2 e => ?_)
    refine wp_p (j := J_Y_node) 2 (pc' := 105) (lv' := [(4, .int z2), (3, .int (v3 + 1)), (0, .ref v0)]) (st' := []) rfl ?_
    have e := Option.some.inj e; subst e; exact wp_lv (lv' := [(0, .ref v0), (3, .int (v3 + 1)), (4, .int z2)]) rfl ⟨rfl, rfl, rfl, trivial⟩ c
noncomputable def L_Y_node_105 (v0 : Nat) (v3 : Int32) (v4 : Int32) (g : g_S) : Option (Int32) := it (fun s : Int32 × Int32 => b_Y_node_105 v0 s.1 s.2 g) (v3, v4)
theorem l_Y_node_105 {L : Nat} {xs : Nat → Int32} {Q : Option Value → ab_H → Prop} {v0 : Nat} {v3 : Int32} {v4 : Int32} {g : g_S} {r : Int32} (e : L_Y_node_105 v0 v3 v4 g = some r) (c : cL_Y_node_105 L xs Q v0 g (.inr r)) : wp (ab_ext L xs) J_Y_node 105 [(0, .ref v0), (3, .int v3), (4, .int v4)] [] (hp g) Q :=
  it_wp (P := fun s : Int32 × Int32 => wp (ab_ext L xs) J_Y_node 105 [(0, .ref v0), (3, .int s.1), (4, .int s.2)] [] (hp g) Q) (E := fun r => cL_Y_node_105 L xs Q v0 g (.inr r)) (fun s out e c => y_Y_node_105 e (by cases out <;> exact c)) e c
theorem L_Y_node_105_eq (v0 : Nat) (v3 : Int32) (v4 : Int32) (g : g_S) : L_Y_node_105 v0 v3 v4 g = itc (b_Y_node_105 v0 v3 v4 g) (fun s => L_Y_node_105 v0 s.1 s.2 g) := it_eq2 (fun s : Int32 × Int32 => b_Y_node_105 v0 s.1 s.2 g) (v3, v4)
noncomputable def M_Y_node (v0 : Nat) (v1 : Int32) (v2 : Int32) (g : g_S) : Option Int32 :=
  (vc g 112 v0 (M_Y_there v0 v1 g)).bind fun z1 =>
  if z1 = 0 then
    some (-1)
  else
    if v2 = 0 then
      (rQ g 112 v0 46).bind fun z3 =>
      (aI g 0 z3 v1).bind fun z4 =>
      some z4
    else if v2 = 1 then
      (rQ g 112 v0 49).bind fun z6 =>
      (aI g 0 z6 v1).bind fun z7 =>
      some z7
    else if v2 = 2 then
      (rQ g 112 v0 50).bind fun z9 =>
      (aI g 0 z9 v1).bind fun z10 =>
      (L_Y_node_74 v0 0 z10 g).bind <| fun z13 =>
      some z13
    else if v2 = 3 then
      (rQ g 112 v0 53).bind fun z15 =>
      (aI g 0 z15 v1).bind fun z16 =>
      (L_Y_node_105 v0 0 z16 g).bind <| fun z19 =>
      some z19
    else if v2 = 4 then
      (rQ g 112 v0 56).bind fun z21 =>
      (aI g 0 z21 v1).bind fun z22 =>
      some z22
    else if v2 = 5 then
      (rQ g 112 v0 46).bind fun z24 =>
      (aI g 0 z24 v1).bind fun z25 =>
      if z25 = 17 then
        (rQ g 112 v0 62).bind fun z26 =>
        (aI g 0 z26 v1).bind fun z27 =>
        some z27
      else
        some 0
    else
      some (-1)
set_option maxRecDepth 20000 in
theorem d_Y_node {L : Nat} {xs : Nat → Int32} {Q : Option Value → ab_H → Prop} {v0 : Nat} {v1 : Int32} {v2 : Int32} {g : g_S} {out : Int32} (e : M_Y_node v0 v1 v2 g = some out) (c : Q (some (.int out)) (hp g)) : mw (ab_ext L xs) J_Y_node [.ref v0, .int v1, .int v2] (hp g) Q := by
  unfold M_Y_node at e
  refine wp_p (j := J_Y_node) 2 (pc' := 2) (lv' := [(0, .ref v0), (1, .int v1), (2, .int v2)]) (st' := [.int v1, .ref v0]) rfl ?_
  refine x_cv1 (As := [.int v1]) (rest := []) Value.int e rfl rfl rfl rfl rfl rfl (fun h => d_Y_there h ⟨rfl, rfl⟩) (fun z1 e => ?_)
  refine z_ne e rfl (fun e => ?_) (fun e => ?_)
  · refine wp_p (j := J_Y_node) 1 (pc' := 9) (lv' := [(0, .ref v0), (1, .int v1), (2, .int v2)]) (st' := [.int (-1)]) rfl ?_
    have e := Option.some.inj e; subst e; exact wp_iret (ty := .int) rfl rfl rfl c
  · refine wp_p (j := J_Y_node) 3 (pc' := 13) (lv' := [(3, .int 0), (0, .ref v0), (1, .int v1), (2, .int v2)]) (st' := [.int v2]) rfl ?_
    refine x_if e (fun h2 e => ?_) (fun h2 e => ?_)
    · refine x_sw (cst := 0) (pc' := 52) (rest := []) h2 rfl rfl rfl ?_
      refine wp_p (j := J_Y_node) 1 (pc' := 53) (lv' := [(3, .int 0), (0, .ref v0), (1, .int v1), (2, .int v2)]) (st' := [.ref v0]) rfl ?_
      refine x_gQ e rfl rfl fd_12_46 rfl (fun z3 e => ?_)
      refine wp_p (j := J_Y_node) 1 (pc' := 57) (lv' := [(3, .int 0), (0, .ref v0), (1, .int v1), (2, .int v2)]) (st' := [.int v1, .ref z3]) rfl ?_
      refine x_aI e rfl rfl (fun z4 e => ?_)
      have e := Option.some.inj e; subst e; exact wp_iret (ty := .int) rfl rfl rfl c
    refine x_if e (fun h5 e => ?_) (fun h5 e => ?_)
    · refine x_sw (cst := 1) (pc' := 59) (rest := []) h5 rfl rfl rfl ?_
      refine wp_p (j := J_Y_node) 1 (pc' := 60) (lv' := [(3, .int 0), (0, .ref v0), (1, .int v1), (2, .int v2)]) (st' := [.ref v0]) rfl ?_
      refine x_gQ e rfl rfl fd_12_49 rfl (fun z6 e => ?_)
      refine wp_p (j := J_Y_node) 1 (pc' := 64) (lv' := [(3, .int 0), (0, .ref v0), (1, .int v1), (2, .int v2)]) (st' := [.int v1, .ref z6]) rfl ?_
      refine x_aI e rfl rfl (fun z7 e => ?_)
      have e := Option.some.inj e; subst e; exact wp_iret (ty := .int) rfl rfl rfl c
    refine x_if e (fun h8 e => ?_) (fun h8 e => ?_)
    · refine x_sw (cst := 2) (pc' := 66) (rest := []) h8 rfl rfl rfl ?_
      refine wp_p (j := J_Y_node) 1 (pc' := 67) (lv' := [(3, .int 0), (0, .ref v0), (1, .int v1), (2, .int v2)]) (st' := [.ref v0]) rfl ?_
      refine x_gQ e rfl rfl fd_12_50 rfl (fun z9 e => ?_)
      refine wp_p (j := J_Y_node) 1 (pc' := 71) (lv' := [(3, .int 0), (0, .ref v0), (1, .int v1), (2, .int v2)]) (st' := [.int v1, .ref z9]) rfl ?_
      refine x_aI e rfl rfl (fun z10 e => ?_)
      refine wp_p (j := J_Y_node) 1 (pc' := 74) (lv' := [(4, .int z10), (3, .int 0), (0, .ref v0), (1, .int v1), (2, .int v2)]) (st' := []) rfl ?_
      obtain ⟨z13, h12, e⟩ := bd e
      refine wp_lv (lv' := [(0, .ref v0), (3, .int 0), (4, .int z10)]) rfl ⟨rfl, rfl, rfl, trivial⟩ ?_
      refine l_Y_node_74 h12 ?_
      show wp (ab_ext L xs) J_Y_node 95 [(3, .int z13)] [] (hp g) Q
      refine wp_p (j := J_Y_node) 1 (pc' := 96) (lv' := [(3, .int z13)]) (st' := [.int z13]) rfl ?_
      have e := Option.some.inj e; subst e; exact wp_iret (ty := .int) rfl rfl rfl c
    refine x_if e (fun h14 e => ?_) (fun h14 e => ?_)
    · refine x_sw (cst := 3) (pc' := 97) (rest := []) h14 rfl rfl rfl ?_
      refine wp_p (j := J_Y_node) 1 (pc' := 98) (lv' := [(3, .int 0), (0, .ref v0), (1, .int v1), (2, .int v2)]) (st' := [.ref v0]) rfl ?_
      refine x_gQ e rfl rfl fd_12_53 rfl (fun z15 e => ?_)
      refine wp_p (j := J_Y_node) 1 (pc' := 102) (lv' := [(3, .int 0), (0, .ref v0), (1, .int v1), (2, .int v2)]) (st' := [.int v1, .ref z15]) rfl ?_
      refine x_aI e rfl rfl (fun z16 e => ?_)
      refine wp_p (j := J_Y_node) 1 (pc' := 105) (lv' := [(4, .int z16), (3, .int 0), (0, .ref v0), (1, .int v1), (2, .int v2)]) (st' := []) rfl ?_
      obtain ⟨z19, h18, e⟩ := bd e
      refine wp_lv (lv' := [(0, .ref v0), (3, .int 0), (4, .int z16)]) rfl ⟨rfl, rfl, rfl, trivial⟩ ?_
      refine l_Y_node_105 h18 ?_
      show wp (ab_ext L xs) J_Y_node 126 [(3, .int z19)] [] (hp g) Q
      refine wp_p (j := J_Y_node) 1 (pc' := 127) (lv' := [(3, .int z19)]) (st' := [.int z19]) rfl ?_
      have e := Option.some.inj e; subst e; exact wp_iret (ty := .int) rfl rfl rfl c
    refine x_if e (fun h20 e => ?_) (fun h20 e => ?_)
    · refine x_sw (cst := 4) (pc' := 128) (rest := []) h20 rfl rfl rfl ?_
      refine wp_p (j := J_Y_node) 1 (pc' := 129) (lv' := [(3, .int 0), (0, .ref v0), (1, .int v1), (2, .int v2)]) (st' := [.ref v0]) rfl ?_
      refine x_gQ e rfl rfl fd_12_56 rfl (fun z21 e => ?_)
      refine wp_p (j := J_Y_node) 1 (pc' := 133) (lv' := [(3, .int 0), (0, .ref v0), (1, .int v1), (2, .int v2)]) (st' := [.int v1, .ref z21]) rfl ?_
      refine x_aI e rfl rfl (fun z22 e => ?_)
      have e := Option.some.inj e; subst e; exact wp_iret (ty := .int) rfl rfl rfl c
    refine x_if e (fun h23 e => ?_) (fun h23 e => ?_)
    · refine x_sw (cst := 5) (pc' := 135) (rest := []) h23 rfl rfl rfl ?_
      refine wp_p (j := J_Y_node) 1 (pc' := 136) (lv' := [(3, .int 0), (0, .ref v0), (1, .int v1), (2, .int v2)]) (st' := [.ref v0]) rfl ?_
      refine x_gQ e rfl rfl fd_12_46 rfl (fun z24 e => ?_)
      refine wp_p (j := J_Y_node) 1 (pc' := 140) (lv' := [(3, .int 0), (0, .ref v0), (1, .int v1), (2, .int v2)]) (st' := [.int v1, .ref z24]) rfl ?_
      refine x_aI e rfl rfl (fun z25 e => ?_)
      refine wp_p (j := J_Y_node) 1 (pc' := 143) (lv' := [(3, .int 0), (0, .ref v0), (1, .int v1), (2, .int v2)]) (st' := [.int 17, .int z25]) rfl ?_
      refine x_ne e rfl (fun e => ?_) (fun e => ?_)
      · refine wp_p (j := J_Y_node) 1 (pc' := 147) (lv' := [(3, .int 0), (0, .ref v0), (1, .int v1), (2, .int v2)]) (st' := [.ref v0]) rfl ?_
        refine x_gQ e rfl rfl fd_12_62 rfl (fun z26 e => ?_)
        refine wp_p (j := J_Y_node) 1 (pc' := 151) (lv' := [(3, .int 0), (0, .ref v0), (1, .int v1), (2, .int v2)]) (st' := [.int v1, .ref z26]) rfl ?_
        refine x_aI e rfl rfl (fun z27 e => ?_)
        refine wp_p (j := J_Y_node) 1 (pc' := 156) (lv' := [(3, .int 0), (0, .ref v0), (1, .int v1), (2, .int v2)]) (st' := [.int z27]) rfl ?_
        have e := Option.some.inj e; subst e; exact wp_iret (ty := .int) rfl rfl rfl c
      · refine wp_p (j := J_Y_node) 1 (pc' := 156) (lv' := [(3, .int 0), (0, .ref v0), (1, .int v1), (2, .int v2)]) (st' := [.int 0]) rfl ?_
        have e := Option.some.inj e; subst e; exact wp_iret (ty := .int) rfl rfl rfl c
    refine wp_b (pc' := 157) (st' := []) rfl rfl ((ts_d (x := v2) (lo := 0) 6 rfl ⟨h2, h5, h8, h14, h20, h23, trivial⟩).trans rfl) ?_
    refine wp_p (j := J_Y_node) 1 (pc' := 158) (lv' := [(3, .int 0), (0, .ref v0), (1, .int v1), (2, .int v2)]) (st' := [.int (-1)]) rfl ?_
    have e := Option.some.inj e; subst e; exact wp_iret (ty := .int) rfl rfl rfl c
def cL_Y_kid_24 (L : Nat) (xs : Nat → Int32) (Q : Option Value → ab_H → Prop) (v0 : Nat) (v2 : Int32) (g : g_S) (out : (Int32 × Int32) ⊕ (Int32)) : Prop := match out with
  | .inl s => wp (ab_ext L xs) J_Y_kid 24 [(0, .ref v0), (2, .int v2), (3, .int s.1), (4, .int s.2)] [] (hp g) Q
  | .inr s => wp (ab_ext L xs) J_Y_kid 48 [(3, .int s)] [] (hp g) Q
noncomputable def b_Y_kid_24 (v0 : Nat) (v2 : Int32) (v3 : Int32) (v4 : Int32) (g : g_S) : Option ((Int32 × Int32) ⊕ (Int32)) :=
  if v4 < v2 then
    if v3 = (-1) then
      some (.inr v3)
    else
      (rQ g 112 v0 52).bind fun z1 =>
      (aI g 0 z1 v3).bind fun z2 =>
      some (.inl (z2, v4 + 1))
  else
    some (.inr v3)
set_option maxRecDepth 20000 in
theorem y_Y_kid_24 {L : Nat} {xs : Nat → Int32} {Q : Option Value → ab_H → Prop} {v0 : Nat} {v2 : Int32} {v3 : Int32} {v4 : Int32} {g : g_S} {out : (Int32 × Int32) ⊕ (Int32)} (e : b_Y_kid_24 v0 v2 v3 v4 g = some out) (c : cL_Y_kid_24 L xs Q v0 v2 g out) : wp (ab_ext L xs) J_Y_kid 24 [(0, .ref v0), (2, .int v2), (3, .int v3), (4, .int v4)] [] (hp g) Q := by
  unfold b_Y_kid_24 at e
  refine wp_p (j := J_Y_kid) 2 (pc' := 27) (lv' := [(0, .ref v0), (2, .int v2), (3, .int v3), (4, .int v4)]) (st' := [.int v2, .int v4]) rfl ?_
  refine x_ge e rfl (fun e => ?_) (fun e => ?_)
  · refine wp_p (j := J_Y_kid) 2 (pc' := 32) (lv' := [(0, .ref v0), (2, .int v2), (3, .int v3), (4, .int v4)]) (st' := [.int (-1), .int v3]) rfl ?_
    refine x_eq e rfl (fun e => ?_) (fun e => ?_)
    · have e := Option.some.inj e; subst e; exact wp_lv (lv' := [(3, .int v3)]) rfl ⟨rfl, trivial⟩ c
    · refine wp_p (j := J_Y_kid) 1 (pc' := 36) (lv' := [(0, .ref v0), (2, .int v2), (3, .int v3), (4, .int v4)]) (st' := [.ref v0]) rfl ?_
      refine x_gQ e rfl rfl fd_12_52 rfl (fun z1 e => ?_)
      refine wp_p (j := J_Y_kid) 1 (pc' := 40) (lv' := [(0, .ref v0), (2, .int v2), (3, .int v3), (4, .int v4)]) (st' := [.int v3, .ref z1]) rfl ?_
      refine x_aI e rfl rfl (fun z2 e => ?_)
      refine wp_p (j := J_Y_kid) 3 (pc' := 24) (lv' := [(4, .int (v4 + 1)), (3, .int z2), (0, .ref v0), (2, .int v2)]) (st' := []) rfl ?_
      have e := Option.some.inj e; subst e; exact wp_lv (lv' := [(0, .ref v0), (2, .int v2), (3, .int z2), (4, .int (v4 + 1))]) rfl ⟨rfl, rfl, rfl, rfl, trivial⟩ c
  · have e := Option.some.inj e; subst e; exact wp_lv (lv' := [(3, .int v3)]) rfl ⟨rfl, trivial⟩ c
noncomputable def L_Y_kid_24 (v0 : Nat) (v2 : Int32) (v3 : Int32) (v4 : Int32) (g : g_S) : Option (Int32) := it (fun s : Int32 × Int32 => b_Y_kid_24 v0 v2 s.1 s.2 g) (v3, v4)
theorem l_Y_kid_24 {L : Nat} {xs : Nat → Int32} {Q : Option Value → ab_H → Prop} {v0 : Nat} {v2 : Int32} {v3 : Int32} {v4 : Int32} {g : g_S} {r : Int32} (e : L_Y_kid_24 v0 v2 v3 v4 g = some r) (c : cL_Y_kid_24 L xs Q v0 v2 g (.inr r)) : wp (ab_ext L xs) J_Y_kid 24 [(0, .ref v0), (2, .int v2), (3, .int v3), (4, .int v4)] [] (hp g) Q :=
  it_wp (P := fun s : Int32 × Int32 => wp (ab_ext L xs) J_Y_kid 24 [(0, .ref v0), (2, .int v2), (3, .int s.1), (4, .int s.2)] [] (hp g) Q) (E := fun r => cL_Y_kid_24 L xs Q v0 v2 g (.inr r)) (fun s out e c => y_Y_kid_24 e (by cases out <;> exact c)) e c
theorem L_Y_kid_24_eq (v0 : Nat) (v2 : Int32) (v3 : Int32) (v4 : Int32) (g : g_S) : L_Y_kid_24 v0 v2 v3 v4 g = itc (b_Y_kid_24 v0 v2 v3 v4 g) (fun s => L_Y_kid_24 v0 v2 s.1 s.2 g) := it_eq2 (fun s : Int32 × Int32 => b_Y_kid_24 v0 v2 s.1 s.2 g) (v3, v4)
noncomputable def M_Y_kid (v0 : Nat) (v1 : Int32) (v2 : Int32) (g : g_S) : Option Int32 :=
  (vc g 112 v0 (M_Y_there v0 v1 g)).bind fun z1 =>
  if z1 = 0 then
    some (-1)
  else
    if v2 < 0 then
      some (-1)
    else
      (rQ g 112 v0 50).bind fun z2 =>
      (aI g 0 z2 v1).bind fun z3 =>
      (L_Y_kid_24 v0 v2 z3 0 g).bind <| fun z6 =>
      some z6
set_option maxRecDepth 20000 in
theorem d_Y_kid {L : Nat} {xs : Nat → Int32} {Q : Option Value → ab_H → Prop} {v0 : Nat} {v1 : Int32} {v2 : Int32} {g : g_S} {out : Int32} (e : M_Y_kid v0 v1 v2 g = some out) (c : Q (some (.int out)) (hp g)) : mw (ab_ext L xs) J_Y_kid [.ref v0, .int v1, .int v2] (hp g) Q := by
  unfold M_Y_kid at e
  refine wp_p (j := J_Y_kid) 2 (pc' := 2) (lv' := [(0, .ref v0), (1, .int v1), (2, .int v2)]) (st' := [.int v1, .ref v0]) rfl ?_
  refine x_cv1 (As := [.int v1]) (rest := []) Value.int e rfl rfl rfl rfl rfl rfl (fun h => d_Y_there h ⟨rfl, rfl⟩) (fun z1 e => ?_)
  refine z_eq e rfl (fun e => ?_) (fun e => ?_)
  · refine wp_p (j := J_Y_kid) 1 (pc' := 13) (lv' := [(0, .ref v0), (1, .int v1), (2, .int v2)]) (st' := [.int (-1)]) rfl ?_
    have e := Option.some.inj e; subst e; exact wp_iret (ty := .int) rfl rfl rfl c
  · refine wp_p (j := J_Y_kid) 1 (pc' := 9) (lv' := [(0, .ref v0), (1, .int v1), (2, .int v2)]) (st' := [.int v2]) rfl ?_
    refine z_ge e rfl (fun e => ?_) (fun e => ?_)
    · refine wp_p (j := J_Y_kid) 1 (pc' := 13) (lv' := [(0, .ref v0), (1, .int v1), (2, .int v2)]) (st' := [.int (-1)]) rfl ?_
      have e := Option.some.inj e; subst e; exact wp_iret (ty := .int) rfl rfl rfl c
    · refine wp_p (j := J_Y_kid) 1 (pc' := 15) (lv' := [(0, .ref v0), (1, .int v1), (2, .int v2)]) (st' := [.ref v0]) rfl ?_
      refine x_gQ e rfl rfl fd_12_50 rfl (fun z2 e => ?_)
      refine wp_p (j := J_Y_kid) 1 (pc' := 19) (lv' := [(0, .ref v0), (1, .int v1), (2, .int v2)]) (st' := [.int v1, .ref z2]) rfl ?_
      refine x_aI e rfl rfl (fun z3 e => ?_)
      refine wp_p (j := J_Y_kid) 3 (pc' := 24) (lv' := [(4, .int 0), (3, .int z3), (0, .ref v0), (1, .int v1), (2, .int v2)]) (st' := []) rfl ?_
      obtain ⟨z6, h5, e⟩ := bd e
      refine wp_lv (lv' := [(0, .ref v0), (2, .int v2), (3, .int z3), (4, .int 0)]) rfl ⟨rfl, rfl, rfl, rfl, trivial⟩ ?_
      refine l_Y_kid_24 h5 ?_
      show wp (ab_ext L xs) J_Y_kid 48 [(3, .int z6)] [] (hp g) Q
      refine wp_p (j := J_Y_kid) 1 (pc' := 49) (lv' := [(3, .int z6)]) (st' := [.int z6]) rfl ?_
      have e := Option.some.inj e; subst e; exact wp_iret (ty := .int) rfl rfl rfl c
noncomputable def k_Y_name_66 (v0 : Nat) (g : g_S) : Option (Int32 × g_S) :=
  (rI g 112 v0 5).bind fun z1 =>
  some (z1, g)
set_option maxRecDepth 20000 in
theorem x_Y_name_66 {L : Nat} {xs : Nat → Int32} {Q : Option Value → ab_H → Prop} {v0 : Nat} {g : g_S} {out : Int32 × g_S} (e : k_Y_name_66 v0 g = some out) (c : Q (some (.int out.1)) (hp out.2)) : wp (ab_ext L xs) J_Y_name 66 [(0, .ref v0)] [] (hp g) Q := by
  unfold k_Y_name_66 at e
  refine wp_p (j := J_Y_name) 1 (pc' := 67) (lv' := [(0, .ref v0)]) (st' := [.ref v0]) rfl ?_
  refine x_gI e rfl rfl fd_12_5 rfl (fun z1 e => ?_)
  have e := Option.some.inj e; subst e; exact wp_iret (ty := .int) rfl rfl rfl c
noncomputable def M_Y_name (v0 : Nat) (v1 : Int32) (g : g_S) : Option (Int32 × g_S) :=
  (vc g 112 v0 (M_Y_there v0 v1 g)).bind fun z1 =>
  if z1 = 0 then
    some ((-1), g)
  else
    (wI g 112 v0 5 0).bind fun g2 =>
    (rQ g2 112 v0 46).bind fun z3 =>
    (aI g2 0 z3 v1).bind fun z4 =>
    if z4 = 17 then
      (rQ g2 112 v0 61).bind fun z5 =>
      (rQ g2 112 v0 62).bind fun z6 =>
      (aI g2 0 z6 v1).bind fun z7 =>
      (vc g2 112 v0 (M_Y_sayAll v0 z5 (400 * v1) z7 g2)).bind fun g8 =>
      k_Y_name_66 v0 g8
    else
      (rQ g2 112 v0 47).bind fun z9 =>
      (rQ g2 112 v0 48).bind fun z10 =>
      (aI g2 0 z10 v1).bind fun z11 =>
      (vc g2 112 v0 (M_Y_sayAll v0 z9 (8 * v1) z11 g2)).bind fun g12 =>
      k_Y_name_66 v0 g12
set_option maxRecDepth 20000 in
theorem d_Y_name {L : Nat} {xs : Nat → Int32} {Q : Option Value → ab_H → Prop} {v0 : Nat} {v1 : Int32} {g : g_S} {out : Int32 × g_S} (e : M_Y_name v0 v1 g = some out) (c : Q (some (.int out.1)) (hp out.2)) : mw (ab_ext L xs) J_Y_name [.ref v0, .int v1] (hp g) Q := by
  unfold M_Y_name at e
  refine wp_p (j := J_Y_name) 2 (pc' := 2) (lv' := [(0, .ref v0), (1, .int v1)]) (st' := [.int v1, .ref v0]) rfl ?_
  refine x_cv1 (As := [.int v1]) (rest := []) Value.int e rfl rfl rfl rfl rfl rfl (fun h => d_Y_there h ⟨rfl, rfl⟩) (fun z1 e => ?_)
  refine z_ne e rfl (fun e => ?_) (fun e => ?_)
  · refine wp_p (j := J_Y_name) 1 (pc' := 9) (lv' := [(0, .ref v0), (1, .int v1)]) (st' := [.int (-1)]) rfl ?_
    have e := Option.some.inj e; subst e; exact wp_iret (ty := .int) rfl rfl rfl c
  · refine wp_p (j := J_Y_name) 2 (pc' := 12) (lv' := [(0, .ref v0), (1, .int v1)]) (st' := [.int 0, .ref v0]) rfl ?_
    refine x_pI e rfl rfl fw_12_5 rfl (fun g2 e => ?_)
    refine wp_p (j := J_Y_name) 1 (pc' := 16) (lv' := [(0, .ref v0), (1, .int v1)]) (st' := [.ref v0]) rfl ?_
    refine x_gQ e rfl rfl fd_12_46 rfl (fun z3 e => ?_)
    refine wp_p (j := J_Y_name) 1 (pc' := 20) (lv' := [(0, .ref v0), (1, .int v1)]) (st' := [.int v1, .ref z3]) rfl ?_
    refine x_aI e rfl rfl (fun z4 e => ?_)
    refine wp_p (j := J_Y_name) 1 (pc' := 23) (lv' := [(0, .ref v0), (1, .int v1)]) (st' := [.int 17, .int z4]) rfl ?_
    refine x_ne e rfl (fun e => ?_) (fun e => ?_)
    · refine wp_p (j := J_Y_name) 2 (pc' := 28) (lv' := [(0, .ref v0), (1, .int v1)]) (st' := [.ref v0, .ref v0]) rfl ?_
      refine x_gQ e rfl rfl fd_12_61 rfl (fun z5 e => ?_)
      refine wp_p (j := J_Y_name) 4 (pc' := 37) (lv' := [(0, .ref v0), (1, .int v1)]) (st' := [.ref v0, .int (400 * v1), .ref z5, .ref v0]) rfl ?_
      refine x_gQ e rfl rfl fd_12_62 rfl (fun z6 e => ?_)
      refine wp_p (j := J_Y_name) 1 (pc' := 41) (lv' := [(0, .ref v0), (1, .int v1)]) (st' := [.int v1, .ref z6, .int (400 * v1), .ref z5, .ref v0]) rfl ?_
      refine x_aI e rfl rfl (fun z7 e => ?_)
      refine x_cv0 (As := [.ref z5, .int (400 * v1), .int z7]) (rest := []) e rfl rfl rfl rfl rfl rfl (fun h => d_Y_sayAll h ⟨rfl, rfl⟩) (fun g8 e => ?_)
      refine wp_p (j := J_Y_name) 1 (pc' := 66) (lv' := [(0, .ref v0), (1, .int v1)]) (st' := []) rfl ?_
      exact wp_lv (lv' := [(0, .ref v0)]) rfl ⟨rfl, trivial⟩ (x_Y_name_66 e c)
    · refine wp_p (j := J_Y_name) 2 (pc' := 50) (lv' := [(0, .ref v0), (1, .int v1)]) (st' := [.ref v0, .ref v0]) rfl ?_
      refine x_gQ e rfl rfl fd_12_47 rfl (fun z9 e => ?_)
      refine wp_p (j := J_Y_name) 4 (pc' := 58) (lv' := [(0, .ref v0), (1, .int v1)]) (st' := [.ref v0, .int (8 * v1), .ref z9, .ref v0]) rfl ?_
      refine x_gQ e rfl rfl fd_12_48 rfl (fun z10 e => ?_)
      refine wp_p (j := J_Y_name) 1 (pc' := 62) (lv' := [(0, .ref v0), (1, .int v1)]) (st' := [.int v1, .ref z10, .int (8 * v1), .ref z9, .ref v0]) rfl ?_
      refine x_aI e rfl rfl (fun z11 e => ?_)
      refine x_cv0 (As := [.ref z9, .int (8 * v1), .int z11]) (rest := []) e rfl rfl rfl rfl rfl rfl (fun h => d_Y_sayAll h ⟨rfl, rfl⟩) (fun g12 e => ?_)
      exact wp_lv (lv' := [(0, .ref v0)]) rfl ⟨rfl, trivial⟩ (x_Y_name_66 e c)
def cL_Y_fresh_20 (L : Nat) (xs : Nat → Int32) (Q : Option Value → ab_H → Prop) (v0 : Nat) (v1 : Int32) (v2 : Int32) (g : g_S) (out : (Int32) ⊕ (Int32)) : Prop := match out with
  | .inl s => wp (ab_ext L xs) J_Y_fresh 20 [(0, .ref v0), (1, .int v1), (2, .int v2), (3, .int s)] [] (hp g) Q
  | .inr s => wp (ab_ext L xs) J_Y_fresh 41 [(0, .ref v0), (1, .int v1), (2, .int v2), (3, .int s)] [] (hp g) Q
noncomputable def b_Y_fresh_20 (v0 : Nat) (v1 : Int32) (v2 : Int32) (v3 : Int32) (g : g_S) : Option ((Int32) ⊕ (Int32)) :=
  if v3 < 120 then
    (rQ g 112 v0 45).bind fun z1 =>
    (aI g 2 z1 v3).bind fun z2 =>
    if z2 = 0 then
      some (.inr v3)
    else
      some (.inl (v3 + 1))
  else
    some (.inr v3)
set_option maxRecDepth 20000 in
theorem y_Y_fresh_20 {L : Nat} {xs : Nat → Int32} {Q : Option Value → ab_H → Prop} {v0 : Nat} {v1 : Int32} {v2 : Int32} {v3 : Int32} {g : g_S} {out : (Int32) ⊕ (Int32)} (e : b_Y_fresh_20 v0 v1 v2 v3 g = some out) (c : cL_Y_fresh_20 L xs Q v0 v1 v2 g out) : wp (ab_ext L xs) J_Y_fresh 20 [(0, .ref v0), (1, .int v1), (2, .int v2), (3, .int v3)] [] (hp g) Q := by
  unfold b_Y_fresh_20 at e
  refine wp_p (j := J_Y_fresh) 2 (pc' := 23) (lv' := [(0, .ref v0), (1, .int v1), (2, .int v2), (3, .int v3)]) (st' := [.int 120, .int v3]) rfl ?_
  refine x_ge e rfl (fun e => ?_) (fun e => ?_)
  · refine wp_p (j := J_Y_fresh) 1 (pc' := 27) (lv' := [(0, .ref v0), (1, .int v1), (2, .int v2), (3, .int v3)]) (st' := [.ref v0]) rfl ?_
    refine x_gQ e rfl rfl fd_12_45 rfl (fun z1 e => ?_)
    refine wp_p (j := J_Y_fresh) 1 (pc' := 31) (lv' := [(0, .ref v0), (1, .int v1), (2, .int v2), (3, .int v3)]) (st' := [.int v3, .ref z1]) rfl ?_
    refine x_aB e rfl (.inr rfl) rfl (fun z2 e => ?_)
    refine z_eq e rfl (fun e => ?_) (fun e => ?_)
    · have e := Option.some.inj e; subst e; exact wp_lv (lv' := [(0, .ref v0), (1, .int v1), (2, .int v2), (3, .int v3)]) rfl ⟨rfl, rfl, rfl, rfl, trivial⟩ c
    · refine wp_p (j := J_Y_fresh) 2 (pc' := 20) (lv' := [(3, .int (v3 + 1)), (0, .ref v0), (1, .int v1), (2, .int v2)]) (st' := []) rfl ?_
      have e := Option.some.inj e; subst e; exact wp_lv (lv' := [(0, .ref v0), (1, .int v1), (2, .int v2), (3, .int (v3 + 1))]) rfl ⟨rfl, rfl, rfl, rfl, trivial⟩ c
  · have e := Option.some.inj e; subst e; exact wp_lv (lv' := [(0, .ref v0), (1, .int v1), (2, .int v2), (3, .int v3)]) rfl ⟨rfl, rfl, rfl, rfl, trivial⟩ c
noncomputable def L_Y_fresh_20 (v0 : Nat) (v1 : Int32) (v2 : Int32) (v3 : Int32) (g : g_S) : Option (Int32) := it (fun s : Int32 => b_Y_fresh_20 v0 v1 v2 s g) (v3)
theorem l_Y_fresh_20 {L : Nat} {xs : Nat → Int32} {Q : Option Value → ab_H → Prop} {v0 : Nat} {v1 : Int32} {v2 : Int32} {v3 : Int32} {g : g_S} {r : Int32} (e : L_Y_fresh_20 v0 v1 v2 v3 g = some r) (c : cL_Y_fresh_20 L xs Q v0 v1 v2 g (.inr r)) : wp (ab_ext L xs) J_Y_fresh 20 [(0, .ref v0), (1, .int v1), (2, .int v2), (3, .int v3)] [] (hp g) Q :=
  it_wp (P := fun s : Int32 => wp (ab_ext L xs) J_Y_fresh 20 [(0, .ref v0), (1, .int v1), (2, .int v2), (3, .int s)] [] (hp g) Q) (E := fun r => cL_Y_fresh_20 L xs Q v0 v1 v2 g (.inr r)) (fun s out e c => y_Y_fresh_20 e (by cases out <;> exact c)) e c
theorem L_Y_fresh_20_eq (v0 : Nat) (v1 : Int32) (v2 : Int32) (v3 : Int32) (g : g_S) : L_Y_fresh_20 v0 v1 v2 v3 g = itc (b_Y_fresh_20 v0 v1 v2 v3 g) (fun s => L_Y_fresh_20 v0 v1 v2 s g) := it_eq2 (fun s : Int32 => b_Y_fresh_20 v0 v1 v2 s g) (v3)
noncomputable def k_Y_fresh_225 (v0 : Nat) (v1 : Int32) (v3 : Int32) (g : g_S) : Option (Int32 × g_S) :=
  (rQ g 112 v0 51).bind fun z1 =>
  (sI g z1 v1 v3).bind fun g2 =>
  some (v3, g2)
set_option maxRecDepth 20000 in
theorem x_Y_fresh_225 {L : Nat} {xs : Nat → Int32} {Q : Option Value → ab_H → Prop} {v0 : Nat} {v1 : Int32} {v3 : Int32} {g : g_S} {out : Int32 × g_S} (e : k_Y_fresh_225 v0 v1 v3 g = some out) (c : Q (some (.int out.1)) (hp out.2)) : wp (ab_ext L xs) J_Y_fresh 225 [(0, .ref v0), (1, .int v1), (3, .int v3)] [] (hp g) Q := by
  unfold k_Y_fresh_225 at e
  refine wp_p (j := J_Y_fresh) 1 (pc' := 226) (lv' := [(0, .ref v0), (1, .int v1), (3, .int v3)]) (st' := [.ref v0]) rfl ?_
  refine x_gQ e rfl rfl fd_12_51 rfl (fun z1 e => ?_)
  refine wp_p (j := J_Y_fresh) 2 (pc' := 231) (lv' := [(0, .ref v0), (1, .int v1), (3, .int v3)]) (st' := [.int v3, .int v1, .ref z1]) rfl ?_
  refine x_sI e rfl rfl (fun g2 e => ?_)
  refine wp_p (j := J_Y_fresh) 1 (pc' := 233) (lv' := [(0, .ref v0), (1, .int v1), (3, .int v3)]) (st' := [.int v3]) rfl ?_
  have e := Option.some.inj e; subst e; exact wp_iret (ty := .int) rfl rfl rfl c
noncomputable def k_Y_fresh_41 (v0 : Nat) (v1 : Int32) (v2 : Int32) (v3 : Int32) (g : g_S) : Option (Int32 × g_S) :=
  if v3 = 120 then
    some ((-1), g)
  else
    if 20 < v2 then
      some ((-1), g)
    else
      (rQ g 112 v0 45).bind fun z1 =>
      (sZ g z1 v3 1).bind fun g2 =>
      (rI g2 112 v0 68).bind fun z3 =>
      (wI g2 112 v0 68 (z3 + 1)).bind fun g4 =>
      (rI g4 112 v0 69).bind fun z5 =>
      (wI g4 112 v0 69 (z5 + 1)).bind fun g6 =>
      (rQ g6 112 v0 55).bind fun z7 =>
      (rI g6 112 v0 69).bind fun z8 =>
      (sI g6 z7 v3 z8).bind fun g9 =>
      (rQ g9 112 v0 54).bind fun z10 =>
      (sI g9 z10 v3 v2).bind fun g11 =>
      (rQ g11 112 v0 49).bind fun z12 =>
      (sI g11 z12 v3 v1).bind fun g13 =>
      (rQ g13 112 v0 50).bind fun z14 =>
      (sI g13 z14 v3 (-1)).bind fun g15 =>
      (rQ g15 112 v0 51).bind fun z16 =>
      (sI g15 z16 v3 (-1)).bind fun g17 =>
      (rQ g17 112 v0 52).bind fun z18 =>
      (sI g17 z18 v3 (-1)).bind fun g19 =>
      (rQ g19 112 v0 53).bind fun z20 =>
      (sI g19 z20 v3 (-1)).bind fun g21 =>
      (rQ g21 112 v0 56).bind fun z22 =>
      (sI g21 z22 v3 0).bind fun g23 =>
      (rQ g23 112 v0 62).bind fun z24 =>
      (sI g23 z24 v3 0).bind fun g25 =>
      (rQ g25 112 v0 63).bind fun z26 =>
      (sZ g25 z26 v3 0).bind fun g27 =>
      (rQ g27 112 v0 48).bind fun z28 =>
      (sI g27 z28 v3 0).bind fun g29 =>
      (rQ g29 112 v0 65).bind fun z30 =>
      (sI g29 z30 v3 0).bind fun g31 =>
      (rQ g31 112 v0 66).bind fun z32 =>
      (sZ g31 z32 v3 0).bind fun g33 =>
      if v1 = (-1) then
        some (v3, g33)
      else
        (rQ g33 112 v0 53).bind fun z34 =>
        (rQ g33 112 v0 51).bind fun z35 =>
        (aI g33 0 z35 v1).bind fun z36 =>
        (sI g33 z34 v3 z36).bind fun g37 =>
        (rQ g37 112 v0 51).bind fun z38 =>
        (aI g37 0 z38 v1).bind fun z39 =>
        if z39 = (-1) then
          (rQ g37 112 v0 50).bind fun z40 =>
          (sI g37 z40 v1 v3).bind fun g41 =>
          k_Y_fresh_225 v0 v1 v3 g41
        else
          (rQ g37 112 v0 52).bind fun z42 =>
          (rQ g37 112 v0 51).bind fun z43 =>
          (aI g37 0 z43 v1).bind fun z44 =>
          (sI g37 z42 z44 v3).bind fun g45 =>
          k_Y_fresh_225 v0 v1 v3 g45
set_option maxRecDepth 20000 in
theorem x_Y_fresh_41 {L : Nat} {xs : Nat → Int32} {Q : Option Value → ab_H → Prop} {v0 : Nat} {v1 : Int32} {v2 : Int32} {v3 : Int32} {g : g_S} {out : Int32 × g_S} (e : k_Y_fresh_41 v0 v1 v2 v3 g = some out) (c : Q (some (.int out.1)) (hp out.2)) : wp (ab_ext L xs) J_Y_fresh 41 [(0, .ref v0), (1, .int v1), (2, .int v2), (3, .int v3)] [] (hp g) Q := by
  unfold k_Y_fresh_41 at e
  refine wp_p (j := J_Y_fresh) 2 (pc' := 44) (lv' := [(0, .ref v0), (1, .int v1), (2, .int v2), (3, .int v3)]) (st' := [.int 120, .int v3]) rfl ?_
  refine x_eq e rfl (fun e => ?_) (fun e => ?_)
  · refine wp_p (j := J_Y_fresh) 1 (pc' := 54) (lv' := [(0, .ref v0), (1, .int v1), (2, .int v2), (3, .int v3)]) (st' := [.int (-1)]) rfl ?_
    have e := Option.some.inj e; subst e; exact wp_iret (ty := .int) rfl rfl rfl c
  · refine wp_p (j := J_Y_fresh) 2 (pc' := 50) (lv' := [(0, .ref v0), (1, .int v1), (2, .int v2), (3, .int v3)]) (st' := [.int 20, .int v2]) rfl ?_
    refine x_le e rfl (fun e => ?_) (fun e => ?_)
    · refine wp_p (j := J_Y_fresh) 1 (pc' := 54) (lv' := [(0, .ref v0), (1, .int v1), (2, .int v2), (3, .int v3)]) (st' := [.int (-1)]) rfl ?_
      have e := Option.some.inj e; subst e; exact wp_iret (ty := .int) rfl rfl rfl c
    · refine wp_p (j := J_Y_fresh) 1 (pc' := 56) (lv' := [(0, .ref v0), (1, .int v1), (2, .int v2), (3, .int v3)]) (st' := [.ref v0]) rfl ?_
      refine x_gQ e rfl rfl fd_12_45 rfl (fun z1 e => ?_)
      refine wp_p (j := J_Y_fresh) 2 (pc' := 61) (lv' := [(0, .ref v0), (1, .int v1), (2, .int v2), (3, .int v3)]) (st' := [.int 1, .int v3, .ref z1]) rfl ?_
      refine x_sZ e rfl rfl (fun g2 e => ?_)
      refine wp_p (j := J_Y_fresh) 2 (pc' := 64) (lv' := [(0, .ref v0), (1, .int v1), (2, .int v2), (3, .int v3)]) (st' := [.ref v0, .ref v0]) rfl ?_
      refine x_gI e rfl rfl fd_12_68 rfl (fun z3 e => ?_)
      refine wp_p (j := J_Y_fresh) 2 (pc' := 69) (lv' := [(0, .ref v0), (1, .int v1), (2, .int v2), (3, .int v3)]) (st' := [.int (z3 + 1), .ref v0]) rfl ?_
      refine x_pI e rfl rfl fw_12_68 rfl (fun g4 e => ?_)
      refine wp_p (j := J_Y_fresh) 2 (pc' := 74) (lv' := [(0, .ref v0), (1, .int v1), (2, .int v2), (3, .int v3)]) (st' := [.ref v0, .ref v0]) rfl ?_
      refine x_gI e rfl rfl fd_12_69 rfl (fun z5 e => ?_)
      refine wp_p (j := J_Y_fresh) 2 (pc' := 79) (lv' := [(0, .ref v0), (1, .int v1), (2, .int v2), (3, .int v3)]) (st' := [.int (z5 + 1), .ref v0]) rfl ?_
      refine x_pI e rfl rfl fw_12_69 rfl (fun g6 e => ?_)
      refine wp_p (j := J_Y_fresh) 1 (pc' := 83) (lv' := [(0, .ref v0), (1, .int v1), (2, .int v2), (3, .int v3)]) (st' := [.ref v0]) rfl ?_
      refine x_gQ e rfl rfl fd_12_55 rfl (fun z7 e => ?_)
      refine wp_p (j := J_Y_fresh) 2 (pc' := 88) (lv' := [(0, .ref v0), (1, .int v1), (2, .int v2), (3, .int v3)]) (st' := [.ref v0, .int v3, .ref z7]) rfl ?_
      refine x_gI e rfl rfl fd_12_69 rfl (fun z8 e => ?_)
      refine x_sI e rfl rfl (fun g9 e => ?_)
      refine wp_p (j := J_Y_fresh) 1 (pc' := 93) (lv' := [(0, .ref v0), (1, .int v1), (2, .int v2), (3, .int v3)]) (st' := [.ref v0]) rfl ?_
      refine x_gQ e rfl rfl fd_12_54 rfl (fun z10 e => ?_)
      refine wp_p (j := J_Y_fresh) 2 (pc' := 98) (lv' := [(0, .ref v0), (1, .int v1), (2, .int v2), (3, .int v3)]) (st' := [.int v2, .int v3, .ref z10]) rfl ?_
      refine x_sI e rfl rfl (fun g11 e => ?_)
      refine wp_p (j := J_Y_fresh) 1 (pc' := 100) (lv' := [(0, .ref v0), (1, .int v1), (2, .int v2), (3, .int v3)]) (st' := [.ref v0]) rfl ?_
      refine x_gQ e rfl rfl fd_12_49 rfl (fun z12 e => ?_)
      refine wp_p (j := J_Y_fresh) 2 (pc' := 105) (lv' := [(0, .ref v0), (1, .int v1), (2, .int v2), (3, .int v3)]) (st' := [.int v1, .int v3, .ref z12]) rfl ?_
      refine x_sI e rfl rfl (fun g13 e => ?_)
      refine wp_p (j := J_Y_fresh) 1 (pc' := 107) (lv' := [(0, .ref v0), (1, .int v1), (2, .int v2), (3, .int v3)]) (st' := [.ref v0]) rfl ?_
      refine x_gQ e rfl rfl fd_12_50 rfl (fun z14 e => ?_)
      refine wp_p (j := J_Y_fresh) 2 (pc' := 112) (lv' := [(0, .ref v0), (1, .int v1), (2, .int v2), (3, .int v3)]) (st' := [.int (-1), .int v3, .ref z14]) rfl ?_
      refine x_sI e rfl rfl (fun g15 e => ?_)
      refine wp_p (j := J_Y_fresh) 1 (pc' := 114) (lv' := [(0, .ref v0), (1, .int v1), (2, .int v2), (3, .int v3)]) (st' := [.ref v0]) rfl ?_
      refine x_gQ e rfl rfl fd_12_51 rfl (fun z16 e => ?_)
      refine wp_p (j := J_Y_fresh) 2 (pc' := 119) (lv' := [(0, .ref v0), (1, .int v1), (2, .int v2), (3, .int v3)]) (st' := [.int (-1), .int v3, .ref z16]) rfl ?_
      refine x_sI e rfl rfl (fun g17 e => ?_)
      refine wp_p (j := J_Y_fresh) 1 (pc' := 121) (lv' := [(0, .ref v0), (1, .int v1), (2, .int v2), (3, .int v3)]) (st' := [.ref v0]) rfl ?_
      refine x_gQ e rfl rfl fd_12_52 rfl (fun z18 e => ?_)
      refine wp_p (j := J_Y_fresh) 2 (pc' := 126) (lv' := [(0, .ref v0), (1, .int v1), (2, .int v2), (3, .int v3)]) (st' := [.int (-1), .int v3, .ref z18]) rfl ?_
      refine x_sI e rfl rfl (fun g19 e => ?_)
      refine wp_p (j := J_Y_fresh) 1 (pc' := 128) (lv' := [(0, .ref v0), (1, .int v1), (2, .int v2), (3, .int v3)]) (st' := [.ref v0]) rfl ?_
      refine x_gQ e rfl rfl fd_12_53 rfl (fun z20 e => ?_)
      refine wp_p (j := J_Y_fresh) 2 (pc' := 133) (lv' := [(0, .ref v0), (1, .int v1), (2, .int v2), (3, .int v3)]) (st' := [.int (-1), .int v3, .ref z20]) rfl ?_
      refine x_sI e rfl rfl (fun g21 e => ?_)
      refine wp_p (j := J_Y_fresh) 1 (pc' := 135) (lv' := [(0, .ref v0), (1, .int v1), (2, .int v2), (3, .int v3)]) (st' := [.ref v0]) rfl ?_
      refine x_gQ e rfl rfl fd_12_56 rfl (fun z22 e => ?_)
      refine wp_p (j := J_Y_fresh) 2 (pc' := 140) (lv' := [(0, .ref v0), (1, .int v1), (2, .int v2), (3, .int v3)]) (st' := [.int 0, .int v3, .ref z22]) rfl ?_
      refine x_sI e rfl rfl (fun g23 e => ?_)
      refine wp_p (j := J_Y_fresh) 1 (pc' := 142) (lv' := [(0, .ref v0), (1, .int v1), (2, .int v2), (3, .int v3)]) (st' := [.ref v0]) rfl ?_
      refine x_gQ e rfl rfl fd_12_62 rfl (fun z24 e => ?_)
      refine wp_p (j := J_Y_fresh) 2 (pc' := 147) (lv' := [(0, .ref v0), (1, .int v1), (2, .int v2), (3, .int v3)]) (st' := [.int 0, .int v3, .ref z24]) rfl ?_
      refine x_sI e rfl rfl (fun g25 e => ?_)
      refine wp_p (j := J_Y_fresh) 1 (pc' := 149) (lv' := [(0, .ref v0), (1, .int v1), (2, .int v2), (3, .int v3)]) (st' := [.ref v0]) rfl ?_
      refine x_gQ e rfl rfl fd_12_63 rfl (fun z26 e => ?_)
      refine wp_p (j := J_Y_fresh) 2 (pc' := 154) (lv' := [(0, .ref v0), (1, .int v1), (2, .int v2), (3, .int v3)]) (st' := [.int 0, .int v3, .ref z26]) rfl ?_
      refine x_sZ e rfl rfl (fun g27 e => ?_)
      refine wp_p (j := J_Y_fresh) 1 (pc' := 156) (lv' := [(0, .ref v0), (1, .int v1), (2, .int v2), (3, .int v3)]) (st' := [.ref v0]) rfl ?_
      refine x_gQ e rfl rfl fd_12_48 rfl (fun z28 e => ?_)
      refine wp_p (j := J_Y_fresh) 2 (pc' := 161) (lv' := [(0, .ref v0), (1, .int v1), (2, .int v2), (3, .int v3)]) (st' := [.int 0, .int v3, .ref z28]) rfl ?_
      refine x_sI e rfl rfl (fun g29 e => ?_)
      refine wp_p (j := J_Y_fresh) 1 (pc' := 163) (lv' := [(0, .ref v0), (1, .int v1), (2, .int v2), (3, .int v3)]) (st' := [.ref v0]) rfl ?_
      refine x_gQ e rfl rfl fd_12_65 rfl (fun z30 e => ?_)
      refine wp_p (j := J_Y_fresh) 2 (pc' := 168) (lv' := [(0, .ref v0), (1, .int v1), (2, .int v2), (3, .int v3)]) (st' := [.int 0, .int v3, .ref z30]) rfl ?_
      refine x_sI e rfl rfl (fun g31 e => ?_)
      refine wp_p (j := J_Y_fresh) 1 (pc' := 170) (lv' := [(0, .ref v0), (1, .int v1), (2, .int v2), (3, .int v3)]) (st' := [.ref v0]) rfl ?_
      refine x_gQ e rfl rfl fd_12_66 rfl (fun z32 e => ?_)
      refine wp_p (j := J_Y_fresh) 2 (pc' := 175) (lv' := [(0, .ref v0), (1, .int v1), (2, .int v2), (3, .int v3)]) (st' := [.int 0, .int v3, .ref z32]) rfl ?_
      refine x_sZ e rfl rfl (fun g33 e => ?_)
      refine wp_p (j := J_Y_fresh) 2 (pc' := 178) (lv' := [(0, .ref v0), (1, .int v1), (2, .int v2), (3, .int v3)]) (st' := [.int (-1), .int v1]) rfl ?_
      refine x_eq e rfl (fun e => ?_) (fun e => ?_)
      · refine wp_p (j := J_Y_fresh) 1 (pc' := 233) (lv' := [(0, .ref v0), (1, .int v1), (2, .int v2), (3, .int v3)]) (st' := [.int v3]) rfl ?_
        have e := Option.some.inj e; subst e; exact wp_iret (ty := .int) rfl rfl rfl c
      · refine wp_p (j := J_Y_fresh) 1 (pc' := 182) (lv' := [(0, .ref v0), (1, .int v1), (2, .int v2), (3, .int v3)]) (st' := [.ref v0]) rfl ?_
        refine x_gQ e rfl rfl fd_12_53 rfl (fun z34 e => ?_)
        refine wp_p (j := J_Y_fresh) 2 (pc' := 187) (lv' := [(0, .ref v0), (1, .int v1), (2, .int v2), (3, .int v3)]) (st' := [.ref v0, .int v3, .ref z34]) rfl ?_
        refine x_gQ e rfl rfl fd_12_51 rfl (fun z35 e => ?_)
        refine wp_p (j := J_Y_fresh) 1 (pc' := 191) (lv' := [(0, .ref v0), (1, .int v1), (2, .int v2), (3, .int v3)]) (st' := [.int v1, .ref z35, .int v3, .ref z34]) rfl ?_
        refine x_aI e rfl rfl (fun z36 e => ?_)
        refine x_sI e rfl rfl (fun g37 e => ?_)
        refine wp_p (j := J_Y_fresh) 1 (pc' := 194) (lv' := [(0, .ref v0), (1, .int v1), (2, .int v2), (3, .int v3)]) (st' := [.ref v0]) rfl ?_
        refine x_gQ e rfl rfl fd_12_51 rfl (fun z38 e => ?_)
        refine wp_p (j := J_Y_fresh) 1 (pc' := 198) (lv' := [(0, .ref v0), (1, .int v1), (2, .int v2), (3, .int v3)]) (st' := [.int v1, .ref z38]) rfl ?_
        refine x_aI e rfl rfl (fun z39 e => ?_)
        refine wp_p (j := J_Y_fresh) 1 (pc' := 200) (lv' := [(0, .ref v0), (1, .int v1), (2, .int v2), (3, .int v3)]) (st' := [.int (-1), .int z39]) rfl ?_
        refine x_ne e rfl (fun e => ?_) (fun e => ?_)
        · refine wp_p (j := J_Y_fresh) 1 (pc' := 204) (lv' := [(0, .ref v0), (1, .int v1), (2, .int v2), (3, .int v3)]) (st' := [.ref v0]) rfl ?_
          refine x_gQ e rfl rfl fd_12_50 rfl (fun z40 e => ?_)
          refine wp_p (j := J_Y_fresh) 2 (pc' := 209) (lv' := [(0, .ref v0), (1, .int v1), (2, .int v2), (3, .int v3)]) (st' := [.int v3, .int v1, .ref z40]) rfl ?_
          refine x_sI e rfl rfl (fun g41 e => ?_)
          refine wp_p (j := J_Y_fresh) 1 (pc' := 225) (lv' := [(0, .ref v0), (1, .int v1), (2, .int v2), (3, .int v3)]) (st' := []) rfl ?_
          exact wp_lv (lv' := [(0, .ref v0), (1, .int v1), (3, .int v3)]) rfl ⟨rfl, rfl, rfl, trivial⟩ (x_Y_fresh_225 e c)
        · refine wp_p (j := J_Y_fresh) 1 (pc' := 214) (lv' := [(0, .ref v0), (1, .int v1), (2, .int v2), (3, .int v3)]) (st' := [.ref v0]) rfl ?_
          refine x_gQ e rfl rfl fd_12_52 rfl (fun z42 e => ?_)
          refine wp_p (j := J_Y_fresh) 1 (pc' := 218) (lv' := [(0, .ref v0), (1, .int v1), (2, .int v2), (3, .int v3)]) (st' := [.ref v0, .ref z42]) rfl ?_
          refine x_gQ e rfl rfl fd_12_51 rfl (fun z43 e => ?_)
          refine wp_p (j := J_Y_fresh) 1 (pc' := 222) (lv' := [(0, .ref v0), (1, .int v1), (2, .int v2), (3, .int v3)]) (st' := [.int v1, .ref z43, .ref z42]) rfl ?_
          refine x_aI e rfl rfl (fun z44 e => ?_)
          refine wp_p (j := J_Y_fresh) 1 (pc' := 224) (lv' := [(0, .ref v0), (1, .int v1), (2, .int v2), (3, .int v3)]) (st' := [.int v3, .int z44, .ref z42]) rfl ?_
          refine x_sI e rfl rfl (fun g45 e => ?_)
          exact wp_lv (lv' := [(0, .ref v0), (1, .int v1), (3, .int v3)]) rfl ⟨rfl, rfl, rfl, trivial⟩ (x_Y_fresh_225 e c)
noncomputable def k_Y_fresh_17 (v0 : Nat) (v1 : Int32) (w0 : Int32) (g : g_S) : Option (Int32 × g_S) :=
  (L_Y_fresh_20 v0 v1 w0 0 g).bind <| fun z3 =>
  k_Y_fresh_41 v0 v1 w0 z3 g
set_option maxRecDepth 20000 in
theorem x_Y_fresh_17 {L : Nat} {xs : Nat → Int32} {Q : Option Value → ab_H → Prop} {v0 : Nat} {v1 : Int32} {w0 : Int32} {g : g_S} {out : Int32 × g_S} (e : k_Y_fresh_17 v0 v1 w0 g = some out) (c : Q (some (.int out.1)) (hp out.2)) : wp (ab_ext L xs) J_Y_fresh 17 [(0, .ref v0), (1, .int v1)] [.int w0] (hp g) Q := by
  unfold k_Y_fresh_17 at e
  refine wp_p (j := J_Y_fresh) 3 (pc' := 20) (lv' := [(3, .int 0), (2, .int w0), (0, .ref v0), (1, .int v1)]) (st' := []) rfl ?_
  obtain ⟨z3, h2, e⟩ := bd e
  refine wp_lv (lv' := [(0, .ref v0), (1, .int v1), (2, .int w0), (3, .int 0)]) rfl ⟨rfl, rfl, rfl, rfl, trivial⟩ ?_
  refine l_Y_fresh_20 h2 ?_
  show wp (ab_ext L xs) J_Y_fresh 41 [(0, .ref v0), (1, .int v1), (2, .int w0), (3, .int z3)] [] (hp g) Q
  exact wp_lv (lv' := [(0, .ref v0), (1, .int v1), (2, .int w0), (3, .int z3)]) rfl ⟨rfl, rfl, rfl, rfl, trivial⟩ (x_Y_fresh_41 e c)
noncomputable def M_Y_fresh (v0 : Nat) (v1 : Int32) (g : g_S) : Option (Int32 × g_S) :=
  if v1 = (-1) then
    k_Y_fresh_17 v0 v1 0 g
  else
    (rQ g 112 v0 54).bind fun z1 =>
    (aI g 0 z1 v1).bind fun z2 =>
    k_Y_fresh_17 v0 v1 (z2 + 1) g
set_option maxRecDepth 20000 in
theorem d_Y_fresh {L : Nat} {xs : Nat → Int32} {Q : Option Value → ab_H → Prop} {v0 : Nat} {v1 : Int32} {g : g_S} {out : Int32 × g_S} (e : M_Y_fresh v0 v1 g = some out) (c : Q (some (.int out.1)) (hp out.2)) : mw (ab_ext L xs) J_Y_fresh [.ref v0, .int v1] (hp g) Q := by
  unfold M_Y_fresh at e
  refine wp_p (j := J_Y_fresh) 2 (pc' := 2) (lv' := [(0, .ref v0), (1, .int v1)]) (st' := [.int (-1), .int v1]) rfl ?_
  refine x_ne e rfl (fun e => ?_) (fun e => ?_)
  · refine wp_p (j := J_Y_fresh) 2 (pc' := 17) (lv' := [(0, .ref v0), (1, .int v1)]) (st' := [.int 0]) rfl ?_
    exact wp_lv (lv' := [(0, .ref v0), (1, .int v1)]) rfl ⟨rfl, rfl, trivial⟩ (x_Y_fresh_17 e c)
  · refine wp_p (j := J_Y_fresh) 1 (pc' := 10) (lv' := [(0, .ref v0), (1, .int v1)]) (st' := [.ref v0]) rfl ?_
    refine x_gQ e rfl rfl fd_12_54 rfl (fun z1 e => ?_)
    refine wp_p (j := J_Y_fresh) 1 (pc' := 14) (lv' := [(0, .ref v0), (1, .int v1)]) (st' := [.int v1, .ref z1]) rfl ?_
    refine x_aI e rfl rfl (fun z2 e => ?_)
    refine wp_p (j := J_Y_fresh) 2 (pc' := 17) (lv' := [(0, .ref v0), (1, .int v1)]) (st' := [.int (z2 + 1)]) rfl ?_
    exact wp_lv (lv' := [(0, .ref v0), (1, .int v1)]) rfl ⟨rfl, rfl, trivial⟩ (x_Y_fresh_17 e c)
def cL_Y_emptyTree_2 (L : Nat) (xs : Nat → Int32) (Q : Option Value → ab_H → Prop) (v0 : Nat) (out : (Int32 × g_S) ⊕ (g_S)) : Prop := match out with
  | .inl s => wp (ab_ext L xs) J_Y_emptyTree 2 [(0, .ref v0), (1, .int s.1)] [] (hp s.2) Q
  | .inr s => wp (ab_ext L xs) J_Y_emptyTree 21 [(0, .ref v0)] [] (hp s) Q
noncomputable def b_Y_emptyTree_2 (v0 : Nat) (v1 : Int32) (g : g_S) : Option ((Int32 × g_S) ⊕ (g_S)) :=
  if v1 < 120 then
    (rQ g 112 v0 45).bind fun z1 =>
    (sZ g z1 v1 0).bind fun g2 =>
    some (.inl (v1 + 1, g2))
  else
    some (.inr g)
set_option maxRecDepth 20000 in
theorem y_Y_emptyTree_2 {L : Nat} {xs : Nat → Int32} {Q : Option Value → ab_H → Prop} {v0 : Nat} {v1 : Int32} {g : g_S} {out : (Int32 × g_S) ⊕ (g_S)} (e : b_Y_emptyTree_2 v0 v1 g = some out) (c : cL_Y_emptyTree_2 L xs Q v0 out) : wp (ab_ext L xs) J_Y_emptyTree 2 [(0, .ref v0), (1, .int v1)] [] (hp g) Q := by
  unfold b_Y_emptyTree_2 at e
  refine wp_p (j := J_Y_emptyTree) 2 (pc' := 5) (lv' := [(0, .ref v0), (1, .int v1)]) (st' := [.int 120, .int v1]) rfl ?_
  refine x_ge e rfl (fun e => ?_) (fun e => ?_)
  · refine wp_p (j := J_Y_emptyTree) 1 (pc' := 9) (lv' := [(0, .ref v0), (1, .int v1)]) (st' := [.ref v0]) rfl ?_
    refine x_gQ e rfl rfl fd_12_45 rfl (fun z1 e => ?_)
    refine wp_p (j := J_Y_emptyTree) 2 (pc' := 14) (lv' := [(0, .ref v0), (1, .int v1)]) (st' := [.int 0, .int v1, .ref z1]) rfl ?_
    refine x_sZ e rfl rfl (fun g2 e => ?_)
    refine wp_p (j := J_Y_emptyTree) 2 (pc' := 2) (lv' := [(1, .int (v1 + 1)), (0, .ref v0)]) (st' := []) rfl ?_
    have e := Option.some.inj e; subst e; exact wp_lv (lv' := [(0, .ref v0), (1, .int (v1 + 1))]) rfl ⟨rfl, rfl, trivial⟩ c
  · have e := Option.some.inj e; subst e; exact wp_lv (lv' := [(0, .ref v0)]) rfl ⟨rfl, trivial⟩ c
noncomputable def L_Y_emptyTree_2 (v0 : Nat) (v1 : Int32) (g : g_S) : Option (g_S) := it (fun s : Int32 × g_S => b_Y_emptyTree_2 v0 s.1 s.2) (v1, g)
theorem l_Y_emptyTree_2 {L : Nat} {xs : Nat → Int32} {Q : Option Value → ab_H → Prop} {v0 : Nat} {v1 : Int32} {g : g_S} {r : g_S} (e : L_Y_emptyTree_2 v0 v1 g = some r) (c : cL_Y_emptyTree_2 L xs Q v0 (.inr r)) : wp (ab_ext L xs) J_Y_emptyTree 2 [(0, .ref v0), (1, .int v1)] [] (hp g) Q :=
  it_wp (P := fun s : Int32 × g_S => wp (ab_ext L xs) J_Y_emptyTree 2 [(0, .ref v0), (1, .int s.1)] [] (hp s.2) Q) (E := fun r => cL_Y_emptyTree_2 L xs Q v0 (.inr r)) (fun s out e c => y_Y_emptyTree_2 e (by cases out <;> exact c)) e c
theorem L_Y_emptyTree_2_eq (v0 : Nat) (v1 : Int32) (g : g_S) : L_Y_emptyTree_2 v0 v1 g = itc (b_Y_emptyTree_2 v0 v1 g) (fun s => L_Y_emptyTree_2 v0 s.1 s.2) := it_eq2 (fun s : Int32 × g_S => b_Y_emptyTree_2 v0 s.1 s.2) (v1, g)
noncomputable def M_Y_emptyTree (v0 : Nat) (g : g_S) : Option g_S :=
  (L_Y_emptyTree_2 v0 0 g).bind <| fun g3 =>
  (wI g3 112 v0 68 0).bind fun g4 =>
  c2 (vc g4 112 v0 (M_Y_fresh v0 (-1) g4)) fun z5 g6 =>
  (rQ g6 112 v0 46).bind fun z7 =>
  (sI g6 z7 z5 0).bind fun g8 =>
  (rQ g8 112 v0 47).bind fun z9 =>
  (sB g8 z9 0 100).bind fun g10 =>
  (rQ g10 112 v0 47).bind fun z11 =>
  (sB g10 z11 1 105).bind fun g12 =>
  (rQ g12 112 v0 47).bind fun z13 =>
  (sB g12 z13 2 118).bind fun g14 =>
  (rQ g14 112 v0 48).bind fun z15 =>
  (sI g14 z15 0 3).bind fun g16 =>
  some g16
set_option maxRecDepth 20000 in
theorem d_Y_emptyTree {L : Nat} {xs : Nat → Int32} {Q : Option Value → ab_H → Prop} {v0 : Nat} {g : g_S} {out : g_S} (e : M_Y_emptyTree v0 g = some out) (c : Q none (hp out)) : mw (ab_ext L xs) J_Y_emptyTree [.ref v0] (hp g) Q := by
  unfold M_Y_emptyTree at e
  refine wp_p (j := J_Y_emptyTree) 2 (pc' := 2) (lv' := [(1, .int 0), (0, .ref v0)]) (st' := []) rfl ?_
  obtain ⟨g3, h2, e⟩ := bd e
  refine wp_lv (lv' := [(0, .ref v0), (1, .int 0)]) rfl ⟨rfl, rfl, trivial⟩ ?_
  refine l_Y_emptyTree_2 h2 ?_
  show wp (ab_ext L xs) J_Y_emptyTree 21 [(0, .ref v0)] [] (hp g3) Q
  refine wp_p (j := J_Y_emptyTree) 2 (pc' := 23) (lv' := [(0, .ref v0)]) (st' := [.int 0, .ref v0]) rfl ?_
  refine x_pI e rfl rfl fw_12_68 rfl (fun g4 e => ?_)
  refine wp_p (j := J_Y_emptyTree) 2 (pc' := 28) (lv' := [(0, .ref v0)]) (st' := [.int (-1), .ref v0]) rfl ?_
  refine x_cv2 (As := [.int (-1)]) (rest := []) Value.int e rfl rfl rfl rfl rfl rfl (fun h => d_Y_fresh h ⟨rfl, rfl⟩) (fun z5 g6 e => ?_)
  refine wp_p (j := J_Y_emptyTree) 2 (pc' := 33) (lv' := [(1, .int z5), (0, .ref v0)]) (st' := [.ref v0]) rfl ?_
  refine x_gQ e rfl rfl fd_12_46 rfl (fun z7 e => ?_)
  refine wp_p (j := J_Y_emptyTree) 2 (pc' := 38) (lv' := [(1, .int z5), (0, .ref v0)]) (st' := [.int 0, .int z5, .ref z7]) rfl ?_
  refine x_sI e rfl rfl (fun g8 e => ?_)
  refine wp_p (j := J_Y_emptyTree) 1 (pc' := 40) (lv' := [(1, .int z5), (0, .ref v0)]) (st' := [.ref v0]) rfl ?_
  refine x_gQ e rfl rfl fd_12_47 rfl (fun z9 e => ?_)
  refine wp_p (j := J_Y_emptyTree) 2 (pc' := 46) (lv' := [(1, .int z5), (0, .ref v0)]) (st' := [.int 100, .int 0, .ref z9]) rfl ?_
  refine x_sB e rfl rfl (fun g10 e => ?_)
  refine wp_p (j := J_Y_emptyTree) 1 (pc' := 48) (lv' := [(1, .int z5), (0, .ref v0)]) (st' := [.ref v0]) rfl ?_
  refine x_gQ e rfl rfl fd_12_47 rfl (fun z11 e => ?_)
  refine wp_p (j := J_Y_emptyTree) 2 (pc' := 54) (lv' := [(1, .int z5), (0, .ref v0)]) (st' := [.int 105, .int 1, .ref z11]) rfl ?_
  refine x_sB e rfl rfl (fun g12 e => ?_)
  refine wp_p (j := J_Y_emptyTree) 1 (pc' := 56) (lv' := [(1, .int z5), (0, .ref v0)]) (st' := [.ref v0]) rfl ?_
  refine x_gQ e rfl rfl fd_12_47 rfl (fun z13 e => ?_)
  refine wp_p (j := J_Y_emptyTree) 2 (pc' := 62) (lv' := [(1, .int z5), (0, .ref v0)]) (st' := [.int 118, .int 2, .ref z13]) rfl ?_
  refine x_sB e rfl rfl (fun g14 e => ?_)
  refine wp_p (j := J_Y_emptyTree) 1 (pc' := 64) (lv' := [(1, .int z5), (0, .ref v0)]) (st' := [.ref v0]) rfl ?_
  refine x_gQ e rfl rfl fd_12_48 rfl (fun z15 e => ?_)
  refine wp_p (j := J_Y_emptyTree) 2 (pc' := 69) (lv' := [(1, .int z5), (0, .ref v0)]) (st' := [.int 3, .int 0, .ref z15]) rfl ?_
  refine x_sI e rfl rfl (fun g16 e => ?_)
  have e := Option.some.inj e; subst e; exact wp_vret rfl rfl c
noncomputable def M_Y_init (v0 : Nat) (g : g_S) : Option g_S :=
  c2 (nA g 1 2000) fun z1 g2 =>
  (wR g2 112 v0 0 (some z1)).bind fun g3 =>
  c2 (nA g3 1 2000) fun z4 g5 =>
  (wR g5 112 v0 2 (some z4)).bind fun g6 =>
  c2 (nA g6 1 8000) fun z7 g8 =>
  (wR g8 112 v0 4 (some z7)).bind fun g9 =>
  c2 (nA g9 1 9900) fun z10 g11 =>
  (wR g11 112 v0 6 (some z10)).bind fun g12 =>
  c2 (nA g12 0 66) fun z13 g14 =>
  (wR g14 112 v0 7 (some z13)).bind fun g15 =>
  c2 (nA g15 0 66) fun z16 g17 =>
  (wR g17 112 v0 8 (some z16)).bind fun g18 =>
  c2 (nA g18 1 2200) fun z19 g20 =>
  (wR g20 112 v0 9 (some z19)).bind fun g21 =>
  c2 (nA g21 0 2100) fun z22 g23 =>
  (wR g23 112 v0 10 (some z22)).bind fun g24 =>
  c2 (nA g24 0 2100) fun z25 g26 =>
  (wR g26 112 v0 11 (some z25)).bind fun g27 =>
  c2 (nA g27 1 30000) fun z28 g29 =>
  (wR g29 112 v0 17 (some z28)).bind fun g30 =>
  c2 (nA g30 0 20) fun z31 g32 =>
  (wR g32 112 v0 18 (some z31)).bind fun g33 =>
  c2 (nA g33 0 12) fun z34 g35 =>
  (wR g35 112 v0 19 (some z34)).bind fun g36 =>
  c2 (nA g36 1 192) fun z37 g38 =>
  (wR g38 112 v0 20 (some z37)).bind fun g39 =>
  c2 (nA g39 0 12) fun z40 g41 =>
  (wR g41 112 v0 21 (some z40)).bind fun g42 =>
  c2 (nA g42 0 12) fun z43 g44 =>
  (wR g44 112 v0 22 (some z43)).bind fun g45 =>
  c2 (nA g45 2 20) fun z46 g47 =>
  (wR g47 112 v0 23 (some z46)).bind fun g48 =>
  c2 (nA g48 2 20) fun z49 g50 =>
  (wR g50 112 v0 24 (some z49)).bind fun g51 =>
  c2 (nA g51 0 8) fun z52 g53 =>
  (wR g53 112 v0 28 (some z52)).bind fun g54 =>
  c2 (nA g54 0 8) fun z55 g56 =>
  (wR g56 112 v0 29 (some z55)).bind fun g57 =>
  c2 (nA g57 1 480) fun z58 g59 =>
  (wR g59 112 v0 31 (some z58)).bind fun g60 =>
  c2 (nA g60 0 20) fun z61 g62 =>
  (wR g62 112 v0 32 (some z61)).bind fun g63 =>
  c2 (nA g63 0 20) fun z64 g65 =>
  (wR g65 112 v0 33 (some z64)).bind fun g66 =>
  c2 (nA g66 0 20) fun z67 g68 =>
  (wR g68 112 v0 34 (some z67)).bind fun g69 =>
  c2 (nA g69 1 400) fun z70 g71 =>
  (wR g71 112 v0 36 (some z70)).bind fun g72 =>
  c2 (nA g72 1 16) fun z73 g74 =>
  (wR g74 112 v0 43 (some z73)).bind fun g75 =>
  c2 (nA g75 2 120) fun z76 g77 =>
  (wR g77 112 v0 45 (some z76)).bind fun g78 =>
  c2 (nA g78 0 120) fun z79 g80 =>
  (wR g80 112 v0 46 (some z79)).bind fun g81 =>
  c2 (nA g81 1 960) fun z82 g83 =>
  (wR g83 112 v0 47 (some z82)).bind fun g84 =>
  c2 (nA g84 0 120) fun z85 g86 =>
  (wR g86 112 v0 48 (some z85)).bind fun g87 =>
  c2 (nA g87 0 120) fun z88 g89 =>
  (wR g89 112 v0 49 (some z88)).bind fun g90 =>
  c2 (nA g90 0 120) fun z91 g92 =>
  (wR g92 112 v0 50 (some z91)).bind fun g93 =>
  c2 (nA g93 0 120) fun z94 g95 =>
  (wR g95 112 v0 51 (some z94)).bind fun g96 =>
  c2 (nA g96 0 120) fun z97 g98 =>
  (wR g98 112 v0 52 (some z97)).bind fun g99 =>
  c2 (nA g99 0 120) fun z100 g101 =>
  (wR g101 112 v0 53 (some z100)).bind fun g102 =>
  c2 (nA g102 0 120) fun z103 g104 =>
  (wR g104 112 v0 54 (some z103)).bind fun g105 =>
  c2 (nA g105 0 120) fun z106 g107 =>
  (wR g107 112 v0 55 (some z106)).bind fun g108 =>
  c2 (nA g108 0 120) fun z109 g110 =>
  (wR g110 112 v0 56 (some z109)).bind fun g111 =>
  c2 (nA g111 1 3840) fun z112 g113 =>
  (wR g113 112 v0 57 (some z112)).bind fun g114 =>
  c2 (nA g114 0 480) fun z115 g116 =>
  (wR g116 112 v0 58 (some z115)).bind fun g117 =>
  c2 (nA g117 1 28800) fun z118 g119 =>
  (wR g119 112 v0 59 (some z118)).bind fun g120 =>
  c2 (nA g120 0 480) fun z121 g122 =>
  (wR g122 112 v0 60 (some z121)).bind fun g123 =>
  c2 (nA g123 1 48000) fun z124 g125 =>
  (wR g125 112 v0 61 (some z124)).bind fun g126 =>
  c2 (nA g126 0 120) fun z127 g128 =>
  (wR g128 112 v0 62 (some z127)).bind fun g129 =>
  c2 (nA g129 2 120) fun z130 g131 =>
  (wR g131 112 v0 63 (some z130)).bind fun g132 =>
  c2 (nA g132 1 2880) fun z133 g134 =>
  (wR g134 112 v0 64 (some z133)).bind fun g135 =>
  c2 (nA g135 0 120) fun z136 g137 =>
  (wR g137 112 v0 65 (some z136)).bind fun g138 =>
  c2 (nA g138 2 120) fun z139 g140 =>
  (wR g140 112 v0 66 (some z139)).bind fun g141 =>
  c2 (nA g141 0 120) fun z142 g143 =>
  (wR g143 112 v0 67 (some z142)).bind fun g144 =>
  c2 (nA g144 0 40) fun z145 g146 =>
  (wR g146 112 v0 71 (some z145)).bind fun g147 =>
  c2 (nA g147 0 40) fun z148 g149 =>
  (wR g149 112 v0 72 (some z148)).bind fun g150 =>
  c2 (nA g150 0 22) fun z151 g152 =>
  (wR g152 112 v0 73 (some z151)).bind fun g153 =>
  c2 (nA g153 1 2000) fun z154 g155 =>
  (wR g155 112 v0 75 (some z154)).bind fun g156 =>
  c2 (nA g156 1 8) fun z157 g158 =>
  (wR g158 112 v0 78 (some z157)).bind fun g159 =>
  c2 (nA g159 1 32) fun z160 g161 =>
  (wR g161 112 v0 81 (some z160)).bind fun g162 =>
  c2 (nA g162 0 4) fun z163 g164 =>
  (wR g164 112 v0 82 (some z163)).bind fun g165 =>
  c2 (nA g165 1 240) fun z166 g167 =>
  (wR g167 112 v0 83 (some z166)).bind fun g168 =>
  c2 (nA g168 0 4) fun z169 g170 =>
  (wR g170 112 v0 84 (some z169)).bind fun g171 =>
  c2 (nA g171 0 2000) fun z172 g173 =>
  (wR g173 112 v0 86 (some z172)).bind fun g174 =>
  c2 (nA g174 1 8) fun z175 g176 =>
  (wR g176 112 v0 87 (some z175)).bind fun g177 =>
  c2 (nA g177 1 60) fun z178 g179 =>
  (wR g179 112 v0 88 (some z178)).bind fun g180 =>
  c2 (nA g180 0 41) fun z181 g182 =>
  (wR g182 112 v0 90 (some z181)).bind fun g183 =>
  c2 (nA g183 0 123) fun z184 g185 =>
  (wR g185 112 v0 91 (some z184)).bind fun g186 =>
  c2 (nA g186 1 984) fun z187 g188 =>
  (wR g188 112 v0 92 (some z187)).bind fun g189 =>
  c2 (nA g189 0 123) fun z190 g191 =>
  (wR g191 112 v0 93 (some z190)).bind fun g192 =>
  c2 (nA g192 0 492) fun z193 g194 =>
  (wR g194 112 v0 94 (some z193)).bind fun g195 =>
  c2 (nA g195 0 492) fun z196 g197 =>
  (wR g197 112 v0 95 (some z196)).bind fun g198 =>
  c2 (nA g198 1 3936) fun z199 g200 =>
  (wR g200 112 v0 96 (some z199)).bind fun g201 =>
  c2 (nA g201 0 41) fun z202 g203 =>
  (wR g203 112 v0 97 (some z202)).bind fun g204 =>
  c2 (nA g204 0 451) fun z205 g206 =>
  (wR g206 112 v0 98 (some z205)).bind fun g207 =>
  c2 (nA g207 0 451) fun z208 g209 =>
  (wR g209 112 v0 99 (some z208)).bind fun g210 =>
  c2 (nA g210 1 400) fun z211 g212 =>
  (wR g212 112 v0 101 (some z211)).bind fun g213 =>
  c2 (nA g213 0 11) fun z214 g215 =>
  (wR g215 112 v0 102 (some z214)).bind fun g216 =>
  c2 (nA g216 0 11) fun z217 g218 =>
  (wR g218 112 v0 103 (some z217)).bind fun g219 =>
  c2 (nA g219 0 1320) fun z220 g221 =>
  (wR g221 112 v0 105 (some z220)).bind fun g222 =>
  (wI g222 112 v0 106 48).bind fun g223 =>
  c2 (nA g223 0 120) fun z224 g225 =>
  (wR g225 112 v0 107 (some z224)).bind fun g226 =>
  c2 (nA g226 2 120) fun z227 g228 =>
  (wR g228 112 v0 108 (some z227)).bind fun g229 =>
  c2 (nA g229 0 120) fun z230 g231 =>
  (wR g231 112 v0 109 (some z230)).bind fun g232 =>
  c2 (nA g232 0 120) fun z233 g234 =>
  (wR g234 112 v0 110 (some z233)).bind fun g235 =>
  c2 (nA g235 0 120) fun z236 g237 =>
  (wR g237 112 v0 111 (some z236)).bind fun g238 =>
  c2 (nA g238 0 120) fun z239 g240 =>
  (wR g240 112 v0 112 (some z239)).bind fun g241 =>
  c2 (nA g241 0 120) fun z242 g243 =>
  (wR g243 112 v0 113 (some z242)).bind fun g244 =>
  c2 (nA g244 0 120) fun z245 g246 =>
  (wR g246 112 v0 114 (some z245)).bind fun g247 =>
  c2 (nA g247 0 120) fun z248 g249 =>
  (wR g249 112 v0 115 (some z248)).bind fun g250 =>
  c2 (nA g250 0 120) fun z251 g252 =>
  (wR g252 112 v0 116 (some z251)).bind fun g253 =>
  c2 (nA g253 0 24000) fun z254 g255 =>
  (wR g255 112 v0 118 (some z254)).bind fun g256 =>
  c2 (nA g256 0 24000) fun z257 g258 =>
  (wR g258 112 v0 119 (some z257)).bind fun g259 =>
  c2 (nA g259 0 24000) fun z260 g261 =>
  (wR g261 112 v0 120 (some z260)).bind fun g262 =>
  c2 (nA g262 0 24000) fun z263 g264 =>
  (wR g264 112 v0 121 (some z263)).bind fun g265 =>
  c2 (nA g265 0 24000) fun z266 g267 =>
  (wR g267 112 v0 122 (some z266)).bind fun g268 =>
  c2 (nA g268 0 24000) fun z269 g270 =>
  (wR g270 112 v0 123 (some z269)).bind fun g271 =>
  c2 (nA g271 0 120) fun z272 g273 =>
  (wR g273 112 v0 124 (some z272)).bind fun g274 =>
  c2 (nA g274 0 24000) fun z275 g276 =>
  (wR g276 112 v0 134 (some z275)).bind fun g277 =>
  c2 (nA g277 0 24000) fun z278 g279 =>
  (wR g279 112 v0 135 (some z278)).bind fun g280 =>
  c2 (nA g280 0 120) fun z281 g282 =>
  (wR g282 112 v0 137 (some z281)).bind fun g283 =>
  c2 (nA g283 0 120) fun z284 g285 =>
  (wR g285 112 v0 138 (some z284)).bind fun g286 =>
  c2 (nA g286 0 120) fun z287 g288 =>
  (wR g288 112 v0 139 (some z287)).bind fun g289 =>
  c2 (nA g289 0 120) fun z290 g291 =>
  (wR g291 112 v0 140 (some z290)).bind fun g292 =>
  c2 (nA g292 0 120) fun z293 g294 =>
  (wR g294 112 v0 141 (some z293)).bind fun g295 =>
  c2 (nA g295 0 120) fun z296 g297 =>
  (wR g297 112 v0 142 (some z296)).bind fun g298 =>
  (wI g298 112 v0 150 (-1)).bind fun g299 =>
  c2 (nA g299 1 2000) fun z300 g301 =>
  (wR g301 112 v0 159 (some z300)).bind fun g302 =>
  c2 (nA g302 0 20) fun z303 g304 =>
  (wR g304 112 v0 168 (some z303)).bind fun g305 =>
  c2 (nA g305 0 20) fun z306 g307 =>
  (wR g307 112 v0 169 (some z306)).bind fun g308 =>
  c2 (nA g308 0 20) fun z309 g310 =>
  (wR g310 112 v0 170 (some z309)).bind fun g311 =>
  c2 (nA g311 0 20) fun z312 g313 =>
  (wR g313 112 v0 171 (some z312)).bind fun g314 =>
  c2 (nA g314 0 20) fun z315 g316 =>
  (wR g316 112 v0 172 (some z315)).bind fun g317 =>
  c2 (nA g317 1 1200) fun z318 g319 =>
  (wR g319 112 v0 173 (some z318)).bind fun g320 =>
  c2 (nA g320 1 480) fun z321 g322 =>
  (wR g322 112 v0 175 (some z321)).bind fun g323 =>
  c2 (nA g323 0 20) fun z324 g325 =>
  (wR g325 112 v0 176 (some z324)).bind fun g326 =>
  c2 (nA g326 0 20) fun z327 g328 =>
  (wR g328 112 v0 177 (some z327)).bind fun g329 =>
  c2 (nA g329 0 20) fun z330 g331 =>
  (wR g331 112 v0 178 (some z330)).bind fun g332 =>
  c2 (nA g332 0 120) fun z333 g334 =>
  (wR g334 112 v0 179 (some z333)).bind fun g335 =>
  c2 (nA g335 0 120) fun z336 g337 =>
  (wR g337 112 v0 180 (some z336)).bind fun g338 =>
  c2 (nA g338 1 4000) fun z339 g340 =>
  (wR g340 112 v0 182 (some z339)).bind fun g341 =>
  c2 (nA g341 0 120) fun z342 g343 =>
  (wR g343 112 v0 184 (some z342)).bind fun g344 =>
  (rQ g344 112 v0 7).bind fun z345 =>
  (sI g344 z345 5 7).bind fun g346 =>
  (rQ g346 112 v0 6).bind fun z347 =>
  (sB g346 z347 750 47).bind fun g348 =>
  (rQ g348 112 v0 6).bind fun z349 =>
  (sB g348 z349 751 47).bind fun g350 =>
  (rQ g350 112 v0 6).bind fun z351 =>
  (sB g350 z351 752 104).bind fun g352 =>
  (rQ g352 112 v0 6).bind fun z353 =>
  (sB g352 z353 753 111).bind fun g354 =>
  (rQ g354 112 v0 6).bind fun z355 =>
  (sB g354 z355 754 109).bind fun g356 =>
  (rQ g356 112 v0 6).bind fun z357 =>
  (sB g356 z357 755 101).bind fun g358 =>
  (rQ g358 112 v0 6).bind fun z359 =>
  (sB g358 z359 756 47).bind fun g360 =>
  (vc g360 112 v0 (M_Y_copyRow v0 1 5 g360)).bind fun g361 =>
  (vc g361 112 v0 (M_Y_copyRow v0 26 5 g361)).bind fun g362 =>
  (wI g362 112 v0 148 1).bind fun g363 =>
  (wI g363 112 v0 149 0).bind fun g364 =>
  (vc g364 112 v0 (M_Y_emptyTree v0 g364)).bind fun g365 =>
  some g365
set_option maxRecDepth 20000 in
theorem d_Y_init {L : Nat} {xs : Nat → Int32} {Q : Option Value → ab_H → Prop} {v0 : Nat} {g : g_S} {out : g_S} (e : M_Y_init v0 g = some out) (c : Q none (hp out)) : mw (ab_ext L xs) J_Y_init [.ref v0] (hp g) Q := by
  unfold M_Y_init at e
  refine wp_p (j := J_Y_init) 1 (pc' := 1) (lv' := [(0, .ref v0)]) (st' := [.ref v0]) rfl ?_
  refine wp_obj rfl (Nat.le_of_ble_eq_true rfl) ?_
  refine wp_p (j := J_Y_init) 2 (pc' := 8) (lv' := [(0, .ref v0)]) (st' := [.int 2000, .ref v0]) rfl ?_
  refine x_nA e rfl rfl rfl (fun z1 g2 e => ?_)
  refine x_pR (r := (some z1)) e rfl rfl fd_12_0 rfl (fun g3 e => ?_)
  refine wp_p (j := J_Y_init) 2 (pc' := 17) (lv' := [(0, .ref v0)]) (st' := [.int 2000, .ref v0]) rfl ?_
  refine x_nA e rfl rfl rfl (fun z4 g5 e => ?_)
  refine x_pR (r := (some z4)) e rfl rfl fd_12_2 rfl (fun g6 e => ?_)
  refine wp_p (j := J_Y_init) 2 (pc' := 26) (lv' := [(0, .ref v0)]) (st' := [.int 8000, .ref v0]) rfl ?_
  refine x_nA e rfl rfl rfl (fun z7 g8 e => ?_)
  refine x_pR (r := (some z7)) e rfl rfl fd_12_4 rfl (fun g9 e => ?_)
  refine wp_p (j := J_Y_init) 2 (pc' := 35) (lv' := [(0, .ref v0)]) (st' := [.int 9900, .ref v0]) rfl ?_
  refine x_nA e rfl rfl rfl (fun z10 g11 e => ?_)
  refine x_pR (r := (some z10)) e rfl rfl fd_12_6 rfl (fun g12 e => ?_)
  refine wp_p (j := J_Y_init) 2 (pc' := 43) (lv' := [(0, .ref v0)]) (st' := [.int 66, .ref v0]) rfl ?_
  refine x_nA e rfl rfl rfl (fun z13 g14 e => ?_)
  refine x_pR (r := (some z13)) e rfl rfl fd_12_7 rfl (fun g15 e => ?_)
  refine wp_p (j := J_Y_init) 2 (pc' := 51) (lv' := [(0, .ref v0)]) (st' := [.int 66, .ref v0]) rfl ?_
  refine x_nA e rfl rfl rfl (fun z16 g17 e => ?_)
  refine x_pR (r := (some z16)) e rfl rfl fd_12_8 rfl (fun g18 e => ?_)
  refine wp_p (j := J_Y_init) 2 (pc' := 60) (lv' := [(0, .ref v0)]) (st' := [.int 2200, .ref v0]) rfl ?_
  refine x_nA e rfl rfl rfl (fun z19 g20 e => ?_)
  refine x_pR (r := (some z19)) e rfl rfl fd_12_9 rfl (fun g21 e => ?_)
  refine wp_p (j := J_Y_init) 2 (pc' := 69) (lv' := [(0, .ref v0)]) (st' := [.int 2100, .ref v0]) rfl ?_
  refine x_nA e rfl rfl rfl (fun z22 g23 e => ?_)
  refine x_pR (r := (some z22)) e rfl rfl fd_12_10 rfl (fun g24 e => ?_)
  refine wp_p (j := J_Y_init) 2 (pc' := 78) (lv' := [(0, .ref v0)]) (st' := [.int 2100, .ref v0]) rfl ?_
  refine x_nA e rfl rfl rfl (fun z25 g26 e => ?_)
  refine x_pR (r := (some z25)) e rfl rfl fd_12_11 rfl (fun g27 e => ?_)
  refine wp_p (j := J_Y_init) 2 (pc' := 87) (lv' := [(0, .ref v0)]) (st' := [.int 30000, .ref v0]) rfl ?_
  refine x_nA e rfl rfl rfl (fun z28 g29 e => ?_)
  refine x_pR (r := (some z28)) e rfl rfl fd_12_17 rfl (fun g30 e => ?_)
  refine wp_p (j := J_Y_init) 2 (pc' := 95) (lv' := [(0, .ref v0)]) (st' := [.int 20, .ref v0]) rfl ?_
  refine x_nA e rfl rfl rfl (fun z31 g32 e => ?_)
  refine x_pR (r := (some z31)) e rfl rfl fd_12_18 rfl (fun g33 e => ?_)
  refine wp_p (j := J_Y_init) 2 (pc' := 103) (lv' := [(0, .ref v0)]) (st' := [.int 12, .ref v0]) rfl ?_
  refine x_nA e rfl rfl rfl (fun z34 g35 e => ?_)
  refine x_pR (r := (some z34)) e rfl rfl fd_12_19 rfl (fun g36 e => ?_)
  refine wp_p (j := J_Y_init) 2 (pc' := 112) (lv' := [(0, .ref v0)]) (st' := [.int 192, .ref v0]) rfl ?_
  refine x_nA e rfl rfl rfl (fun z37 g38 e => ?_)
  refine x_pR (r := (some z37)) e rfl rfl fd_12_20 rfl (fun g39 e => ?_)
  refine wp_p (j := J_Y_init) 2 (pc' := 120) (lv' := [(0, .ref v0)]) (st' := [.int 12, .ref v0]) rfl ?_
  refine x_nA e rfl rfl rfl (fun z40 g41 e => ?_)
  refine x_pR (r := (some z40)) e rfl rfl fd_12_21 rfl (fun g42 e => ?_)
  refine wp_p (j := J_Y_init) 2 (pc' := 128) (lv' := [(0, .ref v0)]) (st' := [.int 12, .ref v0]) rfl ?_
  refine x_nA e rfl rfl rfl (fun z43 g44 e => ?_)
  refine x_pR (r := (some z43)) e rfl rfl fd_12_22 rfl (fun g45 e => ?_)
  refine wp_p (j := J_Y_init) 2 (pc' := 136) (lv' := [(0, .ref v0)]) (st' := [.int 20, .ref v0]) rfl ?_
  refine x_nA e rfl rfl rfl (fun z46 g47 e => ?_)
  refine x_pR (r := (some z46)) e rfl rfl fd_12_23 rfl (fun g48 e => ?_)
  refine wp_p (j := J_Y_init) 2 (pc' := 144) (lv' := [(0, .ref v0)]) (st' := [.int 20, .ref v0]) rfl ?_
  refine x_nA e rfl rfl rfl (fun z49 g50 e => ?_)
  refine x_pR (r := (some z49)) e rfl rfl fd_12_24 rfl (fun g51 e => ?_)
  refine wp_p (j := J_Y_init) 2 (pc' := 152) (lv' := [(0, .ref v0)]) (st' := [.int 8, .ref v0]) rfl ?_
  refine x_nA e rfl rfl rfl (fun z52 g53 e => ?_)
  refine x_pR (r := (some z52)) e rfl rfl fd_12_28 rfl (fun g54 e => ?_)
  refine wp_p (j := J_Y_init) 2 (pc' := 160) (lv' := [(0, .ref v0)]) (st' := [.int 8, .ref v0]) rfl ?_
  refine x_nA e rfl rfl rfl (fun z55 g56 e => ?_)
  refine x_pR (r := (some z55)) e rfl rfl fd_12_29 rfl (fun g57 e => ?_)
  refine wp_p (j := J_Y_init) 2 (pc' := 169) (lv' := [(0, .ref v0)]) (st' := [.int 480, .ref v0]) rfl ?_
  refine x_nA e rfl rfl rfl (fun z58 g59 e => ?_)
  refine x_pR (r := (some z58)) e rfl rfl fd_12_31 rfl (fun g60 e => ?_)
  refine wp_p (j := J_Y_init) 2 (pc' := 177) (lv' := [(0, .ref v0)]) (st' := [.int 20, .ref v0]) rfl ?_
  refine x_nA e rfl rfl rfl (fun z61 g62 e => ?_)
  refine x_pR (r := (some z61)) e rfl rfl fd_12_32 rfl (fun g63 e => ?_)
  refine wp_p (j := J_Y_init) 2 (pc' := 185) (lv' := [(0, .ref v0)]) (st' := [.int 20, .ref v0]) rfl ?_
  refine x_nA e rfl rfl rfl (fun z64 g65 e => ?_)
  refine x_pR (r := (some z64)) e rfl rfl fd_12_33 rfl (fun g66 e => ?_)
  refine wp_p (j := J_Y_init) 2 (pc' := 193) (lv' := [(0, .ref v0)]) (st' := [.int 20, .ref v0]) rfl ?_
  refine x_nA e rfl rfl rfl (fun z67 g68 e => ?_)
  refine x_pR (r := (some z67)) e rfl rfl fd_12_34 rfl (fun g69 e => ?_)
  refine wp_p (j := J_Y_init) 2 (pc' := 202) (lv' := [(0, .ref v0)]) (st' := [.int 400, .ref v0]) rfl ?_
  refine x_nA e rfl rfl rfl (fun z70 g71 e => ?_)
  refine x_pR (r := (some z70)) e rfl rfl fd_12_36 rfl (fun g72 e => ?_)
  refine wp_p (j := J_Y_init) 2 (pc' := 210) (lv' := [(0, .ref v0)]) (st' := [.int 16, .ref v0]) rfl ?_
  refine x_nA e rfl rfl rfl (fun z73 g74 e => ?_)
  refine x_pR (r := (some z73)) e rfl rfl fd_12_43 rfl (fun g75 e => ?_)
  refine wp_p (j := J_Y_init) 2 (pc' := 218) (lv' := [(0, .ref v0)]) (st' := [.int 120, .ref v0]) rfl ?_
  refine x_nA e rfl rfl rfl (fun z76 g77 e => ?_)
  refine x_pR (r := (some z76)) e rfl rfl fd_12_45 rfl (fun g78 e => ?_)
  refine wp_p (j := J_Y_init) 2 (pc' := 226) (lv' := [(0, .ref v0)]) (st' := [.int 120, .ref v0]) rfl ?_
  refine x_nA e rfl rfl rfl (fun z79 g80 e => ?_)
  refine x_pR (r := (some z79)) e rfl rfl fd_12_46 rfl (fun g81 e => ?_)
  refine wp_p (j := J_Y_init) 2 (pc' := 235) (lv' := [(0, .ref v0)]) (st' := [.int 960, .ref v0]) rfl ?_
  refine x_nA e rfl rfl rfl (fun z82 g83 e => ?_)
  refine x_pR (r := (some z82)) e rfl rfl fd_12_47 rfl (fun g84 e => ?_)
  refine wp_p (j := J_Y_init) 2 (pc' := 243) (lv' := [(0, .ref v0)]) (st' := [.int 120, .ref v0]) rfl ?_
  refine x_nA e rfl rfl rfl (fun z85 g86 e => ?_)
  refine x_pR (r := (some z85)) e rfl rfl fd_12_48 rfl (fun g87 e => ?_)
  refine wp_p (j := J_Y_init) 2 (pc' := 251) (lv' := [(0, .ref v0)]) (st' := [.int 120, .ref v0]) rfl ?_
  refine x_nA e rfl rfl rfl (fun z88 g89 e => ?_)
  refine x_pR (r := (some z88)) e rfl rfl fd_12_49 rfl (fun g90 e => ?_)
  refine wp_p (j := J_Y_init) 2 (pc' := 259) (lv' := [(0, .ref v0)]) (st' := [.int 120, .ref v0]) rfl ?_
  refine x_nA e rfl rfl rfl (fun z91 g92 e => ?_)
  refine x_pR (r := (some z91)) e rfl rfl fd_12_50 rfl (fun g93 e => ?_)
  refine wp_p (j := J_Y_init) 2 (pc' := 267) (lv' := [(0, .ref v0)]) (st' := [.int 120, .ref v0]) rfl ?_
  refine x_nA e rfl rfl rfl (fun z94 g95 e => ?_)
  refine x_pR (r := (some z94)) e rfl rfl fd_12_51 rfl (fun g96 e => ?_)
  refine wp_p (j := J_Y_init) 2 (pc' := 275) (lv' := [(0, .ref v0)]) (st' := [.int 120, .ref v0]) rfl ?_
  refine x_nA e rfl rfl rfl (fun z97 g98 e => ?_)
  refine x_pR (r := (some z97)) e rfl rfl fd_12_52 rfl (fun g99 e => ?_)
  refine wp_p (j := J_Y_init) 2 (pc' := 283) (lv' := [(0, .ref v0)]) (st' := [.int 120, .ref v0]) rfl ?_
  refine x_nA e rfl rfl rfl (fun z100 g101 e => ?_)
  refine x_pR (r := (some z100)) e rfl rfl fd_12_53 rfl (fun g102 e => ?_)
  refine wp_p (j := J_Y_init) 2 (pc' := 291) (lv' := [(0, .ref v0)]) (st' := [.int 120, .ref v0]) rfl ?_
  refine x_nA e rfl rfl rfl (fun z103 g104 e => ?_)
  refine x_pR (r := (some z103)) e rfl rfl fd_12_54 rfl (fun g105 e => ?_)
  refine wp_p (j := J_Y_init) 2 (pc' := 299) (lv' := [(0, .ref v0)]) (st' := [.int 120, .ref v0]) rfl ?_
  refine x_nA e rfl rfl rfl (fun z106 g107 e => ?_)
  refine x_pR (r := (some z106)) e rfl rfl fd_12_55 rfl (fun g108 e => ?_)
  refine wp_p (j := J_Y_init) 2 (pc' := 307) (lv' := [(0, .ref v0)]) (st' := [.int 120, .ref v0]) rfl ?_
  refine x_nA e rfl rfl rfl (fun z109 g110 e => ?_)
  refine x_pR (r := (some z109)) e rfl rfl fd_12_56 rfl (fun g111 e => ?_)
  refine wp_p (j := J_Y_init) 2 (pc' := 316) (lv' := [(0, .ref v0)]) (st' := [.int 3840, .ref v0]) rfl ?_
  refine x_nA e rfl rfl rfl (fun z112 g113 e => ?_)
  refine x_pR (r := (some z112)) e rfl rfl fd_12_57 rfl (fun g114 e => ?_)
  refine wp_p (j := J_Y_init) 2 (pc' := 325) (lv' := [(0, .ref v0)]) (st' := [.int 480, .ref v0]) rfl ?_
  refine x_nA e rfl rfl rfl (fun z115 g116 e => ?_)
  refine x_pR (r := (some z115)) e rfl rfl fd_12_58 rfl (fun g117 e => ?_)
  refine wp_p (j := J_Y_init) 2 (pc' := 334) (lv' := [(0, .ref v0)]) (st' := [.int 28800, .ref v0]) rfl ?_
  refine x_nA e rfl rfl rfl (fun z118 g119 e => ?_)
  refine x_pR (r := (some z118)) e rfl rfl fd_12_59 rfl (fun g120 e => ?_)
  refine wp_p (j := J_Y_init) 2 (pc' := 343) (lv' := [(0, .ref v0)]) (st' := [.int 480, .ref v0]) rfl ?_
  refine x_nA e rfl rfl rfl (fun z121 g122 e => ?_)
  refine x_pR (r := (some z121)) e rfl rfl fd_12_60 rfl (fun g123 e => ?_)
  refine wp_p (j := J_Y_init) 1 (pc' := 349) (lv' := [(0, .ref v0)]) (st' := [.ref v0]) rfl ?_
  refine x_ldw (x := 48000) rfl rfl rfl ?_
  refine x_nA e rfl rfl rfl (fun z124 g125 e => ?_)
  refine x_pR (r := (some z124)) e rfl rfl fd_12_61 rfl (fun g126 e => ?_)
  refine wp_p (j := J_Y_init) 2 (pc' := 360) (lv' := [(0, .ref v0)]) (st' := [.int 120, .ref v0]) rfl ?_
  refine x_nA e rfl rfl rfl (fun z127 g128 e => ?_)
  refine x_pR (r := (some z127)) e rfl rfl fd_12_62 rfl (fun g129 e => ?_)
  refine wp_p (j := J_Y_init) 2 (pc' := 368) (lv' := [(0, .ref v0)]) (st' := [.int 120, .ref v0]) rfl ?_
  refine x_nA e rfl rfl rfl (fun z130 g131 e => ?_)
  refine x_pR (r := (some z130)) e rfl rfl fd_12_63 rfl (fun g132 e => ?_)
  refine wp_p (j := J_Y_init) 2 (pc' := 377) (lv' := [(0, .ref v0)]) (st' := [.int 2880, .ref v0]) rfl ?_
  refine x_nA e rfl rfl rfl (fun z133 g134 e => ?_)
  refine x_pR (r := (some z133)) e rfl rfl fd_12_64 rfl (fun g135 e => ?_)
  refine wp_p (j := J_Y_init) 2 (pc' := 385) (lv' := [(0, .ref v0)]) (st' := [.int 120, .ref v0]) rfl ?_
  refine x_nA e rfl rfl rfl (fun z136 g137 e => ?_)
  refine x_pR (r := (some z136)) e rfl rfl fd_12_65 rfl (fun g138 e => ?_)
  refine wp_p (j := J_Y_init) 2 (pc' := 393) (lv' := [(0, .ref v0)]) (st' := [.int 120, .ref v0]) rfl ?_
  refine x_nA e rfl rfl rfl (fun z139 g140 e => ?_)
  refine x_pR (r := (some z139)) e rfl rfl fd_12_66 rfl (fun g141 e => ?_)
  refine wp_p (j := J_Y_init) 2 (pc' := 401) (lv' := [(0, .ref v0)]) (st' := [.int 120, .ref v0]) rfl ?_
  refine x_nA e rfl rfl rfl (fun z142 g143 e => ?_)
  refine x_pR (r := (some z142)) e rfl rfl fd_12_67 rfl (fun g144 e => ?_)
  refine wp_p (j := J_Y_init) 2 (pc' := 409) (lv' := [(0, .ref v0)]) (st' := [.int 40, .ref v0]) rfl ?_
  refine x_nA e rfl rfl rfl (fun z145 g146 e => ?_)
  refine x_pR (r := (some z145)) e rfl rfl fd_12_71 rfl (fun g147 e => ?_)
  refine wp_p (j := J_Y_init) 2 (pc' := 417) (lv' := [(0, .ref v0)]) (st' := [.int 40, .ref v0]) rfl ?_
  refine x_nA e rfl rfl rfl (fun z148 g149 e => ?_)
  refine x_pR (r := (some z148)) e rfl rfl fd_12_72 rfl (fun g150 e => ?_)
  refine wp_p (j := J_Y_init) 2 (pc' := 425) (lv' := [(0, .ref v0)]) (st' := [.int 22, .ref v0]) rfl ?_
  refine x_nA e rfl rfl rfl (fun z151 g152 e => ?_)
  refine x_pR (r := (some z151)) e rfl rfl fd_12_73 rfl (fun g153 e => ?_)
  refine wp_p (j := J_Y_init) 2 (pc' := 434) (lv' := [(0, .ref v0)]) (st' := [.int 2000, .ref v0]) rfl ?_
  refine x_nA e rfl rfl rfl (fun z154 g155 e => ?_)
  refine x_pR (r := (some z154)) e rfl rfl fd_12_75 rfl (fun g156 e => ?_)
  refine wp_p (j := J_Y_init) 2 (pc' := 442) (lv' := [(0, .ref v0)]) (st' := [.int 8, .ref v0]) rfl ?_
  refine x_nA e rfl rfl rfl (fun z157 g158 e => ?_)
  refine x_pR (r := (some z157)) e rfl rfl fd_12_78 rfl (fun g159 e => ?_)
  refine wp_p (j := J_Y_init) 2 (pc' := 450) (lv' := [(0, .ref v0)]) (st' := [.int 32, .ref v0]) rfl ?_
  refine x_nA e rfl rfl rfl (fun z160 g161 e => ?_)
  refine x_pR (r := (some z160)) e rfl rfl fd_12_81 rfl (fun g162 e => ?_)
  refine wp_p (j := J_Y_init) 2 (pc' := 457) (lv' := [(0, .ref v0)]) (st' := [.int 4, .ref v0]) rfl ?_
  refine x_nA e rfl rfl rfl (fun z163 g164 e => ?_)
  refine x_pR (r := (some z163)) e rfl rfl fd_12_82 rfl (fun g165 e => ?_)
  refine wp_p (j := J_Y_init) 2 (pc' := 466) (lv' := [(0, .ref v0)]) (st' := [.int 240, .ref v0]) rfl ?_
  refine x_nA e rfl rfl rfl (fun z166 g167 e => ?_)
  refine x_pR (r := (some z166)) e rfl rfl fd_12_83 rfl (fun g168 e => ?_)
  refine wp_p (j := J_Y_init) 2 (pc' := 473) (lv' := [(0, .ref v0)]) (st' := [.int 4, .ref v0]) rfl ?_
  refine x_nA e rfl rfl rfl (fun z169 g170 e => ?_)
  refine x_pR (r := (some z169)) e rfl rfl fd_12_84 rfl (fun g171 e => ?_)
  refine wp_p (j := J_Y_init) 2 (pc' := 482) (lv' := [(0, .ref v0)]) (st' := [.int 2000, .ref v0]) rfl ?_
  refine x_nA e rfl rfl rfl (fun z172 g173 e => ?_)
  refine x_pR (r := (some z172)) e rfl rfl fd_12_86 rfl (fun g174 e => ?_)
  refine wp_p (j := J_Y_init) 2 (pc' := 490) (lv' := [(0, .ref v0)]) (st' := [.int 8, .ref v0]) rfl ?_
  refine x_nA e rfl rfl rfl (fun z175 g176 e => ?_)
  refine x_pR (r := (some z175)) e rfl rfl fd_12_87 rfl (fun g177 e => ?_)
  refine wp_p (j := J_Y_init) 2 (pc' := 498) (lv' := [(0, .ref v0)]) (st' := [.int 60, .ref v0]) rfl ?_
  refine x_nA e rfl rfl rfl (fun z178 g179 e => ?_)
  refine x_pR (r := (some z178)) e rfl rfl fd_12_88 rfl (fun g180 e => ?_)
  refine wp_p (j := J_Y_init) 2 (pc' := 506) (lv' := [(0, .ref v0)]) (st' := [.int 41, .ref v0]) rfl ?_
  refine x_nA e rfl rfl rfl (fun z181 g182 e => ?_)
  refine x_pR (r := (some z181)) e rfl rfl fd_12_90 rfl (fun g183 e => ?_)
  refine wp_p (j := J_Y_init) 2 (pc' := 514) (lv' := [(0, .ref v0)]) (st' := [.int 123, .ref v0]) rfl ?_
  refine x_nA e rfl rfl rfl (fun z184 g185 e => ?_)
  refine x_pR (r := (some z184)) e rfl rfl fd_12_91 rfl (fun g186 e => ?_)
  refine wp_p (j := J_Y_init) 2 (pc' := 523) (lv' := [(0, .ref v0)]) (st' := [.int 984, .ref v0]) rfl ?_
  refine x_nA e rfl rfl rfl (fun z187 g188 e => ?_)
  refine x_pR (r := (some z187)) e rfl rfl fd_12_92 rfl (fun g189 e => ?_)
  refine wp_p (j := J_Y_init) 2 (pc' := 531) (lv' := [(0, .ref v0)]) (st' := [.int 123, .ref v0]) rfl ?_
  refine x_nA e rfl rfl rfl (fun z190 g191 e => ?_)
  refine x_pR (r := (some z190)) e rfl rfl fd_12_93 rfl (fun g192 e => ?_)
  refine wp_p (j := J_Y_init) 2 (pc' := 540) (lv' := [(0, .ref v0)]) (st' := [.int 492, .ref v0]) rfl ?_
  refine x_nA e rfl rfl rfl (fun z193 g194 e => ?_)
  refine x_pR (r := (some z193)) e rfl rfl fd_12_94 rfl (fun g195 e => ?_)
  refine wp_p (j := J_Y_init) 2 (pc' := 549) (lv' := [(0, .ref v0)]) (st' := [.int 492, .ref v0]) rfl ?_
  refine x_nA e rfl rfl rfl (fun z196 g197 e => ?_)
  refine x_pR (r := (some z196)) e rfl rfl fd_12_95 rfl (fun g198 e => ?_)
  refine wp_p (j := J_Y_init) 2 (pc' := 558) (lv' := [(0, .ref v0)]) (st' := [.int 3936, .ref v0]) rfl ?_
  refine x_nA e rfl rfl rfl (fun z199 g200 e => ?_)
  refine x_pR (r := (some z199)) e rfl rfl fd_12_96 rfl (fun g201 e => ?_)
  refine wp_p (j := J_Y_init) 2 (pc' := 566) (lv' := [(0, .ref v0)]) (st' := [.int 41, .ref v0]) rfl ?_
  refine x_nA e rfl rfl rfl (fun z202 g203 e => ?_)
  refine x_pR (r := (some z202)) e rfl rfl fd_12_97 rfl (fun g204 e => ?_)
  refine wp_p (j := J_Y_init) 2 (pc' := 575) (lv' := [(0, .ref v0)]) (st' := [.int 451, .ref v0]) rfl ?_
  refine x_nA e rfl rfl rfl (fun z205 g206 e => ?_)
  refine x_pR (r := (some z205)) e rfl rfl fd_12_98 rfl (fun g207 e => ?_)
  refine wp_p (j := J_Y_init) 2 (pc' := 584) (lv' := [(0, .ref v0)]) (st' := [.int 451, .ref v0]) rfl ?_
  refine x_nA e rfl rfl rfl (fun z208 g209 e => ?_)
  refine x_pR (r := (some z208)) e rfl rfl fd_12_99 rfl (fun g210 e => ?_)
  refine wp_p (j := J_Y_init) 2 (pc' := 593) (lv' := [(0, .ref v0)]) (st' := [.int 400, .ref v0]) rfl ?_
  refine x_nA e rfl rfl rfl (fun z211 g212 e => ?_)
  refine x_pR (r := (some z211)) e rfl rfl fd_12_101 rfl (fun g213 e => ?_)
  refine wp_p (j := J_Y_init) 2 (pc' := 601) (lv' := [(0, .ref v0)]) (st' := [.int 11, .ref v0]) rfl ?_
  refine x_nA e rfl rfl rfl (fun z214 g215 e => ?_)
  refine x_pR (r := (some z214)) e rfl rfl fd_12_102 rfl (fun g216 e => ?_)
  refine wp_p (j := J_Y_init) 2 (pc' := 609) (lv' := [(0, .ref v0)]) (st' := [.int 11, .ref v0]) rfl ?_
  refine x_nA e rfl rfl rfl (fun z217 g218 e => ?_)
  refine x_pR (r := (some z217)) e rfl rfl fd_12_103 rfl (fun g219 e => ?_)
  refine wp_p (j := J_Y_init) 2 (pc' := 618) (lv' := [(0, .ref v0)]) (st' := [.int 1320, .ref v0]) rfl ?_
  refine x_nA e rfl rfl rfl (fun z220 g221 e => ?_)
  refine x_pR (r := (some z220)) e rfl rfl fd_12_105 rfl (fun g222 e => ?_)
  refine wp_p (j := J_Y_init) 2 (pc' := 626) (lv' := [(0, .ref v0)]) (st' := [.int 48, .ref v0]) rfl ?_
  refine x_pI e rfl rfl fw_12_106 rfl (fun g223 e => ?_)
  refine wp_p (j := J_Y_init) 2 (pc' := 632) (lv' := [(0, .ref v0)]) (st' := [.int 120, .ref v0]) rfl ?_
  refine x_nA e rfl rfl rfl (fun z224 g225 e => ?_)
  refine x_pR (r := (some z224)) e rfl rfl fd_12_107 rfl (fun g226 e => ?_)
  refine wp_p (j := J_Y_init) 2 (pc' := 640) (lv' := [(0, .ref v0)]) (st' := [.int 120, .ref v0]) rfl ?_
  refine x_nA e rfl rfl rfl (fun z227 g228 e => ?_)
  refine x_pR (r := (some z227)) e rfl rfl fd_12_108 rfl (fun g229 e => ?_)
  refine wp_p (j := J_Y_init) 2 (pc' := 648) (lv' := [(0, .ref v0)]) (st' := [.int 120, .ref v0]) rfl ?_
  refine x_nA e rfl rfl rfl (fun z230 g231 e => ?_)
  refine x_pR (r := (some z230)) e rfl rfl fd_12_109 rfl (fun g232 e => ?_)
  refine wp_p (j := J_Y_init) 2 (pc' := 656) (lv' := [(0, .ref v0)]) (st' := [.int 120, .ref v0]) rfl ?_
  refine x_nA e rfl rfl rfl (fun z233 g234 e => ?_)
  refine x_pR (r := (some z233)) e rfl rfl fd_12_110 rfl (fun g235 e => ?_)
  refine wp_p (j := J_Y_init) 2 (pc' := 664) (lv' := [(0, .ref v0)]) (st' := [.int 120, .ref v0]) rfl ?_
  refine x_nA e rfl rfl rfl (fun z236 g237 e => ?_)
  refine x_pR (r := (some z236)) e rfl rfl fd_12_111 rfl (fun g238 e => ?_)
  refine wp_p (j := J_Y_init) 2 (pc' := 672) (lv' := [(0, .ref v0)]) (st' := [.int 120, .ref v0]) rfl ?_
  refine x_nA e rfl rfl rfl (fun z239 g240 e => ?_)
  refine x_pR (r := (some z239)) e rfl rfl fd_12_112 rfl (fun g241 e => ?_)
  refine wp_p (j := J_Y_init) 2 (pc' := 680) (lv' := [(0, .ref v0)]) (st' := [.int 120, .ref v0]) rfl ?_
  refine x_nA e rfl rfl rfl (fun z242 g243 e => ?_)
  refine x_pR (r := (some z242)) e rfl rfl fd_12_113 rfl (fun g244 e => ?_)
  refine wp_p (j := J_Y_init) 2 (pc' := 688) (lv' := [(0, .ref v0)]) (st' := [.int 120, .ref v0]) rfl ?_
  refine x_nA e rfl rfl rfl (fun z245 g246 e => ?_)
  refine x_pR (r := (some z245)) e rfl rfl fd_12_114 rfl (fun g247 e => ?_)
  refine wp_p (j := J_Y_init) 2 (pc' := 696) (lv' := [(0, .ref v0)]) (st' := [.int 120, .ref v0]) rfl ?_
  refine x_nA e rfl rfl rfl (fun z248 g249 e => ?_)
  refine x_pR (r := (some z248)) e rfl rfl fd_12_115 rfl (fun g250 e => ?_)
  refine wp_p (j := J_Y_init) 2 (pc' := 704) (lv' := [(0, .ref v0)]) (st' := [.int 120, .ref v0]) rfl ?_
  refine x_nA e rfl rfl rfl (fun z251 g252 e => ?_)
  refine x_pR (r := (some z251)) e rfl rfl fd_12_116 rfl (fun g253 e => ?_)
  refine wp_p (j := J_Y_init) 2 (pc' := 713) (lv' := [(0, .ref v0)]) (st' := [.int 24000, .ref v0]) rfl ?_
  refine x_nA e rfl rfl rfl (fun z254 g255 e => ?_)
  refine x_pR (r := (some z254)) e rfl rfl fd_12_118 rfl (fun g256 e => ?_)
  refine wp_p (j := J_Y_init) 2 (pc' := 722) (lv' := [(0, .ref v0)]) (st' := [.int 24000, .ref v0]) rfl ?_
  refine x_nA e rfl rfl rfl (fun z257 g258 e => ?_)
  refine x_pR (r := (some z257)) e rfl rfl fd_12_119 rfl (fun g259 e => ?_)
  refine wp_p (j := J_Y_init) 2 (pc' := 731) (lv' := [(0, .ref v0)]) (st' := [.int 24000, .ref v0]) rfl ?_
  refine x_nA e rfl rfl rfl (fun z260 g261 e => ?_)
  refine x_pR (r := (some z260)) e rfl rfl fd_12_120 rfl (fun g262 e => ?_)
  refine wp_p (j := J_Y_init) 2 (pc' := 740) (lv' := [(0, .ref v0)]) (st' := [.int 24000, .ref v0]) rfl ?_
  refine x_nA e rfl rfl rfl (fun z263 g264 e => ?_)
  refine x_pR (r := (some z263)) e rfl rfl fd_12_121 rfl (fun g265 e => ?_)
  refine wp_p (j := J_Y_init) 2 (pc' := 749) (lv' := [(0, .ref v0)]) (st' := [.int 24000, .ref v0]) rfl ?_
  refine x_nA e rfl rfl rfl (fun z266 g267 e => ?_)
  refine x_pR (r := (some z266)) e rfl rfl fd_12_122 rfl (fun g268 e => ?_)
  refine wp_p (j := J_Y_init) 2 (pc' := 758) (lv' := [(0, .ref v0)]) (st' := [.int 24000, .ref v0]) rfl ?_
  refine x_nA e rfl rfl rfl (fun z269 g270 e => ?_)
  refine x_pR (r := (some z269)) e rfl rfl fd_12_123 rfl (fun g271 e => ?_)
  refine wp_p (j := J_Y_init) 2 (pc' := 766) (lv' := [(0, .ref v0)]) (st' := [.int 120, .ref v0]) rfl ?_
  refine x_nA e rfl rfl rfl (fun z272 g273 e => ?_)
  refine x_pR (r := (some z272)) e rfl rfl fd_12_124 rfl (fun g274 e => ?_)
  refine wp_p (j := J_Y_init) 2 (pc' := 775) (lv' := [(0, .ref v0)]) (st' := [.int 24000, .ref v0]) rfl ?_
  refine x_nA e rfl rfl rfl (fun z275 g276 e => ?_)
  refine x_pR (r := (some z275)) e rfl rfl fd_12_134 rfl (fun g277 e => ?_)
  refine wp_p (j := J_Y_init) 2 (pc' := 784) (lv' := [(0, .ref v0)]) (st' := [.int 24000, .ref v0]) rfl ?_
  refine x_nA e rfl rfl rfl (fun z278 g279 e => ?_)
  refine x_pR (r := (some z278)) e rfl rfl fd_12_135 rfl (fun g280 e => ?_)
  refine wp_p (j := J_Y_init) 2 (pc' := 792) (lv' := [(0, .ref v0)]) (st' := [.int 120, .ref v0]) rfl ?_
  refine x_nA e rfl rfl rfl (fun z281 g282 e => ?_)
  refine x_pR (r := (some z281)) e rfl rfl fd_12_137 rfl (fun g283 e => ?_)
  refine wp_p (j := J_Y_init) 2 (pc' := 800) (lv' := [(0, .ref v0)]) (st' := [.int 120, .ref v0]) rfl ?_
  refine x_nA e rfl rfl rfl (fun z284 g285 e => ?_)
  refine x_pR (r := (some z284)) e rfl rfl fd_12_138 rfl (fun g286 e => ?_)
  refine wp_p (j := J_Y_init) 2 (pc' := 808) (lv' := [(0, .ref v0)]) (st' := [.int 120, .ref v0]) rfl ?_
  refine x_nA e rfl rfl rfl (fun z287 g288 e => ?_)
  refine x_pR (r := (some z287)) e rfl rfl fd_12_139 rfl (fun g289 e => ?_)
  refine wp_p (j := J_Y_init) 2 (pc' := 816) (lv' := [(0, .ref v0)]) (st' := [.int 120, .ref v0]) rfl ?_
  refine x_nA e rfl rfl rfl (fun z290 g291 e => ?_)
  refine x_pR (r := (some z290)) e rfl rfl fd_12_140 rfl (fun g292 e => ?_)
  refine wp_p (j := J_Y_init) 2 (pc' := 824) (lv' := [(0, .ref v0)]) (st' := [.int 120, .ref v0]) rfl ?_
  refine x_nA e rfl rfl rfl (fun z293 g294 e => ?_)
  refine x_pR (r := (some z293)) e rfl rfl fd_12_141 rfl (fun g295 e => ?_)
  refine wp_p (j := J_Y_init) 2 (pc' := 832) (lv' := [(0, .ref v0)]) (st' := [.int 120, .ref v0]) rfl ?_
  refine x_nA e rfl rfl rfl (fun z296 g297 e => ?_)
  refine x_pR (r := (some z296)) e rfl rfl fd_12_142 rfl (fun g298 e => ?_)
  refine wp_p (j := J_Y_init) 2 (pc' := 839) (lv' := [(0, .ref v0)]) (st' := [.int (-1), .ref v0]) rfl ?_
  refine x_pI e rfl rfl fw_12_150 rfl (fun g299 e => ?_)
  refine wp_p (j := J_Y_init) 2 (pc' := 846) (lv' := [(0, .ref v0)]) (st' := [.int 2000, .ref v0]) rfl ?_
  refine x_nA e rfl rfl rfl (fun z300 g301 e => ?_)
  refine x_pR (r := (some z300)) e rfl rfl fd_12_159 rfl (fun g302 e => ?_)
  refine wp_p (j := J_Y_init) 2 (pc' := 854) (lv' := [(0, .ref v0)]) (st' := [.int 20, .ref v0]) rfl ?_
  refine x_nA e rfl rfl rfl (fun z303 g304 e => ?_)
  refine x_pR (r := (some z303)) e rfl rfl fd_12_168 rfl (fun g305 e => ?_)
  refine wp_p (j := J_Y_init) 2 (pc' := 862) (lv' := [(0, .ref v0)]) (st' := [.int 20, .ref v0]) rfl ?_
  refine x_nA e rfl rfl rfl (fun z306 g307 e => ?_)
  refine x_pR (r := (some z306)) e rfl rfl fd_12_169 rfl (fun g308 e => ?_)
  refine wp_p (j := J_Y_init) 2 (pc' := 870) (lv' := [(0, .ref v0)]) (st' := [.int 20, .ref v0]) rfl ?_
  refine x_nA e rfl rfl rfl (fun z309 g310 e => ?_)
  refine x_pR (r := (some z309)) e rfl rfl fd_12_170 rfl (fun g311 e => ?_)
  refine wp_p (j := J_Y_init) 2 (pc' := 878) (lv' := [(0, .ref v0)]) (st' := [.int 20, .ref v0]) rfl ?_
  refine x_nA e rfl rfl rfl (fun z312 g313 e => ?_)
  refine x_pR (r := (some z312)) e rfl rfl fd_12_171 rfl (fun g314 e => ?_)
  refine wp_p (j := J_Y_init) 2 (pc' := 886) (lv' := [(0, .ref v0)]) (st' := [.int 20, .ref v0]) rfl ?_
  refine x_nA e rfl rfl rfl (fun z315 g316 e => ?_)
  refine x_pR (r := (some z315)) e rfl rfl fd_12_172 rfl (fun g317 e => ?_)
  refine wp_p (j := J_Y_init) 2 (pc' := 895) (lv' := [(0, .ref v0)]) (st' := [.int 1200, .ref v0]) rfl ?_
  refine x_nA e rfl rfl rfl (fun z318 g319 e => ?_)
  refine x_pR (r := (some z318)) e rfl rfl fd_12_173 rfl (fun g320 e => ?_)
  refine wp_p (j := J_Y_init) 2 (pc' := 904) (lv' := [(0, .ref v0)]) (st' := [.int 480, .ref v0]) rfl ?_
  refine x_nA e rfl rfl rfl (fun z321 g322 e => ?_)
  refine x_pR (r := (some z321)) e rfl rfl fd_12_175 rfl (fun g323 e => ?_)
  refine wp_p (j := J_Y_init) 2 (pc' := 912) (lv' := [(0, .ref v0)]) (st' := [.int 20, .ref v0]) rfl ?_
  refine x_nA e rfl rfl rfl (fun z324 g325 e => ?_)
  refine x_pR (r := (some z324)) e rfl rfl fd_12_176 rfl (fun g326 e => ?_)
  refine wp_p (j := J_Y_init) 2 (pc' := 920) (lv' := [(0, .ref v0)]) (st' := [.int 20, .ref v0]) rfl ?_
  refine x_nA e rfl rfl rfl (fun z327 g328 e => ?_)
  refine x_pR (r := (some z327)) e rfl rfl fd_12_177 rfl (fun g329 e => ?_)
  refine wp_p (j := J_Y_init) 2 (pc' := 928) (lv' := [(0, .ref v0)]) (st' := [.int 20, .ref v0]) rfl ?_
  refine x_nA e rfl rfl rfl (fun z330 g331 e => ?_)
  refine x_pR (r := (some z330)) e rfl rfl fd_12_178 rfl (fun g332 e => ?_)
  refine wp_p (j := J_Y_init) 2 (pc' := 936) (lv' := [(0, .ref v0)]) (st' := [.int 120, .ref v0]) rfl ?_
  refine x_nA e rfl rfl rfl (fun z333 g334 e => ?_)
  refine x_pR (r := (some z333)) e rfl rfl fd_12_179 rfl (fun g335 e => ?_)
  refine wp_p (j := J_Y_init) 2 (pc' := 944) (lv' := [(0, .ref v0)]) (st' := [.int 120, .ref v0]) rfl ?_
  refine x_nA e rfl rfl rfl (fun z336 g337 e => ?_)
  refine x_pR (r := (some z336)) e rfl rfl fd_12_180 rfl (fun g338 e => ?_)
  refine wp_p (j := J_Y_init) 2 (pc' := 953) (lv' := [(0, .ref v0)]) (st' := [.int 4000, .ref v0]) rfl ?_
  refine x_nA e rfl rfl rfl (fun z339 g340 e => ?_)
  refine x_pR (r := (some z339)) e rfl rfl fd_12_182 rfl (fun g341 e => ?_)
  refine wp_p (j := J_Y_init) 2 (pc' := 961) (lv' := [(0, .ref v0)]) (st' := [.int 120, .ref v0]) rfl ?_
  refine x_nA e rfl rfl rfl (fun z342 g343 e => ?_)
  refine x_pR (r := (some z342)) e rfl rfl fd_12_184 rfl (fun g344 e => ?_)
  refine wp_p (j := J_Y_init) 1 (pc' := 967) (lv' := [(0, .ref v0)]) (st' := [.ref v0]) rfl ?_
  refine x_gQ e rfl rfl fd_12_7 rfl (fun z345 e => ?_)
  refine wp_p (j := J_Y_init) 2 (pc' := 973) (lv' := [(0, .ref v0)]) (st' := [.int 7, .int 5, .ref z345]) rfl ?_
  refine x_sI e rfl rfl (fun g346 e => ?_)
  refine wp_p (j := J_Y_init) 1 (pc' := 975) (lv' := [(0, .ref v0)]) (st' := [.ref v0]) rfl ?_
  refine x_gQ e rfl rfl fd_12_6 rfl (fun z347 e => ?_)
  refine wp_p (j := J_Y_init) 2 (pc' := 983) (lv' := [(0, .ref v0)]) (st' := [.int 47, .int 750, .ref z347]) rfl ?_
  refine x_sB e rfl rfl (fun g348 e => ?_)
  refine wp_p (j := J_Y_init) 1 (pc' := 985) (lv' := [(0, .ref v0)]) (st' := [.ref v0]) rfl ?_
  refine x_gQ e rfl rfl fd_12_6 rfl (fun z349 e => ?_)
  refine wp_p (j := J_Y_init) 2 (pc' := 993) (lv' := [(0, .ref v0)]) (st' := [.int 47, .int 751, .ref z349]) rfl ?_
  refine x_sB e rfl rfl (fun g350 e => ?_)
  refine wp_p (j := J_Y_init) 1 (pc' := 995) (lv' := [(0, .ref v0)]) (st' := [.ref v0]) rfl ?_
  refine x_gQ e rfl rfl fd_12_6 rfl (fun z351 e => ?_)
  refine wp_p (j := J_Y_init) 2 (pc' := 1003) (lv' := [(0, .ref v0)]) (st' := [.int 104, .int 752, .ref z351]) rfl ?_
  refine x_sB e rfl rfl (fun g352 e => ?_)
  refine wp_p (j := J_Y_init) 1 (pc' := 1005) (lv' := [(0, .ref v0)]) (st' := [.ref v0]) rfl ?_
  refine x_gQ e rfl rfl fd_12_6 rfl (fun z353 e => ?_)
  refine wp_p (j := J_Y_init) 2 (pc' := 1013) (lv' := [(0, .ref v0)]) (st' := [.int 111, .int 753, .ref z353]) rfl ?_
  refine x_sB e rfl rfl (fun g354 e => ?_)
  refine wp_p (j := J_Y_init) 1 (pc' := 1015) (lv' := [(0, .ref v0)]) (st' := [.ref v0]) rfl ?_
  refine x_gQ e rfl rfl fd_12_6 rfl (fun z355 e => ?_)
  refine wp_p (j := J_Y_init) 2 (pc' := 1023) (lv' := [(0, .ref v0)]) (st' := [.int 109, .int 754, .ref z355]) rfl ?_
  refine x_sB e rfl rfl (fun g356 e => ?_)
  refine wp_p (j := J_Y_init) 1 (pc' := 1025) (lv' := [(0, .ref v0)]) (st' := [.ref v0]) rfl ?_
  refine x_gQ e rfl rfl fd_12_6 rfl (fun z357 e => ?_)
  refine wp_p (j := J_Y_init) 2 (pc' := 1033) (lv' := [(0, .ref v0)]) (st' := [.int 101, .int 755, .ref z357]) rfl ?_
  refine x_sB e rfl rfl (fun g358 e => ?_)
  refine wp_p (j := J_Y_init) 1 (pc' := 1035) (lv' := [(0, .ref v0)]) (st' := [.ref v0]) rfl ?_
  refine x_gQ e rfl rfl fd_12_6 rfl (fun z359 e => ?_)
  refine wp_p (j := J_Y_init) 2 (pc' := 1043) (lv' := [(0, .ref v0)]) (st' := [.int 47, .int 756, .ref z359]) rfl ?_
  refine x_sB e rfl rfl (fun g360 e => ?_)
  refine wp_p (j := J_Y_init) 3 (pc' := 1047) (lv' := [(0, .ref v0)]) (st' := [.int 5, .int 1, .ref v0]) rfl ?_
  refine x_cv0 (As := [.int 1, .int 5]) (rest := []) e rfl rfl rfl rfl rfl rfl (fun h => d_Y_copyRow h ⟨rfl, rfl⟩) (fun g361 e => ?_)
  refine wp_p (j := J_Y_init) 3 (pc' := 1054) (lv' := [(0, .ref v0)]) (st' := [.int 5, .int 26, .ref v0]) rfl ?_
  refine x_cv0 (As := [.int 26, .int 5]) (rest := []) e rfl rfl rfl rfl rfl rfl (fun h => d_Y_copyRow h ⟨rfl, rfl⟩) (fun g362 e => ?_)
  refine wp_p (j := J_Y_init) 2 (pc' := 1059) (lv' := [(0, .ref v0)]) (st' := [.int 1, .ref v0]) rfl ?_
  refine x_pI e rfl rfl fw_12_148 rfl (fun g363 e => ?_)
  refine wp_p (j := J_Y_init) 2 (pc' := 1064) (lv' := [(0, .ref v0)]) (st' := [.int 0, .ref v0]) rfl ?_
  refine x_pI e rfl rfl fw_12_149 rfl (fun g364 e => ?_)
  refine wp_p (j := J_Y_init) 1 (pc' := 1068) (lv' := [(0, .ref v0)]) (st' := [.ref v0]) rfl ?_
  refine x_cv0 (As := []) (rest := []) e rfl rfl rfl rfl rfl rfl (fun h => d_Y_emptyTree h ⟨rfl, rfl⟩) (fun g365 e => ?_)
  have e := Option.some.inj e; subst e; exact wp_vret rfl rfl c
def cL_Y_putFour_3 (L : Nat) (xs : Nat → Int32) (Q : Option Value → ab_H → Prop) (v0 : Nat) (v1 : Int32) (out : (Int32 × g_S) ⊕ (g_S)) : Prop := match out with
  | .inl s => wp (ab_ext L xs) J_Y_putFour 3 [(0, .ref v0), (1, .int v1), (2, .int s.1)] [] (hp s.2) Q
  | .inr s => wp (ab_ext L xs) J_Y_putFour 36 [] [] (hp s) Q
noncomputable def b_Y_putFour_3 (v0 : Nat) (v1 : Int32) (v2 : Int32) (g : g_S) : Option ((Int32 × g_S) ⊕ (g_S)) :=
  if v2 < 0 then
    some (.inr g)
  else
    (rQ g 112 v0 0).bind fun z1 =>
    (rI g 112 v0 1).bind fun z2 =>
    (sB g z1 z2 ((Int32.toInt8 (v1 >>> (v2 &&& 31))).toInt32)).bind fun g3 =>
    (rI g3 112 v0 1).bind fun z4 =>
    (wI g3 112 v0 1 (z4 + 1)).bind fun g5 =>
    some (.inl (v2 + (-8), g5))
set_option maxRecDepth 20000 in
theorem y_Y_putFour_3 {L : Nat} {xs : Nat → Int32} {Q : Option Value → ab_H → Prop} {v0 : Nat} {v1 : Int32} {v2 : Int32} {g : g_S} {out : (Int32 × g_S) ⊕ (g_S)} (e : b_Y_putFour_3 v0 v1 v2 g = some out) (c : cL_Y_putFour_3 L xs Q v0 v1 out) : wp (ab_ext L xs) J_Y_putFour 3 [(0, .ref v0), (1, .int v1), (2, .int v2)] [] (hp g) Q := by
  unfold b_Y_putFour_3 at e
  refine wp_p (j := J_Y_putFour) 1 (pc' := 4) (lv' := [(0, .ref v0), (1, .int v1), (2, .int v2)]) (st' := [.int v2]) rfl ?_
  refine z_lt e rfl (fun e => ?_) (fun e => ?_)
  · have e := Option.some.inj e; subst e; exact wp_lv (lv' := []) rfl trivial c
  · refine wp_p (j := J_Y_putFour) 1 (pc' := 8) (lv' := [(0, .ref v0), (1, .int v1), (2, .int v2)]) (st' := [.ref v0]) rfl ?_
    refine x_gQ e rfl rfl fd_12_0 rfl (fun z1 e => ?_)
    refine wp_p (j := J_Y_putFour) 1 (pc' := 12) (lv' := [(0, .ref v0), (1, .int v1), (2, .int v2)]) (st' := [.ref v0, .ref z1]) rfl ?_
    refine x_gI e rfl rfl fd_12_1 rfl (fun z2 e => ?_)
    refine wp_p (j := J_Y_putFour) 4 (pc' := 19) (lv' := [(0, .ref v0), (1, .int v1), (2, .int v2)]) (st' := [.int ((Int32.toInt8 (v1 >>> (v2 &&& 31))).toInt32), .int z2, .ref z1]) rfl ?_
    refine x_sB e rfl rfl (fun g3 e => ?_)
    refine wp_p (j := J_Y_putFour) 2 (pc' := 22) (lv' := [(0, .ref v0), (1, .int v1), (2, .int v2)]) (st' := [.ref v0, .ref v0]) rfl ?_
    refine x_gI e rfl rfl fd_12_1 rfl (fun z4 e => ?_)
    refine wp_p (j := J_Y_putFour) 2 (pc' := 27) (lv' := [(0, .ref v0), (1, .int v1), (2, .int v2)]) (st' := [.int (z4 + 1), .ref v0]) rfl ?_
    refine x_pI e rfl rfl fw_12_1 rfl (fun g5 e => ?_)
    refine wp_p (j := J_Y_putFour) 2 (pc' := 3) (lv' := [(2, .int (v2 + (-8))), (0, .ref v0), (1, .int v1)]) (st' := []) rfl ?_
    have e := Option.some.inj e; subst e; exact wp_lv (lv' := [(0, .ref v0), (1, .int v1), (2, .int (v2 + (-8)))]) rfl ⟨rfl, rfl, rfl, trivial⟩ c
noncomputable def L_Y_putFour_3 (v0 : Nat) (v1 : Int32) (v2 : Int32) (g : g_S) : Option (g_S) := it (fun s : Int32 × g_S => b_Y_putFour_3 v0 v1 s.1 s.2) (v2, g)
theorem l_Y_putFour_3 {L : Nat} {xs : Nat → Int32} {Q : Option Value → ab_H → Prop} {v0 : Nat} {v1 : Int32} {v2 : Int32} {g : g_S} {r : g_S} (e : L_Y_putFour_3 v0 v1 v2 g = some r) (c : cL_Y_putFour_3 L xs Q v0 v1 (.inr r)) : wp (ab_ext L xs) J_Y_putFour 3 [(0, .ref v0), (1, .int v1), (2, .int v2)] [] (hp g) Q :=
  it_wp (P := fun s : Int32 × g_S => wp (ab_ext L xs) J_Y_putFour 3 [(0, .ref v0), (1, .int v1), (2, .int s.1)] [] (hp s.2) Q) (E := fun r => cL_Y_putFour_3 L xs Q v0 v1 (.inr r)) (fun s out e c => y_Y_putFour_3 e (by cases out <;> exact c)) e c
theorem L_Y_putFour_3_eq (v0 : Nat) (v1 : Int32) (v2 : Int32) (g : g_S) : L_Y_putFour_3 v0 v1 v2 g = itc (b_Y_putFour_3 v0 v1 v2 g) (fun s => L_Y_putFour_3 v0 v1 s.1 s.2) := it_eq2 (fun s : Int32 × g_S => b_Y_putFour_3 v0 v1 s.1 s.2) (v2, g)
noncomputable def M_Y_putFour (v0 : Nat) (v1 : Int32) (g : g_S) : Option g_S :=
  (L_Y_putFour_3 v0 v1 24 g).bind <| fun g3 =>
  some g3
set_option maxRecDepth 20000 in
theorem d_Y_putFour {L : Nat} {xs : Nat → Int32} {Q : Option Value → ab_H → Prop} {v0 : Nat} {v1 : Int32} {g : g_S} {out : g_S} (e : M_Y_putFour v0 v1 g = some out) (c : Q none (hp out)) : mw (ab_ext L xs) J_Y_putFour [.ref v0, .int v1] (hp g) Q := by
  unfold M_Y_putFour at e
  refine wp_p (j := J_Y_putFour) 2 (pc' := 3) (lv' := [(2, .int 24), (0, .ref v0), (1, .int v1)]) (st' := []) rfl ?_
  obtain ⟨g3, h2, e⟩ := bd e
  refine wp_lv (lv' := [(0, .ref v0), (1, .int v1), (2, .int 24)]) rfl ⟨rfl, rfl, rfl, trivial⟩ ?_
  refine l_Y_putFour_3 h2 ?_
  show wp (ab_ext L xs) J_Y_putFour 36 [] [] (hp g3) Q
  have e := Option.some.inj e; subst e; exact wp_vret rfl rfl c
noncomputable def M_Y_feed (v0 : Nat) (v1 : Int32) (v2 : Int32) (v3 : Int32) (v4 : Int32) (v5 : Int32) (g : g_S) : Option (Int32 × g_S) :=
  (rI g 112 v0 1).bind fun z1 =>
  if 2000 < (z1 + 20) then
    some ((-1), g)
  else
    (vc g 112 v0 (M_Y_putFour v0 v1 g)).bind fun g2 =>
    (vc g2 112 v0 (M_Y_putFour v0 v2 g2)).bind fun g3 =>
    (vc g3 112 v0 (M_Y_putFour v0 v3 g3)).bind fun g4 =>
    (vc g4 112 v0 (M_Y_putFour v0 v4 g4)).bind fun g5 =>
    (vc g5 112 v0 (M_Y_putFour v0 v5 g5)).bind fun g6 =>
    (rI g6 112 v0 1).bind fun z7 =>
    some (z7, g6)
set_option maxRecDepth 20000 in
theorem d_Y_feed {L : Nat} {xs : Nat → Int32} {Q : Option Value → ab_H → Prop} {v0 : Nat} {v1 : Int32} {v2 : Int32} {v3 : Int32} {v4 : Int32} {v5 : Int32} {g : g_S} {out : Int32 × g_S} (e : M_Y_feed v0 v1 v2 v3 v4 v5 g = some out) (c : Q (some (.int out.1)) (hp out.2)) : mw (ab_ext L xs) J_Y_feed [.ref v0, .int v1, .int v2, .int v3, .int v4, .int v5] (hp g) Q := by
  unfold M_Y_feed at e
  refine wp_p (j := J_Y_feed) 1 (pc' := 1) (lv' := [(0, .ref v0), (1, .int v1), (2, .int v2), (3, .int v3), (4, .int v4), (5, .int v5)]) (st' := [.ref v0]) rfl ?_
  refine x_gI e rfl rfl fd_12_1 rfl (fun z1 e => ?_)
  refine wp_p (j := J_Y_feed) 3 (pc' := 10) (lv' := [(0, .ref v0), (1, .int v1), (2, .int v2), (3, .int v3), (4, .int v4), (5, .int v5)]) (st' := [.int 2000, .int (z1 + 20)]) rfl ?_
  refine x_le e rfl (fun e => ?_) (fun e => ?_)
  · refine wp_p (j := J_Y_feed) 1 (pc' := 14) (lv' := [(0, .ref v0), (1, .int v1), (2, .int v2), (3, .int v3), (4, .int v4), (5, .int v5)]) (st' := [.int (-1)]) rfl ?_
    have e := Option.some.inj e; subst e; exact wp_iret (ty := .int) rfl rfl rfl c
  · refine wp_p (j := J_Y_feed) 2 (pc' := 17) (lv' := [(0, .ref v0), (1, .int v1), (2, .int v2), (3, .int v3), (4, .int v4), (5, .int v5)]) (st' := [.int v1, .ref v0]) rfl ?_
    refine x_cv0 (As := [.int v1]) (rest := []) e rfl rfl rfl rfl rfl rfl (fun h => d_Y_putFour h ⟨rfl, rfl⟩) (fun g2 e => ?_)
    refine wp_p (j := J_Y_feed) 2 (pc' := 22) (lv' := [(0, .ref v0), (1, .int v1), (2, .int v2), (3, .int v3), (4, .int v4), (5, .int v5)]) (st' := [.int v2, .ref v0]) rfl ?_
    refine x_cv0 (As := [.int v2]) (rest := []) e rfl rfl rfl rfl rfl rfl (fun h => d_Y_putFour h ⟨rfl, rfl⟩) (fun g3 e => ?_)
    refine wp_p (j := J_Y_feed) 2 (pc' := 27) (lv' := [(0, .ref v0), (1, .int v1), (2, .int v2), (3, .int v3), (4, .int v4), (5, .int v5)]) (st' := [.int v3, .ref v0]) rfl ?_
    refine x_cv0 (As := [.int v3]) (rest := []) e rfl rfl rfl rfl rfl rfl (fun h => d_Y_putFour h ⟨rfl, rfl⟩) (fun g4 e => ?_)
    refine wp_p (j := J_Y_feed) 2 (pc' := 33) (lv' := [(0, .ref v0), (1, .int v1), (2, .int v2), (3, .int v3), (4, .int v4), (5, .int v5)]) (st' := [.int v4, .ref v0]) rfl ?_
    refine x_cv0 (As := [.int v4]) (rest := []) e rfl rfl rfl rfl rfl rfl (fun h => d_Y_putFour h ⟨rfl, rfl⟩) (fun g5 e => ?_)
    refine wp_p (j := J_Y_feed) 2 (pc' := 39) (lv' := [(0, .ref v0), (1, .int v1), (2, .int v2), (3, .int v3), (4, .int v4), (5, .int v5)]) (st' := [.int v5, .ref v0]) rfl ?_
    refine x_cv0 (As := [.int v5]) (rest := []) e rfl rfl rfl rfl rfl rfl (fun h => d_Y_putFour h ⟨rfl, rfl⟩) (fun g6 e => ?_)
    refine wp_p (j := J_Y_feed) 1 (pc' := 43) (lv' := [(0, .ref v0), (1, .int v1), (2, .int v2), (3, .int v3), (4, .int v4), (5, .int v5)]) (st' := [.ref v0]) rfl ?_
    refine x_gI e rfl rfl fd_12_1 rfl (fun z7 e => ?_)
    have e := Option.some.inj e; subst e; exact wp_iret (ty := .int) rfl rfl rfl c
noncomputable def M_Y_end (v0 : Nat) (v1 : Int32) (g : g_S) : Option (Int32 × g_S) :=
  if v1 < 0 then
    some ((-1), g)
  else
    (rI g 112 v0 1).bind fun z1 =>
    if z1 < v1 then
      some ((-1), g)
    else
      (wI g 112 v0 1 v1).bind fun g2 =>
      some (v1, g2)
set_option maxRecDepth 20000 in
theorem d_Y_end {L : Nat} {xs : Nat → Int32} {Q : Option Value → ab_H → Prop} {v0 : Nat} {v1 : Int32} {g : g_S} {out : Int32 × g_S} (e : M_Y_end v0 v1 g = some out) (c : Q (some (.int out.1)) (hp out.2)) : mw (ab_ext L xs) J_Y_end [.ref v0, .int v1] (hp g) Q := by
  unfold M_Y_end at e
  refine wp_p (j := J_Y_end) 1 (pc' := 1) (lv' := [(0, .ref v0), (1, .int v1)]) (st' := [.int v1]) rfl ?_
  refine z_lt e rfl (fun e => ?_) (fun e => ?_)
  · refine wp_p (j := J_Y_end) 1 (pc' := 13) (lv' := [(0, .ref v0), (1, .int v1)]) (st' := [.int (-1)]) rfl ?_
    have e := Option.some.inj e; subst e; exact wp_iret (ty := .int) rfl rfl rfl c
  · refine wp_p (j := J_Y_end) 2 (pc' := 6) (lv' := [(0, .ref v0), (1, .int v1)]) (st' := [.ref v0, .int v1]) rfl ?_
    refine x_gI e rfl rfl fd_12_1 rfl (fun z1 e => ?_)
    refine x_le e rfl (fun e => ?_) (fun e => ?_)
    · refine wp_p (j := J_Y_end) 1 (pc' := 13) (lv' := [(0, .ref v0), (1, .int v1)]) (st' := [.int (-1)]) rfl ?_
      have e := Option.some.inj e; subst e; exact wp_iret (ty := .int) rfl rfl rfl c
    · refine wp_p (j := J_Y_end) 2 (pc' := 16) (lv' := [(0, .ref v0), (1, .int v1)]) (st' := [.int v1, .ref v0]) rfl ?_
      refine x_pI e rfl rfl fw_12_1 rfl (fun g2 e => ?_)
      refine wp_p (j := J_Y_end) 1 (pc' := 20) (lv' := [(0, .ref v0), (1, .int v1)]) (st' := [.int v1]) rfl ?_
      have e := Option.some.inj e; subst e; exact wp_iret (ty := .int) rfl rfl rfl c
noncomputable def M_Y_out (v0 : Nat) (v1 : Int32) (g : g_S) : Option Int32 :=
  if v1 < 0 then
    some (-1)
  else
    (rI g 112 v0 5).bind fun z1 =>
    if v1 < z1 then
      (rQ g 112 v0 4).bind fun z2 =>
      (aI g 1 z2 v1).bind fun z3 =>
      some (z3 &&& 255)
    else
      some (-1)
set_option maxRecDepth 20000 in
theorem d_Y_out {L : Nat} {xs : Nat → Int32} {Q : Option Value → ab_H → Prop} {v0 : Nat} {v1 : Int32} {g : g_S} {out : Int32} (e : M_Y_out v0 v1 g = some out) (c : Q (some (.int out)) (hp g)) : mw (ab_ext L xs) J_Y_out [.ref v0, .int v1] (hp g) Q := by
  unfold M_Y_out at e
  refine wp_p (j := J_Y_out) 1 (pc' := 1) (lv' := [(0, .ref v0), (1, .int v1)]) (st' := [.int v1]) rfl ?_
  refine z_lt e rfl (fun e => ?_) (fun e => ?_)
  · refine wp_p (j := J_Y_out) 2 (pc' := 26) (lv' := [(0, .ref v0), (1, .int v1)]) (st' := [.int (-1)]) rfl ?_
    have e := Option.some.inj e; subst e; exact wp_iret (ty := .int) rfl rfl rfl c
  · refine wp_p (j := J_Y_out) 2 (pc' := 6) (lv' := [(0, .ref v0), (1, .int v1)]) (st' := [.ref v0, .int v1]) rfl ?_
    refine x_gI e rfl rfl fd_12_5 rfl (fun z1 e => ?_)
    refine x_lt e rfl (fun e => ?_) (fun e => ?_)
    · refine wp_p (j := J_Y_out) 1 (pc' := 17) (lv' := [(0, .ref v0), (1, .int v1)]) (st' := [.ref v0]) rfl ?_
      refine x_gQ e rfl rfl fd_12_4 rfl (fun z2 e => ?_)
      refine wp_p (j := J_Y_out) 1 (pc' := 21) (lv' := [(0, .ref v0), (1, .int v1)]) (st' := [.int v1, .ref z2]) rfl ?_
      refine x_aB e rfl (.inl rfl) rfl (fun z3 e => ?_)
      refine wp_p (j := J_Y_out) 2 (pc' := 26) (lv' := [(0, .ref v0), (1, .int v1)]) (st' := [.int (z3 &&& 255)]) rfl ?_
      have e := Option.some.inj e; subst e; exact wp_iret (ty := .int) rfl rfl rfl c
    · refine wp_p (j := J_Y_out) 2 (pc' := 26) (lv' := [(0, .ref v0), (1, .int v1)]) (st' := [.int (-1)]) rfl ?_
      have e := Option.some.inj e; subst e; exact wp_iret (ty := .int) rfl rfl rfl c
noncomputable def M_Y_resolve0 (v0 : Nat) (g : g_S) : Option (Int32 × g_S) :=
  (rQ g 112 v0 2).bind fun z1 =>
  (rI g 112 v0 3).bind fun z2 =>
  c2 (vc g 112 v0 (M_Y_refer v0 z1 0 z2 1 g)) fun z3 g4 =>
  (tz z3).bind fun z5 =>
  some (z5, g4)
set_option maxRecDepth 20000 in
theorem d_Y_resolve0 {L : Nat} {xs : Nat → Int32} {Q : Option Value → ab_H → Prop} {v0 : Nat} {g : g_S} {out : Int32 × g_S} (e : M_Y_resolve0 v0 g = some out) (c : Q (some (.int out.1)) (hp out.2)) : mw (ab_ext L xs) J_Y_resolve0 [.ref v0] (hp g) Q := by
  unfold M_Y_resolve0 at e
  refine wp_p (j := J_Y_resolve0) 2 (pc' := 2) (lv' := [(0, .ref v0)]) (st' := [.ref v0, .ref v0]) rfl ?_
  refine x_gQ e rfl rfl fd_12_2 rfl (fun z1 e => ?_)
  refine wp_p (j := J_Y_resolve0) 2 (pc' := 7) (lv' := [(0, .ref v0)]) (st' := [.ref v0, .int 0, .ref z1, .ref v0]) rfl ?_
  refine x_gI e rfl rfl fd_12_3 rfl (fun z2 e => ?_)
  refine wp_p (j := J_Y_resolve0) 1 (pc' := 11) (lv' := [(0, .ref v0)]) (st' := [.int 1, .int z2, .int 0, .ref z1, .ref v0]) rfl ?_
  refine x_cv2 (As := [.ref z1, .int 0, .int z2, .int 1]) (rest := []) Value.int e rfl rfl rfl rfl rfl rfl (fun h => d_Y_refer h ⟨rfl, rfl⟩) (fun z3 g4 e => ?_)
  obtain ⟨h6, e⟩ := tz_ok e
  have e := Option.some.inj e; subst e; exact wp_iret (ty := .boolean) rfl rfl h6 c
noncomputable def M_Y_sayRow (v0 : Nat) (v1 : Int32) (g : g_S) : Option g_S :=
  (rQ g 112 v0 6).bind fun z1 =>
  (rQ g 112 v0 7).bind fun z2 =>
  (aI g 0 z2 v1).bind fun z3 =>
  (vc g 112 v0 (M_Y_sayAll v0 z1 (v1 * 150) z3 g)).bind fun g4 =>
  (rQ g4 112 v0 8).bind fun z5 =>
  (aI g4 0 z5 v1).bind fun z6 =>
  if 0 < z6 then
    (vc g4 112 v0 (M_Y_say v0 35 g4)).bind fun g7 =>
    (rQ g7 112 v0 6).bind fun z8 =>
    (rQ g7 112 v0 8).bind fun z9 =>
    (aI g7 0 z9 v1).bind fun z10 =>
    (vc g7 112 v0 (M_Y_sayAll v0 z8 ((v1 * 150) + 135) z10 g7)).bind fun g11 =>
    some g11
  else
    some g4
set_option maxRecDepth 20000 in
theorem d_Y_sayRow {L : Nat} {xs : Nat → Int32} {Q : Option Value → ab_H → Prop} {v0 : Nat} {v1 : Int32} {g : g_S} {out : g_S} (e : M_Y_sayRow v0 v1 g = some out) (c : Q none (hp out)) : mw (ab_ext L xs) J_Y_sayRow [.ref v0, .int v1] (hp g) Q := by
  unfold M_Y_sayRow at e
  refine wp_p (j := J_Y_sayRow) 2 (pc' := 2) (lv' := [(0, .ref v0), (1, .int v1)]) (st' := [.ref v0, .ref v0]) rfl ?_
  refine x_gQ e rfl rfl fd_12_6 rfl (fun z1 e => ?_)
  refine wp_p (j := J_Y_sayRow) 4 (pc' := 11) (lv' := [(0, .ref v0), (1, .int v1)]) (st' := [.ref v0, .int (v1 * 150), .ref z1, .ref v0]) rfl ?_
  refine x_gQ e rfl rfl fd_12_7 rfl (fun z2 e => ?_)
  refine wp_p (j := J_Y_sayRow) 1 (pc' := 15) (lv' := [(0, .ref v0), (1, .int v1)]) (st' := [.int v1, .ref z2, .int (v1 * 150), .ref z1, .ref v0]) rfl ?_
  refine x_aI e rfl rfl (fun z3 e => ?_)
  refine x_cv0 (As := [.ref z1, .int (v1 * 150), .int z3]) (rest := []) e rfl rfl rfl rfl rfl rfl (fun h => d_Y_sayAll h ⟨rfl, rfl⟩) (fun g4 e => ?_)
  refine wp_p (j := J_Y_sayRow) 1 (pc' := 20) (lv' := [(0, .ref v0), (1, .int v1)]) (st' := [.ref v0]) rfl ?_
  refine x_gQ e rfl rfl fd_12_8 rfl (fun z5 e => ?_)
  refine wp_p (j := J_Y_sayRow) 1 (pc' := 24) (lv' := [(0, .ref v0), (1, .int v1)]) (st' := [.int v1, .ref z5]) rfl ?_
  refine x_aI e rfl rfl (fun z6 e => ?_)
  refine z_le e rfl (fun e => ?_) (fun e => ?_)
  · refine wp_p (j := J_Y_sayRow) 2 (pc' := 31) (lv' := [(0, .ref v0), (1, .int v1)]) (st' := [.int 35, .ref v0]) rfl ?_
    refine x_cv0 (As := [.int 35]) (rest := []) e rfl rfl rfl rfl rfl rfl (fun h => d_Y_say h ⟨rfl, rfl⟩) (fun g7 e => ?_)
    refine wp_p (j := J_Y_sayRow) 2 (pc' := 36) (lv' := [(0, .ref v0), (1, .int v1)]) (st' := [.ref v0, .ref v0]) rfl ?_
    refine x_gQ e rfl rfl fd_12_6 rfl (fun z8 e => ?_)
    refine wp_p (j := J_Y_sayRow) 6 (pc' := 49) (lv' := [(0, .ref v0), (1, .int v1)]) (st' := [.ref v0, .int ((v1 * 150) + 135), .ref z8, .ref v0]) rfl ?_
    refine x_gQ e rfl rfl fd_12_8 rfl (fun z9 e => ?_)
    refine wp_p (j := J_Y_sayRow) 1 (pc' := 53) (lv' := [(0, .ref v0), (1, .int v1)]) (st' := [.int v1, .ref z9, .int ((v1 * 150) + 135), .ref z8, .ref v0]) rfl ?_
    refine x_aI e rfl rfl (fun z10 e => ?_)
    refine x_cv0 (As := [.ref z8, .int ((v1 * 150) + 135), .int z10]) (rest := []) e rfl rfl rfl rfl rfl rfl (fun h => d_Y_sayAll h ⟨rfl, rfl⟩) (fun g11 e => ?_)
    have e := Option.some.inj e; subst e; exact wp_vret rfl rfl c
  · have e := Option.some.inj e; subst e; exact wp_vret rfl rfl c
noncomputable def M_Y_resolve (v0 : Nat) (g : g_S) : Option (Int32 × g_S) :=
  c2 (vc g 112 v0 (M_Y_take v0 g)) fun z1 g2 =>
  if z1 < 0 then
    c2 (vc g2 112 v0 (M_Y_resolve0 v0 g2)) fun z3 g4 =>
    if z3 = 0 then
      some ((-1), g4)
    else
      (wI g4 112 v0 5 0).bind fun g5 =>
      (vc g5 112 v0 (M_Y_sayRow v0 0 g5)).bind fun g6 =>
      (rI g6 112 v0 5).bind fun z7 =>
      some (z7, g6)
  else
    (M_Y_wrong z1 g2).bind fun z8 =>
    some (z8, g2)
set_option maxRecDepth 20000 in
theorem d_Y_resolve {L : Nat} {xs : Nat → Int32} {Q : Option Value → ab_H → Prop} {v0 : Nat} {g : g_S} {out : Int32 × g_S} (e : M_Y_resolve v0 g = some out) (c : Q (some (.int out.1)) (hp out.2)) : mw (ab_ext L xs) J_Y_resolve [.ref v0] (hp g) Q := by
  unfold M_Y_resolve at e
  refine wp_p (j := J_Y_resolve) 1 (pc' := 1) (lv' := [(0, .ref v0)]) (st' := [.ref v0]) rfl ?_
  refine x_cv2 (As := []) (rest := []) Value.int e rfl rfl rfl rfl rfl rfl (fun h => d_Y_take h ⟨rfl, rfl⟩) (fun z1 g2 e => ?_)
  refine wp_p (j := J_Y_resolve) 2 (pc' := 6) (lv' := [(1, .int z1), (0, .ref v0)]) (st' := [.int z1]) rfl ?_
  refine z_lt e rfl (fun e => ?_) (fun e => ?_)
  · refine wp_p (j := J_Y_resolve) 1 (pc' := 15) (lv' := [(1, .int z1), (0, .ref v0)]) (st' := [.ref v0]) rfl ?_
    refine x_cv2 (As := []) (rest := []) Value.int e rfl rfl rfl rfl rfl rfl (fun h => d_Y_resolve0 h ⟨rfl, rfl⟩) (fun z3 g4 e => ?_)
    refine z_ne e rfl (fun e => ?_) (fun e => ?_)
    · refine wp_p (j := J_Y_resolve) 1 (pc' := 22) (lv' := [(1, .int z1), (0, .ref v0)]) (st' := [.int (-1)]) rfl ?_
      have e := Option.some.inj e; subst e; exact wp_iret (ty := .int) rfl rfl rfl c
    · refine wp_p (j := J_Y_resolve) 2 (pc' := 25) (lv' := [(1, .int z1), (0, .ref v0)]) (st' := [.int 0, .ref v0]) rfl ?_
      refine x_pI e rfl rfl fw_12_5 rfl (fun g5 e => ?_)
      refine wp_p (j := J_Y_resolve) 2 (pc' := 30) (lv' := [(1, .int z1), (0, .ref v0)]) (st' := [.int 0, .ref v0]) rfl ?_
      refine x_cv0 (As := [.int 0]) (rest := []) e rfl rfl rfl rfl rfl rfl (fun h => d_Y_sayRow h ⟨rfl, rfl⟩) (fun g6 e => ?_)
      refine wp_p (j := J_Y_resolve) 1 (pc' := 34) (lv' := [(1, .int z1), (0, .ref v0)]) (st' := [.ref v0]) rfl ?_
      refine x_gI e rfl rfl fd_12_5 rfl (fun z7 e => ?_)
      have e := Option.some.inj e; subst e; exact wp_iret (ty := .int) rfl rfl rfl c
  · refine wp_p (j := J_Y_resolve) 1 (pc' := 10) (lv' := [(1, .int z1), (0, .ref v0)]) (st' := [.int z1]) rfl ?_
    refine x_cs1 (As := [.int z1]) (rest := []) Value.int e rfl rfl rfl rfl rfl (fun h => d_Y_wrong h ⟨rfl, rfl⟩) (fun z8 e => ?_)
    have e := Option.some.inj e; subst e; exact wp_iret (ty := .int) rfl rfl rfl c
noncomputable def M_Y_begin (v0 : Nat) (g : g_S) : Option g_S :=
  (wZ g 112 v0 152 0).bind fun g1 =>
  (wZ g1 112 v0 153 0).bind fun g2 =>
  (wZ g2 112 v0 154 0).bind fun g3 =>
  (wZ g3 112 v0 163 0).bind fun g4 =>
  (wI g4 112 v0 158 0).bind fun g5 =>
  some g5
set_option maxRecDepth 20000 in
theorem d_Y_begin {L : Nat} {xs : Nat → Int32} {Q : Option Value → ab_H → Prop} {v0 : Nat} {g : g_S} {out : g_S} (e : M_Y_begin v0 g = some out) (c : Q none (hp out)) : mw (ab_ext L xs) J_Y_begin [.ref v0] (hp g) Q := by
  unfold M_Y_begin at e
  refine wp_p (j := J_Y_begin) 2 (pc' := 2) (lv' := [(0, .ref v0)]) (st' := [.int 0, .ref v0]) rfl ?_
  refine x_pZ e rfl rfl fw_12_152 rfl (fun g1 e => ?_)
  refine wp_p (j := J_Y_begin) 2 (pc' := 7) (lv' := [(0, .ref v0)]) (st' := [.int 0, .ref v0]) rfl ?_
  refine x_pZ e rfl rfl fw_12_153 rfl (fun g2 e => ?_)
  refine wp_p (j := J_Y_begin) 2 (pc' := 12) (lv' := [(0, .ref v0)]) (st' := [.int 0, .ref v0]) rfl ?_
  refine x_pZ e rfl rfl fw_12_154 rfl (fun g3 e => ?_)
  refine wp_p (j := J_Y_begin) 2 (pc' := 17) (lv' := [(0, .ref v0)]) (st' := [.int 0, .ref v0]) rfl ?_
  refine x_pZ e rfl rfl fw_12_163 rfl (fun g4 e => ?_)
  refine wp_p (j := J_Y_begin) 2 (pc' := 22) (lv' := [(0, .ref v0)]) (st' := [.int 0, .ref v0]) rfl ?_
  refine x_pI e rfl rfl fw_12_158 rfl (fun g5 e => ?_)
  have e := Option.some.inj e; subst e; exact wp_vret rfl rfl c
def cL_Y_remember_21 (L : Nat) (xs : Nat → Int32) (Q : Option Value → ab_H → Prop) (v0 : Nat) (out : (Int32 × g_S) ⊕ (g_S)) : Prop := match out with
  | .inl s => wp (ab_ext L xs) J_Y_remember 21 [(0, .ref v0), (1, .int s.1)] [] (hp s.2) Q
  | .inr s => wp (ab_ext L xs) J_Y_remember 47 [(0, .ref v0)] [] (hp s) Q
noncomputable def b_Y_remember_21 (v0 : Nat) (v1 : Int32) (g : g_S) : Option ((Int32 × g_S) ⊕ (g_S)) :=
  if v1 < 20 then
    (vc g 112 v0 (M_Y_copyRow v0 ((26 + v1) - 1) (26 + v1) g)).bind fun g1 =>
    some (.inl (v1 + 1, g1))
  else
    some (.inr g)
set_option maxRecDepth 20000 in
theorem y_Y_remember_21 {L : Nat} {xs : Nat → Int32} {Q : Option Value → ab_H → Prop} {v0 : Nat} {v1 : Int32} {g : g_S} {out : (Int32 × g_S) ⊕ (g_S)} (e : b_Y_remember_21 v0 v1 g = some out) (c : cL_Y_remember_21 L xs Q v0 out) : wp (ab_ext L xs) J_Y_remember 21 [(0, .ref v0), (1, .int v1)] [] (hp g) Q := by
  unfold b_Y_remember_21 at e
  refine wp_p (j := J_Y_remember) 2 (pc' := 24) (lv' := [(0, .ref v0), (1, .int v1)]) (st' := [.int 20, .int v1]) rfl ?_
  refine x_ge e rfl (fun e => ?_) (fun e => ?_)
  · refine wp_p (j := J_Y_remember) 9 (pc' := 38) (lv' := [(0, .ref v0), (1, .int v1)]) (st' := [.int (26 + v1), .int ((26 + v1) - 1), .ref v0]) rfl ?_
    refine x_cv0 (As := [.int ((26 + v1) - 1), .int (26 + v1)]) (rest := []) e rfl rfl rfl rfl rfl rfl (fun h => d_Y_copyRow h ⟨rfl, rfl⟩) (fun g1 e => ?_)
    refine wp_p (j := J_Y_remember) 2 (pc' := 21) (lv' := [(1, .int (v1 + 1)), (0, .ref v0)]) (st' := []) rfl ?_
    have e := Option.some.inj e; subst e; exact wp_lv (lv' := [(0, .ref v0), (1, .int (v1 + 1))]) rfl ⟨rfl, rfl, trivial⟩ c
  · have e := Option.some.inj e; subst e; exact wp_lv (lv' := [(0, .ref v0)]) rfl ⟨rfl, trivial⟩ c
noncomputable def L_Y_remember_21 (v0 : Nat) (v1 : Int32) (g : g_S) : Option (g_S) := it (fun s : Int32 × g_S => b_Y_remember_21 v0 s.1 s.2) (v1, g)
theorem l_Y_remember_21 {L : Nat} {xs : Nat → Int32} {Q : Option Value → ab_H → Prop} {v0 : Nat} {v1 : Int32} {g : g_S} {r : g_S} (e : L_Y_remember_21 v0 v1 g = some r) (c : cL_Y_remember_21 L xs Q v0 (.inr r)) : wp (ab_ext L xs) J_Y_remember 21 [(0, .ref v0), (1, .int v1)] [] (hp g) Q :=
  it_wp (P := fun s : Int32 × g_S => wp (ab_ext L xs) J_Y_remember 21 [(0, .ref v0), (1, .int s.1)] [] (hp s.2) Q) (E := fun r => cL_Y_remember_21 L xs Q v0 (.inr r)) (fun s out e c => y_Y_remember_21 e (by cases out <;> exact c)) e c
theorem L_Y_remember_21_eq (v0 : Nat) (v1 : Int32) (g : g_S) : L_Y_remember_21 v0 v1 g = itc (b_Y_remember_21 v0 v1 g) (fun s => L_Y_remember_21 v0 s.1 s.2) := it_eq2 (fun s : Int32 × g_S => b_Y_remember_21 v0 s.1 s.2) (v1, g)
noncomputable def k_Y_remember_57 (v0 : Nat) (g : g_S) : Option g_S :=
  (rI g 112 v0 148).bind fun z1 =>
  (wI g 112 v0 149 z1).bind fun g2 =>
  (rI g2 112 v0 148).bind fun z3 =>
  (vc g2 112 v0 (M_Y_copyRow v0 (26 + z3) 1 g2)).bind fun g4 =>
  (rI g4 112 v0 148).bind fun z5 =>
  (wI g4 112 v0 148 (z5 + 1)).bind fun g6 =>
  some g6
set_option maxRecDepth 20000 in
theorem x_Y_remember_57 {L : Nat} {xs : Nat → Int32} {Q : Option Value → ab_H → Prop} {v0 : Nat} {g : g_S} {out : g_S} (e : k_Y_remember_57 v0 g = some out) (c : Q none (hp out)) : wp (ab_ext L xs) J_Y_remember 57 [(0, .ref v0)] [] (hp g) Q := by
  unfold k_Y_remember_57 at e
  refine wp_p (j := J_Y_remember) 2 (pc' := 59) (lv' := [(0, .ref v0)]) (st' := [.ref v0, .ref v0]) rfl ?_
  refine x_gI e rfl rfl fd_12_148 rfl (fun z1 e => ?_)
  refine x_pI e rfl rfl fw_12_149 rfl (fun g2 e => ?_)
  refine wp_p (j := J_Y_remember) 3 (pc' := 69) (lv' := [(0, .ref v0)]) (st' := [.ref v0, .int 26, .ref v0]) rfl ?_
  refine x_gI e rfl rfl fd_12_148 rfl (fun z3 e => ?_)
  refine wp_p (j := J_Y_remember) 2 (pc' := 74) (lv' := [(0, .ref v0)]) (st' := [.int 1, .int (26 + z3), .ref v0]) rfl ?_
  refine x_cv0 (As := [.int (26 + z3), .int 1]) (rest := []) e rfl rfl rfl rfl rfl rfl (fun h => d_Y_copyRow h ⟨rfl, rfl⟩) (fun g4 e => ?_)
  refine wp_p (j := J_Y_remember) 2 (pc' := 79) (lv' := [(0, .ref v0)]) (st' := [.ref v0, .ref v0]) rfl ?_
  refine x_gI e rfl rfl fd_12_148 rfl (fun z5 e => ?_)
  refine wp_p (j := J_Y_remember) 2 (pc' := 84) (lv' := [(0, .ref v0)]) (st' := [.int (z5 + 1), .ref v0]) rfl ?_
  refine x_pI e rfl rfl fw_12_148 rfl (fun g6 e => ?_)
  have e := Option.some.inj e; subst e; exact wp_vret rfl rfl c
noncomputable def M_Y_remember (v0 : Nat) (g : g_S) : Option g_S :=
  (rI g 112 v0 149).bind fun z1 =>
  (wI g 112 v0 148 (z1 + 1)).bind fun g2 =>
  (rI g2 112 v0 148).bind fun z3 =>
  if z3 = 20 then
    (L_Y_remember_21 v0 1 g2).bind <| fun g6 =>
    (rI g6 112 v0 148).bind fun z7 =>
    (wI g6 112 v0 148 (z7 - 1)).bind fun g8 =>
    k_Y_remember_57 v0 g8
  else
    k_Y_remember_57 v0 g2
set_option maxRecDepth 20000 in
theorem d_Y_remember {L : Nat} {xs : Nat → Int32} {Q : Option Value → ab_H → Prop} {v0 : Nat} {g : g_S} {out : g_S} (e : M_Y_remember v0 g = some out) (c : Q none (hp out)) : mw (ab_ext L xs) J_Y_remember [.ref v0] (hp g) Q := by
  unfold M_Y_remember at e
  refine wp_p (j := J_Y_remember) 2 (pc' := 2) (lv' := [(0, .ref v0)]) (st' := [.ref v0, .ref v0]) rfl ?_
  refine x_gI e rfl rfl fd_12_149 rfl (fun z1 e => ?_)
  refine wp_p (j := J_Y_remember) 2 (pc' := 7) (lv' := [(0, .ref v0)]) (st' := [.int (z1 + 1), .ref v0]) rfl ?_
  refine x_pI e rfl rfl fw_12_148 rfl (fun g2 e => ?_)
  refine wp_p (j := J_Y_remember) 1 (pc' := 11) (lv' := [(0, .ref v0)]) (st' := [.ref v0]) rfl ?_
  refine x_gI e rfl rfl fd_12_148 rfl (fun z3 e => ?_)
  refine wp_p (j := J_Y_remember) 1 (pc' := 16) (lv' := [(0, .ref v0)]) (st' := [.int 20, .int z3]) rfl ?_
  refine x_ne e rfl (fun e => ?_) (fun e => ?_)
  · refine wp_p (j := J_Y_remember) 2 (pc' := 21) (lv' := [(1, .int 1), (0, .ref v0)]) (st' := []) rfl ?_
    obtain ⟨g6, h5, e⟩ := bd e
    refine wp_lv (lv' := [(0, .ref v0), (1, .int 1)]) rfl ⟨rfl, rfl, trivial⟩ ?_
    refine l_Y_remember_21 h5 ?_
    show wp (ab_ext L xs) J_Y_remember 47 [(0, .ref v0)] [] (hp g6) Q
    refine wp_p (j := J_Y_remember) 2 (pc' := 49) (lv' := [(0, .ref v0)]) (st' := [.ref v0, .ref v0]) rfl ?_
    refine x_gI e rfl rfl fd_12_148 rfl (fun z7 e => ?_)
    refine wp_p (j := J_Y_remember) 2 (pc' := 54) (lv' := [(0, .ref v0)]) (st' := [.int (z7 - 1), .ref v0]) rfl ?_
    refine x_pI e rfl rfl fw_12_148 rfl (fun g8 e => ?_)
    exact wp_lv (lv' := [(0, .ref v0)]) rfl ⟨rfl, trivial⟩ (x_Y_remember_57 e c)
  · exact wp_lv (lv' := [(0, .ref v0)]) rfl ⟨rfl, trivial⟩ (x_Y_remember_57 e c)
noncomputable def M_Y_send (v0 : Nat) (v1 : Int32) (g : g_S) : Option g_S :=
  (rQ g 112 v0 36).bind fun z1 =>
  (rI g 112 v0 37).bind fun z2 =>
  (sB g z1 z2 ((Int32.toInt8 v1).toInt32)).bind fun g3 =>
  (rI g3 112 v0 37).bind fun z4 =>
  (wI g3 112 v0 37 (z4 + 1)).bind fun g5 =>
  some g5
set_option maxRecDepth 20000 in
theorem d_Y_send {L : Nat} {xs : Nat → Int32} {Q : Option Value → ab_H → Prop} {v0 : Nat} {v1 : Int32} {g : g_S} {out : g_S} (e : M_Y_send v0 v1 g = some out) (c : Q none (hp out)) : mw (ab_ext L xs) J_Y_send [.ref v0, .int v1] (hp g) Q := by
  unfold M_Y_send at e
  refine wp_p (j := J_Y_send) 1 (pc' := 1) (lv' := [(0, .ref v0), (1, .int v1)]) (st' := [.ref v0]) rfl ?_
  refine x_gQ e rfl rfl fd_12_36 rfl (fun z1 e => ?_)
  refine wp_p (j := J_Y_send) 1 (pc' := 5) (lv' := [(0, .ref v0), (1, .int v1)]) (st' := [.ref v0, .ref z1]) rfl ?_
  refine x_gI e rfl rfl fd_12_37 rfl (fun z2 e => ?_)
  refine wp_p (j := J_Y_send) 2 (pc' := 10) (lv' := [(0, .ref v0), (1, .int v1)]) (st' := [.int ((Int32.toInt8 v1).toInt32), .int z2, .ref z1]) rfl ?_
  refine x_sB e rfl rfl (fun g3 e => ?_)
  refine wp_p (j := J_Y_send) 2 (pc' := 13) (lv' := [(0, .ref v0), (1, .int v1)]) (st' := [.ref v0, .ref v0]) rfl ?_
  refine x_gI e rfl rfl fd_12_37 rfl (fun z4 e => ?_)
  refine wp_p (j := J_Y_send) 2 (pc' := 18) (lv' := [(0, .ref v0), (1, .int v1)]) (st' := [.int (z4 + 1), .ref v0]) rfl ?_
  refine x_pI e rfl rfl fw_12_37 rfl (fun g5 e => ?_)
  have e := Option.some.inj e; subst e; exact wp_vret rfl rfl c
def cL_Y_tellCookies_73 (L : Nat) (xs : Nat → Int32) (Q : Option Value → ab_H → Prop) (v0 : Nat) (v1 : Int32) (v2 : Int32) (out : (Int32 × g_S) ⊕ (g_S)) : Prop := match out with
  | .inl s => wp (ab_ext L xs) J_Y_tellCookies 73 [(0, .ref v0), (1, .int v1), (2, .int v2), (3, .int s.1)] [] (hp s.2) Q
  | .inr s => wp (ab_ext L xs) J_Y_tellCookies 107 [(0, .ref v0), (1, .int v1), (2, .int v2)] [] (hp s) Q
noncomputable def b_Y_tellCookies_73 (v0 : Nat) (v1 : Int32) (v2 : Int32) (v3 : Int32) (g : g_S) : Option ((Int32 × g_S) ⊕ (g_S)) :=
  (rQ g 112 v0 33).bind fun z1 =>
  (aI g 0 z1 v2).bind fun z2 =>
  if v3 < z2 then
    (rQ g 112 v0 31).bind fun z3 =>
    (aI g 1 z3 (((24 * v2) + 8) + v3)).bind fun z4 =>
    (vc g 112 v0 (M_Y_send v0 z4 g)).bind fun g5 =>
    some (.inl (v3 + 1, g5))
  else
    some (.inr g)
set_option maxRecDepth 20000 in
theorem y_Y_tellCookies_73 {L : Nat} {xs : Nat → Int32} {Q : Option Value → ab_H → Prop} {v0 : Nat} {v1 : Int32} {v2 : Int32} {v3 : Int32} {g : g_S} {out : (Int32 × g_S) ⊕ (g_S)} (e : b_Y_tellCookies_73 v0 v1 v2 v3 g = some out) (c : cL_Y_tellCookies_73 L xs Q v0 v1 v2 out) : wp (ab_ext L xs) J_Y_tellCookies 73 [(0, .ref v0), (1, .int v1), (2, .int v2), (3, .int v3)] [] (hp g) Q := by
  unfold b_Y_tellCookies_73 at e
  refine wp_p (j := J_Y_tellCookies) 2 (pc' := 75) (lv' := [(0, .ref v0), (1, .int v1), (2, .int v2), (3, .int v3)]) (st' := [.ref v0, .int v3]) rfl ?_
  refine x_gQ e rfl rfl fd_12_33 rfl (fun z1 e => ?_)
  refine wp_p (j := J_Y_tellCookies) 1 (pc' := 79) (lv' := [(0, .ref v0), (1, .int v1), (2, .int v2), (3, .int v3)]) (st' := [.int v2, .ref z1, .int v3]) rfl ?_
  refine x_aI e rfl rfl (fun z2 e => ?_)
  refine x_ge e rfl (fun e => ?_) (fun e => ?_)
  · refine wp_p (j := J_Y_tellCookies) 2 (pc' := 85) (lv' := [(0, .ref v0), (1, .int v1), (2, .int v2), (3, .int v3)]) (st' := [.ref v0, .ref v0]) rfl ?_
    refine x_gQ e rfl rfl fd_12_31 rfl (fun z3 e => ?_)
    refine wp_p (j := J_Y_tellCookies) 7 (pc' := 97) (lv' := [(0, .ref v0), (1, .int v1), (2, .int v2), (3, .int v3)]) (st' := [.int (((24 * v2) + 8) + v3), .ref z3, .ref v0]) rfl ?_
    refine x_aB e rfl (.inl rfl) rfl (fun z4 e => ?_)
    refine x_cv0 (As := [.int z4]) (rest := []) e rfl rfl rfl rfl rfl rfl (fun h => d_Y_send h ⟨rfl, rfl⟩) (fun g5 e => ?_)
    refine wp_p (j := J_Y_tellCookies) 2 (pc' := 73) (lv' := [(3, .int (v3 + 1)), (0, .ref v0), (1, .int v1), (2, .int v2)]) (st' := []) rfl ?_
    have e := Option.some.inj e; subst e; exact wp_lv (lv' := [(0, .ref v0), (1, .int v1), (2, .int v2), (3, .int (v3 + 1))]) rfl ⟨rfl, rfl, rfl, rfl, trivial⟩ c
  · have e := Option.some.inj e; subst e; exact wp_lv (lv' := [(0, .ref v0), (1, .int v1), (2, .int v2)]) rfl ⟨rfl, rfl, rfl, trivial⟩ c
noncomputable def L_Y_tellCookies_73 (v0 : Nat) (v1 : Int32) (v2 : Int32) (v3 : Int32) (g : g_S) : Option (g_S) := it (fun s : Int32 × g_S => b_Y_tellCookies_73 v0 v1 v2 s.1 s.2) (v3, g)
theorem l_Y_tellCookies_73 {L : Nat} {xs : Nat → Int32} {Q : Option Value → ab_H → Prop} {v0 : Nat} {v1 : Int32} {v2 : Int32} {v3 : Int32} {g : g_S} {r : g_S} (e : L_Y_tellCookies_73 v0 v1 v2 v3 g = some r) (c : cL_Y_tellCookies_73 L xs Q v0 v1 v2 (.inr r)) : wp (ab_ext L xs) J_Y_tellCookies 73 [(0, .ref v0), (1, .int v1), (2, .int v2), (3, .int v3)] [] (hp g) Q :=
  it_wp (P := fun s : Int32 × g_S => wp (ab_ext L xs) J_Y_tellCookies 73 [(0, .ref v0), (1, .int v1), (2, .int v2), (3, .int s.1)] [] (hp s.2) Q) (E := fun r => cL_Y_tellCookies_73 L xs Q v0 v1 v2 (.inr r)) (fun s out e c => y_Y_tellCookies_73 e (by cases out <;> exact c)) e c
theorem L_Y_tellCookies_73_eq (v0 : Nat) (v1 : Int32) (v2 : Int32) (v3 : Int32) (g : g_S) : L_Y_tellCookies_73 v0 v1 v2 v3 g = itc (b_Y_tellCookies_73 v0 v1 v2 v3 g) (fun s => L_Y_tellCookies_73 v0 v1 v2 s.1 s.2) := it_eq2 (fun s : Int32 × g_S => b_Y_tellCookies_73 v0 v1 v2 s.1 s.2) (v3, g)
def cL_Y_tellCookies_115 (L : Nat) (xs : Nat → Int32) (Q : Option Value → ab_H → Prop) (v0 : Nat) (v1 : Int32) (v2 : Int32) (out : (Int32 × g_S) ⊕ (g_S)) : Prop := match out with
  | .inl s => wp (ab_ext L xs) J_Y_tellCookies 115 [(0, .ref v0), (1, .int v1), (2, .int v2), (3, .int s.1)] [] (hp s.2) Q
  | .inr s => wp (ab_ext L xs) J_Y_tellCookies 149 [(0, .ref v0), (1, .int v1), (2, .int v2)] [] (hp s) Q
noncomputable def b_Y_tellCookies_115 (v0 : Nat) (v1 : Int32) (v2 : Int32) (v3 : Int32) (g : g_S) : Option ((Int32 × g_S) ⊕ (g_S)) :=
  (rQ g 112 v0 34).bind fun z1 =>
  (aI g 0 z1 v2).bind fun z2 =>
  if v3 < z2 then
    (rQ g 112 v0 31).bind fun z3 =>
    (aI g 1 z3 (((24 * v2) + 16) + v3)).bind fun z4 =>
    (vc g 112 v0 (M_Y_send v0 z4 g)).bind fun g5 =>
    some (.inl (v3 + 1, g5))
  else
    some (.inr g)
set_option maxRecDepth 20000 in
theorem y_Y_tellCookies_115 {L : Nat} {xs : Nat → Int32} {Q : Option Value → ab_H → Prop} {v0 : Nat} {v1 : Int32} {v2 : Int32} {v3 : Int32} {g : g_S} {out : (Int32 × g_S) ⊕ (g_S)} (e : b_Y_tellCookies_115 v0 v1 v2 v3 g = some out) (c : cL_Y_tellCookies_115 L xs Q v0 v1 v2 out) : wp (ab_ext L xs) J_Y_tellCookies 115 [(0, .ref v0), (1, .int v1), (2, .int v2), (3, .int v3)] [] (hp g) Q := by
  unfold b_Y_tellCookies_115 at e
  refine wp_p (j := J_Y_tellCookies) 2 (pc' := 117) (lv' := [(0, .ref v0), (1, .int v1), (2, .int v2), (3, .int v3)]) (st' := [.ref v0, .int v3]) rfl ?_
  refine x_gQ e rfl rfl fd_12_34 rfl (fun z1 e => ?_)
  refine wp_p (j := J_Y_tellCookies) 1 (pc' := 121) (lv' := [(0, .ref v0), (1, .int v1), (2, .int v2), (3, .int v3)]) (st' := [.int v2, .ref z1, .int v3]) rfl ?_
  refine x_aI e rfl rfl (fun z2 e => ?_)
  refine x_ge e rfl (fun e => ?_) (fun e => ?_)
  · refine wp_p (j := J_Y_tellCookies) 2 (pc' := 127) (lv' := [(0, .ref v0), (1, .int v1), (2, .int v2), (3, .int v3)]) (st' := [.ref v0, .ref v0]) rfl ?_
    refine x_gQ e rfl rfl fd_12_31 rfl (fun z3 e => ?_)
    refine wp_p (j := J_Y_tellCookies) 7 (pc' := 139) (lv' := [(0, .ref v0), (1, .int v1), (2, .int v2), (3, .int v3)]) (st' := [.int (((24 * v2) + 16) + v3), .ref z3, .ref v0]) rfl ?_
    refine x_aB e rfl (.inl rfl) rfl (fun z4 e => ?_)
    refine x_cv0 (As := [.int z4]) (rest := []) e rfl rfl rfl rfl rfl rfl (fun h => d_Y_send h ⟨rfl, rfl⟩) (fun g5 e => ?_)
    refine wp_p (j := J_Y_tellCookies) 2 (pc' := 115) (lv' := [(3, .int (v3 + 1)), (0, .ref v0), (1, .int v1), (2, .int v2)]) (st' := []) rfl ?_
    have e := Option.some.inj e; subst e; exact wp_lv (lv' := [(0, .ref v0), (1, .int v1), (2, .int v2), (3, .int (v3 + 1))]) rfl ⟨rfl, rfl, rfl, rfl, trivial⟩ c
  · have e := Option.some.inj e; subst e; exact wp_lv (lv' := [(0, .ref v0), (1, .int v1), (2, .int v2)]) rfl ⟨rfl, rfl, rfl, trivial⟩ c
noncomputable def L_Y_tellCookies_115 (v0 : Nat) (v1 : Int32) (v2 : Int32) (v3 : Int32) (g : g_S) : Option (g_S) := it (fun s : Int32 × g_S => b_Y_tellCookies_115 v0 v1 v2 s.1 s.2) (v3, g)
theorem l_Y_tellCookies_115 {L : Nat} {xs : Nat → Int32} {Q : Option Value → ab_H → Prop} {v0 : Nat} {v1 : Int32} {v2 : Int32} {v3 : Int32} {g : g_S} {r : g_S} (e : L_Y_tellCookies_115 v0 v1 v2 v3 g = some r) (c : cL_Y_tellCookies_115 L xs Q v0 v1 v2 (.inr r)) : wp (ab_ext L xs) J_Y_tellCookies 115 [(0, .ref v0), (1, .int v1), (2, .int v2), (3, .int v3)] [] (hp g) Q :=
  it_wp (P := fun s : Int32 × g_S => wp (ab_ext L xs) J_Y_tellCookies 115 [(0, .ref v0), (1, .int v1), (2, .int v2), (3, .int s.1)] [] (hp s.2) Q) (E := fun r => cL_Y_tellCookies_115 L xs Q v0 v1 v2 (.inr r)) (fun s out e c => y_Y_tellCookies_115 e (by cases out <;> exact c)) e c
theorem L_Y_tellCookies_115_eq (v0 : Nat) (v1 : Int32) (v2 : Int32) (v3 : Int32) (g : g_S) : L_Y_tellCookies_115 v0 v1 v2 v3 g = itc (b_Y_tellCookies_115 v0 v1 v2 v3 g) (fun s => L_Y_tellCookies_115 v0 v1 v2 s.1 s.2) := it_eq2 (fun s : Int32 × g_S => b_Y_tellCookies_115 v0 v1 v2 s.1 s.2) (v3, g)
def cL_Y_tellCookies_15 (L : Nat) (xs : Nat → Int32) (Q : Option Value → ab_H → Prop) (v0 : Nat) (v1 : Int32) (out : (Int32 × g_S) ⊕ (g_S)) : Prop := match out with
  | .inl s => wp (ab_ext L xs) J_Y_tellCookies 15 [(0, .ref v0), (1, .int v1), (2, .int s.1)] [] (hp s.2) Q
  | .inr s => wp (ab_ext L xs) J_Y_tellCookies 155 [] [] (hp s) Q
noncomputable def k_Y_tellCookies_71 (v0 : Nat) (v1 : Int32) (v2 : Int32) (g : g_S) : Option ((Int32 × g_S) ⊕ (g_S)) :=
  (L_Y_tellCookies_73 v0 v1 v2 0 g).bind <| fun g3 =>
  (vc g3 112 v0 (M_Y_send v0 61 g3)).bind fun g4 =>
  (L_Y_tellCookies_115 v0 v1 v2 0 g4).bind <| fun g7 =>
  some (.inl (v2 + 1, g7))
set_option maxRecDepth 20000 in
theorem x_Y_tellCookies_71 {L : Nat} {xs : Nat → Int32} {Q : Option Value → ab_H → Prop} {v0 : Nat} {v1 : Int32} {v2 : Int32} {g : g_S} {out : (Int32 × g_S) ⊕ (g_S)} (e : k_Y_tellCookies_71 v0 v1 v2 g = some out) (c : cL_Y_tellCookies_15 L xs Q v0 v1 out) : wp (ab_ext L xs) J_Y_tellCookies 71 [(0, .ref v0), (1, .int v1), (2, .int v2)] [] (hp g) Q := by
  unfold k_Y_tellCookies_71 at e
  refine wp_p (j := J_Y_tellCookies) 2 (pc' := 73) (lv' := [(3, .int 0), (0, .ref v0), (1, .int v1), (2, .int v2)]) (st' := []) rfl ?_
  obtain ⟨g3, h2, e⟩ := bd e
  refine wp_lv (lv' := [(0, .ref v0), (1, .int v1), (2, .int v2), (3, .int 0)]) rfl ⟨rfl, rfl, rfl, rfl, trivial⟩ ?_
  refine l_Y_tellCookies_73 h2 ?_
  show wp (ab_ext L xs) J_Y_tellCookies 107 [(0, .ref v0), (1, .int v1), (2, .int v2)] [] (hp g3) Q
  refine wp_p (j := J_Y_tellCookies) 2 (pc' := 110) (lv' := [(0, .ref v0), (1, .int v1), (2, .int v2)]) (st' := [.int 61, .ref v0]) rfl ?_
  refine x_cv0 (As := [.int 61]) (rest := []) e rfl rfl rfl rfl rfl rfl (fun h => d_Y_send h ⟨rfl, rfl⟩) (fun g4 e => ?_)
  refine wp_p (j := J_Y_tellCookies) 2 (pc' := 115) (lv' := [(3, .int 0), (0, .ref v0), (1, .int v1), (2, .int v2)]) (st' := []) rfl ?_
  obtain ⟨g7, h6, e⟩ := bd e
  refine wp_lv (lv' := [(0, .ref v0), (1, .int v1), (2, .int v2), (3, .int 0)]) rfl ⟨rfl, rfl, rfl, rfl, trivial⟩ ?_
  refine l_Y_tellCookies_115 h6 ?_
  show wp (ab_ext L xs) J_Y_tellCookies 149 [(0, .ref v0), (1, .int v1), (2, .int v2)] [] (hp g7) Q
  refine wp_p (j := J_Y_tellCookies) 2 (pc' := 15) (lv' := [(2, .int (v2 + 1)), (0, .ref v0), (1, .int v1)]) (st' := []) rfl ?_
  have e := Option.some.inj e; subst e; exact wp_lv (lv' := [(0, .ref v0), (1, .int v1), (2, .int (v2 + 1))]) rfl ⟨rfl, rfl, rfl, trivial⟩ c
noncomputable def b_Y_tellCookies_15 (v0 : Nat) (v1 : Int32) (v2 : Int32) (g : g_S) : Option ((Int32 × g_S) ⊕ (g_S)) :=
  (rI g 112 v0 30).bind fun z1 =>
  if v2 < z1 then
    (rQ g 112 v0 32).bind fun z2 =>
    (aI g 0 z2 v2).bind fun z3 =>
    if z3 = v1 then
      (rQ g 112 v0 31).bind fun z4 =>
      (rQ g 112 v0 6).bind fun z5 =>
      (M_Y_same z4 (24 * v2) z5 602 v1 g).bind fun z6 =>
      if z6 = 0 then
        some (.inl (v2 + 1, g))
      else
        (rI g 112 v0 37).bind fun z7 =>
        if 0 < z7 then
          (vc g 112 v0 (M_Y_send v0 59 g)).bind fun g8 =>
          k_Y_tellCookies_71 v0 v1 v2 g8
        else
          k_Y_tellCookies_71 v0 v1 v2 g
    else
      some (.inl (v2 + 1, g))
  else
    some (.inr g)
set_option maxRecDepth 20000 in
theorem y_Y_tellCookies_15 {L : Nat} {xs : Nat → Int32} {Q : Option Value → ab_H → Prop} {v0 : Nat} {v1 : Int32} {v2 : Int32} {g : g_S} {out : (Int32 × g_S) ⊕ (g_S)} (e : b_Y_tellCookies_15 v0 v1 v2 g = some out) (c : cL_Y_tellCookies_15 L xs Q v0 v1 out) : wp (ab_ext L xs) J_Y_tellCookies 15 [(0, .ref v0), (1, .int v1), (2, .int v2)] [] (hp g) Q := by
  unfold b_Y_tellCookies_15 at e
  refine wp_p (j := J_Y_tellCookies) 2 (pc' := 17) (lv' := [(0, .ref v0), (1, .int v1), (2, .int v2)]) (st' := [.ref v0, .int v2]) rfl ?_
  refine x_gI e rfl rfl fd_12_30 rfl (fun z1 e => ?_)
  refine x_ge e rfl (fun e => ?_) (fun e => ?_)
  · refine wp_p (j := J_Y_tellCookies) 1 (pc' := 24) (lv' := [(0, .ref v0), (1, .int v1), (2, .int v2)]) (st' := [.ref v0]) rfl ?_
    refine x_gQ e rfl rfl fd_12_32 rfl (fun z2 e => ?_)
    refine wp_p (j := J_Y_tellCookies) 1 (pc' := 28) (lv' := [(0, .ref v0), (1, .int v1), (2, .int v2)]) (st' := [.int v2, .ref z2]) rfl ?_
    refine x_aI e rfl rfl (fun z3 e => ?_)
    refine wp_p (j := J_Y_tellCookies) 1 (pc' := 30) (lv' := [(0, .ref v0), (1, .int v1), (2, .int v2)]) (st' := [.int v1, .int z3]) rfl ?_
    refine x_ne e rfl (fun e => ?_) (fun e => ?_)
    · refine wp_p (j := J_Y_tellCookies) 1 (pc' := 34) (lv' := [(0, .ref v0), (1, .int v1), (2, .int v2)]) (st' := [.ref v0]) rfl ?_
      refine x_gQ e rfl rfl fd_12_31 rfl (fun z4 e => ?_)
      refine wp_p (j := J_Y_tellCookies) 4 (pc' := 42) (lv' := [(0, .ref v0), (1, .int v1), (2, .int v2)]) (st' := [.ref v0, .int (24 * v2), .ref z4]) rfl ?_
      refine x_gQ e rfl rfl fd_12_6 rfl (fun z5 e => ?_)
      refine wp_p (j := J_Y_tellCookies) 2 (pc' := 49) (lv' := [(0, .ref v0), (1, .int v1), (2, .int v2)]) (st' := [.int v1, .int 602, .ref z5, .int (24 * v2), .ref z4]) rfl ?_
      refine x_cs1 (As := [.ref z4, .int (24 * v2), .ref z5, .int 602, .int v1]) (rest := []) Value.int e rfl rfl rfl rfl rfl (fun h => d_Y_same h ⟨rfl, rfl⟩) (fun z6 e => ?_)
      refine z_ne e rfl (fun e => ?_) (fun e => ?_)
      · refine wp_p (j := J_Y_tellCookies) 3 (pc' := 15) (lv' := [(2, .int (v2 + 1)), (0, .ref v0), (1, .int v1)]) (st' := []) rfl ?_
        have e := Option.some.inj e; subst e; exact wp_lv (lv' := [(0, .ref v0), (1, .int v1), (2, .int (v2 + 1))]) rfl ⟨rfl, rfl, rfl, trivial⟩ c
      · refine wp_p (j := J_Y_tellCookies) 1 (pc' := 59) (lv' := [(0, .ref v0), (1, .int v1), (2, .int v2)]) (st' := [.ref v0]) rfl ?_
        refine x_gI e rfl rfl fd_12_37 rfl (fun z7 e => ?_)
        refine z_le e rfl (fun e => ?_) (fun e => ?_)
        · refine wp_p (j := J_Y_tellCookies) 2 (pc' := 68) (lv' := [(0, .ref v0), (1, .int v1), (2, .int v2)]) (st' := [.int 59, .ref v0]) rfl ?_
          refine x_cv0 (As := [.int 59]) (rest := []) e rfl rfl rfl rfl rfl rfl (fun h => d_Y_send h ⟨rfl, rfl⟩) (fun g8 e => ?_)
          exact wp_lv (lv' := [(0, .ref v0), (1, .int v1), (2, .int v2)]) rfl ⟨rfl, rfl, rfl, trivial⟩ (x_Y_tellCookies_71 e c)
        · exact wp_lv (lv' := [(0, .ref v0), (1, .int v1), (2, .int v2)]) rfl ⟨rfl, rfl, rfl, trivial⟩ (x_Y_tellCookies_71 e c)
    · refine wp_p (j := J_Y_tellCookies) 2 (pc' := 15) (lv' := [(2, .int (v2 + 1)), (0, .ref v0), (1, .int v1)]) (st' := []) rfl ?_
      have e := Option.some.inj e; subst e; exact wp_lv (lv' := [(0, .ref v0), (1, .int v1), (2, .int (v2 + 1))]) rfl ⟨rfl, rfl, rfl, trivial⟩ c
  · have e := Option.some.inj e; subst e; exact wp_lv (lv' := []) rfl trivial c
noncomputable def L_Y_tellCookies_15 (v0 : Nat) (v1 : Int32) (v2 : Int32) (g : g_S) : Option (g_S) := it (fun s : Int32 × g_S => b_Y_tellCookies_15 v0 v1 s.1 s.2) (v2, g)
theorem l_Y_tellCookies_15 {L : Nat} {xs : Nat → Int32} {Q : Option Value → ab_H → Prop} {v0 : Nat} {v1 : Int32} {v2 : Int32} {g : g_S} {r : g_S} (e : L_Y_tellCookies_15 v0 v1 v2 g = some r) (c : cL_Y_tellCookies_15 L xs Q v0 v1 (.inr r)) : wp (ab_ext L xs) J_Y_tellCookies 15 [(0, .ref v0), (1, .int v1), (2, .int v2)] [] (hp g) Q :=
  it_wp (P := fun s : Int32 × g_S => wp (ab_ext L xs) J_Y_tellCookies 15 [(0, .ref v0), (1, .int v1), (2, .int s.1)] [] (hp s.2) Q) (E := fun r => cL_Y_tellCookies_15 L xs Q v0 v1 (.inr r)) (fun s out e c => y_Y_tellCookies_15 e (by cases out <;> exact c)) e c
theorem L_Y_tellCookies_15_eq (v0 : Nat) (v1 : Int32) (v2 : Int32) (g : g_S) : L_Y_tellCookies_15 v0 v1 v2 g = itc (b_Y_tellCookies_15 v0 v1 v2 g) (fun s => L_Y_tellCookies_15 v0 v1 s.1 s.2) := it_eq2 (fun s : Int32 × g_S => b_Y_tellCookies_15 v0 v1 s.1 s.2) (v2, g)
noncomputable def M_Y_tellCookies (v0 : Nat) (g : g_S) : Option g_S :=
  (wI g 112 v0 37 0).bind fun g1 =>
  (vc g1 112 v0 (M_Y_siteEnd v0 4 g1)).bind fun z2 =>
  (L_Y_tellCookies_15 v0 (z2 - 2) 0 g1).bind <| fun g5 =>
  some g5
set_option maxRecDepth 20000 in
theorem d_Y_tellCookies {L : Nat} {xs : Nat → Int32} {Q : Option Value → ab_H → Prop} {v0 : Nat} {g : g_S} {out : g_S} (e : M_Y_tellCookies v0 g = some out) (c : Q none (hp out)) : mw (ab_ext L xs) J_Y_tellCookies [.ref v0] (hp g) Q := by
  unfold M_Y_tellCookies at e
  refine wp_p (j := J_Y_tellCookies) 2 (pc' := 2) (lv' := [(0, .ref v0)]) (st' := [.int 0, .ref v0]) rfl ?_
  refine x_pI e rfl rfl fw_12_37 rfl (fun g1 e => ?_)
  refine wp_p (j := J_Y_tellCookies) 2 (pc' := 7) (lv' := [(0, .ref v0)]) (st' := [.int 4, .ref v0]) rfl ?_
  refine x_cv1 (As := [.int 4]) (rest := []) Value.int e rfl rfl rfl rfl rfl rfl (fun h => d_Y_siteEnd h ⟨rfl, rfl⟩) (fun z2 e => ?_)
  refine wp_p (j := J_Y_tellCookies) 5 (pc' := 15) (lv' := [(2, .int 0), (1, .int (z2 - 2)), (0, .ref v0)]) (st' := []) rfl ?_
  obtain ⟨g5, h4, e⟩ := bd e
  refine wp_lv (lv' := [(0, .ref v0), (1, .int (z2 - 2)), (2, .int 0)]) rfl ⟨rfl, rfl, rfl, trivial⟩ ?_
  refine l_Y_tellCookies_15 h4 ?_
  show wp (ab_ext L xs) J_Y_tellCookies 155 [] [] (hp g5) Q
  have e := Option.some.inj e; subst e; exact wp_vret rfl rfl c
