/-! methods as functions, group 9 -/
def cL_Y_dropCookie_168 (L : Nat) (xs : Nat → Int32) (Q : Option Value → ab_H → Prop) (v0 : Nat) (v1 : Int32) (v2 : Int32) (v3 : Int32) (out : (Int32 × g_S) ⊕ (g_S)) : Prop := match out with
  | .inl s => wp (ab_ext L xs) J_Y_dropCookie 168 [(0, .ref v0), (1, .int v1), (2, .int v2), (3, .int v3), (4, .int s.1)] [] (hp s.2) Q
  | .inr s => wp (ab_ext L xs) J_Y_dropCookie 203 [(0, .ref v0), (1, .int v1), (3, .int v3)] [] (hp s) Q
noncomputable def b_Y_dropCookie_168 (v0 : Nat) (v1 : Int32) (v2 : Int32) (v3 : Int32) (v4 : Int32) (g : g_S) : Option ((Int32 × g_S) ⊕ (g_S)) :=
  if v4 < v2 then
    (rQ g 112 v0 31).bind fun z1 =>
    (rQ g 112 v0 6).bind fun z2 =>
    (aI g 1 z2 (602 + v4)).bind fun z3 =>
    (sB g z1 ((24 * v3) + v4) z3).bind fun g4 =>
    some (.inl (v4 + 1, g4))
  else
    some (.inr g)
set_option maxRecDepth 20000 in
theorem y_Y_dropCookie_168 {L : Nat} {xs : Nat → Int32} {Q : Option Value → ab_H → Prop} {v0 : Nat} {v1 : Int32} {v2 : Int32} {v3 : Int32} {v4 : Int32} {g : g_S} {out : (Int32 × g_S) ⊕ (g_S)} (e : b_Y_dropCookie_168 v0 v1 v2 v3 v4 g = some out) (c : cL_Y_dropCookie_168 L xs Q v0 v1 v2 v3 out) : wp (ab_ext L xs) J_Y_dropCookie 168 [(0, .ref v0), (1, .int v1), (2, .int v2), (3, .int v3), (4, .int v4)] [] (hp g) Q := by
  unfold b_Y_dropCookie_168 at e
  refine wp_p (j := J_Y_dropCookie) 2 (pc' := 171) (lv' := [(0, .ref v0), (1, .int v1), (2, .int v2), (3, .int v3), (4, .int v4)]) (st' := [.int v2, .int v4]) rfl ?_
  refine x_ge e rfl (fun e => ?_) (fun e => ?_)
  · refine wp_p (j := J_Y_dropCookie) 1 (pc' := 175) (lv' := [(0, .ref v0), (1, .int v1), (2, .int v2), (3, .int v3), (4, .int v4)]) (st' := [.ref v0]) rfl ?_
    refine x_gQ e rfl rfl fd_12_31 rfl (fun z1 e => ?_)
    refine wp_p (j := J_Y_dropCookie) 6 (pc' := 186) (lv' := [(0, .ref v0), (1, .int v1), (2, .int v2), (3, .int v3), (4, .int v4)]) (st' := [.ref v0, .int ((24 * v3) + v4), .ref z1]) rfl ?_
    refine x_gQ e rfl rfl fd_12_6 rfl (fun z2 e => ?_)
    refine wp_p (j := J_Y_dropCookie) 3 (pc' := 195) (lv' := [(0, .ref v0), (1, .int v1), (2, .int v2), (3, .int v3), (4, .int v4)]) (st' := [.int (602 + v4), .ref z2, .int ((24 * v3) + v4), .ref z1]) rfl ?_
    refine x_aB e rfl (.inl rfl) rfl (fun z3 e => ?_)
    refine x_sB e rfl rfl (fun g4 e => ?_)
    refine wp_p (j := J_Y_dropCookie) 2 (pc' := 168) (lv' := [(4, .int (v4 + 1)), (0, .ref v0), (1, .int v1), (2, .int v2), (3, .int v3)]) (st' := []) rfl ?_
    have e := Option.some.inj e; subst e; exact wp_lv (lv' := [(0, .ref v0), (1, .int v1), (2, .int v2), (3, .int v3), (4, .int (v4 + 1))]) rfl ⟨rfl, rfl, rfl, rfl, rfl, trivial⟩ c
  · have e := Option.some.inj e; subst e; exact wp_lv (lv' := [(0, .ref v0), (1, .int v1), (3, .int v3)]) rfl ⟨rfl, rfl, rfl, trivial⟩ c
noncomputable def L_Y_dropCookie_168 (v0 : Nat) (v1 : Int32) (v2 : Int32) (v3 : Int32) (v4 : Int32) (g : g_S) : Option (g_S) := it (fun s : Int32 × g_S => b_Y_dropCookie_168 v0 v1 v2 v3 s.1 s.2) (v4, g)
theorem l_Y_dropCookie_168 {L : Nat} {xs : Nat → Int32} {Q : Option Value → ab_H → Prop} {v0 : Nat} {v1 : Int32} {v2 : Int32} {v3 : Int32} {v4 : Int32} {g : g_S} {r : g_S} (e : L_Y_dropCookie_168 v0 v1 v2 v3 v4 g = some r) (c : cL_Y_dropCookie_168 L xs Q v0 v1 v2 v3 (.inr r)) : wp (ab_ext L xs) J_Y_dropCookie 168 [(0, .ref v0), (1, .int v1), (2, .int v2), (3, .int v3), (4, .int v4)] [] (hp g) Q :=
  it_wp (P := fun s : Int32 × g_S => wp (ab_ext L xs) J_Y_dropCookie 168 [(0, .ref v0), (1, .int v1), (2, .int v2), (3, .int v3), (4, .int s.1)] [] (hp s.2) Q) (E := fun r => cL_Y_dropCookie_168 L xs Q v0 v1 v2 v3 (.inr r)) (fun s out e c => y_Y_dropCookie_168 e (by cases out <;> exact c)) e c
theorem L_Y_dropCookie_168_eq (v0 : Nat) (v1 : Int32) (v2 : Int32) (v3 : Int32) (v4 : Int32) (g : g_S) : L_Y_dropCookie_168 v0 v1 v2 v3 v4 g = itc (b_Y_dropCookie_168 v0 v1 v2 v3 v4 g) (fun s => L_Y_dropCookie_168 v0 v1 v2 v3 s.1 s.2) := it_eq2 (fun s : Int32 × g_S => b_Y_dropCookie_168 v0 v1 v2 v3 s.1 s.2) (v4, g)
def cL_Y_dropCookie_206 (L : Nat) (xs : Nat → Int32) (Q : Option Value → ab_H → Prop) (v0 : Nat) (v1 : Int32) (v3 : Int32) (out : (Int32 × g_S) ⊕ (g_S)) : Prop := match out with
  | .inl s => wp (ab_ext L xs) J_Y_dropCookie 206 [(0, .ref v0), (1, .int v1), (3, .int v3), (4, .int s.1)] [] (hp s.2) Q
  | .inr s => wp (ab_ext L xs) J_Y_dropCookie 276 [] [] (hp s) Q
noncomputable def b_Y_dropCookie_206 (v0 : Nat) (v1 : Int32) (v3 : Int32) (v4 : Int32) (g : g_S) : Option ((Int32 × g_S) ⊕ (g_S)) :=
  if v4 < 8 then
    (rQ g 112 v0 31).bind fun z1 =>
    (rQ g 112 v0 20).bind fun z2 =>
    (aI g 1 z2 ((16 * v1) + v4)).bind fun z3 =>
    (sB g z1 (((24 * v3) + 8) + v4) z3).bind fun g4 =>
    (rQ g4 112 v0 31).bind fun z5 =>
    (rQ g4 112 v0 20).bind fun z6 =>
    (aI g4 1 z6 (((16 * v1) + 8) + v4)).bind fun z7 =>
    (sB g4 z5 (((24 * v3) + 16) + v4) z7).bind fun g8 =>
    some (.inl (v4 + 1, g8))
  else
    some (.inr g)
set_option maxRecDepth 20000 in
theorem y_Y_dropCookie_206 {L : Nat} {xs : Nat → Int32} {Q : Option Value → ab_H → Prop} {v0 : Nat} {v1 : Int32} {v3 : Int32} {v4 : Int32} {g : g_S} {out : (Int32 × g_S) ⊕ (g_S)} (e : b_Y_dropCookie_206 v0 v1 v3 v4 g = some out) (c : cL_Y_dropCookie_206 L xs Q v0 v1 v3 out) : wp (ab_ext L xs) J_Y_dropCookie 206 [(0, .ref v0), (1, .int v1), (3, .int v3), (4, .int v4)] [] (hp g) Q := by
  unfold b_Y_dropCookie_206 at e
  refine wp_p (j := J_Y_dropCookie) 2 (pc' := 210) (lv' := [(0, .ref v0), (1, .int v1), (3, .int v3), (4, .int v4)]) (st' := [.int 8, .int v4]) rfl ?_
  refine x_ge e rfl (fun e => ?_) (fun e => ?_)
  · refine wp_p (j := J_Y_dropCookie) 1 (pc' := 214) (lv' := [(0, .ref v0), (1, .int v1), (3, .int v3), (4, .int v4)]) (st' := [.ref v0]) rfl ?_
    refine x_gQ e rfl rfl fd_12_31 rfl (fun z1 e => ?_)
    refine wp_p (j := J_Y_dropCookie) 8 (pc' := 228) (lv' := [(0, .ref v0), (1, .int v1), (3, .int v3), (4, .int v4)]) (st' := [.ref v0, .int (((24 * v3) + 8) + v4), .ref z1]) rfl ?_
    refine x_gQ e rfl rfl fd_12_20 rfl (fun z2 e => ?_)
    refine wp_p (j := J_Y_dropCookie) 5 (pc' := 238) (lv' := [(0, .ref v0), (1, .int v1), (3, .int v3), (4, .int v4)]) (st' := [.int ((16 * v1) + v4), .ref z2, .int (((24 * v3) + 8) + v4), .ref z1]) rfl ?_
    refine x_aB e rfl (.inl rfl) rfl (fun z3 e => ?_)
    refine x_sB e rfl rfl (fun g4 e => ?_)
    refine wp_p (j := J_Y_dropCookie) 1 (pc' := 241) (lv' := [(0, .ref v0), (1, .int v1), (3, .int v3), (4, .int v4)]) (st' := [.ref v0]) rfl ?_
    refine x_gQ e rfl rfl fd_12_31 rfl (fun z5 e => ?_)
    refine wp_p (j := J_Y_dropCookie) 8 (pc' := 255) (lv' := [(0, .ref v0), (1, .int v1), (3, .int v3), (4, .int v4)]) (st' := [.ref v0, .int (((24 * v3) + 16) + v4), .ref z5]) rfl ?_
    refine x_gQ e rfl rfl fd_12_20 rfl (fun z6 e => ?_)
    refine wp_p (j := J_Y_dropCookie) 7 (pc' := 268) (lv' := [(0, .ref v0), (1, .int v1), (3, .int v3), (4, .int v4)]) (st' := [.int (((16 * v1) + 8) + v4), .ref z6, .int (((24 * v3) + 16) + v4), .ref z5]) rfl ?_
    refine x_aB e rfl (.inl rfl) rfl (fun z7 e => ?_)
    refine x_sB e rfl rfl (fun g8 e => ?_)
    refine wp_p (j := J_Y_dropCookie) 2 (pc' := 206) (lv' := [(4, .int (v4 + 1)), (0, .ref v0), (1, .int v1), (3, .int v3)]) (st' := []) rfl ?_
    have e := Option.some.inj e; subst e; exact wp_lv (lv' := [(0, .ref v0), (1, .int v1), (3, .int v3), (4, .int (v4 + 1))]) rfl ⟨rfl, rfl, rfl, rfl, trivial⟩ c
  · have e := Option.some.inj e; subst e; exact wp_lv (lv' := []) rfl trivial c
noncomputable def L_Y_dropCookie_206 (v0 : Nat) (v1 : Int32) (v3 : Int32) (v4 : Int32) (g : g_S) : Option (g_S) := it (fun s : Int32 × g_S => b_Y_dropCookie_206 v0 v1 v3 s.1 s.2) (v4, g)
theorem l_Y_dropCookie_206 {L : Nat} {xs : Nat → Int32} {Q : Option Value → ab_H → Prop} {v0 : Nat} {v1 : Int32} {v3 : Int32} {v4 : Int32} {g : g_S} {r : g_S} (e : L_Y_dropCookie_206 v0 v1 v3 v4 g = some r) (c : cL_Y_dropCookie_206 L xs Q v0 v1 v3 (.inr r)) : wp (ab_ext L xs) J_Y_dropCookie 206 [(0, .ref v0), (1, .int v1), (3, .int v3), (4, .int v4)] [] (hp g) Q :=
  it_wp (P := fun s : Int32 × g_S => wp (ab_ext L xs) J_Y_dropCookie 206 [(0, .ref v0), (1, .int v1), (3, .int v3), (4, .int s.1)] [] (hp s.2) Q) (E := fun r => cL_Y_dropCookie_206 L xs Q v0 v1 v3 (.inr r)) (fun s out e c => y_Y_dropCookie_206 e (by cases out <;> exact c)) e c
theorem L_Y_dropCookie_206_eq (v0 : Nat) (v1 : Int32) (v3 : Int32) (v4 : Int32) (g : g_S) : L_Y_dropCookie_206 v0 v1 v3 v4 g = itc (b_Y_dropCookie_206 v0 v1 v3 v4 g) (fun s => L_Y_dropCookie_206 v0 v1 v3 s.1 s.2) := it_eq2 (fun s : Int32 × g_S => b_Y_dropCookie_206 v0 v1 v3 s.1 s.2) (v4, g)
def cL_Y_dropCookie_10 (L : Nat) (xs : Nat → Int32) (Q : Option Value → ab_H → Prop) (v0 : Nat) (v1 : Int32) (v2 : Int32) (g : g_S) (out : (Int32) ⊕ (Int32)) : Prop := match out with
  | .inl s => wp (ab_ext L xs) J_Y_dropCookie 10 [(0, .ref v0), (1, .int v1), (2, .int v2), (3, .int s)] [] (hp g) Q
  | .inr s => wp (ab_ext L xs) J_Y_dropCookie 102 [(0, .ref v0), (1, .int v1), (2, .int v2), (3, .int s)] [] (hp g) Q
noncomputable def b_Y_dropCookie_10 (v0 : Nat) (v1 : Int32) (v2 : Int32) (v3 : Int32) (g : g_S) : Option ((Int32) ⊕ (Int32)) :=
  (rI g 112 v0 30).bind fun z1 =>
  if v3 < z1 then
    (rQ g 112 v0 32).bind fun z2 =>
    (aI g 0 z2 v3).bind fun z3 =>
    if z3 = v2 then
      (rQ g 112 v0 31).bind fun z4 =>
      (rQ g 112 v0 6).bind fun z5 =>
      (M_Y_same z4 (24 * v3) z5 602 v2 g).bind fun z6 =>
      if z6 = 0 then
        some (.inl (v3 + 1))
      else
        (rQ g 112 v0 33).bind fun z7 =>
        (aI g 0 z7 v3).bind fun z8 =>
        (rQ g 112 v0 21).bind fun z9 =>
        (aI g 0 z9 v1).bind fun z10 =>
        if z8 = z10 then
          (rQ g 112 v0 31).bind fun z11 =>
          (rQ g 112 v0 20).bind fun z12 =>
          (rQ g 112 v0 21).bind fun z13 =>
          (aI g 0 z13 v1).bind fun z14 =>
          (M_Y_same z11 ((24 * v3) + 8) z12 (16 * v1) z14 g).bind fun z15 =>
          if z15 = 0 then
            some (.inl (v3 + 1))
          else
            some (.inr v3)
        else
          some (.inl (v3 + 1))
    else
      some (.inl (v3 + 1))
  else
    some (.inr v3)
set_option maxRecDepth 20000 in
theorem y_Y_dropCookie_10 {L : Nat} {xs : Nat → Int32} {Q : Option Value → ab_H → Prop} {v0 : Nat} {v1 : Int32} {v2 : Int32} {v3 : Int32} {g : g_S} {out : (Int32) ⊕ (Int32)} (e : b_Y_dropCookie_10 v0 v1 v2 v3 g = some out) (c : cL_Y_dropCookie_10 L xs Q v0 v1 v2 g out) : wp (ab_ext L xs) J_Y_dropCookie 10 [(0, .ref v0), (1, .int v1), (2, .int v2), (3, .int v3)] [] (hp g) Q := by
  unfold b_Y_dropCookie_10 at e
  refine wp_p (j := J_Y_dropCookie) 2 (pc' := 12) (lv' := [(0, .ref v0), (1, .int v1), (2, .int v2), (3, .int v3)]) (st' := [.ref v0, .int v3]) rfl ?_
  refine x_gI e rfl rfl fd_12_30 rfl (fun z1 e => ?_)
  refine x_ge e rfl (fun e => ?_) (fun e => ?_)
  · refine wp_p (j := J_Y_dropCookie) 1 (pc' := 19) (lv' := [(0, .ref v0), (1, .int v1), (2, .int v2), (3, .int v3)]) (st' := [.ref v0]) rfl ?_
    refine x_gQ e rfl rfl fd_12_32 rfl (fun z2 e => ?_)
    refine wp_p (j := J_Y_dropCookie) 1 (pc' := 23) (lv' := [(0, .ref v0), (1, .int v1), (2, .int v2), (3, .int v3)]) (st' := [.int v3, .ref z2]) rfl ?_
    refine x_aI e rfl rfl (fun z3 e => ?_)
    refine wp_p (j := J_Y_dropCookie) 1 (pc' := 25) (lv' := [(0, .ref v0), (1, .int v1), (2, .int v2), (3, .int v3)]) (st' := [.int v2, .int z3]) rfl ?_
    refine x_ne e rfl (fun e => ?_) (fun e => ?_)
    · refine wp_p (j := J_Y_dropCookie) 1 (pc' := 29) (lv' := [(0, .ref v0), (1, .int v1), (2, .int v2), (3, .int v3)]) (st' := [.ref v0]) rfl ?_
      refine x_gQ e rfl rfl fd_12_31 rfl (fun z4 e => ?_)
      refine wp_p (j := J_Y_dropCookie) 4 (pc' := 37) (lv' := [(0, .ref v0), (1, .int v1), (2, .int v2), (3, .int v3)]) (st' := [.ref v0, .int (24 * v3), .ref z4]) rfl ?_
      refine x_gQ e rfl rfl fd_12_6 rfl (fun z5 e => ?_)
      refine wp_p (j := J_Y_dropCookie) 2 (pc' := 44) (lv' := [(0, .ref v0), (1, .int v1), (2, .int v2), (3, .int v3)]) (st' := [.int v2, .int 602, .ref z5, .int (24 * v3), .ref z4]) rfl ?_
      refine x_cs1 (As := [.ref z4, .int (24 * v3), .ref z5, .int 602, .int v2]) (rest := []) Value.int e rfl rfl rfl rfl rfl (fun h => d_Y_same h ⟨rfl, rfl⟩) (fun z6 e => ?_)
      refine z_eq e rfl (fun e => ?_) (fun e => ?_)
      · refine wp_p (j := J_Y_dropCookie) 2 (pc' := 10) (lv' := [(3, .int (v3 + 1)), (0, .ref v0), (1, .int v1), (2, .int v2)]) (st' := []) rfl ?_
        have e := Option.some.inj e; subst e; exact wp_lv (lv' := [(0, .ref v0), (1, .int v1), (2, .int v2), (3, .int (v3 + 1))]) rfl ⟨rfl, rfl, rfl, rfl, trivial⟩ c
      · refine wp_p (j := J_Y_dropCookie) 1 (pc' := 51) (lv' := [(0, .ref v0), (1, .int v1), (2, .int v2), (3, .int v3)]) (st' := [.ref v0]) rfl ?_
        refine x_gQ e rfl rfl fd_12_33 rfl (fun z7 e => ?_)
        refine wp_p (j := J_Y_dropCookie) 1 (pc' := 55) (lv' := [(0, .ref v0), (1, .int v1), (2, .int v2), (3, .int v3)]) (st' := [.int v3, .ref z7]) rfl ?_
        refine x_aI e rfl rfl (fun z8 e => ?_)
        refine wp_p (j := J_Y_dropCookie) 1 (pc' := 57) (lv' := [(0, .ref v0), (1, .int v1), (2, .int v2), (3, .int v3)]) (st' := [.ref v0, .int z8]) rfl ?_
        refine x_gQ e rfl rfl fd_12_21 rfl (fun z9 e => ?_)
        refine wp_p (j := J_Y_dropCookie) 1 (pc' := 61) (lv' := [(0, .ref v0), (1, .int v1), (2, .int v2), (3, .int v3)]) (st' := [.int v1, .ref z9, .int z8]) rfl ?_
        refine x_aI e rfl rfl (fun z10 e => ?_)
        refine x_ne e rfl (fun e => ?_) (fun e => ?_)
        · refine wp_p (j := J_Y_dropCookie) 1 (pc' := 66) (lv' := [(0, .ref v0), (1, .int v1), (2, .int v2), (3, .int v3)]) (st' := [.ref v0]) rfl ?_
          refine x_gQ e rfl rfl fd_12_31 rfl (fun z11 e => ?_)
          refine wp_p (j := J_Y_dropCookie) 6 (pc' := 77) (lv' := [(0, .ref v0), (1, .int v1), (2, .int v2), (3, .int v3)]) (st' := [.ref v0, .int ((24 * v3) + 8), .ref z11]) rfl ?_
          refine x_gQ e rfl rfl fd_12_20 rfl (fun z12 e => ?_)
          refine wp_p (j := J_Y_dropCookie) 4 (pc' := 85) (lv' := [(0, .ref v0), (1, .int v1), (2, .int v2), (3, .int v3)]) (st' := [.ref v0, .int (16 * v1), .ref z12, .int ((24 * v3) + 8), .ref z11]) rfl ?_
          refine x_gQ e rfl rfl fd_12_21 rfl (fun z13 e => ?_)
          refine wp_p (j := J_Y_dropCookie) 1 (pc' := 89) (lv' := [(0, .ref v0), (1, .int v1), (2, .int v2), (3, .int v3)]) (st' := [.int v1, .ref z13, .int (16 * v1), .ref z12, .int ((24 * v3) + 8), .ref z11]) rfl ?_
          refine x_aI e rfl rfl (fun z14 e => ?_)
          refine x_cs1 (As := [.ref z11, .int ((24 * v3) + 8), .ref z12, .int (16 * v1), .int z14]) (rest := []) Value.int e rfl rfl rfl rfl rfl (fun h => d_Y_same h ⟨rfl, rfl⟩) (fun z15 e => ?_)
          refine z_ne e rfl (fun e => ?_) (fun e => ?_)
          · refine wp_p (j := J_Y_dropCookie) 2 (pc' := 10) (lv' := [(3, .int (v3 + 1)), (0, .ref v0), (1, .int v1), (2, .int v2)]) (st' := []) rfl ?_
            have e := Option.some.inj e; subst e; exact wp_lv (lv' := [(0, .ref v0), (1, .int v1), (2, .int v2), (3, .int (v3 + 1))]) rfl ⟨rfl, rfl, rfl, rfl, trivial⟩ c
          · have e := Option.some.inj e; subst e; exact wp_lv (lv' := [(0, .ref v0), (1, .int v1), (2, .int v2), (3, .int v3)]) rfl ⟨rfl, rfl, rfl, rfl, trivial⟩ c
        · refine wp_p (j := J_Y_dropCookie) 2 (pc' := 10) (lv' := [(3, .int (v3 + 1)), (0, .ref v0), (1, .int v1), (2, .int v2)]) (st' := []) rfl ?_
          have e := Option.some.inj e; subst e; exact wp_lv (lv' := [(0, .ref v0), (1, .int v1), (2, .int v2), (3, .int (v3 + 1))]) rfl ⟨rfl, rfl, rfl, rfl, trivial⟩ c
    · refine wp_p (j := J_Y_dropCookie) 2 (pc' := 10) (lv' := [(3, .int (v3 + 1)), (0, .ref v0), (1, .int v1), (2, .int v2)]) (st' := []) rfl ?_
      have e := Option.some.inj e; subst e; exact wp_lv (lv' := [(0, .ref v0), (1, .int v1), (2, .int v2), (3, .int (v3 + 1))]) rfl ⟨rfl, rfl, rfl, rfl, trivial⟩ c
  · have e := Option.some.inj e; subst e; exact wp_lv (lv' := [(0, .ref v0), (1, .int v1), (2, .int v2), (3, .int v3)]) rfl ⟨rfl, rfl, rfl, rfl, trivial⟩ c
noncomputable def L_Y_dropCookie_10 (v0 : Nat) (v1 : Int32) (v2 : Int32) (v3 : Int32) (g : g_S) : Option (Int32) := it (fun s : Int32 => b_Y_dropCookie_10 v0 v1 v2 s g) (v3)
theorem l_Y_dropCookie_10 {L : Nat} {xs : Nat → Int32} {Q : Option Value → ab_H → Prop} {v0 : Nat} {v1 : Int32} {v2 : Int32} {v3 : Int32} {g : g_S} {r : Int32} (e : L_Y_dropCookie_10 v0 v1 v2 v3 g = some r) (c : cL_Y_dropCookie_10 L xs Q v0 v1 v2 g (.inr r)) : wp (ab_ext L xs) J_Y_dropCookie 10 [(0, .ref v0), (1, .int v1), (2, .int v2), (3, .int v3)] [] (hp g) Q :=
  it_wp (P := fun s : Int32 => wp (ab_ext L xs) J_Y_dropCookie 10 [(0, .ref v0), (1, .int v1), (2, .int v2), (3, .int s)] [] (hp g) Q) (E := fun r => cL_Y_dropCookie_10 L xs Q v0 v1 v2 g (.inr r)) (fun s out e c => y_Y_dropCookie_10 e (by cases out <;> exact c)) e c
theorem L_Y_dropCookie_10_eq (v0 : Nat) (v1 : Int32) (v2 : Int32) (v3 : Int32) (g : g_S) : L_Y_dropCookie_10 v0 v1 v2 v3 g = itc (b_Y_dropCookie_10 v0 v1 v2 v3 g) (fun s => L_Y_dropCookie_10 v0 v1 v2 s g) := it_eq2 (fun s : Int32 => b_Y_dropCookie_10 v0 v1 v2 s g) (v3)
noncomputable def k_Y_dropCookie_131 (v0 : Nat) (v1 : Int32) (v2 : Int32) (v3 : Int32) (w0 : Int32) (w1 : Nat) (g : g_S) : Option g_S :=
  (wI g 112 w1 30 w0).bind fun g1 =>
  (rQ g1 112 v0 32).bind fun z2 =>
  (sI g1 z2 v3 v2).bind fun g3 =>
  (rQ g3 112 v0 33).bind fun z4 =>
  (rQ g3 112 v0 21).bind fun z5 =>
  (aI g3 0 z5 v1).bind fun z6 =>
  (sI g3 z4 v3 z6).bind fun g7 =>
  (rQ g7 112 v0 34).bind fun z8 =>
  (rQ g7 112 v0 22).bind fun z9 =>
  (aI g7 0 z9 v1).bind fun z10 =>
  (sI g7 z8 v3 z10).bind fun g11 =>
  (L_Y_dropCookie_168 v0 v1 v2 v3 0 g11).bind <| fun g14 =>
  (L_Y_dropCookie_206 v0 v1 v3 0 g14).bind <| fun g17 =>
  some g17
set_option maxRecDepth 20000 in
theorem x_Y_dropCookie_131 {L : Nat} {xs : Nat → Int32} {Q : Option Value → ab_H → Prop} {v0 : Nat} {v1 : Int32} {v2 : Int32} {v3 : Int32} {w0 : Int32} {w1 : Nat} {g : g_S} {out : g_S} (e : k_Y_dropCookie_131 v0 v1 v2 v3 w0 w1 g = some out) (c : Q none (hp out)) : wp (ab_ext L xs) J_Y_dropCookie 131 [(0, .ref v0), (1, .int v1), (2, .int v2), (3, .int v3)] [.int w0, .ref w1] (hp g) Q := by
  unfold k_Y_dropCookie_131 at e
  refine x_pI e rfl rfl fw_12_30 rfl (fun g1 e => ?_)
  refine wp_p (j := J_Y_dropCookie) 1 (pc' := 135) (lv' := [(0, .ref v0), (1, .int v1), (2, .int v2), (3, .int v3)]) (st' := [.ref v0]) rfl ?_
  refine x_gQ e rfl rfl fd_12_32 rfl (fun z2 e => ?_)
  refine wp_p (j := J_Y_dropCookie) 2 (pc' := 140) (lv' := [(0, .ref v0), (1, .int v1), (2, .int v2), (3, .int v3)]) (st' := [.int v2, .int v3, .ref z2]) rfl ?_
  refine x_sI e rfl rfl (fun g3 e => ?_)
  refine wp_p (j := J_Y_dropCookie) 1 (pc' := 142) (lv' := [(0, .ref v0), (1, .int v1), (2, .int v2), (3, .int v3)]) (st' := [.ref v0]) rfl ?_
  refine x_gQ e rfl rfl fd_12_33 rfl (fun z4 e => ?_)
  refine wp_p (j := J_Y_dropCookie) 2 (pc' := 147) (lv' := [(0, .ref v0), (1, .int v1), (2, .int v2), (3, .int v3)]) (st' := [.ref v0, .int v3, .ref z4]) rfl ?_
  refine x_gQ e rfl rfl fd_12_21 rfl (fun z5 e => ?_)
  refine wp_p (j := J_Y_dropCookie) 1 (pc' := 151) (lv' := [(0, .ref v0), (1, .int v1), (2, .int v2), (3, .int v3)]) (st' := [.int v1, .ref z5, .int v3, .ref z4]) rfl ?_
  refine x_aI e rfl rfl (fun z6 e => ?_)
  refine x_sI e rfl rfl (fun g7 e => ?_)
  refine wp_p (j := J_Y_dropCookie) 1 (pc' := 154) (lv' := [(0, .ref v0), (1, .int v1), (2, .int v2), (3, .int v3)]) (st' := [.ref v0]) rfl ?_
  refine x_gQ e rfl rfl fd_12_34 rfl (fun z8 e => ?_)
  refine wp_p (j := J_Y_dropCookie) 2 (pc' := 159) (lv' := [(0, .ref v0), (1, .int v1), (2, .int v2), (3, .int v3)]) (st' := [.ref v0, .int v3, .ref z8]) rfl ?_
  refine x_gQ e rfl rfl fd_12_22 rfl (fun z9 e => ?_)
  refine wp_p (j := J_Y_dropCookie) 1 (pc' := 163) (lv' := [(0, .ref v0), (1, .int v1), (2, .int v2), (3, .int v3)]) (st' := [.int v1, .ref z9, .int v3, .ref z8]) rfl ?_
  refine x_aI e rfl rfl (fun z10 e => ?_)
  refine x_sI e rfl rfl (fun g11 e => ?_)
  refine wp_p (j := J_Y_dropCookie) 2 (pc' := 168) (lv' := [(4, .int 0), (0, .ref v0), (1, .int v1), (2, .int v2), (3, .int v3)]) (st' := []) rfl ?_
  obtain ⟨g14, h13, e⟩ := bd e
  refine wp_lv (lv' := [(0, .ref v0), (1, .int v1), (2, .int v2), (3, .int v3), (4, .int 0)]) rfl ⟨rfl, rfl, rfl, rfl, rfl, trivial⟩ ?_
  refine l_Y_dropCookie_168 h13 ?_
  show wp (ab_ext L xs) J_Y_dropCookie 203 [(0, .ref v0), (1, .int v1), (3, .int v3)] [] (hp g14) Q
  refine wp_p (j := J_Y_dropCookie) 2 (pc' := 206) (lv' := [(4, .int 0), (0, .ref v0), (1, .int v1), (3, .int v3)]) (st' := []) rfl ?_
  obtain ⟨g17, h16, e⟩ := bd e
  refine wp_lv (lv' := [(0, .ref v0), (1, .int v1), (3, .int v3), (4, .int 0)]) rfl ⟨rfl, rfl, rfl, rfl, trivial⟩ ?_
  refine l_Y_dropCookie_206 h16 ?_
  show wp (ab_ext L xs) J_Y_dropCookie 276 [] [] (hp g17) Q
  have e := Option.some.inj e; subst e; exact wp_vret rfl rfl c
noncomputable def k_Y_dropCookie_102 (v0 : Nat) (v1 : Int32) (v2 : Int32) (v3 : Int32) (g : g_S) : Option g_S :=
  if v3 = 20 then
    some g
  else
    (rI g 112 v0 30).bind fun z1 =>
    if v3 = z1 then
      (rI g 112 v0 30).bind fun z2 =>
      k_Y_dropCookie_131 v0 v1 v2 v3 (z2 + 1) v0 g
    else
      (rI g 112 v0 30).bind fun z3 =>
      k_Y_dropCookie_131 v0 v1 v2 v3 z3 v0 g
set_option maxRecDepth 20000 in
theorem x_Y_dropCookie_102 {L : Nat} {xs : Nat → Int32} {Q : Option Value → ab_H → Prop} {v0 : Nat} {v1 : Int32} {v2 : Int32} {v3 : Int32} {g : g_S} {out : g_S} (e : k_Y_dropCookie_102 v0 v1 v2 v3 g = some out) (c : Q none (hp out)) : wp (ab_ext L xs) J_Y_dropCookie 102 [(0, .ref v0), (1, .int v1), (2, .int v2), (3, .int v3)] [] (hp g) Q := by
  unfold k_Y_dropCookie_102 at e
  refine wp_p (j := J_Y_dropCookie) 2 (pc' := 105) (lv' := [(0, .ref v0), (1, .int v1), (2, .int v2), (3, .int v3)]) (st' := [.int 20, .int v3]) rfl ?_
  refine x_ne e rfl (fun e => ?_) (fun e => ?_)
  · have e := Option.some.inj e; subst e; exact wp_vret rfl rfl c
  · refine wp_p (j := J_Y_dropCookie) 3 (pc' := 112) (lv' := [(0, .ref v0), (1, .int v1), (2, .int v2), (3, .int v3)]) (st' := [.ref v0, .int v3, .ref v0]) rfl ?_
    refine x_gI e rfl rfl fd_12_30 rfl (fun z1 e => ?_)
    refine x_ne e rfl (fun e => ?_) (fun e => ?_)
    · refine wp_p (j := J_Y_dropCookie) 1 (pc' := 119) (lv' := [(0, .ref v0), (1, .int v1), (2, .int v2), (3, .int v3)]) (st' := [.ref v0, .ref v0]) rfl ?_
      refine x_gI e rfl rfl fd_12_30 rfl (fun z2 e => ?_)
      refine wp_p (j := J_Y_dropCookie) 3 (pc' := 131) (lv' := [(0, .ref v0), (1, .int v1), (2, .int v2), (3, .int v3)]) (st' := [.int (z2 + 1), .ref v0]) rfl ?_
      exact wp_lv (lv' := [(0, .ref v0), (1, .int v1), (2, .int v2), (3, .int v3)]) rfl ⟨rfl, rfl, rfl, rfl, trivial⟩ (x_Y_dropCookie_131 e c)
    · refine wp_p (j := J_Y_dropCookie) 1 (pc' := 128) (lv' := [(0, .ref v0), (1, .int v1), (2, .int v2), (3, .int v3)]) (st' := [.ref v0, .ref v0]) rfl ?_
      refine x_gI e rfl rfl fd_12_30 rfl (fun z3 e => ?_)
      exact wp_lv (lv' := [(0, .ref v0), (1, .int v1), (2, .int v2), (3, .int v3)]) rfl ⟨rfl, rfl, rfl, rfl, trivial⟩ (x_Y_dropCookie_131 e c)
noncomputable def M_Y_dropCookie (v0 : Nat) (v1 : Int32) (g : g_S) : Option g_S :=
  (vc g 112 v0 (M_Y_siteEnd v0 4 g)).bind fun z1 =>
  (L_Y_dropCookie_10 v0 v1 (z1 - 2) 0 g).bind <| fun z4 =>
  k_Y_dropCookie_102 v0 v1 (z1 - 2) z4 g
set_option maxRecDepth 20000 in
theorem d_Y_dropCookie {L : Nat} {xs : Nat → Int32} {Q : Option Value → ab_H → Prop} {v0 : Nat} {v1 : Int32} {g : g_S} {out : g_S} (e : M_Y_dropCookie v0 v1 g = some out) (c : Q none (hp out)) : mw (ab_ext L xs) J_Y_dropCookie [.ref v0, .int v1] (hp g) Q := by
  unfold M_Y_dropCookie at e
  refine wp_p (j := J_Y_dropCookie) 2 (pc' := 2) (lv' := [(0, .ref v0), (1, .int v1)]) (st' := [.int 4, .ref v0]) rfl ?_
  refine x_cv1 (As := [.int 4]) (rest := []) Value.int e rfl rfl rfl rfl rfl rfl (fun h => d_Y_siteEnd h ⟨rfl, rfl⟩) (fun z1 e => ?_)
  refine wp_p (j := J_Y_dropCookie) 5 (pc' := 10) (lv' := [(3, .int 0), (2, .int (z1 - 2)), (0, .ref v0), (1, .int v1)]) (st' := []) rfl ?_
  obtain ⟨z4, h3, e⟩ := bd e
  refine wp_lv (lv' := [(0, .ref v0), (1, .int v1), (2, .int (z1 - 2)), (3, .int 0)]) rfl ⟨rfl, rfl, rfl, rfl, trivial⟩ ?_
  refine l_Y_dropCookie_10 h3 ?_
  show wp (ab_ext L xs) J_Y_dropCookie 102 [(0, .ref v0), (1, .int v1), (2, .int (z1 - 2)), (3, .int z4)] [] (hp g) Q
  exact wp_lv (lv' := [(0, .ref v0), (1, .int v1), (2, .int (z1 - 2)), (3, .int z4)]) rfl ⟨rfl, rfl, rfl, rfl, trivial⟩ (x_Y_dropCookie_102 e c)
def cL_Y_keep_2 (L : Nat) (xs : Nat → Int32) (Q : Option Value → ab_H → Prop) (v0 : Nat) (v1 : Int32) (g : g_S) (out : (Int32) ⊕ (Int32)) : Prop := match out with
  | .inl s => wp (ab_ext L xs) J_Y_keep 2 [(0, .ref v0), (1, .int v1), (2, .int s)] [] (hp g) Q
  | .inr s => wp (ab_ext L xs) J_Y_keep 28 [(0, .ref v0), (1, .int v1), (2, .int s)] [] (hp g) Q
noncomputable def b_Y_keep_2 (v0 : Nat) (v1 : Int32) (v2 : Int32) (g : g_S) : Option ((Int32) ⊕ (Int32)) :=
  (rI g 112 v0 26).bind fun z1 =>
  if v2 < z1 then
    (vc g 112 v0 (M_Y_alike v0 (18 + v2) 4 g)).bind fun z2 =>
    if z2 = 0 then
      some (.inl (v2 + 1))
    else
      some (.inr v2)
  else
    some (.inr v2)
set_option maxRecDepth 20000 in
theorem y_Y_keep_2 {L : Nat} {xs : Nat → Int32} {Q : Option Value → ab_H → Prop} {v0 : Nat} {v1 : Int32} {v2 : Int32} {g : g_S} {out : (Int32) ⊕ (Int32)} (e : b_Y_keep_2 v0 v1 v2 g = some out) (c : cL_Y_keep_2 L xs Q v0 v1 g out) : wp (ab_ext L xs) J_Y_keep 2 [(0, .ref v0), (1, .int v1), (2, .int v2)] [] (hp g) Q := by
  unfold b_Y_keep_2 at e
  refine wp_p (j := J_Y_keep) 2 (pc' := 4) (lv' := [(0, .ref v0), (1, .int v1), (2, .int v2)]) (st' := [.ref v0, .int v2]) rfl ?_
  refine x_gI e rfl rfl fd_12_26 rfl (fun z1 e => ?_)
  refine x_ge e rfl (fun e => ?_) (fun e => ?_)
  · refine wp_p (j := J_Y_keep) 5 (pc' := 16) (lv' := [(0, .ref v0), (1, .int v1), (2, .int v2)]) (st' := [.int 4, .int (18 + v2), .ref v0]) rfl ?_
    refine x_cv1 (As := [.int (18 + v2), .int 4]) (rest := []) Value.int e rfl rfl rfl rfl rfl rfl (fun h => d_Y_alike h ⟨rfl, rfl⟩) (fun z2 e => ?_)
    refine z_ne e rfl (fun e => ?_) (fun e => ?_)
    · refine wp_p (j := J_Y_keep) 2 (pc' := 2) (lv' := [(2, .int (v2 + 1)), (0, .ref v0), (1, .int v1)]) (st' := []) rfl ?_
      have e := Option.some.inj e; subst e; exact wp_lv (lv' := [(0, .ref v0), (1, .int v1), (2, .int (v2 + 1))]) rfl ⟨rfl, rfl, rfl, trivial⟩ c
    · have e := Option.some.inj e; subst e; exact wp_lv (lv' := [(0, .ref v0), (1, .int v1), (2, .int v2)]) rfl ⟨rfl, rfl, rfl, trivial⟩ c
  · have e := Option.some.inj e; subst e; exact wp_lv (lv' := [(0, .ref v0), (1, .int v1), (2, .int v2)]) rfl ⟨rfl, rfl, rfl, trivial⟩ c
noncomputable def L_Y_keep_2 (v0 : Nat) (v1 : Int32) (v2 : Int32) (g : g_S) : Option (Int32) := it (fun s : Int32 => b_Y_keep_2 v0 v1 s g) (v2)
theorem l_Y_keep_2 {L : Nat} {xs : Nat → Int32} {Q : Option Value → ab_H → Prop} {v0 : Nat} {v1 : Int32} {v2 : Int32} {g : g_S} {r : Int32} (e : L_Y_keep_2 v0 v1 v2 g = some r) (c : cL_Y_keep_2 L xs Q v0 v1 g (.inr r)) : wp (ab_ext L xs) J_Y_keep 2 [(0, .ref v0), (1, .int v1), (2, .int v2)] [] (hp g) Q :=
  it_wp (P := fun s : Int32 => wp (ab_ext L xs) J_Y_keep 2 [(0, .ref v0), (1, .int v1), (2, .int s)] [] (hp g) Q) (E := fun r => cL_Y_keep_2 L xs Q v0 v1 g (.inr r)) (fun s out e c => y_Y_keep_2 e (by cases out <;> exact c)) e c
theorem L_Y_keep_2_eq (v0 : Nat) (v1 : Int32) (v2 : Int32) (g : g_S) : L_Y_keep_2 v0 v1 v2 g = itc (b_Y_keep_2 v0 v1 v2 g) (fun s => L_Y_keep_2 v0 v1 s g) := it_eq2 (fun s : Int32 => b_Y_keep_2 v0 v1 s g) (v2)
def cL_Y_keep_38 (L : Nat) (xs : Nat → Int32) (Q : Option Value → ab_H → Prop) (v0 : Nat) (v1 : Int32) (g : g_S) (out : (Int32 × Int32) ⊕ (Int32)) : Prop := match out with
  | .inl s => wp (ab_ext L xs) J_Y_keep 38 [(0, .ref v0), (1, .int v1), (2, .int s.1), (3, .int s.2)] [] (hp g) Q
  | .inr s => wp (ab_ext L xs) J_Y_keep 71 [(0, .ref v0), (1, .int v1), (2, .int s)] [] (hp g) Q
noncomputable def b_Y_keep_38 (v0 : Nat) (v1 : Int32) (v2 : Int32) (v3 : Int32) (g : g_S) : Option ((Int32 × Int32) ⊕ (Int32)) :=
  if v3 < 8 then
    (rQ g 112 v0 29).bind fun z1 =>
    (aI g 0 z1 v3).bind fun z2 =>
    (rQ g 112 v0 29).bind fun z3 =>
    (aI g 0 z3 v2).bind fun z4 =>
    if z2 < z4 then
      some (.inl (v3, v3 + 1))
    else
      some (.inl (v2, v3 + 1))
  else
    some (.inr v2)
set_option maxRecDepth 20000 in
theorem y_Y_keep_38 {L : Nat} {xs : Nat → Int32} {Q : Option Value → ab_H → Prop} {v0 : Nat} {v1 : Int32} {v2 : Int32} {v3 : Int32} {g : g_S} {out : (Int32 × Int32) ⊕ (Int32)} (e : b_Y_keep_38 v0 v1 v2 v3 g = some out) (c : cL_Y_keep_38 L xs Q v0 v1 g out) : wp (ab_ext L xs) J_Y_keep 38 [(0, .ref v0), (1, .int v1), (2, .int v2), (3, .int v3)] [] (hp g) Q := by
  unfold b_Y_keep_38 at e
  refine wp_p (j := J_Y_keep) 2 (pc' := 41) (lv' := [(0, .ref v0), (1, .int v1), (2, .int v2), (3, .int v3)]) (st' := [.int 8, .int v3]) rfl ?_
  refine x_ge e rfl (fun e => ?_) (fun e => ?_)
  · refine wp_p (j := J_Y_keep) 1 (pc' := 45) (lv' := [(0, .ref v0), (1, .int v1), (2, .int v2), (3, .int v3)]) (st' := [.ref v0]) rfl ?_
    refine x_gQ e rfl rfl fd_12_29 rfl (fun z1 e => ?_)
    refine wp_p (j := J_Y_keep) 1 (pc' := 49) (lv' := [(0, .ref v0), (1, .int v1), (2, .int v2), (3, .int v3)]) (st' := [.int v3, .ref z1]) rfl ?_
    refine x_aI e rfl rfl (fun z2 e => ?_)
    refine wp_p (j := J_Y_keep) 1 (pc' := 51) (lv' := [(0, .ref v0), (1, .int v1), (2, .int v2), (3, .int v3)]) (st' := [.ref v0, .int z2]) rfl ?_
    refine x_gQ e rfl rfl fd_12_29 rfl (fun z3 e => ?_)
    refine wp_p (j := J_Y_keep) 1 (pc' := 55) (lv' := [(0, .ref v0), (1, .int v1), (2, .int v2), (3, .int v3)]) (st' := [.int v2, .ref z3, .int z2]) rfl ?_
    refine x_aI e rfl rfl (fun z4 e => ?_)
    refine x_ge e rfl (fun e => ?_) (fun e => ?_)
    · refine wp_p (j := J_Y_keep) 5 (pc' := 38) (lv' := [(3, .int (v3 + 1)), (2, .int v3), (0, .ref v0), (1, .int v1)]) (st' := []) rfl ?_
      have e := Option.some.inj e; subst e; exact wp_lv (lv' := [(0, .ref v0), (1, .int v1), (2, .int v3), (3, .int (v3 + 1))]) rfl ⟨rfl, rfl, rfl, rfl, trivial⟩ c
    · refine wp_p (j := J_Y_keep) 4 (pc' := 38) (lv' := [(3, .int (v3 + 1)), (2, .int v2), (0, .ref v0), (1, .int v1)]) (st' := []) rfl ?_
      have e := Option.some.inj e; subst e; exact wp_lv (lv' := [(0, .ref v0), (1, .int v1), (2, .int v2), (3, .int (v3 + 1))]) rfl ⟨rfl, rfl, rfl, rfl, trivial⟩ c
  · have e := Option.some.inj e; subst e; exact wp_lv (lv' := [(0, .ref v0), (1, .int v1), (2, .int v2)]) rfl ⟨rfl, rfl, rfl, trivial⟩ c
noncomputable def L_Y_keep_38 (v0 : Nat) (v1 : Int32) (v2 : Int32) (v3 : Int32) (g : g_S) : Option (Int32) := it (fun s : Int32 × Int32 => b_Y_keep_38 v0 v1 s.1 s.2 g) (v2, v3)
theorem l_Y_keep_38 {L : Nat} {xs : Nat → Int32} {Q : Option Value → ab_H → Prop} {v0 : Nat} {v1 : Int32} {v2 : Int32} {v3 : Int32} {g : g_S} {r : Int32} (e : L_Y_keep_38 v0 v1 v2 v3 g = some r) (c : cL_Y_keep_38 L xs Q v0 v1 g (.inr r)) : wp (ab_ext L xs) J_Y_keep 38 [(0, .ref v0), (1, .int v1), (2, .int v2), (3, .int v3)] [] (hp g) Q :=
  it_wp (P := fun s : Int32 × Int32 => wp (ab_ext L xs) J_Y_keep 38 [(0, .ref v0), (1, .int v1), (2, .int s.1), (3, .int s.2)] [] (hp g) Q) (E := fun r => cL_Y_keep_38 L xs Q v0 v1 g (.inr r)) (fun s out e c => y_Y_keep_38 e (by cases out <;> exact c)) e c
theorem L_Y_keep_38_eq (v0 : Nat) (v1 : Int32) (v2 : Int32) (v3 : Int32) (g : g_S) : L_Y_keep_38 v0 v1 v2 v3 g = itc (b_Y_keep_38 v0 v1 v2 v3 g) (fun s => L_Y_keep_38 v0 v1 s.1 s.2 g) := it_eq2 (fun s : Int32 × Int32 => b_Y_keep_38 v0 v1 s.1 s.2 g) (v2, v3)
def cL_Y_keep_162 (L : Nat) (xs : Nat → Int32) (Q : Option Value → ab_H → Prop) (v0 : Nat) (v1 : Int32) (v2 : Int32) (v3 : Int32) (out : (Int32 × g_S) ⊕ (g_S)) : Prop := match out with
  | .inl s => wp (ab_ext L xs) J_Y_keep 162 [(0, .ref v0), (1, .int v1), (2, .int v2), (3, .int v3), (4, .int s.1)] [] (hp s.2) Q
  | .inr s => wp (ab_ext L xs) J_Y_keep 205 [(0, .ref v0), (1, .int v1), (2, .int v2), (3, .int v3)] [] (hp s) Q
noncomputable def b_Y_keep_162 (v0 : Nat) (v1 : Int32) (v2 : Int32) (v3 : Int32) (v4 : Int32) (g : g_S) : Option ((Int32 × g_S) ⊕ (g_S)) :=
  (rQ g 112 v0 18).bind fun z1 =>
  (aI g 0 z1 v1).bind fun z2 =>
  if v4 < z2 then
    (rQ g 112 v0 17).bind fun z3 =>
    (rQ g 112 v0 17).bind fun z4 =>
    (aI g 1 z4 ((v1 * 1500) + v4)).bind fun z5 =>
    (sB g z3 ((v3 * 1500) + v4) z5).bind fun g6 =>
    some (.inl (v4 + 1, g6))
  else
    some (.inr g)
set_option maxRecDepth 20000 in
theorem y_Y_keep_162 {L : Nat} {xs : Nat → Int32} {Q : Option Value → ab_H → Prop} {v0 : Nat} {v1 : Int32} {v2 : Int32} {v3 : Int32} {v4 : Int32} {g : g_S} {out : (Int32 × g_S) ⊕ (g_S)} (e : b_Y_keep_162 v0 v1 v2 v3 v4 g = some out) (c : cL_Y_keep_162 L xs Q v0 v1 v2 v3 out) : wp (ab_ext L xs) J_Y_keep 162 [(0, .ref v0), (1, .int v1), (2, .int v2), (3, .int v3), (4, .int v4)] [] (hp g) Q := by
  unfold b_Y_keep_162 at e
  refine wp_p (j := J_Y_keep) 2 (pc' := 165) (lv' := [(0, .ref v0), (1, .int v1), (2, .int v2), (3, .int v3), (4, .int v4)]) (st' := [.ref v0, .int v4]) rfl ?_
  refine x_gQ e rfl rfl fd_12_18 rfl (fun z1 e => ?_)
  refine wp_p (j := J_Y_keep) 1 (pc' := 169) (lv' := [(0, .ref v0), (1, .int v1), (2, .int v2), (3, .int v3), (4, .int v4)]) (st' := [.int v1, .ref z1, .int v4]) rfl ?_
  refine x_aI e rfl rfl (fun z2 e => ?_)
  refine x_ge e rfl (fun e => ?_) (fun e => ?_)
  · refine wp_p (j := J_Y_keep) 1 (pc' := 174) (lv' := [(0, .ref v0), (1, .int v1), (2, .int v2), (3, .int v3), (4, .int v4)]) (st' := [.ref v0]) rfl ?_
    refine x_gQ e rfl rfl fd_12_17 rfl (fun z3 e => ?_)
    refine wp_p (j := J_Y_keep) 6 (pc' := 186) (lv' := [(0, .ref v0), (1, .int v1), (2, .int v2), (3, .int v3), (4, .int v4)]) (st' := [.ref v0, .int ((v3 * 1500) + v4), .ref z3]) rfl ?_
    refine x_gQ e rfl rfl fd_12_17 rfl (fun z4 e => ?_)
    refine wp_p (j := J_Y_keep) 5 (pc' := 197) (lv' := [(0, .ref v0), (1, .int v1), (2, .int v2), (3, .int v3), (4, .int v4)]) (st' := [.int ((v1 * 1500) + v4), .ref z4, .int ((v3 * 1500) + v4), .ref z3]) rfl ?_
    refine x_aB e rfl (.inl rfl) rfl (fun z5 e => ?_)
    refine x_sB e rfl rfl (fun g6 e => ?_)
    refine wp_p (j := J_Y_keep) 2 (pc' := 162) (lv' := [(4, .int (v4 + 1)), (0, .ref v0), (1, .int v1), (2, .int v2), (3, .int v3)]) (st' := []) rfl ?_
    have e := Option.some.inj e; subst e; exact wp_lv (lv' := [(0, .ref v0), (1, .int v1), (2, .int v2), (3, .int v3), (4, .int (v4 + 1))]) rfl ⟨rfl, rfl, rfl, rfl, rfl, trivial⟩ c
  · have e := Option.some.inj e; subst e; exact wp_lv (lv' := [(0, .ref v0), (1, .int v1), (2, .int v2), (3, .int v3)]) rfl ⟨rfl, rfl, rfl, rfl, trivial⟩ c
noncomputable def L_Y_keep_162 (v0 : Nat) (v1 : Int32) (v2 : Int32) (v3 : Int32) (v4 : Int32) (g : g_S) : Option (g_S) := it (fun s : Int32 × g_S => b_Y_keep_162 v0 v1 v2 v3 s.1 s.2) (v4, g)
theorem l_Y_keep_162 {L : Nat} {xs : Nat → Int32} {Q : Option Value → ab_H → Prop} {v0 : Nat} {v1 : Int32} {v2 : Int32} {v3 : Int32} {v4 : Int32} {g : g_S} {r : g_S} (e : L_Y_keep_162 v0 v1 v2 v3 v4 g = some r) (c : cL_Y_keep_162 L xs Q v0 v1 v2 v3 (.inr r)) : wp (ab_ext L xs) J_Y_keep 162 [(0, .ref v0), (1, .int v1), (2, .int v2), (3, .int v3), (4, .int v4)] [] (hp g) Q :=
  it_wp (P := fun s : Int32 × g_S => wp (ab_ext L xs) J_Y_keep 162 [(0, .ref v0), (1, .int v1), (2, .int v2), (3, .int v3), (4, .int s.1)] [] (hp s.2) Q) (E := fun r => cL_Y_keep_162 L xs Q v0 v1 v2 v3 (.inr r)) (fun s out e c => y_Y_keep_162 e (by cases out <;> exact c)) e c
theorem L_Y_keep_162_eq (v0 : Nat) (v1 : Int32) (v2 : Int32) (v3 : Int32) (v4 : Int32) (g : g_S) : L_Y_keep_162 v0 v1 v2 v3 v4 g = itc (b_Y_keep_162 v0 v1 v2 v3 v4 g) (fun s => L_Y_keep_162 v0 v1 v2 v3 s.1 s.2) := it_eq2 (fun s : Int32 × g_S => b_Y_keep_162 v0 v1 v2 v3 s.1 s.2) (v4, g)
noncomputable def k_Y_keep_238 (v0 : Nat) (v1 : Int32) (v3 : Int32) (g : g_S) : Option g_S :=
  (rQ g 112 v0 24).bind fun z1 =>
  (rQ g 112 v0 24).bind fun z2 =>
  (aI g 2 z2 v1).bind fun z3 =>
  (sZ g z1 v3 z3).bind fun g4 =>
  some g4
set_option maxRecDepth 20000 in
theorem x_Y_keep_238 {L : Nat} {xs : Nat → Int32} {Q : Option Value → ab_H → Prop} {v0 : Nat} {v1 : Int32} {v3 : Int32} {g : g_S} {out : g_S} (e : k_Y_keep_238 v0 v1 v3 g = some out) (c : Q none (hp out)) : wp (ab_ext L xs) J_Y_keep 238 [(0, .ref v0), (1, .int v1), (3, .int v3)] [] (hp g) Q := by
  unfold k_Y_keep_238 at e
  refine wp_p (j := J_Y_keep) 1 (pc' := 239) (lv' := [(0, .ref v0), (1, .int v1), (3, .int v3)]) (st' := [.ref v0]) rfl ?_
  refine x_gQ e rfl rfl fd_12_24 rfl (fun z1 e => ?_)
  refine wp_p (j := J_Y_keep) 2 (pc' := 244) (lv' := [(0, .ref v0), (1, .int v1), (3, .int v3)]) (st' := [.ref v0, .int v3, .ref z1]) rfl ?_
  refine x_gQ e rfl rfl fd_12_24 rfl (fun z2 e => ?_)
  refine wp_p (j := J_Y_keep) 1 (pc' := 248) (lv' := [(0, .ref v0), (1, .int v1), (3, .int v3)]) (st' := [.int v1, .ref z2, .int v3, .ref z1]) rfl ?_
  refine x_aB e rfl (.inr rfl) rfl (fun z3 e => ?_)
  refine x_sZ e rfl rfl (fun g4 e => ?_)
  have e := Option.some.inj e; subst e; exact wp_vret rfl rfl c
noncomputable def k_Y_keep_93 (v0 : Nat) (v1 : Int32) (v2 : Int32) (w0 : Int32) (w1 : Nat) (g : g_S) : Option g_S :=
  (wI g 112 w1 26 w0).bind fun g1 =>
  (vc g1 112 v0 (M_Y_copyRow v0 (18 + v2) 4 g1)).bind fun g2 =>
  (rQ g2 112 v0 28).bind fun z3 =>
  (rI g2 112 v0 25).bind fun z4 =>
  (rQ g2 112 v0 19).bind fun z5 =>
  (aI g2 0 z5 v1).bind fun z6 =>
  (sI g2 z3 v2 (z4 + z6)).bind fun g7 =>
  (rQ g7 112 v0 29).bind fun z8 =>
  (rI g7 112 v0 27).bind fun z9 =>
  (sI g7 z8 v2 z9).bind fun g10 =>
  (rI g10 112 v0 27).bind fun z11 =>
  (wI g10 112 v0 27 (z11 + 1)).bind fun g12 =>
  (rQ g12 112 v0 18).bind fun z13 =>
  (rQ g12 112 v0 18).bind fun z14 =>
  (aI g12 0 z14 v1).bind fun z15 =>
  (sI g12 z13 (12 + v2) z15).bind fun g16 =>
  (L_Y_keep_162 v0 v1 v2 (12 + v2) 0 g16).bind <| fun g19 =>
  (rQ g19 112 v0 23).bind fun z20 =>
  (rQ g19 112 v0 23).bind fun z21 =>
  (aI g19 2 z21 v1).bind fun z22 =>
  (sZ g19 z20 (12 + v2) z22).bind fun g23 =>
  (rQ g23 112 v0 23).bind fun z24 =>
  (aI g23 2 z24 v1).bind fun z25 =>
  if z25 = 0 then
    k_Y_keep_238 v0 v1 (12 + v2) g23
  else
    (vc g23 112 v0 (M_Y_copyRow v0 (58 + v2) (46 + v1) g23)).bind fun g26 =>
    k_Y_keep_238 v0 v1 (12 + v2) g26
set_option maxRecDepth 20000 in
theorem x_Y_keep_93 {L : Nat} {xs : Nat → Int32} {Q : Option Value → ab_H → Prop} {v0 : Nat} {v1 : Int32} {v2 : Int32} {w0 : Int32} {w1 : Nat} {g : g_S} {out : g_S} (e : k_Y_keep_93 v0 v1 v2 w0 w1 g = some out) (c : Q none (hp out)) : wp (ab_ext L xs) J_Y_keep 93 [(0, .ref v0), (1, .int v1), (2, .int v2)] [.int w0, .ref w1] (hp g) Q := by
  unfold k_Y_keep_93 at e
  refine x_pI e rfl rfl fw_12_26 rfl (fun g1 e => ?_)
  refine wp_p (j := J_Y_keep) 5 (pc' := 102) (lv' := [(0, .ref v0), (1, .int v1), (2, .int v2)]) (st' := [.int 4, .int (18 + v2), .ref v0]) rfl ?_
  refine x_cv0 (As := [.int (18 + v2), .int 4]) (rest := []) e rfl rfl rfl rfl rfl rfl (fun h => d_Y_copyRow h ⟨rfl, rfl⟩) (fun g2 e => ?_)
  refine wp_p (j := J_Y_keep) 1 (pc' := 106) (lv' := [(0, .ref v0), (1, .int v1), (2, .int v2)]) (st' := [.ref v0]) rfl ?_
  refine x_gQ e rfl rfl fd_12_28 rfl (fun z3 e => ?_)
  refine wp_p (j := J_Y_keep) 2 (pc' := 111) (lv' := [(0, .ref v0), (1, .int v1), (2, .int v2)]) (st' := [.ref v0, .int v2, .ref z3]) rfl ?_
  refine x_gI e rfl rfl fd_12_25 rfl (fun z4 e => ?_)
  refine wp_p (j := J_Y_keep) 1 (pc' := 115) (lv' := [(0, .ref v0), (1, .int v1), (2, .int v2)]) (st' := [.ref v0, .int z4, .int v2, .ref z3]) rfl ?_
  refine x_gQ e rfl rfl fd_12_19 rfl (fun z5 e => ?_)
  refine wp_p (j := J_Y_keep) 1 (pc' := 119) (lv' := [(0, .ref v0), (1, .int v1), (2, .int v2)]) (st' := [.int v1, .ref z5, .int z4, .int v2, .ref z3]) rfl ?_
  refine x_aI e rfl rfl (fun z6 e => ?_)
  refine wp_p (j := J_Y_keep) 1 (pc' := 121) (lv' := [(0, .ref v0), (1, .int v1), (2, .int v2)]) (st' := [.int (z4 + z6), .int v2, .ref z3]) rfl ?_
  refine x_sI e rfl rfl (fun g7 e => ?_)
  refine wp_p (j := J_Y_keep) 1 (pc' := 123) (lv' := [(0, .ref v0), (1, .int v1), (2, .int v2)]) (st' := [.ref v0]) rfl ?_
  refine x_gQ e rfl rfl fd_12_29 rfl (fun z8 e => ?_)
  refine wp_p (j := J_Y_keep) 2 (pc' := 128) (lv' := [(0, .ref v0), (1, .int v1), (2, .int v2)]) (st' := [.ref v0, .int v2, .ref z8]) rfl ?_
  refine x_gI e rfl rfl fd_12_27 rfl (fun z9 e => ?_)
  refine x_sI e rfl rfl (fun g10 e => ?_)
  refine wp_p (j := J_Y_keep) 2 (pc' := 134) (lv' := [(0, .ref v0), (1, .int v1), (2, .int v2)]) (st' := [.ref v0, .ref v0]) rfl ?_
  refine x_gI e rfl rfl fd_12_27 rfl (fun z11 e => ?_)
  refine wp_p (j := J_Y_keep) 2 (pc' := 139) (lv' := [(0, .ref v0), (1, .int v1), (2, .int v2)]) (st' := [.int (z11 + 1), .ref v0]) rfl ?_
  refine x_pI e rfl rfl fw_12_27 rfl (fun g12 e => ?_)
  refine wp_p (j := J_Y_keep) 5 (pc' := 148) (lv' := [(3, .int (12 + v2)), (0, .ref v0), (1, .int v1), (2, .int v2)]) (st' := [.ref v0]) rfl ?_
  refine x_gQ e rfl rfl fd_12_18 rfl (fun z13 e => ?_)
  refine wp_p (j := J_Y_keep) 2 (pc' := 153) (lv' := [(3, .int (12 + v2)), (0, .ref v0), (1, .int v1), (2, .int v2)]) (st' := [.ref v0, .int (12 + v2), .ref z13]) rfl ?_
  refine x_gQ e rfl rfl fd_12_18 rfl (fun z14 e => ?_)
  refine wp_p (j := J_Y_keep) 1 (pc' := 157) (lv' := [(3, .int (12 + v2)), (0, .ref v0), (1, .int v1), (2, .int v2)]) (st' := [.int v1, .ref z14, .int (12 + v2), .ref z13]) rfl ?_
  refine x_aI e rfl rfl (fun z15 e => ?_)
  refine x_sI e rfl rfl (fun g16 e => ?_)
  refine wp_p (j := J_Y_keep) 2 (pc' := 162) (lv' := [(4, .int 0), (3, .int (12 + v2)), (0, .ref v0), (1, .int v1), (2, .int v2)]) (st' := []) rfl ?_
  obtain ⟨g19, h18, e⟩ := bd e
  refine wp_lv (lv' := [(0, .ref v0), (1, .int v1), (2, .int v2), (3, .int (12 + v2)), (4, .int 0)]) rfl ⟨rfl, rfl, rfl, rfl, rfl, trivial⟩ ?_
  refine l_Y_keep_162 h18 ?_
  show wp (ab_ext L xs) J_Y_keep 205 [(0, .ref v0), (1, .int v1), (2, .int v2), (3, .int (12 + v2))] [] (hp g19) Q
  refine wp_p (j := J_Y_keep) 1 (pc' := 206) (lv' := [(0, .ref v0), (1, .int v1), (2, .int v2), (3, .int (12 + v2))]) (st' := [.ref v0]) rfl ?_
  refine x_gQ e rfl rfl fd_12_23 rfl (fun z20 e => ?_)
  refine wp_p (j := J_Y_keep) 2 (pc' := 211) (lv' := [(0, .ref v0), (1, .int v1), (2, .int v2), (3, .int (12 + v2))]) (st' := [.ref v0, .int (12 + v2), .ref z20]) rfl ?_
  refine x_gQ e rfl rfl fd_12_23 rfl (fun z21 e => ?_)
  refine wp_p (j := J_Y_keep) 1 (pc' := 215) (lv' := [(0, .ref v0), (1, .int v1), (2, .int v2), (3, .int (12 + v2))]) (st' := [.int v1, .ref z21, .int (12 + v2), .ref z20]) rfl ?_
  refine x_aB e rfl (.inr rfl) rfl (fun z22 e => ?_)
  refine x_sZ e rfl rfl (fun g23 e => ?_)
  refine wp_p (j := J_Y_keep) 1 (pc' := 218) (lv' := [(0, .ref v0), (1, .int v1), (2, .int v2), (3, .int (12 + v2))]) (st' := [.ref v0]) rfl ?_
  refine x_gQ e rfl rfl fd_12_23 rfl (fun z24 e => ?_)
  refine wp_p (j := J_Y_keep) 1 (pc' := 222) (lv' := [(0, .ref v0), (1, .int v1), (2, .int v2), (3, .int (12 + v2))]) (st' := [.int v1, .ref z24]) rfl ?_
  refine x_aB e rfl (.inr rfl) rfl (fun z25 e => ?_)
  refine z_eq e rfl (fun e => ?_) (fun e => ?_)
  · exact wp_lv (lv' := [(0, .ref v0), (1, .int v1), (3, .int (12 + v2))]) rfl ⟨rfl, rfl, rfl, trivial⟩ (x_Y_keep_238 e c)
  · refine wp_p (j := J_Y_keep) 7 (pc' := 235) (lv' := [(0, .ref v0), (1, .int v1), (2, .int v2), (3, .int (12 + v2))]) (st' := [.int (46 + v1), .int (58 + v2), .ref v0]) rfl ?_
    refine x_cv0 (As := [.int (58 + v2), .int (46 + v1)]) (rest := []) e rfl rfl rfl rfl rfl rfl (fun h => d_Y_copyRow h ⟨rfl, rfl⟩) (fun g26 e => ?_)
    exact wp_lv (lv' := [(0, .ref v0), (1, .int v1), (3, .int (12 + v2))]) rfl ⟨rfl, rfl, rfl, trivial⟩ (x_Y_keep_238 e c)
noncomputable def k_Y_keep_71 (v0 : Nat) (v1 : Int32) (v2 : Int32) (g : g_S) : Option g_S :=
  (rI g 112 v0 26).bind fun z1 =>
  if v2 = z1 then
    (rI g 112 v0 26).bind fun z2 =>
    k_Y_keep_93 v0 v1 v2 (z2 + 1) v0 g
  else
    (rI g 112 v0 26).bind fun z3 =>
    k_Y_keep_93 v0 v1 v2 z3 v0 g
set_option maxRecDepth 20000 in
theorem x_Y_keep_71 {L : Nat} {xs : Nat → Int32} {Q : Option Value → ab_H → Prop} {v0 : Nat} {v1 : Int32} {v2 : Int32} {g : g_S} {out : g_S} (e : k_Y_keep_71 v0 v1 v2 g = some out) (c : Q none (hp out)) : wp (ab_ext L xs) J_Y_keep 71 [(0, .ref v0), (1, .int v1), (2, .int v2)] [] (hp g) Q := by
  unfold k_Y_keep_71 at e
  refine wp_p (j := J_Y_keep) 3 (pc' := 74) (lv' := [(0, .ref v0), (1, .int v1), (2, .int v2)]) (st' := [.ref v0, .int v2, .ref v0]) rfl ?_
  refine x_gI e rfl rfl fd_12_26 rfl (fun z1 e => ?_)
  refine x_ne e rfl (fun e => ?_) (fun e => ?_)
  · refine wp_p (j := J_Y_keep) 1 (pc' := 81) (lv' := [(0, .ref v0), (1, .int v1), (2, .int v2)]) (st' := [.ref v0, .ref v0]) rfl ?_
    refine x_gI e rfl rfl fd_12_26 rfl (fun z2 e => ?_)
    refine wp_p (j := J_Y_keep) 3 (pc' := 93) (lv' := [(0, .ref v0), (1, .int v1), (2, .int v2)]) (st' := [.int (z2 + 1), .ref v0]) rfl ?_
    exact wp_lv (lv' := [(0, .ref v0), (1, .int v1), (2, .int v2)]) rfl ⟨rfl, rfl, rfl, trivial⟩ (x_Y_keep_93 e c)
  · refine wp_p (j := J_Y_keep) 1 (pc' := 90) (lv' := [(0, .ref v0), (1, .int v1), (2, .int v2)]) (st' := [.ref v0, .ref v0]) rfl ?_
    refine x_gI e rfl rfl fd_12_26 rfl (fun z3 e => ?_)
    exact wp_lv (lv' := [(0, .ref v0), (1, .int v1), (2, .int v2)]) rfl ⟨rfl, rfl, rfl, trivial⟩ (x_Y_keep_93 e c)
noncomputable def k_Y_keep_28 (v0 : Nat) (v1 : Int32) (v2 : Int32) (g : g_S) : Option g_S :=
  if v2 = 8 then
    (L_Y_keep_38 v0 v1 0 1 g).bind <| fun z3 =>
    k_Y_keep_71 v0 v1 z3 g
  else
    k_Y_keep_71 v0 v1 v2 g
set_option maxRecDepth 20000 in
theorem x_Y_keep_28 {L : Nat} {xs : Nat → Int32} {Q : Option Value → ab_H → Prop} {v0 : Nat} {v1 : Int32} {v2 : Int32} {g : g_S} {out : g_S} (e : k_Y_keep_28 v0 v1 v2 g = some out) (c : Q none (hp out)) : wp (ab_ext L xs) J_Y_keep 28 [(0, .ref v0), (1, .int v1), (2, .int v2)] [] (hp g) Q := by
  unfold k_Y_keep_28 at e
  refine wp_p (j := J_Y_keep) 2 (pc' := 31) (lv' := [(0, .ref v0), (1, .int v1), (2, .int v2)]) (st' := [.int 8, .int v2]) rfl ?_
  refine x_ne e rfl (fun e => ?_) (fun e => ?_)
  · refine wp_p (j := J_Y_keep) 4 (pc' := 38) (lv' := [(3, .int 1), (2, .int 0), (0, .ref v0), (1, .int v1)]) (st' := []) rfl ?_
    obtain ⟨z3, h2, e⟩ := bd e
    refine wp_lv (lv' := [(0, .ref v0), (1, .int v1), (2, .int 0), (3, .int 1)]) rfl ⟨rfl, rfl, rfl, rfl, trivial⟩ ?_
    refine l_Y_keep_38 h2 ?_
    show wp (ab_ext L xs) J_Y_keep 71 [(0, .ref v0), (1, .int v1), (2, .int z3)] [] (hp g) Q
    exact wp_lv (lv' := [(0, .ref v0), (1, .int v1), (2, .int z3)]) rfl ⟨rfl, rfl, rfl, trivial⟩ (x_Y_keep_71 e c)
  · exact wp_lv (lv' := [(0, .ref v0), (1, .int v1), (2, .int v2)]) rfl ⟨rfl, rfl, rfl, trivial⟩ (x_Y_keep_71 e c)
noncomputable def M_Y_keep (v0 : Nat) (v1 : Int32) (g : g_S) : Option g_S :=
  (L_Y_keep_2 v0 v1 0 g).bind <| fun z3 =>
  k_Y_keep_28 v0 v1 z3 g
set_option maxRecDepth 20000 in
theorem d_Y_keep {L : Nat} {xs : Nat → Int32} {Q : Option Value → ab_H → Prop} {v0 : Nat} {v1 : Int32} {g : g_S} {out : g_S} (e : M_Y_keep v0 v1 g = some out) (c : Q none (hp out)) : mw (ab_ext L xs) J_Y_keep [.ref v0, .int v1] (hp g) Q := by
  unfold M_Y_keep at e
  refine wp_p (j := J_Y_keep) 2 (pc' := 2) (lv' := [(2, .int 0), (0, .ref v0), (1, .int v1)]) (st' := []) rfl ?_
  obtain ⟨z3, h2, e⟩ := bd e
  refine wp_lv (lv' := [(0, .ref v0), (1, .int v1), (2, .int 0)]) rfl ⟨rfl, rfl, rfl, trivial⟩ ?_
  refine l_Y_keep_2 h2 ?_
  show wp (ab_ext L xs) J_Y_keep 28 [(0, .ref v0), (1, .int v1), (2, .int z3)] [] (hp g) Q
  exact wp_lv (lv' := [(0, .ref v0), (1, .int v1), (2, .int z3)]) rfl ⟨rfl, rfl, rfl, trivial⟩ (x_Y_keep_28 e c)
def cL_Y_request_22 (L : Nat) (xs : Nat → Int32) (Q : Option Value → ab_H → Prop) (v0 : Nat) (out : (Int32 × g_S) ⊕ (g_S)) : Prop := match out with
  | .inl s => wp (ab_ext L xs) J_Y_request 22 [(0, .ref v0), (1, .int s.1)] [] (hp s.2) Q
  | .inr s => wp (ab_ext L xs) J_Y_request 53 [(0, .ref v0)] [] (hp s) Q
noncomputable def b_Y_request_22 (v0 : Nat) (v1 : Int32) (g : g_S) : Option ((Int32 × g_S) ⊕ (g_S)) :=
  (rI g 112 v0 16).bind fun z1 =>
  if v1 < z1 then
    (vc g 112 v0 (M_Y_alike v0 (6 + v1) 4 g)).bind fun z2 =>
    if z2 = 0 then
      some (.inl (v1 + 1, g))
    else
      (wI g 112 v0 44 v1).bind fun g3 =>
      some (.inl (v1 + 1, g3))
  else
    some (.inr g)
set_option maxRecDepth 20000 in
theorem y_Y_request_22 {L : Nat} {xs : Nat → Int32} {Q : Option Value → ab_H → Prop} {v0 : Nat} {v1 : Int32} {g : g_S} {out : (Int32 × g_S) ⊕ (g_S)} (e : b_Y_request_22 v0 v1 g = some out) (c : cL_Y_request_22 L xs Q v0 out) : wp (ab_ext L xs) J_Y_request 22 [(0, .ref v0), (1, .int v1)] [] (hp g) Q := by
  unfold b_Y_request_22 at e
  refine wp_p (j := J_Y_request) 2 (pc' := 24) (lv' := [(0, .ref v0), (1, .int v1)]) (st' := [.ref v0, .int v1]) rfl ?_
  refine x_gI e rfl rfl fd_12_16 rfl (fun z1 e => ?_)
  refine x_ge e rfl (fun e => ?_) (fun e => ?_)
  · refine wp_p (j := J_Y_request) 5 (pc' := 36) (lv' := [(0, .ref v0), (1, .int v1)]) (st' := [.int 4, .int (6 + v1), .ref v0]) rfl ?_
    refine x_cv1 (As := [.int (6 + v1), .int 4]) (rest := []) Value.int e rfl rfl rfl rfl rfl rfl (fun h => d_Y_alike h ⟨rfl, rfl⟩) (fun z2 e => ?_)
    refine z_eq e rfl (fun e => ?_) (fun e => ?_)
    · refine wp_p (j := J_Y_request) 2 (pc' := 22) (lv' := [(1, .int (v1 + 1)), (0, .ref v0)]) (st' := []) rfl ?_
      have e := Option.some.inj e; subst e; exact wp_lv (lv' := [(0, .ref v0), (1, .int (v1 + 1))]) rfl ⟨rfl, rfl, trivial⟩ c
    · refine wp_p (j := J_Y_request) 2 (pc' := 44) (lv' := [(0, .ref v0), (1, .int v1)]) (st' := [.int v1, .ref v0]) rfl ?_
      refine x_pI e rfl rfl fw_12_44 rfl (fun g3 e => ?_)
      refine wp_p (j := J_Y_request) 2 (pc' := 22) (lv' := [(1, .int (v1 + 1)), (0, .ref v0)]) (st' := []) rfl ?_
      have e := Option.some.inj e; subst e; exact wp_lv (lv' := [(0, .ref v0), (1, .int (v1 + 1))]) rfl ⟨rfl, rfl, trivial⟩ c
  · have e := Option.some.inj e; subst e; exact wp_lv (lv' := [(0, .ref v0)]) rfl ⟨rfl, trivial⟩ c
noncomputable def L_Y_request_22 (v0 : Nat) (v1 : Int32) (g : g_S) : Option (g_S) := it (fun s : Int32 × g_S => b_Y_request_22 v0 s.1 s.2) (v1, g)
theorem l_Y_request_22 {L : Nat} {xs : Nat → Int32} {Q : Option Value → ab_H → Prop} {v0 : Nat} {v1 : Int32} {g : g_S} {r : g_S} (e : L_Y_request_22 v0 v1 g = some r) (c : cL_Y_request_22 L xs Q v0 (.inr r)) : wp (ab_ext L xs) J_Y_request 22 [(0, .ref v0), (1, .int v1)] [] (hp g) Q :=
  it_wp (P := fun s : Int32 × g_S => wp (ab_ext L xs) J_Y_request 22 [(0, .ref v0), (1, .int s.1)] [] (hp s.2) Q) (E := fun r => cL_Y_request_22 L xs Q v0 (.inr r)) (fun s out e c => y_Y_request_22 e (by cases out <;> exact c)) e c
theorem L_Y_request_22_eq (v0 : Nat) (v1 : Int32) (g : g_S) : L_Y_request_22 v0 v1 g = itc (b_Y_request_22 v0 v1 g) (fun s => L_Y_request_22 v0 s.1 s.2) := it_eq2 (fun s : Int32 × g_S => b_Y_request_22 v0 s.1 s.2) (v1, g)
noncomputable def k_Y_request_81 (v0 : Nat) (g : g_S) : Option g_S :=
  (rQ g 112 v0 19).bind fun z1 =>
  (rI g 112 v0 44).bind fun z2 =>
  (aI g 0 z1 z2).bind fun z3 =>
  if 0 < z3 then
    (rI g 112 v0 44).bind fun z4 =>
    (vc g 112 v0 (M_Y_keep v0 z4 g)).bind fun g5 =>
    some g5
  else
    some g
set_option maxRecDepth 20000 in
theorem x_Y_request_81 {L : Nat} {xs : Nat → Int32} {Q : Option Value → ab_H → Prop} {v0 : Nat} {g : g_S} {out : g_S} (e : k_Y_request_81 v0 g = some out) (c : Q none (hp out)) : wp (ab_ext L xs) J_Y_request 81 [(0, .ref v0)] [] (hp g) Q := by
  unfold k_Y_request_81 at e
  refine wp_p (j := J_Y_request) 1 (pc' := 82) (lv' := [(0, .ref v0)]) (st' := [.ref v0]) rfl ?_
  refine x_gQ e rfl rfl fd_12_19 rfl (fun z1 e => ?_)
  refine wp_p (j := J_Y_request) 1 (pc' := 86) (lv' := [(0, .ref v0)]) (st' := [.ref v0, .ref z1]) rfl ?_
  refine x_gI e rfl rfl fd_12_44 rfl (fun z2 e => ?_)
  refine x_aI e rfl rfl (fun z3 e => ?_)
  refine z_le e rfl (fun e => ?_) (fun e => ?_)
  · refine wp_p (j := J_Y_request) 2 (pc' := 95) (lv' := [(0, .ref v0)]) (st' := [.ref v0, .ref v0]) rfl ?_
    refine x_gI e rfl rfl fd_12_44 rfl (fun z4 e => ?_)
    refine x_cv0 (As := [.int z4]) (rest := []) e rfl rfl rfl rfl rfl rfl (fun h => d_Y_keep h ⟨rfl, rfl⟩) (fun g5 e => ?_)
    have e := Option.some.inj e; subst e; exact wp_vret rfl rfl c
  · have e := Option.some.inj e; subst e; exact wp_vret rfl rfl c
noncomputable def M_Y_request (v0 : Nat) (g : g_S) : Option g_S :=
  (rI g 112 v0 35).bind fun z1 =>
  (wI g 112 v0 35 (z1 + 1)).bind fun g2 =>
  (vc g2 112 v0 (M_Y_copyRow v0 2 4 g2)).bind fun g3 =>
  (vc g3 112 v0 (M_Y_tellCookies v0 g3)).bind fun g4 =>
  (L_Y_request_22 v0 0 g4).bind <| fun g7 =>
  (rI g7 112 v0 44).bind fun z8 =>
  if z8 < 0 then
    some g7
  else
    (rQ g7 112 v0 21).bind fun z9 =>
    (rI g7 112 v0 44).bind fun z10 =>
    (aI g7 0 z9 z10).bind fun z11 =>
    if 0 < z11 then
      (rI g7 112 v0 44).bind fun z12 =>
      (vc g7 112 v0 (M_Y_dropCookie v0 z12 g7)).bind fun g13 =>
      k_Y_request_81 v0 g13
    else
      k_Y_request_81 v0 g7
set_option maxRecDepth 20000 in
theorem d_Y_request {L : Nat} {xs : Nat → Int32} {Q : Option Value → ab_H → Prop} {v0 : Nat} {g : g_S} {out : g_S} (e : M_Y_request v0 g = some out) (c : Q none (hp out)) : mw (ab_ext L xs) J_Y_request [.ref v0] (hp g) Q := by
  unfold M_Y_request at e
  refine wp_p (j := J_Y_request) 2 (pc' := 2) (lv' := [(0, .ref v0)]) (st' := [.ref v0, .ref v0]) rfl ?_
  refine x_gI e rfl rfl fd_12_35 rfl (fun z1 e => ?_)
  refine wp_p (j := J_Y_request) 2 (pc' := 7) (lv' := [(0, .ref v0)]) (st' := [.int (z1 + 1), .ref v0]) rfl ?_
  refine x_pI e rfl rfl fw_12_35 rfl (fun g2 e => ?_)
  refine wp_p (j := J_Y_request) 3 (pc' := 13) (lv' := [(0, .ref v0)]) (st' := [.int 4, .int 2, .ref v0]) rfl ?_
  refine x_cv0 (As := [.int 2, .int 4]) (rest := []) e rfl rfl rfl rfl rfl rfl (fun h => d_Y_copyRow h ⟨rfl, rfl⟩) (fun g3 e => ?_)
  refine wp_p (j := J_Y_request) 1 (pc' := 17) (lv' := [(0, .ref v0)]) (st' := [.ref v0]) rfl ?_
  refine x_cv0 (As := []) (rest := []) e rfl rfl rfl rfl rfl rfl (fun h => d_Y_tellCookies h ⟨rfl, rfl⟩) (fun g4 e => ?_)
  refine wp_p (j := J_Y_request) 2 (pc' := 22) (lv' := [(1, .int 0), (0, .ref v0)]) (st' := []) rfl ?_
  obtain ⟨g7, h6, e⟩ := bd e
  refine wp_lv (lv' := [(0, .ref v0), (1, .int 0)]) rfl ⟨rfl, rfl, trivial⟩ ?_
  refine l_Y_request_22 h6 ?_
  show wp (ab_ext L xs) J_Y_request 53 [(0, .ref v0)] [] (hp g7) Q
  refine wp_p (j := J_Y_request) 1 (pc' := 54) (lv' := [(0, .ref v0)]) (st' := [.ref v0]) rfl ?_
  refine x_gI e rfl rfl fd_12_44 rfl (fun z8 e => ?_)
  refine z_ge e rfl (fun e => ?_) (fun e => ?_)
  · have e := Option.some.inj e; subst e; exact wp_vret rfl rfl c
  · refine wp_p (j := J_Y_request) 1 (pc' := 62) (lv' := [(0, .ref v0)]) (st' := [.ref v0]) rfl ?_
    refine x_gQ e rfl rfl fd_12_21 rfl (fun z9 e => ?_)
    refine wp_p (j := J_Y_request) 1 (pc' := 66) (lv' := [(0, .ref v0)]) (st' := [.ref v0, .ref z9]) rfl ?_
    refine x_gI e rfl rfl fd_12_44 rfl (fun z10 e => ?_)
    refine x_aI e rfl rfl (fun z11 e => ?_)
    refine z_le e rfl (fun e => ?_) (fun e => ?_)
    · refine wp_p (j := J_Y_request) 2 (pc' := 75) (lv' := [(0, .ref v0)]) (st' := [.ref v0, .ref v0]) rfl ?_
      refine x_gI e rfl rfl fd_12_44 rfl (fun z12 e => ?_)
      refine x_cv0 (As := [.int z12]) (rest := []) e rfl rfl rfl rfl rfl rfl (fun h => d_Y_dropCookie h ⟨rfl, rfl⟩) (fun g13 e => ?_)
      exact wp_lv (lv' := [(0, .ref v0)]) rfl ⟨rfl, trivial⟩ (x_Y_request_81 e c)
    · exact wp_lv (lv' := [(0, .ref v0)]) rfl ⟨rfl, trivial⟩ (x_Y_request_81 e c)
def cL_Y_fetch_28 (L : Nat) (xs : Nat → Int32) (Q : Option Value → ab_H → Prop) (v0 : Nat) (v2 : Int32) (out : (Int32 × g_S) ⊕ (g_S)) : Prop := match out with
  | .inl s => wp (ab_ext L xs) J_Y_fetch 28 [(0, .ref v0), (2, .int v2), (3, .int s.1)] [] (hp s.2) Q
  | .inr s => wp (ab_ext L xs) J_Y_fetch 75 [(0, .ref v0), (2, .int v2)] [] (hp s) Q
noncomputable def b_Y_fetch_28 (v0 : Nat) (v2 : Int32) (v3 : Int32) (g : g_S) : Option ((Int32 × g_S) ⊕ (g_S)) :=
  (rI g 112 v0 26).bind fun z1 =>
  if v3 < z1 then
    (vc g 112 v0 (M_Y_alike v0 (18 + v3) 4 g)).bind fun z2 =>
    if z2 = 0 then
      some (.inl (v3 + 1, g))
    else
      (rQ g 112 v0 28).bind fun z3 =>
      (aI g 0 z3 v3).bind fun z4 =>
      (rI g 112 v0 25).bind fun z5 =>
      if z5 < z4 then
        (wI g 112 v0 44 (12 + v3)).bind fun g6 =>
        some (.inl (v3 + 1, g6))
      else
        some (.inl (v3 + 1, g))
  else
    some (.inr g)
set_option maxRecDepth 20000 in
theorem y_Y_fetch_28 {L : Nat} {xs : Nat → Int32} {Q : Option Value → ab_H → Prop} {v0 : Nat} {v2 : Int32} {v3 : Int32} {g : g_S} {out : (Int32 × g_S) ⊕ (g_S)} (e : b_Y_fetch_28 v0 v2 v3 g = some out) (c : cL_Y_fetch_28 L xs Q v0 v2 out) : wp (ab_ext L xs) J_Y_fetch 28 [(0, .ref v0), (2, .int v2), (3, .int v3)] [] (hp g) Q := by
  unfold b_Y_fetch_28 at e
  refine wp_p (j := J_Y_fetch) 2 (pc' := 30) (lv' := [(0, .ref v0), (2, .int v2), (3, .int v3)]) (st' := [.ref v0, .int v3]) rfl ?_
  refine x_gI e rfl rfl fd_12_26 rfl (fun z1 e => ?_)
  refine x_ge e rfl (fun e => ?_) (fun e => ?_)
  · refine wp_p (j := J_Y_fetch) 5 (pc' := 42) (lv' := [(0, .ref v0), (2, .int v2), (3, .int v3)]) (st' := [.int 4, .int (18 + v3), .ref v0]) rfl ?_
    refine x_cv1 (As := [.int (18 + v3), .int 4]) (rest := []) Value.int e rfl rfl rfl rfl rfl rfl (fun h => d_Y_alike h ⟨rfl, rfl⟩) (fun z2 e => ?_)
    refine z_eq e rfl (fun e => ?_) (fun e => ?_)
    · refine wp_p (j := J_Y_fetch) 2 (pc' := 28) (lv' := [(3, .int (v3 + 1)), (0, .ref v0), (2, .int v2)]) (st' := []) rfl ?_
      have e := Option.some.inj e; subst e; exact wp_lv (lv' := [(0, .ref v0), (2, .int v2), (3, .int (v3 + 1))]) rfl ⟨rfl, rfl, rfl, trivial⟩ c
    · refine wp_p (j := J_Y_fetch) 1 (pc' := 49) (lv' := [(0, .ref v0), (2, .int v2), (3, .int v3)]) (st' := [.ref v0]) rfl ?_
      refine x_gQ e rfl rfl fd_12_28 rfl (fun z3 e => ?_)
      refine wp_p (j := J_Y_fetch) 1 (pc' := 53) (lv' := [(0, .ref v0), (2, .int v2), (3, .int v3)]) (st' := [.int v3, .ref z3]) rfl ?_
      refine x_aI e rfl rfl (fun z4 e => ?_)
      refine wp_p (j := J_Y_fetch) 1 (pc' := 55) (lv' := [(0, .ref v0), (2, .int v2), (3, .int v3)]) (st' := [.ref v0, .int z4]) rfl ?_
      refine x_gI e rfl rfl fd_12_25 rfl (fun z5 e => ?_)
      refine x_le e rfl (fun e => ?_) (fun e => ?_)
      · refine wp_p (j := J_Y_fetch) 4 (pc' := 66) (lv' := [(0, .ref v0), (2, .int v2), (3, .int v3)]) (st' := [.int (12 + v3), .ref v0]) rfl ?_
        refine x_pI e rfl rfl fw_12_44 rfl (fun g6 e => ?_)
        refine wp_p (j := J_Y_fetch) 2 (pc' := 28) (lv' := [(3, .int (v3 + 1)), (0, .ref v0), (2, .int v2)]) (st' := []) rfl ?_
        have e := Option.some.inj e; subst e; exact wp_lv (lv' := [(0, .ref v0), (2, .int v2), (3, .int (v3 + 1))]) rfl ⟨rfl, rfl, rfl, trivial⟩ c
      · refine wp_p (j := J_Y_fetch) 2 (pc' := 28) (lv' := [(3, .int (v3 + 1)), (0, .ref v0), (2, .int v2)]) (st' := []) rfl ?_
        have e := Option.some.inj e; subst e; exact wp_lv (lv' := [(0, .ref v0), (2, .int v2), (3, .int (v3 + 1))]) rfl ⟨rfl, rfl, rfl, trivial⟩ c
  · have e := Option.some.inj e; subst e; exact wp_lv (lv' := [(0, .ref v0), (2, .int v2)]) rfl ⟨rfl, rfl, trivial⟩ c
noncomputable def L_Y_fetch_28 (v0 : Nat) (v2 : Int32) (v3 : Int32) (g : g_S) : Option (g_S) := it (fun s : Int32 × g_S => b_Y_fetch_28 v0 v2 s.1 s.2) (v3, g)
theorem l_Y_fetch_28 {L : Nat} {xs : Nat → Int32} {Q : Option Value → ab_H → Prop} {v0 : Nat} {v2 : Int32} {v3 : Int32} {g : g_S} {r : g_S} (e : L_Y_fetch_28 v0 v2 v3 g = some r) (c : cL_Y_fetch_28 L xs Q v0 v2 (.inr r)) : wp (ab_ext L xs) J_Y_fetch 28 [(0, .ref v0), (2, .int v2), (3, .int v3)] [] (hp g) Q :=
  it_wp (P := fun s : Int32 × g_S => wp (ab_ext L xs) J_Y_fetch 28 [(0, .ref v0), (2, .int v2), (3, .int s.1)] [] (hp s.2) Q) (E := fun r => cL_Y_fetch_28 L xs Q v0 v2 (.inr r)) (fun s out e c => y_Y_fetch_28 e (by cases out <;> exact c)) e c
theorem L_Y_fetch_28_eq (v0 : Nat) (v2 : Int32) (v3 : Int32) (g : g_S) : L_Y_fetch_28 v0 v2 v3 g = itc (b_Y_fetch_28 v0 v2 v3 g) (fun s => L_Y_fetch_28 v0 v2 s.1 s.2) := it_eq2 (fun s : Int32 × g_S => b_Y_fetch_28 v0 v2 s.1 s.2) (v3, g)
def cL_Y_fetch_17 (L : Nat) (xs : Nat → Int32) (Q : Option Value → ab_H → Prop) (v0 : Nat) (out : (Int32 × Int32 × g_S) ⊕ (g_S)) : Prop := match out with
  | .inl s => wp (ab_ext L xs) J_Y_fetch 17 [(0, .ref v0), (1, .int s.1), (2, .int s.2.1)] [] (hp s.2.2) Q
  | .inr s => wp (ab_ext L xs) J_Y_fetch 171 [] [] (hp s) Q
noncomputable def k_Y_fetch_162 (v0 : Nat) (v1 : Int32) (v2 : Int32) (w0 : Int32) (w1 : Int32) (w2 : Nat) (g : g_S) : Option ((Int32 × Int32 × g_S) ⊕ (g_S)) :=
  (vc g 112 w2 (M_Y_copyRow w2 w1 w0 g)).bind fun g1 =>
  some (.inl (v1, v2 + 1, g1))
set_option maxRecDepth 20000 in
theorem x_Y_fetch_162 {L : Nat} {xs : Nat → Int32} {Q : Option Value → ab_H → Prop} {v0 : Nat} {v1 : Int32} {v2 : Int32} {w0 : Int32} {w1 : Int32} {w2 : Nat} {g : g_S} {out : (Int32 × Int32 × g_S) ⊕ (g_S)} (e : k_Y_fetch_162 v0 v1 v2 w0 w1 w2 g = some out) (c : cL_Y_fetch_17 L xs Q v0 out) : wp (ab_ext L xs) J_Y_fetch 162 [(0, .ref v0), (1, .int v1), (2, .int v2)] [.int w0, .int w1, .ref w2] (hp g) Q := by
  unfold k_Y_fetch_162 at e
  refine x_cv0 (As := [.int w1, .int w0]) (rest := []) e rfl rfl rfl rfl rfl rfl (fun h => d_Y_copyRow h ⟨rfl, rfl⟩) (fun g1 e => ?_)
  refine wp_p (j := J_Y_fetch) 2 (pc' := 17) (lv' := [(2, .int (v2 + 1)), (0, .ref v0), (1, .int v1)]) (st' := []) rfl ?_
  have e := Option.some.inj e; subst e; exact wp_lv (lv' := [(0, .ref v0), (1, .int v1), (2, .int (v2 + 1))]) rfl ⟨rfl, rfl, rfl, trivial⟩ c
noncomputable def k_Y_fetch_127 (v0 : Nat) (v1 : Int32) (v2 : Int32) (g : g_S) : Option ((Int32 × Int32 × g_S) ⊕ (g_S)) :=
  if v1 = 0 then
    some (.inl (v1, v2 + 1, g))
  else
    (rI g 112 v0 44).bind fun z1 =>
    if z1 < 12 then
      (rI g 112 v0 44).bind fun z2 =>
      k_Y_fetch_162 v0 v1 v2 (46 + z2) 4 v0 g
    else
      (rI g 112 v0 44).bind fun z3 =>
      k_Y_fetch_162 v0 v1 v2 ((58 + z3) - 12) 4 v0 g
set_option maxRecDepth 20000 in
theorem x_Y_fetch_127 {L : Nat} {xs : Nat → Int32} {Q : Option Value → ab_H → Prop} {v0 : Nat} {v1 : Int32} {v2 : Int32} {g : g_S} {out : (Int32 × Int32 × g_S) ⊕ (g_S)} (e : k_Y_fetch_127 v0 v1 v2 g = some out) (c : cL_Y_fetch_17 L xs Q v0 out) : wp (ab_ext L xs) J_Y_fetch 127 [(0, .ref v0), (1, .int v1), (2, .int v2)] [] (hp g) Q := by
  unfold k_Y_fetch_127 at e
  refine wp_p (j := J_Y_fetch) 1 (pc' := 128) (lv' := [(0, .ref v0), (1, .int v1), (2, .int v2)]) (st' := [.int v1]) rfl ?_
  refine z_eq e rfl (fun e => ?_) (fun e => ?_)
  · refine wp_p (j := J_Y_fetch) 2 (pc' := 17) (lv' := [(2, .int (v2 + 1)), (0, .ref v0), (1, .int v1)]) (st' := []) rfl ?_
    have e := Option.some.inj e; subst e; exact wp_lv (lv' := [(0, .ref v0), (1, .int v1), (2, .int (v2 + 1))]) rfl ⟨rfl, rfl, rfl, trivial⟩ c
  · refine wp_p (j := J_Y_fetch) 3 (pc' := 134) (lv' := [(0, .ref v0), (1, .int v1), (2, .int v2)]) (st' := [.ref v0, .int 4, .ref v0]) rfl ?_
    refine x_gI e rfl rfl fd_12_44 rfl (fun z1 e => ?_)
    refine wp_p (j := J_Y_fetch) 1 (pc' := 139) (lv' := [(0, .ref v0), (1, .int v1), (2, .int v2)]) (st' := [.int 12, .int z1, .int 4, .ref v0]) rfl ?_
    refine x_ge e rfl (fun e => ?_) (fun e => ?_)
    · refine wp_p (j := J_Y_fetch) 2 (pc' := 145) (lv' := [(0, .ref v0), (1, .int v1), (2, .int v2)]) (st' := [.ref v0, .int 46, .int 4, .ref v0]) rfl ?_
      refine x_gI e rfl rfl fd_12_44 rfl (fun z2 e => ?_)
      refine wp_p (j := J_Y_fetch) 2 (pc' := 162) (lv' := [(0, .ref v0), (1, .int v1), (2, .int v2)]) (st' := [.int (46 + z2), .int 4, .ref v0]) rfl ?_
      exact wp_lv (lv' := [(0, .ref v0), (1, .int v1), (2, .int v2)]) rfl ⟨rfl, rfl, rfl, trivial⟩ (x_Y_fetch_162 e c)
    · refine wp_p (j := J_Y_fetch) 2 (pc' := 155) (lv' := [(0, .ref v0), (1, .int v1), (2, .int v2)]) (st' := [.ref v0, .int 58, .int 4, .ref v0]) rfl ?_
      refine x_gI e rfl rfl fd_12_44 rfl (fun z3 e => ?_)
      refine wp_p (j := J_Y_fetch) 3 (pc' := 162) (lv' := [(0, .ref v0), (1, .int v1), (2, .int v2)]) (st' := [.int ((58 + z3) - 12), .int 4, .ref v0]) rfl ?_
      exact wp_lv (lv' := [(0, .ref v0), (1, .int v1), (2, .int v2)]) rfl ⟨rfl, rfl, rfl, trivial⟩ (x_Y_fetch_162 e c)
noncomputable def k_Y_fetch_110 (v0 : Nat) (v2 : Int32) (w0 : Int32) (g : g_S) : Option ((Int32 × Int32 × g_S) ⊕ (g_S)) :=
  if w0 = 0 then
    k_Y_fetch_127 v0 w0 v2 g
  else
    if v2 = 5 then
      (wI g 112 v0 44 (-1)).bind fun g1 =>
      k_Y_fetch_127 v0 0 v2 g1
    else
      k_Y_fetch_127 v0 w0 v2 g
set_option maxRecDepth 20000 in
theorem x_Y_fetch_110 {L : Nat} {xs : Nat → Int32} {Q : Option Value → ab_H → Prop} {v0 : Nat} {v2 : Int32} {w0 : Int32} {g : g_S} {out : (Int32 × Int32 × g_S) ⊕ (g_S)} (e : k_Y_fetch_110 v0 v2 w0 g = some out) (c : cL_Y_fetch_17 L xs Q v0 out) : wp (ab_ext L xs) J_Y_fetch 110 [(0, .ref v0), (2, .int v2)] [.int w0] (hp g) Q := by
  unfold k_Y_fetch_110 at e
  refine wp_p (j := J_Y_fetch) 2 (pc' := 112) (lv' := [(1, .int w0), (0, .ref v0), (2, .int v2)]) (st' := [.int w0]) rfl ?_
  refine z_eq e rfl (fun e => ?_) (fun e => ?_)
  · exact wp_lv (lv' := [(0, .ref v0), (1, .int w0), (2, .int v2)]) rfl ⟨rfl, rfl, rfl, trivial⟩ (x_Y_fetch_127 e c)
  · refine wp_p (j := J_Y_fetch) 2 (pc' := 117) (lv' := [(1, .int w0), (0, .ref v0), (2, .int v2)]) (st' := [.int 5, .int v2]) rfl ?_
    refine x_ne e rfl (fun e => ?_) (fun e => ?_)
    · refine wp_p (j := J_Y_fetch) 2 (pc' := 122) (lv' := [(1, .int w0), (0, .ref v0), (2, .int v2)]) (st' := [.int (-1), .ref v0]) rfl ?_
      refine x_pI e rfl rfl fw_12_44 rfl (fun g1 e => ?_)
      refine wp_p (j := J_Y_fetch) 2 (pc' := 127) (lv' := [(1, .int 0), (0, .ref v0), (2, .int v2)]) (st' := []) rfl ?_
      exact wp_lv (lv' := [(0, .ref v0), (1, .int 0), (2, .int v2)]) rfl ⟨rfl, rfl, rfl, trivial⟩ (x_Y_fetch_127 e c)
    · exact wp_lv (lv' := [(0, .ref v0), (1, .int w0), (2, .int v2)]) rfl ⟨rfl, rfl, rfl, trivial⟩ (x_Y_fetch_127 e c)
noncomputable def k_Y_fetch_109 (v0 : Nat) (v2 : Int32) (g : g_S) : Option ((Int32 × Int32 × g_S) ⊕ (g_S)) :=
  k_Y_fetch_110 v0 v2 0 g
set_option maxRecDepth 20000 in
theorem x_Y_fetch_109 {L : Nat} {xs : Nat → Int32} {Q : Option Value → ab_H → Prop} {v0 : Nat} {v2 : Int32} {g : g_S} {out : (Int32 × Int32 × g_S) ⊕ (g_S)} (e : k_Y_fetch_109 v0 v2 g = some out) (c : cL_Y_fetch_17 L xs Q v0 out) : wp (ab_ext L xs) J_Y_fetch 109 [(0, .ref v0), (2, .int v2)] [] (hp g) Q := by
  unfold k_Y_fetch_109 at e
  refine wp_p (j := J_Y_fetch) 1 (pc' := 110) (lv' := [(0, .ref v0), (2, .int v2)]) (st' := [.int 0]) rfl ?_
  exact wp_lv (lv' := [(0, .ref v0), (2, .int v2)]) rfl ⟨rfl, rfl, trivial⟩ (x_Y_fetch_110 e c)
noncomputable def k_Y_fetch_86 (v0 : Nat) (v2 : Int32) (g : g_S) : Option ((Int32 × Int32 × g_S) ⊕ (g_S)) :=
  (rI g 112 v0 44).bind fun z1 =>
  if z1 < 0 then
    k_Y_fetch_109 v0 v2 g
  else
    (rQ g 112 v0 23).bind fun z2 =>
    (rI g 112 v0 44).bind fun z3 =>
    (aI g 2 z2 z3).bind fun z4 =>
    if z4 = 0 then
      k_Y_fetch_109 v0 v2 g
    else
      k_Y_fetch_110 v0 v2 1 g
set_option maxRecDepth 20000 in
theorem x_Y_fetch_86 {L : Nat} {xs : Nat → Int32} {Q : Option Value → ab_H → Prop} {v0 : Nat} {v2 : Int32} {g : g_S} {out : (Int32 × Int32 × g_S) ⊕ (g_S)} (e : k_Y_fetch_86 v0 v2 g = some out) (c : cL_Y_fetch_17 L xs Q v0 out) : wp (ab_ext L xs) J_Y_fetch 86 [(0, .ref v0), (2, .int v2)] [] (hp g) Q := by
  unfold k_Y_fetch_86 at e
  refine wp_p (j := J_Y_fetch) 1 (pc' := 87) (lv' := [(0, .ref v0), (2, .int v2)]) (st' := [.ref v0]) rfl ?_
  refine x_gI e rfl rfl fd_12_44 rfl (fun z1 e => ?_)
  refine z_lt e rfl (fun e => ?_) (fun e => ?_)
  · exact wp_lv (lv' := [(0, .ref v0), (2, .int v2)]) rfl ⟨rfl, rfl, trivial⟩ (x_Y_fetch_109 e c)
  · refine wp_p (j := J_Y_fetch) 1 (pc' := 94) (lv' := [(0, .ref v0), (2, .int v2)]) (st' := [.ref v0]) rfl ?_
    refine x_gQ e rfl rfl fd_12_23 rfl (fun z2 e => ?_)
    refine wp_p (j := J_Y_fetch) 1 (pc' := 98) (lv' := [(0, .ref v0), (2, .int v2)]) (st' := [.ref v0, .ref z2]) rfl ?_
    refine x_gI e rfl rfl fd_12_44 rfl (fun z3 e => ?_)
    refine x_aB e rfl (.inr rfl) rfl (fun z4 e => ?_)
    refine z_eq e rfl (fun e => ?_) (fun e => ?_)
    · exact wp_lv (lv' := [(0, .ref v0), (2, .int v2)]) rfl ⟨rfl, rfl, trivial⟩ (x_Y_fetch_109 e c)
    · refine wp_p (j := J_Y_fetch) 2 (pc' := 110) (lv' := [(0, .ref v0), (2, .int v2)]) (st' := [.int 1]) rfl ?_
      exact wp_lv (lv' := [(0, .ref v0), (2, .int v2)]) rfl ⟨rfl, rfl, trivial⟩ (x_Y_fetch_110 e c)
noncomputable def b_Y_fetch_17 (v0 : Nat) (v1 : Int32) (v2 : Int32) (g : g_S) : Option ((Int32 × Int32 × g_S) ⊕ (g_S)) :=
  if v1 = 0 then
    some (.inr g)
  else
    (wI g 112 v0 44 (-1)).bind fun g1 =>
    (L_Y_fetch_28 v0 v2 0 g1).bind <| fun g4 =>
    (rI g4 112 v0 44).bind fun z5 =>
    if z5 < 0 then
      (vc g4 112 v0 (M_Y_request v0 g4)).bind fun g6 =>
      k_Y_fetch_86 v0 v2 g6
    else
      k_Y_fetch_86 v0 v2 g4
set_option maxRecDepth 20000 in
theorem y_Y_fetch_17 {L : Nat} {xs : Nat → Int32} {Q : Option Value → ab_H → Prop} {v0 : Nat} {v1 : Int32} {v2 : Int32} {g : g_S} {out : (Int32 × Int32 × g_S) ⊕ (g_S)} (e : b_Y_fetch_17 v0 v1 v2 g = some out) (c : cL_Y_fetch_17 L xs Q v0 out) : wp (ab_ext L xs) J_Y_fetch 17 [(0, .ref v0), (1, .int v1), (2, .int v2)] [] (hp g) Q := by
  unfold b_Y_fetch_17 at e
  refine wp_p (j := J_Y_fetch) 1 (pc' := 18) (lv' := [(0, .ref v0), (1, .int v1), (2, .int v2)]) (st' := [.int v1]) rfl ?_
  refine z_eq e rfl (fun e => ?_) (fun e => ?_)
  · have e := Option.some.inj e; subst e; exact wp_lv (lv' := []) rfl trivial c
  · refine wp_p (j := J_Y_fetch) 2 (pc' := 23) (lv' := [(0, .ref v0), (1, .int v1), (2, .int v2)]) (st' := [.int (-1), .ref v0]) rfl ?_
    refine x_pI e rfl rfl fw_12_44 rfl (fun g1 e => ?_)
    refine wp_p (j := J_Y_fetch) 2 (pc' := 28) (lv' := [(3, .int 0), (0, .ref v0), (1, .int v1), (2, .int v2)]) (st' := []) rfl ?_
    obtain ⟨g4, h3, e⟩ := bd e
    refine wp_lv (lv' := [(0, .ref v0), (2, .int v2), (3, .int 0)]) rfl ⟨rfl, rfl, rfl, trivial⟩ ?_
    refine l_Y_fetch_28 h3 ?_
    show wp (ab_ext L xs) J_Y_fetch 75 [(0, .ref v0), (2, .int v2)] [] (hp g4) Q
    refine wp_p (j := J_Y_fetch) 1 (pc' := 76) (lv' := [(0, .ref v0), (2, .int v2)]) (st' := [.ref v0]) rfl ?_
    refine x_gI e rfl rfl fd_12_44 rfl (fun z5 e => ?_)
    refine z_ge e rfl (fun e => ?_) (fun e => ?_)
    · refine wp_p (j := J_Y_fetch) 1 (pc' := 83) (lv' := [(0, .ref v0), (2, .int v2)]) (st' := [.ref v0]) rfl ?_
      refine x_cv0 (As := []) (rest := []) e rfl rfl rfl rfl rfl rfl (fun h => d_Y_request h ⟨rfl, rfl⟩) (fun g6 e => ?_)
      exact wp_lv (lv' := [(0, .ref v0), (2, .int v2)]) rfl ⟨rfl, rfl, trivial⟩ (x_Y_fetch_86 e c)
    · exact wp_lv (lv' := [(0, .ref v0), (2, .int v2)]) rfl ⟨rfl, rfl, trivial⟩ (x_Y_fetch_86 e c)
noncomputable def L_Y_fetch_17 (v0 : Nat) (v1 : Int32) (v2 : Int32) (g : g_S) : Option (g_S) := it (fun s : Int32 × Int32 × g_S => b_Y_fetch_17 v0 s.1 s.2.1 s.2.2) (v1, v2, g)
theorem l_Y_fetch_17 {L : Nat} {xs : Nat → Int32} {Q : Option Value → ab_H → Prop} {v0 : Nat} {v1 : Int32} {v2 : Int32} {g : g_S} {r : g_S} (e : L_Y_fetch_17 v0 v1 v2 g = some r) (c : cL_Y_fetch_17 L xs Q v0 (.inr r)) : wp (ab_ext L xs) J_Y_fetch 17 [(0, .ref v0), (1, .int v1), (2, .int v2)] [] (hp g) Q :=
  it_wp (P := fun s : Int32 × Int32 × g_S => wp (ab_ext L xs) J_Y_fetch 17 [(0, .ref v0), (1, .int s.1), (2, .int s.2.1)] [] (hp s.2.2) Q) (E := fun r => cL_Y_fetch_17 L xs Q v0 (.inr r)) (fun s out e c => y_Y_fetch_17 e (by cases out <;> exact c)) e c
theorem L_Y_fetch_17_eq (v0 : Nat) (v1 : Int32) (v2 : Int32) (g : g_S) : L_Y_fetch_17 v0 v1 v2 g = itc (b_Y_fetch_17 v0 v1 v2 g) (fun s => L_Y_fetch_17 v0 s.1 s.2.1 s.2.2) := it_eq2 (fun s : Int32 × Int32 × g_S => b_Y_fetch_17 v0 s.1 s.2.1 s.2.2) (v1, v2, g)
noncomputable def M_Y_fetch (v0 : Nat) (g : g_S) : Option g_S :=
  (vc g 112 v0 (M_Y_copyRow v0 4 0 g)).bind fun g1 =>
  (rQ g1 112 v0 8).bind fun z2 =>
  (sI g1 z2 4 0).bind fun g3 =>
  (L_Y_fetch_17 v0 1 0 g3).bind <| fun g6 =>
  some g6
set_option maxRecDepth 20000 in
theorem d_Y_fetch {L : Nat} {xs : Nat → Int32} {Q : Option Value → ab_H → Prop} {v0 : Nat} {g : g_S} {out : g_S} (e : M_Y_fetch v0 g = some out) (c : Q none (hp out)) : mw (ab_ext L xs) J_Y_fetch [.ref v0] (hp g) Q := by
  unfold M_Y_fetch at e
  refine wp_p (j := J_Y_fetch) 3 (pc' := 3) (lv' := [(0, .ref v0)]) (st' := [.int 0, .int 4, .ref v0]) rfl ?_
  refine x_cv0 (As := [.int 4, .int 0]) (rest := []) e rfl rfl rfl rfl rfl rfl (fun h => d_Y_copyRow h ⟨rfl, rfl⟩) (fun g1 e => ?_)
  refine wp_p (j := J_Y_fetch) 1 (pc' := 7) (lv' := [(0, .ref v0)]) (st' := [.ref v0]) rfl ?_
  refine x_gQ e rfl rfl fd_12_8 rfl (fun z2 e => ?_)
  refine wp_p (j := J_Y_fetch) 2 (pc' := 12) (lv' := [(0, .ref v0)]) (st' := [.int 0, .int 4, .ref z2]) rfl ?_
  refine x_sI e rfl rfl (fun g3 e => ?_)
  refine wp_p (j := J_Y_fetch) 4 (pc' := 17) (lv' := [(2, .int 0), (1, .int 1), (0, .ref v0)]) (st' := []) rfl ?_
  obtain ⟨g6, h5, e⟩ := bd e
  refine wp_lv (lv' := [(0, .ref v0), (1, .int 1), (2, .int 0)]) rfl ⟨rfl, rfl, rfl, trivial⟩ ?_
  refine l_Y_fetch_17 h5 ?_
  show wp (ab_ext L xs) J_Y_fetch 171 [] [] (hp g6) Q
  have e := Option.some.inj e; subst e; exact wp_vret rfl rfl c
noncomputable def M_Y_isAt (v0 : Nat) (v1 : Int32) (v2 : Int32) (v3 : Int32) (v4 : Int32) (g : g_S) : Option Int32 :=
  (rI g 112 v0 76).bind fun z1 =>
  if (v1 + 2) < z1 then
    (rQ g 112 v0 75).bind fun z2 =>
    (aI g 1 z2 v1).bind fun z3 =>
    if z3 = v2 then
      (rQ g 112 v0 75).bind fun z4 =>
      (aI g 1 z4 (v1 + 1)).bind fun z5 =>
      if z5 = v3 then
        (rQ g 112 v0 75).bind fun z6 =>
        (aI g 1 z6 (v1 + 2)).bind fun z7 =>
        if z7 = v4 then
          some 1
        else
          some 0
      else
        some 0
    else
      some 0
  else
    some 0
set_option maxRecDepth 20000 in
theorem d_Y_isAt {L : Nat} {xs : Nat → Int32} {Q : Option Value → ab_H → Prop} {v0 : Nat} {v1 : Int32} {v2 : Int32} {v3 : Int32} {v4 : Int32} {g : g_S} {out : Int32} (e : M_Y_isAt v0 v1 v2 v3 v4 g = some out) (c : Q (some (.int out)) (hp g)) : mw (ab_ext L xs) J_Y_isAt [.ref v0, .int v1, .int v2, .int v3, .int v4] (hp g) Q := by
  unfold M_Y_isAt at e
  refine wp_p (j := J_Y_isAt) 4 (pc' := 4) (lv' := [(0, .ref v0), (1, .int v1), (2, .int v2), (3, .int v3), (4, .int v4)]) (st' := [.ref v0, .int (v1 + 2)]) rfl ?_
  refine x_gI e rfl rfl fd_12_76 rfl (fun z1 e => ?_)
  refine x_ge e rfl (fun e => ?_) (fun e => ?_)
  · refine wp_p (j := J_Y_isAt) 1 (pc' := 11) (lv' := [(0, .ref v0), (1, .int v1), (2, .int v2), (3, .int v3), (4, .int v4)]) (st' := [.ref v0]) rfl ?_
    refine x_gQ e rfl rfl fd_12_75 rfl (fun z2 e => ?_)
    refine wp_p (j := J_Y_isAt) 1 (pc' := 15) (lv' := [(0, .ref v0), (1, .int v1), (2, .int v2), (3, .int v3), (4, .int v4)]) (st' := [.int v1, .ref z2]) rfl ?_
    refine x_aB e rfl (.inl rfl) rfl (fun z3 e => ?_)
    refine wp_p (j := J_Y_isAt) 1 (pc' := 17) (lv' := [(0, .ref v0), (1, .int v1), (2, .int v2), (3, .int v3), (4, .int v4)]) (st' := [.int v2, .int z3]) rfl ?_
    refine x_ne e rfl (fun e => ?_) (fun e => ?_)
    · refine wp_p (j := J_Y_isAt) 1 (pc' := 21) (lv' := [(0, .ref v0), (1, .int v1), (2, .int v2), (3, .int v3), (4, .int v4)]) (st' := [.ref v0]) rfl ?_
      refine x_gQ e rfl rfl fd_12_75 rfl (fun z4 e => ?_)
      refine wp_p (j := J_Y_isAt) 3 (pc' := 27) (lv' := [(0, .ref v0), (1, .int v1), (2, .int v2), (3, .int v3), (4, .int v4)]) (st' := [.int (v1 + 1), .ref z4]) rfl ?_
      refine x_aB e rfl (.inl rfl) rfl (fun z5 e => ?_)
      refine wp_p (j := J_Y_isAt) 1 (pc' := 29) (lv' := [(0, .ref v0), (1, .int v1), (2, .int v2), (3, .int v3), (4, .int v4)]) (st' := [.int v3, .int z5]) rfl ?_
      refine x_ne e rfl (fun e => ?_) (fun e => ?_)
      · refine wp_p (j := J_Y_isAt) 1 (pc' := 33) (lv' := [(0, .ref v0), (1, .int v1), (2, .int v2), (3, .int v3), (4, .int v4)]) (st' := [.ref v0]) rfl ?_
        refine x_gQ e rfl rfl fd_12_75 rfl (fun z6 e => ?_)
        refine wp_p (j := J_Y_isAt) 3 (pc' := 39) (lv' := [(0, .ref v0), (1, .int v1), (2, .int v2), (3, .int v3), (4, .int v4)]) (st' := [.int (v1 + 2), .ref z6]) rfl ?_
        refine x_aB e rfl (.inl rfl) rfl (fun z7 e => ?_)
        refine wp_p (j := J_Y_isAt) 1 (pc' := 42) (lv' := [(0, .ref v0), (1, .int v1), (2, .int v2), (3, .int v3), (4, .int v4)]) (st' := [.int v4, .int z7]) rfl ?_
        refine x_ne e rfl (fun e => ?_) (fun e => ?_)
        · refine wp_p (j := J_Y_isAt) 2 (pc' := 50) (lv' := [(0, .ref v0), (1, .int v1), (2, .int v2), (3, .int v3), (4, .int v4)]) (st' := [.int 1]) rfl ?_
          have e := Option.some.inj e; subst e; exact wp_iret (ty := .boolean) rfl rfl (by decide) c
        · refine wp_p (j := J_Y_isAt) 1 (pc' := 50) (lv' := [(0, .ref v0), (1, .int v1), (2, .int v2), (3, .int v3), (4, .int v4)]) (st' := [.int 0]) rfl ?_
          have e := Option.some.inj e; subst e; exact wp_iret (ty := .boolean) rfl rfl (by decide) c
      · refine wp_p (j := J_Y_isAt) 1 (pc' := 50) (lv' := [(0, .ref v0), (1, .int v1), (2, .int v2), (3, .int v3), (4, .int v4)]) (st' := [.int 0]) rfl ?_
        have e := Option.some.inj e; subst e; exact wp_iret (ty := .boolean) rfl rfl (by decide) c
    · refine wp_p (j := J_Y_isAt) 1 (pc' := 50) (lv' := [(0, .ref v0), (1, .int v1), (2, .int v2), (3, .int v3), (4, .int v4)]) (st' := [.int 0]) rfl ?_
      have e := Option.some.inj e; subst e; exact wp_iret (ty := .boolean) rfl rfl (by decide) c
  · refine wp_p (j := J_Y_isAt) 1 (pc' := 50) (lv' := [(0, .ref v0), (1, .int v1), (2, .int v2), (3, .int v3), (4, .int v4)]) (st' := [.int 0]) rfl ?_
    have e := Option.some.inj e; subst e; exact wp_iret (ty := .boolean) rfl rfl (by decide) c
noncomputable def M_Y_tagWord (v0 : Int32) (g : g_S) : Option Int64 :=
  if v0 = 0 then
    some 22820
  else if v0 = 1 then
    some 16
  else if v0 = 2 then
    some 8
  else if v0 = 3 then
    some 405
  else if v0 = 4 then
    some 300
  else if v0 = 5 then
    some 444902
  else if v0 = 6 then
    some 460307
  else if v0 = 7 then
    some 1
  else if v0 = 8 then
    some 2
  else if v0 = 9 then
    some 9
  else if v0 = 10 then
    some 578
  else if v0 = 11 then
    some 584
  else if v0 = 12 then
    some 7593
  else if v0 = 13 then
    some 21676489
  else if v0 = 14 then
    some 486167202
  else
    some 5662355
set_option maxRecDepth 20000 in
theorem d_Y_tagWord {L : Nat} {xs : Nat → Int32} {Q : Option Value → ab_H → Prop} {v0 : Int32} {g : g_S} {out : Int64} (e : M_Y_tagWord v0 g = some out) (c : Q (some (.long out)) (hp g)) : mw (ab_ext L xs) J_Y_tagWord [.int v0] (hp g) Q := by
  unfold M_Y_tagWord at e
  refine wp_p (j := J_Y_tagWord) 1 (pc' := 1) (lv' := [(0, .int v0)]) (st' := [.int v0]) rfl ?_
  refine x_if e (fun h1 e => ?_) (fun h1 e => ?_)
  · refine x_sw (cst := 0) (pc' := 76) (rest := []) h1 rfl rfl rfl ?_
    refine x_l2 (xl := 22820) rfl rfl rfl ?_
    have e := Option.some.inj e; subst e; exact wp_lret rfl rfl c
  refine x_if e (fun h2 e => ?_) (fun h2 e => ?_)
  · refine x_sw (cst := 1) (pc' := 80) (rest := []) h2 rfl rfl rfl ?_
    refine x_l2 (xl := 16) rfl rfl rfl ?_
    have e := Option.some.inj e; subst e; exact wp_lret rfl rfl c
  refine x_if e (fun h3 e => ?_) (fun h3 e => ?_)
  · refine x_sw (cst := 2) (pc' := 84) (rest := []) h3 rfl rfl rfl ?_
    refine x_l2 (xl := 8) rfl rfl rfl ?_
    have e := Option.some.inj e; subst e; exact wp_lret rfl rfl c
  refine x_if e (fun h4 e => ?_) (fun h4 e => ?_)
  · refine x_sw (cst := 3) (pc' := 88) (rest := []) h4 rfl rfl rfl ?_
    refine x_l2 (xl := 405) rfl rfl rfl ?_
    have e := Option.some.inj e; subst e; exact wp_lret rfl rfl c
  refine x_if e (fun h5 e => ?_) (fun h5 e => ?_)
  · refine x_sw (cst := 4) (pc' := 92) (rest := []) h5 rfl rfl rfl ?_
    refine x_l2 (xl := 300) rfl rfl rfl ?_
    have e := Option.some.inj e; subst e; exact wp_lret rfl rfl c
  refine x_if e (fun h6 e => ?_) (fun h6 e => ?_)
  · refine x_sw (cst := 5) (pc' := 96) (rest := []) h6 rfl rfl rfl ?_
    refine x_l2 (xl := 444902) rfl rfl rfl ?_
    have e := Option.some.inj e; subst e; exact wp_lret rfl rfl c
  refine x_if e (fun h7 e => ?_) (fun h7 e => ?_)
  · refine x_sw (cst := 6) (pc' := 100) (rest := []) h7 rfl rfl rfl ?_
    refine x_l2 (xl := 460307) rfl rfl rfl ?_
    have e := Option.some.inj e; subst e; exact wp_lret rfl rfl c
  refine x_if e (fun h8 e => ?_) (fun h8 e => ?_)
  · refine x_sw (cst := 7) (pc' := 104) (rest := []) h8 rfl rfl rfl ?_
    refine wp_p (j := J_Y_tagWord) 1 (pc' := 105) (lv' := [(0, .int v0)]) (st' := [.long 1]) rfl ?_
    have e := Option.some.inj e; subst e; exact wp_lret rfl rfl c
  refine x_if e (fun h9 e => ?_) (fun h9 e => ?_)
  · refine x_sw (cst := 8) (pc' := 106) (rest := []) h9 rfl rfl rfl ?_
    refine x_l2 (xl := 2) rfl rfl rfl ?_
    have e := Option.some.inj e; subst e; exact wp_lret rfl rfl c
  refine x_if e (fun h10 e => ?_) (fun h10 e => ?_)
  · refine x_sw (cst := 9) (pc' := 110) (rest := []) h10 rfl rfl rfl ?_
    refine x_l2 (xl := 9) rfl rfl rfl ?_
    have e := Option.some.inj e; subst e; exact wp_lret rfl rfl c
  refine x_if e (fun h11 e => ?_) (fun h11 e => ?_)
  · refine x_sw (cst := 10) (pc' := 114) (rest := []) h11 rfl rfl rfl ?_
    refine x_l2 (xl := 578) rfl rfl rfl ?_
    have e := Option.some.inj e; subst e; exact wp_lret rfl rfl c
  refine x_if e (fun h12 e => ?_) (fun h12 e => ?_)
  · refine x_sw (cst := 11) (pc' := 118) (rest := []) h12 rfl rfl rfl ?_
    refine x_l2 (xl := 584) rfl rfl rfl ?_
    have e := Option.some.inj e; subst e; exact wp_lret rfl rfl c
  refine x_if e (fun h13 e => ?_) (fun h13 e => ?_)
  · refine x_sw (cst := 12) (pc' := 122) (rest := []) h13 rfl rfl rfl ?_
    refine x_l2 (xl := 7593) rfl rfl rfl ?_
    have e := Option.some.inj e; subst e; exact wp_lret rfl rfl c
  refine x_if e (fun h14 e => ?_) (fun h14 e => ?_)
  · refine x_sw (cst := 13) (pc' := 126) (rest := []) h14 rfl rfl rfl ?_
    refine x_l2 (xl := 21676489) rfl rfl rfl ?_
    have e := Option.some.inj e; subst e; exact wp_lret rfl rfl c
  refine x_if e (fun h15 e => ?_) (fun h15 e => ?_)
  · refine x_sw (cst := 14) (pc' := 130) (rest := []) h15 rfl rfl rfl ?_
    refine x_l2 (xl := 486167202) rfl rfl rfl ?_
    have e := Option.some.inj e; subst e; exact wp_lret rfl rfl c
  refine wp_b (pc' := 134) (st' := []) rfl rfl ((ts_d (x := v0) (lo := 0) 15 rfl ⟨h1, h2, h3, h4, h5, h6, h7, h8, h9, h10, h11, h12, h13, h14, h15, trivial⟩).trans rfl) ?_
  refine x_l2 (xl := 5662355) rfl rfl rfl ?_
  have e := Option.some.inj e; subst e; exact wp_lret rfl rfl c
noncomputable def M_Y_endsStyle (v0 : Nat) (v1 : Int32) (g : g_S) : Option Int32 :=
  (vc g 112 v0 (M_Y_isAt v0 v1 60 47 115 g)).bind fun z1 =>
  if z1 = 0 then
    some 0
  else
    (rQ g 112 v0 75).bind fun z2 =>
    (rI g 112 v0 76).bind fun z3 =>
    (M_Y_tagWord 15 g).bind fun z4 =>
    (M_Y_isWord z2 (v1 + 2) z3 z4 g).bind fun z5 =>
    if z5 = 0 then
      some 0
    else
      some 1
set_option maxRecDepth 20000 in
theorem d_Y_endsStyle {L : Nat} {xs : Nat → Int32} {Q : Option Value → ab_H → Prop} {v0 : Nat} {v1 : Int32} {g : g_S} {out : Int32} (e : M_Y_endsStyle v0 v1 g = some out) (c : Q (some (.int out)) (hp g)) : mw (ab_ext L xs) J_Y_endsStyle [.ref v0, .int v1] (hp g) Q := by
  unfold M_Y_endsStyle at e
  refine wp_p (j := J_Y_endsStyle) 5 (pc' := 8) (lv' := [(0, .ref v0), (1, .int v1)]) (st' := [.int 115, .int 47, .int 60, .int v1, .ref v0]) rfl ?_
  refine x_cv1 (As := [.int v1, .int 60, .int 47, .int 115]) (rest := []) Value.int e rfl rfl rfl rfl rfl rfl (fun h => d_Y_isAt h ⟨rfl, rfl⟩) (fun z1 e => ?_)
  refine z_eq e rfl (fun e => ?_) (fun e => ?_)
  · refine wp_p (j := J_Y_endsStyle) 1 (pc' := 41) (lv' := [(0, .ref v0), (1, .int v1)]) (st' := [.int 0]) rfl ?_
    have e := Option.some.inj e; subst e; exact wp_iret (ty := .boolean) rfl rfl (by decide) c
  · refine wp_p (j := J_Y_endsStyle) 1 (pc' := 15) (lv' := [(0, .ref v0), (1, .int v1)]) (st' := [.ref v0]) rfl ?_
    refine x_gQ e rfl rfl fd_12_75 rfl (fun z2 e => ?_)
    refine wp_p (j := J_Y_endsStyle) 4 (pc' := 22) (lv' := [(0, .ref v0), (1, .int v1)]) (st' := [.ref v0, .int (v1 + 2), .ref z2]) rfl ?_
    refine x_gI e rfl rfl fd_12_76 rfl (fun z3 e => ?_)
    refine wp_p (j := J_Y_endsStyle) 1 (pc' := 27) (lv' := [(0, .ref v0), (1, .int v1)]) (st' := [.int 15, .int z3, .int (v1 + 2), .ref z2]) rfl ?_
    refine x_cs1 (As := [.int 15]) (rest := [.int z3, .int (v1 + 2), .ref z2]) Value.long e rfl rfl rfl rfl rfl (fun h => d_Y_tagWord h ⟨rfl, rfl⟩) (fun z4 e => ?_)
    refine x_cs1 (As := [.ref z2, .int (v1 + 2), .int z3, .long z4]) (rest := []) Value.int e rfl rfl rfl rfl rfl (fun h => d_Y_isWord h ⟨rfl, rfl⟩) (fun z5 e => ?_)
    refine z_eq e rfl (fun e => ?_) (fun e => ?_)
    · refine wp_p (j := J_Y_endsStyle) 1 (pc' := 41) (lv' := [(0, .ref v0), (1, .int v1)]) (st' := [.int 0]) rfl ?_
      have e := Option.some.inj e; subst e; exact wp_iret (ty := .boolean) rfl rfl (by decide) c
    · refine wp_p (j := J_Y_endsStyle) 2 (pc' := 41) (lv' := [(0, .ref v0), (1, .int v1)]) (st' := [.int 1]) rfl ?_
      have e := Option.some.inj e; subst e; exact wp_iret (ty := .boolean) rfl rfl (by decide) c
noncomputable def M_Y_isNote (v0 : Nat) (v1 : Int32) (g : g_S) : Option Int32 :=
  (vc g 112 v0 (M_Y_isAt v0 v1 60 33 45 g)).bind fun z1 =>
  if z1 = 0 then
    some 0
  else
    (rI g 112 v0 76).bind fun z2 =>
    if (v1 + 3) < z2 then
      (rQ g 112 v0 75).bind fun z3 =>
      (aI g 1 z3 (v1 + 3)).bind fun z4 =>
      if z4 = 45 then
        some 1
      else
        some 0
    else
      some 0
set_option maxRecDepth 20000 in
theorem d_Y_isNote {L : Nat} {xs : Nat → Int32} {Q : Option Value → ab_H → Prop} {v0 : Nat} {v1 : Int32} {g : g_S} {out : Int32} (e : M_Y_isNote v0 v1 g = some out) (c : Q (some (.int out)) (hp g)) : mw (ab_ext L xs) J_Y_isNote [.ref v0, .int v1] (hp g) Q := by
  unfold M_Y_isNote at e
  refine wp_p (j := J_Y_isNote) 5 (pc' := 8) (lv' := [(0, .ref v0), (1, .int v1)]) (st' := [.int 45, .int 33, .int 60, .int v1, .ref v0]) rfl ?_
  refine x_cv1 (As := [.int v1, .int 60, .int 33, .int 45]) (rest := []) Value.int e rfl rfl rfl rfl rfl rfl (fun h => d_Y_isAt h ⟨rfl, rfl⟩) (fun z1 e => ?_)
  refine z_eq e rfl (fun e => ?_) (fun e => ?_)
  · refine wp_p (j := J_Y_isNote) 1 (pc' := 42) (lv' := [(0, .ref v0), (1, .int v1)]) (st' := [.int 0]) rfl ?_
    have e := Option.some.inj e; subst e; exact wp_iret (ty := .boolean) rfl rfl (by decide) c
  · refine wp_p (j := J_Y_isNote) 4 (pc' := 18) (lv' := [(0, .ref v0), (1, .int v1)]) (st' := [.ref v0, .int (v1 + 3)]) rfl ?_
    refine x_gI e rfl rfl fd_12_76 rfl (fun z2 e => ?_)
    refine x_ge e rfl (fun e => ?_) (fun e => ?_)
    · refine wp_p (j := J_Y_isNote) 1 (pc' := 25) (lv' := [(0, .ref v0), (1, .int v1)]) (st' := [.ref v0]) rfl ?_
      refine x_gQ e rfl rfl fd_12_75 rfl (fun z3 e => ?_)
      refine wp_p (j := J_Y_isNote) 3 (pc' := 31) (lv' := [(0, .ref v0), (1, .int v1)]) (st' := [.int (v1 + 3), .ref z3]) rfl ?_
      refine x_aB e rfl (.inl rfl) rfl (fun z4 e => ?_)
      refine wp_p (j := J_Y_isNote) 1 (pc' := 34) (lv' := [(0, .ref v0), (1, .int v1)]) (st' := [.int 45, .int z4]) rfl ?_
      refine x_ne e rfl (fun e => ?_) (fun e => ?_)
      · refine wp_p (j := J_Y_isNote) 2 (pc' := 42) (lv' := [(0, .ref v0), (1, .int v1)]) (st' := [.int 1]) rfl ?_
        have e := Option.some.inj e; subst e; exact wp_iret (ty := .boolean) rfl rfl (by decide) c
      · refine wp_p (j := J_Y_isNote) 1 (pc' := 42) (lv' := [(0, .ref v0), (1, .int v1)]) (st' := [.int 0]) rfl ?_
        have e := Option.some.inj e; subst e; exact wp_iret (ty := .boolean) rfl rfl (by decide) c
    · refine wp_p (j := J_Y_isNote) 1 (pc' := 42) (lv' := [(0, .ref v0), (1, .int v1)]) (st' := [.int 0]) rfl ?_
      have e := Option.some.inj e; subst e; exact wp_iret (ty := .boolean) rfl rfl (by decide) c
noncomputable def M_Y_isLetter (v0 : Int32) (g : g_S) : Option Int32 :=
  (M_Y_isSmall v0 g).bind fun z1 =>
  if z1 = 0 then
    if v0 < 65 then
      some 0
    else
      if 90 < v0 then
        some 0
      else
        some 1
  else
    some 1
set_option maxRecDepth 20000 in
theorem d_Y_isLetter {L : Nat} {xs : Nat → Int32} {Q : Option Value → ab_H → Prop} {v0 : Int32} {g : g_S} {out : Int32} (e : M_Y_isLetter v0 g = some out) (c : Q (some (.int out)) (hp g)) : mw (ab_ext L xs) J_Y_isLetter [.int v0] (hp g) Q := by
  unfold M_Y_isLetter at e
  refine wp_p (j := J_Y_isLetter) 1 (pc' := 1) (lv' := [(0, .int v0)]) (st' := [.int v0]) rfl ?_
  refine x_cs1 (As := [.int v0]) (rest := []) Value.int e rfl rfl rfl rfl rfl (fun h => d_Y_isSmall h ⟨rfl, rfl⟩) (fun z1 e => ?_)
  refine z_ne e rfl (fun e => ?_) (fun e => ?_)
  · refine wp_p (j := J_Y_isLetter) 2 (pc' := 10) (lv' := [(0, .int v0)]) (st' := [.int 65, .int v0]) rfl ?_
    refine x_lt e rfl (fun e => ?_) (fun e => ?_)
    · refine wp_p (j := J_Y_isLetter) 1 (pc' := 24) (lv' := [(0, .int v0)]) (st' := [.int 0]) rfl ?_
      have e := Option.some.inj e; subst e; exact wp_iret (ty := .boolean) rfl rfl (by decide) c
    · refine wp_p (j := J_Y_isLetter) 2 (pc' := 16) (lv' := [(0, .int v0)]) (st' := [.int 90, .int v0]) rfl ?_
      refine x_gt e rfl (fun e => ?_) (fun e => ?_)
      · refine wp_p (j := J_Y_isLetter) 1 (pc' := 24) (lv' := [(0, .int v0)]) (st' := [.int 0]) rfl ?_
        have e := Option.some.inj e; subst e; exact wp_iret (ty := .boolean) rfl rfl (by decide) c
      · refine wp_p (j := J_Y_isLetter) 2 (pc' := 24) (lv' := [(0, .int v0)]) (st' := [.int 1]) rfl ?_
        have e := Option.some.inj e; subst e; exact wp_iret (ty := .boolean) rfl rfl (by decide) c
  · refine wp_p (j := J_Y_isLetter) 2 (pc' := 24) (lv' := [(0, .int v0)]) (st' := [.int 1]) rfl ?_
    have e := Option.some.inj e; subst e; exact wp_iret (ty := .boolean) rfl rfl (by decide) c
noncomputable def k_Y_isTag_53 (v0 : Nat) (w0 : Int32) (g : g_S) : Option Int32 :=
  (rI g 112 v0 76).bind fun z1 =>
  if w0 < z1 then
    (rQ g 112 v0 75).bind fun z2 =>
    (aI g 1 z2 w0).bind fun z3 =>
    (M_Y_isLetter z3 g).bind fun z4 =>
    if z4 = 0 then
      some 0
    else
      some 1
  else
    some 0
set_option maxRecDepth 20000 in
theorem x_Y_isTag_53 {L : Nat} {xs : Nat → Int32} {Q : Option Value → ab_H → Prop} {v0 : Nat} {w0 : Int32} {g : g_S} {out : Int32} (e : k_Y_isTag_53 v0 w0 g = some out) (c : Q (some (.int out)) (hp g)) : wp (ab_ext L xs) J_Y_isTag 53 [(0, .ref v0)] [.int w0] (hp g) Q := by
  unfold k_Y_isTag_53 at e
  refine wp_p (j := J_Y_isTag) 3 (pc' := 56) (lv' := [(2, .int w0), (0, .ref v0)]) (st' := [.ref v0, .int w0]) rfl ?_
  refine x_gI e rfl rfl fd_12_76 rfl (fun z1 e => ?_)
  refine x_ge e rfl (fun e => ?_) (fun e => ?_)
  · refine wp_p (j := J_Y_isTag) 1 (pc' := 63) (lv' := [(2, .int w0), (0, .ref v0)]) (st' := [.ref v0]) rfl ?_
    refine x_gQ e rfl rfl fd_12_75 rfl (fun z2 e => ?_)
    refine wp_p (j := J_Y_isTag) 1 (pc' := 67) (lv' := [(2, .int w0), (0, .ref v0)]) (st' := [.int w0, .ref z2]) rfl ?_
    refine x_aB e rfl (.inl rfl) rfl (fun z3 e => ?_)
    refine x_cs1 (As := [.int z3]) (rest := []) Value.int e rfl rfl rfl rfl rfl (fun h => d_Y_isLetter h ⟨rfl, rfl⟩) (fun z4 e => ?_)
    refine z_eq e rfl (fun e => ?_) (fun e => ?_)
    · refine wp_p (j := J_Y_isTag) 1 (pc' := 79) (lv' := [(2, .int w0), (0, .ref v0)]) (st' := [.int 0]) rfl ?_
      have e := Option.some.inj e; subst e; exact wp_iret (ty := .boolean) rfl rfl (by decide) c
    · refine wp_p (j := J_Y_isTag) 2 (pc' := 79) (lv' := [(2, .int w0), (0, .ref v0)]) (st' := [.int 1]) rfl ?_
      have e := Option.some.inj e; subst e; exact wp_iret (ty := .boolean) rfl rfl (by decide) c
  · refine wp_p (j := J_Y_isTag) 1 (pc' := 79) (lv' := [(2, .int w0), (0, .ref v0)]) (st' := [.int 0]) rfl ?_
    have e := Option.some.inj e; subst e; exact wp_iret (ty := .boolean) rfl rfl (by decide) c
noncomputable def k_Y_isTag_50 (v0 : Nat) (v1 : Int32) (g : g_S) : Option Int32 :=
  k_Y_isTag_53 v0 (v1 + 1) g
set_option maxRecDepth 20000 in
theorem x_Y_isTag_50 {L : Nat} {xs : Nat → Int32} {Q : Option Value → ab_H → Prop} {v0 : Nat} {v1 : Int32} {g : g_S} {out : Int32} (e : k_Y_isTag_50 v0 v1 g = some out) (c : Q (some (.int out)) (hp g)) : wp (ab_ext L xs) J_Y_isTag 50 [(0, .ref v0), (1, .int v1)] [] (hp g) Q := by
  unfold k_Y_isTag_50 at e
  refine wp_p (j := J_Y_isTag) 3 (pc' := 53) (lv' := [(0, .ref v0), (1, .int v1)]) (st' := [.int (v1 + 1)]) rfl ?_
  exact wp_lv (lv' := [(0, .ref v0)]) rfl ⟨rfl, trivial⟩ (x_Y_isTag_53 e c)
noncomputable def M_Y_isTag (v0 : Nat) (v1 : Int32) (g : g_S) : Option Int32 :=
  (rI g 112 v0 76).bind fun z1 =>
  if v1 < z1 then
    (rQ g 112 v0 75).bind fun z2 =>
    (aI g 1 z2 v1).bind fun z3 =>
    if z3 = 60 then
      (rI g 112 v0 76).bind fun z4 =>
      if (v1 + 1) < z4 then
        (rQ g 112 v0 75).bind fun z5 =>
        (aI g 1 z5 (v1 + 1)).bind fun z6 =>
        if z6 = 47 then
          k_Y_isTag_53 v0 (v1 + 2) g
        else
          k_Y_isTag_50 v0 v1 g
      else
        k_Y_isTag_50 v0 v1 g
    else
      some 0
  else
    some 0
set_option maxRecDepth 20000 in
theorem d_Y_isTag {L : Nat} {xs : Nat → Int32} {Q : Option Value → ab_H → Prop} {v0 : Nat} {v1 : Int32} {g : g_S} {out : Int32} (e : M_Y_isTag v0 v1 g = some out) (c : Q (some (.int out)) (hp g)) : mw (ab_ext L xs) J_Y_isTag [.ref v0, .int v1] (hp g) Q := by
  unfold M_Y_isTag at e
  refine wp_p (j := J_Y_isTag) 2 (pc' := 2) (lv' := [(0, .ref v0), (1, .int v1)]) (st' := [.ref v0, .int v1]) rfl ?_
  refine x_gI e rfl rfl fd_12_76 rfl (fun z1 e => ?_)
  refine x_ge e rfl (fun e => ?_) (fun e => ?_)
  · refine wp_p (j := J_Y_isTag) 1 (pc' := 9) (lv' := [(0, .ref v0), (1, .int v1)]) (st' := [.ref v0]) rfl ?_
    refine x_gQ e rfl rfl fd_12_75 rfl (fun z2 e => ?_)
    refine wp_p (j := J_Y_isTag) 1 (pc' := 13) (lv' := [(0, .ref v0), (1, .int v1)]) (st' := [.int v1, .ref z2]) rfl ?_
    refine x_aB e rfl (.inl rfl) rfl (fun z3 e => ?_)
    refine wp_p (j := J_Y_isTag) 1 (pc' := 16) (lv' := [(0, .ref v0), (1, .int v1)]) (st' := [.int 60, .int z3]) rfl ?_
    refine x_eq e rfl (fun e => ?_) (fun e => ?_)
    · refine wp_p (j := J_Y_isTag) 4 (pc' := 25) (lv' := [(0, .ref v0), (1, .int v1)]) (st' := [.ref v0, .int (v1 + 1)]) rfl ?_
      refine x_gI e rfl rfl fd_12_76 rfl (fun z4 e => ?_)
      refine x_ge e rfl (fun e => ?_) (fun e => ?_)
      · refine wp_p (j := J_Y_isTag) 1 (pc' := 32) (lv' := [(0, .ref v0), (1, .int v1)]) (st' := [.ref v0]) rfl ?_
        refine x_gQ e rfl rfl fd_12_75 rfl (fun z5 e => ?_)
        refine wp_p (j := J_Y_isTag) 3 (pc' := 38) (lv' := [(0, .ref v0), (1, .int v1)]) (st' := [.int (v1 + 1), .ref z5]) rfl ?_
        refine x_aB e rfl (.inl rfl) rfl (fun z6 e => ?_)
        refine wp_p (j := J_Y_isTag) 1 (pc' := 41) (lv' := [(0, .ref v0), (1, .int v1)]) (st' := [.int 47, .int z6]) rfl ?_
        refine x_ne e rfl (fun e => ?_) (fun e => ?_)
        · refine wp_p (j := J_Y_isTag) 4 (pc' := 53) (lv' := [(0, .ref v0), (1, .int v1)]) (st' := [.int (v1 + 2)]) rfl ?_
          exact wp_lv (lv' := [(0, .ref v0)]) rfl ⟨rfl, trivial⟩ (x_Y_isTag_53 e c)
        · exact wp_lv (lv' := [(0, .ref v0), (1, .int v1)]) rfl ⟨rfl, rfl, trivial⟩ (x_Y_isTag_50 e c)
      · exact wp_lv (lv' := [(0, .ref v0), (1, .int v1)]) rfl ⟨rfl, rfl, trivial⟩ (x_Y_isTag_50 e c)
    · refine wp_p (j := J_Y_isTag) 1 (pc' := 20) (lv' := [(0, .ref v0), (1, .int v1)]) (st' := [.int 0]) rfl ?_
      have e := Option.some.inj e; subst e; exact wp_iret (ty := .boolean) rfl rfl (by decide) c
  · refine wp_p (j := J_Y_isTag) 1 (pc' := 20) (lv' := [(0, .ref v0), (1, .int v1)]) (st' := [.int 0]) rfl ?_
    have e := Option.some.inj e; subst e; exact wp_iret (ty := .boolean) rfl rfl (by decide) c
noncomputable def k_Y_tellFault_29 (v0 : Nat) (g : g_S) : Option g_S :=
  (rI g 112 v0 70).bind fun z1 =>
  (wI g 112 v0 70 (z1 + 1)).bind fun g2 =>
  some g2
set_option maxRecDepth 20000 in
theorem x_Y_tellFault_29 {L : Nat} {xs : Nat → Int32} {Q : Option Value → ab_H → Prop} {v0 : Nat} {g : g_S} {out : g_S} (e : k_Y_tellFault_29 v0 g = some out) (c : Q none (hp out)) : wp (ab_ext L xs) J_Y_tellFault 29 [(0, .ref v0)] [] (hp g) Q := by
  unfold k_Y_tellFault_29 at e
  refine wp_p (j := J_Y_tellFault) 2 (pc' := 31) (lv' := [(0, .ref v0)]) (st' := [.ref v0, .ref v0]) rfl ?_
  refine x_gI e rfl rfl fd_12_70 rfl (fun z1 e => ?_)
  refine wp_p (j := J_Y_tellFault) 2 (pc' := 36) (lv' := [(0, .ref v0)]) (st' := [.int (z1 + 1), .ref v0]) rfl ?_
  refine x_pI e rfl rfl fw_12_70 rfl (fun g2 e => ?_)
  have e := Option.some.inj e; subst e; exact wp_vret rfl rfl c
noncomputable def M_Y_tellFault (v0 : Nat) (v1 : Int32) (v2 : Int32) (g : g_S) : Option g_S :=
  (rI g 112 v0 70).bind fun z1 =>
  if z1 < 40 then
    (rQ g 112 v0 71).bind fun z2 =>
    (rI g 112 v0 70).bind fun z3 =>
    (sI g z2 z3 v1).bind fun g4 =>
    (rQ g4 112 v0 72).bind fun z5 =>
    (rI g4 112 v0 70).bind fun z6 =>
    (sI g4 z5 z6 v2).bind fun g7 =>
    k_Y_tellFault_29 v0 g7
  else
    k_Y_tellFault_29 v0 g
set_option maxRecDepth 20000 in
theorem d_Y_tellFault {L : Nat} {xs : Nat → Int32} {Q : Option Value → ab_H → Prop} {v0 : Nat} {v1 : Int32} {v2 : Int32} {g : g_S} {out : g_S} (e : M_Y_tellFault v0 v1 v2 g = some out) (c : Q none (hp out)) : mw (ab_ext L xs) J_Y_tellFault [.ref v0, .int v1, .int v2] (hp g) Q := by
  unfold M_Y_tellFault at e
  refine wp_p (j := J_Y_tellFault) 1 (pc' := 1) (lv' := [(0, .ref v0), (1, .int v1), (2, .int v2)]) (st' := [.ref v0]) rfl ?_
  refine x_gI e rfl rfl fd_12_70 rfl (fun z1 e => ?_)
  refine wp_p (j := J_Y_tellFault) 1 (pc' := 6) (lv' := [(0, .ref v0), (1, .int v1), (2, .int v2)]) (st' := [.int 40, .int z1]) rfl ?_
  refine x_ge e rfl (fun e => ?_) (fun e => ?_)
  · refine wp_p (j := J_Y_tellFault) 1 (pc' := 10) (lv' := [(0, .ref v0), (1, .int v1), (2, .int v2)]) (st' := [.ref v0]) rfl ?_
    refine x_gQ e rfl rfl fd_12_71 rfl (fun z2 e => ?_)
    refine wp_p (j := J_Y_tellFault) 1 (pc' := 14) (lv' := [(0, .ref v0), (1, .int v1), (2, .int v2)]) (st' := [.ref v0, .ref z2]) rfl ?_
    refine x_gI e rfl rfl fd_12_70 rfl (fun z3 e => ?_)
    refine wp_p (j := J_Y_tellFault) 1 (pc' := 18) (lv' := [(0, .ref v0), (1, .int v1), (2, .int v2)]) (st' := [.int v1, .int z3, .ref z2]) rfl ?_
    refine x_sI e rfl rfl (fun g4 e => ?_)
    refine wp_p (j := J_Y_tellFault) 1 (pc' := 20) (lv' := [(0, .ref v0), (1, .int v1), (2, .int v2)]) (st' := [.ref v0]) rfl ?_
    refine x_gQ e rfl rfl fd_12_72 rfl (fun z5 e => ?_)
    refine wp_p (j := J_Y_tellFault) 1 (pc' := 24) (lv' := [(0, .ref v0), (1, .int v1), (2, .int v2)]) (st' := [.ref v0, .ref z5]) rfl ?_
    refine x_gI e rfl rfl fd_12_70 rfl (fun z6 e => ?_)
    refine wp_p (j := J_Y_tellFault) 1 (pc' := 28) (lv' := [(0, .ref v0), (1, .int v1), (2, .int v2)]) (st' := [.int v2, .int z6, .ref z5]) rfl ?_
    refine x_sI e rfl rfl (fun g7 e => ?_)
    exact wp_lv (lv' := [(0, .ref v0)]) rfl ⟨rfl, trivial⟩ (x_Y_tellFault_29 e c)
  · exact wp_lv (lv' := [(0, .ref v0)]) rfl ⟨rfl, trivial⟩ (x_Y_tellFault_29 e c)
noncomputable def k_Y_entity_150 (v0 : Nat) (v1 : Nat) (v2 : Int32) (v3 : Int32) (v4 : Int32) (g : g_S) : Option (Int32 × g_S) :=
  if (v2 + 5) < v3 then
    (aI g 1 v1 (v2 + 1)).bind fun z1 =>
    if z1 = 113 then
      (aI g 1 v1 (v2 + 2)).bind fun z2 =>
      if z2 = 117 then
        (aI g 1 v1 (v2 + 3)).bind fun z3 =>
        if z3 = 111 then
          (aI g 1 v1 (v2 + 4)).bind fun z4 =>
          if z4 = 116 then
            (aI g 1 v1 (v2 + 5)).bind fun z5 =>
            if z5 = 59 then
              (wI g 112 v0 77 6).bind fun g6 =>
              some (34, g6)
            else
              some (v4, g)
          else
            some (v4, g)
        else
          some (v4, g)
      else
        some (v4, g)
    else
      some (v4, g)
  else
    some (v4, g)
set_option maxRecDepth 20000 in
theorem x_Y_entity_150 {L : Nat} {xs : Nat → Int32} {Q : Option Value → ab_H → Prop} {v0 : Nat} {v1 : Nat} {v2 : Int32} {v3 : Int32} {v4 : Int32} {g : g_S} {out : Int32 × g_S} (e : k_Y_entity_150 v0 v1 v2 v3 v4 g = some out) (c : Q (some (.int out.1)) (hp out.2)) : wp (ab_ext L xs) J_Y_entity 150 [(0, .ref v0), (1, .ref v1), (2, .int v2), (3, .int v3), (4, .int v4)] [] (hp g) Q := by
  unfold k_Y_entity_150 at e
  refine wp_p (j := J_Y_entity) 4 (pc' := 154) (lv' := [(0, .ref v0), (1, .ref v1), (2, .int v2), (3, .int v3), (4, .int v4)]) (st' := [.int v3, .int (v2 + 5)]) rfl ?_
  refine x_ge e rfl (fun e => ?_) (fun e => ?_)
  · refine wp_p (j := J_Y_entity) 4 (pc' := 161) (lv' := [(0, .ref v0), (1, .ref v1), (2, .int v2), (3, .int v3), (4, .int v4)]) (st' := [.int (v2 + 1), .ref v1]) rfl ?_
    refine x_aB e rfl (.inl rfl) rfl (fun z1 e => ?_)
    refine wp_p (j := J_Y_entity) 1 (pc' := 164) (lv' := [(0, .ref v0), (1, .ref v1), (2, .int v2), (3, .int v3), (4, .int v4)]) (st' := [.int 113, .int z1]) rfl ?_
    refine x_ne e rfl (fun e => ?_) (fun e => ?_)
    · refine wp_p (j := J_Y_entity) 4 (pc' := 171) (lv' := [(0, .ref v0), (1, .ref v1), (2, .int v2), (3, .int v3), (4, .int v4)]) (st' := [.int (v2 + 2), .ref v1]) rfl ?_
      refine x_aB e rfl (.inl rfl) rfl (fun z2 e => ?_)
      refine wp_p (j := J_Y_entity) 1 (pc' := 174) (lv' := [(0, .ref v0), (1, .ref v1), (2, .int v2), (3, .int v3), (4, .int v4)]) (st' := [.int 117, .int z2]) rfl ?_
      refine x_ne e rfl (fun e => ?_) (fun e => ?_)
      · refine wp_p (j := J_Y_entity) 4 (pc' := 181) (lv' := [(0, .ref v0), (1, .ref v1), (2, .int v2), (3, .int v3), (4, .int v4)]) (st' := [.int (v2 + 3), .ref v1]) rfl ?_
        refine x_aB e rfl (.inl rfl) rfl (fun z3 e => ?_)
        refine wp_p (j := J_Y_entity) 1 (pc' := 184) (lv' := [(0, .ref v0), (1, .ref v1), (2, .int v2), (3, .int v3), (4, .int v4)]) (st' := [.int 111, .int z3]) rfl ?_
        refine x_ne e rfl (fun e => ?_) (fun e => ?_)
        · refine wp_p (j := J_Y_entity) 4 (pc' := 191) (lv' := [(0, .ref v0), (1, .ref v1), (2, .int v2), (3, .int v3), (4, .int v4)]) (st' := [.int (v2 + 4), .ref v1]) rfl ?_
          refine x_aB e rfl (.inl rfl) rfl (fun z4 e => ?_)
          refine wp_p (j := J_Y_entity) 1 (pc' := 194) (lv' := [(0, .ref v0), (1, .ref v1), (2, .int v2), (3, .int v3), (4, .int v4)]) (st' := [.int 116, .int z4]) rfl ?_
          refine x_ne e rfl (fun e => ?_) (fun e => ?_)
          · refine wp_p (j := J_Y_entity) 4 (pc' := 201) (lv' := [(0, .ref v0), (1, .ref v1), (2, .int v2), (3, .int v3), (4, .int v4)]) (st' := [.int (v2 + 5), .ref v1]) rfl ?_
            refine x_aB e rfl (.inl rfl) rfl (fun z5 e => ?_)
            refine wp_p (j := J_Y_entity) 1 (pc' := 204) (lv' := [(0, .ref v0), (1, .ref v1), (2, .int v2), (3, .int v3), (4, .int v4)]) (st' := [.int 59, .int z5]) rfl ?_
            refine x_ne e rfl (fun e => ?_) (fun e => ?_)
            · refine wp_p (j := J_Y_entity) 2 (pc' := 210) (lv' := [(0, .ref v0), (1, .ref v1), (2, .int v2), (3, .int v3), (4, .int v4)]) (st' := [.int 6, .ref v0]) rfl ?_
              refine x_pI e rfl rfl fw_12_77 rfl (fun g6 e => ?_)
              refine wp_p (j := J_Y_entity) 3 (pc' := 219) (lv' := [(4, .int 34), (0, .ref v0), (1, .ref v1), (2, .int v2), (3, .int v3)]) (st' := [.int 34]) rfl ?_
              have e := Option.some.inj e; subst e; exact wp_iret (ty := .int) rfl rfl rfl c
            · refine wp_p (j := J_Y_entity) 1 (pc' := 219) (lv' := [(0, .ref v0), (1, .ref v1), (2, .int v2), (3, .int v3), (4, .int v4)]) (st' := [.int v4]) rfl ?_
              have e := Option.some.inj e; subst e; exact wp_iret (ty := .int) rfl rfl rfl c
          · refine wp_p (j := J_Y_entity) 1 (pc' := 219) (lv' := [(0, .ref v0), (1, .ref v1), (2, .int v2), (3, .int v3), (4, .int v4)]) (st' := [.int v4]) rfl ?_
            have e := Option.some.inj e; subst e; exact wp_iret (ty := .int) rfl rfl rfl c
        · refine wp_p (j := J_Y_entity) 1 (pc' := 219) (lv' := [(0, .ref v0), (1, .ref v1), (2, .int v2), (3, .int v3), (4, .int v4)]) (st' := [.int v4]) rfl ?_
          have e := Option.some.inj e; subst e; exact wp_iret (ty := .int) rfl rfl rfl c
      · refine wp_p (j := J_Y_entity) 1 (pc' := 219) (lv' := [(0, .ref v0), (1, .ref v1), (2, .int v2), (3, .int v3), (4, .int v4)]) (st' := [.int v4]) rfl ?_
        have e := Option.some.inj e; subst e; exact wp_iret (ty := .int) rfl rfl rfl c
    · refine wp_p (j := J_Y_entity) 1 (pc' := 219) (lv' := [(0, .ref v0), (1, .ref v1), (2, .int v2), (3, .int v3), (4, .int v4)]) (st' := [.int v4]) rfl ?_
      have e := Option.some.inj e; subst e; exact wp_iret (ty := .int) rfl rfl rfl c
  · refine wp_p (j := J_Y_entity) 1 (pc' := 219) (lv' := [(0, .ref v0), (1, .ref v1), (2, .int v2), (3, .int v3), (4, .int v4)]) (st' := [.int v4]) rfl ?_
    have e := Option.some.inj e; subst e; exact wp_iret (ty := .int) rfl rfl rfl c
noncomputable def k_Y_entity_95 (v0 : Nat) (v1 : Nat) (v2 : Int32) (v3 : Int32) (v4 : Int32) (g : g_S) : Option (Int32 × g_S) :=
  if (v2 + 4) < v3 then
    (aI g 1 v1 (v2 + 1)).bind fun z1 =>
    if z1 = 97 then
      (aI g 1 v1 (v2 + 2)).bind fun z2 =>
      if z2 = 109 then
        (aI g 1 v1 (v2 + 3)).bind fun z3 =>
        if z3 = 112 then
          (aI g 1 v1 (v2 + 4)).bind fun z4 =>
          if z4 = 59 then
            (wI g 112 v0 77 5).bind fun g5 =>
            some (v4, g5)
          else
            k_Y_entity_150 v0 v1 v2 v3 v4 g
        else
          k_Y_entity_150 v0 v1 v2 v3 v4 g
      else
        k_Y_entity_150 v0 v1 v2 v3 v4 g
    else
      k_Y_entity_150 v0 v1 v2 v3 v4 g
  else
    k_Y_entity_150 v0 v1 v2 v3 v4 g
set_option maxRecDepth 20000 in
theorem x_Y_entity_95 {L : Nat} {xs : Nat → Int32} {Q : Option Value → ab_H → Prop} {v0 : Nat} {v1 : Nat} {v2 : Int32} {v3 : Int32} {v4 : Int32} {g : g_S} {out : Int32 × g_S} (e : k_Y_entity_95 v0 v1 v2 v3 v4 g = some out) (c : Q (some (.int out.1)) (hp out.2)) : wp (ab_ext L xs) J_Y_entity 95 [(0, .ref v0), (1, .ref v1), (2, .int v2), (3, .int v3), (4, .int v4)] [] (hp g) Q := by
  unfold k_Y_entity_95 at e
  refine wp_p (j := J_Y_entity) 4 (pc' := 99) (lv' := [(0, .ref v0), (1, .ref v1), (2, .int v2), (3, .int v3), (4, .int v4)]) (st' := [.int v3, .int (v2 + 4)]) rfl ?_
  refine x_ge e rfl (fun e => ?_) (fun e => ?_)
  · refine wp_p (j := J_Y_entity) 4 (pc' := 106) (lv' := [(0, .ref v0), (1, .ref v1), (2, .int v2), (3, .int v3), (4, .int v4)]) (st' := [.int (v2 + 1), .ref v1]) rfl ?_
    refine x_aB e rfl (.inl rfl) rfl (fun z1 e => ?_)
    refine wp_p (j := J_Y_entity) 1 (pc' := 109) (lv' := [(0, .ref v0), (1, .ref v1), (2, .int v2), (3, .int v3), (4, .int v4)]) (st' := [.int 97, .int z1]) rfl ?_
    refine x_ne e rfl (fun e => ?_) (fun e => ?_)
    · refine wp_p (j := J_Y_entity) 4 (pc' := 116) (lv' := [(0, .ref v0), (1, .ref v1), (2, .int v2), (3, .int v3), (4, .int v4)]) (st' := [.int (v2 + 2), .ref v1]) rfl ?_
      refine x_aB e rfl (.inl rfl) rfl (fun z2 e => ?_)
      refine wp_p (j := J_Y_entity) 1 (pc' := 119) (lv' := [(0, .ref v0), (1, .ref v1), (2, .int v2), (3, .int v3), (4, .int v4)]) (st' := [.int 109, .int z2]) rfl ?_
      refine x_ne e rfl (fun e => ?_) (fun e => ?_)
      · refine wp_p (j := J_Y_entity) 4 (pc' := 126) (lv' := [(0, .ref v0), (1, .ref v1), (2, .int v2), (3, .int v3), (4, .int v4)]) (st' := [.int (v2 + 3), .ref v1]) rfl ?_
        refine x_aB e rfl (.inl rfl) rfl (fun z3 e => ?_)
        refine wp_p (j := J_Y_entity) 1 (pc' := 129) (lv' := [(0, .ref v0), (1, .ref v1), (2, .int v2), (3, .int v3), (4, .int v4)]) (st' := [.int 112, .int z3]) rfl ?_
        refine x_ne e rfl (fun e => ?_) (fun e => ?_)
        · refine wp_p (j := J_Y_entity) 4 (pc' := 136) (lv' := [(0, .ref v0), (1, .ref v1), (2, .int v2), (3, .int v3), (4, .int v4)]) (st' := [.int (v2 + 4), .ref v1]) rfl ?_
          refine x_aB e rfl (.inl rfl) rfl (fun z4 e => ?_)
          refine wp_p (j := J_Y_entity) 1 (pc' := 139) (lv' := [(0, .ref v0), (1, .ref v1), (2, .int v2), (3, .int v3), (4, .int v4)]) (st' := [.int 59, .int z4]) rfl ?_
          refine x_ne e rfl (fun e => ?_) (fun e => ?_)
          · refine wp_p (j := J_Y_entity) 2 (pc' := 144) (lv' := [(0, .ref v0), (1, .ref v1), (2, .int v2), (3, .int v3), (4, .int v4)]) (st' := [.int 5, .ref v0]) rfl ?_
            refine x_pI e rfl rfl fw_12_77 rfl (fun g5 e => ?_)
            refine wp_p (j := J_Y_entity) 2 (pc' := 219) (lv' := [(0, .ref v0), (1, .ref v1), (2, .int v2), (3, .int v3), (4, .int v4)]) (st' := [.int v4]) rfl ?_
            have e := Option.some.inj e; subst e; exact wp_iret (ty := .int) rfl rfl rfl c
          · exact wp_lv (lv' := [(0, .ref v0), (1, .ref v1), (2, .int v2), (3, .int v3), (4, .int v4)]) rfl ⟨rfl, rfl, rfl, rfl, rfl, trivial⟩ (x_Y_entity_150 e c)
        · exact wp_lv (lv' := [(0, .ref v0), (1, .ref v1), (2, .int v2), (3, .int v3), (4, .int v4)]) rfl ⟨rfl, rfl, rfl, rfl, rfl, trivial⟩ (x_Y_entity_150 e c)
      · exact wp_lv (lv' := [(0, .ref v0), (1, .ref v1), (2, .int v2), (3, .int v3), (4, .int v4)]) rfl ⟨rfl, rfl, rfl, rfl, rfl, trivial⟩ (x_Y_entity_150 e c)
    · exact wp_lv (lv' := [(0, .ref v0), (1, .ref v1), (2, .int v2), (3, .int v3), (4, .int v4)]) rfl ⟨rfl, rfl, rfl, rfl, rfl, trivial⟩ (x_Y_entity_150 e c)
  · exact wp_lv (lv' := [(0, .ref v0), (1, .ref v1), (2, .int v2), (3, .int v3), (4, .int v4)]) rfl ⟨rfl, rfl, rfl, rfl, rfl, trivial⟩ (x_Y_entity_150 e c)
noncomputable def k_Y_entity_68 (v0 : Nat) (v1 : Nat) (v2 : Int32) (g : g_S) : Option (Int32 × g_S) :=
  (wI g 112 v0 77 4).bind fun g1 =>
  (aI g1 1 v1 (v2 + 1)).bind fun z2 =>
  if z2 = 108 then
    some (60, g1)
  else
    some (62, g1)
set_option maxRecDepth 20000 in
theorem x_Y_entity_68 {L : Nat} {xs : Nat → Int32} {Q : Option Value → ab_H → Prop} {v0 : Nat} {v1 : Nat} {v2 : Int32} {g : g_S} {out : Int32 × g_S} (e : k_Y_entity_68 v0 v1 v2 g = some out) (c : Q (some (.int out.1)) (hp out.2)) : wp (ab_ext L xs) J_Y_entity 68 [(0, .ref v0), (1, .ref v1), (2, .int v2)] [] (hp g) Q := by
  unfold k_Y_entity_68 at e
  refine wp_p (j := J_Y_entity) 2 (pc' := 70) (lv' := [(0, .ref v0), (1, .ref v1), (2, .int v2)]) (st' := [.int 4, .ref v0]) rfl ?_
  refine x_pI e rfl rfl fw_12_77 rfl (fun g1 e => ?_)
  refine wp_p (j := J_Y_entity) 4 (pc' := 77) (lv' := [(0, .ref v0), (1, .ref v1), (2, .int v2)]) (st' := [.int (v2 + 1), .ref v1]) rfl ?_
  refine x_aB e rfl (.inl rfl) rfl (fun z2 e => ?_)
  refine wp_p (j := J_Y_entity) 1 (pc' := 80) (lv' := [(0, .ref v0), (1, .ref v1), (2, .int v2)]) (st' := [.int 108, .int z2]) rfl ?_
  refine x_ne e rfl (fun e => ?_) (fun e => ?_)
  · refine wp_p (j := J_Y_entity) 5 (pc' := 219) (lv' := [(4, .int 60), (0, .ref v0), (1, .ref v1), (2, .int v2)]) (st' := [.int 60]) rfl ?_
    have e := Option.some.inj e; subst e; exact wp_iret (ty := .int) rfl rfl rfl c
  · refine wp_p (j := J_Y_entity) 4 (pc' := 219) (lv' := [(4, .int 62), (0, .ref v0), (1, .ref v1), (2, .int v2)]) (st' := [.int 62]) rfl ?_
    have e := Option.some.inj e; subst e; exact wp_iret (ty := .int) rfl rfl rfl c
noncomputable def M_Y_entity (v0 : Nat) (v1 : Nat) (v2 : Int32) (v3 : Int32) (g : g_S) : Option (Int32 × g_S) :=
  (wI g 112 v0 77 1).bind fun g1 =>
  (aI g1 1 v1 v2).bind fun z2 =>
  if z2 = 38 then
    if (v2 + 3) < v3 then
      (aI g1 1 v1 (v2 + 2)).bind fun z3 =>
      if z3 = 116 then
        (aI g1 1 v1 (v2 + 3)).bind fun z4 =>
        if z4 = 59 then
          (aI g1 1 v1 (v2 + 1)).bind fun z5 =>
          if z5 = 108 then
            k_Y_entity_68 v0 v1 v2 g1
          else
            (aI g1 1 v1 (v2 + 1)).bind fun z6 =>
            if z6 = 103 then
              k_Y_entity_68 v0 v1 v2 g1
            else
              k_Y_entity_95 v0 v1 v2 v3 38 g1
        else
          k_Y_entity_95 v0 v1 v2 v3 38 g1
      else
        k_Y_entity_95 v0 v1 v2 v3 38 g1
    else
      k_Y_entity_95 v0 v1 v2 v3 38 g1
  else
    (aI g1 1 v1 v2).bind fun z7 =>
    some (z7, g1)
set_option maxRecDepth 20000 in
theorem d_Y_entity {L : Nat} {xs : Nat → Int32} {Q : Option Value → ab_H → Prop} {v0 : Nat} {v1 : Nat} {v2 : Int32} {v3 : Int32} {g : g_S} {out : Int32 × g_S} (e : M_Y_entity v0 v1 v2 v3 g = some out) (c : Q (some (.int out.1)) (hp out.2)) : mw (ab_ext L xs) J_Y_entity [.ref v0, .ref v1, .int v2, .int v3] (hp g) Q := by
  unfold M_Y_entity at e
  refine wp_p (j := J_Y_entity) 2 (pc' := 2) (lv' := [(0, .ref v0), (1, .ref v1), (2, .int v2), (3, .int v3)]) (st' := [.int 1, .ref v0]) rfl ?_
  refine x_pI e rfl rfl fw_12_77 rfl (fun g1 e => ?_)
  refine wp_p (j := J_Y_entity) 2 (pc' := 7) (lv' := [(0, .ref v0), (1, .ref v1), (2, .int v2), (3, .int v3)]) (st' := [.int v2, .ref v1]) rfl ?_
  refine x_aB e rfl (.inl rfl) rfl (fun z2 e => ?_)
  refine wp_p (j := J_Y_entity) 1 (pc' := 10) (lv' := [(0, .ref v0), (1, .ref v1), (2, .int v2), (3, .int v3)]) (st' := [.int 38, .int z2]) rfl ?_
  refine x_eq e rfl (fun e => ?_) (fun e => ?_)
  · refine wp_p (j := J_Y_entity) 6 (pc' := 25) (lv' := [(4, .int 38), (0, .ref v0), (1, .ref v1), (2, .int v2), (3, .int v3)]) (st' := [.int v3, .int (v2 + 3)]) rfl ?_
    refine x_ge e rfl (fun e => ?_) (fun e => ?_)
    · refine wp_p (j := J_Y_entity) 4 (pc' := 32) (lv' := [(4, .int 38), (0, .ref v0), (1, .ref v1), (2, .int v2), (3, .int v3)]) (st' := [.int (v2 + 2), .ref v1]) rfl ?_
      refine x_aB e rfl (.inl rfl) rfl (fun z3 e => ?_)
      refine wp_p (j := J_Y_entity) 1 (pc' := 35) (lv' := [(4, .int 38), (0, .ref v0), (1, .ref v1), (2, .int v2), (3, .int v3)]) (st' := [.int 116, .int z3]) rfl ?_
      refine x_ne e rfl (fun e => ?_) (fun e => ?_)
      · refine wp_p (j := J_Y_entity) 4 (pc' := 42) (lv' := [(4, .int 38), (0, .ref v0), (1, .ref v1), (2, .int v2), (3, .int v3)]) (st' := [.int (v2 + 3), .ref v1]) rfl ?_
        refine x_aB e rfl (.inl rfl) rfl (fun z4 e => ?_)
        refine wp_p (j := J_Y_entity) 1 (pc' := 45) (lv' := [(4, .int 38), (0, .ref v0), (1, .ref v1), (2, .int v2), (3, .int v3)]) (st' := [.int 59, .int z4]) rfl ?_
        refine x_ne e rfl (fun e => ?_) (fun e => ?_)
        · refine wp_p (j := J_Y_entity) 4 (pc' := 52) (lv' := [(4, .int 38), (0, .ref v0), (1, .ref v1), (2, .int v2), (3, .int v3)]) (st' := [.int (v2 + 1), .ref v1]) rfl ?_
          refine x_aB e rfl (.inl rfl) rfl (fun z5 e => ?_)
          refine wp_p (j := J_Y_entity) 1 (pc' := 55) (lv' := [(4, .int 38), (0, .ref v0), (1, .ref v1), (2, .int v2), (3, .int v3)]) (st' := [.int 108, .int z5]) rfl ?_
          refine x_eq e rfl (fun e => ?_) (fun e => ?_)
          · exact wp_lv (lv' := [(0, .ref v0), (1, .ref v1), (2, .int v2)]) rfl ⟨rfl, rfl, rfl, trivial⟩ (x_Y_entity_68 e c)
          · refine wp_p (j := J_Y_entity) 4 (pc' := 62) (lv' := [(4, .int 38), (0, .ref v0), (1, .ref v1), (2, .int v2), (3, .int v3)]) (st' := [.int (v2 + 1), .ref v1]) rfl ?_
            refine x_aB e rfl (.inl rfl) rfl (fun z6 e => ?_)
            refine wp_p (j := J_Y_entity) 1 (pc' := 65) (lv' := [(4, .int 38), (0, .ref v0), (1, .ref v1), (2, .int v2), (3, .int v3)]) (st' := [.int 103, .int z6]) rfl ?_
            refine x_ne e rfl (fun e => ?_) (fun e => ?_)
            · exact wp_lv (lv' := [(0, .ref v0), (1, .ref v1), (2, .int v2)]) rfl ⟨rfl, rfl, rfl, trivial⟩ (x_Y_entity_68 e c)
            · exact wp_lv (lv' := [(0, .ref v0), (1, .ref v1), (2, .int v2), (3, .int v3), (4, .int 38)]) rfl ⟨rfl, rfl, rfl, rfl, rfl, trivial⟩ (x_Y_entity_95 e c)
        · exact wp_lv (lv' := [(0, .ref v0), (1, .ref v1), (2, .int v2), (3, .int v3), (4, .int 38)]) rfl ⟨rfl, rfl, rfl, rfl, rfl, trivial⟩ (x_Y_entity_95 e c)
      · exact wp_lv (lv' := [(0, .ref v0), (1, .ref v1), (2, .int v2), (3, .int v3), (4, .int 38)]) rfl ⟨rfl, rfl, rfl, rfl, rfl, trivial⟩ (x_Y_entity_95 e c)
    · exact wp_lv (lv' := [(0, .ref v0), (1, .ref v1), (2, .int v2), (3, .int v3), (4, .int 38)]) rfl ⟨rfl, rfl, rfl, rfl, rfl, trivial⟩ (x_Y_entity_95 e c)
  · refine wp_p (j := J_Y_entity) 2 (pc' := 15) (lv' := [(0, .ref v0), (1, .ref v1), (2, .int v2), (3, .int v3)]) (st' := [.int v2, .ref v1]) rfl ?_
    refine x_aB e rfl (.inl rfl) rfl (fun z7 e => ?_)
    have e := Option.some.inj e; subst e; exact wp_iret (ty := .int) rfl rfl rfl c
def cL_Y_run_8 (L : Nat) (xs : Nat → Int32) (Q : Option Value → ab_H → Prop) (v0 : Nat) (v1 : Int32) (v2 : Int32) (g : g_S) (out : (Int32 × Int32 × Int32) ⊕ (Int32 × Int32)) : Prop := match out with
  | .inl s => wp (ab_ext L xs) J_Y_run 8 [(0, .ref v0), (1, .int v1), (2, .int v2), (3, .int s.1), (4, .int s.2.1), (5, .int s.2.2)] [] (hp g) Q
  | .inr s => wp (ab_ext L xs) J_Y_run 89 [(0, .ref v0), (1, .int v1), (2, .int v2), (3, .int s.1), (4, .int s.2)] [] (hp g) Q
noncomputable def k_Y_run_35 (v0 : Nat) (v1 : Int32) (v2 : Int32) (v3 : Int32) (w0 : Int32) (g : g_S) : Option ((Int32 × Int32 × Int32) ⊕ (Int32 × Int32)) :=
  (rI g 112 v0 76).bind fun z1 =>
  if (v3 + 1) < z1 then
    if v2 = 0 then
      (vc g 112 v0 (M_Y_isNote v0 (v3 + 1) g)).bind fun z2 =>
      if z2 = 0 then
        (vc g 112 v0 (M_Y_isTag v0 (v3 + 1) g)).bind fun z3 =>
        if z3 = 0 then
          some (.inl (v3 + 1, w0, 1))
        else
          some (.inl (v3 + 1, w0, 0))
      else
        some (.inl (v3 + 1, w0, 0))
    else
      (vc g 112 v0 (M_Y_endsStyle v0 (v3 + 1) g)).bind fun z4 =>
      if z4 = 0 then
        some (.inl (v3 + 1, w0, 1))
      else
        some (.inl (v3 + 1, w0, 0))
  else
    some (.inl (v3 + 1, w0, 0))
set_option maxRecDepth 20000 in
theorem x_Y_run_35 {L : Nat} {xs : Nat → Int32} {Q : Option Value → ab_H → Prop} {v0 : Nat} {v1 : Int32} {v2 : Int32} {v3 : Int32} {w0 : Int32} {g : g_S} {out : (Int32 × Int32 × Int32) ⊕ (Int32 × Int32)} (e : k_Y_run_35 v0 v1 v2 v3 w0 g = some out) (c : cL_Y_run_8 L xs Q v0 v1 v2 g out) : wp (ab_ext L xs) J_Y_run 35 [(0, .ref v0), (1, .int v1), (2, .int v2), (3, .int v3)] [.int w0] (hp g) Q := by
  unfold k_Y_run_35 at e
  refine wp_p (j := J_Y_run) 4 (pc' := 42) (lv' := [(3, .int (v3 + 1)), (4, .int w0), (0, .ref v0), (1, .int v1), (2, .int v2)]) (st' := [.ref v0, .int (v3 + 1)]) rfl ?_
  refine x_gI e rfl rfl fd_12_76 rfl (fun z1 e => ?_)
  refine x_ge e rfl (fun e => ?_) (fun e => ?_)
  · refine wp_p (j := J_Y_run) 1 (pc' := 49) (lv' := [(3, .int (v3 + 1)), (4, .int w0), (0, .ref v0), (1, .int v1), (2, .int v2)]) (st' := [.int v2]) rfl ?_
    refine z_eq e rfl (fun e => ?_) (fun e => ?_)
    · refine wp_p (j := J_Y_run) 2 (pc' := 65) (lv' := [(3, .int (v3 + 1)), (4, .int w0), (0, .ref v0), (1, .int v1), (2, .int v2)]) (st' := [.int (v3 + 1), .ref v0]) rfl ?_
      refine x_cv1 (As := [.int (v3 + 1)]) (rest := []) Value.int e rfl rfl rfl rfl rfl rfl (fun h => d_Y_isNote h ⟨rfl, rfl⟩) (fun z2 e => ?_)
      refine z_ne e rfl (fun e => ?_) (fun e => ?_)
      · refine wp_p (j := J_Y_run) 2 (pc' := 73) (lv' := [(3, .int (v3 + 1)), (4, .int w0), (0, .ref v0), (1, .int v1), (2, .int v2)]) (st' := [.int (v3 + 1), .ref v0]) rfl ?_
        refine x_cv1 (As := [.int (v3 + 1)]) (rest := []) Value.int e rfl rfl rfl rfl rfl rfl (fun h => d_Y_isTag h ⟨rfl, rfl⟩) (fun z3 e => ?_)
        refine z_ne e rfl (fun e => ?_) (fun e => ?_)
        · refine wp_p (j := J_Y_run) 4 (pc' := 8) (lv' := [(5, .int 1), (3, .int (v3 + 1)), (4, .int w0), (0, .ref v0), (1, .int v1), (2, .int v2)]) (st' := []) rfl ?_
          have e := Option.some.inj e; subst e; exact wp_lv (lv' := [(0, .ref v0), (1, .int v1), (2, .int v2), (3, .int (v3 + 1)), (4, .int w0), (5, .int 1)]) rfl ⟨rfl, rfl, rfl, rfl, rfl, rfl, trivial⟩ c
        · refine wp_p (j := J_Y_run) 3 (pc' := 8) (lv' := [(5, .int 0), (3, .int (v3 + 1)), (4, .int w0), (0, .ref v0), (1, .int v1), (2, .int v2)]) (st' := []) rfl ?_
          have e := Option.some.inj e; subst e; exact wp_lv (lv' := [(0, .ref v0), (1, .int v1), (2, .int v2), (3, .int (v3 + 1)), (4, .int w0), (5, .int 0)]) rfl ⟨rfl, rfl, rfl, rfl, rfl, rfl, trivial⟩ c
      · refine wp_p (j := J_Y_run) 3 (pc' := 8) (lv' := [(5, .int 0), (3, .int (v3 + 1)), (4, .int w0), (0, .ref v0), (1, .int v1), (2, .int v2)]) (st' := []) rfl ?_
        have e := Option.some.inj e; subst e; exact wp_lv (lv' := [(0, .ref v0), (1, .int v1), (2, .int v2), (3, .int (v3 + 1)), (4, .int w0), (5, .int 0)]) rfl ⟨rfl, rfl, rfl, rfl, rfl, rfl, trivial⟩ c
    · refine wp_p (j := J_Y_run) 2 (pc' := 54) (lv' := [(3, .int (v3 + 1)), (4, .int w0), (0, .ref v0), (1, .int v1), (2, .int v2)]) (st' := [.int (v3 + 1), .ref v0]) rfl ?_
      refine x_cv1 (As := [.int (v3 + 1)]) (rest := []) Value.int e rfl rfl rfl rfl rfl rfl (fun h => d_Y_endsStyle h ⟨rfl, rfl⟩) (fun z4 e => ?_)
      refine z_ne e rfl (fun e => ?_) (fun e => ?_)
      · refine wp_p (j := J_Y_run) 5 (pc' := 8) (lv' := [(5, .int 1), (3, .int (v3 + 1)), (4, .int w0), (0, .ref v0), (1, .int v1), (2, .int v2)]) (st' := []) rfl ?_
        have e := Option.some.inj e; subst e; exact wp_lv (lv' := [(0, .ref v0), (1, .int v1), (2, .int v2), (3, .int (v3 + 1)), (4, .int w0), (5, .int 1)]) rfl ⟨rfl, rfl, rfl, rfl, rfl, rfl, trivial⟩ c
      · refine wp_p (j := J_Y_run) 3 (pc' := 8) (lv' := [(5, .int 0), (3, .int (v3 + 1)), (4, .int w0), (0, .ref v0), (1, .int v1), (2, .int v2)]) (st' := []) rfl ?_
        have e := Option.some.inj e; subst e; exact wp_lv (lv' := [(0, .ref v0), (1, .int v1), (2, .int v2), (3, .int (v3 + 1)), (4, .int w0), (5, .int 0)]) rfl ⟨rfl, rfl, rfl, rfl, rfl, rfl, trivial⟩ c
  · refine wp_p (j := J_Y_run) 3 (pc' := 8) (lv' := [(5, .int 0), (3, .int (v3 + 1)), (4, .int w0), (0, .ref v0), (1, .int v1), (2, .int v2)]) (st' := []) rfl ?_
    have e := Option.some.inj e; subst e; exact wp_lv (lv' := [(0, .ref v0), (1, .int v1), (2, .int v2), (3, .int (v3 + 1)), (4, .int w0), (5, .int 0)]) rfl ⟨rfl, rfl, rfl, rfl, rfl, rfl, trivial⟩ c
noncomputable def k_Y_run_34 (v0 : Nat) (v1 : Int32) (v2 : Int32) (v3 : Int32) (g : g_S) : Option ((Int32 × Int32 × Int32) ⊕ (Int32 × Int32)) :=
  k_Y_run_35 v0 v1 v2 v3 0 g
set_option maxRecDepth 20000 in
theorem x_Y_run_34 {L : Nat} {xs : Nat → Int32} {Q : Option Value → ab_H → Prop} {v0 : Nat} {v1 : Int32} {v2 : Int32} {v3 : Int32} {g : g_S} {out : (Int32 × Int32 × Int32) ⊕ (Int32 × Int32)} (e : k_Y_run_34 v0 v1 v2 v3 g = some out) (c : cL_Y_run_8 L xs Q v0 v1 v2 g out) : wp (ab_ext L xs) J_Y_run 34 [(0, .ref v0), (1, .int v1), (2, .int v2), (3, .int v3)] [] (hp g) Q := by
  unfold k_Y_run_34 at e
  refine wp_p (j := J_Y_run) 1 (pc' := 35) (lv' := [(0, .ref v0), (1, .int v1), (2, .int v2), (3, .int v3)]) (st' := [.int 0]) rfl ?_
  exact wp_lv (lv' := [(0, .ref v0), (1, .int v1), (2, .int v2), (3, .int v3)]) rfl ⟨rfl, rfl, rfl, rfl, trivial⟩ (x_Y_run_35 e c)
noncomputable def b_Y_run_8 (v0 : Nat) (v1 : Int32) (v2 : Int32) (v3 : Int32) (v4 : Int32) (v5 : Int32) (g : g_S) : Option ((Int32 × Int32 × Int32) ⊕ (Int32 × Int32)) :=
  if v5 = 0 then
    some (.inr (v3, v4))
  else
    if v4 = 0 then
      k_Y_run_34 v0 v1 v2 v3 g
    else
      (rQ g 112 v0 75).bind fun z1 =>
      (aI g 1 z1 v3).bind fun z2 =>
      (M_Y_isBlank z2 g).bind fun z3 =>
      if z3 = 0 then
        k_Y_run_34 v0 v1 v2 v3 g
      else
        k_Y_run_35 v0 v1 v2 v3 1 g
set_option maxRecDepth 20000 in
theorem y_Y_run_8 {L : Nat} {xs : Nat → Int32} {Q : Option Value → ab_H → Prop} {v0 : Nat} {v1 : Int32} {v2 : Int32} {v3 : Int32} {v4 : Int32} {v5 : Int32} {g : g_S} {out : (Int32 × Int32 × Int32) ⊕ (Int32 × Int32)} (e : b_Y_run_8 v0 v1 v2 v3 v4 v5 g = some out) (c : cL_Y_run_8 L xs Q v0 v1 v2 g out) : wp (ab_ext L xs) J_Y_run 8 [(0, .ref v0), (1, .int v1), (2, .int v2), (3, .int v3), (4, .int v4), (5, .int v5)] [] (hp g) Q := by
  unfold b_Y_run_8 at e
  refine wp_p (j := J_Y_run) 1 (pc' := 10) (lv' := [(0, .ref v0), (1, .int v1), (2, .int v2), (3, .int v3), (4, .int v4), (5, .int v5)]) (st' := [.int v5]) rfl ?_
  refine z_eq e rfl (fun e => ?_) (fun e => ?_)
  · have e := Option.some.inj e; subst e; exact wp_lv (lv' := [(0, .ref v0), (1, .int v1), (2, .int v2), (3, .int v3), (4, .int v4)]) rfl ⟨rfl, rfl, rfl, rfl, rfl, trivial⟩ c
  · refine wp_p (j := J_Y_run) 1 (pc' := 15) (lv' := [(0, .ref v0), (1, .int v1), (2, .int v2), (3, .int v3), (4, .int v4), (5, .int v5)]) (st' := [.int v4]) rfl ?_
    refine z_eq e rfl (fun e => ?_) (fun e => ?_)
    · exact wp_lv (lv' := [(0, .ref v0), (1, .int v1), (2, .int v2), (3, .int v3)]) rfl ⟨rfl, rfl, rfl, rfl, trivial⟩ (x_Y_run_34 e c)
    · refine wp_p (j := J_Y_run) 1 (pc' := 19) (lv' := [(0, .ref v0), (1, .int v1), (2, .int v2), (3, .int v3), (4, .int v4), (5, .int v5)]) (st' := [.ref v0]) rfl ?_
      refine x_gQ e rfl rfl fd_12_75 rfl (fun z1 e => ?_)
      refine wp_p (j := J_Y_run) 1 (pc' := 23) (lv' := [(0, .ref v0), (1, .int v1), (2, .int v2), (3, .int v3), (4, .int v4), (5, .int v5)]) (st' := [.int v3, .ref z1]) rfl ?_
      refine x_aB e rfl (.inl rfl) rfl (fun z2 e => ?_)
      refine x_cs1 (As := [.int z2]) (rest := []) Value.int e rfl rfl rfl rfl rfl (fun h => d_Y_isBlank h ⟨rfl, rfl⟩) (fun z3 e => ?_)
      refine z_eq e rfl (fun e => ?_) (fun e => ?_)
      · exact wp_lv (lv' := [(0, .ref v0), (1, .int v1), (2, .int v2), (3, .int v3)]) rfl ⟨rfl, rfl, rfl, rfl, trivial⟩ (x_Y_run_34 e c)
      · refine wp_p (j := J_Y_run) 2 (pc' := 35) (lv' := [(0, .ref v0), (1, .int v1), (2, .int v2), (3, .int v3), (4, .int v4), (5, .int v5)]) (st' := [.int 1]) rfl ?_
        exact wp_lv (lv' := [(0, .ref v0), (1, .int v1), (2, .int v2), (3, .int v3)]) rfl ⟨rfl, rfl, rfl, rfl, trivial⟩ (x_Y_run_35 e c)
noncomputable def L_Y_run_8 (v0 : Nat) (v1 : Int32) (v2 : Int32) (v3 : Int32) (v4 : Int32) (v5 : Int32) (g : g_S) : Option (Int32 × Int32) := it (fun s : Int32 × Int32 × Int32 => b_Y_run_8 v0 v1 v2 s.1 s.2.1 s.2.2 g) (v3, v4, v5)
theorem l_Y_run_8 {L : Nat} {xs : Nat → Int32} {Q : Option Value → ab_H → Prop} {v0 : Nat} {v1 : Int32} {v2 : Int32} {v3 : Int32} {v4 : Int32} {v5 : Int32} {g : g_S} {r : Int32 × Int32} (e : L_Y_run_8 v0 v1 v2 v3 v4 v5 g = some r) (c : cL_Y_run_8 L xs Q v0 v1 v2 g (.inr r)) : wp (ab_ext L xs) J_Y_run 8 [(0, .ref v0), (1, .int v1), (2, .int v2), (3, .int v3), (4, .int v4), (5, .int v5)] [] (hp g) Q :=
  it_wp (P := fun s : Int32 × Int32 × Int32 => wp (ab_ext L xs) J_Y_run 8 [(0, .ref v0), (1, .int v1), (2, .int v2), (3, .int s.1), (4, .int s.2.1), (5, .int s.2.2)] [] (hp g) Q) (E := fun r => cL_Y_run_8 L xs Q v0 v1 v2 g (.inr r)) (fun s out e c => y_Y_run_8 e (by cases out <;> exact c)) e c
theorem L_Y_run_8_eq (v0 : Nat) (v1 : Int32) (v2 : Int32) (v3 : Int32) (v4 : Int32) (v5 : Int32) (g : g_S) : L_Y_run_8 v0 v1 v2 v3 v4 v5 g = itc (b_Y_run_8 v0 v1 v2 v3 v4 v5 g) (fun s => L_Y_run_8 v0 v1 v2 s.1 s.2.1 s.2.2 g) := it_eq2 (fun s : Int32 × Int32 × Int32 => b_Y_run_8 v0 v1 v2 s.1 s.2.1 s.2.2 g) (v3, v4, v5)
def cL_Y_run_188 (L : Nat) (xs : Nat → Int32) (Q : Option Value → ab_H → Prop) (v0 : Nat) (v2 : Int32) (v3 : Int32) (v7 : Int32) (out : (Int32 × g_S) ⊕ (g_S)) : Prop := match out with
  | .inl s => wp (ab_ext L xs) J_Y_run 188 [(0, .ref v0), (2, .int v2), (3, .int v3), (7, .int v7), (9, .int s.1)] [] (hp s.2) Q
  | .inr s => wp (ab_ext L xs) J_Y_run 313 [(3, .int v3)] [] (hp s) Q
noncomputable def k_Y_run_301 (v0 : Nat) (v2 : Int32) (v3 : Int32) (v7 : Int32) (v9 : Int32) (g : g_S) : Option ((Int32 × g_S) ⊕ (g_S)) :=
  (rI g 112 v0 77).bind fun z1 =>
  some (.inl (v9 + z1, g))
set_option maxRecDepth 20000 in
theorem x_Y_run_301 {L : Nat} {xs : Nat → Int32} {Q : Option Value → ab_H → Prop} {v0 : Nat} {v2 : Int32} {v3 : Int32} {v7 : Int32} {v9 : Int32} {g : g_S} {out : (Int32 × g_S) ⊕ (g_S)} (e : k_Y_run_301 v0 v2 v3 v7 v9 g = some out) (c : cL_Y_run_188 L xs Q v0 v2 v3 v7 out) : wp (ab_ext L xs) J_Y_run 301 [(0, .ref v0), (2, .int v2), (3, .int v3), (7, .int v7), (9, .int v9)] [] (hp g) Q := by
  unfold k_Y_run_301 at e
  refine wp_p (j := J_Y_run) 2 (pc' := 304) (lv' := [(0, .ref v0), (2, .int v2), (3, .int v3), (7, .int v7), (9, .int v9)]) (st' := [.ref v0, .int v9]) rfl ?_
  refine x_gI e rfl rfl fd_12_77 rfl (fun z1 e => ?_)
  refine wp_p (j := J_Y_run) 3 (pc' := 188) (lv' := [(9, .int (v9 + z1)), (0, .ref v0), (2, .int v2), (3, .int v3), (7, .int v7)]) (st' := []) rfl ?_
  have e := Option.some.inj e; subst e; exact wp_lv (lv' := [(0, .ref v0), (2, .int v2), (3, .int v3), (7, .int v7), (9, .int (v9 + z1))]) rfl ⟨rfl, rfl, rfl, rfl, rfl, trivial⟩ c
noncomputable def k_Y_run_224 (v0 : Nat) (v2 : Int32) (v3 : Int32) (v7 : Int32) (v9 : Int32) (w0 : Int32) (g : g_S) : Option ((Int32 × g_S) ⊕ (g_S)) :=
  (rQ g 112 v0 62).bind fun z1 =>
  (aI g 0 z1 v7).bind fun z2 =>
  if z2 < 400 then
    (rQ g 112 v0 61).bind fun z3 =>
    (rQ g 112 v0 62).bind fun z4 =>
    (aI g 0 z4 v7).bind fun z5 =>
    (sB g z3 ((400 * v7) + z5) ((Int32.toInt8 w0).toInt32)).bind fun g6 =>
    (rQ g6 112 v0 62).bind fun z7 =>
    (aI g6 0 z7 v7).bind fun z8 =>
    (sI g6 z7 v7 (z8 + 1)).bind fun g9 =>
    k_Y_run_301 v0 v2 v3 v7 v9 g9
  else
    (rQ g 112 v0 63).bind fun z10 =>
    (aI g 2 z10 v7).bind fun z11 =>
    if z11 = 0 then
      (rQ g 112 v0 63).bind fun z12 =>
      (sZ g z12 v7 1).bind fun g13 =>
      (vc g13 112 v0 (M_Y_tellFault v0 7 v9 g13)).bind fun g14 =>
      k_Y_run_301 v0 v2 v3 v7 v9 g14
    else
      k_Y_run_301 v0 v2 v3 v7 v9 g
set_option maxRecDepth 20000 in
theorem x_Y_run_224 {L : Nat} {xs : Nat → Int32} {Q : Option Value → ab_H → Prop} {v0 : Nat} {v2 : Int32} {v3 : Int32} {v7 : Int32} {v9 : Int32} {w0 : Int32} {g : g_S} {out : (Int32 × g_S) ⊕ (g_S)} (e : k_Y_run_224 v0 v2 v3 v7 v9 w0 g = some out) (c : cL_Y_run_188 L xs Q v0 v2 v3 v7 out) : wp (ab_ext L xs) J_Y_run 224 [(0, .ref v0), (2, .int v2), (3, .int v3), (7, .int v7), (9, .int v9)] [.int w0] (hp g) Q := by
  unfold k_Y_run_224 at e
  refine wp_p (j := J_Y_run) 2 (pc' := 227) (lv' := [(10, .int w0), (0, .ref v0), (2, .int v2), (3, .int v3), (7, .int v7), (9, .int v9)]) (st' := [.ref v0]) rfl ?_
  refine x_gQ e rfl rfl fd_12_62 rfl (fun z1 e => ?_)
  refine wp_p (j := J_Y_run) 1 (pc' := 232) (lv' := [(10, .int w0), (0, .ref v0), (2, .int v2), (3, .int v3), (7, .int v7), (9, .int v9)]) (st' := [.int v7, .ref z1]) rfl ?_
  refine x_aI e rfl rfl (fun z2 e => ?_)
  refine wp_p (j := J_Y_run) 1 (pc' := 236) (lv' := [(10, .int w0), (0, .ref v0), (2, .int v2), (3, .int v3), (7, .int v7), (9, .int v9)]) (st' := [.int 400, .int z2]) rfl ?_
  refine x_ge e rfl (fun e => ?_) (fun e => ?_)
  · refine wp_p (j := J_Y_run) 1 (pc' := 240) (lv' := [(10, .int w0), (0, .ref v0), (2, .int v2), (3, .int v3), (7, .int v7), (9, .int v9)]) (st' := [.ref v0]) rfl ?_
    refine x_gQ e rfl rfl fd_12_61 rfl (fun z3 e => ?_)
    refine wp_p (j := J_Y_run) 4 (pc' := 250) (lv' := [(10, .int w0), (0, .ref v0), (2, .int v2), (3, .int v3), (7, .int v7), (9, .int v9)]) (st' := [.ref v0, .int (400 * v7), .ref z3]) rfl ?_
    refine x_gQ e rfl rfl fd_12_62 rfl (fun z4 e => ?_)
    refine wp_p (j := J_Y_run) 1 (pc' := 255) (lv' := [(10, .int w0), (0, .ref v0), (2, .int v2), (3, .int v3), (7, .int v7), (9, .int v9)]) (st' := [.int v7, .ref z4, .int (400 * v7), .ref z3]) rfl ?_
    refine x_aI e rfl rfl (fun z5 e => ?_)
    refine wp_p (j := J_Y_run) 3 (pc' := 260) (lv' := [(10, .int w0), (0, .ref v0), (2, .int v2), (3, .int v3), (7, .int v7), (9, .int v9)]) (st' := [.int ((Int32.toInt8 w0).toInt32), .int ((400 * v7) + z5), .ref z3]) rfl ?_
    refine x_sB e rfl rfl (fun g6 e => ?_)
    refine wp_p (j := J_Y_run) 1 (pc' := 262) (lv' := [(10, .int w0), (0, .ref v0), (2, .int v2), (3, .int v3), (7, .int v7), (9, .int v9)]) (st' := [.ref v0]) rfl ?_
    refine x_gQ e rfl rfl fd_12_62 rfl (fun z7 e => ?_)
    refine wp_p (j := J_Y_run) 2 (pc' := 268) (lv' := [(10, .int w0), (0, .ref v0), (2, .int v2), (3, .int v3), (7, .int v7), (9, .int v9)]) (st' := [.int v7, .ref z7, .int v7, .ref z7]) rfl ?_
    refine x_aI e rfl rfl (fun z8 e => ?_)
    refine wp_p (j := J_Y_run) 2 (pc' := 271) (lv' := [(10, .int w0), (0, .ref v0), (2, .int v2), (3, .int v3), (7, .int v7), (9, .int v9)]) (st' := [.int (z8 + 1), .int v7, .ref z7]) rfl ?_
    refine x_sI e rfl rfl (fun g9 e => ?_)
    refine wp_p (j := J_Y_run) 1 (pc' := 301) (lv' := [(10, .int w0), (0, .ref v0), (2, .int v2), (3, .int v3), (7, .int v7), (9, .int v9)]) (st' := []) rfl ?_
    exact wp_lv (lv' := [(0, .ref v0), (2, .int v2), (3, .int v3), (7, .int v7), (9, .int v9)]) rfl ⟨rfl, rfl, rfl, rfl, rfl, trivial⟩ (x_Y_run_301 e c)
  · refine wp_p (j := J_Y_run) 1 (pc' := 276) (lv' := [(10, .int w0), (0, .ref v0), (2, .int v2), (3, .int v3), (7, .int v7), (9, .int v9)]) (st' := [.ref v0]) rfl ?_
    refine x_gQ e rfl rfl fd_12_63 rfl (fun z10 e => ?_)
    refine wp_p (j := J_Y_run) 1 (pc' := 281) (lv' := [(10, .int w0), (0, .ref v0), (2, .int v2), (3, .int v3), (7, .int v7), (9, .int v9)]) (st' := [.int v7, .ref z10]) rfl ?_
    refine x_aB e rfl (.inr rfl) rfl (fun z11 e => ?_)
    refine z_ne e rfl (fun e => ?_) (fun e => ?_)
    · refine wp_p (j := J_Y_run) 1 (pc' := 286) (lv' := [(10, .int w0), (0, .ref v0), (2, .int v2), (3, .int v3), (7, .int v7), (9, .int v9)]) (st' := [.ref v0]) rfl ?_
      refine x_gQ e rfl rfl fd_12_63 rfl (fun z12 e => ?_)
      refine wp_p (j := J_Y_run) 2 (pc' := 292) (lv' := [(10, .int w0), (0, .ref v0), (2, .int v2), (3, .int v3), (7, .int v7), (9, .int v9)]) (st' := [.int 1, .int v7, .ref z12]) rfl ?_
      refine x_sZ e rfl rfl (fun g13 e => ?_)
      refine wp_p (j := J_Y_run) 3 (pc' := 298) (lv' := [(10, .int w0), (0, .ref v0), (2, .int v2), (3, .int v3), (7, .int v7), (9, .int v9)]) (st' := [.int v9, .int 7, .ref v0]) rfl ?_
      refine x_cv0 (As := [.int 7, .int v9]) (rest := []) e rfl rfl rfl rfl rfl rfl (fun h => d_Y_tellFault h ⟨rfl, rfl⟩) (fun g14 e => ?_)
      exact wp_lv (lv' := [(0, .ref v0), (2, .int v2), (3, .int v3), (7, .int v7), (9, .int v9)]) rfl ⟨rfl, rfl, rfl, rfl, rfl, trivial⟩ (x_Y_run_301 e c)
    · exact wp_lv (lv' := [(0, .ref v0), (2, .int v2), (3, .int v3), (7, .int v7), (9, .int v9)]) rfl ⟨rfl, rfl, rfl, rfl, rfl, trivial⟩ (x_Y_run_301 e c)
noncomputable def b_Y_run_188 (v0 : Nat) (v2 : Int32) (v3 : Int32) (v7 : Int32) (v9 : Int32) (g : g_S) : Option ((Int32 × g_S) ⊕ (g_S)) :=
  if v9 < v3 then
    (wI g 112 v0 77 1).bind fun g1 =>
    if v2 = 0 then
      (rQ g1 112 v0 75).bind fun z2 =>
      c2 (vc g1 112 v0 (M_Y_entity v0 z2 v9 v3 g1)) fun z3 g4 =>
      k_Y_run_224 v0 v2 v3 v7 v9 z3 g4
    else
      (rQ g1 112 v0 75).bind fun z5 =>
      (aI g1 1 z5 v9).bind fun z6 =>
      k_Y_run_224 v0 v2 v3 v7 v9 z6 g1
  else
    some (.inr g)
set_option maxRecDepth 20000 in
theorem y_Y_run_188 {L : Nat} {xs : Nat → Int32} {Q : Option Value → ab_H → Prop} {v0 : Nat} {v2 : Int32} {v3 : Int32} {v7 : Int32} {v9 : Int32} {g : g_S} {out : (Int32 × g_S) ⊕ (g_S)} (e : b_Y_run_188 v0 v2 v3 v7 v9 g = some out) (c : cL_Y_run_188 L xs Q v0 v2 v3 v7 out) : wp (ab_ext L xs) J_Y_run 188 [(0, .ref v0), (2, .int v2), (3, .int v3), (7, .int v7), (9, .int v9)] [] (hp g) Q := by
  unfold b_Y_run_188 at e
  refine wp_p (j := J_Y_run) 2 (pc' := 191) (lv' := [(0, .ref v0), (2, .int v2), (3, .int v3), (7, .int v7), (9, .int v9)]) (st' := [.int v3, .int v9]) rfl ?_
  refine x_ge e rfl (fun e => ?_) (fun e => ?_)
  · refine wp_p (j := J_Y_run) 2 (pc' := 196) (lv' := [(0, .ref v0), (2, .int v2), (3, .int v3), (7, .int v7), (9, .int v9)]) (st' := [.int 1, .ref v0]) rfl ?_
    refine x_pI e rfl rfl fw_12_77 rfl (fun g1 e => ?_)
    refine wp_p (j := J_Y_run) 1 (pc' := 200) (lv' := [(0, .ref v0), (2, .int v2), (3, .int v3), (7, .int v7), (9, .int v9)]) (st' := [.int v2]) rfl ?_
    refine z_eq e rfl (fun e => ?_) (fun e => ?_)
    · refine wp_p (j := J_Y_run) 2 (pc' := 215) (lv' := [(0, .ref v0), (2, .int v2), (3, .int v3), (7, .int v7), (9, .int v9)]) (st' := [.ref v0, .ref v0]) rfl ?_
      refine x_gQ e rfl rfl fd_12_75 rfl (fun z2 e => ?_)
      refine wp_p (j := J_Y_run) 2 (pc' := 221) (lv' := [(0, .ref v0), (2, .int v2), (3, .int v3), (7, .int v7), (9, .int v9)]) (st' := [.int v3, .int v9, .ref z2, .ref v0]) rfl ?_
      refine x_cv2 (As := [.ref z2, .int v9, .int v3]) (rest := []) Value.int e rfl rfl rfl rfl rfl rfl (fun h => d_Y_entity h ⟨rfl, rfl⟩) (fun z3 g4 e => ?_)
      exact wp_lv (lv' := [(0, .ref v0), (2, .int v2), (3, .int v3), (7, .int v7), (9, .int v9)]) rfl ⟨rfl, rfl, rfl, rfl, rfl, trivial⟩ (x_Y_run_224 e c)
    · refine wp_p (j := J_Y_run) 1 (pc' := 204) (lv' := [(0, .ref v0), (2, .int v2), (3, .int v3), (7, .int v7), (9, .int v9)]) (st' := [.ref v0]) rfl ?_
      refine x_gQ e rfl rfl fd_12_75 rfl (fun z5 e => ?_)
      refine wp_p (j := J_Y_run) 1 (pc' := 209) (lv' := [(0, .ref v0), (2, .int v2), (3, .int v3), (7, .int v7), (9, .int v9)]) (st' := [.int v9, .ref z5]) rfl ?_
      refine x_aB e rfl (.inl rfl) rfl (fun z6 e => ?_)
      refine wp_p (j := J_Y_run) 1 (pc' := 224) (lv' := [(0, .ref v0), (2, .int v2), (3, .int v3), (7, .int v7), (9, .int v9)]) (st' := [.int z6]) rfl ?_
      exact wp_lv (lv' := [(0, .ref v0), (2, .int v2), (3, .int v3), (7, .int v7), (9, .int v9)]) rfl ⟨rfl, rfl, rfl, rfl, rfl, trivial⟩ (x_Y_run_224 e c)
  · have e := Option.some.inj e; subst e; exact wp_lv (lv' := [(3, .int v3)]) rfl ⟨rfl, trivial⟩ c
noncomputable def L_Y_run_188 (v0 : Nat) (v2 : Int32) (v3 : Int32) (v7 : Int32) (v9 : Int32) (g : g_S) : Option (g_S) := it (fun s : Int32 × g_S => b_Y_run_188 v0 v2 v3 v7 s.1 s.2) (v9, g)
theorem l_Y_run_188 {L : Nat} {xs : Nat → Int32} {Q : Option Value → ab_H → Prop} {v0 : Nat} {v2 : Int32} {v3 : Int32} {v7 : Int32} {v9 : Int32} {g : g_S} {r : g_S} (e : L_Y_run_188 v0 v2 v3 v7 v9 g = some r) (c : cL_Y_run_188 L xs Q v0 v2 v3 v7 (.inr r)) : wp (ab_ext L xs) J_Y_run 188 [(0, .ref v0), (2, .int v2), (3, .int v3), (7, .int v7), (9, .int v9)] [] (hp g) Q :=
  it_wp (P := fun s : Int32 × g_S => wp (ab_ext L xs) J_Y_run 188 [(0, .ref v0), (2, .int v2), (3, .int v3), (7, .int v7), (9, .int s.1)] [] (hp s.2) Q) (E := fun r => cL_Y_run_188 L xs Q v0 v2 v3 v7 (.inr r)) (fun s out e c => y_Y_run_188 e (by cases out <;> exact c)) e c
theorem L_Y_run_188_eq (v0 : Nat) (v2 : Int32) (v3 : Int32) (v7 : Int32) (v9 : Int32) (g : g_S) : L_Y_run_188 v0 v2 v3 v7 v9 g = itc (b_Y_run_188 v0 v2 v3 v7 v9 g) (fun s => L_Y_run_188 v0 v2 v3 v7 s.1 s.2) := it_eq2 (fun s : Int32 × g_S => b_Y_run_188 v0 v2 v3 v7 s.1 s.2) (v9, g)
noncomputable def k_Y_run_185 (v0 : Nat) (v1 : Int32) (v2 : Int32) (v3 : Int32) (v7 : Int32) (g : g_S) : Option (Int32 × g_S) :=
  (L_Y_run_188 v0 v2 v3 v7 v1 g).bind <| fun g3 =>
  some (v3, g3)
set_option maxRecDepth 20000 in
theorem x_Y_run_185 {L : Nat} {xs : Nat → Int32} {Q : Option Value → ab_H → Prop} {v0 : Nat} {v1 : Int32} {v2 : Int32} {v3 : Int32} {v7 : Int32} {g : g_S} {out : Int32 × g_S} (e : k_Y_run_185 v0 v1 v2 v3 v7 g = some out) (c : Q (some (.int out.1)) (hp out.2)) : wp (ab_ext L xs) J_Y_run 185 [(0, .ref v0), (1, .int v1), (2, .int v2), (3, .int v3), (7, .int v7)] [] (hp g) Q := by
  unfold k_Y_run_185 at e
  refine wp_p (j := J_Y_run) 2 (pc' := 188) (lv' := [(9, .int v1), (0, .ref v0), (1, .int v1), (2, .int v2), (3, .int v3), (7, .int v7)]) (st' := []) rfl ?_
  obtain ⟨g3, h2, e⟩ := bd e
  refine wp_lv (lv' := [(0, .ref v0), (2, .int v2), (3, .int v3), (7, .int v7), (9, .int v1)]) rfl ⟨rfl, rfl, rfl, rfl, rfl, trivial⟩ ?_
  refine l_Y_run_188 h2 ?_
  show wp (ab_ext L xs) J_Y_run 313 [(3, .int v3)] [] (hp g3) Q
  refine wp_p (j := J_Y_run) 1 (pc' := 314) (lv' := [(3, .int v3)]) (st' := [.int v3]) rfl ?_
  have e := Option.some.inj e; subst e; exact wp_iret (ty := .int) rfl rfl rfl c
noncomputable def k_Y_run_148 (v0 : Nat) (v1 : Int32) (v2 : Int32) (v3 : Int32) (v6 : Int32) (v7 : Int32) (v8 : Int32) (g : g_S) : Option (Int32 × g_S) :=
  if v8 = 0 then
    c2 (vc g 112 v0 (M_Y_fresh v0 v6 g)) fun z1 g2 =>
    if z1 = (-1) then
      (vc g2 112 v0 (M_Y_tellFault v0 6 v1 g2)).bind fun g3 =>
      some (v3, g3)
    else
      (rQ g2 112 v0 46).bind fun z4 =>
      (sI g2 z4 z1 17).bind fun g5 =>
      k_Y_run_185 v0 v1 v2 v3 z1 g5
  else
    k_Y_run_185 v0 v1 v2 v3 v7 g
set_option maxRecDepth 20000 in
theorem x_Y_run_148 {L : Nat} {xs : Nat → Int32} {Q : Option Value → ab_H → Prop} {v0 : Nat} {v1 : Int32} {v2 : Int32} {v3 : Int32} {v6 : Int32} {v7 : Int32} {v8 : Int32} {g : g_S} {out : Int32 × g_S} (e : k_Y_run_148 v0 v1 v2 v3 v6 v7 v8 g = some out) (c : Q (some (.int out.1)) (hp out.2)) : wp (ab_ext L xs) J_Y_run 148 [(0, .ref v0), (1, .int v1), (2, .int v2), (3, .int v3), (6, .int v6), (7, .int v7), (8, .int v8)] [] (hp g) Q := by
  unfold k_Y_run_148 at e
  refine wp_p (j := J_Y_run) 1 (pc' := 150) (lv' := [(0, .ref v0), (1, .int v1), (2, .int v2), (3, .int v3), (6, .int v6), (7, .int v7), (8, .int v8)]) (st' := [.int v8]) rfl ?_
  refine z_ne e rfl (fun e => ?_) (fun e => ?_)
  · refine wp_p (j := J_Y_run) 2 (pc' := 156) (lv' := [(0, .ref v0), (1, .int v1), (2, .int v2), (3, .int v3), (6, .int v6), (7, .int v7), (8, .int v8)]) (st' := [.int v6, .ref v0]) rfl ?_
    refine x_cv2 (As := [.int v6]) (rest := []) Value.int e rfl rfl rfl rfl rfl rfl (fun h => d_Y_fresh h ⟨rfl, rfl⟩) (fun z1 g2 e => ?_)
    refine wp_p (j := J_Y_run) 3 (pc' := 164) (lv' := [(7, .int z1), (0, .ref v0), (1, .int v1), (2, .int v2), (3, .int v3), (6, .int v6), (8, .int v8)]) (st' := [.int (-1), .int z1]) rfl ?_
    refine x_ne e rfl (fun e => ?_) (fun e => ?_)
    · refine wp_p (j := J_Y_run) 3 (pc' := 171) (lv' := [(7, .int z1), (0, .ref v0), (1, .int v1), (2, .int v2), (3, .int v3), (6, .int v6), (8, .int v8)]) (st' := [.int v1, .int 6, .ref v0]) rfl ?_
      refine x_cv0 (As := [.int 6, .int v1]) (rest := []) e rfl rfl rfl rfl rfl rfl (fun h => d_Y_tellFault h ⟨rfl, rfl⟩) (fun g3 e => ?_)
      refine wp_p (j := J_Y_run) 1 (pc' := 175) (lv' := [(7, .int z1), (0, .ref v0), (1, .int v1), (2, .int v2), (3, .int v3), (6, .int v6), (8, .int v8)]) (st' := [.int v3]) rfl ?_
      have e := Option.some.inj e; subst e; exact wp_iret (ty := .int) rfl rfl rfl c
    · refine wp_p (j := J_Y_run) 1 (pc' := 177) (lv' := [(7, .int z1), (0, .ref v0), (1, .int v1), (2, .int v2), (3, .int v3), (6, .int v6), (8, .int v8)]) (st' := [.ref v0]) rfl ?_
      refine x_gQ e rfl rfl fd_12_46 rfl (fun z4 e => ?_)
      refine wp_p (j := J_Y_run) 2 (pc' := 184) (lv' := [(7, .int z1), (0, .ref v0), (1, .int v1), (2, .int v2), (3, .int v3), (6, .int v6), (8, .int v8)]) (st' := [.int 17, .int z1, .ref z4]) rfl ?_
      refine x_sI e rfl rfl (fun g5 e => ?_)
      exact wp_lv (lv' := [(0, .ref v0), (1, .int v1), (2, .int v2), (3, .int v3), (7, .int z1)]) rfl ⟨rfl, rfl, rfl, rfl, rfl, trivial⟩ (x_Y_run_185 e c)
  · exact wp_lv (lv' := [(0, .ref v0), (1, .int v1), (2, .int v2), (3, .int v3), (7, .int v7)]) rfl ⟨rfl, rfl, rfl, rfl, rfl, trivial⟩ (x_Y_run_185 e c)
noncomputable def k_Y_run_134 (v0 : Nat) (v1 : Int32) (v2 : Int32) (v3 : Int32) (v4 : Int32) (v6 : Int32) (v7 : Int32) (w0 : Int32) (g : g_S) : Option (Int32 × g_S) :=
  if v4 = 0 then
    k_Y_run_148 v0 v1 v2 v3 v6 v7 w0 g
  else
    if w0 = 0 then
      some (v3, g)
    else
      k_Y_run_148 v0 v1 v2 v3 v6 v7 w0 g
set_option maxRecDepth 20000 in
theorem x_Y_run_134 {L : Nat} {xs : Nat → Int32} {Q : Option Value → ab_H → Prop} {v0 : Nat} {v1 : Int32} {v2 : Int32} {v3 : Int32} {v4 : Int32} {v6 : Int32} {v7 : Int32} {w0 : Int32} {g : g_S} {out : Int32 × g_S} (e : k_Y_run_134 v0 v1 v2 v3 v4 v6 v7 w0 g = some out) (c : Q (some (.int out.1)) (hp out.2)) : wp (ab_ext L xs) J_Y_run 134 [(0, .ref v0), (1, .int v1), (2, .int v2), (3, .int v3), (4, .int v4), (6, .int v6), (7, .int v7)] [.int w0] (hp g) Q := by
  unfold k_Y_run_134 at e
  refine wp_p (j := J_Y_run) 2 (pc' := 138) (lv' := [(8, .int w0), (0, .ref v0), (1, .int v1), (2, .int v2), (3, .int v3), (4, .int v4), (6, .int v6), (7, .int v7)]) (st' := [.int v4]) rfl ?_
  refine z_eq e rfl (fun e => ?_) (fun e => ?_)
  · exact wp_lv (lv' := [(0, .ref v0), (1, .int v1), (2, .int v2), (3, .int v3), (6, .int v6), (7, .int v7), (8, .int w0)]) rfl ⟨rfl, rfl, rfl, rfl, rfl, rfl, rfl, trivial⟩ (x_Y_run_148 e c)
  · refine wp_p (j := J_Y_run) 1 (pc' := 143) (lv' := [(8, .int w0), (0, .ref v0), (1, .int v1), (2, .int v2), (3, .int v3), (4, .int v4), (6, .int v6), (7, .int v7)]) (st' := [.int w0]) rfl ?_
    refine z_ne e rfl (fun e => ?_) (fun e => ?_)
    · refine wp_p (j := J_Y_run) 1 (pc' := 147) (lv' := [(8, .int w0), (0, .ref v0), (1, .int v1), (2, .int v2), (3, .int v3), (4, .int v4), (6, .int v6), (7, .int v7)]) (st' := [.int v3]) rfl ?_
      have e := Option.some.inj e; subst e; exact wp_iret (ty := .int) rfl rfl rfl c
    · exact wp_lv (lv' := [(0, .ref v0), (1, .int v1), (2, .int v2), (3, .int v3), (6, .int v6), (7, .int v7), (8, .int w0)]) rfl ⟨rfl, rfl, rfl, rfl, rfl, rfl, rfl, trivial⟩ (x_Y_run_148 e c)
noncomputable def k_Y_run_133 (v0 : Nat) (v1 : Int32) (v2 : Int32) (v3 : Int32) (v4 : Int32) (v6 : Int32) (v7 : Int32) (g : g_S) : Option (Int32 × g_S) :=
  k_Y_run_134 v0 v1 v2 v3 v4 v6 v7 0 g
set_option maxRecDepth 20000 in
theorem x_Y_run_133 {L : Nat} {xs : Nat → Int32} {Q : Option Value → ab_H → Prop} {v0 : Nat} {v1 : Int32} {v2 : Int32} {v3 : Int32} {v4 : Int32} {v6 : Int32} {v7 : Int32} {g : g_S} {out : Int32 × g_S} (e : k_Y_run_133 v0 v1 v2 v3 v4 v6 v7 g = some out) (c : Q (some (.int out.1)) (hp out.2)) : wp (ab_ext L xs) J_Y_run 133 [(0, .ref v0), (1, .int v1), (2, .int v2), (3, .int v3), (4, .int v4), (6, .int v6), (7, .int v7)] [] (hp g) Q := by
  unfold k_Y_run_133 at e
  refine wp_p (j := J_Y_run) 1 (pc' := 134) (lv' := [(0, .ref v0), (1, .int v1), (2, .int v2), (3, .int v3), (4, .int v4), (6, .int v6), (7, .int v7)]) (st' := [.int 0]) rfl ?_
  exact wp_lv (lv' := [(0, .ref v0), (1, .int v1), (2, .int v2), (3, .int v3), (4, .int v4), (6, .int v6), (7, .int v7)]) rfl ⟨rfl, rfl, rfl, rfl, rfl, rfl, rfl, trivial⟩ (x_Y_run_134 e c)
noncomputable def M_Y_run (v0 : Nat) (v1 : Int32) (v2 : Int32) (g : g_S) : Option (Int32 × g_S) :=
  (L_Y_run_8 v0 v1 v2 v1 1 1 g).bind <| u2 fun z3 z4 =>
  (rQ g 112 v0 73).bind fun z5 =>
  (rI g 112 v0 74).bind fun z6 =>
  (aI g 0 z5 (z6 - 1)).bind fun z7 =>
  (rQ g 112 v0 51).bind fun z8 =>
  (aI g 0 z8 z7).bind fun z9 =>
  if z9 = (-1) then
    k_Y_run_133 v0 v1 v2 z3 z4 z7 z9 g
  else
    (rQ g 112 v0 46).bind fun z10 =>
    (aI g 0 z10 z9).bind fun z11 =>
    if z11 = 17 then
      k_Y_run_134 v0 v1 v2 z3 z4 z7 z9 1 g
    else
      k_Y_run_133 v0 v1 v2 z3 z4 z7 z9 g
set_option maxRecDepth 20000 in
theorem d_Y_run {L : Nat} {xs : Nat → Int32} {Q : Option Value → ab_H → Prop} {v0 : Nat} {v1 : Int32} {v2 : Int32} {g : g_S} {out : Int32 × g_S} (e : M_Y_run v0 v1 v2 g = some out) (c : Q (some (.int out.1)) (hp out.2)) : mw (ab_ext L xs) J_Y_run [.ref v0, .int v1, .int v2] (hp g) Q := by
  unfold M_Y_run at e
  refine wp_p (j := J_Y_run) 6 (pc' := 8) (lv' := [(5, .int 1), (4, .int 1), (3, .int v1), (0, .ref v0), (1, .int v1), (2, .int v2)]) (st' := []) rfl ?_
  obtain ⟨s1, h2, e⟩ := bd e
  refine wp_lv (lv' := [(0, .ref v0), (1, .int v1), (2, .int v2), (3, .int v1), (4, .int 1), (5, .int 1)]) rfl ⟨rfl, rfl, rfl, rfl, rfl, rfl, trivial⟩ ?_
  refine l_Y_run_8 h2 ?_
  obtain ⟨z3, z4⟩ := s1
  replace e := u2_e e
  show wp (ab_ext L xs) J_Y_run 89 [(0, .ref v0), (1, .int v1), (2, .int v2), (3, .int z3), (4, .int z4)] [] (hp g) Q
  refine wp_p (j := J_Y_run) 1 (pc' := 90) (lv' := [(0, .ref v0), (1, .int v1), (2, .int v2), (3, .int z3), (4, .int z4)]) (st' := [.ref v0]) rfl ?_
  refine x_gQ e rfl rfl fd_12_73 rfl (fun z5 e => ?_)
  refine wp_p (j := J_Y_run) 1 (pc' := 94) (lv' := [(0, .ref v0), (1, .int v1), (2, .int v2), (3, .int z3), (4, .int z4)]) (st' := [.ref v0, .ref z5]) rfl ?_
  refine x_gI e rfl rfl fd_12_74 rfl (fun z6 e => ?_)
  refine wp_p (j := J_Y_run) 2 (pc' := 99) (lv' := [(0, .ref v0), (1, .int v1), (2, .int v2), (3, .int z3), (4, .int z4)]) (st' := [.int (z6 - 1), .ref z5]) rfl ?_
  refine x_aI e rfl rfl (fun z7 e => ?_)
  refine wp_p (j := J_Y_run) 2 (pc' := 103) (lv' := [(6, .int z7), (0, .ref v0), (1, .int v1), (2, .int v2), (3, .int z3), (4, .int z4)]) (st' := [.ref v0]) rfl ?_
  refine x_gQ e rfl rfl fd_12_51 rfl (fun z8 e => ?_)
  refine wp_p (j := J_Y_run) 1 (pc' := 108) (lv' := [(6, .int z7), (0, .ref v0), (1, .int v1), (2, .int v2), (3, .int z3), (4, .int z4)]) (st' := [.int z7, .ref z8]) rfl ?_
  refine x_aI e rfl rfl (fun z9 e => ?_)
  refine wp_p (j := J_Y_run) 3 (pc' := 114) (lv' := [(7, .int z9), (6, .int z7), (0, .ref v0), (1, .int v1), (2, .int v2), (3, .int z3), (4, .int z4)]) (st' := [.int (-1), .int z9]) rfl ?_
  refine x_eq e rfl (fun e => ?_) (fun e => ?_)
  · exact wp_lv (lv' := [(0, .ref v0), (1, .int v1), (2, .int v2), (3, .int z3), (4, .int z4), (6, .int z7), (7, .int z9)]) rfl ⟨rfl, rfl, rfl, rfl, rfl, rfl, rfl, trivial⟩ (x_Y_run_133 e c)
  · refine wp_p (j := J_Y_run) 1 (pc' := 118) (lv' := [(7, .int z9), (6, .int z7), (0, .ref v0), (1, .int v1), (2, .int v2), (3, .int z3), (4, .int z4)]) (st' := [.ref v0]) rfl ?_
    refine x_gQ e rfl rfl fd_12_46 rfl (fun z10 e => ?_)
    refine wp_p (j := J_Y_run) 1 (pc' := 123) (lv' := [(7, .int z9), (6, .int z7), (0, .ref v0), (1, .int v1), (2, .int v2), (3, .int z3), (4, .int z4)]) (st' := [.int z9, .ref z10]) rfl ?_
    refine x_aI e rfl rfl (fun z11 e => ?_)
    refine wp_p (j := J_Y_run) 1 (pc' := 126) (lv' := [(7, .int z9), (6, .int z7), (0, .ref v0), (1, .int v1), (2, .int v2), (3, .int z3), (4, .int z4)]) (st' := [.int 17, .int z11]) rfl ?_
    refine x_ne e rfl (fun e => ?_) (fun e => ?_)
    · refine wp_p (j := J_Y_run) 2 (pc' := 134) (lv' := [(7, .int z9), (6, .int z7), (0, .ref v0), (1, .int v1), (2, .int v2), (3, .int z3), (4, .int z4)]) (st' := [.int 1]) rfl ?_
      exact wp_lv (lv' := [(0, .ref v0), (1, .int v1), (2, .int v2), (3, .int z3), (4, .int z4), (6, .int z7), (7, .int z9)]) rfl ⟨rfl, rfl, rfl, rfl, rfl, rfl, rfl, trivial⟩ (x_Y_run_134 e c)
    · exact wp_lv (lv' := [(0, .ref v0), (1, .int v1), (2, .int v2), (3, .int z3), (4, .int z4), (6, .int z7), (7, .int z9)]) rfl ⟨rfl, rfl, rfl, rfl, rfl, rfl, rfl, trivial⟩ (x_Y_run_133 e c)
def cL_Y_note_4 (L : Nat) (xs : Nat → Int32) (Q : Option Value → ab_H → Prop) (v0 : Nat) (v1 : Int32) (g : g_S) (out : (Int32) ⊕ (Int32)) : Prop := match out with
  | .inl s => wp (ab_ext L xs) J_Y_note 4 [(0, .ref v0), (1, .int v1), (2, .int s)] [] (hp g) Q
  | .inr s => wp (ab_ext L xs) J_Y_note 32 [(0, .ref v0), (1, .int v1), (2, .int s)] [] (hp g) Q
noncomputable def b_Y_note_4 (v0 : Nat) (v1 : Int32) (v2 : Int32) (g : g_S) : Option ((Int32) ⊕ (Int32)) :=
  (rI g 112 v0 76).bind fun z1 =>
  if v2 < z1 then
    (vc g 112 v0 (M_Y_isAt v0 v2 45 45 62 g)).bind fun z2 =>
    if z2 = 0 then
      some (.inl (v2 + 1))
    else
      some (.inr v2)
  else
    some (.inr v2)
set_option maxRecDepth 20000 in
theorem y_Y_note_4 {L : Nat} {xs : Nat → Int32} {Q : Option Value → ab_H → Prop} {v0 : Nat} {v1 : Int32} {v2 : Int32} {g : g_S} {out : (Int32) ⊕ (Int32)} (e : b_Y_note_4 v0 v1 v2 g = some out) (c : cL_Y_note_4 L xs Q v0 v1 g out) : wp (ab_ext L xs) J_Y_note 4 [(0, .ref v0), (1, .int v1), (2, .int v2)] [] (hp g) Q := by
  unfold b_Y_note_4 at e
  refine wp_p (j := J_Y_note) 2 (pc' := 6) (lv' := [(0, .ref v0), (1, .int v1), (2, .int v2)]) (st' := [.ref v0, .int v2]) rfl ?_
  refine x_gI e rfl rfl fd_12_76 rfl (fun z1 e => ?_)
  refine x_ge e rfl (fun e => ?_) (fun e => ?_)
  · refine wp_p (j := J_Y_note) 5 (pc' := 20) (lv' := [(0, .ref v0), (1, .int v1), (2, .int v2)]) (st' := [.int 62, .int 45, .int 45, .int v2, .ref v0]) rfl ?_
    refine x_cv1 (As := [.int v2, .int 45, .int 45, .int 62]) (rest := []) Value.int e rfl rfl rfl rfl rfl rfl (fun h => d_Y_isAt h ⟨rfl, rfl⟩) (fun z2 e => ?_)
    refine z_ne e rfl (fun e => ?_) (fun e => ?_)
    · refine wp_p (j := J_Y_note) 2 (pc' := 4) (lv' := [(2, .int (v2 + 1)), (0, .ref v0), (1, .int v1)]) (st' := []) rfl ?_
      have e := Option.some.inj e; subst e; exact wp_lv (lv' := [(0, .ref v0), (1, .int v1), (2, .int (v2 + 1))]) rfl ⟨rfl, rfl, rfl, trivial⟩ c
    · have e := Option.some.inj e; subst e; exact wp_lv (lv' := [(0, .ref v0), (1, .int v1), (2, .int v2)]) rfl ⟨rfl, rfl, rfl, trivial⟩ c
  · have e := Option.some.inj e; subst e; exact wp_lv (lv' := [(0, .ref v0), (1, .int v1), (2, .int v2)]) rfl ⟨rfl, rfl, rfl, trivial⟩ c
noncomputable def L_Y_note_4 (v0 : Nat) (v1 : Int32) (v2 : Int32) (g : g_S) : Option (Int32) := it (fun s : Int32 => b_Y_note_4 v0 v1 s g) (v2)
theorem l_Y_note_4 {L : Nat} {xs : Nat → Int32} {Q : Option Value → ab_H → Prop} {v0 : Nat} {v1 : Int32} {v2 : Int32} {g : g_S} {r : Int32} (e : L_Y_note_4 v0 v1 v2 g = some r) (c : cL_Y_note_4 L xs Q v0 v1 g (.inr r)) : wp (ab_ext L xs) J_Y_note 4 [(0, .ref v0), (1, .int v1), (2, .int v2)] [] (hp g) Q :=
  it_wp (P := fun s : Int32 => wp (ab_ext L xs) J_Y_note 4 [(0, .ref v0), (1, .int v1), (2, .int s)] [] (hp g) Q) (E := fun r => cL_Y_note_4 L xs Q v0 v1 g (.inr r)) (fun s out e c => y_Y_note_4 e (by cases out <;> exact c)) e c
theorem L_Y_note_4_eq (v0 : Nat) (v1 : Int32) (v2 : Int32) (g : g_S) : L_Y_note_4 v0 v1 v2 g = itc (b_Y_note_4 v0 v1 v2 g) (fun s => L_Y_note_4 v0 v1 s g) := it_eq2 (fun s : Int32 => b_Y_note_4 v0 v1 s g) (v2)
noncomputable def k_Y_note_32 (v0 : Nat) (v1 : Int32) (v2 : Int32) (g : g_S) : Option (Int32 × g_S) :=
  (rI g 112 v0 76).bind fun z1 =>
  if v2 < z1 then
    some (v2 + 3, g)
  else
    (vc g 112 v0 (M_Y_tellFault v0 1 v1 g)).bind fun g2 =>
    (rI g2 112 v0 76).bind fun z3 =>
    some (z3, g2)
set_option maxRecDepth 20000 in
theorem x_Y_note_32 {L : Nat} {xs : Nat → Int32} {Q : Option Value → ab_H → Prop} {v0 : Nat} {v1 : Int32} {v2 : Int32} {g : g_S} {out : Int32 × g_S} (e : k_Y_note_32 v0 v1 v2 g = some out) (c : Q (some (.int out.1)) (hp out.2)) : wp (ab_ext L xs) J_Y_note 32 [(0, .ref v0), (1, .int v1), (2, .int v2)] [] (hp g) Q := by
  unfold k_Y_note_32 at e
  refine wp_p (j := J_Y_note) 2 (pc' := 34) (lv' := [(0, .ref v0), (1, .int v1), (2, .int v2)]) (st' := [.ref v0, .int v2]) rfl ?_
  refine x_gI e rfl rfl fd_12_76 rfl (fun z1 e => ?_)
  refine x_ge e rfl (fun e => ?_) (fun e => ?_)
  · refine wp_p (j := J_Y_note) 3 (pc' := 43) (lv' := [(0, .ref v0), (1, .int v1), (2, .int v2)]) (st' := [.int (v2 + 3)]) rfl ?_
    have e := Option.some.inj e; subst e; exact wp_iret (ty := .int) rfl rfl rfl c
  · refine wp_p (j := J_Y_note) 3 (pc' := 47) (lv' := [(0, .ref v0), (1, .int v1), (2, .int v2)]) (st' := [.int v1, .int 1, .ref v0]) rfl ?_
    refine x_cv0 (As := [.int 1, .int v1]) (rest := []) e rfl rfl rfl rfl rfl rfl (fun h => d_Y_tellFault h ⟨rfl, rfl⟩) (fun g2 e => ?_)
    refine wp_p (j := J_Y_note) 1 (pc' := 51) (lv' := [(0, .ref v0), (1, .int v1), (2, .int v2)]) (st' := [.ref v0]) rfl ?_
    refine x_gI e rfl rfl fd_12_76 rfl (fun z3 e => ?_)
    have e := Option.some.inj e; subst e; exact wp_iret (ty := .int) rfl rfl rfl c
noncomputable def M_Y_note (v0 : Nat) (v1 : Int32) (g : g_S) : Option (Int32 × g_S) :=
  (L_Y_note_4 v0 v1 (v1 + 4) g).bind <| fun z3 =>
  k_Y_note_32 v0 v1 z3 g
set_option maxRecDepth 20000 in
theorem d_Y_note {L : Nat} {xs : Nat → Int32} {Q : Option Value → ab_H → Prop} {v0 : Nat} {v1 : Int32} {g : g_S} {out : Int32 × g_S} (e : M_Y_note v0 v1 g = some out) (c : Q (some (.int out.1)) (hp out.2)) : mw (ab_ext L xs) J_Y_note [.ref v0, .int v1] (hp g) Q := by
  unfold M_Y_note at e
  refine wp_p (j := J_Y_note) 4 (pc' := 4) (lv' := [(2, .int (v1 + 4)), (0, .ref v0), (1, .int v1)]) (st' := []) rfl ?_
  obtain ⟨z3, h2, e⟩ := bd e
  refine wp_lv (lv' := [(0, .ref v0), (1, .int v1), (2, .int (v1 + 4))]) rfl ⟨rfl, rfl, rfl, trivial⟩ ?_
  refine l_Y_note_4 h2 ?_
  show wp (ab_ext L xs) J_Y_note 32 [(0, .ref v0), (1, .int v1), (2, .int z3)] [] (hp g) Q
  exact wp_lv (lv' := [(0, .ref v0), (1, .int v1), (2, .int z3)]) rfl ⟨rfl, rfl, rfl, trivial⟩ (x_Y_note_32 e c)
noncomputable def M_Y_small (v0 : Int32) (g : g_S) : Option Int32 :=
  if v0 < 65 then
    some v0
  else
    if 90 < v0 then
      some v0
    else
      some (v0 + 32)
set_option maxRecDepth 20000 in
theorem d_Y_small {L : Nat} {xs : Nat → Int32} {Q : Option Value → ab_H → Prop} {v0 : Int32} {g : g_S} {out : Int32} (e : M_Y_small v0 g = some out) (c : Q (some (.int out)) (hp g)) : mw (ab_ext L xs) J_Y_small [.int v0] (hp g) Q := by
  unfold M_Y_small at e
  refine wp_p (j := J_Y_small) 2 (pc' := 3) (lv' := [(0, .int v0)]) (st' := [.int 65, .int v0]) rfl ?_
  refine x_lt e rfl (fun e => ?_) (fun e => ?_)
  · refine wp_p (j := J_Y_small) 1 (pc' := 20) (lv' := [(0, .int v0)]) (st' := [.int v0]) rfl ?_
    have e := Option.some.inj e; subst e; exact wp_iret (ty := .int) rfl rfl rfl c
  · refine wp_p (j := J_Y_small) 2 (pc' := 9) (lv' := [(0, .int v0)]) (st' := [.int 90, .int v0]) rfl ?_
    refine x_gt e rfl (fun e => ?_) (fun e => ?_)
    · refine wp_p (j := J_Y_small) 1 (pc' := 20) (lv' := [(0, .int v0)]) (st' := [.int v0]) rfl ?_
      have e := Option.some.inj e; subst e; exact wp_iret (ty := .int) rfl rfl rfl c
    · refine wp_p (j := J_Y_small) 4 (pc' := 20) (lv' := [(0, .int v0)]) (st' := [.int (v0 + 32)]) rfl ?_
      have e := Option.some.inj e; subst e; exact wp_iret (ty := .int) rfl rfl rfl c
def cL_Y_readAttribute_438 (L : Nat) (xs : Nat → Int32) (Q : Option Value → ab_H → Prop) (v0 : Nat) (v2 : Int32) (v3 : Int32) (v4 : Int32) (out : (Int32 × g_S) ⊕ (g_S)) : Prop := match out with
  | .inl s => wp (ab_ext L xs) J_Y_readAttribute 438 [(0, .ref v0), (2, .int v2), (3, .int v3), (4, .int v4), (6, .int s.1)] [] (hp s.2) Q
  | .inr s => wp (ab_ext L xs) J_Y_readAttribute 472 [(0, .ref v0), (3, .int v3), (4, .int v4)] [] (hp s) Q
noncomputable def b_Y_readAttribute_438 (v0 : Nat) (v2 : Int32) (v3 : Int32) (v4 : Int32) (v6 : Int32) (g : g_S) : Option ((Int32 × g_S) ⊕ (g_S)) :=
  if v6 < v2 then
    (rQ g 112 v0 81).bind fun z1 =>
    (rI g 112 v0 80).bind fun z2 =>
    (rQ g 112 v0 87).bind fun z3 =>
    (aI g 1 z3 v6).bind fun z4 =>
    (sB g z1 ((8 * z2) + v6) z4).bind fun g5 =>
    some (.inl (v6 + 1, g5))
  else
    some (.inr g)
set_option maxRecDepth 20000 in
theorem y_Y_readAttribute_438 {L : Nat} {xs : Nat → Int32} {Q : Option Value → ab_H → Prop} {v0 : Nat} {v2 : Int32} {v3 : Int32} {v4 : Int32} {v6 : Int32} {g : g_S} {out : (Int32 × g_S) ⊕ (g_S)} (e : b_Y_readAttribute_438 v0 v2 v3 v4 v6 g = some out) (c : cL_Y_readAttribute_438 L xs Q v0 v2 v3 v4 out) : wp (ab_ext L xs) J_Y_readAttribute 438 [(0, .ref v0), (2, .int v2), (3, .int v3), (4, .int v4), (6, .int v6)] [] (hp g) Q := by
  unfold b_Y_readAttribute_438 at e
  refine wp_p (j := J_Y_readAttribute) 2 (pc' := 441) (lv' := [(0, .ref v0), (2, .int v2), (3, .int v3), (4, .int v4), (6, .int v6)]) (st' := [.int v2, .int v6]) rfl ?_
  refine x_ge e rfl (fun e => ?_) (fun e => ?_)
  · refine wp_p (j := J_Y_readAttribute) 1 (pc' := 445) (lv' := [(0, .ref v0), (2, .int v2), (3, .int v3), (4, .int v4), (6, .int v6)]) (st' := [.ref v0]) rfl ?_
    refine x_gQ e rfl rfl fd_12_81 rfl (fun z1 e => ?_)
    refine wp_p (j := J_Y_readAttribute) 2 (pc' := 451) (lv' := [(0, .ref v0), (2, .int v2), (3, .int v3), (4, .int v4), (6, .int v6)]) (st' := [.ref v0, .int 8, .ref z1]) rfl ?_
    refine x_gI e rfl rfl fd_12_80 rfl (fun z2 e => ?_)
    refine wp_p (j := J_Y_readAttribute) 4 (pc' := 459) (lv' := [(0, .ref v0), (2, .int v2), (3, .int v3), (4, .int v4), (6, .int v6)]) (st' := [.ref v0, .int ((8 * z2) + v6), .ref z1]) rfl ?_
    refine x_gQ e rfl rfl fd_12_87 rfl (fun z3 e => ?_)
    refine wp_p (j := J_Y_readAttribute) 1 (pc' := 464) (lv' := [(0, .ref v0), (2, .int v2), (3, .int v3), (4, .int v4), (6, .int v6)]) (st' := [.int v6, .ref z3, .int ((8 * z2) + v6), .ref z1]) rfl ?_
    refine x_aB e rfl (.inl rfl) rfl (fun z4 e => ?_)
    refine x_sB e rfl rfl (fun g5 e => ?_)
    refine wp_p (j := J_Y_readAttribute) 2 (pc' := 438) (lv' := [(6, .int (v6 + 1)), (0, .ref v0), (2, .int v2), (3, .int v3), (4, .int v4)]) (st' := []) rfl ?_
    have e := Option.some.inj e; subst e; exact wp_lv (lv' := [(0, .ref v0), (2, .int v2), (3, .int v3), (4, .int v4), (6, .int (v6 + 1))]) rfl ⟨rfl, rfl, rfl, rfl, rfl, trivial⟩ c
  · have e := Option.some.inj e; subst e; exact wp_lv (lv' := [(0, .ref v0), (3, .int v3), (4, .int v4)]) rfl ⟨rfl, rfl, rfl, trivial⟩ c
noncomputable def L_Y_readAttribute_438 (v0 : Nat) (v2 : Int32) (v3 : Int32) (v4 : Int32) (v6 : Int32) (g : g_S) : Option (g_S) := it (fun s : Int32 × g_S => b_Y_readAttribute_438 v0 v2 v3 v4 s.1 s.2) (v6, g)
theorem l_Y_readAttribute_438 {L : Nat} {xs : Nat → Int32} {Q : Option Value → ab_H → Prop} {v0 : Nat} {v2 : Int32} {v3 : Int32} {v4 : Int32} {v6 : Int32} {g : g_S} {r : g_S} (e : L_Y_readAttribute_438 v0 v2 v3 v4 v6 g = some r) (c : cL_Y_readAttribute_438 L xs Q v0 v2 v3 v4 (.inr r)) : wp (ab_ext L xs) J_Y_readAttribute 438 [(0, .ref v0), (2, .int v2), (3, .int v3), (4, .int v4), (6, .int v6)] [] (hp g) Q :=
  it_wp (P := fun s : Int32 × g_S => wp (ab_ext L xs) J_Y_readAttribute 438 [(0, .ref v0), (2, .int v2), (3, .int v3), (4, .int v4), (6, .int s.1)] [] (hp s.2) Q) (E := fun r => cL_Y_readAttribute_438 L xs Q v0 v2 v3 v4 (.inr r)) (fun s out e c => y_Y_readAttribute_438 e (by cases out <;> exact c)) e c
theorem L_Y_readAttribute_438_eq (v0 : Nat) (v2 : Int32) (v3 : Int32) (v4 : Int32) (v6 : Int32) (g : g_S) : L_Y_readAttribute_438 v0 v2 v3 v4 v6 g = itc (b_Y_readAttribute_438 v0 v2 v3 v4 v6 g) (fun s => L_Y_readAttribute_438 v0 v2 v3 v4 s.1 s.2) := it_eq2 (fun s : Int32 × g_S => b_Y_readAttribute_438 v0 v2 v3 v4 s.1 s.2) (v6, g)
def cL_Y_readAttribute_475 (L : Nat) (xs : Nat → Int32) (Q : Option Value → ab_H → Prop) (v0 : Nat) (v3 : Int32) (v4 : Int32) (out : (Int32 × g_S) ⊕ (g_S)) : Prop := match out with
  | .inl s => wp (ab_ext L xs) J_Y_readAttribute 475 [(0, .ref v0), (3, .int v3), (4, .int v4), (6, .int s.1)] [] (hp s.2) Q
  | .inr s => wp (ab_ext L xs) J_Y_readAttribute 510 [(0, .ref v0), (3, .int v3)] [] (hp s) Q
noncomputable def b_Y_readAttribute_475 (v0 : Nat) (v3 : Int32) (v4 : Int32) (v6 : Int32) (g : g_S) : Option ((Int32 × g_S) ⊕ (g_S)) :=
  if v6 < v4 then
    (rQ g 112 v0 83).bind fun z1 =>
    (rI g 112 v0 80).bind fun z2 =>
    (rQ g 112 v0 88).bind fun z3 =>
    (aI g 1 z3 v6).bind fun z4 =>
    (sB g z1 ((60 * z2) + v6) z4).bind fun g5 =>
    some (.inl (v6 + 1, g5))
  else
    some (.inr g)
set_option maxRecDepth 20000 in
theorem y_Y_readAttribute_475 {L : Nat} {xs : Nat → Int32} {Q : Option Value → ab_H → Prop} {v0 : Nat} {v3 : Int32} {v4 : Int32} {v6 : Int32} {g : g_S} {out : (Int32 × g_S) ⊕ (g_S)} (e : b_Y_readAttribute_475 v0 v3 v4 v6 g = some out) (c : cL_Y_readAttribute_475 L xs Q v0 v3 v4 out) : wp (ab_ext L xs) J_Y_readAttribute 475 [(0, .ref v0), (3, .int v3), (4, .int v4), (6, .int v6)] [] (hp g) Q := by
  unfold b_Y_readAttribute_475 at e
  refine wp_p (j := J_Y_readAttribute) 2 (pc' := 479) (lv' := [(0, .ref v0), (3, .int v3), (4, .int v4), (6, .int v6)]) (st' := [.int v4, .int v6]) rfl ?_
  refine x_ge e rfl (fun e => ?_) (fun e => ?_)
  · refine wp_p (j := J_Y_readAttribute) 1 (pc' := 483) (lv' := [(0, .ref v0), (3, .int v3), (4, .int v4), (6, .int v6)]) (st' := [.ref v0]) rfl ?_
    refine x_gQ e rfl rfl fd_12_83 rfl (fun z1 e => ?_)
    refine wp_p (j := J_Y_readAttribute) 2 (pc' := 489) (lv' := [(0, .ref v0), (3, .int v3), (4, .int v4), (6, .int v6)]) (st' := [.ref v0, .int 60, .ref z1]) rfl ?_
    refine x_gI e rfl rfl fd_12_80 rfl (fun z2 e => ?_)
    refine wp_p (j := J_Y_readAttribute) 4 (pc' := 497) (lv' := [(0, .ref v0), (3, .int v3), (4, .int v4), (6, .int v6)]) (st' := [.ref v0, .int ((60 * z2) + v6), .ref z1]) rfl ?_
    refine x_gQ e rfl rfl fd_12_88 rfl (fun z3 e => ?_)
    refine wp_p (j := J_Y_readAttribute) 1 (pc' := 502) (lv' := [(0, .ref v0), (3, .int v3), (4, .int v4), (6, .int v6)]) (st' := [.int v6, .ref z3, .int ((60 * z2) + v6), .ref z1]) rfl ?_
    refine x_aB e rfl (.inl rfl) rfl (fun z4 e => ?_)
    refine x_sB e rfl rfl (fun g5 e => ?_)
    refine wp_p (j := J_Y_readAttribute) 2 (pc' := 475) (lv' := [(6, .int (v6 + 1)), (0, .ref v0), (3, .int v3), (4, .int v4)]) (st' := []) rfl ?_
    have e := Option.some.inj e; subst e; exact wp_lv (lv' := [(0, .ref v0), (3, .int v3), (4, .int v4), (6, .int (v6 + 1))]) rfl ⟨rfl, rfl, rfl, rfl, trivial⟩ c
  · have e := Option.some.inj e; subst e; exact wp_lv (lv' := [(0, .ref v0), (3, .int v3)]) rfl ⟨rfl, rfl, trivial⟩ c
noncomputable def L_Y_readAttribute_475 (v0 : Nat) (v3 : Int32) (v4 : Int32) (v6 : Int32) (g : g_S) : Option (g_S) := it (fun s : Int32 × g_S => b_Y_readAttribute_475 v0 v3 v4 s.1 s.2) (v6, g)
theorem l_Y_readAttribute_475 {L : Nat} {xs : Nat → Int32} {Q : Option Value → ab_H → Prop} {v0 : Nat} {v3 : Int32} {v4 : Int32} {v6 : Int32} {g : g_S} {r : g_S} (e : L_Y_readAttribute_475 v0 v3 v4 v6 g = some r) (c : cL_Y_readAttribute_475 L xs Q v0 v3 v4 (.inr r)) : wp (ab_ext L xs) J_Y_readAttribute 475 [(0, .ref v0), (3, .int v3), (4, .int v4), (6, .int v6)] [] (hp g) Q :=
  it_wp (P := fun s : Int32 × g_S => wp (ab_ext L xs) J_Y_readAttribute 475 [(0, .ref v0), (3, .int v3), (4, .int v4), (6, .int s.1)] [] (hp s.2) Q) (E := fun r => cL_Y_readAttribute_475 L xs Q v0 v3 v4 (.inr r)) (fun s out e c => y_Y_readAttribute_475 e (by cases out <;> exact c)) e c
theorem L_Y_readAttribute_475_eq (v0 : Nat) (v3 : Int32) (v4 : Int32) (v6 : Int32) (g : g_S) : L_Y_readAttribute_475 v0 v3 v4 v6 g = itc (b_Y_readAttribute_475 v0 v3 v4 v6 g) (fun s => L_Y_readAttribute_475 v0 v3 v4 s.1 s.2) := it_eq2 (fun s : Int32 × g_S => b_Y_readAttribute_475 v0 v3 v4 s.1 s.2) (v6, g)
def cL_Y_readAttribute_236 (L : Nat) (xs : Nat → Int32) (Q : Option Value → ab_H → Prop) (v0 : Nat) (v1 : Int32) (v2 : Int32) (v5 : Int32) (v6 : Int32) (out : (Int32 × Int32 × g_S) ⊕ (Int32 × Int32 × g_S)) : Prop := match out with
  | .inl s => wp (ab_ext L xs) J_Y_readAttribute 236 [(0, .ref v0), (1, .int v1), (2, .int v2), (3, .int s.1), (4, .int s.2.1), (5, .int v5), (6, .int v6)] [] (hp s.2.2) Q
  | .inr s => wp (ab_ext L xs) J_Y_readAttribute 285 [(0, .ref v0), (1, .int v1), (2, .int v2), (3, .int s.1), (4, .int s.2.1), (5, .int v5)] [] (hp s.2.2) Q
noncomputable def k_Y_readAttribute_275 (v0 : Nat) (v1 : Int32) (v2 : Int32) (v3 : Int32) (v4 : Int32) (v5 : Int32) (v6 : Int32) (g : g_S) : Option ((Int32 × Int32 × g_S) ⊕ (Int32 × Int32 × g_S)) :=
  (rI g 112 v0 77).bind fun z1 =>
  some (.inl (v3 + z1, v4, g))
set_option maxRecDepth 20000 in
theorem x_Y_readAttribute_275 {L : Nat} {xs : Nat → Int32} {Q : Option Value → ab_H → Prop} {v0 : Nat} {v1 : Int32} {v2 : Int32} {v3 : Int32} {v4 : Int32} {v5 : Int32} {v6 : Int32} {g : g_S} {out : (Int32 × Int32 × g_S) ⊕ (Int32 × Int32 × g_S)} (e : k_Y_readAttribute_275 v0 v1 v2 v3 v4 v5 v6 g = some out) (c : cL_Y_readAttribute_236 L xs Q v0 v1 v2 v5 v6 out) : wp (ab_ext L xs) J_Y_readAttribute 275 [(0, .ref v0), (1, .int v1), (2, .int v2), (3, .int v3), (4, .int v4), (5, .int v5), (6, .int v6)] [] (hp g) Q := by
  unfold k_Y_readAttribute_275 at e
  refine wp_p (j := J_Y_readAttribute) 2 (pc' := 277) (lv' := [(0, .ref v0), (1, .int v1), (2, .int v2), (3, .int v3), (4, .int v4), (5, .int v5), (6, .int v6)]) (st' := [.ref v0, .int v3]) rfl ?_
  refine x_gI e rfl rfl fd_12_77 rfl (fun z1 e => ?_)
  refine wp_p (j := J_Y_readAttribute) 3 (pc' := 236) (lv' := [(3, .int (v3 + z1)), (0, .ref v0), (1, .int v1), (2, .int v2), (4, .int v4), (5, .int v5), (6, .int v6)]) (st' := []) rfl ?_
  have e := Option.some.inj e; subst e; exact wp_lv (lv' := [(0, .ref v0), (1, .int v1), (2, .int v2), (3, .int (v3 + z1)), (4, .int v4), (5, .int v5), (6, .int v6)]) rfl ⟨rfl, rfl, rfl, rfl, rfl, rfl, rfl, trivial⟩ c
noncomputable def b_Y_readAttribute_236 (v0 : Nat) (v1 : Int32) (v2 : Int32) (v5 : Int32) (v6 : Int32) (v3 : Int32) (v4 : Int32) (g : g_S) : Option ((Int32 × Int32 × g_S) ⊕ (Int32 × Int32 × g_S)) :=
  if v3 < v6 then
    (rQ g 112 v0 75).bind fun z1 =>
    c2 (vc g 112 v0 (M_Y_entity v0 z1 v3 v6 g)) fun z2 g3 =>
    if v4 < 60 then
      (rQ g3 112 v0 88).bind fun z4 =>
      (sB g3 z4 v4 ((Int32.toInt8 z2).toInt32)).bind fun g5 =>
      k_Y_readAttribute_275 v0 v1 v2 v3 (v4 + 1) v5 v6 g5
    else
      k_Y_readAttribute_275 v0 v1 v2 v3 v4 v5 v6 g3
  else
    some (.inr (v3, v4, g))
set_option maxRecDepth 20000 in
theorem y_Y_readAttribute_236 {L : Nat} {xs : Nat → Int32} {Q : Option Value → ab_H → Prop} {v0 : Nat} {v1 : Int32} {v2 : Int32} {v5 : Int32} {v6 : Int32} {v3 : Int32} {v4 : Int32} {g : g_S} {out : (Int32 × Int32 × g_S) ⊕ (Int32 × Int32 × g_S)} (e : b_Y_readAttribute_236 v0 v1 v2 v5 v6 v3 v4 g = some out) (c : cL_Y_readAttribute_236 L xs Q v0 v1 v2 v5 v6 out) : wp (ab_ext L xs) J_Y_readAttribute 236 [(0, .ref v0), (1, .int v1), (2, .int v2), (3, .int v3), (4, .int v4), (5, .int v5), (6, .int v6)] [] (hp g) Q := by
  unfold b_Y_readAttribute_236 at e
  refine wp_p (j := J_Y_readAttribute) 2 (pc' := 239) (lv' := [(0, .ref v0), (1, .int v1), (2, .int v2), (3, .int v3), (4, .int v4), (5, .int v5), (6, .int v6)]) (st' := [.int v6, .int v3]) rfl ?_
  refine x_ge e rfl (fun e => ?_) (fun e => ?_)
  · refine wp_p (j := J_Y_readAttribute) 2 (pc' := 244) (lv' := [(0, .ref v0), (1, .int v1), (2, .int v2), (3, .int v3), (4, .int v4), (5, .int v5), (6, .int v6)]) (st' := [.ref v0, .ref v0]) rfl ?_
    refine x_gQ e rfl rfl fd_12_75 rfl (fun z1 e => ?_)
    refine wp_p (j := J_Y_readAttribute) 2 (pc' := 250) (lv' := [(0, .ref v0), (1, .int v1), (2, .int v2), (3, .int v3), (4, .int v4), (5, .int v5), (6, .int v6)]) (st' := [.int v6, .int v3, .ref z1, .ref v0]) rfl ?_
    refine x_cv2 (As := [.ref z1, .int v3, .int v6]) (rest := []) Value.int e rfl rfl rfl rfl rfl rfl (fun h => d_Y_entity h ⟨rfl, rfl⟩) (fun z2 g3 e => ?_)
    refine wp_p (j := J_Y_readAttribute) 3 (pc' := 259) (lv' := [(7, .int z2), (0, .ref v0), (1, .int v1), (2, .int v2), (3, .int v3), (4, .int v4), (5, .int v5), (6, .int v6)]) (st' := [.int 60, .int v4]) rfl ?_
    refine x_ge e rfl (fun e => ?_) (fun e => ?_)
    · refine wp_p (j := J_Y_readAttribute) 1 (pc' := 263) (lv' := [(7, .int z2), (0, .ref v0), (1, .int v1), (2, .int v2), (3, .int v3), (4, .int v4), (5, .int v5), (6, .int v6)]) (st' := [.ref v0]) rfl ?_
      refine x_gQ e rfl rfl fd_12_88 rfl (fun z4 e => ?_)
      refine wp_p (j := J_Y_readAttribute) 3 (pc' := 271) (lv' := [(7, .int z2), (0, .ref v0), (1, .int v1), (2, .int v2), (3, .int v3), (4, .int v4), (5, .int v5), (6, .int v6)]) (st' := [.int ((Int32.toInt8 z2).toInt32), .int v4, .ref z4]) rfl ?_
      refine x_sB e rfl rfl (fun g5 e => ?_)
      refine wp_p (j := J_Y_readAttribute) 1 (pc' := 275) (lv' := [(4, .int (v4 + 1)), (7, .int z2), (0, .ref v0), (1, .int v1), (2, .int v2), (3, .int v3), (5, .int v5), (6, .int v6)]) (st' := []) rfl ?_
      exact wp_lv (lv' := [(0, .ref v0), (1, .int v1), (2, .int v2), (3, .int v3), (4, .int (v4 + 1)), (5, .int v5), (6, .int v6)]) rfl ⟨rfl, rfl, rfl, rfl, rfl, rfl, rfl, trivial⟩ (x_Y_readAttribute_275 e c)
    · exact wp_lv (lv' := [(0, .ref v0), (1, .int v1), (2, .int v2), (3, .int v3), (4, .int v4), (5, .int v5), (6, .int v6)]) rfl ⟨rfl, rfl, rfl, rfl, rfl, rfl, rfl, trivial⟩ (x_Y_readAttribute_275 e c)
  · have e := Option.some.inj e; subst e; exact wp_lv (lv' := [(0, .ref v0), (1, .int v1), (2, .int v2), (3, .int v3), (4, .int v4), (5, .int v5)]) rfl ⟨rfl, rfl, rfl, rfl, rfl, rfl, trivial⟩ c
noncomputable def L_Y_readAttribute_236 (v0 : Nat) (v1 : Int32) (v2 : Int32) (v5 : Int32) (v6 : Int32) (v3 : Int32) (v4 : Int32) (g : g_S) : Option (Int32 × Int32 × g_S) := it (fun s : Int32 × Int32 × g_S => b_Y_readAttribute_236 v0 v1 v2 v5 v6 s.1 s.2.1 s.2.2) (v3, v4, g)
theorem l_Y_readAttribute_236 {L : Nat} {xs : Nat → Int32} {Q : Option Value → ab_H → Prop} {v0 : Nat} {v1 : Int32} {v2 : Int32} {v5 : Int32} {v6 : Int32} {v3 : Int32} {v4 : Int32} {g : g_S} {r : Int32 × Int32 × g_S} (e : L_Y_readAttribute_236 v0 v1 v2 v5 v6 v3 v4 g = some r) (c : cL_Y_readAttribute_236 L xs Q v0 v1 v2 v5 v6 (.inr r)) : wp (ab_ext L xs) J_Y_readAttribute 236 [(0, .ref v0), (1, .int v1), (2, .int v2), (3, .int v3), (4, .int v4), (5, .int v5), (6, .int v6)] [] (hp g) Q :=
  it_wp (P := fun s : Int32 × Int32 × g_S => wp (ab_ext L xs) J_Y_readAttribute 236 [(0, .ref v0), (1, .int v1), (2, .int v2), (3, .int s.1), (4, .int s.2.1), (5, .int v5), (6, .int v6)] [] (hp s.2.2) Q) (E := fun r => cL_Y_readAttribute_236 L xs Q v0 v1 v2 v5 v6 (.inr r)) (fun s out e c => y_Y_readAttribute_236 e (by cases out <;> exact c)) e c
theorem L_Y_readAttribute_236_eq (v0 : Nat) (v1 : Int32) (v2 : Int32) (v5 : Int32) (v6 : Int32) (v3 : Int32) (v4 : Int32) (g : g_S) : L_Y_readAttribute_236 v0 v1 v2 v5 v6 v3 v4 g = itc (b_Y_readAttribute_236 v0 v1 v2 v5 v6 v3 v4 g) (fun s => L_Y_readAttribute_236 v0 v1 v2 v5 v6 s.1 s.2.1 s.2.2) := it_eq2 (fun s : Int32 × Int32 × g_S => b_Y_readAttribute_236 v0 v1 v2 v5 v6 s.1 s.2.1 s.2.2) (v3, v4, g)
def cL_Y_readAttribute_176 (L : Nat) (xs : Nat → Int32) (Q : Option Value → ab_H → Prop) (v0 : Nat) (v1 : Int32) (v2 : Int32) (v3 : Int32) (v4 : Int32) (v5 : Int32) (g : g_S) (out : (Int32) ⊕ (Int32)) : Prop := match out with
  | .inl s => wp (ab_ext L xs) J_Y_readAttribute 176 [(0, .ref v0), (1, .int v1), (2, .int v2), (3, .int v3), (4, .int v4), (5, .int v5), (6, .int s)] [] (hp g) Q
  | .inr s => wp (ab_ext L xs) J_Y_readAttribute 236 [(0, .ref v0), (1, .int v1), (2, .int v2), (3, .int v3), (4, .int v4), (5, .int v5), (6, .int s)] [] (hp g) Q
noncomputable def b_Y_readAttribute_176 (v0 : Nat) (v1 : Int32) (v2 : Int32) (v3 : Int32) (v4 : Int32) (v5 : Int32) (v6 : Int32) (g : g_S) : Option ((Int32) ⊕ (Int32)) :=
  (rI g 112 v0 76).bind fun z1 =>
  if v6 < z1 then
    if 0 < v5 then
      (rQ g 112 v0 75).bind fun z2 =>
      (aI g 1 z2 v6).bind fun z3 =>
      if z3 = v5 then
        some (.inr v6)
      else
        some (.inl (v6 + 1))
    else
      (rQ g 112 v0 75).bind fun z4 =>
      (aI g 1 z4 v6).bind fun z5 =>
      (M_Y_isBlank z5 g).bind fun z6 =>
      if z6 = 0 then
        (rQ g 112 v0 75).bind fun z7 =>
        (aI g 1 z7 v6).bind fun z8 =>
        if z8 = 62 then
          some (.inr v6)
        else
          some (.inl (v6 + 1))
      else
        some (.inr v6)
  else
    some (.inr v6)
set_option maxRecDepth 20000 in
theorem y_Y_readAttribute_176 {L : Nat} {xs : Nat → Int32} {Q : Option Value → ab_H → Prop} {v0 : Nat} {v1 : Int32} {v2 : Int32} {v3 : Int32} {v4 : Int32} {v5 : Int32} {v6 : Int32} {g : g_S} {out : (Int32) ⊕ (Int32)} (e : b_Y_readAttribute_176 v0 v1 v2 v3 v4 v5 v6 g = some out) (c : cL_Y_readAttribute_176 L xs Q v0 v1 v2 v3 v4 v5 g out) : wp (ab_ext L xs) J_Y_readAttribute 176 [(0, .ref v0), (1, .int v1), (2, .int v2), (3, .int v3), (4, .int v4), (5, .int v5), (6, .int v6)] [] (hp g) Q := by
  unfold b_Y_readAttribute_176 at e
  refine wp_p (j := J_Y_readAttribute) 2 (pc' := 179) (lv' := [(0, .ref v0), (1, .int v1), (2, .int v2), (3, .int v3), (4, .int v4), (5, .int v5), (6, .int v6)]) (st' := [.ref v0, .int v6]) rfl ?_
  refine x_gI e rfl rfl fd_12_76 rfl (fun z1 e => ?_)
  refine x_ge e rfl (fun e => ?_) (fun e => ?_)
  · refine wp_p (j := J_Y_readAttribute) 1 (pc' := 187) (lv' := [(0, .ref v0), (1, .int v1), (2, .int v2), (3, .int v3), (4, .int v4), (5, .int v5), (6, .int v6)]) (st' := [.int v5]) rfl ?_
    refine z_le e rfl (fun e => ?_) (fun e => ?_)
    · refine wp_p (j := J_Y_readAttribute) 1 (pc' := 191) (lv' := [(0, .ref v0), (1, .int v1), (2, .int v2), (3, .int v3), (4, .int v4), (5, .int v5), (6, .int v6)]) (st' := [.ref v0]) rfl ?_
      refine x_gQ e rfl rfl fd_12_75 rfl (fun z2 e => ?_)
      refine wp_p (j := J_Y_readAttribute) 1 (pc' := 196) (lv' := [(0, .ref v0), (1, .int v1), (2, .int v2), (3, .int v3), (4, .int v4), (5, .int v5), (6, .int v6)]) (st' := [.int v6, .ref z2]) rfl ?_
      refine x_aB e rfl (.inl rfl) rfl (fun z3 e => ?_)
      refine wp_p (j := J_Y_readAttribute) 1 (pc' := 199) (lv' := [(0, .ref v0), (1, .int v1), (2, .int v2), (3, .int v3), (4, .int v4), (5, .int v5), (6, .int v6)]) (st' := [.int v5, .int z3]) rfl ?_
      refine x_eq e rfl (fun e => ?_) (fun e => ?_)
      · have e := Option.some.inj e; subst e; exact wp_lv (lv' := [(0, .ref v0), (1, .int v1), (2, .int v2), (3, .int v3), (4, .int v4), (5, .int v5), (6, .int v6)]) rfl ⟨rfl, rfl, rfl, rfl, rfl, rfl, rfl, trivial⟩ c
      · refine wp_p (j := J_Y_readAttribute) 3 (pc' := 176) (lv' := [(6, .int (v6 + 1)), (0, .ref v0), (1, .int v1), (2, .int v2), (3, .int v3), (4, .int v4), (5, .int v5)]) (st' := []) rfl ?_
        have e := Option.some.inj e; subst e; exact wp_lv (lv' := [(0, .ref v0), (1, .int v1), (2, .int v2), (3, .int v3), (4, .int v4), (5, .int v5), (6, .int (v6 + 1))]) rfl ⟨rfl, rfl, rfl, rfl, rfl, rfl, rfl, trivial⟩ c
    · refine wp_p (j := J_Y_readAttribute) 1 (pc' := 206) (lv' := [(0, .ref v0), (1, .int v1), (2, .int v2), (3, .int v3), (4, .int v4), (5, .int v5), (6, .int v6)]) (st' := [.ref v0]) rfl ?_
      refine x_gQ e rfl rfl fd_12_75 rfl (fun z4 e => ?_)
      refine wp_p (j := J_Y_readAttribute) 1 (pc' := 211) (lv' := [(0, .ref v0), (1, .int v1), (2, .int v2), (3, .int v3), (4, .int v4), (5, .int v5), (6, .int v6)]) (st' := [.int v6, .ref z4]) rfl ?_
      refine x_aB e rfl (.inl rfl) rfl (fun z5 e => ?_)
      refine x_cs1 (As := [.int z5]) (rest := []) Value.int e rfl rfl rfl rfl rfl (fun h => d_Y_isBlank h ⟨rfl, rfl⟩) (fun z6 e => ?_)
      refine z_ne e rfl (fun e => ?_) (fun e => ?_)
      · refine wp_p (j := J_Y_readAttribute) 1 (pc' := 219) (lv' := [(0, .ref v0), (1, .int v1), (2, .int v2), (3, .int v3), (4, .int v4), (5, .int v5), (6, .int v6)]) (st' := [.ref v0]) rfl ?_
        refine x_gQ e rfl rfl fd_12_75 rfl (fun z7 e => ?_)
        refine wp_p (j := J_Y_readAttribute) 1 (pc' := 224) (lv' := [(0, .ref v0), (1, .int v1), (2, .int v2), (3, .int v3), (4, .int v4), (5, .int v5), (6, .int v6)]) (st' := [.int v6, .ref z7]) rfl ?_
        refine x_aB e rfl (.inl rfl) rfl (fun z8 e => ?_)
        refine wp_p (j := J_Y_readAttribute) 1 (pc' := 227) (lv' := [(0, .ref v0), (1, .int v1), (2, .int v2), (3, .int v3), (4, .int v4), (5, .int v5), (6, .int v6)]) (st' := [.int 62, .int z8]) rfl ?_
        refine x_eq e rfl (fun e => ?_) (fun e => ?_)
        · have e := Option.some.inj e; subst e; exact wp_lv (lv' := [(0, .ref v0), (1, .int v1), (2, .int v2), (3, .int v3), (4, .int v4), (5, .int v5), (6, .int v6)]) rfl ⟨rfl, rfl, rfl, rfl, rfl, rfl, rfl, trivial⟩ c
        · refine wp_p (j := J_Y_readAttribute) 2 (pc' := 176) (lv' := [(6, .int (v6 + 1)), (0, .ref v0), (1, .int v1), (2, .int v2), (3, .int v3), (4, .int v4), (5, .int v5)]) (st' := []) rfl ?_
          have e := Option.some.inj e; subst e; exact wp_lv (lv' := [(0, .ref v0), (1, .int v1), (2, .int v2), (3, .int v3), (4, .int v4), (5, .int v5), (6, .int (v6 + 1))]) rfl ⟨rfl, rfl, rfl, rfl, rfl, rfl, rfl, trivial⟩ c
      · have e := Option.some.inj e; subst e; exact wp_lv (lv' := [(0, .ref v0), (1, .int v1), (2, .int v2), (3, .int v3), (4, .int v4), (5, .int v5), (6, .int v6)]) rfl ⟨rfl, rfl, rfl, rfl, rfl, rfl, rfl, trivial⟩ c
  · have e := Option.some.inj e; subst e; exact wp_lv (lv' := [(0, .ref v0), (1, .int v1), (2, .int v2), (3, .int v3), (4, .int v4), (5, .int v5), (6, .int v6)]) rfl ⟨rfl, rfl, rfl, rfl, rfl, rfl, rfl, trivial⟩ c
noncomputable def L_Y_readAttribute_176 (v0 : Nat) (v1 : Int32) (v2 : Int32) (v3 : Int32) (v4 : Int32) (v5 : Int32) (v6 : Int32) (g : g_S) : Option (Int32) := it (fun s : Int32 => b_Y_readAttribute_176 v0 v1 v2 v3 v4 v5 s g) (v6)
theorem l_Y_readAttribute_176 {L : Nat} {xs : Nat → Int32} {Q : Option Value → ab_H → Prop} {v0 : Nat} {v1 : Int32} {v2 : Int32} {v3 : Int32} {v4 : Int32} {v5 : Int32} {v6 : Int32} {g : g_S} {r : Int32} (e : L_Y_readAttribute_176 v0 v1 v2 v3 v4 v5 v6 g = some r) (c : cL_Y_readAttribute_176 L xs Q v0 v1 v2 v3 v4 v5 g (.inr r)) : wp (ab_ext L xs) J_Y_readAttribute 176 [(0, .ref v0), (1, .int v1), (2, .int v2), (3, .int v3), (4, .int v4), (5, .int v5), (6, .int v6)] [] (hp g) Q :=
  it_wp (P := fun s : Int32 => wp (ab_ext L xs) J_Y_readAttribute 176 [(0, .ref v0), (1, .int v1), (2, .int v2), (3, .int v3), (4, .int v4), (5, .int v5), (6, .int s)] [] (hp g) Q) (E := fun r => cL_Y_readAttribute_176 L xs Q v0 v1 v2 v3 v4 v5 g (.inr r)) (fun s out e c => y_Y_readAttribute_176 e (by cases out <;> exact c)) e c
theorem L_Y_readAttribute_176_eq (v0 : Nat) (v1 : Int32) (v2 : Int32) (v3 : Int32) (v4 : Int32) (v5 : Int32) (v6 : Int32) (g : g_S) : L_Y_readAttribute_176 v0 v1 v2 v3 v4 v5 v6 g = itc (b_Y_readAttribute_176 v0 v1 v2 v3 v4 v5 v6 g) (fun s => L_Y_readAttribute_176 v0 v1 v2 v3 v4 v5 s g) := it_eq2 (fun s : Int32 => b_Y_readAttribute_176 v0 v1 v2 v3 v4 v5 s g) (v6)
def cL_Y_readAttribute_320 (L : Nat) (xs : Nat → Int32) (Q : Option Value → ab_H → Prop) (v0 : Nat) (v1 : Int32) (v2 : Int32) (v3 : Int32) (v4 : Int32) (g : g_S) (out : (Int32 × Int32) ⊕ (Int32)) : Prop := match out with
  | .inl s => wp (ab_ext L xs) J_Y_readAttribute 320 [(0, .ref v0), (1, .int v1), (2, .int v2), (3, .int v3), (4, .int v4), (5, .int s.1), (6, .int s.2)] [] (hp g) Q
  | .inr s => wp (ab_ext L xs) J_Y_readAttribute 379 [(0, .ref v0), (1, .int v1), (2, .int v2), (3, .int v3), (4, .int v4), (5, .int s)] [] (hp g) Q
noncomputable def k_Y_readAttribute_366 (v0 : Nat) (v1 : Int32) (v2 : Int32) (v3 : Int32) (v4 : Int32) (v6 : Int32) (g : g_S) : Option ((Int32 × Int32) ⊕ (Int32)) :=
  some (.inl (1, v6 + 1))
set_option maxRecDepth 20000 in
theorem x_Y_readAttribute_366 {L : Nat} {xs : Nat → Int32} {Q : Option Value → ab_H → Prop} {v0 : Nat} {v1 : Int32} {v2 : Int32} {v3 : Int32} {v4 : Int32} {v6 : Int32} {g : g_S} {out : (Int32 × Int32) ⊕ (Int32)} (e : k_Y_readAttribute_366 v0 v1 v2 v3 v4 v6 g = some out) (c : cL_Y_readAttribute_320 L xs Q v0 v1 v2 v3 v4 g out) : wp (ab_ext L xs) J_Y_readAttribute 366 [(0, .ref v0), (1, .int v1), (2, .int v2), (3, .int v3), (4, .int v4), (6, .int v6)] [] (hp g) Q := by
  unfold k_Y_readAttribute_366 at e
  refine wp_p (j := J_Y_readAttribute) 5 (pc' := 320) (lv' := [(6, .int (v6 + 1)), (5, .int 1), (0, .ref v0), (1, .int v1), (2, .int v2), (3, .int v3), (4, .int v4)]) (st' := []) rfl ?_
  have e := Option.some.inj e; subst e; exact wp_lv (lv' := [(0, .ref v0), (1, .int v1), (2, .int v2), (3, .int v3), (4, .int v4), (5, .int 1), (6, .int (v6 + 1))]) rfl ⟨rfl, rfl, rfl, rfl, rfl, rfl, rfl, trivial⟩ c
noncomputable def b_Y_readAttribute_320 (v0 : Nat) (v1 : Int32) (v2 : Int32) (v3 : Int32) (v4 : Int32) (v5 : Int32) (v6 : Int32) (g : g_S) : Option ((Int32 × Int32) ⊕ (Int32)) :=
  (rI g 112 v0 80).bind fun z1 =>
  if v6 < z1 then
    if v5 = 0 then
      (rQ g 112 v0 82).bind fun z2 =>
      (aI g 0 z2 v6).bind fun z3 =>
      if z3 = v2 then
        (rQ g 112 v0 81).bind fun z4 =>
        (rQ g 112 v0 87).bind fun z5 =>
        (M_Y_same z4 (8 * v6) z5 0 v2 g).bind fun z6 =>
        if z6 = 0 then
          some (.inl (0, v6 + 1))
        else
          k_Y_readAttribute_366 v0 v1 v2 v3 v4 v6 g
      else
        some (.inl (0, v6 + 1))
    else
      k_Y_readAttribute_366 v0 v1 v2 v3 v4 v6 g
  else
    some (.inr v5)
set_option maxRecDepth 20000 in
theorem y_Y_readAttribute_320 {L : Nat} {xs : Nat → Int32} {Q : Option Value → ab_H → Prop} {v0 : Nat} {v1 : Int32} {v2 : Int32} {v3 : Int32} {v4 : Int32} {v5 : Int32} {v6 : Int32} {g : g_S} {out : (Int32 × Int32) ⊕ (Int32)} (e : b_Y_readAttribute_320 v0 v1 v2 v3 v4 v5 v6 g = some out) (c : cL_Y_readAttribute_320 L xs Q v0 v1 v2 v3 v4 g out) : wp (ab_ext L xs) J_Y_readAttribute 320 [(0, .ref v0), (1, .int v1), (2, .int v2), (3, .int v3), (4, .int v4), (5, .int v5), (6, .int v6)] [] (hp g) Q := by
  unfold b_Y_readAttribute_320 at e
  refine wp_p (j := J_Y_readAttribute) 2 (pc' := 323) (lv' := [(0, .ref v0), (1, .int v1), (2, .int v2), (3, .int v3), (4, .int v4), (5, .int v5), (6, .int v6)]) (st' := [.ref v0, .int v6]) rfl ?_
  refine x_gI e rfl rfl fd_12_80 rfl (fun z1 e => ?_)
  refine x_ge e rfl (fun e => ?_) (fun e => ?_)
  · refine wp_p (j := J_Y_readAttribute) 1 (pc' := 331) (lv' := [(0, .ref v0), (1, .int v1), (2, .int v2), (3, .int v3), (4, .int v4), (5, .int v5), (6, .int v6)]) (st' := [.int v5]) rfl ?_
    refine z_ne e rfl (fun e => ?_) (fun e => ?_)
    · refine wp_p (j := J_Y_readAttribute) 1 (pc' := 335) (lv' := [(0, .ref v0), (1, .int v1), (2, .int v2), (3, .int v3), (4, .int v4), (5, .int v5), (6, .int v6)]) (st' := [.ref v0]) rfl ?_
      refine x_gQ e rfl rfl fd_12_82 rfl (fun z2 e => ?_)
      refine wp_p (j := J_Y_readAttribute) 1 (pc' := 340) (lv' := [(0, .ref v0), (1, .int v1), (2, .int v2), (3, .int v3), (4, .int v4), (5, .int v5), (6, .int v6)]) (st' := [.int v6, .ref z2]) rfl ?_
      refine x_aI e rfl rfl (fun z3 e => ?_)
      refine wp_p (j := J_Y_readAttribute) 1 (pc' := 342) (lv' := [(0, .ref v0), (1, .int v1), (2, .int v2), (3, .int v3), (4, .int v4), (5, .int v5), (6, .int v6)]) (st' := [.int v2, .int z3]) rfl ?_
      refine x_ne e rfl (fun e => ?_) (fun e => ?_)
      · refine wp_p (j := J_Y_readAttribute) 1 (pc' := 346) (lv' := [(0, .ref v0), (1, .int v1), (2, .int v2), (3, .int v3), (4, .int v4), (5, .int v5), (6, .int v6)]) (st' := [.ref v0]) rfl ?_
        refine x_gQ e rfl rfl fd_12_81 rfl (fun z4 e => ?_)
        refine wp_p (j := J_Y_readAttribute) 4 (pc' := 355) (lv' := [(0, .ref v0), (1, .int v1), (2, .int v2), (3, .int v3), (4, .int v4), (5, .int v5), (6, .int v6)]) (st' := [.ref v0, .int (8 * v6), .ref z4]) rfl ?_
        refine x_gQ e rfl rfl fd_12_87 rfl (fun z5 e => ?_)
        refine wp_p (j := J_Y_readAttribute) 2 (pc' := 360) (lv' := [(0, .ref v0), (1, .int v1), (2, .int v2), (3, .int v3), (4, .int v4), (5, .int v5), (6, .int v6)]) (st' := [.int v2, .int 0, .ref z5, .int (8 * v6), .ref z4]) rfl ?_
        refine x_cs1 (As := [.ref z4, .int (8 * v6), .ref z5, .int 0, .int v2]) (rest := []) Value.int e rfl rfl rfl rfl rfl (fun h => d_Y_same h ⟨rfl, rfl⟩) (fun z6 e => ?_)
        refine z_eq e rfl (fun e => ?_) (fun e => ?_)
        · refine wp_p (j := J_Y_readAttribute) 4 (pc' := 320) (lv' := [(6, .int (v6 + 1)), (5, .int 0), (0, .ref v0), (1, .int v1), (2, .int v2), (3, .int v3), (4, .int v4)]) (st' := []) rfl ?_
          have e := Option.some.inj e; subst e; exact wp_lv (lv' := [(0, .ref v0), (1, .int v1), (2, .int v2), (3, .int v3), (4, .int v4), (5, .int 0), (6, .int (v6 + 1))]) rfl ⟨rfl, rfl, rfl, rfl, rfl, rfl, rfl, trivial⟩ c
        · exact wp_lv (lv' := [(0, .ref v0), (1, .int v1), (2, .int v2), (3, .int v3), (4, .int v4), (6, .int v6)]) rfl ⟨rfl, rfl, rfl, rfl, rfl, rfl, trivial⟩ (x_Y_readAttribute_366 e c)
      · refine wp_p (j := J_Y_readAttribute) 4 (pc' := 320) (lv' := [(6, .int (v6 + 1)), (5, .int 0), (0, .ref v0), (1, .int v1), (2, .int v2), (3, .int v3), (4, .int v4)]) (st' := []) rfl ?_
        have e := Option.some.inj e; subst e; exact wp_lv (lv' := [(0, .ref v0), (1, .int v1), (2, .int v2), (3, .int v3), (4, .int v4), (5, .int 0), (6, .int (v6 + 1))]) rfl ⟨rfl, rfl, rfl, rfl, rfl, rfl, rfl, trivial⟩ c
    · exact wp_lv (lv' := [(0, .ref v0), (1, .int v1), (2, .int v2), (3, .int v3), (4, .int v4), (6, .int v6)]) rfl ⟨rfl, rfl, rfl, rfl, rfl, rfl, trivial⟩ (x_Y_readAttribute_366 e c)
  · have e := Option.some.inj e; subst e; exact wp_lv (lv' := [(0, .ref v0), (1, .int v1), (2, .int v2), (3, .int v3), (4, .int v4), (5, .int v5)]) rfl ⟨rfl, rfl, rfl, rfl, rfl, rfl, trivial⟩ c
noncomputable def L_Y_readAttribute_320 (v0 : Nat) (v1 : Int32) (v2 : Int32) (v3 : Int32) (v4 : Int32) (v5 : Int32) (v6 : Int32) (g : g_S) : Option (Int32) := it (fun s : Int32 × Int32 => b_Y_readAttribute_320 v0 v1 v2 v3 v4 s.1 s.2 g) (v5, v6)
theorem l_Y_readAttribute_320 {L : Nat} {xs : Nat → Int32} {Q : Option Value → ab_H → Prop} {v0 : Nat} {v1 : Int32} {v2 : Int32} {v3 : Int32} {v4 : Int32} {v5 : Int32} {v6 : Int32} {g : g_S} {r : Int32} (e : L_Y_readAttribute_320 v0 v1 v2 v3 v4 v5 v6 g = some r) (c : cL_Y_readAttribute_320 L xs Q v0 v1 v2 v3 v4 g (.inr r)) : wp (ab_ext L xs) J_Y_readAttribute 320 [(0, .ref v0), (1, .int v1), (2, .int v2), (3, .int v3), (4, .int v4), (5, .int v5), (6, .int v6)] [] (hp g) Q :=
  it_wp (P := fun s : Int32 × Int32 => wp (ab_ext L xs) J_Y_readAttribute 320 [(0, .ref v0), (1, .int v1), (2, .int v2), (3, .int v3), (4, .int v4), (5, .int s.1), (6, .int s.2)] [] (hp g) Q) (E := fun r => cL_Y_readAttribute_320 L xs Q v0 v1 v2 v3 v4 g (.inr r)) (fun s out e c => y_Y_readAttribute_320 e (by cases out <;> exact c)) e c
theorem L_Y_readAttribute_320_eq (v0 : Nat) (v1 : Int32) (v2 : Int32) (v3 : Int32) (v4 : Int32) (v5 : Int32) (v6 : Int32) (g : g_S) : L_Y_readAttribute_320 v0 v1 v2 v3 v4 v5 v6 g = itc (b_Y_readAttribute_320 v0 v1 v2 v3 v4 v5 v6 g) (fun s => L_Y_readAttribute_320 v0 v1 v2 v3 v4 s.1 s.2 g) := it_eq2 (fun s : Int32 × Int32 => b_Y_readAttribute_320 v0 v1 v2 v3 v4 s.1 s.2 g) (v5, v6)
def cL_Y_readAttribute_4 (L : Nat) (xs : Nat → Int32) (Q : Option Value → ab_H → Prop) (v0 : Nat) (v1 : Int32) (out : (Int32 × Int32 × g_S) ⊕ (Int32 × Int32 × g_S)) : Prop := match out with
  | .inl s => wp (ab_ext L xs) J_Y_readAttribute 4 [(0, .ref v0), (1, .int v1), (2, .int s.1), (3, .int s.2.1)] [] (hp s.2.2) Q
  | .inr s => wp (ab_ext L xs) J_Y_readAttribute 93 [(0, .ref v0), (1, .int v1), (2, .int s.1), (3, .int s.2.1)] [] (hp s.2.2) Q
noncomputable def k_Y_readAttribute_62 (v0 : Nat) (v1 : Int32) (v2 : Int32) (v3 : Int32) (g : g_S) : Option ((Int32 × Int32 × g_S) ⊕ (Int32 × Int32 × g_S)) :=
  if v2 < 8 then
    (rQ g 112 v0 87).bind fun z1 =>
    (rQ g 112 v0 75).bind fun z2 =>
    (aI g 1 z2 v3).bind fun z3 =>
    (M_Y_small z3 g).bind fun z4 =>
    (sB g z1 v2 ((Int32.toInt8 z4).toInt32)).bind fun g5 =>
    some (.inl (v2 + 1, v3 + 1, g5))
  else
    some (.inl (v2, v3 + 1, g))
set_option maxRecDepth 20000 in
theorem x_Y_readAttribute_62 {L : Nat} {xs : Nat → Int32} {Q : Option Value → ab_H → Prop} {v0 : Nat} {v1 : Int32} {v2 : Int32} {v3 : Int32} {g : g_S} {out : (Int32 × Int32 × g_S) ⊕ (Int32 × Int32 × g_S)} (e : k_Y_readAttribute_62 v0 v1 v2 v3 g = some out) (c : cL_Y_readAttribute_4 L xs Q v0 v1 out) : wp (ab_ext L xs) J_Y_readAttribute 62 [(0, .ref v0), (1, .int v1), (2, .int v2), (3, .int v3)] [] (hp g) Q := by
  unfold k_Y_readAttribute_62 at e
  refine wp_p (j := J_Y_readAttribute) 2 (pc' := 65) (lv' := [(0, .ref v0), (1, .int v1), (2, .int v2), (3, .int v3)]) (st' := [.int 8, .int v2]) rfl ?_
  refine x_ge e rfl (fun e => ?_) (fun e => ?_)
  · refine wp_p (j := J_Y_readAttribute) 1 (pc' := 69) (lv' := [(0, .ref v0), (1, .int v1), (2, .int v2), (3, .int v3)]) (st' := [.ref v0]) rfl ?_
    refine x_gQ e rfl rfl fd_12_87 rfl (fun z1 e => ?_)
    refine wp_p (j := J_Y_readAttribute) 2 (pc' := 74) (lv' := [(0, .ref v0), (1, .int v1), (2, .int v2), (3, .int v3)]) (st' := [.ref v0, .int v2, .ref z1]) rfl ?_
    refine x_gQ e rfl rfl fd_12_75 rfl (fun z2 e => ?_)
    refine wp_p (j := J_Y_readAttribute) 1 (pc' := 78) (lv' := [(0, .ref v0), (1, .int v1), (2, .int v2), (3, .int v3)]) (st' := [.int v3, .ref z2, .int v2, .ref z1]) rfl ?_
    refine x_aB e rfl (.inl rfl) rfl (fun z3 e => ?_)
    refine x_cs1 (As := [.int z3]) (rest := [.int v2, .ref z1]) Value.int e rfl rfl rfl rfl rfl (fun h => d_Y_small h ⟨rfl, rfl⟩) (fun z4 e => ?_)
    refine wp_p (j := J_Y_readAttribute) 1 (pc' := 83) (lv' := [(0, .ref v0), (1, .int v1), (2, .int v2), (3, .int v3)]) (st' := [.int ((Int32.toInt8 z4).toInt32), .int v2, .ref z1]) rfl ?_
    refine x_sB e rfl rfl (fun g5 e => ?_)
    refine wp_p (j := J_Y_readAttribute) 3 (pc' := 4) (lv' := [(3, .int (v3 + 1)), (2, .int (v2 + 1)), (0, .ref v0), (1, .int v1)]) (st' := []) rfl ?_
    have e := Option.some.inj e; subst e; exact wp_lv (lv' := [(0, .ref v0), (1, .int v1), (2, .int (v2 + 1)), (3, .int (v3 + 1))]) rfl ⟨rfl, rfl, rfl, rfl, trivial⟩ c
  · refine wp_p (j := J_Y_readAttribute) 2 (pc' := 4) (lv' := [(3, .int (v3 + 1)), (0, .ref v0), (1, .int v1), (2, .int v2)]) (st' := []) rfl ?_
    have e := Option.some.inj e; subst e; exact wp_lv (lv' := [(0, .ref v0), (1, .int v1), (2, .int v2), (3, .int (v3 + 1))]) rfl ⟨rfl, rfl, rfl, rfl, trivial⟩ c
noncomputable def b_Y_readAttribute_4 (v0 : Nat) (v1 : Int32) (v2 : Int32) (v3 : Int32) (g : g_S) : Option ((Int32 × Int32 × g_S) ⊕ (Int32 × Int32 × g_S)) :=
  (rI g 112 v0 76).bind fun z1 =>
  if v3 < z1 then
    if v3 = v1 then
      k_Y_readAttribute_62 v0 v1 v2 v3 g
    else
      (rQ g 112 v0 75).bind fun z2 =>
      (aI g 1 z2 v3).bind fun z3 =>
      if z3 = 61 then
        some (.inr (v2, v3, g))
      else
        (rQ g 112 v0 75).bind fun z4 =>
        (aI g 1 z4 v3).bind fun z5 =>
        (M_Y_isBlank z5 g).bind fun z6 =>
        if z6 = 0 then
          (rQ g 112 v0 75).bind fun z7 =>
          (aI g 1 z7 v3).bind fun z8 =>
          if z8 = 47 then
            some (.inr (v2, v3, g))
          else
            (rQ g 112 v0 75).bind fun z9 =>
            (aI g 1 z9 v3).bind fun z10 =>
            if z10 = 62 then
              some (.inr (v2, v3, g))
            else
              k_Y_readAttribute_62 v0 v1 v2 v3 g
        else
          some (.inr (v2, v3, g))
  else
    some (.inr (v2, v3, g))
set_option maxRecDepth 20000 in
theorem y_Y_readAttribute_4 {L : Nat} {xs : Nat → Int32} {Q : Option Value → ab_H → Prop} {v0 : Nat} {v1 : Int32} {v2 : Int32} {v3 : Int32} {g : g_S} {out : (Int32 × Int32 × g_S) ⊕ (Int32 × Int32 × g_S)} (e : b_Y_readAttribute_4 v0 v1 v2 v3 g = some out) (c : cL_Y_readAttribute_4 L xs Q v0 v1 out) : wp (ab_ext L xs) J_Y_readAttribute 4 [(0, .ref v0), (1, .int v1), (2, .int v2), (3, .int v3)] [] (hp g) Q := by
  unfold b_Y_readAttribute_4 at e
  refine wp_p (j := J_Y_readAttribute) 2 (pc' := 6) (lv' := [(0, .ref v0), (1, .int v1), (2, .int v2), (3, .int v3)]) (st' := [.ref v0, .int v3]) rfl ?_
  refine x_gI e rfl rfl fd_12_76 rfl (fun z1 e => ?_)
  refine x_ge e rfl (fun e => ?_) (fun e => ?_)
  · refine wp_p (j := J_Y_readAttribute) 2 (pc' := 14) (lv' := [(0, .ref v0), (1, .int v1), (2, .int v2), (3, .int v3)]) (st' := [.int v1, .int v3]) rfl ?_
    refine x_eq e rfl (fun e => ?_) (fun e => ?_)
    · exact wp_lv (lv' := [(0, .ref v0), (1, .int v1), (2, .int v2), (3, .int v3)]) rfl ⟨rfl, rfl, rfl, rfl, trivial⟩ (x_Y_readAttribute_62 e c)
    · refine wp_p (j := J_Y_readAttribute) 1 (pc' := 18) (lv' := [(0, .ref v0), (1, .int v1), (2, .int v2), (3, .int v3)]) (st' := [.ref v0]) rfl ?_
      refine x_gQ e rfl rfl fd_12_75 rfl (fun z2 e => ?_)
      refine wp_p (j := J_Y_readAttribute) 1 (pc' := 22) (lv' := [(0, .ref v0), (1, .int v1), (2, .int v2), (3, .int v3)]) (st' := [.int v3, .ref z2]) rfl ?_
      refine x_aB e rfl (.inl rfl) rfl (fun z3 e => ?_)
      refine wp_p (j := J_Y_readAttribute) 1 (pc' := 25) (lv' := [(0, .ref v0), (1, .int v1), (2, .int v2), (3, .int v3)]) (st' := [.int 61, .int z3]) rfl ?_
      refine x_eq e rfl (fun e => ?_) (fun e => ?_)
      · have e := Option.some.inj e; subst e; exact wp_lv (lv' := [(0, .ref v0), (1, .int v1), (2, .int v2), (3, .int v3)]) rfl ⟨rfl, rfl, rfl, rfl, trivial⟩ c
      · refine wp_p (j := J_Y_readAttribute) 1 (pc' := 29) (lv' := [(0, .ref v0), (1, .int v1), (2, .int v2), (3, .int v3)]) (st' := [.ref v0]) rfl ?_
        refine x_gQ e rfl rfl fd_12_75 rfl (fun z4 e => ?_)
        refine wp_p (j := J_Y_readAttribute) 1 (pc' := 33) (lv' := [(0, .ref v0), (1, .int v1), (2, .int v2), (3, .int v3)]) (st' := [.int v3, .ref z4]) rfl ?_
        refine x_aB e rfl (.inl rfl) rfl (fun z5 e => ?_)
        refine x_cs1 (As := [.int z5]) (rest := []) Value.int e rfl rfl rfl rfl rfl (fun h => d_Y_isBlank h ⟨rfl, rfl⟩) (fun z6 e => ?_)
        refine z_ne e rfl (fun e => ?_) (fun e => ?_)
        · refine wp_p (j := J_Y_readAttribute) 1 (pc' := 41) (lv' := [(0, .ref v0), (1, .int v1), (2, .int v2), (3, .int v3)]) (st' := [.ref v0]) rfl ?_
          refine x_gQ e rfl rfl fd_12_75 rfl (fun z7 e => ?_)
          refine wp_p (j := J_Y_readAttribute) 1 (pc' := 45) (lv' := [(0, .ref v0), (1, .int v1), (2, .int v2), (3, .int v3)]) (st' := [.int v3, .ref z7]) rfl ?_
          refine x_aB e rfl (.inl rfl) rfl (fun z8 e => ?_)
          refine wp_p (j := J_Y_readAttribute) 1 (pc' := 48) (lv' := [(0, .ref v0), (1, .int v1), (2, .int v2), (3, .int v3)]) (st' := [.int 47, .int z8]) rfl ?_
          refine x_eq e rfl (fun e => ?_) (fun e => ?_)
          · have e := Option.some.inj e; subst e; exact wp_lv (lv' := [(0, .ref v0), (1, .int v1), (2, .int v2), (3, .int v3)]) rfl ⟨rfl, rfl, rfl, rfl, trivial⟩ c
          · refine wp_p (j := J_Y_readAttribute) 1 (pc' := 52) (lv' := [(0, .ref v0), (1, .int v1), (2, .int v2), (3, .int v3)]) (st' := [.ref v0]) rfl ?_
            refine x_gQ e rfl rfl fd_12_75 rfl (fun z9 e => ?_)
            refine wp_p (j := J_Y_readAttribute) 1 (pc' := 56) (lv' := [(0, .ref v0), (1, .int v1), (2, .int v2), (3, .int v3)]) (st' := [.int v3, .ref z9]) rfl ?_
            refine x_aB e rfl (.inl rfl) rfl (fun z10 e => ?_)
            refine wp_p (j := J_Y_readAttribute) 1 (pc' := 59) (lv' := [(0, .ref v0), (1, .int v1), (2, .int v2), (3, .int v3)]) (st' := [.int 62, .int z10]) rfl ?_
            refine x_eq e rfl (fun e => ?_) (fun e => ?_)
            · have e := Option.some.inj e; subst e; exact wp_lv (lv' := [(0, .ref v0), (1, .int v1), (2, .int v2), (3, .int v3)]) rfl ⟨rfl, rfl, rfl, rfl, trivial⟩ c
            · exact wp_lv (lv' := [(0, .ref v0), (1, .int v1), (2, .int v2), (3, .int v3)]) rfl ⟨rfl, rfl, rfl, rfl, trivial⟩ (x_Y_readAttribute_62 e c)
        · have e := Option.some.inj e; subst e; exact wp_lv (lv' := [(0, .ref v0), (1, .int v1), (2, .int v2), (3, .int v3)]) rfl ⟨rfl, rfl, rfl, rfl, trivial⟩ c
  · have e := Option.some.inj e; subst e; exact wp_lv (lv' := [(0, .ref v0), (1, .int v1), (2, .int v2), (3, .int v3)]) rfl ⟨rfl, rfl, rfl, rfl, trivial⟩ c
noncomputable def L_Y_readAttribute_4 (v0 : Nat) (v1 : Int32) (v2 : Int32) (v3 : Int32) (g : g_S) : Option (Int32 × Int32 × g_S) := it (fun s : Int32 × Int32 × g_S => b_Y_readAttribute_4 v0 v1 s.1 s.2.1 s.2.2) (v2, v3, g)
theorem l_Y_readAttribute_4 {L : Nat} {xs : Nat → Int32} {Q : Option Value → ab_H → Prop} {v0 : Nat} {v1 : Int32} {v2 : Int32} {v3 : Int32} {g : g_S} {r : Int32 × Int32 × g_S} (e : L_Y_readAttribute_4 v0 v1 v2 v3 g = some r) (c : cL_Y_readAttribute_4 L xs Q v0 v1 (.inr r)) : wp (ab_ext L xs) J_Y_readAttribute 4 [(0, .ref v0), (1, .int v1), (2, .int v2), (3, .int v3)] [] (hp g) Q :=
  it_wp (P := fun s : Int32 × Int32 × g_S => wp (ab_ext L xs) J_Y_readAttribute 4 [(0, .ref v0), (1, .int v1), (2, .int s.1), (3, .int s.2.1)] [] (hp s.2.2) Q) (E := fun r => cL_Y_readAttribute_4 L xs Q v0 v1 (.inr r)) (fun s out e c => y_Y_readAttribute_4 e (by cases out <;> exact c)) e c
theorem L_Y_readAttribute_4_eq (v0 : Nat) (v1 : Int32) (v2 : Int32) (v3 : Int32) (g : g_S) : L_Y_readAttribute_4 v0 v1 v2 v3 g = itc (b_Y_readAttribute_4 v0 v1 v2 v3 g) (fun s => L_Y_readAttribute_4 v0 v1 s.1 s.2.1 s.2.2) := it_eq2 (fun s : Int32 × Int32 × g_S => b_Y_readAttribute_4 v0 v1 s.1 s.2.1 s.2.2) (v2, v3, g)
noncomputable def k_Y_readAttribute_392 (v0 : Nat) (v1 : Int32) (v3 : Int32) (g : g_S) : Option (Int32 × g_S) :=
  (rQ g 112 v0 86).bind fun z1 =>
  (rI g 112 v0 85).bind fun z2 =>
  (sI g z1 z2 v1).bind fun g3 =>
  (rI g3 112 v0 85).bind fun z4 =>
  (wI g3 112 v0 85 (z4 + 1)).bind fun g5 =>
  some (v3, g5)
set_option maxRecDepth 20000 in
theorem x_Y_readAttribute_392 {L : Nat} {xs : Nat → Int32} {Q : Option Value → ab_H → Prop} {v0 : Nat} {v1 : Int32} {v3 : Int32} {g : g_S} {out : Int32 × g_S} (e : k_Y_readAttribute_392 v0 v1 v3 g = some out) (c : Q (some (.int out.1)) (hp out.2)) : wp (ab_ext L xs) J_Y_readAttribute 392 [(0, .ref v0), (1, .int v1), (3, .int v3)] [] (hp g) Q := by
  unfold k_Y_readAttribute_392 at e
  refine wp_p (j := J_Y_readAttribute) 1 (pc' := 393) (lv' := [(0, .ref v0), (1, .int v1), (3, .int v3)]) (st' := [.ref v0]) rfl ?_
  refine x_gQ e rfl rfl fd_12_86 rfl (fun z1 e => ?_)
  refine wp_p (j := J_Y_readAttribute) 1 (pc' := 397) (lv' := [(0, .ref v0), (1, .int v1), (3, .int v3)]) (st' := [.ref v0, .ref z1]) rfl ?_
  refine x_gI e rfl rfl fd_12_85 rfl (fun z2 e => ?_)
  refine wp_p (j := J_Y_readAttribute) 1 (pc' := 401) (lv' := [(0, .ref v0), (1, .int v1), (3, .int v3)]) (st' := [.int v1, .int z2, .ref z1]) rfl ?_
  refine x_sI e rfl rfl (fun g3 e => ?_)
  refine wp_p (j := J_Y_readAttribute) 2 (pc' := 404) (lv' := [(0, .ref v0), (1, .int v1), (3, .int v3)]) (st' := [.ref v0, .ref v0]) rfl ?_
  refine x_gI e rfl rfl fd_12_85 rfl (fun z4 e => ?_)
  refine wp_p (j := J_Y_readAttribute) 2 (pc' := 409) (lv' := [(0, .ref v0), (1, .int v1), (3, .int v3)]) (st' := [.int (z4 + 1), .ref v0]) rfl ?_
  refine x_pI e rfl rfl fw_12_85 rfl (fun g5 e => ?_)
  refine wp_p (j := J_Y_readAttribute) 1 (pc' := 413) (lv' := [(0, .ref v0), (1, .int v1), (3, .int v3)]) (st' := [.int v3]) rfl ?_
  have e := Option.some.inj e; subst e; exact wp_iret (ty := .int) rfl rfl rfl c
noncomputable def k_Y_readAttribute_314 (v0 : Nat) (v1 : Int32) (v2 : Int32) (v3 : Int32) (v4 : Int32) (g : g_S) : Option (Int32 × g_S) :=
  (L_Y_readAttribute_320 v0 v1 v2 v3 v4 0 0 g).bind <| fun z3 =>
  if z3 = 0 then
    (rI g 112 v0 80).bind fun z4 =>
    if z4 = 4 then
      k_Y_readAttribute_392 v0 v1 v3 g
    else
      (rQ g 112 v0 82).bind fun z5 =>
      (rI g 112 v0 80).bind fun z6 =>
      (sI g z5 z6 v2).bind fun g7 =>
      (rQ g7 112 v0 84).bind fun z8 =>
      (rI g7 112 v0 80).bind fun z9 =>
      (sI g7 z8 z9 v4).bind fun g10 =>
      (L_Y_readAttribute_438 v0 v2 v3 v4 0 g10).bind <| fun g13 =>
      (L_Y_readAttribute_475 v0 v3 v4 0 g13).bind <| fun g16 =>
      (rI g16 112 v0 80).bind fun z17 =>
      (wI g16 112 v0 80 (z17 + 1)).bind fun g18 =>
      some (v3, g18)
  else
    k_Y_readAttribute_392 v0 v1 v3 g
set_option maxRecDepth 20000 in
theorem x_Y_readAttribute_314 {L : Nat} {xs : Nat → Int32} {Q : Option Value → ab_H → Prop} {v0 : Nat} {v1 : Int32} {v2 : Int32} {v3 : Int32} {v4 : Int32} {g : g_S} {out : Int32 × g_S} (e : k_Y_readAttribute_314 v0 v1 v2 v3 v4 g = some out) (c : Q (some (.int out.1)) (hp out.2)) : wp (ab_ext L xs) J_Y_readAttribute 314 [(0, .ref v0), (1, .int v1), (2, .int v2), (3, .int v3), (4, .int v4)] [] (hp g) Q := by
  unfold k_Y_readAttribute_314 at e
  refine wp_p (j := J_Y_readAttribute) 4 (pc' := 320) (lv' := [(6, .int 0), (5, .int 0), (0, .ref v0), (1, .int v1), (2, .int v2), (3, .int v3), (4, .int v4)]) (st' := []) rfl ?_
  obtain ⟨z3, h2, e⟩ := bd e
  refine wp_lv (lv' := [(0, .ref v0), (1, .int v1), (2, .int v2), (3, .int v3), (4, .int v4), (5, .int 0), (6, .int 0)]) rfl ⟨rfl, rfl, rfl, rfl, rfl, rfl, rfl, trivial⟩ ?_
  refine l_Y_readAttribute_320 h2 ?_
  show wp (ab_ext L xs) J_Y_readAttribute 379 [(0, .ref v0), (1, .int v1), (2, .int v2), (3, .int v3), (4, .int v4), (5, .int z3)] [] (hp g) Q
  refine wp_p (j := J_Y_readAttribute) 1 (pc' := 381) (lv' := [(0, .ref v0), (1, .int v1), (2, .int v2), (3, .int v3), (4, .int v4), (5, .int z3)]) (st' := [.int z3]) rfl ?_
  refine z_ne e rfl (fun e => ?_) (fun e => ?_)
  · refine wp_p (j := J_Y_readAttribute) 1 (pc' := 385) (lv' := [(0, .ref v0), (1, .int v1), (2, .int v2), (3, .int v3), (4, .int v4), (5, .int z3)]) (st' := [.ref v0]) rfl ?_
    refine x_gI e rfl rfl fd_12_80 rfl (fun z4 e => ?_)
    refine wp_p (j := J_Y_readAttribute) 1 (pc' := 389) (lv' := [(0, .ref v0), (1, .int v1), (2, .int v2), (3, .int v3), (4, .int v4), (5, .int z3)]) (st' := [.int 4, .int z4]) rfl ?_
    refine x_ne e rfl (fun e => ?_) (fun e => ?_)
    · exact wp_lv (lv' := [(0, .ref v0), (1, .int v1), (3, .int v3)]) rfl ⟨rfl, rfl, rfl, trivial⟩ (x_Y_readAttribute_392 e c)
    · refine wp_p (j := J_Y_readAttribute) 1 (pc' := 415) (lv' := [(0, .ref v0), (1, .int v1), (2, .int v2), (3, .int v3), (4, .int v4), (5, .int z3)]) (st' := [.ref v0]) rfl ?_
      refine x_gQ e rfl rfl fd_12_82 rfl (fun z5 e => ?_)
      refine wp_p (j := J_Y_readAttribute) 1 (pc' := 419) (lv' := [(0, .ref v0), (1, .int v1), (2, .int v2), (3, .int v3), (4, .int v4), (5, .int z3)]) (st' := [.ref v0, .ref z5]) rfl ?_
      refine x_gI e rfl rfl fd_12_80 rfl (fun z6 e => ?_)
      refine wp_p (j := J_Y_readAttribute) 1 (pc' := 423) (lv' := [(0, .ref v0), (1, .int v1), (2, .int v2), (3, .int v3), (4, .int v4), (5, .int z3)]) (st' := [.int v2, .int z6, .ref z5]) rfl ?_
      refine x_sI e rfl rfl (fun g7 e => ?_)
      refine wp_p (j := J_Y_readAttribute) 1 (pc' := 425) (lv' := [(0, .ref v0), (1, .int v1), (2, .int v2), (3, .int v3), (4, .int v4), (5, .int z3)]) (st' := [.ref v0]) rfl ?_
      refine x_gQ e rfl rfl fd_12_84 rfl (fun z8 e => ?_)
      refine wp_p (j := J_Y_readAttribute) 1 (pc' := 429) (lv' := [(0, .ref v0), (1, .int v1), (2, .int v2), (3, .int v3), (4, .int v4), (5, .int z3)]) (st' := [.ref v0, .ref z8]) rfl ?_
      refine x_gI e rfl rfl fd_12_80 rfl (fun z9 e => ?_)
      refine wp_p (j := J_Y_readAttribute) 1 (pc' := 434) (lv' := [(0, .ref v0), (1, .int v1), (2, .int v2), (3, .int v3), (4, .int v4), (5, .int z3)]) (st' := [.int v4, .int z9, .ref z8]) rfl ?_
      refine x_sI e rfl rfl (fun g10 e => ?_)
      refine wp_p (j := J_Y_readAttribute) 2 (pc' := 438) (lv' := [(6, .int 0), (0, .ref v0), (1, .int v1), (2, .int v2), (3, .int v3), (4, .int v4), (5, .int z3)]) (st' := []) rfl ?_
      obtain ⟨g13, h12, e⟩ := bd e
      refine wp_lv (lv' := [(0, .ref v0), (2, .int v2), (3, .int v3), (4, .int v4), (6, .int 0)]) rfl ⟨rfl, rfl, rfl, rfl, rfl, trivial⟩ ?_
      refine l_Y_readAttribute_438 h12 ?_
      show wp (ab_ext L xs) J_Y_readAttribute 472 [(0, .ref v0), (3, .int v3), (4, .int v4)] [] (hp g13) Q
      refine wp_p (j := J_Y_readAttribute) 2 (pc' := 475) (lv' := [(6, .int 0), (0, .ref v0), (3, .int v3), (4, .int v4)]) (st' := []) rfl ?_
      obtain ⟨g16, h15, e⟩ := bd e
      refine wp_lv (lv' := [(0, .ref v0), (3, .int v3), (4, .int v4), (6, .int 0)]) rfl ⟨rfl, rfl, rfl, rfl, trivial⟩ ?_
      refine l_Y_readAttribute_475 h15 ?_
      show wp (ab_ext L xs) J_Y_readAttribute 510 [(0, .ref v0), (3, .int v3)] [] (hp g16) Q
      refine wp_p (j := J_Y_readAttribute) 2 (pc' := 512) (lv' := [(0, .ref v0), (3, .int v3)]) (st' := [.ref v0, .ref v0]) rfl ?_
      refine x_gI e rfl rfl fd_12_80 rfl (fun z17 e => ?_)
      refine wp_p (j := J_Y_readAttribute) 2 (pc' := 517) (lv' := [(0, .ref v0), (3, .int v3)]) (st' := [.int (z17 + 1), .ref v0]) rfl ?_
      refine x_pI e rfl rfl fw_12_80 rfl (fun g18 e => ?_)
      refine wp_p (j := J_Y_readAttribute) 1 (pc' := 521) (lv' := [(0, .ref v0), (3, .int v3)]) (st' := [.int v3]) rfl ?_
      have e := Option.some.inj e; subst e; exact wp_iret (ty := .int) rfl rfl rfl c
  · exact wp_lv (lv' := [(0, .ref v0), (1, .int v1), (3, .int v3)]) rfl ⟨rfl, rfl, rfl, trivial⟩ (x_Y_readAttribute_392 e c)
noncomputable def k_Y_readAttribute_304 (v0 : Nat) (v1 : Int32) (v2 : Int32) (v3 : Int32) (v4 : Int32) (v5 : Int32) (g : g_S) : Option (Int32 × g_S) :=
  if 0 < v5 then
    (rI g 112 v0 76).bind fun z1 =>
    k_Y_readAttribute_314 v0 v1 v2 z1 v4 g
  else
    k_Y_readAttribute_314 v0 v1 v2 v3 v4 g
set_option maxRecDepth 20000 in
theorem x_Y_readAttribute_304 {L : Nat} {xs : Nat → Int32} {Q : Option Value → ab_H → Prop} {v0 : Nat} {v1 : Int32} {v2 : Int32} {v3 : Int32} {v4 : Int32} {v5 : Int32} {g : g_S} {out : Int32 × g_S} (e : k_Y_readAttribute_304 v0 v1 v2 v3 v4 v5 g = some out) (c : Q (some (.int out.1)) (hp out.2)) : wp (ab_ext L xs) J_Y_readAttribute 304 [(0, .ref v0), (1, .int v1), (2, .int v2), (3, .int v3), (4, .int v4), (5, .int v5)] [] (hp g) Q := by
  unfold k_Y_readAttribute_304 at e
  refine wp_p (j := J_Y_readAttribute) 1 (pc' := 306) (lv' := [(0, .ref v0), (1, .int v1), (2, .int v2), (3, .int v3), (4, .int v4), (5, .int v5)]) (st' := [.int v5]) rfl ?_
  refine z_le e rfl (fun e => ?_) (fun e => ?_)
  · refine wp_p (j := J_Y_readAttribute) 1 (pc' := 310) (lv' := [(0, .ref v0), (1, .int v1), (2, .int v2), (3, .int v3), (4, .int v4), (5, .int v5)]) (st' := [.ref v0]) rfl ?_
    refine x_gI e rfl rfl fd_12_76 rfl (fun z1 e => ?_)
    refine wp_p (j := J_Y_readAttribute) 1 (pc' := 314) (lv' := [(3, .int z1), (0, .ref v0), (1, .int v1), (2, .int v2), (4, .int v4), (5, .int v5)]) (st' := []) rfl ?_
    exact wp_lv (lv' := [(0, .ref v0), (1, .int v1), (2, .int v2), (3, .int z1), (4, .int v4)]) rfl ⟨rfl, rfl, rfl, rfl, rfl, trivial⟩ (x_Y_readAttribute_314 e c)
  · exact wp_lv (lv' := [(0, .ref v0), (1, .int v1), (2, .int v2), (3, .int v3), (4, .int v4)]) rfl ⟨rfl, rfl, rfl, rfl, rfl, trivial⟩ (x_Y_readAttribute_314 e c)
noncomputable def k_Y_readAttribute_172 (v0 : Nat) (v1 : Int32) (v2 : Int32) (v4 : Int32) (v5 : Int32) (w0 : Int32) (g : g_S) : Option (Int32 × g_S) :=
  (L_Y_readAttribute_176 v0 v1 v2 w0 v4 v5 w0 g).bind <| fun z3 =>
  (L_Y_readAttribute_236 v0 v1 v2 v5 z3 w0 v4 g).bind <| u3 fun z6 z7 g8 =>
  if 0 < v5 then
    (rI g8 112 v0 76).bind fun z9 =>
    if z6 < z9 then
      k_Y_readAttribute_314 v0 v1 v2 (z6 + 1) z7 g8
    else
      k_Y_readAttribute_304 v0 v1 v2 z6 z7 v5 g8
  else
    k_Y_readAttribute_304 v0 v1 v2 z6 z7 v5 g8
set_option maxRecDepth 20000 in
theorem x_Y_readAttribute_172 {L : Nat} {xs : Nat → Int32} {Q : Option Value → ab_H → Prop} {v0 : Nat} {v1 : Int32} {v2 : Int32} {v4 : Int32} {v5 : Int32} {w0 : Int32} {g : g_S} {out : Int32 × g_S} (e : k_Y_readAttribute_172 v0 v1 v2 v4 v5 w0 g = some out) (c : Q (some (.int out.1)) (hp out.2)) : wp (ab_ext L xs) J_Y_readAttribute 172 [(0, .ref v0), (1, .int v1), (2, .int v2), (4, .int v4), (5, .int v5)] [.int w0] (hp g) Q := by
  unfold k_Y_readAttribute_172 at e
  refine wp_p (j := J_Y_readAttribute) 3 (pc' := 176) (lv' := [(6, .int w0), (3, .int w0), (0, .ref v0), (1, .int v1), (2, .int v2), (4, .int v4), (5, .int v5)]) (st' := []) rfl ?_
  obtain ⟨z3, h2, e⟩ := bd e
  refine wp_lv (lv' := [(0, .ref v0), (1, .int v1), (2, .int v2), (3, .int w0), (4, .int v4), (5, .int v5), (6, .int w0)]) rfl ⟨rfl, rfl, rfl, rfl, rfl, rfl, rfl, trivial⟩ ?_
  refine l_Y_readAttribute_176 h2 ?_
  show wp (ab_ext L xs) J_Y_readAttribute 236 [(0, .ref v0), (1, .int v1), (2, .int v2), (3, .int w0), (4, .int v4), (5, .int v5), (6, .int z3)] [] (hp g) Q
  obtain ⟨s4, h5, e⟩ := bd e
  refine wp_lv (lv' := [(0, .ref v0), (1, .int v1), (2, .int v2), (3, .int w0), (4, .int v4), (5, .int v5), (6, .int z3)]) rfl ⟨rfl, rfl, rfl, rfl, rfl, rfl, rfl, trivial⟩ ?_
  refine l_Y_readAttribute_236 h5 ?_
  obtain ⟨z6, z7, g8⟩ := s4
  replace e := u3_e e
  show wp (ab_ext L xs) J_Y_readAttribute 285 [(0, .ref v0), (1, .int v1), (2, .int v2), (3, .int z6), (4, .int z7), (5, .int v5)] [] (hp g8) Q
  refine wp_p (j := J_Y_readAttribute) 1 (pc' := 287) (lv' := [(0, .ref v0), (1, .int v1), (2, .int v2), (3, .int z6), (4, .int z7), (5, .int v5)]) (st' := [.int v5]) rfl ?_
  refine z_le e rfl (fun e => ?_) (fun e => ?_)
  · refine wp_p (j := J_Y_readAttribute) 2 (pc' := 292) (lv' := [(0, .ref v0), (1, .int v1), (2, .int v2), (3, .int z6), (4, .int z7), (5, .int v5)]) (st' := [.ref v0, .int z6]) rfl ?_
    refine x_gI e rfl rfl fd_12_76 rfl (fun z9 e => ?_)
    refine x_ge e rfl (fun e => ?_) (fun e => ?_)
    · refine wp_p (j := J_Y_readAttribute) 2 (pc' := 314) (lv' := [(3, .int (z6 + 1)), (0, .ref v0), (1, .int v1), (2, .int v2), (4, .int z7), (5, .int v5)]) (st' := []) rfl ?_
      exact wp_lv (lv' := [(0, .ref v0), (1, .int v1), (2, .int v2), (3, .int (z6 + 1)), (4, .int z7)]) rfl ⟨rfl, rfl, rfl, rfl, rfl, trivial⟩ (x_Y_readAttribute_314 e c)
    · exact wp_lv (lv' := [(0, .ref v0), (1, .int v1), (2, .int v2), (3, .int z6), (4, .int z7), (5, .int v5)]) rfl ⟨rfl, rfl, rfl, rfl, rfl, rfl, trivial⟩ (x_Y_readAttribute_304 e c)
  · exact wp_lv (lv' := [(0, .ref v0), (1, .int v1), (2, .int v2), (3, .int z6), (4, .int z7), (5, .int v5)]) rfl ⟨rfl, rfl, rfl, rfl, rfl, rfl, trivial⟩ (x_Y_readAttribute_304 e c)
noncomputable def k_Y_readAttribute_158 (v0 : Nat) (v1 : Int32) (v2 : Int32) (v3 : Int32) (v4 : Int32) (w0 : Int32) (g : g_S) : Option (Int32 × g_S) :=
  if 0 < w0 then
    k_Y_readAttribute_172 v0 v1 v2 v4 w0 (v3 + 1) g
  else
    k_Y_readAttribute_172 v0 v1 v2 v4 w0 v3 g
set_option maxRecDepth 20000 in
theorem x_Y_readAttribute_158 {L : Nat} {xs : Nat → Int32} {Q : Option Value → ab_H → Prop} {v0 : Nat} {v1 : Int32} {v2 : Int32} {v3 : Int32} {v4 : Int32} {w0 : Int32} {g : g_S} {out : Int32 × g_S} (e : k_Y_readAttribute_158 v0 v1 v2 v3 v4 w0 g = some out) (c : Q (some (.int out.1)) (hp out.2)) : wp (ab_ext L xs) J_Y_readAttribute 158 [(0, .ref v0), (1, .int v1), (2, .int v2), (3, .int v3), (4, .int v4)] [.int w0] (hp g) Q := by
  unfold k_Y_readAttribute_158 at e
  refine wp_p (j := J_Y_readAttribute) 2 (pc' := 162) (lv' := [(5, .int w0), (0, .ref v0), (1, .int v1), (2, .int v2), (3, .int v3), (4, .int v4)]) (st' := [.int w0]) rfl ?_
  refine z_le e rfl (fun e => ?_) (fun e => ?_)
  · refine wp_p (j := J_Y_readAttribute) 4 (pc' := 172) (lv' := [(5, .int w0), (0, .ref v0), (1, .int v1), (2, .int v2), (3, .int v3), (4, .int v4)]) (st' := [.int (v3 + 1)]) rfl ?_
    exact wp_lv (lv' := [(0, .ref v0), (1, .int v1), (2, .int v2), (4, .int v4), (5, .int w0)]) rfl ⟨rfl, rfl, rfl, rfl, rfl, trivial⟩ (x_Y_readAttribute_172 e c)
  · refine wp_p (j := J_Y_readAttribute) 1 (pc' := 172) (lv' := [(5, .int w0), (0, .ref v0), (1, .int v1), (2, .int v2), (3, .int v3), (4, .int v4)]) (st' := [.int v3]) rfl ?_
    exact wp_lv (lv' := [(0, .ref v0), (1, .int v1), (2, .int v2), (4, .int v4), (5, .int w0)]) rfl ⟨rfl, rfl, rfl, rfl, rfl, trivial⟩ (x_Y_readAttribute_172 e c)
noncomputable def k_Y_readAttribute_157 (v0 : Nat) (v1 : Int32) (v2 : Int32) (v3 : Int32) (v4 : Int32) (g : g_S) : Option (Int32 × g_S) :=
  k_Y_readAttribute_158 v0 v1 v2 v3 v4 0 g
set_option maxRecDepth 20000 in
theorem x_Y_readAttribute_157 {L : Nat} {xs : Nat → Int32} {Q : Option Value → ab_H → Prop} {v0 : Nat} {v1 : Int32} {v2 : Int32} {v3 : Int32} {v4 : Int32} {g : g_S} {out : Int32 × g_S} (e : k_Y_readAttribute_157 v0 v1 v2 v3 v4 g = some out) (c : Q (some (.int out.1)) (hp out.2)) : wp (ab_ext L xs) J_Y_readAttribute 157 [(0, .ref v0), (1, .int v1), (2, .int v2), (3, .int v3), (4, .int v4)] [] (hp g) Q := by
  unfold k_Y_readAttribute_157 at e
  refine wp_p (j := J_Y_readAttribute) 1 (pc' := 158) (lv' := [(0, .ref v0), (1, .int v1), (2, .int v2), (3, .int v3), (4, .int v4)]) (st' := [.int 0]) rfl ?_
  exact wp_lv (lv' := [(0, .ref v0), (1, .int v1), (2, .int v2), (3, .int v3), (4, .int v4)]) rfl ⟨rfl, rfl, rfl, rfl, rfl, trivial⟩ (x_Y_readAttribute_158 e c)
noncomputable def k_Y_readAttribute_148 (v0 : Nat) (v1 : Int32) (v2 : Int32) (v3 : Int32) (v4 : Int32) (g : g_S) : Option (Int32 × g_S) :=
  (rQ g 112 v0 75).bind fun z1 =>
  (aI g 1 z1 v3).bind fun z2 =>
  k_Y_readAttribute_158 v0 v1 v2 v3 v4 z2 g
set_option maxRecDepth 20000 in
theorem x_Y_readAttribute_148 {L : Nat} {xs : Nat → Int32} {Q : Option Value → ab_H → Prop} {v0 : Nat} {v1 : Int32} {v2 : Int32} {v3 : Int32} {v4 : Int32} {g : g_S} {out : Int32 × g_S} (e : k_Y_readAttribute_148 v0 v1 v2 v3 v4 g = some out) (c : Q (some (.int out.1)) (hp out.2)) : wp (ab_ext L xs) J_Y_readAttribute 148 [(0, .ref v0), (1, .int v1), (2, .int v2), (3, .int v3), (4, .int v4)] [] (hp g) Q := by
  unfold k_Y_readAttribute_148 at e
  refine wp_p (j := J_Y_readAttribute) 1 (pc' := 149) (lv' := [(0, .ref v0), (1, .int v1), (2, .int v2), (3, .int v3), (4, .int v4)]) (st' := [.ref v0]) rfl ?_
  refine x_gQ e rfl rfl fd_12_75 rfl (fun z1 e => ?_)
  refine wp_p (j := J_Y_readAttribute) 1 (pc' := 153) (lv' := [(0, .ref v0), (1, .int v1), (2, .int v2), (3, .int v3), (4, .int v4)]) (st' := [.int v3, .ref z1]) rfl ?_
  refine x_aB e rfl (.inl rfl) rfl (fun z2 e => ?_)
  refine wp_p (j := J_Y_readAttribute) 1 (pc' := 158) (lv' := [(0, .ref v0), (1, .int v1), (2, .int v2), (3, .int v3), (4, .int v4)]) (st' := [.int z2]) rfl ?_
  exact wp_lv (lv' := [(0, .ref v0), (1, .int v1), (2, .int v2), (3, .int v3), (4, .int v4)]) rfl ⟨rfl, rfl, rfl, rfl, rfl, trivial⟩ (x_Y_readAttribute_158 e c)
noncomputable def k_Y_readAttribute_93 (v0 : Nat) (v1 : Int32) (v2 : Int32) (v3 : Int32) (g : g_S) : Option (Int32 × g_S) :=
  (rI g 112 v0 76).bind fun z1 =>
  if v3 < z1 then
    (rQ g 112 v0 75).bind fun z2 =>
    (aI g 1 z2 v3).bind fun z3 =>
    if z3 = 61 then
      (rI g 112 v0 76).bind fun z4 =>
      if (v3 + 1) < z4 then
        (rQ g 112 v0 75).bind fun z5 =>
        (aI g 1 z5 (v3 + 1)).bind fun z6 =>
        if z6 = 34 then
          k_Y_readAttribute_148 v0 v1 v2 (v3 + 1) 0 g
        else
          (rQ g 112 v0 75).bind fun z7 =>
          (aI g 1 z7 (v3 + 1)).bind fun z8 =>
          if z8 = 39 then
            k_Y_readAttribute_148 v0 v1 v2 (v3 + 1) 0 g
          else
            k_Y_readAttribute_157 v0 v1 v2 (v3 + 1) 0 g
      else
        k_Y_readAttribute_157 v0 v1 v2 (v3 + 1) 0 g
    else
      k_Y_readAttribute_314 v0 v1 v2 v3 0 g
  else
    k_Y_readAttribute_314 v0 v1 v2 v3 0 g
set_option maxRecDepth 20000 in
theorem x_Y_readAttribute_93 {L : Nat} {xs : Nat → Int32} {Q : Option Value → ab_H → Prop} {v0 : Nat} {v1 : Int32} {v2 : Int32} {v3 : Int32} {g : g_S} {out : Int32 × g_S} (e : k_Y_readAttribute_93 v0 v1 v2 v3 g = some out) (c : Q (some (.int out.1)) (hp out.2)) : wp (ab_ext L xs) J_Y_readAttribute 93 [(0, .ref v0), (1, .int v1), (2, .int v2), (3, .int v3)] [] (hp g) Q := by
  unfold k_Y_readAttribute_93 at e
  refine wp_p (j := J_Y_readAttribute) 4 (pc' := 98) (lv' := [(4, .int 0), (0, .ref v0), (1, .int v1), (2, .int v2), (3, .int v3)]) (st' := [.ref v0, .int v3]) rfl ?_
  refine x_gI e rfl rfl fd_12_76 rfl (fun z1 e => ?_)
  refine x_ge e rfl (fun e => ?_) (fun e => ?_)
  · refine wp_p (j := J_Y_readAttribute) 1 (pc' := 105) (lv' := [(4, .int 0), (0, .ref v0), (1, .int v1), (2, .int v2), (3, .int v3)]) (st' := [.ref v0]) rfl ?_
    refine x_gQ e rfl rfl fd_12_75 rfl (fun z2 e => ?_)
    refine wp_p (j := J_Y_readAttribute) 1 (pc' := 109) (lv' := [(4, .int 0), (0, .ref v0), (1, .int v1), (2, .int v2), (3, .int v3)]) (st' := [.int v3, .ref z2]) rfl ?_
    refine x_aB e rfl (.inl rfl) rfl (fun z3 e => ?_)
    refine wp_p (j := J_Y_readAttribute) 1 (pc' := 112) (lv' := [(4, .int 0), (0, .ref v0), (1, .int v1), (2, .int v2), (3, .int v3)]) (st' := [.int 61, .int z3]) rfl ?_
    refine x_ne e rfl (fun e => ?_) (fun e => ?_)
    · refine wp_p (j := J_Y_readAttribute) 3 (pc' := 120) (lv' := [(3, .int (v3 + 1)), (4, .int 0), (0, .ref v0), (1, .int v1), (2, .int v2)]) (st' := [.ref v0, .int (v3 + 1)]) rfl ?_
      refine x_gI e rfl rfl fd_12_76 rfl (fun z4 e => ?_)
      refine x_ge e rfl (fun e => ?_) (fun e => ?_)
      · refine wp_p (j := J_Y_readAttribute) 1 (pc' := 127) (lv' := [(3, .int (v3 + 1)), (4, .int 0), (0, .ref v0), (1, .int v1), (2, .int v2)]) (st' := [.ref v0]) rfl ?_
        refine x_gQ e rfl rfl fd_12_75 rfl (fun z5 e => ?_)
        refine wp_p (j := J_Y_readAttribute) 1 (pc' := 131) (lv' := [(3, .int (v3 + 1)), (4, .int 0), (0, .ref v0), (1, .int v1), (2, .int v2)]) (st' := [.int (v3 + 1), .ref z5]) rfl ?_
        refine x_aB e rfl (.inl rfl) rfl (fun z6 e => ?_)
        refine wp_p (j := J_Y_readAttribute) 1 (pc' := 134) (lv' := [(3, .int (v3 + 1)), (4, .int 0), (0, .ref v0), (1, .int v1), (2, .int v2)]) (st' := [.int 34, .int z6]) rfl ?_
        refine x_eq e rfl (fun e => ?_) (fun e => ?_)
        · exact wp_lv (lv' := [(0, .ref v0), (1, .int v1), (2, .int v2), (3, .int (v3 + 1)), (4, .int 0)]) rfl ⟨rfl, rfl, rfl, rfl, rfl, trivial⟩ (x_Y_readAttribute_148 e c)
        · refine wp_p (j := J_Y_readAttribute) 1 (pc' := 138) (lv' := [(3, .int (v3 + 1)), (4, .int 0), (0, .ref v0), (1, .int v1), (2, .int v2)]) (st' := [.ref v0]) rfl ?_
          refine x_gQ e rfl rfl fd_12_75 rfl (fun z7 e => ?_)
          refine wp_p (j := J_Y_readAttribute) 1 (pc' := 142) (lv' := [(3, .int (v3 + 1)), (4, .int 0), (0, .ref v0), (1, .int v1), (2, .int v2)]) (st' := [.int (v3 + 1), .ref z7]) rfl ?_
          refine x_aB e rfl (.inl rfl) rfl (fun z8 e => ?_)
          refine wp_p (j := J_Y_readAttribute) 1 (pc' := 145) (lv' := [(3, .int (v3 + 1)), (4, .int 0), (0, .ref v0), (1, .int v1), (2, .int v2)]) (st' := [.int 39, .int z8]) rfl ?_
          refine x_ne e rfl (fun e => ?_) (fun e => ?_)
          · exact wp_lv (lv' := [(0, .ref v0), (1, .int v1), (2, .int v2), (3, .int (v3 + 1)), (4, .int 0)]) rfl ⟨rfl, rfl, rfl, rfl, rfl, trivial⟩ (x_Y_readAttribute_148 e c)
          · exact wp_lv (lv' := [(0, .ref v0), (1, .int v1), (2, .int v2), (3, .int (v3 + 1)), (4, .int 0)]) rfl ⟨rfl, rfl, rfl, rfl, rfl, trivial⟩ (x_Y_readAttribute_157 e c)
      · exact wp_lv (lv' := [(0, .ref v0), (1, .int v1), (2, .int v2), (3, .int (v3 + 1)), (4, .int 0)]) rfl ⟨rfl, rfl, rfl, rfl, rfl, trivial⟩ (x_Y_readAttribute_157 e c)
    · exact wp_lv (lv' := [(0, .ref v0), (1, .int v1), (2, .int v2), (3, .int v3), (4, .int 0)]) rfl ⟨rfl, rfl, rfl, rfl, rfl, trivial⟩ (x_Y_readAttribute_314 e c)
  · exact wp_lv (lv' := [(0, .ref v0), (1, .int v1), (2, .int v2), (3, .int v3), (4, .int 0)]) rfl ⟨rfl, rfl, rfl, rfl, rfl, trivial⟩ (x_Y_readAttribute_314 e c)
noncomputable def M_Y_readAttribute (v0 : Nat) (v1 : Int32) (g : g_S) : Option (Int32 × g_S) :=
  (L_Y_readAttribute_4 v0 v1 0 v1 g).bind <| u3 fun z3 z4 g5 =>
  k_Y_readAttribute_93 v0 v1 z3 z4 g5
set_option maxRecDepth 20000 in
theorem d_Y_readAttribute {L : Nat} {xs : Nat → Int32} {Q : Option Value → ab_H → Prop} {v0 : Nat} {v1 : Int32} {g : g_S} {out : Int32 × g_S} (e : M_Y_readAttribute v0 v1 g = some out) (c : Q (some (.int out.1)) (hp out.2)) : mw (ab_ext L xs) J_Y_readAttribute [.ref v0, .int v1] (hp g) Q := by
  unfold M_Y_readAttribute at e
  refine wp_p (j := J_Y_readAttribute) 4 (pc' := 4) (lv' := [(3, .int v1), (2, .int 0), (0, .ref v0), (1, .int v1)]) (st' := []) rfl ?_
  obtain ⟨s1, h2, e⟩ := bd e
  refine wp_lv (lv' := [(0, .ref v0), (1, .int v1), (2, .int 0), (3, .int v1)]) rfl ⟨rfl, rfl, rfl, rfl, trivial⟩ ?_
  refine l_Y_readAttribute_4 h2 ?_
  obtain ⟨z3, z4, g5⟩ := s1
  replace e := u3_e e
  show wp (ab_ext L xs) J_Y_readAttribute 93 [(0, .ref v0), (1, .int v1), (2, .int z3), (3, .int z4)] [] (hp g5) Q
  exact wp_lv (lv' := [(0, .ref v0), (1, .int v1), (2, .int z3), (3, .int z4)]) rfl ⟨rfl, rfl, rfl, rfl, trivial⟩ (x_Y_readAttribute_93 e c)
def cL_Y_lengthOf_4 (L : Nat) (xs : Nat → Int32) (Q : Option Value → ab_H → Prop) (g : g_S) (out : (Int32 × Int64) ⊕ (Int32)) : Prop := match out with
  | .inl s => wp (ab_ext L xs) J_Y_lengthOf 4 [(2, .int s.1), (3, .long s.2)] [] (hp g) Q
  | .inr s => wp (ab_ext L xs) J_Y_lengthOf 20 [(2, .int s)] [] (hp g) Q
noncomputable def b_Y_lengthOf_4 (v2 : Int32) (v3 : Int64) (g : g_S) : Option ((Int32 × Int64) ⊕ (Int32)) :=
  if 0 < (lg_cmp v3 0) then
    some (.inl (v2 + 1, v3 >>> ((5 : Int32).toInt64 &&& 63)))
  else
    some (.inr v2)
set_option maxRecDepth 20000 in
theorem y_Y_lengthOf_4 {L : Nat} {xs : Nat → Int32} {Q : Option Value → ab_H → Prop} {v2 : Int32} {v3 : Int64} {g : g_S} {out : (Int32 × Int64) ⊕ (Int32)} (e : b_Y_lengthOf_4 v2 v3 g = some out) (c : cL_Y_lengthOf_4 L xs Q g out) : wp (ab_ext L xs) J_Y_lengthOf 4 [(2, .int v2), (3, .long v3)] [] (hp g) Q := by
  unfold b_Y_lengthOf_4 at e
  refine wp_p (j := J_Y_lengthOf) 3 (pc' := 7) (lv' := [(2, .int v2), (3, .long v3)]) (st' := [.int (lg_cmp v3 0)]) rfl ?_
  refine z_le e rfl (fun e => ?_) (fun e => ?_)
  · refine wp_p (j := J_Y_lengthOf) 6 (pc' := 4) (lv' := [(3, .long (v3 >>> ((5 : Int32).toInt64 &&& 63))), (2, .int (v2 + 1))]) (st' := []) rfl ?_
    have e := Option.some.inj e; subst e; exact wp_lv (lv' := [(2, .int (v2 + 1)), (3, .long (v3 >>> ((5 : Int32).toInt64 &&& 63)))]) rfl ⟨rfl, rfl, trivial⟩ c
  · have e := Option.some.inj e; subst e; exact wp_lv (lv' := [(2, .int v2)]) rfl ⟨rfl, trivial⟩ c
noncomputable def L_Y_lengthOf_4 (v2 : Int32) (v3 : Int64) (g : g_S) : Option (Int32) := it (fun s : Int32 × Int64 => b_Y_lengthOf_4 s.1 s.2 g) (v2, v3)
theorem l_Y_lengthOf_4 {L : Nat} {xs : Nat → Int32} {Q : Option Value → ab_H → Prop} {v2 : Int32} {v3 : Int64} {g : g_S} {r : Int32} (e : L_Y_lengthOf_4 v2 v3 g = some r) (c : cL_Y_lengthOf_4 L xs Q g (.inr r)) : wp (ab_ext L xs) J_Y_lengthOf 4 [(2, .int v2), (3, .long v3)] [] (hp g) Q :=
  it_wp (P := fun s : Int32 × Int64 => wp (ab_ext L xs) J_Y_lengthOf 4 [(2, .int s.1), (3, .long s.2)] [] (hp g) Q) (E := fun r => cL_Y_lengthOf_4 L xs Q g (.inr r)) (fun s out e c => y_Y_lengthOf_4 e (by cases out <;> exact c)) e c
theorem L_Y_lengthOf_4_eq (v2 : Int32) (v3 : Int64) (g : g_S) : L_Y_lengthOf_4 v2 v3 g = itc (b_Y_lengthOf_4 v2 v3 g) (fun s => L_Y_lengthOf_4 s.1 s.2 g) := it_eq2 (fun s : Int32 × Int64 => b_Y_lengthOf_4 s.1 s.2 g) (v2, v3)
noncomputable def M_Y_lengthOf (v0 : Int64) (g : g_S) : Option Int32 :=
  (L_Y_lengthOf_4 0 v0 g).bind <| fun z3 =>
  some z3
set_option maxRecDepth 20000 in
theorem d_Y_lengthOf {L : Nat} {xs : Nat → Int32} {Q : Option Value → ab_H → Prop} {v0 : Int64} {g : g_S} {out : Int32} (e : M_Y_lengthOf v0 g = some out) (c : Q (some (.int out)) (hp g)) : mw (ab_ext L xs) J_Y_lengthOf [.long v0] (hp g) Q := by
  unfold M_Y_lengthOf at e
  refine wp_p (j := J_Y_lengthOf) 4 (pc' := 4) (lv' := [(3, .long v0), (2, .int 0), (0, .long v0)]) (st' := []) rfl ?_
  obtain ⟨z3, h2, e⟩ := bd e
  refine wp_lv (lv' := [(2, .int 0), (3, .long v0)]) rfl ⟨rfl, rfl, trivial⟩ ?_
  refine l_Y_lengthOf_4 h2 ?_
  show wp (ab_ext L xs) J_Y_lengthOf 20 [(2, .int z3)] [] (hp g) Q
  refine wp_p (j := J_Y_lengthOf) 1 (pc' := 21) (lv' := [(2, .int z3)]) (st' := [.int z3]) rfl ?_
  have e := Option.some.inj e; subst e; exact wp_iret (ty := .int) rfl rfl rfl c
def cL_Y_tagOf_2 (L : Nat) (xs : Nat → Int32) (Q : Option Value → ab_H → Prop) (v0 : Nat) (v1 : Int32) (v2 : Int32) (g : g_S) (out : (Int32) ⊕ ((Int32) ⊕ (Int32) ⊕ (Unit))) : Prop := match out with
  | .inl s => wp (ab_ext L xs) J_Y_tagOf 2 [(0, .ref v0), (1, .int v1), (2, .int v2), (3, .int s)] [] (hp g) Q
  | .inr (.inl s) => wp (ab_ext L xs) J_Y_tagOf 42 [(3, .int s)] [] (hp g) Q
  | .inr (.inr (.inl s)) => wp (ab_ext L xs) J_Y_tagOf 66 [(3, .int s)] [] (hp g) Q
  | .inr (.inr (.inr s)) => wp (ab_ext L xs) J_Y_tagOf 74 [] [] (hp g) Q
noncomputable def b_Y_tagOf_2 (v0 : Nat) (v1 : Int32) (v2 : Int32) (v3 : Int32) (g : g_S) : Option ((Int32) ⊕ ((Int32) ⊕ (Int32) ⊕ (Unit))) :=
  if v3 < 16 then
    (M_Y_tagWord v3 g).bind fun z1 =>
    if v3 = 2 then
      if v2 = 2 then
        (aI g 1 v0 v1).bind fun z2 =>
        if z2 = 104 then
          (aI g 1 v0 (v1 + 1)).bind fun z3 =>
          if z3 = 49 then
            some (.inr (.inl v3))
          else
            some (.inl (v3 + 1))
        else
          some (.inl (v3 + 1))
      else
        some (.inl (v3 + 1))
    else
      (M_Y_lengthOf z1 g).bind fun z4 =>
      if z4 = v2 then
        (M_Y_isWord v0 v1 (v1 + v2) z1 g).bind fun z5 =>
        if z5 = 0 then
          some (.inl (v3 + 1))
        else
          some (.inr (.inr (.inl v3)))
      else
        some (.inl (v3 + 1))
  else
    some (.inr (.inr (.inr ())))
set_option maxRecDepth 20000 in
theorem y_Y_tagOf_2 {L : Nat} {xs : Nat → Int32} {Q : Option Value → ab_H → Prop} {v0 : Nat} {v1 : Int32} {v2 : Int32} {v3 : Int32} {g : g_S} {out : (Int32) ⊕ ((Int32) ⊕ (Int32) ⊕ (Unit))} (e : b_Y_tagOf_2 v0 v1 v2 v3 g = some out) (c : cL_Y_tagOf_2 L xs Q v0 v1 v2 g out) : wp (ab_ext L xs) J_Y_tagOf 2 [(0, .ref v0), (1, .int v1), (2, .int v2), (3, .int v3)] [] (hp g) Q := by
  unfold b_Y_tagOf_2 at e
  refine wp_p (j := J_Y_tagOf) 2 (pc' := 5) (lv' := [(0, .ref v0), (1, .int v1), (2, .int v2), (3, .int v3)]) (st' := [.int 16, .int v3]) rfl ?_
  refine x_ge e rfl (fun e => ?_) (fun e => ?_)
  · refine wp_p (j := J_Y_tagOf) 1 (pc' := 9) (lv' := [(0, .ref v0), (1, .int v1), (2, .int v2), (3, .int v3)]) (st' := [.int v3]) rfl ?_
    refine x_cs1 (As := [.int v3]) (rest := []) Value.long e rfl rfl rfl rfl rfl (fun h => d_Y_tagWord h ⟨rfl, rfl⟩) (fun z1 e => ?_)
    refine wp_p (j := J_Y_tagOf) 3 (pc' := 16) (lv' := [(4, .long z1), (0, .ref v0), (1, .int v1), (2, .int v2), (3, .int v3)]) (st' := [.int 2, .int v3]) rfl ?_
    refine x_ne e rfl (fun e => ?_) (fun e => ?_)
    · refine wp_p (j := J_Y_tagOf) 2 (pc' := 21) (lv' := [(4, .long z1), (0, .ref v0), (1, .int v1), (2, .int v2), (3, .int v3)]) (st' := [.int 2, .int v2]) rfl ?_
      refine x_ne e rfl (fun e => ?_) (fun e => ?_)
      · refine wp_p (j := J_Y_tagOf) 2 (pc' := 26) (lv' := [(4, .long z1), (0, .ref v0), (1, .int v1), (2, .int v2), (3, .int v3)]) (st' := [.int v1, .ref v0]) rfl ?_
        refine x_aB e rfl (.inl rfl) rfl (fun z2 e => ?_)
        refine wp_p (j := J_Y_tagOf) 1 (pc' := 29) (lv' := [(4, .long z1), (0, .ref v0), (1, .int v1), (2, .int v2), (3, .int v3)]) (st' := [.int 104, .int z2]) rfl ?_
        refine x_ne e rfl (fun e => ?_) (fun e => ?_)
        · refine wp_p (j := J_Y_tagOf) 4 (pc' := 36) (lv' := [(4, .long z1), (0, .ref v0), (1, .int v1), (2, .int v2), (3, .int v3)]) (st' := [.int (v1 + 1), .ref v0]) rfl ?_
          refine x_aB e rfl (.inl rfl) rfl (fun z3 e => ?_)
          refine wp_p (j := J_Y_tagOf) 1 (pc' := 39) (lv' := [(4, .long z1), (0, .ref v0), (1, .int v1), (2, .int v2), (3, .int v3)]) (st' := [.int 49, .int z3]) rfl ?_
          refine x_ne e rfl (fun e => ?_) (fun e => ?_)
          · have e := Option.some.inj e; subst e; exact wp_lv (lv' := [(3, .int v3)]) rfl ⟨rfl, trivial⟩ c
          · refine wp_p (j := J_Y_tagOf) 2 (pc' := 2) (lv' := [(3, .int (v3 + 1)), (4, .long z1), (0, .ref v0), (1, .int v1), (2, .int v2)]) (st' := []) rfl ?_
            have e := Option.some.inj e; subst e; exact wp_lv (lv' := [(0, .ref v0), (1, .int v1), (2, .int v2), (3, .int (v3 + 1))]) rfl ⟨rfl, rfl, rfl, rfl, trivial⟩ c
        · refine wp_p (j := J_Y_tagOf) 2 (pc' := 2) (lv' := [(3, .int (v3 + 1)), (4, .long z1), (0, .ref v0), (1, .int v1), (2, .int v2)]) (st' := []) rfl ?_
          have e := Option.some.inj e; subst e; exact wp_lv (lv' := [(0, .ref v0), (1, .int v1), (2, .int v2), (3, .int (v3 + 1))]) rfl ⟨rfl, rfl, rfl, rfl, trivial⟩ c
      · refine wp_p (j := J_Y_tagOf) 2 (pc' := 2) (lv' := [(3, .int (v3 + 1)), (4, .long z1), (0, .ref v0), (1, .int v1), (2, .int v2)]) (st' := []) rfl ?_
        have e := Option.some.inj e; subst e; exact wp_lv (lv' := [(0, .ref v0), (1, .int v1), (2, .int v2), (3, .int (v3 + 1))]) rfl ⟨rfl, rfl, rfl, rfl, trivial⟩ c
    · refine wp_p (j := J_Y_tagOf) 1 (pc' := 46) (lv' := [(4, .long z1), (0, .ref v0), (1, .int v1), (2, .int v2), (3, .int v3)]) (st' := [.long z1]) rfl ?_
      refine x_cs1 (As := [.long z1]) (rest := []) Value.int e rfl rfl rfl rfl rfl (fun h => d_Y_lengthOf h ⟨rfl, rfl⟩) (fun z4 e => ?_)
      refine wp_p (j := J_Y_tagOf) 1 (pc' := 50) (lv' := [(4, .long z1), (0, .ref v0), (1, .int v1), (2, .int v2), (3, .int v3)]) (st' := [.int v2, .int z4]) rfl ?_
      refine x_ne e rfl (fun e => ?_) (fun e => ?_)
      · refine wp_p (j := J_Y_tagOf) 6 (pc' := 60) (lv' := [(4, .long z1), (0, .ref v0), (1, .int v1), (2, .int v2), (3, .int v3)]) (st' := [.long z1, .int (v1 + v2), .int v1, .ref v0]) rfl ?_
        refine x_cs1 (As := [.ref v0, .int v1, .int (v1 + v2), .long z1]) (rest := []) Value.int e rfl rfl rfl rfl rfl (fun h => d_Y_isWord h ⟨rfl, rfl⟩) (fun z5 e => ?_)
        refine z_eq e rfl (fun e => ?_) (fun e => ?_)
        · refine wp_p (j := J_Y_tagOf) 2 (pc' := 2) (lv' := [(3, .int (v3 + 1)), (4, .long z1), (0, .ref v0), (1, .int v1), (2, .int v2)]) (st' := []) rfl ?_
          have e := Option.some.inj e; subst e; exact wp_lv (lv' := [(0, .ref v0), (1, .int v1), (2, .int v2), (3, .int (v3 + 1))]) rfl ⟨rfl, rfl, rfl, rfl, trivial⟩ c
        · have e := Option.some.inj e; subst e; exact wp_lv (lv' := [(3, .int v3)]) rfl ⟨rfl, trivial⟩ c
      · refine wp_p (j := J_Y_tagOf) 2 (pc' := 2) (lv' := [(3, .int (v3 + 1)), (4, .long z1), (0, .ref v0), (1, .int v1), (2, .int v2)]) (st' := []) rfl ?_
        have e := Option.some.inj e; subst e; exact wp_lv (lv' := [(0, .ref v0), (1, .int v1), (2, .int v2), (3, .int (v3 + 1))]) rfl ⟨rfl, rfl, rfl, rfl, trivial⟩ c
  · have e := Option.some.inj e; subst e; exact wp_lv (lv' := []) rfl trivial c
noncomputable def L_Y_tagOf_2 (v0 : Nat) (v1 : Int32) (v2 : Int32) (v3 : Int32) (g : g_S) : Option ((Int32) ⊕ (Int32) ⊕ (Unit)) := it (fun s : Int32 => b_Y_tagOf_2 v0 v1 v2 s g) (v3)
theorem l_Y_tagOf_2 {L : Nat} {xs : Nat → Int32} {Q : Option Value → ab_H → Prop} {v0 : Nat} {v1 : Int32} {v2 : Int32} {v3 : Int32} {g : g_S} {r : (Int32) ⊕ (Int32) ⊕ (Unit)} (e : L_Y_tagOf_2 v0 v1 v2 v3 g = some r) (c : cL_Y_tagOf_2 L xs Q v0 v1 v2 g (.inr r)) : wp (ab_ext L xs) J_Y_tagOf 2 [(0, .ref v0), (1, .int v1), (2, .int v2), (3, .int v3)] [] (hp g) Q :=
  it_wp (P := fun s : Int32 => wp (ab_ext L xs) J_Y_tagOf 2 [(0, .ref v0), (1, .int v1), (2, .int v2), (3, .int s)] [] (hp g) Q) (E := fun r => cL_Y_tagOf_2 L xs Q v0 v1 v2 g (.inr r)) (fun s out e c => y_Y_tagOf_2 e (by cases out <;> exact c)) e c
theorem L_Y_tagOf_2_eq (v0 : Nat) (v1 : Int32) (v2 : Int32) (v3 : Int32) (g : g_S) : L_Y_tagOf_2 v0 v1 v2 v3 g = itc (b_Y_tagOf_2 v0 v1 v2 v3 g) (fun s => L_Y_tagOf_2 v0 v1 v2 s g) := it_eq2 (fun s : Int32 => b_Y_tagOf_2 v0 v1 v2 s g) (v3)
noncomputable def M_Y_tagOf (v0 : Nat) (v1 : Int32) (v2 : Int32) (g : g_S) : Option Int32 :=
  (L_Y_tagOf_2 v0 v1 v2 0 g).bind <|
    us (fun z3 =>
    some z3)
    (us (fun z4 =>
    some z4)
    (fun _ =>
    some 16))
set_option maxRecDepth 20000 in
theorem d_Y_tagOf {L : Nat} {xs : Nat → Int32} {Q : Option Value → ab_H → Prop} {v0 : Nat} {v1 : Int32} {v2 : Int32} {g : g_S} {out : Int32} (e : M_Y_tagOf v0 v1 v2 g = some out) (c : Q (some (.int out)) (hp g)) : mw (ab_ext L xs) J_Y_tagOf [.ref v0, .int v1, .int v2] (hp g) Q := by
  unfold M_Y_tagOf at e
  refine wp_p (j := J_Y_tagOf) 2 (pc' := 2) (lv' := [(3, .int 0), (0, .ref v0), (1, .int v1), (2, .int v2)]) (st' := []) rfl ?_
  obtain ⟨s1, h2, e⟩ := bd e
  refine wp_lv (lv' := [(0, .ref v0), (1, .int v1), (2, .int v2), (3, .int 0)]) rfl ⟨rfl, rfl, rfl, rfl, trivial⟩ ?_
  refine l_Y_tagOf_2 h2 ?_
  rcases s1 with z3 | z4 | _
  · replace e := (us_l e)
    show wp (ab_ext L xs) J_Y_tagOf 42 [(3, .int z3)] [] (hp g) Q
    refine wp_p (j := J_Y_tagOf) 1 (pc' := 43) (lv' := [(3, .int z3)]) (st' := [.int z3]) rfl ?_
    have e := Option.some.inj e; subst e; exact wp_iret (ty := .int) rfl rfl rfl c
  · replace e := (us_l (us_r e))
    show wp (ab_ext L xs) J_Y_tagOf 66 [(3, .int z4)] [] (hp g) Q
    refine wp_p (j := J_Y_tagOf) 1 (pc' := 67) (lv' := [(3, .int z4)]) (st' := [.int z4]) rfl ?_
    have e := Option.some.inj e; subst e; exact wp_iret (ty := .int) rfl rfl rfl c
  · replace e := (us_r (us_r e))
    show wp (ab_ext L xs) J_Y_tagOf 74 [] [] (hp g) Q
    refine wp_p (j := J_Y_tagOf) 1 (pc' := 76) (lv' := []) (st' := [.int 16]) rfl ?_
    have e := Option.some.inj e; subst e; exact wp_iret (ty := .int) rfl rfl rfl c
def cL_Y_closeTo_0 (L : Nat) (xs : Nat → Int32) (Q : Option Value → ab_H → Prop) (v0 : Nat) (v1 : Int32) (v2 : Int32) (v3 : Int32) (out : (g_S) ⊕ (g_S)) : Prop := match out with
  | .inl s => wp (ab_ext L xs) J_Y_closeTo 0 [(0, .ref v0), (1, .int v1), (2, .int v2), (3, .int v3)] [] (hp s) Q
  | .inr s => wp (ab_ext L xs) J_Y_closeTo 78 [] [] (hp s) Q
noncomputable def b_Y_closeTo_0 (v0 : Nat) (v1 : Int32) (v2 : Int32) (v3 : Int32) (g : g_S) : Option ((g_S) ⊕ (g_S)) :=
  (rI g 112 v0 74).bind fun z1 =>
  if v1 < z1 then
    (rI g 112 v0 74).bind fun z2 =>
    (wI g 112 v0 74 (z2 - 1)).bind fun g3 =>
    (rQ g3 112 v0 73).bind fun z4 =>
    (rI g3 112 v0 74).bind fun z5 =>
    (aI g3 0 z4 z5).bind fun z6 =>
    if z6 = v2 then
      some (.inl g3)
    else
      if z6 = v3 then
        some (.inl g3)
      else
        (rQ g3 112 v0 46).bind fun z7 =>
        (aI g3 0 z7 z6).bind fun z8 =>
        if z8 = 1 then
          some (.inl g3)
        else
          (rQ g3 112 v0 46).bind fun z9 =>
          (aI g3 0 z9 z6).bind fun z10 =>
          if z10 = 4 then
            some (.inl g3)
          else
            (rQ g3 112 v0 67).bind fun z11 =>
            (aI g3 0 z11 z6).bind fun z12 =>
            (vc g3 112 v0 (M_Y_tellFault v0 4 z12 g3)).bind fun g13 =>
            some (.inl g13)
  else
    some (.inr g)
set_option maxRecDepth 20000 in
theorem y_Y_closeTo_0 {L : Nat} {xs : Nat → Int32} {Q : Option Value → ab_H → Prop} {v0 : Nat} {v1 : Int32} {v2 : Int32} {v3 : Int32} {g : g_S} {out : (g_S) ⊕ (g_S)} (e : b_Y_closeTo_0 v0 v1 v2 v3 g = some out) (c : cL_Y_closeTo_0 L xs Q v0 v1 v2 v3 out) : wp (ab_ext L xs) J_Y_closeTo 0 [(0, .ref v0), (1, .int v1), (2, .int v2), (3, .int v3)] [] (hp g) Q := by
  unfold b_Y_closeTo_0 at e
  refine wp_p (j := J_Y_closeTo) 1 (pc' := 1) (lv' := [(0, .ref v0), (1, .int v1), (2, .int v2), (3, .int v3)]) (st' := [.ref v0]) rfl ?_
  refine x_gI e rfl rfl fd_12_74 rfl (fun z1 e => ?_)
  refine wp_p (j := J_Y_closeTo) 1 (pc' := 5) (lv' := [(0, .ref v0), (1, .int v1), (2, .int v2), (3, .int v3)]) (st' := [.int v1, .int z1]) rfl ?_
  refine x_le e rfl (fun e => ?_) (fun e => ?_)
  · refine wp_p (j := J_Y_closeTo) 2 (pc' := 10) (lv' := [(0, .ref v0), (1, .int v1), (2, .int v2), (3, .int v3)]) (st' := [.ref v0, .ref v0]) rfl ?_
    refine x_gI e rfl rfl fd_12_74 rfl (fun z2 e => ?_)
    refine wp_p (j := J_Y_closeTo) 2 (pc' := 15) (lv' := [(0, .ref v0), (1, .int v1), (2, .int v2), (3, .int v3)]) (st' := [.int (z2 - 1), .ref v0]) rfl ?_
    refine x_pI e rfl rfl fw_12_74 rfl (fun g3 e => ?_)
    refine wp_p (j := J_Y_closeTo) 1 (pc' := 19) (lv' := [(0, .ref v0), (1, .int v1), (2, .int v2), (3, .int v3)]) (st' := [.ref v0]) rfl ?_
    refine x_gQ e rfl rfl fd_12_73 rfl (fun z4 e => ?_)
    refine wp_p (j := J_Y_closeTo) 1 (pc' := 23) (lv' := [(0, .ref v0), (1, .int v1), (2, .int v2), (3, .int v3)]) (st' := [.ref v0, .ref z4]) rfl ?_
    refine x_gI e rfl rfl fd_12_74 rfl (fun z5 e => ?_)
    refine x_aI e rfl rfl (fun z6 e => ?_)
    refine wp_p (j := J_Y_closeTo) 3 (pc' := 32) (lv' := [(4, .int z6), (0, .ref v0), (1, .int v1), (2, .int v2), (3, .int v3)]) (st' := [.int v2, .int z6]) rfl ?_
    refine x_eq e rfl (fun e => ?_) (fun e => ?_)
    · refine wp_p (j := J_Y_closeTo) 1 (pc' := 0) (lv' := [(4, .int z6), (0, .ref v0), (1, .int v1), (2, .int v2), (3, .int v3)]) (st' := []) rfl ?_
      have e := Option.some.inj e; subst e; exact wp_lv (lv' := [(0, .ref v0), (1, .int v1), (2, .int v2), (3, .int v3)]) rfl ⟨rfl, rfl, rfl, rfl, trivial⟩ c
    · refine wp_p (j := J_Y_closeTo) 2 (pc' := 38) (lv' := [(4, .int z6), (0, .ref v0), (1, .int v1), (2, .int v2), (3, .int v3)]) (st' := [.int v3, .int z6]) rfl ?_
      refine x_eq e rfl (fun e => ?_) (fun e => ?_)
      · refine wp_p (j := J_Y_closeTo) 1 (pc' := 0) (lv' := [(4, .int z6), (0, .ref v0), (1, .int v1), (2, .int v2), (3, .int v3)]) (st' := []) rfl ?_
        have e := Option.some.inj e; subst e; exact wp_lv (lv' := [(0, .ref v0), (1, .int v1), (2, .int v2), (3, .int v3)]) rfl ⟨rfl, rfl, rfl, rfl, trivial⟩ c
      · refine wp_p (j := J_Y_closeTo) 1 (pc' := 42) (lv' := [(4, .int z6), (0, .ref v0), (1, .int v1), (2, .int v2), (3, .int v3)]) (st' := [.ref v0]) rfl ?_
        refine x_gQ e rfl rfl fd_12_46 rfl (fun z7 e => ?_)
        refine wp_p (j := J_Y_closeTo) 1 (pc' := 47) (lv' := [(4, .int z6), (0, .ref v0), (1, .int v1), (2, .int v2), (3, .int v3)]) (st' := [.int z6, .ref z7]) rfl ?_
        refine x_aI e rfl rfl (fun z8 e => ?_)
        refine wp_p (j := J_Y_closeTo) 1 (pc' := 49) (lv' := [(4, .int z6), (0, .ref v0), (1, .int v1), (2, .int v2), (3, .int v3)]) (st' := [.int 1, .int z8]) rfl ?_
        refine x_eq e rfl (fun e => ?_) (fun e => ?_)
        · refine wp_p (j := J_Y_closeTo) 1 (pc' := 0) (lv' := [(4, .int z6), (0, .ref v0), (1, .int v1), (2, .int v2), (3, .int v3)]) (st' := []) rfl ?_
          have e := Option.some.inj e; subst e; exact wp_lv (lv' := [(0, .ref v0), (1, .int v1), (2, .int v2), (3, .int v3)]) rfl ⟨rfl, rfl, rfl, rfl, trivial⟩ c
        · refine wp_p (j := J_Y_closeTo) 1 (pc' := 53) (lv' := [(4, .int z6), (0, .ref v0), (1, .int v1), (2, .int v2), (3, .int v3)]) (st' := [.ref v0]) rfl ?_
          refine x_gQ e rfl rfl fd_12_46 rfl (fun z9 e => ?_)
          refine wp_p (j := J_Y_closeTo) 1 (pc' := 58) (lv' := [(4, .int z6), (0, .ref v0), (1, .int v1), (2, .int v2), (3, .int v3)]) (st' := [.int z6, .ref z9]) rfl ?_
          refine x_aI e rfl rfl (fun z10 e => ?_)
          refine wp_p (j := J_Y_closeTo) 1 (pc' := 60) (lv' := [(4, .int z6), (0, .ref v0), (1, .int v1), (2, .int v2), (3, .int v3)]) (st' := [.int 4, .int z10]) rfl ?_
          refine x_eq e rfl (fun e => ?_) (fun e => ?_)
          · refine wp_p (j := J_Y_closeTo) 1 (pc' := 0) (lv' := [(4, .int z6), (0, .ref v0), (1, .int v1), (2, .int v2), (3, .int v3)]) (st' := []) rfl ?_
            have e := Option.some.inj e; subst e; exact wp_lv (lv' := [(0, .ref v0), (1, .int v1), (2, .int v2), (3, .int v3)]) rfl ⟨rfl, rfl, rfl, rfl, trivial⟩ c
          · refine wp_p (j := J_Y_closeTo) 3 (pc' := 66) (lv' := [(4, .int z6), (0, .ref v0), (1, .int v1), (2, .int v2), (3, .int v3)]) (st' := [.ref v0, .int 4, .ref v0]) rfl ?_
            refine x_gQ e rfl rfl fd_12_67 rfl (fun z11 e => ?_)
            refine wp_p (j := J_Y_closeTo) 1 (pc' := 71) (lv' := [(4, .int z6), (0, .ref v0), (1, .int v1), (2, .int v2), (3, .int v3)]) (st' := [.int z6, .ref z11, .int 4, .ref v0]) rfl ?_
            refine x_aI e rfl rfl (fun z12 e => ?_)
            refine x_cv0 (As := [.int 4, .int z12]) (rest := []) e rfl rfl rfl rfl rfl rfl (fun h => d_Y_tellFault h ⟨rfl, rfl⟩) (fun g13 e => ?_)
            refine wp_p (j := J_Y_closeTo) 1 (pc' := 0) (lv' := [(4, .int z6), (0, .ref v0), (1, .int v1), (2, .int v2), (3, .int v3)]) (st' := []) rfl ?_
            have e := Option.some.inj e; subst e; exact wp_lv (lv' := [(0, .ref v0), (1, .int v1), (2, .int v2), (3, .int v3)]) rfl ⟨rfl, rfl, rfl, rfl, trivial⟩ c
  · have e := Option.some.inj e; subst e; exact wp_lv (lv' := []) rfl trivial c
noncomputable def L_Y_closeTo_0 (v0 : Nat) (v1 : Int32) (v2 : Int32) (v3 : Int32) (g : g_S) : Option (g_S) := it (fun s : g_S => b_Y_closeTo_0 v0 v1 v2 v3 s) (g)
theorem l_Y_closeTo_0 {L : Nat} {xs : Nat → Int32} {Q : Option Value → ab_H → Prop} {v0 : Nat} {v1 : Int32} {v2 : Int32} {v3 : Int32} {g : g_S} {r : g_S} (e : L_Y_closeTo_0 v0 v1 v2 v3 g = some r) (c : cL_Y_closeTo_0 L xs Q v0 v1 v2 v3 (.inr r)) : wp (ab_ext L xs) J_Y_closeTo 0 [(0, .ref v0), (1, .int v1), (2, .int v2), (3, .int v3)] [] (hp g) Q :=
  it_wp (P := fun s : g_S => wp (ab_ext L xs) J_Y_closeTo 0 [(0, .ref v0), (1, .int v1), (2, .int v2), (3, .int v3)] [] (hp s) Q) (E := fun r => cL_Y_closeTo_0 L xs Q v0 v1 v2 v3 (.inr r)) (fun s out e c => y_Y_closeTo_0 e (by cases out <;> exact c)) e c
theorem L_Y_closeTo_0_eq (v0 : Nat) (v1 : Int32) (v2 : Int32) (v3 : Int32) (g : g_S) : L_Y_closeTo_0 v0 v1 v2 v3 g = itc (b_Y_closeTo_0 v0 v1 v2 v3 g) (fun s => L_Y_closeTo_0 v0 v1 v2 v3 s) := it_eq2 (fun s : g_S => b_Y_closeTo_0 v0 v1 v2 v3 s) (g)
noncomputable def M_Y_closeTo (v0 : Nat) (v1 : Int32) (v2 : Int32) (v3 : Int32) (g : g_S) : Option g_S :=
  (L_Y_closeTo_0 v0 v1 v2 v3 g).bind <| fun g3 =>
  some g3
set_option maxRecDepth 20000 in
theorem d_Y_closeTo {L : Nat} {xs : Nat → Int32} {Q : Option Value → ab_H → Prop} {v0 : Nat} {v1 : Int32} {v2 : Int32} {v3 : Int32} {g : g_S} {out : g_S} (e : M_Y_closeTo v0 v1 v2 v3 g = some out) (c : Q none (hp out)) : mw (ab_ext L xs) J_Y_closeTo [.ref v0, .int v1, .int v2, .int v3] (hp g) Q := by
  unfold M_Y_closeTo at e
  obtain ⟨g3, h2, e⟩ := bd e
  refine wp_lv (lv' := [(0, .ref v0), (1, .int v1), (2, .int v2), (3, .int v3)]) rfl ⟨rfl, rfl, rfl, rfl, trivial⟩ ?_
  refine l_Y_closeTo_0 h2 ?_
  show wp (ab_ext L xs) J_Y_closeTo 78 [] [] (hp g3) Q
  have e := Option.some.inj e; subst e; exact wp_vret rfl rfl c
