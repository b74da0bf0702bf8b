/-! methods as functions, group 11 -/
def cL_Y_setText_57 (L : Nat) (xs : Nat → Int32) (Q : Option Value → ab_H → Prop) (v0 : Nat) (v1 : Nat) (v2 : Int32) (v3 : Int32) (v4 : Int32) (out : (g_S) ⊕ (g_S)) : Prop := match out with
  | .inl s => wp (ab_ext L xs) J_Y_setText 57 [(0, .ref v0), (1, .ref v1), (2, .int v2), (3, .int v3), (4, .int v4)] [] (hp s) Q
  | .inr s => wp (ab_ext L xs) J_Y_setText 82 [(0, .ref v0), (1, .ref v1), (2, .int v2), (3, .int v3), (4, .int v4)] [] (hp s) Q
noncomputable def b_Y_setText_57 (v0 : Nat) (v1 : Nat) (v2 : Int32) (v3 : Int32) (v4 : Int32) (g : g_S) : Option ((g_S) ⊕ (g_S)) :=
  (rQ g 112 v0 50).bind fun z1 =>
  (aI g 0 z1 v4).bind fun z2 =>
  if z2 = (-1) then
    some (.inr g)
  else
    (rQ g 112 v0 50).bind fun z3 =>
    (aI g 0 z3 v4).bind fun z4 =>
    (vc g 112 v0 (M_Y_remove v0 z4 g)).bind fun g5 =>
    some (.inl g5)
set_option maxRecDepth 20000 in
theorem y_Y_setText_57 {L : Nat} {xs : Nat → Int32} {Q : Option Value → ab_H → Prop} {v0 : Nat} {v1 : Nat} {v2 : Int32} {v3 : Int32} {v4 : Int32} {g : g_S} {out : (g_S) ⊕ (g_S)} (e : b_Y_setText_57 v0 v1 v2 v3 v4 g = some out) (c : cL_Y_setText_57 L xs Q v0 v1 v2 v3 v4 out) : wp (ab_ext L xs) J_Y_setText 57 [(0, .ref v0), (1, .ref v1), (2, .int v2), (3, .int v3), (4, .int v4)] [] (hp g) Q := by
  unfold b_Y_setText_57 at e
  refine wp_p (j := J_Y_setText) 1 (pc' := 58) (lv' := [(0, .ref v0), (1, .ref v1), (2, .int v2), (3, .int v3), (4, .int v4)]) (st' := [.ref v0]) rfl ?_
  refine x_gQ e rfl rfl fd_12_50 rfl (fun z1 e => ?_)
  refine wp_p (j := J_Y_setText) 1 (pc' := 63) (lv' := [(0, .ref v0), (1, .ref v1), (2, .int v2), (3, .int v3), (4, .int v4)]) (st' := [.int v4, .ref z1]) rfl ?_
  refine x_aI e rfl rfl (fun z2 e => ?_)
  refine wp_p (j := J_Y_setText) 1 (pc' := 65) (lv' := [(0, .ref v0), (1, .ref v1), (2, .int v2), (3, .int v3), (4, .int v4)]) (st' := [.int (-1), .int z2]) rfl ?_
  refine x_eq e rfl (fun e => ?_) (fun e => ?_)
  · have e := Option.some.inj e; subst e; exact wp_lv (lv' := [(0, .ref v0), (1, .ref v1), (2, .int v2), (3, .int v3), (4, .int v4)]) rfl ⟨rfl, rfl, rfl, rfl, rfl, trivial⟩ c
  · refine wp_p (j := J_Y_setText) 2 (pc' := 70) (lv' := [(0, .ref v0), (1, .ref v1), (2, .int v2), (3, .int v3), (4, .int v4)]) (st' := [.ref v0, .ref v0]) rfl ?_
    refine x_gQ e rfl rfl fd_12_50 rfl (fun z3 e => ?_)
    refine wp_p (j := J_Y_setText) 1 (pc' := 75) (lv' := [(0, .ref v0), (1, .ref v1), (2, .int v2), (3, .int v3), (4, .int v4)]) (st' := [.int v4, .ref z3, .ref v0]) rfl ?_
    refine x_aI e rfl rfl (fun z4 e => ?_)
    refine x_cv0 (As := [.int z4]) (rest := []) e rfl rfl rfl rfl rfl rfl (fun h => d_Y_remove h ⟨rfl, rfl⟩) (fun g5 e => ?_)
    refine wp_p (j := J_Y_setText) 1 (pc' := 57) (lv' := [(0, .ref v0), (1, .ref v1), (2, .int v2), (3, .int v3), (4, .int v4)]) (st' := []) rfl ?_
    have e := Option.some.inj e; subst e; exact wp_lv (lv' := [(0, .ref v0), (1, .ref v1), (2, .int v2), (3, .int v3), (4, .int v4)]) rfl ⟨rfl, rfl, rfl, rfl, rfl, trivial⟩ c
noncomputable def L_Y_setText_57 (v0 : Nat) (v1 : Nat) (v2 : Int32) (v3 : Int32) (v4 : Int32) (g : g_S) : Option (g_S) := it (fun s : g_S => b_Y_setText_57 v0 v1 v2 v3 v4 s) (g)
theorem l_Y_setText_57 {L : Nat} {xs : Nat → Int32} {Q : Option Value → ab_H → Prop} {v0 : Nat} {v1 : Nat} {v2 : Int32} {v3 : Int32} {v4 : Int32} {g : g_S} {r : g_S} (e : L_Y_setText_57 v0 v1 v2 v3 v4 g = some r) (c : cL_Y_setText_57 L xs Q v0 v1 v2 v3 v4 (.inr r)) : wp (ab_ext L xs) J_Y_setText 57 [(0, .ref v0), (1, .ref v1), (2, .int v2), (3, .int v3), (4, .int v4)] [] (hp g) Q :=
  it_wp (P := fun s : g_S => wp (ab_ext L xs) J_Y_setText 57 [(0, .ref v0), (1, .ref v1), (2, .int v2), (3, .int v3), (4, .int v4)] [] (hp s) Q) (E := fun r => cL_Y_setText_57 L xs Q v0 v1 v2 v3 v4 (.inr r)) (fun s out e c => y_Y_setText_57 e (by cases out <;> exact c)) e c
theorem L_Y_setText_57_eq (v0 : Nat) (v1 : Nat) (v2 : Int32) (v3 : Int32) (v4 : Int32) (g : g_S) : L_Y_setText_57 v0 v1 v2 v3 v4 g = itc (b_Y_setText_57 v0 v1 v2 v3 v4 g) (fun s => L_Y_setText_57 v0 v1 v2 v3 v4 s) := it_eq2 (fun s : g_S => b_Y_setText_57 v0 v1 v2 v3 v4 s) (g)
def cL_Y_setText_121 (L : Nat) (xs : Nat → Int32) (Q : Option Value → ab_H → Prop) (v0 : Nat) (v1 : Nat) (v2 : Int32) (v5 : Int32) (out : (Int32 × g_S) ⊕ (g_S)) : Prop := match out with
  | .inl s => wp (ab_ext L xs) J_Y_setText 121 [(0, .ref v0), (1, .ref v1), (2, .int v2), (5, .int v5), (6, .int s.1)] [] (hp s.2) Q
  | .inr s => wp (ab_ext L xs) J_Y_setText 159 [] [] (hp s) Q
noncomputable def b_Y_setText_121 (v0 : Nat) (v1 : Nat) (v2 : Int32) (v5 : Int32) (v6 : Int32) (g : g_S) : Option ((Int32 × g_S) ⊕ (g_S)) :=
  (rQ g 112 v0 62).bind fun z1 =>
  (aI g 0 z1 v5).bind fun z2 =>
  if v6 < z2 then
    (rQ g 112 v0 61).bind fun z3 =>
    (aI g 1 v1 (v2 + v6)).bind fun z4 =>
    (sB g z3 ((400 * v5) + v6) z4).bind fun g5 =>
    some (.inl (v6 + 1, g5))
  else
    some (.inr g)
set_option maxRecDepth 20000 in
theorem y_Y_setText_121 {L : Nat} {xs : Nat → Int32} {Q : Option Value → ab_H → Prop} {v0 : Nat} {v1 : Nat} {v2 : Int32} {v5 : Int32} {v6 : Int32} {g : g_S} {out : (Int32 × g_S) ⊕ (g_S)} (e : b_Y_setText_121 v0 v1 v2 v5 v6 g = some out) (c : cL_Y_setText_121 L xs Q v0 v1 v2 v5 out) : wp (ab_ext L xs) J_Y_setText 121 [(0, .ref v0), (1, .ref v1), (2, .int v2), (5, .int v5), (6, .int v6)] [] (hp g) Q := by
  unfold b_Y_setText_121 at e
  refine wp_p (j := J_Y_setText) 2 (pc' := 124) (lv' := [(0, .ref v0), (1, .ref v1), (2, .int v2), (5, .int v5), (6, .int v6)]) (st' := [.ref v0, .int v6]) rfl ?_
  refine x_gQ e rfl rfl fd_12_62 rfl (fun z1 e => ?_)
  refine wp_p (j := J_Y_setText) 1 (pc' := 129) (lv' := [(0, .ref v0), (1, .ref v1), (2, .int v2), (5, .int v5), (6, .int v6)]) (st' := [.int v5, .ref z1, .int v6]) rfl ?_
  refine x_aI e rfl rfl (fun z2 e => ?_)
  refine x_ge e rfl (fun e => ?_) (fun e => ?_)
  · refine wp_p (j := J_Y_setText) 1 (pc' := 134) (lv' := [(0, .ref v0), (1, .ref v1), (2, .int v2), (5, .int v5), (6, .int v6)]) (st' := [.ref v0]) rfl ?_
    refine x_gQ e rfl rfl fd_12_61 rfl (fun z3 e => ?_)
    refine wp_p (j := J_Y_setText) 9 (pc' := 151) (lv' := [(0, .ref v0), (1, .ref v1), (2, .int v2), (5, .int v5), (6, .int v6)]) (st' := [.int (v2 + v6), .ref v1, .int ((400 * v5) + v6), .ref z3]) rfl ?_
    refine x_aB e rfl (.inl rfl) rfl (fun z4 e => ?_)
    refine x_sB e rfl rfl (fun g5 e => ?_)
    refine wp_p (j := J_Y_setText) 2 (pc' := 121) (lv' := [(6, .int (v6 + 1)), (0, .ref v0), (1, .ref v1), (2, .int v2), (5, .int v5)]) (st' := []) rfl ?_
    have e := Option.some.inj e; subst e; exact wp_lv (lv' := [(0, .ref v0), (1, .ref v1), (2, .int v2), (5, .int v5), (6, .int (v6 + 1))]) rfl ⟨rfl, rfl, rfl, rfl, rfl, trivial⟩ c
  · have e := Option.some.inj e; subst e; exact wp_lv (lv' := []) rfl trivial c
noncomputable def L_Y_setText_121 (v0 : Nat) (v1 : Nat) (v2 : Int32) (v5 : Int32) (v6 : Int32) (g : g_S) : Option (g_S) := it (fun s : Int32 × g_S => b_Y_setText_121 v0 v1 v2 v5 s.1 s.2) (v6, g)
theorem l_Y_setText_121 {L : Nat} {xs : Nat → Int32} {Q : Option Value → ab_H → Prop} {v0 : Nat} {v1 : Nat} {v2 : Int32} {v5 : Int32} {v6 : Int32} {g : g_S} {r : g_S} (e : L_Y_setText_121 v0 v1 v2 v5 v6 g = some r) (c : cL_Y_setText_121 L xs Q v0 v1 v2 v5 (.inr r)) : wp (ab_ext L xs) J_Y_setText 121 [(0, .ref v0), (1, .ref v1), (2, .int v2), (5, .int v5), (6, .int v6)] [] (hp g) Q :=
  it_wp (P := fun s : Int32 × g_S => wp (ab_ext L xs) J_Y_setText 121 [(0, .ref v0), (1, .ref v1), (2, .int v2), (5, .int v5), (6, .int s.1)] [] (hp s.2) Q) (E := fun r => cL_Y_setText_121 L xs Q v0 v1 v2 v5 (.inr r)) (fun s out e c => y_Y_setText_121 e (by cases out <;> exact c)) e c
theorem L_Y_setText_121_eq (v0 : Nat) (v1 : Nat) (v2 : Int32) (v5 : Int32) (v6 : Int32) (g : g_S) : L_Y_setText_121 v0 v1 v2 v5 v6 g = itc (b_Y_setText_121 v0 v1 v2 v5 v6 g) (fun s => L_Y_setText_121 v0 v1 v2 v5 s.1 s.2) := it_eq2 (fun s : Int32 × g_S => b_Y_setText_121 v0 v1 v2 v5 s.1 s.2) (v6, g)
noncomputable def M_Y_setText (v0 : Nat) (v1 : Nat) (v2 : Int32) (v3 : Int32) (g : g_S) : Option g_S :=
  (rI g 112 v0 164).bind fun z1 =>
  (rQ g 112 v0 46).bind fun z2 =>
  (aI g 0 z2 z1).bind fun z3 =>
  (M_Y_isEmptyTag z3 g).bind fun z4 =>
  if z4 = 0 then
    (rQ g 112 v0 54).bind fun z5 =>
    (aI g 0 z5 z1).bind fun z6 =>
    if z6 = 20 then
      some g
    else
      if 0 < v3 then
        (rI g 112 v0 68).bind fun z7 =>
        if z7 = 120 then
          (rQ g 112 v0 50).bind fun z8 =>
          (aI g 0 z8 z1).bind fun z9 =>
          if z9 = (-1) then
            some g
          else
            (L_Y_setText_57 v0 v1 v2 v3 z1 g).bind <| fun g12 =>
            if v3 = 0 then
              some g12
            else
              c2 (vc g12 112 v0 (M_Y_fresh v0 z1 g12)) fun z13 g14 =>
              (rQ g14 112 v0 46).bind fun z15 =>
              (sI g14 z15 z13 17).bind fun g16 =>
              (rQ g16 112 v0 62).bind fun z17 =>
              (sI g16 z17 z13 (mn 400 v3)).bind fun g18 =>
              (L_Y_setText_121 v0 v1 v2 z13 0 g18).bind <| fun g21 =>
              some g21
        else
          (L_Y_setText_57 v0 v1 v2 v3 z1 g).bind <| fun g24 =>
          if v3 = 0 then
            some g24
          else
            c2 (vc g24 112 v0 (M_Y_fresh v0 z1 g24)) fun z25 g26 =>
            (rQ g26 112 v0 46).bind fun z27 =>
            (sI g26 z27 z25 17).bind fun g28 =>
            (rQ g28 112 v0 62).bind fun z29 =>
            (sI g28 z29 z25 (mn 400 v3)).bind fun g30 =>
            (L_Y_setText_121 v0 v1 v2 z25 0 g30).bind <| fun g33 =>
            some g33
      else
        (L_Y_setText_57 v0 v1 v2 v3 z1 g).bind <| fun g36 =>
        if v3 = 0 then
          some g36
        else
          c2 (vc g36 112 v0 (M_Y_fresh v0 z1 g36)) fun z37 g38 =>
          (rQ g38 112 v0 46).bind fun z39 =>
          (sI g38 z39 z37 17).bind fun g40 =>
          (rQ g40 112 v0 62).bind fun z41 =>
          (sI g40 z41 z37 (mn 400 v3)).bind fun g42 =>
          (L_Y_setText_121 v0 v1 v2 z37 0 g42).bind <| fun g45 =>
          some g45
  else
    some g
set_option maxRecDepth 20000 in
theorem d_Y_setText {L : Nat} {xs : Nat → Int32} {Q : Option Value → ab_H → Prop} {v0 : Nat} {v1 : Nat} {v2 : Int32} {v3 : Int32} {g : g_S} {out : g_S} (e : M_Y_setText v0 v1 v2 v3 g = some out) (c : Q none (hp out)) : mw (ab_ext L xs) J_Y_setText [.ref v0, .ref v1, .int v2, .int v3] (hp g) Q := by
  unfold M_Y_setText at e
  refine wp_p (j := J_Y_setText) 1 (pc' := 1) (lv' := [(0, .ref v0), (1, .ref v1), (2, .int v2), (3, .int v3)]) (st' := [.ref v0]) rfl ?_
  refine x_gI e rfl rfl fd_12_164 rfl (fun z1 e => ?_)
  refine wp_p (j := J_Y_setText) 2 (pc' := 7) (lv' := [(4, .int z1), (0, .ref v0), (1, .ref v1), (2, .int v2), (3, .int v3)]) (st' := [.ref v0]) rfl ?_
  refine x_gQ e rfl rfl fd_12_46 rfl (fun z2 e => ?_)
  refine wp_p (j := J_Y_setText) 1 (pc' := 12) (lv' := [(4, .int z1), (0, .ref v0), (1, .ref v1), (2, .int v2), (3, .int v3)]) (st' := [.int z1, .ref z2]) rfl ?_
  refine x_aI e rfl rfl (fun z3 e => ?_)
  refine x_cs1 (As := [.int z3]) (rest := []) Value.int e rfl rfl rfl rfl rfl (fun h => d_Y_isEmptyTag h ⟨rfl, rfl⟩) (fun z4 e => ?_)
  refine z_ne e rfl (fun e => ?_) (fun e => ?_)
  · refine wp_p (j := J_Y_setText) 1 (pc' := 20) (lv' := [(4, .int z1), (0, .ref v0), (1, .ref v1), (2, .int v2), (3, .int v3)]) (st' := [.ref v0]) rfl ?_
    refine x_gQ e rfl rfl fd_12_54 rfl (fun z5 e => ?_)
    refine wp_p (j := J_Y_setText) 1 (pc' := 25) (lv' := [(4, .int z1), (0, .ref v0), (1, .ref v1), (2, .int v2), (3, .int v3)]) (st' := [.int z1, .ref z5]) rfl ?_
    refine x_aI e rfl rfl (fun z6 e => ?_)
    refine wp_p (j := J_Y_setText) 1 (pc' := 28) (lv' := [(4, .int z1), (0, .ref v0), (1, .ref v1), (2, .int v2), (3, .int v3)]) (st' := [.int 20, .int z6]) rfl ?_
    refine x_ne e rfl (fun e => ?_) (fun e => ?_)
    · have e := Option.some.inj e; subst e; exact wp_vret rfl rfl c
    · refine wp_p (j := J_Y_setText) 1 (pc' := 33) (lv' := [(4, .int z1), (0, .ref v0), (1, .ref v1), (2, .int v2), (3, .int v3)]) (st' := [.int v3]) rfl ?_
      refine z_le e rfl (fun e => ?_) (fun e => ?_)
      · refine wp_p (j := J_Y_setText) 1 (pc' := 37) (lv' := [(4, .int z1), (0, .ref v0), (1, .ref v1), (2, .int v2), (3, .int v3)]) (st' := [.ref v0]) rfl ?_
        refine x_gI e rfl rfl fd_12_68 rfl (fun z7 e => ?_)
        refine wp_p (j := J_Y_setText) 1 (pc' := 42) (lv' := [(4, .int z1), (0, .ref v0), (1, .ref v1), (2, .int v2), (3, .int v3)]) (st' := [.int 120, .int z7]) rfl ?_
        refine x_ne e rfl (fun e => ?_) (fun e => ?_)
        · refine wp_p (j := J_Y_setText) 1 (pc' := 46) (lv' := [(4, .int z1), (0, .ref v0), (1, .ref v1), (2, .int v2), (3, .int v3)]) (st' := [.ref v0]) rfl ?_
          refine x_gQ e rfl rfl fd_12_50 rfl (fun z8 e => ?_)
          refine wp_p (j := J_Y_setText) 1 (pc' := 51) (lv' := [(4, .int z1), (0, .ref v0), (1, .ref v1), (2, .int v2), (3, .int v3)]) (st' := [.int z1, .ref z8]) rfl ?_
          refine x_aI e rfl rfl (fun z9 e => ?_)
          refine wp_p (j := J_Y_setText) 1 (pc' := 53) (lv' := [(4, .int z1), (0, .ref v0), (1, .ref v1), (2, .int v2), (3, .int v3)]) (st' := [.int (-1), .int z9]) rfl ?_
          refine x_ne e rfl (fun e => ?_) (fun e => ?_)
          · have e := Option.some.inj e; subst e; exact wp_vret rfl rfl c
          · obtain ⟨g12, h11, e⟩ := bd e
            refine wp_lv (lv' := [(0, .ref v0), (1, .ref v1), (2, .int v2), (3, .int v3), (4, .int z1)]) rfl ⟨rfl, rfl, rfl, rfl, rfl, trivial⟩ ?_
            refine l_Y_setText_57 h11 ?_
            show wp (ab_ext L xs) J_Y_setText 82 [(0, .ref v0), (1, .ref v1), (2, .int v2), (3, .int v3), (4, .int z1)] [] (hp g12) Q
            refine wp_p (j := J_Y_setText) 1 (pc' := 83) (lv' := [(0, .ref v0), (1, .ref v1), (2, .int v2), (3, .int v3), (4, .int z1)]) (st' := [.int v3]) rfl ?_
            refine z_ne e rfl (fun e => ?_) (fun e => ?_)
            · have e := Option.some.inj e; subst e; exact wp_vret rfl rfl c
            · refine wp_p (j := J_Y_setText) 2 (pc' := 90) (lv' := [(0, .ref v0), (1, .ref v1), (2, .int v2), (3, .int v3), (4, .int z1)]) (st' := [.int z1, .ref v0]) rfl ?_
              refine x_cv2 (As := [.int z1]) (rest := []) Value.int e rfl rfl rfl rfl rfl rfl (fun h => d_Y_fresh h ⟨rfl, rfl⟩) (fun z13 g14 e => ?_)
              refine wp_p (j := J_Y_setText) 2 (pc' := 96) (lv' := [(5, .int z13), (0, .ref v0), (1, .ref v1), (2, .int v2), (3, .int v3), (4, .int z1)]) (st' := [.ref v0]) rfl ?_
              refine x_gQ e rfl rfl fd_12_46 rfl (fun z15 e => ?_)
              refine wp_p (j := J_Y_setText) 2 (pc' := 103) (lv' := [(5, .int z13), (0, .ref v0), (1, .ref v1), (2, .int v2), (3, .int v3), (4, .int z1)]) (st' := [.int 17, .int z13, .ref z15]) rfl ?_
              refine x_sI e rfl rfl (fun g16 e => ?_)
              refine wp_p (j := J_Y_setText) 1 (pc' := 105) (lv' := [(5, .int z13), (0, .ref v0), (1, .ref v1), (2, .int v2), (3, .int v3), (4, .int z1)]) (st' := [.ref v0]) rfl ?_
              refine x_gQ e rfl rfl fd_12_62 rfl (fun z17 e => ?_)
              refine wp_p (j := J_Y_setText) 3 (pc' := 114) (lv' := [(5, .int z13), (0, .ref v0), (1, .ref v1), (2, .int v2), (3, .int v3), (4, .int z1)]) (st' := [.int v3, .int 400, .int z13, .ref z17]) rfl ?_
              refine x_mn rfl rfl ?_
              refine x_sI e rfl rfl (fun g18 e => ?_)
              refine wp_p (j := J_Y_setText) 2 (pc' := 121) (lv' := [(6, .int 0), (5, .int z13), (0, .ref v0), (1, .ref v1), (2, .int v2), (3, .int v3), (4, .int z1)]) (st' := []) rfl ?_
              obtain ⟨g21, h20, e⟩ := bd e
              refine wp_lv (lv' := [(0, .ref v0), (1, .ref v1), (2, .int v2), (5, .int z13), (6, .int 0)]) rfl ⟨rfl, rfl, rfl, rfl, rfl, trivial⟩ ?_
              refine l_Y_setText_121 h20 ?_
              show wp (ab_ext L xs) J_Y_setText 159 [] [] (hp g21) Q
              have e := Option.some.inj e; subst e; exact wp_vret rfl rfl c
        · obtain ⟨g24, h23, e⟩ := bd e
          refine wp_lv (lv' := [(0, .ref v0), (1, .ref v1), (2, .int v2), (3, .int v3), (4, .int z1)]) rfl ⟨rfl, rfl, rfl, rfl, rfl, trivial⟩ ?_
          refine l_Y_setText_57 h23 ?_
          show wp (ab_ext L xs) J_Y_setText 82 [(0, .ref v0), (1, .ref v1), (2, .int v2), (3, .int v3), (4, .int z1)] [] (hp g24) Q
          refine wp_p (j := J_Y_setText) 1 (pc' := 83) (lv' := [(0, .ref v0), (1, .ref v1), (2, .int v2), (3, .int v3), (4, .int z1)]) (st' := [.int v3]) rfl ?_
          refine z_ne e rfl (fun e => ?_) (fun e => ?_)
          · have e := Option.some.inj e; subst e; exact wp_vret rfl rfl c
          · refine wp_p (j := J_Y_setText) 2 (pc' := 90) (lv' := [(0, .ref v0), (1, .ref v1), (2, .int v2), (3, .int v3), (4, .int z1)]) (st' := [.int z1, .ref v0]) rfl ?_
            refine x_cv2 (As := [.int z1]) (rest := []) Value.int e rfl rfl rfl rfl rfl rfl (fun h => d_Y_fresh h ⟨rfl, rfl⟩) (fun z25 g26 e => ?_)
            refine wp_p (j := J_Y_setText) 2 (pc' := 96) (lv' := [(5, .int z25), (0, .ref v0), (1, .ref v1), (2, .int v2), (3, .int v3), (4, .int z1)]) (st' := [.ref v0]) rfl ?_
            refine x_gQ e rfl rfl fd_12_46 rfl (fun z27 e => ?_)
            refine wp_p (j := J_Y_setText) 2 (pc' := 103) (lv' := [(5, .int z25), (0, .ref v0), (1, .ref v1), (2, .int v2), (3, .int v3), (4, .int z1)]) (st' := [.int 17, .int z25, .ref z27]) rfl ?_
            refine x_sI e rfl rfl (fun g28 e => ?_)
            refine wp_p (j := J_Y_setText) 1 (pc' := 105) (lv' := [(5, .int z25), (0, .ref v0), (1, .ref v1), (2, .int v2), (3, .int v3), (4, .int z1)]) (st' := [.ref v0]) rfl ?_
            refine x_gQ e rfl rfl fd_12_62 rfl (fun z29 e => ?_)
            refine wp_p (j := J_Y_setText) 3 (pc' := 114) (lv' := [(5, .int z25), (0, .ref v0), (1, .ref v1), (2, .int v2), (3, .int v3), (4, .int z1)]) (st' := [.int v3, .int 400, .int z25, .ref z29]) rfl ?_
            refine x_mn rfl rfl ?_
            refine x_sI e rfl rfl (fun g30 e => ?_)
            refine wp_p (j := J_Y_setText) 2 (pc' := 121) (lv' := [(6, .int 0), (5, .int z25), (0, .ref v0), (1, .ref v1), (2, .int v2), (3, .int v3), (4, .int z1)]) (st' := []) rfl ?_
            obtain ⟨g33, h32, e⟩ := bd e
            refine wp_lv (lv' := [(0, .ref v0), (1, .ref v1), (2, .int v2), (5, .int z25), (6, .int 0)]) rfl ⟨rfl, rfl, rfl, rfl, rfl, trivial⟩ ?_
            refine l_Y_setText_121 h32 ?_
            show wp (ab_ext L xs) J_Y_setText 159 [] [] (hp g33) Q
            have e := Option.some.inj e; subst e; exact wp_vret rfl rfl c
      · obtain ⟨g36, h35, e⟩ := bd e
        refine wp_lv (lv' := [(0, .ref v0), (1, .ref v1), (2, .int v2), (3, .int v3), (4, .int z1)]) rfl ⟨rfl, rfl, rfl, rfl, rfl, trivial⟩ ?_
        refine l_Y_setText_57 h35 ?_
        show wp (ab_ext L xs) J_Y_setText 82 [(0, .ref v0), (1, .ref v1), (2, .int v2), (3, .int v3), (4, .int z1)] [] (hp g36) Q
        refine wp_p (j := J_Y_setText) 1 (pc' := 83) (lv' := [(0, .ref v0), (1, .ref v1), (2, .int v2), (3, .int v3), (4, .int z1)]) (st' := [.int v3]) rfl ?_
        refine z_ne e rfl (fun e => ?_) (fun e => ?_)
        · have e := Option.some.inj e; subst e; exact wp_vret rfl rfl c
        · refine wp_p (j := J_Y_setText) 2 (pc' := 90) (lv' := [(0, .ref v0), (1, .ref v1), (2, .int v2), (3, .int v3), (4, .int z1)]) (st' := [.int z1, .ref v0]) rfl ?_
          refine x_cv2 (As := [.int z1]) (rest := []) Value.int e rfl rfl rfl rfl rfl rfl (fun h => d_Y_fresh h ⟨rfl, rfl⟩) (fun z37 g38 e => ?_)
          refine wp_p (j := J_Y_setText) 2 (pc' := 96) (lv' := [(5, .int z37), (0, .ref v0), (1, .ref v1), (2, .int v2), (3, .int v3), (4, .int z1)]) (st' := [.ref v0]) rfl ?_
          refine x_gQ e rfl rfl fd_12_46 rfl (fun z39 e => ?_)
          refine wp_p (j := J_Y_setText) 2 (pc' := 103) (lv' := [(5, .int z37), (0, .ref v0), (1, .ref v1), (2, .int v2), (3, .int v3), (4, .int z1)]) (st' := [.int 17, .int z37, .ref z39]) rfl ?_
          refine x_sI e rfl rfl (fun g40 e => ?_)
          refine wp_p (j := J_Y_setText) 1 (pc' := 105) (lv' := [(5, .int z37), (0, .ref v0), (1, .ref v1), (2, .int v2), (3, .int v3), (4, .int z1)]) (st' := [.ref v0]) rfl ?_
          refine x_gQ e rfl rfl fd_12_62 rfl (fun z41 e => ?_)
          refine wp_p (j := J_Y_setText) 3 (pc' := 114) (lv' := [(5, .int z37), (0, .ref v0), (1, .ref v1), (2, .int v2), (3, .int v3), (4, .int z1)]) (st' := [.int v3, .int 400, .int z37, .ref z41]) rfl ?_
          refine x_mn rfl rfl ?_
          refine x_sI e rfl rfl (fun g42 e => ?_)
          refine wp_p (j := J_Y_setText) 2 (pc' := 121) (lv' := [(6, .int 0), (5, .int z37), (0, .ref v0), (1, .ref v1), (2, .int v2), (3, .int v3), (4, .int z1)]) (st' := []) rfl ?_
          obtain ⟨g45, h44, e⟩ := bd e
          refine wp_lv (lv' := [(0, .ref v0), (1, .ref v1), (2, .int v2), (5, .int z37), (6, .int 0)]) rfl ⟨rfl, rfl, rfl, rfl, rfl, trivial⟩ ?_
          refine l_Y_setText_121 h44 ?_
          show wp (ab_ext L xs) J_Y_setText 159 [] [] (hp g45) Q
          have e := Option.some.inj e; subst e; exact wp_vret rfl rfl c
  · have e := Option.some.inj e; subst e; exact wp_vret rfl rfl c
def cL_Y_setClass_133 (L : Nat) (xs : Nat → Int32) (Q : Option Value → ab_H → Prop) (v0 : Nat) (v1 : Int32) (v3 : Int32) (out : (Int32 × g_S) ⊕ (g_S)) : Prop := match out with
  | .inl s => wp (ab_ext L xs) J_Y_setClass 133 [(0, .ref v0), (1, .int v1), (3, .int v3), (4, .int s.1)] [] (hp s.2) Q
  | .inr s => wp (ab_ext L xs) J_Y_setClass 171 [] [] (hp s) Q
noncomputable def b_Y_setClass_133 (v0 : Nat) (v1 : Int32) (v3 : Int32) (v4 : Int32) (g : g_S) : Option ((Int32 × g_S) ⊕ (g_S)) :=
  (rQ g 112 v0 60).bind fun z1 =>
  (aI g 0 z1 v3).bind fun z2 =>
  if v4 < z2 then
    (rQ g 112 v0 59).bind fun z3 =>
    (rQ g 112 v0 159).bind fun z4 =>
    (aI g 1 z4 (v1 + v4)).bind fun z5 =>
    (sB g z3 ((60 * v3) + v4) z5).bind fun g6 =>
    some (.inl (v4 + 1, g6))
  else
    some (.inr g)
set_option maxRecDepth 20000 in
theorem y_Y_setClass_133 {L : Nat} {xs : Nat → Int32} {Q : Option Value → ab_H → Prop} {v0 : Nat} {v1 : Int32} {v3 : Int32} {v4 : Int32} {g : g_S} {out : (Int32 × g_S) ⊕ (g_S)} (e : b_Y_setClass_133 v0 v1 v3 v4 g = some out) (c : cL_Y_setClass_133 L xs Q v0 v1 v3 out) : wp (ab_ext L xs) J_Y_setClass 133 [(0, .ref v0), (1, .int v1), (3, .int v3), (4, .int v4)] [] (hp g) Q := by
  unfold b_Y_setClass_133 at e
  refine wp_p (j := J_Y_setClass) 2 (pc' := 136) (lv' := [(0, .ref v0), (1, .int v1), (3, .int v3), (4, .int v4)]) (st' := [.ref v0, .int v4]) rfl ?_
  refine x_gQ e rfl rfl fd_12_60 rfl (fun z1 e => ?_)
  refine wp_p (j := J_Y_setClass) 1 (pc' := 140) (lv' := [(0, .ref v0), (1, .int v1), (3, .int v3), (4, .int v4)]) (st' := [.int v3, .ref z1, .int v4]) rfl ?_
  refine x_aI e rfl rfl (fun z2 e => ?_)
  refine x_ge e rfl (fun e => ?_) (fun e => ?_)
  · refine wp_p (j := J_Y_setClass) 1 (pc' := 145) (lv' := [(0, .ref v0), (1, .int v1), (3, .int v3), (4, .int v4)]) (st' := [.ref v0]) rfl ?_
    refine x_gQ e rfl rfl fd_12_59 rfl (fun z3 e => ?_)
    refine wp_p (j := J_Y_setClass) 6 (pc' := 156) (lv' := [(0, .ref v0), (1, .int v1), (3, .int v3), (4, .int v4)]) (st' := [.ref v0, .int ((60 * v3) + v4), .ref z3]) rfl ?_
    refine x_gQ e rfl rfl fd_12_159 rfl (fun z4 e => ?_)
    refine wp_p (j := J_Y_setClass) 3 (pc' := 163) (lv' := [(0, .ref v0), (1, .int v1), (3, .int v3), (4, .int v4)]) (st' := [.int (v1 + v4), .ref z4, .int ((60 * v3) + v4), .ref z3]) rfl ?_
    refine x_aB e rfl (.inl rfl) rfl (fun z5 e => ?_)
    refine x_sB e rfl rfl (fun g6 e => ?_)
    refine wp_p (j := J_Y_setClass) 2 (pc' := 133) (lv' := [(4, .int (v4 + 1)), (0, .ref v0), (1, .int v1), (3, .int v3)]) (st' := []) rfl ?_
    have e := Option.some.inj e; subst e; exact wp_lv (lv' := [(0, .ref v0), (1, .int v1), (3, .int v3), (4, .int (v4 + 1))]) rfl ⟨rfl, rfl, rfl, rfl, trivial⟩ c
  · have e := Option.some.inj e; subst e; exact wp_lv (lv' := []) rfl trivial c
noncomputable def L_Y_setClass_133 (v0 : Nat) (v1 : Int32) (v3 : Int32) (v4 : Int32) (g : g_S) : Option (g_S) := it (fun s : Int32 × g_S => b_Y_setClass_133 v0 v1 v3 s.1 s.2) (v4, g)
theorem l_Y_setClass_133 {L : Nat} {xs : Nat → Int32} {Q : Option Value → ab_H → Prop} {v0 : Nat} {v1 : Int32} {v3 : Int32} {v4 : Int32} {g : g_S} {r : g_S} (e : L_Y_setClass_133 v0 v1 v3 v4 g = some r) (c : cL_Y_setClass_133 L xs Q v0 v1 v3 (.inr r)) : wp (ab_ext L xs) J_Y_setClass 133 [(0, .ref v0), (1, .int v1), (3, .int v3), (4, .int v4)] [] (hp g) Q :=
  it_wp (P := fun s : Int32 × g_S => wp (ab_ext L xs) J_Y_setClass 133 [(0, .ref v0), (1, .int v1), (3, .int v3), (4, .int s.1)] [] (hp s.2) Q) (E := fun r => cL_Y_setClass_133 L xs Q v0 v1 v3 (.inr r)) (fun s out e c => y_Y_setClass_133 e (by cases out <;> exact c)) e c
theorem L_Y_setClass_133_eq (v0 : Nat) (v1 : Int32) (v3 : Int32) (v4 : Int32) (g : g_S) : L_Y_setClass_133 v0 v1 v3 v4 g = itc (b_Y_setClass_133 v0 v1 v3 v4 g) (fun s => L_Y_setClass_133 v0 v1 v3 s.1 s.2) := it_eq2 (fun s : Int32 × g_S => b_Y_setClass_133 v0 v1 v3 s.1 s.2) (v4, g)
def cL_Y_setClass_76 (L : Nat) (xs : Nat → Int32) (Q : Option Value → ab_H → Prop) (v0 : Nat) (v1 : Int32) (v2 : Int32) (v3 : Int32) (v4 : Int64) (out : (Int32 × g_S) ⊕ (g_S)) : Prop := match out with
  | .inl s => wp (ab_ext L xs) J_Y_setClass 76 [(0, .ref v0), (1, .int v1), (2, .int v2), (3, .int v3), (4, .long v4), (6, .int s.1)] [] (hp s.2) Q
  | .inr s => wp (ab_ext L xs) J_Y_setClass 116 [(0, .ref v0), (1, .int v1), (2, .int v2), (3, .int v3)] [] (hp s) Q
noncomputable def b_Y_setClass_76 (v0 : Nat) (v1 : Int32) (v2 : Int32) (v3 : Int32) (v4 : Int64) (v6 : Int32) (g : g_S) : Option ((Int32 × g_S) ⊕ (g_S)) :=
  if v6 < 5 then
    (rQ g 112 v0 57).bind fun z1 =>
    (sB g z1 ((8 * v3) + v6) ((Int32.toInt8 (96 + (Int64.toInt32 ((v4 >>> ((5 * v6 : Int32).toInt64 &&& 63)) &&& 31)))).toInt32)).bind fun g2 =>
    some (.inl (v6 + 1, g2))
  else
    some (.inr g)
set_option maxRecDepth 20000 in
theorem y_Y_setClass_76 {L : Nat} {xs : Nat → Int32} {Q : Option Value → ab_H → Prop} {v0 : Nat} {v1 : Int32} {v2 : Int32} {v3 : Int32} {v4 : Int64} {v6 : Int32} {g : g_S} {out : (Int32 × g_S) ⊕ (g_S)} (e : b_Y_setClass_76 v0 v1 v2 v3 v4 v6 g = some out) (c : cL_Y_setClass_76 L xs Q v0 v1 v2 v3 v4 out) : wp (ab_ext L xs) J_Y_setClass 76 [(0, .ref v0), (1, .int v1), (2, .int v2), (3, .int v3), (4, .long v4), (6, .int v6)] [] (hp g) Q := by
  unfold b_Y_setClass_76 at e
  refine wp_p (j := J_Y_setClass) 2 (pc' := 79) (lv' := [(0, .ref v0), (1, .int v1), (2, .int v2), (3, .int v3), (4, .long v4), (6, .int v6)]) (st' := [.int 5, .int v6]) rfl ?_
  refine x_ge e rfl (fun e => ?_) (fun e => ?_)
  · refine wp_p (j := J_Y_setClass) 1 (pc' := 83) (lv' := [(0, .ref v0), (1, .int v1), (2, .int v2), (3, .int v3), (4, .long v4), (6, .int v6)]) (st' := [.ref v0]) rfl ?_
    refine x_gQ e rfl rfl fd_12_57 rfl (fun z1 e => ?_)
    refine wp_p (j := J_Y_setClass) 11 (pc' := 102) (lv' := [(0, .ref v0), (1, .int v1), (2, .int v2), (3, .int v3), (4, .long v4), (6, .int v6)]) (st' := [.long (v4 >>> ((5 * v6 : Int32).toInt64 &&& 63)), .int 96, .int ((8 * v3) + v6), .ref z1]) rfl ?_
    refine x_l2 (xl := 31) rfl rfl rfl ?_
    refine wp_p (j := J_Y_setClass) 4 (pc' := 109) (lv' := [(0, .ref v0), (1, .int v1), (2, .int v2), (3, .int v3), (4, .long v4), (6, .int v6)]) (st' := [.int ((Int32.toInt8 (96 + (Int64.toInt32 ((v4 >>> ((5 * v6 : Int32).toInt64 &&& 63)) &&& 31)))).toInt32), .int ((8 * v3) + v6), .ref z1]) rfl ?_
    refine x_sB e rfl rfl (fun g2 e => ?_)
    refine wp_p (j := J_Y_setClass) 2 (pc' := 76) (lv' := [(6, .int (v6 + 1)), (0, .ref v0), (1, .int v1), (2, .int v2), (3, .int v3), (4, .long v4)]) (st' := []) rfl ?_
    have e := Option.some.inj e; subst e; exact wp_lv (lv' := [(0, .ref v0), (1, .int v1), (2, .int v2), (3, .int v3), (4, .long v4), (6, .int (v6 + 1))]) rfl ⟨rfl, rfl, rfl, rfl, rfl, rfl, trivial⟩ c
  · have e := Option.some.inj e; subst e; exact wp_lv (lv' := [(0, .ref v0), (1, .int v1), (2, .int v2), (3, .int v3)]) rfl ⟨rfl, rfl, rfl, rfl, trivial⟩ c
noncomputable def L_Y_setClass_76 (v0 : Nat) (v1 : Int32) (v2 : Int32) (v3 : Int32) (v4 : Int64) (v6 : Int32) (g : g_S) : Option (g_S) := it (fun s : Int32 × g_S => b_Y_setClass_76 v0 v1 v2 v3 v4 s.1 s.2) (v6, g)
theorem l_Y_setClass_76 {L : Nat} {xs : Nat → Int32} {Q : Option Value → ab_H → Prop} {v0 : Nat} {v1 : Int32} {v2 : Int32} {v3 : Int32} {v4 : Int64} {v6 : Int32} {g : g_S} {r : g_S} (e : L_Y_setClass_76 v0 v1 v2 v3 v4 v6 g = some r) (c : cL_Y_setClass_76 L xs Q v0 v1 v2 v3 v4 (.inr r)) : wp (ab_ext L xs) J_Y_setClass 76 [(0, .ref v0), (1, .int v1), (2, .int v2), (3, .int v3), (4, .long v4), (6, .int v6)] [] (hp g) Q :=
  it_wp (P := fun s : Int32 × g_S => wp (ab_ext L xs) J_Y_setClass 76 [(0, .ref v0), (1, .int v1), (2, .int v2), (3, .int v3), (4, .long v4), (6, .int s.1)] [] (hp s.2) Q) (E := fun r => cL_Y_setClass_76 L xs Q v0 v1 v2 v3 v4 (.inr r)) (fun s out e c => y_Y_setClass_76 e (by cases out <;> exact c)) e c
theorem L_Y_setClass_76_eq (v0 : Nat) (v1 : Int32) (v2 : Int32) (v3 : Int32) (v4 : Int64) (v6 : Int32) (g : g_S) : L_Y_setClass_76 v0 v1 v2 v3 v4 v6 g = itc (b_Y_setClass_76 v0 v1 v2 v3 v4 v6 g) (fun s => L_Y_setClass_76 v0 v1 v2 v3 v4 s.1 s.2) := it_eq2 (fun s : Int32 × g_S => b_Y_setClass_76 v0 v1 v2 v3 v4 s.1 s.2) (v6, g)
noncomputable def k_Y_setClass_116 (v0 : Nat) (v1 : Int32) (v2 : Int32) (v3 : Int32) (g : g_S) : Option g_S :=
  (rQ g 112 v0 60).bind fun z1 =>
  (sI g z1 v3 (mn 60 (v2 - v1))).bind fun g2 =>
  (L_Y_setClass_133 v0 v1 v3 0 g2).bind <| fun g5 =>
  some g5
set_option maxRecDepth 20000 in
theorem x_Y_setClass_116 {L : Nat} {xs : Nat → Int32} {Q : Option Value → ab_H → Prop} {v0 : Nat} {v1 : Int32} {v2 : Int32} {v3 : Int32} {g : g_S} {out : g_S} (e : k_Y_setClass_116 v0 v1 v2 v3 g = some out) (c : Q none (hp out)) : wp (ab_ext L xs) J_Y_setClass 116 [(0, .ref v0), (1, .int v1), (2, .int v2), (3, .int v3)] [] (hp g) Q := by
  unfold k_Y_setClass_116 at e
  refine wp_p (j := J_Y_setClass) 1 (pc' := 117) (lv' := [(0, .ref v0), (1, .int v1), (2, .int v2), (3, .int v3)]) (st' := [.ref v0]) rfl ?_
  refine x_gQ e rfl rfl fd_12_60 rfl (fun z1 e => ?_)
  refine wp_p (j := J_Y_setClass) 5 (pc' := 126) (lv' := [(0, .ref v0), (1, .int v1), (2, .int v2), (3, .int v3)]) (st' := [.int (v2 - v1), .int 60, .int v3, .ref z1]) rfl ?_
  refine x_mn rfl rfl ?_
  refine x_sI e rfl rfl (fun g2 e => ?_)
  refine wp_p (j := J_Y_setClass) 2 (pc' := 133) (lv' := [(4, .int 0), (0, .ref v0), (1, .int v1), (2, .int v2), (3, .int v3)]) (st' := []) rfl ?_
  obtain ⟨g5, h4, e⟩ := bd e
  refine wp_lv (lv' := [(0, .ref v0), (1, .int v1), (3, .int v3), (4, .int 0)]) rfl ⟨rfl, rfl, rfl, rfl, trivial⟩ ?_
  refine l_Y_setClass_133 h4 ?_
  show wp (ab_ext L xs) J_Y_setClass 171 [] [] (hp g5) Q
  have e := Option.some.inj e; subst e; exact wp_vret rfl rfl c
noncomputable def M_Y_setClass (v0 : Nat) (v1 : Int32) (v2 : Int32) (g : g_S) : Option g_S :=
  (rI g 112 v0 164).bind fun z1 =>
  (vc g 112 v0 (M_Y_attributeOf v0 z1 20546947 g)).bind fun z2 =>
  if z2 = (-1) then
    (rQ g 112 v0 56).bind fun z3 =>
    (rI g 112 v0 164).bind fun z4 =>
    (aI g 0 z3 z4).bind fun z5 =>
    if z5 = 4 then
      some g
    else
      (rI g 112 v0 164).bind fun z6 =>
      (rQ g 112 v0 56).bind fun z7 =>
      (rI g 112 v0 164).bind fun z8 =>
      (aI g 0 z7 z8).bind fun z9 =>
      (rQ g 112 v0 56).bind fun z10 =>
      (rI g 112 v0 164).bind fun z11 =>
      (aI g 0 z10 z11).bind fun z12 =>
      (sI g z10 z11 (z12 + 1)).bind fun g13 =>
      (rQ g13 112 v0 58).bind fun z14 =>
      (sI g13 z14 ((4 * z6) + z9) 5).bind fun g15 =>
      (L_Y_setClass_76 v0 v1 v2 ((4 * z6) + z9) 20546947 0 g15).bind <| fun g18 =>
      k_Y_setClass_116 v0 v1 v2 ((4 * z6) + z9) g18
  else
    k_Y_setClass_116 v0 v1 v2 z2 g
set_option maxRecDepth 20000 in
theorem d_Y_setClass {L : Nat} {xs : Nat → Int32} {Q : Option Value → ab_H → Prop} {v0 : Nat} {v1 : Int32} {v2 : Int32} {g : g_S} {out : g_S} (e : M_Y_setClass v0 v1 v2 g = some out) (c : Q none (hp out)) : mw (ab_ext L xs) J_Y_setClass [.ref v0, .int v1, .int v2] (hp g) Q := by
  unfold M_Y_setClass at e
  refine wp_p (j := J_Y_setClass) 2 (pc' := 2) (lv' := [(0, .ref v0), (1, .int v1), (2, .int v2)]) (st' := [.ref v0, .ref v0]) rfl ?_
  refine x_gI e rfl rfl fd_12_164 rfl (fun z1 e => ?_)
  refine x_l2 (xl := 20546947) rfl rfl rfl ?_
  refine x_cv1 (As := [.int z1, .long 20546947]) (rest := []) Value.int e rfl rfl rfl rfl rfl rfl (fun h => d_Y_attributeOf h ⟨rfl, rfl⟩) (fun z2 e => ?_)
  refine wp_p (j := J_Y_setClass) 3 (pc' := 14) (lv' := [(3, .int z2), (0, .ref v0), (1, .int v1), (2, .int v2)]) (st' := [.int (-1), .int z2]) rfl ?_
  refine x_ne e rfl (fun e => ?_) (fun e => ?_)
  · refine wp_p (j := J_Y_setClass) 1 (pc' := 18) (lv' := [(3, .int z2), (0, .ref v0), (1, .int v1), (2, .int v2)]) (st' := [.ref v0]) rfl ?_
    refine x_gQ e rfl rfl fd_12_56 rfl (fun z3 e => ?_)
    refine wp_p (j := J_Y_setClass) 1 (pc' := 22) (lv' := [(3, .int z2), (0, .ref v0), (1, .int v1), (2, .int v2)]) (st' := [.ref v0, .ref z3]) rfl ?_
    refine x_gI e rfl rfl fd_12_164 rfl (fun z4 e => ?_)
    refine x_aI e rfl rfl (fun z5 e => ?_)
    refine wp_p (j := J_Y_setClass) 1 (pc' := 27) (lv' := [(3, .int z2), (0, .ref v0), (1, .int v1), (2, .int v2)]) (st' := [.int 4, .int z5]) rfl ?_
    refine x_ne e rfl (fun e => ?_) (fun e => ?_)
    · have e := Option.some.inj e; subst e; exact wp_vret rfl rfl c
    · refine wp_p (j := J_Y_setClass) 2 (pc' := 33) (lv' := [(3, .int z2), (0, .ref v0), (1, .int v1), (2, .int v2)]) (st' := [.ref v0, .int 4]) rfl ?_
      refine x_gI e rfl rfl fd_12_164 rfl (fun z6 e => ?_)
      refine wp_p (j := J_Y_setClass) 2 (pc' := 38) (lv' := [(3, .int z2), (0, .ref v0), (1, .int v1), (2, .int v2)]) (st' := [.ref v0, .int (4 * z6)]) rfl ?_
      refine x_gQ e rfl rfl fd_12_56 rfl (fun z7 e => ?_)
      refine wp_p (j := J_Y_setClass) 1 (pc' := 42) (lv' := [(3, .int z2), (0, .ref v0), (1, .int v1), (2, .int v2)]) (st' := [.ref v0, .ref z7, .int (4 * z6)]) rfl ?_
      refine x_gI e rfl rfl fd_12_164 rfl (fun z8 e => ?_)
      refine x_aI e rfl rfl (fun z9 e => ?_)
      refine wp_p (j := J_Y_setClass) 3 (pc' := 49) (lv' := [(3, .int ((4 * z6) + z9)), (0, .ref v0), (1, .int v1), (2, .int v2)]) (st' := [.ref v0]) rfl ?_
      refine x_gQ e rfl rfl fd_12_56 rfl (fun z10 e => ?_)
      refine wp_p (j := J_Y_setClass) 1 (pc' := 53) (lv' := [(3, .int ((4 * z6) + z9)), (0, .ref v0), (1, .int v1), (2, .int v2)]) (st' := [.ref v0, .ref z10]) rfl ?_
      refine x_gI e rfl rfl fd_12_164 rfl (fun z11 e => ?_)
      refine wp_p (j := J_Y_setClass) 1 (pc' := 57) (lv' := [(3, .int ((4 * z6) + z9)), (0, .ref v0), (1, .int v1), (2, .int v2)]) (st' := [.int z11, .ref z10, .int z11, .ref z10]) rfl ?_
      refine x_aI e rfl rfl (fun z12 e => ?_)
      refine wp_p (j := J_Y_setClass) 2 (pc' := 60) (lv' := [(3, .int ((4 * z6) + z9)), (0, .ref v0), (1, .int v1), (2, .int v2)]) (st' := [.int (z12 + 1), .int z11, .ref z10]) rfl ?_
      refine x_sI e rfl rfl (fun g13 e => ?_)
      refine wp_p (j := J_Y_setClass) 1 (pc' := 62) (lv' := [(3, .int ((4 * z6) + z9)), (0, .ref v0), (1, .int v1), (2, .int v2)]) (st' := [.ref v0]) rfl ?_
      refine x_gQ e rfl rfl fd_12_58 rfl (fun z14 e => ?_)
      refine wp_p (j := J_Y_setClass) 2 (pc' := 67) (lv' := [(3, .int ((4 * z6) + z9)), (0, .ref v0), (1, .int v1), (2, .int v2)]) (st' := [.int 5, .int ((4 * z6) + z9), .ref z14]) rfl ?_
      refine x_sI e rfl rfl (fun g15 e => ?_)
      refine x_l2 (xl := 20546947) rfl rfl rfl ?_
      refine wp_p (j := J_Y_setClass) 3 (pc' := 76) (lv' := [(6, .int 0), (4, .long 20546947), (3, .int ((4 * z6) + z9)), (0, .ref v0), (1, .int v1), (2, .int v2)]) (st' := []) rfl ?_
      obtain ⟨g18, h17, e⟩ := bd e
      refine wp_lv (lv' := [(0, .ref v0), (1, .int v1), (2, .int v2), (3, .int ((4 * z6) + z9)), (4, .long 20546947), (6, .int 0)]) rfl ⟨rfl, rfl, rfl, rfl, rfl, rfl, trivial⟩ ?_
      refine l_Y_setClass_76 h17 ?_
      show wp (ab_ext L xs) J_Y_setClass 116 [(0, .ref v0), (1, .int v1), (2, .int v2), (3, .int ((4 * z6) + z9))] [] (hp g18) Q
      exact wp_lv (lv' := [(0, .ref v0), (1, .int v1), (2, .int v2), (3, .int ((4 * z6) + z9))]) rfl ⟨rfl, rfl, rfl, rfl, trivial⟩ (x_Y_setClass_116 e c)
  · exact wp_lv (lv' := [(0, .ref v0), (1, .int v1), (2, .int v2), (3, .int z2)]) rfl ⟨rfl, rfl, rfl, rfl, trivial⟩ (x_Y_setClass_116 e c)
def cL_Y_addElement_41 (L : Nat) (xs : Nat → Int32) (Q : Option Value → ab_H → Prop) (v0 : Nat) (v1 : Int32) (v3 : Int32) (out : (Int32 × g_S) ⊕ (g_S)) : Prop := match out with
  | .inl s => wp (ab_ext L xs) J_Y_addElement 41 [(0, .ref v0), (1, .int v1), (3, .int v3), (4, .int s.1)] [] (hp s.2) Q
  | .inr s => wp (ab_ext L xs) J_Y_addElement 72 [(0, .ref v0), (3, .int v3)] [] (hp s) Q
noncomputable def b_Y_addElement_41 (v0 : Nat) (v1 : Int32) (v3 : Int32) (v4 : Int32) (g : g_S) : Option ((Int32 × g_S) ⊕ (g_S)) :=
  (rI g 112 v0 79).bind fun z1 =>
  if v4 < z1 then
    (rQ g 112 v0 78).bind fun z2 =>
    (rQ g 112 v0 159).bind fun z3 =>
    (aI g 1 z3 (v1 + v4)).bind fun z4 =>
    (sB g z2 v4 z4).bind fun g5 =>
    some (.inl (v4 + 1, g5))
  else
    some (.inr g)
set_option maxRecDepth 20000 in
theorem y_Y_addElement_41 {L : Nat} {xs : Nat → Int32} {Q : Option Value → ab_H → Prop} {v0 : Nat} {v1 : Int32} {v3 : Int32} {v4 : Int32} {g : g_S} {out : (Int32 × g_S) ⊕ (g_S)} (e : b_Y_addElement_41 v0 v1 v3 v4 g = some out) (c : cL_Y_addElement_41 L xs Q v0 v1 v3 out) : wp (ab_ext L xs) J_Y_addElement 41 [(0, .ref v0), (1, .int v1), (3, .int v3), (4, .int v4)] [] (hp g) Q := by
  unfold b_Y_addElement_41 at e
  refine wp_p (j := J_Y_addElement) 2 (pc' := 44) (lv' := [(0, .ref v0), (1, .int v1), (3, .int v3), (4, .int v4)]) (st' := [.ref v0, .int v4]) rfl ?_
  refine x_gI e rfl rfl fd_12_79 rfl (fun z1 e => ?_)
  refine x_ge e rfl (fun e => ?_) (fun e => ?_)
  · refine wp_p (j := J_Y_addElement) 1 (pc' := 51) (lv' := [(0, .ref v0), (1, .int v1), (3, .int v3), (4, .int v4)]) (st' := [.ref v0]) rfl ?_
    refine x_gQ e rfl rfl fd_12_78 rfl (fun z2 e => ?_)
    refine wp_p (j := J_Y_addElement) 2 (pc' := 57) (lv' := [(0, .ref v0), (1, .int v1), (3, .int v3), (4, .int v4)]) (st' := [.ref v0, .int v4, .ref z2]) rfl ?_
    refine x_gQ e rfl rfl fd_12_159 rfl (fun z3 e => ?_)
    refine wp_p (j := J_Y_addElement) 3 (pc' := 64) (lv' := [(0, .ref v0), (1, .int v1), (3, .int v3), (4, .int v4)]) (st' := [.int (v1 + v4), .ref z3, .int v4, .ref z2]) rfl ?_
    refine x_aB e rfl (.inl rfl) rfl (fun z4 e => ?_)
    refine x_sB e rfl rfl (fun g5 e => ?_)
    refine wp_p (j := J_Y_addElement) 2 (pc' := 41) (lv' := [(4, .int (v4 + 1)), (0, .ref v0), (1, .int v1), (3, .int v3)]) (st' := []) rfl ?_
    have e := Option.some.inj e; subst e; exact wp_lv (lv' := [(0, .ref v0), (1, .int v1), (3, .int v3), (4, .int (v4 + 1))]) rfl ⟨rfl, rfl, rfl, rfl, trivial⟩ c
  · have e := Option.some.inj e; subst e; exact wp_lv (lv' := [(0, .ref v0), (3, .int v3)]) rfl ⟨rfl, rfl, trivial⟩ c
noncomputable def L_Y_addElement_41 (v0 : Nat) (v1 : Int32) (v3 : Int32) (v4 : Int32) (g : g_S) : Option (g_S) := it (fun s : Int32 × g_S => b_Y_addElement_41 v0 v1 v3 s.1 s.2) (v4, g)
theorem l_Y_addElement_41 {L : Nat} {xs : Nat → Int32} {Q : Option Value → ab_H → Prop} {v0 : Nat} {v1 : Int32} {v3 : Int32} {v4 : Int32} {g : g_S} {r : g_S} (e : L_Y_addElement_41 v0 v1 v3 v4 g = some r) (c : cL_Y_addElement_41 L xs Q v0 v1 v3 (.inr r)) : wp (ab_ext L xs) J_Y_addElement 41 [(0, .ref v0), (1, .int v1), (3, .int v3), (4, .int v4)] [] (hp g) Q :=
  it_wp (P := fun s : Int32 × g_S => wp (ab_ext L xs) J_Y_addElement 41 [(0, .ref v0), (1, .int v1), (3, .int v3), (4, .int s.1)] [] (hp s.2) Q) (E := fun r => cL_Y_addElement_41 L xs Q v0 v1 v3 (.inr r)) (fun s out e c => y_Y_addElement_41 e (by cases out <;> exact c)) e c
theorem L_Y_addElement_41_eq (v0 : Nat) (v1 : Int32) (v3 : Int32) (v4 : Int32) (g : g_S) : L_Y_addElement_41 v0 v1 v3 v4 g = itc (b_Y_addElement_41 v0 v1 v3 v4 g) (fun s => L_Y_addElement_41 v0 v1 v3 s.1 s.2) := it_eq2 (fun s : Int32 × g_S => b_Y_addElement_41 v0 v1 v3 s.1 s.2) (v4, g)
noncomputable def M_Y_addElement (v0 : Nat) (v1 : Int32) (v2 : Int32) (g : g_S) : Option g_S :=
  (rQ g 112 v0 46).bind fun z1 =>
  (rI g 112 v0 164).bind fun z2 =>
  (aI g 0 z1 z2).bind fun z3 =>
  (M_Y_isEmptyTag z3 g).bind fun z4 =>
  if z4 = 0 then
    (rI g 112 v0 164).bind fun z5 =>
    c2 (vc g 112 v0 (M_Y_fresh v0 z5 g)) fun z6 g7 =>
    if z6 = (-1) then
      some g7
    else
      (wI g7 112 v0 79 (v2 - v1)).bind fun g8 =>
      (L_Y_addElement_41 v0 v1 z6 0 g8).bind <| fun g11 =>
      (rQ g11 112 v0 78).bind fun z12 =>
      (rI g11 112 v0 79).bind fun z13 =>
      (M_Y_tagOf z12 0 z13 g11).bind fun z14 =>
      (vc g11 112 v0 (M_Y_element v0 z6 z14 g11)).bind fun g15 =>
      some g15
  else
    some g
set_option maxRecDepth 20000 in
theorem d_Y_addElement {L : Nat} {xs : Nat → Int32} {Q : Option Value → ab_H → Prop} {v0 : Nat} {v1 : Int32} {v2 : Int32} {g : g_S} {out : g_S} (e : M_Y_addElement v0 v1 v2 g = some out) (c : Q none (hp out)) : mw (ab_ext L xs) J_Y_addElement [.ref v0, .int v1, .int v2] (hp g) Q := by
  unfold M_Y_addElement at e
  refine wp_p (j := J_Y_addElement) 1 (pc' := 1) (lv' := [(0, .ref v0), (1, .int v1), (2, .int v2)]) (st' := [.ref v0]) rfl ?_
  refine x_gQ e rfl rfl fd_12_46 rfl (fun z1 e => ?_)
  refine wp_p (j := J_Y_addElement) 1 (pc' := 5) (lv' := [(0, .ref v0), (1, .int v1), (2, .int v2)]) (st' := [.ref v0, .ref z1]) rfl ?_
  refine x_gI e rfl rfl fd_12_164 rfl (fun z2 e => ?_)
  refine x_aI e rfl rfl (fun z3 e => ?_)
  refine x_cs1 (As := [.int z3]) (rest := []) Value.int e rfl rfl rfl rfl rfl (fun h => d_Y_isEmptyTag h ⟨rfl, rfl⟩) (fun z4 e => ?_)
  refine z_eq e rfl (fun e => ?_) (fun e => ?_)
  · refine wp_p (j := J_Y_addElement) 2 (pc' := 18) (lv' := [(0, .ref v0), (1, .int v1), (2, .int v2)]) (st' := [.ref v0, .ref v0]) rfl ?_
    refine x_gI e rfl rfl fd_12_164 rfl (fun z5 e => ?_)
    refine x_cv2 (As := [.int z5]) (rest := []) Value.int e rfl rfl rfl rfl rfl rfl (fun h => d_Y_fresh h ⟨rfl, rfl⟩) (fun z6 g7 e => ?_)
    refine wp_p (j := J_Y_addElement) 3 (pc' := 27) (lv' := [(3, .int z6), (0, .ref v0), (1, .int v1), (2, .int v2)]) (st' := [.int (-1), .int z6]) rfl ?_
    refine x_ne e rfl (fun e => ?_) (fun e => ?_)
    · have e := Option.some.inj e; subst e; exact wp_vret rfl rfl c
    · refine wp_p (j := J_Y_addElement) 4 (pc' := 35) (lv' := [(3, .int z6), (0, .ref v0), (1, .int v1), (2, .int v2)]) (st' := [.int (v2 - v1), .ref v0]) rfl ?_
      refine x_pI e rfl rfl fw_12_79 rfl (fun g8 e => ?_)
      refine wp_p (j := J_Y_addElement) 2 (pc' := 41) (lv' := [(4, .int 0), (3, .int z6), (0, .ref v0), (1, .int v1), (2, .int v2)]) (st' := []) rfl ?_
      obtain ⟨g11, h10, e⟩ := bd e
      refine wp_lv (lv' := [(0, .ref v0), (1, .int v1), (3, .int z6), (4, .int 0)]) rfl ⟨rfl, rfl, rfl, rfl, trivial⟩ ?_
      refine l_Y_addElement_41 h10 ?_
      show wp (ab_ext L xs) J_Y_addElement 72 [(0, .ref v0), (3, .int z6)] [] (hp g11) Q
      refine wp_p (j := J_Y_addElement) 3 (pc' := 75) (lv' := [(0, .ref v0), (3, .int z6)]) (st' := [.ref v0, .int z6, .ref v0]) rfl ?_
      refine x_gQ e rfl rfl fd_12_78 rfl (fun z12 e => ?_)
      refine wp_p (j := J_Y_addElement) 2 (pc' := 80) (lv' := [(0, .ref v0), (3, .int z6)]) (st' := [.ref v0, .int 0, .ref z12, .int z6, .ref v0]) rfl ?_
      refine x_gI e rfl rfl fd_12_79 rfl (fun z13 e => ?_)
      refine x_cs1 (As := [.ref z12, .int 0, .int z13]) (rest := [.int z6, .ref v0]) Value.int e rfl rfl rfl rfl rfl (fun h => d_Y_tagOf h ⟨rfl, rfl⟩) (fun z14 e => ?_)
      refine x_cv0 (As := [.int z6, .int z14]) (rest := []) e rfl rfl rfl rfl rfl rfl (fun h => d_Y_element h ⟨rfl, rfl⟩) (fun g15 e => ?_)
      have e := Option.some.inj e; subst e; exact wp_vret rfl rfl c
  · have e := Option.some.inj e; subst e; exact wp_vret rfl rfl c
noncomputable def M_Y_sameSite (v0 : Nat) (v1 : Int32) (v2 : Int32) (g : g_S) : Option Int32 :=
  (vc g 112 v0 (M_Y_siteEnd v0 v1 g)).bind fun z1 =>
  (vc g 112 v0 (M_Y_siteEnd v0 v2 g)).bind fun z2 =>
  if z2 = z1 then
    (rQ g 112 v0 6).bind fun z3 =>
    (rQ g 112 v0 6).bind fun z4 =>
    (M_Y_same z3 (v1 * 150) z4 (v2 * 150) z1 g).bind fun z5 =>
    if z5 = 0 then
      some 0
    else
      some 1
  else
    some 0
set_option maxRecDepth 20000 in
theorem d_Y_sameSite {L : Nat} {xs : Nat → Int32} {Q : Option Value → ab_H → Prop} {v0 : Nat} {v1 : Int32} {v2 : Int32} {g : g_S} {out : Int32} (e : M_Y_sameSite v0 v1 v2 g = some out) (c : Q (some (.int out)) (hp g)) : mw (ab_ext L xs) J_Y_sameSite [.ref v0, .int v1, .int v2] (hp g) Q := by
  unfold M_Y_sameSite at e
  refine wp_p (j := J_Y_sameSite) 2 (pc' := 2) (lv' := [(0, .ref v0), (1, .int v1), (2, .int v2)]) (st' := [.int v1, .ref v0]) rfl ?_
  refine x_cv1 (As := [.int v1]) (rest := []) Value.int e rfl rfl rfl rfl rfl rfl (fun h => d_Y_siteEnd h ⟨rfl, rfl⟩) (fun z1 e => ?_)
  refine wp_p (j := J_Y_sameSite) 3 (pc' := 8) (lv' := [(3, .int z1), (0, .ref v0), (1, .int v1), (2, .int v2)]) (st' := [.int v2, .ref v0]) rfl ?_
  refine x_cv1 (As := [.int v2]) (rest := []) Value.int e rfl rfl rfl rfl rfl rfl (fun h => d_Y_siteEnd h ⟨rfl, rfl⟩) (fun z2 e => ?_)
  refine wp_p (j := J_Y_sameSite) 1 (pc' := 12) (lv' := [(3, .int z1), (0, .ref v0), (1, .int v1), (2, .int v2)]) (st' := [.int z1, .int z2]) rfl ?_
  refine x_ne e rfl (fun e => ?_) (fun e => ?_)
  · refine wp_p (j := J_Y_sameSite) 1 (pc' := 16) (lv' := [(3, .int z1), (0, .ref v0), (1, .int v1), (2, .int v2)]) (st' := [.ref v0]) rfl ?_
    refine x_gQ e rfl rfl fd_12_6 rfl (fun z3 e => ?_)
    refine wp_p (j := J_Y_sameSite) 4 (pc' := 25) (lv' := [(3, .int z1), (0, .ref v0), (1, .int v1), (2, .int v2)]) (st' := [.ref v0, .int (v1 * 150), .ref z3]) rfl ?_
    refine x_gQ e rfl rfl fd_12_6 rfl (fun z4 e => ?_)
    refine wp_p (j := J_Y_sameSite) 4 (pc' := 34) (lv' := [(3, .int z1), (0, .ref v0), (1, .int v1), (2, .int v2)]) (st' := [.int z1, .int (v2 * 150), .ref z4, .int (v1 * 150), .ref z3]) rfl ?_
    refine x_cs1 (As := [.ref z3, .int (v1 * 150), .ref z4, .int (v2 * 150), .int z1]) (rest := []) Value.int e rfl rfl rfl rfl rfl (fun h => d_Y_same h ⟨rfl, rfl⟩) (fun z5 e => ?_)
    refine z_eq e rfl (fun e => ?_) (fun e => ?_)
    · refine wp_p (j := J_Y_sameSite) 1 (pc' := 45) (lv' := [(3, .int z1), (0, .ref v0), (1, .int v1), (2, .int v2)]) (st' := [.int 0]) rfl ?_
      have e := Option.some.inj e; subst e; exact wp_iret (ty := .boolean) rfl rfl (by decide) c
    · refine wp_p (j := J_Y_sameSite) 2 (pc' := 45) (lv' := [(3, .int z1), (0, .ref v0), (1, .int v1), (2, .int v2)]) (st' := [.int 1]) rfl ?_
      have e := Option.some.inj e; subst e; exact wp_iret (ty := .boolean) rfl rfl (by decide) c
  · refine wp_p (j := J_Y_sameSite) 1 (pc' := 45) (lv' := [(3, .int z1), (0, .ref v0), (1, .int v1), (2, .int v2)]) (st' := [.int 0]) rfl ?_
    have e := Option.some.inj e; subst e; exact wp_iret (ty := .boolean) rfl rfl (by decide) c
noncomputable def k_Y_getStep_58 (v0 : Nat) (g : g_S) : Option g_S :=
  (rI g 112 v0 44).bind fun z1 =>
  if z1 < 0 then
    (rQ g 112 v0 159).bind fun z2 =>
    (vc g 112 v0 (M_Y_setText v0 z2 0 0 g)).bind fun g3 =>
    some g3
  else
    (rQ g 112 v0 17).bind fun z4 =>
    (rI g 112 v0 44).bind fun z5 =>
    (rQ g 112 v0 18).bind fun z6 =>
    (rI g 112 v0 44).bind fun z7 =>
    (aI g 0 z6 z7).bind fun z8 =>
    (vc g 112 v0 (M_Y_setText v0 z4 (z5 * 1500) (mn 200 z8) g)).bind fun g9 =>
    some g9
set_option maxRecDepth 20000 in
theorem x_Y_getStep_58 {L : Nat} {xs : Nat → Int32} {Q : Option Value → ab_H → Prop} {v0 : Nat} {g : g_S} {out : g_S} (e : k_Y_getStep_58 v0 g = some out) (c : Q none (hp out)) : wp (ab_ext L xs) J_Y_getStep 58 [(0, .ref v0)] [] (hp g) Q := by
  unfold k_Y_getStep_58 at e
  refine wp_p (j := J_Y_getStep) 1 (pc' := 59) (lv' := [(0, .ref v0)]) (st' := [.ref v0]) rfl ?_
  refine x_gI e rfl rfl fd_12_44 rfl (fun z1 e => ?_)
  refine z_ge e rfl (fun e => ?_) (fun e => ?_)
  · refine wp_p (j := J_Y_getStep) 2 (pc' := 67) (lv' := [(0, .ref v0)]) (st' := [.ref v0, .ref v0]) rfl ?_
    refine x_gQ e rfl rfl fd_12_159 rfl (fun z2 e => ?_)
    refine wp_p (j := J_Y_getStep) 2 (pc' := 72) (lv' := [(0, .ref v0)]) (st' := [.int 0, .int 0, .ref z2, .ref v0]) rfl ?_
    refine x_cv0 (As := [.ref z2, .int 0, .int 0]) (rest := []) e rfl rfl rfl rfl rfl rfl (fun h => d_Y_setText h ⟨rfl, rfl⟩) (fun g3 e => ?_)
    refine wp_p (j := J_Y_getStep) 1 (pc' := 109) (lv' := [(0, .ref v0)]) (st' := []) rfl ?_
    have e := Option.some.inj e; subst e; exact wp_vret rfl rfl c
  · refine wp_p (j := J_Y_getStep) 2 (pc' := 80) (lv' := [(0, .ref v0)]) (st' := [.ref v0, .ref v0]) rfl ?_
    refine x_gQ e rfl rfl fd_12_17 rfl (fun z4 e => ?_)
    refine wp_p (j := J_Y_getStep) 1 (pc' := 84) (lv' := [(0, .ref v0)]) (st' := [.ref v0, .ref z4, .ref v0]) rfl ?_
    refine x_gI e rfl rfl fd_12_44 rfl (fun z5 e => ?_)
    refine wp_p (j := J_Y_getStep) 4 (pc' := 95) (lv' := [(0, .ref v0)]) (st' := [.ref v0, .int 200, .int (z5 * 1500), .ref z4, .ref v0]) rfl ?_
    refine x_gQ e rfl rfl fd_12_18 rfl (fun z6 e => ?_)
    refine wp_p (j := J_Y_getStep) 1 (pc' := 99) (lv' := [(0, .ref v0)]) (st' := [.ref v0, .ref z6, .int 200, .int (z5 * 1500), .ref z4, .ref v0]) rfl ?_
    refine x_gI e rfl rfl fd_12_44 rfl (fun z7 e => ?_)
    refine x_aI e rfl rfl (fun z8 e => ?_)
    refine x_mn rfl rfl ?_
    refine x_cv0 (As := [.ref z4, .int (z5 * 1500), .int (mn 200 z8)]) (rest := []) e rfl rfl rfl rfl rfl rfl (fun h => d_Y_setText h ⟨rfl, rfl⟩) (fun g9 e => ?_)
    have e := Option.some.inj e; subst e; exact wp_vret rfl rfl c
noncomputable def k_Y_getStep_47 (v0 : Nat) (g : g_S) : Option g_S :=
  (rI g 112 v0 157).bind fun z1 =>
  (wI g 112 v0 157 (z1 + 1)).bind fun g2 =>
  some g2
set_option maxRecDepth 20000 in
theorem x_Y_getStep_47 {L : Nat} {xs : Nat → Int32} {Q : Option Value → ab_H → Prop} {v0 : Nat} {g : g_S} {out : g_S} (e : k_Y_getStep_47 v0 g = some out) (c : Q none (hp out)) : wp (ab_ext L xs) J_Y_getStep 47 [(0, .ref v0)] [] (hp g) Q := by
  unfold k_Y_getStep_47 at e
  refine wp_p (j := J_Y_getStep) 2 (pc' := 49) (lv' := [(0, .ref v0)]) (st' := [.ref v0, .ref v0]) rfl ?_
  refine x_gI e rfl rfl fd_12_157 rfl (fun z1 e => ?_)
  refine wp_p (j := J_Y_getStep) 2 (pc' := 54) (lv' := [(0, .ref v0)]) (st' := [.int (z1 + 1), .ref v0]) rfl ?_
  refine x_pI e rfl rfl fw_12_157 rfl (fun g2 e => ?_)
  have e := Option.some.inj e; subst e; exact wp_vret rfl rfl c
noncomputable def M_Y_getStep (v0 : Nat) (v1 : Int32) (v2 : Int32) (g : g_S) : Option g_S :=
  (rQ g 112 v0 159).bind fun z1 =>
  c2 (vc g 112 v0 (M_Y_refer v0 z1 v1 v2 1 g)) fun z2 g3 =>
  if z2 = 0 then
    some g3
  else
    (vc g3 112 v0 (M_Y_fetch v0 g3)).bind fun g4 =>
    (vc g4 112 v0 (M_Y_sameSite v0 4 1 g4)).bind fun z5 =>
    if z5 = 0 then
      (rI g4 112 v0 44).bind fun z6 =>
      if z6 < 0 then
        k_Y_getStep_47 v0 g4
      else
        (rQ g4 112 v0 24).bind fun z7 =>
        (rI g4 112 v0 44).bind fun z8 =>
        (aI g4 2 z7 z8).bind fun z9 =>
        if z9 = 0 then
          k_Y_getStep_47 v0 g4
        else
          k_Y_getStep_58 v0 g4
    else
      k_Y_getStep_58 v0 g4
set_option maxRecDepth 20000 in
theorem d_Y_getStep {L : Nat} {xs : Nat → Int32} {Q : Option Value → ab_H → Prop} {v0 : Nat} {v1 : Int32} {v2 : Int32} {g : g_S} {out : g_S} (e : M_Y_getStep v0 v1 v2 g = some out) (c : Q none (hp out)) : mw (ab_ext L xs) J_Y_getStep [.ref v0, .int v1, .int v2] (hp g) Q := by
  unfold M_Y_getStep at e
  refine wp_p (j := J_Y_getStep) 2 (pc' := 2) (lv' := [(0, .ref v0), (1, .int v1), (2, .int v2)]) (st' := [.ref v0, .ref v0]) rfl ?_
  refine x_gQ e rfl rfl fd_12_159 rfl (fun z1 e => ?_)
  refine wp_p (j := J_Y_getStep) 3 (pc' := 8) (lv' := [(0, .ref v0), (1, .int v1), (2, .int v2)]) (st' := [.int 1, .int v2, .int v1, .ref z1, .ref v0]) rfl ?_
  refine x_cv2 (As := [.ref z1, .int v1, .int v2, .int 1]) (rest := []) Value.int e rfl rfl rfl rfl rfl rfl (fun h => d_Y_refer h ⟨rfl, rfl⟩) (fun z2 g3 e => ?_)
  refine z_ne e rfl (fun e => ?_) (fun e => ?_)
  · have e := Option.some.inj e; subst e; exact wp_vret rfl rfl c
  · refine wp_p (j := J_Y_getStep) 1 (pc' := 16) (lv' := [(0, .ref v0), (1, .int v1), (2, .int v2)]) (st' := [.ref v0]) rfl ?_
    refine x_cv0 (As := []) (rest := []) e rfl rfl rfl rfl rfl rfl (fun h => d_Y_fetch h ⟨rfl, rfl⟩) (fun g4 e => ?_)
    refine wp_p (j := J_Y_getStep) 3 (pc' := 22) (lv' := [(0, .ref v0), (1, .int v1), (2, .int v2)]) (st' := [.int 1, .int 4, .ref v0]) rfl ?_
    refine x_cv1 (As := [.int 4, .int 1]) (rest := []) Value.int e rfl rfl rfl rfl rfl rfl (fun h => d_Y_sameSite h ⟨rfl, rfl⟩) (fun z5 e => ?_)
    refine z_ne e rfl (fun e => ?_) (fun e => ?_)
    · refine wp_p (j := J_Y_getStep) 1 (pc' := 29) (lv' := [(0, .ref v0), (1, .int v1), (2, .int v2)]) (st' := [.ref v0]) rfl ?_
      refine x_gI e rfl rfl fd_12_44 rfl (fun z6 e => ?_)
      refine z_lt e rfl (fun e => ?_) (fun e => ?_)
      · exact wp_lv (lv' := [(0, .ref v0)]) rfl ⟨rfl, trivial⟩ (x_Y_getStep_47 e c)
      · refine wp_p (j := J_Y_getStep) 1 (pc' := 36) (lv' := [(0, .ref v0), (1, .int v1), (2, .int v2)]) (st' := [.ref v0]) rfl ?_
        refine x_gQ e rfl rfl fd_12_24 rfl (fun z7 e => ?_)
        refine wp_p (j := J_Y_getStep) 1 (pc' := 40) (lv' := [(0, .ref v0), (1, .int v1), (2, .int v2)]) (st' := [.ref v0, .ref z7]) rfl ?_
        refine x_gI e rfl rfl fd_12_44 rfl (fun z8 e => ?_)
        refine x_aB e rfl (.inr rfl) rfl (fun z9 e => ?_)
        refine z_ne e rfl (fun e => ?_) (fun e => ?_)
        · exact wp_lv (lv' := [(0, .ref v0)]) rfl ⟨rfl, trivial⟩ (x_Y_getStep_47 e c)
        · exact wp_lv (lv' := [(0, .ref v0)]) rfl ⟨rfl, trivial⟩ (x_Y_getStep_58 e c)
    · exact wp_lv (lv' := [(0, .ref v0)]) rfl ⟨rfl, trivial⟩ (x_Y_getStep_58 e c)
noncomputable def M_Y_readStep (v0 : Nat) (v1 : Int32) (v2 : Int32) (g : g_S) : Option g_S :=
  (vc g 112 v0 (M_Y_stored v0 v1 (v2 - v1) g)).bind fun z1 =>
  if z1 = (-1) then
    (rQ g 112 v0 159).bind fun z2 =>
    (vc g 112 v0 (M_Y_setText v0 z2 0 0 g)).bind fun g3 =>
    some g3
  else
    (rQ g 112 v0 175).bind fun z4 =>
    (rQ g 112 v0 178).bind fun z5 =>
    (aI g 0 z5 z1).bind fun z6 =>
    (vc g 112 v0 (M_Y_setText v0 z4 ((24 * z1) + 16) z6 g)).bind fun g7 =>
    some g7
set_option maxRecDepth 20000 in
theorem d_Y_readStep {L : Nat} {xs : Nat → Int32} {Q : Option Value → ab_H → Prop} {v0 : Nat} {v1 : Int32} {v2 : Int32} {g : g_S} {out : g_S} (e : M_Y_readStep v0 v1 v2 g = some out) (c : Q none (hp out)) : mw (ab_ext L xs) J_Y_readStep [.ref v0, .int v1, .int v2] (hp g) Q := by
  unfold M_Y_readStep at e
  refine wp_p (j := J_Y_readStep) 5 (pc' := 5) (lv' := [(0, .ref v0), (1, .int v1), (2, .int v2)]) (st' := [.int (v2 - v1), .int v1, .ref v0]) rfl ?_
  refine x_cv1 (As := [.int v1, .int (v2 - v1)]) (rest := []) Value.int e rfl rfl rfl rfl rfl rfl (fun h => d_Y_stored h ⟨rfl, rfl⟩) (fun z1 e => ?_)
  refine wp_p (j := J_Y_readStep) 3 (pc' := 11) (lv' := [(3, .int z1), (0, .ref v0), (1, .int v1), (2, .int v2)]) (st' := [.int (-1), .int z1]) rfl ?_
  refine x_ne e rfl (fun e => ?_) (fun e => ?_)
  · refine wp_p (j := J_Y_readStep) 2 (pc' := 16) (lv' := [(3, .int z1), (0, .ref v0), (1, .int v1), (2, .int v2)]) (st' := [.ref v0, .ref v0]) rfl ?_
    refine x_gQ e rfl rfl fd_12_159 rfl (fun z2 e => ?_)
    refine wp_p (j := J_Y_readStep) 2 (pc' := 21) (lv' := [(3, .int z1), (0, .ref v0), (1, .int v1), (2, .int v2)]) (st' := [.int 0, .int 0, .ref z2, .ref v0]) rfl ?_
    refine x_cv0 (As := [.ref z2, .int 0, .int 0]) (rest := []) e rfl rfl rfl rfl rfl rfl (fun h => d_Y_setText h ⟨rfl, rfl⟩) (fun g3 e => ?_)
    refine wp_p (j := J_Y_readStep) 1 (pc' := 48) (lv' := [(3, .int z1), (0, .ref v0), (1, .int v1), (2, .int v2)]) (st' := []) rfl ?_
    have e := Option.some.inj e; subst e; exact wp_vret rfl rfl c
  · refine wp_p (j := J_Y_readStep) 2 (pc' := 29) (lv' := [(3, .int z1), (0, .ref v0), (1, .int v1), (2, .int v2)]) (st' := [.ref v0, .ref v0]) rfl ?_
    refine x_gQ e rfl rfl fd_12_175 rfl (fun z4 e => ?_)
    refine wp_p (j := J_Y_readStep) 6 (pc' := 40) (lv' := [(3, .int z1), (0, .ref v0), (1, .int v1), (2, .int v2)]) (st' := [.ref v0, .int ((24 * z1) + 16), .ref z4, .ref v0]) rfl ?_
    refine x_gQ e rfl rfl fd_12_178 rfl (fun z5 e => ?_)
    refine wp_p (j := J_Y_readStep) 1 (pc' := 44) (lv' := [(3, .int z1), (0, .ref v0), (1, .int v1), (2, .int v2)]) (st' := [.int z1, .ref z5, .int ((24 * z1) + 16), .ref z4, .ref v0]) rfl ?_
    refine x_aI e rfl rfl (fun z6 e => ?_)
    refine x_cv0 (As := [.ref z4, .int ((24 * z1) + 16), .int z6]) (rest := []) e rfl rfl rfl rfl rfl rfl (fun h => d_Y_setText h ⟨rfl, rfl⟩) (fun g7 e => ?_)
    have e := Option.some.inj e; subst e; exact wp_vret rfl rfl c
def cL_Y_step_2 (L : Nat) (xs : Nat → Int32) (Q : Option Value → ab_H → Prop) (v0 : Nat) (v1 : Int32) (v2 : Int32) (g : g_S) (out : (Int32) ⊕ (Int32)) : Prop := match out with
  | .inl s => wp (ab_ext L xs) J_Y_step 2 [(0, .ref v0), (1, .int v1), (2, .int v2), (3, .int s)] [] (hp g) Q
  | .inr s => wp (ab_ext L xs) J_Y_step 25 [(0, .ref v0), (1, .int v1), (2, .int v2), (3, .int s)] [] (hp g) Q
noncomputable def b_Y_step_2 (v0 : Nat) (v1 : Int32) (v2 : Int32) (v3 : Int32) (g : g_S) : Option ((Int32) ⊕ (Int32)) :=
  if v3 < v2 then
    (rQ g 112 v0 159).bind fun z1 =>
    (aI g 1 z1 v3).bind fun z2 =>
    (M_Y_isSmall z2 g).bind fun z3 =>
    if z3 = 0 then
      some (.inr v3)
    else
      some (.inl (v3 + 1))
  else
    some (.inr v3)
set_option maxRecDepth 20000 in
theorem y_Y_step_2 {L : Nat} {xs : Nat → Int32} {Q : Option Value → ab_H → Prop} {v0 : Nat} {v1 : Int32} {v2 : Int32} {v3 : Int32} {g : g_S} {out : (Int32) ⊕ (Int32)} (e : b_Y_step_2 v0 v1 v2 v3 g = some out) (c : cL_Y_step_2 L xs Q v0 v1 v2 g out) : wp (ab_ext L xs) J_Y_step 2 [(0, .ref v0), (1, .int v1), (2, .int v2), (3, .int v3)] [] (hp g) Q := by
  unfold b_Y_step_2 at e
  refine wp_p (j := J_Y_step) 2 (pc' := 4) (lv' := [(0, .ref v0), (1, .int v1), (2, .int v2), (3, .int v3)]) (st' := [.int v2, .int v3]) rfl ?_
  refine x_ge e rfl (fun e => ?_) (fun e => ?_)
  · refine wp_p (j := J_Y_step) 1 (pc' := 8) (lv' := [(0, .ref v0), (1, .int v1), (2, .int v2), (3, .int v3)]) (st' := [.ref v0]) rfl ?_
    refine x_gQ e rfl rfl fd_12_159 rfl (fun z1 e => ?_)
    refine wp_p (j := J_Y_step) 1 (pc' := 12) (lv' := [(0, .ref v0), (1, .int v1), (2, .int v2), (3, .int v3)]) (st' := [.int v3, .ref z1]) rfl ?_
    refine x_aB e rfl (.inl rfl) rfl (fun z2 e => ?_)
    refine x_cs1 (As := [.int z2]) (rest := []) Value.int e rfl rfl rfl rfl rfl (fun h => d_Y_isSmall h ⟨rfl, rfl⟩) (fun z3 e => ?_)
    refine z_eq e rfl (fun e => ?_) (fun e => ?_)
    · have e := Option.some.inj e; subst e; exact wp_lv (lv' := [(0, .ref v0), (1, .int v1), (2, .int v2), (3, .int v3)]) rfl ⟨rfl, rfl, rfl, rfl, trivial⟩ c
    · refine wp_p (j := J_Y_step) 2 (pc' := 2) (lv' := [(3, .int (v3 + 1)), (0, .ref v0), (1, .int v1), (2, .int v2)]) (st' := []) rfl ?_
      have e := Option.some.inj e; subst e; exact wp_lv (lv' := [(0, .ref v0), (1, .int v1), (2, .int v2), (3, .int (v3 + 1))]) rfl ⟨rfl, rfl, rfl, rfl, trivial⟩ c
  · have e := Option.some.inj e; subst e; exact wp_lv (lv' := [(0, .ref v0), (1, .int v1), (2, .int v2), (3, .int v3)]) rfl ⟨rfl, rfl, rfl, rfl, trivial⟩ c
noncomputable def L_Y_step_2 (v0 : Nat) (v1 : Int32) (v2 : Int32) (v3 : Int32) (g : g_S) : Option (Int32) := it (fun s : Int32 => b_Y_step_2 v0 v1 v2 s g) (v3)
theorem l_Y_step_2 {L : Nat} {xs : Nat → Int32} {Q : Option Value → ab_H → Prop} {v0 : Nat} {v1 : Int32} {v2 : Int32} {v3 : Int32} {g : g_S} {r : Int32} (e : L_Y_step_2 v0 v1 v2 v3 g = some r) (c : cL_Y_step_2 L xs Q v0 v1 v2 g (.inr r)) : wp (ab_ext L xs) J_Y_step 2 [(0, .ref v0), (1, .int v1), (2, .int v2), (3, .int v3)] [] (hp g) Q :=
  it_wp (P := fun s : Int32 => wp (ab_ext L xs) J_Y_step 2 [(0, .ref v0), (1, .int v1), (2, .int v2), (3, .int s)] [] (hp g) Q) (E := fun r => cL_Y_step_2 L xs Q v0 v1 v2 g (.inr r)) (fun s out e c => y_Y_step_2 e (by cases out <;> exact c)) e c
theorem L_Y_step_2_eq (v0 : Nat) (v1 : Int32) (v2 : Int32) (v3 : Int32) (g : g_S) : L_Y_step_2 v0 v1 v2 v3 g = itc (b_Y_step_2 v0 v1 v2 v3 g) (fun s => L_Y_step_2 v0 v1 v2 s g) := it_eq2 (fun s : Int32 => b_Y_step_2 v0 v1 v2 s g) (v3)
def cL_Y_step_31 (L : Nat) (xs : Nat → Int32) (Q : Option Value → ab_H → Prop) (v0 : Nat) (v1 : Int32) (v2 : Int32) (v3 : Int32) (g : g_S) (out : (Int32 × Int32) ⊕ (Int32)) : Prop := match out with
  | .inl s => wp (ab_ext L xs) J_Y_step 31 [(0, .ref v0), (1, .int v1), (2, .int v2), (3, .int v3), (4, .int s.1), (5, .int s.2)] [] (hp g) Q
  | .inr s => wp (ab_ext L xs) J_Y_step 79 [(0, .ref v0), (2, .int v2), (3, .int v3), (4, .int s)] [] (hp g) Q
noncomputable def b_Y_step_31 (v0 : Nat) (v1 : Int32) (v2 : Int32) (v3 : Int32) (v4 : Int32) (v5 : Int32) (g : g_S) : Option ((Int32 × Int32) ⊕ (Int32)) :=
  if v5 < 11 then
    (M_Y_stepWord v5 g).bind fun z1 =>
    (M_Y_lengthOf z1 g).bind fun z2 =>
    if z2 = (v3 - v1) then
      (rQ g 112 v0 159).bind fun z3 =>
      (M_Y_stepWord v5 g).bind fun z4 =>
      (M_Y_isWord z3 v1 v3 z4 g).bind fun z5 =>
      if z5 = 0 then
        some (.inl (v4, v5 + 1))
      else
        some (.inl (v5, v5 + 1))
    else
      some (.inl (v4, v5 + 1))
  else
    some (.inr v4)
set_option maxRecDepth 20000 in
theorem y_Y_step_31 {L : Nat} {xs : Nat → Int32} {Q : Option Value → ab_H → Prop} {v0 : Nat} {v1 : Int32} {v2 : Int32} {v3 : Int32} {v4 : Int32} {v5 : Int32} {g : g_S} {out : (Int32 × Int32) ⊕ (Int32)} (e : b_Y_step_31 v0 v1 v2 v3 v4 v5 g = some out) (c : cL_Y_step_31 L xs Q v0 v1 v2 v3 g out) : wp (ab_ext L xs) J_Y_step 31 [(0, .ref v0), (1, .int v1), (2, .int v2), (3, .int v3), (4, .int v4), (5, .int v5)] [] (hp g) Q := by
  unfold b_Y_step_31 at e
  refine wp_p (j := J_Y_step) 2 (pc' := 35) (lv' := [(0, .ref v0), (1, .int v1), (2, .int v2), (3, .int v3), (4, .int v4), (5, .int v5)]) (st' := [.int 11, .int v5]) rfl ?_
  refine x_ge e rfl (fun e => ?_) (fun e => ?_)
  · refine wp_p (j := J_Y_step) 1 (pc' := 40) (lv' := [(0, .ref v0), (1, .int v1), (2, .int v2), (3, .int v3), (4, .int v4), (5, .int v5)]) (st' := [.int v5]) rfl ?_
    refine x_cs1 (As := [.int v5]) (rest := []) Value.long e rfl rfl rfl rfl rfl (fun h => d_Y_stepWord h ⟨rfl, rfl⟩) (fun z1 e => ?_)
    refine x_cs1 (As := [.long z1]) (rest := []) Value.int e rfl rfl rfl rfl rfl (fun h => d_Y_lengthOf h ⟨rfl, rfl⟩) (fun z2 e => ?_)
    refine wp_p (j := J_Y_step) 3 (pc' := 49) (lv' := [(0, .ref v0), (1, .int v1), (2, .int v2), (3, .int v3), (4, .int v4), (5, .int v5)]) (st' := [.int (v3 - v1), .int z2]) rfl ?_
    refine x_ne e rfl (fun e => ?_) (fun e => ?_)
    · refine wp_p (j := J_Y_step) 1 (pc' := 53) (lv' := [(0, .ref v0), (1, .int v1), (2, .int v2), (3, .int v3), (4, .int v4), (5, .int v5)]) (st' := [.ref v0]) rfl ?_
      refine x_gQ e rfl rfl fd_12_159 rfl (fun z3 e => ?_)
      refine wp_p (j := J_Y_step) 3 (pc' := 60) (lv' := [(0, .ref v0), (1, .int v1), (2, .int v2), (3, .int v3), (4, .int v4), (5, .int v5)]) (st' := [.int v5, .int v3, .int v1, .ref z3]) rfl ?_
      refine x_cs1 (As := [.int v5]) (rest := [.int v3, .int v1, .ref z3]) Value.long e rfl rfl rfl rfl rfl (fun h => d_Y_stepWord h ⟨rfl, rfl⟩) (fun z4 e => ?_)
      refine x_cs1 (As := [.ref z3, .int v1, .int v3, .long z4]) (rest := []) Value.int e rfl rfl rfl rfl rfl (fun h => d_Y_isWord h ⟨rfl, rfl⟩) (fun z5 e => ?_)
      refine z_eq e rfl (fun e => ?_) (fun e => ?_)
      · refine wp_p (j := J_Y_step) 2 (pc' := 31) (lv' := [(5, .int (v5 + 1)), (0, .ref v0), (1, .int v1), (2, .int v2), (3, .int v3), (4, .int v4)]) (st' := []) rfl ?_
        have e := Option.some.inj e; subst e; exact wp_lv (lv' := [(0, .ref v0), (1, .int v1), (2, .int v2), (3, .int v3), (4, .int v4), (5, .int (v5 + 1))]) rfl ⟨rfl, rfl, rfl, rfl, rfl, rfl, trivial⟩ c
      · refine wp_p (j := J_Y_step) 4 (pc' := 31) (lv' := [(5, .int (v5 + 1)), (4, .int v5), (0, .ref v0), (1, .int v1), (2, .int v2), (3, .int v3)]) (st' := []) rfl ?_
        have e := Option.some.inj e; subst e; exact wp_lv (lv' := [(0, .ref v0), (1, .int v1), (2, .int v2), (3, .int v3), (4, .int v5), (5, .int (v5 + 1))]) rfl ⟨rfl, rfl, rfl, rfl, rfl, rfl, trivial⟩ c
    · refine wp_p (j := J_Y_step) 2 (pc' := 31) (lv' := [(5, .int (v5 + 1)), (0, .ref v0), (1, .int v1), (2, .int v2), (3, .int v3), (4, .int v4)]) (st' := []) rfl ?_
      have e := Option.some.inj e; subst e; exact wp_lv (lv' := [(0, .ref v0), (1, .int v1), (2, .int v2), (3, .int v3), (4, .int v4), (5, .int (v5 + 1))]) rfl ⟨rfl, rfl, rfl, rfl, rfl, rfl, trivial⟩ c
  · have e := Option.some.inj e; subst e; exact wp_lv (lv' := [(0, .ref v0), (2, .int v2), (3, .int v3), (4, .int v4)]) rfl ⟨rfl, rfl, rfl, rfl, trivial⟩ c
noncomputable def L_Y_step_31 (v0 : Nat) (v1 : Int32) (v2 : Int32) (v3 : Int32) (v4 : Int32) (v5 : Int32) (g : g_S) : Option (Int32) := it (fun s : Int32 × Int32 => b_Y_step_31 v0 v1 v2 v3 s.1 s.2 g) (v4, v5)
theorem l_Y_step_31 {L : Nat} {xs : Nat → Int32} {Q : Option Value → ab_H → Prop} {v0 : Nat} {v1 : Int32} {v2 : Int32} {v3 : Int32} {v4 : Int32} {v5 : Int32} {g : g_S} {r : Int32} (e : L_Y_step_31 v0 v1 v2 v3 v4 v5 g = some r) (c : cL_Y_step_31 L xs Q v0 v1 v2 v3 g (.inr r)) : wp (ab_ext L xs) J_Y_step 31 [(0, .ref v0), (1, .int v1), (2, .int v2), (3, .int v3), (4, .int v4), (5, .int v5)] [] (hp g) Q :=
  it_wp (P := fun s : Int32 × Int32 => wp (ab_ext L xs) J_Y_step 31 [(0, .ref v0), (1, .int v1), (2, .int v2), (3, .int v3), (4, .int s.1), (5, .int s.2)] [] (hp g) Q) (E := fun r => cL_Y_step_31 L xs Q v0 v1 v2 v3 g (.inr r)) (fun s out e c => y_Y_step_31 e (by cases out <;> exact c)) e c
theorem L_Y_step_31_eq (v0 : Nat) (v1 : Int32) (v2 : Int32) (v3 : Int32) (v4 : Int32) (v5 : Int32) (g : g_S) : L_Y_step_31 v0 v1 v2 v3 v4 v5 g = itc (b_Y_step_31 v0 v1 v2 v3 v4 v5 g) (fun s => L_Y_step_31 v0 v1 v2 v3 s.1 s.2 g) := it_eq2 (fun s : Int32 × Int32 => b_Y_step_31 v0 v1 v2 v3 s.1 s.2 g) (v4, v5)
def cL_Y_step_489 (L : Nat) (xs : Nat → Int32) (Q : Option Value → ab_H → Prop) (v0 : Nat) (v6 : Int32) (out : (Int32 × g_S) ⊕ (g_S)) : Prop := match out with
  | .inl s => wp (ab_ext L xs) J_Y_step 489 [(0, .ref v0), (6, .int v6), (7, .int s.1)] [] (hp s.2) Q
  | .inr s => wp (ab_ext L xs) J_Y_step 534 [] [] (hp s) Q
noncomputable def b_Y_step_489 (v0 : Nat) (v6 : Int32) (v7 : Int32) (g : g_S) : Option ((Int32 × g_S) ⊕ (g_S)) :=
  (rQ g 112 v0 65).bind fun z1 =>
  (rI g 112 v0 164).bind fun z2 =>
  (aI g 0 z1 z2).bind fun z3 =>
  if v7 < z3 then
    (rQ g 112 v0 64).bind fun z4 =>
    (rI g 112 v0 164).bind fun z5 =>
    (rQ g 112 v0 159).bind fun z6 =>
    (aI g 1 z6 (v6 + v7)).bind fun z7 =>
    (sB g z4 ((24 * z5) + v7) z7).bind fun g8 =>
    some (.inl (v7 + 1, g8))
  else
    some (.inr g)
set_option maxRecDepth 20000 in
theorem y_Y_step_489 {L : Nat} {xs : Nat → Int32} {Q : Option Value → ab_H → Prop} {v0 : Nat} {v6 : Int32} {v7 : Int32} {g : g_S} {out : (Int32 × g_S) ⊕ (g_S)} (e : b_Y_step_489 v0 v6 v7 g = some out) (c : cL_Y_step_489 L xs Q v0 v6 out) : wp (ab_ext L xs) J_Y_step 489 [(0, .ref v0), (6, .int v6), (7, .int v7)] [] (hp g) Q := by
  unfold b_Y_step_489 at e
  refine wp_p (j := J_Y_step) 2 (pc' := 492) (lv' := [(0, .ref v0), (6, .int v6), (7, .int v7)]) (st' := [.ref v0, .int v7]) rfl ?_
  refine x_gQ e rfl rfl fd_12_65 rfl (fun z1 e => ?_)
  refine wp_p (j := J_Y_step) 1 (pc' := 496) (lv' := [(0, .ref v0), (6, .int v6), (7, .int v7)]) (st' := [.ref v0, .ref z1, .int v7]) rfl ?_
  refine x_gI e rfl rfl fd_12_164 rfl (fun z2 e => ?_)
  refine x_aI e rfl rfl (fun z3 e => ?_)
  refine x_ge e rfl (fun e => ?_) (fun e => ?_)
  · refine wp_p (j := J_Y_step) 1 (pc' := 504) (lv' := [(0, .ref v0), (6, .int v6), (7, .int v7)]) (st' := [.ref v0]) rfl ?_
    refine x_gQ e rfl rfl fd_12_64 rfl (fun z4 e => ?_)
    refine wp_p (j := J_Y_step) 2 (pc' := 510) (lv' := [(0, .ref v0), (6, .int v6), (7, .int v7)]) (st' := [.ref v0, .int 24, .ref z4]) rfl ?_
    refine x_gI e rfl rfl fd_12_164 rfl (fun z5 e => ?_)
    refine wp_p (j := J_Y_step) 4 (pc' := 518) (lv' := [(0, .ref v0), (6, .int v6), (7, .int v7)]) (st' := [.ref v0, .int ((24 * z5) + v7), .ref z4]) rfl ?_
    refine x_gQ e rfl rfl fd_12_159 rfl (fun z6 e => ?_)
    refine wp_p (j := J_Y_step) 3 (pc' := 526) (lv' := [(0, .ref v0), (6, .int v6), (7, .int v7)]) (st' := [.int (v6 + v7), .ref z6, .int ((24 * z5) + v7), .ref z4]) rfl ?_
    refine x_aB e rfl (.inl rfl) rfl (fun z7 e => ?_)
    refine x_sB e rfl rfl (fun g8 e => ?_)
    refine wp_p (j := J_Y_step) 2 (pc' := 489) (lv' := [(7, .int (v7 + 1)), (0, .ref v0), (6, .int v6)]) (st' := []) rfl ?_
    have e := Option.some.inj e; subst e; exact wp_lv (lv' := [(0, .ref v0), (6, .int v6), (7, .int (v7 + 1))]) rfl ⟨rfl, rfl, rfl, trivial⟩ c
  · have e := Option.some.inj e; subst e; exact wp_lv (lv' := []) rfl trivial c
noncomputable def L_Y_step_489 (v0 : Nat) (v6 : Int32) (v7 : Int32) (g : g_S) : Option (g_S) := it (fun s : Int32 × g_S => b_Y_step_489 v0 v6 s.1 s.2) (v7, g)
theorem l_Y_step_489 {L : Nat} {xs : Nat → Int32} {Q : Option Value → ab_H → Prop} {v0 : Nat} {v6 : Int32} {v7 : Int32} {g : g_S} {r : g_S} (e : L_Y_step_489 v0 v6 v7 g = some r) (c : cL_Y_step_489 L xs Q v0 v6 (.inr r)) : wp (ab_ext L xs) J_Y_step 489 [(0, .ref v0), (6, .int v6), (7, .int v7)] [] (hp g) Q :=
  it_wp (P := fun s : Int32 × g_S => wp (ab_ext L xs) J_Y_step 489 [(0, .ref v0), (6, .int v6), (7, .int s.1)] [] (hp s.2) Q) (E := fun r => cL_Y_step_489 L xs Q v0 v6 (.inr r)) (fun s out e c => y_Y_step_489 e (by cases out <;> exact c)) e c
theorem L_Y_step_489_eq (v0 : Nat) (v6 : Int32) (v7 : Int32) (g : g_S) : L_Y_step_489 v0 v6 v7 g = itc (b_Y_step_489 v0 v6 v7 g) (fun s => L_Y_step_489 v0 v6 s.1 s.2) := it_eq2 (fun s : Int32 × g_S => b_Y_step_489 v0 v6 s.1 s.2) (v7, g)
noncomputable def k_Y_step_545 (v0 : Nat) (v2 : Int32) (v6 : Int32) (g : g_S) : Option (Int32 × g_S) :=
  (vc g 112 v0 (M_Y_readStep v0 v6 v2 g)).bind fun g1 =>
  some (1, g1)
set_option maxRecDepth 20000 in
theorem x_Y_step_545 {L : Nat} {xs : Nat → Int32} {Q : Option Value → ab_H → Prop} {v0 : Nat} {v2 : Int32} {v6 : Int32} {g : g_S} {out : Int32 × g_S} (e : k_Y_step_545 v0 v2 v6 g = some out) (c : Q (some (.int out.1)) (hp out.2)) : wp (ab_ext L xs) J_Y_step 545 [(0, .ref v0), (2, .int v2), (6, .int v6)] [] (hp g) Q := by
  unfold k_Y_step_545 at e
  refine wp_p (j := J_Y_step) 3 (pc' := 549) (lv' := [(0, .ref v0), (2, .int v2), (6, .int v6)]) (st' := [.int v2, .int v6, .ref v0]) rfl ?_
  refine x_cv0 (As := [.int v6, .int v2]) (rest := []) e rfl rfl rfl rfl rfl rfl (fun h => d_Y_readStep h ⟨rfl, rfl⟩) (fun g1 e => ?_)
  refine wp_p (j := J_Y_step) 1 (pc' := 553) (lv' := [(0, .ref v0), (2, .int v2), (6, .int v6)]) (st' := [.int 1]) rfl ?_
  have e := Option.some.inj e; subst e; exact wp_iret (ty := .boolean) rfl rfl (by decide) c
noncomputable def k_Y_step_350 (v0 : Nat) (v2 : Int32) (v3 : Int32) (v4 : Int32) (v5 : Int32) (v6 : Int32) (g : g_S) : Option (Int32 × g_S) :=
  (vc g 112 v0 (M_Y_nodeOf v0 v3 v5 g)).bind fun z1 =>
  (wI g 112 v0 164 z1).bind fun g2 =>
  (rI g2 112 v0 164).bind fun z3 =>
  if z3 = (-1) then
    some (0, g2)
  else
    (vc g2 112 v0 (M_Y_changed v0 g2)).bind fun g4 =>
    if v4 = 0 then
      (rQ g4 112 v0 159).bind fun z6 =>
      (vc g4 112 v0 (M_Y_setText v0 z6 v6 (v2 - v6) g4)).bind fun g7 =>
      some (1, g7)
    else if v4 = 1 then
      (vc g4 112 v0 (M_Y_setClass v0 v6 v2 g4)).bind fun g9 =>
      some (1, g9)
    else if v4 = 2 then
      (vc g4 112 v0 (M_Y_addElement v0 v6 v2 g4)).bind fun g11 =>
      some (1, g11)
    else if v4 = 3 then
      k_Y_step_545 v0 v2 v6 g4
    else if v4 = 4 then
      (rQ g4 112 v0 46).bind fun z14 =>
      (rI g4 112 v0 164).bind fun z15 =>
      (aI g4 0 z14 z15).bind fun z16 =>
      if z16 = 13 then
        (rQ g4 112 v0 65).bind fun z17 =>
        (rI g4 112 v0 164).bind fun z18 =>
        (sI g4 z17 z18 (mn 24 (v2 - v6))).bind fun g19 =>
        (L_Y_step_489 v0 v6 0 g19).bind <| fun g22 =>
        some (1, g22)
      else
        some (1, g4)
    else if v4 = 5 then
      k_Y_step_545 v0 v2 v6 g4
    else if v4 = 6 then
      (vc g4 112 v0 (M_Y_getStep v0 v6 v2 g4)).bind fun g25 =>
      some (1, g25)
    else
      k_Y_step_545 v0 v2 v6 g4
set_option maxRecDepth 20000 in
theorem x_Y_step_350 {L : Nat} {xs : Nat → Int32} {Q : Option Value → ab_H → Prop} {v0 : Nat} {v2 : Int32} {v3 : Int32} {v4 : Int32} {v5 : Int32} {v6 : Int32} {g : g_S} {out : Int32 × g_S} (e : k_Y_step_350 v0 v2 v3 v4 v5 v6 g = some out) (c : Q (some (.int out.1)) (hp out.2)) : wp (ab_ext L xs) J_Y_step 350 [(0, .ref v0), (2, .int v2), (3, .int v3), (4, .int v4), (5, .int v5), (6, .int v6)] [] (hp g) Q := by
  unfold k_Y_step_350 at e
  refine wp_p (j := J_Y_step) 4 (pc' := 355) (lv' := [(0, .ref v0), (2, .int v2), (3, .int v3), (4, .int v4), (5, .int v5), (6, .int v6)]) (st' := [.int v5, .int v3, .ref v0, .ref v0]) rfl ?_
  refine x_cv1 (As := [.int v3, .int v5]) (rest := [.ref v0]) Value.int e rfl rfl rfl rfl rfl rfl (fun h => d_Y_nodeOf h ⟨rfl, rfl⟩) (fun z1 e => ?_)
  refine x_pI e rfl rfl fw_12_164 rfl (fun g2 e => ?_)
  refine wp_p (j := J_Y_step) 1 (pc' := 362) (lv' := [(0, .ref v0), (2, .int v2), (3, .int v3), (4, .int v4), (5, .int v5), (6, .int v6)]) (st' := [.ref v0]) rfl ?_
  refine x_gI e rfl rfl fd_12_164 rfl (fun z3 e => ?_)
  refine wp_p (j := J_Y_step) 1 (pc' := 366) (lv' := [(0, .ref v0), (2, .int v2), (3, .int v3), (4, .int v4), (5, .int v5), (6, .int v6)]) (st' := [.int (-1), .int z3]) rfl ?_
  refine x_ne e rfl (fun e => ?_) (fun e => ?_)
  · refine wp_p (j := J_Y_step) 1 (pc' := 370) (lv' := [(0, .ref v0), (2, .int v2), (3, .int v3), (4, .int v4), (5, .int v5), (6, .int v6)]) (st' := [.int 0]) rfl ?_
    have e := Option.some.inj e; subst e; exact wp_iret (ty := .boolean) rfl rfl (by decide) c
  · refine wp_p (j := J_Y_step) 1 (pc' := 372) (lv' := [(0, .ref v0), (2, .int v2), (3, .int v3), (4, .int v4), (5, .int v5), (6, .int v6)]) (st' := [.ref v0]) rfl ?_
    refine x_cv0 (As := []) (rest := []) e rfl rfl rfl rfl rfl rfl (fun h => d_Y_changed h ⟨rfl, rfl⟩) (fun g4 e => ?_)
    refine wp_p (j := J_Y_step) 1 (pc' := 377) (lv' := [(0, .ref v0), (2, .int v2), (3, .int v3), (4, .int v4), (5, .int v5), (6, .int v6)]) (st' := [.int v4]) rfl ?_
    refine x_if e (fun h5 e => ?_) (fun h5 e => ?_)
    · refine x_sw (cst := 0) (pc' := 420) (rest := []) h5 rfl rfl rfl ?_
      refine wp_p (j := J_Y_step) 2 (pc' := 422) (lv' := [(0, .ref v0), (2, .int v2), (3, .int v3), (4, .int v4), (5, .int v5), (6, .int v6)]) (st' := [.ref v0, .ref v0]) rfl ?_
      refine x_gQ e rfl rfl fd_12_159 rfl (fun z6 e => ?_)
      refine wp_p (j := J_Y_step) 4 (pc' := 431) (lv' := [(0, .ref v0), (2, .int v2), (3, .int v3), (4, .int v4), (5, .int v5), (6, .int v6)]) (st' := [.int (v2 - v6), .int v6, .ref z6, .ref v0]) rfl ?_
      refine x_cv0 (As := [.ref z6, .int v6, .int (v2 - v6)]) (rest := []) e rfl rfl rfl rfl rfl rfl (fun h => d_Y_setText h ⟨rfl, rfl⟩) (fun g7 e => ?_)
      refine wp_p (j := J_Y_step) 1 (pc' := 435) (lv' := [(0, .ref v0), (2, .int v2), (3, .int v3), (4, .int v4), (5, .int v5), (6, .int v6)]) (st' := [.int 1]) rfl ?_
      have e := Option.some.inj e; subst e; exact wp_iret (ty := .boolean) rfl rfl (by decide) c
    refine x_if e (fun h8 e => ?_) (fun h8 e => ?_)
    · refine x_sw (cst := 1) (pc' := 436) (rest := []) h8 rfl rfl rfl ?_
      refine wp_p (j := J_Y_step) 3 (pc' := 440) (lv' := [(0, .ref v0), (2, .int v2), (3, .int v3), (4, .int v4), (5, .int v5), (6, .int v6)]) (st' := [.int v2, .int v6, .ref v0]) rfl ?_
      refine x_cv0 (As := [.int v6, .int v2]) (rest := []) e rfl rfl rfl rfl rfl rfl (fun h => d_Y_setClass h ⟨rfl, rfl⟩) (fun g9 e => ?_)
      refine wp_p (j := J_Y_step) 1 (pc' := 444) (lv' := [(0, .ref v0), (2, .int v2), (3, .int v3), (4, .int v4), (5, .int v5), (6, .int v6)]) (st' := [.int 1]) rfl ?_
      have e := Option.some.inj e; subst e; exact wp_iret (ty := .boolean) rfl rfl (by decide) c
    refine x_if e (fun h10 e => ?_) (fun h10 e => ?_)
    · refine x_sw (cst := 2) (pc' := 445) (rest := []) h10 rfl rfl rfl ?_
      refine wp_p (j := J_Y_step) 3 (pc' := 449) (lv' := [(0, .ref v0), (2, .int v2), (3, .int v3), (4, .int v4), (5, .int v5), (6, .int v6)]) (st' := [.int v2, .int v6, .ref v0]) rfl ?_
      refine x_cv0 (As := [.int v6, .int v2]) (rest := []) e rfl rfl rfl rfl rfl rfl (fun h => d_Y_addElement h ⟨rfl, rfl⟩) (fun g11 e => ?_)
      refine wp_p (j := J_Y_step) 1 (pc' := 453) (lv' := [(0, .ref v0), (2, .int v2), (3, .int v3), (4, .int v4), (5, .int v5), (6, .int v6)]) (st' := [.int 1]) rfl ?_
      have e := Option.some.inj e; subst e; exact wp_iret (ty := .boolean) rfl rfl (by decide) c
    refine x_if e (fun h12 e => ?_) (fun h12 e => ?_)
    · refine x_sw (cst := 3) (pc' := 545) (rest := []) h12 rfl rfl rfl ?_
      exact wp_lv (lv' := [(0, .ref v0), (2, .int v2), (6, .int v6)]) rfl ⟨rfl, rfl, rfl, trivial⟩ (x_Y_step_545 e c)
    refine x_if e (fun h13 e => ?_) (fun h13 e => ?_)
    · refine x_sw (cst := 4) (pc' := 454) (rest := []) h13 rfl rfl rfl ?_
      refine wp_p (j := J_Y_step) 1 (pc' := 455) (lv' := [(0, .ref v0), (2, .int v2), (3, .int v3), (4, .int v4), (5, .int v5), (6, .int v6)]) (st' := [.ref v0]) rfl ?_
      refine x_gQ e rfl rfl fd_12_46 rfl (fun z14 e => ?_)
      refine wp_p (j := J_Y_step) 1 (pc' := 459) (lv' := [(0, .ref v0), (2, .int v2), (3, .int v3), (4, .int v4), (5, .int v5), (6, .int v6)]) (st' := [.ref v0, .ref z14]) rfl ?_
      refine x_gI e rfl rfl fd_12_164 rfl (fun z15 e => ?_)
      refine x_aI e rfl rfl (fun z16 e => ?_)
      refine wp_p (j := J_Y_step) 1 (pc' := 465) (lv' := [(0, .ref v0), (2, .int v2), (3, .int v3), (4, .int v4), (5, .int v5), (6, .int v6)]) (st' := [.int 13, .int z16]) rfl ?_
      refine x_ne e rfl (fun e => ?_) (fun e => ?_)
      · refine wp_p (j := J_Y_step) 1 (pc' := 469) (lv' := [(0, .ref v0), (2, .int v2), (3, .int v3), (4, .int v4), (5, .int v5), (6, .int v6)]) (st' := [.ref v0]) rfl ?_
        refine x_gQ e rfl rfl fd_12_65 rfl (fun z17 e => ?_)
        refine wp_p (j := J_Y_step) 1 (pc' := 473) (lv' := [(0, .ref v0), (2, .int v2), (3, .int v3), (4, .int v4), (5, .int v5), (6, .int v6)]) (st' := [.ref v0, .ref z17]) rfl ?_
        refine x_gI e rfl rfl fd_12_164 rfl (fun z18 e => ?_)
        refine wp_p (j := J_Y_step) 4 (pc' := 482) (lv' := [(0, .ref v0), (2, .int v2), (3, .int v3), (4, .int v4), (5, .int v5), (6, .int v6)]) (st' := [.int (v2 - v6), .int 24, .int z18, .ref z17]) rfl ?_
        refine x_mn rfl rfl ?_
        refine x_sI e rfl rfl (fun g19 e => ?_)
        refine wp_p (j := J_Y_step) 2 (pc' := 489) (lv' := [(7, .int 0), (0, .ref v0), (2, .int v2), (3, .int v3), (4, .int v4), (5, .int v5), (6, .int v6)]) (st' := []) rfl ?_
        obtain ⟨g22, h21, e⟩ := bd e
        refine wp_lv (lv' := [(0, .ref v0), (6, .int v6), (7, .int 0)]) rfl ⟨rfl, rfl, rfl, trivial⟩ ?_
        refine l_Y_step_489 h21 ?_
        show wp (ab_ext L xs) J_Y_step 534 [] [] (hp g22) Q
        refine wp_p (j := J_Y_step) 1 (pc' := 535) (lv' := []) (st' := [.int 1]) rfl ?_
        have e := Option.some.inj e; subst e; exact wp_iret (ty := .boolean) rfl rfl (by decide) c
      · refine wp_p (j := J_Y_step) 1 (pc' := 535) (lv' := [(0, .ref v0), (2, .int v2), (3, .int v3), (4, .int v4), (5, .int v5), (6, .int v6)]) (st' := [.int 1]) rfl ?_
        have e := Option.some.inj e; subst e; exact wp_iret (ty := .boolean) rfl rfl (by decide) c
    refine x_if e (fun h23 e => ?_) (fun h23 e => ?_)
    · refine x_sw (cst := 5) (pc' := 545) (rest := []) h23 rfl rfl rfl ?_
      exact wp_lv (lv' := [(0, .ref v0), (2, .int v2), (6, .int v6)]) rfl ⟨rfl, rfl, rfl, trivial⟩ (x_Y_step_545 e c)
    refine x_if e (fun h24 e => ?_) (fun h24 e => ?_)
    · refine x_sw (cst := 6) (pc' := 536) (rest := []) h24 rfl rfl rfl ?_
      refine wp_p (j := J_Y_step) 3 (pc' := 540) (lv' := [(0, .ref v0), (2, .int v2), (3, .int v3), (4, .int v4), (5, .int v5), (6, .int v6)]) (st' := [.int v2, .int v6, .ref v0]) rfl ?_
      refine x_cv0 (As := [.int v6, .int v2]) (rest := []) e rfl rfl rfl rfl rfl rfl (fun h => d_Y_getStep h ⟨rfl, rfl⟩) (fun g25 e => ?_)
      refine wp_p (j := J_Y_step) 1 (pc' := 544) (lv' := [(0, .ref v0), (2, .int v2), (3, .int v3), (4, .int v4), (5, .int v5), (6, .int v6)]) (st' := [.int 1]) rfl ?_
      have e := Option.some.inj e; subst e; exact wp_iret (ty := .boolean) rfl rfl (by decide) c
    refine wp_b (pc' := 545) (st' := []) rfl rfl ((ts_d (x := v4) (lo := 0) 7 rfl ⟨h5, h8, h10, h12, h13, h23, h24, trivial⟩).trans rfl) ?_
    exact wp_lv (lv' := [(0, .ref v0), (2, .int v2), (6, .int v6)]) rfl ⟨rfl, rfl, rfl, trivial⟩ (x_Y_step_545 e c)
noncomputable def k_Y_step_319 (v0 : Nat) (v2 : Int32) (v3 : Int32) (v4 : Int32) (v5 : Int32) (v6 : Int32) (g : g_S) : Option (Int32 × g_S) :=
  (rQ g 112 v0 159).bind fun z1 =>
  (M_Y_nameEnd z1 v6 v2 g).bind fun z2 =>
  if z2 = v6 then
    some (0, g)
  else
    (rQ g 112 v0 159).bind fun z3 =>
    (M_Y_nameEnd z3 v6 v2 g).bind fun z4 =>
    if z4 = v2 then
      k_Y_step_350 v0 v2 v3 v4 v5 v6 g
    else
      some (0, g)
set_option maxRecDepth 20000 in
theorem x_Y_step_319 {L : Nat} {xs : Nat → Int32} {Q : Option Value → ab_H → Prop} {v0 : Nat} {v2 : Int32} {v3 : Int32} {v4 : Int32} {v5 : Int32} {v6 : Int32} {g : g_S} {out : Int32 × g_S} (e : k_Y_step_319 v0 v2 v3 v4 v5 v6 g = some out) (c : Q (some (.int out.1)) (hp out.2)) : wp (ab_ext L xs) J_Y_step 319 [(0, .ref v0), (2, .int v2), (3, .int v3), (4, .int v4), (5, .int v5), (6, .int v6)] [] (hp g) Q := by
  unfold k_Y_step_319 at e
  refine wp_p (j := J_Y_step) 1 (pc' := 320) (lv' := [(0, .ref v0), (2, .int v2), (3, .int v3), (4, .int v4), (5, .int v5), (6, .int v6)]) (st' := [.ref v0]) rfl ?_
  refine x_gQ e rfl rfl fd_12_159 rfl (fun z1 e => ?_)
  refine wp_p (j := J_Y_step) 2 (pc' := 326) (lv' := [(0, .ref v0), (2, .int v2), (3, .int v3), (4, .int v4), (5, .int v5), (6, .int v6)]) (st' := [.int v2, .int v6, .ref z1]) rfl ?_
  refine x_cs1 (As := [.ref z1, .int v6, .int v2]) (rest := []) Value.int e rfl rfl rfl rfl rfl (fun h => d_Y_nameEnd h ⟨rfl, rfl⟩) (fun z2 e => ?_)
  refine wp_p (j := J_Y_step) 1 (pc' := 331) (lv' := [(0, .ref v0), (2, .int v2), (3, .int v3), (4, .int v4), (5, .int v5), (6, .int v6)]) (st' := [.int v6, .int z2]) rfl ?_
  refine x_eq e rfl (fun e => ?_) (fun e => ?_)
  · refine wp_p (j := J_Y_step) 1 (pc' := 349) (lv' := [(0, .ref v0), (2, .int v2), (3, .int v3), (4, .int v4), (5, .int v5), (6, .int v6)]) (st' := [.int 0]) rfl ?_
    have e := Option.some.inj e; subst e; exact wp_iret (ty := .boolean) rfl rfl (by decide) c
  · refine wp_p (j := J_Y_step) 1 (pc' := 335) (lv' := [(0, .ref v0), (2, .int v2), (3, .int v3), (4, .int v4), (5, .int v5), (6, .int v6)]) (st' := [.ref v0]) rfl ?_
    refine x_gQ e rfl rfl fd_12_159 rfl (fun z3 e => ?_)
    refine wp_p (j := J_Y_step) 2 (pc' := 341) (lv' := [(0, .ref v0), (2, .int v2), (3, .int v3), (4, .int v4), (5, .int v5), (6, .int v6)]) (st' := [.int v2, .int v6, .ref z3]) rfl ?_
    refine x_cs1 (As := [.ref z3, .int v6, .int v2]) (rest := []) Value.int e rfl rfl rfl rfl rfl (fun h => d_Y_nameEnd h ⟨rfl, rfl⟩) (fun z4 e => ?_)
    refine wp_p (j := J_Y_step) 1 (pc' := 345) (lv' := [(0, .ref v0), (2, .int v2), (3, .int v3), (4, .int v4), (5, .int v5), (6, .int v6)]) (st' := [.int v2, .int z4]) rfl ?_
    refine x_eq e rfl (fun e => ?_) (fun e => ?_)
    · exact wp_lv (lv' := [(0, .ref v0), (2, .int v2), (3, .int v3), (4, .int v4), (5, .int v5), (6, .int v6)]) rfl ⟨rfl, rfl, rfl, rfl, rfl, rfl, trivial⟩ (x_Y_step_350 e c)
    · refine wp_p (j := J_Y_step) 1 (pc' := 349) (lv' := [(0, .ref v0), (2, .int v2), (3, .int v3), (4, .int v4), (5, .int v5), (6, .int v6)]) (st' := [.int 0]) rfl ?_
      have e := Option.some.inj e; subst e; exact wp_iret (ty := .boolean) rfl rfl (by decide) c
noncomputable def k_Y_step_246 (v0 : Nat) (w0 : Int32) (w1 : Nat) (g : g_S) : Option (Int32 × g_S) :=
  (wI g 112 w1 164 w0).bind fun g1 =>
  (rI g1 112 v0 164).bind fun z2 =>
  if z2 = (-1) then
    some (0, g1)
  else
    (rI g1 112 v0 164).bind fun z3 =>
    if 0 < z3 then
      (rI g1 112 v0 164).bind fun z4 =>
      (vc g1 112 v0 (M_Y_remove v0 z4 g1)).bind fun g5 =>
      (vc g5 112 v0 (M_Y_changed v0 g5)).bind fun g6 =>
      some (1, g6)
    else
      some (1, g1)
set_option maxRecDepth 20000 in
theorem x_Y_step_246 {L : Nat} {xs : Nat → Int32} {Q : Option Value → ab_H → Prop} {v0 : Nat} {w0 : Int32} {w1 : Nat} {g : g_S} {out : Int32 × g_S} (e : k_Y_step_246 v0 w0 w1 g = some out) (c : Q (some (.int out.1)) (hp out.2)) : wp (ab_ext L xs) J_Y_step 246 [(0, .ref v0)] [.int w0, .ref w1] (hp g) Q := by
  unfold k_Y_step_246 at e
  refine x_pI e rfl rfl fw_12_164 rfl (fun g1 e => ?_)
  refine wp_p (j := J_Y_step) 1 (pc' := 250) (lv' := [(0, .ref v0)]) (st' := [.ref v0]) rfl ?_
  refine x_gI e rfl rfl fd_12_164 rfl (fun z2 e => ?_)
  refine wp_p (j := J_Y_step) 1 (pc' := 254) (lv' := [(0, .ref v0)]) (st' := [.int (-1), .int z2]) rfl ?_
  refine x_ne e rfl (fun e => ?_) (fun e => ?_)
  · refine wp_p (j := J_Y_step) 1 (pc' := 258) (lv' := [(0, .ref v0)]) (st' := [.int 0]) rfl ?_
    have e := Option.some.inj e; subst e; exact wp_iret (ty := .boolean) rfl rfl (by decide) c
  · refine wp_p (j := J_Y_step) 1 (pc' := 260) (lv' := [(0, .ref v0)]) (st' := [.ref v0]) rfl ?_
    refine x_gI e rfl rfl fd_12_164 rfl (fun z3 e => ?_)
    refine z_le e rfl (fun e => ?_) (fun e => ?_)
    · refine wp_p (j := J_Y_step) 2 (pc' := 268) (lv' := [(0, .ref v0)]) (st' := [.ref v0, .ref v0]) rfl ?_
      refine x_gI e rfl rfl fd_12_164 rfl (fun z4 e => ?_)
      refine x_cv0 (As := [.int z4]) (rest := []) e rfl rfl rfl rfl rfl rfl (fun h => d_Y_remove h ⟨rfl, rfl⟩) (fun g5 e => ?_)
      refine wp_p (j := J_Y_step) 1 (pc' := 275) (lv' := [(0, .ref v0)]) (st' := [.ref v0]) rfl ?_
      refine x_cv0 (As := []) (rest := []) e rfl rfl rfl rfl rfl rfl (fun h => d_Y_changed h ⟨rfl, rfl⟩) (fun g6 e => ?_)
      refine wp_p (j := J_Y_step) 1 (pc' := 279) (lv' := [(0, .ref v0)]) (st' := [.int 1]) rfl ?_
      have e := Option.some.inj e; subst e; exact wp_iret (ty := .boolean) rfl rfl (by decide) c
    · refine wp_p (j := J_Y_step) 1 (pc' := 279) (lv' := [(0, .ref v0)]) (st' := [.int 1]) rfl ?_
      have e := Option.some.inj e; subst e; exact wp_iret (ty := .boolean) rfl rfl (by decide) c
noncomputable def k_Y_step_112 (v2 : Int32) (v3 : Int32) (w0 : Int32) (w1 : Nat) (g : g_S) : Option (Int32 × g_S) :=
  (wZ g 112 w1 163 w0).bind fun g1 =>
  if v3 = v2 then
    some (1, g1)
  else
    some (0, g1)
set_option maxRecDepth 20000 in
theorem x_Y_step_112 {L : Nat} {xs : Nat → Int32} {Q : Option Value → ab_H → Prop} {v2 : Int32} {v3 : Int32} {w0 : Int32} {w1 : Nat} {g : g_S} {out : Int32 × g_S} (e : k_Y_step_112 v2 v3 w0 w1 g = some out) (c : Q (some (.int out.1)) (hp out.2)) : wp (ab_ext L xs) J_Y_step 112 [(2, .int v2), (3, .int v3)] [.int w0, .ref w1] (hp g) Q := by
  unfold k_Y_step_112 at e
  refine x_pZ e rfl rfl fw_12_163 rfl (fun g1 e => ?_)
  refine wp_p (j := J_Y_step) 2 (pc' := 117) (lv' := [(2, .int v2), (3, .int v3)]) (st' := [.int v2, .int v3]) rfl ?_
  refine x_ne e rfl (fun e => ?_) (fun e => ?_)
  · refine wp_p (j := J_Y_step) 2 (pc' := 125) (lv' := [(2, .int v2), (3, .int v3)]) (st' := [.int 1]) rfl ?_
    have e := Option.some.inj e; subst e; exact wp_iret (ty := .boolean) rfl rfl (by decide) c
  · refine wp_p (j := J_Y_step) 1 (pc' := 125) (lv' := [(2, .int v2), (3, .int v3)]) (st' := [.int 0]) rfl ?_
    have e := Option.some.inj e; subst e; exact wp_iret (ty := .boolean) rfl rfl (by decide) c
noncomputable def k_Y_step_107 (v2 : Int32) (v3 : Int32) (w0 : Nat) (g : g_S) : Option (Int32 × g_S) :=
  k_Y_step_112 v2 v3 1 w0 g
set_option maxRecDepth 20000 in
theorem x_Y_step_107 {L : Nat} {xs : Nat → Int32} {Q : Option Value → ab_H → Prop} {v2 : Int32} {v3 : Int32} {w0 : Nat} {g : g_S} {out : Int32 × g_S} (e : k_Y_step_107 v2 v3 w0 g = some out) (c : Q (some (.int out.1)) (hp out.2)) : wp (ab_ext L xs) J_Y_step 107 [(2, .int v2), (3, .int v3)] [.ref w0] (hp g) Q := by
  unfold k_Y_step_107 at e
  refine wp_p (j := J_Y_step) 2 (pc' := 112) (lv' := [(2, .int v2), (3, .int v3)]) (st' := [.int 1, .ref w0]) rfl ?_
  exact wp_lv (lv' := [(2, .int v2), (3, .int v3)]) rfl ⟨rfl, rfl, trivial⟩ (x_Y_step_112 e c)
noncomputable def k_Y_step_25 (v0 : Nat) (v1 : Int32) (v2 : Int32) (v3 : Int32) (g : g_S) : Option (Int32 × g_S) :=
  (L_Y_step_31 v0 v1 v2 v3 (-1) 0 g).bind <| fun z3 =>
  if z3 = (-1) then
    some (0, g)
  else
    if z3 = 10 then
      (rI g 112 v0 163).bind fun z4 =>
      if z4 = 0 then
        if v3 = v2 then
          k_Y_step_107 v2 v3 v0 g
        else
          k_Y_step_112 v2 v3 0 v0 g
      else
        k_Y_step_107 v2 v3 v0 g
    else
      if v3 = v2 then
        some (0, g)
      else
        (rQ g 112 v0 159).bind fun z5 =>
        (aI g 1 z5 v3).bind fun z6 =>
        if z6 = 32 then
          if z3 = 5 then
            (rQ g 112 v0 159).bind fun z7 =>
            c2 (vc g 112 v0 (M_Y_refer v0 z7 (v3 + 1) v2 1 g)) fun z8 g9 =>
            if z8 = 0 then
              some (1, g9)
            else
              (vc g9 112 v0 (M_Y_visitResult v0 g9)).bind fun g10 =>
              some (1, g10)
          else
            if z3 = 9 then
              c2 (vc g 112 v0 (M_Y_waitStep v0 (v3 + 1) v2 g)) fun z11 g12 =>
              (tz z11).bind fun z13 =>
              some (z13, g12)
            else
              (rQ g 112 v0 159).bind fun z15 =>
              (M_Y_nameEnd z15 (v3 + 1) v2 g).bind fun z16 =>
              if z16 = (v3 + 1) then
                some (0, g)
              else
                if z3 = 7 then
                  c2 (vc g 112 v0 (M_Y_putStep v0 (v3 + 1) z16 v2 g)) fun z17 g18 =>
                  (tz z17).bind fun z19 =>
                  some (z19, g18)
                else
                  if z3 = 3 then
                    if z16 = v2 then
                      (vc g 112 v0 (M_Y_nodeOf v0 (v3 + 1) z16 g)).bind fun z21 =>
                      k_Y_step_246 v0 z21 v0 g
                    else
                      k_Y_step_246 v0 (-1) v0 g
                  else
                    if z16 = v2 then
                      some (0, g)
                    else
                      (rQ g 112 v0 159).bind fun z22 =>
                      (aI g 1 z22 z16).bind fun z23 =>
                      if z23 = 32 then
                        if z3 = 2 then
                          k_Y_step_319 v0 v2 (v3 + 1) z3 z16 (z16 + 1) g
                        else
                          if z3 = 8 then
                            k_Y_step_319 v0 v2 (v3 + 1) z3 z16 (z16 + 1) g
                          else
                            k_Y_step_350 v0 v2 (v3 + 1) z3 z16 (z16 + 1) g
                      else
                        some (0, g)
        else
          some (0, g)
set_option maxRecDepth 20000 in
theorem x_Y_step_25 {L : Nat} {xs : Nat → Int32} {Q : Option Value → ab_H → Prop} {v0 : Nat} {v1 : Int32} {v2 : Int32} {v3 : Int32} {g : g_S} {out : Int32 × g_S} (e : k_Y_step_25 v0 v1 v2 v3 g = some out) (c : Q (some (.int out.1)) (hp out.2)) : wp (ab_ext L xs) J_Y_step 25 [(0, .ref v0), (1, .int v1), (2, .int v2), (3, .int v3)] [] (hp g) Q := by
  unfold k_Y_step_25 at e
  refine wp_p (j := J_Y_step) 4 (pc' := 31) (lv' := [(5, .int 0), (4, .int (-1)), (0, .ref v0), (1, .int v1), (2, .int v2), (3, .int v3)]) (st' := []) rfl ?_
  obtain ⟨z3, h2, e⟩ := bd e
  refine wp_lv (lv' := [(0, .ref v0), (1, .int v1), (2, .int v2), (3, .int v3), (4, .int (-1)), (5, .int 0)]) rfl ⟨rfl, rfl, rfl, rfl, rfl, rfl, trivial⟩ ?_
  refine l_Y_step_31 h2 ?_
  show wp (ab_ext L xs) J_Y_step 79 [(0, .ref v0), (2, .int v2), (3, .int v3), (4, .int z3)] [] (hp g) Q
  refine wp_p (j := J_Y_step) 2 (pc' := 82) (lv' := [(0, .ref v0), (2, .int v2), (3, .int v3), (4, .int z3)]) (st' := [.int (-1), .int z3]) rfl ?_
  refine x_ne e rfl (fun e => ?_) (fun e => ?_)
  · refine wp_p (j := J_Y_step) 1 (pc' := 86) (lv' := [(0, .ref v0), (2, .int v2), (3, .int v3), (4, .int z3)]) (st' := [.int 0]) rfl ?_
    have e := Option.some.inj e; subst e; exact wp_iret (ty := .boolean) rfl rfl (by decide) c
  · refine wp_p (j := J_Y_step) 2 (pc' := 91) (lv' := [(0, .ref v0), (2, .int v2), (3, .int v3), (4, .int z3)]) (st' := [.int 10, .int z3]) rfl ?_
    refine x_ne e rfl (fun e => ?_) (fun e => ?_)
    · refine wp_p (j := J_Y_step) 2 (pc' := 96) (lv' := [(0, .ref v0), (2, .int v2), (3, .int v3), (4, .int z3)]) (st' := [.ref v0, .ref v0]) rfl ?_
      refine x_gI e rfl rfl fd_12_163 rfl (fun z4 e => ?_)
      refine z_ne e rfl (fun e => ?_) (fun e => ?_)
      · refine wp_p (j := J_Y_step) 2 (pc' := 104) (lv' := [(0, .ref v0), (2, .int v2), (3, .int v3), (4, .int z3)]) (st' := [.int v2, .int v3, .ref v0]) rfl ?_
        refine x_ne e rfl (fun e => ?_) (fun e => ?_)
        · exact wp_lv (lv' := [(2, .int v2), (3, .int v3)]) rfl ⟨rfl, rfl, trivial⟩ (x_Y_step_107 e c)
        · refine wp_p (j := J_Y_step) 1 (pc' := 112) (lv' := [(0, .ref v0), (2, .int v2), (3, .int v3), (4, .int z3)]) (st' := [.int 0, .ref v0]) rfl ?_
          exact wp_lv (lv' := [(2, .int v2), (3, .int v3)]) rfl ⟨rfl, rfl, trivial⟩ (x_Y_step_112 e c)
      · exact wp_lv (lv' := [(2, .int v2), (3, .int v3)]) rfl ⟨rfl, rfl, trivial⟩ (x_Y_step_107 e c)
    · refine wp_p (j := J_Y_step) 2 (pc' := 128) (lv' := [(0, .ref v0), (2, .int v2), (3, .int v3), (4, .int z3)]) (st' := [.int v2, .int v3]) rfl ?_
      refine x_eq e rfl (fun e => ?_) (fun e => ?_)
      · refine wp_p (j := J_Y_step) 1 (pc' := 143) (lv' := [(0, .ref v0), (2, .int v2), (3, .int v3), (4, .int z3)]) (st' := [.int 0]) rfl ?_
        have e := Option.some.inj e; subst e; exact wp_iret (ty := .boolean) rfl rfl (by decide) c
      · refine wp_p (j := J_Y_step) 1 (pc' := 132) (lv' := [(0, .ref v0), (2, .int v2), (3, .int v3), (4, .int z3)]) (st' := [.ref v0]) rfl ?_
        refine x_gQ e rfl rfl fd_12_159 rfl (fun z5 e => ?_)
        refine wp_p (j := J_Y_step) 1 (pc' := 136) (lv' := [(0, .ref v0), (2, .int v2), (3, .int v3), (4, .int z3)]) (st' := [.int v3, .ref z5]) rfl ?_
        refine x_aB e rfl (.inl rfl) rfl (fun z6 e => ?_)
        refine wp_p (j := J_Y_step) 1 (pc' := 139) (lv' := [(0, .ref v0), (2, .int v2), (3, .int v3), (4, .int z3)]) (st' := [.int 32, .int z6]) rfl ?_
        refine x_eq e rfl (fun e => ?_) (fun e => ?_)
        · refine wp_p (j := J_Y_step) 3 (pc' := 150) (lv' := [(3, .int (v3 + 1)), (0, .ref v0), (2, .int v2), (4, .int z3)]) (st' := [.int 5, .int z3]) rfl ?_
          refine x_ne e rfl (fun e => ?_) (fun e => ?_)
          · refine wp_p (j := J_Y_step) 2 (pc' := 155) (lv' := [(3, .int (v3 + 1)), (0, .ref v0), (2, .int v2), (4, .int z3)]) (st' := [.ref v0, .ref v0]) rfl ?_
            refine x_gQ e rfl rfl fd_12_159 rfl (fun z7 e => ?_)
            refine wp_p (j := J_Y_step) 3 (pc' := 161) (lv' := [(3, .int (v3 + 1)), (0, .ref v0), (2, .int v2), (4, .int z3)]) (st' := [.int 1, .int v2, .int (v3 + 1), .ref z7, .ref v0]) rfl ?_
            refine x_cv2 (As := [.ref z7, .int (v3 + 1), .int v2, .int 1]) (rest := []) Value.int e rfl rfl rfl rfl rfl rfl (fun h => d_Y_refer h ⟨rfl, rfl⟩) (fun z8 g9 e => ?_)
            refine z_eq e rfl (fun e => ?_) (fun e => ?_)
            · refine wp_p (j := J_Y_step) 1 (pc' := 172) (lv' := [(3, .int (v3 + 1)), (0, .ref v0), (2, .int v2), (4, .int z3)]) (st' := [.int 1]) rfl ?_
              have e := Option.some.inj e; subst e; exact wp_iret (ty := .boolean) rfl rfl (by decide) c
            · refine wp_p (j := J_Y_step) 1 (pc' := 168) (lv' := [(3, .int (v3 + 1)), (0, .ref v0), (2, .int v2), (4, .int z3)]) (st' := [.ref v0]) rfl ?_
              refine x_cv0 (As := []) (rest := []) e rfl rfl rfl rfl rfl rfl (fun h => d_Y_visitResult h ⟨rfl, rfl⟩) (fun g10 e => ?_)
              refine wp_p (j := J_Y_step) 1 (pc' := 172) (lv' := [(3, .int (v3 + 1)), (0, .ref v0), (2, .int v2), (4, .int z3)]) (st' := [.int 1]) rfl ?_
              have e := Option.some.inj e; subst e; exact wp_iret (ty := .boolean) rfl rfl (by decide) c
          · refine wp_p (j := J_Y_step) 2 (pc' := 177) (lv' := [(3, .int (v3 + 1)), (0, .ref v0), (2, .int v2), (4, .int z3)]) (st' := [.int 9, .int z3]) rfl ?_
            refine x_ne e rfl (fun e => ?_) (fun e => ?_)
            · refine wp_p (j := J_Y_step) 3 (pc' := 183) (lv' := [(3, .int (v3 + 1)), (0, .ref v0), (2, .int v2), (4, .int z3)]) (st' := [.int v2, .int (v3 + 1), .ref v0]) rfl ?_
              refine x_cv2 (As := [.int (v3 + 1), .int v2]) (rest := []) Value.int e rfl rfl rfl rfl rfl rfl (fun h => d_Y_waitStep h ⟨rfl, rfl⟩) (fun z11 g12 e => ?_)
              obtain ⟨h14, e⟩ := tz_ok e
              have e := Option.some.inj e; subst e; exact wp_iret (ty := .boolean) rfl rfl h14 c
            · refine wp_p (j := J_Y_step) 1 (pc' := 188) (lv' := [(3, .int (v3 + 1)), (0, .ref v0), (2, .int v2), (4, .int z3)]) (st' := [.ref v0]) rfl ?_
              refine x_gQ e rfl rfl fd_12_159 rfl (fun z15 e => ?_)
              refine wp_p (j := J_Y_step) 2 (pc' := 193) (lv' := [(3, .int (v3 + 1)), (0, .ref v0), (2, .int v2), (4, .int z3)]) (st' := [.int v2, .int (v3 + 1), .ref z15]) rfl ?_
              refine x_cs1 (As := [.ref z15, .int (v3 + 1), .int v2]) (rest := []) Value.int e rfl rfl rfl rfl rfl (fun h => d_Y_nameEnd h ⟨rfl, rfl⟩) (fun z16 e => ?_)
              refine wp_p (j := J_Y_step) 3 (pc' := 201) (lv' := [(5, .int z16), (3, .int (v3 + 1)), (0, .ref v0), (2, .int v2), (4, .int z3)]) (st' := [.int (v3 + 1), .int z16]) rfl ?_
              refine x_ne e rfl (fun e => ?_) (fun e => ?_)
              · refine wp_p (j := J_Y_step) 1 (pc' := 205) (lv' := [(5, .int z16), (3, .int (v3 + 1)), (0, .ref v0), (2, .int v2), (4, .int z3)]) (st' := [.int 0]) rfl ?_
                have e := Option.some.inj e; subst e; exact wp_iret (ty := .boolean) rfl rfl (by decide) c
              · refine wp_p (j := J_Y_step) 2 (pc' := 210) (lv' := [(5, .int z16), (3, .int (v3 + 1)), (0, .ref v0), (2, .int v2), (4, .int z3)]) (st' := [.int 7, .int z3]) rfl ?_
                refine x_ne e rfl (fun e => ?_) (fun e => ?_)
                · refine wp_p (j := J_Y_step) 4 (pc' := 218) (lv' := [(5, .int z16), (3, .int (v3 + 1)), (0, .ref v0), (2, .int v2), (4, .int z3)]) (st' := [.int v2, .int z16, .int (v3 + 1), .ref v0]) rfl ?_
                  refine x_cv2 (As := [.int (v3 + 1), .int z16, .int v2]) (rest := []) Value.int e rfl rfl rfl rfl rfl rfl (fun h => d_Y_putStep h ⟨rfl, rfl⟩) (fun z17 g18 e => ?_)
                  obtain ⟨h20, e⟩ := tz_ok e
                  have e := Option.some.inj e; subst e; exact wp_iret (ty := .boolean) rfl rfl h20 c
                · refine wp_p (j := J_Y_step) 2 (pc' := 225) (lv' := [(5, .int z16), (3, .int (v3 + 1)), (0, .ref v0), (2, .int v2), (4, .int z3)]) (st' := [.int 3, .int z3]) rfl ?_
                  refine x_ne e rfl (fun e => ?_) (fun e => ?_)
                  · refine wp_p (j := J_Y_step) 3 (pc' := 232) (lv' := [(5, .int z16), (3, .int (v3 + 1)), (0, .ref v0), (2, .int v2), (4, .int z3)]) (st' := [.int v2, .int z16, .ref v0]) rfl ?_
                    refine x_ne e rfl (fun e => ?_) (fun e => ?_)
                    · refine wp_p (j := J_Y_step) 3 (pc' := 239) (lv' := [(5, .int z16), (3, .int (v3 + 1)), (0, .ref v0), (2, .int v2), (4, .int z3)]) (st' := [.int z16, .int (v3 + 1), .ref v0, .ref v0]) rfl ?_
                      refine x_cv1 (As := [.int (v3 + 1), .int z16]) (rest := [.ref v0]) Value.int e rfl rfl rfl rfl rfl rfl (fun h => d_Y_nodeOf h ⟨rfl, rfl⟩) (fun z21 e => ?_)
                      refine wp_p (j := J_Y_step) 1 (pc' := 246) (lv' := [(5, .int z16), (3, .int (v3 + 1)), (0, .ref v0), (2, .int v2), (4, .int z3)]) (st' := [.int z21, .ref v0]) rfl ?_
                      exact wp_lv (lv' := [(0, .ref v0)]) rfl ⟨rfl, trivial⟩ (x_Y_step_246 e c)
                    · refine wp_p (j := J_Y_step) 1 (pc' := 246) (lv' := [(5, .int z16), (3, .int (v3 + 1)), (0, .ref v0), (2, .int v2), (4, .int z3)]) (st' := [.int (-1), .ref v0]) rfl ?_
                      exact wp_lv (lv' := [(0, .ref v0)]) rfl ⟨rfl, trivial⟩ (x_Y_step_246 e c)
                  · refine wp_p (j := J_Y_step) 2 (pc' := 283) (lv' := [(5, .int z16), (3, .int (v3 + 1)), (0, .ref v0), (2, .int v2), (4, .int z3)]) (st' := [.int v2, .int z16]) rfl ?_
                    refine x_eq e rfl (fun e => ?_) (fun e => ?_)
                    · refine wp_p (j := J_Y_step) 1 (pc' := 299) (lv' := [(5, .int z16), (3, .int (v3 + 1)), (0, .ref v0), (2, .int v2), (4, .int z3)]) (st' := [.int 0]) rfl ?_
                      have e := Option.some.inj e; subst e; exact wp_iret (ty := .boolean) rfl rfl (by decide) c
                    · refine wp_p (j := J_Y_step) 1 (pc' := 287) (lv' := [(5, .int z16), (3, .int (v3 + 1)), (0, .ref v0), (2, .int v2), (4, .int z3)]) (st' := [.ref v0]) rfl ?_
                      refine x_gQ e rfl rfl fd_12_159 rfl (fun z22 e => ?_)
                      refine wp_p (j := J_Y_step) 1 (pc' := 292) (lv' := [(5, .int z16), (3, .int (v3 + 1)), (0, .ref v0), (2, .int v2), (4, .int z3)]) (st' := [.int z16, .ref z22]) rfl ?_
                      refine x_aB e rfl (.inl rfl) rfl (fun z23 e => ?_)
                      refine wp_p (j := J_Y_step) 1 (pc' := 295) (lv' := [(5, .int z16), (3, .int (v3 + 1)), (0, .ref v0), (2, .int v2), (4, .int z3)]) (st' := [.int 32, .int z23]) rfl ?_
                      refine x_eq e rfl (fun e => ?_) (fun e => ?_)
                      · refine wp_p (j := J_Y_step) 6 (pc' := 309) (lv' := [(6, .int (z16 + 1)), (5, .int z16), (3, .int (v3 + 1)), (0, .ref v0), (2, .int v2), (4, .int z3)]) (st' := [.int 2, .int z3]) rfl ?_
                        refine x_eq e rfl (fun e => ?_) (fun e => ?_)
                        · exact wp_lv (lv' := [(0, .ref v0), (2, .int v2), (3, .int (v3 + 1)), (4, .int z3), (5, .int z16), (6, .int (z16 + 1))]) rfl ⟨rfl, rfl, rfl, rfl, rfl, rfl, trivial⟩ (x_Y_step_319 e c)
                        · refine wp_p (j := J_Y_step) 2 (pc' := 316) (lv' := [(6, .int (z16 + 1)), (5, .int z16), (3, .int (v3 + 1)), (0, .ref v0), (2, .int v2), (4, .int z3)]) (st' := [.int 8, .int z3]) rfl ?_
                          refine x_ne e rfl (fun e => ?_) (fun e => ?_)
                          · exact wp_lv (lv' := [(0, .ref v0), (2, .int v2), (3, .int (v3 + 1)), (4, .int z3), (5, .int z16), (6, .int (z16 + 1))]) rfl ⟨rfl, rfl, rfl, rfl, rfl, rfl, trivial⟩ (x_Y_step_319 e c)
                          · exact wp_lv (lv' := [(0, .ref v0), (2, .int v2), (3, .int (v3 + 1)), (4, .int z3), (5, .int z16), (6, .int (z16 + 1))]) rfl ⟨rfl, rfl, rfl, rfl, rfl, rfl, trivial⟩ (x_Y_step_350 e c)
                      · refine wp_p (j := J_Y_step) 1 (pc' := 299) (lv' := [(5, .int z16), (3, .int (v3 + 1)), (0, .ref v0), (2, .int v2), (4, .int z3)]) (st' := [.int 0]) rfl ?_
                        have e := Option.some.inj e; subst e; exact wp_iret (ty := .boolean) rfl rfl (by decide) c
        · refine wp_p (j := J_Y_step) 1 (pc' := 143) (lv' := [(0, .ref v0), (2, .int v2), (3, .int v3), (4, .int z3)]) (st' := [.int 0]) rfl ?_
          have e := Option.some.inj e; subst e; exact wp_iret (ty := .boolean) rfl rfl (by decide) c
noncomputable def M_Y_step (v0 : Nat) (v1 : Int32) (v2 : Int32) (g : g_S) : Option (Int32 × g_S) :=
  (L_Y_step_2 v0 v1 v2 v1 g).bind <| fun z3 =>
  k_Y_step_25 v0 v1 v2 z3 g
set_option maxRecDepth 20000 in
theorem d_Y_step {L : Nat} {xs : Nat → Int32} {Q : Option Value → ab_H → Prop} {v0 : Nat} {v1 : Int32} {v2 : Int32} {g : g_S} {out : Int32 × g_S} (e : M_Y_step v0 v1 v2 g = some out) (c : Q (some (.int out.1)) (hp out.2)) : mw (ab_ext L xs) J_Y_step [.ref v0, .int v1, .int v2] (hp g) Q := by
  unfold M_Y_step at e
  refine wp_p (j := J_Y_step) 2 (pc' := 2) (lv' := [(3, .int v1), (0, .ref v0), (1, .int v1), (2, .int v2)]) (st' := []) rfl ?_
  obtain ⟨z3, h2, e⟩ := bd e
  refine wp_lv (lv' := [(0, .ref v0), (1, .int v1), (2, .int v2), (3, .int v1)]) rfl ⟨rfl, rfl, rfl, rfl, trivial⟩ ?_
  refine l_Y_step_2 h2 ?_
  show wp (ab_ext L xs) J_Y_step 25 [(0, .ref v0), (1, .int v1), (2, .int v2), (3, .int z3)] [] (hp g) Q
  exact wp_lv (lv' := [(0, .ref v0), (1, .int v1), (2, .int v2), (3, .int z3)]) rfl ⟨rfl, rfl, rfl, rfl, trivial⟩ (x_Y_step_25 e c)
noncomputable def k_Y_oneStep_42 (v0 : Nat) (g : g_S) : Option g_S :=
  (rI g 112 v0 158).bind fun z1 =>
  if z1 = 200 then
    (wZ g 112 v0 154 1).bind fun g2 =>
    some g2
  else
    some g
set_option maxRecDepth 20000 in
theorem x_Y_oneStep_42 {L : Nat} {xs : Nat → Int32} {Q : Option Value → ab_H → Prop} {v0 : Nat} {g : g_S} {out : g_S} (e : k_Y_oneStep_42 v0 g = some out) (c : Q none (hp out)) : wp (ab_ext L xs) J_Y_oneStep 42 [(0, .ref v0)] [] (hp g) Q := by
  unfold k_Y_oneStep_42 at e
  refine wp_p (j := J_Y_oneStep) 1 (pc' := 43) (lv' := [(0, .ref v0)]) (st' := [.ref v0]) rfl ?_
  refine x_gI e rfl rfl fd_12_158 rfl (fun z1 e => ?_)
  refine wp_p (j := J_Y_oneStep) 1 (pc' := 49) (lv' := [(0, .ref v0)]) (st' := [.int 200, .int z1]) rfl ?_
  refine x_ne e rfl (fun e => ?_) (fun e => ?_)
  · refine wp_p (j := J_Y_oneStep) 2 (pc' := 54) (lv' := [(0, .ref v0)]) (st' := [.int 1, .ref v0]) rfl ?_
    refine x_pZ e rfl rfl fw_12_154 rfl (fun g2 e => ?_)
    have e := Option.some.inj e; subst e; exact wp_vret rfl rfl c
  · have e := Option.some.inj e; subst e; exact wp_vret rfl rfl c
noncomputable def M_Y_oneStep (v0 : Nat) (v1 : Int32) (v2 : Int32) (g : g_S) : Option g_S :=
  (rI g 112 v0 158).bind fun z1 =>
  (wI g 112 v0 158 (z1 + 1)).bind fun g2 =>
  c2 (vc g2 112 v0 (M_Y_step v0 v1 v2 g2)) fun z3 g4 =>
  if z3 = 0 then
    (rI g4 112 v0 156).bind fun z5 =>
    (wI g4 112 v0 156 (z5 + 1)).bind fun g6 =>
    k_Y_oneStep_42 v0 g6
  else
    (rI g4 112 v0 155).bind fun z7 =>
    (wI g4 112 v0 155 (z7 + 1)).bind fun g8 =>
    k_Y_oneStep_42 v0 g8
set_option maxRecDepth 20000 in
theorem d_Y_oneStep {L : Nat} {xs : Nat → Int32} {Q : Option Value → ab_H → Prop} {v0 : Nat} {v1 : Int32} {v2 : Int32} {g : g_S} {out : g_S} (e : M_Y_oneStep v0 v1 v2 g = some out) (c : Q none (hp out)) : mw (ab_ext L xs) J_Y_oneStep [.ref v0, .int v1, .int v2] (hp g) Q := by
  unfold M_Y_oneStep at e
  refine wp_p (j := J_Y_oneStep) 2 (pc' := 2) (lv' := [(0, .ref v0), (1, .int v1), (2, .int v2)]) (st' := [.ref v0, .ref v0]) rfl ?_
  refine x_gI e rfl rfl fd_12_158 rfl (fun z1 e => ?_)
  refine wp_p (j := J_Y_oneStep) 2 (pc' := 7) (lv' := [(0, .ref v0), (1, .int v1), (2, .int v2)]) (st' := [.int (z1 + 1), .ref v0]) rfl ?_
  refine x_pI e rfl rfl fw_12_158 rfl (fun g2 e => ?_)
  refine wp_p (j := J_Y_oneStep) 3 (pc' := 13) (lv' := [(0, .ref v0), (1, .int v1), (2, .int v2)]) (st' := [.int v2, .int v1, .ref v0]) rfl ?_
  refine x_cv2 (As := [.int v1, .int v2]) (rest := []) Value.int e rfl rfl rfl rfl rfl rfl (fun h => d_Y_step h ⟨rfl, rfl⟩) (fun z3 g4 e => ?_)
  refine z_eq e rfl (fun e => ?_) (fun e => ?_)
  · refine wp_p (j := J_Y_oneStep) 2 (pc' := 34) (lv' := [(0, .ref v0), (1, .int v1), (2, .int v2)]) (st' := [.ref v0, .ref v0]) rfl ?_
    refine x_gI e rfl rfl fd_12_156 rfl (fun z5 e => ?_)
    refine wp_p (j := J_Y_oneStep) 2 (pc' := 39) (lv' := [(0, .ref v0), (1, .int v1), (2, .int v2)]) (st' := [.int (z5 + 1), .ref v0]) rfl ?_
    refine x_pI e rfl rfl fw_12_156 rfl (fun g6 e => ?_)
    exact wp_lv (lv' := [(0, .ref v0)]) rfl ⟨rfl, trivial⟩ (x_Y_oneStep_42 e c)
  · refine wp_p (j := J_Y_oneStep) 2 (pc' := 21) (lv' := [(0, .ref v0), (1, .int v1), (2, .int v2)]) (st' := [.ref v0, .ref v0]) rfl ?_
    refine x_gI e rfl rfl fd_12_155 rfl (fun z7 e => ?_)
    refine wp_p (j := J_Y_oneStep) 2 (pc' := 26) (lv' := [(0, .ref v0), (1, .int v1), (2, .int v2)]) (st' := [.int (z7 + 1), .ref v0]) rfl ?_
    refine x_pI e rfl rfl fw_12_155 rfl (fun g8 e => ?_)
    refine wp_p (j := J_Y_oneStep) 1 (pc' := 42) (lv' := [(0, .ref v0), (1, .int v1), (2, .int v2)]) (st' := []) rfl ?_
    exact wp_lv (lv' := [(0, .ref v0)]) rfl ⟨rfl, trivial⟩ (x_Y_oneStep_42 e c)
def cL_Y_runScript_53 (L : Nat) (xs : Nat → Int32) (Q : Option Value → ab_H → Prop) (v0 : Nat) (v2 : Int32) (g : g_S) (out : (Int32) ⊕ (Int32)) : Prop := match out with
  | .inl s => wp (ab_ext L xs) J_Y_runScript 53 [(0, .ref v0), (2, .int v2), (3, .int s)] [] (hp g) Q
  | .inr s => wp (ab_ext L xs) J_Y_runScript 76 [(0, .ref v0), (2, .int v2), (3, .int s)] [] (hp g) Q
noncomputable def b_Y_runScript_53 (v0 : Nat) (v2 : Int32) (v3 : Int32) (g : g_S) : Option ((Int32) ⊕ (Int32)) :=
  if v3 < v2 then
    (rQ g 112 v0 159).bind fun z1 =>
    (aI g 1 z1 v3).bind fun z2 =>
    (M_Y_isBlank z2 g).bind fun z3 =>
    if z3 = 0 then
      some (.inr v3)
    else
      some (.inl (v3 + 1))
  else
    some (.inr v3)
set_option maxRecDepth 20000 in
theorem y_Y_runScript_53 {L : Nat} {xs : Nat → Int32} {Q : Option Value → ab_H → Prop} {v0 : Nat} {v2 : Int32} {v3 : Int32} {g : g_S} {out : (Int32) ⊕ (Int32)} (e : b_Y_runScript_53 v0 v2 v3 g = some out) (c : cL_Y_runScript_53 L xs Q v0 v2 g out) : wp (ab_ext L xs) J_Y_runScript 53 [(0, .ref v0), (2, .int v2), (3, .int v3)] [] (hp g) Q := by
  unfold b_Y_runScript_53 at e
  refine wp_p (j := J_Y_runScript) 2 (pc' := 55) (lv' := [(0, .ref v0), (2, .int v2), (3, .int v3)]) (st' := [.int v2, .int v3]) rfl ?_
  refine x_ge e rfl (fun e => ?_) (fun e => ?_)
  · refine wp_p (j := J_Y_runScript) 1 (pc' := 59) (lv' := [(0, .ref v0), (2, .int v2), (3, .int v3)]) (st' := [.ref v0]) rfl ?_
    refine x_gQ e rfl rfl fd_12_159 rfl (fun z1 e => ?_)
    refine wp_p (j := J_Y_runScript) 1 (pc' := 63) (lv' := [(0, .ref v0), (2, .int v2), (3, .int v3)]) (st' := [.int v3, .ref z1]) rfl ?_
    refine x_aB e rfl (.inl rfl) rfl (fun z2 e => ?_)
    refine x_cs1 (As := [.int z2]) (rest := []) Value.int e rfl rfl rfl rfl rfl (fun h => d_Y_isBlank h ⟨rfl, rfl⟩) (fun z3 e => ?_)
    refine z_eq e rfl (fun e => ?_) (fun e => ?_)
    · have e := Option.some.inj e; subst e; exact wp_lv (lv' := [(0, .ref v0), (2, .int v2), (3, .int v3)]) rfl ⟨rfl, rfl, rfl, trivial⟩ c
    · refine wp_p (j := J_Y_runScript) 2 (pc' := 53) (lv' := [(3, .int (v3 + 1)), (0, .ref v0), (2, .int v2)]) (st' := []) rfl ?_
      have e := Option.some.inj e; subst e; exact wp_lv (lv' := [(0, .ref v0), (2, .int v2), (3, .int (v3 + 1))]) rfl ⟨rfl, rfl, rfl, trivial⟩ c
  · have e := Option.some.inj e; subst e; exact wp_lv (lv' := [(0, .ref v0), (2, .int v2), (3, .int v3)]) rfl ⟨rfl, rfl, rfl, trivial⟩ c
noncomputable def L_Y_runScript_53 (v0 : Nat) (v2 : Int32) (v3 : Int32) (g : g_S) : Option (Int32) := it (fun s : Int32 => b_Y_runScript_53 v0 v2 s g) (v3)
theorem l_Y_runScript_53 {L : Nat} {xs : Nat → Int32} {Q : Option Value → ab_H → Prop} {v0 : Nat} {v2 : Int32} {v3 : Int32} {g : g_S} {r : Int32} (e : L_Y_runScript_53 v0 v2 v3 g = some r) (c : cL_Y_runScript_53 L xs Q v0 v2 g (.inr r)) : wp (ab_ext L xs) J_Y_runScript 53 [(0, .ref v0), (2, .int v2), (3, .int v3)] [] (hp g) Q :=
  it_wp (P := fun s : Int32 => wp (ab_ext L xs) J_Y_runScript 53 [(0, .ref v0), (2, .int v2), (3, .int s)] [] (hp g) Q) (E := fun r => cL_Y_runScript_53 L xs Q v0 v2 g (.inr r)) (fun s out e c => y_Y_runScript_53 e (by cases out <;> exact c)) e c
theorem L_Y_runScript_53_eq (v0 : Nat) (v2 : Int32) (v3 : Int32) (g : g_S) : L_Y_runScript_53 v0 v2 v3 g = itc (b_Y_runScript_53 v0 v2 v3 g) (fun s => L_Y_runScript_53 v0 v2 s g) := it_eq2 (fun s : Int32 => b_Y_runScript_53 v0 v2 s g) (v3)
def cL_Y_runScript_26 (L : Nat) (xs : Nat → Int32) (Q : Option Value → ab_H → Prop) (v0 : Nat) (v1 : Int32) (g : g_S) (out : (Int32) ⊕ (Int32)) : Prop := match out with
  | .inl s => wp (ab_ext L xs) J_Y_runScript 26 [(0, .ref v0), (1, .int v1), (2, .int s)] [] (hp g) Q
  | .inr s => wp (ab_ext L xs) J_Y_runScript 51 [(0, .ref v0), (1, .int v1), (2, .int s)] [] (hp g) Q
noncomputable def b_Y_runScript_26 (v0 : Nat) (v1 : Int32) (v2 : Int32) (g : g_S) : Option ((Int32) ⊕ (Int32)) :=
  (rI g 112 v0 160).bind fun z1 =>
  if v2 < z1 then
    (rQ g 112 v0 159).bind fun z2 =>
    (aI g 1 z2 v2).bind fun z3 =>
    if z3 = 59 then
      some (.inr v2)
    else
      some (.inl (v2 + 1))
  else
    some (.inr v2)
set_option maxRecDepth 20000 in
theorem y_Y_runScript_26 {L : Nat} {xs : Nat → Int32} {Q : Option Value → ab_H → Prop} {v0 : Nat} {v1 : Int32} {v2 : Int32} {g : g_S} {out : (Int32) ⊕ (Int32)} (e : b_Y_runScript_26 v0 v1 v2 g = some out) (c : cL_Y_runScript_26 L xs Q v0 v1 g out) : wp (ab_ext L xs) J_Y_runScript 26 [(0, .ref v0), (1, .int v1), (2, .int v2)] [] (hp g) Q := by
  unfold b_Y_runScript_26 at e
  refine wp_p (j := J_Y_runScript) 2 (pc' := 28) (lv' := [(0, .ref v0), (1, .int v1), (2, .int v2)]) (st' := [.ref v0, .int v2]) rfl ?_
  refine x_gI e rfl rfl fd_12_160 rfl (fun z1 e => ?_)
  refine x_ge e rfl (fun e => ?_) (fun e => ?_)
  · refine wp_p (j := J_Y_runScript) 1 (pc' := 35) (lv' := [(0, .ref v0), (1, .int v1), (2, .int v2)]) (st' := [.ref v0]) rfl ?_
    refine x_gQ e rfl rfl fd_12_159 rfl (fun z2 e => ?_)
    refine wp_p (j := J_Y_runScript) 1 (pc' := 39) (lv' := [(0, .ref v0), (1, .int v1), (2, .int v2)]) (st' := [.int v2, .ref z2]) rfl ?_
    refine x_aB e rfl (.inl rfl) rfl (fun z3 e => ?_)
    refine wp_p (j := J_Y_runScript) 1 (pc' := 42) (lv' := [(0, .ref v0), (1, .int v1), (2, .int v2)]) (st' := [.int 59, .int z3]) rfl ?_
    refine x_eq e rfl (fun e => ?_) (fun e => ?_)
    · have e := Option.some.inj e; subst e; exact wp_lv (lv' := [(0, .ref v0), (1, .int v1), (2, .int v2)]) rfl ⟨rfl, rfl, rfl, trivial⟩ c
    · refine wp_p (j := J_Y_runScript) 2 (pc' := 26) (lv' := [(2, .int (v2 + 1)), (0, .ref v0), (1, .int v1)]) (st' := []) rfl ?_
      have e := Option.some.inj e; subst e; exact wp_lv (lv' := [(0, .ref v0), (1, .int v1), (2, .int (v2 + 1))]) rfl ⟨rfl, rfl, rfl, trivial⟩ c
  · have e := Option.some.inj e; subst e; exact wp_lv (lv' := [(0, .ref v0), (1, .int v1), (2, .int v2)]) rfl ⟨rfl, rfl, rfl, trivial⟩ c
noncomputable def L_Y_runScript_26 (v0 : Nat) (v1 : Int32) (v2 : Int32) (g : g_S) : Option (Int32) := it (fun s : Int32 => b_Y_runScript_26 v0 v1 s g) (v2)
theorem l_Y_runScript_26 {L : Nat} {xs : Nat → Int32} {Q : Option Value → ab_H → Prop} {v0 : Nat} {v1 : Int32} {v2 : Int32} {g : g_S} {r : Int32} (e : L_Y_runScript_26 v0 v1 v2 g = some r) (c : cL_Y_runScript_26 L xs Q v0 v1 g (.inr r)) : wp (ab_ext L xs) J_Y_runScript 26 [(0, .ref v0), (1, .int v1), (2, .int v2)] [] (hp g) Q :=
  it_wp (P := fun s : Int32 => wp (ab_ext L xs) J_Y_runScript 26 [(0, .ref v0), (1, .int v1), (2, .int s)] [] (hp g) Q) (E := fun r => cL_Y_runScript_26 L xs Q v0 v1 g (.inr r)) (fun s out e c => y_Y_runScript_26 e (by cases out <;> exact c)) e c
theorem L_Y_runScript_26_eq (v0 : Nat) (v1 : Int32) (v2 : Int32) (g : g_S) : L_Y_runScript_26 v0 v1 v2 g = itc (b_Y_runScript_26 v0 v1 v2 g) (fun s => L_Y_runScript_26 v0 v1 s g) := it_eq2 (fun s : Int32 => b_Y_runScript_26 v0 v1 s g) (v2)
def cL_Y_runScript_2 (L : Nat) (xs : Nat → Int32) (Q : Option Value → ab_H → Prop) (v0 : Nat) (out : (Int32 × g_S) ⊕ (g_S)) : Prop := match out with
  | .inl s => wp (ab_ext L xs) J_Y_runScript 2 [(0, .ref v0), (1, .int s.1)] [] (hp s.2) Q
  | .inr s => wp (ab_ext L xs) J_Y_runScript 112 [] [] (hp s) Q
noncomputable def k_Y_runScript_105 (v0 : Nat) (v2 : Int32) (g : g_S) : Option ((Int32 × g_S) ⊕ (g_S)) :=
  some (.inl (v2 + 1, g))
set_option maxRecDepth 20000 in
theorem x_Y_runScript_105 {L : Nat} {xs : Nat → Int32} {Q : Option Value → ab_H → Prop} {v0 : Nat} {v2 : Int32} {g : g_S} {out : (Int32 × g_S) ⊕ (g_S)} (e : k_Y_runScript_105 v0 v2 g = some out) (c : cL_Y_runScript_2 L xs Q v0 out) : wp (ab_ext L xs) J_Y_runScript 105 [(0, .ref v0), (2, .int v2)] [] (hp g) Q := by
  unfold k_Y_runScript_105 at e
  refine wp_p (j := J_Y_runScript) 5 (pc' := 2) (lv' := [(1, .int (v2 + 1)), (0, .ref v0), (2, .int v2)]) (st' := []) rfl ?_
  have e := Option.some.inj e; subst e; exact wp_lv (lv' := [(0, .ref v0), (1, .int (v2 + 1))]) rfl ⟨rfl, rfl, trivial⟩ c
noncomputable def k_Y_runScript_76 (v0 : Nat) (v2 : Int32) (v3 : Int32) (g : g_S) : Option ((Int32 × g_S) ⊕ (g_S)) :=
  if v3 < v2 then
    (rI g 112 v0 158).bind fun z1 =>
    if z1 = 200 then
      (wZ g 112 v0 154 1).bind fun g2 =>
      k_Y_runScript_105 v0 v2 g2
    else
      (vc g 112 v0 (M_Y_oneStep v0 v3 v2 g)).bind fun g3 =>
      k_Y_runScript_105 v0 v2 g3
  else
    k_Y_runScript_105 v0 v2 g
set_option maxRecDepth 20000 in
theorem x_Y_runScript_76 {L : Nat} {xs : Nat → Int32} {Q : Option Value → ab_H → Prop} {v0 : Nat} {v2 : Int32} {v3 : Int32} {g : g_S} {out : (Int32 × g_S) ⊕ (g_S)} (e : k_Y_runScript_76 v0 v2 v3 g = some out) (c : cL_Y_runScript_2 L xs Q v0 out) : wp (ab_ext L xs) J_Y_runScript 76 [(0, .ref v0), (2, .int v2), (3, .int v3)] [] (hp g) Q := by
  unfold k_Y_runScript_76 at e
  refine wp_p (j := J_Y_runScript) 2 (pc' := 78) (lv' := [(0, .ref v0), (2, .int v2), (3, .int v3)]) (st' := [.int v2, .int v3]) rfl ?_
  refine x_ge e rfl (fun e => ?_) (fun e => ?_)
  · refine wp_p (j := J_Y_runScript) 1 (pc' := 82) (lv' := [(0, .ref v0), (2, .int v2), (3, .int v3)]) (st' := [.ref v0]) rfl ?_
    refine x_gI e rfl rfl fd_12_158 rfl (fun z1 e => ?_)
    refine wp_p (j := J_Y_runScript) 1 (pc' := 88) (lv' := [(0, .ref v0), (2, .int v2), (3, .int v3)]) (st' := [.int 200, .int z1]) rfl ?_
    refine x_ne e rfl (fun e => ?_) (fun e => ?_)
    · refine wp_p (j := J_Y_runScript) 2 (pc' := 93) (lv' := [(0, .ref v0), (2, .int v2), (3, .int v3)]) (st' := [.int 1, .ref v0]) rfl ?_
      refine x_pZ e rfl rfl fw_12_154 rfl (fun g2 e => ?_)
      refine wp_p (j := J_Y_runScript) 1 (pc' := 105) (lv' := [(0, .ref v0), (2, .int v2), (3, .int v3)]) (st' := []) rfl ?_
      exact wp_lv (lv' := [(0, .ref v0), (2, .int v2)]) rfl ⟨rfl, rfl, trivial⟩ (x_Y_runScript_105 e c)
    · refine wp_p (j := J_Y_runScript) 3 (pc' := 102) (lv' := [(0, .ref v0), (2, .int v2), (3, .int v3)]) (st' := [.int v2, .int v3, .ref v0]) rfl ?_
      refine x_cv0 (As := [.int v3, .int v2]) (rest := []) e rfl rfl rfl rfl rfl rfl (fun h => d_Y_oneStep h ⟨rfl, rfl⟩) (fun g3 e => ?_)
      exact wp_lv (lv' := [(0, .ref v0), (2, .int v2)]) rfl ⟨rfl, rfl, trivial⟩ (x_Y_runScript_105 e c)
  · exact wp_lv (lv' := [(0, .ref v0), (2, .int v2)]) rfl ⟨rfl, rfl, trivial⟩ (x_Y_runScript_105 e c)
noncomputable def k_Y_runScript_51 (v0 : Nat) (v1 : Int32) (v2 : Int32) (g : g_S) : Option ((Int32 × g_S) ⊕ (g_S)) :=
  (L_Y_runScript_53 v0 v2 v1 g).bind <| fun z3 =>
  k_Y_runScript_76 v0 v2 z3 g
set_option maxRecDepth 20000 in
theorem x_Y_runScript_51 {L : Nat} {xs : Nat → Int32} {Q : Option Value → ab_H → Prop} {v0 : Nat} {v1 : Int32} {v2 : Int32} {g : g_S} {out : (Int32 × g_S) ⊕ (g_S)} (e : k_Y_runScript_51 v0 v1 v2 g = some out) (c : cL_Y_runScript_2 L xs Q v0 out) : wp (ab_ext L xs) J_Y_runScript 51 [(0, .ref v0), (1, .int v1), (2, .int v2)] [] (hp g) Q := by
  unfold k_Y_runScript_51 at e
  refine wp_p (j := J_Y_runScript) 2 (pc' := 53) (lv' := [(3, .int v1), (0, .ref v0), (1, .int v1), (2, .int v2)]) (st' := []) rfl ?_
  obtain ⟨z3, h2, e⟩ := bd e
  refine wp_lv (lv' := [(0, .ref v0), (2, .int v2), (3, .int v1)]) rfl ⟨rfl, rfl, rfl, trivial⟩ ?_
  refine l_Y_runScript_53 h2 ?_
  show wp (ab_ext L xs) J_Y_runScript 76 [(0, .ref v0), (2, .int v2), (3, .int z3)] [] (hp g) Q
  exact wp_lv (lv' := [(0, .ref v0), (2, .int v2), (3, .int z3)]) rfl ⟨rfl, rfl, rfl, trivial⟩ (x_Y_runScript_76 e c)
noncomputable def b_Y_runScript_2 (v0 : Nat) (v1 : Int32) (g : g_S) : Option ((Int32 × g_S) ⊕ (g_S)) :=
  (rI g 112 v0 160).bind fun z1 =>
  if z1 < v1 then
    some (.inr g)
  else
    (rI g 112 v0 152).bind fun z2 =>
    if z2 = 0 then
      (rI g 112 v0 154).bind fun z3 =>
      if z3 = 0 then
        (L_Y_runScript_26 v0 v1 v1 g).bind <| fun z6 =>
        k_Y_runScript_51 v0 v1 z6 g
      else
        some (.inr g)
    else
      some (.inr g)
set_option maxRecDepth 20000 in
theorem y_Y_runScript_2 {L : Nat} {xs : Nat → Int32} {Q : Option Value → ab_H → Prop} {v0 : Nat} {v1 : Int32} {g : g_S} {out : (Int32 × g_S) ⊕ (g_S)} (e : b_Y_runScript_2 v0 v1 g = some out) (c : cL_Y_runScript_2 L xs Q v0 out) : wp (ab_ext L xs) J_Y_runScript 2 [(0, .ref v0), (1, .int v1)] [] (hp g) Q := by
  unfold b_Y_runScript_2 at e
  refine wp_p (j := J_Y_runScript) 2 (pc' := 4) (lv' := [(0, .ref v0), (1, .int v1)]) (st' := [.ref v0, .int v1]) rfl ?_
  refine x_gI e rfl rfl fd_12_160 rfl (fun z1 e => ?_)
  refine x_gt e rfl (fun e => ?_) (fun e => ?_)
  · have e := Option.some.inj e; subst e; exact wp_lv (lv' := []) rfl trivial c
  · refine wp_p (j := J_Y_runScript) 1 (pc' := 11) (lv' := [(0, .ref v0), (1, .int v1)]) (st' := [.ref v0]) rfl ?_
    refine x_gI e rfl rfl fd_12_152 rfl (fun z2 e => ?_)
    refine z_ne e rfl (fun e => ?_) (fun e => ?_)
    · refine wp_p (j := J_Y_runScript) 1 (pc' := 18) (lv' := [(0, .ref v0), (1, .int v1)]) (st' := [.ref v0]) rfl ?_
      refine x_gI e rfl rfl fd_12_154 rfl (fun z3 e => ?_)
      refine z_ne e rfl (fun e => ?_) (fun e => ?_)
      · refine wp_p (j := J_Y_runScript) 2 (pc' := 26) (lv' := [(2, .int v1), (0, .ref v0), (1, .int v1)]) (st' := []) rfl ?_
        obtain ⟨z6, h5, e⟩ := bd e
        refine wp_lv (lv' := [(0, .ref v0), (1, .int v1), (2, .int v1)]) rfl ⟨rfl, rfl, rfl, trivial⟩ ?_
        refine l_Y_runScript_26 h5 ?_
        show wp (ab_ext L xs) J_Y_runScript 51 [(0, .ref v0), (1, .int v1), (2, .int z6)] [] (hp g) Q
        exact wp_lv (lv' := [(0, .ref v0), (1, .int v1), (2, .int z6)]) rfl ⟨rfl, rfl, rfl, trivial⟩ (x_Y_runScript_51 e c)
      · have e := Option.some.inj e; subst e; exact wp_lv (lv' := []) rfl trivial c
    · have e := Option.some.inj e; subst e; exact wp_lv (lv' := []) rfl trivial c
noncomputable def L_Y_runScript_2 (v0 : Nat) (v1 : Int32) (g : g_S) : Option (g_S) := it (fun s : Int32 × g_S => b_Y_runScript_2 v0 s.1 s.2) (v1, g)
theorem l_Y_runScript_2 {L : Nat} {xs : Nat → Int32} {Q : Option Value → ab_H → Prop} {v0 : Nat} {v1 : Int32} {g : g_S} {r : g_S} (e : L_Y_runScript_2 v0 v1 g = some r) (c : cL_Y_runScript_2 L xs Q v0 (.inr r)) : wp (ab_ext L xs) J_Y_runScript 2 [(0, .ref v0), (1, .int v1)] [] (hp g) Q :=
  it_wp (P := fun s : Int32 × g_S => wp (ab_ext L xs) J_Y_runScript 2 [(0, .ref v0), (1, .int s.1)] [] (hp s.2) Q) (E := fun r => cL_Y_runScript_2 L xs Q v0 (.inr r)) (fun s out e c => y_Y_runScript_2 e (by cases out <;> exact c)) e c
theorem L_Y_runScript_2_eq (v0 : Nat) (v1 : Int32) (g : g_S) : L_Y_runScript_2 v0 v1 g = itc (b_Y_runScript_2 v0 v1 g) (fun s => L_Y_runScript_2 v0 s.1 s.2) := it_eq2 (fun s : Int32 × g_S => b_Y_runScript_2 v0 s.1 s.2) (v1, g)
noncomputable def M_Y_runScript (v0 : Nat) (g : g_S) : Option g_S :=
  (L_Y_runScript_2 v0 0 g).bind <| fun g3 =>
  some g3
set_option maxRecDepth 20000 in
theorem d_Y_runScript {L : Nat} {xs : Nat → Int32} {Q : Option Value → ab_H → Prop} {v0 : Nat} {g : g_S} {out : g_S} (e : M_Y_runScript v0 g = some out) (c : Q none (hp out)) : mw (ab_ext L xs) J_Y_runScript [.ref v0] (hp g) Q := by
  unfold M_Y_runScript at e
  refine wp_p (j := J_Y_runScript) 2 (pc' := 2) (lv' := [(1, .int 0), (0, .ref v0)]) (st' := []) rfl ?_
  obtain ⟨g3, h2, e⟩ := bd e
  refine wp_lv (lv' := [(0, .ref v0), (1, .int 0)]) rfl ⟨rfl, rfl, trivial⟩ ?_
  refine l_Y_runScript_2 h2 ?_
  show wp (ab_ext L xs) J_Y_runScript 112 [] [] (hp g3) Q
  have e := Option.some.inj e; subst e; exact wp_vret rfl rfl c
def cL_Y_listen_54 (L : Nat) (xs : Nat → Int32) (Q : Option Value → ab_H → Prop) (v0 : Nat) (v4 : Int32) (v5 : Int32) (out : (Int32 × g_S) ⊕ (g_S)) : Prop := match out with
  | .inl s => wp (ab_ext L xs) J_Y_listen 54 [(0, .ref v0), (4, .int v4), (5, .int v5), (6, .int s.1)] [] (hp s.2) Q
  | .inr s => wp (ab_ext L xs) J_Y_listen 89 [(0, .ref v0), (4, .int v4)] [] (hp s) Q
noncomputable def b_Y_listen_54 (v0 : Nat) (v4 : Int32) (v5 : Int32) (v6 : Int32) (g : g_S) : Option ((Int32 × g_S) ⊕ (g_S)) :=
  (rI g 112 v0 160).bind fun z1 =>
  if v6 < z1 then
    (rQ g 112 v0 159).bind fun z2 =>
    (rQ g 112 v0 59).bind fun z3 =>
    (aI g 1 z3 ((60 * v5) + v6)).bind fun z4 =>
    (sB g z2 v6 z4).bind fun g5 =>
    some (.inl (v6 + 1, g5))
  else
    some (.inr g)
set_option maxRecDepth 20000 in
theorem y_Y_listen_54 {L : Nat} {xs : Nat → Int32} {Q : Option Value → ab_H → Prop} {v0 : Nat} {v4 : Int32} {v5 : Int32} {v6 : Int32} {g : g_S} {out : (Int32 × g_S) ⊕ (g_S)} (e : b_Y_listen_54 v0 v4 v5 v6 g = some out) (c : cL_Y_listen_54 L xs Q v0 v4 v5 out) : wp (ab_ext L xs) J_Y_listen 54 [(0, .ref v0), (4, .int v4), (5, .int v5), (6, .int v6)] [] (hp g) Q := by
  unfold b_Y_listen_54 at e
  refine wp_p (j := J_Y_listen) 2 (pc' := 57) (lv' := [(0, .ref v0), (4, .int v4), (5, .int v5), (6, .int v6)]) (st' := [.ref v0, .int v6]) rfl ?_
  refine x_gI e rfl rfl fd_12_160 rfl (fun z1 e => ?_)
  refine x_ge e rfl (fun e => ?_) (fun e => ?_)
  · refine wp_p (j := J_Y_listen) 1 (pc' := 64) (lv' := [(0, .ref v0), (4, .int v4), (5, .int v5), (6, .int v6)]) (st' := [.ref v0]) rfl ?_
    refine x_gQ e rfl rfl fd_12_159 rfl (fun z2 e => ?_)
    refine wp_p (j := J_Y_listen) 2 (pc' := 70) (lv' := [(0, .ref v0), (4, .int v4), (5, .int v5), (6, .int v6)]) (st' := [.ref v0, .int v6, .ref z2]) rfl ?_
    refine x_gQ e rfl rfl fd_12_59 rfl (fun z3 e => ?_)
    refine wp_p (j := J_Y_listen) 5 (pc' := 81) (lv' := [(0, .ref v0), (4, .int v4), (5, .int v5), (6, .int v6)]) (st' := [.int ((60 * v5) + v6), .ref z3, .int v6, .ref z2]) rfl ?_
    refine x_aB e rfl (.inl rfl) rfl (fun z4 e => ?_)
    refine x_sB e rfl rfl (fun g5 e => ?_)
    refine wp_p (j := J_Y_listen) 2 (pc' := 54) (lv' := [(6, .int (v6 + 1)), (0, .ref v0), (4, .int v4), (5, .int v5)]) (st' := []) rfl ?_
    have e := Option.some.inj e; subst e; exact wp_lv (lv' := [(0, .ref v0), (4, .int v4), (5, .int v5), (6, .int (v6 + 1))]) rfl ⟨rfl, rfl, rfl, rfl, trivial⟩ c
  · have e := Option.some.inj e; subst e; exact wp_lv (lv' := [(0, .ref v0), (4, .int v4)]) rfl ⟨rfl, rfl, trivial⟩ c
noncomputable def L_Y_listen_54 (v0 : Nat) (v4 : Int32) (v5 : Int32) (v6 : Int32) (g : g_S) : Option (g_S) := it (fun s : Int32 × g_S => b_Y_listen_54 v0 v4 v5 s.1 s.2) (v6, g)
theorem l_Y_listen_54 {L : Nat} {xs : Nat → Int32} {Q : Option Value → ab_H → Prop} {v0 : Nat} {v4 : Int32} {v5 : Int32} {v6 : Int32} {g : g_S} {r : g_S} (e : L_Y_listen_54 v0 v4 v5 v6 g = some r) (c : cL_Y_listen_54 L xs Q v0 v4 v5 (.inr r)) : wp (ab_ext L xs) J_Y_listen 54 [(0, .ref v0), (4, .int v4), (5, .int v5), (6, .int v6)] [] (hp g) Q :=
  it_wp (P := fun s : Int32 × g_S => wp (ab_ext L xs) J_Y_listen 54 [(0, .ref v0), (4, .int v4), (5, .int v5), (6, .int s.1)] [] (hp s.2) Q) (E := fun r => cL_Y_listen_54 L xs Q v0 v4 v5 (.inr r)) (fun s out e c => y_Y_listen_54 e (by cases out <;> exact c)) e c
theorem L_Y_listen_54_eq (v0 : Nat) (v4 : Int32) (v5 : Int32) (v6 : Int32) (g : g_S) : L_Y_listen_54 v0 v4 v5 v6 g = itc (b_Y_listen_54 v0 v4 v5 v6 g) (fun s => L_Y_listen_54 v0 v4 v5 s.1 s.2) := it_eq2 (fun s : Int32 × g_S => b_Y_listen_54 v0 v4 v5 s.1 s.2) (v6, g)
noncomputable def k_Y_listen_31 (v0 : Nat) (v4 : Int32) (w0 : Int32) (g : g_S) : Option g_S :=
  if w0 = (-1) then
    some g
  else
    (rQ g 112 v0 60).bind fun z1 =>
    (aI g 0 z1 w0).bind fun z2 =>
    (wI g 112 v0 160 z2).bind fun g3 =>
    (L_Y_listen_54 v0 v4 w0 0 g3).bind <| fun g6 =>
    (wI g6 112 v0 161 v4).bind fun g7 =>
    (rQ g7 112 v0 55).bind fun z8 =>
    (aI g7 0 z8 v4).bind fun z9 =>
    (wI g7 112 v0 162 z9).bind fun g10 =>
    (vc g10 112 v0 (M_Y_runScript v0 g10)).bind fun g11 =>
    some g11
set_option maxRecDepth 20000 in
theorem x_Y_listen_31 {L : Nat} {xs : Nat → Int32} {Q : Option Value → ab_H → Prop} {v0 : Nat} {v4 : Int32} {w0 : Int32} {g : g_S} {out : g_S} (e : k_Y_listen_31 v0 v4 w0 g = some out) (c : Q none (hp out)) : wp (ab_ext L xs) J_Y_listen 31 [(0, .ref v0), (4, .int v4)] [.int w0] (hp g) Q := by
  unfold k_Y_listen_31 at e
  refine wp_p (j := J_Y_listen) 3 (pc' := 36) (lv' := [(5, .int w0), (0, .ref v0), (4, .int v4)]) (st' := [.int (-1), .int w0]) rfl ?_
  refine x_ne e rfl (fun e => ?_) (fun e => ?_)
  · have e := Option.some.inj e; subst e; exact wp_vret rfl rfl c
  · refine wp_p (j := J_Y_listen) 2 (pc' := 42) (lv' := [(5, .int w0), (0, .ref v0), (4, .int v4)]) (st' := [.ref v0, .ref v0]) rfl ?_
    refine x_gQ e rfl rfl fd_12_60 rfl (fun z1 e => ?_)
    refine wp_p (j := J_Y_listen) 1 (pc' := 47) (lv' := [(5, .int w0), (0, .ref v0), (4, .int v4)]) (st' := [.int w0, .ref z1, .ref v0]) rfl ?_
    refine x_aI e rfl rfl (fun z2 e => ?_)
    refine x_pI e rfl rfl fw_12_160 rfl (fun g3 e => ?_)
    refine wp_p (j := J_Y_listen) 2 (pc' := 54) (lv' := [(6, .int 0), (5, .int w0), (0, .ref v0), (4, .int v4)]) (st' := []) rfl ?_
    obtain ⟨g6, h5, e⟩ := bd e
    refine wp_lv (lv' := [(0, .ref v0), (4, .int v4), (5, .int w0), (6, .int 0)]) rfl ⟨rfl, rfl, rfl, rfl, trivial⟩ ?_
    refine l_Y_listen_54 h5 ?_
    show wp (ab_ext L xs) J_Y_listen 89 [(0, .ref v0), (4, .int v4)] [] (hp g6) Q
    refine wp_p (j := J_Y_listen) 2 (pc' := 92) (lv' := [(0, .ref v0), (4, .int v4)]) (st' := [.int v4, .ref v0]) rfl ?_
    refine x_pI e rfl rfl fw_12_161 rfl (fun g7 e => ?_)
    refine wp_p (j := J_Y_listen) 2 (pc' := 97) (lv' := [(0, .ref v0), (4, .int v4)]) (st' := [.ref v0, .ref v0]) rfl ?_
    refine x_gQ e rfl rfl fd_12_55 rfl (fun z8 e => ?_)
    refine wp_p (j := J_Y_listen) 1 (pc' := 102) (lv' := [(0, .ref v0), (4, .int v4)]) (st' := [.int v4, .ref z8, .ref v0]) rfl ?_
    refine x_aI e rfl rfl (fun z9 e => ?_)
    refine x_pI e rfl rfl fw_12_162 rfl (fun g10 e => ?_)
    refine wp_p (j := J_Y_listen) 1 (pc' := 107) (lv' := [(0, .ref v0), (4, .int v4)]) (st' := [.ref v0]) rfl ?_
    refine x_cv0 (As := []) (rest := []) e rfl rfl rfl rfl rfl rfl (fun h => d_Y_runScript h ⟨rfl, rfl⟩) (fun g11 e => ?_)
    have e := Option.some.inj e; subst e; exact wp_vret rfl rfl c
noncomputable def M_Y_listen (v0 : Nat) (v1 : Int32) (v2 : Int64) (g : g_S) : Option g_S :=
  (rQ g 112 v0 179).bind fun z1 =>
  (aI g 0 z1 v1).bind fun z2 =>
  (rQ g 112 v0 46).bind fun z3 =>
  (aI g 0 z3 z2).bind fun z4 =>
  if z4 = 17 then
    k_Y_listen_31 v0 z2 (-1) g
  else
    (vc g 112 v0 (M_Y_attributeOf v0 z2 v2 g)).bind fun z5 =>
    k_Y_listen_31 v0 z2 z5 g
set_option maxRecDepth 20000 in
theorem d_Y_listen {L : Nat} {xs : Nat → Int32} {Q : Option Value → ab_H → Prop} {v0 : Nat} {v1 : Int32} {v2 : Int64} {g : g_S} {out : g_S} (e : M_Y_listen v0 v1 v2 g = some out) (c : Q none (hp out)) : mw (ab_ext L xs) J_Y_listen [.ref v0, .int v1, .long v2] (hp g) Q := by
  unfold M_Y_listen at e
  refine wp_p (j := J_Y_listen) 1 (pc' := 1) (lv' := [(0, .ref v0), (1, .int v1), (2, .long v2)]) (st' := [.ref v0]) rfl ?_
  refine x_gQ e rfl rfl fd_12_179 rfl (fun z1 e => ?_)
  refine wp_p (j := J_Y_listen) 1 (pc' := 5) (lv' := [(0, .ref v0), (1, .int v1), (2, .long v2)]) (st' := [.int v1, .ref z1]) rfl ?_
  refine x_aI e rfl rfl (fun z2 e => ?_)
  refine wp_p (j := J_Y_listen) 2 (pc' := 9) (lv' := [(4, .int z2), (0, .ref v0), (1, .int v1), (2, .long v2)]) (st' := [.ref v0]) rfl ?_
  refine x_gQ e rfl rfl fd_12_46 rfl (fun z3 e => ?_)
  refine wp_p (j := J_Y_listen) 1 (pc' := 14) (lv' := [(4, .int z2), (0, .ref v0), (1, .int v1), (2, .long v2)]) (st' := [.int z2, .ref z3]) rfl ?_
  refine x_aI e rfl rfl (fun z4 e => ?_)
  refine wp_p (j := J_Y_listen) 1 (pc' := 17) (lv' := [(4, .int z2), (0, .ref v0), (1, .int v1), (2, .long v2)]) (st' := [.int 17, .int z4]) rfl ?_
  refine x_ne e rfl (fun e => ?_) (fun e => ?_)
  · refine wp_p (j := J_Y_listen) 2 (pc' := 31) (lv' := [(4, .int z2), (0, .ref v0), (1, .int v1), (2, .long v2)]) (st' := [.int (-1)]) rfl ?_
    exact wp_lv (lv' := [(0, .ref v0), (4, .int z2)]) rfl ⟨rfl, rfl, trivial⟩ (x_Y_listen_31 e c)
  · refine wp_p (j := J_Y_listen) 3 (pc' := 28) (lv' := [(4, .int z2), (0, .ref v0), (1, .int v1), (2, .long v2)]) (st' := [.long v2, .int z2, .ref v0]) rfl ?_
    refine x_cv1 (As := [.int z2, .long v2]) (rest := []) Value.int e rfl rfl rfl rfl rfl rfl (fun h => d_Y_attributeOf h ⟨rfl, rfl⟩) (fun z5 e => ?_)
    exact wp_lv (lv' := [(0, .ref v0), (4, .int z2)]) rfl ⟨rfl, rfl, trivial⟩ (x_Y_listen_31 e c)
def cL_Y_settle_76 (L : Nat) (xs : Nat → Int32) (Q : Option Value → ab_H → Prop) (v0 : Nat) (out : (Int32 × g_S) ⊕ (g_S)) : Prop := match out with
  | .inl s => wp (ab_ext L xs) J_Y_settle 76 [(0, .ref v0), (1, .int s.1)] [] (hp s.2) Q
  | .inr s => wp (ab_ext L xs) J_Y_settle 120 [(0, .ref v0)] [] (hp s) Q
noncomputable def b_Y_settle_76 (v0 : Nat) (v1 : Int32) (g : g_S) : Option ((Int32 × g_S) ⊕ (g_S)) :=
  (rI g 112 v0 181).bind fun z1 =>
  if v1 < z1 then
    (rI g 112 v0 152).bind fun z2 =>
    if z2 = 0 then
      (rI g 112 v0 154).bind fun z3 =>
      if z3 = 0 then
        (vc g 112 v0 (M_Y_isThere v0 v1 g)).bind fun z4 =>
        if z4 = 0 then
          some (.inl (v1 + 1, g))
        else
          (vc g 112 v0 (M_Y_listen v0 v1 135770575 g)).bind fun g5 =>
          some (.inl (v1 + 1, g5))
      else
        some (.inr g)
    else
      some (.inr g)
  else
    some (.inr g)
set_option maxRecDepth 20000 in
theorem y_Y_settle_76 {L : Nat} {xs : Nat → Int32} {Q : Option Value → ab_H → Prop} {v0 : Nat} {v1 : Int32} {g : g_S} {out : (Int32 × g_S) ⊕ (g_S)} (e : b_Y_settle_76 v0 v1 g = some out) (c : cL_Y_settle_76 L xs Q v0 out) : wp (ab_ext L xs) J_Y_settle 76 [(0, .ref v0), (1, .int v1)] [] (hp g) Q := by
  unfold b_Y_settle_76 at e
  refine wp_p (j := J_Y_settle) 2 (pc' := 78) (lv' := [(0, .ref v0), (1, .int v1)]) (st' := [.ref v0, .int v1]) rfl ?_
  refine x_gI e rfl rfl fd_12_181 rfl (fun z1 e => ?_)
  refine x_ge e rfl (fun e => ?_) (fun e => ?_)
  · refine wp_p (j := J_Y_settle) 1 (pc' := 85) (lv' := [(0, .ref v0), (1, .int v1)]) (st' := [.ref v0]) rfl ?_
    refine x_gI e rfl rfl fd_12_152 rfl (fun z2 e => ?_)
    refine z_ne e rfl (fun e => ?_) (fun e => ?_)
    · refine wp_p (j := J_Y_settle) 1 (pc' := 92) (lv' := [(0, .ref v0), (1, .int v1)]) (st' := [.ref v0]) rfl ?_
      refine x_gI e rfl rfl fd_12_154 rfl (fun z3 e => ?_)
      refine z_ne e rfl (fun e => ?_) (fun e => ?_)
      · refine wp_p (j := J_Y_settle) 2 (pc' := 100) (lv' := [(0, .ref v0), (1, .int v1)]) (st' := [.int v1, .ref v0]) rfl ?_
        refine x_cv1 (As := [.int v1]) (rest := []) Value.int e rfl rfl rfl rfl rfl rfl (fun h => d_Y_isThere h ⟨rfl, rfl⟩) (fun z4 e => ?_)
        refine z_eq e rfl (fun e => ?_) (fun e => ?_)
        · refine wp_p (j := J_Y_settle) 2 (pc' := 76) (lv' := [(1, .int (v1 + 1)), (0, .ref v0)]) (st' := []) rfl ?_
          have e := Option.some.inj e; subst e; exact wp_lv (lv' := [(0, .ref v0), (1, .int (v1 + 1))]) rfl ⟨rfl, rfl, trivial⟩ c
        · refine wp_p (j := J_Y_settle) 2 (pc' := 108) (lv' := [(0, .ref v0), (1, .int v1)]) (st' := [.int v1, .ref v0]) rfl ?_
          refine x_l2 (xl := 135770575) rfl rfl rfl ?_
          refine x_cv0 (As := [.int v1, .long 135770575]) (rest := []) e rfl rfl rfl rfl rfl rfl (fun h => d_Y_listen h ⟨rfl, rfl⟩) (fun g5 e => ?_)
          refine wp_p (j := J_Y_settle) 2 (pc' := 76) (lv' := [(1, .int (v1 + 1)), (0, .ref v0)]) (st' := []) rfl ?_
          have e := Option.some.inj e; subst e; exact wp_lv (lv' := [(0, .ref v0), (1, .int (v1 + 1))]) rfl ⟨rfl, rfl, trivial⟩ c
      · have e := Option.some.inj e; subst e; exact wp_lv (lv' := [(0, .ref v0)]) rfl ⟨rfl, trivial⟩ c
    · have e := Option.some.inj e; subst e; exact wp_lv (lv' := [(0, .ref v0)]) rfl ⟨rfl, trivial⟩ c
  · have e := Option.some.inj e; subst e; exact wp_lv (lv' := [(0, .ref v0)]) rfl ⟨rfl, trivial⟩ c
noncomputable def L_Y_settle_76 (v0 : Nat) (v1 : Int32) (g : g_S) : Option (g_S) := it (fun s : Int32 × g_S => b_Y_settle_76 v0 s.1 s.2) (v1, g)
theorem l_Y_settle_76 {L : Nat} {xs : Nat → Int32} {Q : Option Value → ab_H → Prop} {v0 : Nat} {v1 : Int32} {g : g_S} {r : g_S} (e : L_Y_settle_76 v0 v1 g = some r) (c : cL_Y_settle_76 L xs Q v0 (.inr r)) : wp (ab_ext L xs) J_Y_settle 76 [(0, .ref v0), (1, .int v1)] [] (hp g) Q :=
  it_wp (P := fun s : Int32 × g_S => wp (ab_ext L xs) J_Y_settle 76 [(0, .ref v0), (1, .int s.1)] [] (hp s.2) Q) (E := fun r => cL_Y_settle_76 L xs Q v0 (.inr r)) (fun s out e c => y_Y_settle_76 e (by cases out <;> exact c)) e c
theorem L_Y_settle_76_eq (v0 : Nat) (v1 : Int32) (g : g_S) : L_Y_settle_76 v0 v1 g = itc (b_Y_settle_76 v0 v1 g) (fun s => L_Y_settle_76 v0 s.1 s.2) := it_eq2 (fun s : Int32 × g_S => b_Y_settle_76 v0 s.1 s.2) (v1, g)
def cL_Y_settle_24 (L : Nat) (xs : Nat → Int32) (Q : Option Value → ab_H → Prop) (v0 : Nat) (out : (Int32 × g_S) ⊕ (g_S)) : Prop := match out with
  | .inl s => wp (ab_ext L xs) J_Y_settle 24 [(0, .ref v0), (1, .int s.1)] [] (hp s.2) Q
  | .inr s => wp (ab_ext L xs) J_Y_settle 74 [(0, .ref v0)] [] (hp s) Q
noncomputable def k_Y_settle_64 (v0 : Nat) (v1 : Int32) (g : g_S) : Option ((Int32 × g_S) ⊕ (g_S)) :=
  (vc g 112 v0 (M_Y_after v0 v1 0 g)).bind fun z1 =>
  some (.inl (z1, g))
set_option maxRecDepth 20000 in
theorem x_Y_settle_64 {L : Nat} {xs : Nat → Int32} {Q : Option Value → ab_H → Prop} {v0 : Nat} {v1 : Int32} {g : g_S} {out : (Int32 × g_S) ⊕ (g_S)} (e : k_Y_settle_64 v0 v1 g = some out) (c : cL_Y_settle_24 L xs Q v0 out) : wp (ab_ext L xs) J_Y_settle 64 [(0, .ref v0), (1, .int v1)] [] (hp g) Q := by
  unfold k_Y_settle_64 at e
  refine wp_p (j := J_Y_settle) 3 (pc' := 67) (lv' := [(0, .ref v0), (1, .int v1)]) (st' := [.int 0, .int v1, .ref v0]) rfl ?_
  refine x_cv1 (As := [.int v1, .int 0]) (rest := []) Value.int e rfl rfl rfl rfl rfl rfl (fun h => d_Y_after h ⟨rfl, rfl⟩) (fun z1 e => ?_)
  refine wp_p (j := J_Y_settle) 2 (pc' := 24) (lv' := [(1, .int z1), (0, .ref v0)]) (st' := []) rfl ?_
  have e := Option.some.inj e; subst e; exact wp_lv (lv' := [(0, .ref v0), (1, .int z1)]) rfl ⟨rfl, rfl, trivial⟩ c
noncomputable def b_Y_settle_24 (v0 : Nat) (v1 : Int32) (g : g_S) : Option ((Int32 × g_S) ⊕ (g_S)) :=
  if v1 = (-1) then
    some (.inr g)
  else
    (rI g 112 v0 154).bind fun z1 =>
    if z1 = 0 then
      (rQ g 112 v0 46).bind fun z2 =>
      (aI g 0 z2 v1).bind fun z3 =>
      if z3 = 17 then
        k_Y_settle_64 v0 v1 g
      else
        (vc g 112 v0 (M_Y_attributeOf v0 v1 135770575 g)).bind fun z4 =>
        if z4 = (-1) then
          k_Y_settle_64 v0 v1 g
        else
          (vc g 112 v0 (M_Y_onWay v0 v1 g)).bind fun g5 =>
          k_Y_settle_64 v0 v1 g5
    else
      some (.inr g)
set_option maxRecDepth 20000 in
theorem y_Y_settle_24 {L : Nat} {xs : Nat → Int32} {Q : Option Value → ab_H → Prop} {v0 : Nat} {v1 : Int32} {g : g_S} {out : (Int32 × g_S) ⊕ (g_S)} (e : b_Y_settle_24 v0 v1 g = some out) (c : cL_Y_settle_24 L xs Q v0 out) : wp (ab_ext L xs) J_Y_settle 24 [(0, .ref v0), (1, .int v1)] [] (hp g) Q := by
  unfold b_Y_settle_24 at e
  refine wp_p (j := J_Y_settle) 2 (pc' := 26) (lv' := [(0, .ref v0), (1, .int v1)]) (st' := [.int (-1), .int v1]) rfl ?_
  refine x_eq e rfl (fun e => ?_) (fun e => ?_)
  · have e := Option.some.inj e; subst e; exact wp_lv (lv' := [(0, .ref v0)]) rfl ⟨rfl, trivial⟩ c
  · refine wp_p (j := J_Y_settle) 1 (pc' := 30) (lv' := [(0, .ref v0), (1, .int v1)]) (st' := [.ref v0]) rfl ?_
    refine x_gI e rfl rfl fd_12_154 rfl (fun z1 e => ?_)
    refine z_ne e rfl (fun e => ?_) (fun e => ?_)
    · refine wp_p (j := J_Y_settle) 1 (pc' := 37) (lv' := [(0, .ref v0), (1, .int v1)]) (st' := [.ref v0]) rfl ?_
      refine x_gQ e rfl rfl fd_12_46 rfl (fun z2 e => ?_)
      refine wp_p (j := J_Y_settle) 1 (pc' := 41) (lv' := [(0, .ref v0), (1, .int v1)]) (st' := [.int v1, .ref z2]) rfl ?_
      refine x_aI e rfl rfl (fun z3 e => ?_)
      refine wp_p (j := J_Y_settle) 1 (pc' := 44) (lv' := [(0, .ref v0), (1, .int v1)]) (st' := [.int 17, .int z3]) rfl ?_
      refine x_eq e rfl (fun e => ?_) (fun e => ?_)
      · exact wp_lv (lv' := [(0, .ref v0), (1, .int v1)]) rfl ⟨rfl, rfl, trivial⟩ (x_Y_settle_64 e c)
      · refine wp_p (j := J_Y_settle) 2 (pc' := 49) (lv' := [(0, .ref v0), (1, .int v1)]) (st' := [.int v1, .ref v0]) rfl ?_
        refine x_l2 (xl := 135770575) rfl rfl rfl ?_
        refine x_cv1 (As := [.int v1, .long 135770575]) (rest := []) Value.int e rfl rfl rfl rfl rfl rfl (fun h => d_Y_attributeOf h ⟨rfl, rfl⟩) (fun z4 e => ?_)
        refine wp_p (j := J_Y_settle) 1 (pc' := 56) (lv' := [(0, .ref v0), (1, .int v1)]) (st' := [.int (-1), .int z4]) rfl ?_
        refine x_eq e rfl (fun e => ?_) (fun e => ?_)
        · exact wp_lv (lv' := [(0, .ref v0), (1, .int v1)]) rfl ⟨rfl, rfl, trivial⟩ (x_Y_settle_64 e c)
        · refine wp_p (j := J_Y_settle) 2 (pc' := 61) (lv' := [(0, .ref v0), (1, .int v1)]) (st' := [.int v1, .ref v0]) rfl ?_
          refine x_cv0 (As := [.int v1]) (rest := []) e rfl rfl rfl rfl rfl rfl (fun h => d_Y_onWay h ⟨rfl, rfl⟩) (fun g5 e => ?_)
          exact wp_lv (lv' := [(0, .ref v0), (1, .int v1)]) rfl ⟨rfl, rfl, trivial⟩ (x_Y_settle_64 e c)
    · have e := Option.some.inj e; subst e; exact wp_lv (lv' := [(0, .ref v0)]) rfl ⟨rfl, trivial⟩ c
noncomputable def L_Y_settle_24 (v0 : Nat) (v1 : Int32) (g : g_S) : Option (g_S) := it (fun s : Int32 × g_S => b_Y_settle_24 v0 s.1 s.2) (v1, g)
theorem l_Y_settle_24 {L : Nat} {xs : Nat → Int32} {Q : Option Value → ab_H → Prop} {v0 : Nat} {v1 : Int32} {g : g_S} {r : g_S} (e : L_Y_settle_24 v0 v1 g = some r) (c : cL_Y_settle_24 L xs Q v0 (.inr r)) : wp (ab_ext L xs) J_Y_settle 24 [(0, .ref v0), (1, .int v1)] [] (hp g) Q :=
  it_wp (P := fun s : Int32 × g_S => wp (ab_ext L xs) J_Y_settle 24 [(0, .ref v0), (1, .int s.1)] [] (hp s.2) Q) (E := fun r => cL_Y_settle_24 L xs Q v0 (.inr r)) (fun s out e c => y_Y_settle_24 e (by cases out <;> exact c)) e c
theorem L_Y_settle_24_eq (v0 : Nat) (v1 : Int32) (g : g_S) : L_Y_settle_24 v0 v1 g = itc (b_Y_settle_24 v0 v1 g) (fun s => L_Y_settle_24 v0 s.1 s.2) := it_eq2 (fun s : Int32 × g_S => b_Y_settle_24 v0 s.1 s.2) (v1, g)
def cL_Y_settle_0 (L : Nat) (xs : Nat → Int32) (Q : Option Value → ab_H → Prop) (v0 : Nat) (out : (g_S) ⊕ (g_S)) : Prop := match out with
  | .inl s => wp (ab_ext L xs) J_Y_settle 0 [(0, .ref v0)] [] (hp s) Q
  | .inr s => wp (ab_ext L xs) J_Y_settle 123 [(0, .ref v0)] [] (hp s) Q
noncomputable def k_Y_settle_74 (v0 : Nat) (g : g_S) : Option ((g_S) ⊕ (g_S)) :=
  (L_Y_settle_76 v0 0 g).bind <| fun g3 =>
  some (.inl g3)
set_option maxRecDepth 20000 in
theorem x_Y_settle_74 {L : Nat} {xs : Nat → Int32} {Q : Option Value → ab_H → Prop} {v0 : Nat} {g : g_S} {out : (g_S) ⊕ (g_S)} (e : k_Y_settle_74 v0 g = some out) (c : cL_Y_settle_0 L xs Q v0 out) : wp (ab_ext L xs) J_Y_settle 74 [(0, .ref v0)] [] (hp g) Q := by
  unfold k_Y_settle_74 at e
  refine wp_p (j := J_Y_settle) 2 (pc' := 76) (lv' := [(1, .int 0), (0, .ref v0)]) (st' := []) rfl ?_
  obtain ⟨g3, h2, e⟩ := bd e
  refine wp_lv (lv' := [(0, .ref v0), (1, .int 0)]) rfl ⟨rfl, rfl, trivial⟩ ?_
  refine l_Y_settle_76 h2 ?_
  show wp (ab_ext L xs) J_Y_settle 120 [(0, .ref v0)] [] (hp g3) Q
  refine wp_p (j := J_Y_settle) 1 (pc' := 0) (lv' := [(0, .ref v0)]) (st' := []) rfl ?_
  have e := Option.some.inj e; subst e; exact wp_lv (lv' := [(0, .ref v0)]) rfl ⟨rfl, trivial⟩ c
noncomputable def b_Y_settle_0 (v0 : Nat) (g : g_S) : Option ((g_S) ⊕ (g_S)) :=
  (rI g 112 v0 153).bind fun z1 =>
  if z1 = 0 then
    some (.inr g)
  else
    (wZ g 112 v0 153 0).bind fun g2 =>
    (wZ g2 112 v0 152 0).bind fun g3 =>
    (wI g3 112 v0 181 0).bind fun g4 =>
    (L_Y_settle_24 v0 0 g4).bind <| fun g7 =>
    k_Y_settle_74 v0 g7
set_option maxRecDepth 20000 in
theorem y_Y_settle_0 {L : Nat} {xs : Nat → Int32} {Q : Option Value → ab_H → Prop} {v0 : Nat} {g : g_S} {out : (g_S) ⊕ (g_S)} (e : b_Y_settle_0 v0 g = some out) (c : cL_Y_settle_0 L xs Q v0 out) : wp (ab_ext L xs) J_Y_settle 0 [(0, .ref v0)] [] (hp g) Q := by
  unfold b_Y_settle_0 at e
  refine wp_p (j := J_Y_settle) 1 (pc' := 1) (lv' := [(0, .ref v0)]) (st' := [.ref v0]) rfl ?_
  refine x_gI e rfl rfl fd_12_153 rfl (fun z1 e => ?_)
  refine z_eq e rfl (fun e => ?_) (fun e => ?_)
  · have e := Option.some.inj e; subst e; exact wp_lv (lv' := [(0, .ref v0)]) rfl ⟨rfl, trivial⟩ c
  · refine wp_p (j := J_Y_settle) 2 (pc' := 9) (lv' := [(0, .ref v0)]) (st' := [.int 0, .ref v0]) rfl ?_
    refine x_pZ e rfl rfl fw_12_153 rfl (fun g2 e => ?_)
    refine wp_p (j := J_Y_settle) 2 (pc' := 14) (lv' := [(0, .ref v0)]) (st' := [.int 0, .ref v0]) rfl ?_
    refine x_pZ e rfl rfl fw_12_152 rfl (fun g3 e => ?_)
    refine wp_p (j := J_Y_settle) 2 (pc' := 19) (lv' := [(0, .ref v0)]) (st' := [.int 0, .ref v0]) rfl ?_
    refine x_pI e rfl rfl fw_12_181 rfl (fun g4 e => ?_)
    refine wp_p (j := J_Y_settle) 2 (pc' := 24) (lv' := [(1, .int 0), (0, .ref v0)]) (st' := []) rfl ?_
    obtain ⟨g7, h6, e⟩ := bd e
    refine wp_lv (lv' := [(0, .ref v0), (1, .int 0)]) rfl ⟨rfl, rfl, trivial⟩ ?_
    refine l_Y_settle_24 h6 ?_
    show wp (ab_ext L xs) J_Y_settle 74 [(0, .ref v0)] [] (hp g7) Q
    exact wp_lv (lv' := [(0, .ref v0)]) rfl ⟨rfl, trivial⟩ (x_Y_settle_74 e c)
noncomputable def L_Y_settle_0 (v0 : Nat) (g : g_S) : Option (g_S) := it (fun s : g_S => b_Y_settle_0 v0 s) (g)
theorem l_Y_settle_0 {L : Nat} {xs : Nat → Int32} {Q : Option Value → ab_H → Prop} {v0 : Nat} {g : g_S} {r : g_S} (e : L_Y_settle_0 v0 g = some r) (c : cL_Y_settle_0 L xs Q v0 (.inr r)) : wp (ab_ext L xs) J_Y_settle 0 [(0, .ref v0)] [] (hp g) Q :=
  it_wp (P := fun s : g_S => wp (ab_ext L xs) J_Y_settle 0 [(0, .ref v0)] [] (hp s) Q) (E := fun r => cL_Y_settle_0 L xs Q v0 (.inr r)) (fun s out e c => y_Y_settle_0 e (by cases out <;> exact c)) e c
theorem L_Y_settle_0_eq (v0 : Nat) (g : g_S) : L_Y_settle_0 v0 g = itc (b_Y_settle_0 v0 g) (fun s => L_Y_settle_0 v0 s) := it_eq2 (fun s : g_S => b_Y_settle_0 v0 s) (g)
noncomputable def M_Y_settle (v0 : Nat) (g : g_S) : Option g_S :=
  (L_Y_settle_0 v0 g).bind <| fun g3 =>
  (wZ g3 112 v0 152 0).bind fun g4 =>
  some g4
set_option maxRecDepth 20000 in
theorem d_Y_settle {L : Nat} {xs : Nat → Int32} {Q : Option Value → ab_H → Prop} {v0 : Nat} {g : g_S} {out : g_S} (e : M_Y_settle v0 g = some out) (c : Q none (hp out)) : mw (ab_ext L xs) J_Y_settle [.ref v0] (hp g) Q := by
  unfold M_Y_settle at e
  obtain ⟨g3, h2, e⟩ := bd e
  refine wp_lv (lv' := [(0, .ref v0)]) rfl ⟨rfl, trivial⟩ ?_
  refine l_Y_settle_0 h2 ?_
  show wp (ab_ext L xs) J_Y_settle 123 [(0, .ref v0)] [] (hp g3) Q
  refine wp_p (j := J_Y_settle) 2 (pc' := 125) (lv' := [(0, .ref v0)]) (st' := [.int 0, .ref v0]) rfl ?_
  refine x_pZ e rfl rfl fw_12_152 rfl (fun g4 e => ?_)
  have e := Option.some.inj e; subst e; exact wp_vret rfl rfl c
noncomputable def M_Y_visit (v0 : Nat) (g : g_S) : Option (Int32 × g_S) :=
  c2 (vc g 112 v0 (M_Y_take v0 g)) fun z1 g2 =>
  if z1 < 0 then
    c2 (vc g2 112 v0 (M_Y_resolve0 v0 g2)) fun z3 g4 =>
    if z3 = 0 then
      some ((-1), g4)
    else
      (vc g4 112 v0 (M_Y_begin v0 g4)).bind fun g5 =>
      (vc g5 112 v0 (M_Y_visitResult v0 g5)).bind fun g6 =>
      (vc g6 112 v0 (M_Y_settle v0 g6)).bind fun g7 =>
      some (1, g7)
  else
    (M_Y_wrong z1 g2).bind fun z8 =>
    some (z8, g2)
set_option maxRecDepth 20000 in
theorem d_Y_visit {L : Nat} {xs : Nat → Int32} {Q : Option Value → ab_H → Prop} {v0 : Nat} {g : g_S} {out : Int32 × g_S} (e : M_Y_visit v0 g = some out) (c : Q (some (.int out.1)) (hp out.2)) : mw (ab_ext L xs) J_Y_visit [.ref v0] (hp g) Q := by
  unfold M_Y_visit at e
  refine wp_p (j := J_Y_visit) 1 (pc' := 1) (lv' := [(0, .ref v0)]) (st' := [.ref v0]) rfl ?_
  refine x_cv2 (As := []) (rest := []) Value.int e rfl rfl rfl rfl rfl rfl (fun h => d_Y_take h ⟨rfl, rfl⟩) (fun z1 g2 e => ?_)
  refine wp_p (j := J_Y_visit) 2 (pc' := 6) (lv' := [(1, .int z1), (0, .ref v0)]) (st' := [.int z1]) rfl ?_
  refine z_lt e rfl (fun e => ?_) (fun e => ?_)
  · refine wp_p (j := J_Y_visit) 1 (pc' := 15) (lv' := [(1, .int z1), (0, .ref v0)]) (st' := [.ref v0]) rfl ?_
    refine x_cv2 (As := []) (rest := []) Value.int e rfl rfl rfl rfl rfl rfl (fun h => d_Y_resolve0 h ⟨rfl, rfl⟩) (fun z3 g4 e => ?_)
    refine z_ne e rfl (fun e => ?_) (fun e => ?_)
    · refine wp_p (j := J_Y_visit) 1 (pc' := 22) (lv' := [(1, .int z1), (0, .ref v0)]) (st' := [.int (-1)]) rfl ?_
      have e := Option.some.inj e; subst e; exact wp_iret (ty := .int) rfl rfl rfl c
    · refine wp_p (j := J_Y_visit) 1 (pc' := 24) (lv' := [(1, .int z1), (0, .ref v0)]) (st' := [.ref v0]) rfl ?_
      refine x_cv0 (As := []) (rest := []) e rfl rfl rfl rfl rfl rfl (fun h => d_Y_begin h ⟨rfl, rfl⟩) (fun g5 e => ?_)
      refine wp_p (j := J_Y_visit) 1 (pc' := 28) (lv' := [(1, .int z1), (0, .ref v0)]) (st' := [.ref v0]) rfl ?_
      refine x_cv0 (As := []) (rest := []) e rfl rfl rfl rfl rfl rfl (fun h => d_Y_visitResult h ⟨rfl, rfl⟩) (fun g6 e => ?_)
      refine wp_p (j := J_Y_visit) 1 (pc' := 32) (lv' := [(1, .int z1), (0, .ref v0)]) (st' := [.ref v0]) rfl ?_
      refine x_cv0 (As := []) (rest := []) e rfl rfl rfl rfl rfl rfl (fun h => d_Y_settle h ⟨rfl, rfl⟩) (fun g7 e => ?_)
      refine wp_p (j := J_Y_visit) 1 (pc' := 36) (lv' := [(1, .int z1), (0, .ref v0)]) (st' := [.int 1]) rfl ?_
      have e := Option.some.inj e; subst e; exact wp_iret (ty := .int) rfl rfl rfl c
  · refine wp_p (j := J_Y_visit) 1 (pc' := 10) (lv' := [(1, .int z1), (0, .ref v0)]) (st' := [.int z1]) rfl ?_
    refine x_cs1 (As := [.int z1]) (rest := []) Value.int e rfl rfl rfl rfl rfl (fun h => d_Y_wrong h ⟨rfl, rfl⟩) (fun z8 e => ?_)
    have e := Option.some.inj e; subst e; exact wp_iret (ty := .int) rfl rfl rfl c
def cL_Y_page_28 (L : Nat) (xs : Nat → Int32) (Q : Option Value → ab_H → Prop) (v0 : Nat) (out : (Int32 × g_S) ⊕ (g_S)) : Prop := match out with
  | .inl s => wp (ab_ext L xs) J_Y_page 28 [(0, .ref v0), (2, .int s.1)] [] (hp s.2) Q
  | .inr s => wp (ab_ext L xs) J_Y_page 54 [(0, .ref v0)] [] (hp s) Q
noncomputable def b_Y_page_28 (v0 : Nat) (v2 : Int32) (g : g_S) : Option ((Int32 × g_S) ⊕ (g_S)) :=
  (rI g 112 v0 3).bind fun z1 =>
  if v2 < z1 then
    (rQ g 112 v0 75).bind fun z2 =>
    (rQ g 112 v0 2).bind fun z3 =>
    (aI g 1 z3 v2).bind fun z4 =>
    (sB g z2 v2 z4).bind fun g5 =>
    some (.inl (v2 + 1, g5))
  else
    some (.inr g)
set_option maxRecDepth 20000 in
theorem y_Y_page_28 {L : Nat} {xs : Nat → Int32} {Q : Option Value → ab_H → Prop} {v0 : Nat} {v2 : Int32} {g : g_S} {out : (Int32 × g_S) ⊕ (g_S)} (e : b_Y_page_28 v0 v2 g = some out) (c : cL_Y_page_28 L xs Q v0 out) : wp (ab_ext L xs) J_Y_page 28 [(0, .ref v0), (2, .int v2)] [] (hp g) Q := by
  unfold b_Y_page_28 at e
  refine wp_p (j := J_Y_page) 2 (pc' := 30) (lv' := [(0, .ref v0), (2, .int v2)]) (st' := [.ref v0, .int v2]) rfl ?_
  refine x_gI e rfl rfl fd_12_3 rfl (fun z1 e => ?_)
  refine x_ge e rfl (fun e => ?_) (fun e => ?_)
  · refine wp_p (j := J_Y_page) 1 (pc' := 37) (lv' := [(0, .ref v0), (2, .int v2)]) (st' := [.ref v0]) rfl ?_
    refine x_gQ e rfl rfl fd_12_75 rfl (fun z2 e => ?_)
    refine wp_p (j := J_Y_page) 2 (pc' := 42) (lv' := [(0, .ref v0), (2, .int v2)]) (st' := [.ref v0, .int v2, .ref z2]) rfl ?_
    refine x_gQ e rfl rfl fd_12_2 rfl (fun z3 e => ?_)
    refine wp_p (j := J_Y_page) 1 (pc' := 46) (lv' := [(0, .ref v0), (2, .int v2)]) (st' := [.int v2, .ref z3, .int v2, .ref z2]) rfl ?_
    refine x_aB e rfl (.inl rfl) rfl (fun z4 e => ?_)
    refine x_sB e rfl rfl (fun g5 e => ?_)
    refine wp_p (j := J_Y_page) 2 (pc' := 28) (lv' := [(2, .int (v2 + 1)), (0, .ref v0)]) (st' := []) rfl ?_
    have e := Option.some.inj e; subst e; exact wp_lv (lv' := [(0, .ref v0), (2, .int (v2 + 1))]) rfl ⟨rfl, rfl, trivial⟩ c
  · have e := Option.some.inj e; subst e; exact wp_lv (lv' := [(0, .ref v0)]) rfl ⟨rfl, trivial⟩ c
noncomputable def L_Y_page_28 (v0 : Nat) (v2 : Int32) (g : g_S) : Option (g_S) := it (fun s : Int32 × g_S => b_Y_page_28 v0 s.1 s.2) (v2, g)
theorem l_Y_page_28 {L : Nat} {xs : Nat → Int32} {Q : Option Value → ab_H → Prop} {v0 : Nat} {v2 : Int32} {g : g_S} {r : g_S} (e : L_Y_page_28 v0 v2 g = some r) (c : cL_Y_page_28 L xs Q v0 (.inr r)) : wp (ab_ext L xs) J_Y_page 28 [(0, .ref v0), (2, .int v2)] [] (hp g) Q :=
  it_wp (P := fun s : Int32 × g_S => wp (ab_ext L xs) J_Y_page 28 [(0, .ref v0), (2, .int s.1)] [] (hp s.2) Q) (E := fun r => cL_Y_page_28 L xs Q v0 (.inr r)) (fun s out e c => y_Y_page_28 e (by cases out <;> exact c)) e c
theorem L_Y_page_28_eq (v0 : Nat) (v2 : Int32) (g : g_S) : L_Y_page_28 v0 v2 g = itc (b_Y_page_28 v0 v2 g) (fun s => L_Y_page_28 v0 s.1 s.2) := it_eq2 (fun s : Int32 × g_S => b_Y_page_28 v0 s.1 s.2) (v2, g)
noncomputable def M_Y_page (v0 : Nat) (g : g_S) : Option (Int32 × g_S) :=
  c2 (vc g 112 v0 (M_Y_take v0 g)) fun z1 g2 =>
  if z1 < 0 then
    (vc g2 112 v0 (M_Y_begin v0 g2)).bind fun g3 =>
    (rI g3 112 v0 3).bind fun z4 =>
    (wI g3 112 v0 76 z4).bind fun g5 =>
    (L_Y_page_28 v0 0 g5).bind <| fun g8 =>
    (vc g8 112 v0 (M_Y_newPage v0 g8)).bind fun g9 =>
    (vc g9 112 v0 (M_Y_settle v0 g9)).bind fun g10 =>
    (rI g10 112 v0 68).bind fun z11 =>
    some (z11, g10)
  else
    (M_Y_wrong z1 g2).bind fun z12 =>
    some (z12, g2)
set_option maxRecDepth 20000 in
theorem d_Y_page {L : Nat} {xs : Nat → Int32} {Q : Option Value → ab_H → Prop} {v0 : Nat} {g : g_S} {out : Int32 × g_S} (e : M_Y_page v0 g = some out) (c : Q (some (.int out.1)) (hp out.2)) : mw (ab_ext L xs) J_Y_page [.ref v0] (hp g) Q := by
  unfold M_Y_page at e
  refine wp_p (j := J_Y_page) 1 (pc' := 1) (lv' := [(0, .ref v0)]) (st' := [.ref v0]) rfl ?_
  refine x_cv2 (As := []) (rest := []) Value.int e rfl rfl rfl rfl rfl rfl (fun h => d_Y_take h ⟨rfl, rfl⟩) (fun z1 g2 e => ?_)
  refine wp_p (j := J_Y_page) 2 (pc' := 6) (lv' := [(1, .int z1), (0, .ref v0)]) (st' := [.int z1]) rfl ?_
  refine z_lt e rfl (fun e => ?_) (fun e => ?_)
  · refine wp_p (j := J_Y_page) 1 (pc' := 15) (lv' := [(1, .int z1), (0, .ref v0)]) (st' := [.ref v0]) rfl ?_
    refine x_cv0 (As := []) (rest := []) e rfl rfl rfl rfl rfl rfl (fun h => d_Y_begin h ⟨rfl, rfl⟩) (fun g3 e => ?_)
    refine wp_p (j := J_Y_page) 2 (pc' := 20) (lv' := [(1, .int z1), (0, .ref v0)]) (st' := [.ref v0, .ref v0]) rfl ?_
    refine x_gI e rfl rfl fd_12_3 rfl (fun z4 e => ?_)
    refine x_pI e rfl rfl fw_12_76 rfl (fun g5 e => ?_)
    refine wp_p (j := J_Y_page) 2 (pc' := 28) (lv' := [(2, .int 0), (1, .int z1), (0, .ref v0)]) (st' := []) rfl ?_
    obtain ⟨g8, h7, e⟩ := bd e
    refine wp_lv (lv' := [(0, .ref v0), (2, .int 0)]) rfl ⟨rfl, rfl, trivial⟩ ?_
    refine l_Y_page_28 h7 ?_
    show wp (ab_ext L xs) J_Y_page 54 [(0, .ref v0)] [] (hp g8) Q
    refine wp_p (j := J_Y_page) 1 (pc' := 55) (lv' := [(0, .ref v0)]) (st' := [.ref v0]) rfl ?_
    refine x_cv0 (As := []) (rest := []) e rfl rfl rfl rfl rfl rfl (fun h => d_Y_newPage h ⟨rfl, rfl⟩) (fun g9 e => ?_)
    refine wp_p (j := J_Y_page) 1 (pc' := 59) (lv' := [(0, .ref v0)]) (st' := [.ref v0]) rfl ?_
    refine x_cv0 (As := []) (rest := []) e rfl rfl rfl rfl rfl rfl (fun h => d_Y_settle h ⟨rfl, rfl⟩) (fun g10 e => ?_)
    refine wp_p (j := J_Y_page) 1 (pc' := 63) (lv' := [(0, .ref v0)]) (st' := [.ref v0]) rfl ?_
    refine x_gI e rfl rfl fd_12_68 rfl (fun z11 e => ?_)
    have e := Option.some.inj e; subst e; exact wp_iret (ty := .int) rfl rfl rfl c
  · refine wp_p (j := J_Y_page) 1 (pc' := 10) (lv' := [(1, .int z1), (0, .ref v0)]) (st' := [.int z1]) rfl ?_
    refine x_cs1 (As := [.int z1]) (rest := []) Value.int e rfl rfl rfl rfl rfl (fun h => d_Y_wrong h ⟨rfl, rfl⟩) (fun z12 e => ?_)
    have e := Option.some.inj e; subst e; exact wp_iret (ty := .int) rfl rfl rfl c
noncomputable def M_Y_history (v0 : Nat) (v1 : Int32) (g : g_S) : Option (Int32 × g_S) :=
  (rI g 112 v0 149).bind fun z1 =>
  if (lg_cmp ((Int32.toInt64 z1) + (Int32.toInt64 v1)) 0) < 0 then
    some ((-1), g)
  else
    (rI g 112 v0 148).bind fun z2 =>
    if (lg_cmp ((Int32.toInt64 z1) + (Int32.toInt64 v1)) (Int32.toInt64 z2)) < 0 then
      (vc g 112 v0 (M_Y_begin v0 g)).bind fun g3 =>
      (wI g3 112 v0 149 (Int64.toInt32 ((Int32.toInt64 z1) + (Int32.toInt64 v1)))).bind fun g4 =>
      (rI g4 112 v0 149).bind fun z5 =>
      (vc g4 112 v0 (M_Y_copyRow v0 0 (26 + z5) g4)).bind fun g6 =>
      (vc g6 112 v0 (M_Y_goTo v0 g6)).bind fun g7 =>
      (vc g7 112 v0 (M_Y_settle v0 g7)).bind fun g8 =>
      (rI g8 112 v0 149).bind fun z9 =>
      some (z9, g8)
    else
      some ((-1), g)
set_option maxRecDepth 20000 in
theorem d_Y_history {L : Nat} {xs : Nat → Int32} {Q : Option Value → ab_H → Prop} {v0 : Nat} {v1 : Int32} {g : g_S} {out : Int32 × g_S} (e : M_Y_history v0 v1 g = some out) (c : Q (some (.int out.1)) (hp out.2)) : mw (ab_ext L xs) J_Y_history [.ref v0, .int v1] (hp g) Q := by
  unfold M_Y_history at e
  refine wp_p (j := J_Y_history) 1 (pc' := 1) (lv' := [(0, .ref v0), (1, .int v1)]) (st' := [.ref v0]) rfl ?_
  refine x_gI e rfl rfl fd_12_149 rfl (fun z1 e => ?_)
  refine wp_p (j := J_Y_history) 8 (pc' := 12) (lv' := [(2, .long ((Int32.toInt64 z1) + (Int32.toInt64 v1))), (0, .ref v0), (1, .int v1)]) (st' := [.int (lg_cmp ((Int32.toInt64 z1) + (Int32.toInt64 v1)) 0)]) rfl ?_
  refine z_lt e rfl (fun e => ?_) (fun e => ?_)
  · refine wp_p (j := J_Y_history) 1 (pc' := 26) (lv' := [(2, .long ((Int32.toInt64 z1) + (Int32.toInt64 v1))), (0, .ref v0), (1, .int v1)]) (st' := [.int (-1)]) rfl ?_
    have e := Option.some.inj e; subst e; exact wp_iret (ty := .int) rfl rfl rfl c
  · refine wp_p (j := J_Y_history) 2 (pc' := 17) (lv' := [(2, .long ((Int32.toInt64 z1) + (Int32.toInt64 v1))), (0, .ref v0), (1, .int v1)]) (st' := [.ref v0, .long ((Int32.toInt64 z1) + (Int32.toInt64 v1))]) rfl ?_
    refine x_gI e rfl rfl fd_12_148 rfl (fun z2 e => ?_)
    refine wp_p (j := J_Y_history) 2 (pc' := 22) (lv' := [(2, .long ((Int32.toInt64 z1) + (Int32.toInt64 v1))), (0, .ref v0), (1, .int v1)]) (st' := [.int (lg_cmp ((Int32.toInt64 z1) + (Int32.toInt64 v1)) (Int32.toInt64 z2))]) rfl ?_
    refine z_lt e rfl (fun e => ?_) (fun e => ?_)
    · refine wp_p (j := J_Y_history) 1 (pc' := 28) (lv' := [(2, .long ((Int32.toInt64 z1) + (Int32.toInt64 v1))), (0, .ref v0), (1, .int v1)]) (st' := [.ref v0]) rfl ?_
      refine x_cv0 (As := []) (rest := []) e rfl rfl rfl rfl rfl rfl (fun h => d_Y_begin h ⟨rfl, rfl⟩) (fun g3 e => ?_)
      refine wp_p (j := J_Y_history) 3 (pc' := 34) (lv' := [(2, .long ((Int32.toInt64 z1) + (Int32.toInt64 v1))), (0, .ref v0), (1, .int v1)]) (st' := [.int (Int64.toInt32 ((Int32.toInt64 z1) + (Int32.toInt64 v1))), .ref v0]) rfl ?_
      refine x_pI e rfl rfl fw_12_149 rfl (fun g4 e => ?_)
      refine wp_p (j := J_Y_history) 4 (pc' := 42) (lv' := [(2, .long ((Int32.toInt64 z1) + (Int32.toInt64 v1))), (0, .ref v0), (1, .int v1)]) (st' := [.ref v0, .int 26, .int 0, .ref v0]) rfl ?_
      refine x_gI e rfl rfl fd_12_149 rfl (fun z5 e => ?_)
      refine wp_p (j := J_Y_history) 1 (pc' := 46) (lv' := [(2, .long ((Int32.toInt64 z1) + (Int32.toInt64 v1))), (0, .ref v0), (1, .int v1)]) (st' := [.int (26 + z5), .int 0, .ref v0]) rfl ?_
      refine x_cv0 (As := [.int 0, .int (26 + z5)]) (rest := []) e rfl rfl rfl rfl rfl rfl (fun h => d_Y_copyRow h ⟨rfl, rfl⟩) (fun g6 e => ?_)
      refine wp_p (j := J_Y_history) 1 (pc' := 50) (lv' := [(2, .long ((Int32.toInt64 z1) + (Int32.toInt64 v1))), (0, .ref v0), (1, .int v1)]) (st' := [.ref v0]) rfl ?_
      refine x_cv0 (As := []) (rest := []) e rfl rfl rfl rfl rfl rfl (fun h => d_Y_goTo h ⟨rfl, rfl⟩) (fun g7 e => ?_)
      refine wp_p (j := J_Y_history) 1 (pc' := 54) (lv' := [(2, .long ((Int32.toInt64 z1) + (Int32.toInt64 v1))), (0, .ref v0), (1, .int v1)]) (st' := [.ref v0]) rfl ?_
      refine x_cv0 (As := []) (rest := []) e rfl rfl rfl rfl rfl rfl (fun h => d_Y_settle h ⟨rfl, rfl⟩) (fun g8 e => ?_)
      refine wp_p (j := J_Y_history) 1 (pc' := 58) (lv' := [(2, .long ((Int32.toInt64 z1) + (Int32.toInt64 v1))), (0, .ref v0), (1, .int v1)]) (st' := [.ref v0]) rfl ?_
      refine x_gI e rfl rfl fd_12_149 rfl (fun z9 e => ?_)
      have e := Option.some.inj e; subst e; exact wp_iret (ty := .int) rfl rfl rfl c
    · refine wp_p (j := J_Y_history) 1 (pc' := 26) (lv' := [(2, .long ((Int32.toInt64 z1) + (Int32.toInt64 v1))), (0, .ref v0), (1, .int v1)]) (st' := [.int (-1)]) rfl ?_
      have e := Option.some.inj e; subst e; exact wp_iret (ty := .int) rfl rfl rfl c
noncomputable def k_Y_write_61 (v0 : Nat) (g : g_S) : Option (Int32 × g_S) :=
  (rI g 112 v0 5).bind fun z1 =>
  some (z1, g)
set_option maxRecDepth 20000 in
theorem x_Y_write_61 {L : Nat} {xs : Nat → Int32} {Q : Option Value → ab_H → Prop} {v0 : Nat} {g : g_S} {out : Int32 × g_S} (e : k_Y_write_61 v0 g = some out) (c : Q (some (.int out.1)) (hp out.2)) : wp (ab_ext L xs) J_Y_write 61 [(0, .ref v0)] [] (hp g) Q := by
  unfold k_Y_write_61 at e
  refine wp_p (j := J_Y_write) 1 (pc' := 62) (lv' := [(0, .ref v0)]) (st' := [.ref v0]) rfl ?_
  refine x_gI e rfl rfl fd_12_5 rfl (fun z1 e => ?_)
  have e := Option.some.inj e; subst e; exact wp_iret (ty := .int) rfl rfl rfl c
noncomputable def k_Y_write_58 (v0 : Nat) (w0 : Int32) (w1 : Nat) (g : g_S) : Option (Int32 × g_S) :=
  (vc g 112 w1 (M_Y_sayRow w1 w0 g)).bind fun g1 =>
  k_Y_write_61 v0 g1
set_option maxRecDepth 20000 in
theorem x_Y_write_58 {L : Nat} {xs : Nat → Int32} {Q : Option Value → ab_H → Prop} {v0 : Nat} {w0 : Int32} {w1 : Nat} {g : g_S} {out : Int32 × g_S} (e : k_Y_write_58 v0 w0 w1 g = some out) (c : Q (some (.int out.1)) (hp out.2)) : wp (ab_ext L xs) J_Y_write 58 [(0, .ref v0)] [.int w0, .ref w1] (hp g) Q := by
  unfold k_Y_write_58 at e
  refine x_cv0 (As := [.int w0]) (rest := []) e rfl rfl rfl rfl rfl rfl (fun h => d_Y_sayRow h ⟨rfl, rfl⟩) (fun g1 e => ?_)
  exact wp_lv (lv' := [(0, .ref v0)]) rfl ⟨rfl, trivial⟩ (x_Y_write_61 e c)
noncomputable def k_Y_write_48 (v0 : Nat) (v1 : Int32) (g : g_S) : Option (Int32 × g_S) :=
  if v1 = 0 then
    k_Y_write_58 v0 1 v0 g
  else
    k_Y_write_58 v0 2 v0 g
set_option maxRecDepth 20000 in
theorem x_Y_write_48 {L : Nat} {xs : Nat → Int32} {Q : Option Value → ab_H → Prop} {v0 : Nat} {v1 : Int32} {g : g_S} {out : Int32 × g_S} (e : k_Y_write_48 v0 v1 g = some out) (c : Q (some (.int out.1)) (hp out.2)) : wp (ab_ext L xs) J_Y_write 48 [(0, .ref v0), (1, .int v1)] [] (hp g) Q := by
  unfold k_Y_write_48 at e
  refine wp_p (j := J_Y_write) 2 (pc' := 50) (lv' := [(0, .ref v0), (1, .int v1)]) (st' := [.int v1, .ref v0]) rfl ?_
  refine z_ne e rfl (fun e => ?_) (fun e => ?_)
  · refine wp_p (j := J_Y_write) 2 (pc' := 58) (lv' := [(0, .ref v0), (1, .int v1)]) (st' := [.int 1, .ref v0]) rfl ?_
    exact wp_lv (lv' := [(0, .ref v0)]) rfl ⟨rfl, trivial⟩ (x_Y_write_58 e c)
  · refine wp_p (j := J_Y_write) 1 (pc' := 58) (lv' := [(0, .ref v0), (1, .int v1)]) (st' := [.int 2, .ref v0]) rfl ?_
    exact wp_lv (lv' := [(0, .ref v0)]) rfl ⟨rfl, trivial⟩ (x_Y_write_58 e c)
noncomputable def M_Y_write (v0 : Nat) (v1 : Int32) (g : g_S) : Option (Int32 × g_S) :=
  if v1 < 0 then
    some ((-1), g)
  else
    if 2 < v1 then
      some ((-1), g)
    else
      (wI g 112 v0 5 0).bind fun g1 =>
      if v1 = 2 then
        (rQ g1 112 v0 36).bind fun z2 =>
        (rI g1 112 v0 37).bind fun z3 =>
        (vc g1 112 v0 (M_Y_sayAll v0 z2 0 z3 g1)).bind fun g4 =>
        k_Y_write_61 v0 g4
      else
        if v1 = 0 then
          k_Y_write_48 v0 v1 g1
        else
          (rI g1 112 v0 35).bind fun z5 =>
          if 0 < z5 then
            k_Y_write_48 v0 v1 g1
          else
            k_Y_write_61 v0 g1
set_option maxRecDepth 20000 in
theorem d_Y_write {L : Nat} {xs : Nat → Int32} {Q : Option Value → ab_H → Prop} {v0 : Nat} {v1 : Int32} {g : g_S} {out : Int32 × g_S} (e : M_Y_write v0 v1 g = some out) (c : Q (some (.int out.1)) (hp out.2)) : mw (ab_ext L xs) J_Y_write [.ref v0, .int v1] (hp g) Q := by
  unfold M_Y_write at e
  refine wp_p (j := J_Y_write) 1 (pc' := 1) (lv' := [(0, .ref v0), (1, .int v1)]) (st' := [.int v1]) rfl ?_
  refine z_lt e rfl (fun e => ?_) (fun e => ?_)
  · refine wp_p (j := J_Y_write) 1 (pc' := 10) (lv' := [(0, .ref v0), (1, .int v1)]) (st' := [.int (-1)]) rfl ?_
    have e := Option.some.inj e; subst e; exact wp_iret (ty := .int) rfl rfl rfl c
  · refine wp_p (j := J_Y_write) 2 (pc' := 6) (lv' := [(0, .ref v0), (1, .int v1)]) (st' := [.int 2, .int v1]) rfl ?_
    refine x_le e rfl (fun e => ?_) (fun e => ?_)
    · refine wp_p (j := J_Y_write) 1 (pc' := 10) (lv' := [(0, .ref v0), (1, .int v1)]) (st' := [.int (-1)]) rfl ?_
      have e := Option.some.inj e; subst e; exact wp_iret (ty := .int) rfl rfl rfl c
    · refine wp_p (j := J_Y_write) 2 (pc' := 13) (lv' := [(0, .ref v0), (1, .int v1)]) (st' := [.int 0, .ref v0]) rfl ?_
      refine x_pI e rfl rfl fw_12_5 rfl (fun g1 e => ?_)
      refine wp_p (j := J_Y_write) 2 (pc' := 18) (lv' := [(0, .ref v0), (1, .int v1)]) (st' := [.int 2, .int v1]) rfl ?_
      refine x_ne e rfl (fun e => ?_) (fun e => ?_)
      · refine wp_p (j := J_Y_write) 2 (pc' := 23) (lv' := [(0, .ref v0), (1, .int v1)]) (st' := [.ref v0, .ref v0]) rfl ?_
        refine x_gQ e rfl rfl fd_12_36 rfl (fun z2 e => ?_)
        refine wp_p (j := J_Y_write) 2 (pc' := 28) (lv' := [(0, .ref v0), (1, .int v1)]) (st' := [.ref v0, .int 0, .ref z2, .ref v0]) rfl ?_
        refine x_gI e rfl rfl fd_12_37 rfl (fun z3 e => ?_)
        refine x_cv0 (As := [.ref z2, .int 0, .int z3]) (rest := []) e rfl rfl rfl rfl rfl rfl (fun h => d_Y_sayAll h ⟨rfl, rfl⟩) (fun g4 e => ?_)
        refine wp_p (j := J_Y_write) 1 (pc' := 61) (lv' := [(0, .ref v0), (1, .int v1)]) (st' := []) rfl ?_
        exact wp_lv (lv' := [(0, .ref v0)]) rfl ⟨rfl, trivial⟩ (x_Y_write_61 e c)
      · refine wp_p (j := J_Y_write) 1 (pc' := 38) (lv' := [(0, .ref v0), (1, .int v1)]) (st' := [.int v1]) rfl ?_
        refine z_eq e rfl (fun e => ?_) (fun e => ?_)
        · exact wp_lv (lv' := [(0, .ref v0), (1, .int v1)]) rfl ⟨rfl, rfl, trivial⟩ (x_Y_write_48 e c)
        · refine wp_p (j := J_Y_write) 1 (pc' := 42) (lv' := [(0, .ref v0), (1, .int v1)]) (st' := [.ref v0]) rfl ?_
          refine x_gI e rfl rfl fd_12_35 rfl (fun z5 e => ?_)
          refine z_le e rfl (fun e => ?_) (fun e => ?_)
          · exact wp_lv (lv' := [(0, .ref v0), (1, .int v1)]) rfl ⟨rfl, rfl, trivial⟩ (x_Y_write_48 e c)
          · exact wp_lv (lv' := [(0, .ref v0)]) rfl ⟨rfl, trivial⟩ (x_Y_write_61 e c)
def cL_Y_doTask_12 (L : Nat) (xs : Nat → Int32) (Q : Option Value → ab_H → Prop) (v0 : Nat) (v1 : Int32) (out : (Int32 × g_S) ⊕ (g_S)) : Prop := match out with
  | .inl s => wp (ab_ext L xs) J_Y_doTask 12 [(0, .ref v0), (1, .int v1), (2, .int s.1)] [] (hp s.2) Q
  | .inr s => wp (ab_ext L xs) J_Y_doTask 43 [(0, .ref v0), (1, .int v1)] [] (hp s) Q
noncomputable def b_Y_doTask_12 (v0 : Nat) (v1 : Int32) (v2 : Int32) (g : g_S) : Option ((Int32 × g_S) ⊕ (g_S)) :=
  (rI g 112 v0 160).bind fun z1 =>
  if v2 < z1 then
    (rQ g 112 v0 159).bind fun z2 =>
    (rQ g 112 v0 173).bind fun z3 =>
    (aI g 1 z3 ((60 * v1) + v2)).bind fun z4 =>
    (sB g z2 v2 z4).bind fun g5 =>
    some (.inl (v2 + 1, g5))
  else
    some (.inr g)
set_option maxRecDepth 20000 in
theorem y_Y_doTask_12 {L : Nat} {xs : Nat → Int32} {Q : Option Value → ab_H → Prop} {v0 : Nat} {v1 : Int32} {v2 : Int32} {g : g_S} {out : (Int32 × g_S) ⊕ (g_S)} (e : b_Y_doTask_12 v0 v1 v2 g = some out) (c : cL_Y_doTask_12 L xs Q v0 v1 out) : wp (ab_ext L xs) J_Y_doTask 12 [(0, .ref v0), (1, .int v1), (2, .int v2)] [] (hp g) Q := by
  unfold b_Y_doTask_12 at e
  refine wp_p (j := J_Y_doTask) 2 (pc' := 14) (lv' := [(0, .ref v0), (1, .int v1), (2, .int v2)]) (st' := [.ref v0, .int v2]) rfl ?_
  refine x_gI e rfl rfl fd_12_160 rfl (fun z1 e => ?_)
  refine x_ge e rfl (fun e => ?_) (fun e => ?_)
  · refine wp_p (j := J_Y_doTask) 1 (pc' := 21) (lv' := [(0, .ref v0), (1, .int v1), (2, .int v2)]) (st' := [.ref v0]) rfl ?_
    refine x_gQ e rfl rfl fd_12_159 rfl (fun z2 e => ?_)
    refine wp_p (j := J_Y_doTask) 2 (pc' := 26) (lv' := [(0, .ref v0), (1, .int v1), (2, .int v2)]) (st' := [.ref v0, .int v2, .ref z2]) rfl ?_
    refine x_gQ e rfl rfl fd_12_173 rfl (fun z3 e => ?_)
    refine wp_p (j := J_Y_doTask) 5 (pc' := 35) (lv' := [(0, .ref v0), (1, .int v1), (2, .int v2)]) (st' := [.int ((60 * v1) + v2), .ref z3, .int v2, .ref z2]) rfl ?_
    refine x_aB e rfl (.inl rfl) rfl (fun z4 e => ?_)
    refine x_sB e rfl rfl (fun g5 e => ?_)
    refine wp_p (j := J_Y_doTask) 2 (pc' := 12) (lv' := [(2, .int (v2 + 1)), (0, .ref v0), (1, .int v1)]) (st' := []) rfl ?_
    have e := Option.some.inj e; subst e; exact wp_lv (lv' := [(0, .ref v0), (1, .int v1), (2, .int (v2 + 1))]) rfl ⟨rfl, rfl, rfl, trivial⟩ c
  · have e := Option.some.inj e; subst e; exact wp_lv (lv' := [(0, .ref v0), (1, .int v1)]) rfl ⟨rfl, rfl, trivial⟩ c
noncomputable def L_Y_doTask_12 (v0 : Nat) (v1 : Int32) (v2 : Int32) (g : g_S) : Option (g_S) := it (fun s : Int32 × g_S => b_Y_doTask_12 v0 v1 s.1 s.2) (v2, g)
theorem l_Y_doTask_12 {L : Nat} {xs : Nat → Int32} {Q : Option Value → ab_H → Prop} {v0 : Nat} {v1 : Int32} {v2 : Int32} {g : g_S} {r : g_S} (e : L_Y_doTask_12 v0 v1 v2 g = some r) (c : cL_Y_doTask_12 L xs Q v0 v1 (.inr r)) : wp (ab_ext L xs) J_Y_doTask 12 [(0, .ref v0), (1, .int v1), (2, .int v2)] [] (hp g) Q :=
  it_wp (P := fun s : Int32 × g_S => wp (ab_ext L xs) J_Y_doTask 12 [(0, .ref v0), (1, .int v1), (2, .int s.1)] [] (hp s.2) Q) (E := fun r => cL_Y_doTask_12 L xs Q v0 v1 (.inr r)) (fun s out e c => y_Y_doTask_12 e (by cases out <;> exact c)) e c
theorem L_Y_doTask_12_eq (v0 : Nat) (v1 : Int32) (v2 : Int32) (g : g_S) : L_Y_doTask_12 v0 v1 v2 g = itc (b_Y_doTask_12 v0 v1 v2 g) (fun s => L_Y_doTask_12 v0 v1 s.1 s.2) := it_eq2 (fun s : Int32 × g_S => b_Y_doTask_12 v0 v1 s.1 s.2) (v2, g)
def cL_Y_doTask_155 (L : Nat) (xs : Nat → Int32) (Q : Option Value → ab_H → Prop) (v0 : Nat) (v2 : Int32) (out : (Int32 × g_S) ⊕ (g_S)) : Prop := match out with
  | .inl s => wp (ab_ext L xs) J_Y_doTask 155 [(0, .ref v0), (2, .int v2), (3, .int s.1)] [] (hp s.2) Q
  | .inr s => wp (ab_ext L xs) J_Y_doTask 191 [(0, .ref v0), (2, .int v2)] [] (hp s) Q
noncomputable def b_Y_doTask_155 (v0 : Nat) (v2 : Int32) (v3 : Int32) (g : g_S) : Option ((Int32 × g_S) ⊕ (g_S)) :=
  if v3 < 60 then
    (rQ g 112 v0 173).bind fun z1 =>
    (rQ g 112 v0 173).bind fun z2 =>
    (aI g 1 z2 ((60 * (v2 + 1)) + v3)).bind fun z3 =>
    (sB g z1 ((60 * v2) + v3) z3).bind fun g4 =>
    some (.inl (v3 + 1, g4))
  else
    some (.inr g)
set_option maxRecDepth 20000 in
theorem y_Y_doTask_155 {L : Nat} {xs : Nat → Int32} {Q : Option Value → ab_H → Prop} {v0 : Nat} {v2 : Int32} {v3 : Int32} {g : g_S} {out : (Int32 × g_S) ⊕ (g_S)} (e : b_Y_doTask_155 v0 v2 v3 g = some out) (c : cL_Y_doTask_155 L xs Q v0 v2 out) : wp (ab_ext L xs) J_Y_doTask 155 [(0, .ref v0), (2, .int v2), (3, .int v3)] [] (hp g) Q := by
  unfold b_Y_doTask_155 at e
  refine wp_p (j := J_Y_doTask) 2 (pc' := 158) (lv' := [(0, .ref v0), (2, .int v2), (3, .int v3)]) (st' := [.int 60, .int v3]) rfl ?_
  refine x_ge e rfl (fun e => ?_) (fun e => ?_)
  · refine wp_p (j := J_Y_doTask) 1 (pc' := 162) (lv' := [(0, .ref v0), (2, .int v2), (3, .int v3)]) (st' := [.ref v0]) rfl ?_
    refine x_gQ e rfl rfl fd_12_173 rfl (fun z1 e => ?_)
    refine wp_p (j := J_Y_doTask) 6 (pc' := 172) (lv' := [(0, .ref v0), (2, .int v2), (3, .int v3)]) (st' := [.ref v0, .int ((60 * v2) + v3), .ref z1]) rfl ?_
    refine x_gQ e rfl rfl fd_12_173 rfl (fun z2 e => ?_)
    refine wp_p (j := J_Y_doTask) 7 (pc' := 183) (lv' := [(0, .ref v0), (2, .int v2), (3, .int v3)]) (st' := [.int ((60 * (v2 + 1)) + v3), .ref z2, .int ((60 * v2) + v3), .ref z1]) rfl ?_
    refine x_aB e rfl (.inl rfl) rfl (fun z3 e => ?_)
    refine x_sB e rfl rfl (fun g4 e => ?_)
    refine wp_p (j := J_Y_doTask) 2 (pc' := 155) (lv' := [(3, .int (v3 + 1)), (0, .ref v0), (2, .int v2)]) (st' := []) rfl ?_
    have e := Option.some.inj e; subst e; exact wp_lv (lv' := [(0, .ref v0), (2, .int v2), (3, .int (v3 + 1))]) rfl ⟨rfl, rfl, rfl, trivial⟩ c
  · have e := Option.some.inj e; subst e; exact wp_lv (lv' := [(0, .ref v0), (2, .int v2)]) rfl ⟨rfl, rfl, trivial⟩ c
noncomputable def L_Y_doTask_155 (v0 : Nat) (v2 : Int32) (v3 : Int32) (g : g_S) : Option (g_S) := it (fun s : Int32 × g_S => b_Y_doTask_155 v0 v2 s.1 s.2) (v3, g)
theorem l_Y_doTask_155 {L : Nat} {xs : Nat → Int32} {Q : Option Value → ab_H → Prop} {v0 : Nat} {v2 : Int32} {v3 : Int32} {g : g_S} {r : g_S} (e : L_Y_doTask_155 v0 v2 v3 g = some r) (c : cL_Y_doTask_155 L xs Q v0 v2 (.inr r)) : wp (ab_ext L xs) J_Y_doTask 155 [(0, .ref v0), (2, .int v2), (3, .int v3)] [] (hp g) Q :=
  it_wp (P := fun s : Int32 × g_S => wp (ab_ext L xs) J_Y_doTask 155 [(0, .ref v0), (2, .int v2), (3, .int s.1)] [] (hp s.2) Q) (E := fun r => cL_Y_doTask_155 L xs Q v0 v2 (.inr r)) (fun s out e c => y_Y_doTask_155 e (by cases out <;> exact c)) e c
theorem L_Y_doTask_155_eq (v0 : Nat) (v2 : Int32) (v3 : Int32) (g : g_S) : L_Y_doTask_155 v0 v2 v3 g = itc (b_Y_doTask_155 v0 v2 v3 g) (fun s => L_Y_doTask_155 v0 v2 s.1 s.2) := it_eq2 (fun s : Int32 × g_S => b_Y_doTask_155 v0 v2 s.1 s.2) (v3, g)
def cL_Y_doTask_75 (L : Nat) (xs : Nat → Int32) (Q : Option Value → ab_H → Prop) (v0 : Nat) (out : (Int32 × g_S) ⊕ (g_S)) : Prop := match out with
  | .inl s => wp (ab_ext L xs) J_Y_doTask 75 [(0, .ref v0), (2, .int s.1)] [] (hp s.2) Q
  | .inr s => wp (ab_ext L xs) J_Y_doTask 197 [(0, .ref v0)] [] (hp s) Q
noncomputable def b_Y_doTask_75 (v0 : Nat) (v2 : Int32) (g : g_S) : Option ((Int32 × g_S) ⊕ (g_S)) :=
  (rI g 112 v0 166).bind fun z1 =>
  if v2 < z1 then
    (rQ g 112 v0 168).bind fun z2 =>
    (rQ g 112 v0 168).bind fun z3 =>
    (aI g 0 z3 (v2 + 1)).bind fun z4 =>
    (sI g z2 v2 z4).bind fun g5 =>
    (rQ g5 112 v0 169).bind fun z6 =>
    (rQ g5 112 v0 169).bind fun z7 =>
    (aI g5 0 z7 (v2 + 1)).bind fun z8 =>
    (sI g5 z6 v2 z8).bind fun g9 =>
    (rQ g9 112 v0 170).bind fun z10 =>
    (rQ g9 112 v0 170).bind fun z11 =>
    (aI g9 0 z11 (v2 + 1)).bind fun z12 =>
    (sI g9 z10 v2 z12).bind fun g13 =>
    (rQ g13 112 v0 171).bind fun z14 =>
    (rQ g13 112 v0 171).bind fun z15 =>
    (aI g13 0 z15 (v2 + 1)).bind fun z16 =>
    (sI g13 z14 v2 z16).bind fun g17 =>
    (rQ g17 112 v0 172).bind fun z18 =>
    (rQ g17 112 v0 172).bind fun z19 =>
    (aI g17 0 z19 (v2 + 1)).bind fun z20 =>
    (sI g17 z18 v2 z20).bind fun g21 =>
    (L_Y_doTask_155 v0 v2 0 g21).bind <| fun g24 =>
    some (.inl (v2 + 1, g24))
  else
    some (.inr g)
set_option maxRecDepth 20000 in
theorem y_Y_doTask_75 {L : Nat} {xs : Nat → Int32} {Q : Option Value → ab_H → Prop} {v0 : Nat} {v2 : Int32} {g : g_S} {out : (Int32 × g_S) ⊕ (g_S)} (e : b_Y_doTask_75 v0 v2 g = some out) (c : cL_Y_doTask_75 L xs Q v0 out) : wp (ab_ext L xs) J_Y_doTask 75 [(0, .ref v0), (2, .int v2)] [] (hp g) Q := by
  unfold b_Y_doTask_75 at e
  refine wp_p (j := J_Y_doTask) 2 (pc' := 77) (lv' := [(0, .ref v0), (2, .int v2)]) (st' := [.ref v0, .int v2]) rfl ?_
  refine x_gI e rfl rfl fd_12_166 rfl (fun z1 e => ?_)
  refine x_ge e rfl (fun e => ?_) (fun e => ?_)
  · refine wp_p (j := J_Y_doTask) 1 (pc' := 84) (lv' := [(0, .ref v0), (2, .int v2)]) (st' := [.ref v0]) rfl ?_
    refine x_gQ e rfl rfl fd_12_168 rfl (fun z2 e => ?_)
    refine wp_p (j := J_Y_doTask) 2 (pc' := 89) (lv' := [(0, .ref v0), (2, .int v2)]) (st' := [.ref v0, .int v2, .ref z2]) rfl ?_
    refine x_gQ e rfl rfl fd_12_168 rfl (fun z3 e => ?_)
    refine wp_p (j := J_Y_doTask) 3 (pc' := 95) (lv' := [(0, .ref v0), (2, .int v2)]) (st' := [.int (v2 + 1), .ref z3, .int v2, .ref z2]) rfl ?_
    refine x_aI e rfl rfl (fun z4 e => ?_)
    refine x_sI e rfl rfl (fun g5 e => ?_)
    refine wp_p (j := J_Y_doTask) 1 (pc' := 98) (lv' := [(0, .ref v0), (2, .int v2)]) (st' := [.ref v0]) rfl ?_
    refine x_gQ e rfl rfl fd_12_169 rfl (fun z6 e => ?_)
    refine wp_p (j := J_Y_doTask) 2 (pc' := 103) (lv' := [(0, .ref v0), (2, .int v2)]) (st' := [.ref v0, .int v2, .ref z6]) rfl ?_
    refine x_gQ e rfl rfl fd_12_169 rfl (fun z7 e => ?_)
    refine wp_p (j := J_Y_doTask) 3 (pc' := 109) (lv' := [(0, .ref v0), (2, .int v2)]) (st' := [.int (v2 + 1), .ref z7, .int v2, .ref z6]) rfl ?_
    refine x_aI e rfl rfl (fun z8 e => ?_)
    refine x_sI e rfl rfl (fun g9 e => ?_)
    refine wp_p (j := J_Y_doTask) 1 (pc' := 112) (lv' := [(0, .ref v0), (2, .int v2)]) (st' := [.ref v0]) rfl ?_
    refine x_gQ e rfl rfl fd_12_170 rfl (fun z10 e => ?_)
    refine wp_p (j := J_Y_doTask) 2 (pc' := 117) (lv' := [(0, .ref v0), (2, .int v2)]) (st' := [.ref v0, .int v2, .ref z10]) rfl ?_
    refine x_gQ e rfl rfl fd_12_170 rfl (fun z11 e => ?_)
    refine wp_p (j := J_Y_doTask) 3 (pc' := 123) (lv' := [(0, .ref v0), (2, .int v2)]) (st' := [.int (v2 + 1), .ref z11, .int v2, .ref z10]) rfl ?_
    refine x_aI e rfl rfl (fun z12 e => ?_)
    refine x_sI e rfl rfl (fun g13 e => ?_)
    refine wp_p (j := J_Y_doTask) 1 (pc' := 126) (lv' := [(0, .ref v0), (2, .int v2)]) (st' := [.ref v0]) rfl ?_
    refine x_gQ e rfl rfl fd_12_171 rfl (fun z14 e => ?_)
    refine wp_p (j := J_Y_doTask) 2 (pc' := 131) (lv' := [(0, .ref v0), (2, .int v2)]) (st' := [.ref v0, .int v2, .ref z14]) rfl ?_
    refine x_gQ e rfl rfl fd_12_171 rfl (fun z15 e => ?_)
    refine wp_p (j := J_Y_doTask) 3 (pc' := 137) (lv' := [(0, .ref v0), (2, .int v2)]) (st' := [.int (v2 + 1), .ref z15, .int v2, .ref z14]) rfl ?_
    refine x_aI e rfl rfl (fun z16 e => ?_)
    refine x_sI e rfl rfl (fun g17 e => ?_)
    refine wp_p (j := J_Y_doTask) 1 (pc' := 140) (lv' := [(0, .ref v0), (2, .int v2)]) (st' := [.ref v0]) rfl ?_
    refine x_gQ e rfl rfl fd_12_172 rfl (fun z18 e => ?_)
    refine wp_p (j := J_Y_doTask) 2 (pc' := 145) (lv' := [(0, .ref v0), (2, .int v2)]) (st' := [.ref v0, .int v2, .ref z18]) rfl ?_
    refine x_gQ e rfl rfl fd_12_172 rfl (fun z19 e => ?_)
    refine wp_p (j := J_Y_doTask) 3 (pc' := 151) (lv' := [(0, .ref v0), (2, .int v2)]) (st' := [.int (v2 + 1), .ref z19, .int v2, .ref z18]) rfl ?_
    refine x_aI e rfl rfl (fun z20 e => ?_)
    refine x_sI e rfl rfl (fun g21 e => ?_)
    refine wp_p (j := J_Y_doTask) 2 (pc' := 155) (lv' := [(3, .int 0), (0, .ref v0), (2, .int v2)]) (st' := []) rfl ?_
    obtain ⟨g24, h23, e⟩ := bd e
    refine wp_lv (lv' := [(0, .ref v0), (2, .int v2), (3, .int 0)]) rfl ⟨rfl, rfl, rfl, trivial⟩ ?_
    refine l_Y_doTask_155 h23 ?_
    show wp (ab_ext L xs) J_Y_doTask 191 [(0, .ref v0), (2, .int v2)] [] (hp g24) Q
    refine wp_p (j := J_Y_doTask) 2 (pc' := 75) (lv' := [(2, .int (v2 + 1)), (0, .ref v0)]) (st' := []) rfl ?_
    have e := Option.some.inj e; subst e; exact wp_lv (lv' := [(0, .ref v0), (2, .int (v2 + 1))]) rfl ⟨rfl, rfl, trivial⟩ c
  · have e := Option.some.inj e; subst e; exact wp_lv (lv' := [(0, .ref v0)]) rfl ⟨rfl, trivial⟩ c
noncomputable def L_Y_doTask_75 (v0 : Nat) (v2 : Int32) (g : g_S) : Option (g_S) := it (fun s : Int32 × g_S => b_Y_doTask_75 v0 s.1 s.2) (v2, g)
theorem l_Y_doTask_75 {L : Nat} {xs : Nat → Int32} {Q : Option Value → ab_H → Prop} {v0 : Nat} {v2 : Int32} {g : g_S} {r : g_S} (e : L_Y_doTask_75 v0 v2 g = some r) (c : cL_Y_doTask_75 L xs Q v0 (.inr r)) : wp (ab_ext L xs) J_Y_doTask 75 [(0, .ref v0), (2, .int v2)] [] (hp g) Q :=
  it_wp (P := fun s : Int32 × g_S => wp (ab_ext L xs) J_Y_doTask 75 [(0, .ref v0), (2, .int s.1)] [] (hp s.2) Q) (E := fun r => cL_Y_doTask_75 L xs Q v0 (.inr r)) (fun s out e c => y_Y_doTask_75 e (by cases out <;> exact c)) e c
theorem L_Y_doTask_75_eq (v0 : Nat) (v2 : Int32) (g : g_S) : L_Y_doTask_75 v0 v2 g = itc (b_Y_doTask_75 v0 v2 g) (fun s => L_Y_doTask_75 v0 s.1 s.2) := it_eq2 (fun s : Int32 × g_S => b_Y_doTask_75 v0 s.1 s.2) (v2, g)
noncomputable def M_Y_doTask (v0 : Nat) (v1 : Int32) (g : g_S) : Option g_S :=
  (rQ g 112 v0 172).bind fun z1 =>
  (aI g 0 z1 v1).bind fun z2 =>
  (wI g 112 v0 160 z2).bind fun g3 =>
  (L_Y_doTask_12 v0 v1 0 g3).bind <| fun g6 =>
  (rQ g6 112 v0 170).bind fun z7 =>
  (aI g6 0 z7 v1).bind fun z8 =>
  (wI g6 112 v0 161 z8).bind fun g9 =>
  (rQ g9 112 v0 171).bind fun z10 =>
  (aI g9 0 z10 v1).bind fun z11 =>
  (wI g9 112 v0 162 z11).bind fun g12 =>
  (rI g12 112 v0 166).bind fun z13 =>
  (wI g12 112 v0 166 (z13 - 1)).bind fun g14 =>
  (L_Y_doTask_75 v0 v1 g14).bind <| fun g17 =>
  (wZ g17 112 v0 163 0).bind fun g18 =>
  (vc g18 112 v0 (M_Y_runScript v0 g18)).bind fun g19 =>
  some g19
set_option maxRecDepth 20000 in
theorem d_Y_doTask {L : Nat} {xs : Nat → Int32} {Q : Option Value → ab_H → Prop} {v0 : Nat} {v1 : Int32} {g : g_S} {out : g_S} (e : M_Y_doTask v0 v1 g = some out) (c : Q none (hp out)) : mw (ab_ext L xs) J_Y_doTask [.ref v0, .int v1] (hp g) Q := by
  unfold M_Y_doTask at e
  refine wp_p (j := J_Y_doTask) 2 (pc' := 2) (lv' := [(0, .ref v0), (1, .int v1)]) (st' := [.ref v0, .ref v0]) rfl ?_
  refine x_gQ e rfl rfl fd_12_172 rfl (fun z1 e => ?_)
  refine wp_p (j := J_Y_doTask) 1 (pc' := 6) (lv' := [(0, .ref v0), (1, .int v1)]) (st' := [.int v1, .ref z1, .ref v0]) rfl ?_
  refine x_aI e rfl rfl (fun z2 e => ?_)
  refine x_pI e rfl rfl fw_12_160 rfl (fun g3 e => ?_)
  refine wp_p (j := J_Y_doTask) 2 (pc' := 12) (lv' := [(2, .int 0), (0, .ref v0), (1, .int v1)]) (st' := []) rfl ?_
  obtain ⟨g6, h5, e⟩ := bd e
  refine wp_lv (lv' := [(0, .ref v0), (1, .int v1), (2, .int 0)]) rfl ⟨rfl, rfl, rfl, trivial⟩ ?_
  refine l_Y_doTask_12 h5 ?_
  show wp (ab_ext L xs) J_Y_doTask 43 [(0, .ref v0), (1, .int v1)] [] (hp g6) Q
  refine wp_p (j := J_Y_doTask) 2 (pc' := 45) (lv' := [(0, .ref v0), (1, .int v1)]) (st' := [.ref v0, .ref v0]) rfl ?_
  refine x_gQ e rfl rfl fd_12_170 rfl (fun z7 e => ?_)
  refine wp_p (j := J_Y_doTask) 1 (pc' := 49) (lv' := [(0, .ref v0), (1, .int v1)]) (st' := [.int v1, .ref z7, .ref v0]) rfl ?_
  refine x_aI e rfl rfl (fun z8 e => ?_)
  refine x_pI e rfl rfl fw_12_161 rfl (fun g9 e => ?_)
  refine wp_p (j := J_Y_doTask) 2 (pc' := 55) (lv' := [(0, .ref v0), (1, .int v1)]) (st' := [.ref v0, .ref v0]) rfl ?_
  refine x_gQ e rfl rfl fd_12_171 rfl (fun z10 e => ?_)
  refine wp_p (j := J_Y_doTask) 1 (pc' := 59) (lv' := [(0, .ref v0), (1, .int v1)]) (st' := [.int v1, .ref z10, .ref v0]) rfl ?_
  refine x_aI e rfl rfl (fun z11 e => ?_)
  refine x_pI e rfl rfl fw_12_162 rfl (fun g12 e => ?_)
  refine wp_p (j := J_Y_doTask) 2 (pc' := 65) (lv' := [(0, .ref v0), (1, .int v1)]) (st' := [.ref v0, .ref v0]) rfl ?_
  refine x_gI e rfl rfl fd_12_166 rfl (fun z13 e => ?_)
  refine wp_p (j := J_Y_doTask) 2 (pc' := 70) (lv' := [(0, .ref v0), (1, .int v1)]) (st' := [.int (z13 - 1), .ref v0]) rfl ?_
  refine x_pI e rfl rfl fw_12_166 rfl (fun g14 e => ?_)
  refine wp_p (j := J_Y_doTask) 2 (pc' := 75) (lv' := [(2, .int v1), (0, .ref v0), (1, .int v1)]) (st' := []) rfl ?_
  obtain ⟨g17, h16, e⟩ := bd e
  refine wp_lv (lv' := [(0, .ref v0), (2, .int v1)]) rfl ⟨rfl, rfl, trivial⟩ ?_
  refine l_Y_doTask_75 h16 ?_
  show wp (ab_ext L xs) J_Y_doTask 197 [(0, .ref v0)] [] (hp g17) Q
  refine wp_p (j := J_Y_doTask) 2 (pc' := 199) (lv' := [(0, .ref v0)]) (st' := [.int 0, .ref v0]) rfl ?_
  refine x_pZ e rfl rfl fw_12_163 rfl (fun g18 e => ?_)
  refine wp_p (j := J_Y_doTask) 1 (pc' := 203) (lv' := [(0, .ref v0)]) (st' := [.ref v0]) rfl ?_
  refine x_cv0 (As := []) (rest := []) e rfl rfl rfl rfl rfl rfl (fun h => d_Y_runScript h ⟨rfl, rfl⟩) (fun g19 e => ?_)
  have e := Option.some.inj e; subst e; exact wp_vret rfl rfl c
def cL_Y_tick_48 (L : Nat) (xs : Nat → Int32) (Q : Option Value → ab_H → Prop) (v0 : Nat) (v2 : Int32) (g : g_S) (out : (Int32 × Int32) ⊕ (Int32)) : Prop := match out with
  | .inl s => wp (ab_ext L xs) J_Y_tick 48 [(0, .ref v0), (2, .int v2), (4, .int s.1), (5, .int s.2)] [] (hp g) Q
  | .inr s => wp (ab_ext L xs) J_Y_tick 141 [(0, .ref v0), (2, .int v2), (4, .int s)] [] (hp g) Q
noncomputable def b_Y_tick_48 (v0 : Nat) (v2 : Int32) (v4 : Int32) (v5 : Int32) (g : g_S) : Option ((Int32 × Int32) ⊕ (Int32)) :=
  (rI g 112 v0 166).bind fun z1 =>
  if v5 < z1 then
    (rQ g 112 v0 168).bind fun z2 =>
    (aI g 0 z2 v5).bind fun z3 =>
    (rI g 112 v0 25).bind fun z4 =>
    if z4 < z3 then
      some (.inl (v4, v5 + 1))
    else
      if v4 = (-1) then
        some (.inl (v5, v5 + 1))
      else
        (rQ g 112 v0 168).bind fun z5 =>
        (aI g 0 z5 v5).bind fun z6 =>
        (rQ g 112 v0 168).bind fun z7 =>
        (aI g 0 z7 v4).bind fun z8 =>
        if z6 < z8 then
          some (.inl (v5, v5 + 1))
        else
          (rQ g 112 v0 168).bind fun z9 =>
          (aI g 0 z9 v5).bind fun z10 =>
          (rQ g 112 v0 168).bind fun z11 =>
          (aI g 0 z11 v4).bind fun z12 =>
          if z10 = z12 then
            (rQ g 112 v0 169).bind fun z13 =>
            (aI g 0 z13 v5).bind fun z14 =>
            (rQ g 112 v0 169).bind fun z15 =>
            (aI g 0 z15 v4).bind fun z16 =>
            if z14 < z16 then
              some (.inl (v5, v5 + 1))
            else
              some (.inl (v4, v5 + 1))
          else
            some (.inl (v4, v5 + 1))
  else
    some (.inr v4)
set_option maxRecDepth 20000 in
theorem y_Y_tick_48 {L : Nat} {xs : Nat → Int32} {Q : Option Value → ab_H → Prop} {v0 : Nat} {v2 : Int32} {v4 : Int32} {v5 : Int32} {g : g_S} {out : (Int32 × Int32) ⊕ (Int32)} (e : b_Y_tick_48 v0 v2 v4 v5 g = some out) (c : cL_Y_tick_48 L xs Q v0 v2 g out) : wp (ab_ext L xs) J_Y_tick 48 [(0, .ref v0), (2, .int v2), (4, .int v4), (5, .int v5)] [] (hp g) Q := by
  unfold b_Y_tick_48 at e
  refine wp_p (j := J_Y_tick) 2 (pc' := 51) (lv' := [(0, .ref v0), (2, .int v2), (4, .int v4), (5, .int v5)]) (st' := [.ref v0, .int v5]) rfl ?_
  refine x_gI e rfl rfl fd_12_166 rfl (fun z1 e => ?_)
  refine x_ge e rfl (fun e => ?_) (fun e => ?_)
  · refine wp_p (j := J_Y_tick) 1 (pc' := 58) (lv' := [(0, .ref v0), (2, .int v2), (4, .int v4), (5, .int v5)]) (st' := [.ref v0]) rfl ?_
    refine x_gQ e rfl rfl fd_12_168 rfl (fun z2 e => ?_)
    refine wp_p (j := J_Y_tick) 1 (pc' := 63) (lv' := [(0, .ref v0), (2, .int v2), (4, .int v4), (5, .int v5)]) (st' := [.int v5, .ref z2]) rfl ?_
    refine x_aI e rfl rfl (fun z3 e => ?_)
    refine wp_p (j := J_Y_tick) 1 (pc' := 65) (lv' := [(0, .ref v0), (2, .int v2), (4, .int v4), (5, .int v5)]) (st' := [.ref v0, .int z3]) rfl ?_
    refine x_gI e rfl rfl fd_12_25 rfl (fun z4 e => ?_)
    refine x_le e rfl (fun e => ?_) (fun e => ?_)
    · refine wp_p (j := J_Y_tick) 3 (pc' := 48) (lv' := [(5, .int (v5 + 1)), (0, .ref v0), (2, .int v2), (4, .int v4)]) (st' := []) rfl ?_
      have e := Option.some.inj e; subst e; exact wp_lv (lv' := [(0, .ref v0), (2, .int v2), (4, .int v4), (5, .int (v5 + 1))]) rfl ⟨rfl, rfl, rfl, rfl, trivial⟩ c
    · refine wp_p (j := J_Y_tick) 2 (pc' := 77) (lv' := [(0, .ref v0), (2, .int v2), (4, .int v4), (5, .int v5)]) (st' := [.int (-1), .int v4]) rfl ?_
      refine x_eq e rfl (fun e => ?_) (fun e => ?_)
      · refine wp_p (j := J_Y_tick) 4 (pc' := 48) (lv' := [(5, .int (v5 + 1)), (4, .int v5), (0, .ref v0), (2, .int v2)]) (st' := []) rfl ?_
        have e := Option.some.inj e; subst e; exact wp_lv (lv' := [(0, .ref v0), (2, .int v2), (4, .int v5), (5, .int (v5 + 1))]) rfl ⟨rfl, rfl, rfl, rfl, trivial⟩ c
      · refine wp_p (j := J_Y_tick) 1 (pc' := 81) (lv' := [(0, .ref v0), (2, .int v2), (4, .int v4), (5, .int v5)]) (st' := [.ref v0]) rfl ?_
        refine x_gQ e rfl rfl fd_12_168 rfl (fun z5 e => ?_)
        refine wp_p (j := J_Y_tick) 1 (pc' := 86) (lv' := [(0, .ref v0), (2, .int v2), (4, .int v4), (5, .int v5)]) (st' := [.int v5, .ref z5]) rfl ?_
        refine x_aI e rfl rfl (fun z6 e => ?_)
        refine wp_p (j := J_Y_tick) 1 (pc' := 88) (lv' := [(0, .ref v0), (2, .int v2), (4, .int v4), (5, .int v5)]) (st' := [.ref v0, .int z6]) rfl ?_
        refine x_gQ e rfl rfl fd_12_168 rfl (fun z7 e => ?_)
        refine wp_p (j := J_Y_tick) 1 (pc' := 93) (lv' := [(0, .ref v0), (2, .int v2), (4, .int v4), (5, .int v5)]) (st' := [.int v4, .ref z7, .int z6]) rfl ?_
        refine x_aI e rfl rfl (fun z8 e => ?_)
        refine x_lt e rfl (fun e => ?_) (fun e => ?_)
        · refine wp_p (j := J_Y_tick) 4 (pc' := 48) (lv' := [(5, .int (v5 + 1)), (4, .int v5), (0, .ref v0), (2, .int v2)]) (st' := []) rfl ?_
          have e := Option.some.inj e; subst e; exact wp_lv (lv' := [(0, .ref v0), (2, .int v2), (4, .int v5), (5, .int (v5 + 1))]) rfl ⟨rfl, rfl, rfl, rfl, trivial⟩ c
        · refine wp_p (j := J_Y_tick) 1 (pc' := 98) (lv' := [(0, .ref v0), (2, .int v2), (4, .int v4), (5, .int v5)]) (st' := [.ref v0]) rfl ?_
          refine x_gQ e rfl rfl fd_12_168 rfl (fun z9 e => ?_)
          refine wp_p (j := J_Y_tick) 1 (pc' := 103) (lv' := [(0, .ref v0), (2, .int v2), (4, .int v4), (5, .int v5)]) (st' := [.int v5, .ref z9]) rfl ?_
          refine x_aI e rfl rfl (fun z10 e => ?_)
          refine wp_p (j := J_Y_tick) 1 (pc' := 105) (lv' := [(0, .ref v0), (2, .int v2), (4, .int v4), (5, .int v5)]) (st' := [.ref v0, .int z10]) rfl ?_
          refine x_gQ e rfl rfl fd_12_168 rfl (fun z11 e => ?_)
          refine wp_p (j := J_Y_tick) 1 (pc' := 110) (lv' := [(0, .ref v0), (2, .int v2), (4, .int v4), (5, .int v5)]) (st' := [.int v4, .ref z11, .int z10]) rfl ?_
          refine x_aI e rfl rfl (fun z12 e => ?_)
          refine x_ne e rfl (fun e => ?_) (fun e => ?_)
          · refine wp_p (j := J_Y_tick) 1 (pc' := 115) (lv' := [(0, .ref v0), (2, .int v2), (4, .int v4), (5, .int v5)]) (st' := [.ref v0]) rfl ?_
            refine x_gQ e rfl rfl fd_12_169 rfl (fun z13 e => ?_)
            refine wp_p (j := J_Y_tick) 1 (pc' := 120) (lv' := [(0, .ref v0), (2, .int v2), (4, .int v4), (5, .int v5)]) (st' := [.int v5, .ref z13]) rfl ?_
            refine x_aI e rfl rfl (fun z14 e => ?_)
            refine wp_p (j := J_Y_tick) 1 (pc' := 122) (lv' := [(0, .ref v0), (2, .int v2), (4, .int v4), (5, .int v5)]) (st' := [.ref v0, .int z14]) rfl ?_
            refine x_gQ e rfl rfl fd_12_169 rfl (fun z15 e => ?_)
            refine wp_p (j := J_Y_tick) 1 (pc' := 127) (lv' := [(0, .ref v0), (2, .int v2), (4, .int v4), (5, .int v5)]) (st' := [.int v4, .ref z15, .int z14]) rfl ?_
            refine x_aI e rfl rfl (fun z16 e => ?_)
            refine x_ge e rfl (fun e => ?_) (fun e => ?_)
            · refine wp_p (j := J_Y_tick) 4 (pc' := 48) (lv' := [(5, .int (v5 + 1)), (4, .int v5), (0, .ref v0), (2, .int v2)]) (st' := []) rfl ?_
              have e := Option.some.inj e; subst e; exact wp_lv (lv' := [(0, .ref v0), (2, .int v2), (4, .int v5), (5, .int (v5 + 1))]) rfl ⟨rfl, rfl, rfl, rfl, trivial⟩ c
            · refine wp_p (j := J_Y_tick) 2 (pc' := 48) (lv' := [(5, .int (v5 + 1)), (0, .ref v0), (2, .int v2), (4, .int v4)]) (st' := []) rfl ?_
              have e := Option.some.inj e; subst e; exact wp_lv (lv' := [(0, .ref v0), (2, .int v2), (4, .int v4), (5, .int (v5 + 1))]) rfl ⟨rfl, rfl, rfl, rfl, trivial⟩ c
          · refine wp_p (j := J_Y_tick) 2 (pc' := 48) (lv' := [(5, .int (v5 + 1)), (0, .ref v0), (2, .int v2), (4, .int v4)]) (st' := []) rfl ?_
            have e := Option.some.inj e; subst e; exact wp_lv (lv' := [(0, .ref v0), (2, .int v2), (4, .int v4), (5, .int (v5 + 1))]) rfl ⟨rfl, rfl, rfl, rfl, trivial⟩ c
  · have e := Option.some.inj e; subst e; exact wp_lv (lv' := [(0, .ref v0), (2, .int v2), (4, .int v4)]) rfl ⟨rfl, rfl, rfl, trivial⟩ c
noncomputable def L_Y_tick_48 (v0 : Nat) (v2 : Int32) (v4 : Int32) (v5 : Int32) (g : g_S) : Option (Int32) := it (fun s : Int32 × Int32 => b_Y_tick_48 v0 v2 s.1 s.2 g) (v4, v5)
theorem l_Y_tick_48 {L : Nat} {xs : Nat → Int32} {Q : Option Value → ab_H → Prop} {v0 : Nat} {v2 : Int32} {v4 : Int32} {v5 : Int32} {g : g_S} {r : Int32} (e : L_Y_tick_48 v0 v2 v4 v5 g = some r) (c : cL_Y_tick_48 L xs Q v0 v2 g (.inr r)) : wp (ab_ext L xs) J_Y_tick 48 [(0, .ref v0), (2, .int v2), (4, .int v4), (5, .int v5)] [] (hp g) Q :=
  it_wp (P := fun s : Int32 × Int32 => wp (ab_ext L xs) J_Y_tick 48 [(0, .ref v0), (2, .int v2), (4, .int s.1), (5, .int s.2)] [] (hp g) Q) (E := fun r => cL_Y_tick_48 L xs Q v0 v2 g (.inr r)) (fun s out e c => y_Y_tick_48 e (by cases out <;> exact c)) e c
theorem L_Y_tick_48_eq (v0 : Nat) (v2 : Int32) (v4 : Int32) (v5 : Int32) (g : g_S) : L_Y_tick_48 v0 v2 v4 v5 g = itc (b_Y_tick_48 v0 v2 v4 v5 g) (fun s => L_Y_tick_48 v0 v2 s.1 s.2 g) := it_eq2 (fun s : Int32 × Int32 => b_Y_tick_48 v0 v2 s.1 s.2 g) (v4, v5)
def cL_Y_tick_31 (L : Nat) (xs : Nat → Int32) (Q : Option Value → ab_H → Prop) (v0 : Nat) (out : (Int32 × Int32 × g_S) ⊕ (Int32 × g_S)) : Prop := match out with
  | .inl s => wp (ab_ext L xs) J_Y_tick 31 [(0, .ref v0), (2, .int s.1), (3, .int s.2.1)] [] (hp s.2.2) Q
  | .inr s => wp (ab_ext L xs) J_Y_tick 173 [(2, .int s.1)] [] (hp s.2) Q
noncomputable def k_Y_tick_152 (v0 : Nat) (v2 : Int32) (v4 : Int32) (w0 : Int32) (g : g_S) : Option ((Int32 × Int32 × g_S) ⊕ (Int32 × g_S)) :=
  if w0 = 0 then
    some (.inl (v2, w0, g))
  else
    (vc g 112 v0 (M_Y_doTask v0 v4 g)).bind fun g1 =>
    (vc g1 112 v0 (M_Y_settle v0 g1)).bind fun g2 =>
    some (.inl (v2 + 1, w0, g2))
set_option maxRecDepth 20000 in
theorem x_Y_tick_152 {L : Nat} {xs : Nat → Int32} {Q : Option Value → ab_H → Prop} {v0 : Nat} {v2 : Int32} {v4 : Int32} {w0 : Int32} {g : g_S} {out : (Int32 × Int32 × g_S) ⊕ (Int32 × g_S)} (e : k_Y_tick_152 v0 v2 v4 w0 g = some out) (c : cL_Y_tick_31 L xs Q v0 out) : wp (ab_ext L xs) J_Y_tick 152 [(0, .ref v0), (2, .int v2), (4, .int v4)] [.int w0] (hp g) Q := by
  unfold k_Y_tick_152 at e
  refine wp_p (j := J_Y_tick) 2 (pc' := 154) (lv' := [(3, .int w0), (0, .ref v0), (2, .int v2), (4, .int v4)]) (st' := [.int w0]) rfl ?_
  refine z_eq e rfl (fun e => ?_) (fun e => ?_)
  · refine wp_p (j := J_Y_tick) 1 (pc' := 31) (lv' := [(3, .int w0), (0, .ref v0), (2, .int v2), (4, .int v4)]) (st' := []) rfl ?_
    have e := Option.some.inj e; subst e; exact wp_lv (lv' := [(0, .ref v0), (2, .int v2), (3, .int w0)]) rfl ⟨rfl, rfl, rfl, trivial⟩ c
  · refine wp_p (j := J_Y_tick) 3 (pc' := 163) (lv' := [(2, .int (v2 + 1)), (3, .int w0), (0, .ref v0), (4, .int v4)]) (st' := [.int v4, .ref v0]) rfl ?_
    refine x_cv0 (As := [.int v4]) (rest := []) e rfl rfl rfl rfl rfl rfl (fun h => d_Y_doTask h ⟨rfl, rfl⟩) (fun g1 e => ?_)
    refine wp_p (j := J_Y_tick) 1 (pc' := 167) (lv' := [(2, .int (v2 + 1)), (3, .int w0), (0, .ref v0), (4, .int v4)]) (st' := [.ref v0]) rfl ?_
    refine x_cv0 (As := []) (rest := []) e rfl rfl rfl rfl rfl rfl (fun h => d_Y_settle h ⟨rfl, rfl⟩) (fun g2 e => ?_)
    refine wp_p (j := J_Y_tick) 1 (pc' := 31) (lv' := [(2, .int (v2 + 1)), (3, .int w0), (0, .ref v0), (4, .int v4)]) (st' := []) rfl ?_
    have e := Option.some.inj e; subst e; exact wp_lv (lv' := [(0, .ref v0), (2, .int (v2 + 1)), (3, .int w0)]) rfl ⟨rfl, rfl, rfl, trivial⟩ c
noncomputable def b_Y_tick_31 (v0 : Nat) (v2 : Int32) (v3 : Int32) (g : g_S) : Option ((Int32 × Int32 × g_S) ⊕ (Int32 × g_S)) :=
  if v3 = 0 then
    some (.inr (v2, g))
  else
    (rI g 112 v0 154).bind fun z1 =>
    if z1 = 0 then
      (L_Y_tick_48 v0 v2 (-1) 0 g).bind <| fun z4 =>
      if z4 = (-1) then
        k_Y_tick_152 v0 v2 z4 0 g
      else
        k_Y_tick_152 v0 v2 z4 1 g
    else
      some (.inr (v2, g))
set_option maxRecDepth 20000 in
theorem y_Y_tick_31 {L : Nat} {xs : Nat → Int32} {Q : Option Value → ab_H → Prop} {v0 : Nat} {v2 : Int32} {v3 : Int32} {g : g_S} {out : (Int32 × Int32 × g_S) ⊕ (Int32 × g_S)} (e : b_Y_tick_31 v0 v2 v3 g = some out) (c : cL_Y_tick_31 L xs Q v0 out) : wp (ab_ext L xs) J_Y_tick 31 [(0, .ref v0), (2, .int v2), (3, .int v3)] [] (hp g) Q := by
  unfold b_Y_tick_31 at e
  refine wp_p (j := J_Y_tick) 1 (pc' := 32) (lv' := [(0, .ref v0), (2, .int v2), (3, .int v3)]) (st' := [.int v3]) rfl ?_
  refine z_eq e rfl (fun e => ?_) (fun e => ?_)
  · have e := Option.some.inj e; subst e; exact wp_lv (lv' := [(2, .int v2)]) rfl ⟨rfl, trivial⟩ c
  · refine wp_p (j := J_Y_tick) 1 (pc' := 36) (lv' := [(0, .ref v0), (2, .int v2), (3, .int v3)]) (st' := [.ref v0]) rfl ?_
    refine x_gI e rfl rfl fd_12_154 rfl (fun z1 e => ?_)
    refine z_ne e rfl (fun e => ?_) (fun e => ?_)
    · refine wp_p (j := J_Y_tick) 4 (pc' := 48) (lv' := [(5, .int 0), (4, .int (-1)), (0, .ref v0), (2, .int v2), (3, .int v3)]) (st' := []) rfl ?_
      obtain ⟨z4, h3, e⟩ := bd e
      refine wp_lv (lv' := [(0, .ref v0), (2, .int v2), (4, .int (-1)), (5, .int 0)]) rfl ⟨rfl, rfl, rfl, rfl, trivial⟩ ?_
      refine l_Y_tick_48 h3 ?_
      show wp (ab_ext L xs) J_Y_tick 141 [(0, .ref v0), (2, .int v2), (4, .int z4)] [] (hp g) Q
      refine wp_p (j := J_Y_tick) 2 (pc' := 144) (lv' := [(0, .ref v0), (2, .int v2), (4, .int z4)]) (st' := [.int (-1), .int z4]) rfl ?_
      refine x_eq e rfl (fun e => ?_) (fun e => ?_)
      · refine wp_p (j := J_Y_tick) 1 (pc' := 152) (lv' := [(0, .ref v0), (2, .int v2), (4, .int z4)]) (st' := [.int 0]) rfl ?_
        exact wp_lv (lv' := [(0, .ref v0), (2, .int v2), (4, .int z4)]) rfl ⟨rfl, rfl, rfl, trivial⟩ (x_Y_tick_152 e c)
      · refine wp_p (j := J_Y_tick) 2 (pc' := 152) (lv' := [(0, .ref v0), (2, .int v2), (4, .int z4)]) (st' := [.int 1]) rfl ?_
        exact wp_lv (lv' := [(0, .ref v0), (2, .int v2), (4, .int z4)]) rfl ⟨rfl, rfl, rfl, trivial⟩ (x_Y_tick_152 e c)
    · have e := Option.some.inj e; subst e; exact wp_lv (lv' := [(2, .int v2)]) rfl ⟨rfl, trivial⟩ c
noncomputable def L_Y_tick_31 (v0 : Nat) (v2 : Int32) (v3 : Int32) (g : g_S) : Option (Int32 × g_S) := it (fun s : Int32 × Int32 × g_S => b_Y_tick_31 v0 s.1 s.2.1 s.2.2) (v2, v3, g)
theorem l_Y_tick_31 {L : Nat} {xs : Nat → Int32} {Q : Option Value → ab_H → Prop} {v0 : Nat} {v2 : Int32} {v3 : Int32} {g : g_S} {r : Int32 × g_S} (e : L_Y_tick_31 v0 v2 v3 g = some r) (c : cL_Y_tick_31 L xs Q v0 (.inr r)) : wp (ab_ext L xs) J_Y_tick 31 [(0, .ref v0), (2, .int v2), (3, .int v3)] [] (hp g) Q :=
  it_wp (P := fun s : Int32 × Int32 × g_S => wp (ab_ext L xs) J_Y_tick 31 [(0, .ref v0), (2, .int s.1), (3, .int s.2.1)] [] (hp s.2.2) Q) (E := fun r => cL_Y_tick_31 L xs Q v0 (.inr r)) (fun s out e c => y_Y_tick_31 e (by cases out <;> exact c)) e c
theorem L_Y_tick_31_eq (v0 : Nat) (v2 : Int32) (v3 : Int32) (g : g_S) : L_Y_tick_31 v0 v2 v3 g = itc (b_Y_tick_31 v0 v2 v3 g) (fun s => L_Y_tick_31 v0 s.1 s.2.1 s.2.2) := it_eq2 (fun s : Int32 × Int32 × g_S => b_Y_tick_31 v0 s.1 s.2.1 s.2.2) (v2, v3, g)
noncomputable def M_Y_tick (v0 : Nat) (v1 : Int32) (g : g_S) : Option (Int32 × g_S) :=
  if v1 < 0 then
    some ((-1), g)
  else
    if 1000 < v1 then
      some ((-1), g)
    else
      (vc g 112 v0 (M_Y_begin v0 g)).bind fun g1 =>
      (rI g1 112 v0 25).bind fun z2 =>
      (wI g1 112 v0 25 (z2 + v1)).bind fun g3 =>
      (L_Y_tick_31 v0 0 1 g3).bind <| u2 fun z6 g7 =>
      some (z6, g7)
set_option maxRecDepth 20000 in
theorem d_Y_tick {L : Nat} {xs : Nat → Int32} {Q : Option Value → ab_H → Prop} {v0 : Nat} {v1 : Int32} {g : g_S} {out : Int32 × g_S} (e : M_Y_tick v0 v1 g = some out) (c : Q (some (.int out.1)) (hp out.2)) : mw (ab_ext L xs) J_Y_tick [.ref v0, .int v1] (hp g) Q := by
  unfold M_Y_tick at e
  refine wp_p (j := J_Y_tick) 1 (pc' := 1) (lv' := [(0, .ref v0), (1, .int v1)]) (st' := [.int v1]) rfl ?_
  refine z_lt e rfl (fun e => ?_) (fun e => ?_)
  · refine wp_p (j := J_Y_tick) 1 (pc' := 12) (lv' := [(0, .ref v0), (1, .int v1)]) (st' := [.int (-1)]) rfl ?_
    have e := Option.some.inj e; subst e; exact wp_iret (ty := .int) rfl rfl rfl c
  · refine wp_p (j := J_Y_tick) 2 (pc' := 8) (lv' := [(0, .ref v0), (1, .int v1)]) (st' := [.int 1000, .int v1]) rfl ?_
    refine x_le e rfl (fun e => ?_) (fun e => ?_)
    · refine wp_p (j := J_Y_tick) 1 (pc' := 12) (lv' := [(0, .ref v0), (1, .int v1)]) (st' := [.int (-1)]) rfl ?_
      have e := Option.some.inj e; subst e; exact wp_iret (ty := .int) rfl rfl rfl c
    · refine wp_p (j := J_Y_tick) 1 (pc' := 14) (lv' := [(0, .ref v0), (1, .int v1)]) (st' := [.ref v0]) rfl ?_
      refine x_cv0 (As := []) (rest := []) e rfl rfl rfl rfl rfl rfl (fun h => d_Y_begin h ⟨rfl, rfl⟩) (fun g1 e => ?_)
      refine wp_p (j := J_Y_tick) 2 (pc' := 19) (lv' := [(0, .ref v0), (1, .int v1)]) (st' := [.ref v0, .ref v0]) rfl ?_
      refine x_gI e rfl rfl fd_12_25 rfl (fun z2 e => ?_)
      refine wp_p (j := J_Y_tick) 2 (pc' := 24) (lv' := [(0, .ref v0), (1, .int v1)]) (st' := [.int (z2 + v1), .ref v0]) rfl ?_
      refine x_pI e rfl rfl fw_12_25 rfl (fun g3 e => ?_)
      refine wp_p (j := J_Y_tick) 4 (pc' := 31) (lv' := [(3, .int 1), (2, .int 0), (0, .ref v0), (1, .int v1)]) (st' := []) rfl ?_
      obtain ⟨s4, h5, e⟩ := bd e
      refine wp_lv (lv' := [(0, .ref v0), (2, .int 0), (3, .int 1)]) rfl ⟨rfl, rfl, rfl, trivial⟩ ?_
      refine l_Y_tick_31 h5 ?_
      obtain ⟨z6, g7⟩ := s4
      replace e := u2_e e
      show wp (ab_ext L xs) J_Y_tick 173 [(2, .int z6)] [] (hp g7) Q
      refine wp_p (j := J_Y_tick) 1 (pc' := 174) (lv' := [(2, .int z6)]) (st' := [.int z6]) rfl ?_
      have e := Option.some.inj e; subst e; exact wp_iret (ty := .int) rfl rfl rfl c
def cL_Y_attribute_16 (L : Nat) (xs : Nat → Int32) (Q : Option Value → ab_H → Prop) (v0 : Nat) (v1 : Int32) (g : g_S) (out : (Int32) ⊕ (Int32)) : Prop := match out with
  | .inl s => wp (ab_ext L xs) J_Y_attribute 16 [(0, .ref v0), (1, .int v1), (3, .int s)] [] (hp g) Q
  | .inr s => wp (ab_ext L xs) J_Y_attribute 64 [(0, .ref v0), (1, .int v1), (3, .int s)] [] (hp g) Q
noncomputable def b_Y_attribute_16 (v0 : Nat) (v1 : Int32) (v3 : Int32) (g : g_S) : Option ((Int32) ⊕ (Int32)) :=
  (rI g 112 v0 3).bind fun z1 =>
  if v3 < z1 then
    if v3 < 8 then
      (rQ g 112 v0 2).bind fun z2 =>
      (aI g 1 z2 v3).bind fun z3 =>
      (M_Y_isSmall z3 g).bind fun z4 =>
      if z4 = 0 then
        if 0 < v3 then
          (rQ g 112 v0 2).bind fun z5 =>
          (aI g 1 z5 v3).bind fun z6 =>
          (M_Y_isDigit z6 g).bind fun z7 =>
          if z7 = 0 then
            some (.inr v3)
          else
            some (.inl (v3 + 1))
        else
          some (.inr v3)
      else
        some (.inl (v3 + 1))
    else
      some (.inr v3)
  else
    some (.inr v3)
set_option maxRecDepth 20000 in
theorem y_Y_attribute_16 {L : Nat} {xs : Nat → Int32} {Q : Option Value → ab_H → Prop} {v0 : Nat} {v1 : Int32} {v3 : Int32} {g : g_S} {out : (Int32) ⊕ (Int32)} (e : b_Y_attribute_16 v0 v1 v3 g = some out) (c : cL_Y_attribute_16 L xs Q v0 v1 g out) : wp (ab_ext L xs) J_Y_attribute 16 [(0, .ref v0), (1, .int v1), (3, .int v3)] [] (hp g) Q := by
  unfold b_Y_attribute_16 at e
  refine wp_p (j := J_Y_attribute) 2 (pc' := 18) (lv' := [(0, .ref v0), (1, .int v1), (3, .int v3)]) (st' := [.ref v0, .int v3]) rfl ?_
  refine x_gI e rfl rfl fd_12_3 rfl (fun z1 e => ?_)
  refine x_ge e rfl (fun e => ?_) (fun e => ?_)
  · refine wp_p (j := J_Y_attribute) 2 (pc' := 27) (lv' := [(0, .ref v0), (1, .int v1), (3, .int v3)]) (st' := [.int 8, .int v3]) rfl ?_
    refine x_ge e rfl (fun e => ?_) (fun e => ?_)
    · refine wp_p (j := J_Y_attribute) 1 (pc' := 31) (lv' := [(0, .ref v0), (1, .int v1), (3, .int v3)]) (st' := [.ref v0]) rfl ?_
      refine x_gQ e rfl rfl fd_12_2 rfl (fun z2 e => ?_)
      refine wp_p (j := J_Y_attribute) 1 (pc' := 35) (lv' := [(0, .ref v0), (1, .int v1), (3, .int v3)]) (st' := [.int v3, .ref z2]) rfl ?_
      refine x_aB e rfl (.inl rfl) rfl (fun z3 e => ?_)
      refine x_cs1 (As := [.int z3]) (rest := []) Value.int e rfl rfl rfl rfl rfl (fun h => d_Y_isSmall h ⟨rfl, rfl⟩) (fun z4 e => ?_)
      refine z_ne e rfl (fun e => ?_) (fun e => ?_)
      · refine wp_p (j := J_Y_attribute) 1 (pc' := 43) (lv' := [(0, .ref v0), (1, .int v1), (3, .int v3)]) (st' := [.int v3]) rfl ?_
        refine z_le e rfl (fun e => ?_) (fun e => ?_)
        · refine wp_p (j := J_Y_attribute) 1 (pc' := 47) (lv' := [(0, .ref v0), (1, .int v1), (3, .int v3)]) (st' := [.ref v0]) rfl ?_
          refine x_gQ e rfl rfl fd_12_2 rfl (fun z5 e => ?_)
          refine wp_p (j := J_Y_attribute) 1 (pc' := 51) (lv' := [(0, .ref v0), (1, .int v1), (3, .int v3)]) (st' := [.int v3, .ref z5]) rfl ?_
          refine x_aB e rfl (.inl rfl) rfl (fun z6 e => ?_)
          refine x_cs1 (As := [.int z6]) (rest := []) Value.int e rfl rfl rfl rfl rfl (fun h => d_Y_isDigit h ⟨rfl, rfl⟩) (fun z7 e => ?_)
          refine z_eq e rfl (fun e => ?_) (fun e => ?_)
          · have e := Option.some.inj e; subst e; exact wp_lv (lv' := [(0, .ref v0), (1, .int v1), (3, .int v3)]) rfl ⟨rfl, rfl, rfl, trivial⟩ c
          · refine wp_p (j := J_Y_attribute) 2 (pc' := 16) (lv' := [(3, .int (v3 + 1)), (0, .ref v0), (1, .int v1)]) (st' := []) rfl ?_
            have e := Option.some.inj e; subst e; exact wp_lv (lv' := [(0, .ref v0), (1, .int v1), (3, .int (v3 + 1))]) rfl ⟨rfl, rfl, rfl, trivial⟩ c
        · have e := Option.some.inj e; subst e; exact wp_lv (lv' := [(0, .ref v0), (1, .int v1), (3, .int v3)]) rfl ⟨rfl, rfl, rfl, trivial⟩ c
      · refine wp_p (j := J_Y_attribute) 2 (pc' := 16) (lv' := [(3, .int (v3 + 1)), (0, .ref v0), (1, .int v1)]) (st' := []) rfl ?_
        have e := Option.some.inj e; subst e; exact wp_lv (lv' := [(0, .ref v0), (1, .int v1), (3, .int (v3 + 1))]) rfl ⟨rfl, rfl, rfl, trivial⟩ c
    · have e := Option.some.inj e; subst e; exact wp_lv (lv' := [(0, .ref v0), (1, .int v1), (3, .int v3)]) rfl ⟨rfl, rfl, rfl, trivial⟩ c
  · have e := Option.some.inj e; subst e; exact wp_lv (lv' := [(0, .ref v0), (1, .int v1), (3, .int v3)]) rfl ⟨rfl, rfl, rfl, trivial⟩ c
noncomputable def L_Y_attribute_16 (v0 : Nat) (v1 : Int32) (v3 : Int32) (g : g_S) : Option (Int32) := it (fun s : Int32 => b_Y_attribute_16 v0 v1 s g) (v3)
theorem l_Y_attribute_16 {L : Nat} {xs : Nat → Int32} {Q : Option Value → ab_H → Prop} {v0 : Nat} {v1 : Int32} {v3 : Int32} {g : g_S} {r : Int32} (e : L_Y_attribute_16 v0 v1 v3 g = some r) (c : cL_Y_attribute_16 L xs Q v0 v1 g (.inr r)) : wp (ab_ext L xs) J_Y_attribute 16 [(0, .ref v0), (1, .int v1), (3, .int v3)] [] (hp g) Q :=
  it_wp (P := fun s : Int32 => wp (ab_ext L xs) J_Y_attribute 16 [(0, .ref v0), (1, .int v1), (3, .int s)] [] (hp g) Q) (E := fun r => cL_Y_attribute_16 L xs Q v0 v1 g (.inr r)) (fun s out e c => y_Y_attribute_16 e (by cases out <;> exact c)) e c
theorem L_Y_attribute_16_eq (v0 : Nat) (v1 : Int32) (v3 : Int32) (g : g_S) : L_Y_attribute_16 v0 v1 v3 g = itc (b_Y_attribute_16 v0 v1 v3 g) (fun s => L_Y_attribute_16 v0 v1 s g) := it_eq2 (fun s : Int32 => b_Y_attribute_16 v0 v1 s g) (v3)
def cL_Y_attribute_110 (L : Nat) (xs : Nat → Int32) (Q : Option Value → ab_H → Prop) (v0 : Nat) (v1 : Int32) (g : g_S) (out : (Int32) ⊕ ((Int32) ⊕ (Unit))) : Prop := match out with
  | .inl s => wp (ab_ext L xs) J_Y_attribute 110 [(0, .ref v0), (1, .int v1), (4, .int s)] [] (hp g) Q
  | .inr (.inl s) => wp (ab_ext L xs) J_Y_attribute 166 [(0, .ref v0), (4, .int s)] [] (hp g) Q
  | .inr (.inr s) => wp (ab_ext L xs) J_Y_attribute 202 [] [] (hp g) Q
noncomputable def b_Y_attribute_110 (v0 : Nat) (v1 : Int32) (v4 : Int32) (g : g_S) : Option ((Int32) ⊕ ((Int32) ⊕ (Unit))) :=
  (rQ g 112 v0 56).bind fun z1 =>
  (aI g 0 z1 v1).bind fun z2 =>
  if v4 < ((4 * v1) + z2) then
    (rQ g 112 v0 58).bind fun z3 =>
    (aI g 0 z3 v4).bind fun z4 =>
    (rI g 112 v0 3).bind fun z5 =>
    if z4 = z5 then
      (rQ g 112 v0 57).bind fun z6 =>
      (rQ g 112 v0 2).bind fun z7 =>
      (rI g 112 v0 3).bind fun z8 =>
      (M_Y_same z6 (8 * v4) z7 0 z8 g).bind fun z9 =>
      if z9 = 0 then
        some (.inl (v4 + 1))
      else
        some (.inr (.inl v4))
    else
      some (.inl (v4 + 1))
  else
    some (.inr (.inr ()))
set_option maxRecDepth 20000 in
theorem y_Y_attribute_110 {L : Nat} {xs : Nat → Int32} {Q : Option Value → ab_H → Prop} {v0 : Nat} {v1 : Int32} {v4 : Int32} {g : g_S} {out : (Int32) ⊕ ((Int32) ⊕ (Unit))} (e : b_Y_attribute_110 v0 v1 v4 g = some out) (c : cL_Y_attribute_110 L xs Q v0 v1 g out) : wp (ab_ext L xs) J_Y_attribute 110 [(0, .ref v0), (1, .int v1), (4, .int v4)] [] (hp g) Q := by
  unfold b_Y_attribute_110 at e
  refine wp_p (j := J_Y_attribute) 5 (pc' := 116) (lv' := [(0, .ref v0), (1, .int v1), (4, .int v4)]) (st' := [.ref v0, .int (4 * v1), .int v4]) rfl ?_
  refine x_gQ e rfl rfl fd_12_56 rfl (fun z1 e => ?_)
  refine wp_p (j := J_Y_attribute) 1 (pc' := 120) (lv' := [(0, .ref v0), (1, .int v1), (4, .int v4)]) (st' := [.int v1, .ref z1, .int (4 * v1), .int v4]) rfl ?_
  refine x_aI e rfl rfl (fun z2 e => ?_)
  refine wp_p (j := J_Y_attribute) 1 (pc' := 122) (lv' := [(0, .ref v0), (1, .int v1), (4, .int v4)]) (st' := [.int ((4 * v1) + z2), .int v4]) rfl ?_
  refine x_ge e rfl (fun e => ?_) (fun e => ?_)
  · refine wp_p (j := J_Y_attribute) 1 (pc' := 126) (lv' := [(0, .ref v0), (1, .int v1), (4, .int v4)]) (st' := [.ref v0]) rfl ?_
    refine x_gQ e rfl rfl fd_12_58 rfl (fun z3 e => ?_)
    refine wp_p (j := J_Y_attribute) 1 (pc' := 131) (lv' := [(0, .ref v0), (1, .int v1), (4, .int v4)]) (st' := [.int v4, .ref z3]) rfl ?_
    refine x_aI e rfl rfl (fun z4 e => ?_)
    refine wp_p (j := J_Y_attribute) 1 (pc' := 133) (lv' := [(0, .ref v0), (1, .int v1), (4, .int v4)]) (st' := [.ref v0, .int z4]) rfl ?_
    refine x_gI e rfl rfl fd_12_3 rfl (fun z5 e => ?_)
    refine x_ne e rfl (fun e => ?_) (fun e => ?_)
    · refine wp_p (j := J_Y_attribute) 1 (pc' := 140) (lv' := [(0, .ref v0), (1, .int v1), (4, .int v4)]) (st' := [.ref v0]) rfl ?_
      refine x_gQ e rfl rfl fd_12_57 rfl (fun z6 e => ?_)
      refine wp_p (j := J_Y_attribute) 4 (pc' := 149) (lv' := [(0, .ref v0), (1, .int v1), (4, .int v4)]) (st' := [.ref v0, .int (8 * v4), .ref z6]) rfl ?_
      refine x_gQ e rfl rfl fd_12_2 rfl (fun z7 e => ?_)
      refine wp_p (j := J_Y_attribute) 2 (pc' := 154) (lv' := [(0, .ref v0), (1, .int v1), (4, .int v4)]) (st' := [.ref v0, .int 0, .ref z7, .int (8 * v4), .ref z6]) rfl ?_
      refine x_gI e rfl rfl fd_12_3 rfl (fun z8 e => ?_)
      refine x_cs1 (As := [.ref z6, .int (8 * v4), .ref z7, .int 0, .int z8]) (rest := []) Value.int e rfl rfl rfl rfl rfl (fun h => d_Y_same h ⟨rfl, rfl⟩) (fun z9 e => ?_)
      refine z_ne e rfl (fun e => ?_) (fun e => ?_)
      · refine wp_p (j := J_Y_attribute) 3 (pc' := 110) (lv' := [(4, .int (v4 + 1)), (0, .ref v0), (1, .int v1)]) (st' := []) rfl ?_
        have e := Option.some.inj e; subst e; exact wp_lv (lv' := [(0, .ref v0), (1, .int v1), (4, .int (v4 + 1))]) rfl ⟨rfl, rfl, rfl, trivial⟩ c
      · have e := Option.some.inj e; subst e; exact wp_lv (lv' := [(0, .ref v0), (4, .int v4)]) rfl ⟨rfl, rfl, trivial⟩ c
    · refine wp_p (j := J_Y_attribute) 2 (pc' := 110) (lv' := [(4, .int (v4 + 1)), (0, .ref v0), (1, .int v1)]) (st' := []) rfl ?_
      have e := Option.some.inj e; subst e; exact wp_lv (lv' := [(0, .ref v0), (1, .int v1), (4, .int (v4 + 1))]) rfl ⟨rfl, rfl, rfl, trivial⟩ c
  · have e := Option.some.inj e; subst e; exact wp_lv (lv' := []) rfl trivial c
noncomputable def L_Y_attribute_110 (v0 : Nat) (v1 : Int32) (v4 : Int32) (g : g_S) : Option ((Int32) ⊕ (Unit)) := it (fun s : Int32 => b_Y_attribute_110 v0 v1 s g) (v4)
theorem l_Y_attribute_110 {L : Nat} {xs : Nat → Int32} {Q : Option Value → ab_H → Prop} {v0 : Nat} {v1 : Int32} {v4 : Int32} {g : g_S} {r : (Int32) ⊕ (Unit)} (e : L_Y_attribute_110 v0 v1 v4 g = some r) (c : cL_Y_attribute_110 L xs Q v0 v1 g (.inr r)) : wp (ab_ext L xs) J_Y_attribute 110 [(0, .ref v0), (1, .int v1), (4, .int v4)] [] (hp g) Q :=
  it_wp (P := fun s : Int32 => wp (ab_ext L xs) J_Y_attribute 110 [(0, .ref v0), (1, .int v1), (4, .int s)] [] (hp g) Q) (E := fun r => cL_Y_attribute_110 L xs Q v0 v1 g (.inr r)) (fun s out e c => y_Y_attribute_110 e (by cases out <;> exact c)) e c
theorem L_Y_attribute_110_eq (v0 : Nat) (v1 : Int32) (v4 : Int32) (g : g_S) : L_Y_attribute_110 v0 v1 v4 g = itc (b_Y_attribute_110 v0 v1 v4 g) (fun s => L_Y_attribute_110 v0 v1 s g) := it_eq2 (fun s : Int32 => b_Y_attribute_110 v0 v1 s g) (v4)
noncomputable def k_Y_attribute_79 (v3 : Int32) (g : g_S) : Option (Int32 × g_S) :=
  (M_Y_wrong v3 g).bind fun z1 =>
  some (z1, g)
set_option maxRecDepth 20000 in
theorem x_Y_attribute_79 {L : Nat} {xs : Nat → Int32} {Q : Option Value → ab_H → Prop} {v3 : Int32} {g : g_S} {out : Int32 × g_S} (e : k_Y_attribute_79 v3 g = some out) (c : Q (some (.int out.1)) (hp out.2)) : wp (ab_ext L xs) J_Y_attribute 79 [(3, .int v3)] [] (hp g) Q := by
  unfold k_Y_attribute_79 at e
  refine wp_p (j := J_Y_attribute) 1 (pc' := 80) (lv' := [(3, .int v3)]) (st' := [.int v3]) rfl ?_
  refine x_cs1 (As := [.int v3]) (rest := []) Value.int e rfl rfl rfl rfl rfl (fun h => d_Y_wrong h ⟨rfl, rfl⟩) (fun z1 e => ?_)
  have e := Option.some.inj e; subst e; exact wp_iret (ty := .int) rfl rfl rfl c
noncomputable def k_Y_attribute_64 (v0 : Nat) (v1 : Int32) (v3 : Int32) (g : g_S) : Option (Int32 × g_S) :=
  (rI g 112 v0 3).bind fun z1 =>
  if v3 < z1 then
    k_Y_attribute_79 v3 g
  else
    (rI g 112 v0 3).bind fun z2 =>
    if z2 = 0 then
      k_Y_attribute_79 v3 g
    else
      (vc g 112 v0 (M_Y_there v0 v1 g)).bind fun z3 =>
      if z3 = 0 then
        some ((-1), g)
      else
        (rQ g 112 v0 46).bind fun z4 =>
        (aI g 0 z4 v1).bind fun z5 =>
        if z5 = 17 then
          some ((-1), g)
        else
          (L_Y_attribute_110 v0 v1 (4 * v1) g).bind <|
            us (fun z8 =>
            (wI g 112 v0 5 0).bind fun g9 =>
            (rQ g9 112 v0 59).bind fun z10 =>
            (rQ g9 112 v0 60).bind fun z11 =>
            (aI g9 0 z11 z8).bind fun z12 =>
            (vc g9 112 v0 (M_Y_sayAll v0 z10 (60 * z8) z12 g9)).bind fun g13 =>
            (rI g13 112 v0 5).bind fun z14 =>
            some (z14, g13))
            (fun _ =>
            some ((-1), g))
set_option maxRecDepth 20000 in
theorem x_Y_attribute_64 {L : Nat} {xs : Nat → Int32} {Q : Option Value → ab_H → Prop} {v0 : Nat} {v1 : Int32} {v3 : Int32} {g : g_S} {out : Int32 × g_S} (e : k_Y_attribute_64 v0 v1 v3 g = some out) (c : Q (some (.int out.1)) (hp out.2)) : wp (ab_ext L xs) J_Y_attribute 64 [(0, .ref v0), (1, .int v1), (3, .int v3)] [] (hp g) Q := by
  unfold k_Y_attribute_64 at e
  refine wp_p (j := J_Y_attribute) 2 (pc' := 66) (lv' := [(0, .ref v0), (1, .int v1), (3, .int v3)]) (st' := [.ref v0, .int v3]) rfl ?_
  refine x_gI e rfl rfl fd_12_3 rfl (fun z1 e => ?_)
  refine x_lt e rfl (fun e => ?_) (fun e => ?_)
  · exact wp_lv (lv' := [(3, .int v3)]) rfl ⟨rfl, trivial⟩ (x_Y_attribute_79 e c)
  · refine wp_p (j := J_Y_attribute) 1 (pc' := 73) (lv' := [(0, .ref v0), (1, .int v1), (3, .int v3)]) (st' := [.ref v0]) rfl ?_
    refine x_gI e rfl rfl fd_12_3 rfl (fun z2 e => ?_)
    refine z_ne e rfl (fun e => ?_) (fun e => ?_)
    · exact wp_lv (lv' := [(3, .int v3)]) rfl ⟨rfl, trivial⟩ (x_Y_attribute_79 e c)
    · refine wp_p (j := J_Y_attribute) 2 (pc' := 86) (lv' := [(0, .ref v0), (1, .int v1), (3, .int v3)]) (st' := [.int v1, .ref v0]) rfl ?_
      refine x_cv1 (As := [.int v1]) (rest := []) Value.int e rfl rfl rfl rfl rfl rfl (fun h => d_Y_there h ⟨rfl, rfl⟩) (fun z3 e => ?_)
      refine z_eq e rfl (fun e => ?_) (fun e => ?_)
      · refine wp_p (j := J_Y_attribute) 1 (pc' := 104) (lv' := [(0, .ref v0), (1, .int v1), (3, .int v3)]) (st' := [.int (-1)]) rfl ?_
        have e := Option.some.inj e; subst e; exact wp_iret (ty := .int) rfl rfl rfl c
      · refine wp_p (j := J_Y_attribute) 1 (pc' := 93) (lv' := [(0, .ref v0), (1, .int v1), (3, .int v3)]) (st' := [.ref v0]) rfl ?_
        refine x_gQ e rfl rfl fd_12_46 rfl (fun z4 e => ?_)
        refine wp_p (j := J_Y_attribute) 1 (pc' := 97) (lv' := [(0, .ref v0), (1, .int v1), (3, .int v3)]) (st' := [.int v1, .ref z4]) rfl ?_
        refine x_aI e rfl rfl (fun z5 e => ?_)
        refine wp_p (j := J_Y_attribute) 1 (pc' := 100) (lv' := [(0, .ref v0), (1, .int v1), (3, .int v3)]) (st' := [.int 17, .int z5]) rfl ?_
        refine x_ne e rfl (fun e => ?_) (fun e => ?_)
        · refine wp_p (j := J_Y_attribute) 1 (pc' := 104) (lv' := [(0, .ref v0), (1, .int v1), (3, .int v3)]) (st' := [.int (-1)]) rfl ?_
          have e := Option.some.inj e; subst e; exact wp_iret (ty := .int) rfl rfl rfl c
        · refine wp_p (j := J_Y_attribute) 4 (pc' := 110) (lv' := [(4, .int (4 * v1)), (0, .ref v0), (1, .int v1), (3, .int v3)]) (st' := []) rfl ?_
          obtain ⟨s6, h7, e⟩ := bd e
          refine wp_lv (lv' := [(0, .ref v0), (1, .int v1), (4, .int (4 * v1))]) rfl ⟨rfl, rfl, rfl, trivial⟩ ?_
          refine l_Y_attribute_110 h7 ?_
          rcases s6 with z8 | _
          · replace e := (us_l e)
            show wp (ab_ext L xs) J_Y_attribute 166 [(0, .ref v0), (4, .int z8)] [] (hp g) Q
            refine wp_p (j := J_Y_attribute) 2 (pc' := 168) (lv' := [(0, .ref v0), (4, .int z8)]) (st' := [.int 0, .ref v0]) rfl ?_
            refine x_pI e rfl rfl fw_12_5 rfl (fun g9 e => ?_)
            refine wp_p (j := J_Y_attribute) 2 (pc' := 173) (lv' := [(0, .ref v0), (4, .int z8)]) (st' := [.ref v0, .ref v0]) rfl ?_
            refine x_gQ e rfl rfl fd_12_59 rfl (fun z10 e => ?_)
            refine wp_p (j := J_Y_attribute) 4 (pc' := 182) (lv' := [(0, .ref v0), (4, .int z8)]) (st' := [.ref v0, .int (60 * z8), .ref z10, .ref v0]) rfl ?_
            refine x_gQ e rfl rfl fd_12_60 rfl (fun z11 e => ?_)
            refine wp_p (j := J_Y_attribute) 1 (pc' := 187) (lv' := [(0, .ref v0), (4, .int z8)]) (st' := [.int z8, .ref z11, .int (60 * z8), .ref z10, .ref v0]) rfl ?_
            refine x_aI e rfl rfl (fun z12 e => ?_)
            refine x_cv0 (As := [.ref z10, .int (60 * z8), .int z12]) (rest := []) e rfl rfl rfl rfl rfl rfl (fun h => d_Y_sayAll h ⟨rfl, rfl⟩) (fun g13 e => ?_)
            refine wp_p (j := J_Y_attribute) 1 (pc' := 192) (lv' := [(0, .ref v0), (4, .int z8)]) (st' := [.ref v0]) rfl ?_
            refine x_gI e rfl rfl fd_12_5 rfl (fun z14 e => ?_)
            have e := Option.some.inj e; subst e; exact wp_iret (ty := .int) rfl rfl rfl c
          · replace e := (us_r e)
            show wp (ab_ext L xs) J_Y_attribute 202 [] [] (hp g) Q
            refine wp_p (j := J_Y_attribute) 1 (pc' := 203) (lv' := []) (st' := [.int (-1)]) rfl ?_
            have e := Option.some.inj e; subst e; exact wp_iret (ty := .int) rfl rfl rfl c
noncomputable def M_Y_attribute (v0 : Nat) (v1 : Int32) (g : g_S) : Option (Int32 × g_S) :=
  c2 (vc g 112 v0 (M_Y_take v0 g)) fun z1 g2 =>
  if z1 < 0 then
    (L_Y_attribute_16 v0 v1 0 g2).bind <| fun z5 =>
    k_Y_attribute_64 v0 v1 z5 g2
  else
    (M_Y_wrong z1 g2).bind fun z6 =>
    some (z6, g2)
set_option maxRecDepth 20000 in
theorem d_Y_attribute {L : Nat} {xs : Nat → Int32} {Q : Option Value → ab_H → Prop} {v0 : Nat} {v1 : Int32} {g : g_S} {out : Int32 × g_S} (e : M_Y_attribute v0 v1 g = some out) (c : Q (some (.int out.1)) (hp out.2)) : mw (ab_ext L xs) J_Y_attribute [.ref v0, .int v1] (hp g) Q := by
  unfold M_Y_attribute at e
  refine wp_p (j := J_Y_attribute) 1 (pc' := 1) (lv' := [(0, .ref v0), (1, .int v1)]) (st' := [.ref v0]) rfl ?_
  refine x_cv2 (As := []) (rest := []) Value.int e rfl rfl rfl rfl rfl rfl (fun h => d_Y_take h ⟨rfl, rfl⟩) (fun z1 g2 e => ?_)
  refine wp_p (j := J_Y_attribute) 2 (pc' := 6) (lv' := [(2, .int z1), (0, .ref v0), (1, .int v1)]) (st' := [.int z1]) rfl ?_
  refine z_lt e rfl (fun e => ?_) (fun e => ?_)
  · refine wp_p (j := J_Y_attribute) 2 (pc' := 16) (lv' := [(3, .int 0), (2, .int z1), (0, .ref v0), (1, .int v1)]) (st' := []) rfl ?_
    obtain ⟨z5, h4, e⟩ := bd e
    refine wp_lv (lv' := [(0, .ref v0), (1, .int v1), (3, .int 0)]) rfl ⟨rfl, rfl, rfl, trivial⟩ ?_
    refine l_Y_attribute_16 h4 ?_
    show wp (ab_ext L xs) J_Y_attribute 64 [(0, .ref v0), (1, .int v1), (3, .int z5)] [] (hp g2) Q
    exact wp_lv (lv' := [(0, .ref v0), (1, .int v1), (3, .int z5)]) rfl ⟨rfl, rfl, rfl, trivial⟩ (x_Y_attribute_64 e c)
  · refine wp_p (j := J_Y_attribute) 1 (pc' := 10) (lv' := [(2, .int z1), (0, .ref v0), (1, .int v1)]) (st' := [.int z1]) rfl ?_
    refine x_cs1 (As := [.int z1]) (rest := []) Value.int e rfl rfl rfl rfl rfl (fun h => d_Y_wrong h ⟨rfl, rfl⟩) (fun z6 e => ?_)
    have e := Option.some.inj e; subst e; exact wp_iret (ty := .int) rfl rfl rfl c
noncomputable def M_Y_fault (v0 : Nat) (v1 : Int32) (v2 : Int32) (g : g_S) : Option Int32 :=
  if v1 < 0 then
    some (-1)
  else
    (rI g 112 v0 70).bind fun z1 =>
    if v1 < z1 then
      if v1 < 40 then
        if v2 = 0 then
          (rQ g 112 v0 71).bind fun z2 =>
          (aI g 0 z2 v1).bind fun z3 =>
          some z3
        else
          if v2 = 1 then
            (rQ g 112 v0 72).bind fun z4 =>
            (aI g 0 z4 v1).bind fun z5 =>
            some z5
          else
            some (-1)
      else
        some (-1)
    else
      some (-1)
set_option maxRecDepth 20000 in
theorem d_Y_fault {L : Nat} {xs : Nat → Int32} {Q : Option Value → ab_H → Prop} {v0 : Nat} {v1 : Int32} {v2 : Int32} {g : g_S} {out : Int32} (e : M_Y_fault v0 v1 v2 g = some out) (c : Q (some (.int out)) (hp g)) : mw (ab_ext L xs) J_Y_fault [.ref v0, .int v1, .int v2] (hp g) Q := by
  unfold M_Y_fault at e
  refine wp_p (j := J_Y_fault) 1 (pc' := 1) (lv' := [(0, .ref v0), (1, .int v1), (2, .int v2)]) (st' := [.int v1]) rfl ?_
  refine z_lt e rfl (fun e => ?_) (fun e => ?_)
  · refine wp_p (j := J_Y_fault) 1 (pc' := 19) (lv' := [(0, .ref v0), (1, .int v1), (2, .int v2)]) (st' := [.int (-1)]) rfl ?_
    have e := Option.some.inj e; subst e; exact wp_iret (ty := .int) rfl rfl rfl c
  · refine wp_p (j := J_Y_fault) 2 (pc' := 6) (lv' := [(0, .ref v0), (1, .int v1), (2, .int v2)]) (st' := [.ref v0, .int v1]) rfl ?_
    refine x_gI e rfl rfl fd_12_70 rfl (fun z1 e => ?_)
    refine x_ge e rfl (fun e => ?_) (fun e => ?_)
    · refine wp_p (j := J_Y_fault) 2 (pc' := 15) (lv' := [(0, .ref v0), (1, .int v1), (2, .int v2)]) (st' := [.int 40, .int v1]) rfl ?_
      refine x_lt e rfl (fun e => ?_) (fun e => ?_)
      · refine wp_p (j := J_Y_fault) 1 (pc' := 21) (lv' := [(0, .ref v0), (1, .int v1), (2, .int v2)]) (st' := [.int v2]) rfl ?_
        refine z_ne e rfl (fun e => ?_) (fun e => ?_)
        · refine wp_p (j := J_Y_fault) 1 (pc' := 25) (lv' := [(0, .ref v0), (1, .int v1), (2, .int v2)]) (st' := [.ref v0]) rfl ?_
          refine x_gQ e rfl rfl fd_12_71 rfl (fun z2 e => ?_)
          refine wp_p (j := J_Y_fault) 1 (pc' := 29) (lv' := [(0, .ref v0), (1, .int v1), (2, .int v2)]) (st' := [.int v1, .ref z2]) rfl ?_
          refine x_aI e rfl rfl (fun z3 e => ?_)
          refine wp_p (j := J_Y_fault) 1 (pc' := 48) (lv' := [(0, .ref v0), (1, .int v1), (2, .int v2)]) (st' := [.int z3]) rfl ?_
          have e := Option.some.inj e; subst e; exact wp_iret (ty := .int) rfl rfl rfl c
        · refine wp_p (j := J_Y_fault) 2 (pc' := 35) (lv' := [(0, .ref v0), (1, .int v1), (2, .int v2)]) (st' := [.int 1, .int v2]) rfl ?_
          refine x_ne e rfl (fun e => ?_) (fun e => ?_)
          · refine wp_p (j := J_Y_fault) 1 (pc' := 39) (lv' := [(0, .ref v0), (1, .int v1), (2, .int v2)]) (st' := [.ref v0]) rfl ?_
            refine x_gQ e rfl rfl fd_12_72 rfl (fun z4 e => ?_)
            refine wp_p (j := J_Y_fault) 1 (pc' := 43) (lv' := [(0, .ref v0), (1, .int v1), (2, .int v2)]) (st' := [.int v1, .ref z4]) rfl ?_
            refine x_aI e rfl rfl (fun z5 e => ?_)
            refine wp_p (j := J_Y_fault) 1 (pc' := 48) (lv' := [(0, .ref v0), (1, .int v1), (2, .int v2)]) (st' := [.int z5]) rfl ?_
            have e := Option.some.inj e; subst e; exact wp_iret (ty := .int) rfl rfl rfl c
          · refine wp_p (j := J_Y_fault) 1 (pc' := 48) (lv' := [(0, .ref v0), (1, .int v1), (2, .int v2)]) (st' := [.int (-1)]) rfl ?_
            have e := Option.some.inj e; subst e; exact wp_iret (ty := .int) rfl rfl rfl c
      · refine wp_p (j := J_Y_fault) 1 (pc' := 19) (lv' := [(0, .ref v0), (1, .int v1), (2, .int v2)]) (st' := [.int (-1)]) rfl ?_
        have e := Option.some.inj e; subst e; exact wp_iret (ty := .int) rfl rfl rfl c
    · refine wp_p (j := J_Y_fault) 1 (pc' := 19) (lv' := [(0, .ref v0), (1, .int v1), (2, .int v2)]) (st' := [.int (-1)]) rfl ?_
      have e := Option.some.inj e; subst e; exact wp_iret (ty := .int) rfl rfl rfl c
