/-! methods as functions, group 14 -/
def cL_Y_lineThing_2 (L : Nat) (xs : Nat → Int32) (Q : Option Value → ab_H → Prop) (v0 : Nat) (v1 : Int32) (out : (Int32 × g_S) ⊕ (g_S)) : Prop := match out with
  | .inl s => wp (ab_ext L xs) J_Y_lineThing 2 [(0, .ref v0), (1, .int v1), (2, .int s.1)] [] (hp s.2) Q
  | .inr s => wp (ab_ext L xs) J_Y_lineThing 196 [] [] (hp s) Q
noncomputable def k_Y_lineThing_173 (v0 : Nat) (v1 : Int32) (v2 : Int32) (v3 : Int32) (g : g_S) : Option ((Int32 × g_S) ⊕ (g_S)) :=
  if v3 = 0 then
    (vc g 112 v0 (M_Y_after v0 v2 v1 g)).bind fun z1 =>
    some (.inl (z1, g))
  else
    (vc g 112 v0 (M_Y_behind v0 v2 v1 g)).bind fun z2 =>
    some (.inl (z2, g))
set_option maxRecDepth 20000 in
theorem x_Y_lineThing_173 {L : Nat} {xs : Nat → Int32} {Q : Option Value → ab_H → Prop} {v0 : Nat} {v1 : Int32} {v2 : Int32} {v3 : Int32} {g : g_S} {out : (Int32 × g_S) ⊕ (g_S)} (e : k_Y_lineThing_173 v0 v1 v2 v3 g = some out) (c : cL_Y_lineThing_2 L xs Q v0 v1 out) : wp (ab_ext L xs) J_Y_lineThing 173 [(0, .ref v0), (1, .int v1), (2, .int v2), (3, .int v3)] [] (hp g) Q := by
  unfold k_Y_lineThing_173 at e
  refine wp_p (j := J_Y_lineThing) 1 (pc' := 174) (lv' := [(0, .ref v0), (1, .int v1), (2, .int v2), (3, .int v3)]) (st' := [.int v3]) rfl ?_
  refine z_eq e rfl (fun e => ?_) (fun e => ?_)
  · refine wp_p (j := J_Y_lineThing) 3 (pc' := 189) (lv' := [(0, .ref v0), (1, .int v1), (2, .int v2), (3, .int v3)]) (st' := [.int v1, .int v2, .ref v0]) rfl ?_
    refine x_cv1 (As := [.int v2, .int v1]) (rest := []) Value.int e rfl rfl rfl rfl rfl rfl (fun h => d_Y_after h ⟨rfl, rfl⟩) (fun z1 e => ?_)
    refine wp_p (j := J_Y_lineThing) 2 (pc' := 2) (lv' := [(2, .int z1), (0, .ref v0), (1, .int v1), (3, .int v3)]) (st' := []) rfl ?_
    have e := Option.some.inj e; subst e; exact wp_lv (lv' := [(0, .ref v0), (1, .int v1), (2, .int z1)]) rfl ⟨rfl, rfl, rfl, trivial⟩ c
  · refine wp_p (j := J_Y_lineThing) 3 (pc' := 180) (lv' := [(0, .ref v0), (1, .int v1), (2, .int v2), (3, .int v3)]) (st' := [.int v1, .int v2, .ref v0]) rfl ?_
    refine x_cv1 (As := [.int v2, .int v1]) (rest := []) Value.int e rfl rfl rfl rfl rfl rfl (fun h => d_Y_behind h ⟨rfl, rfl⟩) (fun z2 e => ?_)
    refine wp_p (j := J_Y_lineThing) 3 (pc' := 2) (lv' := [(2, .int z2), (0, .ref v0), (1, .int v1), (3, .int v3)]) (st' := []) rfl ?_
    have e := Option.some.inj e; subst e; exact wp_lv (lv' := [(0, .ref v0), (1, .int v1), (2, .int z2)]) rfl ⟨rfl, rfl, rfl, trivial⟩ c
noncomputable def k_Y_lineThing_172 (v0 : Nat) (v1 : Int32) (v2 : Int32) (w0 : Int32) (g : g_S) : Option ((Int32 × g_S) ⊕ (g_S)) :=
  k_Y_lineThing_173 v0 v1 v2 w0 g
set_option maxRecDepth 20000 in
theorem x_Y_lineThing_172 {L : Nat} {xs : Nat → Int32} {Q : Option Value → ab_H → Prop} {v0 : Nat} {v1 : Int32} {v2 : Int32} {w0 : Int32} {g : g_S} {out : (Int32 × g_S) ⊕ (g_S)} (e : k_Y_lineThing_172 v0 v1 v2 w0 g = some out) (c : cL_Y_lineThing_2 L xs Q v0 v1 out) : wp (ab_ext L xs) J_Y_lineThing 172 [(0, .ref v0), (1, .int v1), (2, .int v2)] [.int w0] (hp g) Q := by
  unfold k_Y_lineThing_172 at e
  refine wp_p (j := J_Y_lineThing) 1 (pc' := 173) (lv' := [(3, .int w0), (0, .ref v0), (1, .int v1), (2, .int v2)]) (st' := []) rfl ?_
  exact wp_lv (lv' := [(0, .ref v0), (1, .int v1), (2, .int v2), (3, .int w0)]) rfl ⟨rfl, rfl, rfl, rfl, trivial⟩ (x_Y_lineThing_173 e c)
noncomputable def k_Y_lineThing_131 (v0 : Nat) (v1 : Int32) (v2 : Int32) (v3 : Int32) (g : g_S) : Option ((Int32 × g_S) ⊕ (g_S)) :=
  (wZ g 112 v0 144 0).bind fun g1 =>
  k_Y_lineThing_173 v0 v1 v2 v3 g1
set_option maxRecDepth 20000 in
theorem x_Y_lineThing_131 {L : Nat} {xs : Nat → Int32} {Q : Option Value → ab_H → Prop} {v0 : Nat} {v1 : Int32} {v2 : Int32} {v3 : Int32} {g : g_S} {out : (Int32 × g_S) ⊕ (g_S)} (e : k_Y_lineThing_131 v0 v1 v2 v3 g = some out) (c : cL_Y_lineThing_2 L xs Q v0 v1 out) : wp (ab_ext L xs) J_Y_lineThing 131 [(0, .ref v0), (1, .int v1), (2, .int v2), (3, .int v3)] [] (hp g) Q := by
  unfold k_Y_lineThing_131 at e
  refine wp_p (j := J_Y_lineThing) 2 (pc' := 133) (lv' := [(0, .ref v0), (1, .int v1), (2, .int v2), (3, .int v3)]) (st' := [.int 0, .ref v0]) rfl ?_
  refine x_pZ e rfl rfl fw_12_144 rfl (fun g1 e => ?_)
  refine wp_p (j := J_Y_lineThing) 1 (pc' := 173) (lv' := [(0, .ref v0), (1, .int v1), (2, .int v2), (3, .int v3)]) (st' := []) rfl ?_
  exact wp_lv (lv' := [(0, .ref v0), (1, .int v1), (2, .int v2), (3, .int v3)]) rfl ⟨rfl, rfl, rfl, rfl, trivial⟩ (x_Y_lineThing_173 e c)
noncomputable def b_Y_lineThing_2 (v0 : Nat) (v1 : Int32) (v2 : Int32) (g : g_S) : Option ((Int32 × g_S) ⊕ (g_S)) :=
  if v2 = (-1) then
    some (.inr g)
  else
    (vc g 112 v0 (M_Y_isBox v0 v2 g)).bind fun z1 =>
    if z1 = 0 then
      (rQ g 112 v0 107).bind fun z2 =>
      (aI g 0 z2 v2).bind fun z3 =>
      if z3 = 4 then
        (rQ g 112 v0 112).bind fun z4 =>
        (aI g 0 z4 v2).bind fun z5 =>
        (vc g 112 v0 (M_Y_of v0 v2 8 g)).bind fun z6 =>
        (vc g 112 v0 (M_Y_putItem v0 ((-1) - v2) z5 z6 g)).bind fun g7 =>
        k_Y_lineThing_173 v0 v1 v2 1 g7
      else
        (rQ g 112 v0 107).bind fun z8 =>
        (aI g 0 z8 v2).bind fun z9 =>
        if z9 = 5 then
          (rI g 112 v0 131).bind fun z10 =>
          if 0 < z10 then
            (vc g 112 v0 (M_Y_endLine v0 g)).bind fun g11 =>
            k_Y_lineThing_131 v0 v1 v2 1 g11
          else
            (rI g 112 v0 127).bind fun z12 =>
            (vc g 112 v0 (M_Y_of v0 v2 8 g)).bind fun z13 =>
            (wI g 112 v0 127 (z12 + (7 * z13))).bind fun g14 =>
            k_Y_lineThing_131 v0 v1 v2 1 g14
        else
          (rQ g 112 v0 107).bind fun z15 =>
          (aI g 0 z15 v2).bind fun z16 =>
          if z16 = 6 then
            (vc g 112 v0 (M_Y_lineText v0 v2 g)).bind fun g17 =>
            k_Y_lineThing_173 v0 v1 v2 1 g17
          else
            (rQ g 112 v0 107).bind fun z18 =>
            (aI g 0 z18 v2).bind fun z19 =>
            if z19 = 0 then
              k_Y_lineThing_172 v0 v1 v2 1 g
            else
              k_Y_lineThing_172 v0 v1 v2 0 g
    else
      (rI g 112 v0 131).bind fun z20 =>
      if 0 < z20 then
        (rQ g 112 v0 142).bind fun z21 =>
        (rI g 112 v0 143).bind fun z22 =>
        (sI g z21 z22 v2).bind fun g23 =>
        (rI g23 112 v0 143).bind fun z24 =>
        (wI g23 112 v0 143 (z24 + 1)).bind fun g25 =>
        k_Y_lineThing_173 v0 v1 v2 1 g25
      else
        (vc g 112 v0 (M_Y_putFloat v0 v2 g)).bind fun g26 =>
        k_Y_lineThing_173 v0 v1 v2 1 g26
set_option maxRecDepth 20000 in
theorem y_Y_lineThing_2 {L : Nat} {xs : Nat → Int32} {Q : Option Value → ab_H → Prop} {v0 : Nat} {v1 : Int32} {v2 : Int32} {g : g_S} {out : (Int32 × g_S) ⊕ (g_S)} (e : b_Y_lineThing_2 v0 v1 v2 g = some out) (c : cL_Y_lineThing_2 L xs Q v0 v1 out) : wp (ab_ext L xs) J_Y_lineThing 2 [(0, .ref v0), (1, .int v1), (2, .int v2)] [] (hp g) Q := by
  unfold b_Y_lineThing_2 at e
  refine wp_p (j := J_Y_lineThing) 2 (pc' := 4) (lv' := [(0, .ref v0), (1, .int v1), (2, .int v2)]) (st' := [.int (-1), .int v2]) rfl ?_
  refine x_eq e rfl (fun e => ?_) (fun e => ?_)
  · have e := Option.some.inj e; subst e; exact wp_lv (lv' := []) rfl trivial c
  · refine wp_p (j := J_Y_lineThing) 4 (pc' := 11) (lv' := [(3, .int 1), (0, .ref v0), (1, .int v1), (2, .int v2)]) (st' := [.int v2, .ref v0]) rfl ?_
    refine x_cv1 (As := [.int v2]) (rest := []) Value.int e rfl rfl rfl rfl rfl rfl (fun h => d_Y_isBox h ⟨rfl, rfl⟩) (fun z1 e => ?_)
    refine z_eq e rfl (fun e => ?_) (fun e => ?_)
    · refine wp_p (j := J_Y_lineThing) 1 (pc' := 56) (lv' := [(3, .int 1), (0, .ref v0), (1, .int v1), (2, .int v2)]) (st' := [.ref v0]) rfl ?_
      refine x_gQ e rfl rfl fd_12_107 rfl (fun z2 e => ?_)
      refine wp_p (j := J_Y_lineThing) 1 (pc' := 60) (lv' := [(3, .int 1), (0, .ref v0), (1, .int v1), (2, .int v2)]) (st' := [.int v2, .ref z2]) rfl ?_
      refine x_aI e rfl rfl (fun z3 e => ?_)
      refine wp_p (j := J_Y_lineThing) 1 (pc' := 62) (lv' := [(3, .int 1), (0, .ref v0), (1, .int v1), (2, .int v2)]) (st' := [.int 4, .int z3]) rfl ?_
      refine x_ne e rfl (fun e => ?_) (fun e => ?_)
      · refine wp_p (j := J_Y_lineThing) 5 (pc' := 70) (lv' := [(3, .int 1), (0, .ref v0), (1, .int v1), (2, .int v2)]) (st' := [.ref v0, .int ((-1) - v2), .ref v0]) rfl ?_
        refine x_gQ e rfl rfl fd_12_112 rfl (fun z4 e => ?_)
        refine wp_p (j := J_Y_lineThing) 1 (pc' := 74) (lv' := [(3, .int 1), (0, .ref v0), (1, .int v1), (2, .int v2)]) (st' := [.int v2, .ref z4, .int ((-1) - v2), .ref v0]) rfl ?_
        refine x_aI e rfl rfl (fun z5 e => ?_)
        refine wp_p (j := J_Y_lineThing) 3 (pc' := 79) (lv' := [(3, .int 1), (0, .ref v0), (1, .int v1), (2, .int v2)]) (st' := [.int 8, .int v2, .ref v0, .int z5, .int ((-1) - v2), .ref v0]) rfl ?_
        refine x_cv1 (As := [.int v2, .int 8]) (rest := [.int z5, .int ((-1) - v2), .ref v0]) Value.int e rfl rfl rfl rfl rfl rfl (fun h => d_Y_of h ⟨rfl, rfl⟩) (fun z6 e => ?_)
        refine x_cv0 (As := [.int ((-1) - v2), .int z5, .int z6]) (rest := []) e rfl rfl rfl rfl rfl rfl (fun h => d_Y_putItem h ⟨rfl, rfl⟩) (fun g7 e => ?_)
        refine wp_p (j := J_Y_lineThing) 1 (pc' := 173) (lv' := [(3, .int 1), (0, .ref v0), (1, .int v1), (2, .int v2)]) (st' := []) rfl ?_
        exact wp_lv (lv' := [(0, .ref v0), (1, .int v1), (2, .int v2), (3, .int 1)]) rfl ⟨rfl, rfl, rfl, rfl, trivial⟩ (x_Y_lineThing_173 e c)
      · refine wp_p (j := J_Y_lineThing) 1 (pc' := 89) (lv' := [(3, .int 1), (0, .ref v0), (1, .int v1), (2, .int v2)]) (st' := [.ref v0]) rfl ?_
        refine x_gQ e rfl rfl fd_12_107 rfl (fun z8 e => ?_)
        refine wp_p (j := J_Y_lineThing) 1 (pc' := 93) (lv' := [(3, .int 1), (0, .ref v0), (1, .int v1), (2, .int v2)]) (st' := [.int v2, .ref z8]) rfl ?_
        refine x_aI e rfl rfl (fun z9 e => ?_)
        refine wp_p (j := J_Y_lineThing) 1 (pc' := 95) (lv' := [(3, .int 1), (0, .ref v0), (1, .int v1), (2, .int v2)]) (st' := [.int 5, .int z9]) rfl ?_
        refine x_ne e rfl (fun e => ?_) (fun e => ?_)
        · refine wp_p (j := J_Y_lineThing) 1 (pc' := 99) (lv' := [(3, .int 1), (0, .ref v0), (1, .int v1), (2, .int v2)]) (st' := [.ref v0]) rfl ?_
          refine x_gI e rfl rfl fd_12_131 rfl (fun z10 e => ?_)
          refine z_le e rfl (fun e => ?_) (fun e => ?_)
          · refine wp_p (j := J_Y_lineThing) 1 (pc' := 106) (lv' := [(3, .int 1), (0, .ref v0), (1, .int v1), (2, .int v2)]) (st' := [.ref v0]) rfl ?_
            refine x_cv0 (As := []) (rest := []) e rfl rfl rfl rfl rfl rfl (fun h => d_Y_endLine h ⟨rfl, rfl⟩) (fun g11 e => ?_)
            refine wp_p (j := J_Y_lineThing) 1 (pc' := 131) (lv' := [(3, .int 1), (0, .ref v0), (1, .int v1), (2, .int v2)]) (st' := []) rfl ?_
            exact wp_lv (lv' := [(0, .ref v0), (1, .int v1), (2, .int v2), (3, .int 1)]) rfl ⟨rfl, rfl, rfl, rfl, trivial⟩ (x_Y_lineThing_131 e c)
          · refine wp_p (j := J_Y_lineThing) 2 (pc' := 114) (lv' := [(3, .int 1), (0, .ref v0), (1, .int v1), (2, .int v2)]) (st' := [.ref v0, .ref v0]) rfl ?_
            refine x_gI e rfl rfl fd_12_127 rfl (fun z12 e => ?_)
            refine wp_p (j := J_Y_lineThing) 4 (pc' := 123) (lv' := [(3, .int 1), (0, .ref v0), (1, .int v1), (2, .int v2)]) (st' := [.int 8, .int v2, .ref v0, .int 7, .int z12, .ref v0]) rfl ?_
            refine x_cv1 (As := [.int v2, .int 8]) (rest := [.int 7, .int z12, .ref v0]) Value.int e rfl rfl rfl rfl rfl rfl (fun h => d_Y_of h ⟨rfl, rfl⟩) (fun z13 e => ?_)
            refine wp_p (j := J_Y_lineThing) 2 (pc' := 128) (lv' := [(3, .int 1), (0, .ref v0), (1, .int v1), (2, .int v2)]) (st' := [.int (z12 + (7 * z13)), .ref v0]) rfl ?_
            refine x_pI e rfl rfl fw_12_127 rfl (fun g14 e => ?_)
            exact wp_lv (lv' := [(0, .ref v0), (1, .int v1), (2, .int v2), (3, .int 1)]) rfl ⟨rfl, rfl, rfl, rfl, trivial⟩ (x_Y_lineThing_131 e c)
        · refine wp_p (j := J_Y_lineThing) 1 (pc' := 140) (lv' := [(3, .int 1), (0, .ref v0), (1, .int v1), (2, .int v2)]) (st' := [.ref v0]) rfl ?_
          refine x_gQ e rfl rfl fd_12_107 rfl (fun z15 e => ?_)
          refine wp_p (j := J_Y_lineThing) 1 (pc' := 144) (lv' := [(3, .int 1), (0, .ref v0), (1, .int v1), (2, .int v2)]) (st' := [.int v2, .ref z15]) rfl ?_
          refine x_aI e rfl rfl (fun z16 e => ?_)
          refine wp_p (j := J_Y_lineThing) 1 (pc' := 147) (lv' := [(3, .int 1), (0, .ref v0), (1, .int v1), (2, .int v2)]) (st' := [.int 6, .int z16]) rfl ?_
          refine x_ne e rfl (fun e => ?_) (fun e => ?_)
          · refine wp_p (j := J_Y_lineThing) 2 (pc' := 152) (lv' := [(3, .int 1), (0, .ref v0), (1, .int v1), (2, .int v2)]) (st' := [.int v2, .ref v0]) rfl ?_
            refine x_cv0 (As := [.int v2]) (rest := []) e rfl rfl rfl rfl rfl rfl (fun h => d_Y_lineText h ⟨rfl, rfl⟩) (fun g17 e => ?_)
            refine wp_p (j := J_Y_lineThing) 1 (pc' := 173) (lv' := [(3, .int 1), (0, .ref v0), (1, .int v1), (2, .int v2)]) (st' := []) rfl ?_
            exact wp_lv (lv' := [(0, .ref v0), (1, .int v1), (2, .int v2), (3, .int 1)]) rfl ⟨rfl, rfl, rfl, rfl, trivial⟩ (x_Y_lineThing_173 e c)
          · refine wp_p (j := J_Y_lineThing) 1 (pc' := 159) (lv' := [(3, .int 1), (0, .ref v0), (1, .int v1), (2, .int v2)]) (st' := [.ref v0]) rfl ?_
            refine x_gQ e rfl rfl fd_12_107 rfl (fun z18 e => ?_)
            refine wp_p (j := J_Y_lineThing) 1 (pc' := 163) (lv' := [(3, .int 1), (0, .ref v0), (1, .int v1), (2, .int v2)]) (st' := [.int v2, .ref z18]) rfl ?_
            refine x_aI e rfl rfl (fun z19 e => ?_)
            refine z_ne e rfl (fun e => ?_) (fun e => ?_)
            · refine wp_p (j := J_Y_lineThing) 2 (pc' := 172) (lv' := [(3, .int 1), (0, .ref v0), (1, .int v1), (2, .int v2)]) (st' := [.int 1]) rfl ?_
              exact wp_lv (lv' := [(0, .ref v0), (1, .int v1), (2, .int v2)]) rfl ⟨rfl, rfl, rfl, trivial⟩ (x_Y_lineThing_172 e c)
            · refine wp_p (j := J_Y_lineThing) 1 (pc' := 172) (lv' := [(3, .int 1), (0, .ref v0), (1, .int v1), (2, .int v2)]) (st' := [.int 0]) rfl ?_
              exact wp_lv (lv' := [(0, .ref v0), (1, .int v1), (2, .int v2)]) rfl ⟨rfl, rfl, rfl, trivial⟩ (x_Y_lineThing_172 e c)
    · refine wp_p (j := J_Y_lineThing) 1 (pc' := 18) (lv' := [(3, .int 1), (0, .ref v0), (1, .int v1), (2, .int v2)]) (st' := [.ref v0]) rfl ?_
      refine x_gI e rfl rfl fd_12_131 rfl (fun z20 e => ?_)
      refine z_le e rfl (fun e => ?_) (fun e => ?_)
      · refine wp_p (j := J_Y_lineThing) 1 (pc' := 25) (lv' := [(3, .int 1), (0, .ref v0), (1, .int v1), (2, .int v2)]) (st' := [.ref v0]) rfl ?_
        refine x_gQ e rfl rfl fd_12_142 rfl (fun z21 e => ?_)
        refine wp_p (j := J_Y_lineThing) 1 (pc' := 29) (lv' := [(3, .int 1), (0, .ref v0), (1, .int v1), (2, .int v2)]) (st' := [.ref v0, .ref z21]) rfl ?_
        refine x_gI e rfl rfl fd_12_143 rfl (fun z22 e => ?_)
        refine wp_p (j := J_Y_lineThing) 1 (pc' := 33) (lv' := [(3, .int 1), (0, .ref v0), (1, .int v1), (2, .int v2)]) (st' := [.int v2, .int z22, .ref z21]) rfl ?_
        refine x_sI e rfl rfl (fun g23 e => ?_)
        refine wp_p (j := J_Y_lineThing) 2 (pc' := 36) (lv' := [(3, .int 1), (0, .ref v0), (1, .int v1), (2, .int v2)]) (st' := [.ref v0, .ref v0]) rfl ?_
        refine x_gI e rfl rfl fd_12_143 rfl (fun z24 e => ?_)
        refine wp_p (j := J_Y_lineThing) 2 (pc' := 41) (lv' := [(3, .int 1), (0, .ref v0), (1, .int v1), (2, .int v2)]) (st' := [.int (z24 + 1), .ref v0]) rfl ?_
        refine x_pI e rfl rfl fw_12_143 rfl (fun g25 e => ?_)
        refine wp_p (j := J_Y_lineThing) 1 (pc' := 173) (lv' := [(3, .int 1), (0, .ref v0), (1, .int v1), (2, .int v2)]) (st' := []) rfl ?_
        exact wp_lv (lv' := [(0, .ref v0), (1, .int v1), (2, .int v2), (3, .int 1)]) rfl ⟨rfl, rfl, rfl, rfl, trivial⟩ (x_Y_lineThing_173 e c)
      · refine wp_p (j := J_Y_lineThing) 2 (pc' := 49) (lv' := [(3, .int 1), (0, .ref v0), (1, .int v1), (2, .int v2)]) (st' := [.int v2, .ref v0]) rfl ?_
        refine x_cv0 (As := [.int v2]) (rest := []) e rfl rfl rfl rfl rfl rfl (fun h => d_Y_putFloat h ⟨rfl, rfl⟩) (fun g26 e => ?_)
        refine wp_p (j := J_Y_lineThing) 1 (pc' := 173) (lv' := [(3, .int 1), (0, .ref v0), (1, .int v1), (2, .int v2)]) (st' := []) rfl ?_
        exact wp_lv (lv' := [(0, .ref v0), (1, .int v1), (2, .int v2), (3, .int 1)]) rfl ⟨rfl, rfl, rfl, rfl, trivial⟩ (x_Y_lineThing_173 e c)
noncomputable def L_Y_lineThing_2 (v0 : Nat) (v1 : Int32) (v2 : Int32) (g : g_S) : Option (g_S) := it (fun s : Int32 × g_S => b_Y_lineThing_2 v0 v1 s.1 s.2) (v2, g)
theorem l_Y_lineThing_2 {L : Nat} {xs : Nat → Int32} {Q : Option Value → ab_H → Prop} {v0 : Nat} {v1 : Int32} {v2 : Int32} {g : g_S} {r : g_S} (e : L_Y_lineThing_2 v0 v1 v2 g = some r) (c : cL_Y_lineThing_2 L xs Q v0 v1 (.inr r)) : wp (ab_ext L xs) J_Y_lineThing 2 [(0, .ref v0), (1, .int v1), (2, .int v2)] [] (hp g) Q :=
  it_wp (P := fun s : Int32 × g_S => wp (ab_ext L xs) J_Y_lineThing 2 [(0, .ref v0), (1, .int v1), (2, .int s.1)] [] (hp s.2) Q) (E := fun r => cL_Y_lineThing_2 L xs Q v0 v1 (.inr r)) (fun s out e c => y_Y_lineThing_2 e (by cases out <;> exact c)) e c
theorem L_Y_lineThing_2_eq (v0 : Nat) (v1 : Int32) (v2 : Int32) (g : g_S) : L_Y_lineThing_2 v0 v1 v2 g = itc (b_Y_lineThing_2 v0 v1 v2 g) (fun s => L_Y_lineThing_2 v0 v1 s.1 s.2) := it_eq2 (fun s : Int32 × g_S => b_Y_lineThing_2 v0 v1 s.1 s.2) (v2, g)
noncomputable def M_Y_lineThing (v0 : Nat) (v1 : Int32) (g : g_S) : Option g_S :=
  (L_Y_lineThing_2 v0 v1 v1 g).bind <| fun g3 =>
  some g3
set_option maxRecDepth 20000 in
theorem d_Y_lineThing {L : Nat} {xs : Nat → Int32} {Q : Option Value → ab_H → Prop} {v0 : Nat} {v1 : Int32} {g : g_S} {out : g_S} (e : M_Y_lineThing v0 v1 g = some out) (c : Q none (hp out)) : mw (ab_ext L xs) J_Y_lineThing [.ref v0, .int v1] (hp g) Q := by
  unfold M_Y_lineThing at e
  refine wp_p (j := J_Y_lineThing) 2 (pc' := 2) (lv' := [(2, .int v1), (0, .ref v0), (1, .int v1)]) (st' := []) rfl ?_
  obtain ⟨g3, h2, e⟩ := bd e
  refine wp_lv (lv' := [(0, .ref v0), (1, .int v1), (2, .int v1)]) rfl ⟨rfl, rfl, rfl, trivial⟩ ?_
  refine l_Y_lineThing_2 h2 ?_
  show wp (ab_ext L xs) J_Y_lineThing 196 [] [] (hp g3) Q
  have e := Option.some.inj e; subst e; exact wp_vret rfl rfl c
noncomputable def M_Y_heightOf (v0 : Nat) (v1 : Int32) (v2 : Int32) (g : g_S) : Option Int32 :=
  (vc g 112 v0 (M_Y_of v0 v1 7 g)).bind fun z1 =>
  if z1 = (-1) then
    (vc g 112 v0 (M_Y_edges v0 v1 g)).bind fun z2 =>
    some (v2 + (2 * z2))
  else
    (vc g 112 v0 (M_Y_of v0 v1 7 g)).bind fun z3 =>
    (vc g 112 v0 (M_Y_edges v0 v1 g)).bind fun z4 =>
    some (mx z3 (2 * z4))
set_option maxRecDepth 20000 in
theorem d_Y_heightOf {L : Nat} {xs : Nat → Int32} {Q : Option Value → ab_H → Prop} {v0 : Nat} {v1 : Int32} {v2 : Int32} {g : g_S} {out : Int32} (e : M_Y_heightOf v0 v1 v2 g = some out) (c : Q (some (.int out)) (hp g)) : mw (ab_ext L xs) J_Y_heightOf [.ref v0, .int v1, .int v2] (hp g) Q := by
  unfold M_Y_heightOf at e
  refine wp_p (j := J_Y_heightOf) 3 (pc' := 4) (lv' := [(0, .ref v0), (1, .int v1), (2, .int v2)]) (st' := [.int 7, .int v1, .ref v0]) rfl ?_
  refine x_cv1 (As := [.int v1, .int 7]) (rest := []) Value.int e rfl rfl rfl rfl rfl rfl (fun h => d_Y_of h ⟨rfl, rfl⟩) (fun z1 e => ?_)
  refine wp_p (j := J_Y_heightOf) 1 (pc' := 8) (lv' := [(0, .ref v0), (1, .int v1), (2, .int v2)]) (st' := [.int (-1), .int z1]) rfl ?_
  refine x_ne e rfl (fun e => ?_) (fun e => ?_)
  · refine wp_p (j := J_Y_heightOf) 4 (pc' := 15) (lv' := [(0, .ref v0), (1, .int v1), (2, .int v2)]) (st' := [.int v1, .ref v0, .int 2, .int v2]) rfl ?_
    refine x_cv1 (As := [.int v1]) (rest := [.int 2, .int v2]) Value.int e rfl rfl rfl rfl rfl rfl (fun h => d_Y_edges h ⟨rfl, rfl⟩) (fun z2 e => ?_)
    refine wp_p (j := J_Y_heightOf) 3 (pc' := 40) (lv' := [(0, .ref v0), (1, .int v1), (2, .int v2)]) (st' := [.int (v2 + (2 * z2))]) rfl ?_
    have e := Option.some.inj e; subst e; exact wp_iret (ty := .int) rfl rfl rfl c
  · refine wp_p (j := J_Y_heightOf) 3 (pc' := 27) (lv' := [(0, .ref v0), (1, .int v1), (2, .int v2)]) (st' := [.int 7, .int v1, .ref v0]) rfl ?_
    refine x_cv1 (As := [.int v1, .int 7]) (rest := []) Value.int e rfl rfl rfl rfl rfl rfl (fun h => d_Y_of h ⟨rfl, rfl⟩) (fun z3 e => ?_)
    refine wp_p (j := J_Y_heightOf) 3 (pc' := 33) (lv' := [(0, .ref v0), (1, .int v1), (2, .int v2)]) (st' := [.int v1, .ref v0, .int 2, .int z3]) rfl ?_
    refine x_cv1 (As := [.int v1]) (rest := [.int 2, .int z3]) Value.int e rfl rfl rfl rfl rfl rfl (fun h => d_Y_edges h ⟨rfl, rfl⟩) (fun z4 e => ?_)
    refine wp_p (j := J_Y_heightOf) 1 (pc' := 37) (lv' := [(0, .ref v0), (1, .int v1), (2, .int v2)]) (st' := [.int (2 * z4), .int z3]) rfl ?_
    refine x_mx rfl rfl ?_
    have e := Option.some.inj e; subst e; exact wp_iret (ty := .int) rfl rfl rfl c
def cL_Y_layBlock_205 (L : Nat) (xs : Nat → Int32) (Q : Option Value → ab_H → Prop) (v0 : Nat) (v1 : Int32) (v5 : Int32) (v7 : Int32) (v8 : Int32) (g : g_S) (out : (Int32 × Int32) ⊕ (Int32)) : Prop := match out with
  | .inl s => wp (ab_ext L xs) J_Y_layBlock 205 [(0, .ref v0), (1, .int v1), (5, .int v5), (7, .int v7), (8, .int v8), (11, .int s.1), (12, .int s.2)] [] (hp g) Q
  | .inr s => wp (ab_ext L xs) J_Y_layBlock 234 [(0, .ref v0), (1, .int v1), (5, .int v5), (7, .int v7), (8, .int v8), (11, .int s)] [] (hp g) Q
noncomputable def b_Y_layBlock_205 (v0 : Nat) (v1 : Int32) (v5 : Int32) (v7 : Int32) (v8 : Int32) (v11 : Int32) (v12 : Int32) (g : g_S) : Option ((Int32 × Int32) ⊕ (Int32)) :=
  (rI g 112 v0 136).bind fun z1 =>
  if v12 < z1 then
    (rQ g 112 v0 140).bind fun z2 =>
    (aI g 0 z2 v12).bind fun z3 =>
    some (.inl (mx v11 z3, v12 + 1))
  else
    some (.inr v11)
set_option maxRecDepth 20000 in
theorem y_Y_layBlock_205 {L : Nat} {xs : Nat → Int32} {Q : Option Value → ab_H → Prop} {v0 : Nat} {v1 : Int32} {v5 : Int32} {v7 : Int32} {v8 : Int32} {v11 : Int32} {v12 : Int32} {g : g_S} {out : (Int32 × Int32) ⊕ (Int32)} (e : b_Y_layBlock_205 v0 v1 v5 v7 v8 v11 v12 g = some out) (c : cL_Y_layBlock_205 L xs Q v0 v1 v5 v7 v8 g out) : wp (ab_ext L xs) J_Y_layBlock 205 [(0, .ref v0), (1, .int v1), (5, .int v5), (7, .int v7), (8, .int v8), (11, .int v11), (12, .int v12)] [] (hp g) Q := by
  unfold b_Y_layBlock_205 at e
  refine wp_p (j := J_Y_layBlock) 2 (pc' := 208) (lv' := [(0, .ref v0), (1, .int v1), (5, .int v5), (7, .int v7), (8, .int v8), (11, .int v11), (12, .int v12)]) (st' := [.ref v0, .int v12]) rfl ?_
  refine x_gI e rfl rfl fd_12_136 rfl (fun z1 e => ?_)
  refine x_ge e rfl (fun e => ?_) (fun e => ?_)
  · refine wp_p (j := J_Y_layBlock) 2 (pc' := 217) (lv' := [(0, .ref v0), (1, .int v1), (5, .int v5), (7, .int v7), (8, .int v8), (11, .int v11), (12, .int v12)]) (st' := [.ref v0, .int v11]) rfl ?_
    refine x_gQ e rfl rfl fd_12_140 rfl (fun z2 e => ?_)
    refine wp_p (j := J_Y_layBlock) 1 (pc' := 222) (lv' := [(0, .ref v0), (1, .int v1), (5, .int v5), (7, .int v7), (8, .int v8), (11, .int v11), (12, .int v12)]) (st' := [.int v12, .ref z2, .int v11]) rfl ?_
    refine x_aI e rfl rfl (fun z3 e => ?_)
    refine x_mx rfl rfl ?_
    refine wp_p (j := J_Y_layBlock) 3 (pc' := 205) (lv' := [(12, .int (v12 + 1)), (11, .int (mx v11 z3)), (0, .ref v0), (1, .int v1), (5, .int v5), (7, .int v7), (8, .int v8)]) (st' := []) rfl ?_
    have e := Option.some.inj e; subst e; exact wp_lv (lv' := [(0, .ref v0), (1, .int v1), (5, .int v5), (7, .int v7), (8, .int v8), (11, .int (mx v11 z3)), (12, .int (v12 + 1))]) rfl ⟨rfl, rfl, rfl, rfl, rfl, rfl, rfl, trivial⟩ c
  · have e := Option.some.inj e; subst e; exact wp_lv (lv' := [(0, .ref v0), (1, .int v1), (5, .int v5), (7, .int v7), (8, .int v8), (11, .int v11)]) rfl ⟨rfl, rfl, rfl, rfl, rfl, rfl, trivial⟩ c
noncomputable def L_Y_layBlock_205 (v0 : Nat) (v1 : Int32) (v5 : Int32) (v7 : Int32) (v8 : Int32) (v11 : Int32) (v12 : Int32) (g : g_S) : Option (Int32) := it (fun s : Int32 × Int32 => b_Y_layBlock_205 v0 v1 v5 v7 v8 s.1 s.2 g) (v11, v12)
theorem l_Y_layBlock_205 {L : Nat} {xs : Nat → Int32} {Q : Option Value → ab_H → Prop} {v0 : Nat} {v1 : Int32} {v5 : Int32} {v7 : Int32} {v8 : Int32} {v11 : Int32} {v12 : Int32} {g : g_S} {r : Int32} (e : L_Y_layBlock_205 v0 v1 v5 v7 v8 v11 v12 g = some r) (c : cL_Y_layBlock_205 L xs Q v0 v1 v5 v7 v8 g (.inr r)) : wp (ab_ext L xs) J_Y_layBlock 205 [(0, .ref v0), (1, .int v1), (5, .int v5), (7, .int v7), (8, .int v8), (11, .int v11), (12, .int v12)] [] (hp g) Q :=
  it_wp (P := fun s : Int32 × Int32 => wp (ab_ext L xs) J_Y_layBlock 205 [(0, .ref v0), (1, .int v1), (5, .int v5), (7, .int v7), (8, .int v8), (11, .int s.1), (12, .int s.2)] [] (hp g) Q) (E := fun r => cL_Y_layBlock_205 L xs Q v0 v1 v5 v7 v8 g (.inr r)) (fun s out e c => y_Y_layBlock_205 e (by cases out <;> exact c)) e c
theorem L_Y_layBlock_205_eq (v0 : Nat) (v1 : Int32) (v5 : Int32) (v7 : Int32) (v8 : Int32) (v11 : Int32) (v12 : Int32) (g : g_S) : L_Y_layBlock_205 v0 v1 v5 v7 v8 v11 v12 g = itc (b_Y_layBlock_205 v0 v1 v5 v7 v8 v11 v12 g) (fun s => L_Y_layBlock_205 v0 v1 v5 v7 v8 s.1 s.2 g) := it_eq2 (fun s : Int32 × Int32 => b_Y_layBlock_205 v0 v1 v5 v7 v8 s.1 s.2 g) (v11, v12)
def cL_Y_layBlock_462 (L : Nat) (xs : Nat → Int32) (Q : Option Value → ab_H → Prop) (v0 : Nat) (v1 : Int32) (v5 : Int32) (g : g_S) (out : (Int32 × Int32) ⊕ (Int32)) : Prop := match out with
  | .inl s => wp (ab_ext L xs) J_Y_layBlock 462 [(0, .ref v0), (1, .int v1), (5, .int v5), (7, .int s.1), (9, .int s.2)] [] (hp g) Q
  | .inr s => wp (ab_ext L xs) J_Y_layBlock 491 [(0, .ref v0), (1, .int v1), (5, .int v5), (7, .int s)] [] (hp g) Q
noncomputable def b_Y_layBlock_462 (v0 : Nat) (v1 : Int32) (v5 : Int32) (v7 : Int32) (v9 : Int32) (g : g_S) : Option ((Int32 × Int32) ⊕ (Int32)) :=
  (rI g 112 v0 136).bind fun z1 =>
  if v9 < z1 then
    (rQ g 112 v0 140).bind fun z2 =>
    (aI g 0 z2 v9).bind fun z3 =>
    some (.inl (mx v7 z3, v9 + 1))
  else
    some (.inr v7)
set_option maxRecDepth 20000 in
theorem y_Y_layBlock_462 {L : Nat} {xs : Nat → Int32} {Q : Option Value → ab_H → Prop} {v0 : Nat} {v1 : Int32} {v5 : Int32} {v7 : Int32} {v9 : Int32} {g : g_S} {out : (Int32 × Int32) ⊕ (Int32)} (e : b_Y_layBlock_462 v0 v1 v5 v7 v9 g = some out) (c : cL_Y_layBlock_462 L xs Q v0 v1 v5 g out) : wp (ab_ext L xs) J_Y_layBlock 462 [(0, .ref v0), (1, .int v1), (5, .int v5), (7, .int v7), (9, .int v9)] [] (hp g) Q := by
  unfold b_Y_layBlock_462 at e
  refine wp_p (j := J_Y_layBlock) 2 (pc' := 465) (lv' := [(0, .ref v0), (1, .int v1), (5, .int v5), (7, .int v7), (9, .int v9)]) (st' := [.ref v0, .int v9]) rfl ?_
  refine x_gI e rfl rfl fd_12_136 rfl (fun z1 e => ?_)
  refine x_ge e rfl (fun e => ?_) (fun e => ?_)
  · refine wp_p (j := J_Y_layBlock) 2 (pc' := 474) (lv' := [(0, .ref v0), (1, .int v1), (5, .int v5), (7, .int v7), (9, .int v9)]) (st' := [.ref v0, .int v7]) rfl ?_
    refine x_gQ e rfl rfl fd_12_140 rfl (fun z2 e => ?_)
    refine wp_p (j := J_Y_layBlock) 1 (pc' := 479) (lv' := [(0, .ref v0), (1, .int v1), (5, .int v5), (7, .int v7), (9, .int v9)]) (st' := [.int v9, .ref z2, .int v7]) rfl ?_
    refine x_aI e rfl rfl (fun z3 e => ?_)
    refine x_mx rfl rfl ?_
    refine wp_p (j := J_Y_layBlock) 3 (pc' := 462) (lv' := [(9, .int (v9 + 1)), (7, .int (mx v7 z3)), (0, .ref v0), (1, .int v1), (5, .int v5)]) (st' := []) rfl ?_
    have e := Option.some.inj e; subst e; exact wp_lv (lv' := [(0, .ref v0), (1, .int v1), (5, .int v5), (7, .int (mx v7 z3)), (9, .int (v9 + 1))]) rfl ⟨rfl, rfl, rfl, rfl, rfl, trivial⟩ c
  · have e := Option.some.inj e; subst e; exact wp_lv (lv' := [(0, .ref v0), (1, .int v1), (5, .int v5), (7, .int v7)]) rfl ⟨rfl, rfl, rfl, rfl, trivial⟩ c
noncomputable def L_Y_layBlock_462 (v0 : Nat) (v1 : Int32) (v5 : Int32) (v7 : Int32) (v9 : Int32) (g : g_S) : Option (Int32) := it (fun s : Int32 × Int32 => b_Y_layBlock_462 v0 v1 v5 s.1 s.2 g) (v7, v9)
theorem l_Y_layBlock_462 {L : Nat} {xs : Nat → Int32} {Q : Option Value → ab_H → Prop} {v0 : Nat} {v1 : Int32} {v5 : Int32} {v7 : Int32} {v9 : Int32} {g : g_S} {r : Int32} (e : L_Y_layBlock_462 v0 v1 v5 v7 v9 g = some r) (c : cL_Y_layBlock_462 L xs Q v0 v1 v5 g (.inr r)) : wp (ab_ext L xs) J_Y_layBlock 462 [(0, .ref v0), (1, .int v1), (5, .int v5), (7, .int v7), (9, .int v9)] [] (hp g) Q :=
  it_wp (P := fun s : Int32 × Int32 => wp (ab_ext L xs) J_Y_layBlock 462 [(0, .ref v0), (1, .int v1), (5, .int v5), (7, .int s.1), (9, .int s.2)] [] (hp g) Q) (E := fun r => cL_Y_layBlock_462 L xs Q v0 v1 v5 g (.inr r)) (fun s out e c => y_Y_layBlock_462 e (by cases out <;> exact c)) e c
theorem L_Y_layBlock_462_eq (v0 : Nat) (v1 : Int32) (v5 : Int32) (v7 : Int32) (v9 : Int32) (g : g_S) : L_Y_layBlock_462 v0 v1 v5 v7 v9 g = itc (b_Y_layBlock_462 v0 v1 v5 v7 v9 g) (fun s => L_Y_layBlock_462 v0 v1 v5 s.1 s.2 g) := it_eq2 (fun s : Int32 × Int32 => b_Y_layBlock_462 v0 v1 v5 s.1 s.2 g) (v7, v9)
def cL_Y_layBlock_512 (L : Nat) (xs : Nat → Int32) (Q : Option Value → ab_H → Prop) (v0 : Nat) (v1 : Int32) (v5 : Int32) (g : g_S) (out : (Int32) ⊕ (Int32)) : Prop := match out with
  | .inl s => wp (ab_ext L xs) J_Y_layBlock 512 [(0, .ref v0), (1, .int v1), (5, .int v5), (9, .int s)] [] (hp g) Q
  | .inr s => wp (ab_ext L xs) J_Y_layBlock 540 [(0, .ref v0), (1, .int v1), (5, .int v5), (9, .int s)] [] (hp g) Q
noncomputable def b_Y_layBlock_512 (v0 : Nat) (v1 : Int32) (v5 : Int32) (v9 : Int32) (g : g_S) : Option ((Int32) ⊕ (Int32)) :=
  if v9 = (-1) then
    some (.inr v9)
  else
    (rQ g 112 v0 107).bind fun z1 =>
    (aI g 0 z1 v9).bind fun z2 =>
    if z2 = 0 then
      (rQ g 112 v0 52).bind fun z3 =>
      (aI g 0 z3 v9).bind fun z4 =>
      some (.inl z4)
    else
      some (.inr v9)
set_option maxRecDepth 20000 in
theorem y_Y_layBlock_512 {L : Nat} {xs : Nat → Int32} {Q : Option Value → ab_H → Prop} {v0 : Nat} {v1 : Int32} {v5 : Int32} {v9 : Int32} {g : g_S} {out : (Int32) ⊕ (Int32)} (e : b_Y_layBlock_512 v0 v1 v5 v9 g = some out) (c : cL_Y_layBlock_512 L xs Q v0 v1 v5 g out) : wp (ab_ext L xs) J_Y_layBlock 512 [(0, .ref v0), (1, .int v1), (5, .int v5), (9, .int v9)] [] (hp g) Q := by
  unfold b_Y_layBlock_512 at e
  refine wp_p (j := J_Y_layBlock) 2 (pc' := 515) (lv' := [(0, .ref v0), (1, .int v1), (5, .int v5), (9, .int v9)]) (st' := [.int (-1), .int v9]) rfl ?_
  refine x_eq e rfl (fun e => ?_) (fun e => ?_)
  · have e := Option.some.inj e; subst e; exact wp_lv (lv' := [(0, .ref v0), (1, .int v1), (5, .int v5), (9, .int v9)]) rfl ⟨rfl, rfl, rfl, rfl, trivial⟩ c
  · refine wp_p (j := J_Y_layBlock) 1 (pc' := 519) (lv' := [(0, .ref v0), (1, .int v1), (5, .int v5), (9, .int v9)]) (st' := [.ref v0]) rfl ?_
    refine x_gQ e rfl rfl fd_12_107 rfl (fun z1 e => ?_)
    refine wp_p (j := J_Y_layBlock) 1 (pc' := 524) (lv' := [(0, .ref v0), (1, .int v1), (5, .int v5), (9, .int v9)]) (st' := [.int v9, .ref z1]) rfl ?_
    refine x_aI e rfl rfl (fun z2 e => ?_)
    refine z_ne e rfl (fun e => ?_) (fun e => ?_)
    · refine wp_p (j := J_Y_layBlock) 1 (pc' := 529) (lv' := [(0, .ref v0), (1, .int v1), (5, .int v5), (9, .int v9)]) (st' := [.ref v0]) rfl ?_
      refine x_gQ e rfl rfl fd_12_52 rfl (fun z3 e => ?_)
      refine wp_p (j := J_Y_layBlock) 1 (pc' := 534) (lv' := [(0, .ref v0), (1, .int v1), (5, .int v5), (9, .int v9)]) (st' := [.int v9, .ref z3]) rfl ?_
      refine x_aI e rfl rfl (fun z4 e => ?_)
      refine wp_p (j := J_Y_layBlock) 2 (pc' := 512) (lv' := [(9, .int z4), (0, .ref v0), (1, .int v1), (5, .int v5)]) (st' := []) rfl ?_
      have e := Option.some.inj e; subst e; exact wp_lv (lv' := [(0, .ref v0), (1, .int v1), (5, .int v5), (9, .int z4)]) rfl ⟨rfl, rfl, rfl, rfl, trivial⟩ c
    · have e := Option.some.inj e; subst e; exact wp_lv (lv' := [(0, .ref v0), (1, .int v1), (5, .int v5), (9, .int v9)]) rfl ⟨rfl, rfl, rfl, rfl, trivial⟩ c
noncomputable def L_Y_layBlock_512 (v0 : Nat) (v1 : Int32) (v5 : Int32) (v9 : Int32) (g : g_S) : Option (Int32) := it (fun s : Int32 => b_Y_layBlock_512 v0 v1 v5 s g) (v9)
theorem l_Y_layBlock_512 {L : Nat} {xs : Nat → Int32} {Q : Option Value → ab_H → Prop} {v0 : Nat} {v1 : Int32} {v5 : Int32} {v9 : Int32} {g : g_S} {r : Int32} (e : L_Y_layBlock_512 v0 v1 v5 v9 g = some r) (c : cL_Y_layBlock_512 L xs Q v0 v1 v5 g (.inr r)) : wp (ab_ext L xs) J_Y_layBlock 512 [(0, .ref v0), (1, .int v1), (5, .int v5), (9, .int v9)] [] (hp g) Q :=
  it_wp (P := fun s : Int32 => wp (ab_ext L xs) J_Y_layBlock 512 [(0, .ref v0), (1, .int v1), (5, .int v5), (9, .int s)] [] (hp g) Q) (E := fun r => cL_Y_layBlock_512 L xs Q v0 v1 v5 g (.inr r)) (fun s out e c => y_Y_layBlock_512 e (by cases out <;> exact c)) e c
theorem L_Y_layBlock_512_eq (v0 : Nat) (v1 : Int32) (v5 : Int32) (v9 : Int32) (g : g_S) : L_Y_layBlock_512 v0 v1 v5 v9 g = itc (b_Y_layBlock_512 v0 v1 v5 v9 g) (fun s => L_Y_layBlock_512 v0 v1 v5 s g) := it_eq2 (fun s : Int32 => b_Y_layBlock_512 v0 v1 v5 s g) (v9)
def cL_Y_layBlock_49 (L : Nat) (xs : Nat → Int32) (Q : Option Value → ab_H → Prop) (v0 : Nat) (v1 : Int32) (v2 : Int32) (v3 : Int32) (v4 : Int32) (v6 : Int32) (v7 : Int32) (g : g_S) (out : (Int32 × Int32) ⊕ (Int32)) : Prop := match out with
  | .inl s => wp (ab_ext L xs) J_Y_layBlock 49 [(0, .ref v0), (1, .int v1), (2, .int v2), (3, .int v3), (4, .int v4), (5, .int s.1), (6, .int v6), (7, .int v7), (8, .int s.2)] [] (hp g) Q
  | .inr s => wp (ab_ext L xs) J_Y_layBlock 81 [(0, .ref v0), (1, .int v1), (2, .int v2), (3, .int v3), (4, .int v4), (5, .int s), (6, .int v6), (7, .int v7)] [] (hp g) Q
noncomputable def k_Y_layBlock_69 (v0 : Nat) (v1 : Int32) (v2 : Int32) (v3 : Int32) (v4 : Int32) (v5 : Int32) (v6 : Int32) (v7 : Int32) (v8 : Int32) (g : g_S) : Option ((Int32 × Int32) ⊕ (Int32)) :=
  (rQ g 112 v0 52).bind fun z1 =>
  (aI g 0 z1 v8).bind fun z2 =>
  some (.inl (v5, z2))
set_option maxRecDepth 20000 in
theorem x_Y_layBlock_69 {L : Nat} {xs : Nat → Int32} {Q : Option Value → ab_H → Prop} {v0 : Nat} {v1 : Int32} {v2 : Int32} {v3 : Int32} {v4 : Int32} {v5 : Int32} {v6 : Int32} {v7 : Int32} {v8 : Int32} {g : g_S} {out : (Int32 × Int32) ⊕ (Int32)} (e : k_Y_layBlock_69 v0 v1 v2 v3 v4 v5 v6 v7 v8 g = some out) (c : cL_Y_layBlock_49 L xs Q v0 v1 v2 v3 v4 v6 v7 g out) : wp (ab_ext L xs) J_Y_layBlock 69 [(0, .ref v0), (1, .int v1), (2, .int v2), (3, .int v3), (4, .int v4), (5, .int v5), (6, .int v6), (7, .int v7), (8, .int v8)] [] (hp g) Q := by
  unfold k_Y_layBlock_69 at e
  refine wp_p (j := J_Y_layBlock) 1 (pc' := 70) (lv' := [(0, .ref v0), (1, .int v1), (2, .int v2), (3, .int v3), (4, .int v4), (5, .int v5), (6, .int v6), (7, .int v7), (8, .int v8)]) (st' := [.ref v0]) rfl ?_
  refine x_gQ e rfl rfl fd_12_52 rfl (fun z1 e => ?_)
  refine wp_p (j := J_Y_layBlock) 1 (pc' := 75) (lv' := [(0, .ref v0), (1, .int v1), (2, .int v2), (3, .int v3), (4, .int v4), (5, .int v5), (6, .int v6), (7, .int v7), (8, .int v8)]) (st' := [.int v8, .ref z1]) rfl ?_
  refine x_aI e rfl rfl (fun z2 e => ?_)
  refine wp_p (j := J_Y_layBlock) 2 (pc' := 49) (lv' := [(8, .int z2), (0, .ref v0), (1, .int v1), (2, .int v2), (3, .int v3), (4, .int v4), (5, .int v5), (6, .int v6), (7, .int v7)]) (st' := []) rfl ?_
  have e := Option.some.inj e; subst e; exact wp_lv (lv' := [(0, .ref v0), (1, .int v1), (2, .int v2), (3, .int v3), (4, .int v4), (5, .int v5), (6, .int v6), (7, .int v7), (8, .int z2)]) rfl ⟨rfl, rfl, rfl, rfl, rfl, rfl, rfl, rfl, rfl, trivial⟩ c
noncomputable def b_Y_layBlock_49 (v0 : Nat) (v1 : Int32) (v2 : Int32) (v3 : Int32) (v4 : Int32) (v6 : Int32) (v7 : Int32) (v5 : Int32) (v8 : Int32) (g : g_S) : Option ((Int32 × Int32) ⊕ (Int32)) :=
  if v8 = (-1) then
    some (.inr v5)
  else
    (rQ g 112 v0 107).bind fun z1 =>
    (aI g 0 z1 v8).bind fun z2 =>
    if z2 = 0 then
      k_Y_layBlock_69 v0 v1 v2 v3 v4 v5 v6 v7 v8 g
    else
      k_Y_layBlock_69 v0 v1 v2 v3 v4 v8 v6 v7 v8 g
set_option maxRecDepth 20000 in
theorem y_Y_layBlock_49 {L : Nat} {xs : Nat → Int32} {Q : Option Value → ab_H → Prop} {v0 : Nat} {v1 : Int32} {v2 : Int32} {v3 : Int32} {v4 : Int32} {v6 : Int32} {v7 : Int32} {v5 : Int32} {v8 : Int32} {g : g_S} {out : (Int32 × Int32) ⊕ (Int32)} (e : b_Y_layBlock_49 v0 v1 v2 v3 v4 v6 v7 v5 v8 g = some out) (c : cL_Y_layBlock_49 L xs Q v0 v1 v2 v3 v4 v6 v7 g out) : wp (ab_ext L xs) J_Y_layBlock 49 [(0, .ref v0), (1, .int v1), (2, .int v2), (3, .int v3), (4, .int v4), (5, .int v5), (6, .int v6), (7, .int v7), (8, .int v8)] [] (hp g) Q := by
  unfold b_Y_layBlock_49 at e
  refine wp_p (j := J_Y_layBlock) 2 (pc' := 52) (lv' := [(0, .ref v0), (1, .int v1), (2, .int v2), (3, .int v3), (4, .int v4), (5, .int v5), (6, .int v6), (7, .int v7), (8, .int v8)]) (st' := [.int (-1), .int v8]) rfl ?_
  refine x_eq e rfl (fun e => ?_) (fun e => ?_)
  · have e := Option.some.inj e; subst e; exact wp_lv (lv' := [(0, .ref v0), (1, .int v1), (2, .int v2), (3, .int v3), (4, .int v4), (5, .int v5), (6, .int v6), (7, .int v7)]) rfl ⟨rfl, rfl, rfl, rfl, rfl, rfl, rfl, rfl, trivial⟩ c
  · refine wp_p (j := J_Y_layBlock) 1 (pc' := 56) (lv' := [(0, .ref v0), (1, .int v1), (2, .int v2), (3, .int v3), (4, .int v4), (5, .int v5), (6, .int v6), (7, .int v7), (8, .int v8)]) (st' := [.ref v0]) rfl ?_
    refine x_gQ e rfl rfl fd_12_107 rfl (fun z1 e => ?_)
    refine wp_p (j := J_Y_layBlock) 1 (pc' := 61) (lv' := [(0, .ref v0), (1, .int v1), (2, .int v2), (3, .int v3), (4, .int v4), (5, .int v5), (6, .int v6), (7, .int v7), (8, .int v8)]) (st' := [.int v8, .ref z1]) rfl ?_
    refine x_aI e rfl rfl (fun z2 e => ?_)
    refine z_eq e rfl (fun e => ?_) (fun e => ?_)
    · exact wp_lv (lv' := [(0, .ref v0), (1, .int v1), (2, .int v2), (3, .int v3), (4, .int v4), (5, .int v5), (6, .int v6), (7, .int v7), (8, .int v8)]) rfl ⟨rfl, rfl, rfl, rfl, rfl, rfl, rfl, rfl, rfl, trivial⟩ (x_Y_layBlock_69 e c)
    · refine wp_p (j := J_Y_layBlock) 2 (pc' := 69) (lv' := [(5, .int v8), (0, .ref v0), (1, .int v1), (2, .int v2), (3, .int v3), (4, .int v4), (6, .int v6), (7, .int v7), (8, .int v8)]) (st' := []) rfl ?_
      exact wp_lv (lv' := [(0, .ref v0), (1, .int v1), (2, .int v2), (3, .int v3), (4, .int v4), (5, .int v8), (6, .int v6), (7, .int v7), (8, .int v8)]) rfl ⟨rfl, rfl, rfl, rfl, rfl, rfl, rfl, rfl, rfl, trivial⟩ (x_Y_layBlock_69 e c)
noncomputable def L_Y_layBlock_49 (v0 : Nat) (v1 : Int32) (v2 : Int32) (v3 : Int32) (v4 : Int32) (v6 : Int32) (v7 : Int32) (v5 : Int32) (v8 : Int32) (g : g_S) : Option (Int32) := it (fun s : Int32 × Int32 => b_Y_layBlock_49 v0 v1 v2 v3 v4 v6 v7 s.1 s.2 g) (v5, v8)
theorem l_Y_layBlock_49 {L : Nat} {xs : Nat → Int32} {Q : Option Value → ab_H → Prop} {v0 : Nat} {v1 : Int32} {v2 : Int32} {v3 : Int32} {v4 : Int32} {v6 : Int32} {v7 : Int32} {v5 : Int32} {v8 : Int32} {g : g_S} {r : Int32} (e : L_Y_layBlock_49 v0 v1 v2 v3 v4 v6 v7 v5 v8 g = some r) (c : cL_Y_layBlock_49 L xs Q v0 v1 v2 v3 v4 v6 v7 g (.inr r)) : wp (ab_ext L xs) J_Y_layBlock 49 [(0, .ref v0), (1, .int v1), (2, .int v2), (3, .int v3), (4, .int v4), (5, .int v5), (6, .int v6), (7, .int v7), (8, .int v8)] [] (hp g) Q :=
  it_wp (P := fun s : Int32 × Int32 => wp (ab_ext L xs) J_Y_layBlock 49 [(0, .ref v0), (1, .int v1), (2, .int v2), (3, .int v3), (4, .int v4), (5, .int s.1), (6, .int v6), (7, .int v7), (8, .int s.2)] [] (hp g) Q) (E := fun r => cL_Y_layBlock_49 L xs Q v0 v1 v2 v3 v4 v6 v7 g (.inr r)) (fun s out e c => y_Y_layBlock_49 e (by cases out <;> exact c)) e c
theorem L_Y_layBlock_49_eq (v0 : Nat) (v1 : Int32) (v2 : Int32) (v3 : Int32) (v4 : Int32) (v6 : Int32) (v7 : Int32) (v5 : Int32) (v8 : Int32) (g : g_S) : L_Y_layBlock_49 v0 v1 v2 v3 v4 v6 v7 v5 v8 g = itc (b_Y_layBlock_49 v0 v1 v2 v3 v4 v6 v7 v5 v8 g) (fun s => L_Y_layBlock_49 v0 v1 v2 v3 v4 v6 v7 s.1 s.2 g) := it_eq2 (fun s : Int32 × Int32 => b_Y_layBlock_49 v0 v1 v2 v3 v4 v6 v7 s.1 s.2 g) (v5, v8)
def cL_Y_layBlock_374 (L : Nat) (xs : Nat → Int32) (Q : Option Value → ab_H → Prop) (v0 : Nat) (v1 : Int32) (v4 : Int32) (v5 : Int32) (v7 : Int32) (out : (Int32 × g_S) ⊕ (Int32 × g_S)) : Prop := match out with
  | .inl s => wp (ab_ext L xs) J_Y_layBlock 374 [(0, .ref v0), (1, .int v1), (4, .int v4), (5, .int v5), (7, .int v7), (8, .int s.1)] [] (hp s.2) Q
  | .inr s => wp (ab_ext L xs) J_Y_layBlock 427 [(0, .ref v0), (1, .int v1), (4, .int v4), (5, .int v5), (7, .int v7), (8, .int s.1)] [] (hp s.2) Q
noncomputable def k_Y_layBlock_415 (v0 : Nat) (v1 : Int32) (v4 : Int32) (v5 : Int32) (v7 : Int32) (v8 : Int32) (g : g_S) : Option ((Int32 × g_S) ⊕ (Int32 × g_S)) :=
  (rQ g 112 v0 52).bind fun z1 =>
  (aI g 0 z1 v8).bind fun z2 =>
  some (.inl (z2, g))
set_option maxRecDepth 20000 in
theorem x_Y_layBlock_415 {L : Nat} {xs : Nat → Int32} {Q : Option Value → ab_H → Prop} {v0 : Nat} {v1 : Int32} {v4 : Int32} {v5 : Int32} {v7 : Int32} {v8 : Int32} {g : g_S} {out : (Int32 × g_S) ⊕ (Int32 × g_S)} (e : k_Y_layBlock_415 v0 v1 v4 v5 v7 v8 g = some out) (c : cL_Y_layBlock_374 L xs Q v0 v1 v4 v5 v7 out) : wp (ab_ext L xs) J_Y_layBlock 415 [(0, .ref v0), (1, .int v1), (4, .int v4), (5, .int v5), (7, .int v7), (8, .int v8)] [] (hp g) Q := by
  unfold k_Y_layBlock_415 at e
  refine wp_p (j := J_Y_layBlock) 1 (pc' := 416) (lv' := [(0, .ref v0), (1, .int v1), (4, .int v4), (5, .int v5), (7, .int v7), (8, .int v8)]) (st' := [.ref v0]) rfl ?_
  refine x_gQ e rfl rfl fd_12_52 rfl (fun z1 e => ?_)
  refine wp_p (j := J_Y_layBlock) 1 (pc' := 421) (lv' := [(0, .ref v0), (1, .int v1), (4, .int v4), (5, .int v5), (7, .int v7), (8, .int v8)]) (st' := [.int v8, .ref z1]) rfl ?_
  refine x_aI e rfl rfl (fun z2 e => ?_)
  refine wp_p (j := J_Y_layBlock) 2 (pc' := 374) (lv' := [(8, .int z2), (0, .ref v0), (1, .int v1), (4, .int v4), (5, .int v5), (7, .int v7)]) (st' := []) rfl ?_
  have e := Option.some.inj e; subst e; exact wp_lv (lv' := [(0, .ref v0), (1, .int v1), (4, .int v4), (5, .int v5), (7, .int v7), (8, .int z2)]) rfl ⟨rfl, rfl, rfl, rfl, rfl, rfl, trivial⟩ c
noncomputable def k_Y_layBlock_399 (v0 : Nat) (v1 : Int32) (v4 : Int32) (v5 : Int32) (v7 : Int32) (v8 : Int32) (g : g_S) : Option ((Int32 × g_S) ⊕ (Int32 × g_S)) :=
  (rQ g 112 v0 107).bind fun z1 =>
  (aI g 0 z1 v8).bind fun z2 =>
  if z2 = 0 then
    k_Y_layBlock_415 v0 v1 v4 v5 v7 v8 g
  else
    (vc g 112 v0 (M_Y_lineThing v0 v8 g)).bind fun g3 =>
    k_Y_layBlock_415 v0 v1 v4 v5 v7 v8 g3
set_option maxRecDepth 20000 in
theorem x_Y_layBlock_399 {L : Nat} {xs : Nat → Int32} {Q : Option Value → ab_H → Prop} {v0 : Nat} {v1 : Int32} {v4 : Int32} {v5 : Int32} {v7 : Int32} {v8 : Int32} {g : g_S} {out : (Int32 × g_S) ⊕ (Int32 × g_S)} (e : k_Y_layBlock_399 v0 v1 v4 v5 v7 v8 g = some out) (c : cL_Y_layBlock_374 L xs Q v0 v1 v4 v5 v7 out) : wp (ab_ext L xs) J_Y_layBlock 399 [(0, .ref v0), (1, .int v1), (4, .int v4), (5, .int v5), (7, .int v7), (8, .int v8)] [] (hp g) Q := by
  unfold k_Y_layBlock_399 at e
  refine wp_p (j := J_Y_layBlock) 1 (pc' := 400) (lv' := [(0, .ref v0), (1, .int v1), (4, .int v4), (5, .int v5), (7, .int v7), (8, .int v8)]) (st' := [.ref v0]) rfl ?_
  refine x_gQ e rfl rfl fd_12_107 rfl (fun z1 e => ?_)
  refine wp_p (j := J_Y_layBlock) 1 (pc' := 405) (lv' := [(0, .ref v0), (1, .int v1), (4, .int v4), (5, .int v5), (7, .int v7), (8, .int v8)]) (st' := [.int v8, .ref z1]) rfl ?_
  refine x_aI e rfl rfl (fun z2 e => ?_)
  refine z_eq e rfl (fun e => ?_) (fun e => ?_)
  · exact wp_lv (lv' := [(0, .ref v0), (1, .int v1), (4, .int v4), (5, .int v5), (7, .int v7), (8, .int v8)]) rfl ⟨rfl, rfl, rfl, rfl, rfl, rfl, trivial⟩ (x_Y_layBlock_415 e c)
  · refine wp_p (j := J_Y_layBlock) 2 (pc' := 412) (lv' := [(0, .ref v0), (1, .int v1), (4, .int v4), (5, .int v5), (7, .int v7), (8, .int v8)]) (st' := [.int v8, .ref v0]) rfl ?_
    refine x_cv0 (As := [.int v8]) (rest := []) e rfl rfl rfl rfl rfl rfl (fun h => d_Y_lineThing h ⟨rfl, rfl⟩) (fun g3 e => ?_)
    exact wp_lv (lv' := [(0, .ref v0), (1, .int v1), (4, .int v4), (5, .int v5), (7, .int v7), (8, .int v8)]) rfl ⟨rfl, rfl, rfl, rfl, rfl, rfl, trivial⟩ (x_Y_layBlock_415 e c)
noncomputable def b_Y_layBlock_374 (v0 : Nat) (v1 : Int32) (v4 : Int32) (v5 : Int32) (v7 : Int32) (v8 : Int32) (g : g_S) : Option ((Int32 × g_S) ⊕ (Int32 × g_S)) :=
  if v8 = (-1) then
    some (.inr (v8, g))
  else
    (vc g 112 v0 (M_Y_isBox v0 v8 g)).bind fun z1 =>
    if z1 = 0 then
      k_Y_layBlock_399 v0 v1 v4 v5 v7 v8 g
    else
      (rQ g 112 v0 108).bind fun z2 =>
      (aI g 2 z2 v8).bind fun z3 =>
      if z3 = 0 then
        some (.inr (v8, g))
      else
        k_Y_layBlock_399 v0 v1 v4 v5 v7 v8 g
set_option maxRecDepth 20000 in
theorem y_Y_layBlock_374 {L : Nat} {xs : Nat → Int32} {Q : Option Value → ab_H → Prop} {v0 : Nat} {v1 : Int32} {v4 : Int32} {v5 : Int32} {v7 : Int32} {v8 : Int32} {g : g_S} {out : (Int32 × g_S) ⊕ (Int32 × g_S)} (e : b_Y_layBlock_374 v0 v1 v4 v5 v7 v8 g = some out) (c : cL_Y_layBlock_374 L xs Q v0 v1 v4 v5 v7 out) : wp (ab_ext L xs) J_Y_layBlock 374 [(0, .ref v0), (1, .int v1), (4, .int v4), (5, .int v5), (7, .int v7), (8, .int v8)] [] (hp g) Q := by
  unfold b_Y_layBlock_374 at e
  refine wp_p (j := J_Y_layBlock) 2 (pc' := 377) (lv' := [(0, .ref v0), (1, .int v1), (4, .int v4), (5, .int v5), (7, .int v7), (8, .int v8)]) (st' := [.int (-1), .int v8]) rfl ?_
  refine x_eq e rfl (fun e => ?_) (fun e => ?_)
  · have e := Option.some.inj e; subst e; exact wp_lv (lv' := [(0, .ref v0), (1, .int v1), (4, .int v4), (5, .int v5), (7, .int v7), (8, .int v8)]) rfl ⟨rfl, rfl, rfl, rfl, rfl, rfl, trivial⟩ c
  · refine wp_p (j := J_Y_layBlock) 2 (pc' := 383) (lv' := [(0, .ref v0), (1, .int v1), (4, .int v4), (5, .int v5), (7, .int v7), (8, .int v8)]) (st' := [.int v8, .ref v0]) rfl ?_
    refine x_cv1 (As := [.int v8]) (rest := []) Value.int e rfl rfl rfl rfl rfl rfl (fun h => d_Y_isBox h ⟨rfl, rfl⟩) (fun z1 e => ?_)
    refine z_eq e rfl (fun e => ?_) (fun e => ?_)
    · exact wp_lv (lv' := [(0, .ref v0), (1, .int v1), (4, .int v4), (5, .int v5), (7, .int v7), (8, .int v8)]) rfl ⟨rfl, rfl, rfl, rfl, rfl, rfl, trivial⟩ (x_Y_layBlock_399 e c)
    · refine wp_p (j := J_Y_layBlock) 1 (pc' := 390) (lv' := [(0, .ref v0), (1, .int v1), (4, .int v4), (5, .int v5), (7, .int v7), (8, .int v8)]) (st' := [.ref v0]) rfl ?_
      refine x_gQ e rfl rfl fd_12_108 rfl (fun z2 e => ?_)
      refine wp_p (j := J_Y_layBlock) 1 (pc' := 395) (lv' := [(0, .ref v0), (1, .int v1), (4, .int v4), (5, .int v5), (7, .int v7), (8, .int v8)]) (st' := [.int v8, .ref z2]) rfl ?_
      refine x_aB e rfl (.inr rfl) rfl (fun z3 e => ?_)
      refine z_eq e rfl (fun e => ?_) (fun e => ?_)
      · have e := Option.some.inj e; subst e; exact wp_lv (lv' := [(0, .ref v0), (1, .int v1), (4, .int v4), (5, .int v5), (7, .int v7), (8, .int v8)]) rfl ⟨rfl, rfl, rfl, rfl, rfl, rfl, trivial⟩ c
      · exact wp_lv (lv' := [(0, .ref v0), (1, .int v1), (4, .int v4), (5, .int v5), (7, .int v7), (8, .int v8)]) rfl ⟨rfl, rfl, rfl, rfl, rfl, rfl, trivial⟩ (x_Y_layBlock_399 e c)
noncomputable def L_Y_layBlock_374 (v0 : Nat) (v1 : Int32) (v4 : Int32) (v5 : Int32) (v7 : Int32) (v8 : Int32) (g : g_S) : Option (Int32 × g_S) := it (fun s : Int32 × g_S => b_Y_layBlock_374 v0 v1 v4 v5 v7 s.1 s.2) (v8, g)
theorem l_Y_layBlock_374 {L : Nat} {xs : Nat → Int32} {Q : Option Value → ab_H → Prop} {v0 : Nat} {v1 : Int32} {v4 : Int32} {v5 : Int32} {v7 : Int32} {v8 : Int32} {g : g_S} {r : Int32 × g_S} (e : L_Y_layBlock_374 v0 v1 v4 v5 v7 v8 g = some r) (c : cL_Y_layBlock_374 L xs Q v0 v1 v4 v5 v7 (.inr r)) : wp (ab_ext L xs) J_Y_layBlock 374 [(0, .ref v0), (1, .int v1), (4, .int v4), (5, .int v5), (7, .int v7), (8, .int v8)] [] (hp g) Q :=
  it_wp (P := fun s : Int32 × g_S => wp (ab_ext L xs) J_Y_layBlock 374 [(0, .ref v0), (1, .int v1), (4, .int v4), (5, .int v5), (7, .int v7), (8, .int s.1)] [] (hp s.2) Q) (E := fun r => cL_Y_layBlock_374 L xs Q v0 v1 v4 v5 v7 (.inr r)) (fun s out e c => y_Y_layBlock_374 e (by cases out <;> exact c)) e c
theorem L_Y_layBlock_374_eq (v0 : Nat) (v1 : Int32) (v4 : Int32) (v5 : Int32) (v7 : Int32) (v8 : Int32) (g : g_S) : L_Y_layBlock_374 v0 v1 v4 v5 v7 v8 g = itc (b_Y_layBlock_374 v0 v1 v4 v5 v7 v8 g) (fun s => L_Y_layBlock_374 v0 v1 v4 v5 v7 s.1 s.2) := it_eq2 (fun s : Int32 × g_S => b_Y_layBlock_374 v0 v1 v4 v5 v7 s.1 s.2) (v8, g)
def cL_Y_layBlock_89 (L : Nat) (xs : Nat → Int32) (Q : Option Value → ab_H → Prop) (v0 : Nat) (v1 : Int32) (v5 : Int32) (out : (Int32 × Int32 × Int32 × Int32 × Int32 × Int32 × g_S) ⊕ (Int32 × Int32 × g_S)) : Prop := match out with
  | .inl s => wp (ab_ext L xs) J_Y_layBlock 89 [(0, .ref v0), (1, .int v1), (2, .int s.1), (3, .int s.2.1), (4, .int s.2.2.1), (5, .int v5), (6, .int s.2.2.2.1), (7, .int s.2.2.2.2.1), (8, .int s.2.2.2.2.2.1)] [] (hp s.2.2.2.2.2.2) Q
  | .inr s => wp (ab_ext L xs) J_Y_layBlock 451 [(0, .ref v0), (1, .int v1), (2, .int s.1), (5, .int v5), (7, .int s.2.1)] [] (hp s.2.2) Q
noncomputable def k_Y_layBlock_438 (v0 : Nat) (v1 : Int32) (v4 : Int32) (v5 : Int32) (v7 : Int32) (v8 : Int32) (g : g_S) : Option ((Int32 × Int32 × Int32 × Int32 × Int32 × Int32 × g_S) ⊕ (Int32 × Int32 × g_S)) :=
  (rI g 112 v0 127).bind fun z1 =>
  some (.inl (z1, (-1), v4, 0, v7, v8, g))
set_option maxRecDepth 20000 in
theorem x_Y_layBlock_438 {L : Nat} {xs : Nat → Int32} {Q : Option Value → ab_H → Prop} {v0 : Nat} {v1 : Int32} {v4 : Int32} {v5 : Int32} {v7 : Int32} {v8 : Int32} {g : g_S} {out : (Int32 × Int32 × Int32 × Int32 × Int32 × Int32 × g_S) ⊕ (Int32 × Int32 × g_S)} (e : k_Y_layBlock_438 v0 v1 v4 v5 v7 v8 g = some out) (c : cL_Y_layBlock_89 L xs Q v0 v1 v5 out) : wp (ab_ext L xs) J_Y_layBlock 438 [(0, .ref v0), (1, .int v1), (4, .int v4), (5, .int v5), (7, .int v7), (8, .int v8)] [] (hp g) Q := by
  unfold k_Y_layBlock_438 at e
  refine wp_p (j := J_Y_layBlock) 1 (pc' := 439) (lv' := [(0, .ref v0), (1, .int v1), (4, .int v4), (5, .int v5), (7, .int v7), (8, .int v8)]) (st' := [.ref v0]) rfl ?_
  refine x_gI e rfl rfl fd_12_127 rfl (fun z1 e => ?_)
  refine wp_p (j := J_Y_layBlock) 6 (pc' := 89) (lv' := [(6, .int 0), (3, .int (-1)), (2, .int z1), (0, .ref v0), (1, .int v1), (4, .int v4), (5, .int v5), (7, .int v7), (8, .int v8)]) (st' := []) rfl ?_
  have e := Option.some.inj e; subst e; exact wp_lv (lv' := [(0, .ref v0), (1, .int v1), (2, .int z1), (3, .int (-1)), (4, .int v4), (5, .int v5), (6, .int 0), (7, .int v7), (8, .int v8)]) rfl ⟨rfl, rfl, rfl, rfl, rfl, rfl, rfl, rfl, rfl, trivial⟩ c
noncomputable def k_Y_layBlock_427 (v0 : Nat) (v1 : Int32) (v4 : Int32) (v5 : Int32) (v7 : Int32) (v8 : Int32) (g : g_S) : Option ((Int32 × Int32 × Int32 × Int32 × Int32 × Int32 × g_S) ⊕ (Int32 × Int32 × g_S)) :=
  (rI g 112 v0 131).bind fun z1 =>
  if 0 < z1 then
    (vc g 112 v0 (M_Y_endLine v0 g)).bind fun g2 =>
    k_Y_layBlock_438 v0 v1 v4 v5 v7 v8 g2
  else
    k_Y_layBlock_438 v0 v1 v4 v5 v7 v8 g
set_option maxRecDepth 20000 in
theorem x_Y_layBlock_427 {L : Nat} {xs : Nat → Int32} {Q : Option Value → ab_H → Prop} {v0 : Nat} {v1 : Int32} {v4 : Int32} {v5 : Int32} {v7 : Int32} {v8 : Int32} {g : g_S} {out : (Int32 × Int32 × Int32 × Int32 × Int32 × Int32 × g_S) ⊕ (Int32 × Int32 × g_S)} (e : k_Y_layBlock_427 v0 v1 v4 v5 v7 v8 g = some out) (c : cL_Y_layBlock_89 L xs Q v0 v1 v5 out) : wp (ab_ext L xs) J_Y_layBlock 427 [(0, .ref v0), (1, .int v1), (4, .int v4), (5, .int v5), (7, .int v7), (8, .int v8)] [] (hp g) Q := by
  unfold k_Y_layBlock_427 at e
  refine wp_p (j := J_Y_layBlock) 1 (pc' := 428) (lv' := [(0, .ref v0), (1, .int v1), (4, .int v4), (5, .int v5), (7, .int v7), (8, .int v8)]) (st' := [.ref v0]) rfl ?_
  refine x_gI e rfl rfl fd_12_131 rfl (fun z1 e => ?_)
  refine z_le e rfl (fun e => ?_) (fun e => ?_)
  · refine wp_p (j := J_Y_layBlock) 1 (pc' := 435) (lv' := [(0, .ref v0), (1, .int v1), (4, .int v4), (5, .int v5), (7, .int v7), (8, .int v8)]) (st' := [.ref v0]) rfl ?_
    refine x_cv0 (As := []) (rest := []) e rfl rfl rfl rfl rfl rfl (fun h => d_Y_endLine h ⟨rfl, rfl⟩) (fun g2 e => ?_)
    exact wp_lv (lv' := [(0, .ref v0), (1, .int v1), (4, .int v4), (5, .int v5), (7, .int v7), (8, .int v8)]) rfl ⟨rfl, rfl, rfl, rfl, rfl, rfl, trivial⟩ (x_Y_layBlock_438 e c)
  · exact wp_lv (lv' := [(0, .ref v0), (1, .int v1), (4, .int v4), (5, .int v5), (7, .int v7), (8, .int v8)]) rfl ⟨rfl, rfl, rfl, rfl, rfl, rfl, trivial⟩ (x_Y_layBlock_438 e c)
noncomputable def k_Y_layBlock_351 (v0 : Nat) (v1 : Int32) (v4 : Int32) (v5 : Int32) (v7 : Int32) (v8 : Int32) (w0 : Int32) (w1 : Nat) (g : g_S) : Option ((Int32 × Int32 × Int32 × Int32 × Int32 × Int32 × g_S) ⊕ (Int32 × Int32 × g_S)) :=
  (wI g 112 w1 127 w0).bind fun g1 =>
  (wI g1 112 v0 131 0).bind fun g2 =>
  (wI g2 112 v0 132 0).bind fun g3 =>
  (wI g3 112 v0 143 0).bind fun g4 =>
  (wZ g4 112 v0 144 0).bind fun g5 =>
  (L_Y_layBlock_374 v0 v1 v4 v5 v7 v8 g5).bind <| u2 fun z8 g9 =>
  k_Y_layBlock_427 v0 v1 v4 v5 v7 z8 g9
set_option maxRecDepth 20000 in
theorem x_Y_layBlock_351 {L : Nat} {xs : Nat → Int32} {Q : Option Value → ab_H → Prop} {v0 : Nat} {v1 : Int32} {v4 : Int32} {v5 : Int32} {v7 : Int32} {v8 : Int32} {w0 : Int32} {w1 : Nat} {g : g_S} {out : (Int32 × Int32 × Int32 × Int32 × Int32 × Int32 × g_S) ⊕ (Int32 × Int32 × g_S)} (e : k_Y_layBlock_351 v0 v1 v4 v5 v7 v8 w0 w1 g = some out) (c : cL_Y_layBlock_89 L xs Q v0 v1 v5 out) : wp (ab_ext L xs) J_Y_layBlock 351 [(0, .ref v0), (1, .int v1), (4, .int v4), (5, .int v5), (7, .int v7), (8, .int v8)] [.int w0, .ref w1] (hp g) Q := by
  unfold k_Y_layBlock_351 at e
  refine x_pI e rfl rfl fw_12_127 rfl (fun g1 e => ?_)
  refine wp_p (j := J_Y_layBlock) 2 (pc' := 356) (lv' := [(0, .ref v0), (1, .int v1), (4, .int v4), (5, .int v5), (7, .int v7), (8, .int v8)]) (st' := [.int 0, .ref v0]) rfl ?_
  refine x_pI e rfl rfl fw_12_131 rfl (fun g2 e => ?_)
  refine wp_p (j := J_Y_layBlock) 2 (pc' := 361) (lv' := [(0, .ref v0), (1, .int v1), (4, .int v4), (5, .int v5), (7, .int v7), (8, .int v8)]) (st' := [.int 0, .ref v0]) rfl ?_
  refine x_pI e rfl rfl fw_12_132 rfl (fun g3 e => ?_)
  refine wp_p (j := J_Y_layBlock) 2 (pc' := 366) (lv' := [(0, .ref v0), (1, .int v1), (4, .int v4), (5, .int v5), (7, .int v7), (8, .int v8)]) (st' := [.int 0, .ref v0]) rfl ?_
  refine x_pI e rfl rfl fw_12_143 rfl (fun g4 e => ?_)
  refine wp_p (j := J_Y_layBlock) 2 (pc' := 371) (lv' := [(0, .ref v0), (1, .int v1), (4, .int v4), (5, .int v5), (7, .int v7), (8, .int v8)]) (st' := [.int 0, .ref v0]) rfl ?_
  refine x_pZ e rfl rfl fw_12_144 rfl (fun g5 e => ?_)
  obtain ⟨s6, h7, e⟩ := bd e
  refine wp_lv (lv' := [(0, .ref v0), (1, .int v1), (4, .int v4), (5, .int v5), (7, .int v7), (8, .int v8)]) rfl ⟨rfl, rfl, rfl, rfl, rfl, rfl, trivial⟩ ?_
  refine l_Y_layBlock_374 h7 ?_
  obtain ⟨z8, g9⟩ := s6
  replace e := u2_e e
  show wp (ab_ext L xs) J_Y_layBlock 427 [(0, .ref v0), (1, .int v1), (4, .int v4), (5, .int v5), (7, .int v7), (8, .int z8)] [] (hp g9) Q
  exact wp_lv (lv' := [(0, .ref v0), (1, .int v1), (4, .int v4), (5, .int v5), (7, .int v7), (8, .int z8)]) rfl ⟨rfl, rfl, rfl, rfl, rfl, rfl, trivial⟩ (x_Y_layBlock_427 e c)
noncomputable def k_Y_layBlock_332 (v0 : Nat) (v1 : Int32) (v2 : Int32) (v3 : Int32) (v4 : Int32) (v5 : Int32) (v7 : Int32) (v8 : Int32) (g : g_S) : Option ((Int32 × Int32 × Int32 × Int32 × Int32 × Int32 × g_S) ⊕ (Int32 × Int32 × g_S)) :=
  if v3 = (-1) then
    k_Y_layBlock_351 v0 v1 v4 v5 v7 v8 v2 v0 g
  else
    (rQ g 112 v0 115).bind fun z1 =>
    (aI g 0 z1 v3).bind fun z2 =>
    k_Y_layBlock_351 v0 v1 v4 v5 v7 v8 (v4 + z2) v0 g
set_option maxRecDepth 20000 in
theorem x_Y_layBlock_332 {L : Nat} {xs : Nat → Int32} {Q : Option Value → ab_H → Prop} {v0 : Nat} {v1 : Int32} {v2 : Int32} {v3 : Int32} {v4 : Int32} {v5 : Int32} {v7 : Int32} {v8 : Int32} {g : g_S} {out : (Int32 × Int32 × Int32 × Int32 × Int32 × Int32 × g_S) ⊕ (Int32 × Int32 × g_S)} (e : k_Y_layBlock_332 v0 v1 v2 v3 v4 v5 v7 v8 g = some out) (c : cL_Y_layBlock_89 L xs Q v0 v1 v5 out) : wp (ab_ext L xs) J_Y_layBlock 332 [(0, .ref v0), (1, .int v1), (2, .int v2), (3, .int v3), (4, .int v4), (5, .int v5), (7, .int v7), (8, .int v8)] [] (hp g) Q := by
  unfold k_Y_layBlock_332 at e
  refine wp_p (j := J_Y_layBlock) 3 (pc' := 335) (lv' := [(0, .ref v0), (1, .int v1), (2, .int v2), (3, .int v3), (4, .int v4), (5, .int v5), (7, .int v7), (8, .int v8)]) (st' := [.int (-1), .int v3, .ref v0]) rfl ?_
  refine x_ne e rfl (fun e => ?_) (fun e => ?_)
  · refine wp_p (j := J_Y_layBlock) 2 (pc' := 351) (lv' := [(0, .ref v0), (1, .int v1), (2, .int v2), (3, .int v3), (4, .int v4), (5, .int v5), (7, .int v7), (8, .int v8)]) (st' := [.int v2, .ref v0]) rfl ?_
    exact wp_lv (lv' := [(0, .ref v0), (1, .int v1), (4, .int v4), (5, .int v5), (7, .int v7), (8, .int v8)]) rfl ⟨rfl, rfl, rfl, rfl, rfl, rfl, trivial⟩ (x_Y_layBlock_351 e c)
  · refine wp_p (j := J_Y_layBlock) 2 (pc' := 345) (lv' := [(0, .ref v0), (1, .int v1), (2, .int v2), (3, .int v3), (4, .int v4), (5, .int v5), (7, .int v7), (8, .int v8)]) (st' := [.ref v0, .int v4, .ref v0]) rfl ?_
    refine x_gQ e rfl rfl fd_12_115 rfl (fun z1 e => ?_)
    refine wp_p (j := J_Y_layBlock) 1 (pc' := 349) (lv' := [(0, .ref v0), (1, .int v1), (2, .int v2), (3, .int v3), (4, .int v4), (5, .int v5), (7, .int v7), (8, .int v8)]) (st' := [.int v3, .ref z1, .int v4, .ref v0]) rfl ?_
    refine x_aI e rfl rfl (fun z2 e => ?_)
    refine wp_p (j := J_Y_layBlock) 1 (pc' := 351) (lv' := [(0, .ref v0), (1, .int v1), (2, .int v2), (3, .int v3), (4, .int v4), (5, .int v5), (7, .int v7), (8, .int v8)]) (st' := [.int (v4 + z2), .ref v0]) rfl ?_
    exact wp_lv (lv' := [(0, .ref v0), (1, .int v1), (4, .int v4), (5, .int v5), (7, .int v7), (8, .int v8)]) rfl ⟨rfl, rfl, rfl, rfl, rfl, rfl, trivial⟩ (x_Y_layBlock_351 e c)
noncomputable def k_Y_layBlock_314 (v0 : Nat) (v1 : Int32) (v2 : Int32) (v3 : Int32) (v4 : Int32) (v5 : Int32) (v8 : Int32) (w0 : Int32) (w1 : Int32) (w2 : Int32) (g : g_S) : Option ((Int32 × Int32 × Int32 × Int32 × Int32 × Int32 × g_S) ⊕ (Int32 × Int32 × g_S)) :=
  (rQ g 112 v0 52).bind fun z1 =>
  (aI g 0 z1 v8).bind fun z2 =>
  some (.inl (v2, v3, v4, 0, mx w2 (w1 + w0), z2, g))
set_option maxRecDepth 20000 in
theorem x_Y_layBlock_314 {L : Nat} {xs : Nat → Int32} {Q : Option Value → ab_H → Prop} {v0 : Nat} {v1 : Int32} {v2 : Int32} {v3 : Int32} {v4 : Int32} {v5 : Int32} {v8 : Int32} {w0 : Int32} {w1 : Int32} {w2 : Int32} {g : g_S} {out : (Int32 × Int32 × Int32 × Int32 × Int32 × Int32 × g_S) ⊕ (Int32 × Int32 × g_S)} (e : k_Y_layBlock_314 v0 v1 v2 v3 v4 v5 v8 w0 w1 w2 g = some out) (c : cL_Y_layBlock_89 L xs Q v0 v1 v5 out) : wp (ab_ext L xs) J_Y_layBlock 314 [(0, .ref v0), (1, .int v1), (2, .int v2), (3, .int v3), (4, .int v4), (5, .int v5), (8, .int v8)] [.int w0, .int w1, .int w2] (hp g) Q := by
  unfold k_Y_layBlock_314 at e
  refine wp_p (j := J_Y_layBlock) 1 (pc' := 315) (lv' := [(0, .ref v0), (1, .int v1), (2, .int v2), (3, .int v3), (4, .int v4), (5, .int v5), (8, .int v8)]) (st' := [.int (w1 + w0), .int w2]) rfl ?_
  refine x_mx rfl rfl ?_
  refine wp_p (j := J_Y_layBlock) 2 (pc' := 321) (lv' := [(7, .int (mx w2 (w1 + w0))), (0, .ref v0), (1, .int v1), (2, .int v2), (3, .int v3), (4, .int v4), (5, .int v5), (8, .int v8)]) (st' := [.ref v0]) rfl ?_
  refine x_gQ e rfl rfl fd_12_52 rfl (fun z1 e => ?_)
  refine wp_p (j := J_Y_layBlock) 1 (pc' := 326) (lv' := [(7, .int (mx w2 (w1 + w0))), (0, .ref v0), (1, .int v1), (2, .int v2), (3, .int v3), (4, .int v4), (5, .int v5), (8, .int v8)]) (st' := [.int v8, .ref z1]) rfl ?_
  refine x_aI e rfl rfl (fun z2 e => ?_)
  refine wp_p (j := J_Y_layBlock) 5 (pc' := 89) (lv' := [(6, .int 0), (8, .int z2), (7, .int (mx w2 (w1 + w0))), (0, .ref v0), (1, .int v1), (2, .int v2), (3, .int v3), (4, .int v4), (5, .int v5)]) (st' := []) rfl ?_
  have e := Option.some.inj e; subst e; exact wp_lv (lv' := [(0, .ref v0), (1, .int v1), (2, .int v2), (3, .int v3), (4, .int v4), (5, .int v5), (6, .int 0), (7, .int (mx w2 (w1 + w0))), (8, .int z2)]) rfl ⟨rfl, rfl, rfl, rfl, rfl, rfl, rfl, rfl, rfl, trivial⟩ c
noncomputable def k_Y_layBlock_307 (v0 : Nat) (v1 : Int32) (v2 : Int32) (v3 : Int32) (v4 : Int32) (v5 : Int32) (v8 : Int32) (w0 : Int32) (w1 : Int32) (g : g_S) : Option ((Int32 × Int32 × Int32 × Int32 × Int32 × Int32 × g_S) ⊕ (Int32 × Int32 × g_S)) :=
  (rQ g 112 v0 115).bind fun z1 =>
  (aI g 0 z1 v8).bind fun z2 =>
  k_Y_layBlock_314 v0 v1 v2 v3 v4 v5 v8 z2 w0 w1 g
set_option maxRecDepth 20000 in
theorem x_Y_layBlock_307 {L : Nat} {xs : Nat → Int32} {Q : Option Value → ab_H → Prop} {v0 : Nat} {v1 : Int32} {v2 : Int32} {v3 : Int32} {v4 : Int32} {v5 : Int32} {v8 : Int32} {w0 : Int32} {w1 : Int32} {g : g_S} {out : (Int32 × Int32 × Int32 × Int32 × Int32 × Int32 × g_S) ⊕ (Int32 × Int32 × g_S)} (e : k_Y_layBlock_307 v0 v1 v2 v3 v4 v5 v8 w0 w1 g = some out) (c : cL_Y_layBlock_89 L xs Q v0 v1 v5 out) : wp (ab_ext L xs) J_Y_layBlock 307 [(0, .ref v0), (1, .int v1), (2, .int v2), (3, .int v3), (4, .int v4), (5, .int v5), (8, .int v8)] [.int w0, .int w1] (hp g) Q := by
  unfold k_Y_layBlock_307 at e
  refine wp_p (j := J_Y_layBlock) 1 (pc' := 308) (lv' := [(0, .ref v0), (1, .int v1), (2, .int v2), (3, .int v3), (4, .int v4), (5, .int v5), (8, .int v8)]) (st' := [.ref v0, .int w0, .int w1]) rfl ?_
  refine x_gQ e rfl rfl fd_12_115 rfl (fun z1 e => ?_)
  refine wp_p (j := J_Y_layBlock) 1 (pc' := 313) (lv' := [(0, .ref v0), (1, .int v1), (2, .int v2), (3, .int v3), (4, .int v4), (5, .int v5), (8, .int v8)]) (st' := [.int v8, .ref z1, .int w0, .int w1]) rfl ?_
  refine x_aI e rfl rfl (fun z2 e => ?_)
  exact wp_lv (lv' := [(0, .ref v0), (1, .int v1), (2, .int v2), (3, .int v3), (4, .int v4), (5, .int v5), (8, .int v8)]) rfl ⟨rfl, rfl, rfl, rfl, rfl, rfl, rfl, trivial⟩ (x_Y_layBlock_314 e c)
noncomputable def k_Y_layBlock_200 (v0 : Nat) (v1 : Int32) (v5 : Int32) (v7 : Int32) (v8 : Int32) (w0 : Int32) (g : g_S) : Option ((Int32 × Int32 × Int32 × Int32 × Int32 × Int32 × g_S) ⊕ (Int32 × Int32 × g_S)) :=
  (L_Y_layBlock_205 v0 v1 v5 v7 v8 w0 0 g).bind <| fun z3 =>
  (rQ g 112 v0 110).bind fun z4 =>
  (vc g 112 v0 (M_Y_of v0 v8 3 g)).bind fun z5 =>
  (sI g z4 v8 z5).bind fun g6 =>
  (rQ g6 112 v0 111).bind fun z7 =>
  (sI g6 z7 v8 z3).bind fun g8 =>
  (rQ g8 112 v0 113).bind fun z9 =>
  (aI g8 0 z9 v8).bind fun z10 =>
  if v8 = v5 then
    (vc g8 112 v0 (M_Y_joins v0 v1 g8)).bind fun z11 =>
    if z11 = 0 then
      k_Y_layBlock_307 v0 v1 (z3 + z10) v8 (z3 + z10) v5 v8 (z3 + z10) v7 g8
    else
      (vc g8 112 v0 (M_Y_of v0 v1 7 g8)).bind fun z12 =>
      if z12 = (-1) then
        k_Y_layBlock_314 v0 v1 (z3 + z10) v8 (z3 + z10) v5 v8 0 (z3 + z10) v7 g8
      else
        k_Y_layBlock_307 v0 v1 (z3 + z10) v8 (z3 + z10) v5 v8 (z3 + z10) v7 g8
  else
    k_Y_layBlock_307 v0 v1 (z3 + z10) v8 (z3 + z10) v5 v8 (z3 + z10) v7 g8
set_option maxRecDepth 20000 in
theorem x_Y_layBlock_200 {L : Nat} {xs : Nat → Int32} {Q : Option Value → ab_H → Prop} {v0 : Nat} {v1 : Int32} {v5 : Int32} {v7 : Int32} {v8 : Int32} {w0 : Int32} {g : g_S} {out : (Int32 × Int32 × Int32 × Int32 × Int32 × Int32 × g_S) ⊕ (Int32 × Int32 × g_S)} (e : k_Y_layBlock_200 v0 v1 v5 v7 v8 w0 g = some out) (c : cL_Y_layBlock_89 L xs Q v0 v1 v5 out) : wp (ab_ext L xs) J_Y_layBlock 200 [(0, .ref v0), (1, .int v1), (5, .int v5), (7, .int v7), (8, .int v8)] [.int w0] (hp g) Q := by
  unfold k_Y_layBlock_200 at e
  refine wp_p (j := J_Y_layBlock) 3 (pc' := 205) (lv' := [(12, .int 0), (11, .int w0), (0, .ref v0), (1, .int v1), (5, .int v5), (7, .int v7), (8, .int v8)]) (st' := []) rfl ?_
  obtain ⟨z3, h2, e⟩ := bd e
  refine wp_lv (lv' := [(0, .ref v0), (1, .int v1), (5, .int v5), (7, .int v7), (8, .int v8), (11, .int w0), (12, .int 0)]) rfl ⟨rfl, rfl, rfl, rfl, rfl, rfl, rfl, trivial⟩ ?_
  refine l_Y_layBlock_205 h2 ?_
  show wp (ab_ext L xs) J_Y_layBlock 234 [(0, .ref v0), (1, .int v1), (5, .int v5), (7, .int v7), (8, .int v8), (11, .int z3)] [] (hp g) Q
  refine wp_p (j := J_Y_layBlock) 1 (pc' := 235) (lv' := [(0, .ref v0), (1, .int v1), (5, .int v5), (7, .int v7), (8, .int v8), (11, .int z3)]) (st' := [.ref v0]) rfl ?_
  refine x_gQ e rfl rfl fd_12_110 rfl (fun z4 e => ?_)
  refine wp_p (j := J_Y_layBlock) 4 (pc' := 244) (lv' := [(0, .ref v0), (1, .int v1), (5, .int v5), (7, .int v7), (8, .int v8), (11, .int z3)]) (st' := [.int 3, .int v8, .ref v0, .int v8, .ref z4]) rfl ?_
  refine x_cv1 (As := [.int v8, .int 3]) (rest := [.int v8, .ref z4]) Value.int e rfl rfl rfl rfl rfl rfl (fun h => d_Y_of h ⟨rfl, rfl⟩) (fun z5 e => ?_)
  refine x_sI e rfl rfl (fun g6 e => ?_)
  refine wp_p (j := J_Y_layBlock) 1 (pc' := 249) (lv' := [(0, .ref v0), (1, .int v1), (5, .int v5), (7, .int v7), (8, .int v8), (11, .int z3)]) (st' := [.ref v0]) rfl ?_
  refine x_gQ e rfl rfl fd_12_111 rfl (fun z7 e => ?_)
  refine wp_p (j := J_Y_layBlock) 2 (pc' := 256) (lv' := [(0, .ref v0), (1, .int v1), (5, .int v5), (7, .int v7), (8, .int v8), (11, .int z3)]) (st' := [.int z3, .int v8, .ref z7]) rfl ?_
  refine x_sI e rfl rfl (fun g8 e => ?_)
  refine wp_p (j := J_Y_layBlock) 2 (pc' := 260) (lv' := [(0, .ref v0), (1, .int v1), (5, .int v5), (7, .int v7), (8, .int v8), (11, .int z3)]) (st' := [.ref v0, .int z3]) rfl ?_
  refine x_gQ e rfl rfl fd_12_113 rfl (fun z9 e => ?_)
  refine wp_p (j := J_Y_layBlock) 1 (pc' := 265) (lv' := [(0, .ref v0), (1, .int v1), (5, .int v5), (7, .int v7), (8, .int v8), (11, .int z3)]) (st' := [.int v8, .ref z9, .int z3]) rfl ?_
  refine x_aI e rfl rfl (fun z10 e => ?_)
  refine wp_p (j := J_Y_layBlock) 10 (pc' := 281) (lv' := [(4, .int (z3 + z10)), (3, .int v8), (2, .int (z3 + z10)), (0, .ref v0), (1, .int v1), (5, .int v5), (7, .int v7), (8, .int v8), (11, .int z3)]) (st' := [.int v5, .int v8, .int (z3 + z10), .int v7]) rfl ?_
  refine x_ne e rfl (fun e => ?_) (fun e => ?_)
  · refine wp_p (j := J_Y_layBlock) 2 (pc' := 286) (lv' := [(4, .int (z3 + z10)), (3, .int v8), (2, .int (z3 + z10)), (0, .ref v0), (1, .int v1), (5, .int v5), (7, .int v7), (8, .int v8), (11, .int z3)]) (st' := [.int v1, .ref v0, .int (z3 + z10), .int v7]) rfl ?_
    refine x_cv1 (As := [.int v1]) (rest := [.int (z3 + z10), .int v7]) Value.int e rfl rfl rfl rfl rfl rfl (fun h => d_Y_joins h ⟨rfl, rfl⟩) (fun z11 e => ?_)
    refine z_eq e rfl (fun e => ?_) (fun e => ?_)
    · exact wp_lv (lv' := [(0, .ref v0), (1, .int v1), (2, .int (z3 + z10)), (3, .int v8), (4, .int (z3 + z10)), (5, .int v5), (8, .int v8)]) rfl ⟨rfl, rfl, rfl, rfl, rfl, rfl, rfl, trivial⟩ (x_Y_layBlock_307 e c)
    · refine wp_p (j := J_Y_layBlock) 3 (pc' := 296) (lv' := [(4, .int (z3 + z10)), (3, .int v8), (2, .int (z3 + z10)), (0, .ref v0), (1, .int v1), (5, .int v5), (7, .int v7), (8, .int v8), (11, .int z3)]) (st' := [.int 7, .int v1, .ref v0, .int (z3 + z10), .int v7]) rfl ?_
      refine x_cv1 (As := [.int v1, .int 7]) (rest := [.int (z3 + z10), .int v7]) Value.int e rfl rfl rfl rfl rfl rfl (fun h => d_Y_of h ⟨rfl, rfl⟩) (fun z12 e => ?_)
      refine wp_p (j := J_Y_layBlock) 1 (pc' := 300) (lv' := [(4, .int (z3 + z10)), (3, .int v8), (2, .int (z3 + z10)), (0, .ref v0), (1, .int v1), (5, .int v5), (7, .int v7), (8, .int v8), (11, .int z3)]) (st' := [.int (-1), .int z12, .int (z3 + z10), .int v7]) rfl ?_
      refine x_ne e rfl (fun e => ?_) (fun e => ?_)
      · refine wp_p (j := J_Y_layBlock) 2 (pc' := 314) (lv' := [(4, .int (z3 + z10)), (3, .int v8), (2, .int (z3 + z10)), (0, .ref v0), (1, .int v1), (5, .int v5), (7, .int v7), (8, .int v8), (11, .int z3)]) (st' := [.int 0, .int (z3 + z10), .int v7]) rfl ?_
        exact wp_lv (lv' := [(0, .ref v0), (1, .int v1), (2, .int (z3 + z10)), (3, .int v8), (4, .int (z3 + z10)), (5, .int v5), (8, .int v8)]) rfl ⟨rfl, rfl, rfl, rfl, rfl, rfl, rfl, trivial⟩ (x_Y_layBlock_314 e c)
      · exact wp_lv (lv' := [(0, .ref v0), (1, .int v1), (2, .int (z3 + z10)), (3, .int v8), (4, .int (z3 + z10)), (5, .int v5), (8, .int v8)]) rfl ⟨rfl, rfl, rfl, rfl, rfl, rfl, rfl, trivial⟩ (x_Y_layBlock_307 e c)
  · exact wp_lv (lv' := [(0, .ref v0), (1, .int v1), (2, .int (z3 + z10)), (3, .int v8), (4, .int (z3 + z10)), (5, .int v5), (8, .int v8)]) rfl ⟨rfl, rfl, rfl, rfl, rfl, rfl, rfl, trivial⟩ (x_Y_layBlock_307 e c)
noncomputable def k_Y_layBlock_172 (v0 : Nat) (v1 : Int32) (v2 : Int32) (v3 : Int32) (v4 : Int32) (v5 : Int32) (v7 : Int32) (v8 : Int32) (w0 : Int32) (g : g_S) : Option ((Int32 × Int32 × Int32 × Int32 × Int32 × Int32 × g_S) ⊕ (Int32 × Int32 × g_S)) :=
  if v3 = (-1) then
    k_Y_layBlock_200 v0 v1 v5 v7 v8 (v2 + w0) g
  else
    (rQ g 112 v0 115).bind fun z1 =>
    (aI g 0 z1 v3).bind fun z2 =>
    k_Y_layBlock_200 v0 v1 v5 v7 v8 (v4 + (mx z2 w0)) g
set_option maxRecDepth 20000 in
theorem x_Y_layBlock_172 {L : Nat} {xs : Nat → Int32} {Q : Option Value → ab_H → Prop} {v0 : Nat} {v1 : Int32} {v2 : Int32} {v3 : Int32} {v4 : Int32} {v5 : Int32} {v7 : Int32} {v8 : Int32} {w0 : Int32} {g : g_S} {out : (Int32 × Int32 × Int32 × Int32 × Int32 × Int32 × g_S) ⊕ (Int32 × Int32 × g_S)} (e : k_Y_layBlock_172 v0 v1 v2 v3 v4 v5 v7 v8 w0 g = some out) (c : cL_Y_layBlock_89 L xs Q v0 v1 v5 out) : wp (ab_ext L xs) J_Y_layBlock 172 [(0, .ref v0), (1, .int v1), (2, .int v2), (3, .int v3), (4, .int v4), (5, .int v5), (7, .int v7), (8, .int v8)] [.int w0] (hp g) Q := by
  unfold k_Y_layBlock_172 at e
  refine wp_p (j := J_Y_layBlock) 3 (pc' := 176) (lv' := [(10, .int w0), (0, .ref v0), (1, .int v1), (2, .int v2), (3, .int v3), (4, .int v4), (5, .int v5), (7, .int v7), (8, .int v8)]) (st' := [.int (-1), .int v3]) rfl ?_
  refine x_ne e rfl (fun e => ?_) (fun e => ?_)
  · refine wp_p (j := J_Y_layBlock) 4 (pc' := 200) (lv' := [(10, .int w0), (0, .ref v0), (1, .int v1), (2, .int v2), (3, .int v3), (4, .int v4), (5, .int v5), (7, .int v7), (8, .int v8)]) (st' := [.int (v2 + w0)]) rfl ?_
    exact wp_lv (lv' := [(0, .ref v0), (1, .int v1), (5, .int v5), (7, .int v7), (8, .int v8)]) rfl ⟨rfl, rfl, rfl, rfl, rfl, trivial⟩ (x_Y_layBlock_200 e c)
  · refine wp_p (j := J_Y_layBlock) 2 (pc' := 189) (lv' := [(10, .int w0), (0, .ref v0), (1, .int v1), (2, .int v2), (3, .int v3), (4, .int v4), (5, .int v5), (7, .int v7), (8, .int v8)]) (st' := [.ref v0, .int v4]) rfl ?_
    refine x_gQ e rfl rfl fd_12_115 rfl (fun z1 e => ?_)
    refine wp_p (j := J_Y_layBlock) 1 (pc' := 193) (lv' := [(10, .int w0), (0, .ref v0), (1, .int v1), (2, .int v2), (3, .int v3), (4, .int v4), (5, .int v5), (7, .int v7), (8, .int v8)]) (st' := [.int v3, .ref z1, .int v4]) rfl ?_
    refine x_aI e rfl rfl (fun z2 e => ?_)
    refine wp_p (j := J_Y_layBlock) 1 (pc' := 196) (lv' := [(10, .int w0), (0, .ref v0), (1, .int v1), (2, .int v2), (3, .int v3), (4, .int v4), (5, .int v5), (7, .int v7), (8, .int v8)]) (st' := [.int w0, .int z2, .int v4]) rfl ?_
    refine x_mx rfl rfl ?_
    refine wp_p (j := J_Y_layBlock) 1 (pc' := 200) (lv' := [(10, .int w0), (0, .ref v0), (1, .int v1), (2, .int v2), (3, .int v3), (4, .int v4), (5, .int v5), (7, .int v7), (8, .int v8)]) (st' := [.int (v4 + (mx z2 w0))]) rfl ?_
    exact wp_lv (lv' := [(0, .ref v0), (1, .int v1), (5, .int v5), (7, .int v7), (8, .int v8)]) rfl ⟨rfl, rfl, rfl, rfl, rfl, trivial⟩ (x_Y_layBlock_200 e c)
noncomputable def k_Y_layBlock_154 (v0 : Nat) (v1 : Int32) (v2 : Int32) (v3 : Int32) (v4 : Int32) (v5 : Int32) (v7 : Int32) (v8 : Int32) (w0 : Int32) (g : g_S) : Option ((Int32 × Int32 × Int32 × Int32 × Int32 × Int32 × g_S) ⊕ (Int32 × Int32 × g_S)) :=
  if w0 = 0 then
    (rQ g 112 v0 114).bind fun z1 =>
    (aI g 0 z1 v8).bind fun z2 =>
    k_Y_layBlock_172 v0 v1 v2 v3 v4 v5 v7 v8 z2 g
  else
    k_Y_layBlock_172 v0 v1 v2 v3 v4 v5 v7 v8 0 g
set_option maxRecDepth 20000 in
theorem x_Y_layBlock_154 {L : Nat} {xs : Nat → Int32} {Q : Option Value → ab_H → Prop} {v0 : Nat} {v1 : Int32} {v2 : Int32} {v3 : Int32} {v4 : Int32} {v5 : Int32} {v7 : Int32} {v8 : Int32} {w0 : Int32} {g : g_S} {out : (Int32 × Int32 × Int32 × Int32 × Int32 × Int32 × g_S) ⊕ (Int32 × Int32 × g_S)} (e : k_Y_layBlock_154 v0 v1 v2 v3 v4 v5 v7 v8 w0 g = some out) (c : cL_Y_layBlock_89 L xs Q v0 v1 v5 out) : wp (ab_ext L xs) J_Y_layBlock 154 [(0, .ref v0), (1, .int v1), (2, .int v2), (3, .int v3), (4, .int v4), (5, .int v5), (7, .int v7), (8, .int v8)] [.int w0] (hp g) Q := by
  unfold k_Y_layBlock_154 at e
  refine wp_p (j := J_Y_layBlock) 2 (pc' := 158) (lv' := [(9, .int w0), (0, .ref v0), (1, .int v1), (2, .int v2), (3, .int v3), (4, .int v4), (5, .int v5), (7, .int v7), (8, .int v8)]) (st' := [.int w0]) rfl ?_
  refine z_eq e rfl (fun e => ?_) (fun e => ?_)
  · refine wp_p (j := J_Y_layBlock) 1 (pc' := 166) (lv' := [(9, .int w0), (0, .ref v0), (1, .int v1), (2, .int v2), (3, .int v3), (4, .int v4), (5, .int v5), (7, .int v7), (8, .int v8)]) (st' := [.ref v0]) rfl ?_
    refine x_gQ e rfl rfl fd_12_114 rfl (fun z1 e => ?_)
    refine wp_p (j := J_Y_layBlock) 1 (pc' := 171) (lv' := [(9, .int w0), (0, .ref v0), (1, .int v1), (2, .int v2), (3, .int v3), (4, .int v4), (5, .int v5), (7, .int v7), (8, .int v8)]) (st' := [.int v8, .ref z1]) rfl ?_
    refine x_aI e rfl rfl (fun z2 e => ?_)
    exact wp_lv (lv' := [(0, .ref v0), (1, .int v1), (2, .int v2), (3, .int v3), (4, .int v4), (5, .int v5), (7, .int v7), (8, .int v8)]) rfl ⟨rfl, rfl, rfl, rfl, rfl, rfl, rfl, rfl, trivial⟩ (x_Y_layBlock_172 e c)
  · refine wp_p (j := J_Y_layBlock) 2 (pc' := 172) (lv' := [(9, .int w0), (0, .ref v0), (1, .int v1), (2, .int v2), (3, .int v3), (4, .int v4), (5, .int v5), (7, .int v7), (8, .int v8)]) (st' := [.int 0]) rfl ?_
    exact wp_lv (lv' := [(0, .ref v0), (1, .int v1), (2, .int v2), (3, .int v3), (4, .int v4), (5, .int v5), (7, .int v7), (8, .int v8)]) rfl ⟨rfl, rfl, rfl, rfl, rfl, rfl, rfl, rfl, trivial⟩ (x_Y_layBlock_172 e c)
noncomputable def k_Y_layBlock_153 (v0 : Nat) (v1 : Int32) (v2 : Int32) (v3 : Int32) (v4 : Int32) (v5 : Int32) (v7 : Int32) (v8 : Int32) (g : g_S) : Option ((Int32 × Int32 × Int32 × Int32 × Int32 × Int32 × g_S) ⊕ (Int32 × Int32 × g_S)) :=
  k_Y_layBlock_154 v0 v1 v2 v3 v4 v5 v7 v8 0 g
set_option maxRecDepth 20000 in
theorem x_Y_layBlock_153 {L : Nat} {xs : Nat → Int32} {Q : Option Value → ab_H → Prop} {v0 : Nat} {v1 : Int32} {v2 : Int32} {v3 : Int32} {v4 : Int32} {v5 : Int32} {v7 : Int32} {v8 : Int32} {g : g_S} {out : (Int32 × Int32 × Int32 × Int32 × Int32 × Int32 × g_S) ⊕ (Int32 × Int32 × g_S)} (e : k_Y_layBlock_153 v0 v1 v2 v3 v4 v5 v7 v8 g = some out) (c : cL_Y_layBlock_89 L xs Q v0 v1 v5 out) : wp (ab_ext L xs) J_Y_layBlock 153 [(0, .ref v0), (1, .int v1), (2, .int v2), (3, .int v3), (4, .int v4), (5, .int v5), (7, .int v7), (8, .int v8)] [] (hp g) Q := by
  unfold k_Y_layBlock_153 at e
  refine wp_p (j := J_Y_layBlock) 1 (pc' := 154) (lv' := [(0, .ref v0), (1, .int v1), (2, .int v2), (3, .int v3), (4, .int v4), (5, .int v5), (7, .int v7), (8, .int v8)]) (st' := [.int 0]) rfl ?_
  exact wp_lv (lv' := [(0, .ref v0), (1, .int v1), (2, .int v2), (3, .int v3), (4, .int v4), (5, .int v5), (7, .int v7), (8, .int v8)]) rfl ⟨rfl, rfl, rfl, rfl, rfl, rfl, rfl, rfl, trivial⟩ (x_Y_layBlock_154 e c)
noncomputable def b_Y_layBlock_89 (v0 : Nat) (v1 : Int32) (v5 : Int32) (v2 : Int32) (v3 : Int32) (v4 : Int32) (v6 : Int32) (v7 : Int32) (v8 : Int32) (g : g_S) : Option ((Int32 × Int32 × Int32 × Int32 × Int32 × Int32 × g_S) ⊕ (Int32 × Int32 × g_S)) :=
  if v8 = (-1) then
    some (.inr (v2, v7, g))
  else
    (rQ g 112 v0 107).bind fun z1 =>
    (aI g 0 z1 v8).bind fun z2 =>
    if z2 = 0 then
      (rQ g 112 v0 52).bind fun z3 =>
      (aI g 0 z3 v8).bind fun z4 =>
      some (.inl (v2, v3, v4, v6, v7, z4, g))
    else
      (vc g 112 v0 (M_Y_isBox v0 v8 g)).bind fun z5 =>
      if z5 = 0 then
        k_Y_layBlock_332 v0 v1 v2 v3 v4 v5 v7 v8 g
      else
        (rQ g 112 v0 108).bind fun z6 =>
        (aI g 2 z6 v8).bind fun z7 =>
        if z7 = 0 then
          if v6 = 0 then
            k_Y_layBlock_153 v0 v1 v2 v3 v4 v5 v7 v8 g
          else
            (vc g 112 v0 (M_Y_joins v0 v1 g)).bind fun z8 =>
            if z8 = 0 then
              k_Y_layBlock_153 v0 v1 v2 v3 v4 v5 v7 v8 g
            else
              k_Y_layBlock_154 v0 v1 v2 v3 v4 v5 v7 v8 1 g
        else
          k_Y_layBlock_332 v0 v1 v2 v3 v4 v5 v7 v8 g
set_option maxRecDepth 20000 in
theorem y_Y_layBlock_89 {L : Nat} {xs : Nat → Int32} {Q : Option Value → ab_H → Prop} {v0 : Nat} {v1 : Int32} {v5 : Int32} {v2 : Int32} {v3 : Int32} {v4 : Int32} {v6 : Int32} {v7 : Int32} {v8 : Int32} {g : g_S} {out : (Int32 × Int32 × Int32 × Int32 × Int32 × Int32 × g_S) ⊕ (Int32 × Int32 × g_S)} (e : b_Y_layBlock_89 v0 v1 v5 v2 v3 v4 v6 v7 v8 g = some out) (c : cL_Y_layBlock_89 L xs Q v0 v1 v5 out) : wp (ab_ext L xs) J_Y_layBlock 89 [(0, .ref v0), (1, .int v1), (2, .int v2), (3, .int v3), (4, .int v4), (5, .int v5), (6, .int v6), (7, .int v7), (8, .int v8)] [] (hp g) Q := by
  unfold b_Y_layBlock_89 at e
  refine wp_p (j := J_Y_layBlock) 2 (pc' := 92) (lv' := [(0, .ref v0), (1, .int v1), (2, .int v2), (3, .int v3), (4, .int v4), (5, .int v5), (6, .int v6), (7, .int v7), (8, .int v8)]) (st' := [.int (-1), .int v8]) rfl ?_
  refine x_eq e rfl (fun e => ?_) (fun e => ?_)
  · have e := Option.some.inj e; subst e; exact wp_lv (lv' := [(0, .ref v0), (1, .int v1), (2, .int v2), (5, .int v5), (7, .int v7)]) rfl ⟨rfl, rfl, rfl, rfl, rfl, trivial⟩ c
  · refine wp_p (j := J_Y_layBlock) 1 (pc' := 96) (lv' := [(0, .ref v0), (1, .int v1), (2, .int v2), (3, .int v3), (4, .int v4), (5, .int v5), (6, .int v6), (7, .int v7), (8, .int v8)]) (st' := [.ref v0]) rfl ?_
    refine x_gQ e rfl rfl fd_12_107 rfl (fun z1 e => ?_)
    refine wp_p (j := J_Y_layBlock) 1 (pc' := 101) (lv' := [(0, .ref v0), (1, .int v1), (2, .int v2), (3, .int v3), (4, .int v4), (5, .int v5), (6, .int v6), (7, .int v7), (8, .int v8)]) (st' := [.int v8, .ref z1]) rfl ?_
    refine x_aI e rfl rfl (fun z2 e => ?_)
    refine z_ne e rfl (fun e => ?_) (fun e => ?_)
    · refine wp_p (j := J_Y_layBlock) 1 (pc' := 106) (lv' := [(0, .ref v0), (1, .int v1), (2, .int v2), (3, .int v3), (4, .int v4), (5, .int v5), (6, .int v6), (7, .int v7), (8, .int v8)]) (st' := [.ref v0]) rfl ?_
      refine x_gQ e rfl rfl fd_12_52 rfl (fun z3 e => ?_)
      refine wp_p (j := J_Y_layBlock) 1 (pc' := 111) (lv' := [(0, .ref v0), (1, .int v1), (2, .int v2), (3, .int v3), (4, .int v4), (5, .int v5), (6, .int v6), (7, .int v7), (8, .int v8)]) (st' := [.int v8, .ref z3]) rfl ?_
      refine x_aI e rfl rfl (fun z4 e => ?_)
      refine wp_p (j := J_Y_layBlock) 2 (pc' := 89) (lv' := [(8, .int z4), (0, .ref v0), (1, .int v1), (2, .int v2), (3, .int v3), (4, .int v4), (5, .int v5), (6, .int v6), (7, .int v7)]) (st' := []) rfl ?_
      have e := Option.some.inj e; subst e; exact wp_lv (lv' := [(0, .ref v0), (1, .int v1), (2, .int v2), (3, .int v3), (4, .int v4), (5, .int v5), (6, .int v6), (7, .int v7), (8, .int z4)]) rfl ⟨rfl, rfl, rfl, rfl, rfl, rfl, rfl, rfl, rfl, trivial⟩ c
    · refine wp_p (j := J_Y_layBlock) 2 (pc' := 120) (lv' := [(0, .ref v0), (1, .int v1), (2, .int v2), (3, .int v3), (4, .int v4), (5, .int v5), (6, .int v6), (7, .int v7), (8, .int v8)]) (st' := [.int v8, .ref v0]) rfl ?_
      refine x_cv1 (As := [.int v8]) (rest := []) Value.int e rfl rfl rfl rfl rfl rfl (fun h => d_Y_isBox h ⟨rfl, rfl⟩) (fun z5 e => ?_)
      refine z_eq e rfl (fun e => ?_) (fun e => ?_)
      · exact wp_lv (lv' := [(0, .ref v0), (1, .int v1), (2, .int v2), (3, .int v3), (4, .int v4), (5, .int v5), (7, .int v7), (8, .int v8)]) rfl ⟨rfl, rfl, rfl, rfl, rfl, rfl, rfl, rfl, trivial⟩ (x_Y_layBlock_332 e c)
      · refine wp_p (j := J_Y_layBlock) 1 (pc' := 127) (lv' := [(0, .ref v0), (1, .int v1), (2, .int v2), (3, .int v3), (4, .int v4), (5, .int v5), (6, .int v6), (7, .int v7), (8, .int v8)]) (st' := [.ref v0]) rfl ?_
        refine x_gQ e rfl rfl fd_12_108 rfl (fun z6 e => ?_)
        refine wp_p (j := J_Y_layBlock) 1 (pc' := 132) (lv' := [(0, .ref v0), (1, .int v1), (2, .int v2), (3, .int v3), (4, .int v4), (5, .int v5), (6, .int v6), (7, .int v7), (8, .int v8)]) (st' := [.int v8, .ref z6]) rfl ?_
        refine x_aB e rfl (.inr rfl) rfl (fun z7 e => ?_)
        refine z_ne e rfl (fun e => ?_) (fun e => ?_)
        · refine wp_p (j := J_Y_layBlock) 1 (pc' := 138) (lv' := [(0, .ref v0), (1, .int v1), (2, .int v2), (3, .int v3), (4, .int v4), (5, .int v5), (6, .int v6), (7, .int v7), (8, .int v8)]) (st' := [.int v6]) rfl ?_
          refine z_eq e rfl (fun e => ?_) (fun e => ?_)
          · exact wp_lv (lv' := [(0, .ref v0), (1, .int v1), (2, .int v2), (3, .int v3), (4, .int v4), (5, .int v5), (7, .int v7), (8, .int v8)]) rfl ⟨rfl, rfl, rfl, rfl, rfl, rfl, rfl, rfl, trivial⟩ (x_Y_layBlock_153 e c)
          · refine wp_p (j := J_Y_layBlock) 2 (pc' := 143) (lv' := [(0, .ref v0), (1, .int v1), (2, .int v2), (3, .int v3), (4, .int v4), (5, .int v5), (6, .int v6), (7, .int v7), (8, .int v8)]) (st' := [.int v1, .ref v0]) rfl ?_
            refine x_cv1 (As := [.int v1]) (rest := []) Value.int e rfl rfl rfl rfl rfl rfl (fun h => d_Y_joins h ⟨rfl, rfl⟩) (fun z8 e => ?_)
            refine z_eq e rfl (fun e => ?_) (fun e => ?_)
            · exact wp_lv (lv' := [(0, .ref v0), (1, .int v1), (2, .int v2), (3, .int v3), (4, .int v4), (5, .int v5), (7, .int v7), (8, .int v8)]) rfl ⟨rfl, rfl, rfl, rfl, rfl, rfl, rfl, rfl, trivial⟩ (x_Y_layBlock_153 e c)
            · refine wp_p (j := J_Y_layBlock) 2 (pc' := 154) (lv' := [(0, .ref v0), (1, .int v1), (2, .int v2), (3, .int v3), (4, .int v4), (5, .int v5), (6, .int v6), (7, .int v7), (8, .int v8)]) (st' := [.int 1]) rfl ?_
              exact wp_lv (lv' := [(0, .ref v0), (1, .int v1), (2, .int v2), (3, .int v3), (4, .int v4), (5, .int v5), (7, .int v7), (8, .int v8)]) rfl ⟨rfl, rfl, rfl, rfl, rfl, rfl, rfl, rfl, trivial⟩ (x_Y_layBlock_154 e c)
        · exact wp_lv (lv' := [(0, .ref v0), (1, .int v1), (2, .int v2), (3, .int v3), (4, .int v4), (5, .int v5), (7, .int v7), (8, .int v8)]) rfl ⟨rfl, rfl, rfl, rfl, rfl, rfl, rfl, rfl, trivial⟩ (x_Y_layBlock_332 e c)
noncomputable def L_Y_layBlock_89 (v0 : Nat) (v1 : Int32) (v5 : Int32) (v2 : Int32) (v3 : Int32) (v4 : Int32) (v6 : Int32) (v7 : Int32) (v8 : Int32) (g : g_S) : Option (Int32 × Int32 × g_S) := it (fun s : Int32 × Int32 × Int32 × Int32 × Int32 × Int32 × g_S => b_Y_layBlock_89 v0 v1 v5 s.1 s.2.1 s.2.2.1 s.2.2.2.1 s.2.2.2.2.1 s.2.2.2.2.2.1 s.2.2.2.2.2.2) (v2, v3, v4, v6, v7, v8, g)
theorem l_Y_layBlock_89 {L : Nat} {xs : Nat → Int32} {Q : Option Value → ab_H → Prop} {v0 : Nat} {v1 : Int32} {v5 : Int32} {v2 : Int32} {v3 : Int32} {v4 : Int32} {v6 : Int32} {v7 : Int32} {v8 : Int32} {g : g_S} {r : Int32 × Int32 × g_S} (e : L_Y_layBlock_89 v0 v1 v5 v2 v3 v4 v6 v7 v8 g = some r) (c : cL_Y_layBlock_89 L xs Q v0 v1 v5 (.inr r)) : wp (ab_ext L xs) J_Y_layBlock 89 [(0, .ref v0), (1, .int v1), (2, .int v2), (3, .int v3), (4, .int v4), (5, .int v5), (6, .int v6), (7, .int v7), (8, .int v8)] [] (hp g) Q :=
  it_wp (P := fun s : Int32 × Int32 × Int32 × Int32 × Int32 × Int32 × g_S => wp (ab_ext L xs) J_Y_layBlock 89 [(0, .ref v0), (1, .int v1), (2, .int s.1), (3, .int s.2.1), (4, .int s.2.2.1), (5, .int v5), (6, .int s.2.2.2.1), (7, .int s.2.2.2.2.1), (8, .int s.2.2.2.2.2.1)] [] (hp s.2.2.2.2.2.2) Q) (E := fun r => cL_Y_layBlock_89 L xs Q v0 v1 v5 (.inr r)) (fun s out e c => y_Y_layBlock_89 e (by cases out <;> exact c)) e c
theorem L_Y_layBlock_89_eq (v0 : Nat) (v1 : Int32) (v5 : Int32) (v2 : Int32) (v3 : Int32) (v4 : Int32) (v6 : Int32) (v7 : Int32) (v8 : Int32) (g : g_S) : L_Y_layBlock_89 v0 v1 v5 v2 v3 v4 v6 v7 v8 g = itc (b_Y_layBlock_89 v0 v1 v5 v2 v3 v4 v6 v7 v8 g) (fun s => L_Y_layBlock_89 v0 v1 v5 s.1 s.2.1 s.2.2.1 s.2.2.2.1 s.2.2.2.2.1 s.2.2.2.2.2.1 s.2.2.2.2.2.2) := it_eq2 (fun s : Int32 × Int32 × Int32 × Int32 × Int32 × Int32 × g_S => b_Y_layBlock_89 v0 v1 v5 s.1 s.2.1 s.2.2.1 s.2.2.2.1 s.2.2.2.2.1 s.2.2.2.2.2.1 s.2.2.2.2.2.2) (v2, v3, v4, v6, v7, v8, g)
noncomputable def k_Y_layBlock_620 (v0 : Nat) (v1 : Int32) (v5 : Int32) (g : g_S) : Option g_S :=
  (vc g 112 v0 (M_Y_isBox v0 v5 g)).bind fun z1 =>
  if z1 = 0 then
    some g
  else
    (rQ g 112 v0 108).bind fun z2 =>
    (aI g 2 z2 v5).bind fun z3 =>
    if z3 = 0 then
      (vc g 112 v0 (M_Y_of v0 v1 7 g)).bind fun z4 =>
      if z4 = (-1) then
        (rQ g 112 v0 115).bind fun z5 =>
        (rQ g 112 v0 115).bind fun z6 =>
        (aI g 0 z6 v1).bind fun z7 =>
        (rQ g 112 v0 115).bind fun z8 =>
        (aI g 0 z8 v5).bind fun z9 =>
        (sI g z5 v1 (mx z7 z9)).bind fun g10 =>
        some g10
      else
        some g
    else
      some g
set_option maxRecDepth 20000 in
theorem x_Y_layBlock_620 {L : Nat} {xs : Nat → Int32} {Q : Option Value → ab_H → Prop} {v0 : Nat} {v1 : Int32} {v5 : Int32} {g : g_S} {out : g_S} (e : k_Y_layBlock_620 v0 v1 v5 g = some out) (c : Q none (hp out)) : wp (ab_ext L xs) J_Y_layBlock 620 [(0, .ref v0), (1, .int v1), (5, .int v5)] [] (hp g) Q := by
  unfold k_Y_layBlock_620 at e
  refine wp_p (j := J_Y_layBlock) 2 (pc' := 623) (lv' := [(0, .ref v0), (1, .int v1), (5, .int v5)]) (st' := [.int v5, .ref v0]) rfl ?_
  refine x_cv1 (As := [.int v5]) (rest := []) Value.int e rfl rfl rfl rfl rfl rfl (fun h => d_Y_isBox h ⟨rfl, rfl⟩) (fun z1 e => ?_)
  refine z_eq e rfl (fun e => ?_) (fun e => ?_)
  · have e := Option.some.inj e; subst e; exact wp_vret rfl rfl c
  · refine wp_p (j := J_Y_layBlock) 1 (pc' := 630) (lv' := [(0, .ref v0), (1, .int v1), (5, .int v5)]) (st' := [.ref v0]) rfl ?_
    refine x_gQ e rfl rfl fd_12_108 rfl (fun z2 e => ?_)
    refine wp_p (j := J_Y_layBlock) 1 (pc' := 635) (lv' := [(0, .ref v0), (1, .int v1), (5, .int v5)]) (st' := [.int v5, .ref z2]) rfl ?_
    refine x_aB e rfl (.inr rfl) rfl (fun z3 e => ?_)
    refine z_ne e rfl (fun e => ?_) (fun e => ?_)
    · refine wp_p (j := J_Y_layBlock) 3 (pc' := 643) (lv' := [(0, .ref v0), (1, .int v1), (5, .int v5)]) (st' := [.int 7, .int v1, .ref v0]) rfl ?_
      refine x_cv1 (As := [.int v1, .int 7]) (rest := []) Value.int e rfl rfl rfl rfl rfl rfl (fun h => d_Y_of h ⟨rfl, rfl⟩) (fun z4 e => ?_)
      refine wp_p (j := J_Y_layBlock) 1 (pc' := 647) (lv' := [(0, .ref v0), (1, .int v1), (5, .int v5)]) (st' := [.int (-1), .int z4]) rfl ?_
      refine x_ne e rfl (fun e => ?_) (fun e => ?_)
      · refine wp_p (j := J_Y_layBlock) 1 (pc' := 651) (lv' := [(0, .ref v0), (1, .int v1), (5, .int v5)]) (st' := [.ref v0]) rfl ?_
        refine x_gQ e rfl rfl fd_12_115 rfl (fun z5 e => ?_)
        refine wp_p (j := J_Y_layBlock) 2 (pc' := 656) (lv' := [(0, .ref v0), (1, .int v1), (5, .int v5)]) (st' := [.ref v0, .int v1, .ref z5]) rfl ?_
        refine x_gQ e rfl rfl fd_12_115 rfl (fun z6 e => ?_)
        refine wp_p (j := J_Y_layBlock) 1 (pc' := 660) (lv' := [(0, .ref v0), (1, .int v1), (5, .int v5)]) (st' := [.int v1, .ref z6, .int v1, .ref z5]) rfl ?_
        refine x_aI e rfl rfl (fun z7 e => ?_)
        refine wp_p (j := J_Y_layBlock) 1 (pc' := 662) (lv' := [(0, .ref v0), (1, .int v1), (5, .int v5)]) (st' := [.ref v0, .int z7, .int v1, .ref z5]) rfl ?_
        refine x_gQ e rfl rfl fd_12_115 rfl (fun z8 e => ?_)
        refine wp_p (j := J_Y_layBlock) 1 (pc' := 667) (lv' := [(0, .ref v0), (1, .int v1), (5, .int v5)]) (st' := [.int v5, .ref z8, .int z7, .int v1, .ref z5]) rfl ?_
        refine x_aI e rfl rfl (fun z9 e => ?_)
        refine x_mx rfl rfl ?_
        refine x_sI e rfl rfl (fun g10 e => ?_)
        have e := Option.some.inj e; subst e; exact wp_vret rfl rfl c
      · have e := Option.some.inj e; subst e; exact wp_vret rfl rfl c
    · have e := Option.some.inj e; subst e; exact wp_vret rfl rfl c
noncomputable def k_Y_layBlock_540 (v0 : Nat) (v1 : Int32) (v5 : Int32) (v9 : Int32) (g : g_S) : Option g_S :=
  (rQ g 112 v0 114).bind fun z1 =>
  (vc g 112 v0 (M_Y_of v0 v1 3 g)).bind fun z2 =>
  (sI g z1 v1 z2).bind fun g3 =>
  (rQ g3 112 v0 115).bind fun z4 =>
  (vc g3 112 v0 (M_Y_of v0 v1 3 g3)).bind fun z5 =>
  (sI g3 z4 v1 z5).bind fun g6 =>
  (vc g6 112 v0 (M_Y_joins v0 v1 g6)).bind fun z7 =>
  if z7 = 0 then
    some g6
  else
    if v9 = (-1) then
      some g6
    else
      (vc g6 112 v0 (M_Y_isBox v0 v9 g6)).bind fun z8 =>
      if z8 = 0 then
        k_Y_layBlock_620 v0 v1 v5 g6
      else
        (rQ g6 112 v0 108).bind fun z9 =>
        (aI g6 2 z9 v9).bind fun z10 =>
        if z10 = 0 then
          (rQ g6 112 v0 114).bind fun z11 =>
          (rQ g6 112 v0 114).bind fun z12 =>
          (aI g6 0 z12 v1).bind fun z13 =>
          (rQ g6 112 v0 114).bind fun z14 =>
          (aI g6 0 z14 v9).bind fun z15 =>
          (sI g6 z11 v1 (mx z13 z15)).bind fun g16 =>
          k_Y_layBlock_620 v0 v1 v5 g16
        else
          k_Y_layBlock_620 v0 v1 v5 g6
set_option maxRecDepth 20000 in
theorem x_Y_layBlock_540 {L : Nat} {xs : Nat → Int32} {Q : Option Value → ab_H → Prop} {v0 : Nat} {v1 : Int32} {v5 : Int32} {v9 : Int32} {g : g_S} {out : g_S} (e : k_Y_layBlock_540 v0 v1 v5 v9 g = some out) (c : Q none (hp out)) : wp (ab_ext L xs) J_Y_layBlock 540 [(0, .ref v0), (1, .int v1), (5, .int v5), (9, .int v9)] [] (hp g) Q := by
  unfold k_Y_layBlock_540 at e
  refine wp_p (j := J_Y_layBlock) 1 (pc' := 541) (lv' := [(0, .ref v0), (1, .int v1), (5, .int v5), (9, .int v9)]) (st' := [.ref v0]) rfl ?_
  refine x_gQ e rfl rfl fd_12_114 rfl (fun z1 e => ?_)
  refine wp_p (j := J_Y_layBlock) 4 (pc' := 548) (lv' := [(0, .ref v0), (1, .int v1), (5, .int v5), (9, .int v9)]) (st' := [.int 3, .int v1, .ref v0, .int v1, .ref z1]) rfl ?_
  refine x_cv1 (As := [.int v1, .int 3]) (rest := [.int v1, .ref z1]) Value.int e rfl rfl rfl rfl rfl rfl (fun h => d_Y_of h ⟨rfl, rfl⟩) (fun z2 e => ?_)
  refine x_sI e rfl rfl (fun g3 e => ?_)
  refine wp_p (j := J_Y_layBlock) 1 (pc' := 553) (lv' := [(0, .ref v0), (1, .int v1), (5, .int v5), (9, .int v9)]) (st' := [.ref v0]) rfl ?_
  refine x_gQ e rfl rfl fd_12_115 rfl (fun z4 e => ?_)
  refine wp_p (j := J_Y_layBlock) 4 (pc' := 560) (lv' := [(0, .ref v0), (1, .int v1), (5, .int v5), (9, .int v9)]) (st' := [.int 3, .int v1, .ref v0, .int v1, .ref z4]) rfl ?_
  refine x_cv1 (As := [.int v1, .int 3]) (rest := [.int v1, .ref z4]) Value.int e rfl rfl rfl rfl rfl rfl (fun h => d_Y_of h ⟨rfl, rfl⟩) (fun z5 e => ?_)
  refine x_sI e rfl rfl (fun g6 e => ?_)
  refine wp_p (j := J_Y_layBlock) 2 (pc' := 566) (lv' := [(0, .ref v0), (1, .int v1), (5, .int v5), (9, .int v9)]) (st' := [.int v1, .ref v0]) rfl ?_
  refine x_cv1 (As := [.int v1]) (rest := []) Value.int e rfl rfl rfl rfl rfl rfl (fun h => d_Y_joins h ⟨rfl, rfl⟩) (fun z7 e => ?_)
  refine z_eq e rfl (fun e => ?_) (fun e => ?_)
  · have e := Option.some.inj e; subst e; exact wp_vret rfl rfl c
  · refine wp_p (j := J_Y_layBlock) 2 (pc' := 575) (lv' := [(0, .ref v0), (1, .int v1), (5, .int v5), (9, .int v9)]) (st' := [.int (-1), .int v9]) rfl ?_
    refine x_ne e rfl (fun e => ?_) (fun e => ?_)
    · have e := Option.some.inj e; subst e; exact wp_vret rfl rfl c
    · refine wp_p (j := J_Y_layBlock) 2 (pc' := 582) (lv' := [(0, .ref v0), (1, .int v1), (5, .int v5), (9, .int v9)]) (st' := [.int v9, .ref v0]) rfl ?_
      refine x_cv1 (As := [.int v9]) (rest := []) Value.int e rfl rfl rfl rfl rfl rfl (fun h => d_Y_isBox h ⟨rfl, rfl⟩) (fun z8 e => ?_)
      refine z_eq e rfl (fun e => ?_) (fun e => ?_)
      · exact wp_lv (lv' := [(0, .ref v0), (1, .int v1), (5, .int v5)]) rfl ⟨rfl, rfl, rfl, trivial⟩ (x_Y_layBlock_620 e c)
      · refine wp_p (j := J_Y_layBlock) 1 (pc' := 589) (lv' := [(0, .ref v0), (1, .int v1), (5, .int v5), (9, .int v9)]) (st' := [.ref v0]) rfl ?_
        refine x_gQ e rfl rfl fd_12_108 rfl (fun z9 e => ?_)
        refine wp_p (j := J_Y_layBlock) 1 (pc' := 594) (lv' := [(0, .ref v0), (1, .int v1), (5, .int v5), (9, .int v9)]) (st' := [.int v9, .ref z9]) rfl ?_
        refine x_aB e rfl (.inr rfl) rfl (fun z10 e => ?_)
        refine z_ne e rfl (fun e => ?_) (fun e => ?_)
        · refine wp_p (j := J_Y_layBlock) 1 (pc' := 599) (lv' := [(0, .ref v0), (1, .int v1), (5, .int v5), (9, .int v9)]) (st' := [.ref v0]) rfl ?_
          refine x_gQ e rfl rfl fd_12_114 rfl (fun z11 e => ?_)
          refine wp_p (j := J_Y_layBlock) 2 (pc' := 604) (lv' := [(0, .ref v0), (1, .int v1), (5, .int v5), (9, .int v9)]) (st' := [.ref v0, .int v1, .ref z11]) rfl ?_
          refine x_gQ e rfl rfl fd_12_114 rfl (fun z12 e => ?_)
          refine wp_p (j := J_Y_layBlock) 1 (pc' := 608) (lv' := [(0, .ref v0), (1, .int v1), (5, .int v5), (9, .int v9)]) (st' := [.int v1, .ref z12, .int v1, .ref z11]) rfl ?_
          refine x_aI e rfl rfl (fun z13 e => ?_)
          refine wp_p (j := J_Y_layBlock) 1 (pc' := 610) (lv' := [(0, .ref v0), (1, .int v1), (5, .int v5), (9, .int v9)]) (st' := [.ref v0, .int z13, .int v1, .ref z11]) rfl ?_
          refine x_gQ e rfl rfl fd_12_114 rfl (fun z14 e => ?_)
          refine wp_p (j := J_Y_layBlock) 1 (pc' := 615) (lv' := [(0, .ref v0), (1, .int v1), (5, .int v5), (9, .int v9)]) (st' := [.int v9, .ref z14, .int z13, .int v1, .ref z11]) rfl ?_
          refine x_aI e rfl rfl (fun z15 e => ?_)
          refine x_mx rfl rfl ?_
          refine x_sI e rfl rfl (fun g16 e => ?_)
          exact wp_lv (lv' := [(0, .ref v0), (1, .int v1), (5, .int v5)]) rfl ⟨rfl, rfl, rfl, trivial⟩ (x_Y_layBlock_620 e c)
        · exact wp_lv (lv' := [(0, .ref v0), (1, .int v1), (5, .int v5)]) rfl ⟨rfl, rfl, rfl, trivial⟩ (x_Y_layBlock_620 e c)
noncomputable def M_Y_layBlock (v0 : Nat) (v1 : Int32) (g : g_S) : Option g_S :=
  (vc g 112 v0 (M_Y_inner v0 v1 g)).bind fun z1 =>
  (wI g 112 v0 145 z1).bind fun g2 =>
  (vc g2 112 v0 (M_Y_of v0 v1 9 g2)).bind fun z3 =>
  (wI g2 112 v0 133 z3).bind fun g4 =>
  (wI g4 112 v0 136 0).bind fun g5 =>
  (rQ g5 112 v0 50).bind fun z6 =>
  (aI g5 0 z6 v1).bind fun z7 =>
  (L_Y_layBlock_49 v0 v1 0 (-1) 0 1 0 (-1) z7 g5).bind <| fun z10 =>
  (rQ g5 112 v0 50).bind fun z11 =>
  (aI g5 0 z11 v1).bind fun z12 =>
  (L_Y_layBlock_89 v0 v1 z10 0 (-1) 0 1 0 z12 g5).bind <| u3 fun z15 z16 g17 =>
  (L_Y_layBlock_462 v0 v1 z10 (mx z16 z15) 0 g17).bind <| fun z20 =>
  (rQ g17 112 v0 113).bind fun z21 =>
  (vc g17 112 v0 (M_Y_heightOf v0 v1 z20 g17)).bind fun z22 =>
  (sI g17 z21 v1 z22).bind fun g23 =>
  (rQ g23 112 v0 50).bind fun z24 =>
  (aI g23 0 z24 v1).bind fun z25 =>
  (L_Y_layBlock_512 v0 v1 z10 z25 g23).bind <| fun z28 =>
  k_Y_layBlock_540 v0 v1 z10 z28 g23
set_option maxRecDepth 20000 in
theorem d_Y_layBlock {L : Nat} {xs : Nat → Int32} {Q : Option Value → ab_H → Prop} {v0 : Nat} {v1 : Int32} {g : g_S} {out : g_S} (e : M_Y_layBlock v0 v1 g = some out) (c : Q none (hp out)) : mw (ab_ext L xs) J_Y_layBlock [.ref v0, .int v1] (hp g) Q := by
  unfold M_Y_layBlock at e
  refine wp_p (j := J_Y_layBlock) 3 (pc' := 3) (lv' := [(0, .ref v0), (1, .int v1)]) (st' := [.int v1, .ref v0, .ref v0]) rfl ?_
  refine x_cv1 (As := [.int v1]) (rest := [.ref v0]) Value.int e rfl rfl rfl rfl rfl rfl (fun h => d_Y_inner h ⟨rfl, rfl⟩) (fun z1 e => ?_)
  refine x_pI e rfl rfl fw_12_145 rfl (fun g2 e => ?_)
  refine wp_p (j := J_Y_layBlock) 4 (pc' := 14) (lv' := [(0, .ref v0), (1, .int v1)]) (st' := [.int 9, .int v1, .ref v0, .ref v0]) rfl ?_
  refine x_cv1 (As := [.int v1, .int 9]) (rest := [.ref v0]) Value.int e rfl rfl rfl rfl rfl rfl (fun h => d_Y_of h ⟨rfl, rfl⟩) (fun z3 e => ?_)
  refine x_pI e rfl rfl fw_12_133 rfl (fun g4 e => ?_)
  refine wp_p (j := J_Y_layBlock) 2 (pc' := 22) (lv' := [(0, .ref v0), (1, .int v1)]) (st' := [.int 0, .ref v0]) rfl ?_
  refine x_pI e rfl rfl fw_12_136 rfl (fun g5 e => ?_)
  refine wp_p (j := J_Y_layBlock) 13 (pc' := 42) (lv' := [(7, .int 0), (6, .int 1), (5, .int (-1)), (4, .int 0), (3, .int (-1)), (2, .int 0), (0, .ref v0), (1, .int v1)]) (st' := [.ref v0]) rfl ?_
  refine x_gQ e rfl rfl fd_12_50 rfl (fun z6 e => ?_)
  refine wp_p (j := J_Y_layBlock) 1 (pc' := 46) (lv' := [(7, .int 0), (6, .int 1), (5, .int (-1)), (4, .int 0), (3, .int (-1)), (2, .int 0), (0, .ref v0), (1, .int v1)]) (st' := [.int v1, .ref z6]) rfl ?_
  refine x_aI e rfl rfl (fun z7 e => ?_)
  refine wp_p (j := J_Y_layBlock) 1 (pc' := 49) (lv' := [(8, .int z7), (7, .int 0), (6, .int 1), (5, .int (-1)), (4, .int 0), (3, .int (-1)), (2, .int 0), (0, .ref v0), (1, .int v1)]) (st' := []) rfl ?_
  obtain ⟨z10, h9, e⟩ := bd e
  refine wp_lv (lv' := [(0, .ref v0), (1, .int v1), (2, .int 0), (3, .int (-1)), (4, .int 0), (5, .int (-1)), (6, .int 1), (7, .int 0), (8, .int z7)]) rfl ⟨rfl, rfl, rfl, rfl, rfl, rfl, rfl, rfl, rfl, trivial⟩ ?_
  refine l_Y_layBlock_49 h9 ?_
  show wp (ab_ext L xs) J_Y_layBlock 81 [(0, .ref v0), (1, .int v1), (2, .int 0), (3, .int (-1)), (4, .int 0), (5, .int z10), (6, .int 1), (7, .int 0)] [] (hp g5) Q
  refine wp_p (j := J_Y_layBlock) 1 (pc' := 82) (lv' := [(0, .ref v0), (1, .int v1), (2, .int 0), (3, .int (-1)), (4, .int 0), (5, .int z10), (6, .int 1), (7, .int 0)]) (st' := [.ref v0]) rfl ?_
  refine x_gQ e rfl rfl fd_12_50 rfl (fun z11 e => ?_)
  refine wp_p (j := J_Y_layBlock) 1 (pc' := 86) (lv' := [(0, .ref v0), (1, .int v1), (2, .int 0), (3, .int (-1)), (4, .int 0), (5, .int z10), (6, .int 1), (7, .int 0)]) (st' := [.int v1, .ref z11]) rfl ?_
  refine x_aI e rfl rfl (fun z12 e => ?_)
  refine wp_p (j := J_Y_layBlock) 1 (pc' := 89) (lv' := [(8, .int z12), (0, .ref v0), (1, .int v1), (2, .int 0), (3, .int (-1)), (4, .int 0), (5, .int z10), (6, .int 1), (7, .int 0)]) (st' := []) rfl ?_
  obtain ⟨s13, h14, e⟩ := bd e
  refine wp_lv (lv' := [(0, .ref v0), (1, .int v1), (2, .int 0), (3, .int (-1)), (4, .int 0), (5, .int z10), (6, .int 1), (7, .int 0), (8, .int z12)]) rfl ⟨rfl, rfl, rfl, rfl, rfl, rfl, rfl, rfl, rfl, trivial⟩ ?_
  refine l_Y_layBlock_89 h14 ?_
  obtain ⟨z15, z16, g17⟩ := s13
  replace e := u3_e e
  show wp (ab_ext L xs) J_Y_layBlock 451 [(0, .ref v0), (1, .int v1), (2, .int z15), (5, .int z10), (7, .int z16)] [] (hp g17) Q
  refine wp_p (j := J_Y_layBlock) 2 (pc' := 454) (lv' := [(0, .ref v0), (1, .int v1), (2, .int z15), (5, .int z10), (7, .int z16)]) (st' := [.int z15, .int z16]) rfl ?_
  refine x_mx rfl rfl ?_
  refine wp_p (j := J_Y_layBlock) 3 (pc' := 462) (lv' := [(9, .int 0), (7, .int (mx z16 z15)), (0, .ref v0), (1, .int v1), (2, .int z15), (5, .int z10)]) (st' := []) rfl ?_
  obtain ⟨z20, h19, e⟩ := bd e
  refine wp_lv (lv' := [(0, .ref v0), (1, .int v1), (5, .int z10), (7, .int (mx z16 z15)), (9, .int 0)]) rfl ⟨rfl, rfl, rfl, rfl, rfl, trivial⟩ ?_
  refine l_Y_layBlock_462 h19 ?_
  show wp (ab_ext L xs) J_Y_layBlock 491 [(0, .ref v0), (1, .int v1), (5, .int z10), (7, .int z20)] [] (hp g17) Q
  refine wp_p (j := J_Y_layBlock) 1 (pc' := 492) (lv' := [(0, .ref v0), (1, .int v1), (5, .int z10), (7, .int z20)]) (st' := [.ref v0]) rfl ?_
  refine x_gQ e rfl rfl fd_12_113 rfl (fun z21 e => ?_)
  refine wp_p (j := J_Y_layBlock) 4 (pc' := 500) (lv' := [(0, .ref v0), (1, .int v1), (5, .int z10), (7, .int z20)]) (st' := [.int z20, .int v1, .ref v0, .int v1, .ref z21]) rfl ?_
  refine x_cv1 (As := [.int v1, .int z20]) (rest := [.int v1, .ref z21]) Value.int e rfl rfl rfl rfl rfl rfl (fun h => d_Y_heightOf h ⟨rfl, rfl⟩) (fun z22 e => ?_)
  refine x_sI e rfl rfl (fun g23 e => ?_)
  refine wp_p (j := J_Y_layBlock) 1 (pc' := 505) (lv' := [(0, .ref v0), (1, .int v1), (5, .int z10), (7, .int z20)]) (st' := [.ref v0]) rfl ?_
  refine x_gQ e rfl rfl fd_12_50 rfl (fun z24 e => ?_)
  refine wp_p (j := J_Y_layBlock) 1 (pc' := 509) (lv' := [(0, .ref v0), (1, .int v1), (5, .int z10), (7, .int z20)]) (st' := [.int v1, .ref z24]) rfl ?_
  refine x_aI e rfl rfl (fun z25 e => ?_)
  refine wp_p (j := J_Y_layBlock) 1 (pc' := 512) (lv' := [(9, .int z25), (0, .ref v0), (1, .int v1), (5, .int z10), (7, .int z20)]) (st' := []) rfl ?_
  obtain ⟨z28, h27, e⟩ := bd e
  refine wp_lv (lv' := [(0, .ref v0), (1, .int v1), (5, .int z10), (9, .int z25)]) rfl ⟨rfl, rfl, rfl, rfl, trivial⟩ ?_
  refine l_Y_layBlock_512 h27 ?_
  show wp (ab_ext L xs) J_Y_layBlock 540 [(0, .ref v0), (1, .int v1), (5, .int z10), (9, .int z28)] [] (hp g23) Q
  exact wp_lv (lv' := [(0, .ref v0), (1, .int v1), (5, .int z10), (9, .int z28)]) rfl ⟨rfl, rfl, rfl, rfl, trivial⟩ (x_Y_layBlock_540 e c)
def cL_Y_layFlex_12 (L : Nat) (xs : Nat → Int32) (Q : Option Value → ab_H → Prop) (v0 : Nat) (v1 : Int32) (out : (Int32 × Int32 × Int32 × g_S) ⊕ (Int32 × g_S)) : Prop := match out with
  | .inl s => wp (ab_ext L xs) J_Y_layFlex 12 [(0, .ref v0), (1, .int v1), (2, .int s.1), (3, .int s.2.1), (4, .int s.2.2.1)] [] (hp s.2.2.2) Q
  | .inr s => wp (ab_ext L xs) J_Y_layFlex 114 [(0, .ref v0), (1, .int v1), (3, .int s.1)] [] (hp s.2) Q
noncomputable def k_Y_layFlex_102 (v0 : Nat) (v1 : Int32) (v2 : Int32) (v3 : Int32) (v4 : Int32) (g : g_S) : Option ((Int32 × Int32 × Int32 × g_S) ⊕ (Int32 × g_S)) :=
  (rQ g 112 v0 52).bind fun z1 =>
  (aI g 0 z1 v4).bind fun z2 =>
  some (.inl (v2, v3, z2, g))
set_option maxRecDepth 20000 in
theorem x_Y_layFlex_102 {L : Nat} {xs : Nat → Int32} {Q : Option Value → ab_H → Prop} {v0 : Nat} {v1 : Int32} {v2 : Int32} {v3 : Int32} {v4 : Int32} {g : g_S} {out : (Int32 × Int32 × Int32 × g_S) ⊕ (Int32 × g_S)} (e : k_Y_layFlex_102 v0 v1 v2 v3 v4 g = some out) (c : cL_Y_layFlex_12 L xs Q v0 v1 out) : wp (ab_ext L xs) J_Y_layFlex 102 [(0, .ref v0), (1, .int v1), (2, .int v2), (3, .int v3), (4, .int v4)] [] (hp g) Q := by
  unfold k_Y_layFlex_102 at e
  refine wp_p (j := J_Y_layFlex) 1 (pc' := 103) (lv' := [(0, .ref v0), (1, .int v1), (2, .int v2), (3, .int v3), (4, .int v4)]) (st' := [.ref v0]) rfl ?_
  refine x_gQ e rfl rfl fd_12_52 rfl (fun z1 e => ?_)
  refine wp_p (j := J_Y_layFlex) 1 (pc' := 108) (lv' := [(0, .ref v0), (1, .int v1), (2, .int v2), (3, .int v3), (4, .int v4)]) (st' := [.int v4, .ref z1]) rfl ?_
  refine x_aI e rfl rfl (fun z2 e => ?_)
  refine wp_p (j := J_Y_layFlex) 2 (pc' := 12) (lv' := [(4, .int z2), (0, .ref v0), (1, .int v1), (2, .int v2), (3, .int v3)]) (st' := []) rfl ?_
  have e := Option.some.inj e; subst e; exact wp_lv (lv' := [(0, .ref v0), (1, .int v1), (2, .int v2), (3, .int v3), (4, .int z2)]) rfl ⟨rfl, rfl, rfl, rfl, rfl, trivial⟩ c
noncomputable def k_Y_layFlex_41 (v0 : Nat) (v1 : Int32) (v2 : Int32) (v3 : Int32) (v4 : Int32) (g : g_S) : Option ((Int32 × Int32 × Int32 × g_S) ⊕ (Int32 × g_S)) :=
  (vc g 112 v0 (M_Y_of v0 v4 3 g)).bind fun z1 =>
  (rQ g 112 v0 110).bind fun z2 =>
  (sI g z2 v4 (v2 + z1)).bind fun g3 =>
  (rQ g3 112 v0 111).bind fun z4 =>
  (sI g3 z4 v4 z1).bind fun g5 =>
  (rQ g5 112 v0 112).bind fun z6 =>
  (aI g5 0 z6 v4).bind fun z7 =>
  (rQ g5 112 v0 113).bind fun z8 =>
  (aI g5 0 z8 v4).bind fun z9 =>
  k_Y_layFlex_102 v0 v1 (v2 + (z7 + (2 * z1))) (mx v3 (z9 + (2 * z1))) v4 g5
set_option maxRecDepth 20000 in
theorem x_Y_layFlex_41 {L : Nat} {xs : Nat → Int32} {Q : Option Value → ab_H → Prop} {v0 : Nat} {v1 : Int32} {v2 : Int32} {v3 : Int32} {v4 : Int32} {g : g_S} {out : (Int32 × Int32 × Int32 × g_S) ⊕ (Int32 × g_S)} (e : k_Y_layFlex_41 v0 v1 v2 v3 v4 g = some out) (c : cL_Y_layFlex_12 L xs Q v0 v1 out) : wp (ab_ext L xs) J_Y_layFlex 41 [(0, .ref v0), (1, .int v1), (2, .int v2), (3, .int v3), (4, .int v4)] [] (hp g) Q := by
  unfold k_Y_layFlex_41 at e
  refine wp_p (j := J_Y_layFlex) 3 (pc' := 45) (lv' := [(0, .ref v0), (1, .int v1), (2, .int v2), (3, .int v3), (4, .int v4)]) (st' := [.int 3, .int v4, .ref v0]) rfl ?_
  refine x_cv1 (As := [.int v4, .int 3]) (rest := []) Value.int e rfl rfl rfl rfl rfl rfl (fun h => d_Y_of h ⟨rfl, rfl⟩) (fun z1 e => ?_)
  refine wp_p (j := J_Y_layFlex) 2 (pc' := 51) (lv' := [(5, .int z1), (0, .ref v0), (1, .int v1), (2, .int v2), (3, .int v3), (4, .int v4)]) (st' := [.ref v0]) rfl ?_
  refine x_gQ e rfl rfl fd_12_110 rfl (fun z2 e => ?_)
  refine wp_p (j := J_Y_layFlex) 4 (pc' := 60) (lv' := [(5, .int z1), (0, .ref v0), (1, .int v1), (2, .int v2), (3, .int v3), (4, .int v4)]) (st' := [.int (v2 + z1), .int v4, .ref z2]) rfl ?_
  refine x_sI e rfl rfl (fun g3 e => ?_)
  refine wp_p (j := J_Y_layFlex) 1 (pc' := 62) (lv' := [(5, .int z1), (0, .ref v0), (1, .int v1), (2, .int v2), (3, .int v3), (4, .int v4)]) (st' := [.ref v0]) rfl ?_
  refine x_gQ e rfl rfl fd_12_111 rfl (fun z4 e => ?_)
  refine wp_p (j := J_Y_layFlex) 2 (pc' := 69) (lv' := [(5, .int z1), (0, .ref v0), (1, .int v1), (2, .int v2), (3, .int v3), (4, .int v4)]) (st' := [.int z1, .int v4, .ref z4]) rfl ?_
  refine x_sI e rfl rfl (fun g5 e => ?_)
  refine wp_p (j := J_Y_layFlex) 2 (pc' := 72) (lv' := [(5, .int z1), (0, .ref v0), (1, .int v1), (2, .int v2), (3, .int v3), (4, .int v4)]) (st' := [.ref v0, .int v2]) rfl ?_
  refine x_gQ e rfl rfl fd_12_112 rfl (fun z6 e => ?_)
  refine wp_p (j := J_Y_layFlex) 1 (pc' := 77) (lv' := [(5, .int z1), (0, .ref v0), (1, .int v1), (2, .int v2), (3, .int v3), (4, .int v4)]) (st' := [.int v4, .ref z6, .int v2]) rfl ?_
  refine x_aI e rfl rfl (fun z7 e => ?_)
  refine wp_p (j := J_Y_layFlex) 8 (pc' := 87) (lv' := [(2, .int (v2 + (z7 + (2 * z1)))), (5, .int z1), (0, .ref v0), (1, .int v1), (3, .int v3), (4, .int v4)]) (st' := [.ref v0, .int v3]) rfl ?_
  refine x_gQ e rfl rfl fd_12_113 rfl (fun z8 e => ?_)
  refine wp_p (j := J_Y_layFlex) 1 (pc' := 92) (lv' := [(2, .int (v2 + (z7 + (2 * z1)))), (5, .int z1), (0, .ref v0), (1, .int v1), (3, .int v3), (4, .int v4)]) (st' := [.int v4, .ref z8, .int v3]) rfl ?_
  refine x_aI e rfl rfl (fun z9 e => ?_)
  refine wp_p (j := J_Y_layFlex) 4 (pc' := 98) (lv' := [(2, .int (v2 + (z7 + (2 * z1)))), (5, .int z1), (0, .ref v0), (1, .int v1), (3, .int v3), (4, .int v4)]) (st' := [.int (z9 + (2 * z1)), .int v3]) rfl ?_
  refine x_mx rfl rfl ?_
  refine wp_p (j := J_Y_layFlex) 1 (pc' := 102) (lv' := [(3, .int (mx v3 (z9 + (2 * z1)))), (2, .int (v2 + (z7 + (2 * z1)))), (5, .int z1), (0, .ref v0), (1, .int v1), (4, .int v4)]) (st' := []) rfl ?_
  exact wp_lv (lv' := [(0, .ref v0), (1, .int v1), (2, .int (v2 + (z7 + (2 * z1)))), (3, .int (mx v3 (z9 + (2 * z1)))), (4, .int v4)]) rfl ⟨rfl, rfl, rfl, rfl, rfl, trivial⟩ (x_Y_layFlex_102 e c)
noncomputable def b_Y_layFlex_12 (v0 : Nat) (v1 : Int32) (v2 : Int32) (v3 : Int32) (v4 : Int32) (g : g_S) : Option ((Int32 × Int32 × Int32 × g_S) ⊕ (Int32 × g_S)) :=
  if v4 = (-1) then
    some (.inr (v3, g))
  else
    (vc g 112 v0 (M_Y_isBox v0 v4 g)).bind fun z1 =>
    if z1 = 0 then
      (rQ g 112 v0 107).bind fun z2 =>
      (aI g 0 z2 v4).bind fun z3 =>
      if z3 = 4 then
        k_Y_layFlex_41 v0 v1 v2 v3 v4 g
      else
        k_Y_layFlex_102 v0 v1 v2 v3 v4 g
    else
      k_Y_layFlex_41 v0 v1 v2 v3 v4 g
set_option maxRecDepth 20000 in
theorem y_Y_layFlex_12 {L : Nat} {xs : Nat → Int32} {Q : Option Value → ab_H → Prop} {v0 : Nat} {v1 : Int32} {v2 : Int32} {v3 : Int32} {v4 : Int32} {g : g_S} {out : (Int32 × Int32 × Int32 × g_S) ⊕ (Int32 × g_S)} (e : b_Y_layFlex_12 v0 v1 v2 v3 v4 g = some out) (c : cL_Y_layFlex_12 L xs Q v0 v1 out) : wp (ab_ext L xs) J_Y_layFlex 12 [(0, .ref v0), (1, .int v1), (2, .int v2), (3, .int v3), (4, .int v4)] [] (hp g) Q := by
  unfold b_Y_layFlex_12 at e
  refine wp_p (j := J_Y_layFlex) 2 (pc' := 15) (lv' := [(0, .ref v0), (1, .int v1), (2, .int v2), (3, .int v3), (4, .int v4)]) (st' := [.int (-1), .int v4]) rfl ?_
  refine x_eq e rfl (fun e => ?_) (fun e => ?_)
  · have e := Option.some.inj e; subst e; exact wp_lv (lv' := [(0, .ref v0), (1, .int v1), (3, .int v3)]) rfl ⟨rfl, rfl, rfl, trivial⟩ c
  · refine wp_p (j := J_Y_layFlex) 2 (pc' := 21) (lv' := [(0, .ref v0), (1, .int v1), (2, .int v2), (3, .int v3), (4, .int v4)]) (st' := [.int v4, .ref v0]) rfl ?_
    refine x_cv1 (As := [.int v4]) (rest := []) Value.int e rfl rfl rfl rfl rfl rfl (fun h => d_Y_isBox h ⟨rfl, rfl⟩) (fun z1 e => ?_)
    refine z_ne e rfl (fun e => ?_) (fun e => ?_)
    · refine wp_p (j := J_Y_layFlex) 1 (pc' := 28) (lv' := [(0, .ref v0), (1, .int v1), (2, .int v2), (3, .int v3), (4, .int v4)]) (st' := [.ref v0]) rfl ?_
      refine x_gQ e rfl rfl fd_12_107 rfl (fun z2 e => ?_)
      refine wp_p (j := J_Y_layFlex) 1 (pc' := 33) (lv' := [(0, .ref v0), (1, .int v1), (2, .int v2), (3, .int v3), (4, .int v4)]) (st' := [.int v4, .ref z2]) rfl ?_
      refine x_aI e rfl rfl (fun z3 e => ?_)
      refine wp_p (j := J_Y_layFlex) 1 (pc' := 35) (lv' := [(0, .ref v0), (1, .int v1), (2, .int v2), (3, .int v3), (4, .int v4)]) (st' := [.int 4, .int z3]) rfl ?_
      refine x_eq e rfl (fun e => ?_) (fun e => ?_)
      · exact wp_lv (lv' := [(0, .ref v0), (1, .int v1), (2, .int v2), (3, .int v3), (4, .int v4)]) rfl ⟨rfl, rfl, rfl, rfl, rfl, trivial⟩ (x_Y_layFlex_41 e c)
      · refine wp_p (j := J_Y_layFlex) 1 (pc' := 102) (lv' := [(0, .ref v0), (1, .int v1), (2, .int v2), (3, .int v3), (4, .int v4)]) (st' := []) rfl ?_
        exact wp_lv (lv' := [(0, .ref v0), (1, .int v1), (2, .int v2), (3, .int v3), (4, .int v4)]) rfl ⟨rfl, rfl, rfl, rfl, rfl, trivial⟩ (x_Y_layFlex_102 e c)
    · exact wp_lv (lv' := [(0, .ref v0), (1, .int v1), (2, .int v2), (3, .int v3), (4, .int v4)]) rfl ⟨rfl, rfl, rfl, rfl, rfl, trivial⟩ (x_Y_layFlex_41 e c)
noncomputable def L_Y_layFlex_12 (v0 : Nat) (v1 : Int32) (v2 : Int32) (v3 : Int32) (v4 : Int32) (g : g_S) : Option (Int32 × g_S) := it (fun s : Int32 × Int32 × Int32 × g_S => b_Y_layFlex_12 v0 v1 s.1 s.2.1 s.2.2.1 s.2.2.2) (v2, v3, v4, g)
theorem l_Y_layFlex_12 {L : Nat} {xs : Nat → Int32} {Q : Option Value → ab_H → Prop} {v0 : Nat} {v1 : Int32} {v2 : Int32} {v3 : Int32} {v4 : Int32} {g : g_S} {r : Int32 × g_S} (e : L_Y_layFlex_12 v0 v1 v2 v3 v4 g = some r) (c : cL_Y_layFlex_12 L xs Q v0 v1 (.inr r)) : wp (ab_ext L xs) J_Y_layFlex 12 [(0, .ref v0), (1, .int v1), (2, .int v2), (3, .int v3), (4, .int v4)] [] (hp g) Q :=
  it_wp (P := fun s : Int32 × Int32 × Int32 × g_S => wp (ab_ext L xs) J_Y_layFlex 12 [(0, .ref v0), (1, .int v1), (2, .int s.1), (3, .int s.2.1), (4, .int s.2.2.1)] [] (hp s.2.2.2) Q) (E := fun r => cL_Y_layFlex_12 L xs Q v0 v1 (.inr r)) (fun s out e c => y_Y_layFlex_12 e (by cases out <;> exact c)) e c
theorem L_Y_layFlex_12_eq (v0 : Nat) (v1 : Int32) (v2 : Int32) (v3 : Int32) (v4 : Int32) (g : g_S) : L_Y_layFlex_12 v0 v1 v2 v3 v4 g = itc (b_Y_layFlex_12 v0 v1 v2 v3 v4 g) (fun s => L_Y_layFlex_12 v0 v1 s.1 s.2.1 s.2.2.1 s.2.2.2) := it_eq2 (fun s : Int32 × Int32 × Int32 × g_S => b_Y_layFlex_12 v0 v1 s.1 s.2.1 s.2.2.1 s.2.2.2) (v2, v3, v4, g)
noncomputable def M_Y_layFlex (v0 : Nat) (v1 : Int32) (g : g_S) : Option g_S :=
  (rQ g 112 v0 50).bind fun z1 =>
  (aI g 0 z1 v1).bind fun z2 =>
  (L_Y_layFlex_12 v0 v1 0 0 z2 g).bind <| u2 fun z5 g6 =>
  (rQ g6 112 v0 114).bind fun z7 =>
  (vc g6 112 v0 (M_Y_of v0 v1 3 g6)).bind fun z8 =>
  (sI g6 z7 v1 z8).bind fun g9 =>
  (rQ g9 112 v0 115).bind fun z10 =>
  (vc g9 112 v0 (M_Y_of v0 v1 3 g9)).bind fun z11 =>
  (sI g9 z10 v1 z11).bind fun g12 =>
  (rQ g12 112 v0 113).bind fun z13 =>
  (vc g12 112 v0 (M_Y_heightOf v0 v1 z5 g12)).bind fun z14 =>
  (sI g12 z13 v1 z14).bind fun g15 =>
  some g15
set_option maxRecDepth 20000 in
theorem d_Y_layFlex {L : Nat} {xs : Nat → Int32} {Q : Option Value → ab_H → Prop} {v0 : Nat} {v1 : Int32} {g : g_S} {out : g_S} (e : M_Y_layFlex v0 v1 g = some out) (c : Q none (hp out)) : mw (ab_ext L xs) J_Y_layFlex [.ref v0, .int v1] (hp g) Q := by
  unfold M_Y_layFlex at e
  refine wp_p (j := J_Y_layFlex) 5 (pc' := 5) (lv' := [(3, .int 0), (2, .int 0), (0, .ref v0), (1, .int v1)]) (st' := [.ref v0]) rfl ?_
  refine x_gQ e rfl rfl fd_12_50 rfl (fun z1 e => ?_)
  refine wp_p (j := J_Y_layFlex) 1 (pc' := 9) (lv' := [(3, .int 0), (2, .int 0), (0, .ref v0), (1, .int v1)]) (st' := [.int v1, .ref z1]) rfl ?_
  refine x_aI e rfl rfl (fun z2 e => ?_)
  refine wp_p (j := J_Y_layFlex) 1 (pc' := 12) (lv' := [(4, .int z2), (3, .int 0), (2, .int 0), (0, .ref v0), (1, .int v1)]) (st' := []) rfl ?_
  obtain ⟨s3, h4, e⟩ := bd e
  refine wp_lv (lv' := [(0, .ref v0), (1, .int v1), (2, .int 0), (3, .int 0), (4, .int z2)]) rfl ⟨rfl, rfl, rfl, rfl, rfl, trivial⟩ ?_
  refine l_Y_layFlex_12 h4 ?_
  obtain ⟨z5, g6⟩ := s3
  replace e := u2_e e
  show wp (ab_ext L xs) J_Y_layFlex 114 [(0, .ref v0), (1, .int v1), (3, .int z5)] [] (hp g6) Q
  refine wp_p (j := J_Y_layFlex) 1 (pc' := 115) (lv' := [(0, .ref v0), (1, .int v1), (3, .int z5)]) (st' := [.ref v0]) rfl ?_
  refine x_gQ e rfl rfl fd_12_114 rfl (fun z7 e => ?_)
  refine wp_p (j := J_Y_layFlex) 4 (pc' := 122) (lv' := [(0, .ref v0), (1, .int v1), (3, .int z5)]) (st' := [.int 3, .int v1, .ref v0, .int v1, .ref z7]) rfl ?_
  refine x_cv1 (As := [.int v1, .int 3]) (rest := [.int v1, .ref z7]) Value.int e rfl rfl rfl rfl rfl rfl (fun h => d_Y_of h ⟨rfl, rfl⟩) (fun z8 e => ?_)
  refine x_sI e rfl rfl (fun g9 e => ?_)
  refine wp_p (j := J_Y_layFlex) 1 (pc' := 127) (lv' := [(0, .ref v0), (1, .int v1), (3, .int z5)]) (st' := [.ref v0]) rfl ?_
  refine x_gQ e rfl rfl fd_12_115 rfl (fun z10 e => ?_)
  refine wp_p (j := J_Y_layFlex) 4 (pc' := 134) (lv' := [(0, .ref v0), (1, .int v1), (3, .int z5)]) (st' := [.int 3, .int v1, .ref v0, .int v1, .ref z10]) rfl ?_
  refine x_cv1 (As := [.int v1, .int 3]) (rest := [.int v1, .ref z10]) Value.int e rfl rfl rfl rfl rfl rfl (fun h => d_Y_of h ⟨rfl, rfl⟩) (fun z11 e => ?_)
  refine x_sI e rfl rfl (fun g12 e => ?_)
  refine wp_p (j := J_Y_layFlex) 1 (pc' := 139) (lv' := [(0, .ref v0), (1, .int v1), (3, .int z5)]) (st' := [.ref v0]) rfl ?_
  refine x_gQ e rfl rfl fd_12_113 rfl (fun z13 e => ?_)
  refine wp_p (j := J_Y_layFlex) 4 (pc' := 146) (lv' := [(0, .ref v0), (1, .int v1), (3, .int z5)]) (st' := [.int z5, .int v1, .ref v0, .int v1, .ref z13]) rfl ?_
  refine x_cv1 (As := [.int v1, .int z5]) (rest := [.int v1, .ref z13]) Value.int e rfl rfl rfl rfl rfl rfl (fun h => d_Y_heightOf h ⟨rfl, rfl⟩) (fun z14 e => ?_)
  refine x_sI e rfl rfl (fun g15 e => ?_)
  have e := Option.some.inj e; subst e; exact wp_vret rfl rfl c
def cL_Y_lay_276 (L : Nat) (xs : Nat → Int32) (Q : Option Value → ab_H → Prop) (v0 : Nat) (out : (Int32 × g_S) ⊕ (g_S)) : Prop := match out with
  | .inl s => wp (ab_ext L xs) J_Y_lay 276 [(0, .ref v0), (1, .int s.1)] [] (hp s.2) Q
  | .inr s => wp (ab_ext L xs) J_Y_lay 339 [(0, .ref v0)] [] (hp s) Q
noncomputable def b_Y_lay_276 (v0 : Nat) (v1 : Int32) (g : g_S) : Option ((Int32 × g_S) ⊕ (g_S)) :=
  if v1 < 0 then
    some (.inr g)
  else
    (rQ g 112 v0 107).bind fun z1 =>
    (rQ g 112 v0 124).bind fun z2 =>
    (aI g 0 z2 v1).bind fun z3 =>
    (aI g 0 z1 z3).bind fun z4 =>
    if z4 = 1 then
      (rQ g 112 v0 124).bind fun z5 =>
      (aI g 0 z5 v1).bind fun z6 =>
      (vc g 112 v0 (M_Y_layBlock v0 z6 g)).bind fun g7 =>
      some (.inl (v1 + (-1), g7))
    else
      (rQ g 112 v0 107).bind fun z8 =>
      (rQ g 112 v0 124).bind fun z9 =>
      (aI g 0 z9 v1).bind fun z10 =>
      (aI g 0 z8 z10).bind fun z11 =>
      if z11 = 2 then
        (rQ g 112 v0 124).bind fun z12 =>
        (aI g 0 z12 v1).bind fun z13 =>
        (vc g 112 v0 (M_Y_layFlex v0 z13 g)).bind fun g14 =>
        some (.inl (v1 + (-1), g14))
      else
        some (.inl (v1 + (-1), g))
set_option maxRecDepth 20000 in
theorem y_Y_lay_276 {L : Nat} {xs : Nat → Int32} {Q : Option Value → ab_H → Prop} {v0 : Nat} {v1 : Int32} {g : g_S} {out : (Int32 × g_S) ⊕ (g_S)} (e : b_Y_lay_276 v0 v1 g = some out) (c : cL_Y_lay_276 L xs Q v0 out) : wp (ab_ext L xs) J_Y_lay 276 [(0, .ref v0), (1, .int v1)] [] (hp g) Q := by
  unfold b_Y_lay_276 at e
  refine wp_p (j := J_Y_lay) 1 (pc' := 277) (lv' := [(0, .ref v0), (1, .int v1)]) (st' := [.int v1]) rfl ?_
  refine z_lt e rfl (fun e => ?_) (fun e => ?_)
  · have e := Option.some.inj e; subst e; exact wp_lv (lv' := [(0, .ref v0)]) rfl ⟨rfl, trivial⟩ c
  · refine wp_p (j := J_Y_lay) 1 (pc' := 281) (lv' := [(0, .ref v0), (1, .int v1)]) (st' := [.ref v0]) rfl ?_
    refine x_gQ e rfl rfl fd_12_107 rfl (fun z1 e => ?_)
    refine wp_p (j := J_Y_lay) 1 (pc' := 285) (lv' := [(0, .ref v0), (1, .int v1)]) (st' := [.ref v0, .ref z1]) rfl ?_
    refine x_gQ e rfl rfl fd_12_124 rfl (fun z2 e => ?_)
    refine wp_p (j := J_Y_lay) 1 (pc' := 289) (lv' := [(0, .ref v0), (1, .int v1)]) (st' := [.int v1, .ref z2, .ref z1]) rfl ?_
    refine x_aI e rfl rfl (fun z3 e => ?_)
    refine x_aI e rfl rfl (fun z4 e => ?_)
    refine wp_p (j := J_Y_lay) 1 (pc' := 292) (lv' := [(0, .ref v0), (1, .int v1)]) (st' := [.int 1, .int z4]) rfl ?_
    refine x_ne e rfl (fun e => ?_) (fun e => ?_)
    · refine wp_p (j := J_Y_lay) 2 (pc' := 297) (lv' := [(0, .ref v0), (1, .int v1)]) (st' := [.ref v0, .ref v0]) rfl ?_
      refine x_gQ e rfl rfl fd_12_124 rfl (fun z5 e => ?_)
      refine wp_p (j := J_Y_lay) 1 (pc' := 301) (lv' := [(0, .ref v0), (1, .int v1)]) (st' := [.int v1, .ref z5, .ref v0]) rfl ?_
      refine x_aI e rfl rfl (fun z6 e => ?_)
      refine x_cv0 (As := [.int z6]) (rest := []) e rfl rfl rfl rfl rfl rfl (fun h => d_Y_layBlock h ⟨rfl, rfl⟩) (fun g7 e => ?_)
      refine wp_p (j := J_Y_lay) 3 (pc' := 276) (lv' := [(1, .int (v1 + (-1))), (0, .ref v0)]) (st' := []) rfl ?_
      have e := Option.some.inj e; subst e; exact wp_lv (lv' := [(0, .ref v0), (1, .int (v1 + (-1)))]) rfl ⟨rfl, rfl, trivial⟩ c
    · refine wp_p (j := J_Y_lay) 1 (pc' := 309) (lv' := [(0, .ref v0), (1, .int v1)]) (st' := [.ref v0]) rfl ?_
      refine x_gQ e rfl rfl fd_12_107 rfl (fun z8 e => ?_)
      refine wp_p (j := J_Y_lay) 1 (pc' := 313) (lv' := [(0, .ref v0), (1, .int v1)]) (st' := [.ref v0, .ref z8]) rfl ?_
      refine x_gQ e rfl rfl fd_12_124 rfl (fun z9 e => ?_)
      refine wp_p (j := J_Y_lay) 1 (pc' := 317) (lv' := [(0, .ref v0), (1, .int v1)]) (st' := [.int v1, .ref z9, .ref z8]) rfl ?_
      refine x_aI e rfl rfl (fun z10 e => ?_)
      refine x_aI e rfl rfl (fun z11 e => ?_)
      refine wp_p (j := J_Y_lay) 1 (pc' := 320) (lv' := [(0, .ref v0), (1, .int v1)]) (st' := [.int 2, .int z11]) rfl ?_
      refine x_ne e rfl (fun e => ?_) (fun e => ?_)
      · refine wp_p (j := J_Y_lay) 2 (pc' := 325) (lv' := [(0, .ref v0), (1, .int v1)]) (st' := [.ref v0, .ref v0]) rfl ?_
        refine x_gQ e rfl rfl fd_12_124 rfl (fun z12 e => ?_)
        refine wp_p (j := J_Y_lay) 1 (pc' := 329) (lv' := [(0, .ref v0), (1, .int v1)]) (st' := [.int v1, .ref z12, .ref v0]) rfl ?_
        refine x_aI e rfl rfl (fun z13 e => ?_)
        refine x_cv0 (As := [.int z13]) (rest := []) e rfl rfl rfl rfl rfl rfl (fun h => d_Y_layFlex h ⟨rfl, rfl⟩) (fun g14 e => ?_)
        refine wp_p (j := J_Y_lay) 2 (pc' := 276) (lv' := [(1, .int (v1 + (-1))), (0, .ref v0)]) (st' := []) rfl ?_
        have e := Option.some.inj e; subst e; exact wp_lv (lv' := [(0, .ref v0), (1, .int (v1 + (-1)))]) rfl ⟨rfl, rfl, trivial⟩ c
      · refine wp_p (j := J_Y_lay) 2 (pc' := 276) (lv' := [(1, .int (v1 + (-1))), (0, .ref v0)]) (st' := []) rfl ?_
        have e := Option.some.inj e; subst e; exact wp_lv (lv' := [(0, .ref v0), (1, .int (v1 + (-1)))]) rfl ⟨rfl, rfl, trivial⟩ c
noncomputable def L_Y_lay_276 (v0 : Nat) (v1 : Int32) (g : g_S) : Option (g_S) := it (fun s : Int32 × g_S => b_Y_lay_276 v0 s.1 s.2) (v1, g)
theorem l_Y_lay_276 {L : Nat} {xs : Nat → Int32} {Q : Option Value → ab_H → Prop} {v0 : Nat} {v1 : Int32} {g : g_S} {r : g_S} (e : L_Y_lay_276 v0 v1 g = some r) (c : cL_Y_lay_276 L xs Q v0 (.inr r)) : wp (ab_ext L xs) J_Y_lay 276 [(0, .ref v0), (1, .int v1)] [] (hp g) Q :=
  it_wp (P := fun s : Int32 × g_S => wp (ab_ext L xs) J_Y_lay 276 [(0, .ref v0), (1, .int s.1)] [] (hp s.2) Q) (E := fun r => cL_Y_lay_276 L xs Q v0 (.inr r)) (fun s out e c => y_Y_lay_276 e (by cases out <;> exact c)) e c
theorem L_Y_lay_276_eq (v0 : Nat) (v1 : Int32) (g : g_S) : L_Y_lay_276 v0 v1 g = itc (b_Y_lay_276 v0 v1 g) (fun s => L_Y_lay_276 v0 s.1 s.2) := it_eq2 (fun s : Int32 × g_S => b_Y_lay_276 v0 s.1 s.2) (v1, g)
def cL_Y_lay_458 (L : Nat) (xs : Nat → Int32) (Q : Option Value → ab_H → Prop) (v0 : Nat) (out : (Int32 × g_S) ⊕ (g_S)) : Prop := match out with
  | .inl s => wp (ab_ext L xs) J_Y_lay 458 [(0, .ref v0), (1, .int s.1)] [] (hp s.2) Q
  | .inr s => wp (ab_ext L xs) J_Y_lay 526 [] [] (hp s) Q
noncomputable def b_Y_lay_458 (v0 : Nat) (v1 : Int32) (g : g_S) : Option ((Int32 × g_S) ⊕ (g_S)) :=
  (rI g 112 v0 117).bind fun z1 =>
  if v1 < z1 then
    (rQ g 112 v0 109).bind fun z2 =>
    (rQ g 112 v0 118).bind fun z3 =>
    (aI g 0 z3 v1).bind fun z4 =>
    (aI g 0 z2 z4).bind fun z5 =>
    (rQ g 112 v0 121).bind fun z6 =>
    (aI g 0 z6 v1).bind fun z7 =>
    (rQ g 112 v0 110).bind fun z8 =>
    (aI g 0 z8 z5).bind fun z9 =>
    (vc g 112 v0 (M_Y_edges v0 z5 g)).bind fun z10 =>
    (sI g z6 v1 (z7 + (z9 + z10))).bind fun g11 =>
    (rQ g11 112 v0 122).bind fun z12 =>
    (aI g11 0 z12 v1).bind fun z13 =>
    (rQ g11 112 v0 111).bind fun z14 =>
    (aI g11 0 z14 z5).bind fun z15 =>
    (vc g11 112 v0 (M_Y_edges v0 z5 g11)).bind fun z16 =>
    (sI g11 z12 v1 (z13 + (z15 + z16))).bind fun g17 =>
    some (.inl (v1 + 1, g17))
  else
    some (.inr g)
set_option maxRecDepth 20000 in
theorem y_Y_lay_458 {L : Nat} {xs : Nat → Int32} {Q : Option Value → ab_H → Prop} {v0 : Nat} {v1 : Int32} {g : g_S} {out : (Int32 × g_S) ⊕ (g_S)} (e : b_Y_lay_458 v0 v1 g = some out) (c : cL_Y_lay_458 L xs Q v0 out) : wp (ab_ext L xs) J_Y_lay 458 [(0, .ref v0), (1, .int v1)] [] (hp g) Q := by
  unfold b_Y_lay_458 at e
  refine wp_p (j := J_Y_lay) 2 (pc' := 460) (lv' := [(0, .ref v0), (1, .int v1)]) (st' := [.ref v0, .int v1]) rfl ?_
  refine x_gI e rfl rfl fd_12_117 rfl (fun z1 e => ?_)
  refine x_ge e rfl (fun e => ?_) (fun e => ?_)
  · refine wp_p (j := J_Y_lay) 1 (pc' := 467) (lv' := [(0, .ref v0), (1, .int v1)]) (st' := [.ref v0]) rfl ?_
    refine x_gQ e rfl rfl fd_12_109 rfl (fun z2 e => ?_)
    refine wp_p (j := J_Y_lay) 1 (pc' := 471) (lv' := [(0, .ref v0), (1, .int v1)]) (st' := [.ref v0, .ref z2]) rfl ?_
    refine x_gQ e rfl rfl fd_12_118 rfl (fun z3 e => ?_)
    refine wp_p (j := J_Y_lay) 1 (pc' := 475) (lv' := [(0, .ref v0), (1, .int v1)]) (st' := [.int v1, .ref z3, .ref z2]) rfl ?_
    refine x_aI e rfl rfl (fun z4 e => ?_)
    refine x_aI e rfl rfl (fun z5 e => ?_)
    refine wp_p (j := J_Y_lay) 2 (pc' := 479) (lv' := [(2, .int z5), (0, .ref v0), (1, .int v1)]) (st' := [.ref v0]) rfl ?_
    refine x_gQ e rfl rfl fd_12_121 rfl (fun z6 e => ?_)
    refine wp_p (j := J_Y_lay) 2 (pc' := 484) (lv' := [(2, .int z5), (0, .ref v0), (1, .int v1)]) (st' := [.int v1, .ref z6, .int v1, .ref z6]) rfl ?_
    refine x_aI e rfl rfl (fun z7 e => ?_)
    refine wp_p (j := J_Y_lay) 1 (pc' := 486) (lv' := [(2, .int z5), (0, .ref v0), (1, .int v1)]) (st' := [.ref v0, .int z7, .int v1, .ref z6]) rfl ?_
    refine x_gQ e rfl rfl fd_12_110 rfl (fun z8 e => ?_)
    refine wp_p (j := J_Y_lay) 1 (pc' := 490) (lv' := [(2, .int z5), (0, .ref v0), (1, .int v1)]) (st' := [.int z5, .ref z8, .int z7, .int v1, .ref z6]) rfl ?_
    refine x_aI e rfl rfl (fun z9 e => ?_)
    refine wp_p (j := J_Y_lay) 2 (pc' := 493) (lv' := [(2, .int z5), (0, .ref v0), (1, .int v1)]) (st' := [.int z5, .ref v0, .int z9, .int z7, .int v1, .ref z6]) rfl ?_
    refine x_cv1 (As := [.int z5]) (rest := [.int z9, .int z7, .int v1, .ref z6]) Value.int e rfl rfl rfl rfl rfl rfl (fun h => d_Y_edges h ⟨rfl, rfl⟩) (fun z10 e => ?_)
    refine wp_p (j := J_Y_lay) 2 (pc' := 498) (lv' := [(2, .int z5), (0, .ref v0), (1, .int v1)]) (st' := [.int (z7 + (z9 + z10)), .int v1, .ref z6]) rfl ?_
    refine x_sI e rfl rfl (fun g11 e => ?_)
    refine wp_p (j := J_Y_lay) 1 (pc' := 500) (lv' := [(2, .int z5), (0, .ref v0), (1, .int v1)]) (st' := [.ref v0]) rfl ?_
    refine x_gQ e rfl rfl fd_12_122 rfl (fun z12 e => ?_)
    refine wp_p (j := J_Y_lay) 2 (pc' := 505) (lv' := [(2, .int z5), (0, .ref v0), (1, .int v1)]) (st' := [.int v1, .ref z12, .int v1, .ref z12]) rfl ?_
    refine x_aI e rfl rfl (fun z13 e => ?_)
    refine wp_p (j := J_Y_lay) 1 (pc' := 507) (lv' := [(2, .int z5), (0, .ref v0), (1, .int v1)]) (st' := [.ref v0, .int z13, .int v1, .ref z12]) rfl ?_
    refine x_gQ e rfl rfl fd_12_111 rfl (fun z14 e => ?_)
    refine wp_p (j := J_Y_lay) 1 (pc' := 511) (lv' := [(2, .int z5), (0, .ref v0), (1, .int v1)]) (st' := [.int z5, .ref z14, .int z13, .int v1, .ref z12]) rfl ?_
    refine x_aI e rfl rfl (fun z15 e => ?_)
    refine wp_p (j := J_Y_lay) 2 (pc' := 514) (lv' := [(2, .int z5), (0, .ref v0), (1, .int v1)]) (st' := [.int z5, .ref v0, .int z15, .int z13, .int v1, .ref z12]) rfl ?_
    refine x_cv1 (As := [.int z5]) (rest := [.int z15, .int z13, .int v1, .ref z12]) Value.int e rfl rfl rfl rfl rfl rfl (fun h => d_Y_edges h ⟨rfl, rfl⟩) (fun z16 e => ?_)
    refine wp_p (j := J_Y_lay) 2 (pc' := 519) (lv' := [(2, .int z5), (0, .ref v0), (1, .int v1)]) (st' := [.int (z13 + (z15 + z16)), .int v1, .ref z12]) rfl ?_
    refine x_sI e rfl rfl (fun g17 e => ?_)
    refine wp_p (j := J_Y_lay) 2 (pc' := 458) (lv' := [(1, .int (v1 + 1)), (2, .int z5), (0, .ref v0)]) (st' := []) rfl ?_
    have e := Option.some.inj e; subst e; exact wp_lv (lv' := [(0, .ref v0), (1, .int (v1 + 1))]) rfl ⟨rfl, rfl, trivial⟩ c
  · have e := Option.some.inj e; subst e; exact wp_lv (lv' := []) rfl trivial c
noncomputable def L_Y_lay_458 (v0 : Nat) (v1 : Int32) (g : g_S) : Option (g_S) := it (fun s : Int32 × g_S => b_Y_lay_458 v0 s.1 s.2) (v1, g)
theorem l_Y_lay_458 {L : Nat} {xs : Nat → Int32} {Q : Option Value → ab_H → Prop} {v0 : Nat} {v1 : Int32} {g : g_S} {r : g_S} (e : L_Y_lay_458 v0 v1 g = some r) (c : cL_Y_lay_458 L xs Q v0 (.inr r)) : wp (ab_ext L xs) J_Y_lay 458 [(0, .ref v0), (1, .int v1)] [] (hp g) Q :=
  it_wp (P := fun s : Int32 × g_S => wp (ab_ext L xs) J_Y_lay 458 [(0, .ref v0), (1, .int s.1)] [] (hp s.2) Q) (E := fun r => cL_Y_lay_458 L xs Q v0 (.inr r)) (fun s out e c => y_Y_lay_458 e (by cases out <;> exact c)) e c
theorem L_Y_lay_458_eq (v0 : Nat) (v1 : Int32) (g : g_S) : L_Y_lay_458 v0 v1 g = itc (b_Y_lay_458 v0 v1 g) (fun s => L_Y_lay_458 v0 s.1 s.2) := it_eq2 (fun s : Int32 × g_S => b_Y_lay_458 v0 s.1 s.2) (v1, g)
def cL_Y_lay_355 (L : Nat) (xs : Nat → Int32) (Q : Option Value → ab_H → Prop) (v0 : Nat) (out : (Int32 × g_S) ⊕ (g_S)) : Prop := match out with
  | .inl s => wp (ab_ext L xs) J_Y_lay 355 [(0, .ref v0), (1, .int s.1)] [] (hp s.2) Q
  | .inr s => wp (ab_ext L xs) J_Y_lay 456 [(0, .ref v0)] [] (hp s) Q
noncomputable def k_Y_lay_388 (v0 : Nat) (v1 : Int32) (v2 : Int32) (g : g_S) : Option ((Int32 × g_S) ⊕ (g_S)) :=
  (rQ g 112 v0 110).bind fun z1 =>
  (aI g 0 z1 v2).bind fun z2 =>
  (rQ g 112 v0 110).bind fun z3 =>
  (rQ g 112 v0 109).bind fun z4 =>
  (aI g 0 z4 v2).bind fun z5 =>
  (aI g 0 z3 z5).bind fun z6 =>
  (rQ g 112 v0 109).bind fun z7 =>
  (aI g 0 z7 v2).bind fun z8 =>
  (vc g 112 v0 (M_Y_edges v0 z8 g)).bind fun z9 =>
  (sI g z1 v2 (z2 + (z6 + z9))).bind fun g10 =>
  (rQ g10 112 v0 111).bind fun z11 =>
  (aI g10 0 z11 v2).bind fun z12 =>
  (rQ g10 112 v0 111).bind fun z13 =>
  (rQ g10 112 v0 109).bind fun z14 =>
  (aI g10 0 z14 v2).bind fun z15 =>
  (aI g10 0 z13 z15).bind fun z16 =>
  (rQ g10 112 v0 109).bind fun z17 =>
  (aI g10 0 z17 v2).bind fun z18 =>
  (vc g10 112 v0 (M_Y_edges v0 z18 g10)).bind fun z19 =>
  (sI g10 z11 v2 (z12 + (z16 + z19))).bind fun g20 =>
  some (.inl (v1 + 1, g20))
set_option maxRecDepth 20000 in
theorem x_Y_lay_388 {L : Nat} {xs : Nat → Int32} {Q : Option Value → ab_H → Prop} {v0 : Nat} {v1 : Int32} {v2 : Int32} {g : g_S} {out : (Int32 × g_S) ⊕ (g_S)} (e : k_Y_lay_388 v0 v1 v2 g = some out) (c : cL_Y_lay_355 L xs Q v0 out) : wp (ab_ext L xs) J_Y_lay 388 [(0, .ref v0), (1, .int v1), (2, .int v2)] [] (hp g) Q := by
  unfold k_Y_lay_388 at e
  refine wp_p (j := J_Y_lay) 1 (pc' := 389) (lv' := [(0, .ref v0), (1, .int v1), (2, .int v2)]) (st' := [.ref v0]) rfl ?_
  refine x_gQ e rfl rfl fd_12_110 rfl (fun z1 e => ?_)
  refine wp_p (j := J_Y_lay) 2 (pc' := 394) (lv' := [(0, .ref v0), (1, .int v1), (2, .int v2)]) (st' := [.int v2, .ref z1, .int v2, .ref z1]) rfl ?_
  refine x_aI e rfl rfl (fun z2 e => ?_)
  refine wp_p (j := J_Y_lay) 1 (pc' := 396) (lv' := [(0, .ref v0), (1, .int v1), (2, .int v2)]) (st' := [.ref v0, .int z2, .int v2, .ref z1]) rfl ?_
  refine x_gQ e rfl rfl fd_12_110 rfl (fun z3 e => ?_)
  refine wp_p (j := J_Y_lay) 1 (pc' := 400) (lv' := [(0, .ref v0), (1, .int v1), (2, .int v2)]) (st' := [.ref v0, .ref z3, .int z2, .int v2, .ref z1]) rfl ?_
  refine x_gQ e rfl rfl fd_12_109 rfl (fun z4 e => ?_)
  refine wp_p (j := J_Y_lay) 1 (pc' := 404) (lv' := [(0, .ref v0), (1, .int v1), (2, .int v2)]) (st' := [.int v2, .ref z4, .ref z3, .int z2, .int v2, .ref z1]) rfl ?_
  refine x_aI e rfl rfl (fun z5 e => ?_)
  refine x_aI e rfl rfl (fun z6 e => ?_)
  refine wp_p (j := J_Y_lay) 2 (pc' := 408) (lv' := [(0, .ref v0), (1, .int v1), (2, .int v2)]) (st' := [.ref v0, .ref v0, .int z6, .int z2, .int v2, .ref z1]) rfl ?_
  refine x_gQ e rfl rfl fd_12_109 rfl (fun z7 e => ?_)
  refine wp_p (j := J_Y_lay) 1 (pc' := 412) (lv' := [(0, .ref v0), (1, .int v1), (2, .int v2)]) (st' := [.int v2, .ref z7, .ref v0, .int z6, .int z2, .int v2, .ref z1]) rfl ?_
  refine x_aI e rfl rfl (fun z8 e => ?_)
  refine x_cv1 (As := [.int z8]) (rest := [.int z6, .int z2, .int v2, .ref z1]) Value.int e rfl rfl rfl rfl rfl rfl (fun h => d_Y_edges h ⟨rfl, rfl⟩) (fun z9 e => ?_)
  refine wp_p (j := J_Y_lay) 2 (pc' := 418) (lv' := [(0, .ref v0), (1, .int v1), (2, .int v2)]) (st' := [.int (z2 + (z6 + z9)), .int v2, .ref z1]) rfl ?_
  refine x_sI e rfl rfl (fun g10 e => ?_)
  refine wp_p (j := J_Y_lay) 1 (pc' := 420) (lv' := [(0, .ref v0), (1, .int v1), (2, .int v2)]) (st' := [.ref v0]) rfl ?_
  refine x_gQ e rfl rfl fd_12_111 rfl (fun z11 e => ?_)
  refine wp_p (j := J_Y_lay) 2 (pc' := 425) (lv' := [(0, .ref v0), (1, .int v1), (2, .int v2)]) (st' := [.int v2, .ref z11, .int v2, .ref z11]) rfl ?_
  refine x_aI e rfl rfl (fun z12 e => ?_)
  refine wp_p (j := J_Y_lay) 1 (pc' := 427) (lv' := [(0, .ref v0), (1, .int v1), (2, .int v2)]) (st' := [.ref v0, .int z12, .int v2, .ref z11]) rfl ?_
  refine x_gQ e rfl rfl fd_12_111 rfl (fun z13 e => ?_)
  refine wp_p (j := J_Y_lay) 1 (pc' := 431) (lv' := [(0, .ref v0), (1, .int v1), (2, .int v2)]) (st' := [.ref v0, .ref z13, .int z12, .int v2, .ref z11]) rfl ?_
  refine x_gQ e rfl rfl fd_12_109 rfl (fun z14 e => ?_)
  refine wp_p (j := J_Y_lay) 1 (pc' := 435) (lv' := [(0, .ref v0), (1, .int v1), (2, .int v2)]) (st' := [.int v2, .ref z14, .ref z13, .int z12, .int v2, .ref z11]) rfl ?_
  refine x_aI e rfl rfl (fun z15 e => ?_)
  refine x_aI e rfl rfl (fun z16 e => ?_)
  refine wp_p (j := J_Y_lay) 2 (pc' := 439) (lv' := [(0, .ref v0), (1, .int v1), (2, .int v2)]) (st' := [.ref v0, .ref v0, .int z16, .int z12, .int v2, .ref z11]) rfl ?_
  refine x_gQ e rfl rfl fd_12_109 rfl (fun z17 e => ?_)
  refine wp_p (j := J_Y_lay) 1 (pc' := 443) (lv' := [(0, .ref v0), (1, .int v1), (2, .int v2)]) (st' := [.int v2, .ref z17, .ref v0, .int z16, .int z12, .int v2, .ref z11]) rfl ?_
  refine x_aI e rfl rfl (fun z18 e => ?_)
  refine x_cv1 (As := [.int z18]) (rest := [.int z16, .int z12, .int v2, .ref z11]) Value.int e rfl rfl rfl rfl rfl rfl (fun h => d_Y_edges h ⟨rfl, rfl⟩) (fun z19 e => ?_)
  refine wp_p (j := J_Y_lay) 2 (pc' := 449) (lv' := [(0, .ref v0), (1, .int v1), (2, .int v2)]) (st' := [.int (z12 + (z16 + z19)), .int v2, .ref z11]) rfl ?_
  refine x_sI e rfl rfl (fun g20 e => ?_)
  refine wp_p (j := J_Y_lay) 2 (pc' := 355) (lv' := [(1, .int (v1 + 1)), (0, .ref v0), (2, .int v2)]) (st' := []) rfl ?_
  have e := Option.some.inj e; subst e; exact wp_lv (lv' := [(0, .ref v0), (1, .int (v1 + 1))]) rfl ⟨rfl, rfl, trivial⟩ c
noncomputable def b_Y_lay_355 (v0 : Nat) (v1 : Int32) (g : g_S) : Option ((Int32 × g_S) ⊕ (g_S)) :=
  (rI g 112 v0 125).bind fun z1 =>
  if v1 < z1 then
    (rQ g 112 v0 124).bind fun z2 =>
    (aI g 0 z2 v1).bind fun z3 =>
    (vc g 112 v0 (M_Y_isBox v0 z3 g)).bind fun z4 =>
    if z4 = 0 then
      (rQ g 112 v0 107).bind fun z5 =>
      (aI g 0 z5 z3).bind fun z6 =>
      if z6 = 4 then
        k_Y_lay_388 v0 v1 z3 g
      else
        some (.inl (v1 + 1, g))
    else
      k_Y_lay_388 v0 v1 z3 g
  else
    some (.inr g)
set_option maxRecDepth 20000 in
theorem y_Y_lay_355 {L : Nat} {xs : Nat → Int32} {Q : Option Value → ab_H → Prop} {v0 : Nat} {v1 : Int32} {g : g_S} {out : (Int32 × g_S) ⊕ (g_S)} (e : b_Y_lay_355 v0 v1 g = some out) (c : cL_Y_lay_355 L xs Q v0 out) : wp (ab_ext L xs) J_Y_lay 355 [(0, .ref v0), (1, .int v1)] [] (hp g) Q := by
  unfold b_Y_lay_355 at e
  refine wp_p (j := J_Y_lay) 2 (pc' := 357) (lv' := [(0, .ref v0), (1, .int v1)]) (st' := [.ref v0, .int v1]) rfl ?_
  refine x_gI e rfl rfl fd_12_125 rfl (fun z1 e => ?_)
  refine x_ge e rfl (fun e => ?_) (fun e => ?_)
  · refine wp_p (j := J_Y_lay) 1 (pc' := 364) (lv' := [(0, .ref v0), (1, .int v1)]) (st' := [.ref v0]) rfl ?_
    refine x_gQ e rfl rfl fd_12_124 rfl (fun z2 e => ?_)
    refine wp_p (j := J_Y_lay) 1 (pc' := 368) (lv' := [(0, .ref v0), (1, .int v1)]) (st' := [.int v1, .ref z2]) rfl ?_
    refine x_aI e rfl rfl (fun z3 e => ?_)
    refine wp_p (j := J_Y_lay) 3 (pc' := 372) (lv' := [(2, .int z3), (0, .ref v0), (1, .int v1)]) (st' := [.int z3, .ref v0]) rfl ?_
    refine x_cv1 (As := [.int z3]) (rest := []) Value.int e rfl rfl rfl rfl rfl rfl (fun h => d_Y_isBox h ⟨rfl, rfl⟩) (fun z4 e => ?_)
    refine z_ne e rfl (fun e => ?_) (fun e => ?_)
    · refine wp_p (j := J_Y_lay) 1 (pc' := 379) (lv' := [(2, .int z3), (0, .ref v0), (1, .int v1)]) (st' := [.ref v0]) rfl ?_
      refine x_gQ e rfl rfl fd_12_107 rfl (fun z5 e => ?_)
      refine wp_p (j := J_Y_lay) 1 (pc' := 383) (lv' := [(2, .int z3), (0, .ref v0), (1, .int v1)]) (st' := [.int z3, .ref z5]) rfl ?_
      refine x_aI e rfl rfl (fun z6 e => ?_)
      refine wp_p (j := J_Y_lay) 1 (pc' := 385) (lv' := [(2, .int z3), (0, .ref v0), (1, .int v1)]) (st' := [.int 4, .int z6]) rfl ?_
      refine x_ne e rfl (fun e => ?_) (fun e => ?_)
      · exact wp_lv (lv' := [(0, .ref v0), (1, .int v1), (2, .int z3)]) rfl ⟨rfl, rfl, rfl, trivial⟩ (x_Y_lay_388 e c)
      · refine wp_p (j := J_Y_lay) 2 (pc' := 355) (lv' := [(1, .int (v1 + 1)), (2, .int z3), (0, .ref v0)]) (st' := []) rfl ?_
        have e := Option.some.inj e; subst e; exact wp_lv (lv' := [(0, .ref v0), (1, .int (v1 + 1))]) rfl ⟨rfl, rfl, trivial⟩ c
    · exact wp_lv (lv' := [(0, .ref v0), (1, .int v1), (2, .int z3)]) rfl ⟨rfl, rfl, rfl, trivial⟩ (x_Y_lay_388 e c)
  · have e := Option.some.inj e; subst e; exact wp_lv (lv' := [(0, .ref v0)]) rfl ⟨rfl, trivial⟩ c
noncomputable def L_Y_lay_355 (v0 : Nat) (v1 : Int32) (g : g_S) : Option (g_S) := it (fun s : Int32 × g_S => b_Y_lay_355 v0 s.1 s.2) (v1, g)
theorem l_Y_lay_355 {L : Nat} {xs : Nat → Int32} {Q : Option Value → ab_H → Prop} {v0 : Nat} {v1 : Int32} {g : g_S} {r : g_S} (e : L_Y_lay_355 v0 v1 g = some r) (c : cL_Y_lay_355 L xs Q v0 (.inr r)) : wp (ab_ext L xs) J_Y_lay 355 [(0, .ref v0), (1, .int v1)] [] (hp g) Q :=
  it_wp (P := fun s : Int32 × g_S => wp (ab_ext L xs) J_Y_lay 355 [(0, .ref v0), (1, .int s.1)] [] (hp s.2) Q) (E := fun r => cL_Y_lay_355 L xs Q v0 (.inr r)) (fun s out e c => y_Y_lay_355 e (by cases out <;> exact c)) e c
theorem L_Y_lay_355_eq (v0 : Nat) (v1 : Int32) (g : g_S) : L_Y_lay_355 v0 v1 g = itc (b_Y_lay_355 v0 v1 g) (fun s => L_Y_lay_355 v0 s.1 s.2) := it_eq2 (fun s : Int32 × g_S => b_Y_lay_355 v0 s.1 s.2) (v1, g)
def cL_Y_lay_29 (L : Nat) (xs : Nat → Int32) (Q : Option Value → ab_H → Prop) (v0 : Nat) (out : (Int32 × g_S) ⊕ (g_S)) : Prop := match out with
  | .inl s => wp (ab_ext L xs) J_Y_lay 29 [(0, .ref v0), (1, .int s.1)] [] (hp s.2) Q
  | .inr s => wp (ab_ext L xs) J_Y_lay 269 [(0, .ref v0)] [] (hp s) Q
noncomputable def k_Y_lay_259 (v0 : Nat) (v1 : Int32) (g : g_S) : Option ((Int32 × g_S) ⊕ (g_S)) :=
  (vc g 112 v0 (M_Y_after v0 v1 0 g)).bind fun z1 =>
  some (.inl (z1, g))
set_option maxRecDepth 20000 in
theorem x_Y_lay_259 {L : Nat} {xs : Nat → Int32} {Q : Option Value → ab_H → Prop} {v0 : Nat} {v1 : Int32} {g : g_S} {out : (Int32 × g_S) ⊕ (g_S)} (e : k_Y_lay_259 v0 v1 g = some out) (c : cL_Y_lay_29 L xs Q v0 out) : wp (ab_ext L xs) J_Y_lay 259 [(0, .ref v0), (1, .int v1)] [] (hp g) Q := by
  unfold k_Y_lay_259 at e
  refine wp_p (j := J_Y_lay) 3 (pc' := 262) (lv' := [(0, .ref v0), (1, .int v1)]) (st' := [.int 0, .int v1, .ref v0]) rfl ?_
  refine x_cv1 (As := [.int v1, .int 0]) (rest := []) Value.int e rfl rfl rfl rfl rfl rfl (fun h => d_Y_after h ⟨rfl, rfl⟩) (fun z1 e => ?_)
  refine wp_p (j := J_Y_lay) 2 (pc' := 29) (lv' := [(1, .int z1), (0, .ref v0)]) (st' := []) rfl ?_
  have e := Option.some.inj e; subst e; exact wp_lv (lv' := [(0, .ref v0), (1, .int z1)]) rfl ⟨rfl, rfl, trivial⟩ c
noncomputable def k_Y_lay_181 (v0 : Nat) (v1 : Int32) (w0 : Int32) (w1 : Int32) (w2 : Nat) (g : g_S) : Option ((Int32 × g_S) ⊕ (g_S)) :=
  (sZ g w2 w1 w0).bind fun g1 =>
  (rQ g1 112 v0 116).bind fun z2 =>
  (rI g1 112 v0 117).bind fun z3 =>
  (sI g1 z2 v1 z3).bind fun g4 =>
  if v1 = 0 then
    (rQ g4 112 v0 112).bind fun z5 =>
    (rI g4 112 v0 106).bind fun z6 =>
    (sI g4 z5 0 z6).bind fun g7 =>
    k_Y_lay_259 v0 v1 g7
  else
    (vc g4 112 v0 (M_Y_isBox v0 v1 g4)).bind fun z8 =>
    if z8 = 0 then
      (rQ g4 112 v0 107).bind fun z9 =>
      (aI g4 0 z9 v1).bind fun z10 =>
      if z10 = 4 then
        (vc g4 112 v0 (M_Y_measure v0 v1 g4)).bind fun g11 =>
        k_Y_lay_259 v0 v1 g11
      else
        (rQ g4 112 v0 107).bind fun z12 =>
        (aI g4 0 z12 v1).bind fun z13 =>
        if z13 = 6 then
          (vc g4 112 v0 (M_Y_split v0 v1 g4)).bind fun g14 =>
          k_Y_lay_259 v0 v1 g14
        else
          k_Y_lay_259 v0 v1 g4
    else
      (vc g4 112 v0 (M_Y_widen v0 v1 g4)).bind fun g15 =>
      k_Y_lay_259 v0 v1 g15
set_option maxRecDepth 20000 in
theorem x_Y_lay_181 {L : Nat} {xs : Nat → Int32} {Q : Option Value → ab_H → Prop} {v0 : Nat} {v1 : Int32} {w0 : Int32} {w1 : Int32} {w2 : Nat} {g : g_S} {out : (Int32 × g_S) ⊕ (g_S)} (e : k_Y_lay_181 v0 v1 w0 w1 w2 g = some out) (c : cL_Y_lay_29 L xs Q v0 out) : wp (ab_ext L xs) J_Y_lay 181 [(0, .ref v0), (1, .int v1)] [.int w0, .int w1, .ref w2] (hp g) Q := by
  unfold k_Y_lay_181 at e
  refine x_sZ e rfl rfl (fun g1 e => ?_)
  refine wp_p (j := J_Y_lay) 1 (pc' := 183) (lv' := [(0, .ref v0), (1, .int v1)]) (st' := [.ref v0]) rfl ?_
  refine x_gQ e rfl rfl fd_12_116 rfl (fun z2 e => ?_)
  refine wp_p (j := J_Y_lay) 2 (pc' := 188) (lv' := [(0, .ref v0), (1, .int v1)]) (st' := [.ref v0, .int v1, .ref z2]) rfl ?_
  refine x_gI e rfl rfl fd_12_117 rfl (fun z3 e => ?_)
  refine x_sI e rfl rfl (fun g4 e => ?_)
  refine wp_p (j := J_Y_lay) 1 (pc' := 193) (lv' := [(0, .ref v0), (1, .int v1)]) (st' := [.int v1]) rfl ?_
  refine z_ne e rfl (fun e => ?_) (fun e => ?_)
  · refine wp_p (j := J_Y_lay) 1 (pc' := 197) (lv' := [(0, .ref v0), (1, .int v1)]) (st' := [.ref v0]) rfl ?_
    refine x_gQ e rfl rfl fd_12_112 rfl (fun z5 e => ?_)
    refine wp_p (j := J_Y_lay) 2 (pc' := 202) (lv' := [(0, .ref v0), (1, .int v1)]) (st' := [.ref v0, .int 0, .ref z5]) rfl ?_
    refine x_gI e rfl rfl fd_12_106 rfl (fun z6 e => ?_)
    refine x_sI e rfl rfl (fun g7 e => ?_)
    refine wp_p (j := J_Y_lay) 1 (pc' := 259) (lv' := [(0, .ref v0), (1, .int v1)]) (st' := []) rfl ?_
    exact wp_lv (lv' := [(0, .ref v0), (1, .int v1)]) rfl ⟨rfl, rfl, trivial⟩ (x_Y_lay_259 e c)
  · refine wp_p (j := J_Y_lay) 2 (pc' := 211) (lv' := [(0, .ref v0), (1, .int v1)]) (st' := [.int v1, .ref v0]) rfl ?_
    refine x_cv1 (As := [.int v1]) (rest := []) Value.int e rfl rfl rfl rfl rfl rfl (fun h => d_Y_isBox h ⟨rfl, rfl⟩) (fun z8 e => ?_)
    refine z_eq e rfl (fun e => ?_) (fun e => ?_)
    · refine wp_p (j := J_Y_lay) 1 (pc' := 226) (lv' := [(0, .ref v0), (1, .int v1)]) (st' := [.ref v0]) rfl ?_
      refine x_gQ e rfl rfl fd_12_107 rfl (fun z9 e => ?_)
      refine wp_p (j := J_Y_lay) 1 (pc' := 230) (lv' := [(0, .ref v0), (1, .int v1)]) (st' := [.int v1, .ref z9]) rfl ?_
      refine x_aI e rfl rfl (fun z10 e => ?_)
      refine wp_p (j := J_Y_lay) 1 (pc' := 232) (lv' := [(0, .ref v0), (1, .int v1)]) (st' := [.int 4, .int z10]) rfl ?_
      refine x_ne e rfl (fun e => ?_) (fun e => ?_)
      · refine wp_p (j := J_Y_lay) 2 (pc' := 237) (lv' := [(0, .ref v0), (1, .int v1)]) (st' := [.int v1, .ref v0]) rfl ?_
        refine x_cv0 (As := [.int v1]) (rest := []) e rfl rfl rfl rfl rfl rfl (fun h => d_Y_measure h ⟨rfl, rfl⟩) (fun g11 e => ?_)
        refine wp_p (j := J_Y_lay) 1 (pc' := 259) (lv' := [(0, .ref v0), (1, .int v1)]) (st' := []) rfl ?_
        exact wp_lv (lv' := [(0, .ref v0), (1, .int v1)]) rfl ⟨rfl, rfl, trivial⟩ (x_Y_lay_259 e c)
      · refine wp_p (j := J_Y_lay) 1 (pc' := 244) (lv' := [(0, .ref v0), (1, .int v1)]) (st' := [.ref v0]) rfl ?_
        refine x_gQ e rfl rfl fd_12_107 rfl (fun z12 e => ?_)
        refine wp_p (j := J_Y_lay) 1 (pc' := 248) (lv' := [(0, .ref v0), (1, .int v1)]) (st' := [.int v1, .ref z12]) rfl ?_
        refine x_aI e rfl rfl (fun z13 e => ?_)
        refine wp_p (j := J_Y_lay) 1 (pc' := 251) (lv' := [(0, .ref v0), (1, .int v1)]) (st' := [.int 6, .int z13]) rfl ?_
        refine x_ne e rfl (fun e => ?_) (fun e => ?_)
        · refine wp_p (j := J_Y_lay) 2 (pc' := 256) (lv' := [(0, .ref v0), (1, .int v1)]) (st' := [.int v1, .ref v0]) rfl ?_
          refine x_cv0 (As := [.int v1]) (rest := []) e rfl rfl rfl rfl rfl rfl (fun h => d_Y_split h ⟨rfl, rfl⟩) (fun g14 e => ?_)
          exact wp_lv (lv' := [(0, .ref v0), (1, .int v1)]) rfl ⟨rfl, rfl, trivial⟩ (x_Y_lay_259 e c)
        · exact wp_lv (lv' := [(0, .ref v0), (1, .int v1)]) rfl ⟨rfl, rfl, trivial⟩ (x_Y_lay_259 e c)
    · refine wp_p (j := J_Y_lay) 2 (pc' := 219) (lv' := [(0, .ref v0), (1, .int v1)]) (st' := [.int v1, .ref v0]) rfl ?_
      refine x_cv0 (As := [.int v1]) (rest := []) e rfl rfl rfl rfl rfl rfl (fun h => d_Y_widen h ⟨rfl, rfl⟩) (fun g15 e => ?_)
      refine wp_p (j := J_Y_lay) 1 (pc' := 259) (lv' := [(0, .ref v0), (1, .int v1)]) (st' := []) rfl ?_
      exact wp_lv (lv' := [(0, .ref v0), (1, .int v1)]) rfl ⟨rfl, rfl, trivial⟩ (x_Y_lay_259 e c)
noncomputable def k_Y_lay_180 (v0 : Nat) (v1 : Int32) (w0 : Int32) (w1 : Nat) (g : g_S) : Option ((Int32 × g_S) ⊕ (g_S)) :=
  k_Y_lay_181 v0 v1 0 w0 w1 g
set_option maxRecDepth 20000 in
theorem x_Y_lay_180 {L : Nat} {xs : Nat → Int32} {Q : Option Value → ab_H → Prop} {v0 : Nat} {v1 : Int32} {w0 : Int32} {w1 : Nat} {g : g_S} {out : (Int32 × g_S) ⊕ (g_S)} (e : k_Y_lay_180 v0 v1 w0 w1 g = some out) (c : cL_Y_lay_29 L xs Q v0 out) : wp (ab_ext L xs) J_Y_lay 180 [(0, .ref v0), (1, .int v1)] [.int w0, .ref w1] (hp g) Q := by
  unfold k_Y_lay_180 at e
  refine wp_p (j := J_Y_lay) 1 (pc' := 181) (lv' := [(0, .ref v0), (1, .int v1)]) (st' := [.int 0, .int w0, .ref w1]) rfl ?_
  exact wp_lv (lv' := [(0, .ref v0), (1, .int v1)]) rfl ⟨rfl, rfl, trivial⟩ (x_Y_lay_181 e c)
noncomputable def k_Y_lay_133 (v0 : Nat) (v1 : Int32) (w0 : Int32) (w1 : Int32) (w2 : Nat) (g : g_S) : Option ((Int32 × g_S) ⊕ (g_S)) :=
  (sI g w2 w1 w0).bind fun g1 =>
  (rQ g1 112 v0 108).bind fun z2 =>
  if 0 < v1 then
    (vc g1 112 v0 (M_Y_isBox v0 v1 g1)).bind fun z3 =>
    if z3 = 0 then
      k_Y_lay_180 v0 v1 v1 z2 g1
    else
      (rQ g1 112 v0 107).bind fun z4 =>
      (rQ g1 112 v0 49).bind fun z5 =>
      (aI g1 0 z5 v1).bind fun z6 =>
      (aI g1 0 z4 z6).bind fun z7 =>
      if z7 = 1 then
        (vc g1 112 v0 (M_Y_of v0 v1 10 g1)).bind fun z8 =>
        if 0 < z8 then
          k_Y_lay_181 v0 v1 1 v1 z2 g1
        else
          k_Y_lay_180 v0 v1 v1 z2 g1
      else
        k_Y_lay_180 v0 v1 v1 z2 g1
  else
    k_Y_lay_180 v0 v1 v1 z2 g1
set_option maxRecDepth 20000 in
theorem x_Y_lay_133 {L : Nat} {xs : Nat → Int32} {Q : Option Value → ab_H → Prop} {v0 : Nat} {v1 : Int32} {w0 : Int32} {w1 : Int32} {w2 : Nat} {g : g_S} {out : (Int32 × g_S) ⊕ (g_S)} (e : k_Y_lay_133 v0 v1 w0 w1 w2 g = some out) (c : cL_Y_lay_29 L xs Q v0 out) : wp (ab_ext L xs) J_Y_lay 133 [(0, .ref v0), (1, .int v1)] [.int w0, .int w1, .ref w2] (hp g) Q := by
  unfold k_Y_lay_133 at e
  refine x_sI e rfl rfl (fun g1 e => ?_)
  refine wp_p (j := J_Y_lay) 1 (pc' := 135) (lv' := [(0, .ref v0), (1, .int v1)]) (st' := [.ref v0]) rfl ?_
  refine x_gQ e rfl rfl fd_12_108 rfl (fun z2 e => ?_)
  refine wp_p (j := J_Y_lay) 2 (pc' := 140) (lv' := [(0, .ref v0), (1, .int v1)]) (st' := [.int v1, .int v1, .ref z2]) rfl ?_
  refine z_le e rfl (fun e => ?_) (fun e => ?_)
  · refine wp_p (j := J_Y_lay) 2 (pc' := 145) (lv' := [(0, .ref v0), (1, .int v1)]) (st' := [.int v1, .ref v0, .int v1, .ref z2]) rfl ?_
    refine x_cv1 (As := [.int v1]) (rest := [.int v1, .ref z2]) Value.int e rfl rfl rfl rfl rfl rfl (fun h => d_Y_isBox h ⟨rfl, rfl⟩) (fun z3 e => ?_)
    refine z_eq e rfl (fun e => ?_) (fun e => ?_)
    · exact wp_lv (lv' := [(0, .ref v0), (1, .int v1)]) rfl ⟨rfl, rfl, trivial⟩ (x_Y_lay_180 e c)
    · refine wp_p (j := J_Y_lay) 1 (pc' := 152) (lv' := [(0, .ref v0), (1, .int v1)]) (st' := [.ref v0, .int v1, .ref z2]) rfl ?_
      refine x_gQ e rfl rfl fd_12_107 rfl (fun z4 e => ?_)
      refine wp_p (j := J_Y_lay) 1 (pc' := 156) (lv' := [(0, .ref v0), (1, .int v1)]) (st' := [.ref v0, .ref z4, .int v1, .ref z2]) rfl ?_
      refine x_gQ e rfl rfl fd_12_49 rfl (fun z5 e => ?_)
      refine wp_p (j := J_Y_lay) 1 (pc' := 160) (lv' := [(0, .ref v0), (1, .int v1)]) (st' := [.int v1, .ref z5, .ref z4, .int v1, .ref z2]) rfl ?_
      refine x_aI e rfl rfl (fun z6 e => ?_)
      refine x_aI e rfl rfl (fun z7 e => ?_)
      refine wp_p (j := J_Y_lay) 1 (pc' := 163) (lv' := [(0, .ref v0), (1, .int v1)]) (st' := [.int 1, .int z7, .int v1, .ref z2]) rfl ?_
      refine x_ne e rfl (fun e => ?_) (fun e => ?_)
      · refine wp_p (j := J_Y_lay) 3 (pc' := 170) (lv' := [(0, .ref v0), (1, .int v1)]) (st' := [.int 10, .int v1, .ref v0, .int v1, .ref z2]) rfl ?_
        refine x_cv1 (As := [.int v1, .int 10]) (rest := [.int v1, .ref z2]) Value.int e rfl rfl rfl rfl rfl rfl (fun h => d_Y_of h ⟨rfl, rfl⟩) (fun z8 e => ?_)
        refine z_le e rfl (fun e => ?_) (fun e => ?_)
        · refine wp_p (j := J_Y_lay) 2 (pc' := 181) (lv' := [(0, .ref v0), (1, .int v1)]) (st' := [.int 1, .int v1, .ref z2]) rfl ?_
          exact wp_lv (lv' := [(0, .ref v0), (1, .int v1)]) rfl ⟨rfl, rfl, trivial⟩ (x_Y_lay_181 e c)
        · exact wp_lv (lv' := [(0, .ref v0), (1, .int v1)]) rfl ⟨rfl, rfl, trivial⟩ (x_Y_lay_180 e c)
      · exact wp_lv (lv' := [(0, .ref v0), (1, .int v1)]) rfl ⟨rfl, rfl, trivial⟩ (x_Y_lay_180 e c)
  · exact wp_lv (lv' := [(0, .ref v0), (1, .int v1)]) rfl ⟨rfl, rfl, trivial⟩ (x_Y_lay_180 e c)
noncomputable def k_Y_lay_100 (v0 : Nat) (v1 : Int32) (w0 : Int32) (w1 : Int32) (w2 : Nat) (g : g_S) : Option ((Int32 × g_S) ⊕ (g_S)) :=
  (sI g w2 w1 w0).bind fun g1 =>
  (rQ g1 112 v0 107).bind fun z2 =>
  if v1 = 0 then
    (vc g1 112 v0 (M_Y_of v0 0 0 g1)).bind fun z3 =>
    if z3 = 3 then
      k_Y_lay_133 v0 v1 2 v1 z2 g1
    else
      k_Y_lay_133 v0 v1 1 v1 z2 g1
  else
    (vc g1 112 v0 (M_Y_modeOf v0 v1 g1)).bind fun z4 =>
    k_Y_lay_133 v0 v1 z4 v1 z2 g1
set_option maxRecDepth 20000 in
theorem x_Y_lay_100 {L : Nat} {xs : Nat → Int32} {Q : Option Value → ab_H → Prop} {v0 : Nat} {v1 : Int32} {w0 : Int32} {w1 : Int32} {w2 : Nat} {g : g_S} {out : (Int32 × g_S) ⊕ (g_S)} (e : k_Y_lay_100 v0 v1 w0 w1 w2 g = some out) (c : cL_Y_lay_29 L xs Q v0 out) : wp (ab_ext L xs) J_Y_lay 100 [(0, .ref v0), (1, .int v1)] [.int w0, .int w1, .ref w2] (hp g) Q := by
  unfold k_Y_lay_100 at e
  refine x_sI e rfl rfl (fun g1 e => ?_)
  refine wp_p (j := J_Y_lay) 1 (pc' := 102) (lv' := [(0, .ref v0), (1, .int v1)]) (st' := [.ref v0]) rfl ?_
  refine x_gQ e rfl rfl fd_12_107 rfl (fun z2 e => ?_)
  refine wp_p (j := J_Y_lay) 2 (pc' := 107) (lv' := [(0, .ref v0), (1, .int v1)]) (st' := [.int v1, .int v1, .ref z2]) rfl ?_
  refine z_ne e rfl (fun e => ?_) (fun e => ?_)
  · refine wp_p (j := J_Y_lay) 3 (pc' := 113) (lv' := [(0, .ref v0), (1, .int v1)]) (st' := [.int 0, .int 0, .ref v0, .int v1, .ref z2]) rfl ?_
    refine x_cv1 (As := [.int 0, .int 0]) (rest := [.int v1, .ref z2]) Value.int e rfl rfl rfl rfl rfl rfl (fun h => d_Y_of h ⟨rfl, rfl⟩) (fun z3 e => ?_)
    refine wp_p (j := J_Y_lay) 1 (pc' := 117) (lv' := [(0, .ref v0), (1, .int v1)]) (st' := [.int 3, .int z3, .int v1, .ref z2]) rfl ?_
    refine x_ne e rfl (fun e => ?_) (fun e => ?_)
    · refine wp_p (j := J_Y_lay) 2 (pc' := 133) (lv' := [(0, .ref v0), (1, .int v1)]) (st' := [.int 2, .int v1, .ref z2]) rfl ?_
      exact wp_lv (lv' := [(0, .ref v0), (1, .int v1)]) rfl ⟨rfl, rfl, trivial⟩ (x_Y_lay_133 e c)
    · refine wp_p (j := J_Y_lay) 2 (pc' := 133) (lv' := [(0, .ref v0), (1, .int v1)]) (st' := [.int 1, .int v1, .ref z2]) rfl ?_
      exact wp_lv (lv' := [(0, .ref v0), (1, .int v1)]) rfl ⟨rfl, rfl, trivial⟩ (x_Y_lay_133 e c)
  · refine wp_p (j := J_Y_lay) 2 (pc' := 130) (lv' := [(0, .ref v0), (1, .int v1)]) (st' := [.int v1, .ref v0, .int v1, .ref z2]) rfl ?_
    refine x_cv1 (As := [.int v1]) (rest := [.int v1, .ref z2]) Value.int e rfl rfl rfl rfl rfl rfl (fun h => d_Y_modeOf h ⟨rfl, rfl⟩) (fun z4 e => ?_)
    exact wp_lv (lv' := [(0, .ref v0), (1, .int v1)]) rfl ⟨rfl, rfl, trivial⟩ (x_Y_lay_133 e c)
noncomputable def b_Y_lay_29 (v0 : Nat) (v1 : Int32) (g : g_S) : Option ((Int32 × g_S) ⊕ (g_S)) :=
  if v1 = (-1) then
    some (.inr g)
  else
    (rQ g 112 v0 124).bind fun z1 =>
    (rI g 112 v0 125).bind fun z2 =>
    (sI g z1 z2 v1).bind fun g3 =>
    (rI g3 112 v0 125).bind fun z4 =>
    (wI g3 112 v0 125 (z4 + 1)).bind fun g5 =>
    (rQ g5 112 v0 109).bind fun z6 =>
    if v1 = 0 then
      k_Y_lay_100 v0 v1 (-1) v1 z6 g5
    else
      (rQ g5 112 v0 49).bind fun z7 =>
      (aI g5 0 z7 v1).bind fun z8 =>
      (vc g5 112 v0 (M_Y_isBox v0 z8 g5)).bind fun z9 =>
      if z9 = 0 then
        (rQ g5 112 v0 109).bind fun z10 =>
        (rQ g5 112 v0 49).bind fun z11 =>
        (aI g5 0 z11 v1).bind fun z12 =>
        (aI g5 0 z10 z12).bind fun z13 =>
        k_Y_lay_100 v0 v1 z13 v1 z6 g5
      else
        (rQ g5 112 v0 49).bind fun z14 =>
        (aI g5 0 z14 v1).bind fun z15 =>
        k_Y_lay_100 v0 v1 z15 v1 z6 g5
set_option maxRecDepth 20000 in
theorem y_Y_lay_29 {L : Nat} {xs : Nat → Int32} {Q : Option Value → ab_H → Prop} {v0 : Nat} {v1 : Int32} {g : g_S} {out : (Int32 × g_S) ⊕ (g_S)} (e : b_Y_lay_29 v0 v1 g = some out) (c : cL_Y_lay_29 L xs Q v0 out) : wp (ab_ext L xs) J_Y_lay 29 [(0, .ref v0), (1, .int v1)] [] (hp g) Q := by
  unfold b_Y_lay_29 at e
  refine wp_p (j := J_Y_lay) 2 (pc' := 31) (lv' := [(0, .ref v0), (1, .int v1)]) (st' := [.int (-1), .int v1]) rfl ?_
  refine x_eq e rfl (fun e => ?_) (fun e => ?_)
  · have e := Option.some.inj e; subst e; exact wp_lv (lv' := [(0, .ref v0)]) rfl ⟨rfl, trivial⟩ c
  · refine wp_p (j := J_Y_lay) 1 (pc' := 35) (lv' := [(0, .ref v0), (1, .int v1)]) (st' := [.ref v0]) rfl ?_
    refine x_gQ e rfl rfl fd_12_124 rfl (fun z1 e => ?_)
    refine wp_p (j := J_Y_lay) 1 (pc' := 39) (lv' := [(0, .ref v0), (1, .int v1)]) (st' := [.ref v0, .ref z1]) rfl ?_
    refine x_gI e rfl rfl fd_12_125 rfl (fun z2 e => ?_)
    refine wp_p (j := J_Y_lay) 1 (pc' := 43) (lv' := [(0, .ref v0), (1, .int v1)]) (st' := [.int v1, .int z2, .ref z1]) rfl ?_
    refine x_sI e rfl rfl (fun g3 e => ?_)
    refine wp_p (j := J_Y_lay) 2 (pc' := 46) (lv' := [(0, .ref v0), (1, .int v1)]) (st' := [.ref v0, .ref v0]) rfl ?_
    refine x_gI e rfl rfl fd_12_125 rfl (fun z4 e => ?_)
    refine wp_p (j := J_Y_lay) 2 (pc' := 51) (lv' := [(0, .ref v0), (1, .int v1)]) (st' := [.int (z4 + 1), .ref v0]) rfl ?_
    refine x_pI e rfl rfl fw_12_125 rfl (fun g5 e => ?_)
    refine wp_p (j := J_Y_lay) 1 (pc' := 55) (lv' := [(0, .ref v0), (1, .int v1)]) (st' := [.ref v0]) rfl ?_
    refine x_gQ e rfl rfl fd_12_109 rfl (fun z6 e => ?_)
    refine wp_p (j := J_Y_lay) 2 (pc' := 60) (lv' := [(0, .ref v0), (1, .int v1)]) (st' := [.int v1, .int v1, .ref z6]) rfl ?_
    refine z_ne e rfl (fun e => ?_) (fun e => ?_)
    · refine wp_p (j := J_Y_lay) 2 (pc' := 100) (lv' := [(0, .ref v0), (1, .int v1)]) (st' := [.int (-1), .int v1, .ref z6]) rfl ?_
      exact wp_lv (lv' := [(0, .ref v0), (1, .int v1)]) rfl ⟨rfl, rfl, trivial⟩ (x_Y_lay_100 e c)
    · refine wp_p (j := J_Y_lay) 2 (pc' := 69) (lv' := [(0, .ref v0), (1, .int v1)]) (st' := [.ref v0, .ref v0, .int v1, .ref z6]) rfl ?_
      refine x_gQ e rfl rfl fd_12_49 rfl (fun z7 e => ?_)
      refine wp_p (j := J_Y_lay) 1 (pc' := 73) (lv' := [(0, .ref v0), (1, .int v1)]) (st' := [.int v1, .ref z7, .ref v0, .int v1, .ref z6]) rfl ?_
      refine x_aI e rfl rfl (fun z8 e => ?_)
      refine x_cv1 (As := [.int z8]) (rest := [.int v1, .ref z6]) Value.int e rfl rfl rfl rfl rfl rfl (fun h => d_Y_isBox h ⟨rfl, rfl⟩) (fun z9 e => ?_)
      refine z_eq e rfl (fun e => ?_) (fun e => ?_)
      · refine wp_p (j := J_Y_lay) 1 (pc' := 90) (lv' := [(0, .ref v0), (1, .int v1)]) (st' := [.ref v0, .int v1, .ref z6]) rfl ?_
        refine x_gQ e rfl rfl fd_12_109 rfl (fun z10 e => ?_)
        refine wp_p (j := J_Y_lay) 1 (pc' := 94) (lv' := [(0, .ref v0), (1, .int v1)]) (st' := [.ref v0, .ref z10, .int v1, .ref z6]) rfl ?_
        refine x_gQ e rfl rfl fd_12_49 rfl (fun z11 e => ?_)
        refine wp_p (j := J_Y_lay) 1 (pc' := 98) (lv' := [(0, .ref v0), (1, .int v1)]) (st' := [.int v1, .ref z11, .ref z10, .int v1, .ref z6]) rfl ?_
        refine x_aI e rfl rfl (fun z12 e => ?_)
        refine x_aI e rfl rfl (fun z13 e => ?_)
        exact wp_lv (lv' := [(0, .ref v0), (1, .int v1)]) rfl ⟨rfl, rfl, trivial⟩ (x_Y_lay_100 e c)
      · refine wp_p (j := J_Y_lay) 1 (pc' := 81) (lv' := [(0, .ref v0), (1, .int v1)]) (st' := [.ref v0, .int v1, .ref z6]) rfl ?_
        refine x_gQ e rfl rfl fd_12_49 rfl (fun z14 e => ?_)
        refine wp_p (j := J_Y_lay) 1 (pc' := 85) (lv' := [(0, .ref v0), (1, .int v1)]) (st' := [.int v1, .ref z14, .int v1, .ref z6]) rfl ?_
        refine x_aI e rfl rfl (fun z15 e => ?_)
        refine wp_p (j := J_Y_lay) 1 (pc' := 100) (lv' := [(0, .ref v0), (1, .int v1)]) (st' := [.int z15, .int v1, .ref z6]) rfl ?_
        exact wp_lv (lv' := [(0, .ref v0), (1, .int v1)]) rfl ⟨rfl, rfl, trivial⟩ (x_Y_lay_100 e c)
noncomputable def L_Y_lay_29 (v0 : Nat) (v1 : Int32) (g : g_S) : Option (g_S) := it (fun s : Int32 × g_S => b_Y_lay_29 v0 s.1 s.2) (v1, g)
theorem l_Y_lay_29 {L : Nat} {xs : Nat → Int32} {Q : Option Value → ab_H → Prop} {v0 : Nat} {v1 : Int32} {g : g_S} {r : g_S} (e : L_Y_lay_29 v0 v1 g = some r) (c : cL_Y_lay_29 L xs Q v0 (.inr r)) : wp (ab_ext L xs) J_Y_lay 29 [(0, .ref v0), (1, .int v1)] [] (hp g) Q :=
  it_wp (P := fun s : Int32 × g_S => wp (ab_ext L xs) J_Y_lay 29 [(0, .ref v0), (1, .int s.1)] [] (hp s.2) Q) (E := fun r => cL_Y_lay_29 L xs Q v0 (.inr r)) (fun s out e c => y_Y_lay_29 e (by cases out <;> exact c)) e c
theorem L_Y_lay_29_eq (v0 : Nat) (v1 : Int32) (g : g_S) : L_Y_lay_29 v0 v1 g = itc (b_Y_lay_29 v0 v1 g) (fun s => L_Y_lay_29 v0 s.1 s.2) := it_eq2 (fun s : Int32 × g_S => b_Y_lay_29 v0 s.1 s.2) (v1, g)
noncomputable def M_Y_lay (v0 : Nat) (g : g_S) : Option g_S :=
  (rI g 112 v0 126).bind fun z1 =>
  if z1 = 0 then
    (wZ g 112 v0 126 1).bind fun g2 =>
    (vc g2 112 v0 (M_Y_cascade v0 g2)).bind fun g3 =>
    (wI g3 112 v0 117 0).bind fun g4 =>
    (wI g4 112 v0 125 0).bind fun g5 =>
    (L_Y_lay_29 v0 0 g5).bind <| fun g8 =>
    (rI g8 112 v0 125).bind fun z9 =>
    (L_Y_lay_276 v0 (z9 - 1) g8).bind <| fun g12 =>
    (rQ g12 112 v0 110).bind fun z13 =>
    (sI g12 z13 0 0).bind fun g14 =>
    (rQ g14 112 v0 111).bind fun z15 =>
    (sI g14 z15 0 0).bind fun g16 =>
    (L_Y_lay_355 v0 1 g16).bind <| fun g19 =>
    (L_Y_lay_458 v0 0 g19).bind <| fun g22 =>
    some g22
  else
    some g
set_option maxRecDepth 20000 in
theorem d_Y_lay {L : Nat} {xs : Nat → Int32} {Q : Option Value → ab_H → Prop} {v0 : Nat} {g : g_S} {out : g_S} (e : M_Y_lay v0 g = some out) (c : Q none (hp out)) : mw (ab_ext L xs) J_Y_lay [.ref v0] (hp g) Q := by
  unfold M_Y_lay at e
  refine wp_p (j := J_Y_lay) 1 (pc' := 1) (lv' := [(0, .ref v0)]) (st' := [.ref v0]) rfl ?_
  refine x_gI e rfl rfl fd_12_126 rfl (fun z1 e => ?_)
  refine z_eq e rfl (fun e => ?_) (fun e => ?_)
  · refine wp_p (j := J_Y_lay) 2 (pc' := 10) (lv' := [(0, .ref v0)]) (st' := [.int 1, .ref v0]) rfl ?_
    refine x_pZ e rfl rfl fw_12_126 rfl (fun g2 e => ?_)
    refine wp_p (j := J_Y_lay) 1 (pc' := 14) (lv' := [(0, .ref v0)]) (st' := [.ref v0]) rfl ?_
    refine x_cv0 (As := []) (rest := []) e rfl rfl rfl rfl rfl rfl (fun h => d_Y_cascade h ⟨rfl, rfl⟩) (fun g3 e => ?_)
    refine wp_p (j := J_Y_lay) 2 (pc' := 19) (lv' := [(0, .ref v0)]) (st' := [.int 0, .ref v0]) rfl ?_
    refine x_pI e rfl rfl fw_12_117 rfl (fun g4 e => ?_)
    refine wp_p (j := J_Y_lay) 2 (pc' := 24) (lv' := [(0, .ref v0)]) (st' := [.int 0, .ref v0]) rfl ?_
    refine x_pI e rfl rfl fw_12_125 rfl (fun g5 e => ?_)
    refine wp_p (j := J_Y_lay) 2 (pc' := 29) (lv' := [(1, .int 0), (0, .ref v0)]) (st' := []) rfl ?_
    obtain ⟨g8, h7, e⟩ := bd e
    refine wp_lv (lv' := [(0, .ref v0), (1, .int 0)]) rfl ⟨rfl, rfl, trivial⟩ ?_
    refine l_Y_lay_29 h7 ?_
    show wp (ab_ext L xs) J_Y_lay 269 [(0, .ref v0)] [] (hp g8) Q
    refine wp_p (j := J_Y_lay) 1 (pc' := 270) (lv' := [(0, .ref v0)]) (st' := [.ref v0]) rfl ?_
    refine x_gI e rfl rfl fd_12_125 rfl (fun z9 e => ?_)
    refine wp_p (j := J_Y_lay) 3 (pc' := 276) (lv' := [(1, .int (z9 - 1)), (0, .ref v0)]) (st' := []) rfl ?_
    obtain ⟨g12, h11, e⟩ := bd e
    refine wp_lv (lv' := [(0, .ref v0), (1, .int (z9 - 1))]) rfl ⟨rfl, rfl, trivial⟩ ?_
    refine l_Y_lay_276 h11 ?_
    show wp (ab_ext L xs) J_Y_lay 339 [(0, .ref v0)] [] (hp g12) Q
    refine wp_p (j := J_Y_lay) 1 (pc' := 340) (lv' := [(0, .ref v0)]) (st' := [.ref v0]) rfl ?_
    refine x_gQ e rfl rfl fd_12_110 rfl (fun z13 e => ?_)
    refine wp_p (j := J_Y_lay) 2 (pc' := 345) (lv' := [(0, .ref v0)]) (st' := [.int 0, .int 0, .ref z13]) rfl ?_
    refine x_sI e rfl rfl (fun g14 e => ?_)
    refine wp_p (j := J_Y_lay) 1 (pc' := 347) (lv' := [(0, .ref v0)]) (st' := [.ref v0]) rfl ?_
    refine x_gQ e rfl rfl fd_12_111 rfl (fun z15 e => ?_)
    refine wp_p (j := J_Y_lay) 2 (pc' := 352) (lv' := [(0, .ref v0)]) (st' := [.int 0, .int 0, .ref z15]) rfl ?_
    refine x_sI e rfl rfl (fun g16 e => ?_)
    refine wp_p (j := J_Y_lay) 2 (pc' := 355) (lv' := [(1, .int 1), (0, .ref v0)]) (st' := []) rfl ?_
    obtain ⟨g19, h18, e⟩ := bd e
    refine wp_lv (lv' := [(0, .ref v0), (1, .int 1)]) rfl ⟨rfl, rfl, trivial⟩ ?_
    refine l_Y_lay_355 h18 ?_
    show wp (ab_ext L xs) J_Y_lay 456 [(0, .ref v0)] [] (hp g19) Q
    refine wp_p (j := J_Y_lay) 2 (pc' := 458) (lv' := [(1, .int 0), (0, .ref v0)]) (st' := []) rfl ?_
    obtain ⟨g22, h21, e⟩ := bd e
    refine wp_lv (lv' := [(0, .ref v0), (1, .int 0)]) rfl ⟨rfl, rfl, trivial⟩ ?_
    refine l_Y_lay_458 h21 ?_
    show wp (ab_ext L xs) J_Y_lay 526 [] [] (hp g22) Q
    have e := Option.some.inj e; subst e; exact wp_vret rfl rfl c
  · have e := Option.some.inj e; subst e; exact wp_vret rfl rfl c
noncomputable def k_Y_style_46 (v2 : Int32) (w0 : Int32) (w1 : Nat) (g : g_S) : Option (Int32 × g_S) :=
  (vc g 112 w1 (M_Y_of w1 w0 v2 g)).bind fun z1 =>
  some (z1, g)
set_option maxRecDepth 20000 in
theorem x_Y_style_46 {L : Nat} {xs : Nat → Int32} {Q : Option Value → ab_H → Prop} {v2 : Int32} {w0 : Int32} {w1 : Nat} {g : g_S} {out : Int32 × g_S} (e : k_Y_style_46 v2 w0 w1 g = some out) (c : Q (some (.int out.1)) (hp out.2)) : wp (ab_ext L xs) J_Y_style 46 [(2, .int v2)] [.int w0, .ref w1] (hp g) Q := by
  unfold k_Y_style_46 at e
  refine wp_p (j := J_Y_style) 1 (pc' := 47) (lv' := [(2, .int v2)]) (st' := [.int v2, .int w0, .ref w1]) rfl ?_
  refine x_cv1 (As := [.int w0, .int v2]) (rest := []) Value.int e rfl rfl rfl rfl rfl rfl (fun h => d_Y_of h ⟨rfl, rfl⟩) (fun z1 e => ?_)
  have e := Option.some.inj e; subst e; exact wp_iret (ty := .int) rfl rfl rfl c
noncomputable def M_Y_style (v0 : Nat) (v1 : Int32) (v2 : Int32) (g : g_S) : Option (Int32 × g_S) :=
  (vc g 112 v0 (M_Y_there v0 v1 g)).bind fun z1 =>
  if z1 = 0 then
    some ((-1), g)
  else
    if v2 < 0 then
      some ((-1), g)
    else
      if 10 < v2 then
        some ((-1), g)
      else
        (vc g 112 v0 (M_Y_lay v0 g)).bind fun g2 =>
        (rQ g2 112 v0 46).bind fun z3 =>
        (aI g2 0 z3 v1).bind fun z4 =>
        if z4 = 17 then
          (rQ g2 112 v0 49).bind fun z5 =>
          (aI g2 0 z5 v1).bind fun z6 =>
          k_Y_style_46 v2 z6 v0 g2
        else
          k_Y_style_46 v2 v1 v0 g2
set_option maxRecDepth 20000 in
theorem d_Y_style {L : Nat} {xs : Nat → Int32} {Q : Option Value → ab_H → Prop} {v0 : Nat} {v1 : Int32} {v2 : Int32} {g : g_S} {out : Int32 × g_S} (e : M_Y_style v0 v1 v2 g = some out) (c : Q (some (.int out.1)) (hp out.2)) : mw (ab_ext L xs) J_Y_style [.ref v0, .int v1, .int v2] (hp g) Q := by
  unfold M_Y_style at e
  refine wp_p (j := J_Y_style) 2 (pc' := 2) (lv' := [(0, .ref v0), (1, .int v1), (2, .int v2)]) (st' := [.int v1, .ref v0]) rfl ?_
  refine x_cv1 (As := [.int v1]) (rest := []) Value.int e rfl rfl rfl rfl rfl rfl (fun h => d_Y_there h ⟨rfl, rfl⟩) (fun z1 e => ?_)
  refine z_eq e rfl (fun e => ?_) (fun e => ?_)
  · refine wp_p (j := J_Y_style) 1 (pc' := 19) (lv' := [(0, .ref v0), (1, .int v1), (2, .int v2)]) (st' := [.int (-1)]) rfl ?_
    have e := Option.some.inj e; subst e; exact wp_iret (ty := .int) rfl rfl rfl c
  · refine wp_p (j := J_Y_style) 1 (pc' := 9) (lv' := [(0, .ref v0), (1, .int v1), (2, .int v2)]) (st' := [.int v2]) rfl ?_
    refine z_lt e rfl (fun e => ?_) (fun e => ?_)
    · refine wp_p (j := J_Y_style) 1 (pc' := 19) (lv' := [(0, .ref v0), (1, .int v1), (2, .int v2)]) (st' := [.int (-1)]) rfl ?_
      have e := Option.some.inj e; subst e; exact wp_iret (ty := .int) rfl rfl rfl c
    · refine wp_p (j := J_Y_style) 2 (pc' := 15) (lv' := [(0, .ref v0), (1, .int v1), (2, .int v2)]) (st' := [.int 10, .int v2]) rfl ?_
      refine x_le e rfl (fun e => ?_) (fun e => ?_)
      · refine wp_p (j := J_Y_style) 1 (pc' := 19) (lv' := [(0, .ref v0), (1, .int v1), (2, .int v2)]) (st' := [.int (-1)]) rfl ?_
        have e := Option.some.inj e; subst e; exact wp_iret (ty := .int) rfl rfl rfl c
      · refine wp_p (j := J_Y_style) 1 (pc' := 21) (lv' := [(0, .ref v0), (1, .int v1), (2, .int v2)]) (st' := [.ref v0]) rfl ?_
        refine x_cv0 (As := []) (rest := []) e rfl rfl rfl rfl rfl rfl (fun h => d_Y_lay h ⟨rfl, rfl⟩) (fun g2 e => ?_)
        refine wp_p (j := J_Y_style) 2 (pc' := 26) (lv' := [(0, .ref v0), (1, .int v1), (2, .int v2)]) (st' := [.ref v0, .ref v0]) rfl ?_
        refine x_gQ e rfl rfl fd_12_46 rfl (fun z3 e => ?_)
        refine wp_p (j := J_Y_style) 1 (pc' := 30) (lv' := [(0, .ref v0), (1, .int v1), (2, .int v2)]) (st' := [.int v1, .ref z3, .ref v0]) rfl ?_
        refine x_aI e rfl rfl (fun z4 e => ?_)
        refine wp_p (j := J_Y_style) 1 (pc' := 33) (lv' := [(0, .ref v0), (1, .int v1), (2, .int v2)]) (st' := [.int 17, .int z4, .ref v0]) rfl ?_
        refine x_ne e rfl (fun e => ?_) (fun e => ?_)
        · refine wp_p (j := J_Y_style) 1 (pc' := 37) (lv' := [(0, .ref v0), (1, .int v1), (2, .int v2)]) (st' := [.ref v0, .ref v0]) rfl ?_
          refine x_gQ e rfl rfl fd_12_49 rfl (fun z5 e => ?_)
          refine wp_p (j := J_Y_style) 1 (pc' := 41) (lv' := [(0, .ref v0), (1, .int v1), (2, .int v2)]) (st' := [.int v1, .ref z5, .ref v0]) rfl ?_
          refine x_aI e rfl rfl (fun z6 e => ?_)
          refine wp_p (j := J_Y_style) 1 (pc' := 46) (lv' := [(0, .ref v0), (1, .int v1), (2, .int v2)]) (st' := [.int z6, .ref v0]) rfl ?_
          exact wp_lv (lv' := [(2, .int v2)]) rfl ⟨rfl, trivial⟩ (x_Y_style_46 e c)
        · refine wp_p (j := J_Y_style) 1 (pc' := 46) (lv' := [(0, .ref v0), (1, .int v1), (2, .int v2)]) (st' := [.int v1, .ref v0]) rfl ?_
          exact wp_lv (lv' := [(2, .int v2)]) rfl ⟨rfl, trivial⟩ (x_Y_style_46 e c)
noncomputable def M_Y_screen (v0 : Nat) (v1 : Int32) (g : g_S) : Option (Int32 × g_S) :=
  if v1 < 20 then
    some ((-1), g)
  else
    if 96 < v1 then
      some ((-1), g)
    else
      (wI g 112 v0 106 v1).bind fun g1 =>
      (vc g1 112 v0 (M_Y_changed v0 g1)).bind fun g2 =>
      some (1, g2)
set_option maxRecDepth 20000 in
theorem d_Y_screen {L : Nat} {xs : Nat → Int32} {Q : Option Value → ab_H → Prop} {v0 : Nat} {v1 : Int32} {g : g_S} {out : Int32 × g_S} (e : M_Y_screen v0 v1 g = some out) (c : Q (some (.int out.1)) (hp out.2)) : mw (ab_ext L xs) J_Y_screen [.ref v0, .int v1] (hp g) Q := by
  unfold M_Y_screen at e
  refine wp_p (j := J_Y_screen) 2 (pc' := 3) (lv' := [(0, .ref v0), (1, .int v1)]) (st' := [.int 20, .int v1]) rfl ?_
  refine x_lt e rfl (fun e => ?_) (fun e => ?_)
  · refine wp_p (j := J_Y_screen) 1 (pc' := 13) (lv' := [(0, .ref v0), (1, .int v1)]) (st' := [.int (-1)]) rfl ?_
    have e := Option.some.inj e; subst e; exact wp_iret (ty := .int) rfl rfl rfl c
  · refine wp_p (j := J_Y_screen) 2 (pc' := 9) (lv' := [(0, .ref v0), (1, .int v1)]) (st' := [.int 96, .int v1]) rfl ?_
    refine x_le e rfl (fun e => ?_) (fun e => ?_)
    · refine wp_p (j := J_Y_screen) 1 (pc' := 13) (lv' := [(0, .ref v0), (1, .int v1)]) (st' := [.int (-1)]) rfl ?_
      have e := Option.some.inj e; subst e; exact wp_iret (ty := .int) rfl rfl rfl c
    · refine wp_p (j := J_Y_screen) 2 (pc' := 16) (lv' := [(0, .ref v0), (1, .int v1)]) (st' := [.int v1, .ref v0]) rfl ?_
      refine x_pI e rfl rfl fw_12_106 rfl (fun g1 e => ?_)
      refine wp_p (j := J_Y_screen) 1 (pc' := 20) (lv' := [(0, .ref v0), (1, .int v1)]) (st' := [.ref v0]) rfl ?_
      refine x_cv0 (As := []) (rest := []) e rfl rfl rfl rfl rfl rfl (fun h => d_Y_changed h ⟨rfl, rfl⟩) (fun g2 e => ?_)
      refine wp_p (j := J_Y_screen) 1 (pc' := 24) (lv' := [(0, .ref v0), (1, .int v1)]) (st' := [.int 1]) rfl ?_
      have e := Option.some.inj e; subst e; exact wp_iret (ty := .int) rfl rfl rfl c
noncomputable def k_Y_box_47 (v0 : Nat) (v1 : Int32) (v2 : Int32) (g : g_S) : Option (Int32 × g_S) :=
  if v2 = 0 then
    (rQ g 112 v0 110).bind fun z1 =>
    (aI g 0 z1 v1).bind fun z2 =>
    some (z2, g)
  else
    if v2 = 1 then
      (rQ g 112 v0 111).bind fun z3 =>
      (aI g 0 z3 v1).bind fun z4 =>
      some (z4, g)
    else
      if v2 = 2 then
        (rQ g 112 v0 112).bind fun z5 =>
        (aI g 0 z5 v1).bind fun z6 =>
        some (z6, g)
      else
        (rQ g 112 v0 113).bind fun z7 =>
        (aI g 0 z7 v1).bind fun z8 =>
        some (z8, g)
set_option maxRecDepth 20000 in
theorem x_Y_box_47 {L : Nat} {xs : Nat → Int32} {Q : Option Value → ab_H → Prop} {v0 : Nat} {v1 : Int32} {v2 : Int32} {g : g_S} {out : Int32 × g_S} (e : k_Y_box_47 v0 v1 v2 g = some out) (c : Q (some (.int out.1)) (hp out.2)) : wp (ab_ext L xs) J_Y_box 47 [(0, .ref v0), (1, .int v1), (2, .int v2)] [] (hp g) Q := by
  unfold k_Y_box_47 at e
  refine wp_p (j := J_Y_box) 1 (pc' := 48) (lv' := [(0, .ref v0), (1, .int v1), (2, .int v2)]) (st' := [.int v2]) rfl ?_
  refine z_ne e rfl (fun e => ?_) (fun e => ?_)
  · refine wp_p (j := J_Y_box) 1 (pc' := 52) (lv' := [(0, .ref v0), (1, .int v1), (2, .int v2)]) (st' := [.ref v0]) rfl ?_
    refine x_gQ e rfl rfl fd_12_110 rfl (fun z1 e => ?_)
    refine wp_p (j := J_Y_box) 1 (pc' := 56) (lv' := [(0, .ref v0), (1, .int v1), (2, .int v2)]) (st' := [.int v1, .ref z1]) rfl ?_
    refine x_aI e rfl rfl (fun z2 e => ?_)
    refine wp_p (j := J_Y_box) 1 (pc' := 94) (lv' := [(0, .ref v0), (1, .int v1), (2, .int v2)]) (st' := [.int z2]) rfl ?_
    have e := Option.some.inj e; subst e; exact wp_iret (ty := .int) rfl rfl rfl c
  · refine wp_p (j := J_Y_box) 2 (pc' := 62) (lv' := [(0, .ref v0), (1, .int v1), (2, .int v2)]) (st' := [.int 1, .int v2]) rfl ?_
    refine x_ne e rfl (fun e => ?_) (fun e => ?_)
    · refine wp_p (j := J_Y_box) 1 (pc' := 66) (lv' := [(0, .ref v0), (1, .int v1), (2, .int v2)]) (st' := [.ref v0]) rfl ?_
      refine x_gQ e rfl rfl fd_12_111 rfl (fun z3 e => ?_)
      refine wp_p (j := J_Y_box) 1 (pc' := 70) (lv' := [(0, .ref v0), (1, .int v1), (2, .int v2)]) (st' := [.int v1, .ref z3]) rfl ?_
      refine x_aI e rfl rfl (fun z4 e => ?_)
      refine wp_p (j := J_Y_box) 1 (pc' := 94) (lv' := [(0, .ref v0), (1, .int v1), (2, .int v2)]) (st' := [.int z4]) rfl ?_
      have e := Option.some.inj e; subst e; exact wp_iret (ty := .int) rfl rfl rfl c
    · refine wp_p (j := J_Y_box) 2 (pc' := 76) (lv' := [(0, .ref v0), (1, .int v1), (2, .int v2)]) (st' := [.int 2, .int v2]) rfl ?_
      refine x_ne e rfl (fun e => ?_) (fun e => ?_)
      · refine wp_p (j := J_Y_box) 1 (pc' := 80) (lv' := [(0, .ref v0), (1, .int v1), (2, .int v2)]) (st' := [.ref v0]) rfl ?_
        refine x_gQ e rfl rfl fd_12_112 rfl (fun z5 e => ?_)
        refine wp_p (j := J_Y_box) 1 (pc' := 84) (lv' := [(0, .ref v0), (1, .int v1), (2, .int v2)]) (st' := [.int v1, .ref z5]) rfl ?_
        refine x_aI e rfl rfl (fun z6 e => ?_)
        refine wp_p (j := J_Y_box) 1 (pc' := 94) (lv' := [(0, .ref v0), (1, .int v1), (2, .int v2)]) (st' := [.int z6]) rfl ?_
        have e := Option.some.inj e; subst e; exact wp_iret (ty := .int) rfl rfl rfl c
      · refine wp_p (j := J_Y_box) 1 (pc' := 89) (lv' := [(0, .ref v0), (1, .int v1), (2, .int v2)]) (st' := [.ref v0]) rfl ?_
        refine x_gQ e rfl rfl fd_12_113 rfl (fun z7 e => ?_)
        refine wp_p (j := J_Y_box) 1 (pc' := 93) (lv' := [(0, .ref v0), (1, .int v1), (2, .int v2)]) (st' := [.int v1, .ref z7]) rfl ?_
        refine x_aI e rfl rfl (fun z8 e => ?_)
        have e := Option.some.inj e; subst e; exact wp_iret (ty := .int) rfl rfl rfl c
noncomputable def M_Y_box (v0 : Nat) (v1 : Int32) (v2 : Int32) (g : g_S) : Option (Int32 × g_S) :=
  (vc g 112 v0 (M_Y_there v0 v1 g)).bind fun z1 =>
  if z1 = 0 then
    some ((-1000), g)
  else
    if v2 < 0 then
      some ((-1000), g)
    else
      if 3 < v2 then
        some ((-1000), g)
      else
        (vc g 112 v0 (M_Y_lay v0 g)).bind fun g2 =>
        (vc g2 112 v0 (M_Y_isBox v0 v1 g2)).bind fun z3 =>
        if z3 = 0 then
          (rQ g2 112 v0 107).bind fun z4 =>
          (aI g2 0 z4 v1).bind fun z5 =>
          if z5 = 4 then
            k_Y_box_47 v0 v1 v2 g2
          else
            some ((-1000), g2)
        else
          k_Y_box_47 v0 v1 v2 g2
set_option maxRecDepth 20000 in
theorem d_Y_box {L : Nat} {xs : Nat → Int32} {Q : Option Value → ab_H → Prop} {v0 : Nat} {v1 : Int32} {v2 : Int32} {g : g_S} {out : Int32 × g_S} (e : M_Y_box v0 v1 v2 g = some out) (c : Q (some (.int out.1)) (hp out.2)) : mw (ab_ext L xs) J_Y_box [.ref v0, .int v1, .int v2] (hp g) Q := by
  unfold M_Y_box at e
  refine wp_p (j := J_Y_box) 2 (pc' := 2) (lv' := [(0, .ref v0), (1, .int v1), (2, .int v2)]) (st' := [.int v1, .ref v0]) rfl ?_
  refine x_cv1 (As := [.int v1]) (rest := []) Value.int e rfl rfl rfl rfl rfl rfl (fun h => d_Y_there h ⟨rfl, rfl⟩) (fun z1 e => ?_)
  refine z_eq e rfl (fun e => ?_) (fun e => ?_)
  · refine wp_p (j := J_Y_box) 1 (pc' := 20) (lv' := [(0, .ref v0), (1, .int v1), (2, .int v2)]) (st' := [.int (-1000)]) rfl ?_
    have e := Option.some.inj e; subst e; exact wp_iret (ty := .int) rfl rfl rfl c
  · refine wp_p (j := J_Y_box) 1 (pc' := 9) (lv' := [(0, .ref v0), (1, .int v1), (2, .int v2)]) (st' := [.int v2]) rfl ?_
    refine z_lt e rfl (fun e => ?_) (fun e => ?_)
    · refine wp_p (j := J_Y_box) 1 (pc' := 20) (lv' := [(0, .ref v0), (1, .int v1), (2, .int v2)]) (st' := [.int (-1000)]) rfl ?_
      have e := Option.some.inj e; subst e; exact wp_iret (ty := .int) rfl rfl rfl c
    · refine wp_p (j := J_Y_box) 2 (pc' := 14) (lv' := [(0, .ref v0), (1, .int v1), (2, .int v2)]) (st' := [.int 3, .int v2]) rfl ?_
      refine x_le e rfl (fun e => ?_) (fun e => ?_)
      · refine wp_p (j := J_Y_box) 1 (pc' := 20) (lv' := [(0, .ref v0), (1, .int v1), (2, .int v2)]) (st' := [.int (-1000)]) rfl ?_
        have e := Option.some.inj e; subst e; exact wp_iret (ty := .int) rfl rfl rfl c
      · refine wp_p (j := J_Y_box) 1 (pc' := 22) (lv' := [(0, .ref v0), (1, .int v1), (2, .int v2)]) (st' := [.ref v0]) rfl ?_
        refine x_cv0 (As := []) (rest := []) e rfl rfl rfl rfl rfl rfl (fun h => d_Y_lay h ⟨rfl, rfl⟩) (fun g2 e => ?_)
        refine wp_p (j := J_Y_box) 2 (pc' := 27) (lv' := [(0, .ref v0), (1, .int v1), (2, .int v2)]) (st' := [.int v1, .ref v0]) rfl ?_
        refine x_cv1 (As := [.int v1]) (rest := []) Value.int e rfl rfl rfl rfl rfl rfl (fun h => d_Y_isBox h ⟨rfl, rfl⟩) (fun z3 e => ?_)
        refine z_ne e rfl (fun e => ?_) (fun e => ?_)
        · refine wp_p (j := J_Y_box) 1 (pc' := 34) (lv' := [(0, .ref v0), (1, .int v1), (2, .int v2)]) (st' := [.ref v0]) rfl ?_
          refine x_gQ e rfl rfl fd_12_107 rfl (fun z4 e => ?_)
          refine wp_p (j := J_Y_box) 1 (pc' := 38) (lv' := [(0, .ref v0), (1, .int v1), (2, .int v2)]) (st' := [.int v1, .ref z4]) rfl ?_
          refine x_aI e rfl rfl (fun z5 e => ?_)
          refine wp_p (j := J_Y_box) 1 (pc' := 40) (lv' := [(0, .ref v0), (1, .int v1), (2, .int v2)]) (st' := [.int 4, .int z5]) rfl ?_
          refine x_eq e rfl (fun e => ?_) (fun e => ?_)
          · exact wp_lv (lv' := [(0, .ref v0), (1, .int v1), (2, .int v2)]) rfl ⟨rfl, rfl, rfl, trivial⟩ (x_Y_box_47 e c)
          · refine wp_p (j := J_Y_box) 1 (pc' := 46) (lv' := [(0, .ref v0), (1, .int v1), (2, .int v2)]) (st' := [.int (-1000)]) rfl ?_
            have e := Option.some.inj e; subst e; exact wp_iret (ty := .int) rfl rfl rfl c
        · exact wp_lv (lv' := [(0, .ref v0), (1, .int v1), (2, .int v2)]) rfl ⟨rfl, rfl, rfl, trivial⟩ (x_Y_box_47 e c)
noncomputable def M_Y_word (v0 : Nat) (v1 : Int32) (v2 : Int32) (g : g_S) : Option (Int32 × g_S) :=
  (vc g 112 v0 (M_Y_lay v0 g)).bind fun g1 =>
  if v1 < 0 then
    some ((-1000), g1)
  else
    (rI g1 112 v0 117).bind fun z2 =>
    if v1 < z2 then
      if v2 = 0 then
        (rQ g1 112 v0 118).bind fun z4 =>
        (aI g1 0 z4 v1).bind fun z5 =>
        some (z5, g1)
      else if v2 = 1 then
        (rQ g1 112 v0 119).bind fun z7 =>
        (aI g1 0 z7 v1).bind fun z8 =>
        some (z8, g1)
      else if v2 = 2 then
        (rQ g1 112 v0 120).bind fun z10 =>
        (aI g1 0 z10 v1).bind fun z11 =>
        some (z11, g1)
      else if v2 = 3 then
        (rQ g1 112 v0 121).bind fun z13 =>
        (aI g1 0 z13 v1).bind fun z14 =>
        some (z14, g1)
      else if v2 = 4 then
        (rQ g1 112 v0 122).bind fun z16 =>
        (aI g1 0 z16 v1).bind fun z17 =>
        some (z17, g1)
      else if v2 = 5 then
        (rQ g1 112 v0 123).bind fun z19 =>
        (aI g1 0 z19 v1).bind fun z20 =>
        some (z20, g1)
      else if v2 = 6 then
        (rQ g1 112 v0 49).bind fun z22 =>
        (rQ g1 112 v0 118).bind fun z23 =>
        (aI g1 0 z23 v1).bind fun z24 =>
        (aI g1 0 z22 z24).bind fun z25 =>
        (vc g1 112 v0 (M_Y_of v0 z25 8 g1)).bind fun z26 =>
        some (7 * z26, g1)
      else
        some ((-1000), g1)
    else
      some ((-1000), g1)
set_option maxRecDepth 20000 in
theorem d_Y_word {L : Nat} {xs : Nat → Int32} {Q : Option Value → ab_H → Prop} {v0 : Nat} {v1 : Int32} {v2 : Int32} {g : g_S} {out : Int32 × g_S} (e : M_Y_word v0 v1 v2 g = some out) (c : Q (some (.int out.1)) (hp out.2)) : mw (ab_ext L xs) J_Y_word [.ref v0, .int v1, .int v2] (hp g) Q := by
  unfold M_Y_word at e
  refine wp_p (j := J_Y_word) 1 (pc' := 1) (lv' := [(0, .ref v0), (1, .int v1), (2, .int v2)]) (st' := [.ref v0]) rfl ?_
  refine x_cv0 (As := []) (rest := []) e rfl rfl rfl rfl rfl rfl (fun h => d_Y_lay h ⟨rfl, rfl⟩) (fun g1 e => ?_)
  refine wp_p (j := J_Y_word) 1 (pc' := 5) (lv' := [(0, .ref v0), (1, .int v1), (2, .int v2)]) (st' := [.int v1]) rfl ?_
  refine z_lt e rfl (fun e => ?_) (fun e => ?_)
  · refine wp_p (j := J_Y_word) 1 (pc' := 19) (lv' := [(0, .ref v0), (1, .int v1), (2, .int v2)]) (st' := [.int (-1000)]) rfl ?_
    have e := Option.some.inj e; subst e; exact wp_iret (ty := .int) rfl rfl rfl c
  · refine wp_p (j := J_Y_word) 2 (pc' := 10) (lv' := [(0, .ref v0), (1, .int v1), (2, .int v2)]) (st' := [.ref v0, .int v1]) rfl ?_
    refine x_gI e rfl rfl fd_12_117 rfl (fun z2 e => ?_)
    refine x_lt e rfl (fun e => ?_) (fun e => ?_)
    · refine wp_p (j := J_Y_word) 1 (pc' := 21) (lv' := [(0, .ref v0), (1, .int v1), (2, .int v2)]) (st' := [.int v2]) rfl ?_
      refine x_if e (fun h3 e => ?_) (fun h3 e => ?_)
      · refine x_sw (cst := 0) (pc' := 64) (rest := []) h3 rfl rfl rfl ?_
        refine wp_p (j := J_Y_word) 1 (pc' := 65) (lv' := [(0, .ref v0), (1, .int v1), (2, .int v2)]) (st' := [.ref v0]) rfl ?_
        refine x_gQ e rfl rfl fd_12_118 rfl (fun z4 e => ?_)
        refine wp_p (j := J_Y_word) 1 (pc' := 69) (lv' := [(0, .ref v0), (1, .int v1), (2, .int v2)]) (st' := [.int v1, .ref z4]) rfl ?_
        refine x_aI e rfl rfl (fun z5 e => ?_)
        have e := Option.some.inj e; subst e; exact wp_iret (ty := .int) rfl rfl rfl c
      refine x_if e (fun h6 e => ?_) (fun h6 e => ?_)
      · refine x_sw (cst := 1) (pc' := 71) (rest := []) h6 rfl rfl rfl ?_
        refine wp_p (j := J_Y_word) 1 (pc' := 72) (lv' := [(0, .ref v0), (1, .int v1), (2, .int v2)]) (st' := [.ref v0]) rfl ?_
        refine x_gQ e rfl rfl fd_12_119 rfl (fun z7 e => ?_)
        refine wp_p (j := J_Y_word) 1 (pc' := 76) (lv' := [(0, .ref v0), (1, .int v1), (2, .int v2)]) (st' := [.int v1, .ref z7]) rfl ?_
        refine x_aI e rfl rfl (fun z8 e => ?_)
        have e := Option.some.inj e; subst e; exact wp_iret (ty := .int) rfl rfl rfl c
      refine x_if e (fun h9 e => ?_) (fun h9 e => ?_)
      · refine x_sw (cst := 2) (pc' := 78) (rest := []) h9 rfl rfl rfl ?_
        refine wp_p (j := J_Y_word) 1 (pc' := 79) (lv' := [(0, .ref v0), (1, .int v1), (2, .int v2)]) (st' := [.ref v0]) rfl ?_
        refine x_gQ e rfl rfl fd_12_120 rfl (fun z10 e => ?_)
        refine wp_p (j := J_Y_word) 1 (pc' := 83) (lv' := [(0, .ref v0), (1, .int v1), (2, .int v2)]) (st' := [.int v1, .ref z10]) rfl ?_
        refine x_aI e rfl rfl (fun z11 e => ?_)
        have e := Option.some.inj e; subst e; exact wp_iret (ty := .int) rfl rfl rfl c
      refine x_if e (fun h12 e => ?_) (fun h12 e => ?_)
      · refine x_sw (cst := 3) (pc' := 85) (rest := []) h12 rfl rfl rfl ?_
        refine wp_p (j := J_Y_word) 1 (pc' := 86) (lv' := [(0, .ref v0), (1, .int v1), (2, .int v2)]) (st' := [.ref v0]) rfl ?_
        refine x_gQ e rfl rfl fd_12_121 rfl (fun z13 e => ?_)
        refine wp_p (j := J_Y_word) 1 (pc' := 90) (lv' := [(0, .ref v0), (1, .int v1), (2, .int v2)]) (st' := [.int v1, .ref z13]) rfl ?_
        refine x_aI e rfl rfl (fun z14 e => ?_)
        have e := Option.some.inj e; subst e; exact wp_iret (ty := .int) rfl rfl rfl c
      refine x_if e (fun h15 e => ?_) (fun h15 e => ?_)
      · refine x_sw (cst := 4) (pc' := 92) (rest := []) h15 rfl rfl rfl ?_
        refine wp_p (j := J_Y_word) 1 (pc' := 93) (lv' := [(0, .ref v0), (1, .int v1), (2, .int v2)]) (st' := [.ref v0]) rfl ?_
        refine x_gQ e rfl rfl fd_12_122 rfl (fun z16 e => ?_)
        refine wp_p (j := J_Y_word) 1 (pc' := 97) (lv' := [(0, .ref v0), (1, .int v1), (2, .int v2)]) (st' := [.int v1, .ref z16]) rfl ?_
        refine x_aI e rfl rfl (fun z17 e => ?_)
        have e := Option.some.inj e; subst e; exact wp_iret (ty := .int) rfl rfl rfl c
      refine x_if e (fun h18 e => ?_) (fun h18 e => ?_)
      · refine x_sw (cst := 5) (pc' := 99) (rest := []) h18 rfl rfl rfl ?_
        refine wp_p (j := J_Y_word) 1 (pc' := 100) (lv' := [(0, .ref v0), (1, .int v1), (2, .int v2)]) (st' := [.ref v0]) rfl ?_
        refine x_gQ e rfl rfl fd_12_123 rfl (fun z19 e => ?_)
        refine wp_p (j := J_Y_word) 1 (pc' := 104) (lv' := [(0, .ref v0), (1, .int v1), (2, .int v2)]) (st' := [.int v1, .ref z19]) rfl ?_
        refine x_aI e rfl rfl (fun z20 e => ?_)
        have e := Option.some.inj e; subst e; exact wp_iret (ty := .int) rfl rfl rfl c
      refine x_if e (fun h21 e => ?_) (fun h21 e => ?_)
      · refine x_sw (cst := 6) (pc' := 106) (rest := []) h21 rfl rfl rfl ?_
        refine wp_p (j := J_Y_word) 3 (pc' := 110) (lv' := [(0, .ref v0), (1, .int v1), (2, .int v2)]) (st' := [.ref v0, .ref v0, .int 7]) rfl ?_
        refine x_gQ e rfl rfl fd_12_49 rfl (fun z22 e => ?_)
        refine wp_p (j := J_Y_word) 1 (pc' := 114) (lv' := [(0, .ref v0), (1, .int v1), (2, .int v2)]) (st' := [.ref v0, .ref z22, .ref v0, .int 7]) rfl ?_
        refine x_gQ e rfl rfl fd_12_118 rfl (fun z23 e => ?_)
        refine wp_p (j := J_Y_word) 1 (pc' := 118) (lv' := [(0, .ref v0), (1, .int v1), (2, .int v2)]) (st' := [.int v1, .ref z23, .ref z22, .ref v0, .int 7]) rfl ?_
        refine x_aI e rfl rfl (fun z24 e => ?_)
        refine x_aI e rfl rfl (fun z25 e => ?_)
        refine wp_p (j := J_Y_word) 1 (pc' := 122) (lv' := [(0, .ref v0), (1, .int v1), (2, .int v2)]) (st' := [.int 8, .int z25, .ref v0, .int 7]) rfl ?_
        refine x_cv1 (As := [.int z25, .int 8]) (rest := [.int 7]) Value.int e rfl rfl rfl rfl rfl rfl (fun h => d_Y_of h ⟨rfl, rfl⟩) (fun z26 e => ?_)
        refine wp_p (j := J_Y_word) 1 (pc' := 126) (lv' := [(0, .ref v0), (1, .int v1), (2, .int v2)]) (st' := [.int (7 * z26)]) rfl ?_
        have e := Option.some.inj e; subst e; exact wp_iret (ty := .int) rfl rfl rfl c
      refine wp_b (pc' := 127) (st' := []) rfl rfl ((ts_d (x := v2) (lo := 0) 7 rfl ⟨h3, h6, h9, h12, h15, h18, h21, trivial⟩).trans rfl) ?_
      refine wp_p (j := J_Y_word) 1 (pc' := 130) (lv' := [(0, .ref v0), (1, .int v1), (2, .int v2)]) (st' := [.int (-1000)]) rfl ?_
      have e := Option.some.inj e; subst e; exact wp_iret (ty := .int) rfl rfl rfl c
    · refine wp_p (j := J_Y_word) 1 (pc' := 19) (lv' := [(0, .ref v0), (1, .int v1), (2, .int v2)]) (st' := [.int (-1000)]) rfl ?_
      have e := Option.some.inj e; subst e; exact wp_iret (ty := .int) rfl rfl rfl c
noncomputable def M_Y_pictureHigh (v0 : Nat) (g : g_S) : Option (Int32 × g_S) :=
  (vc g 112 v0 (M_Y_lay v0 g)).bind fun g1 =>
  (rQ g1 112 v0 113).bind fun z2 =>
  (aI g1 0 z2 0).bind fun z3 =>
  some (mn 400 z3, g1)
set_option maxRecDepth 20000 in
theorem d_Y_pictureHigh {L : Nat} {xs : Nat → Int32} {Q : Option Value → ab_H → Prop} {v0 : Nat} {g : g_S} {out : Int32 × g_S} (e : M_Y_pictureHigh v0 g = some out) (c : Q (some (.int out.1)) (hp out.2)) : mw (ab_ext L xs) J_Y_pictureHigh [.ref v0] (hp g) Q := by
  unfold M_Y_pictureHigh at e
  refine wp_p (j := J_Y_pictureHigh) 1 (pc' := 1) (lv' := [(0, .ref v0)]) (st' := [.ref v0]) rfl ?_
  refine x_cv0 (As := []) (rest := []) e rfl rfl rfl rfl rfl rfl (fun h => d_Y_lay h ⟨rfl, rfl⟩) (fun g1 e => ?_)
  refine wp_p (j := J_Y_pictureHigh) 2 (pc' := 8) (lv' := [(0, .ref v0)]) (st' := [.ref v0, .int 400]) rfl ?_
  refine x_gQ e rfl rfl fd_12_113 rfl (fun z2 e => ?_)
  refine wp_p (j := J_Y_pictureHigh) 1 (pc' := 12) (lv' := [(0, .ref v0)]) (st' := [.int 0, .ref z2, .int 400]) rfl ?_
  refine x_aI e rfl rfl (fun z3 e => ?_)
  refine x_mn rfl rfl ?_
  have e := Option.some.inj e; subst e; exact wp_iret (ty := .int) rfl rfl rfl c
noncomputable def M_Y_isIn (v0 : Nat) (v1 : Int32) (v2 : Int32) (v3 : Int32) (v4 : Int32) (v5 : Int32) (v6 : Int32) (g : g_S) : Option Int32 :=
  if v1 < v3 then
    some 0
  else
    if v1 < (v3 + v5) then
      if v2 < v4 then
        some 0
      else
        if v2 < (v4 + v6) then
          some 1
        else
          some 0
    else
      some 0
set_option maxRecDepth 20000 in
theorem d_Y_isIn {L : Nat} {xs : Nat → Int32} {Q : Option Value → ab_H → Prop} {v0 : Nat} {v1 : Int32} {v2 : Int32} {v3 : Int32} {v4 : Int32} {v5 : Int32} {v6 : Int32} {g : g_S} {out : Int32} (e : M_Y_isIn v0 v1 v2 v3 v4 v5 v6 g = some out) (c : Q (some (.int out)) (hp g)) : mw (ab_ext L xs) J_Y_isIn [.ref v0, .int v1, .int v2, .int v3, .int v4, .int v5, .int v6] (hp g) Q := by
  unfold M_Y_isIn at e
  refine wp_p (j := J_Y_isIn) 2 (pc' := 2) (lv' := [(0, .ref v0), (1, .int v1), (2, .int v2), (3, .int v3), (4, .int v4), (5, .int v5), (6, .int v6)]) (st' := [.int v3, .int v1]) rfl ?_
  refine x_lt e rfl (fun e => ?_) (fun e => ?_)
  · refine wp_p (j := J_Y_isIn) 1 (pc' := 33) (lv' := [(0, .ref v0), (1, .int v1), (2, .int v2), (3, .int v3), (4, .int v4), (5, .int v5), (6, .int v6)]) (st' := [.int 0]) rfl ?_
    have e := Option.some.inj e; subst e; exact wp_iret (ty := .boolean) rfl rfl (by decide) c
  · refine wp_p (j := J_Y_isIn) 4 (pc' := 10) (lv' := [(0, .ref v0), (1, .int v1), (2, .int v2), (3, .int v3), (4, .int v4), (5, .int v5), (6, .int v6)]) (st' := [.int (v3 + v5), .int v1]) rfl ?_
    refine x_ge e rfl (fun e => ?_) (fun e => ?_)
    · refine wp_p (j := J_Y_isIn) 2 (pc' := 16) (lv' := [(0, .ref v0), (1, .int v1), (2, .int v2), (3, .int v3), (4, .int v4), (5, .int v5), (6, .int v6)]) (st' := [.int v4, .int v2]) rfl ?_
      refine x_lt e rfl (fun e => ?_) (fun e => ?_)
      · refine wp_p (j := J_Y_isIn) 1 (pc' := 33) (lv' := [(0, .ref v0), (1, .int v1), (2, .int v2), (3, .int v3), (4, .int v4), (5, .int v5), (6, .int v6)]) (st' := [.int 0]) rfl ?_
        have e := Option.some.inj e; subst e; exact wp_iret (ty := .boolean) rfl rfl (by decide) c
      · refine wp_p (j := J_Y_isIn) 4 (pc' := 25) (lv' := [(0, .ref v0), (1, .int v1), (2, .int v2), (3, .int v3), (4, .int v4), (5, .int v5), (6, .int v6)]) (st' := [.int (v4 + v6), .int v2]) rfl ?_
        refine x_ge e rfl (fun e => ?_) (fun e => ?_)
        · refine wp_p (j := J_Y_isIn) 2 (pc' := 33) (lv' := [(0, .ref v0), (1, .int v1), (2, .int v2), (3, .int v3), (4, .int v4), (5, .int v5), (6, .int v6)]) (st' := [.int 1]) rfl ?_
          have e := Option.some.inj e; subst e; exact wp_iret (ty := .boolean) rfl rfl (by decide) c
        · refine wp_p (j := J_Y_isIn) 1 (pc' := 33) (lv' := [(0, .ref v0), (1, .int v1), (2, .int v2), (3, .int v3), (4, .int v4), (5, .int v5), (6, .int v6)]) (st' := [.int 0]) rfl ?_
          have e := Option.some.inj e; subst e; exact wp_iret (ty := .boolean) rfl rfl (by decide) c
    · refine wp_p (j := J_Y_isIn) 1 (pc' := 33) (lv' := [(0, .ref v0), (1, .int v1), (2, .int v2), (3, .int v3), (4, .int v4), (5, .int v5), (6, .int v6)]) (st' := [.int 0]) rfl ?_
      have e := Option.some.inj e; subst e; exact wp_iret (ty := .boolean) rfl rfl (by decide) c
noncomputable def M_Y_isOn (v0 : Int32) (v1 : Int32) (v2 : Int32) (g : g_S) : Option Int32 :=
  (rm ((5 * v1) + v2) 13).bind fun z1 =>
  if ((((v0 * 40503) >>> (3 &&& 31)) >>> (z1 &&& 31)) &&& 1) = 1 then
    some 1
  else
    some 0
set_option maxRecDepth 20000 in
theorem d_Y_isOn {L : Nat} {xs : Nat → Int32} {Q : Option Value → ab_H → Prop} {v0 : Int32} {v1 : Int32} {v2 : Int32} {g : g_S} {out : Int32} (e : M_Y_isOn v0 v1 v2 g = some out) (c : Q (some (.int out)) (hp g)) : mw (ab_ext L xs) J_Y_isOn [.int v0, .int v1, .int v2] (hp g) Q := by
  unfold M_Y_isOn at e
  refine wp_p (j := J_Y_isOn) 1 (pc' := 1) (lv' := [(0, .int v0), (1, .int v1), (2, .int v2)]) (st' := [.int v0]) rfl ?_
  refine x_ldw (x := 40503) rfl rfl rfl ?_
  refine wp_p (j := J_Y_isOn) 9 (pc' := 14) (lv' := [(0, .int v0), (1, .int v1), (2, .int v2)]) (st' := [.int 13, .int ((5 * v1) + v2), .int ((v0 * 40503) >>> (3 &&& 31))]) rfl ?_
  refine x_rm e rfl (fun z1 e => ?_)
  refine wp_p (j := J_Y_isOn) 4 (pc' := 19) (lv' := [(0, .int v0), (1, .int v1), (2, .int v2)]) (st' := [.int 1, .int ((((v0 * 40503) >>> (3 &&& 31)) >>> (z1 &&& 31)) &&& 1)]) rfl ?_
  refine x_ne e rfl (fun e => ?_) (fun e => ?_)
  · refine wp_p (j := J_Y_isOn) 2 (pc' := 27) (lv' := [(0, .int v0), (1, .int v1), (2, .int v2)]) (st' := [.int 1]) rfl ?_
    have e := Option.some.inj e; subst e; exact wp_iret (ty := .boolean) rfl rfl (by decide) c
  · refine wp_p (j := J_Y_isOn) 1 (pc' := 27) (lv' := [(0, .int v0), (1, .int v1), (2, .int v2)]) (st' := [.int 0]) rfl ?_
    have e := Option.some.inj e; subst e; exact wp_iret (ty := .boolean) rfl rfl (by decide) c
noncomputable def M_Y_inks (v0 : Int32) (v1 : Int32) (v2 : Int32) (v3 : Int32) (v4 : Int32) (v5 : Int32) (g : g_S) : Option Int32 :=
  if v4 < v2 then
    some 0
  else
    if v5 < (v3 + v1) then
      some 0
    else
      (dv (v4 - v2) v1).bind fun z1 =>
      (dv ((v5 - v3) - v1) v1).bind fun z2 =>
      (M_Y_glyph v0 g).bind fun z3 =>
      if (z3 - 2) < z1 then
        some 0
      else
        if 4 < z2 then
          some 0
        else
          (M_Y_isOn v0 z1 z2 g).bind fun z4 =>
          if z4 = 0 then
            some 0
          else
            some 1
set_option maxRecDepth 20000 in
theorem d_Y_inks {L : Nat} {xs : Nat → Int32} {Q : Option Value → ab_H → Prop} {v0 : Int32} {v1 : Int32} {v2 : Int32} {v3 : Int32} {v4 : Int32} {v5 : Int32} {g : g_S} {out : Int32} (e : M_Y_inks v0 v1 v2 v3 v4 v5 g = some out) (c : Q (some (.int out)) (hp g)) : mw (ab_ext L xs) J_Y_inks [.int v0, .int v1, .int v2, .int v3, .int v4, .int v5] (hp g) Q := by
  unfold M_Y_inks at e
  refine wp_p (j := J_Y_inks) 2 (pc' := 3) (lv' := [(0, .int v0), (1, .int v1), (2, .int v2), (3, .int v3), (4, .int v4), (5, .int v5)]) (st' := [.int v2, .int v4]) rfl ?_
  refine x_lt e rfl (fun e => ?_) (fun e => ?_)
  · refine wp_p (j := J_Y_inks) 1 (pc' := 15) (lv' := [(0, .int v0), (1, .int v1), (2, .int v2), (3, .int v3), (4, .int v4), (5, .int v5)]) (st' := [.int 0]) rfl ?_
    have e := Option.some.inj e; subst e; exact wp_iret (ty := .boolean) rfl rfl (by decide) c
  · refine wp_p (j := J_Y_inks) 4 (pc' := 11) (lv' := [(0, .int v0), (1, .int v1), (2, .int v2), (3, .int v3), (4, .int v4), (5, .int v5)]) (st' := [.int (v3 + v1), .int v5]) rfl ?_
    refine x_ge e rfl (fun e => ?_) (fun e => ?_)
    · refine wp_p (j := J_Y_inks) 1 (pc' := 15) (lv' := [(0, .int v0), (1, .int v1), (2, .int v2), (3, .int v3), (4, .int v4), (5, .int v5)]) (st' := [.int 0]) rfl ?_
      have e := Option.some.inj e; subst e; exact wp_iret (ty := .boolean) rfl rfl (by decide) c
    · refine wp_p (j := J_Y_inks) 4 (pc' := 21) (lv' := [(0, .int v0), (1, .int v1), (2, .int v2), (3, .int v3), (4, .int v4), (5, .int v5)]) (st' := [.int v1, .int (v4 - v2)]) rfl ?_
      refine x_dv e rfl (fun z1 e => ?_)
      refine wp_p (j := J_Y_inks) 7 (pc' := 31) (lv' := [(6, .int z1), (0, .int v0), (1, .int v1), (2, .int v2), (3, .int v3), (4, .int v4), (5, .int v5)]) (st' := [.int v1, .int ((v5 - v3) - v1)]) rfl ?_
      refine x_dv e rfl (fun z2 e => ?_)
      refine wp_p (j := J_Y_inks) 3 (pc' := 37) (lv' := [(7, .int z2), (6, .int z1), (0, .int v0), (1, .int v1), (2, .int v2), (3, .int v3), (4, .int v4), (5, .int v5)]) (st' := [.int v0, .int z1]) rfl ?_
      refine x_cs1 (As := [.int v0]) (rest := [.int z1]) Value.int e rfl rfl rfl rfl rfl (fun h => d_Y_glyph h ⟨rfl, rfl⟩) (fun z3 e => ?_)
      refine wp_p (j := J_Y_inks) 2 (pc' := 42) (lv' := [(7, .int z2), (6, .int z1), (0, .int v0), (1, .int v1), (2, .int v2), (3, .int v3), (4, .int v4), (5, .int v5)]) (st' := [.int (z3 - 2), .int z1]) rfl ?_
      refine x_gt e rfl (fun e => ?_) (fun e => ?_)
      · refine wp_p (j := J_Y_inks) 1 (pc' := 67) (lv' := [(7, .int z2), (6, .int z1), (0, .int v0), (1, .int v1), (2, .int v2), (3, .int v3), (4, .int v4), (5, .int v5)]) (st' := [.int 0]) rfl ?_
        have e := Option.some.inj e; subst e; exact wp_iret (ty := .boolean) rfl rfl (by decide) c
      · refine wp_p (j := J_Y_inks) 2 (pc' := 48) (lv' := [(7, .int z2), (6, .int z1), (0, .int v0), (1, .int v1), (2, .int v2), (3, .int v3), (4, .int v4), (5, .int v5)]) (st' := [.int 4, .int z2]) rfl ?_
        refine x_gt e rfl (fun e => ?_) (fun e => ?_)
        · refine wp_p (j := J_Y_inks) 1 (pc' := 67) (lv' := [(7, .int z2), (6, .int z1), (0, .int v0), (1, .int v1), (2, .int v2), (3, .int v3), (4, .int v4), (5, .int v5)]) (st' := [.int 0]) rfl ?_
          have e := Option.some.inj e; subst e; exact wp_iret (ty := .boolean) rfl rfl (by decide) c
        · refine wp_p (j := J_Y_inks) 3 (pc' := 56) (lv' := [(7, .int z2), (6, .int z1), (0, .int v0), (1, .int v1), (2, .int v2), (3, .int v3), (4, .int v4), (5, .int v5)]) (st' := [.int z2, .int z1, .int v0]) rfl ?_
          refine x_cs1 (As := [.int v0, .int z1, .int z2]) (rest := []) Value.int e rfl rfl rfl rfl rfl (fun h => d_Y_isOn h ⟨rfl, rfl⟩) (fun z4 e => ?_)
          refine z_eq e rfl (fun e => ?_) (fun e => ?_)
          · refine wp_p (j := J_Y_inks) 1 (pc' := 67) (lv' := [(7, .int z2), (6, .int z1), (0, .int v0), (1, .int v1), (2, .int v2), (3, .int v3), (4, .int v4), (5, .int v5)]) (st' := [.int 0]) rfl ?_
            have e := Option.some.inj e; subst e; exact wp_iret (ty := .boolean) rfl rfl (by decide) c
          · refine wp_p (j := J_Y_inks) 2 (pc' := 67) (lv' := [(7, .int z2), (6, .int z1), (0, .int v0), (1, .int v1), (2, .int v2), (3, .int v3), (4, .int v4), (5, .int v5)]) (st' := [.int 1]) rfl ?_
            have e := Option.some.inj e; subst e; exact wp_iret (ty := .boolean) rfl rfl (by decide) c
noncomputable def M_Y_letter (v0 : Nat) (v1 : Int32) (v2 : Int32) (v3 : Int32) (v4 : Int32) (v5 : Int32) (v6 : Int32) (v7 : Int32) (g : g_S) : Option g_S :=
  (M_Y_inks v1 v2 v3 v4 v5 v6 g).bind fun z1 =>
  if z1 = 0 then
    some g
  else
    (vc g 112 v0 (M_Y_of v0 v7 1 g)).bind fun z2 =>
    (wI g 112 v0 146 z2).bind fun g3 =>
    some g3
set_option maxRecDepth 20000 in
theorem d_Y_letter {L : Nat} {xs : Nat → Int32} {Q : Option Value → ab_H → Prop} {v0 : Nat} {v1 : Int32} {v2 : Int32} {v3 : Int32} {v4 : Int32} {v5 : Int32} {v6 : Int32} {v7 : Int32} {g : g_S} {out : g_S} (e : M_Y_letter v0 v1 v2 v3 v4 v5 v6 v7 g = some out) (c : Q none (hp out)) : mw (ab_ext L xs) J_Y_letter [.ref v0, .int v1, .int v2, .int v3, .int v4, .int v5, .int v6, .int v7] (hp g) Q := by
  unfold M_Y_letter at e
  refine wp_p (j := J_Y_letter) 6 (pc' := 9) (lv' := [(0, .ref v0), (1, .int v1), (2, .int v2), (3, .int v3), (4, .int v4), (5, .int v5), (6, .int v6), (7, .int v7)]) (st' := [.int v6, .int v5, .int v4, .int v3, .int v2, .int v1]) rfl ?_
  refine x_cs1 (As := [.int v1, .int v2, .int v3, .int v4, .int v5, .int v6]) (rest := []) Value.int e rfl rfl rfl rfl rfl (fun h => d_Y_inks h ⟨rfl, rfl⟩) (fun z1 e => ?_)
  refine z_eq e rfl (fun e => ?_) (fun e => ?_)
  · have e := Option.some.inj e; subst e; exact wp_vret rfl rfl c
  · refine wp_p (j := J_Y_letter) 4 (pc' := 20) (lv' := [(0, .ref v0), (1, .int v1), (2, .int v2), (3, .int v3), (4, .int v4), (5, .int v5), (6, .int v6), (7, .int v7)]) (st' := [.int 1, .int v7, .ref v0, .ref v0]) rfl ?_
    refine x_cv1 (As := [.int v7, .int 1]) (rest := [.ref v0]) Value.int e rfl rfl rfl rfl rfl rfl (fun h => d_Y_of h ⟨rfl, rfl⟩) (fun z2 e => ?_)
    refine x_pI e rfl rfl fw_12_146 rfl (fun g3 e => ?_)
    have e := Option.some.inj e; subst e; exact wp_vret rfl rfl c
def cL_Y_paintWord_64 (L : Nat) (xs : Nat → Int32) (Q : Option Value → ab_H → Prop) (v0 : Nat) (v1 : Int32) (v2 : Int32) (v3 : Int32) (v4 : Int32) (v5 : Int32) (out : (Int32 × Int32 × g_S) ⊕ (g_S)) : Prop := match out with
  | .inl s => wp (ab_ext L xs) J_Y_paintWord 64 [(0, .ref v0), (1, .int v1), (2, .int v2), (3, .int v3), (4, .int v4), (5, .int v5), (6, .int s.1), (7, .int s.2.1)] [] (hp s.2.2) Q
  | .inr s => wp (ab_ext L xs) J_Y_paintWord 141 [] [] (hp s) Q
noncomputable def b_Y_paintWord_64 (v0 : Nat) (v1 : Int32) (v2 : Int32) (v3 : Int32) (v4 : Int32) (v5 : Int32) (v6 : Int32) (v7 : Int32) (g : g_S) : Option ((Int32 × Int32 × g_S) ⊕ (g_S)) :=
  (rQ g 112 v0 120).bind fun z1 =>
  (aI g 0 z1 v2).bind fun z2 =>
  if v7 < z2 then
    (rQ g 112 v0 61).bind fun z3 =>
    (rQ g 112 v0 119).bind fun z4 =>
    (aI g 0 z4 v2).bind fun z5 =>
    (aI g 1 z3 (((400 * v1) + z5) + v7)).bind fun z6 =>
    (rQ g 112 v0 122).bind fun z7 =>
    (aI g 0 z7 v2).bind fun z8 =>
    (rQ g 112 v0 49).bind fun z9 =>
    (aI g 0 z9 v1).bind fun z10 =>
    (vc g 112 v0 (M_Y_letter v0 z6 v5 v6 z8 v3 v4 z10 g)).bind fun g11 =>
    (M_Y_glyph z6 g11).bind fun z12 =>
    some (.inl (v6 + (z12 * v5), v7 + 1, g11))
  else
    some (.inr g)
set_option maxRecDepth 20000 in
theorem y_Y_paintWord_64 {L : Nat} {xs : Nat → Int32} {Q : Option Value → ab_H → Prop} {v0 : Nat} {v1 : Int32} {v2 : Int32} {v3 : Int32} {v4 : Int32} {v5 : Int32} {v6 : Int32} {v7 : Int32} {g : g_S} {out : (Int32 × Int32 × g_S) ⊕ (g_S)} (e : b_Y_paintWord_64 v0 v1 v2 v3 v4 v5 v6 v7 g = some out) (c : cL_Y_paintWord_64 L xs Q v0 v1 v2 v3 v4 v5 out) : wp (ab_ext L xs) J_Y_paintWord 64 [(0, .ref v0), (1, .int v1), (2, .int v2), (3, .int v3), (4, .int v4), (5, .int v5), (6, .int v6), (7, .int v7)] [] (hp g) Q := by
  unfold b_Y_paintWord_64 at e
  refine wp_p (j := J_Y_paintWord) 2 (pc' := 67) (lv' := [(0, .ref v0), (1, .int v1), (2, .int v2), (3, .int v3), (4, .int v4), (5, .int v5), (6, .int v6), (7, .int v7)]) (st' := [.ref v0, .int v7]) rfl ?_
  refine x_gQ e rfl rfl fd_12_120 rfl (fun z1 e => ?_)
  refine wp_p (j := J_Y_paintWord) 1 (pc' := 71) (lv' := [(0, .ref v0), (1, .int v1), (2, .int v2), (3, .int v3), (4, .int v4), (5, .int v5), (6, .int v6), (7, .int v7)]) (st' := [.int v2, .ref z1, .int v7]) rfl ?_
  refine x_aI e rfl rfl (fun z2 e => ?_)
  refine x_ge e rfl (fun e => ?_) (fun e => ?_)
  · refine wp_p (j := J_Y_paintWord) 1 (pc' := 76) (lv' := [(0, .ref v0), (1, .int v1), (2, .int v2), (3, .int v3), (4, .int v4), (5, .int v5), (6, .int v6), (7, .int v7)]) (st' := [.ref v0]) rfl ?_
    refine x_gQ e rfl rfl fd_12_61 rfl (fun z3 e => ?_)
    refine wp_p (j := J_Y_paintWord) 4 (pc' := 85) (lv' := [(0, .ref v0), (1, .int v1), (2, .int v2), (3, .int v3), (4, .int v4), (5, .int v5), (6, .int v6), (7, .int v7)]) (st' := [.ref v0, .int (400 * v1), .ref z3]) rfl ?_
    refine x_gQ e rfl rfl fd_12_119 rfl (fun z4 e => ?_)
    refine wp_p (j := J_Y_paintWord) 1 (pc' := 89) (lv' := [(0, .ref v0), (1, .int v1), (2, .int v2), (3, .int v3), (4, .int v4), (5, .int v5), (6, .int v6), (7, .int v7)]) (st' := [.int v2, .ref z4, .int (400 * v1), .ref z3]) rfl ?_
    refine x_aI e rfl rfl (fun z5 e => ?_)
    refine wp_p (j := J_Y_paintWord) 3 (pc' := 94) (lv' := [(0, .ref v0), (1, .int v1), (2, .int v2), (3, .int v3), (4, .int v4), (5, .int v5), (6, .int v6), (7, .int v7)]) (st' := [.int (((400 * v1) + z5) + v7), .ref z3]) rfl ?_
    refine x_aB e rfl (.inl rfl) rfl (fun z6 e => ?_)
    refine wp_p (j := J_Y_paintWord) 6 (pc' := 105) (lv' := [(8, .int z6), (0, .ref v0), (1, .int v1), (2, .int v2), (3, .int v3), (4, .int v4), (5, .int v5), (6, .int v6), (7, .int v7)]) (st' := [.ref v0, .int v6, .int v5, .int z6, .ref v0]) rfl ?_
    refine x_gQ e rfl rfl fd_12_122 rfl (fun z7 e => ?_)
    refine wp_p (j := J_Y_paintWord) 1 (pc' := 109) (lv' := [(8, .int z6), (0, .ref v0), (1, .int v1), (2, .int v2), (3, .int v3), (4, .int v4), (5, .int v5), (6, .int v6), (7, .int v7)]) (st' := [.int v2, .ref z7, .int v6, .int v5, .int z6, .ref v0]) rfl ?_
    refine x_aI e rfl rfl (fun z8 e => ?_)
    refine wp_p (j := J_Y_paintWord) 3 (pc' := 114) (lv' := [(8, .int z6), (0, .ref v0), (1, .int v1), (2, .int v2), (3, .int v3), (4, .int v4), (5, .int v5), (6, .int v6), (7, .int v7)]) (st' := [.ref v0, .int v4, .int v3, .int z8, .int v6, .int v5, .int z6, .ref v0]) rfl ?_
    refine x_gQ e rfl rfl fd_12_49 rfl (fun z9 e => ?_)
    refine wp_p (j := J_Y_paintWord) 1 (pc' := 118) (lv' := [(8, .int z6), (0, .ref v0), (1, .int v1), (2, .int v2), (3, .int v3), (4, .int v4), (5, .int v5), (6, .int v6), (7, .int v7)]) (st' := [.int v1, .ref z9, .int v4, .int v3, .int z8, .int v6, .int v5, .int z6, .ref v0]) rfl ?_
    refine x_aI e rfl rfl (fun z10 e => ?_)
    refine x_cv0 (As := [.int z6, .int v5, .int v6, .int z8, .int v3, .int v4, .int z10]) (rest := []) e rfl rfl rfl rfl rfl rfl (fun h => d_Y_letter h ⟨rfl, rfl⟩) (fun g11 e => ?_)
    refine wp_p (j := J_Y_paintWord) 2 (pc' := 126) (lv' := [(8, .int z6), (0, .ref v0), (1, .int v1), (2, .int v2), (3, .int v3), (4, .int v4), (5, .int v5), (6, .int v6), (7, .int v7)]) (st' := [.int z6, .int v6]) rfl ?_
    refine x_cs1 (As := [.int z6]) (rest := [.int v6]) Value.int e rfl rfl rfl rfl rfl (fun h => d_Y_glyph h ⟨rfl, rfl⟩) (fun z12 e => ?_)
    refine wp_p (j := J_Y_paintWord) 6 (pc' := 64) (lv' := [(7, .int (v7 + 1)), (6, .int (v6 + (z12 * v5))), (8, .int z6), (0, .ref v0), (1, .int v1), (2, .int v2), (3, .int v3), (4, .int v4), (5, .int v5)]) (st' := []) rfl ?_
    have e := Option.some.inj e; subst e; exact wp_lv (lv' := [(0, .ref v0), (1, .int v1), (2, .int v2), (3, .int v3), (4, .int v4), (5, .int v5), (6, .int (v6 + (z12 * v5))), (7, .int (v7 + 1))]) rfl ⟨rfl, rfl, rfl, rfl, rfl, rfl, rfl, rfl, trivial⟩ c
  · have e := Option.some.inj e; subst e; exact wp_lv (lv' := []) rfl trivial c
noncomputable def L_Y_paintWord_64 (v0 : Nat) (v1 : Int32) (v2 : Int32) (v3 : Int32) (v4 : Int32) (v5 : Int32) (v6 : Int32) (v7 : Int32) (g : g_S) : Option (g_S) := it (fun s : Int32 × Int32 × g_S => b_Y_paintWord_64 v0 v1 v2 v3 v4 v5 s.1 s.2.1 s.2.2) (v6, v7, g)
theorem l_Y_paintWord_64 {L : Nat} {xs : Nat → Int32} {Q : Option Value → ab_H → Prop} {v0 : Nat} {v1 : Int32} {v2 : Int32} {v3 : Int32} {v4 : Int32} {v5 : Int32} {v6 : Int32} {v7 : Int32} {g : g_S} {r : g_S} (e : L_Y_paintWord_64 v0 v1 v2 v3 v4 v5 v6 v7 g = some r) (c : cL_Y_paintWord_64 L xs Q v0 v1 v2 v3 v4 v5 (.inr r)) : wp (ab_ext L xs) J_Y_paintWord 64 [(0, .ref v0), (1, .int v1), (2, .int v2), (3, .int v3), (4, .int v4), (5, .int v5), (6, .int v6), (7, .int v7)] [] (hp g) Q :=
  it_wp (P := fun s : Int32 × Int32 × g_S => wp (ab_ext L xs) J_Y_paintWord 64 [(0, .ref v0), (1, .int v1), (2, .int v2), (3, .int v3), (4, .int v4), (5, .int v5), (6, .int s.1), (7, .int s.2.1)] [] (hp s.2.2) Q) (E := fun r => cL_Y_paintWord_64 L xs Q v0 v1 v2 v3 v4 v5 (.inr r)) (fun s out e c => y_Y_paintWord_64 e (by cases out <;> exact c)) e c
theorem L_Y_paintWord_64_eq (v0 : Nat) (v1 : Int32) (v2 : Int32) (v3 : Int32) (v4 : Int32) (v5 : Int32) (v6 : Int32) (v7 : Int32) (g : g_S) : L_Y_paintWord_64 v0 v1 v2 v3 v4 v5 v6 v7 g = itc (b_Y_paintWord_64 v0 v1 v2 v3 v4 v5 v6 v7 g) (fun s => L_Y_paintWord_64 v0 v1 v2 v3 v4 v5 s.1 s.2.1 s.2.2) := it_eq2 (fun s : Int32 × Int32 × g_S => b_Y_paintWord_64 v0 v1 v2 v3 v4 v5 s.1 s.2.1 s.2.2) (v6, v7, g)
noncomputable def M_Y_paintWord (v0 : Nat) (v1 : Int32) (v2 : Int32) (v3 : Int32) (v4 : Int32) (g : g_S) : Option g_S :=
  (rQ g 112 v0 49).bind fun z1 =>
  (aI g 0 z1 v1).bind fun z2 =>
  (vc g 112 v0 (M_Y_of v0 z2 8 g)).bind fun z3 =>
  (rQ g 112 v0 121).bind fun z4 =>
  (aI g 0 z4 v2).bind fun z5 =>
  (rQ g 112 v0 122).bind fun z6 =>
  (aI g 0 z6 v2).bind fun z7 =>
  (rQ g 112 v0 123).bind fun z8 =>
  (aI g 0 z8 v2).bind fun z9 =>
  (vc g 112 v0 (M_Y_isIn v0 v3 v4 z5 z7 z9 (7 * z3) g)).bind fun z10 =>
  if z10 = 0 then
    some g
  else
    (wI g 112 v0 147 v1).bind fun g11 =>
    (rQ g11 112 v0 121).bind fun z12 =>
    (aI g11 0 z12 v2).bind fun z13 =>
    (L_Y_paintWord_64 v0 v1 v2 v3 v4 z3 z13 0 g11).bind <| fun g16 =>
    some g16
set_option maxRecDepth 20000 in
theorem d_Y_paintWord {L : Nat} {xs : Nat → Int32} {Q : Option Value → ab_H → Prop} {v0 : Nat} {v1 : Int32} {v2 : Int32} {v3 : Int32} {v4 : Int32} {g : g_S} {out : g_S} (e : M_Y_paintWord v0 v1 v2 v3 v4 g = some out) (c : Q none (hp out)) : mw (ab_ext L xs) J_Y_paintWord [.ref v0, .int v1, .int v2, .int v3, .int v4] (hp g) Q := by
  unfold M_Y_paintWord at e
  refine wp_p (j := J_Y_paintWord) 2 (pc' := 2) (lv' := [(0, .ref v0), (1, .int v1), (2, .int v2), (3, .int v3), (4, .int v4)]) (st' := [.ref v0, .ref v0]) rfl ?_
  refine x_gQ e rfl rfl fd_12_49 rfl (fun z1 e => ?_)
  refine wp_p (j := J_Y_paintWord) 1 (pc' := 6) (lv' := [(0, .ref v0), (1, .int v1), (2, .int v2), (3, .int v3), (4, .int v4)]) (st' := [.int v1, .ref z1, .ref v0]) rfl ?_
  refine x_aI e rfl rfl (fun z2 e => ?_)
  refine wp_p (j := J_Y_paintWord) 1 (pc' := 9) (lv' := [(0, .ref v0), (1, .int v1), (2, .int v2), (3, .int v3), (4, .int v4)]) (st' := [.int 8, .int z2, .ref v0]) rfl ?_
  refine x_cv1 (As := [.int z2, .int 8]) (rest := []) Value.int e rfl rfl rfl rfl rfl rfl (fun h => d_Y_of h ⟨rfl, rfl⟩) (fun z3 e => ?_)
  refine wp_p (j := J_Y_paintWord) 5 (pc' := 19) (lv' := [(5, .int z3), (0, .ref v0), (1, .int v1), (2, .int v2), (3, .int v3), (4, .int v4)]) (st' := [.ref v0, .int v4, .int v3, .ref v0]) rfl ?_
  refine x_gQ e rfl rfl fd_12_121 rfl (fun z4 e => ?_)
  refine wp_p (j := J_Y_paintWord) 1 (pc' := 23) (lv' := [(5, .int z3), (0, .ref v0), (1, .int v1), (2, .int v2), (3, .int v3), (4, .int v4)]) (st' := [.int v2, .ref z4, .int v4, .int v3, .ref v0]) rfl ?_
  refine x_aI e rfl rfl (fun z5 e => ?_)
  refine wp_p (j := J_Y_paintWord) 1 (pc' := 25) (lv' := [(5, .int z3), (0, .ref v0), (1, .int v1), (2, .int v2), (3, .int v3), (4, .int v4)]) (st' := [.ref v0, .int z5, .int v4, .int v3, .ref v0]) rfl ?_
  refine x_gQ e rfl rfl fd_12_122 rfl (fun z6 e => ?_)
  refine wp_p (j := J_Y_paintWord) 1 (pc' := 29) (lv' := [(5, .int z3), (0, .ref v0), (1, .int v1), (2, .int v2), (3, .int v3), (4, .int v4)]) (st' := [.int v2, .ref z6, .int z5, .int v4, .int v3, .ref v0]) rfl ?_
  refine x_aI e rfl rfl (fun z7 e => ?_)
  refine wp_p (j := J_Y_paintWord) 1 (pc' := 31) (lv' := [(5, .int z3), (0, .ref v0), (1, .int v1), (2, .int v2), (3, .int v3), (4, .int v4)]) (st' := [.ref v0, .int z7, .int z5, .int v4, .int v3, .ref v0]) rfl ?_
  refine x_gQ e rfl rfl fd_12_123 rfl (fun z8 e => ?_)
  refine wp_p (j := J_Y_paintWord) 1 (pc' := 35) (lv' := [(5, .int z3), (0, .ref v0), (1, .int v1), (2, .int v2), (3, .int v3), (4, .int v4)]) (st' := [.int v2, .ref z8, .int z7, .int z5, .int v4, .int v3, .ref v0]) rfl ?_
  refine x_aI e rfl rfl (fun z9 e => ?_)
  refine wp_p (j := J_Y_paintWord) 3 (pc' := 41) (lv' := [(5, .int z3), (0, .ref v0), (1, .int v1), (2, .int v2), (3, .int v3), (4, .int v4)]) (st' := [.int (7 * z3), .int z9, .int z7, .int z5, .int v4, .int v3, .ref v0]) rfl ?_
  refine x_cv1 (As := [.int v3, .int v4, .int z5, .int z7, .int z9, .int (7 * z3)]) (rest := []) Value.int e rfl rfl rfl rfl rfl rfl (fun h => d_Y_isIn h ⟨rfl, rfl⟩) (fun z10 e => ?_)
  refine z_ne e rfl (fun e => ?_) (fun e => ?_)
  · have e := Option.some.inj e; subst e; exact wp_vret rfl rfl c
  · refine wp_p (j := J_Y_paintWord) 2 (pc' := 50) (lv' := [(5, .int z3), (0, .ref v0), (1, .int v1), (2, .int v2), (3, .int v3), (4, .int v4)]) (st' := [.int v1, .ref v0]) rfl ?_
    refine x_pI e rfl rfl fw_12_147 rfl (fun g11 e => ?_)
    refine wp_p (j := J_Y_paintWord) 1 (pc' := 54) (lv' := [(5, .int z3), (0, .ref v0), (1, .int v1), (2, .int v2), (3, .int v3), (4, .int v4)]) (st' := [.ref v0]) rfl ?_
    refine x_gQ e rfl rfl fd_12_121 rfl (fun z12 e => ?_)
    refine wp_p (j := J_Y_paintWord) 1 (pc' := 58) (lv' := [(5, .int z3), (0, .ref v0), (1, .int v1), (2, .int v2), (3, .int v3), (4, .int v4)]) (st' := [.int v2, .ref z12]) rfl ?_
    refine x_aI e rfl rfl (fun z13 e => ?_)
    refine wp_p (j := J_Y_paintWord) 3 (pc' := 64) (lv' := [(7, .int 0), (6, .int z13), (5, .int z3), (0, .ref v0), (1, .int v1), (2, .int v2), (3, .int v3), (4, .int v4)]) (st' := []) rfl ?_
    obtain ⟨g16, h15, e⟩ := bd e
    refine wp_lv (lv' := [(0, .ref v0), (1, .int v1), (2, .int v2), (3, .int v3), (4, .int v4), (5, .int z3), (6, .int z13), (7, .int 0)]) rfl ⟨rfl, rfl, rfl, rfl, rfl, rfl, rfl, rfl, trivial⟩ ?_
    refine l_Y_paintWord_64 h15 ?_
    show wp (ab_ext L xs) J_Y_paintWord 141 [] [] (hp g16) Q
    have e := Option.some.inj e; subst e; exact wp_vret rfl rfl c
noncomputable def k_Y_paintBox_94 (v0 : Nat) (v1 : Int32) (g : g_S) : Option g_S :=
  (vc g 112 v0 (M_Y_of v0 v1 1 g)).bind fun z1 =>
  (wI g 112 v0 146 z1).bind fun g2 =>
  some g2
set_option maxRecDepth 20000 in
theorem x_Y_paintBox_94 {L : Nat} {xs : Nat → Int32} {Q : Option Value → ab_H → Prop} {v0 : Nat} {v1 : Int32} {g : g_S} {out : g_S} (e : k_Y_paintBox_94 v0 v1 g = some out) (c : Q none (hp out)) : wp (ab_ext L xs) J_Y_paintBox 94 [(0, .ref v0), (1, .int v1)] [] (hp g) Q := by
  unfold k_Y_paintBox_94 at e
  refine wp_p (j := J_Y_paintBox) 4 (pc' := 98) (lv' := [(0, .ref v0), (1, .int v1)]) (st' := [.int 1, .int v1, .ref v0, .ref v0]) rfl ?_
  refine x_cv1 (As := [.int v1, .int 1]) (rest := [.ref v0]) Value.int e rfl rfl rfl rfl rfl rfl (fun h => d_Y_of h ⟨rfl, rfl⟩) (fun z1 e => ?_)
  refine x_pI e rfl rfl fw_12_146 rfl (fun g2 e => ?_)
  have e := Option.some.inj e; subst e; exact wp_vret rfl rfl c
noncomputable def k_Y_paintBox_28 (v0 : Nat) (v1 : Int32) (v2 : Int32) (v3 : Int32) (v4 : Int32) (g : g_S) : Option g_S :=
  (rQ g 112 v0 110).bind fun z1 =>
  (aI g 0 z1 v1).bind fun z2 =>
  if v2 < (z2 + v4) then
    k_Y_paintBox_94 v0 v1 g
  else
    (rQ g 112 v0 110).bind fun z3 =>
    (aI g 0 z3 v1).bind fun z4 =>
    (rQ g 112 v0 112).bind fun z5 =>
    (aI g 0 z5 v1).bind fun z6 =>
    if v2 < ((z4 + z6) - v4) then
      (rQ g 112 v0 111).bind fun z7 =>
      (aI g 0 z7 v1).bind fun z8 =>
      if v3 < (z8 + v4) then
        k_Y_paintBox_94 v0 v1 g
      else
        (rQ g 112 v0 111).bind fun z9 =>
        (aI g 0 z9 v1).bind fun z10 =>
        (rQ g 112 v0 113).bind fun z11 =>
        (aI g 0 z11 v1).bind fun z12 =>
        if v3 < ((z10 + z12) - v4) then
          some g
        else
          k_Y_paintBox_94 v0 v1 g
    else
      k_Y_paintBox_94 v0 v1 g
set_option maxRecDepth 20000 in
theorem x_Y_paintBox_28 {L : Nat} {xs : Nat → Int32} {Q : Option Value → ab_H → Prop} {v0 : Nat} {v1 : Int32} {v2 : Int32} {v3 : Int32} {v4 : Int32} {g : g_S} {out : g_S} (e : k_Y_paintBox_28 v0 v1 v2 v3 v4 g = some out) (c : Q none (hp out)) : wp (ab_ext L xs) J_Y_paintBox 28 [(0, .ref v0), (1, .int v1), (2, .int v2), (3, .int v3), (4, .int v4)] [] (hp g) Q := by
  unfold k_Y_paintBox_28 at e
  refine wp_p (j := J_Y_paintBox) 2 (pc' := 30) (lv' := [(0, .ref v0), (1, .int v1), (2, .int v2), (3, .int v3), (4, .int v4)]) (st' := [.ref v0, .int v2]) rfl ?_
  refine x_gQ e rfl rfl fd_12_110 rfl (fun z1 e => ?_)
  refine wp_p (j := J_Y_paintBox) 1 (pc' := 34) (lv' := [(0, .ref v0), (1, .int v1), (2, .int v2), (3, .int v3), (4, .int v4)]) (st' := [.int v1, .ref z1, .int v2]) rfl ?_
  refine x_aI e rfl rfl (fun z2 e => ?_)
  refine wp_p (j := J_Y_paintBox) 2 (pc' := 38) (lv' := [(0, .ref v0), (1, .int v1), (2, .int v2), (3, .int v3), (4, .int v4)]) (st' := [.int (z2 + v4), .int v2]) rfl ?_
  refine x_lt e rfl (fun e => ?_) (fun e => ?_)
  · exact wp_lv (lv' := [(0, .ref v0), (1, .int v1)]) rfl ⟨rfl, rfl, trivial⟩ (x_Y_paintBox_94 e c)
  · refine wp_p (j := J_Y_paintBox) 2 (pc' := 43) (lv' := [(0, .ref v0), (1, .int v1), (2, .int v2), (3, .int v3), (4, .int v4)]) (st' := [.ref v0, .int v2]) rfl ?_
    refine x_gQ e rfl rfl fd_12_110 rfl (fun z3 e => ?_)
    refine wp_p (j := J_Y_paintBox) 1 (pc' := 47) (lv' := [(0, .ref v0), (1, .int v1), (2, .int v2), (3, .int v3), (4, .int v4)]) (st' := [.int v1, .ref z3, .int v2]) rfl ?_
    refine x_aI e rfl rfl (fun z4 e => ?_)
    refine wp_p (j := J_Y_paintBox) 1 (pc' := 49) (lv' := [(0, .ref v0), (1, .int v1), (2, .int v2), (3, .int v3), (4, .int v4)]) (st' := [.ref v0, .int z4, .int v2]) rfl ?_
    refine x_gQ e rfl rfl fd_12_112 rfl (fun z5 e => ?_)
    refine wp_p (j := J_Y_paintBox) 1 (pc' := 53) (lv' := [(0, .ref v0), (1, .int v1), (2, .int v2), (3, .int v3), (4, .int v4)]) (st' := [.int v1, .ref z5, .int z4, .int v2]) rfl ?_
    refine x_aI e rfl rfl (fun z6 e => ?_)
    refine wp_p (j := J_Y_paintBox) 3 (pc' := 58) (lv' := [(0, .ref v0), (1, .int v1), (2, .int v2), (3, .int v3), (4, .int v4)]) (st' := [.int ((z4 + z6) - v4), .int v2]) rfl ?_
    refine x_ge e rfl (fun e => ?_) (fun e => ?_)
    · refine wp_p (j := J_Y_paintBox) 2 (pc' := 63) (lv' := [(0, .ref v0), (1, .int v1), (2, .int v2), (3, .int v3), (4, .int v4)]) (st' := [.ref v0, .int v3]) rfl ?_
      refine x_gQ e rfl rfl fd_12_111 rfl (fun z7 e => ?_)
      refine wp_p (j := J_Y_paintBox) 1 (pc' := 67) (lv' := [(0, .ref v0), (1, .int v1), (2, .int v2), (3, .int v3), (4, .int v4)]) (st' := [.int v1, .ref z7, .int v3]) rfl ?_
      refine x_aI e rfl rfl (fun z8 e => ?_)
      refine wp_p (j := J_Y_paintBox) 2 (pc' := 71) (lv' := [(0, .ref v0), (1, .int v1), (2, .int v2), (3, .int v3), (4, .int v4)]) (st' := [.int (z8 + v4), .int v3]) rfl ?_
      refine x_lt e rfl (fun e => ?_) (fun e => ?_)
      · exact wp_lv (lv' := [(0, .ref v0), (1, .int v1)]) rfl ⟨rfl, rfl, trivial⟩ (x_Y_paintBox_94 e c)
      · refine wp_p (j := J_Y_paintBox) 2 (pc' := 76) (lv' := [(0, .ref v0), (1, .int v1), (2, .int v2), (3, .int v3), (4, .int v4)]) (st' := [.ref v0, .int v3]) rfl ?_
        refine x_gQ e rfl rfl fd_12_111 rfl (fun z9 e => ?_)
        refine wp_p (j := J_Y_paintBox) 1 (pc' := 80) (lv' := [(0, .ref v0), (1, .int v1), (2, .int v2), (3, .int v3), (4, .int v4)]) (st' := [.int v1, .ref z9, .int v3]) rfl ?_
        refine x_aI e rfl rfl (fun z10 e => ?_)
        refine wp_p (j := J_Y_paintBox) 1 (pc' := 82) (lv' := [(0, .ref v0), (1, .int v1), (2, .int v2), (3, .int v3), (4, .int v4)]) (st' := [.ref v0, .int z10, .int v3]) rfl ?_
        refine x_gQ e rfl rfl fd_12_113 rfl (fun z11 e => ?_)
        refine wp_p (j := J_Y_paintBox) 1 (pc' := 86) (lv' := [(0, .ref v0), (1, .int v1), (2, .int v2), (3, .int v3), (4, .int v4)]) (st' := [.int v1, .ref z11, .int z10, .int v3]) rfl ?_
        refine x_aI e rfl rfl (fun z12 e => ?_)
        refine wp_p (j := J_Y_paintBox) 3 (pc' := 91) (lv' := [(0, .ref v0), (1, .int v1), (2, .int v2), (3, .int v3), (4, .int v4)]) (st' := [.int ((z10 + z12) - v4), .int v3]) rfl ?_
        refine x_lt e rfl (fun e => ?_) (fun e => ?_)
        · have e := Option.some.inj e; subst e; exact wp_vret rfl rfl c
        · exact wp_lv (lv' := [(0, .ref v0), (1, .int v1)]) rfl ⟨rfl, rfl, trivial⟩ (x_Y_paintBox_94 e c)
    · exact wp_lv (lv' := [(0, .ref v0), (1, .int v1)]) rfl ⟨rfl, rfl, trivial⟩ (x_Y_paintBox_94 e c)
noncomputable def M_Y_paintBox (v0 : Nat) (v1 : Int32) (v2 : Int32) (v3 : Int32) (g : g_S) : Option g_S :=
  (vc g 112 v0 (M_Y_of v0 v1 5 g)).bind fun z1 =>
  (vc g 112 v0 (M_Y_of v0 v1 2 g)).bind fun z2 =>
  if z2 = (-1) then
    k_Y_paintBox_28 v0 v1 v2 v3 z1 g
  else
    (vc g 112 v0 (M_Y_of v0 v1 2 g)).bind fun z3 =>
    (wI g 112 v0 146 z3).bind fun g4 =>
    k_Y_paintBox_28 v0 v1 v2 v3 z1 g4
set_option maxRecDepth 20000 in
theorem d_Y_paintBox {L : Nat} {xs : Nat → Int32} {Q : Option Value → ab_H → Prop} {v0 : Nat} {v1 : Int32} {v2 : Int32} {v3 : Int32} {g : g_S} {out : g_S} (e : M_Y_paintBox v0 v1 v2 v3 g = some out) (c : Q none (hp out)) : mw (ab_ext L xs) J_Y_paintBox [.ref v0, .int v1, .int v2, .int v3] (hp g) Q := by
  unfold M_Y_paintBox at e
  refine wp_p (j := J_Y_paintBox) 3 (pc' := 3) (lv' := [(0, .ref v0), (1, .int v1), (2, .int v2), (3, .int v3)]) (st' := [.int 5, .int v1, .ref v0]) rfl ?_
  refine x_cv1 (As := [.int v1, .int 5]) (rest := []) Value.int e rfl rfl rfl rfl rfl rfl (fun h => d_Y_of h ⟨rfl, rfl⟩) (fun z1 e => ?_)
  refine wp_p (j := J_Y_paintBox) 4 (pc' := 11) (lv' := [(4, .int z1), (0, .ref v0), (1, .int v1), (2, .int v2), (3, .int v3)]) (st' := [.int 2, .int v1, .ref v0]) rfl ?_
  refine x_cv1 (As := [.int v1, .int 2]) (rest := []) Value.int e rfl rfl rfl rfl rfl rfl (fun h => d_Y_of h ⟨rfl, rfl⟩) (fun z2 e => ?_)
  refine wp_p (j := J_Y_paintBox) 1 (pc' := 15) (lv' := [(4, .int z1), (0, .ref v0), (1, .int v1), (2, .int v2), (3, .int v3)]) (st' := [.int (-1), .int z2]) rfl ?_
  refine x_eq e rfl (fun e => ?_) (fun e => ?_)
  · exact wp_lv (lv' := [(0, .ref v0), (1, .int v1), (2, .int v2), (3, .int v3), (4, .int z1)]) rfl ⟨rfl, rfl, rfl, rfl, rfl, trivial⟩ (x_Y_paintBox_28 e c)
  · refine wp_p (j := J_Y_paintBox) 4 (pc' := 22) (lv' := [(4, .int z1), (0, .ref v0), (1, .int v1), (2, .int v2), (3, .int v3)]) (st' := [.int 2, .int v1, .ref v0, .ref v0]) rfl ?_
    refine x_cv1 (As := [.int v1, .int 2]) (rest := [.ref v0]) Value.int e rfl rfl rfl rfl rfl rfl (fun h => d_Y_of h ⟨rfl, rfl⟩) (fun z3 e => ?_)
    refine x_pI e rfl rfl fw_12_146 rfl (fun g4 e => ?_)
    exact wp_lv (lv' := [(0, .ref v0), (1, .int v1), (2, .int v2), (3, .int v3), (4, .int z1)]) rfl ⟨rfl, rfl, rfl, rfl, rfl, trivial⟩ (x_Y_paintBox_28 e c)
def cL_Y_paintInput_99 (L : Nat) (xs : Nat → Int32) (Q : Option Value → ab_H → Prop) (v0 : Nat) (v1 : Int32) (v2 : Int32) (v3 : Int32) (v4 : Int32) (v5 : Int32) (out : (Int32 × Int32 × g_S) ⊕ ((g_S) ⊕ (g_S))) : Prop := match out with
  | .inl s => wp (ab_ext L xs) J_Y_paintInput 99 [(0, .ref v0), (1, .int v1), (2, .int v2), (3, .int v3), (4, .int v4), (5, .int v5), (6, .int s.1), (7, .int s.2.1)] [] (hp s.2.2) Q
  | .inr (.inl s) => wp (ab_ext L xs) J_Y_paintInput 173 [] [] (hp s) Q
  | .inr (.inr s) => wp (ab_ext L xs) J_Y_paintInput 217 [] [] (hp s) Q
noncomputable def k_Y_paintInput_204 (v0 : Nat) (v1 : Int32) (v2 : Int32) (v3 : Int32) (v4 : Int32) (v5 : Int32) (v6 : Int32) (v7 : Int32) (v9 : Int32) (g : g_S) : Option ((Int32 × Int32 × g_S) ⊕ ((g_S) ⊕ (g_S))) :=
  some (.inl (v6 + v9, v7 + 1, g))
set_option maxRecDepth 20000 in
theorem x_Y_paintInput_204 {L : Nat} {xs : Nat → Int32} {Q : Option Value → ab_H → Prop} {v0 : Nat} {v1 : Int32} {v2 : Int32} {v3 : Int32} {v4 : Int32} {v5 : Int32} {v6 : Int32} {v7 : Int32} {v9 : Int32} {g : g_S} {out : (Int32 × Int32 × g_S) ⊕ ((g_S) ⊕ (g_S))} (e : k_Y_paintInput_204 v0 v1 v2 v3 v4 v5 v6 v7 v9 g = some out) (c : cL_Y_paintInput_99 L xs Q v0 v1 v2 v3 v4 v5 out) : wp (ab_ext L xs) J_Y_paintInput 204 [(0, .ref v0), (1, .int v1), (2, .int v2), (3, .int v3), (4, .int v4), (5, .int v5), (6, .int v6), (7, .int v7), (9, .int v9)] [] (hp g) Q := by
  unfold k_Y_paintInput_204 at e
  refine wp_p (j := J_Y_paintInput) 6 (pc' := 99) (lv' := [(7, .int (v7 + 1)), (6, .int (v6 + v9)), (0, .ref v0), (1, .int v1), (2, .int v2), (3, .int v3), (4, .int v4), (5, .int v5), (9, .int v9)]) (st' := []) rfl ?_
  have e := Option.some.inj e; subst e; exact wp_lv (lv' := [(0, .ref v0), (1, .int v1), (2, .int v2), (3, .int v3), (4, .int v4), (5, .int v5), (6, .int (v6 + v9)), (7, .int (v7 + 1))]) rfl ⟨rfl, rfl, rfl, rfl, rfl, rfl, rfl, rfl, trivial⟩ c
noncomputable def k_Y_paintInput_147 (v0 : Nat) (v1 : Int32) (v2 : Int32) (v3 : Int32) (v4 : Int32) (v5 : Int32) (v6 : Int32) (v7 : Int32) (v8 : Int32) (w0 : Int32) (g : g_S) : Option ((Int32 × Int32 × g_S) ⊕ ((g_S) ⊕ (g_S))) :=
  (rQ g 112 v0 110).bind fun z1 =>
  (aI g 0 z1 v1).bind fun z2 =>
  (rQ g 112 v0 112).bind fun z3 =>
  (aI g 0 z3 v1).bind fun z4 =>
  if ((z2 + z4) - v4) < (v6 + w0) then
    some (.inr (.inl g))
  else
    (M_Y_isBlank v8 g).bind fun z5 =>
    if z5 = 0 then
      (rQ g 112 v0 111).bind fun z6 =>
      (aI g 0 z6 v1).bind fun z7 =>
      (vc g 112 v0 (M_Y_letter v0 v8 v5 v6 (z7 + v4) v2 v3 v1 g)).bind fun g8 =>
      k_Y_paintInput_204 v0 v1 v2 v3 v4 v5 v6 v7 w0 g8
    else
      k_Y_paintInput_204 v0 v1 v2 v3 v4 v5 v6 v7 w0 g
set_option maxRecDepth 20000 in
theorem x_Y_paintInput_147 {L : Nat} {xs : Nat → Int32} {Q : Option Value → ab_H → Prop} {v0 : Nat} {v1 : Int32} {v2 : Int32} {v3 : Int32} {v4 : Int32} {v5 : Int32} {v6 : Int32} {v7 : Int32} {v8 : Int32} {w0 : Int32} {g : g_S} {out : (Int32 × Int32 × g_S) ⊕ ((g_S) ⊕ (g_S))} (e : k_Y_paintInput_147 v0 v1 v2 v3 v4 v5 v6 v7 v8 w0 g = some out) (c : cL_Y_paintInput_99 L xs Q v0 v1 v2 v3 v4 v5 out) : wp (ab_ext L xs) J_Y_paintInput 147 [(0, .ref v0), (1, .int v1), (2, .int v2), (3, .int v3), (4, .int v4), (5, .int v5), (6, .int v6), (7, .int v7), (8, .int v8)] [.int w0] (hp g) Q := by
  unfold k_Y_paintInput_147 at e
  refine wp_p (j := J_Y_paintInput) 5 (pc' := 155) (lv' := [(9, .int w0), (0, .ref v0), (1, .int v1), (2, .int v2), (3, .int v3), (4, .int v4), (5, .int v5), (6, .int v6), (7, .int v7), (8, .int v8)]) (st' := [.ref v0, .int (v6 + w0)]) rfl ?_
  refine x_gQ e rfl rfl fd_12_110 rfl (fun z1 e => ?_)
  refine wp_p (j := J_Y_paintInput) 1 (pc' := 159) (lv' := [(9, .int w0), (0, .ref v0), (1, .int v1), (2, .int v2), (3, .int v3), (4, .int v4), (5, .int v5), (6, .int v6), (7, .int v7), (8, .int v8)]) (st' := [.int v1, .ref z1, .int (v6 + w0)]) rfl ?_
  refine x_aI e rfl rfl (fun z2 e => ?_)
  refine wp_p (j := J_Y_paintInput) 1 (pc' := 161) (lv' := [(9, .int w0), (0, .ref v0), (1, .int v1), (2, .int v2), (3, .int v3), (4, .int v4), (5, .int v5), (6, .int v6), (7, .int v7), (8, .int v8)]) (st' := [.ref v0, .int z2, .int (v6 + w0)]) rfl ?_
  refine x_gQ e rfl rfl fd_12_112 rfl (fun z3 e => ?_)
  refine wp_p (j := J_Y_paintInput) 1 (pc' := 165) (lv' := [(9, .int w0), (0, .ref v0), (1, .int v1), (2, .int v2), (3, .int v3), (4, .int v4), (5, .int v5), (6, .int v6), (7, .int v7), (8, .int v8)]) (st' := [.int v1, .ref z3, .int z2, .int (v6 + w0)]) rfl ?_
  refine x_aI e rfl rfl (fun z4 e => ?_)
  refine wp_p (j := J_Y_paintInput) 3 (pc' := 170) (lv' := [(9, .int w0), (0, .ref v0), (1, .int v1), (2, .int v2), (3, .int v3), (4, .int v4), (5, .int v5), (6, .int v6), (7, .int v7), (8, .int v8)]) (st' := [.int ((z2 + z4) - v4), .int (v6 + w0)]) rfl ?_
  refine x_le e rfl (fun e => ?_) (fun e => ?_)
  · have e := Option.some.inj e; subst e; exact wp_lv (lv' := []) rfl trivial c
  · refine wp_p (j := J_Y_paintInput) 1 (pc' := 176) (lv' := [(9, .int w0), (0, .ref v0), (1, .int v1), (2, .int v2), (3, .int v3), (4, .int v4), (5, .int v5), (6, .int v6), (7, .int v7), (8, .int v8)]) (st' := [.int v8]) rfl ?_
    refine x_cs1 (As := [.int v8]) (rest := []) Value.int e rfl rfl rfl rfl rfl (fun h => d_Y_isBlank h ⟨rfl, rfl⟩) (fun z5 e => ?_)
    refine z_ne e rfl (fun e => ?_) (fun e => ?_)
    · refine wp_p (j := J_Y_paintInput) 5 (pc' := 190) (lv' := [(9, .int w0), (0, .ref v0), (1, .int v1), (2, .int v2), (3, .int v3), (4, .int v4), (5, .int v5), (6, .int v6), (7, .int v7), (8, .int v8)]) (st' := [.ref v0, .int v6, .int v5, .int v8, .ref v0]) rfl ?_
      refine x_gQ e rfl rfl fd_12_111 rfl (fun z6 e => ?_)
      refine wp_p (j := J_Y_paintInput) 1 (pc' := 194) (lv' := [(9, .int w0), (0, .ref v0), (1, .int v1), (2, .int v2), (3, .int v3), (4, .int v4), (5, .int v5), (6, .int v6), (7, .int v7), (8, .int v8)]) (st' := [.int v1, .ref z6, .int v6, .int v5, .int v8, .ref v0]) rfl ?_
      refine x_aI e rfl rfl (fun z7 e => ?_)
      refine wp_p (j := J_Y_paintInput) 5 (pc' := 201) (lv' := [(9, .int w0), (0, .ref v0), (1, .int v1), (2, .int v2), (3, .int v3), (4, .int v4), (5, .int v5), (6, .int v6), (7, .int v7), (8, .int v8)]) (st' := [.int v1, .int v3, .int v2, .int (z7 + v4), .int v6, .int v5, .int v8, .ref v0]) rfl ?_
      refine x_cv0 (As := [.int v8, .int v5, .int v6, .int (z7 + v4), .int v2, .int v3, .int v1]) (rest := []) e rfl rfl rfl rfl rfl rfl (fun h => d_Y_letter h ⟨rfl, rfl⟩) (fun g8 e => ?_)
      exact wp_lv (lv' := [(0, .ref v0), (1, .int v1), (2, .int v2), (3, .int v3), (4, .int v4), (5, .int v5), (6, .int v6), (7, .int v7), (9, .int w0)]) rfl ⟨rfl, rfl, rfl, rfl, rfl, rfl, rfl, rfl, rfl, trivial⟩ (x_Y_paintInput_204 e c)
    · exact wp_lv (lv' := [(0, .ref v0), (1, .int v1), (2, .int v2), (3, .int v3), (4, .int v4), (5, .int v5), (6, .int v6), (7, .int v7), (9, .int w0)]) rfl ⟨rfl, rfl, rfl, rfl, rfl, rfl, rfl, rfl, rfl, trivial⟩ (x_Y_paintInput_204 e c)
noncomputable def b_Y_paintInput_99 (v0 : Nat) (v1 : Int32) (v2 : Int32) (v3 : Int32) (v4 : Int32) (v5 : Int32) (v6 : Int32) (v7 : Int32) (g : g_S) : Option ((Int32 × Int32 × g_S) ⊕ ((g_S) ⊕ (g_S))) :=
  (rQ g 112 v0 65).bind fun z1 =>
  (aI g 0 z1 v1).bind fun z2 =>
  if v7 < z2 then
    (rQ g 112 v0 64).bind fun z3 =>
    (aI g 1 z3 ((24 * v1) + v7)).bind fun z4 =>
    (M_Y_isBlank z4 g).bind fun z5 =>
    if z5 = 0 then
      (M_Y_glyph z4 g).bind fun z6 =>
      k_Y_paintInput_147 v0 v1 v2 v3 v4 v5 v6 v7 z4 (z6 * v5) g
    else
      k_Y_paintInput_147 v0 v1 v2 v3 v4 v5 v6 v7 z4 (3 * v5) g
  else
    some (.inr (.inr g))
set_option maxRecDepth 20000 in
theorem y_Y_paintInput_99 {L : Nat} {xs : Nat → Int32} {Q : Option Value → ab_H → Prop} {v0 : Nat} {v1 : Int32} {v2 : Int32} {v3 : Int32} {v4 : Int32} {v5 : Int32} {v6 : Int32} {v7 : Int32} {g : g_S} {out : (Int32 × Int32 × g_S) ⊕ ((g_S) ⊕ (g_S))} (e : b_Y_paintInput_99 v0 v1 v2 v3 v4 v5 v6 v7 g = some out) (c : cL_Y_paintInput_99 L xs Q v0 v1 v2 v3 v4 v5 out) : wp (ab_ext L xs) J_Y_paintInput 99 [(0, .ref v0), (1, .int v1), (2, .int v2), (3, .int v3), (4, .int v4), (5, .int v5), (6, .int v6), (7, .int v7)] [] (hp g) Q := by
  unfold b_Y_paintInput_99 at e
  refine wp_p (j := J_Y_paintInput) 2 (pc' := 102) (lv' := [(0, .ref v0), (1, .int v1), (2, .int v2), (3, .int v3), (4, .int v4), (5, .int v5), (6, .int v6), (7, .int v7)]) (st' := [.ref v0, .int v7]) rfl ?_
  refine x_gQ e rfl rfl fd_12_65 rfl (fun z1 e => ?_)
  refine wp_p (j := J_Y_paintInput) 1 (pc' := 106) (lv' := [(0, .ref v0), (1, .int v1), (2, .int v2), (3, .int v3), (4, .int v4), (5, .int v5), (6, .int v6), (7, .int v7)]) (st' := [.int v1, .ref z1, .int v7]) rfl ?_
  refine x_aI e rfl rfl (fun z2 e => ?_)
  refine x_ge e rfl (fun e => ?_) (fun e => ?_)
  · refine wp_p (j := J_Y_paintInput) 1 (pc' := 111) (lv' := [(0, .ref v0), (1, .int v1), (2, .int v2), (3, .int v3), (4, .int v4), (5, .int v5), (6, .int v6), (7, .int v7)]) (st' := [.ref v0]) rfl ?_
    refine x_gQ e rfl rfl fd_12_64 rfl (fun z3 e => ?_)
    refine wp_p (j := J_Y_paintInput) 5 (pc' := 121) (lv' := [(0, .ref v0), (1, .int v1), (2, .int v2), (3, .int v3), (4, .int v4), (5, .int v5), (6, .int v6), (7, .int v7)]) (st' := [.int ((24 * v1) + v7), .ref z3]) rfl ?_
    refine x_aB e rfl (.inl rfl) rfl (fun z4 e => ?_)
    refine wp_p (j := J_Y_paintInput) 2 (pc' := 126) (lv' := [(8, .int z4), (0, .ref v0), (1, .int v1), (2, .int v2), (3, .int v3), (4, .int v4), (5, .int v5), (6, .int v6), (7, .int v7)]) (st' := [.int z4]) rfl ?_
    refine x_cs1 (As := [.int z4]) (rest := []) Value.int e rfl rfl rfl rfl rfl (fun h => d_Y_isBlank h ⟨rfl, rfl⟩) (fun z5 e => ?_)
    refine z_eq e rfl (fun e => ?_) (fun e => ?_)
    · refine wp_p (j := J_Y_paintInput) 1 (pc' := 141) (lv' := [(8, .int z4), (0, .ref v0), (1, .int v1), (2, .int v2), (3, .int v3), (4, .int v4), (5, .int v5), (6, .int v6), (7, .int v7)]) (st' := [.int z4]) rfl ?_
      refine x_cs1 (As := [.int z4]) (rest := []) Value.int e rfl rfl rfl rfl rfl (fun h => d_Y_glyph h ⟨rfl, rfl⟩) (fun z6 e => ?_)
      refine wp_p (j := J_Y_paintInput) 2 (pc' := 147) (lv' := [(8, .int z4), (0, .ref v0), (1, .int v1), (2, .int v2), (3, .int v3), (4, .int v4), (5, .int v5), (6, .int v6), (7, .int v7)]) (st' := [.int (z6 * v5)]) rfl ?_
      exact wp_lv (lv' := [(0, .ref v0), (1, .int v1), (2, .int v2), (3, .int v3), (4, .int v4), (5, .int v5), (6, .int v6), (7, .int v7), (8, .int z4)]) rfl ⟨rfl, rfl, rfl, rfl, rfl, rfl, rfl, rfl, rfl, trivial⟩ (x_Y_paintInput_147 e c)
    · refine wp_p (j := J_Y_paintInput) 4 (pc' := 147) (lv' := [(8, .int z4), (0, .ref v0), (1, .int v1), (2, .int v2), (3, .int v3), (4, .int v4), (5, .int v5), (6, .int v6), (7, .int v7)]) (st' := [.int (3 * v5)]) rfl ?_
      exact wp_lv (lv' := [(0, .ref v0), (1, .int v1), (2, .int v2), (3, .int v3), (4, .int v4), (5, .int v5), (6, .int v6), (7, .int v7), (8, .int z4)]) rfl ⟨rfl, rfl, rfl, rfl, rfl, rfl, rfl, rfl, rfl, trivial⟩ (x_Y_paintInput_147 e c)
  · have e := Option.some.inj e; subst e; exact wp_lv (lv' := []) rfl trivial c
noncomputable def L_Y_paintInput_99 (v0 : Nat) (v1 : Int32) (v2 : Int32) (v3 : Int32) (v4 : Int32) (v5 : Int32) (v6 : Int32) (v7 : Int32) (g : g_S) : Option ((g_S) ⊕ (g_S)) := it (fun s : Int32 × Int32 × g_S => b_Y_paintInput_99 v0 v1 v2 v3 v4 v5 s.1 s.2.1 s.2.2) (v6, v7, g)
theorem l_Y_paintInput_99 {L : Nat} {xs : Nat → Int32} {Q : Option Value → ab_H → Prop} {v0 : Nat} {v1 : Int32} {v2 : Int32} {v3 : Int32} {v4 : Int32} {v5 : Int32} {v6 : Int32} {v7 : Int32} {g : g_S} {r : (g_S) ⊕ (g_S)} (e : L_Y_paintInput_99 v0 v1 v2 v3 v4 v5 v6 v7 g = some r) (c : cL_Y_paintInput_99 L xs Q v0 v1 v2 v3 v4 v5 (.inr r)) : wp (ab_ext L xs) J_Y_paintInput 99 [(0, .ref v0), (1, .int v1), (2, .int v2), (3, .int v3), (4, .int v4), (5, .int v5), (6, .int v6), (7, .int v7)] [] (hp g) Q :=
  it_wp (P := fun s : Int32 × Int32 × g_S => wp (ab_ext L xs) J_Y_paintInput 99 [(0, .ref v0), (1, .int v1), (2, .int v2), (3, .int v3), (4, .int v4), (5, .int v5), (6, .int s.1), (7, .int s.2.1)] [] (hp s.2.2) Q) (E := fun r => cL_Y_paintInput_99 L xs Q v0 v1 v2 v3 v4 v5 (.inr r)) (fun s out e c => y_Y_paintInput_99 e (by cases out <;> exact c)) e c
theorem L_Y_paintInput_99_eq (v0 : Nat) (v1 : Int32) (v2 : Int32) (v3 : Int32) (v4 : Int32) (v5 : Int32) (v6 : Int32) (v7 : Int32) (g : g_S) : L_Y_paintInput_99 v0 v1 v2 v3 v4 v5 v6 v7 g = itc (b_Y_paintInput_99 v0 v1 v2 v3 v4 v5 v6 v7 g) (fun s => L_Y_paintInput_99 v0 v1 v2 v3 v4 v5 s.1 s.2.1 s.2.2) := it_eq2 (fun s : Int32 × Int32 × g_S => b_Y_paintInput_99 v0 v1 v2 v3 v4 v5 s.1 s.2.1 s.2.2) (v6, v7, g)
noncomputable def M_Y_paintInput (v0 : Nat) (v1 : Int32) (v2 : Int32) (v3 : Int32) (g : g_S) : Option g_S :=
  (vc g 112 v0 (M_Y_edges v0 v1 g)).bind fun z1 =>
  (rQ g 112 v0 66).bind fun z2 =>
  (aI g 2 z2 v1).bind fun z3 =>
  if z3 = 0 then
    (vc g 112 v0 (M_Y_of v0 v1 8 g)).bind fun z4 =>
    (rQ g 112 v0 110).bind fun z5 =>
    (aI g 0 z5 v1).bind fun z6 =>
    (L_Y_paintInput_99 v0 v1 v2 v3 z1 z4 (z6 + z1) 0 g).bind <|
      us (fun g9 =>
      some g9)
      (fun g10 =>
      some g10)
  else
    (rQ g 112 v0 110).bind fun z11 =>
    (aI g 0 z11 v1).bind fun z12 =>
    (rQ g 112 v0 111).bind fun z13 =>
    (aI g 0 z13 v1).bind fun z14 =>
    (rQ g 112 v0 112).bind fun z15 =>
    (aI g 0 z15 v1).bind fun z16 =>
    (rQ g 112 v0 113).bind fun z17 =>
    (aI g 0 z17 v1).bind fun z18 =>
    (vc g 112 v0 (M_Y_isIn v0 v2 v3 (z12 + z1) (z14 + z1) (z16 - (2 * z1)) (z18 - (2 * z1)) g)).bind fun z19 =>
    if z19 = 0 then
      some g
    else
      (vc g 112 v0 (M_Y_of v0 v1 1 g)).bind fun z20 =>
      (wI g 112 v0 146 z20).bind fun g21 =>
      some g21
set_option maxRecDepth 20000 in
theorem d_Y_paintInput {L : Nat} {xs : Nat → Int32} {Q : Option Value → ab_H → Prop} {v0 : Nat} {v1 : Int32} {v2 : Int32} {v3 : Int32} {g : g_S} {out : g_S} (e : M_Y_paintInput v0 v1 v2 v3 g = some out) (c : Q none (hp out)) : mw (ab_ext L xs) J_Y_paintInput [.ref v0, .int v1, .int v2, .int v3] (hp g) Q := by
  unfold M_Y_paintInput at e
  refine wp_p (j := J_Y_paintInput) 2 (pc' := 2) (lv' := [(0, .ref v0), (1, .int v1), (2, .int v2), (3, .int v3)]) (st' := [.int v1, .ref v0]) rfl ?_
  refine x_cv1 (As := [.int v1]) (rest := []) Value.int e rfl rfl rfl rfl rfl rfl (fun h => d_Y_edges h ⟨rfl, rfl⟩) (fun z1 e => ?_)
  refine wp_p (j := J_Y_paintInput) 2 (pc' := 8) (lv' := [(4, .int z1), (0, .ref v0), (1, .int v1), (2, .int v2), (3, .int v3)]) (st' := [.ref v0]) rfl ?_
  refine x_gQ e rfl rfl fd_12_66 rfl (fun z2 e => ?_)
  refine wp_p (j := J_Y_paintInput) 1 (pc' := 12) (lv' := [(4, .int z1), (0, .ref v0), (1, .int v1), (2, .int v2), (3, .int v3)]) (st' := [.int v1, .ref z2]) rfl ?_
  refine x_aB e rfl (.inr rfl) rfl (fun z3 e => ?_)
  refine z_eq e rfl (fun e => ?_) (fun e => ?_)
  · refine wp_p (j := J_Y_paintInput) 3 (pc' := 80) (lv' := [(4, .int z1), (0, .ref v0), (1, .int v1), (2, .int v2), (3, .int v3)]) (st' := [.int 8, .int v1, .ref v0]) rfl ?_
    refine x_cv1 (As := [.int v1, .int 8]) (rest := []) Value.int e rfl rfl rfl rfl rfl rfl (fun h => d_Y_of h ⟨rfl, rfl⟩) (fun z4 e => ?_)
    refine wp_p (j := J_Y_paintInput) 2 (pc' := 86) (lv' := [(5, .int z4), (4, .int z1), (0, .ref v0), (1, .int v1), (2, .int v2), (3, .int v3)]) (st' := [.ref v0]) rfl ?_
    refine x_gQ e rfl rfl fd_12_110 rfl (fun z5 e => ?_)
    refine wp_p (j := J_Y_paintInput) 1 (pc' := 90) (lv' := [(5, .int z4), (4, .int z1), (0, .ref v0), (1, .int v1), (2, .int v2), (3, .int v3)]) (st' := [.int v1, .ref z5]) rfl ?_
    refine x_aI e rfl rfl (fun z6 e => ?_)
    refine wp_p (j := J_Y_paintInput) 5 (pc' := 99) (lv' := [(7, .int 0), (6, .int (z6 + z1)), (5, .int z4), (4, .int z1), (0, .ref v0), (1, .int v1), (2, .int v2), (3, .int v3)]) (st' := []) rfl ?_
    obtain ⟨s7, h8, e⟩ := bd e
    refine wp_lv (lv' := [(0, .ref v0), (1, .int v1), (2, .int v2), (3, .int v3), (4, .int z1), (5, .int z4), (6, .int (z6 + z1)), (7, .int 0)]) rfl ⟨rfl, rfl, rfl, rfl, rfl, rfl, rfl, rfl, trivial⟩ ?_
    refine l_Y_paintInput_99 h8 ?_
    rcases s7 with g9 | g10
    · replace e := (us_l e)
      show wp (ab_ext L xs) J_Y_paintInput 173 [] [] (hp g9) Q
      have e := Option.some.inj e; subst e; exact wp_vret rfl rfl c
    · replace e := (us_r e)
      show wp (ab_ext L xs) J_Y_paintInput 217 [] [] (hp g10) Q
      have e := Option.some.inj e; subst e; exact wp_vret rfl rfl c
  · refine wp_p (j := J_Y_paintInput) 4 (pc' := 20) (lv' := [(4, .int z1), (0, .ref v0), (1, .int v1), (2, .int v2), (3, .int v3)]) (st' := [.ref v0, .int v3, .int v2, .ref v0]) rfl ?_
    refine x_gQ e rfl rfl fd_12_110 rfl (fun z11 e => ?_)
    refine wp_p (j := J_Y_paintInput) 1 (pc' := 24) (lv' := [(4, .int z1), (0, .ref v0), (1, .int v1), (2, .int v2), (3, .int v3)]) (st' := [.int v1, .ref z11, .int v3, .int v2, .ref v0]) rfl ?_
    refine x_aI e rfl rfl (fun z12 e => ?_)
    refine wp_p (j := J_Y_paintInput) 3 (pc' := 29) (lv' := [(4, .int z1), (0, .ref v0), (1, .int v1), (2, .int v2), (3, .int v3)]) (st' := [.ref v0, .int (z12 + z1), .int v3, .int v2, .ref v0]) rfl ?_
    refine x_gQ e rfl rfl fd_12_111 rfl (fun z13 e => ?_)
    refine wp_p (j := J_Y_paintInput) 1 (pc' := 33) (lv' := [(4, .int z1), (0, .ref v0), (1, .int v1), (2, .int v2), (3, .int v3)]) (st' := [.int v1, .ref z13, .int (z12 + z1), .int v3, .int v2, .ref v0]) rfl ?_
    refine x_aI e rfl rfl (fun z14 e => ?_)
    refine wp_p (j := J_Y_paintInput) 3 (pc' := 38) (lv' := [(4, .int z1), (0, .ref v0), (1, .int v1), (2, .int v2), (3, .int v3)]) (st' := [.ref v0, .int (z14 + z1), .int (z12 + z1), .int v3, .int v2, .ref v0]) rfl ?_
    refine x_gQ e rfl rfl fd_12_112 rfl (fun z15 e => ?_)
    refine wp_p (j := J_Y_paintInput) 1 (pc' := 42) (lv' := [(4, .int z1), (0, .ref v0), (1, .int v1), (2, .int v2), (3, .int v3)]) (st' := [.int v1, .ref z15, .int (z14 + z1), .int (z12 + z1), .int v3, .int v2, .ref v0]) rfl ?_
    refine x_aI e rfl rfl (fun z16 e => ?_)
    refine wp_p (j := J_Y_paintInput) 5 (pc' := 49) (lv' := [(4, .int z1), (0, .ref v0), (1, .int v1), (2, .int v2), (3, .int v3)]) (st' := [.ref v0, .int (z16 - (2 * z1)), .int (z14 + z1), .int (z12 + z1), .int v3, .int v2, .ref v0]) rfl ?_
    refine x_gQ e rfl rfl fd_12_113 rfl (fun z17 e => ?_)
    refine wp_p (j := J_Y_paintInput) 1 (pc' := 53) (lv' := [(4, .int z1), (0, .ref v0), (1, .int v1), (2, .int v2), (3, .int v3)]) (st' := [.int v1, .ref z17, .int (z16 - (2 * z1)), .int (z14 + z1), .int (z12 + z1), .int v3, .int v2, .ref v0]) rfl ?_
    refine x_aI e rfl rfl (fun z18 e => ?_)
    refine wp_p (j := J_Y_paintInput) 4 (pc' := 59) (lv' := [(4, .int z1), (0, .ref v0), (1, .int v1), (2, .int v2), (3, .int v3)]) (st' := [.int (z18 - (2 * z1)), .int (z16 - (2 * z1)), .int (z14 + z1), .int (z12 + z1), .int v3, .int v2, .ref v0]) rfl ?_
    refine x_cv1 (As := [.int v2, .int v3, .int (z12 + z1), .int (z14 + z1), .int (z16 - (2 * z1)), .int (z18 - (2 * z1))]) (rest := []) Value.int e rfl rfl rfl rfl rfl rfl (fun h => d_Y_isIn h ⟨rfl, rfl⟩) (fun z19 e => ?_)
    refine z_eq e rfl (fun e => ?_) (fun e => ?_)
    · have e := Option.some.inj e; subst e; exact wp_vret rfl rfl c
    · refine wp_p (j := J_Y_paintInput) 4 (pc' := 69) (lv' := [(4, .int z1), (0, .ref v0), (1, .int v1), (2, .int v2), (3, .int v3)]) (st' := [.int 1, .int v1, .ref v0, .ref v0]) rfl ?_
      refine x_cv1 (As := [.int v1, .int 1]) (rest := [.ref v0]) Value.int e rfl rfl rfl rfl rfl rfl (fun h => d_Y_of h ⟨rfl, rfl⟩) (fun z20 e => ?_)
      refine x_pI e rfl rfl fw_12_146 rfl (fun g21 e => ?_)
      have e := Option.some.inj e; subst e; exact wp_vret rfl rfl c
