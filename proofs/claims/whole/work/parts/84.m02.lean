/-! methods as functions, group 2 -/
def cL_Reader_readAttribute_4 (L : Nat) (xs : Nat → Int32) (Q : Option Value → ab_H → Prop) (v0 : Nat) (v1 : Int32) (v2 : Int32) (g : g_S) (out : (Int32) ⊕ (Int32)) : Prop := match out with
  | .inl s => wp (ab_ext L xs) J_Reader_readAttribute 4 [(0, .ref v0), (1, .int v1), (2, .int v2), (3, .int s)] [] (hp g) Q
  | .inr s => wp (ab_ext L xs) J_Reader_readAttribute 63 [(0, .ref v0), (1, .int v1), (2, .int v2), (3, .int s)] [] (hp g) Q
noncomputable def b_Reader_readAttribute_4 (v0 : Nat) (v1 : Int32) (v2 : Int32) (v3 : Int32) (g : g_S) : Option ((Int32) ⊕ (Int32)) :=
  (rI g 108 v0 9).bind fun z1 =>
  if v3 < z1 then
    (rQ g 108 v0 8).bind fun z2 =>
    (aI g 1 z2 v3).bind fun z3 =>
    if z3 = 61 then
      some (.inr v3)
    else
      (rQ g 108 v0 8).bind fun z4 =>
      (aI g 1 z4 v3).bind fun z5 =>
      if z5 = 47 then
        some (.inr v3)
      else
        (rQ g 108 v0 8).bind fun z6 =>
        (aI g 1 z6 v3).bind fun z7 =>
        if z7 = 62 then
          some (.inr v3)
        else
          (rQ g 108 v0 8).bind fun z8 =>
          (aI g 1 z8 v3).bind fun z9 =>
          (M_Bytes_isBlank z9 g).bind fun z10 =>
          if z10 = 0 then
            some (.inl (v3 + 1))
          else
            some (.inr v3)
  else
    some (.inr v3)
set_option maxRecDepth 20000 in
theorem y_Reader_readAttribute_4 {L : Nat} {xs : Nat → Int32} {Q : Option Value → ab_H → Prop} {v0 : Nat} {v1 : Int32} {v2 : Int32} {v3 : Int32} {g : g_S} {out : (Int32) ⊕ (Int32)} (e : b_Reader_readAttribute_4 v0 v1 v2 v3 g = some out) (c : cL_Reader_readAttribute_4 L xs Q v0 v1 v2 g out) : wp (ab_ext L xs) J_Reader_readAttribute 4 [(0, .ref v0), (1, .int v1), (2, .int v2), (3, .int v3)] [] (hp g) Q := by
  unfold b_Reader_readAttribute_4 at e
  refine wp_p (j := J_Reader_readAttribute) 2 (pc' := 6) (lv' := [(0, .ref v0), (1, .int v1), (2, .int v2), (3, .int v3)]) (st' := [.ref v0, .int v3]) rfl ?_
  refine x_gI e rfl rfl fd_8_9 rfl (fun z1 e => ?_)
  refine x_ge e rfl (fun e => ?_) (fun e => ?_)
  · refine wp_p (j := J_Reader_readAttribute) 1 (pc' := 13) (lv' := [(0, .ref v0), (1, .int v1), (2, .int v2), (3, .int v3)]) (st' := [.ref v0]) rfl ?_
    refine x_gQ e rfl rfl fd_8_8 rfl (fun z2 e => ?_)
    refine wp_p (j := J_Reader_readAttribute) 1 (pc' := 17) (lv' := [(0, .ref v0), (1, .int v1), (2, .int v2), (3, .int v3)]) (st' := [.int v3, .ref z2]) rfl ?_
    refine x_aB e rfl (.inl rfl) rfl (fun z3 e => ?_)
    refine wp_p (j := J_Reader_readAttribute) 1 (pc' := 20) (lv' := [(0, .ref v0), (1, .int v1), (2, .int v2), (3, .int v3)]) (st' := [.int 61, .int z3]) rfl ?_
    refine x_eq e rfl (fun e => ?_) (fun e => ?_)
    · have e := Option.some.inj e; subst e; exact wp_lv (lv' := [(0, .ref v0), (1, .int v1), (2, .int v2), (3, .int v3)]) rfl ⟨rfl, rfl, rfl, rfl, trivial⟩ c
    · refine wp_p (j := J_Reader_readAttribute) 1 (pc' := 24) (lv' := [(0, .ref v0), (1, .int v1), (2, .int v2), (3, .int v3)]) (st' := [.ref v0]) rfl ?_
      refine x_gQ e rfl rfl fd_8_8 rfl (fun z4 e => ?_)
      refine wp_p (j := J_Reader_readAttribute) 1 (pc' := 28) (lv' := [(0, .ref v0), (1, .int v1), (2, .int v2), (3, .int v3)]) (st' := [.int v3, .ref z4]) rfl ?_
      refine x_aB e rfl (.inl rfl) rfl (fun z5 e => ?_)
      refine wp_p (j := J_Reader_readAttribute) 1 (pc' := 31) (lv' := [(0, .ref v0), (1, .int v1), (2, .int v2), (3, .int v3)]) (st' := [.int 47, .int z5]) rfl ?_
      refine x_eq e rfl (fun e => ?_) (fun e => ?_)
      · have e := Option.some.inj e; subst e; exact wp_lv (lv' := [(0, .ref v0), (1, .int v1), (2, .int v2), (3, .int v3)]) rfl ⟨rfl, rfl, rfl, rfl, trivial⟩ c
      · refine wp_p (j := J_Reader_readAttribute) 1 (pc' := 35) (lv' := [(0, .ref v0), (1, .int v1), (2, .int v2), (3, .int v3)]) (st' := [.ref v0]) rfl ?_
        refine x_gQ e rfl rfl fd_8_8 rfl (fun z6 e => ?_)
        refine wp_p (j := J_Reader_readAttribute) 1 (pc' := 39) (lv' := [(0, .ref v0), (1, .int v1), (2, .int v2), (3, .int v3)]) (st' := [.int v3, .ref z6]) rfl ?_
        refine x_aB e rfl (.inl rfl) rfl (fun z7 e => ?_)
        refine wp_p (j := J_Reader_readAttribute) 1 (pc' := 42) (lv' := [(0, .ref v0), (1, .int v1), (2, .int v2), (3, .int v3)]) (st' := [.int 62, .int z7]) rfl ?_
        refine x_eq e rfl (fun e => ?_) (fun e => ?_)
        · have e := Option.some.inj e; subst e; exact wp_lv (lv' := [(0, .ref v0), (1, .int v1), (2, .int v2), (3, .int v3)]) rfl ⟨rfl, rfl, rfl, rfl, trivial⟩ c
        · refine wp_p (j := J_Reader_readAttribute) 1 (pc' := 46) (lv' := [(0, .ref v0), (1, .int v1), (2, .int v2), (3, .int v3)]) (st' := [.ref v0]) rfl ?_
          refine x_gQ e rfl rfl fd_8_8 rfl (fun z8 e => ?_)
          refine wp_p (j := J_Reader_readAttribute) 1 (pc' := 50) (lv' := [(0, .ref v0), (1, .int v1), (2, .int v2), (3, .int v3)]) (st' := [.int v3, .ref z8]) rfl ?_
          refine x_aB e rfl (.inl rfl) rfl (fun z9 e => ?_)
          refine x_cs1 (As := [.int z9]) (rest := []) Value.int e rfl rfl rfl rfl rfl (fun h => d_Bytes_isBlank h ⟨rfl, rfl⟩) (fun z10 e => ?_)
          refine z_ne e rfl (fun e => ?_) (fun e => ?_)
          · refine wp_p (j := J_Reader_readAttribute) 2 (pc' := 4) (lv' := [(3, .int (v3 + 1)), (0, .ref v0), (1, .int v1), (2, .int v2)]) (st' := []) rfl ?_
            have e := Option.some.inj e; subst e; exact wp_lv (lv' := [(0, .ref v0), (1, .int v1), (2, .int v2), (3, .int (v3 + 1))]) rfl ⟨rfl, rfl, rfl, rfl, trivial⟩ c
          · have e := Option.some.inj e; subst e; exact wp_lv (lv' := [(0, .ref v0), (1, .int v1), (2, .int v2), (3, .int v3)]) rfl ⟨rfl, rfl, rfl, rfl, trivial⟩ c
  · have e := Option.some.inj e; subst e; exact wp_lv (lv' := [(0, .ref v0), (1, .int v1), (2, .int v2), (3, .int v3)]) rfl ⟨rfl, rfl, rfl, rfl, trivial⟩ c
noncomputable def L_Reader_readAttribute_4 (v0 : Nat) (v1 : Int32) (v2 : Int32) (v3 : Int32) (g : g_S) : Option (Int32) := it (fun s : Int32 => b_Reader_readAttribute_4 v0 v1 v2 s g) (v3)
theorem l_Reader_readAttribute_4 {L : Nat} {xs : Nat → Int32} {Q : Option Value → ab_H → Prop} {v0 : Nat} {v1 : Int32} {v2 : Int32} {v3 : Int32} {g : g_S} {r : Int32} (e : L_Reader_readAttribute_4 v0 v1 v2 v3 g = some r) (c : cL_Reader_readAttribute_4 L xs Q v0 v1 v2 g (.inr r)) : wp (ab_ext L xs) J_Reader_readAttribute 4 [(0, .ref v0), (1, .int v1), (2, .int v2), (3, .int v3)] [] (hp g) Q :=
  it_wp (P := fun s : Int32 => wp (ab_ext L xs) J_Reader_readAttribute 4 [(0, .ref v0), (1, .int v1), (2, .int v2), (3, .int s)] [] (hp g) Q) (E := fun r => cL_Reader_readAttribute_4 L xs Q v0 v1 v2 g (.inr r)) (fun s out e c => y_Reader_readAttribute_4 e (by cases out <;> exact c)) e c
theorem L_Reader_readAttribute_4_eq (v0 : Nat) (v1 : Int32) (v2 : Int32) (v3 : Int32) (g : g_S) : L_Reader_readAttribute_4 v0 v1 v2 v3 g = itc (b_Reader_readAttribute_4 v0 v1 v2 v3 g) (fun s => L_Reader_readAttribute_4 v0 v1 v2 s g) := it_eq2 (fun s : Int32 => b_Reader_readAttribute_4 v0 v1 v2 s g) (v3)
noncomputable def k_Reader_readAttribute_245 (v0 : Nat) (v1 : Int32) (v3 : Int32) (v6 : Int32) (v7 : Int32) (w0 : Option Nat) (g : g_S) : Option (Int32 × g_S) :=
  oc w0
    (fun q1 =>
    c2 (vc g 108 v0 (M_Reader_decode v0 v6 v7 1 q1 g)) fun z2 g3 =>
    some (v3, g3))
    (
    (vc g 108 v0 (M_Reader_tell v0 2 v1 g)).bind fun g4 =>
    some (v3, g4))
set_option maxRecDepth 20000 in
theorem x_Reader_readAttribute_245 {L : Nat} {xs : Nat → Int32} {Q : Option Value → ab_H → Prop} {v0 : Nat} {v1 : Int32} {v3 : Int32} {v6 : Int32} {v7 : Int32} {w0 : Option Nat} {g : g_S} {out : Int32 × g_S} (e : k_Reader_readAttribute_245 v0 v1 v3 v6 v7 w0 g = some out) (c : Q (some (.int out.1)) (hp out.2)) : wp (ab_ext L xs) J_Reader_readAttribute 245 [(0, .ref v0), (1, .int v1), (3, .int v3), (6, .int v6), (7, .int v7)] [va_rf w0] (hp g) Q := by
  unfold k_Reader_readAttribute_245 at e
  rcases w0 with _ | q1
  · replace e := oc_n e
    show wp (ab_ext L xs) J_Reader_readAttribute 245 [(0, .ref v0), (1, .int v1), (3, .int v3), (6, .int v6), (7, .int v7)] [.null] (hp g) Q
    refine wp_p (j := J_Reader_readAttribute) 2 (pc' := 249) (lv' := [(8, .null), (0, .ref v0), (1, .int v1), (3, .int v3), (6, .int v6), (7, .int v7)]) (st' := [.null]) rfl ?_
    refine wp_b (pc' := 252) (st' := []) rfl rfl rfl ?_
    refine wp_p (j := J_Reader_readAttribute) 3 (pc' := 255) (lv' := [(8, .null), (0, .ref v0), (1, .int v1), (3, .int v3), (6, .int v6), (7, .int v7)]) (st' := [.int v1, .int 2, .ref v0]) rfl ?_
    refine x_cv0 (As := [.int 2, .int v1]) (rest := []) e rfl rfl rfl rfl rfl rfl (fun h => d_Reader_tell h ⟨rfl, rfl⟩) (fun g4 e => ?_)
    refine wp_p (j := J_Reader_readAttribute) 2 (pc' := 274) (lv' := [(8, .null), (0, .ref v0), (1, .int v1), (3, .int v3), (6, .int v6), (7, .int v7)]) (st' := [.int v3]) rfl ?_
    have e := Option.some.inj e; subst e; exact wp_iret (ty := .int) rfl rfl rfl c
  · replace e := oc_s e
    show wp (ab_ext L xs) J_Reader_readAttribute 245 [(0, .ref v0), (1, .int v1), (3, .int v3), (6, .int v6), (7, .int v7)] [.ref q1] (hp g) Q
    refine wp_p (j := J_Reader_readAttribute) 2 (pc' := 249) (lv' := [(8, .ref q1), (0, .ref v0), (1, .int v1), (3, .int v3), (6, .int v6), (7, .int v7)]) (st' := [.ref q1]) rfl ?_
    refine wp_b (pc' := 261) (st' := []) rfl rfl rfl ?_
    refine wp_p (j := J_Reader_readAttribute) 5 (pc' := 269) (lv' := [(8, .ref q1), (0, .ref v0), (1, .int v1), (3, .int v3), (6, .int v6), (7, .int v7)]) (st' := [.ref q1, .int 1, .int v7, .int v6, .ref v0]) rfl ?_
    refine x_cv2 (As := [.int v6, .int v7, .int 1, .ref q1]) (rest := []) Value.int e rfl rfl rfl rfl rfl rfl (fun h => d_Reader_decode h ⟨rfl, rfl⟩) (fun z2 g3 e => ?_)
    refine wp_p (j := J_Reader_readAttribute) 2 (pc' := 274) (lv' := [(8, .ref q1), (0, .ref v0), (1, .int v1), (3, .int v3), (6, .int v6), (7, .int v7)]) (st' := [.int v3]) rfl ?_
    have e := Option.some.inj e; subst e; exact wp_iret (ty := .int) rfl rfl rfl c
noncomputable def k_Reader_readAttribute_206 (v0 : Nat) (v1 : Int32) (v2 : Int32) (v3 : Int32) (v4 : Int64) (v6 : Int32) (v7 : Int32) (g : g_S) : Option (Int32 × g_S) :=
  (rI g 108 v0 9).bind fun z1 =>
  if v3 < z1 then
    if v2 = 0 then
      (rQ g 108 v0 7).bind fun z2 =>
      (vc g 107 z2 (M_Node_find z2 v4 g)).bind fun z3 =>
      oc z3
        (fun q4 =>
        k_Reader_readAttribute_245 v0 v1 v3 v6 v7 none g)
        (
        (rQ g 108 v0 7).bind fun z5 =>
        c2 (vc g 107 z5 (M_Node_addAttribute z5 v4 g)) fun z6 g7 =>
        oc z6
          (fun q8 =>
          k_Reader_readAttribute_245 v0 v1 v3 v6 v7 (some q8) g7)
          (
          k_Reader_readAttribute_245 v0 v1 v3 v6 v7 none g7))
    else
      some (v3, g)
  else
    some (v3, g)
set_option maxRecDepth 20000 in
theorem x_Reader_readAttribute_206 {L : Nat} {xs : Nat → Int32} {Q : Option Value → ab_H → Prop} {v0 : Nat} {v1 : Int32} {v2 : Int32} {v3 : Int32} {v4 : Int64} {v6 : Int32} {v7 : Int32} {g : g_S} {out : Int32 × g_S} (e : k_Reader_readAttribute_206 v0 v1 v2 v3 v4 v6 v7 g = some out) (c : Q (some (.int out.1)) (hp out.2)) : wp (ab_ext L xs) J_Reader_readAttribute 206 [(0, .ref v0), (1, .int v1), (2, .int v2), (3, .int v3), (4, .long v4), (6, .int v6), (7, .int v7)] [] (hp g) Q := by
  unfold k_Reader_readAttribute_206 at e
  refine wp_p (j := J_Reader_readAttribute) 2 (pc' := 208) (lv' := [(0, .ref v0), (1, .int v1), (2, .int v2), (3, .int v3), (4, .long v4), (6, .int v6), (7, .int v7)]) (st' := [.ref v0, .int v3]) rfl ?_
  refine x_gI e rfl rfl fd_8_9 rfl (fun z1 e => ?_)
  refine x_ge e rfl (fun e => ?_) (fun e => ?_)
  · refine wp_p (j := J_Reader_readAttribute) 1 (pc' := 215) (lv' := [(0, .ref v0), (1, .int v1), (2, .int v2), (3, .int v3), (4, .long v4), (6, .int v6), (7, .int v7)]) (st' := [.int v2]) rfl ?_
    refine z_eq e rfl (fun e => ?_) (fun e => ?_)
    · refine wp_p (j := J_Reader_readAttribute) 1 (pc' := 221) (lv' := [(0, .ref v0), (1, .int v1), (2, .int v2), (3, .int v3), (4, .long v4), (6, .int v6), (7, .int v7)]) (st' := [.ref v0]) rfl ?_
      refine x_gQ e rfl rfl fd_8_7 rfl (fun z2 e => ?_)
      refine wp_p (j := J_Reader_readAttribute) 1 (pc' := 226) (lv' := [(0, .ref v0), (1, .int v1), (2, .int v2), (3, .int v3), (4, .long v4), (6, .int v6), (7, .int v7)]) (st' := [.long v4, .ref z2]) rfl ?_
      refine x_cv1 (As := [.long v4]) (rest := []) va_rf e rfl rfl rfl rfl rfl rfl (fun h => d_Node_find h ⟨rfl, rfl⟩) (fun z3 e => ?_)
      rcases z3 with _ | q4
      · replace e := oc_n e
        show wp (ab_ext L xs) J_Reader_readAttribute 229 [(0, .ref v0), (1, .int v1), (2, .int v2), (3, .int v3), (4, .long v4), (6, .int v6), (7, .int v7)] [.null] (hp g) Q
        refine wp_b (pc' := 232) (st' := []) rfl rfl rfl ?_
        refine wp_p (j := J_Reader_readAttribute) 1 (pc' := 233) (lv' := [(0, .ref v0), (1, .int v1), (2, .int v2), (3, .int v3), (4, .long v4), (6, .int v6), (7, .int v7)]) (st' := [.ref v0]) rfl ?_
        refine x_gQ e rfl rfl fd_8_7 rfl (fun z5 e => ?_)
        refine wp_p (j := J_Reader_readAttribute) 1 (pc' := 238) (lv' := [(0, .ref v0), (1, .int v1), (2, .int v2), (3, .int v3), (4, .long v4), (6, .int v6), (7, .int v7)]) (st' := [.long v4, .ref z5]) rfl ?_
        refine x_cv2 (As := [.long v4]) (rest := []) va_rf e rfl rfl rfl rfl rfl rfl (fun h => d_Node_addAttribute h ⟨rfl, rfl⟩) (fun z6 g7 e => ?_)
        rcases z6 with _ | q8
        · replace e := oc_n e
          show wp (ab_ext L xs) J_Reader_readAttribute 241 [(0, .ref v0), (1, .int v1), (2, .int v2), (3, .int v3), (4, .long v4), (6, .int v6), (7, .int v7)] [.null] (hp g7) Q
          refine wp_p (j := J_Reader_readAttribute) 1 (pc' := 245) (lv' := [(0, .ref v0), (1, .int v1), (2, .int v2), (3, .int v3), (4, .long v4), (6, .int v6), (7, .int v7)]) (st' := [.null]) rfl ?_
          exact wp_lv (lv' := [(0, .ref v0), (1, .int v1), (3, .int v3), (6, .int v6), (7, .int v7)]) rfl ⟨rfl, rfl, rfl, rfl, rfl, trivial⟩ (x_Reader_readAttribute_245 e c)
        · replace e := oc_s e
          show wp (ab_ext L xs) J_Reader_readAttribute 241 [(0, .ref v0), (1, .int v1), (2, .int v2), (3, .int v3), (4, .long v4), (6, .int v6), (7, .int v7)] [.ref q8] (hp g7) Q
          refine wp_p (j := J_Reader_readAttribute) 1 (pc' := 245) (lv' := [(0, .ref v0), (1, .int v1), (2, .int v2), (3, .int v3), (4, .long v4), (6, .int v6), (7, .int v7)]) (st' := [.ref q8]) rfl ?_
          exact wp_lv (lv' := [(0, .ref v0), (1, .int v1), (3, .int v3), (6, .int v6), (7, .int v7)]) rfl ⟨rfl, rfl, rfl, rfl, rfl, trivial⟩ (x_Reader_readAttribute_245 e c)
      · replace e := oc_s e
        show wp (ab_ext L xs) J_Reader_readAttribute 229 [(0, .ref v0), (1, .int v1), (2, .int v2), (3, .int v3), (4, .long v4), (6, .int v6), (7, .int v7)] [.ref q4] (hp g) Q
        refine wp_b (pc' := 244) (st' := []) rfl rfl rfl ?_
        refine wp_p (j := J_Reader_readAttribute) 1 (pc' := 245) (lv' := [(0, .ref v0), (1, .int v1), (2, .int v2), (3, .int v3), (4, .long v4), (6, .int v6), (7, .int v7)]) (st' := [.null]) rfl ?_
        exact wp_lv (lv' := [(0, .ref v0), (1, .int v1), (3, .int v3), (6, .int v6), (7, .int v7)]) rfl ⟨rfl, rfl, rfl, rfl, rfl, trivial⟩ (x_Reader_readAttribute_245 e c)
    · refine wp_p (j := J_Reader_readAttribute) 1 (pc' := 219) (lv' := [(0, .ref v0), (1, .int v1), (2, .int v2), (3, .int v3), (4, .long v4), (6, .int v6), (7, .int v7)]) (st' := [.int v3]) rfl ?_
      have e := Option.some.inj e; subst e; exact wp_iret (ty := .int) rfl rfl rfl c
  · refine wp_p (j := J_Reader_readAttribute) 1 (pc' := 219) (lv' := [(0, .ref v0), (1, .int v1), (2, .int v2), (3, .int v3), (4, .long v4), (6, .int v6), (7, .int v7)]) (st' := [.int v3]) rfl ?_
    have e := Option.some.inj e; subst e; exact wp_iret (ty := .int) rfl rfl rfl c
noncomputable def k_Reader_readAttribute_205 (v0 : Nat) (v1 : Int32) (v2 : Int32) (v4 : Int64) (v6 : Int32) (v7 : Int32) (w0 : Int32) (g : g_S) : Option (Int32 × g_S) :=
  k_Reader_readAttribute_206 v0 v1 v2 w0 v4 v6 v7 g
set_option maxRecDepth 20000 in
theorem x_Reader_readAttribute_205 {L : Nat} {xs : Nat → Int32} {Q : Option Value → ab_H → Prop} {v0 : Nat} {v1 : Int32} {v2 : Int32} {v4 : Int64} {v6 : Int32} {v7 : Int32} {w0 : Int32} {g : g_S} {out : Int32 × g_S} (e : k_Reader_readAttribute_205 v0 v1 v2 v4 v6 v7 w0 g = some out) (c : Q (some (.int out.1)) (hp out.2)) : wp (ab_ext L xs) J_Reader_readAttribute 205 [(0, .ref v0), (1, .int v1), (2, .int v2), (4, .long v4), (6, .int v6), (7, .int v7)] [.int w0] (hp g) Q := by
  unfold k_Reader_readAttribute_205 at e
  refine wp_p (j := J_Reader_readAttribute) 1 (pc' := 206) (lv' := [(3, .int w0), (0, .ref v0), (1, .int v1), (2, .int v2), (4, .long v4), (6, .int v6), (7, .int v7)]) (st' := []) rfl ?_
  exact wp_lv (lv' := [(0, .ref v0), (1, .int v1), (2, .int v2), (3, .int w0), (4, .long v4), (6, .int v6), (7, .int v7)]) rfl ⟨rfl, rfl, rfl, rfl, rfl, rfl, rfl, trivial⟩ (x_Reader_readAttribute_206 e c)
noncomputable def k_Reader_readAttribute_189 (v0 : Nat) (v1 : Int32) (v2 : Int32) (v4 : Int64) (v6 : Int32) (v8 : Int32) (w0 : Int32) (g : g_S) : Option (Int32 × g_S) :=
  if v8 = 0 then
    k_Reader_readAttribute_205 v0 v1 v2 v4 v6 w0 w0 g
  else
    k_Reader_readAttribute_205 v0 v1 v2 v4 v6 w0 (w0 + 1) g
set_option maxRecDepth 20000 in
theorem x_Reader_readAttribute_189 {L : Nat} {xs : Nat → Int32} {Q : Option Value → ab_H → Prop} {v0 : Nat} {v1 : Int32} {v2 : Int32} {v4 : Int64} {v6 : Int32} {v8 : Int32} {w0 : Int32} {g : g_S} {out : Int32 × g_S} (e : k_Reader_readAttribute_189 v0 v1 v2 v4 v6 v8 w0 g = some out) (c : Q (some (.int out.1)) (hp out.2)) : wp (ab_ext L xs) J_Reader_readAttribute 189 [(0, .ref v0), (1, .int v1), (2, .int v2), (4, .long v4), (6, .int v6), (8, .int v8)] [.int w0] (hp g) Q := by
  unfold k_Reader_readAttribute_189 at e
  refine wp_p (j := J_Reader_readAttribute) 2 (pc' := 193) (lv' := [(7, .int w0), (0, .ref v0), (1, .int v1), (2, .int v2), (4, .long v4), (6, .int v6), (8, .int v8)]) (st' := [.int v8]) rfl ?_
  refine z_eq e rfl (fun e => ?_) (fun e => ?_)
  · refine wp_p (j := J_Reader_readAttribute) 1 (pc' := 205) (lv' := [(7, .int w0), (0, .ref v0), (1, .int v1), (2, .int v2), (4, .long v4), (6, .int v6), (8, .int v8)]) (st' := [.int w0]) rfl ?_
    exact wp_lv (lv' := [(0, .ref v0), (1, .int v1), (2, .int v2), (4, .long v4), (6, .int v6), (7, .int w0)]) rfl ⟨rfl, rfl, rfl, rfl, rfl, rfl, trivial⟩ (x_Reader_readAttribute_205 e c)
  · refine wp_p (j := J_Reader_readAttribute) 4 (pc' := 205) (lv' := [(7, .int w0), (0, .ref v0), (1, .int v1), (2, .int v2), (4, .long v4), (6, .int v6), (8, .int v8)]) (st' := [.int (w0 + 1)]) rfl ?_
    exact wp_lv (lv' := [(0, .ref v0), (1, .int v1), (2, .int v2), (4, .long v4), (6, .int v6), (7, .int w0)]) rfl ⟨rfl, rfl, rfl, rfl, rfl, rfl, trivial⟩ (x_Reader_readAttribute_205 e c)
noncomputable def k_Reader_readAttribute_158 (v0 : Nat) (v1 : Int32) (v2 : Int32) (v4 : Int64) (v8 : Int32) (w0 : Int32) (g : g_S) : Option (Int32 × g_S) :=
  if v8 = 0 then
    (vc g 108 v0 (M_Reader_plainEnd v0 w0 g)).bind fun z1 =>
    k_Reader_readAttribute_189 v0 v1 v2 v4 w0 v8 z1 g
  else
    (rQ g 108 v0 8).bind fun z2 =>
    (aI g 1 z2 (w0 - 1)).bind fun z3 =>
    (vc g 108 v0 (M_Reader_quoteEnd v0 w0 z3 g)).bind fun z4 =>
    k_Reader_readAttribute_189 v0 v1 v2 v4 w0 v8 z4 g
set_option maxRecDepth 20000 in
theorem x_Reader_readAttribute_158 {L : Nat} {xs : Nat → Int32} {Q : Option Value → ab_H → Prop} {v0 : Nat} {v1 : Int32} {v2 : Int32} {v4 : Int64} {v8 : Int32} {w0 : Int32} {g : g_S} {out : Int32 × g_S} (e : k_Reader_readAttribute_158 v0 v1 v2 v4 v8 w0 g = some out) (c : Q (some (.int out.1)) (hp out.2)) : wp (ab_ext L xs) J_Reader_readAttribute 158 [(0, .ref v0), (1, .int v1), (2, .int v2), (4, .long v4), (8, .int v8)] [.int w0] (hp g) Q := by
  unfold k_Reader_readAttribute_158 at e
  refine wp_p (j := J_Reader_readAttribute) 2 (pc' := 162) (lv' := [(6, .int w0), (0, .ref v0), (1, .int v1), (2, .int v2), (4, .long v4), (8, .int v8)]) (st' := [.int v8]) rfl ?_
  refine z_eq e rfl (fun e => ?_) (fun e => ?_)
  · refine wp_p (j := J_Reader_readAttribute) 2 (pc' := 186) (lv' := [(6, .int w0), (0, .ref v0), (1, .int v1), (2, .int v2), (4, .long v4), (8, .int v8)]) (st' := [.int w0, .ref v0]) rfl ?_
    refine x_cv1 (As := [.int w0]) (rest := []) Value.int e rfl rfl rfl rfl rfl rfl (fun h => d_Reader_plainEnd h ⟨rfl, rfl⟩) (fun z1 e => ?_)
    exact wp_lv (lv' := [(0, .ref v0), (1, .int v1), (2, .int v2), (4, .long v4), (6, .int w0), (8, .int v8)]) rfl ⟨rfl, rfl, rfl, rfl, rfl, rfl, trivial⟩ (x_Reader_readAttribute_189 e c)
  · refine wp_p (j := J_Reader_readAttribute) 3 (pc' := 169) (lv' := [(6, .int w0), (0, .ref v0), (1, .int v1), (2, .int v2), (4, .long v4), (8, .int v8)]) (st' := [.ref v0, .int w0, .ref v0]) rfl ?_
    refine x_gQ e rfl rfl fd_8_8 rfl (fun z2 e => ?_)
    refine wp_p (j := J_Reader_readAttribute) 3 (pc' := 176) (lv' := [(6, .int w0), (0, .ref v0), (1, .int v1), (2, .int v2), (4, .long v4), (8, .int v8)]) (st' := [.int (w0 - 1), .ref z2, .int w0, .ref v0]) rfl ?_
    refine x_aB e rfl (.inl rfl) rfl (fun z3 e => ?_)
    refine x_cv1 (As := [.int w0, .int z3]) (rest := []) Value.int e rfl rfl rfl rfl rfl rfl (fun h => d_Reader_quoteEnd h ⟨rfl, rfl⟩) (fun z4 e => ?_)
    refine wp_p (j := J_Reader_readAttribute) 1 (pc' := 189) (lv' := [(6, .int w0), (0, .ref v0), (1, .int v1), (2, .int v2), (4, .long v4), (8, .int v8)]) (st' := [.int z4]) rfl ?_
    exact wp_lv (lv' := [(0, .ref v0), (1, .int v1), (2, .int v2), (4, .long v4), (6, .int w0), (8, .int v8)]) rfl ⟨rfl, rfl, rfl, rfl, rfl, rfl, trivial⟩ (x_Reader_readAttribute_189 e c)
noncomputable def k_Reader_readAttribute_142 (v0 : Nat) (v1 : Int32) (v2 : Int32) (v4 : Int64) (v6 : Int32) (w0 : Int32) (g : g_S) : Option (Int32 × g_S) :=
  if w0 = 0 then
    k_Reader_readAttribute_158 v0 v1 v2 v4 w0 v6 g
  else
    k_Reader_readAttribute_158 v0 v1 v2 v4 w0 (v6 + 1) g
set_option maxRecDepth 20000 in
theorem x_Reader_readAttribute_142 {L : Nat} {xs : Nat → Int32} {Q : Option Value → ab_H → Prop} {v0 : Nat} {v1 : Int32} {v2 : Int32} {v4 : Int64} {v6 : Int32} {w0 : Int32} {g : g_S} {out : Int32 × g_S} (e : k_Reader_readAttribute_142 v0 v1 v2 v4 v6 w0 g = some out) (c : Q (some (.int out.1)) (hp out.2)) : wp (ab_ext L xs) J_Reader_readAttribute 142 [(0, .ref v0), (1, .int v1), (2, .int v2), (4, .long v4), (6, .int v6)] [.int w0] (hp g) Q := by
  unfold k_Reader_readAttribute_142 at e
  refine wp_p (j := J_Reader_readAttribute) 2 (pc' := 146) (lv' := [(8, .int w0), (0, .ref v0), (1, .int v1), (2, .int v2), (4, .long v4), (6, .int v6)]) (st' := [.int w0]) rfl ?_
  refine z_eq e rfl (fun e => ?_) (fun e => ?_)
  · refine wp_p (j := J_Reader_readAttribute) 1 (pc' := 158) (lv' := [(8, .int w0), (0, .ref v0), (1, .int v1), (2, .int v2), (4, .long v4), (6, .int v6)]) (st' := [.int v6]) rfl ?_
    exact wp_lv (lv' := [(0, .ref v0), (1, .int v1), (2, .int v2), (4, .long v4), (8, .int w0)]) rfl ⟨rfl, rfl, rfl, rfl, rfl, trivial⟩ (x_Reader_readAttribute_158 e c)
  · refine wp_p (j := J_Reader_readAttribute) 4 (pc' := 158) (lv' := [(8, .int w0), (0, .ref v0), (1, .int v1), (2, .int v2), (4, .long v4), (6, .int v6)]) (st' := [.int (v6 + 1)]) rfl ?_
    exact wp_lv (lv' := [(0, .ref v0), (1, .int v1), (2, .int v2), (4, .long v4), (8, .int w0)]) rfl ⟨rfl, rfl, rfl, rfl, rfl, trivial⟩ (x_Reader_readAttribute_158 e c)
noncomputable def k_Reader_readAttribute_141 (v0 : Nat) (v1 : Int32) (v2 : Int32) (v4 : Int64) (v6 : Int32) (g : g_S) : Option (Int32 × g_S) :=
  k_Reader_readAttribute_142 v0 v1 v2 v4 v6 0 g
set_option maxRecDepth 20000 in
theorem x_Reader_readAttribute_141 {L : Nat} {xs : Nat → Int32} {Q : Option Value → ab_H → Prop} {v0 : Nat} {v1 : Int32} {v2 : Int32} {v4 : Int64} {v6 : Int32} {g : g_S} {out : Int32 × g_S} (e : k_Reader_readAttribute_141 v0 v1 v2 v4 v6 g = some out) (c : Q (some (.int out.1)) (hp out.2)) : wp (ab_ext L xs) J_Reader_readAttribute 141 [(0, .ref v0), (1, .int v1), (2, .int v2), (4, .long v4), (6, .int v6)] [] (hp g) Q := by
  unfold k_Reader_readAttribute_141 at e
  refine wp_p (j := J_Reader_readAttribute) 1 (pc' := 142) (lv' := [(0, .ref v0), (1, .int v1), (2, .int v2), (4, .long v4), (6, .int v6)]) (st' := [.int 0]) rfl ?_
  exact wp_lv (lv' := [(0, .ref v0), (1, .int v1), (2, .int v2), (4, .long v4), (6, .int v6)]) rfl ⟨rfl, rfl, rfl, rfl, rfl, trivial⟩ (x_Reader_readAttribute_142 e c)
noncomputable def k_Reader_readAttribute_137 (v0 : Nat) (v1 : Int32) (v2 : Int32) (v4 : Int64) (v6 : Int32) (g : g_S) : Option (Int32 × g_S) :=
  k_Reader_readAttribute_142 v0 v1 v2 v4 v6 1 g
set_option maxRecDepth 20000 in
theorem x_Reader_readAttribute_137 {L : Nat} {xs : Nat → Int32} {Q : Option Value → ab_H → Prop} {v0 : Nat} {v1 : Int32} {v2 : Int32} {v4 : Int64} {v6 : Int32} {g : g_S} {out : Int32 × g_S} (e : k_Reader_readAttribute_137 v0 v1 v2 v4 v6 g = some out) (c : Q (some (.int out.1)) (hp out.2)) : wp (ab_ext L xs) J_Reader_readAttribute 137 [(0, .ref v0), (1, .int v1), (2, .int v2), (4, .long v4), (6, .int v6)] [] (hp g) Q := by
  unfold k_Reader_readAttribute_137 at e
  refine wp_p (j := J_Reader_readAttribute) 2 (pc' := 142) (lv' := [(0, .ref v0), (1, .int v1), (2, .int v2), (4, .long v4), (6, .int v6)]) (st' := [.int 1]) rfl ?_
  exact wp_lv (lv' := [(0, .ref v0), (1, .int v1), (2, .int v2), (4, .long v4), (6, .int v6)]) rfl ⟨rfl, rfl, rfl, rfl, rfl, trivial⟩ (x_Reader_readAttribute_142 e c)
noncomputable def k_Reader_readAttribute_63 (v0 : Nat) (v1 : Int32) (v2 : Int32) (v3 : Int32) (g : g_S) : Option (Int32 × g_S) :=
  (rQ g 108 v0 8).bind fun z1 =>
  (M_Bytes_packSmall z1 v1 v3 g).bind fun z2 =>
  (rI g 108 v0 9).bind fun z3 =>
  if v3 < z3 then
    (rQ g 108 v0 8).bind fun z4 =>
    (aI g 1 z4 v3).bind fun z5 =>
    if z5 = 61 then
      (rI g 108 v0 9).bind fun z6 =>
      if (v3 + 1) < z6 then
        (rQ g 108 v0 8).bind fun z7 =>
        (aI g 1 z7 (v3 + 1)).bind fun z8 =>
        if z8 = 34 then
          k_Reader_readAttribute_137 v0 v1 v2 z2 (v3 + 1) g
        else
          (rQ g 108 v0 8).bind fun z9 =>
          (aI g 1 z9 (v3 + 1)).bind fun z10 =>
          if z10 = 39 then
            k_Reader_readAttribute_137 v0 v1 v2 z2 (v3 + 1) g
          else
            k_Reader_readAttribute_141 v0 v1 v2 z2 (v3 + 1) g
      else
        k_Reader_readAttribute_141 v0 v1 v2 z2 (v3 + 1) g
    else
      k_Reader_readAttribute_206 v0 v1 v2 v3 z2 v3 v3 g
  else
    k_Reader_readAttribute_206 v0 v1 v2 v3 z2 v3 v3 g
set_option maxRecDepth 20000 in
theorem x_Reader_readAttribute_63 {L : Nat} {xs : Nat → Int32} {Q : Option Value → ab_H → Prop} {v0 : Nat} {v1 : Int32} {v2 : Int32} {v3 : Int32} {g : g_S} {out : Int32 × g_S} (e : k_Reader_readAttribute_63 v0 v1 v2 v3 g = some out) (c : Q (some (.int out.1)) (hp out.2)) : wp (ab_ext L xs) J_Reader_readAttribute 63 [(0, .ref v0), (1, .int v1), (2, .int v2), (3, .int v3)] [] (hp g) Q := by
  unfold k_Reader_readAttribute_63 at e
  refine wp_p (j := J_Reader_readAttribute) 1 (pc' := 64) (lv' := [(0, .ref v0), (1, .int v1), (2, .int v2), (3, .int v3)]) (st' := [.ref v0]) rfl ?_
  refine x_gQ e rfl rfl fd_8_8 rfl (fun z1 e => ?_)
  refine wp_p (j := J_Reader_readAttribute) 2 (pc' := 69) (lv' := [(0, .ref v0), (1, .int v1), (2, .int v2), (3, .int v3)]) (st' := [.int v3, .int v1, .ref z1]) rfl ?_
  refine x_cs1 (As := [.ref z1, .int v1, .int v3]) (rest := []) Value.long e rfl rfl rfl rfl rfl (fun h => d_Bytes_packSmall h ⟨rfl, rfl⟩) (fun z2 e => ?_)
  refine wp_p (j := J_Reader_readAttribute) 7 (pc' := 82) (lv' := [(7, .int v3), (6, .int v3), (4, .long z2), (0, .ref v0), (1, .int v1), (2, .int v2), (3, .int v3)]) (st' := [.ref v0, .int v3]) rfl ?_
  refine x_gI e rfl rfl fd_8_9 rfl (fun z3 e => ?_)
  refine x_ge e rfl (fun e => ?_) (fun e => ?_)
  · refine wp_p (j := J_Reader_readAttribute) 1 (pc' := 89) (lv' := [(7, .int v3), (6, .int v3), (4, .long z2), (0, .ref v0), (1, .int v1), (2, .int v2), (3, .int v3)]) (st' := [.ref v0]) rfl ?_
    refine x_gQ e rfl rfl fd_8_8 rfl (fun z4 e => ?_)
    refine wp_p (j := J_Reader_readAttribute) 1 (pc' := 93) (lv' := [(7, .int v3), (6, .int v3), (4, .long z2), (0, .ref v0), (1, .int v1), (2, .int v2), (3, .int v3)]) (st' := [.int v3, .ref z4]) rfl ?_
    refine x_aB e rfl (.inl rfl) rfl (fun z5 e => ?_)
    refine wp_p (j := J_Reader_readAttribute) 1 (pc' := 96) (lv' := [(7, .int v3), (6, .int v3), (4, .long z2), (0, .ref v0), (1, .int v1), (2, .int v2), (3, .int v3)]) (st' := [.int 61, .int z5]) rfl ?_
    refine x_ne e rfl (fun e => ?_) (fun e => ?_)
    · refine wp_p (j := J_Reader_readAttribute) 6 (pc' := 107) (lv' := [(6, .int (v3 + 1)), (7, .int v3), (4, .long z2), (0, .ref v0), (1, .int v1), (2, .int v2), (3, .int v3)]) (st' := [.ref v0, .int (v3 + 1)]) rfl ?_
      refine x_gI e rfl rfl fd_8_9 rfl (fun z6 e => ?_)
      refine x_ge e rfl (fun e => ?_) (fun e => ?_)
      · refine wp_p (j := J_Reader_readAttribute) 1 (pc' := 114) (lv' := [(6, .int (v3 + 1)), (7, .int v3), (4, .long z2), (0, .ref v0), (1, .int v1), (2, .int v2), (3, .int v3)]) (st' := [.ref v0]) rfl ?_
        refine x_gQ e rfl rfl fd_8_8 rfl (fun z7 e => ?_)
        refine wp_p (j := J_Reader_readAttribute) 1 (pc' := 119) (lv' := [(6, .int (v3 + 1)), (7, .int v3), (4, .long z2), (0, .ref v0), (1, .int v1), (2, .int v2), (3, .int v3)]) (st' := [.int (v3 + 1), .ref z7]) rfl ?_
        refine x_aB e rfl (.inl rfl) rfl (fun z8 e => ?_)
        refine wp_p (j := J_Reader_readAttribute) 1 (pc' := 122) (lv' := [(6, .int (v3 + 1)), (7, .int v3), (4, .long z2), (0, .ref v0), (1, .int v1), (2, .int v2), (3, .int v3)]) (st' := [.int 34, .int z8]) rfl ?_
        refine x_eq e rfl (fun e => ?_) (fun e => ?_)
        · exact wp_lv (lv' := [(0, .ref v0), (1, .int v1), (2, .int v2), (4, .long z2), (6, .int (v3 + 1))]) rfl ⟨rfl, rfl, rfl, rfl, rfl, trivial⟩ (x_Reader_readAttribute_137 e c)
        · refine wp_p (j := J_Reader_readAttribute) 1 (pc' := 126) (lv' := [(6, .int (v3 + 1)), (7, .int v3), (4, .long z2), (0, .ref v0), (1, .int v1), (2, .int v2), (3, .int v3)]) (st' := [.ref v0]) rfl ?_
          refine x_gQ e rfl rfl fd_8_8 rfl (fun z9 e => ?_)
          refine wp_p (j := J_Reader_readAttribute) 1 (pc' := 131) (lv' := [(6, .int (v3 + 1)), (7, .int v3), (4, .long z2), (0, .ref v0), (1, .int v1), (2, .int v2), (3, .int v3)]) (st' := [.int (v3 + 1), .ref z9]) rfl ?_
          refine x_aB e rfl (.inl rfl) rfl (fun z10 e => ?_)
          refine wp_p (j := J_Reader_readAttribute) 1 (pc' := 134) (lv' := [(6, .int (v3 + 1)), (7, .int v3), (4, .long z2), (0, .ref v0), (1, .int v1), (2, .int v2), (3, .int v3)]) (st' := [.int 39, .int z10]) rfl ?_
          refine x_ne e rfl (fun e => ?_) (fun e => ?_)
          · exact wp_lv (lv' := [(0, .ref v0), (1, .int v1), (2, .int v2), (4, .long z2), (6, .int (v3 + 1))]) rfl ⟨rfl, rfl, rfl, rfl, rfl, trivial⟩ (x_Reader_readAttribute_137 e c)
          · exact wp_lv (lv' := [(0, .ref v0), (1, .int v1), (2, .int v2), (4, .long z2), (6, .int (v3 + 1))]) rfl ⟨rfl, rfl, rfl, rfl, rfl, trivial⟩ (x_Reader_readAttribute_141 e c)
      · exact wp_lv (lv' := [(0, .ref v0), (1, .int v1), (2, .int v2), (4, .long z2), (6, .int (v3 + 1))]) rfl ⟨rfl, rfl, rfl, rfl, rfl, trivial⟩ (x_Reader_readAttribute_141 e c)
    · exact wp_lv (lv' := [(0, .ref v0), (1, .int v1), (2, .int v2), (3, .int v3), (4, .long z2), (6, .int v3), (7, .int v3)]) rfl ⟨rfl, rfl, rfl, rfl, rfl, rfl, rfl, trivial⟩ (x_Reader_readAttribute_206 e c)
  · exact wp_lv (lv' := [(0, .ref v0), (1, .int v1), (2, .int v2), (3, .int v3), (4, .long z2), (6, .int v3), (7, .int v3)]) rfl ⟨rfl, rfl, rfl, rfl, rfl, rfl, rfl, trivial⟩ (x_Reader_readAttribute_206 e c)
noncomputable def M_Reader_readAttribute (v0 : Nat) (v1 : Int32) (v2 : Int32) (g : g_S) : Option (Int32 × g_S) :=
  (L_Reader_readAttribute_4 v0 v1 v2 (v1 + 1) g).bind <| fun z3 =>
  k_Reader_readAttribute_63 v0 v1 v2 z3 g
set_option maxRecDepth 20000 in
theorem d_Reader_readAttribute {L : Nat} {xs : Nat → Int32} {Q : Option Value → ab_H → Prop} {v0 : Nat} {v1 : Int32} {v2 : Int32} {g : g_S} {out : Int32 × g_S} (e : M_Reader_readAttribute v0 v1 v2 g = some out) (c : Q (some (.int out.1)) (hp out.2)) : mw (ab_ext L xs) J_Reader_readAttribute [.ref v0, .int v1, .int v2] (hp g) Q := by
  unfold M_Reader_readAttribute at e
  refine wp_p (j := J_Reader_readAttribute) 4 (pc' := 4) (lv' := [(3, .int (v1 + 1)), (0, .ref v0), (1, .int v1), (2, .int v2)]) (st' := []) rfl ?_
  obtain ⟨z3, h2, e⟩ := bd e
  refine wp_lv (lv' := [(0, .ref v0), (1, .int v1), (2, .int v2), (3, .int (v1 + 1))]) rfl ⟨rfl, rfl, rfl, rfl, trivial⟩ ?_
  refine l_Reader_readAttribute_4 h2 ?_
  show wp (ab_ext L xs) J_Reader_readAttribute 63 [(0, .ref v0), (1, .int v1), (2, .int v2), (3, .int z3)] [] (hp g) Q
  exact wp_lv (lv' := [(0, .ref v0), (1, .int v1), (2, .int v2), (3, .int z3)]) rfl ⟨rfl, rfl, rfl, rfl, trivial⟩ (x_Reader_readAttribute_63 e c)
def cL_Reader_closeTo_0 (L : Nat) (xs : Nat → Int32) (Q : Option Value → ab_H → Prop) (v0 : Nat) (v1 : Int32) (out : (g_S) ⊕ (g_S)) : Prop := match out with
  | .inl s => wp (ab_ext L xs) J_Reader_closeTo 0 [(0, .ref v0), (1, .int v1)] [] (hp s) Q
  | .inr s => wp (ab_ext L xs) J_Reader_closeTo 72 [(0, .ref v0), (1, .int v1)] [] (hp s) Q
noncomputable def k_Reader_closeTo_59 (v0 : Nat) (v1 : Int32) (g : g_S) : Option ((g_S) ⊕ (g_S)) :=
  (rI g 108 v0 6).bind fun z1 =>
  (wI g 108 v0 6 (z1 - 1)).bind fun g2 =>
  some (.inl g2)
set_option maxRecDepth 20000 in
theorem x_Reader_closeTo_59 {L : Nat} {xs : Nat → Int32} {Q : Option Value → ab_H → Prop} {v0 : Nat} {v1 : Int32} {g : g_S} {out : (g_S) ⊕ (g_S)} (e : k_Reader_closeTo_59 v0 v1 g = some out) (c : cL_Reader_closeTo_0 L xs Q v0 v1 out) : wp (ab_ext L xs) J_Reader_closeTo 59 [(0, .ref v0), (1, .int v1)] [] (hp g) Q := by
  unfold k_Reader_closeTo_59 at e
  refine wp_p (j := J_Reader_closeTo) 2 (pc' := 61) (lv' := [(0, .ref v0), (1, .int v1)]) (st' := [.ref v0, .ref v0]) rfl ?_
  refine x_gI e rfl rfl fd_8_6 rfl (fun z1 e => ?_)
  refine wp_p (j := J_Reader_closeTo) 2 (pc' := 66) (lv' := [(0, .ref v0), (1, .int v1)]) (st' := [.int (z1 - 1), .ref v0]) rfl ?_
  refine x_pI e rfl rfl fw_8_6 rfl (fun g2 e => ?_)
  refine wp_p (j := J_Reader_closeTo) 1 (pc' := 0) (lv' := [(0, .ref v0), (1, .int v1)]) (st' := []) rfl ?_
  have e := Option.some.inj e; subst e; exact wp_lv (lv' := [(0, .ref v0), (1, .int v1)]) rfl ⟨rfl, rfl, trivial⟩ c
noncomputable def b_Reader_closeTo_0 (v0 : Nat) (v1 : Int32) (g : g_S) : Option ((g_S) ⊕ (g_S)) :=
  (rI g 108 v0 6).bind fun z1 =>
  if (v1 + 1) < z1 then
    (rQ g 108 v0 0).bind fun z2 =>
    (rQ g 110 z2 0).bind fun z3 =>
    (rQ g 108 v0 4).bind fun z4 =>
    (rI g 108 v0 6).bind fun z5 =>
    (aI g 0 z4 (z5 - 1)).bind fun z6 =>
    (aQ g 5 z3 z6).bind fun z7 =>
    (rI g 107 z7 0).bind fun z8 =>
    if z8 = 1 then
      k_Reader_closeTo_59 v0 v1 g
    else
      if z8 = 4 then
        k_Reader_closeTo_59 v0 v1 g
      else
        (rQ g 108 v0 5).bind fun z9 =>
        (rI g 108 v0 6).bind fun z10 =>
        (aI g 0 z9 (z10 - 1)).bind fun z11 =>
        (vc g 108 v0 (M_Reader_tell v0 4 z11 g)).bind fun g12 =>
        k_Reader_closeTo_59 v0 v1 g12
  else
    some (.inr g)
set_option maxRecDepth 20000 in
theorem y_Reader_closeTo_0 {L : Nat} {xs : Nat → Int32} {Q : Option Value → ab_H → Prop} {v0 : Nat} {v1 : Int32} {g : g_S} {out : (g_S) ⊕ (g_S)} (e : b_Reader_closeTo_0 v0 v1 g = some out) (c : cL_Reader_closeTo_0 L xs Q v0 v1 out) : wp (ab_ext L xs) J_Reader_closeTo 0 [(0, .ref v0), (1, .int v1)] [] (hp g) Q := by
  unfold b_Reader_closeTo_0 at e
  refine wp_p (j := J_Reader_closeTo) 1 (pc' := 1) (lv' := [(0, .ref v0), (1, .int v1)]) (st' := [.ref v0]) rfl ?_
  refine x_gI e rfl rfl fd_8_6 rfl (fun z1 e => ?_)
  refine wp_p (j := J_Reader_closeTo) 3 (pc' := 7) (lv' := [(0, .ref v0), (1, .int v1)]) (st' := [.int (v1 + 1), .int z1]) rfl ?_
  refine x_le e rfl (fun e => ?_) (fun e => ?_)
  · refine wp_p (j := J_Reader_closeTo) 1 (pc' := 11) (lv' := [(0, .ref v0), (1, .int v1)]) (st' := [.ref v0]) rfl ?_
    refine x_gQ e rfl rfl fd_8_0 rfl (fun z2 e => ?_)
    refine x_gQ e rfl rfl fd_10_0 rfl (fun z3 e => ?_)
    refine wp_p (j := J_Reader_closeTo) 1 (pc' := 18) (lv' := [(0, .ref v0), (1, .int v1)]) (st' := [.ref v0, .ref z3]) rfl ?_
    refine x_gQ e rfl rfl fd_8_4 rfl (fun z4 e => ?_)
    refine wp_p (j := J_Reader_closeTo) 1 (pc' := 22) (lv' := [(0, .ref v0), (1, .int v1)]) (st' := [.ref v0, .ref z4, .ref z3]) rfl ?_
    refine x_gI e rfl rfl fd_8_6 rfl (fun z5 e => ?_)
    refine wp_p (j := J_Reader_closeTo) 2 (pc' := 27) (lv' := [(0, .ref v0), (1, .int v1)]) (st' := [.int (z5 - 1), .ref z4, .ref z3]) rfl ?_
    refine x_aI e rfl rfl (fun z6 e => ?_)
    refine x_aQ e rfl rfl rfl (fun z7 e => ?_)
    refine x_gI e rfl rfl fd_7_0 rfl (fun z8 e => ?_)
    refine wp_p (j := J_Reader_closeTo) 3 (pc' := 35) (lv' := [(2, .int z8), (0, .ref v0), (1, .int v1)]) (st' := [.int 1, .int z8]) rfl ?_
    refine x_eq e rfl (fun e => ?_) (fun e => ?_)
    · exact wp_lv (lv' := [(0, .ref v0), (1, .int v1)]) rfl ⟨rfl, rfl, trivial⟩ (x_Reader_closeTo_59 e c)
    · refine wp_p (j := J_Reader_closeTo) 2 (pc' := 40) (lv' := [(2, .int z8), (0, .ref v0), (1, .int v1)]) (st' := [.int 4, .int z8]) rfl ?_
      refine x_eq e rfl (fun e => ?_) (fun e => ?_)
      · exact wp_lv (lv' := [(0, .ref v0), (1, .int v1)]) rfl ⟨rfl, rfl, trivial⟩ (x_Reader_closeTo_59 e c)
      · refine wp_p (j := J_Reader_closeTo) 3 (pc' := 46) (lv' := [(2, .int z8), (0, .ref v0), (1, .int v1)]) (st' := [.ref v0, .int 4, .ref v0]) rfl ?_
        refine x_gQ e rfl rfl fd_8_5 rfl (fun z9 e => ?_)
        refine wp_p (j := J_Reader_closeTo) 1 (pc' := 50) (lv' := [(2, .int z8), (0, .ref v0), (1, .int v1)]) (st' := [.ref v0, .ref z9, .int 4, .ref v0]) rfl ?_
        refine x_gI e rfl rfl fd_8_6 rfl (fun z10 e => ?_)
        refine wp_p (j := J_Reader_closeTo) 2 (pc' := 55) (lv' := [(2, .int z8), (0, .ref v0), (1, .int v1)]) (st' := [.int (z10 - 1), .ref z9, .int 4, .ref v0]) rfl ?_
        refine x_aI e rfl rfl (fun z11 e => ?_)
        refine x_cv0 (As := [.int 4, .int z11]) (rest := []) e rfl rfl rfl rfl rfl rfl (fun h => d_Reader_tell h ⟨rfl, rfl⟩) (fun g12 e => ?_)
        exact wp_lv (lv' := [(0, .ref v0), (1, .int v1)]) rfl ⟨rfl, rfl, trivial⟩ (x_Reader_closeTo_59 e c)
  · have e := Option.some.inj e; subst e; exact wp_lv (lv' := [(0, .ref v0), (1, .int v1)]) rfl ⟨rfl, rfl, trivial⟩ c
noncomputable def L_Reader_closeTo_0 (v0 : Nat) (v1 : Int32) (g : g_S) : Option (g_S) := it (fun s : g_S => b_Reader_closeTo_0 v0 v1 s) (g)
theorem l_Reader_closeTo_0 {L : Nat} {xs : Nat → Int32} {Q : Option Value → ab_H → Prop} {v0 : Nat} {v1 : Int32} {g : g_S} {r : g_S} (e : L_Reader_closeTo_0 v0 v1 g = some r) (c : cL_Reader_closeTo_0 L xs Q v0 v1 (.inr r)) : wp (ab_ext L xs) J_Reader_closeTo 0 [(0, .ref v0), (1, .int v1)] [] (hp g) Q :=
  it_wp (P := fun s : g_S => wp (ab_ext L xs) J_Reader_closeTo 0 [(0, .ref v0), (1, .int v1)] [] (hp s) Q) (E := fun r => cL_Reader_closeTo_0 L xs Q v0 v1 (.inr r)) (fun s out e c => y_Reader_closeTo_0 e (by cases out <;> exact c)) e c
theorem L_Reader_closeTo_0_eq (v0 : Nat) (v1 : Int32) (g : g_S) : L_Reader_closeTo_0 v0 v1 g = itc (b_Reader_closeTo_0 v0 v1 g) (fun s => L_Reader_closeTo_0 v0 v1 s) := it_eq2 (fun s : g_S => b_Reader_closeTo_0 v0 v1 s) (g)
noncomputable def M_Reader_closeTo (v0 : Nat) (v1 : Int32) (g : g_S) : Option g_S :=
  (L_Reader_closeTo_0 v0 v1 g).bind <| fun g3 =>
  (wI g3 108 v0 6 v1).bind fun g4 =>
  some g4
set_option maxRecDepth 20000 in
theorem d_Reader_closeTo {L : Nat} {xs : Nat → Int32} {Q : Option Value → ab_H → Prop} {v0 : Nat} {v1 : Int32} {g : g_S} {out : g_S} (e : M_Reader_closeTo v0 v1 g = some out) (c : Q none (hp out)) : mw (ab_ext L xs) J_Reader_closeTo [.ref v0, .int v1] (hp g) Q := by
  unfold M_Reader_closeTo at e
  obtain ⟨g3, h2, e⟩ := bd e
  refine wp_lv (lv' := [(0, .ref v0), (1, .int v1)]) rfl ⟨rfl, rfl, trivial⟩ ?_
  refine l_Reader_closeTo_0 h2 ?_
  show wp (ab_ext L xs) J_Reader_closeTo 72 [(0, .ref v0), (1, .int v1)] [] (hp g3) Q
  refine wp_p (j := J_Reader_closeTo) 2 (pc' := 74) (lv' := [(0, .ref v0), (1, .int v1)]) (st' := [.int v1, .ref v0]) rfl ?_
  refine x_pI e rfl rfl fw_8_6 rfl (fun g4 e => ?_)
  have e := Option.some.inj e; subst e; exact wp_vret rfl rfl c
def cL_Reader_endTag_8 (L : Nat) (xs : Nat → Int32) (Q : Option Value → ab_H → Prop) (v0 : Nat) (v1 : Int64) (v3 : Int32) (g : g_S) (out : (Int32) ⊕ (Int32)) : Prop := match out with
  | .inl s => wp (ab_ext L xs) J_Reader_endTag 8 [(0, .ref v0), (1, .long v1), (3, .int v3), (4, .int s)] [] (hp g) Q
  | .inr s => wp (ab_ext L xs) J_Reader_endTag 42 [(0, .ref v0), (3, .int v3), (4, .int s)] [] (hp g) Q
noncomputable def b_Reader_endTag_8 (v0 : Nat) (v1 : Int64) (v3 : Int32) (v4 : Int32) (g : g_S) : Option ((Int32) ⊕ (Int32)) :=
  if 0 < v4 then
    (rQ g 108 v0 0).bind fun z1 =>
    (rQ g 110 z1 0).bind fun z2 =>
    (rQ g 108 v0 4).bind fun z3 =>
    (aI g 0 z3 v4).bind fun z4 =>
    (aQ g 5 z2 z4).bind fun z5 =>
    (rL g 107 z5 1).bind fun z6 =>
    if (lg_cmp z6 v1) = 0 then
      some (.inr v4)
    else
      some (.inl (v4 + (-1)))
  else
    some (.inr v4)
set_option maxRecDepth 20000 in
theorem y_Reader_endTag_8 {L : Nat} {xs : Nat → Int32} {Q : Option Value → ab_H → Prop} {v0 : Nat} {v1 : Int64} {v3 : Int32} {v4 : Int32} {g : g_S} {out : (Int32) ⊕ (Int32)} (e : b_Reader_endTag_8 v0 v1 v3 v4 g = some out) (c : cL_Reader_endTag_8 L xs Q v0 v1 v3 g out) : wp (ab_ext L xs) J_Reader_endTag 8 [(0, .ref v0), (1, .long v1), (3, .int v3), (4, .int v4)] [] (hp g) Q := by
  unfold b_Reader_endTag_8 at e
  refine wp_p (j := J_Reader_endTag) 1 (pc' := 10) (lv' := [(0, .ref v0), (1, .long v1), (3, .int v3), (4, .int v4)]) (st' := [.int v4]) rfl ?_
  refine z_le e rfl (fun e => ?_) (fun e => ?_)
  · refine wp_p (j := J_Reader_endTag) 1 (pc' := 14) (lv' := [(0, .ref v0), (1, .long v1), (3, .int v3), (4, .int v4)]) (st' := [.ref v0]) rfl ?_
    refine x_gQ e rfl rfl fd_8_0 rfl (fun z1 e => ?_)
    refine x_gQ e rfl rfl fd_10_0 rfl (fun z2 e => ?_)
    refine wp_p (j := J_Reader_endTag) 1 (pc' := 21) (lv' := [(0, .ref v0), (1, .long v1), (3, .int v3), (4, .int v4)]) (st' := [.ref v0, .ref z2]) rfl ?_
    refine x_gQ e rfl rfl fd_8_4 rfl (fun z3 e => ?_)
    refine wp_p (j := J_Reader_endTag) 1 (pc' := 26) (lv' := [(0, .ref v0), (1, .long v1), (3, .int v3), (4, .int v4)]) (st' := [.int v4, .ref z3, .ref z2]) rfl ?_
    refine x_aI e rfl rfl (fun z4 e => ?_)
    refine x_aQ e rfl rfl rfl (fun z5 e => ?_)
    refine x_gL e rfl rfl fd_7_1 rfl (fun z6 e => ?_)
    refine wp_p (j := J_Reader_endTag) 2 (pc' := 33) (lv' := [(0, .ref v0), (1, .long v1), (3, .int v3), (4, .int v4)]) (st' := [.int (lg_cmp z6 v1)]) rfl ?_
    refine z_eq e rfl (fun e => ?_) (fun e => ?_)
    · have e := Option.some.inj e; subst e; exact wp_lv (lv' := [(0, .ref v0), (3, .int v3), (4, .int v4)]) rfl ⟨rfl, rfl, rfl, trivial⟩ c
    · refine wp_p (j := J_Reader_endTag) 2 (pc' := 8) (lv' := [(4, .int (v4 + (-1))), (0, .ref v0), (1, .long v1), (3, .int v3)]) (st' := []) rfl ?_
      have e := Option.some.inj e; subst e; exact wp_lv (lv' := [(0, .ref v0), (1, .long v1), (3, .int v3), (4, .int (v4 + (-1)))]) rfl ⟨rfl, rfl, rfl, rfl, trivial⟩ c
  · have e := Option.some.inj e; subst e; exact wp_lv (lv' := [(0, .ref v0), (3, .int v3), (4, .int v4)]) rfl ⟨rfl, rfl, rfl, trivial⟩ c
noncomputable def L_Reader_endTag_8 (v0 : Nat) (v1 : Int64) (v3 : Int32) (v4 : Int32) (g : g_S) : Option (Int32) := it (fun s : Int32 => b_Reader_endTag_8 v0 v1 v3 s g) (v4)
theorem l_Reader_endTag_8 {L : Nat} {xs : Nat → Int32} {Q : Option Value → ab_H → Prop} {v0 : Nat} {v1 : Int64} {v3 : Int32} {v4 : Int32} {g : g_S} {r : Int32} (e : L_Reader_endTag_8 v0 v1 v3 v4 g = some r) (c : cL_Reader_endTag_8 L xs Q v0 v1 v3 g (.inr r)) : wp (ab_ext L xs) J_Reader_endTag 8 [(0, .ref v0), (1, .long v1), (3, .int v3), (4, .int v4)] [] (hp g) Q :=
  it_wp (P := fun s : Int32 => wp (ab_ext L xs) J_Reader_endTag 8 [(0, .ref v0), (1, .long v1), (3, .int v3), (4, .int s)] [] (hp g) Q) (E := fun r => cL_Reader_endTag_8 L xs Q v0 v1 v3 g (.inr r)) (fun s out e c => y_Reader_endTag_8 e (by cases out <;> exact c)) e c
theorem L_Reader_endTag_8_eq (v0 : Nat) (v1 : Int64) (v3 : Int32) (v4 : Int32) (g : g_S) : L_Reader_endTag_8 v0 v1 v3 v4 g = itc (b_Reader_endTag_8 v0 v1 v3 v4 g) (fun s => L_Reader_endTag_8 v0 v1 v3 s g) := it_eq2 (fun s : Int32 => b_Reader_endTag_8 v0 v1 v3 s g) (v4)
noncomputable def k_Reader_endTag_42 (v0 : Nat) (v3 : Int32) (v4 : Int32) (g : g_S) : Option g_S :=
  if v4 = 0 then
    (vc g 108 v0 (M_Reader_tell v0 3 v3 g)).bind fun g1 =>
    some g1
  else
    (vc g 108 v0 (M_Reader_closeTo v0 v4 g)).bind fun g2 =>
    some g2
set_option maxRecDepth 20000 in
theorem x_Reader_endTag_42 {L : Nat} {xs : Nat → Int32} {Q : Option Value → ab_H → Prop} {v0 : Nat} {v3 : Int32} {v4 : Int32} {g : g_S} {out : g_S} (e : k_Reader_endTag_42 v0 v3 v4 g = some out) (c : Q none (hp out)) : wp (ab_ext L xs) J_Reader_endTag 42 [(0, .ref v0), (3, .int v3), (4, .int v4)] [] (hp g) Q := by
  unfold k_Reader_endTag_42 at e
  refine wp_p (j := J_Reader_endTag) 1 (pc' := 44) (lv' := [(0, .ref v0), (3, .int v3), (4, .int v4)]) (st' := [.int v4]) rfl ?_
  refine z_ne e rfl (fun e => ?_) (fun e => ?_)
  · refine wp_p (j := J_Reader_endTag) 3 (pc' := 50) (lv' := [(0, .ref v0), (3, .int v3), (4, .int v4)]) (st' := [.int v3, .int 3, .ref v0]) rfl ?_
    refine x_cv0 (As := [.int 3, .int v3]) (rest := []) e rfl rfl rfl rfl rfl rfl (fun h => d_Reader_tell h ⟨rfl, rfl⟩) (fun g1 e => ?_)
    refine wp_p (j := J_Reader_endTag) 1 (pc' := 62) (lv' := [(0, .ref v0), (3, .int v3), (4, .int v4)]) (st' := []) rfl ?_
    have e := Option.some.inj e; subst e; exact wp_vret rfl rfl c
  · refine wp_p (j := J_Reader_endTag) 2 (pc' := 59) (lv' := [(0, .ref v0), (3, .int v3), (4, .int v4)]) (st' := [.int v4, .ref v0]) rfl ?_
    refine x_cv0 (As := [.int v4]) (rest := []) e rfl rfl rfl rfl rfl rfl (fun h => d_Reader_closeTo h ⟨rfl, rfl⟩) (fun g2 e => ?_)
    have e := Option.some.inj e; subst e; exact wp_vret rfl rfl c
noncomputable def M_Reader_endTag (v0 : Nat) (v1 : Int64) (v3 : Int32) (g : g_S) : Option g_S :=
  (rI g 108 v0 6).bind fun z1 =>
  (L_Reader_endTag_8 v0 v1 v3 (z1 - 1) g).bind <| fun z4 =>
  k_Reader_endTag_42 v0 v3 z4 g
set_option maxRecDepth 20000 in
theorem d_Reader_endTag {L : Nat} {xs : Nat → Int32} {Q : Option Value → ab_H → Prop} {v0 : Nat} {v1 : Int64} {v3 : Int32} {g : g_S} {out : g_S} (e : M_Reader_endTag v0 v1 v3 g = some out) (c : Q none (hp out)) : mw (ab_ext L xs) J_Reader_endTag [.ref v0, .long v1, .int v3] (hp g) Q := by
  unfold M_Reader_endTag at e
  refine wp_p (j := J_Reader_endTag) 1 (pc' := 1) (lv' := [(0, .ref v0), (1, .long v1), (3, .int v3)]) (st' := [.ref v0]) rfl ?_
  refine x_gI e rfl rfl fd_8_6 rfl (fun z1 e => ?_)
  refine wp_p (j := J_Reader_endTag) 3 (pc' := 8) (lv' := [(4, .int (z1 - 1)), (0, .ref v0), (1, .long v1), (3, .int v3)]) (st' := []) rfl ?_
  obtain ⟨z4, h3, e⟩ := bd e
  refine wp_lv (lv' := [(0, .ref v0), (1, .long v1), (3, .int v3), (4, .int (z1 - 1))]) rfl ⟨rfl, rfl, rfl, rfl, trivial⟩ ?_
  refine l_Reader_endTag_8 h3 ?_
  show wp (ab_ext L xs) J_Reader_endTag 42 [(0, .ref v0), (3, .int v3), (4, .int z4)] [] (hp g) Q
  exact wp_lv (lv' := [(0, .ref v0), (3, .int v3), (4, .int z4)]) rfl ⟨rfl, rfl, rfl, trivial⟩ (x_Reader_endTag_42 e c)
def cL_Tree_tagOf_2 (L : Nat) (xs : Nat → Int32) (Q : Option Value → ab_H → Prop) (v0 : Nat) (v1 : Int64) (g : g_S) (out : (Int32) ⊕ (Int32)) : Prop := match out with
  | .inl s => wp (ab_ext L xs) J_Tree_tagOf 2 [(0, .ref v0), (1, .long v1), (3, .int s)] [] (hp g) Q
  | .inr s => wp (ab_ext L xs) J_Tree_tagOf 25 [(3, .int s)] [] (hp g) Q
noncomputable def b_Tree_tagOf_2 (v0 : Nat) (v1 : Int64) (v3 : Int32) (g : g_S) : Option ((Int32) ⊕ (Int32)) :=
  if v3 < 16 then
    (rQ g 110 v0 1).bind fun z1 =>
    (aL g z1 v3).bind fun z2 =>
    if (lg_cmp z2 v1) = 0 then
      some (.inr v3)
    else
      some (.inl (v3 + 1))
  else
    some (.inr v3)
set_option maxRecDepth 20000 in
theorem y_Tree_tagOf_2 {L : Nat} {xs : Nat → Int32} {Q : Option Value → ab_H → Prop} {v0 : Nat} {v1 : Int64} {v3 : Int32} {g : g_S} {out : (Int32) ⊕ (Int32)} (e : b_Tree_tagOf_2 v0 v1 v3 g = some out) (c : cL_Tree_tagOf_2 L xs Q v0 v1 g out) : wp (ab_ext L xs) J_Tree_tagOf 2 [(0, .ref v0), (1, .long v1), (3, .int v3)] [] (hp g) Q := by
  unfold b_Tree_tagOf_2 at e
  refine wp_p (j := J_Tree_tagOf) 2 (pc' := 5) (lv' := [(0, .ref v0), (1, .long v1), (3, .int v3)]) (st' := [.int 16, .int v3]) rfl ?_
  refine x_ge e rfl (fun e => ?_) (fun e => ?_)
  · refine wp_p (j := J_Tree_tagOf) 1 (pc' := 9) (lv' := [(0, .ref v0), (1, .long v1), (3, .int v3)]) (st' := [.ref v0]) rfl ?_
    refine x_gQ e rfl rfl fd_10_1 rfl (fun z1 e => ?_)
    refine wp_p (j := J_Tree_tagOf) 1 (pc' := 13) (lv' := [(0, .ref v0), (1, .long v1), (3, .int v3)]) (st' := [.int v3, .ref z1]) rfl ?_
    refine x_aL e rfl rfl (fun z2 e => ?_)
    refine wp_p (j := J_Tree_tagOf) 2 (pc' := 16) (lv' := [(0, .ref v0), (1, .long v1), (3, .int v3)]) (st' := [.int (lg_cmp z2 v1)]) rfl ?_
    refine z_eq e rfl (fun e => ?_) (fun e => ?_)
    · have e := Option.some.inj e; subst e; exact wp_lv (lv' := [(3, .int v3)]) rfl ⟨rfl, trivial⟩ c
    · refine wp_p (j := J_Tree_tagOf) 2 (pc' := 2) (lv' := [(3, .int (v3 + 1)), (0, .ref v0), (1, .long v1)]) (st' := []) rfl ?_
      have e := Option.some.inj e; subst e; exact wp_lv (lv' := [(0, .ref v0), (1, .long v1), (3, .int (v3 + 1))]) rfl ⟨rfl, rfl, rfl, trivial⟩ c
  · have e := Option.some.inj e; subst e; exact wp_lv (lv' := [(3, .int v3)]) rfl ⟨rfl, trivial⟩ c
noncomputable def L_Tree_tagOf_2 (v0 : Nat) (v1 : Int64) (v3 : Int32) (g : g_S) : Option (Int32) := it (fun s : Int32 => b_Tree_tagOf_2 v0 v1 s g) (v3)
theorem l_Tree_tagOf_2 {L : Nat} {xs : Nat → Int32} {Q : Option Value → ab_H → Prop} {v0 : Nat} {v1 : Int64} {v3 : Int32} {g : g_S} {r : Int32} (e : L_Tree_tagOf_2 v0 v1 v3 g = some r) (c : cL_Tree_tagOf_2 L xs Q v0 v1 g (.inr r)) : wp (ab_ext L xs) J_Tree_tagOf 2 [(0, .ref v0), (1, .long v1), (3, .int v3)] [] (hp g) Q :=
  it_wp (P := fun s : Int32 => wp (ab_ext L xs) J_Tree_tagOf 2 [(0, .ref v0), (1, .long v1), (3, .int s)] [] (hp g) Q) (E := fun r => cL_Tree_tagOf_2 L xs Q v0 v1 g (.inr r)) (fun s out e c => y_Tree_tagOf_2 e (by cases out <;> exact c)) e c
theorem L_Tree_tagOf_2_eq (v0 : Nat) (v1 : Int64) (v3 : Int32) (g : g_S) : L_Tree_tagOf_2 v0 v1 v3 g = itc (b_Tree_tagOf_2 v0 v1 v3 g) (fun s => L_Tree_tagOf_2 v0 v1 s g) := it_eq2 (fun s : Int32 => b_Tree_tagOf_2 v0 v1 s g) (v3)
noncomputable def M_Tree_tagOf (v0 : Nat) (v1 : Int64) (g : g_S) : Option Int32 :=
  (L_Tree_tagOf_2 v0 v1 0 g).bind <| fun z3 =>
  some z3
set_option maxRecDepth 20000 in
theorem d_Tree_tagOf {L : Nat} {xs : Nat → Int32} {Q : Option Value → ab_H → Prop} {v0 : Nat} {v1 : Int64} {g : g_S} {out : Int32} (e : M_Tree_tagOf v0 v1 g = some out) (c : Q (some (.int out)) (hp g)) : mw (ab_ext L xs) J_Tree_tagOf [.ref v0, .long v1] (hp g) Q := by
  unfold M_Tree_tagOf at e
  refine wp_p (j := J_Tree_tagOf) 2 (pc' := 2) (lv' := [(3, .int 0), (0, .ref v0), (1, .long v1)]) (st' := []) rfl ?_
  obtain ⟨z3, h2, e⟩ := bd e
  refine wp_lv (lv' := [(0, .ref v0), (1, .long v1), (3, .int 0)]) rfl ⟨rfl, rfl, rfl, trivial⟩ ?_
  refine l_Tree_tagOf_2 h2 ?_
  show wp (ab_ext L xs) J_Tree_tagOf 25 [(3, .int z3)] [] (hp g) Q
  refine wp_p (j := J_Tree_tagOf) 1 (pc' := 26) (lv' := [(3, .int z3)]) (st' := [.int z3]) rfl ?_
  have e := Option.some.inj e; subst e; exact wp_iret (ty := .int) rfl rfl rfl c
def cL_Reader_openOf_7 (L : Nat) (xs : Nat → Int32) (Q : Option Value → ab_H → Prop) (v0 : Nat) (v1 : Int32) (g : g_S) (out : (Int32) ⊕ (Int32)) : Prop := match out with
  | .inl s => wp (ab_ext L xs) J_Reader_openOf 7 [(0, .ref v0), (1, .int v1), (2, .int s)] [] (hp g) Q
  | .inr s => wp (ab_ext L xs) J_Reader_openOf 38 [(2, .int s)] [] (hp g) Q
noncomputable def b_Reader_openOf_7 (v0 : Nat) (v1 : Int32) (v2 : Int32) (g : g_S) : Option ((Int32) ⊕ (Int32)) :=
  if 0 < v2 then
    (rQ g 108 v0 0).bind fun z1 =>
    (rQ g 110 z1 0).bind fun z2 =>
    (rQ g 108 v0 4).bind fun z3 =>
    (aI g 0 z3 v2).bind fun z4 =>
    (aQ g 5 z2 z4).bind fun z5 =>
    (rI g 107 z5 0).bind fun z6 =>
    if z6 = v1 then
      some (.inr v2)
    else
      some (.inl (v2 + (-1)))
  else
    some (.inr v2)
set_option maxRecDepth 20000 in
theorem y_Reader_openOf_7 {L : Nat} {xs : Nat → Int32} {Q : Option Value → ab_H → Prop} {v0 : Nat} {v1 : Int32} {v2 : Int32} {g : g_S} {out : (Int32) ⊕ (Int32)} (e : b_Reader_openOf_7 v0 v1 v2 g = some out) (c : cL_Reader_openOf_7 L xs Q v0 v1 g out) : wp (ab_ext L xs) J_Reader_openOf 7 [(0, .ref v0), (1, .int v1), (2, .int v2)] [] (hp g) Q := by
  unfold b_Reader_openOf_7 at e
  refine wp_p (j := J_Reader_openOf) 1 (pc' := 8) (lv' := [(0, .ref v0), (1, .int v1), (2, .int v2)]) (st' := [.int v2]) rfl ?_
  refine z_le e rfl (fun e => ?_) (fun e => ?_)
  · refine wp_p (j := J_Reader_openOf) 1 (pc' := 12) (lv' := [(0, .ref v0), (1, .int v1), (2, .int v2)]) (st' := [.ref v0]) rfl ?_
    refine x_gQ e rfl rfl fd_8_0 rfl (fun z1 e => ?_)
    refine x_gQ e rfl rfl fd_10_0 rfl (fun z2 e => ?_)
    refine wp_p (j := J_Reader_openOf) 1 (pc' := 19) (lv' := [(0, .ref v0), (1, .int v1), (2, .int v2)]) (st' := [.ref v0, .ref z2]) rfl ?_
    refine x_gQ e rfl rfl fd_8_4 rfl (fun z3 e => ?_)
    refine wp_p (j := J_Reader_openOf) 1 (pc' := 23) (lv' := [(0, .ref v0), (1, .int v1), (2, .int v2)]) (st' := [.int v2, .ref z3, .ref z2]) rfl ?_
    refine x_aI e rfl rfl (fun z4 e => ?_)
    refine x_aQ e rfl rfl rfl (fun z5 e => ?_)
    refine x_gI e rfl rfl fd_7_0 rfl (fun z6 e => ?_)
    refine wp_p (j := J_Reader_openOf) 1 (pc' := 29) (lv' := [(0, .ref v0), (1, .int v1), (2, .int v2)]) (st' := [.int v1, .int z6]) rfl ?_
    refine x_eq e rfl (fun e => ?_) (fun e => ?_)
    · have e := Option.some.inj e; subst e; exact wp_lv (lv' := [(2, .int v2)]) rfl ⟨rfl, trivial⟩ c
    · refine wp_p (j := J_Reader_openOf) 2 (pc' := 7) (lv' := [(2, .int (v2 + (-1))), (0, .ref v0), (1, .int v1)]) (st' := []) rfl ?_
      have e := Option.some.inj e; subst e; exact wp_lv (lv' := [(0, .ref v0), (1, .int v1), (2, .int (v2 + (-1)))]) rfl ⟨rfl, rfl, rfl, trivial⟩ c
  · have e := Option.some.inj e; subst e; exact wp_lv (lv' := [(2, .int v2)]) rfl ⟨rfl, trivial⟩ c
noncomputable def L_Reader_openOf_7 (v0 : Nat) (v1 : Int32) (v2 : Int32) (g : g_S) : Option (Int32) := it (fun s : Int32 => b_Reader_openOf_7 v0 v1 s g) (v2)
theorem l_Reader_openOf_7 {L : Nat} {xs : Nat → Int32} {Q : Option Value → ab_H → Prop} {v0 : Nat} {v1 : Int32} {v2 : Int32} {g : g_S} {r : Int32} (e : L_Reader_openOf_7 v0 v1 v2 g = some r) (c : cL_Reader_openOf_7 L xs Q v0 v1 g (.inr r)) : wp (ab_ext L xs) J_Reader_openOf 7 [(0, .ref v0), (1, .int v1), (2, .int v2)] [] (hp g) Q :=
  it_wp (P := fun s : Int32 => wp (ab_ext L xs) J_Reader_openOf 7 [(0, .ref v0), (1, .int v1), (2, .int s)] [] (hp g) Q) (E := fun r => cL_Reader_openOf_7 L xs Q v0 v1 g (.inr r)) (fun s out e c => y_Reader_openOf_7 e (by cases out <;> exact c)) e c
theorem L_Reader_openOf_7_eq (v0 : Nat) (v1 : Int32) (v2 : Int32) (g : g_S) : L_Reader_openOf_7 v0 v1 v2 g = itc (b_Reader_openOf_7 v0 v1 v2 g) (fun s => L_Reader_openOf_7 v0 v1 s g) := it_eq2 (fun s : Int32 => b_Reader_openOf_7 v0 v1 s g) (v2)
noncomputable def M_Reader_openOf (v0 : Nat) (v1 : Int32) (g : g_S) : Option Int32 :=
  (rI g 108 v0 6).bind fun z1 =>
  (L_Reader_openOf_7 v0 v1 (z1 - 1) g).bind <| fun z4 =>
  some z4
set_option maxRecDepth 20000 in
theorem d_Reader_openOf {L : Nat} {xs : Nat → Int32} {Q : Option Value → ab_H → Prop} {v0 : Nat} {v1 : Int32} {g : g_S} {out : Int32} (e : M_Reader_openOf v0 v1 g = some out) (c : Q (some (.int out)) (hp g)) : mw (ab_ext L xs) J_Reader_openOf [.ref v0, .int v1] (hp g) Q := by
  unfold M_Reader_openOf at e
  refine wp_p (j := J_Reader_openOf) 1 (pc' := 1) (lv' := [(0, .ref v0), (1, .int v1)]) (st' := [.ref v0]) rfl ?_
  refine x_gI e rfl rfl fd_8_6 rfl (fun z1 e => ?_)
  refine wp_p (j := J_Reader_openOf) 3 (pc' := 7) (lv' := [(2, .int (z1 - 1)), (0, .ref v0), (1, .int v1)]) (st' := []) rfl ?_
  obtain ⟨z4, h3, e⟩ := bd e
  refine wp_lv (lv' := [(0, .ref v0), (1, .int v1), (2, .int (z1 - 1))]) rfl ⟨rfl, rfl, rfl, trivial⟩ ?_
  refine l_Reader_openOf_7 h3 ?_
  show wp (ab_ext L xs) J_Reader_openOf 38 [(2, .int z4)] [] (hp g) Q
  refine wp_p (j := J_Reader_openOf) 1 (pc' := 39) (lv' := [(2, .int z4)]) (st' := [.int z4]) rfl ?_
  have e := Option.some.inj e; subst e; exact wp_iret (ty := .int) rfl rfl rfl c
noncomputable def k_Reader_closeTag_15 (v2 : Int32) (g : g_S) : Option (Int32 × g_S) :=
  if 0 < v2 then
    some (1, g)
  else
    some (0, g)
set_option maxRecDepth 20000 in
theorem x_Reader_closeTag_15 {L : Nat} {xs : Nat → Int32} {Q : Option Value → ab_H → Prop} {v2 : Int32} {g : g_S} {out : Int32 × g_S} (e : k_Reader_closeTag_15 v2 g = some out) (c : Q (some (.int out.1)) (hp out.2)) : wp (ab_ext L xs) J_Reader_closeTag 15 [(2, .int v2)] [] (hp g) Q := by
  unfold k_Reader_closeTag_15 at e
  refine wp_p (j := J_Reader_closeTag) 1 (pc' := 16) (lv' := [(2, .int v2)]) (st' := [.int v2]) rfl ?_
  refine z_le e rfl (fun e => ?_) (fun e => ?_)
  · refine wp_p (j := J_Reader_closeTag) 2 (pc' := 24) (lv' := [(2, .int v2)]) (st' := [.int 1]) rfl ?_
    have e := Option.some.inj e; subst e; exact wp_iret (ty := .boolean) rfl rfl (by decide) c
  · refine wp_p (j := J_Reader_closeTag) 1 (pc' := 24) (lv' := [(2, .int v2)]) (st' := [.int 0]) rfl ?_
    have e := Option.some.inj e; subst e; exact wp_iret (ty := .boolean) rfl rfl (by decide) c
noncomputable def M_Reader_closeTag (v0 : Nat) (v1 : Int32) (g : g_S) : Option (Int32 × g_S) :=
  (vc g 108 v0 (M_Reader_openOf v0 v1 g)).bind fun z1 =>
  if 0 < z1 then
    (vc g 108 v0 (M_Reader_closeTo v0 z1 g)).bind fun g2 =>
    k_Reader_closeTag_15 z1 g2
  else
    k_Reader_closeTag_15 z1 g
set_option maxRecDepth 20000 in
theorem d_Reader_closeTag {L : Nat} {xs : Nat → Int32} {Q : Option Value → ab_H → Prop} {v0 : Nat} {v1 : Int32} {g : g_S} {out : Int32 × g_S} (e : M_Reader_closeTag v0 v1 g = some out) (c : Q (some (.int out.1)) (hp out.2)) : mw (ab_ext L xs) J_Reader_closeTag [.ref v0, .int v1] (hp g) Q := by
  unfold M_Reader_closeTag at e
  refine wp_p (j := J_Reader_closeTag) 2 (pc' := 2) (lv' := [(0, .ref v0), (1, .int v1)]) (st' := [.int v1, .ref v0]) rfl ?_
  refine x_cv1 (As := [.int v1]) (rest := []) Value.int e rfl rfl rfl rfl rfl rfl (fun h => d_Reader_openOf h ⟨rfl, rfl⟩) (fun z1 e => ?_)
  refine wp_p (j := J_Reader_closeTag) 2 (pc' := 7) (lv' := [(2, .int z1), (0, .ref v0), (1, .int v1)]) (st' := [.int z1]) rfl ?_
  refine z_le e rfl (fun e => ?_) (fun e => ?_)
  · refine wp_p (j := J_Reader_closeTag) 2 (pc' := 12) (lv' := [(2, .int z1), (0, .ref v0), (1, .int v1)]) (st' := [.int z1, .ref v0]) rfl ?_
    refine x_cv0 (As := [.int z1]) (rest := []) e rfl rfl rfl rfl rfl rfl (fun h => d_Reader_closeTo h ⟨rfl, rfl⟩) (fun g2 e => ?_)
    exact wp_lv (lv' := [(2, .int z1)]) rfl ⟨rfl, trivial⟩ (x_Reader_closeTag_15 e c)
  · exact wp_lv (lv' := [(2, .int z1)]) rfl ⟨rfl, trivial⟩ (x_Reader_closeTag_15 e c)
def cL_Node_copyAttributes_10 (L : Nat) (xs : Nat → Int32) (Q : Option Value → ab_H → Prop) (v0 : Nat) (v1 : Nat) (out : (Int32 × g_S) ⊕ (g_S)) : Prop := match out with
  | .inl s => wp (ab_ext L xs) J_Node_copyAttributes 10 [(0, .ref v0), (1, .ref v1), (2, .int s.1)] [] (hp s.2) Q
  | .inr s => wp (ab_ext L xs) J_Node_copyAttributes 73 [] [] (hp s) Q
noncomputable def b_Node_copyAttributes_10 (v0 : Nat) (v1 : Nat) (v2 : Int32) (g : g_S) : Option ((Int32 × g_S) ⊕ (g_S)) :=
  (rI g 107 v0 12).bind fun z1 =>
  if v2 < z1 then
    (rQ g 107 v0 13).bind fun z2 =>
    (rQ g 107 v1 13).bind fun z3 =>
    (aL g z3 v2).bind fun z4 =>
    (sL g z2 v2 z4).bind fun g5 =>
    (rQ g5 107 v0 14).bind fun z6 =>
    (aQ g5 4 z6 v2).bind fun z7 =>
    (vc g5 104 z7 (M_Bytes_clear z7 g5)).bind fun g8 =>
    (rQ g8 107 v0 14).bind fun z9 =>
    (aQ g8 4 z9 v2).bind fun z10 =>
    (rQ g8 107 v1 14).bind fun z11 =>
    (aQ g8 4 z11 v2).bind fun z12 =>
    (rQ g8 104 z12 1).bind fun z13 =>
    (rQ g8 107 v1 14).bind fun z14 =>
    (aQ g8 4 z14 v2).bind fun z15 =>
    (rI g8 104 z15 2).bind fun z16 =>
    (vc g8 104 z10 (M_Bytes_addAll z10 z13 0 z16 g8)).bind fun g17 =>
    some (.inl (v2 + 1, g17))
  else
    some (.inr g)
set_option maxRecDepth 20000 in
theorem y_Node_copyAttributes_10 {L : Nat} {xs : Nat → Int32} {Q : Option Value → ab_H → Prop} {v0 : Nat} {v1 : Nat} {v2 : Int32} {g : g_S} {out : (Int32 × g_S) ⊕ (g_S)} (e : b_Node_copyAttributes_10 v0 v1 v2 g = some out) (c : cL_Node_copyAttributes_10 L xs Q v0 v1 out) : wp (ab_ext L xs) J_Node_copyAttributes 10 [(0, .ref v0), (1, .ref v1), (2, .int v2)] [] (hp g) Q := by
  unfold b_Node_copyAttributes_10 at e
  refine wp_p (j := J_Node_copyAttributes) 2 (pc' := 12) (lv' := [(0, .ref v0), (1, .ref v1), (2, .int v2)]) (st' := [.ref v0, .int v2]) rfl ?_
  refine x_gI e rfl rfl fd_7_12 rfl (fun z1 e => ?_)
  refine x_ge e rfl (fun e => ?_) (fun e => ?_)
  · refine wp_p (j := J_Node_copyAttributes) 1 (pc' := 19) (lv' := [(0, .ref v0), (1, .ref v1), (2, .int v2)]) (st' := [.ref v0]) rfl ?_
    refine x_gQ e rfl rfl fd_7_13 rfl (fun z2 e => ?_)
    refine wp_p (j := J_Node_copyAttributes) 2 (pc' := 24) (lv' := [(0, .ref v0), (1, .ref v1), (2, .int v2)]) (st' := [.ref v1, .int v2, .ref z2]) rfl ?_
    refine x_gQ e rfl rfl fd_7_13 rfl (fun z3 e => ?_)
    refine wp_p (j := J_Node_copyAttributes) 1 (pc' := 28) (lv' := [(0, .ref v0), (1, .ref v1), (2, .int v2)]) (st' := [.int v2, .ref z3, .int v2, .ref z2]) rfl ?_
    refine x_aL e rfl rfl (fun z4 e => ?_)
    refine x_sL e rfl rfl (fun g5 e => ?_)
    refine wp_p (j := J_Node_copyAttributes) 1 (pc' := 31) (lv' := [(0, .ref v0), (1, .ref v1), (2, .int v2)]) (st' := [.ref v0]) rfl ?_
    refine x_gQ e rfl rfl fd_7_14 rfl (fun z6 e => ?_)
    refine wp_p (j := J_Node_copyAttributes) 1 (pc' := 35) (lv' := [(0, .ref v0), (1, .ref v1), (2, .int v2)]) (st' := [.int v2, .ref z6]) rfl ?_
    refine x_aQ e rfl rfl rfl (fun z7 e => ?_)
    refine x_cv0 (As := []) (rest := []) e rfl rfl rfl rfl rfl rfl (fun h => d_Bytes_clear h ⟨rfl, rfl⟩) (fun g8 e => ?_)
    refine wp_p (j := J_Node_copyAttributes) 1 (pc' := 40) (lv' := [(0, .ref v0), (1, .ref v1), (2, .int v2)]) (st' := [.ref v0]) rfl ?_
    refine x_gQ e rfl rfl fd_7_14 rfl (fun z9 e => ?_)
    refine wp_p (j := J_Node_copyAttributes) 1 (pc' := 44) (lv' := [(0, .ref v0), (1, .ref v1), (2, .int v2)]) (st' := [.int v2, .ref z9]) rfl ?_
    refine x_aQ e rfl rfl rfl (fun z10 e => ?_)
    refine wp_p (j := J_Node_copyAttributes) 1 (pc' := 46) (lv' := [(0, .ref v0), (1, .ref v1), (2, .int v2)]) (st' := [.ref v1, .ref z10]) rfl ?_
    refine x_gQ e rfl rfl fd_7_14 rfl (fun z11 e => ?_)
    refine wp_p (j := J_Node_copyAttributes) 1 (pc' := 50) (lv' := [(0, .ref v0), (1, .ref v1), (2, .int v2)]) (st' := [.int v2, .ref z11, .ref z10]) rfl ?_
    refine x_aQ e rfl rfl rfl (fun z12 e => ?_)
    refine x_gQ e rfl rfl fd_4_1 rfl (fun z13 e => ?_)
    refine wp_p (j := J_Node_copyAttributes) 2 (pc' := 56) (lv' := [(0, .ref v0), (1, .ref v1), (2, .int v2)]) (st' := [.ref v1, .int 0, .ref z13, .ref z10]) rfl ?_
    refine x_gQ e rfl rfl fd_7_14 rfl (fun z14 e => ?_)
    refine wp_p (j := J_Node_copyAttributes) 1 (pc' := 60) (lv' := [(0, .ref v0), (1, .ref v1), (2, .int v2)]) (st' := [.int v2, .ref z14, .int 0, .ref z13, .ref z10]) rfl ?_
    refine x_aQ e rfl rfl rfl (fun z15 e => ?_)
    refine x_gI e rfl rfl fd_4_2 rfl (fun z16 e => ?_)
    refine x_cv0 (As := [.ref z13, .int 0, .int z16]) (rest := []) e rfl rfl rfl rfl rfl rfl (fun h => d_Bytes_addAll h ⟨rfl, rfl⟩) (fun g17 e => ?_)
    refine wp_p (j := J_Node_copyAttributes) 2 (pc' := 10) (lv' := [(2, .int (v2 + 1)), (0, .ref v0), (1, .ref v1)]) (st' := []) rfl ?_
    have e := Option.some.inj e; subst e; exact wp_lv (lv' := [(0, .ref v0), (1, .ref v1), (2, .int (v2 + 1))]) rfl ⟨rfl, rfl, rfl, trivial⟩ c
  · have e := Option.some.inj e; subst e; exact wp_lv (lv' := []) rfl trivial c
noncomputable def L_Node_copyAttributes_10 (v0 : Nat) (v1 : Nat) (v2 : Int32) (g : g_S) : Option (g_S) := it (fun s : Int32 × g_S => b_Node_copyAttributes_10 v0 v1 s.1 s.2) (v2, g)
theorem l_Node_copyAttributes_10 {L : Nat} {xs : Nat → Int32} {Q : Option Value → ab_H → Prop} {v0 : Nat} {v1 : Nat} {v2 : Int32} {g : g_S} {r : g_S} (e : L_Node_copyAttributes_10 v0 v1 v2 g = some r) (c : cL_Node_copyAttributes_10 L xs Q v0 v1 (.inr r)) : wp (ab_ext L xs) J_Node_copyAttributes 10 [(0, .ref v0), (1, .ref v1), (2, .int v2)] [] (hp g) Q :=
  it_wp (P := fun s : Int32 × g_S => wp (ab_ext L xs) J_Node_copyAttributes 10 [(0, .ref v0), (1, .ref v1), (2, .int s.1)] [] (hp s.2) Q) (E := fun r => cL_Node_copyAttributes_10 L xs Q v0 v1 (.inr r)) (fun s out e c => y_Node_copyAttributes_10 e (by cases out <;> exact c)) e c
theorem L_Node_copyAttributes_10_eq (v0 : Nat) (v1 : Nat) (v2 : Int32) (g : g_S) : L_Node_copyAttributes_10 v0 v1 v2 g = itc (b_Node_copyAttributes_10 v0 v1 v2 g) (fun s => L_Node_copyAttributes_10 v0 v1 s.1 s.2) := it_eq2 (fun s : Int32 × g_S => b_Node_copyAttributes_10 v0 v1 s.1 s.2) (v2, g)
noncomputable def M_Node_copyAttributes (v0 : Nat) (v1 : Nat) (g : g_S) : Option g_S :=
  (rI g 107 v1 12).bind fun z1 =>
  (wI g 107 v0 12 z1).bind fun g2 =>
  (L_Node_copyAttributes_10 v0 v1 0 g2).bind <| fun g5 =>
  some g5
set_option maxRecDepth 20000 in
theorem d_Node_copyAttributes {L : Nat} {xs : Nat → Int32} {Q : Option Value → ab_H → Prop} {v0 : Nat} {v1 : Nat} {g : g_S} {out : g_S} (e : M_Node_copyAttributes v0 v1 g = some out) (c : Q none (hp out)) : mw (ab_ext L xs) J_Node_copyAttributes [.ref v0, .ref v1] (hp g) Q := by
  unfold M_Node_copyAttributes at e
  refine wp_p (j := J_Node_copyAttributes) 2 (pc' := 2) (lv' := [(0, .ref v0), (1, .ref v1)]) (st' := [.ref v1, .ref v0]) rfl ?_
  refine x_gI e rfl rfl fd_7_12 rfl (fun z1 e => ?_)
  refine x_pI e rfl rfl fw_7_12 rfl (fun g2 e => ?_)
  refine wp_p (j := J_Node_copyAttributes) 2 (pc' := 10) (lv' := [(2, .int 0), (0, .ref v0), (1, .ref v1)]) (st' := []) rfl ?_
  obtain ⟨g5, h4, e⟩ := bd e
  refine wp_lv (lv' := [(0, .ref v0), (1, .ref v1), (2, .int 0)]) rfl ⟨rfl, rfl, rfl, trivial⟩ ?_
  refine l_Node_copyAttributes_10 h4 ?_
  show wp (ab_ext L xs) J_Node_copyAttributes 73 [] [] (hp g5) Q
  have e := Option.some.inj e; subst e; exact wp_vret rfl rfl c
noncomputable def M_Node_setValue (v0 : Nat) (v1 : Nat) (v2 : Int32) (v3 : Int32) (g : g_S) : Option g_S :=
  (rQ g 107 v0 11).bind fun z1 =>
  (vc g 104 z1 (M_Bytes_clear z1 g)).bind fun g2 =>
  (rQ g2 107 v0 11).bind fun z3 =>
  (vc g2 104 z3 (M_Bytes_addAll z3 v1 v2 (mn v3 (v2 + 24)) g2)).bind fun g4 =>
  some g4
set_option maxRecDepth 20000 in
theorem d_Node_setValue {L : Nat} {xs : Nat → Int32} {Q : Option Value → ab_H → Prop} {v0 : Nat} {v1 : Nat} {v2 : Int32} {v3 : Int32} {g : g_S} {out : g_S} (e : M_Node_setValue v0 v1 v2 v3 g = some out) (c : Q none (hp out)) : mw (ab_ext L xs) J_Node_setValue [.ref v0, .ref v1, .int v2, .int v3] (hp g) Q := by
  unfold M_Node_setValue at e
  refine wp_p (j := J_Node_setValue) 1 (pc' := 1) (lv' := [(0, .ref v0), (1, .ref v1), (2, .int v2), (3, .int v3)]) (st' := [.ref v0]) rfl ?_
  refine x_gQ e rfl rfl fd_7_11 rfl (fun z1 e => ?_)
  refine x_cv0 (As := []) (rest := []) e rfl rfl rfl rfl rfl rfl (fun h => d_Bytes_clear h ⟨rfl, rfl⟩) (fun g2 e => ?_)
  refine wp_p (j := J_Node_setValue) 1 (pc' := 8) (lv' := [(0, .ref v0), (1, .ref v1), (2, .int v2), (3, .int v3)]) (st' := [.ref v0]) rfl ?_
  refine x_gQ e rfl rfl fd_7_11 rfl (fun z3 e => ?_)
  refine wp_p (j := J_Node_setValue) 6 (pc' := 18) (lv' := [(0, .ref v0), (1, .ref v1), (2, .int v2), (3, .int v3)]) (st' := [.int (v2 + 24), .int v3, .int v2, .ref v1, .ref z3]) rfl ?_
  refine x_mn rfl rfl ?_
  refine x_cv0 (As := [.ref v1, .int v2, .int (mn v3 (v2 + 24))]) (rest := []) e rfl rfl rfl rfl rfl rfl (fun h => d_Bytes_addAll h ⟨rfl, rfl⟩) (fun g4 e => ?_)
  have e := Option.some.inj e; subst e; exact wp_vret rfl rfl c
noncomputable def M_Bytes_is (v0 : Nat) (v1 : Nat) (g : g_S) : Option Int32 :=
  (rI g 104 v0 2).bind fun z1 =>
  (tN v1).bind fun z2 =>
  if z1 = z2 then
    (rQ g 104 v0 1).bind fun z3 =>
    (rI g 104 v0 2).bind fun z4 =>
    (M_Bytes_stands v1 z3 0 z4 g).bind fun z5 =>
    if z5 = 0 then
      some 0
    else
      some 1
  else
    some 0
set_option maxRecDepth 20000 in
theorem d_Bytes_is {L : Nat} {xs : Nat → Int32} {Q : Option Value → ab_H → Prop} {v0 : Nat} {v1 : Nat} {g : g_S} {out : Int32} (e : M_Bytes_is v0 v1 g = some out) (c : Q (some (.int out)) (hp g)) : mw (ab_ext L xs) J_Bytes_is [.ref v0, .ref v1] (hp g) Q := by
  unfold M_Bytes_is at e
  refine wp_p (j := J_Bytes_is) 1 (pc' := 1) (lv' := [(0, .ref v0), (1, .ref v1)]) (st' := [.ref v0]) rfl ?_
  refine x_gI e rfl rfl fd_4_2 rfl (fun z1 e => ?_)
  refine wp_p (j := J_Bytes_is) 1 (pc' := 5) (lv' := [(0, .ref v0), (1, .ref v1)]) (st' := [.ref v1, .int z1]) rfl ?_
  refine x_tN e rfl rfl (fun z2 e => ?_)
  refine x_ne e rfl (fun e => ?_) (fun e => ?_)
  · refine wp_p (j := J_Bytes_is) 2 (pc' := 13) (lv' := [(0, .ref v0), (1, .ref v1)]) (st' := [.ref v0, .ref v1]) rfl ?_
    refine x_gQ e rfl rfl fd_4_1 rfl (fun z3 e => ?_)
    refine wp_p (j := J_Bytes_is) 2 (pc' := 18) (lv' := [(0, .ref v0), (1, .ref v1)]) (st' := [.ref v0, .int 0, .ref z3, .ref v1]) rfl ?_
    refine x_gI e rfl rfl fd_4_2 rfl (fun z4 e => ?_)
    refine x_cs1 (As := [.ref v1, .ref z3, .int 0, .int z4]) (rest := []) Value.int e rfl rfl rfl rfl rfl (fun h => d_Bytes_stands h ⟨rfl, rfl⟩) (fun z5 e => ?_)
    refine z_eq e rfl (fun e => ?_) (fun e => ?_)
    · refine wp_p (j := J_Bytes_is) 1 (pc' := 32) (lv' := [(0, .ref v0), (1, .ref v1)]) (st' := [.int 0]) rfl ?_
      have e := Option.some.inj e; subst e; exact wp_iret (ty := .boolean) rfl rfl (by decide) c
    · refine wp_p (j := J_Bytes_is) 2 (pc' := 32) (lv' := [(0, .ref v0), (1, .ref v1)]) (st' := [.int 1]) rfl ?_
      have e := Option.some.inj e; subst e; exact wp_iret (ty := .boolean) rfl rfl (by decide) c
  · refine wp_p (j := J_Bytes_is) 1 (pc' := 32) (lv' := [(0, .ref v0), (1, .ref v1)]) (st' := [.int 0]) rfl ?_
    have e := Option.some.inj e; subst e; exact wp_iret (ty := .boolean) rfl rfl (by decide) c
noncomputable def k_Node_startInput_84 (w0 : Int32) (w1 : Nat) (g : g_S) : Option g_S :=
  (wZ g 107 w1 16 w0).bind fun g1 =>
  some g1
set_option maxRecDepth 20000 in
theorem x_Node_startInput_84 {L : Nat} {xs : Nat → Int32} {Q : Option Value → ab_H → Prop} {w0 : Int32} {w1 : Nat} {g : g_S} {out : g_S} (e : k_Node_startInput_84 w0 w1 g = some out) (c : Q none (hp out)) : wp (ab_ext L xs) J_Node_startInput 84 [] [.int w0, .ref w1] (hp g) Q := by
  unfold k_Node_startInput_84 at e
  refine x_pZ e rfl rfl fw_7_16 rfl (fun g1 e => ?_)
  have e := Option.some.inj e; subst e; exact wp_vret rfl rfl c
noncomputable def k_Node_startInput_83 (w0 : Nat) (g : g_S) : Option g_S :=
  k_Node_startInput_84 0 w0 g
set_option maxRecDepth 20000 in
theorem x_Node_startInput_83 {L : Nat} {xs : Nat → Int32} {Q : Option Value → ab_H → Prop} {w0 : Nat} {g : g_S} {out : g_S} (e : k_Node_startInput_83 w0 g = some out) (c : Q none (hp out)) : wp (ab_ext L xs) J_Node_startInput 83 [] [.ref w0] (hp g) Q := by
  unfold k_Node_startInput_83 at e
  refine wp_p (j := J_Node_startInput) 1 (pc' := 84) (lv' := []) (st' := [.int 0, .ref w0]) rfl ?_
  exact wp_lv (lv' := []) rfl trivial (x_Node_startInput_84 e c)
noncomputable def k_Node_startInput_56 (v0 : Nat) (w0 : Int32) (w1 : Nat) (g : g_S) : Option g_S :=
  (wZ g 107 w1 15 w0).bind fun g1 =>
  (rI g1 107 v0 15).bind fun z2 =>
  if z2 = 0 then
    k_Node_startInput_83 v0 g1
  else
    (M_Bytes_pack_1 1000018 g1).bind fun z3 =>
    (vc g1 107 v0 (M_Node_find v0 z3 g1)).bind fun z4 =>
    oc z4
      (fun q5 =>
      k_Node_startInput_84 1 v0 g1)
      (
      k_Node_startInput_83 v0 g1)
set_option maxRecDepth 20000 in
theorem x_Node_startInput_56 {L : Nat} {xs : Nat → Int32} {Q : Option Value → ab_H → Prop} {v0 : Nat} {w0 : Int32} {w1 : Nat} {g : g_S} {out : g_S} (e : k_Node_startInput_56 v0 w0 w1 g = some out) (c : Q none (hp out)) : wp (ab_ext L xs) J_Node_startInput 56 [(0, .ref v0)] [.int w0, .ref w1] (hp g) Q := by
  unfold k_Node_startInput_56 at e
  refine x_pZ e rfl rfl fw_7_15 rfl (fun g1 e => ?_)
  refine wp_p (j := J_Node_startInput) 2 (pc' := 61) (lv' := [(0, .ref v0)]) (st' := [.ref v0, .ref v0]) rfl ?_
  refine x_gI e rfl rfl fd_7_15 rfl (fun z2 e => ?_)
  refine z_eq e rfl (fun e => ?_) (fun e => ?_)
  · exact wp_lv (lv' := []) rfl trivial (x_Node_startInput_83 e c)
  · refine wp_p (j := J_Node_startInput) 1 (pc' := 68) (lv' := [(0, .ref v0)]) (st' := [.ref v0, .ref v0]) rfl ?_
    refine x_ls rfl rfl ?_
    refine x_cs1 (As := [.ref 1000018]) (rest := [.ref v0, .ref v0]) Value.long e rfl rfl rfl rfl rfl (fun h => d_Bytes_pack_1 h ⟨rfl, rfl⟩) (fun z3 e => ?_)
    refine x_cv1 (As := [.long z3]) (rest := [.ref v0]) va_rf e rfl rfl rfl rfl rfl rfl (fun h => d_Node_find h ⟨rfl, rfl⟩) (fun z4 e => ?_)
    rcases z4 with _ | q5
    · replace e := oc_n e
      show wp (ab_ext L xs) J_Node_startInput 76 [(0, .ref v0)] [.null, .ref v0] (hp g1) Q
      refine wp_b (pc' := 83) (st' := [.ref v0]) rfl rfl rfl ?_
      exact wp_lv (lv' := []) rfl trivial (x_Node_startInput_83 e c)
    · replace e := oc_s e
      show wp (ab_ext L xs) J_Node_startInput 76 [(0, .ref v0)] [.ref q5, .ref v0] (hp g1) Q
      refine wp_b (pc' := 79) (st' := [.ref v0]) rfl rfl rfl ?_
      refine wp_p (j := J_Node_startInput) 2 (pc' := 84) (lv' := [(0, .ref v0)]) (st' := [.int 1, .ref v0]) rfl ?_
      exact wp_lv (lv' := []) rfl trivial (x_Node_startInput_84 e c)
noncomputable def k_Node_startInput_55 (v0 : Nat) (w0 : Nat) (g : g_S) : Option g_S :=
  k_Node_startInput_56 v0 0 w0 g
set_option maxRecDepth 20000 in
theorem x_Node_startInput_55 {L : Nat} {xs : Nat → Int32} {Q : Option Value → ab_H → Prop} {v0 : Nat} {w0 : Nat} {g : g_S} {out : g_S} (e : k_Node_startInput_55 v0 w0 g = some out) (c : Q none (hp out)) : wp (ab_ext L xs) J_Node_startInput 55 [(0, .ref v0)] [.ref w0] (hp g) Q := by
  unfold k_Node_startInput_55 at e
  refine wp_p (j := J_Node_startInput) 1 (pc' := 56) (lv' := [(0, .ref v0)]) (st' := [.int 0, .ref w0]) rfl ?_
  exact wp_lv (lv' := [(0, .ref v0)]) rfl ⟨rfl, trivial⟩ (x_Node_startInput_56 e c)
noncomputable def k_Node_startInput_27 (v0 : Nat) (g : g_S) : Option g_S :=
  (M_Bytes_pack_1 1000016 g).bind fun z1 =>
  (vc g 107 v0 (M_Node_find v0 z1 g)).bind fun z2 =>
  oc z2
    (fun q3 =>
    (vc g 104 q3 (M_Bytes_is q3 1000017 g)).bind fun z4 =>
    if z4 = 0 then
      k_Node_startInput_55 v0 v0 g
    else
      k_Node_startInput_56 v0 1 v0 g)
    (
    k_Node_startInput_55 v0 v0 g)
set_option maxRecDepth 20000 in
theorem x_Node_startInput_27 {L : Nat} {xs : Nat → Int32} {Q : Option Value → ab_H → Prop} {v0 : Nat} {g : g_S} {out : g_S} (e : k_Node_startInput_27 v0 g = some out) (c : Q none (hp out)) : wp (ab_ext L xs) J_Node_startInput 27 [(0, .ref v0)] [] (hp g) Q := by
  unfold k_Node_startInput_27 at e
  refine wp_p (j := J_Node_startInput) 1 (pc' := 28) (lv' := [(0, .ref v0)]) (st' := [.ref v0]) rfl ?_
  refine x_ls rfl rfl ?_
  refine x_cs1 (As := [.ref 1000016]) (rest := [.ref v0]) Value.long e rfl rfl rfl rfl rfl (fun h => d_Bytes_pack_1 h ⟨rfl, rfl⟩) (fun z1 e => ?_)
  refine x_cv1 (As := [.long z1]) (rest := []) va_rf e rfl rfl rfl rfl rfl rfl (fun h => d_Node_find h ⟨rfl, rfl⟩) (fun z2 e => ?_)
  rcases z2 with _ | q3
  · replace e := oc_n e
    show wp (ab_ext L xs) J_Node_startInput 36 [(0, .ref v0)] [.null] (hp g) Q
    refine wp_p (j := J_Node_startInput) 3 (pc' := 39) (lv' := [(2, .null), (0, .ref v0)]) (st' := [.null, .ref v0]) rfl ?_
    refine wp_b (pc' := 55) (st' := [.ref v0]) rfl rfl rfl ?_
    exact wp_lv (lv' := [(0, .ref v0)]) rfl ⟨rfl, trivial⟩ (x_Node_startInput_55 e c)
  · replace e := oc_s e
    show wp (ab_ext L xs) J_Node_startInput 36 [(0, .ref v0)] [.ref q3] (hp g) Q
    refine wp_p (j := J_Node_startInput) 3 (pc' := 39) (lv' := [(2, .ref q3), (0, .ref v0)]) (st' := [.ref q3, .ref v0]) rfl ?_
    refine wp_b (pc' := 42) (st' := [.ref v0]) rfl rfl rfl ?_
    refine wp_p (j := J_Node_startInput) 1 (pc' := 43) (lv' := [(2, .ref q3), (0, .ref v0)]) (st' := [.ref q3, .ref v0]) rfl ?_
    refine x_ls rfl rfl ?_
    refine x_cv1 (As := [.ref 1000017]) (rest := [.ref v0]) Value.int e rfl rfl rfl rfl rfl rfl (fun h => d_Bytes_is h ⟨rfl, rfl⟩) (fun z4 e => ?_)
    refine z_eq e rfl (fun e => ?_) (fun e => ?_)
    · exact wp_lv (lv' := [(0, .ref v0)]) rfl ⟨rfl, trivial⟩ (x_Node_startInput_55 e c)
    · refine wp_p (j := J_Node_startInput) 2 (pc' := 56) (lv' := [(2, .ref q3), (0, .ref v0)]) (st' := [.int 1, .ref v0]) rfl ?_
      exact wp_lv (lv' := [(0, .ref v0)]) rfl ⟨rfl, trivial⟩ (x_Node_startInput_56 e c)
noncomputable def M_Node_startInput (v0 : Nat) (g : g_S) : Option g_S :=
  (M_Bytes_pack_1 1000015 g).bind fun z1 =>
  (vc g 107 v0 (M_Node_find v0 z1 g)).bind fun z2 =>
  oc z2
    (fun q3 =>
    (rQ g 104 q3 1).bind fun z4 =>
    (rI g 104 q3 2).bind fun z5 =>
    (vc g 107 v0 (M_Node_setValue v0 z4 0 z5 g)).bind fun g6 =>
    k_Node_startInput_27 v0 g6)
    (
    k_Node_startInput_27 v0 g)
set_option maxRecDepth 20000 in
theorem d_Node_startInput {L : Nat} {xs : Nat → Int32} {Q : Option Value → ab_H → Prop} {v0 : Nat} {g : g_S} {out : g_S} (e : M_Node_startInput v0 g = some out) (c : Q none (hp out)) : mw (ab_ext L xs) J_Node_startInput [.ref v0] (hp g) Q := by
  unfold M_Node_startInput at e
  refine wp_p (j := J_Node_startInput) 1 (pc' := 1) (lv' := [(0, .ref v0)]) (st' := [.ref v0]) rfl ?_
  refine x_ls rfl rfl ?_
  refine x_cs1 (As := [.ref 1000015]) (rest := [.ref v0]) Value.long e rfl rfl rfl rfl rfl (fun h => d_Bytes_pack_1 h ⟨rfl, rfl⟩) (fun z1 e => ?_)
  refine x_cv1 (As := [.long z1]) (rest := []) va_rf e rfl rfl rfl rfl rfl rfl (fun h => d_Node_find h ⟨rfl, rfl⟩) (fun z2 e => ?_)
  rcases z2 with _ | q3
  · replace e := oc_n e
    show wp (ab_ext L xs) J_Node_startInput 9 [(0, .ref v0)] [.null] (hp g) Q
    refine wp_p (j := J_Node_startInput) 2 (pc' := 11) (lv' := [(1, .null), (0, .ref v0)]) (st' := [.null]) rfl ?_
    refine wp_b (pc' := 27) (st' := []) rfl rfl rfl ?_
    exact wp_lv (lv' := [(0, .ref v0)]) rfl ⟨rfl, trivial⟩ (x_Node_startInput_27 e c)
  · replace e := oc_s e
    show wp (ab_ext L xs) J_Node_startInput 9 [(0, .ref v0)] [.ref q3] (hp g) Q
    refine wp_p (j := J_Node_startInput) 2 (pc' := 11) (lv' := [(1, .ref q3), (0, .ref v0)]) (st' := [.ref q3]) rfl ?_
    refine wp_b (pc' := 14) (st' := []) rfl rfl rfl ?_
    refine wp_p (j := J_Node_startInput) 2 (pc' := 16) (lv' := [(1, .ref q3), (0, .ref v0)]) (st' := [.ref q3, .ref v0]) rfl ?_
    refine x_gQ e rfl rfl fd_4_1 rfl (fun z4 e => ?_)
    refine wp_p (j := J_Node_startInput) 2 (pc' := 21) (lv' := [(1, .ref q3), (0, .ref v0)]) (st' := [.ref q3, .int 0, .ref z4, .ref v0]) rfl ?_
    refine x_gI e rfl rfl fd_4_2 rfl (fun z5 e => ?_)
    refine x_cv0 (As := [.ref z4, .int 0, .int z5]) (rest := []) e rfl rfl rfl rfl rfl rfl (fun h => d_Node_setValue h ⟨rfl, rfl⟩) (fun g6 e => ?_)
    exact wp_lv (lv' := [(0, .ref v0)]) rfl ⟨rfl, trivial⟩ (x_Node_startInput_27 e c)
noncomputable def M_Node_isEmptyTag (v0 : Nat) (g : g_S) : Option Int32 :=
  (rI g 107 v0 0).bind fun z1 =>
  if z1 < 10 then
    some 0
  else
    (rI g 107 v0 0).bind fun z2 =>
    if 13 < z2 then
      some 0
    else
      some 1
set_option maxRecDepth 20000 in
theorem d_Node_isEmptyTag {L : Nat} {xs : Nat → Int32} {Q : Option Value → ab_H → Prop} {v0 : Nat} {g : g_S} {out : Int32} (e : M_Node_isEmptyTag v0 g = some out) (c : Q (some (.int out)) (hp g)) : mw (ab_ext L xs) J_Node_isEmptyTag [.ref v0] (hp g) Q := by
  unfold M_Node_isEmptyTag at e
  refine wp_p (j := J_Node_isEmptyTag) 1 (pc' := 1) (lv' := [(0, .ref v0)]) (st' := [.ref v0]) rfl ?_
  refine x_gI e rfl rfl fd_7_0 rfl (fun z1 e => ?_)
  refine wp_p (j := J_Node_isEmptyTag) 1 (pc' := 6) (lv' := [(0, .ref v0)]) (st' := [.int 10, .int z1]) rfl ?_
  refine x_lt e rfl (fun e => ?_) (fun e => ?_)
  · refine wp_p (j := J_Node_isEmptyTag) 1 (pc' := 23) (lv' := [(0, .ref v0)]) (st' := [.int 0]) rfl ?_
    have e := Option.some.inj e; subst e; exact wp_iret (ty := .boolean) rfl rfl (by decide) c
  · refine wp_p (j := J_Node_isEmptyTag) 1 (pc' := 10) (lv' := [(0, .ref v0)]) (st' := [.ref v0]) rfl ?_
    refine x_gI e rfl rfl fd_7_0 rfl (fun z2 e => ?_)
    refine wp_p (j := J_Node_isEmptyTag) 1 (pc' := 15) (lv' := [(0, .ref v0)]) (st' := [.int 13, .int z2]) rfl ?_
    refine x_gt e rfl (fun e => ?_) (fun e => ?_)
    · refine wp_p (j := J_Node_isEmptyTag) 1 (pc' := 23) (lv' := [(0, .ref v0)]) (st' := [.int 0]) rfl ?_
      have e := Option.some.inj e; subst e; exact wp_iret (ty := .boolean) rfl rfl (by decide) c
    · refine wp_p (j := J_Node_isEmptyTag) 2 (pc' := 23) (lv' := [(0, .ref v0)]) (st' := [.int 1]) rfl ?_
      have e := Option.some.inj e; subst e; exact wp_iret (ty := .boolean) rfl rfl (by decide) c
noncomputable def k_Reader_startTag_156 (v0 : Nat) (v3 : Int32) (v6 : Int32) (v7 : Nat) (g : g_S) : Option g_S :=
  (vc g 107 v7 (M_Node_isEmptyTag v7 g)).bind fun z1 =>
  if z1 = 0 then
    (rI g 108 v0 6).bind fun z2 =>
    (rQ g 108 v0 4).bind fun z3 =>
    (aN g z3).bind fun z4 =>
    if z2 < z4 then
      (rQ g 108 v0 4).bind fun z5 =>
      (rI g 108 v0 6).bind fun z6 =>
      (sI g z5 z6 v6).bind fun g7 =>
      (rQ g7 108 v0 5).bind fun z8 =>
      (rI g7 108 v0 6).bind fun z9 =>
      (sI g7 z8 z9 v3).bind fun g10 =>
      (rI g10 108 v0 6).bind fun z11 =>
      (wI g10 108 v0 6 (z11 + 1)).bind fun g12 =>
      some g12
    else
      some g
  else
    some g
set_option maxRecDepth 20000 in
theorem x_Reader_startTag_156 {L : Nat} {xs : Nat → Int32} {Q : Option Value → ab_H → Prop} {v0 : Nat} {v3 : Int32} {v6 : Int32} {v7 : Nat} {g : g_S} {out : g_S} (e : k_Reader_startTag_156 v0 v3 v6 v7 g = some out) (c : Q none (hp out)) : wp (ab_ext L xs) J_Reader_startTag 156 [(0, .ref v0), (3, .int v3), (6, .int v6), (7, .ref v7)] [] (hp g) Q := by
  unfold k_Reader_startTag_156 at e
  refine wp_p (j := J_Reader_startTag) 1 (pc' := 158) (lv' := [(0, .ref v0), (3, .int v3), (6, .int v6), (7, .ref v7)]) (st' := [.ref v7]) rfl ?_
  refine x_cv1 (As := []) (rest := []) Value.int e rfl rfl rfl rfl rfl rfl (fun h => d_Node_isEmptyTag h ⟨rfl, rfl⟩) (fun z1 e => ?_)
  refine z_ne e rfl (fun e => ?_) (fun e => ?_)
  · refine wp_p (j := J_Reader_startTag) 1 (pc' := 165) (lv' := [(0, .ref v0), (3, .int v3), (6, .int v6), (7, .ref v7)]) (st' := [.ref v0]) rfl ?_
    refine x_gI e rfl rfl fd_8_6 rfl (fun z2 e => ?_)
    refine wp_p (j := J_Reader_startTag) 1 (pc' := 169) (lv' := [(0, .ref v0), (3, .int v3), (6, .int v6), (7, .ref v7)]) (st' := [.ref v0, .int z2]) rfl ?_
    refine x_gQ e rfl rfl fd_8_4 rfl (fun z3 e => ?_)
    refine x_aN e rfl rfl (fun z4 e => ?_)
    refine x_ge e rfl (fun e => ?_) (fun e => ?_)
    · refine wp_p (j := J_Reader_startTag) 1 (pc' := 177) (lv' := [(0, .ref v0), (3, .int v3), (6, .int v6), (7, .ref v7)]) (st' := [.ref v0]) rfl ?_
      refine x_gQ e rfl rfl fd_8_4 rfl (fun z5 e => ?_)
      refine wp_p (j := J_Reader_startTag) 1 (pc' := 181) (lv' := [(0, .ref v0), (3, .int v3), (6, .int v6), (7, .ref v7)]) (st' := [.ref v0, .ref z5]) rfl ?_
      refine x_gI e rfl rfl fd_8_6 rfl (fun z6 e => ?_)
      refine wp_p (j := J_Reader_startTag) 1 (pc' := 186) (lv' := [(0, .ref v0), (3, .int v3), (6, .int v6), (7, .ref v7)]) (st' := [.int v6, .int z6, .ref z5]) rfl ?_
      refine x_sI e rfl rfl (fun g7 e => ?_)
      refine wp_p (j := J_Reader_startTag) 1 (pc' := 188) (lv' := [(0, .ref v0), (3, .int v3), (6, .int v6), (7, .ref v7)]) (st' := [.ref v0]) rfl ?_
      refine x_gQ e rfl rfl fd_8_5 rfl (fun z8 e => ?_)
      refine wp_p (j := J_Reader_startTag) 1 (pc' := 192) (lv' := [(0, .ref v0), (3, .int v3), (6, .int v6), (7, .ref v7)]) (st' := [.ref v0, .ref z8]) rfl ?_
      refine x_gI e rfl rfl fd_8_6 rfl (fun z9 e => ?_)
      refine wp_p (j := J_Reader_startTag) 1 (pc' := 196) (lv' := [(0, .ref v0), (3, .int v3), (6, .int v6), (7, .ref v7)]) (st' := [.int v3, .int z9, .ref z8]) rfl ?_
      refine x_sI e rfl rfl (fun g10 e => ?_)
      refine wp_p (j := J_Reader_startTag) 2 (pc' := 199) (lv' := [(0, .ref v0), (3, .int v3), (6, .int v6), (7, .ref v7)]) (st' := [.ref v0, .ref v0]) rfl ?_
      refine x_gI e rfl rfl fd_8_6 rfl (fun z11 e => ?_)
      refine wp_p (j := J_Reader_startTag) 2 (pc' := 204) (lv' := [(0, .ref v0), (3, .int v3), (6, .int v6), (7, .ref v7)]) (st' := [.int (z11 + 1), .ref v0]) rfl ?_
      refine x_pI e rfl rfl fw_8_6 rfl (fun g12 e => ?_)
      have e := Option.some.inj e; subst e; exact wp_vret rfl rfl c
    · have e := Option.some.inj e; subst e; exact wp_vret rfl rfl c
  · have e := Option.some.inj e; subst e; exact wp_vret rfl rfl c
noncomputable def k_Reader_startTag_76 (v0 : Nat) (v1 : Int64) (v3 : Int32) (v4 : Int32) (g : g_S) : Option g_S :=
  (rQ g 108 v0 4).bind fun z1 =>
  (rI g 108 v0 6).bind fun z2 =>
  (aI g 0 z1 (z2 - 1)).bind fun z3 =>
  (rQ g 108 v0 0).bind fun z4 =>
  (vc g 110 z4 (M_Tree_hasRoom z4 z3 g)).bind fun z5 =>
  if z5 = 0 then
    (vc g 108 v0 (M_Reader_tell v0 6 v3 g)).bind fun g6 =>
    some g6
  else
    (rQ g 108 v0 0).bind fun z7 =>
    c2 (vc g 110 z7 (M_Tree_grow z7 z3 v4 v1 g)) fun z8 g9 =>
    (rQ g9 108 v0 0).bind fun z10 =>
    (rQ g9 110 z10 0).bind fun z11 =>
    (aQ g9 5 z11 z8).bind fun z12 =>
    (rQ g9 108 v0 7).bind fun z13 =>
    (vc g9 107 z12 (M_Node_copyAttributes z12 z13 g9)).bind fun g14 =>
    if v4 = 13 then
      (vc g14 107 z12 (M_Node_startInput z12 g14)).bind fun g15 =>
      k_Reader_startTag_156 v0 v3 z8 z12 g15
    else
      k_Reader_startTag_156 v0 v3 z8 z12 g14
set_option maxRecDepth 20000 in
theorem x_Reader_startTag_76 {L : Nat} {xs : Nat → Int32} {Q : Option Value → ab_H → Prop} {v0 : Nat} {v1 : Int64} {v3 : Int32} {v4 : Int32} {g : g_S} {out : g_S} (e : k_Reader_startTag_76 v0 v1 v3 v4 g = some out) (c : Q none (hp out)) : wp (ab_ext L xs) J_Reader_startTag 76 [(0, .ref v0), (1, .long v1), (3, .int v3), (4, .int v4)] [] (hp g) Q := by
  unfold k_Reader_startTag_76 at e
  refine wp_p (j := J_Reader_startTag) 1 (pc' := 77) (lv' := [(0, .ref v0), (1, .long v1), (3, .int v3), (4, .int v4)]) (st' := [.ref v0]) rfl ?_
  refine x_gQ e rfl rfl fd_8_4 rfl (fun z1 e => ?_)
  refine wp_p (j := J_Reader_startTag) 1 (pc' := 81) (lv' := [(0, .ref v0), (1, .long v1), (3, .int v3), (4, .int v4)]) (st' := [.ref v0, .ref z1]) rfl ?_
  refine x_gI e rfl rfl fd_8_6 rfl (fun z2 e => ?_)
  refine wp_p (j := J_Reader_startTag) 2 (pc' := 86) (lv' := [(0, .ref v0), (1, .long v1), (3, .int v3), (4, .int v4)]) (st' := [.int (z2 - 1), .ref z1]) rfl ?_
  refine x_aI e rfl rfl (fun z3 e => ?_)
  refine wp_p (j := J_Reader_startTag) 2 (pc' := 90) (lv' := [(5, .int z3), (0, .ref v0), (1, .long v1), (3, .int v3), (4, .int v4)]) (st' := [.ref v0]) rfl ?_
  refine x_gQ e rfl rfl fd_8_0 rfl (fun z4 e => ?_)
  refine wp_p (j := J_Reader_startTag) 1 (pc' := 95) (lv' := [(5, .int z3), (0, .ref v0), (1, .long v1), (3, .int v3), (4, .int v4)]) (st' := [.int z3, .ref z4]) rfl ?_
  refine x_cv1 (As := [.int z3]) (rest := []) Value.int e rfl rfl rfl rfl rfl rfl (fun h => d_Tree_hasRoom h ⟨rfl, rfl⟩) (fun z5 e => ?_)
  refine z_ne e rfl (fun e => ?_) (fun e => ?_)
  · refine wp_p (j := J_Reader_startTag) 3 (pc' := 105) (lv' := [(5, .int z3), (0, .ref v0), (1, .long v1), (3, .int v3), (4, .int v4)]) (st' := [.int v3, .int 6, .ref v0]) rfl ?_
    refine x_cv0 (As := [.int 6, .int v3]) (rest := []) e rfl rfl rfl rfl rfl rfl (fun h => d_Reader_tell h ⟨rfl, rfl⟩) (fun g6 e => ?_)
    have e := Option.some.inj e; subst e; exact wp_vret rfl rfl c
  · refine wp_p (j := J_Reader_startTag) 1 (pc' := 110) (lv' := [(5, .int z3), (0, .ref v0), (1, .long v1), (3, .int v3), (4, .int v4)]) (st' := [.ref v0]) rfl ?_
    refine x_gQ e rfl rfl fd_8_0 rfl (fun z7 e => ?_)
    refine wp_p (j := J_Reader_startTag) 3 (pc' := 118) (lv' := [(5, .int z3), (0, .ref v0), (1, .long v1), (3, .int v3), (4, .int v4)]) (st' := [.long v1, .int v4, .int z3, .ref z7]) rfl ?_
    refine x_cv2 (As := [.int z3, .int v4, .long v1]) (rest := []) Value.int e rfl rfl rfl rfl rfl rfl (fun h => d_Tree_grow h ⟨rfl, rfl⟩) (fun z8 g9 e => ?_)
    refine wp_p (j := J_Reader_startTag) 2 (pc' := 124) (lv' := [(6, .int z8), (5, .int z3), (0, .ref v0), (1, .long v1), (3, .int v3), (4, .int v4)]) (st' := [.ref v0]) rfl ?_
    refine x_gQ e rfl rfl fd_8_0 rfl (fun z10 e => ?_)
    refine x_gQ e rfl rfl fd_10_0 rfl (fun z11 e => ?_)
    refine wp_p (j := J_Reader_startTag) 1 (pc' := 132) (lv' := [(6, .int z8), (5, .int z3), (0, .ref v0), (1, .long v1), (3, .int v3), (4, .int v4)]) (st' := [.int z8, .ref z11]) rfl ?_
    refine x_aQ e rfl rfl rfl (fun z12 e => ?_)
    refine wp_p (j := J_Reader_startTag) 3 (pc' := 138) (lv' := [(7, .ref z12), (6, .int z8), (5, .int z3), (0, .ref v0), (1, .long v1), (3, .int v3), (4, .int v4)]) (st' := [.ref v0, .ref z12]) rfl ?_
    refine x_gQ e rfl rfl fd_8_7 rfl (fun z13 e => ?_)
    refine x_cv0 (As := [.ref z13]) (rest := []) e rfl rfl rfl rfl rfl rfl (fun h => d_Node_copyAttributes h ⟨rfl, rfl⟩) (fun g14 e => ?_)
    refine wp_p (j := J_Reader_startTag) 2 (pc' := 148) (lv' := [(7, .ref z12), (6, .int z8), (5, .int z3), (0, .ref v0), (1, .long v1), (3, .int v3), (4, .int v4)]) (st' := [.int 13, .int v4]) rfl ?_
    refine x_ne e rfl (fun e => ?_) (fun e => ?_)
    · refine wp_p (j := J_Reader_startTag) 1 (pc' := 153) (lv' := [(7, .ref z12), (6, .int z8), (5, .int z3), (0, .ref v0), (1, .long v1), (3, .int v3), (4, .int v4)]) (st' := [.ref z12]) rfl ?_
      refine x_cv0 (As := []) (rest := []) e rfl rfl rfl rfl rfl rfl (fun h => d_Node_startInput h ⟨rfl, rfl⟩) (fun g15 e => ?_)
      exact wp_lv (lv' := [(0, .ref v0), (3, .int v3), (6, .int z8), (7, .ref z12)]) rfl ⟨rfl, rfl, rfl, rfl, trivial⟩ (x_Reader_startTag_156 e c)
    · exact wp_lv (lv' := [(0, .ref v0), (3, .int v3), (6, .int z8), (7, .ref z12)]) rfl ⟨rfl, rfl, rfl, rfl, trivial⟩ (x_Reader_startTag_156 e c)
noncomputable def k_Reader_startTag_54 (v0 : Nat) (v1 : Int64) (v3 : Int32) (v4 : Int32) (g : g_S) : Option g_S :=
  if v4 = 7 then
    c2 (vc g 108 v0 (M_Reader_closeTag v0 7 g)) fun z1 g2 =>
    if z1 = 0 then
      k_Reader_startTag_76 v0 v1 v3 v4 g2
    else
      (vc g2 108 v0 (M_Reader_tell v0 5 v3 g2)).bind fun g3 =>
      k_Reader_startTag_76 v0 v1 v3 v4 g3
  else
    k_Reader_startTag_76 v0 v1 v3 v4 g
set_option maxRecDepth 20000 in
theorem x_Reader_startTag_54 {L : Nat} {xs : Nat → Int32} {Q : Option Value → ab_H → Prop} {v0 : Nat} {v1 : Int64} {v3 : Int32} {v4 : Int32} {g : g_S} {out : g_S} (e : k_Reader_startTag_54 v0 v1 v3 v4 g = some out) (c : Q none (hp out)) : wp (ab_ext L xs) J_Reader_startTag 54 [(0, .ref v0), (1, .long v1), (3, .int v3), (4, .int v4)] [] (hp g) Q := by
  unfold k_Reader_startTag_54 at e
  refine wp_p (j := J_Reader_startTag) 2 (pc' := 58) (lv' := [(0, .ref v0), (1, .long v1), (3, .int v3), (4, .int v4)]) (st' := [.int 7, .int v4]) rfl ?_
  refine x_ne e rfl (fun e => ?_) (fun e => ?_)
  · refine wp_p (j := J_Reader_startTag) 2 (pc' := 64) (lv' := [(0, .ref v0), (1, .long v1), (3, .int v3), (4, .int v4)]) (st' := [.int 7, .ref v0]) rfl ?_
    refine x_cv2 (As := [.int 7]) (rest := []) Value.int e rfl rfl rfl rfl rfl rfl (fun h => d_Reader_closeTag h ⟨rfl, rfl⟩) (fun z1 g2 e => ?_)
    refine z_eq e rfl (fun e => ?_) (fun e => ?_)
    · exact wp_lv (lv' := [(0, .ref v0), (1, .long v1), (3, .int v3), (4, .int v4)]) rfl ⟨rfl, rfl, rfl, rfl, trivial⟩ (x_Reader_startTag_76 e c)
    · refine wp_p (j := J_Reader_startTag) 3 (pc' := 73) (lv' := [(0, .ref v0), (1, .long v1), (3, .int v3), (4, .int v4)]) (st' := [.int v3, .int 5, .ref v0]) rfl ?_
      refine x_cv0 (As := [.int 5, .int v3]) (rest := []) e rfl rfl rfl rfl rfl rfl (fun h => d_Reader_tell h ⟨rfl, rfl⟩) (fun g3 e => ?_)
      exact wp_lv (lv' := [(0, .ref v0), (1, .long v1), (3, .int v3), (4, .int v4)]) rfl ⟨rfl, rfl, rfl, rfl, trivial⟩ (x_Reader_startTag_76 e c)
  · exact wp_lv (lv' := [(0, .ref v0), (1, .long v1), (3, .int v3), (4, .int v4)]) rfl ⟨rfl, rfl, rfl, rfl, trivial⟩ (x_Reader_startTag_76 e c)
noncomputable def k_Reader_startTag_29 (v0 : Nat) (v1 : Int64) (v3 : Int32) (v4 : Int32) (g : g_S) : Option g_S :=
  if v4 = 4 then
    (vc g 108 v0 (M_Reader_openOf v0 4 g)).bind fun z1 =>
    (vc g 108 v0 (M_Reader_openOf v0 3 g)).bind fun z2 =>
    if z2 < z1 then
      c2 (vc g 108 v0 (M_Reader_closeTag v0 4 g)) fun z3 g4 =>
      k_Reader_startTag_54 v0 v1 v3 v4 g4
    else
      k_Reader_startTag_54 v0 v1 v3 v4 g
  else
    k_Reader_startTag_54 v0 v1 v3 v4 g
set_option maxRecDepth 20000 in
theorem x_Reader_startTag_29 {L : Nat} {xs : Nat → Int32} {Q : Option Value → ab_H → Prop} {v0 : Nat} {v1 : Int64} {v3 : Int32} {v4 : Int32} {g : g_S} {out : g_S} (e : k_Reader_startTag_29 v0 v1 v3 v4 g = some out) (c : Q none (hp out)) : wp (ab_ext L xs) J_Reader_startTag 29 [(0, .ref v0), (1, .long v1), (3, .int v3), (4, .int v4)] [] (hp g) Q := by
  unfold k_Reader_startTag_29 at e
  refine wp_p (j := J_Reader_startTag) 2 (pc' := 32) (lv' := [(0, .ref v0), (1, .long v1), (3, .int v3), (4, .int v4)]) (st' := [.int 4, .int v4]) rfl ?_
  refine x_ne e rfl (fun e => ?_) (fun e => ?_)
  · refine wp_p (j := J_Reader_startTag) 2 (pc' := 37) (lv' := [(0, .ref v0), (1, .long v1), (3, .int v3), (4, .int v4)]) (st' := [.int 4, .ref v0]) rfl ?_
    refine x_cv1 (As := [.int 4]) (rest := []) Value.int e rfl rfl rfl rfl rfl rfl (fun h => d_Reader_openOf h ⟨rfl, rfl⟩) (fun z1 e => ?_)
    refine wp_p (j := J_Reader_startTag) 2 (pc' := 42) (lv' := [(0, .ref v0), (1, .long v1), (3, .int v3), (4, .int v4)]) (st' := [.int 3, .ref v0, .int z1]) rfl ?_
    refine x_cv1 (As := [.int 3]) (rest := [.int z1]) Value.int e rfl rfl rfl rfl rfl rfl (fun h => d_Reader_openOf h ⟨rfl, rfl⟩) (fun z2 e => ?_)
    refine x_le e rfl (fun e => ?_) (fun e => ?_)
    · refine wp_p (j := J_Reader_startTag) 2 (pc' := 50) (lv' := [(0, .ref v0), (1, .long v1), (3, .int v3), (4, .int v4)]) (st' := [.int 4, .ref v0]) rfl ?_
      refine x_cv2 (As := [.int 4]) (rest := []) Value.int e rfl rfl rfl rfl rfl rfl (fun h => d_Reader_closeTag h ⟨rfl, rfl⟩) (fun z3 g4 e => ?_)
      refine wp_p (j := J_Reader_startTag) 1 (pc' := 54) (lv' := [(0, .ref v0), (1, .long v1), (3, .int v3), (4, .int v4)]) (st' := []) rfl ?_
      exact wp_lv (lv' := [(0, .ref v0), (1, .long v1), (3, .int v3), (4, .int v4)]) rfl ⟨rfl, rfl, rfl, rfl, trivial⟩ (x_Reader_startTag_54 e c)
    · exact wp_lv (lv' := [(0, .ref v0), (1, .long v1), (3, .int v3), (4, .int v4)]) rfl ⟨rfl, rfl, rfl, rfl, trivial⟩ (x_Reader_startTag_54 e c)
  · exact wp_lv (lv' := [(0, .ref v0), (1, .long v1), (3, .int v3), (4, .int v4)]) rfl ⟨rfl, rfl, rfl, rfl, trivial⟩ (x_Reader_startTag_54 e c)
noncomputable def k_Reader_startTag_23 (v0 : Nat) (v1 : Int64) (v3 : Int32) (v4 : Int32) (g : g_S) : Option g_S :=
  c2 (vc g 108 v0 (M_Reader_closeTag v0 1 g)) fun z1 g2 =>
  k_Reader_startTag_29 v0 v1 v3 v4 g2
set_option maxRecDepth 20000 in
theorem x_Reader_startTag_23 {L : Nat} {xs : Nat → Int32} {Q : Option Value → ab_H → Prop} {v0 : Nat} {v1 : Int64} {v3 : Int32} {v4 : Int32} {g : g_S} {out : g_S} (e : k_Reader_startTag_23 v0 v1 v3 v4 g = some out) (c : Q none (hp out)) : wp (ab_ext L xs) J_Reader_startTag 23 [(0, .ref v0), (1, .long v1), (3, .int v3), (4, .int v4)] [] (hp g) Q := by
  unfold k_Reader_startTag_23 at e
  refine wp_p (j := J_Reader_startTag) 2 (pc' := 25) (lv' := [(0, .ref v0), (1, .long v1), (3, .int v3), (4, .int v4)]) (st' := [.int 1, .ref v0]) rfl ?_
  refine x_cv2 (As := [.int 1]) (rest := []) Value.int e rfl rfl rfl rfl rfl rfl (fun h => d_Reader_closeTag h ⟨rfl, rfl⟩) (fun z1 g2 e => ?_)
  refine wp_p (j := J_Reader_startTag) 1 (pc' := 29) (lv' := [(0, .ref v0), (1, .long v1), (3, .int v3), (4, .int v4)]) (st' := []) rfl ?_
  exact wp_lv (lv' := [(0, .ref v0), (1, .long v1), (3, .int v3), (4, .int v4)]) rfl ⟨rfl, rfl, rfl, rfl, trivial⟩ (x_Reader_startTag_29 e c)
noncomputable def M_Reader_startTag (v0 : Nat) (v1 : Int64) (v3 : Int32) (g : g_S) : Option g_S :=
  (rQ g 108 v0 0).bind fun z1 =>
  (vc g 110 z1 (M_Tree_tagOf z1 v1 g)).bind fun z2 =>
  if 5 < z2 then
    if z2 = 11 then
      k_Reader_startTag_23 v0 v1 v3 z2 g
    else
      k_Reader_startTag_29 v0 v1 v3 z2 g
  else
    k_Reader_startTag_23 v0 v1 v3 z2 g
set_option maxRecDepth 20000 in
theorem d_Reader_startTag {L : Nat} {xs : Nat → Int32} {Q : Option Value → ab_H → Prop} {v0 : Nat} {v1 : Int64} {v3 : Int32} {g : g_S} {out : g_S} (e : M_Reader_startTag v0 v1 v3 g = some out) (c : Q none (hp out)) : mw (ab_ext L xs) J_Reader_startTag [.ref v0, .long v1, .int v3] (hp g) Q := by
  unfold M_Reader_startTag at e
  refine wp_p (j := J_Reader_startTag) 1 (pc' := 1) (lv' := [(0, .ref v0), (1, .long v1), (3, .int v3)]) (st' := [.ref v0]) rfl ?_
  refine x_gQ e rfl rfl fd_8_0 rfl (fun z1 e => ?_)
  refine wp_p (j := J_Reader_startTag) 1 (pc' := 5) (lv' := [(0, .ref v0), (1, .long v1), (3, .int v3)]) (st' := [.long v1, .ref z1]) rfl ?_
  refine x_cv1 (As := [.long v1]) (rest := []) Value.int e rfl rfl rfl rfl rfl rfl (fun h => d_Tree_tagOf h ⟨rfl, rfl⟩) (fun z2 e => ?_)
  refine wp_p (j := J_Reader_startTag) 3 (pc' := 13) (lv' := [(4, .int z2), (0, .ref v0), (1, .long v1), (3, .int v3)]) (st' := [.int 5, .int z2]) rfl ?_
  refine x_le e rfl (fun e => ?_) (fun e => ?_)
  · refine wp_p (j := J_Reader_startTag) 2 (pc' := 20) (lv' := [(4, .int z2), (0, .ref v0), (1, .long v1), (3, .int v3)]) (st' := [.int 11, .int z2]) rfl ?_
    refine x_ne e rfl (fun e => ?_) (fun e => ?_)
    · exact wp_lv (lv' := [(0, .ref v0), (1, .long v1), (3, .int v3), (4, .int z2)]) rfl ⟨rfl, rfl, rfl, rfl, trivial⟩ (x_Reader_startTag_23 e c)
    · exact wp_lv (lv' := [(0, .ref v0), (1, .long v1), (3, .int v3), (4, .int z2)]) rfl ⟨rfl, rfl, rfl, rfl, trivial⟩ (x_Reader_startTag_29 e c)
  · exact wp_lv (lv' := [(0, .ref v0), (1, .long v1), (3, .int v3), (4, .int z2)]) rfl ⟨rfl, rfl, rfl, rfl, trivial⟩ (x_Reader_startTag_23 e c)
def cL_Reader_readTag_57 (L : Nat) (xs : Nat → Int32) (Q : Option Value → ab_H → Prop) (v0 : Nat) (v1 : Int32) (v2 : Int32) (v3 : Int32) (v4 : Int32) (g : g_S) (out : (Int32) ⊕ (Int32)) : Prop := match out with
  | .inl s => wp (ab_ext L xs) J_Reader_readTag 57 [(0, .ref v0), (1, .int v1), (2, .int v2), (3, .int v3), (4, .int v4), (5, .int s)] [] (hp g) Q
  | .inr s => wp (ab_ext L xs) J_Reader_readTag 98 [(0, .ref v0), (1, .int v1), (2, .int v2), (3, .int v3), (4, .int v4), (5, .int s)] [] (hp g) Q
noncomputable def b_Reader_readTag_57 (v0 : Nat) (v1 : Int32) (v2 : Int32) (v3 : Int32) (v4 : Int32) (v5 : Int32) (g : g_S) : Option ((Int32) ⊕ (Int32)) :=
  (rI g 108 v0 9).bind fun z1 =>
  if v5 < z1 then
    (rQ g 108 v0 8).bind fun z2 =>
    (aI g 1 z2 v5).bind fun z3 =>
    (M_Bytes_isLetter z3 g).bind fun z4 =>
    if z4 = 0 then
      (rQ g 108 v0 8).bind fun z5 =>
      (aI g 1 z5 v5).bind fun z6 =>
      (M_Bytes_isDigit z6 g).bind fun z7 =>
      if z7 = 0 then
        some (.inr v5)
      else
        some (.inl (v5 + 1))
    else
      some (.inl (v5 + 1))
  else
    some (.inr v5)
set_option maxRecDepth 20000 in
theorem y_Reader_readTag_57 {L : Nat} {xs : Nat → Int32} {Q : Option Value → ab_H → Prop} {v0 : Nat} {v1 : Int32} {v2 : Int32} {v3 : Int32} {v4 : Int32} {v5 : Int32} {g : g_S} {out : (Int32) ⊕ (Int32)} (e : b_Reader_readTag_57 v0 v1 v2 v3 v4 v5 g = some out) (c : cL_Reader_readTag_57 L xs Q v0 v1 v2 v3 v4 g out) : wp (ab_ext L xs) J_Reader_readTag 57 [(0, .ref v0), (1, .int v1), (2, .int v2), (3, .int v3), (4, .int v4), (5, .int v5)] [] (hp g) Q := by
  unfold b_Reader_readTag_57 at e
  refine wp_p (j := J_Reader_readTag) 2 (pc' := 60) (lv' := [(0, .ref v0), (1, .int v1), (2, .int v2), (3, .int v3), (4, .int v4), (5, .int v5)]) (st' := [.ref v0, .int v5]) rfl ?_
  refine x_gI e rfl rfl fd_8_9 rfl (fun z1 e => ?_)
  refine x_ge e rfl (fun e => ?_) (fun e => ?_)
  · refine wp_p (j := J_Reader_readTag) 1 (pc' := 67) (lv' := [(0, .ref v0), (1, .int v1), (2, .int v2), (3, .int v3), (4, .int v4), (5, .int v5)]) (st' := [.ref v0]) rfl ?_
    refine x_gQ e rfl rfl fd_8_8 rfl (fun z2 e => ?_)
    refine wp_p (j := J_Reader_readTag) 1 (pc' := 72) (lv' := [(0, .ref v0), (1, .int v1), (2, .int v2), (3, .int v3), (4, .int v4), (5, .int v5)]) (st' := [.int v5, .ref z2]) rfl ?_
    refine x_aB e rfl (.inl rfl) rfl (fun z3 e => ?_)
    refine x_cs1 (As := [.int z3]) (rest := []) Value.int e rfl rfl rfl rfl rfl (fun h => d_Bytes_isLetter h ⟨rfl, rfl⟩) (fun z4 e => ?_)
    refine z_ne e rfl (fun e => ?_) (fun e => ?_)
    · refine wp_p (j := J_Reader_readTag) 1 (pc' := 80) (lv' := [(0, .ref v0), (1, .int v1), (2, .int v2), (3, .int v3), (4, .int v4), (5, .int v5)]) (st' := [.ref v0]) rfl ?_
      refine x_gQ e rfl rfl fd_8_8 rfl (fun z5 e => ?_)
      refine wp_p (j := J_Reader_readTag) 1 (pc' := 85) (lv' := [(0, .ref v0), (1, .int v1), (2, .int v2), (3, .int v3), (4, .int v4), (5, .int v5)]) (st' := [.int v5, .ref z5]) rfl ?_
      refine x_aB e rfl (.inl rfl) rfl (fun z6 e => ?_)
      refine x_cs1 (As := [.int z6]) (rest := []) Value.int e rfl rfl rfl rfl rfl (fun h => d_Bytes_isDigit h ⟨rfl, rfl⟩) (fun z7 e => ?_)
      refine z_eq e rfl (fun e => ?_) (fun e => ?_)
      · have e := Option.some.inj e; subst e; exact wp_lv (lv' := [(0, .ref v0), (1, .int v1), (2, .int v2), (3, .int v3), (4, .int v4), (5, .int v5)]) rfl ⟨rfl, rfl, rfl, rfl, rfl, rfl, trivial⟩ c
      · refine wp_p (j := J_Reader_readTag) 2 (pc' := 57) (lv' := [(5, .int (v5 + 1)), (0, .ref v0), (1, .int v1), (2, .int v2), (3, .int v3), (4, .int v4)]) (st' := []) rfl ?_
        have e := Option.some.inj e; subst e; exact wp_lv (lv' := [(0, .ref v0), (1, .int v1), (2, .int v2), (3, .int v3), (4, .int v4), (5, .int (v5 + 1))]) rfl ⟨rfl, rfl, rfl, rfl, rfl, rfl, trivial⟩ c
    · refine wp_p (j := J_Reader_readTag) 2 (pc' := 57) (lv' := [(5, .int (v5 + 1)), (0, .ref v0), (1, .int v1), (2, .int v2), (3, .int v3), (4, .int v4)]) (st' := []) rfl ?_
      have e := Option.some.inj e; subst e; exact wp_lv (lv' := [(0, .ref v0), (1, .int v1), (2, .int v2), (3, .int v3), (4, .int v4), (5, .int (v5 + 1))]) rfl ⟨rfl, rfl, rfl, rfl, rfl, rfl, trivial⟩ c
  · have e := Option.some.inj e; subst e; exact wp_lv (lv' := [(0, .ref v0), (1, .int v1), (2, .int v2), (3, .int v3), (4, .int v4), (5, .int v5)]) rfl ⟨rfl, rfl, rfl, rfl, rfl, rfl, trivial⟩ c
noncomputable def L_Reader_readTag_57 (v0 : Nat) (v1 : Int32) (v2 : Int32) (v3 : Int32) (v4 : Int32) (v5 : Int32) (g : g_S) : Option (Int32) := it (fun s : Int32 => b_Reader_readTag_57 v0 v1 v2 v3 v4 s g) (v5)
theorem l_Reader_readTag_57 {L : Nat} {xs : Nat → Int32} {Q : Option Value → ab_H → Prop} {v0 : Nat} {v1 : Int32} {v2 : Int32} {v3 : Int32} {v4 : Int32} {v5 : Int32} {g : g_S} {r : Int32} (e : L_Reader_readTag_57 v0 v1 v2 v3 v4 v5 g = some r) (c : cL_Reader_readTag_57 L xs Q v0 v1 v2 v3 v4 g (.inr r)) : wp (ab_ext L xs) J_Reader_readTag 57 [(0, .ref v0), (1, .int v1), (2, .int v2), (3, .int v3), (4, .int v4), (5, .int v5)] [] (hp g) Q :=
  it_wp (P := fun s : Int32 => wp (ab_ext L xs) J_Reader_readTag 57 [(0, .ref v0), (1, .int v1), (2, .int v2), (3, .int v3), (4, .int v4), (5, .int s)] [] (hp g) Q) (E := fun r => cL_Reader_readTag_57 L xs Q v0 v1 v2 v3 v4 g (.inr r)) (fun s out e c => y_Reader_readTag_57 e (by cases out <;> exact c)) e c
theorem L_Reader_readTag_57_eq (v0 : Nat) (v1 : Int32) (v2 : Int32) (v3 : Int32) (v4 : Int32) (v5 : Int32) (g : g_S) : L_Reader_readTag_57 v0 v1 v2 v3 v4 v5 g = itc (b_Reader_readTag_57 v0 v1 v2 v3 v4 v5 g) (fun s => L_Reader_readTag_57 v0 v1 v2 v3 v4 s g) := it_eq2 (fun s : Int32 => b_Reader_readTag_57 v0 v1 v2 v3 v4 s g) (v5)
def cL_Reader_readTag_122 (L : Nat) (xs : Nat → Int32) (Q : Option Value → ab_H → Prop) (v0 : Nat) (v1 : Int32) (v2 : Int32) (v3 : Int32) (v6 : Int64) (out : (Int32 × Int32 × g_S) ⊕ (Int32 × g_S)) : Prop := match out with
  | .inl s => wp (ab_ext L xs) J_Reader_readTag 122 [(0, .ref v0), (1, .int v1), (2, .int v2), (3, .int v3), (5, .int s.1), (6, .long v6), (8, .int s.2.1)] [] (hp s.2.2) Q
  | .inr s => wp (ab_ext L xs) J_Reader_readTag 199 [(0, .ref v0), (1, .int v1), (2, .int v2), (3, .int v3), (5, .int s.1), (6, .long v6)] [] (hp s.2) Q
noncomputable def k_Reader_readTag_177 (v0 : Nat) (v1 : Int32) (v2 : Int32) (v3 : Int32) (v5 : Int32) (v6 : Int64) (v8 : Int32) (g : g_S) : Option ((Int32 × Int32 × g_S) ⊕ (Int32 × g_S)) :=
  some (.inl (v5 + 1, v8 + 1, g))
set_option maxRecDepth 20000 in
theorem x_Reader_readTag_177 {L : Nat} {xs : Nat → Int32} {Q : Option Value → ab_H → Prop} {v0 : Nat} {v1 : Int32} {v2 : Int32} {v3 : Int32} {v5 : Int32} {v6 : Int64} {v8 : Int32} {g : g_S} {out : (Int32 × Int32 × g_S) ⊕ (Int32 × g_S)} (e : k_Reader_readTag_177 v0 v1 v2 v3 v5 v6 v8 g = some out) (c : cL_Reader_readTag_122 L xs Q v0 v1 v2 v3 v6 out) : wp (ab_ext L xs) J_Reader_readTag 177 [(0, .ref v0), (1, .int v1), (2, .int v2), (3, .int v3), (5, .int v5), (6, .long v6), (8, .int v8)] [] (hp g) Q := by
  unfold k_Reader_readTag_177 at e
  refine wp_p (j := J_Reader_readTag) 7 (pc' := 122) (lv' := [(8, .int (v8 + 1)), (5, .int (v5 + 1)), (0, .ref v0), (1, .int v1), (2, .int v2), (3, .int v3), (6, .long v6)]) (st' := []) rfl ?_
  have e := Option.some.inj e; subst e; exact wp_lv (lv' := [(0, .ref v0), (1, .int v1), (2, .int v2), (3, .int v3), (5, .int (v5 + 1)), (6, .long v6), (8, .int (v8 + 1))]) rfl ⟨rfl, rfl, rfl, rfl, rfl, rfl, rfl, trivial⟩ c
noncomputable def b_Reader_readTag_122 (v0 : Nat) (v1 : Int32) (v2 : Int32) (v3 : Int32) (v6 : Int64) (v5 : Int32) (v8 : Int32) (g : g_S) : Option ((Int32 × Int32 × g_S) ⊕ (Int32 × g_S)) :=
  (rI g 108 v0 9).bind fun z1 =>
  if v8 < z1 then
    (rI g 108 v0 9).bind fun z2 =>
    if v5 < z2 then
      (rQ g 108 v0 8).bind fun z3 =>
      (aI g 1 z3 v5).bind fun z4 =>
      if z4 = 62 then
        some (.inr (v5, g))
      else
        (rQ g 108 v0 8).bind fun z5 =>
        (aI g 1 z5 v5).bind fun z6 =>
        (M_Bytes_isBlank z6 g).bind fun z7 =>
        if z7 = 0 then
          (rQ g 108 v0 8).bind fun z8 =>
          (aI g 1 z8 v5).bind fun z9 =>
          if z9 = 47 then
            k_Reader_readTag_177 v0 v1 v2 v3 v5 v6 v8 g
          else
            c2 (vc g 108 v0 (M_Reader_readAttribute v0 v5 v3 g)) fun z10 g11 =>
            some (.inl (z10, v8 + 1, g11))
        else
          k_Reader_readTag_177 v0 v1 v2 v3 v5 v6 v8 g
    else
      some (.inr (v5, g))
  else
    some (.inr (v5, g))
set_option maxRecDepth 20000 in
theorem y_Reader_readTag_122 {L : Nat} {xs : Nat → Int32} {Q : Option Value → ab_H → Prop} {v0 : Nat} {v1 : Int32} {v2 : Int32} {v3 : Int32} {v6 : Int64} {v5 : Int32} {v8 : Int32} {g : g_S} {out : (Int32 × Int32 × g_S) ⊕ (Int32 × g_S)} (e : b_Reader_readTag_122 v0 v1 v2 v3 v6 v5 v8 g = some out) (c : cL_Reader_readTag_122 L xs Q v0 v1 v2 v3 v6 out) : wp (ab_ext L xs) J_Reader_readTag 122 [(0, .ref v0), (1, .int v1), (2, .int v2), (3, .int v3), (5, .int v5), (6, .long v6), (8, .int v8)] [] (hp g) Q := by
  unfold b_Reader_readTag_122 at e
  refine wp_p (j := J_Reader_readTag) 2 (pc' := 125) (lv' := [(0, .ref v0), (1, .int v1), (2, .int v2), (3, .int v3), (5, .int v5), (6, .long v6), (8, .int v8)]) (st' := [.ref v0, .int v8]) rfl ?_
  refine x_gI e rfl rfl fd_8_9 rfl (fun z1 e => ?_)
  refine x_ge e rfl (fun e => ?_) (fun e => ?_)
  · refine wp_p (j := J_Reader_readTag) 2 (pc' := 134) (lv' := [(0, .ref v0), (1, .int v1), (2, .int v2), (3, .int v3), (5, .int v5), (6, .long v6), (8, .int v8)]) (st' := [.ref v0, .int v5]) rfl ?_
    refine x_gI e rfl rfl fd_8_9 rfl (fun z2 e => ?_)
    refine x_ge e rfl (fun e => ?_) (fun e => ?_)
    · refine wp_p (j := J_Reader_readTag) 1 (pc' := 141) (lv' := [(0, .ref v0), (1, .int v1), (2, .int v2), (3, .int v3), (5, .int v5), (6, .long v6), (8, .int v8)]) (st' := [.ref v0]) rfl ?_
      refine x_gQ e rfl rfl fd_8_8 rfl (fun z3 e => ?_)
      refine wp_p (j := J_Reader_readTag) 1 (pc' := 146) (lv' := [(0, .ref v0), (1, .int v1), (2, .int v2), (3, .int v3), (5, .int v5), (6, .long v6), (8, .int v8)]) (st' := [.int v5, .ref z3]) rfl ?_
      refine x_aB e rfl (.inl rfl) rfl (fun z4 e => ?_)
      refine wp_p (j := J_Reader_readTag) 1 (pc' := 149) (lv' := [(0, .ref v0), (1, .int v1), (2, .int v2), (3, .int v3), (5, .int v5), (6, .long v6), (8, .int v8)]) (st' := [.int 62, .int z4]) rfl ?_
      refine x_eq e rfl (fun e => ?_) (fun e => ?_)
      · have e := Option.some.inj e; subst e; exact wp_lv (lv' := [(0, .ref v0), (1, .int v1), (2, .int v2), (3, .int v3), (5, .int v5), (6, .long v6)]) rfl ⟨rfl, rfl, rfl, rfl, rfl, rfl, trivial⟩ c
      · refine wp_p (j := J_Reader_readTag) 1 (pc' := 153) (lv' := [(0, .ref v0), (1, .int v1), (2, .int v2), (3, .int v3), (5, .int v5), (6, .long v6), (8, .int v8)]) (st' := [.ref v0]) rfl ?_
        refine x_gQ e rfl rfl fd_8_8 rfl (fun z5 e => ?_)
        refine wp_p (j := J_Reader_readTag) 1 (pc' := 158) (lv' := [(0, .ref v0), (1, .int v1), (2, .int v2), (3, .int v3), (5, .int v5), (6, .long v6), (8, .int v8)]) (st' := [.int v5, .ref z5]) rfl ?_
        refine x_aB e rfl (.inl rfl) rfl (fun z6 e => ?_)
        refine x_cs1 (As := [.int z6]) (rest := []) Value.int e rfl rfl rfl rfl rfl (fun h => d_Bytes_isBlank h ⟨rfl, rfl⟩) (fun z7 e => ?_)
        refine z_ne e rfl (fun e => ?_) (fun e => ?_)
        · refine wp_p (j := J_Reader_readTag) 1 (pc' := 166) (lv' := [(0, .ref v0), (1, .int v1), (2, .int v2), (3, .int v3), (5, .int v5), (6, .long v6), (8, .int v8)]) (st' := [.ref v0]) rfl ?_
          refine x_gQ e rfl rfl fd_8_8 rfl (fun z8 e => ?_)
          refine wp_p (j := J_Reader_readTag) 1 (pc' := 171) (lv' := [(0, .ref v0), (1, .int v1), (2, .int v2), (3, .int v3), (5, .int v5), (6, .long v6), (8, .int v8)]) (st' := [.int v5, .ref z8]) rfl ?_
          refine x_aB e rfl (.inl rfl) rfl (fun z9 e => ?_)
          refine wp_p (j := J_Reader_readTag) 1 (pc' := 174) (lv' := [(0, .ref v0), (1, .int v1), (2, .int v2), (3, .int v3), (5, .int v5), (6, .long v6), (8, .int v8)]) (st' := [.int 47, .int z9]) rfl ?_
          refine x_ne e rfl (fun e => ?_) (fun e => ?_)
          · exact wp_lv (lv' := [(0, .ref v0), (1, .int v1), (2, .int v2), (3, .int v3), (5, .int v5), (6, .long v6), (8, .int v8)]) rfl ⟨rfl, rfl, rfl, rfl, rfl, rfl, rfl, trivial⟩ (x_Reader_readTag_177 e c)
          · refine wp_p (j := J_Reader_readTag) 3 (pc' := 188) (lv' := [(0, .ref v0), (1, .int v1), (2, .int v2), (3, .int v3), (5, .int v5), (6, .long v6), (8, .int v8)]) (st' := [.int v3, .int v5, .ref v0]) rfl ?_
            refine x_cv2 (As := [.int v5, .int v3]) (rest := []) Value.int e rfl rfl rfl rfl rfl rfl (fun h => d_Reader_readAttribute h ⟨rfl, rfl⟩) (fun z10 g11 e => ?_)
            refine wp_p (j := J_Reader_readTag) 3 (pc' := 122) (lv' := [(8, .int (v8 + 1)), (5, .int z10), (0, .ref v0), (1, .int v1), (2, .int v2), (3, .int v3), (6, .long v6)]) (st' := []) rfl ?_
            have e := Option.some.inj e; subst e; exact wp_lv (lv' := [(0, .ref v0), (1, .int v1), (2, .int v2), (3, .int v3), (5, .int z10), (6, .long v6), (8, .int (v8 + 1))]) rfl ⟨rfl, rfl, rfl, rfl, rfl, rfl, rfl, trivial⟩ c
        · exact wp_lv (lv' := [(0, .ref v0), (1, .int v1), (2, .int v2), (3, .int v3), (5, .int v5), (6, .long v6), (8, .int v8)]) rfl ⟨rfl, rfl, rfl, rfl, rfl, rfl, rfl, trivial⟩ (x_Reader_readTag_177 e c)
    · have e := Option.some.inj e; subst e; exact wp_lv (lv' := [(0, .ref v0), (1, .int v1), (2, .int v2), (3, .int v3), (5, .int v5), (6, .long v6)]) rfl ⟨rfl, rfl, rfl, rfl, rfl, rfl, trivial⟩ c
  · have e := Option.some.inj e; subst e; exact wp_lv (lv' := [(0, .ref v0), (1, .int v1), (2, .int v2), (3, .int v3), (5, .int v5), (6, .long v6)]) rfl ⟨rfl, rfl, rfl, rfl, rfl, rfl, trivial⟩ c
noncomputable def L_Reader_readTag_122 (v0 : Nat) (v1 : Int32) (v2 : Int32) (v3 : Int32) (v6 : Int64) (v5 : Int32) (v8 : Int32) (g : g_S) : Option (Int32 × g_S) := it (fun s : Int32 × Int32 × g_S => b_Reader_readTag_122 v0 v1 v2 v3 v6 s.1 s.2.1 s.2.2) (v5, v8, g)
theorem l_Reader_readTag_122 {L : Nat} {xs : Nat → Int32} {Q : Option Value → ab_H → Prop} {v0 : Nat} {v1 : Int32} {v2 : Int32} {v3 : Int32} {v6 : Int64} {v5 : Int32} {v8 : Int32} {g : g_S} {r : Int32 × g_S} (e : L_Reader_readTag_122 v0 v1 v2 v3 v6 v5 v8 g = some r) (c : cL_Reader_readTag_122 L xs Q v0 v1 v2 v3 v6 (.inr r)) : wp (ab_ext L xs) J_Reader_readTag 122 [(0, .ref v0), (1, .int v1), (2, .int v2), (3, .int v3), (5, .int v5), (6, .long v6), (8, .int v8)] [] (hp g) Q :=
  it_wp (P := fun s : Int32 × Int32 × g_S => wp (ab_ext L xs) J_Reader_readTag 122 [(0, .ref v0), (1, .int v1), (2, .int v2), (3, .int v3), (5, .int s.1), (6, .long v6), (8, .int s.2.1)] [] (hp s.2.2) Q) (E := fun r => cL_Reader_readTag_122 L xs Q v0 v1 v2 v3 v6 (.inr r)) (fun s out e c => y_Reader_readTag_122 e (by cases out <;> exact c)) e c
theorem L_Reader_readTag_122_eq (v0 : Nat) (v1 : Int32) (v2 : Int32) (v3 : Int32) (v6 : Int64) (v5 : Int32) (v8 : Int32) (g : g_S) : L_Reader_readTag_122 v0 v1 v2 v3 v6 v5 v8 g = itc (b_Reader_readTag_122 v0 v1 v2 v3 v6 v5 v8 g) (fun s => L_Reader_readTag_122 v0 v1 v2 v3 v6 s.1 s.2.1 s.2.2) := it_eq2 (fun s : Int32 × Int32 × g_S => b_Reader_readTag_122 v0 v1 v2 v3 v6 s.1 s.2.1 s.2.2) (v5, v8, g)
noncomputable def k_Reader_readTag_199 (v0 : Nat) (v1 : Int32) (v2 : Int32) (v3 : Int32) (v5 : Int32) (v6 : Int64) (g : g_S) : Option g_S :=
  (rI g 108 v0 9).bind fun z1 =>
  if v5 < z1 then
    (wI g 108 v0 10 (v5 + 1)).bind fun g2 =>
    if v3 = 0 then
      (vc g2 108 v0 (M_Reader_startTag v0 v6 v1 g2)).bind fun g3 =>
      some g3
    else
      (vc g2 108 v0 (M_Reader_endTag v0 v6 v1 g2)).bind fun g4 =>
      some g4
  else
    (wI g 108 v0 3 v2).bind fun g5 =>
    (vc g5 108 v0 (M_Reader_tell v0 1 v1 g5)).bind fun g6 =>
    (rI g6 108 v0 9).bind fun z7 =>
    (wI g6 108 v0 10 z7).bind fun g8 =>
    some g8
set_option maxRecDepth 20000 in
theorem x_Reader_readTag_199 {L : Nat} {xs : Nat → Int32} {Q : Option Value → ab_H → Prop} {v0 : Nat} {v1 : Int32} {v2 : Int32} {v3 : Int32} {v5 : Int32} {v6 : Int64} {g : g_S} {out : g_S} (e : k_Reader_readTag_199 v0 v1 v2 v3 v5 v6 g = some out) (c : Q none (hp out)) : wp (ab_ext L xs) J_Reader_readTag 199 [(0, .ref v0), (1, .int v1), (2, .int v2), (3, .int v3), (5, .int v5), (6, .long v6)] [] (hp g) Q := by
  unfold k_Reader_readTag_199 at e
  refine wp_p (j := J_Reader_readTag) 2 (pc' := 202) (lv' := [(0, .ref v0), (1, .int v1), (2, .int v2), (3, .int v3), (5, .int v5), (6, .long v6)]) (st' := [.ref v0, .int v5]) rfl ?_
  refine x_gI e rfl rfl fd_8_9 rfl (fun z1 e => ?_)
  refine x_lt e rfl (fun e => ?_) (fun e => ?_)
  · refine wp_p (j := J_Reader_readTag) 4 (pc' := 233) (lv' := [(0, .ref v0), (1, .int v1), (2, .int v2), (3, .int v3), (5, .int v5), (6, .long v6)]) (st' := [.int (v5 + 1), .ref v0]) rfl ?_
    refine x_pI e rfl rfl fw_8_10 rfl (fun g2 e => ?_)
    refine wp_p (j := J_Reader_readTag) 1 (pc' := 237) (lv' := [(0, .ref v0), (1, .int v1), (2, .int v2), (3, .int v3), (5, .int v5), (6, .long v6)]) (st' := [.int v3]) rfl ?_
    refine z_eq e rfl (fun e => ?_) (fun e => ?_)
    · refine wp_p (j := J_Reader_readTag) 3 (pc' := 254) (lv' := [(0, .ref v0), (1, .int v1), (2, .int v2), (3, .int v3), (5, .int v5), (6, .long v6)]) (st' := [.int v1, .long v6, .ref v0]) rfl ?_
      refine x_cv0 (As := [.long v6, .int v1]) (rest := []) e rfl rfl rfl rfl rfl rfl (fun h => d_Reader_startTag h ⟨rfl, rfl⟩) (fun g3 e => ?_)
      have e := Option.some.inj e; subst e; exact wp_vret rfl rfl c
    · refine wp_p (j := J_Reader_readTag) 3 (pc' := 244) (lv' := [(0, .ref v0), (1, .int v1), (2, .int v2), (3, .int v3), (5, .int v5), (6, .long v6)]) (st' := [.int v1, .long v6, .ref v0]) rfl ?_
      refine x_cv0 (As := [.long v6, .int v1]) (rest := []) e rfl rfl rfl rfl rfl rfl (fun h => d_Reader_endTag h ⟨rfl, rfl⟩) (fun g4 e => ?_)
      refine wp_p (j := J_Reader_readTag) 1 (pc' := 257) (lv' := [(0, .ref v0), (1, .int v1), (2, .int v2), (3, .int v3), (5, .int v5), (6, .long v6)]) (st' := []) rfl ?_
      have e := Option.some.inj e; subst e; exact wp_vret rfl rfl c
  · refine wp_p (j := J_Reader_readTag) 2 (pc' := 210) (lv' := [(0, .ref v0), (1, .int v1), (2, .int v2), (3, .int v3), (5, .int v5), (6, .long v6)]) (st' := [.int v2, .ref v0]) rfl ?_
    refine x_pI e rfl rfl fw_8_3 rfl (fun g5 e => ?_)
    refine wp_p (j := J_Reader_readTag) 3 (pc' := 216) (lv' := [(0, .ref v0), (1, .int v1), (2, .int v2), (3, .int v3), (5, .int v5), (6, .long v6)]) (st' := [.int v1, .int 1, .ref v0]) rfl ?_
    refine x_cv0 (As := [.int 1, .int v1]) (rest := []) e rfl rfl rfl rfl rfl rfl (fun h => d_Reader_tell h ⟨rfl, rfl⟩) (fun g6 e => ?_)
    refine wp_p (j := J_Reader_readTag) 2 (pc' := 221) (lv' := [(0, .ref v0), (1, .int v1), (2, .int v2), (3, .int v3), (5, .int v5), (6, .long v6)]) (st' := [.ref v0, .ref v0]) rfl ?_
    refine x_gI e rfl rfl fd_8_9 rfl (fun z7 e => ?_)
    refine x_pI e rfl rfl fw_8_10 rfl (fun g8 e => ?_)
    have e := Option.some.inj e; subst e; exact wp_vret rfl rfl c
noncomputable def k_Reader_readTag_98 (v0 : Nat) (v1 : Int32) (v2 : Int32) (v3 : Int32) (v4 : Int32) (v5 : Int32) (g : g_S) : Option g_S :=
  (rQ g 108 v0 8).bind fun z1 =>
  (M_Bytes_packSmall z1 v4 v5 g).bind fun z2 =>
  (rQ g 108 v0 7).bind fun z3 =>
  (wI g 107 z3 12 0).bind fun g4 =>
  (L_Reader_readTag_122 v0 v1 v2 v3 z2 v5 0 g4).bind <| u2 fun z7 g8 =>
  k_Reader_readTag_199 v0 v1 v2 v3 z7 z2 g8
set_option maxRecDepth 20000 in
theorem x_Reader_readTag_98 {L : Nat} {xs : Nat → Int32} {Q : Option Value → ab_H → Prop} {v0 : Nat} {v1 : Int32} {v2 : Int32} {v3 : Int32} {v4 : Int32} {v5 : Int32} {g : g_S} {out : g_S} (e : k_Reader_readTag_98 v0 v1 v2 v3 v4 v5 g = some out) (c : Q none (hp out)) : wp (ab_ext L xs) J_Reader_readTag 98 [(0, .ref v0), (1, .int v1), (2, .int v2), (3, .int v3), (4, .int v4), (5, .int v5)] [] (hp g) Q := by
  unfold k_Reader_readTag_98 at e
  refine wp_p (j := J_Reader_readTag) 1 (pc' := 99) (lv' := [(0, .ref v0), (1, .int v1), (2, .int v2), (3, .int v3), (4, .int v4), (5, .int v5)]) (st' := [.ref v0]) rfl ?_
  refine x_gQ e rfl rfl fd_8_8 rfl (fun z1 e => ?_)
  refine wp_p (j := J_Reader_readTag) 2 (pc' := 106) (lv' := [(0, .ref v0), (1, .int v1), (2, .int v2), (3, .int v3), (4, .int v4), (5, .int v5)]) (st' := [.int v5, .int v4, .ref z1]) rfl ?_
  refine x_cs1 (As := [.ref z1, .int v4, .int v5]) (rest := []) Value.long e rfl rfl rfl rfl rfl (fun h => d_Bytes_packSmall h ⟨rfl, rfl⟩) (fun z2 e => ?_)
  refine wp_p (j := J_Reader_readTag) 2 (pc' := 112) (lv' := [(6, .long z2), (0, .ref v0), (1, .int v1), (2, .int v2), (3, .int v3), (4, .int v4), (5, .int v5)]) (st' := [.ref v0]) rfl ?_
  refine x_gQ e rfl rfl fd_8_7 rfl (fun z3 e => ?_)
  refine wp_p (j := J_Reader_readTag) 1 (pc' := 116) (lv' := [(6, .long z2), (0, .ref v0), (1, .int v1), (2, .int v2), (3, .int v3), (4, .int v4), (5, .int v5)]) (st' := [.int 0, .ref z3]) rfl ?_
  refine x_pI e rfl rfl fw_7_12 rfl (fun g4 e => ?_)
  refine wp_p (j := J_Reader_readTag) 2 (pc' := 122) (lv' := [(8, .int 0), (6, .long z2), (0, .ref v0), (1, .int v1), (2, .int v2), (3, .int v3), (4, .int v4), (5, .int v5)]) (st' := []) rfl ?_
  obtain ⟨s5, h6, e⟩ := bd e
  refine wp_lv (lv' := [(0, .ref v0), (1, .int v1), (2, .int v2), (3, .int v3), (5, .int v5), (6, .long z2), (8, .int 0)]) rfl ⟨rfl, rfl, rfl, rfl, rfl, rfl, rfl, trivial⟩ ?_
  refine l_Reader_readTag_122 h6 ?_
  obtain ⟨z7, g8⟩ := s5
  replace e := u2_e e
  show wp (ab_ext L xs) J_Reader_readTag 199 [(0, .ref v0), (1, .int v1), (2, .int v2), (3, .int v3), (5, .int z7), (6, .long z2)] [] (hp g8) Q
  exact wp_lv (lv' := [(0, .ref v0), (1, .int v1), (2, .int v2), (3, .int v3), (5, .int z7), (6, .long z2)]) rfl ⟨rfl, rfl, rfl, rfl, rfl, rfl, trivial⟩ (x_Reader_readTag_199 e c)
noncomputable def k_Reader_readTag_51 (v0 : Nat) (v1 : Int32) (v2 : Int32) (v3 : Int32) (w0 : Int32) (g : g_S) : Option g_S :=
  (L_Reader_readTag_57 v0 v1 v2 v3 w0 w0 g).bind <| fun z3 =>
  k_Reader_readTag_98 v0 v1 v2 v3 w0 z3 g
set_option maxRecDepth 20000 in
theorem x_Reader_readTag_51 {L : Nat} {xs : Nat → Int32} {Q : Option Value → ab_H → Prop} {v0 : Nat} {v1 : Int32} {v2 : Int32} {v3 : Int32} {w0 : Int32} {g : g_S} {out : g_S} (e : k_Reader_readTag_51 v0 v1 v2 v3 w0 g = some out) (c : Q none (hp out)) : wp (ab_ext L xs) J_Reader_readTag 51 [(0, .ref v0), (1, .int v1), (2, .int v2), (3, .int v3)] [.int w0] (hp g) Q := by
  unfold k_Reader_readTag_51 at e
  refine wp_p (j := J_Reader_readTag) 3 (pc' := 57) (lv' := [(5, .int w0), (4, .int w0), (0, .ref v0), (1, .int v1), (2, .int v2), (3, .int v3)]) (st' := []) rfl ?_
  obtain ⟨z3, h2, e⟩ := bd e
  refine wp_lv (lv' := [(0, .ref v0), (1, .int v1), (2, .int v2), (3, .int v3), (4, .int w0), (5, .int w0)]) rfl ⟨rfl, rfl, rfl, rfl, rfl, rfl, trivial⟩ ?_
  refine l_Reader_readTag_57 h2 ?_
  show wp (ab_ext L xs) J_Reader_readTag 98 [(0, .ref v0), (1, .int v1), (2, .int v2), (3, .int v3), (4, .int w0), (5, .int z3)] [] (hp g) Q
  exact wp_lv (lv' := [(0, .ref v0), (1, .int v1), (2, .int v2), (3, .int v3), (4, .int w0), (5, .int z3)]) rfl ⟨rfl, rfl, rfl, rfl, rfl, rfl, trivial⟩ (x_Reader_readTag_98 e c)
noncomputable def k_Reader_readTag_31 (v0 : Nat) (v1 : Int32) (v2 : Int32) (w0 : Int32) (g : g_S) : Option g_S :=
  if w0 = 0 then
    (rI g 108 v0 10).bind fun z1 =>
    k_Reader_readTag_51 v0 v1 v2 w0 (z1 + 1) g
  else
    (rI g 108 v0 10).bind fun z2 =>
    k_Reader_readTag_51 v0 v1 v2 w0 (z2 + 2) g
set_option maxRecDepth 20000 in
theorem x_Reader_readTag_31 {L : Nat} {xs : Nat → Int32} {Q : Option Value → ab_H → Prop} {v0 : Nat} {v1 : Int32} {v2 : Int32} {w0 : Int32} {g : g_S} {out : g_S} (e : k_Reader_readTag_31 v0 v1 v2 w0 g = some out) (c : Q none (hp out)) : wp (ab_ext L xs) J_Reader_readTag 31 [(0, .ref v0), (1, .int v1), (2, .int v2)] [.int w0] (hp g) Q := by
  unfold k_Reader_readTag_31 at e
  refine wp_p (j := J_Reader_readTag) 2 (pc' := 33) (lv' := [(3, .int w0), (0, .ref v0), (1, .int v1), (2, .int v2)]) (st' := [.int w0]) rfl ?_
  refine z_eq e rfl (fun e => ?_) (fun e => ?_)
  · refine wp_p (j := J_Reader_readTag) 1 (pc' := 46) (lv' := [(3, .int w0), (0, .ref v0), (1, .int v1), (2, .int v2)]) (st' := [.ref v0]) rfl ?_
    refine x_gI e rfl rfl fd_8_10 rfl (fun z1 e => ?_)
    refine wp_p (j := J_Reader_readTag) 2 (pc' := 51) (lv' := [(3, .int w0), (0, .ref v0), (1, .int v1), (2, .int v2)]) (st' := [.int (z1 + 1)]) rfl ?_
    exact wp_lv (lv' := [(0, .ref v0), (1, .int v1), (2, .int v2), (3, .int w0)]) rfl ⟨rfl, rfl, rfl, rfl, trivial⟩ (x_Reader_readTag_51 e c)
  · refine wp_p (j := J_Reader_readTag) 1 (pc' := 37) (lv' := [(3, .int w0), (0, .ref v0), (1, .int v1), (2, .int v2)]) (st' := [.ref v0]) rfl ?_
    refine x_gI e rfl rfl fd_8_10 rfl (fun z2 e => ?_)
    refine wp_p (j := J_Reader_readTag) 3 (pc' := 51) (lv' := [(3, .int w0), (0, .ref v0), (1, .int v1), (2, .int v2)]) (st' := [.int (z2 + 2)]) rfl ?_
    exact wp_lv (lv' := [(0, .ref v0), (1, .int v1), (2, .int v2), (3, .int w0)]) rfl ⟨rfl, rfl, rfl, rfl, trivial⟩ (x_Reader_readTag_51 e c)
noncomputable def M_Reader_readTag (v0 : Nat) (g : g_S) : Option g_S :=
  (rI g 108 v0 10).bind fun z1 =>
  (rI g 108 v0 3).bind fun z2 =>
  (rQ g 108 v0 8).bind fun z3 =>
  (rI g 108 v0 10).bind fun z4 =>
  (aI g 1 z3 (z4 + 1)).bind fun z5 =>
  if z5 = 47 then
    k_Reader_readTag_31 v0 z1 z2 1 g
  else
    k_Reader_readTag_31 v0 z1 z2 0 g
set_option maxRecDepth 20000 in
theorem d_Reader_readTag {L : Nat} {xs : Nat → Int32} {Q : Option Value → ab_H → Prop} {v0 : Nat} {g : g_S} {out : g_S} (e : M_Reader_readTag v0 g = some out) (c : Q none (hp out)) : mw (ab_ext L xs) J_Reader_readTag [.ref v0] (hp g) Q := by
  unfold M_Reader_readTag at e
  refine wp_p (j := J_Reader_readTag) 1 (pc' := 1) (lv' := [(0, .ref v0)]) (st' := [.ref v0]) rfl ?_
  refine x_gI e rfl rfl fd_8_10 rfl (fun z1 e => ?_)
  refine wp_p (j := J_Reader_readTag) 2 (pc' := 6) (lv' := [(1, .int z1), (0, .ref v0)]) (st' := [.ref v0]) rfl ?_
  refine x_gI e rfl rfl fd_8_3 rfl (fun z2 e => ?_)
  refine wp_p (j := J_Reader_readTag) 2 (pc' := 11) (lv' := [(2, .int z2), (1, .int z1), (0, .ref v0)]) (st' := [.ref v0]) rfl ?_
  refine x_gQ e rfl rfl fd_8_8 rfl (fun z3 e => ?_)
  refine wp_p (j := J_Reader_readTag) 1 (pc' := 15) (lv' := [(2, .int z2), (1, .int z1), (0, .ref v0)]) (st' := [.ref v0, .ref z3]) rfl ?_
  refine x_gI e rfl rfl fd_8_10 rfl (fun z4 e => ?_)
  refine wp_p (j := J_Reader_readTag) 2 (pc' := 20) (lv' := [(2, .int z2), (1, .int z1), (0, .ref v0)]) (st' := [.int (z4 + 1), .ref z3]) rfl ?_
  refine x_aB e rfl (.inl rfl) rfl (fun z5 e => ?_)
  refine wp_p (j := J_Reader_readTag) 1 (pc' := 23) (lv' := [(2, .int z2), (1, .int z1), (0, .ref v0)]) (st' := [.int 47, .int z5]) rfl ?_
  refine x_ne e rfl (fun e => ?_) (fun e => ?_)
  · refine wp_p (j := J_Reader_readTag) 2 (pc' := 31) (lv' := [(2, .int z2), (1, .int z1), (0, .ref v0)]) (st' := [.int 1]) rfl ?_
    exact wp_lv (lv' := [(0, .ref v0), (1, .int z1), (2, .int z2)]) rfl ⟨rfl, rfl, rfl, trivial⟩ (x_Reader_readTag_31 e c)
  · refine wp_p (j := J_Reader_readTag) 1 (pc' := 31) (lv' := [(2, .int z2), (1, .int z1), (0, .ref v0)]) (st' := [.int 0]) rfl ?_
    exact wp_lv (lv' := [(0, .ref v0), (1, .int z1), (2, .int z2)]) rfl ⟨rfl, rfl, rfl, trivial⟩ (x_Reader_readTag_31 e c)
noncomputable def M_Reader_isComment (v0 : Nat) (v1 : Int32) (g : g_S) : Option Int32 :=
  (rQ g 108 v0 8).bind fun z1 =>
  (aI g 1 z1 v1).bind fun z2 =>
  if z2 = 60 then
    (rQ g 108 v0 8).bind fun z3 =>
    (rI g 108 v0 9).bind fun z4 =>
    (M_Bytes_stands 1000019 z3 v1 z4 g).bind fun z5 =>
    if z5 = 0 then
      some 0
    else
      some 1
  else
    some 0
set_option maxRecDepth 20000 in
theorem d_Reader_isComment {L : Nat} {xs : Nat → Int32} {Q : Option Value → ab_H → Prop} {v0 : Nat} {v1 : Int32} {g : g_S} {out : Int32} (e : M_Reader_isComment v0 v1 g = some out) (c : Q (some (.int out)) (hp g)) : mw (ab_ext L xs) J_Reader_isComment [.ref v0, .int v1] (hp g) Q := by
  unfold M_Reader_isComment at e
  refine wp_p (j := J_Reader_isComment) 1 (pc' := 1) (lv' := [(0, .ref v0), (1, .int v1)]) (st' := [.ref v0]) rfl ?_
  refine x_gQ e rfl rfl fd_8_8 rfl (fun z1 e => ?_)
  refine wp_p (j := J_Reader_isComment) 1 (pc' := 5) (lv' := [(0, .ref v0), (1, .int v1)]) (st' := [.int v1, .ref z1]) rfl ?_
  refine x_aB e rfl (.inl rfl) rfl (fun z2 e => ?_)
  refine wp_p (j := J_Reader_isComment) 1 (pc' := 8) (lv' := [(0, .ref v0), (1, .int v1)]) (st' := [.int 60, .int z2]) rfl ?_
  refine x_ne e rfl (fun e => ?_) (fun e => ?_)
  · refine x_ls rfl rfl ?_
    refine wp_p (j := J_Reader_isComment) 1 (pc' := 14) (lv' := [(0, .ref v0), (1, .int v1)]) (st' := [.ref v0, .ref 1000019]) rfl ?_
    refine x_gQ e rfl rfl fd_8_8 rfl (fun z3 e => ?_)
    refine wp_p (j := J_Reader_isComment) 2 (pc' := 19) (lv' := [(0, .ref v0), (1, .int v1)]) (st' := [.ref v0, .int v1, .ref z3, .ref 1000019]) rfl ?_
    refine x_gI e rfl rfl fd_8_9 rfl (fun z4 e => ?_)
    refine x_cs1 (As := [.ref 1000019, .ref z3, .int v1, .int z4]) (rest := []) Value.int e rfl rfl rfl rfl rfl (fun h => d_Bytes_stands h ⟨rfl, rfl⟩) (fun z5 e => ?_)
    refine z_eq e rfl (fun e => ?_) (fun e => ?_)
    · refine wp_p (j := J_Reader_isComment) 1 (pc' := 33) (lv' := [(0, .ref v0), (1, .int v1)]) (st' := [.int 0]) rfl ?_
      have e := Option.some.inj e; subst e; exact wp_iret (ty := .boolean) rfl rfl (by decide) c
    · refine wp_p (j := J_Reader_isComment) 2 (pc' := 33) (lv' := [(0, .ref v0), (1, .int v1)]) (st' := [.int 1]) rfl ?_
      have e := Option.some.inj e; subst e; exact wp_iret (ty := .boolean) rfl rfl (by decide) c
  · refine wp_p (j := J_Reader_isComment) 1 (pc' := 33) (lv' := [(0, .ref v0), (1, .int v1)]) (st' := [.int 0]) rfl ?_
    have e := Option.some.inj e; subst e; exact wp_iret (ty := .boolean) rfl rfl (by decide) c
def cL_Reader_readComment_7 (L : Nat) (xs : Nat → Int32) (Q : Option Value → ab_H → Prop) (v0 : Nat) (g : g_S) (out : (Int32) ⊕ (Int32)) : Prop := match out with
  | .inl s => wp (ab_ext L xs) J_Reader_readComment 7 [(0, .ref v0), (1, .int s)] [] (hp g) Q
  | .inr s => wp (ab_ext L xs) J_Reader_readComment 38 [(0, .ref v0), (1, .int s)] [] (hp g) Q
noncomputable def b_Reader_readComment_7 (v0 : Nat) (v1 : Int32) (g : g_S) : Option ((Int32) ⊕ (Int32)) :=
  (rI g 108 v0 9).bind fun z1 =>
  if v1 < z1 then
    (rQ g 108 v0 8).bind fun z2 =>
    (rI g 108 v0 9).bind fun z3 =>
    (M_Bytes_stands 1000020 z2 v1 z3 g).bind fun z4 =>
    if z4 = 0 then
      some (.inl (v1 + 1))
    else
      some (.inr v1)
  else
    some (.inr v1)
set_option maxRecDepth 20000 in
theorem y_Reader_readComment_7 {L : Nat} {xs : Nat → Int32} {Q : Option Value → ab_H → Prop} {v0 : Nat} {v1 : Int32} {g : g_S} {out : (Int32) ⊕ (Int32)} (e : b_Reader_readComment_7 v0 v1 g = some out) (c : cL_Reader_readComment_7 L xs Q v0 g out) : wp (ab_ext L xs) J_Reader_readComment 7 [(0, .ref v0), (1, .int v1)] [] (hp g) Q := by
  unfold b_Reader_readComment_7 at e
  refine wp_p (j := J_Reader_readComment) 2 (pc' := 9) (lv' := [(0, .ref v0), (1, .int v1)]) (st' := [.ref v0, .int v1]) rfl ?_
  refine x_gI e rfl rfl fd_8_9 rfl (fun z1 e => ?_)
  refine x_ge e rfl (fun e => ?_) (fun e => ?_)
  · refine x_ls rfl rfl ?_
    refine wp_p (j := J_Reader_readComment) 1 (pc' := 18) (lv' := [(0, .ref v0), (1, .int v1)]) (st' := [.ref v0, .ref 1000020]) rfl ?_
    refine x_gQ e rfl rfl fd_8_8 rfl (fun z2 e => ?_)
    refine wp_p (j := J_Reader_readComment) 2 (pc' := 23) (lv' := [(0, .ref v0), (1, .int v1)]) (st' := [.ref v0, .int v1, .ref z2, .ref 1000020]) rfl ?_
    refine x_gI e rfl rfl fd_8_9 rfl (fun z3 e => ?_)
    refine x_cs1 (As := [.ref 1000020, .ref z2, .int v1, .int z3]) (rest := []) Value.int e rfl rfl rfl rfl rfl (fun h => d_Bytes_stands h ⟨rfl, rfl⟩) (fun z4 e => ?_)
    refine z_ne e rfl (fun e => ?_) (fun e => ?_)
    · refine wp_p (j := J_Reader_readComment) 2 (pc' := 7) (lv' := [(1, .int (v1 + 1)), (0, .ref v0)]) (st' := []) rfl ?_
      have e := Option.some.inj e; subst e; exact wp_lv (lv' := [(0, .ref v0), (1, .int (v1 + 1))]) rfl ⟨rfl, rfl, trivial⟩ c
    · have e := Option.some.inj e; subst e; exact wp_lv (lv' := [(0, .ref v0), (1, .int v1)]) rfl ⟨rfl, rfl, trivial⟩ c
  · have e := Option.some.inj e; subst e; exact wp_lv (lv' := [(0, .ref v0), (1, .int v1)]) rfl ⟨rfl, rfl, trivial⟩ c
noncomputable def L_Reader_readComment_7 (v0 : Nat) (v1 : Int32) (g : g_S) : Option (Int32) := it (fun s : Int32 => b_Reader_readComment_7 v0 s g) (v1)
theorem l_Reader_readComment_7 {L : Nat} {xs : Nat → Int32} {Q : Option Value → ab_H → Prop} {v0 : Nat} {v1 : Int32} {g : g_S} {r : Int32} (e : L_Reader_readComment_7 v0 v1 g = some r) (c : cL_Reader_readComment_7 L xs Q v0 g (.inr r)) : wp (ab_ext L xs) J_Reader_readComment 7 [(0, .ref v0), (1, .int v1)] [] (hp g) Q :=
  it_wp (P := fun s : Int32 => wp (ab_ext L xs) J_Reader_readComment 7 [(0, .ref v0), (1, .int s)] [] (hp g) Q) (E := fun r => cL_Reader_readComment_7 L xs Q v0 g (.inr r)) (fun s out e c => y_Reader_readComment_7 e (by cases out <;> exact c)) e c
theorem L_Reader_readComment_7_eq (v0 : Nat) (v1 : Int32) (g : g_S) : L_Reader_readComment_7 v0 v1 g = itc (b_Reader_readComment_7 v0 v1 g) (fun s => L_Reader_readComment_7 v0 s g) := it_eq2 (fun s : Int32 => b_Reader_readComment_7 v0 s g) (v1)
noncomputable def k_Reader_readComment_38 (v0 : Nat) (v1 : Int32) (g : g_S) : Option g_S :=
  (rI g 108 v0 9).bind fun z1 =>
  if v1 < z1 then
    (wI g 108 v0 10 (v1 + 3)).bind fun g2 =>
    some g2
  else
    (rI g 108 v0 10).bind fun z3 =>
    (vc g 108 v0 (M_Reader_tell v0 1 z3 g)).bind fun g4 =>
    (rI g4 108 v0 9).bind fun z5 =>
    (wI g4 108 v0 10 z5).bind fun g6 =>
    some g6
set_option maxRecDepth 20000 in
theorem x_Reader_readComment_38 {L : Nat} {xs : Nat → Int32} {Q : Option Value → ab_H → Prop} {v0 : Nat} {v1 : Int32} {g : g_S} {out : g_S} (e : k_Reader_readComment_38 v0 v1 g = some out) (c : Q none (hp out)) : wp (ab_ext L xs) J_Reader_readComment 38 [(0, .ref v0), (1, .int v1)] [] (hp g) Q := by
  unfold k_Reader_readComment_38 at e
  refine wp_p (j := J_Reader_readComment) 2 (pc' := 40) (lv' := [(0, .ref v0), (1, .int v1)]) (st' := [.ref v0, .int v1]) rfl ?_
  refine x_gI e rfl rfl fd_8_9 rfl (fun z1 e => ?_)
  refine x_lt e rfl (fun e => ?_) (fun e => ?_)
  · refine wp_p (j := J_Reader_readComment) 4 (pc' := 70) (lv' := [(0, .ref v0), (1, .int v1)]) (st' := [.int (v1 + 3), .ref v0]) rfl ?_
    refine x_pI e rfl rfl fw_8_10 rfl (fun g2 e => ?_)
    have e := Option.some.inj e; subst e; exact wp_vret rfl rfl c
  · refine wp_p (j := J_Reader_readComment) 3 (pc' := 49) (lv' := [(0, .ref v0), (1, .int v1)]) (st' := [.ref v0, .int 1, .ref v0]) rfl ?_
    refine x_gI e rfl rfl fd_8_10 rfl (fun z3 e => ?_)
    refine x_cv0 (As := [.int 1, .int z3]) (rest := []) e rfl rfl rfl rfl rfl rfl (fun h => d_Reader_tell h ⟨rfl, rfl⟩) (fun g4 e => ?_)
    refine wp_p (j := J_Reader_readComment) 2 (pc' := 57) (lv' := [(0, .ref v0), (1, .int v1)]) (st' := [.ref v0, .ref v0]) rfl ?_
    refine x_gI e rfl rfl fd_8_9 rfl (fun z5 e => ?_)
    refine x_pI e rfl rfl fw_8_10 rfl (fun g6 e => ?_)
    refine wp_p (j := J_Reader_readComment) 1 (pc' := 73) (lv' := [(0, .ref v0), (1, .int v1)]) (st' := []) rfl ?_
    have e := Option.some.inj e; subst e; exact wp_vret rfl rfl c
noncomputable def M_Reader_readComment (v0 : Nat) (g : g_S) : Option g_S :=
  (rI g 108 v0 10).bind fun z1 =>
  (L_Reader_readComment_7 v0 (z1 + 4) g).bind <| fun z4 =>
  k_Reader_readComment_38 v0 z4 g
set_option maxRecDepth 20000 in
theorem d_Reader_readComment {L : Nat} {xs : Nat → Int32} {Q : Option Value → ab_H → Prop} {v0 : Nat} {g : g_S} {out : g_S} (e : M_Reader_readComment v0 g = some out) (c : Q none (hp out)) : mw (ab_ext L xs) J_Reader_readComment [.ref v0] (hp g) Q := by
  unfold M_Reader_readComment at e
  refine wp_p (j := J_Reader_readComment) 1 (pc' := 1) (lv' := [(0, .ref v0)]) (st' := [.ref v0]) rfl ?_
  refine x_gI e rfl rfl fd_8_10 rfl (fun z1 e => ?_)
  refine wp_p (j := J_Reader_readComment) 3 (pc' := 7) (lv' := [(1, .int (z1 + 4)), (0, .ref v0)]) (st' := []) rfl ?_
  obtain ⟨z4, h3, e⟩ := bd e
  refine wp_lv (lv' := [(0, .ref v0), (1, .int (z1 + 4))]) rfl ⟨rfl, rfl, trivial⟩ ?_
  refine l_Reader_readComment_7 h3 ?_
  show wp (ab_ext L xs) J_Reader_readComment 38 [(0, .ref v0), (1, .int z4)] [] (hp g) Q
  exact wp_lv (lv' := [(0, .ref v0), (1, .int z4)]) rfl ⟨rfl, rfl, trivial⟩ (x_Reader_readComment_38 e c)
def cL_Reader_readText_7 (L : Nat) (xs : Nat → Int32) (Q : Option Value → ab_H → Prop) (v0 : Nat) (g : g_S) (out : (Int32) ⊕ (Int32)) : Prop := match out with
  | .inl s => wp (ab_ext L xs) J_Reader_readText 7 [(0, .ref v0), (1, .int s)] [] (hp g) Q
  | .inr s => wp (ab_ext L xs) J_Reader_readText 37 [(0, .ref v0), (1, .int s)] [] (hp g) Q
noncomputable def b_Reader_readText_7 (v0 : Nat) (v1 : Int32) (g : g_S) : Option ((Int32) ⊕ (Int32)) :=
  (rI g 108 v0 9).bind fun z1 =>
  if v1 < z1 then
    (vc g 108 v0 (M_Reader_isTag v0 v1 g)).bind fun z2 =>
    if z2 = 0 then
      (vc g 108 v0 (M_Reader_isComment v0 v1 g)).bind fun z3 =>
      if z3 = 0 then
        some (.inl (v1 + 1))
      else
        some (.inr v1)
    else
      some (.inr v1)
  else
    some (.inr v1)
set_option maxRecDepth 20000 in
theorem y_Reader_readText_7 {L : Nat} {xs : Nat → Int32} {Q : Option Value → ab_H → Prop} {v0 : Nat} {v1 : Int32} {g : g_S} {out : (Int32) ⊕ (Int32)} (e : b_Reader_readText_7 v0 v1 g = some out) (c : cL_Reader_readText_7 L xs Q v0 g out) : wp (ab_ext L xs) J_Reader_readText 7 [(0, .ref v0), (1, .int v1)] [] (hp g) Q := by
  unfold b_Reader_readText_7 at e
  refine wp_p (j := J_Reader_readText) 2 (pc' := 9) (lv' := [(0, .ref v0), (1, .int v1)]) (st' := [.ref v0, .int v1]) rfl ?_
  refine x_gI e rfl rfl fd_8_9 rfl (fun z1 e => ?_)
  refine x_ge e rfl (fun e => ?_) (fun e => ?_)
  · refine wp_p (j := J_Reader_readText) 2 (pc' := 17) (lv' := [(0, .ref v0), (1, .int v1)]) (st' := [.int v1, .ref v0]) rfl ?_
    refine x_cv1 (As := [.int v1]) (rest := []) Value.int e rfl rfl rfl rfl rfl rfl (fun h => d_Reader_isTag h ⟨rfl, rfl⟩) (fun z2 e => ?_)
    refine z_ne e rfl (fun e => ?_) (fun e => ?_)
    · refine wp_p (j := J_Reader_readText) 2 (pc' := 25) (lv' := [(0, .ref v0), (1, .int v1)]) (st' := [.int v1, .ref v0]) rfl ?_
      refine x_cv1 (As := [.int v1]) (rest := []) Value.int e rfl rfl rfl rfl rfl rfl (fun h => d_Reader_isComment h ⟨rfl, rfl⟩) (fun z3 e => ?_)
      refine z_ne e rfl (fun e => ?_) (fun e => ?_)
      · refine wp_p (j := J_Reader_readText) 2 (pc' := 7) (lv' := [(1, .int (v1 + 1)), (0, .ref v0)]) (st' := []) rfl ?_
        have e := Option.some.inj e; subst e; exact wp_lv (lv' := [(0, .ref v0), (1, .int (v1 + 1))]) rfl ⟨rfl, rfl, trivial⟩ c
      · have e := Option.some.inj e; subst e; exact wp_lv (lv' := [(0, .ref v0), (1, .int v1)]) rfl ⟨rfl, rfl, trivial⟩ c
    · have e := Option.some.inj e; subst e; exact wp_lv (lv' := [(0, .ref v0), (1, .int v1)]) rfl ⟨rfl, rfl, trivial⟩ c
  · have e := Option.some.inj e; subst e; exact wp_lv (lv' := [(0, .ref v0), (1, .int v1)]) rfl ⟨rfl, rfl, trivial⟩ c
noncomputable def L_Reader_readText_7 (v0 : Nat) (v1 : Int32) (g : g_S) : Option (Int32) := it (fun s : Int32 => b_Reader_readText_7 v0 s g) (v1)
theorem l_Reader_readText_7 {L : Nat} {xs : Nat → Int32} {Q : Option Value → ab_H → Prop} {v0 : Nat} {v1 : Int32} {g : g_S} {r : Int32} (e : L_Reader_readText_7 v0 v1 g = some r) (c : cL_Reader_readText_7 L xs Q v0 g (.inr r)) : wp (ab_ext L xs) J_Reader_readText 7 [(0, .ref v0), (1, .int v1)] [] (hp g) Q :=
  it_wp (P := fun s : Int32 => wp (ab_ext L xs) J_Reader_readText 7 [(0, .ref v0), (1, .int s)] [] (hp g) Q) (E := fun r => cL_Reader_readText_7 L xs Q v0 g (.inr r)) (fun s out e c => y_Reader_readText_7 e (by cases out <;> exact c)) e c
theorem L_Reader_readText_7_eq (v0 : Nat) (v1 : Int32) (g : g_S) : L_Reader_readText_7 v0 v1 g = itc (b_Reader_readText_7 v0 v1 g) (fun s => L_Reader_readText_7 v0 s g) := it_eq2 (fun s : Int32 => b_Reader_readText_7 v0 s g) (v1)
noncomputable def k_Reader_readText_37 (v0 : Nat) (v1 : Int32) (g : g_S) : Option g_S :=
  (rI g 108 v0 10).bind fun z1 =>
  (vc g 108 v0 (M_Reader_addRun v0 z1 v1 1 g)).bind fun g2 =>
  (wI g2 108 v0 10 v1).bind fun g3 =>
  some g3
set_option maxRecDepth 20000 in
theorem x_Reader_readText_37 {L : Nat} {xs : Nat → Int32} {Q : Option Value → ab_H → Prop} {v0 : Nat} {v1 : Int32} {g : g_S} {out : g_S} (e : k_Reader_readText_37 v0 v1 g = some out) (c : Q none (hp out)) : wp (ab_ext L xs) J_Reader_readText 37 [(0, .ref v0), (1, .int v1)] [] (hp g) Q := by
  unfold k_Reader_readText_37 at e
  refine wp_p (j := J_Reader_readText) 2 (pc' := 39) (lv' := [(0, .ref v0), (1, .int v1)]) (st' := [.ref v0, .ref v0]) rfl ?_
  refine x_gI e rfl rfl fd_8_10 rfl (fun z1 e => ?_)
  refine wp_p (j := J_Reader_readText) 2 (pc' := 44) (lv' := [(0, .ref v0), (1, .int v1)]) (st' := [.int 1, .int v1, .int z1, .ref v0]) rfl ?_
  refine x_cv0 (As := [.int z1, .int v1, .int 1]) (rest := []) e rfl rfl rfl rfl rfl rfl (fun h => d_Reader_addRun h ⟨rfl, rfl⟩) (fun g2 e => ?_)
  refine wp_p (j := J_Reader_readText) 2 (pc' := 49) (lv' := [(0, .ref v0), (1, .int v1)]) (st' := [.int v1, .ref v0]) rfl ?_
  refine x_pI e rfl rfl fw_8_10 rfl (fun g3 e => ?_)
  have e := Option.some.inj e; subst e; exact wp_vret rfl rfl c
noncomputable def M_Reader_readText (v0 : Nat) (g : g_S) : Option g_S :=
  (rI g 108 v0 10).bind fun z1 =>
  (L_Reader_readText_7 v0 (z1 + 1) g).bind <| fun z4 =>
  k_Reader_readText_37 v0 z4 g
set_option maxRecDepth 20000 in
theorem d_Reader_readText {L : Nat} {xs : Nat → Int32} {Q : Option Value → ab_H → Prop} {v0 : Nat} {g : g_S} {out : g_S} (e : M_Reader_readText v0 g = some out) (c : Q none (hp out)) : mw (ab_ext L xs) J_Reader_readText [.ref v0] (hp g) Q := by
  unfold M_Reader_readText at e
  refine wp_p (j := J_Reader_readText) 1 (pc' := 1) (lv' := [(0, .ref v0)]) (st' := [.ref v0]) rfl ?_
  refine x_gI e rfl rfl fd_8_10 rfl (fun z1 e => ?_)
  refine wp_p (j := J_Reader_readText) 3 (pc' := 7) (lv' := [(1, .int (z1 + 1)), (0, .ref v0)]) (st' := []) rfl ?_
  obtain ⟨z4, h3, e⟩ := bd e
  refine wp_lv (lv' := [(0, .ref v0), (1, .int (z1 + 1))]) rfl ⟨rfl, rfl, trivial⟩ ?_
  refine l_Reader_readText_7 h3 ?_
  show wp (ab_ext L xs) J_Reader_readText 37 [(0, .ref v0), (1, .int z4)] [] (hp g) Q
  exact wp_lv (lv' := [(0, .ref v0), (1, .int z4)]) rfl ⟨rfl, rfl, trivial⟩ (x_Reader_readText_37 e c)
def cL_Reader_read_46 (L : Nat) (xs : Nat → Int32) (Q : Option Value → ab_H → Prop) (v0 : Nat) (v2 : Int32) (out : (Int32 × g_S) ⊕ (g_S)) : Prop := match out with
  | .inl s => wp (ab_ext L xs) J_Reader_read 46 [(0, .ref v0), (2, .int v2), (3, .int s.1)] [] (hp s.2) Q
  | .inr s => wp (ab_ext L xs) J_Reader_read 174 [(0, .ref v0)] [] (hp s) Q
noncomputable def k_Reader_read_128 (v0 : Nat) (v2 : Int32) (v3 : Int32) (g : g_S) : Option ((Int32 × g_S) ⊕ (g_S)) :=
  (rI g 108 v0 10).bind fun z1 =>
  (vc g 108 v0 (M_Reader_isTag v0 z1 g)).bind fun z2 =>
  if z2 = 0 then
    (rI g 108 v0 10).bind fun z3 =>
    (vc g 108 v0 (M_Reader_isComment v0 z3 g)).bind fun z4 =>
    if z4 = 0 then
      (vc g 108 v0 (M_Reader_readText v0 g)).bind fun g5 =>
      some (.inl (v3 + 1, g5))
    else
      (vc g 108 v0 (M_Reader_readComment v0 g)).bind fun g6 =>
      some (.inl (v3 + 1, g6))
  else
    (vc g 108 v0 (M_Reader_readTag v0 g)).bind fun g7 =>
    some (.inl (v3 + 1, g7))
set_option maxRecDepth 20000 in
theorem x_Reader_read_128 {L : Nat} {xs : Nat → Int32} {Q : Option Value → ab_H → Prop} {v0 : Nat} {v2 : Int32} {v3 : Int32} {g : g_S} {out : (Int32 × g_S) ⊕ (g_S)} (e : k_Reader_read_128 v0 v2 v3 g = some out) (c : cL_Reader_read_46 L xs Q v0 v2 out) : wp (ab_ext L xs) J_Reader_read 128 [(0, .ref v0), (2, .int v2), (3, .int v3)] [] (hp g) Q := by
  unfold k_Reader_read_128 at e
  refine wp_p (j := J_Reader_read) 2 (pc' := 130) (lv' := [(0, .ref v0), (2, .int v2), (3, .int v3)]) (st' := [.ref v0, .ref v0]) rfl ?_
  refine x_gI e rfl rfl fd_8_10 rfl (fun z1 e => ?_)
  refine x_cv1 (As := [.int z1]) (rest := []) Value.int e rfl rfl rfl rfl rfl rfl (fun h => d_Reader_isTag h ⟨rfl, rfl⟩) (fun z2 e => ?_)
  refine z_eq e rfl (fun e => ?_) (fun e => ?_)
  · refine wp_p (j := J_Reader_read) 2 (pc' := 148) (lv' := [(0, .ref v0), (2, .int v2), (3, .int v3)]) (st' := [.ref v0, .ref v0]) rfl ?_
    refine x_gI e rfl rfl fd_8_10 rfl (fun z3 e => ?_)
    refine x_cv1 (As := [.int z3]) (rest := []) Value.int e rfl rfl rfl rfl rfl rfl (fun h => d_Reader_isComment h ⟨rfl, rfl⟩) (fun z4 e => ?_)
    refine z_eq e rfl (fun e => ?_) (fun e => ?_)
    · refine wp_p (j := J_Reader_read) 1 (pc' := 165) (lv' := [(0, .ref v0), (2, .int v2), (3, .int v3)]) (st' := [.ref v0]) rfl ?_
      refine x_cv0 (As := []) (rest := []) e rfl rfl rfl rfl rfl rfl (fun h => d_Reader_readText h ⟨rfl, rfl⟩) (fun g5 e => ?_)
      refine wp_p (j := J_Reader_read) 2 (pc' := 46) (lv' := [(3, .int (v3 + 1)), (0, .ref v0), (2, .int v2)]) (st' := []) rfl ?_
      have e := Option.some.inj e; subst e; exact wp_lv (lv' := [(0, .ref v0), (2, .int v2), (3, .int (v3 + 1))]) rfl ⟨rfl, rfl, rfl, trivial⟩ c
    · refine wp_p (j := J_Reader_read) 1 (pc' := 158) (lv' := [(0, .ref v0), (2, .int v2), (3, .int v3)]) (st' := [.ref v0]) rfl ?_
      refine x_cv0 (As := []) (rest := []) e rfl rfl rfl rfl rfl rfl (fun h => d_Reader_readComment h ⟨rfl, rfl⟩) (fun g6 e => ?_)
      refine wp_p (j := J_Reader_read) 3 (pc' := 46) (lv' := [(3, .int (v3 + 1)), (0, .ref v0), (2, .int v2)]) (st' := []) rfl ?_
      have e := Option.some.inj e; subst e; exact wp_lv (lv' := [(0, .ref v0), (2, .int v2), (3, .int (v3 + 1))]) rfl ⟨rfl, rfl, rfl, trivial⟩ c
  · refine wp_p (j := J_Reader_read) 1 (pc' := 140) (lv' := [(0, .ref v0), (2, .int v2), (3, .int v3)]) (st' := [.ref v0]) rfl ?_
    refine x_cv0 (As := []) (rest := []) e rfl rfl rfl rfl rfl rfl (fun h => d_Reader_readTag h ⟨rfl, rfl⟩) (fun g7 e => ?_)
    refine wp_p (j := J_Reader_read) 3 (pc' := 46) (lv' := [(3, .int (v3 + 1)), (0, .ref v0), (2, .int v2)]) (st' := []) rfl ?_
    have e := Option.some.inj e; subst e; exact wp_lv (lv' := [(0, .ref v0), (2, .int v2), (3, .int (v3 + 1))]) rfl ⟨rfl, rfl, rfl, trivial⟩ c
noncomputable def k_Reader_read_94 (v0 : Nat) (v2 : Int32) (v3 : Int32) (w0 : Int32) (g : g_S) : Option ((Int32 × g_S) ⊕ (g_S)) :=
  if w0 = 0 then
    k_Reader_read_128 v0 v2 v3 g
  else
    (rQ g 108 v0 8).bind fun z1 =>
    (rI g 108 v0 10).bind fun z2 =>
    (rI g 108 v0 9).bind fun z3 =>
    (M_Bytes_stands 1000010 z1 z2 z3 g).bind fun z4 =>
    if z4 = 0 then
      (vc g 108 v0 (M_Reader_readRaw v0 g)).bind fun g5 =>
      some (.inl (v3 + 1, g5))
    else
      k_Reader_read_128 v0 v2 v3 g
set_option maxRecDepth 20000 in
theorem x_Reader_read_94 {L : Nat} {xs : Nat → Int32} {Q : Option Value → ab_H → Prop} {v0 : Nat} {v2 : Int32} {v3 : Int32} {w0 : Int32} {g : g_S} {out : (Int32 × g_S) ⊕ (g_S)} (e : k_Reader_read_94 v0 v2 v3 w0 g = some out) (c : cL_Reader_read_46 L xs Q v0 v2 out) : wp (ab_ext L xs) J_Reader_read 94 [(0, .ref v0), (2, .int v2), (3, .int v3)] [.int w0] (hp g) Q := by
  unfold k_Reader_read_94 at e
  refine wp_p (j := J_Reader_read) 2 (pc' := 98) (lv' := [(4, .int w0), (0, .ref v0), (2, .int v2), (3, .int v3)]) (st' := [.int w0]) rfl ?_
  refine z_eq e rfl (fun e => ?_) (fun e => ?_)
  · exact wp_lv (lv' := [(0, .ref v0), (2, .int v2), (3, .int v3)]) rfl ⟨rfl, rfl, rfl, trivial⟩ (x_Reader_read_128 e c)
  · refine x_ls rfl rfl ?_
    refine wp_p (j := J_Reader_read) 1 (pc' := 104) (lv' := [(4, .int w0), (0, .ref v0), (2, .int v2), (3, .int v3)]) (st' := [.ref v0, .ref 1000010]) rfl ?_
    refine x_gQ e rfl rfl fd_8_8 rfl (fun z1 e => ?_)
    refine wp_p (j := J_Reader_read) 1 (pc' := 108) (lv' := [(4, .int w0), (0, .ref v0), (2, .int v2), (3, .int v3)]) (st' := [.ref v0, .ref z1, .ref 1000010]) rfl ?_
    refine x_gI e rfl rfl fd_8_10 rfl (fun z2 e => ?_)
    refine wp_p (j := J_Reader_read) 1 (pc' := 112) (lv' := [(4, .int w0), (0, .ref v0), (2, .int v2), (3, .int v3)]) (st' := [.ref v0, .int z2, .ref z1, .ref 1000010]) rfl ?_
    refine x_gI e rfl rfl fd_8_9 rfl (fun z3 e => ?_)
    refine x_cs1 (As := [.ref 1000010, .ref z1, .int z2, .int z3]) (rest := []) Value.int e rfl rfl rfl rfl rfl (fun h => d_Bytes_stands h ⟨rfl, rfl⟩) (fun z4 e => ?_)
    refine z_ne e rfl (fun e => ?_) (fun e => ?_)
    · refine wp_p (j := J_Reader_read) 1 (pc' := 122) (lv' := [(4, .int w0), (0, .ref v0), (2, .int v2), (3, .int v3)]) (st' := [.ref v0]) rfl ?_
      refine x_cv0 (As := []) (rest := []) e rfl rfl rfl rfl rfl rfl (fun h => d_Reader_readRaw h ⟨rfl, rfl⟩) (fun g5 e => ?_)
      refine wp_p (j := J_Reader_read) 3 (pc' := 46) (lv' := [(3, .int (v3 + 1)), (4, .int w0), (0, .ref v0), (2, .int v2)]) (st' := []) rfl ?_
      have e := Option.some.inj e; subst e; exact wp_lv (lv' := [(0, .ref v0), (2, .int v2), (3, .int (v3 + 1))]) rfl ⟨rfl, rfl, rfl, trivial⟩ c
    · exact wp_lv (lv' := [(0, .ref v0), (2, .int v2), (3, .int v3)]) rfl ⟨rfl, rfl, rfl, trivial⟩ (x_Reader_read_128 e c)
noncomputable def b_Reader_read_46 (v0 : Nat) (v2 : Int32) (v3 : Int32) (g : g_S) : Option ((Int32 × g_S) ⊕ (g_S)) :=
  if v2 < v3 then
    some (.inr g)
  else
    (rI g 108 v0 10).bind fun z1 =>
    (rI g 108 v0 9).bind fun z2 =>
    if z1 < z2 then
      (rQ g 108 v0 0).bind fun z3 =>
      (rQ g 110 z3 0).bind fun z4 =>
      (rQ g 108 v0 4).bind fun z5 =>
      (rI g 108 v0 6).bind fun z6 =>
      (aI g 0 z5 (z6 - 1)).bind fun z7 =>
      (aQ g 5 z4 z7).bind fun z8 =>
      (rI g 107 z8 0).bind fun z9 =>
      if z9 = 15 then
        k_Reader_read_94 v0 v2 v3 1 g
      else
        k_Reader_read_94 v0 v2 v3 0 g
    else
      some (.inr g)
set_option maxRecDepth 20000 in
theorem y_Reader_read_46 {L : Nat} {xs : Nat → Int32} {Q : Option Value → ab_H → Prop} {v0 : Nat} {v2 : Int32} {v3 : Int32} {g : g_S} {out : (Int32 × g_S) ⊕ (g_S)} (e : b_Reader_read_46 v0 v2 v3 g = some out) (c : cL_Reader_read_46 L xs Q v0 v2 out) : wp (ab_ext L xs) J_Reader_read 46 [(0, .ref v0), (2, .int v2), (3, .int v3)] [] (hp g) Q := by
  unfold b_Reader_read_46 at e
  refine wp_p (j := J_Reader_read) 2 (pc' := 48) (lv' := [(0, .ref v0), (2, .int v2), (3, .int v3)]) (st' := [.int v2, .int v3]) rfl ?_
  refine x_gt e rfl (fun e => ?_) (fun e => ?_)
  · have e := Option.some.inj e; subst e; exact wp_lv (lv' := [(0, .ref v0)]) rfl ⟨rfl, trivial⟩ c
  · refine wp_p (j := J_Reader_read) 1 (pc' := 52) (lv' := [(0, .ref v0), (2, .int v2), (3, .int v3)]) (st' := [.ref v0]) rfl ?_
    refine x_gI e rfl rfl fd_8_10 rfl (fun z1 e => ?_)
    refine wp_p (j := J_Reader_read) 1 (pc' := 56) (lv' := [(0, .ref v0), (2, .int v2), (3, .int v3)]) (st' := [.ref v0, .int z1]) rfl ?_
    refine x_gI e rfl rfl fd_8_9 rfl (fun z2 e => ?_)
    refine x_ge e rfl (fun e => ?_) (fun e => ?_)
    · refine wp_p (j := J_Reader_read) 1 (pc' := 63) (lv' := [(0, .ref v0), (2, .int v2), (3, .int v3)]) (st' := [.ref v0]) rfl ?_
      refine x_gQ e rfl rfl fd_8_0 rfl (fun z3 e => ?_)
      refine x_gQ e rfl rfl fd_10_0 rfl (fun z4 e => ?_)
      refine wp_p (j := J_Reader_read) 1 (pc' := 70) (lv' := [(0, .ref v0), (2, .int v2), (3, .int v3)]) (st' := [.ref v0, .ref z4]) rfl ?_
      refine x_gQ e rfl rfl fd_8_4 rfl (fun z5 e => ?_)
      refine wp_p (j := J_Reader_read) 1 (pc' := 74) (lv' := [(0, .ref v0), (2, .int v2), (3, .int v3)]) (st' := [.ref v0, .ref z5, .ref z4]) rfl ?_
      refine x_gI e rfl rfl fd_8_6 rfl (fun z6 e => ?_)
      refine wp_p (j := J_Reader_read) 2 (pc' := 79) (lv' := [(0, .ref v0), (2, .int v2), (3, .int v3)]) (st' := [.int (z6 - 1), .ref z5, .ref z4]) rfl ?_
      refine x_aI e rfl rfl (fun z7 e => ?_)
      refine x_aQ e rfl rfl rfl (fun z8 e => ?_)
      refine x_gI e rfl rfl fd_7_0 rfl (fun z9 e => ?_)
      refine wp_p (j := J_Reader_read) 1 (pc' := 86) (lv' := [(0, .ref v0), (2, .int v2), (3, .int v3)]) (st' := [.int 15, .int z9]) rfl ?_
      refine x_ne e rfl (fun e => ?_) (fun e => ?_)
      · refine wp_p (j := J_Reader_read) 2 (pc' := 94) (lv' := [(0, .ref v0), (2, .int v2), (3, .int v3)]) (st' := [.int 1]) rfl ?_
        exact wp_lv (lv' := [(0, .ref v0), (2, .int v2), (3, .int v3)]) rfl ⟨rfl, rfl, rfl, trivial⟩ (x_Reader_read_94 e c)
      · refine wp_p (j := J_Reader_read) 1 (pc' := 94) (lv' := [(0, .ref v0), (2, .int v2), (3, .int v3)]) (st' := [.int 0]) rfl ?_
        exact wp_lv (lv' := [(0, .ref v0), (2, .int v2), (3, .int v3)]) rfl ⟨rfl, rfl, rfl, trivial⟩ (x_Reader_read_94 e c)
    · have e := Option.some.inj e; subst e; exact wp_lv (lv' := [(0, .ref v0)]) rfl ⟨rfl, trivial⟩ c
noncomputable def L_Reader_read_46 (v0 : Nat) (v2 : Int32) (v3 : Int32) (g : g_S) : Option (g_S) := it (fun s : Int32 × g_S => b_Reader_read_46 v0 v2 s.1 s.2) (v3, g)
theorem l_Reader_read_46 {L : Nat} {xs : Nat → Int32} {Q : Option Value → ab_H → Prop} {v0 : Nat} {v2 : Int32} {v3 : Int32} {g : g_S} {r : g_S} (e : L_Reader_read_46 v0 v2 v3 g = some r) (c : cL_Reader_read_46 L xs Q v0 v2 (.inr r)) : wp (ab_ext L xs) J_Reader_read 46 [(0, .ref v0), (2, .int v2), (3, .int v3)] [] (hp g) Q :=
  it_wp (P := fun s : Int32 × g_S => wp (ab_ext L xs) J_Reader_read 46 [(0, .ref v0), (2, .int v2), (3, .int s.1)] [] (hp s.2) Q) (E := fun r => cL_Reader_read_46 L xs Q v0 v2 (.inr r)) (fun s out e c => y_Reader_read_46 e (by cases out <;> exact c)) e c
theorem L_Reader_read_46_eq (v0 : Nat) (v2 : Int32) (v3 : Int32) (g : g_S) : L_Reader_read_46 v0 v2 v3 g = itc (b_Reader_read_46 v0 v2 v3 g) (fun s => L_Reader_read_46 v0 v2 s.1 s.2) := it_eq2 (fun s : Int32 × g_S => b_Reader_read_46 v0 v2 s.1 s.2) (v3, g)
noncomputable def k_Reader_read_174 (v0 : Nat) (g : g_S) : Option g_S :=
  (vc g 108 v0 (M_Reader_closeTo v0 0 g)).bind fun g1 =>
  some g1
set_option maxRecDepth 20000 in
theorem x_Reader_read_174 {L : Nat} {xs : Nat → Int32} {Q : Option Value → ab_H → Prop} {v0 : Nat} {g : g_S} {out : g_S} (e : k_Reader_read_174 v0 g = some out) (c : Q none (hp out)) : wp (ab_ext L xs) J_Reader_read 174 [(0, .ref v0)] [] (hp g) Q := by
  unfold k_Reader_read_174 at e
  refine wp_p (j := J_Reader_read) 2 (pc' := 176) (lv' := [(0, .ref v0)]) (st' := [.int 0, .ref v0]) rfl ?_
  refine x_cv0 (As := [.int 0]) (rest := []) e rfl rfl rfl rfl rfl rfl (fun h => d_Reader_closeTo h ⟨rfl, rfl⟩) (fun g1 e => ?_)
  have e := Option.some.inj e; subst e; exact wp_vret rfl rfl c
noncomputable def M_Reader_read (v0 : Nat) (v1 : Nat) (v2 : Int32) (g : g_S) : Option g_S :=
  (wR g 108 v0 8 (some v1)).bind fun g1 =>
  (wI g1 108 v0 9 v2).bind fun g2 =>
  (wI g2 108 v0 10 0).bind fun g3 =>
  (wI g3 108 v0 3 0).bind fun g4 =>
  (wI g4 108 v0 11 (-1)).bind fun g5 =>
  (rQ g5 108 v0 0).bind fun z6 =>
  (vc g5 110 z6 (M_Tree_clear z6 g5)).bind fun g7 =>
  (rQ g7 108 v0 4).bind fun z8 =>
  (sI g7 z8 0 0).bind fun g9 =>
  (wI g9 108 v0 6 1).bind fun g10 =>
  (L_Reader_read_46 v0 v2 0 g10).bind <| fun g13 =>
  k_Reader_read_174 v0 g13
set_option maxRecDepth 20000 in
theorem d_Reader_read {L : Nat} {xs : Nat → Int32} {Q : Option Value → ab_H → Prop} {v0 : Nat} {v1 : Nat} {v2 : Int32} {g : g_S} {out : g_S} (e : M_Reader_read v0 v1 v2 g = some out) (c : Q none (hp out)) : mw (ab_ext L xs) J_Reader_read [.ref v0, .ref v1, .int v2] (hp g) Q := by
  unfold M_Reader_read at e
  refine wp_p (j := J_Reader_read) 2 (pc' := 2) (lv' := [(0, .ref v0), (1, .ref v1), (2, .int v2)]) (st' := [.ref v1, .ref v0]) rfl ?_
  refine x_pR (r := (some v1)) e rfl rfl fd_8_8 rfl (fun g1 e => ?_)
  refine wp_p (j := J_Reader_read) 2 (pc' := 7) (lv' := [(0, .ref v0), (1, .ref v1), (2, .int v2)]) (st' := [.int v2, .ref v0]) rfl ?_
  refine x_pI e rfl rfl fw_8_9 rfl (fun g2 e => ?_)
  refine wp_p (j := J_Reader_read) 2 (pc' := 12) (lv' := [(0, .ref v0), (1, .ref v1), (2, .int v2)]) (st' := [.int 0, .ref v0]) rfl ?_
  refine x_pI e rfl rfl fw_8_10 rfl (fun g3 e => ?_)
  refine wp_p (j := J_Reader_read) 2 (pc' := 17) (lv' := [(0, .ref v0), (1, .ref v1), (2, .int v2)]) (st' := [.int 0, .ref v0]) rfl ?_
  refine x_pI e rfl rfl fw_8_3 rfl (fun g4 e => ?_)
  refine wp_p (j := J_Reader_read) 2 (pc' := 22) (lv' := [(0, .ref v0), (1, .ref v1), (2, .int v2)]) (st' := [.int (-1), .ref v0]) rfl ?_
  refine x_pI e rfl rfl fw_8_11 rfl (fun g5 e => ?_)
  refine wp_p (j := J_Reader_read) 1 (pc' := 26) (lv' := [(0, .ref v0), (1, .ref v1), (2, .int v2)]) (st' := [.ref v0]) rfl ?_
  refine x_gQ e rfl rfl fd_8_0 rfl (fun z6 e => ?_)
  refine x_cv0 (As := []) (rest := []) e rfl rfl rfl rfl rfl rfl (fun h => d_Tree_clear h ⟨rfl, rfl⟩) (fun g7 e => ?_)
  refine wp_p (j := J_Reader_read) 1 (pc' := 33) (lv' := [(0, .ref v0), (1, .ref v1), (2, .int v2)]) (st' := [.ref v0]) rfl ?_
  refine x_gQ e rfl rfl fd_8_4 rfl (fun z8 e => ?_)
  refine wp_p (j := J_Reader_read) 2 (pc' := 38) (lv' := [(0, .ref v0), (1, .ref v1), (2, .int v2)]) (st' := [.int 0, .int 0, .ref z8]) rfl ?_
  refine x_sI e rfl rfl (fun g9 e => ?_)
  refine wp_p (j := J_Reader_read) 2 (pc' := 41) (lv' := [(0, .ref v0), (1, .ref v1), (2, .int v2)]) (st' := [.int 1, .ref v0]) rfl ?_
  refine x_pI e rfl rfl fw_8_6 rfl (fun g10 e => ?_)
  refine wp_p (j := J_Reader_read) 2 (pc' := 46) (lv' := [(3, .int 0), (0, .ref v0), (1, .ref v1), (2, .int v2)]) (st' := []) rfl ?_
  obtain ⟨g13, h12, e⟩ := bd e
  refine wp_lv (lv' := [(0, .ref v0), (2, .int v2), (3, .int 0)]) rfl ⟨rfl, rfl, rfl, trivial⟩ ?_
  refine l_Reader_read_46 h12 ?_
  show wp (ab_ext L xs) J_Reader_read 174 [(0, .ref v0)] [] (hp g13) Q
  exact wp_lv (lv' := [(0, .ref v0)]) rfl ⟨rfl, trivial⟩ (x_Reader_read_174 e c)
def cL_Tree_list_86 (L : Nat) (xs : Nat → Int32) (Q : Option Value → ab_H → Prop) (v0 : Nat) (g : g_S) (out : (Int32 × Int32) ⊕ (Int32)) : Prop := match out with
  | .inl s => wp (ab_ext L xs) J_Tree_list 86 [(0, .ref v0), (2, .int s.1), (3, .int s.2)] [] (hp g) Q
  | .inr s => wp (ab_ext L xs) J_Tree_list 119 [(0, .ref v0), (2, .int s)] [] (hp g) Q
noncomputable def b_Tree_list_86 (v0 : Nat) (v2 : Int32) (v3 : Int32) (g : g_S) : Option ((Int32 × Int32) ⊕ (Int32)) :=
  if v2 = (-1) then
    if v3 = (-1) then
      some (.inr v2)
    else
      (rQ g 110 v0 0).bind fun z1 =>
      (aQ g 5 z1 v3).bind fun z2 =>
      (rI g 107 z2 5).bind fun z3 =>
      (rQ g 110 v0 0).bind fun z4 =>
      (aQ g 5 z4 v3).bind fun z5 =>
      (rI g 107 z5 2).bind fun z6 =>
      some (.inl (z3, z6))
  else
    some (.inr v2)
set_option maxRecDepth 20000 in
theorem y_Tree_list_86 {L : Nat} {xs : Nat → Int32} {Q : Option Value → ab_H → Prop} {v0 : Nat} {v2 : Int32} {v3 : Int32} {g : g_S} {out : (Int32 × Int32) ⊕ (Int32)} (e : b_Tree_list_86 v0 v2 v3 g = some out) (c : cL_Tree_list_86 L xs Q v0 g out) : wp (ab_ext L xs) J_Tree_list 86 [(0, .ref v0), (2, .int v2), (3, .int v3)] [] (hp g) Q := by
  unfold b_Tree_list_86 at e
  refine wp_p (j := J_Tree_list) 2 (pc' := 88) (lv' := [(0, .ref v0), (2, .int v2), (3, .int v3)]) (st' := [.int (-1), .int v2]) rfl ?_
  refine x_ne e rfl (fun e => ?_) (fun e => ?_)
  · refine wp_p (j := J_Tree_list) 2 (pc' := 93) (lv' := [(0, .ref v0), (2, .int v2), (3, .int v3)]) (st' := [.int (-1), .int v3]) rfl ?_
    refine x_eq e rfl (fun e => ?_) (fun e => ?_)
    · have e := Option.some.inj e; subst e; exact wp_lv (lv' := [(0, .ref v0), (2, .int v2)]) rfl ⟨rfl, rfl, trivial⟩ c
    · refine wp_p (j := J_Tree_list) 1 (pc' := 97) (lv' := [(0, .ref v0), (2, .int v2), (3, .int v3)]) (st' := [.ref v0]) rfl ?_
      refine x_gQ e rfl rfl fd_10_0 rfl (fun z1 e => ?_)
      refine wp_p (j := J_Tree_list) 1 (pc' := 101) (lv' := [(0, .ref v0), (2, .int v2), (3, .int v3)]) (st' := [.int v3, .ref z1]) rfl ?_
      refine x_aQ e rfl rfl rfl (fun z2 e => ?_)
      refine x_gI e rfl rfl fd_7_5 rfl (fun z3 e => ?_)
      refine wp_p (j := J_Tree_list) 2 (pc' := 107) (lv' := [(2, .int z3), (0, .ref v0), (3, .int v3)]) (st' := [.ref v0]) rfl ?_
      refine x_gQ e rfl rfl fd_10_0 rfl (fun z4 e => ?_)
      refine wp_p (j := J_Tree_list) 1 (pc' := 111) (lv' := [(2, .int z3), (0, .ref v0), (3, .int v3)]) (st' := [.int v3, .ref z4]) rfl ?_
      refine x_aQ e rfl rfl rfl (fun z5 e => ?_)
      refine x_gI e rfl rfl fd_7_2 rfl (fun z6 e => ?_)
      refine wp_p (j := J_Tree_list) 2 (pc' := 86) (lv' := [(3, .int z6), (2, .int z3), (0, .ref v0)]) (st' := []) rfl ?_
      have e := Option.some.inj e; subst e; exact wp_lv (lv' := [(0, .ref v0), (2, .int z3), (3, .int z6)]) rfl ⟨rfl, rfl, rfl, trivial⟩ c
  · have e := Option.some.inj e; subst e; exact wp_lv (lv' := [(0, .ref v0), (2, .int v2)]) rfl ⟨rfl, rfl, trivial⟩ c
noncomputable def L_Tree_list_86 (v0 : Nat) (v2 : Int32) (v3 : Int32) (g : g_S) : Option (Int32) := it (fun s : Int32 × Int32 => b_Tree_list_86 v0 s.1 s.2 g) (v2, v3)
theorem l_Tree_list_86 {L : Nat} {xs : Nat → Int32} {Q : Option Value → ab_H → Prop} {v0 : Nat} {v2 : Int32} {v3 : Int32} {g : g_S} {r : Int32} (e : L_Tree_list_86 v0 v2 v3 g = some r) (c : cL_Tree_list_86 L xs Q v0 g (.inr r)) : wp (ab_ext L xs) J_Tree_list 86 [(0, .ref v0), (2, .int v2), (3, .int v3)] [] (hp g) Q :=
  it_wp (P := fun s : Int32 × Int32 => wp (ab_ext L xs) J_Tree_list 86 [(0, .ref v0), (2, .int s.1), (3, .int s.2)] [] (hp g) Q) (E := fun r => cL_Tree_list_86 L xs Q v0 g (.inr r)) (fun s out e c => y_Tree_list_86 e (by cases out <;> exact c)) e c
theorem L_Tree_list_86_eq (v0 : Nat) (v2 : Int32) (v3 : Int32) (g : g_S) : L_Tree_list_86 v0 v2 v3 g = itc (b_Tree_list_86 v0 v2 v3 g) (fun s => L_Tree_list_86 v0 s.1 s.2 g) := it_eq2 (fun s : Int32 × Int32 => b_Tree_list_86 v0 s.1 s.2 g) (v2, v3)
def cL_Tree_list_131 (L : Nat) (xs : Nat → Int32) (Q : Option Value → ab_H → Prop) (v0 : Nat) (out : (Int32 × g_S) ⊕ (g_S)) : Prop := match out with
  | .inl s => wp (ab_ext L xs) J_Tree_list 131 [(0, .ref v0), (2, .int s.1)] [] (hp s.2) Q
  | .inr s => wp (ab_ext L xs) J_Tree_list 183 [] [] (hp s) Q
noncomputable def k_Tree_list_174 (v0 : Nat) (v2 : Int32) (w0 : Int32) (w1 : Nat) (g : g_S) : Option ((Int32 × g_S) ⊕ (g_S)) :=
  (wI g 107 w1 9 w0).bind fun g1 =>
  some (.inl (v2 + (-1), g1))
set_option maxRecDepth 20000 in
theorem x_Tree_list_174 {L : Nat} {xs : Nat → Int32} {Q : Option Value → ab_H → Prop} {v0 : Nat} {v2 : Int32} {w0 : Int32} {w1 : Nat} {g : g_S} {out : (Int32 × g_S) ⊕ (g_S)} (e : k_Tree_list_174 v0 v2 w0 w1 g = some out) (c : cL_Tree_list_131 L xs Q v0 out) : wp (ab_ext L xs) J_Tree_list 174 [(0, .ref v0), (2, .int v2)] [.int w0, .ref w1] (hp g) Q := by
  unfold k_Tree_list_174 at e
  refine x_pI e rfl rfl fw_7_9 rfl (fun g1 e => ?_)
  refine wp_p (j := J_Tree_list) 2 (pc' := 131) (lv' := [(2, .int (v2 + (-1))), (0, .ref v0)]) (st' := []) rfl ?_
  have e := Option.some.inj e; subst e; exact wp_lv (lv' := [(0, .ref v0), (2, .int (v2 + (-1)))]) rfl ⟨rfl, rfl, trivial⟩ c
noncomputable def b_Tree_list_131 (v0 : Nat) (v2 : Int32) (g : g_S) : Option ((Int32 × g_S) ⊕ (g_S)) :=
  if v2 < 0 then
    some (.inr g)
  else
    (rQ g 110 v0 0).bind fun z1 =>
    (rQ g 110 v0 2).bind fun z2 =>
    (aI g 0 z2 v2).bind fun z3 =>
    (aQ g 5 z1 z3).bind fun z4 =>
    (rI g 107 z4 4).bind fun z5 =>
    if z5 = (-1) then
      k_Tree_list_174 v0 v2 (v2 + 1) z4 g
    else
      (rQ g 110 v0 0).bind fun z6 =>
      (rI g 107 z4 4).bind fun z7 =>
      (aQ g 5 z6 z7).bind fun z8 =>
      (rI g 107 z8 9).bind fun z9 =>
      k_Tree_list_174 v0 v2 z9 z4 g
set_option maxRecDepth 20000 in
theorem y_Tree_list_131 {L : Nat} {xs : Nat → Int32} {Q : Option Value → ab_H → Prop} {v0 : Nat} {v2 : Int32} {g : g_S} {out : (Int32 × g_S) ⊕ (g_S)} (e : b_Tree_list_131 v0 v2 g = some out) (c : cL_Tree_list_131 L xs Q v0 out) : wp (ab_ext L xs) J_Tree_list 131 [(0, .ref v0), (2, .int v2)] [] (hp g) Q := by
  unfold b_Tree_list_131 at e
  refine wp_p (j := J_Tree_list) 1 (pc' := 132) (lv' := [(0, .ref v0), (2, .int v2)]) (st' := [.int v2]) rfl ?_
  refine z_lt e rfl (fun e => ?_) (fun e => ?_)
  · have e := Option.some.inj e; subst e; exact wp_lv (lv' := []) rfl trivial c
  · refine wp_p (j := J_Tree_list) 1 (pc' := 136) (lv' := [(0, .ref v0), (2, .int v2)]) (st' := [.ref v0]) rfl ?_
    refine x_gQ e rfl rfl fd_10_0 rfl (fun z1 e => ?_)
    refine wp_p (j := J_Tree_list) 1 (pc' := 140) (lv' := [(0, .ref v0), (2, .int v2)]) (st' := [.ref v0, .ref z1]) rfl ?_
    refine x_gQ e rfl rfl fd_10_2 rfl (fun z2 e => ?_)
    refine wp_p (j := J_Tree_list) 1 (pc' := 144) (lv' := [(0, .ref v0), (2, .int v2)]) (st' := [.int v2, .ref z2, .ref z1]) rfl ?_
    refine x_aI e rfl rfl (fun z3 e => ?_)
    refine x_aQ e rfl rfl rfl (fun z4 e => ?_)
    refine wp_p (j := J_Tree_list) 3 (pc' := 149) (lv' := [(3, .ref z4), (0, .ref v0), (2, .int v2)]) (st' := [.ref z4, .ref z4]) rfl ?_
    refine x_gI e rfl rfl fd_7_4 rfl (fun z5 e => ?_)
    refine wp_p (j := J_Tree_list) 1 (pc' := 153) (lv' := [(3, .ref z4), (0, .ref v0), (2, .int v2)]) (st' := [.int (-1), .int z5, .ref z4]) rfl ?_
    refine x_ne e rfl (fun e => ?_) (fun e => ?_)
    · refine wp_p (j := J_Tree_list) 4 (pc' := 174) (lv' := [(3, .ref z4), (0, .ref v0), (2, .int v2)]) (st' := [.int (v2 + 1), .ref z4]) rfl ?_
      exact wp_lv (lv' := [(0, .ref v0), (2, .int v2)]) rfl ⟨rfl, rfl, trivial⟩ (x_Tree_list_174 e c)
    · refine wp_p (j := J_Tree_list) 1 (pc' := 163) (lv' := [(3, .ref z4), (0, .ref v0), (2, .int v2)]) (st' := [.ref v0, .ref z4]) rfl ?_
      refine x_gQ e rfl rfl fd_10_0 rfl (fun z6 e => ?_)
      refine wp_p (j := J_Tree_list) 1 (pc' := 167) (lv' := [(3, .ref z4), (0, .ref v0), (2, .int v2)]) (st' := [.ref z4, .ref z6, .ref z4]) rfl ?_
      refine x_gI e rfl rfl fd_7_4 rfl (fun z7 e => ?_)
      refine x_aQ e rfl rfl rfl (fun z8 e => ?_)
      refine x_gI e rfl rfl fd_7_9 rfl (fun z9 e => ?_)
      exact wp_lv (lv' := [(0, .ref v0), (2, .int v2)]) rfl ⟨rfl, rfl, trivial⟩ (x_Tree_list_174 e c)
noncomputable def L_Tree_list_131 (v0 : Nat) (v2 : Int32) (g : g_S) : Option (g_S) := it (fun s : Int32 × g_S => b_Tree_list_131 v0 s.1 s.2) (v2, g)
theorem l_Tree_list_131 {L : Nat} {xs : Nat → Int32} {Q : Option Value → ab_H → Prop} {v0 : Nat} {v2 : Int32} {g : g_S} {r : g_S} (e : L_Tree_list_131 v0 v2 g = some r) (c : cL_Tree_list_131 L xs Q v0 (.inr r)) : wp (ab_ext L xs) J_Tree_list 131 [(0, .ref v0), (2, .int v2)] [] (hp g) Q :=
  it_wp (P := fun s : Int32 × g_S => wp (ab_ext L xs) J_Tree_list 131 [(0, .ref v0), (2, .int s.1)] [] (hp s.2) Q) (E := fun r => cL_Tree_list_131 L xs Q v0 (.inr r)) (fun s out e c => y_Tree_list_131 e (by cases out <;> exact c)) e c
theorem L_Tree_list_131_eq (v0 : Nat) (v2 : Int32) (g : g_S) : L_Tree_list_131 v0 v2 g = itc (b_Tree_list_131 v0 v2 g) (fun s => L_Tree_list_131 v0 s.1 s.2) := it_eq2 (fun s : Int32 × g_S => b_Tree_list_131 v0 s.1 s.2) (v2, g)
def cL_Tree_list_27 (L : Nat) (xs : Nat → Int32) (Q : Option Value → ab_H → Prop) (v0 : Nat) (out : (Int32 × g_S) ⊕ (g_S)) : Prop := match out with
  | .inl s => wp (ab_ext L xs) J_Tree_list 27 [(0, .ref v0), (1, .int s.1)] [] (hp s.2) Q
  | .inr s => wp (ab_ext L xs) J_Tree_list 124 [(0, .ref v0)] [] (hp s) Q
noncomputable def b_Tree_list_27 (v0 : Nat) (v1 : Int32) (g : g_S) : Option ((Int32 × g_S) ⊕ (g_S)) :=
  if v1 = (-1) then
    some (.inr g)
  else
    (rI g 110 v0 3).bind fun z1 =>
    if z1 < 120 then
      (rQ g 110 v0 0).bind fun z2 =>
      (aQ g 5 z2 v1).bind fun z3 =>
      (rI g 110 v0 3).bind fun z4 =>
      (wI g 107 z3 8 z4).bind fun g5 =>
      (rQ g5 110 v0 2).bind fun z6 =>
      (rI g5 110 v0 3).bind fun z7 =>
      (sI g5 z6 z7 v1).bind fun g8 =>
      (rI g8 110 v0 3).bind fun z9 =>
      (wI g8 110 v0 3 (z9 + 1)).bind fun g10 =>
      (rQ g10 110 v0 0).bind fun z11 =>
      (aQ g10 5 z11 v1).bind fun z12 =>
      (rI g10 107 z12 3).bind fun z13 =>
      (L_Tree_list_86 v0 z13 v1 g10).bind <| fun z16 =>
      some (.inl (z16, g10))
    else
      some (.inr g)
set_option maxRecDepth 20000 in
theorem y_Tree_list_27 {L : Nat} {xs : Nat → Int32} {Q : Option Value → ab_H → Prop} {v0 : Nat} {v1 : Int32} {g : g_S} {out : (Int32 × g_S) ⊕ (g_S)} (e : b_Tree_list_27 v0 v1 g = some out) (c : cL_Tree_list_27 L xs Q v0 out) : wp (ab_ext L xs) J_Tree_list 27 [(0, .ref v0), (1, .int v1)] [] (hp g) Q := by
  unfold b_Tree_list_27 at e
  refine wp_p (j := J_Tree_list) 2 (pc' := 29) (lv' := [(0, .ref v0), (1, .int v1)]) (st' := [.int (-1), .int v1]) rfl ?_
  refine x_eq e rfl (fun e => ?_) (fun e => ?_)
  · have e := Option.some.inj e; subst e; exact wp_lv (lv' := [(0, .ref v0)]) rfl ⟨rfl, trivial⟩ c
  · refine wp_p (j := J_Tree_list) 1 (pc' := 33) (lv' := [(0, .ref v0), (1, .int v1)]) (st' := [.ref v0]) rfl ?_
    refine x_gI e rfl rfl fd_10_3 rfl (fun z1 e => ?_)
    refine wp_p (j := J_Tree_list) 1 (pc' := 38) (lv' := [(0, .ref v0), (1, .int v1)]) (st' := [.int 120, .int z1]) rfl ?_
    refine x_ge e rfl (fun e => ?_) (fun e => ?_)
    · refine wp_p (j := J_Tree_list) 1 (pc' := 42) (lv' := [(0, .ref v0), (1, .int v1)]) (st' := [.ref v0]) rfl ?_
      refine x_gQ e rfl rfl fd_10_0 rfl (fun z2 e => ?_)
      refine wp_p (j := J_Tree_list) 1 (pc' := 46) (lv' := [(0, .ref v0), (1, .int v1)]) (st' := [.int v1, .ref z2]) rfl ?_
      refine x_aQ e rfl rfl rfl (fun z3 e => ?_)
      refine wp_p (j := J_Tree_list) 1 (pc' := 48) (lv' := [(0, .ref v0), (1, .int v1)]) (st' := [.ref v0, .ref z3]) rfl ?_
      refine x_gI e rfl rfl fd_10_3 rfl (fun z4 e => ?_)
      refine x_pI e rfl rfl fw_7_8 rfl (fun g5 e => ?_)
      refine wp_p (j := J_Tree_list) 1 (pc' := 55) (lv' := [(0, .ref v0), (1, .int v1)]) (st' := [.ref v0]) rfl ?_
      refine x_gQ e rfl rfl fd_10_2 rfl (fun z6 e => ?_)
      refine wp_p (j := J_Tree_list) 1 (pc' := 59) (lv' := [(0, .ref v0), (1, .int v1)]) (st' := [.ref v0, .ref z6]) rfl ?_
      refine x_gI e rfl rfl fd_10_3 rfl (fun z7 e => ?_)
      refine wp_p (j := J_Tree_list) 1 (pc' := 63) (lv' := [(0, .ref v0), (1, .int v1)]) (st' := [.int v1, .int z7, .ref z6]) rfl ?_
      refine x_sI e rfl rfl (fun g8 e => ?_)
      refine wp_p (j := J_Tree_list) 2 (pc' := 66) (lv' := [(0, .ref v0), (1, .int v1)]) (st' := [.ref v0, .ref v0]) rfl ?_
      refine x_gI e rfl rfl fd_10_3 rfl (fun z9 e => ?_)
      refine wp_p (j := J_Tree_list) 2 (pc' := 71) (lv' := [(0, .ref v0), (1, .int v1)]) (st' := [.int (z9 + 1), .ref v0]) rfl ?_
      refine x_pI e rfl rfl fw_10_3 rfl (fun g10 e => ?_)
      refine wp_p (j := J_Tree_list) 1 (pc' := 75) (lv' := [(0, .ref v0), (1, .int v1)]) (st' := [.ref v0]) rfl ?_
      refine x_gQ e rfl rfl fd_10_0 rfl (fun z11 e => ?_)
      refine wp_p (j := J_Tree_list) 1 (pc' := 79) (lv' := [(0, .ref v0), (1, .int v1)]) (st' := [.int v1, .ref z11]) rfl ?_
      refine x_aQ e rfl rfl rfl (fun z12 e => ?_)
      refine x_gI e rfl rfl fd_7_3 rfl (fun z13 e => ?_)
      refine wp_p (j := J_Tree_list) 3 (pc' := 86) (lv' := [(3, .int v1), (2, .int z13), (0, .ref v0), (1, .int v1)]) (st' := []) rfl ?_
      obtain ⟨z16, h15, e⟩ := bd e
      refine wp_lv (lv' := [(0, .ref v0), (2, .int z13), (3, .int v1)]) rfl ⟨rfl, rfl, rfl, trivial⟩ ?_
      refine l_Tree_list_86 h15 ?_
      show wp (ab_ext L xs) J_Tree_list 119 [(0, .ref v0), (2, .int z16)] [] (hp g10) Q
      refine wp_p (j := J_Tree_list) 3 (pc' := 27) (lv' := [(1, .int z16), (0, .ref v0), (2, .int z16)]) (st' := []) rfl ?_
      have e := Option.some.inj e; subst e; exact wp_lv (lv' := [(0, .ref v0), (1, .int z16)]) rfl ⟨rfl, rfl, trivial⟩ c
    · have e := Option.some.inj e; subst e; exact wp_lv (lv' := [(0, .ref v0)]) rfl ⟨rfl, trivial⟩ c
noncomputable def L_Tree_list_27 (v0 : Nat) (v1 : Int32) (g : g_S) : Option (g_S) := it (fun s : Int32 × g_S => b_Tree_list_27 v0 s.1 s.2) (v1, g)
theorem l_Tree_list_27 {L : Nat} {xs : Nat → Int32} {Q : Option Value → ab_H → Prop} {v0 : Nat} {v1 : Int32} {g : g_S} {r : g_S} (e : L_Tree_list_27 v0 v1 g = some r) (c : cL_Tree_list_27 L xs Q v0 (.inr r)) : wp (ab_ext L xs) J_Tree_list 27 [(0, .ref v0), (1, .int v1)] [] (hp g) Q :=
  it_wp (P := fun s : Int32 × g_S => wp (ab_ext L xs) J_Tree_list 27 [(0, .ref v0), (1, .int s.1)] [] (hp s.2) Q) (E := fun r => cL_Tree_list_27 L xs Q v0 (.inr r)) (fun s out e c => y_Tree_list_27 e (by cases out <;> exact c)) e c
theorem L_Tree_list_27_eq (v0 : Nat) (v1 : Int32) (g : g_S) : L_Tree_list_27 v0 v1 g = itc (b_Tree_list_27 v0 v1 g) (fun s => L_Tree_list_27 v0 s.1 s.2) := it_eq2 (fun s : Int32 × g_S => b_Tree_list_27 v0 s.1 s.2) (v1, g)
noncomputable def k_Tree_list_124 (v0 : Nat) (g : g_S) : Option g_S :=
  (rI g 110 v0 3).bind fun z1 =>
  (L_Tree_list_131 v0 (z1 - 1) g).bind <| fun g4 =>
  some g4
set_option maxRecDepth 20000 in
theorem x_Tree_list_124 {L : Nat} {xs : Nat → Int32} {Q : Option Value → ab_H → Prop} {v0 : Nat} {g : g_S} {out : g_S} (e : k_Tree_list_124 v0 g = some out) (c : Q none (hp out)) : wp (ab_ext L xs) J_Tree_list 124 [(0, .ref v0)] [] (hp g) Q := by
  unfold k_Tree_list_124 at e
  refine wp_p (j := J_Tree_list) 1 (pc' := 125) (lv' := [(0, .ref v0)]) (st' := [.ref v0]) rfl ?_
  refine x_gI e rfl rfl fd_10_3 rfl (fun z1 e => ?_)
  refine wp_p (j := J_Tree_list) 3 (pc' := 131) (lv' := [(2, .int (z1 - 1)), (0, .ref v0)]) (st' := []) rfl ?_
  obtain ⟨g4, h3, e⟩ := bd e
  refine wp_lv (lv' := [(0, .ref v0), (2, .int (z1 - 1))]) rfl ⟨rfl, rfl, trivial⟩ ?_
  refine l_Tree_list_131 h3 ?_
  show wp (ab_ext L xs) J_Tree_list 183 [] [] (hp g4) Q
  have e := Option.some.inj e; subst e; exact wp_vret rfl rfl c
noncomputable def M_Tree_list (v0 : Nat) (g : g_S) : Option g_S :=
  (rI g 110 v0 4).bind fun z1 =>
  (rI g 110 v0 6).bind fun z2 =>
  if z1 = z2 then
    some g
  else
    (rI g 110 v0 6).bind fun z3 =>
    (wI g 110 v0 4 z3).bind fun g4 =>
    (wI g4 110 v0 3 0).bind fun g5 =>
    (L_Tree_list_27 v0 0 g5).bind <| fun g8 =>
    k_Tree_list_124 v0 g8
set_option maxRecDepth 20000 in
theorem d_Tree_list {L : Nat} {xs : Nat → Int32} {Q : Option Value → ab_H → Prop} {v0 : Nat} {g : g_S} {out : g_S} (e : M_Tree_list v0 g = some out) (c : Q none (hp out)) : mw (ab_ext L xs) J_Tree_list [.ref v0] (hp g) Q := by
  unfold M_Tree_list at e
  refine wp_p (j := J_Tree_list) 1 (pc' := 1) (lv' := [(0, .ref v0)]) (st' := [.ref v0]) rfl ?_
  refine x_gI e rfl rfl fd_10_4 rfl (fun z1 e => ?_)
  refine wp_p (j := J_Tree_list) 1 (pc' := 5) (lv' := [(0, .ref v0)]) (st' := [.ref v0, .int z1]) rfl ?_
  refine x_gI e rfl rfl fd_10_6 rfl (fun z2 e => ?_)
  refine x_ne e rfl (fun e => ?_) (fun e => ?_)
  · have e := Option.some.inj e; subst e; exact wp_vret rfl rfl c
  · refine wp_p (j := J_Tree_list) 2 (pc' := 14) (lv' := [(0, .ref v0)]) (st' := [.ref v0, .ref v0]) rfl ?_
    refine x_gI e rfl rfl fd_10_6 rfl (fun z3 e => ?_)
    refine x_pI e rfl rfl fw_10_4 rfl (fun g4 e => ?_)
    refine wp_p (j := J_Tree_list) 2 (pc' := 22) (lv' := [(0, .ref v0)]) (st' := [.int 0, .ref v0]) rfl ?_
    refine x_pI e rfl rfl fw_10_3 rfl (fun g5 e => ?_)
    refine wp_p (j := J_Tree_list) 2 (pc' := 27) (lv' := [(1, .int 0), (0, .ref v0)]) (st' := []) rfl ?_
    obtain ⟨g8, h7, e⟩ := bd e
    refine wp_lv (lv' := [(0, .ref v0), (1, .int 0)]) rfl ⟨rfl, rfl, trivial⟩ ?_
    refine l_Tree_list_27 h7 ?_
    show wp (ab_ext L xs) J_Tree_list 124 [(0, .ref v0)] [] (hp g8) Q
    exact wp_lv (lv' := [(0, .ref v0)]) rfl ⟨rfl, trivial⟩ (x_Tree_list_124 e c)
noncomputable def M_Node_read (v0 : Nat) (v1 : Nat) (g : g_S) : Option (Option Nat) :=
  (M_Bytes_pack_1 v1 g).bind fun z1 =>
  (vc g 107 v0 (M_Node_find v0 z1 g)).bind fun z2 =>
  oc z2
    (fun q3 =>
    some (some q3))
    (
    some none)
set_option maxRecDepth 20000 in
theorem d_Node_read {L : Nat} {xs : Nat → Int32} {Q : Option Value → ab_H → Prop} {v0 : Nat} {v1 : Nat} {g : g_S} {out : (Option Nat)} (e : M_Node_read v0 v1 g = some out) (c : Q (some (va_rf out)) (hp g)) : mw (ab_ext L xs) J_Node_read [.ref v0, .ref v1] (hp g) Q := by
  unfold M_Node_read at e
  refine wp_p (j := J_Node_read) 2 (pc' := 2) (lv' := [(0, .ref v0), (1, .ref v1)]) (st' := [.ref v1, .ref v0]) rfl ?_
  refine x_cs1 (As := [.ref v1]) (rest := [.ref v0]) Value.long e rfl rfl rfl rfl rfl (fun h => d_Bytes_pack_1 h ⟨rfl, rfl⟩) (fun z1 e => ?_)
  refine x_cv1 (As := [.long z1]) (rest := []) va_rf e rfl rfl rfl rfl rfl rfl (fun h => d_Node_find h ⟨rfl, rfl⟩) (fun z2 e => ?_)
  rcases z2 with _ | q3
  · replace e := oc_n e
    show wp (ab_ext L xs) J_Node_read 8 [(0, .ref v0), (1, .ref v1)] [.null] (hp g) Q
    have e := Option.some.inj e; subst e; exact wp_r rfl rfl rfl rfl rfl c
  · replace e := oc_s e
    show wp (ab_ext L xs) J_Node_read 8 [(0, .ref v0), (1, .ref v1)] [.ref q3] (hp g) Q
    have e := Option.some.inj e; subst e; exact wp_r rfl rfl rfl rfl rfl c
noncomputable def M_Tree_markOf (v0 : Nat) (v1 : Int32) (g : g_S) : Option Int64 :=
  (rQ g 110 v0 0).bind fun z1 =>
  (aQ g 5 z1 v1).bind fun z2 =>
  (rL g 107 z2 10).bind fun z3 =>
  some ((z3 * 128) + (Int32.toInt64 v1))
set_option maxRecDepth 20000 in
theorem d_Tree_markOf {L : Nat} {xs : Nat → Int32} {Q : Option Value → ab_H → Prop} {v0 : Nat} {v1 : Int32} {g : g_S} {out : Int64} (e : M_Tree_markOf v0 v1 g = some out) (c : Q (some (.long out)) (hp g)) : mw (ab_ext L xs) J_Tree_markOf [.ref v0, .int v1] (hp g) Q := by
  unfold M_Tree_markOf at e
  refine wp_p (j := J_Tree_markOf) 1 (pc' := 1) (lv' := [(0, .ref v0), (1, .int v1)]) (st' := [.ref v0]) rfl ?_
  refine x_gQ e rfl rfl fd_10_0 rfl (fun z1 e => ?_)
  refine wp_p (j := J_Tree_markOf) 1 (pc' := 5) (lv' := [(0, .ref v0), (1, .int v1)]) (st' := [.int v1, .ref z1]) rfl ?_
  refine x_aQ e rfl rfl rfl (fun z2 e => ?_)
  refine x_gL e rfl rfl fd_7_10 rfl (fun z3 e => ?_)
  refine x_l2 (xl := 128) rfl rfl rfl ?_
  refine wp_p (j := J_Tree_markOf) 4 (pc' := 16) (lv' := [(0, .ref v0), (1, .int v1)]) (st' := [.long ((z3 * 128) + (Int32.toInt64 v1))]) rfl ?_
  have e := Option.some.inj e; subst e; exact wp_lret rfl rfl c
def cL_Acts_startPage_48 (L : Nat) (xs : Nat → Int32) (Q : Option Value → ab_H → Prop) (v0 : Nat) (out : (Int32 × g_S) ⊕ (g_S)) : Prop := match out with
  | .inl s => wp (ab_ext L xs) J_Acts_startPage 48 [(0, .ref v0), (1, .int s.1)] [] (hp s.2) Q
  | .inr s => wp (ab_ext L xs) J_Acts_startPage 119 [] [] (hp s) Q
noncomputable def b_Acts_startPage_48 (v0 : Nat) (v1 : Int32) (g : g_S) : Option ((Int32 × g_S) ⊕ (g_S)) :=
  (rQ g 100 v0 0).bind fun z1 =>
  (rI g 110 z1 3).bind fun z2 =>
  if v1 < z2 then
    (rQ g 100 v0 0).bind fun z3 =>
    (rQ g 110 z3 2).bind fun z4 =>
    (aI g 0 z4 v1).bind fun z5 =>
    (rQ g 100 v0 0).bind fun z6 =>
    (rQ g 110 z6 0).bind fun z7 =>
    (aQ g 5 z7 z5).bind fun z8 =>
    (vc g 107 z8 (M_Node_read z8 1000021 g)).bind fun z9 =>
    oc z9
      (fun q10 =>
      (rQ g 100 v0 14).bind fun z11 =>
      (rI g 100 v0 16).bind fun z12 =>
      (rQ g 100 v0 0).bind fun z13 =>
      (vc g 110 z13 (M_Tree_markOf z13 z5 g)).bind fun z14 =>
      (sL g z11 z12 z14).bind fun g15 =>
      (rI g15 100 v0 16).bind fun z16 =>
      (wI g15 100 v0 16 (z16 + 1)).bind fun g17 =>
      some (.inl (v1 + 1, g17)))
      (
      some (.inl (v1 + 1, g)))
  else
    some (.inr g)
set_option maxRecDepth 20000 in
theorem y_Acts_startPage_48 {L : Nat} {xs : Nat → Int32} {Q : Option Value → ab_H → Prop} {v0 : Nat} {v1 : Int32} {g : g_S} {out : (Int32 × g_S) ⊕ (g_S)} (e : b_Acts_startPage_48 v0 v1 g = some out) (c : cL_Acts_startPage_48 L xs Q v0 out) : wp (ab_ext L xs) J_Acts_startPage 48 [(0, .ref v0), (1, .int v1)] [] (hp g) Q := by
  unfold b_Acts_startPage_48 at e
  refine wp_p (j := J_Acts_startPage) 2 (pc' := 50) (lv' := [(0, .ref v0), (1, .int v1)]) (st' := [.ref v0, .int v1]) rfl ?_
  refine x_gQ e rfl rfl fd_0_0 rfl (fun z1 e => ?_)
  refine x_gI e rfl rfl fd_10_3 rfl (fun z2 e => ?_)
  refine x_ge e rfl (fun e => ?_) (fun e => ?_)
  · refine wp_p (j := J_Acts_startPage) 1 (pc' := 60) (lv' := [(0, .ref v0), (1, .int v1)]) (st' := [.ref v0]) rfl ?_
    refine x_gQ e rfl rfl fd_0_0 rfl (fun z3 e => ?_)
    refine x_gQ e rfl rfl fd_10_2 rfl (fun z4 e => ?_)
    refine wp_p (j := J_Acts_startPage) 1 (pc' := 67) (lv' := [(0, .ref v0), (1, .int v1)]) (st' := [.int v1, .ref z4]) rfl ?_
    refine x_aI e rfl rfl (fun z5 e => ?_)
    refine wp_p (j := J_Acts_startPage) 2 (pc' := 70) (lv' := [(2, .int z5), (0, .ref v0), (1, .int v1)]) (st' := [.ref v0]) rfl ?_
    refine x_gQ e rfl rfl fd_0_0 rfl (fun z6 e => ?_)
    refine x_gQ e rfl rfl fd_10_0 rfl (fun z7 e => ?_)
    refine wp_p (j := J_Acts_startPage) 1 (pc' := 77) (lv' := [(2, .int z5), (0, .ref v0), (1, .int v1)]) (st' := [.int z5, .ref z7]) rfl ?_
    refine x_aQ e rfl rfl rfl (fun z8 e => ?_)
    refine x_ls rfl rfl ?_
    refine x_cv1 (As := [.ref 1000021]) (rest := []) va_rf e rfl rfl rfl rfl rfl rfl (fun h => d_Node_read h ⟨rfl, rfl⟩) (fun z9 e => ?_)
    rcases z9 with _ | q10
    · replace e := oc_n e
      show wp (ab_ext L xs) J_Acts_startPage 83 [(2, .int z5), (0, .ref v0), (1, .int v1)] [.null] (hp g) Q
      refine wp_b (pc' := 113) (st' := []) rfl rfl rfl ?_
      refine wp_p (j := J_Acts_startPage) 2 (pc' := 48) (lv' := [(1, .int (v1 + 1)), (2, .int z5), (0, .ref v0)]) (st' := []) rfl ?_
      have e := Option.some.inj e; subst e; exact wp_lv (lv' := [(0, .ref v0), (1, .int (v1 + 1))]) rfl ⟨rfl, rfl, trivial⟩ c
    · replace e := oc_s e
      show wp (ab_ext L xs) J_Acts_startPage 83 [(2, .int z5), (0, .ref v0), (1, .int v1)] [.ref q10] (hp g) Q
      refine wp_b (pc' := 86) (st' := []) rfl rfl rfl ?_
      refine wp_p (j := J_Acts_startPage) 1 (pc' := 87) (lv' := [(2, .int z5), (0, .ref v0), (1, .int v1)]) (st' := [.ref v0]) rfl ?_
      refine x_gQ e rfl rfl fd_0_14 rfl (fun z11 e => ?_)
      refine wp_p (j := J_Acts_startPage) 1 (pc' := 91) (lv' := [(2, .int z5), (0, .ref v0), (1, .int v1)]) (st' := [.ref v0, .ref z11]) rfl ?_
      refine x_gI e rfl rfl fd_0_16 rfl (fun z12 e => ?_)
      refine wp_p (j := J_Acts_startPage) 1 (pc' := 95) (lv' := [(2, .int z5), (0, .ref v0), (1, .int v1)]) (st' := [.ref v0, .int z12, .ref z11]) rfl ?_
      refine x_gQ e rfl rfl fd_0_0 rfl (fun z13 e => ?_)
      refine wp_p (j := J_Acts_startPage) 1 (pc' := 99) (lv' := [(2, .int z5), (0, .ref v0), (1, .int v1)]) (st' := [.int z5, .ref z13, .int z12, .ref z11]) rfl ?_
      refine x_cv1 (As := [.int z5]) (rest := [.int z12, .ref z11]) Value.long e rfl rfl rfl rfl rfl rfl (fun h => d_Tree_markOf h ⟨rfl, rfl⟩) (fun z14 e => ?_)
      refine x_sL e rfl rfl (fun g15 e => ?_)
      refine wp_p (j := J_Acts_startPage) 2 (pc' := 105) (lv' := [(2, .int z5), (0, .ref v0), (1, .int v1)]) (st' := [.ref v0, .ref v0]) rfl ?_
      refine x_gI e rfl rfl fd_0_16 rfl (fun z16 e => ?_)
      refine wp_p (j := J_Acts_startPage) 2 (pc' := 110) (lv' := [(2, .int z5), (0, .ref v0), (1, .int v1)]) (st' := [.int (z16 + 1), .ref v0]) rfl ?_
      refine x_pI e rfl rfl fw_0_16 rfl (fun g17 e => ?_)
      refine wp_p (j := J_Acts_startPage) 2 (pc' := 48) (lv' := [(1, .int (v1 + 1)), (2, .int z5), (0, .ref v0)]) (st' := []) rfl ?_
      have e := Option.some.inj e; subst e; exact wp_lv (lv' := [(0, .ref v0), (1, .int (v1 + 1))]) rfl ⟨rfl, rfl, trivial⟩ c
  · have e := Option.some.inj e; subst e; exact wp_lv (lv' := []) rfl trivial c
noncomputable def L_Acts_startPage_48 (v0 : Nat) (v1 : Int32) (g : g_S) : Option (g_S) := it (fun s : Int32 × g_S => b_Acts_startPage_48 v0 s.1 s.2) (v1, g)
theorem l_Acts_startPage_48 {L : Nat} {xs : Nat → Int32} {Q : Option Value → ab_H → Prop} {v0 : Nat} {v1 : Int32} {g : g_S} {r : g_S} (e : L_Acts_startPage_48 v0 v1 g = some r) (c : cL_Acts_startPage_48 L xs Q v0 (.inr r)) : wp (ab_ext L xs) J_Acts_startPage 48 [(0, .ref v0), (1, .int v1)] [] (hp g) Q :=
  it_wp (P := fun s : Int32 × g_S => wp (ab_ext L xs) J_Acts_startPage 48 [(0, .ref v0), (1, .int s.1)] [] (hp s.2) Q) (E := fun r => cL_Acts_startPage_48 L xs Q v0 (.inr r)) (fun s out e c => y_Acts_startPage_48 e (by cases out <;> exact c)) e c
theorem L_Acts_startPage_48_eq (v0 : Nat) (v1 : Int32) (g : g_S) : L_Acts_startPage_48 v0 v1 g = itc (b_Acts_startPage_48 v0 v1 g) (fun s => L_Acts_startPage_48 v0 s.1 s.2) := it_eq2 (fun s : Int32 × g_S => b_Acts_startPage_48 v0 s.1 s.2) (v1, g)
noncomputable def M_Acts_startPage (v0 : Nat) (g : g_S) : Option g_S :=
  (wL g 100 v0 6 (-1)).bind fun g1 =>
  (wI g1 100 v0 5 0).bind fun g2 =>
  (wI g2 100 v0 18 0).bind fun g3 =>
  (rQ g3 100 v0 11).bind fun z4 =>
  (vc g3 104 z4 (M_Bytes_clear z4 g3)).bind fun g5 =>
  (wI g5 100 v0 12 0).bind fun g6 =>
  (wI g6 100 v0 15 0).bind fun g7 =>
  (wI g7 100 v0 16 0).bind fun g8 =>
  (rQ g8 100 v0 0).bind fun z9 =>
  (vc g8 110 z9 (M_Tree_list z9 g8)).bind fun g10 =>
  (L_Acts_startPage_48 v0 0 g10).bind <| fun g13 =>
  some g13
set_option maxRecDepth 20000 in
theorem d_Acts_startPage {L : Nat} {xs : Nat → Int32} {Q : Option Value → ab_H → Prop} {v0 : Nat} {g : g_S} {out : g_S} (e : M_Acts_startPage v0 g = some out) (c : Q none (hp out)) : mw (ab_ext L xs) J_Acts_startPage [.ref v0] (hp g) Q := by
  unfold M_Acts_startPage at e
  refine wp_p (j := J_Acts_startPage) 1 (pc' := 1) (lv' := [(0, .ref v0)]) (st' := [.ref v0]) rfl ?_
  refine x_l2 (xl := (-1)) rfl rfl rfl ?_
  refine x_pL e rfl rfl fw_0_6 rfl (fun g1 e => ?_)
  refine wp_p (j := J_Acts_startPage) 2 (pc' := 9) (lv' := [(0, .ref v0)]) (st' := [.int 0, .ref v0]) rfl ?_
  refine x_pI e rfl rfl fw_0_5 rfl (fun g2 e => ?_)
  refine wp_p (j := J_Acts_startPage) 2 (pc' := 14) (lv' := [(0, .ref v0)]) (st' := [.int 0, .ref v0]) rfl ?_
  refine x_pI e rfl rfl fw_0_18 rfl (fun g3 e => ?_)
  refine wp_p (j := J_Acts_startPage) 1 (pc' := 18) (lv' := [(0, .ref v0)]) (st' := [.ref v0]) rfl ?_
  refine x_gQ e rfl rfl fd_0_11 rfl (fun z4 e => ?_)
  refine x_cv0 (As := []) (rest := []) e rfl rfl rfl rfl rfl rfl (fun h => d_Bytes_clear h ⟨rfl, rfl⟩) (fun g5 e => ?_)
  refine wp_p (j := J_Acts_startPage) 2 (pc' := 26) (lv' := [(0, .ref v0)]) (st' := [.int 0, .ref v0]) rfl ?_
  refine x_pI e rfl rfl fw_0_12 rfl (fun g6 e => ?_)
  refine wp_p (j := J_Acts_startPage) 2 (pc' := 31) (lv' := [(0, .ref v0)]) (st' := [.int 0, .ref v0]) rfl ?_
  refine x_pI e rfl rfl fw_0_15 rfl (fun g7 e => ?_)
  refine wp_p (j := J_Acts_startPage) 2 (pc' := 36) (lv' := [(0, .ref v0)]) (st' := [.int 0, .ref v0]) rfl ?_
  refine x_pI e rfl rfl fw_0_16 rfl (fun g8 e => ?_)
  refine wp_p (j := J_Acts_startPage) 1 (pc' := 40) (lv' := [(0, .ref v0)]) (st' := [.ref v0]) rfl ?_
  refine x_gQ e rfl rfl fd_0_0 rfl (fun z9 e => ?_)
  refine x_cv0 (As := []) (rest := []) e rfl rfl rfl rfl rfl rfl (fun h => d_Tree_list h ⟨rfl, rfl⟩) (fun g10 e => ?_)
  refine wp_p (j := J_Acts_startPage) 2 (pc' := 48) (lv' := [(1, .int 0), (0, .ref v0)]) (st' := []) rfl ?_
  obtain ⟨g13, h12, e⟩ := bd e
  refine wp_lv (lv' := [(0, .ref v0), (1, .int 0)]) rfl ⟨rfl, rfl, trivial⟩ ?_
  refine l_Acts_startPage_48 h12 ?_
  show wp (ab_ext L xs) J_Acts_startPage 119 [] [] (hp g13) Q
  have e := Option.some.inj e; subst e; exact wp_vret rfl rfl c
def cL_Tree_free_2 (L : Nat) (xs : Nat → Int32) (Q : Option Value → ab_H → Prop) (v0 : Nat) (v2 : Int32) (out : (Int32 × g_S) ⊕ (g_S)) : Prop := match out with
  | .inl s => wp (ab_ext L xs) J_Tree_free 2 [(0, .ref v0), (2, .int v2), (3, .int s.1)] [] (hp s.2) Q
  | .inr s => wp (ab_ext L xs) J_Tree_free 38 [(0, .ref v0)] [] (hp s) Q
noncomputable def b_Tree_free_2 (v0 : Nat) (v2 : Int32) (v3 : Int32) (g : g_S) : Option ((Int32 × g_S) ⊕ (g_S)) :=
  if v3 < v2 then
    (rQ g 110 v0 0).bind fun z1 =>
    (rQ g 110 v0 2).bind fun z2 =>
    (aI g 0 z2 v3).bind fun z3 =>
    (aQ g 5 z1 z3).bind fun z4 =>
    (wI g 107 z4 0 (-1)).bind fun g5 =>
    (rI g5 110 v0 5).bind fun z6 =>
    (wI g5 110 v0 5 (z6 - 1)).bind fun g7 =>
    some (.inl (v3 + 1, g7))
  else
    some (.inr g)
set_option maxRecDepth 20000 in
theorem y_Tree_free_2 {L : Nat} {xs : Nat → Int32} {Q : Option Value → ab_H → Prop} {v0 : Nat} {v2 : Int32} {v3 : Int32} {g : g_S} {out : (Int32 × g_S) ⊕ (g_S)} (e : b_Tree_free_2 v0 v2 v3 g = some out) (c : cL_Tree_free_2 L xs Q v0 v2 out) : wp (ab_ext L xs) J_Tree_free 2 [(0, .ref v0), (2, .int v2), (3, .int v3)] [] (hp g) Q := by
  unfold b_Tree_free_2 at e
  refine wp_p (j := J_Tree_free) 2 (pc' := 4) (lv' := [(0, .ref v0), (2, .int v2), (3, .int v3)]) (st' := [.int v2, .int v3]) rfl ?_
  refine x_ge e rfl (fun e => ?_) (fun e => ?_)
  · refine wp_p (j := J_Tree_free) 1 (pc' := 8) (lv' := [(0, .ref v0), (2, .int v2), (3, .int v3)]) (st' := [.ref v0]) rfl ?_
    refine x_gQ e rfl rfl fd_10_0 rfl (fun z1 e => ?_)
    refine wp_p (j := J_Tree_free) 1 (pc' := 12) (lv' := [(0, .ref v0), (2, .int v2), (3, .int v3)]) (st' := [.ref v0, .ref z1]) rfl ?_
    refine x_gQ e rfl rfl fd_10_2 rfl (fun z2 e => ?_)
    refine wp_p (j := J_Tree_free) 1 (pc' := 16) (lv' := [(0, .ref v0), (2, .int v2), (3, .int v3)]) (st' := [.int v3, .ref z2, .ref z1]) rfl ?_
    refine x_aI e rfl rfl (fun z3 e => ?_)
    refine x_aQ e rfl rfl rfl (fun z4 e => ?_)
    refine wp_p (j := J_Tree_free) 1 (pc' := 19) (lv' := [(0, .ref v0), (2, .int v2), (3, .int v3)]) (st' := [.int (-1), .ref z4]) rfl ?_
    refine x_pI e rfl rfl fw_7_0 rfl (fun g5 e => ?_)
    refine wp_p (j := J_Tree_free) 2 (pc' := 24) (lv' := [(0, .ref v0), (2, .int v2), (3, .int v3)]) (st' := [.ref v0, .ref v0]) rfl ?_
    refine x_gI e rfl rfl fd_10_5 rfl (fun z6 e => ?_)
    refine wp_p (j := J_Tree_free) 2 (pc' := 29) (lv' := [(0, .ref v0), (2, .int v2), (3, .int v3)]) (st' := [.int (z6 - 1), .ref v0]) rfl ?_
    refine x_pI e rfl rfl fw_10_5 rfl (fun g7 e => ?_)
    refine wp_p (j := J_Tree_free) 2 (pc' := 2) (lv' := [(3, .int (v3 + 1)), (0, .ref v0), (2, .int v2)]) (st' := []) rfl ?_
    have e := Option.some.inj e; subst e; exact wp_lv (lv' := [(0, .ref v0), (2, .int v2), (3, .int (v3 + 1))]) rfl ⟨rfl, rfl, rfl, trivial⟩ c
  · have e := Option.some.inj e; subst e; exact wp_lv (lv' := [(0, .ref v0)]) rfl ⟨rfl, trivial⟩ c
noncomputable def L_Tree_free_2 (v0 : Nat) (v2 : Int32) (v3 : Int32) (g : g_S) : Option (g_S) := it (fun s : Int32 × g_S => b_Tree_free_2 v0 v2 s.1 s.2) (v3, g)
theorem l_Tree_free_2 {L : Nat} {xs : Nat → Int32} {Q : Option Value → ab_H → Prop} {v0 : Nat} {v2 : Int32} {v3 : Int32} {g : g_S} {r : g_S} (e : L_Tree_free_2 v0 v2 v3 g = some r) (c : cL_Tree_free_2 L xs Q v0 v2 (.inr r)) : wp (ab_ext L xs) J_Tree_free 2 [(0, .ref v0), (2, .int v2), (3, .int v3)] [] (hp g) Q :=
  it_wp (P := fun s : Int32 × g_S => wp (ab_ext L xs) J_Tree_free 2 [(0, .ref v0), (2, .int v2), (3, .int s.1)] [] (hp s.2) Q) (E := fun r => cL_Tree_free_2 L xs Q v0 v2 (.inr r)) (fun s out e c => y_Tree_free_2 e (by cases out <;> exact c)) e c
theorem L_Tree_free_2_eq (v0 : Nat) (v2 : Int32) (v3 : Int32) (g : g_S) : L_Tree_free_2 v0 v2 v3 g = itc (b_Tree_free_2 v0 v2 v3 g) (fun s => L_Tree_free_2 v0 v2 s.1 s.2) := it_eq2 (fun s : Int32 × g_S => b_Tree_free_2 v0 v2 s.1 s.2) (v3, g)
noncomputable def M_Tree_free (v0 : Nat) (v1 : Int32) (v2 : Int32) (g : g_S) : Option g_S :=
  (L_Tree_free_2 v0 v2 v1 g).bind <| fun g3 =>
  (rI g3 110 v0 6).bind fun z4 =>
  (wI g3 110 v0 6 (z4 + 1)).bind fun g5 =>
  some g5
set_option maxRecDepth 20000 in
theorem d_Tree_free {L : Nat} {xs : Nat → Int32} {Q : Option Value → ab_H → Prop} {v0 : Nat} {v1 : Int32} {v2 : Int32} {g : g_S} {out : g_S} (e : M_Tree_free v0 v1 v2 g = some out) (c : Q none (hp out)) : mw (ab_ext L xs) J_Tree_free [.ref v0, .int v1, .int v2] (hp g) Q := by
  unfold M_Tree_free at e
  refine wp_p (j := J_Tree_free) 2 (pc' := 2) (lv' := [(3, .int v1), (0, .ref v0), (1, .int v1), (2, .int v2)]) (st' := []) rfl ?_
  obtain ⟨g3, h2, e⟩ := bd e
  refine wp_lv (lv' := [(0, .ref v0), (2, .int v2), (3, .int v1)]) rfl ⟨rfl, rfl, rfl, trivial⟩ ?_
  refine l_Tree_free_2 h2 ?_
  show wp (ab_ext L xs) J_Tree_free 38 [(0, .ref v0)] [] (hp g3) Q
  refine wp_p (j := J_Tree_free) 2 (pc' := 40) (lv' := [(0, .ref v0)]) (st' := [.ref v0, .ref v0]) rfl ?_
  refine x_gI e rfl rfl fd_10_6 rfl (fun z4 e => ?_)
  refine wp_p (j := J_Tree_free) 2 (pc' := 45) (lv' := [(0, .ref v0)]) (st' := [.int (z4 + 1), .ref v0]) rfl ?_
  refine x_pI e rfl rfl fw_10_6 rfl (fun g5 e => ?_)
  have e := Option.some.inj e; subst e; exact wp_vret rfl rfl c
noncomputable def M_Tree_setText (v0 : Nat) (v1 : Int32) (v2 : Nat) (v3 : Int32) (v4 : Int32) (g : g_S) : Option g_S :=
  (rQ g 110 v0 0).bind fun z1 =>
  (aQ g 5 z1 v1).bind fun z2 =>
  (vc g 107 z2 (M_Node_isEmptyTag z2 g)).bind fun z3 =>
  if z3 = 0 then
    (rI g 107 z2 7).bind fun z4 =>
    if z4 < 20 then
      (vc g 110 v0 (M_Tree_list v0 g)).bind fun g5 =>
      (wI g5 107 z2 3 (-1)).bind fun g6 =>
      (wI g6 107 z2 4 (-1)).bind fun g7 =>
      (wI g7 107 z2 6 0).bind fun g8 =>
      (rI g8 107 z2 8).bind fun z9 =>
      (rI g8 107 z2 9).bind fun z10 =>
      (vc g8 110 v0 (M_Tree_free v0 (z9 + 1) z10 g8)).bind fun g11 =>
      if v3 < v4 then
        (vc g11 110 v0 (M_Tree_hasRoom v0 v1 g11)).bind fun z12 =>
        if z12 = 0 then
          some g11
        else
          c2 (vc g11 110 v0 (M_Tree_grow v0 v1 17 0 g11)) fun z13 g14 =>
          (rQ g14 110 v0 0).bind fun z15 =>
          (aQ g14 5 z15 z13).bind fun z16 =>
          (rQ g14 107 z16 11).bind fun z17 =>
          (vc g14 104 z17 (M_Bytes_addAll z17 v2 v3 v4 g14)).bind fun g18 =>
          some g18
      else
        some g11
    else
      some g
  else
    some g
set_option maxRecDepth 20000 in
theorem d_Tree_setText {L : Nat} {xs : Nat → Int32} {Q : Option Value → ab_H → Prop} {v0 : Nat} {v1 : Int32} {v2 : Nat} {v3 : Int32} {v4 : Int32} {g : g_S} {out : g_S} (e : M_Tree_setText v0 v1 v2 v3 v4 g = some out) (c : Q none (hp out)) : mw (ab_ext L xs) J_Tree_setText [.ref v0, .int v1, .ref v2, .int v3, .int v4] (hp g) Q := by
  unfold M_Tree_setText at e
  refine wp_p (j := J_Tree_setText) 1 (pc' := 1) (lv' := [(0, .ref v0), (1, .int v1), (2, .ref v2), (3, .int v3), (4, .int v4)]) (st' := [.ref v0]) rfl ?_
  refine x_gQ e rfl rfl fd_10_0 rfl (fun z1 e => ?_)
  refine wp_p (j := J_Tree_setText) 1 (pc' := 5) (lv' := [(0, .ref v0), (1, .int v1), (2, .ref v2), (3, .int v3), (4, .int v4)]) (st' := [.int v1, .ref z1]) rfl ?_
  refine x_aQ e rfl rfl rfl (fun z2 e => ?_)
  refine wp_p (j := J_Tree_setText) 2 (pc' := 10) (lv' := [(5, .ref z2), (0, .ref v0), (1, .int v1), (2, .ref v2), (3, .int v3), (4, .int v4)]) (st' := [.ref z2]) rfl ?_
  refine x_cv1 (As := []) (rest := []) Value.int e rfl rfl rfl rfl rfl rfl (fun h => d_Node_isEmptyTag h ⟨rfl, rfl⟩) (fun z3 e => ?_)
  refine z_ne e rfl (fun e => ?_) (fun e => ?_)
  · refine wp_p (j := J_Tree_setText) 1 (pc' := 18) (lv' := [(5, .ref z2), (0, .ref v0), (1, .int v1), (2, .ref v2), (3, .int v3), (4, .int v4)]) (st' := [.ref z2]) rfl ?_
    refine x_gI e rfl rfl fd_7_7 rfl (fun z4 e => ?_)
    refine wp_p (j := J_Tree_setText) 1 (pc' := 23) (lv' := [(5, .ref z2), (0, .ref v0), (1, .int v1), (2, .ref v2), (3, .int v3), (4, .int v4)]) (st' := [.int 20, .int z4]) rfl ?_
    refine x_lt e rfl (fun e => ?_) (fun e => ?_)
    · refine wp_p (j := J_Tree_setText) 1 (pc' := 28) (lv' := [(5, .ref z2), (0, .ref v0), (1, .int v1), (2, .ref v2), (3, .int v3), (4, .int v4)]) (st' := [.ref v0]) rfl ?_
      refine x_cv0 (As := []) (rest := []) e rfl rfl rfl rfl rfl rfl (fun h => d_Tree_list h ⟨rfl, rfl⟩) (fun g5 e => ?_)
      refine wp_p (j := J_Tree_setText) 2 (pc' := 34) (lv' := [(5, .ref z2), (0, .ref v0), (1, .int v1), (2, .ref v2), (3, .int v3), (4, .int v4)]) (st' := [.int (-1), .ref z2]) rfl ?_
      refine x_pI e rfl rfl fw_7_3 rfl (fun g6 e => ?_)
      refine wp_p (j := J_Tree_setText) 2 (pc' := 40) (lv' := [(5, .ref z2), (0, .ref v0), (1, .int v1), (2, .ref v2), (3, .int v3), (4, .int v4)]) (st' := [.int (-1), .ref z2]) rfl ?_
      refine x_pI e rfl rfl fw_7_4 rfl (fun g7 e => ?_)
      refine wp_p (j := J_Tree_setText) 2 (pc' := 46) (lv' := [(5, .ref z2), (0, .ref v0), (1, .int v1), (2, .ref v2), (3, .int v3), (4, .int v4)]) (st' := [.int 0, .ref z2]) rfl ?_
      refine x_pI e rfl rfl fw_7_6 rfl (fun g8 e => ?_)
      refine wp_p (j := J_Tree_setText) 2 (pc' := 52) (lv' := [(5, .ref z2), (0, .ref v0), (1, .int v1), (2, .ref v2), (3, .int v3), (4, .int v4)]) (st' := [.ref z2, .ref v0]) rfl ?_
      refine x_gI e rfl rfl fd_7_8 rfl (fun z9 e => ?_)
      refine wp_p (j := J_Tree_setText) 3 (pc' := 59) (lv' := [(5, .ref z2), (0, .ref v0), (1, .int v1), (2, .ref v2), (3, .int v3), (4, .int v4)]) (st' := [.ref z2, .int (z9 + 1), .ref v0]) rfl ?_
      refine x_gI e rfl rfl fd_7_9 rfl (fun z10 e => ?_)
      refine x_cv0 (As := [.int (z9 + 1), .int z10]) (rest := []) e rfl rfl rfl rfl rfl rfl (fun h => d_Tree_free h ⟨rfl, rfl⟩) (fun g11 e => ?_)
      refine wp_p (j := J_Tree_setText) 2 (pc' := 68) (lv' := [(5, .ref z2), (0, .ref v0), (1, .int v1), (2, .ref v2), (3, .int v3), (4, .int v4)]) (st' := [.int v4, .int v3]) rfl ?_
      refine x_ge e rfl (fun e => ?_) (fun e => ?_)
      · refine wp_p (j := J_Tree_setText) 2 (pc' := 73) (lv' := [(5, .ref z2), (0, .ref v0), (1, .int v1), (2, .ref v2), (3, .int v3), (4, .int v4)]) (st' := [.int v1, .ref v0]) rfl ?_
        refine x_cv1 (As := [.int v1]) (rest := []) Value.int e rfl rfl rfl rfl rfl rfl (fun h => d_Tree_hasRoom h ⟨rfl, rfl⟩) (fun z12 e => ?_)
        refine z_eq e rfl (fun e => ?_) (fun e => ?_)
        · have e := Option.some.inj e; subst e; exact wp_vret rfl rfl c
        · refine wp_p (j := J_Tree_setText) 4 (pc' := 84) (lv' := [(5, .ref z2), (0, .ref v0), (1, .int v1), (2, .ref v2), (3, .int v3), (4, .int v4)]) (st' := [.long 0, .int 17, .int v1, .ref v0]) rfl ?_
          refine x_cv2 (As := [.int v1, .int 17, .long 0]) (rest := []) Value.int e rfl rfl rfl rfl rfl rfl (fun h => d_Tree_grow h ⟨rfl, rfl⟩) (fun z13 g14 e => ?_)
          refine wp_p (j := J_Tree_setText) 2 (pc' := 90) (lv' := [(6, .int z13), (5, .ref z2), (0, .ref v0), (1, .int v1), (2, .ref v2), (3, .int v3), (4, .int v4)]) (st' := [.ref v0]) rfl ?_
          refine x_gQ e rfl rfl fd_10_0 rfl (fun z15 e => ?_)
          refine wp_p (j := J_Tree_setText) 1 (pc' := 95) (lv' := [(6, .int z13), (5, .ref z2), (0, .ref v0), (1, .int v1), (2, .ref v2), (3, .int v3), (4, .int v4)]) (st' := [.int z13, .ref z15]) rfl ?_
          refine x_aQ e rfl rfl rfl (fun z16 e => ?_)
          refine x_gQ e rfl rfl fd_7_11 rfl (fun z17 e => ?_)
          refine wp_p (j := J_Tree_setText) 3 (pc' := 103) (lv' := [(6, .int z13), (5, .ref z2), (0, .ref v0), (1, .int v1), (2, .ref v2), (3, .int v3), (4, .int v4)]) (st' := [.int v4, .int v3, .ref v2, .ref z17]) rfl ?_
          refine x_cv0 (As := [.ref v2, .int v3, .int v4]) (rest := []) e rfl rfl rfl rfl rfl rfl (fun h => d_Bytes_addAll h ⟨rfl, rfl⟩) (fun g18 e => ?_)
          have e := Option.some.inj e; subst e; exact wp_vret rfl rfl c
      · have e := Option.some.inj e; subst e; exact wp_vret rfl rfl c
    · have e := Option.some.inj e; subst e; exact wp_vret rfl rfl c
  · have e := Option.some.inj e; subst e; exact wp_vret rfl rfl c
noncomputable def k_Acts_finishGet_56 (v0 : Nat) (v1 : Int32) (v2 : Nat) (g : g_S) : Option g_S :=
  (rQ g 100 v0 0).bind fun z1 =>
  (rQ g 102 v2 6).bind fun z2 =>
  (rQ g 102 v2 6).bind fun z3 =>
  (aN g z3).bind fun z4 =>
  (vc g 110 z1 (M_Tree_setText z1 v1 z2 0 (mn z4 200) g)).bind fun g5 =>
  some g5
set_option maxRecDepth 20000 in
theorem x_Acts_finishGet_56 {L : Nat} {xs : Nat → Int32} {Q : Option Value → ab_H → Prop} {v0 : Nat} {v1 : Int32} {v2 : Nat} {g : g_S} {out : g_S} (e : k_Acts_finishGet_56 v0 v1 v2 g = some out) (c : Q none (hp out)) : wp (ab_ext L xs) J_Acts_finishGet 56 [(0, .ref v0), (1, .int v1), (2, .ref v2)] [] (hp g) Q := by
  unfold k_Acts_finishGet_56 at e
  refine wp_p (j := J_Acts_finishGet) 1 (pc' := 57) (lv' := [(0, .ref v0), (1, .int v1), (2, .ref v2)]) (st' := [.ref v0]) rfl ?_
  refine x_gQ e rfl rfl fd_0_0 rfl (fun z1 e => ?_)
  refine wp_p (j := J_Acts_finishGet) 2 (pc' := 62) (lv' := [(0, .ref v0), (1, .int v1), (2, .ref v2)]) (st' := [.ref v2, .int v1, .ref z1]) rfl ?_
  refine x_gQ e rfl rfl fd_2_6 rfl (fun z2 e => ?_)
  refine wp_p (j := J_Acts_finishGet) 2 (pc' := 67) (lv' := [(0, .ref v0), (1, .int v1), (2, .ref v2)]) (st' := [.ref v2, .int 0, .ref z2, .int v1, .ref z1]) rfl ?_
  refine x_gQ e rfl rfl fd_2_6 rfl (fun z3 e => ?_)
  refine x_aN e rfl rfl (fun z4 e => ?_)
  refine wp_p (j := J_Acts_finishGet) 1 (pc' := 74) (lv' := [(0, .ref v0), (1, .int v1), (2, .ref v2)]) (st' := [.int 200, .int z4, .int 0, .ref z2, .int v1, .ref z1]) rfl ?_
  refine x_mn rfl rfl ?_
  refine x_cv0 (As := [.int v1, .ref z2, .int 0, .int (mn z4 200)]) (rest := []) e rfl rfl rfl rfl rfl rfl (fun h => d_Tree_setText h ⟨rfl, rfl⟩) (fun g5 e => ?_)
  refine wp_p (j := J_Acts_finishGet) 1 (pc' := 93) (lv' := [(0, .ref v0), (1, .int v1), (2, .ref v2)]) (st' := []) rfl ?_
  have e := Option.some.inj e; subst e; exact wp_vret rfl rfl c
noncomputable def M_Acts_finishGet (v0 : Nat) (g : g_S) : Option g_S :=
  (rI g 100 v0 17).bind fun z1 =>
  (wI g 100 v0 17 (-1)).bind fun g2 =>
  (rQ g2 100 v0 1).bind fun z3 =>
  (rQ g2 100 v0 1).bind fun z4 =>
  (rQ g2 106 z4 14).bind fun z5 =>
  c2 (vc g2 106 z3 (M_Net_fetch z3 z5 g2)) fun z6 g7 =>
  (rI g7 102 z6 5).bind fun z8 =>
  if z8 = 0 then
    (rQ g7 100 v0 1).bind fun z9 =>
    (rQ g7 106 z9 15).bind fun z10 =>
    (rL g7 101 z10 1).bind fun z11 =>
    (rQ g7 100 v0 1).bind fun z12 =>
    (rQ g7 106 z12 13).bind fun z13 =>
    (rL g7 101 z13 1).bind fun z14 =>
    if (lg_cmp z11 z14) = 0 then
      k_Acts_finishGet_56 v0 z1 z6 g7
    else
      (rI g7 100 v0 10).bind fun z15 =>
      (wI g7 100 v0 10 (z15 + 1)).bind fun g16 =>
      some g16
  else
    k_Acts_finishGet_56 v0 z1 z6 g7
set_option maxRecDepth 20000 in
theorem d_Acts_finishGet {L : Nat} {xs : Nat → Int32} {Q : Option Value → ab_H → Prop} {v0 : Nat} {g : g_S} {out : g_S} (e : M_Acts_finishGet v0 g = some out) (c : Q none (hp out)) : mw (ab_ext L xs) J_Acts_finishGet [.ref v0] (hp g) Q := by
  unfold M_Acts_finishGet at e
  refine wp_p (j := J_Acts_finishGet) 1 (pc' := 1) (lv' := [(0, .ref v0)]) (st' := [.ref v0]) rfl ?_
  refine x_gI e rfl rfl fd_0_17 rfl (fun z1 e => ?_)
  refine wp_p (j := J_Acts_finishGet) 3 (pc' := 7) (lv' := [(1, .int z1), (0, .ref v0)]) (st' := [.int (-1), .ref v0]) rfl ?_
  refine x_pI e rfl rfl fw_0_17 rfl (fun g2 e => ?_)
  refine wp_p (j := J_Acts_finishGet) 1 (pc' := 11) (lv' := [(1, .int z1), (0, .ref v0)]) (st' := [.ref v0]) rfl ?_
  refine x_gQ e rfl rfl fd_0_1 rfl (fun z3 e => ?_)
  refine wp_p (j := J_Acts_finishGet) 1 (pc' := 15) (lv' := [(1, .int z1), (0, .ref v0)]) (st' := [.ref v0, .ref z3]) rfl ?_
  refine x_gQ e rfl rfl fd_0_1 rfl (fun z4 e => ?_)
  refine x_gQ e rfl rfl fd_6_14 rfl (fun z5 e => ?_)
  refine x_cv2 (As := [.ref z5]) (rest := []) Value.ref e rfl rfl rfl rfl rfl rfl (fun h => d_Net_fetch h ⟨rfl, rfl⟩) (fun z6 g7 e => ?_)
  refine wp_p (j := J_Acts_finishGet) 2 (pc' := 26) (lv' := [(2, .ref z6), (1, .int z1), (0, .ref v0)]) (st' := [.ref z6]) rfl ?_
  refine x_gI e rfl rfl fd_2_5 rfl (fun z8 e => ?_)
  refine z_ne e rfl (fun e => ?_) (fun e => ?_)
  · refine wp_p (j := J_Acts_finishGet) 1 (pc' := 33) (lv' := [(2, .ref z6), (1, .int z1), (0, .ref v0)]) (st' := [.ref v0]) rfl ?_
    refine x_gQ e rfl rfl fd_0_1 rfl (fun z9 e => ?_)
    refine x_gQ e rfl rfl fd_6_15 rfl (fun z10 e => ?_)
    refine x_gL e rfl rfl fd_1_1 rfl (fun z11 e => ?_)
    refine wp_p (j := J_Acts_finishGet) 1 (pc' := 43) (lv' := [(2, .ref z6), (1, .int z1), (0, .ref v0)]) (st' := [.ref v0, .long z11]) rfl ?_
    refine x_gQ e rfl rfl fd_0_1 rfl (fun z12 e => ?_)
    refine x_gQ e rfl rfl fd_6_13 rfl (fun z13 e => ?_)
    refine x_gL e rfl rfl fd_1_1 rfl (fun z14 e => ?_)
    refine wp_p (j := J_Acts_finishGet) 1 (pc' := 53) (lv' := [(2, .ref z6), (1, .int z1), (0, .ref v0)]) (st' := [.int (lg_cmp z11 z14)]) rfl ?_
    refine z_ne e rfl (fun e => ?_) (fun e => ?_)
    · exact wp_lv (lv' := [(0, .ref v0), (1, .int z1), (2, .ref z6)]) rfl ⟨rfl, rfl, rfl, trivial⟩ (x_Acts_finishGet_56 e c)
    · refine wp_p (j := J_Acts_finishGet) 2 (pc' := 85) (lv' := [(2, .ref z6), (1, .int z1), (0, .ref v0)]) (st' := [.ref v0, .ref v0]) rfl ?_
      refine x_gI e rfl rfl fd_0_10 rfl (fun z15 e => ?_)
      refine wp_p (j := J_Acts_finishGet) 2 (pc' := 90) (lv' := [(2, .ref z6), (1, .int z1), (0, .ref v0)]) (st' := [.int (z15 + 1), .ref v0]) rfl ?_
      refine x_pI e rfl rfl fw_0_10 rfl (fun g16 e => ?_)
      have e := Option.some.inj e; subst e; exact wp_vret rfl rfl c
  · exact wp_lv (lv' := [(0, .ref v0), (1, .int z1), (2, .ref z6)]) rfl ⟨rfl, rfl, rfl, trivial⟩ (x_Acts_finishGet_56 e c)
def cL_Acts_blankAt_2 (L : Nat) (xs : Nat → Int32) (Q : Option Value → ab_H → Prop) (v0 : Nat) (v2 : Int32) (g : g_S) (out : (Int32) ⊕ (Int32)) : Prop := match out with
  | .inl s => wp (ab_ext L xs) J_Acts_blankAt 2 [(0, .ref v0), (2, .int v2), (3, .int s)] [] (hp g) Q
  | .inr s => wp (ab_ext L xs) J_Acts_blankAt 21 [(3, .int s)] [] (hp g) Q
noncomputable def b_Acts_blankAt_2 (v0 : Nat) (v2 : Int32) (v3 : Int32) (g : g_S) : Option ((Int32) ⊕ (Int32)) :=
  if v3 < v2 then
    (aI g 1 v0 v3).bind fun z1 =>
    if z1 = 32 then
      some (.inr v3)
    else
      some (.inl (v3 + 1))
  else
    some (.inr v3)
set_option maxRecDepth 20000 in
theorem y_Acts_blankAt_2 {L : Nat} {xs : Nat → Int32} {Q : Option Value → ab_H → Prop} {v0 : Nat} {v2 : Int32} {v3 : Int32} {g : g_S} {out : (Int32) ⊕ (Int32)} (e : b_Acts_blankAt_2 v0 v2 v3 g = some out) (c : cL_Acts_blankAt_2 L xs Q v0 v2 g out) : wp (ab_ext L xs) J_Acts_blankAt 2 [(0, .ref v0), (2, .int v2), (3, .int v3)] [] (hp g) Q := by
  unfold b_Acts_blankAt_2 at e
  refine wp_p (j := J_Acts_blankAt) 2 (pc' := 4) (lv' := [(0, .ref v0), (2, .int v2), (3, .int v3)]) (st' := [.int v2, .int v3]) rfl ?_
  refine x_ge e rfl (fun e => ?_) (fun e => ?_)
  · refine wp_p (j := J_Acts_blankAt) 2 (pc' := 9) (lv' := [(0, .ref v0), (2, .int v2), (3, .int v3)]) (st' := [.int v3, .ref v0]) rfl ?_
    refine x_aB e rfl (.inl rfl) rfl (fun z1 e => ?_)
    refine wp_p (j := J_Acts_blankAt) 1 (pc' := 12) (lv' := [(0, .ref v0), (2, .int v2), (3, .int v3)]) (st' := [.int 32, .int z1]) rfl ?_
    refine x_eq e rfl (fun e => ?_) (fun e => ?_)
    · have e := Option.some.inj e; subst e; exact wp_lv (lv' := [(3, .int v3)]) rfl ⟨rfl, trivial⟩ c
    · refine wp_p (j := J_Acts_blankAt) 2 (pc' := 2) (lv' := [(3, .int (v3 + 1)), (0, .ref v0), (2, .int v2)]) (st' := []) rfl ?_
      have e := Option.some.inj e; subst e; exact wp_lv (lv' := [(0, .ref v0), (2, .int v2), (3, .int (v3 + 1))]) rfl ⟨rfl, rfl, rfl, trivial⟩ c
  · have e := Option.some.inj e; subst e; exact wp_lv (lv' := [(3, .int v3)]) rfl ⟨rfl, trivial⟩ c
noncomputable def L_Acts_blankAt_2 (v0 : Nat) (v2 : Int32) (v3 : Int32) (g : g_S) : Option (Int32) := it (fun s : Int32 => b_Acts_blankAt_2 v0 v2 s g) (v3)
theorem l_Acts_blankAt_2 {L : Nat} {xs : Nat → Int32} {Q : Option Value → ab_H → Prop} {v0 : Nat} {v2 : Int32} {v3 : Int32} {g : g_S} {r : Int32} (e : L_Acts_blankAt_2 v0 v2 v3 g = some r) (c : cL_Acts_blankAt_2 L xs Q v0 v2 g (.inr r)) : wp (ab_ext L xs) J_Acts_blankAt 2 [(0, .ref v0), (2, .int v2), (3, .int v3)] [] (hp g) Q :=
  it_wp (P := fun s : Int32 => wp (ab_ext L xs) J_Acts_blankAt 2 [(0, .ref v0), (2, .int v2), (3, .int s)] [] (hp g) Q) (E := fun r => cL_Acts_blankAt_2 L xs Q v0 v2 g (.inr r)) (fun s out e c => y_Acts_blankAt_2 e (by cases out <;> exact c)) e c
theorem L_Acts_blankAt_2_eq (v0 : Nat) (v2 : Int32) (v3 : Int32) (g : g_S) : L_Acts_blankAt_2 v0 v2 v3 g = itc (b_Acts_blankAt_2 v0 v2 v3 g) (fun s => L_Acts_blankAt_2 v0 v2 s g) := it_eq2 (fun s : Int32 => b_Acts_blankAt_2 v0 v2 s g) (v3)
noncomputable def M_Acts_blankAt (v0 : Nat) (v1 : Int32) (v2 : Int32) (g : g_S) : Option Int32 :=
  (L_Acts_blankAt_2 v0 v2 v1 g).bind <| fun z3 =>
  some z3
set_option maxRecDepth 20000 in
theorem d_Acts_blankAt {L : Nat} {xs : Nat → Int32} {Q : Option Value → ab_H → Prop} {v0 : Nat} {v1 : Int32} {v2 : Int32} {g : g_S} {out : Int32} (e : M_Acts_blankAt v0 v1 v2 g = some out) (c : Q (some (.int out)) (hp g)) : mw (ab_ext L xs) J_Acts_blankAt [.ref v0, .int v1, .int v2] (hp g) Q := by
  unfold M_Acts_blankAt at e
  refine wp_p (j := J_Acts_blankAt) 2 (pc' := 2) (lv' := [(3, .int v1), (0, .ref v0), (1, .int v1), (2, .int v2)]) (st' := []) rfl ?_
  obtain ⟨z3, h2, e⟩ := bd e
  refine wp_lv (lv' := [(0, .ref v0), (2, .int v2), (3, .int v1)]) rfl ⟨rfl, rfl, rfl, trivial⟩ ?_
  refine l_Acts_blankAt_2 h2 ?_
  show wp (ab_ext L xs) J_Acts_blankAt 21 [(3, .int z3)] [] (hp g) Q
  refine wp_p (j := J_Acts_blankAt) 1 (pc' := 22) (lv' := [(3, .int z3)]) (st' := [.int z3]) rfl ?_
  have e := Option.some.inj e; subst e; exact wp_iret (ty := .int) rfl rfl rfl c
def cL_Bytes_wordPlace_12 (L : Nat) (xs : Nat → Int32) (Q : Option Value → ab_H → Prop) (v0 : Nat) (v1 : Nat) (v2 : Int32) (v3 : Int32) (g : g_S) (out : (Int32 × Int32 × Int32 × Int32) ⊕ ((Int32) ⊕ (Int32 × Int32 × Int32))) : Prop := match out with
  | .inl s => wp (ab_ext L xs) J_Bytes_wordPlace 12 [(0, .ref v0), (1, .ref v1), (2, .int v2), (3, .int v3), (4, .int s.1), (5, .int s.2.1), (6, .int s.2.2.1), (7, .int s.2.2.2)] [] (hp g) Q
  | .inr (.inl s) => wp (ab_ext L xs) J_Bytes_wordPlace 80 [(4, .int s)] [] (hp g) Q
  | .inr (.inr s) => wp (ab_ext L xs) J_Bytes_wordPlace 98 [(3, .int v3), (4, .int s.1), (5, .int s.2.1), (6, .int s.2.2)] [] (hp g) Q
noncomputable def k_Bytes_wordPlace_83 (v0 : Nat) (v1 : Nat) (v2 : Int32) (v3 : Int32) (v4 : Int32) (v7 : Int32) (g : g_S) : Option ((Int32 × Int32 × Int32 × Int32) ⊕ ((Int32) ⊕ (Int32 × Int32 × Int32))) :=
  some (.inl (v4 + 1, 1, v2, v7 + 1))
set_option maxRecDepth 20000 in
theorem x_Bytes_wordPlace_83 {L : Nat} {xs : Nat → Int32} {Q : Option Value → ab_H → Prop} {v0 : Nat} {v1 : Nat} {v2 : Int32} {v3 : Int32} {v4 : Int32} {v7 : Int32} {g : g_S} {out : (Int32 × Int32 × Int32 × Int32) ⊕ ((Int32) ⊕ (Int32 × Int32 × Int32))} (e : k_Bytes_wordPlace_83 v0 v1 v2 v3 v4 v7 g = some out) (c : cL_Bytes_wordPlace_12 L xs Q v0 v1 v2 v3 g out) : wp (ab_ext L xs) J_Bytes_wordPlace 83 [(0, .ref v0), (1, .ref v1), (2, .int v2), (3, .int v3), (4, .int v4), (7, .int v7)] [] (hp g) Q := by
  unfold k_Bytes_wordPlace_83 at e
  refine wp_p (j := J_Bytes_wordPlace) 7 (pc' := 12) (lv' := [(7, .int (v7 + 1)), (6, .int v2), (5, .int 1), (4, .int (v4 + 1)), (0, .ref v0), (1, .ref v1), (2, .int v2), (3, .int v3)]) (st' := []) rfl ?_
  have e := Option.some.inj e; subst e; exact wp_lv (lv' := [(0, .ref v0), (1, .ref v1), (2, .int v2), (3, .int v3), (4, .int (v4 + 1)), (5, .int 1), (6, .int v2), (7, .int (v7 + 1))]) rfl ⟨rfl, rfl, rfl, rfl, rfl, rfl, rfl, rfl, trivial⟩ c
noncomputable def k_Bytes_wordPlace_61 (v0 : Nat) (v1 : Nat) (v2 : Int32) (v3 : Int32) (v4 : Int32) (v6 : Int32) (v7 : Int32) (w0 : Int32) (g : g_S) : Option ((Int32 × Int32 × Int32 × Int32) ⊕ ((Int32) ⊕ (Int32 × Int32 × Int32))) :=
  some (.inl (v4, w0, v6 + 1, v7 + 1))
set_option maxRecDepth 20000 in
theorem x_Bytes_wordPlace_61 {L : Nat} {xs : Nat → Int32} {Q : Option Value → ab_H → Prop} {v0 : Nat} {v1 : Nat} {v2 : Int32} {v3 : Int32} {v4 : Int32} {v6 : Int32} {v7 : Int32} {w0 : Int32} {g : g_S} {out : (Int32 × Int32 × Int32 × Int32) ⊕ ((Int32) ⊕ (Int32 × Int32 × Int32))} (e : k_Bytes_wordPlace_61 v0 v1 v2 v3 v4 v6 v7 w0 g = some out) (c : cL_Bytes_wordPlace_12 L xs Q v0 v1 v2 v3 g out) : wp (ab_ext L xs) J_Bytes_wordPlace 61 [(0, .ref v0), (1, .ref v1), (2, .int v2), (3, .int v3), (4, .int v4), (6, .int v6), (7, .int v7)] [.int w0] (hp g) Q := by
  unfold k_Bytes_wordPlace_61 at e
  refine wp_p (j := J_Bytes_wordPlace) 5 (pc' := 12) (lv' := [(7, .int (v7 + 1)), (6, .int (v6 + 1)), (5, .int w0), (0, .ref v0), (1, .ref v1), (2, .int v2), (3, .int v3), (4, .int v4)]) (st' := []) rfl ?_
  have e := Option.some.inj e; subst e; exact wp_lv (lv' := [(0, .ref v0), (1, .ref v1), (2, .int v2), (3, .int v3), (4, .int v4), (5, .int w0), (6, .int (v6 + 1)), (7, .int (v7 + 1))]) rfl ⟨rfl, rfl, rfl, rfl, rfl, rfl, rfl, rfl, trivial⟩ c
noncomputable def k_Bytes_wordPlace_60 (v0 : Nat) (v1 : Nat) (v2 : Int32) (v3 : Int32) (v4 : Int32) (v6 : Int32) (v7 : Int32) (g : g_S) : Option ((Int32 × Int32 × Int32 × Int32) ⊕ ((Int32) ⊕ (Int32 × Int32 × Int32))) :=
  k_Bytes_wordPlace_61 v0 v1 v2 v3 v4 v6 v7 0 g
set_option maxRecDepth 20000 in
theorem x_Bytes_wordPlace_60 {L : Nat} {xs : Nat → Int32} {Q : Option Value → ab_H → Prop} {v0 : Nat} {v1 : Nat} {v2 : Int32} {v3 : Int32} {v4 : Int32} {v6 : Int32} {v7 : Int32} {g : g_S} {out : (Int32 × Int32 × Int32 × Int32) ⊕ ((Int32) ⊕ (Int32 × Int32 × Int32))} (e : k_Bytes_wordPlace_60 v0 v1 v2 v3 v4 v6 v7 g = some out) (c : cL_Bytes_wordPlace_12 L xs Q v0 v1 v2 v3 g out) : wp (ab_ext L xs) J_Bytes_wordPlace 60 [(0, .ref v0), (1, .ref v1), (2, .int v2), (3, .int v3), (4, .int v4), (6, .int v6), (7, .int v7)] [] (hp g) Q := by
  unfold k_Bytes_wordPlace_60 at e
  refine wp_p (j := J_Bytes_wordPlace) 1 (pc' := 61) (lv' := [(0, .ref v0), (1, .ref v1), (2, .int v2), (3, .int v3), (4, .int v4), (6, .int v6), (7, .int v7)]) (st' := [.int 0]) rfl ?_
  exact wp_lv (lv' := [(0, .ref v0), (1, .ref v1), (2, .int v2), (3, .int v3), (4, .int v4), (6, .int v6), (7, .int v7)]) rfl ⟨rfl, rfl, rfl, rfl, rfl, rfl, rfl, trivial⟩ (x_Bytes_wordPlace_61 e c)
noncomputable def b_Bytes_wordPlace_12 (v0 : Nat) (v1 : Nat) (v2 : Int32) (v3 : Int32) (v4 : Int32) (v5 : Int32) (v6 : Int32) (v7 : Int32) (g : g_S) : Option ((Int32 × Int32 × Int32 × Int32) ⊕ ((Int32) ⊕ (Int32 × Int32 × Int32))) :=
  (tN v0).bind fun z1 =>
  if v7 < z1 then
    (tC v0 v7).bind fun z2 =>
    if z2 = 32 then
      if v5 = 0 then
        k_Bytes_wordPlace_83 v0 v1 v2 v3 v4 v7 g
      else
        if v6 = v3 then
          some (.inr (.inl v4))
        else
          k_Bytes_wordPlace_83 v0 v1 v2 v3 v4 v7 g
    else
      if v5 = 0 then
        k_Bytes_wordPlace_60 v0 v1 v2 v3 v4 v6 v7 g
      else
        if v6 < v3 then
          (aI g 1 v1 v6).bind fun z3 =>
          if z3 = z2 then
            k_Bytes_wordPlace_61 v0 v1 v2 v3 v4 v6 v7 1 g
          else
            k_Bytes_wordPlace_60 v0 v1 v2 v3 v4 v6 v7 g
        else
          k_Bytes_wordPlace_60 v0 v1 v2 v3 v4 v6 v7 g
  else
    some (.inr (.inr (v4, v5, v6)))
set_option maxRecDepth 20000 in
theorem y_Bytes_wordPlace_12 {L : Nat} {xs : Nat → Int32} {Q : Option Value → ab_H → Prop} {v0 : Nat} {v1 : Nat} {v2 : Int32} {v3 : Int32} {v4 : Int32} {v5 : Int32} {v6 : Int32} {v7 : Int32} {g : g_S} {out : (Int32 × Int32 × Int32 × Int32) ⊕ ((Int32) ⊕ (Int32 × Int32 × Int32))} (e : b_Bytes_wordPlace_12 v0 v1 v2 v3 v4 v5 v6 v7 g = some out) (c : cL_Bytes_wordPlace_12 L xs Q v0 v1 v2 v3 g out) : wp (ab_ext L xs) J_Bytes_wordPlace 12 [(0, .ref v0), (1, .ref v1), (2, .int v2), (3, .int v3), (4, .int v4), (5, .int v5), (6, .int v6), (7, .int v7)] [] (hp g) Q := by
  unfold b_Bytes_wordPlace_12 at e
  refine wp_p (j := J_Bytes_wordPlace) 2 (pc' := 15) (lv' := [(0, .ref v0), (1, .ref v1), (2, .int v2), (3, .int v3), (4, .int v4), (5, .int v5), (6, .int v6), (7, .int v7)]) (st' := [.ref v0, .int v7]) rfl ?_
  refine x_tN e rfl rfl (fun z1 e => ?_)
  refine x_ge e rfl (fun e => ?_) (fun e => ?_)
  · refine wp_p (j := J_Bytes_wordPlace) 2 (pc' := 24) (lv' := [(0, .ref v0), (1, .ref v1), (2, .int v2), (3, .int v3), (4, .int v4), (5, .int v5), (6, .int v6), (7, .int v7)]) (st' := [.int v7, .ref v0]) rfl ?_
    refine x_tC e rfl rfl (fun z2 e => ?_)
    refine wp_p (j := J_Bytes_wordPlace) 3 (pc' := 33) (lv' := [(8, .int z2), (0, .ref v0), (1, .ref v1), (2, .int v2), (3, .int v3), (4, .int v4), (5, .int v5), (6, .int v6), (7, .int v7)]) (st' := [.int 32, .int z2]) rfl ?_
    refine x_eq e rfl (fun e => ?_) (fun e => ?_)
    · refine wp_p (j := J_Bytes_wordPlace) 1 (pc' := 71) (lv' := [(8, .int z2), (0, .ref v0), (1, .ref v1), (2, .int v2), (3, .int v3), (4, .int v4), (5, .int v5), (6, .int v6), (7, .int v7)]) (st' := [.int v5]) rfl ?_
      refine z_eq e rfl (fun e => ?_) (fun e => ?_)
      · exact wp_lv (lv' := [(0, .ref v0), (1, .ref v1), (2, .int v2), (3, .int v3), (4, .int v4), (7, .int v7)]) rfl ⟨rfl, rfl, rfl, rfl, rfl, rfl, trivial⟩ (x_Bytes_wordPlace_83 e c)
      · refine wp_p (j := J_Bytes_wordPlace) 2 (pc' := 77) (lv' := [(8, .int z2), (0, .ref v0), (1, .ref v1), (2, .int v2), (3, .int v3), (4, .int v4), (5, .int v5), (6, .int v6), (7, .int v7)]) (st' := [.int v3, .int v6]) rfl ?_
        refine x_ne e rfl (fun e => ?_) (fun e => ?_)
        · have e := Option.some.inj e; subst e; exact wp_lv (lv' := [(4, .int v4)]) rfl ⟨rfl, trivial⟩ c
        · exact wp_lv (lv' := [(0, .ref v0), (1, .ref v1), (2, .int v2), (3, .int v3), (4, .int v4), (7, .int v7)]) rfl ⟨rfl, rfl, rfl, rfl, rfl, rfl, trivial⟩ (x_Bytes_wordPlace_83 e c)
    · refine wp_p (j := J_Bytes_wordPlace) 1 (pc' := 38) (lv' := [(8, .int z2), (0, .ref v0), (1, .ref v1), (2, .int v2), (3, .int v3), (4, .int v4), (5, .int v5), (6, .int v6), (7, .int v7)]) (st' := [.int v5]) rfl ?_
      refine z_eq e rfl (fun e => ?_) (fun e => ?_)
      · exact wp_lv (lv' := [(0, .ref v0), (1, .ref v1), (2, .int v2), (3, .int v3), (4, .int v4), (6, .int v6), (7, .int v7)]) rfl ⟨rfl, rfl, rfl, rfl, rfl, rfl, rfl, trivial⟩ (x_Bytes_wordPlace_60 e c)
      · refine wp_p (j := J_Bytes_wordPlace) 2 (pc' := 44) (lv' := [(8, .int z2), (0, .ref v0), (1, .ref v1), (2, .int v2), (3, .int v3), (4, .int v4), (5, .int v5), (6, .int v6), (7, .int v7)]) (st' := [.int v3, .int v6]) rfl ?_
        refine x_ge e rfl (fun e => ?_) (fun e => ?_)
        · refine wp_p (j := J_Bytes_wordPlace) 2 (pc' := 50) (lv' := [(8, .int z2), (0, .ref v0), (1, .ref v1), (2, .int v2), (3, .int v3), (4, .int v4), (5, .int v5), (6, .int v6), (7, .int v7)]) (st' := [.int v6, .ref v1]) rfl ?_
          refine x_aB e rfl (.inl rfl) rfl (fun z3 e => ?_)
          refine wp_p (j := J_Bytes_wordPlace) 1 (pc' := 53) (lv' := [(8, .int z2), (0, .ref v0), (1, .ref v1), (2, .int v2), (3, .int v3), (4, .int v4), (5, .int v5), (6, .int v6), (7, .int v7)]) (st' := [.int z2, .int z3]) rfl ?_
          refine x_ne e rfl (fun e => ?_) (fun e => ?_)
          · refine wp_p (j := J_Bytes_wordPlace) 2 (pc' := 61) (lv' := [(8, .int z2), (0, .ref v0), (1, .ref v1), (2, .int v2), (3, .int v3), (4, .int v4), (5, .int v5), (6, .int v6), (7, .int v7)]) (st' := [.int 1]) rfl ?_
            exact wp_lv (lv' := [(0, .ref v0), (1, .ref v1), (2, .int v2), (3, .int v3), (4, .int v4), (6, .int v6), (7, .int v7)]) rfl ⟨rfl, rfl, rfl, rfl, rfl, rfl, rfl, trivial⟩ (x_Bytes_wordPlace_61 e c)
          · exact wp_lv (lv' := [(0, .ref v0), (1, .ref v1), (2, .int v2), (3, .int v3), (4, .int v4), (6, .int v6), (7, .int v7)]) rfl ⟨rfl, rfl, rfl, rfl, rfl, rfl, rfl, trivial⟩ (x_Bytes_wordPlace_60 e c)
        · exact wp_lv (lv' := [(0, .ref v0), (1, .ref v1), (2, .int v2), (3, .int v3), (4, .int v4), (6, .int v6), (7, .int v7)]) rfl ⟨rfl, rfl, rfl, rfl, rfl, rfl, rfl, trivial⟩ (x_Bytes_wordPlace_60 e c)
  · have e := Option.some.inj e; subst e; exact wp_lv (lv' := [(3, .int v3), (4, .int v4), (5, .int v5), (6, .int v6)]) rfl ⟨rfl, rfl, rfl, rfl, trivial⟩ c
noncomputable def L_Bytes_wordPlace_12 (v0 : Nat) (v1 : Nat) (v2 : Int32) (v3 : Int32) (v4 : Int32) (v5 : Int32) (v6 : Int32) (v7 : Int32) (g : g_S) : Option ((Int32) ⊕ (Int32 × Int32 × Int32)) := it (fun s : Int32 × Int32 × Int32 × Int32 => b_Bytes_wordPlace_12 v0 v1 v2 v3 s.1 s.2.1 s.2.2.1 s.2.2.2 g) (v4, v5, v6, v7)
theorem l_Bytes_wordPlace_12 {L : Nat} {xs : Nat → Int32} {Q : Option Value → ab_H → Prop} {v0 : Nat} {v1 : Nat} {v2 : Int32} {v3 : Int32} {v4 : Int32} {v5 : Int32} {v6 : Int32} {v7 : Int32} {g : g_S} {r : (Int32) ⊕ (Int32 × Int32 × Int32)} (e : L_Bytes_wordPlace_12 v0 v1 v2 v3 v4 v5 v6 v7 g = some r) (c : cL_Bytes_wordPlace_12 L xs Q v0 v1 v2 v3 g (.inr r)) : wp (ab_ext L xs) J_Bytes_wordPlace 12 [(0, .ref v0), (1, .ref v1), (2, .int v2), (3, .int v3), (4, .int v4), (5, .int v5), (6, .int v6), (7, .int v7)] [] (hp g) Q :=
  it_wp (P := fun s : Int32 × Int32 × Int32 × Int32 => wp (ab_ext L xs) J_Bytes_wordPlace 12 [(0, .ref v0), (1, .ref v1), (2, .int v2), (3, .int v3), (4, .int s.1), (5, .int s.2.1), (6, .int s.2.2.1), (7, .int s.2.2.2)] [] (hp g) Q) (E := fun r => cL_Bytes_wordPlace_12 L xs Q v0 v1 v2 v3 g (.inr r)) (fun s out e c => y_Bytes_wordPlace_12 e (by cases out <;> exact c)) e c
theorem L_Bytes_wordPlace_12_eq (v0 : Nat) (v1 : Nat) (v2 : Int32) (v3 : Int32) (v4 : Int32) (v5 : Int32) (v6 : Int32) (v7 : Int32) (g : g_S) : L_Bytes_wordPlace_12 v0 v1 v2 v3 v4 v5 v6 v7 g = itc (b_Bytes_wordPlace_12 v0 v1 v2 v3 v4 v5 v6 v7 g) (fun s => L_Bytes_wordPlace_12 v0 v1 v2 v3 s.1 s.2.1 s.2.2.1 s.2.2.2 g) := it_eq2 (fun s : Int32 × Int32 × Int32 × Int32 => b_Bytes_wordPlace_12 v0 v1 v2 v3 s.1 s.2.1 s.2.2.1 s.2.2.2 g) (v4, v5, v6, v7)
noncomputable def M_Bytes_wordPlace (v0 : Nat) (v1 : Nat) (v2 : Int32) (v3 : Int32) (g : g_S) : Option Int32 :=
  (L_Bytes_wordPlace_12 v0 v1 v2 v3 0 1 v2 0 g).bind <|
    us (fun z3 =>
    some z3)
    (u3 fun z4 z5 z6 =>
    if z5 = 0 then
      some (-1)
    else
      if z6 = v3 then
        some z4
      else
        some (-1))
set_option maxRecDepth 20000 in
theorem d_Bytes_wordPlace {L : Nat} {xs : Nat → Int32} {Q : Option Value → ab_H → Prop} {v0 : Nat} {v1 : Nat} {v2 : Int32} {v3 : Int32} {g : g_S} {out : Int32} (e : M_Bytes_wordPlace v0 v1 v2 v3 g = some out) (c : Q (some (.int out)) (hp g)) : mw (ab_ext L xs) J_Bytes_wordPlace [.ref v0, .ref v1, .int v2, .int v3] (hp g) Q := by
  unfold M_Bytes_wordPlace at e
  refine wp_p (j := J_Bytes_wordPlace) 8 (pc' := 12) (lv' := [(7, .int 0), (6, .int v2), (5, .int 1), (4, .int 0), (0, .ref v0), (1, .ref v1), (2, .int v2), (3, .int v3)]) (st' := []) rfl ?_
  obtain ⟨s1, h2, e⟩ := bd e
  refine wp_lv (lv' := [(0, .ref v0), (1, .ref v1), (2, .int v2), (3, .int v3), (4, .int 0), (5, .int 1), (6, .int v2), (7, .int 0)]) rfl ⟨rfl, rfl, rfl, rfl, rfl, rfl, rfl, rfl, trivial⟩ ?_
  refine l_Bytes_wordPlace_12 h2 ?_
  rcases s1 with z3 | ⟨z4, z5, z6⟩
  · replace e := (us_l e)
    show wp (ab_ext L xs) J_Bytes_wordPlace 80 [(4, .int z3)] [] (hp g) Q
    refine wp_p (j := J_Bytes_wordPlace) 1 (pc' := 82) (lv' := [(4, .int z3)]) (st' := [.int z3]) rfl ?_
    have e := Option.some.inj e; subst e; exact wp_iret (ty := .int) rfl rfl rfl c
  · replace e := (u3_e (us_r e))
    show wp (ab_ext L xs) J_Bytes_wordPlace 98 [(3, .int v3), (4, .int z4), (5, .int z5), (6, .int z6)] [] (hp g) Q
    refine wp_p (j := J_Bytes_wordPlace) 1 (pc' := 100) (lv' := [(3, .int v3), (4, .int z4), (5, .int z5), (6, .int z6)]) (st' := [.int z5]) rfl ?_
    refine z_eq e rfl (fun e => ?_) (fun e => ?_)
    · refine wp_p (j := J_Bytes_wordPlace) 1 (pc' := 115) (lv' := [(3, .int v3), (4, .int z4), (5, .int z5), (6, .int z6)]) (st' := [.int (-1)]) rfl ?_
      have e := Option.some.inj e; subst e; exact wp_iret (ty := .int) rfl rfl rfl c
    · refine wp_p (j := J_Bytes_wordPlace) 2 (pc' := 106) (lv' := [(3, .int v3), (4, .int z4), (5, .int z5), (6, .int z6)]) (st' := [.int v3, .int z6]) rfl ?_
      refine x_ne e rfl (fun e => ?_) (fun e => ?_)
      · refine wp_p (j := J_Bytes_wordPlace) 2 (pc' := 115) (lv' := [(3, .int v3), (4, .int z4), (5, .int z5), (6, .int z6)]) (st' := [.int z4]) rfl ?_
        have e := Option.some.inj e; subst e; exact wp_iret (ty := .int) rfl rfl rfl c
      · refine wp_p (j := J_Bytes_wordPlace) 1 (pc' := 115) (lv' := [(3, .int v3), (4, .int z4), (5, .int z5), (6, .int z6)]) (st' := [.int (-1)]) rfl ?_
        have e := Option.some.inj e; subst e; exact wp_iret (ty := .int) rfl rfl rfl c
noncomputable def M_Net_putStore (v0 : Nat) (v1 : Int64) (v3 : Int64) (g : g_S) : Option g_S :=
  (rQ g 106 v0 7).bind fun z1 =>
  (rI g 106 v0 8).bind fun z2 =>
  (rQ g 106 v0 13).bind fun z3 =>
  (rL g 101 z3 1).bind fun z4 =>
  c2 (M_Net_putRow z1 z2 z4 v1 v3 g) fun z5 g6 =>
  (wI g6 106 v0 8 z5).bind fun g7 =>
  some g7
set_option maxRecDepth 20000 in
theorem d_Net_putStore {L : Nat} {xs : Nat → Int32} {Q : Option Value → ab_H → Prop} {v0 : Nat} {v1 : Int64} {v3 : Int64} {g : g_S} {out : g_S} (e : M_Net_putStore v0 v1 v3 g = some out) (c : Q none (hp out)) : mw (ab_ext L xs) J_Net_putStore [.ref v0, .long v1, .long v3] (hp g) Q := by
  unfold M_Net_putStore at e
  refine wp_p (j := J_Net_putStore) 2 (pc' := 2) (lv' := [(0, .ref v0), (1, .long v1), (3, .long v3)]) (st' := [.ref v0, .ref v0]) rfl ?_
  refine x_gQ e rfl rfl fd_6_7 rfl (fun z1 e => ?_)
  refine wp_p (j := J_Net_putStore) 1 (pc' := 6) (lv' := [(0, .ref v0), (1, .long v1), (3, .long v3)]) (st' := [.ref v0, .ref z1, .ref v0]) rfl ?_
  refine x_gI e rfl rfl fd_6_8 rfl (fun z2 e => ?_)
  refine wp_p (j := J_Net_putStore) 1 (pc' := 10) (lv' := [(0, .ref v0), (1, .long v1), (3, .long v3)]) (st' := [.ref v0, .int z2, .ref z1, .ref v0]) rfl ?_
  refine x_gQ e rfl rfl fd_6_13 rfl (fun z3 e => ?_)
  refine x_gL e rfl rfl fd_1_1 rfl (fun z4 e => ?_)
  refine wp_p (j := J_Net_putStore) 2 (pc' := 18) (lv' := [(0, .ref v0), (1, .long v1), (3, .long v3)]) (st' := [.long v3, .long v1, .long z4, .int z2, .ref z1, .ref v0]) rfl ?_
  refine x_cs2 (As := [.ref z1, .int z2, .long z4, .long v1, .long v3]) (rest := [.ref v0]) Value.int e rfl rfl rfl rfl rfl (fun h => d_Net_putRow h ⟨rfl, rfl⟩) (fun z5 g6 e => ?_)
  refine x_pI e rfl rfl fw_6_8 rfl (fun g7 e => ?_)
  have e := Option.some.inj e; subst e; exact wp_vret rfl rfl c
noncomputable def M_Acts_runPut (v0 : Nat) (v1 : Nat) (v2 : Int32) (v3 : Int32) (g : g_S) : Option (Int32 × g_S) :=
  (M_Acts_blankAt v1 v2 v3 g).bind fun z1 =>
  if z1 = v3 then
    some (0, g)
  else
    (M_Bytes_isName v1 v2 z1 g).bind fun z2 =>
    if z2 = 0 then
      some (0, g)
    else
      (M_Bytes_isName v1 (z1 + 1) v3 g).bind fun z3 =>
      if z3 = 0 then
        some (0, g)
      else
        (rQ g 100 v0 1).bind fun z4 =>
        (M_Bytes_pack v1 v2 z1 g).bind fun z5 =>
        (M_Bytes_pack v1 (z1 + 1) v3 g).bind fun z6 =>
        (vc g 106 z4 (M_Net_putStore z4 z5 z6 g)).bind fun g7 =>
        some (1, g7)
set_option maxRecDepth 20000 in
theorem d_Acts_runPut {L : Nat} {xs : Nat → Int32} {Q : Option Value → ab_H → Prop} {v0 : Nat} {v1 : Nat} {v2 : Int32} {v3 : Int32} {g : g_S} {out : Int32 × g_S} (e : M_Acts_runPut v0 v1 v2 v3 g = some out) (c : Q (some (.int out.1)) (hp out.2)) : mw (ab_ext L xs) J_Acts_runPut [.ref v0, .ref v1, .int v2, .int v3] (hp g) Q := by
  unfold M_Acts_runPut at e
  refine wp_p (j := J_Acts_runPut) 3 (pc' := 3) (lv' := [(0, .ref v0), (1, .ref v1), (2, .int v2), (3, .int v3)]) (st' := [.int v3, .int v2, .ref v1]) rfl ?_
  refine x_cs1 (As := [.ref v1, .int v2, .int v3]) (rest := []) Value.int e rfl rfl rfl rfl rfl (fun h => d_Acts_blankAt h ⟨rfl, rfl⟩) (fun z1 e => ?_)
  refine wp_p (j := J_Acts_runPut) 3 (pc' := 11) (lv' := [(4, .int z1), (0, .ref v0), (1, .ref v1), (2, .int v2), (3, .int v3)]) (st' := [.int v3, .int z1]) rfl ?_
  refine x_eq e rfl (fun e => ?_) (fun e => ?_)
  · refine wp_p (j := J_Acts_runPut) 1 (pc' := 37) (lv' := [(4, .int z1), (0, .ref v0), (1, .ref v1), (2, .int v2), (3, .int v3)]) (st' := [.int 0]) rfl ?_
    have e := Option.some.inj e; subst e; exact wp_iret (ty := .boolean) rfl rfl (by decide) c
  · refine wp_p (j := J_Acts_runPut) 3 (pc' := 18) (lv' := [(4, .int z1), (0, .ref v0), (1, .ref v1), (2, .int v2), (3, .int v3)]) (st' := [.int z1, .int v2, .ref v1]) rfl ?_
    refine x_cs1 (As := [.ref v1, .int v2, .int z1]) (rest := []) Value.int e rfl rfl rfl rfl rfl (fun h => d_Bytes_isName h ⟨rfl, rfl⟩) (fun z2 e => ?_)
    refine z_eq e rfl (fun e => ?_) (fun e => ?_)
    · refine wp_p (j := J_Acts_runPut) 1 (pc' := 37) (lv' := [(4, .int z1), (0, .ref v0), (1, .ref v1), (2, .int v2), (3, .int v3)]) (st' := [.int 0]) rfl ?_
      have e := Option.some.inj e; subst e; exact wp_iret (ty := .boolean) rfl rfl (by decide) c
    · refine wp_p (j := J_Acts_runPut) 5 (pc' := 30) (lv' := [(4, .int z1), (0, .ref v0), (1, .ref v1), (2, .int v2), (3, .int v3)]) (st' := [.int v3, .int (z1 + 1), .ref v1]) rfl ?_
      refine x_cs1 (As := [.ref v1, .int (z1 + 1), .int v3]) (rest := []) Value.int e rfl rfl rfl rfl rfl (fun h => d_Bytes_isName h ⟨rfl, rfl⟩) (fun z3 e => ?_)
      refine z_ne e rfl (fun e => ?_) (fun e => ?_)
      · refine wp_p (j := J_Acts_runPut) 1 (pc' := 37) (lv' := [(4, .int z1), (0, .ref v0), (1, .ref v1), (2, .int v2), (3, .int v3)]) (st' := [.int 0]) rfl ?_
        have e := Option.some.inj e; subst e; exact wp_iret (ty := .boolean) rfl rfl (by decide) c
      · refine wp_p (j := J_Acts_runPut) 1 (pc' := 39) (lv' := [(4, .int z1), (0, .ref v0), (1, .ref v1), (2, .int v2), (3, .int v3)]) (st' := [.ref v0]) rfl ?_
        refine x_gQ e rfl rfl fd_0_1 rfl (fun z4 e => ?_)
        refine wp_p (j := J_Acts_runPut) 3 (pc' := 46) (lv' := [(4, .int z1), (0, .ref v0), (1, .ref v1), (2, .int v2), (3, .int v3)]) (st' := [.int z1, .int v2, .ref v1, .ref z4]) rfl ?_
        refine x_cs1 (As := [.ref v1, .int v2, .int z1]) (rest := [.ref z4]) Value.long e rfl rfl rfl rfl rfl (fun h => d_Bytes_pack h ⟨rfl, rfl⟩) (fun z5 e => ?_)
        refine wp_p (j := J_Acts_runPut) 5 (pc' := 55) (lv' := [(4, .int z1), (0, .ref v0), (1, .ref v1), (2, .int v2), (3, .int v3)]) (st' := [.int v3, .int (z1 + 1), .ref v1, .long z5, .ref z4]) rfl ?_
        refine x_cs1 (As := [.ref v1, .int (z1 + 1), .int v3]) (rest := [.long z5, .ref z4]) Value.long e rfl rfl rfl rfl rfl (fun h => d_Bytes_pack h ⟨rfl, rfl⟩) (fun z6 e => ?_)
        refine x_cv0 (As := [.long z5, .long z6]) (rest := []) e rfl rfl rfl rfl rfl rfl (fun h => d_Net_putStore h ⟨rfl, rfl⟩) (fun g7 e => ?_)
        refine wp_p (j := J_Acts_runPut) 1 (pc' := 62) (lv' := [(4, .int z1), (0, .ref v0), (1, .ref v1), (2, .int v2), (3, .int v3)]) (st' := [.int 1]) rfl ?_
        have e := Option.some.inj e; subst e; exact wp_iret (ty := .boolean) rfl rfl (by decide) c
noncomputable def M_Acts_runWait (v0 : Nat) (v1 : Nat) (v2 : Int32) (v3 : Int32) (g : g_S) : Option (Int32 × g_S) :=
  (M_Acts_blankAt v1 v2 v3 g).bind fun z1 =>
  (M_Bytes_number v1 v2 z1 g).bind fun z2 =>
  if z1 = v3 then
    some (0, g)
  else
    if z2 = (-1) then
      some (0, g)
    else
      (rI g 100 v0 5).bind fun z3 =>
      if z3 < 20 then
        (rQ g 100 v0 3).bind fun z4 =>
        (rI g 100 v0 5).bind fun z5 =>
        (rQ g 100 v0 1).bind fun z6 =>
        (rI g 106 z6 12).bind fun z7 =>
        (sL g z4 (2 * z5) (Int32.toInt64 (z7 + z2))).bind fun g8 =>
        (rQ g8 100 v0 3).bind fun z9 =>
        (rI g8 100 v0 5).bind fun z10 =>
        (rL g8 100 v0 13).bind fun z11 =>
        (sL g8 z9 ((2 * z10) + 1) z11).bind fun g12 =>
        (rQ g12 100 v0 4).bind fun z13 =>
        (rI g12 100 v0 5).bind fun z14 =>
        (aQ g12 4 z13 z14).bind fun z15 =>
        (vc g12 104 z15 (M_Bytes_clear z15 g12)).bind fun g16 =>
        (rQ g16 100 v0 4).bind fun z17 =>
        (rI g16 100 v0 5).bind fun z18 =>
        (aQ g16 4 z17 z18).bind fun z19 =>
        (vc g16 104 z19 (M_Bytes_addAll z19 v1 (z1 + 1) v3 g16)).bind fun g20 =>
        (rI g20 100 v0 5).bind fun z21 =>
        (wI g20 100 v0 5 (z21 + 1)).bind fun g22 =>
        some (1, g22)
      else
        some (1, g)
set_option maxRecDepth 20000 in
theorem d_Acts_runWait {L : Nat} {xs : Nat → Int32} {Q : Option Value → ab_H → Prop} {v0 : Nat} {v1 : Nat} {v2 : Int32} {v3 : Int32} {g : g_S} {out : Int32 × g_S} (e : M_Acts_runWait v0 v1 v2 v3 g = some out) (c : Q (some (.int out.1)) (hp out.2)) : mw (ab_ext L xs) J_Acts_runWait [.ref v0, .ref v1, .int v2, .int v3] (hp g) Q := by
  unfold M_Acts_runWait at e
  refine wp_p (j := J_Acts_runWait) 3 (pc' := 3) (lv' := [(0, .ref v0), (1, .ref v1), (2, .int v2), (3, .int v3)]) (st' := [.int v3, .int v2, .ref v1]) rfl ?_
  refine x_cs1 (As := [.ref v1, .int v2, .int v3]) (rest := []) Value.int e rfl rfl rfl rfl rfl (fun h => d_Acts_blankAt h ⟨rfl, rfl⟩) (fun z1 e => ?_)
  refine wp_p (j := J_Acts_runWait) 4 (pc' := 12) (lv' := [(4, .int z1), (0, .ref v0), (1, .ref v1), (2, .int v2), (3, .int v3)]) (st' := [.int z1, .int v2, .ref v1]) rfl ?_
  refine x_cs1 (As := [.ref v1, .int v2, .int z1]) (rest := []) Value.int e rfl rfl rfl rfl rfl (fun h => d_Bytes_number h ⟨rfl, rfl⟩) (fun z2 e => ?_)
  refine wp_p (j := J_Acts_runWait) 3 (pc' := 20) (lv' := [(5, .int z2), (4, .int z1), (0, .ref v0), (1, .ref v1), (2, .int v2), (3, .int v3)]) (st' := [.int v3, .int z1]) rfl ?_
  refine x_eq e rfl (fun e => ?_) (fun e => ?_)
  · refine wp_p (j := J_Acts_runWait) 1 (pc' := 30) (lv' := [(5, .int z2), (4, .int z1), (0, .ref v0), (1, .ref v1), (2, .int v2), (3, .int v3)]) (st' := [.int 0]) rfl ?_
    have e := Option.some.inj e; subst e; exact wp_iret (ty := .boolean) rfl rfl (by decide) c
  · refine wp_p (j := J_Acts_runWait) 2 (pc' := 26) (lv' := [(5, .int z2), (4, .int z1), (0, .ref v0), (1, .ref v1), (2, .int v2), (3, .int v3)]) (st' := [.int (-1), .int z2]) rfl ?_
    refine x_ne e rfl (fun e => ?_) (fun e => ?_)
    · refine wp_p (j := J_Acts_runWait) 1 (pc' := 30) (lv' := [(5, .int z2), (4, .int z1), (0, .ref v0), (1, .ref v1), (2, .int v2), (3, .int v3)]) (st' := [.int 0]) rfl ?_
      have e := Option.some.inj e; subst e; exact wp_iret (ty := .boolean) rfl rfl (by decide) c
    · refine wp_p (j := J_Acts_runWait) 1 (pc' := 32) (lv' := [(5, .int z2), (4, .int z1), (0, .ref v0), (1, .ref v1), (2, .int v2), (3, .int v3)]) (st' := [.ref v0]) rfl ?_
      refine x_gI e rfl rfl fd_0_5 rfl (fun z3 e => ?_)
      refine wp_p (j := J_Acts_runWait) 1 (pc' := 37) (lv' := [(5, .int z2), (4, .int z1), (0, .ref v0), (1, .ref v1), (2, .int v2), (3, .int v3)]) (st' := [.int 20, .int z3]) rfl ?_
      refine x_ge e rfl (fun e => ?_) (fun e => ?_)
      · refine wp_p (j := J_Acts_runWait) 1 (pc' := 41) (lv' := [(5, .int z2), (4, .int z1), (0, .ref v0), (1, .ref v1), (2, .int v2), (3, .int v3)]) (st' := [.ref v0]) rfl ?_
        refine x_gQ e rfl rfl fd_0_3 rfl (fun z4 e => ?_)
        refine wp_p (j := J_Acts_runWait) 2 (pc' := 46) (lv' := [(5, .int z2), (4, .int z1), (0, .ref v0), (1, .ref v1), (2, .int v2), (3, .int v3)]) (st' := [.ref v0, .int 2, .ref z4]) rfl ?_
        refine x_gI e rfl rfl fd_0_5 rfl (fun z5 e => ?_)
        refine wp_p (j := J_Acts_runWait) 2 (pc' := 51) (lv' := [(5, .int z2), (4, .int z1), (0, .ref v0), (1, .ref v1), (2, .int v2), (3, .int v3)]) (st' := [.ref v0, .int (2 * z5), .ref z4]) rfl ?_
        refine x_gQ e rfl rfl fd_0_1 rfl (fun z6 e => ?_)
        refine x_gI e rfl rfl fd_6_12 rfl (fun z7 e => ?_)
        refine wp_p (j := J_Acts_runWait) 3 (pc' := 61) (lv' := [(5, .int z2), (4, .int z1), (0, .ref v0), (1, .ref v1), (2, .int v2), (3, .int v3)]) (st' := [.long (Int32.toInt64 (z7 + z2)), .int (2 * z5), .ref z4]) rfl ?_
        refine x_sL e rfl rfl (fun g8 e => ?_)
        refine wp_p (j := J_Acts_runWait) 1 (pc' := 63) (lv' := [(5, .int z2), (4, .int z1), (0, .ref v0), (1, .ref v1), (2, .int v2), (3, .int v3)]) (st' := [.ref v0]) rfl ?_
        refine x_gQ e rfl rfl fd_0_3 rfl (fun z9 e => ?_)
        refine wp_p (j := J_Acts_runWait) 2 (pc' := 68) (lv' := [(5, .int z2), (4, .int z1), (0, .ref v0), (1, .ref v1), (2, .int v2), (3, .int v3)]) (st' := [.ref v0, .int 2, .ref z9]) rfl ?_
        refine x_gI e rfl rfl fd_0_5 rfl (fun z10 e => ?_)
        refine wp_p (j := J_Acts_runWait) 4 (pc' := 75) (lv' := [(5, .int z2), (4, .int z1), (0, .ref v0), (1, .ref v1), (2, .int v2), (3, .int v3)]) (st' := [.ref v0, .int ((2 * z10) + 1), .ref z9]) rfl ?_
        refine x_gL e rfl rfl fd_0_13 rfl (fun z11 e => ?_)
        refine x_sL e rfl rfl (fun g12 e => ?_)
        refine wp_p (j := J_Acts_runWait) 1 (pc' := 80) (lv' := [(5, .int z2), (4, .int z1), (0, .ref v0), (1, .ref v1), (2, .int v2), (3, .int v3)]) (st' := [.ref v0]) rfl ?_
        refine x_gQ e rfl rfl fd_0_4 rfl (fun z13 e => ?_)
        refine wp_p (j := J_Acts_runWait) 1 (pc' := 84) (lv' := [(5, .int z2), (4, .int z1), (0, .ref v0), (1, .ref v1), (2, .int v2), (3, .int v3)]) (st' := [.ref v0, .ref z13]) rfl ?_
        refine x_gI e rfl rfl fd_0_5 rfl (fun z14 e => ?_)
        refine x_aQ e rfl rfl rfl (fun z15 e => ?_)
        refine x_cv0 (As := []) (rest := []) e rfl rfl rfl rfl rfl rfl (fun h => d_Bytes_clear h ⟨rfl, rfl⟩) (fun g16 e => ?_)
        refine wp_p (j := J_Acts_runWait) 1 (pc' := 92) (lv' := [(5, .int z2), (4, .int z1), (0, .ref v0), (1, .ref v1), (2, .int v2), (3, .int v3)]) (st' := [.ref v0]) rfl ?_
        refine x_gQ e rfl rfl fd_0_4 rfl (fun z17 e => ?_)
        refine wp_p (j := J_Acts_runWait) 1 (pc' := 96) (lv' := [(5, .int z2), (4, .int z1), (0, .ref v0), (1, .ref v1), (2, .int v2), (3, .int v3)]) (st' := [.ref v0, .ref z17]) rfl ?_
        refine x_gI e rfl rfl fd_0_5 rfl (fun z18 e => ?_)
        refine x_aQ e rfl rfl rfl (fun z19 e => ?_)
        refine wp_p (j := J_Acts_runWait) 5 (pc' := 106) (lv' := [(5, .int z2), (4, .int z1), (0, .ref v0), (1, .ref v1), (2, .int v2), (3, .int v3)]) (st' := [.int v3, .int (z1 + 1), .ref v1, .ref z19]) rfl ?_
        refine x_cv0 (As := [.ref v1, .int (z1 + 1), .int v3]) (rest := []) e rfl rfl rfl rfl rfl rfl (fun h => d_Bytes_addAll h ⟨rfl, rfl⟩) (fun g20 e => ?_)
        refine wp_p (j := J_Acts_runWait) 2 (pc' := 111) (lv' := [(5, .int z2), (4, .int z1), (0, .ref v0), (1, .ref v1), (2, .int v2), (3, .int v3)]) (st' := [.ref v0, .ref v0]) rfl ?_
        refine x_gI e rfl rfl fd_0_5 rfl (fun z21 e => ?_)
        refine wp_p (j := J_Acts_runWait) 2 (pc' := 116) (lv' := [(5, .int z2), (4, .int z1), (0, .ref v0), (1, .ref v1), (2, .int v2), (3, .int v3)]) (st' := [.int (z21 + 1), .ref v0]) rfl ?_
        refine x_pI e rfl rfl fw_0_5 rfl (fun g22 e => ?_)
        refine wp_p (j := J_Acts_runWait) 1 (pc' := 120) (lv' := [(5, .int z2), (4, .int z1), (0, .ref v0), (1, .ref v1), (2, .int v2), (3, .int v3)]) (st' := [.int 1]) rfl ?_
        have e := Option.some.inj e; subst e; exact wp_iret (ty := .boolean) rfl rfl (by decide) c
      · refine wp_p (j := J_Acts_runWait) 1 (pc' := 120) (lv' := [(5, .int z2), (4, .int z1), (0, .ref v0), (1, .ref v1), (2, .int v2), (3, .int v3)]) (st' := [.int 1]) rfl ?_
        have e := Option.some.inj e; subst e; exact wp_iret (ty := .boolean) rfl rfl (by decide) c
noncomputable def k_Tree_alive_48 (v3 : Int32) (w0 : Int32) (g : g_S) : Option Int32 :=
  if w0 = 0 then
    some (-1)
  else
    some v3
set_option maxRecDepth 20000 in
theorem x_Tree_alive_48 {L : Nat} {xs : Nat → Int32} {Q : Option Value → ab_H → Prop} {v3 : Int32} {w0 : Int32} {g : g_S} {out : Int32} (e : k_Tree_alive_48 v3 w0 g = some out) (c : Q (some (.int out)) (hp g)) : wp (ab_ext L xs) J_Tree_alive 48 [(3, .int v3)] [.int w0] (hp g) Q := by
  unfold k_Tree_alive_48 at e
  refine wp_p (j := J_Tree_alive) 2 (pc' := 52) (lv' := [(4, .int w0), (3, .int v3)]) (st' := [.int w0]) rfl ?_
  refine z_eq e rfl (fun e => ?_) (fun e => ?_)
  · refine wp_p (j := J_Tree_alive) 1 (pc' := 60) (lv' := [(4, .int w0), (3, .int v3)]) (st' := [.int (-1)]) rfl ?_
    have e := Option.some.inj e; subst e; exact wp_iret (ty := .int) rfl rfl rfl c
  · refine wp_p (j := J_Tree_alive) 2 (pc' := 60) (lv' := [(4, .int w0), (3, .int v3)]) (st' := [.int v3]) rfl ?_
    have e := Option.some.inj e; subst e; exact wp_iret (ty := .int) rfl rfl rfl c
noncomputable def k_Tree_alive_47 (v3 : Int32) (g : g_S) : Option Int32 :=
  k_Tree_alive_48 v3 0 g
set_option maxRecDepth 20000 in
theorem x_Tree_alive_47 {L : Nat} {xs : Nat → Int32} {Q : Option Value → ab_H → Prop} {v3 : Int32} {g : g_S} {out : Int32} (e : k_Tree_alive_47 v3 g = some out) (c : Q (some (.int out)) (hp g)) : wp (ab_ext L xs) J_Tree_alive 47 [(3, .int v3)] [] (hp g) Q := by
  unfold k_Tree_alive_47 at e
  refine wp_p (j := J_Tree_alive) 1 (pc' := 48) (lv' := [(3, .int v3)]) (st' := [.int 0]) rfl ?_
  exact wp_lv (lv' := [(3, .int v3)]) rfl ⟨rfl, trivial⟩ (x_Tree_alive_48 e c)
noncomputable def M_Tree_alive (v0 : Nat) (v1 : Int64) (g : g_S) : Option Int32 :=
  if (Int64.toInt32 (v1 &&& 127)) < 120 then
    (rQ g 110 v0 0).bind fun z1 =>
    (aQ g 5 z1 (Int64.toInt32 (v1 &&& 127))).bind fun z2 =>
    (rI g 107 z2 0).bind fun z3 =>
    if z3 = (-1) then
      k_Tree_alive_47 (Int64.toInt32 (v1 &&& 127)) g
    else
      (rQ g 110 v0 0).bind fun z4 =>
      (aQ g 5 z4 (Int64.toInt32 (v1 &&& 127))).bind fun z5 =>
      (rL g 107 z5 10).bind fun z6 =>
      if (lg_cmp z6 (v1 >>> ((7 : Int32).toInt64 &&& 63))) = 0 then
        k_Tree_alive_48 (Int64.toInt32 (v1 &&& 127)) 1 g
      else
        k_Tree_alive_47 (Int64.toInt32 (v1 &&& 127)) g
  else
    k_Tree_alive_47 (Int64.toInt32 (v1 &&& 127)) g
set_option maxRecDepth 20000 in
theorem d_Tree_alive {L : Nat} {xs : Nat → Int32} {Q : Option Value → ab_H → Prop} {v0 : Nat} {v1 : Int64} {g : g_S} {out : Int32} (e : M_Tree_alive v0 v1 g = some out) (c : Q (some (.int out)) (hp g)) : mw (ab_ext L xs) J_Tree_alive [.ref v0, .long v1] (hp g) Q := by
  unfold M_Tree_alive at e
  refine wp_p (j := J_Tree_alive) 1 (pc' := 1) (lv' := [(0, .ref v0), (1, .long v1)]) (st' := [.long v1]) rfl ?_
  refine x_l2 (xl := 127) rfl rfl rfl ?_
  refine wp_p (j := J_Tree_alive) 5 (pc' := 10) (lv' := [(3, .int (Int64.toInt32 (v1 &&& 127))), (0, .ref v0), (1, .long v1)]) (st' := [.int 120, .int (Int64.toInt32 (v1 &&& 127))]) rfl ?_
  refine x_ge e rfl (fun e => ?_) (fun e => ?_)
  · refine wp_p (j := J_Tree_alive) 1 (pc' := 14) (lv' := [(3, .int (Int64.toInt32 (v1 &&& 127))), (0, .ref v0), (1, .long v1)]) (st' := [.ref v0]) rfl ?_
    refine x_gQ e rfl rfl fd_10_0 rfl (fun z1 e => ?_)
    refine wp_p (j := J_Tree_alive) 1 (pc' := 18) (lv' := [(3, .int (Int64.toInt32 (v1 &&& 127))), (0, .ref v0), (1, .long v1)]) (st' := [.int (Int64.toInt32 (v1 &&& 127)), .ref z1]) rfl ?_
    refine x_aQ e rfl rfl rfl (fun z2 e => ?_)
    refine x_gI e rfl rfl fd_7_0 rfl (fun z3 e => ?_)
    refine wp_p (j := J_Tree_alive) 1 (pc' := 23) (lv' := [(3, .int (Int64.toInt32 (v1 &&& 127))), (0, .ref v0), (1, .long v1)]) (st' := [.int (-1), .int z3]) rfl ?_
    refine x_eq e rfl (fun e => ?_) (fun e => ?_)
    · exact wp_lv (lv' := [(3, .int (Int64.toInt32 (v1 &&& 127)))]) rfl ⟨rfl, trivial⟩ (x_Tree_alive_47 e c)
    · refine wp_p (j := J_Tree_alive) 1 (pc' := 27) (lv' := [(3, .int (Int64.toInt32 (v1 &&& 127))), (0, .ref v0), (1, .long v1)]) (st' := [.ref v0]) rfl ?_
      refine x_gQ e rfl rfl fd_10_0 rfl (fun z4 e => ?_)
      refine wp_p (j := J_Tree_alive) 1 (pc' := 31) (lv' := [(3, .int (Int64.toInt32 (v1 &&& 127))), (0, .ref v0), (1, .long v1)]) (st' := [.int (Int64.toInt32 (v1 &&& 127)), .ref z4]) rfl ?_
      refine x_aQ e rfl rfl rfl (fun z5 e => ?_)
      refine x_gL e rfl rfl fd_7_10 rfl (fun z6 e => ?_)
      refine wp_p (j := J_Tree_alive) 4 (pc' := 40) (lv' := [(3, .int (Int64.toInt32 (v1 &&& 127))), (0, .ref v0), (1, .long v1)]) (st' := [.int (lg_cmp z6 (v1 >>> ((7 : Int32).toInt64 &&& 63)))]) rfl ?_
      refine z_ne e rfl (fun e => ?_) (fun e => ?_)
      · refine wp_p (j := J_Tree_alive) 2 (pc' := 48) (lv' := [(3, .int (Int64.toInt32 (v1 &&& 127))), (0, .ref v0), (1, .long v1)]) (st' := [.int 1]) rfl ?_
        exact wp_lv (lv' := [(3, .int (Int64.toInt32 (v1 &&& 127)))]) rfl ⟨rfl, trivial⟩ (x_Tree_alive_48 e c)
      · exact wp_lv (lv' := [(3, .int (Int64.toInt32 (v1 &&& 127)))]) rfl ⟨rfl, trivial⟩ (x_Tree_alive_47 e c)
  · exact wp_lv (lv' := [(3, .int (Int64.toInt32 (v1 &&& 127)))]) rfl ⟨rfl, trivial⟩ (x_Tree_alive_47 e c)
def cL_Bytes_packed_4 (L : Nat) (xs : Nat → Int32) (Q : Option Value → ab_H → Prop) (v0 : Nat) (g : g_S) (out : (Int64 × Int32) ⊕ (Int64)) : Prop := match out with
  | .inl s => wp (ab_ext L xs) J_Bytes_packed 4 [(0, .ref v0), (1, .long s.1), (3, .int s.2)] [] (hp g) Q
  | .inr s => wp (ab_ext L xs) J_Bytes_packed 40 [(1, .long s)] [] (hp g) Q
noncomputable def b_Bytes_packed_4 (v0 : Nat) (v1 : Int64) (v3 : Int32) (g : g_S) : Option ((Int64 × Int32) ⊕ (Int64)) :=
  (rI g 104 v0 2).bind fun z1 =>
  if v3 < z1 then
    (rI g 104 v0 2).bind fun z2 =>
    if 8 < z2 then
      some (.inr v1)
    else
      (rQ g 104 v0 1).bind fun z3 =>
      (aI g 1 z3 v3).bind fun z4 =>
      some (.inl ((v1 <<< ((8 : Int32).toInt64 &&& 63)) ||| (Int32.toInt64 z4), v3 + 1))
  else
    some (.inr v1)
set_option maxRecDepth 20000 in
theorem y_Bytes_packed_4 {L : Nat} {xs : Nat → Int32} {Q : Option Value → ab_H → Prop} {v0 : Nat} {v1 : Int64} {v3 : Int32} {g : g_S} {out : (Int64 × Int32) ⊕ (Int64)} (e : b_Bytes_packed_4 v0 v1 v3 g = some out) (c : cL_Bytes_packed_4 L xs Q v0 g out) : wp (ab_ext L xs) J_Bytes_packed 4 [(0, .ref v0), (1, .long v1), (3, .int v3)] [] (hp g) Q := by
  unfold b_Bytes_packed_4 at e
  refine wp_p (j := J_Bytes_packed) 2 (pc' := 6) (lv' := [(0, .ref v0), (1, .long v1), (3, .int v3)]) (st' := [.ref v0, .int v3]) rfl ?_
  refine x_gI e rfl rfl fd_4_2 rfl (fun z1 e => ?_)
  refine x_ge e rfl (fun e => ?_) (fun e => ?_)
  · refine wp_p (j := J_Bytes_packed) 1 (pc' := 13) (lv' := [(0, .ref v0), (1, .long v1), (3, .int v3)]) (st' := [.ref v0]) rfl ?_
    refine x_gI e rfl rfl fd_4_2 rfl (fun z2 e => ?_)
    refine wp_p (j := J_Bytes_packed) 1 (pc' := 18) (lv' := [(0, .ref v0), (1, .long v1), (3, .int v3)]) (st' := [.int 8, .int z2]) rfl ?_
    refine x_gt e rfl (fun e => ?_) (fun e => ?_)
    · have e := Option.some.inj e; subst e; exact wp_lv (lv' := [(1, .long v1)]) rfl ⟨rfl, trivial⟩ c
    · refine wp_p (j := J_Bytes_packed) 4 (pc' := 26) (lv' := [(0, .ref v0), (1, .long v1), (3, .int v3)]) (st' := [.ref v0, .long (v1 <<< ((8 : Int32).toInt64 &&& 63))]) rfl ?_
      refine x_gQ e rfl rfl fd_4_1 rfl (fun z3 e => ?_)
      refine wp_p (j := J_Bytes_packed) 1 (pc' := 30) (lv' := [(0, .ref v0), (1, .long v1), (3, .int v3)]) (st' := [.int v3, .ref z3, .long (v1 <<< ((8 : Int32).toInt64 &&& 63))]) rfl ?_
      refine x_aB e rfl (.inl rfl) rfl (fun z4 e => ?_)
      refine wp_p (j := J_Bytes_packed) 5 (pc' := 4) (lv' := [(3, .int (v3 + 1)), (1, .long ((v1 <<< ((8 : Int32).toInt64 &&& 63)) ||| (Int32.toInt64 z4))), (0, .ref v0)]) (st' := []) rfl ?_
      have e := Option.some.inj e; subst e; exact wp_lv (lv' := [(0, .ref v0), (1, .long ((v1 <<< ((8 : Int32).toInt64 &&& 63)) ||| (Int32.toInt64 z4))), (3, .int (v3 + 1))]) rfl ⟨rfl, rfl, rfl, trivial⟩ c
  · have e := Option.some.inj e; subst e; exact wp_lv (lv' := [(1, .long v1)]) rfl ⟨rfl, trivial⟩ c
noncomputable def L_Bytes_packed_4 (v0 : Nat) (v1 : Int64) (v3 : Int32) (g : g_S) : Option (Int64) := it (fun s : Int64 × Int32 => b_Bytes_packed_4 v0 s.1 s.2 g) (v1, v3)
theorem l_Bytes_packed_4 {L : Nat} {xs : Nat → Int32} {Q : Option Value → ab_H → Prop} {v0 : Nat} {v1 : Int64} {v3 : Int32} {g : g_S} {r : Int64} (e : L_Bytes_packed_4 v0 v1 v3 g = some r) (c : cL_Bytes_packed_4 L xs Q v0 g (.inr r)) : wp (ab_ext L xs) J_Bytes_packed 4 [(0, .ref v0), (1, .long v1), (3, .int v3)] [] (hp g) Q :=
  it_wp (P := fun s : Int64 × Int32 => wp (ab_ext L xs) J_Bytes_packed 4 [(0, .ref v0), (1, .long s.1), (3, .int s.2)] [] (hp g) Q) (E := fun r => cL_Bytes_packed_4 L xs Q v0 g (.inr r)) (fun s out e c => y_Bytes_packed_4 e (by cases out <;> exact c)) e c
theorem L_Bytes_packed_4_eq (v0 : Nat) (v1 : Int64) (v3 : Int32) (g : g_S) : L_Bytes_packed_4 v0 v1 v3 g = itc (b_Bytes_packed_4 v0 v1 v3 g) (fun s => L_Bytes_packed_4 v0 s.1 s.2 g) := it_eq2 (fun s : Int64 × Int32 => b_Bytes_packed_4 v0 s.1 s.2 g) (v1, v3)
noncomputable def M_Bytes_packed (v0 : Nat) (g : g_S) : Option Int64 :=
  (L_Bytes_packed_4 v0 0 0 g).bind <| fun z3 =>
  some z3
set_option maxRecDepth 20000 in
theorem d_Bytes_packed {L : Nat} {xs : Nat → Int32} {Q : Option Value → ab_H → Prop} {v0 : Nat} {g : g_S} {out : Int64} (e : M_Bytes_packed v0 g = some out) (c : Q (some (.long out)) (hp g)) : mw (ab_ext L xs) J_Bytes_packed [.ref v0] (hp g) Q := by
  unfold M_Bytes_packed at e
  refine wp_p (j := J_Bytes_packed) 4 (pc' := 4) (lv' := [(3, .int 0), (1, .long 0), (0, .ref v0)]) (st' := []) rfl ?_
  obtain ⟨z3, h2, e⟩ := bd e
  refine wp_lv (lv' := [(0, .ref v0), (1, .long 0), (3, .int 0)]) rfl ⟨rfl, rfl, rfl, trivial⟩ ?_
  refine l_Bytes_packed_4 h2 ?_
  show wp (ab_ext L xs) J_Bytes_packed 40 [(1, .long z3)] [] (hp g) Q
  refine wp_p (j := J_Bytes_packed) 1 (pc' := 41) (lv' := [(1, .long z3)]) (st' := [.long z3]) rfl ?_
  have e := Option.some.inj e; subst e; exact wp_lret rfl rfl c
