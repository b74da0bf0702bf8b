/-! THE EVALUATOR. A method: its name, code, number of locals, answer's type, room for frames and locals below it, its class's number. -/
abbrev ab_M : Type := MethodName × ByteArray × Nat × Option FieldType × Nat × Nat × Nat
def ab_r (rt : Option FieldType) (i : Instr) (st : List Value) : Option (Option Value) := match i with
  | .ireturn => (match st, rt with
    | [.int v], some ty => if narrow ty (.int v) = .int v then some (some (.int v)) else none
    | _, _ => none)
  | .lreturn => (match st, rt with
    | [.long v], some .long => some (some (.long v))
    | _, _ => none)
  | .areturn => (match st, rt with
    | [.ref a], some (.object _) => some (some (.ref a))
    | [.null], some (.object _) => some (some .null)
    | [.ref a], some (.array _) => some (some (.ref a))
    | [.null], some (.array _) => some (some .null)
    | _, _ => none)
  | .return_ => (match st, rt with
    | [], none => some none
    | _, _ => none)
  | _ => none
def ab_cc (M : ab_M) (vs r : List Value) : Option (List Value × List Value) := if (lg_sl vs).length ≤ M.2.2.1 ∧ (r.map fun v => v.category).sum ≤ 8 then some (vs, r) else none
/-- a call: the arguments, and what stays on the stack -/
def ab_c (mt : Nat → ab_M) (i : Instr) (a b c : Nat) (st : List Value) (h : ab_H) : Option (List Value × List Value) := if c ≤ 1 ∧ b ≤ st.length then (match i with
  | .invokestatic _ => ab_cc (mt a) (st.take b).reverse (st.drop b)
  | .invokevirtual _ => (match st.drop b with
    | .ref q :: r => (match ab_ob h q (mt a).2.2.2.2.2.2 with
      | some _ => ab_cc (mt a) (.ref q :: (st.take b).reverse) r
      | none => none)
    | _ => none)
  | .invokespecial _ => (match st.drop b with
    | .ref q :: r => ab_cc (mt a) (.ref q :: (st.take b).reverse) r
    | _ => none)
  | _ => none) else none
abbrev ab_R : Type := Nat → Nat → ab_L → List Value → ab_H → Option (Option Value × ab_H)
/-- one instruction, and what comes behind it (go) -/
def ab_st (dc : Nat → Nat → Option ab_I) (mt : Nat → ab_M) (ext : Nat → Option (Nat × (Nat → Int32))) (sbt : Nat → Option (List Int32)) (go : ab_R) (j pc : Nat) (lv : ab_L) (st : List Value) (h : ab_H) : Option (Option Value × ab_H) := match dc j pc with
  | none => none
  | some (i, a, b, c) => match ab_s (mt j).2.2.1 i lv st with
    | some (lv', st') => go j (pc + ab_len i) lv' st' h
    | none => match ab_b i a pc st with
      | some (pc', st') => go j pc' lv st' h
      | none => match ab_h ext sbt i a b c st h with
        | some (st', h') => if (st'.map fun v => v.category).sum ≤ 9 then go j (pc + ab_len i) lv st' h' else none
        | none => match ab_r (mt j).2.2.2.1 i st with
          | some r => some (r, h)
          | none => match ab_c mt i a b c st h with
            | some (vs, r) => (match go a 0 (lv_args 0 vs) [] h with
              | some (v, h') => go j (pc + 3) lv (v.toList ++ r) h'
              | none => none)
            | none => none
def ab_go (dc : Nat → Nat → Option ab_I) (mt : Nat → ab_M) (ext : Nat → Option (Nat × (Nat → Int32))) (sbt : Nat → Option (List Int32)) : Nat → ab_R
  | 0 => fun _ _ _ _ _ => none
  | n + 1 => ab_st dc mt ext sbt (ab_go dc mt ext sbt n)
/-! cells only come -/
def ab_le (h h' : ab_H) : Prop := h.length ≤ h'.length ∧ ab_sz h ≤ ab_sz h'
theorem ab_le.rf {h : ab_H} : ab_le h h := ⟨Nat.le_refl _, Nat.le_refl _⟩
theorem ab_le.tr {a b c : ab_H} (h1 : ab_le a b) (h2 : ab_le b c) : ab_le a c := ⟨Nat.le_trans h1.1 h2.1, Nat.le_trans h1.2 h2.2⟩
theorem ab_le.st {h : ab_H} {q : Nat} {e e' : ab_E} (hq : h[q]? = some e) (hz : ab_esz e' = ab_esz e) : ab_le h (h.set q e') := ⟨by rw [List.length_set]; exact Nat.le_refl _, by rw [ab_sz_set hq hz]; exact Nat.le_refl _⟩
theorem ab_le.ap {h : ab_H} {e : ab_E} : ab_le h (h ++ [e]) := ⟨by simp, by rw [ab_sz_app]; omega⟩
set_option maxHeartbeats 4000000 in
theorem ab_h_mono {ext : Nat → Option (Nat × (Nat → Int32))} {sbt : Nat → Option (List Int32)} {i : Instr} {a b c : Nat} {st st' : List Value} {h h' : ab_H} (hs : ab_h ext sbt i a b c st h = some (st', h')) : ab_le h h' := by
  unfold ab_h at hs
  split at hs
  · unfold ab_hget at hs; repeat' split at hs
    all_goals first | (cases hs; exact ab_le.rf) | cases hs
  · unfold ab_hput at hs; repeat' split at hs
    all_goals first | (cases hs; refine ab_le.st (ab_ob_ok (by assumption)) ?_; simp [ab_esz]) | cases hs
  · unfold ab_hiald at hs; repeat' split at hs
    all_goals first | (cases hs; exact ab_le.rf) | cases hs
  · unfold ab_hbald at hs; repeat' split at hs
    all_goals first | (cases hs; exact ab_le.rf) | cases hs
  · unfold ab_hlald at hs; repeat' split at hs
    all_goals first | (cases hs; exact ab_le.rf) | cases hs
  · unfold ab_haald at hs; repeat' split at hs
    all_goals first | (cases hs; exact ab_le.rf) | cases hs
  · unfold ab_hlen at hs; repeat' split at hs
    all_goals first | (cases hs; exact ab_le.rf) | cases hs
  · unfold ab_hiast at hs; repeat' split at hs
    all_goals first | (cases hs; refine ab_le.st (ab_ai_ok (by assumption)) ?_; rfl) | cases hs
  · unfold ab_hbast at hs; repeat' split at hs
    all_goals first | (cases hs; refine ab_le.st (ab_ai_ok (by assumption)) ?_; rfl) | cases hs
  · unfold ab_hlast at hs; repeat' split at hs
    all_goals first | (cases hs; refine ab_le.st (ab_al_ok (by assumption)) ?_; rfl) | cases hs
  · unfold ab_haast at hs; repeat' split at hs
    all_goals first | (cases hs; refine ab_le.st (ab_aq_ok (by assumption)) ?_; rfl) | cases hs
  · unfold ab_hnewa at hs; repeat' split at hs
    all_goals first | (cases hs; exact ab_le.ap) | cases hs
  · unfold ab_hnewq at hs; repeat' split at hs
    all_goals first | (cases hs; exact ab_le.ap) | cases hs
  · unfold ab_hnew at hs; repeat' split at hs
    all_goals first | (cases hs; exact ab_le.ap) | cases hs
  · cases hs; exact ab_le.rf
  · split at hs <;> (cases hs; exact ab_le.rf)
  · split at hs <;> (cases hs; exact ab_le.rf)
  · cases hs; exact ab_le.rf
  · split at hs
    · unfold ab_hmax at hs; split at hs
      · cases hs; exact ab_le.rf
      · cases hs
    · split at hs
      · unfold ab_hmin at hs; split at hs
        · cases hs; exact ab_le.rf
        · cases hs
      · split at hs
        · unfold ab_hcopy at hs; repeat' split at hs
          all_goals first | (cases hs; refine ab_le.st (ab_ai_ok (by assumption)) ?_; rfl) | cases hs
        · cases hs
  · split at hs
    · unfold ab_hslen at hs; repeat' split at hs
      all_goals first | (cases hs; exact ab_le.rf) | cases hs
    · split at hs
      · unfold ab_hsat at hs; repeat' split at hs
        all_goals first | (cases hs; exact ab_le.rf) | cases hs
      · cases hs
  · split at hs
    · unfold ab_hobj at hs; split at hs
      · cases hs; exact ab_le.rf
      · cases hs
    · cases hs
  · cases hs
theorem ab_go_mono {dc : Nat → Nat → Option ab_I} {mt : Nat → ab_M} {ext : Nat → Option (Nat × (Nat → Int32))} {sbt : Nat → Option (List Int32)} : ∀ (n j pc : Nat) (lv : ab_L) (st : List Value) (h : ab_H) (r : Option Value) (hE : ab_H), ab_go dc mt ext sbt n j pc lv st h = some (r, hE) → ab_le h hE := by
  intro n
  induction n with
  | zero => intro j pc lv st h r hE hs; cases hs
  | succ n ih =>
    intro j pc lv st h r hE hs
    unfold ab_go ab_st at hs
    split at hs
    · cases hs
    · split at hs
      · exact ih _ _ _ _ _ _ _ hs
      · split at hs
        · exact ih _ _ _ _ _ _ _ hs
        · split at hs
          next h1 =>
            split at hs
            · exact (ab_h_mono h1).tr (ih _ _ _ _ _ _ _ hs)
            · cases hs
          next =>
            split at hs
            · cases hs; exact ab_le.rf
            · split at hs
              · split at hs
                next h2 => exact (ih _ _ _ _ _ _ _ h2).tr (ih _ _ _ _ _ _ _ hs)
                next => cases hs
              · cases hs
/-- more fuel does no harm -/
theorem ab_st_more {dc : Nat → Nat → Option ab_I} {mt : Nat → ab_M} {ext : Nat → Option (Nat × (Nat → Int32))} {sbt : Nat → Option (List Int32)} {go go' : ab_R} (hg : ∀ j pc lv st h x, go j pc lv st h = some x → go' j pc lv st h = some x) {j pc : Nat} {lv : ab_L} {st : List Value} {h : ab_H} {x : Option Value × ab_H} (hs : ab_st dc mt ext sbt go j pc lv st h = some x) : ab_st dc mt ext sbt go' j pc lv st h = some x := by
  unfold ab_st at hs ⊢
  split at hs
  next => cases hs
  next =>
    split at hs
    next => exact hg _ _ _ _ _ _ hs
    next =>
      split at hs
      next => exact hg _ _ _ _ _ _ hs
      next =>
        split at hs
        next =>
          split at hs
          next h4 => first | exact hg _ _ _ _ _ _ hs | (rw [if_pos h4]; exact hg _ _ _ _ _ _ hs)
          next => cases hs
        next =>
          split at hs
          next => exact hs
          next =>
            split at hs
            next =>
              split at hs
              next h6 => first | (rw [hg _ _ _ _ _ _ h6]; exact hg _ _ _ _ _ _ hs) | exact hg _ _ _ _ _ _ hs
              next => cases hs
            next => cases hs
theorem ab_go_more {dc : Nat → Nat → Option ab_I} {mt : Nat → ab_M} {ext : Nat → Option (Nat × (Nat → Int32))} {sbt : Nat → Option (List Int32)} : ∀ (n j pc : Nat) (lv : ab_L) (st : List Value) (h : ab_H) (x : Option Value × ab_H), ab_go dc mt ext sbt n j pc lv st h = some x → ab_go dc mt ext sbt (n + 1) j pc lv st h = some x := by
  intro n
  induction n with
  | zero => intro j pc lv st h x hs; cases hs
  | succ n ih => intro j pc lv st h x hs; exact ab_st_more ih hs
