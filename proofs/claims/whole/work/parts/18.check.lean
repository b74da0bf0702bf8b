/-! CHECKERS: what a program decides of the tables -/
/-- the tables in pieces: a place is 1000 times the piece and the place in it -/
def ab_tc (c : Nat) : List Cond := match c with
  | 0 => tables_1_1
  | 1 => tables_1_2
  | 2 => tables_1_3
  | 3 => tables_1_4
  | 4 => tables_1_5
  | 5 => tables_1_6
  | 6 => tables_1_7
  | 7 => tables_1_8
  | 8 => tables_1_9
  | 9 => tables_1_10
  | 10 => tables_1_11
  | 11 => tables_1_12
  | 12 => tables_1_13
  | 13 => tables_1_14
  | _ => k2_sels lw_privs
theorem ab_tc_in {c : Nat} {w : Cond} (h : w ∈ ab_tc c) : w ∈ lw_tbl := by
  unfold lw_tbl tables_1
  simp only [List.mem_append]
  unfold ab_tc at h
  split at h <;> simp only [h, true_or, or_true]
def ab_tl (pos : Nat) : Option Cond := (ab_tc (pos / 1000))[pos % 1000]?
theorem ab_tl_in {pos : Nat} {w : Cond} (h : ab_tl pos = some w) : w ∈ lw_tbl := ab_tc_in (List.mem_of_getElem? h)
def ab_atw (pos : Nat) (w : Cond) : Bool := decide (ab_tl pos = some w) && goodWord w
theorem ab_atw_ok {pos : Nat} {w : Cond} (h : ab_atw pos w = true) : w ∈ gw := by
  unfold ab_atw at h
  rw [Bool.and_eq_true, decide_eq_true_eq] at h
  exact gw_of (ab_tl_in h.1) h.2
/-- a field's link: index, class, field, 0 or 1 (nest), place in the tables -/
def ab_flB (o : String) (z : Nat × Nat × Nat × Nat × Nat) : Bool := match vwCl[z.2.1]? with
  | some q => Nat.blt z.2.2.1 q.2.2 && (bif Nat.beq z.2.2.2.1 0 then ab_atw z.2.2.2.2 (Cond.fieldLink o z.1 (q.2.1 z.2.2.1).1 (q.2.1 z.2.2.1).2.1 (q.2.1 z.2.2.1).2.2.1) else Nat.beq z.2.2.2.1 1 && decide (ab_tl z.2.2.2.2 = some (Cond.fieldLinkNest o z.1 (q.2.1 z.2.2.1).1 (q.2.1 z.2.2.1).2.1 (q.2.1 z.2.2.1).2.2.1 "BrowserHouse")))
  | none => false
theorem ab_flB_ok {o : String} {z : Nat × Nat × Nat × Nat × Nat} (h : ab_flB o z = true) : ab_fl o z.1 z.2.1 z.2.2.1 z.2.2.2.1 := by
  unfold ab_flB at h
  split at h
  next q hq =>
    rw [Bool.and_eq_true] at h
    refine ⟨q, hq, Nat.blt_eq.mp h.1, ?_⟩
    cases hc : Nat.beq z.2.2.2.1 0 with
    | true =>
      rw [hc] at h
      exact Or.inl ⟨Nat.eq_of_beq_eq_true hc, ab_atw_ok h.2⟩
    | false =>
      rw [hc] at h
      have h2 := h.2
      rw [cond_false, Bool.and_eq_true, decide_eq_true_eq] at h2
      exact Or.inr ⟨Nat.eq_of_beq_eq_true h2.1, ab_tl_in h2.2⟩
  next => cases h
/-- other links: sort, index, number, places -/
def ab_lo (o : String) (t idx a : Nat) : Prop := match t with
  | 1 => ∃ C, ab_aty[a]? = some (FieldType.object C) ∧ Cond.classLink o idx C ∈ gw
  | 2 => ∃ z, vwCl[a]? = some z ∧ Cond.classLink o idx z.1 ∈ gw ∧ Cond.instantiable z.1 z.2.2 ∈ gw ∧ Cond.initialized z.1 ∈ gw
  | 3 => ∃ z ∈ ab_sts, a = z.2.2.2 ∧ Cond.fieldLink o idx z.1 z.2.1 z.2.2.1 ∈ gw
  | 4 => Cond.constant o idx (Int32.ofNat a) ∈ gw
  | 5 => ∃ tx, (o, idx, tx, a) ∈ ab_ldcs
  | 6 => Cond.constantLong o idx (Int64.ofNat a) ∈ gw
  | 7 => Cond.methodLink o idx Lib.Math.max.name ∈ gw ∧ Cond.static Lib.Math.max.name ∈ gw ∧ Cond.initialized "java/lang/Math" ∈ gw ∧ Cond.code Lib.Math.max.name Lib.Math.max.code 2 (some .int) ∈ gw
  | 8 => Cond.methodLink o idx Lib.Math.min.name ∈ gw ∧ Cond.static Lib.Math.min.name ∈ gw ∧ Cond.initialized "java/lang/Math" ∈ gw ∧ Cond.code Lib.Math.min.name Lib.Math.min.code 2 (some .int) ∈ gw
  | 9 => Cond.methodLink o idx arraycopyName ∈ gw ∧ Cond.native arraycopyName ∈ gw ∧ Cond.static arraycopyName ∈ gw ∧ Cond.initialized "java/lang/System" ∈ gw
  | 10 => Cond.methodLink o idx sy_len ∈ gw
  | 11 => Cond.methodLink o idx sy_charAt ∈ gw
  | 12 => Cond.methodLink o idx Lib.objectInit ∈ gw ∧ Cond.instanceMethod Lib.objectInit ∈ gw ∧ Cond.code Lib.objectInit ⟨#[0xb1]⟩ 1 none ∈ gw
  | _ => False
def ab_loB (o : String) (z : Nat × Nat × Nat × Nat × Nat × Nat × Nat) : Bool := match z.1 with
  | 1 => (match ab_aty[z.2.2.1]? with
    | some (.object C) => ab_atw z.2.2.2.1 (Cond.classLink o z.2.1 C)
    | _ => false)
  | 2 => (match vwCl[z.2.2.1]? with
    | some q => ab_atw z.2.2.2.1 (Cond.classLink o z.2.1 q.1) && ab_atw z.2.2.2.2.1 (Cond.instantiable q.1 q.2.2) && ab_atw z.2.2.2.2.2.1 (Cond.initialized q.1)
    | none => false)
  | 3 => (match ab_sts[z.2.2.2.2.1]? with
    | some y => Nat.beq z.2.2.1 y.2.2.2 && ab_atw z.2.2.2.1 (Cond.fieldLink o z.2.1 y.1 y.2.1 y.2.2.1)
    | none => false)
  | 4 => ab_atw z.2.2.2.1 (Cond.constant o z.2.1 (Int32.ofNat z.2.2.1))
  | 5 => (match ab_ldcs[z.2.2.2.1]? with
    | some y => decide (y.1 = o) && Nat.beq y.2.1 z.2.1 && Nat.beq y.2.2.2 z.2.2.1
    | none => false)
  | 6 => ab_atw z.2.2.2.1 (Cond.constantLong o z.2.1 (Int64.ofNat z.2.2.1))
  | 7 => ab_atw z.2.2.2.1 (Cond.methodLink o z.2.1 Lib.Math.max.name) && ab_atw z.2.2.2.2.1 (Cond.static Lib.Math.max.name) && ab_atw z.2.2.2.2.2.1 (Cond.initialized "java/lang/Math") && ab_atw z.2.2.2.2.2.2 (Cond.code Lib.Math.max.name Lib.Math.max.code 2 (some .int))
  | 8 => ab_atw z.2.2.2.1 (Cond.methodLink o z.2.1 Lib.Math.min.name) && ab_atw z.2.2.2.2.1 (Cond.static Lib.Math.min.name) && ab_atw z.2.2.2.2.2.1 (Cond.initialized "java/lang/Math") && ab_atw z.2.2.2.2.2.2 (Cond.code Lib.Math.min.name Lib.Math.min.code 2 (some .int))
  | 9 => ab_atw z.2.2.2.1 (Cond.methodLink o z.2.1 arraycopyName) && ab_atw z.2.2.2.2.1 (Cond.native arraycopyName) && ab_atw z.2.2.2.2.2.1 (Cond.static arraycopyName) && ab_atw z.2.2.2.2.2.2 (Cond.initialized "java/lang/System")
  | 10 => ab_atw z.2.2.2.1 (Cond.methodLink o z.2.1 sy_len)
  | 11 => ab_atw z.2.2.2.1 (Cond.methodLink o z.2.1 sy_charAt)
  | 12 => ab_atw z.2.2.2.1 (Cond.methodLink o z.2.1 Lib.objectInit) && ab_atw z.2.2.2.2.1 (Cond.instanceMethod Lib.objectInit) && ab_atw z.2.2.2.2.2.1 (Cond.code Lib.objectInit ⟨#[0xb1]⟩ 1 none)
  | _ => false
theorem ab_loB_ok {o : String} {z : Nat × Nat × Nat × Nat × Nat × Nat × Nat} (h : ab_loB o z = true) : ab_lo o z.1 z.2.1 z.2.2.1 := by
  unfold ab_loB at h
  unfold ab_lo
  split at h
  · split at h
    next C hC => exact ⟨C, hC, ab_atw_ok h⟩
    next => cases h
  · split at h
    next q hq =>
      rw [Bool.and_eq_true, Bool.and_eq_true] at h
      exact ⟨q, hq, ab_atw_ok h.1.1, ab_atw_ok h.1.2, ab_atw_ok h.2⟩
    next => cases h
  · split at h
    next y hy =>
      rw [Bool.and_eq_true] at h
      exact ⟨y, List.mem_of_getElem? hy, Nat.eq_of_beq_eq_true h.1, ab_atw_ok h.2⟩
    next => cases h
  · exact ab_atw_ok h
  · split at h
    next y hy =>
      rw [Bool.and_eq_true, Bool.and_eq_true, decide_eq_true_eq] at h
      refine ⟨y.2.2.1, ?_⟩
      rw [← h.1.1, ← Nat.eq_of_beq_eq_true h.1.2, ← Nat.eq_of_beq_eq_true h.2]
      exact List.mem_of_getElem? hy
    next => cases h
  · exact ab_atw_ok h
  · rw [Bool.and_eq_true, Bool.and_eq_true, Bool.and_eq_true] at h
    exact ⟨ab_atw_ok h.1.1.1, ab_atw_ok h.1.1.2, ab_atw_ok h.1.2, ab_atw_ok h.2⟩
  · rw [Bool.and_eq_true, Bool.and_eq_true, Bool.and_eq_true] at h
    exact ⟨ab_atw_ok h.1.1.1, ab_atw_ok h.1.1.2, ab_atw_ok h.1.2, ab_atw_ok h.2⟩
  · rw [Bool.and_eq_true, Bool.and_eq_true, Bool.and_eq_true] at h
    exact ⟨ab_atw_ok h.1.1.1, ab_atw_ok h.1.1.2, ab_atw_ok h.1.2, ab_atw_ok h.2⟩
  · exact ab_atw_ok h
  · exact ab_atw_ok h
  · rw [Bool.and_eq_true, Bool.and_eq_true] at h
    exact ⟨ab_atw_ok h.1.1, ab_atw_ok h.1.2, ab_atw_ok h.2⟩
  · cases h
/-- a method: k 0 static, 1 instance, 2 constructor; b its parameters -/
def ab_kok (N : ab_M) (k b : Nat) : Prop := ab_mok N b ∧ (k = 0 → Cond.static N.1 ∈ gw) ∧ (k = 1 → Cond.instanceMethod N.1 ∈ gw ∧ Cond.selects N.1.cls N.1 N.1 ∈ gw ∧ ∃ z, vwCl[N.2.2.2.2.2.2]? = some z ∧ z.1 = N.1.cls) ∧ (k = 2 → Cond.instanceMethod N.1 ∈ gw ∧ N.1.name = "<init>" ∧ N.2.2.2.1 = none)
/-- places: code, initialized, static or instanceMethod, selects -/
def ab_kokB (N : ab_M) (k b : Nat) (q : Nat × Nat × Nat × Nat) : Bool := ab_atw q.2.1 (Cond.initialized N.1.cls) && plainName N.1.cls && decide (N.1.cls ≠ "java/lang/invoke/MethodHandle" ∧ N.1.cls ≠ "java/lang/invoke/VarHandle" ∧ (parseMethodDescriptor N.1.desc).map (fun d => d.parameters.length) = some b) &&
  (match k with
  | 0 => ab_atw q.2.2.1 (Cond.static N.1)
  | 1 => ab_atw q.2.2.1 (Cond.instanceMethod N.1) && ab_atw q.2.2.2 (Cond.selects N.1.cls N.1 N.1) && (match vwCl[N.2.2.2.2.2.2]? with
    | some z => decide (z.1 = N.1.cls)
    | none => false)
  | _ => ab_atw q.2.2.1 (Cond.instanceMethod N.1) && decide (N.1.name = "<init>") && decide (N.2.2.2.1 = none))
theorem ab_kokB_ok {N : ab_M} {k b : Nat} {q : Nat × Nat × Nat × Nat} (h1 : Cond.code N.1 N.2.1 N.2.2.1 N.2.2.2.1 ∈ gw) (h : ab_kokB N k b q = true) : ab_kok N k b := by
  unfold ab_kokB at h
  simp only [Bool.and_eq_true] at h
  obtain ⟨⟨⟨h2, h3⟩, h4⟩, h5⟩ := h
  refine ⟨⟨h1, ab_atw_ok h2, h3, of_decide_eq_true h4⟩, fun e => ?_, fun e => ?_, fun e => ?_⟩
  · subst e; exact ab_atw_ok h5
  · subst e
    simp only [Bool.and_eq_true] at h5
    refine ⟨ab_atw_ok h5.1.1, ab_atw_ok h5.1.2, ?_⟩
    have h6 := h5.2
    split at h6
    next z hz => exact ⟨z, hz, of_decide_eq_true h6⟩
    next => cases h6
  · subst e
    simp only [Bool.and_eq_true] at h5
    exact ⟨ab_atw_ok h5.1.1, of_decide_eq_true h5.1.2, of_decide_eq_true h5.2⟩
/-- a method's link: index, method, 0 or 1 (nest), place -/
def ab_lmB (mt : Nat → ab_M) (o : String) (z : Nat × Nat × Nat × Nat) : Bool := bif Nat.beq z.2.2.1 0 then ab_atw z.2.2.2 (Cond.methodLink o z.1 (mt z.2.1).1) else Nat.beq z.2.2.1 1 && decide (ab_tl z.2.2.2 = some (Cond.methodLinkNest o z.1 (mt z.2.1).1 "BrowserHouse"))
theorem ab_lmB_ok {mt : Nat → ab_M} {o : String} {z : Nat × Nat × Nat × Nat} (h : ab_lmB mt o z = true) : ab_lok o z.1 z.2.2.1 (mt z.2.1).1 := by
  unfold ab_lmB at h
  cases hc : Nat.beq z.2.2.1 0 with
  | true => rw [hc] at h; exact Or.inl ⟨Nat.eq_of_beq_eq_true hc, ab_atw_ok h⟩
  | false =>
    rw [hc, cond_false, Bool.and_eq_true, decide_eq_true_eq] at h
    exact Or.inr ⟨Nat.eq_of_beq_eq_true h.1, ab_tl_in h.2⟩
def ab_e3 (z : Nat × Nat × Nat × Nat × Nat) (idx a b c : Nat) : Bool := Nat.beq z.1 idx && Nat.beq z.2.1 a && Nat.beq z.2.2.1 b && Nat.beq z.2.2.2.1 c
def ab_e2 (z : Nat × Nat × Nat × Nat × Nat × Nat × Nat) (t idx a : Nat) : Bool := Nat.beq z.1 t && Nat.beq z.2.1 idx && Nat.beq z.2.2.1 a
def ab_e1 (z : Nat × Nat × Nat × Nat) (idx a c : Nat) : Bool := Nat.beq z.1 idx && Nat.beq z.2.1 a && Nat.beq z.2.2.1 c
/-- the lists of one class's links -/
abbrev ab_Ls : Type := List (Nat × Nat × Nat × Nat × Nat) × List (Nat × Nat × Nat × Nat × Nat × Nat × Nat) × List (Nat × Nat × Nat × Nat)
def ab_LsB (mt : Nat → ab_M) (o : String) (L : ab_Ls) : Bool := L.1.all (ab_flB o) && L.2.1.all (ab_loB o) && L.2.2.all (ab_lmB mt o)
theorem ab_hasF {mt : Nat → ab_M} {o : String} {L : ab_Ls} (h : ab_LsB mt o L = true) {idx a b c : Nat} (hc : L.1.any (fun z => ab_e3 z idx a b c) = true) : ab_fl o idx a b c := by
  simp only [ab_LsB, Bool.and_eq_true] at h
  obtain ⟨z, hz, he⟩ := List.any_eq_true.mp hc
  have h1 := ab_flB_ok (List.all_eq_true.mp h.1.1 z hz)
  simp only [ab_e3, Bool.and_eq_true] at he
  rw [Nat.eq_of_beq_eq_true he.1.1.1, Nat.eq_of_beq_eq_true he.1.1.2, Nat.eq_of_beq_eq_true he.1.2, Nat.eq_of_beq_eq_true he.2] at h1
  exact h1
theorem ab_hasO {mt : Nat → ab_M} {o : String} {L : ab_Ls} (h : ab_LsB mt o L = true) {t idx a : Nat} (hc : L.2.1.any (fun z => ab_e2 z t idx a) = true) : ab_lo o t idx a := by
  simp only [ab_LsB, Bool.and_eq_true] at h
  obtain ⟨z, hz, he⟩ := List.any_eq_true.mp hc
  have h1 := ab_loB_ok (List.all_eq_true.mp h.1.2 z hz)
  simp only [ab_e2, Bool.and_eq_true] at he
  rw [Nat.eq_of_beq_eq_true he.1.1, Nat.eq_of_beq_eq_true he.1.2, Nat.eq_of_beq_eq_true he.2] at h1
  exact h1
theorem ab_hasM {mt : Nat → ab_M} {o : String} {L : ab_Ls} (h : ab_LsB mt o L = true) {idx a c : Nat} (hc : L.2.2.any (fun z => ab_e1 z idx a c) = true) : ab_lok o idx c (mt a).1 := by
  simp only [ab_LsB, Bool.and_eq_true] at h
  obtain ⟨z, hz, he⟩ := List.any_eq_true.mp hc
  have h1 := ab_lmB_ok (List.all_eq_true.mp h.2 z hz)
  simp only [ab_e1, Bool.and_eq_true] at he
  rw [Nat.eq_of_beq_eq_true he.1.1, Nat.eq_of_beq_eq_true he.1.2, Nat.eq_of_beq_eq_true he.2] at h1
  exact h1
def ab_rokB (M N : ab_M) (a : Nat) : Bool := Nat.ble (N.2.2.2.2.1 + 1) M.2.2.2.2.1 && Nat.ble (8 + (N.2.2.1 + 11) + N.2.2.2.2.2.1) M.2.2.2.2.2.1 && Nat.ble a 999
def ab_room (M : ab_M) (f w : Nat) : Bool := Nat.ble f M.2.2.2.2.1 && Nat.ble w M.2.2.2.2.2.1
theorem ab_room_ok {M : ab_M} {f w : Nat} (h : ab_room M f w = true) : f ≤ M.2.2.2.2.1 ∧ w ≤ M.2.2.2.2.2.1 := by
  simp only [ab_room, Bool.and_eq_true] at h
  exact ⟨Nat.le_of_ble_eq_true h.1, Nat.le_of_ble_eq_true h.2⟩
/-- the instruction at pc of method j: kb: of each method its sort and parameters -/
def ab_lkB (mt : Nat → ab_M) (kb : Nat → Nat × Nat) (L : ab_Ls) (M : ab_M) (pc : Nat) (q : ab_I) : Bool :=
  (match q.1 with
  | .goto off => decide ((pc : Int) + off = (q.2.1 : Int))
  | .if_icmp _ off => decide ((pc : Int) + off = (q.2.1 : Int))
  | .ifCond _ off => decide ((pc : Int) + off = (q.2.1 : Int))
  | .ifnull off => decide ((pc : Int) + off = (q.2.1 : Int))
  | .ifnonnull off => decide ((pc : Int) + off = (q.2.1 : Int))
  | .getfield idx => L.1.any (fun z => ab_e3 z idx q.2.1 q.2.2.1 q.2.2.2)
  | .putfield idx => L.1.any (fun z => ab_e3 z idx q.2.1 q.2.2.1 q.2.2.2) && (match vwCl[q.2.1]? with
    | some z => !(z.2.1 q.2.2.1).2.2.2 || (Nat.beq q.2.2.2 0 && (z.2.1 q.2.2.1).2.2.2 && decide (M.1.name = "<init>") && decide ((z.2.1 q.2.2.1).1 = M.1.cls))
    | none => true)
  | .newarray t => (match t with
    | .int => true
    | .byte => true
    | .boolean => true
    | .long => true
    | _ => false)
  | .anewarray idx => L.2.1.any (fun z => ab_e2 z 1 idx q.2.1)
  | .new idx => L.2.1.any (fun z => ab_e2 z 2 idx q.2.1)
  | .getstatic idx => L.2.1.any (fun z => ab_e2 z 3 idx q.2.1)
  | .ldc idx => bif Nat.beq q.2.2.2 0 then L.2.1.any (fun z => ab_e2 z 4 idx q.2.1) else L.2.1.any (fun z => ab_e2 z 5 idx q.2.1)
  | .ldc_w idx => bif Nat.beq q.2.2.2 0 then L.2.1.any (fun z => ab_e2 z 4 idx q.2.1) else L.2.1.any (fun z => ab_e2 z 5 idx q.2.1)
  | .ldc2_w idx => L.2.1.any (fun z => ab_e2 z 6 idx q.2.1)
  | .invokestatic idx => bif Nat.ble q.2.2.2 1 then L.2.2.any (fun z => ab_e1 z idx q.2.1 q.2.2.2) && Nat.beq (kb q.2.1).1 0 && Nat.beq (kb q.2.1).2 q.2.2.1 && ab_rokB M (mt q.2.1) q.2.1
    else bif Nat.beq q.2.2.2 2 then L.2.1.any (fun z => ab_e2 z 7 idx 0) && ab_room M 1 22 else bif Nat.beq q.2.2.2 3 then L.2.1.any (fun z => ab_e2 z 8 idx 0) && ab_room M 1 22 else Nat.beq q.2.2.2 4 && L.2.1.any (fun z => ab_e2 z 9 idx 0) && ab_room M 1 27
  | .invokevirtual idx => bif Nat.ble q.2.2.2 1 then L.2.2.any (fun z => ab_e1 z idx q.2.1 q.2.2.2) && Nat.beq (kb q.2.1).1 1 && Nat.beq (kb q.2.1).2 q.2.2.1 && ab_rokB M (mt q.2.1) q.2.1
    else bif Nat.beq q.2.2.2 7 then L.2.1.any (fun z => ab_e2 z 10 idx 0) && ab_room M 2 40 else Nat.beq q.2.2.2 8 && L.2.1.any (fun z => ab_e2 z 11 idx 0) && ab_room M 4 85
  | .invokespecial idx => bif Nat.ble q.2.2.2 1 then L.2.2.any (fun z => ab_e1 z idx q.2.1 q.2.2.2) && Nat.beq (kb q.2.1).1 2 && Nat.beq (kb q.2.1).2 q.2.2.1 && ab_rokB M (mt q.2.1) q.2.1
    else Nat.beq q.2.2.2 9 && L.2.1.any (fun z => ab_e2 z 12 idx 0) && ab_room M 1 21
  | _ => true)
theorem ab_e4 {a b : Nat} (h : Nat.beq a b = true) : a = b := Nat.eq_of_beq_eq_true h
theorem ab_nb {a b : Nat} (h : Nat.beq a b = false) : ¬ a = b := fun e => by subst e; simp at h
set_option maxHeartbeats 4000000 in
theorem ab_lkB_ok {mt : Nat → ab_M} {kb : Nat → Nat × Nat} {L : ab_Ls} {j pc : Nat} {q : ab_I} (hA : Cond.arrayClass .int ∈ gw ∧ Cond.arrayClass .byte ∈ gw ∧ Cond.arrayClass .boolean ∈ gw ∧ Cond.arrayClass .long ∈ gw) (hkb : ∀ a, a ≤ 999 → ab_kok (mt a) (kb a).1 (kb a).2) (hL : ab_LsB mt (mt j).1.cls L = true) (hdec : ab_dec (mt j).2.1 pc q.1) (h : ab_lkB mt kb L (mt j) pc q = true) : ab_OK mt j pc q := by
  obtain ⟨i, a, b, cn⟩ := q
  unfold ab_lkB at h
  dsimp only at h
  have core : ab_bok i a pc ∧ ab_hok (mt j) i a b cn ∧ ab_cok (mt j) (mt a) i b cn := by
    cases i
    case goto off =>
      dsimp only at h
      rw [decide_eq_true_eq] at h
      exact ⟨h, trivial, trivial⟩
    case if_icmp cd off =>
      dsimp only at h
      rw [decide_eq_true_eq] at h
      exact ⟨h, trivial, trivial⟩
    case ifCond cd off =>
      dsimp only at h
      rw [decide_eq_true_eq] at h
      exact ⟨h, trivial, trivial⟩
    case ifnull off =>
      dsimp only at h
      rw [decide_eq_true_eq] at h
      exact ⟨h, trivial, trivial⟩
    case ifnonnull off =>
      dsimp only at h
      rw [decide_eq_true_eq] at h
      exact ⟨h, trivial, trivial⟩
    case getfield idx =>
      dsimp only at h
      exact ⟨trivial, ab_hasF hL h, trivial⟩
    case putfield idx =>
      dsimp only at h
      rw [Bool.and_eq_true] at h
      refine ⟨trivial, ⟨ab_hasF hL h.1, fun z hz => ?_⟩, trivial⟩
      have h2 := h.2
      rw [hz] at h2
      dsimp only at h2
      rw [Bool.or_eq_true] at h2
      rcases h2 with h2 | h2
      · exact Or.inl (by simpa using h2)
      · simp only [Bool.and_eq_true, decide_eq_true_eq] at h2
        exact Or.inr ⟨ab_e4 h2.1.1.1, h2.1.1.2, h2.1.2, h2.2⟩
    case newarray t =>
      dsimp only at h
      refine ⟨trivial, ?_, trivial⟩
      split at h
      · exact hA.1
      · exact hA.2.1
      · exact hA.2.2.1
      · exact hA.2.2.2
      · cases h
    case anewarray idx =>
      dsimp only at h
      exact ⟨trivial, ab_hasO hL h, trivial⟩
    case new idx =>
      dsimp only at h
      exact ⟨trivial, ab_hasO hL h, trivial⟩
    case getstatic idx =>
      dsimp only at h
      exact ⟨trivial, ab_hasO hL h, trivial⟩
    case ldc idx =>
      dsimp only at h
      refine ⟨trivial, ?_, trivial⟩
      unfold ab_hok
      dsimp only
      cases hc : Nat.beq cn 0 with
      | true => rw [hc, cond_true] at h; rw [if_pos (ab_e4 hc)]; exact ab_hasO hL h
      | false => rw [hc, cond_false] at h; rw [if_neg (ab_nb hc)]; exact ab_hasO hL h
    case ldc_w idx =>
      dsimp only at h
      refine ⟨trivial, ?_, trivial⟩
      unfold ab_hok
      dsimp only
      cases hc : Nat.beq cn 0 with
      | true => rw [hc, cond_true] at h; rw [if_pos (ab_e4 hc)]; exact ab_hasO hL h
      | false => rw [hc, cond_false] at h; rw [if_neg (ab_nb hc)]; exact ab_hasO hL h
    case ldc2_w idx =>
      dsimp only at h
      exact ⟨trivial, ab_hasO hL h, trivial⟩
    case invokestatic idx =>
      dsimp only at h
      cases hc1 : Nat.ble cn 1 with
      | true =>
        have hle := Nat.le_of_ble_eq_true hc1
        rw [hc1, cond_true] at h
        simp only [Bool.and_eq_true] at h
        refine ⟨trivial, ?_, fun _ => ?_⟩
        · unfold ab_hok
          dsimp only
          rw [if_neg (by omega), if_neg (by omega), if_neg (by omega)]
          trivial
        · have hr := h.2
          simp only [ab_rokB, Bool.and_eq_true] at hr
          have hk := hkb a (Nat.le_of_ble_eq_true hr.2)
          rw [ab_e4 h.1.1.2, ab_e4 h.1.2] at hk
          exact ⟨ab_hasM hL h.1.1.1, hk.1, ⟨Nat.le_of_ble_eq_true hr.1.1, Nat.le_of_ble_eq_true hr.1.2⟩, hk.2.1 rfl⟩
      | false =>
        have hgt : ¬ cn ≤ 1 := fun z => by rw [Nat.ble_eq_true_of_le z] at hc1; cases hc1
        rw [hc1, cond_false] at h
        refine ⟨trivial, ?_, fun z => absurd z hgt⟩
        unfold ab_hok
        dsimp only
        cases hc2 : Nat.beq cn 2 with
        | true =>
          rw [hc2, cond_true, Bool.and_eq_true] at h
          rw [if_pos (ab_e4 hc2)]
          exact ⟨ab_hasO hL h.1, ab_room_ok h.2⟩
        | false =>
          rw [hc2, cond_false] at h
          rw [if_neg (ab_nb hc2)]
          cases hc3 : Nat.beq cn 3 with
          | true =>
            rw [hc3, cond_true, Bool.and_eq_true] at h
            rw [if_pos (ab_e4 hc3)]
            exact ⟨ab_hasO hL h.1, ab_room_ok h.2⟩
          | false =>
            rw [hc3, cond_false, Bool.and_eq_true, Bool.and_eq_true] at h
            rw [if_neg (ab_nb hc3), if_pos (ab_e4 h.1.1)]
            exact ⟨ab_hasO hL h.1.2, ab_room_ok h.2⟩
    case invokevirtual idx =>
      dsimp only at h
      cases hc1 : Nat.ble cn 1 with
      | true =>
        have hle := Nat.le_of_ble_eq_true hc1
        rw [hc1, cond_true] at h
        simp only [Bool.and_eq_true] at h
        refine ⟨trivial, ?_, fun _ => ?_⟩
        · unfold ab_hok
          dsimp only
          rw [if_neg (by omega), if_neg (by omega)]
          trivial
        · have hr := h.2
          simp only [ab_rokB, Bool.and_eq_true] at hr
          have hk := hkb a (Nat.le_of_ble_eq_true hr.2)
          rw [ab_e4 h.1.1.2, ab_e4 h.1.2] at hk
          obtain ⟨k1, k2, k3⟩ := hk.2.2.1 rfl
          exact ⟨ab_hasM hL h.1.1.1, hk.1, ⟨Nat.le_of_ble_eq_true hr.1.1, Nat.le_of_ble_eq_true hr.1.2⟩, k1, k2, k3⟩
      | false =>
        have hgt : ¬ cn ≤ 1 := fun z => by rw [Nat.ble_eq_true_of_le z] at hc1; cases hc1
        rw [hc1, cond_false] at h
        refine ⟨trivial, ?_, fun z => absurd z hgt⟩
        unfold ab_hok
        dsimp only
        cases hc2 : Nat.beq cn 7 with
        | true =>
          rw [hc2, cond_true, Bool.and_eq_true] at h
          rw [if_pos (ab_e4 hc2)]
          exact ⟨ab_hasO hL h.1, ab_room_ok h.2⟩
        | false =>
          rw [hc2, cond_false, Bool.and_eq_true, Bool.and_eq_true] at h
          rw [if_neg (ab_nb hc2), if_pos (ab_e4 h.1.1)]
          exact ⟨ab_hasO hL h.1.2, ab_room_ok h.2⟩
    case invokespecial idx =>
      dsimp only at h
      cases hc1 : Nat.ble cn 1 with
      | true =>
        have hle := Nat.le_of_ble_eq_true hc1
        rw [hc1, cond_true] at h
        simp only [Bool.and_eq_true] at h
        refine ⟨trivial, ?_, fun _ => ?_⟩
        · unfold ab_hok
          dsimp only
          rw [if_neg (by omega)]
          trivial
        · have hr := h.2
          simp only [ab_rokB, Bool.and_eq_true] at hr
          have hk := hkb a (Nat.le_of_ble_eq_true hr.2)
          rw [ab_e4 h.1.1.2, ab_e4 h.1.2] at hk
          obtain ⟨k1, k2, k3⟩ := hk.2.2.2 rfl
          exact ⟨ab_hasM hL h.1.1.1, hk.1, ⟨Nat.le_of_ble_eq_true hr.1.1, Nat.le_of_ble_eq_true hr.1.2⟩, k1, k2, k3⟩
      | false =>
        have hgt : ¬ cn ≤ 1 := fun z => by rw [Nat.ble_eq_true_of_le z] at hc1; cases hc1
        rw [hc1, cond_false, Bool.and_eq_true, Bool.and_eq_true] at h
        refine ⟨trivial, ?_, fun z => absurd z hgt⟩
        unfold ab_hok
        dsimp only
        rw [if_pos (ab_e4 h.1.1)]
        exact ⟨ab_hasO hL h.1.2, ab_room_ok h.2⟩
    all_goals exact ⟨trivial, trivial, trivial⟩
  exact ⟨hdec, core⟩
