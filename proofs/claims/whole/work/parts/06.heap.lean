/-! THE HEAP: what the instructions do that read, write or make cells -/
abbrev ab_SH : Type := Option (List Value × ab_H)
/-- array types by number; 4 and on: of references to objects of one class -/
def ab_aty : List FieldType := [.int, .byte, .boolean, .long, .object "BrowserHouse$Bytes", .object "BrowserHouse$Node", .object "BrowserHouse$Address", .object "BrowserHouse$Answer", .object "BrowserHouse$Box"]
def ab_aci (t : Nat) : Nat := match t with
  | 4 => 4
  | 5 => 7
  | 6 => 1
  | 7 => 2
  | _ => 3
def ab_ob (h : ab_H) (q ci : Nat) : Option (List Value) := match h[q]? with
  | some (.inr (k, fs)) => if k = ci then some fs else none
  | _ => none
def ab_ai (h : ab_H) (q : Nat) : Option (Nat × Nat × (Nat → Int32)) := match h[q]? with
  | some (.inl (t, n, .inl f)) => some (t, n, f)
  | _ => none
def ab_al (h : ab_H) (q : Nat) : Option (Nat × (Nat → Int64)) := match h[q]? with
  | some (.inl (t, n, .inr (.inl f))) => if t = 3 then some (n, f) else none
  | _ => none
def ab_aq (h : ab_H) (q : Nat) : Option (Nat × Nat × (Nat → Option Nat)) := match h[q]? with
  | some (.inl (t, n, .inr (.inr (.inr (.inr f))))) => some (t, n, f)
  | _ => none
def ab_inb (i : Int32) (n : Nat) : Bool := !(decide (i < 0) || decide (n ≤ i.toNatClampNeg))
theorem ab_inb_ok {i : Int32} {n : Nat} (h : ab_inb i n = true) : vp_in i n := by
  unfold ab_inb at h
  intro q
  simp only [Bool.not_eq_true', Bool.or_eq_false_iff, decide_eq_false_iff_not] at h
  rcases q with q | q
  · exact h.1 q
  · exact h.2 q
def ab_hget (a b : Nat) (st : List Value) (h : ab_H) : ab_SH := match st with
  | .ref q :: r => (match ab_ob h q a with
    | some fs => (match fs[b]? with
      | some v => some (v :: r, h)
      | none => none)
    | none => none)
  | _ => none
def ab_hput (a b : Nat) (st : List Value) (h : ab_H) : ab_SH := match st with
  | v :: .ref q :: r => (match ab_ob h q a with
    | some fs => if b < fs.length ∧ narrow (ab_cty a b) v = v ∧ fits (ab_cty a b) v = true then some (r, h.set q (.inr (a, fs.set b v))) else none
    | none => none)
  | _ => none
def ab_hiald (ext : Nat → Option (Nat × (Nat → Int32))) (st : List Value) (h : ab_H) : ab_SH := match st with
  | .int i :: .ref q :: r => (match ab_ai h q with
    | some (t, n, f) => if t = 0 ∧ ab_inb i n = true then some (.int (f i.toNatClampNeg) :: r, h) else none
    | none => (match ext q with
      | some (n, f) => if ab_inb i n = true then some (.int (f i.toNatClampNeg) :: r, h) else none
      | none => none))
  | _ => none
def ab_hbald (st : List Value) (h : ab_H) : ab_SH := match st with
  | .int i :: .ref q :: r => (match ab_ai h q with
    | some (t, n, f) => if (t = 1 ∨ t = 2) ∧ ab_inb i n = true then some (.int (f i.toNatClampNeg) :: r, h) else none
    | none => none)
  | _ => none
def ab_hlald (st : List Value) (h : ab_H) : ab_SH := match st with
  | .int i :: .ref q :: r => (match ab_al h q with
    | some (n, f) => if ab_inb i n = true then some (.long (f i.toNatClampNeg) :: r, h) else none
    | none => none)
  | _ => none
def ab_haald (st : List Value) (h : ab_H) : ab_SH := match st with
  | .int i :: .ref q :: r => (match ab_aq h q with
    | some (t, n, f) => if (4 ≤ t ∧ t ≤ 8) ∧ ab_inb i n = true then some (va_rf (f i.toNatClampNeg) :: r, h) else none
    | none => none)
  | _ => none
def ab_hlen (ext : Nat → Option (Nat × (Nat → Int32))) (st : List Value) (h : ab_H) : ab_SH := match st with
  | .ref q :: r => (match h[q]? with
    | some (.inl (t, n, _)) => if t ≤ 8 then some (.int (Int32.ofNat n) :: r, h) else none
    | some (.inr _) => none
    | none => (match ext q with
      | some (n, _) => some (.int (Int32.ofNat n) :: r, h)
      | none => none))
  | _ => none
def ab_hiast (st : List Value) (h : ab_H) : ab_SH := match st with
  | .int x :: .int i :: .ref q :: r => (match ab_ai h q with
    | some (t, n, f) => if t = 0 ∧ ab_inb i n = true then some (r, h.set q (.inl (0, n, .inl (upd f i.toNatClampNeg x)))) else none
    | none => none)
  | _ => none
def ab_hbast (st : List Value) (h : ab_H) : ab_SH := match st with
  | .int x :: .int i :: .ref q :: r => (match ab_ai h q with
    | some (t, n, f) => if ab_inb i n = true then (if t = 1 then some (r, h.set q (.inl (1, n, .inl (upd f i.toNatClampNeg (vp_nar .byte x))))) else if t = 2 then some (r, h.set q (.inl (2, n, .inl (upd f i.toNatClampNeg (vp_nar .boolean x))))) else none) else none
    | none => none)
  | _ => none
def ab_hlast (st : List Value) (h : ab_H) : ab_SH := match st with
  | .long x :: .int i :: .ref q :: r => (match ab_al h q with
    | some (n, f) => if ab_inb i n = true then some (r, h.set q (.inl (3, n, .inr (.inl (vp_updL f i.toNatClampNeg x))))) else none
    | none => none)
  | _ => none
def ab_haast (st : List Value) (h : ab_H) : ab_SH := match st with
  | .ref w :: .int i :: .ref q :: r => (match ab_aq h q with
    | some (t, n, f) => (match h[w]? with
      | some (.inr (ci, _)) => if (4 ≤ t ∧ t ≤ 8) ∧ ci = ab_aci t ∧ ab_inb i n = true then some (r, h.set q (.inl (t, n, .inr (.inr (.inr (.inr (va_up f i.toNatClampNeg (some w)))))))) else none
      | _ => none)
    | none => none)
  | _ => none
def ab_hnewa (at0 : ArrayType) (st : List Value) (h : ab_H) : ab_SH := match st with
  | .int n :: r => if n < 0 then none else if n.toNatClampNeg * 8 ≤ 536870912 ∧ h.length < 1000000 then (match at0 with
    | .int => some (.ref h.length :: r, h ++ [.inl (0, n.toNatClampNeg, .inl (fun _ => 0))])
    | .byte => some (.ref h.length :: r, h ++ [.inl (1, n.toNatClampNeg, .inl (fun _ => 0))])
    | .boolean => some (.ref h.length :: r, h ++ [.inl (2, n.toNatClampNeg, .inl (fun _ => 0))])
    | .long => some (.ref h.length :: r, h ++ [.inl (3, n.toNatClampNeg, .inr (.inl (fun _ => 0)))])
    | _ => none) else none
  | _ => none
def ab_hnewq (t : Nat) (st : List Value) (h : ab_H) : ab_SH := match st with
  | .int n :: r => if n < 0 then none else if n.toNatClampNeg * 8 ≤ 536870912 ∧ h.length < 1000000 then some (.ref h.length :: r, h ++ [.inl (t, n.toNatClampNeg, .inr (.inr (.inr (.inr (fun _ => none)))))]) else none
  | _ => none
def ab_cN (a : Nat) : Nat := match vwCl[a]? with
  | some q => q.2.2
  | none => 0
def ab_cdf (a : Nat) : List Value := (List.range (ab_cN a)).map (fun k => defaultValue (ab_cty a k))
def ab_hnew (a : Nat) (st : List Value) (h : ab_H) : ab_SH := if h.length < 1000000 then some (.ref h.length :: st, h ++ [.inr (a, ab_cdf a)]) else none
def ab_hcopy (st : List Value) (h : ab_H) : ab_SH := match st with
  | .int n :: .int dp :: .ref q1 :: .int sp :: .ref q0 :: r => (match ab_ai h q0, ab_ai h q1 with
    | some (t0, n0, f), some (t1, n1, f1) => if ((t0 = 0 ∧ t1 = 0) ∨ (t0 = 1 ∧ t1 = 1)) ∧ (¬ sp < 0 ∧ ¬ dp < 0 ∧ ¬ n < 0) ∧ (sp.toNatClampNeg + n.toNatClampNeg ≤ n0 ∧ dp.toNatClampNeg + n.toNatClampNeg ≤ n1) then some (r, h.set q1 (.inl (t1, n1, .inl (va_cpy f f1 sp.toNatClampNeg dp.toNatClampNeg n.toNatClampNeg)))) else none
    | _, _ => none)
  | _ => none
def ab_hmax (st : List Value) (h : ab_H) : ab_SH := match st with
  | .int y :: .int x :: r => some (.int (if x < y then y else x) :: r, h)
  | _ => none
def ab_hmin (st : List Value) (h : ab_H) : ab_SH := match st with
  | .int y :: .int x :: r => some (.int (if y < x then y else x) :: r, h)
  | _ => none
def ab_hobj (st : List Value) (h : ab_H) : ab_SH := match st with
  | .ref _ :: r => some (r, h)
  | _ => none
def ab_hslen (sbt : Nat → Option (List Int32)) (st : List Value) (h : ab_H) : ab_SH := match st with
  | .ref q :: r => (match sbt q with
    | some bs => some (.int (nI bs.length) :: r, h)
    | none => none)
  | _ => none
def ab_hsat (sbt : Nat → Option (List Int32)) (st : List Value) (h : ab_H) : ab_SH := match st with
  | .int i :: .ref q :: r => (match sbt q with
    | some bs => if ab_inb i bs.length = true then some (.int (bs.getD i.toNatClampNeg 0 &&& 255) :: r, h) else none
    | none => none)
  | _ => none
/-- what reads, writes or makes cells, and goes on to the next instruction. a, b, c: what is linked -/
def ab_h (ext : Nat → Option (Nat × (Nat → Int32))) (sbt : Nat → Option (List Int32)) (i : Instr) (a b c : Nat) (st : List Value) (h : ab_H) : ab_SH := match i with
  | .getfield _ => ab_hget a b st h
  | .putfield _ => ab_hput a b st h
  | .iaload => ab_hiald ext st h
  | .baload => ab_hbald st h
  | .laload => ab_hlald st h
  | .aaload => ab_haald st h
  | .arraylength => ab_hlen ext st h
  | .iastore => ab_hiast st h
  | .bastore => ab_hbast st h
  | .lastore => ab_hlast st h
  | .aastore => ab_haast st h
  | .newarray t => ab_hnewa t st h
  | .anewarray _ => ab_hnewq a st h
  | .new _ => ab_hnew a st h
  | .getstatic _ => some (.ref a :: st, h)
  | .ldc _ => if c = 0 then some (.int (Int32.ofNat a) :: st, h) else some (.ref a :: st, h)
  | .ldc_w _ => if c = 0 then some (.int (Int32.ofNat a) :: st, h) else some (.ref a :: st, h)
  | .ldc2_w _ => some (.long (Int64.ofNat a) :: st, h)
  | .invokestatic _ => if c = 2 then ab_hmax st h else if c = 3 then ab_hmin st h else if c = 4 then ab_hcopy st h else none
  | .invokevirtual _ => if c = 7 then ab_hslen sbt st h else if c = 8 then ab_hsat sbt st h else none
  | .invokespecial _ => if c = 9 then ab_hobj st h else none
  | _ => none
/-- how many slots the cells have -/
def ab_esz (e : ab_E) : Nat := match e with
  | .inl (_, n, _) => n
  | .inr (_, fs) => fs.length
def ab_sz (h : ab_H) : Nat := (h.map ab_esz).sum
/-! the world -/
def ab_cX (g : Nat → Nat) (x : (Nat → Int32) ⊕ (Nat → Int64) ⊕ (Nat → UInt32) ⊕ (Nat → UInt64) ⊕ (Nat → Option Nat)) : (Nat → Int32) ⊕ (Nat → Int64) ⊕ (Nat → UInt32) ⊕ (Nat → UInt64) ⊕ (Nat → Option Nat) := match x with
  | .inr (.inr (.inr (.inr f))) => .inr (.inr (.inr (.inr (fun j => (f j).map g))))
  | x => x
def ab_cE (aC : Nat → ClassId) (g : Nat → Nat) (e : ab_E) : va_E := match e with
  | .inl (t, n, x) => .inl (aC t, n, ab_cX g x)
  | .inr (ci, fs) => .inr (ci, fs.map (ab_v g))
def ab_ws (B : Nat) (aC : Nat → ClassId) (g : Nat → Nat) (h : ab_H) : va_W := h.mapIdx (fun i e => (B + i, ab_cE aC g e))
theorem ab_ws_get {B : Nat} {aC : Nat → ClassId} {g : Nat → Nat} {h : ab_H} {i : Nat} {e : ab_E} (he : h[i]? = some e) : (ab_ws B aC g h)[i]? = some (B + i, ab_cE aC g e) := by
  simp [ab_ws, he]
theorem ab_ws_len {B : Nat} {aC : Nat → ClassId} {g : Nat → Nat} {h : ab_H} : (ab_ws B aC g h).length = h.length := by simp [ab_ws]
theorem ab_ws_inv {B : Nat} {aC : Nat → ClassId} {g : Nat → Nat} {h : ab_H} {i : Nat} {q : Nat × va_E} (hq : (ab_ws B aC g h)[i]? = some q) : ∃ e, h[i]? = some e ∧ q = (B + i, ab_cE aC g e) := by
  simp only [ab_ws, List.getElem?_mapIdx, Option.map_eq_some_iff] at hq
  obtain ⟨e, h1, h2⟩ := hq
  exact ⟨e, h1, h2.symm⟩
theorem ab_ws_set (B : Nat) (aC : Nat → ClassId) (g : Nat → Nat) (h : ab_H) (i : Nat) (e : ab_E) : ab_ws B aC g (h.set i e) = (ab_ws B aC g h).set i (B + i, ab_cE aC g e) := by
  apply List.ext_getElem?
  intro k
  simp only [ab_ws, List.getElem?_mapIdx, List.getElem?_set, List.length_mapIdx]
  by_cases hk : i = k
  · subst hk
    by_cases hl : i < h.length <;> simp [hl]
  · simp [hk]
theorem ab_ws_app (B : Nat) (aC : Nat → ClassId) (g : Nat → Nat) (h : ab_H) (e : ab_E) : ab_ws B aC g (h ++ [e]) = ab_ws B aC g h ++ [(B + h.length, ab_cE aC g e)] := by
  simp [ab_ws, List.mapIdx_append]
theorem ab_ws_D (B : Nat) (aC : Nat → ClassId) (g : Nat → Nat) (h : ab_H) : va_D (fun q => B ≤ q) (ab_ws B aC g h) := by
  refine ⟨fun i j p q hp hq e => ?_, fun k q hq => ?_⟩
  · obtain ⟨_, -, rfl⟩ := ab_ws_inv hp
    obtain ⟨_, -, rfl⟩ := ab_ws_inv hq
    exact Nat.add_left_cancel e
  · obtain ⟨_, -, rfl⟩ := ab_ws_inv hq
    exact Nat.le_add_right _ _
/-- the contents of byte arrays are bytes -/
def ab_fitE (e : ab_E) : Prop := match e with
  | .inl (1, _, .inl f) => ∀ j, fits .byte (.int (f j)) = true
  | _ => True
def ab_Wd (D : va_G) (aC : Nat → ClassId) (B : Nat) (g : Nat → Nat) (h : ab_H) (H : Heap) : Prop := va_P D vwCl (ab_ws B aC g h) H ∧ h.length ≤ 1000000 ∧ ∀ (i : Nat) (e : ab_E), h[i]? = some e → ab_fitE e
def ab_tys (aC : Nat → ClassId) : List (ClassId × FieldType) := ab_aty.mapIdx (fun t ty => (aC t, ty))
theorem ab_tys_get {aC : Nat → ClassId} {t : Nat} {ty : FieldType} (h : ab_aty[t]? = some ty) : (ab_tys aC)[t]? = some (aC t, ty) := by
  simp [ab_tys, h]
