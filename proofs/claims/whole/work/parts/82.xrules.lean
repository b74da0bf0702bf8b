/-! RULES: what the program does on the typed state, the evaluator does -/
def mx (x y : Int32) : Int32 := if x < y then y else x
def mn (x y : Int32) : Int32 := if y < x then y else x
def oc {ρ : Type} (r : Option Nat) (A : Nat → Option ρ) (B : Option ρ) : Option ρ := match r with
  | some q => A q
  | none => B
def vc {α : Type} (g : g_S) (c q : Nat) (m : Option α) : Option α := if gt g q = c then m else none
def u2 {α β ρ : Type} (F : α → β → ρ) (p : α × β) : ρ := F p.1 p.2
def u3 {α β γ ρ : Type} (F : α → β → γ → ρ) (p : α × β × γ) : ρ := F p.1 p.2.1 p.2.2
def u4 {α β γ δ ρ : Type} (F : α → β → γ → δ → ρ) (p : α × β × γ × δ) : ρ := F p.1 p.2.1 p.2.2.1 p.2.2.2
def u5 {α β γ δ ε ρ : Type} (F : α → β → γ → δ → ε → ρ) (p : α × β × γ × δ × ε) : ρ := F p.1 p.2.1 p.2.2.1 p.2.2.2.1 p.2.2.2.2
def u6 {α β γ δ ε ζ ρ : Type} (F : α → β → γ → δ → ε → ζ → ρ) (p : α × β × γ × δ × ε × ζ) : ρ := F p.1 p.2.1 p.2.2.1 p.2.2.2.1 p.2.2.2.2.1 p.2.2.2.2.2
def u7 {α β γ δ ε ζ η ρ : Type} (F : α → β → γ → δ → ε → ζ → η → ρ) (p : α × β × γ × δ × ε × ζ × η) : ρ := F p.1 p.2.1 p.2.2.1 p.2.2.2.1 p.2.2.2.2.1 p.2.2.2.2.2.1 p.2.2.2.2.2.2
def u8 {α β γ δ ε ζ η θ ρ : Type} (F : α → β → γ → δ → ε → ζ → η → θ → ρ) (p : α × β × γ × δ × ε × ζ × η × θ) : ρ := F p.1 p.2.1 p.2.2.1 p.2.2.2.1 p.2.2.2.2.1 p.2.2.2.2.2.1 p.2.2.2.2.2.2.1 p.2.2.2.2.2.2.2
def us {α β ρ : Type} (F : α → ρ) (G : β → ρ) (s : α ⊕ β) : ρ := match s with
  | .inl a => F a
  | .inr b => G b
def cs (st : List Value) : Nat := (st.map fun v => v.category).sum
theorem if_some {ρ : Type} {p : Prop} [Decidable p] {x : ρ} {out : ρ} (e : (if p then some x else none) = some out) : p ∧ x = out := by
  by_cases h : p
  · rw [if_pos h] at e; exact ⟨h, Option.some.inj e⟩
  · rw [if_neg h] at e; cases e
theorem blt_lt {a b : Nat} (h : Nat.blt a b = true) : a < b := Nat.le_of_ble_eq_true h
section XR
variable {X : Nat → Option (Nat × (Nat → Int32))} {j pc a b c idx q k t w : Nat} {off : Int} {cd : ClassFile.Cond} {lv : ab_L} {rest st : List Value} {g : g_S} {Q : Option Value → ab_H → Prop} {ρ α : Type} {out : ρ} {x y i n : Int32} {xl : Int64}
theorem x_gI {F : Int32 → Option ρ} (e : (rI g c q k).bind F = some out) (hd : ab_dc j pc = some (.getfield idx, a, k, b)) (hc : c = 100 + a) (hk : Nat.blt k (ab_cN a) = true ∧ defaultValue (ab_cty a k) = .int 0) (hz : Nat.ble (cs rest) 8 = true) (kk : ∀ v, F v = some out → wp X j (pc + 3) lv (.int v :: rest) (hp g) Q) : wp X j pc lv (.ref q :: rest) (hp g) Q := by
  obtain ⟨v, h1, h2⟩ := bd e
  subst hc
  obtain ⟨h3, rfl⟩ := if_some h1
  refine wp_get hd (hp_ob h3) (v := .int (gi g q k)) ?_ (by have := Nat.le_of_ble_eq_true hz; show 1 + cs rest ≤ 9; omega) (kk _ h2)
  rw [gF_get (blt_lt hk.1), hk.2]; rfl
theorem x_gL {F : Int64 → Option ρ} (e : (rL g c q k).bind F = some out) (hd : ab_dc j pc = some (.getfield idx, a, k, b)) (hc : c = 100 + a) (hk : Nat.blt k (ab_cN a) = true ∧ defaultValue (ab_cty a k) = .long 0) (hz : Nat.ble (cs rest) 7 = true) (kk : ∀ v, F v = some out → wp X j (pc + 3) lv (.long v :: rest) (hp g) Q) : wp X j pc lv (.ref q :: rest) (hp g) Q := by
  obtain ⟨v, h1, h2⟩ := bd e
  subst hc
  obtain ⟨h3, rfl⟩ := if_some h1
  refine wp_get hd (hp_ob h3) (v := .long (gj g q k)) ?_ (by have := Nat.le_of_ble_eq_true hz; show 2 + cs rest ≤ 9; omega) (kk _ h2)
  rw [gF_get (blt_lt hk.1), hk.2]; rfl
theorem va_rf_cat (r : Option Nat) : (va_rf r).category = 1 := by cases r <;> rfl
theorem x_gO {F : Option Nat → Option ρ} (e : (rO g c q k).bind F = some out) (hd : ab_dc j pc = some (.getfield idx, a, k, b)) (hc : c = 100 + a) (hk : Nat.blt k (ab_cN a) = true ∧ defaultValue (ab_cty a k) = .null) (hz : Nat.ble (cs rest) 8 = true) (kk : ∀ v, F v = some out → wp X j (pc + 3) lv (va_rf v :: rest) (hp g) Q) : wp X j pc lv (.ref q :: rest) (hp g) Q := by
  obtain ⟨v, h1, h2⟩ := bd e
  subst hc
  obtain ⟨h3, rfl⟩ := if_some h1
  refine wp_get hd (hp_ob h3) (v := va_rf (gr g q k)) ?_ (by have := Nat.le_of_ble_eq_true hz; show (va_rf (gr g q k)).category + cs rest ≤ 9; rw [va_rf_cat]; omega) (kk _ h2)
  rw [gF_get (blt_lt hk.1), hk.2]; rfl
theorem x_gQ {F : Nat → Option ρ} (e : (rQ g c q k).bind F = some out) (hd : ab_dc j pc = some (.getfield idx, a, k, b)) (hc : c = 100 + a) (hk : Nat.blt k (ab_cN a) = true ∧ defaultValue (ab_cty a k) = .null) (hz : Nat.ble (cs rest) 8 = true) (kk : ∀ v, F v = some out → wp X j (pc + 3) lv (.ref v :: rest) (hp g) Q) : wp X j pc lv (.ref q :: rest) (hp g) Q := by
  obtain ⟨v, h1, h2⟩ := bd e
  have h4 : (rO g c q k).bind (fun r => r.bind F) = some out := by
    unfold rQ at h1; unfold rO
    split at h1
    next h5 => rw [if_pos h5]; show (gr g q k).bind F = _; rw [h1]; exact h2
    next => cases h1
  refine x_gO h4 hd hc hk hz (fun r h5 => ?_)
  obtain ⟨v, rfl, h6⟩ := bd h5
  exact kk v h6
theorem x_pI {F : g_S → Option ρ} (e : (wI g c q k x).bind F = some out) (hd : ab_dc j pc = some (.putfield idx, a, k, b)) (hc : c = 100 + a) (hk : Nat.blt k (ab_cN a) = true ∧ ab_cty a k = .int) (hz : Nat.ble (cs rest) 9 = true) (kk : ∀ g', F g' = some out → wp X j (pc + 3) lv rest (hp g') Q) : wp X j pc lv (.int x :: .ref q :: rest) (hp g) Q := by
  obtain ⟨v, h1, h2⟩ := bd e
  subst hc
  obtain ⟨h3, rfl⟩ := if_some h1
  refine wp_put hd (hp_ob h3) (by rw [gF_len]; exact blt_lt hk.1) (by rw [hk.2]; rfl) (by rw [hk.2]; rfl) (Nat.le_of_ble_eq_true hz) ?_
  rw [hp_wI (x := 0) h3 (blt_lt hk.1) (by rw [hk.2]; rfl)]
  exact kk _ h2
theorem x_pZ {F : g_S → Option ρ} (e : (wZ g c q k x).bind F = some out) (hd : ab_dc j pc = some (.putfield idx, a, k, b)) (hc : c = 100 + a) (hk : Nat.blt k (ab_cN a) = true ∧ ab_cty a k = .boolean) (hz : Nat.ble (cs rest) 9 = true) (kk : ∀ g', F g' = some out → wp X j (pc + 3) lv rest (hp g') Q) : wp X j pc lv (.int x :: .ref q :: rest) (hp g) Q := by
  obtain ⟨v, h1, h2⟩ := bd e
  subst hc
  obtain ⟨⟨h3, h4⟩, rfl⟩ := if_some h1
  refine wp_put hd (hp_ob h3) (by rw [gF_len]; exact blt_lt hk.1) (by rw [hk.2]; exact nb_nar h4) (by rw [hk.2]; rcases h4 with rfl | rfl <;> rfl) (Nat.le_of_ble_eq_true hz) ?_
  rw [hp_wI (x := 0) h3 (blt_lt hk.1) (by rw [hk.2]; rfl)]
  exact kk _ h2
theorem x_pL {F : g_S → Option ρ} (e : (wL g c q k xl).bind F = some out) (hd : ab_dc j pc = some (.putfield idx, a, k, b)) (hc : c = 100 + a) (hk : Nat.blt k (ab_cN a) = true ∧ ab_cty a k = .long) (hz : Nat.ble (cs rest) 9 = true) (kk : ∀ g', F g' = some out → wp X j (pc + 3) lv rest (hp g') Q) : wp X j pc lv (.long xl :: .ref q :: rest) (hp g) Q := by
  obtain ⟨v, h1, h2⟩ := bd e
  subst hc
  obtain ⟨h3, rfl⟩ := if_some h1
  refine wp_put hd (hp_ob h3) (by rw [gF_len]; exact blt_lt hk.1) (by rw [hk.2]; rfl) (by rw [hk.2]; rfl) (Nat.le_of_ble_eq_true hz) ?_
  rw [hp_wL (x := 0) h3 (blt_lt hk.1) (by rw [hk.2]; rfl)]
  exact kk _ h2
theorem ref_ty {ty : FieldType} (h : defaultValue ty = .null) (r : Option Nat) : narrow ty (va_rf r) = va_rf r ∧ fits ty (va_rf r) = true := by
  cases ty <;> first | (cases r <;> exact ⟨rfl, rfl⟩) | cases h
theorem x_pR {F : g_S → Option ρ} {r : Option Nat} (e : (wR g c q k r).bind F = some out) (hd : ab_dc j pc = some (.putfield idx, a, k, b)) (hc : c = 100 + a) (hk : Nat.blt k (ab_cN a) = true ∧ defaultValue (ab_cty a k) = .null) (hz : Nat.ble (cs rest) 9 = true) (kk : ∀ g', F g' = some out → wp X j (pc + 3) lv rest (hp g') Q) : wp X j pc lv (va_rf r :: .ref q :: rest) (hp g) Q := by
  obtain ⟨v, h1, h2⟩ := bd e
  subst hc
  obtain ⟨h3, rfl⟩ := if_some h1
  refine wp_put hd (hp_ob h3) (by rw [gF_len]; exact blt_lt hk.1) (ref_ty hk.2 r).1 (ref_ty hk.2 r).2 (Nat.le_of_ble_eq_true hz) ?_
  rw [hp_wR h3 (blt_lt hk.1) hk.2]
  exact kk _ h2
theorem x_aI {F : Int32 → Option ρ} (e : (aI g 0 q i).bind F = some out) (hd : ab_dc j pc = some (.iaload, a, b, c)) (hz : Nat.ble (cs rest) 8 = true) (kk : ∀ v, F v = some out → wp X j (pc + 1) lv (.int v :: rest) (hp g) Q) : wp X j pc lv (.int i :: .ref q :: rest) (hp g) Q := by
  obtain ⟨v, h1, h2⟩ := bd e
  obtain ⟨⟨h3, h4⟩, rfl⟩ := if_some h1
  exact wp_iald hd (hp_ai h3 (by omega)) h4 (by have := Nat.le_of_ble_eq_true hz; show 1 + cs rest ≤ 9; omega) (kk _ h2)
theorem x_aB {F : Int32 → Option ρ} (e : (aI g t q i).bind F = some out) (hd : ab_dc j pc = some (.baload, a, b, c)) (ht : t = 1 ∨ t = 2) (hz : Nat.ble (cs rest) 8 = true) (kk : ∀ v, F v = some out → wp X j (pc + 1) lv (.int v :: rest) (hp g) Q) : wp X j pc lv (.int i :: .ref q :: rest) (hp g) Q := by
  obtain ⟨v, h1, h2⟩ := bd e
  obtain ⟨⟨h3, h4⟩, rfl⟩ := if_some h1
  exact wp_bald hd (hp_ai h3 (by omega)) ht h4 (by have := Nat.le_of_ble_eq_true hz; show 1 + cs rest ≤ 9; omega) (kk _ h2)
theorem x_aL {F : Int64 → Option ρ} (e : (aL g q i).bind F = some out) (hd : ab_dc j pc = some (.laload, a, b, c)) (hz : Nat.ble (cs rest) 7 = true) (kk : ∀ v, F v = some out → wp X j (pc + 1) lv (.long v :: rest) (hp g) Q) : wp X j pc lv (.int i :: .ref q :: rest) (hp g) Q := by
  obtain ⟨v, h1, h2⟩ := bd e
  obtain ⟨⟨h3, h4⟩, rfl⟩ := if_some h1
  exact wp_lald hd (hp_al h3) h4 (by have := Nat.le_of_ble_eq_true hz; show 2 + cs rest ≤ 9; omega) (kk _ h2)
theorem x_aQ {F : Nat → Option ρ} (e : (aQ g t q i).bind F = some out) (hd : ab_dc j pc = some (.aaload, a, b, c)) (ht : (Nat.ble 4 t && Nat.ble t 8) = true) (hz : Nat.ble (cs rest) 8 = true) (kk : ∀ v, F v = some out → wp X j (pc + 1) lv (.ref v :: rest) (hp g) Q) : wp X j pc lv (.int i :: .ref q :: rest) (hp g) Q := by
  rw [Bool.and_eq_true] at ht
  have ht : 4 ≤ t ∧ t ≤ 8 := ⟨Nat.le_of_ble_eq_true ht.1, Nat.le_of_ble_eq_true ht.2⟩
  obtain ⟨v, h1, h2⟩ := bd e
  unfold aQ at h1
  split at h1
  next h3 =>
    refine wp_aald hd (hp_aq h3.1 ht) ht h3.2 (by have := Nat.le_of_ble_eq_true hz; show (va_rf _).category + cs rest ≤ 9; rw [va_rf_cat]; omega) ?_
    rw [h1]
    exact kk v h2
  next => cases h1
theorem x_aN {F : Int32 → Option ρ} (e : (aN g q).bind F = some out) (hd : ab_dc j pc = some (.arraylength, a, b, c)) (hz : Nat.ble (cs rest) 8 = true) (kk : ∀ v, F v = some out → wp X j (pc + 1) lv (.int v :: rest) (hp g) Q) : wp X j pc lv (.ref q :: rest) (hp g) Q := by
  obtain ⟨v, h1, h2⟩ := bd e
  obtain ⟨h3, rfl⟩ := if_some h1
  refine wp_h hd rfl rfl (st' := .int (Int32.ofNat (gl g q)) :: rest) (h' := hp g) ?_ (by have := Nat.le_of_ble_eq_true hz; show 1 + cs rest ≤ 9; omega) (kk _ h2)
  show ab_hlen X (.ref q :: rest) (hp g) = _
  have h4 : (hp g)[q]? = some (.inl (gt g q, gl g q, gX g (gt g q) q)) := by
    rw [hp_get (t := gt g q) rfl (by omega)]
    have h5 := (gt_lt (g := g) (q := q) (t := gt g q) rfl (by omega)).2
    unfold gE
    rw [h5, show Nat.blt (gt g q) 100 = true from Nat.ble_eq_true_of_le (by omega)]
    rfl
  simp [ab_hlen, h4, h3]
theorem x_sI {F : g_S → Option ρ} (e : (sI g q i x).bind F = some out) (hd : ab_dc j pc = some (.iastore, a, b, c)) (hz : Nat.ble (cs rest) 9 = true) (kk : ∀ g', F g' = some out → wp X j (pc + 1) lv rest (hp g') Q) : wp X j pc lv (.int x :: .int i :: .ref q :: rest) (hp g) Q := by
  obtain ⟨v, h1, h2⟩ := bd e
  obtain ⟨⟨h3, h4⟩, rfl⟩ := if_some h1
  refine wp_iast hd (hp_ai h3 (by omega)) h4 (Nat.le_of_ble_eq_true hz) ?_
  rw [hp_sI h3 (by omega)]
  exact kk _ h2
theorem x_sB {F : g_S → Option ρ} (e : (sB g q i x).bind F = some out) (hd : ab_dc j pc = some (.bastore, a, b, c)) (hz : Nat.ble (cs rest) 9 = true) (kk : ∀ g', F g' = some out → wp X j (pc + 1) lv rest (hp g') Q) : wp X j pc lv (.int x :: .int i :: .ref q :: rest) (hp g) Q := by
  obtain ⟨v, h1, h2⟩ := bd e
  obtain ⟨⟨h3, h4⟩, rfl⟩ := if_some h1
  refine wp_bast hd (hp_ai h3 (by omega)) h4 (Nat.le_of_ble_eq_true hz) ?_
  rw [hp_sI h3 (by omega)]
  exact kk _ h2
theorem x_sZ {F : g_S → Option ρ} (e : (sZ g q i x).bind F = some out) (hd : ab_dc j pc = some (.bastore, a, b, c)) (hz : Nat.ble (cs rest) 9 = true) (kk : ∀ g', F g' = some out → wp X j (pc + 1) lv rest (hp g') Q) : wp X j pc lv (.int x :: .int i :: .ref q :: rest) (hp g) Q := by
  obtain ⟨v, h1, h2⟩ := bd e
  obtain ⟨⟨h3, h4⟩, rfl⟩ := if_some h1
  refine wp_zast hd (hp_ai h3 (by omega)) h4 (Nat.le_of_ble_eq_true hz) ?_
  rw [hp_sI h3 (by omega)]
  exact kk _ h2
theorem x_sL {F : g_S → Option ρ} (e : (sL g q i xl).bind F = some out) (hd : ab_dc j pc = some (.lastore, a, b, c)) (hz : Nat.ble (cs rest) 9 = true) (kk : ∀ g', F g' = some out → wp X j (pc + 1) lv rest (hp g') Q) : wp X j pc lv (.long xl :: .int i :: .ref q :: rest) (hp g) Q := by
  obtain ⟨v, h1, h2⟩ := bd e
  obtain ⟨⟨h3, h4⟩, rfl⟩ := if_some h1
  refine wp_h hd rfl rfl (st' := rest) (h' := hp (gwL g q i.toNatClampNeg xl)) ?_ (Nat.le_of_ble_eq_true hz) (kk _ h2)
  show ab_hlast (.long xl :: .int i :: .ref q :: rest) (hp g) = _
  simp only [ab_hlast, ab_al, hp_al h3, if_true, h4]
  rw [hp_sL h3]
theorem x_sQ {F : g_S → Option ρ} (e : (sQ g t q i w).bind F = some out) (hd : ab_dc j pc = some (.aastore, a, b, c)) (ht : (Nat.ble 4 t && Nat.ble t 8) = true) (hz : Nat.ble (cs rest) 9 = true) (kk : ∀ g', F g' = some out → wp X j (pc + 1) lv rest (hp g') Q) : wp X j pc lv (.ref w :: .int i :: .ref q :: rest) (hp g) Q := by
  rw [Bool.and_eq_true] at ht
  have ht : 4 ≤ t ∧ t ≤ 8 := ⟨Nat.le_of_ble_eq_true ht.1, Nat.le_of_ble_eq_true ht.2⟩
  obtain ⟨v, h1, h2⟩ := bd e
  obtain ⟨⟨h3, h5, h4⟩, rfl⟩ := if_some h1
  refine wp_aast hd (hp_aq h3 ht) (hp_ob h5) ⟨ht, rfl⟩ h4 (Nat.le_of_ble_eq_true hz) ?_
  rw [hp_sQ h3 ht]
  exact kk _ h2
theorem x_nO {F : Nat → g_S → Option ρ} (e : c2 (nO g c) F = some out) (hd : ab_dc j pc = some (.new idx, a, b, k)) (hc : c = 100 + a) (hz : Nat.ble (cs rest) 8 = true) (kk : ∀ v g', F v g' = some out → wp X j (pc + 3) lv (.ref v :: rest) (hp g') Q) : wp X j pc lv rest (hp g) Q := by
  obtain ⟨v, g', h1, h2⟩ := c2_some e
  subst hc
  obtain ⟨h3, h4⟩ := if_some h1
  cases h4
  refine wp_new hd (by rw [hp_len]; exact h3) (by have := Nat.le_of_ble_eq_true hz; show 1 + cs rest ≤ 9; omega) ?_
  rw [hp_newO, hp_len]
  exact kk _ _ h2
theorem x_nA {F : Nat → g_S → Option ρ} {at0 : ArrayType} (e : c2 (nA g t x) F = some out) (hd : ab_dc j pc = some (.newarray at0, a, b, c)) (ht : (match at0 with
    | .int => t = 0
    | .byte => t = 1
    | .boolean => t = 2
    | .long => t = 3
    | _ => False)) (hz : Nat.ble (cs rest) 8 = true) (kk : ∀ v g', F v g' = some out → wp X j (pc + 2) lv (.ref v :: rest) (hp g') Q) : wp X j pc lv (.int x :: rest) (hp g) Q := by
  obtain ⟨v, g', h1, h2⟩ := c2_some e
  obtain ⟨⟨h3, h4, h5⟩, h6⟩ := if_some h1
  cases h6
  have hz' : 1 + cs rest ≤ 9 := by have := Nat.le_of_ble_eq_true hz; omega
  have hl : (hp g).length < 1000000 := by rw [hp_len]; exact h5
  cases at0
  case int =>
    subst ht
    refine wp_newi (m := x.toNatClampNeg) hd hl h3 rfl h4 hz' ?_
    rw [hp_newA (by omega), hp_len]
    exact kk _ _ h2
  case byte =>
    subst ht
    refine wp_newb (m := x.toNatClampNeg) hd hl h3 rfl h4 hz' ?_
    rw [hp_newA (by omega), hp_len]
    exact kk _ _ h2
  case boolean =>
    subst ht
    refine wp_newz (m := x.toNatClampNeg) hd hl h3 rfl h4 hz' ?_
    rw [hp_newA (by omega), hp_len]
    exact kk _ _ h2
  case long =>
    subst ht
    refine wp_newl (m := x.toNatClampNeg) hd hl h3 rfl h4 hz' ?_
    rw [hp_newL, hp_len]
    exact kk _ _ h2
  all_goals exact ht.elim
theorem x_nQ {F : Nat → g_S → Option ρ} (e : c2 (nA g t x) F = some out) (hd : ab_dc j pc = some (.anewarray idx, t, b, c)) (ht : (Nat.ble 4 t && Nat.ble t 8) = true) (hz : Nat.ble (cs rest) 8 = true) (kk : ∀ v g', F v g' = some out → wp X j (pc + 3) lv (.ref v :: rest) (hp g') Q) : wp X j pc lv (.int x :: rest) (hp g) Q := by
  rw [Bool.and_eq_true] at ht
  have ht : 4 ≤ t ∧ t ≤ 8 := ⟨Nat.le_of_ble_eq_true ht.1, Nat.le_of_ble_eq_true ht.2⟩
  obtain ⟨v, g', h1, h2⟩ := c2_some e
  obtain ⟨⟨h3, h4, h5⟩, h6⟩ := if_some h1
  cases h6
  refine wp_newq (m := x.toNatClampNeg) hd (by rw [hp_len]; exact h5) h3 rfl h4 (by have := Nat.le_of_ble_eq_true hz; show 1 + cs rest ≤ 9; omega) ?_
  rw [hp_newQ ht, hp_len]
  exact kk _ _ h2
theorem x_cp {F : g_S → Option ρ} {q0 q1 : Nat} {sp dp : Int32} (e : (cp g t q0 sp q1 dp n).bind F = some out) (hd : ab_dc j pc = some (.invokestatic idx, a, b, 4)) (ht : t = 0 ∨ t = 1) (hz : Nat.ble (cs rest) 9 = true) (kk : ∀ g', F g' = some out → wp X j (pc + 3) lv rest (hp g') Q) : wp X j pc lv (.int n :: .int dp :: .ref q1 :: .int sp :: .ref q0 :: rest) (hp g) Q := by
  obtain ⟨v, h1, h2⟩ := bd e
  obtain ⟨⟨h3, h4, h5, h6⟩, rfl⟩ := if_some h1
  have ht2 : t ≤ 2 := by omega
  refine wp_h hd rfl rfl (st' := rest) (h' := hp (gwA g q1 (va_cpy (gi g q0) (gi g q1) sp.toNatClampNeg dp.toNatClampNeg n.toNatClampNeg))) ?_ (Nat.le_of_ble_eq_true hz) (kk _ h2)
  show ab_hcopy (.int n :: .int dp :: .ref q1 :: .int sp :: .ref q0 :: rest) (hp g) = _
  simp only [ab_hcopy, ab_ai, hp_ai h3 ht2, hp_ai h4 ht2]
  rw [if_pos ⟨by omega, h5, h6⟩, hp_sA h4 ht2]
theorem x_mx (hd : ab_dc j pc = some (.invokestatic idx, a, b, 2)) (hz : Nat.ble (cs rest) 8 = true) (kk : wp X j (pc + 3) lv (.int (mx x y) :: rest) (hp g) Q) : wp X j pc lv (.int y :: .int x :: rest) (hp g) Q :=
  wp_h hd rfl rfl (st' := .int (mx x y) :: rest) (h' := hp g) rfl (by have := Nat.le_of_ble_eq_true hz; show 1 + cs rest ≤ 9; omega) kk
theorem x_mn (hd : ab_dc j pc = some (.invokestatic idx, a, b, 3)) (hz : Nat.ble (cs rest) 8 = true) (kk : wp X j (pc + 3) lv (.int (mn x y) :: rest) (hp g) Q) : wp X j pc lv (.int y :: .int x :: rest) (hp g) Q :=
  wp_h hd rfl rfl (st' := .int (mn x y) :: rest) (h' := hp g) rfl (by have := Nat.le_of_ble_eq_true hz; show 1 + cs rest ≤ 9; omega) kk
theorem x_tN {F : Int32 → Option ρ} (e : (tN q).bind F = some out) (hd : ab_dc j pc = some (.invokevirtual idx, a, b, 7)) (hz : Nat.ble (cs rest) 8 = true) (kk : ∀ v, F v = some out → wp X j (pc + 3) lv (.int v :: rest) (hp g) Q) : wp X j pc lv (.ref q :: rest) (hp g) Q := by
  obtain ⟨v, h1, h2⟩ := bd e
  unfold tN at h1
  obtain ⟨bs, h3, rfl⟩ := Option.map_eq_some_iff.mp h1
  refine wp_h hd rfl rfl (st' := .int (nI bs.length) :: rest) (h' := hp g) ?_ (by have := Nat.le_of_ble_eq_true hz; show 1 + cs rest ≤ 9; omega) (kk _ h2)
  show ab_hslen ab_sbt (.ref q :: rest) (hp g) = _
  simp only [ab_hslen, h3]
theorem x_tC {F : Int32 → Option ρ} (e : (tC q i).bind F = some out) (hd : ab_dc j pc = some (.invokevirtual idx, a, b, 8)) (hz : Nat.ble (cs rest) 8 = true) (kk : ∀ v, F v = some out → wp X j (pc + 3) lv (.int v :: rest) (hp g) Q) : wp X j pc lv (.int i :: .ref q :: rest) (hp g) Q := by
  obtain ⟨v, h1, h2⟩ := bd e
  unfold tC at h1
  obtain ⟨bs, h3, h4⟩ := bd h1
  obtain ⟨h5, rfl⟩ := if_some h4
  refine wp_h hd rfl rfl (st' := .int (bs.getD i.toNatClampNeg 0 &&& 255) :: rest) (h' := hp g) ?_ (by have := Nat.le_of_ble_eq_true hz; show 1 + cs rest ≤ 9; omega) (kk _ h2)
  show ab_hsat ab_sbt (.int i :: .ref q :: rest) (hp g) = _
  simp only [ab_hsat, h3, h5, if_true]
theorem x_tS {L : Nat} {xs : Nat → Int32} {F : Int32 → Option ρ} (e : (tS g q i).bind F = some out) (hd : ab_dc j pc = some (.iaload, a, b, c)) (hz : Nat.ble (cs rest) 8 = true) (kk : ∀ v, F v = some out → wp (ab_ext L xs) j (pc + 1) lv (.int v :: rest) (hp g) Q) : wp (ab_ext L xs) j pc lv (.int i :: .ref q :: rest) (hp g) Q := by
  obtain ⟨v, h1, h2⟩ := bd e
  unfold tS at h1
  split at h1
  next h3 =>
    refine wp_h hd rfl rfl (st' := .int v :: rest) (h' := hp g) ?_ (by have := Nat.le_of_ble_eq_true hz; show 1 + cs rest ≤ 9; omega) (kk _ h2)
    show ab_hiald (ab_ext L xs) (.int i :: .ref q :: rest) (hp g) = _
    split at h1
    next h4 =>
      subst h4
      cases h1
      have h5 : (hp g)[2000001]? = none := hp_none (by omega)
      simp [ab_hiald, ab_ai, h5, ab_ext, h3.2]
    next h4 =>
      split at h1
      next h6 =>
        subst h6
        cases h1
        have h5 : (hp g)[2000002]? = none := hp_none (by omega)
        simp [ab_hiald, ab_ai, h5, ab_ext, h3.2]
      next => cases h1
  next => cases h1
theorem x_gs (hd : ab_dc j pc = some (.getstatic idx, a, b, c)) (hz : Nat.ble (cs rest) 8 = true) (kk : wp X j (pc + 3) lv (.ref a :: rest) (hp g) Q) : wp X j pc lv rest (hp g) Q :=
  wp_h hd rfl rfl (st' := .ref a :: rest) (h' := hp g) rfl (by have := Nat.le_of_ble_eq_true hz; show 1 + cs rest ≤ 9; omega) kk
theorem x_ld (hd : ab_dc j pc = some (.ldc idx, a, b, 0)) (hx : Int32.ofNat a = x) (hz : Nat.ble (cs rest) 8 = true) (kk : wp X j (pc + 2) lv (.int x :: rest) (hp g) Q) : wp X j pc lv rest (hp g) Q := by
  subst hx
  exact wp_h hd rfl rfl (st' := .int (Int32.ofNat a) :: rest) (h' := hp g) rfl (by have := Nat.le_of_ble_eq_true hz; show 1 + cs rest ≤ 9; omega) kk
theorem x_ls (hd : ab_dc j pc = some (.ldc idx, a, b, 1)) (hz : Nat.ble (cs rest) 8 = true) (kk : wp X j (pc + 2) lv (.ref a :: rest) (hp g) Q) : wp X j pc lv rest (hp g) Q :=
  wp_h hd rfl rfl (st' := .ref a :: rest) (h' := hp g) rfl (by have := Nat.le_of_ble_eq_true hz; show 1 + cs rest ≤ 9; omega) kk
theorem x_ldw (hd : ab_dc j pc = some (.ldc_w idx, a, b, 0)) (hx : Int32.ofNat a = x) (hz : Nat.ble (cs rest) 8 = true) (kk : wp X j (pc + 3) lv (.int x :: rest) (hp g) Q) : wp X j pc lv rest (hp g) Q := by
  subst hx
  exact wp_h hd rfl rfl (st' := .int (Int32.ofNat a) :: rest) (h' := hp g) rfl (by have := Nat.le_of_ble_eq_true hz; show 1 + cs rest ≤ 9; omega) kk
theorem x_lsw (hd : ab_dc j pc = some (.ldc_w idx, a, b, 1)) (hz : Nat.ble (cs rest) 8 = true) (kk : wp X j (pc + 3) lv (.ref a :: rest) (hp g) Q) : wp X j pc lv rest (hp g) Q :=
  wp_h hd rfl rfl (st' := .ref a :: rest) (h' := hp g) rfl (by have := Nat.le_of_ble_eq_true hz; show 1 + cs rest ≤ 9; omega) kk
theorem x_l2 (hd : ab_dc j pc = some (.ldc2_w idx, a, b, c)) (hx : Int64.ofNat a = xl) (hz : Nat.ble (cs rest) 7 = true) (kk : wp X j (pc + 3) lv (.long xl :: rest) (hp g) Q) : wp X j pc lv rest (hp g) Q := by
  subst hx
  exact wp_h hd rfl rfl (st' := .long (Int64.ofNat a) :: rest) (h' := hp g) rfl (by have := Nat.le_of_ble_eq_true hz; show 2 + cs rest ≤ 9; omega) kk
theorem x_dv {F : Int32 → Option ρ} (e : (dv x y).bind F = some out) (hd : ab_dc j pc = some (.idiv, a, b, c)) (kk : ∀ v, F v = some out → wp X j (pc + 1) lv (.int v :: rest) (hp g) Q) : wp X j pc lv (.int y :: .int x :: rest) (hp g) Q := by
  obtain ⟨v, h1, h2⟩ := bd e
  unfold dv at h1
  split at h1
  next => cases h1
  next h3 =>
    cases h1
    refine wp_s hd (show (if y = 0 then none else some (lv, Value.int (x / y) :: rest)) = some (lv, Value.int (x / y) :: rest) from if_neg h3) (kk _ h2)
theorem x_rm {F : Int32 → Option ρ} (e : (rm x y).bind F = some out) (hd : ab_dc j pc = some (.irem, a, b, c)) (kk : ∀ v, F v = some out → wp X j (pc + 1) lv (.int v :: rest) (hp g) Q) : wp X j pc lv (.int y :: .int x :: rest) (hp g) Q := by
  obtain ⟨v, h1, h2⟩ := bd e
  unfold rm at h1
  split at h1
  next => cases h1
  next h3 =>
    cases h1
    refine wp_s hd (show (if y = 0 then none else some (lv, Value.int (x - x / y * y) :: rest)) = some (lv, Value.int (x - x / y * y) :: rest) from if_neg h3) (kk _ h2)
/-! branches: A where the condition holds -/
theorem x_if {p : Prop} [Decidable p] {A B : Option ρ} {P : Prop} (e : (if p then A else B) = some out) (ka : p → A = some out → P) (kb : ¬ p → B = some out → P) : P := by
  by_cases h : p
  · rw [if_pos h] at e; exact ka h e
  · rw [if_neg h] at e; exact kb h e
theorem x_lt {A B : Option ρ} (e : (if x < y then A else B) = some out) (hd : ab_dc j pc = some (.if_icmp .lt off, a, b, c)) (ka : A = some out → wp X j a lv rest (hp g) Q) (kb : B = some out → wp X j (pc + 3) lv rest (hp g) Q) : wp X j pc lv (.int y :: .int x :: rest) (hp g) Q :=
  wp_if2 hd (fun h => ka (by rw [if_pos (ab_ltT h)] at e; exact e)) (fun h => kb (by rw [if_neg (ab_ltF h)] at e; exact e))
theorem x_ge {A B : Option ρ} (e : (if x < y then A else B) = some out) (hd : ab_dc j pc = some (.if_icmp .ge off, a, b, c)) (ka : A = some out → wp X j (pc + 3) lv rest (hp g) Q) (kb : B = some out → wp X j a lv rest (hp g) Q) : wp X j pc lv (.int y :: .int x :: rest) (hp g) Q :=
  wp_if2 hd (fun h => kb (by rw [if_neg (Int32.not_lt.mpr (ab_geT h))] at e; exact e)) (fun h => ka (by rw [if_pos (Int32.not_le.mp (ab_geF h))] at e; exact e))
theorem x_gt {A B : Option ρ} (e : (if y < x then A else B) = some out) (hd : ab_dc j pc = some (.if_icmp .gt off, a, b, c)) (ka : A = some out → wp X j a lv rest (hp g) Q) (kb : B = some out → wp X j (pc + 3) lv rest (hp g) Q) : wp X j pc lv (.int y :: .int x :: rest) (hp g) Q :=
  wp_if2 hd (fun h => ka (by rw [if_pos (ab_gtT h)] at e; exact e)) (fun h => kb (by rw [if_neg (ab_gtF h)] at e; exact e))
theorem x_le {A B : Option ρ} (e : (if y < x then A else B) = some out) (hd : ab_dc j pc = some (.if_icmp .le off, a, b, c)) (ka : A = some out → wp X j (pc + 3) lv rest (hp g) Q) (kb : B = some out → wp X j a lv rest (hp g) Q) : wp X j pc lv (.int y :: .int x :: rest) (hp g) Q :=
  wp_if2 hd (fun h => kb (by rw [if_neg (Int32.not_lt.mpr (ab_leT h))] at e; exact e)) (fun h => ka (by rw [if_pos (Int32.not_le.mp (ab_leF h))] at e; exact e))
theorem x_eq {A B : Option ρ} (e : (if x = y then A else B) = some out) (hd : ab_dc j pc = some (.if_icmp .eq off, a, b, c)) (ka : A = some out → wp X j a lv rest (hp g) Q) (kb : B = some out → wp X j (pc + 3) lv rest (hp g) Q) : wp X j pc lv (.int y :: .int x :: rest) (hp g) Q :=
  wp_if2 hd (fun h => ka (by rw [if_pos (ab_eqT h)] at e; exact e)) (fun h => kb (by rw [if_neg (ab_eqF h)] at e; exact e))
theorem x_ne {A B : Option ρ} (e : (if x = y then A else B) = some out) (hd : ab_dc j pc = some (.if_icmp .ne off, a, b, c)) (ka : A = some out → wp X j (pc + 3) lv rest (hp g) Q) (kb : B = some out → wp X j a lv rest (hp g) Q) : wp X j pc lv (.int y :: .int x :: rest) (hp g) Q :=
  wp_if2 hd (fun h => kb (by rw [if_neg (ab_neT h)] at e; exact e)) (fun h => ka (by rw [if_pos (ab_neF h)] at e; exact e))
theorem z_lt {A B : Option ρ} (e : (if x < 0 then A else B) = some out) (hd : ab_dc j pc = some (.ifCond .lt off, a, b, c)) (ka : A = some out → wp X j a lv rest (hp g) Q) (kb : B = some out → wp X j (pc + 3) lv rest (hp g) Q) : wp X j pc lv (.int x :: rest) (hp g) Q :=
  wp_if1 hd (fun h => ka (by rw [if_pos (ab_ltT h)] at e; exact e)) (fun h => kb (by rw [if_neg (ab_ltF h)] at e; exact e))
theorem z_ge {A B : Option ρ} (e : (if x < 0 then A else B) = some out) (hd : ab_dc j pc = some (.ifCond .ge off, a, b, c)) (ka : A = some out → wp X j (pc + 3) lv rest (hp g) Q) (kb : B = some out → wp X j a lv rest (hp g) Q) : wp X j pc lv (.int x :: rest) (hp g) Q :=
  wp_if1 hd (fun h => kb (by rw [if_neg (Int32.not_lt.mpr (ab_geT h))] at e; exact e)) (fun h => ka (by rw [if_pos (Int32.not_le.mp (ab_geF h))] at e; exact e))
theorem z_gt {A B : Option ρ} (e : (if 0 < x then A else B) = some out) (hd : ab_dc j pc = some (.ifCond .gt off, a, b, c)) (ka : A = some out → wp X j a lv rest (hp g) Q) (kb : B = some out → wp X j (pc + 3) lv rest (hp g) Q) : wp X j pc lv (.int x :: rest) (hp g) Q :=
  wp_if1 hd (fun h => ka (by rw [if_pos (ab_gtT h)] at e; exact e)) (fun h => kb (by rw [if_neg (ab_gtF h)] at e; exact e))
theorem z_le {A B : Option ρ} (e : (if 0 < x then A else B) = some out) (hd : ab_dc j pc = some (.ifCond .le off, a, b, c)) (ka : A = some out → wp X j (pc + 3) lv rest (hp g) Q) (kb : B = some out → wp X j a lv rest (hp g) Q) : wp X j pc lv (.int x :: rest) (hp g) Q :=
  wp_if1 hd (fun h => kb (by rw [if_neg (Int32.not_lt.mpr (ab_leT h))] at e; exact e)) (fun h => ka (by rw [if_pos (Int32.not_le.mp (ab_leF h))] at e; exact e))
theorem z_eq {A B : Option ρ} (e : (if x = 0 then A else B) = some out) (hd : ab_dc j pc = some (.ifCond .eq off, a, b, c)) (ka : A = some out → wp X j a lv rest (hp g) Q) (kb : B = some out → wp X j (pc + 3) lv rest (hp g) Q) : wp X j pc lv (.int x :: rest) (hp g) Q :=
  wp_if1 hd (fun h => ka (by rw [if_pos (ab_eqT h)] at e; exact e)) (fun h => kb (by rw [if_neg (ab_eqF h)] at e; exact e))
theorem z_ne {A B : Option ρ} (e : (if x = 0 then A else B) = some out) (hd : ab_dc j pc = some (.ifCond .ne off, a, b, c)) (ka : A = some out → wp X j (pc + 3) lv rest (hp g) Q) (kb : B = some out → wp X j a lv rest (hp g) Q) : wp X j pc lv (.int x :: rest) (hp g) Q :=
  wp_if1 hd (fun h => kb (by rw [if_neg (ab_neT h)] at e; exact e)) (fun h => ka (by rw [if_pos (ab_neF h)] at e; exact e))
/-! calls: f says what value the answer is -/
theorem x_cs2 {F : α → g_S → Option ρ} {M : Option (α × g_S)} {As : List Value} (f : α → Value) (e : c2 M F = some out) (hd : ab_dc j pc = some (.invokestatic idx, a, As.length, c)) (hc : Nat.ble c 1 = true) (hst : st = As.reverse ++ rest) (h1 : Nat.ble (lg_sl As).length (ab_mt a).2.2.1 = true) (h2 : Nat.ble (cs rest) 8 = true) (hm : ∀ {o : α × g_S}, M = some o → mw X a As (hp g) (fun r h => r = some (f o.1) ∧ h = hp o.2)) (kk : ∀ v g', F v g' = some out → wp X j (pc + 3) lv (f v :: rest) (hp g') Q) : wp X j pc lv st (hp g) Q := by
  obtain ⟨v, g', e1, e2⟩ := c2_some e
  refine wp_cs hd (Nat.le_of_ble_eq_true hc) hst (Nat.le_of_ble_eq_true h1) (Nat.le_of_ble_eq_true h2) (hm e1) (fun r h ⟨hr, hh⟩ => ?_)
  subst hr hh
  exact kk v g' e2
theorem x_cs1 {F : α → Option ρ} {M : Option α} {As : List Value} (f : α → Value) (e : M.bind F = some out) (hd : ab_dc j pc = some (.invokestatic idx, a, As.length, c)) (hc : Nat.ble c 1 = true) (hst : st = As.reverse ++ rest) (h1 : Nat.ble (lg_sl As).length (ab_mt a).2.2.1 = true) (h2 : Nat.ble (cs rest) 8 = true) (hm : ∀ {o : α}, M = some o → mw X a As (hp g) (fun r h => r = some (f o) ∧ h = hp g)) (kk : ∀ v, F v = some out → wp X j (pc + 3) lv (f v :: rest) (hp g) Q) : wp X j pc lv st (hp g) Q := by
  obtain ⟨v, e1, e2⟩ := bd e
  refine wp_cs hd (Nat.le_of_ble_eq_true hc) hst (Nat.le_of_ble_eq_true h1) (Nat.le_of_ble_eq_true h2) (hm e1) (fun r h ⟨hr, hh⟩ => ?_)
  subst hr hh
  exact kk v e2
theorem x_cs0 {F : g_S → Option ρ} {M : Option g_S} {As : List Value} (e : M.bind F = some out) (hd : ab_dc j pc = some (.invokestatic idx, a, As.length, c)) (hc : Nat.ble c 1 = true) (hst : st = As.reverse ++ rest) (h1 : Nat.ble (lg_sl As).length (ab_mt a).2.2.1 = true) (h2 : Nat.ble (cs rest) 8 = true) (hm : ∀ {o : g_S}, M = some o → mw X a As (hp g) (fun r h => r = none ∧ h = hp o)) (kk : ∀ g', F g' = some out → wp X j (pc + 3) lv rest (hp g') Q) : wp X j pc lv st (hp g) Q := by
  obtain ⟨v, e1, e2⟩ := bd e
  refine wp_cs hd (Nat.le_of_ble_eq_true hc) hst (Nat.le_of_ble_eq_true h1) (Nat.le_of_ble_eq_true h2) (hm e1) (fun r h ⟨hr, hh⟩ => ?_)
  subst hr hh
  exact kk v e2
theorem vc_some {g : g_S} {c q : Nat} {m : Option α} {o : α} (h : vc g c q m = some o) : gt g q = c ∧ m = some o := by
  unfold vc at h
  split at h
  next h1 => exact ⟨h1, h⟩
  next => cases h
theorem x_cv2 {F : α → g_S → Option ρ} {M : Option (α × g_S)} {As : List Value} {cc : Nat} (f : α → Value) (e : c2 (vc g cc q M) F = some out) (hd : ab_dc j pc = some (.invokevirtual idx, a, As.length, c)) (hcc : cc = 100 + (ab_mt a).2.2.2.2.2.2) (hc : Nat.ble c 1 = true) (hst : st = As.reverse ++ .ref q :: rest) (h1 : Nat.ble (lg_sl (.ref q :: As)).length (ab_mt a).2.2.1 = true) (h2 : Nat.ble (cs rest) 8 = true) (hm : ∀ {o : α × g_S}, M = some o → mw X a (.ref q :: As) (hp g) (fun r h => r = some (f o.1) ∧ h = hp o.2)) (kk : ∀ v g', F v g' = some out → wp X j (pc + 3) lv (f v :: rest) (hp g') Q) : wp X j pc lv st (hp g) Q := by
  obtain ⟨v, g', e1, e2⟩ := c2_some e
  obtain ⟨e3, e4⟩ := vc_some e1
  subst hcc
  refine wp_cv hd (Nat.le_of_ble_eq_true hc) hst (hp_ob e3) (Nat.le_of_ble_eq_true h1) (Nat.le_of_ble_eq_true h2) (hm e4) (fun r h ⟨hr, hh⟩ => ?_)
  subst hr hh
  exact kk v g' e2
theorem x_cv1 {F : α → Option ρ} {M : Option α} {As : List Value} {cc : Nat} (f : α → Value) (e : (vc g cc q M).bind F = some out) (hd : ab_dc j pc = some (.invokevirtual idx, a, As.length, c)) (hcc : cc = 100 + (ab_mt a).2.2.2.2.2.2) (hc : Nat.ble c 1 = true) (hst : st = As.reverse ++ .ref q :: rest) (h1 : Nat.ble (lg_sl (.ref q :: As)).length (ab_mt a).2.2.1 = true) (h2 : Nat.ble (cs rest) 8 = true) (hm : ∀ {o : α}, M = some o → mw X a (.ref q :: As) (hp g) (fun r h => r = some (f o) ∧ h = hp g)) (kk : ∀ v, F v = some out → wp X j (pc + 3) lv (f v :: rest) (hp g) Q) : wp X j pc lv st (hp g) Q := by
  obtain ⟨v, e1, e2⟩ := bd e
  obtain ⟨e3, e4⟩ := vc_some e1
  subst hcc
  refine wp_cv hd (Nat.le_of_ble_eq_true hc) hst (hp_ob e3) (Nat.le_of_ble_eq_true h1) (Nat.le_of_ble_eq_true h2) (hm e4) (fun r h ⟨hr, hh⟩ => ?_)
  subst hr hh
  exact kk v e2
theorem x_cv0 {F : g_S → Option ρ} {M : Option g_S} {As : List Value} {cc : Nat} (e : (vc g cc q M).bind F = some out) (hd : ab_dc j pc = some (.invokevirtual idx, a, As.length, c)) (hcc : cc = 100 + (ab_mt a).2.2.2.2.2.2) (hc : Nat.ble c 1 = true) (hst : st = As.reverse ++ .ref q :: rest) (h1 : Nat.ble (lg_sl (.ref q :: As)).length (ab_mt a).2.2.1 = true) (h2 : Nat.ble (cs rest) 8 = true) (hm : ∀ {o : g_S}, M = some o → mw X a (.ref q :: As) (hp g) (fun r h => r = none ∧ h = hp o)) (kk : ∀ g', F g' = some out → wp X j (pc + 3) lv rest (hp g') Q) : wp X j pc lv st (hp g) Q := by
  obtain ⟨v, e1, e2⟩ := bd e
  obtain ⟨e3, e4⟩ := vc_some e1
  subst hcc
  refine wp_cv hd (Nat.le_of_ble_eq_true hc) hst (hp_ob e3) (Nat.le_of_ble_eq_true h1) (Nat.le_of_ble_eq_true h2) (hm e4) (fun r h ⟨hr, hh⟩ => ?_)
  subst hr hh
  exact kk v e2
theorem x_ci0 {F : g_S → Option ρ} {M : Option g_S} {As : List Value} (e : M.bind F = some out) (hd : ab_dc j pc = some (.invokespecial idx, a, As.length, c)) (hc : Nat.ble c 1 = true) (hst : st = As.reverse ++ .ref q :: rest) (h1 : Nat.ble (lg_sl (.ref q :: As)).length (ab_mt a).2.2.1 = true) (h2 : Nat.ble (cs rest) 8 = true) (hm : ∀ {o : g_S}, M = some o → mw X a (.ref q :: As) (hp g) (fun r h => r = none ∧ h = hp o)) (kk : ∀ g', F g' = some out → wp X j (pc + 3) lv rest (hp g') Q) : wp X j pc lv st (hp g) Q := by
  obtain ⟨v, e1, e2⟩ := bd e
  refine wp_ci hd (Nat.le_of_ble_eq_true hc) hst (Nat.le_of_ble_eq_true h1) (Nat.le_of_ble_eq_true h2) (hm e1) (fun r h ⟨hr, hh⟩ => ?_)
  subst hr hh
  exact kk v e2
end XR
/-! switches -/
def sw_no (x : Int32) : List Int32 → Prop
  | [] => True
  | c :: r => ¬ x = c ∧ sw_no x r
theorem sw_mem {x : Int32} : ∀ {l : List Int32}, sw_no x l → ∀ c ∈ l, ¬ x = c := by
  intro l
  induction l with
  | nil => intro _ c hc; cases hc
  | cons d r ih =>
    intro h c hc
    rcases List.mem_cons.mp hc with rfl | hc
    · exact h.1
    · exact ih h.2 c hc
theorem ts_d {x : Int32} {lo hi d : Int} {offs : Array Int} {a pc : Nat} {rest : List Value} (n : Nat) (hn : hi = lo + n - 1) (h : sw_no x ((List.range n).map (fun k => Int32.ofInt (lo + (k : Nat))))) : ab_b (.tableswitch d lo hi offs) a pc (.int x :: rest) = ab_tgt pc d rest := by
  have h1 : x.toInt < lo ∨ hi < x.toInt := by
    refine Classical.byContradiction (fun hc => ?_)
    have hk : (x.toInt - lo).toNat < n := by omega
    refine sw_mem h (Int32.ofInt (lo + ((x.toInt - lo).toNat : Nat))) (List.mem_map.mpr ⟨_, List.mem_range.mpr hk, rfl⟩) ?_
    rw [show lo + ((x.toInt - lo).toNat : Nat) = x.toInt from by omega, Int32.ofInt_toInt]
  show (if x.toInt < lo ∨ hi < x.toInt then ab_tgt pc d rest else _) = _
  rw [if_pos h1]
theorem lk_off {x : Int32} {d : Int} : ∀ {l : List (Int × Int)}, sw_no x (l.map (fun z => Int32.ofInt z.1)) → Op.lookupswitch.offset l d x.toInt = d := by
  intro l
  induction l with
  | nil => intro _; rfl
  | cons z r ih =>
    intro h
    show (if z.1 = x.toInt then z.2 else Op.lookupswitch.offset r d x.toInt) = d
    rw [if_neg (fun hz => h.1 (by show x = Int32.ofInt z.1; rw [hz, Int32.ofInt_toInt])), ih h.2]
theorem lk_d {x : Int32} {d : Int} {ps : Array (Int × Int)} {a pc : Nat} {rest : List Value} (hs : (ps.toList.zip (ps.toList.drop 1)).all (fun (a, next) => a.1 < next.1) = true) (h : sw_no x (ps.toList.map (fun z => Int32.ofInt z.1))) : ab_b (.lookupswitch d ps) a pc (.int x :: rest) = ab_tgt pc d rest := by
  show (if _ then ab_tgt pc (Op.lookupswitch.offset ps.toList d x.toInt) rest else none) = _
  rw [if_pos hs, lk_off h]
theorem x_sw {X : Nat → Option (Nat × (Nat → Int32))} {j pc pc' a b c : Nat} {ir : Instr} {x cst : Int32} {lv : ab_L} {rest : List Value} {h : ab_H} {Q : Option Value → ab_H → Prop} (hx : x = cst) (hd : ab_dc j pc = some (ir, a, b, c)) (h1 : ab_s (ab_mt j).2.2.1 ir lv (.int cst :: rest) = none) (hs : ab_b ir a pc (.int cst :: rest) = some (pc', rest)) (kk : wp X j pc' lv rest h Q) : wp X j pc lv (.int x :: rest) h Q := by
  subst hx
  exact wp_b hd h1 hs kk
theorem tz_ok {ρ : Type} {x : Int32} {F : Int32 → Option ρ} {out : ρ} (e : (tz x).bind F = some out) : narrow .boolean (.int x) = .int x ∧ F x = some out := by
  obtain ⟨u, h1, h2⟩ := bd e
  obtain ⟨h3, rfl⟩ := if_some h1
  exact ⟨nb_nar h3, h2⟩
theorem us_l {α β ρ : Type} {F : α → Option ρ} {G : β → Option ρ} {a : α} {out : ρ} (e : us F G (.inl a) = some out) : F a = some out := e
theorem us_r {α β ρ : Type} {F : α → Option ρ} {G : β → Option ρ} {a : β} {out : ρ} (e : us F G (.inr a) = some out) : G a = some out := e
theorem oc_n {ρ : Type} {A : Nat → Option ρ} {B : Option ρ} {out : ρ} (e : oc none A B = some out) : B = some out := e
theorem oc_s {ρ : Type} {A : Nat → Option ρ} {B : Option ρ} {q : Nat} {out : ρ} (e : oc (some q) A B = some out) : A q = some out := e
theorem u2_e {α β ρ : Type} {F : α → β → Option ρ} {x0 : α} {x1 : β} {out : ρ} (e : u2 F (x0, x1) = some out) : F x0 x1 = some out := e
theorem u3_e {α β γ ρ : Type} {F : α → β → γ → Option ρ} {x0 : α} {x1 : β} {x2 : γ} {out : ρ} (e : u3 F (x0, x1, x2) = some out) : F x0 x1 x2 = some out := e
theorem u4_e {α β γ δ ρ : Type} {F : α → β → γ → δ → Option ρ} {x0 : α} {x1 : β} {x2 : γ} {x3 : δ} {out : ρ} (e : u4 F (x0, x1, x2, x3) = some out) : F x0 x1 x2 x3 = some out := e
theorem u5_e {α β γ δ ε ρ : Type} {F : α → β → γ → δ → ε → Option ρ} {x0 : α} {x1 : β} {x2 : γ} {x3 : δ} {x4 : ε} {out : ρ} (e : u5 F (x0, x1, x2, x3, x4) = some out) : F x0 x1 x2 x3 x4 = some out := e
theorem u6_e {α β γ δ ε ζ ρ : Type} {F : α → β → γ → δ → ε → ζ → Option ρ} {x0 : α} {x1 : β} {x2 : γ} {x3 : δ} {x4 : ε} {x5 : ζ} {out : ρ} (e : u6 F (x0, x1, x2, x3, x4, x5) = some out) : F x0 x1 x2 x3 x4 x5 = some out := e
theorem u7_e {α β γ δ ε ζ η ρ : Type} {F : α → β → γ → δ → ε → ζ → η → Option ρ} {x0 : α} {x1 : β} {x2 : γ} {x3 : δ} {x4 : ε} {x5 : ζ} {x6 : η} {out : ρ} (e : u7 F (x0, x1, x2, x3, x4, x5, x6) = some out) : F x0 x1 x2 x3 x4 x5 x6 = some out := e
theorem u8_e {α β γ δ ε ζ η θ ρ : Type} {F : α → β → γ → δ → ε → ζ → η → θ → Option ρ} {x0 : α} {x1 : β} {x2 : γ} {x3 : δ} {x4 : ε} {x5 : ζ} {x6 : η} {x7 : θ} {out : ρ} (e : u8 F (x0, x1, x2, x3, x4, x5, x6, x7) = some out) : F x0 x1 x2 x3 x4 x5 x6 x7 = some out := e
