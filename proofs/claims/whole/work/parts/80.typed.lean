/-! THE TYPED STATE: cells with a type, a length, numbers, longs, references. g: (how many cells, types, lengths, ints, longs, references).
A type: 0 to 8 an array (ab_aty), 100 + c an object of class c, 99 nothing. -/
abbrev g_S : Type := Nat × (Nat → Nat) × (Nat → Nat) × (Nat → Nat → Int32) × (Nat → Nat → Int64) × (Nat → Nat → Option Nat)
def gn (g : g_S) : Nat := g.1
def gt (g : g_S) (q : Nat) : Nat := bif Nat.blt q g.1 then g.2.1 q else 99
def gl (g : g_S) (q : Nat) : Nat := g.2.2.1 q
def gi (g : g_S) (q k : Nat) : Int32 := g.2.2.2.1 q k
def gj (g : g_S) (q k : Nat) : Int64 := g.2.2.2.2.1 q k
def gr (g : g_S) (q k : Nat) : Option Nat := g.2.2.2.2.2 q k
def up2 {α : Type} (f : Nat → Nat → α) (q k : Nat) (v : α) : Nat → Nat → α := fun p => if p = q then va_up (f p) k v else f p
def gwI (g : g_S) (q k : Nat) (v : Int32) : g_S := (g.1, g.2.1, g.2.2.1, up2 g.2.2.2.1 q k v, g.2.2.2.2.1, g.2.2.2.2.2)
def gwL (g : g_S) (q k : Nat) (v : Int64) : g_S := (g.1, g.2.1, g.2.2.1, g.2.2.2.1, up2 g.2.2.2.2.1 q k v, g.2.2.2.2.2)
def gwR (g : g_S) (q k : Nat) (v : Option Nat) : g_S := (g.1, g.2.1, g.2.2.1, g.2.2.2.1, g.2.2.2.2.1, up2 g.2.2.2.2.2 q k v)
def gwA (g : g_S) (q : Nat) (f : Nat → Int32) : g_S := (g.1, g.2.1, g.2.2.1, va_up g.2.2.2.1 q f, g.2.2.2.2.1, g.2.2.2.2.2)
def gnew (g : g_S) (t n : Nat) : g_S := (g.1 + 1, va_up g.2.1 g.1 t, va_up g.2.2.1 g.1 n, va_up g.2.2.2.1 g.1 (fun _ => 0), va_up g.2.2.2.2.1 g.1 (fun _ => 0), va_up g.2.2.2.2.2 g.1 (fun _ => none))
def fkv (d : Value) (i : Int32) (l : Int64) (r : Option Nat) : Value := match d with
  | .int _ => .int i
  | .long _ => .long l
  | _ => va_rf r
def gF (g : g_S) (c q : Nat) : List Value := (List.range (ab_cN c)).map (fun k => fkv (defaultValue (ab_cty c k)) (gi g q k) (gj g q k) (gr g q k))
def gX (g : g_S) (t q : Nat) : (Nat → Int32) ⊕ (Nat → Int64) ⊕ (Nat → UInt32) ⊕ (Nat → UInt64) ⊕ (Nat → Option Nat) := bif Nat.ble t 2 then .inl (gi g q) else bif Nat.beq t 3 then .inr (.inl (gj g q)) else .inr (.inr (.inr (.inr (gr g q))))
def gE (g : g_S) (q : Nat) : ab_E := bif Nat.blt (g.2.1 q) 100 then .inl (g.2.1 q, gl g q, gX g (g.2.1 q) q) else .inr (g.2.1 q - 100, gF g (g.2.1 q - 100) q)
def hp (g : g_S) : ab_H := (List.range g.1).map (gE g)
theorem hp_len (g : g_S) : (hp g).length = gn g := by simp [hp, gn]
theorem gt_lt {g : g_S} {q t : Nat} (h : gt g q = t) (ht : t ≠ 99) : q < g.1 ∧ g.2.1 q = t := by
  unfold gt at h
  cases hb : Nat.blt q g.1 with
  | true => rw [hb] at h; exact ⟨Nat.lt_of_lt_of_le (Nat.lt_succ_self q) (Nat.le_of_ble_eq_true hb), h⟩
  | false => rw [hb] at h; exact absurd h.symm ht
theorem hp_get {g : g_S} {q t : Nat} (h : gt g q = t) (ht : t ≠ 99) : (hp g)[q]? = some (gE g q) := by
  simp [hp, (gt_lt h ht).1]
theorem hp_ob {g : g_S} {q c : Nat} (h : gt g q = 100 + c) : (hp g)[q]? = some (.inr (c, gF g c q)) := by
  rw [hp_get h (by omega)]
  have h2 := (gt_lt h (by omega)).2
  unfold gE
  rw [h2, show Nat.blt (100 + c) 100 = false from by
    cases hb : Nat.blt (100 + c) 100 with
    | false => rfl
    | true => have := Nat.le_of_ble_eq_true hb; omega, show 100 + c - 100 = c from by omega]
  rfl
theorem hp_ai {g : g_S} {q t : Nat} (h : gt g q = t) (ht : t ≤ 2) : (hp g)[q]? = some (.inl (t, gl g q, .inl (gi g q))) := by
  rw [hp_get h (by omega)]
  have h2 := (gt_lt h (by omega)).2
  unfold gE
  rw [h2]
  match t, ht with
  | 0, _ => rfl
  | 1, _ => rfl
  | 2, _ => rfl
theorem hp_al {g : g_S} {q : Nat} (h : gt g q = 3) : (hp g)[q]? = some (.inl (3, gl g q, .inr (.inl (gj g q)))) := by
  rw [hp_get h (by omega)]
  have h2 := (gt_lt h (by omega)).2
  unfold gE
  rw [h2]
  rfl
theorem hp_aq {g : g_S} {q t : Nat} (h : gt g q = t) (ht : 4 ≤ t ∧ t ≤ 8) : (hp g)[q]? = some (.inl (t, gl g q, .inr (.inr (.inr (.inr (gr g q)))))) := by
  rw [hp_get h (by omega)]
  have h2 := (gt_lt h (by omega)).2
  unfold gE
  rw [h2]
  match t, ht with
  | 4, _ => rfl
  | 5, _ => rfl
  | 6, _ => rfl
  | 7, _ => rfl
  | 8, _ => rfl
theorem hp_none {g : g_S} {q : Nat} (h : gn g ≤ q) : (hp g)[q]? = none := List.getElem?_eq_none (by rw [hp_len]; exact h)
theorem gF_len {g : g_S} {c q : Nat} : (gF g c q).length = ab_cN c := by simp [gF]
theorem gF_get {g : g_S} {c q k : Nat} (hk : k < ab_cN c) : (gF g c q)[k]? = some (fkv (defaultValue (ab_cty c k)) (gi g q k) (gj g q k) (gr g q k)) := by simp [gF, hk]
/-- a state that differs in one cell, and there in the way that the list does -/
theorem hp_set {g g' : g_S} {q : Nat} {e : ab_E} (h1 : g'.1 = g.1) (hne : ∀ p, p ≠ q → gE g' p = gE g p) (he : gE g' q = e) : (hp g).set q e = hp g' := by
  apply List.ext_getElem?
  intro p
  rw [List.getElem?_set]
  unfold hp
  rw [h1]
  by_cases hp1 : q = p
  · subst hp1
    rw [if_pos rfl]
    by_cases hl : q < g.1
    · simp [hl, he]
    · simp [hl]
  · rw [if_neg hp1]
    by_cases hl : p < g.1
    · simp [hl, hne p (fun z => hp1 z.symm)]
    · simp [hl]
theorem up2_ne {α : Type} {f : Nat → Nat → α} {q k p : Nat} {v : α} (h : p ≠ q) : up2 f q k v p = f p := by simp [up2, h]
theorem up2_eq {α : Type} {f : Nat → Nat → α} {q k : Nat} {v : α} : up2 f q k v q = va_up (f q) k v := by simp [up2]
theorem gF_eq {g g' : g_S} {c q : Nat} (hi : ∀ k, gi g' q k = gi g q k) (hj : ∀ k, gj g' q k = gj g q k) (hr : ∀ k, gr g' q k = gr g q k) : gF g' c q = gF g c q := by
  unfold gF
  simp only [hi, hj, hr]
theorem gE_eq {g g' : g_S} {q : Nat} (hT : g'.2.1 q = g.2.1 q) (hN : gl g' q = gl g q) (hi : gi g' q = gi g q) (hj : gj g' q = gj g q) (hr : gr g' q = gr g q) : gE g' q = gE g q := by
  have e1 : ∀ c, gF g' c q = gF g c q := fun c => gF_eq (fun k => congrFun hi k) (fun k => congrFun hj k) (fun k => congrFun hr k)
  have e2 : ∀ t, gX g' t q = gX g t q := fun t => by simp only [gX, hi, hj, hr]
  simp only [gE, hT, hN, e1, e2]
theorem gwI_ne {g : g_S} {q k p : Nat} {v : Int32} (h : p ≠ q) : gE (gwI g q k v) p = gE g p := gE_eq rfl rfl (up2_ne h) rfl rfl
theorem gwL_ne {g : g_S} {q k p : Nat} {v : Int64} (h : p ≠ q) : gE (gwL g q k v) p = gE g p := gE_eq rfl rfl rfl (up2_ne h) rfl
theorem gwR_ne {g : g_S} {q k p : Nat} {v : Option Nat} (h : p ≠ q) : gE (gwR g q k v) p = gE g p := gE_eq rfl rfl rfl rfl (up2_ne h)
theorem gwA_ne {g : g_S} {q p : Nat} {f : Nat → Int32} (h : p ≠ q) : gE (gwA g q f) p = gE g p := gE_eq rfl rfl (show va_up g.2.2.2.1 q f p = _ by simp [va_up, h]; rfl) rfl rfl
theorem gE_of_ob {g : g_S} {q c : Nat} (h : gt g q = 100 + c) : gE g q = .inr (c, gF g c q) := by
  have := hp_ob h
  rw [hp_get h (by omega)] at this
  exact Option.some.inj this
theorem gF_set {g g' : g_S} {c q k : Nat} {v : Value} (hk : k < ab_cN c) (hi : ∀ i, i ≠ k → gi g' q i = gi g q i) (hj : ∀ i, i ≠ k → gj g' q i = gj g q i) (hr : ∀ i, i ≠ k → gr g' q i = gr g q i) (hv : fkv (defaultValue (ab_cty c k)) (gi g' q k) (gj g' q k) (gr g' q k) = v) : (gF g c q).set k v = gF g' c q := by
  apply List.ext_getElem?
  intro i
  rw [List.getElem?_set]
  by_cases hl : i < ab_cN c
  · rw [gF_get hl, gF_get hl]
    by_cases e : k = i
    · subst e
      rw [if_pos rfl, if_pos (by rw [gF_len]; exact hk), hv]
    · rw [if_neg e, hi i (fun z => e z.symm), hj i (fun z => e z.symm), hr i (fun z => e z.symm)]
  · rw [if_neg (by omega), List.getElem?_eq_none (by rw [gF_len]; omega), List.getElem?_eq_none (by rw [gF_len]; omega)]
theorem hp_wob {g g' : g_S} {c q k : Nat} {v : Value} (h : gt g q = 100 + c) (h1 : g'.1 = g.1) (hT : g'.2.1 = g.2.1) (hne : ∀ p, p ≠ q → gE g' p = gE g p) (hk : k < ab_cN c) (hi : ∀ i, i ≠ k → gi g' q i = gi g q i) (hj : ∀ i, i ≠ k → gj g' q i = gj g q i) (hr : ∀ i, i ≠ k → gr g' q i = gr g q i) (hv : fkv (defaultValue (ab_cty c k)) (gi g' q k) (gj g' q k) (gr g' q k) = v) : (hp g).set q (.inr (c, (gF g c q).set k v)) = hp g' := by
  refine hp_set h1 hne ?_
  have h' : gt g' q = 100 + c := by rw [← h]; unfold gt; rw [h1, hT]
  rw [gE_of_ob h', gF_set hk hi hj hr hv]
theorem va_up_ne2 {α : Type} {f : Nat → α} {k i : Nat} {v : α} (h : i ≠ k) : va_up f k v i = f i := by simp [va_up, h]
theorem va_up_eq2 {α : Type} {f : Nat → α} {k : Nat} {v : α} : va_up f k v k = v := by simp [va_up]
theorem gi_gwI {g : g_S} {q k : Nat} {v : Int32} : gi (gwI g q k v) q = va_up (gi g q) k v := by show up2 _ q k v q = _; rw [up2_eq]; rfl
theorem gj_gwL {g : g_S} {q k : Nat} {v : Int64} : gj (gwL g q k v) q = va_up (gj g q) k v := by show up2 _ q k v q = _; rw [up2_eq]; rfl
theorem gr_gwR {g : g_S} {q k : Nat} {v : Option Nat} : gr (gwR g q k v) q = va_up (gr g q) k v := by show up2 _ q k v q = _; rw [up2_eq]; rfl
theorem hp_wI {g : g_S} {c q k : Nat} {v x : Int32} (h : gt g q = 100 + c) (hk : k < ab_cN c) (hd : defaultValue (ab_cty c k) = .int x) : (hp g).set q (.inr (c, (gF g c q).set k (.int v))) = hp (gwI g q k v) := by
  refine hp_wob h rfl rfl (fun p hp1 => gwI_ne hp1) hk (fun i hi => ?_) (fun _ _ => rfl) (fun _ _ => rfl) ?_
  · rw [gi_gwI, va_up_ne2 hi]
  · rw [hd, gi_gwI, va_up_eq2]; rfl
theorem hp_wL {g : g_S} {c q k : Nat} {v x : Int64} (h : gt g q = 100 + c) (hk : k < ab_cN c) (hd : defaultValue (ab_cty c k) = .long x) : (hp g).set q (.inr (c, (gF g c q).set k (.long v))) = hp (gwL g q k v) := by
  refine hp_wob h rfl rfl (fun p hp1 => gwL_ne hp1) hk (fun _ _ => rfl) (fun i hi => ?_) (fun _ _ => rfl) ?_
  · rw [gj_gwL, va_up_ne2 hi]
  · rw [hd, gj_gwL, va_up_eq2]; rfl
theorem hp_wR {g : g_S} {c q k : Nat} {v : Option Nat} (h : gt g q = 100 + c) (hk : k < ab_cN c) (hd : defaultValue (ab_cty c k) = .null) : (hp g).set q (.inr (c, (gF g c q).set k (va_rf v))) = hp (gwR g q k v) := by
  refine hp_wob h rfl rfl (fun p hp1 => gwR_ne hp1) hk (fun _ _ => rfl) (fun _ _ => rfl) (fun i hi => ?_) ?_
  · rw [gr_gwR, va_up_ne2 hi]
  · rw [hd, gr_gwR, va_up_eq2]; rfl
theorem gE_ai {g : g_S} {q t : Nat} (h : gt g q = t) (ht : t ≤ 2) : gE g q = .inl (t, gl g q, .inl (gi g q)) := by
  have := hp_ai h ht
  rw [hp_get h (by omega)] at this
  exact Option.some.inj this
theorem hp_sI {g : g_S} {q t k : Nat} {v : Int32} (h : gt g q = t) (ht : t ≤ 2) : (hp g).set q (.inl (t, gl g q, .inl (upd (gi g q) k v))) = hp (gwI g q k v) := by
  refine hp_set rfl (fun p hp1 => gwI_ne hp1) ?_
  rw [gE_ai (g := gwI g q k v) (t := t) h ht, gi_gwI]
  rfl
theorem hp_sA {g : g_S} {q t : Nat} {f : Nat → Int32} (h : gt g q = t) (ht : t ≤ 2) : (hp g).set q (.inl (t, gl g q, .inl f)) = hp (gwA g q f) := by
  refine hp_set rfl (fun p hp1 => gwA_ne hp1) ?_
  rw [gE_ai (g := gwA g q f) (t := t) h ht]
  show (Sum.inl (t, gl g q, Sum.inl (va_up g.2.2.2.1 q f q)) : ab_E) = _
  rw [va_up_eq2]
theorem hp_sL {g : g_S} {q k : Nat} {v : Int64} (h : gt g q = 3) : (hp g).set q (.inl (3, gl g q, .inr (.inl (vp_updL (gj g q) k v)))) = hp (gwL g q k v) := by
  refine hp_set rfl (fun p hp1 => gwL_ne hp1) ?_
  have := hp_al (g := gwL g q k v) (q := q) h
  rw [hp_get (g := gwL g q k v) (t := 3) h (by omega)] at this
  rw [Option.some.inj this, gj_gwL]
  rfl
theorem hp_sQ {g : g_S} {q t k : Nat} {v : Option Nat} (h : gt g q = t) (ht : 4 ≤ t ∧ t ≤ 8) : (hp g).set q (.inl (t, gl g q, .inr (.inr (.inr (.inr (va_up (gr g q) k v)))))) = hp (gwR g q k v) := by
  refine hp_set rfl (fun p hp1 => gwR_ne hp1) ?_
  have := hp_aq (g := gwR g q k v) (q := q) h ht
  rw [hp_get (g := gwR g q k v) (t := t) h (by omega)] at this
  rw [Option.some.inj this, gr_gwR]
  rfl
theorem hp_new {g : g_S} {t n : Nat} {e : ab_E} (he : gE (gnew g t n) g.1 = e) : hp g ++ [e] = hp (gnew g t n) := by
  subst he
  unfold hp
  rw [show (gnew g t n).1 = g.1 + 1 from rfl, List.range_succ, List.map_append]
  congr 1
  apply List.map_congr_left
  intro p hp1
  have hlt : p ≠ g.1 := by have := List.mem_range.mp hp1; omega
  exact (gE_eq (g := g) (g' := gnew g t n) (q := p) (va_up_ne2 hlt) (va_up_ne2 hlt) (va_up_ne2 hlt) (va_up_ne2 hlt) (va_up_ne2 hlt)).symm
theorem gnew_t {g : g_S} {t n : Nat} : gt (gnew g t n) g.1 = t := by
  unfold gt
  rw [show Nat.blt g.1 (gnew g t n).1 = true from Nat.ble_eq_true_of_le (Nat.le_refl _)]
  show va_up g.2.1 g.1 t g.1 = t
  rw [va_up_eq2]
def okf (ty : FieldType) : Bool := match ty with
  | .float => false
  | .double => false
  | _ => true
theorem okf_0 (k : Nat) : okf (tyX0 k) = true := by unfold tyX0; split <;> rfl
theorem okf_1 (k : Nat) : okf (tyX1 k) = true := by unfold tyX1; split <;> rfl
theorem okf_2 (k : Nat) : okf (tyX2 k) = true := by unfold tyX2; split <;> rfl
theorem okf_3 (k : Nat) : okf (tyX3 k) = true := by unfold tyX3; split <;> rfl
theorem okf_4 (k : Nat) : okf (tyX4 k) = true := by unfold tyX4; split <;> rfl
theorem okf_5 (k : Nat) : okf (tyX5 k) = true := by unfold tyX5; split <;> rfl
theorem okf_6 (k : Nat) : okf (tyX6 k) = true := by unfold tyX6; split <;> rfl
theorem okf_7 (k : Nat) : okf (tyX7 k) = true := by unfold tyX7; split <;> rfl
theorem okf_8 (k : Nat) : okf (tyX8 k) = true := by unfold tyX8; split <;> rfl
theorem okf_9 (k : Nat) : okf (tyX9 k) = true := by unfold tyX9; split <;> rfl
theorem okf_10 (k : Nat) : okf (tyX10 k) = true := by unfold tyX10; split <;> rfl
theorem okf_11 (k : Nat) : okf (tyX11 k) = true := by unfold tyX11; split <;> rfl
set_option maxRecDepth 100000 in
set_option maxHeartbeats 4000000 in
theorem okf_12 (k : Nat) : okf (tyX12 k) = true := by unfold tyX12; split <;> rfl
theorem ab_cty_ok (c k : Nat) : okf (ab_cty c k) = true := by
  unfold ab_cty
  split
  · exact okf_0 k
  · exact okf_1 k
  · exact okf_2 k
  · exact okf_3 k
  · exact okf_4 k
  · exact okf_5 k
  · exact okf_6 k
  · exact okf_7 k
  · exact okf_8 k
  · exact okf_9 k
  · exact okf_10 k
  · exact okf_11 k
  · exact okf_12 k
theorem ab_cty_nf (c k : Nat) (x : _) : defaultValue (ab_cty c k) ≠ .float x := by
  have h := ab_cty_ok c k
  intro z
  generalize ab_cty c k = ty at h z
  cases ty <;> first | exact absurd h (by decide) | cases z
theorem ab_cty_nd (c k : Nat) (x : _) : defaultValue (ab_cty c k) ≠ .double x := by
  have h := ab_cty_ok c k
  intro z
  generalize ab_cty c k = ty at h z
  cases ty <;> first | exact absurd h (by decide) | cases z
theorem hp_newO {g : g_S} {c : Nat} : hp g ++ [.inr (c, ab_cdf c)] = hp (gnew g (100 + c) 0) := by
  refine hp_new ?_
  rw [gE_of_ob gnew_t]
  congr 1
  congr 1
  unfold gF ab_cdf
  apply List.map_congr_left
  intro k _
  have e1 : gi (gnew g (100 + c) 0) g.1 k = 0 := congrFun (va_up_eq2 (f := g.2.2.2.1) (k := g.1) (v := fun _ => 0)) k
  have e2 : gj (gnew g (100 + c) 0) g.1 k = 0 := congrFun (va_up_eq2 (f := g.2.2.2.2.1) (k := g.1) (v := fun _ => 0)) k
  have e3 : gr (gnew g (100 + c) 0) g.1 k = none := congrFun (va_up_eq2 (f := g.2.2.2.2.2) (k := g.1) (v := fun _ => none)) k
  rw [e1, e2, e3]
  have : ∀ ty, (∀ x, defaultValue ty ≠ .float x) → (∀ x, defaultValue ty ≠ .double x) → fkv (defaultValue ty) 0 0 none = defaultValue ty := by
    intro ty h1 h2
    cases ty <;> first | rfl | exact absurd rfl (h1 _) | exact absurd rfl (h2 _)
  exact this _ (fun x => ab_cty_nf c k x) (fun x => ab_cty_nd c k x)
theorem hp_newA {g : g_S} {t m : Nat} (ht : t ≤ 2) : hp g ++ [.inl (t, m, .inl (fun _ => 0))] = hp (gnew g t m) := by
  refine hp_new ?_
  rw [gE_ai gnew_t ht]
  show (Sum.inl (t, va_up g.2.2.1 g.1 m g.1, Sum.inl (va_up g.2.2.2.1 g.1 (fun _ => 0) g.1)) : ab_E) = _
  rw [va_up_eq2, va_up_eq2]
theorem hp_newL {g : g_S} {m : Nat} : hp g ++ [.inl (3, m, .inr (.inl (fun _ => 0)))] = hp (gnew g 3 m) := by
  refine hp_new ?_
  have := hp_al (g := gnew g 3 m) (q := g.1) gnew_t
  rw [hp_get gnew_t (by omega)] at this
  rw [Option.some.inj this]
  show (Sum.inl (3, va_up g.2.2.1 g.1 m g.1, Sum.inr (Sum.inl (va_up g.2.2.2.2.1 g.1 (fun _ => 0) g.1))) : ab_E) = _
  rw [va_up_eq2, va_up_eq2]
theorem hp_newQ {g : g_S} {t m : Nat} (ht : 4 ≤ t ∧ t ≤ 8) : hp g ++ [.inl (t, m, .inr (.inr (.inr (.inr (fun _ => none)))))] = hp (gnew g t m) := by
  refine hp_new ?_
  have := hp_aq (g := gnew g t m) (q := g.1) gnew_t ht
  rw [hp_get gnew_t (by omega)] at this
  rw [Option.some.inj this]
  show (Sum.inl (t, va_up g.2.2.1 g.1 m g.1, Sum.inr (Sum.inr (Sum.inr (Sum.inr (va_up g.2.2.2.2.2 g.1 (fun _ => none) g.1))))) : ab_E) = _
  rw [va_up_eq2, va_up_eq2]
