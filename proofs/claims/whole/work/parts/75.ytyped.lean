/-! THE REFERENCE, typed: its object at y0, its arrays behind it. I: its numbers by field, A: its arrays by rank -/
def yol : List Nat := [1, 0, 2, 0, 3, 0, 4, 5, 6, 7, 8, 9, 0, 0, 0, 0, 0, 10, 11, 12, 13, 14, 15, 16, 17, 0, 0, 0, 18, 19, 0, 20, 21, 22, 23, 0, 24, 0, 0, 0, 0, 0, 0, 25, 0, 26, 27, 28, 29, 30, 31, 32, 33, 34, 35, 36, 37, 38, 39, 40, 41, 42, 43, 44, 45, 46, 47, 48, 0, 0, 0, 49, 50, 51, 0, 52, 0, 0, 53, 0, 0, 54, 55, 56, 57, 0, 58, 59, 60, 0, 61, 62, 63, 64, 65, 66, 67, 68, 69, 70, 0, 71, 72, 73, 0, 74, 0, 75, 76, 77, 78, 79, 80, 81, 82, 83, 84, 0, 85, 86, 87, 88, 89, 90, 91, 0, 0, 0, 0, 0, 0, 0, 0, 0, 92, 93, 0, 94, 95, 96, 97, 98, 99, 0, 0, 0, 0, 0, 0, 0, 0, 0, 0, 0, 0, 0, 0, 0, 0, 100, 0, 0, 0, 0, 0, 0, 0, 0, 101, 102, 103, 104, 105, 106, 0, 107, 108, 109, 110, 111, 112, 0, 113, 0, 114, 0]
def yoff (k : Nat) : Nat := yol.getD k 0
def ytl : List Nat := [1, 1, 1, 1, 0, 0, 1, 0, 0, 1, 0, 0, 1, 0, 0, 2, 2, 0, 0, 1, 0, 0, 0, 1, 1, 2, 0, 1, 0, 0, 0, 0, 0, 0, 0, 0, 0, 1, 0, 1, 0, 1, 0, 2, 1, 0, 2, 0, 0, 0, 0, 1, 1, 1, 0, 1, 0, 0, 1, 1, 0, 0, 1, 0, 0, 0, 1, 0, 0, 0, 1, 0, 0, 0, 0, 2, 0, 0, 0, 0, 0, 0, 0, 0, 0, 0, 0, 0, 0, 0, 0, 0, 0, 0, 0, 0, 0, 0, 0, 1, 0, 0, 0, 0, 0, 1, 1, 0, 0, 0, 0, 0, 1, 0]
def ynl : List Nat := [2000, 2000, 8000, 9900, 66, 66, 2200, 2100, 2100, 30000, 20, 12, 192, 12, 12, 20, 20, 8, 8, 480, 20, 20, 20, 400, 16, 120, 120, 960, 120, 120, 120, 120, 120, 120, 120, 120, 120, 3840, 480, 28800, 480, 48000, 120, 120, 2880, 120, 120, 120, 40, 40, 22, 2000, 8, 32, 4, 240, 4, 2000, 8, 60, 41, 123, 984, 123, 492, 492, 3936, 41, 451, 451, 400, 11, 11, 1320, 120, 120, 120, 120, 120, 120, 120, 120, 120, 120, 24000, 24000, 24000, 24000, 24000, 24000, 120, 24000, 24000, 120, 120, 120, 120, 120, 120, 2000, 20, 20, 20, 20, 20, 1200, 480, 20, 20, 20, 120, 120, 4000, 120]
def yt (r : Nat) : Nat := ytl.getD r 0
def yn (r : Nat) : Nat := ynl.getD r 0
def yv (y0 : Nat) (I : Nat → Int32) (k : Nat) : Value := if yoff k = 0 then .int (I k) else .ref (y0 + yoff k)
def yfs (y0 : Nat) (I : Nat → Int32) : List Value := (List.range 186).map (yv y0 I)
theorem yfs_get {y0 : Nat} {I : Nat → Int32} {k : Nat} (hk : k < 186) : (yfs y0 I)[k]? = some (yv y0 I k) := by simp [yfs, hk]
theorem yfs_len {y0 : Nat} {I : Nat → Int32} : (yfs y0 I).length = 186 := by simp [yfs]
theorem yfs_set {y0 : Nat} {I : Nat → Int32} {k : Nat} {v : Int32} (hk : k < 186) (h0 : yoff k = 0) : (yfs y0 I).set k (.int v) = yfs y0 (va_up I k v) := by
  apply List.ext_getElem?
  intro i
  rw [List.getElem?_set]
  by_cases hi : i < 186
  · rw [yfs_get hi, yfs_get hi]
    by_cases e : k = i
    · subst e
      rw [if_pos rfl, if_pos (by rw [yfs_len]; exact hk)]
      simp [yv, h0, va_up]
    · rw [if_neg e]
      have e2 : ¬ i = k := fun z => e z.symm
      simp [yv, va_up, e2]
  · rw [if_neg (by omega)]
    rw [List.getElem?_eq_none (by rw [yfs_len]; omega), List.getElem?_eq_none (by rw [yfs_len]; omega)]
def YF (y0 : Nat) (I : Nat → Int32) (A : Nat → Nat → Int32) (h : ab_H) : Prop := h[y0]? = some (.inr (12, yfs y0 I)) ∧ ∀ r, r < 114 → h[y0 + (r + 1)]? = some (.inl (yt r, yn r, .inl (A r)))
def SameY (y0 : Nat) (h h' : ab_H) : Prop := h'.length = h.length ∧ ∀ p, (p < y0 ∨ y0 + 114 < p) → h'[p]? = h[p]?
theorem SameY.rf {y0 : Nat} {h : ab_H} : SameY y0 h h := ⟨rfl, fun _ _ => rfl⟩
theorem SameY.tr {y0 : Nat} {a b c : ab_H} (h1 : SameY y0 a b) (h2 : SameY y0 b c) : SameY y0 a c := ⟨h2.1.trans h1.1, fun p hp => (h2.2 p hp).trans (h1.2 p hp)⟩
theorem SameY.st {y0 q : Nat} {h : ab_H} {e : ab_E} (h1 : y0 ≤ q) (h2 : q ≤ y0 + 114) : SameY y0 h (h.set q e) := ⟨List.length_set, fun p hp => List.getElem?_set_ne (by omega)⟩
theorem YF.puti {y0 : Nat} {I : Nat → Int32} {A : Nat → Nat → Int32} {h : ab_H} {k : Nat} {v : Int32} (hY : YF y0 I A h) (hk : k < 186) (h0 : yoff k = 0) : YF y0 (va_up I k v) A (h.set y0 (.inr (12, (yfs y0 I).set k (.int v)))) := by
  refine ⟨?_, fun r hr => ?_⟩
  · rw [yfs_set hk h0]; exact hset_eq hY.1
  · exact hset_ne (by omega) (hY.2 r hr)
theorem YF.puta {y0 : Nat} {I : Nat → Int32} {A : Nat → Nat → Int32} {h : ab_H} {r : Nat} {f : Nat → Int32} (hY : YF y0 I A h) (hr : r < 114) : YF y0 I (va_up A r f) (h.set (y0 + (r + 1)) (.inl (yt r, yn r, .inl f))) := by
  refine ⟨hset_ne (by omega) hY.1, fun p hp => ?_⟩
  by_cases e : p = r
  · subst e
    rw [hset_eq (hY.2 p hp), va_up_self]
  · rw [va_up_ne A f e]
    exact hset_ne (by omega) (hY.2 p hp)
/-- typed: from every heap that holds the reference's state, with nothing but it changed since g0 -/
def wy (X : Nat → Option (Nat × (Nat → Int32))) (y0 j pc : Nat) (lv : ab_L) (st : List Value) (I : Nat → Int32) (A : Nat → Nat → Int32) (Q : Option Value → (Nat → Int32) → (Nat → Nat → Int32) → Prop) : Prop :=
  ∀ h, YF y0 I A h → wp X j pc lv st h (fun r h' => ∃ I' A', YF y0 I' A' h' ∧ SameY y0 h h' ∧ Q r I' A')
/-- a method of the reference -/
def my (X : Nat → Option (Nat × (Nat → Int32))) (y0 j : Nat) (vs : List Value) (I : Nat → Int32) (A : Nat → Nat → Int32) (Q : Option Value → (Nat → Int32) → (Nat → Nat → Int32) → Prop) : Prop := wy X y0 j 0 (lv_args 0 (.ref y0 :: vs)) [] I A Q
section WY
variable {X : Nat → Option (Nat × (Nat → Int32))} {y0 j pc a b c idx k r : Nat} {off : Int} {cd : ClassFile.Cond} {lv : ab_L} {rest : List Value} {I : Nat → Int32} {A : Nat → Nat → Int32} {Q : Option Value → (Nat → Int32) → (Nat → Nat → Int32) → Prop} {x y i : Int32}
theorem wy.mono {st : List Value} {Q' : Option Value → (Nat → Int32) → (Nat → Nat → Int32) → Prop} (kk : wy X y0 j pc lv st I A Q) (hq : ∀ r I' A', Q r I' A' → Q' r I' A') : wy X y0 j pc lv st I A Q' := fun h hY => (kk h hY).mono (fun r h' ⟨I', A', h1, h2, h3⟩ => ⟨I', A', h1, h2, hq r I' A' h3⟩)
theorem wy_p (n : Nat) {pc pc' : Nat} {lv lv' : ab_L} {st st' : List Value} (hp : ab_pl n j pc lv st = some (pc', lv', st')) (kk : wy X y0 j pc' lv' st' I A Q) : wy X y0 j pc lv st I A Q := fun h hY => wp_p n hp (kk h hY)
theorem wy_if2 (hd : ab_dc j pc = some (.if_icmp cd off, a, b, c)) (kt : ab_icmp cd x y = true → wy X y0 j a lv rest I A Q) (kf : ab_icmp cd x y = false → wy X y0 j (pc + 3) lv rest I A Q) : wy X y0 j pc lv (.int y :: .int x :: rest) I A Q := fun h hY => wp_if2 hd (fun z => kt z h hY) (fun z => kf z h hY)
theorem wy_if1 (hd : ab_dc j pc = some (.ifCond cd off, a, b, c)) (kt : ab_icmp cd x 0 = true → wy X y0 j a lv rest I A Q) (kf : ab_icmp cd x 0 = false → wy X y0 j (pc + 3) lv rest I A Q) : wy X y0 j pc lv (.int x :: rest) I A Q := fun h hY => wp_if1 hd (fun z => kt z h hY) (fun z => kf z h hY)
theorem wy_geti (hd : ab_dc j pc = some (.getfield idx, 12, k, c)) (hk : k < 186) (h0 : yoff k = 0) (hz : (rest.map fun v => v.category).sum ≤ 8) (kk : wy X y0 j (pc + 3) lv (.int (I k) :: rest) I A Q) : wy X y0 j pc lv (.ref y0 :: rest) I A Q := fun h hY => by
  refine wp_get hd hY.1 (v := .int (I k)) ?_ (by show 1 + (rest.map fun v => v.category).sum ≤ 9; omega) (kk h hY)
  rw [yfs_get hk, yv, if_pos h0]
theorem wy_geta (hd : ab_dc j pc = some (.getfield idx, 12, k, c)) (hk : k < 186) (h0 : yoff k = r + 1) (hz : (rest.map fun v => v.category).sum ≤ 8) (kk : wy X y0 j (pc + 3) lv (.ref (y0 + (r + 1)) :: rest) I A Q) : wy X y0 j pc lv (.ref y0 :: rest) I A Q := fun h hY => by
  refine wp_get hd hY.1 (v := .ref (y0 + (r + 1))) ?_ (by show 1 + (rest.map fun v => v.category).sum ≤ 9; omega) (kk h hY)
  rw [yfs_get hk, yv, if_neg (by omega), h0]
theorem wy_put (hd : ab_dc j pc = some (.putfield idx, 12, k, c)) (hk : k < 186) (h0 : yoff k = 0) (hn : narrow (ab_cty 12 k) (.int x) = .int x) (hf : fits (ab_cty 12 k) (.int x) = true) (hz : (rest.map fun v => v.category).sum ≤ 9) (kk : wy X y0 j (pc + 3) lv rest (va_up I k x) A Q) : wy X y0 j pc lv (.int x :: .ref y0 :: rest) I A Q := fun h hY => by
  refine wp_put hd hY.1 (by rw [yfs_len]; exact hk) hn hf hz ((kk _ (hY.puti hk h0)).mono ?_)
  intro r h' ⟨I', A', h1, h2, h3⟩
  exact ⟨I', A', h1, (SameY.st (Nat.le_refl _) (by omega)).tr h2, h3⟩
theorem wy_iald (hd : ab_dc j pc = some (.iaload, a, b, c)) (hr : r < 114) (ht : yt r = 0) (hi : ab_inb i (yn r) = true) (hz : (rest.map fun v => v.category).sum ≤ 8) (kk : wy X y0 j (pc + 1) lv (.int (A r i.toNatClampNeg) :: rest) I A Q) : wy X y0 j pc lv (.int i :: .ref (y0 + (r + 1)) :: rest) I A Q := fun h hY => by
  have ho := hY.2 r hr
  rw [ht] at ho
  exact wp_iald hd ho hi (by show 1 + (rest.map fun v => v.category).sum ≤ 9; omega) (kk h hY)
theorem wy_bald (hd : ab_dc j pc = some (.baload, a, b, c)) (hr : r < 114) (ht : yt r = 1 ∨ yt r = 2) (hi : ab_inb i (yn r) = true) (hz : (rest.map fun v => v.category).sum ≤ 8) (kk : wy X y0 j (pc + 1) lv (.int (A r i.toNatClampNeg) :: rest) I A Q) : wy X y0 j pc lv (.int i :: .ref (y0 + (r + 1)) :: rest) I A Q := fun h hY =>
  wp_bald hd (hY.2 r hr) ht hi (by show 1 + (rest.map fun v => v.category).sum ≤ 9; omega) (kk h hY)
theorem wy_iast (hd : ab_dc j pc = some (.iastore, a, b, c)) (hr : r < 114) (ht : yt r = 0) (hi : ab_inb i (yn r) = true) (hz : (rest.map fun v => v.category).sum ≤ 9) (kk : wy X y0 j (pc + 1) lv rest I (va_up A r (upd (A r) i.toNatClampNeg x)) Q) : wy X y0 j pc lv (.int x :: .int i :: .ref (y0 + (r + 1)) :: rest) I A Q := fun h hY => by
  have ho := hY.2 r hr
  have hp := hY.puta (f := upd (A r) i.toNatClampNeg x) hr
  rw [ht] at ho hp
  refine wp_iast hd ho hi hz ((kk _ hp).mono ?_)
  intro r h' ⟨I', A', h1, h2, h3⟩
  exact ⟨I', A', h1, (SameY.st (by omega) (by omega)).tr h2, h3⟩
theorem wy_bast (hd : ab_dc j pc = some (.bastore, a, b, c)) (hr : r < 114) (ht : yt r = 1) (hi : ab_inb i (yn r) = true) (hz : (rest.map fun v => v.category).sum ≤ 9) (kk : wy X y0 j (pc + 1) lv rest I (va_up A r (upd (A r) i.toNatClampNeg (vp_nar .byte x))) Q) : wy X y0 j pc lv (.int x :: .int i :: .ref (y0 + (r + 1)) :: rest) I A Q := fun h hY => by
  have ho := hY.2 r hr
  have hp := hY.puta (f := upd (A r) i.toNatClampNeg (vp_nar .byte x)) hr
  rw [ht] at ho hp
  refine wp_bast hd ho hi hz ((kk _ hp).mono ?_)
  intro r h' ⟨I', A', h1, h2, h3⟩
  exact ⟨I', A', h1, (SameY.st (by omega) (by omega)).tr h2, h3⟩
theorem wy_zast (hd : ab_dc j pc = some (.bastore, a, b, c)) (hr : r < 114) (ht : yt r = 2) (hi : ab_inb i (yn r) = true) (hz : (rest.map fun v => v.category).sum ≤ 9) (kk : wy X y0 j (pc + 1) lv rest I (va_up A r (upd (A r) i.toNatClampNeg (vp_nar .boolean x))) Q) : wy X y0 j pc lv (.int x :: .int i :: .ref (y0 + (r + 1)) :: rest) I A Q := fun h hY => by
  have ho := hY.2 r hr
  have hp := hY.puta (f := upd (A r) i.toNatClampNeg (vp_nar .boolean x)) hr
  rw [ht] at ho hp
  refine wp_zast hd ho hi hz ((kk _ hp).mono ?_)
  intro r h' ⟨I', A', h1, h2, h3⟩
  exact ⟨I', A', h1, (SameY.st (by omega) (by omega)).tr h2, h3⟩
theorem wy_iret {ty : FieldType} (hd : ab_dc j pc = some (.ireturn, a, b, c)) (ht : (ab_mt j).2.2.2.1 = some ty) (hn : narrow ty (.int x) = .int x) (hq : Q (some (.int x)) I A) : wy X y0 j pc lv [.int x] I A Q := fun h hY => wp_iret hd ht hn ⟨I, A, hY, SameY.rf, hq⟩
theorem wy_vret (hd : ab_dc j pc = some (.return_, a, b, c)) (ht : (ab_mt j).2.2.2.1 = none) (hq : Q none I A) : wy X y0 j pc lv [] I A Q := fun h hY => wp_vret hd ht ⟨I, A, hY, SameY.rf, hq⟩
/-- a call of another method of the reference -/
theorem wy_cy {As st : List Value} {Q1 : Option Value → (Nat → Int32) → (Nat → Nat → Int32) → Prop} (hd : ab_dc j pc = some (.invokevirtual idx, a, As.length, c)) (hc : c ≤ 1) (hst : st = As.reverse ++ .ref y0 :: rest) (hcl : (ab_mt a).2.2.2.2.2.2 = 12) (h1 : (lg_sl (.ref y0 :: As)).length ≤ (ab_mt a).2.2.1) (h2 : (rest.map fun v => v.category).sum ≤ 8) (hm : my X y0 a As I A Q1) (kk : ∀ v I' A', Q1 v I' A' → wy X y0 j (pc + 3) lv (v.toList ++ rest) I' A' Q) : wy X y0 j pc lv st I A Q := fun h hY => by
  refine wp_cv hd hc hst (fs := yfs y0 I) (by rw [hcl]; exact hY.1) h1 h2 (hm h hY) (fun v h' ⟨I', A', g1, g2, g3⟩ => ?_)
  exact (kk v I' A' g3 h' g1).mono (fun r h'' ⟨I2, A2, e1, e2, e3⟩ => ⟨I2, A2, e1, g2.tr e2, e3⟩)
/-- a call of a static method that leaves the heap -/
theorem wy_cs {As st : List Value} {v : Option Value} (hd : ab_dc j pc = some (.invokestatic idx, a, As.length, c)) (hc : c ≤ 1) (hst : st = As.reverse ++ rest) (h1 : (lg_sl As).length ≤ (ab_mt a).2.2.1) (h2 : (rest.map fun v => v.category).sum ≤ 8) (hm : ∀ h, mw X a As h (fun r h' => r = v ∧ h' = h)) (kk : wy X y0 j (pc + 3) lv (v.toList ++ rest) I A Q) : wy X y0 j pc lv st I A Q := fun h hY => by
  refine wp_cs hd hc hst h1 h2 (hm h) (fun w h' hv => ?_)
  rw [hv.1, hv.2]
  exact kk h hY
end WY
/-- there(n) -/
theorem m_Y_there_try (X : Nat → Option (Nat × (Nat → Int32))) (y0 : Nat) (I : Nat → Int32) (A : Nat → Nat → Int32) : my X y0 J_Y_changed [] I A (fun r I' A' => r = none ∧ I' = va_up I 126 0 ∧ A' = A) := by
  refine wy_p (j := J_Y_changed) 2 (pc' := 2) (lv' := [(0, .ref y0)]) (st' := [.int 0, .ref y0]) rfl ?_
  refine wy_put (k := 126) rfl (by decide) rfl rfl rfl (Nat.le_of_ble_eq_true rfl) ?_
  exact wy_vret rfl rfl ⟨rfl, rfl, rfl⟩

