/-! RULES for the evaluator: goal first, an instruction or a run of plain ones a row. wp .. Q: it comes to an end, with Q of the answer and the heap -/
def wp (X : Nat → Option (Nat × (Nat → Int32))) (j pc : Nat) (lv : ab_L) (st : List Value) (h : ab_H) (Q : Option Value → ab_H → Prop) : Prop := ∃ (n : Nat) (r : Option Value) (hE : ab_H), ab_go ab_dc ab_mt X ab_sbt n j pc lv st h = some (r, hE) ∧ Q r hE
/-- a method -/
def mw (X : Nat → Option (Nat × (Nat → Int32))) (j : Nat) (vs : List Value) (h : ab_H) (Q : Option Value → ab_H → Prop) : Prop := wp X j 0 (lv_args 0 vs) [] h Q
theorem ab_go_le {dc : Nat → Nat → Option ab_I} {mt : Nat → ab_M} {ext : Nat → Option (Nat × (Nat → Int32))} {sbt : Nat → Option (List Int32)} {n m j pc : Nat} {lv : ab_L} {st : List Value} {h : ab_H} {x : Option Value × ab_H} (hs : ab_go dc mt ext sbt n j pc lv st h = some x) (hnm : n ≤ m) : ab_go dc mt ext sbt m j pc lv st h = some x := by
  induction hnm with
  | refl => exact hs
  | step _ ih => exact ab_go_more _ _ _ _ _ _ _ ih
section WP
variable {X : Nat → Option (Nat × (Nat → Int32))} {j pc a b c : Nat} {i : Instr} {lv lv' : ab_L} {st st' : List Value} {h h' : ab_H} {Q : Option Value → ab_H → Prop}
theorem wp.mono {Q' : Option Value → ab_H → Prop} (k : wp X j pc lv st h Q) (hq : ∀ r hE, Q r hE → Q' r hE) : wp X j pc lv st h Q' := by
  obtain ⟨n, r, hE, h1, h2⟩ := k
  exact ⟨n, r, hE, h1, hq r hE h2⟩
theorem mw.mono {vs : List Value} {Q' : Option Value → ab_H → Prop} (k : mw X j vs h Q) (hq : ∀ r hE, Q r hE → Q' r hE) : mw X j vs h Q' := wp.mono k hq
theorem wp_s (hd : ab_dc j pc = some (i, a, b, c)) (hs : ab_s (ab_mt j).2.2.1 i lv st = some (lv', st')) (k : wp X j (pc + ab_len i) lv' st' h Q) : wp X j pc lv st h Q := by
  obtain ⟨n, r, hE, hn, hq⟩ := k
  refine ⟨n + 1, r, hE, ?_, hq⟩
  show ab_st ab_dc ab_mt X ab_sbt (ab_go ab_dc ab_mt X ab_sbt n) j pc lv st h = _
  unfold ab_st
  rw [hd]
  dsimp only
  rw [hs]
  exact hn
theorem wp_b {pc' : Nat} (hd : ab_dc j pc = some (i, a, b, c)) (h1 : ab_s (ab_mt j).2.2.1 i lv st = none) (hs : ab_b i a pc st = some (pc', st')) (k : wp X j pc' lv st' h Q) : wp X j pc lv st h Q := by
  obtain ⟨n, r, hE, hn, hq⟩ := k
  refine ⟨n + 1, r, hE, ?_, hq⟩
  show ab_st ab_dc ab_mt X ab_sbt (ab_go ab_dc ab_mt X ab_sbt n) j pc lv st h = _
  unfold ab_st
  rw [hd]
  dsimp only
  rw [h1]
  dsimp only
  rw [hs]
  exact hn
theorem wp_h (hd : ab_dc j pc = some (i, a, b, c)) (h1 : ab_s (ab_mt j).2.2.1 i lv st = none) (h2 : ab_b i a pc st = none) (hs : ab_h X ab_sbt i a b c st h = some (st', h')) (hz : (st'.map fun v => v.category).sum ≤ 9) (k : wp X j (pc + ab_len i) lv st' h' Q) : wp X j pc lv st h Q := by
  obtain ⟨n, r, hE, hn, hq⟩ := k
  refine ⟨n + 1, r, hE, ?_, hq⟩
  show ab_st ab_dc ab_mt X ab_sbt (ab_go ab_dc ab_mt X ab_sbt n) j pc lv st h = _
  unfold ab_st
  rw [hd]
  dsimp only
  rw [h1]
  dsimp only
  rw [h2]
  dsimp only
  rw [hs]
  dsimp only
  rw [if_pos hz]
  exact hn
theorem wp_r {r : Option Value} (hd : ab_dc j pc = some (i, a, b, c)) (h1 : ab_s (ab_mt j).2.2.1 i lv st = none) (h2 : ab_b i a pc st = none) (h3 : ab_h X ab_sbt i a b c st h = none) (hs : ab_r (ab_mt j).2.2.2.1 i st = some r) (hq : Q r h) : wp X j pc lv st h Q := by
  refine ⟨1, r, h, ?_, hq⟩
  show ab_st ab_dc ab_mt X ab_sbt (ab_go ab_dc ab_mt X ab_sbt 0) j pc lv st h = _
  unfold ab_st
  rw [hd]
  dsimp only
  rw [h1]
  dsimp only
  rw [h2]
  dsimp only
  rw [h3]
  dsimp only
  rw [hs]
theorem wp_c {vs rest : List Value} {Q1 : Option Value → ab_H → Prop} (hd : ab_dc j pc = some (i, a, b, c)) (h1 : ab_s (ab_mt j).2.2.1 i lv st = none) (h2 : ab_b i a pc st = none) (h3 : ab_h X ab_sbt i a b c st h = none) (h4 : ab_r (ab_mt j).2.2.2.1 i st = none) (hs : ab_c ab_mt i a b c st h = some (vs, rest)) (hm : mw X a vs h Q1) (k : ∀ v h', Q1 v h' → wp X j (pc + 3) lv (v.toList ++ rest) h' Q) : wp X j pc lv st h Q := by
  obtain ⟨n1, v, h', h5, hq1⟩ := hm
  obtain ⟨n2, r, hE, h6, hq⟩ := k v h' hq1
  have h5 := ab_go_le h5 (Nat.le_max_left n1 n2)
  have h6 := ab_go_le h6 (Nat.le_max_right n1 n2)
  refine ⟨Nat.max n1 n2 + 1, r, hE, ?_, hq⟩
  show ab_st ab_dc ab_mt X ab_sbt (ab_go ab_dc ab_mt X ab_sbt (Nat.max n1 n2)) j pc lv st h = _
  unfold ab_st
  rw [hd]
  dsimp only
  rw [h1]
  dsimp only
  rw [h2]
  dsimp only
  rw [h3]
  dsimp only
  rw [h4]
  dsimp only
  rw [hs]
  dsimp only
  rw [h5]
  exact h6
/-- a run of k plain instructions and jumps -/
def ab_pl : Nat → Nat → Nat → ab_L → List Value → Option (Nat × ab_L × List Value)
  | 0, _, pc, lv, st => some (pc, lv, st)
  | k + 1, j, pc, lv, st => match ab_dc j pc with
    | some (i, a, _, _) => (match ab_s (ab_mt j).2.2.1 i lv st with
      | some (lv', st') => ab_pl k j (pc + ab_len i) lv' st'
      | none => (match i with
        | .goto _ => ab_pl k j a lv st
        | _ => none))
    | none => none
theorem wp_p : ∀ (k : Nat) {pc pc' : Nat} {lv lv' : ab_L} {st st' : List Value}, ab_pl k j pc lv st = some (pc', lv', st') → wp X j pc' lv' st' h Q → wp X j pc lv st h Q := by
  intro k
  induction k with
  | zero => intro pc pc' lv lv' st st' hp he; cases hp; exact he
  | succ k ih =>
    intro pc pc' lv lv' st st' hp he
    unfold ab_pl at hp
    split at hp
    next i a b c hd =>
      split at hp
      next lv1 st1 hs => exact wp_s hd hs (ih hp he)
      next hs =>
        split at hp
        next off => exact wp_b hd hs rfl (ih hp he)
        next => cases hp
    next => cases hp
end WP
section WP2
variable {X : Nat → Option (Nat × (Nat → Int32))} {j pc a b c idx q n t : Nat} {off : Int} {cd : ClassFile.Cond} {lv : ab_L} {rest : List Value} {h : ab_H} {Q : Option Value → ab_H → Prop} {x y i : Int32} {f : Nat → Int32} {fl : Nat → Int64} {fq : Nat → Option Nat} {v : Value} {fs : List Value}
theorem wp_if2 (hd : ab_dc j pc = some (.if_icmp cd off, a, b, c)) (kt : ab_icmp cd x y = true → wp X j a lv rest h Q) (kf : ab_icmp cd x y = false → wp X j (pc + 3) lv rest h Q) : wp X j pc lv (.int y :: .int x :: rest) h Q := by
  cases hc : ab_icmp cd x y with
  | true => exact wp_b hd rfl (show some (bif ab_icmp cd x y then a else pc + 3, rest) = some (a, rest) by rw [hc]; rfl) (kt hc)
  | false => exact wp_b hd rfl (show some (bif ab_icmp cd x y then a else pc + 3, rest) = some (pc + 3, rest) by rw [hc]; rfl) (kf hc)
theorem wp_if1 (hd : ab_dc j pc = some (.ifCond cd off, a, b, c)) (kt : ab_icmp cd x 0 = true → wp X j a lv rest h Q) (kf : ab_icmp cd x 0 = false → wp X j (pc + 3) lv rest h Q) : wp X j pc lv (.int x :: rest) h Q := by
  cases hc : ab_icmp cd x 0 with
  | true => exact wp_b hd rfl (show some (bif ab_icmp cd x 0 then a else pc + 3, rest) = some (a, rest) by rw [hc]; rfl) (kt hc)
  | false => exact wp_b hd rfl (show some (bif ab_icmp cd x 0 then a else pc + 3, rest) = some (pc + 3, rest) by rw [hc]; rfl) (kf hc)
theorem wp_get (hd : ab_dc j pc = some (.getfield idx, a, b, c)) (ho : h[q]? = some (.inr (a, fs))) (hf : fs[b]? = some v) (hz : ((v :: rest).map fun v => v.category).sum ≤ 9) (k : wp X j (pc + 3) lv (v :: rest) h Q) : wp X j pc lv (.ref q :: rest) h Q := by
  refine wp_h hd rfl rfl (st' := v :: rest) (h' := h) ?_ hz k
  show ab_hget a b (.ref q :: rest) h = _
  simp only [ab_hget, ab_ob, ho, if_true, hf]
theorem wp_put (hd : ab_dc j pc = some (.putfield idx, a, b, c)) (ho : h[q]? = some (.inr (a, fs))) (hb : b < fs.length) (hn : narrow (ab_cty a b) v = v) (hf : fits (ab_cty a b) v = true) (hz : (rest.map fun v => v.category).sum ≤ 9) (k : wp X j (pc + 3) lv rest (h.set q (.inr (a, fs.set b v))) Q) : wp X j pc lv (v :: .ref q :: rest) h Q := by
  refine wp_h hd rfl rfl (st' := rest) (h' := h.set q (.inr (a, fs.set b v))) ?_ hz k
  show ab_hput a b (v :: .ref q :: rest) h = _
  simp only [ab_hput, ab_ob, ho, if_true]
  rw [if_pos ⟨hb, hn, hf⟩]
theorem wp_bald (hd : ab_dc j pc = some (.baload, a, b, c)) (ho : h[q]? = some (.inl (t, n, .inl f))) (ht : t = 1 ∨ t = 2) (hi : ab_inb i n = true) (hz : ((Value.int (f i.toNatClampNeg) :: rest).map fun v => v.category).sum ≤ 9) (k : wp X j (pc + 1) lv (.int (f i.toNatClampNeg) :: rest) h Q) : wp X j pc lv (.int i :: .ref q :: rest) h Q := by
  refine wp_h hd rfl rfl (st' := .int (f i.toNatClampNeg) :: rest) (h' := h) ?_ hz k
  show ab_hbald (.int i :: .ref q :: rest) h = _
  simp only [ab_hbald, ab_ai, ho]
  rw [if_pos ⟨ht, hi⟩]
theorem wp_iald (hd : ab_dc j pc = some (.iaload, a, b, c)) (ho : h[q]? = some (.inl (0, n, .inl f))) (hi : ab_inb i n = true) (hz : ((Value.int (f i.toNatClampNeg) :: rest).map fun v => v.category).sum ≤ 9) (k : wp X j (pc + 1) lv (.int (f i.toNatClampNeg) :: rest) h Q) : wp X j pc lv (.int i :: .ref q :: rest) h Q := by
  refine wp_h hd rfl rfl (st' := .int (f i.toNatClampNeg) :: rest) (h' := h) ?_ hz k
  show ab_hiald X (.int i :: .ref q :: rest) h = _
  simp [ab_hiald, ab_ai, ho, hi]
theorem wp_lald (hd : ab_dc j pc = some (.laload, a, b, c)) (ho : h[q]? = some (.inl (3, n, .inr (.inl fl)))) (hi : ab_inb i n = true) (hz : ((Value.long (fl i.toNatClampNeg) :: rest).map fun v => v.category).sum ≤ 9) (k : wp X j (pc + 1) lv (.long (fl i.toNatClampNeg) :: rest) h Q) : wp X j pc lv (.int i :: .ref q :: rest) h Q := by
  refine wp_h hd rfl rfl (st' := .long (fl i.toNatClampNeg) :: rest) (h' := h) ?_ hz k
  show ab_hlald (.int i :: .ref q :: rest) h = _
  simp [ab_hlald, ab_al, ho, hi]
theorem wp_aald (hd : ab_dc j pc = some (.aaload, a, b, c)) (ho : h[q]? = some (.inl (t, n, .inr (.inr (.inr (.inr fq)))))) (ht : 4 ≤ t ∧ t ≤ 8) (hi : ab_inb i n = true) (hz : ((va_rf (fq i.toNatClampNeg) :: rest).map fun v => v.category).sum ≤ 9) (k : wp X j (pc + 1) lv (va_rf (fq i.toNatClampNeg) :: rest) h Q) : wp X j pc lv (.int i :: .ref q :: rest) h Q := by
  refine wp_h hd rfl rfl (st' := va_rf (fq i.toNatClampNeg) :: rest) (h' := h) ?_ hz k
  show ab_haald (.int i :: .ref q :: rest) h = _
  simp only [ab_haald, ab_aq, ho]
  rw [if_pos ⟨ht, hi⟩]
theorem wp_iast (hd : ab_dc j pc = some (.iastore, a, b, c)) (ho : h[q]? = some (.inl (0, n, .inl f))) (hi : ab_inb i n = true) (hz : (rest.map fun v => v.category).sum ≤ 9) (k : wp X j (pc + 1) lv rest (h.set q (.inl (0, n, .inl (upd f i.toNatClampNeg x)))) Q) : wp X j pc lv (.int x :: .int i :: .ref q :: rest) h Q := by
  refine wp_h hd rfl rfl (st' := rest) (h' := h.set q (.inl (0, n, .inl (upd f i.toNatClampNeg x)))) ?_ hz k
  show ab_hiast (.int x :: .int i :: .ref q :: rest) h = _
  simp [ab_hiast, ab_ai, ho, hi]
theorem wp_bast (hd : ab_dc j pc = some (.bastore, a, b, c)) (ho : h[q]? = some (.inl (1, n, .inl f))) (hi : ab_inb i n = true) (hz : (rest.map fun v => v.category).sum ≤ 9) (k : wp X j (pc + 1) lv rest (h.set q (.inl (1, n, .inl (upd f i.toNatClampNeg (vp_nar .byte x))))) Q) : wp X j pc lv (.int x :: .int i :: .ref q :: rest) h Q := by
  refine wp_h hd rfl rfl (st' := rest) (h' := h.set q (.inl (1, n, .inl (upd f i.toNatClampNeg (vp_nar .byte x))))) ?_ hz k
  show ab_hbast (.int x :: .int i :: .ref q :: rest) h = _
  simp [ab_hbast, ab_ai, ho, hi]
theorem wp_zast (hd : ab_dc j pc = some (.bastore, a, b, c)) (ho : h[q]? = some (.inl (2, n, .inl f))) (hi : ab_inb i n = true) (hz : (rest.map fun v => v.category).sum ≤ 9) (k : wp X j (pc + 1) lv rest (h.set q (.inl (2, n, .inl (upd f i.toNatClampNeg (vp_nar .boolean x))))) Q) : wp X j pc lv (.int x :: .int i :: .ref q :: rest) h Q := by
  refine wp_h hd rfl rfl (st' := rest) (h' := h.set q (.inl (2, n, .inl (upd f i.toNatClampNeg (vp_nar .boolean x))))) ?_ hz k
  show ab_hbast (.int x :: .int i :: .ref q :: rest) h = _
  simp [ab_hbast, ab_ai, ho, hi]
theorem wp_iret {ty : FieldType} (hd : ab_dc j pc = some (.ireturn, a, b, c)) (ht : (ab_mt j).2.2.2.1 = some ty) (hn : narrow ty (.int x) = .int x) (hq : Q (some (.int x)) h) : wp X j pc lv [.int x] h Q := by
  refine wp_r hd rfl rfl rfl ?_ hq
  rw [ht]
  simp only [ab_r]
  rw [if_pos hn]
theorem wp_vret (hd : ab_dc j pc = some (.return_, a, b, c)) (ht : (ab_mt j).2.2.2.1 = none) (hq : Q none h) : wp X j pc lv [] h Q := by
  refine wp_r hd rfl rfl rfl ?_ hq
  rw [ht]
  rfl
theorem wp_lret {xl : Int64} (hd : ab_dc j pc = some (.lreturn, a, b, c)) (ht : (ab_mt j).2.2.2.1 = some .long) (hq : Q (some (.long xl)) h) : wp X j pc lv [.long xl] h Q := by
  refine wp_r hd rfl rfl rfl ?_ hq
  rw [ht]
  rfl
end WP2
theorem ab_eqT {x y : Int32} (h : ab_icmp .eq x y = true) : x = y := of_decide_eq_true h
theorem ab_eqF {x y : Int32} (h : ab_icmp .eq x y = false) : ¬ x = y := of_decide_eq_false h
theorem ab_neT {x y : Int32} (h : ab_icmp .ne x y = true) : ¬ x = y := of_decide_eq_true h
theorem ab_neF {x y : Int32} (h : ab_icmp .ne x y = false) : x = y := Classical.byContradiction (fun z => of_decide_eq_false h z)
theorem ab_ltT {x y : Int32} (h : ab_icmp .lt x y = true) : x < y := of_decide_eq_true h
theorem ab_ltF {x y : Int32} (h : ab_icmp .lt x y = false) : ¬ x < y := of_decide_eq_false h
theorem ab_geT {x y : Int32} (h : ab_icmp .ge x y = true) : y ≤ x := of_decide_eq_true h
theorem ab_geF {x y : Int32} (h : ab_icmp .ge x y = false) : ¬ y ≤ x := of_decide_eq_false h
theorem ab_gtT {x y : Int32} (h : ab_icmp .gt x y = true) : y < x := of_decide_eq_true h
theorem ab_gtF {x y : Int32} (h : ab_icmp .gt x y = false) : ¬ y < x := of_decide_eq_false h
theorem ab_leT {x y : Int32} (h : ab_icmp .le x y = true) : x ≤ y := of_decide_eq_true h
theorem ab_leF {x y : Int32} (h : ab_icmp .le x y = false) : ¬ x ≤ y := of_decide_eq_false h
/-- a truth as the machine has it -/
def bI (b : Bool) : Int32 := if b then 1 else 0
theorem bI_nar (b : Bool) : narrow .boolean (.int (bI b)) = .int (bI b) := by cases b <;> decide
