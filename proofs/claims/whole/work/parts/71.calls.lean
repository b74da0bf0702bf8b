section WP3
variable {X : Nat → Option (Nat × (Nat → Int32))} {j pc a b c idx q n t : Nat} {lv : ab_L} {As rest st : List Value} {h : ab_H} {Q Q1 : Option Value → ab_H → Prop} {x : Int32} {v : Value} {fs : List Value}
theorem wp_obj (hd : ab_dc j pc = some (.invokespecial idx, a, b, 9)) (hz : (rest.map fun v => v.category).sum ≤ 9) (k : wp X j (pc + 3) lv rest h Q) : wp X j pc lv (.ref q :: rest) h Q := wp_h hd rfl rfl (st' := rest) (h' := h) rfl hz k
theorem wp_new (hd : ab_dc j pc = some (.new idx, a, b, c)) (hl : h.length < 1000000) (hz : ((Value.ref h.length :: rest).map fun v => v.category).sum ≤ 9) (k : wp X j (pc + 3) lv (.ref h.length :: rest) (h ++ [.inr (a, ab_cdf a)]) Q) : wp X j pc lv rest h Q := by
  refine wp_h hd rfl rfl (st' := .ref h.length :: rest) (h' := h ++ [(.inr (a, ab_cdf a) : ab_E)]) ?_ hz k
  show ab_hnew a rest h = _
  simp only [ab_hnew]
  rw [if_pos hl]
theorem wp_newb {m : Nat} (hd : ab_dc j pc = some (.newarray .byte, a, b, c)) (hl : h.length < 1000000) (hx : ¬ x < 0) (hm : x.toNatClampNeg = m) (hb : m * 8 ≤ 536870912) (hz : ((Value.ref h.length :: rest).map fun v => v.category).sum ≤ 9) (k : wp X j (pc + 2) lv (.ref h.length :: rest) (h ++ [.inl (1, m, .inl (fun _ => 0))]) Q) : wp X j pc lv (.int x :: rest) h Q := by
  subst hm
  refine wp_h hd rfl rfl (st' := .ref h.length :: rest) (h' := h ++ [(.inl (1, x.toNatClampNeg, .inl (fun _ => 0)) : ab_E)]) ?_ hz k
  show ab_hnewa .byte (.int x :: rest) h = _
  simp only [ab_hnewa]
  rw [if_neg hx, if_pos ⟨hb, hl⟩]
theorem wp_newi {m : Nat} (hd : ab_dc j pc = some (.newarray .int, a, b, c)) (hl : h.length < 1000000) (hx : ¬ x < 0) (hm : x.toNatClampNeg = m) (hb : m * 8 ≤ 536870912) (hz : ((Value.ref h.length :: rest).map fun v => v.category).sum ≤ 9) (k : wp X j (pc + 2) lv (.ref h.length :: rest) (h ++ [.inl (0, m, .inl (fun _ => 0))]) Q) : wp X j pc lv (.int x :: rest) h Q := by
  subst hm
  refine wp_h hd rfl rfl (st' := .ref h.length :: rest) (h' := h ++ [(.inl (0, x.toNatClampNeg, .inl (fun _ => 0)) : ab_E)]) ?_ hz k
  show ab_hnewa .int (.int x :: rest) h = _
  simp only [ab_hnewa]
  rw [if_neg hx, if_pos ⟨hb, hl⟩]
theorem wp_newl {m : Nat} (hd : ab_dc j pc = some (.newarray .long, a, b, c)) (hl : h.length < 1000000) (hx : ¬ x < 0) (hm : x.toNatClampNeg = m) (hb : m * 8 ≤ 536870912) (hz : ((Value.ref h.length :: rest).map fun v => v.category).sum ≤ 9) (k : wp X j (pc + 2) lv (.ref h.length :: rest) (h ++ [.inl (3, m, .inr (.inl (fun _ => 0)))]) Q) : wp X j pc lv (.int x :: rest) h Q := by
  subst hm
  refine wp_h hd rfl rfl (st' := .ref h.length :: rest) (h' := h ++ [(.inl (3, x.toNatClampNeg, .inr (.inl (fun _ => 0))) : ab_E)]) ?_ hz k
  show ab_hnewa .long (.int x :: rest) h = _
  simp only [ab_hnewa]
  rw [if_neg hx, if_pos ⟨hb, hl⟩]
theorem wp_newz {m : Nat} (hd : ab_dc j pc = some (.newarray .boolean, a, b, c)) (hl : h.length < 1000000) (hx : ¬ x < 0) (hm : x.toNatClampNeg = m) (hb : m * 8 ≤ 536870912) (hz : ((Value.ref h.length :: rest).map fun v => v.category).sum ≤ 9) (k : wp X j (pc + 2) lv (.ref h.length :: rest) (h ++ [.inl (2, m, .inl (fun _ => 0))]) Q) : wp X j pc lv (.int x :: rest) h Q := by
  subst hm
  refine wp_h hd rfl rfl (st' := .ref h.length :: rest) (h' := h ++ [(.inl (2, x.toNatClampNeg, .inl (fun _ => 0)) : ab_E)]) ?_ hz k
  show ab_hnewa .boolean (.int x :: rest) h = _
  simp only [ab_hnewa]
  rw [if_neg hx, if_pos ⟨hb, hl⟩]
theorem wp_newq {m : Nat} (hd : ab_dc j pc = some (.anewarray idx, a, b, c)) (hl : h.length < 1000000) (hx : ¬ x < 0) (hm : x.toNatClampNeg = m) (hb : m * 8 ≤ 536870912) (hz : ((Value.ref h.length :: rest).map fun v => v.category).sum ≤ 9) (k : wp X j (pc + 3) lv (.ref h.length :: rest) (h ++ [.inl (a, m, .inr (.inr (.inr (.inr (fun _ => none)))))]) Q) : wp X j pc lv (.int x :: rest) h Q := by
  subst hm
  refine wp_h hd rfl rfl (st' := .ref h.length :: rest) (h' := h ++ [(.inl (a, x.toNatClampNeg, .inr (.inr (.inr (.inr (fun _ => none))))) : ab_E)]) ?_ hz k
  show ab_hnewq a (.int x :: rest) h = _
  simp only [ab_hnewq]
  rw [if_neg hx, if_pos ⟨hb, hl⟩]
theorem wp_aast {fq : Nat → Option Nat} {w ci : Nat} {i : Int32} (hd : ab_dc j pc = some (.aastore, a, b, c)) (ho : h[q]? = some (.inl (t, n, .inr (.inr (.inr (.inr fq)))))) (hw : h[w]? = some (.inr (ci, fs))) (ht : (4 ≤ t ∧ t ≤ 8) ∧ ci = ab_aci t) (hi : ab_inb i n = true) (hz : (rest.map fun v => v.category).sum ≤ 9) (k : wp X j (pc + 1) lv rest (h.set q (.inl (t, n, .inr (.inr (.inr (.inr (va_up fq i.toNatClampNeg (some w)))))))) Q) : wp X j pc lv (.ref w :: .int i :: .ref q :: rest) h Q := by
  refine wp_h hd rfl rfl (st' := rest) (h' := h.set q (.inl (t, n, .inr (.inr (.inr (.inr (va_up fq i.toNatClampNeg (some w)))))))) ?_ hz k
  show ab_haast (.ref w :: .int i :: .ref q :: rest) h = _
  simp only [ab_haast, ab_aq, ho, hw]
  rw [if_pos ⟨ht.1, ht.2, hi⟩]
/-- a call of a static method -/
theorem wp_cs (hd : ab_dc j pc = some (.invokestatic idx, a, As.length, c)) (hc : c ≤ 1) (hst : st = As.reverse ++ rest) (h1 : (lg_sl As).length ≤ (ab_mt a).2.2.1) (h2 : (rest.map fun v => v.category).sum ≤ 8) (hm : mw X a As h Q1) (k : ∀ v h', Q1 v h' → wp X j (pc + 3) lv (v.toList ++ rest) h' Q) : wp X j pc lv st h Q := by
  subst hst
  have hc2 : ¬ c = 2 := by omega
  have hc3 : ¬ c = 3 := by omega
  have hc4 : ¬ c = 4 := by omega
  refine wp_c hd rfl rfl (by simp only [ab_h, hc2, hc3, hc4, if_false]) rfl ?_ hm k
  have e1 : (As.reverse ++ rest).take As.length = As.reverse := by rw [← List.length_reverse (as := As), List.take_left]
  have e2 : (As.reverse ++ rest).drop As.length = rest := by rw [← List.length_reverse (as := As), List.drop_left]
  unfold ab_c
  rw [if_pos ⟨hc, by simp⟩]
  dsimp only
  rw [e1, e2, List.reverse_reverse]
  unfold ab_cc
  rw [if_pos ⟨h1, h2⟩]
/-- a call of a constructor -/
theorem wp_ci (hd : ab_dc j pc = some (.invokespecial idx, a, As.length, c)) (hc : c ≤ 1) (hst : st = As.reverse ++ .ref q :: rest) (h1 : (lg_sl (.ref q :: As)).length ≤ (ab_mt a).2.2.1) (h2 : (rest.map fun v => v.category).sum ≤ 8) (hm : mw X a (.ref q :: As) h Q1) (k : ∀ v h', Q1 v h' → wp X j (pc + 3) lv (v.toList ++ rest) h' Q) : wp X j pc lv st h Q := by
  subst hst
  have hc2 : ¬ c = 9 := by omega
  refine wp_c hd rfl rfl (by simp only [ab_h, hc2, if_false]) rfl ?_ hm k
  have e1 : (As.reverse ++ .ref q :: rest).take As.length = As.reverse := by rw [← List.length_reverse (as := As), List.take_left]
  have e2 : (As.reverse ++ .ref q :: rest).drop As.length = .ref q :: rest := by rw [← List.length_reverse (as := As), List.drop_left]
  unfold ab_c
  rw [if_pos ⟨hc, by simp⟩]
  dsimp only
  rw [e1, e2, List.reverse_reverse]
  dsimp only
  unfold ab_cc
  rw [if_pos ⟨h1, h2⟩]
/-- a call of a method of an object -/
theorem wp_cv (hd : ab_dc j pc = some (.invokevirtual idx, a, As.length, c)) (hc : c ≤ 1) (hst : st = As.reverse ++ .ref q :: rest) (ho : h[q]? = some (.inr ((ab_mt a).2.2.2.2.2.2, fs))) (h1 : (lg_sl (.ref q :: As)).length ≤ (ab_mt a).2.2.1) (h2 : (rest.map fun v => v.category).sum ≤ 8) (hm : mw X a (.ref q :: As) h Q1) (k : ∀ v h', Q1 v h' → wp X j (pc + 3) lv (v.toList ++ rest) h' Q) : wp X j pc lv st h Q := by
  subst hst
  have hc2 : ¬ c = 7 := by omega
  have hc3 : ¬ c = 8 := by omega
  refine wp_c hd rfl rfl (by simp only [ab_h, hc2, hc3, if_false]) rfl ?_ hm k
  have e1 : (As.reverse ++ .ref q :: rest).take As.length = As.reverse := by rw [← List.length_reverse (as := As), List.take_left]
  have e2 : (As.reverse ++ .ref q :: rest).drop As.length = .ref q :: rest := by rw [← List.length_reverse (as := As), List.drop_left]
  unfold ab_c
  rw [if_pos ⟨hc, by simp⟩]
  dsimp only
  rw [e1, e2, List.reverse_reverse]
  dsimp only
  simp only [ab_ob, ho, if_true]
  unfold ab_cc
  rw [if_pos ⟨h1, h2⟩]
end WP3
/-! cells behind a store, behind a new one -/
theorem hset_eq {h : ab_H} {q : Nat} {e e' : ab_E} (ho : h[q]? = some e) : (h.set q e')[q]? = some e' := by
  rw [List.getElem?_set_self (List.getElem?_eq_some_iff.mp ho).1]
theorem hset_ne {h : ab_H} {q p : Nat} {e' : ab_E} {x : Option ab_E} (hne : q ≠ p) (ho : h[p]? = x) : (h.set q e')[p]? = x := by
  rw [List.getElem?_set_ne hne]; exact ho
theorem happ_old {h : ab_H} {p : Nat} {e e' : ab_E} (ho : h[p]? = some e) : (h ++ [e'])[p]? = some e := by
  rw [List.getElem?_append_left (List.getElem?_eq_some_iff.mp ho).1]; exact ho
theorem happ_new {h : ab_H} {e' : ab_E} : (h ++ [e'])[h.length]? = some e' := by
  rw [List.getElem?_append_right (Nat.le_refl _), Nat.sub_self]; rfl
/-- only the cells that S names may have changed -/
def Same (S : Nat → Prop) (h h' : ab_H) : Prop := h.length ≤ h'.length ∧ ∀ p, p < h.length → ¬ S p → h'[p]? = h[p]?
theorem Same.rf {S : Nat → Prop} {h : ab_H} : Same S h h := ⟨Nat.le_refl _, fun _ _ _ => rfl⟩
theorem Same.tr {S T U : Nat → Prop} {h h1 h2 : ab_H} (a : Same S h h1) (b : Same T h1 h2) (hs : ∀ p, S p → U p) (ht : ∀ p, p < h.length → T p → U p) : Same U h h2 :=
  ⟨Nat.le_trans a.1 b.1, fun p hp hu => by rw [b.2 p (Nat.lt_of_lt_of_le hp a.1) (fun z => hu (ht p hp z)), a.2 p hp (fun z => hu (hs p z))]⟩
theorem Same.st {S : Nat → Prop} {h : ab_H} {q : Nat} {e : ab_E} (hq : S q) : Same S h (h.set q e) := ⟨by rw [List.length_set]; exact Nat.le_refl _, fun p _ hp => List.getElem?_set_ne (fun (z : q = p) => hp (by rw [← z]; exact hq))⟩
theorem Same.ap {S : Nat → Prop} {h : ab_H} {e : ab_E} : Same S h (h ++ [e]) := ⟨by simp, fun p hp _ => List.getElem?_append_left hp⟩
theorem Same.at {S : Nat → Prop} {h h' : ab_H} (s : Same S h h') {p : Nat} {e : ab_E} (ho : h[p]? = some e) (hp : ¬ S p) : h'[p]? = some e := by
  rw [s.2 p (List.getElem?_eq_some_iff.mp ho).1 hp]; exact ho
theorem ab_lt {h : ab_H} {p : Nat} {e : ab_E} (ho : h[p]? = some e) : p < h.length := (List.getElem?_eq_some_iff.mp ho).1
/-- new Bytes(limit) -/
theorem m_Bytes_init (X : Nat → Option (Nat × (Nat → Int32))) (q : Nat) (lim : Int32) (h : ab_H) (ho : h[q]? = some (.inr (4, [.int 0, .null, .int 0]))) (hl : h.length < 1000000) :
    mw X J_Bytes_init [.ref q, .int lim] h (fun r h' => r = none ∧ h'.length = h.length + 1 ∧ h'[q]? = some (.inr (4, [.int lim, .ref h.length, .int 0])) ∧ h'[h.length]? = some (.inl (1, 16, .inl (fun _ => 0))) ∧ Same (fun p => p = q) h h') := by
  have hq := ab_lt ho
  refine wp_p (j := J_Bytes_init) 1 (pc' := 1) (lv' := [(0, .ref q), (1, .int lim)]) (st' := [.ref q]) rfl ?_
  refine wp_obj rfl (Nat.le_of_ble_eq_true rfl) ?_
  refine wp_p (j := J_Bytes_init) 2 (pc' := 6) (lv' := [(0, .ref q), (1, .int lim)]) (st' := [.int lim, .ref q]) rfl ?_
  refine wp_put rfl ho (Nat.lt_of_lt_of_eq (by decide : 0 < 3) rfl) rfl rfl (Nat.le_of_ble_eq_true rfl) ?_
  have o1 := hset_eq (e' := .inr (4, [.int lim, .null, .int 0])) ho
  have l1 : (h.set q (.inr (4, [.int lim, .null, .int 0]))).length = h.length := List.length_set
  have s1 : Same (fun p => p = q) h (h.set q (.inr (4, [.int lim, .null, .int 0]))) := Same.st rfl
  show wp X J_Bytes_init 9 [(0, .ref q), (1, .int lim)] [] (h.set q (.inr (4, [.int lim, .null, .int 0]))) _
  generalize h.set q (.inr (4, [.int lim, .null, .int 0])) = h1 at o1 l1 s1 ⊢
  refine wp_p (j := J_Bytes_init) 2 (pc' := 12) (lv' := [(0, .ref q), (1, .int lim)]) (st' := [.int 16, .ref q]) rfl ?_
  refine wp_newb (m := 16) rfl (by omega) (by decide) (by decide) (by decide) (Nat.le_of_ble_eq_true rfl) ?_
  refine wp_put rfl (happ_old o1) (Nat.lt_of_lt_of_eq (by decide : 1 < 3) rfl) rfl rfl (Nat.le_of_ble_eq_true rfl) ?_
  refine wp_vret rfl rfl ?_
  rw [l1]
  refine ⟨rfl, by simp [l1], hset_eq (happ_old o1), hset_ne (by omega) (by rw [← l1]; exact happ_new), ?_⟩
  exact (s1.tr (Same.ap (S := fun p => p = q)) (fun _ z => z) (fun _ _ z => z)).tr (Same.st (S := fun p => p = q) rfl) (fun _ z => z) (fun _ _ z => z)
