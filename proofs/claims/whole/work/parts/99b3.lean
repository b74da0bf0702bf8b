/-! A NODE COMES: the tree's order then -/
def insO (o : Int → Int) (E v : Int) : Int → Int := fun j => if j < E then o j else if j = E then v else o (j - 1)
def insE (e : Int → Int) (k E : Int) : Int → Int := fun j => if j < E then (if j ≤ k ∧ E ≤ e j then e j + 1 else e j) else if j = E then E + 1 else e (j - 1) + 1
def insP (p : Int → Int) (k E : Int) : Int → Int := fun j => if j < E then p j else if j = E then k else (if p (j - 1) < E then p (j - 1) else p (j - 1) + 1)
section B3
variable {N k v : Int} {o e p par fk nx lk par' fk' nx' lk' bf bf' : Int → Int}
theorem ins_nest (h : TG N o e p par fk nx) (h0 : 0 ≤ k) (h1 : k < N) : ∀ i j, 0 ≤ i → i < j → j < insE e k (e k) i → j < N + 1 → insE e k (e k) j ≤ insE e k (e k) i := by
  have eB : ∀ k, 0 ≤ k → k < N → k < e k ∧ e k ≤ N := h.2.2.2.1
  have nest : ∀ k j, 0 ≤ k → k < j → j < e k → j < N → e j ≤ e k := h.2.2.2.2.1
  intro i j a b c d
  have hk := eB k h0 h1
  unfold insE at c ⊢
  have f1 := eB i
  have f2 := eB j
  have f3 := eB (i - 1)
  have f4 := eB (j - 1)
  have g1 := nest i j
  have g2 := nest i (j - 1)
  have g3 := nest (i - 1) (j - 1)
  have g4 := nest i k
  have g5 := nest k i
  have g6 := nest k j
  have g7 := nest k (j - 1)
  have g8 := nest j k
  repeat' split at c
  all_goals (repeat' split)
  all_goals omega
theorem ins_eB (h : TG N o e p par fk nx) (h0 : 0 ≤ k) (h1 : k < N) : ∀ i, 0 ≤ i → i < N + 1 → i < insE e k (e k) i ∧ insE e k (e k) i ≤ N + 1 := by
  intro i a b
  have hk := h.eB h0 h1
  have f1 := h.2.2.2.1 i
  have f3 := h.2.2.2.1 (i - 1)
  unfold insE
  repeat' split
  all_goals omega
theorem ins_pB (h : TG N o e p par fk nx) (h0 : 0 ≤ k) (h1 : k < N) : ∀ j, 1 ≤ j → j < N + 1 → 0 ≤ insP p k (e k) j ∧ insP p k (e k) j < j ∧ j < insE e k (e k) (insP p k (e k) j) := by
  intro j a b
  have hk := h.eB h0 h1
  have f1 := h.2.2.2.2.2.1 j
  have f2 := h.2.2.2.2.2.1 (j - 1)
  have f3 := h.2.2.2.1 (p j)
  have f4 := h.2.2.2.1 (p (j - 1))
  have g1 := h.2.2.2.2.1 (p j) k
  have g2 := h.2.2.2.2.1 k (p j)
  have g3 := h.2.2.2.2.1 (p (j - 1)) k
  have g4 := h.2.2.2.2.1 k (p (j - 1))
  have hp : insP p k (e k) j = if j < e k then p j else if j = e k then k else (if p (j - 1) < e k then p (j - 1) else p (j - 1) + 1) := rfl
  by_cases c1 : j < e k
  · rw [hp, if_pos c1]
    unfold insE
    repeat' split
    all_goals omega
  · by_cases c2 : j = e k
    · rw [hp, if_neg c1, if_pos c2]
      unfold insE
      repeat' split
      all_goals omega
    · by_cases c3 : p (j - 1) < e k
      · rw [hp, if_neg c1, if_neg c2, if_pos c3]
        unfold insE
        repeat' split
        all_goals omega
      · rw [hp, if_neg c1, if_neg c2, if_neg c3]
        unfold insE
        rw [if_neg (by omega), if_neg (by omega), show p (j - 1) + 1 - 1 = p (j - 1) by omega]
        omega
theorem ins_pM (h : TG N o e p par fk nx) (h0 : 0 ≤ k) (h1 : k < N) : ∀ j i, 1 ≤ j → j < N + 1 → insP p k (e k) j < i → i < j → insE e k (e k) i ≤ j := by
  intro j i a b c d
  have hk := h.eB h0 h1
  have f1 := h.2.2.2.2.2.2.1 j i
  have f2 := h.2.2.2.2.2.2.1 (j - 1) i
  have f3 := h.2.2.2.2.2.2.1 (j - 1) (i - 1)
  have f4 := h.2.2.2.2.2.1 j
  have f5 := h.2.2.2.2.2.1 (j - 1)
  have f6 := h.2.2.2.1 i
  have f7 := h.2.2.2.1 (i - 1)
  have g1 := h.2.2.2.2.1 k i
  have g2 := h.2.2.2.2.1 i k
  unfold insP at c
  unfold insE
  repeat' split at c
  all_goals (repeat' split)
  all_goals omega
theorem insO_lt {E j : Int} (h : j < E) : insO o E v j = o j := if_pos h
theorem insO_eq {E : Int} : insO o E v E = v := by unfold insO; rw [if_neg (by omega), if_pos rfl]
theorem insO_gt {E j : Int} (h : E < j) : insO o E v j = o (j - 1) := by unfold insO; rw [if_neg (by omega), if_neg (by omega)]
theorem ins_cases {E j : Int} : (j < E ∧ insO o E v j = o j) ∨ (j = E ∧ insO o E v j = v) ∨ (E < j ∧ insO o E v j = o (j - 1)) := by
  rcases Int.lt_trichotomy j E with h | h | h
  · exact .inl ⟨h, insO_lt h⟩
  · exact .inr (.inl ⟨h, by rw [h, insO_eq]⟩)
  · exact .inr (.inr ⟨h, insO_gt h⟩)
/-- the links of the tree with one more -/
theorem TG_ins (h : TG N o e p par fk nx) (h0 : 0 ≤ k) (h1 : k < N) (hN : N < 120) (hv : 0 ≤ v ∧ v < 120) (hf : ∀ j, 0 ≤ j → j < N → o j ≠ v)
    (p1 : ∀ j, 0 ≤ j → j < N → par' (o j) = par (o j)) (p2 : par' v = o k)
    (k1 : ∀ j, 0 ≤ j → j < N → j ≠ k → fk' (o j) = fk (o j)) (k2 : fk' (o k) = if e k = k + 1 then v else fk (o k)) (k3 : fk' v = -1)
    (x1 : ∀ j, 0 ≤ j → j < N → ¬ (k < j ∧ p j = k ∧ e j = e k) → nx' (o j) = nx (o j)) (x2 : ∀ j, k < j → j < N → p j = k → e j = e k → nx' (o j) = v) (x3 : nx' v = -1) : TG (N + 1) (insO o (e k) v) (insE e k (e k)) (insP p k (e k)) par' fk' nx' := by
  have hk := h.eB h0 h1
  have hN1 := h.N1
  have he0 := h.e0
  refine ⟨⟨by omega, by omega, ?_, ?_, ?_, ?_⟩, fun j a b => ?_, fun i j a b c d f => ?_, ins_eB h h0 h1, ins_nest h h0 h1, ins_pB h h0 h1, ins_pM h h0 h1, fun j a b => ?_, fun j a b => ?_, fun j a b => ?_⟩
  · rw [insO_lt (by omega)]; exact h.o0
  · unfold insE; rw [if_pos (by omega), if_pos (by omega)]; omega
  · rw [insO_lt (by omega), p1 0 (by omega) (by omega)]; exact h.par0
  · rw [insO_lt (by omega), x1 0 (by omega) (by omega) (by omega)]; exact h.nx0
  · rcases ins_cases (o := o) (E := e k) (v := v) (j := j) with ⟨_, q⟩ | ⟨_, q⟩ | ⟨_, q⟩ <;> rw [q]
    · exact h.oB a (by omega)
    · exact hv
    · exact h.oB (by omega) (by omega)
  · rcases ins_cases (o := o) (E := e k) (v := v) (j := i) with ⟨u1, q⟩ | ⟨u1, q⟩ | ⟨u1, q⟩ <;> rcases ins_cases (o := o) (E := e k) (v := v) (j := j) with ⟨u2, q'⟩ | ⟨u2, q'⟩ | ⟨u2, q'⟩ <;> rw [q, q'] at f
    · exact h.inj a (by omega) c (by omega) f
    · exact absurd f (hf i a (by omega))
    · have := h.inj a (by omega) (show 0 ≤ j - 1 by omega) (by omega) f; omega
    · exact absurd f.symm (hf j c (by omega))
    · omega
    · exact absurd f.symm (hf (j - 1) (by omega) (by omega))
    · have := h.inj (show 0 ≤ i - 1 by omega) (by omega) c (by omega) f; omega
    · exact absurd f (hf (i - 1) (by omega) (by omega))
    · have := h.inj (show 0 ≤ i - 1 by omega) (by omega) (show 0 ≤ j - 1 by omega) (by omega) f; omega
  · unfold insP
    rcases ins_cases (o := o) (E := e k) (v := v) (j := j) with ⟨u1, q⟩ | ⟨u1, q⟩ | ⟨u1, q⟩ <;> rw [q]
    · have hp := h.pB (k := j) a (by omega)
      rw [if_pos u1, p1 j (by omega) (by omega), h.parE a (by omega), insO_lt (by omega)]
    · rw [if_neg (by omega), if_pos u1, p2, insO_lt (by omega)]
    · have hp := h.pB (k := j - 1) (by omega) (by omega)
      rw [if_neg (by omega), if_neg (by omega), p1 (j - 1) (by omega) (by omega), h.parE (by omega) (by omega)]
      by_cases c : p (j - 1) < e k
      · rw [if_pos c, insO_lt c]
      · rw [if_neg c, insO_gt (by omega), show p (j - 1) + 1 - 1 = p (j - 1) by omega]
  · rcases ins_cases (o := o) (E := e k) (v := v) (j := j) with ⟨u1, q⟩ | ⟨u1, q⟩ | ⟨u1, q⟩ <;> rw [q]
    · have hj := h.eB (k := j) a (by omega)
      have g1 := h.2.2.2.2.1 j k
      have g2 := h.2.2.2.2.1 k j
      by_cases c : j = k
      · subst c
        rw [k2]
        have e1 : insE e j (e j) j = e j + 1 := by unfold insE; rw [if_pos u1, if_pos (by omega)]
        rw [e1]
        by_cases c2 : e j = j + 1
        · rw [if_pos c2, if_pos (by omega), ← c2, insO_eq]
        · rw [if_neg c2, h.fkE a (by omega), if_pos (by omega), if_pos (by omega), insO_lt (by omega)]
      · rw [k1 j a (by omega) c, h.fkE a (by omega)]
        have e1 : insE e k (e k) j = if j ≤ k ∧ e k ≤ e j then e j + 1 else e j := by unfold insE; rw [if_pos u1]
        rw [e1]
        by_cases c2 : j + 1 < e j
        · rw [if_pos c2, if_pos (by split <;> omega), insO_lt (by omega)]
        · rw [if_neg c2, if_neg (by split <;> omega)]
    · rw [k3]
      have e1 : insE e k (e k) j = e k + 1 := by unfold insE; rw [if_neg (by omega), if_pos u1]
      rw [e1, if_neg (by omega)]
    · rw [k1 (j - 1) (by omega) (by omega) (by omega), h.fkE (by omega) (by omega)]
      have e1 : insE e k (e k) j = e (j - 1) + 1 := by unfold insE; rw [if_neg (by omega), if_neg (by omega)]
      rw [e1]
      by_cases c2 : j - 1 + 1 < e (j - 1)
      · rw [if_pos c2, if_pos (by omega), insO_gt (by omega), show j + 1 - 1 = j - 1 + 1 by omega]
      · rw [if_neg c2, if_neg (by omega)]
  · rcases ins_cases (o := o) (E := e k) (v := v) (j := j) with ⟨u1, q⟩ | ⟨u1, q⟩ | ⟨u1, q⟩ <;> rw [q]
    · have hj := h.eB (k := j) (by omega) (by omega)
      have hp := h.pB (k := j) a (by omega)
      have hep := h.ep (k := j) a (by omega)
      have g1 := h.2.2.2.2.1 j k
      have g2 := h.2.2.2.2.1 k j
      have g3 := h.2.2.2.2.1 (p j) k
      have g4 := h.2.2.2.2.1 k (p j)
      have g5 := h.2.2.2.2.2.2.1 j k
      have hpe := h.eB (k := p j) (by omega) (by omega)
      have e1 : insE e k (e k) j = if j ≤ k ∧ e k ≤ e j then e j + 1 else e j := by unfold insE; rw [if_pos u1]
      have e2 : insP p k (e k) j = p j := by unfold insP; rw [if_pos u1]
      have e3 : insE e k (e k) (p j) = if p j ≤ k ∧ e k ≤ e (p j) then e (p j) + 1 else e (p j) := by unfold insE; rw [if_pos (by omega)]
      rw [e2, e3, e1]
      by_cases c : k < j ∧ p j = k ∧ e j = e k
      · rw [x2 j c.1 (by omega) c.2.1 c.2.2, if_pos (show p j ≤ k ∧ e k ≤ e (p j) by omega), if_neg (show ¬ (j ≤ k ∧ e k ≤ e j) by omega), c.2.2, c.2.1, if_pos (by omega), insO_eq]
      · rw [x1 j (by omega) (by omega) c, h.nxE a (by omega)]
        by_cases c2 : j ≤ k ∧ e k ≤ e j
        · rw [if_pos c2, if_pos (show p j ≤ k ∧ e k ≤ e (p j) by omega)]
          by_cases c3 : e j < e (p j)
          · rw [if_pos c3, if_pos (by omega), insO_gt (by omega), show e j + 1 - 1 = e j by omega]
          · rw [if_neg c3, if_neg (by omega)]
        · rw [if_neg c2]
          by_cases c4 : p j ≤ k ∧ e k ≤ e (p j)
          · rw [if_pos c4]
            by_cases c3 : e j < e (p j)
            · rw [if_pos c3, if_pos (by omega)]
              rcases Int.lt_trichotomy (e j) (e k) with c5 | c5 | c5
              · rw [insO_lt c5]
              · exfalso; omega
              · exfalso; omega
            · exfalso; omega
          · rw [if_neg c4]
            by_cases c3 : e j < e (p j)
            · rw [if_pos c3, if_pos c3]
              rcases Int.lt_trichotomy (e j) (e k) with c5 | c5 | c5
              · rw [insO_lt c5]
              · exfalso; omega
              · exfalso; omega
            · rw [if_neg c3, if_neg c3]
    · rw [x3]
      have e1 : insE e k (e k) j = e k + 1 := by unfold insE; rw [if_neg (by omega), if_pos u1]
      have e2 : insP p k (e k) j = k := by unfold insP; rw [if_neg (by omega), if_pos u1]
      have e3 : insE e k (e k) k = e k + 1 := by unfold insE; rw [if_pos (by omega), if_pos (by omega)]
      rw [e1, e2, e3, if_neg (by omega)]
    · have hj := h.eB (k := j - 1) (by omega) (by omega)
      have hp := h.pB (k := j - 1) (by omega) (by omega)
      have hep := h.ep (k := j - 1) (by omega) (by omega)
      have g3 := h.2.2.2.2.1 (p (j - 1)) k
      have g4 := h.2.2.2.2.1 k (p (j - 1))
      rw [x1 (j - 1) (by omega) (by omega) (by omega), h.nxE (by omega) (by omega)]
      have e1 : insE e k (e k) j = e (j - 1) + 1 := by unfold insE; rw [if_neg (by omega), if_neg (by omega)]
      have e2 : insP p k (e k) j = if p (j - 1) < e k then p (j - 1) else p (j - 1) + 1 := by unfold insP; rw [if_neg (by omega), if_neg (by omega)]
      have e3 : insE e k (e k) (insP p k (e k) j) = e (p (j - 1)) + 1 := by
        rw [e2]
        unfold insE
        by_cases c : p (j - 1) < e k
        · rw [if_pos c, if_pos c, if_pos (by omega)]
        · rw [if_neg c, if_neg (by omega), if_neg (by omega), show p (j - 1) + 1 - 1 = p (j - 1) by omega]
      rw [e3, e1]
      by_cases c3 : e (j - 1) < e (p (j - 1))
      · rw [if_pos c3, if_pos (by omega), insO_gt (by omega), show e (j - 1) + 1 - 1 = e (j - 1) by omega]
      · rw [if_neg c3, if_neg (by omega)]
end B3
