/-! A NODE GOES, with all in it: the tree's order then -/
def delO (o : Int → Int) (k w : Int) : Int → Int := fun j => if j < k then o j else o (j + w)
def delE (e : Int → Int) (k w : Int) : Int → Int := fun j => if j < k then (if k + w ≤ e j then e j - w else e j) else e (j + w) - w
def delP (p : Int → Int) (k w : Int) : Int → Int := fun j => if j < k then p j else (if p (j + w) < k then p (j + w) else p (j + w) - w)
section B5
variable {N k w v : Int} {o e p par fk nx lk par' fk' nx' lk' bf bf' : Int → Int}
theorem delO_lt {j : Int} (h : j < k) : delO o k w j = o j := if_pos h
theorem delO_ge {j : Int} (h : k ≤ j) : delO o k w j = o (j + w) := if_neg (by omega)
theorem delE_lt {j : Int} (h : j < k) : delE e k w j = if k + w ≤ e j then e j - w else e j := if_pos h
theorem delE_ge {j : Int} (h : k ≤ j) : delE e k w j = e (j + w) - w := if_neg (by omega)
theorem delP_lt {j : Int} (h : j < k) : delP p k w j = p j := if_pos h
theorem delP_ge {j : Int} (h : k ≤ j) : delP p k w j = if p (j + w) < k then p (j + w) else p (j + w) - w := if_neg (by omega)
/-- before it, all ends before it or not before its end -/
theorem TG.out (h : TG N o e p par fk nx) (h1 : 1 ≤ k) (h2 : k < N) {j : Int} (h0 : 0 ≤ j) (hj : j < k) : e j ≤ k ∨ e k ≤ e j := by
  rcases Int.lt_or_le k (e j) with h3 | h3
  · exact .inr (h.nest h0 hj h3 h2)
  · exact .inl h3
/-- what comes behind it does not lie in it -/
theorem TG.pout (h : TG N o e p par fk nx) (h1 : 1 ≤ k) (h2 : k < N) {j : Int} (h0 : e k ≤ j) (hj : j < N) : p j < k ∨ e k ≤ p j := by
  have hk := h.eB (k := k) (by omega) h2
  have hp := h.pB (k := j) (by omega) hj
  rcases Int.lt_trichotomy (p j) k with h3 | h3 | h3
  · exact .inl h3
  · rw [h3] at hp; omega
  · right
    rcases Int.lt_or_le (p j) (e k) with h4 | h4
    · have := h.nest (k := k) (j := p j) (by omega) h3 h4 (by omega)
      omega
    · exact h4
theorem TG_del (h : TG N o e p par fk nx) (h1 : 1 ≤ k) (h2 : k < N)
    (p1 : ∀ j, 0 ≤ j → j < N → (j < k ∨ e k ≤ j) → par' (o j) = par (o j))
    (k1 : ∀ j, 0 ≤ j → j < N → (j < k ∨ e k ≤ j) → j ≠ p k → fk' (o j) = fk (o j)) (k2 : fk' (o (p k)) = if k = p k + 1 then nx (o k) else fk (o (p k)))
    (x1 : ∀ j, 0 ≤ j → j < N → (j < k ∨ e k ≤ j) → ¬ (1 ≤ j ∧ p j = p k ∧ e j = k) → nx' (o j) = nx (o j)) (x2 : ∀ j, 1 ≤ j → j < k → p j = p k → e j = k → nx' (o j) = nx (o k)) :
    TG (N - (e k - k)) (delO o k (e k - k)) (delE e k (e k - k)) (delP p k (e k - k)) par' fk' nx' := by
  have hk := h.eB (k := k) (by omega) h2
  have hpk := h.pB h1 h2
  have hepk := h.ep h1 h2
  have hN1 := h.N1
  have he0 := h.e0
  have hW : ∀ j, k + (e k - k) ≤ e j ↔ e k ≤ e j := fun j => by constructor <;> intro _ <;> omega
  generalize hw : e k - k = w at *
  have hwE : e k = k + w := by omega
  refine ⟨⟨?_, by omega, ?_, ?_, ?_, ?_⟩, fun j a b => ?_, fun i j a b c d f => ?_, fun j a b => ?_, fun i j a b c d => ?_, fun j a b => ?_, fun j i a b c d => ?_, fun j a b => ?_, fun j a b => ?_, fun j a b => ?_⟩
  · omega
  · rw [delO_lt (by omega)]; exact h.o0
  · rw [delE_lt (by omega), if_pos (by omega)]; omega
  · rw [delO_lt (by omega), p1 0 (by omega) (by omega) (.inl (by omega))]; exact h.par0
  · rw [delO_lt (by omega), x1 0 (by omega) (by omega) (.inl (by omega)) (by omega)]; exact h.nx0
  · rcases Int.lt_or_le j k with u | u
    · rw [delO_lt u]; exact h.oB a (by omega)
    · rw [delO_ge u]; exact h.oB (by omega) (by omega)
  · rcases Int.lt_or_le i k with u | u <;> rcases Int.lt_or_le j k with u' | u'
    · rw [delO_lt u, delO_lt u'] at f; exact h.inj a (by omega) c (by omega) f
    · rw [delO_lt u, delO_ge u'] at f; have := h.inj a (by omega) (by omega) (by omega) f; omega
    · rw [delO_ge u, delO_lt u'] at f; have := h.inj (by omega) (by omega) c (by omega) f; omega
    · rw [delO_ge u, delO_ge u'] at f; have := h.inj (by omega) (by omega) (by omega) (by omega) f; omega
  · rcases Int.lt_or_le j k with u | u
    · have hj := h.eB (k := j) a (by omega)
      have := h.out h1 h2 a u
      rw [delE_lt u]; split <;> omega
    · have hj := h.eB (k := j + w) (by omega) (by omega)
      rw [delE_ge u]; omega
  · rcases Int.lt_or_le i k with u | u
    · rw [delE_lt u] at c ⊢
      have o1 := h.out h1 h2 a u
      rcases Int.lt_or_le j k with u' | u'
      · have o2 := h.out h1 h2 (j := j) (by omega) u'
        have hn := h.2.2.2.2.1 i j
        rw [delE_lt u']
        split at c <;> (repeat' split) <;> omega
      · have hn := h.2.2.2.2.1 i (j + w)
        rw [delE_ge u']
        split at c <;> (repeat' split) <;> omega
    · rw [delE_ge u] at c ⊢
      rw [delE_ge (by omega)]
      have := h.nest (k := i + w) (j := j + w) (by omega) (by omega) (by omega) (by omega)
      omega
  · rcases Int.lt_or_le j k with u | u
    · have hp := h.pB (k := j) a (by omega)
      have o1 := h.out h1 h2 (j := p j) hp.1 (by omega)
      rw [delP_lt u, delE_lt (by omega)]
      split <;> omega
    · have hp := h.pB (k := j + w) (by omega) (by omega)
      have o1 := h.pout h1 h2 (j := j + w) (by omega) (by omega)
      rw [delP_ge u]
      by_cases c : p (j + w) < k
      · rw [if_pos c, delE_lt c, if_pos (by omega)]; omega
      · rw [if_neg c, delE_ge (by omega), show p (j + w) - w + w = p (j + w) by omega]; omega
  · rcases Int.lt_or_le j k with u | u
    · rw [delP_lt u] at c
      have hm := h.pM (k := j) (j := i) a (by omega) c d
      rw [delE_lt (by omega), if_neg (by omega)]; exact hm
    · rw [delP_ge u] at c
      have hp := h.pB (k := j + w) (by omega) (by omega)
      have o1 := h.pout h1 h2 (j := j + w) (by omega) (by omega)
      rcases Int.lt_or_le i k with u' | u'
      · have hm := h.2.2.2.2.2.2.1 (j + w) i
        have o2 : p (j + w) < k → p (j + w) < i → (e i ≤ k ∨ e k ≤ e i) := fun _ _ => h.out h1 h2 (by omega) u'
        rw [delE_lt u']
        by_cases c1 : p (j + w) < k
        · rw [if_pos c1] at c
          have o2 := o2 c1 c
          split <;> omega
        · rw [if_neg c1] at c; omega
      · have hm := h.2.2.2.2.2.2.1 (j + w) (i + w)
        rw [delE_ge u']
        by_cases c1 : p (j + w) < k
        · rw [if_pos c1] at c; omega
        · rw [if_neg c1] at c; omega
  · rcases Int.lt_or_le j k with u | u
    · have hp := h.pB (k := j) a (by omega)
      rw [delO_lt u, delP_lt u, delO_lt (by omega), p1 j (by omega) (by omega) (.inl u)]; exact h.parE a (by omega)
    · have hp := h.pB (k := j + w) (by omega) (by omega)
      have o1 := h.pout h1 h2 (j := j + w) (by omega) (by omega)
      rw [delO_ge u, delP_ge u, p1 (j + w) (by omega) (by omega) (.inr (by omega)), h.parE (by omega) (by omega)]
      by_cases c : p (j + w) < k
      · rw [if_pos c, delO_lt c]
      · rw [if_neg c, delO_ge (by omega), show p (j + w) - w + w = p (j + w) by omega]
  · rcases Int.lt_or_le j k with u | u
    · have hj := h.eB (k := j) a (by omega)
      have o1 := h.out h1 h2 a u
      rw [delO_lt u, delE_lt u]
      by_cases c : j = p k
      · subst c
        rw [k2, if_pos (show k + w ≤ e (p k) by omega)]
        by_cases c1 : k = p k + 1
        · rw [if_pos c1, h.nxE h1 h2]
          by_cases c2 : e k < e (p k)
          · rw [if_pos c2, if_pos (by omega), delO_ge (by omega), hwE, ← c1]
          · rw [if_neg c2, if_neg (by omega)]
        · rw [if_neg c1, h.fkE a (by omega), if_pos (by omega), if_pos (by omega), delO_lt (by omega)]
      · rw [k1 j a (by omega) (.inl u) c, h.fkE a (by omega)]
        by_cases c1 : j + 1 < e j
        · have hin : j + 1 ≠ k := fun z => c (by
            have := h.inP (t := j) (k := k) a (by omega) u (by omega)
            omega)
          rw [if_pos c1, if_pos (by split <;> omega), delO_lt (by omega)]
        · rw [if_neg c1, if_neg (by split <;> omega)]
    · rw [delO_ge u, delE_ge u, k1 (j + w) (by omega) (by omega) (.inr (by omega)) (by omega), h.fkE (by omega) (by omega)]
      by_cases c1 : j + w + 1 < e (j + w)
      · rw [if_pos c1, if_pos (by omega), delO_ge (by omega), show j + 1 + w = j + w + 1 by omega]
      · rw [if_neg c1, if_neg (by omega)]
  · rcases Int.lt_or_le j k with u | u
    · have hj := h.eB (k := j) (by omega) (by omega)
      have hp := h.pB (k := j) a (by omega)
      have hep := h.ep (k := j) a (by omega)
      have o1 := h.out h1 h2 (j := j) (by omega) u
      have o2 := h.out h1 h2 (j := p j) (by omega) (by omega)
      rw [delO_lt u, delP_lt u, delE_lt u, delE_lt (show p j < k by omega)]
      by_cases c : p j = p k ∧ e j = k
      · rw [x2 j a u c.1 c.2, h.nxE h1 h2, c.1, if_neg (show ¬ k + w ≤ e j by omega), if_pos (show k + w ≤ e (p k) by omega), c.2]
        by_cases c2 : e k < e (p k)
        · rw [if_pos c2, if_pos (by omega), delO_ge (by omega), hwE]
        · rw [if_neg c2, if_neg (by omega)]
      · rw [x1 j (by omega) (by omega) (.inl u) (fun z => c z.2), h.nxE a (by omega)]
        have hsib := h.sib (k := p j) (j := j) a (by omega) rfl
        by_cases c2 : e j < e (p j)
        · have hs := hsib c2
          have hne : e j ≠ k := fun z => c ⟨by rw [← hs, z], z⟩
          rw [if_pos c2]
          by_cases c3 : k + w ≤ e j
          · rw [if_pos c3, if_pos (show k + w ≤ e (p j) by omega), if_pos (by omega), delO_ge (by omega), show e j - w + w = e j by omega]
          · rw [if_neg c3, delO_lt (by omega)]
            by_cases c4 : k + w ≤ e (p j)
            · rw [if_pos c4, if_pos (by omega)]
            · rw [if_neg c4, if_pos c2]
        · rw [if_neg c2]
          by_cases c3 : k + w ≤ e j
          · rw [if_pos c3, if_pos (show k + w ≤ e (p j) by omega), if_neg (by omega)]
          · rw [if_neg c3, if_neg (show ¬ k + w ≤ e (p j) by omega), if_neg c2]
    · have hj := h.eB (k := j + w) (by omega) (by omega)
      have hp := h.pB (k := j + w) (by omega) (by omega)
      have o1 := h.pout h1 h2 (j := j + w) (by omega) (by omega)
      rw [delO_ge u, delP_ge u, delE_ge u, x1 (j + w) (by omega) (by omega) (.inr (by omega)) (by omega), h.nxE (by omega) (by omega)]
      have e3 : delE e k w (if p (j + w) < k then p (j + w) else p (j + w) - w) = e (p (j + w)) - w := by
        by_cases c : p (j + w) < k
        · rw [if_pos c, delE_lt c, if_pos (by omega)]
        · rw [if_neg c, delE_ge (by omega), show p (j + w) - w + w = p (j + w) by omega]
      rw [e3]
      by_cases c2 : e (j + w) < e (p (j + w))
      · rw [if_pos c2, if_pos (by omega), delO_ge (by omega), show e (j + w) - w + w = e (j + w) by omega]
      · rw [if_neg c2, if_neg (by omega)]
end B5
