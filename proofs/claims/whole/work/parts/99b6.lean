/-! A NODE GOES: last ones, and those before -/
section B6
variable {N k w v : Int} {o e p par fk nx lk par' fk' nx' lk' bf bf' : Int → Int}
/-- the one before a kid, if it is not the first -/
theorem TG.prev (h : TG N o e p par fk nx) (h1 : 1 ≤ k) (h2 : k < N) (hf : k ≠ p k + 1) : ∃ j, 1 ≤ j ∧ j < k ∧ p j = p k ∧ e j = k := by
  have hp := h.pB h1 h2
  have : ∀ (d : Nat) (j : Int), (k - j).toNat ≤ d → p k < j → j < k → p j = p k → ∃ j, 1 ≤ j ∧ j < k ∧ p j = p k ∧ e j = k := by
    intro d
    induction d with
    | zero => intro j hd a b _; omega
    | succ d ih =>
      intro j hd a b c
      have hj := h.eB (k := j) (by omega) (by omega)
      have hm := h.pM h1 h2 a b
      rcases Int.lt_or_eq_of_le hm with h3 | h3
      · have hpe := h.eB (k := p k) (by omega) (by omega)
        exact ih (e j) (by omega) (by omega) h3 (h.sib (by omega) (by omega) c (by omega))
      · exact ⟨j, by omega, b, c, h3⟩
  have hp1 : p (p k + 1) = p k := by
    have := h.inP (t := p k) (k := p k + 1) hp.1 (by omega) (by omega) (by omega)
    have := h.pB (k := p k + 1) (by omega) (by omega)
    omega
  exact this _ (p k + 1) (Nat.le_refl _) (by omega) (by omega) hp1
theorem TL_del (h : TG N o e p par fk nx) (hl : TL N o e p lk) (hb : TB N o e p bf) (h1 : 1 ≤ k) (h2 : k < N)
    (l1 : ∀ j, 0 ≤ j → j < N → (j < k ∨ e k ≤ j) → j ≠ p k → lk' (o j) = lk (o j)) (l2 : lk' (o (p k)) = if e k = e (p k) then bf (o k) else lk (o (p k))) :
    TL (N - (e k - k)) (delO o k (e k - k)) (delE e k (e k - k)) (delP p k (e k - k)) lk' := by
  have hk := h.eB (k := k) (by omega) h2
  have hpk := h.pB h1 h2
  have hepk := h.ep h1 h2
  have hN1 := h.N1
  generalize hw : e k - k = w at *
  have hwE : e k = k + w := by omega
  refine ⟨fun i a b c => ?_, fun i j a b c d f => ?_⟩
  · rcases Int.lt_or_le i k with u | u
    · have hi := h.eB (k := i) a (by omega)
      have o1 := h.out h1 h2 a u
      rw [delE_lt u] at c
      rw [delO_lt u]
      by_cases c1 : i = p k
      · subst c1
        rw [if_pos (show k + w ≤ e (p k) by omega)] at c
        rw [l2, if_pos (by omega)]
        exact hb.2.1 k h1 h2 (by omega)
      · rw [l1 i a (by omega) (.inl u) c1]
        by_cases c2 : k + w ≤ e i
        · rw [if_pos c2] at c
          have := h.inP (t := i) (k := k) a (by omega) u (by omega)
          have := h.eB (k := p k) (by omega) (by omega)
          have hn := h.nest (k := i) (j := p k) a (by omega) (by omega) (by omega)
          omega
        · rw [if_neg c2] at c; exact hl.1 i a (by omega) c
    · rw [delE_ge u] at c
      rw [delO_ge u, l1 (i + w) (by omega) (by omega) (.inr (by omega)) (by omega)]
      exact hl.1 (i + w) (by omega) (by omega) (by omega)
  · rcases Int.lt_or_le j k with u | u
    · have hj := h.eB (k := j) (by omega) (by omega)
      have hp := h.pB (k := j) (by omega) (by omega)
      have hep := h.ep (k := j) (by omega) (by omega)
      have o1 := h.out h1 h2 (j := j) (by omega) u
      have o2 := h.out h1 h2 (j := p j) (by omega) (by omega)
      rw [delP_lt u] at d
      subst d
      rw [delE_lt u, delE_lt (show p j < k by omega)] at f
      rw [delO_lt u, delO_lt (show p j < k by omega)]
      by_cases c1 : p j = p k
      · by_cases c2 : e j = k
        · rw [c1] at f ⊢
          rw [if_neg (by omega), if_pos (by omega)] at f
          rw [l2, if_pos (by omega)]
          exact hb.2.2 k j h1 h2 (by omega) u c1 c2
        · have hn : e j < e (p j) → p (e j) = p j := fun z => h.sib (by omega) (by omega) rfl z
          have hm := h.2.2.2.2.2.2.1 k j
          exfalso
          rw [c1] at f
          rw [if_pos (show k + w ≤ e (p k) by omega)] at f
          have : e j ≤ k := hm h1 h2 (by omega) u
          rw [if_neg (by omega)] at f
          omega
      · rw [l1 (p j) (by omega) (by omega) (.inl (by omega)) c1]
        refine hl.2 (p j) j (by omega) (by omega) (by omega) rfl ?_
        by_cases c2 : k + w ≤ e j
        · rw [if_pos c2, if_pos (by omega)] at f; omega
        · rw [if_neg c2] at f
          by_cases c3 : k + w ≤ e (p j)
          · rw [if_pos c3] at f
            exfalso
            have hin := h.inP (t := p j) (k := k) (by omega) (by omega) (by omega) (by omega)
            have hpke := h.eB (k := p k) (by omega) (by omega)
            rcases Int.lt_trichotomy (p k) j with q | q | q
            · have := h.pM h1 h2 q u
              have hn := h.nest (k := p j) (j := p k) (by omega) (by omega) (by omega) (by omega)
              rcases Int.lt_or_eq_of_le hin with r | r
              · have := h.pM (k := j) (j := p k) (by omega) (by omega) r q
                omega
              · omega
            · rw [q] at hpk; omega
            · have := h.nest (k := j) (j := p k) (by omega) q (by omega) (by omega)
              omega
          · rw [if_neg c3] at f; exact f
    · have hp := h.pB (k := j + w) (by omega) (by omega)
      have hj := h.eB (k := j + w) (by omega) (by omega)
      have o1 := h.pout h1 h2 (j := j + w) (by omega) (by omega)
      rw [delP_ge u] at d
      rw [delE_ge u] at f
      rw [delO_ge u]
      by_cases c1 : p (j + w) < k
      · rw [if_pos c1] at d
        subst d
        rw [delE_lt c1, if_pos (by omega)] at f
        rw [delO_lt c1]
        by_cases c2 : p (j + w) = p k
        · rw [c2, l2]
          rw [c2] at f hp
          rw [if_neg (by omega)]
          exact hl.2 (p k) (j + w) (by omega) (by omega) (by omega) c2 (by omega)
        · rw [l1 (p (j + w)) (by omega) (by omega) (.inl c1) c2]
          exact hl.2 (p (j + w)) (j + w) (by omega) (by omega) (by omega) rfl (by omega)
      · rw [if_neg c1] at d
        subst d
        rw [delE_ge (by omega), show p (j + w) - w + w = p (j + w) by omega] at f
        rw [delO_ge (by omega), show p (j + w) - w + w = p (j + w) by omega, l1 (p (j + w)) (by omega) (by omega) (.inr (by omega)) (by omega)]
        exact hl.2 (p (j + w)) (j + w) (by omega) (by omega) (by omega) rfl (by omega)
theorem TB_del (h : TG N o e p par fk nx) (hb : TB N o e p bf) (h1 : 1 ≤ k) (h2 : k < N)
    (b1 : ∀ j, 0 ≤ j → j < N → (j < k ∨ e k ≤ j) → ¬ (j = e k ∧ p j = p k) → bf' (o j) = bf (o j)) (b2 : e k < N → p (e k) = p k → bf' (o (e k)) = bf (o k)) :
    TB (N - (e k - k)) (delO o k (e k - k)) (delE e k (e k - k)) (delP p k (e k - k)) bf' := by
  have hk := h.eB (k := k) (by omega) h2
  have hpk := h.pB h1 h2
  have hepk := h.ep h1 h2
  have hN1 := h.N1
  generalize hw : e k - k = w at *
  have hwE : e k = k + w := by omega
  refine ⟨?_, fun i a b c => ?_, fun i j a b c d f g => ?_⟩
  · rw [delO_lt (by omega), b1 0 (by omega) (by omega) (.inl (by omega)) (by omega)]; exact hb.1
  · rcases Int.lt_or_le i k with u | u
    · rw [delP_lt u] at c
      rw [delO_lt u, b1 i (by omega) (by omega) (.inl u) (by omega)]; exact hb.2.1 i a (by omega) c
    · have hp := h.pB (k := i + w) (by omega) (by omega)
      have o1 := h.pout h1 h2 (j := i + w) (by omega) (by omega)
      rw [delP_ge u] at c
      rw [delO_ge u]
      by_cases c1 : p (i + w) < k
      · rw [if_pos c1] at c
        have hik : i = k := by omega
        subst hik
        have c2 : p (i + w) = p i := by
          rcases Int.lt_trichotomy (p (i + w)) (p i) with q | q | q
          · have := h.pM (k := i + w) (j := p i) (by omega) (by omega) q (by omega)
            omega
          · exact q
          · have := h.pM (k := i) (j := p (i + w)) h1 h2 q c1
            omega
        have := b2 (by omega) (by rw [hwE]; exact c2)
        rw [hwE] at this
        rw [this]
        exact hb.2.1 i h1 h2 (by omega)
      · rw [if_neg c1] at c
        rw [b1 (i + w) (by omega) (by omega) (.inr (by omega)) (fun z => by have := z.2; omega)]
        exact hb.2.1 (i + w) (by omega) (by omega) (by omega)
  · rcases Int.lt_or_le i k with u | u
    · have hj := h.eB (k := j) (by omega) (by omega)
      have o1 := h.out h1 h2 (j := j) (by omega) (by omega)
      rw [delP_lt u, delP_lt (show j < k by omega)] at f
      rw [delE_lt (show j < k by omega)] at g
      rw [delO_lt u, delO_lt (show j < k by omega), b1 i (by omega) (by omega) (.inl u) (by omega)]
      by_cases c1 : k + w ≤ e j
      · rw [if_pos c1] at g; omega
      · rw [if_neg c1] at g; exact hb.2.2 i j (by omega) (by omega) c d f g
    · have hp := h.pB (k := i + w) (by omega) (by omega)
      have o2 := h.pout h1 h2 (j := i + w) (by omega) (by omega)
      rw [delP_ge u] at f
      rw [delO_ge u]
      rcases Int.lt_or_le j k with u' | u'
      · have hj := h.eB (k := j) (by omega) (by omega)
        have hpj := h.pB (k := j) (by omega) (by omega)
        have o1 := h.out h1 h2 (j := j) (by omega) u'
        rw [delP_lt u'] at f
        rw [delE_lt u'] at g
        rw [delO_lt u']
        by_cases c1 : p (i + w) < k
        · rw [if_pos c1] at f
          by_cases c2 : k + w ≤ e j
          · rw [if_pos c2] at g
            by_cases c3 : i = k
            · subst c3
              have hin := h.inP (t := j) (k := i) (by omega) (by omega) u' (by omega)
              rw [b1 (i + w) (by omega) (by omega) (.inr (by omega)) (fun z => by have := z.2; omega)]
              exact hb.2.2 (i + w) j (by omega) (by omega) c (by omega) f (by omega)
            · rw [b1 (i + w) (by omega) (by omega) (.inr (by omega)) (by omega)]
              exact hb.2.2 (i + w) j (by omega) (by omega) c (by omega) f (by omega)
          · rw [if_neg c2] at g
            have hik : i = k := by omega
            subst hik
            have c2 : p (i + w) = p i := by
              have hs := h.sib (k := p j) (j := j) (by omega) (by omega) rfl (by rw [f]; omega)
              rw [g] at hs
              omega
            have := b2 (by omega) (by rw [hwE]; exact c2)
            rw [hwE] at this
            rw [this]
            exact hb.2.2 i j h1 h2 c u' (by omega) (by omega)
        · rw [if_neg c1] at f; omega
      · have hpj := h.pB (k := j + w) (by omega) (by omega)
        have o3 := h.pout h1 h2 (j := j + w) (by omega) (by omega)
        rw [delP_ge u'] at f
        rw [delE_ge u'] at g
        rw [delO_ge u', b1 (i + w) (by omega) (by omega) (.inr (by omega)) (by omega)]
        refine hb.2.2 (i + w) (j + w) (by omega) (by omega) (by omega) (by omega) ?_ (by omega)
        by_cases c1 : p (i + w) < k
        · rw [if_pos c1] at f
          by_cases c2 : p (j + w) < k
          · rw [if_pos c2] at f; exact f
          · rw [if_neg c2] at f; omega
        · rw [if_neg c1] at f
          by_cases c2 : p (j + w) < k
          · rw [if_pos c2] at f; omega
          · rw [if_neg c2] at f; omega
end B6
