/-! A NODE COMES: last ones, and those before -/
section B4
variable {N k v : Int} {o e p par fk nx lk lk' bf bf' : Int → Int}
theorem insE_lt {j : Int} (h : j < e k) : insE e k (e k) j = if j ≤ k ∧ e k ≤ e j then e j + 1 else e j := by unfold insE; rw [if_pos h]
theorem insE_eq : insE e k (e k) (e k) = e k + 1 := by unfold insE; rw [if_neg (by omega), if_pos rfl]
theorem insE_gt {j : Int} (h : e k < j) : insE e k (e k) j = e (j - 1) + 1 := by unfold insE; rw [if_neg (by omega), if_neg (by omega)]
theorem insP_lt {j : Int} (h : j < e k) : insP p k (e k) j = p j := by unfold insP; rw [if_pos h]
theorem insP_eq : insP p k (e k) (e k) = k := by unfold insP; rw [if_neg (by omega), if_pos rfl]
theorem insP_gt {j : Int} (h : e k < j) : insP p k (e k) j = if p (j - 1) < e k then p (j - 1) else p (j - 1) + 1 := by unfold insP; rw [if_neg (by omega), if_neg (by omega)]
theorem TL_ins (h : TG N o e p par fk nx) (hl : TL N o e p lk) (h0 : 0 ≤ k) (h1 : k < N) (l1 : ∀ j, 0 ≤ j → j < N → j ≠ k → lk' (o j) = lk (o j)) (l2 : lk' (o k) = v) (l3 : lk' v = -1) : TL (N + 1) (insO o (e k) v) (insE e k (e k)) (insP p k (e k)) lk' := by
  have hk := h.eB h0 h1
  refine ⟨fun i a b c => ?_, fun i j a b c d f => ?_⟩
  · rcases Int.lt_trichotomy i (e k) with u | u | u
    · have hi := h.eB (k := i) a (by omega)
      rw [insE_lt u] at c
      have hik : i ≠ k := fun z => by rw [z, if_pos (by omega)] at c; omega
      rw [insO_lt u, l1 i a (by omega) hik]
      by_cases c1 : i ≤ k ∧ e k ≤ e i
      · rw [if_pos c1] at c; omega
      · rw [if_neg c1] at c; exact hl.1 i a (by omega) c
    · rw [u, insO_eq, l3]
    · rw [insE_gt u] at c
      rw [insO_gt u, l1 (i - 1) (by omega) (by omega) (by omega)]
      exact hl.1 (i - 1) (by omega) (by omega) (by omega)
  · have hpj := ins_pB h h0 h1 j (by omega) c
    rcases Int.lt_trichotomy j (e k) with u | u | u
    · have hj := h.eB (k := j) (by omega) (by omega)
      have hp := h.pB (k := j) (by omega) (by omega)
      have hpe := h.eB (k := p j) (by omega) (by omega)
      have hep := h.ep (k := j) (by omega) (by omega)
      have g1 := h.2.2.2.2.1 j k
      have g2 := h.2.2.2.2.1 k j
      have g3 := h.2.2.2.2.1 (p j) k
      rw [insP_lt u] at d
      subst d
      rw [insE_lt u, insE_lt (show p j < e k by omega)] at f
      rw [insO_lt u, insO_lt (show p j < e k by omega)]
      by_cases c1 : p j ≤ k ∧ e k ≤ e (p j)
      · rw [if_pos c1] at f
        by_cases c2 : j ≤ k ∧ e k ≤ e j
        · rw [if_pos c2] at f
          rw [l1 (p j) (by omega) (by omega) (by omega)]
          exact hl.2 (p j) j (by omega) (by omega) (by omega) rfl (by omega)
        · rw [if_neg c2] at f; omega
      · rw [if_neg c1] at f
        by_cases c2 : j ≤ k ∧ e k ≤ e j
        · rw [if_pos c2] at f; omega
        · rw [if_neg c2] at f
          rw [l1 (p j) (by omega) (by omega) (fun z => c1 (by rw [z]; omega))]
          exact hl.2 (p j) j (by omega) (by omega) (by omega) rfl f
    · subst u
      rw [insP_eq] at d
      subst d
      rw [insO_eq, insO_lt (by omega), l2]
    · have hp := h.pB (k := j - 1) (by omega) (by omega)
      have hpe := h.eB (k := p (j - 1)) (by omega) (by omega)
      have g3 := h.2.2.2.2.1 (p (j - 1)) k
      have g4 := h.2.2.2.2.1 k (p (j - 1))
      rw [insP_gt u] at d
      rw [insE_gt u] at f
      rw [insO_gt u]
      by_cases c1 : p (j - 1) < e k
      · rw [if_pos c1] at d
        subst d
        rw [insE_lt c1, if_pos (by omega)] at f
        rw [insO_lt c1, l1 (p (j - 1)) (by omega) (by omega) (fun z => by rw [z] at hp; omega)]
        exact hl.2 (p (j - 1)) (j - 1) (by omega) (by omega) (by omega) rfl (by omega)
      · rw [if_neg c1] at d
        subst d
        rw [insE_gt (by omega), show p (j - 1) + 1 - 1 = p (j - 1) by omega] at f
        rw [insO_gt (by omega), show p (j - 1) + 1 - 1 = p (j - 1) by omega, l1 (p (j - 1)) (by omega) (by omega) (by omega)]
        exact hl.2 (p (j - 1)) (j - 1) (by omega) (by omega) (by omega) rfl (by omega)
theorem TB_ins (h : TG N o e p par fk nx) (hl : TL N o e p lk) (hb : TB N o e p bf) (h0 : 0 ≤ k) (h1 : k < N) (b1 : ∀ j, 0 ≤ j → j < N → bf' (o j) = bf (o j)) (b2 : bf' v = lk (o k)) : TB (N + 1) (insO o (e k) v) (insE e k (e k)) (insP p k (e k)) bf' := by
  have hk := h.eB h0 h1
  refine ⟨?_, fun i a b c => ?_, fun i j a b c d f g => ?_⟩
  · rw [insO_lt (by omega), b1 0 (by omega) (by omega)]; exact hb.1
  · rcases Int.lt_trichotomy i (e k) with u | u | u
    · rw [insP_lt u] at c
      rw [insO_lt u, b1 i (by omega) (by omega)]; exact hb.2.1 i a (by omega) c
    · subst u
      rw [insP_eq] at c
      rw [insO_eq, b2]
      exact hl.1 k h0 h1 (by omega)
    · have hp := h.pB (k := i - 1) (by omega) (by omega)
      rw [insP_gt u] at c
      rw [insO_gt u, b1 (i - 1) (by omega) (by omega)]
      by_cases c1 : p (i - 1) < e k
      · rw [if_pos c1] at c; omega
      · rw [if_neg c1] at c; exact hb.2.1 (i - 1) (by omega) (by omega) (by omega)
  · rcases Int.lt_trichotomy i (e k) with u | u | u
    · have hp := h.pB (k := i) (by omega) (by omega)
      have g2 := h.2.2.2.2.1 k j
      rw [insP_lt u, insP_lt (show j < e k by omega)] at f
      rw [insE_lt (show j < e k by omega)] at g
      rw [insO_lt u, insO_lt (show j < e k by omega), b1 i (by omega) (by omega)]
      by_cases c1 : j ≤ k ∧ e k ≤ e j
      · rw [if_pos c1] at g; omega
      · rw [if_neg c1] at g; exact hb.2.2 i j (by omega) (by omega) c d f g
    · subst u
      rw [insP_eq, insP_lt d] at f
      rw [insE_lt d] at g
      rw [insO_eq, insO_lt d, b2]
      have hj := h.pB (k := j) (by omega) (by omega)
      rw [if_neg (by omega)] at g
      exact hl.2 k j h0 (by omega) (by omega) f g
    · have hp := h.pB (k := i - 1) (by omega) (by omega)
      rw [insP_gt u] at f
      rw [insO_gt u, b1 (i - 1) (by omega) (by omega)]
      rcases Int.lt_trichotomy j (e k) with w | w | w
      · have hpj := h.pB (k := j) (by omega) (by omega)
        have hej := h.eB (k := j) (by omega) (by omega)
        have g2 := h.2.2.2.2.1 k j
        have g3 := h.2.2.2.2.1 j k
        rw [insP_lt w] at f
        rw [insE_lt w] at g
        rw [insO_lt w]
        by_cases c1 : j ≤ k ∧ e k ≤ e j
        · rw [if_pos c1] at g
          by_cases c2 : p (i - 1) < e k
          · rw [if_pos c2] at f; exact hb.2.2 (i - 1) j (by omega) (by omega) c (by omega) f (by omega)
          · rw [if_neg c2] at f; omega
        · rw [if_neg c1] at g; omega
      · subst w
        rw [insE_eq] at g
        rw [insP_eq] at f
        by_cases c2 : p (i - 1) < e k
        · rw [if_pos c2] at f
          rw [← f] at hp
          omega
        · rw [if_neg c2] at f; omega
      · have hpj := h.pB (k := j - 1) (by omega) (by omega)
        rw [insP_gt w] at f
        rw [insE_gt w] at g
        rw [insO_gt w]
        refine hb.2.2 (i - 1) (j - 1) (by omega) (by omega) (by omega) (by omega) ?_ (by omega)
        by_cases c2 : p (i - 1) < e k
        · rw [if_pos c2] at f
          by_cases c3 : p (j - 1) < e k
          · rw [if_pos c3] at f; exact f
          · rw [if_neg c3] at f; omega
        · rw [if_neg c2] at f
          by_cases c3 : p (j - 1) < e k
          · rw [if_pos c3] at f; omega
          · rw [if_neg c3] at f; omega
end B4
