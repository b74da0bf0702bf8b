/-! A NODE GOES: the reference -/
section C2
variable {m : YS} {N : Int} {o e p par fk nx : Int → Int}
/-- the links of all in t are as told -/
def Ag (m : YS) (o e par fk nx : Int → Int) (t : Int) : Prop := ∀ j, t ≤ j → j < e t → m 49 (o j) = par (o j) ∧ m 50 (o j) = fk (o j) ∧ m 52 (o j) = nx (o j)
theorem y_behindA (h : TG N o e p par fk nx) {t k : Int} (hag : Ag m o e par fk nx t) (h0 : 0 ≤ t) (h1 : t ≤ k) (h2 : k < e t) (h3 : t < N) : N_Y_behind (o k) (o t) m = some (if e k < e t then o (e k) else -1) := by
  apply eq_of_ev
  have hN := h.N1
  have hte := h.eB h0 h3
  have hkN : k < N := by omega
  have hke := h.eB (k := k) (by omega) hkN
  have hinE : ∀ j, t ≤ j → j ≤ k → j < e t := fun j a b => by omega
  unfold N_Y_behind NL_Y_behind_2
  refine ev_bind (P := fun v => ∃ j, t ≤ j ∧ j ≤ k ∧ v = o j ∧ e j = e k ∧ (j = t ∨ (e k < e (p j) ∧ t < j))) (ev_itg (I := fun s j => t ≤ j ∧ j ≤ k ∧ s = o j ∧ e j = e k) (fun s j hs => ?_) (x := k) ⟨h1, Int.le_refl _, rfl, rfl⟩) (fun v hv => ?_)
  · obtain ⟨g1, g2, rfl, g4⟩ := hs
    have ha := hag j g1 (hinE j g1 g2)
    unfold nb_Y_behind_2
    have hob := h.oB (k := j) (by omega) (by omega)
    refine ev_if (fun he => ?_) (fun he => ?_)
    · have := h.inj (by omega) (by omega) h0 h3 he
      exact ev_gr ⟨j, g1, g2, rfl, g4, .inl this⟩
    · have htj : t < j := by
        rcases Int.lt_or_eq_of_le g1 with h4 | h4
        · exact h4
        · exact absurd (by rw [h4]) he
      have hp := h.pB (k := j) (by omega) (by omega)
      have hpt := h.inP h0 h3 htj (by omega)
      have hep := h.ep (k := j) (by omega) (by omega)
      refine ev_ix hob ?_
      rw [ha.2.2, h.nxE (k := j) (by omega) (by omega)]
      by_cases hc : e j < e (p j)
      · have hoe := h.oB (k := e j) (by omega) (by have := (h.eB (k := p j) (by omega) (by omega)).2; omega)
        rw [if_pos hc]
        refine ev_if (fun hz => by omega) (fun _ => ev_gr ⟨j, g1, g2, rfl, g4, .inr ⟨by omega, htj⟩⟩)
      · rw [if_neg hc]
        refine ev_if (fun _ => ev_ix hob ?_) (fun hz => absurd rfl hz)
        rw [ha.1, h.parE (k := j) (by omega) (by omega)]
        exact ev_gl (x' := p j) ⟨hpt, by omega, rfl, by omega⟩ (by omega) (by omega)
  · obtain ⟨j, g1, g2, rfl, g4, g5⟩ := hv
    have ha := hag j g1 (hinE j g1 g2)
    have hob := h.oB (k := j) (by omega) (by omega)
    unfold nk_Y_behind_27
    rcases g5 with g5 | g5
    · subst g5
      refine ev_if (fun _ => ev_ok ?_) (fun hz => absurd rfl hz)
      rw [if_neg (by omega)]
    · have hp := h.pB (k := j) (by omega) (by omega)
      have hpt := h.inP h0 h3 g5.2 (by omega)
      have hpe : e (p j) ≤ e t := by
        rcases Int.lt_or_eq_of_le hpt with h4 | h4
        · exact h.nest h0 h4 (by omega) (by omega)
        · rw [← h4]; exact Int.le_refl _
      refine ev_if (fun hz => ?_) (fun _ => ev_ix hob (ev_ok ?_))
      · have := h.inj (by omega) (by omega) h0 h3 hz; omega
      · rw [ha.2.2, h.nxE (k := j) (by omega) (by omega), if_pos (by omega), if_pos (by omega), g4]
theorem y_afterA (h : TG N o e p par fk nx) {t k : Int} (hag : Ag m o e par fk nx t) (h0 : 0 ≤ t) (h1 : t ≤ k) (h2 : k < e t) (h3 : t < N) : N_Y_after (o k) (o t) m = some (if k + 1 < e t then o (k + 1) else -1) := by
  apply eq_of_ev
  have hte := h.eB h0 h3
  have hke := h.eB (k := k) (by omega) (by omega)
  have hob := h.oB (k := k) (by omega) (by omega)
  have het : e k ≤ e t := by
    rcases Int.lt_or_eq_of_le h1 with h4 | h4
    · exact h.nest h0 h4 h2 (by omega)
    · rw [← h4]; exact Int.le_refl _
  unfold N_Y_after
  refine ev_ix hob ?_
  rw [(hag k h1 h2).2.1, h.fkE (k := k) (by omega) (by omega)]
  by_cases hc : k + 1 < e k
  · have := h.oB (k := k + 1) (by omega) (by omega)
    rw [if_pos hc]
    exact ev_if (fun hz => by omega) (fun _ => ev_ix hob (ev_ok (by rw [if_pos (by omega)])))
  · rw [if_neg hc]
    refine ev_if (fun _ => ?_) (fun hz => absurd rfl hz)
    refine ev_eq (y_behindA h hag h0 h1 h2 h3) (ev_ok ?_)
    rw [show e k = k + 1 by omega]
/-- all in a node goes -/
theorem y_free (h : TG N o e p par fk nx) {k : Int} (hag : Ag m o e par fk nx k) (h0 : 0 ≤ k) (h1 : k < N) (hn : m 68 0 = N) : ev (NL_Y_remove_96 (o k) (o k) m) (fun m' => FY [45, 68] m m' ∧ m' 68 0 = N - (e k - k) ∧ (∀ j, k ≤ j → j < e k → m' 45 (o j) = 0) ∧ (∀ u, (∀ j, k ≤ j → j < e k → o j ≠ u) → m' 45 u = m 45 u)) := by
  have hk := h.eB h0 h1
  have hN := h.N1
  unfold NL_Y_remove_96
  refine ev_itg (I := fun (s : Int × YS) x => 0 ≤ x ∧ x ≤ e k - k ∧ s.1 = (if e k - x < e k then o (e k - x) else -1) ∧ FY [45, 68] m s.2 ∧ s.2 68 0 = N - (e k - x - k) ∧ (∀ j, k ≤ j → j < e k - x → s.2 45 (o j) = 0) ∧ (∀ u, (∀ j, k ≤ j → j < e k → o j ≠ u) → s.2 45 u = m 45 u)) (fun s x hs => ?_) (x := e k - k) ⟨by omega, by omega, by show o k = _; rw [if_pos (by omega), show e k - (e k - k) = k by omega], FY.refl _ _, by show m 68 0 = _; omega, fun j a b => by omega, fun _ _ => rfl⟩
  obtain ⟨v, m1⟩ := s
  obtain ⟨g1, g2, g3, g4, g5, g6, g7⟩ := hs
  simp only at g3 g4 g5 g6 g7
  show ev (nb_Y_remove_96 (o k) v m1) _
  unfold nb_Y_remove_96
  by_cases hx : x = 0
  · subst hx
    rw [if_neg (by omega)] at g3
    exact ev_if (fun _ => ev_gr ⟨g4, by omega, fun j a b => g6 j a (by omega), g7⟩) (fun hz => absurd g3 hz)
  · rw [if_pos (by omega)] at g3
    generalize hj : e k - x = j at *
    have hob := h.oB (k := j) (by omega) (by omega)
    refine ev_if (fun hz => by omega) (fun _ => ?_)
    have hag1 : Ag m1 o e par fk nx k := fun i a b => by
      have := hag i a b
      rw [g4 49 (by decide), g4 50 (by decide), g4 52 (by decide)]; exact this
    rw [g3]
    refine ev_eq (y_afterA h hag1 h0 (by omega) (by omega) h1) (ev_ix hob (ev_st ?_))
    rw [show yw m1 45 (o j) 0 68 0 = m1 68 0 from by rw [yw_nF (by decide)]]
    refine ev_ck (by omega) (ev_st (ev_gl (x' := x - 1) ⟨by omega, by omega, ?_, fun f hf => ?_, ?_, fun i a b => ?_, fun u hu => ?_⟩ (by omega) (by omega)))
    · show (if j + 1 < e k then o (j + 1) else -1) = _
      rw [show e k - (x - 1) = j + 1 by omega]
    · show yw (yw m1 45 (o j) 0) 68 0 _ f = m f
      rw [yw_nF (fun z => hf (by simp [z])), yw_nF (fun z => hf (by simp [z]))]; exact g4 f hf
    · show yw (yw m1 45 (o j) 0) 68 0 (m1 68 0 - 1) 68 0 = _
      rw [yw_eq]; omega
    · show yw (yw m1 45 (o j) 0) 68 0 (m1 68 0 - 1) 45 (o i) = 0
      rw [yw_nF (by decide)]
      by_cases hi : i = j
      · rw [hi, yw_eq]
      · have : o i ≠ o j := fun z => hi (h.inj (by omega) (by omega) (by omega) (by omega) z)
        rw [yw_ni this]; exact g6 i a (by omega)
    · show yw (yw m1 45 (o j) 0) 68 0 (m1 68 0 - 1) 45 u = _
      rw [yw_nF (by decide), yw_ni (fun z => hu j (by omega) (by omega) z.symm)]
      exact g7 u hu
/-- the links without the node v of the links before -/
def cutY (m : YS) (v : Int) : YS :=
  let m1 := if m 53 v = -1 then yw m 50 (m 49 v) (m 52 v) else yw m 52 (m 53 v) (m 52 v)
  if m 52 v = -1 then yw m1 51 (m 49 v) (m 53 v) else yw m1 53 (m 52 v) (m 53 v)
theorem y_remove (h : TY m N o e p) (hb : TB N o e p (m 53)) {k : Int} (h1 : 1 ≤ k) (h2 : k < N) (hn : m 68 0 = N) : ev (N_Y_remove (o k) m) (fun m' => FY [45, 68] (cutY m (o k)) m' ∧ m' 68 0 = N - (e k - k) ∧ (∀ j, k ≤ j → j < e k → m' 45 (o j) = 0) ∧ (∀ u, (∀ j, k ≤ j → j < e k → o j ≠ u) → m' 45 u = m 45 u)) := by
  have hk := h.eB (k := k) (by omega) h2
  have hp := h.pB h1 h2
  have hpe := h.eB (k := p k) (by omega) (by omega)
  have hob := h.oB (k := k) (by omega) h2
  have hop := h.oB (k := p k) (by omega) (by omega)
  have hpar := h.parE h1 h2
  have hnx := h.nxE h1 h2
  have hfar : ∀ j, k ≤ j → j < e k → o j ≠ o (p k) := fun j a b z => by have := h.inj (by omega) (by omega) (by omega) (by omega) z; omega
  -- the one before it
  have hbf : m 53 (o k) = -1 ∨ (∃ i, 1 ≤ i ∧ i < k ∧ p i = p k ∧ e i = k ∧ m 53 (o k) = o i) := by
    by_cases hf : k = p k + 1
    · exact .inl (hb.2.1 k h1 h2 hf)
    · obtain ⟨i, a, b, c, d⟩ := h.prev h1 h2 hf
      exact .inr ⟨i, a, b, c, d, hb.2.2 k i h1 h2 a b c d⟩
  have hnxv : m 52 (o k) = -1 ∨ (e k < N ∧ m 52 (o k) = o (e k)) := by
    rw [hnx]
    by_cases c : e k < e (p k)
    · rw [if_pos c]; exact .inr ⟨by omega, rfl⟩
    · rw [if_neg c]; exact .inl rfl
  have fin : ∀ m2, m2 = cutY m (o k) → ev (nk_Y_remove_94 (o k) m2) (fun m' => FY [45, 68] (cutY m (o k)) m' ∧ m' 68 0 = N - (e k - k) ∧ (∀ j, k ≤ j → j < e k → m' 45 (o j) = 0) ∧ (∀ u, (∀ j, k ≤ j → j < e k → o j ≠ u) → m' 45 u = m 45 u)) := fun m2 hm => by
    subst hm
    unfold nk_Y_remove_94
    rw [bind_id]
    have hag : Ag (cutY m (o k)) o e (m 49) (m 50) (m 52) k := fun j a b => by
      have h49 : cutY m (o k) 49 = m 49 := by
        unfold cutY
        try simp only
        split <;> split <;> (rw [yw_nF (by decide), yw_nF (by decide)])
      refine ⟨by rw [h49], ?_, ?_⟩
      · have : cutY m (o k) 50 (o j) = m 50 (o j) := by
          unfold cutY
          try simp only
          have q : ∀ x, yw m 50 (m 49 (o k)) x 50 (o j) = m 50 (o j) := fun x => yw_ni (by rw [hpar]; exact hfar j a b)
          split <;> split <;> (rw [yw_nF (by decide)]) <;> first | exact q _ | rw [yw_nF (by decide)]
        exact this
      · unfold cutY
        try simp only
        have q : ∀ x, m 53 (o k) ≠ -1 → yw m 52 (m 53 (o k)) x 52 (o j) = m 52 (o j) := fun x hx => yw_ni (by
          rcases hbf with z | ⟨i, a1, b1, c1, d1, z⟩
          · exact absurd z hx
          · rw [z]; intro z'; have := h.inj (by omega) (by omega) (by omega) (by omega) z'; omega)
        split <;> split <;> (rw [yw_nF (by decide)]) <;> first | (rw [yw_nF (by decide)]) | exact q _ (by assumption)
    have h68 : cutY m (o k) 68 0 = N := by
      unfold cutY
      try simp only
      split <;> split <;> (rw [yw_nF (by decide), yw_nF (by decide)]; exact hn)
    have h45 : cutY m (o k) 45 = m 45 := by
      unfold cutY
      try simp only
      split <;> split <;> (rw [yw_nF (by decide), yw_nF (by decide)])
    refine ev_mono (y_free h hag (by omega) h2 h68) (fun m' hm => ⟨hm.1, hm.2.1, hm.2.2.1, fun u hu => ?_⟩)
    rw [hm.2.2.2 u hu, h45]
  have step : ∀ m1, m1 = (if m 53 (o k) = -1 then yw m 50 (m 49 (o k)) (m 52 (o k)) else yw m 52 (m 53 (o k)) (m 52 (o k))) → ev (nk_Y_remove_47 (o k) m1) (fun m' => FY [45, 68] (cutY m (o k)) m' ∧ m' 68 0 = N - (e k - k) ∧ (∀ j, k ≤ j → j < e k → m' 45 (o j) = 0) ∧ (∀ u, (∀ j, k ≤ j → j < e k → o j ≠ u) → m' 45 u = m 45 u)) := fun m1 hm => by
    have e52 : m1 52 (o k) = m 52 (o k) := by
      rw [hm]
      split
      · rw [yw_nF (by decide)]
      · rename_i hz
        refine yw_ni ?_
        rcases hbf with z | ⟨i, a1, b1, c1, d1, z⟩
        · exact absurd z hz
        · rw [z]; intro z'; have := h.inj (by omega) (by omega) (by omega) (by omega) z'; omega
    have e49 : m1 49 = m 49 := by rw [hm]; split <;> exact yw_nF (by decide)
    have e53 : m1 53 = m 53 := by rw [hm]; split <;> exact yw_nF (by decide)
    unfold nk_Y_remove_47
    rw [e52, e49, e53, hpar]
    refine ev_ix hob (ev_if (fun hz => ev_ix hob (ev_ix hob (ev_ix hop (ev_st (fin _ ?_))))) (fun hz => ev_ix hob (ev_ix hob (ev_ix ?_ (ev_st (fin _ ?_))))))
    · unfold cutY
      try simp only
      rw [if_pos hz, ← hm, hpar]
    · rcases hnxv with z | ⟨z1, z2⟩
      · exact absurd z hz
      · rw [z2]; exact h.oB (by omega) z1
    · unfold cutY
      try simp only
      rw [if_neg hz, ← hm]
  unfold N_Y_remove
  refine ev_ix hob (ev_if (fun hz => ?_) (fun hz => ?_))
  · rw [hpar]
    refine ev_ix hob (ev_ix hob (ev_ix hop (ev_st (step _ ?_))))
    rw [if_pos hz, hpar]
  · refine ev_ix hob (ev_ix hob (ev_ix ?_ (ev_st (step _ ?_))))
    · rcases hbf with z | ⟨i, a1, b1, c1, d1, z⟩
      · exact absurd z hz
      · rw [z]; exact h.oB (by omega) (by omega)
    · rw [if_neg hz]
end C2
