/-! THE ROOT ALONE: the class, and both -/
section D3
variable {n n5 : NS} {m m5 : YS} {c : Int}
theorem c_empty (hc : 0 ≤ n 10 0 6 ∧ n 10 0 6 < 2000000000 ∧ 0 ≤ n 10 0 7 ∧ n 10 0 7 < 2000000000) : ev (N_Tree_clear n) (fun n' => ∃ n5, (∀ K, K ≠ 7 → K ≠ 10 → n5 K = n K) ∧ (∀ u s, s ≠ 0 → n5 7 u s = n 7 u s) ∧ (∀ v, 0 ≤ v → v < 120 → n5 7 v 0 = -1) ∧ (∀ s, s ≠ 5 → n5 10 0 s = n 10 0 s) ∧ n5 10 0 5 = 0 ∧ n' = newC n5 0 (-1) 0 (n 21 0 0)) := by
  unfold N_Tree_clear
  refine ev_bind c_clear (fun n1 h1 => ev_st ?_)
  generalize h5 : nw n1 10 0 5 0 = n5
  have eK : ∀ K, K ≠ 7 → K ≠ 10 → n5 K = n K := fun K a b => by rw [← h5, nw_nK b]; exact h1.1 K a
  have e7 : ∀ u s, s ≠ 0 → n5 7 u s = n 7 u s := fun u s a => by rw [← h5, nw_nK (by decide)]; exact h1.2.1 u s a
  have e0 : ∀ v, 0 ≤ v → v < 120 → n5 7 v 0 = -1 := fun v a b => by rw [← h5, nw_nK (by decide)]; exact h1.2.2 v a b
  have e10 : ∀ s, s ≠ 5 → n5 10 0 s = n 10 0 s := fun s a => by rw [← h5, nw_ns a, h1.1 10 (by decide)]
  have e5 : n5 10 0 5 = 0 := by rw [← h5, nw_eq]
  have hfr : frC n5 = 0 := by
    unfold frC
    exact (scx_eq ⟨Int.le_refl _, .inl (by decide), fun j a b => absurd a (by omega), fun _ z => z (e0 0 (by decide) (by decide))⟩).symm
  have hg := c_grow (n := n5) (q := -1) (t := 0) (c := n5 21 0 0) (.inl rfl) (by rw [hfr]; exact e0 0 (by decide) (by decide)) (fun z => absurd rfl z) (fun z => absurd rfl z) (fun z => absurd rfl z) (by have := e10 6 (by decide); have := e10 7 (by decide); omega)
  rw [hg, hfr]
  refine ev_ix (by decide) ?_
  refine ev_bind (P := fun r => r = (0, newC n5 0 (-1) 0 (n5 21 0 0))) ⟨_, rfl, rfl⟩ (fun r hr => ?_)
  subst hr
  unfold u2
  try simp only
  exact ev_ok ⟨n5, eK, e7, e0, e10, e5, by rw [eK 21 (by decide) (by decide)]⟩
end D3
