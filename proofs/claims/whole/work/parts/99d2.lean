/-! THE ROOT ALONE -/
section D2
variable {n : NS} {m : YS}
theorem y_clear : ev (NL_Y_emptyTree_2 0 m) (fun m1 => FY [45] m m1 ∧ ∀ v, 0 ≤ v → v < 120 → m1 45 v = 0) := by
  unfold NL_Y_emptyTree_2
  refine ev_it (fun s : Int × YS => 0 ≤ s.1 ∧ s.1 ≤ 120 ∧ FY [45] m s.2 ∧ ∀ v, 0 ≤ v → v < s.1 → s.2 45 v = 0) (fun s => 120 - s.1) (fun s hs => ?_) ⟨Int.le_refl _, by show (0 : Int) ≤ 120; decide, FY.refl _ _, fun v a b => by simp only at b; omega⟩
  obtain ⟨i, m1⟩ := s
  obtain ⟨g1, g2, g3, g4⟩ := hs
  simp only at g1 g2 g3 g4
  show ev (nb_Y_emptyTree_2 i m1) _
  unfold nb_Y_emptyTree_2
  refine ev_if (fun hlt => ev_ix ⟨g1, hlt⟩ (ev_st (ev_ck (by unfold inR; omega) (ev_inl ⟨⟨by show 0 ≤ i + 1; omega, by show i + 1 ≤ 120; omega, fun f hf => ?_, fun v a b => ?_⟩, by show 120 - (i + 1) < 120 - i; omega, by show 0 ≤ 120 - i; omega⟩)))) (fun hge => ev_inr ⟨g3, fun v a b => g4 v a (by omega)⟩)
  · show yw m1 45 i 0 f = m f
    rw [yw_nF (by simp only [List.mem_cons, List.not_mem_nil, or_false] at hf; exact hf)]; exact g3 f hf
  · show yw m1 45 i 0 45 v = 0
    rw [yw_app]
    simp only at b
    by_cases z : v = i
    · rw [if_pos ⟨rfl, z⟩]
    · rw [if_neg (fun y => z y.2)]; exact g4 v a (by omega)
theorem c_clear : ev (NL_Tree_clear_2 0 n) (fun n1 => (∀ K, K ≠ 7 → n1 K = n K) ∧ (∀ u s, s ≠ 0 → n1 7 u s = n 7 u s) ∧ ∀ v, 0 ≤ v → v < 120 → n1 7 v 0 = -1) := by
  unfold NL_Tree_clear_2
  refine ev_it (fun s : Int × NS => 0 ≤ s.1 ∧ s.1 ≤ 120 ∧ (∀ K, K ≠ 7 → s.2 K = n K) ∧ (∀ u t, t ≠ 0 → s.2 7 u t = n 7 u t) ∧ ∀ v, 0 ≤ v → v < s.1 → s.2 7 v 0 = -1) (fun s => 120 - s.1) (fun s hs => ?_) ⟨Int.le_refl _, by show (0 : Int) ≤ 120; decide, fun _ _ => rfl, fun _ _ _ => rfl, fun v a b => by simp only at b; omega⟩
  obtain ⟨i, n1⟩ := s
  obtain ⟨g1, g2, g3, g4, g5⟩ := hs
  simp only at g1 g2 g3 g4 g5
  show ev (nb_Tree_clear_2 i n1) _
  unfold nb_Tree_clear_2
  refine ev_if (fun hlt => ev_ix ⟨g1, hlt⟩ (ev_st (ev_ck (by unfold inR; omega) (ev_inl ⟨⟨by show 0 ≤ i + 1; omega, by show i + 1 ≤ 120; omega, fun K hK => ?_, fun u t ht => ?_, fun v a b => ?_⟩, by show 120 - (i + 1) < 120 - i; omega, by show 0 ≤ 120 - i; omega⟩)))) (fun hge => ev_inr ⟨g3, g4, fun v a b => g5 v a (by omega)⟩)
  · show nw n1 7 i 0 (-1) K = n K
    rw [nw_nK hK]; exact g3 K hK
  · show nw n1 7 i 0 (-1) 7 u t = n 7 u t
    rw [nw_ns ht]; exact g4 u t ht
  · show nw n1 7 i 0 (-1) 7 v 0 = -1
    simp only at b
    rw [nw_app]
    by_cases z : v = i
    · rw [if_pos ⟨rfl, z, rfl⟩]
    · rw [if_neg (fun y => z y.2.1)]; exact g5 v a (by omega)
theorem y_empty (hc : 0 ≤ m 69 0 ∧ m 69 0 < 2000000000) : ev (N_Y_emptyTree m) (fun m' => ∃ m5, FY [45, 68] m m5 ∧ (∀ v, 0 ≤ v → v < 120 → m5 45 v = 0) ∧ m5 68 0 = 0 ∧ m' = yw (yw (yw (yw (yw (newY m5 0 (-1) 0) 46 0 0) 47 0 100) 47 1 105) 47 2 118) 48 0 3) := by
  unfold N_Y_emptyTree
  refine ev_bind y_clear (fun m1 h1 => ev_st ?_)
  generalize h5 : yw m1 68 0 0 = m5
  have e45 : ∀ v, 0 ≤ v → v < 120 → m5 45 v = 0 := fun v a b => by rw [← h5, yw_nF (by decide)]; exact h1.2 v a b
  have e68 : m5 68 0 = 0 := by rw [← h5, yw_app, if_pos ⟨rfl, rfl⟩]
  have e69 : m5 69 0 = m 69 0 := by rw [← h5, yw_nF (by decide), h1.1 69 (by decide)]
  have hF : FY [45, 68] m m5 := fun f hf => by
    simp only [List.mem_cons, List.not_mem_nil, or_false, not_or] at hf
    rw [← h5, yw_nF hf.2]
    exact h1.1 f (by simp only [List.mem_cons, List.not_mem_nil, or_false]; exact hf.1)
  have hfr : frY m5 = 0 := by
    unfold frY
    exact (scx_eq ⟨Int.le_refl _, .inl (by decide), fun j a b => absurd a (by omega), fun _ z => z (e45 0 (by decide) (by decide))⟩).symm
  obtain ⟨r, r1, r2⟩ := y_fresh (m := m5) (q := -1) (.inl rfl) (fun z => absurd rfl z) (fun z => absurd rfl z) (by omega)
  rw [hfr, if_neg (by omega), if_pos rfl] at r2
  rw [r1, r2]
  refine ev_bind (P := fun r => r = (0, newY m5 0 (-1) 0)) ⟨_, rfl, rfl⟩ (fun r hr => ?_)
  subst hr
  unfold u2
  try simp only
  refine ev_ix (by decide) (ev_st ?_)
  refine ev_ix (by decide) (ev_st ?_)
  refine ev_ix (by decide) (ev_st ?_)
  refine ev_ix (by decide) (ev_st ?_)
  refine ev_ix (by decide) (ev_st ?_)
  exact ev_ok ⟨m5, hF, e45, e68, rfl⟩
end D2
