/-! A NEW ELEMENT: the reference takes name and ATTRIBUTES -/
section I0
variable {n n' : NS} {m m' : YS} {A B f t v2 a b K : Int}
/-- a row of bytes is copied -/
theorem y_copy {F G : Nat} {fn : Int × YS → Option ((Int × YS) ⊕ YS)} (hFG : G ≠ F) (hK : 0 ≤ K) (hb : ∀ k m1, FY [F] m m1 → 0 ≤ k → k < K → fn (k, m1) = some (.inl (k + 1, yw m1 F (a + k) (m1 G (b + k))))) (he : ∀ m1, FY [F] m m1 → fn (K, m1) = some (.inr m1)) : ev (it fn (0, m)) (fun m' => FY [F] m m' ∧ (∀ j, 0 ≤ j → j < K → m' F (a + j) = m G (b + j)) ∧ ∀ j, ¬ (a ≤ j ∧ j < a + K) → m' F j = m F j) := by
  refine ev_it (fun s : Int × YS => (0 ≤ s.1 ∧ s.1 ≤ K) ∧ FY [F] m s.2 ∧ (∀ j, 0 ≤ j → j < s.1 → s.2 F (a + j) = m G (b + j)) ∧ ∀ j, ¬ (a ≤ j ∧ j < a + K) → s.2 F j = m F j) (fun s => K - s.1) (fun s hs => ?_) ⟨⟨Int.le_refl _, hK⟩, fun _ _ => rfl, fun j x y => by have y : j < 0 := y; omega, fun _ _ => rfl⟩
  obtain ⟨k, m1⟩ := s
  obtain ⟨g1, g2, g3, g4⟩ := hs
  simp only at g1 g2 g3 g4
  by_cases hlt : k < K
  · rw [hb k m1 g2 g1.1 hlt, g2 G (by simp only [List.mem_cons, List.not_mem_nil, or_false]; exact hFG)]
    refine ev_inl ⟨⟨by show 0 ≤ k + 1 ∧ k + 1 ≤ K; omega, fun g hg => ?_, fun j x y => ?_, fun j hj => ?_⟩, by show K - (k + 1) < K - k; omega, by show 0 ≤ K - k; omega⟩
    · show yw m1 F (a + k) (m G (b + k)) g = m g
      rw [yw_nF (by simp only [List.mem_cons, List.not_mem_nil, or_false] at hg; exact hg)]; exact g2 g hg
    · have y : j < k + 1 := y
      show yw m1 F (a + k) (m G (b + k)) F (a + j) = m G (b + j)
      by_cases z : j = k
      · rw [z, yw_eq]
      · rw [yw_ni (by omega)]; exact g3 j x (by omega)
    · show yw m1 F (a + k) (m G (b + k)) F j = m F j
      rw [yw_ni (by omega)]; exact g4 j hj
  · have : k = K := by omega
    subst this
    rw [he m1 g2]
    exact ev_inr ⟨g2, g3, g4⟩
theorem y_element (hf : 0 ≤ f ∧ f < 120) (h79 : 0 ≤ m 79 0 ∧ m 79 0 ≤ 8) : ev (N_Y_element f t m) (fun m' => FY [46, 47, 48] m m' ∧ (m' 46 f = t ∧ m' 48 f = m 79 0) ∧ (∀ u, u ≠ f → m' 46 u = m 46 u ∧ m' 48 u = m 48 u) ∧ nmL m' f = sg (m 78) 0 (m 79 0).toNat ∧ ∀ j, ¬ (8 * f ≤ j ∧ j < 8 * f + 8) → m' 47 j = m 47 j) := by
  unfold N_Y_element
  refine ev_ix hf (ev_st (ev_ix hf (ev_st ?_)))
  generalize h1 : yw m 46 f t = m1
  generalize h2 : yw m1 48 f (m1 79 0) = m2
  have q1 : FY [46] m m1 := fun g hg => by rw [← h1]; exact yw_nF (by simp only [List.mem_cons, List.not_mem_nil, or_false] at hg; exact hg)
  have q2 : FY [48] m1 m2 := fun g hg => by rw [← h2]; exact yw_nF (by simp only [List.mem_cons, List.not_mem_nil, or_false] at hg; exact hg)
  have e79 : m2 79 0 = m 79 0 := by rw [q2 79 (by decide), q1 79 (by decide)]
  refine ev_bind (P := fun m' => FY [47] m2 m' ∧ (∀ j, 0 ≤ j → j < m 79 0 → m' 47 (8 * f + j) = m2 78 (0 + j)) ∧ ∀ j, ¬ (8 * f ≤ j ∧ j < 8 * f + m 79 0) → m' 47 j = m2 47 j) ?_ (fun m3 h3 => ev_ok ?_)
  · unfold NL_Y_element_19
    refine y_copy (F := 47) (G := 78) (K := m 79 0) (a := 8 * f) (b := 0) (by decide) h79.1 (fun k m4 h4 k0 k1 => ?_) (fun m4 h4 => ?_)
    · show nb_Y_element_19 f k m4 = _
      unfold nb_Y_element_19 ck ix st
      dsimp only
      rw [h4 79 (by decide), e79, if_pos k1, if_pos (by omega), if_pos (by omega), if_pos (by omega), if_pos (by omega), if_pos (by omega), show (0 : Int) + k = k by omega]
    · show nb_Y_element_19 f (m 79 0) m4 = _
      unfold nb_Y_element_19
      rw [h4 79 (by decide), e79, if_neg (by omega)]
  · obtain ⟨g1, g2, g3⟩ := h3
    have e46 : m3 46 f = t := by rw [g1 46 (by decide), q2 46 (by decide), ← h1, yw_eq]
    have e48 : m3 48 f = m 79 0 := by rw [g1 48 (by decide), ← h2, yw_eq, q1 79 (by decide)]
    refine ⟨fun g hg => ?_, ⟨e46, e48⟩, fun u hu => ⟨?_, ?_⟩, ?_, fun j hj => ?_⟩
    · simp only [List.mem_cons, List.not_mem_nil, or_false, not_or] at hg
      rw [g1 g (by simp only [List.mem_cons, List.not_mem_nil, or_false]; omega), q2 g (by simp only [List.mem_cons, List.not_mem_nil, or_false]; omega), q1 g (by simp only [List.mem_cons, List.not_mem_nil, or_false]; omega)]
    · rw [g1 46 (by decide), q2 46 (by decide), ← h1, yw_ni hu]
    · rw [g1 48 (by decide), ← h2, yw_ni hu, q1 48 (by decide)]
    · unfold nmL
      rw [e48]
      refine sg_cg _ _ _ (fun x hx => ?_)
      rw [g2 x (by omega) (by omega), q2 78 (by decide), q1 78 (by decide)]
    · rw [g3 j (by omega), q2 47 (by decide), q1 47 (by decide)]
/-- what of the ATTRIBUTES has been taken -/
def YTk (f c : Int) (m m' : YS) : Prop :=
  FY [57, 58, 59, 60] m m'
  ∧ (∀ a, 0 ≤ a → a < c → (m' 58 (4 * f + a) = m 82 a ∧ m' 60 (4 * f + a) = m 84 a) ∧ (∀ j, 0 ≤ j → j < 8 → m' 57 (8 * (4 * f + a) + j) = m 81 (8 * a + j)) ∧ ∀ j, 0 ≤ j → j < 60 → m' 59 (60 * (4 * f + a) + j) = m 83 (60 * a + j))
  ∧ (∀ j, ¬ (4 * f ≤ j ∧ j < 4 * f + 4) → m' 58 j = m 58 j ∧ m' 60 j = m 60 j)
  ∧ (∀ j, ¬ (32 * f ≤ j ∧ j < 32 * f + 32) → m' 57 j = m 57 j) ∧ ∀ j, ¬ (240 * f ≤ j ∧ j < 240 * f + 240) → m' 59 j = m 59 j
theorem y_take1 (hf : 0 ≤ f ∧ f < 120) (hc : 0 ≤ m 80 0 ∧ m 80 0 ≤ 4) (hk : 0 ≤ a ∧ a < m 80 0) (h : YTk f a m m') : ev (nb_Y_startTag_244 v2 f a m') (fun x => ∃ m'', x = .inl (a + 1, m'') ∧ YTk f (a + 1) m m'') := by
  obtain ⟨g1, g2, g3, g4, g5⟩ := h
  unfold nb_Y_startTag_244
  rw [g1 80 (by decide), if_pos hk.2]
  refine ev_ck (by omega) (ev_ck (by omega) (ev_ix (by omega) (ev_ix (by omega) (ev_st (ev_ck (by omega) (ev_ck (by omega) (ev_ix (by omega) (ev_ix (by omega) (ev_st ?_)))))))))
  generalize h1 : yw m' 58 (4 * f + a) (m' 82 a) = m1
  generalize h2 : yw m1 60 (4 * f + a) (m1 84 a) = m2
  have q1 : FY [58] m' m1 := fun g hg => by rw [← h1]; exact yw_nF (by simp only [List.mem_cons, List.not_mem_nil, or_false] at hg; exact hg)
  have q2 : FY [60] m1 m2 := fun g hg => by rw [← h2]; exact yw_nF (by simp only [List.mem_cons, List.not_mem_nil, or_false] at hg; exact hg)
  refine ev_bind (P := fun m3 => FY [57] m2 m3 ∧ (∀ j, 0 ≤ j → j < 8 → m3 57 (8 * (4 * f + a) + j) = m2 81 (8 * a + j)) ∧ ∀ j, ¬ (8 * (4 * f + a) ≤ j ∧ j < 8 * (4 * f + a) + 8) → m3 57 j = m2 57 j) ?_ (fun m3 h3 => ?_)
  · unfold NL_Y_startTag_292
    refine y_copy (F := 57) (G := 81) (K := 8) (a := 8 * (4 * f + a)) (b := 8 * a) (by decide) (by decide) (fun k m4 h4 k0 k1 => ?_) (fun m4 h4 => ?_)
    · show nb_Y_startTag_292 v2 f a k m4 = _
      unfold nb_Y_startTag_292 ck ix st
      dsimp only
      rw [if_pos k1, if_pos (by omega), if_pos (by omega), if_pos (by omega), if_pos (by omega), if_pos (by omega), if_pos (by omega), if_pos (by omega), if_pos (by omega), if_pos (by omega)]
    · show nb_Y_startTag_292 v2 f a 8 m4 = _
      unfold nb_Y_startTag_292
      rw [if_neg (by decide)]
  refine ev_bind (P := fun m4 => FY [59] m3 m4 ∧ (∀ j, 0 ≤ j → j < 60 → m4 59 (60 * (4 * f + a) + j) = m3 83 (60 * a + j)) ∧ ∀ j, ¬ (60 * (4 * f + a) ≤ j ∧ j < 60 * (4 * f + a) + 60) → m4 59 j = m3 59 j) ?_ (fun m4 h4 => ?_)
  · unfold NL_Y_startTag_338
    refine y_copy (F := 59) (G := 83) (K := 60) (a := 60 * (4 * f + a)) (b := 60 * a) (by decide) (by decide) (fun k m4 h4 k0 k1 => ?_) (fun m4 h4 => ?_)
    · show nb_Y_startTag_338 v2 f a k m4 = _
      unfold nb_Y_startTag_338 ck ix st
      dsimp only
      rw [if_pos k1, if_pos (by omega), if_pos (by omega), if_pos (by omega), if_pos (by omega), if_pos (by omega), if_pos (by omega), if_pos (by omega), if_pos (by omega), if_pos (by omega)]
    · show nb_Y_startTag_338 v2 f a 60 m4 = _
      unfold nb_Y_startTag_338
      rw [if_neg (by decide)]
  obtain ⟨i1, i2, i3⟩ := h3
  obtain ⟨j1, j2, j3⟩ := h4
  have e58 : ∀ j, m4 58 j = if j = 4 * f + a then m 82 a else m' 58 j := fun j => by
    rw [j1 58 (by decide), i1 58 (by decide), q2 58 (by decide), ← h1]
    split
    · next y => rw [y, yw_eq, g1 82 (by decide)]
    · next y => exact yw_ni y
  have e60 : ∀ j, m4 60 j = if j = 4 * f + a then m 84 a else m' 60 j := fun j => by
    rw [j1 60 (by decide), i1 60 (by decide), ← h2]
    split
    · next y => rw [y, yw_eq, q1 84 (by decide), g1 84 (by decide)]
    · next y => rw [yw_ni y, q1 60 (by decide)]
  refine ev_ck (by omega) (ev_ok ⟨m4, rfl, fun g hg => ?_, fun c c0 c1 => ?_, fun j hj => ?_, fun j hj => ?_, fun j hj => ?_⟩)
  · rw [j1 g (by simp only [List.mem_cons, List.not_mem_nil, or_false, not_or] at hg ⊢; omega), i1 g (by simp only [List.mem_cons, List.not_mem_nil, or_false, not_or] at hg ⊢; omega), q2 g (by simp only [List.mem_cons, List.not_mem_nil, or_false, not_or] at hg ⊢; omega), q1 g (by simp only [List.mem_cons, List.not_mem_nil, or_false, not_or] at hg ⊢; omega), g1 g hg]
  · rw [e58, e60]
    by_cases y : c = a
    · subst y
      refine ⟨by rw [if_pos rfl, if_pos rfl]; exact ⟨rfl, rfl⟩, fun j x0 x1 => ?_, fun j x0 x1 => ?_⟩
      · rw [j1 57 (by decide), i2 j x0 x1, q2 81 (by decide), q1 81 (by decide), g1 81 (by decide)]
      · rw [j2 j x0 x1, i1 83 (by decide), q2 83 (by decide), q1 83 (by decide), g1 83 (by decide)]
    · have := g2 c c0 (by omega)
      rw [if_neg (by omega), if_neg (by omega)]
      refine ⟨this.1, fun j x0 x1 => ?_, fun j x0 x1 => ?_⟩
      · rw [j1 57 (by decide), i3 _ (by omega), q2 57 (by decide), q1 57 (by decide)]; exact this.2.1 j x0 x1
      · rw [j3 _ (by omega), i1 59 (by decide), q2 59 (by decide), q1 59 (by decide)]; exact this.2.2 j x0 x1
  · rw [e58, e60, if_neg (by omega), if_neg (by omega)]; exact g3 j hj
  · rw [j1 57 (by decide), i3 _ (by omega), q2 57 (by decide), q1 57 (by decide)]; exact g4 j hj
  · rw [j3 _ (by omega), i1 59 (by decide), q2 59 (by decide), q1 59 (by decide)]; exact g5 j hj
theorem y_takes (hf : 0 ≤ f ∧ f < 120) (hc : 0 ≤ m 80 0 ∧ m 80 0 ≤ 4) : ev (NL_Y_startTag_244 v2 f 0 m) (YTk f (m 80 0) m) := by
  unfold NL_Y_startTag_244
  refine ev_it (fun s : Int × YS => (0 ≤ s.1 ∧ s.1 ≤ m 80 0) ∧ YTk f s.1 m s.2) (fun s => m 80 0 - s.1) (fun s hs => ?_) ⟨⟨Int.le_refl _, hc.1⟩, fun _ _ => rfl, fun a x y => by have y : a < 0 := y; omega, fun _ _ => ⟨rfl, rfl⟩, fun _ _ => rfl, fun _ _ => rfl⟩
  obtain ⟨k, m1⟩ := s
  obtain ⟨g1, g2⟩ := hs
  simp only at g1 g2
  show ev (nb_Y_startTag_244 v2 f k m1) _
  by_cases hlt : k < m 80 0
  · obtain ⟨x, ex, m2, rfl, h2⟩ := y_take1 (v2 := v2) hf hc ⟨g1.1, hlt⟩ g2
    rw [ex]
    exact ev_inl ⟨⟨by show 0 ≤ k + 1 ∧ k + 1 ≤ m 80 0; omega, h2⟩, by show m 80 0 - (k + 1) < m 80 0 - k; omega, by show 0 ≤ m 80 0 - k; omega⟩
  · have : k = m 80 0 := by omega
    subst this
    unfold nb_Y_startTag_244
    rw [g2.1 80 (by decide), if_neg (by omega)]
    exact ev_inr g2
end I0
