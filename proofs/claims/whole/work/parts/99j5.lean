/-! AN ANSWER IS KEPT: the reference -/
/-- a row of the reference is a copy -/
def RwC (m m' : YS) (to fr : Int) : Prop := m' 7 to = m 7 fr ∧ m' 8 to = m 8 fr ∧ ∀ j, 0 ≤ j → j < 150 → m' 6 (150 * to + j) = m 6 (150 * fr + j)
def YKp (v1 v2 w0 : Int) (m m' : YS) : Prop :=
  FY [6, 7, 8, 17, 18, 23, 24, 26, 27, 28, 29] m m' ∧ (m' 26 0 = w0 ∧ m' 27 0 = m 27 0 + 1)
  ∧ (m' 28 v2 = m 25 0 + m 19 v1 ∧ m' 29 v2 = m 27 0 ∧ ∀ k, k ≠ v2 → m' 28 k = m 28 k ∧ m' 29 k = m 29 k)
  ∧ (m' 18 (12 + v2) = m 18 v1 ∧ m' 23 (12 + v2) = m 23 v1 ∧ m' 24 (12 + v2) = m 24 v1 ∧ ∀ k, k ≠ 12 + v2 → m' 18 k = m 18 k ∧ m' 23 k = m 23 k ∧ m' 24 k = m 24 k)
  ∧ ((∀ j, 0 ≤ j → j < m 18 v1 → m' 17 (1500 * (12 + v2) + j) = m 17 (1500 * v1 + j)) ∧ ∀ j, ¬ (1500 * (12 + v2) ≤ j ∧ j < 1500 * (12 + v2) + 1500) → m' 17 j = m 17 j)
  ∧ (RwC m m' (18 + v2) 4 ∧ (m 23 v1 = 1 → RwC m m' (58 + v2) (46 + v1)) ∧ ∀ r, r ≠ 18 + v2 → r ≠ 58 + v2 → RwE m m' r)
section J5
variable {n n' : NS} {m m' : YS} {a b K v1 v2 w0 i r : Int} {nm q mk : List Int} {ss : List (List Int)}
theorem RwC.ra {to fr : Int} (h : RwC m m' to fr) (hR : RA m fr nm ss q mk) (hW : WFA nm ss q mk) : RA m' to nm ss q mk := by
  obtain ⟨h4, h5, h2⟩ := h
  obtain ⟨r1, r2, r3, r4⟩ := hR
  have hsz := hW.sz
  have w6 := hW.2.2.2.1
  refine ⟨by rw [h4]; exact r1, Eq.trans (sg_cg _ _ (150 * fr) (fun x hx => h2 x (by omega) (by omega))) r2, by rw [h5]; exact r3, Eq.trans (sg_cg _ _ (150 * fr + 135) (fun x hx => ?_)) r4⟩
  rw [show 150 * to + 135 + (x : Int) = 150 * to + (135 + x) by omega, h2 _ (by omega) (by omega)]; congr 1; omega
/-- a row of bytes is copied within its field -/
theorem y_copyS {F : Nat} {fn : Int × YS → Option ((Int × YS) ⊕ YS)} (hK : 0 ≤ K) (hd : b + K ≤ a ∨ a + K ≤ b) (hb : ∀ k m1, FY [F] m m1 → 0 ≤ k → k < K → fn (k, m1) = some (.inl (k + 1, yw m1 F (a + k) (m1 F (b + k))))) (he : ∀ m1, FY [F] m m1 → fn (K, m1) = some (.inr m1)) : ev (it fn (0, m)) (fun m' => FY [F] m m' ∧ (∀ j, 0 ≤ j → j < K → m' F (a + j) = m F (b + j)) ∧ ∀ j, ¬ (a ≤ j ∧ j < a + K) → m' F j = m F j) := by
  refine ev_it (fun s : Int × YS => (0 ≤ s.1 ∧ s.1 ≤ K) ∧ FY [F] m s.2 ∧ (∀ j, 0 ≤ j → j < s.1 → s.2 F (a + j) = m F (b + j)) ∧ ∀ j, ¬ (a ≤ j ∧ j < a + K) → s.2 F j = m F j) (fun s => K - s.1) (fun s hs => ?_) ⟨⟨Int.le_refl _, hK⟩, fun _ _ => rfl, fun j x y => by have y : j < 0 := y; omega, fun _ _ => rfl⟩
  obtain ⟨k, m1⟩ := s
  obtain ⟨g1, g2, g3, g4⟩ := hs
  simp only at g1 g2 g3 g4
  by_cases hlt : k < K
  · rw [hb k m1 g2 g1.1 hlt, g4 (b + k) (by omega)]
    refine ev_inl ⟨⟨by show 0 ≤ k + 1 ∧ k + 1 ≤ K; omega, fun g hg => ?_, fun j x y => ?_, fun j hj => ?_⟩, by show K - (k + 1) < K - k; omega, by show 0 ≤ K - k; omega⟩
    · show yw m1 F (a + k) (m F (b + k)) g = m g
      rw [yw_nF (by simp only [List.mem_cons, List.not_mem_nil, or_false] at hg; exact hg)]; exact g2 g hg
    · have y : j < k + 1 := y
      show yw m1 F (a + k) (m F (b + k)) F (a + j) = m F (b + j)
      by_cases z : j = k
      · rw [z, yw_eq]
      · rw [yw_ni (by omega)]; exact g3 j x (by omega)
    · show yw m1 F (a + k) (m F (b + k)) F j = m F j
      rw [yw_ni (by omega)]; exact g4 j hj
  · have : k = K := by omega
    subst this
    rw [he m1 g2]
    exact ev_inr ⟨g2, g3, g4⟩
theorem y_keep93 (h1 : 0 ≤ v1 ∧ v1 < 12) (h2 : 0 ≤ v2 ∧ v2 < 8) (hc : 0 ≤ m 25 0 ∧ m 25 0 ≤ 1000000) (ha : -1 ≤ m 19 v1 ∧ m 19 v1 ≤ 9999) (h27 : 0 ≤ m 27 0 ∧ m 27 0 < 1000000000) (h18 : 0 ≤ m 18 v1 ∧ m 18 v1 ≤ 1500) (h23 : m 23 v1 = 0 ∨ m 23 v1 = 1) : ev (nk_Y_keep_93 v1 v2 w0 m) (YKp v1 v2 w0 m) := by
  unfold nk_Y_keep_93
  refine ev_st (ev_ck (by omega) ?_)
  generalize e2 : yw m 26 0 w0 = m2
  have f2 : FY [26] m m2 := fun g hg => by rw [← e2]; exact yw_nF (by simp only [List.mem_cons, List.not_mem_nil, or_false] at hg; exact hg)
  refine ev_bind (y_copyRow (m := m2) (to := 18 + v2) (fr := 4) (by omega) (by omega) (by omega)) (fun m7 h7 => ?_)
  have g7 : ∀ g, g ≠ 26 → g ≠ 6 → g ≠ 7 → g ≠ 8 → m7 g = m g := fun g x1 x2 x3 x4 => by
    rw [h7.1 g (by simp only [List.mem_cons, List.not_mem_nil, or_false, not_or]; exact ⟨x2, x3, x4⟩), f2 g (by simp only [List.mem_cons, List.not_mem_nil, or_false]; exact x1)]
  rw [g7 25 (by decide) (by decide) (by decide) (by decide), g7 19 (by decide) (by decide) (by decide) (by decide)]
  refine ev_ix h1 (ev_ck (by omega) (ev_ix h2 (ev_st (ev_ix h2 (ev_st ?_)))))
  generalize e17 : yw m7 28 v2 (m 25 0 + m 19 v1) = m17
  have f17 : FY [28] m7 m17 := fun g hg => by rw [← e17]; exact yw_nF (by simp only [List.mem_cons, List.not_mem_nil, or_false] at hg; exact hg)
  rw [show m17 27 0 = m 27 0 by rw [f17 27 (by decide), g7 27 (by decide) (by decide) (by decide) (by decide)]]
  generalize e23 : yw m17 29 v2 (m 27 0) = m23
  have f23 : FY [29] m17 m23 := fun g hg => by rw [← e23]; exact yw_nF (by simp only [List.mem_cons, List.not_mem_nil, or_false] at hg; exact hg)
  rw [show m23 27 0 = m 27 0 by rw [f23 27 (by decide), f17 27 (by decide), g7 27 (by decide) (by decide) (by decide) (by decide)]]
  refine ev_ck (by omega) (ev_st (ev_ck (by omega) (ev_ix (by omega) (ev_ix (by omega) (ev_st ?_)))))
  generalize e29 : yw m23 27 0 (m 27 0 + 1) = m29
  have f29 : FY [27] m23 m29 := fun g hg => by rw [← e29]; exact yw_nF (by simp only [List.mem_cons, List.not_mem_nil, or_false] at hg; exact hg)
  have g29 : ∀ g, g ≠ 26 → g ≠ 6 → g ≠ 7 → g ≠ 8 → g ≠ 27 → g ≠ 28 → g ≠ 29 → m29 g = m g := fun g x1 x2 x3 x4 x5 x6 x7 => by
    rw [f29 g (by simp only [List.mem_cons, List.not_mem_nil, or_false]; exact x5), f23 g (by simp only [List.mem_cons, List.not_mem_nil, or_false]; exact x7), f17 g (by simp only [List.mem_cons, List.not_mem_nil, or_false]; exact x6), g7 g x1 x2 x3 x4]
  rw [g29 18 (by decide) (by decide) (by decide) (by decide) (by decide) (by decide) (by decide)]
  generalize e38 : yw m29 18 (12 + v2) (m 18 v1) = m38
  have f38 : FY [18] m29 m38 := fun g hg => by rw [← e38]; exact yw_nF (by simp only [List.mem_cons, List.not_mem_nil, or_false] at hg; exact hg)
  have e18 : ∀ k, m38 18 k = if k = 12 + v2 then m 18 v1 else m 18 k := fun k => by
    rw [← e38]
    split
    · next y => rw [y, yw_eq]
    · next y => rw [yw_ni y, g29 18 (by decide) (by decide) (by decide) (by decide) (by decide) (by decide) (by decide)]
  have e181 : m38 18 v1 = m 18 v1 := by rw [e18, if_neg (by omega)]
  refine ev_bind (P := fun m' => FY [17] m38 m' ∧ (∀ j, 0 ≤ j → j < m 18 v1 → m' 17 ((12 + v2) * 1500 + j) = m38 17 (v1 * 1500 + j)) ∧ ∀ j, ¬ ((12 + v2) * 1500 ≤ j ∧ j < (12 + v2) * 1500 + m 18 v1) → m' 17 j = m38 17 j) ?_ (fun m41 h41 => ?_)
  · unfold NL_Y_keep_162
    refine y_copyS (F := 17) (K := m 18 v1) (a := (12 + v2) * 1500) (b := v1 * 1500) h18.1 (by omega) (fun k m9 f9 k0 k1 => ?_) (fun m9 f9 => ?_)
    · show nb_Y_keep_162 v1 v2 (12 + v2) k m9 = _
      unfold nb_Y_keep_162 ck ix st
      dsimp only
      rw [f9 18 (by decide), e181, if_pos (by omega), if_pos k1, if_pos (by omega), if_pos (by omega), if_pos (by omega), if_pos (by omega), if_pos (by omega), if_pos (by omega), if_pos (by omega)]
    · show nb_Y_keep_162 v1 v2 (12 + v2) (m 18 v1) m9 = _
      unfold nb_Y_keep_162 ix
      rw [f9 18 (by decide), e181, if_pos (by omega), if_neg (by omega)]
  obtain ⟨f41, c41, d41⟩ := h41
  have e2341 : m41 23 = m 23 := by rw [f41 23 (by decide), f38 23 (by decide), g29 23 (by decide) (by decide) (by decide) (by decide) (by decide) (by decide) (by decide)]
  rw [e2341]
  refine ev_ix (by omega) (ev_ix (by omega) (ev_st (ev_ix (by omega) ?_)))
  generalize e49 : yw m41 23 (12 + v2) (m 23 v1) = m49
  have f49 : FY [23] m41 m49 := fun g hg => by rw [← e49]; exact yw_nF (by simp only [List.mem_cons, List.not_mem_nil, or_false] at hg; exact hg)
  have s23 : ∀ k, m49 23 k = if k = 12 + v2 then m 23 v1 else m 23 k := fun k => by
    rw [← e49]
    split
    · next y => rw [y, yw_eq]
    · next y => rw [yw_ni y, e2341]
  rw [show m49 23 v1 = m 23 v1 by rw [s23, if_neg (by omega)]]
  have f7_49 : ∀ g, g ≠ 17 → g ≠ 18 → g ≠ 23 → g ≠ 27 → g ≠ 28 → g ≠ 29 → m49 g = m7 g := fun g x1 x2 x3 x4 x5 x6 => by
    rw [f49 g (by simp only [List.mem_cons, List.not_mem_nil, or_false]; exact x3), f41 g (by simp only [List.mem_cons, List.not_mem_nil, or_false]; exact x1), f38 g (by simp only [List.mem_cons, List.not_mem_nil, or_false]; exact x2), f29 g (by simp only [List.mem_cons, List.not_mem_nil, or_false]; exact x4), f23 g (by simp only [List.mem_cons, List.not_mem_nil, or_false]; exact x6), f17 g (by simp only [List.mem_cons, List.not_mem_nil, or_false]; exact x5)]
  have fin : ∀ mx, FY [6, 7, 8] m49 mx → (m 23 v1 = 1 → RwC m mx (58 + v2) (46 + v1)) → RwC m mx (18 + v2) 4 → (∀ r, r ≠ 18 + v2 → r ≠ 58 + v2 → RwE m mx r) → ev (nk_Y_keep_238 v1 (12 + v2) mx) (YKp v1 v2 w0 m) := fun mx x1 x2 x3 x4 => by
    unfold nk_Y_keep_238
    have e24 : mx 24 = m 24 := by rw [x1 24 (by decide), f7_49 24 (by decide) (by decide) (by decide) (by decide) (by decide) (by decide), g7 24 (by decide) (by decide) (by decide) (by decide)]
    rw [e24]
    refine ev_ix (by omega) (ev_ix (by omega) (ev_st (ev_ok ?_)))
    generalize hz : yw mx 24 (12 + v2) (m 24 v1) = mz
    have fz : FY [24] mx mz := fun g hg => by rw [← hz]; exact yw_nF (by simp only [List.mem_cons, List.not_mem_nil, or_false] at hg; exact hg)
    have kz : ∀ g, g ≠ 24 → g ≠ 6 → g ≠ 7 → g ≠ 8 → mz g = m49 g := fun g a b c d => by
      rw [fz g (by simp only [List.mem_cons, List.not_mem_nil, or_false]; exact a), x1 g (by simp only [List.mem_cons, List.not_mem_nil, or_false, not_or]; exact ⟨b, c, d⟩)]
    have rz : ∀ r, RwE mx mz r := fun r => RwE.of (fz 6 (by decide)) (fz 7 (by decide)) (fz 8 (by decide))
    have cz : ∀ to fr, RwC m mx to fr → RwC m mz to fr := fun to fr h => ⟨by rw [fz 7 (by decide)]; exact h.1, by rw [fz 8 (by decide)]; exact h.2.1, fun j a b => by rw [fz 6 (by decide)]; exact h.2.2 j a b⟩
    refine ⟨fun g hg => ?_, ⟨?_, ?_⟩, ⟨?_, ?_, fun k hk => ⟨?_, ?_⟩⟩, ⟨?_, ?_, ?_, fun k hk => ⟨?_, ?_, ?_⟩⟩, ⟨fun j a b => ?_, fun j hj => ?_⟩, cz _ _ x3, fun h => cz _ _ (x2 h), fun r a b => (x4 r a b).trans (rz r)⟩
    · simp only [List.mem_cons, List.not_mem_nil, or_false, not_or] at hg
      obtain ⟨a1, a2, a3, a4, a5, a6, a7, a8, a9, a10, a11⟩ := hg
      rw [kz g a7 a1 a2 a3, f7_49 g a4 a5 a6 a9 a10 a11, g7 g a8 a1 a2 a3]
    · rw [kz 26 (by decide) (by decide) (by decide) (by decide), f7_49 26 (by decide) (by decide) (by decide) (by decide) (by decide) (by decide), h7.1 26 (by decide), ← e2, yw_eq]
    · rw [kz 27 (by decide) (by decide) (by decide) (by decide), f49 27 (by decide), f41 27 (by decide), f38 27 (by decide), ← e29, yw_eq]
    · rw [kz 28 (by decide) (by decide) (by decide) (by decide), f49 28 (by decide), f41 28 (by decide), f38 28 (by decide), f29 28 (by decide), f23 28 (by decide), ← e17, yw_eq]
    · rw [kz 29 (by decide) (by decide) (by decide) (by decide), f49 29 (by decide), f41 29 (by decide), f38 29 (by decide), f29 29 (by decide), ← e23, yw_eq]
    · rw [kz 28 (by decide) (by decide) (by decide) (by decide), f49 28 (by decide), f41 28 (by decide), f38 28 (by decide), f29 28 (by decide), f23 28 (by decide), ← e17, yw_ni hk, g7 28 (by decide) (by decide) (by decide) (by decide)]
    · rw [kz 29 (by decide) (by decide) (by decide) (by decide), f49 29 (by decide), f41 29 (by decide), f38 29 (by decide), f29 29 (by decide), ← e23, yw_ni hk, f17 29 (by decide), g7 29 (by decide) (by decide) (by decide) (by decide)]
    · rw [kz 18 (by decide) (by decide) (by decide) (by decide), f49 18 (by decide), f41 18 (by decide), e18, if_pos rfl]
    · rw [kz 23 (by decide) (by decide) (by decide) (by decide), s23, if_pos rfl]
    · rw [← hz, yw_eq]
    · rw [kz 18 (by decide) (by decide) (by decide) (by decide), f49 18 (by decide), f41 18 (by decide), e18, if_neg hk]
    · rw [kz 23 (by decide) (by decide) (by decide) (by decide), s23, if_neg hk]
    · rw [← hz, yw_ni hk, e24]
    · rw [kz 17 (by decide) (by decide) (by decide) (by decide), f49 17 (by decide), show 1500 * (12 + v2) + j = (12 + v2) * 1500 + j by omega, c41 j a b, f38 17 (by decide), g29 17 (by decide) (by decide) (by decide) (by decide) (by decide) (by decide) (by decide)]
      congr 1; omega
    · rw [kz 17 (by decide) (by decide) (by decide) (by decide), f49 17 (by decide), d41 j (by omega), f38 17 (by decide), g29 17 (by decide) (by decide) (by decide) (by decide) (by decide) (by decide) (by decide)]
  have r2 : ∀ r, RwE m m2 r := fun r => RwE.of (f2 6 (by decide)) (f2 7 (by decide)) (f2 8 (by decide))
  have r749 : ∀ r, RwE m7 m49 r := fun r => RwE.of (f7_49 6 (by decide) (by decide) (by decide) (by decide) (by decide) (by decide)) (f7_49 7 (by decide) (by decide) (by decide) (by decide) (by decide) (by decide)) (f7_49 8 (by decide) (by decide) (by decide) (by decide) (by decide) (by decide))
  have c49 : RwC m m49 (18 + v2) 4 := by
    refine ⟨?_, ?_, fun j a b => ?_⟩
    · rw [(r749 _).1, h7.2.2.2.1, (r2 4).1]
    · rw [(r749 _).2.1, h7.2.2.2.2.1, (r2 4).2.1]
    · rw [(r749 (18 + v2)).2.2 _ (by omega) (by omega), h7.2.1 j a b, (r2 4).2.2 _ (by omega) (by omega)]
  have o49 : ∀ r, r ≠ 18 + v2 → RwE m m49 r := fun r hr => ((r2 r).trans (RwE.cp h7 hr)).trans (r749 r)
  refine ev_if (fun hz => ?_) (fun hnz => ?_)
  · exact fin m49 (fun _ _ => rfl) (fun h => by omega) c49 (fun r a _ => o49 r a)
  · refine ev_ck (by omega) (ev_ck (by omega) (ev_bind (y_copyRow (m := m49) (to := 58 + v2) (fr := 46 + v1) (by omega) (by omega) (by omega)) (fun m59 h59 => ?_)))
    have q18 := RwE.cp (r := 18 + v2) h59 (by omega)
    refine fin m59 h59.1 (fun _ => ⟨?_, ?_, fun j a b => ?_⟩) ⟨?_, ?_, fun j a b => ?_⟩ (fun r a b => (o49 r a).trans (RwE.cp h59 b))
    · rw [h59.2.2.2.1, (o49 (46 + v1) (by omega)).1]
    · rw [h59.2.2.2.2.1, (o49 (46 + v1) (by omega)).2.1]
    · rw [h59.2.1 j a b, (o49 (46 + v1) (by omega)).2.2 _ (by omega) (by omega)]
    · rw [q18.1]; exact c49.1
    · rw [q18.2.1]; exact c49.2.1
    · rw [q18.2.2 _ (by omega) (by omega)]; exact c49.2.2 j a b
end J5
