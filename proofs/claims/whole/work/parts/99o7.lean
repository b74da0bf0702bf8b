/-! TASKS: which is due; it is taken out, in both -/
def dueF (clk : Int) (t : Int → Int) : Nat → Int
  | 0 => -1
  | k + 1 => if clk < t k then dueF clk t k else if dueF clk t k = -1 then k else if t k < t (dueF clk t k) then k else dueF clk t k
section O7
variable {n n' n'' n2 : NS} {m m' m'' m0 m6 mR : YS} {A B N N' k b a δ δ' fr to d L r r' q x f v c G G' i z M : Int} {o e p o' e' p' : Int → Int} {As Bs W S : Int → Prop}
theorem dueF_b (clk : Int) (t : Int → Int) : ∀ k : Nat, dueF clk t k = -1 ∨ (0 ≤ dueF clk t k ∧ dueF clk t k < k) := by
  intro k
  induction k with
  | zero => exact .inl rfl
  | succ k ih =>
    unfold dueF
    split
    · rcases ih with y | y
      · exact .inl y
      · exact .inr ⟨y.1, by omega⟩
    · split
      · exact .inr ⟨by omega, by omega⟩
      · split
        · exact .inr ⟨by omega, by omega⟩
        · rcases ih with y | y
          · exact .inl y
          · exact .inr ⟨y.1, by omega⟩
theorem c_due (h : JTk n m) (hc : n 6 0 12 = m 25 0) : NL_Acts_takeDueTask_4 (-1) 0 n = some (dueF (m 25 0) (m 168) (m 166 0).toNat) := by
  apply eq_of_ev
  obtain ⟨t1, t2, t3, t4, t5, t6⟩ := h
  unfold NL_Acts_takeDueTask_4
  refine ev_it (fun s : Int × Int => (0 ≤ s.2 ∧ s.2 ≤ m 166 0) ∧ s.1 = dueF (m 25 0) (m 168) s.2.toNat) (fun s => m 166 0 - s.2) (fun s hs => ?_) ⟨by show (0 : Int) ≤ 0 ∧ (0 : Int) ≤ m 166 0; omega, rfl⟩
  obtain ⟨d, j⟩ := s
  obtain ⟨g1, g2⟩ := hs
  simp only at g1 g2
  show ev (nb_Acts_takeDueTask_4 d j n) _
  unfold nb_Acts_takeDueTask_4
  rw [t1.1, hc]
  refine ev_if (fun hlt => ?_) (fun hge => ev_inr (by show d = _; rw [g2, show j = m 166 0 by omega]))
  have e1 : (j + 1).toNat = j.toNat + 1 := by omega
  have e2 : ((j.toNat : Nat) : Int) = j := by omega
  have hb := dueF_b (m 25 0) (m 168) j.toNat
  rw [← g2] at hb
  have nx : ∀ d', d' = dueF (m 25 0) (m 168) (j.toNat + 1) → ev (ck (j + 1) (some (Sum.inl (d', j + 1)))) (lp (fun s : Int × Int => (0 ≤ s.2 ∧ s.2 ≤ m 166 0) ∧ s.1 = dueF (m 25 0) (m 168) s.2.toNat) (fun s => m 166 0 - s.2) (d, j) (fun r => r = dueF (m 25 0) (m 168) (m 166 0).toNat)) := fun d' hd => ev_ck (by omega) (ev_inl ⟨⟨by show 0 ≤ j + 1 ∧ j + 1 ≤ m 166 0; omega, by show d' = dueF (m 25 0) (m 168) (j + 1).toNat; rw [e1]; exact hd⟩, by show m 166 0 - (j + 1) < m 166 0 - j; omega, by show 0 ≤ m 166 0 - j; omega⟩)
  have tj := (t4 j g1.1 hlt).1
  have un : dueF (m 25 0) (m 168) (j.toNat + 1) = if m 25 0 < m 168 j then d else if d = -1 then j else if m 168 j < m 168 d then j else d := by
    show (if m 25 0 < m 168 ((j.toNat : Nat) : Int) then dueF (m 25 0) (m 168) j.toNat else if dueF (m 25 0) (m 168) j.toNat = -1 then ((j.toNat : Nat) : Int) else if m 168 ((j.toNat : Nat) : Int) < m 168 (dueF (m 25 0) (m 168) j.toNat) then ((j.toNat : Nat) : Int) else dueF (m 25 0) (m 168) j.toNat) = _
    rw [e2, ← g2]
  refine ev_ck (by omega) (ev_ix (by omega) ?_)
  rw [tj]
  refine ev_if (fun y => nx d (by rw [un, if_pos y])) (fun y => ev_if (fun y2 => nx j (by rw [un, if_neg y, if_pos y2])) (fun y2 => ?_))
  have td := (t4 d (by omega) (by omega)).1
  refine ev_ck (by omega) (ev_ix (by omega) (ev_ck (by omega) (ev_ix (by omega) ?_)))
  rw [td]
  exact ev_if (fun y3 => nx j (by rw [un, if_neg y, if_neg y2, if_pos y3])) (fun y3 => nx d (by rw [un, if_neg y, if_neg y2, if_neg y3]))
theorem y_due (h : JTk n m) : NL_Y_tick_48 v (-1) 0 m = some (dueF (m 25 0) (m 168) (m 166 0).toNat) := by
  apply eq_of_ev
  obtain ⟨t1, t2, t3, t4, t5, t6⟩ := h
  unfold NL_Y_tick_48
  refine ev_it (fun s : Int × Int => (0 ≤ s.2 ∧ s.2 ≤ m 166 0) ∧ s.1 = dueF (m 25 0) (m 168) s.2.toNat) (fun s => m 166 0 - s.2) (fun s hs => ?_) ⟨by show (0 : Int) ≤ 0 ∧ (0 : Int) ≤ m 166 0; omega, rfl⟩
  obtain ⟨d, j⟩ := s
  obtain ⟨g1, g2⟩ := hs
  simp only at g1 g2
  show ev (nb_Y_tick_48 v d j m) _
  unfold nb_Y_tick_48
  refine ev_if (fun hlt => ?_) (fun hge => ev_inr (by show d = _; rw [g2, show j = m 166 0 by omega]))
  have e1 : (j + 1).toNat = j.toNat + 1 := by omega
  have e2 : ((j.toNat : Nat) : Int) = j := by omega
  have hb := dueF_b (m 25 0) (m 168) j.toNat
  rw [← g2] at hb
  have nx : ∀ d', d' = dueF (m 25 0) (m 168) (j.toNat + 1) → ev (ck (j + 1) (some (Sum.inl (d', j + 1)))) (lp (fun s : Int × Int => (0 ≤ s.2 ∧ s.2 ≤ m 166 0) ∧ s.1 = dueF (m 25 0) (m 168) s.2.toNat) (fun s => m 166 0 - s.2) (d, j) (fun r => r = dueF (m 25 0) (m 168) (m 166 0).toNat)) := fun d' hd => ev_ck (by omega) (ev_inl ⟨⟨by show 0 ≤ j + 1 ∧ j + 1 ≤ m 166 0; omega, by show d' = dueF (m 25 0) (m 168) (j + 1).toNat; rw [e1]; exact hd⟩, by show m 166 0 - (j + 1) < m 166 0 - j; omega, by show 0 ≤ m 166 0 - j; omega⟩)
  have un : dueF (m 25 0) (m 168) (j.toNat + 1) = if m 25 0 < m 168 j then d else if d = -1 then j else if m 168 j < m 168 d then j else d := by
    show (if m 25 0 < m 168 ((j.toNat : Nat) : Int) then dueF (m 25 0) (m 168) j.toNat else if dueF (m 25 0) (m 168) j.toNat = -1 then ((j.toNat : Nat) : Int) else if m 168 ((j.toNat : Nat) : Int) < m 168 (dueF (m 25 0) (m 168) j.toNat) then ((j.toNat : Nat) : Int) else dueF (m 25 0) (m 168) j.toNat) = _
    rw [e2, ← g2]
  refine ev_ix (by omega) (ev_if (fun y => nx d (by rw [un, if_pos y])) (fun y => ev_if (fun y2 => nx j (by rw [un, if_neg y, if_pos y2])) (fun y2 => ?_)))
  have h5 := t5 d j (by omega) (by omega) hlt
  refine ev_ix (by omega) (ev_ix (by omega) (ev_if (fun y3 => nx j (by rw [un, if_neg y, if_neg y2, if_pos y3])) (fun y3 => ?_)))
  refine ev_ix (by omega) (ev_ix (by omega) (ev_if (fun y4 => ?_) (fun y4 => nx d (by rw [un, if_neg y, if_neg y2, if_neg y3]))))
  exact ev_ix (by omega) (ev_ix (by omega) (ev_if (fun y5 => by omega) (fun y5 => nx d (by rw [un, if_neg y, if_neg y2, if_neg y3]))))
/-- the class closes the gap -/
theorem c_gap (hM : n 0 0 5 = M) (hz : 0 ≤ z ∧ z ≤ M ∧ M < 20) (h45 : ∀ i, 0 ≤ i → i < 20 → 0 ≤ n 45 0 i) : ev (NL_Acts_takeDueTask_113 v z n) (fun n' => (∀ K, K ≠ 44 → K ≠ 45 → n' K = n K) ∧ (∀ i, 0 ≤ i → i < M → n' 44 0 (2 * i) = (if i < z then n 44 0 (2 * i) else n 44 0 (2 * i + 2)) ∧ n' 44 0 (2 * i + 1) = (if i < z then n 44 0 (2 * i + 1) else n 44 0 (2 * i + 3))) ∧ ∀ i, 0 ≤ i → i < 20 → n' 45 0 i = (if z ≤ i ∧ i < M then n 45 0 (i + 1) else n 45 0 i)) := by
  unfold NL_Acts_takeDueTask_113
  refine ev_it (fun s : Int × NS => (z ≤ s.1 ∧ s.1 ≤ M) ∧ (∀ K, K ≠ 44 → K ≠ 45 → s.2 K = n K) ∧ (∀ i, 0 ≤ i → s.2 44 0 (2 * i) = (if z ≤ i ∧ i < s.1 then n 44 0 (2 * i + 2) else n 44 0 (2 * i)) ∧ s.2 44 0 (2 * i + 1) = (if z ≤ i ∧ i < s.1 then n 44 0 (2 * i + 3) else n 44 0 (2 * i + 1))) ∧ ∀ i, 0 ≤ i → i < 20 → s.2 45 0 i = (if z ≤ i ∧ i < s.1 then n 45 0 (i + 1) else n 45 0 i)) (fun s => M - s.1) (fun s hs => ?_) ⟨by show z ≤ z ∧ z ≤ M; omega, fun _ _ _ => rfl, fun i _ => ⟨by show n 44 0 (2 * i) = _; rw [if_neg (by show ¬ (z ≤ i ∧ i < z); omega)], by show n 44 0 (2 * i + 1) = _; rw [if_neg (by show ¬ (z ≤ i ∧ i < z); omega)]⟩, fun i _ _ => by show n 45 0 i = _; rw [if_neg (by show ¬ (z ≤ i ∧ i < z); omega)]⟩
  obtain ⟨j, n1⟩ := s
  obtain ⟨g1, g2, g3, g4⟩ := hs
  simp only at g1 g2 g3 g4
  show ev (nb_Acts_takeDueTask_113 v j n1) _
  unfold nb_Acts_takeDueTask_113
  rw [g2 0 (by decide) (by decide), hM]
  refine ev_if (fun hlt => ?_) (fun hge => ev_inr ⟨g2, fun i i0 i1 => ?_, fun i i0 i1 => ?_⟩)
  · have q1 := (g3 (j + 1) (by omega)).1
    have q2 := (g3 (j + 1) (by omega)).2
    have q3 := g4 (j + 1) (by omega) (by omega)
    rw [if_neg (by omega)] at q1 q2 q3
    refine ev_ck (by omega) (ev_ck (by omega) (ev_ck (by omega) (ev_ix (by omega) (ev_ix (by omega) (ev_st (ev_ck (by omega) (ev_ck (by omega) (ev_ck (by omega) (ev_ck (by omega) (ev_ix (by omega) (ev_ix (by omega) (ev_st (ev_ck (by omega) (ev_ix (by omega) ?_))))))))))))))
    have e1 : nw n1 44 0 (2 * j) (n1 44 0 (2 * j + 2)) 44 0 (2 * j + 3) = n 44 0 (2 * j + 3) := by
      rw [nw_ns (by omega), show 2 * j + 3 = 2 * (j + 1) + 1 by omega]; exact q2
    have e2 : n1 44 0 (2 * j + 2) = n 44 0 (2 * j + 2) := by rw [show 2 * j + 2 = 2 * (j + 1) by omega]; exact q1
    rw [e1, e2, nw_nK (by decide), nw_nK (by decide), q3]
    refine ev_nn (h45 _ (by omega) (by omega)) (ev_ix (by omega) (ev_st (ev_ck (by omega) (ev_inl ⟨⟨by show z ≤ j + 1 ∧ j + 1 ≤ M; omega, fun K a b => ?_, fun i i0 => ⟨?_, ?_⟩, fun i i0 i1 => ?_⟩, by show M - (j + 1) < M - j; omega, by show 0 ≤ M - j; omega⟩))))
    · show nw (nw (nw n1 44 0 (2 * j) (n 44 0 (2 * j + 2))) 44 0 (2 * j + 1) (n 44 0 (2 * j + 3))) 45 0 j (n 45 0 (j + 1)) K = _
      rw [nw_nK b, nw_nK a, nw_nK a]; exact g2 K a b
    · show nw (nw (nw n1 44 0 (2 * j) (n 44 0 (2 * j + 2))) 44 0 (2 * j + 1) (n 44 0 (2 * j + 3))) 45 0 j (n 45 0 (j + 1)) 44 0 (2 * i) = if z ≤ i ∧ i < j + 1 then _ else _
      rw [nw_nK (by decide), nw_ns (by omega)]
      by_cases hi : i = j
      · subst hi
        rw [nw_eq, if_pos (by omega)]
      · rw [nw_ns (by omega), (g3 i i0).1]
        by_cases y : z ≤ i ∧ i < j
        · rw [if_pos y, if_pos (by omega)]
        · rw [if_neg y, if_neg (by omega)]
    · show nw (nw (nw n1 44 0 (2 * j) (n 44 0 (2 * j + 2))) 44 0 (2 * j + 1) (n 44 0 (2 * j + 3))) 45 0 j (n 45 0 (j + 1)) 44 0 (2 * i + 1) = if z ≤ i ∧ i < j + 1 then _ else _
      rw [nw_nK (by decide)]
      by_cases hi : i = j
      · subst hi
        rw [nw_eq, if_pos (by omega)]
      · rw [nw_ns (by omega), nw_ns (by omega), (g3 i i0).2]
        by_cases y : z ≤ i ∧ i < j
        · rw [if_pos y, if_pos (by omega)]
        · rw [if_neg y, if_neg (by omega)]
    · show nw (nw (nw n1 44 0 (2 * j) (n 44 0 (2 * j + 2))) 44 0 (2 * j + 1) (n 44 0 (2 * j + 3))) 45 0 j (n 45 0 (j + 1)) 45 0 i = if z ≤ i ∧ i < j + 1 then _ else _
      by_cases hi : i = j
      · subst hi
        rw [nw_eq, if_pos (by omega)]
      · rw [nw_ns (by omega), nw_nK (by decide), nw_nK (by decide), g4 i i0 i1]
        by_cases y : z ≤ i ∧ i < j
        · rw [if_pos y, if_pos (by omega)]
        · rw [if_neg y, if_neg (by omega)]
  · have q := g3 i i0
    rw [q.1, q.2]
    by_cases y : i < z
    · have y' : ¬ (z ≤ i ∧ i < j) := by omega
      exact ⟨by rw [if_neg y', if_pos y], by rw [if_neg y', if_pos y]⟩
    · have y' : z ≤ i ∧ i < j := by omega
      exact ⟨by rw [if_pos y', if_neg y], by rw [if_pos y', if_neg y]⟩
  · rw [g4 i i0 i1]
    by_cases y : z ≤ i ∧ i < M
    · rw [if_pos y, if_pos (by omega)]
    · rw [if_neg y, if_neg (by omega)]
/-- the reference closes it -/
theorem y_gap (hM : m 166 0 = M) (hz : 0 ≤ z ∧ z ≤ M ∧ M < 20) : ev (NL_Y_doTask_75 z m) (fun m' => FY [168, 169, 170, 171, 172, 173] m m' ∧ (∀ g, g = 168 ∨ g = 169 ∨ g = 170 ∨ g = 171 ∨ g = 172 → ∀ i, 0 ≤ i → m' g i = (if z ≤ i ∧ i < M then m g (i + 1) else m g i)) ∧ ∀ i j, 0 ≤ i → 0 ≤ j → j < 60 → m' 173 (60 * i + j) = (if z ≤ i ∧ i < M then m 173 (60 * (i + 1) + j) else m 173 (60 * i + j))) := by
  unfold NL_Y_doTask_75
  refine ev_it (fun s : Int × YS => (z ≤ s.1 ∧ s.1 ≤ M) ∧ FY [168, 169, 170, 171, 172, 173] m s.2 ∧ (∀ g, g = 168 ∨ g = 169 ∨ g = 170 ∨ g = 171 ∨ g = 172 → ∀ i, 0 ≤ i → s.2 g i = (if z ≤ i ∧ i < s.1 then m g (i + 1) else m g i)) ∧ ∀ i j, 0 ≤ i → 0 ≤ j → j < 60 → s.2 173 (60 * i + j) = (if z ≤ i ∧ i < s.1 then m 173 (60 * (i + 1) + j) else m 173 (60 * i + j))) (fun s => M - s.1) (fun s hs => ?_) ⟨by show z ≤ z ∧ z ≤ M; omega, fun _ _ => rfl, fun g _ i _ => by show m g i = _; rw [if_neg (by show ¬ (z ≤ i ∧ i < z); omega)], fun i j _ _ _ => by show m 173 (60 * i + j) = _; rw [if_neg (by show ¬ (z ≤ i ∧ i < z); omega)]⟩
  obtain ⟨k, m1⟩ := s
  obtain ⟨g1, g2, g3, g4⟩ := hs
  simp only at g1 g2 g3 g4
  show ev (nb_Y_doTask_75 k m1) _
  unfold nb_Y_doTask_75
  rw [g2 166 (by decide), hM]
  refine ev_if (fun hlt => ?_) (fun hge => ev_inr ⟨g2, fun g hg i i0 => ?_, fun i j i0 j0 j1 => ?_⟩)
  · have hck : ∀ {α : Type} (x : Option α), ck (k + 1) x = x := fun x => by unfold ck; rw [if_pos (by omega)]
    have hix1 : ∀ {α : Type} (x : Option α), ix (k + 1) 20 x = x := fun x => by unfold ix; rw [if_pos (by omega)]
    have hix0 : ∀ {α : Type} (x : Option α), ix k 20 x = x := fun x => by unfold ix; rw [if_pos (by omega)]
    simp only [hck, hix1, hix0]
    unfold st
    dsimp only
    generalize hm2 : yw (yw (yw (yw (yw m1 168 k (m1 168 (k + 1))) 169 k (yw m1 168 k (m1 168 (k + 1)) 169 (k + 1))) 170 k (yw (yw m1 168 k (m1 168 (k + 1))) 169 k (yw m1 168 k (m1 168 (k + 1)) 169 (k + 1)) 170 (k + 1))) 171 k (yw (yw (yw m1 168 k (m1 168 (k + 1))) 169 k (yw m1 168 k (m1 168 (k + 1)) 169 (k + 1))) 170 k (yw (yw m1 168 k (m1 168 (k + 1))) 169 k (yw m1 168 k (m1 168 (k + 1)) 169 (k + 1)) 170 (k + 1)) 171 (k + 1))) 172 k (yw (yw (yw (yw m1 168 k (m1 168 (k + 1))) 169 k (yw m1 168 k (m1 168 (k + 1)) 169 (k + 1))) 170 k (yw (yw m1 168 k (m1 168 (k + 1))) 169 k (yw m1 168 k (m1 168 (k + 1)) 169 (k + 1)) 170 (k + 1))) 171 k (yw (yw (yw m1 168 k (m1 168 (k + 1))) 169 k (yw m1 168 k (m1 168 (k + 1)) 169 (k + 1))) 170 k (yw (yw m1 168 k (m1 168 (k + 1))) 169 k (yw m1 168 k (m1 168 (k + 1)) 169 (k + 1)) 170 (k + 1)) 171 (k + 1)) 172 (k + 1)) = m2
    have a2 : ∀ g, g ≠ 168 → g ≠ 169 → g ≠ 170 → g ≠ 171 → g ≠ 172 → m2 g = m1 g := fun g u1 u2 u3 u4 u5 => by rw [← hm2, yw_nF u5, yw_nF u4, yw_nF u3, yw_nF u2, yw_nF u1]
    have b2 : ∀ g, g = 168 ∨ g = 169 ∨ g = 170 ∨ g = 171 ∨ g = 172 → ∀ i, m2 g i = if i = k then m1 g (k + 1) else m1 g i := fun g hg i => by
      rw [← hm2]
      rcases hg with y | y | y | y | y <;> subst y
      · rw [yw_nF (by decide), yw_nF (by decide), yw_nF (by decide), yw_nF (by decide)]
        by_cases u : i = k
        · rw [u, yw_eq, if_pos rfl]
        · rw [yw_ni u, if_neg u]
      · rw [yw_nF (by decide), yw_nF (by decide), yw_nF (by decide)]
        by_cases u : i = k
        · rw [u, yw_eq, if_pos rfl, yw_nF (by decide)]
        · rw [yw_ni u, if_neg u, yw_nF (by decide)]
      · rw [yw_nF (by decide), yw_nF (by decide)]
        by_cases u : i = k
        · rw [u, yw_eq, if_pos rfl, yw_nF (by decide), yw_nF (by decide)]
        · rw [yw_ni u, if_neg u, yw_nF (by decide), yw_nF (by decide)]
      · rw [yw_nF (by decide)]
        by_cases u : i = k
        · rw [u, yw_eq, if_pos rfl, yw_nF (by decide), yw_nF (by decide), yw_nF (by decide)]
        · rw [yw_ni u, if_neg u, yw_nF (by decide), yw_nF (by decide), yw_nF (by decide)]
      · by_cases u : i = k
        · rw [u, yw_eq, if_pos rfl, yw_nF (by decide), yw_nF (by decide), yw_nF (by decide), yw_nF (by decide)]
        · rw [yw_ni u, if_neg u, yw_nF (by decide), yw_nF (by decide), yw_nF (by decide), yw_nF (by decide)]
    refine ev_bind (P := fun m' => FY [173] m2 m' ∧ (∀ j, 0 ≤ j → j < 60 → m' 173 (60 * k + j) = m2 173 (60 * (k + 1) + j)) ∧ ∀ j, ¬ (60 * k ≤ j ∧ j < 60 * k + 60) → m' 173 j = m2 173 j) ?_ (fun m3 h3 => ?_)
    · unfold NL_Y_doTask_155
      refine ev_it (fun s : Int × YS => (0 ≤ s.1 ∧ s.1 ≤ 60) ∧ FY [173] m2 s.2 ∧ (∀ j, 0 ≤ j → j < s.1 → s.2 173 (60 * k + j) = m2 173 (60 * (k + 1) + j)) ∧ ∀ j, ¬ (60 * k ≤ j ∧ j < 60 * k + s.1) → s.2 173 j = m2 173 j) (fun s => 60 - s.1) (fun s hs => ?_) ⟨by show (0 : Int) ≤ 0 ∧ (0 : Int) ≤ 60; decide, fun _ _ => rfl, fun j x y => by have y : j < 0 := y; omega, fun _ _ => rfl⟩
      obtain ⟨w, m4⟩ := s
      obtain ⟨w1, w2, w3, w4⟩ := hs
      simp only at w1 w2 w3 w4
      show ev (nb_Y_doTask_155 k w m4) _
      unfold nb_Y_doTask_155
      refine ev_if (fun wl => ev_ck (by omega) (ev_ck (by omega) (ev_ck (by omega) (ev_ck (by omega) (ev_ck (by omega) (ev_ix (by omega) (ev_ix (by omega) (ev_st (ev_ck (by omega) (ev_inl ⟨⟨by show 0 ≤ w + 1 ∧ w + 1 ≤ 60; omega, fun g hg => ?_, fun j j0 j1 => ?_, fun j hj => ?_⟩, by show 60 - (w + 1) < 60 - w; omega, by show 0 ≤ 60 - w; omega⟩)))))))))) (fun wg => ev_inr ⟨w2, fun j j0 j1 => w3 j j0 (by omega), fun j hj => w4 j (by omega)⟩)
      · show yw m4 173 (60 * k + w) (m4 173 (60 * (k + 1) + w)) g = _
        rw [yw_nF (by simp only [List.mem_cons, List.not_mem_nil, or_false] at hg; exact hg)]; exact w2 g hg
      · show yw m4 173 (60 * k + w) (m4 173 (60 * (k + 1) + w)) 173 (60 * k + j) = _
        have j1 : j < w + 1 := j1
        by_cases u : j = w
        · rw [u, yw_eq, w4 _ (by omega)]
        · rw [yw_ni (by omega)]; exact w3 j j0 (by omega)
      · show yw m4 173 (60 * k + w) (m4 173 (60 * (k + 1) + w)) 173 j = _
        have hj : ¬ (60 * k ≤ j ∧ j < 60 * k + (w + 1)) := hj
        rw [yw_ni (by omega)]; exact w4 j (by omega)
    · obtain ⟨q1, q2, q3⟩ := h3
      refine ev_inl ⟨⟨by show z ≤ k + 1 ∧ k + 1 ≤ M; omega, fun g hg => ?_, fun g hg i i0 => ?_, fun i j i0 j0 j1 => ?_⟩, by show M - (k + 1) < M - k; omega, by show 0 ≤ M - k; omega⟩
      · show m3 g = m g
        have hg' := hg
        simp only [List.mem_cons, List.not_mem_nil, or_false, not_or] at hg'
        rw [q1 g (by simp only [List.mem_cons, List.not_mem_nil, or_false]; exact hg'.2.2.2.2.2), a2 g hg'.1 hg'.2.1 hg'.2.2.1 hg'.2.2.2.1 hg'.2.2.2.2.1]; exact g2 g hg
      · show m3 g i = if z ≤ i ∧ i < k + 1 then _ else _
        rw [q1 g (by simp only [List.mem_cons, List.not_mem_nil, or_false]; omega), b2 g hg i]
        by_cases u : i = k
        · rw [if_pos u, if_pos (by omega), g3 g hg (k + 1) (by omega), if_neg (by omega), u]
        · rw [if_neg u, g3 g hg i i0]
          by_cases y : z ≤ i ∧ i < k
          · rw [if_pos y, if_pos (by omega)]
          · rw [if_neg y, if_neg (by omega)]
      · show m3 173 (60 * i + j) = if z ≤ i ∧ i < k + 1 then _ else _
        have e173 := a2 173 (by decide) (by decide) (by decide) (by decide) (by decide)
        by_cases u : i = k
        · subst u
          rw [q2 j j0 j1, e173, g4 (i + 1) j (by omega) j0 j1, if_neg (by omega), if_pos (by omega)]
        · rw [q3 _ (by omega), e173, g4 i j i0 j0 j1]
          by_cases y : z ≤ i ∧ i < k
          · rw [if_pos y, if_pos (by omega)]
          · rw [if_neg y, if_neg (by omega)]
  · rw [g3 g hg i i0]
    by_cases y : z ≤ i ∧ i < M
    · rw [if_pos y, if_pos (by omega)]
    · rw [if_neg y, if_neg (by omega)]
  · rw [g4 i j i0 j0 j1]
    by_cases y : z ≤ i ∧ i < M
    · rw [if_pos y, if_pos (by omega)]
    · rw [if_neg y, if_neg (by omega)]
end O7
