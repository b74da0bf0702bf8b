/-! THE REFERENCE'S BASE -/
/-- a row of the reference holds an ADDRESS -/
def RA (m : YS) (r : Int) (nm : List Int) (ss : List (List Int)) (q mk : List Int) : Prop := m 7 r = ((adL nm ss q).length : Int) ∧ sg (m 6) (150 * r) (adL nm ss q).length = adL nm ss q ∧ m 8 r = (mk.length : Int) ∧ sg (m 6) (150 * r + 135) mk.length = mk
theorem sg_rd {g : Int → Int} {i : Int} {X : List Int} (h : sg g i X.length = X) {x : Nat} (hx : x < X.length) : g (i + x) = X.getD x 0 := by
  have h1 : (sg g i X.length).getD x 0 = X.getD x 0 := by rw [h]
  have : ∀ (k : Nat) (i : Int) (x : Nat), x < k → (sg g i k).getD x 0 = g (i + x) := by
    intro k
    induction k with
    | zero => intro i x h; omega
    | succ k ih =>
      intro i x h
      cases x with
      | zero => show g i = _; rw [show i + ((0 : Nat) : Int) = i by omega]
      | succ x =>
        show (sg g (i + 1) k).getD x 0 = _
        rw [ih (i + 1) x (by omega), show i + 1 + (x : Int) = i + ((x + 1 : Nat) : Int) by omega]
  rw [← h1, this _ _ _ hx]
section F1
variable {m : YS} {r al : Int} {nm q mk : List Int} {ss : List (List Int)}
theorem adL_len : ((adL nm ss q).length : Int) = 2 + (nm.length : Int) + ((pth ss).length : Int) + (q.length : Int) := by
  unfold adL
  rw [List.length_append, List.length_append, List.length_append]
  show ((2 + (nm.length + ((pth ss).length + q.length)) : Nat) : Int) = _
  omega
theorem WFA.len (h : WFA nm ss q mk) : (pth ss).length ≤ 78 ∧ 1 ≤ (pth ss).length := by
  obtain ⟨w1, ⟨w2, w3, w4⟩, w5, w6⟩ := h
  have h1 := pth_len ss (fun x hx => (w4 x hx).1)
  refine ⟨by omega, ?_⟩
  cases ss with
  | nil => exact absurd rfl w2
  | cons x xs => show 1 ≤ ((47 :: x) ++ pth xs).length; rw [List.length_append, List.length_cons]; omega
theorem RA.parts (h : RA m r nm ss q mk) : sg (m 6) (150 * r) ([47, 47] ++ nm).length = [47, 47] ++ nm ∧ sg (m 6) (150 * r + (2 + (nm.length : Int))) (pth ss).length = pth ss ∧ sg (m 6) (150 * r + (2 + (nm.length : Int) + ((pth ss).length : Int))) q.length = q ∧ sg (m 6) (150 * r) (([47, 47] ++ nm) ++ pth ss).length = ([47, 47] ++ nm) ++ pth ss := by
  have h2 := h.2.1
  have e1 : adL nm ss q = ([47, 47] ++ nm) ++ (pth ss ++ q) := by unfold adL; simp only [List.append_assoc]
  have e2 : adL nm ss q = (([47, 47] ++ nm) ++ pth ss) ++ (q ++ []) := by unfold adL; simp only [List.append_assoc, List.append_nil]
  have l1 : ((([47, 47] ++ nm : List Int).length : Nat) : Int) = 2 + (nm.length : Int) := by rw [List.length_append]; show ((2 + nm.length : Nat) : Int) = _; omega
  refine ⟨?_, ?_, ?_, ?_⟩
  · rw [e1] at h2; exact sg_pre h2
  · rw [e1] at h2
    have := sg_mid h2
    rw [l1] at this; exact this
  · rw [e2] at h2
    have := sg_mid h2
    rw [List.length_append] at this
    rw [show (((([47, 47] ++ nm : List Int).length + (pth ss).length : Nat)) : Int) = 2 + (nm.length : Int) + ((pth ss).length : Int) by omega] at this
    exact this
  · rw [e2] at h2; exact sg_pre h2
theorem pth_hd (h : ss ≠ []) : ∃ w, pth ss = 47 :: w := by
  cases ss with
  | nil => exact absurd rfl h
  | cons x xs => exact ⟨x ++ pth xs, rfl⟩
theorem y_siteEnd (h : RA m r nm ss q mk) (hW : WFA nm ss q mk) (hr : 0 ≤ r ∧ r < 66) : N_Y_siteEnd r m = some (2 + (nm.length : Int)) := by
  obtain ⟨p1, p2, p3, p4⟩ := h.parts
  have hl := hW.len
  obtain ⟨w, hw⟩ := pth_hd hW.2.1.1
  have hn := hW.1
  apply eq_of_ev
  unfold N_Y_siteEnd
  rw [bind_id]
  unfold NL_Y_siteEnd_2
  refine ev_it (fun s : Int => 2 ≤ s ∧ s ≤ 2 + (nm.length : Int)) (fun s => 2 + (nm.length : Int) - s) (fun s hs => ?_) ⟨Int.le_refl _, by omega⟩
  show ev (nb_Y_siteEnd_2 r s m) _
  unfold nb_Y_siteEnd_2
  refine ev_ck (by omega) (ev_ck (by omega) (ev_ix (by omega) ?_))
  by_cases hz : s = 2 + (nm.length : Int)
  · have e : m 6 (r * 150 + s) = 47 := by
      rw [hw] at p2
      have := sg_rd p2 (x := 0) (by rw [List.length_cons]; omega)
      rw [show 150 * r + (2 + (nm.length : Int)) + ((0 : Nat) : Int) = r * 150 + s by omega] at this
      exact this
    rw [if_pos e]
    exact ev_inr hz
  · have p1' : sg (m 6) (150 * r) ([47, 47] ++ (nm ++ [])).length = [47, 47] ++ (nm ++ []) := by rw [List.append_nil]; exact p1
    have hm := sg_at (g := m 6) nm.length (150 * r + (([47, 47] : List Int).length : Int)) (s - 2).toNat (by omega)
    rw [sg_mid p1'] at hm
    rw [show 150 * r + (([47, 47] : List Int).length : Int) + (((s - 2).toNat : Nat) : Int) = r * 150 + s by show 150 * r + 2 + (((s - 2).toNat : Nat) : Int) = _; omega] at hm
    have := hn.2.2 _ hm
    rw [if_neg (by omega)]
    exact ev_ck (by omega) (ev_inl ⟨⟨by omega, by omega⟩, by omega, by omega⟩)
theorem y_queryAt (h : RA m r nm ss q mk) (hW : WFA nm ss q mk) (hr : 0 ≤ r ∧ r < 66) : N_Y_queryAt r m = some (2 + (nm.length : Int) + ((pth ss).length : Int)) := by
  obtain ⟨p1, p2, p3, p4⟩ := h.parts
  have hl := hW.len
  have hsz := h.1
  rw [adL_len] at hsz
  obtain ⟨hn, hss, hq, hmk⟩ := hW
  have l1 : (((([47, 47] ++ nm) ++ pth ss : List Int).length : Nat) : Int) = 2 + (nm.length : Int) + ((pth ss).length : Int) := by rw [List.length_append, List.length_append]; show ((2 + nm.length + (pth ss).length : Nat) : Int) = _; omega
  have hX : ∀ c ∈ ([47, 47] ++ nm) ++ pth ss, c ≠ 63 := fun c hc => by
    rcases List.mem_append.mp hc with z | z
    · rcases List.mem_append.mp z with y | y
      · simp at y; omega
      · have := hn.2.2 c y; omega
    · obtain ⟨x, x1, x2⟩ := List.mem_flatMap.mp z
      rcases List.mem_cons.mp x2 with y | y
      · omega
      · have := (hss.2.2 x x1).2.2 c y; omega
  apply eq_of_ev
  unfold N_Y_queryAt
  rw [bind_id]
  unfold NL_Y_queryAt_2
  refine ev_it (fun s : Int => 0 ≤ s ∧ s ≤ 2 + (nm.length : Int) + ((pth ss).length : Int)) (fun s => 2 + (nm.length : Int) + ((pth ss).length : Int) - s) (fun s hs => ?_) ⟨Int.le_refl _, by omega⟩
  show ev (nb_Y_queryAt_2 r s m) _
  unfold nb_Y_queryAt_2
  refine ev_ix hr ?_
  rw [hsz]
  by_cases hz : s = 2 + (nm.length : Int) + ((pth ss).length : Int)
  · refine ev_if (fun hlt => ev_ck (by omega) (ev_ck (by omega) (ev_ix (by omega) ?_))) (fun _ => ev_inr hz)
    have hqn : q ≠ [] := fun z => by rw [z] at hlt; have hlt : s < _ + ((0 : Nat) : Int) := hlt; omega
    have h63 := hq.2.1 hqn
    have := sg_rd p3 (x := 0) (by omega)
    rw [show 150 * r + (2 + (nm.length : Int) + ((pth ss).length : Int)) + ((0 : Nat) : Int) = r * 150 + s by omega] at this
    have e : q.getD 0 0 = 63 := by
      cases q with
      | nil => exact absurd rfl hqn
      | cons c w => simpa using h63
    rw [this, e, if_pos rfl]
    exact ev_inr hz
  · refine ev_if (fun hlt => ev_ck (by omega) (ev_ck (by omega) (ev_ix (by omega) ?_))) (fun hge => by omega)
    have hm := sg_at (g := m 6) (([47, 47] ++ nm) ++ pth ss).length (150 * r) s.toNat (by omega)
    rw [p4, show 150 * r + ((s.toNat : Nat) : Int) = r * 150 + s by omega] at hm
    rw [if_neg (hX _ hm)]
    exact ev_ck (by omega) (ev_inl ⟨⟨by omega, by omega⟩, by omega, by omega⟩)
theorem pth_take {j : Nat} (hj : j < ss.length) : pth ss = pth (ss.take j) ++ ((47 :: ss[j]) ++ pth (ss.drop (j + 1))) ∧ (pth (ss.take (j + 1))).length = (pth (ss.take j)).length + 1 + ss[j].length := by
  have e1 : ss = ss.take j ++ (ss[j] :: ss.drop (j + 1)) := by
    rw [← List.drop_eq_getElem_cons hj, List.take_append_drop]
  have e2 : ss.take (j + 1) = ss.take j ++ [ss[j]] := by
    rw [List.take_succ]; simp [hj]
  constructor
  · have := pth_app (ss.take j) (ss[j] :: ss.drop (j + 1))
    rw [← e1] at this; exact this
  · rw [e2, pth_app, List.length_append]
    show (pth (ss.take j)).length + ((47 :: ss[j]) ++ []).length = _
    rw [List.append_nil, List.length_cons]; omega
theorem y_baseSegs (h : RA m r nm ss q mk) (hW : WFA nm ss q mk) (hr : 0 ≤ r ∧ r < 66) (hS : STK m []) (h14 : m 14 0 = 0) : ev (N_Y_baseSegments r al m) (fun m' => FY [9, 10, 11, 12, 14] m m' ∧ STK m' (if al = 0 then ss.dropLast else ss) ∧ m' 14 0 = 0) := by
  obtain ⟨p1, p2, p3, p4⟩ := h.parts
  have hl := hW.len
  unfold N_Y_baseSegments
  rw [y_siteEnd h hW hr, y_queryAt h hW hr]
  simp only [Option.bind_some]
  rw [bind_id]
  obtain ⟨hn, ⟨hs1, hs2, hs3⟩, hq, hmk⟩ := hW
  generalize hse : 2 + (nm.length : Int) = se at *
  have hseb : 0 ≤ se ∧ se ≤ 10 := by omega
  unfold NL_Y_baseSegments_13
  refine ev_it (fun s : Int × YS => ∃ j : Nat, j ≤ ss.length ∧ s.1 = se + ((pth (ss.take j)).length : Int) ∧ FY [9, 10, 11, 12, 14] m s.2 ∧ s.2 14 0 = 0 ∧ STK s.2 (if al = 0 ∧ j = ss.length then ss.dropLast else ss.take j)) (fun s => se + ((pth ss).length : Int) - s.1) (fun s hs => ?_) ⟨0, Nat.zero_le _, by show se = se + ((0 : Nat) : Int); omega, FY.refl _ _, h14, ?_⟩
  · obtain ⟨a, m1⟩ := s
    obtain ⟨j, g1, g2, g3, g4, g5⟩ := hs
    simp only at g2 g3 g4 g5
    show ev (nb_Y_baseSegments_13 r al (se + ((pth ss).length : Int)) a m1) _
    unfold nb_Y_baseSegments_13
    by_cases hj : j < ss.length
    · obtain ⟨t1, t2⟩ := pth_take hj
      have hx := hs3 ss[j] (List.getElem_mem hj)
      have hlen : (pth ss).length = (pth (ss.take j)).length + (1 + ss[j].length + (pth (ss.drop (j + 1))).length) := by
        rw [t1, List.length_append, List.length_append, List.length_cons]; omega
      have f6 : m1 6 = m 6 := g3 6 (by decide)
      rw [t1] at p2
      have hmid := sg_mid p2
      rw [show 150 * r + se + ((pth (ss.take j)).length : Int) = 150 * r + a by omega] at hmid
      have hseg : sg (m 6) (r * 150 + a + 1) ss[j].length = ss[j] := by
        have : sg (m 6) (150 * r + a) ([47] ++ (ss[j] ++ [])).length = [47] ++ (ss[j] ++ []) := by rw [List.append_nil]; exact hmid
        have := sg_mid this
        rw [show 150 * r + a + ((([47] : List Int).length : Nat) : Int) = r * 150 + a + 1 by show 150 * r + a + ((1 : Nat) : Int) = _; omega] at this
        exact this
      have hnext : j + 1 < ss.length → m 6 (r * 150 + (a + 1 + (ss[j].length : Int))) = 47 := fun hj1 => by
        obtain ⟨w, hw⟩ := pth_hd (ss := ss.drop (j + 1)) (fun z => by have := congrArg List.length z; rw [List.length_drop] at this; have : ss.length - (j + 1) = 0 := this; omega)
        have p2' : sg (m 6) (150 * r + se) ((pth (ss.take j) ++ (47 :: ss[j])) ++ (pth (ss.drop (j + 1)) ++ [])).length = (pth (ss.take j) ++ (47 :: ss[j])) ++ (pth (ss.drop (j + 1)) ++ []) := by
          rw [List.append_nil, List.append_assoc]; exact p2
        have := sg_mid p2'
        rw [hw] at this
        have := sg_rd this (x := 0) (by rw [List.length_cons]; omega)
        rw [List.length_append, List.length_cons] at this
        rw [show 150 * r + se + ((((pth (ss.take j)).length + (ss[j].length + 1) : Nat)) : Int) + ((0 : Nat) : Int) = r * 150 + (a + 1 + (ss[j].length : Int)) by omega] at this
        exact this
      have hlast : ¬ j + 1 < ss.length → (pth (ss.drop (j + 1))).length = 0 := fun hj1 => by
        rw [List.drop_eq_nil_of_le (by omega)]; rfl
      have hnz : j + 1 < ss.length → 1 ≤ (pth (ss.drop (j + 1))).length := fun hj1 => by
        obtain ⟨w, hw⟩ := pth_hd (ss := ss.drop (j + 1)) (fun z => by have := congrArg List.length z; rw [List.length_drop] at this; have : ss.length - (j + 1) = 0 := this; omega)
        rw [hw, List.length_cons]; omega
      have hscan : NL_Y_baseSegments_24 r al a (se + ((pth ss).length : Int)) (a + 1) m1 = some (a + 1 + (ss[j].length : Int)) := by
        apply eq_of_ev
        unfold NL_Y_baseSegments_24
        refine ev_it (fun k : Int => a + 1 ≤ k ∧ k ≤ a + 1 + (ss[j].length : Int)) (fun k => a + 1 + (ss[j].length : Int) - k) (fun k hk => ?_) ⟨Int.le_refl _, by omega⟩
        show ev (nb_Y_baseSegments_24 r al a (se + ((pth ss).length : Int)) k m1) _
        unfold nb_Y_baseSegments_24
        rw [f6]
        refine ev_if (fun hlt => ev_ck (by omega) (ev_ck (by omega) (ev_ix (by omega) ?_))) (fun hge => ev_inr (show k = _ by omega))
        by_cases hz : k = a + 1 + (ss[j].length : Int)
        · by_cases hj1 : j + 1 < ss.length
          · rw [hz, hnext hj1, if_pos rfl]; exact ev_inr rfl
          · have := hlast hj1; omega
        · have hm := sg_at (g := m 6) ss[j].length (r * 150 + a + 1) (k - a - 1).toNat (by omega)
          rw [hseg, show r * 150 + a + 1 + (((k - a - 1).toNat : Nat) : Int) = r * 150 + k by omega] at hm
          have := hx.2.2 _ hm
          rw [if_neg (by omega)]
          exact ev_ck (by omega) (ev_inl ⟨⟨by omega, by omega⟩, by omega, by omega⟩)
      refine ev_if (fun hlt => ev_ck (by omega) ?_) (fun hge => by omega)
      rw [hscan]
      simp only [Option.bind_some]
      have htk : ss.take (j + 1) = ss.take j ++ [ss[j]] := by rw [List.take_succ]; simp [hj]
      rw [if_neg (fun z => by omega)] at g5
      have hfl : (ss.take j).flatten.length ≤ 78 := by
        have : ∀ l : List (List Int), l.flatten.length ≤ (pth l).length := by
          intro l
          induction l with
          | nil => exact Nat.le_refl _
          | cons x xs ih =>
            show (x ++ xs.flatten).length ≤ ((47 :: x) ++ pth xs).length
            rw [List.length_append, List.length_append, List.length_cons]; omega
        have h1 := this (ss.take j)
        omega
      have push : ev (nk_Y_baseSegments_66 r al a (se + ((pth ss).length : Int)) (a + 1 + (ss[j].length : Int)) m1) (fun o => ∃ m2, o = .inl (a + 1 + (ss[j].length : Int), m2) ∧ FY [9, 10, 11, 12, 14] m m2 ∧ m2 14 0 = 0 ∧ STK m2 (ss.take (j + 1))) := by
        unfold nk_Y_baseSegments_66
        refine ev_ck (by omega) (ev_ck (by omega) (ev_ck (by omega) (ev_ck (by omega) (ev_ck (by omega) ?_))))
        have hsegm := y_segment (f := 6) (i := r * 150 + a + 1) (L := a + 1 + (ss[j].length : Int) - a - 1) (by decide) g5 (by omega) ⟨by omega, by omega⟩ (by show _ ≤ (9900 : Int); omega) (by omega) (by rw [List.length_take]; omega) (by omega)
        rw [show (a + 1 + (ss[j].length : Int) - a - 1).toNat = ss[j].length by omega, f6, hseg] at hsegm
        refine ev_bind hsegm (fun m2 h2 => ev_ok ⟨m2, rfl, g3.trans h2.1, ?_, ?_⟩)
        · rw [h2.2.2, if_neg hx.2.1]
        · have := h2.2.1
          rw [psh_3 (fun z => hx.2.1 (.inl z)) (fun z => hx.2.1 (.inr z)), ← htk] at this
          exact this
      have after : ∀ m2, FY [9, 10, 11, 12, 14] m m2 → m2 14 0 = 0 → STK m2 (if al = 0 ∧ j + 1 = ss.length then ss.dropLast else ss.take (j + 1)) → ev (some (Sum.inl (a + 1 + (ss[j].length : Int), m2))) (lp (fun s : Int × YS => ∃ j : Nat, j ≤ ss.length ∧ s.1 = se + ((pth (ss.take j)).length : Int) ∧ FY [9, 10, 11, 12, 14] m s.2 ∧ s.2 14 0 = 0 ∧ STK s.2 (if al = 0 ∧ j = ss.length then ss.dropLast else ss.take j)) (fun s => se + ((pth ss).length : Int) - s.1) (a, m1) (fun m' => FY [9, 10, 11, 12, 14] m m' ∧ STK m' (if al = 0 then ss.dropLast else ss) ∧ m' 14 0 = 0)) := fun m2 q1 q2 q3 => ev_inl ⟨⟨j + 1, by omega, by show a + 1 + (ss[j].length : Int) = _; omega, q1, q2, q3⟩, by show se + ((pth ss).length : Int) - (a + 1 + (ss[j].length : Int)) < se + ((pth ss).length : Int) - a; omega, by show 0 ≤ se + ((pth ss).length : Int) - a; omega⟩
      have pushA : ¬ (al = 0 ∧ j + 1 = ss.length) → ev (nk_Y_baseSegments_66 r al a (se + ((pth ss).length : Int)) (a + 1 + (ss[j].length : Int)) m1) (lp (fun s : Int × YS => ∃ j : Nat, j ≤ ss.length ∧ s.1 = se + ((pth (ss.take j)).length : Int) ∧ FY [9, 10, 11, 12, 14] m s.2 ∧ s.2 14 0 = 0 ∧ STK s.2 (if al = 0 ∧ j = ss.length then ss.dropLast else ss.take j)) (fun s => se + ((pth ss).length : Int) - s.1) (a, m1) (fun m' => FY [9, 10, 11, 12, 14] m m' ∧ STK m' (if al = 0 then ss.dropLast else ss) ∧ m' 14 0 = 0)) := fun hno => by
        obtain ⟨o, ho, m2, q0, q1, q2, q3⟩ := push
        subst q0
        obtain ⟨o', ho', hl'⟩ := after m2 q1 q2 (by rw [if_neg hno]; exact q3)
        cases ho'
        exact ⟨_, ho, hl'⟩
      unfold nk_Y_baseSegments_55
      refine ev_if (fun h0 => ev_if (fun hlt2 => pushA (fun z => ?_)) (fun hge => ?_)) (fun h0 => pushA (fun z => h0 z.1))
      · have := hlast (by omega); omega
      · have hjl : ¬ j + 1 < ss.length := fun z => by have := hnz z; omega
        refine after m1 g3 g4 ?_
        rw [if_pos ⟨h0, by omega⟩, List.dropLast_eq_take, show ss.length - 1 = j by omega]; exact g5
    · have hjl : j = ss.length := by omega
      subst hjl
      rw [List.take_length] at g2 g5
      refine ev_if (fun hlt => by omega) (fun _ => ev_inr ⟨g3, ?_, g4⟩)
      by_cases h0 : al = 0
      · rw [if_pos ⟨h0, rfl⟩] at g5; rw [if_pos h0]; exact g5
      · rw [if_neg (fun z => h0 z.1)] at g5; rw [if_neg h0]; exact g5
  · rw [if_neg (fun z => hs1 (List.length_eq_zero_iff.mp z.2.symm))]; exact hS
end F1
