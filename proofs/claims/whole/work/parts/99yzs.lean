/-! THE START: all that holds between calls; the constructors run -/
section YZS
variable {g : g_S} {f1 f2 f5 f6 : Nat → Int} {n n5 : NS} {m m5 : YS} {z : Int} {K q k f : Nat} {i s b v : Int}
theorem st_inv (h : ST0 g f1 f2 f5 f6 n5 z n) (hm : MT0 m m5) : INV 1 n m := by
  obtain ⟨e1, e2, e3, e4, e5⟩ := h.t10
  obtain ⟨o1, o2, o3, o4, o5⟩ := hm.ot
  have zz : ∀ f, f ∈ [1, 5, 25, 126, 185] → m f 0 = 0 := fun f hf => by
    simp only [List.mem_cons, List.not_mem_nil, or_false] at hf
    exact hm.ze (by simp only [List.mem_cons, List.not_mem_nil, or_false, not_or]; omega)
  have z1 := zz 1 (by decide)
  have z5 := zz 5 (by decide)
  have z25 := zz 25 (by decide)
  have z126 := zz 126 (by decide)
  have z185 := zz 185 (by decide)
  have v5 : ∀ s : Int, 0 ≤ s → n 5 0 s = Vn 5 0 s.toNat := fun s hs => h.va (q := 1661) (K := 5) (i := 0) (by decide) (by decide) (by decide) (by decide) hs
  have v9 : ∀ s : Int, 0 ≤ s → n 9 0 s = Vn 9 0 s.toNat := fun s hs => h.va (q := 1650) (K := 9) (i := 0) (by decide) (by decide) (by decide) (by decide) hs
  have a3 : n 5 0 3 = 48 := v5 3 (by decide)
  have a4 : n 5 0 4 = -1 := v5 4 (by decide)
  have a5 : n 5 0 5 = 1663 := v5 5 (by decide)
  have a6 : n 5 0 6 = 0 := v5 6 (by decide)
  have a9 : n 5 0 9 = 1667 := v5 9 (by decide)
  have b11 : n 9 0 11 = pk wId := v9 11 (by decide)
  have b12 : n 9 0 12 = pk wClass := v9 12 (by decide)
  have b14 : n 9 0 14 = -1 := v9 14 (by decide)
  have c9 : n 11 0 9 = 0 := h.va (q := 0) (K := 11) (i := 0) (by decide) (by decide) (by decide) (by decide) (s := 9) (by decide)
  have t63 := h.ty (q := 1663) (by decide)
  have t67 := h.ty (q := 1667) (by decide)
  have e63 : n 93 0 1663 = 384 := t63.2.trans (by decide)
  have e67 : n 93 0 1667 = 64 := t67.2.trans (by decide)
  have u63 : n 92 0 1663 = 0 := t63.1.trans (by decide)
  have u67 : n 92 0 1667 = 0 := t67.1.trans (by decide)
  have w605 := h.by' (b := 605) (by decide)
  have w606 := h.by' (b := 606) (by decide)
  refine ⟨As0, Bs0, 7000000, 4000000, 1, st_acts h hm, ⟨by omega, by omega, by omega⟩, ⟨⟨?_, ?_, by omega, by omega⟩, ⟨?_, ?_, by omega, by omega, fun j x y => by omega⟩, by omega, by omega, by omega, fun j x y => by omega⟩, ⟨⟨b11, b12⟩, ⟨fun w => by omega, fun w => by omega, fun w => absurd z126 w, ⟨⟨⟨?_, ?_⟩, fun a x y => ?_⟩, by omega, by omega⟩, by omega, by omega, by omega⟩, fun v x y => ?_⟩, by omega, by omega⟩
  · rw [h.bt0 (by decide)]
    unfold ys
    rw [z1]; rfl
  · rw [w605.2.2, z1]; rfl
  · rw [h.bt0 (by decide)]
    unfold ys
    rw [z5]; rfl
  · rw [w606.2.2, z5]; rfl
  · unfold WLc
    rw [a5, a9, a6, u63, u67, e63, e67]; decide
  · rw [a5, e63]; decide
  · obtain ⟨b1, b2, b3⟩ := bx_st (i := a) (by omega)
    have : n 3 a 18 = 0 := h.va b3 (by decide) b1 (fun hx => by
      have : ∀ x ∈ EXC, (lc x).1 ≠ 3 := by decide
      exact this _ hx (by rw [b3])) (s := 18) (by decide)
    omega
  · left
    have k7 : n 7 = newC n5 0 (-1) 0 (nOf g 21 0 0) 7 := by rw [h.2.2.1, nY_K (by decide)]
    rw [k7]
    by_cases v0 : v = 0
    · rw [v0]
      unfold newC newC0
      rw [if_pos rfl, nw_nK (by decide), nw_nK (by decide), nw_ns (by decide), nw_nK (by decide), nw_eq]
    · have hst : lc (aNd v) = (7, v) := lc_nd0 (i := v) (by omega) 0 (by decide)
      have hlt : aNd v < 1838 := by unfold aNd; split <;> omega
      unfold newC newC0
      rw [if_pos rfl, nw_nK (by decide), nw_nK (by decide), nw_ns (by decide), nw_nK (by decide), nw_ni v0, nw_ni v0, nw_nK (by decide), nw_ni v0, nw_ni v0, nw_ni v0, nw_ni v0, nw_ni v0, nw_ni v0, nw_ni v0, nw_ni v0, nw_ni v0, h.2.1.2.1 v 16 (by decide), h.nv hst (by decide) hlt (fun hx => by
        have : ∀ x ∈ EXC, (lc x).1 ≠ 7 := by decide
        exact this _ hx (by rw [hst])) (by decide)]
      rfl
theorem hp00 : hp g00 = [] := rfl
theorem bd00 : BD Vt (gnew g00 111 0) 1 ((0, blk 111) :: []) := by
  have h : BD Vt g00 0 [] := by
    have t99 : ∀ q, gt g00 q = 99 := fun q => rfl
    refine ⟨⟨rfl, by decide, fun q hq => absurd hq (Nat.not_lt_zero q), fun q k hq => ?_, fun q k hq => ?_, fun q k q' _ _ hr => ?_⟩, fun q hq => absurd hq (Nat.not_lt_zero q), fun x hx => by cases hx⟩
    · rw [t99] at hq; exact absurd hq (by decide)
    · rw [t99] at hq
      have hq : (0 : Nat) = 1 := hq
      cases hq
    · have hr : (none : Option Nat) = some q' := hr
      cases hr
  exact h.new (by decide) (by decide) (by decide)
theorem gz_st : ((List.range 1838).map (fun q => cz1 (sty q) (sln q))).sum ≤ 100000 := by decide +kernel
/-- the class's constructor -/
theorem st_class : ∃ g2 g1 f1 f2 f5 f6 n5, M_H_init 0 (gnew g00 111 0) = some g2 ∧ (BD Vt g1 1838 ((1582, f1) :: (1583, f2) :: (1589, hmB) :: (1590, hmT) :: (1591, f5) :: (1592, f6) :: []) ∧ AdC f1 f2 1583 ∧ AdC f5 f6 1592) ∧ ((∀ K, K ≠ 7 → K ≠ 10 → n5 K = nOf g1 K) ∧ (∀ u s, s ≠ 0 → n5 7 u s = nOf g1 7 u s) ∧ (∀ v, 0 ≤ v → v < 120 → n5 7 v 0 = -1) ∧ (∀ s, s ≠ 5 → n5 10 0 s = nOf g1 10 0 s) ∧ n5 10 0 5 = 0) ∧ RC True False g2 (newC n5 0 (-1) 0 (nOf g1 21 0 0)) (fun _ _ => 0) ∧ gn g2 = 1838 ∧ gz g2 ≤ 100000 := by
  have key : ev (M_H_init 0 (gnew g00 111 0)) (fun g2 => ∃ g1 f1 f2 f5 f6 n5, (BD Vt g1 1838 ((1582, f1) :: (1583, f2) :: (1589, hmB) :: (1590, hmT) :: (1591, f5) :: (1592, f6) :: []) ∧ AdC f1 f2 1583 ∧ AdC f5 f6 1592) ∧ ((∀ K, K ≠ 7 → K ≠ 10 → n5 K = nOf g1 K) ∧ (∀ u s, s ≠ 0 → n5 7 u s = nOf g1 7 u s) ∧ (∀ v, 0 ≤ v → v < 120 → n5 7 v 0 = -1) ∧ (∀ s, s ≠ 5 → n5 10 0 s = nOf g1 10 0 s) ∧ n5 10 0 5 = 0) ∧ RC True False g2 (newC n5 0 (-1) 0 (nOf g1 21 0 0)) (fun _ _ => 0) ∧ gn g2 = 1838 ∧ gz g2 ≤ 100000) := by
    refine e_house bd00 (fun g1 f1 f2 f5 f6 hA hB h => ?_)
    have hR : RC True False g1 (nOf g1) (fun _ _ => 0) := rc_sh h (fun x hx => exq hx)
    have v10 : ∀ s : Int, 0 ≤ s → nOf g1 10 0 s = Vn 10 0 s.toNat := fun s hs => by
      have e := nOf_lc (g := g1) (q := 5) (k := s.toNat)
      rw [show lc 5 = (10, 0) by decide, show ((s.toNat : Nat) : Int) = s by omega] at e
      rw [show nOf g1 10 0 s = vl g1 5 s.toNat from e, h.2.1 5 (by decide) (nnin rfl), Vt_of (show lc 5 = (10, 0) by decide) (by decide)]
    have e6 : nOf g1 10 0 6 = 0 := v10 6 (by decide)
    have e7 : nOf g1 10 0 7 = 0 := v10 7 (by decide)
    obtain ⟨n1, hn1, n5, c1, c2, c3, c4, c5, c6⟩ := c_empty (n := nOf g1) (by omega)
    obtain ⟨g2, hg2, hR2⟩ := f_Tree_clear trivial hR n1 hn1
    rw [c6] at hR2
    have x90 : newC n5 0 (-1) 0 (nOf g1 21 0 0) 90 0 0 = 1838 := by
      rw [newC_K (by decide), c1 90 (by decide) (by decide)]
      show (gn g1 : Int) = _
      rw [h.1.1]; rfl
    have x91 : newC n5 0 (-1) 0 (nOf g1 21 0 0) 91 0 0 = (gz g1 : Int) := by
      rw [newC_K (by decide), c1 91 (by decide) (by decide)]; rfl
    have hz : gz g1 ≤ 100000 := by
      have e : gz g1 = ((List.range 1838).map (fun q => cz1 (sty q) (sln q))).sum := by
        unfold gz
        rw [h.1.1]
        refine congrArg List.sum (List.map_congr_left (fun q hq => ?_))
        have hq := List.mem_range.mp hq
        have t := h.ty hq
        have tt : g1.2.1 q = sty q := by
          have t1 := t.1
          unfold gt at t1
          rw [show Nat.blt q g1.1 = true from Nat.ble_eq_true_of_le (by have : g1.1 = 1838 := h.1.1; omega)] at t1
          exact t1
        rw [tt, t.2]
      rw [e]; exact gz_st
    refine ⟨g2, hg2, g1, f1, f2, f5, f6, n5, ⟨h, hA, hB⟩, ⟨c1, c2, c3, c4, c5⟩, hR2, ?_, ?_⟩
    · have := hR2.1.1; omega
    · have := hR2.1.2; omega
  obtain ⟨g2, hg, g1, f1, f2, f5, f6, n5, rest⟩ := key
  exact ⟨g2, g1, f1, f2, f5, f6, n5, hg, rest⟩
/-- both constructors -/
theorem st_both : ∃ g2 g4 n m, M_H_init 0 (gnew g00 111 0) = some g2 ∧ gn g2 = 1838 ∧ M_Y_init 1838 (gnew g2 112 0) = some g4 ∧ RC True True g4 n m ∧ INV 1 n m := by
  obtain ⟨g2, g1, f1, f2, f5, f6, n5, hg, hB, hn5, hR, h90, hz⟩ := st_class
  have hY : YB g2 (fun _ => 0) R0' (gnew g2 112 0) 1839 186 := by
    have tn : ∀ q, gt (gnew g2 112 0) q = if q = 1838 then 112 else gt g2 q := fun q => by rw [gt_new, h90]
    refine ⟨⟨by show gn g2 + 1 = 1839; rw [h90], by decide, by decide, by rw [tn]; rfl, fun k => by rw [gi_new, h90, if_pos rfl], by rw [gz_new]; rfl⟩, fun q hq => ?_, fun k hk h9 hA => ?_⟩
    · have hne : q ≠ 1838 := by omega
      refine ⟨by rw [tn, if_neg hne], by rw [gl_new, h90, if_neg hne], fun k => by rw [gi_new, h90, if_neg hne], fun k => by rw [gj_new, h90, if_neg hne], fun k => by rw [gr_nw, h90, if_neg hne]⟩
    · have := (yA_lo k hk h9).1; omega
  have key : ev (M_Y_init 1838 (gnew g2 112 0)) (fun g4 => ∃ n m, RC True True g4 n m ∧ INV 1 n m) := by
    refine e_yinit hY (fun g5 hY5 => ?_)
    have zf : ∀ k, (yFi k).toInt = 0 ∨ k = 106 ∨ k = 150 := fun k => by
      unfold yFi upf
      by_cases w : k = 150
      · exact .inr (.inr w)
      · rw [if_neg w]
        by_cases w' : k = 106
        · exact .inr (.inl w')
        · rw [if_neg w']; exact .inl rfl
    have zr : ∀ k i, (yR k i).toInt = 0 ∨ k = 7 ∨ k = 6 := fun k i => by
      by_cases w : k = 7
      · exact .inr (.inl w)
      · by_cases w' : k = 6
        · exact .inr (.inr w')
        · left
          unfold yR upR
          rw [if_neg (fun y => w' y.1), if_neg (fun y => w' y.1), if_neg (fun y => w' y.1), if_neg (fun y => w' y.1), if_neg (fun y => w' y.1), if_neg (fun y => w' y.1), if_neg (fun y => w' y.1), if_neg (fun y => w y.1)]; rfl
    have b6 : ∀ i, inB (yR 6 i).toInt := fun i => by
      unfold yR upR
      (repeat' split) <;> first | decide | (show inB (0 : Int32).toInt; decide)
    have hRC := hY5.rc hR h90 (fun k hk => by
      rcases zf k with w | w | w
      · rw [w]; exact .inl rfl
      · rw [w] at hk; exact absurd hk (by decide)
      · rw [w] at hk; exact absurd hk (by decide)) (fun k i hk => by
      rcases zr k i with w | w | w
      · rw [w]; decide
      · rw [w] at hk; exact absurd hk (by decide)
      · rw [w]; exact b6 i) (fun k i hk => by
      rcases zr k i with w | w | w
      · rw [w]; exact .inl rfl
      · rw [w] at hk; exact absurd hk (by decide)
      · rw [w] at hk; exact absurd hk (by decide))
    have evc : ∀ {α : Type} {x : Option α} {g : g_S} {n : NS} {m : YS}, RC True True g n m → vc g 112 1838 x = x := fun {α x g n m} h => by
      unfold vc
      rw [if_pos (y_gt h trivial)]
    obtain ⟨m1, hm1, hc1⟩ := y_copyRow (m := mOf yFi yR) (to := 1) (fr := 5) (by decide) (by decide) (by decide)
    obtain ⟨g6, hg6, hR6⟩ := f_Y_copyRow (xv1 := 1) (v1 := 1) trivial rfl (by decide) (xv2 := 5) (v2 := 5) rfl (by decide) hRC m1 hm1
    obtain ⟨m2, hm2, hc2⟩ := y_copyRow (m := m1) (to := 26) (fr := 5) (by decide) (by decide) (by decide)
    obtain ⟨g7, hg7, hR7⟩ := f_Y_copyRow (xv1 := 26) (v1 := 26) trivial rfl (by decide) (xv2 := 5) (v2 := 5) rfl (by decide) hR6 m2 hm2
    have hR8 := hR7.yS (k := 148) (a := 1) trivial (by decide) (by decide) (by decide) (fun w => absurd w (by decide))
    have hR9 := hR8.yS (k := 149) (a := 0) trivial (by decide) (by decide) (by decide) (fun w => absurd w (by decide))
    have h69 : yw (yw m2 148 0 1) 149 0 0 69 0 = 0 := by
      rw [yw_nF (by decide), yw_nF (by decide), hc2.1 69 (by decide), hc1.1 69 (by decide)]
      exact mOf_z (by decide)
    obtain ⟨m9, hm9, m5, d1, d2, d3, d4⟩ := y_empty (m := yw (yw m2 148 0 1) 149 0 0) (by omega)
    obtain ⟨g9, hg9, hR10⟩ := f_Y_emptyTree trivial hR9 m9 hm9
    rw [evc hRC, hg6]
    simp only [Option.bind_some]
    rw [evc hR6, hg7]
    simp only [Option.bind_some]
    have w1 : wI g7 112 1838 148 1 = some (gwI g7 1838 148 (Int32.ofInt 1)) := by unfold wI; rw [if_pos (y_gt hR7 trivial)]; rfl
    rw [w1]
    simp only [Option.bind_some]
    have w2 : wI (gwI g7 1838 148 (Int32.ofInt 1)) 112 1838 149 0 = some (gwI (gwI g7 1838 148 (Int32.ofInt 1)) 1838 149 (Int32.ofInt 0)) := by unfold wI; rw [if_pos (y_gt hR8 trivial)]; rfl
    rw [w2]
    simp only [Option.bind_some]
    rw [evc hR9, hg9]
    refine ev_ok ⟨_, m9, hR10, st_inv (n5 := n5) (z := (gz g5 : Int)) ⟨hB, hn5, rfl, ?_⟩ (m5 := m5) ⟨⟨m1, m2, hc1, hc2, d1⟩, d2, d3, d4⟩⟩
    have := hY5.1.2.2.2.2.2
    omega
  obtain ⟨g4, hg4, n, m, hr, hi⟩ := key
  exact ⟨g2, g4, n, m, hg, h90, hg4, hr, hi⟩
end YZS
