/-! THE CASCADE of one ELEMENT, in both -/
noncomputable def fsV (m : YS) (v p : Int) : Int := (N_Y_first v p m).getD 0
/-- the looks of an ELEMENT -/
def LKv (n : NS) (m : YS) (v : Int) : Prop := ∀ p, 0 ≤ p → p < 11 → n 41 0 (11 * v + p) = m 105 (11 * v + p) ∧ (-1 ≤ m 105 (11 * v + p) ∧ m 105 (11 * v + p) ≤ 1100) ∧ (p ≠ 2 → p ≠ 6 → p ≠ 7 → 0 ≤ m 105 (11 * v + p)) ∧ okL p (m 105 (11 * v + p))
/-- its parent's are there -/
def PLk (n : NS) (m : YS) (v : Int) : Prop := n 7 v 2 = m 49 v ∧ ((v = 0 ∧ m 49 v = -1) ∨ (v ≠ 0 ∧ (0 ≤ m 49 v ∧ m 49 v < 120) ∧ m 49 v ≠ v ∧ LKv n m (m 49 v)))
section U2
variable {n n' : NS} {m m' : YS} {A B N k v s p : Int} {o e q : Int → Int} {mt : Int → Prop}
theorem usual_both (hv : 0 ≤ v ∧ v < 120) (hp : 0 ≤ p ∧ p < 11) (ht : n 7 v 0 = m 46 v) (hP : PLk n m v) : ∃ x, N_Sheet_usual v p n = some x ∧ N_Y_first v p m = some x ∧ (-1 ≤ x ∧ x ≤ 1100) ∧ (p ≠ 2 → p ≠ 6 → p ≠ 7 → 0 ≤ x) ∧ okL p x := by
  obtain ⟨h2, hP⟩ := hP
  unfold N_Sheet_usual N_Y_first N_Y_isBlockTag N_Y_of
  have hixv : ∀ {α : Type} (x : Option α), ix v 120 x = x := fun x => ix_e x hv
  simp only [hixv]
  rw [ht, h2]
  have inh : ∀ (r x0 : Int), 0 ≤ r → r < 11 → r ≠ 2 → r ≠ 6 → r ≠ 7 → (0 ≤ x0 ∧ x0 ≤ 100) → okL r x0 → ∃ x, (if m 49 v = -1 then some x0 else ck (m 49 v * 11) <| ck ((m 49 v * 11) + r) <| ix ((m 49 v * 11) + r) 1320 <| some (n 41 0 ((m 49 v * 11) + r))) = some x ∧ (if v = 0 then some x0 else (ck (11 * m 49 v) <| ck ((11 * m 49 v) + r) <| ix ((11 * m 49 v) + r) 1320 <| some (m 105 ((11 * m 49 v) + r))).bind fun z => some z) = some x ∧ (-1 ≤ x ∧ x ≤ 1100) ∧ 0 ≤ x ∧ okL r x := fun r x0 r0 r1 r2 r6 r7 hx hl => by
    rcases hP with ⟨y1, y2⟩ | ⟨y1, y2, y3, y4⟩
    · rw [if_pos y2, if_pos y1]
      exact ⟨x0, rfl, rfl, by omega, hx.1, hl⟩
    · have := y4 r r0 r1
      rw [if_neg (by omega), if_neg y1, ck_e _ (by omega), ck_e _ (by omega), ix_e _ (by omega), ck_e _ (by omega), ck_e _ (by omega), ix_e _ (by omega), show m 49 v * 11 + r = 11 * m 49 v + r by omega]
      exact ⟨m 105 (11 * m 49 v + r), by rw [this.1], rfl, this.2.1, this.2.2.1 r2 r6 r7, this.2.2.2⟩
  rcases (show p = 0 ∨ p = 1 ∨ p = 2 ∨ p = 3 ∨ p = 4 ∨ p = 5 ∨ p = 6 ∨ p = 7 ∨ p = 8 ∨ p = 9 ∨ p = 10 by omega) with z | z | z | z | z | z | z | z | z | z | z <;> subst z
  · rw [if_pos rfl, if_pos rfl]
    by_cases c1 : m 46 v = 15
    · rw [if_pos c1, if_pos c1]; exact ⟨2, rfl, rfl, by decide, fun _ _ _ => by decide, by unfold okL; decide⟩
    · rw [if_neg c1, if_neg c1]
      by_cases c2 : 5 < m 46 v
      · rw [if_pos c2, if_pos c2]
        by_cases c3 : m 46 v = 11
        · rw [if_pos c3, if_pos c3]; exact ⟨0, rfl, rfl, by decide, fun _ _ _ => by decide, by unfold okL; decide⟩
        · rw [if_neg c3, if_neg c3]; exact ⟨1, rfl, rfl, by decide, fun _ _ _ => by decide, by unfold okL; decide⟩
      · rw [if_neg c2, if_neg c2]; exact ⟨0, rfl, rfl, by decide, fun _ _ _ => by decide, by unfold okL; decide⟩
  · obtain ⟨x, a1, a2, a3, a4, a5⟩ := inh 1 63 (by decide) (by decide) (by decide) (by decide) (by decide) (by decide) (by unfold okL; decide)
    exact ⟨x, a1, a2, a3, fun _ _ _ => a4, a5⟩
  · exact ⟨-1, rfl, rfl, by decide, fun y => absurd rfl y, by unfold okL; decide⟩
  · show ∃ x, (if m 46 v = 1 then some 2 else if m 46 v = 2 then some 2 else if m 46 v = 3 then some 2 else some 0) = some x ∧ (if m 46 v = 1 then some 2 else if m 46 v = 2 then some 2 else if m 46 v = 3 then some 2 else some 0) = some x ∧ _
    split
    · exact ⟨2, rfl, rfl, by decide, fun _ _ _ => by decide, by unfold okL; decide⟩
    · split
      · exact ⟨2, rfl, rfl, by decide, fun _ _ _ => by decide, by unfold okL; decide⟩
      · split
        · exact ⟨2, rfl, rfl, by decide, fun _ _ _ => by decide, by unfold okL; decide⟩
        · exact ⟨0, rfl, rfl, by decide, fun _ _ _ => by decide, by unfold okL; decide⟩
  · show ∃ x, (if m 46 v = 3 then some 4 else if m 46 v = 14 then some 1 else some 0) = some x ∧ (if m 46 v = 3 then some 4 else if m 46 v = 14 then some 1 else some 0) = some x ∧ _
    split
    · exact ⟨4, rfl, rfl, by decide, fun _ _ _ => by decide, by unfold okL; decide⟩
    · split
      · exact ⟨1, rfl, rfl, by decide, fun _ _ _ => by decide, by unfold okL; decide⟩
      · exact ⟨0, rfl, rfl, by decide, fun _ _ _ => by decide, by unfold okL; decide⟩
  · show ∃ x, (if m 46 v = 14 then some 1 else if m 46 v = 13 then some 1 else if m 46 v = 11 then some 1 else some 0) = some x ∧ (if m 46 v = 14 then some 1 else if m 46 v = 13 then some 1 else if m 46 v = 11 then some 1 else some 0) = some x ∧ _
    split
    · exact ⟨1, rfl, rfl, by decide, fun _ _ _ => by decide, by unfold okL; decide⟩
    · split
      · exact ⟨1, rfl, rfl, by decide, fun _ _ _ => by decide, by unfold okL; decide⟩
      · split
        · exact ⟨1, rfl, rfl, by decide, fun _ _ _ => by decide, by unfold okL; decide⟩
        · exact ⟨0, rfl, rfl, by decide, fun _ _ _ => by decide, by unfold okL; decide⟩
  · exact ⟨-1, rfl, rfl, by decide, fun _ y => absurd rfl y, by unfold okL; decide⟩
  · exact ⟨-1, rfl, rfl, by decide, fun _ _ y => absurd rfl y, by unfold okL; decide⟩
  · obtain ⟨x, a1, a2, a3, a4, a5⟩ := inh 8 1 (by decide) (by decide) (by decide) (by decide) (by decide) (by decide) (by unfold okL; decide)
    by_cases c : m 46 v = 2
    · exact ⟨2, by show (if m 46 v = 2 then some 2 else _) = some 2; rw [if_pos c], by show (if m 46 v = 2 then some 2 else _) = some 2; rw [if_pos c], by decide, fun _ _ _ => by decide, by unfold okL; decide⟩
    · exact ⟨x, by show (if m 46 v = 2 then some 2 else _) = some x; rw [if_neg c]; exact a1, by show (if m 46 v = 2 then some 2 else _) = some x; rw [if_neg c]; exact a2, a3, fun _ _ _ => a4, a5⟩
  · obtain ⟨x, a1, a2, a3, a4, a5⟩ := inh 9 0 (by decide) (by decide) (by decide) (by decide) (by decide) (by decide) (by unfold okL; decide)
    exact ⟨x, a1, a2, a3, fun _ _ _ => a4, a5⟩
  · exact ⟨0, rfl, rfl, by decide, fun _ _ _ => by decide, by unfold okL; decide⟩
theorem LKv.cn {u : Int} (h : LKv n m u) (hu : u ≠ v) (h41 : ∀ j, ¬ (11 * v ≤ j ∧ j < 11 * v + 11) → n' 41 0 j = n 41 0 j) : LKv n' m u := fun p p0 p1 => by
  rw [h41 _ (by omega)]; exact h p p0 p1
theorem LKv.cm {u : Int} (h : LKv n m u) (hu : u ≠ v) (h105 : ∀ j, ¬ (11 * v ≤ j ∧ j < 11 * v + 11) → m' 105 j = m 105 j) : LKv n m' u := fun p p0 p1 => by
  rw [h105 _ (by omega)]; exact h p p0 p1
theorem PLk.cn (h : PLk n m v) (h7 : n' 7 = n 7) (h41 : ∀ j, ¬ (11 * v ≤ j ∧ j < 11 * v + 11) → n' 41 0 j = n 41 0 j) : PLk n' m v := by
  refine ⟨by rw [h7]; exact h.1, ?_⟩
  rcases h.2 with y | ⟨y1, y2, y3, y4⟩
  · exact .inl y
  · exact .inr ⟨y1, y2, y3, y4.cn y3 h41⟩
theorem PLk.cm (h : PLk n m v) (h49 : m' 49 = m 49) (h105 : ∀ j, ¬ (11 * v ≤ j ∧ j < 11 * v + 11) → m' 105 j = m 105 j) : PLk n m' v := by
  unfold PLk
  rw [h49]
  refine ⟨h.1, ?_⟩
  rcases h.2 with y | ⟨y1, y2, y3, y4⟩
  · exact .inl y
  · exact .inr ⟨y1, y2, y3, y4.cm y3 h105⟩
theorem fsV_eq {x : Int} (h : N_Y_first v p m = some x) : fsV m v p = x := by unfold fsV; rw [h]; rfl
/-- at first all is usual -/
theorem c_usual (hv : 0 ≤ v ∧ v < 120) (ht : n 7 v 0 = m 46 v) (hP : PLk n m v) : ev (NL_Sheet_cascade_18 v v (v * 11) 0 n) (fun n' => (∀ K, K ≠ 40 → K ≠ 41 → n' K = n K) ∧ (∀ j, ¬ (11 * v ≤ j ∧ j < 11 * v + 11) → n' 41 0 j = n 41 0 j) ∧ ∀ p, 0 ≤ p → p < 11 → n' 41 0 (11 * v + p) = fsV m v p ∧ n' 40 0 p = -1) := by
  unfold NL_Sheet_cascade_18
  refine ev_it (fun t : Int × NS => (0 ≤ t.1 ∧ t.1 ≤ 11) ∧ (∀ K, K ≠ 40 → K ≠ 41 → t.2 K = n K) ∧ (∀ j, ¬ (11 * v ≤ j ∧ j < 11 * v + 11) → t.2 41 0 j = n 41 0 j) ∧ ∀ p, 0 ≤ p → p < t.1 → t.2 41 0 (11 * v + p) = fsV m v p ∧ t.2 40 0 p = -1) (fun t => 11 - t.1) (fun t ht' => ?_) ⟨by show (0 : Int) ≤ 0 ∧ (0 : Int) ≤ 11; omega, fun _ _ _ => rfl, fun _ _ => rfl, fun p x y => by have y : p < 0 := y; omega⟩
  obtain ⟨r, n1⟩ := t
  obtain ⟨g1, g2, g3, g4⟩ := ht'
  simp only at g1 g2 g3 g4
  show ev (nb_Sheet_cascade_18 v v (v * 11) r n1) _
  unfold nb_Sheet_cascade_18
  refine ev_if (fun hlt => ?_) (fun hge => ev_inr ⟨g2, g3, fun p x y => g4 p x (by omega)⟩)
  have h7 : n1 7 = n 7 := g2 7 (by decide) (by decide)
  obtain ⟨x, a1, a2, _⟩ := usual_both (n := n1) (m := m) hv ⟨g1.1, hlt⟩ (by rw [h7]; exact ht) (hP.cn h7 g3)
  rw [a1]
  simp only [Option.bind_some]
  refine ev_ck (by omega) (ev_ix (by omega) (ev_st (ev_ix (by omega) (ev_st (ev_ck (by omega) (ev_inl ⟨⟨by show 0 ≤ r + 1 ∧ r + 1 ≤ 11; omega, fun K y z => ?_, fun j hj => ?_, fun p y z => ?_⟩, by show 11 - (r + 1) < 11 - r; omega, by show 0 ≤ 11 - r; omega⟩))))))
  · show nw (nw n1 41 0 (v * 11 + r) x) 40 0 r (-1) K = n K
    rw [nw_nK y, nw_nK z]; exact g2 K y z
  · show nw (nw n1 41 0 (v * 11 + r) x) 40 0 r (-1) 41 0 j = n 41 0 j
    rw [nw_nK (by decide), nw_ns (by omega)]; exact g3 j hj
  · have z : p < r + 1 := z
    show nw (nw n1 41 0 (v * 11 + r) x) 40 0 r (-1) 41 0 (11 * v + p) = _ ∧ nw (nw n1 41 0 (v * 11 + r) x) 40 0 r (-1) 40 0 p = _
    rw [nw_nK (show (41 : Nat) ≠ 40 by decide)]
    by_cases u : p = r
    · rw [u, show 11 * v + r = v * 11 + r by omega, nw_eq, nw_eq, fsV_eq a2]; exact ⟨rfl, rfl⟩
    · rw [nw_ns (by omega), nw_ns u, nw_nK (show (40 : Nat) ≠ 41 by decide)]
      exact g4 p y (by omega)
/-- all SELECTORS -/
theorem c_slots (hB : BI A B n) (hT : JT n m N o e q) (hH : SHc n) (hS : SHT n m) (hk : 0 ≤ k ∧ k < N) (hmt : ∀ s, 0 ≤ s → s < m 89 0 → ∀ r, N_Y_matches (o k) s m = some r → (r ≠ 0 ↔ mt s)) (hI : ∀ p, 0 ≤ p → p < 11 → n 41 0 (11 * o k + p) = fsV m (o k) p ∧ n 40 0 p = -1) : ev (NL_Sheet_cascade_58 (o k) (o k) (o k * 11) 0 n) (fun n' => (∀ K, K ≠ 40 → K ≠ 41 → n' K = n K) ∧ (∀ j, ¬ (11 * o k ≤ j ∧ j < 11 * o k + 11) → n' 41 0 j = n 41 0 j) ∧ ∀ p, 0 ≤ p → p < 11 → CST n' m (o k) (fsV m (o k) p) (bst mt (m 97) (m 99) p (m 89 0).toNat) p) := by
  have hv := hT.1.1.oB hk.1 hk.2
  obtain ⟨s1, s2, s3⟩ := hS
  unfold NL_Sheet_cascade_58
  refine ev_it (fun t : Int × NS => (0 ≤ t.1 ∧ t.1 ≤ m 89 0) ∧ (∀ K, K ≠ 40 → K ≠ 41 → t.2 K = n K) ∧ (∀ j, ¬ (11 * o k ≤ j ∧ j < 11 * o k + 11) → t.2 41 0 j = n 41 0 j) ∧ ∀ p, 0 ≤ p → p < 11 → CST t.2 m (o k) (fsV m (o k) p) (bst mt (m 97) (m 99) p t.1.toNat) p) (fun t => m 89 0 - t.1) (fun t ht' => ?_) ⟨by show (0 : Int) ≤ 0 ∧ (0 : Int) ≤ m 89 0; omega, fun _ _ _ => rfl, fun _ _ => rfl, fun p x y => .inl ⟨rfl, (hI p x y).2, (hI p x y).1⟩⟩
  obtain ⟨s, n1⟩ := t
  obtain ⟨g1, g2, g3, g4⟩ := ht'
  simp only at g1 g2 g3 g4
  show ev (nb_Sheet_cascade_58 (o k) (o k) (o k * 11) s n1) _
  unfold nb_Sheet_cascade_58
  have e9 : n1 9 = n 9 := g2 9 (by decide) (by decide)
  rw [e9, s1]
  refine ev_if (fun hlt => ?_) (fun hge => ev_inr ⟨g2, g3, fun p x y => by have := g4 p x y; rw [show s = m 89 0 by omega] at this; exact this⟩)
  have hB1 : BI A B n1 := hB.cg (g2 4 (by decide) (by decide)) (by rw [g2 5 (by decide) (by decide)]; exact ⟨rfl, rfl⟩) (g2 90 (by decide) (by decide)) (g2 91 (by decide) (by decide)) (g2 92 (by decide) (by decide)) (g2 93 (by decide) (by decide))
  have hT1 : JT n1 m N o e q := hT.ks (fun K hK => g2 K (by omega) (by omega))
  have hH1 : SHc n1 := by unfold SHc at *; rw [e9]; exact hH
  obtain ⟨q1, q2⟩ := s3 s g1.1 hlt
  have q1' : SL n1 m s := q1.n38 (fun K x y => g2 K (by omega) (by omega))
  have q2' : RLs n1 m s := q2.cg (by rw [g2 34 (by decide) (by decide)]) (fun j _ _ => by rw [g2 39 (by decide) (by decide)]) (fun _ _ _ => ⟨rfl, rfl⟩)
  obtain ⟨r, r1, r2⟩ := match_both hB1 hT1 hH1 (s := s) (by omega) q1' hk
  have hmt' := hmt s g1.1 hlt r r2
  have hs1 : (s + 1).toNat = s.toNat + 1 := by omega
  have hsn : ((s.toNat : Nat) : Int) = s := by omega
  rw [r1]
  simp only [Option.bind_some]
  refine ev_if (fun hr => ev_ck (by omega) (ev_inl ⟨⟨by show 0 ≤ s + 1 ∧ s + 1 ≤ m 89 0; omega, g2, g3, fun p x y => ?_⟩, by show m 89 0 - (s + 1) < m 89 0 - s; omega, by show 0 ≤ m 89 0 - s; omega⟩)) (fun hr => ?_)
  · show CST n1 m (o k) (fsV m (o k) p) (bst mt (m 97) (m 99) p (s + 1).toNat) p
    rw [hs1, bst_no s.toNat (.inr (by rw [hsn]; exact fun u => (hmt'.mpr u) hr))]
    exact g4 p x y
  · have w33 : n1 33 0 s = m 97 s ∧ 0 ≤ m 97 s ∧ m 97 s ≤ 2000 := ⟨q1'.2.2.1, q1'.2.2.2.1⟩
    refine ev_bind (c_apply (v := o k) (m := m) ⟨g1.1, by omega⟩ hv q2' (by rw [w33.1]; exact w33.2)) (fun n2 hn2 => ev_ck (by omega) ?_)
    obtain ⟨c1, c2, c3⟩ := hn2
    refine ev_inl ⟨⟨by show 0 ≤ s + 1 ∧ s + 1 ≤ m 89 0; omega, fun K x y => (c1 K x y).trans (g2 K x y), fun j hj => (c2 j hj).trans (g3 j hj), fun p x y => ?_⟩, by show m 89 0 - (s + 1) < m 89 0 - s; omega, by show 0 ≤ m 89 0 - s; omega⟩
    show CST n2 m (o k) (fsV m (o k) p) (bst mt (m 97) (m 99) p (s + 1).toNat) p
    rw [hs1]
    have hb := bst_b (mt := mt) (w := m 97) (h := m 99) (p := p) s.toNat
    have hh := bst_h (mt := mt) (w := m 97) (h := m 99) (p := p) s.toNat
    have hc := g4 p x y
    obtain ⟨d1, d2⟩ := c3 p x y
    rw [w33.1] at d1 d2
    by_cases z0 : m 99 (11 * s + p) = 0
    · rw [bst_no s.toNat (.inl (by rw [hsn]; exact z0))]
      have := d1 (.inl z0)
      unfold CST at *
      rw [this.1, this.2]; exact hc
    · have hgo := bst_go (mt := mt) (w := m 97) (h := m 99) (p := p) s.toNat (by rw [hsn]; exact fun u => by rcases u with u | u; exact z0 u; exact u (hmt'.mp hr))
      rw [hsn] at hgo hb
      rw [hgo]
      generalize bst mt (m 97) (m 99) p s.toNat = b at *
      have hs99 : m 99 (11 * s + p) = 1 ∨ m 99 (11 * s + p) = 2 := by
        rcases q2.2 p x y with u | u | u
        · exact absurd u.2 z0
        · exact .inl u.1
        · exact .inr u.1
      by_cases zb : b = -1
      · rw [if_pos zb]
        have h40 : n1 40 0 p = -1 := by
          rcases hc with u | u
          · exact u.2.1
          · exact absurd zb u.1
        have hF : (0 : Int) ≤ (if m 99 (11 * s + p) = 2 then (65536 : Int) else 0) := by split <;> omega
        have := d2 (fun u => by rcases u with u | u; exact z0 u; omega)
        exact .inr ⟨by omega, this⟩
      · rw [if_neg zb]
        have hcb : n1 40 0 p = m 97 b + (if m 99 (11 * b + p) = 2 then 65536 else 0) ∧ n1 41 0 (11 * o k + p) = m 98 (11 * b + p) := by
          rcases hc with u | u
          · exact absurd u.1 zb
          · exact u.2
        obtain ⟨t1, t2⟩ := s3 b (by omega) (by omega)
        have wb := t1.2.2.2.1
        have hb99 : m 99 (11 * b + p) = 1 ∨ m 99 (11 * b + p) = 2 := by
          rcases t2.2 p x y with u | u | u
          · rcases hh with w | w
            · exact absurd w zb
            · exact absurd u.2 w
          · exact .inl u.1
          · exact .inr u.1
        have hcmp : (m 97 s + (if m 99 (11 * s + p) = 2 then 65536 else 0) < n1 40 0 p) ↔ ¬ (m 99 (11 * b + p) < m 99 (11 * s + p) ∨ (m 99 (11 * s + p) = m 99 (11 * b + p) ∧ m 97 b ≤ m 97 s)) := by
          rw [hcb.1]
          rcases hs99 with u | u <;> rcases hb99 with w | w <;> rw [u, w]
          · rw [if_neg (by decide)]; omega
          · rw [if_neg (by decide), if_pos rfl]; omega
          · rw [if_pos rfl, if_neg (by decide)]; omega
          · rw [if_pos rfl]; omega
        by_cases zc : m 99 (11 * b + p) < m 99 (11 * s + p) ∨ (m 99 (11 * s + p) = m 99 (11 * b + p) ∧ m 97 b ≤ m 97 s)
        · rw [if_pos zc]
          have := d2 (fun u => by rcases u with u | u; exact z0 u; exact (hcmp.mp u) zc)
          exact .inr ⟨by omega, this⟩
        · rw [if_neg zc]
          have := d1 (.inr (hcmp.mpr zc))
          exact .inr ⟨zb, by rw [this.1]; exact hcb.1, by rw [this.2]; exact hcb.2⟩
end U2
