/-! THE CASCADE, in both -/
section U3
variable {n n' : NS} {m m' : YS} {A B N k v s p : Int} {o e q : Int → Int} {mt : Int → Prop}
theorem SHT.cm (h : SHT n m) (hm : ∀ f, 89 ≤ f → f ≤ 99 → m' f = m f) : SHT n m' := by
  obtain ⟨s1, s2, s3⟩ := h
  refine ⟨by rw [hm 89 (by decide) (by decide)]; exact s1, by rw [hm 89 (by decide) (by decide)]; exact s2, fun s x y => ?_⟩
  rw [hm 89 (by decide) (by decide)] at y
  obtain ⟨u1, u2⟩ := s3 s x y
  exact ⟨u1.y97 (fun f a b => hm f (by omega) (by omega)), u2.cg rfl (fun _ _ _ => rfl) (fun j _ _ => by rw [hm 98 (by decide) (by decide), hm 99 (by decide) (by decide)]; exact ⟨rfl, rfl⟩)⟩
theorem SHT.cn (h : SHT n m) (hn : ∀ K, K = 9 ∨ (32 ≤ K ∧ K ≤ 39) → n' K = n K) : SHT n' m := by
  obtain ⟨s1, s2, s3⟩ := h
  refine ⟨by rw [hn 9 (by omega)]; exact s1, s2, fun s x y => ?_⟩
  obtain ⟨u1, u2⟩ := s3 s x y
  exact ⟨u1.n38 (fun K a b => hn K (by omega)), u2.cg (by rw [hn 34 (by omega)]) (fun _ _ _ => by rw [hn 39 (by omega)]) (fun _ _ _ => ⟨rfl, rfl⟩)⟩
/-- the reference's PROPERTIES of an ELEMENT -/
theorem y_props (hB : BI A B n) (hT : JT n m N o e q) (hH : SHc n) (hS : SHT n m) (hk : 0 ≤ k ∧ k < N) (ht : n 7 (o k) 0 = m 46 (o k)) (hP : PLk n m (o k)) (hmt : ∀ s, 0 ≤ s → s < m 89 0 → ∀ r, N_Sheet_isMatch s (o k) n = some r → (r ≠ 0 ↔ mt s)) : ev (NL_Y_cascade_27 (o k) 0 m) (fun m' => FY [105] m m' ∧ (∀ j, ¬ (11 * o k ≤ j ∧ j < 11 * o k + 11) → m' 105 j = m 105 j) ∧ ∀ p, 0 ≤ p → p < 11 → m' 105 (11 * o k + p) = if bst mt (m 97) (m 99) p (m 89 0).toNat = -1 then fsV m (o k) p else m 98 (11 * bst mt (m 97) (m 99) p (m 89 0).toNat + p)) := by
  have hv := hT.1.1.oB hk.1 hk.2
  unfold NL_Y_cascade_27
  refine ev_it (fun t : Int × YS => (0 ≤ t.1 ∧ t.1 ≤ 11) ∧ FY [105] m t.2 ∧ (∀ j, ¬ (11 * o k ≤ j ∧ j < 11 * o k + 11) → t.2 105 j = m 105 j) ∧ ∀ p, 0 ≤ p → p < t.1 → t.2 105 (11 * o k + p) = if bst mt (m 97) (m 99) p (m 89 0).toNat = -1 then fsV m (o k) p else m 98 (11 * bst mt (m 97) (m 99) p (m 89 0).toNat + p)) (fun t => 11 - t.1) (fun t ht' => ?_) ⟨by show (0 : Int) ≤ 0 ∧ (0 : Int) ≤ 11; omega, FY.refl _ _, fun _ _ => rfl, fun p x y => by have y : p < 0 := y; omega⟩
  obtain ⟨r, m1⟩ := t
  obtain ⟨g1, g2, g3, g4⟩ := ht'
  simp only at g1 g2 g3 g4
  show ev (nb_Y_cascade_27 (o k) r m1) _
  unfold nb_Y_cascade_27
  refine ev_if (fun hlt => ?_) (fun hge => ev_inr ⟨g2, g3, fun p x y => g4 p x (by omega)⟩)
  have ef : ∀ f, f ≠ 105 → m1 f = m f := fun f hf => g2 f (by simp only [List.mem_cons, List.not_mem_nil, or_false]; exact hf)
  have hT1 : JT n m1 N o e q := hT.fb hB (FB.refl (fun _ => False) n) (fun x hx => hx.elim) (fun f a b => ef f (by omega))
  have hS1 : SHT n m1 := hS.cm (fun f a b => ef f (by omega))
  have hP1 : PLk n m1 (o k) := hP.cm (ef 49 (by decide)) g3
  have hbest := y_best (m := m1) (v := o k) (p := r) (mt := mt) hS1.2.1 ⟨g1.1, hlt⟩ (fun s x y => by
    obtain ⟨z, z1, z2⟩ := match_both hB hT1 hH (s := s) ⟨x, by have := hS1.2.1.2; omega⟩ (hS1.2.2 s x y).1 hk
    exact ⟨z, z2, hmt s x (by rw [ef 89 (by decide)] at y; exact y) z z1⟩) (fun s x y => by
    rcases (hS1.2.2 s x y).2.2 r g1.1 hlt with u | u | u
    · rw [u.2]; decide
    · rw [u.1]; decide
    · rw [u.1]; decide)
  rw [ef 97 (by decide), ef 99 (by decide), ef 89 (by decide)] at hbest
  have hbb := bst_b (mt := mt) (w := m 97) (h := m 99) (p := r) (m 89 0).toNat
  have h89 := hS.2.1
  rw [hbest]
  simp only [Option.bind_some]
  generalize hbe : bst mt (m 97) (m 99) r (m 89 0).toNat = b at *
  have put : ∀ x, x = (if b = -1 then fsV m (o k) r else m 98 (11 * b + r)) → ev (nk_Y_cascade_175 (o k) r x (11 * o k + r) m1) (lp (fun t : Int × YS => (0 ≤ t.1 ∧ t.1 ≤ 11) ∧ FY [105] m t.2 ∧ (∀ j, ¬ (11 * o k ≤ j ∧ j < 11 * o k + 11) → t.2 105 j = m 105 j) ∧ ∀ p, 0 ≤ p → p < t.1 → t.2 105 (11 * o k + p) = if bst mt (m 97) (m 99) p (m 89 0).toNat = -1 then fsV m (o k) p else m 98 (11 * bst mt (m 97) (m 99) p (m 89 0).toNat + p)) (fun t => 11 - t.1) (r, m1) (fun m' => FY [105] m m' ∧ (∀ j, ¬ (11 * o k ≤ j ∧ j < 11 * o k + 11) → m' 105 j = m 105 j) ∧ ∀ p, 0 ≤ p → p < 11 → m' 105 (11 * o k + p) = if bst mt (m 97) (m 99) p (m 89 0).toNat = -1 then fsV m (o k) p else m 98 (11 * bst mt (m 97) (m 99) p (m 89 0).toNat + p))) := fun x hx => by
    unfold nk_Y_cascade_175
    refine ev_ix (by omega) (ev_st (ev_ck (by omega) (ev_inl ⟨⟨by show 0 ≤ r + 1 ∧ r + 1 ≤ 11; omega, fun f hf => ?_, fun j hj => ?_, fun p y z => ?_⟩, by show 11 - (r + 1) < 11 - r; omega, by show 0 ≤ 11 - r; omega⟩)))
    · show yw m1 105 (11 * o k + r) x f = m f
      rw [yw_nF (by simp only [List.mem_cons, List.not_mem_nil, or_false] at hf; exact hf)]; exact g2 f hf
    · show yw m1 105 (11 * o k + r) x 105 j = m 105 j
      rw [yw_ni (by omega)]; exact g3 j hj
    · have z : p < r + 1 := z
      show yw m1 105 (11 * o k + r) x 105 (11 * o k + p) = _
      by_cases u : p = r
      · rw [u, yw_eq, hbe]; exact hx
      · rw [yw_ni (by omega)]; exact g4 p y (by omega)
  refine ev_ck (by omega) (ev_ck (by omega) (ev_if (fun hb => ?_) (fun hb => ?_)))
  · obtain ⟨x, a1, a2, _⟩ := usual_both (n := n) (m := m1) (p := r) hv ⟨g1.1, hlt⟩ (by rw [ef 46 (by decide)]; exact ht) hP1
    obtain ⟨x', b1, b2, _⟩ := usual_both (n := n) (m := m) (p := r) hv ⟨g1.1, hlt⟩ ht hP
    have exx : x = x' := by rw [a1] at b1; exact Option.some.inj b1
    rw [a2]
    simp only [Option.bind_some]
    exact put x (by rw [if_pos hb, exx, fsV_eq b2])
  · refine ev_ck (by omega) (ev_ck (by omega) (ev_ix (by omega) ?_))
    rw [ef 98 (by decide)]
    exact put _ (by rw [if_neg hb])
/-- one ELEMENT -/
theorem node_look (hB : BI A B n) (hT : JT n m N o e q) (hH : SHc n) (hS : SHT n m) (hk : 0 ≤ k ∧ k < N) (h17 : m 46 (o k) ≠ 17) (hP : PLk n m (o k)) :
    ∃ n' m', N_Sheet_cascade (o k) n = some n' ∧ nb_Y_cascade_6 (o k) m = nk_Y_cascade_306 (o k) m' ∧ (∀ K, K ≠ 40 → K ≠ 41 → n' K = n K) ∧ (∀ j, ¬ (11 * o k ≤ j ∧ j < 11 * o k + 11) → n' 41 0 j = n 41 0 j) ∧ FY [105] m m' ∧ (∀ j, ¬ (11 * o k ≤ j ∧ j < 11 * o k + 11) → m' 105 j = m 105 j) ∧ LKv n' m' (o k) := by
  have hv := hT.1.1.oB hk.1 hk.2
  have ht : n 7 (o k) 0 = m 46 (o k) := (hT.2.2.2 k hk.1 hk.2).1.1
  have htb := (hT.2.2.2 k hk.1 hk.2).1.2
  -- who matches
  have hm1 : ∀ s, 0 ≤ s → s < m 89 0 → ∀ r, N_Sheet_isMatch s (o k) n = some r → (r ≠ 0 ↔ ∃ r', N_Sheet_isMatch s (o k) n = some r' ∧ r' ≠ 0) := fun s _ _ r hr => ⟨fun y => ⟨r, hr, y⟩, fun ⟨r', y1, y2⟩ => by rw [hr] at y1; rw [Option.some.inj y1]; exact y2⟩
  obtain ⟨n6, a1, a2, a3, a4⟩ := c_usual (n := n) (m := m) hv ht hP
  have hB6 : BI A B n6 := hB.cg (a2 4 (by decide) (by decide)) (by rw [a2 5 (by decide) (by decide)]; exact ⟨rfl, rfl⟩) (a2 90 (by decide) (by decide)) (a2 91 (by decide) (by decide)) (a2 92 (by decide) (by decide)) (a2 93 (by decide) (by decide))
  have hT6 : JT n6 m N o e q := hT.ks (fun K hK => a2 K (by omega) (by omega))
  have hH6 : SHc n6 := by unfold SHc at *; rw [a2 9 (by decide) (by decide)]; exact hH
  have hS6 : SHT n6 m := hS.cn (fun K hK => a2 K (by omega) (by omega))
  obtain ⟨n9, b1, b2, b3, b4⟩ := c_slots (mt := fun s => ∃ r', N_Sheet_isMatch s (o k) n = some r' ∧ r' ≠ 0) hB6 hT6 hH6 hS6 hk (fun s x y r hr => by
    obtain ⟨z, z1, z2⟩ := match_both hB hT hH (s := s) ⟨x, by have := hS.2.1.2; omega⟩ (hS.2.2 s x y).1 hk
    rw [hr] at z2
    rw [Option.some.inj z2]
    exact hm1 s x y z z1) a4
  obtain ⟨m6, c1, c2, c3, c4⟩ := y_props (mt := fun s => ∃ r', N_Sheet_isMatch s (o k) n = some r' ∧ r' ≠ 0) hB hT hH hS hk ht hP hm1
  -- the values are the same
  have hV : LKv n9 m6 (o k) := fun p p0 p1 => by
    rw [c4 p p0 p1]
    have hb := b4 p p0 p1
    have hbb := bst_b (mt := fun s => ∃ r', N_Sheet_isMatch s (o k) n = some r' ∧ r' ≠ 0) (w := m 97) (h := m 99) (p := p) (m 89 0).toNat
    have hbh := bst_h (mt := fun s => ∃ r', N_Sheet_isMatch s (o k) n = some r' ∧ r' ≠ 0) (w := m 97) (h := m 99) (p := p) (m 89 0).toNat
    have h89 := hS.2.1
    generalize bst (fun s => ∃ r', N_Sheet_isMatch s (o k) n = some r' ∧ r' ≠ 0) (m 97) (m 99) p (m 89 0).toNat = b at *
    rcases hb with ⟨y1, _, y3⟩ | ⟨y1, _, y3⟩
    · rw [if_pos y1]
      obtain ⟨x, u1, u2, u3, u4⟩ := usual_both (n := n) (m := m) (p := p) hv ⟨p0, p1⟩ ht hP
      rw [y3, fsV_eq u2]
      exact ⟨rfl, u3, u4⟩
    · rw [if_neg y1, y3]
      have hin : 0 ≤ m 98 (11 * b + p) ∧ m 98 (11 * b + p) ≤ 1100 ∧ okL p (m 98 (11 * b + p)) := by
        rcases (hS.2.2 b (by omega) (by omega)).2.2 p p0 p1 with u | u | u
        · rcases hbh with w | w
          · exact absurd w y1
          · exact absurd u.2 w
        · exact u.2.2
        · exact u.2.2
      exact ⟨rfl, by omega, fun _ _ _ => hin.1, hin.2.2⟩
  have hK9 : ∀ K, K ≠ 40 → K ≠ 41 → n9 K = n K := fun K x y => (b2 K x y).trans (a2 K x y)
  have h41 : ∀ j, ¬ (11 * o k ≤ j ∧ j < 11 * o k + 11) → n9 41 0 j = n 41 0 j := fun j hj => (b3 j hj).trans (a3 j hj)
  have e46 : m6 46 = m 46 := c2 46 (by decide)
  have t9 : n9 7 (o k) 0 = m 46 (o k) := by rw [hK9 7 (by decide) (by decide)]; exact ht
  have ef : ∀ f, f ≠ 105 → m6 f = m f := fun f hf => c2 f (by simp only [List.mem_cons, List.not_mem_nil, or_false]; exact hf)
  -- two of them may be changed at last
  have fin2 : ∀ x, (0 ≤ x ∧ x ≤ 2) → (∀ K, K ≠ 40 → K ≠ 41 → nw (nw n9 41 0 (11 * o k) x) 41 0 (11 * o k + 10) 0 K = n K) ∧ (∀ j, ¬ (11 * o k ≤ j ∧ j < 11 * o k + 11) → nw (nw n9 41 0 (11 * o k) x) 41 0 (11 * o k + 10) 0 41 0 j = n 41 0 j) ∧ FY [105] m (yw (yw m6 105 (11 * o k + 10) 0) 105 (11 * o k) x) ∧ (∀ j, ¬ (11 * o k ≤ j ∧ j < 11 * o k + 11) → yw (yw m6 105 (11 * o k + 10) 0) 105 (11 * o k) x 105 j = m 105 j) ∧ LKv (nw (nw n9 41 0 (11 * o k) x) 41 0 (11 * o k + 10) 0) (yw (yw m6 105 (11 * o k + 10) 0) 105 (11 * o k) x) (o k) := fun x hx => by
    refine ⟨fun K y z => by rw [nw_nK z, nw_nK z]; exact hK9 K y z, fun j hj => by rw [nw_ns (by omega), nw_ns (by omega)]; exact h41 j hj, fun f hf => ?_, fun j hj => by rw [yw_ni (by omega), yw_ni (by omega)]; exact c3 j hj, fun p p0 p1 => ?_⟩
    · have hf' : f ≠ 105 := by simp only [List.mem_cons, List.not_mem_nil, or_false] at hf; exact hf
      rw [yw_nF hf', yw_nF hf']; exact c2 f hf
    · by_cases z0 : p = 0
      · rw [z0, show 11 * o k + 0 = 11 * o k by omega, yw_eq, nw_ns (by omega), nw_eq]
        exact ⟨rfl, by omega, fun _ _ _ => hx.1, by unfold okL; omega⟩
      · rw [yw_ni (by omega)]
        by_cases z10 : p = 10
        · rw [z10, yw_eq, nw_eq]
          exact ⟨rfl, by decide, fun _ _ _ => by decide, by unfold okL; decide⟩
        · rw [yw_ni (by omega), nw_ns (by omega), nw_ns (by omega)]
          exact hV p p0 p1
  have fin1 : (∀ K, K ≠ 40 → K ≠ 41 → nw n9 41 0 (11 * o k) 0 K = n K) ∧ (∀ j, ¬ (11 * o k ≤ j ∧ j < 11 * o k + 11) → nw n9 41 0 (11 * o k) 0 41 0 j = n 41 0 j) ∧ FY [105] m (yw m6 105 (11 * o k) 0) ∧ (∀ j, ¬ (11 * o k ≤ j ∧ j < 11 * o k + 11) → yw m6 105 (11 * o k) 0 105 j = m 105 j) ∧ LKv (nw n9 41 0 (11 * o k) 0) (yw m6 105 (11 * o k) 0) (o k) := by
    refine ⟨fun K y z => by rw [nw_nK z]; exact hK9 K y z, fun j hj => by rw [nw_ns (by omega)]; exact h41 j hj, fun f hf => ?_, fun j hj => by rw [yw_ni (by omega)]; exact c3 j hj, fun p p0 p1 => ?_⟩
    · have hf' : f ≠ 105 := by simp only [List.mem_cons, List.not_mem_nil, or_false] at hf; exact hf
      rw [yw_nF hf']; exact c2 f hf
    · by_cases z0 : p = 0
      · rw [z0, show 11 * o k + 0 = 11 * o k by omega, yw_eq, nw_eq]
        exact ⟨rfl, by decide, fun _ _ _ => by decide, by unfold okL; decide⟩
      · rw [yw_ni (by omega), nw_ns (by omega)]
        exact hV p p0 p1
  have v0 := hV 0 (by decide) (by decide)
  have v10 := hV 10 (by decide) (by decide)
  rw [show 11 * o k + 0 = 11 * o k by omega] at v0
  have e1 : o k * 11 + 0 = 11 * o k := by omega
  have e2 : o k * 11 + 10 = 11 * o k + 10 := by omega
  have hX : N_Sheet_cascade (o k) n = (if o k = 0 then some (nw (nw n9 41 0 (11 * o k) 0) 41 0 (11 * o k + 10) 0) else if m 46 (o k) = 10 ∨ (12 ≤ m 46 (o k) ∧ m 46 (o k) ≤ 14) then (if m6 105 (11 * o k) = 2 then some (nw (nw n9 41 0 (11 * o k) 2) 41 0 (11 * o k + 10) 0) else some (nw (nw n9 41 0 (11 * o k) 1) 41 0 (11 * o k + 10) 0)) else if m6 105 (11 * o k + 10) = 0 then some n9 else if m6 105 (11 * o k) = 1 then some (nw n9 41 0 (11 * o k) 0) else some n9) := by
    unfold N_Sheet_cascade
    rw [ix_e _ hv, ck_e _ (by omega), a1]
    simp only [Option.bind_some]
    rw [b1]
    simp only [Option.bind_some]
    rw [e1, e2]
    have h132 : nk_Sheet_cascade_132 (o k * 11) n9 = if m6 105 (11 * o k) = 2 then some (nw (nw n9 41 0 (11 * o k) 2) 41 0 (11 * o k + 10) 0) else some (nw (nw n9 41 0 (11 * o k) 1) 41 0 (11 * o k + 10) 0) := by
      unfold nk_Sheet_cascade_132 nk_Sheet_cascade_156 st
      dsimp only
      rw [e1, e2, ck_e _ (by omega), ck_e _ (by omega), ix_e _ (by omega), v0.1]
      by_cases y : m6 105 (11 * o k) = 2
      · rw [if_pos y, if_pos y, ix_e _ (by omega), ck_e _ (by omega), ix_e _ (by omega)]
      · rw [if_neg y, if_neg y, ix_e _ (by omega), ck_e _ (by omega), ix_e _ (by omega)]
    by_cases z0 : o k = 0
    · unfold st
      dsimp only
      rw [if_pos z0, if_pos z0, ck_e _ (by omega), ix_e _ (by omega), ck_e _ (by omega), ix_e _ (by omega)]
    · rw [if_neg z0, if_neg z0, t9, h132]
      by_cases y10 : m 46 (o k) = 10
      · rw [if_pos y10, if_pos (show m 46 (o k) = 10 ∨ (12 ≤ m 46 (o k) ∧ m 46 (o k) ≤ 14) from .inl y10)]
      · rw [if_neg y10]
        unfold N_Node_isPieceTag
        rw [t9]
        by_cases y12 : 12 ≤ m 46 (o k) ∧ m 46 (o k) ≤ 14
        · rw [if_neg (by omega), if_neg (by omega)]
          simp only [Option.bind_some]
          rw [if_neg (by decide), if_pos (show m 46 (o k) = 10 ∨ (12 ≤ m 46 (o k) ∧ m 46 (o k) ≤ 14) from .inr y12)]
        · have ez : (if m 46 (o k) < 12 then some (0 : Int) else if 14 < m 46 (o k) then some 0 else some 1) = some 0 := by
            by_cases w : m 46 (o k) < 12
            · rw [if_pos w]
            · rw [if_neg w, if_pos (by omega)]
          rw [ez]
          simp only [Option.bind_some]
          unfold st
          dsimp only
          rw [if_pos trivial, if_neg (show ¬ (m 46 (o k) = 10 ∨ (12 ≤ m 46 (o k) ∧ m 46 (o k) ≤ 14)) from fun u => by rcases u with u | u; exact y10 u; exact y12 u), ck_e _ (by omega), ix_e _ (by omega), v10.1]
          by_cases w : m6 105 (11 * o k + 10) = 0
          · rw [if_pos w, if_pos w]
          · rw [if_neg w, if_neg w, ck_e _ (by omega), ix_e _ (by omega), v0.1]
            by_cases w1 : m6 105 (11 * o k) = 1
            · rw [if_pos w1, if_pos w1, ck_e _ (by omega), ix_e _ (by omega)]
            · rw [if_neg w1, if_neg w1]
  have hY : nb_Y_cascade_6 (o k) m = (if o k = 0 then nk_Y_cascade_306 (o k) (yw (yw m6 105 (11 * o k + 10) 0) 105 (11 * o k) 0) else if m 46 (o k) = 10 ∨ (12 ≤ m 46 (o k) ∧ m 46 (o k) ≤ 14) then (if m6 105 (11 * o k) = 2 then nk_Y_cascade_306 (o k) (yw (yw m6 105 (11 * o k + 10) 0) 105 (11 * o k) 2) else nk_Y_cascade_306 (o k) (yw (yw m6 105 (11 * o k + 10) 0) 105 (11 * o k) 1)) else if 0 < m6 105 (11 * o k + 10) then (if m6 105 (11 * o k) = 1 then nk_Y_cascade_306 (o k) (yw m6 105 (11 * o k) 0) else nk_Y_cascade_306 (o k) m6) else nk_Y_cascade_306 (o k) m6) := by
    have h211 : ∀ w, nk_Y_cascade_211 (o k) w m6 = (if o k = 0 then nk_Y_cascade_306 (o k) (yw (yw m6 105 (11 * o k + 10) 0) 105 (11 * o k) 0) else if w ≠ 0 then (if m6 105 (11 * o k) = 2 then nk_Y_cascade_306 (o k) (yw (yw m6 105 (11 * o k + 10) 0) 105 (11 * o k) 2) else nk_Y_cascade_306 (o k) (yw (yw m6 105 (11 * o k + 10) 0) 105 (11 * o k) 1)) else if 0 < m6 105 (11 * o k + 10) then (if m6 105 (11 * o k) = 1 then nk_Y_cascade_306 (o k) (yw m6 105 (11 * o k) 0) else nk_Y_cascade_306 (o k) m6) else nk_Y_cascade_306 (o k) m6) := fun w => by
      have hc0 : ∀ {α : Type} (x : Option α), ck (11 * o k) x = x := fun x => ck_e x (by omega)
      have hc10 : ∀ {α : Type} (x : Option α), ck (11 * o k + 10) x = x := fun x => ck_e x (by omega)
      have hi0 : ∀ {α : Type} (x : Option α), ix (11 * o k) 1320 x = x := fun x => ix_e x (by omega)
      have hi10 : ∀ {α : Type} (x : Option α), ix (11 * o k + 10) 1320 x = x := fun x => ix_e x (by omega)
      have hy0 : yw m6 105 (11 * o k + 10) 0 105 (11 * o k) = m6 105 (11 * o k) := yw_ni (by omega)
      unfold nk_Y_cascade_211 nk_Y_cascade_225 nk_Y_cascade_235 nk_Y_cascade_273 st
      simp only [hc0, hc10, hi0, hi10, hy0]
      by_cases z0 : o k = 0
      · simp only [if_pos z0]
      · simp only [if_neg z0]
        by_cases zw : w = 0
        · simp only [if_pos zw, if_neg (show ¬ (w ≠ 0) from fun u => u zw)]
        · simp only [if_neg zw, if_pos (show w ≠ 0 from zw)]
    unfold nb_Y_cascade_6 nk_Y_cascade_206 N_Y_isPieceTag
    rw [if_neg (by omega), ix_e _ hv, if_neg h17, c1]
    simp only [Option.bind_some]
    rw [ix_e _ hv, e46, h211]
    by_cases y10 : m 46 (o k) = 10
    · rw [if_pos y10]
      by_cases z0 : o k = 0
      · rw [if_pos z0, if_pos z0]
      · rw [if_neg z0, if_neg z0, if_pos (show (1 : Int) ≠ 0 by decide), if_pos (show m 46 (o k) = 10 ∨ (12 ≤ m 46 (o k) ∧ m 46 (o k) ≤ 14) from .inl y10)]
    · rw [if_neg y10, ix_e _ hv]
      by_cases y12 : 12 ≤ m 46 (o k) ∧ m 46 (o k) ≤ 14
      · have ez : (if m 46 (o k) = 12 then some (1 : Int) else if m 46 (o k) = 13 then some 1 else if m 46 (o k) = 14 then some 1 else some 0) = some 1 := by
          by_cases w : m 46 (o k) = 12
          · rw [if_pos w]
          · rw [if_neg w]
            by_cases w' : m 46 (o k) = 13
            · rw [if_pos w']
            · rw [if_neg w', if_pos (by omega)]
        rw [ez]
        simp only [Option.bind_some]
        rw [if_neg (by decide)]
        by_cases z0 : o k = 0
        · rw [if_pos z0, if_pos z0]
        · rw [if_neg z0, if_neg z0, if_pos (show (1 : Int) ≠ 0 by decide), if_pos (show m 46 (o k) = 10 ∨ (12 ≤ m 46 (o k) ∧ m 46 (o k) ≤ 14) from .inr y12)]
      · have ez : (if m 46 (o k) = 12 then some (1 : Int) else if m 46 (o k) = 13 then some 1 else if m 46 (o k) = 14 then some 1 else some 0) = some 0 := by
          rw [if_neg (by omega), if_neg (by omega), if_neg (by omega)]
        rw [ez]
        simp only [Option.bind_some]
        rw [if_pos trivial, h211]
        by_cases z0 : o k = 0
        · rw [if_pos z0, if_pos z0]
        · rw [if_neg z0, if_neg z0, if_neg (show ¬ ((0 : Int) ≠ 0) from fun u => u rfl), if_neg (show ¬ (m 46 (o k) = 10 ∨ (12 ≤ m 46 (o k) ∧ m 46 (o k) ≤ 14)) from fun u => by rcases u with u | u; exact y10 u; exact y12 u)]
  rw [hX, hY]
  by_cases z0 : o k = 0
  · rw [if_pos z0, if_pos z0]
    exact ⟨_, _, rfl, rfl, fin2 0 (by decide)⟩
  · rw [if_neg z0, if_neg z0]
    by_cases zp : m 46 (o k) = 10 ∨ (12 ≤ m 46 (o k) ∧ m 46 (o k) ≤ 14)
    · rw [if_pos zp, if_pos zp]
      by_cases w : m6 105 (11 * o k) = 2
      · rw [if_pos w, if_pos w]
        exact ⟨_, _, rfl, rfl, fin2 2 (by decide)⟩
      · rw [if_neg w, if_neg w]
        exact ⟨_, _, rfl, rfl, fin2 1 (by decide)⟩
    · rw [if_neg zp, if_neg zp]
      have h10 := v10.2.2.1 (by decide) (by decide) (by decide)
      by_cases w : m6 105 (11 * o k + 10) = 0
      · rw [if_pos w, if_neg (by omega)]
        exact ⟨n9, m6, rfl, rfl, hK9, h41, c2, c3, hV⟩
      · rw [if_neg w, if_pos (show 0 < m6 105 (11 * o k + 10) by omega)]
        by_cases w1 : m6 105 (11 * o k) = 1
        · rw [if_pos w1, if_pos w1]
          exact ⟨_, _, rfl, rfl, fin1⟩
        · rw [if_neg w1, if_neg w1]
          exact ⟨n9, m6, rfl, rfl, hK9, h41, c2, c3, hV⟩
end U3
