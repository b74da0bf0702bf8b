/-! THE CASCADE: which SELECTOR wins -/
noncomputable def bst (mt : Int → Prop) (w h : Int → Int) (p : Int) : Nat → Int
  | 0 => -1
  | s + 1 => @ite _ (h (11 * (s : Int) + p) = 0 ∨ ¬ mt s) (Classical.propDecidable _) (bst mt w h p s) (if bst mt w h p s = -1 then (s : Int) else if h (11 * bst mt w h p s + p) < h (11 * (s : Int) + p) ∨ (h (11 * (s : Int) + p) = h (11 * bst mt w h p s + p) ∧ w (bst mt w h p s) ≤ w s) then (s : Int) else bst mt w h p s)
/-- the state of the class for a PROPERTY behind some SELECTORS -/
def CST (n : NS) (m : YS) (v x b p : Int) : Prop := (b = -1 ∧ n 40 0 p = -1 ∧ n 41 0 (11 * v + p) = x) ∨ (b ≠ -1 ∧ n 40 0 p = m 97 b + (if m 99 (11 * b + p) = 2 then 65536 else 0) ∧ n 41 0 (11 * v + p) = m 98 (11 * b + p))
section U1
variable {n n' : NS} {m m' : YS} {v s p k c x : Int} {mt : Int → Prop} {w h : Int → Int}
theorem bst_b : ∀ s : Nat, bst mt w h p s = -1 ∨ (0 ≤ bst mt w h p s ∧ bst mt w h p s < s) := by
  intro s
  induction s with
  | zero => exact .inl rfl
  | succ s ih =>
    have e : bst mt w h p (s + 1) = @ite _ (h (11 * (s : Int) + p) = 0 ∨ ¬ mt s) (Classical.propDecidable _) (bst mt w h p s) (if bst mt w h p s = -1 then (s : Int) else if h (11 * bst mt w h p s + p) < h (11 * (s : Int) + p) ∨ (h (11 * (s : Int) + p) = h (11 * bst mt w h p s + p) ∧ w (bst mt w h p s) ≤ w s) then (s : Int) else bst mt w h p s) := rfl
    rw [e]
    by_cases z : h (11 * (s : Int) + p) = 0 ∨ ¬ mt s
    · rw [@if_pos _ (Classical.propDecidable _) z]
      rcases ih with y | y
      · exact .inl y
      · exact .inr ⟨y.1, by omega⟩
    · rw [@if_neg _ (Classical.propDecidable _) z]
      by_cases y : bst mt w h p s = -1
      · rw [if_pos y]; exact .inr ⟨by omega, by omega⟩
      · rw [if_neg y]
        by_cases u : h (11 * bst mt w h p s + p) < h (11 * (s : Int) + p) ∨ (h (11 * (s : Int) + p) = h (11 * bst mt w h p s + p) ∧ w (bst mt w h p s) ≤ w s)
        · rw [if_pos u]; exact .inr ⟨by omega, by omega⟩
        · rw [if_neg u]
          rcases ih with q | q
          · exact absurd q y
          · exact .inr ⟨q.1, by omega⟩
theorem bst_no (s : Nat) (z : h (11 * (s : Int) + p) = 0 ∨ ¬ mt s) : bst mt w h p (s + 1) = bst mt w h p s := @if_pos _ (Classical.propDecidable _) z _ _ _
theorem bst_go (s : Nat) (z : ¬ (h (11 * (s : Int) + p) = 0 ∨ ¬ mt s)) : bst mt w h p (s + 1) = if bst mt w h p s = -1 then (s : Int) else if h (11 * bst mt w h p s + p) < h (11 * (s : Int) + p) ∨ (h (11 * (s : Int) + p) = h (11 * bst mt w h p s + p) ∧ w (bst mt w h p s) ≤ w s) then (s : Int) else bst mt w h p s := @if_neg _ (Classical.propDecidable _) z _ _ _
/-- some SELECTOR that wins gives something -/
theorem bst_h : ∀ s : Nat, bst mt w h p s = -1 ∨ h (11 * bst mt w h p s + p) ≠ 0 := by
  intro s
  induction s with
  | zero => exact .inl rfl
  | succ s ih =>
    by_cases z : h (11 * (s : Int) + p) = 0 ∨ ¬ mt s
    · rw [bst_no s z]; exact ih
    · rw [bst_go s z]
      have hz : h (11 * (s : Int) + p) ≠ 0 := fun y => z (.inl y)
      by_cases y : bst mt w h p s = -1
      · rw [if_pos y]; exact .inr hz
      · rw [if_neg y]
        by_cases u : h (11 * bst mt w h p s + p) < h (11 * (s : Int) + p) ∨ (h (11 * (s : Int) + p) = h (11 * bst mt w h p s + p) ∧ w (bst mt w h p s) ≤ w s)
        · rw [if_pos u]; exact .inr hz
        · rw [if_neg u]; exact ih
/-- the reference's choice -/
theorem y_best (hc : 0 ≤ m 89 0 ∧ m 89 0 ≤ 40) (hp : 0 ≤ p ∧ p < 11) (hM : ∀ s, 0 ≤ s → s < m 89 0 → ∃ r, N_Y_matches v s m = some r ∧ (r ≠ 0 ↔ mt s)) (h99 : ∀ s, 0 ≤ s → s < m 89 0 → 0 ≤ m 99 (11 * s + p)) : NL_Y_cascade_38 v p (-1) 0 m = some (bst mt (m 97) (m 99) p (m 89 0).toNat) := by
  apply eq_of_ev
  unfold NL_Y_cascade_38
  refine ev_it (fun t : Int × Int => (0 ≤ t.2 ∧ t.2 ≤ m 89 0) ∧ t.1 = bst mt (m 97) (m 99) p t.2.toNat) (fun t => m 89 0 - t.2) (fun t ht => ?_) ⟨by show (0 : Int) ≤ 0 ∧ (0 : Int) ≤ m 89 0; omega, rfl⟩
  obtain ⟨b, j⟩ := t
  obtain ⟨g1, g2⟩ := ht
  simp only at g1 g2
  show ev (nb_Y_cascade_38 v p b j m) _
  unfold nb_Y_cascade_38
  have hj : ((j.toNat : Nat) : Int) = j := by omega
  refine ev_if (fun hlt => ?_) (fun hge => ev_inr (by show b = _; rw [g2, show j = m 89 0 by omega]))
  have hjs : (j + 1).toNat = j.toNat + 1 := by omega
  have done : ∀ b', b' = bst mt (m 97) (m 99) p (j.toNat + 1) → ev (some (.inl (b', j + 1)) : Option ((Int × Int) ⊕ Int)) (lp (fun t : Int × Int => (0 ≤ t.2 ∧ t.2 ≤ m 89 0) ∧ t.1 = bst mt (m 97) (m 99) p t.2.toNat) (fun t => m 89 0 - t.2) (b, j) (fun r => r = bst mt (m 97) (m 99) p (m 89 0).toNat)) := fun b' hb' => ev_inl ⟨⟨by show 0 ≤ j + 1 ∧ j + 1 ≤ m 89 0; omega, by show b' = bst mt (m 97) (m 99) p (j + 1).toNat; rw [hjs]; exact hb'⟩, by show m 89 0 - (j + 1) < m 89 0 - j; omega, by show 0 ≤ m 89 0 - j; omega⟩
  have bn := bst_no (mt := mt) (w := m 97) (h := m 99) (p := p) j.toNat
  have bg := bst_go (mt := mt) (w := m 97) (h := m 99) (p := p) j.toNat
  have bb := bst_b (mt := mt) (w := m 97) (h := m 99) (p := p) j.toNat
  rw [hj] at bn bg bb
  rw [← g2] at bn bg bb
  have hh := h99 j g1.1 hlt
  refine ev_ck (by omega) (ev_ck (by omega) (ev_ix (by omega) (ev_if (fun h0 => ev_ck (by omega) (done b (bn (.inl h0)).symm)) (fun h0 => ?_))))
  obtain ⟨r, r1, r2⟩ := hM j g1.1 hlt
  rw [r1]
  simp only [Option.bind_some]
  refine ev_if (fun hr => ev_ck (by omega) (done b (bn (.inr (fun y => (r2.mpr y) hr))).symm)) (fun hr => ?_)
  have bg := bg (fun y => by rcases y with y | y; exact h0 y; exact y (r2.mp hr))
  unfold nk_Y_cascade_99
  refine ev_if (fun hb1 => ?_) (fun hb1 => ?_)
  · rw [if_pos hb1] at bg
    refine ev_if (fun _ => ev_ck (by omega) (done j bg.symm)) (fun y => by omega)
  · rw [if_neg hb1] at bg
    refine ev_ck (by omega) (ev_ck (by omega) (ev_ix (by omega) (ev_if (fun h1 => ev_ck (by omega) (done j (by rw [bg, if_pos (.inl h1)]))) (fun h1 => ev_if (fun h2 => ev_ix (by omega) (ev_ix (by omega) (ev_if (fun h3 => ev_ck (by omega) (done b (by rw [bg, if_neg (fun y => by omega)]))) (fun h3 => ev_ck (by omega) (done j (by rw [bg, if_pos (.inr ⟨h2, by omega⟩)])))))) (fun h2 => ev_ck (by omega) (done b (by rw [bg, if_neg (fun y => by omega)])))))))
/-- what a SELECTOR that matches does -/
theorem c_apply (hs : 0 ≤ s ∧ s < 40) (hv : 0 ≤ v ∧ v < 120) (hR : RLs n m s) (h33 : 0 ≤ n 33 0 s ∧ n 33 0 s ≤ 2000) : ev (N_Sheet_apply s (v * 11) n) (fun n' => (∀ K, K ≠ 40 → K ≠ 41 → n' K = n K) ∧ (∀ j, ¬ (11 * v ≤ j ∧ j < 11 * v + 11) → n' 41 0 j = n 41 0 j) ∧ ∀ p, 0 ≤ p → p < 11 → ((m 99 (11 * s + p) = 0 ∨ n 33 0 s + (if m 99 (11 * s + p) = 2 then 65536 else 0) < n 40 0 p) → n' 40 0 p = n 40 0 p ∧ n' 41 0 (11 * v + p) = n 41 0 (11 * v + p)) ∧ (¬ (m 99 (11 * s + p) = 0 ∨ n 33 0 s + (if m 99 (11 * s + p) = 2 then 65536 else 0) < n 40 0 p) → n' 40 0 p = n 33 0 s + (if m 99 (11 * s + p) = 2 then 65536 else 0) ∧ n' 41 0 (11 * v + p) = m 98 (11 * s + p))) := by
  unfold N_Sheet_apply
  refine ev_bind (P := fun n' => (∀ K, K ≠ 40 → K ≠ 41 → n' K = n K) ∧ (∀ j, ¬ (11 * v ≤ j ∧ j < 11 * v + 11) → n' 41 0 j = n 41 0 j) ∧ ∀ p, 0 ≤ p → p < 11 → ((m 99 (11 * s + p) = 0 ∨ n 33 0 s + (if m 99 (11 * s + p) = 2 then 65536 else 0) < n 40 0 p) → n' 40 0 p = n 40 0 p ∧ n' 41 0 (11 * v + p) = n 41 0 (11 * v + p)) ∧ (¬ (m 99 (11 * s + p) = 0 ∨ n 33 0 s + (if m 99 (11 * s + p) = 2 then 65536 else 0) < n 40 0 p) → n' 40 0 p = n 33 0 s + (if m 99 (11 * s + p) = 2 then 65536 else 0) ∧ n' 41 0 (11 * v + p) = m 98 (11 * s + p))) ?_ (fun n' hn => ev_ok hn)
  unfold NL_Sheet_apply_2
  refine ev_it (fun t : Int × NS => (0 ≤ t.1 ∧ t.1 ≤ 11) ∧ (∀ K, K ≠ 40 → K ≠ 41 → t.2 K = n K) ∧ (∀ j, ¬ (11 * v ≤ j ∧ j < 11 * v + t.1) → t.2 41 0 j = n 41 0 j) ∧ (∀ j, t.1 ≤ j → t.2 40 0 j = n 40 0 j) ∧ ∀ p, 0 ≤ p → p < t.1 → ((m 99 (11 * s + p) = 0 ∨ n 33 0 s + (if m 99 (11 * s + p) = 2 then 65536 else 0) < n 40 0 p) → t.2 40 0 p = n 40 0 p ∧ t.2 41 0 (11 * v + p) = n 41 0 (11 * v + p)) ∧ (¬ (m 99 (11 * s + p) = 0 ∨ n 33 0 s + (if m 99 (11 * s + p) = 2 then 65536 else 0) < n 40 0 p) → t.2 40 0 p = n 33 0 s + (if m 99 (11 * s + p) = 2 then 65536 else 0) ∧ t.2 41 0 (11 * v + p) = m 98 (11 * s + p))) (fun t => 11 - t.1) (fun t ht => ?_) ⟨by show (0 : Int) ≤ 0 ∧ (0 : Int) ≤ 11; omega, fun _ _ _ => rfl, fun _ _ => rfl, fun _ _ => rfl, fun p x y => by have y : p < 0 := y; omega⟩
  obtain ⟨q, n1⟩ := t
  obtain ⟨g1, g2, g3, g4, g5⟩ := ht
  simp only at g1 g2 g3 g4 g5
  show ev (nb_Sheet_apply_2 s (v * 11) q n1) _
  unfold nb_Sheet_apply_2
  refine ev_if (fun hlt => ?_) (fun hge => ev_inr ⟨g2, fun j hj => g3 j (by omega), fun p x y => g5 p x (by omega)⟩)
  obtain ⟨hr, hR⟩ := hR
  have hRq := hR q g1.1 hlt
  have e34 : n1 34 = n 34 := g2 34 (by decide) (by decide)
  have e39 : n1 39 = n 39 := g2 39 (by decide) (by decide)
  have e33 : n1 33 = n 33 := g2 33 (by decide) (by decide)
  rw [e34, e39, e33, show n 34 0 s * 11 + q = 11 * n 34 0 s + q by omega]
  have g4q := g4 q (Int.le_refl _)
  -- it stays
  have stay : (m 99 (11 * s + q) = 0 ∨ n 33 0 s + (if m 99 (11 * s + q) = 2 then 65536 else 0) < n 40 0 q) → ev (some (.inl (q + 1, n1)) : Option ((Int × NS) ⊕ NS)) (lp (fun t : Int × NS => (0 ≤ t.1 ∧ t.1 ≤ 11) ∧ (∀ K, K ≠ 40 → K ≠ 41 → t.2 K = n K) ∧ (∀ j, ¬ (11 * v ≤ j ∧ j < 11 * v + t.1) → t.2 41 0 j = n 41 0 j) ∧ (∀ j, t.1 ≤ j → t.2 40 0 j = n 40 0 j) ∧ ∀ p, 0 ≤ p → p < t.1 → ((m 99 (11 * s + p) = 0 ∨ n 33 0 s + (if m 99 (11 * s + p) = 2 then 65536 else 0) < n 40 0 p) → t.2 40 0 p = n 40 0 p ∧ t.2 41 0 (11 * v + p) = n 41 0 (11 * v + p)) ∧ (¬ (m 99 (11 * s + p) = 0 ∨ n 33 0 s + (if m 99 (11 * s + p) = 2 then 65536 else 0) < n 40 0 p) → t.2 40 0 p = n 33 0 s + (if m 99 (11 * s + p) = 2 then 65536 else 0) ∧ t.2 41 0 (11 * v + p) = m 98 (11 * s + p))) (fun t => 11 - t.1) (q, n1) (fun n' => (∀ K, K ≠ 40 → K ≠ 41 → n' K = n K) ∧ (∀ j, ¬ (11 * v ≤ j ∧ j < 11 * v + 11) → n' 41 0 j = n 41 0 j) ∧ ∀ p, 0 ≤ p → p < 11 → ((m 99 (11 * s + p) = 0 ∨ n 33 0 s + (if m 99 (11 * s + p) = 2 then 65536 else 0) < n 40 0 p) → n' 40 0 p = n 40 0 p ∧ n' 41 0 (11 * v + p) = n 41 0 (11 * v + p)) ∧ (¬ (m 99 (11 * s + p) = 0 ∨ n 33 0 s + (if m 99 (11 * s + p) = 2 then 65536 else 0) < n 40 0 p) → n' 40 0 p = n 33 0 s + (if m 99 (11 * s + p) = 2 then 65536 else 0) ∧ n' 41 0 (11 * v + p) = m 98 (11 * s + p)))) := fun hst => by
    refine ev_inl ⟨⟨by show 0 ≤ q + 1 ∧ q + 1 ≤ 11; omega, g2, fun j hj => g3 j (fun y => hj ⟨y.1, by show j < 11 * v + (q + 1); omega⟩), fun j hj => g4 j (by have hj : q + 1 ≤ j := hj; omega), fun p x y => ?_⟩, by show 11 - (q + 1) < 11 - q; omega, by show 0 ≤ 11 - q; omega⟩
    have y : p < q + 1 := y
    by_cases z : p = q
    · rw [z]
      exact ⟨fun _ => ⟨g4q, g3 _ (by omega)⟩, fun u => absurd hst u⟩
    · exact g5 p x (by omega)
  have put : ∀ (rank is : Int), rank = n 33 0 s + (if m 99 (11 * s + q) = 2 then 65536 else 0) → is = m 98 (11 * s + q) → ¬ (m 99 (11 * s + q) = 0 ∨ n 33 0 s + (if m 99 (11 * s + q) = 2 then 65536 else 0) < n 40 0 q) → ev (some (.inl (q + 1, nw (nw n1 40 0 q rank) 41 0 (11 * v + q) is)) : Option ((Int × NS) ⊕ NS)) (lp (fun t : Int × NS => (0 ≤ t.1 ∧ t.1 ≤ 11) ∧ (∀ K, K ≠ 40 → K ≠ 41 → t.2 K = n K) ∧ (∀ j, ¬ (11 * v ≤ j ∧ j < 11 * v + t.1) → t.2 41 0 j = n 41 0 j) ∧ (∀ j, t.1 ≤ j → t.2 40 0 j = n 40 0 j) ∧ ∀ p, 0 ≤ p → p < t.1 → ((m 99 (11 * s + p) = 0 ∨ n 33 0 s + (if m 99 (11 * s + p) = 2 then 65536 else 0) < n 40 0 p) → t.2 40 0 p = n 40 0 p ∧ t.2 41 0 (11 * v + p) = n 41 0 (11 * v + p)) ∧ (¬ (m 99 (11 * s + p) = 0 ∨ n 33 0 s + (if m 99 (11 * s + p) = 2 then 65536 else 0) < n 40 0 p) → t.2 40 0 p = n 33 0 s + (if m 99 (11 * s + p) = 2 then 65536 else 0) ∧ t.2 41 0 (11 * v + p) = m 98 (11 * s + p))) (fun t => 11 - t.1) (q, n1) (fun n' => (∀ K, K ≠ 40 → K ≠ 41 → n' K = n K) ∧ (∀ j, ¬ (11 * v ≤ j ∧ j < 11 * v + 11) → n' 41 0 j = n 41 0 j) ∧ ∀ p, 0 ≤ p → p < 11 → ((m 99 (11 * s + p) = 0 ∨ n 33 0 s + (if m 99 (11 * s + p) = 2 then 65536 else 0) < n 40 0 p) → n' 40 0 p = n 40 0 p ∧ n' 41 0 (11 * v + p) = n 41 0 (11 * v + p)) ∧ (¬ (m 99 (11 * s + p) = 0 ∨ n 33 0 s + (if m 99 (11 * s + p) = 2 then 65536 else 0) < n 40 0 p) → n' 40 0 p = n 33 0 s + (if m 99 (11 * s + p) = 2 then 65536 else 0) ∧ n' 41 0 (11 * v + p) = m 98 (11 * s + p)))) := fun rank is hra his hst => by
    refine ev_inl ⟨⟨by show 0 ≤ q + 1 ∧ q + 1 ≤ 11; omega, fun K x y => ?_, fun j hj => ?_, fun j hj => ?_, fun p x y => ?_⟩, by show 11 - (q + 1) < 11 - q; omega, by show 0 ≤ 11 - q; omega⟩
    · show nw (nw n1 40 0 q rank) 41 0 (11 * v + q) is K = n K
      rw [nw_nK y, nw_nK x]; exact g2 K x y
    · have hj : ¬ (11 * v ≤ j ∧ j < 11 * v + (q + 1)) := hj
      show nw (nw n1 40 0 q rank) 41 0 (11 * v + q) is 41 0 j = n 41 0 j
      rw [nw_ns (by omega), nw_nK (by decide)]; exact g3 j (by omega)
    · have hj : q + 1 ≤ j := hj
      show nw (nw n1 40 0 q rank) 41 0 (11 * v + q) is 40 0 j = n 40 0 j
      rw [nw_nK (by decide), nw_ns (by omega)]; exact g4 j (by omega)
    · have y : p < q + 1 := y
      show (_ → nw (nw n1 40 0 q rank) 41 0 (11 * v + q) is 40 0 p = _ ∧ nw (nw n1 40 0 q rank) 41 0 (11 * v + q) is 41 0 (11 * v + p) = _) ∧ (_ → nw (nw n1 40 0 q rank) 41 0 (11 * v + q) is 40 0 p = _ ∧ nw (nw n1 40 0 q rank) 41 0 (11 * v + q) is 41 0 (11 * v + p) = _)
      rw [nw_nK (show (40 : Nat) ≠ 41 by decide)]
      by_cases z : p = q
      · rw [z, nw_eq, nw_eq]
        exact ⟨fun u => absurd u hst, fun _ => ⟨hra, his⟩⟩
      · rw [nw_ns z, nw_ns (by omega), nw_nK (show (41 : Nat) ≠ 40 by decide)]
        exact g5 p x (by omega)
  have e11 : v * 11 + q = 11 * v + q := by omega
  refine ev_ix (by omega) (ev_ck (by omega) (ev_ck (by omega) (ev_ix (by omega) ?_)))
  unfold nk_Sheet_apply_51 nk_Sheet_apply_102
  rw [e11, g4q]
  generalize hD : n 39 0 (11 * n 34 0 s + q) = D at *
  rcases hRq with ⟨a1, a2⟩ | ⟨a1, a2, a3⟩ | ⟨a1, a2, a3⟩
  · rw [if_pos (show D < 65536 by omega), ix_e (a := s) (L := 41) _ ⟨hs.1, by omega⟩, if_pos a1, ck_e (a := q + 1) _ (by omega)]
    exact stay (.inl a2)
  · rw [if_pos (show D < 65536 by omega), ix_e (a := s) (L := 41) _ ⟨hs.1, by omega⟩, if_neg (show ¬ D = -1 by omega), ix_e (a := q) (L := 11) _ ⟨g1.1, hlt⟩]
    by_cases y : n 33 0 s < n 40 0 q
    · rw [if_pos y, ck_e (a := q + 1) _ (by omega)]
      exact stay (.inr (by rw [if_neg (show ¬ m 99 (11 * s + q) = 2 by omega)]; omega))
    · rw [if_neg y, ix_e (a := q) (L := 11) _ ⟨g1.1, hlt⟩]
      unfold st
      dsimp only
      rw [ck_e (a := 11 * v + q) _ (by omega), if_pos (show D < 65536 by omega), ix_e (a := 11 * v + q) (L := 1320) _ (by omega), ck_e (a := q + 1) _ (by omega)]
      exact put _ _ (by rw [if_neg (show ¬ m 99 (11 * s + q) = 2 by omega)]; omega) a2 (fun u => by
        rw [if_neg (show ¬ m 99 (11 * s + q) = 2 by omega)] at u; omega)
  · rw [if_neg (show ¬ D < 65536 by omega), ix_e (a := s) (L := 41) _ ⟨hs.1, by omega⟩, ck_e (a := n 33 0 s + 65536) _ (by omega), if_neg (show ¬ D = -1 by omega), ix_e (a := q) (L := 11) _ ⟨g1.1, hlt⟩]
    by_cases y : n 33 0 s + 65536 < n 40 0 q
    · rw [if_pos y, ck_e (a := q + 1) _ (by omega)]
      exact stay (.inr (by rw [if_pos a1]; omega))
    · rw [if_neg y, ix_e (a := q) (L := 11) _ ⟨g1.1, hlt⟩]
      unfold st
      dsimp only
      rw [ck_e (a := 11 * v + q) _ (by omega), if_neg (show ¬ D < 65536 by omega), ck_e (a := D - 65536) _ (by omega), ix_e (a := 11 * v + q) (L := 1320) _ (by omega), ck_e (a := q + 1) _ (by omega)]
      exact put _ _ (by rw [if_pos a1]) (by omega) (fun u => by rw [if_pos a1] at u; omega)
end U1
