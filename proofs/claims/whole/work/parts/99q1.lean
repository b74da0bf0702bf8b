/-! THE WAY OF AN EVENT, in both -/
section Q1
variable {n n' n'' n2 : NS} {m m' m'' m0 m2 : YS} {A B N N' b a δ δ' fr to d L r r' x f v i M kf G G' c0 WW : Int} {o e p o' e' p' κ g : Int → Int} {As Bs W S : Int → Prop}
theorem up_one (hT : JTr n m N o e p) (h69 : m 69 0 < 2000000000) (k j : Int) (n1 : NS) (m1 : YS) (k0 : 0 ≤ k) (k1 : k < N) (a1 : ∀ K, K ≠ 0 → K ≠ 46 → n1 K = n K) (a2 : ∀ s, s ≠ 16 → n1 0 0 s = n 0 0 s) (a3 : FY [179, 180, 181] m m1) (a4 : n1 0 0 16 = j ∧ m1 181 0 = j ∧ 0 ≤ j ∧ j + k < 120) (a5 : ∀ i, 0 ≤ i → i < j → MkR (n1 46 0 i) (m1 179 i) (m1 180 i) ∧ m1 180 i ≤ m 69 0)
    (ih : 1 ≤ k → ∀ (n2 : NS) (m2 : YS), (∀ K, K ≠ 0 → K ≠ 46 → n2 K = n K) → (∀ s, s ≠ 16 → n2 0 0 s = n 0 0 s) → FY [179, 180, 181] m m2 → (n2 0 0 16 = j + 1 ∧ m2 181 0 = j + 1) → (∀ i, 0 ≤ i → i < j + 1 → MkR (n2 46 0 i) (m2 179 i) (m2 180 i) ∧ m2 180 i ≤ m 69 0) →
      ∃ n' m', NL_Acts_startEvent_17 (o (p k)) n2 = some n' ∧ NL_Y_wayUp_7 (o (p k)) m2 = some m' ∧ (∀ K, K ≠ 0 → K ≠ 46 → n' K = n K) ∧ (∀ s, s ≠ 16 → n' 0 0 s = n 0 0 s) ∧ FY [179, 180, 181] m m' ∧ (n' 0 0 16 = m' 181 0 ∧ 0 ≤ m' 181 0 ∧ m' 181 0 ≤ 120) ∧ ∀ i, 0 ≤ i → i < m' 181 0 → MkR (n' 46 0 i) (m' 179 i) (m' 180 i) ∧ m' 180 i ≤ m 69 0) :
    ∃ n' m', NL_Acts_startEvent_17 (o k) n1 = some n' ∧ NL_Y_wayUp_7 (o k) m1 = some m' ∧ (∀ K, K ≠ 0 → K ≠ 46 → n' K = n K) ∧ (∀ s, s ≠ 16 → n' 0 0 s = n 0 0 s) ∧ FY [179, 180, 181] m m' ∧ (n' 0 0 16 = m' 181 0 ∧ 0 ≤ m' 181 0 ∧ m' 181 0 ≤ 120) ∧ ∀ i, 0 ≤ i → i < m' 181 0 → MkR (n' 46 0 i) (m' 179 i) (m' 180 i) ∧ m' 180 i ≤ m 69 0 := by
  have hG := hT.1.1.1
  have hv := hG.oB k0 k1
  have hl := hT.liv k0 k1
  have hbn := hT.1.born hl.1.1 hl.1.2 hl.2
  have hlk := (hT.1.1.2.2.2.2.1 k k0 k1).1
  have y1 : ∀ g, ¬ (179 ≤ g ∧ g ≤ 181) → m1 g = m g := fun g hg => a3 g (by simp only [List.mem_cons, List.not_mem_nil, or_false, not_or]; omega)
  have e7 : n1 7 = n 7 := a1 7 (by decide) (by decide)
  have emk : N_Tree_markOf (o k) n1 = some (m 55 (o k) * 128 + o k) := by
    unfold N_Tree_markOf ix ckL
    rw [e7, hlk.2.2.2.2.2, if_pos hv, if_pos (by omega), if_pos (by omega)]
  generalize hn2 : nw (nw n1 46 0 j (m 55 (o k) * 128 + o k)) 0 0 16 (j + 1) = n2
  have b1 : ∀ K, K ≠ 0 → K ≠ 46 → n2 K = n K := fun K u w => by rw [← hn2, nw_nK u, nw_nK w]; exact a1 K u w
  have b2 : ∀ s, s ≠ 16 → n2 0 0 s = n 0 0 s := fun s hs => by rw [← hn2, nw_ns hs, nw_nK (by decide)]; exact a2 s hs
  have c46 : ∀ i, n2 46 0 i = if i = j then m 55 (o k) * 128 + o k else n1 46 0 i := fun i => by
    rw [← hn2, nw_nK (by decide)]
    by_cases u : i = j
    · rw [u, nw_eq, if_pos rfl]
    · rw [nw_ns u, if_neg u]
  generalize hm2 : yw (yw (yw m1 179 j (o k)) 180 j (m 55 (o k))) 181 0 (j + 1) = m2
  have b3 : FY [179, 180, 181] m m2 := fun g hg => by
    have hg' := hg
    simp only [List.mem_cons, List.not_mem_nil, or_false, not_or] at hg'
    rw [← hm2, yw_nF hg'.2.2, yw_nF hg'.2.1, yw_nF hg'.1]; exact a3 g hg
  have b4 : n2 0 0 16 = j + 1 ∧ m2 181 0 = j + 1 := ⟨by rw [← hn2, nw_eq], by rw [← hm2, yw_eq]⟩
  have c179 : ∀ i, m2 179 i = (if i = j then o k else m1 179 i) ∧ m2 180 i = (if i = j then m 55 (o k) else m1 180 i) := fun i => by
    rw [← hm2, yw_nF (show (179 : Nat) ≠ 181 by decide), yw_nF (show (179 : Nat) ≠ 180 by decide), yw_nF (show (180 : Nat) ≠ 181 by decide)]
    by_cases u : i = j
    · rw [u, yw_eq, yw_eq, if_pos rfl, if_pos rfl]; exact ⟨rfl, rfl⟩
    · rw [yw_ni u, yw_ni u, if_neg u, if_neg u, yw_nF (by decide)]; exact ⟨rfl, rfl⟩
  have b5 : ∀ i, 0 ≤ i → i < j + 1 → MkR (n2 46 0 i) (m2 179 i) (m2 180 i) ∧ m2 180 i ≤ m 69 0 := fun i i0 i1 => by
    rw [c46, (c179 i).1, (c179 i).2]
    by_cases u : i = j
    · rw [if_pos u, if_pos u, if_pos u]; exact ⟨⟨rfl, hv, hbn.1⟩, hbn.2⟩
    · rw [if_neg u, if_neg u, if_neg u]; exact a5 i i0 (by omega)
  have ix1 : ∀ {α : Type} (x : Option α), ix j 120 x = x := fun x => by unfold ix; rw [if_pos (by omega)]
  have ix2 : ∀ {α : Type} (x : Option α), ix (o k) 120 x = x := fun x => by unfold ix; rw [if_pos hv]
  have ckj : ∀ {α : Type} (x : Option α), ck (j + 1) x = x := fun x => by unfold ck; rw [if_pos (by have := a4.2.2; omega)]
  have eC : nb_Acts_startEvent_17 (o k) n1 = some (.inl (n 7 (o k) 2, n2)) := by
    unfold nb_Acts_startEvent_17
    rw [if_neg (by omega), a4.1, if_pos (by omega), emk]
    simp only [Option.bind_some, ix1]
    unfold st
    dsimp only
    rw [nw_nK (show (0 : Nat) ≠ 46 by decide), a4.1, ckj, ix2, hn2, b1 7 (by decide) (by decide)]
  have eY : nb_Y_wayUp_7 (o k) m1 = some (.inl (m 49 (o k), m2)) := by
    have eW : N_Y_onWay (o k) m1 = some m2 := by
      unfold N_Y_onWay st
      dsimp only
      rw [a4.2.1, ix1, ix2, yw_nF (show (181 : Nat) ≠ 179 by decide), a4.2.1, ix1, yw_nF (show (55 : Nat) ≠ 179 by decide), y1 55 (by decide), yw_nF (show (181 : Nat) ≠ 180 by decide), yw_nF (show (181 : Nat) ≠ 179 by decide), a4.2.1, ckj, hm2]
    unfold nb_Y_wayUp_7
    rw [if_neg (by omega), eW]
    simp only [Option.bind_some, ix2]
    rw [b3 49 (by decide)]
  have e1 : NL_Acts_startEvent_17 (o k) n1 = NL_Acts_startEvent_17 (n 7 (o k) 2) n2 := by
    unfold NL_Acts_startEvent_17
    exact it_inl (f := fun s : Int × NS => nb_Acts_startEvent_17 s.1 s.2) (s := (o k, n1)) eC
  have e2 : NL_Y_wayUp_7 (o k) m1 = NL_Y_wayUp_7 (m 49 (o k)) m2 := by
    unfold NL_Y_wayUp_7
    exact it_inl (f := fun s : Int × YS => nb_Y_wayUp_7 s.1 s.2) (s := (o k, m1)) eY
  rw [e1, e2, hlk.1]
  by_cases hk : k = 0
  · subst hk
    have hp : m 49 (o 0) = -1 := hG.par0
    rw [hp]
    refine ⟨n2, m2, ?_, ?_, b1, b2, b3, ⟨by rw [b4.1, b4.2], by rw [b4.2]; omega, by rw [b4.2]; omega⟩, fun i i0 i1 => b5 i i0 (by rw [b4.2] at i1; exact i1)⟩
    · unfold NL_Acts_startEvent_17
      refine it_inr (f := fun s : Int × NS => nb_Acts_startEvent_17 s.1 s.2) (s := (-1, n2)) ?_
      show nb_Acts_startEvent_17 (-1) n2 = _
      unfold nb_Acts_startEvent_17
      rw [if_pos rfl]
    · unfold NL_Y_wayUp_7
      refine it_inr (f := fun s : Int × YS => nb_Y_wayUp_7 s.1 s.2) (s := (-1, m2)) ?_
      show nb_Y_wayUp_7 (-1) m2 = _
      unfold nb_Y_wayUp_7
      rw [if_pos rfl]
  · have hp : m 49 (o k) = o (p k) := hG.parE (by omega) k1
    rw [hp]
    exact ih (by omega) n2 m2 b1 b2 b3 b4 b5
theorem up_both (hT : JTr n m N o e p) (h69 : m 69 0 < 2000000000) : ∀ (z : Nat) (k j : Int) (n1 : NS) (m1 : YS), k.toNat ≤ z → 0 ≤ k → k < N → (∀ K, K ≠ 0 → K ≠ 46 → n1 K = n K) → (∀ s, s ≠ 16 → n1 0 0 s = n 0 0 s) → FY [179, 180, 181] m m1 → (n1 0 0 16 = j ∧ m1 181 0 = j ∧ 0 ≤ j ∧ j + k < 120) → (∀ i, 0 ≤ i → i < j → MkR (n1 46 0 i) (m1 179 i) (m1 180 i) ∧ m1 180 i ≤ m 69 0) →
    ∃ n' m', NL_Acts_startEvent_17 (o k) n1 = some n' ∧ NL_Y_wayUp_7 (o k) m1 = some m' ∧ (∀ K, K ≠ 0 → K ≠ 46 → n' K = n K) ∧ (∀ s, s ≠ 16 → n' 0 0 s = n 0 0 s) ∧ FY [179, 180, 181] m m' ∧ (n' 0 0 16 = m' 181 0 ∧ 0 ≤ m' 181 0 ∧ m' 181 0 ≤ 120) ∧ ∀ i, 0 ≤ i → i < m' 181 0 → MkR (n' 46 0 i) (m' 179 i) (m' 180 i) ∧ m' 180 i ≤ m 69 0 := by
  have hG := hT.1.1.1
  intro z
  induction z with
  | zero =>
    intro k j n1 m1 hz k0 k1 a1 a2 a3 a4 a5
    exact up_one hT h69 k j n1 m1 k0 k1 a1 a2 a3 a4 a5 (fun hk => by omega)
  | succ z ih =>
    intro k j n1 m1 hz k0 k1 a1 a2 a3 a4 a5
    refine up_one hT h69 k j n1 m1 k0 k1 a1 a2 a3 a4 a5 (fun hk n2 m2 b1 b2 b3 b4 b5 => ?_)
    have hp := hG.pB (k := k) (by omega) k1
    exact ih (p k) (j + 1) n2 m2 (by omega) hp.1 (by omega) b1 b2 b3 ⟨b4.1, b4.2, by omega, by omega⟩ b5
end Q1
