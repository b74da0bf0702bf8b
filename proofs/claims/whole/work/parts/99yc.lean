/-! WHAT IS MEASURED CAN BE LAID; a node and its words are moved to where their block is (the class) -/
section YC
variable {n n' n'' : NS} {m m' m'' : YS} {A B N a b c x y q s E v u w t k j r i L I X h fw kd md hh sd w0 : Int} {o e p g : Int → Int}
theorem dx_g {α : Type} (X : Option α) (hd : n 92 0 u = t ∧ 0 ≤ i ∧ i < n 93 0 u) : dx n u t i X = X := if_pos hd
theorem nn_g {α : Type} (X : Option α) (hd : 0 ≤ u) : nn u X = X := if_pos hd
theorem M1.p2 (hM : M1 A B N o e p N n m) : P2 A B N o e p (N - 1) n m := by
  obtain ⟨⟨hT, hS, hJ, hK, hB, hW⟩, a1, a2, a3, a4, a5, a6, a7⟩ := hM
  have hG := hT.1.1
  have hN := hG.N1
  refine ⟨⟨hG, hS, hJ, fun r x y => (hT.2.2.2 r x y).1.1, a1, a6.1, fun r x y => by omega⟩, ⟨fun r x y => ?_, hK⟩, a2, hB, hW.1, fun r h x1 x2 x3 x4 x5 x6 => by omega, a3.1, (a3.2 (by omega)).1⟩
  have g := (hT.1.2.2.2.2.1 r x y).1
  exact ⟨g.1, g.2.1, g.2.2.2.1⟩
/-- the words of a node -/
theorem mv_loop {n0 : NS} (hW : WLc n0) (h18 : 0 ≤ n0 3 v 18 ∧ n0 3 v 18 ≤ 24000) (h19 : 0 ≤ n0 3 v 19 ∧ n0 3 v 19 ≤ 200) (hL : ∀ i, n0 3 v 18 ≤ i → i < n0 3 v 18 + n0 3 v 19 → i < n0 5 0 6 ∧ (-2000000000 ≤ n0 99 (n0 5 0 5) (6 * i + 3) + n0 3 q 2 ∧ n0 99 (n0 5 0 5) (6 * i + 3) + n0 3 q 2 ≤ 2000000000) ∧ (-2000000000 ≤ n0 99 (n0 5 0 5) (6 * i + 4) + n0 3 q 3 ∧ n0 99 (n0 5 0 5) (6 * i + 4) + n0 3 q 3 ≤ 2000000000)) :
    ∀ (z : Nat) (i : Int) (n : NS), (n0 3 v 18 + n0 3 v 19 - i).toNat ≤ z → n0 3 v 18 ≤ i → i ≤ n0 3 v 18 + n0 3 v 19 → (∀ K, K ≠ 99 → n K = n0 K) → (∀ a, a ≠ n0 5 0 5 → n 99 a = n0 99 a) → (∀ j, 6 * i ≤ j → n 99 (n0 5 0 5) j = n0 99 (n0 5 0 5) j) →
    ∃ n', NL_Layout_moveToHolder_57 v q i n = some n' ∧ (∀ K, K ≠ 99 → n' K = n0 K) ∧ (∀ a, a ≠ n0 5 0 5 → n' 99 a = n0 99 a) ∧ (∀ j, (j % 6 ≠ 3 ∧ j % 6 ≠ 4) ∨ j < 6 * i ∨ 6 * (n0 3 v 18 + n0 3 v 19) ≤ j → n' 99 (n0 5 0 5) j = n 99 (n0 5 0 5) j) ∧ (∀ w, i ≤ w → w < n0 3 v 18 + n0 3 v 19 → n' 99 (n0 5 0 5) (6 * w + 3) = n0 99 (n0 5 0 5) (6 * w + 3) + n0 3 q 2 ∧ n' 99 (n0 5 0 5) (6 * w + 4) = n0 99 (n0 5 0 5) (6 * w + 4) + n0 3 q 3) := by
  obtain ⟨w1, w2, w3, w4, w5⟩ := hW
  have stop : ∀ i n, (∀ K, K ≠ 99 → n K = n0 K) → ¬ i < n0 3 v 18 + n0 3 v 19 → NL_Layout_moveToHolder_57 v q i n = some n := fun i n hn hi => by
    unfold NL_Layout_moveToHolder_57
    refine it_inr ?_
    show nb_Layout_moveToHolder_57 v q i n = _
    unfold nb_Layout_moveToHolder_57
    rw [hn 3 (by decide), ck_e _ (by omega), if_neg hi]
  intro z
  induction z with
  | zero =>
    intro i n hz i0 i1 f1 f2 f3
    exact ⟨n, stop i n f1 (by omega), f1, f2, fun _ _ => rfl, fun w x y => by omega⟩
  | succ z ih =>
    intro i n hz i0 i1 f1 f2 f3
    by_cases hlt : i < n0 3 v 18 + n0 3 v 19
    · obtain ⟨l1, l2, l3⟩ := hL i i0 hlt
      obtain ⟨R, hR⟩ : ∃ R, R = n0 5 0 5 := ⟨_, rfl⟩
      obtain ⟨n1, hn1⟩ : ∃ n1, n1 = nw n 99 R (i * 6 + 3) (n 99 R (i * 6 + 3) + n 3 q 2) := ⟨_, rfl⟩
      obtain ⟨n2, hn2⟩ : ∃ n2, n2 = nw n1 99 R (i * 6 + 4) (n1 99 R (i * 6 + 4) + n1 3 q 3) := ⟨_, rfl⟩
      have g1 : ∀ K, K ≠ 99 → n1 K = n K := fun K hK => by rw [hn1]; exact nw_nK hK
      have g2 : ∀ K, K ≠ 99 → n2 K = n K := fun K hK => by rw [hn2, nw_nK hK]; exact g1 K hK
      have g3 : ∀ a, a ≠ R → n2 99 a = n 99 a := fun a ha => by rw [hn2, nw_ni ha, hn1, nw_ni ha]
      have g4 : ∀ j, j ≠ i * 6 + 3 → j ≠ i * 6 + 4 → n2 99 R j = n 99 R j := fun j x y => by rw [hn2, nw_ns y, hn1, nw_ns x]
      have e1 : n 99 R (i * 6 + 3) = n0 99 R (6 * i + 3) := by rw [hR, f3 _ (by omega), show i * 6 + 3 = 6 * i + 3 by omega]
      have e2 : n1 99 R (i * 6 + 4) = n0 99 R (6 * i + 4) := by rw [hn1, nw_ns (by omega), hR, f3 _ (by omega), show i * 6 + 4 = 6 * i + 4 by omega]
      have e3 : n 3 = n0 3 := f1 3 (by decide)
      have g5 : n2 99 R (6 * i + 3) = n0 99 R (6 * i + 3) + n0 3 q 2 := by
        rw [hn2, nw_ns (by omega), hn1, show 6 * i + 3 = i * 6 + 3 by omega, nw_eq, e1, e3, show i * 6 + 3 = 6 * i + 3 by omega]
      have g6 : n2 99 R (6 * i + 4) = n0 99 R (6 * i + 4) + n0 3 q 3 := by
        rw [hn2, show 6 * i + 4 = i * 6 + 4 by omega, nw_eq, e2, g1 3 (by decide), e3, show i * 6 + 4 = 6 * i + 4 by omega]
      rw [← hR] at l2 l3
      have hst : nb_Layout_moveToHolder_57 v q i n = some (.inl (i + 1, n2)) := by
        unfold nb_Layout_moveToHolder_57 st
        dsimp only
        rw [f1 5 (by decide), ← hR, ← hn1, g1 5 (by decide), f1 5 (by decide), ← hR, ← hn2]
        have d1 : ∀ j, 0 ≤ j → j < 6 * n0 5 0 6 → n 92 0 R = 0 ∧ 0 ≤ j ∧ j < n 93 0 R := fun j x y => by
          rw [f1 92 (by decide), f1 93 (by decide), hR]; exact ⟨w1.1, x, by omega⟩
        have d2 : ∀ j, 0 ≤ j → j < 6 * n0 5 0 6 → n1 92 0 R = 0 ∧ 0 ≤ j ∧ j < n1 93 0 R := fun j x y => by
          rw [g1 92 (by decide), g1 93 (by decide)]; exact d1 j x y
        have hr0 : 0 ≤ R := by omega
        rw [e3, ck_e _ (by omega), if_pos hlt, nn_g _ hr0, ck_e _ (by omega), ck_e _ (by omega), dx_g _ (d1 _ (by omega) (by omega)), e1, ck_f _ l2, dx_g _ (d1 _ (by omega) (by omega)), nn_g _ hr0, ck_e _ (by omega), ck_e _ (by omega), dx_g _ (d2 _ (by omega) (by omega)), e2, g1 3 (by decide), e3, ck_f _ l3, dx_g _ (d2 _ (by omega) (by omega)), ck_e _ (by omega)]
      obtain ⟨n', r1, r2, r3, r4, r5⟩ := ih (i + 1) n2 (by omega) (by omega) (by omega) (fun K hK => (g2 K hK).trans (f1 K hK)) (fun a ha => (g3 a (by rw [hR]; exact ha)).trans (f2 a ha)) (fun j hj => by
        rw [← hR, g4 j (by omega) (by omega), hR]; exact f3 j (by omega))
      refine ⟨n', ?_, r2, r3, fun j hj => ?_, fun w x y => ?_⟩
      · rw [← r1]
        unfold NL_Layout_moveToHolder_57
        exact it_inl (f := fun s : Int × NS => nb_Layout_moveToHolder_57 v q s.1 s.2) (s := (i, n)) hst
      · rw [r4 j (by omega), ← hR]
        exact g4 j (by omega) (by omega)
      · by_cases hw : w = i
        · rw [hw, r4 _ (by omega), r4 _ (by omega), ← hR]; exact ⟨g5, g6⟩
        · exact r5 w (by omega) y
    · exact ⟨n, stop i n f1 hlt, f1, f2, fun _ _ => rfl, fun w x y => by omega⟩
/-- a node is moved -/
theorem c_mv (hW : WLc n) (h0 : n 3 v 0 ≠ 0) (h1 : n 3 v 1 = q) (hq : 0 ≤ q ∧ q < 120) (hne : q ≠ v) (hx : -2000000000 ≤ n 3 v 2 + n 3 q 2 ∧ n 3 v 2 + n 3 q 2 ≤ 2000000000) (hy : -2000000000 ≤ n 3 v 3 + n 3 q 3 ∧ n 3 v 3 + n 3 q 3 ≤ 2000000000) (h18 : 0 ≤ n 3 v 18 ∧ n 3 v 18 ≤ 24000) (h19 : 0 ≤ n 3 v 19 ∧ n 3 v 19 ≤ 200) (hL : ∀ i, n 3 v 18 ≤ i → i < n 3 v 18 + n 3 v 19 → i < n 5 0 6 ∧ (-2000000000 ≤ n 99 (n 5 0 5) (6 * i + 3) + n 3 q 2 ∧ n 99 (n 5 0 5) (6 * i + 3) + n 3 q 2 ≤ 2000000000) ∧ (-2000000000 ≤ n 99 (n 5 0 5) (6 * i + 4) + n 3 q 3 ∧ n 99 (n 5 0 5) (6 * i + 4) + n 3 q 3 ≤ 2000000000)) :
    ∃ n', N_Layout_moveToHolder v n = some n' ∧ (∀ K, K ≠ 3 → K ≠ 99 → n' K = n K) ∧ (∀ a, a ≠ v → n' 3 a = n 3 a) ∧ (∀ s, s ≠ 2 → s ≠ 3 → n' 3 v s = n 3 v s) ∧ (n' 3 v 2 = n 3 v 2 + n 3 q 2 ∧ n' 3 v 3 = n 3 v 3 + n 3 q 3) ∧ (∀ a, a ≠ n 5 0 5 → n' 99 a = n 99 a) ∧ (∀ j, (j % 6 ≠ 3 ∧ j % 6 ≠ 4) ∨ j < 6 * n 3 v 18 ∨ 6 * (n 3 v 18 + n 3 v 19) ≤ j → n' 99 (n 5 0 5) j = n 99 (n 5 0 5) j) ∧ (∀ w, n 3 v 18 ≤ w → w < n 3 v 18 + n 3 v 19 → n' 99 (n 5 0 5) (6 * w + 3) = n 99 (n 5 0 5) (6 * w + 3) + n 3 q 2 ∧ n' 99 (n 5 0 5) (6 * w + 4) = n 99 (n 5 0 5) (6 * w + 4) + n 3 q 3) := by
  obtain ⟨n1, hn1⟩ : ∃ n1, n1 = nw n 3 v 2 (n 3 v 2 + n 3 q 2) := ⟨_, rfl⟩
  obtain ⟨n2, hn2⟩ : ∃ n2, n2 = nw n1 3 v 3 (n1 3 v 3 + n1 3 q 3) := ⟨_, rfl⟩
  have gK : ∀ K, K ≠ 3 → n2 K = n K := fun K hK => by rw [hn2, nw_nK hK, hn1, nw_nK hK]
  have ga : ∀ a, a ≠ v → n2 3 a = n 3 a := fun a ha => by rw [hn2, nw_ni ha, hn1, nw_ni ha]
  have gs : ∀ s, s ≠ 2 → s ≠ 3 → n2 3 v s = n 3 v s := fun s x y => by rw [hn2, nw_ns y, hn1, nw_ns x]
  have e13 : n1 3 v 3 = n 3 v 3 := by rw [hn1, nw_ns (by decide)]
  have e1q : n1 3 q = n 3 q := by rw [hn1, nw_ni hne]
  have g2 : n2 3 v 2 = n 3 v 2 + n 3 q 2 := by rw [hn2, nw_ns (by decide), hn1, nw_eq]
  have g3 : n2 3 v 3 = n 3 v 3 + n 3 q 3 := by rw [hn2, nw_eq, e13, e1q]
  have e5 : n2 5 = n 5 := gK 5 (by decide)
  have e99 : n2 99 = n 99 := gK 99 (by decide)
  have e18 := gs 18 (by decide) (by decide)
  have e19 := gs 19 (by decide) (by decide)
  have eq : n2 3 q = n 3 q := ga q hne
  have hW2 : WLc n2 := by
    unfold WLc at *
    rw [gK 92 (by decide), gK 93 (by decide), e5]; exact hW
  obtain ⟨n', r1, r2, r3, r4, r5⟩ := mv_loop (n0 := n2) (v := v) (q := q) hW2 (by rw [e18]; exact h18) (by rw [e19]; exact h19) (by rw [e18, e19, e5, e99, eq]; exact hL) (n2 3 v 19).toNat (n2 3 v 18) n2 (by omega) (Int.le_refl _) (by omega) (fun _ _ => rfl) (fun _ _ => rfl) (fun _ _ => rfl)
  rw [e5, e99, e18, e19] at r4
  rw [e5, e99, e18, e19, eq] at r5
  rw [e5, e99] at r3
  have r33 : n' 3 = n2 3 := r2 3 (by decide)
  refine ⟨n', ?_, fun K x y => (r2 K y).trans (gK K x), fun a ha => by rw [r33]; exact ga a ha, fun s x y => by rw [r33]; exact gs s x y, by rw [r33]; exact ⟨g2, g3⟩, r3, r4, r5⟩
  unfold N_Layout_moveToHolder st
  dsimp only
  rw [h1, ← hn1, ← hn2, if_neg h0, if_neg (by omega), ix_e _ hq, ck_f _ hx, e13, e1q, ck_f _ hy, r1]
  rfl
/-- what is known of all nodes does not speak of places -/
theorem CTX.mv (hC : CTX n m N o e p k) (hK : ∀ K, K ≠ 3 → K ≠ 99 → n' K = n K) (h3 : ∀ a s, s ≠ 2 → s ≠ 3 → n' 3 a s = n 3 a s) (h99 : ∀ j, j % 6 ≠ 3 → j % 6 ≠ 4 → n' 99 (n 5 0 5) j = n 99 (n 5 0 5) j) (hm : FY [110, 111, 121, 122] m m') : CTX n' m' N o e p k := by
  obtain ⟨a1, a2, a3, a4, a5, a6, a7⟩ := hC
  have hf : ∀ f, f ∉ [110, 111, 121, 122] → m' f = m f := hm
  have e7 : n' 7 = n 7 := hK 7 (by decide) (by decide)
  have e5 : n' 5 = n 5 := hK 5 (by decide) (by decide)
  refine ⟨by rw [hf 49 (by decide), hf 50 (by decide), hf 52 (by decide)]; exact a1, ?_, ?_, fun r x y => ?_, fun r x y => (a5 r x y).cg (fun a s x y _ _ _ _ _ => h3 a s x y) (fun a _ => ⟨h3 a 5 (by decide) (by decide), by rw [hf 113 (by decide)]⟩) (hK 4 (by decide) (by decide)) (by rw [e5]) (by rw [e5]) h99 (fun f hf' => hf f (by simp only [List.mem_cons, List.not_mem_nil, or_false, not_or] at hf' ⊢; omega)), fun r r' x y z z1 z2 => ?_, fun r x y => ?_⟩
  · unfold LSt at *
    rw [hK 10 (by decide) (by decide), hK 22 (by decide) (by decide), e7]; exact a2
  · unfold JP at *
    rw [hf 46 (by decide)]; exact a3
  · rw [e7, hf 46 (by decide)]; exact a4 r x y
  · rw [hf 107 (by decide)] at z1 z2
    rw [hf 116 (by decide), h3 _ 19 (by decide) (by decide)]; exact a6 r r' x y z z1 z2
  · have := a7 r x y
    unfold LDb at *
    rw [h3 _ 5 (by decide) (by decide), h3 _ 14 (by decide) (by decide), h3 _ 15 (by decide) (by decide), hf 107 (by decide), hf 113 (by decide), hf 114 (by decide), hf 115 (by decide)]; exact this
end YC
