/-! AN ITEM comes on the line, in both: all of it -/
section W2
variable {n n' n'' : NS} {m m' m'' : YS} {A B a b c y q s E F v wd u w t sh Y H I l gap at' it' : Int}
/-- where the item's x is put -/
theorem c_itX (hW : WLc n) (hk : ITk n m v it') (h12 : n 5 0 12 + gap = at' + E) (ha : 0 ≤ at' ∧ at' ≤ 2000000) (hE : 0 ≤ E ∧ E ≤ 50) : ∃ n1, nk_Layout_putItem_99 it' w gap n = nk_Layout_putItem_142 it' w gap n1 ∧ (∀ K, K ≠ 3 → K ≠ 99 → n1 K = n K) ∧ (∀ a s, s ≠ 2 → n1 3 a s = n 3 a s) ∧ (∀ a, 0 ≤ a → -1 - a ≠ it' → n1 3 a = n 3 a) ∧ (∀ q, q ≠ n 5 0 5 → n1 99 q = n 99 q) ∧ (∀ j, (0 ≤ it' → j ≠ 6 * it' + 3) → n1 99 (n 5 0 5) j = n 99 (n 5 0 5) j) ∧ ixX n1 it' = at' + E := by
  obtain ⟨w1, w2, w3, w4, w5⟩ := hW
  unfold nk_Layout_putItem_99 st
  dsimp only
  rw [h12]
  rcases hk with ⟨h1, h2, h3, h4, h5⟩ | ⟨h1, h2, h3⟩
  · rw [if_pos h1, ck_e _ (by omega), ix_e _ (by omega), ck_e _ (by omega)]
    refine ⟨_, rfl, fun K x y => nw_nK x, fun a s x => nw_ns x, fun a x y => nw_ni (by omega), fun q _ => by rw [nw_nK (by decide)], fun j _ => by rw [nw_nK (by decide)], ?_⟩
    unfold ixX
    rw [if_pos h1, nw_eq]
  · have hnn : ∀ {α : Type} (x : Option α), nn (n 5 0 5) x = x := fun x => if_pos w5.1
    have hdx : ∀ {α : Type} (x : Option α), dx n (n 5 0 5) 0 (it' * 6 + 3) x = x := fun x => if_pos ⟨w1.1, by omega, by omega⟩
    rw [if_neg (by omega), hnn, ck_e _ (by omega), ck_e _ (by omega), ck_e _ (by omega), hdx, show it' * 6 + 3 = 6 * it' + 3 by omega]
    refine ⟨_, rfl, fun K x y => nw_nK y, fun a s x => by rw [nw_nK (by decide)], fun a x y => by rw [nw_nK (by decide)], fun q x => by rw [nw_ni x], fun j x => nw_ns (x h1), ?_⟩
    unfold ixX
    rw [if_neg (by omega), nw_nK (show (5 : Nat) ≠ 99 by decide), nw_eq]
theorem putI_both (hB : BI A B n) (hW : WLc n) (hL : LFl n m v E wd F) (hIt : LIt n m v E) (hWt : LWt n m v F) (hk : ITk n m v it') (hnew : ∀ i, 0 ≤ i → i < m 131 0 → m 134 i ≠ it') (hI : m 131 0 < 24000) (h12 : n 5 0 12 + gap = at' + E) (h13 : n 5 0 13 = m 129 0 + E) (hb29 : -2000000 ≤ m 129 0 ∧ m 129 0 ≤ 1300000) (ha : 0 ≤ at' ∧ at' ≤ 2000000) (hw : 0 ≤ w ∧ w ≤ 1300000) (hg : 0 ≤ gap ∧ gap ≤ 9) :
    ∃ n', nk_Layout_putItem_99 it' w gap n = some n' ∧ LSx n' (yw (mP m it' w at') 144 0 0) v E wd F ∧ BI A B n' ∧ WLc n' ∧ FRl v n n' ∧ FVy v m (yw (mP m it' w at') 144 0 0) ∧ pot (yw (mP m it' w at') 144 0 0) F ≤ pot m F + iH m it'
      ∧ (∀ a, 0 ≤ a → SNb n m E a → SNb n' (yw (mP m it' w at') 144 0 0) E a) ∧ (∀ w', 0 ≤ w' → SNw n m E w' → SNw n' (yw (mP m it' w at') 144 0 0) E w') := by
  have hE := hL.1.2.2.2.1
  obtain ⟨⟨i1, i2, i3, i4⟩, i5, i6, i7⟩ := hIt
  obtain ⟨⟨t1, t2, t3⟩, t4, t5⟩ := hWt
  have hc := hB.2.2.2.1
  have hih := hk.iH_b
  have hmH := mxH_b (n := n) (m := m) (v := v) (m 131 0).toNat (fun i x y => (i5 i x (by omega)).2.1)
  obtain ⟨nA, a1, a2, a3, a4, a5, a6, a7⟩ := c_itX (w := w) hW hk h12 ha hE
  have aB : BI A B nA := hB.cg (a2 4 (by decide) (by decide)) (by rw [a2 5 (by decide) (by decide)]; exact ⟨rfl, rfl⟩) (a2 90 (by decide) (by decide)) (a2 91 (by decide) (by decide)) (a2 92 (by decide) (by decide)) (a2 93 (by decide) (by decide))
  have aW : WLc nA := by
    unfold WLc at *
    rw [a2 5 (by decide) (by decide), a2 92 (by decide) (by decide), a2 93 (by decide) (by decide)]; exact hW
  have eA5 : nA 5 = n 5 := a2 5 (by decide) (by decide)
  obtain ⟨n1, b1, b2, b3, b4, b5, b6, b7, b8, b9, b10⟩ := c_room (it' := it') (w := w) (gap := gap) aB aW (by rw [eA5, i1, a2 93 (by decide) (by decide)]; omega)
  rw [eA5] at b5 b7 b10
  rw [a2 90 (by decide) (by decide)] at b8 b9 b10
  obtain ⟨n', hn'⟩ : ∃ n', n' = nw (nw (nw (nw n1 99 (n1 5 0 9) (m 131 0) it') 5 0 10 (m 131 0 + 1)) 5 0 12 (at' + E + w)) 5 0 15 0 := ⟨_, rfl⟩
  have hC : nk_Layout_putItem_171 it' w gap n1 = some n' := by
    have e10 : n1 5 0 10 = m 131 0 := by rw [b7 10 (by decide)]; exact i1
    have e12 : n1 5 0 12 = n 5 0 12 := b7 12 (by decide)
    have hnn : ∀ {α : Type} (x : Option α), nn (n1 5 0 9) x = x := fun x => if_pos b3.2.2.2.2.2
    have hdx : ∀ {α : Type} (x : Option α), dx n1 (n1 5 0 9) 0 (m 131 0) x = x := fun x => if_pos ⟨b3.1.2, i2, by omega⟩
    unfold nk_Layout_putItem_171 st
    dsimp only
    rw [hnn, e10, hdx, nw_nK (show (5 : Nat) ≠ 99 by decide), e10, ck_e _ (by omega), ck_e _ (by omega), nw_ns (show (12 : Int) ≠ 10 by decide), nw_nK (show (5 : Nat) ≠ 99 by decide), e12, show n 5 0 12 + (gap + w) = at' + E + w by omega, ck_e _ (by omega), hn']
  -- what it is like
  have rK : ∀ K, K ∉ [3, 5, 90, 91, 92, 93, 99] → n' K = n K := fun K hK => by
    simp only [List.mem_cons, List.not_mem_nil, or_false, not_or] at hK
    rw [hn', nw_nK (by omega), nw_nK (by omega), nw_nK (by omega), nw_nK (by omega), b6 K (by omega) (by omega) (by omega) (by omega) (by omega) (by omega), a2 K (by omega) (by omega)]
  have r3 : n' 3 = nA 3 := by rw [hn', nw_nK (by decide), nw_nK (by decide), nw_nK (by decide), nw_nK (by decide), b6 3 (by decide) (by decide) (by decide) (by decide) (by decide) (by decide)]
  have r5 : ∀ s, s ≠ 9 → s ≠ 10 → s ≠ 12 → s ≠ 15 → n' 5 0 s = n 5 0 s := fun s x y z w => by rw [hn', nw_ns w, nw_ns z, nw_ns y, nw_nK (by decide), b7 s x]
  have r59 : n' 5 0 9 = n1 5 0 9 := by rw [hn', nw_ns (by decide), nw_ns (by decide), nw_ns (by decide), nw_nK (by decide)]
  have r99 : n' 99 = nw n1 99 (n1 5 0 9) (m 131 0) it' 99 := by rw [hn', nw_nK (by decide), nw_nK (by decide), nw_nK (by decide)]
  have r9x : ∀ K, K = 90 ∨ K = 91 ∨ K = 92 ∨ K = 93 → n' K = n1 K := fun K hK => by rw [hn', nw_nK (by omega), nw_nK (by omega), nw_nK (by omega), nw_nK (by omega)]
  have hWL : n 5 0 5 ≠ n1 5 0 9 := by have := b3.2.1; rw [b7 5 (by decide)] at this; exact this
  have rW : n' 99 (n 5 0 5) = nA 99 (n 5 0 5) := by rw [r99, nw_ni hWL, (b9 _ hc.2.1).2.2]
  have rLj : ∀ j, 0 ≤ j → j < m 131 0 → n' 99 (n' 5 0 9) j = n 99 (n 5 0 9) j := fun j x y => by
    rw [r59, r99, nw_ns (by omega), b5 j x (by omega), a5 _ (fun z => hW.2.1 z.symm)]
  have rLI : n' 99 (n' 5 0 9) (m 131 0) = it' := by rw [r59, r99, nw_eq]
  have rAs : ∀ a s, s ≠ 2 → s ≠ 3 → n' 3 a s = n 3 a s := fun a s x _ => by rw [r3]; exact a3 a s x
  have BI' : BI A B n' := b2.cg (by rw [hn', nw_nK (by decide), nw_nK (by decide), nw_nK (by decide), nw_nK (by decide)]) ⟨by rw [r5 5 (by decide) (by decide) (by decide) (by decide), b7 5 (by decide)], r59⟩ (r9x 90 (by omega)) (r9x 91 (by omega)) (r9x 92 (by omega)) (r9x 93 (by omega))
  have WL' : WLc n' := by
    unfold WLc at b3 ⊢
    rw [b7 5 (by decide), b7 6 (by decide)] at b3
    rw [r5 5 (by decide) (by decide) (by decide) (by decide), r59, r5 6 (by decide) (by decide) (by decide) (by decide), r9x 92 (by omega), r9x 93 (by omega)]; exact b3
  obtain ⟨mQ, hmQ⟩ : ∃ mQ, mQ = yw (mP m it' w at') 144 0 0 := ⟨_, rfl⟩
  rw [← hmQ]
  have qf : ∀ f, f ∉ [130, 131, 132, 134, 135, 144] → mQ f = m f := fun f hf => by
    simp only [List.mem_cons, List.not_mem_nil, or_false, not_or] at hf
    rw [hmQ, yw_nF (by omega), mP_o (by simp only [List.mem_cons, List.not_mem_nil, or_false, not_or]; omega)]
  have q131 : mQ 131 0 = m 131 0 + 1 := by rw [hmQ, yw_nF (by decide)]; unfold mP; rw [yw_nF (by decide), yw_nF (by decide), yw_eq]
  have q130 : mQ 130 0 = at' + w := by rw [hmQ, yw_nF (by decide)]; unfold mP; rw [yw_nF (by decide), yw_eq]
  have q132 : mQ 132 0 = max (m 132 0) (iH m it') := by rw [hmQ, yw_nF (by decide)]; unfold mP; rw [yw_eq]
  have q144 : mQ 144 0 = 0 := by rw [hmQ, yw_eq]
  have q134 : ∀ i, i ≠ m 131 0 → mQ 134 i = m 134 i := fun i x => by rw [hmQ, yw_nF (by decide)]; unfold mP; rw [yw_nF (by decide), yw_nF (by decide), yw_nF (by decide), yw_nF (by decide), yw_ni x]
  have q134I : mQ 134 (m 131 0) = it' := by rw [hmQ, yw_nF (by decide)]; unfold mP; rw [yw_nF (by decide), yw_nF (by decide), yw_nF (by decide), yw_nF (by decide), yw_eq]
  have q135 : ∀ i, i ≠ m 131 0 → mQ 135 i = m 135 i := fun i x => by rw [hmQ, yw_nF (by decide)]; unfold mP; rw [yw_nF (by decide), yw_nF (by decide), yw_nF (by decide), yw_ni x, yw_nF (by decide)]
  have q135I : mQ 135 (m 131 0) = at' := by rw [hmQ, yw_nF (by decide)]; unfold mP; rw [yw_nF (by decide), yw_nF (by decide), yw_nF (by decide), yw_eq]
  have hqf : ∀ f, f = 113 ∨ f = 109 ∨ f = 118 ∨ f = 105 ∨ f = 49 ∨ f = 112 → mQ f = m f := fun f hf => qf f (by simp only [List.mem_cons, List.not_mem_nil, or_false, not_or]; omega)
  have eW6 : ∀ i, n' 99 (n 5 0 5) (6 * i) = n 99 (n 5 0 5) (6 * i) := fun i => by rw [rW, a6 _ (fun _ => by omega)]
  have e505 : n' 5 0 5 = n 5 0 5 := r5 5 (by decide) (by decide) (by decide) (by decide)
  have kcg : ∀ x, ITk n m v x → ITk n' mQ v x := fun x hx => hx.cg rAs (r5 6 (by decide) (by decide) (by decide) (by decide)) e505 eW6 (fun f hf => hqf f (by omega))
  have qfl := flR_m (m := m) (m' := mQ) (y := 0) (F := F) (fun f hf => qf f (by simp only [List.mem_cons, List.not_mem_nil, or_false, not_or]; omega))
  have hxo : ∀ x, ITk n m v x → x ≠ it' → ixX n' x = ixX n x := fun x hx hne => by
    unfold ixX
    rw [e505, r3, rW]
    by_cases z : x < 0
    · rw [if_pos z, if_pos z, a4 (-1 - x) (by omega) (by omega)]
    · rw [if_neg z, if_neg z, a6 _ (fun _ => by omega)]
  have u3 : ∀ a, 0 ≤ a → -1 - a ≠ it' → n' 3 a = n 3 a := fun a x y => by rw [r3]; exact a4 a x y
  refine ⟨n', by rw [a1, b1]; exact hC, ⟨?_, ?_, ?_, ?_⟩, BI', WL', ?_, ?_, ?_, ?_, ?_⟩
  · -- FLOATS
    obtain ⟨l1, l2, l5, l6, l7⟩ := hL
    refine LFl.cy (m := m) ⟨l1.cg (r5 8 (by decide) (by decide) (by decide) (by decide)) rAs rfl rfl, by rw [r5 17 (by decide) (by decide) (by decide) (by decide)]; exact l2, l5.cg (fun f _ _ => by rw [rK 43 (by decide)]) (fun f x y => ?_) (fun _ _ _ => ⟨rfl, rfl, rfl, rfl, rfl⟩), by rw [r5 19 (by decide) (by decide) (by decide) (by decide)]; exact l6, by rw [r5 11 (by decide) (by decide) (by decide) (by decide)]; exact l7⟩ (fun f hf => qf f (by simp only [List.mem_cons, List.not_mem_nil, or_false, not_or]; omega))
    have ft := l5 f x y
    refine u3 _ ft.1.1 (fun z => ?_)
    rcases hk with g | g
    · have h2 : -1 - it' = n 43 0 f := by omega
      have g7 := g.2.2.2.2.2.2
      rw [h2] at g7
      have := ft.2.2.2.2.2.2
      omega
    · have := ft.1; omega
  · -- items
    refine ⟨⟨by rw [hn', nw_ns (by decide), nw_ns (by decide), nw_eq, q131], by omega, by omega, ?_⟩, fun i x y => ?_, fun i j x y z => ?_, ?_⟩
    · rw [q131, r59, r9x 93 (by omega)]
      have : n1 5 0 10 = m 131 0 := by rw [b7 10 (by decide)]; exact i1
      omega
    · rw [q131] at y
      by_cases z : i = m 131 0
      · rw [z, rLI, q134I, q135I]
        refine ⟨rfl, kcg it' hk, ?_, ha⟩
        rw [← a7]
        unfold ixX
        rw [e505, r3, rW, eA5]
      · obtain ⟨j1, j2, j3, j4⟩ := i5 i x (by omega)
        rw [q134 i z, q135 i z, rLj i x (by omega)]
        refine ⟨j1, kcg _ j2, ?_, j4⟩
        rw [hxo _ j2 (hnew i x (by omega))]; exact j3
    · rw [q131] at z
      rw [q134 i (by omega)]
      by_cases z' : j = m 131 0
      · rw [z', q134I]; exact hnew i x (by omega)
      · rw [q134 j z']; exact i6 i j x y (by omega)
    · rw [q131, q132, mxH_s i2, q134I, iH_cg (m := m) (m' := mQ) (fun f hf => hqf f (by omega)), i7]
      rw [mxH_cg (m := m) (m' := mQ) (I := m 131 0) (fun i _ _ => q134 i (by omega)) (fun i _ _ => iH_cg (fun f hf => hqf f (by omega))) _ (by omega)]
  · -- those that wait
    rw [← qf 143 (by decide)] at t1 t2 t3 t4 t5
    refine ⟨⟨by rw [r5 18 (by decide) (by decide) (by decide) (by decide)]; exact t1, t2, t3⟩, fun i x y => ?_, fun i j x y z => ?_⟩
    · have h := t4 i x y
      rw [rK 43 (by decide), qf 142 (by decide)]
      exact ⟨h.1, h.2.cg rAs (fun f hf => hqf f (by omega))⟩
    · rw [rK 43 (by decide)]; exact t5 i j x y z
  · refine ⟨⟨.inl q144, .inl (by rw [hn', nw_eq])⟩, fun _ => ⟨?_, ?_, ?_, ?_, ?_⟩, fun z => by omega⟩
    · rw [hn', nw_ns (by decide), nw_eq, q130]; omega
    · rw [r5 13 (by decide) (by decide) (by decide) (by decide), qf 129 (by decide)]; exact h13
    · rw [hn', nw_eq, q144]
    · rw [q130]; omega
    · rw [qf 129 (by decide)]; exact hb29
  · -- what is left of the class
    refine ⟨fun K hK => rK K (by simp only [List.mem_cons, List.not_mem_nil, or_false, not_or] at hK ⊢; omega), rAs, fun a x y => u3 a x (fun z => ?_), fun s x => r5 s (by omega) (by omega) (by omega) (by omega), ⟨by rw [r9x 90 (by omega)]; exact b8, fun q hq => ?_, fun q hq x y => ?_, by rw [r59]; exact b10⟩, fun j x y => by rw [rW, a6 j (fun _ => by omega)], fun i x y => ?_⟩
    · rcases hk with g | g
      · have h2 : -1 - it' = a := by omega
        have g1 := g.2.2.2.2.1
        have g2 := g.2.2.2.2.2.2
        rw [h2] at g1 g2
        rcases y with y | y
        · exact y g1
        · omega
      · omega
    · rw [r9x 92 (by omega), r9x 93 (by omega), (b9 q hq).1, (b9 q hq).2.1, a2 92 (by decide) (by decide), a2 93 (by decide) (by decide)]; exact ⟨rfl, rfl⟩
    · rw [r99, nw_ni (by omega), (b9 q hq).2.2, a5 q x]
    · have hne : 0 ≤ it' → i ≠ it' := fun z1 z2 => by
        rcases hk with g | g
        · omega
        · rw [z2, g.2.2.1] at y; exact y g.2.2.2.2.2.2.2.1
      rw [rW, a6 _ (fun z => by have := hne z; omega), a6 _ (fun _ => by omega)]
      exact ⟨rfl, rfl⟩
  · refine ⟨fun f hf => qf f (by simp only [List.mem_cons, List.not_mem_nil, or_false, not_or] at hf ⊢; omega), fun a _ _ => ?_, fun w _ _ => ?_⟩
    · rw [qf 110 (by decide), qf 111 (by decide)]; exact ⟨rfl, rfl⟩
    · rw [qf 121 (by decide), qf 122 (by decide)]; exact ⟨rfl, rfl⟩
  · unfold pot
    have ez : zsm (wC mQ) 0 (m 143 0) = zsm (wC m) 0 (m 143 0) := zsm_cg (fun j _ _ => by unfold wC; rw [qf 142 (by decide), qf 113 (by decide), qf 105 (by decide)])
    rw [qf 127 (by decide), qfl.2.2.2, q132, qf 143 (by decide), ez]
    omega
  · intro a a0 h
    by_cases z : -1 - a = it'
    · exact .inr (.inl ⟨m 131 0, i2, by omega, by rw [q134I]; omega⟩)
    · rcases h with h | ⟨i, x, y, h⟩ | ⟨i, x, y, h⟩
      · refine .inl ?_
        unfold DNb at *
        rw [u3 a a0 z, qf 110 (by decide), qf 111 (by decide)]; exact h
      · exact .inr (.inl ⟨i, x, by omega, by rw [q134 i (by omega)]; exact h⟩)
      · exact .inr (.inr ⟨i, x, by rw [qf 143 (by decide)]; exact y, by rw [qf 142 (by decide)]; exact h⟩)
  · intro a a0 h
    by_cases z : a = it'
    · exact .inr ⟨m 131 0, i2, by omega, by rw [q134I]; exact z.symm⟩
    · rcases h with h | ⟨i, x, y, h⟩
      · refine .inl ?_
        unfold DNw at *
        rw [e505, rW, a6 _ (fun _ => by omega), a6 _ (fun _ => by omega), qf 121 (by decide), qf 122 (by decide)]; exact h
      · exact .inr ⟨i, x, by omega, by rw [q134 i (by omega)]; exact h⟩
end W2
