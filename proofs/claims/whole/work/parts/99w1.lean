/-! AN ITEM comes on the line, in both -/
/-- what the line leaves as it was, in the class -/
def FRl (v : Int) (n n' : NS) : Prop := (∀ K, K ∉ [3, 5, 90, 91, 92, 93, 99] → n' K = n K) ∧ (∀ a s, s ≠ 2 → s ≠ 3 → n' 3 a s = n 3 a s) ∧ (∀ a, 0 ≤ a → (n 3 a 1 ≠ v ∨ n 3 a 0 = 3) → n' 3 a = n 3 a) ∧ (∀ s, s < 9 → n' 5 0 s = n 5 0 s)
  ∧ (n 90 0 0 ≤ n' 90 0 0 ∧ (∀ q, q < n 90 0 0 → n' 92 0 q = n 92 0 q ∧ n' 93 0 q = n 93 0 q) ∧ (∀ q, q < n 90 0 0 → q ≠ n 5 0 5 → q ≠ n 5 0 9 → n' 99 q = n 99 q) ∧ (n' 5 0 9 = n 5 0 9 ∨ n 90 0 0 ≤ n' 5 0 9))
  ∧ (∀ j, j % 6 ≠ 3 → j % 6 ≠ 4 → n' 99 (n 5 0 5) j = n 99 (n 5 0 5) j)
  ∧ (∀ i, 0 ≤ i → n 3 (n 99 (n 5 0 5) (6 * i)) 1 ≠ v → n' 99 (n 5 0 5) (6 * i + 3) = n 99 (n 5 0 5) (6 * i + 3) ∧ n' 99 (n 5 0 5) (6 * i + 4) = n 99 (n 5 0 5) (6 * i + 4))
section W1
variable {n n' n'' : NS} {m m' m'' : YS} {A B a b c y q s E F v wd u w t sh Y H I l gap at' it' : Int}
theorem FRl.trans (h : FRl v n n') (h' : FRl v n' n'') : FRl v n n'' := by
  obtain ⟨a1, a2, a3, a4, ⟨a5, a6, a7, a8⟩, a9, a10⟩ := h
  obtain ⟨b1, b2, b3, b4, ⟨b5, b6, b7, b8⟩, b9, b10⟩ := h'
  have e5 : n' 5 0 5 = n 5 0 5 := a4 5 (by decide)
  refine ⟨fun K x => (b1 K x).trans (a1 K x), fun a s x y => (b2 a s x y).trans (a2 a s x y), fun a x y => (b3 a x (by rw [a2 a 1 (by decide) (by decide), a2 a 0 (by decide) (by decide)]; exact y)).trans (a3 a x y), fun s x => (b4 s x).trans (a4 s x), ⟨by omega, fun q x => ?_, fun q x y z => ?_, by omega⟩, fun j x y => ?_, fun i x y => ?_⟩
  · have g1 := a6 q x
    have g2 := b6 q (by omega)
    exact ⟨g2.1.trans g1.1, g2.2.trans g1.2⟩
  · rw [b7 q (by omega) (by rw [e5]; exact y) (by omega), a7 q x y z]
  · rw [← e5, b9 j x y, e5, a9 j x y]
  · have g1 := a10 i x y
    have g2 := b10 i x (by rw [e5, a9 _ (by omega) (by omega), a2 _ 1 (by decide) (by decide)]; exact y)
    rw [e5] at g2
    exact ⟨g2.1.trans g1.1, g2.2.trans g1.2⟩
theorem FRl.refl : FRl v n n := ⟨fun _ _ => rfl, fun _ _ _ _ => rfl, fun _ _ _ => rfl, fun _ _ => rfl, ⟨Int.le_refl _, fun _ _ => ⟨rfl, rfl⟩, fun _ _ _ _ => rfl, .inl rfl⟩, fun _ _ _ => rfl, fun _ _ _ => ⟨rfl, rfl⟩⟩
theorem FVn.rl (h : FVn v n n') : FRl v n n' := by
  obtain ⟨a1, a2, a3, a4, a5, a6, a7⟩ := h
  refine ⟨fun K hK => a1 K (by simp only [List.mem_cons, List.not_mem_nil, or_false, not_or] at hK; omega) (by simp only [List.mem_cons, List.not_mem_nil, or_false, not_or] at hK; omega) (by simp only [List.mem_cons, List.not_mem_nil, or_false, not_or] at hK; omega), a2, a3, fun s x => a4 s (by omega), ⟨?_, fun q _ => ?_, fun q _ x _ => a5 q x, .inl (a4 9 (by decide))⟩, a6, a7⟩
  · rw [a1 90 (by decide) (by decide) (by decide)]; exact Int.le_refl _
  · rw [a1 92 (by decide) (by decide) (by decide), a1 93 (by decide) (by decide) (by decide)]; exact ⟨rfl, rfl⟩
theorem FVy.trans (h : FVy v m m') (h' : FVy v m' m'') : FVy v m m'' := by
  obtain ⟨a1, a2, a3⟩ := h
  obtain ⟨b1, b2, b3⟩ := h'
  refine ⟨a1.trans b1, fun a x y => ?_, fun w x y => ?_⟩
  · have g1 := a2 a x y
    have g2 := b2 a x (by rw [a1 109 (by decide)]; exact y)
    exact ⟨g2.1.trans g1.1, g2.2.trans g1.2⟩
  · have g1 := a3 w x y
    have g2 := b3 w x (by rw [a1 109 (by decide), a1 118 (by decide)]; exact y)
    exact ⟨g2.1.trans g1.1, g2.2.trans g1.2⟩
theorem FVy.refl : FVy v m m := ⟨FY.refl _ _, fun _ _ _ => ⟨rfl, rfl⟩, fun _ _ _ => ⟨rfl, rfl⟩⟩
theorem FVn.bi (h : FVn v n n') (hB : BI A B n) : BI A B n' := hB.cg (h.1 4 (by decide) (by decide) (by decide)) ⟨h.2.2.2.1 5 (by decide), h.2.2.2.1 9 (by decide)⟩ (h.1 90 (by decide) (by decide) (by decide)) (h.1 91 (by decide) (by decide) (by decide)) (h.1 92 (by decide) (by decide) (by decide)) (h.1 93 (by decide) (by decide) (by decide))
theorem FVn.wl (h : FVn v n n') (hW : WLc n) : WLc n' := by
  unfold WLc at *
  rw [h.2.2.2.1 5 (by decide), h.2.2.2.1 9 (by decide), h.2.2.2.1 6 (by decide), h.1 92 (by decide) (by decide) (by decide), h.1 93 (by decide) (by decide) (by decide)]; exact hW
/-- a copy of a row of ints in a new cell -/
theorem cs_copyI (hB : BI A B n) (ha : n 92 0 a = 0 ∧ a < n 90 0 0) (hl : 0 ≤ n 93 0 a ∧ n 93 0 a < l ∧ l ≤ 1000000) : ev (N_Arrays_copyOf_1 a l n) (fun r => r.1 = n 90 0 0 ∧ r.2 90 0 0 = n 90 0 0 + 1 ∧ r.2 91 0 0 = n 91 0 0 + l ∧ r.2 92 0 r.1 = 0 ∧ r.2 93 0 r.1 = l ∧ (∀ j, 0 ≤ j → j < n 93 0 a → r.2 99 r.1 j = n 99 a j) ∧ (∀ q, q < n 90 0 0 → r.2 92 0 q = n 92 0 q ∧ r.2 93 0 q = n 93 0 q ∧ r.2 99 q = n 99 q) ∧ ∀ K, K ≠ 90 → K ≠ 91 → K ≠ 92 → K ≠ 93 → K ≠ 99 → r.2 K = n K) := by
  unfold N_Arrays_copyOf_1
  refine ev_ty ha.1 (ev_ck (by omega) (ev_if (fun h => by omega) (fun _ => al2_ok hB (by omega) (ev_st ?_))))
  have e92 : nnew n 0 l l 92 0 a = 0 := by rw [nnew_92, if_neg (by omega)]; exact ha.1
  have e93 : nnew n 0 l l 93 0 a = n 93 0 a := by rw [nnew_93, if_neg (by omega)]
  have e92' : nnew n 0 l l 92 0 (n 90 0 0) = 0 := by rw [nnew_92, if_pos rfl]; rfl
  have e93' : nnew n 0 l l 93 0 (n 90 0 0) = l := by rw [nnew_93, if_pos rfl]
  refine ev_ty e92 (ev_ck (by rw [e93]; omega) ?_)
  rw [e93]
  refine ev_g ⟨e92, e92', ⟨by omega, by omega, by omega⟩, by rw [e93]; omega, by rw [e93']; omega⟩ (ev_st ?_)
  generalize hF : cpf (nnew n 0 l l 99 a) (nnew n 0 l l 99 (n 90 0 0)) 0 0 (min (n 93 0 a) l) = F
  have eK : ∀ K, K ≠ 99 → nwA (nnew n 0 l l) 99 (n 90 0 0) F K = nnew n 0 l l K := fun K h => nwA_nK h
  refine ev_ok ?_
  refine ⟨rfl, ?_, ?_, ?_, ?_, fun j h0 h1 => ?_, fun q hq => ⟨?_, ?_, ?_⟩, fun K h1 h2 h3 h4 h5 => ?_⟩
  · show nwA (nnew n 0 l l) 99 (n 90 0 0) F 90 0 0 = _; rw [eK 90 (by decide), nnew_90]
  · show nwA (nnew n 0 l l) 99 (n 90 0 0) F 91 0 0 = _; rw [eK 91 (by decide), nnew_91]
  · show nwA (nnew n 0 l l) 99 (n 90 0 0) F 92 0 (n 90 0 0) = _; rw [eK 92 (by decide)]; exact e92'
  · show nwA (nnew n 0 l l) 99 (n 90 0 0) F 93 0 (n 90 0 0) = _; rw [eK 93 (by decide)]; exact e93'
  · show nwA (nnew n 0 l l) 99 (n 90 0 0) F 99 (n 90 0 0) j = _
    rw [nwA_eq, ← hF]
    unfold cpf
    rw [if_pos (by omega), show 0 + (j - 0) = j by omega, nnew_99 (by omega)]
  · show nwA (nnew n 0 l l) 99 (n 90 0 0) F 92 0 q = _; rw [eK 92 (by decide), nnew_92, if_neg (by omega)]
  · show nwA (nnew n 0 l l) 99 (n 90 0 0) F 93 0 q = _; rw [eK 93 (by decide), nnew_93, if_neg (by omega)]
  · show nwA (nnew n 0 l l) 99 (n 90 0 0) F 99 q = _; rw [nwA_ni (by omega), nnew_99 (by omega)]
  · show nwA (nnew n 0 l l) 99 (n 90 0 0) F K = _; rw [eK K h5, nnew_K ⟨h1, h2, h3, h4, h5⟩]
/-- one of the two rows of the Layout gets a new and greater cell -/
theorem grow59 (hB : BI A B n) (hs : (s = 5 ∧ l ≤ 400000) ∨ (s = 9 ∧ l ≤ 100000)) (h2 : 2 * n 93 0 (n 5 0 s) ≤ l) (h16 : 16 ≤ n 93 0 (n 5 0 s)) {n1 : NS} (h90 : n1 90 0 0 = n 90 0 0 + 1) (h91 : n1 91 0 0 = n 91 0 0 + l) (h93 : n1 93 0 (n 90 0 0) = l) (hq : ∀ q, q < n 90 0 0 → n1 92 0 q = n 92 0 q ∧ n1 93 0 q = n 93 0 q ∧ n1 99 q = n 99 q) (hK : ∀ K, K ≠ 90 → K ≠ 91 → K ≠ 92 → K ≠ 93 → K ≠ 99 → n1 K = n K) : BI A B (nw n1 5 0 s (n 90 0 0)) := by
  obtain ⟨b1, b2, ⟨b3, b4, b5⟩, ⟨c1, c2, c3, c4⟩, ⟨d1, d2, d3, d4⟩, b8⟩ := hB
  have e4 : nw n1 5 0 s (n 90 0 0) 4 = n 4 := by rw [nw_nK (by decide), hK 4 (by decide) (by decide) (by decide) (by decide) (by decide)]
  have e5 : ∀ x, x ≠ s → nw n1 5 0 s (n 90 0 0) 5 0 x = n 5 0 x := fun x hx => by rw [nw_ns hx, hK 5 (by decide) (by decide) (by decide) (by decide) (by decide)]
  have e5s : nw n1 5 0 s (n 90 0 0) 5 0 s = n 90 0 0 := nw_eq
  have eK : ∀ K, K ≠ 5 → nw n1 5 0 s (n 90 0 0) K = n1 K := fun K hK => nw_nK hK
  have hcs : capS (nw n1 5 0 s (n 90 0 0)) = capS n := by
    unfold capS
    refine sumF_cg 632 (fun j x y => ?_)
    unfold cap
    rw [e4, eK 93 (by decide), (hq _ (b1 j x (by omega)).2.1.2).2.1]
  have hct : capT (nw n1 5 0 s (n 90 0 0)) = capT n + (l - n 93 0 (n 5 0 s)) := by
    unfold capT
    rw [hcs, eK 93 (by decide)]
    rcases hs with ⟨z, _⟩ | ⟨z, _⟩
    · subst z
      rw [e5s, e5 9 (by decide), h93, (hq _ c4).2.1]; omega
    · subst z
      rw [e5s, e5 5 (by decide), h93, (hq _ c2).2.1]; omega
  refine ⟨fun b x y => ?_, fun b b' x y x' y' h => ?_, ⟨?_, ?_, ?_⟩, ?_, ?_, b8⟩
  · have h := b1 b x y
    unfold B1 at *
    rw [e4, eK 90 (by decide), eK 92 (by decide), eK 93 (by decide), h90, (hq _ h.2.1.2).1, (hq _ h.2.1.2).2.1]
    exact ⟨h.1, by have := h.2.1; omega, h.2.2⟩
  · rw [e4] at h; exact b2 b b' x y x' y' h
  · rw [eK 90 (by decide), h90]; omega
  · rw [eK 90 (by decide), h90, hct]; omega
  · rw [eK 91 (by decide), h91, hct]; omega
  · rw [eK 90 (by decide), h90]
    rcases hs with ⟨z, _⟩ | ⟨z, _⟩
    · subst z; rw [e5s, e5 9 (by decide)]; omega
    · subst z; rw [e5s, e5 5 (by decide)]; omega
  · rw [eK 93 (by decide)]
    rcases hs with ⟨z, _⟩ | ⟨z, _⟩
    · subst z; rw [e5s, e5 9 (by decide), h93, (hq _ c4).2.1]; omega
    · subst z; rw [e5s, e5 5 (by decide), h93, (hq _ c2).2.1]; omega
/-- there is room on the line -/
theorem c_room (hB : BI A B n) (hW : WLc n) (h10 : 0 ≤ n 5 0 10 ∧ n 5 0 10 < 24000 ∧ n 5 0 10 ≤ n 93 0 (n 5 0 9)) : ∃ n1, nk_Layout_putItem_142 it' w gap n = nk_Layout_putItem_171 it' w gap n1 ∧ BI A B n1 ∧ WLc n1 ∧ n1 5 0 10 < n1 93 0 (n1 5 0 9) ∧ (∀ j, 0 ≤ j → j < n 5 0 10 → n1 99 (n1 5 0 9) j = n 99 (n 5 0 9) j) ∧ (∀ K, K ≠ 5 → K ≠ 90 → K ≠ 91 → K ≠ 92 → K ≠ 93 → K ≠ 99 → n1 K = n K) ∧ (∀ s, s ≠ 9 → n1 5 0 s = n 5 0 s) ∧ (n 90 0 0 ≤ n1 90 0 0 ∧ (∀ q, q < n 90 0 0 → n1 92 0 q = n 92 0 q ∧ n1 93 0 q = n 93 0 q ∧ n1 99 q = n 99 q) ∧ (n1 5 0 9 = n 5 0 9 ∨ n 90 0 0 ≤ n1 5 0 9)) := by
  have hW0 := hW
  obtain ⟨w1, w2, w3, w4, w5⟩ := hW
  have hc := hB.2.2.2.1
  have hnn : ∀ {α : Type} (x : Option α), nn (n 5 0 9) x = x := fun x => if_pos w5.2
  have hty : ∀ {α : Type} (x : Option α), ty n (n 5 0 9) 0 x = x := fun x => if_pos w1.2
  unfold nk_Layout_putItem_142
  simp only [hnn, hty]
  rw [ck_e _ (by omega)]
  by_cases z : n 5 0 10 = n 93 0 (n 5 0 9)
  · rw [if_pos z, ck_e _ (by omega)]
    obtain ⟨⟨c, n1⟩, e1, r1, r2, r3, r4, r5, r6, r7, r8⟩ := cs_copyI (a := n 5 0 9) (l := 2 * n 5 0 10) hB ⟨w1.2, hc.2.2.2⟩ (by omega)
    simp only at r1 r2 r3 r4 r5 r6 r7 r8
    subst r1
    rw [e1]
    simp only [Option.bind_some, u2]
    refine ⟨nw n1 5 0 9 (n 90 0 0), rfl, grow59 hB (.inr ⟨rfl, by omega⟩) (by omega) (by omega) r2 r3 r5 r7 r8, ?_, ?_, fun j x y => ?_, fun K x1 x2 x3 x4 x5 x6 => by rw [nw_nK x1, r8 K x2 x3 x4 x5 x6], fun s x => by rw [nw_ns x, r8 5 (by decide) (by decide) (by decide) (by decide) (by decide)], ⟨?_, fun q hq => ?_, ?_⟩⟩
    · unfold WLc
      rw [nw_ns (show (5 : Int) ≠ 9 by decide), nw_ns (show (6 : Int) ≠ 9 by decide), nw_eq, nw_nK (show (92 : Nat) ≠ 5 by decide), nw_nK (show (93 : Nat) ≠ 5 by decide), r8 5 (by decide) (by decide) (by decide) (by decide) (by decide), r4, r5, (r7 _ hc.2.1).1, (r7 _ hc.2.1).2.1]
      exact ⟨⟨w1.1, rfl⟩, by omega, w3, by omega, by omega⟩
    · rw [nw_ns (show (10 : Int) ≠ 9 by decide), nw_eq, nw_nK (show (93 : Nat) ≠ 5 by decide), r5, r8 5 (by decide) (by decide) (by decide) (by decide) (by decide)]; omega
    · rw [nw_eq, nw_nK (show (99 : Nat) ≠ 5 by decide)]; exact r6 j x (by omega)
    · rw [nw_nK (by decide), r2]; omega
    · rw [nw_nK (by decide), nw_nK (by decide), nw_nK (by decide)]; exact r7 q hq
    · rw [nw_eq]; exact .inr (Int.le_refl _)
  · rw [if_neg z]
    exact ⟨n, rfl, hB, hW0, by omega, fun _ _ _ => rfl, fun _ _ _ _ _ _ _ => rfl, fun _ _ => rfl, Int.le_refl _, fun _ _ => ⟨rfl, rfl, rfl⟩, .inl rfl⟩
/-- the reference's line, with one more -/
def mP (m : YS) (it' w at' : Int) : YS := yw (yw (yw (yw (yw m 134 (m 131 0) it') 135 (m 131 0) at') 131 0 (m 131 0 + 1)) 130 0 (at' + w)) 132 0 (max (m 132 0) (iH m it'))
theorem mP_o {f : Nat} (hf : f ∉ [130, 131, 132, 134, 135]) : mP m it' w at' f = m f := by
  simp only [List.mem_cons, List.not_mem_nil, or_false, not_or] at hf
  unfold mP
  rw [yw_nF (by omega), yw_nF (by omega), yw_nF (by omega), yw_nF (by omega), yw_nF (by omega)]
theorem yP_put (hk : ITk n m v it') (hw6 : n 5 0 6 ≤ 24000) (hI : 0 ≤ m 131 0 ∧ m 131 0 < 24000) (ha : 0 ≤ at' ∧ at' ≤ 2000000) (hw : 0 ≤ w ∧ w ≤ 1300000) : nk_Y_putItem_104 it' w s at' m = some (.inl (1, mP m it' w at')) := by
  unfold nk_Y_putItem_104 st
  dsimp only
  have e1 : yw m 134 (m 131 0) it' 131 = m 131 := yw_nF (by decide)
  have e2 : yw (yw m 134 (m 131 0) it') 135 (m 131 0) at' 131 = m 131 := by rw [yw_nF (by decide), e1]
  rw [e1, e2, ix_e _ hI, ix_e _ hI, ck_e _ (by omega), ck_e _ (by omega)]
  obtain ⟨m21, hm21⟩ : ∃ m21, m21 = yw (yw (yw (yw m 134 (m 131 0) it') 135 (m 131 0) at') 131 0 (m 131 0 + 1)) 130 0 (at' + w) := ⟨_, rfl⟩
  rw [← hm21]
  have e21 : ∀ f, f ∉ [130, 131, 134, 135] → m21 f = m f := fun f hf => by
    simp only [List.mem_cons, List.not_mem_nil, or_false, not_or] at hf
    rw [hm21, yw_nF (by omega), yw_nF (by omega), yw_nF (by omega), yw_nF (by omega)]
  rw [y_itemHigh (n := n) (v := v) (hk.cg (fun _ _ _ _ => rfl) rfl rfl (fun _ => rfl) (fun f hf => e21 f (by simp only [List.mem_cons, List.not_mem_nil, or_false, not_or]; omega))) hw6, iH_cg (m := m) (fun f hf => e21 f (by simp only [List.mem_cons, List.not_mem_nil, or_false, not_or]; omega))]
  simp only [Option.bind_some]
  rw [e21 132 (by decide), hm21]; rfl
end W1
