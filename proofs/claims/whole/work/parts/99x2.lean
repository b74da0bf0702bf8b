/-! A BLOCK, in both: between its lines and the blocks in it -/
def OSx (n : NS) (m : YS) (v E wd F L last : Int) : Prop := BK n m v E wd ∧ (n 5 0 17 = F ∧ m 136 0 = F ∧ 0 ≤ F ∧ F ≤ 119) ∧ FTb n m E F ∧ n 5 0 19 = mxE m F.toNat + E ∧ (n 5 0 11 = L + E ∧ 0 ≤ L) ∧ (n 5 0 10 = 0 ∧ n 5 0 18 = F) ∧ (∀ i j, 0 ≤ i → i < j → j < F → n 43 0 i ≠ n 43 0 j) ∧ (n 5 0 15 = 0 ∨ n 5 0 15 = 1) ∧ (last = -1 → n 5 0 12 = leR m L F.toNat + E ∧ n 5 0 13 = riR m L F.toNat + E ∧ n 5 0 14 = nX E (neR m L F.toNat))
/-- all that was seen stands -/
def DNE (n : NS) (m : YS) (o : Int → Int) (v E k j : Int) : Prop := ∀ r, k < r → r < j → m 109 (o r) = v → ((m 107 (o r) = 1 ∨ m 107 (o r) = 2 ∨ m 107 (o r) = 4) → DNb n m E (o r)) ∧ (m 107 (o r) = 6 → ∀ w, m 116 (o r) ≤ w → w < m 116 (o r) + n 3 (o r) 19 → DNw n m E w) ∧ (m 107 (o r) = 6 → ∀ w, m 116 (o r) ≤ w → w + 1 < m 116 (o r) + n 3 (o r) 19 → PRr m w)
/-- a block in the flow of k -/
def BFk (m : YS) (o e p : Int → Int) (k j : Int) : Prop := VIS m o e k j ∧ p j = k ∧ (m 107 (o j) = 1 ∨ m 107 (o j) = 2) ∧ m 108 (o j) = 0
/-- between lines and blocks: at where, behind whom; c is what the last one has below -/
def OUTS (A B E wd N : Int) (o e p : Int → Int) (k j : Int) (n : NS) (m : YS) (F at' last first reach : Int) (J : Int → Prop) : Prop := (OSx n m (o k) E wd F at' last ∧ BI A B n ∧ WLc n ∧ CTX n m N o e p k) ∧ (∀ f, 0 ≤ f → f < F → ∃ r, k < r ∧ r < j ∧ o r = n 43 0 f) ∧ (F ≤ j - k - 1 ∧ max at' (mxE m F.toNat) + (if last = -1 then 0 else 20) ≤ 5000 * (j - k - 1)) ∧ DNE n m o (o k) E k j
  ∧ ((last = -1 ∧ 0 ≤ reach ∧ reach ≤ at') ∨ (∃ q, (k < q ∧ q < j) ∧ o q = last ∧ BFk m o e p k q ∧ (∀ r, q < r → r < j → p r = k → m 107 (o r) = 0) ∧ first = 0 ∧ ((J last ∧ reach = at') ∨ (¬ J last ∧ reach = at' + m 115 last))))
  ∧ ((first = 1 ∧ (∀ r, k < r → r < j → p r = k → m 107 (o r) = 0) ∧ last = -1) ∨ first = 0)
section X2
variable {n n' n'' : NS} {m m' m'' : YS} {A B N a b c x y q s E F F' v wd u w t k j r v3 v4 v5 v7 x4 L last first reach at' : Int} {o e p : Int → Int} {J : Int → Prop}
/-- lines begin -/
theorem OSx.ls (h : OSx n m v E wd F L last) (hW : WLc n) (hm : FY [127, 131, 132, 143, 144] m m') (h127 : m' 127 0 = L) (h131 : m' 131 0 = 0) (h132 : m' 132 0 = 0) (h143 : m' 143 0 = 0) (h144 : m' 144 0 = 0) (hl : last = -1) : LSx n m' v E wd F := by
  obtain ⟨a1, ⟨a2, a3, a4, a4'⟩, a5, a6, a7, a8, a9, a10, a11⟩ := h
  have qf := fun y => flR_m (m := m) (m' := m') (y := y) (F := F) (fun f hf => hm f (by simp only [List.mem_cons, List.not_mem_nil, or_false, not_or]; omega))
  obtain ⟨b1, b2, b3⟩ := a11 hl
  refine ⟨⟨a1.cg rfl (fun _ _ _ _ => rfl) (hm 145 (by decide)) (hm 133 (by decide)), ⟨a2, by rw [hm 136 (by decide)]; exact a3, a4⟩, a5.cg (fun _ _ _ => rfl) (fun _ _ _ => rfl) (fun f _ _ => by rw [hm 137 (by decide), hm 138 (by decide), hm 139 (by decide), hm 140 (by decide), hm 141 (by decide)]; exact ⟨rfl, rfl, rfl, rfl, rfl⟩), by rw [(qf 0).2.2.2]; exact a6, by rw [h127]; exact a7⟩, ⟨⟨by rw [h131]; exact a8.1, by omega, by omega, by rw [h131]; have := hW.2.2.2.1; omega⟩, fun i x y => by omega, fun i j x y z => by omega, by rw [h132, h131]; rfl⟩, ⟨⟨by rw [h143, a8.2]; omega, by omega, by omega⟩, fun i x y => by omega, fun i j x y z => a9 i j x y (by omega)⟩, ⟨.inl h144, a10⟩, fun z => by omega, fun _ => ⟨h143, by rw [h127, (qf L).1]; exact b1, by rw [h127, (qf L).2.1]; exact b2, by rw [h127, (qf L).2.2.1]; exact b3⟩⟩
/-- lines begin behind a block -/
theorem OSx.mv (h : OSx n m v E wd F L last) (hy : 0 ≤ y) : N_Layout_openAt (y + E) (nw n 5 0 11 (y + E)) = some (cMv n m E F y) ∧ OSx (cMv n m E F y) m v E wd F y (-1) := by
  obtain ⟨a1, ⟨a2, a3, a4, a4'⟩, a5, a6, a7, a8, a9, a10, a11⟩ := h
  have hB' : BK (nw n 5 0 11 (y + E)) m v E wd := a1.cg (nw_ns (by decide)) (fun a s _ _ => by rw [nw_nK (by decide)]) rfl rfl
  have hT' : FTb (nw n 5 0 11 (y + E)) m E F := a5.cg (fun f _ _ => by rw [nw_nK (by decide)]) (fun f _ _ => by rw [nw_nK (by decide)]) (fun _ _ _ => ⟨rfl, rfl, rfl, rfl, rfl⟩)
  refine ⟨c_openAt (y := y) hB' (by rw [nw_ns (by decide)]; exact a2) ⟨a4, by omega⟩ hT', a1.cg (cMv_5 (by decide) (by decide) (by decide) (by decide)) (fun a s _ _ => by rw [cMv_K (by decide)]) rfl rfl, ⟨by rw [cMv_5 (by decide) (by decide) (by decide) (by decide)]; exact a2, a3, a4, a4'⟩, a5.cg (fun f _ _ => by rw [cMv_K (by decide)]) (fun f _ _ => by rw [cMv_K (by decide)]) (fun _ _ _ => ⟨rfl, rfl, rfl, rfl, rfl⟩), by rw [cMv_5 (by decide) (by decide) (by decide) (by decide)]; exact a6, ⟨by unfold cMv; rw [wO_s (by decide) (by decide) (by decide), nw_eq], hy⟩, ⟨by rw [cMv_5 (by decide) (by decide) (by decide) (by decide)]; exact a8.1, by rw [cMv_5 (by decide) (by decide) (by decide) (by decide)]; exact a8.2⟩, fun i j x y z => by rw [cMv_K (by decide)]; exact a9 i j x y z, by rw [cMv_5 (by decide) (by decide) (by decide) (by decide)]; exact a10, fun _ => ⟨by unfold cMv; rw [wO_a], by unfold cMv; rw [wO_b], by unfold cMv; rw [wO_c]⟩⟩
/-- lines have ended -/
theorem LSx.os (h : LSx n m v E wd F) (hI : m 131 0 = 0) : OSx n m v E wd F (m 127 0) (-1) := by
  obtain ⟨⟨l1, l2, l3, l4, l5⟩, ⟨i1, i2, i3, i4⟩, ⟨t1, t2, t3⟩, e1, e2, e3⟩ := h
  obtain ⟨f1, f2, f3, f4⟩ := e3 hI
  exact ⟨l1, ⟨l2.1, l2.2.1, l2.2.2, by omega⟩, l3, l4, l5, ⟨by omega, by omega⟩, fun i j x y z => t3 i j x y (by omega), e1.2, fun _ => ⟨f2, f3, f4⟩⟩
theorem DNE.see (h : DNE n m o v E k j) (h0 : m 131 0 = 0) : SEE n m o v E k j := fun r x y z => ⟨fun u => .inl ((h r x y z).1 u), fun u w a b => .inl ((h r x y z).2.1 u w a b), fun u w a b => ((h r x y z).2.2 u w a b).qp h0⟩
theorem DNE.cg (h : DNE n m o v E k j) (h3 : ∀ a s, s = 2 ∨ s = 3 ∨ s = 19 → n' 3 a s = n 3 a s) (h5 : n' 5 0 5 = n 5 0 5) (h99 : n' 99 = n 99) (hm : ∀ f, f = 49 ∨ f = 105 ∨ f = 107 ∨ f = 109 ∨ f = 110 ∨ f = 111 ∨ f = 116 ∨ f = 118 ∨ f = 121 ∨ f = 122 ∨ f = 123 → m' f = m f) : DNE n' m' o v E k j := fun r x y z => by
  rw [hm 109 (by omega)] at z
  have hp : ∀ w, PRr m' w ↔ PRr m w := fun w => PRr.cg (fun f hf => hm f (by simp only [List.mem_cons, List.not_mem_nil, or_false] at hf; omega))
  simp only [hp]
  unfold DNb DNw
  rw [h3 _ 2 (by omega), h3 _ 3 (by omega), h3 _ 19 (by omega), h5, h99, hm 107 (by omega), hm 110 (by omega), hm 111 (by omega), hm 116 (by omega), hm 121 (by omega), hm 122 (by omega)]
  exact h r x y z
theorem CTX.cg (h : CTX n m N o e p k) (hn : ∀ K, K ≠ 5 → n' K = n K) (h5 : n' 5 0 5 = n 5 0 5) (h6 : n' 5 0 6 = n 5 0 6) (hm : ∀ f, f ∈ [46, 49, 50, 52, 61, 62, 105, 107, 108, 109, 112, 113, 114, 115, 116, 118, 119, 120, 123] → m' f = m f) : CTX n' m' N o e p k := by
  obtain ⟨a1, a2, a3, a4, a5, a6, a7⟩ := h
  refine ⟨by rw [hm 49 (by decide), hm 50 (by decide), hm 52 (by decide)]; exact a1, ?_, ?_, fun r x y => ?_, fun r x y => (a5 r x y).cg (fun a s _ _ _ _ _ _ _ => by rw [hn 3 (by decide)]) (fun a _ => by rw [hn 3 (by decide), hm 113 (by decide)]; exact ⟨rfl, rfl⟩) (hn 4 (by decide)) h5 h6 (fun j _ _ => by rw [hn 99 (by decide)]) (fun f hf => hm f (by simp only [List.mem_cons, List.not_mem_nil, or_false] at hf ⊢; omega)), fun r r' x y z z1 z2 => ?_, fun r x y => ?_⟩
  · unfold LSt at *
    rw [hn 10 (by decide), hn 22 (by decide), hn 7 (by decide)]; exact a2
  · unfold JP at *
    rw [hm 46 (by decide)]; exact a3
  · rw [hn 7 (by decide), hm 46 (by decide)]; exact a4 r x y
  · rw [hm 107 (by decide)] at z1 z2
    rw [hm 116 (by decide), hn 3 (by decide)]; exact a6 r r' x y z z1 z2
  · have := a7 r x y
    unfold LDb at *
    rw [hn 3 (by decide), hm 107 (by decide), hm 113 (by decide), hm 114 (by decide), hm 115 (by decide)]; exact this
/-- the first of the lines behind a block, or at the beginning -/
theorem OUTS.begin (h : OUTS A B E wd N o e p k j n m F at' last first reach J) (hm : FY [127, 131, 132, 143, 144] m m') (h127 : m' 127 0 = if last = -1 then at' else at' + m 115 last) (h131 : m' 131 0 = 0) (h132 : m' 132 0 = 0) (h143 : m' 143 0 = 0) (h144 : m' 144 0 = 0) (k0 : 0 ≤ k) (hj : j ≤ N) :
    ∃ n', (last ≠ -1 → (0 ≤ last ∧ last < 120) ∧ (n 3 last 15 = m 115 last ∧ 0 ≤ m 115 last ∧ m 115 last ≤ 20) ∧ (at' ≤ 1000000 ∧ 0 ≤ E ∧ E ≤ 50) ∧ n 5 0 11 = at' + E ∧ N_Layout_openAt (at' + m 115 last + E) (nw n 5 0 11 (at' + m 115 last + E)) = some n') ∧ (last = -1 → n' = n) ∧ SIM A B E wd N o e p k j n' m' F ∧ FVn (o k) n n' ∧ FVy (o k) m m' := by
  obtain ⟨⟨hO, hB, hW, hC⟩, h2, h3, h4, h5, h6⟩ := h
  have qf := flR_m (m := m) (m' := m') (y := 0) (F := F) (fun f hf => hm f (by simp only [List.mem_cons, List.not_mem_nil, or_false, not_or]; omega))
  have hym : FVy (o k) m m' := ⟨fun f hf => hm f (by simp only [List.mem_cons, List.not_mem_nil, or_false, not_or] at hf ⊢; omega), fun a _ _ => by rw [hm 110 (by decide), hm 111 (by decide)]; exact ⟨rfl, rfl⟩, fun w _ _ => by rw [hm 121 (by decide), hm 122 (by decide)]; exact ⟨rfl, rfl⟩⟩
  have hat := hO.2.2.2.2.1.2
  have hF0 := hO.2.1.2.2.1
  have mk : ∀ n1 y, OSx n1 m (o k) E wd F y (-1) → y = m' 127 0 → FVn (o k) n n1 → (∀ K, K ≠ 5 → n1 K = n K) → (max y (mxE m F.toNat) ≤ 5000 * (j - k - 1)) → SIM A B E wd N o e p k j n1 m' F := fun n1 y hO1 hy hn hK hpt => by
    clear h5 h6
    have hW1 := hn.wl hW
    have hC1 : CTX n1 m' N o e p k := hC.cg hK (hn.2.2.2.1 5 (by decide)) (hn.2.2.2.1 6 (by decide)) (fun f hf => hm f (by simp only [List.mem_cons, List.not_mem_nil, or_false, not_or] at hf ⊢; omega))
    refine ⟨⟨hO1.ls hW1 hm (by rw [hy]) h131 h132 h143 h144 rfl, hn.bi hB, hW1, hC1⟩, ⟨0, Int.le_refl _, fun q x y => by omega, fun r x y z => ?_⟩, fun q x y z => by omega, fun f x y => ?_, ⟨by omega, by omega, ?_⟩, ?_⟩
    · have hj0 : 0 ≤ r := by omega
      rcases hC1.2.2.2.2.1 r hj0 y with ⟨z1, _⟩ | ⟨_, t1 | t1 | t1 | t1 | t1⟩
      · omega
      · have := t1.1; omega
      · have := t1.1; omega
      · omega
      · omega
      · exact t1.2.2.2.2.2.2.1.2.1
    · obtain ⟨r, r1, r2, r3⟩ := h2 f x (by omega)
      exact ⟨r, r1, r2, by rw [hK 43 (by decide)]; exact r3⟩
    · unfold pot
      rw [← hy, qf.2.2.2, h132, h143, zsm_nil (Int.le_refl _)]; omega
    · exact (h4.cg (fun a s _ => by rw [hK 3 (by decide)]) (hn.2.2.2.1 5 (by decide)) (hK 99 (by decide)) (fun f hf => hm f (by simp only [List.mem_cons, List.not_mem_nil, or_false, not_or]; omega))).see h131
  by_cases z : last = -1
  · rw [if_pos z] at h127 h3
    refine ⟨n, fun u => absurd z u, fun _ => rfl, mk n at' (by rw [← z]; exact hO) h127.symm ?_ (fun _ _ => rfl) (by omega), ?_, hym⟩
    · exact ⟨fun _ _ _ _ => rfl, fun _ _ _ _ => rfl, fun _ _ _ => rfl, fun _ _ => rfl, fun _ _ => rfl, fun _ _ _ => rfl, fun _ _ _ => ⟨rfl, rfl⟩⟩
    · exact ⟨fun _ _ _ _ => rfl, fun _ _ _ _ => rfl, fun _ _ _ => rfl, fun _ _ => rfl, fun _ _ => rfl, fun _ _ _ => rfl, fun _ _ _ => ⟨rfl, rfl⟩⟩
  · rw [if_neg z] at h127 h3
    rcases h5 with ⟨u, _⟩ | ⟨q, ⟨q1, q2⟩, q3, q4, q5, q6⟩
    · exact absurd u z
    · have hG := hC.1
      have hqo := hG.oB (k := q) (by omega) (by omega)
      have hl := hC.2.2.2.2.2.2 q q1 (by omega) q4.2.2.1
      rw [q3] at hl hqo
      obtain ⟨g1, g2⟩ := hO.mv (y := at' + m 115 last) (by omega)
      refine ⟨cMv n m E F (at' + m 115 last), fun _ => ⟨hqo, ⟨hl.2.2.1, by omega, by omega⟩, ?_, hO.2.2.2.2.1.1, g1⟩, fun u => absurd u z, mk _ _ g2 h127.symm cMv_cn (fun K x => cMv_K x) (by omega), cMv_cn, hym⟩
      have hE := hO.1.2.2.2.1
      have hmE := (mxE_ge (m := m) F.toNat).1
      have hN := hG.N1
      omega
end X2
