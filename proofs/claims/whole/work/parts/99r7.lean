/-! A server's ANSWER is laid among the others, in both -/
section R7
variable {n n' : NS} {m m' : YS} {A B i v w k : Int} {As Bs : Int → Prop} {κ : Int → Int}
theorem JNt.lay (h : JNt κ As Bs A B n m) (hi : 0 ≤ i ∧ i < 12 ∧ i ≤ m 16 0) (hk : k = max (m 16 0) (i + 1)) (hL : LDN i v m m') (h16 : m' 16 0 = k) (hn : n' = nw (nw n 23 0 i w) 6 0 2 k) (hS : AnS As Bs n' m' w i (6 + i) (46 + i)) (hKk : AnK n' m' w i) : JNt κ As Bs A B n' m' := by
  obtain ⟨⟨h1, ⟨c1, c2, c3, c4, c5, c6, c7, c8, c9⟩, h3, h3'⟩, h4, h5⟩ := h
  obtain ⟨l1, l2, l3, l4, l5, l6, l7⟩ := hL
  have eK : ∀ K, K ≠ 6 → K ≠ 23 → n' K = n K := fun K a b => by rw [hn, nw_nK a, nw_nK b]
  have e6 : ∀ s, s ≠ 2 → n' 6 0 s = n 6 0 s := fun s a => by rw [hn, nw_ns a, nw_nK (by decide)]
  have e62 : n' 6 0 2 = k := by rw [hn, nw_eq]
  have e23 : ∀ j, j ≠ i → n' 23 0 j = n 23 0 j := fun j a => by rw [hn, nw_nK (by decide), nw_ns a]
  have e23i : n' 23 0 i = w := by rw [hn, nw_nK (by decide), nw_eq]
  have fq : FQ As Bs (fun _ => False) n n' := FQ.ks (fun K hK => eK K (by omega) (by omega))
  have e99 : n' 99 = n 99 := eK 99 (by decide) (by decide)
  have ef : ∀ f, 25 ≤ f → m' f = m f := fun f a => l1 f (by simp only [List.mem_cons, List.not_mem_nil, or_false, not_or]; omega)
  have hB' : BI A B n' := h1.cg (eK 4 (by decide) (by decide)) (by rw [eK 5 (by decide) (by decide)]; exact ⟨rfl, rfl⟩) (eK 90 (by decide) (by decide)) (eK 91 (by decide) (by decide)) (eK 92 (by decide) (by decide)) (eK 93 (by decide) (by decide))
  have JA' : JAns As Bs n' m' := by
    refine ⟨⟨by rw [e62, h16], by rw [h16]; omega, by have := c4.1.2.2; omega⟩, fun j j0 j1 => ?_⟩
    by_cases z : j = i
    · rw [z, e23i]; exact ⟨hS, hKk⟩
    · have hj : j < m 16 0 := by omega
      obtain ⟨d1, d2⟩ := c4.2 j j0 hj
      have hj12 : j < 12 := by have := c4.1.2.2; omega
      rw [e23 j z]
      refine ⟨d1.fq fq (fun _ y => y.elim) c2 (l2 _ (by omega) (by omega)) (fun _ => l2 _ (by omega) (by omega)) ⟨l3.2 j z, l6 23 j (by omega) z, l6 24 j (by omega) z⟩ (fun x x0 x1 => ?_), ?_⟩
      · have := d1.2.2.2.2.2.1
        exact l4.2 _ (by omega)
      · obtain ⟨d3, d4⟩ := d2
        unfold AnK
        rw [e99, l6 19 j (by omega) z, l6 21 j (by omega) z, l6 22 j (by omega) z]
        refine ⟨d3, ?_⟩
        rcases d4 with y | ⟨u, u', y1, y2, y3, y4, y5, y6, y7⟩
        · exact .inl y
        · refine .inr ⟨u, u', y1, y2, y3, y4, ?_, ?_, y7⟩
          · have h8 := y1.2.1
            refine Eq.trans (sg_cg _ _ _ (fun x hx => l7.2 _ (by omega))) y5
          · have h8 := y2.2.1
            refine Eq.trans (sg_cg _ _ _ (fun x hx => l7.2 _ (by omega))) y6
  have JK' : JKp κ As Bs n' m' := by
    obtain ⟨k1, k2, k3, k4⟩ := c5
    have row : ∀ j, 0 ≤ j → j < m 26 0 → rowL m' (18 + κ j) = rowL m (18 + κ j) := fun j j0 j1 => by
      obtain ⟨b1, b2, b3, b4⟩ := k2 j j0 j1
      obtain ⟨nm1, ss1, q1, w1, d1, r1⟩ := b2.2.1.2.2
      rw [(r1.rw w1 (l2 _ (by omega) (by omega))).rowL, r1.rowL]
    refine ⟨by rw [e6 4 (by decide), ef 26 (by decide), ef 27 (by decide)]; exact k1, fun j j0 j1 => ?_, fun j j' j0 jl j1 => ?_, by rw [ef 26 (by decide)]; exact k4⟩
    · rw [ef 26 (by decide)] at j1 ⊢
      obtain ⟨b1, b2, b3, b4⟩ := k2 j j0 j1
      rw [eK 24 (by decide) (by decide), ef 28 (by decide), ef 29 (by decide), ef 27 (by decide), e99]
      have h18 := b2.2.2.2.2.2.1
      exact ⟨b1, b2.fq fq (fun _ y => y.elim) c2 (l2 _ (by omega) (by omega)) (fun _ => l2 _ (by omega) (by omega)) ⟨l3.2 _ (by omega), l6 23 _ (by omega) (by omega), l6 24 _ (by omega) (by omega)⟩ (fun x x0 x1 => l4.2 _ (by omega)), b3, b4⟩
    · rw [ef 26 (by decide)] at j1
      rw [ef 29 (by decide), row j j0 (by omega), row j' (by omega) j1]
      exact k3 j j' j0 jl j1
  refine ⟨⟨hB', ⟨c1.fq fq, c2.fq fq, c3, JA', JK', c6.cg fq c2, ⟨?_, ?_⟩, ?_, ?_⟩, ?_, ?_⟩, h4.cg fq (fun _ y => y.elim) ⟨e6 18 (by decide), e6 19 (by decide)⟩ (eK 27 (by decide) (by decide)) ⟨ef 148 (by decide), ef 149 (by decide)⟩ (fun r a b => l2 r (by omega) (by omega)), h5.fq fq c3.2.1 (fun y => y.elim) (l2 1 (by omega) (by omega))⟩
  · rw [ef 30 (by decide)]
    exact c7.1.cg (by rw [eK 25 (by decide) (by decide)]) (ef 31 (by decide)) (ef 32 (by decide)) (ef 33 (by decide)) (ef 34 (by decide))
  · rw [e6 6 (by decide), ef 30 (by decide)]; exact c7.2
  · rw [e6 12 (by decide), ef 25 (by decide)]; exact c8
  · rw [e6 9 (by decide), ef 35 (by decide), ef 27 (by decide)]; exact c9
  · unfold JAs at *
    rw [ef 35 (by decide), e99]
    rcases h3 with y | ⟨y0, y1⟩
    · exact .inl y
    · exact .inr ⟨y0, y1.fq fq c3.1 (fun y => y.elim) (l2 2 (by omega) (by omega))⟩
  · unfold JSnt ys bt at *
    rw [e99, eK 4 (by decide) (by decide), ef 36 (by decide), ef 37 (by decide)]; exact h3'
end R7
