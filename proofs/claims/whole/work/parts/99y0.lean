/-! ALL BLOCKS, from the last to the first, in both -/
/-- all that lies in the blocks behind k stands -/
def POS (n : NS) (m : YS) (N : Int) (o e : Int → Int) (k : Int) : Prop := ∀ r h, k < h → h < r → r < e h → r < N → m 109 (o r) = o h → m 107 (o r) ≠ 0 → ((m 107 (o r) = 1 ∨ m 107 (o r) = 2 ∨ m 107 (o r) = 4) → PSb n m (n 3 (o h) 8) (o r) (6000000 * (r - h))) ∧ (m 107 (o r) = 6 → ∀ w, m 116 (o r) ≤ w → w < m 116 (o r) + n 3 (o r) 19 → DNw n m (n 3 (o h) 8) w) ∧ (m 107 (o r) = 6 → ∀ w, m 116 (o r) ≤ w → w + 1 < m 116 (o r) + n 3 (o r) 19 → PRr m w)
/-- who stands in the lines themselves has no place -/
def ZIN (n : NS) (N : Int) (o : Int → Int) : Prop := (∀ r, 0 ≤ r → r < N → n 3 (o r) 0 = 3 → n 3 (o r) 2 = 0 ∧ n 3 (o r) 3 = 0) ∧ n 3 (o 0) 1 = -1 ∧ n 3 (o 0) 2 = 0 ∧ n 3 (o 0) 3 = 0
def P2 (A B N : Int) (o e p : Int → Int) (k : Int) (n : NS) (m : YS) : Prop := CTX n m N o e p k ∧ PHC n m N o ∧ FXK m N o p ∧ BI A B n ∧ WLc n ∧ POS n m N o e k ∧ ZIN n N o
/-- what is left of the class, and of the reference -/
def F2n (n n' : NS) : Prop := (∀ K, K ∉ [3, 5, 43, 90, 91, 92, 93, 99] → n' K = n K) ∧ ((∀ s, s < 8 → n' 5 0 s = n 5 0 s) ∧ ∀ a s, s ≠ 2 → s ≠ 3 → s ≠ 5 → (s < 14 ∨ 17 < s) → n' 3 a s = n 3 a s) ∧ (n 90 0 0 ≤ n' 90 0 0 ∧ (∀ q, q < n 90 0 0 → n' 92 0 q = n 92 0 q ∧ n' 93 0 q = n 93 0 q) ∧ (∀ q, q < n 90 0 0 → q ≠ n 5 0 5 → q ≠ n 5 0 9 → n' 99 q = n 99 q) ∧ (n' 5 0 9 = n 5 0 9 ∨ n 90 0 0 ≤ n' 5 0 9))
def F2y (m m' : YS) : Prop := FY [110, 111, 113, 114, 115, 121, 122, 127, 128, 129, 130, 131, 132, 133, 134, 135, 136, 137, 138, 139, 140, 141, 142, 143, 144, 145] m m'
section Y0
variable {n n' n'' nc : NS} {m m' m'' : YS} {A B N a b c x y q s E F F' v wd u w t k j r v3 v4 v5 v7 x1 x2 x3 x4 x5 x6 f l f' l' H : Int} {o e p : Int → Int}
theorem F2n.refl : F2n n n := ⟨fun _ _ => rfl, ⟨fun _ _ => rfl, fun _ _ _ _ _ _ => rfl⟩, Int.le_refl _, fun _ _ => ⟨rfl, rfl⟩, fun _ _ _ _ => rfl, .inl rfl⟩
theorem F2n.trans (h : F2n n n') (h' : F2n n' n'') : F2n n n'' := by
  obtain ⟨a1, a4, a5, a6, a7, a8⟩ := h
  obtain ⟨b1, b4, b5, b6, b7, b8⟩ := h'
  have e5 : n' 5 0 5 = n 5 0 5 := a4.1 5 (by decide)
  refine ⟨fun K x => (b1 K x).trans (a1 K x), ⟨fun s x => (b4.1 s x).trans (a4.1 s x), fun a s x y z w => (b4.2 a s x y z w).trans (a4.2 a s x y z w)⟩, by omega, fun q x => ?_, fun q x y z => ?_, by omega⟩
  · have g1 := a6 q x
    have g2 := b6 q (by omega)
    exact ⟨g2.1.trans g1.1, g2.2.trans g1.2⟩
  · rw [b7 q (by omega) (by rw [e5]; exact y) (by omega), a7 q x y z]
theorem FP2.f2 (h : FP2 v n n') : F2n n n' := ⟨h.1, ⟨h.2.2.2.1, fun a s x y z w => h.2.1 a s x y (by omega)⟩, h.2.2.2.2.1⟩
theorem MSk.fp (h : MSk n m o e p r) (hn : FP2 v n n') (hm : FYP v m m') (hv : n 3 v 0 = 1) : MSk n' m' o e p r := h.cg (fun a s x1 x2 x3 x4 x5 x6 x7 => hn.2.1 a s x1 x2 (by omega)) (fun a z => by
  have hne : a ≠ v := fun w => by rw [w] at z; omega
  exact ⟨hn.2.1 a 5 (by decide) (by decide) (fun w => hne w.1), (hm.2.1 a hne).1⟩) (hn.1 4 (by decide)) (hn.2.2.2.1 5 (by decide)) (hn.2.2.2.1 6 (by decide)) hn.2.2.2.2.2.1 (fun f hf => hm.1 f (by simp only [List.mem_cons, List.not_mem_nil, or_false, not_or] at hf ⊢; omega))
/-- one block further -/
theorem P2.blk (h : P2 A B N o e p k n m) (k0 : 0 ≤ k) (hkN : k < N) (hb : m 107 (o k) = 1 ∨ m 107 (o k) = 2) (hL : BLS A B o e k n m n' m') : P2 A B N o e p (k - 1) n' m' := by
  obtain ⟨hC, hP, hX, hB, hW, hS, hZ⟩ := h
  obtain ⟨l1, l2, l3, l4, l5, l6⟩ := hL
  have hG := hC.1
  have hk1 := ((hC.2.2.2.2.1 k k0 hkN).box hb).2.1
  have hf : ∀ f, f ∉ [110, 111, 113, 114, 115, 121, 122, 127, 128, 129, 130, 131, 132, 133, 134, 135, 136, 137, 138, 139, 140, 141, 142, 143, 144, 145] → m' f = m f := l4.1
  have e7 : n' 7 = n 7 := l3.1 7 (by decide)
  have s3 : ∀ a s, s = 0 ∨ s = 1 ∨ s = 8 ∨ s = 19 → n' 3 a s = n 3 a s := fun a s hs => l3.2.1 a s (by omega) (by omega) (by omega)
  have e5 : n' 5 0 5 = n 5 0 5 := l3.2.2.2.1 5 (by decide)
  refine ⟨⟨by rw [hf 49 (by decide), hf 50 (by decide), hf 52 (by decide)]; exact hG, ?_, ?_, fun r x y => ?_, fun r x y => (hC.2.2.2.2.1 r x y).fp l3 l4 hk1, fun r r' x y z z1 z2 => ?_, fun r x y => ?_⟩, ⟨fun r x y => ?_, fun r x y z pr p0 p1 => ?_⟩, fun r x y z => ?_, l1, l2, fun r h x1 x2 x3 x4 x5 x6 => ?_, fun r x y z => ?_, ?_⟩
  · have := hC.2.1
    unfold LSt at *
    rw [l3.1 10 (by decide), l3.1 22 (by decide), e7]; exact this
  · have := hC.2.2.1
    unfold JP at *
    rw [hf 46 (by decide)]; exact this
  · rw [e7, hf 46 (by decide)]; exact hC.2.2.2.1 r x y
  · rw [hf 107 (by decide)] at z1 z2
    rw [hf 116 (by decide), s3 _ 19 (by omega)]; exact hC.2.2.2.2.2.1 r r' x y z z1 z2
  · by_cases z : r = k
    · rw [z]; exact l5
    · have := hC.2.2.2.2.2.2 r (by omega) y
      have hne : o r ≠ o k := fun w => by have := hG.inj (j := r) (k := k) (by omega) y k0 hkN w; omega
      have g := l4.2.1 _ hne
      unfold LDb at *
      rw [l3.2.1 _ 5 (by decide) (by decide) (fun w => hne w.1), l3.2.1 _ 14 (by decide) (by decide) (fun w => hne w.1), l3.2.1 _ 15 (by decide) (by decide) (fun w => hne w.1), hf 107 (by decide), g.1, g.2.1, g.2.2]; exact this
  · rw [e7, hf 49 (by decide), hf 50 (by decide), hf 52 (by decide)]; exact hP.1 r x y
  · rw [hf 46 (by decide)] at z
    rw [l3.1 41 (by decide), hf 105 (by decide)]; exact hP.2 r x y z pr p0 p1
  · rw [hf 107 (by decide)] at z ⊢; exact hX r x y z
  · rw [hf 109 (by decide)] at x5
    rw [hf 107 (by decide)] at x6
    rw [s3 _ 8 (by omega)]
    by_cases z : h = k
    · rw [z] at x2 x3 x5 ⊢
      have g := l6 r x2 x3 (by rw [hf 109 (by decide)]; exact x5)
      exact g
    · have g := hS r h (by omega) x2 x3 x4 x5 x6
      rw [hf 107 (by decide), hf 116 (by decide), s3 _ 19 (by omega)]
      have hEh := hG.eB (k := h) (by omega) (by omega)
      have hne : o h ≠ o k := fun w => by have := hG.inj (j := h) (k := k) (by omega) (by omega) k0 hkN w; omega
      have hro := hG.oB (k := r) (by omega) x4
      have h109 : m 109 (o r) ≠ o k := by rw [x5]; exact hne
      have hn1 : n 3 (o r) 1 ≠ o k := by
        rcases hC.2.2.2.2.1 r (by omega) x4 with ⟨w, _⟩ | ⟨w | ⟨hh, b1, b2, b3, b4⟩, _⟩
        · exact absurd w x6
        · omega
        · rw [b2.2, ← b2.1]; exact h109
      have hTX : m 107 (o r) = 6 → TXw n m (m 109 (o r)) (o r) := fun u => by
        rcases hC.2.2.2.2.1 r (by omega) x4 with ⟨w, _⟩ | ⟨_, w | w | w | w | w⟩
        · omega
        · have := w.1; omega
        · have := w.1; omega
        · omega
        · omega
        · exact w.2.2.2.2
      have q2 : m 107 (o r) = 6 → ∀ w, m 116 (o r) ≤ w → w < m 116 (o r) + n 3 (o r) 19 → m' 121 w = m 121 w ∧ m' 122 w = m 122 w := fun u w y1 y2 => by
        have hwd := (hTX u).2.2.2.2.1 w y1 y2
        have hw0 : 0 ≤ w := by have := (hTX u).2.2.1.2.1; omega
        exact l4.2.2.2 w hw0 (by rw [hwd.2.1]; exact h109)
      refine ⟨fun u => ?_, fun u w y1 y2 => ?_, fun u w y1 y2 => ?_⟩
      · have g1 := g.1 u
        have q1 := l3.2.2.1 (o r) hro.1 (.inl hn1)
        have q2 := l4.2.2.1 (o r) hro.1 h109
        unfold PSb at *
        rw [q1.1, q1.2, q2.1, q2.2]; exact g1
      · have g1 := g.2.1 u w y1 y2
        have hTX := hTX u
        have hwd := hTX.2.2.2.2.1 w y1 y2
        have hw0 : 0 ≤ w := by have := hTX.2.2.1.2.1; omega
        have q1 := l3.2.2.2.2.2.2 w hw0 (by rw [hwd.1.2.2.1, hwd.2.1]; exact hn1)
        have q2 := l4.2.2.2 w hw0 (by rw [hwd.2.1]; exact h109)
        unfold DNw at *
        rw [e5, q1.1, q1.2, q2.1, q2.2]; exact g1
      · have g1 := g.2.2 u w y1 y2
        have e1 := q2 u w y1 (by omega)
        have e2 := q2 u (w + 1) (by omega) y2
        have es : ∀ w, szW m' w = szW m w := fun w => szW_cg (fun f hf' => hf f (by simp only [List.mem_cons, List.not_mem_nil, or_false, not_or]; omega))
        unfold PRr at *
        rw [es, es, e1.1, e1.2, e2.1, e2.2, hf 123 (by decide)]; exact g1
  · rw [s3 _ 0 (by omega)] at z
    have hro := hG.oB (k := r) x y
    have q := l3.2.2.1 (o r) hro.1 (.inr z)
    rw [q.1, q.2]; exact hZ.1 r x y z
  · have hN := hG.N1
    have h0 := hG.oB (k := 0) (Int.le_refl _) (by omega)
    have hok := hG.oB k0 hkN
    have q := l3.2.2.1 (o 0) h0.1 (.inl (by rw [hZ.2.1]; omega))
    rw [s3 _ 1 (by omega), q.1, q.2]; exact hZ.2
end Y0
