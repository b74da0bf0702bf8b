/-! ALL IS MEASURED, in both: what holds up to a place -/
def FM1 (u k w0 : Int) (m m' : YS) : Prop := FY [107, 108, 109, 112, 113, 116, 117, 118, 119, 120, 123, 124, 125] m m' ∧ (∀ f, f = 107 ∨ f = 108 ∨ f = 109 ∨ f = 112 ∨ f = 113 ∨ f = 116 → ∀ a, a ≠ u → m' f a = m f a) ∧ (∀ j, j < w0 → m' 118 j = m 118 j ∧ m' 119 j = m 119 j ∧ m' 120 j = m 120 j ∧ m' 123 j = m 123 j) ∧ (∀ j, j ≠ k → m' 124 j = m 124 j)
/-- where the words of a node begin is never beyond them all, whoever it was -/
def S18 (n : NS) : Prop := ∀ a, 0 ≤ a → a < 120 → 0 ≤ n 3 a 18 ∧ n 3 a 18 ≤ 24000
def M1 (A B N : Int) (o e p : Int → Int) (k : Int) (n : NS) (m : YS) : Prop := (JT n m N o e p ∧ LSt n N o e ∧ JP m N o p ∧ LKs n m N o ∧ BI A B n ∧ WL1 n) ∧ (∀ r, 0 ≤ r → r < k → MSk n m o e p r) ∧ (∀ r, 1 ≤ r → r < k → m 107 (o (p r)) = 2 → m 107 (o r) = 0 ∨ m 107 (o r) = 1 ∨ m 107 (o r) = 2 ∨ m 107 (o r) = 4) ∧ ((∀ r, 0 ≤ r → r < k → n 3 (o r) 0 = 3 → n 3 (o r) 2 = 0 ∧ n 3 (o r) 3 = 0) ∧ (0 < k → (n 3 (o 0) 1 = -1 ∧ n 3 (o 0) 2 = 0 ∧ n 3 (o 0) 3 = 0) ∧ (m 107 (o 0) = 1 ∨ m 107 (o 0) = 2))) ∧ (m 125 0 = k ∧ ∀ r, 0 ≤ r → r < k → m 124 r = o r) ∧ (n 5 0 6 = m 117 0 ∧ 0 ≤ n 5 0 6 ∧ n 5 0 6 ≤ 200 * k) ∧ ((∀ r r', 0 ≤ r → r < r' → r' < k → m 107 (o r) = 6 → m 107 (o r') = 6 → m 116 (o r) + n 3 (o r) 19 ≤ m 116 (o r')) ∧ (∀ w, 0 ≤ w → w < n 5 0 6 → ∃ r, 0 ≤ r ∧ r < k ∧ m 107 (o r) = 6 ∧ m 116 (o r) ≤ w ∧ w < m 116 (o r) + n 3 (o r) 19) ∧ ∀ r, 0 ≤ r → r < k → m 107 (o r) = 6 → m 116 (o r) + n 3 (o r) 19 = (if r + 1 < k then m 116 (o (r + 1)) else n 5 0 6)) ∧ ((n 5 0 3 = m 106 0 ∧ 20 ≤ m 106 0 ∧ m 106 0 ≤ 96) ∧ S18 n)
section Y6
variable {n n' n'' : NS} {m m' m'' : YS} {A B N a b c x y q s E v u w t k j r x1 x2 x3 x4 x5 i L fw len wide : Int} {o e p g : Int → Int}
theorem MSk.tx (h : MSk n m o e p r) (h6 : m 107 (o r) = 6) : TXw n m (m 109 (o r)) (o r) := by
  rcases h with ⟨z, _⟩ | ⟨_, w | w | w | w | w⟩
  · omega
  · have := w.1; omega
  · have := w.1; omega
  · omega
  · omega
  · exact w.2.2.2.2
/-- what was measured stays -/
theorem MSk.m1 (h : MSk n m o e p r) (r0 : 0 ≤ r) (rk : r < k) (hp : 1 ≤ r → 0 ≤ p r ∧ p r < r) (hu : ∀ a, 0 ≤ a → a < k → o a ≠ u) (hF : F1n n n') (h3 : ∀ a, a ≠ u → n' 3 a = n 3 a) (hK : WKp n n') (hY : FM1 u k (n 5 0 6) m m') : MSk n' m' o e p r := by
  obtain ⟨y1, y2, y3, y4⟩ := hY
  have y1' : ∀ f, f ∉ [107, 108, 109, 112, 113, 116, 117, 118, 119, 120, 123, 124, 125] → m' f = m f := y1
  have g3 : ∀ a, 0 ≤ a → a < k → n' 3 (o a) = n 3 (o a) := fun a b c => h3 _ (hu a b c)
  have gm : ∀ f, f = 107 ∨ f = 108 ∨ f = 109 ∨ f = 112 ∨ f = 113 ∨ f = 116 → ∀ a, 0 ≤ a → a < k → m' f (o a) = m f (o a) := fun f hf a b c => y2 f hf _ (hu a b c)
  have e105 : m' 105 = m 105 := y1' 105 (by decide)
  have e46 : m' 46 = m 46 := y1' 46 (by decide)
  have bx : ∀ st', BXf n m (o r) st' → BXf n' m' (o r) st' := fun st' h => h.cg (fun s _ => by rw [g3 r r0 rk]) e105
  have hTX : m 107 (o r) = 6 → TXw n' m' (m 109 (o r)) (o r) := fun h6 => by
    obtain ⟨a1, a2, a3, a4, a5, a6⟩ := h.tx h6
    have e62 : m' 62 = m 62 := y1' 62 (by decide)
    have e61 : m' 61 = m 61 := y1' 61 (by decide)
    have e49 : m' 49 = m 49 := y1' 49 (by decide)
    have e116 := gm 116 (by omega) r r0 rk
    have e109 := gm 109 (by omega) r r0 rk
    have eP : ∀ i, m 116 (o r) ≤ i → i ≤ m 116 (o r) + n 3 (o r) 19 → pE m' (o r) i = pE m (o r) i := fun i p1 p2 => by
      unfold pE
      rw [e116]
      by_cases z : i = m 116 (o r)
      · rw [if_pos z, if_pos z]
      · have g := y3 (i - 1) (by omega)
        rw [if_neg z, if_neg z, g.2.1, g.2.2.1]
    refine ⟨a1, by rw [hF.2.1 _ (by omega), e62]; exact a2, by rw [g3 r r0 rk, e116]; exact ⟨a3.1, a3.2.1, a3.2.2.1, a3.2.2.2.1, by have := hK.1; omega⟩, by rw [g3 r r0 rk, e105, e49]; exact a4, fun i p1 p2 => ?_, ?_⟩
    · rw [e116] at p1 p2
      rw [g3 r r0 rk] at p2
      obtain ⟨b1, b2, b3, b4, b5, b6, b7⟩ := a5 i p1 p2
      obtain ⟨d1, d2, d3, d4, d5, d6, d7, d8, d9⟩ := b1
      have g := y3 i d2
      have w0 := hK.2 (6 * i) (by omega) (by omega)
      have w1 := hK.2 (6 * i + 1) (by omega) (by omega)
      have w2 := hK.2 (6 * i + 2) (by omega) (by omega)
      have w5 := hK.2 (6 * i + 5) (by omega) (by omega)
      refine ⟨⟨d1, by have := hK.1; omega, by rw [w0, g.1]; exact d3, by rw [g.1]; exact d4, ?_, ?_, by rw [g.1, e49]; exact d7, ?_, ?_⟩, by rw [g.1]; exact b2, by rw [w1, w2, w5, g.2.1, g.2.2.1, g.2.2.2]; exact b3, by rw [g.2.2.2, g.2.1, g.2.2.1, e61, g3 r r0 rk]; exact b4, by rw [eP i p1 (by omega), g.2.1, g.2.2.1, e62]; exact b5, fun j p p' => ?_, fun j p p' => ?_⟩
      · rw [g.1, e105, e49, b2, g3 r r0 rk]; rw [b2] at d5; exact d5
      · rw [g.1, b2, g3 r r0 rk]; rw [b2] at d6; exact d6
      · rw [g.1, b2, g3 r r0 rk]; rw [b2] at d8; exact d8
      · rw [g.1, b2, e109]
      · rw [eP i p1 (by omega)] at p
        rw [g.2.1] at p'
        rw [e61]; exact b6 j p p'
      · rw [g.2.1] at p
        rw [g.2.1, g.2.2.1] at p'
        rw [e61]; exact b7 j p p'
    · rw [e116, g3 r r0 rk, eP _ (by omega) (Int.le_refl _), e62, e61]; exact a6
  rcases h with ⟨h1, h2⟩ | ⟨h1, h2⟩
  · exact .inl ⟨by rw [gm 107 (by omega) r r0 rk]; exact h1, by rw [g3 r r0 rk]; exact h2⟩
  · refine .inr ⟨?_, ?_⟩
    · rcases h1 with h1 | ⟨hh, b1, b2, b3, b4⟩
      · exact .inl ⟨h1.1, by rw [g3 r r0 rk]; exact h1.2⟩
      · exact .inr ⟨hh, b1, by rw [gm 109 (by omega) r r0 rk, g3 r r0 rk]; exact b2, by rw [gm 107 (by omega) hh b1.1 (by omega)]; exact b3, fun a x y z => by rw [gm 107 (by omega) a (by omega) (by omega)]; exact b4 a x y z⟩
    · rw [gm 107 (by omega) r r0 rk, g3 r r0 rk, e46]
      rcases h2 with h2 | h2 | h2 | h2 | h2
      · obtain ⟨c1, c2, c3, c4, c5, c6, c7, c8⟩ := h2
        refine .inl ⟨by rw [gm 107 (by omega) r r0 rk]; exact c1, by rw [g3 r r0 rk]; exact c2, by rw [e46]; exact c3, bx _ c4, by rw [gm 107 (by omega) r r0 rk, e105]; exact c5, by rw [g3 r r0 rk, gm 112 (by omega) r r0 rk]; exact c6, ?_, by rw [g3 r r0 rk]; exact c8⟩
        unfold SID at *
        rw [g3 r r0 rk, gm 108 (by omega) r r0 rk, e105]
        refine ⟨c7.1, fun z => ?_⟩
        have hpr := hp z
        rw [gm 107 (by omega) (p r) hpr.1 (by omega)]
        exact c7.2 z
      · obtain ⟨c1, c2, c3, c4, c5, c6, c7⟩ := h2
        exact .inr (.inl ⟨by rw [gm 107 (by omega) r r0 rk]; exact c1, by rw [g3 r r0 rk]; exact c2, by rw [e46]; exact c3, bx _ c4, by rw [g3 r r0 rk, gm 112 (by omega) r r0 rk]; exact c5, by rw [g3 r r0 rk, gm 113 (by omega) r r0 rk]; exact c6, by rw [g3 r r0 rk]; exact c7⟩)
      · exact .inr (.inr (.inl h2))
      · obtain ⟨c1, c2, c3, c4, c5⟩ := h2
        exact .inr (.inr (.inr (.inl ⟨c1, c2, c3, bx _ c4, c5⟩)))
      · obtain ⟨c1, c2, c3, c4, c5⟩ := h2
        exact .inr (.inr (.inr (.inr ⟨c1, c2, c3, by rw [y1' 49 (by decide)]; exact bx _ c4, by rw [gm 109 (by omega) r r0 rk]; exact hTX c1⟩)))
/-- one place further -/
theorem M1.next (h : M1 A B N o e p k n m) (k0 : 0 ≤ k) (hkN : k < N) (hF : F1n n n') (h3 : ∀ a, a ≠ o k → n' 3 a = n 3 a) (hK : WKp n n') (hB : BI A B n') (hW : WL1 n') (hY : FM1 (o k) k (n 5 0 6) m m') (h125 : m' 125 0 = k + 1) (h124 : m' 124 k = o k) (hct : n' 5 0 6 = m' 117 0 ∧ n' 5 0 6 ≤ n 5 0 6 + 200) (hMk : MSk n' m' o e p k) (hfx : 1 ≤ k → m 107 (o (p k)) = 2 → m' 107 (o k) = 0 ∨ m' 107 (o k) = 1 ∨ m' 107 (o k) = 2 ∨ m' 107 (o k) = 4) (hz : n' 3 (o k) 0 = 3 → n' 3 (o k) 2 = 0 ∧ n' 3 (o k) 3 = 0) (hz0 : k = 0 → (n' 3 (o 0) 1 = -1 ∧ n' 3 (o 0) 2 = 0 ∧ n' 3 (o 0) 3 = 0) ∧ (m' 107 (o 0) = 1 ∨ m' 107 (o 0) = 2)) (h116 : m' 116 (o k) = n 5 0 6) (hcov : (m' 107 (o k) ≠ 6 ∧ n' 5 0 6 = n 5 0 6) ∨ (m' 107 (o k) = 6 ∧ n' 5 0 6 = n 5 0 6 + n' 3 (o k) 19)) (h18 : 0 ≤ n' 3 (o k) 18 ∧ n' 3 (o k) 18 ≤ 24000) : M1 A B N o e p (k + 1) n' m' := by
  obtain ⟨⟨hT, hL, hJ, hLk, hB0, hW0⟩, a1, a2, a3, a4, a5, a6, a7⟩ := h
  have hG := hT.1.1
  have hY0 := hY
  obtain ⟨y1, y2, y3, y4⟩ := hY
  have y1' : ∀ f, f ∉ [107, 108, 109, 112, 113, 116, 117, 118, 119, 120, 123, 124, 125] → m' f = m f := y1
  have hu : ∀ a, 0 ≤ a → a < k → o a ≠ o k := fun a b c z => by have := hG.inj (j := a) (k := k) b (by omega) k0 hkN z; omega
  have gm : ∀ f, f = 107 ∨ f = 108 ∨ f = 109 ∨ f = 112 ∨ f = 113 ∨ f = 116 → ∀ a, 0 ≤ a → a < k → m' f (o a) = m f (o a) := fun f hf a b c => y2 f hf _ (hu a b c)
  refine ⟨⟨hT.f1 hB0 hW0.1 hF (fun f x y => y1' f (by simp only [List.mem_cons, List.not_mem_nil, or_false, not_or]; omega)), hL.f1 hF, ?_, hLk.f1 hF (y1' 105 (by decide)) (y1' 46 (by decide)), hB, hW⟩, fun r x y => ?_, fun r x y z => ?_, ⟨fun r x y z => ?_, fun _ => ?_⟩, ⟨h125, fun r x y => ?_⟩, ⟨hct.1, by have := hK.1; omega, by omega⟩, ⟨fun r r' x y z z1 z2 => ?_, fun w x y => ?_, fun r x y z => ?_⟩, by rw [hF.2.2.1 3 (by decide) (by decide), y1' 106 (by decide)]; exact a7.1, fun a x y => ?_⟩
  · unfold JP at *
    rw [y1' 46 (by decide)]; exact hJ
  · by_cases w : r = k
    · rw [w]; exact hMk
    · exact (a1 r x (by omega)).m1 x (by omega) (fun z => by have := hG.pB (k := r) z (by omega); omega) hu hF h3 hK hY0
  · have hpr := hG.pB (k := r) x (by omega)
    by_cases w : r = k
    · rw [w] at z x hpr ⊢
      rw [gm 107 (by omega) (p k) hpr.1 hpr.2.1] at z
      exact hfx x z
    · rw [gm 107 (by omega) (p r) hpr.1 (by omega)] at z
      rw [gm 107 (by omega) r (by omega) (by omega)]
      exact a2 r x (by omega) z
  · by_cases w : r = k
    · rw [w] at z ⊢; exact hz z
    · rw [h3 _ (hu r x (by omega))] at z ⊢
      exact a3.1 r x (by omega) z
  · by_cases w : k = 0
    · exact hz0 w
    · rw [h3 _ (hu 0 (Int.le_refl _) (by omega)), gm 107 (by omega) 0 (Int.le_refl _) (by omega)]
      exact a3.2 (by omega)
  · by_cases w : r = k
    · rw [w]; exact h124
    · rw [y4 r w]; exact a4.2 r x (by omega)
  · rw [gm 107 (by omega) r x (by omega)] at z1
    rw [gm 116 (by omega) r x (by omega), h3 _ (hu r x (by omega))]
    by_cases w : r' = k
    · rw [w, h116]
      have := ((a1 r x (by omega)).tx z1).2.2.1
      omega
    · rw [gm 107 (by omega) r' (by omega) (by omega)] at z2
      rw [gm 116 (by omega) r' (by omega) (by omega)]
      exact a6.1 r r' x y (by omega) z1 z2
  · by_cases z : w < n 5 0 6
    · obtain ⟨r, r0, rk, r1, r2, r3⟩ := a6.2.1 w x z
      exact ⟨r, r0, by omega, by rw [gm 107 (by omega) r r0 rk]; exact r1, by rw [gm 116 (by omega) r r0 rk]; exact r2, by rw [gm 116 (by omega) r r0 rk, h3 _ (hu r r0 rk)]; exact r3⟩
    · rcases hcov with c | c
      · omega
      · exact ⟨k, k0, by omega, c.1, by omega, by omega⟩
  · by_cases w : r = k
    · rw [w] at z ⊢
      rw [if_neg (by omega), h116]
      rcases hcov with c | c
      · exact absurd z c.1
      · exact c.2.symm
    · rw [gm 107 (by omega) r x (by omega)] at z
      rw [gm 116 (by omega) r x (by omega), h3 _ (hu r x (by omega)), a6.2.2 r x (by omega) z]
      by_cases w1 : r + 1 < k
      · rw [if_pos w1, if_pos (show r + 1 < k + 1 by omega), gm 116 (by omega) (r + 1) (by omega) w1]
      · rw [if_neg w1, if_pos (show r + 1 < k + 1 by omega), show r + 1 = k by omega, h116]
  · by_cases w : a = o k
    · rw [w]; exact h18
    · rw [h3 a w]; exact a7.2 a x y
end Y6
