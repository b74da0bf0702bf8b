/-! A NODE GOES from both trees, with all in it: the links stay alike -/
section C5
variable {n n' n8 : NS} {m m' : YS} {N k b : Int} {o e p : Int → Int}
theorem PV.bf (hT : TY m N o e p) (hb : TB N o e p (m 53)) (h1 : 1 ≤ k) (h2 : k < N) (h : PV o e p (p k) k b) : m 53 (o k) = b ∧ (b = -1 ↔ k = p k + 1) ∧ b ≠ o (p k) ∧ (∀ j, 0 ≤ j → j < N → o j = b → 1 ≤ j ∧ p j = p k ∧ e j = k) := by
  have hp := hT.pB h1 h2
  have hop := hT.oB (k := p k) (by omega) (by omega)
  rcases h with ⟨a1, a2⟩ | ⟨i, a1, a2, a3, a4, a5⟩
  · refine ⟨by rw [a2]; exact hb.2.1 k h1 h2 a1, ⟨fun _ => a1, fun _ => a2⟩, by omega, fun j x y z => ?_⟩
    have := hT.oB x y; omega
  · have hoi := hT.oB (k := i) (by omega) (by omega)
    have hpi := hT.pB a1 (by omega)
    refine ⟨by rw [a5]; exact hb.2.2 k i h1 h2 a1 a2 a3 a4, ⟨fun z => by omega, fun z => by omega⟩, fun z => ?_, fun j x y z => ?_⟩
    · rw [a5] at z
      have := hT.inj (by omega) (by omega) (by omega) (by omega) z
      omega
    · rw [a5] at z
      have := hT.inj x y (by omega) (by omega) z
      subst this
      exact ⟨a1, a3, a4⟩
theorem JS_del (h : JS n m N o e p) (h1 : 1 ≤ k) (h2 : k < N)
    (y1 : FY [45, 68] (cutY m (o k)) m') (y2 : m' 68 0 = N - (e k - k)) (y3 : ∀ j, k ≤ j → j < e k → m' 45 (o j) = 0) (y4 : ∀ u, (∀ j, k ≤ j → j < e k → o j ≠ u) → m' 45 u = m 45 u)
    (c1 : FL n n8) (c2 : PV o e p (p k) k b) (c3 : ∀ u s, s ≠ 0 → n' 7 u s = cutC n8 (o k) (o (p k)) b 7 u s) (c4 : ∀ j, k ≤ j → j < e k → n' 7 (o j) 0 = -1) (c5 : ∀ u, (∀ j, k ≤ j → j < e k → o j ≠ u) → n' 7 u 0 = n8 7 u 0) (c6 : n' 10 0 5 = N - (e k - k)) (c7 : ∀ s, s ≠ 5 → s ≠ 6 → n' 10 0 s = n8 10 0 s) :
    JS n' m' (N - (e k - k)) (delO o k (e k - k)) (delE e k (e k - k)) (delP p k (e k - k)) := by
  have hT := h.1
  obtain ⟨q1, q2, q3, q4⟩ := c2.bf hT h.2.2.1 h1 h2
  have hp := hT.pB h1 h2
  have hk := hT.eB (k := k) (by omega) h2
  have hep := hT.ep h1 h2
  have hpe := hT.eB (k := p k) (by omega) (by omega)
  have hop := hT.oB (k := p k) (by omega) (by omega)
  have hpar : m 49 (o k) = o (p k) := hT.parE h1 h2
  have hnx : m 52 (o k) = if e k < e (p k) then o (e k) else -1 := hT.nxE h1 h2
  have hnx1 : m 52 (o k) = -1 ↔ e k = e (p k) := by
    by_cases z : e k < e (p k)
    · have := hT.oB (k := e k) (by omega) (by omega)
      rw [hnx, if_pos z]; omega
    · rw [hnx, if_neg z]; omega
  have hnx2 : m 52 (o k) ≠ -1 → m 52 (o k) = o (e k) ∧ p (e k) = p k ∧ e k < e (p k) := fun z => by
    have z2 : e k < e (p k) := by
      rcases Int.lt_or_eq_of_le hep with x | x
      · exact x
      · exact absurd (hnx1.mpr x) z
    exact ⟨by rw [hnx, if_pos z2], hT.sib h1 h2 rfl z2, z2⟩
  have hne : ∀ j, 0 ≤ j → j < N → j ≠ p k → o j ≠ o (p k) := fun j a b c z => c (hT.inj a b (by omega) (by omega) z)
  have f49 : m' 49 = m 49 := (y1 49 (by decide)).trans cutY_49
  have f50 : ∀ i, m' 50 i = if m 53 (o k) = -1 ∧ i = m 49 (o k) then m 52 (o k) else m 50 i := fun i => by rw [y1 50 (by decide)]; exact cutY_50
  have f51 : ∀ i, m' 51 i = if m 52 (o k) = -1 ∧ i = m 49 (o k) then m 53 (o k) else m 51 i := fun i => by rw [y1 51 (by decide)]; exact cutY_51
  have f52 : ∀ i, m' 52 i = if m 53 (o k) ≠ -1 ∧ i = m 53 (o k) then m 52 (o k) else m 52 i := fun i => by rw [y1 52 (by decide)]; exact cutY_52
  have f53 : ∀ i, m' 53 i = if m 52 (o k) ≠ -1 ∧ i = m 52 (o k) then m 53 (o k) else m 53 i := fun i => by rw [y1 53 (by decide)]; exact cutY_53
  have TGn : TY m' (N - (e k - k)) (delO o k (e k - k)) (delE e k (e k - k)) (delP p k (e k - k)) := TG_del hT h1 h2
    (fun j _ _ _ => by rw [f49])
    (fun j a b _ c => by rw [f50, if_neg (fun z => hne j a b c (z.2.trans hpar))])
    (by
      rw [f50, q1]
      by_cases z : k = p k + 1
      · rw [if_pos ⟨q2.mpr z, hpar.symm⟩, if_pos z]
      · rw [if_neg (fun y => z (q2.mp y.1)), if_neg z])
    (fun j a b _ c => by rw [f52, q1, if_neg (fun z => c (q4 j a b z.2))])
    (fun j a b c d => by
      have : m 53 (o k) = o j := h.2.2.1.2.2 k j h1 h2 a b c d
      have hb := hT.oB (k := j) (by omega) (by omega)
      rw [f52, if_pos ⟨by omega, this.symm⟩])
  have TLn : TL (N - (e k - k)) (delO o k (e k - k)) (delE e k (e k - k)) (delP p k (e k - k)) (m' 51) := TL_del hT h.2.1 h.2.2.1 h1 h2
    (fun j a b _ c => by rw [f51, if_neg (fun z => hne j a b c (z.2.trans hpar))])
    (by
      rw [f51]
      by_cases z : e k = e (p k)
      · rw [if_pos ⟨hnx1.mpr z, hpar.symm⟩, if_pos z]
      · rw [if_neg (fun y => z (hnx1.mp y.1)), if_neg z])
  have TBn : TB (N - (e k - k)) (delO o k (e k - k)) (delE e k (e k - k)) (delP p k (e k - k)) (m' 53) := TB_del hT h.2.2.1 h1 h2
    (fun j a b _ c => by
      rw [f53]
      refine if_neg (fun z => ?_)
      obtain ⟨x1, x2, x3⟩ := hnx2 z.1
      have := hT.inj a b (by omega) (by omega) (z.2.trans x1)
      subst this
      exact c ⟨rfl, x2⟩)
    (fun a c => by
      have hh := hT.pB (k := e k) (by omega) a
      rw [c] at hh
      have z : m 52 (o k) ≠ -1 := fun z => by have := hnx1.mp z; omega
      rw [f53, if_pos ⟨z, (hnx2 z).1.symm⟩])
  have dcase : ∀ j, 0 ≤ j → j < N - (e k - k) → ∃ i, 0 ≤ i ∧ i < N ∧ (i < k ∨ e k ≤ i) ∧ delO o k (e k - k) j = o i := fun j a b => by
    rcases Int.lt_or_le j k with u | u
    · exact ⟨j, a, by omega, .inl u, delO_lt u⟩
    · exact ⟨j + (e k - k), by omega, by omega, .inr (by omega), delO_ge u⟩
  have dback : ∀ i, 0 ≤ i → i < N → (i < k ∨ e k ≤ i) → ∃ j, 0 ≤ j ∧ j < N - (e k - k) ∧ delO o k (e k - k) j = o i := fun i a b c => by
    rcases c with c | c
    · exact ⟨i, a, by omega, delO_lt c⟩
    · exact ⟨i - (e k - k), by omega, by omega, by rw [delO_ge (by omega)]; congr 1; omega⟩
  refine ⟨TGn, TLn, TBn, fun v a b => ?_, fun j a bN => ?_, c6, y2, ?_, ?_⟩
  · have hx := h.2.2.2.1 v a b
    by_cases hv : ∃ j, k ≤ j ∧ j < e k ∧ o j = v
    · obtain ⟨j, j1, j2, j3⟩ := hv
      rw [← j3, y3 j j1 j2, c4 j j1 j2]
      refine ⟨.inr rfl, ⟨fun z => by omega, fun ⟨i, i1, i2, i3⟩ => ?_⟩, ⟨fun _ => rfl, fun _ => rfl⟩⟩
      obtain ⟨i', z1, z2, z3, z4⟩ := dcase i i1 i2
      rw [z4] at i3
      have := hT.inj z1 z2 (by omega) (by omega) i3
      omega
    · have hv' : ∀ j, k ≤ j → j < e k → o j ≠ v := fun j x y z => hv ⟨j, x, y, z⟩
      rw [y4 v hv', c5 v hv', c1.2.1 v 0 (by decide) (by decide)]
      refine ⟨hx.1, hx.2.1.trans ⟨fun ⟨j, x, y, z⟩ => ?_, fun ⟨j, x, y, z⟩ => ?_⟩, hx.2.2⟩
      · have : j < k ∨ e k ≤ j := by
          rcases Int.lt_or_le j k with u | u
          · exact .inl u
          · rcases Int.lt_or_le j (e k) with u' | u'
            · exact absurd z (hv' j u u')
            · exact .inr u'
        obtain ⟨i, x1, x2, x3⟩ := dback j x y this
        exact ⟨i, x1, x2, x3.trans z⟩
      · obtain ⟨i, x1, x2, _, x4⟩ := dcase j x y
        exact ⟨i, x1, x2, x4.symm.trans z⟩
  · obtain ⟨i, i1, i2, _, i4⟩ := dcase j a bN
    rw [i4]
    have hi := h.2.2.2.2.1 i i1 i2
    have hkl := h.2.2.2.2.1 k (by omega) h2
    have hpl := h.2.2.2.2.1 (p k) (by omega) (by omega)
    have e8 : ∀ u s, s ≠ 8 → s ≠ 9 → n8 7 u s = n 7 u s := c1.2.1
    have hlk : n8 7 (o (p k)) 4 = o k ↔ m 52 (o k) = -1 := by
      rw [e8 _ 4 (by decide) (by decide), hpl.1.2.2.1, hnx1]
      constructor
      · intro z
        obtain ⟨j', w1, w2, w3, w4⟩ := hT.last (k := p k) (by omega) (by omega) (by omega)
        have := h.2.1.2 (p k) j' (by omega) w1 (by omega) w3 w4
        rw [z] at this
        have := hT.inj (by omega) h2 (by omega) (by omega) this
        subst this
        exact w4
      · intro z
        exact h.2.1.2 (p k) k (by omega) (by omega) h2 rfl z
    have g : ∀ s, s ≠ 0 → n' 7 (o i) s = _ := fun s hs => (c3 (o i) s hs).trans (cutC_7 (n := n8) (v := o k) (u := o i) (s := s) (Ne.symm q3))
    have go : ∀ s, s ≠ 0 → s ≠ 3 → s ≠ 5 → s ≠ 4 → s ≠ 6 → s ≠ 8 → s ≠ 9 → n' 7 (o i) s = n 7 (o i) s := fun s s0 s1 s2 s3 s4 s8 s9 => by
      rw [g s s0, if_neg (fun z => s1 z.1), if_neg (fun z => s2 z.1), if_neg (fun z => s3 z.1), if_neg (fun z => s4 z.1)]; exact e8 _ s s8 s9
    have k5 : n8 7 (o k) 5 = m 52 (o k) := (e8 _ 5 (by decide) (by decide)).trans hkl.1.2.2.2.1
    have fo : ∀ f : Nat, f ≠ 50 ∧ f ≠ 51 ∧ f ≠ 52 ∧ f ≠ 53 → f ∉ [45, 68] → m' f = m f := fun f z1 z2 => (y1 f z2).trans (cutY_o z1)
    refine ⟨⟨?_, ?_, ?_, ?_, ?_, ?_⟩, ?_, ?_, ?_, ?_⟩
    · rw [go 2 (by decide) (by decide) (by decide) (by decide) (by decide) (by decide) (by decide), f49]; exact hi.1.1
    · rw [g 3 (by decide), f50, q1, hpar, k5]
      by_cases z : b = -1 ∧ o i = o (p k)
      · rw [if_pos ⟨rfl, z⟩, if_pos z]
      · rw [if_neg (fun y => z y.2), if_neg (by omega), if_neg (by omega), if_neg (by omega), if_neg z, e8 _ 3 (by decide) (by decide)]; exact hi.1.2.1
    · rw [g 4 (by decide), f51, q1, hpar]
      by_cases z : m 52 (o k) = -1 ∧ o i = o (p k)
      · rw [if_neg (by omega), if_neg (by omega), if_pos ⟨rfl, z.2, hlk.mpr z.1⟩, if_pos z]
      · rw [if_neg (by omega), if_neg (by omega), if_neg (fun y => z ⟨hlk.mp y.2.2, y.2.1⟩), if_neg (by omega), if_neg z, e8 _ 4 (by decide) (by decide)]; exact hi.1.2.2.1
    · rw [g 5 (by decide), f52, q1, k5]
      by_cases z : b ≠ -1 ∧ o i = b
      · rw [if_neg (by omega), if_pos ⟨rfl, z⟩, if_pos z]
      · rw [if_neg (by omega), if_neg (fun y => z y.2), if_neg (by omega), if_neg (by omega), if_neg z, e8 _ 5 (by decide) (by decide)]; exact hi.1.2.2.2.1
    · rw [go 7 (by decide) (by decide) (by decide) (by decide) (by decide) (by decide) (by decide), fo 54 (by decide) (by decide)]; exact hi.1.2.2.2.2.1
    · rw [go 10 (by decide) (by decide) (by decide) (by decide) (by decide) (by decide) (by decide), fo 55 (by decide) (by decide)]; exact hi.1.2.2.2.2.2
    · rw [fo 54 (by decide) (by decide)]; exact hi.2.1
    · rw [fo 54 (by decide) (by decide)]; exact hi.2.2.1
    · rw [fo 55 (by decide) (by decide)]; exact hi.2.2.2.1
    · rw [fo 55 (by decide) (by decide), fo 69 (by decide) (by decide)]; exact hi.2.2.2.2
  · rw [c7 7 (by decide) (by decide), c1.2.2 7 (by decide) (by decide), y1 69 (by decide), cutY_o (by decide)]; exact h.2.2.2.2.2.2.2.1
  · rw [y1 69 (by decide), cutY_o (by decide)]; exact h.2.2.2.2.2.2.2.2
end C5
