/-! THE START: the net, the tree, what acts hold -/
def asl : List Nat := [1578, 1582, 1584, 1586] ++ (List.range 20).map (fun i => 1591 + 2 * i)
def As0 (a : Int) : Prop := ∃ q ∈ asl, a = ((q : Nat) : Int)
def Bs0 (x : Int) : Prop := x = 1573
section YZQ
variable {g : g_S} {f1 f2 f5 f6 : Nat → Int} {n n5 : NS} {m m5 : YS} {z : Int} {K q k f : Nat} {i s b v : Int}
theorem asl_all : ∀ q ∈ asl, q + 1 < 1838 ∧ sty q = 101 ∧ sty (q + 1) = 1 ∧ sln (q + 1) = 160 ∧ lc q = (99, (q : Int)) ∧ (q ∈ EXC → q = 1582 ∨ q = 1591) ∧ q + 1 ≠ 1573 := by decide +kernel
theorem ST0.a0 (h : ST0 g f1 f2 f5 f6 n5 z n) (hq : q ∈ asl) : n 99 q 0 = ((q + 1 : Nat) : Int) := by
  obtain ⟨a1, a2, a3, a4, a5, a6, a7⟩ := asl_all q hq
  by_cases hE : q ∈ EXC
  · rw [h.kk (by decide)]
    rcases a6 hE with w | w
    · rw [w]
      have := h.1.1.n99 (q := 1582) (by decide) (x := (1582, f1)) (by simp only [List.mem_cons]; exact .inl trivial) rfl (s := 0) (by decide)
      rw [show ((1582 : Nat) : Int) = 1582 from rfl] at *
      exact this.trans h.1.2.1.1
    · rw [w]
      have := h.1.1.n99 (q := 1591) (by decide) (x := (1591, f5)) (by simp only [List.mem_cons]; exact .inr (.inr (.inr (.inr (.inl trivial))))) rfl (s := 0) (by decide)
      exact this.trans h.1.2.2.1
  · rw [h.r a5 (by omega) hE (by decide)]
    unfold V99
    rw [if_pos a2]
    show ((q : Int) + 1) = _
    omega
theorem ST0.ads (h : ST0 g f1 f2 f5 f6 n5 z n) : AdS n As0 := by
  intro a ha
  obtain ⟨q, hq, rfl⟩ := ha
  obtain ⟨a1, a2, a3, a4, a5, a6, a7⟩ := asl_all q hq
  have e := h.a0 hq
  have t1 := h.ty (q := q) (by omega)
  have t2 := h.ty a1
  rw [e]
  refine ⟨⟨⟨by omega, by rw [h.n90.1]; omega⟩, by rw [t1.1, a2]; rfl, ⟨by omega, by rw [h.n90.1]; omega⟩, by rw [t2.1, a3]; rfl, by rw [t2.2, a4]; rfl⟩, fun b h0 h1 => ?_, fun a' ha' he => ?_⟩
  · rw [(h.by' ⟨h0, h1⟩).2.1]
    intro w
    have w : aBy b = q := by omega
    have := (by_st ⟨h0, h1⟩).2.1
    rw [w, a2] at this; cases this
  · obtain ⟨q', hq', rfl⟩ := ha'
    rw [h.a0 hq'] at he
    omega
theorem ST0.rw' (h : ST0 g f1 f2 f5 f6 n5 z n) {x : Int} (hx : Bs0 x) : (0 ≤ x ∧ x < n 90 0 0) ∧ n 92 0 x = 1 ∧ (∀ b, 0 ≤ b → b ≤ 631 → n 4 b 1 ≠ x) ∧ ∀ a, As0 a → n 99 a 0 ≠ x := by
  have hx : x = 1573 := hx
  subst hx
  have t := h.ty (q := 1573) (by decide)
  refine ⟨⟨by decide, by rw [h.n90.1]; decide⟩, t.1.trans (by decide), fun b h0 h1 w => ?_, fun a ha w => ?_⟩
  · rw [(h.by' ⟨h0, h1⟩).2.1] at w
    have w : aBy b = 1572 := by omega
    have := (by_st ⟨h0, h1⟩).2.1
    rw [w] at this
    exact absurd this (by decide)
  · obtain ⟨q, hq, rfl⟩ := ha
    rw [h.a0 hq] at w
    have := (asl_all q hq).2.2.2.2.2.2
    omega
theorem ST0.k6 (h : ST0 g f1 f2 f5 f6 n5 z n) (hs : 0 ≤ s) : n 6 0 s = Vn 6 0 s.toNat := h.va (q := 1569) (K := 6) (i := 0) (by decide) (by decide) (by decide) (by decide) hs
theorem ST0.k0 (h : ST0 g f1 f2 f5 f6 n5 z n) (hs : 0 ≤ s) : n 0 0 s = Vn 0 0 s.toNat := h.va (q := 1789) (K := 0) (i := 0) (by decide) (by decide) (by decide) (by decide) hs
theorem ST0.bt0 (h : ST0 g f1 f2 f5 f6 n5 z n) (hb : 0 ≤ b ∧ b ≤ 630) : bt n b = [] := by
  unfold bt
  rw [(h.by' ⟨hb.1, by omega⟩).2.2, if_neg (by omega)]; rfl
/-! the reference -/
theorem mOf_z (h : f ≠ 6 ∧ f ≠ 7 ∧ f ≠ 106 ∧ f ≠ 150) : mOf yFi yR f i = 0 := by
  unfold mOf
  by_cases w : yT f = 9
  · rw [if_pos w]
    unfold yFi upf
    rw [if_neg h.2.2.2, if_neg h.2.2.1]; rfl
  · rw [if_neg w]
    unfold yR upR
    rw [if_neg (fun y => h.1 y.1), if_neg (fun y => h.1 y.1), if_neg (fun y => h.1 y.1), if_neg (fun y => h.1 y.1), if_neg (fun y => h.1 y.1), if_neg (fun y => h.1 y.1), if_neg (fun y => h.1 y.1), if_neg (fun y => h.2.1 y.1)]; rfl
theorem nY0_f (h : f ∉ [45, 68, 69, 55, 54, 49, 50, 51, 52, 53, 56, 62, 63, 48, 65, 66]) : newY0 m5 0 (-1) 0 f = m5 f := by
  simp only [List.mem_cons, List.not_mem_nil, or_false, not_or] at h
  unfold newY0
  rw [yw_nF (by omega), yw_nF (by omega), yw_nF (by omega), yw_nF (by omega), yw_nF (by omega), yw_nF (by omega), yw_nF (by omega), yw_nF (by omega), yw_nF (by omega), yw_nF (by omega), yw_nF (by omega), yw_nF (by omega), yw_nF (by omega), yw_nF (by omega), yw_nF (by omega), yw_nF (by omega)]
theorem MT0.ff (h : MT0 m m5) (hf : f ∉ [45, 46, 47, 48, 49, 50, 51, 52, 53, 54, 55, 56, 62, 63, 65, 66, 68, 69]) : m f = m5 f := by
  simp only [List.mem_cons, List.not_mem_nil, or_false, not_or] at hf
  rw [h.2.2.2, rootY_n (by omega)]
  exact nY0_f (by simp only [List.mem_cons, List.not_mem_nil, or_false, not_or]; omega)
theorem MT0.mf (h : MT0 m m5) (hf : f ∉ [6, 7, 8, 45, 68, 148, 149]) : m5 f = mOf yFi yR f := by
  simp only [List.mem_cons, List.not_mem_nil, or_false, not_or] at hf
  obtain ⟨m1, m2, h1, h2, h3⟩ := h.1
  rw [h3 f (by simp only [List.mem_cons, List.not_mem_nil, or_false, not_or]; omega), yw_nF (by omega), yw_nF (by omega), h2.1 f (by simp only [List.mem_cons, List.not_mem_nil, or_false, not_or]; omega), h1.1 f (by simp only [List.mem_cons, List.not_mem_nil, or_false, not_or]; omega)]
theorem MT0.ze (h : MT0 m m5) (hf : f ∉ [6, 7, 8, 45, 46, 47, 48, 49, 50, 51, 52, 53, 54, 55, 56, 62, 63, 65, 66, 68, 69, 106, 148, 149, 150]) : m f i = 0 := by
  simp only [List.mem_cons, List.not_mem_nil, or_false, not_or] at hf
  rw [h.ff (by simp only [List.mem_cons, List.not_mem_nil, or_false, not_or]; omega), h.mf (by simp only [List.mem_cons, List.not_mem_nil, or_false, not_or]; omega)]
  exact mOf_z (by omega)
theorem MT0.ot (h : MT0 m m5) : m 148 0 = 1 ∧ m 149 0 = 0 ∧ m 150 0 = -1 ∧ m 106 0 = 48 ∧ m5 69 0 = 0 := by
  obtain ⟨m1, m2, h1, h2, h3⟩ := h.1
  rw [h.ff (f := 148) (by decide), h.ff (f := 149) (by decide), h.ff (f := 150) (by decide), h.ff (f := 106) (by decide), h.mf (f := 150) (by decide), h.mf (f := 106) (by decide), h.mf (f := 69) (by decide), h3 148 (by decide), h3 149 (by decide), yw_eq, yw_nF (by decide), yw_eq]
  exact ⟨rfl, rfl, rfl, rfl, mOf_z (by decide)⟩
theorem hm_ra : RA (mOf yFi yR) 5 hmN [[]] [] [] := ⟨by decide, by decide, by decide, by decide⟩
theorem MT0.ra (h : MT0 m m5) : RA m 1 hmN [[]] [] [] ∧ RA m 26 hmN [[]] [] [] := by
  obtain ⟨m1, m2, h1, h2, h3⟩ := h.1
  have e : ∀ f, f = 6 ∨ f = 7 ∨ f = 8 → m f = m2 f := fun f hf => by
    rw [h.ff (by simp only [List.mem_cons, List.not_mem_nil, or_false, not_or]; omega), h3 f (by simp only [List.mem_cons, List.not_mem_nil, or_false, not_or]; omega), yw_nF (by omega), yw_nF (by omega)]
  have a1 := h1.made hm_ra hm_wf
  have a5 := h1.kept (r := 5) (by decide) hm_ra hm_wf
  have b26 := h2.made a5 hm_wf
  have b1 := h2.kept (r := 1) (by decide) a1 hm_wf
  unfold RA at *
  rw [e 6 (by omega), e 7 (by omega), e 8 (by omega)]
  exact ⟨b1, b26⟩
/-- the net -/
theorem st_net (h : ST0 g f1 f2 f5 f6 n5 z n) (hm : MT0 m m5) : JNt (fun j => j) As0 Bs0 7000000 4000000 n m := by
  have zz : ∀ f, f ∈ [16, 25, 26, 27, 30, 35, 37] → m f 0 = 0 := fun f hf => by
    simp only [List.mem_cons, List.not_mem_nil, or_false] at hf
    exact hm.ze (by simp only [List.mem_cons, List.not_mem_nil, or_false, not_or]; omega)
  have z16 := zz 16 (by decide)
  have z25 := zz 25 (by decide)
  have z26 := zz 26 (by decide)
  have z27 := zz 27 (by decide)
  have z30 := zz 30 (by decide)
  have z35 := zz 35 (by decide)
  have z37 := zz 37 (by decide)
  have v6 : ∀ s : Int, 0 ≤ s → n 6 0 s = Vn 6 0 s.toNat := fun s hs => h.k6 hs
  have q2 : n 6 0 2 = 0 := v6 2 (by decide)
  have q4 : n 6 0 4 = 0 := v6 4 (by decide)
  have q6 : n 6 0 6 = 0 := v6 6 (by decide)
  have q9 : n 6 0 9 = 0 := v6 9 (by decide)
  have q12 : n 6 0 12 = 0 := v6 12 (by decide)
  have q18 : n 6 0 18 = 1 := v6 18 (by decide)
  have q19 : n 6 0 19 = 0 := v6 19 (by decide)
  have r70 : ∀ s : Int, 0 ≤ s → n 99 1570 s = V99 1570 s.toNat := fun s hs => h.r (q := 1570) (by decide) (by decide) (by decide) hs
  have t70 := h.ty (q := 1570) (by decide)
  have t73 := h.ty (q := 1573) (by decide)
  have p1 : n 99 1570 1 = -1 := r70 1 (by decide)
  have p2 : n 99 1570 2 = 0 := r70 2 (by decide)
  have p4 : n 99 1570 4 = -1 := r70 4 (by decide)
  have p5 : n 99 1570 5 = 0 := r70 5 (by decide)
  have p6 : n 99 1570 6 = 1573 := r70 6 (by decide)
  have v27 : ∀ i, 0 ≤ i → i < 20 → n 27 0 i = 1591 + 2 * i := fun i h0 h1 => by
    rw [h.va (q := 1588) (K := 27) (i := 0) (by decide) (by decide) (by decide) (by decide) h0]
    show (if i.toNat < 20 then 1591 + 2 * ((i.toNat : Nat) : Int) else -1) = _
    rw [if_pos (by omega)]; omega
  have as' : ∀ q, q ∈ asl → As0 ((q : Nat) : Int) := fun q hq => ⟨q, hq, rfl⟩
  have ca : ∀ (f t : Nat → Int) (a : Nat), a ∈ asl → AdC f t ((a + 1 : Nat) : Int) → (∀ k : Nat, n 99 a k = f k) → (∀ k : Nat, n 99 ((a + 1 : Nat) : Int) k = t k) → CA n a hmN [[]] [] [] := fun f t a ha hA h1 h2 => by
    obtain ⟨_, s, t', hC, hst⟩ := hA
    unfold CA
    rw [h.a0 ha]
    exact hC.nat (fun k => (h1 k).trans (hst k).1) (fun k => (h2 k).trans (hst k).2)
  have mem : ∀ (q : Nat) (f : Nat → Int), lc q = (99, (q : Int)) → (q, f) ∈ ((1582, f1) :: (1583, f2) :: (1589, hmB) :: (1590, hmT) :: (1591, f5) :: (1592, f6) :: []) → ∀ k : Nat, n 99 q k = f k := fun q f hl hx k => by
    rw [h.kk (by decide)]
    have := h.1.1.n99 hl hx rfl (s := (k : Int)) (by omega)
    rw [Int.toNat_natCast] at this; exact this
  have c82 : CA n 1582 hmN [[]] [] [] := ca f1 f2 1582 (by decide) h.1.2.1 (mem 1582 f1 (by decide) (by simp only [List.mem_cons]; exact .inl trivial)) (mem 1583 f2 (by decide) (by simp only [List.mem_cons]; exact .inr (.inl trivial)))
  have c91 : CA n 1591 hmN [[]] [] [] := ca f5 f6 1591 (by decide) h.1.2.2 (mem 1591 f5 (by decide) (by simp only [List.mem_cons]; exact .inr (.inr (.inr (.inr (.inl trivial)))))) (mem 1592 f6 (by decide) (by simp only [List.mem_cons]; exact .inr (.inr (.inr (.inr (.inr (.inl trivial)))))))
  obtain ⟨o1, o2, o3, o4, o5⟩ := hm.ot
  refine ⟨⟨h.bi, ⟨h.ads, fun x hx => h.rw' hx, ⟨as' 1578 (by decide), as' 1582 (by decide), as' 1584 (by decide), as' 1586 (by decide)⟩, ⟨by omega, fun i x y => by omega⟩, ⟨by omega, fun j x y => by omega, fun j j' x y w => by omega, fun k x y => by omega⟩, ⟨⟨by rw [h.n90.1]; decide, t70.1.trans (by decide)⟩, p1, p2, p4, p5, p6, ?_⟩, ⟨⟨by omega, by omega, fun c x y => by omega⟩, by omega⟩, ⟨by omega, by omega, by omega⟩, by omega, by omega⟩, .inl ⟨z35, ?_⟩, ?_⟩, ⟨⟨by omega, by omega, by omega, by omega, by omega⟩, fun i x y => ?_, fun i j x y w w' he => ?_, fun i x y => ?_⟩, hmN, [[]], [], [], hm_wf, c82, hm.ra.1⟩
  · rw [p6]; exact t73.2.trans (by decide)
  · exact h.r (q := 1578) (by decide) (by decide) (by decide) (s := 5) (by decide)
  · refine ⟨?_, by omega, by omega, fun c hc => ?_⟩
    · rw [h.bt0 (by decide)]
      unfold ys
      rw [z37]; rfl
    · unfold ys at hc
      rw [z37] at hc; cases hc
  · rw [v27 i x y]
    refine ⟨?_, by omega, by omega⟩
    refine ⟨1591 + 2 * i.toNat, ?_, by omega⟩
    unfold asl
    refine List.mem_append_right _ (List.mem_map.mpr ⟨i.toNat, List.mem_range.mpr (by omega), rfl⟩)
  · rw [v27 i x y, v27 j w w'] at he; omega
  · have hi : i = 0 := by omega
    rw [hi, v27 0 (by decide) (by decide)]
    exact ⟨hmN, [[]], [], [], hm_wf, c91, hm.ra.2⟩
end YZQ
