/-! THE START: what both hold when they are made -/
def ST0 (g : g_S) (f1 f2 f5 f6 : Nat → Int) (n5 : NS) (z : Int) (n : NS) : Prop :=
  (BD Vt g 1838 ((1582, f1) :: (1583, f2) :: (1589, hmB) :: (1590, hmT) :: (1591, f5) :: (1592, f6) :: []) ∧ AdC f1 f2 1583 ∧ AdC f5 f6 1592)
  ∧ ((∀ K, K ≠ 7 → K ≠ 10 → n5 K = nOf g K) ∧ (∀ u s, s ≠ 0 → n5 7 u s = nOf g 7 u s) ∧ (∀ v, 0 ≤ v → v < 120 → n5 7 v 0 = -1) ∧ (∀ s, s ≠ 5 → n5 10 0 s = nOf g 10 0 s) ∧ n5 10 0 5 = 0)
  ∧ n = nY (newC n5 0 (-1) 0 (nOf g 21 0 0)) z ∧ z ≤ 4000000
def MT0 (m : YS) (m5 : YS) : Prop := (∃ m1 m2, RC1 (mOf yFi yR) m1 1 5 ∧ RC1 m1 m2 26 5 ∧ FY [45, 68] (yw (yw m2 148 0 1) 149 0 0) m5) ∧ (∀ v, 0 ≤ v → v < 120 → m5 45 v = 0) ∧ m5 68 0 = 0 ∧ m = rootY m5
section YZP
variable {g : g_S} {f1 f2 f5 f6 : Nat → Int} {n n5 : NS} {m m5 : YS} {z : Int} {K q k : Nat} {i s b v : Int}
theorem exq {x : Nat × (Nat → Int)} (hx : x ∈ ((1582, f1) :: (1583, f2) :: (1589, hmB) :: (1590, hmT) :: (1591, f5) :: (1592, f6) :: [])) : x.1 ∈ EXC := by
  simp only [List.mem_cons, List.not_mem_nil, or_false] at hx
  unfold EXC
  rcases hx with y | y | y | y | y | y <;> (rw [y]; dsimp only; decide)
theorem ST0.nv (h : ST0 g f1 f2 f5 f6 n5 z n) (hl : lc q = (K, i)) (hK : K ≠ 99) (hq : q < 1838) (hE : q ∉ EXC) (hs : 0 ≤ s) : nOf g K i s = Vn K i s.toNat := by
  have e := nOf_lc (g := g) (q := q) (k := s.toNat)
  rw [hl, show ((s.toNat : Nat) : Int) = s by omega] at e
  rw [show nOf g K i s = vl g q s.toNat from e, h.1.1.2.1 q hq (fun x hx w => hE (by rw [← w]; exact exq hx)), Vt_of hl hK]
theorem ST0.kk (h : ST0 g f1 f2 f5 f6 n5 z n) (hK : K ≠ 4 ∧ K ≠ 7 ∧ K ≠ 10 ∧ K ≠ 90 ∧ K ≠ 91 ∧ K ≠ 92) : n K = nOf g K := by
  rw [h.2.2.1, nY_K ⟨hK.2.2.2.1, hK.2.2.2.2.1, hK.2.2.2.2.2⟩, newC_K ⟨hK.2.1, hK.1, hK.2.2.1⟩, h.2.1.1 K hK.2.1 hK.2.2.1]
theorem ST0.va (h : ST0 g f1 f2 f5 f6 n5 z n) (hl : lc q = (K, i)) (hK : K ≠ 4 ∧ K ≠ 7 ∧ K ≠ 10 ∧ K ≠ 90 ∧ K ≠ 91 ∧ K ≠ 92 ∧ K ≠ 99) (hq : q < 1838) (hE : q ∉ EXC) (hs : 0 ≤ s) : n K i s = Vn K i s.toNat := by
  rw [h.kk ⟨hK.1, hK.2.1, hK.2.2.1, hK.2.2.2.1, hK.2.2.2.2.1, hK.2.2.2.2.2.1⟩]
  exact h.nv hl hK.2.2.2.2.2.2 hq hE hs
theorem ST0.r (h : ST0 g f1 f2 f5 f6 n5 z n) (hl : lc q = (99, (q : Int))) (hq : q < 1838) (hE : q ∉ EXC) (hs : 0 ≤ s) : n 99 q s = V99 q s.toNat := by
  rw [h.kk (by decide), h.1.1.c99 hl hq (fun x hx w => hE (by rw [← w]; exact exq hx)) hs, Vt_99 hl]
theorem ST0.ty (h : ST0 g f1 f2 f5 f6 n5 z n) (hq : q < 1838) : n 92 0 q = sty q ∧ n 93 0 q = sln q := by
  have e := h.1.1.n92 hq
  rw [h.kk (K := 93) (by decide)]
  refine ⟨?_, e.2⟩
  rw [h.2.2.1]
  show (if (92 : Nat) = 90 then (1953 : Int) else if (92 : Nat) = 91 then _ else if (92 : Nat) = 92 ∧ 1838 ≤ (q : Int) ∧ (q : Int) < 1953 then 98 else newC n5 0 (-1) 0 (nOf g 21 0 0) 92 0 q) = _
  rw [if_neg (by decide), if_neg (by decide), if_neg (fun w => by omega), newC_K (by decide), h.2.1.1 92 (by decide) (by decide)]
  exact e.1
theorem ST0.n90 (h : ST0 g f1 f2 f5 f6 n5 z n) : n 90 0 0 = 1953 ∧ n 91 0 0 = z := by
  rw [h.2.2.1]; exact ⟨rfl, rfl⟩
theorem by_all : ∀ b : Nat, b < 632 → aBy (b : Int) + 1 < 1838 ∧ sty (aBy (b : Int) + 1) = 1 ∧ sln (aBy (b : Int) + 1) = 16 ∧ lc (aBy (b : Int) + 1) = (99, ((aBy (b : Int) + 1 : Nat) : Int)) ∧ (b ≠ 631 → aBy (b : Int) ∉ EXC ∧ aBy (b : Int) + 1 ∉ EXC) := by decide +kernel
theorem by_row (hb : 0 ≤ b ∧ b ≤ 631) : aBy b + 1 < 1838 ∧ sty (aBy b + 1) = 1 ∧ sln (aBy b + 1) = 16 ∧ lc (aBy b + 1) = (99, ((aBy b + 1 : Nat) : Int)) ∧ (b ≠ 631 → aBy b ∉ EXC ∧ aBy b + 1 ∉ EXC) := by
  have := by_all b.toNat (by omega)
  rw [show ((b.toNat : Nat) : Int) = b by omega] at this
  obtain ⟨a1, a2, a3, a4, a5⟩ := this
  exact ⟨a1, a2, a3, a4, fun h => a5 (by omega)⟩
theorem ST0.by' (h : ST0 g f1 f2 f5 f6 n5 z n) (hb : 0 ≤ b ∧ b ≤ 631) : n 4 b 0 = lim b ∧ n 4 b 1 = ((aBy b + 1 : Nat) : Int) ∧ n 4 b 2 = if b = 631 then 7 else 0 := by
  have e4 : ∀ s, n 4 b s = if b = 0 ∧ s = 2 then 0 else nOf g 4 b s := fun s => by
    rw [h.2.2.1, nY_K (by decide), newC_4, h.2.1.1 4 (by decide) (by decide)]
    by_cases w : b = 0 ∧ s = 2
    · rw [if_pos ⟨by omega, w.2⟩, if_pos w]
    · rw [if_neg (fun w' => w ⟨by omega, w'.2⟩), if_neg w]
  obtain ⟨q1, q2, q3⟩ := by_st hb
  by_cases hz : b = 631
  · have c3 : ∀ s : Int, 0 ≤ s → nOf g 4 631 s = hmB s.toNat := fun s hs => by
      have e := nOf_lc (g := g) (q := 1589) (k := s.toNat)
      rw [show lc 1589 = (4, 631) by decide, show ((s.toNat : Nat) : Int) = s by omega] at e
      rw [show nOf g 4 631 s = vl g 1589 s.toNat from e]
      exact (h.1.1.2.2 (1589, hmB) (by simp only [List.mem_cons]; exact .inr (.inr (.inl trivial)))).2 _
    rw [e4, e4, e4, if_neg (by omega), if_neg (by omega), if_neg (by omega), if_pos hz, hz, c3 0 (by decide), c3 1 (by decide), c3 2 (by decide)]
    unfold hmB
    rw [Vt_1589]
    exact ⟨rfl, rfl, rfl⟩
  · have hE := ((by_row hb).2.2.2.2 hz).1
    have nv := fun (s : Int) (hs : 0 ≤ s) => h.nv q3 (by decide) q1 hE hs
    rw [e4, e4, e4, if_neg (by omega), if_neg (by omega), nv 0 (by decide), nv 1 (by decide), nv 2 (by decide), if_neg hz]
    refine ⟨rfl, rfl, ?_⟩
    by_cases w : b = 0 ∧ (2 : Int) = 2
    · rw [if_pos w]
    · rw [if_neg w]; rfl
theorem sumF_nn {f : Int → Int} : ∀ k : Nat, (∀ j : Int, 0 ≤ j → j < k → 0 ≤ f j) → 0 ≤ sumF f k
  | 0, _ => by show (0 : Int) ≤ 0; exact Int.le_refl _
  | k + 1, h => by
    have := sumF_nn k (fun j a b => h j a (by omega))
    have := h k (by omega) (by omega)
    unfold sumF
    omega
theorem ST0.bi (h : ST0 g f1 f2 f5 f6 n5 z n) : BI 7000000 4000000 n := by
  have row : ∀ b, 0 ≤ b → b ≤ 631 → n 92 0 (n 4 b 1) = 1 ∧ n 93 0 (n 4 b 1) = 16 := fun b h0 h1 => by
    obtain ⟨r1, r2, r3, r4, r5⟩ := by_row ⟨h0, h1⟩
    have := h.ty r1
    rw [(h.by' ⟨h0, h1⟩).2.1, this.1, this.2, r2, r3]; exact ⟨rfl, rfl⟩
  have e5 : n 5 0 5 = 1663 ∧ n 5 0 9 = 1667 := by
    have v := fun (s : Int) (hs : 0 ≤ s) => h.va (q := 1661) (K := 5) (i := 0) (by decide) (by decide) (by decide) (by decide) hs
    rw [v 5 (by decide), v 9 (by decide)]; exact ⟨rfl, rfl⟩
  have t63 := h.ty (q := 1663) (by decide)
  have t67 := h.ty (q := 1667) (by decide)
  have e63 : n 93 0 1663 = 384 := t63.2.trans (by decide)
  have e67 : n 93 0 1667 = 64 := t67.2.trans (by decide)
  have hc : 0 ≤ capS n := sumF_nn 632 (fun j a b => by
    unfold cap
    rw [(row j a (by omega)).2]; decide)
  refine ⟨fun b h0 h1 => ?_, fun b b' h0 h1 h2 h3 he => ?_, ?_, ?_, ?_, by decide⟩
  · obtain ⟨r1, r2, r3⟩ := h.by' ⟨h0, h1⟩
    obtain ⟨s1, s2⟩ := row b h0 h1
    obtain ⟨q1, _⟩ := by_row ⟨h0, h1⟩
    have hl : 8 ≤ lim b := by unfold lim; (repeat' split) <;> omega
    refine ⟨r1, ?_, s1, ?_, ?_⟩
    · rw [h.n90.1, r2]; omega
    · rw [r3, s2]; split <;> omega
    · rw [s2]; omega
  · rw [(h.by' ⟨h0, h1⟩).2.1, (h.by' ⟨h2, h3⟩).2.1] at he
    have e : aBy b = aBy b' := by omega
    have e1 := (by_st ⟨h0, h1⟩).2.2
    have e2 := (by_st ⟨h2, h3⟩).2.2
    rw [e, e2] at e1
    exact (Prod.mk.inj e1).2.symm
  · have hz := h.2.2.2
    rw [h.n90.1, h.n90.2]
    unfold capT
    rw [e5.1, e5.2, e63, e67]
    omega
  · rw [e5.1, e5.2, h.n90.1]; omega
  · rw [e5.1, e5.2, e63, e67]; omega
end YZP
