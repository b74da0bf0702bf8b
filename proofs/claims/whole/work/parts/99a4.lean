/-! THE CLASS'S ROWS OF BYTES -/
def lim (b : Int) : Int := if b < 605 then (if b % 5 = 0 then 400 else 60) else if b = 605 then 2000 else if b = 606 then 8000 else if b = 607 then 2000 else if b = 608 then 48000 else if b = 609 then 2000 else if b = 610 then 40 else if b = 631 then 8 else 60
theorem lim_b (b : Int) : 8 ≤ lim b ∧ lim b ≤ 48000 := by unfold lim; (repeat' split) <;> omega
def sumF (f : Int → Int) : Nat → Int
  | 0 => 0
  | k + 1 => sumF f k + f k
theorem sumF_up {f f' : Int → Int} {b : Int} (h : ∀ j, j ≠ b → f' j = f j) : ∀ k : Nat, sumF f' k = sumF f k + (if 0 ≤ b ∧ b < k then f' b - f b else 0) := by
  intro k
  induction k with
  | zero => rw [if_neg (by omega)]; rfl
  | succ k ih =>
    show sumF f' k + f' k = sumF f k + f k + _
    by_cases e : (k : Int) = b
    · rw [ih, if_neg (by omega), if_pos (by omega), e]; omega
    · rw [ih, h k e]
      by_cases hb : 0 ≤ b ∧ b < k
      · rw [if_pos hb, if_pos (by omega)]; omega
      · rw [if_neg hb, if_neg (by omega)]; omega
theorem sumF_le {f h : Int → Int} : ∀ k : Nat, (∀ j : Int, 0 ≤ j → j < k → f j ≤ h j) → sumF f k ≤ sumF h k := by
  intro k
  induction k with
  | zero => intro _; exact Int.le_refl _
  | succ k ih =>
    intro hx
    show sumF f k + f k ≤ sumF h k + h k
    have h1 := ih (fun j h0 h1 => hx j h0 (by omega))
    have h2 := hx k (by omega) (by omega)
    omega
theorem sumF_cg {f h : Int → Int} : ∀ k : Nat, (∀ j : Int, 0 ≤ j → j < k → f j = h j) → sumF f k = sumF h k := by
  intro k
  induction k with
  | zero => intro _; rfl
  | succ k ih =>
    intro hx
    show sumF f k + f k = sumF h k + h k
    rw [ih (fun j h0 h1 => hx j h0 (by omega)), hx k (by omega) (by omega)]
/-- the room of a row -/
def cap (n : NS) (b : Int) : Int := n 93 0 (n 4 b 1)
def capS (n : NS) : Int := sumF (cap n) 632
def capT (n : NS) : Int := capS n + n 93 0 (n 5 0 5) + n 93 0 (n 5 0 9)
def bt (n : NS) (b : Int) : List Int := sg (n 99 (n 4 b 1)) 0 (n 4 b 2).toNat
/-- one row is well -/
def B1 (n : NS) (b : Int) : Prop := n 4 b 0 = lim b ∧ (0 ≤ n 4 b 1 ∧ n 4 b 1 < n 90 0 0) ∧ n 92 0 (n 4 b 1) = 1 ∧ (0 ≤ n 4 b 2 ∧ n 4 b 2 ≤ lim b ∧ n 4 b 2 ≤ n 93 0 (n 4 b 1)) ∧ (16 ≤ n 93 0 (n 4 b 1) ∧ n 93 0 (n 4 b 1) ≤ 2 * lim b + 16)
def BI (A B : Int) (n : NS) : Prop := (∀ b, 0 ≤ b → b ≤ 631 → B1 n b) ∧ (∀ b b', 0 ≤ b → b ≤ 631 → 0 ≤ b' → b' ≤ 631 → n 4 b 1 = n 4 b' 1 → b = b')
  ∧ (1953 ≤ n 90 0 0 ∧ 16 * n 90 0 0 ≤ capT n + A ∧ n 91 0 0 ≤ 2 * capT n + B)
  ∧ (0 ≤ n 5 0 5 ∧ n 5 0 5 < n 90 0 0 ∧ 0 ≤ n 5 0 9 ∧ n 5 0 9 < n 90 0 0) ∧ (0 ≤ n 93 0 (n 5 0 5) ∧ n 93 0 (n 5 0 5) ≤ 400000 ∧ 0 ≤ n 93 0 (n 5 0 9) ∧ n 93 0 (n 5 0 9) ≤ 100000) ∧ A ≤ 8000000
theorem cap_sum : sumF (fun b => 2 * lim b + 16) 632 = 291488 := by decide +kernel
theorem BI.cells {A B : Int} {n : NS} (h : BI A B n) : n 90 0 0 < 600000 := by
  have h1 : capS n ≤ 291488 := by
    rw [← cap_sum]
    exact sumF_le 632 (fun j h0 h1 => (h.1 j h0 (by omega)).2.2.2.2.2)
  have h2 := h.2.2.1.2.1
  have h3 := h.2.2.2.2.1
  have h4 := h.2.2.2.2.2
  unfold capT at h2
  omega
/-- nothing but some rows of bytes has changed, and new cells -/
def FB (S : Int → Prop) (n n' : NS) : Prop :=
  (∀ K, K ≠ 4 → K ≠ 90 → K ≠ 91 → K ≠ 92 → K ≠ 93 → K ≠ 99 → n' K = n K)
  ∧ (∀ b, ¬ S b → n' 4 b = n 4 b)
  ∧ n 90 0 0 ≤ n' 90 0 0
  ∧ (∀ q, q < n 90 0 0 → n' 92 0 q = n 92 0 q ∧ n' 93 0 q = n 93 0 q)
  ∧ (∀ q, q < n 90 0 0 → (∀ b, S b → q ≠ n 4 b 1) → n' 99 q = n 99 q)
  ∧ (∀ b, S b → n' 4 b 1 = n 4 b 1 ∨ n 90 0 0 ≤ n' 4 b 1)
theorem FB.refl (S : Int → Prop) (n : NS) : FB S n n := ⟨fun _ _ _ _ _ _ _ => rfl, fun _ _ => rfl, Int.le_refl _, fun _ _ => ⟨rfl, rfl⟩, fun _ _ _ => rfl, fun _ _ => .inl rfl⟩
theorem FB.trans {S : Int → Prop} {n n' n'' : NS} (h : FB S n n') (h' : FB S n' n'') : FB S n n'' := by
  obtain ⟨a1, a2, a3, a4, a5, a6⟩ := h
  obtain ⟨b1, b2, b3, b4, b5, b6⟩ := h'
  refine ⟨fun K c1 c2 c3 c4 c5 c6 => (b1 K c1 c2 c3 c4 c5 c6).trans (a1 K c1 c2 c3 c4 c5 c6), fun b hb => (b2 b hb).trans (a2 b hb), Int.le_trans a3 b3, fun q hq => ?_, fun q hq hS => ?_, fun b hb => ?_⟩
  · have h1 := a4 q hq
    have h2 := b4 q (by omega)
    exact ⟨h2.1.trans h1.1, h2.2.trans h1.2⟩
  · rw [b5 q (by omega) (fun b hb => by have := a6 b hb; have := hS b hb; omega), a5 q hq hS]
  · have := a6 b hb
    have := b6 b hb
    omega
theorem FB.mono {S S' : Int → Prop} {n n' : NS} (h : FB S n n') (hs : ∀ b, S b → S' b) (hp : ∀ b, S' b → n' 4 b 1 = n 4 b 1 ∨ n 90 0 0 ≤ n' 4 b 1) : FB S' n n' :=
  ⟨h.1, fun b hb => h.2.1 b (fun z => hb (hs b z)), h.2.2.1, h.2.2.2.1, fun q hq hS => h.2.2.2.2.1 q hq (fun b hb => hS b (hs b hb)), hp⟩
/-- a row that is not among them is as it was -/
theorem FB.bts {S : Int → Prop} {n n' : NS} {A B b : Int} (h : FB S n n') (hB : BI A B n) (hb : 0 ≤ b ∧ b ≤ 631) (hS : ¬ S b) (hv : ∀ x, S x → 0 ≤ x ∧ x ≤ 631) : n' 4 b = n 4 b ∧ n' 99 (n 4 b 1) = n 99 (n 4 b 1) ∧ bt n' b = bt n b := by
  have e1 := h.2.1 b hS
  have e2 : n' 99 (n 4 b 1) = n 99 (n 4 b 1) := h.2.2.2.2.1 _ (hB.1 b hb.1 hb.2).2.1.2 (fun x hx z => hS (by
    have := hv x hx
    rw [hB.2.1 b x hb.1 hb.2 this.1 this.2 z]; exact hx))
  refine ⟨e1, e2, ?_⟩
  unfold bt
  rw [e1, e2]
section A4
variable {n : NS} {A B b a i to c l : Int} {g : Int → Int}
theorem al2_ok {α : Type} {Q : α → Prop} {x : Option α} (hB : BI A B n) (hl : 0 ≤ l ∧ l ≤ 67108864) (k : ev x Q) : ev (al2 n l x) Q := ev_g ⟨⟨hB.2.2.1.1, by have := hB.cells; omega⟩, hl⟩ k
theorem nnew_K {t : Nat} {z : Int} {K : Nat} (h : K ≠ 90 ∧ K ≠ 91 ∧ K ≠ 92 ∧ K ≠ 93 ∧ K ≠ 99) : nnew n t l z K = n K := by
  unfold nnew
  rw [nw_nK h.1, nw_nK h.2.1, nw_nK h.2.2.1, nw_nK h.2.2.2.1, nwA_nK h.2.2.2.2]
theorem nnew_90 {t : Nat} {z : Int} : nnew n t l z 90 0 0 = n 90 0 0 + 1 := by unfold nnew; rw [nw_eq]
theorem nnew_91 {t : Nat} {z : Int} : nnew n t l z 91 0 0 = n 91 0 0 + z := by unfold nnew; rw [nw_nK (by decide), nw_eq]
theorem nnew_92 {t : Nat} {z q : Int} : nnew n t l z 92 0 q = if q = n 90 0 0 then (t : Int) else n 92 0 q := by
  unfold nnew
  rw [nw_nK (by decide), nw_nK (by decide)]
  by_cases h : q = n 90 0 0
  · rw [if_pos h, h, nw_eq]
  · rw [if_neg h, nw_ns h, nw_nK (by decide), nwA_nK (by decide)]
theorem nnew_93 {t : Nat} {z q : Int} : nnew n t l z 93 0 q = if q = n 90 0 0 then l else n 93 0 q := by
  unfold nnew
  rw [nw_nK (by decide), nw_nK (by decide), nw_nK (by decide)]
  by_cases h : q = n 90 0 0
  · rw [if_pos h, h, nw_eq]
  · rw [if_neg h, nw_ns h, nwA_nK (by decide)]
theorem nnew_99 {t : Nat} {z q : Int} (h : q ≠ n 90 0 0) : nnew n t l z 99 q = n 99 q := by
  unfold nnew
  rw [nw_nK (by decide), nw_nK (by decide), nw_nK (by decide), nw_nK (by decide), nwA_ni h]
/-- a copy of a row of bytes, or of ints, in a new cell -/
theorem cs_copyOf (hB : BI A B n) (ha : n 92 0 a = 1 ∧ a < n 90 0 0) (hl : 0 ≤ n 93 0 a ∧ n 93 0 a < l ∧ l ≤ 1000000) : ev (N_Arrays_copyOf a l n) (fun r => r.1 = n 90 0 0 ∧ r.2 90 0 0 = n 90 0 0 + 1 ∧ r.2 91 0 0 = n 91 0 0 + l ∧ r.2 92 0 r.1 = 1 ∧ r.2 93 0 r.1 = l ∧ (∀ j, 0 ≤ j → j < n 93 0 a → r.2 99 r.1 j = n 99 a j) ∧ (∀ q, q < n 90 0 0 → r.2 92 0 q = n 92 0 q ∧ r.2 93 0 q = n 93 0 q ∧ r.2 99 q = n 99 q) ∧ (∀ K, K ≠ 90 → K ≠ 91 → K ≠ 92 → K ≠ 93 → K ≠ 99 → r.2 K = n K)) := by
  unfold N_Arrays_copyOf
  refine ev_ty ha.1 (ev_ck (by omega) (ev_if (fun h => by omega) (fun _ => al2_ok hB (by omega) (ev_st ?_))))
  have e92 : nnew n 1 l l 92 0 a = 1 := by rw [nnew_92, if_neg (by omega)]; exact ha.1
  have e93 : nnew n 1 l l 93 0 a = n 93 0 a := by rw [nnew_93, if_neg (by omega)]
  have e92' : nnew n 1 l l 92 0 (n 90 0 0) = 1 := by rw [nnew_92, if_pos rfl]; rfl
  have e93' : nnew n 1 l l 93 0 (n 90 0 0) = l := by rw [nnew_93, if_pos rfl]
  refine ev_ty e92 (ev_ck (by rw [e93]; omega) ?_)
  rw [e93]
  refine ev_g ⟨e92, e92', ⟨by omega, by omega, by omega⟩, by rw [e93]; omega, by rw [e93']; omega⟩ (ev_st ?_)
  generalize hF : cpf (nnew n 1 l l 99 a) (nnew n 1 l l 99 (n 90 0 0)) 0 0 (min (n 93 0 a) l) = F
  have eK : ∀ K, K ≠ 99 → nwA (nnew n 1 l l) 99 (n 90 0 0) F K = nnew n 1 l l K := fun K h => nwA_nK h
  refine ev_ok ?_
  refine ⟨rfl, ?_, ?_, ?_, ?_, fun j h0 h1 => ?_, fun q hq => ⟨?_, ?_, ?_⟩, fun K h1 h2 h3 h4 h5 => ?_⟩
  · show nwA (nnew n 1 l l) 99 (n 90 0 0) F 90 0 0 = _; rw [eK 90 (by decide), nnew_90]
  · show nwA (nnew n 1 l l) 99 (n 90 0 0) F 91 0 0 = _; rw [eK 91 (by decide), nnew_91]
  · show nwA (nnew n 1 l l) 99 (n 90 0 0) F 92 0 (n 90 0 0) = _; rw [eK 92 (by decide)]; exact e92'
  · show nwA (nnew n 1 l l) 99 (n 90 0 0) F 93 0 (n 90 0 0) = _; rw [eK 93 (by decide)]; exact e93'
  · show nwA (nnew n 1 l l) 99 (n 90 0 0) F 99 (n 90 0 0) j = _
    rw [nwA_eq, ← hF]
    unfold cpf
    rw [if_pos (by omega), show 0 + (j - 0) = j by omega, nnew_99 (by omega)]
  · show nwA (nnew n 1 l l) 99 (n 90 0 0) F 92 0 q = _; rw [eK 92 (by decide), nnew_92, if_neg (by omega)]
  · show nwA (nnew n 1 l l) 99 (n 90 0 0) F 93 0 q = _; rw [eK 93 (by decide), nnew_93, if_neg (by omega)]
  · show nwA (nnew n 1 l l) 99 (n 90 0 0) F 99 q = _; rw [nwA_ni (by omega), nnew_99 (by omega)]
  · show nwA (nnew n 1 l l) 99 (n 90 0 0) F K = _; rw [eK K h5, nnew_K ⟨h1, h2, h3, h4, h5⟩]
/-- a row gets a new and greater cell -/
theorem grow_ok (hb : 0 ≤ b ∧ b ≤ 631) (hB : BI A B n) {r : Int × NS} (hl : 2 * cap n b ≤ l ∧ l ≤ 2 * lim b + 16) (h : r.1 = n 90 0 0 ∧ r.2 90 0 0 = n 90 0 0 + 1 ∧ r.2 91 0 0 = n 91 0 0 + l ∧ r.2 92 0 r.1 = 1 ∧ r.2 93 0 r.1 = l ∧ (∀ j, 0 ≤ j → j < n 93 0 (n 4 b 1) → r.2 99 r.1 j = n 99 (n 4 b 1) j) ∧ (∀ q, q < n 90 0 0 → r.2 92 0 q = n 92 0 q ∧ r.2 93 0 q = n 93 0 q ∧ r.2 99 q = n 99 q) ∧ (∀ K, K ≠ 90 → K ≠ 91 → K ≠ 92 → K ≠ 93 → K ≠ 99 → r.2 K = n K)) : BI A B (nw r.2 4 b 1 r.1) ∧ FB (fun x => x = b) n (nw r.2 4 b 1 r.1) ∧ bt (nw r.2 4 b 1 r.1) b = bt n b ∧ cap (nw r.2 4 b 1 r.1) b = l ∧ nw r.2 4 b 1 r.1 4 b 2 = n 4 b 2 := by
  obtain ⟨r1, n1⟩ := r
  obtain ⟨h1, h2, h3, h4, h5, h6, h7, h8⟩ := h
  simp only at h1 h2 h3 h4 h5 h6 h7 h8
  subst h1
  have hb1 := hB.1 b hb.1 hb.2
  have p4 : ∀ x s, nw n1 4 b 1 (n 90 0 0) 4 x s = if x = b ∧ s = 1 then n 90 0 0 else n 4 x s := fun x s => by
    by_cases e : x = b ∧ s = 1
    · obtain ⟨rfl, rfl⟩ := e; rw [nw_eq, if_pos ⟨rfl, rfl⟩]
    · rw [if_neg e]
      by_cases e1 : x = b
      · rw [nw_ns (fun z => e ⟨e1, z⟩), h8 4 (by decide) (by decide) (by decide) (by decide) (by decide)]
      · rw [nw_ni e1, h8 4 (by decide) (by decide) (by decide) (by decide) (by decide)]
  have pK : ∀ K, K ≠ 4 → nw n1 4 b 1 (n 90 0 0) K = n1 K := fun K hK => nw_nK hK
  have hcap : ∀ x, 0 ≤ x → x ≤ 631 → cap (nw n1 4 b 1 (n 90 0 0)) x = if x = b then l else cap n x := fun x h0 h1 => by
    unfold cap
    rw [pK 93 (by decide), p4]
    by_cases e : x = b
    · rw [if_pos ⟨e, rfl⟩, if_pos e]; exact h5
    · rw [if_neg (fun z => e z.1), if_neg e, (h7 _ (hB.1 x h0 h1).2.1.2).2.1]
  have hsum : capS (nw n1 4 b 1 (n 90 0 0)) = capS n + (l - cap n b) := by
    unfold capS
    have e := sumF_up (f := cap n) (f' := fun x => if x = b then l else cap n x) (b := b) (fun j hj => if_neg hj) 632
    rw [if_pos (by omega), if_pos rfl] at e
    rw [← e]
    exact sumF_cg 632 (fun j h0 h1 => hcap j h0 (by omega))
  have n5 : nw n1 4 b 1 (n 90 0 0) 5 = n 5 := by rw [pK 5 (by decide), h8 5 (by decide) (by decide) (by decide) (by decide) (by decide)]
  obtain ⟨c1, c2, c3, c4⟩ := hB.2.2.2.1
  have hT : capT (nw n1 4 b 1 (n 90 0 0)) = capT n + (l - cap n b) := by
    unfold capT
    rw [hsum, n5, pK 93 (by decide), (h7 _ c2).2.1, (h7 _ c4).2.1]; omega
  have hc16 := hb1.2.2.2.2.1
  refine ⟨⟨fun x h0 h1 => ?_, fun x x' h0 h1 h0' h1' he => ?_, ⟨?_, ?_, ?_⟩, ?_, ?_, hB.2.2.2.2.2⟩, ⟨fun K k1 k2 k3 k4 k5 k6 => ?_, fun x hx => ?_, ?_, fun q hq => ?_, fun q hq hS => ?_, fun x hx => ?_⟩, ?_, ?_, ?_⟩
  · have hx := hB.1 x h0 h1
    unfold B1
    rw [p4 x 0, p4 x 1, p4 x 2, pK 90 (by decide), pK 92 (by decide), pK 93 (by decide), if_neg (show ¬ (x = b ∧ (0 : Int) = 1) from fun z => absurd z.2 (by decide)), if_neg (show ¬ (x = b ∧ (2 : Int) = 1) from fun z => absurd z.2 (by decide)), h2]
    by_cases e : x = b
    · subst e
      rw [if_pos ⟨rfl, rfl⟩, h4, h5]
      unfold cap at hl
      have := hx.2.2.2.1
      exact ⟨hx.1, by omega, rfl, by omega, by omega⟩
    · rw [if_neg (fun z => e z.1), (h7 _ hx.2.1.2).1, (h7 _ hx.2.1.2).2.1]
      exact ⟨hx.1, by have := hx.2.1; omega, hx.2.2.1, hx.2.2.2.1, hx.2.2.2.2⟩
  · rw [p4, p4] at he
    have q1 := (hB.1 x h0 h1).2.1
    have q2 := (hB.1 x' h0' h1').2.1
    by_cases e : x = b
    · by_cases e' : x' = b
      · omega
      · rw [if_pos ⟨e, rfl⟩, if_neg (fun z => e' z.1)] at he; omega
    · by_cases e' : x' = b
      · rw [if_neg (fun z => e z.1), if_pos ⟨e', rfl⟩] at he; omega
      · rw [if_neg (fun z => e z.1), if_neg (fun z => e' z.1)] at he
        exact hB.2.1 x x' h0 h1 h0' h1' he
  · rw [pK 90 (by decide), h2]; have := hB.2.2.1.1; omega
  · rw [pK 90 (by decide), h2, hT]
    have := hB.2.2.1.2.1
    unfold cap at *
    omega
  · rw [pK 91 (by decide), h3, hT]
    have := hB.2.2.1.2.2
    unfold cap at *
    omega
  · rw [n5, pK 90 (by decide), h2]; omega
  · rw [n5, pK 93 (by decide), (h7 _ c2).2.1, (h7 _ c4).2.1]; exact hB.2.2.2.2.1
  · rw [pK K k1, h8 K k2 k3 k4 k5 k6]
  · funext s; rw [p4, if_neg (fun z => hx z.1)]
  · rw [pK 90 (by decide), h2]; omega
  · rw [pK 92 (by decide), pK 93 (by decide)]; exact ⟨(h7 q hq).1, (h7 q hq).2.1⟩
  · rw [pK 99 (by decide)]; exact (h7 q hq).2.2
  · subst hx; right; rw [p4, if_pos ⟨rfl, rfl⟩]; omega
  · unfold bt
    rw [p4, p4, if_pos ⟨rfl, rfl⟩, if_neg (fun z => by have := z.2; omega), pK 99 (by decide)]
    have := hb1.2.2.2.1
    exact sg_cg _ _ _ (fun x hx => h6 _ (by omega) (by omega))
  · have := hcap b hb.1 hb.2
    rw [if_pos rfl] at this; exact this
  · rw [p4, if_neg (fun z => by have := z.2; omega)]
end A4
