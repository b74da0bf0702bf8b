/-! THE WIDTH OF WORDS, in both -/
/-- the width of some bytes -/
def wdS (g : Int → Int) (i : Int) : Nat → Int
  | 0 => 0
  | k + 1 => wdS g i k + gly (g (i + (k : Int)))
section V4
variable {n : NS} {m : YS} {g : Int → Int} {c b v s i L : Int}
theorem wdS_b : ∀ k : Nat, 0 ≤ wdS g i k ∧ wdS g i k ≤ 5 * k := by
  intro k
  induction k with
  | zero => exact ⟨Int.le_refl _, Int.le_refl _⟩
  | succ k ih =>
    have := gly_b (b := g (i + (k : Int)))
    show 0 ≤ wdS g i k + _ ∧ wdS g i k + _ ≤ _
    omega
/-- the class: up to the next blank -/
theorem c_wordW {x1 x3 : Int} (hs : n 4 b 2 = L) (ht : tx n (n 4 b 1) g L) (h0 : 0 ≤ n 4 b 1) (hi : 0 ≤ i ∧ i ≤ L ∧ L ≤ 400) : NL_Layout_listWords_27 x1 b x3 i i 0 n = some (sc (fun j => ¬ isBl (g j)) i L, wdS g i (sc (fun j => ¬ isBl (g j)) i L - i).toNat) := by
  apply eq_of_ev
  have k1 := scx_ge (p := fun j => ¬ isBl (g j)) i L
  have k2 := scx_le (p := fun j => ¬ isBl (g j)) (i := i) (to := L) hi.2.1
  unfold NL_Layout_listWords_27
  refine ev_it (fun t : Int × Int => (i ≤ t.1 ∧ t.1 ≤ sc (fun j => ¬ isBl (g j)) i L) ∧ t.2 = wdS g i (t.1 - i).toNat) (fun t => L - t.1) (fun t ht' => ?_) ⟨⟨Int.le_refl _, k1⟩, by show (0 : Int) = wdS g i (i - i).toNat; rw [show (i - i).toNat = 0 by omega]; rfl⟩
  obtain ⟨j, w⟩ := t
  obtain ⟨g1, g2⟩ := ht'
  simp only at g1 g2
  show ev (nb_Layout_listWords_27 x1 b x3 i j w n) _
  unfold nb_Layout_listWords_27
  rw [hs]
  have wb := wdS_b (g := g) (i := i) (j - i).toNat
  rw [← g2] at wb
  refine ev_if (fun hlt => ev_nn h0 (ev_tx ht ⟨by omega, hlt⟩ (fun e => ?_))) (fun hge => ev_inr (by show (j, w) = _; rw [g2, show j = sc (fun j => ¬ isBl (g j)) i L by omega]))
  rw [e]
  refine ev_bz cs_blank (fun hp => ?_) (fun hp => ?_)
  · rw [if_neg (by decide)]
    have e2 : j = sc (fun j => ¬ isBl (g j)) i L := by
      by_cases z : j < sc (fun j => ¬ isBl (g j)) i L
      · exact absurd hp (scx_in (p := fun j => ¬ isBl (g j)) g1.1 z)
      · omega
    exact ev_inr (by show (j, w) = _; rw [g2, ← e2])
  · rw [if_pos rfl]
    have hlt2 : j < sc (fun j => ¬ isBl (g j)) i L := by
      by_cases z : j < sc (fun j => ¬ isBl (g j)) i L
      · exact z
      · have e2 : sc (fun j => ¬ isBl (g j)) i L = j := by omega
        have := scx_at (p := fun j => ¬ isBl (g j)) (i := i) (to := L) (by omega)
        rw [e2] at this
        exact absurd hp this
    refine ev_nn h0 (ev_tx ht ⟨by omega, hlt⟩ (fun e' => ?_))
    rw [cs_glyph]
    simp only [Option.bind_some]
    have gb := gly_b (b := g j)
    refine ev_ck (by omega) (ev_ck (by omega) (ev_inl ⟨⟨by show i ≤ j + 1 ∧ j + 1 ≤ _; omega, ?_⟩, by show L - (j + 1) < L - j; omega, by show 0 ≤ L - j; omega⟩))
    show w + gly (g j) = wdS g i (j + 1 - i).toNat
    rw [show (j + 1 - i).toNat = (j - i).toNat + 1 by omega]
    show _ = wdS g i (j - i).toNat + gly (g (i + ((j - i).toNat : Int)))
    rw [← g2, show i + (((j - i).toNat : Nat) : Int) = j by omega]
end V4
