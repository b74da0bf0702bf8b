/-! THE WIDTH OF WORDS in the reference -/
section V5
variable {m : YS} {v s i L : Int}
/-- the reference: up to the next blank -/
theorem y_wordW (hv : 0 ≤ v ∧ v < 120) (hL : m 62 v = L ∧ L ≤ 400) (hi : 0 ≤ i ∧ i ≤ L) (hs : 0 ≤ s ∧ s ≤ 1100) : NL_Y_split_72 v s i 0 m = some (sc (fun j => ¬ isBl (m 61 (400 * v + j))) i L, wdS (fun j => m 61 (400 * v + j)) i (sc (fun j => ¬ isBl (m 61 (400 * v + j))) i L - i).toNat * s) := by
  apply eq_of_ev
  generalize hg : (fun j => m 61 (400 * v + j)) = g
  have gj : ∀ j, m 61 (400 * v + j) = g j := fun j => by rw [← hg]
  simp only [gj]
  have k1 := scx_ge (p := fun j => ¬ isBl (g j)) i L
  have k2 := scx_le (p := fun j => ¬ isBl (g j)) (i := i) (to := L) hi.2
  unfold NL_Y_split_72
  refine ev_it (fun t : Int × Int => (i ≤ t.1 ∧ t.1 ≤ sc (fun j => ¬ isBl (g j)) i L) ∧ t.2 = wdS g i (t.1 - i).toNat * s) (fun t => L - t.1) (fun t ht' => ?_) ⟨⟨Int.le_refl _, k1⟩, by show (0 : Int) = wdS g i (i - i).toNat * s; rw [show (i - i).toNat = 0 by omega]; show (0 : Int) = 0 * s; rw [Int.zero_mul]⟩
  obtain ⟨j, w⟩ := t
  obtain ⟨g1, g2⟩ := ht'
  simp only at g1 g2
  show ev (nb_Y_split_72 v s j w m) _
  unfold nb_Y_split_72
  rw [hL.1, gj]
  have wb := wdS_b (g := g) (i := i) (j - i).toNat
  have wB : 0 ≤ w ∧ w ≤ 2000 * 1100 := by
    rw [g2]
    have h1 : wdS g i (j - i).toNat ≤ 2000 := by omega
    exact ⟨Int.mul_nonneg wb.1 hs.1, Int.mul_le_mul h1 hs.2 hs.1 (by omega)⟩
  refine ev_ix hv (ev_if (fun hlt => ev_ck (by omega) (ev_ck (by omega) (ev_ix (by omega) ?_))) (fun hge => ev_inr (by show (j, w) = _; rw [g2, show j = sc (fun j => ¬ isBl (g j)) i L by omega])))
  refine ev_bz ys_blank (fun hp => ?_) (fun hp => ?_)
  · rw [if_neg (by decide)]
    have e2 : j = sc (fun j => ¬ isBl (g j)) i L := by
      by_cases z : j < sc (fun j => ¬ isBl (g j)) i L
      · exact absurd hp (scx_in (p := fun j => ¬ isBl (g j)) g1.1 z)
      · omega
    exact ev_inr (by show (j, w) = _; rw [g2, ← e2])
  · rw [if_pos rfl]
    have hlt2 : j < sc (fun j => ¬ isBl (g j)) i L := by
      by_cases z : j < sc (fun j => ¬ isBl (g j)) i L
      · exact z
      · have e2 : sc (fun j => ¬ isBl (g j)) i L = j := by omega
        have := scx_at (p := fun j => ¬ isBl (g j)) (i := i) (to := L) (by omega)
        rw [e2] at this
        exact absurd hp this
    have gb := gly_b (b := g j)
    have gs : 0 ≤ gly (g j) * s ∧ gly (g j) * s ≤ 5 * 1100 := ⟨Int.mul_nonneg (by omega) hs.1, Int.mul_le_mul gb.2 hs.2 hs.1 (by omega)⟩
    refine ev_ck (by omega) (ev_ck (by omega) (ev_ix (by omega) ?_))
    rw [ys_glyph]
    simp only [Option.bind_some]
    refine ev_ck (by omega) (ev_ck (by omega) (ev_ck (by omega) (ev_inl ⟨⟨by show i ≤ j + 1 ∧ j + 1 ≤ _; omega, ?_⟩, by show L - (j + 1) < L - j; omega, by show 0 ≤ L - j; omega⟩)))
    show w + gly (g j) * s = wdS g i (j + 1 - i).toNat * s
    rw [show (j + 1 - i).toNat = (j - i).toNat + 1 by omega]
    show _ = (wdS g i (j - i).toNat + gly (g (i + ((j - i).toNat : Int)))) * s
    rw [Int.add_mul, ← g2, show i + (((j - i).toNat : Nat) : Int) = j by omega]
end V5
