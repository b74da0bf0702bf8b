/-! WORDS DON'T LIE OVER EACH OTHER: a line ends; an item comes on it (the reference alone) -/
section YZD
variable {m m' m0 m1 : YS} {i v a b w sh it' wd s : Int}
theorem ONL.cg (h1 : m' 131 = m 131) (h2 : m' 134 = m 134) : ONL m' w ↔ ONL m w := by
  unfold ONL
  rw [h1, h2]
/-- the floats that waited -/
theorem ov_173 : kz (KYf m) (NL_Y_endLine_173 v m) := by
  unfold NL_Y_endLine_173
  refine kz_it (fI m) (fun s hs => ?_) (KYf.refl : KYf m m)
  obtain ⟨k, m1⟩ := s
  have hs : KYf m m1 := hs
  show kz _ (nb_Y_endLine_173 k m1)
  unfold nb_Y_endLine_173
  exact kz_if (kz_ix (kz_b (f_N_Y_putFloat hs) (fun m7 h7 => kz_ck (kz_some h7)))) (kz_some hs)
/-- what the end of a line leaves -/
def OVE (m m' : YS) : Prop := (m' 131 0 = 0 ∧ m' 132 0 = 0 ∧ m' 127 0 = m 127 0 + m 132 0) ∧ (∀ f, f ∈ [49, 105, 116, 118, 119, 120, 123] → m' f = m f) ∧ (∀ w, 0 ≤ w → ¬ ONL m w → m' 121 w = m 121 w ∧ m' 122 w = m 122 w) ∧ (∀ w, 0 ≤ w → ONL m w → m' 122 w + 7 * szW m' w = m' 127 0) ∧ (∀ w, 0 ≤ w → QP m w → PRr m' w)
theorem ov_40 (hL : LNi m) : kz (OVE m) (nk_Y_endLine_40 sh m) := by
  unfold nk_Y_endLine_40
  refine kz_b (ov_43 hL) (fun m1 h1 => ?_)
  obtain ⟨a1, a2, a3⟩ := h1
  refine kz_ck (kz_sy (fun m8 e8 => kz_sy (fun m12 e12 => kz_sy (fun m16 e16 => kz_sy (fun m20 e20 => kz_b ov_173 (fun m23 h23 => kz_sy (fun m27 e27 => kz_some ?_)))))))
  have f20 : ∀ f, f ≠ 127 → f ≠ 131 → f ≠ 132 → f ≠ 144 → m20 f = m1 f := fun f x y z u => by rw [e20, yw_nF u, e16, yw_nF z, e12, yw_nF y, e8, yw_nF x]
  have v131 : m20 131 0 = 0 := by rw [e20, yw_nF (by decide), e16, yw_nF (by decide), e12, yw_eq]
  have v132 : m20 132 0 = 0 := by rw [e20, yw_nF (by decide), e16, yw_eq]
  have v127 : m20 127 0 = m 127 0 + m 132 0 := by rw [e20, yw_nF (by decide), e16, yw_nF (by decide), e12, yw_nF (by decide), e8, yw_eq, a1 127 (by decide) (by decide) (by decide) (by decide), a1 132 (by decide) (by decide) (by decide) (by decide)]
  have f27 : ∀ f, f ∈ [49, 105, 116, 118, 119, 120, 121, 122, 123, 127, 131, 132, 134, 135] → m27 f = m20 f := fun f hf => by
    rw [e27, yw_nF (fun z => by rw [z] at hf; exact absurd hf (by decide))]; exact h23 f hf
  have st : ∀ f, f ∈ [49, 105, 116, 118, 119, 120, 123] → m27 f = m f := fun f hf => by
    simp only [List.mem_cons, List.not_mem_nil, or_false] at hf
    rw [f27 f (by simp only [List.mem_cons, List.not_mem_nil, or_false]; omega), f20 f (by omega) (by omega) (by omega) (by omega), a1 f (by omega) (by omega) (by omega) (by omega)]
  have e121 : m27 121 = m1 121 := by rw [f27 121 (by decide), f20 121 (by decide) (by decide) (by decide) (by decide)]
  have e122 : m27 122 = m1 122 := by rw [f27 122 (by decide), f20 122 (by decide) (by decide) (by decide) (by decide)]
  have esz : ∀ w, szW m27 w = szW m w := fun w => szW_cg (fun f hf => st f (by simp only [List.mem_cons, List.not_mem_nil, or_false]; omega))
  have e127 : m27 127 0 = m 127 0 + m 132 0 := by rw [f27 127 (by decide)]; exact v127
  have no : ∀ w, 0 ≤ w → ¬ ONL m w → m27 121 w = m 121 w ∧ m27 122 w = m 122 w := fun w x y => by rw [e121, e122]; exact a2 w x y
  have on : ∀ j, 0 ≤ j → j < m 131 0 → 0 ≤ m 134 j → m27 121 (m 134 j) = m 135 j + sh ∧ m27 122 (m 134 j) = m 127 0 + m 132 0 - 7 * szW m (m 134 j) := fun j x y z => by rw [e121, e122]; exact a3 j x y z
  refine ⟨⟨by rw [f27 131 (by decide)]; exact v131, by rw [f27 132 (by decide)]; exact v132, e127⟩, st, no, fun w x y => ?_, fun w x y => ?_⟩
  · obtain ⟨j, j0, j1, j2⟩ := y
    have g := on j j0 j1 (by omega)
    rw [j2] at g
    rw [esz, e127, g.2]; omega
  · unfold PRr
    rw [esz, esz, st 123 (by decide)]
    rcases y with ⟨q1, q2, q3⟩ | ⟨q1, q2, j, j0, j1, j2⟩ | ⟨j, j0, j1, j2, j3, j4⟩
    · unfold PRr at q1
      rw [(no w x q2).1, (no w x q2).2, (no (w + 1) (by omega) q3).1, (no (w + 1) (by omega) q3).2]; exact q1
    · have g := on j j0 j1 (by omega)
      have g2 := hL.2.2.1 j j0 j1 (by omega)
      rw [j2] at g g2
      rw [(no w x q2).1, (no w x q2).2, g.1, g.2]
      right; omega
    · have g := on j j0 (by omega) (by omega)
      have g' := on (j + 1) (by omega) j1 (by omega)
      rw [j2] at g
      rw [j3] at g'
      rw [g.1, g.2, g'.1, g'.2]
      left; omega
theorem ov_end (hL : LNi m) : kz (OVE m) (N_Y_endLine m) := by
  unfold N_Y_endLine
  exact kz_ck (kz_if (ov_40 hL) (kz_if (kz_cd (ov_40 hL)) (ov_40 hL)))
end YZD
