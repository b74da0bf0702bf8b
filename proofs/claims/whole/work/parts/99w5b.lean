/-! WORDS DON'T LIE OVER EACH OTHER: rules (the reference alone) -/
def szW (m : YS) (w : Int) : Int := m 105 (11 * m 49 (m 118 w) + 8)
/-- a word and the next of the same TEXT don't lie over each other -/
def PRr (m : YS) (w : Int) : Prop := (m 122 w + 7 * szW m w = m 122 (w + 1) + 7 * szW m (w + 1) ∧ m 121 w + m 123 w ≤ m 121 (w + 1)) ∨ m 122 w + 7 * szW m w ≤ m 122 (w + 1)
def KYf (m0 m : YS) : Prop := ∀ f, f ∈ [49, 105, 116, 118, 119, 120, 121, 122, 123, 127, 131, 132, 134, 135] → m f = m0 f
def fI (m0 : YS) (r : Int × YS) : Prop := KYf m0 r.2
def fJ (m0 : YS) (r : Int × Int × YS) : Prop := KYf m0 r.2.2
/-- it is on the line -/
def ONL (m : YS) (w : Int) : Prop := ∃ i, 0 ≤ i ∧ i < m 131 0 ∧ m 134 i = w
/-- the line is sound -/
def LNi (m : YS) : Prop := (0 ≤ m 131 0 ∧ m 131 0 ≤ 24000) ∧ (∀ i j, 0 ≤ i → i < j → j < m 131 0 → m 134 i ≠ m 134 j) ∧ (∀ i, 0 ≤ i → i < m 131 0 → 0 ≤ m 134 i → 7 * szW m (m 134 i) ≤ m 132 0) ∧ 0 ≤ m 132 0
/-- a word and the next: both stand, or the first stands above the line, or both are on the line -/
def QP (m : YS) (w : Int) : Prop := (PRr m w ∧ ¬ ONL m w ∧ ¬ ONL m (w + 1)) ∨ (m 122 w + 7 * szW m w ≤ m 127 0 ∧ ¬ ONL m w ∧ ONL m (w + 1)) ∨ (∃ j, 0 ≤ j ∧ j + 1 < m 131 0 ∧ m 134 j = w ∧ m 134 (j + 1) = w + 1 ∧ m 135 j + m 123 w ≤ m 135 (j + 1))
section YZB
variable {α : Type} {P : α → Prop} {m m' m0 m1 : YS} {i v a b w sh it' : Int} {F : Nat}
theorem KYf.refl : KYf m m := fun _ _ => rfl
theorem KYf.wr (h1 : F ∉ [49, 105, 116, 118, 119, 120, 121, 122, 123, 127, 131, 132, 134, 135]) (h : KYf m0 m) : KYf m0 (yw m F i v) := fun f hf => by
  rw [yw_nF (fun z => h1 (by rw [← z]; exact hf))]; exact h f hf
theorem KYf.trans (h : KYf m0 m) (h' : KYf m m') : KYf m0 m' := fun f hf => (h' f hf).trans (h f hf)
theorem kz_stf {G : YS → Option α} (h : KYf m0 m) (hF : ∀ m', KYf m0 m' → kz P (G m')) : kz P (st m G) := hF m h
theorem kz_u2if {G : Int → YS → Option α} (hF : ∀ c d, KYf m0 d → kz P (G c d)) : ∀ c : Int × YS, fI m0 c → kz P (u2 G c) := fun c h => hF c.1 c.2 h
theorem kz_u3if {G : Int → Int → YS → Option α} (hF : ∀ c c' d, KYf m0 d → kz P (G c c' d)) : ∀ c : Int × Int × YS, fJ m0 c → kz P (u3 G c) := fun c h => hF c.1 c.2.1 c.2.2 h
theorem kq_if (h : KYf m0 m) : fI m0 (a, m) := h
theorem kq_jf (h : KYf m0 m) : fJ m0 (a, b, m) := h
theorem kz_sy {G : YS → Option α} (hF : ∀ m', m' = m → kz P (G m')) : kz P (st m G) := hF m rfl
theorem kz_of : kz (fun z => z = m 105 (11 * v + b)) (N_Y_of v b m) := by
  unfold N_Y_of
  exact kz_ck (kz_ck (kz_ix (kz_some rfl)))
theorem kz_high : kz (fun z => 0 ≤ it' → z = 7 * szW m it') (N_Y_itemHigh it' m) := by
  unfold N_Y_itemHigh
  refine kz_ifc (fun h => kz_ck (kz_ix (kz_some (fun h' => by omega)))) (fun h => kz_ix (kz_ix (kz_b kz_of (fun z hz => kz_ck (kz_some (fun _ => ?_))))))
  rw [hz]; rfl
theorem szW_cg (h : ∀ f, f = 49 ∨ f = 105 ∨ f = 118 → m' f = m f) : szW m' w = szW m w := by
  unfold szW
  rw [h 49 (by omega), h 105 (by omega), h 118 (by omega)]
/-- the items of a line are put where they stand -/
theorem ov_43 (hL : LNi m) : kz (fun m' => (∀ f, f ≠ 110 → f ≠ 111 → f ≠ 121 → f ≠ 122 → m' f = m f) ∧ (∀ w, 0 ≤ w → ¬ ONL m w → m' 121 w = m 121 w ∧ m' 122 w = m 122 w) ∧ (∀ i, 0 ≤ i → i < m 131 0 → 0 ≤ m 134 i → m' 121 (m 134 i) = m 135 i + sh ∧ m' 122 (m 134 i) = m 127 0 + m 132 0 - 7 * szW m (m 134 i))) (NL_Y_endLine_43 sh 0 m) := by
  unfold NL_Y_endLine_43
  refine kz_it (fun s : Int × YS => (0 ≤ s.1 ∧ s.1 ≤ m 131 0) ∧ (∀ f, f ≠ 110 → f ≠ 111 → f ≠ 121 → f ≠ 122 → s.2 f = m f) ∧ (∀ w, 0 ≤ w → ¬ ONL m w → s.2 121 w = m 121 w ∧ s.2 122 w = m 122 w) ∧ (∀ i, 0 ≤ i → i < s.1 → 0 ≤ m 134 i → s.2 121 (m 134 i) = m 135 i + sh ∧ s.2 122 (m 134 i) = m 127 0 + m 132 0 - 7 * szW m (m 134 i))) (fun s hs => ?_) ⟨⟨Int.le_refl _, hL.1.1⟩, fun _ _ _ _ _ => rfl, fun _ _ _ => ⟨rfl, rfl⟩, fun i x y => by omega⟩
  obtain ⟨k, m1⟩ := s
  obtain ⟨h1, h2, h3, h4⟩ := hs
  simp only at h1 h2 h3 h4
  show kz _ (nb_Y_endLine_43 sh k m1)
  unfold nb_Y_endLine_43
  have e131 := h2 131 (by decide) (by decide) (by decide) (by decide)
  have e134 := h2 134 (by decide) (by decide) (by decide) (by decide)
  have e135 := h2 135 (by decide) (by decide) (by decide) (by decide)
  have e127 := h2 127 (by decide) (by decide) (by decide) (by decide)
  have e132 := h2 132 (by decide) (by decide) (by decide) (by decide)
  have esz : ∀ w, szW m1 w = szW m w := fun w => szW_cg (fun f hf => h2 f (by omega) (by omega) (by omega) (by omega))
  rw [e131, e134, e135, e127, e132]
  refine kz_ifc (fun hlt => ?_) (fun hge => kz_some ⟨h2, h3, fun i x y => h4 i x (by omega)⟩)
  refine kz_ix (kz_ck (kz_b kz_high (fun z hz => kz_ck ?_)))
  rw [esz] at hz
  refine kz_ifc (fun hn => ?_) (fun hp => ?_)
  · refine kz_ck (kz_ix (kz_ck (kz_ix (kz_sy (fun m22 e22 => kz_ck (kz_ix (kz_sy (fun m28 e28 => kz_ck (kz_some ?_)))))))))
    have f28 : ∀ f, f ≠ 110 → f ≠ 111 → m28 f = m1 f := fun f x y => by rw [e28, yw_nF y, e22, yw_nF x]
    refine ⟨⟨by omega, by omega⟩, fun f a b c d => (f28 f a b).trans (h2 f a b c d), fun w x y => by show m28 121 w = _ ∧ m28 122 w = _; rw [f28 121 (by decide) (by decide), f28 122 (by decide) (by decide)]; exact h3 w x y, fun i x y y' => ?_⟩
    show m28 121 (m 134 i) = _ ∧ m28 122 (m 134 i) = _
    rw [f28 121 (by decide) (by decide), f28 122 (by decide) (by decide)]
    have y : i < k + 1 := y
    by_cases z' : i = k
    · rw [z'] at y'; omega
    · exact h4 i x (by omega) y'
  · refine kz_ix (kz_ck (kz_ix (kz_sy (fun m38 e38 => kz_ix (kz_sy (fun m43 e43 => kz_ck (kz_some ?_)))))))
    have hz' := hz (by omega)
    have f43 : ∀ f, f ≠ 121 → f ≠ 122 → m43 f = m1 f := fun f x y => by rw [e43, yw_nF y, e38, yw_nF x]
    have o43 : ∀ w, w ≠ m 134 k → m43 121 w = m1 121 w ∧ m43 122 w = m1 122 w := fun w x => by
      rw [e43, yw_nF (by decide), e38, yw_ni x, yw_ni x, yw_nF (by decide)]; exact ⟨rfl, rfl⟩
    have v43 : m43 121 (m 134 k) = m 135 k + sh ∧ m43 122 (m 134 k) = m 127 0 + m 132 0 - z := by
      rw [e43, yw_nF (by decide), e38, yw_eq, yw_eq]; exact ⟨rfl, rfl⟩
    refine ⟨⟨by omega, by omega⟩, fun f a b c d => (f43 f c d).trans (h2 f a b c d), fun w x y => ?_, fun i x y y' => ?_⟩
    · have hne : w ≠ m 134 k := fun q => y ⟨k, h1.1, hlt, q.symm⟩
      show m43 121 w = _ ∧ m43 122 w = _
      rw [(o43 w hne).1, (o43 w hne).2]; exact h3 w x y
    · have y : i < k + 1 := y
      show m43 121 (m 134 i) = _ ∧ m43 122 (m 134 i) = _
      by_cases z' : i = k
      · rw [z', v43.1, v43.2, hz']; exact ⟨rfl, rfl⟩
      · have hne := hL.2.1 i k x (by omega) hlt
        rw [(o43 _ hne).1, (o43 _ hne).2]
        exact h4 i x (by omega) y'
end YZB
