/-! WORDS DON'T LIE OVER EACH OTHER: an item comes on the line, all of it (the reference alone) -/
def Jit (m0 : YS) (it' wd : Int) (s : Int × YS) : Prop := (s.1 = 0 ∧ J0v m0 it' s.2) ∨ (s.1 = 1 ∧ J1v m0 it' wd s.2)
section YZF
variable {m m' m0 m1 : YS} {i v a b w sh it' wd s at' v4 v6 w0 w1 : Int}
theorem kz_float : kz (fun z => z ≠ 0 → v < m 140 i) (N_Y_isFloatAt i v m) := by
  unfold N_Y_isFloatAt
  exact kz_ix (kz_if (kz_some (fun h => absurd rfl h)) (kz_ix (kz_ifc (fun h => kz_some (fun _ => h)) (fun _ => kz_some (fun h => absurd rfl h)))))
theorem kz_least : kz (fun z => z = -1 ∨ v < z) (N_Y_leastEnd v m) := by
  have lo : kz (fun z => z = -1 ∨ v < z) (NL_Y_leastEnd_4 v (-1) 0 m) := by
    unfold NL_Y_leastEnd_4
    refine kz_it (fun s : Int × Int => s.1 = -1 ∨ v < s.1) (fun s hs => ?_) (.inl rfl)
    obtain ⟨z, i⟩ := s
    have hs : z = -1 ∨ v < z := hs
    show kz _ (nb_Y_leastEnd_4 v z i m)
    unfold nb_Y_leastEnd_4
    refine kz_if (kz_b kz_float (fun q hq => kz_ifc (fun _ => kz_ck (kz_some hs)) (fun h => ?_))) (kz_some hs)
    have h36 : kz (sp (fun s : Int × Int => s.1 = -1 ∨ v < s.1) (fun z => z = -1 ∨ v < z)) (nk_Y_leastEnd_36 v i m) := by
      unfold nk_Y_leastEnd_36
      exact kz_ix (kz_ck (kz_some (show _ from .inr (hq h))))
    exact kz_if h36 (kz_ix (kz_if h36 (kz_ck (kz_some hs))))
  unfold N_Y_leastEnd
  exact kz_b lo (fun z hz => kz_some hz)
theorem ov_104 (h : J0v m0 it' m) (hgap : 0 < m 131 0 → m 130 0 ≤ at') : kz (sp (Jit m0 it' wd) (J1v m0 it' wd)) (nk_Y_putItem_104 it' wd s at' m) := by
  unfold nk_Y_putItem_104
  refine kz_ixc (fun hI => kz_sy (fun m4 e4 => kz_ix (kz_sy (fun m10 e10 => kz_ck (kz_sy (fun m16 e16 => kz_ck (kz_sy (fun m21 e21 => kz_b kz_high (fun z hz => kz_sy (fun m31 e31 => kz_some (show _ from .inr ⟨rfl, ?_⟩)))))))))))
  have f4 : ∀ f, f ≠ 134 → m4 f = m f := fun f hf => by rw [e4]; exact yw_nF hf
  rw [f4 131 (by decide)] at e10
  have f10 : ∀ f, f ≠ 134 → f ≠ 135 → m10 f = m f := fun f a b => by rw [e10, yw_nF b]; exact f4 f a
  rw [f10 131 (by decide) (by decide)] at e16
  have f21 : ∀ f, f ≠ 130 → f ≠ 131 → f ≠ 134 → f ≠ 135 → m21 f = m f := fun f a b c d => by rw [e21, yw_nF a, e16, yw_nF b]; exact f10 f c d
  have f31 : ∀ f, f ≠ 130 → f ≠ 131 → f ≠ 132 → f ≠ 134 → f ≠ 135 → m31 f = m f := fun f a b c d e => by rw [e31, yw_nF c]; exact f21 f a b d e
  have esz : szW m21 it' = szW m it' := szW_cg (fun f hf => f21 f (by omega) (by omega) (by omega) (by omega))
  rw [esz] at hz
  have h132 : m31 132 0 = max (m 132 0) z := by rw [e31, yw_eq, f21 132 (by decide) (by decide) (by decide) (by decide)]
  show J1v m0 it' wd m31
  refine h.put (at' := at') hgap hI.2 ?_ ?_ ?_ ?_ ⟨by omega, fun x => by have := hz x; omega⟩ (fun f hf => ?_)
  · funext j
    rw [e31, yw_nF (by decide), e21, yw_nF (by decide), e16, yw_nF (by decide), e10, yw_nF (by decide), e4]
    by_cases q : j = m 131 0
    · rw [q, yw_eq, if_pos rfl]
    · rw [yw_ni q, if_neg q]
  · funext j
    rw [e31, yw_nF (by decide), e21, yw_nF (by decide), e16, yw_nF (by decide), e10]
    by_cases q : j = m 131 0
    · rw [q, yw_eq, if_pos rfl]
    · rw [yw_ni q, if_neg q, f4 135 (by decide)]
  · show m31 131 0 = _
    rw [e31, yw_nF (by decide), e21, yw_nF (by decide), e16, yw_eq]
  · show m31 130 0 = _
    rw [e31, yw_nF (by decide), e21, yw_eq]
  · simp only [List.mem_cons, List.not_mem_nil, or_false] at hf
    exact f31 f (by omega) (by omega) (by omega) (by omega) (by omega)
theorem ov_165 (h : J0v m0 it' m) (h6 : m 131 0 = 0 → m 127 0 ≤ v6) : kz (sp (Jit m0 it' wd) (J1v m0 it' wd)) (nk_Y_putItem_165 it' wd s 0 v6 m) := by
  unfold nk_Y_putItem_165
  refine kz_ifc (fun h0 => kz_b (ov_end h.1) (fun m4 h4 => kz_some (show _ from .inl ⟨rfl, h.endl h4⟩))) (fun h0 => kz_sy (fun m8 e8 => kz_some (show _ from .inl ⟨rfl, ?_⟩)))
  have hz : m 131 0 = 0 := by have := h.1.1.1; omega
  show J0v m0 it' m8
  rw [e8]; exact h.down hz (h6 hz)
theorem ov_78 (h : J0v m0 it' m) (hgap : 0 < m 131 0 → m 130 0 ≤ at') (h6 : m 131 0 = 0 → w0 = -1 ∨ m 127 0 < w0) : kz (sp (Jit m0 it' wd) (J1v m0 it' wd)) (nk_Y_putItem_78 it' wd s 0 at' w0 m) := by
  unfold nk_Y_putItem_78
  refine kz_ck (kz_if (kz_ifc (fun hz => kz_ifc (fun _ => ov_104 h hgap) (fun hw => ov_165 h (fun _ => ?_))) (fun hz => ov_165 h (fun q => absurd q hz))) (ov_104 h hgap))
  rcases h6 hz with g | g
  · exact absurd g hw
  · omega
theorem ov_56 (h : J0v m0 it' m) (h1 : 0 < m 131 0 → w1 = m 130 0) (h0 : 0 ≤ w0) : kz (sp (Jit m0 it' wd) (J1v m0 it' wd)) (nk_Y_putItem_56 it' wd s 0 w0 w1 m) := by
  unfold nk_Y_putItem_56
  have hg : 0 < m 131 0 → m 130 0 ≤ w1 + w0 := fun x => by have := h1 x; omega
  exact kz_ck (kz_ifc (fun q => ov_78 h hg (fun z => by omega)) (fun q => kz_b kz_least (fun z hz => ov_78 h hg (fun _ => hz))))
theorem ov_31 (h : J0v m0 it' m) (hs : 0 ≤ s) : kz (sp (Jit m0 it' wd) (J1v m0 it' wd)) (nk_Y_putItem_31 it' wd s 0 m) := by
  unfold nk_Y_putItem_31 nk_Y_putItem_55
  exact kz_if (kz_if (ov_56 h (fun _ => rfl) (Int.le_refl _)) (kz_ck (ov_56 h (fun _ => rfl) (by omega)))) (ov_56 h (fun _ => rfl) (Int.le_refl _))
theorem J1v.bl (h : J1v m0 it' wd m) : J1v m0 it' wd (yw m 144 0 v) := by
  have ef : ∀ f, f ≠ 144 → yw m 144 0 v f = m f := fun f hf => yw_nF hf
  have e : ∀ w, szW (yw m 144 0 v) w = szW m w := fun w => szW_cg (fun f hf => ef f (by omega))
  have hk : KYf m (yw m 144 0 v) := KYf.wr (by decide) KYf.refl
  obtain ⟨a1, a2, a3, a4, a5, a6, a7, a8⟩ := h
  have onl : ∀ w, ONL (yw m 144 0 v) w ↔ ONL m w := fun w => ONL.cg (ef 131 (by decide)) (ef 134 (by decide))
  refine ⟨a1.cg hk, fun f hf => (hk f (by simp only [List.mem_cons, List.not_mem_nil, or_false] at hf ⊢; omega)).trans (a2 f hf), by rw [ef 127 (by decide)]; exact a3, (onl _).mpr a4, fun w x y y' z => (QP.cg hk).mpr (a5 w x y y' z), fun w x y z => (QP.cg hk).mpr (a6 w x y z), fun x y => ?_, fun w x => a8 w ((onl w).mp x)⟩
  have g := a7 x y
  unfold LPw at *
  rw [onl, e, ef 131 (by decide), ef 134 (by decide), ef 130 (by decide), ef 135 (by decide), ef 123 (by decide), ef 122 (by decide), ef 127 (by decide)]; exact g
theorem ov_put (hL : LNi m) (hn : ¬ ONL m it') (hs : 0 ≤ s) : kz (J1v m it' wd) (N_Y_putItem it' wd s m) := by
  have lo : kz (J1v m it' wd) (NL_Y_putItem_3 it' wd s 0 m) := by
    unfold NL_Y_putItem_3
    refine kz_it (Jit m it' wd) (fun q hq => ?_) (.inl ⟨rfl, hL, hn, fun _ _ => rfl, Int.le_refl _, fun _ _ h => h, fun _ _ h => h, fun _ h => h⟩)
    obtain ⟨k, m1⟩ := q
    show kz _ (nb_Y_putItem_3 it' wd s k m1)
    unfold nb_Y_putItem_3
    rcases hq with ⟨k0, h⟩ | ⟨k1, h⟩
    · have k0 : k = 0 := k0
      have h : J0v m it' m1 := h
      rw [if_pos k0, k0]
      exact kz_ifc (fun hz => kz_b (f_N_Y_edgesAt KYf.refl) (fun m6 h6 => kz_sy (fun m11 e11 => ov_31 (h.edge (by rw [e11]; exact KYf.wr (by decide) h6) hz) hs))) (fun _ => ov_31 h hs)
    · have k1 : k = 1 := k1
      rw [if_neg (by omega)]
      exact kz_some h
  unfold N_Y_putItem
  exact kz_b lo (fun m1 h1 => kz_sy (fun m5 e5 => kz_some (by rw [e5]; exact h1.bl)))
end YZF
