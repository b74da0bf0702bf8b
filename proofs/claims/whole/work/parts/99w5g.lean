/-! WORDS DON'T LIE OVER EACH OTHER: the line of both is sound -/
/-- what a node on the line does to the words before it, and to its own -/
def QST (m : YS) (u c : Int) (m' : YS) : Prop := (∀ w, 0 ≤ w → (m 107 u = 6 → w + 1 < m 116 u) → QP m w → QP m' w) ∧ (m 107 u = 6 → ∀ w, m 116 u ≤ w → w + 1 < m 116 u + c → QP m' w)
section W5G
variable {n n' : NS} {m m' m0 m1 : YS} {v E wd F w y it' s u c : Int}
theorem LSx.lni (h : LSx n m v E wd F) : LNi m := by
  obtain ⟨i1, i2, i3, i4⟩ := h.2.1
  have hi : ∀ i : Int, 0 ≤ i → i < (m 131 0).toNat → ITk n m v (m 134 i) := fun i x y => (i2 i x (by omega)).2.1
  refine ⟨⟨i1.2.1, i1.2.2.1⟩, i3, fun i x y z => ?_, by rw [i4]; exact (mxH_b _ hi).1⟩
  rw [i4]
  have g := mxH_ge (m := m) (m 131 0).toNat i x (by omega)
  unfold iH at g
  rw [if_neg (by omega)] at g
  exact g
theorem QP.w44 (h : QP m w) : QP (yw m 144 0 y) w := (QP.cg (KYf.wr (by decide) KYf.refl)).mpr h
theorem LPw.w44 (h : LPw m w) : LPw (yw m 144 0 y) w := by
  have ef : ∀ f, f ≠ 144 → yw m 144 0 y f = m f := fun f hf => yw_nF hf
  have e : szW (yw m 144 0 y) w = szW m w := szW_cg (fun f hf => ef f (by omega))
  have onl : ONL (yw m 144 0 y) w ↔ ONL m w := ONL.cg (ef 131 (by decide)) (ef 134 (by decide))
  unfold LPw at *
  rw [onl, e, ef 131 (by decide), ef 134 (by decide), ef 130 (by decide), ef 135 (by decide), ef 123 (by decide), ef 122 (by decide), ef 127 (by decide)]; exact h
theorem QP.pr (h : QP m w) (h0 : m 131 0 = 0) : PRr m w := by
  rcases h with h | h | ⟨j, j0, j1, _⟩
  · exact h.1
  · exact absurd h.2.2 (onl0 h0)
  · omega
theorem PRr.qp (h : PRr m w) (h0 : m 131 0 = 0) : QP m w := .inl ⟨h, onl0 h0, onl0 h0⟩
theorem PRr.cg (h : ∀ f, f ∈ [49, 105, 118, 121, 122, 123] → m' f = m f) : PRr m' w ↔ PRr m w := by
  have e : ∀ w, szW m' w = szW m w := fun w => szW_cg (fun f hf => h f (by simp only [List.mem_cons, List.not_mem_nil, or_false]; omega))
  unfold PRr
  rw [e, e, h 121 (by decide), h 122 (by decide), h 123 (by decide)]
/-- below an empty line -/
theorem QP.mv (h : QP m w) (h0 : m 131 0 = 0) (hm : FY [127, 128, 129, 130, 144] m m') : QP m' w := by
  refine PRr.qp ((PRr.cg (fun f hf => hm f (fun z => ?_))).mpr (h.pr h0)) (by rw [hm 131 (by decide)]; exact h0)
  simp only [List.mem_cons, List.not_mem_nil, or_false] at hf z
  omega
theorem QST.of (h7 : m 107 u ≠ 6) (h : ∀ w, 0 ≤ w → QP m w → QP m' w) : QST m u c m' := ⟨fun w x _ q => h w x q, fun z => absurd z h7⟩
theorem QST.kf (h7 : m 107 u ≠ 6) (h : KYf m m') : QST m u c m' := .of h7 (fun _ _ q => (QP.cg h).mpr q)
end W5G
