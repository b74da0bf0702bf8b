/-! WORDS DON'T LIE OVER EACH OTHER: an item comes on the line (the reference alone) -/
/-- the last word: it is the last on the line, or stands above it -/
def LPw (m : YS) (w : Int) : Prop := (0 < m 131 0 ∧ m 134 (m 131 0 - 1) = w ∧ m 130 0 = m 135 (m 131 0 - 1) + m 123 w) ∨ (¬ ONL m w ∧ m 122 w + 7 * szW m w ≤ m 127 0)
def STA (m m' : YS) : Prop := ∀ f, f ∈ [49, 105, 116, 118, 119, 120, 123] → m' f = m f
/-- before the item is put; when it is -/
def J0v (m0 : YS) (it' : Int) (m : YS) : Prop := LNi m ∧ ¬ ONL m it' ∧ STA m0 m ∧ m0 127 0 ≤ m 127 0 ∧ (∀ w, 0 ≤ w → QP m0 w → QP m w) ∧ (∀ w, 0 ≤ w → LPw m0 w → LPw m w) ∧ (∀ w, ONL m w → ONL m0 w)
def J1v (m0 : YS) (it' wd : Int) (m : YS) : Prop := LNi m ∧ STA m0 m ∧ m0 127 0 ≤ m 127 0 ∧ ONL m it' ∧ (∀ w, 0 ≤ w → it' ≠ w → it' ≠ w + 1 → QP m0 w → QP m w) ∧ (∀ w, 0 ≤ w → it' = w + 1 → LPw m0 w → QP m w) ∧ (0 ≤ it' → wd = m0 123 it' → LPw m it') ∧ (∀ w, ONL m w → w = it' ∨ ONL m0 w)
section YZE
variable {α : Type} {P : α → Prop} {x : Option α} {m m' m0 m1 : YS} {i v a b w sh it' wd s at' : Int}
theorem kz_ixc (h : 0 ≤ a ∧ a < b → kz P x) : kz P (ix a b x) := fun r hr => by
  unfold ix at hr
  by_cases z : 0 ≤ a ∧ a < b
  · rw [if_pos z] at hr; exact h z r hr
  · rw [if_neg z] at hr; cases hr
theorem QP.cg (h : KYf m m') : QP m' w ↔ QP m w := by
  have e : ∀ w, szW m' w = szW m w := fun w => szW_cg (fun f hf => h f (by simp only [List.mem_cons, List.not_mem_nil, or_false]; omega))
  unfold QP PRr ONL
  rw [e, e, h 121 (by decide), h 122 (by decide), h 123 (by decide), h 127 (by decide), h 131 (by decide), h 134 (by decide), h 135 (by decide)]
theorem LNi.cg (h : LNi m) (hk : KYf m m') : LNi m' := by
  have e : ∀ w, szW m' w = szW m w := fun w => szW_cg (fun f hf => hk f (by simp only [List.mem_cons, List.not_mem_nil, or_false]; omega))
  unfold LNi at *
  rw [hk 131 (by decide), hk 134 (by decide), hk 132 (by decide)]
  exact ⟨h.1, h.2.1, fun i x y z => by rw [e]; exact h.2.2.1 i x y z, h.2.2.2⟩
theorem onl0 (h : m 131 0 = 0) : ¬ ONL m w := fun ⟨i, a, b, _⟩ => by omega
/-- where a line begins -/
theorem J0v.edge (h : J0v m0 it' m) (hk : KYf m m') (h0 : m 131 0 = 0) : J0v m0 it' m' := by
  obtain ⟨a1, a2, a3, a4, a5, a6, a7⟩ := h
  have h0' : m' 131 0 = 0 := by rw [hk 131 (by decide)]; exact h0
  have e : ∀ w, szW m' w = szW m w := fun w => szW_cg (fun f hf => hk f (by simp only [List.mem_cons, List.not_mem_nil, or_false]; omega))
  refine ⟨a1.cg hk, onl0 h0', fun f hf => (hk f (by simp only [List.mem_cons, List.not_mem_nil, or_false] at hf ⊢; omega)).trans (a3 f hf), by rw [hk 127 (by decide)]; exact a4, fun w x y => (QP.cg hk).mpr (a5 w x y), fun w x y => ?_, fun w x => absurd x (onl0 h0')⟩
  rcases a6 w x y with g | g
  · omega
  · exact .inr ⟨onl0 h0', by rw [e, hk 122 (by decide), hk 127 (by decide)]; exact g.2⟩
/-- the line ends -/
theorem J0v.endl (h : J0v m0 it' m) (hE : OVE m m') : J0v m0 it' m' := by
  obtain ⟨a1, a2, a3, a4, a5, a6, a7⟩ := h
  obtain ⟨⟨b1, b2, b3⟩, b4, b5, b6, b7⟩ := hE
  have e : ∀ w, szW m' w = szW m w := fun w => szW_cg (fun f hf => b4 f (by simp only [List.mem_cons, List.not_mem_nil, or_false]; omega))
  have h132 := a1.2.2.2
  refine ⟨⟨by omega, fun i j x y z => by omega, fun i x y => by omega, by omega⟩, onl0 b1, fun f hf => (b4 f hf).trans (a3 f hf), by omega, fun w x y => .inl ⟨b7 w x (a5 w x y), onl0 b1, onl0 b1⟩, fun w x y => .inr ⟨onl0 b1, ?_⟩, fun w x => absurd x (onl0 b1)⟩
  rcases a6 w x y with ⟨g1, g2, g3⟩ | ⟨g1, g2⟩
  · have := b6 w x ⟨m 131 0 - 1, by omega, by omega, g2⟩
    omega
  · rw [e, (b5 w x g1).2, b3]; omega
/-- below the floats -/
theorem J0v.down (h : J0v m0 it' m) (h0 : m 131 0 = 0) (hv : m 127 0 ≤ v) : J0v m0 it' (yw m 127 0 v) := by
  obtain ⟨a1, a2, a3, a4, a5, a6, a7⟩ := h
  have ef : ∀ f, f ≠ 127 → yw m 127 0 v f = m f := fun f hf => yw_nF hf
  have h0' : yw m 127 0 v 131 0 = 0 := by rw [ef 131 (by decide)]; exact h0
  have e : ∀ w, szW (yw m 127 0 v) w = szW m w := fun w => szW_cg (fun f hf => ef f (by omega))
  refine ⟨⟨by rw [h0']; omega, fun i j x y z => by omega, fun i x y => by omega, by rw [ef 132 (by decide)]; exact a1.2.2.2⟩, onl0 h0', fun f hf => (ef f (fun z => by rw [z] at hf; exact absurd hf (by decide))).trans (a3 f hf), by rw [yw_eq]; omega, fun w x y => .inl ⟨?_, onl0 h0', onl0 h0'⟩, fun w x y => .inr ⟨onl0 h0', ?_⟩, fun w x => absurd x (onl0 h0')⟩
  · rcases a5 w x y with g | g | ⟨j, j0, j1, _⟩
    · have g1 := g.1
      unfold PRr at *
      rw [e, e, ef 121 (by decide), ef 122 (by decide), ef 123 (by decide)]; exact g1
    · exact absurd g.2.2 (onl0 h0)
    · omega
  · rcases a6 w x y with g | g
    · omega
    · rw [e, ef 122 (by decide), yw_eq]; omega
/-- it is put -/
theorem J0v.put (h : J0v m0 it' m) (hgap : 0 < m 131 0 → m 130 0 ≤ at') (hI : m 131 0 < 24000) (h134 : m' 134 = fun j => if j = m 131 0 then it' else m 134 j) (h135 : m' 135 = fun j => if j = m 131 0 then at' else m 135 j) (h131 : m' 131 0 = m 131 0 + 1) (h130 : m' 130 0 = at' + wd) (h132 : m 132 0 ≤ m' 132 0 ∧ (0 ≤ it' → 7 * szW m it' ≤ m' 132 0)) (hf : ∀ f, f ∈ [49, 105, 116, 118, 119, 120, 121, 122, 123, 127] → m' f = m f) : J1v m0 it' wd m' := by
  obtain ⟨a1, a2, a3, a4, a5, a6, a7⟩ := h
  have e : ∀ w, szW m' w = szW m w := fun w => szW_cg (fun f hf' => hf f (by simp only [List.mem_cons, List.not_mem_nil, or_false]; omega))
  have o4 : ∀ j, j ≠ m 131 0 → m' 134 j = m 134 j := fun j hj => by rw [h134]; exact if_neg hj
  have n4 : m' 134 (m 131 0) = it' := by rw [h134]; exact if_pos rfl
  have o5 : ∀ j, j ≠ m 131 0 → m' 135 j = m 135 j := fun j hj => by rw [h135]; exact if_neg hj
  have n5 : m' 135 (m 131 0) = at' := by rw [h135]; exact if_pos rfl
  have h0 := a1.1.1
  have onl : ∀ w, ONL m' w ↔ w = it' ∨ ONL m w := fun w => by
    constructor
    · rintro ⟨i, x, y, z⟩
      by_cases q : i = m 131 0
      · rw [q, n4] at z; exact .inl z.symm
      · rw [o4 i q] at z; exact .inr ⟨i, x, by omega, z⟩
    · rintro (z | ⟨i, x, y, z⟩)
      · exact ⟨m 131 0, h0, by omega, by rw [n4, z]⟩
      · exact ⟨i, x, by omega, by rw [o4 i (by omega)]; exact z⟩
  have e127 : m' 127 0 = m 127 0 := by rw [hf 127 (by decide)]
  refine ⟨⟨by omega, fun i j x y z => ?_, fun i x y z => ?_, by have := a1.2.2.2; omega⟩, fun f hf' => (hf f (by simp only [List.mem_cons, List.not_mem_nil, or_false] at hf' ⊢; omega)).trans (a3 f hf'), by omega, (onl it').mpr (.inl rfl), fun w x y y' z => ?_, fun w x y z => ?_, fun x y => .inl ⟨by omega, by rw [show m' 131 0 - 1 = m 131 0 by omega]; exact n4, ?_⟩, fun w x => ((onl w).mp x).imp id (a7 w)⟩
  · by_cases q : j = m 131 0
    · rw [q, n4, o4 i (by omega)]
      exact fun g => a2 ⟨i, x, by omega, g⟩
    · rw [o4 i (by omega), o4 j q]; exact a1.2.1 i j x y (by omega)
  · rw [e]
    by_cases q : i = m 131 0
    · rw [q, n4] at z ⊢; exact h132.2 z
    · rw [o4 i q] at z ⊢
      have := a1.2.2.1 i x (by omega) z
      omega
  · rcases a5 w x z with ⟨g1, g2, g3⟩ | ⟨g1, g2, g3⟩ | ⟨j, j0, j1, j2, j3, j4⟩
    · refine .inl ⟨?_, fun q => ((onl w).mp q).elim (fun q => y q.symm) g2, fun q => ((onl (w + 1)).mp q).elim (fun q => y' q.symm) g3⟩
      unfold PRr at *
      rw [e, e, hf 121 (by decide), hf 122 (by decide), hf 123 (by decide)]; exact g1
    · refine .inr (.inl ⟨by rw [e, hf 122 (by decide), e127]; exact g1, fun q => ((onl w).mp q).elim (fun q => y q.symm) g2, (onl (w + 1)).mpr (.inr g3)⟩)
    · exact .inr (.inr ⟨j, j0, by omega, by rw [o4 j (by omega)]; exact j2, by rw [o4 (j + 1) (by omega)]; exact j3, by rw [o5 j (by omega), o5 (j + 1) (by omega), hf 123 (by decide)]; exact j4⟩)
  · rcases a6 w x z with ⟨g1, g2, g3⟩ | ⟨g1, g2⟩
    · refine .inr (.inr ⟨m 131 0 - 1, by omega, by omega, by rw [o4 _ (by omega)]; exact g2, by rw [show m 131 0 - 1 + 1 = m 131 0 by omega, n4, y], ?_⟩)
      have := hgap g1
      rw [o5 _ (by omega), show m 131 0 - 1 + 1 = m 131 0 by omega, n5, hf 123 (by decide)]; omega
    · exact .inr (.inl ⟨by rw [e, hf 122 (by decide), e127]; exact g2, fun q => ((onl w).mp q).elim (fun q => by omega) g1, (onl (w + 1)).mpr (.inl y.symm)⟩)
  · rw [show m' 131 0 - 1 = m 131 0 by omega, n5, h130, y, hf 123 (by decide), a3 123 (by decide)]
end YZE
