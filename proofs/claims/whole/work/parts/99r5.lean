/-! THE NET with more ADDRESSES and bodies -/
section R5
variable {n n' n0 : NS} {m m' : YS} {A B A' B' a i rA rT w b δ G : Int} {As Bs As' Bs' : Int → Prop} {κ : Int → Int}
theorem BI.mo (h : BI A B n) (hA : A ≤ A' ∧ A' ≤ 8000000) (hB : B ≤ B') : BI A' B' n := by
  obtain ⟨b1, b2, b3, b4, b5, b6⟩ := h
  exact ⟨b1, b2, ⟨b3.1, by omega, by omega⟩, b4, b5, hA.2⟩
theorem JNt.mo (h : JNt κ As Bs A B n m) (hA : A ≤ A' ∧ A' ≤ 8000000) (hB : B ≤ B') : JNt κ As Bs A' B' n m := ⟨⟨h.1.1.mo hA hB, h.1.2⟩, h.2⟩
theorem JA.mo (h : JA As Bs A B δ G n m) (hA : A ≤ A' ∧ A' ≤ 8000000) (hB : B ≤ B') : JA As Bs A' B' δ G n m := by
  obtain ⟨κ, N, o, e, p, h1, h2⟩ := h
  exact ⟨κ, N, o, e, p, h1.mo hA hB, h2⟩
/-- new cells, and what server changes at first -/
theorem JNt.f0 (h : JNt κ As Bs A B n m) (hB' : BI A B n') (hF : FNw n n') (hy : FYs m m') : JNt κ As Bs A B n' m' := by
  obtain ⟨hJ, hH, hP⟩ := h
  have hB := hJ.1
  have hA := hJ.2.1.1
  have hb := hJ.2.1.2.1
  have hS : ∀ x : Int, False → 0 ≤ x ∧ x ≤ 631 := fun _ z => z.elim
  have fq : FQ As Bs (fun _ => False) n n' := FQ.fb hF hS hB hA hb
  have eK : ∀ K, K ≠ 4 → K ≠ 90 → K ≠ 91 → K ≠ 92 → K ≠ 93 → K ≠ 99 → n' K = n K := hF.1
  have ef : ∀ f, 16 ≤ f → f ≤ 37 → m' f = m f := fun f a b => hy.1 f (by simp only [List.mem_cons, List.not_mem_nil, or_false, not_or]; omega)
  refine ⟨hJ.cg hB' fq (FQ7.fb hF hS hB) (fun _ h => h.elim) (fun K hK => eK K (by omega) (by omega) (by omega) (by omega) (by omega) (by omega)) (fun s _ => by rw [eK 6 (by decide) (by decide) (by decide) (by decide) (by decide) (by decide)]) (hF.bts hB (by omega) (fun z => z) hS).2.2 ef (fun r hr => hy.2 r (by omega) (by omega) (by omega)), ?_, hP.fq fq hJ.2.1.2.2.1.2.1 (fun h => h.elim) (hy.2 1 (by decide) (by decide) (by decide))⟩
  exact hH.cg fq (fun _ h => h.elim) (by rw [eK 6 (by decide) (by decide) (by decide) (by decide) (by decide) (by decide)]; exact ⟨rfl, rfl⟩) (eK 27 (by decide) (by decide) (by decide) (by decide) (by decide) (by decide)) ⟨hy.1 148 (by decide), hy.1 149 (by decide)⟩ (fun x _ _ => hy.2 x (by omega) (by omega) (by omega))
theorem AnS.up (h : AnS As Bs n m a i rA rT) (hA : ∀ x, As x → As' x) (hB : ∀ x, Bs x → Bs' x) : AnS As' Bs' n m a i rA rT := by
  obtain ⟨c1, c2, c3, c4, c5, c6⟩ := h
  refine ⟨c1, ⟨hA _ c2.1, c2.2⟩, ?_, c4, hB _ c5, c6⟩
  rcases c3 with y | ⟨y1, y2, y3⟩
  · exact .inl y
  · exact .inr ⟨y1, hA _ y2, y3⟩
theorem JNt.up (h : JNt κ As Bs A B n m) (hA : ∀ x, As x → As' x) (hB : ∀ x, Bs x → Bs' x) (dA : AdS n As') (dB : BsI n As' Bs') : JNt κ As' Bs' A B n m := by
  obtain ⟨⟨h1, ⟨c1, c2, c3, c4, c5, c6, c7⟩, h3⟩, h4, h5⟩ := h
  refine ⟨⟨h1, ⟨dA, dB, ⟨hA _ c3.1, hA _ c3.2.1, hA _ c3.2.2.1, hA _ c3.2.2.2⟩, ⟨c4.1, fun i a b => ⟨(c4.2 i a b).1.up hA hB, (c4.2 i a b).2⟩⟩, ⟨c5.1, fun j a b => ?_, c5.2.2⟩, ?_, c7⟩, h3⟩, ⟨h4.1, fun i a b => ⟨hA _ (h4.2.1 i a b).1, (h4.2.1 i a b).2⟩, h4.2.2⟩, h5⟩
  · obtain ⟨d1, d2, d3⟩ := c5.2.1 j a b
    exact ⟨d1, d2.up hA hB, d3⟩
  · obtain ⟨e1, e2, e3, e4, e5, e6, e7⟩ := c6
    exact ⟨e1, e2, e3, e4, e5, hB _ e6, e7⟩
/-- one ADDRESS more -/
theorem AdS.add (h : AdS n As) (ha : AC n a (n 99 a 0)) (hb : ∀ b, 0 ≤ b → b ≤ 631 → n 4 b 1 ≠ n 99 a 0) (hd : ∀ a', As a' → n 99 a' 0 ≠ n 99 a 0) : AdS n (fun x => As x ∨ x = a) := by
  intro x hx
  rcases hx with hx | hx
  · obtain ⟨c1, c2, c3⟩ := h x hx
    refine ⟨c1, c2, fun a' ha' e => ?_⟩
    rcases ha' with ha' | ha'
    · exact c3 a' ha' e
    · rw [ha'] at e; exact absurd e (hd x hx)
  · rw [hx]
    refine ⟨ha, hb, fun a' ha' e => ?_⟩
    rcases ha' with ha' | ha'
    · exact absurd e.symm (hd a' ha')
    · exact ha'.symm
theorem BsI.addA (h : BsI n As Bs) (hx : ∀ x, Bs x → n 99 a 0 ≠ x) : BsI n (fun x => As x ∨ x = a) Bs := by
  intro x hb
  obtain ⟨c1, c2, c3, c4⟩ := h x hb
  refine ⟨c1, c2, c3, fun a' ha' => ?_⟩
  rcases ha' with ha' | ha'
  · exact c4 a' ha'
  · rw [ha']; exact hx x hb
theorem BsI.addB (h : BsI n As Bs) (hb : (0 ≤ b ∧ b < n 90 0 0) ∧ n 92 0 b = 1 ∧ (∀ r, 0 ≤ r → r ≤ 631 → n 4 r 1 ≠ b) ∧ ∀ a, As a → n 99 a 0 ≠ b) : BsI n As (fun x => Bs x ∨ x = b) := by
  intro x hx
  rcases hx with hx | hx
  · exact h x hx
  · rw [hx]; exact hb
theorem JA.srv (h : JA As Bs A B δ G n m) (hN : ∀ κ, JNt κ As Bs A B n m → ∃ κ', JNt κ' As' Bs' A' B' n' m') (hK : ∀ K, K ∉ [4, 6, 23, 24, 25, 27, 90, 91, 92, 93, 99] → n' K = n K) (e8 : n' 6 0 8 = n 6 0 8) (hS : FS (fun x => x = 607) n n') (hy : ∀ f, (45 ≤ f ∧ f ≤ 72) ∨ (150 ≤ f ∧ f ≠ 164) → m' f = m f) (h35 : m' 35 0 ≤ m 35 0 + 6) : JA As' Bs' A' B' δ (G + 6) n' m' := by
  obtain ⟨κ, N, o, e, p, h1, h2, h3, ⟨h4, h4'⟩, h5, h6, h7, h8⟩ := h
  obtain ⟨κ', h'⟩ := hN κ h1
  have e0 : n' 0 = n 0 := hK 0 (by decide)
  have liv : LIV m m' := LIV.of (hy 45 (by omega)) (hy 46 (by omega)) (hy 55 (by omega))
  have e69 : m' 69 = m 69 := hy 69 (by omega)
  have c69 : m 69 0 ≤ m' 69 0 := by rw [e69]; exact Int.le_refl _
  refine ⟨κ', N, o, e, p, h', h2.cg (fun K c => hK K (by simp only [List.mem_cons, List.not_mem_nil, or_false, not_or]; omega)) (fun b x y => hS.bt (by omega) (by omega)) (fun f a b => hy f (by omega)), fun k a b => by rw [hK 21 (by decide)]; exact h3 k a b, ⟨h4.cg (by rw [e0]) (hK 44 (by decide)) (hK 45 (by decide)) (fun b x y => hS.bt (by omega) (by omega)) (fun f a b => hy f (by omega)), h4'.liv h4 (fun f hf => hy f (by omega)) liv c69⟩, h5.cg (hK 26 (by decide)) e8 (fun f a b => hy f (by omega)), ?_, h7.liv (by rw [e0]) (hy 150 (by omega)) (hy 151 (by omega)) liv c69, ?_⟩
  · unfold JCt at *
    rw [e0, hy 155 (by omega), hy 156 (by omega), hy 157 (by omega)]; exact h6
  · unfold gB at *
    rw [hK 10 (by decide), e69, hy 155 (by omega), hy 156 (by omega), hy 157 (by omega), hy 167 (by omega)]
    omega
end R5
