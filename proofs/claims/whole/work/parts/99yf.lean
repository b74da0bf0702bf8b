/-! LAYING OUT LEAVES WHAT ACTS HOLD -/
section YF
variable {n n' n1 n'' : NS} {m m' m'' : YS} {A B N δ G k x : Int} {o e p : Int → Int} {As Bs W : Int → Prop} {κ : Int → Int}
theorem FQ.ly (h : FLo n n') (hB : BI A B n) (hA : AdS n As) (hb : BsI n As Bs) : FQ As Bs W n n' := by
  obtain ⟨a1, a2, ⟨a3, a4, a5⟩, a6, a7⟩ := h
  have row := (hB.1 608 (by decide) (by decide)).2.2.1
  refine ⟨a3, a4, fun a ha => ?_, fun x hx => ?_, fun a x y z s _ => ?_, fun b b0 b1 => ?_⟩
  · obtain ⟨⟨c1, c2, c3, c4, c5⟩, d1, d2⟩ := hA a ha
    have e1 : n' 99 a = n 99 a := a5 a c1.2 (fun z => by
      rw [← z, c2] at row; exact absurd row (by decide)) (by rw [c2]; decide)
    have e2 : n' 99 (n 99 a 0) = n 99 (n 99 a 0) := a5 _ c3.2 (fun z => d1 608 (by decide) (by decide) z.symm) (by rw [c4]; decide)
    exact ⟨by rw [e1], fun _ => ⟨e1, e2⟩⟩
  · obtain ⟨c1, c2, c3, c4⟩ := hb x hx
    exact a5 x c1.2 (fun z => c3 608 (by decide) (by decide) z.symm) (by rw [c2]; decide)
  · rw [a5 a y (fun w => by rw [← w, z] at row; exact absurd row (by decide)) (by rw [z]; decide)]
  · by_cases z : b = 608
    · rw [z]; exact a6
    · rw [a2 b z]; exact .inl rfl
theorem FQ7.ly (h : FLo n n') (hB : BI A B n) : FQ7 n n' := fun a _ y z => by
  have row := (hB.1 608 (by decide) (by decide)).2.2.1
  rw [h.2.2.1.2.2 a y (fun w => by rw [← w, z] at row; exact absurd row (by decide)) (by rw [z]; decide)]
theorem FS.ly (h : FLo n n') (hB : BI A B n) : FS (fun x => x = 608) n n' := fun b x y z => by
  have g := hB.1 b x y
  refine ⟨h.2.1 b z, h.2.2.1.2.2 _ g.2.1.2 (fun w => z (hB.2.1 b 608 x y (by decide) (by decide) w)) (by rw [g.2.2.1]; decide)⟩
theorem JA.ly (h : JA As Bs A B δ G n m) (hB' : BI A B n') (hF : FLo n n') (hm : ∀ f, (6 ≤ f ∧ f ≤ 72) ∨ (148 ≤ f ∧ f ≤ 151) ∨ (155 ≤ f ∧ f ≤ 157) ∨ (166 ≤ f ∧ f ≤ 178) → m' f = m f) : JA As Bs A B δ G n' m' := by
  obtain ⟨κ, N, o, e, p, ⟨hJ, hH, hP⟩, h2, h3, ⟨h4, h4'⟩, h5, h6, h7, h8⟩ := h
  have hB := hJ.1
  have fq : FQ As Bs (fun _ => False) n n' := FQ.ly hF hB hJ.2.1.1 hJ.2.1.2.1
  have fs := FS.ly hF hB
  have r : ∀ r, RwE m m' r := fun r => RwE.of (hm 6 (by omega)) (hm 7 (by omega)) (hm 8 (by omega))
  have hK : ∀ K, K ∉ [3, 4, 5, 43, 90, 91, 92, 93, 99] → n' K = n K := hF.1
  have e0 : n' 0 = n 0 := hK 0 (by decide)
  have e6 : n' 6 = n 6 := hK 6 (by decide)
  have ebt : ∀ b, 0 ≤ b → b ≤ 631 → b ≠ 608 → bt n' b = bt n b := fun b x y z => fs.bt ⟨x, y⟩ z
  have liv : LIV m m' := LIV.of (hm 45 (by omega)) (hm 46 (by omega)) (hm 55 (by omega))
  have e69 : m' 69 = m 69 := hm 69 (by omega)
  have c69 : m 69 0 ≤ m' 69 0 := by rw [e69]; exact Int.le_refl _
  have f7 : FQ7 n n' := FQ7.ly hF hB
  refine ⟨κ, N, o, e, p, ⟨hJ.cg hB' fq f7 (fun _ y => y.elim) (fun K c => hK K (by simp only [List.mem_cons, List.not_mem_nil, or_false]; omega)) (fun s _ => by rw [e6]) (ebt 607 (by decide) (by decide) (by decide)) (fun f a b => hm f (by omega)) (fun x _ => r x), hH.cg fq (fun _ y => y.elim) (by rw [e6]; exact ⟨rfl, rfl⟩) (hK 27 (by decide)) ⟨hm 148 (by omega), hm 149 (by omega)⟩ (fun x _ _ => r x), hP.fq fq hJ.2.1.2.2.1.2.1 (fun y => y.elim) (r 1)⟩, h2.cg (fun K c => hK K (by simp only [List.mem_cons, List.not_mem_nil, or_false]; omega)) (fun b x y => ebt b (by omega) (by omega) (by omega)) (fun f a b => hm f (by omega)), fun k a b => by rw [hK 21 (by decide)]; exact h3 k a b, ⟨h4.cg (by rw [e0]) (hK 44 (by decide)) (hK 45 (by decide)) (fun b x y => ebt b (by omega) (by omega) (by omega)) (fun f a b => hm f (by omega)), h4'.liv h4 (fun f hf => hm f (by omega)) liv c69⟩, h5.cg (hK 26 (by decide)) (by rw [e6]) (fun f a b => hm f (by omega)), ?_, h7.liv (by rw [e0]) (hm 150 (by omega)) (hm 151 (by omega)) liv c69, ?_⟩
  · unfold JCt at *
    rw [e0, hm 155 (by omega), hm 156 (by omega), hm 157 (by omega)]; exact h6
  · unfold gB at *
    rw [hK 10 (by decide), hm 35 (by omega), e69, hm 155 (by omega), hm 156 (by omega), hm 157 (by omega), hm 167 (by omega)]
    exact h8
theorem CI.ly (h : CI As Bs A B G n m) (hB' : BI A B n') (hF : FLo n n') (hm : ∀ f, (6 ≤ f ∧ f ≤ 72) ∨ (148 ≤ f ∧ f ≤ 151) ∨ (155 ≤ f ∧ f ≤ 157) ∨ (166 ≤ f ∧ f ≤ 178) → m' f = m f) : CI As Bs A B G n' m' :=
  ⟨h.1.ly hB' hF hm, by rw [hF.1 0 (by decide), hF.1 6 (by decide)]; exact h.2.1, h.2.2.fp h.1.born (FP.of (fun f a b => hm f (by omega)))⟩
end YF
