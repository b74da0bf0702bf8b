/-! THE WORDS STAND (the reference); ALL IS LAID, in both -/
noncomputable def yRest (m : YS) : Option (YS) :=
  st (yw m 117 0 0) fun m12 =>
  st (yw m12 125 0 0) fun m16 =>
  (NL_Y_lay_29 0 m16).bind <| fun m19 =>
  ck ((m19 125 0) - 1) <|
  (NL_Y_lay_276 ((m19 125 0) - 1) m19).bind <| fun m24 =>
  ix 0 120 <|
  st (yw m24 110 0 0) fun m29 =>
  ix 0 120 <|
  st (yw m29 111 0 0) fun m34 =>
  (NL_Y_lay_355 1 m34).bind <| fun m37 =>
  (NL_Y_lay_458 0 m37).bind <| fun m40 =>
  some m40
/-- all words stand alike -/
def WPL (n : NS) (m : YS) : Prop := ∀ w, 0 ≤ w → w < n 5 0 6 → (n 99 (n 5 0 5) (6 * w + 3) = m 121 w ∧ n 99 (n 5 0 5) (6 * w + 4) = m 122 w) ∧ (-1000000000 ≤ m 121 w ∧ m 121 w ≤ 1000000000) ∧ (-1000000000 ≤ m 122 w ∧ m 122 w ≤ 1000000000)
/-- words of one TEXT don't lie over each other -/
def DSJ (n : NS) (m : YS) : Prop := ∀ w, 0 ≤ w → w + 1 < n 5 0 6 → m 118 w = m 118 (w + 1) → PRr m w
def PRA (N : Int) (o : Int → Int) (n : NS) (m : YS) : Prop := ∀ r, 0 ≤ r → r < N → m 107 (o r) = 6 → ∀ w, m 116 (o r) ≤ w → w + 1 < m 116 (o r) + n 3 (o r) 19 → PRr m w
/-- all is laid, in both -/
def LAYD (N : Int) (o e p : Int → Int) (n : NS) (m : YS) : Prop := (TG N o e p (m 49) (m 50) (m 52) ∧ (∀ r, 0 ≤ r → r < N → MSk n m o e p r) ∧ (∀ r, 0 ≤ r → r < N → LDb n m o e r)) ∧ ((m 125 0 = N ∧ ∀ r, 0 ≤ r → r < N → m 124 r = o r) ∧ n 5 0 6 = m 117 0 ∧ COV n m N o) ∧ (∀ r, 0 ≤ r → r < N → (m 107 (o r) = 1 ∨ m 107 (o r) = 2 ∨ m 107 (o r) = 4) → PLb n m (o r) r) ∧ WPL n m ∧ (WL1 n ∧ S18 n) ∧ (LKs n m N o ∧ n 9 0 13 = m 89 0) ∧ (n 5 0 3 = m 106 0 ∧ 20 ≤ m 106 0 ∧ m 106 0 ≤ 96) ∧ (m 107 (o 0) = 1 ∨ m 107 (o 0) = 2) ∧ DSJ n m
/-- what laying out leaves of the class, behind the list of the tree -/
def FLo (n n' : NS) : Prop := (∀ K, K ∉ [3, 4, 5, 43, 90, 91, 92, 93, 99] → n' K = n K) ∧ (∀ b, b ≠ 608 → n' 4 b = n 4 b) ∧ (n 90 0 0 ≤ n' 90 0 0 ∧ (∀ q, q < n 90 0 0 → n' 92 0 q = n 92 0 q ∧ n' 93 0 q = n 93 0 q) ∧ (∀ q, q < n 90 0 0 → q ≠ n 4 608 1 → n 92 0 q ≠ 0 → n' 99 q = n 99 q)) ∧ (n' 4 608 1 = n 4 608 1 ∨ n 90 0 0 ≤ n' 4 608 1) ∧ (∀ s, s < 5 → n' 5 0 s = n 5 0 s)
section YE
variable {n n' n'' : NS} {m m' m'' : YS} {A B N a b c x y q s E v u w t k j r i L I X h fw kd md hh sd w0 : Int} {o e p g : Int → Int}
theorem y_lay_eq : N_Y_lay m = if m 126 0 = 0 then (N_Y_cascade (yw m 126 0 1)).bind yRest else some m := rfl
theorem y_458 {f1 : Int → Int} (h117 : 0 ≤ m 117 0 ∧ m 117 0 ≤ 24000) (hs : ∀ w, 0 ≤ w → w < m 117 0 → (0 ≤ m 118 w ∧ m 118 w < 120) ∧ (0 ≤ m 109 (m 118 w) ∧ m 109 (m 118 w) < 120) ∧ (f1 w = m 105 (11 * m 109 (m 118 w) + 4) + m 105 (11 * m 109 (m 118 w) + 5) ∧ 0 ≤ f1 w ∧ f1 w ≤ 23) ∧ ((-900000000 ≤ m 110 (m 109 (m 118 w)) ∧ m 110 (m 109 (m 118 w)) ≤ 900000000) ∧ (-900000000 ≤ m 111 (m 109 (m 118 w)) ∧ m 111 (m 109 (m 118 w)) ≤ 900000000)) ∧ (-6000000 ≤ m 121 w ∧ m 121 w ≤ 6000000) ∧ (0 ≤ m 122 w ∧ m 122 w ≤ 1000000)) :
    ∀ (z : Nat) (i : Int) (m1 : YS), (m 117 0 - i).toNat ≤ z → 0 ≤ i → i ≤ m 117 0 → (∀ f, f ≠ 121 → f ≠ 122 → m1 f = m f) → (∀ w, i ≤ w → m1 121 w = m 121 w ∧ m1 122 w = m 122 w) →
    ∃ m', NL_Y_lay_458 i m1 = some m' ∧ (∀ f, f ≠ 121 → f ≠ 122 → m' f = m f) ∧ (∀ w, w < i → m' 121 w = m1 121 w ∧ m' 122 w = m1 122 w) ∧ (∀ w, i ≤ w → w < m 117 0 → m' 121 w = m 121 w + (m 110 (m 109 (m 118 w)) + f1 w) ∧ m' 122 w = m 122 w + (m 111 (m 109 (m 118 w)) + f1 w)) := by
  have stop : ∀ i m1, (∀ f, f ≠ 121 → f ≠ 122 → m1 f = m f) → ¬ i < m 117 0 → NL_Y_lay_458 i m1 = some m1 := fun i m1 hf hi => by
    unfold NL_Y_lay_458
    refine it_inr ?_
    show nb_Y_lay_458 i m1 = _
    unfold nb_Y_lay_458
    rw [hf 117 (by decide) (by decide), if_neg hi]
  intro z
  induction z with
  | zero =>
    intro i m1 hz i0 i1 f f'
    exact ⟨m1, stop i m1 f (by omega), f, fun _ _ => ⟨rfl, rfl⟩, fun w x y => by omega⟩
  | succ z ih =>
    intro i m1 hz i0 i1 f f'
    by_cases hlt : i < m 117 0
    · obtain ⟨s1, s2, s3, s4, s5, s6⟩ := hs i i0 hlt
      obtain ⟨v, hv⟩ : ∃ v, v = m 118 i := ⟨_, rfl⟩
      obtain ⟨q, hq⟩ : ∃ q, q = m 109 v := ⟨_, rfl⟩
      rw [← hv] at s1 s2 s3 s4
      rw [← hq] at s2 s3 s4
      have g := f' i (Int.le_refl _)
      obtain ⟨m2, hm2⟩ : ∃ m2, m2 = yw m1 121 i (m 121 i + (m 110 q + f1 i)) := ⟨_, rfl⟩
      obtain ⟨m3, hm3⟩ : ∃ m3, m3 = yw m2 122 i (m 122 i + (m 111 q + f1 i)) := ⟨_, rfl⟩
      have e2 : ∀ f, f ≠ 121 → m2 f = m1 f := fun f hf => by rw [hm2]; exact yw_nF hf
      have e3 : ∀ f, f ≠ 121 → f ≠ 122 → m3 f = m1 f := fun f hf hf' => by rw [hm3, yw_nF hf']; exact e2 f hf
      have e2' : ∀ f, f ≠ 121 → f ≠ 122 → m2 f = m f := fun f a b => (e2 f a).trans (by rw [‹∀ f, f ≠ 121 → f ≠ 122 → m1 f = m f› f a b])
      have e3' : ∀ f, f ≠ 121 → f ≠ 122 → m3 f = m f := fun f a b => (e3 f a b).trans (by rw [‹∀ f, f ≠ 121 → f ≠ 122 → m1 f = m f› f a b])
      have x1 : m3 121 i = m 121 i + (m 110 q + f1 i) := by rw [hm3, yw_nF (by decide), hm2, yw_eq]
      have x2 : m3 122 i = m 122 i + (m 111 q + f1 i) := by rw [hm3, yw_eq]
      have x3 : ∀ w, w ≠ i → m3 121 w = m1 121 w ∧ m3 122 w = m1 122 w := fun w hw => by
        rw [hm3, yw_nF (by decide), hm2, yw_ni hw, yw_ni hw, yw_nF (by decide)]; exact ⟨rfl, rfl⟩
      have e1 : ∀ f, f ≠ 121 → f ≠ 122 → m1 f = m f := f
      have hst : nb_Y_lay_458 i m1 = some (.inl (i + 1, m3)) := by
        unfold nb_Y_lay_458 st
        dsimp only
        rw [e1 117 (by decide) (by decide), e1 118 (by decide) (by decide), e1 109 (by decide) (by decide), ← hv, ← hq, if_pos hlt, ix_e _ (by omega), ix_e _ s1, ix_e _ (by omega), ix_e _ s2, y_edg s2 (by rw [e1 105 (by decide) (by decide)]; exact s3.1) s3.2]
        simp only [Option.bind_some]
        rw [e1 110 (by decide) (by decide), g.1, ← hm2, ck_f _ (by omega), ck_f _ (by omega), ix_e _ (by omega), ix_e _ (by omega), ix_e _ s2, y_edg s2 (by rw [e2' 105 (by decide) (by decide)]; exact s3.1) s3.2]
        simp only [Option.bind_some]
        rw [e2' 111 (by decide) (by decide), e2 122 (by decide), g.2, ← hm3, ck_f _ (by omega), ck_f _ (by omega), ix_e _ (by omega), ck_e _ (by omega)]
      obtain ⟨m', r1, r2, r3, r4⟩ := ih (i + 1) m3 (by omega) (by omega) (by omega) e3' (fun w hw => by
        rw [(x3 w (by omega)).1, (x3 w (by omega)).2]; exact f' w (by omega))
      refine ⟨m', ?_, r2, fun w hw => ?_, fun w x y => ?_⟩
      · rw [← r1]
        unfold NL_Y_lay_458
        exact it_inl (f := fun s : Int × YS => nb_Y_lay_458 s.1 s.2) (s := (i, m1)) hst
      · rw [(r3 w (by omega)).1, (r3 w (by omega)).2]; exact x3 w (by omega)
      · by_cases hw : w = i
        · rw [hw, (r3 i (by omega)).1, (r3 i (by omega)).2, x1, x2, ← hv, ← hq]; exact ⟨rfl, rfl⟩
        · exact r4 w (by omega) y
    · exact ⟨m1, stop i m1 f hlt, f, fun _ _ => ⟨rfl, rfl⟩, fun w x y => by omega⟩
/-- all is laid in its block: now it is moved -/
theorem P2.s3 (hP : P2 A B N o e p (-1) n m) (h18 : S18 n) (h125 : m 125 0 = N ∧ ∀ r, 0 ≤ r → r < N → m 124 r = o r) (h6 : n 5 0 6 = m 117 0) (hc : COV n m N o) (h0 : m 107 (o 0) = 1 ∨ m 107 (o 0) = 2) : S3 A B N o e p 1 n (yw (yw m 110 0 0) 111 0 0) := by
  obtain ⟨hC, _, _, hB, hW, hS, hZ⟩ := hP
  have hG := hC.1
  have ho := hG.o0
  have hN := hG.N1
  obtain ⟨m1, hm1⟩ : ∃ m1, m1 = yw (yw m 110 0 0) 111 0 0 := ⟨_, rfl⟩
  rw [← hm1]
  have ef : ∀ f, f ≠ 110 → f ≠ 111 → m1 f = m f := fun f x y => by rw [hm1, yw_nF y, yw_nF x]
  have ea : ∀ a, a ≠ 0 → m1 110 a = m 110 a ∧ m1 111 a = m 111 a := fun a ha => by rw [hm1, yw_nF (by decide), yw_ni ha, yw_ni ha, yw_nF (by decide)]; exact ⟨rfl, rfl⟩
  have e0 : m1 110 0 = 0 ∧ m1 111 0 = 0 := by rw [hm1, yw_nF (by decide), yw_eq, yw_eq]; exact ⟨rfl, rfl⟩
  refine ⟨⟨hC.mv (fun _ _ _ => rfl) (fun _ _ _ _ => rfl) (fun _ _ _ => rfl) (fun f hf => ef f (by simp only [List.mem_cons, List.not_mem_nil, or_false, not_or] at hf; exact hf.1) (by simp only [List.mem_cons, List.not_mem_nil, or_false, not_or] at hf; exact hf.2.1)), hB, hW, h18⟩, ⟨by rw [ef 125 (by decide) (by decide), ef 124 (by decide) (by decide)]; exact h125, by rw [ef 117 (by decide) (by decide)]; exact h6, hc.cg rfl (fun _ => rfl) (ef 107 (by decide) (by decide)) (ef 116 (by decide) (by decide))⟩, fun r x y y' z => ?_, fun r x y y' z w p1 p2 => ?_, fun r h x x1 x2 x3 x4 x5 x6 => ?_, fun r x x' y z => hZ.1 r x' y z⟩
  · have hr : r = 0 := by omega
    rw [hr, ho]
    have g := hZ.2
    rw [ho] at g
    unfold PLb
    rw [e0.1, e0.2]
    omega
  · have hr : r = 0 := by omega
    rw [hr, ef 107 (by decide) (by decide)] at z
    omega
  · rw [ef 109 (by decide) (by decide)] at x5
    rw [ef 107 (by decide) (by decide)] at x6 ⊢
    have hne : o r ≠ 0 := fun w => by
      have := hG.inj (j := r) (k := 0) (by omega) x4 (Int.le_refl _) (by omega) (by rw [ho]; exact w)
      omega
    have g := hS r h (by omega) x2 x3 x4 x5 x6
    refine ⟨fun z => ?_, fun z w p1 p2 => ?_⟩
    · have g1 := g.1 z
      unfold PSb at *
      rw [(ea _ hne).1, (ea _ hne).2]; exact g1
    · rw [ef 116 (by decide) (by decide)] at p1 p2
      have g1 := g.2.1 z w p1 p2
      unfold DNw at *
      rw [ef 121 (by decide) (by decide), ef 122 (by decide) (by decide)]; exact g1
theorem P2.pra (hP : P2 A B N o e p (-1) n m) (h0 : m 107 (o 0) = 1 ∨ m 107 (o 0) = 2) : PRA N o n m := fun r x y z w p1 p2 => by
  obtain ⟨hC, _, _, hB, hW, hS, hZ⟩ := hP
  have hr1 : 1 ≤ r := by
    by_cases u : r = 0
    · rw [u] at z; omega
    · omega
  obtain ⟨h, b1, b2, b3, b4⟩ := hC.hol hr1 y (by omega)
  exact (hS r h (by omega) b1.2.1 b1.2.2 y b2.1 (by omega)).2.2 z w p1 p2
theorem PRA.cg (h : PRA N o n m) (h19 : ∀ a, n' 3 a 19 = n 3 a 19) (hm : ∀ f, f ∈ [49, 105, 107, 116, 118, 121, 122, 123] → m' f = m f) : PRA N o n' m' := fun r x y z w p1 p2 => by
  rw [hm 107 (by decide)] at z
  rw [hm 116 (by decide)] at p1 p2
  rw [h19] at p2
  exact (PRr.cg (fun f hf => hm f (by simp only [List.mem_cons, List.not_mem_nil, or_false] at hf ⊢; omega))).mpr (h r x y z w p1 p2)
theorem F1n.fl (hF : F1n n n') (h5 : n 92 0 (n 5 0 5) = 0) : FLo n n' := by
  obtain ⟨a1, a2, a3, ⟨a4, a5, a6⟩, a7, a8⟩ := hF
  refine ⟨fun K hK => a1 K (by simp only [List.mem_cons, List.not_mem_nil, or_false, not_or] at hK ⊢; omega), a2, ⟨a4, a5, fun q x y z => a6 q x y (fun w => z (by rw [w]; exact h5))⟩, a7, fun s hs => a3 s (by omega) (by omega)⟩
theorem F2n.fl (hF : F2n n n') (h5 : n 92 0 (n 5 0 5) = 0) (h9 : n 92 0 (n 5 0 9) = 0) (h4 : n' 4 = n 4) : FLo n n' := by
  obtain ⟨a1, ⟨a2, a3⟩, a4, a5, a6, a7⟩ := hF
  refine ⟨fun K hK => a1 K (by simp only [List.mem_cons, List.not_mem_nil, or_false, not_or] at hK ⊢; omega), fun b _ => by rw [h4], ⟨a4, a5, fun q x y z => a6 q x (fun w => z (by rw [w]; exact h5)) (fun w => z (by rw [w]; exact h9))⟩, .inl (by rw [h4]), fun s hs => a2 s (by omega)⟩
theorem F3n.fl (hF : F3n n n') (h5 : n 92 0 (n 5 0 5) = 0) : FLo n n' := by
  obtain ⟨a1, a2, a3, a4⟩ := hF
  refine ⟨fun K hK => a1 K (by intro w; rw [w] at hK; exact hK (by decide)) (by intro w; rw [w] at hK; exact hK (by decide)), fun b _ => by rw [a1 4 (by decide) (by decide)], ⟨by rw [a1 90 (by decide) (by decide)]; exact Int.le_refl _, fun q _ => by rw [a1 92 (by decide) (by decide), a1 93 (by decide) (by decide)]; exact ⟨rfl, rfl⟩, fun q x y z => a3 q (fun w => z (by rw [w]; exact h5))⟩, .inl (by rw [a1 4 (by decide) (by decide)]), fun s _ => by rw [a1 5 (by decide) (by decide)]⟩
theorem FLo.trans (h1 : FLo n n') (h2 : FLo n' n'') (h608 : n 4 608 1 < n 90 0 0) : FLo n n'' := by
  obtain ⟨a1, a2, ⟨a3, a4, a5⟩, a6, a7⟩ := h1
  obtain ⟨b1, b2, ⟨b3, b4, b5⟩, b6, b7⟩ := h2
  refine ⟨fun K x => (b1 K x).trans (a1 K x), fun b x => (b2 b x).trans (a2 b x), ⟨by omega, fun q x => ?_, fun q x y z => ?_⟩, by omega, fun s x => (b7 s x).trans (a7 s x)⟩
  · have g1 := a4 q x
    have g2 := b4 q (by omega)
    exact ⟨g2.1.trans g1.1, g2.2.trans g1.2⟩
  · rw [b5 q (by omega) (by omega) (by rw [(a4 q x).1]; exact z), a5 q x y z]
end YE
