/-! WHAT IS LAID STAYS LAID: whom the tree's order is, what the layout hangs on -/
section YM
variable {n n' n'' : NS} {m m' m0 : YS} {A B N N' a b c x y q s k j r w : Int} {o e p o' e' p' : Int → Int}
/-- a tree has one order -/
theorem TY.uniq (h : TY m N o e p) (h' : TY m N' o' e' p') : N = N' ∧ ∀ k, 0 ≤ k → k < N → o' k = o k := by
  have go : ∀ {N N' : Int} {o e p o' e' p' : Int → Int}, TY m N o e p → TY m N' o' e' p' → ∀ (z : Nat) (k : Int), k = z → k < N → k < N' ∧ o' k = o k := by
    intro N N' o e p o' e' p' h h' z
    have hN := h'.N1
    induction z with
    | zero =>
      intro k hk hkN
      have : k = 0 := by omega
      rw [this, h.o0, h'.o0]; exact ⟨by omega, rfl⟩
    | succ z ih =>
      intro k hk hkN
      obtain ⟨i1, i2⟩ := ih (k - 1) (by omega) (by omega)
      have g := y_after h (t := 0) (k := k - 1) (Int.le_refl _) (by omega) (by rw [h.e0]; omega) (by omega)
      have g' := y_after h' (t := 0) (k := k - 1) (Int.le_refl _) (by omega) (by rw [h'.e0]; omega) (by omega)
      rw [h.o0, h.e0, if_pos (by omega), show k - 1 + 1 = k by omega] at g
      rw [h'.o0, h'.e0, i2, g, show k - 1 + 1 = k by omega] at g'
      have g2 := Option.some.inj g'
      have hb := h.oB (k := k) (by omega) hkN
      by_cases z1 : k < N'
      · rw [if_pos z1] at g2; exact ⟨z1, g2.symm⟩
      · rw [if_neg z1] at g2; omega
  have hN := h.N1
  have hN' := h'.N1
  have l1 := (go h h' (N - 1).toNat (N - 1) (by omega) (by omega)).1
  have l2 := (go h' h (N' - 1).toNat (N' - 1) (by omega) (by omega)).1
  exact ⟨by omega, fun k k0 k1 => (go h h' k.toNat k (by omega) k1).2⟩
/-- fields that the layout of the reference says -/
theorem LAYD.cm (h : LAYD N o e p n m) (hm : ∀ f, f = 46 ∨ f = 49 ∨ f = 50 ∨ f = 52 ∨ f = 61 ∨ f = 62 ∨ f = 89 ∨ (105 ≤ f ∧ f ≤ 125) → m' f = m f) : LAYD N o e p n m' := by
  obtain ⟨⟨a1, a2, a3⟩, ⟨b1, b2, b3⟩, c1, c2, c3, c4, c5, c6⟩ := h
  refine ⟨⟨by rw [hm 49 (by omega), hm 50 (by omega), hm 52 (by omega)]; exact a1, fun r x y => (a2 r x y).cg (fun _ _ _ _ _ _ _ _ _ => rfl) (fun a _ => ⟨rfl, by rw [hm 113 (by omega)]⟩) rfl rfl rfl (fun _ _ _ => rfl) (fun f hf => hm f (by simp only [List.mem_cons, List.not_mem_nil, or_false] at hf; omega)), fun r x y => ?_⟩, ⟨by rw [hm 125 (by omega), hm 124 (by omega)]; exact b1, by rw [hm 117 (by omega)]; exact b2, b3.cg rfl (fun _ => rfl) (hm 107 (by omega)) (hm 116 (by omega))⟩, fun r x y z => ?_, fun w x y => ?_, c3, ⟨c4.1.cg rfl (hm 105 (by omega)) (hm 46 (by omega)), by rw [hm 89 (by omega)]; exact c4.2⟩, by rw [hm 106 (by omega)]; exact c5, by rw [hm 107 (by omega)]; exact c6.1, fun w x y z => (PRr.cg (fun f hf => hm f (by simp only [List.mem_cons, List.not_mem_nil, or_false] at hf; omega))).mpr (c6.2 w x y (by rw [hm 118 (by omega)] at z; exact z))⟩
  · have := a3 r x y
    unfold LDb at *
    rw [hm 107 (by omega), hm 113 (by omega), hm 114 (by omega), hm 115 (by omega)]; exact this
  · rw [hm 107 (by omega)] at z
    have := c1 r x y z
    unfold PLb at *
    rw [hm 110 (by omega), hm 111 (by omega)]; exact this
  · rw [hm 121 (by omega), hm 122 (by omega)]; exact c2 w x y
/-- and the class -/
theorem MSk.c4 (h : MSk n m o e p r) (hK : ∀ K, K ≠ 4 → n' K = n K) (h4 : m 107 (o r) = 6 → n' 4 (5 * o r) 2 = n 4 (5 * o r) 2) : MSk n' m o e p r := by
  have e3 := hK 3 (by decide)
  have e5 := hK 5 (by decide)
  have e99 := hK 99 (by decide)
  by_cases z6 : m 107 (o r) = 6
  · have hx := h.tx z6
    obtain ⟨x1, x2, x3, x4, x5, x6⟩ := hx
    have hx' : TXw n' m (m 109 (o r)) (o r) := by
      refine ⟨x1, by rw [h4 z6]; exact x2, by rw [e3, e5]; exact x3, by rw [e3]; exact x4, fun i p1 p2 => ?_, by rw [e3]; exact x6⟩
      rw [e3] at p2
      have := x5 i p1 p2
      unfold WDi ITw at *
      rw [e3, e5, e99]; exact this
    rcases h with ⟨z, _⟩ | ⟨g1, g | g | g | g | g⟩
    · omega
    · have := g.1; omega
    · have := g.1; omega
    · omega
    · omega
    · refine .inr ⟨?_, .inr (.inr (.inr (.inr ⟨g.1, by rw [e3]; exact g.2.1, g.2.2.1, g.2.2.2.1.cg (fun _ _ => by rw [e3]) rfl, hx'⟩)))⟩
      rcases g1 with g1 | ⟨hh, b1, b2, b3, b4⟩
      · exact .inl ⟨g1.1, by rw [e3]; exact g1.2⟩
      · exact .inr ⟨hh, b1, by rw [e3]; exact b2, b3, b4⟩
  · rcases h with ⟨z, z'⟩ | ⟨g1, g⟩
    · exact .inl ⟨z, by rw [e3]; exact z'⟩
    · refine .inr ⟨?_, ?_⟩
      · rcases g1 with g1 | ⟨hh, b1, b2, b3, b4⟩
        · exact .inl ⟨g1.1, by rw [e3]; exact g1.2⟩
        · exact .inr ⟨hh, b1, by rw [e3]; exact b2, b3, b4⟩
      · rcases g with g | g | g | g | g
        · left
          unfold MSb SID BXf at *
          rw [e3]; exact g
        · right; left
          unfold MSp BXf at *
          rw [e3]; exact g
        · right; right; left
          rw [e3]; exact g
        · right; right; right; left
          unfold BXf at *
          rw [e3]; exact g
        · exact absurd g.1 z6
theorem LAYD.cn (h : LAYD N o e p n m) (h3 : n' 3 = n 3) (h5 : n' 5 = n 5) (h9 : n' 9 = n 9) (h41 : n' 41 = n 41) (hr : n' 99 (n 5 0 5) = n 99 (n 5 0 5)) (h92 : n' 92 0 (n 5 0 5) = n 92 0 (n 5 0 5) ∧ n' 92 0 (n 5 0 9) = n 92 0 (n 5 0 9)) (h93 : n' 93 0 (n 5 0 5) = n 93 0 (n 5 0 5) ∧ n' 93 0 (n 5 0 9) = n 93 0 (n 5 0 9)) (h4 : ∀ r, 0 ≤ r → r < N → m 107 (o r) = 6 → n' 4 (5 * o r) 2 = n 4 (5 * o r) 2) : LAYD N o e p n' m := by
  obtain ⟨⟨a1, a2, a3⟩, ⟨b1, b2, b3⟩, c1, c2, c3, c4, c5, c6⟩ := h
  obtain ⟨nI, hnI⟩ : ∃ nI : NS, nI = fun K => if K = 4 then n 4 else n' K := ⟨_, rfl⟩
  have i4 : nI 4 = n 4 := by rw [hnI]; rfl
  have iK : ∀ K, K ≠ 4 → nI K = n' K := fun K hK => by rw [hnI]; exact if_neg hK
  refine ⟨⟨a1, fun r x y => ?_, fun r x y => ?_⟩, ⟨b1, by rw [h5]; exact b2, b3.cg (by rw [h5]) (fun a => by rw [h3]) rfl rfl⟩, fun r x y z => ?_, fun w x y => ?_, ⟨?_, fun a x y => by rw [h3]; exact c3.2 a x y⟩, ⟨c4.1.cg h41 rfl rfl, by rw [h9]; exact c4.2⟩, by rw [h5]; exact c5, c6.1, fun w x y z => c6.2 w x (by rw [h5] at y; exact y) z⟩
  · have g : MSk nI m o e p r := (a2 r x y).cg (fun a s _ _ _ _ _ _ _ => by rw [iK 3 (by decide), h3]) (fun a _ => ⟨by rw [iK 3 (by decide), h3], rfl⟩) i4 (by rw [iK 5 (by decide), h5]) (by rw [iK 5 (by decide), h5]) (fun j _ _ => by rw [iK 99 (by decide), hr]) (fun _ _ => rfl)
    exact g.c4 (fun K hK => (iK K hK).symm) (fun z => by rw [i4]; exact h4 r x y z)
  · have := a3 r x y
    unfold LDb at *
    rw [h3]; exact this
  · have := c1 r x y z
    unfold PLb at *
    rw [h3]; exact this
  · rw [h5] at y ⊢
    rw [hr]; exact c2 w x y
  · have := c3.1
    unfold WL1 WLc at *
    rw [h5, h92.1, h92.2, h93.1, h93.2]; exact this
end YM
