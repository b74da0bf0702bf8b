/-! A NEW ELEMENT, in both -/
theorem newC_FRR {n : NS} {f k t c : Int} (hf : 0 ≤ f ∧ f < 120) : FRR n (newC n f k t c) := by
  have cK : ∀ K, K ≠ 7 → K ≠ 4 → K ≠ 10 → newC n f k t c K = n K := fun K a b c => newC_K ⟨a, b, c⟩
  have c4 : ∀ b, newC n f k t c 4 b 1 = n 4 b 1 := fun b => by rw [newC_4, if_neg (by omega)]
  have c106 : newC n f k t c 10 0 6 = n 10 0 6 + 1 := by rw [newC_10, if_neg (by decide), if_pos rfl]
  refine ⟨fun K c => ?_, fun b hb => ?_, by rw [cK 90 (by decide) (by decide) (by decide)]; exact Int.le_refl _, fun q _ => by rw [cK 92 (by decide) (by decide) (by decide), cK 93 (by decide) (by decide) (by decide)]; exact ⟨rfl, rfl⟩, fun q _ _ => by rw [cK 99 (by decide) (by decide) (by decide)], fun b _ _ => .inl (c4 b), by rw [c106]; omega⟩
  · simp only [List.mem_cons, List.not_mem_nil, or_false, not_or] at c
    exact cK K (by omega) (by omega) (by omega)
  · funext s; rw [newC_4, if_neg (by omega)]
section I2
variable {Z : NS × YS} {n n' : NS} {m m' : YS} {A B N oc t pl f k : Int} {o e p qs : Int → Int} {w : List Int}
theorem JSrc.frr (h : JSrc n m) (hF : FRR n n') (h8 : n' 8 0 8 = n 8 0 8 ∧ n' 8 0 9 = n 8 0 9) (h75 : m' 75 = m 75) (h76 : m' 76 = m 76) : JSrc n' m' := by
  obtain ⟨⟨b1, b2, b3, b4, b5⟩, a2, a3, a4⟩ := h
  have h1 := hF.2.2.2.1 _ a2
  have h2 := hF.2.2.2.2.1 _ a2 (fun b x y z => a3 b x y z.symm)
  unfold JSrc RDR
  rw [h75, h76, h8.1, h8.2]
  refine ⟨⟨⟨h1.1.trans b1.1, by rw [h1.2]; exact b1.2.1, fun j x y => by rw [h2]; exact b1.2.2 j x y⟩, b2, b3, b4, b5⟩, by have := hF.2.2.1; omega, fun b x y z => ?_, a4⟩
  have := hF.2.2.2.2.2.1 b x y
  have := a3 b x y
  omega
/-- one more is begun -/
theorem JO.push (h : JO n m (N + 1) o e p qs oc) (hN : e N = N + 1) (hp : p N = qs (oc - 1)) (h0 : 0 ≤ N) (h20 : oc ≤ 20) (hf : o N = f) (h46 : opN (m' 46 f)) (h54 : m' 54 f = oc) (h8 : n' 8 0 6 = oc + 1) (h30 : n' 30 0 oc = f ∧ ∀ j, j ≠ oc → n' 30 0 j = n 30 0 j) (h31 : n' 31 0 oc = m' 67 f ∧ ∀ j, j ≠ oc → n' 31 0 j = n 31 0 j) (h74 : m' 74 0 = oc + 1) (h73 : m' 73 oc = f ∧ ∀ j, j ≠ oc → m' 73 j = m 73 j) (hy : ∀ g, g = 46 ∨ g = 54 ∨ g = 67 → m' g = m g) : JO n' m' (N + 1) o e p (fun j => if j = oc then N else qs j) (oc + 1) := by
  obtain ⟨a1, a2, a3, a4⟩ := h
  refine ⟨⟨h8, h74, by omega, by omega⟩, by show (if (0 : Int) = oc then N else qs 0) = 0; rw [if_neg (by omega)]; exact a2, fun j j0 j1 => ?_, fun j j0 j1 => ?_⟩
  · show ((0 ≤ (if j = oc then N else qs j) ∧ (if j = oc then N else qs j) < N + 1) ∧ e (if j = oc then N else qs j) = N + 1 ∧ n' 30 0 j = o (if j = oc then N else qs j) ∧ m' 73 j = o (if j = oc then N else qs j) ∧ opN (m' 46 (o (if j = oc then N else qs j))) ∧ m' 54 (o (if j = oc then N else qs j)) = j)
    by_cases y : j = oc
    · subst y
      rw [if_pos rfl, hf]
      exact ⟨by omega, hN, h30.1, h73.1, h46, h54⟩
    · rw [if_neg y, h30.2 j y, h73.2 j y, hy 46 (by omega), hy 54 (by omega)]
      exact a3 j j0 (by omega)
  · show p (if j = oc then N else qs j) = (if j - 1 = oc then N else qs (j - 1)) ∧ n' 31 0 j = m' 67 (o (if j = oc then N else qs j))
    rw [if_neg (show ¬ j - 1 = oc by omega)]
    by_cases y : j = oc
    · subst y
      rw [if_pos rfl, hf]
      exact ⟨hp, h31.1⟩
    · rw [if_neg y, h31.2 j y, hy 67 (by omega)]
      exact a4 j j0 (by omega)
theorem bz_un {P : Prop} {x y : Int} (h : bz P x) (h' : bz P y) : x = y := by
  rcases h with ⟨a, b⟩ | ⟨a, b⟩ <;> rcases h' with ⟨c, d⟩ | ⟨c, d⟩
  · omega
  · exact absurd b d
  · exact absurd d b
  · omega
end I2
