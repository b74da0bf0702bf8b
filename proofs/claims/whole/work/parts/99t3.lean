/-! STYLE SHEETS: a declaration, in both -/
/-- where a value ends, and whether it is forced -/
def FIN (g : Int → Int) (b to e f : Int) : Prop := (b ≤ e ∧ e ≤ to) ∧ (b < e → ¬ isBl (g (e - 1))) ∧ ((f = 0 ∧ (∀ j, e ≤ j → j < to → isBl (g j)) ∧ (b < e → g (e - 1) ≠ 33)) ∨ (f = 1 ∧ ∃ x, e ≤ x ∧ x < to ∧ g x = 33 ∧ (∀ j, e ≤ j → j < x → isBl (g j)) ∧ (∀ j, x < j → j < to → isBl (g j))))
/-- what a RULE has declared so far -/
def DCr (n : NS) (m : YS) (rule : Int) : Prop := ∀ p, 0 ≤ p → p < 11 → (n 39 0 (11 * rule + p) = -1 ∧ m 103 p = 0) ∨ (m 103 p = 1 ∧ n 39 0 (11 * rule + p) = m 102 p ∧ 0 ≤ m 102 p ∧ m 102 p ≤ 1100 ∧ okL p (m 102 p)) ∨ (m 103 p = 2 ∧ n 39 0 (11 * rule + p) = m 102 p + 65536 ∧ 0 ≤ m 102 p ∧ m 102 p ≤ 1100 ∧ okL p (m 102 p))
section T3
variable {n n' : NS} {m m' : YS} {g : Int → Int} {p a b c d i e e' f f' to L x y r v k j q ru : Int} {l : List Int}
theorem blA_ge : i ≤ blA g i to := scx_ge (p := fun j => isBl (g j)) i to
theorem blA_le (h : i ≤ to) : blA g i to ≤ to := scx_le (p := fun j => isBl (g j)) h
theorem blA_at (h : blA g i to < to) : ¬ isBl (g (blA g i to)) := scx_at (p := fun j => isBl (g j)) h
theorem blA_in (h1 : i ≤ j) (h2 : j < blA g i to) : isBl (g j) := scx_in (p := fun j => isBl (g j)) h1 h2
theorem blA_eq (h : i ≤ r ∧ r ≤ to) (h1 : ∀ j, i ≤ j → j < r → isBl (g j)) (h2 : r < to → ¬ isBl (g r)) : blA g i to = r := (scx_eq (p := fun j => isBl (g j)) ⟨h.1, .inl h.2, h1, h2⟩).symm
theorem FIN.stop (h : FIN g b to e f) (hlt : e < to) : isBl (g e) ∨ g e = 33 := by
  rcases h.2.2 with ⟨_, h1, _⟩ | ⟨_, x, h1, h2, h3, h4, _⟩
  · exact .inl (h1 e (Int.le_refl _) hlt)
  · by_cases z : e < x
    · exact .inl (h4 e (Int.le_refl _) z)
    · exact .inr (by rw [show e = x by omega]; exact h3)
theorem FIN.rest (h : FIN g b to e f) : (f = 0 ∧ blA g e to = to) ∨ (f = 1 ∧ blA g e to < to ∧ g (blA g e to) = 33 ∧ blA g (blA g e to + 1) to = to) := by
  rcases h.2.2 with ⟨h0, h1, _⟩ | ⟨h0, x, h1, h2, h3, h4, h5⟩
  · exact .inl ⟨h0, blA_eq ⟨h.1.2, Int.le_refl _⟩ h1 (fun y => by omega)⟩
  · have e1 : blA g e to = x := blA_eq ⟨h1, by omega⟩ h4 (fun _ y => by rw [h3] at y; unfold isBl at y; omega)
    rw [e1]
    exact .inr ⟨h0, h2, h3, blA_eq ⟨by omega, Int.le_refl _⟩ (fun j x' y => h5 j (by omega) y) (fun y => by omega)⟩
theorem FIN.of0 (hb : b < k ∧ k ≤ to) (hl : ¬ isBl (g (k - 1)) ∧ g (k - 1) ≠ 33) (h : blA g k to = to) : FIN g b to k 0 :=
  ⟨⟨by omega, hb.2⟩, fun _ => hl.1, .inl ⟨rfl, fun j x y => blA_in (i := k) (to := to) x (by omega), fun _ => hl.2⟩⟩
theorem FIN.of1 (hb : b < k ∧ k ≤ to) (hl : ¬ isBl (g (k - 1)) ∧ g (k - 1) ≠ 33) (h1 : blA g k to < to) (h2 : g (blA g k to) = 33) (h3 : blA g (blA g k to + 1) to = to) : FIN g b to k 1 :=
  ⟨⟨by omega, hb.2⟩, fun _ => hl.1, .inr ⟨rfl, blA g k to, blA_ge, h1, h2, fun j x y => blA_in x y, fun j x y => blA_in (i := blA g k to + 1) (to := to) (by omega) (by omega)⟩⟩
theorem FIN.un (h : FIN g b to e f) (h' : FIN g b to e' f') : e = e' ∧ f = f' := by
  obtain ⟨a1, a2, a3⟩ := h
  obtain ⟨b1, b2, b3⟩ := h'
  have bl33 : ∀ x, g x = 33 → ¬ isBl (g x) := fun x h y => by rw [h] at y; unfold isBl at y; omega
  rcases a3 with ⟨f0, c1, c2⟩ | ⟨f1, x, c1, c2, c3, c4, c5⟩
  · rcases b3 with ⟨g0, d1, d2⟩ | ⟨g1, x', d1, d2, d3, d4, d5⟩
    · exact ⟨TRM.un ⟨a1, c1, a2⟩ ⟨b1, d1, b2⟩, by omega⟩
    · have h1 : x' < e := by
        by_cases z : x' < e
        · exact z
        · exact absurd (c1 x' (by omega) d2) (bl33 x' d3)
      have h2 : e - 1 ≤ x' := by
        by_cases z : e - 1 ≤ x'
        · exact z
        · exact absurd (d5 (e - 1) (by omega) (by omega)) (a2 (by omega))
      have : e - 1 = x' := by omega
      exact absurd (by rw [this]; exact d3) (c2 (by omega))
  · rcases b3 with ⟨g0, d1, d2⟩ | ⟨g1, x', d1, d2, d3, d4, d5⟩
    · have h1 : x < e' := by
        by_cases z : x < e'
        · exact z
        · exact absurd (d1 x (by omega) c2) (bl33 x c3)
      have h2 : e' - 1 ≤ x := by
        by_cases z : e' - 1 ≤ x
        · exact z
        · exact absurd (c5 (e' - 1) (by omega) (by omega)) (b2 (by omega))
      have : e' - 1 = x := by omega
      exact absurd (by rw [this]; exact c3) (d2 (by omega))
    · have hx : x = x' := by
        by_cases z : x < x'
        · exact absurd (c5 x' z d2) (bl33 x' d3)
        · by_cases z' : x' < x
          · exact absurd (d5 x z' c2) (bl33 x c3)
          · omega
      rw [← hx] at d1 d4
      exact ⟨TRM.un ⟨⟨a1.1, c1⟩, c4, a2⟩ ⟨⟨b1.1, d1⟩, d4, b2⟩, by omega⟩
/-- which PROPERTY, in the reference -/
theorem y31_loop (h0 : 0 ≤ b ∧ b ≤ k ∧ k ≤ 400) : ∀ (Ws : List Int) (j acc : Int), 0 ≤ j → j + Ws.length = 11 → (Ws.map wl).Nodup → (∀ i : Nat, i < Ws.length → N_Y_property (j + i) m = some (Ws.getD i 0) ∧ 0 < Ws.getD i 0 ∧ Ws.getD i 0 < 36893488147419103232) → NL_Y_readDeclaration_31 b to k acc j m = some (if wpF (Ws.map wl) (sg (m 101) b (k - b).toNat) j = -1 then acc else wpF (Ws.map wl) (sg (m 101) b (k - b).toNat) j) := by
  intro Ws
  induction Ws with
  | nil =>
    intro j acc j0 jl hn hW
    show _ = some (if (-1 : Int) = -1 then acc else _)
    rw [if_pos rfl]
    unfold NL_Y_readDeclaration_31
    refine it_inr ?_
    show nb_Y_readDeclaration_31 b to k acc j m = _
    unfold nb_Y_readDeclaration_31
    have jl : j + ((0 : Nat) : Int) = 11 := jl
    rw [if_neg (by omega)]
  | cons W Ws ih =>
    intro j acc j0 jl hn hW
    rw [List.length_cons] at jl
    have h1 := hW 0 (by rw [List.length_cons]; omega)
    have h1 : N_Y_property (j + ((0 : Nat) : Int)) m = some W ∧ 0 < W ∧ W < 36893488147419103232 := h1
    rw [show j + ((0 : Nat) : Int) = j by omega] at h1
    have hn' := List.nodup_cons.mp (show (wl W :: Ws.map wl).Nodup from hn)
    have eb : nb_Y_readDeclaration_31 b to k acc j m = if sg (m 101) b (k - b).toNat = wl W then some (.inl (j, j + 1)) else some (.inl (acc, j + 1)) := by
      unfold nb_Y_readDeclaration_31
      rw [if_pos (by omega), h1.1]
      simp only [Option.bind_some]
      have := y_wordIs (m := m) (a := b) (b := k) (W := W) (w := wl W) ⟨by omega, h1.2.2⟩ rfl h0 (X := (some (.inl (acc, j + 1)) : Option ((Int × Int) ⊕ Int))) (Y := some (.inl (j, j + 1)))
      rw [← this]
      simp only [ck_e (a := j + 1) _ (show -10000000 ≤ j + 1 ∧ j + 1 ≤ 10000000 by omega)]
    have hrest : ∀ i : Nat, i < Ws.length → N_Y_property (j + 1 + i) m = some (Ws.getD i 0) ∧ 0 < Ws.getD i 0 ∧ Ws.getD i 0 < 36893488147419103232 := fun i hi => by
      have := hW (i + 1) (by rw [List.length_cons]; omega)
      rw [show j + ((i + 1 : Nat) : Int) = j + 1 + i by omega] at this
      exact this
    show _ = some (if (if sg (m 101) b (k - b).toNat = wl W then j else wpF (Ws.map wl) (sg (m 101) b (k - b).toNat) (j + 1)) = -1 then acc else (if sg (m 101) b (k - b).toNat = wl W then j else wpF (Ws.map wl) (sg (m 101) b (k - b).toNat) (j + 1)))
    by_cases z : sg (m 101) b (k - b).toNat = wl W
    · rw [if_pos z] at eb ⊢
      rw [if_neg (by omega)]
      have E : NL_Y_readDeclaration_31 b to k acc j m = NL_Y_readDeclaration_31 b to k j (j + 1) m := by
        unfold NL_Y_readDeclaration_31
        exact it_inl (f := fun t : Int × Int => nb_Y_readDeclaration_31 b to k t.1 t.2 m) (s := (acc, j)) eb
      have hno : wpF (Ws.map wl) (sg (m 101) b (k - b).toNat) (j + 1) = -1 := by
        by_cases y : wpF (Ws.map wl) (sg (m 101) b (k - b).toNat) (j + 1) = -1
        · exact y
        · have := wpF_in (l := sg (m 101) b (k - b).toNat) _ _ y
          rw [z] at this
          exact absurd this hn'.1
      rw [E, ih (j + 1) j (by omega) (by omega) hn'.2 hrest, if_pos hno]
    · rw [if_neg z] at eb ⊢
      have E : NL_Y_readDeclaration_31 b to k acc j m = NL_Y_readDeclaration_31 b to k acc (j + 1) m := by
        unfold NL_Y_readDeclaration_31
        exact it_inl (f := fun t : Int × Int => nb_Y_readDeclaration_31 b to k t.1 t.2 m) (s := (acc, j)) eb
      rw [E, ih (j + 1) acc (by omega) (by omega) hn'.2 hrest]
theorem y_prop (h0 : 0 ≤ b ∧ b ≤ k ∧ k ≤ 400) : NL_Y_readDeclaration_31 b to k (-1) 0 m = some (wpF prN (sg (m 101) b (k - b).toNat) 0) := by
  have e1 : prW.map wl = prN := by decide
  have := y31_loop (m := m) (to := to) h0 prW 0 (-1) (by omega) (by decide) (by rw [e1]; decide) (fun i hi => by
    have hi : i < 11 := hi
    unfold N_Y_property
    rcases (show i = 0 ∨ i = 1 ∨ i = 2 ∨ i = 3 ∨ i = 4 ∨ i = 5 ∨ i = 6 ∨ i = 7 ∨ i = 8 ∨ i = 9 ∨ i = 10 by omega) with y | y | y | y | y | y | y | y | y | y | y <;> rw [y] <;> decide)
  rw [e1] at this
  rw [this]
  by_cases z : wpF prN (sg (m 101) b (k - b).toNat) 0 = -1
  · rw [if_pos z, z]
  · rw [if_neg z]
end T3
