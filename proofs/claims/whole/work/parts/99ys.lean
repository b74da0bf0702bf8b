/-! WORDS ON THE SCREEN, in both -/
/-- the point lies in it -/
abbrev INr (px py X Y W H : Int) : Prop := X ≤ px ∧ px < X + W ∧ Y ≤ py ∧ py < Y + H
/-- letters of a word -/
def LTS (s y px py : Int) : List Int → Int → Prop
  | [], _ => False
  | c :: l, x => LIT c s x y px py ∨ LTS s y px py l (x + gly c * s)
section YS
variable {n n' : NS} {m m' m1 : YS} {A B a b c x y s px py X Y W H lim i j q u v w L x0 col : Int} {l l' : List Int}
theorem LTS.mv : ∀ (l : List Int) (x : Int), LTS s Y px py l (X + x) ↔ LTS s 0 (px - X) (py - Y) l x
  | [], _ => Iff.rfl
  | c :: l, x => by
    have g := LTS.mv l (x + gly c * s)
    show LIT c s (X + x) Y px py ∨ LTS s Y px py l (X + x + gly c * s) ↔ _
    rw [LIT.mv, show X + x + gly c * s = X + (x + gly c * s) by omega, g]
    exact Iff.rfl
def wdL : List Int → Int
  | [] => 0
  | c :: l => gly c + wdL l
theorem wdL_b : ∀ l : List Int, 0 ≤ wdL l ∧ wdL l ≤ 5 * l.length
  | [] => by simp [wdL]
  | c :: l => by
    have := wdL_b l
    have := gly_b (b := c)
    simp only [wdL, List.length_cons]
    omega
/-- a word, and what stands behind it -/
theorem INK_word (hs : 1 ≤ s ∧ s ≤ 3) : ∀ (l : List Int) (x : Int), (∀ c ∈ l, ¬ isBl c) → lim = x + wdL l * s → (INK s lim px py (l ++ l') x ↔ LTS s 0 px py l x)
  | [], x, _, he => by
    have he : lim = x := by rw [he]; show x + 0 * s = x; omega
    refine ⟨fun h => ?_, fun h => h.elim⟩
    cases l' with
    | nil => exact h
    | cons c t =>
      have hw := wdB_b (c := c)
      have h0 : 0 < wdB c * s := Int.mul_pos (by omega) (by omega)
      have := h.1
      omega
  | c :: l, x, hb, he => by
    have hc := hb c (List.mem_cons_self ..)
    have e : wdB c = gly c := if_neg hc
    have e2 : wdL (c :: l) * s = gly c * s + wdL l * s := by show (gly c + wdL l) * s = _; rw [Int.add_mul]
    have h0 : 0 ≤ wdL l * s := Int.mul_nonneg (wdL_b l).1 (by omega)
    have g := INK_word hs l (x + gly c * s) (fun d hd => hb d (List.mem_cons_of_mem _ hd)) (by omega)
    show (x + wdB c * s ≤ lim ∧ ((¬ isBl c ∧ LIT c s x 0 px py) ∨ INK s lim px py (l ++ l') (x + wdB c * s))) ↔ (LIT c s x 0 px py ∨ LTS s 0 px py l (x + gly c * s))
    rw [e, g]
    exact ⟨fun h => h.2.elim (fun k => .inl k.2) .inr, fun h => ⟨by omega, h.elim (fun k => .inl ⟨hc, k⟩) .inr⟩⟩
theorem c_holds {E : Int} (h2 : -800000000 ≤ n 3 v 2 ∧ n 3 v 2 ≤ 800000000) (h3 : -800000000 ≤ n 3 v 3 ∧ n 3 v 3 ≤ 800000000) (h4 : 0 ≤ n 3 v 4 ∧ n 3 v 4 ≤ 2000000) (h5 : 0 ≤ n 3 v 5 ∧ n 3 v 5 ≤ 2000000) (hE : 0 ≤ E ∧ E ≤ 100) : (N_Box_holds v px py E n = some 1 ∧ INr px py (n 3 v 2 + E) (n 3 v 3 + E) (n 3 v 4 - 2 * E) (n 3 v 5 - 2 * E)) ∨ (N_Box_holds v px py E n = some 0 ∧ ¬ INr px py (n 3 v 2 + E) (n 3 v 3 + E) (n 3 v 4 - 2 * E) (n 3 v 5 - 2 * E)) := by
  unfold N_Box_holds INr
  rw [ck_f _ (by omega), ck_f _ (by omega), ck_f _ (by omega), ck_f _ (by omega), ck_f _ (by omega), ck_f _ (by omega)]
  by_cases z1 : px < n 3 v 2 + E
  · rw [if_pos z1]; exact .inr ⟨rfl, by omega⟩
  · rw [if_neg z1]
    by_cases z2 : px < n 3 v 2 + n 3 v 4 - E
    · rw [if_pos z2]
      by_cases z3 : py < n 3 v 3 + E
      · rw [if_pos z3]; exact .inr ⟨rfl, by omega⟩
      · rw [if_neg z3]
        by_cases z4 : py < n 3 v 3 + n 3 v 5 - E
        · rw [if_pos z4]; exact .inl ⟨rfl, by omega⟩
        · rw [if_neg z4]; exact .inr ⟨rfl, by omega⟩
    · rw [if_neg z2]; exact .inr ⟨rfl, by omega⟩
theorem y_isIn (h1 : -1500000000 ≤ X ∧ X ≤ 1500000000) (h2 : -1500000000 ≤ Y ∧ Y ≤ 1500000000) (h3 : -2000000 ≤ W ∧ W ≤ 2000000) (h4 : -2000000 ≤ H ∧ H ≤ 2000000) : (N_Y_isIn px py X Y W H m = some 1 ∧ INr px py X Y W H) ∨ (N_Y_isIn px py X Y W H m = some 0 ∧ ¬ INr px py X Y W H) := by
  unfold N_Y_isIn INr
  rw [ck_f _ (by omega), ck_f _ (by omega)]
  by_cases z1 : px < X
  · rw [if_pos z1]; exact .inr ⟨rfl, by omega⟩
  · rw [if_neg z1]
    by_cases z2 : px < X + W
    · rw [if_pos z2]
      by_cases z3 : py < Y
      · rw [if_pos z3]; exact .inr ⟨rfl, by omega⟩
      · rw [if_neg z3]
        by_cases z4 : py < Y + H
        · rw [if_pos z4]; exact .inl ⟨rfl, by omega⟩
        · rw [if_neg z4]; exact .inr ⟨rfl, by omega⟩
    · rw [if_neg z2]; exact .inr ⟨rfl, by omega⟩
/-- the reference: the letters of a word -/
theorem y_pwl (hv : 0 ≤ v ∧ v < 120) (hw : 0 ≤ w ∧ w < 24000) (hq : 0 ≤ m 49 v ∧ m 49 v < 120) (hs : 1 ≤ s ∧ s ≤ 3) (hY : -1400000000 ≤ m 122 w ∧ m 122 w ≤ 1400000000) (hp : 0 ≤ px ∧ px ≤ 1000 ∧ 0 ≤ py ∧ py ≤ 1000) (h119 : 0 ≤ m 119 w ∧ 0 ≤ m 120 w ∧ m 119 w + m 120 w ≤ 400) (hby : ∀ j, 0 ≤ j → j < 400 → j < m 119 w + m 120 w → 0 ≤ m 61 (400 * v + j) ∧ m 61 (400 * v + j) ≤ 255) (hcol : col = m 105 (11 * m 49 v + 1)) :
    ∀ (z : Nat) (x j : Int) (m1 : YS), (m 120 w - j).toNat = z → 0 ≤ j → j ≤ m 120 w → (-1400000000 ≤ x ∧ x ≤ 1400000000 + 20 * j) → (∀ f, f ≠ 146 → f ≠ 147 → m1 f = m f) → (NL_Y_paintWord_64 v w px py s x j m1 = some (yw m1 146 0 col) ∧ LTS s (m 122 w) px py (sg (m 61) (400 * v + m 119 w + j) z) x) ∨ (NL_Y_paintWord_64 v w px py s x j m1 = some m1 ∧ ¬ LTS s (m 122 w) px py (sg (m 61) (400 * v + m 119 w + j) z) x) := by
  intro z
  induction z with
  | zero =>
    intro x j m1 hz j0 j1 hx hf
    right
    refine ⟨?_, fun h => h⟩
    unfold NL_Y_paintWord_64
    refine it_inr ?_
    show nb_Y_paintWord_64 v w px py s x j m1 = _
    unfold nb_Y_paintWord_64
    rw [ix_e _ hw, hf 120 (by decide) (by decide), if_neg (by omega)]
  | succ z ih =>
    intro x j m1 hz j0 j1 hx hf
    have hlt : j < m 120 w := by omega
    obtain ⟨c, hc⟩ : ∃ c, c = m 61 (400 * v + m 119 w + j) := ⟨_, rfl⟩
    have hcb : 0 ≤ c ∧ c ≤ 255 := by
      have g := hby (m 119 w + j) (by omega) (by omega) (by omega)
      rw [show 400 * v + (m 119 w + j) = 400 * v + m 119 w + j by omega, ← hc] at g
      exact g
    have hg := gly_b (b := c)
    obtain ⟨G, hG⟩ : ∃ G, G = gly c * s := ⟨_, rfl⟩
    have hGb : 2 ≤ G ∧ G ≤ 15 := by rw [hG]; rcases s123 hs with e | e | e <;> subst e <;> omega
    have hsg : sg (m 61) (400 * v + m 119 w + j) (z + 1) = c :: sg (m 61) (400 * v + m 119 w + (j + 1)) z := by
      rw [hc, show 400 * v + m 119 w + (j + 1) = 400 * v + m 119 w + j + 1 by omega]; rfl
    rw [hsg]
    have step : ∀ m2, N_Y_letter c s x (m 122 w) px py (m 49 v) m1 = some m2 → (∀ f, f ≠ 146 → f ≠ 147 → m2 f = m f) → NL_Y_paintWord_64 v w px py s x j m1 = NL_Y_paintWord_64 v w px py s (x + G) (j + 1) m2 := fun m2 h2 _ => by
      unfold NL_Y_paintWord_64
      refine it_inl ?_
      show nb_Y_paintWord_64 v w px py s x j m1 = _
      unfold nb_Y_paintWord_64
      rw [hf 120 (by decide) (by decide), hf 119 (by decide) (by decide), hf 122 (by decide) (by decide), hf 49 (by decide) (by decide), hf 61 (by decide) (by decide), ← hc, ix_e _ hw, if_pos hlt, ck_e _ (by omega), ix_e _ hw, ck_e _ (by omega), ck_e _ (by omega), ix_e _ (by omega), ix_e _ hw, ix_e _ hv, h2]
      simp only [Option.bind_some]
      rw [ys_glyph]
      simp only [Option.bind_some]
      rw [← hG, ck_e _ (by omega), ck_f _ (by omega), ck_e _ (by omega)]
    have e105 : m1 105 = m 105 := hf 105 (by decide) (by decide)
    have hbb : ∀ m2 : YS, yw (yw m2 146 0 col) 146 0 col = yw m2 146 0 col := fun m2 => by
      funext f i
      simp only [yw_app]
      split <;> rfl
    rcases y_letter (m := m1) (q := m 49 v) hcb hs (x := x) (y := m 122 w) (by omega) (by omega) hp hq with ⟨g1, g2⟩ | ⟨g1, g2⟩
    · left
      rw [e105, ← hcol] at g1
      have hf2 : ∀ f, f ≠ 146 → f ≠ 147 → yw m1 146 0 col f = m f := fun f a b => by rw [yw_nF a]; exact hf f a b
      rw [step _ g1 hf2]
      refine ⟨?_, .inl g2⟩
      rcases ih (x + G) (j + 1) _ (by omega) (by omega) (by omega) (by omega) hf2 with ⟨k1, _⟩ | ⟨k1, _⟩
      · rw [k1, hbb]
      · exact k1
    · rw [step _ g1 hf]
      rcases ih (x + G) (j + 1) m1 (by omega) (by omega) (by omega) (by omega) hf with ⟨k1, k2⟩ | ⟨k1, k2⟩
      · exact .inl ⟨k1, .inr (by rw [← hG]; exact k2)⟩
      · refine .inr ⟨k1, fun h => ?_⟩
        rcases h with h | h
        · exact g2 h
        · rw [← hG] at h; exact k2 h
end YS
