/-! LETTERS ON THE SCREEN, in both -/
/-- a point of a byte's glyph is dark -/
def onP (c x y : Int) : Prop := (c * 40503 / 8 / 2 ^ Int.toNat ((5 * x + y) % 13)) % 2 = 1
/-- a letter that stands at x, y inks the point -/
def LIT (c s x y px py : Int) : Prop := x ≤ px ∧ y + s ≤ py ∧ (px - x) / s ≤ gly c - 2 ∧ (py - y - s) / s ≤ 4 ∧ onP c ((px - x) / s) ((py - y - s) / s)
def wdB (c : Int) : Int := if isBl c then 3 else gly c
/-- a text from x on, as far as there is room -/
def INK (s lim px py : Int) : List Int → Int → Prop
  | [], _ => False
  | c :: l, x => x + wdB c * s ≤ lim ∧ ((¬ isBl c ∧ LIT c s x 0 px py) ∨ INK s lim px py l (x + wdB c * s))
section YR
variable {n n' : NS} {m m' : YS} {A B a b c x y s px py X Y lim i j q u L x0 : Int} {l l' : List Int}
theorem cd_g {α : Type} (Z : Option α) (h : 0 ≤ a ∧ 0 < b) : cd a b Z = Z := if_pos h
theorem sh5_g {α : Type} (Z : Option α) (h : 0 ≤ a ∧ a < 32) : sh5 a Z = Z := if_pos h
theorem wdB_b : 2 ≤ wdB c ∧ wdB c ≤ 5 := by
  unfold wdB
  have := gly_b (b := c)
  split <;> omega
theorem s123 (hs : 1 ≤ s ∧ s ≤ 3) : s = 1 ∨ s = 2 ∨ s = 3 := by omega
theorem LIT.lt (hs : 1 ≤ s ∧ s ≤ 3) (h : LIT c s x y px py) : px < x + gly c * s := by
  obtain ⟨h1, _, h3, _⟩ := h
  rcases s123 hs with e | e | e <;> subst e <;> omega
theorem LIT.mv : LIT c s (X + x) Y px py ↔ LIT c s x 0 (px - X) (py - Y) := by
  unfold LIT
  rw [show px - (X + x) = px - X - x by omega, show py - Y - s = py - Y - 0 - s by omega]
  constructor
  · rintro ⟨a, b, c⟩
    exact ⟨by omega, by omega, c⟩
  · rintro ⟨a, b, c⟩
    exact ⟨by omega, by omega, c⟩
theorem INK_lt (hs : 1 ≤ s ∧ s ≤ 3) : ∀ (l : List Int) (x : Int), px < x → ¬ INK s lim px py l x
  | [], _, _, h => h
  | c :: l, x, hx, h => by
    have hw := wdB_b (c := c)
    have h0 : 0 ≤ wdB c * s := Int.mul_nonneg (by omega) (by omega)
    rcases h.2 with h | h
    · have := h.2.1; omega
    · exact INK_lt hs l _ (by omega) h
/-- the class: one glyph -/
theorem c_glyOn (hc : 0 ≤ c ∧ c ≤ 255) (hs : 1 ≤ s ∧ s ≤ 3) (hx : x ≤ 2000000000) (hy : y ≤ 2000000000) : (N_Layout_isGlyphOn c s x y n = some 1 ∧ LIT c s 0 0 x y) ∨ (N_Layout_isGlyphOn c s x y n = some 0 ∧ ¬ LIT c s 0 0 x y) := by
  unfold N_Layout_isGlyphOn
  rw [if_neg (by omega)]
  by_cases z1 : x < 0
  · rw [if_pos z1]; exact .inr ⟨rfl, fun h => by have := h.1; omega⟩
  · rw [if_neg z1]
    by_cases z2 : y < s
    · rw [if_pos z2]; exact .inr ⟨rfl, fun h => by have := h.2.1; omega⟩
    · have hg := gly_b (b := c)
      have e1 : (x - 0) / s = x / s := by rw [Int.sub_zero]
      have e2 : (y - 0 - s) / s = y / s - 1 := by rcases s123 hs with e | e | e <;> subst e <;> omega
      have b1 : 0 ≤ x / s ∧ x / s ≤ x := by rcases s123 hs with e | e | e <;> subst e <;> omega
      have b2 : 1 ≤ y / s ∧ y / s ≤ y := by rcases s123 hs with e | e | e <;> subst e <;> omega
      unfold LIT
      rw [e1, e2, if_neg z2, cd_g _ ⟨by omega, by omega⟩, cd_g _ ⟨by omega, by omega⟩, ck_f _ (by omega), cs_glyph]
      simp only [Option.bind_some]
      rw [ck_e _ (by omega)]
      by_cases z3 : gly c - 2 < x / s
      · rw [if_pos z3]; exact .inr ⟨rfl, fun h => by have := h.2.2.1; omega⟩
      · rw [if_neg z3]
        by_cases z4 : 4 < y / s - 1
        · rw [if_pos z4]; exact .inr ⟨rfl, fun h => by have := h.2.2.2.1; omega⟩
        · rw [if_neg z4, ck_f _ (by omega), ck_e _ (by omega), ck_e _ (by omega), cd_g _ ⟨by omega, by omega⟩, sh5_g _ (by omega)]
          by_cases z5 : (c * 40503 / 8 / 2 ^ Int.toNat ((5 * (x / s) + (y / s - 1)) % 13)) % 2 = 1
          · rw [if_pos z5]; exact .inl ⟨rfl, by omega, by omega, by omega, by omega, z5⟩
          · rw [if_neg z5]; exact .inr ⟨rfl, fun h => z5 h.2.2.2.2⟩
/-- the reference -/
theorem y_inks (hc : 0 ≤ c ∧ c ≤ 255) (hs : 1 ≤ s ∧ s ≤ 3) (hx : -1500000000 ≤ x ∧ x ≤ 1500000000) (hy : -1500000000 ≤ y ∧ y ≤ 1500000000) (hp : 0 ≤ px ∧ px ≤ 1000 ∧ 0 ≤ py ∧ py ≤ 1000) : (N_Y_inks c s x y px py m = some 1 ∧ LIT c s x y px py) ∨ (N_Y_inks c s x y px py m = some 0 ∧ ¬ LIT c s x y px py) := by
  unfold N_Y_inks
  by_cases z1 : px < x
  · rw [if_pos z1]; exact .inr ⟨rfl, fun h => by have := h.1; omega⟩
  · rw [if_neg z1, ck_f _ (by omega)]
    by_cases z2 : py < y + s
    · rw [if_pos z2]; exact .inr ⟨rfl, fun h => by have := h.2.1; omega⟩
    · have hg := gly_b (b := c)
      obtain ⟨P, hP⟩ : ∃ P, P = (px - x) / s := ⟨_, rfl⟩
      obtain ⟨Q, hQ⟩ : ∃ Q, Q = (py - y - s) / s := ⟨_, rfl⟩
      have b1 : 0 ≤ P ∧ P ≤ px - x := by rw [hP]; rcases s123 hs with e | e | e <;> subst e <;> omega
      have b2 : 0 ≤ Q ∧ Q ≤ py - y - s := by rw [hQ]; rcases s123 hs with e | e | e <;> subst e <;> omega
      unfold LIT
      rw [← hP, ← hQ, if_neg z2, ck_f _ (by omega), cd_g _ ⟨by omega, by omega⟩, ck_f _ (by omega), ck_f _ (by omega), cd_g _ ⟨by omega, by omega⟩, ys_glyph]
      simp only [Option.bind_some]
      rw [ck_e _ (by omega)]
      by_cases z3 : gly c - 2 < P
      · rw [if_pos z3]; exact .inr ⟨rfl, fun h => by have := h.2.2.1; omega⟩
      · rw [if_neg z3]
        by_cases z4 : 4 < Q
        · rw [if_pos z4]; exact .inr ⟨rfl, fun h => by have := h.2.2.2.1; omega⟩
        · unfold N_Y_isOn
          rw [if_neg z4, ck_f _ (by omega), ck_e _ (by omega), ck_e _ (by omega), cd_g _ ⟨by omega, by omega⟩, sh5_g _ (by omega)]
          by_cases z5 : (c * 40503 / 8 / 2 ^ Int.toNat ((5 * P + Q) % 13)) % 2 = 1
          · rw [if_pos z5]; exact .inl ⟨rfl, by omega, by omega, by omega, by omega, z5⟩
          · rw [if_neg z5]; exact .inr ⟨rfl, fun h => z5 h.2.2.2.2⟩
theorem y_letter (hc : 0 ≤ c ∧ c ≤ 255) (hs : 1 ≤ s ∧ s ≤ 3) (hx : -1500000000 ≤ x ∧ x ≤ 1500000000) (hy : -1500000000 ≤ y ∧ y ≤ 1500000000) (hp : 0 ≤ px ∧ px ≤ 1000 ∧ 0 ≤ py ∧ py ≤ 1000) (hq : 0 ≤ q ∧ q < 120) : (N_Y_letter c s x y px py q m = some (yw m 146 0 (m 105 (11 * q + 1))) ∧ LIT c s x y px py) ∨ (N_Y_letter c s x y px py q m = some m ∧ ¬ LIT c s x y px py) := by
  unfold N_Y_letter
  rcases y_inks (m := m) hc hs hx hy hp with ⟨g1, g2⟩ | ⟨g1, g2⟩
  · rw [g1]
    simp only [Option.bind_some]
    rw [if_neg (by decide), y_of hq (by decide)]
    exact .inl ⟨rfl, g2⟩
  · rw [g1]
    simp only [Option.bind_some]
    exact .inr ⟨rfl, g2⟩
/-- the class: a text in its row -/
theorem c_letOn (hB : BI A B n) (hb : 0 ≤ b ∧ b ≤ 631) (hL : n 4 b 2 ≤ 60000) (hby : ∀ j, 0 ≤ j → j < n 4 b 2 → 0 ≤ n 99 (n 4 b 1) j ∧ n 99 (n 4 b 1) j ≤ 255) (hi : 0 ≤ i ∧ i ≤ n 4 b 2) (hs : 1 ≤ s ∧ s ≤ 3) (hlim : lim ≤ 2000000000) (hx : x ≤ 2000000000) (hy : y ≤ 2000000000) :
    (N_Layout_isLetterOn b i lim s x y n = some 1 ∧ INK s lim x y (sg (n 99 (n 4 b 1)) i (n 4 b 2 - i).toNat) 0) ∨ (N_Layout_isLetterOn b i lim s x y n = some 0 ∧ ¬ INK s lim x y (sg (n 99 (n 4 b 1)) i (n 4 b 2 - i).toNat) 0) := by
  obtain ⟨_, hb1, hb2, hb3, _⟩ := hB.1 b hb.1 hb.2
  -- the loop
  have lo : ∀ (z : Nat) (X i : Int), (n 4 b 2 - i).toNat = z → 0 ≤ i → i ≤ n 4 b 2 → (0 ≤ X ∧ X ≤ 20 * i) →
      ((NL_Layout_isLetterOn_6 b lim s x y X i n = some (.inl ()) ∨ NL_Layout_isLetterOn_6 b lim s x y X i n = some (.inr (.inr ()))) ∧ ¬ INK s lim x y (sg (n 99 (n 4 b 1)) i z) X)
      ∨ ∃ X' c w, NL_Layout_isLetterOn_6 b lim s x y X i n = some (.inr (.inl (X', c, w))) ∧ (0 ≤ X' ∧ X' ≤ x) ∧ (0 ≤ c ∧ c ≤ 255) ∧ ((w = 0 ∧ ¬ isBl c) ∨ (w ≠ 0 ∧ isBl c)) ∧ (INK s lim x y (sg (n 99 (n 4 b 1)) i z) X ↔ (¬ isBl c ∧ LIT c s X' 0 x y)) := by
    intro z
    induction z with
    | zero =>
      intro X i hz i0 i1 hX
      left
      refine ⟨.inr ?_, fun h => h⟩
      unfold NL_Layout_isLetterOn_6
      refine it_inr ?_
      show nb_Layout_isLetterOn_6 b lim s x y X i n = _
      unfold nb_Layout_isLetterOn_6
      rw [if_neg (by omega)]
    | succ z ih =>
      intro X i hz i0 i1 hX
      have hlt : i < n 4 b 2 := by omega
      obtain ⟨c, hc⟩ : ∃ c, c = n 99 (n 4 b 1) i := ⟨_, rfl⟩
      have hcb := hby i i0 hlt
      rw [← hc] at hcb
      have hw := wdB_b (c := c)
      obtain ⟨W, hW⟩ : ∃ W, W = s * wdB c := ⟨_, rfl⟩
      have hWb : 2 ≤ W ∧ W ≤ 15 := by rw [hW]; rcases s123 hs with e | e | e <;> subst e <;> omega
      have eW : wdB c * s = W := by rw [hW]; exact Int.mul_comm _ _
      have hsg : sg (n 99 (n 4 b 1)) i (z + 1) = c :: sg (n 99 (n 4 b 1)) (i + 1) z := by rw [hc]; rfl
      rw [hsg]
      obtain ⟨w, hw1, hw2⟩ : ∃ w, N_Bytes_isBlank c n = some w ∧ ((w = 0 ∧ ¬ isBl c) ∨ (w ≠ 0 ∧ isBl c)) := by
        obtain ⟨w, a1, a2⟩ := cs_blank (b := c) (n := n)
        refine ⟨w, a1, ?_⟩
        unfold bz at a2
        omega
      have hnb : nb_Layout_isLetterOn_6 b lim s x y X i n = if x < X then some (.inr (.inr (.inr ()))) else nk_Layout_isLetterOn_53 b lim s x y X i c w (wdB c) s n := by
        unfold nb_Layout_isLetterOn_6
        rw [if_pos hlt, ← hc, hw1]
        by_cases zx : x < X
        · rw [if_pos zx, if_pos zx]
        · rw [if_neg zx, if_neg zx, nn_g _ hb1.1, dx_g _ ⟨hb2, by omega, by omega⟩]
          simp only [Option.bind_some]
          unfold wdB
          rcases hw2 with ⟨g1, g2⟩ | ⟨g1, g2⟩
          · rw [if_pos g1, cs_glyph, if_neg g2]; rfl
          · rw [if_neg g1, if_pos g2]
      have uN : ∀ r, nb_Layout_isLetterOn_6 b lim s x y X i n = some (.inr r) → NL_Layout_isLetterOn_6 b lim s x y X i n = some r := fun r hr => by
        unfold NL_Layout_isLetterOn_6
        exact it_inr (f := fun s' : Int × Int => nb_Layout_isLetterOn_6 b lim s x y s'.1 s'.2 n) (s := (X, i)) hr
      by_cases zx : x < X
      · left
        rw [if_pos zx] at hnb
        exact ⟨.inr (uN _ hnb), INK_lt hs _ X zx⟩
      · rw [if_neg zx] at hnb
        unfold nk_Layout_isLetterOn_53 at hnb
        rw [← hW, ck_e _ (by omega), ck_e _ (by omega), ck_e _ (by omega)] at hnb
        by_cases zl : lim < X + W
        · left
          rw [if_pos zl] at hnb
          refine ⟨.inl (uN _ hnb), fun h => ?_⟩
          have := h.1
          rw [eW] at this
          omega
        · rw [if_neg zl] at hnb
          by_cases zc : x < X + W
          · right
            rw [if_pos zc] at hnb
            refine ⟨X, c, w, uN _ hnb, by omega, hcb, hw2, ?_⟩
            constructor
            · rintro ⟨_, h | h⟩
              · exact h
              · rw [eW] at h; exact absurd h (INK_lt hs _ _ zc)
            · intro h
              exact ⟨by rw [eW]; omega, .inl h⟩
          · rw [if_neg zc, ck_e _ (by omega), ck_e _ (by omega)] at hnb
            have hstep : NL_Layout_isLetterOn_6 b lim s x y X i n = NL_Layout_isLetterOn_6 b lim s x y (X + W) (i + 1) n := by
              unfold NL_Layout_isLetterOn_6
              exact it_inl (f := fun s' : Int × Int => nb_Layout_isLetterOn_6 b lim s x y s'.1 s'.2 n) (s := (X, i)) hnb
            have hin : INK s lim x y (c :: sg (n 99 (n 4 b 1)) (i + 1) z) X ↔ INK s lim x y (sg (n 99 (n 4 b 1)) (i + 1) z) (X + W) := by
              constructor
              · rintro ⟨_, ⟨h1, h2⟩ | h⟩
                · have := h2.lt hs
                  have e : wdB c = gly c := if_neg h1
                  rw [← e, eW] at this
                  omega
                · rw [eW] at h; exact h
              · intro h
                exact ⟨by rw [eW]; omega, .inr (by rw [eW]; exact h)⟩
            rw [hstep]
            rcases ih (X + W) (i + 1) (by omega) (by omega) (by omega) (by omega) with ⟨g1, g2⟩ | ⟨X', c', w', g1, g2, g3, g4, g5⟩
            · exact .inl ⟨g1, fun h => g2 (hin.mp h)⟩
            · exact .inr ⟨X', c', w', g1, g2, g3, g4, hin.trans g5⟩
  unfold N_Layout_isLetterOn
  rcases lo (n 4 b 2 - i).toNat 0 i rfl hi.1 hi.2 (by omega) with ⟨g1 | g1, g2⟩ | ⟨X', c, w, g1, g2, g3, g4, g5⟩
  · rw [g1]; exact .inr ⟨rfl, g2⟩
  · rw [g1]; exact .inr ⟨rfl, g2⟩
  · rw [g1]
    show ((if w = 0 then ck (x - X') ((N_Layout_isGlyphOn c s (x - X') y n).bind fun z14 => if z14 = 0 then some 0 else some 1) else some 0) = some 1 ∧ _) ∨ ((if w = 0 then ck (x - X') ((N_Layout_isGlyphOn c s (x - X') y n).bind fun z14 => if z14 = 0 then some 0 else some 1) else some 0) = some 0 ∧ _)
    rw [g5]
    rcases g4 with ⟨w0, nb⟩ | ⟨w0, nb⟩
    · have e : LIT c s X' 0 x y ↔ LIT c s 0 0 (x - X') y := by
        have g := LIT.mv (c := c) (s := s) (X := X') (x := 0) (Y := 0) (px := x) (py := y)
        rw [Int.add_zero, Int.sub_zero] at g
        exact g
      rw [if_pos w0, ck_f _ (by omega), e]
      rcases c_glyOn (n := n) g3 hs (x := x - X') (y := y) (by omega) hy with ⟨k1, k2⟩ | ⟨k1, k2⟩
      · rw [k1]; exact .inl ⟨rfl, nb, k2⟩
      · rw [k1]; exact .inr ⟨rfl, fun h => k2 h.2⟩
    · rw [if_neg w0]; exact .inr ⟨rfl, fun h => h.1 nb⟩
end YR
