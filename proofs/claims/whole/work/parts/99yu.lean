/-! A TEXT ON THE SCREEN, in both -/
/-- which word the point lies in -/
def INw (m : YS) (px py s w : Int) : Prop := INr px py (m 121 w) (m 122 w) (m 123 w) (7 * s)
/-- a word's letters -/
def wLs (m : YS) (t w : Int) : List Int := sg (m 61) (400 * t + m 119 w) (m 120 w).toNat
def LTw (m : YS) (px py s t w : Int) : Prop := LTS s (m 122 w) px py (wLs m t w) (m 121 w)
/-- what is painted: whether a node is hit, and its color there -/
def PEf (v : Int) (m m' : YS) (hit col : Int) : Prop := (∀ f, f ≠ 146 → f ≠ 147 → m' f = m f) ∧ (m' 147 0 = if hit = 1 then v else m 147 0) ∧ (m' 146 0 = if col = -1 then m 146 0 else col)
section YU
variable {n n' : NS} {m m' m1 : YS} {A B a b c x y s px py X Y W H lim i j q u v w t L x0 col : Int} {l l' : List Int}
theorem y_pw (ht : 0 ≤ t ∧ t < 120) (hw : 0 ≤ w ∧ w < 24000) (hq : 0 ≤ m 49 t ∧ m 49 t < 120) (hs : s = m 105 (11 * m 49 t + 8) ∧ 1 ≤ s ∧ s ≤ 3) (hX : -1000000000 ≤ m 121 w ∧ m 121 w ≤ 1000000000) (hY : -1000000000 ≤ m 122 w ∧ m 122 w ≤ 1000000000) (hW : 0 ≤ m 123 w ∧ m 123 w ≤ 6000) (hp : 0 ≤ px ∧ px ≤ 1000 ∧ 0 ≤ py ∧ py ≤ 1000) (h119 : 0 ≤ m 119 w ∧ 0 ≤ m 120 w ∧ m 119 w + m 120 w ≤ 400) (hby : ∀ j, 0 ≤ j → j < 400 → j < m 119 w + m 120 w → 0 ≤ m 61 (400 * t + j) ∧ m 61 (400 * t + j) ≤ 255) (hf : ∀ f, f ≠ 146 → f ≠ 147 → m1 f = m f) :
    (N_Y_paintWord t w px py m1 = some m1 ∧ ¬ INw m px py s w) ∨ (INw m px py s w ∧ LTw m px py s t w ∧ N_Y_paintWord t w px py m1 = some (yw (yw m1 147 0 t) 146 0 (m 105 (11 * m 49 t + 1)))) ∨ (INw m px py s w ∧ ¬ LTw m px py s t w ∧ N_Y_paintWord t w px py m1 = some (yw m1 147 0 t)) := by
  have hrun : N_Y_paintWord t w px py m1 = (N_Y_isIn px py (m 121 w) (m 122 w) (m 123 w) (7 * s) m1).bind fun z19 => if z19 = 0 then some m1 else (NL_Y_paintWord_64 t w px py s (m 121 w) 0 (yw m1 147 0 t)).bind fun m31 => some m31 := by
    unfold N_Y_paintWord st
    dsimp only
    rw [hf 49 (by decide) (by decide), ix_e _ ht, y_of hq (by decide), hf 105 (by decide) (by decide), ← hs.1]
    simp only [Option.bind_some]
    rw [ix_e _ hw, ix_e _ hw, ix_e _ hw, ck_e _ (by omega), hf 121 (by decide) (by decide), hf 122 (by decide) (by decide), hf 123 (by decide) (by decide), ix_e _ hw, yw_nF (by decide), hf 121 (by decide) (by decide)]
  rcases y_isIn (m := m1) (px := px) (py := py) (X := m 121 w) (Y := m 122 w) (W := m 123 w) (H := 7 * s) (by omega) (by omega) (by omega) (by omega) with ⟨g1, g2⟩ | ⟨g1, g2⟩
  · right
    rw [g1] at hrun
    simp only [Option.bind_some] at hrun
    rw [if_neg (by decide)] at hrun
    have hf2 : ∀ f, f ≠ 146 → f ≠ 147 → yw m1 147 0 t f = m f := fun f a b => by rw [yw_nF b]; exact hf f a b
    rcases y_pwl (m := m) (col := m 105 (11 * m 49 t + 1)) ht hw hq hs.2 (by omega) hp h119 hby rfl (m 120 w).toNat (m 121 w) 0 (yw m1 147 0 t) (by omega) (Int.le_refl _) h119.2.1 (by omega) hf2 with ⟨k1, k2⟩ | ⟨k1, k2⟩
    · left
      rw [Int.add_zero] at k2
      exact ⟨g2, k2, by rw [hrun, k1]; rfl⟩
    · right
      rw [Int.add_zero] at k2
      exact ⟨g2, k2, by rw [hrun, k1]; rfl⟩
  · left
    rw [g1] at hrun
    exact ⟨hrun, g2⟩
/-- all words of a TEXT -/
theorem y_ptx (ht : 0 ≤ t ∧ t < 120) (hq : 0 ≤ m 49 t ∧ m 49 t < 120) (hs : s = m 105 (11 * m 49 t + 8) ∧ 1 ≤ s ∧ s ≤ 3) (hp : 0 ≤ px ∧ px ≤ 1000 ∧ 0 ≤ py ∧ py ≤ 1000) (h62 : m 62 t ≤ 400) (hby : ∀ j, 0 ≤ j → j < m 62 t → 0 ≤ m 61 (400 * t + j) ∧ m 61 (400 * t + j) ≤ 255) (ha : 0 ≤ a ∧ b ≤ 24000)
    (hwd : ∀ w, a ≤ w → w < b → (-1000000000 ≤ m 121 w ∧ m 121 w ≤ 1000000000) ∧ (-1000000000 ≤ m 122 w ∧ m 122 w ≤ 1000000000) ∧ (0 ≤ m 123 w ∧ m 123 w ≤ 6000) ∧ (0 ≤ m 119 w ∧ 0 ≤ m 120 w ∧ m 119 w + m 120 w ≤ m 62 t)) (hU : ∀ w w', a ≤ w → w < w' → w' < b → INw m px py s w → ¬ INw m px py s w') (hc : m 105 (11 * m 49 t + 1) ≠ -1) :
    ∀ (z : Nat) (i : Int) (m1 : YS), (b - i).toNat = z → a ≤ i → i ≤ b → (∀ f, f ≠ 146 → f ≠ 147 → m1 f = m f) → ∃ m' hit col, NL_Y_paint_107 px py x0 t b i m1 = some m' ∧ PEf t m1 m' hit col ∧ (((∀ w, i ≤ w → w < b → ¬ INw m px py s w) ∧ hit = 0 ∧ col = -1) ∨ ∃ w, (i ≤ w ∧ w < b ∧ INw m px py s w) ∧ hit = 1 ∧ ((LTw m px py s t w ∧ col = m 105 (11 * m 49 t + 1)) ∨ (¬ LTw m px py s t w ∧ col = -1))) := by
  have stop : ∀ i m1, ¬ i < b → NL_Y_paint_107 px py x0 t b i m1 = some m1 := fun i m1 h => by
    unfold NL_Y_paint_107
    refine it_inr ?_
    show nb_Y_paint_107 px py x0 t b i m1 = _
    unfold nb_Y_paint_107
    rw [if_neg h]
  have step : ∀ i m1 m2, i < b → 0 ≤ i → N_Y_paintWord t i px py m1 = some m2 → NL_Y_paint_107 px py x0 t b i m1 = NL_Y_paint_107 px py x0 t b (i + 1) m2 := fun i m1 m2 h h0 h2 => by
    unfold NL_Y_paint_107
    refine it_inl ?_
    show nb_Y_paint_107 px py x0 t b i m1 = _
    unfold nb_Y_paint_107
    rw [if_pos h, h2]
    simp only [Option.bind_some]
    rw [ck_e _ (by omega)]
  have none : ∀ (z : Nat) (i : Int) (m1 : YS), (b - i).toNat = z → a ≤ i → i ≤ b → (∀ f, f ≠ 146 → f ≠ 147 → m1 f = m f) → (∀ w, i ≤ w → w < b → ¬ INw m px py s w) → NL_Y_paint_107 px py x0 t b i m1 = some m1 := by
    intro z
    induction z with
    | zero => intro i m1 hz i0 i1 _ _; exact stop i m1 (by omega)
    | succ z ih =>
      intro i m1 hz i0 i1 hf hn
      obtain ⟨d1, d2, d3, d4⟩ := hwd i i0 (by omega)
      rcases y_pw (m := m) (s := s) ht (w := i) (by omega) hq hs d1 d2 d3 hp (by omega) (fun j x y z => hby j x (by omega)) hf with ⟨g1, _⟩ | ⟨g1, _⟩ | ⟨g1, _⟩
      · rw [step i m1 m1 (by omega) (by omega) g1]
        exact ih (i + 1) m1 (by omega) (by omega) (by omega) hf (fun w x y => hn w (by omega) y)
      · exact absurd g1 (hn i (Int.le_refl _) (by omega))
      · exact absurd g1 (hn i (Int.le_refl _) (by omega))
  intro z
  induction z with
  | zero =>
    intro i m1 hz i0 i1 hf
    exact ⟨m1, 0, -1, stop i m1 (by omega), ⟨fun _ _ _ => rfl, rfl, rfl⟩, .inl ⟨fun w x y => by omega, rfl, rfl⟩⟩
  | succ z ih =>
    intro i m1 hz i0 i1 hf
    obtain ⟨d1, d2, d3, d4⟩ := hwd i i0 (by omega)
    have rest : ∀ m2, INw m px py s i → (∀ f, f ≠ 146 → f ≠ 147 → m2 f = m f) → NL_Y_paint_107 px py x0 t b (i + 1) m2 = some m2 := fun m2 hi h2 => none (b - (i + 1)).toNat (i + 1) m2 rfl (by omega) (by omega) h2 (fun w x y => hU i w i0 (by omega) y hi)
    rcases y_pw (m := m) (s := s) ht (w := i) (by omega) hq hs d1 d2 d3 hp (by omega) (fun j x y z => hby j x (by omega)) hf with ⟨g1, g2⟩ | ⟨g1, g2, g3⟩ | ⟨g1, g2, g3⟩
    · rw [step i m1 m1 (by omega) (by omega) g1]
      obtain ⟨m', hit, col, r1, r2, r3⟩ := ih (i + 1) m1 (by omega) (by omega) (by omega) hf
      refine ⟨m', hit, col, r1, r2, ?_⟩
      rcases r3 with ⟨k1, k2⟩ | ⟨w, k1, k2⟩
      · refine .inl ⟨fun w x y => ?_, k2⟩
        by_cases z : w = i
        · rw [z]; exact g2
        · exact k1 w (by omega) y
      · exact .inr ⟨w, ⟨by omega, k1.2⟩, k2⟩
    · rw [step i m1 _ (by omega) (by omega) g3, rest _ g1 (fun f x y => by rw [yw_nF x, yw_nF y]; exact hf f x y)]
      refine ⟨_, 1, m 105 (11 * m 49 t + 1), rfl, ⟨fun f x y => by rw [yw_nF x, yw_nF y], ?_, ?_⟩, .inr ⟨i, ⟨Int.le_refl _, by omega, g1⟩, rfl, .inl ⟨g2, rfl⟩⟩⟩
      · rw [yw_nF (by decide), yw_eq, if_pos rfl]
      · rw [yw_eq, if_neg hc]
    · rw [step i m1 _ (by omega) (by omega) g3, rest _ g1 (fun f x y => by rw [yw_nF y]; exact hf f x y)]
      refine ⟨_, 1, -1, rfl, ⟨fun f x y => by rw [yw_nF y], ?_, ?_⟩, .inr ⟨i, ⟨Int.le_refl _, by omega, g1⟩, rfl, .inr ⟨g2, rfl⟩⟩⟩
      · rw [yw_eq, if_pos rfl]
      · rw [yw_nF (by decide), if_pos rfl]
/-- the class: the word at a point -/
theorem c_wordAt (hW : WLc n) (h18 : 0 ≤ n 3 t 18 ∧ n 3 t 18 ≤ 24000 ∧ 0 ≤ n 3 t 19 ∧ n 3 t 19 ≤ 200) (hs : n 3 t 11 = s ∧ 1 ≤ s ∧ s ≤ 3)
    (hwd : ∀ w, n 3 t 18 ≤ w → w < n 3 t 18 + n 3 t 19 → w < n 5 0 6 ∧ (n 99 (n 5 0 5) (6 * w + 3) = m 121 w ∧ n 99 (n 5 0 5) (6 * w + 4) = m 122 w ∧ n 99 (n 5 0 5) (6 * w + 5) = m 123 w) ∧ (-1000000000 ≤ m 121 w ∧ m 121 w ≤ 1000000000) ∧ (-1000000000 ≤ m 122 w ∧ m 122 w ≤ 1000000000) ∧ (0 ≤ m 123 w ∧ m 123 w ≤ 6000)) :
    (N_Layout_wordAt t px py n = some (-1) ∧ ∀ w, n 3 t 18 ≤ w → w < n 3 t 18 + n 3 t 19 → ¬ INw m px py s w) ∨ ∃ w, N_Layout_wordAt t px py n = some w ∧ n 3 t 18 ≤ w ∧ w < n 3 t 18 + n 3 t 19 ∧ INw m px py s w := by
  obtain ⟨w1, w2, w3, w4, w5⟩ := hW
  have lo : ∀ (z : Nat) (i : Int), (n 3 t 18 + n 3 t 19 - i).toNat = z → n 3 t 18 ≤ i → i ≤ n 3 t 18 + n 3 t 19 → (NL_Layout_wordAt_6 t px py i n = some (.inr ()) ∧ ∀ w, i ≤ w → w < n 3 t 18 + n 3 t 19 → ¬ INw m px py s w) ∨ ∃ w, NL_Layout_wordAt_6 t px py i n = some (.inl w) ∧ i ≤ w ∧ w < n 3 t 18 + n 3 t 19 ∧ INw m px py s w := by
    intro z
    induction z with
    | zero =>
      intro i hz i0 i1
      left
      refine ⟨?_, fun w x y => by omega⟩
      unfold NL_Layout_wordAt_6
      refine it_inr ?_
      show nb_Layout_wordAt_6 t px py i n = _
      unfold nb_Layout_wordAt_6
      rw [ck_e _ (by omega), if_neg (by omega)]
    | succ z ih =>
      intro i hz i0 i1
      have hlt : i < n 3 t 18 + n 3 t 19 := by omega
      obtain ⟨d0, ⟨d1, d2, d3⟩, d4, d5, d6⟩ := hwd i i0 hlt
      have hdx : ∀ j, 0 ≤ j → j < 6 → n 92 0 (n 5 0 5) = 0 ∧ 0 ≤ i * 6 + j ∧ i * 6 + j < n 93 0 (n 5 0 5) := fun j x y => ⟨w1.1, by omega, by omega⟩
      have hnb : nb_Layout_wordAt_6 t px py i n = if m 121 i ≤ px ∧ px < m 121 i + m 123 i ∧ m 122 i ≤ py ∧ py < m 122 i + 7 * s then some (.inr (.inl i)) else some (.inl (i + 1)) := by
        unfold nb_Layout_wordAt_6
        rw [show i * 6 + 3 = 6 * i + 3 by omega, show i * 6 + 4 = 6 * i + 4 by omega, show i * 6 + 5 = 6 * i + 5 by omega, d1, d2, d3, hs.1, ck_e _ (by omega), if_pos hlt, nn_g _ w5.1, ck_e _ (by omega), ck_e _ (by omega), dx_g _ (by rw [show 6 * i + 3 = i * 6 + 3 by omega]; exact hdx 3 (by decide) (by decide)), nn_g _ w5.1, ck_e _ (by omega), ck_e _ (by omega), dx_g _ (by rw [show 6 * i + 4 = i * 6 + 4 by omega]; exact hdx 4 (by decide) (by decide)), nn_g _ w5.1, ck_f _ (by omega), ck_f _ (by omega), dx_g _ (by rw [show 6 * i + 5 = i * 6 + 5 by omega]; exact hdx 5 (by decide) (by decide)), ck_f _ (by omega), ck_f _ (by omega), ck_f _ (by omega), ck_f _ (by omega)]
        by_cases z1 : px < m 121 i
        · rw [if_pos z1, if_neg (by omega)]
        · rw [if_neg z1]
          by_cases z2 : px < m 121 i + m 123 i
          · rw [if_pos z2]
            by_cases z3 : py < m 122 i
            · rw [if_pos z3, if_neg (by omega)]
            · rw [if_neg z3]
              by_cases z4 : py < m 122 i + 7 * s
              · rw [if_pos z4, if_pos (by omega)]
              · rw [if_neg z4, if_neg (by omega)]
          · rw [if_neg z2, if_neg (by omega)]
      by_cases zi : m 121 i ≤ px ∧ px < m 121 i + m 123 i ∧ m 122 i ≤ py ∧ py < m 122 i + 7 * s
      · rw [if_pos zi] at hnb
        right
        refine ⟨i, ?_, Int.le_refl _, hlt, zi⟩
        unfold NL_Layout_wordAt_6
        exact it_inr (f := fun s' : Int => nb_Layout_wordAt_6 t px py s' n) (s := i) hnb
      · rw [if_neg zi] at hnb
        have hst : NL_Layout_wordAt_6 t px py i n = NL_Layout_wordAt_6 t px py (i + 1) n := by
          unfold NL_Layout_wordAt_6
          exact it_inl (f := fun s' : Int => nb_Layout_wordAt_6 t px py s' n) (s := i) hnb
        rw [hst]
        rcases ih (i + 1) (by omega) (by omega) (by omega) with ⟨k1, k2⟩ | ⟨w, k1, k2, k3⟩
        · refine .inl ⟨k1, fun w x y => ?_⟩
          by_cases z : w = i
          · rw [z]; exact zi
          · exact k2 w (by omega) y
        · exact .inr ⟨w, k1, by omega, k3⟩
  unfold N_Layout_wordAt
  rcases lo (n 3 t 19).toNat (n 3 t 18) (by omega) (Int.le_refl _) (by omega) with ⟨k1, k2⟩ | ⟨w, k1, k2, k3⟩
  · rw [k1]; exact .inl ⟨rfl, k2⟩
  · rw [k1]; exact .inr ⟨w, rfl, k2, k3⟩
end YU
