/-! PIECES ON THE SCREEN: what is written in them (the reference) -/
def wlB : List Int → Int
  | [] => 0
  | c :: l => wdB c + wlB l
/-- painted, or not -/
def CUR (s lim P Q col : Int) (l : List Int) (m0 m1 : YS) : Prop := (INK s lim P Q l 0 ∧ m1 = yw m0 146 0 col) ∨ (¬ INK s lim P Q l 0 ∧ m1 = m0)
section YV
variable {n n' : NS} {m m' m1 m0 : YS} {A B N a b c x y s px py X Y W H lim i j k q u v w t L x0 X0 Y0 col P Q r : Int} {l l' : List Int} {o e p g : Int → Int} {s0 z : Int × Int × List Int}
theorem wlB_0 : ∀ l : List Int, 0 ≤ wlB l
  | [] => Int.le_refl _
  | c :: l => by
    have := wlB_0 l
    have := wdB_b (c := c)
    show 0 ≤ wdB c + wlB l
    omega
theorem wlB_app : ∀ l l' : List Int, wlB (l ++ l') = wlB l + wlB l'
  | [], l' => by show wlB l' = 0 + wlB l'; omega
  | c :: l, l' => by
    have := wlB_app l l'
    show wdB c + wlB (l ++ l') = wdB c + wlB l + wlB l'
    omega
theorem INK_app (hs : 1 ≤ s ∧ s ≤ 3) : ∀ (l l' : List Int) (x : Int), INK s lim P Q (l ++ l') x ↔ INK s lim P Q l x ∨ (x + wlB l * s ≤ lim ∧ INK s lim P Q l' (x + wlB l * s))
  | [], l', x => by
    show INK s lim P Q l' x ↔ False ∨ (x + 0 * s ≤ lim ∧ INK s lim P Q l' (x + 0 * s))
    rw [show x + 0 * s = x by omega]
    refine ⟨fun h => .inr ⟨?_, h⟩, fun h => h.elim False.elim (fun h => h.2)⟩
    cases l' with
    | nil => exact h.elim
    | cons c t =>
      have hw := wdB_b (c := c)
      have h0 : 0 ≤ wdB c * s := Int.mul_nonneg (by omega) (by omega)
      have := h.1
      omega
  | c :: l, l', x => by
    have g := INK_app hs l l' (x + wdB c * s)
    have hw := wdB_b (c := c)
    have h1 : 0 ≤ wlB l * s := Int.mul_nonneg (wlB_0 l) (by omega)
    have e : wlB (c :: l) * s = wdB c * s + wlB l * s := by show (wdB c + wlB l) * s = _; rw [Int.add_mul]
    show (x + wdB c * s ≤ lim ∧ ((¬ isBl c ∧ LIT c s x 0 P Q) ∨ INK s lim P Q (l ++ l') (x + wdB c * s))) ↔ (x + wdB c * s ≤ lim ∧ ((¬ isBl c ∧ LIT c s x 0 P Q) ∨ INK s lim P Q l (x + wdB c * s))) ∨ (x + wlB (c :: l) * s ≤ lim ∧ INK s lim P Q l' (x + wlB (c :: l) * s))
    rw [g, e, show x + (wdB c * s + wlB l * s) = x + wdB c * s + wlB l * s by omega]
    constructor
    · rintro ⟨h1, h2 | h2 | h2⟩
      · exact .inl ⟨h1, .inl h2⟩
      · exact .inl ⟨h1, .inr h2⟩
      · exact .inr h2
    · rintro (⟨h1, h2 | h2⟩ | ⟨h1, h2⟩)
      · exact ⟨h1, .inl h2⟩
      · exact ⟨h1, .inr (.inl h2)⟩
      · exact ⟨by omega, .inr (.inr ⟨h1, h2⟩)⟩
theorem INK_neg (hs : 1 ≤ s ∧ s ≤ 3) (hl : lim ≤ 0) : ¬ INK s lim P Q l 0 := by
  cases l with
  | nil => exact fun h => h
  | cons c t =>
    intro h
    have hw := wdB_b (c := c)
    have h0 : 0 < wdB c * s := Int.mul_pos (by omega) (by omega)
    have := h.1
    omega
theorem yw_tw {f : Nat} {i v : Int} : yw (yw m f i v) f i v = yw m f i v := by
  funext a b
  simp only [yw_app]
  split <;> rfl
/-- one letter more -/
theorem CUR.add (hs : 1 ≤ s ∧ s ≤ 3) (h : CUR s lim P Q col l m0 m1) (hf : l = [] ∨ wlB l * s ≤ lim) (hl : wlB l * s ≤ lim) (hc : ¬ isBl c) (hx : x = wlB l * s) (hw : x + gly c * s ≤ lim) (h2 : (LIT c s x 0 P Q ∧ m' = yw m1 146 0 col) ∨ (¬ LIT c s x 0 P Q ∧ m' = m1)) : CUR s lim P Q col (l ++ [c]) m0 m' := by
  have ei : INK s lim P Q (l ++ [c]) 0 ↔ INK s lim P Q l 0 ∨ LIT c s x 0 P Q := by
    rw [INK_app hs, Int.zero_add, ← hx]
    have e : wdB c = gly c := if_neg hc
    show _ ∨ (x ≤ lim ∧ x + wdB c * s ≤ lim ∧ ((¬ isBl c ∧ LIT c s x 0 P Q) ∨ False)) ↔ _
    rw [e]
    constructor
    · rintro (h | ⟨_, _, h | h⟩)
      · exact .inl h
      · exact .inr h.2
      · exact h.elim
    · rintro (h | h)
      · exact .inl h
      · exact .inr ⟨by omega, hw, .inl ⟨hc, h⟩⟩
  unfold CUR
  rw [ei]
  rcases h with ⟨a1, a2⟩ | ⟨a1, a2⟩
  · left
    refine ⟨.inl a1, ?_⟩
    rcases h2 with ⟨_, b2⟩ | ⟨_, b2⟩
    · rw [b2, a2, yw_tw]
    · rw [b2, a2]
  · rcases h2 with ⟨b1, b2⟩ | ⟨b1, b2⟩
    · left; exact ⟨.inr b1, by rw [b2, a2]⟩
    · right; exact ⟨fun h => h.elim a1 b1, by rw [b2, a2]⟩
theorem CUR.bl (hs : 1 ≤ s ∧ s ≤ 3) (h : CUR s lim P Q col l m0 m1) (hc : isBl c) : CUR s lim P Q col (l ++ [c]) m0 m1 := by
  have ei : INK s lim P Q (l ++ [c]) 0 ↔ INK s lim P Q l 0 := by
    rw [INK_app hs]
    show _ ∨ (_ ∧ _ ∧ ((¬ isBl c ∧ _) ∨ False)) ↔ _
    constructor
    · rintro (h | ⟨_, _, h | h⟩)
      · exact h
      · exact absurd hc h.1
      · exact h.elim
    · exact .inl
  unfold CUR
  rw [ei]; exact h
/-- no room for more -/
theorem CUR.full (hs : 1 ≤ s ∧ s ≤ 3) (h : CUR s lim P Q col l m0 m1) (hw : lim < wlB l * s + wdB c * s) (l' : List Int) : CUR s lim P Q col (l ++ c :: l') m0 m1 := by
  have ei : INK s lim P Q (l ++ c :: l') 0 ↔ INK s lim P Q l 0 := by
    rw [INK_app hs, Int.zero_add]
    refine ⟨fun h => h.elim id (fun h => ?_), .inl⟩
    have := h.2.1
    omega
  unfold CUR
  rw [ei]; exact h
/-- INPUT: its value -/
theorem y_inpL (hv : 0 ≤ v ∧ v < 120) (hs : 1 ≤ s ∧ s ≤ 3) (hp : 0 ≤ px ∧ px ≤ 1000 ∧ 0 ≤ py ∧ py ≤ 1000) (h65 : 0 ≤ m 65 v ∧ m 65 v ≤ 24) (hby : ∀ j, 0 ≤ j → j < m 65 v → 0 ≤ m 64 (24 * v + j) ∧ m 64 (24 * v + j) ≤ 255) (hX : -800000000 ≤ m 110 v ∧ m 110 v ≤ 800000000) (hY : -800000000 ≤ m 111 v ∧ m 111 v ≤ 800000000) (hW : 0 ≤ m 112 v ∧ m 112 v ≤ 2000000) (hE : 0 ≤ x0 ∧ x0 ≤ 23) (hcol : col = m 105 (11 * v + 1)) (hm0 : ∀ f, f ≠ 146 → f ≠ 147 → m0 f = m f) :
    ∀ (z : Nat) (x j : Int) (m1 : YS), (m 65 v - j).toNat = z → 0 ≤ j → j ≤ m 65 v → x = wlB (sg (m 64) (24 * v) j.toNat) * s → CUR s (m 112 v - 2 * x0) (px - (m 110 v + x0)) (py - (m 111 v + x0)) col (sg (m 64) (24 * v) j.toNat) m0 m1 → (j = 0 ∨ x ≤ m 112 v - 2 * x0) →
      ∃ m', (NL_Y_paintInput_99 v px py x0 s (m 110 v + x0 + x) j m1 = some (.inl m') ∨ NL_Y_paintInput_99 v px py x0 s (m 110 v + x0 + x) j m1 = some (.inr m')) ∧ CUR s (m 112 v - 2 * x0) (px - (m 110 v + x0)) (py - (m 111 v + x0)) col (sg (m 64) (24 * v) (m 65 v).toNat) m0 m' := by
  intro z
  induction z with
  | zero =>
    intro x j m1 hz j0 j1 hx hC hfit
    have hf : ∀ f, f ≠ 146 → f ≠ 147 → m1 f = m f := fun f a b => by
      rcases hC with ⟨_, e⟩ | ⟨_, e⟩
      · rw [e, yw_nF a]; exact hm0 f a b
      · rw [e]; exact hm0 f a b
    refine ⟨m1, .inr ?_, by rw [show (m 65 v).toNat = j.toNat by omega]; exact hC⟩
    unfold NL_Y_paintInput_99
    refine it_inr ?_
    show nb_Y_paintInput_99 v px py x0 s (m 110 v + x0 + x) j m1 = _
    unfold nb_Y_paintInput_99
    rw [ix_e _ hv, hf 65 (by decide) (by decide), if_neg (by omega)]
  | succ z ih =>
    intro x j m1 hz j0 j1 hx hC hfit
    have hf : ∀ f, f ≠ 146 → f ≠ 147 → m1 f = m f := fun f a b => by
      rcases hC with ⟨_, e⟩ | ⟨_, e⟩
      · rw [e, yw_nF a]; exact hm0 f a b
      · rw [e]; exact hm0 f a b
    have hlt : j < m 65 v := by omega
    obtain ⟨c, hc⟩ : ∃ c, c = m 64 (24 * v + j) := ⟨_, rfl⟩
    have hcb := hby j j0 hlt
    rw [← hc] at hcb
    obtain ⟨lj, hlj⟩ : ∃ lj, lj = sg (m 64) (24 * v) j.toNat := ⟨_, rfl⟩
    have hnext : sg (m 64) (24 * v) (j + 1).toNat = lj ++ [c] := by
      rw [show (j + 1).toNat = j.toNat + 1 by omega, sg_app, ← hlj, show 24 * v + ((j.toNat : Nat) : Int) = 24 * v + j by omega, hc]; rfl
    have htot : ∃ l', sg (m 64) (24 * v) (m 65 v).toNat = lj ++ c :: l' := by
      refine ⟨sg (m 64) (24 * v + j + 1) (m 65 v - j - 1).toNat, ?_⟩
      rw [show (m 65 v).toNat = j.toNat + ((m 65 v - j - 1).toNat + 1) by omega, sg_app, ← hlj, show 24 * v + ((j.toNat : Nat) : Int) = 24 * v + j by omega, hc]; rfl
    rw [← hlj] at hx hC
    have hw := wdB_b (c := c)
    obtain ⟨G, hG⟩ : ∃ G, G = wdB c * s := ⟨_, rfl⟩
    have hGb : 2 ≤ G ∧ G ≤ 15 := by rw [hG]; rcases s123 hs with e | e | e <;> subst e <;> omega
    have hwl : wlB (lj ++ [c]) * s = x + G := by
      rw [wlB_app, Int.add_mul, ← hx, hG]
      show x + (wdB c + 0) * s = _
      rw [Int.add_zero]
    have hx0 : 0 ≤ x := by rw [hx]; exact Int.mul_nonneg (wlB_0 _) (by omega)
    have hxb : x ≤ 2000000 := by
      rcases hfit with e | e
      · have : lj = [] := by rw [hlj, e]; rfl
        rw [hx, this]; show 0 * s ≤ _; omega
      · omega
    obtain ⟨w, hw1, hw2⟩ : ∃ w, N_Y_isBlank c m1 = some w ∧ ((w = 0 ∧ ¬ isBl c) ∨ (w ≠ 0 ∧ isBl c)) := by
      obtain ⟨w, a1, a2⟩ := ys_blank (b := c) (m := m1)
      refine ⟨w, a1, ?_⟩
      unfold bz at a2
      omega
    have hnb : nb_Y_paintInput_99 v px py x0 s (m 110 v + x0 + x) j m1 = nk_Y_paintInput_147 v px py x0 s (m 110 v + x0 + x) j c G m1 := by
      unfold nb_Y_paintInput_99
      rw [hf 65 (by decide) (by decide), hf 64 (by decide) (by decide), ← hc, ix_e _ hv, if_pos hlt, ck_e _ (by omega), ck_e _ (by omega), ix_e _ (by omega), hw1]
      simp only [Option.bind_some]
      rcases hw2 with ⟨g1, g2⟩ | ⟨g1, g2⟩
      · have e : gly c * s = G := by rw [hG]; unfold wdB; rw [if_neg g2]
        rw [if_pos g1, ys_glyph]
        simp only [Option.bind_some]
        rw [e, ck_e _ (by omega)]
      · have e : 3 * s = G := by rw [hG]; unfold wdB; rw [if_pos g2]
        rw [if_neg g1, e, ck_e _ (by omega)]
    unfold nk_Y_paintInput_147 at hnb
    rw [hf 110 (by decide) (by decide), hf 111 (by decide) (by decide), hf 112 (by decide) (by decide), ck_f _ (by omega), ix_e _ hv, ix_e _ hv, ck_f _ (by omega), ck_f _ (by omega), hw1] at hnb
    by_cases zr : m 110 v + m 112 v - x0 < m 110 v + x0 + x + G
    · rw [if_pos zr] at hnb
      obtain ⟨l', hl'⟩ := htot
      refine ⟨m1, .inl ?_, ?_⟩
      · unfold NL_Y_paintInput_99
        exact it_inr (f := fun s' : Int × Int × YS => nb_Y_paintInput_99 v px py x0 s s'.1 s'.2.1 s'.2.2) (s := (m 110 v + x0 + x, j, m1)) hnb
      · rw [hl']
        exact hC.full hs (by rw [← hx, ← hG]; omega) l'
    · rw [if_neg zr] at hnb
      simp only [Option.bind_some] at hnb
      have go : ∀ m2, nb_Y_paintInput_99 v px py x0 s (m 110 v + x0 + x) j m1 = nk_Y_paintInput_204 v px py x0 s (m 110 v + x0 + x) j G m2 → CUR s (m 112 v - 2 * x0) (px - (m 110 v + x0)) (py - (m 111 v + x0)) col (lj ++ [c]) m0 m2 → ∃ m', (NL_Y_paintInput_99 v px py x0 s (m 110 v + x0 + x) j m1 = some (.inl m') ∨ NL_Y_paintInput_99 v px py x0 s (m 110 v + x0 + x) j m1 = some (.inr m')) ∧ CUR s (m 112 v - 2 * x0) (px - (m 110 v + x0)) (py - (m 111 v + x0)) col (sg (m 64) (24 * v) (m 65 v).toNat) m0 m' := fun m2 h2 hC2 => by
        unfold nk_Y_paintInput_204 at h2
        rw [ck_f _ (by omega), ck_e _ (by omega)] at h2
        have hst : NL_Y_paintInput_99 v px py x0 s (m 110 v + x0 + x) j m1 = NL_Y_paintInput_99 v px py x0 s (m 110 v + x0 + (x + G)) (j + 1) m2 := by
          rw [show m 110 v + x0 + (x + G) = m 110 v + x0 + x + G by omega]
          unfold NL_Y_paintInput_99
          exact it_inl (f := fun s' : Int × Int × YS => nb_Y_paintInput_99 v px py x0 s s'.1 s'.2.1 s'.2.2) (s := (m 110 v + x0 + x, j, m1)) h2
        rw [hst]
        exact ih (x + G) (j + 1) m2 (by omega) (by omega) (by omega) (by rw [hnext, hwl]) (by rw [hnext]; exact hC2) (.inr (by omega))
      rcases hw2 with ⟨g1, g2⟩ | ⟨g1, g2⟩
      · rw [if_pos g1, ix_e _ hv, ck_f _ (by omega)] at hnb
        have e : wdB c = gly c := if_neg g2
        have mv := LIT.mv (c := c) (s := s) (X := m 110 v + x0) (x := x) (Y := m 111 v + x0) (px := px) (py := py)
        have e105 : m1 105 = m 105 := hf 105 (by decide) (by decide)
        rcases y_letter (m := m1) (q := v) hcb hs (x := m 110 v + x0 + x) (y := m 111 v + x0) (by omega) (by omega) hp hv with ⟨k1, k2⟩ | ⟨k1, k2⟩
        · rw [k1] at hnb
          simp only [Option.bind_some] at hnb
          exact go _ hnb (hC.add hs (by rw [← hx]; exact hfit.elim (fun z => .inl (by rw [hlj, z]; rfl)) .inr) (by rw [← hx]; omega) g2 hx (by rw [← e, ← hG]; omega) (.inl ⟨mv.mp k2, by rw [e105, ← hcol]⟩))
        · rw [k1] at hnb
          simp only [Option.bind_some] at hnb
          exact go _ hnb (hC.add hs (by rw [← hx]; exact hfit.elim (fun z => .inl (by rw [hlj, z]; rfl)) .inr) (by rw [← hx]; omega) g2 hx (by rw [← e, ← hG]; omega) (.inr ⟨fun h => k2 (mv.mpr h), rfl⟩))
      · rw [if_neg g1] at hnb
        exact go m1 hnb (hC.bl hs g2)
end YV
