/-! A NODE ON THE SCREEN, in both: TEXTS -/
/-- a word is as wide as its letters -/
def WID (n : NS) (m : YS) : Prop := ∀ w, 0 ≤ w → w < n 5 0 6 → m 123 w = wdL (wLs m (m 118 w) w) * szW m w
/-- what a picture is made of -/
def PST (A B N : Int) (o e p o2 e2 p2 : Int → Int) (n : NS) (m : YS) : Prop := (JT n m N o e p ∧ LSt n N o e ∧ BI A B n ∧ CHK n) ∧ (LAYD N o2 e2 p2 n m ∧ ∀ k, 0 ≤ k → k < N → o2 k = o k) ∧ DSJ n m ∧ WID n m
section YY
variable {n n' : NS} {m m' m1 m0 : YS} {A B N a b c x y s px py X Y W H lim i j k q u v w w' t L x0 X0 Y0 col P Q r fg bg : Int} {l l' : List Int} {o e p o2 e2 p2 g : Int → Int}
theorem wdL_app : ∀ l l' : List Int, wdL (l ++ l') = wdL l + wdL l'
  | [], l' => by show wdL l' = 0 + wdL l'; omega
  | c :: l, l' => by
    have := wdL_app l l'
    show gly c + wdL (l ++ l') = gly c + wdL l + wdL l'
    omega
theorem wdL_sg : ∀ k : Nat, wdL (sg (m 61) (400 * t + i) k) = wdS (fun j => m 61 (400 * t + j)) i k
  | 0 => rfl
  | k + 1 => by
    have g := wdL_sg k
    rw [sg_app, wdL_app, g]
    show wdS (fun j => m 61 (400 * t + j)) i k + (gly (m 61 (400 * t + i + k)) + 0) = wdS (fun j => m 61 (400 * t + j)) i k + gly (m 61 (400 * t + (i + k)))
    rw [show 400 * t + (i + (k : Int)) = 400 * t + i + k by omega]
    omega
/-- a word is as wide as its letters -/
theorem LAYD.wid (h : LAYD N o e p n m) : WID n m := fun w x y => by
  obtain ⟨r, _, _, _, _, r4, d1, d2, d3, d4, d5, d6, d7⟩ := h.wd x y
  unfold szW wLs
  rw [d2, wdL_sg, d4.2.2, r4.2.2.2.1.1]
theorem dsj_lt (hD : DSJ n m) (hb : b ≤ n 5 0 6) (ha : 0 ≤ a) (ht : ∀ w, a ≤ w → w < b → m 118 w = t) (hs : s = m 105 (11 * m 49 t + 8) ∧ 1 ≤ s) (hW : ∀ w, a ≤ w → w < b → 0 ≤ m 123 w) : ∀ (z : Nat) (w w' : Int), (w' - w).toNat = z → a ≤ w → w < w' → w' < b → (m 122 w = m 122 w' ∧ m 121 w + m 123 w ≤ m 121 w') ∨ m 122 w + 7 * s ≤ m 122 w' := by
  have one : ∀ w, a ≤ w → w + 1 < b → (m 122 w = m 122 (w + 1) ∧ m 121 w + m 123 w ≤ m 121 (w + 1)) ∨ m 122 w + 7 * s ≤ m 122 (w + 1) := fun w x y => by
    have t1 := ht w x (by omega)
    have t2 := ht (w + 1) (by omega) y
    have g := hD w (by omega) (by omega) (by rw [t1, t2])
    unfold PRr szW at g
    rw [t1, t2, ← hs.1] at g
    omega
  intro z
  induction z with
  | zero => intro w w' hz; intros; omega
  | succ z ih =>
    intro w w' hz x y y'
    by_cases h1 : w' = w + 1
    · rw [h1]; exact one w x (by omega)
    · have g1 := ih w (w' - 1) (by omega) x (by omega) (by omega)
      have g2 := one (w' - 1) (by omega) (by omega)
      rw [show w' - 1 + 1 = w' by omega] at g2
      have := hW (w' - 1) (by omega) (by omega)
      omega
theorem dsj_u (hD : DSJ n m) (hb : b ≤ n 5 0 6) (ha : 0 ≤ a) (ht : ∀ w, a ≤ w → w < b → m 118 w = t) (hs : s = m 105 (11 * m 49 t + 8) ∧ 1 ≤ s) (hW : ∀ w, a ≤ w → w < b → 0 ≤ m 123 w) (hw : a ≤ w) (hw' : w < w') (hb' : w' < b) (h1 : INw m px py s w) : ¬ INw m px py s w' := fun h2 => by
  have g := dsj_lt hD hb ha ht hs hW (w' - w).toNat w w' rfl hw hw' hb'
  unfold INw INr at h1 h2
  omega
theorem c_wordAt0 (h18 : 0 ≤ n 3 t 18 ∧ n 3 t 18 ≤ 24000) (h19 : n 3 t 19 = 0) : N_Layout_wordAt t px py n = some (-1) := by
  unfold N_Layout_wordAt
  have : NL_Layout_wordAt_6 t px py (n 3 t 18) n = some (.inr ()) := by
    unfold NL_Layout_wordAt_6
    refine it_inr ?_
    show nb_Layout_wordAt_6 t px py (n 3 t 18) n = _
    unfold nb_Layout_wordAt_6
    rw [h19, ck_e _ (by omega), if_neg (by omega)]
  rw [this]; rfl
/-- a TEXT: which color, and whether it is hit -/
theorem text_pt (hP : PST A B N o e p o2 e2 p2 n m) (r0 : 0 ≤ r) (r1 : r < N) (h6 : m 107 (o r) = 6) (hp : 0 ≤ px ∧ px ≤ 1000 ∧ 0 ≤ py ∧ py ≤ 1000) (hf : ∀ f, f ≠ 146 → f ≠ 147 → m1 f = m f) :
    ∃ m' hit col, nb_Y_paint_38 px py r m1 = some (.inl (r + 1, m')) ∧ PEf (o r) m1 m' hit col ∧ N_Layout_wordColorAt (o r) px py n = some col ∧ -1 ≤ col ∧ ((hit = 0 ∧ N_Layout_wordAt (o r) px py n = some (-1)) ∨ (hit = 1 ∧ ∃ w, w ≠ -1 ∧ N_Layout_wordAt (o r) px py n = some w)) := by
  obtain ⟨⟨hT, hLs, hB, hK⟩, ⟨hL, ho2⟩, hD, hWi⟩ := hP
  have hG := hT.1.1
  have hN := hG.N1
  have hv := hG.oB r0 r1
  obtain ⟨t, ht⟩ : ∃ t, t = o r := ⟨_, rfl⟩
  rw [← ht] at hv h6 ⊢
  have e2r : o2 r = t := (ho2 r r0 r1).trans ht.symm
  have hM := hL.1.2.1 r r0 r1
  have hx := hM.tx (by rw [e2r]; exact h6)
  have hbx : m 46 t = 17 ∧ BXf n m t (m 49 t) := by
    rcases hM with ⟨w, _⟩ | ⟨_, w | w | w | w | w⟩
    · rw [e2r] at w; omega
    · have := w.1; rw [e2r] at this; omega
    · have := w.1; rw [e2r] at this; omega
    · rw [e2r] at w; omega
    · rw [e2r] at w; omega
    · rw [e2r] at w; exact ⟨w.2.2.1, w.2.2.2.1⟩
  rw [e2r] at hx
  obtain ⟨x1, x2, x3, x4, x5, x6⟩ := hx
  obtain ⟨s, hs⟩ : ∃ s, s = m 105 (11 * m 49 t + 8) := ⟨_, rfl⟩
  have hs2 : s = m 105 (11 * m 49 t + 8) ∧ 1 ≤ s ∧ s ≤ 3 := ⟨hs, by omega, by omega⟩
  have hfg : n 3 t 9 = m 105 (11 * m 49 t + 1) ∧ 0 ≤ n 3 t 9 := ⟨hbx.2.2.1.1, hbx.2.2.2.2.2.2.2.1.1⟩
  obtain ⟨a, ha⟩ : ∃ a, a = m 116 t := ⟨_, rfl⟩
  obtain ⟨b, hb⟩ : ∃ b, b = a + n 3 t 19 := ⟨_, rfl⟩
  have hbn : b ≤ n 5 0 6 := by omega
  have hW6 := hL.2.2.2.2.1.1.1.2.2.1
  have wd : ∀ w, a ≤ w → w < b → WDi n m (m 109 t) t w := fun w x y => x5 w (by omega) (by omega)
  have pl : ∀ w, a ≤ w → w < b → _ := fun w x y => hL.2.2.2.1 w (by omega) (by omega)
  -- bytes
  have hnd : ND n m t := by rw [ht]; exact hT.2.2.2 r r0 r1
  obtain ⟨t1, t2, t3, _⟩ := hnd.2.2.2.2.1 hbx.1
  have hby : ∀ j, 0 ≤ j → j < m 62 t → 0 ≤ m 61 (400 * t + j) ∧ m 61 (400 * t + j) ≤ 255 := fun j x y => isTx_b (sg_all (g := m 61) (i := 400 * t) (k := m 62 t) t2 (by omega) (by omega))
  have hrow : ∀ j, 0 ≤ j → j < m 62 t → n 99 (n 4 (5 * t) 1) j = m 61 (400 * t + j) := fun j x y => by
    have g := sg_pw (m 62 t).toNat 0 (400 * t) (by have := t3; unfold bt txL at this; rw [x2.1] at this; exact this) j.toNat (by omega)
    rw [show (0 : Int) + ((j.toNat : Nat) : Int) = j by omega, show 400 * t + ((j.toNat : Nat) : Int) = 400 * t + j by omega] at g
    exact g
  have ht118 : ∀ w, a ≤ w → w < b → m 118 w = t := fun w x y => (wd w x y).2.1
  have hU : ∀ w w', a ≤ w → w < w' → w' < b → INw m px py s w → ¬ INw m px py s w' := fun w w' x y y' h => dsj_u hD hbn (by omega) ht118 ⟨hs, by omega⟩ (fun w x y => (wd w x y).2.2.2.1.1) x y y' h
  have nbl : ∀ w, a ≤ w → w < b → ∀ c ∈ wLs m t w, ¬ isBl c := fun w x y => by
    obtain ⟨_, _, _, _, d5, _, d7⟩ := wd w x y
    refine sg_mem _ _ (fun z hz => ?_)
    have := d7 (m 119 w + z) (by omega) (by omega)
    rw [show 400 * t + (m 119 w + (z : Int)) = 400 * t + m 119 w + z by omega] at this
    exact this
  have dw : ∀ w, a ≤ w → w < b → (-1000000000 ≤ m 121 w ∧ m 121 w ≤ 1000000000) ∧ (-1000000000 ≤ m 122 w ∧ m 122 w ≤ 1000000000) ∧ (0 ≤ m 123 w ∧ m 123 w ≤ 6000) ∧ (0 ≤ m 119 w ∧ 0 ≤ m 120 w ∧ m 119 w + m 120 w ≤ m 62 t) := fun w x y => by
    obtain ⟨_, _, _, d4, d5, _, _⟩ := wd w x y
    have g := pl w x y
    exact ⟨g.2.1, g.2.2, ⟨d4.1, d4.2.1⟩, by omega⟩
  -- the reference
  have hend : (if r + 1 < N then m 116 (o (r + 1)) else m 117 0) = b := by
    have g := hL.2.1.2.2.2 r r0 r1 (by rw [e2r]; exact h6)
    rw [e2r] at g
    by_cases z : r + 1 < N
    · rw [if_pos z] at g ⊢
      rw [ho2 (r + 1) (by omega) z] at g
      omega
    · rw [if_neg z] at g ⊢
      rw [← hL.2.1.2.1]; omega
  obtain ⟨m', hit, col, r1', r2', r3'⟩ := y_ptx (m := m) (x0 := r) (a := a) (b := b) (px := px) (py := py) hv x4.2.2.2 hs2 hp (by omega) hby ⟨by omega, by omega⟩ dw hU (by rw [← hfg.1]; omega) (b - a).toNat a m1 rfl (Int.le_refl _) (by omega) hf
  have f' : ∀ f, f ≠ 146 → f ≠ 147 → m' f = m f := fun f x y => (r2'.1 f x y).trans (hf f x y)
  have h124 : ∀ j, 0 ≤ j → j < N → m1 124 j = o j := fun j x y => by rw [hf 124 (by decide) (by decide), hL.2.1.1.2 j x y]; exact ho2 j x y
  have hy : nb_Y_paint_38 px py r m1 = some (.inl (r + 1, m')) := by
    have h241 : nk_Y_paint_241 px py r t m' = some (.inl (r + 1, m')) := by
      unfold nk_Y_paint_241 nk_Y_paint_272
      simp only [ix_e _ hv]
      rw [f' 107 (by decide) (by decide), if_neg (by omega), if_neg (by omega), ck_e _ (by omega)]
    have h96 : nk_Y_paint_96 px py r t b m1 = some (.inl (r + 1, m')) := by
      unfold nk_Y_paint_96
      rw [ix_e _ hv, hf 116 (by decide) (by decide), ← ha, r1']
      exact h241
    unfold nb_Y_paint_38
    rw [hf 125 (by decide) (by decide), hL.2.1.1.1, if_pos r1, ix_e _ (by omega), h124 r r0 r1, ← ht, ix_e _ hv, hf 107 (by decide) (by decide), if_pos h6, ck_e _ (by omega)]
    by_cases z : r + 1 < N
    · rw [if_pos z] at hend ⊢
      rw [ck_e _ (by omega), ix_e _ (by omega), h124 (r + 1) (by omega) z, ix_e _ (hG.oB (by omega) z), hf 116 (by decide) (by decide), hend]
      exact h96
    · rw [if_neg z] at hend ⊢
      rw [hf 117 (by decide) (by decide), hend]
      exact h96
  -- the class
  have hWc := hL.2.2.2.2.1.1.1
  obtain ⟨w1, w2, w3, w4, w5⟩ := hWc
  have hc := c_wordAt (n := n) (m := m) (t := t) (s := s) (px := px) (py := py) hL.2.2.2.2.1.1.1 (by omega) ⟨by omega, by omega, by omega⟩ (fun w x y => by
    obtain ⟨d1, d2, d3, d4, d5, _, _⟩ := wd w (by omega) (by omega)
    have g := pl w (by omega) (by omega)
    exact ⟨d1.2.1, ⟨g.1.1, g.1.2, d3.2.2⟩, g.2.1, g.2.2, ⟨d4.1, d4.2.1⟩⟩)
  have hdx : ∀ w j, 0 ≤ w → w < n 5 0 6 → 0 ≤ j → j < 6 → n 92 0 (n 5 0 5) = 0 ∧ 0 ≤ w * 6 + j ∧ w * 6 + j < n 93 0 (n 5 0 5) := fun w j x y x' y' => ⟨w1.1, by omega, by omega⟩
  rcases hc with ⟨c1, c2⟩ | ⟨w, c1, c2, c3, c4⟩
  · -- no word
    rcases r3' with ⟨q1, q2, q3⟩ | ⟨w, q1, q2⟩
    · refine ⟨m', hit, col, hy, r2', ?_, by omega, .inl ⟨q2, c1⟩⟩
      unfold N_Layout_wordColorAt
      rw [ix_e _ hv, c1, q3]; rfl
    · exact absurd q1.2.2 (c2 w (by omega) (by omega))
  · rcases r3' with ⟨q1, q2, q3⟩ | ⟨w', ⟨q1, q1', q1''⟩, q2, q3⟩
    · exact absurd c4 (q1 w (by omega) (by omega))
    · have ew : w' = w := by
        rcases Int.lt_trichotomy w w' with z | z | z
        · exact absurd q1'' (hU w w' (by omega) z q1' c4)
        · exact z.symm
        · exact absurd c4 (hU w' w q1 z (by omega) q1'')
      rw [ew] at q3
      refine ⟨m', hit, col, hy, r2', ?_, by omega, .inr ⟨q2, w, by omega, c1⟩⟩
      obtain ⟨d1, d2, d3, d4, d5, d6, d7⟩ := wd w (by omega) (by omega)
      have g := pl w (by omega) (by omega)
      have hw6 := d1.2.1
      have hlen : n 4 (5 * t) 2 = m 62 t := x2.1
      -- the letters
      have hlist : sg (n 99 (n 4 (5 * t) 1)) (m 119 w) (n 4 (5 * t) 2 - m 119 w).toNat = wLs m t w ++ sg (m 61) (400 * t + m 119 w + m 120 w) (m 62 t - m 119 w - m 120 w).toNat := by
        have e1 : sg (n 99 (n 4 (5 * t) 1)) (m 119 w) (n 4 (5 * t) 2 - m 119 w).toNat = sg (m 61) (400 * t + m 119 w) (m 62 t - m 119 w).toNat := by
          rw [hlen]
          refine sg_cg _ _ _ (fun z hz => ?_)
          rw [hrow (m 119 w + z) (by omega) (by omega), show 400 * t + (m 119 w + (z : Int)) = 400 * t + m 119 w + z by omega]
        rw [e1, show (m 62 t - m 119 w).toNat = (m 120 w).toNat + (m 62 t - m 119 w - m 120 w).toNat by omega, sg_app]
        unfold wLs
        rw [show 400 * t + m 119 w + (((m 120 w).toNat : Nat) : Int) = 400 * t + m 119 w + m 120 w by omega]
      have hlim : m 123 w = 0 + wdL (wLs m t w) * s := by
        have g := hWi w (by omega) hw6
        unfold szW at g
        rw [d2, ← hs] at g
        omega
      have hink : INK s (m 123 w) (px - m 121 w) (py - m 122 w) (sg (n 99 (n 4 (5 * t) 1)) (m 119 w) (n 4 (5 * t) 2 - m 119 w).toNat) 0 ↔ LTw m px py s t w := by
        rw [hlist, INK_word hs2.2 (wLs m t w) 0 (nbl w (by omega) (by omega)) hlim]
        unfold LTw
        have g := LTS.mv (s := s) (Y := m 122 w) (px := px) (py := py) (X := m 121 w) (wLs m t w) 0
        rw [Int.add_zero] at g
        exact g.symm
      have hlo := c_letOn (n := n) (b := 5 * t) (i := m 119 w) (s := s) (lim := m 123 w) (x := px - m 121 w) (y := py - m 122 w) hB (by omega) (by omega) (fun j x y => by rw [hrow j x (by omega)]; exact hby j x (by omega)) (by omega) hs2.2 (by omega) (by omega) (by omega)
      have hsl : n 3 t 11 = s := by omega
      have hrd : ∀ j, 0 ≤ j → j < 6 → n 92 0 (n 5 0 5) = 0 ∧ 0 ≤ w * 6 + j ∧ w * 6 + j < n 93 0 (n 5 0 5) := fun j x y => hdx w j (by omega) hw6 x y
      have hcc : N_Layout_wordColorAt t px py n = (N_Layout_isLetterOn (5 * t) (m 119 w) (m 123 w) s (px - m 121 w) (py - m 122 w) n).bind fun z39 => if z39 = 0 then some (-1) else some (n 3 t 9) := by
        unfold N_Layout_wordColorAt
        rw [ix_e _ hv, c1]
        simp only [Option.bind_some]
        rw [if_neg (by omega), dx_g _ (hrd 1 (by decide) (by decide)), dx_g _ (hrd 3 (by decide) (by decide)), dx_g _ (hrd 4 (by decide) (by decide)), dx_g _ (hrd 5 (by decide) (by decide)), nn_g _ w5.1]
        simp only [nn_g _ w5.1, ix_e _ hv]
        rw [show w * 6 + 1 = 6 * w + 1 by omega, show w * 6 + 3 = 6 * w + 3 by omega, show w * 6 + 4 = 6 * w + 4 by omega, show w * 6 + 5 = 6 * w + 5 by omega, d3.1, g.1.1, g.1.2, d3.2.2, hsl]
        rw [ck_f (a := w * 6) _ (by omega), ck_f (a := 6 * w + 1) _ (by omega), ck_f (a := w * 6) _ (by omega), ck_f (a := 6 * w + 3) _ (by omega), ck_f (a := px - m 121 w) _ (by omega), ck_f (a := w * 6) _ (by omega), ck_f (a := 6 * w + 4) _ (by omega), ck_f (a := py - m 122 w) _ (by omega), ck_f (a := w * 6) _ (by omega), ck_f (a := 6 * w + 5) _ (by omega)]
      rw [hcc]
      rcases q3 with ⟨k1, k2⟩ | ⟨k1, k2⟩
      · rcases hlo with ⟨l1, l2⟩ | ⟨l1, l2⟩
        · rw [l1, k2, ← hfg.1]; rfl
        · exact absurd (hink.mpr k1) l2
      · rcases hlo with ⟨l1, l2⟩ | ⟨l1, l2⟩
        · exact absurd (hink.mp l2) k1
        · rw [l1, k2]; rfl
end YY
