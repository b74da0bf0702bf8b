/-! BOXES AND PIECES ON THE SCREEN, in both -/
def bxC (px py X Y W H b fg bg : Int) : Int := if INr px py X Y W H then (if INr px py (X + b) (Y + b) (W - 2 * b) (H - 2 * b) then bg else fg) else -1
section YX
variable {n n' : NS} {m m' m1 m0 : YS} {A B N a b c x y s px py X Y W H lim i j k q u v w t L x0 X0 Y0 col P Q r fg bg : Int} {l l' : List Int} {o e p g : Int → Int} {s0 z : Int × Int × List Int}
theorem isTx_b (h : isTx c) : 0 ≤ c ∧ c ≤ 255 := by unfold isTx at h; omega
theorem c_boxCol (h2 : -800000000 ≤ n 3 v 2 ∧ n 3 v 2 ≤ 800000000) (h3 : -800000000 ≤ n 3 v 3 ∧ n 3 v 3 ≤ 800000000) (h4 : 0 ≤ n 3 v 4 ∧ n 3 v 4 ≤ 2000000) (h5 : 0 ≤ n 3 v 5 ∧ n 3 v 5 ≤ 2000000) (h7 : 0 ≤ n 3 v 7 ∧ n 3 v 7 ≤ 3) : N_Box_colorAt v px py n = some (bxC px py (n 3 v 2) (n 3 v 3) (n 3 v 4) (n 3 v 5) (n 3 v 7) (n 3 v 9) (n 3 v 10)) := by
  have g0 := c_holds (n := n) (v := v) (px := px) (py := py) (E := 0) h2 h3 h4 h5 (by decide)
  rw [Int.add_zero, Int.add_zero, Int.mul_zero, Int.sub_zero, Int.sub_zero] at g0
  have g1 := c_holds (n := n) (v := v) (px := px) (py := py) (E := n 3 v 7) h2 h3 h4 h5 (by omega)
  unfold N_Box_colorAt bxC
  rcases g0 with ⟨a1, a2⟩ | ⟨a1, a2⟩
  · rw [a1, if_pos a2]
    simp only [Option.bind_some]
    rw [if_neg (by decide)]
    rcases g1 with ⟨b1, b2⟩ | ⟨b1, b2⟩
    · rw [b1, if_pos b2]; rfl
    · rw [b1, if_neg b2]; rfl
  · rw [a1, if_neg a2]; rfl
/-- the reference: frame and ground -/
theorem y_pbox (hv : 0 ≤ v ∧ v < 120) (hX : -800000000 ≤ m 110 v ∧ m 110 v ≤ 800000000) (hY : -800000000 ≤ m 111 v ∧ m 111 v ≤ 800000000) (hW : 0 ≤ m 112 v ∧ m 112 v ≤ 2000000) (hH : 0 ≤ m 113 v ∧ m 113 v ≤ 2000000) (hb : b = m 105 (11 * v + 5) ∧ 0 ≤ b ∧ b ≤ 3) (hfg : fg = m 105 (11 * v + 1) ∧ 0 ≤ fg) (hbg : bg = m 105 (11 * v + 2)) (hin : INr px py (m 110 v) (m 111 v) (m 112 v) (m 113 v)) (hf : ∀ f, f ≠ 146 → f ≠ 147 → m1 f = m f) :
    ∃ m', N_Y_paintBox v px py m1 = some m' ∧ (∀ f, f ≠ 146 → m' f = m1 f) ∧ m' 146 0 = (if bxC px py (m 110 v) (m 111 v) (m 112 v) (m 113 v) b fg bg = -1 then m1 146 0 else bxC px py (m 110 v) (m 111 v) (m 112 v) (m 113 v) b fg bg) := by
  have e105 : m1 105 = m 105 := hf 105 (by decide) (by decide)
  -- the frame
  have fr : ∀ m2 : YS, (∀ f, f ≠ 146 → f ≠ 147 → m2 f = m f) → nk_Y_paintBox_28 v px py b m2 = if INr px py (m 110 v + b) (m 111 v + b) (m 112 v - 2 * b) (m 113 v - 2 * b) then some m2 else some (yw m2 146 0 fg) := fun m2 h2 => by
    have h94 : nk_Y_paintBox_94 v m2 = some (yw m2 146 0 fg) := by
      unfold nk_Y_paintBox_94 st
      rw [y_of hv (by decide), h2 105 (by decide) (by decide), ← hfg.1]; rfl
    unfold nk_Y_paintBox_28
    rw [h94, h2 110 (by decide) (by decide), h2 111 (by decide) (by decide), h2 112 (by decide) (by decide), h2 113 (by decide) (by decide)]
    simp only [ix_e _ hv]
    rw [ck_f _ (by omega), ck_f _ (by omega), ck_f _ (by omega), ck_f _ (by omega), ck_f _ (by omega), ck_f _ (by omega)]
    by_cases z1 : px < m 110 v + b
    · rw [if_pos z1, if_neg (by unfold INr; omega)]
    · rw [if_neg z1]
      by_cases z2 : px < m 110 v + m 112 v - b
      · rw [if_pos z2]
        by_cases z3 : py < m 111 v + b
        · rw [if_pos z3, if_neg (by unfold INr; omega)]
        · rw [if_neg z3]
          by_cases z4 : py < m 111 v + m 113 v - b
          · rw [if_pos z4, if_pos (by unfold INr; omega)]
          · rw [if_neg z4, if_neg (by unfold INr; omega)]
      · rw [if_neg z2, if_neg (by unfold INr; omega)]
  have hrun : N_Y_paintBox v px py m1 = if bg = -1 then nk_Y_paintBox_28 v px py b m1 else nk_Y_paintBox_28 v px py b (yw m1 146 0 bg) := by
    unfold N_Y_paintBox st
    rw [y_of hv (by decide), y_of hv (by decide), e105, ← hb.1, ← hbg]
    simp only [Option.bind_some]
  unfold bxC
  rw [if_pos hin, hrun]
  have hf2 : ∀ f, f ≠ 146 → f ≠ 147 → yw m1 146 0 bg f = m f := fun f a b => by rw [yw_nF a]; exact hf f a b
  rw [fr m1 hf, fr _ hf2]
  by_cases zi : INr px py (m 110 v + b) (m 111 v + b) (m 112 v - 2 * b) (m 113 v - 2 * b)
  · rw [if_pos zi, if_pos zi, if_pos zi]
    by_cases zb : bg = -1
    · rw [if_pos zb, if_pos zb]; exact ⟨m1, rfl, fun _ _ => rfl, rfl⟩
    · rw [if_neg zb, if_neg zb]; exact ⟨_, rfl, fun f x => yw_nF x, by rw [yw_eq]⟩
  · rw [if_neg zi, if_neg zi, if_neg zi, if_neg (show ¬ fg = -1 by omega)]
    by_cases zb : bg = -1
    · rw [if_pos zb]; exact ⟨_, rfl, fun f x => yw_nF x, by rw [yw_eq]⟩
    · rw [if_neg zb]; exact ⟨_, rfl, fun f x => by rw [yw_nF x, yw_nF x], by rw [yw_eq]⟩
/-- a BUTTON: all its text -/
theorem y_button (hT : TY m N o e p) (k0 : 0 ≤ k) (hkN : k < N) (h62 : ∀ r, 0 ≤ r → r < N → m 46 (o r) = 17 → (0 ≤ m 62 (o r) ∧ m 62 (o r) ≤ 400) ∧ ∀ j, 0 ≤ j → j < m 62 (o r) → 0 ≤ m 61 (400 * o r + j) ∧ m 61 (400 * o r + j) ≤ 255) (hs : s = m 105 (11 * o k + 8) ∧ 1 ≤ s ∧ s ≤ 3) (hp : 0 ≤ px ∧ px ≤ 1000 ∧ 0 ≤ py ∧ py ≤ 1000) (hX : -700000000 ≤ m 110 (o k) ∧ m 110 (o k) ≤ 700000000 ∨ (-800000000 + 100 ≤ m 110 (o k) ∧ m 110 (o k) ≤ 800000000 - 100)) (hY : -790000000 ≤ m 111 (o k) ∧ m 111 (o k) ≤ 790000000) (hW : 0 ≤ m 112 (o k) ∧ m 112 (o k) ≤ 1900000) (hE : x0 = m 105 (11 * o k + 4) + m 105 (11 * o k + 5) ∧ 0 ≤ x0 ∧ x0 ≤ 23) (hcol : col = m 105 (11 * o k + 1)) (hm0 : ∀ f, f ≠ 146 → f ≠ 147 → m0 f = m f) :
    ∃ m', N_Y_paintButton (o k) px py m0 = some m' ∧ CUR s (m 112 (o k) - 2 * x0) (px - (m 110 (o k) + x0)) (py - (m 111 (o k) + x0)) col (oLn m o k (e k - k).toNat).2.2 m0 m' := by
  have hv := hT.oB k0 hkN
  have hE' := hT.eB k0 hkN
  have hN := hT.N1
  have hok := oLn_ok (m := m) (o := o) (k := k) (N := N) (fun r a b c => (h62 r (by omega) b c).1)
  obtain ⟨X0, hX0⟩ : ∃ X0, X0 = m 110 (o k) + x0 := ⟨_, rfl⟩
  obtain ⟨Y0, hY0⟩ : ∃ Y0, Y0 = m 111 (o k) + x0 := ⟨_, rfl⟩
  obtain ⟨lim, hlim⟩ : ∃ lim, lim = m 112 (o k) - 2 * x0 := ⟨_, rfl⟩
  rw [← hX0, ← hY0, ← hlim]
  have walk : ∀ (z : Nat) (j : Int) (m1 : YS), (e k - j).toNat = z → k ≤ j → j ≤ e k → CUR s lim (px - X0) (py - Y0) col (oLn m o k (j - k).toNat).2.2 m0 m1 → ((oLn m o k (j - k).toNat).2.2 = [] ∨ (oLn m o k (j - k).toNat).2.1 * s ≤ lim) → ∃ m', (NL_Y_paintButton_58 (o k) px py (X0 + lim) Y0 (X0 + (oY s (oLn m o k (j - k).toNat)).1) (oY s (oLn m o k (j - k).toNat)).2.1 (oY s (oLn m o k (j - k).toNat)).2.2 (if j < e k then o j else -1) m1 = some (.inl m') ∨ NL_Y_paintButton_58 (o k) px py (X0 + lim) Y0 (X0 + (oY s (oLn m o k (j - k).toNat)).1) (oY s (oLn m o k (j - k).toNat)).2.1 (oY s (oLn m o k (j - k).toNat)).2.2 (if j < e k then o j else -1) m1 = some (.inr m')) ∧ CUR s lim (px - X0) (py - Y0) col (oLn m o k (e k - k).toNat).2.2 m0 m' := by
    intro z
    induction z with
    | zero =>
      intro j m1 hz j0 j1 hC hfit
      have ej : j = e k := by omega
      refine ⟨m1, .inr ?_, by rw [← ej]; exact hC⟩
      rw [if_neg (by omega)]
      unfold NL_Y_paintButton_58
      refine it_inr ?_
      show nb_Y_paintButton_58 (o k) px py (X0 + lim) Y0 _ _ _ (-1) m1 = _
      unfold nb_Y_paintButton_58
      rw [if_pos rfl]
    | succ z ih =>
      intro j m1 hz j0 j1 hC hfit
      have hf : ∀ f, f ≠ 146 → f ≠ 147 → m1 f = m f := fun f a b => by
        rcases hC with ⟨_, e⟩ | ⟨_, e⟩
        · rw [e, yw_nF a]; exact hm0 f a b
        · rw [e]; exact hm0 f a b
      have hlt : j < e k := by omega
      have hjN : j < N := by omega
      have hoj := hT.oB (k := j) (by omega) hjN
      have hst := oLn_s (m := m) (o := o) (k := k) (j := j) (by omega)
      have aft : ∀ m2 : YS, (∀ f, f ≠ 146 → f ≠ 147 → m2 f = m f) → N_Y_after (o j) (o k) m2 = some (if j + 1 < e k then o (j + 1) else -1) := fun m2 h2 => by
        have hG' : TY m2 N o e p := by
          unfold TY at *
          rw [h2 49 (by decide) (by decide), h2 50 (by decide) (by decide), h2 52 (by decide) (by decide)]; exact hT
        exact y_after hG' (t := k) (k := j) k0 (by omega) hlt hkN
      have cf : ∀ m2 l, CUR s lim (px - X0) (py - Y0) col l m0 m2 → ∀ f, f ≠ 146 → f ≠ 147 → m2 f = m f := fun m2 l h f a b => by
        rcases h with ⟨_, e⟩ | ⟨_, e⟩
        · rw [e, yw_nF a]; exact hm0 f a b
        · rw [e]; exact hm0 f a b
      rw [if_pos hlt]
      generalize hz0 : oLn m o k (j - k).toNat = zj at *
      have hkj : ∀ w2 b2 f2 m2, nb_Y_paintButton_58 (o k) px py (X0 + lim) Y0 (X0 + (oY s zj).1) (oY s zj).2.1 (oY s zj).2.2 (o j) m1 = nk_Y_paintButton_210 (o k) px py w2 (X0 + lim) Y0 b2 f2 (o j) m2 → (∀ f, f ≠ 146 → f ≠ 147 → m2 f = m f) → NL_Y_paintButton_58 (o k) px py (X0 + lim) Y0 (X0 + (oY s zj).1) (oY s zj).2.1 (oY s zj).2.2 (o j) m1 = NL_Y_paintButton_58 (o k) px py (X0 + lim) Y0 w2 b2 f2 (if j + 1 < e k then o (j + 1) else -1) m2 := fun w2 b2 f2 m2 h2 hm2 => by
        unfold nk_Y_paintButton_210 at h2
        rw [aft m2 hm2] at h2
        unfold NL_Y_paintButton_58
        exact it_inl (f := fun s' : Int × Int × Int × Int × YS => nb_Y_paintButton_58 (o k) px py (X0 + lim) Y0 s'.1 s'.2.1 s'.2.2.1 s'.2.2.2.1 s'.2.2.2.2) (s := (X0 + (oY s zj).1, (oY s zj).2.1, (oY s zj).2.2, o j, m1)) h2
      have hsp : (j + 1 - k).toNat ≤ (e k - k).toNat := by omega
      by_cases h17 : m 46 (o j) = 17
      · rw [if_pos h17] at hst
        obtain ⟨d1, d2⟩ := h62 j (by omega) hjN h17
        have hokj : OKo zj (400 * ((j - k).toNat : Int)) := by have := hok (j - k).toNat (by omega); rw [hz0] at this; exact this
        have hwj : zj.2.1 = wlB zj.2.2 := by rw [← hz0]; exact oLn_w _
        have hb := y_bT (m := m) (v := o k) (u := o j) (px := px) (py := py) (X0 := X0) (Y0 := Y0) (lim := lim) (col := col) (m0 := m0) (s0 := zj) (c := 400 * ((j - k).toNat : Int)) hv hoj hs.2 hp d1 d2 (by omega) (by omega) (by omega) hcol hm0 hokj (by omega) hwj (m 62 (o j)).toNat 0 m1 (by omega) (Int.le_refl _) d1.1 (by rw [show (0 : Int).toNat = 0 by decide]; exact hC) (by rw [show (0 : Int).toNat = 0 by decide]; exact hfit)
        rw [show (0 : Int).toNat = 0 by decide] at hb
        have e0 : oLt (fun i => m 61 (400 * o j + i)) 0 zj = zj := rfl
        rw [e0] at hb
        have hbody : nb_Y_paintButton_58 (o k) px py (X0 + lim) Y0 (X0 + (oY s zj).1) (oY s zj).2.1 (oY s zj).2.2 (o j) m1 = (NL_Y_paintButton_91 (o k) px py (X0 + lim) Y0 (o j) s (X0 + (oY s zj).1) (oY s zj).2.1 (oY s zj).2.2 0 m1).bind (us (fun m10 => some (.inr (.inl m10))) (u4 fun z13 z14 z15 m16 => nk_Y_paintButton_210 (o k) px py z13 (X0 + lim) Y0 z14 z15 (o j) m16)) := by
          unfold nb_Y_paintButton_58
          rw [if_neg (by omega), ix_e _ hoj, hf 46 (by decide) (by decide), if_pos h17, y_of hv (by decide), hf 105 (by decide) (by decide), ← hs.1]
          rfl
        rcases hb with ⟨m', b1, b2, b3⟩ | ⟨m', b1, b2⟩
        · rw [b1] at hbody
          rw [hkj _ _ _ m' hbody (cf _ _ b2)]
          have := ih (j + 1) m' (by omega) (by omega) (by omega)
          rw [hst] at this
          exact this b2 b3
        · rw [b1] at hbody
          refine ⟨m', .inl ?_, ?_⟩
          · unfold NL_Y_paintButton_58
            exact it_inr (f := fun s' : Int × Int × Int × Int × YS => nb_Y_paintButton_58 (o k) px py (X0 + lim) Y0 s'.1 s'.2.1 s'.2.2.1 s'.2.2.2.1 s'.2.2.2.2) (s := (X0 + (oY s zj).1, (oY s zj).2.1, (oY s zj).2.2, o j, m1)) hbody
          · obtain ⟨rr, hrr⟩ := oLn_x (m := m) (o := o) (k := k) (e k - k).toNat (j + 1 - k).toNat hsp
            rw [hrr, hst]
            exact b2 rr
      · rw [if_neg h17] at hst
        have hbody : nb_Y_paintButton_58 (o k) px py (X0 + lim) Y0 (X0 + (oY s zj).1) (oY s zj).2.1 (oY s zj).2.2 (o j) m1 = nk_Y_paintButton_210 (o k) px py (X0 + (oY s zj).1) (X0 + lim) Y0 (oY s zj).2.1 (oY s zj).2.2 (o j) m1 := by
          unfold nb_Y_paintButton_58
          rw [if_neg (by omega), ix_e _ hoj, hf 46 (by decide) (by decide), if_neg h17]
        rw [hkj _ _ _ m1 hbody hf]
        have := ih (j + 1) m1 (by omega) (by omega) (by omega)
        rw [hst] at this
        exact this hC hfit
  have w0 := walk (e k - k).toNat k m0 rfl (Int.le_refl _) (by omega) (by rw [show (k - k).toNat = 0 by omega]; exact .inr ⟨fun h => h, rfl⟩) (by rw [show (k - k).toNat = 0 by omega]; exact .inl rfl)
  rw [if_pos (by omega), show (k - k).toNat = 0 by omega] at w0
  have eY : oY s (oLn m o k 0) = (0, 0, 0) := by
    unfold oY
    simp only [oLn]
    rw [if_pos trivial, Int.zero_mul, Int.zero_mul]
  rw [eY] at w0
  simp only [Int.add_zero] at w0
  obtain ⟨m', hr, hC⟩ := w0
  refine ⟨m', ?_, hC⟩
  unfold N_Y_paintButton
  have e5 := y_edg (m := m0) (v := o k) (E := x0) hv (by rw [hm0 105 (by decide) (by decide)]; exact hE.1) hE.2
  rw [e5]
  simp only [Option.bind_some]
  rw [hm0 110 (by decide) (by decide), hm0 111 (by decide) (by decide), hm0 112 (by decide) (by decide)]
  simp only [ix_e _ hv]
  rw [ck_f _ (by omega), ck_f _ (by omega), ck_f _ (by omega), ck_f _ (by omega), ← hX0, ← hY0, show m 110 (o k) + m 112 (o k) - x0 = X0 + lim by omega]
  rcases hr with hr | hr
  · rw [hr]; rfl
  · rw [hr]; rfl
end YX
