/-! A BUTTON's text on the screen (the reference) -/
/-- what is said of one TEXT: there was room to its end, or not -/
def BTr (s lim P Q col X0 : Int) (z : Int × Int × List Int) (m0 : YS) (R : Option (YS ⊕ (Int × Int × Int × YS))) : Prop := (∃ m', R = some (.inr (X0 + (oY s z).1, (oY s z).2.1, (oY s z).2.2, m')) ∧ CUR s lim P Q col z.2.2 m0 m' ∧ (z.2.2 = [] ∨ z.2.1 * s ≤ lim)) ∨ (∃ m', R = some (.inl m') ∧ ∀ r, CUR s lim P Q col (z.2.2 ++ r) m0 m')
section YW
variable {n n' : NS} {m m' m1 m0 : YS} {A B N a b c x y s px py X Y W H lim i j k q u v w t L x0 X0 Y0 col P Q r : Int} {l l' : List Int} {o e p g : Int → Int} {s0 z : Int × Int × List Int}
theorem oLs_w (h : z.2.1 = wlB z.2.2) : (oLs b z).2.1 = wlB (oLs b z).2.2 := by
  obtain ⟨za, zw, zl⟩ := z
  have h : zw = wlB zl := h
  unfold oLs
  by_cases hp : isBl b
  · rw [if_pos hp]; exact h
  · rw [if_neg hp]
    show zw + (if za = 0 then 0 else 3) + gly b = wlB (zl ++ if za = 0 then [b] else [32, b])
    have e : wdB b = gly b := if_neg hp
    by_cases hz : za = 0
    · rw [if_pos hz, if_pos hz, wlB_app, ← h]
      show zw + 0 + gly b = zw + (wdB b + 0)
      omega
    · have e32 : wdB 32 = 3 := if_pos (.inr rfl)
      rw [if_neg hz, if_neg hz, wlB_app, ← h]
      show zw + 3 + gly b = zw + (wdB 32 + (wdB b + 0))
      omega
theorem oLt_w (h : s0.2.1 = wlB s0.2.2) : ∀ j : Nat, (oLt g j s0).2.1 = wlB (oLt g j s0).2.2
  | 0 => h
  | j + 1 => oLs_w (oLt_w h j)
theorem oLs_x : ∃ r, (oLs b z).2.2 = z.2.2 ++ r := by
  unfold oLs
  by_cases hp : isBl b
  · rw [if_pos hp]; exact ⟨[], by simp⟩
  · rw [if_neg hp]; exact ⟨_, rfl⟩
theorem oLt_x : ∀ (j i : Nat), i ≤ j → ∃ r, (oLt g j s0).2.2 = (oLt g i s0).2.2 ++ r
  | 0, i, h => ⟨[], by rw [show i = 0 by omega]; simp⟩
  | j + 1, i, h => by
    by_cases z : i = j + 1
    · exact ⟨[], by rw [z]; simp⟩
    · obtain ⟨r, hr⟩ := oLt_x j i (by omega)
      obtain ⟨r', hr'⟩ := oLs_x (b := g j) (z := oLt g j s0)
      refine ⟨r ++ r', ?_⟩
      show (oLs (g j) (oLt g j s0)).2.2 = _
      rw [hr', hr, List.append_assoc]
theorem oLn_x : ∀ (j i : Nat), i ≤ j → ∃ r, (oLn m o k j).2.2 = (oLn m o k i).2.2 ++ r
  | 0, i, h => ⟨[], by rw [show i = 0 by omega]; simp⟩
  | j + 1, i, h => by
    by_cases z : i = j + 1
    · exact ⟨[], by rw [z]; simp⟩
    · obtain ⟨r, hr⟩ := oLn_x j i (by omega)
      by_cases h17 : m 46 (o (k + j)) = 17
      · obtain ⟨r', hr'⟩ := oLt_x (g := fun i => m 61 (400 * o (k + j) + i)) (s0 := oLn m o k j) (m 62 (o (k + j))).toNat 0 (Nat.zero_le _)
        refine ⟨r ++ r', ?_⟩
        simp only [oLn]
        rw [if_pos h17, hr']
        show (oLn m o k j).2.2 ++ r' = _
        rw [hr, List.append_assoc]
      · refine ⟨r, ?_⟩
        simp only [oLn]
        rw [if_neg h17]; exact hr
theorem oLn_w : ∀ j : Nat, (oLn m o k j).2.1 = wlB (oLn m o k j).2.2
  | 0 => rfl
  | j + 1 => by
    have g := oLn_w j
    simp only [oLn]
    split
    · exact oLt_w g _
    · exact g
/-- one TEXT in it -/
theorem y_bT (hv : 0 ≤ v ∧ v < 120) (hu : 0 ≤ u ∧ u < 120) (hs : 1 ≤ s ∧ s ≤ 3) (hp : 0 ≤ px ∧ px ≤ 1000 ∧ 0 ≤ py ∧ py ≤ 1000) (hL : 0 ≤ m 62 u ∧ m 62 u ≤ 400) (hby : ∀ j, 0 ≤ j → j < m 62 u → 0 ≤ m 61 (400 * u + j) ∧ m 61 (400 * u + j) ≤ 255) (hX : -800000000 ≤ X0 ∧ X0 ≤ 800000000) (hY : -800000000 ≤ Y0 ∧ Y0 ≤ 800000000) (hlim : lim ≤ 2000000) (hcol : col = m 105 (11 * v + 1)) (hm0 : ∀ f, f ≠ 146 → f ≠ 147 → m0 f = m f) (hok : OKo s0 c) (hc : 0 ≤ c ∧ c + 400 ≤ 48000) (hw0 : s0.2.1 = wlB s0.2.2) :
    ∀ (z : Nat) (i : Int) (m1 : YS), (m 62 u - i).toNat = z → 0 ≤ i → i ≤ m 62 u → CUR s lim (px - X0) (py - Y0) col (oLt (fun i => m 61 (400 * u + i)) i.toNat s0).2.2 m0 m1 → ((oLt (fun i => m 61 (400 * u + i)) i.toNat s0).2.2 = [] ∨ (oLt (fun i => m 61 (400 * u + i)) i.toNat s0).2.1 * s ≤ lim) →
      BTr s lim (px - X0) (py - Y0) col X0 (oLt (fun i => m 61 (400 * u + i)) (m 62 u).toNat s0) m0 (NL_Y_paintButton_91 v px py (X0 + lim) Y0 u s (X0 + (oY s (oLt (fun i => m 61 (400 * u + i)) i.toNat s0)).1) (oY s (oLt (fun i => m 61 (400 * u + i)) i.toNat s0)).2.1 (oY s (oLt (fun i => m 61 (400 * u + i)) i.toNat s0)).2.2 i m1) := by
  intro z
  induction z with
  | zero =>
    intro i m1 hz i0 i1 hC hfit
    have hf : ∀ f, f ≠ 146 → f ≠ 147 → m1 f = m f := fun f a b => by
      rcases hC with ⟨_, e⟩ | ⟨_, e⟩
      · rw [e, yw_nF a]; exact hm0 f a b
      · rw [e]; exact hm0 f a b
    have ei : i = m 62 u := by omega
    left
    rw [ei] at hC hfit ⊢
    refine ⟨m1, ?_, hC, hfit⟩
    unfold NL_Y_paintButton_91
    refine it_inr ?_
    show nb_Y_paintButton_91 v px py (X0 + lim) Y0 u s _ _ _ (m 62 u) m1 = _
    unfold nb_Y_paintButton_91
    rw [ix_e _ hu, hf 62 (by decide) (by decide), if_neg (by omega)]
  | succ z ih =>
    intro i m1 hz i0 i1 hC hfit
    have hf : ∀ f, f ≠ 146 → f ≠ 147 → m1 f = m f := fun f a b => by
      rcases hC with ⟨_, e⟩ | ⟨_, e⟩
      · rw [e, yw_nF a]; exact hm0 f a b
      · rw [e]; exact hm0 f a b
    have hlt : i < m 62 u := by omega
    have hO := oLt_ok (g := fun i => m 61 (400 * u + i)) hok i.toNat
    have hst := oLt_s (g := fun i => m 61 (400 * u + i)) (s0 := s0) i0
    have hwz := oLt_w (g := fun i => m 61 (400 * u + i)) hw0 i.toNat
    obtain ⟨rx, hrx⟩ := oLt_x (g := fun i => m 61 (400 * u + i)) (s0 := s0) (m 62 u).toNat (i + 1).toNat (by omega)
    have hih := ih (i + 1)
    obtain ⟨bb, hbb⟩ : ∃ bb, bb = m 61 (400 * u + i) := ⟨_, rfl⟩
    have hcb := hby i i0 hlt
    rw [← hbb] at hcb
    have hst : oLt (fun i => m 61 (400 * u + i)) (i + 1).toNat s0 = oLs bb (oLt (fun i => m 61 (400 * u + i)) i.toNat s0) := by rw [hst, hbb]
    rw [hst] at hih hrx
    generalize hzz : oLt (fun i => m 61 (400 * u + i)) i.toNat s0 = z at *
    obtain ⟨za, zw, zl⟩ := z
    obtain ⟨o1, o2, o3, o4⟩ := hO
    simp only at o1 o2 o3 o4 hwz hC hfit
    have hws : 0 ≤ zw * s := Int.mul_nonneg o2.1 (by omega)
    have hwsb : zw * s ≤ 2000000 := by
      rcases hfit with e | e
      · rw [hwz, e]; show 0 * s ≤ _; omega
      · omega
    have hza3 : za * (3 * s) = 0 ∧ za = 0 ∨ za * (3 * s) = 3 * s ∧ za = 1 := by
      rcases o1 with w | w
      · left; exact ⟨by rw [w]; omega, w⟩
      · right; exact ⟨by rw [w]; omega, w⟩
    have eY : oY s (za, zw, zl) = (zw * s, za * (3 * s), if zl = [] then 0 else 1) := rfl
    rw [eY]
    show BTr _ _ _ _ _ _ _ _ (NL_Y_paintButton_91 v px py (X0 + lim) Y0 u s (X0 + zw * s) (za * (3 * s)) (if zl = [] then 0 else 1) i m1)
    generalize hfl : (if zl = [] then (0 : Int) else 1) = fl at *
    have go : ∀ w2 b2 f2 m2, nb_Y_paintButton_91 v px py (X0 + lim) Y0 u s (X0 + zw * s) (za * (3 * s)) fl i m1 = some (.inl (X0 + w2, b2, f2, i + 1, m2)) → (w2, b2, f2) = oY s (oLs bb (za, zw, zl)) → CUR s lim (px - X0) (py - Y0) col (oLs bb (za, zw, zl)).2.2 m0 m2 → ((oLs bb (za, zw, zl)).2.2 = [] ∨ (oLs bb (za, zw, zl)).2.1 * s ≤ lim) → BTr s lim (px - X0) (py - Y0) col X0 (oLt (fun i => m 61 (400 * u + i)) (m 62 u).toNat s0) m0 (NL_Y_paintButton_91 v px py (X0 + lim) Y0 u s (X0 + zw * s) (za * (3 * s)) fl i m1) := fun w2 b2 f2 m2 h2 hy hC2 hf2 => by
      have hs2 : NL_Y_paintButton_91 v px py (X0 + lim) Y0 u s (X0 + zw * s) (za * (3 * s)) fl i m1 = NL_Y_paintButton_91 v px py (X0 + lim) Y0 u s (X0 + w2) b2 f2 (i + 1) m2 := by
        unfold NL_Y_paintButton_91
        exact it_inl (f := fun s' : Int × Int × Int × Int × YS => nb_Y_paintButton_91 v px py (X0 + lim) Y0 u s s'.1 s'.2.1 s'.2.2.1 s'.2.2.2.1 s'.2.2.2.2) (s := (X0 + zw * s, za * (3 * s), fl, i, m1)) h2
      rw [hs2]
      have := hih m2 (by omega) (by omega) (by omega) hC2 hf2
      rw [← hy] at this
      exact this
    have hbody : nb_Y_paintButton_91 v px py (X0 + lim) Y0 u s (X0 + zw * s) (za * (3 * s)) fl i m1 = (N_Y_isBlank bb m1).bind fun z11 => if z11 = 0 then (if X0 + lim < X0 + zw * s + za * (3 * s) + gly bb * s then some (.inr (.inl m1)) else (N_Y_letter bb s (X0 + zw * s + za * (3 * s)) Y0 px py v m1).bind fun m24 => some (.inl (X0 + zw * s + za * (3 * s) + gly bb * s, 0, 1, i + 1, m24))) else if fl = 0 then some (.inl (X0 + zw * s, za * (3 * s), fl, i + 1, m1)) else if za * (3 * s) = 0 then some (.inl (X0 + zw * s, 3 * s, fl, i + 1, m1)) else some (.inl (X0 + zw * s, za * (3 * s), fl, i + 1, m1)) := by
      have hg := gly_b (b := bb)
      have hgs : 0 ≤ gly bb * s ∧ gly bb * s ≤ 15 := by rcases s123 hs with e | e | e <;> subst e <;> omega
      unfold nb_Y_paintButton_91
      rw [hf 62 (by decide) (by decide), hf 61 (by decide) (by decide), ← hbb, ix_e _ hu, if_pos hlt, ck_e _ (by omega), ck_e _ (by omega), ix_e _ (by omega), ck_f (a := X0 + zw * s + za * (3 * s)) _ (by omega), ck_e (a := i + 1) _ (by omega), ck_e (a := 3 * s) _ (by omega)]
      congr 1
      funext z11
      by_cases q0 : z11 = 0
      · rw [if_pos q0, if_pos q0, ys_glyph]
        simp only [Option.bind_some]
        rw [ck_e _ (by omega), ck_f _ (by omega)]
        by_cases q1 : X0 + lim < X0 + zw * s + za * (3 * s) + gly bb * s
        · rw [if_pos q1, if_pos q1]
        · rw [if_neg q1, if_neg q1]
          congr 1
          funext m24
          rw [ys_glyph]
          simp only [Option.bind_some]
          rw [ck_e _ (by omega), ck_f _ (by omega), ck_e _ (by omega)]
      · rw [if_neg q0, if_neg q0, ck_e _ (by omega)]
    obtain ⟨w, hw1, hw2⟩ : ∃ w, N_Y_isBlank bb m1 = some w ∧ ((w = 0 ∧ ¬ isBl bb) ∨ (w ≠ 0 ∧ isBl bb)) := by
      obtain ⟨w, a1, a2⟩ := ys_blank (b := bb) (m := m1)
      refine ⟨w, a1, ?_⟩
      unfold bz at a2
      omega
    rw [hw1] at hbody
    simp only [Option.bind_some] at hbody
    rcases hw2 with ⟨g1, g2⟩ | ⟨g1, g2⟩
    · -- a letter
      rw [if_pos g1] at hbody
      have e : wdB bb = gly bb := if_neg g2
      have hg := gly_b (b := bb)
      have hgs : 0 ≤ gly bb * s ∧ gly bb * s ≤ 15 := by rcases s123 hs with e | e | e <;> subst e <;> omega
      have e32 : wdB 32 = 3 := if_pos (.inr rfl)
      have els : oLs bb (za, zw, zl) = (0, zw + (if za = 0 then 0 else 3) + gly bb, zl ++ if za = 0 then [bb] else [32, bb]) := by unfold oLs; rw [if_neg g2]
      have hxw : (zw + (if za = 0 then 0 else 3) + gly bb) * s = zw * s + za * (3 * s) + gly bb * s := by
        rcases hza3 with ⟨q1, q2⟩ | ⟨q1, q2⟩
        · rw [q1, if_pos q2, Int.add_mul, Int.add_mul]; omega
        · rw [q1, if_neg (by omega), Int.add_mul, Int.add_mul]
      by_cases q1 : X0 + lim < X0 + zw * s + za * (3 * s) + gly bb * s
      · rw [if_pos q1] at hbody
        right
        refine ⟨m1, ?_, fun r => ?_⟩
        · unfold NL_Y_paintButton_91
          exact it_inr (f := fun s' : Int × Int × Int × Int × YS => nb_Y_paintButton_91 v px py (X0 + lim) Y0 u s s'.1 s'.2.1 s'.2.2.1 s'.2.2.2.1 s'.2.2.2.2) (s := (X0 + zw * s, za * (3 * s), fl, i, m1)) hbody
        · rw [hrx, els]
          show CUR s lim (px - X0) (py - Y0) col (zl ++ (if za = 0 then [bb] else [32, bb]) ++ rx ++ r) m0 m1
          rcases hza3 with ⟨p1, p2⟩ | ⟨p1, p2⟩
          · rw [if_pos p2, show zl ++ [bb] ++ rx ++ r = zl ++ bb :: (rx ++ r) by simp]
            exact hC.full hs (by rw [← hwz, e]; omega) _
          · rw [if_neg (by omega), show zl ++ [32, bb] ++ rx ++ r = (zl ++ [32]) ++ bb :: (rx ++ r) by simp]
            refine (hC.bl hs (.inr rfl)).full hs ?_ _
            have : wlB (zl ++ [32]) * s = zw * s + 3 * s := by
              rw [wlB_app, Int.add_mul, ← hwz]
              show zw * s + (wdB 32 + 0) * s = _
              rw [e32]; omega
            rw [this, e]; omega
      · rw [if_neg q1] at hbody
        have mv := LIT.mv (c := bb) (s := s) (X := X0) (x := zw * s + za * (3 * s)) (Y := Y0) (px := px) (py := py)
        rw [show X0 + (zw * s + za * (3 * s)) = X0 + zw * s + za * (3 * s) by omega] at mv
        have e105 : m1 105 = m 105 := hf 105 (by decide) (by decide)
        have fin : ∀ m2, N_Y_letter bb s (X0 + zw * s + za * (3 * s)) Y0 px py v m1 = some m2 → ((LIT bb s (zw * s + za * (3 * s)) 0 (px - X0) (py - Y0) ∧ m2 = yw m1 146 0 col) ∨ (¬ LIT bb s (zw * s + za * (3 * s)) 0 (px - X0) (py - Y0) ∧ m2 = m1)) → BTr s lim (px - X0) (py - Y0) col X0 (oLt (fun i => m 61 (400 * u + i)) (m 62 u).toNat s0) m0 (NL_Y_paintButton_91 v px py (X0 + lim) Y0 u s (X0 + zw * s) (za * (3 * s)) fl i m1) := fun m2 h2 hl => by
          rw [h2] at hbody
          simp only [Option.bind_some] at hbody
          refine go (zw * s + za * (3 * s) + gly bb * s) 0 1 m2 (by rw [hbody, show X0 + zw * s + za * (3 * s) + gly bb * s = X0 + (zw * s + za * (3 * s) + gly bb * s) by omega]) ?_ ?_ ?_
          · rw [els]
            unfold oY
            simp only
            have hne : (zl ++ if za = 0 then [bb] else [32, bb]) ≠ [] := by split <;> simp
            rw [if_neg hne, hxw, Int.zero_mul]
          · rw [els]
            show CUR s lim (px - X0) (py - Y0) col (zl ++ (if za = 0 then [bb] else [32, bb])) m0 m2
            rcases hza3 with ⟨p1, p2⟩ | ⟨p1, p2⟩
            · rw [p1, Int.add_zero] at hl
              rw [if_pos p2]
              exact hC.add hs (by rw [← hwz]; exact hfit) (by rw [← hwz]; omega) g2 (by rw [← hwz]) (by omega) hl
            · have hw3 : wlB (zl ++ [32]) * s = zw * s + 3 * s := by
                rw [wlB_app, Int.add_mul, ← hwz]
                show zw * s + (wdB 32 + 0) * s = _
                rw [e32]; omega
              rw [if_neg (by omega), show zl ++ [32, bb] = (zl ++ [32]) ++ [bb] by simp]
              rw [p1] at hl
              exact (hC.bl hs (.inr rfl)).add hs (.inr (by rw [hw3]; omega)) (by rw [hw3]; omega) g2 (by rw [hw3]) (by omega) hl
          · right
            rw [els]
            show (zw + (if za = 0 then 0 else 3) + gly bb) * s ≤ lim
            rw [hxw]; omega
        rcases y_letter (m := m1) (q := v) hcb hs (x := X0 + zw * s + za * (3 * s)) (y := Y0) (by omega) (by omega) hp hv with ⟨k1, k2⟩ | ⟨k1, k2⟩
        · exact fin _ k1 (.inl ⟨mv.mp k2, by rw [e105, ← hcol]⟩)
        · exact fin _ k1 (.inr ⟨fun h => k2 (mv.mpr h), rfl⟩)
    · -- a blank
      rw [if_neg g1] at hbody
      have els : oLs bb (za, zw, zl) = ((if zl = [] then 0 else 1), zw, zl) := by unfold oLs; rw [if_pos g2]
      by_cases hl : zl = []
      · have h0 : za = 0 := by
          rcases o1 with w | w
          · exact w
          · exact absurd hl (o4 w)
        rw [if_pos hl] at hfl
        rw [if_pos hfl.symm] at hbody
        refine go (zw * s) (za * (3 * s)) fl m1 hbody ?_ (by rw [els]; exact hC) (by rw [els]; exact hfit)
        rw [els]
        unfold oY
        simp only [if_pos hl]
        rw [h0, ← hfl]
      · rw [if_neg hl] at hfl
        rw [if_neg (by omega)] at hbody
        by_cases hb : za * (3 * s) = 0
        · rw [if_pos hb] at hbody
          refine go (zw * s) (3 * s) fl m1 hbody ?_ (by rw [els]; exact hC) (by rw [els]; exact hfit)
          rw [els]
          unfold oY
          simp only [if_neg hl]
          rw [Int.one_mul, ← hfl]
        · rw [if_neg hb] at hbody
          refine go (zw * s) (za * (3 * s)) fl m1 hbody ?_ (by rw [els]; exact hC) (by rw [els]; exact hfit)
          have h1 : za = 1 := by omega
          rw [els]
          unfold oY
          simp only [if_neg hl]
          rw [h1, ← hfl]
end YW
