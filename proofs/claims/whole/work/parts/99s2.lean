/-! SELECTORS: the marks of a PART, in both: the loops -/
section S2
variable {n n' n'' : NS} {m m' m'' : YS} {g : Int → Int} {a tc ty d L s p fr c B : Int} {f : Nat}
/-- the reference takes one mark -/
theorem y_mark (hs : 0 ≤ s ∧ s < 41) (hp : 0 ≤ p ∧ p < 123) (hf : f = 2 ∨ f = 101) (hg : m f = g) (hty : ty ≤ yLn f ∧ ty ≤ 2000) (ha : 0 ≤ a ∧ a < ty) (hga : g a = 46 ∨ g a = 35) (h4 : 0 ≤ m 93 p ∧ m 93 p < 4) (h97 : 0 ≤ m 97 s ∧ m 97 s ≤ 100000) :
    (¬ (a + 1 < ty ∧ isSm (g (a + 1))) → nb_Y_readPart_201 f ty p s a m = some (.inr (.inl (a + 1, yw m 94 (4 * p + m 93 p) (g a)))))
    ∧ ((a + 1 < ty ∧ isSm (g (a + 1))) → (min (sc (fun j => isNm (g j)) (a + 1) ty) (a + 1 + 8) < ty ∧ isNm (g (min (sc (fun j => isNm (g j)) (a + 1) ty) (a + 1 + 8)))) → nb_Y_readPart_201 f ty p s a m = some (.inr (.inr (.inl (min (sc (fun j => isNm (g j)) (a + 1) ty) (a + 1 + 8), yw m 94 (4 * p + m 93 p) (g a))))))
    ∧ ((a + 1 < ty ∧ isSm (g (a + 1))) → ¬ (min (sc (fun j => isNm (g j)) (a + 1) ty) (a + 1 + 8) < ty ∧ isNm (g (min (sc (fun j => isNm (g j)) (a + 1) ty) (a + 1 + 8)))) → ∃ m', nb_Y_readPart_201 f ty p s a m = some (.inl (min (sc (fun j => isNm (g j)) (a + 1) ty) (a + 1 + 8), m')) ∧ FKy s p m m' ∧ m' 93 p = m 93 p + 1 ∧ m' 97 s = m 97 s + (if g a = 35 then 100 else 10) ∧ m' 94 (4 * p + m 93 p) = g a ∧ m' 95 (4 * p + m 93 p) = min (sc (fun j => isNm (g j)) (a + 1) ty) (a + 1 + 8) - (a + 1) ∧ (∀ j, 0 ≤ j → j < min (sc (fun j => isNm (g j)) (a + 1) ty) (a + 1 + 8) - (a + 1) → m' 96 (8 * (4 * p + m 93 p) + j) = g (a + 1 + j)) ∧ (∀ j, j ≠ 4 * p + m 93 p → m' 94 j = m 94 j ∧ m' 95 j = m 95 j) ∧ (∀ j, ¬ (8 * (4 * p + m 93 p) ≤ j ∧ j < 8 * (4 * p + m 93 p) + 8) → m' 96 j = m 96 j)) := by
  have hfn : f ≠ 93 ∧ f ≠ 94 ∧ f ≠ 95 ∧ f ≠ 96 ∧ f ≠ 97 := by omega
  generalize hc : 4 * p + m 93 p = c
  have hc1 : 0 ≤ c ∧ c < 492 := by omega
  have e14 : yw m 94 c (g a) f = g := by rw [yw_nF hfn.2.1]; exact hg
  have h0 : nb_Y_readPart_201 f ty p s a m = if a + 1 < ty then ix (a + 1) (yLn f : Int) <| (N_Y_isSmall (g (a + 1)) (yw m 94 c (g a))).bind fun z22 => if z22 = 0 then some (.inr (.inl (a + 1, yw m 94 c (g a)))) else (NL_Y_readPart_284 f ty p s (a + 1) c (a + 1) (yw m 94 c (g a))).bind fun z26 => nk_Y_readPart_326 f ty p s (a + 1) c z26 (yw m 94 c (g a)) else some (.inr (.inl (a + 1, yw m 94 c (g a)))) := by
    have h225 : nk_Y_readPart_225 f ty p s a m = if a + 1 < ty then ix (a + 1) (yLn f : Int) <| (N_Y_isSmall (g (a + 1)) (yw m 94 c (g a))).bind fun z22 => if z22 = 0 then some (.inr (.inl (a + 1, yw m 94 c (g a)))) else (NL_Y_readPart_284 f ty p s (a + 1) c (a + 1) (yw m 94 c (g a))).bind fun z26 => nk_Y_readPart_326 f ty p s (a + 1) c z26 (yw m 94 c (g a)) else some (.inr (.inl (a + 1, yw m 94 c (g a)))) := by
      unfold nk_Y_readPart_225 st
      dsimp only
      rw [ix_e _ hp, if_pos h4.2, ck_e _ (by omega), ix_e _ hp, hc, ck_e _ (by omega), ix_e _ ⟨ha.1, by omega⟩, ix_e _ hc1, hg, e14, ck_e _ (by omega)]
    unfold nb_Y_readPart_201
    rw [if_pos ha.2, ix_e _ ⟨ha.1, by omega⟩, hg, h225]
    rcases hga with z | z
    · rw [if_pos z]
    · rw [if_neg (by omega), ix_e _ ⟨ha.1, by omega⟩, if_pos z]
  rw [h0]
  refine ⟨fun z => ?_, fun z y => ?_, fun z y => ?_⟩
  · by_cases y : a + 1 < ty
    · rw [if_pos y, ix_e _ ⟨by omega, by omega⟩, bz_f ys_small (fun x => z ⟨y, x⟩)]
      simp only [Option.bind_some]
      rw [if_pos trivial]
    · rw [if_neg y]
  · have e8 := y_nm8 (m := yw m 94 c (g a)) (f := f) (a := a + 1) (ty := ty) (x1 := p) (x2 := s) (x3 := c) hty.1 ⟨by omega, by omega⟩ hty.2
    rw [e14] at e8
    rw [if_pos z.1, ix_e _ ⟨by omega, by omega⟩, bz_t ys_small z.2]
    simp only [Option.bind_some]
    rw [if_neg (by decide), e8]
    simp only [Option.bind_some]
    have k1 := scx_ge (p := fun j => isNm (g j)) (a + 1) ty
    have h1 : 0 ≤ min (sc (fun j => isNm (g j)) (a + 1) ty) (a + 1 + 8) := by omega
    generalize min (sc (fun j => isNm (g j)) (a + 1) ty) (a + 1 + 8) = k at *
    unfold nk_Y_readPart_326
    rw [if_pos y.1, ix_e _ ⟨h1, by omega⟩, y_isNm (L' := (yLn f : Int)) ⟨h1, by omega⟩ (by rw [e14]), if_pos y.2]
  · have e8 := y_nm8 (m := yw m 94 c (g a)) (f := f) (a := a + 1) (ty := ty) (x1 := p) (x2 := s) (x3 := c) hty.1 ⟨by omega, by omega⟩ hty.2
    rw [e14] at e8
    rw [if_pos z.1, ix_e _ ⟨by omega, by omega⟩, bz_t ys_small z.2]
    simp only [Option.bind_some]
    rw [if_neg (by decide), e8]
    simp only [Option.bind_some]
    have k1 := scx_ge (p := fun j => isNm (g j)) (a + 1) ty
    have k2 := scx_le (p := fun j => isNm (g j)) (i := a + 1) (to := ty) (by omega)
    have hk : a + 1 ≤ min (sc (fun j => isNm (g j)) (a + 1) ty) (a + 1 + 8) ∧ min (sc (fun j => isNm (g j)) (a + 1) ty) (a + 1 + 8) ≤ ty ∧ min (sc (fun j => isNm (g j)) (a + 1) ty) (a + 1 + 8) ≤ a + 9 := by omega
    generalize min (sc (fun j => isNm (g j)) (a + 1) ty) (a + 1 + 8) = k at *
    have h355 : nk_Y_readPart_326 f ty p s (a + 1) c k (yw m 94 c (g a)) = nk_Y_readPart_355 f ty p s (a + 1) c k (yw m 94 c (g a)) := by
      unfold nk_Y_readPart_326
      by_cases u : k < ty
      · rw [if_pos u, ix_e _ ⟨by omega, by omega⟩, y_isNm (L' := (yLn f : Int)) ⟨by omega, by omega⟩ (by rw [e14]), if_neg (fun x => y ⟨u, x⟩)]
      · rw [if_neg u]
    rw [h355]
    generalize hm4 : yw (yw m 94 c (g a)) 95 c (k - (a + 1)) = m4
    have F4 : FY [94, 95] m m4 := fun x hx => by
      simp only [List.mem_cons, List.not_mem_nil, or_false, not_or] at hx
      rw [← hm4, yw_nF (by omega), yw_nF (by omega)]
    have c94 : m4 94 c = g a ∧ ∀ j, j ≠ c → m4 94 j = m 94 j := ⟨by rw [← hm4, yw_nF (by decide), yw_eq], fun j hj => by rw [← hm4, yw_nF (by decide), yw_ni hj]⟩
    have c95 : m4 95 c = k - (a + 1) ∧ ∀ j, j ≠ c → m4 95 j = m 95 j := ⟨by rw [← hm4, yw_eq], fun j hj => by rw [← hm4, yw_ni hj, yw_nF (by decide)]⟩
    have e4 : m4 f = g := by rw [F4 f (by simp only [List.mem_cons, List.not_mem_nil, or_false, not_or]; omega)]; exact hg
    obtain ⟨m7, l1, l2, l3, l4⟩ := y_copy2 (m := m4) (F := 96) (G := f) (A := 8 * c) (b := a + 1) (K := k - (a + 1)) (fn := fun t => nb_Y_readPart_371 f ty p s (a + 1) c k t.1 t.2) (by omega) (by omega) (fun j ma fa ja jb => by
      show nb_Y_readPart_371 f ty p s (a + 1) c k (a + 1 + j) ma = _
      unfold nb_Y_readPart_371 st
      dsimp only
      rw [if_pos (by omega), ck_e _ (by omega), ck_e _ (by omega), ck_e _ (by omega), ix_e _ ⟨by omega, by omega⟩, ix_e _ ⟨by omega, by omega⟩, ck_e _ (by omega), show 8 * c + (a + 1 + j) - (a + 1) = 8 * c + j by omega]) (fun ma fa => by
      show nb_Y_readPart_371 f ty p s (a + 1) c k (a + 1 + (k - (a + 1))) ma = _
      unfold nb_Y_readPart_371
      rw [if_neg (by omega)])
    have l1 : NL_Y_readPart_371 f ty p s (a + 1) c k (a + 1) m4 = some m7 := l1
    have F7 : FY [94, 95, 96] m m7 := fun x hx => by
      simp only [List.mem_cons, List.not_mem_nil, or_false, not_or] at hx
      rw [l2 x (by simp only [List.mem_cons, List.not_mem_nil, or_false]; omega), F4 x (by simp only [List.mem_cons, List.not_mem_nil, or_false, not_or]; omega)]
    generalize hW : (if g a = 35 then (100 : Int) else 10) = W
    have hW1 : 0 ≤ W ∧ W ≤ 100 := by rw [← hW]; split <;> omega
    generalize hm9 : yw (yw m7 97 s (m 97 s + W)) 93 p (m 93 p + 1) = m9
    have F9 : FY [93, 94, 95, 96, 97] m m9 := fun x hx => by
      simp only [List.mem_cons, List.not_mem_nil, or_false, not_or] at hx
      rw [← hm9, yw_nF (by omega), yw_nF (by omega), F7 x (by simp only [List.mem_cons, List.not_mem_nil, or_false, not_or]; omega)]
    have d97 : m9 97 s = m 97 s + W ∧ ∀ j, j ≠ s → m9 97 j = m 97 j := ⟨by rw [← hm9, yw_nF (by decide), yw_eq], fun j hj => by rw [← hm9, yw_nF (by decide), yw_ni hj, F7 97 (by decide)]⟩
    have d93 : m9 93 p = m 93 p + 1 ∧ ∀ j, j ≠ p → m9 93 j = m 93 j := ⟨by rw [← hm9, yw_eq], fun j hj => by rw [← hm9, yw_ni hj, yw_nF (by decide), F7 93 (by decide)]⟩
    have d94 : m9 94 = m4 94 := by rw [← hm9, yw_nF (by decide), yw_nF (by decide), l2 94 (by decide)]
    have d95 : m9 95 = m4 95 := by rw [← hm9, yw_nF (by decide), yw_nF (by decide), l2 95 (by decide)]
    have d96 : m9 96 = m7 96 := by rw [← hm9, yw_nF (by decide), yw_nF (by decide)]
    have e431 : nk_Y_readPart_431 f ty p s k W (m 97 s) s m7 = some (.inl (k, m9)) := by
      unfold nk_Y_readPart_431 st
      dsimp only
      rw [ck_e _ (by omega), ix_e _ hs, ix_e _ hp]
      rw [yw_nF (show (93 : Nat) ≠ 97 by decide), F7 93 (by decide), ck_e _ (by omega), ix_e _ hp, hm9]
    refine ⟨m9, ?_, ⟨F9, d97.2, d93.2, fun j hj => ⟨by rw [d94]; exact c94.2 j (by omega), by rw [d95]; exact c95.2 j (by omega)⟩, fun j hj => by rw [d96, l4 j (by omega), F4 96 (by decide)]⟩, d93.1, d97.1, by rw [d94]; exact c94.1, by rw [d95]; exact c95.1, fun j ja jb => by rw [d96, l3 j ja jb, e4], fun j hj => ⟨by rw [d94]; exact c94.2 j hj, by rw [d95]; exact c95.2 j hj⟩, fun j hj => by rw [d96, l4 j (by omega), F4 96 (by decide)]⟩
    unfold nk_Y_readPart_355 st
    dsimp only
    rw [ck_e _ (by omega), ix_e _ hc1, hm4, l1]
    simp only [Option.bind_some]
    rw [ix_e _ hs, ix_e _ hc1, l2 94 (by decide), c94.1, F7 97 (by decide)]
    by_cases u : g a = 35
    · rw [if_pos u] at hW ⊢
      rw [hW, e431]
    · rw [if_neg u] at hW ⊢
      rw [hW, e431]
/-- how the marks of a PART end -/
def MKR (g : Int → Int) (tc p s B a : Int) (n : NS) (m : YS) (X : Option ((Int × NS) ⊕ (Int × NS))) (Y : Option ((Int × YS) ⊕ (Int × YS) ⊕ (Int × YS))) : Prop :=
  ∃ k n' m', (a ≤ k ∧ k ≤ tc) ∧ FKn s p n n' ∧ FKy s p m m' ∧
    ((X = some (.inr (k, n')) ∧ Y = some (.inr (.inr (k, m'))) ∧ MKs n' m' p ∧ n' 33 0 s = m' 97 s ∧ (0 ≤ m' 97 s ∧ m' 97 s ≤ B) ∧ (k = a → m' 93 p = m 93 p) ∧ (a < k → 0 < m' 93 p))
    ∨ (X = some (.inl (k, n')) ∧ Y = some (.inl (k, m')))
    ∨ (X = some (.inr (k, n')) ∧ Y = some (.inr (.inl (k, m'))) ∧ k < tc ∧ isNm (g k) ∧ a < k))
theorem marks_both (hs : 0 ≤ s ∧ s < 41) (hp : 0 ≤ p ∧ p < 123) (hf : f = 2 ∨ f = 101) (hK : okK g tc ty) (hty : ty ≤ yLn f ∧ ty ≤ 2000) (hB : B ≤ 100000) : ∀ (z : Nat) (a : Int) (n : NS) (m : YS), (4 - m 93 p).toNat ≤ z → (0 ≤ a ∧ a ≤ tc) → tx n d g tc → m f = g → MKs n m p → n 33 0 s = m 97 s → (0 ≤ m 97 s ∧ m 97 s + 100 * (4 - m 93 p) ≤ B) → MKR g tc p s B a n m (NL_Sheet_readPart_100 d fr tc s p a n) (NL_Y_readPart_201 f ty p s a m) := by
  have hle := hK.1
  -- nothing more
  have stop : ∀ (a : Int) (n : NS) (m : YS), (0 ≤ a ∧ a ≤ tc) → tx n d g tc → m f = g → MKs n m p → n 33 0 s = m 97 s → (0 ≤ m 97 s ∧ m 97 s + 100 * (4 - m 93 p) ≤ B) → (a < tc → (g a ≠ 46 ∧ g a ≠ 35) ∨ 4 ≤ m 93 p) → MKR g tc p s B a n m (NL_Sheet_readPart_100 d fr tc s p a n) (NL_Y_readPart_201 f ty p s a m) := fun a n m ha ht hg hM h33 h97 hno => by
    refine ⟨a, n, m, ⟨Int.le_refl _, ha.2⟩, FKn.refl, FKy.refl, .inl ⟨?_, ?_, hM, h33, ⟨h97.1, by have := hM.2.1; omega⟩, fun _ => rfl, fun y => by omega⟩⟩
    · unfold NL_Sheet_readPart_100
      refine it_inr ?_
      show nb_Sheet_readPart_100 d fr tc s p a n = _
      unfold nb_Sheet_readPart_100 nk_Sheet_readPart_124 dx
      by_cases u : a < tc
      · rw [if_pos u, if_pos ⟨ht.1, ha.1, by have := ht.2.1; omega⟩, ht.2.2 a ha.1 u, ix_e _ hp]
        rcases hno u with y | y
        · rw [if_neg y.1, if_pos ⟨ht.1, ha.1, by have := ht.2.1; omega⟩, if_neg y.2]
        · rw [if_neg (show ¬ n 36 0 p < 4 by rw [hM.1]; omega)]
          by_cases v : g a = 46
          · rw [if_pos v]
          · rw [if_neg v, if_pos ⟨ht.1, ha.1, by have := ht.2.1; omega⟩]
            by_cases w : g a = 35
            · rw [if_pos w]
            · rw [if_neg w]
      · rw [if_neg u]
    · unfold NL_Y_readPart_201
      refine it_inr ?_
      show nb_Y_readPart_201 f ty p s a m = _
      unfold nb_Y_readPart_201 nk_Y_readPart_225
      by_cases u : a < ty
      · rw [if_pos u, ix_e _ ⟨ha.1, by omega⟩, hg, ix_e _ hp]
        have hno' : (g a ≠ 46 ∧ g a ≠ 35) ∨ 4 ≤ m 93 p := by
          by_cases v : a < tc
          · exact hno v
          · have e : a = tc := by omega
            rw [e] at u ⊢
            exact .inl ⟨(hK.2 u).2.1, (hK.2 u).2.2.1⟩
        rcases hno' with y | y
        · rw [if_neg y.1, ix_e _ ⟨ha.1, by omega⟩, if_neg y.2]
        · rw [if_neg (show ¬ m 93 p < 4 by omega)]
          by_cases v : g a = 46
          · rw [if_pos v]
          · rw [if_neg v, ix_e _ ⟨ha.1, by omega⟩]
            by_cases w : g a = 35
            · rw [if_pos w]
            · rw [if_neg w]
      · rw [if_neg u]
  intro z
  induction z with
  | zero =>
    intro a n m hz ha ht hg hM h33 h97
    exact stop a n m ha ht hg hM h33 h97 (fun _ => .inr (by have := hM.2.1; omega))
  | succ z ih =>
    intro a n m hz ha ht hg hM h33 h97
    by_cases hgo : a < tc ∧ (g a = 46 ∨ g a = 35) ∧ m 93 p < 4
    · obtain ⟨g1, g2, g3⟩ := hgo
      have h93 := hM.2.1
      have c1 := fun _ : Unit => c_mark (fr := fr) hs hp ht ⟨ha.1, g1, by omega⟩ g2 (by rw [hM.1]; omega) (by rw [h33]; omega)
      have y1 := fun _ : Unit => y_mark (ty := ty) hs hp hf hg hty ⟨ha.1, by omega⟩ g2 ⟨h93.1, g3⟩ ⟨h97.1, by omega⟩
      rw [hM.1, h33] at c1
      have sst : a + 1 ≤ tc → sc (fun j => isNm (g j)) (a + 1) ty = sc (fun j => isNm (g j)) (a + 1) tc := fun u => sc_stop hK u
      rw [sst (by omega)] at y1
      by_cases hsm : a + 1 < tc ∧ isSm (g (a + 1))
      · have k1 := scx_ge (p := fun j => isNm (g j)) (a + 1) tc
        have k2 := scx_le (p := fun j => isNm (g j)) (i := a + 1) (to := tc) (by omega)
        have k3 : a + 1 < sc (fun j => isNm (g j)) (a + 1) tc := by
          by_cases u : a + 1 < sc (fun j => isNm (g j)) (a + 1) tc
          · exact u
          · have e : sc (fun j => isNm (g j)) (a + 1) tc = a + 1 := by omega
            have := scx_at (p := fun j => isNm (g j)) (i := a + 1) (to := tc) (by omega)
            rw [e] at this
            exact absurd (by have := hsm.2; unfold isSm at this; unfold isNm; omega) this
        have kin : ∀ j, a + 1 ≤ j → j < sc (fun j => isNm (g j)) (a + 1) tc → isNm (g j) := fun j x y => scx_in (p := fun j => isNm (g j)) x y
        have en : nmC g (a + 1) tc = min (sc (fun j => isNm (g j)) (a + 1) tc) (a + 1 + 8) := by unfold nmC; rw [if_pos hsm]
        rw [en] at c1
        generalize sc (fun j => isNm (g j)) (a + 1) tc = S at *
        generalize hk : min S (a + 1 + 8) = k at *
        have c2 := (c1 ()).2 (by omega)
        have ysm : a + 1 < ty ∧ isSm (g (a + 1)) := ⟨by omega, hsm.2⟩
        generalize hn1 : nw (nw (nw (nw n 38 0 (4 * p + m 93 p) (if g a = 35 then 1 else 0)) 37 0 (4 * p + m 93 p) (pk (sg g (a + 1) (k - (a + 1)).toNat))) 33 0 s (m 97 s + (if g a = 35 then 100 else 10))) 36 0 p (m 93 p + 1) = n1 at *
        have K1 : ∀ K, K ∉ [33, 36, 37, 38] → n1 K = n K := fun K hK' => by
          simp only [List.mem_cons, List.not_mem_nil, or_false, not_or] at hK'
          rw [← hn1, nw_nK (by omega), nw_nK (by omega), nw_nK (by omega), nw_nK (by omega)]
        have v33 : n1 33 0 s = m 97 s + (if g a = 35 then 100 else 10) ∧ ∀ j, j ≠ s → n1 33 0 j = n 33 0 j := ⟨by rw [← hn1, nw_nK (by decide), nw_eq], fun j hj => by rw [← hn1, nw_nK (by decide), nw_ns hj, nw_nK (by decide), nw_nK (by decide)]⟩
        have v36 : n1 36 0 p = m 93 p + 1 ∧ ∀ j, j ≠ p → n1 36 0 j = n 36 0 j := ⟨by rw [← hn1, nw_eq], fun j hj => by rw [← hn1, nw_ns hj, nw_nK (by decide), nw_nK (by decide), nw_nK (by decide)]⟩
        have v37 : n1 37 0 (4 * p + m 93 p) = pk (sg g (a + 1) (k - (a + 1)).toNat) ∧ ∀ j, j ≠ 4 * p + m 93 p → n1 37 0 j = n 37 0 j := ⟨by rw [← hn1, nw_nK (by decide), nw_nK (by decide), nw_eq], fun j hj => by rw [← hn1, nw_nK (by decide), nw_nK (by decide), nw_ns hj, nw_nK (by decide)]⟩
        have v38 : n1 38 0 (4 * p + m 93 p) = (if g a = 35 then 1 else 0) ∧ ∀ j, j ≠ 4 * p + m 93 p → n1 38 0 j = n 38 0 j := ⟨by rw [← hn1, nw_nK (by decide), nw_nK (by decide), nw_nK (by decide), nw_eq], fun j hj => by rw [← hn1, nw_nK (by decide), nw_nK (by decide), nw_nK (by decide), nw_ns hj]⟩
        have FN1 : FKn s p n n1 := ⟨K1, v33.2, v36.2, fun j hj => ⟨v37.2 j (by omega), v38.2 j (by omega)⟩⟩
        have E1 : NL_Sheet_readPart_100 d fr tc s p a n = NL_Sheet_readPart_100 d fr tc s p k n1 := by
          unfold NL_Sheet_readPart_100
          exact it_inl (f := fun t : Int × NS => nb_Sheet_readPart_100 d fr tc s p t.1 t.2) (s := (a, n)) c2
        have ht1 : tx n1 d g tc := FN1.txx ht
        by_cases hlong : k < ty ∧ isNm (g k)
        · have hktc : k < tc := by
            by_cases u : k < tc
            · exact u
            · have e : k = tc := by omega
              rw [e] at hlong
              exact absurd hlong.2 (hK.2 hlong.1).1
          refine ⟨k, n1, yw m 94 (4 * p + m 93 p) (g a), ⟨by omega, by omega⟩, FN1, ⟨fun x hx => yw_nF (fun y => hx (by rw [y]; decide)), fun _ _ => by rw [yw_nF (by decide)], fun _ _ => by rw [yw_nF (by decide)], fun j hj => ⟨yw_ni (by omega), by rw [yw_nF (by decide)]⟩, fun _ _ => by rw [yw_nF (by decide)]⟩, .inr (.inr ⟨?_, ?_, hktc, hlong.2, by omega⟩)⟩
          · rw [E1]
            unfold NL_Sheet_readPart_100
            refine it_inr ?_
            show nb_Sheet_readPart_100 d fr tc s p k n1 = _
            have hnm := hlong.2
            unfold isNm at hnm
            unfold nb_Sheet_readPart_100 dx
            rw [if_pos hktc, if_pos ⟨ht1.1, by omega, by have := ht1.2.1; omega⟩, ht1.2.2 k (by omega) hktc, if_neg (by omega), if_pos ⟨ht1.1, by omega, by have := ht1.2.1; omega⟩, if_neg (by omega)]
          · unfold NL_Y_readPart_201
            exact it_inr ((y1 ()).2.1 ysm hlong)
        · obtain ⟨m1, e1, q1, q2, q3, q4, q5, q6, q7, q8⟩ := (y1 ()).2.2 ysm hlong
          have E2 : NL_Y_readPart_201 f ty p s a m = NL_Y_readPart_201 f ty p s k m1 := by
            unfold NL_Y_readPart_201
            exact it_inl (f := fun t : Int × YS => nb_Y_readPart_201 f ty p s t.1 t.2) (s := (a, m)) e1
          have hg1 : m1 f = g := by rw [q1.1 f (by rcases hf with y | y <;> rw [y] <;> decide)]; exact hg
          have hM1 : MKs n1 m1 p := by
            refine ⟨by rw [v36.1, q2], by rw [q2]; omega, fun j ja jb => ?_⟩
            rw [q2] at jb
            by_cases u : j = m 93 p
            · rw [u]
              refine ⟨?_, sg g (a + 1) (k - (a + 1)).toNat, ⟨by rw [sg_len]; omega, by rw [sg_len]; omega, sg_mem _ _ (fun x hx => kin _ (by omega) (by omega))⟩, by rw [q5, sg_len]; omega, ?_, v37.1⟩
              · rw [v38.1, q4]
                by_cases y : g a = 35
                · rw [if_pos y]; exact .inl ⟨rfl, y⟩
                · rw [if_neg y]; exact .inr ⟨rfl, by omega⟩
              · rw [sg_len]
                exact sg_cg _ _ _ (fun x hx => q6 x (by omega) (by omega))
            · exact (hM.2.2 j ja (by omega)).cg ⟨v37.2 _ (by omega), v38.2 _ (by omega)⟩ (q7 _ (by omega)) (fun x xa xb => q8 x (by omega))
          have hW : (0 : Int) ≤ (if g a = 35 then (100 : Int) else 10) ∧ (if g a = 35 then (100 : Int) else 10) ≤ 100 := by split <;> omega
          have I := ih k n1 m1 (by rw [q2]; omega) ⟨by omega, by omega⟩ ht1 hg1 hM1 (by rw [v33.1, q3]) (by rw [q3, q2]; omega)
          rw [E1, E2]
          obtain ⟨k', n', m', r1, r2, r3, r4⟩ := I
          refine ⟨k', n', m', ⟨by omega, r1.2⟩, FN1.trans r2, q1.trans r3, ?_⟩
          rcases r4 with ⟨u1, u2, u3, u4, u5, u6, u7⟩ | u | ⟨u1, u2, u3, u4, u5⟩
          · refine .inl ⟨u1, u2, u3, u4, u5, fun y => by omega, fun _ => ?_⟩
            by_cases y : k' = k
            · rw [u6 y, q2]; omega
            · exact u7 (by omega)
          · exact .inr (.inl u)
          · exact .inr (.inr ⟨u1, u2, u3, u4, by omega⟩)
      · have en : nmC g (a + 1) tc = a + 1 := by unfold nmC; rw [if_neg hsm]
        have hys : ¬ (a + 1 < ty ∧ isSm (g (a + 1))) := fun u => by
          by_cases v : a + 1 < tc
          · exact hsm ⟨v, u.2⟩
          · have e : a + 1 = tc := by omega
            rw [e] at u
            have h1 := (hK.2 u.1).1
            have h2 := u.2
            unfold isSm at h2
            unfold isNm at h1
            omega
        refine ⟨a + 1, n, yw m 94 (4 * p + m 93 p) (g a), ⟨by omega, by omega⟩, FKn.refl, ⟨fun x hx => yw_nF (fun y => hx (by rw [y]; decide)), fun _ _ => by rw [yw_nF (by decide)], fun _ _ => by rw [yw_nF (by decide)], fun j hj => ⟨yw_ni (by omega), by rw [yw_nF (by decide)]⟩, fun _ _ => by rw [yw_nF (by decide)]⟩, .inr (.inl ⟨?_, ?_⟩)⟩
        · unfold NL_Sheet_readPart_100
          exact it_inr ((c1 ()).1 en)
        · unfold NL_Y_readPart_201
          exact it_inr ((y1 ()).1 hys)
    · refine stop a n m ha ht hg hM h33 h97 (fun u => ?_)
      by_cases y : g a = 46 ∨ g a = 35
      · exact .inr (by
          by_cases w : m 93 p < 4
          · exact absurd ⟨u, y, w⟩ hgo
          · omega)
      · exact .inl ⟨fun w => y (.inl w), fun w => y (.inr w)⟩
end S2
