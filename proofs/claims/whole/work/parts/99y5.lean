/-! WORDS ARE LISTED, in both: all of a TEXT -/
/-- a word in both rows -/
def WW (n : NS) (m : YS) (t w : Int) : Prop := (n 99 (n 5 0 5) (6 * w) = t ∧ m 118 w = t) ∧ (n 99 (n 5 0 5) (6 * w + 1) = m 119 w ∧ n 99 (n 5 0 5) (6 * w + 2) = m 120 w ∧ n 99 (n 5 0 5) (6 * w + 5) = m 123 w) ∧ (0 ≤ m 123 w ∧ m 123 w ≤ 6000 ∧ m 123 w = wdS (fun j => m 61 (400 * t + j)) (m 119 w) (m 120 w).toNat * n 3 t 11) ∧ (0 ≤ pE m t w ∧ pE m t w ≤ m 119 w ∧ 1 ≤ m 120 w ∧ m 119 w + m 120 w ≤ m 62 t) ∧ (∀ j, pE m t w ≤ j → j < m 119 w → isBl (m 61 (400 * t + j))) ∧ (∀ j, m 119 w ≤ j → j < m 119 w + m 120 w → ¬ isBl (m 61 (400 * t + j)))
/-- the words of a TEXT up to a place -/
def WLI (A B t fw c i : Int) (n : NS) (m : YS) : Prop := (BI A B n ∧ WL1 n) ∧ (n 5 0 6 = fw + c ∧ m 117 0 = fw + c ∧ 0 ≤ c ∧ 2 * c ≤ i) ∧ (m 116 t = fw ∧ 0 ≤ fw ∧ fw + 200 ≤ 24000) ∧ (∀ w, fw ≤ w → w < fw + c → WW n m t w) ∧ (0 ≤ pE m t (fw + c) ∧ pE m t (fw + c) ≤ i ∧ pE m t (fw + c) ≤ m 62 t ∧ ∀ j, pE m t (fw + c) ≤ j → j < i → j < m 62 t → isBl (m 61 (400 * t + j)))
def F1w (fw : Int) (m m' : YS) : Prop := FY [117, 118, 119, 120, 123] m m' ∧ ∀ j, j < fw → m' 118 j = m 118 j ∧ m' 119 j = m 119 j ∧ m' 120 j = m 120 j ∧ m' 123 j = m 123 j
section Y5
variable {n n' n'' : NS} {m m' m'' : YS} {A B N a b c x y q s E v u w t k j r x1 x2 x3 x4 x5 i L fw len wide : Int} {o e p g : Int → Int}
theorem tx_f1 (hB : BI A B n) (hW : WLc n) (hF : F1n n n') (hb : 0 ≤ b ∧ b ≤ 604) (h : tx n (n 4 b 1) g L) : tx n' (n' 4 b 1) g L := by
  have hb1 := hB.1 b (by omega) (by omega)
  have h1 := hF.2.2.2.1.2.1 _ hb1.2.1.2
  have h2 := hF.2.2.2.1.2.2 _ hb1.2.1.2 (fun z => by
    have := hB.2.1 b 608 (by omega) (by omega) (by decide) (by decide) z
    omega) (fun z => by
    have h1 := hb1.2.2.1
    rw [z, hW.1.1] at h1
    exact absurd h1 (by decide))
  unfold tx at *
  rw [hF.2.1 b (by omega), h1.1, h1.2, h2]; exact h
theorem F1w.trans (h : F1w fw m m') (h' : F1w fw m' m'') : F1w fw m m'' := ⟨h.1.trans h'.1, fun j hj => by
  have g1 := h.2 j hj
  have g2 := h'.2 j hj
  exact ⟨g2.1.trans g1.1, g2.2.1.trans g1.2.1, g2.2.2.1.trans g1.2.2.1, g2.2.2.2.trans g1.2.2.2⟩⟩
theorem list_loop (ht : 0 ≤ t ∧ t < 120) (hs : 1 ≤ s ∧ s ≤ 3) : ∀ (z : Nat) (i c : Int) (n : NS) (m : YS), (m 62 t + 1 - i).toNat ≤ z → 0 ≤ i → (0 ≤ m 62 t ∧ m 62 t ≤ 400) → i ≤ m 62 t + 1 → WLI A B t fw c i n m → n 3 t 11 = s → n 4 (5 * t) 2 = m 62 t → tx n (n 4 (5 * t) 1) (fun j => m 61 (400 * t + j)) (m 62 t) →
    ∃ n' m' c' i', NL_Layout_listWords_11 t (5 * t) t i n = some n' ∧ NL_Y_split_15 t s i m = some m' ∧ WLI A B t fw c' i' n' m' ∧ (m 62 t ≤ i' ∧ i' ≤ m 62 t + 1) ∧ F1n n n' ∧ n' 3 = n 3 ∧ n' 4 = n 4 ∧ WKp n n' ∧ F1w fw m m' := by
  have stop : ∀ (i c : Int) (n : NS) (m : YS), m 62 t ≤ i → (0 ≤ m 62 t ∧ m 62 t ≤ 400) → i ≤ m 62 t + 1 → WLI A B t fw c i n m → n 4 (5 * t) 2 = m 62 t → ∃ n' m' c' i', NL_Layout_listWords_11 t (5 * t) t i n = some n' ∧ NL_Y_split_15 t s i m = some m' ∧ WLI A B t fw c' i' n' m' ∧ (m 62 t ≤ i' ∧ i' ≤ m 62 t + 1) ∧ F1n n n' ∧ n' 3 = n 3 ∧ n' 4 = n 4 ∧ WKp n n' ∧ F1w fw m m' := by
    intro i c n m hge hL h3 hI h4
    refine ⟨n, m, c, i, ?_, ?_, hI, by omega, F1n.refl, rfl, rfl, ⟨Int.le_refl _, fun _ _ _ => rfl⟩, FY.refl _ _, fun _ _ => ⟨rfl, rfl, rfl, rfl⟩⟩
    · unfold NL_Layout_listWords_11
      refine it_inr ?_
      show nb_Layout_listWords_11 t (5 * t) t i n = _
      unfold nb_Layout_listWords_11
      rw [h4, if_neg (by omega)]
    · unfold NL_Y_split_15
      refine it_inr ?_
      show nb_Y_split_15 t s i m = _
      unfold nb_Y_split_15
      rw [ix_e _ ht, if_neg (by omega)]
  intro z
  induction z with
  | zero =>
    intro i c n m h1 h2 hL h3 hI hs' h4 htx
    exact stop i c n m (by omega) hL h3 hI h4
  | succ z ih =>
    intro i c n m h1 h2 hL h3 hI hs' h4 htx
    by_cases hlt : i < m 62 t
    · have hI0 := hI
      obtain ⟨⟨hB, hW⟩, ⟨c1, c2, c3, c4⟩, ⟨f1, f2, f3⟩, hw, ⟨p1, p2, p3, p4⟩⟩ := hI
      have hr := (hB.1 (5 * t) (by omega) (by omega)).2.1
      have hcw := c_wordW (x1 := t) (x3 := t) (i := i) h4 htx hr.1 ⟨h2, by omega, hL.2⟩
      have k1 := scx_ge (p := fun j => ¬ isBl (m 61 (400 * t + j))) i (m 62 t)
      have k2 := scx_le (p := fun j => ¬ isBl (m 61 (400 * t + j))) (i := i) (to := m 62 t) (by omega)
      by_cases hbl : isBl (m 61 (400 * t + i))
      · -- a blank
        have es : sc (fun j => ¬ isBl (m 61 (400 * t + j))) i (m 62 t) = i := by
          by_cases w : sc (fun j => ¬ isBl (m 61 (400 * t + j))) i (m 62 t) = i
          · exact w
          · exact absurd hbl (scx_in (p := fun j => ¬ isBl (m 61 (400 * t + j))) (i := i) (to := m 62 t) (Int.le_refl _) (by omega))
        obtain ⟨n', m', c', i', r1, r2, r3, r4⟩ := ih (i + 1) c n m (by omega) (by omega) hL (by omega) ⟨⟨hB, hW⟩, ⟨c1, c2, c3, by omega⟩, ⟨f1, f2, f3⟩, hw, p1, by omega, p3, fun j x y w => by
          by_cases u : j = i
          · rw [u]; exact hbl
          · exact p4 j x (by omega) w⟩ hs' h4 htx
        refine ⟨n', m', c', i', ?_, ?_, r3, r4⟩
        · rw [← r1]
          unfold NL_Layout_listWords_11
          refine it_inl ?_
          show nb_Layout_listWords_11 t (5 * t) t i n = _
          unfold nb_Layout_listWords_11
          rw [h4, if_pos hlt, hcw]
          simp only [Option.bind_some, u2]
          rw [es]
          unfold nk_Layout_listWords_70 nk_Layout_listWords_96
          rw [if_neg (by omega), ck_e _ (by omega)]
        · rw [← r2]
          unfold NL_Y_split_15
          refine it_inl ?_
          show nb_Y_split_15 t s i m = _
          unfold nb_Y_split_15
          rw [ix_e _ ht, if_pos hlt, ck_e _ (by omega), ck_e _ (by omega), ix_e _ (by omega)]
          apply eq_of_ev
          refine y_isBlank (fun _ => ?_) (fun h => absurd hbl h)
          rw [if_neg (by decide)]
          exact ev_ck (by omega) (ev_ok rfl)
      · -- a word
        obtain ⟨sp, hsp⟩ : ∃ sp, sp = sc (fun j => ¬ isBl (m 61 (400 * t + j))) i (m 62 t) := ⟨_, rfl⟩
        have kin := fun j (a : i ≤ j) (b : j < sc (fun j => ¬ isBl (m 61 (400 * t + j))) i (m 62 t)) => scx_in (p := fun j => ¬ isBl (m 61 (400 * t + j))) (i := i) (to := m 62 t) a b
        have kat : sp < m 62 t → isBl (m 61 (400 * t + sp)) := fun w => by
          have := scx_at (p := fun j => ¬ isBl (m 61 (400 * t + j))) (i := i) (to := m 62 t) (by rw [← hsp]; exact w)
          rw [← hsp] at this
          exact Decidable.not_not.mp this
        have hne : sp ≠ i := fun w => by
          have := kat (by omega)
          rw [w] at this; exact hbl this
        rw [← hsp] at k1 k2 kin hcw
        have wb := wdS_b (g := fun j => m 61 (400 * t + j)) (i := i) (sp - i).toNat
        obtain ⟨wd, hwd⟩ : ∃ wd, wd = wdS (fun j => m 61 (400 * t + j)) i (sp - i).toNat := ⟨_, rfl⟩
        rw [← hwd] at wb hcw
        have hws : 0 ≤ wd * s ∧ wd * s ≤ 2000 * 3 := ⟨Int.mul_nonneg wb.1 (by omega), Int.mul_le_mul (by omega) hs.2 (by omega) (by omega)⟩
        obtain ⟨n6, e6, a1, a2, a3, a4, a5, a6, a7, a8, a9, a10, a11⟩ := c_addWord (t := t) (i := i) (len := sp - i) (wide := wd * s) hB hW (by omega) (by omega)
        obtain ⟨m24, hm24⟩ : ∃ m24, m24 = yw (yw m 118 (fw + c) t) 119 (fw + c) i := ⟨_, rfl⟩
        obtain ⟨m21, hm21⟩ : ∃ m21, m21 = yw (yw (yw m24 120 (fw + c) (sp - i)) 123 (fw + c) (wd * s)) 117 0 (fw + c + 1) := ⟨_, rfl⟩
        have f24 : ∀ f, f ≠ 118 → f ≠ 119 → m24 f = m f := fun f a b => by rw [hm24, yw_nF b, yw_nF a]
        have f21 : ∀ f, f ∉ [117, 118, 119, 120, 123] → m21 f = m f := fun f hf => by
          simp only [List.mem_cons, List.not_mem_nil, or_false, not_or] at hf
          rw [hm21, yw_nF (by omega), yw_nF (by omega), yw_nF (by omega)]
          exact f24 f (by omega) (by omega)
        have o21 : ∀ j, j ≠ fw + c → m21 118 j = m 118 j ∧ m21 119 j = m 119 j ∧ m21 120 j = m 120 j ∧ m21 123 j = m 123 j := fun j hj => by
          rw [hm21]
          refine ⟨?_, ?_, ?_, ?_⟩
          · rw [yw_nF (by decide), yw_nF (by decide), yw_nF (by decide), hm24, yw_nF (by decide), yw_ni hj]
          · rw [yw_nF (by decide), yw_nF (by decide), yw_nF (by decide), hm24, yw_ni hj, yw_nF (by decide)]
          · rw [yw_nF (by decide), yw_nF (by decide), yw_ni hj, f24 120 (by decide) (by decide)]
          · rw [yw_nF (by decide), yw_ni hj, yw_nF (by decide), f24 123 (by decide) (by decide)]
        have v118 : m21 118 (fw + c) = t := by rw [hm21, yw_nF (by decide), yw_nF (by decide), yw_nF (by decide), hm24, yw_nF (by decide), yw_eq]
        have v119 : m21 119 (fw + c) = i := by rw [hm21, yw_nF (by decide), yw_nF (by decide), yw_nF (by decide), hm24, yw_eq]
        have v120 : m21 120 (fw + c) = sp - i := by rw [hm21, yw_nF (by decide), yw_nF (by decide), yw_eq]
        have v123 : m21 123 (fw + c) = wd * s := by rw [hm21, yw_nF (by decide), yw_eq]
        have e62 : m21 62 = m 62 := f21 62 (by decide)
        have e61 : m21 61 = m 61 := f21 61 (by decide)
        have e116 : m21 116 = m 116 := f21 116 (by decide)
        have ePo : ∀ w, w ≤ fw + c → pE m21 t w = pE m t w := fun w hw' => by
          unfold pE
          rw [e116]
          by_cases u : w = m 116 t
          · rw [if_pos u, if_pos u]
          · rw [if_neg u, if_neg u, (o21 (w - 1) (by omega)).2.1, (o21 (w - 1) (by omega)).2.2.1]
        have ePn : pE m21 t (fw + c + 1) = sp := by
          unfold pE
          rw [e116, if_neg (by omega), show fw + c + 1 - 1 = fw + c by omega, v119, v120]; omega
        rw [c1] at a3 a8 a9 a10 a11
        have e5' := a4
        have hI1 : WLI A B t fw (c + 1) (sp + 1) n6 m21 := by
          refine ⟨⟨a1, a2⟩, ⟨by omega, by rw [hm21, yw_eq]; omega, by omega, by omega⟩, ⟨by rw [e116]; exact f1, f2, f3⟩, fun w x y => ?_, ?_⟩
          · by_cases u : w = fw + c
            · rw [u]
              unfold WW
              rw [v118, v119, v120, v123, ePo _ (Int.le_refl _), e62, e61]
              refine ⟨⟨a8, rfl⟩, ⟨a9, a10, a11⟩, ⟨by omega, by omega, by rw [← hwd, a5, hs']⟩, ⟨p1, p2, by omega, by omega⟩, fun j x' y' => p4 j x' y' (by omega), fun j x' y' => kin j x' (by omega)⟩
            · have g := hw w x (by omega)
              unfold WW at *
              rw [(o21 w u).1, (o21 w u).2.1, (o21 w u).2.2.1, (o21 w u).2.2.2, ePo w (by omega), e62, e61, a7.2 (6 * w) (by omega) (by omega), a7.2 (6 * w + 1) (by omega) (by omega), a7.2 (6 * w + 2) (by omega) (by omega), a7.2 (6 * w + 5) (by omega) (by omega), a5]
              exact g
          · rw [show fw + (c + 1) = fw + c + 1 by omega, ePn, e62, e61]
            exact ⟨by omega, by omega, by omega, fun j x y w => by rw [show j = sp by omega]; exact kat (by omega)⟩
        obtain ⟨n', m', c', i', r1, r2, r3, r4, r5, r6, r7, r8, r9⟩ := ih (sp + 1) (c + 1) n6 m21 (by rw [e62]; omega) (by omega) (by rw [e62]; exact hL) (by rw [e62]; omega) hI1 (by rw [a5]; exact hs') (by rw [a6, e62]; exact h4) (by
          rw [e61, e62]
          exact tx_f1 hB hW.1 a4 (by omega) htx)
        have hF1 : F1w fw m m21 := ⟨f21, fun j hj => o21 j (by omega)⟩
        refine ⟨n', m', c', i', ?_, ?_, r3, by rw [e62] at r4; exact r4, a4.trans r5, by rw [r6, a5], by rw [r7, a6], ⟨by have := r8.1; omega, fun j x y => ?_⟩, hF1.trans r9⟩
        · rw [← r1]
          unfold NL_Layout_listWords_11
          refine it_inl ?_
          show nb_Layout_listWords_11 t (5 * t) t i n = _
          unfold nb_Layout_listWords_11
          rw [h4, if_pos hlt, hcw]
          simp only [Option.bind_some, u2]
          unfold nk_Layout_listWords_70 nk_Layout_listWords_96
          rw [if_pos (by omega), ck_e _ (by omega), hs', ck_e _ (by omega), e6]
          simp only [Option.bind_some]
          rw [ck_e _ (by omega)]
        · have hyw := y_wordW (m := m24) (v := t) (i := i) (s := s) (L := m 62 t) ht ⟨by rw [f24 62 (by decide) (by decide)], hL.2⟩ ⟨h2, by omega⟩ (by omega)
          rw [f24 61 (by decide) (by decide), ← hsp, ← hwd] at hyw
          have hb1 : nb_Y_split_15 t s i m = some (.inl (sp, m21)) := by
            unfold nb_Y_split_15 nk_Y_split_128 st
            dsimp only
            rw [ix_e _ ht, if_pos hlt, ck_e _ (by omega), ck_e _ (by omega), ix_e _ (by omega)]
            apply eq_of_ev
            refine y_isBlank (fun h => absurd h hbl) (fun _ => ?_)
            have e117 : yw m 118 (m 117 0) t 117 0 = fw + c := by rw [yw_nF (by decide), c2]
            rw [if_pos rfl, e117, c2, ← hm24, hyw]
            simp only [Option.bind_some, u2]
            have g117 : m24 117 0 = fw + c := by rw [f24 117 (by decide) (by decide), c2]
            have g119 : m24 119 (fw + c) = i := by rw [hm24, yw_eq]
            have g1171 : yw m24 120 (fw + c) (sp - i) 117 0 = fw + c := by rw [yw_nF (by decide), g117]
            have g1172 : yw (yw m24 120 (fw + c) (sp - i)) 123 (fw + c) (wd * s) 117 0 = fw + c := by rw [yw_nF (by decide), g1171]
            rw [g117, g119, g1171, g1172, ← hm21]
            exact ev_ix (by omega) (ev_ix (by omega) (ev_ix (by omega) (ev_ck (by omega) (ev_ix (by omega) (ev_ix (by omega) (ev_ck (by omega) (ev_ok rfl)))))))
          have hb2 : NL_Y_split_15 t s sp m21 = NL_Y_split_15 t s (sp + 1) m21 := by
            by_cases w : sp < m 62 t
            · unfold NL_Y_split_15
              refine it_inl ?_
              show nb_Y_split_15 t s sp m21 = _
              unfold nb_Y_split_15
              rw [ix_e _ ht, e62, if_pos w, ck_e _ (by omega), ck_e _ (by omega), ix_e _ (by omega), e61]
              apply eq_of_ev
              refine y_isBlank (fun _ => ?_) (fun h => absurd (kat w) h)
              rw [if_neg (by decide)]
              exact ev_ck (by omega) (ev_ok rfl)
            · have stop : ∀ x, m 62 t ≤ x → NL_Y_split_15 t s x m21 = some m21 := fun x hx => by
                unfold NL_Y_split_15
                refine it_inr ?_
                show nb_Y_split_15 t s x m21 = _
                unfold nb_Y_split_15
                rw [ix_e _ ht, e62, if_neg (by omega)]
              rw [stop sp (by omega), stop (sp + 1) (by omega)]
          rw [← r2, ← hb2]
          unfold NL_Y_split_15
          exact it_inl (f := fun s' : Int × YS => nb_Y_split_15 t s s'.1 s'.2) (s := (i, m)) hb1
        · rw [r8.2 j x (by omega)]
          exact a7.2 j x (by omega)
    · exact stop i c n m (by omega) hL h3 hI h4
end Y5
