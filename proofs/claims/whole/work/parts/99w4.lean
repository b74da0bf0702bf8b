/-! AN ITEM comes on the line, in both: the whole of it -/
def PUT (A B v E wd F it' w s : Int) (n : NS) (m : YS) : Prop := ∃ n' m' F', N_Layout_putItem it' w s n = some n' ∧ N_Y_putItem it' w s m = some m' ∧ LSx n' m' v E wd F' ∧ BI A B n' ∧ WLc n' ∧ FRl v n n' ∧ FVy v m m' ∧ pot m' F' ≤ pot m F + iH m it' ∧ m 127 0 ≤ m' 127 0
      ∧ (∀ a, 0 ≤ a → SNb n m E a → SNb n' m' E a) ∧ (∀ w', 0 ≤ w' → SNw n m E w' → SNw n' m' E w') ∧ (∃ i, 0 ≤ i ∧ i < m' 131 0 ∧ m' 134 i = it') ∧ m' 131 0 ≤ m 131 0 + 1 ∧ F' + m' 143 0 = F + m 143 0 ∧ ∀ i, 0 ≤ i → i < m' 131 0 → m' 134 i = it' ∨ ∃ j, 0 ≤ j ∧ j < m 131 0 ∧ m 134 j = m' 134 i
section W4
variable {n n' n'' : NS} {m m' m'' : YS} {A B a b c y q s E F v wd u w t sh Y H I l gap at' it' g0 : Int}
theorem putItem_both (hS : LSx n m v E wd F) (hB : BI A B n) (hW : WLc n) (hk : ITk n m v it') (hnew : ∀ i, 0 ≤ i → i < m 131 0 → m 134 i ≠ it') (hI : m 131 0 < 24000) (hw : 0 ≤ w ∧ w ≤ 1300000) (hs : 1 ≤ s ∧ s ≤ 3) (hp : pot m F ≤ 900000) : PUT A B v E wd F it' w s n m := by
  have hS0 := hS
  obtain ⟨hL, ⟨i1, i2, i3, i4⟩, hWt, e1, e2, e3⟩ := hS
  have hE := hL.1.2.2.2.1
  have hk0 : -120 ≤ it' := by rcases hk with g | g; exact g.2.1; omega
  have hF0 := hL.2.1.2.2
  have hF1 := hWt.1.2.2
  have hF2 := hWt.1.2.1
  by_cases z : m 131 0 = 0
  · have hc := cn_le (m := m) (y := m 127 0) F.toNat
    obtain ⟨n', m', r1, r2, r3, r4, r5, r6, r7, r8, r9, r10, r11, r12, r13, r14⟩ := item0 (A := A) (B := B) (v := v) (E := E) (wd := wd) (F := F) (s := s) hk0 hw _ 0 n m hS0 z (Nat.le_refl _) (Int.le_refl _) (by omega) hB hW hk
    refine ⟨n', m', F, ?_, ?_, r3, r4, r5, r6, r7, r8, r9, r10, r11, r12, by omega, by rw [r14], fun i x y => ?_⟩
    · unfold N_Layout_putItem nk_Layout_putItem_20 nk_Layout_putItem_21
      rw [i1.1, if_neg (by omega)]; exact r1
    · unfold N_Y_putItem; exact r2
    · obtain ⟨j, j1, j2, j3⟩ := r12
      exact .inl (by rw [show i = j by omega]; exact j3)
  · have hI0 : 0 < m 131 0 := by omega
    obtain ⟨c1, c2, c3, c4, c5⟩ := e2 hI0
    obtain ⟨g0, hg0, hg9⟩ : ∃ g0, g0 = (if m 144 0 = 0 then 0 else 3 * s) ∧ 0 ≤ g0 ∧ g0 ≤ 9 := ⟨_, rfl, by split <;> omega, by split <;> omega⟩
    -- the class begins with the gap
    have hc1 : N_Layout_putItem it' w s n = nk_Layout_putItem_21 it' w g0 n := by
      unfold N_Layout_putItem nk_Layout_putItem_20
      rw [i1.1, if_pos hI0, c3]
      by_cases x : m 144 0 = 0
      · rw [if_pos x, hg0, if_pos x]
      · rw [if_neg x, ck_e _ (by omega), hg0, if_neg x]
    have hy1 : nb_Y_putItem_3 it' w s 0 m = nk_Y_putItem_78 it' w s 0 (m 130 0 + g0) (-1) m := by
      unfold nb_Y_putItem_3 nk_Y_putItem_31 nk_Y_putItem_55 nk_Y_putItem_56
      rw [if_pos rfl, if_neg z, if_pos hI0]
      by_cases x : m 144 0 = 0
      · rw [if_pos x] at hg0
        rw [if_pos x, ck_e _ (by omega), if_pos hI0, hg0]
      · rw [if_neg x] at hg0
        rw [if_neg x, ck_e _ (by omega), ck_e _ (by omega), if_pos hI0, hg0]
    by_cases fit : m 130 0 + g0 + w ≤ m 129 0
    · obtain ⟨n', r1, r2, r3, r4, r5, r6, r7, r8, r9⟩ := putI_both (gap := g0) (at' := m 130 0 + g0) (w := w) hB hW hL ⟨i1, i2, i3, i4⟩ hWt hk hnew hI (by rw [c1]; omega) c2 c5 (by omega) hw hg9
      obtain ⟨mQ, hmQ⟩ : ∃ mQ, mQ = yw (mP m it' w (m 130 0 + g0)) 144 0 0 := ⟨_, rfl⟩
      rw [← hmQ] at r2 r6 r7 r8 r9
      have q131 : mQ 131 0 = m 131 0 + 1 := by rw [hmQ, yw_nF (by decide)]; unfold mP; rw [yw_nF (by decide), yw_nF (by decide), yw_eq]
      have q134I : mQ 134 (m 131 0) = it' := by rw [hmQ, yw_nF (by decide)]; unfold mP; rw [yw_nF (by decide), yw_nF (by decide), yw_nF (by decide), yw_nF (by decide), yw_eq]
      have q134 : ∀ i, i ≠ m 131 0 → mQ 134 i = m 134 i := fun i x => by rw [hmQ, yw_nF (by decide)]; unfold mP; rw [yw_nF (by decide), yw_nF (by decide), yw_nF (by decide), yw_nF (by decide), yw_ni x]
      have qo : ∀ f, f ∉ [130, 131, 132, 134, 135, 144] → mQ f = m f := fun f hf => by
        simp only [List.mem_cons, List.not_mem_nil, or_false, not_or] at hf
        rw [hmQ, yw_nF (by omega), mP_o (by simp only [List.mem_cons, List.not_mem_nil, or_false, not_or]; omega)]
      refine ⟨n', mQ, F, ?_, ?_, r2, r3, r4, r5, r6, r7, by rw [qo 127 (by decide)]; exact Int.le_refl _, r8, r9, ⟨m 131 0, i1.2.1, by omega, q134I⟩, by omega, by rw [qo 143 (by decide)], fun i x y => ?_⟩
      · rw [hc1]
        unfold nk_Layout_putItem_21
        have : NL_Layout_putItem_26 it' w g0 0 n = some (.inr (g0, n)) := by
          unfold NL_Layout_putItem_26
          refine it_inr ?_
          show nb_Layout_putItem_26 it' w g0 0 n = _
          unfold nb_Layout_putItem_26
          rw [if_neg (by decide), c1, c2, ck_e _ (by omega), ck_e _ (by omega), if_neg (by omega)]
        rw [this]; exact r1
      · unfold N_Y_putItem NL_Y_putItem_3
        have hb : nb_Y_putItem_3 it' w s 0 m = some (.inl (1, mP m it' w (m 130 0 + g0))) := by
          rw [hy1]
          unfold nk_Y_putItem_78
          rw [ck_e _ (by omega), if_neg (by omega), yP_put hk hW.2.2.1.2.1 ⟨i1.2.1, hI⟩ (by omega) hw]
        rw [it_inl (f := fun s' : Int × YS => nb_Y_putItem_3 it' w s s'.1 s'.2) (s := (0, m)) hb]
        have h2 : it (fun s' : Int × YS => nb_Y_putItem_3 it' w s s'.1 s'.2) (1, mP m it' w (m 130 0 + g0)) = some (mP m it' w (m 130 0 + g0)) := by
          refine it_inr ?_
          show nb_Y_putItem_3 it' w s 1 _ = _
          dsimp only
          unfold nb_Y_putItem_3
          rw [if_neg (by decide)]
        rw [h2, hmQ]; rfl
      · by_cases x' : i = m 131 0
        · exact .inl (by rw [x', q134I])
        · exact .inr ⟨i, x, by omega, (q134 i x').symm⟩
    · obtain ⟨n1, m1, k1, k2, ⟨k3, k4, k5, k6, k7, k8, k9, k10⟩⟩ := closeLine_both hS0 hW hI0 hp
      have hc := cn_le (m := m1) (y := m1 127 0) (F + m 143 0).toNat
      have hw1 := k3.2.2.1.1
      obtain ⟨n', m', r1, r2, r3, r4, r5, r6, r7, r8, r9, r10, r11, r12, r13, r14⟩ := item0 (A := A) (B := B) (v := v) (E := E) (wd := wd) (F := F + m 143 0) (s := s) hk0 hw _ 1 n1 m1 k3 k4 (Nat.le_refl _) (by decide) (by omega) (k7.bi hB) (k7.wl hW) (hk.cn k7 k8)
      have eiH : iH m1 it' = iH m it' := iH_cg (fun f hf => k8.1 f (by simp only [List.mem_cons, List.not_mem_nil, or_false, not_or]; omega))
      have h143 := (k3.2.2.2.2.2 k4).1
      refine ⟨n', m', F + m 143 0, ?_, ?_, r3, r4, r5, k7.rl.trans r6, k8.trans r7, by omega, by omega, fun a x h => r10 a x (.inl (k9 a x h)), fun a x h => r11 a x (.inl (k10 a x h)), r12, by omega, by rw [r14, h143]; omega, fun i x y => ?_⟩
      · rw [hc1]
        unfold nk_Layout_putItem_21
        rw [← r1]
        congr 1
        unfold NL_Layout_putItem_26
        refine it_inl ?_
        show nb_Layout_putItem_26 it' w g0 0 n = _
        unfold nb_Layout_putItem_26
        rw [if_neg (by decide), c1, c2, ck_e _ (by omega), ck_e _ (by omega), if_pos (by omega), i1.1, if_pos hI0, k1]
        simp only [Option.bind_some]
        rw [ck_e _ (by omega)]; rfl
      · unfold N_Y_putItem
        rw [← r2]
        congr 1
        unfold NL_Y_putItem_3
        refine it_inl ?_
        show nb_Y_putItem_3 it' w s 0 m = _
        rw [hy1]
        unfold nk_Y_putItem_78 nk_Y_putItem_165
        rw [ck_e _ (by omega), if_pos (by omega), if_neg z, if_pos hI0, k2]
        simp only [Option.bind_some]
      · obtain ⟨j, j1, j2, j3⟩ := r12
        exact .inl (by rw [show i = j by omega]; exact j3)
end W4
