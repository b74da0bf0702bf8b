/-! AN ITEM comes on the line, in both: where there is room -/
section W3
variable {n n' n'' : NS} {m m' m'' : YS} {A B a b c y q s E F v wd u w t sh Y H I l gap at' it' : Int}
/-- an empty line goes elsewhere -/
theorem LSx.mv (h : LSx n m v E wd F) (hI : m 131 0 = 0) (hy : 0 ≤ y) (hm : FY [127, 128, 129, 130, 144] m m') (h127 : m' 127 0 = y) (h144 : m' 144 0 = 0 ∨ m' 144 0 = 1) : N_Layout_openAt (y + E) (nw n 5 0 11 (y + E)) = some (wO (nw n 5 0 11 (y + E)) (leR m y F.toNat + E) (riR m y F.toNat + E) (nX E (neR m y F.toNat))) ∧ LSx (wO (nw n 5 0 11 (y + E)) (leR m y F.toNat + E) (riR m y F.toNat + E) (nX E (neR m y F.toNat))) m' v E wd F := by
  obtain ⟨⟨l1, l2, l3, l4, l5⟩, ⟨i1, i2, i3, i4⟩, ⟨t1, t2, t3⟩, e1, e2, e3⟩ := h
  have hm' : ∀ f, f ∉ [127, 128, 129, 130, 144] → m' f = m f := hm
  have nK : ∀ K, K ≠ 5 → nw n 5 0 11 (y + E) K = n K := fun K x => nw_nK x
  have n5 : ∀ s, s ≠ 11 → nw n 5 0 11 (y + E) 5 0 s = n 5 0 s := fun s x => nw_ns x
  have hB' : BK (nw n 5 0 11 (y + E)) m v E wd := l1.cg (n5 8 (by decide)) (fun a s _ _ => by rw [nK 3 (by decide)]) rfl rfl
  have hT' : FTb (nw n 5 0 11 (y + E)) m E F := l3.cg (fun f _ _ => by rw [nK 43 (by decide)]) (fun f _ _ => by rw [nK 3 (by decide)]) (fun _ _ _ => ⟨rfl, rfl, rfl, rfl, rfl⟩)
  have hop := c_openAt (y := y) hB' (by rw [n5 17 (by decide)]; exact l2.1) ⟨l2.2.2, by omega⟩ hT'
  refine ⟨hop, ?_⟩
  obtain ⟨nE, hnE⟩ : ∃ nE, nE = wO (nw n 5 0 11 (y + E)) (leR m y F.toNat + E) (riR m y F.toNat + E) (nX E (neR m y F.toNat)) := ⟨_, rfl⟩
  rw [← hnE]
  have eK : ∀ K, K ≠ 5 → nE K = n K := fun K x => by rw [hnE, wO_K x, nK K x]
  have e5 : ∀ s, s ≠ 11 → s ≠ 12 → s ≠ 13 → s ≠ 14 → nE 5 0 s = n 5 0 s := fun s x y z w => by rw [hnE, wO_s y z w, n5 s x]
  have qf := fun y => flR_m (m := m) (m' := m') (y := y) (F := F) (fun f hf => hm' f (by simp only [List.mem_cons, List.not_mem_nil, or_false, not_or]; omega))
  refine ⟨⟨l1.cg (e5 8 (by decide) (by decide) (by decide) (by decide)) (fun a s _ _ => by rw [eK 3 (by decide)]) (hm' 145 (by decide)) (hm' 133 (by decide)), ⟨by rw [e5 17 (by decide) (by decide) (by decide) (by decide)]; exact l2.1, by rw [hm' 136 (by decide)]; exact l2.2.1, l2.2.2⟩, l3.cg (fun f _ _ => by rw [eK 43 (by decide)]) (fun f _ _ => by rw [eK 3 (by decide)]) (fun f _ _ => by rw [hm' 137 (by decide), hm' 138 (by decide), hm' 139 (by decide), hm' 140 (by decide), hm' 141 (by decide)]; exact ⟨rfl, rfl, rfl, rfl, rfl⟩), by rw [e5 19 (by decide) (by decide) (by decide) (by decide), (qf 0).2.2.2]; exact l4, by rw [hnE, wO_s (by decide) (by decide) (by decide), nw_eq, h127], by omega⟩, ⟨?_, fun i x z => ?_, fun i j x z w => ?_, ?_⟩, ⟨?_, fun i x z => ?_, fun i j x z w => ?_⟩, ⟨?_, ?_⟩, fun z => ?_, fun _ => ⟨?_, ?_, ?_, ?_⟩⟩
  · rw [e5 10 (by decide) (by decide) (by decide) (by decide), e5 9 (by decide) (by decide) (by decide) (by decide), eK 93 (by decide), hm' 131 (by decide)]; exact i1
  · rw [hm' 131 (by decide)] at z; omega
  · rw [hm' 131 (by decide)] at w; omega
  · rw [hm' 131 (by decide), hm' 132 (by decide), i4, hI]; rfl
  · rw [e5 18 (by decide) (by decide) (by decide) (by decide), hm' 143 (by decide)]; exact t1
  · have := (e3 hI).1
    rw [hm' 143 (by decide)] at z; omega
  · rw [eK 43 (by decide)]
    rw [hm' 143 (by decide)] at w
    exact t3 i j x z w
  · exact h144
  · rw [e5 15 (by decide) (by decide) (by decide) (by decide)]; exact e1.2
  · rw [hm' 131 (by decide)] at z; omega
  · rw [hm' 143 (by decide)]; exact (e3 hI).1
  · rw [h127, (qf y).1, hnE, wO_a]
  · rw [h127, (qf y).2.1, hnE, wO_b]
  · rw [h127, (qf y).2.2.1, hnE, wO_c]
/-- the class's state where an empty line stands at y -/
def cMv (n : NS) (m : YS) (E F y : Int) : NS := wO (nw n 5 0 11 (y + E)) (leR m y F.toNat + E) (riR m y F.toNat + E) (nX E (neR m y F.toNat))
theorem cMv_K {K : Nat} (h : K ≠ 5) : cMv n m E F y K = n K := by unfold cMv; rw [wO_K h, nw_nK h]
theorem cMv_5 (x1 : s ≠ 11) (x2 : s ≠ 12) (x3 : s ≠ 13) (x4 : s ≠ 14) : cMv n m E F y 5 0 s = n 5 0 s := by unfold cMv; rw [wO_s x2 x3 x4, nw_ns x1]
theorem cMv_cn : FVn v n (cMv n m E F y) := ⟨fun K _ x _ => cMv_K x, fun a s _ _ => by rw [cMv_K (by decide)], fun a _ _ => by rw [cMv_K (by decide)], fun s x => cMv_5 (by omega) (by omega) (by omega) (by omega), fun q _ => by rw [cMv_K (by decide)], fun j _ _ => by rw [cMv_K (by decide)], fun i _ _ => by rw [cMv_K (by decide)]; exact ⟨rfl, rfl⟩⟩
theorem FY.cy (h : FY [127, 128, 129, 130, 144] m m') : FVy v m m' := ⟨fun f hf => h f (by simp only [List.mem_cons, List.not_mem_nil, or_false, not_or] at hf ⊢; omega), fun a _ _ => by rw [h 110 (by decide), h 111 (by decide)]; exact ⟨rfl, rfl⟩, fun w _ _ => by rw [h 121 (by decide), h 122 (by decide)]; exact ⟨rfl, rfl⟩⟩
theorem SNb.mv (h : SNb n m E a) (hm : FY [127, 128, 129, 130, 144] m m') : SNb (cMv n m E F y) m' E a := by
  unfold SNb DNb at *
  rw [cMv_K (by decide), hm 110 (by decide), hm 111 (by decide), hm 131 (by decide), hm 134 (by decide), hm 142 (by decide), hm 143 (by decide)]; exact h
theorem SNw.mv (h : SNw n m E a) (hm : FY [127, 128, 129, 130, 144] m m') : SNw (cMv n m E F y) m' E a := by
  unfold SNw DNw at *
  rw [cMv_K (by decide), cMv_5 (by decide) (by decide) (by decide) (by decide), hm 121 (by decide), hm 122 (by decide), hm 131 (by decide), hm 134 (by decide)]; exact h
theorem ITk.cn (h : ITk n m v a) (hc : FVn v n n') (hy : FVy v m m') : ITk n' m' v a := h.cg hc.2.1 (hc.2.2.2.1 6 (by decide)) (hc.2.2.2.1 5 (by decide)) (fun i => hc.2.2.2.2.2.1 _ (by omega) (by omega)) (fun f hf => hy.1 f (by simp only [List.mem_cons, List.not_mem_nil, or_false, not_or]; omega))
/-- an item on an empty line: down to where there is room -/
def IT0 (A B v E wd F it' w s g : Int) (n : NS) (m : YS) : Prop := ∃ n' m', ((NL_Layout_putItem_26 it' w 0 g n).bind (us (u2 fun z1 n2 => nk_Layout_putItem_99 it' w z1 n2) (u2 fun z7 n8 => nk_Layout_putItem_99 it' w z7 n8))) = some n' ∧ ((NL_Y_putItem_3 it' w s 0 m).bind fun m1 => st (yw m1 144 0 0) fun m5 => some m5) = some m' ∧ LSx n' m' v E wd F ∧ BI A B n' ∧ WLc n' ∧ FRl v n n' ∧ FVy v m m' ∧ pot m' F ≤ pot m F + iH m it' ∧ m 127 0 ≤ m' 127 0
      ∧ (∀ a, 0 ≤ a → SNb n m E a → SNb n' m' E a) ∧ (∀ w', 0 ≤ w' → SNw n m E w' → SNw n' m' E w') ∧ (∃ i, 0 ≤ i ∧ i < m' 131 0 ∧ m' 134 i = it') ∧ m' 131 0 = 1 ∧ m' 143 0 = m 143 0
theorem item0 (hk0 : -120 ≤ it') (hw : 0 ≤ w ∧ w ≤ 1300000) : ∀ (z : Nat) (g : Int) (n : NS) (m : YS), LSx n m v E wd F → m 131 0 = 0 → cnE m (m 127 0) F.toNat ≤ z → 0 ≤ g → g + (cnE m (m 127 0) F.toNat : Int) ≤ 121 → BI A B n → WLc n → ITk n m v it' → IT0 A B v E wd F it' w s g n m := by
  have stop : ∀ (g : Int) (n : NS) (m : YS), LSx n m v E wd F → m 131 0 = 0 → 0 ≤ g → g ≤ 121 → BI A B n → WLc n → ITk n m v it' → (leR m (m 127 0) F.toNat + w ≤ riR m (m 127 0) F.toNat ∨ neR m (m 127 0) F.toNat = -1) → IT0 A B v E wd F it' w s g n m := fun g n m hS hI g0 g1 hB hW hk hs => by
    have hS0 := hS
    obtain ⟨⟨l1, l2, l3, l4, l5⟩, ⟨i1, i2, i3, i4⟩, ⟨t1, t2, t3⟩, e1, e2, e3⟩ := hS
    have hE := l1.2.2.2.1
    have h145 : 0 ≤ m 145 0 ∧ m 145 0 ≤ 1300000 := by have := l1.2.2.2.2.2.2.1; have := l1.2.2.2.2.2.1; omega
    have lb := lr_b (m := m) (y := m 127 0) h145.1 F.toNat (fun f x y => by have := (l3 f x (by omega)).2.2.2.2.1.2; omega)
    obtain ⟨f1, f2, f3, f4⟩ := e3 hI
    obtain ⟨m1, hm1⟩ : ∃ m1, m1 = yw (wE m (leR m (m 127 0) F.toNat) (riR m (m 127 0) F.toNat)) 130 0 (leR m (m 127 0) F.toNat) := ⟨_, rfl⟩
    have hf1 : ∀ f, f ≠ 128 → f ≠ 129 → f ≠ 130 → m1 f = m f := fun f x y z => by rw [hm1, yw_nF z, wE_o x y]
    have h129 : m1 129 0 = riR m (m 127 0) F.toNat := by rw [hm1, yw_nF (by decide), wE_r]
    have h130 : m1 130 0 = leR m (m 127 0) F.toNat := by rw [hm1, yw_eq]
    have fy1 : FY [127, 128, 129, 130, 144] m m1 := fun f hf => by
      simp only [List.mem_cons, List.not_mem_nil, or_false, not_or] at hf
      exact hf1 f (by omega) (by omega) (by omega)
    have qf := fun y => flR_m (m := m) (m' := m1) (y := y) (F := F) (fun f hf => hf1 f (by omega) (by omega) (by omega))
    have hk1 : ITk n m1 v it' := hk.cg (fun _ _ _ _ => rfl) rfl rfl (fun _ => rfl) (fun f hf => hf1 f (by omega) (by omega) (by omega))
    have L1 : LFl n m1 v E wd F := LFl.cy ⟨l1, l2, l3, l4, l5⟩ (fun f hf => hf1 f (by omega) (by omega) (by omega))
    have I1 : LIt n m1 v E := by
      refine ⟨by rw [hf1 131 (by decide) (by decide) (by decide)]; exact i1, fun i x y => ?_, fun i j x y z => ?_, ?_⟩
      · rw [hf1 131 (by decide) (by decide) (by decide)] at y; omega
      · rw [hf1 131 (by decide) (by decide) (by decide)] at z; omega
      · rw [hf1 131 (by decide) (by decide) (by decide), hf1 132 (by decide) (by decide) (by decide), i4, hI]; rfl
    have T1 : LWt n m1 v F := by
      refine ⟨by rw [hf1 143 (by decide) (by decide) (by decide)]; exact t1, fun i x y => ?_, fun i j x y z => ?_⟩
      · rw [hf1 143 (by decide) (by decide) (by decide)] at y; omega
      · rw [hf1 143 (by decide) (by decide) (by decide)] at z; exact t3 i j x y z
    obtain ⟨n', r1, r2, r3, r4, r5, r6, r7, r8, r9⟩ := putI_both (gap := 0) (at' := leR m (m 127 0) F.toNat) (w := w) hB hW L1 I1 T1 hk1 (fun i x y => by rw [hf1 131 (by decide) (by decide) (by decide)] at y; omega) (by rw [hf1 131 (by decide) (by decide) (by decide), hI]; decide) (by rw [f2]; omega) (by rw [f3, h129]) (by rw [h129]; omega) lb.1 hw (by decide)
    obtain ⟨mQ, hmQ⟩ : ∃ mQ, mQ = yw (mP m1 it' w (leR m (m 127 0) F.toNat)) 144 0 0 := ⟨_, rfl⟩
    rw [← hmQ] at r2 r6 r7 r8 r9
    have q131 : mQ 131 0 = m1 131 0 + 1 := by rw [hmQ, yw_nF (by decide)]; unfold mP; rw [yw_nF (by decide), yw_nF (by decide), yw_eq]
    rw [hf1 131 (by decide) (by decide) (by decide), hI] at q131
    have q134 : mQ 134 0 = it' := by
      rw [hmQ, yw_nF (by decide)]; unfold mP
      rw [yw_nF (by decide), yw_nF (by decide), yw_nF (by decide), yw_nF (by decide), hf1 131 (by decide) (by decide) (by decide), hI, yw_eq]
    have q143 : mQ 143 = m 143 := by rw [hmQ, yw_nF (by decide), mP_o (by decide), hf1 143 (by decide) (by decide) (by decide)]
    have q127 : mQ 127 = m 127 := by rw [hmQ, yw_nF (by decide), mP_o (by decide), hf1 127 (by decide) (by decide) (by decide)]
    have epot : pot m1 F = pot m F := by
      unfold pot
      rw [hf1 127 (by decide) (by decide) (by decide), (qf 0).2.2.2, hf1 132 (by decide) (by decide) (by decide), hf1 143 (by decide) (by decide) (by decide), f1, zsm_nil (Int.le_refl _), zsm_nil (Int.le_refl _)]
    have eiH : iH m1 it' = iH m it' := iH_cg (fun f hf => hf1 f (by omega) (by omega) (by omega))
    rw [epot, eiH] at r7
    refine ⟨n', mQ, ?_, ?_, r2, r3, r4, r5, (FY.cy fy1).trans r6, r7, by rw [q127]; exact Int.le_refl _, fun a x h => r8 a x ?_, fun a x h => r9 a x ?_, ⟨0, Int.le_refl _, by omega, q134⟩, by omega, by rw [q143]⟩
    · have hc : NL_Layout_putItem_26 it' w 0 g n = some (.inl (0, n)) ∨ NL_Layout_putItem_26 it' w 0 g n = some (.inr (0, n)) := by
        unfold NL_Layout_putItem_26
        have hb : nb_Layout_putItem_26 it' w 0 g n = some (.inr (.inl (0, n))) ∨ nb_Layout_putItem_26 it' w 0 g n = some (.inr (.inr (0, n))) := by
          unfold nb_Layout_putItem_26
          rw [if_neg (by omega), f2, f3, f4, i1.1, hI, ck_e _ (by omega), ck_e _ (by omega)]
          by_cases x : riR m (m 127 0) F.toNat + E < leR m (m 127 0) F.toNat + E + 0 + w
          · rw [if_pos x, if_neg (by decide), if_pos (show nX E (neR m (m 127 0) F.toNat) = -1 by rcases hs with z | z; omega; unfold nX; rw [if_pos z])]; exact .inl rfl
          · rw [if_neg x]; exact .inr rfl
        rcases hb with hb | hb
        · exact .inl (it_inr (f := fun s : Int × Int × NS => nb_Layout_putItem_26 it' w s.1 s.2.1 s.2.2) (s := (0, g, n)) hb)
        · exact .inr (it_inr (f := fun s : Int × Int × NS => nb_Layout_putItem_26 it' w s.1 s.2.1 s.2.2) (s := (0, g, n)) hb)
      rcases hc with hc | hc
      · rw [hc]; exact r1
      · rw [hc]; exact r1
    · have e136 : m 136 0 = F := l2.2.1
      have hb : nb_Y_putItem_3 it' w s 0 m = some (.inl (1, mP m1 it' w (leR m (m 127 0) F.toNat))) := by
        unfold nb_Y_putItem_3 st
        dsimp only
        rw [if_pos rfl, if_pos hI, y_edgesAt (by omega), e136]
        simp only [Option.bind_some]
        rw [wE_l, ← hm1]
        unfold nk_Y_putItem_31 nk_Y_putItem_55 nk_Y_putItem_56
        rw [hf1 131 (by decide) (by decide) (by decide), hI, if_neg (by decide), h130, ck_e _ (by omega), if_neg (by decide), hf1 127 (by decide) (by decide) (by decide), y_leastEnd (by rw [hf1 136 (by decide) (by decide) (by decide)]; omega), hf1 136 (by decide) (by decide) (by decide), e136, (qf _).2.2.1]
        simp only [Option.bind_some]
        unfold nk_Y_putItem_78
        rw [show leR m (m 127 0) F.toNat + 0 = leR m (m 127 0) F.toNat by omega, ck_e _ (by omega), h129, hf1 131 (by decide) (by decide) (by decide), hI, yP_put hk1 hW.2.2.1.2.1 (by rw [hf1 131 (by decide) (by decide) (by decide), hI]; decide) lb.1 hw]
        by_cases x : riR m (m 127 0) F.toNat < leR m (m 127 0) F.toNat + w
        · rw [if_pos x, if_pos rfl, if_pos (show neR m (m 127 0) F.toNat = -1 by rcases hs with z | z; omega; exact z)]
        · rw [if_neg x]
      have h2 : NL_Y_putItem_3 it' w s 0 m = some (mP m1 it' w (leR m (m 127 0) F.toNat)) := by
        unfold NL_Y_putItem_3
        rw [it_inl (f := fun s' : Int × YS => nb_Y_putItem_3 it' w s s'.1 s'.2) (s := (0, m)) hb]
        refine it_inr ?_
        show nb_Y_putItem_3 it' w s 1 _ = _
        dsimp only
        unfold nb_Y_putItem_3
        rw [if_neg (by decide)]
      rw [h2, hmQ]; rfl
    · unfold SNb DNb at *
      rw [hf1 110 (by decide) (by decide) (by decide), hf1 111 (by decide) (by decide) (by decide), hf1 131 (by decide) (by decide) (by decide), hf1 134 (by decide) (by decide) (by decide), hf1 142 (by decide) (by decide) (by decide), hf1 143 (by decide) (by decide) (by decide)]; exact h
    · unfold SNw DNw at *
      rw [hf1 121 (by decide) (by decide) (by decide), hf1 122 (by decide) (by decide) (by decide), hf1 131 (by decide) (by decide) (by decide), hf1 134 (by decide) (by decide) (by decide)]; exact h
  intro z
  induction z with
  | zero =>
    intro g n m hS hI hz g0 g1 hB hW hk
    by_cases hs : leR m (m 127 0) F.toNat + w ≤ riR m (m 127 0) F.toNat ∨ neR m (m 127 0) F.toNat = -1
    · exact stop g n m hS hI g0 (by omega) hB hW hk hs
    · exfalso
      obtain ⟨f, f1, f2, f3, f4⟩ := ne_ex (m := m) (y := m 127 0) F.toNat (fun x => hs (.inr x))
      have := cn_lt (m := m) f3 rfl F.toNat f1
      omega
  | succ z ih =>
    intro g n m hS hI hz g0 g1 hB hW hk
    by_cases hs : leR m (m 127 0) F.toNat + w ≤ riR m (m 127 0) F.toNat ∨ neR m (m 127 0) F.toNat = -1
    · exact stop g n m hS hI g0 (by omega) hB hW hk hs
    · have hS0 := hS
      obtain ⟨⟨l1, l2, l3, l4, l5⟩, ⟨i1, i2, i3, i4⟩, ⟨t1, t2, t3⟩, e1, e2, e3⟩ := hS
      have hE := l1.2.2.2.1
      have h145 : 0 ≤ m 145 0 ∧ m 145 0 ≤ 1300000 := by have := l1.2.2.2.2.2.2.1; have := l1.2.2.2.2.2.1; omega
      have lb := lr_b (m := m) (y := m 127 0) h145.1 F.toNat (fun f x y => by have := (l3 f x (by omega)).2.2.2.2.1.2; omega)
      obtain ⟨f1', f2', f3', f4'⟩ := e3 hI
      obtain ⟨f, f1, f2, f3, f4⟩ := ne_ex (m := m) (y := m 127 0) F.toNat (fun x => hs (.inr x))
      have hcl := cn_lt (m := m) f3 f4 F.toNat f1
      have hge := (mxE_ge (m := m) F.toNat).2 f (by omega) (by omega)
      have hbd := (l3 f (by omega) (by omega)).2.2.2.2.1.1
      generalize hY : neR m (m 127 0) F.toNat = Y at *
      obtain ⟨m8, hm8⟩ : ∃ m8, m8 = yw (yw (wE m (leR m (m 127 0) F.toNat) (riR m (m 127 0) F.toNat)) 130 0 (leR m (m 127 0) F.toNat)) 127 0 Y := ⟨_, rfl⟩
      have fy8 : FY [127, 128, 129, 130, 144] m m8 := fun f hf => by
        simp only [List.mem_cons, List.not_mem_nil, or_false, not_or] at hf
        rw [hm8, yw_nF (by omega), yw_nF (by omega), wE_o (by omega) (by omega)]
      have h127 : m8 127 0 = Y := by rw [hm8, yw_eq]
      obtain ⟨q1, q2⟩ := hS0.mv hI (show 0 ≤ Y by omega) fy8 h127 (by rw [hm8, yw_nF (by decide), yw_nF (by decide), wE_o (by decide) (by decide)]; exact e1.1)
      have ecn : cnE m8 Y F.toNat = cnE m Y F.toNat := (flR_cg (m := m) (m' := m8) (y := Y) (a := 0) (by rw [fy8 145 (by decide)]) F.toNat (fun f _ _ => by rw [fy8 137 (by decide), fy8 138 (by decide), fy8 139 (by decide), fy8 140 (by decide), fy8 141 (by decide)]; exact ⟨rfl, rfl, rfl, rfl, rfl⟩)).2.2.2.2.2
      have emx : mxE m8 F.toNat = mxE m F.toNat := (flR_m (m := m) (m' := m8) (y := 0) (F := F) (fun f hf => fy8 f (by simp only [List.mem_cons, List.not_mem_nil, or_false, not_or]; omega))).2.2.2
      have cn : FVn v n (cMv n m E F Y) := cMv_cn
      obtain ⟨n', m', r1, r2, r3, r4, r5, r6, r7, r8, r9, r10, r11, r12, r13, r14⟩ := ih (g + 1) (cMv n m E F Y) m8 q2 (by rw [fy8 131 (by decide)]; exact hI) (by rw [h127, ecn]; omega) (by omega) (by rw [h127, ecn]; omega) (cn.bi hB) (cn.wl hW) (hk.cn cn (FY.cy fy8))
      have epot : pot m8 F ≤ pot m F := by
        unfold pot
        rw [h127, emx, fy8 132 (by decide), fy8 143 (by decide), f1', zsm_nil (Int.le_refl _), zsm_nil (Int.le_refl _)]
        omega
      have eiH : iH m8 it' = iH m it' := iH_cg (fun f hf => fy8 f (by simp only [List.mem_cons, List.not_mem_nil, or_false, not_or]; omega))
      refine ⟨n', m', ?_, ?_, r3, r4, r5, cn.rl.trans r6, (FY.cy fy8).trans r7, by omega, by omega, fun a x h => r10 a x (h.mv fy8), fun a x h => r11 a x (h.mv fy8), r12, r13, by rw [r14, fy8 143 (by decide)]⟩
      · rw [← r1]
        congr 1
        unfold NL_Layout_putItem_26
        refine it_inl ?_
        show nb_Layout_putItem_26 it' w 0 g n = _
        unfold nb_Layout_putItem_26 st
        dsimp only
        have e1 : nX E Y = Y + E := by unfold nX; rw [if_neg (fun x => hs (.inr x))]
        rw [if_neg (by omega), f2', f3', f4', i1.1, hI, ck_e _ (by omega), ck_e _ (by omega), if_pos (show riR m (m 127 0) F.toNat + E < leR m (m 127 0) F.toNat + E + 0 + w by omega), if_neg (by decide), e1, if_neg (show ¬ Y + E = -1 by omega), nw_eq, q1]
        simp only [Option.bind_some]
        rw [ck_e _ (by omega)]; rfl
      · rw [← r2]
        congr 1
        have e136 : m 136 0 = F := l2.2.1
        obtain ⟨m1, hm1⟩ : ∃ m1, m1 = yw (wE m (leR m (m 127 0) F.toNat) (riR m (m 127 0) F.toNat)) 130 0 (leR m (m 127 0) F.toNat) := ⟨_, rfl⟩
        have hf1 : ∀ f, f ≠ 128 → f ≠ 129 → f ≠ 130 → m1 f = m f := fun f x y z => by rw [hm1, yw_nF z, wE_o x y]
        have h129 : m1 129 0 = riR m (m 127 0) F.toNat := by rw [hm1, yw_nF (by decide), wE_r]
        have h130 : m1 130 0 = leR m (m 127 0) F.toNat := by rw [hm1, yw_eq]
        have qf := fun y => flR_m (m := m) (m' := m1) (y := y) (F := F) (fun f hf => hf1 f (by omega) (by omega) (by omega))
        unfold NL_Y_putItem_3
        refine it_inl ?_
        show nb_Y_putItem_3 it' w s 0 m = _
        unfold nb_Y_putItem_3 st
        dsimp only
        rw [if_pos rfl, if_pos hI, y_edgesAt (by omega), e136]
        simp only [Option.bind_some]
        rw [wE_l, ← hm1]
        unfold nk_Y_putItem_31 nk_Y_putItem_55 nk_Y_putItem_56
        rw [hf1 131 (by decide) (by decide) (by decide), hI, if_neg (by decide), h130, ck_e _ (by omega), if_neg (by decide), hf1 127 (by decide) (by decide) (by decide), y_leastEnd (by rw [hf1 136 (by decide) (by decide) (by decide)]; omega), hf1 136 (by decide) (by decide) (by decide), e136, (qf _).2.2.1, hY]
        simp only [Option.bind_some]
        unfold nk_Y_putItem_78 nk_Y_putItem_165 st
        dsimp only
        rw [show leR m (m 127 0) F.toNat + 0 = leR m (m 127 0) F.toNat by omega, ck_e _ (by omega), h129, hf1 131 (by decide) (by decide) (by decide), hI, if_pos (show riR m (m 127 0) F.toNat < leR m (m 127 0) F.toNat + w by omega), if_pos rfl, if_neg (fun x => hs (.inr x)), if_neg (by decide), hm8, hm1]
end W3
