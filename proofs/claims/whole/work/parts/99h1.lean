/-! ELEMENTS ARE CLOSED, in both -/
section H1
theorem FRk.refl (n : NS) : FRk n n := ⟨fun _ _ _ _ _ _ => rfl, rfl, rfl⟩
theorem FRk.trans {n n' n'' : NS} (h : FRk n n') (h' : FRk n' n'') : FRk n n'' := ⟨fun K a b c d e => (h'.1 K a b c d e).trans (h.1 K a b c d e), h'.2.1.trans h.2.1, h'.2.2.trans h.2.2⟩
variable {Z : NS × YS} {n n' : NS} {m m' : YS} {A B N i to r bl oc lv fr own oth : Int} {o e p qs qs' : Int → Int}
theorem JR.chg {oc' : Int} (h : JR Z A B n m N o e p qs oc) (hk : FRk n n') (hF' : JF n' m') (hO' : JO n' m' N o e p qs' oc') (hX' : JCut n' m' N o (o (qs' (oc' - 1)))) (hy : ∀ f, 45 ≤ f → f ≤ 69 → m' f = m f) (h75 : m' 75 = m 75) (h76 : m' 76 = m 76) (hyr : FYR m m') : JR Z A B n' m' N o e p qs' oc' := by
  obtain ⟨hB, hT, hP, hF, hS, hO, hX, h6⟩ := h
  exact ⟨hB.rk hk, hT.rk hk hy, by unfold JP; rw [hy 46 (by decide) (by decide)]; exact hP, hF', hS.rk hk h75 h76, hO', hX', h6.cg (FRR.rk hk) hyr⟩
theorem JO.inj (h : JO n m N o e p qs oc) {j k : Int} (j0 : 0 ≤ j) (j1 : j < oc) (k0 : 0 ≤ k) (k1 : k < oc) (he : o (qs j) = o (qs k)) : j = k := by
  have a := (h.2.2.1 j j0 j1).2.2.2.2.2
  have b := (h.2.2.1 k k0 k1).2.2.2.2.2
  rw [he] at a
  omega
theorem JO.pop (h : JO n m N o e p qs oc) (h2 : 2 ≤ oc) (h6 : n' 8 0 6 = oc - 1) (h30 : n' 30 = n 30) (h31 : n' 31 = n 31) (h74 : m' 74 0 = oc - 1) (h73 : m' 73 = m 73) (hy : ∀ f, 45 ≤ f → f ≤ 69 → m' f = m f) : JO n' m' N o e p qs (oc - 1) := by
  obtain ⟨a1, a2, a3, a4⟩ := h
  refine ⟨⟨h6, h74, by omega, by omega⟩, a2, fun j j0 j1 => ?_, fun j j0 j1 => ?_⟩
  · rw [h30, h73, hy 46 (by decide) (by decide), hy 54 (by decide) (by decide)]; exact a3 j j0 (by omega)
  · rw [h31, hy 67 (by decide) (by decide)]; exact a4 j j0 (by omega)
theorem JR.popX (h : JR Z A B n m N o e p qs oc) (h2 : 2 ≤ oc) (h11 : n' 8 0 11 = n 8 0 11) (hy : ∀ f, 45 ≤ f → f ≤ 69 → m' f = m f) : JCut n' m' N o (o (qs (oc - 1 - 1))) := by
  obtain ⟨hB, hT, hP, hF, hS, hO, hX, h6⟩ := h
  have a := hO.2.2.1 (oc - 1) (by omega) (by omega)
  have b := hO.2.2.1 (oc - 1 - 1) (by omega) (by omega)
  have c := hO.2.2.2 (oc - 1) (by omega) (by omega)
  have d := (hO.up hT.1) 1 (oc - 1 - 1) (by omega) (by show oc - 1 - 1 + 1 < oc; omega)
  rw [show oc - 1 - 1 + ((1 : Nat) : Int) = oc - 1 by omega] at d
  have hlt : qs (oc - 1 - 1) < qs (oc - 1) := by
    rcases Int.lt_or_eq_of_le d with y | y
    · exact y
    · have := hO.inj (j := oc - 1 - 1) (k := oc - 1) (by omega) (by omega) (by omega) (by omega) (by rw [y])
      omega
  have hl := hT.1.2.1.2 (qs (oc - 1 - 1)) (qs (oc - 1)) b.1.1 hlt a.1.2 c.1 (by rw [a.2.1, b.2.1])
  unfold JCut at hX ⊢
  rw [h11, hy 51 (by decide) (by decide), hy 46 (by decide) (by decide), hl]
  exact ⟨hX.1, fun _ y => absurd y a.2.2.2.2.1.1⟩
theorem pop_both (hJ : JR Z A B n m N o e p qs oc) (h2 : 2 ≤ oc) (hlv : 0 ≤ lv ∧ lv + 1 < oc) (hfr : fr < oc) (ho1 : own ≠ o (qs (oc - 1))) (ho2 : oth ≠ o (qs (oc - 1))) (hb : m 70 0 < 90000) :
    ∃ n' m', nb_Reader_closeTo_0 lv n = some (.inl n') ∧ nb_Y_closeTo_0 fr own oth m = some (.inl m') ∧ JR Z A B n' m' N o e p qs (oc - 1) ∧ m' 70 0 ≤ m 70 0 + 1 ∧ n' 8 0 10 = n 8 0 10 ∧ (n' 10 = n 10 ∧ FRk n n') ∧ FY [70, 71, 72, 74] m m' := by
  have hJ' := hJ
  obtain ⟨hB, hT, hP, hF, hS, hO, hX, h6⟩ := hJ'
  obtain ⟨o1, o2, o3, o4⟩ := hO.1
  obtain ⟨hk1, hk2, hk3, hk4, hk5, hk6⟩ := hO.2.2.1 (oc - 1) (by omega) (by omega)
  have hp := (hO.2.2.2 (oc - 1) (by omega) (by omega)).2
  have hv := hT.1.1.oB hk1.1 hk1.2
  have htag := (hT.2.2.2 _ hk1.1 hk1.2).1.1
  have h70 := hF.2.1
  have eC : nb_Reader_closeTo_0 lv n = if m 46 (o (qs (oc - 1))) = 1 then nk_Reader_closeTo_59 lv n else if m 46 (o (qs (oc - 1))) = 4 then nk_Reader_closeTo_59 lv n else (N_Reader_tell 4 (m 67 (o (qs (oc - 1)))) n).bind fun n22 => nk_Reader_closeTo_59 lv n22 := by
    unfold nb_Reader_closeTo_0 ck ix
    rw [o1, if_pos (by omega), if_pos (by omega), if_pos (by omega), if_pos (by omega), hk3, if_pos hv, htag, hp, if_pos (show inR (oc - 1) by omega), if_pos (show 0 ≤ oc - 1 ∧ oc - 1 < 22 by omega)]
  generalize hm1 : yw m 74 0 (oc - 1) = m1
  have f1 : FY [74] m m1 := fun g hg => by rw [← hm1]; exact yw_nF (by simp only [List.mem_cons, List.not_mem_nil, or_false] at hg; exact hg)
  have e74 : m1 74 0 = oc - 1 := by rw [← hm1]; exact yw_eq
  have eY : nb_Y_closeTo_0 fr own oth m = if m 46 (o (qs (oc - 1))) = 1 then some (.inl m1) else if m 46 (o (qs (oc - 1))) = 4 then some (.inl m1) else (N_Y_tellFault 4 (m 67 (o (qs (oc - 1)))) m1).bind fun m27 => some (.inl m27) := by
    unfold nb_Y_closeTo_0 ck st
    rw [o2, if_pos hfr, if_pos (by omega), hm1]
    dsimp only
    rw [e74, f1 73 (by decide), hk4, f1 46 (by decide), f1 67 (by decide)]
    unfold ix
    rw [if_pos (by omega), if_neg (fun z => ho1 z.symm), if_neg (fun z => ho2 z.symm), if_pos hv, if_pos hv, if_pos hv]
  by_cases hq : m 46 (o (qs (oc - 1))) = 1 ∨ m 46 (o (qs (oc - 1))) = 4
  · have eC' : nb_Reader_closeTo_0 lv n = some (.inl (nw n 8 0 6 (oc - 1))) := by
      rw [eC]
      have : nk_Reader_closeTo_59 lv n = some (.inl (nw n 8 0 6 (oc - 1))) := by
        unfold nk_Reader_closeTo_59 ck st
        rw [o1, if_pos (by omega)]
      rw [this]
      rcases hq with y | y
      · rw [if_pos y]
      · by_cases z : m 46 (o (qs (oc - 1))) = 1
        · rw [if_pos z]
        · rw [if_neg z, if_pos y]
    have eY' : nb_Y_closeTo_0 fr own oth m = some (.inl m1) := by
      rw [eY]
      rcases hq with y | y
      · rw [if_pos y]
      · by_cases z : m 46 (o (qs (oc - 1))) = 1
        · rw [if_pos z]
        · rw [if_neg z, if_pos y]
    have fk : FRk n (nw n 8 0 6 (oc - 1)) := ⟨fun K a _ _ _ _ => nw_nK a, nw_ns (by decide), nw_ns (by decide)⟩
    have hy : ∀ f, 45 ≤ f → f ≤ 69 → m1 f = m f := fun f a b => f1 f (by simp only [List.mem_cons, List.not_mem_nil, or_false]; omega)
    refine ⟨_, _, eC', eY', hJ.chg fk ?_ (hO.pop h2 nw_eq (nw_nK (by decide)) (nw_nK (by decide)) e74 (f1 73 (by decide)) hy) (hJ.popX h2 (nw_ns (by decide)) hy) hy (f1 75 (by decide)) (f1 76 (by decide)) (FYR.of f1 (by decide)), by rw [f1 70 (by decide)]; omega, nw_ns (by decide), ⟨nw_nK (by decide), fk⟩, fun g hg => f1 g (by simp only [List.mem_cons, List.not_mem_nil, or_false, not_or] at hg ⊢; exact hg.2.2.2)⟩
    unfold JF at *
    rw [nw_ns (show (3 : Int) ≠ 6 by decide), nw_nK (show (28 : Nat) ≠ 8 by decide), nw_nK (show (29 : Nat) ≠ 8 by decide), f1 70 (by decide), f1 71 (by decide), f1 72 (by decide)]; exact hF
  · have q1 : ¬ m 46 (o (qs (oc - 1))) = 1 := fun y => hq (.inl y)
    have q2 : ¬ m 46 (o (qs (oc - 1))) = 4 := fun y => hq (.inr y)
    obtain ⟨n1, et, t1, t2, t3⟩ := c_tell (n := n) (w := 4) (pl := m 67 (o (qs (oc - 1)))) (by rw [hF.1]; omega)
    obtain ⟨m2, eu, yA, yB⟩ := y_tell (m := m1) (w := 4) (pl := m 67 (o (qs (oc - 1)))) (by rw [f1 70 (by decide)]; omega)
    have eC' : nb_Reader_closeTo_0 lv n = some (.inl (nw n1 8 0 6 (oc - 1))) := by
      rw [eC, if_neg q1, if_neg q2, et]
      show nk_Reader_closeTo_59 lv n1 = _
      unfold nk_Reader_closeTo_59 ck st
      rw [t3 6 (by decide), o1, if_pos (by omega)]
    have eY' : nb_Y_closeTo_0 fr own oth m = some (.inl m2) := by
      rw [eY, if_neg q1, if_neg q2, eu]; rfl
    have f2 : FY [70, 71, 72, 74] m m2 := fun g hg => by
      simp only [List.mem_cons, List.not_mem_nil, or_false, not_or] at hg
      rw [yB g (by simp only [List.mem_cons, List.not_mem_nil, or_false, not_or]; omega)]
      exact f1 g (by simp only [List.mem_cons, List.not_mem_nil, or_false]; omega)
    have fk : FRk n (nw n1 8 0 6 (oc - 1)) := ⟨fun K a b c _ _ => by rw [nw_nK a]; exact t2 K a b c, by rw [nw_ns (by decide)]; exact t3 8 (by decide), by rw [nw_ns (by decide)]; exact t3 9 (by decide)⟩
    have hy : ∀ f, 45 ≤ f → f ≤ 69 → m2 f = m f := fun f a b => f2 f (by simp only [List.mem_cons, List.not_mem_nil, or_false, not_or]; omega)
    have hJF : JF n1 m2 := by
      have hF1 : JF n m1 := by unfold JF at *; rw [f1 70 (by decide), f1 71 (by decide), f1 72 (by decide)]; exact hF
      exact hF1.told t1 yA (by rw [f1 70 (by decide)]; omega)
    refine ⟨_, _, eC', eY', hJ.chg fk ?_ (hO.pop h2 nw_eq (by rw [nw_nK (by decide)]; exact t2 30 (by decide) (by decide) (by decide)) (by rw [nw_nK (by decide)]; exact t2 31 (by decide) (by decide) (by decide)) (by rw [yB 74 (by decide)]; exact e74) (f2 73 (by decide)) hy) (hJ.popX h2 (by rw [nw_ns (by decide)]; exact t3 11 (by decide)) hy) hy (f2 75 (by decide)) (f2 76 (by decide)) (FYR.of f2 (by decide)), by rw [yA.1, f1 70 (by decide)]; omega, by rw [nw_ns (by decide)]; exact t3 10 (by decide), ⟨by rw [nw_nK (by decide)]; exact t2 10 (by decide) (by decide) (by decide), fk⟩, f2⟩
    unfold JF at *
    rw [nw_ns (show (3 : Int) ≠ 6 by decide), nw_nK (show (28 : Nat) ≠ 8 by decide), nw_nK (show (29 : Nat) ≠ 8 by decide)]; exact hJF
theorem close_both : ∀ d : Nat, ∀ {n m oc}, JR Z A B n m N o e p qs oc → oc - (lv + 1) = (d : Int) → 0 ≤ lv → fr ≤ lv + 1 → (own = -1 ∨ own = o (qs lv)) → (oth = -1 ∨ oth = o (qs lv)) → m 70 0 + d ≤ 90000 →
    ∃ n' m', NL_Reader_closeTo_0 lv n = some n' ∧ NL_Y_closeTo_0 fr own oth m = NL_Y_closeTo_0 fr own oth m' ∧ JR Z A B n' m' N o e p qs (lv + 1) ∧ m' 70 0 ≤ m 70 0 + d ∧ n' 8 0 10 = n 8 0 10 ∧ (n' 10 = n 10 ∧ FRk n n') ∧ FY [70, 71, 72, 74] m m' := by
  intro d
  induction d with
  | zero =>
    intro n m oc hJ hd h0 hfr h1 h2 hb
    have hoc : oc = lv + 1 := by omega
    subst hoc
    refine ⟨n, m, ?_, rfl, hJ, by omega, rfl, ⟨rfl, FRk.refl n⟩, fun _ _ => rfl⟩
    unfold NL_Reader_closeTo_0
    refine it_inr ?_
    show nb_Reader_closeTo_0 lv n = _
    have hO := hJ.2.2.2.2.2.1.1
    unfold nb_Reader_closeTo_0 ck
    rw [hO.1, if_pos (by omega), if_neg (by omega)]
  | succ d ih =>
    intro n m oc hJ hd h0 hfr h1 h2 hb
    have hO := hJ.2.2.2.2.2.1
    have hoc := hO.1.2.2.2
    have hne : o (qs lv) ≠ o (qs (oc - 1)) := fun z => by
      have := hO.inj (j := lv) (k := oc - 1) h0 (by omega) (by omega) (by omega) z
      omega
    have hv := hJ.2.1.1.1.oB (hO.2.2.1 (oc - 1) (by omega) (by omega)).1.1 (hO.2.2.1 (oc - 1) (by omega) (by omega)).1.2
    obtain ⟨n1, m1, a1, a2, a3, a4, a5, a6, a7⟩ := pop_both (lv := lv) (fr := fr) (own := own) (oth := oth) hJ (by omega) ⟨h0, by omega⟩ (by omega) (by rcases h1 with y | y <;> rw [y] <;> first | omega | exact hne) (by rcases h2 with y | y <;> rw [y] <;> first | omega | exact hne) (by omega)
    obtain ⟨n2, m2, b1, b2, b3, b4, b5, b6, b7⟩ := ih a3 (by omega) h0 hfr h1 h2 (by omega)
    refine ⟨n2, m2, ?_, ?_, b3, by omega, by rw [b5, a5], ⟨by rw [b6.1, a6.1], a6.2.trans b6.2⟩, fun g hg => by rw [b7 g hg, a7 g hg]⟩
    · rw [← b1]; unfold NL_Reader_closeTo_0; exact it_inl a1
    · rw [← b2]; unfold NL_Y_closeTo_0; exact it_inl a2
/-- all from a level on are closed -/
theorem closeTo_both (hJ : JR Z A B n m N o e p qs oc) (hlv : 1 ≤ lv ∧ lv < oc) (h1 : own = -1 ∨ own = o (qs lv)) (h2 : oth = -1 ∨ oth = o (qs lv)) (hno : own = o (qs lv) ∨ oth = o (qs lv) ∨ m 46 (o (qs lv)) = 1 ∨ m 46 (o (qs lv)) = 4) (hb : m 70 0 ≤ 80000) :
    ∃ n' m', N_Reader_closeTo lv n = some n' ∧ N_Y_closeTo lv own oth m = some m' ∧ JR Z A B n' m' N o e p qs lv ∧ m' 70 0 ≤ m 70 0 + (oc - lv - 1) ∧ n' 8 0 10 = n 8 0 10 ∧ (n' 10 = n 10 ∧ FRk n n') ∧ FY [70, 71, 72, 74] m m' := by
  have hoc := hJ.2.2.2.2.2.1.1.2.2.2
  obtain ⟨n1, m1, a1, a2, a3, a4, a5, a6, a7⟩ := close_both (lv := lv) (fr := lv) (own := own) (oth := oth) (oc - (lv + 1)).toNat hJ (by omega) (by omega) (by omega) h1 h2 (by omega)
  have hO := a3.2.2.2.2.2.1
  obtain ⟨hk1, hk2, hk3, hk4, hk5, hk6⟩ := hO.2.2.1 lv (by omega) (by omega)
  have hv := a3.2.1.1.1.oB hk1.1 hk1.2
  generalize hm1 : yw m1 74 0 lv = m2
  have f1 : FY [74] m1 m2 := fun g hg => by rw [← hm1]; exact yw_nF (by simp only [List.mem_cons, List.not_mem_nil, or_false] at hg; exact hg)
  have e74 : m2 74 0 = lv := by rw [← hm1]; exact yw_eq
  have hy : ∀ f, 45 ≤ f → f ≤ 69 → m2 f = m1 f := fun f a b => f1 f (by simp only [List.mem_cons, List.not_mem_nil, or_false]; omega)
  have eY : nb_Y_closeTo_0 lv own oth m1 = some (.inl m2) := by
    unfold nb_Y_closeTo_0 ck st
    rw [hO.1.2.1, if_pos (by omega), show lv + 1 - 1 = lv by omega, if_pos (by omega), hm1]
    dsimp only
    rw [e74, f1 73 (by decide), hk4, f1 46 (by decide), a7 46 (by decide)]
    unfold ix
    rw [if_pos (by omega), if_pos hv, if_pos hv]
    by_cases y1 : o (qs lv) = own
    · rw [if_pos y1]
    · rw [if_neg y1]
      by_cases y2 : o (qs lv) = oth
      · rw [if_pos y2]
      · rw [if_neg y2]
        by_cases y3 : m 46 (o (qs lv)) = 1
        · rw [if_pos y3]
        · rw [if_neg y3, if_pos (by
            rcases hno with y | y | y | y
            · exact absurd y.symm y1
            · exact absurd y.symm y2
            · exact absurd y y3
            · exact y)]
  have fk : FRk n1 (nw n1 8 0 6 lv) := ⟨fun K a _ _ _ _ => nw_nK a, nw_ns (by decide), nw_ns (by decide)⟩
  refine ⟨nw n1 8 0 6 lv, m2, ?_, ?_, ?_, by rw [f1 70 (by decide)]; omega, by rw [nw_ns (by decide)]; exact a5, ⟨by rw [nw_nK (by decide)]; exact a6.1, a6.2.trans fk⟩, fun g hg => by rw [f1 g (by simp only [List.mem_cons, List.not_mem_nil, or_false, not_or] at hg ⊢; exact hg.2.2.2), a7 g hg]⟩
  · unfold N_Reader_closeTo; rw [a1]; rfl
  · unfold N_Y_closeTo
    rw [a2]
    have : NL_Y_closeTo_0 lv own oth m1 = some m2 := by
      unfold NL_Y_closeTo_0
      rw [it_inl (f := fun s : YS => nb_Y_closeTo_0 lv own oth s) eY]
      refine it_inr ?_
      show nb_Y_closeTo_0 lv own oth m2 = _
      unfold nb_Y_closeTo_0
      rw [e74, if_neg (by omega)]
    rw [this]; rfl
  · have hX := a3.popX (n' := nw n1 8 0 6 lv) (m' := m2) (by omega) (nw_ns (by decide)) hy
    have hP := hO.pop (n' := nw n1 8 0 6 lv) (m' := m2) (by omega) (by rw [nw_eq]; omega) (nw_nK (by decide)) (nw_nK (by decide)) (by rw [e74]; omega) (f1 73 (by decide)) hy
    rw [show lv + 1 - 1 = lv by omega] at hX hP
    refine a3.chg fk ?_ hP hX hy (f1 75 (by decide)) (f1 76 (by decide)) (FYR.of f1 (by decide))
    have hF := a3.2.2.2.1
    unfold JF at *
    rw [nw_ns (show (3 : Int) ≠ 6 by decide), nw_nK (show (28 : Nat) ≠ 8 by decide), nw_nK (show (29 : Nat) ≠ 8 by decide), f1 70 (by decide), f1 71 (by decide), f1 72 (by decide)]; exact hF
end H1
