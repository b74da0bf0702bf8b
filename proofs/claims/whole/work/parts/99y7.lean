/-! WHAT A BLOCK AND A PIECE MEASURE, in both -/
/-- what measuring may write, but the words -/
def F1s (A B v : Int) (n n' : NS) : Prop := F1n n n' ∧ (∀ a, a ≠ v → n' 3 a = n 3 a) ∧ WKp n n' ∧ BI A B n' ∧ WL1 n' ∧ n' 5 = n 5
/-- the width that a style tells -/
def toW (I L X : Int) : Int := if L = -1 then X else if 1000 < L then I * (L - 1000) / 100 else L
section Y7
variable {n n' n'' : NS} {m m' m'' : YS} {A B N a b c x y q s E v u w t k j r i L I X h : Int} {o e p g : Int → Int}
theorem ck_f {α : Type} (x : Option α) (h : -2000000000 ≤ a ∧ a ≤ 2000000000) : ck a x = x := if_pos (by omega)
theorem F1n.wr : F1n n (nw n 3 v s x) := ⟨fun K hK => nw_nK (fun z => hK (by rw [z]; decide)), fun b _ => by rw [nw_nK (by decide)], fun s _ _ => by rw [nw_nK (by decide)], ⟨by rw [nw_nK (by decide)]; exact Int.le_refl _, fun q _ => by rw [nw_nK (by decide), nw_nK (by decide)]; exact ⟨rfl, rfl⟩, fun q _ _ _ => by rw [nw_nK (by decide)]⟩, .inl (by rw [nw_nK (by decide)]), .inl (by rw [nw_nK (by decide)])⟩
theorem F1s.refl (hB : BI A B n) (hW : WL1 n) : F1s A B v n n := ⟨F1n.refl, fun _ _ => rfl, ⟨Int.le_refl _, fun _ _ _ => rfl⟩, hB, hW, rfl⟩
theorem F1s.wr (h : F1s A B v n n') : F1s A B v n (nw n' 3 v s x) := by
  obtain ⟨a1, a2, a3, a4, a5, a6⟩ := h
  have e5 : nw n' 3 v s x 5 = n' 5 := nw_nK (by decide)
  have e99 : nw n' 3 v s x 99 = n' 99 := nw_nK (by decide)
  have e92 : nw n' 3 v s x 92 = n' 92 := nw_nK (by decide)
  have e93 : nw n' 3 v s x 93 = n' 93 := nw_nK (by decide)
  refine ⟨a1.trans F1n.wr, fun a ha => by rw [nw_ni ha]; exact a2 a ha, ?_, a4.cg (nw_nK (by decide)) (by rw [e5]; exact ⟨rfl, rfl⟩) (nw_nK (by decide)) (nw_nK (by decide)) e92 e93, ?_, by rw [e5]; exact a6⟩
  · unfold WKp at *
    rw [e5, e99]; exact a3
  · unfold WL1 WLc at *
    rw [e5, e92, e93]; exact a5
theorem F1s.tw (h : F1s A B v n n') (hF : FB (fun x => x = 608) n' n'') (hB : BI A B n'') : F1s A B v n n'' := by
  obtain ⟨a1, a2, a3, a4, a5, a6⟩ := h
  have e5 : n'' 5 = n' 5 := hF.1 5 (by decide) (by decide) (by decide) (by decide) (by decide) (by decide)
  have e3 : n'' 3 = n' 3 := hF.1 3 (by decide) (by decide) (by decide) (by decide) (by decide) (by decide)
  have hc := a4.2.2.2.1
  have h608 := (a4.1 608 (by decide) (by decide)).2.2.1
  have hr5 := hF.2.2.2.1 _ hc.2.1
  have hr9 := hF.2.2.2.1 _ hc.2.2.2
  have e99 : n'' 99 (n' 5 0 5) = n' 99 (n' 5 0 5) := hF.2.2.2.2.1 _ hc.2.1 (fun b hb z => by
    rw [hb] at z
    rw [← z, a5.1.1.1] at h608
    exact absurd h608 (by decide))
  refine ⟨a1.trans (FB.f1 hF), fun a ha => by rw [e3]; exact a2 a ha, ?_, hB, ?_, by rw [e5]; exact a6⟩
  · unfold WKp at *
    rw [e5, e99]; exact a3
  · unfold WL1 WLc at *
    rw [e5, hr5.1, hr5.2, hr9.1, hr9.2]; exact a5
theorem toW_m (hI : 0 ≤ I ∧ I ≤ 1300000) (hL : 1001 ≤ L ∧ L ≤ 1100) : 0 ≤ I * (L - 1000) ∧ I * (L - 1000) ≤ 130000000 := by
  have h1 := Int.mul_nonneg hI.1 (show 0 ≤ L - 1000 by omega)
  have h2 := Int.mul_le_mul hI.2 (show L - 1000 ≤ 100 by omega) (by omega) (by omega)
  omega
theorem toW_b (hI : 0 ≤ I ∧ I ≤ 1300000) (hL : -1 ≤ L ∧ L ≤ 1100 ∧ (L ≤ 96 ∨ 1001 ≤ L)) (h1 : L ≠ -1) : 0 ≤ toW I L X ∧ toW I L X ≤ 1300000 ∧ toW I L (-1) = toW I L X := by
  unfold toW
  rw [if_neg h1, if_neg h1]
  by_cases z : 1000 < L
  · have := toW_m hI (L := L) (by omega)
    rw [if_pos z]
    generalize I * (L - 1000) = P at *
    omega
  · rw [if_neg z]; omega
theorem c_told (hl : N_Layout_look v 6 n = some L) (hv : 0 ≤ v ∧ v < 120) (h1 : n 3 v 1 = q) (hq : 0 ≤ q ∧ q < 120) (h8 : 0 ≤ n 3 q 8 ∧ n 3 q 8 ≤ 23) (h4 : 0 ≤ n 3 q 4 ∧ n 3 q 4 ≤ 1300000) (hL : -1 ≤ L ∧ L ≤ 1100) : N_Layout_widthTold v X n = some (toW (max 0 (n 3 q 4 - 2 * n 3 q 8)) L X) := by
  unfold N_Layout_widthTold nk_Layout_widthTold_49 N_Box_innerWidth toW
  rw [hl]
  simp only [Option.bind_some]
  by_cases z : L = -1
  · rw [if_pos z, if_pos z]
  · rw [if_neg z, if_neg z, ix_e _ hv, h1, if_neg (by omega), ix_e _ hq, ck_e _ (by omega), ck_e _ (by omega)]
    simp only [Option.bind_some]
    obtain ⟨I, hI⟩ : ∃ I, I = max 0 (n 3 q 4 - 2 * n 3 q 8) := ⟨_, rfl⟩
    rw [← hI]
    by_cases w : 1000 < L
    · have := toW_m (I := I) (L := L) (by omega) (by omega)
      rw [if_pos w, if_pos w, ck_e _ (by omega), ck_f _ (by omega)]
      unfold cd
      rw [if_pos ⟨this.1, by decide⟩]
    · rw [if_neg w, if_neg w]
theorem y_told (hv : 0 ≤ v ∧ v < 120) (h6 : m 105 (11 * v + 6) = L) (hI : 0 ≤ I ∧ I ≤ 1300000) (hL : -1 ≤ L ∧ L ≤ 1100 ∧ (L ≤ 96 ∨ 1001 ≤ L)) : N_Y_told v I m = some (toW I L (-1)) := by
  unfold N_Y_told toW
  rw [y_of hv (by decide), h6]
  simp only [Option.bind_some]
  by_cases w : L < 1000
  · rw [if_pos w]
    by_cases z : L = -1
    · rw [if_pos z, z]
    · rw [if_neg z, if_neg (by omega)]
  · have := toW_m (I := I) (L := L) (by omega) (by omega)
    rw [if_neg w, if_neg (by omega), if_pos (by omega), ck_e _ (by omega), ck_f _ (by omega)]
    unfold cd
    rw [if_pos ⟨this.1, by decide⟩]
/-- a block -/
theorem meas_block (hT : JT n m N o e p) (hS : LSt n N o e) (hK : LKs n m N o) (hB : BI A B n) (hW : WL1 n) (k0 : 0 ≤ k) (hkN : k < N) (h0 : 0 ≤ h) (hhN : h < N) (hne : o h ≠ o k) (hv17 : m 46 (o k) ≠ 17) (hq17 : m 46 (o h) ≠ 17) (h1 : n 3 (o k) 1 = o h) (h109 : m 109 (o k) = o h) (hbq : BXf n m (o h) (o h)) (hbv : BXf n m (o k) (o k)) (hq4 : n 3 (o h) 4 = m 112 (o h) ∧ 0 ≤ n 3 (o h) 4 ∧ n 3 (o h) 4 ≤ 1300000) (hqm : m 107 (o h) = 2 ↔ m 105 (11 * o h) = 3)
    (hsd : ∀ _ : Unit, m 108 (o k) = if m 107 (o h) ≠ 2 ∧ 0 < m 105 (11 * o k + 10) then 1 else 0) :
    ∃ n' W, N_Layout_measureBlock (o k) (o k) n = some n' ∧ N_Y_widen (o k) m = some (yw m 112 (o k) W) ∧ (0 ≤ W ∧ W ≤ 1300000) ∧ F1s A B (o k) n n' ∧ n' 3 (o k) 4 = W ∧ (∀ s, s ≠ 4 → s ≠ 13 → n' 3 (o k) s = n 3 (o k) s) ∧ n' 3 (o k) 13 = (if m 107 (o h) = 2 then 0 else m 105 (11 * o k + 10)) := by
  have hG := hT.1.1
  have hv := hG.oB k0 hkN
  have hq := hG.oB h0 hhN
  have hLv := hK k k0 hkN hv17
  obtain ⟨I, hI⟩ : ∃ I, I = max 0 (n 3 (o h) 4 - 2 * n 3 (o h) 8) := ⟨_, rfl⟩
  obtain ⟨E, hE⟩ : ∃ E, E = n 3 (o k) 8 := ⟨_, rfl⟩
  obtain ⟨L, hL⟩ : ∃ L, L = m 105 (11 * o k + 6) := ⟨_, rfl⟩
  obtain ⟨fl, hfl⟩ : ∃ fl, fl = m 105 (11 * o k + 10) := ⟨_, rfl⟩
  obtain ⟨M, hM⟩ : ∃ M, M = n 3 (o k) 6 := ⟨_, rfl⟩
  obtain ⟨T, hTd⟩ : ∃ T, T = (oLn m o k (e k - k).toNat).2.1 * n 3 (o k) 11 := ⟨_, rfl⟩
  obtain ⟨⟨v6, v7, v8⟩, ⟨v9, v10, v11, v12⟩, b6, b7, b8, b11, b9, b10, b12⟩ := hbv
  obtain ⟨⟨q6, q7, q8⟩, ⟨q9, q10, q11, q12⟩, c6, c7, c8, c11, c9, c10, c12⟩ := hbq
  have hTb := oLn_b hT k0 hkN b11
  rw [← hTd] at hTb
  have hLb := (hLv 6 (by decide) (by decide)).2.2.2.2.2.2.2.2.2.1 rfl
  have hflb := (hLv 10 (by decide) (by decide)).2.2.2.2.2.2.2.2.2.2.2.2.2 rfl
  have h4b := (hLv 4 (by decide) (by decide)).2.2.2.2.2.2.2.1 rfl
  have h5b := (hLv 5 (by decide) (by decide)).2.2.2.2.2.2.2.2.1 rfl
  have hqv := hK h h0 hhN hq17
  have g4b := (hqv 4 (by decide) (by decide)).2.2.2.2.2.2.2.1 rfl
  have g5b := (hqv 5 (by decide) (by decide)).2.2.2.2.2.2.2.2.1 rfl
  rw [← hL] at hLb
  rw [← hfl] at hflb
  have hIb : 0 ≤ I ∧ I ≤ 1300000 := by omega
  obtain ⟨X, hX⟩ : ∃ X, X = (if m 107 (o h) = 2 then T + 2 * E else if fl = 0 then I - 2 * M else min (I - 2 * M) (T + 2 * E)) := ⟨_, rfl⟩
  have hXb : -100 ≤ X ∧ X ≤ 1300000 := by
    rw [hX]
    clear hX hsd hqm
    split
    · omega
    · split <;> omega
  have hWb : 0 ≤ max (toW I L X) (2 * E) ∧ max (toW I L X) (2 * E) ≤ 1300000 := by
    clear hsd hqm hX
    by_cases z : L = -1
    · have : toW I L X = X := by unfold toW; rw [if_pos z]
      omega
    · have := toW_b (X := X) hIb hLb z
      omega
  -- the class's end
  have fin : ∀ n1, F1s A B (o k) n n1 → (∀ s, s ≠ 4 → s ≠ 13 → n1 3 (o k) s = n 3 (o k) s) → nk_Layout_measureBlock_119 (o k) (o k) X n1 = some (nw n1 3 (o k) 4 (max (toW I L X) (2 * E))) := fun n1 hF hs => by
    unfold nk_Layout_measureBlock_119 st
    have hk1 := hK.f1 (m' := m) hF.1 rfl rfl
    have e3 := hF.2.1 (o h) hne
    have := c_told (X := X) (L := L) (by rw [c_look hk1 k0 hkN hv hv17 (by decide), hL]) hv (by rw [hs 1 (by decide) (by decide)]; exact h1) hq (by rw [e3]; exact c8) (by rw [e3]; exact hq4.2) (by omega)
    rw [e3, ← hI] at this
    rw [this, hs 8 (by decide) (by decide), ← hE]
    simp only [Option.bind_some]
    rw [ck_e _ (by omega)]
  -- all of the class
  have txw : ∀ n1, F1s A B (o k) n n1 → (∀ s, s ≠ 4 → s ≠ 13 → n1 3 (o k) s = n 3 (o k) s) → ∃ n2, N_Layout_textWidth (o k) (n1 3 (o k) 11) n1 = some (T, n2) ∧ F1s A B (o k) n n2 ∧ n2 3 = n1 3 := fun n1 hF hs => by
    rw [hs 11 (by decide) (by decide)]
    obtain ⟨⟨z, n2⟩, e1, e2, e3, e4, _⟩ := c_textW hF.2.2.2.1 (hT.f1 (m' := m) hB hW.1 hF.1 (fun _ _ _ => rfl)) (hS.f1 hF.1) k0 hkN b11
    simp only at e2 e3 e4
    rw [e2, ← hTd] at e1
    exact ⟨n2, e1, hF.tw e4 e3, e4.1 3 (by decide) (by decide) (by decide) (by decide) (by decide) (by decide)⟩
  have cls : ∃ n1, N_Layout_measureBlock (o k) (o k) n = some (nw n1 3 (o k) 4 (max (toW I L X) (2 * E))) ∧ F1s A B (o k) n n1 ∧ (∀ s, s ≠ 4 → s ≠ 13 → n1 3 (o k) s = n 3 (o k) s) ∧ n1 3 (o k) 13 = (if m 107 (o h) = 2 then 0 else fl) := by
    have hR := F1s.refl (v := o k) hB hW
    have hlk := c_look hK h0 hhN hq hq17 (pr := 0) (by decide)
    rw [show 11 * o h + 0 = 11 * o h by omega] at hlk
    have sl : ∀ y s, s ≠ 4 → s ≠ 13 → nw n 3 (o k) 13 y 3 (o k) s = n 3 (o k) s := fun y s _ h13 => nw_ns h13
    unfold N_Layout_measureBlock nk_Layout_measureBlock_28 nk_Layout_measureBlock_47 N_Box_innerWidth st
    rw [h1, ix_e _ hq, hlk]
    simp only [Option.bind_some]
    have eq3 : ∀ y, nw n 3 (o k) 13 y 3 (o h) = n 3 (o h) := fun y => nw_ni hne
    have c1 : N_Layout_look (o k) 10 n = some fl := by rw [c_look hK k0 hkN hv hv17 (by decide), hfl]
    by_cases z : m 107 (o h) = 2
    · rw [if_pos (hqm.mp z), if_neg (by decide)]
      simp only [eq3]
      rw [ck_e _ (by omega), ck_e _ (by omega), ← hI]
      simp only [Option.bind_some]
      rw [sl 0 6 (by decide) (by decide), ck_e _ (by omega), ck_e _ (by omega), if_neg (by decide)]
      obtain ⟨n2, t1, t2, t3⟩ := txw _ (hR.wr (s := 13) (x := 0)) (sl 0)
      have s8 : n2 3 (o k) 8 = E := by rw [t3, sl 0 8 (by decide) (by decide), hE]
      rw [t1]
      simp only [Option.bind_some, u2]
      rw [s8, ck_e _ (by omega), ck_e _ (by omega)]
      rw [if_pos z] at hX
      rw [← hX, if_pos z]
      exact ⟨n2, fin n2 t2 (fun s x y => by rw [t3]; exact sl 0 s x y), t2, fun s x y => by rw [t3]; exact sl 0 s x y, by rw [t3, nw_eq]⟩
    · rw [if_neg (fun w => z (hqm.mpr w)), if_pos trivial, c1]
      simp only [Option.bind_some, eq3]
      rw [ck_e _ (by omega), ck_e _ (by omega), ← hI]
      simp only [Option.bind_some]
      rw [sl fl 6 (by decide) (by decide), ck_e _ (by omega), ck_e _ (by omega), if_pos trivial, nw_eq]
      rw [if_neg z] at hX
      by_cases zf : fl = 0
      · rw [if_pos zf]
        rw [if_pos zf, hM] at hX
        rw [← hX, if_neg z]
        exact ⟨_, fin _ hR.wr (sl fl), hR.wr, sl fl, nw_eq⟩
      · rw [if_neg zf]
        obtain ⟨n2, t1, t2, t3⟩ := txw _ (hR.wr (s := 13) (x := fl)) (sl fl)
        have s8 : n2 3 (o k) 8 = E := by rw [t3, sl fl 8 (by decide) (by decide), hE]
        rw [t1]
        simp only [Option.bind_some, u2]
        rw [s8, ck_e _ (by omega), ck_e _ (by omega)]
        rw [if_neg zf, hM] at hX
        rw [← hX, if_neg z]
        exact ⟨n2, fin n2 t2 (fun s x y => by rw [t3]; exact sl fl s x y), t2, fun s x y => by rw [t3]; exact sl fl s x y, by rw [t3, nw_eq]⟩
  obtain ⟨n1, d1, d2, d3, d4⟩ := cls
  refine ⟨_, _, d1, ?_, hWb, d2.wr, nw_eq, fun s x y => by rw [nw_ns x]; exact d3 s x y, by rw [nw_ns (by decide), d4, hfl]⟩
  -- the reference
  unfold N_Y_widen nk_Y_widen_95 st
  have hsd0 := hsd ()
  have hyt := y_textW hT k0 hkN (m' := m) (s := n 3 (o k) 11) ⟨v11.symm, b11⟩ (fun _ _ _ => rfl)
  rw [← hTd] at hyt
  rw [ix_e _ hv, h109, y_inner hq (by omega) (by omega), ← q8, ← hq4.1, ← hI]
  simp only [Option.bind_some]
  rw [y_edges hv (by omega), ← v8, ← hE]
  simp only [Option.bind_some]
  rw [ck_e _ (by omega), y_told hv hL.symm hIb hLb]
  simp only [Option.bind_some]
  by_cases zL : L = -1
  · have e1 : toW I L (-1) = -1 := by unfold toW; rw [if_pos zL]
    have e2 : toW I L X = X := by unfold toW; rw [if_pos zL]
    rw [e1, if_pos rfl, y_of hv (by decide), ← v6, ← hM, e2]
    simp only [Option.bind_some, ix_e (L := 120) _ hv, ix_e (L := 120) _ hq]
    rw [ck_e _ (by omega), ck_e _ (by omega), hyt]
    simp only [Option.bind_some]
    by_cases z : m 107 (o h) = 2
    · rw [if_pos z] at hX
      rw [show m 108 (o k) = 0 by rw [hsd0, if_neg (fun w => w.1 z)], if_pos rfl, if_pos z, ck_e _ (by omega), hX]
    · rw [if_neg z] at hX
      by_cases zf : fl = 0
      · rw [if_pos zf] at hX
        rw [show m 108 (o k) = 0 by rw [hsd0, ← hfl, if_neg (fun w => by have := w.2; omega)], if_pos rfl, if_neg z, hX]
      · rw [if_neg zf] at hX
        rw [show m 108 (o k) = 1 by rw [hsd0, ← hfl, if_pos ⟨z, by omega⟩], if_neg (by decide), ck_e _ (by omega), hX]
  · have := toW_b (X := X) hIb hLb zL
    rw [this.2.2, if_neg (by omega), ix_e _ hv]
end Y7
