/-! ALL NODES ARE MEASURED, in both -/
section YB
variable {n n' n'' : NS} {m m' m'' : YS} {A B N a b c x y q s E v u w t k j r i L I X h fw kd md hh sd w0 : Int} {o e p g : Int → Int}
theorem meas_root (hM : M1 A B N o e p 0 n m) (h17 : m 46 0 ≠ 17) : ∃ n' m', N_Layout_measure (o 0) n = some n' ∧ nb_Y_lay_29 (o 0) m = some (.inl ((if 0 + 1 < N then o (0 + 1) else -1), m')) ∧ M1 A B N o e p (0 + 1) n' m' ∧ F1n n n' ∧ FY [107, 108, 109, 112, 113, 116, 117, 118, 119, 120, 123, 124, 125] m m' := by
  have hM0 := hM
  obtain ⟨⟨hT, hS, hJ, hK, hB, hW⟩, a1, a2, a3, a4, a5, a6, a7⟩ := hM
  have hG := hT.1.1
  have hN := hG.N1
  have ho := hG.o0
  have hnd : ND n m 0 := by have := hT.2.2.2 0 (Int.le_refl _) (by omega); rw [ho] at this; exact this
  have h70 : n 7 0 0 = m 46 0 := hnd.1.1
  have hLs := hK 0 (Int.le_refl _) (by omega) (by rw [ho]; exact h17)
  rw [ho] at hLs
  have hb00 : (0 : Int) ≤ 0 ∧ (0 : Int) < 120 := by decide
  have hc := c_meas (m := m) (v := 0) (s := 0) (n := n) (kd := 1) hb00 (by unfold N_Layout_kindOf; rw [if_pos rfl]) (by decide) (.inr ⟨by rw [h70]; exact h17, rfl⟩) hb00 (fun pr x y => (hLs pr x y).1) ⟨(hLs 4 (by decide) (by decide)).2.2.2.2.2.2.2.1 rfl, (hLs 5 (by decide) (by decide)).2.2.2.2.2.2.2.2.1 rfl⟩
  rw [if_pos rfl] at hc
  have hF := ((mB_f (m := m) (v := 0) (s := 0) (kd := 1) hB hW).wr (s := 1) (x := -1)).wr (s := 4) (x := n 5 0 3)
  obtain ⟨⟨s0, s2, s3, s13, s19⟩, _⟩ := mB_s (n := n) (m := m) (v := 0) (s := 0) (kd := 1)
  obtain ⟨nb, hnb⟩ : ∃ nb, nb = nw (nw (mB n m 0 0 1) 3 0 1 (-1)) 3 0 4 (n 5 0 3) := ⟨_, rfl⟩
  rw [← hnb] at hc hF
  have sl : ∀ z, z ≠ 1 → z ≠ 4 → nb 3 0 z = mB n m 0 0 1 3 0 z := fun z x y => by rw [hnb, nw_ns y, nw_ns x]
  obtain ⟨md, hmd⟩ : ∃ md, md = (if m 105 0 = 3 then (2 : Int) else 1) := ⟨_, rfl⟩
  obtain ⟨f1, ⟨f2, f3, f4, f5, f6, f7⟩, f8⟩ := mS_f (m := m) (k := 0) (v := 0) (hh := -1) (md := md) (sd := 0)
  have hY0 : FM1 0 0 (n 5 0 6) m (mS m 0 0 (-1) md 0) := FM1.ss
  obtain ⟨m2, hm2⟩ : ∃ m2, m2 = mS m 0 0 (-1) md 0 := ⟨_, rfl⟩
  rw [← hm2] at f1 f2 f3 f4 f5 f6 f7 f8 hY0
  obtain ⟨m', hm'⟩ : ∃ m', m' = yw m2 112 0 (m 106 0) := ⟨_, rfl⟩
  have ew : ∀ f, f ≠ 112 → m' f = m2 f := fun f hf => by rw [hm']; exact yw_nF hf
  have e105 : m2 105 = m 105 := f1 105 (by decide) (by decide) (by decide) (by decide) (by decide) (by decide)
  have e117 : m2 117 = m 117 := f1 117 (by decide) (by decide) (by decide) (by decide) (by decide) (by decide)
  have e106 : m2 106 = m 106 := f1 106 (by decide) (by decide) (by decide) (by decide) (by decide) (by decide)
  have hY : FM1 (o 0) 0 (n 5 0 6) m m' := by rw [ho, hm']; exact FM1.yy (by omega) hY0
  have hms : MSk nb m' o e p 0 := by
    refine .inr ⟨.inl ⟨rfl, ?_⟩, .inl ⟨?_, ?_, ?_, ?_, ?_, ?_, ?_, ?_⟩⟩
    · rw [ho, hnb, nw_ns (by decide), nw_eq]
    · rw [ho, ew 107 (by decide), f2, hmd]
      split
      · exact .inr rfl
      · exact .inl rfl
    · rw [ho, sl 0 (by decide) (by decide), s0]
    · rw [ho, ew 46 (by decide), f1 46 (by decide) (by decide) (by decide) (by decide) (by decide) (by decide)]
      exact ⟨h17, fun z => by omega⟩
    · rw [ho]
      obtain ⟨_, s6, s7, s8, s9, s10, s11, s12⟩ := mB_s (n := n) (m := m) (v := 0) (s := 0) (kd := 1)
      have hbv : BXf (mB n m 0 0 1) m' 0 0 := hLs.bx (kd := 1) (fun z _ => rfl) (by rw [ew 105 (by decide)]; exact e105)
      exact hbv.cg (fun z hz => sl z (by omega) (by omega)) rfl
    · rw [ho, ew 107 (by decide), f2, ew 105 (by decide), e105, hmd, show (11 * 0 : Int) = 0 by decide]
      by_cases z : m 105 0 = 3
      · rw [if_pos z]; exact ⟨fun _ => z, fun _ => rfl⟩
      · rw [if_neg z]; exact ⟨fun w => absurd w (by decide), fun w => absurd w z⟩
    · rw [ho, hm', yw_eq, hnb, nw_eq]; omega
    · unfold SID
      rw [ho]
      exact ⟨fun _ => ⟨by rw [sl 13 (by decide) (by decide)]; exact s13, by rw [ew 108 (by decide)]; exact f3⟩, fun z => by omega⟩
    · rw [ho, sl 19 (by decide) (by decide)]; exact s19
  refine ⟨nb, m', by rw [ho]; exact hc, ?_, hM0.next (Int.le_refl _) (by omega) hF.1 (by rw [ho]; exact hF.2.1) hF.2.2.1 hF.2.2.2.1 hF.2.2.2.2.1 hY (by rw [ew 125 (by decide)]; exact f6) (by rw [ew 124 (by decide), ho]; exact f7) ⟨by rw [hF.2.2.2.2.2, ew 117 (by decide), e117]; exact a5.1, by rw [hF.2.2.2.2.2]; omega⟩ hms (fun z => by omega) ?_ ?_ (by rw [ho, ew 116 (by decide), f5, a5.1]) (.inl ⟨by rw [ho, ew 107 (by decide), f2, hmd]; split <;> decide, by rw [hF.2.2.2.2.2]⟩) (by rw [ho, sl 18 (by decide) (by decide), mB_18]; exact a7.2 0 (by decide) (by decide)), hF.1, hY.1⟩
  · rw [ho]
    have hG' : TY m' N o e p := by
      unfold TY
      rw [ew 49 (by decide), ew 50 (by decide), ew 52 (by decide), f1 49 (by decide) (by decide) (by decide) (by decide) (by decide) (by decide), f1 50 (by decide) (by decide) (by decide) (by decide) (by decide) (by decide), f1 52 (by decide) (by decide) (by decide) (by decide) (by decide) (by decide)]; exact hG
    have g := y_after hG' (t := 0) (k := 0) (Int.le_refl _) (Int.le_refl _) (by rw [hG.e0]; omega) (by omega)
    rw [hG.o0, hG.e0] at g
    have h181 : nk_Y_lay_133 0 md 0 (mA m 0 0 (-1)) = some (.inl ((if 0 + 1 < N then o (0 + 1) else -1), m')) := by
      unfold nk_Y_lay_133 nk_Y_lay_180 nk_Y_lay_181 st
      dsimp only
      have hz : ∀ x : Option ((Int × YS) ⊕ YS), cz 0 x = x := fun x => if_pos (by decide)
      rw [ix_e _ hb00, if_neg (by decide), hz, ix_e _ hb00, ix_e _ hb00, if_pos rfl, ix_e _ hb00]
      have e1 : yw (yw (mA m 0 0 (-1)) 107 0 md) 108 0 0 117 = m 117 := by
        unfold mA
        rw [yw_nF (by decide), yw_nF (by decide), yw_nF (by decide), yw_nF (by decide), yw_nF (by decide)]
      have e2 : yw (yw (yw (mA m 0 0 (-1)) 107 0 md) 108 0 0) 116 0 (m 117 0) = m2 := by rw [hm2]; rfl
      rw [e1, e2, e106, ← hm']
      unfold nk_Y_lay_259
      rw [g]; rfl
    unfold nb_Y_lay_29 nk_Y_lay_100 st
    dsimp only
    rw [if_neg (by decide), a4.1, ix_e _ hb00, yw_nF (show 125 ≠ 124 by decide), a4.1, ck_e _ (by decide), if_pos rfl, ix_e _ hb00, if_pos rfl, y_of hb00 (by decide)]
    simp only [Option.bind_some]
    rw [show yw (yw (yw m 124 0 0) 125 0 (0 + 1)) 109 0 (-1) = mA m 0 0 (-1) from rfl, show mA m 0 0 (-1) 105 = m 105 by unfold mA; rw [yw_nF (by decide), yw_nF (by decide), yw_nF (by decide)], show (11 * 0 + 0 : Int) = 0 by decide]
    by_cases z : m 105 0 = 3
    · rw [if_pos z] at hmd ⊢
      rw [hmd] at h181; exact h181
    · rw [if_neg z] at hmd ⊢
      rw [hmd] at h181; exact h181
  · rw [ho, sl 0 (by decide) (by decide), s0]
    exact fun z => absurd z (by decide)
  · intro _
    rw [ho, sl 2 (by decide) (by decide), sl 3 (by decide) (by decide), ew 107 (by decide), f2]
    refine ⟨⟨by rw [hnb, nw_ns (by decide), nw_eq], s2, s3⟩, ?_⟩
    rw [hmd]
    split
    · exact .inr rfl
    · exact .inl rfl
theorem meas_loop (h17 : m 46 0 ≠ 17) : ∀ (z : Nat) (k : Int) (n : NS) (m1 : YS), (N - k).toNat ≤ z → 0 ≤ k → k ≤ N → M1 A B N o e p k n m1 → m1 46 = m 46 → ∃ n' m', NL_Layout_refresh_40 k n = some n' ∧ NL_Y_lay_29 (if k < N then o k else -1) m1 = some m' ∧ M1 A B N o e p N n' m' ∧ F1n n n' ∧ FY [107, 108, 109, 112, 113, 116, 117, 118, 119, 120, 123, 124, 125] m1 m' := by
  intro z
  induction z with
  | zero =>
    intro k n m1 hz k0 hk hM _
    have e : k = N := by omega
    refine ⟨n, m1, ?_, ?_, by rw [e] at hM; exact hM, F1n.refl, FY.refl _ _⟩
    · unfold NL_Layout_refresh_40
      refine it_inr ?_
      show nb_Layout_refresh_40 k n = _
      unfold nb_Layout_refresh_40
      rw [hM.1.2.1.1, if_neg (by omega)]
    · unfold NL_Y_lay_29
      refine it_inr ?_
      show nb_Y_lay_29 (if k < N then o k else -1) m1 = _
      rw [if_neg (show ¬ k < N by omega)]
      unfold nb_Y_lay_29
      rw [if_pos rfl]
  | succ z ih =>
    intro k n m1 hz k0 hk hM h46
    by_cases hlt : k < N
    · have hN := hM.1.1.1.1.N1
      have hst : ∃ n' m', N_Layout_measure (o k) n = some n' ∧ nb_Y_lay_29 (o k) m1 = some (.inl ((if k + 1 < N then o (k + 1) else -1), m')) ∧ M1 A B N o e p (k + 1) n' m' ∧ F1n n n' ∧ FY [107, 108, 109, 112, 113, 116, 117, 118, 119, 120, 123, 124, 125] m1 m' := by
        by_cases z0 : k = 0
        · rw [z0] at hM ⊢
          exact meas_root hM (by rw [h46]; exact h17)
        · exact meas_step hM (by omega) hlt
      obtain ⟨n1, m2, s1, s2, s3, s4, s5⟩ := hst
      obtain ⟨n', m', r1, r2, r3, r4, r5⟩ := ih (k + 1) n1 m2 (by omega) (by omega) (by omega) s3 ((s5 46 (by decide)).trans h46)
      refine ⟨n', m', ?_, ?_, r3, s4.trans r4, s5.trans r5⟩
      · rw [← r1]
        unfold NL_Layout_refresh_40
        refine it_inl ?_
        show nb_Layout_refresh_40 k n = _
        unfold nb_Layout_refresh_40
        rw [hM.1.2.1.1, if_pos hlt, ix_e _ (by omega), (hM.1.2.1.2 k k0 hlt).1, s1]
        simp only [Option.bind_some]
        rw [ck_e _ (by omega)]
      · rw [← r2, if_pos hlt]
        unfold NL_Y_lay_29
        exact it_inl (f := fun s : Int × YS => nb_Y_lay_29 s.1 s.2) (s := (o k, m1)) s2
    · have e : k = N := by omega
      refine ⟨n, m1, ?_, ?_, by rw [e] at hM; exact hM, F1n.refl, FY.refl _ _⟩
      · unfold NL_Layout_refresh_40
        refine it_inr ?_
        show nb_Layout_refresh_40 k n = _
        unfold nb_Layout_refresh_40
        rw [hM.1.2.1.1, if_neg (by omega)]
      · unfold NL_Y_lay_29
        refine it_inr ?_
        show nb_Y_lay_29 (if k < N then o k else -1) m1 = _
        rw [if_neg (show ¬ k < N by omega)]
        unfold nb_Y_lay_29
        rw [if_pos rfl]
end YB
