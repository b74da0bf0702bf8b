/-! STEPS of both readers: raw text, comments -/
theorem it_inl {σ ρ : Type} {f : σ → Option (σ ⊕ ρ)} {s s' : σ} (h : f s = some (.inl s')) : it f s = it f s' := by rw [it_eq, h]
theorem it_inr {σ ρ : Type} {f : σ → Option (σ ⊕ ρ)} {s : σ} {r : ρ} (h : f s = some (.inr r)) : it f s = some r := by rw [it_eq, h]
section H0
variable {Z : NS × YS} {n n' : NS} {m m' : YS} {A B N i to r bl oc : Int} {o e p qs : Int → Int}
theorem step_raw (hJ : JR Z A B n m N o e p qs oc) (hC : JCn Z n m i) (ha : n 8 0 10 = i) (hi : 0 ≤ i ∧ i < m 76 0) (hn : ¬ stA (m 75) (m 76 0) i) : STEP Z A B i qs (N_Reader_readRaw n) (N_Y_run i 1 m) m := by
  have hL := hJ.2.2.2.2.1.1.2.2.2
  have hRD := hJ.2.2.2.2.1.1
  have q1 := scx_ge (p := fun j => ¬ stA (m 75) (m 76 0) j) (i + 1) (m 76 0)
  have q2 := scx_le (p := fun j => ¬ stA (m 75) (m 76 0) j) (i := i + 1) (to := m 76 0) (by omega)
  have hsc : sc (fun j => ¬ stA (m 75) (m 76 0) j) (i + 1) (m 76 0) = sc (fun j => ¬ stA (m 75) (m 76 0) j) i (m 76 0) := by
    have h := scx_scn (p := fun j => ¬ stA (m 75) (m 76 0) j) (i + 1) (m 76 0)
    refine scx_eq ⟨by omega, .inl q2, fun j a b => ?_, h.2.2.2⟩
    by_cases z : j = i
    · rw [z]; exact hn
    · exact h.2.2.1 j (by omega) b
  have eC : NL_Reader_readRaw_5 i n = some (sc (fun j => ¬ stA (m 75) (m 76 0) j) i (m 76 0)) := by
    unfold NL_Reader_readRaw_5
    refine ev_scan (fun x x1 x2 => ?_)
    unfold nb_Reader_readRaw_5
    rw [hRD.2.1]
    refine ev_if (fun hl => ev_nn hRD.2.2.1 (ev_bz (cs_stands hRD.1 okS10 (Int.le_refl _) (by omega) (by omega) (by omega) (by decide)) (fun q => ?_) (fun q => ?_))) (fun hl => ev_ok (.inr ⟨rfl, fun z => hl z.1⟩))
    · rw [if_neg (by decide)]; exact ev_ok (.inr ⟨rfl, fun z => z.2 (mt_st.mp q)⟩)
    · rw [if_pos rfl]; exact ev_ck (by omega) (ev_ok (.inl ⟨rfl, hl, fun z => q (mt_st.mpr z)⟩))
  obtain ⟨⟨to, bl⟩, eY, s1, s2⟩ := y_runScan (S := stA (m 75) (m 76 0)) (r := 1) hL hi (fun k w a b => y_run35r hL ⟨by omega, b⟩)
  simp only at s1 s2
  rw [← hsc, ← s1] at eC
  rw [← s1] at q1 q2
  obtain ⟨n', m', N', o', e', p', a1, a2, a3, a4, a5, a6⟩ := addRun_both (to := to) (r := 1) (bl := bl) hJ hC ⟨hi.1, by omega, q2⟩ (.inr rfl) s2
  refine ⟨nw n' 8 0 10 to, m', to, N', o', e', p', qs, oc, ?_, ?_, a3.at to, nw_eq, by omega, q2, ?_, a6⟩
  · unfold N_Reader_readRaw nk_Reader_readRaw_36
    rw [ha, eC]
    simp only [Option.bind_some]
    have a1' : N_Reader_addRun i to 0 n = some n' := a1
    rw [a1']
    rfl
  · unfold N_Y_run
    rw [eY]
    exact a2
  · unfold JCn at *
    rw [nw_nK (by decide)]; exact a4
/-- a fault is told: all else stays -/
theorem JR.tell (h : JR Z A B n m N o e p qs oc) {w pl : Int} (hb : m 70 0 < 90000) : ∃ n' m', N_Reader_tell w pl n = some n' ∧ N_Y_tellFault w pl m = some m' ∧ JR Z A B n' m' N o e p qs oc ∧ (∀ s, s ≠ 3 → n' 8 0 s = n 8 0 s) ∧ (n' 10 = n 10 ∧ FRk n n') ∧ FY [70, 71, 72] m m' ∧ m' 70 0 = m 70 0 + 1 := by
  obtain ⟨hB, hT, hP, hF, hS, hO, hX, h6⟩ := h
  have h70 := hF.2.1
  obtain ⟨n1, et, t1, t2, t3⟩ := c_tell (n := n) (w := w) (pl := pl) (by rw [hF.1]; omega)
  obtain ⟨m1, eu, yA, yB⟩ := y_tell (m := m) (w := w) (pl := pl) (by omega)
  have fr : FRk n n1 := ⟨fun K a b c _ _ => t2 K a b c, t3 8 (by decide), t3 9 (by decide)⟩
  refine ⟨n1, m1, et, eu, ⟨hB.rk fr, hT.rk fr (fun f _ _ => yB f (by simp only [List.mem_cons, List.not_mem_nil, or_false, not_or]; omega)), by unfold JP; rw [yB 46 (by decide)]; exact hP, hF.told t1 yA (by omega), hS.rk fr (yB 75 (by decide)) (yB 76 (by decide)), hO.cg (t3 6 (by decide)) (t2 30 (by decide) (by decide) (by decide)) (t2 31 (by decide) (by decide) (by decide)) (yB 74 (by decide)) (yB 73 (by decide)) (fun j _ _ => by rw [yB 46 (by decide), yB 54 (by decide), yB 67 (by decide)]; exact ⟨rfl, rfl, rfl⟩), ?_, h6.cg (FRR.rk fr) (FYR.of yB (by decide))⟩, t3, ⟨t2 10 (by decide) (by decide) (by decide), fr⟩, yB, yA.1⟩
  unfold JCut at hX ⊢
  rw [t3 11 (by decide), yB 51 (by decide), yB 46 (by decide), yB 63 (by decide)]; exact hX
theorem step_comment (hJ : JR Z A B n m N o e p qs oc) (hC : JCn Z n m i) (ha : n 8 0 10 = i) (hi : 0 ≤ i ∧ i < m 76 0) (hc : cmA (m 75) (m 76 0) i) : STEP Z A B i qs (N_Reader_readComment n) (N_Y_note i m) m := by
  have hL := hJ.2.2.2.2.1.1.2.2.2
  have hRD := hJ.2.2.2.2.1.1
  have hc1 := hc.1
  have q1 := scx_ge (p := fun j => ¬ ceA (m 75) (m 76 0) j) (i + 4) (m 76 0)
  have q2 := scx_le (p := fun j => ¬ ceA (m 75) (m 76 0) j) (i := i + 4) (to := m 76 0) (by omega)
  have q3 : sc (fun j => ¬ ceA (m 75) (m 76 0) j) (i + 4) (m 76 0) < m 76 0 → ceA (m 75) (m 76 0) (sc (fun j => ¬ ceA (m 75) (m 76 0) j) (i + 4) (m 76 0)) := fun z => by
    have := scx_at (p := fun j => ¬ ceA (m 75) (m 76 0) j) z
    exact Classical.byContradiction this
  have eC : NL_Reader_readComment_7 (i + 4) n = some (sc (fun j => ¬ ceA (m 75) (m 76 0) j) (i + 4) (m 76 0)) := by
    unfold NL_Reader_readComment_7
    refine ev_scan (fun x x1 x2 => ?_)
    unfold nb_Reader_readComment_7
    rw [hRD.2.1]
    refine ev_if (fun hl => ev_nn hRD.2.2.1 (ev_bz (cs_stands hRD.1 okS20 (Int.le_refl _) (by omega) (by omega) (by omega) (by decide)) (fun q => ?_) (fun q => ?_))) (fun hl => ev_ok (.inr ⟨rfl, fun z => hl z.1⟩))
    · rw [if_neg (by decide)]; exact ev_ok (.inr ⟨rfl, fun z => z.2 (mt_ce.mp q)⟩)
    · rw [if_pos rfl]; exact ev_ck (by omega) (ev_ok (.inl ⟨rfl, hl, fun z => q (mt_ce.mpr z)⟩))
  have eY : NL_Y_note_4 i (i + 4) m = some (sc (fun j => ¬ ceA (m 75) (m 76 0) j) (i + 4) (m 76 0)) := by
    unfold NL_Y_note_4
    refine ev_scan (fun x x1 x2 => ?_)
    unfold nb_Y_note_4
    refine ev_if (fun hl => ev_bz (y_isAt3 rfl rfl hL (by omega)) (fun q => ?_) (fun q => ?_)) (fun hl => ev_ok (.inr ⟨rfl, fun z => hl z.1⟩))
    · rw [if_neg (by decide)]; exact ev_ok (.inr ⟨rfl, fun z => z.2 q⟩)
    · rw [if_pos rfl]; exact ev_ck (by omega) (ev_ok (.inl ⟨rfl, hl, q⟩))
  generalize sc (fun j => ¬ ceA (m 75) (m 76 0) j) (i + 4) (m 76 0) = z at *
  have uC : N_Reader_readComment n = nk_Reader_readComment_38 z n := by
    unfold N_Reader_readComment ck
    rw [ha, if_pos (by omega), eC]; rfl
  have uY : N_Y_note i m = nk_Y_note_32 i z m := by
    unfold N_Y_note ck
    rw [if_pos (by omega), eY]; rfl
  by_cases hz : z < m 76 0
  · have hz3 := (q3 hz).1
    refine ⟨nw n 8 0 10 (z + 3), m, z + 3, N, o, e, p, qs, oc, ?_, ?_, hJ.at (z + 3), nw_eq, by omega, by omega, ?_, rfl⟩
    · rw [uC]; unfold nk_Reader_readComment_38 ck st
      rw [hRD.2.1, if_pos hz, if_pos (by omega)]
    · rw [uY]; unfold nk_Y_note_32 ck
      rw [if_pos hz, if_pos (by omega)]
    · unfold JCn at *
      rw [nw_nK (by decide)]; omega
  · obtain ⟨n1, m1, t1, t2, t3, t4, t5, t6, t7⟩ := hJ.tell (w := 1) (pl := i) (by have := hC.2.2; omega)
    refine ⟨nw n1 8 0 10 (m 76 0), m1, m 76 0, N, o, e, p, qs, oc, ?_, ?_, t3.at (m 76 0), nw_eq, hi.2, Int.le_refl _, ?_, t6 76 (by decide)⟩
    · rw [uC]; unfold nk_Reader_readComment_38
      rw [hRD.2.1, if_neg hz, ha, t1]
      show st (nw n1 8 0 10 (n1 8 0 9)) (fun n16 => some n16) = _
      rw [t4 9 (by decide), hRD.2.1]; rfl
    · rw [uY]; unfold nk_Y_note_32
      rw [if_neg hz, t2]
      show some (m1 76 0, m1) = _
      rw [t6 76 (by decide)]
    · have w1 := wtS_fy t6 (by decide)
      unfold JCn at *
      rw [nw_nK (by decide), t5.1, t6 76 (by decide), t6 69 (by decide), t7]; omega
end H0
