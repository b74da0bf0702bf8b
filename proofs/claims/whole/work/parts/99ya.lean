/-! ONE NODE IS MEASURED, in both -/
section YA
variable {n n' n'' : NS} {m m' m'' : YS} {A B N a b c x y q s E v u w t k j r i L I X h fw kd md hh sd w0 : Int} {o e p g : Int → Int}
theorem mB_s : (mB n m v s kd 3 v 0 = kd ∧ mB n m v s kd 3 v 2 = 0 ∧ mB n m v s kd 3 v 3 = 0 ∧ mB n m v s kd 3 v 13 = 0 ∧ mB n m v s kd 3 v 19 = 0) ∧ (mB n m v s kd 3 v 6 = m 105 (11 * s + 3) ∧ mB n m v s kd 3 v 7 = m 105 (11 * s + 5) ∧ mB n m v s kd 3 v 8 = m 105 (11 * s + 5) + m 105 (11 * s + 4) ∧ mB n m v s kd 3 v 9 = m 105 (11 * s + 1) ∧ mB n m v s kd 3 v 10 = m 105 (11 * s + 2) ∧ mB n m v s kd 3 v 11 = m 105 (11 * s + 8) ∧ mB n m v s kd 3 v 12 = m 105 (11 * s + 9)) := by
  unfold mB
  simp [nw_app]
theorem mB_18 : mB n m v s kd 3 v 18 = n 3 v 18 := by
  unfold mB
  simp [nw_app]
theorem mB_f (hB : BI A B n) (hW : WL1 n) : F1s A B v n (mB n m v s kd) := by
  unfold mB
  exact (F1s.refl hB hW).wr.wr.wr.wr.wr.wr.wr.wr.wr.wr.wr.wr
theorem LKv.bx (h : LKv n m s) (h3 : ∀ sl, sl ≠ 1 → n' 3 v sl = mB n m v s kd 3 v sl) (h105 : m' 105 = m 105) : BXf n' m' v s := by
  have g1 := (h 1 (by decide) (by decide)).2.2.2.2.1 rfl
  have g2 := (h 2 (by decide) (by decide)).2.2.2.2.2.1 rfl
  have g3 := (h 3 (by decide) (by decide)).2.2.2.2.2.2.1 rfl
  have g4 := (h 4 (by decide) (by decide)).2.2.2.2.2.2.2.1 rfl
  have g5 := (h 5 (by decide) (by decide)).2.2.2.2.2.2.2.2.1 rfl
  have g8 := (h 8 (by decide) (by decide)).2.2.2.2.2.2.2.2.2.2.2.1 rfl
  have g9 := (h 9 (by decide) (by decide)).2.2.2.2.2.2.2.2.2.2.2.2.1 rfl
  obtain ⟨_, s6, s7, s8, s9, s10, s11, s12⟩ := mB_s (n := n) (m := m) (v := v) (s := s) (kd := kd)
  unfold BXf
  rw [h105, h3 6 (by decide), h3 7 (by decide), h3 8 (by decide), h3 9 (by decide), h3 10 (by decide), h3 11 (by decide), h3 12 (by decide), s6, s7, s8, s9, s10, s11, s12]
  omega
theorem mS_f : (∀ f, f ≠ 107 → f ≠ 108 → f ≠ 109 → f ≠ 116 → f ≠ 124 → f ≠ 125 → mS m k v hh md sd f = m f) ∧ (mS m k v hh md sd 107 v = md ∧ mS m k v hh md sd 108 v = sd ∧ mS m k v hh md sd 109 v = hh ∧ mS m k v hh md sd 116 v = m 117 0 ∧ mS m k v hh md sd 125 0 = k + 1 ∧ mS m k v hh md sd 124 k = v) ∧ (∀ f, f ≠ 124 → f ≠ 125 → ∀ a, a ≠ v → mS m k v hh md sd f a = m f a) := by
  unfold mS mA
  refine ⟨fun f a b c d e1 e2 => by rw [yw_nF d, yw_nF b, yw_nF a, yw_nF c, yw_nF e2, yw_nF e1], by simp [yw_app], fun f a b x hx => ?_⟩
  rw [yw_ni hx, yw_ni hx, yw_ni hx, yw_ni hx, yw_nF b, yw_nF a]
/-- where it lies -/
theorem hol_k (hG : TG N o e p (m 49) (m 50) (m 52)) (hMp : MSk n m o e p (p k)) (k1 : 1 ≤ k) (hkN : k < N) (h0 : m 107 (o 0) = 1 ∨ m 107 (o 0) = 2) (hpk : m 107 (o (p k)) = 1 ∨ m 107 (o (p k)) = 2 ∨ m 107 (o (p k)) = 3) : ∃ h, (0 ≤ h ∧ h < k ∧ k < e h) ∧ (m 107 (o h) = 1 ∨ m 107 (o h) = 2) ∧ (∀ a, h < a → a < k → k < e a → m 107 (o a) = 3) ∧ (∀ _ : Unit, (if m 107 (o (p k)) = 1 ∨ m 107 (o (p k)) = 2 then o (p k) else m 109 (o (p k))) = o h ∧ (if n 3 (o (p k)) 0 = 1 then o (p k) else n 3 (o (p k)) 1) = o h) ∧ ((m 107 (o (p k)) = 1 ∨ m 107 (o (p k)) = 2) → h = p k) := by
  have hp := hG.pB k1 hkN
  by_cases z : m 107 (o (p k)) = 1 ∨ m 107 (o (p k)) = 2
  · have hb := hMp.box z
    refine ⟨p k, hp, z, fun a x y w => by have := hG.pM k1 hkN x y; omega, fun _ => by rw [if_pos z, if_pos hb.2.1]; exact ⟨rfl, rfl⟩, fun _ => rfl⟩
  · have z3 : m 107 (o (p k)) = 3 := by omega
    rcases hMp with ⟨w, _⟩ | ⟨w, w2⟩
    · omega
    · have hH : HOL n m o e (p k) := by
        rcases w with ⟨w, _⟩ | w
        · rw [w] at z; exact absurd h0 z
        · exact w
      have hn3 : n 3 (o (p k)) 0 = 3 := by
        rcases w2 with g | g | g | g | g
        · have := g.1; omega
        · have := g.1; omega
        · exact g.2.1
        · have := g.1; omega
        · have := g.1; omega
      obtain ⟨h, ⟨b1, b2, b3⟩, b4, b5, b6⟩ := hH
      have hn := hG.nest (k := h) (j := p k) b1 b2 b3 (by omega)
      refine ⟨h, ⟨b1, by omega, by omega⟩, b5, fun a x y w => ?_, fun _ => by rw [if_neg z, if_neg (by omega)]; exact b4, fun w => absurd w z⟩
      rcases Int.lt_trichotomy a (p k) with c | c | c
      · exact b6 a x c (by omega)
      · rw [c]; exact z3
      · have := hG.pM k1 hkN c y; omega
theorem meas_step (hM : M1 A B N o e p k n m) (k1 : 1 ≤ k) (hkN : k < N) : ∃ n' m', N_Layout_measure (o k) n = some n' ∧ nb_Y_lay_29 (o k) m = some (.inl ((if k + 1 < N then o (k + 1) else -1), m')) ∧ M1 A B N o e p (k + 1) n' m' ∧ F1n n n' ∧ FY [107, 108, 109, 112, 113, 116, 117, 118, 119, 120, 123, 124, 125] m m' := by
  have hM0 := hM
  obtain ⟨⟨hT, hS, hJ, hK, hB, hW⟩, a1, a2, a3, a4, a5, a6, a7⟩ := hM
  have hG := hT.1.1
  have hN := hG.N1
  have hv := hG.oB (k := k) (by omega) hkN
  have hp := hG.pB k1 hkN
  have hq := hG.oB (k := p k) hp.1 (by omega)
  have hqv : o (p k) ≠ o k := fun z => by have := hG.inj (j := p k) (k := k) hp.1 (by omega) (by omega) hkN z; omega
  have hv0 : o k ≠ 0 := fun z => by
    have := hG.inj (j := 0) (k := k) (Int.le_refl _) (by omega) (by omega) hkN (by rw [hG.o0, z])
    omega
  have h49 : m 49 (o k) = o (p k) := hG.parE k1 hkN
  have h72 : n 7 (o k) 2 = o (p k) := ((hT.1.2.2.2.2.1 k (by omega) hkN).1.1).trans h49
  have hnd : ND n m (o k) := hT.2.2.2 k (by omega) hkN
  have h70 : n 7 (o k) 0 = m 46 (o k) := hnd.1.1
  have hop := hJ k k1 hkN
  have hMp := a1 (p k) hp.1 hp.2.1
  have hlq := c_look hK hp.1 (by omega) hq hop.1 (pr := 0) (by decide)
  rw [show 11 * o (p k) + 0 = 11 * o (p k) by omega] at hlq
  obtain ⟨hh, hhh⟩ : ∃ hh, hh = (if m 107 (o (p k)) = 1 ∨ m 107 (o (p k)) = 2 then o (p k) else m 109 (o (p k))) := ⟨_, rfl⟩
  have fM : ∀ f, f ≠ 109 → f ≠ 124 → f ≠ 125 → mA m k (o k) hh f = m f := fun f x y z => by unfold mA; rw [yw_nF x, yw_nF z, yw_nF y]
  have hpk : (n 3 (o (p k)) 0 = 0 ∧ m 107 (o (p k)) = 0) ∨ (n 3 (o (p k)) 0 = 1 ∧ ((m 107 (o (p k)) = 1 ∧ m 105 (11 * o (p k)) ≠ 3) ∨ (m 107 (o (p k)) = 2 ∧ m 105 (11 * o (p k)) = 3))) ∨ (n 3 (o (p k)) 0 = 2 ∧ m 107 (o (p k)) = 4) ∨ (n 3 (o (p k)) 0 = 3 ∧ m 107 (o (p k)) = 3) := by
    rcases hMp with ⟨w1, w2⟩ | ⟨_, g | g | g | g | g⟩
    · exact .inl ⟨w2, w1⟩
    · refine .inr (.inl ⟨g.2.1, ?_⟩)
      rcases g.1 with z | z
      · exact .inl ⟨z, fun w => by have := g.2.2.2.2.1.mpr w; omega⟩
      · exact .inr ⟨z, g.2.2.2.2.1.mp z⟩
    · exact .inr (.inr (.inl ⟨g.2.1, g.1⟩))
    · exact .inr (.inr (.inr ⟨g.2.1, g.1⟩))
    · exact absurd ⟨by have := g.2.2.1; omega, by have := g.2.2.1; omega⟩ hop.2
    · exact absurd g.2.2.1 hop.1
  obtain ⟨kd, md, c1, c2, c3⟩ := kind_both (v := o k) (qn := o (p k)) (n := n) (m := mA m k (o k) hh) hv hq hv0 h72 (by rw [fM 49 (by decide) (by decide) (by decide)]; exact h49) (by rw [fM 46 (by decide) (by decide) (by decide)]; exact h70) (by rw [fM 46 (by decide) (by decide) (by decide)]; exact hnd.1.2) (by
    rw [fM 46 (by decide) (by decide) (by decide), fM 105 (by decide) (by decide) (by decide)]
    intro h17
    have g := c_look hK (r := k) (by omega) hkN hv h17 (pr := 0) (by decide)
    have g2 := (hK k (by omega) hkN h17 0 (by decide) (by decide)).2.2.2.1 rfl
    rw [show 11 * o k + 0 = 11 * o k by omega] at g g2
    exact ⟨g, g2⟩) (by rw [fM 105 (by decide) (by decide) (by decide)]; exact hlq) (by rw [fM 105 (by decide) (by decide) (by decide), fM 107 (by decide) (by decide) (by decide)]; exact hpk)
  rw [fM 107 (by decide) (by decide) (by decide), fM 46 (by decide) (by decide) (by decide), fM 105 (by decide) (by decide) (by decide)] at c3
  obtain ⟨sd, hsd⟩ : ∃ sd, sd = (if (md = 1 ∨ md = 2) ∧ m 107 (o (p k)) = 1 ∧ 0 < m 105 (11 * o k + 10) then (1 : Int) else 0) := ⟨_, rfl⟩
  have hy := y_29 (m := m) (v := o k) (k := k) (hh := hh) (md := md) (sd := sd) (by omega) (by rw [h49]; exact hq) (by rw [h49]; exact hqv) a4.1 (by omega) (by rw [h49]; exact hhh) c2 (by rw [h49]; exact hsd)
  obtain ⟨f1, ⟨f2, f3, f4, f5, f6, f7⟩, f8⟩ := mS_f (m := m) (k := k) (v := o k) (hh := hh) (md := md) (sd := sd)
  have hY0 : FM1 (o k) k (n 5 0 6) m (mS m k (o k) hh md sd) := FM1.ss
  obtain ⟨m2, hm2⟩ : ∃ m2, m2 = mS m k (o k) hh md sd := ⟨_, rfl⟩
  rw [← hm2] at hy f1 f2 f3 f4 f5 f6 f7 f8 hY0
  have aft : ∀ m3 : YS, m3 49 = m 49 → m3 50 = m 50 → m3 52 = m 52 → nk_Y_lay_259 (o k) m3 = some (.inl ((if k + 1 < N then o (k + 1) else -1), m3)) := fun m3 x y z => by
    have hG' : TY m3 N o e p := by
      unfold TY
      rw [x, y, z]; exact hG
    have g := y_after hG' (t := 0) (k := k) (Int.le_refl _) (by omega) (by rw [hG.e0]; exact hkN) (by omega)
    rw [hG.o0, hG.e0] at g
    unfold nk_Y_lay_259
    rw [g]; rfl
  have hfx : m 107 (o (p k)) = 2 → md = 0 ∨ md = 1 ∨ md = 2 ∨ md = 4 := fun z => by
    rcases c3 with ⟨_, g⟩ | ⟨_, g | g | g | g | g⟩
    · omega
    · have := g.2.1; omega
    · have := g.2.1; omega
    · exact absurd z g.2.2.2
    · exact absurd z g.2.2.2
    · exact absurd z g.2.2.2
  have fin : ∀ n' m', F1n n n' → (∀ a, a ≠ o k → n' 3 a = n 3 a) → WKp n n' → BI A B n' → WL1 n' → FM1 (o k) k (n 5 0 6) m m' → m' 125 = m2 125 → m' 124 = m2 124 → (n' 5 0 6 = m' 117 0 ∧ n' 5 0 6 ≤ n 5 0 6 + 200) → m' 116 = m2 116 → m' 107 = m2 107 → MSk n' m' o e p k → (n' 3 (o k) 0 = 3 → n' 3 (o k) 2 = 0 ∧ n' 3 (o k) 3 = 0) → ((m' 107 (o k) ≠ 6 ∧ n' 5 0 6 = n 5 0 6) ∨ (m' 107 (o k) = 6 ∧ n' 5 0 6 = n 5 0 6 + n' 3 (o k) 19)) → (0 ≤ n' 3 (o k) 18 ∧ n' 3 (o k) 18 ≤ 24000) → M1 A B N o e p (k + 1) n' m' ∧ F1n n n' ∧ FY [107, 108, 109, 112, 113, 116, 117, 118, 119, 120, 123, 124, 125] m m' := fun n' m' g1 g2 g3 g4 g5 g6 g7 g8 g9 g10 g11 g12 g13 g14 g15 =>
    ⟨hM0.next (by omega) hkN g1 g2 g3 g4 g5 g6 (by rw [g7]; exact f6) (by rw [g8]; exact f7) g9 g12 (fun _ z => by rw [g11, f2]; exact hfx z) g13 (fun z => by omega) (by rw [g10, f5, a5.1]) g14 g15, g1, g6.1⟩
  have e117 : m2 117 = m 117 := f1 117 (by decide) (by decide) (by decide) (by decide) (by decide) (by decide)
  have e49 : m2 49 = m 49 := f1 49 (by decide) (by decide) (by decide) (by decide) (by decide) (by decide)
  have e50 : m2 50 = m 50 := f1 50 (by decide) (by decide) (by decide) (by decide) (by decide) (by decide)
  have e52 : m2 52 = m 52 := f1 52 (by decide) (by decide) (by decide) (by decide) (by decide) (by decide)
  have e46 : m2 46 = m 46 := f1 46 (by decide) (by decide) (by decide) (by decide) (by decide) (by decide)
  have e105 : m2 105 = m 105 := f1 105 (by decide) (by decide) (by decide) (by decide) (by decide) (by decide)
  have e112 : m2 112 = m 112 := f1 112 (by decide) (by decide) (by decide) (by decide) (by decide) (by decide)
  rcases c3 with ⟨hk0, hm0⟩ | ⟨hpv, c3⟩
  · -- it is not laid
    have hR := (F1s.refl (v := o k) hB hW).wr (s := 0) (x := kd)
    refine ⟨nw n 3 (o k) 0 kd, m2, ?_, ?_, fin _ _ hR.1 hR.2.1 hR.2.2.1 hR.2.2.2.1 hR.2.2.2.2.1 hY0 rfl rfl ⟨by rw [hR.2.2.2.2.2, e117]; exact a5.1, by rw [hR.2.2.2.2.2]; omega⟩ rfl rfl (.inl ⟨by rw [f2, hm0], by rw [nw_eq, hk0]⟩) (fun z => by rw [nw_eq] at z; omega) (.inl ⟨by rw [f2, hm0]; decide, by rw [hR.2.2.2.2.2]⟩) (by rw [nw_ns (by decide)]; exact a7.2 _ hv.1 hv.2)⟩
    · unfold N_Layout_measure st
      rw [ix_e _ hv, ix_e _ hv, c1]
      simp only [Option.bind_some]
      rw [nw_eq, if_pos hk0]
    · rw [hy, hm0]
      unfold yGo
      rw [if_neg (by decide), if_neg (by decide), if_neg (by decide)]
      exact aft m2 e49 e50 e52
  · have h0b := (a3.2 (by omega)).2
    obtain ⟨h, ⟨b1, b2, b3⟩, b4, b5, b6, b7⟩ := hol_k hG hMp k1 hkN h0b hpv
    have hbx := (a1 h b1 b2).box b4
    have hho := (b6 ()).1
    have hco := (b6 ()).2
    rw [← hhh] at hho
    have hne : o h ≠ o k := fun z => by have := hG.inj (j := h) (k := k) b1 (by omega) (by omega) hkN z; omega
    have hkd0 : kd ≠ 0 := by
      rcases c3 with g | g | g | g | g <;> (have := g.1; omega)
    -- whose style
    obtain ⟨sr, hs0, hs1, hs2, hs3⟩ : ∃ sr, (0 ≤ sr ∧ sr ≤ k) ∧ m 46 (o sr) ≠ 17 ∧ ((m 46 (o k) = 17 ∧ sr = p k) ∨ (m 46 (o k) ≠ 17 ∧ sr = k)) ∧ (m 46 (o k) ≠ 17 → sr = k) := by
      by_cases z : m 46 (o k) = 17
      · exact ⟨p k, by omega, hop.1, .inl ⟨z, rfl⟩, fun w => absurd z w⟩
      · exact ⟨k, by omega, z, .inr ⟨z, rfl⟩, fun _ => rfl⟩
    have hLs := hK sr hs0.1 (by omega) hs1
    have hsb := hG.oB (k := sr) hs0.1 (by omega)
    have hcm := c_meas (m := m) (s := o sr) hv c1 hkd0 (by
      rw [h70, h72]
      rcases hs2 with z | z
      · exact .inl ⟨z.1, by rw [z.2]⟩
      · exact .inr ⟨z.1, by rw [z.2]⟩) hsb (fun pr x y => (hLs pr x y).1) ⟨(hLs 4 (by decide) (by decide)).2.2.2.2.2.2.2.1 rfl, (hLs 5 (by decide) (by decide)).2.2.2.2.2.2.2.2.1 rfl⟩
    have hF0 := mB_f (m := m) (v := o k) (s := o sr) (kd := kd) hB hW
    obtain ⟨⟨s0, s2, s3, s13, s19⟩, _⟩ := mB_s (n := n) (m := m) (v := o k) (s := o sr) (kd := kd)
    obtain ⟨nB, hnB⟩ : ∃ nB, nB = mB n m (o k) (o sr) kd := ⟨_, rfl⟩
    rw [← hnB] at hcm hF0 s0 s2 s3 s13 s19
    have s18 : nB 3 (o k) 18 = n 3 (o k) 18 := by rw [hnB]; exact mB_18
    rw [if_neg hv0, h72, ix_e _ hq, ix_e _ hq, hF0.2.1 _ hqv] at hcm
    have hcl : N_Layout_measure (o k) n = nk_Layout_measure_212 (o k) (o k) (o k) (o h) (o k) nB := by
      rw [hcm]
      by_cases z : n 3 (o (p k)) 0 = 1
      · rw [if_pos z] at hco
        rw [if_pos z, hco]
      · rw [if_neg z] at hco
        rw [if_neg z, hco]
    have hF := hF0.wr (s := 1) (x := o h)
    obtain ⟨nb, hnb⟩ : ∃ nb, nb = nw nB 3 (o k) 1 (o h) := ⟨_, rfl⟩
    rw [← hnb] at hF
    have sl : ∀ z, z ≠ 1 → nb 3 (o k) z = nB 3 (o k) z := fun z hz => by rw [hnb, nw_ns hz]
    have sl1 : nb 3 (o k) 1 = o h := by rw [hnb, nw_eq]
    have hbv : BXf nb m2 (o k) (o sr) := hLs.bx (kd := kd) (fun z hz => by rw [sl z hz, hnB]) e105
    have e7 : nb 7 = n 7 := hF.1.1 7 (by decide)
    have hcl2 : N_Layout_measure (o k) n = if m 46 (o k) = 17 then N_Layout_listWords (o k) (5 * o k) (o k) nb else if kd = 2 then N_Layout_measurePiece (o k) (m 46 (o k)) (o k) nb else if kd = 1 then N_Layout_measureBlock (o k) (o k) nb else some nb := by
      rw [hcl]
      unfold nk_Layout_measure_212 st
      dsimp only
      rw [← hnb, e7, h70, sl 0 (by decide), s0]
      simp only [Option.bind_some, Option.bind_fun_some]
    clear hcm hcl
    have hTb : JT nb m2 N o e p := hT.f1 hB hW.1 hF.1 (fun f x y => f1 f (by omega) (by omega) (by omega) (by omega) (by omega) (by omega))
    have hSb := hS.f1 hF.1
    have hKb : LKs nb m2 N o := hK.f1 hF.1 e105 e46
    have h3h : nb 3 (o h) = n 3 (o h) := hF.2.1 _ hne
    have hbq : BXf nb m2 (o h) (o h) := hbx.2.2.2.1.cg (fun z _ => by rw [h3h]) e105
    have hq4 : nb 3 (o h) 4 = m2 112 (o h) ∧ 0 ≤ nb 3 (o h) 4 ∧ nb 3 (o h) 4 ≤ 1300000 := by
      rw [h3h, e112]; exact hbx.2.2.2.2.2.1
    have h107h : m2 107 (o h) = m 107 (o h) := f8 107 (by decide) (by decide) _ hne
    have h107p : m2 107 (o (p k)) = m 107 (o (p k)) := f8 107 (by decide) (by decide) _ hqv
    have h109 : m2 109 (o k) = o h := by rw [f4]; exact hho
    have hol : ∀ n' m', n' 3 (o k) 1 = o h → m' 109 = m2 109 → m' 107 = m2 107 → HOL n' m' o e k := fun n' m' g1 g2 g3 => by
      refine ⟨h, ⟨b1, b2, b3⟩, ⟨by rw [g2]; exact h109, g1⟩, by rw [g3, h107h]; exact b4, fun a x y z => ?_⟩
      rw [g3, f8 107 (by decide) (by decide) _ (fun w => by have := hG.inj (j := a) (k := k) (by omega) (by omega) (by omega) hkN w; omega)]
      exact b5 a x y z
    have hw0 : nb 5 0 6 = m2 117 0 ∧ nb 5 0 6 ≤ n 5 0 6 + 200 := by
      rw [hF.2.2.2.2.2, e117]; exact ⟨a5.1, by omega⟩
    rcases c3 with ⟨g1, g2, g3, g4, g5, g6⟩ | ⟨g1, g2, g3⟩ | ⟨g1, g2, g3, g4⟩ | ⟨g1, g2, g3, g4⟩ | ⟨g1, g2, g3, g4⟩
    · -- a block
      have esr := hs3 g3.1
      rw [esr] at hbv
      have eh := b7 g4
      have hsd' : m2 108 (o k) = (if m2 107 (o h) ≠ 2 ∧ 0 < m2 105 (11 * o k + 10) then 1 else 0) := by
        rw [f3, hsd, h107h, e105, eh]
        by_cases z : m 107 (o (p k)) = 1 ∧ 0 < m 105 (11 * o k + 10)
        · rw [if_pos ⟨g2, z⟩, if_pos ⟨by omega, z.2⟩]
        · rw [if_neg (fun w => z w.2), if_neg (fun w => z ⟨by have := w.1; omega, w.2⟩)]
      obtain ⟨n', W, r1, r2, r3, r4, r5, r6, r7⟩ := meas_block hTb hSb hKb hF.2.2.2.1 hF.2.2.2.2.1 (k := k) (by omega) hkN b1 (by omega) hne (by rw [e46]; exact g3.1) (by rw [e46]; exact hbx.2.2.1.1) sl1 h109 hbq hbv hq4 (by rw [h107h, e105]; exact hbx.2.2.2.2.1) (fun _ => hsd')
      rw [h107h, e105] at r7
      have hfl := (hK k (by omega) hkN g3.1 10 (by decide) (by decide)).2.2.2.2.2.2.2.2.2.2.2.2.2 rfl
      have ew : ∀ f, f ≠ 112 → yw m2 112 (o k) W f = m2 f := fun f hf => yw_nF hf
      refine ⟨n', yw m2 112 (o k) W, ?_, ?_, fin _ _ (hF.1.trans r4.1) (fun a ha => by rw [r4.2.1 a ha]; exact hF.2.1 a ha) ?_ r4.2.2.2.1 r4.2.2.2.2.1 (FM1.yy (by omega) hY0) (ew 125 (by decide)) (ew 124 (by decide)) ⟨by rw [r4.2.2.2.2.2, ew 117 (by decide)]; exact hw0.1, by rw [r4.2.2.2.2.2]; exact hw0.2⟩ (ew 116 (by decide)) (ew 107 (by decide)) (.inr ⟨.inr (hol _ _ (by rw [r6 1 (by decide) (by decide)]; exact sl1) (ew 109 (by decide)) (ew 107 (by decide))), .inl ⟨?_, ?_, ?_, ?_, ?_, ?_, ?_, ?_⟩⟩) ?_ (.inl ⟨by rw [ew 107 (by decide), f2]; omega, by rw [r4.2.2.2.2.2, hF.2.2.2.2.2]⟩) (by rw [r6 18 (by decide) (by decide), sl 18 (by decide), s18]; exact a7.2 _ hv.1 hv.2)⟩
      · rw [hcl2, if_neg g3.1, if_neg (by omega), if_pos g1]; exact r1
      · rw [hy]
        unfold yGo
        rw [if_pos g2, r2]
        simp only [Option.bind_some]
        exact aft _ (by rw [ew 49 (by decide)]; exact e49) (by rw [ew 50 (by decide)]; exact e50) (by rw [ew 52 (by decide)]; exact e52)
      · refine ⟨by rw [r4.2.2.2.2.2, hF.2.2.2.2.2]; exact Int.le_refl _, fun j x y => ?_⟩
        rw [r4.2.2.1.2 j x (by rw [hF.2.2.2.2.2]; exact y), hF.2.2.1.2 j x y]
      · rw [ew 107 (by decide), f2]; exact g2
      · rw [r6 0 (by decide) (by decide), sl 0 (by decide), s0, g1]
      · rw [ew 46 (by decide), e46]; exact ⟨g3.1, fun _ => g3.2⟩
      · exact hbv.cg (fun z hz => r6 z (by omega) (by omega)) (ew 105 (by decide))
      · rw [ew 107 (by decide), f2, ew 105 (by decide), e105]; exact g5
      · rw [r5, yw_eq]; exact ⟨rfl, r3⟩
      · refine ⟨fun z => by omega, fun _ => ⟨by rw [ew 107 (by decide), h107p]; exact g4, ?_, fun z => ?_⟩⟩
        · rw [ew 107 (by decide), h107p, ew 108 (by decide), f3, ew 105 (by decide), e105, r7, eh, hsd]
          by_cases z : m 107 (o (p k)) = 1 ∧ 0 < m 105 (11 * o k + 10)
          · rw [if_pos ⟨g2, z⟩, if_neg (by omega)]
            exact .inr ⟨rfl, z.1, rfl, by omega⟩
          · rw [if_neg (fun w => z w.2)]
            refine .inl ⟨rfl, ?_⟩
            by_cases z2 : m 107 (o (p k)) = 2
            · rw [if_pos z2]
            · rw [if_neg z2]
              by_cases z3 : 0 < m 105 (11 * o k + 10)
              · exact absurd ⟨by omega, z3⟩ z
              · omega
        · rw [ew 107 (by decide), h107p] at z
          rw [ew 105 (by decide), e105]; exact g6 z
      · rw [r6 19 (by decide) (by decide), sl 19 (by decide), s19]
      · rw [r6 0 (by decide) (by decide), sl 0 (by decide), s0]; omega
    · -- a piece
      have h17 : m 46 (o k) ≠ 17 := by omega
      have esr := hs3 h17
      rw [esr] at hbv
      obtain ⟨n', W, H, r1, r2, r3, r3', r4, r5, r5', r6⟩ := meas_piece hTb hSb hKb hF.2.2.2.1 hF.2.2.2.2.1 (k := k) (by omega) hkN b1 (by omega) hne (by rw [e46]; exact g3) (by rw [e46]; exact hbx.2.2.1.1) sl1 h109 hbq hbv hq4
      rw [e46] at r1
      have ew : ∀ f, f ≠ 112 → f ≠ 113 → yw (yw m2 112 (o k) W) 113 (o k) H f = m2 f := fun f hf hf' => by rw [yw_nF hf', yw_nF hf]
      refine ⟨n', yw (yw m2 112 (o k) W) 113 (o k) H, ?_, ?_, fin _ _ (hF.1.trans r4.1) (fun a ha => by rw [r4.2.1 a ha]; exact hF.2.1 a ha) ?_ r4.2.2.2.1 r4.2.2.2.2.1 (FM1.yy (by omega) (FM1.yy (by omega) hY0)) (ew 125 (by decide) (by decide)) (ew 124 (by decide) (by decide)) ⟨by rw [r4.2.2.2.2.2, ew 117 (by decide) (by decide)]; exact hw0.1, by rw [r4.2.2.2.2.2]; exact hw0.2⟩ (ew 116 (by decide) (by decide)) (ew 107 (by decide) (by decide)) (.inr ⟨.inr (hol _ _ (by rw [r6 1 (by decide) (by decide)]; exact sl1) (ew 109 (by decide) (by decide)) (ew 107 (by decide) (by decide))), .inr (.inl ⟨?_, ?_, ?_, ?_, ?_, ?_, ?_⟩)⟩) ?_ (.inl ⟨by rw [ew 107 (by decide) (by decide), f2, g2]; decide, by rw [r4.2.2.2.2.2, hF.2.2.2.2.2]⟩) (by rw [r6 18 (by decide) (by decide), sl 18 (by decide), s18]; exact a7.2 _ hv.1 hv.2)⟩
      · rw [hcl2, if_neg h17, if_pos g1]; exact r1
      · rw [hy]
        unfold yGo
        rw [if_neg (by omega), if_pos g2, r2]
        simp only [Option.bind_some]
        exact aft _ (by rw [ew 49 (by decide) (by decide)]; exact e49) (by rw [ew 50 (by decide) (by decide)]; exact e50) (by rw [ew 52 (by decide) (by decide)]; exact e52)
      · refine ⟨by rw [r4.2.2.2.2.2, hF.2.2.2.2.2]; exact Int.le_refl _, fun j x y => ?_⟩
        rw [r4.2.2.1.2 j x (by rw [hF.2.2.2.2.2]; exact y), hF.2.2.1.2 j x y]
      · rw [ew 107 (by decide) (by decide), f2]; exact g2
      · rw [r6 0 (by decide) (by decide), sl 0 (by decide), s0, g1]
      · rw [ew 46 (by decide) (by decide), e46]; exact g3
      · exact hbv.cg (fun z hz => r6 z (by omega) (by omega)) (ew 105 (by decide) (by decide))
      · rw [r5, yw_nF (by decide), yw_eq]; exact ⟨rfl, r3⟩
      · rw [r5', yw_eq]; exact ⟨rfl, r3'⟩
      · rw [r6 19 (by decide) (by decide), sl 19 (by decide), s19]
      · rw [r6 0 (by decide) (by decide), sl 0 (by decide), s0]; omega
    · -- in the lines
      refine ⟨nb, m2, ?_, ?_, fin _ _ hF.1 hF.2.1 hF.2.2.1 hF.2.2.2.1 hF.2.2.2.2.1 hY0 rfl rfl hw0 rfl rfl (.inr ⟨.inr (hol _ _ sl1 rfl rfl), .inr (.inr (.inl ⟨by rw [f2]; exact g2, by rw [sl 0 (by decide), s0]; exact g1, by rw [e46]; exact g3, by rw [sl 19 (by decide), s19]⟩))⟩) (fun _ => by rw [sl 2 (by decide), sl 3 (by decide)]; exact ⟨s2, s3⟩) (.inl ⟨by rw [f2, g2]; decide, by rw [hF.2.2.2.2.2]⟩) (by rw [sl 18 (by decide), s18]; exact a7.2 _ hv.1 hv.2)⟩
      · rw [hcl2, if_neg g3.1, if_neg (by omega), if_neg (by omega)]
      · rw [hy, g2]
        unfold yGo
        rw [if_neg (by decide), if_neg (by decide), if_neg (by decide)]
        exact aft m2 e49 e50 e52
    · -- a break
      have esr := hs3 (by omega)
      rw [esr] at hbv
      refine ⟨nb, m2, ?_, ?_, fin _ _ hF.1 hF.2.1 hF.2.2.1 hF.2.2.2.1 hF.2.2.2.2.1 hY0 rfl rfl hw0 rfl rfl (.inr ⟨.inr (hol _ _ sl1 rfl rfl), .inr (.inr (.inr (.inl ⟨by rw [f2]; exact g2, by rw [sl 0 (by decide), s0]; exact g1, by rw [e46]; exact g3, hbv, by rw [sl 19 (by decide), s19]⟩)))⟩) (fun _ => by rw [sl 2 (by decide), sl 3 (by decide)]; exact ⟨s2, s3⟩) (.inl ⟨by rw [f2, g2]; decide, by rw [hF.2.2.2.2.2]⟩) (by rw [sl 18 (by decide), s18]; exact a7.2 _ hv.1 hv.2)⟩
      · rw [hcl2, if_neg (by omega), if_neg (by omega), if_neg (by omega)]
      · rw [hy, g2]
        unfold yGo
        rw [if_neg (by decide), if_neg (by decide), if_neg (by decide)]
        exact aft m2 e49 e50 e52
    · -- a TEXT
      have esr : sr = p k := by omega
      have e49k : m2 49 (o k) = o sr := by rw [e49, h49, esr]
      have hd2 : ND nb m2 (o k) := hTb.2.2.2 k (by omega) hkN
      obtain ⟨n', m', r1, r2, r3, r4, r5, r6, r7, r8, r9, r10, r11⟩ := meas_text (q := o h) (fw := n 5 0 6) hF.2.2.2.1 hF.2.2.2.2.1 hd2 hv (by rw [e46]; exact g3) sl1 h109 (by rw [e49k]; exact ⟨hbv.2.1.2.2.1, hbv.2.2.2.2.2.1.1, hbv.2.2.2.2.2.1.2, hsb⟩) ⟨by rw [hF.2.2.2.2.2], by rw [e117, a5.1], by rw [f5, a5.1]⟩ (by omega)
      have ew : ∀ f, f ∉ [117, 118, 119, 120, 123] → m' f = m2 f := r11.1
      refine ⟨n', m', ?_, ?_, fin _ _ (hF.1.trans r4) (fun a ha => by rw [r5 a ha]; exact hF.2.1 a ha) ?_ r8 r9 (FM1.ff hY0 r11) (ew 125 (by decide)) (ew 124 (by decide)) ⟨r10.1, by rw [hF.2.2.2.2.2] at r10; exact r10.2.1⟩ (ew 116 (by decide)) (ew 107 (by decide)) (.inr ⟨.inr (hol _ _ (by rw [r6 1 (by decide) (by decide)]; exact sl1) (ew 109 (by decide)) (ew 107 (by decide))), .inr (.inr (.inr (.inr ⟨?_, ?_, ?_, ?_, ?_⟩)))⟩) ?_ (.inr ⟨by rw [ew 107 (by decide), f2]; exact g2, by rw [hF.2.2.2.2.2] at r10; exact r10.2.2⟩) (by have := r3.2.2.1; have := r9.1.2.2.1; omega)⟩
      · rw [hcl2, if_pos g3]; exact r1
      · rw [hy]
        unfold yGo
        rw [if_neg (by omega), if_neg (by omega), if_pos g2, r2]
        simp only [Option.bind_some]
        exact aft _ (by rw [ew 49 (by decide)]; exact e49) (by rw [ew 50 (by decide)]; exact e50) (by rw [ew 52 (by decide)]; exact e52)
      · have q1 := r7.1
        have q2 : nb 5 = n 5 := hF.2.2.2.2.2
        rw [q2] at q1
        refine ⟨q1, fun j x y => ?_⟩
        rw [r7.2 j x (by rw [q2]; exact y), hF.2.2.1.2 j x y]
      · rw [ew 107 (by decide), f2]; exact g2
      · rw [r6 0 (by decide) (by decide), sl 0 (by decide), s0]; exact g1
      · rw [ew 46 (by decide), e46]; exact g3
      · rw [ew 49 (by decide), e49k]
        exact hbv.cg (fun z hz => r6 z (by omega) (by omega)) (ew 105 (by decide))
      · rw [ew 109 (by decide), h109]; exact r3
      · rw [r6 2 (by decide) (by decide), r6 3 (by decide) (by decide), sl 2 (by decide), sl 3 (by decide)]; exact fun _ => ⟨s2, s3⟩
end YA
