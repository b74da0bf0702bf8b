/-! A TURN: the next step, or none -/
section N9
variable {n n' n'' : NS} {m m' m'' : YS} {A B N N' k v b a δ δ' G G' fr to d L r r' q c x f : Int} {o e p o' e' p' : Int → Int} {As Bs W S : Int → Prop} {κ κ' : Int → Int}
theorem nw_cm {K K' : Nat} {i s u i' s' u' : Int} (h : ¬ (K = K' ∧ i = i' ∧ s = s')) : nw (nw n K i s u) K' i' s' u' = nw (nw n K' i' s' u') K i s u := by
  funext a b c
  rw [nw_app, nw_app, nw_app, nw_app]
  by_cases z : a = K' ∧ b = i' ∧ c = s'
  · rw [if_pos z]
    by_cases z2 : a = K ∧ b = i ∧ c = s
    · exact absurd ⟨z2.1.symm.trans z.1, z2.2.1.symm.trans z.2.1, z2.2.2.symm.trans z.2.2⟩ h
    · rw [if_neg z2, if_pos z]
  · rw [if_neg z]
    by_cases z2 : a = K ∧ b = i ∧ c = s
    · rw [if_pos z2, if_pos z2]
    · rw [if_neg z2, if_neg z2, if_neg z]
theorem AR.ks (h : AR n m a r) (h99 : n' 99 = n 99) : AR n' m a r := by
  unfold AR CA at *
  rw [h99]; exact h
theorem CWY.cg (h : CWY n m N o) (hm : ∀ f, f = 55 ∨ f = 56 ∨ f = 57 ∨ f = 58 → m' f = m f) : CWY n m' N o := by
  unfold CWY cnO hsO fnd anL at *
  rw [hm 55 (by omega), hm 56 (by omega), hm 57 (by omega), hm 58 (by omega)]; exact h
theorem turn (h : RUN As Bs A B G n m) (hG : G < 400000000) (h154 : m 154 0 = 0) (hv : n 0 0 12 = v ∧ 0 ≤ v ∧ v < m 160 0) (hc : 0 ≤ c ∧ c + 2 < 1000000) :
    ∃ c' n' m' v', NL_Acts_settle_2 c n = NL_Acts_settle_2 c' n' ∧ nb_Y_runScript_2 v m = some (.inl (v', m')) ∧ (c < c' ∧ c' ≤ c + 2) ∧ (v < v' ∧ v' ≤ m 160 0 + 1) ∧ FC n n' m m' ∧ ((m' = m ∧ c' = c + 1) ∨ m' 158 0 = m 158 0 + 1)
      ∧ ((RUN As Bs A B (G + 2300 * (m' 158 0 - m 158 0)) n' m' ∧ n' 0 0 12 = v' ∧ m' 160 0 = m 160 0 ∧ SQ n n' m m' ∧ FP m m')
        ∨ (WEN As Bs A B (G + 2300 * (m' 158 0 - m 158 0)) n' m' ∧ m' 158 0 = m 158 0 + 1)) := by
  obtain ⟨hA, hR, hb, ⟨h17, h16⟩, h163, h152, h153⟩ := h
  have hB := hA.bi
  have r1 := hR.1
  have hx : v ≤ smA m v ∧ smA m v ≤ m 160 0 := by unfold smA; exact ⟨scx_ge _ _, scx_le (by omega)⟩
  have es := c_semi hR (v := v) ⟨hv.2.1, by omega⟩ hB
  have ey := y_semi (m := m) (v := v) ⟨hv.2.1, by omega⟩ r1.2.2
  generalize hX : smA m v = x at *
  have b158 : 0 ≤ m 158 0 ∧ m 158 0 < 200 := by
    have := hb.2.1
    rcases hb.2.2 with y | y <;> omega
  have h9 := hb.1
  have eT : ∀ n', N_Acts_runNext n = some n' → NL_Acts_settle_2 c n = NL_Acts_settle_2 (c + 1) n' := fun n' e => by
    have e1 : nb_Acts_settle_2 c n = some (.inl (c + 1, n')) := by
      unfold nb_Acts_settle_2
      rw [if_pos (by omega), if_pos h16, if_pos h17, if_neg (by omega), if_pos (by rw [hv.1, r1.1]; exact hv.2.2), e]
      simp only [Option.bind_some]
      unfold ck
      rw [if_pos (by omega)]
    unfold NL_Acts_settle_2
    exact it_inl (f := fun s : Int × NS => nb_Acts_settle_2 s.1 s.2) e1
  generalize hn3 : nw n 0 0 12 (x + 1) = n3
  have k3 : ∀ K, K ≠ 0 → n3 K = n K := fun K hK => by rw [← hn3, nw_nK hK]
  have s3 : ∀ s, s ≠ 12 → n3 0 0 s = n 0 0 s := fun s hs => by rw [← hn3, nw_ns hs]
  have hR3 : JRn n3 m := hR.cg (fun K hK => k3 K (by omega)) (s3 13 (by decide)) (fun _ _ => rfl)
  have hA3 : JA As Bs A B 0 G n3 m := hA.cg (fun K a _ _ => k3 K a) (fun s hs => s3 s (by omega)) (fun s _ => by rw [k3 6 (by decide)]) (fun _ _ => rfl)
  have hB3 := hA3.bi
  have hfb : v ≤ sc (fun j => isBl (m 159 j)) v x ∧ sc (fun j => isBl (m 159 j)) v x ≤ x := ⟨scx_ge _ _, scx_le hx.1⟩
  have ek := c_skip hR3 (v := v) (x := x) ⟨hv.2.1, hx.1, hx.2⟩ hB3
  have el := y_skip (m := m) (v := v) (x := x) ⟨hv.2.1, hx.1, hx.2⟩ r1.2.2
  generalize hF : sc (fun j => isBl (m 159 j)) v x = f at *
  have eC : N_Acts_runNext n = nk_Acts_runNext_74 f x n3 := by
    unfold N_Acts_runNext
    rw [hv.1, es]
    simp only [Option.bind_some]
    unfold nk_Acts_runNext_41 ck st
    dsimp only
    rw [if_pos (by omega), hn3, ek]; rfl
  have eY : nb_Y_runScript_2 v m = nk_Y_runScript_76 x f m := by
    unfold nb_Y_runScript_2
    rw [if_neg (by omega), if_pos h152, if_pos h154, ey]
    simp only [Option.bind_some]
    unfold nk_Y_runScript_51
    rw [el]; rfl
  have e105 : ∀ m', nk_Y_runScript_105 x m' = some (.inl (x + 1, m')) := fun m' => by
    unfold nk_Y_runScript_105 ck
    rw [if_pos (by omega)]
  by_cases hfx : f = x
  · refine ⟨c + 1, n3, m, x + 1, eT n3 (by rw [eC]; unfold nk_Acts_runNext_74; rw [if_pos hfx]), ?_, by omega, by omega, FC.k0 (fun K a _ _ => k3 K a) (fun s hs => s3 s (fun w => hs (by rw [w]; decide))) (fun _ _ _ => rfl) (fun _ _ => rfl) (.inr rfl), .inl ⟨rfl, rfl⟩, .inl ⟨⟨?_, hR3, ?_, ⟨?_, ?_⟩, h163, h152, h153⟩, ?_, rfl, SQ.cg (fun s hs => s3 s (by omega)) (k3 46 (by decide)) (fun _ _ => rfl), FP.refl m⟩⟩
    · rw [eY]
      unfold nk_Y_runScript_76
      rw [if_neg (by omega)]; exact e105 m
    · rw [show G + 2300 * (m 158 0 - m 158 0) = G by omega]; exact hA3
    · unfold BUD at *
      rw [s3 9 (by decide)]; exact hb
    · rw [s3 17 (by decide)]; exact h17
    · rw [k3 6 (by decide)]; exact h16
    · rw [← hn3, nw_eq]
  · have hlt : f < x := by omega
    generalize hn1 : nw n3 0 0 9 (n 0 0 9 - 1) = n1
    have k1 : ∀ K, K ≠ 0 → n1 K = n K := fun K hK => by rw [← hn1, nw_nK hK]; exact k3 K hK
    have s1 : ∀ s, s ≠ 9 → s ≠ 12 → n1 0 0 s = n 0 0 s := fun s hs h2 => by rw [← hn1, nw_ns hs]; exact s3 s h2
    have s12 : n1 0 0 12 = x + 1 := by rw [← hn1, nw_ns (by decide), ← hn3, nw_eq]
    generalize hm1 : yw m 158 0 (m 158 0 + 1) = m1
    have y1 : ∀ g, g ≠ 158 → m1 g = m g := fun g hg => by rw [← hm1, yw_nF hg]
    have y158 : m1 158 0 = m 158 0 + 1 := by rw [← hm1, yw_eq]
    have s9 : n1 0 0 9 = 200 - m1 158 0 := by rw [← hn1, nw_eq, y158]; omega
    have eC2 : nk_Acts_runNext_74 f x n3 = (N_Acts_runStep (n1 4 609 1) f x n1).bind (u2 fun z12 n15 => if z12 = 0 then (ck ((n15 0 0 8) + 1) <| st (nw n15 0 0 8 ((n15 0 0 8) + 1)) fun n22 => some n22) else (ck ((n15 0 0 7) + 1) <| st (nw n15 0 0 7 ((n15 0 0 7) + 1)) fun n29 => some n29)) := by
      unfold nk_Acts_runNext_74
      rw [if_neg hfx, s3 9 (by decide)]
      have hnn : 0 ≤ n1 4 609 1 := (JRn.row (by exact (hA3.cg (n' := n1) (m' := m) (fun K a _ _ => by rw [k1 K a, k3 K a]) (fun s hs => by rw [s1 s (by omega) (by omega), s3 s (by omega)]) (fun s _ => by rw [k1 6 (by decide), k3 6 (by decide)]) (fun _ _ => rfl)).bi)).1.1
      unfold ck
      rw [if_pos (by omega)]
      show nn (nw n3 0 0 9 (n 0 0 9 - 1) 4 609 1) _ = _
      rw [hn1]
      unfold nn
      rw [if_pos hnn]
    have eY2 : nk_Y_runScript_76 x f m = ((N_Y_step f x m1).bind (u2 fun z8 m11 => if z8 = 0 then (ck ((m11 156 0) + 1) <| st (yw m11 156 0 ((m11 156 0) + 1)) fun m18 => nk_Y_oneStep_42 m18) else (ck ((m11 155 0) + 1) <| st (yw m11 155 0 ((m11 155 0) + 1)) fun m24 => nk_Y_oneStep_42 m24))).bind (fun m9 => nk_Y_runScript_105 x m9) := by
      unfold nk_Y_runScript_76
      rw [if_pos hlt, if_neg (by omega)]
      unfold N_Y_oneStep
      unfold ck
      rw [if_pos (by omega)]
      show ((N_Y_step f x (yw m 158 0 (m 158 0 + 1))).bind _).bind _ = _
      rw [hm1]
    have hA1 : JA As Bs A B 0 G n1 m1 := hA.cg (fun K a _ _ => k1 K a) (fun s hs => s1 s (by omega) (by omega)) (fun s _ => by rw [k1 6 (by decide)]) (fun g hg => y1 g (fun w => hg (by rw [w]; decide)))
    have hR1 : JRn n1 m1 := hR.cg (fun K hK => k1 K (by omega)) (s1 13 (by decide) (by decide)) (fun g hg => y1 g (by omega))
    have fc1 : FC n n1 m m1 := FC.k0 (fun K a _ _ => k1 K a) (fun s hs => s1 s (fun w => hs (by rw [w]; decide)) (fun w => hs (by rw [w]; decide))) (fun g a _ => y1 g (by omega)) (fun g a => y1 g (by omega)) (.inr (by rw [y1 126 (by decide)]))
    have sq1 : SQ n n1 m m1 := SQ.cg (fun s hs => s1 s (by omega) (by omega)) (k1 46 (by decide)) (fun g hg => y1 g (by omega))
    have fp1 : FP m m1 := FP.of (fun g a b => y1 g (by omega))
    have h17' : n1 0 0 17 = -1 := by rw [s1 17 (by decide) (by decide)]; exact h17
    have h16' : n1 6 0 16 = 0 := by rw [k1 6 (by decide)]; exact h16
    have done : ∀ c' n4 m4, NL_Acts_settle_2 c n = NL_Acts_settle_2 c' n4 → nb_Y_runScript_2 v m = some (.inl (x + 1, m4)) → (c < c' ∧ c' ≤ c + 2) → JA As Bs A B 0 (G + 2300) n4 m4 → BUD n4 m4 → JRn n4 m4 → FC n n4 m m4 → SQ n n4 m m4 → FP m m4 → (n4 0 0 17 = -1 ∧ n4 6 0 16 = 0 ∧ n4 0 0 12 = x + 1) → (m4 158 0 = m 158 0 + 1 ∧ m4 160 0 = m 160 0 ∧ m4 152 0 = 0 ∧ m4 153 0 = 0 ∧ (m4 163 0 = 0 ∨ m4 163 0 = 1)) →
        ∃ c' n' m' v', NL_Acts_settle_2 c n = NL_Acts_settle_2 c' n' ∧ nb_Y_runScript_2 v m = some (.inl (v', m')) ∧ (c < c' ∧ c' ≤ c + 2) ∧ (v < v' ∧ v' ≤ m 160 0 + 1) ∧ FC n n' m m' ∧ ((m' = m ∧ c' = c + 1) ∨ m' 158 0 = m 158 0 + 1)
          ∧ ((RUN As Bs A B (G + 2300 * (m' 158 0 - m 158 0)) n' m' ∧ n' 0 0 12 = v' ∧ m' 160 0 = m 160 0 ∧ SQ n n' m m' ∧ FP m m')
            ∨ (WEN As Bs A B (G + 2300 * (m' 158 0 - m 158 0)) n' m' ∧ m' 158 0 = m 158 0 + 1)) := fun c' n4 m4 t1 t2 t3 t4 t5 t6 t7 t8 t9 t10 t11 => by
      refine ⟨c', n4, m4, x + 1, t1, t2, t3, by omega, t7, .inr t11.1, .inl ⟨⟨?_, t6, t5, ⟨t10.1, t10.2.1⟩, t11.2.2.2.2, t11.2.2.1, t11.2.2.2.1⟩, t10.2.2, t11.2.1, t8, t9⟩⟩
      rw [t11.1, show G + 2300 * (m 158 0 + 1 - m 158 0) = G + 2300 by omega]; exact t4
    -- a step that is no WRONG one
    have one : ∀ n2 m2, N_Acts_runStep (n1 4 609 1) f x n1 = some (1, n2) → N_Y_step f x m1 = some (1, m2) → JA As Bs A B 0 (G + 16) n2 m2 → JRn n2 m2 → FC n1 n2 m1 m2 → SQ n1 n2 m1 m2 → FP m1 m2 → (n2 0 0 9 = n1 0 0 9 ∧ n2 0 0 12 = x + 1 ∧ n2 0 0 17 = -1 ∧ n2 6 0 16 = 0) → (∀ g, g = 152 ∨ g = 153 ∨ g = 154 ∨ g = 158 ∨ g = 160 → m2 g = m1 g) → (m2 163 0 = 0 ∨ m2 163 0 = 1) →
        ∃ c' n' m' v', NL_Acts_settle_2 c n = NL_Acts_settle_2 c' n' ∧ nb_Y_runScript_2 v m = some (.inl (v', m')) ∧ (c < c' ∧ c' ≤ c + 2) ∧ (v < v' ∧ v' ≤ m 160 0 + 1) ∧ FC n n' m m' ∧ ((m' = m ∧ c' = c + 1) ∨ m' 158 0 = m 158 0 + 1)
          ∧ ((RUN As Bs A B (G + 2300 * (m' 158 0 - m 158 0)) n' m' ∧ n' 0 0 12 = v' ∧ m' 160 0 = m 160 0 ∧ SQ n n' m m' ∧ FP m m')
            ∨ (WEN As Bs A B (G + 2300 * (m' 158 0 - m 158 0)) n' m' ∧ m' 158 0 = m 158 0 + 1)) := fun n2 m2 t1 t2 t3 t4 t5 t6 t7 t8 t9 t10 => by
      obtain ⟨e7, j7⟩ := t3.cnt (by omega) rfl
      generalize hn4 : nw n2 0 0 7 (n2 0 0 7 + 1) = n4 at *
      have k4 : ∀ K, K ≠ 0 → n4 K = n2 K := fun K hK => by rw [← hn4, nw_nK hK]
      have s4 : ∀ s, s ≠ 7 → n4 0 0 s = n2 0 0 s := fun s hs => by rw [← hn4, nw_ns hs]
      obtain ⟨m4, e4, j4, b4, f4⟩ := fin1 j7 (by omega) ⟨by rw [s4 9 (by decide), t8.1, s9, t9 158 (by omega)], by rw [t9 158 (by omega)]; omega, by rw [t9 158 (by omega)]; omega, by rw [t9 154 (by omega), y1 154 (by decide)]; exact h154⟩
      have g4 : ∀ g, g ≠ 154 → g ≠ 155 → m4 g = m2 g := fun g u w => f4 g (by simp only [List.mem_cons, List.not_mem_nil, or_false, not_or]; exact ⟨u, w⟩)
      refine done (c + 1) n4 m4 (eT n4 ?_) ?_ (by omega) (j4.mono (by omega)) b4 (t4.cg (fun K hK => k4 K (by omega)) (s4 13 (by decide)) (fun g hg => g4 g (by omega) (by omega))) ((fc1.trans t5).trans (FC.k0 (fun K a _ _ => k4 K a) (fun s hs => s4 s (fun w => hs (by rw [w]; decide))) (fun g a _ => g4 g (by omega) (by omega)) (fun g a => g4 g (by omega) (by omega)) (.inr (by rw [g4 126 (by decide) (by decide)])))) ((sq1.trans t6).trans (SQ.cg (fun s hs => s4 s (by omega)) (k4 46 (by decide)) (fun g hg => g4 g (by omega) (by omega)))) ((fp1.trans t7).trans (FP.of (fun g a b => g4 g (by omega) (by omega)))) ⟨by rw [s4 17 (by decide)]; exact t8.2.2.1, by rw [k4 6 (by decide)]; exact t8.2.2.2, by rw [s4 12 (by decide)]; exact t8.2.1⟩ ⟨by rw [g4 158 (by decide) (by decide), t9 158 (by omega), y158], by rw [g4 160 (by decide) (by decide), t9 160 (by omega), y1 160 (by decide)], by rw [g4 152 (by decide) (by decide), t9 152 (by omega), y1 152 (by decide)]; exact h152, by rw [g4 153 (by decide) (by decide), t9 153 (by omega), y1 153 (by decide)]; exact h153, by rw [g4 163 (by decide) (by decide)]; exact t10⟩
      · rw [eC, eC2, t1]
        simp only [Option.bind_some, u2]
        rw [if_neg (by decide), hn4]; exact e7
      · rw [eY, eY2, t2]
        simp only [Option.bind_some, u2]
        rw [if_neg (by decide), e4]
        exact e105 m4
    have m160 : m1 160 0 = m 160 0 := by rw [y1 160 (by decide)]
    have hst := step_both hA1 (by omega) hR1 h17' (fr := f) (to := x) ⟨by omega, hlt, by omega⟩ (by rw [y1 163 (by decide)]; exact h163)
    rcases hst with (⟨r, n2, m2, x1, x2, x3, x4, x5⟩ | ⟨w, na, ma, x1, x2, x3, x4, x5, x6⟩ | ⟨na, ma, x1, x2, x3, x4, x5⟩) | ⟨x1, x2⟩
    · have hR2 := hR1.fa x4.bi x5
      have fs : ∀ s, s = 9 ∨ s = 12 ∨ s = 17 → n2 0 0 s = n1 0 0 s := fun s hs => x5.1.2.2.1 s (by simp only [List.mem_cons, List.not_mem_nil, or_false, not_or]; omega)
      have fy : ∀ g, g = 152 ∨ g = 153 ∨ g = 154 ∨ g = 158 ∨ g = 160 ∨ g = 163 → m2 g = m1 g := fun g hg => x5.2.1 g (by omega)
      have c163 : m2 163 0 = 0 ∨ m2 163 0 = 1 := by rw [fy 163 (by omega), y1 163 (by decide)]; exact h163
      have c16 : n2 6 0 16 = 0 := by rw [x5.1.2.2.2]; exact h16'
      rcases x3 with hr | hr
      · subst hr
        obtain ⟨n4, m4, q1, q2, q3, j4, b4, f4⟩ := fin0 x4 (by omega) ⟨by rw [fs 9 (by omega), s9, fy 158 (by omega)], by rw [fy 158 (by omega)]; omega, by rw [fy 158 (by omega)]; omega, by rw [fy 154 (by omega), y1 154 (by decide)]; exact h154⟩
        have k4 : ∀ K, K ≠ 0 → n4 K = n2 K := fun K hK => by rw [q2, nw_nK hK]
        have s4 : ∀ s, s ≠ 8 → n4 0 0 s = n2 0 0 s := fun s hs => by rw [q2, nw_ns hs]
        have g4 : ∀ g, g ≠ 154 → g ≠ 156 → m4 g = m2 g := fun g u w => f4 g (by simp only [List.mem_cons, List.not_mem_nil, or_false, not_or]; exact ⟨u, w⟩)
        refine done (c + 1) n4 m4 (eT n4 ?_) ?_ (by omega) (j4.mono (by omega)) b4 (hR2.cg (fun K hK => k4 K (by omega)) (s4 13 (by decide)) (fun g hg => g4 g (by omega) (by omega))) ((fc1.trans x5.fc).trans (FC.k0 (fun K a _ _ => k4 K a) (fun s hs => s4 s (fun w => hs (by rw [w]; decide))) (fun g a _ => g4 g (by omega) (by omega)) (fun g a => g4 g (by omega) (by omega)) (.inr (by rw [g4 126 (by decide) (by decide)])))) ((sq1.trans x5.sq).trans (SQ.cg (fun s hs => s4 s (by omega)) (k4 46 (by decide)) (fun g hg => g4 g (by omega) (by omega)))) ((fp1.trans x5.fp).trans (FP.of (fun g a b => g4 g (by omega) (by omega)))) ⟨by rw [s4 17 (by decide), fs 17 (by omega)]; exact h17', by rw [k4 6 (by decide)]; exact c16, by rw [s4 12 (by decide), fs 12 (by omega)]; exact s12⟩ ⟨by rw [g4 158 (by decide) (by decide), fy 158 (by omega), y158], by rw [g4 160 (by decide) (by decide), fy 160 (by omega), y1 160 (by decide)], by rw [g4 152 (by decide) (by decide), fy 152 (by omega), y1 152 (by decide)]; exact h152, by rw [g4 153 (by decide) (by decide), fy 153 (by omega), y1 153 (by decide)]; exact h153, by rw [g4 163 (by decide) (by decide)]; exact c163⟩
        · rw [eC, eC2, x1]
          simp only [Option.bind_some, u2]
          rw [if_pos trivial]; exact q1
        · rw [eY, eY2, x2]
          simp only [Option.bind_some, u2]
          rw [if_pos trivial, q3]
          exact e105 m4
      · subst hr
        exact one n2 m2 x1 x2 (x4.mono (by omega)) hR2 x5.fc x5.sq x5.fp ⟨fs 9 (by omega), by rw [fs 12 (by omega)]; exact s12, by rw [fs 17 (by omega)]; exact h17', c16⟩ (fun g hg => fy g (by omega)) c163
    · -- a get
      have fs : ∀ s, s = 9 ∨ s = 12 ∨ s = 17 → na 0 0 s = n1 0 0 s := fun s hs => x4.1.2.2.1 s (by simp only [List.mem_cons, List.not_mem_nil, or_false, not_or]; omega)
      have fy : ∀ g, g = 152 ∨ g = 153 ∨ g = 154 ∨ g = 158 ∨ g = 160 ∨ g = 163 → ma g = m1 g := fun g hg => x4.2.1 g (by omega)
      have hRa := hR1.fa x3.bi x4
      obtain ⟨e7, j7⟩ := x3.cnt (by omega) rfl
      generalize hnb : nw na 0 0 7 (na 0 0 7 + 1) = nb at *
      have kb : ∀ K, K ≠ 0 → nb K = na K := fun K hK => by rw [← hnb, nw_nK hK]
      have sb : ∀ s, s ≠ 7 → nb 0 0 s = na 0 0 s := fun s hs => by rw [← hnb, nw_ns hs]
      obtain ⟨N1, o1, e1, p1, k9, hT9, k0, k1', hk9⟩ := j7.at x6.1 x6.2.1
      obtain ⟨n5, m5, z1, z2, z3, z4⟩ := get_both j7 (by omega) (x5.ks (kb 99 (by decide))) hT9 k0 k1' hk9 x6.2.2.1 x6.2.2.2.1 x6.2.2.2.2 (by rw [sb 17 (by decide), fs 17 (by omega)]; exact h17')
      have fs5 : ∀ s, s = 9 ∨ s = 12 ∨ s = 17 → n5 0 0 s = nb 0 0 s := fun s hs => z4.1.2.2.1 s (by simp only [List.mem_cons, List.not_mem_nil, or_false, not_or]; omega)
      have fy5 : ∀ g, g = 152 ∨ g = 153 ∨ g = 154 ∨ g = 158 ∨ g = 160 ∨ g = 163 → m5 g = ma g := fun g hg => z4.2.1 g (by omega)
      obtain ⟨m4, e4, j4, b4, f4⟩ := fin1 z3 (by omega) ⟨by rw [fs5 9 (by omega), sb 9 (by decide), fs 9 (by omega), s9, fy5 158 (by omega), fy 158 (by omega)], by rw [fy5 158 (by omega), fy 158 (by omega)]; omega, by rw [fy5 158 (by omega), fy 158 (by omega)]; omega, by rw [fy5 154 (by omega), fy 154 (by omega), y1 154 (by decide)]; exact h154⟩
      have g4 : ∀ g, g ≠ 154 → g ≠ 155 → m4 g = m5 g := fun g u w => f4 g (by simp only [List.mem_cons, List.not_mem_nil, or_false, not_or]; exact ⟨u, w⟩)
      have hRb : JRn nb ma := hRa.cg (fun K hK => kb K (by omega)) (sb 13 (by decide)) (fun _ _ => rfl)
      have hR5 := hRb.fa z3.bi z4
      have fab : FC na nb ma ma := FC.k0 (fun K a _ _ => kb K a) (fun s hs => sb s (fun w => hs (by rw [w]; decide))) (fun _ _ _ => rfl) (fun _ _ => rfl) (.inr rfl)
      have sqb : SQ na nb ma ma := SQ.cg (fun s hs => sb s (by omega)) (kb 46 (by decide)) (fun _ _ => rfl)
      have w0 := x6.1
      have e2 : nb_Acts_settle_2 (c + 1) (nw nb 0 0 17 w) = some (.inl (c + 2, n5)) := by
        unfold nb_Acts_settle_2
        rw [if_pos (by omega), if_pos (by rw [nw_nK (by decide), kb 6 (by decide), x4.1.2.2.2]; exact h16'), if_neg (by rw [nw_eq]; omega), z1]
        simp only [Option.bind_some]
        unfold ck
        rw [if_pos (by omega), show c + 1 + 1 = c + 2 by omega]
      have e3 : NL_Acts_settle_2 (c + 1) (nw nb 0 0 17 w) = NL_Acts_settle_2 (c + 2) n5 := by
        unfold NL_Acts_settle_2
        exact it_inl (f := fun s : Int × NS => nb_Acts_settle_2 s.1 s.2) e2
      refine done (c + 2) n5 m4 ((eT (nw nb 0 0 17 w) ?_).trans e3) ?_ (by omega) (j4.mono (by omega)) b4 (hR5.cg (fun _ _ => rfl) rfl (fun g hg => g4 g (by omega) (by omega))) ((((fc1.trans x4.fc).trans fab).trans z4.fc).trans (FC.k0 (fun _ _ _ _ => rfl) (fun _ _ => rfl) (fun g a _ => g4 g (by omega) (by omega)) (fun g a => g4 g (by omega) (by omega)) (.inr (by rw [g4 126 (by decide) (by decide)])))) ((((sq1.trans x4.sq).trans sqb).trans z4.sq).trans (SQ.cg (fun _ _ => rfl) rfl (fun g hg => g4 g (by omega) (by omega)))) (((fp1.trans x4.fp).trans z4.fp).trans (FP.of (fun g a b => g4 g (by omega) (by omega)))) ⟨by rw [fs5 17 (by omega), sb 17 (by decide), fs 17 (by omega)]; exact h17', by rw [z4.1.2.2.2, kb 6 (by decide), x4.1.2.2.2]; exact h16', by rw [fs5 12 (by omega), sb 12 (by decide), fs 12 (by omega)]; exact s12⟩ ⟨by rw [g4 158 (by decide) (by decide), fy5 158 (by omega), fy 158 (by omega), y158], by rw [g4 160 (by decide) (by decide), fy5 160 (by omega), fy 160 (by omega), y1 160 (by decide)], by rw [g4 152 (by decide) (by decide), fy5 152 (by omega), fy 152 (by omega), y1 152 (by decide)]; exact h152, by rw [g4 153 (by decide) (by decide), fy5 153 (by omega), fy 153 (by omega), y1 153 (by decide)]; exact h153, by rw [g4 163 (by decide) (by decide), fy5 163 (by omega), fy 163 (by omega), y1 163 (by decide)]; exact h163⟩
      · rw [eC, eC2, x1]
        simp only [Option.bind_some, u2]
        rw [if_neg (by decide), nw_ns (by decide), nw_cm (by decide), hnb]
        unfold ck st at e7 ⊢
        split at e7
        · rename_i y; rw [if_pos y]
        · exact absurd e7 (by simp)
      · rw [eY, eY2, x2, z2]
        simp only [Option.bind_some, u2]
        rw [if_neg (by decide), e4]
        exact e105 m4
    · -- a visit
      have fs : ∀ s, s = 9 ∨ s = 17 → na 0 0 s = n1 0 0 s := fun s hs => x4.1.2.2.1 s (by simp only [List.mem_cons, List.not_mem_nil, or_false, not_or]; omega)
      have fy : ∀ g, g = 154 ∨ g = 158 ∨ g = 163 → ma g = m1 g := fun g hg => x4.2.1 g (by omega)
      have jg : JA As Bs A B 0 (G + 6) (nw na 6 0 16 1) ma := x3.cg (fun K _ b _ => nw_nK b) (fun s _ => by rw [nw_nK (by decide)]) (fun s hs => nw_ns hs) (fun _ _ => rfl)
      obtain ⟨e7, j7⟩ := jg.cnt (by omega) rfl
      generalize hnb : nw (nw na 6 0 16 1) 0 0 7 (nw na 6 0 16 1 0 0 7 + 1) = nb at *
      have kb : ∀ K, K ≠ 0 → K ≠ 6 → nb K = na K := fun K hK h6 => by rw [← hnb, nw_nK hK, nw_nK h6]
      have sb : ∀ s, s ≠ 7 → nb 0 0 s = na 0 0 s := fun s hs => by rw [← hnb, nw_ns hs, nw_nK (by decide)]
      have g16 : nb 6 0 16 = 1 := by rw [← hnb, nw_nK (by decide), nw_eq]
      obtain ⟨n5, m5, N5, o5, e5, p5, z1, z2, z3, z4, z5, z6, z7, z8, z9, z10, z11, z12⟩ := load_turn (c := c + 1) j7 (by omega) (x5.ks (kb 99 (by decide) (by decide))) (.inl g16) (by omega)
      rw [if_pos g16] at z2
      have y5 : ∀ g, g = 154 ∨ g = 158 ∨ g = 163 → m5 g = ma g := fun g hg => z11 g (by omega) (by omega) (by omega) (by omega) (by omega) (by omega) (by omega) (by omega) (by omega) (by omega) (by omega) (by omega)
      have s5 : ∀ s, s = 9 ∨ s = 17 → n5 0 0 s = nb 0 0 s := fun s hs => z8 s (by simp only [List.mem_cons, List.not_mem_nil, or_false, not_or]; omega)
      obtain ⟨m4, e4, j4, b4, f4⟩ := fin1 z3 (by omega) ⟨by rw [s5 9 (by omega), sb 9 (by decide), fs 9 (by omega), s9, y5 158 (by omega), fy 158 (by omega)], by rw [y5 158 (by omega), fy 158 (by omega)]; omega, by rw [y5 158 (by omega), fy 158 (by omega)]; omega, by rw [y5 154 (by omega), fy 154 (by omega), y1 154 (by decide)]; exact h154⟩
      have g4 : ∀ g, g ≠ 154 → g ≠ 155 → m4 g = m5 g := fun g u w => f4 g (by simp only [List.mem_cons, List.not_mem_nil, or_false, not_or]; exact ⟨u, w⟩)
      have e158 : m4 158 0 = m 158 0 + 1 := by rw [g4 158 (by decide) (by decide), y5 158 (by omega), fy 158 (by omega), y158]
      have e3 : NL_Acts_settle_2 (c + 1) nb = NL_Acts_settle_2 (c + 1 + 1) n5 := by
        unfold NL_Acts_settle_2
        exact it_inl (f := fun s : Int × NS => nb_Acts_settle_2 s.1 s.2) z1
      have fab : FC na nb ma ma := FC.k0 (fun K a b _ => kb K a b) (fun s hs => sb s (fun w => hs (by rw [w]; decide))) (fun _ _ _ => rfl) (fun _ _ => rfl) (.inr rfl)
      refine ⟨c + 1 + 1, n5, m4, x + 1, (eT nb ?_).trans e3, ?_, by omega, by omega, (((fc1.trans x4.fc).trans fab).trans z7).trans (FC.k0 (fun _ _ _ _ => rfl) (fun _ _ => rfl) (fun g a _ => g4 g (by omega) (by omega)) (fun g a => g4 g (by omega) (by omega)) (.inr (by rw [g4 126 (by decide) (by decide)]))), .inr e158, .inr ⟨⟨?_, b4, ⟨?_, z9⟩, ?_, ⟨?_, ?_⟩, z6, ⟨N5, o5, e5, p5, z4.cg (fun _ _ => rfl) (fun _ _ _ => rfl) (fun g a b => g4 g (by omega) (by omega)), z5.cg (fun g hg => g4 g (by omega) (by omega))⟩, ?_, ?_⟩, e158⟩⟩
      · rw [eC, eC2, x1]
        simp only [Option.bind_some, u2]
        rw [if_neg (by decide), hnb]; exact e7
      · rw [eY, eY2, x2, z2]
        simp only [Option.bind_some, u2]
        rw [if_neg (by decide), e4]
        exact e105 m4
      · rw [e158, show G + 2300 * (m 158 0 + 1 - m 158 0) = G + 2300 by omega]; exact j4.mono (by omega)
      · rw [s5 17 (by omega), sb 17 (by decide), fs 17 (by omega)]; exact h17'
      · rw [g4 163 (by decide) (by decide), y5 163 (by omega), fy 163 (by omega), y1 163 (by decide)]; exact h163
      · rw [g4 152 (by decide) (by decide)]; exact z10.1
      · rw [g4 153 (by decide) (by decide)]; exact z10.2
      · have : wtS m4 = wtS m5 := wtS_cg (g4 45 (by decide) (by decide)) (fun g hg => g4 g (by omega) (by omega))
        rw [this]; exact z12.1
      · rw [g4 46 (by decide) (by decide)]; exact z12.2
    · -- stop
      generalize hn2 : (if n1 0 0 18 = 0 then n1 else nw (nw n1 0 0 18 0) 0 0 16 (n1 0 0 15)) = n2 at *
      have k2 : ∀ K, K ≠ 0 → n2 K = n1 K := fun K hK => by
        rw [← hn2]
        split
        · rfl
        · rw [nw_nK hK, nw_nK hK]
      have s2 : ∀ s, s ≠ 16 → s ≠ 18 → n2 0 0 s = n1 0 0 s := fun s u w => by
        rw [← hn2]
        split
        · rfl
        · rw [nw_ns u, nw_ns w]
      have y2 : ∀ g, g ≠ 163 → yw m1 163 0 1 g = m1 g := fun g hg => yw_nF hg
      refine one n2 (yw m1 163 0 1) x1 x2 ((hA1.cg (fun K a _ _ => k2 K a) (fun s hs => s2 s (by omega) (by omega)) (fun s _ => by rw [k2 6 (by decide)]) (fun g hg => y2 g (fun w => hg (by rw [w]; decide)))).mono (by omega)) (hR1.cg (fun K hK => k2 K (by omega)) (s2 13 (by decide) (by decide)) (fun g hg => y2 g (by omega))) (FC.k0 (fun K a _ _ => k2 K a) (fun s hs => s2 s (fun w => hs (by rw [w]; decide)) (fun w => hs (by rw [w]; decide))) (fun g a _ => y2 g (by omega)) (fun g a => y2 g (by omega)) (.inr (by rw [y2 126 (by decide)]))) ⟨⟨s2 15 (by decide) (by decide), k2 46 (by decide)⟩, fun g hg => y2 g (by omega), .inr ⟨yw_eq, ?_, ?_⟩⟩ (FP.of (fun g a b => y2 g (by omega))) ⟨s2 9 (by decide) (by decide), by rw [s2 12 (by decide) (by decide)]; exact s12, by rw [s2 17 (by decide) (by decide)]; exact h17', by rw [k2 6 (by decide)]; exact h16'⟩ (fun g hg => y2 g (by omega)) (.inr yw_eq)
      · rw [← hn2]
        split
        · rename_i y; exact y
        · rw [nw_ns (by decide), nw_eq]
      · rw [← hn2]
        split
        · rfl
        · rw [nw_eq]
end N9
