/-! A BLOCK, in both: all that lies in it -/
section X4
variable {n n' n'' nc : NS} {m m' m'' : YS} {A B N a b c x y q s E F F' v wd u w t k j r v3 v4 v5 v7 x4 L last first reach at' th lastEnd : Int} {o e p : Int → Int} {J : Int → Prop}
theorem it_sme {σ ρ : Type} {f : σ → Option (σ ⊕ ρ)} {s s' : σ} (h : f s = f s') : it f s = it f s' := by rw [it_eq, it_eq f s', h]
/-- the class: behind a block lines begin lower -/
theorem cl_enter {n1 : NS} (hl : 0 ≤ last ∧ last < 120) (h15 : -100 ≤ n 3 last 15 ∧ n 3 last 15 ≤ 100) (h11 : -10 ≤ n 5 0 11 ∧ n 5 0 11 ≤ 2000000) (ho : N_Layout_openAt (n 5 0 11 + n 3 last 15) (nw n 5 0 11 (n 5 0 11 + n 3 last 15)) = some n1) (hK : ∀ K, K ≠ 5 → n1 K = n K) (hj : j < e k ∧ 0 ≤ j ∧ j < 120) (hoj : n 22 0 j = o j ∧ 0 ≤ o j ∧ o j < 120) (hk0 : n 3 (o j) 0 ≠ 0) (hnb : n 3 (o j) 0 = 1 → n 3 (o j) 13 ≠ 0) : NL_Layout_layFlow_51 v v (e k) v3 last j j n = NL_Layout_layFlow_51 v v (e k) v3 (-1) j j n1 := by
  have hbf : N_Box_isBlockInFlow (o j) n = some 0 := by
    unfold N_Box_isBlockInFlow
    by_cases z : n 3 (o j) 0 = 1
    · rw [if_pos z, if_neg (hnb z)]
    · rw [if_neg z]
  have hbf1 : N_Box_isBlockInFlow (o j) n1 = some 0 := by
    rw [← hbf]; unfold N_Box_isBlockInFlow; rw [hK 3 (by decide)]
  have h146 : ∀ w, nk_Layout_layFlow_146 v v v3 last (e k) j (o j) (o j) w n = nk_Layout_layFlow_146 v v v3 (-1) (e k) j (o j) (o j) w n1 := fun w => by
    unfold nk_Layout_layFlow_146 st
    rw [hbf, hbf1]
    simp only [Option.bind_some]
    rw [if_pos trivial, if_pos trivial, if_neg (by omega), if_pos (by decide), ck_e _ (by omega), nw_eq, ho]
    rfl
  have hb : nb_Layout_layFlow_51 v v (e k) v3 last j j n = nb_Layout_layFlow_51 v v (e k) v3 (-1) j j n1 := by
    unfold nb_Layout_layFlow_51
    rw [hK 22 (by decide), hK 3 (by decide), hK 7 (by decide)]
    simp only [if_pos hj.1, ix_e (L := 120) _ hj.2, hoj.1, ix_e (L := 120) _ hoj.2, if_neg (show ¬ j < j by omega), if_neg hk0, h146]
  unfold NL_Layout_layFlow_51
  exact it_sme (f := fun s : Int × Int × Int × Int × NS => nb_Layout_layFlow_51 v v (e k) s.1 s.2.1 s.2.2.1 s.2.2.2.1 s.2.2.2.2) (s := (v3, last, j, j, n)) (s' := (v3, -1, j, j, n1)) hb
/-- a run of lines, from one block to the next -/
theorem run_out (h : OUTS A B E wd N o e p k j n m F at' last first reach J) (k0 : 0 ≤ k) (hkN : k < N) (hb : m 107 (o k) = 1) (hV : VIS m o e k j) (hpj : p j = k) (h0 : m 107 (o j) ≠ 0) (hnb : ¬ ((m 107 (o j) = 1 ∨ m 107 (o j) = 2) ∧ m 108 (o j) = 0)) (hle : last ≠ -1 → lastEnd = at') :
    ∃ j' n' nc' m' F', NL_Layout_layFlow_51 (o k) (o k) (e k) first last j j n = NL_Layout_layFlow_51 (o k) (o k) (e k) 0 (-1) j' j' n' ∧ NL_Y_layBlock_89 (o k) th at' last lastEnd first reach (o j) m = NL_Y_layBlock_89 (o k) th (m' 127 0) (-1) lastEnd 0 reach (if j' < e k then o j' else -1) m' ∧ N_Layout_closeLine n' = some nc' ∧ FRs (o k) n n' ∧ FRs (o k) n' nc' ∧ FVy (o k) m m' ∧ (j < j' ∧ j' ≤ e k) ∧ (j' < e k → BFk m' o e p k j') ∧ OUTS A B E wd N o e p k j' nc' m' F' (m' 127 0) (-1) 0 reach J := by
  have hC := h.1.2.2.2
  have hO := h.1.1
  have hG := hC.1
  have hE := hG.eB k0 hkN
  have hN := hG.N1
  have hjN : j < N := by have := hV.1; omega
  have hj := hV.1
  have hEj := hG.eB (k := j) (by omega) hjN
  have hnest := hG.nest (k := k) (j := j) k0 hj.1 hj.2 hjN
  have ho := hG.oB (k := j) (by omega) hjN
  obtain ⟨y0, hy0⟩ : ∃ y0, ∀ _ : Unit, y0 = if last = -1 then at' else at' + m 115 last := ⟨_, fun _ => rfl⟩
  obtain ⟨m18, hm18⟩ : ∃ m18, m18 = yw (yw (yw (yw (yw m 127 0 y0) 131 0 0) 132 0 0) 143 0 0) 144 0 0 := ⟨_, rfl⟩
  have fy : FY [127, 131, 132, 143, 144] m m18 := fun f hf => by
    simp only [List.mem_cons, List.not_mem_nil, or_false, not_or] at hf
    rw [hm18, yw_nF (by omega), yw_nF (by omega), yw_nF (by omega), yw_nF (by omega), yw_nF (by omega)]
  have g127 : m18 127 0 = y0 := by rw [hm18, yw_nF (by decide), yw_nF (by decide), yw_nF (by decide), yw_nF (by decide), yw_eq]
  obtain ⟨n1, b1, b2, b3, b4, b5⟩ := h.begin fy (by rw [g127]; exact hy0 ()) (by rw [hm18, yw_nF (by decide), yw_nF (by decide), yw_nF (by decide), yw_eq]) (by rw [hm18, yw_nF (by decide), yw_nF (by decide), yw_eq]) (by rw [hm18, yw_nF (by decide), yw_eq]) (by rw [hm18, yw_eq]) k0 (by omega)
  have hV18 : VIS m18 o e k j := ⟨hV.1, fun a x y z => by rw [fy 107 (by decide)]; exact hV.2 a x y z⟩
  have e107 : m18 107 = m 107 := fy 107 (by decide)
  have e108 : m18 108 = m 108 := fy 108 (by decide)
  have hMj := hC.2.2.2.2.1 j (by omega) hjN
  -- a kid, and those behind it
  obtain ⟨n2, m2, F2, r1, r2, r3, r4, r5, r6⟩ := run_kid (v := o k) (v3 := first) (v5 := th) (v7 := reach) (x4 := lastEnd) k0 hkN b3 hV18 hpj (by rw [e107]; exact .inl hb) (by rw [e107]; exact h0) (by rw [e107, e108]; exact hnb)
  have e2 : m2 107 = m18 107 := r5.1 107 (by decide)
  obtain ⟨j', n3, m3, F3, s1, s2, s3, s4, s5, s6, s7, s8⟩ := runL_both (v := o k) (v5 := th) (v7 := reach) (x4 := lastEnd) k0 hkN _ (e j) n2 m2 F2 (Nat.le_refl _) (by omega) hnest r3 (fun w => ⟨by
    have hv := hV18.past (b3.1.2.2.2.1) w k0 hkN
    exact ⟨hv.1, fun a x y z => by rw [e2]; exact hv.2 a x y z⟩, hG.sib (by omega) hjN hpj w⟩) (by rw [e2, e107]; exact .inl hb)
  have hcl0 : NL_Layout_layFlow_51 (o k) (o k) (e k) first last j j n = NL_Layout_layFlow_51 (o k) (o k) (e k) first (-1) j j n1 := by
    by_cases z : last = -1
    · rw [b2 z, z]
    · obtain ⟨q1, q2, q3, q4, q5⟩ := b1 z
      have hkd : n 3 (o j) 0 ≠ 0 ∧ (n 3 (o j) 0 = 1 → n 3 (o j) 13 ≠ 0) := by
        rcases hMj with ⟨w, _⟩ | ⟨_, w | w | w | w | w⟩
        · exact absurd w h0
        · obtain ⟨c1, c2, c3, c4, c5, c6, c7, c8⟩ := w
          refine ⟨by omega, fun _ => ?_⟩
          rcases (c7.2 (by omega)).2.1 with u | u
          · exact absurd ⟨c1, u.1⟩ hnb
          · omega
        · have := w.2.1; exact ⟨by omega, fun _ => by omega⟩
        · exact ⟨by omega, fun _ => by omega⟩
        · exact ⟨by omega, fun _ => by omega⟩
        · exact ⟨by omega, fun _ => by omega⟩
      have hl := hC.2.1.2 j (by omega) hjN
      have hKn : ∀ K, K ≠ 5 → n1 K = n K := fun K x => by
        obtain ⟨g1, _⟩ := hO.mv (y := at' + m 115 last) (by have := hO.2.2.2.2.1.2; omega)
        rw [q5] at g1
        rw [Option.some.inj g1, cMv_K x]
      have hat := hO.2.2.2.2.1.2
      refine cl_enter (n1 := n1) q1 (by omega) (by omega) (by rw [q4, q2.1, show at' + E + m 115 last = at' + m 115 last + E by omega]; exact q5) hKn ⟨hj.2, by omega, by omega⟩ ⟨hl.1, ho⟩ hkd.1 hkd.2
  have hy1 : ∀ X, nk_Y_layBlock_427 (o k) lastEnd th reach (if j' < e k then o j' else -1) m3 = some (.inl X) → NL_Y_layBlock_89 (o k) th at' last lastEnd first reach (o j) m = NL_Y_layBlock_89 (o k) th X.1 X.2.1 X.2.2.1 X.2.2.2.1 X.2.2.2.2.1 X.2.2.2.2.2.1 X.2.2.2.2.2.2 := fun X hX => by
    unfold NL_Y_layBlock_89
    refine it_inl ?_
    show nb_Y_layBlock_89 (o k) th at' last lastEnd first reach (o j) m = _
    have h332 : nk_Y_layBlock_332 (o k) at' last lastEnd th reach (o j) m = some (.inl X) := by
      have h351 : nk_Y_layBlock_351 (o k) lastEnd th reach (o j) y0 m = some (.inl X) := by
        unfold nk_Y_layBlock_351 st
        dsimp only
        rw [← hm18, r2, s2]
        simp only [Option.bind_some, u2]
        exact hX
      unfold nk_Y_layBlock_332
      have hyy := hy0 ()
      by_cases z : last = -1
      · rw [if_pos z] at hyy
        rw [if_pos z, ← hyy]; exact h351
      · rw [if_neg z] at hyy
        obtain ⟨q1, q2, q3, q4, q5⟩ := b1 z
        have hat := hO.2.2.2.2.1.2
        rw [if_neg z, ix_e _ q1, hle z, ck_e _ (by omega), ← hyy]; exact (by rw [hle z] at h351; exact h351)
    unfold nb_Y_layBlock_89
    rw [if_neg (by omega), ix_e _ ho, if_neg h0, y_isBox ho]
    simp only [Option.bind_some]
    by_cases w : m 107 (o j) = 1 ∨ m 107 (o j) = 2
    · rw [if_pos w, if_neg (by decide), ix_e _ ho, if_neg (fun u => hnb ⟨w, u⟩), h332]
    · rw [if_neg w, if_pos rfl, h332]
  have hreach : 0 ≤ reach ∧ reach ≤ y0 := by
    have hyy := hy0 ()
    rcases h.2.2.2.2.1 with ⟨u1, u2, u3⟩ | ⟨q, ⟨q1, q2⟩, q3, q4, q5, q6, q7⟩
    · rw [if_pos u1] at hyy; omega
    · have hqo := hG.oB (k := q) (by omega) (by omega)
      have hl := hC.2.2.2.2.2.2 q q1 (by omega) q4.2.2.1
      rw [q3] at hl hqo
      have hat := hO.2.2.2.2.1.2
      rw [if_neg (by omega)] at hyy
      rcases q7 with w | w
      · omega
      · omega
  -- the lines end
  obtain ⟨⟨hS3, hB3, hW3, hC3⟩, ⟨wb, _, _, _⟩, h33, h34, h35, h36⟩ := s3
  have hV3 : j' < e k → BFk m3 o e p k j' := fun w => ⟨(s5 w).1.1, (s5 w).1.2, (s5 w).2.1, (s5 w).2.2⟩
  have fr3 : FRs (o k) n n3 := b4.rl.rs.trans (r4.trans s6)
  have fy3 : FVy (o k) m m3 := b5.trans (r5.trans s7)
  by_cases hI : 0 < m3 131 0
  · obtain ⟨nc, m4, c1, c2, ⟨c3, c4, c5, c6, c7, c8, c9, c10⟩⟩ := closeLine_both hS3 hW3 hI (by omega)
    have hy2 := hy1 (m4 127 0, -1, lastEnd, 0, reach, (if j' < e k then o j' else -1), m4) (by
      unfold nk_Y_layBlock_427 nk_Y_layBlock_438
      rw [if_pos hI, c2]; rfl)
    have e7 : m4 107 = m3 107 := c8.1 107 (by decide)
    refine ⟨j', n3, nc, m4, F3 + m3 143 0, hcl0.trans (r1.trans s1), hy2, c1, fr3, c7.rl.rs, fy3.trans c8, by omega, fun w => ?_, ⟨⟨c3.os c4, c7.bi hB3, c7.wl hW3, hC3.rs c7.rl.rs c8⟩, fun f x y => ?_, ⟨by omega, ?_⟩, fun r x y z => ?_, .inl ⟨rfl, hreach.1, by omega⟩, .inr rfl⟩⟩
    · obtain ⟨g1, g2, g3, g4⟩ := hV3 w
      exact ⟨⟨g1.1, fun a x y z => by rw [e7]; exact g1.2 a x y z⟩, g2, by rw [e7]; exact g3, by rw [c8.1 108 (by decide)]; exact g4⟩
    · obtain ⟨r, x1, x2, x3⟩ := h34 f x (by omega)
      exact ⟨r, x1, x2, by rw [c7.1 43 (by decide) (by decide) (by decide)]; exact x3⟩
    · have h143 := (c3.2.2.2.2.2 c4).1
      have h132 : m4 132 0 = 0 := by rw [c3.2.1.2.2.2, c4]; rfl
      have hp := c5
      unfold pot at hp
      rw [h132, h143, zsm_nil (Int.le_refl _)] at hp
      have hp3 := h35.2.2
      unfold pot at hp3
      rw [if_pos rfl]; omega
    · rw [c8.1 109 (by decide)] at z
      rw [e7, c8.1 116 (by decide), c7.2.1 _ 19 (by decide) (by decide)]
      have g := h36 r x y z
      have hro := hG.oB (k := r) (by omega) (by omega)
      have h0r : m3 107 (o r) = 6 → 0 ≤ m3 116 (o r) := fun u => by
        rcases hC3.2.2.2.2.1 r (by omega) (by omega) with ⟨z1, _⟩ | ⟨_, t1 | t1 | t1 | t1 | t1⟩
        · omega
        · have := t1.1; omega
        · have := t1.1; omega
        · omega
        · omega
        · have := t1.2.2.2.2.2.2.1; omega
      refine ⟨fun u => c9 _ hro.1 (g.1 u), fun u w x' y' => c10 w ?_ (g.2.1 u w x' y'), fun u w x' y' => (ov_end hS3.lni m4 c2).2.2.2.2 w (by have := h0r u; omega) (g.2.2 u w x' y')⟩
      rcases hC3.2.2.2.2.1 r (by omega) (by omega) with ⟨z1, _⟩ | ⟨_, t1 | t1 | t1 | t1 | t1⟩
      · omega
      · have := t1.1; omega
      · have := t1.1; omega
      · omega
      · omega
      · have := t1.2.2.2.2.2.2.1; omega
  · have hI0 : m3 131 0 = 0 := by have := hS3.2.1.1.2.1; omega
    have h143 := (hS3.2.2.2.2.2 hI0).1
    have hy2 := hy1 (m3 127 0, -1, lastEnd, 0, reach, (if j' < e k then o j' else -1), m3) (by
      unfold nk_Y_layBlock_427 nk_Y_layBlock_438
      rw [if_neg hI])
    have hc1 : N_Layout_closeLine n3 = some n3 := by
      unfold N_Layout_closeLine
      rw [hS3.2.1.1.1, hI0, if_pos rfl]
    refine ⟨j', n3, n3, m3, F3, hcl0.trans (r1.trans s1), hy2, hc1, fr3, FRs.refl, fy3, by omega, hV3, ⟨⟨hS3.os hI0, hB3, hW3, hC3⟩, fun f x y => h34 f x (by omega), ⟨by omega, ?_⟩, fun r x y z => ?_, .inl ⟨rfl, hreach.1, by omega⟩, .inr rfl⟩⟩
    · have h132 : m3 132 0 = 0 := by rw [hS3.2.1.2.2.2, hI0]; rfl
      have hp3 := h35.2.2
      unfold pot at hp3
      rw [h132, h143, zsm_nil (Int.le_refl _)] at hp3
      rw [if_pos rfl]; omega
    · have g := h36 r x y z
      refine ⟨fun u => ?_, fun u w x' y' => ?_, fun u w x' y' => (g.2.2 u w x' y').pr hI0⟩
      · rcases g.1 u with w | ⟨i, i1, i2, _⟩ | ⟨i, i1, i2, _⟩
        · exact w
        · omega
        · omega
      · rcases g.2.1 u w x' y' with w' | ⟨i, i1, i2, _⟩
        · exact w'
        · omega
/-- all of a block -/
theorem flow_both (k0 : 0 ≤ k) (hkN : k < N) : ∀ (z : Nat) (j : Int) (n nc : NS) (m : YS) (F at' last lastEnd first reach : Int), (e k - j).toNat ≤ z → k < j → j ≤ e k → N_Layout_closeLine n = some nc → FRs (o k) n nc → (nc = n ∨ j = e k ∨ BFk m o e p k j) → OUTS A B E wd N o e p k j nc m F at' last first reach J → (j < e k → VIS m o e k j ∧ p j = k) → m 107 (o k) = 1 → (∀ x, J x ↔ (x = th ∧ JOI m o p k ∧ m 105 (11 * o k + 7) = -1)) → (∀ j, BFk m o e p k j → (∀ r, k < r → r < j → p r = k → m 107 (o r) = 0) → (nc 3 (o k) 16 ≠ 0 ↔ JOI m o p k)) → (last ≠ -1 → lastEnd = at') →
    ∃ n' nc' m' F' at2 last2 first2 reach2, NL_Layout_layFlow_51 (o k) (o k) (e k) first last j j n = some (last2, n') ∧ N_Layout_closeLine n' = some nc' ∧ NL_Y_layBlock_89 (o k) th at' last lastEnd first reach (if j < e k then o j else -1) m = some (at2, reach2, m') ∧ OUTS A B E wd N o e p k (e k) nc' m' F' at2 last2 first2 reach2 J ∧ FRs (o k) n nc' ∧ FVy (o k) m m' := by
  intro z
  induction z with
  | zero =>
    intro j n nc m F at' last lastEnd first reach h1 h2 h3 hcl hfr hfl hO hV hb hJ h16 hle
    have ej : j = e k := by omega
    rw [ej] at hO ⊢
    refine ⟨n, nc, m, F, at', last, first, reach, ?_, hcl, ?_, hO, hfr, FVy.refl⟩
    · unfold NL_Layout_layFlow_51
      refine it_inr ?_
      show nb_Layout_layFlow_51 (o k) (o k) (e k) first last (e k) (e k) n = _
      unfold nb_Layout_layFlow_51
      rw [if_neg (by omega)]
    · rw [if_neg (by omega)]
      unfold NL_Y_layBlock_89
      refine it_inr ?_
      show nb_Y_layBlock_89 (o k) th at' last lastEnd first reach (-1) m = _
      unfold nb_Y_layBlock_89
      rw [if_pos rfl]
  | succ z ih =>
    intro j n nc m F at' last lastEnd first reach h1 h2 h3 hcl hfr hfl hO hV hb hJ h16 hle
    by_cases hlt : j < e k
    · obtain ⟨hVj, hpj⟩ := hV hlt
      have hC := hO.1.2.2.2
      have hG := hC.1
      have hE := hG.eB k0 hkN
      have hjN : j < N := by omega
      have hnest := hG.nest (k := k) (j := j) k0 h2 hlt hjN
      have hEj := hG.eB (k := j) (by omega) hjN
      have ho := hG.oB (k := j) (by omega) hjN
      have hM := hC.2.2.2.2.1 j (by omega) hjN
      rw [if_pos hlt]
      have nxt : ∀ m', m' 107 = m 107 → (e j < e k → VIS m' o e k (e j) ∧ p (e j) = k) := fun m' h7 w => by
        have hv := hVj.past hG w k0 hkN
        exact ⟨⟨hv.1, fun a x y z => by rw [h7]; exact hv.2 a x y z⟩, hG.sib (by omega) hjN hpj w⟩
      -- what stays
      have stay : ∀ (n1 : NS) (m1 : YS), FRs (o k) n n1 → FVy (o k) m m1 → (∀ x, J x ↔ (x = th ∧ JOI m1 o p k ∧ m1 105 (11 * o k + 7) = -1)) ∧ (∀ j, BFk m1 o e p k j → (∀ r, k < r → r < j → p r = k → m1 107 (o r) = 0) → (n1 3 (o k) 16 ≠ 0 ↔ JOI m1 o p k)) := fun n1 m1 f1 f2 => by
        have e107 : m1 107 = m 107 := f2.1 107 (by decide)
        have e108 : m1 108 = m 108 := f2.1 108 (by decide)
        have e105 : m1 105 = m 105 := f2.1 105 (by decide)
        have eJ : JOI m1 o p k ↔ JOI m o p k := by unfold JOI; rw [e107, e108, e105]
        refine ⟨fun x => by rw [hJ x, eJ, e105], fun j' hb' hr => ?_⟩
        have hbm : BFk m o e p k j' := ⟨⟨hb'.1.1, fun a x y z => by rw [← e107]; exact hb'.1.2 a x y z⟩, hb'.2.1, by rw [← e107]; exact hb'.2.2.1, by rw [← e108]; exact hb'.2.2.2⟩
        have := h16 j' hbm (fun r x y z => by rw [← e107]; exact hr r x y z)
        rw [eJ, f1.2.1 _ 16 (by decide) (by decide), ← hfr.2.1 _ 16 (by decide) (by decide)]; exact this
      by_cases hbf : (m 107 (o j) = 1 ∨ m 107 (o j) = 2) ∧ m 108 (o j) = 0
      · -- a block
        have hBF : BFk m o e p k j := ⟨hVj, hpj, hbf⟩
        have h16' : first = 1 → (nc 3 (o k) 16 ≠ 0 ↔ JOI m o p k) := fun w => by
          rcases hO.2.2.2.2.2 with u | u
          · exact h16 j hBF u.2.1
          · omega
        obtain ⟨n1, m1, at2, reach2, r1, r2, r3, r4, r5, r6⟩ := blk_step hO hcl hfr k0 hkN hb hBF hJ h16' hle
        have e107 : m1 107 = m 107 := r5.1 107 (by decide)
        have st := stay n1 m1 r4 r5
        obtain ⟨n', nc', m', F', a2, l2, f2, re2, s1, s2, s3, s4, s5, s6⟩ := ih (e j) n1 n1 m1 F at2 (o j) at2 0 reach2 (by omega) (by omega) hnest r6 FRs.refl (.inl rfl) r3 (nxt m1 e107) (by rw [e107]; exact hb) st.1 st.2 (fun _ => rfl)
        exact ⟨n', nc', m', F', a2, l2, f2, re2, r1.trans s1, s2, r2.trans s3, s4, r4.trans s5, r5.trans s6⟩
      · have hnn : nc = n := by
          rcases hfl with u | u | u
          · exact u
          · omega
          · exact absurd u.2.2 hbf
        rw [hnn] at hO h16 hfr
        have hL := hO.1.2.2.2.2.1
        by_cases hm0 : m 107 (o j) = 0
        · have hMn := hO.1.2.2.2.2.2.2.2.1 j (by omega) hjN
          have hO' : OUTS A B E wd N o e p k (e j) n m F at' last first reach J := by
            obtain ⟨g1, g2, g3, g4, g5, g6⟩ := hO
            refine ⟨g1, fun f x y => ?_, ?_, fun r x y w => ?_, ?_, ?_⟩
            · obtain ⟨r, x1, x2, x3⟩ := g2 f x y
              exact ⟨r, x1, by omega, x3⟩
            · refine ⟨by omega, ?_⟩
              have := g3.2
              omega
            · by_cases u : r < j
              · exact g4 r x u w
              · have hz : m 107 (o r) = 0 := by
                  by_cases u' : r = j
                  · rw [u']; exact hm0
                  · exact g1.2.2.2.deep k0 hkN ⟨h2, hjN⟩ (r := r) (by omega) (by omega) w
                exact ⟨fun u => by omega, fun u => by omega, fun u => by omega⟩
            · rcases g5 with u | ⟨q, ⟨q1, q2⟩, q3, q4, q5, q6⟩
              · exact .inl u
              · refine .inr ⟨q, ⟨q1, by omega⟩, q3, q4, fun r x y w => ?_, q6⟩
                by_cases u : r < j
                · exact q5 r x u w
                · by_cases u' : r = j
                  · rw [u']; exact hm0
                  · have := hG.inP (t := j) (k := r) (by omega) hjN (by omega) y
                    omega
            · rcases g6 with ⟨u1, u2, u3⟩ | u
              · refine .inl ⟨u1, fun r x y w => ?_, u3⟩
                by_cases u : r < j
                · exact u2 r x u w
                · by_cases u' : r = j
                  · rw [u']; exact hm0
                  · have := hG.inP (t := j) (k := r) (by omega) hjN (by omega) y
                    omega
              · exact .inr u
          obtain ⟨n', nc', m', F', a2, l2, f2, re2, s1, s2, s3, s4, s5, s6⟩ := ih (e j) n n m F at' last lastEnd first reach (by omega) (by omega) hnest (by rw [← hnn]; rw [hnn]; rw [hnn] at hcl; exact hcl) FRs.refl (.inl rfl) hO' (nxt m rfl) hb hJ h16 hle
          refine ⟨n', nc', m', F', a2, l2, f2, re2, (cl_zero (v := o k) hG hL k0 hkN ⟨h2, hlt⟩ (hMn.zero hm0)).trans s1, s2, ?_, s4, s5, s6⟩
          rw [← s3]
          unfold NL_Y_layBlock_89
          refine it_inl ?_
          show nb_Y_layBlock_89 (o k) th at' last lastEnd first reach (o j) m = _
          unfold nb_Y_layBlock_89
          rw [if_neg (by omega), ix_e _ ho, if_pos hm0, ix_e _ ho, hG.nxE (by omega) hjN, hpj]
        · obtain ⟨j', n1, nc1, m1, F1, r1, r2, r3, r4, r4', r5, r6, r7, r8⟩ := run_out (th := th) (lastEnd := lastEnd) hO k0 hkN hb hVj hpj hm0 hbf hle
          have e107 : m1 107 = m 107 := r5.1 107 (by decide)
          have st := stay nc1 m1 (r4.trans r4') r5
          obtain ⟨n', nc', m', F', a2, l2, f2, re2, s1, s2, s3, s4, s5, s6⟩ := ih j' n1 nc1 m1 F1 (m1 127 0) (-1) lastEnd 0 reach (by omega) (by omega) r6.2 r3 r4' (by
            by_cases w : j' < e k
            · exact .inr (.inr (r7 w))
            · exact .inr (.inl (by omega))) r8 (fun w => ⟨(r7 w).1, (r7 w).2.1⟩) (by rw [e107]; exact hb) st.1 st.2 (fun w => absurd rfl w)
          exact ⟨n', nc', m', F', a2, l2, f2, re2, r1.trans s1, s2, r2.trans s3, s4, r4.trans s5, r5.trans s6⟩
    · exact ih j n nc m F at' last lastEnd first reach (by omega) h2 h3 hcl hfr hfl hO hV hb hJ h16 hle
end X4
