/-! A BLOCK IN THE FLOW of another, in both -/
abbrev JOI (m : YS) (o p : Int → Int) (k : Int) : Prop := m 107 (o k) = 1 ∧ 0 < o k ∧ m 108 (o k) = 0 ∧ m 105 (11 * o k + 4) + m 105 (11 * o k + 5) = 0 ∧ m 107 (o (p k)) = 1 ∧ m 105 (11 * o (p k)) = 0
section X3
variable {n n' n'' nc : NS} {m m' m'' : YS} {A B N a b c x y q s E F F' v wd u w t k j r v3 v4 v5 v7 x4 L last first reach at' th lastEnd : Int} {o e p : Int → Int} {J : Int → Prop}
theorem y_edges (hv : 0 ≤ v ∧ v < 120) (hb : -100 ≤ m 105 (11 * v + 4) ∧ m 105 (11 * v + 4) ≤ 2000 ∧ -100 ≤ m 105 (11 * v + 5) ∧ m 105 (11 * v + 5) ≤ 2000) : N_Y_edges v m = some (m 105 (11 * v + 4) + m 105 (11 * v + 5)) := by
  unfold N_Y_edges
  rw [y_of hv (by decide), y_of hv (by decide)]
  simp only [Option.bind_some]
  rw [ck_e _ (by omega)]
theorem y_ends1 {x1 x2 x3 x4 : Int} (h136 : m 136 0 = F) (hF : 0 ≤ F ∧ F ≤ 120) (ha : 0 ≤ a) : NL_Y_layBlock_205 x1 x2 x3 x4 a 0 m = some (max a (mxE m F.toNat)) := by
  apply eq_of_ev
  unfold NL_Y_layBlock_205
  refine ev_it (fun t : Int × Int => (0 ≤ t.2 ∧ t.2 ≤ F) ∧ t.1 = max a (mxE m t.2.toNat)) (fun t => F - t.2) (fun t ht => ?_) ⟨by show (0 : Int) ≤ 0 ∧ (0 : Int) ≤ _; omega, by show a = max a (mxE m 0); simp only [mxE]; omega⟩
  obtain ⟨x, f⟩ := t
  obtain ⟨g1, g2⟩ := ht
  simp only at g1 g2
  show ev (nb_Y_layBlock_205 x1 x2 x3 x4 x f m) _
  unfold nb_Y_layBlock_205
  rw [h136]
  refine ev_if (fun hlt => ?_) (fun hge => ev_inr (by show x = _; rw [g2, show f = F by omega]))
  refine ev_ix (by omega) (ev_ck (by omega) (ev_inl ⟨⟨by show 0 ≤ f + 1 ∧ f + 1 ≤ _; omega, ?_⟩, by show F - (f + 1) < F - f; omega, by show 0 ≤ F - f; omega⟩))
  show max x _ = max a (mxE m (f + 1).toNat)
  rw [mxE_s g1.1, g2]; omega
theorem y_ends2 {x1 x2 : Int} (h136 : m 136 0 = F) (hF : 0 ≤ F ∧ F ≤ 120) (ha : 0 ≤ a) : NL_Y_layBlock_462 x1 x2 a 0 m = some (max a (mxE m F.toNat)) := by
  apply eq_of_ev
  unfold NL_Y_layBlock_462
  refine ev_it (fun t : Int × Int => (0 ≤ t.2 ∧ t.2 ≤ F) ∧ t.1 = max a (mxE m t.2.toNat)) (fun t => F - t.2) (fun t ht => ?_) ⟨by show (0 : Int) ≤ 0 ∧ (0 : Int) ≤ _; omega, by show a = max a (mxE m 0); simp only [mxE]; omega⟩
  obtain ⟨x, f⟩ := t
  obtain ⟨g1, g2⟩ := ht
  simp only at g1 g2
  show ev (nb_Y_layBlock_462 x1 x2 x f m) _
  unfold nb_Y_layBlock_462
  rw [h136]
  refine ev_if (fun hlt => ?_) (fun hge => ev_inr (by show x = _; rw [g2, show f = F by omega]))
  refine ev_ix (by omega) (ev_ck (by omega) (ev_inl ⟨⟨by show 0 ≤ f + 1 ∧ f + 1 ≤ _; omega, ?_⟩, by show F - (f + 1) < F - f; omega, by show 0 ≤ F - f; omega⟩))
  show max x _ = max a (mxE m (f + 1).toNat)
  rw [mxE_s g1.1, g2]; omega
theorem y_joins (hC : CTX n m N o e p k) (k0 : 0 ≤ k) (hkN : k < N) (hb : m 107 (o k) = 1 ∨ m 107 (o k) = 2) : N_Y_joins (o k) m = some (if JOI m o p k then 1 else 0) := by
  have hG := hC.1
  have ho := hG.oB k0 hkN
  have hM := (hC.2.2.2.2.1 k k0 hkN).box hb
  obtain ⟨c1, c2, c3, ⟨x1, x2, x3⟩, c5, c6, c7, c8⟩ := hM
  unfold N_Y_joins
  simp only [ix_e (L := 120) _ ho]
  by_cases z1 : m 107 (o k) = 1
  · rw [if_pos z1]
    by_cases z2 : 0 < o k
    · have hk1 : 1 ≤ k := by
        by_cases z : k = 0
        · rw [z, hG.o0] at z2; omega
        · omega
      have hp := hG.pB hk1 hkN
      have hpo := hG.oB (k := p k) hp.1 (by omega)
      rw [if_pos z2]
      by_cases z3 : m 108 (o k) = 0
      · rw [if_pos z3, y_edges ho (by omega)]
        simp only [Option.bind_some]
        by_cases z4 : m 105 (11 * o k + 4) + m 105 (11 * o k + 5) = 0
        · rw [if_pos z4, hG.parE hk1 hkN, ix_e _ hpo]
          by_cases z5 : m 107 (o (p k)) = 1
          · rw [if_pos z5, y_of hpo (by decide), show 11 * o (p k) + 0 = 11 * o (p k) by omega]
            simp only [Option.bind_some]
            by_cases z6 : m 105 (11 * o (p k)) = 0
            · rw [if_pos z6, if_pos ⟨z1, z2, z3, z4, z5, z6⟩]
            · rw [if_neg z6, if_neg (fun h => z6 h.2.2.2.2.2)]
          · rw [if_neg z5, if_neg (fun h => z5 h.2.2.2.2.1)]
        · rw [if_neg z4, if_neg (fun h => z4 h.2.2.2.1)]
      · rw [if_neg z3, if_neg (fun h => z3 h.2.2.1)]
    · rw [if_neg z2, if_neg (fun h => z2 h.2.1)]
  · rw [if_neg z1, if_neg (fun h => z1 h.1)]
theorem blk_step (h : OUTS A B E wd N o e p k j nc m F at' last first reach J) (hcl : N_Layout_closeLine n = some nc) (hn : FRs (o k) n nc) (k0 : 0 ≤ k) (hkN : k < N) (hb : m 107 (o k) = 1) (hBF : BFk m o e p k j) (hJ : ∀ x, J x ↔ (x = th ∧ JOI m o p k ∧ m 105 (11 * o k + 7) = -1)) (h16 : first = 1 → (nc 3 (o k) 16 ≠ 0 ↔ JOI m o p k)) (hle : last ≠ -1 → lastEnd = at') :
    ∃ n' m' at2 reach2, NL_Layout_layFlow_51 (o k) (o k) (e k) first last j j n = NL_Layout_layFlow_51 (o k) (o k) (e k) 0 (o j) (e j) (e j) n' ∧ NL_Y_layBlock_89 (o k) th at' last lastEnd first reach (o j) m = NL_Y_layBlock_89 (o k) th at2 (o j) at2 0 reach2 (if e j < e k then o (e j) else -1) m' ∧ OUTS A B E wd N o e p k (e j) n' m' F at2 (o j) 0 reach2 J ∧ FRs (o k) n n' ∧ FVy (o k) m m' ∧ N_Layout_closeLine n' = some n' := by
  obtain ⟨⟨hO, hB, hW, hC⟩, h2, h3, h4, h5, h6⟩ := h
  obtain ⟨a1, ⟨a2, a3, a4, a4'⟩, a5, a6, a7, a8, a9, a10, a11⟩ := hO
  obtain ⟨hV, hpj, hm1, h108⟩ := hBF
  have hG := hC.1
  have hLc := hC.2.1
  have hE := hG.eB k0 hkN
  have hj := hV.1
  have hjN : j < N := by omega
  have hEj := hG.eB (k := j) (by omega) hjN
  have hnest := hG.nest (k := k) (j := j) k0 hj.1 hj.2 hjN
  have hN := hG.N1
  have ho := hG.oB (k := j) (by omega) hjN
  have hMk := hC.2.2.2.2.1 j (by omega) hjN
  obtain ⟨c1, c2, c3, c4, c5, c6, c7, c8⟩ := hMk.box hm1
  have hld := hC.2.2.2.2.2.2 j hj.1 hjN hm1
  have hHol : m 109 (o j) = o k ∧ nc 3 (o j) 1 = o k := by
    rcases hMk with ⟨z, _⟩ | ⟨z | z, _⟩
    · omega
    · omega
    · exact hV.hol hG k0 (.inl hb) z hkN
  have hs13 : nc 3 (o j) 13 = 0 := by
    rcases (c7.2 (by omega)).2.1 with z | z
    · exact z.2
    · omega
  have hEb := a1.2.2.2.1
  have hv8 : nc 3 (o k) 8 = E := a1.2.2.1
  have hjo := y_joins hC k0 hkN (.inl hb)
  have hmE := (mxE_ge (m := m) F.toNat).1
  have hke : o j ≠ o k := fun z => by have := hG.inj (j := j) (k := k) (by omega) hjN k0 hkN z; omega
  -- the last one
  have hlast : last ≠ -1 → (0 ≤ last ∧ last < 120) ∧ (nc 3 last 15 = m 115 last ∧ 0 ≤ m 115 last ∧ m 115 last ≤ 20) ∧ first = 0 ∧ reach ≤ at' + m 115 last ∧ at' ≤ reach := fun z => by
    rcases h5 with ⟨u, _⟩ | ⟨q, ⟨q1, q2⟩, q3, q4, q5, q6, q7⟩
    · exact absurd u z
    · have hqo := hG.oB (k := q) (by omega) (by omega)
      have hl := hC.2.2.2.2.2.2 q q1 (by omega) q4.2.2.1
      rw [q3] at hl hqo
      refine ⟨hqo, ⟨hl.2.2.1, by omega, by omega⟩, q6, ?_, ?_⟩
      · rcases q7 with w | w
        · omega
        · omega
      · rcases q7 with w | w
        · omega
        · omega
  have hfirst : first = 0 ∨ first = 1 := by
    rcases h6 with w | w
    · exact .inr w.1
    · exact .inl w
  have hreach0 : last = -1 → reach ≤ at' := fun z => by
    rcases h5 with ⟨_, _, u⟩ | ⟨q, ⟨q1, q2⟩, q3, _⟩
    · exact u
    · have hqo := hG.oB (k := q) (by omega) (by omega)
      omega
  clear h5 h6 a11 c5
  have h16u : ∀ _ : Unit, first = 1 → (nc 3 (o k) 16 ≠ 0 ↔ JOI m o p k) := fun _ => h16
  have hleu : ∀ _ : Unit, last ≠ -1 → lastEnd = at' := fun _ => hle
  have hlastu : ∀ _ : Unit, last ≠ -1 → (0 ≤ last ∧ last < 120) ∧ (nc 3 last 15 = m 115 last ∧ 0 ≤ m 115 last ∧ m 115 last ≤ 20) ∧ first = 0 ∧ reach ≤ at' + m 115 last ∧ at' ≤ reach := fun _ => hlast
  have hreachu : ∀ _ : Unit, last = -1 → reach ≤ at' := fun _ => hreach0
  clear h16 hle hlast hreach0
  obtain ⟨h3a, h3b⟩ := h3
  obtain ⟨own, hown⟩ : ∃ own, ∀ _ : Unit, own = if first = 0 then m 114 (o j) else if JOI m o p k then 0 else m 114 (o j) := ⟨_, fun _ => rfl⟩
  have hownb : 0 ≤ own ∧ own ≤ 20 := by
    rw [hown ()]
    by_cases w0 : first = 0
    · rw [if_pos w0]; omega
    · rw [if_neg w0]
      by_cases w1 : JOI m o p k
      · rw [if_pos w1]; omega
      · rw [if_neg w1]; omega
  obtain ⟨to0, hto⟩ : ∃ to0, ∀ _ : Unit, to0 = if last = -1 then at' + own else at' + max (m 115 last) own := ⟨_, fun _ => rfl⟩
  have htob : at' ≤ to0 ∧ to0 ≤ at' + 20 ∧ reach ≤ to0 := by
    rw [hto ()]
    by_cases z : last = -1
    · have := hreachu () z
      rw [if_pos z]; omega
    · have := hlastu () z
      rw [if_neg z]; omega
  have hpt : max at' (mxE m F.toNat) + 20 ≤ 5000 * (j - k - 1) + 20 := by
    split at h3b <;> omega
  clear h3b
  obtain ⟨z1, hz1⟩ : ∃ z1, z1 = max to0 (mxE m F.toNat) := ⟨_, rfl⟩
  obtain ⟨n', hn'⟩ : ∃ n', n' = nw (nw (nw nc 3 (o j) 2 (E + nc 3 (o j) 6)) 3 (o j) 3 (z1 + E)) 5 0 11 (z1 + E + nc 3 (o j) 5) := ⟨_, rfl⟩
  obtain ⟨m', hm'⟩ : ∃ m', m' = yw (yw m 110 (o j) (nc 3 (o j) 6)) 111 (o j) z1 := ⟨_, rfl⟩
  obtain ⟨reach2, hr2⟩ : ∃ reach2, ∀ _ : Unit, reach2 = max reach (z1 + m 113 (o j) + (@ite _ (J (o j)) (Classical.propDecidable _) 0 (m 115 (o j)))) := ⟨_, fun _ => rfl⟩
  obtain ⟨⟨x1, x2, x3⟩, x4, x5, x6⟩ := c4
  -- the class
  have hCL : NL_Layout_layFlow_51 (o k) (o k) (e k) first last j j n = NL_Layout_layFlow_51 (o k) (o k) (e k) 0 (o j) (e j) (e j) n' := by
    have hLn' : LSt n' N o e := by
      unfold LSt at *
      rw [hn', nw_nK (by decide), nw_nK (by decide), nw_nK (by decide), nw_nK (by decide), nw_nK (by decide), nw_nK (by decide), nw_nK (by decide), nw_nK (by decide), nw_nK (by decide)]; exact hLc
    rw [← cl_skip (m := m) (v3 := 0) (v4 := o j) (v := o k) hG hLn' k0 hkN hj.1 _ (j + 1) (Nat.le_refl _) (by omega) (by omega) hnest]
    unfold NL_Layout_layFlow_51
    refine it_inl ?_
    show nb_Layout_layFlow_51 (o k) (o k) (e k) first last j j n = _
    have hl := hLc.2 j (by omega) hjN
    have k3 : ∀ s, s ≠ 2 → s ≠ 3 → n 3 (o j) s = nc 3 (o j) s := fun s x y => (hn.2.1 (o j) s x y).symm
    have k22 : n 22 = nc 22 := (hn.1 22 (by decide)).symm
    have k7 : n 7 = nc 7 := (hn.1 7 (by decide)).symm
    unfold nb_Layout_layFlow_51
    rw [if_pos hj.2, ix_e _ (by omega), k22, hl.1, ix_e _ ho, if_neg (by omega), k3 0 (by decide) (by decide), c2, if_neg (by decide), if_neg (by decide), ix_e _ ho, k7, hl.2.2]
    have hbf : N_Box_isBlockInFlow (o j) n = some 1 := by
      unfold N_Box_isBlockInFlow
      rw [k3 0 (by decide) (by decide), k3 13 (by decide) (by decide), if_pos c2, if_pos hs13]
    unfold nk_Layout_layFlow_146
    rw [hbf]
    simp only [Option.bind_some]
    rw [if_neg (by decide), hcl]
    simp only [Option.bind_some]
    have h205 : ∀ ap, at' + ap = to0 → nk_Layout_layFlow_205 (o k) (o k) (e k) (e j) j (o j) ap nc = some (.inl (0, o j, e j, j + 1, n')) := fun ap hap => by
      unfold nk_Layout_layFlow_205 st
      dsimp only
      rw [hv8, nw_nK (show (5 : Nat) ≠ 3 by decide), a7.1, a6, nw_eq, nw_ns (show (5 : Int) ≠ 3 by decide), nw_ns (show (5 : Int) ≠ 2 by decide), show max (at' + E + ap) (mxE m F.toNat + E) = z1 + E by omega, ck_e _ (by omega), ck_e _ (by omega), ck_e _ (by omega), ck_e _ (by omega), hn']
    have h180 : ∀ w, (last = -1 → at' + w = to0) → nk_Layout_layFlow_180 (o k) (o k) last (e k) (e j) j (o j) w nc = some (.inl (0, o j, e j, j + 1, n')) := fun w hw => by
      unfold nk_Layout_layFlow_180
      by_cases z : last = -1
      · rw [if_pos (by omega)]
        exact h205 w (hw z)
      · have hl := hlastu () z
        rw [if_neg (by omega), hl.2.1.1, hld.2.1.1]
        refine h205 _ ?_
        rw [hto (), if_neg z, hown (), if_pos hl.2.2.1]
    unfold nk_Layout_layFlow_175
    rw [hld.2.1.1]
    by_cases w0 : first = 0
    · rw [if_pos w0]
      exact h180 _ (fun z => by rw [hto (), if_pos z, hown (), if_pos w0])
    · have w1 : first = 1 := by omega
      have h16' := h16u () w1
      rw [if_neg w0]
      by_cases w2 : nc 3 (o k) 16 = 0
      · rw [if_pos w2]
        exact h180 _ (fun z => by rw [hto (), if_pos z, hown (), if_neg w0, if_neg (fun g => h16'.mpr g w2)])
      · rw [if_neg w2]
        exact h180 _ (fun z => by rw [hto (), if_pos z, hown (), if_neg w0, if_pos (h16'.mp w2)])
  -- the reference
  have mf : ∀ f, f ≠ 110 → f ≠ 111 → m' f = m f := fun f x y => by rw [hm', yw_nF y, yw_nF x]
  have hYL : NL_Y_layBlock_89 (o k) th at' last lastEnd first reach (o j) m = NL_Y_layBlock_89 (o k) th (z1 + m 113 (o j)) (o j) (z1 + m 113 (o j)) 0 reach2 (if e j < e k then o (e j) else -1) m' := by
    unfold NL_Y_layBlock_89
    refine it_inl ?_
    show nb_Y_layBlock_89 (o k) th at' last lastEnd first reach (o j) m = _
    have h314 : ∀ c, max reach (z1 + m 113 (o j) + c) = reach2 → 0 ≤ c → c ≤ 20 → nk_Y_layBlock_314 (o k) (z1 + m 113 (o j)) (o j) (z1 + m 113 (o j)) th (o j) c (z1 + m 113 (o j)) reach m' = some (.inl (z1 + m 113 (o j), o j, z1 + m 113 (o j), 0, reach2, (if e j < e k then o (e j) else -1), m')) := fun c hc c0 c1 => by
      unfold nk_Y_layBlock_314
      rw [ck_e _ (by omega), ix_e _ ho, hc, mf 52 (by decide) (by decide), hG.nxE (by omega) hjN, hpj]
    have h200 : nk_Y_layBlock_200 (o k) th reach (o j) to0 m = some (.inl (z1 + m 113 (o j), o j, z1 + m 113 (o j), 0, reach2, (if e j < e k then o (e j) else -1), m')) := by
      unfold nk_Y_layBlock_200 st
      rw [y_ends1 a3 (by omega) (by omega), ← hz1]
      simp only [Option.bind_some]
      rw [y_of ho (by decide), ← x1]
      simp only [Option.bind_some]
      rw [ix_e _ ho, ix_e _ ho, ix_e _ ho, ← hm', mf 113 (by decide) (by decide), ck_e _ (by omega)]
      have hjo' : N_Y_joins (o k) m' = some (if JOI m o p k then 1 else 0) := by
        rw [← hjo]
        unfold N_Y_joins N_Y_edges N_Y_of
        rw [mf 107 (by decide) (by decide), mf 108 (by decide) (by decide), mf 49 (by decide) (by decide), mf 105 (by decide) (by decide)]
      have h307 : ¬ J (o j) → nk_Y_layBlock_307 (o k) (z1 + m 113 (o j)) (o j) (z1 + m 113 (o j)) th (o j) (z1 + m 113 (o j)) reach m' = some (.inl (z1 + m 113 (o j), o j, z1 + m 113 (o j), 0, reach2, (if e j < e k then o (e j) else -1), m')) := fun hn => by
        unfold nk_Y_layBlock_307
        rw [ix_e _ ho, mf 115 (by decide) (by decide)]
        refine h314 _ ?_ (by omega) (by omega)
        rw [hr2 (), if_neg hn]
      by_cases w1 : o j = th
      · rw [if_pos w1, hjo']
        simp only [Option.bind_some]
        by_cases w2 : JOI m o p k
        · rw [if_pos w2, if_neg (show ¬ (1 : Int) = 0 by decide), y_of (hG.oB k0 hkN) (by decide), mf 105 (by decide) (by decide)]
          simp only [Option.bind_some]
          by_cases w3 : m 105 (11 * o k + 7) = -1
          · rw [if_pos w3]
            refine h314 _ ?_ (Int.le_refl _) (by decide)
            rw [hr2 (), if_pos ((hJ _).mpr ⟨w1, w2, w3⟩)]
          · rw [if_neg w3]
            exact h307 (fun h => w3 ((hJ _).mp h).2.2)
        · rw [if_neg w2, if_pos rfl]
          exact h307 (fun h => w2 ((hJ _).mp h).2.1)
      · rw [if_neg w1]
        exact h307 (fun h => w1 ((hJ _).mp h).1)
    have h172 : ∀ w, w = own → nk_Y_layBlock_172 (o k) at' last lastEnd th reach (o j) w m = some (.inl (z1 + m 113 (o j), o j, z1 + m 113 (o j), 0, reach2, (if e j < e k then o (e j) else -1), m')) := fun w hw => by
      subst hw
      unfold nk_Y_layBlock_172
      by_cases z : last = -1
      · have htz := hto ()
        rw [if_pos z] at htz
        rw [if_pos z, ck_e _ (by omega), ← htz, h200]
      · have htz := hto ()
        rw [if_neg z] at htz
        have hl := hlastu () z
        rw [if_neg z, ix_e _ hl.1, hleu () z, ck_e _ (by omega), ← htz, h200]
    unfold nb_Y_layBlock_89 nk_Y_layBlock_153 nk_Y_layBlock_154
    rw [if_neg (by omega), ix_e _ ho, if_neg (by omega), y_isBox ho, if_pos hm1]
    simp only [Option.bind_some]
    rw [if_neg (by decide), ix_e _ ho, if_pos h108]
    by_cases w0 : first = 0
    · rw [if_pos w0, if_pos trivial, ix_e _ ho]
      exact h172 _ (by rw [hown (), if_pos w0])
    · rw [if_neg w0, hjo]
      simp only [Option.bind_some]
      by_cases w2 : JOI m o p k
      · rw [if_pos w2, if_neg (show ¬ (1 : Int) = 0 by decide), if_neg (show ¬ (1 : Int) = 0 by decide)]
        exact h172 _ (by rw [hown (), if_neg w0, if_pos w2])
      · rw [if_neg w2, if_pos rfl, if_pos trivial, ix_e _ ho]
        exact h172 _ (by rw [hown (), if_neg w0, if_neg w2])
  -- what is left
  have rK : ∀ K, K ≠ 3 → K ≠ 5 → n' K = nc K := fun K x y => by rw [hn', nw_nK y, nw_nK x, nw_nK x]
  have r3 : ∀ a, a ≠ o j → n' 3 a = nc 3 a := fun a x => by rw [hn', nw_nK (show (3 : Nat) ≠ 5 by decide), nw_ni x, nw_ni x]
  have r3s : ∀ a s, s ≠ 2 → s ≠ 3 → n' 3 a s = nc 3 a s := fun a s x y => by rw [hn', nw_nK (show (3 : Nat) ≠ 5 by decide), nw_ns y, nw_ns x]
  have r5 : ∀ s, s ≠ 11 → n' 5 0 s = nc 5 0 s := fun s x => by rw [hn', nw_ns x, nw_nK (by decide), nw_nK (by decide)]
  have fr : FRs (o k) nc n' := by
    refine ⟨fun K hK => rK K (fun z => hK (by rw [z]; decide)) (fun z => hK (by rw [z]; decide)), r3s, fun a x y => r3 a (fun z => ?_), fun s x => r5 s (by omega), ⟨by rw [rK 90 (by decide) (by decide)]; exact Int.le_refl _, fun q _ => by rw [rK 92 (by decide) (by decide), rK 93 (by decide) (by decide)]; exact ⟨rfl, rfl⟩, fun q _ _ _ => by rw [rK 99 (by decide) (by decide)], .inl (r5 9 (by decide))⟩, fun _ _ _ => by rw [rK 99 (by decide) (by decide)], fun _ _ _ => by rw [rK 99 (by decide) (by decide)]; exact ⟨rfl, rfl⟩⟩
    rw [z] at y
    rcases y with y | y
    · exact y hHol.2
    · omega
  have fy : FVy (o k) m m' := by
    refine ⟨fun f hf => mf f (fun z => hf (by rw [z]; decide)) (fun z => hf (by rw [z]; decide)), fun a _ y => ?_, fun w _ _ => by rw [mf 121 (by decide) (by decide), mf 122 (by decide) (by decide)]; exact ⟨rfl, rfl⟩⟩
    have hne : a ≠ o j := fun z => y (by rw [z]; exact hHol.1)
    rw [hm', yw_nF (show (110 : Nat) ≠ 111 by decide), yw_ni hne, yw_ni hne, yw_nF (show (111 : Nat) ≠ 110 by decide)]
    exact ⟨rfl, rfl⟩
  have hC' := hC.rs fr fy
  have qf := fun y => flR_m (m := m) (m' := m') (y := y) (F := F) (fun f hf => mf f (by omega) (by omega))
  have hDj : DNb n' m' E (o j) := by
    unfold DNb
    rw [hn', nw_nK (show (3 : Nat) ≠ 5 by decide), nw_eq, nw_ns (show (2 : Int) ≠ 3 by decide), nw_eq, hm', yw_nF (show (110 : Nat) ≠ 111 by decide), yw_eq, yw_eq]
    omega
  refine ⟨n', m', z1 + m 113 (o j), reach2, hCL, hYL, ⟨⟨⟨a1.cg (r5 8 (by decide)) r3s (mf 145 (by decide) (by decide)) (mf 133 (by decide) (by decide)), ⟨by rw [r5 17 (by decide)]; exact a2, by rw [mf 136 (by decide) (by decide)]; exact a3, a4, a4'⟩, a5.cg (fun f _ _ => by rw [rK 43 (by decide) (by decide)]) (fun f x y => ?_) (fun f _ _ => by rw [mf 137 (by decide) (by decide), mf 138 (by decide) (by decide), mf 139 (by decide) (by decide), mf 140 (by decide) (by decide), mf 141 (by decide) (by decide)]; exact ⟨rfl, rfl, rfl, rfl, rfl⟩), by rw [r5 19 (by decide), (qf 0).2.2.2]; exact a6, ⟨by rw [hn', nw_eq, hld.1.1]; omega, by omega⟩, ⟨by rw [r5 10 (by decide)]; exact a8.1, by rw [r5 18 (by decide)]; exact a8.2⟩, fun i j' x y z => by rw [rK 43 (by decide) (by decide)]; exact a9 i j' x y z, by rw [r5 15 (by decide)]; exact a10, fun z => by omega⟩, ?_, ?_, hC'⟩, fun f x y => ?_, ⟨by omega, ?_⟩, fun r x y z => ?_, .inr ⟨j, ⟨hj.1, by omega⟩, rfl, ⟨⟨hV.1, fun a x y z => by rw [mf 107 (by decide) (by decide)]; exact hV.2 a x y z⟩, hpj, by rw [mf 107 (by decide) (by decide)]; exact hm1, by rw [mf 108 (by decide) (by decide)]; exact h108⟩, fun r x y z => ?_, rfl, ?_⟩, .inr rfl⟩, hn.trans fr, fy, ?_⟩
  · refine r3 _ (fun z => ?_)
    obtain ⟨r, g1, g2, g3⟩ := h2 f x y
    have := hG.inj (j := r) (k := j) (by omega) (by omega) (by omega) hjN (by omega)
    omega
  · exact hB.cg (rK 4 (by decide) (by decide)) ⟨r5 5 (by decide), r5 9 (by decide)⟩ (rK 90 (by decide) (by decide)) (rK 91 (by decide) (by decide)) (rK 92 (by decide) (by decide)) (rK 93 (by decide) (by decide))
  · unfold WLc at *
    rw [r5 5 (by decide), r5 9 (by decide), r5 6 (by decide), rK 92 (by decide) (by decide), rK 93 (by decide) (by decide)]; exact hW
  · obtain ⟨r, g1, g2, g3⟩ := h2 f x y
    exact ⟨r, g1, by omega, by rw [rK 43 (by decide) (by decide)]; exact g3⟩
  · rw [(qf 0).2.2.2, if_neg (by omega)]
    have := hld.1
    omega
  · rw [mf 109 (by decide) (by decide)] at z
    rw [mf 107 (by decide) (by decide), mf 116 (by decide) (by decide), r3s _ 19 (by decide) (by decide)]
    by_cases w : r < j
    · have g := h4 r x w z
      have hne : o r ≠ o j := fun u => by have := hG.inj (j := r) (k := j) (by omega) (by omega) (by omega) hjN u; omega
      refine ⟨fun u => ?_, fun u w' x' y' => ?_, fun u w' x' y' => (PRr.cg (fun f hf => mf f (by simp only [List.mem_cons, List.not_mem_nil, or_false] at hf; omega) (by simp only [List.mem_cons, List.not_mem_nil, or_false] at hf; omega))).mpr (g.2.2 u w' x' y')⟩
      · have g1 := g.1 u
        unfold DNb at *
        rw [r3 _ hne, hm', yw_nF (show (110 : Nat) ≠ 111 by decide), yw_ni hne, yw_ni hne, yw_nF (show (111 : Nat) ≠ 110 by decide)]; exact g1
      · have g1 := g.2.1 u w' x' y'
        unfold DNw at *
        rw [r5 5 (by decide), rK 99 (by decide) (by decide), mf 121 (by decide) (by decide), mf 122 (by decide) (by decide)]; exact g1
    · by_cases w' : r = j
      · rw [w']; exact ⟨fun _ => hDj, fun u => by omega, fun u => by omega⟩
      · have hz := hC.deep k0 hkN ⟨hj.1, hjN⟩ (r := r) (by omega) (by omega) z
        exact ⟨fun u => by omega, fun u => by omega, fun u => by omega⟩
  · have := hG.inP (t := j) (k := r) (by omega) hjN x y
    omega
  · rw [mf 115 (by decide) (by decide)]
    by_cases w : J (o j)
    · have hrr := hr2 ()
      rw [if_pos w] at hrr
      exact .inl ⟨w, by omega⟩
    · have hrr := hr2 ()
      rw [if_neg w] at hrr
      exact .inr ⟨w, by omega⟩
  · unfold N_Layout_closeLine
    rw [r5 10 (by decide), a8.1, if_pos rfl]
end X3
