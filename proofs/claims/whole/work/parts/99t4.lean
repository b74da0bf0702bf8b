/-! STYLE SHEETS: a declaration, in both: all of it -/
section T4
variable {n n' : NS} {m m' : YS} {g : Int → Int} {p a b c d i e e' f f' to L x y r v k j q ru : Int} {l : List Int}
theorem cs_skipB (ht : tx n d g L) (h0 : 0 ≤ a ∧ to ≤ L ∧ L ≤ 2000) : N_Sheet_skipBlanks d a to n = some (blA g a to) := cs_skip ht h0
theorem DCr.cg (h : DCr n m ru) (h1 : ∀ j, 11 * ru ≤ j → j < 11 * ru + 11 → n' 39 0 j = n 39 0 j) (h2 : m' 102 = m 102) (h3 : m' 103 = m 103) : DCr n' m' ru := fun p p0 p1 => by
  rw [h1 _ (by omega) (by omega), h2, h3]; exact h p p0 p1
/-- what a declaration leaves as it was -/
def FDn (ru : Int) (n n' : NS) : Prop := (∀ K, K ≠ 39 → n' K = n K) ∧ ∀ j, ¬ (11 * ru ≤ j ∧ j < 11 * ru + 11) → n' 39 0 j = n 39 0 j
theorem FDn.refl : FDn ru n n := ⟨fun _ _ => rfl, fun _ _ => rfl⟩
theorem FDn.trans {n'' : NS} (h : FDn ru n n') (h' : FDn ru n' n'') : FDn ru n n'' := ⟨fun K x => (h'.1 K x).trans (h.1 K x), fun j x => (h'.2 j x).trans (h.2 j x)⟩
/-- a value is declared -/
theorem decl_put (hr : 0 ≤ ru ∧ ru < 40) (hp : 0 ≤ p ∧ p < 11) (hf : f = 0 ∨ f = 1) (hv : 0 ≤ v ∧ v ≤ 1100 ∧ okL p v) (hD : DCr n m ru) : ∃ n' m', (if f = 0 then (ix ((ru * 11) + p) 440 <| if (n 39 0 ((ru * 11) + p)) < 65536 then nk_Sheet_readDeclaration_184 f v ((ru * 11) + p) n else some n) else nk_Sheet_readDeclaration_184 f v ((ru * 11) + p) n) = some n' ∧ nk_Y_readDeclaration_174 to to p v (f + 1) m = some m' ∧ DCr n' m' ru ∧ FDn ru n n' ∧ FY [102, 103] m m' := by
  have e1 : ru * 11 + p = 11 * ru + p := by omega
  rw [e1]
  have hd := hD p hp.1 hp.2
  have hc : nk_Sheet_readDeclaration_184 f v (11 * ru + p) n = some (nw n 39 0 (11 * ru + p) (v + 65536 * f)) := by
    unfold nk_Sheet_readDeclaration_184 nk_Sheet_readDeclaration_205 st
    dsimp only
    rw [ix_e _ (by omega), ix_e _ (by omega), ck_e _ (by omega)]
    rcases hf with z | z
    · rw [if_pos z, z, show v + 65536 * 0 = v by omega]
    · rw [if_neg (by omega), z, show v + 65536 * 1 = v + 65536 by omega]
  have hy : nk_Y_readDeclaration_174 to to p v (f + 1) m = if f + 1 < m 103 p then some m else some (yw (yw m 103 p (f + 1)) 102 p v) := by
    unfold nk_Y_readDeclaration_174 st
    dsimp only
    rw [if_neg (by omega), ix_e _ hp, ix_e _ hp, ix_e _ hp]
  rw [hc, hy, ix_e _ (by omega)]
  -- it is put
  have put : ∃ n' m', (some (nw n 39 0 (11 * ru + p) (v + 65536 * f)) : Option NS) = some n' ∧ (some (yw (yw m 103 p (f + 1)) 102 p v) : Option YS) = some m' ∧ DCr n' m' ru ∧ FDn ru n n' ∧ FY [102, 103] m m' := by
    refine ⟨_, _, rfl, rfl, fun u u0 u1 => ?_, ⟨fun K hK => nw_nK hK, fun j hj => nw_ns (by omega)⟩, fun x hx => ?_⟩
    · by_cases z : u = p
      · rw [z, nw_eq, yw_nF (show (103 : Nat) ≠ 102 by decide), yw_eq, yw_eq]
        rcases hf with y | y
        · exact .inr (.inl ⟨by omega, by omega, hv⟩)
        · exact .inr (.inr ⟨by omega, by omega, hv⟩)
      · rw [nw_ns (by omega), yw_nF (show (103 : Nat) ≠ 102 by decide), yw_ni z, yw_ni z, yw_nF (show (102 : Nat) ≠ 103 by decide)]
        exact hD u u0 u1
    · simp only [List.mem_cons, List.not_mem_nil, or_false, not_or] at hx
      rw [yw_nF hx.1, yw_nF hx.2]
  rcases hf with z | z
  · rw [if_pos z]
    by_cases y : n 39 0 (11 * ru + p) < 65536
    · rw [if_pos y, if_neg (by omega)]; exact put
    · rw [if_neg y, if_pos (by omega)]
      exact ⟨n, m, rfl, rfl, hD, FDn.refl, FY.refl _ _⟩
  · rw [if_neg (by omega), if_neg (by omega)]; exact put
theorem decl_both (ht : tx n d g L) (hg : m 101 = g) (ha : 0 ≤ a ∧ a ≤ to ∧ to ≤ L ∧ L ≤ 400) (htx : ∀ j, 0 ≤ j → j < L → isTx (g j)) (hr : 0 ≤ ru ∧ ru < 40) (h90 : n 90 0 0 ≤ 1000000) (hD : DCr n m ru) : ∃ n' m', N_Sheet_readDeclaration d a to ru n = some n' ∧ N_Y_readDeclaration (blA g a to) to m = some m' ∧ DCr n' m' ru ∧ FDn ru n n' ∧ FY [102, 103, 104] m m' := by
  have hno : ∃ n' m', (some n : Option NS) = some n' ∧ (some m : Option YS) = some m' ∧ DCr n' m' ru ∧ FDn ru n n' ∧ FY [102, 103, 104] m m' := ⟨n, m, rfl, rfl, hD, FDn.refl, FY.refl _ _⟩
  have h1 := blA_ge (g := g) (i := a) (to := to)
  have h2 := blA_le (g := g) (i := a) (to := to) ha.2.1
  unfold N_Sheet_readDeclaration N_Y_readDeclaration
  rw [cs_skipB ht ⟨ha.1, ha.2.2.1, by omega⟩]
  simp only [Option.bind_some]
  generalize blA g a to = at' at *
  have k1 := scx_ge (p := fun j => isSm (g j)) at' to
  have k2 := scx_le (p := fun j => isSm (g j)) (i := at') (to := to) h2
  rw [cs_smalls ht ⟨by omega, ha.2.2.1, by omega⟩, ys_smalls ⟨by omega, by omega⟩ (by omega), hg]
  simp only [Option.bind_some]
  generalize sc (fun j => isSm (g j)) at' to = st' at *
  unfold nk_Sheet_readDeclaration_34 nk_Y_readDeclaration_25
  rw [cs_wordPlace (ws := prN) (i := at') (to := st') ht okS38 (by decide) (by decide) (by omega) (by omega) k1 (by omega), y_prop ⟨by omega, k1, by omega⟩, hg]
  simp only [Option.bind_some]
  rw [cs_skipB ht ⟨by omega, ha.2.2.1, by omega⟩, ys_blanks ⟨by omega, by omega⟩ (by omega), hg]
  simp only [Option.bind_some]
  have hpb := wpF_b (l := sg g at' (st' - at').toNat) prN 0
  have hpl : (prN.length : Int) = 11 := rfl
  rw [hpl] at hpb
  generalize wpF prN (sg g at' (st' - at').toNat) 0 = p at *
  by_cases zp : p = -1
  · rw [if_pos zp, if_pos zp]; exact hno
  rw [if_neg zp, if_neg zp]
  have c1 := blA_ge (g := g) (i := st') (to := to)
  have c2 := blA_le (g := g) (i := st') (to := to) k2
  generalize blA g st' to = co at *
  by_cases zc : co = to
  · rw [if_pos zc, if_neg (by omega)]; exact hno
  rw [if_neg zc, if_pos (show co < to by omega), ix_e _ (show 0 ≤ co ∧ co < 400 by omega)]
  unfold dx
  rw [if_pos ⟨ht.1, by omega, by have := ht.2.1; omega⟩, ht.2.2 co (by omega) (by omega)]
  by_cases z58 : g co = 58
  · rw [if_pos z58, if_pos z58, ck_e _ (by omega), ck_e _ (by omega), cs_skipB ht ⟨by omega, ha.2.2.1, by omega⟩, ys_blanks ⟨by omega, by omega⟩ (by omega), hg]
    simp only [Option.bind_some]
    have b1 := blA_ge (g := g) (i := co + 1) (to := to)
    have b2 := blA_le (g := g) (i := co + 1) (to := to) (by omega)
    generalize blA g (co + 1) to = be at *
    obtain ⟨e1, t1, t2⟩ := cs_trim ht (a := be) (to := to) ⟨by omega, b2, ha.2.2.1, by omega⟩
    rw [t1]
    simp only [Option.bind_some]
    -- the class: where the value ends
    have hX : ∃ e f, (f = 0 ∨ f = 1) ∧ FIN g be to e f ∧ (if be < e1 then ck (e1 - 1) <| (if n 92 0 d = 1 ∧ 0 ≤ e1 - 1 ∧ e1 - 1 < n 93 0 d then (if (n 99 d (e1 - 1)) = 33 then nk_Sheet_readDeclaration_120 d ru p be e1 1 n else nk_Sheet_readDeclaration_119 d ru p be e1 n) else none) else nk_Sheet_readDeclaration_119 d ru p be e1 n) = nk_Sheet_readDeclaration_139 d ru p be e f n := by
      have plain : (be < e1 → g (e1 - 1) ≠ 33) → ∃ e f, (f = 0 ∨ f = 1) ∧ FIN g be to e f ∧ nk_Sheet_readDeclaration_119 d ru p be e1 n = nk_Sheet_readDeclaration_139 d ru p be e f n := fun hn => ⟨e1, 0, .inl rfl, ⟨t2.1, t2.2.2, .inl ⟨rfl, t2.2.1, hn⟩⟩, by unfold nk_Sheet_readDeclaration_119 nk_Sheet_readDeclaration_120; rw [if_pos rfl]⟩
      have tt := t2.1
      by_cases y1 : be < e1
      · rw [if_pos y1, ck_e _ (by omega), if_pos ⟨ht.1, by omega, by have := ht.2.1; omega⟩, ht.2.2 (e1 - 1) (by omega) (by omega)]
        by_cases y2 : g (e1 - 1) = 33
        · rw [if_pos y2]
          obtain ⟨e2, u1, u2⟩ := cs_trim ht (a := be) (to := e1 - 1) ⟨by omega, by omega, by omega, by omega⟩
          refine ⟨e2, 1, .inr rfl, ⟨⟨u2.1.1, by have := u2.1.2; omega⟩, u2.2.2, .inr ⟨rfl, e1 - 1, u2.1.2, by omega, y2, u2.2.1, fun j x y => t2.2.1 j (by omega) y⟩⟩, ?_⟩
          unfold nk_Sheet_readDeclaration_120
          rw [if_neg (by decide), ck_e _ (by omega), u1]; rfl
        · rw [if_neg y2]
          exact plain (fun _ => y2)
      · rw [if_neg y1]
        exact plain (fun y => absurd y y1)
    obtain ⟨e, f, hf, hF, hX⟩ := hX
    rw [hX]
    obtain ⟨v, v1, v2⟩ := c_value (p := p) (b := be) (e := e) ht ⟨by omega, hF.1.1, by have := hF.1.2; omega, by omega⟩ (by omega) h90
    obtain ⟨⟨vy, m1⟩, w1, w2, w3⟩ := y_valueS (m := m) (p := p) (b := be) (to := to) hg ⟨by omega, b2, by omega⟩ (fun j x y => htx j (by omega) (by omega)) (by omega)
    simp only at w2 w3
    have g1 : m1 101 = g := by rw [w2 101 (by decide)]; exact hg
    have D1 : DCr n m1 ru := hD.cg (fun _ _ _ => rfl) (w2 102 (by decide)) (w2 103 (by decide))
    have F1 : FY [102, 103, 104] m m1 := w2.mono (fun x hx => by simp only [List.mem_cons, List.not_mem_nil, or_false] at hx ⊢; omega)
    have hno1 : ∃ n' m', (some n : Option NS) = some n' ∧ (some m1 : Option YS) = some m' ∧ DCr n' m' ru ∧ FDn ru n n' ∧ FY [102, 103, 104] m m' := ⟨n, m1, rfl, rfl, D1, FDn.refl, F1⟩
    unfold nk_Sheet_readDeclaration_139
    rw [v1, w1]
    simp only [Option.bind_some, u2]
    rw [ck_e _ (by omega), ck_e _ (by omega)]
    rcases w3 with ⟨x1, x2⟩ | ⟨x1, x2, x3⟩
    · -- no value
      have hv : v = -1 := by
        rcases v2 with y | y
        · exact y.1
        · exact (x2 e v y hF.1.2 (fun z => hF.stop z)).elim
      rw [if_pos hv, if_pos x1]; exact hno1
    · have hby := x1.by
      rw [if_neg (show ¬ vy = -1 by omega)]
      generalize m1 104 0 = k at *
      have hl : ¬ isBl (g (k - 1)) ∧ g (k - 1) ≠ 33 := hby.2.2 (k - 1) (by omega) (by omega)
      rw [ys_blanks ⟨by omega, by omega⟩ (by omega), g1]
      simp only [Option.bind_some]
      have q1 := blA_ge (g := g) (i := k) (to := to)
      have q2 := blA_le (g := g) (i := k) (to := to) x2
      -- it ends well
      have good : ∀ f', FIN g be to k f' → (f' = 0 ∨ f' = 1) → ∃ n' m', (if v = -1 then some n else if f = 0 then (ix ((ru * 11) + p) 440 <| if (n 39 0 ((ru * 11) + p)) < 65536 then nk_Sheet_readDeclaration_184 f v ((ru * 11) + p) n else some n) else nk_Sheet_readDeclaration_184 f v ((ru * 11) + p) n) = some n' ∧ nk_Y_readDeclaration_174 to to p vy (f' + 1) m1 = some m' ∧ DCr n' m' ru ∧ FDn ru n n' ∧ FY [102, 103, 104] m m' := fun f' hF' hf' => by
        obtain ⟨u1, u2'⟩ := hF.un hF'
        rw [u1] at v2
        have hv : v = vy := by
          rcases v2 with y | y
          · exact absurd x1 (y.2 vy)
          · exact y.un x1
        rw [hv, if_neg (show ¬ vy = -1 by omega), ← u2']
        obtain ⟨n', m', r1, r2, r3, r4, r5⟩ := decl_put (to := to) (p := p) (v := vy) hr (by omega) hf ⟨by omega, by omega, x1.ok (by omega)⟩ D1
        exact ⟨n', m', r1, r2, r3, r4, F1.trans (r5.mono (fun x hx => by simp only [List.mem_cons, List.not_mem_nil, or_false] at hx ⊢; omega))⟩
      -- it doesn't
      have bad : (∀ f', ¬ FIN g be to k f') → v = -1 := fun hb => by
        rcases v2 with y | y
        · exact y.1
        · have := x3 e v y hF.1.2 (fun z => hF.stop z)
          rw [this] at hF
          exact absurd hF (hb f)
      have late : ∀ x, x < to → nk_Y_readDeclaration_174 to x p vy 2 m1 = some m1 ∧ nk_Y_readDeclaration_174 to x p vy 1 m1 = some m1 := fun x hx => by
        unfold nk_Y_readDeclaration_174
        rw [if_pos hx]; exact ⟨rfl, by rw [if_pos hx]⟩
      by_cases y1 : blA g k to < to
      · rw [if_pos y1, ix_e (a := blA g k to) (L := 400) _ ⟨by omega, by omega⟩]
        by_cases y2 : g (blA g k to) = 33
        · rw [if_pos y2, ck_e _ (by omega), ys_blanks ⟨by omega, by omega⟩ (by omega), g1]
          simp only [Option.bind_some]
          have q3 := blA_le (g := g) (i := blA g k to + 1) (to := to) (by omega)
          by_cases y3 : blA g (blA g k to + 1) to = to
          · rw [y3]
            exact good 1 (FIN.of1 ⟨hby.1, x2⟩ hl y1 y2 y3) (.inr rfl)
          · rw [(late _ (by omega)).1, if_pos (bad (fun f' hF' => by
              rcases hF'.rest with u | u
              · omega
              · exact y3 u.2.2.2))]
            exact hno1
        · rw [if_neg y2, (late _ y1).2, if_pos (bad (fun f' hF' => by
            rcases hF'.rest with u | u
            · omega
            · exact y2 u.2.2.1))]
          exact hno1
      · have e2 : blA g k to = to := by omega
        rw [if_neg y1, e2]
        exact good 0 (FIN.of0 ⟨hby.1, x2⟩ hl e2) (.inl rfl)
  · rw [if_neg z58, if_neg z58]; exact hno
end T4
