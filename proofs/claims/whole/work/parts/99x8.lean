/-! A BLOCK IS LAID, in both: all of it -/
section X8
variable {n n' n'' nc : NS} {m m' m'' : YS} {A B N a b c x y q s E F F' v wd u w t k j r v3 v4 v5 v7 x1 x2 x3 x4 x5 x6 f l f' l' H : Int} {o e p : Int → Int}
theorem CTX.jn (h : CTX n m N o e p k) (k0 : 0 ≤ k) (hkN : k < N) (hK : ∀ K, K ≠ 3 → K ≠ 5 → n' K = n K) (h3 : ∀ a s, ¬ (a = o k ∧ (s = 5 ∨ (14 ≤ s ∧ s ≤ 17))) → n' 3 a s = n 3 a s) (h5 : n' 5 0 5 = n 5 0 5) (h6 : n' 5 0 6 = n 5 0 6) (hk : n 3 (o k) 0 = 1) (hm : ∀ f, f ∈ [46, 49, 50, 52, 61, 62, 105, 107, 108, 109, 112, 116, 118, 119, 120, 123] → m' f = m f) (hm3 : ∀ a, a ≠ o k → m' 113 a = m 113 a ∧ m' 114 a = m 114 a ∧ m' 115 a = m 115 a) : CTX n' m' N o e p k := by
  obtain ⟨a1, a2, a3, a4, a5, a6, a7⟩ := h
  refine ⟨by rw [hm 49 (by decide), hm 50 (by decide), hm 52 (by decide)]; exact a1, ?_, ?_, fun r x y => ?_, fun r x y => (a5 r x y).cg (fun a s _ _ z1 z2 z3 z4 z5 => h3 a s (by omega)) (fun a z => ?_) (hK 4 (by decide) (by decide)) h5 h6 (fun j _ _ => by rw [hK 99 (by decide) (by decide)]) (fun f hf => hm f (by simp only [List.mem_cons, List.not_mem_nil, or_false] at hf ⊢; omega)), fun r r' x y z z1 z2 => ?_, fun r x y => ?_⟩
  · unfold LSt at *
    rw [hK 10 (by decide) (by decide), hK 22 (by decide) (by decide), hK 7 (by decide) (by decide)]; exact a2
  · unfold JP at *
    rw [hm 46 (by decide)]; exact a3
  · rw [hK 7 (by decide) (by decide), hm 46 (by decide)]; exact a4 r x y
  · have hne : a ≠ o k := fun w => by rw [w] at z; omega
    exact ⟨h3 a 5 (fun w => hne w.1), (hm3 a hne).1⟩
  · rw [hm 107 (by decide)] at z1 z2
    rw [hm 116 (by decide), h3 _ 19 (by omega)]; exact a6 r r' x y z z1 z2
  · have := a7 r x y
    have hne : o r ≠ o k := fun w => by have := a1.inj (j := r) (k := k) (by omega) y k0 hkN w; omega
    have g := hm3 _ hne
    unfold LDb at *
    rw [h3 _ 5 (fun w => hne w.1), h3 _ 14 (fun w => hne w.1), h3 _ 15 (fun w => hne w.1), hm 107 (by decide), g.1, g.2.1, g.2.2]; exact this
theorem FKj.cg (h : FKj m o p k f j) (h7 : m' 107 = m 107) : FKj m' o p k f j := by
  unfold FKj at *
  rw [h7]; exact h
theorem LKj.cg (h : LKj m o p k l j) (h7 : m' 107 = m 107) : LKj m' o p k l j := by
  unfold LKj at *
  rw [h7]; exact h
theorem block_both (hC : CTX n m N o e p k) (hP : PHC n m N o) (hB : BI A B n) (hW : WLc n) (k0 : 0 ≤ k) (hkN : k < N) (hb : m 107 (o k) = 1) :
    ∃ n' m', ((N_Layout_joinMargins (o k) n).bind fun n12 => N_Layout_layFlow (o k) n12) = some n' ∧ N_Y_layBlock (o k) m = some m' ∧ BLR A B o e k n m n' m' := by
  have hG := hC.1
  have hE := hG.eB k0 hkN
  have ho := hG.oB k0 hkN
  have hN := hG.N1
  have hMk := hC.2.2.2.2.1 k k0 hkN
  obtain ⟨c1, c2, c3, ⟨⟨x1, x2, x3⟩, ⟨x4, x5, x6, x7⟩, x8, x9, x10, x11, x12⟩, c5, c6, c7, c8⟩ := hMk.box (.inl hb)
  have hlk : ∀ pr, 0 ≤ pr → pr < 11 → -1 ≤ m 105 (11 * o k + pr) ∧ m 105 (11 * o k + pr) ≤ 1100 := fun pr a b => (hP.2 k k0 hkN c3.1 pr a b).2.1
  have hokL : okL 7 (m 105 (11 * o k + 7)) := (hP.2 k k0 hkN c3.1 7 (by decide) (by decide)).2.2.2
  have h96 : m 105 (11 * o k + 7) ≤ 96 := (hokL.2.2.2.2.2.2.2.1 rfl).2
  have hk1 : ∀ _ : Unit, k + 1 < e k → p (k + 1) = k := fun _ z => by
    have := hG.pB (k := k + 1) (by omega) (by omega)
    have := hG.inP (t := k) (k := k + 1) k0 hkN (by omega) z
    omega
  clear c5
  obtain ⟨f, _, hf⟩ := y_firstK (x1 := 0) (x2 := 0) hG k0 hkN _ (k + 1) (Nat.le_refl _) (by omega) (by omega) (hk1 ()) (fun r x y => by omega)
  obtain ⟨l, _, hl⟩ := y_lastK (x1 := 0) (x2 := 0) (x3 := 0) (x4 := 0) (x5 := 0) (x6 := 0) hG k0 hkN _ (k + 1) (-1) (Nat.le_refl _) (by omega) (by omega) (hk1 ()) (.inl ⟨rfl, fun r x y => by omega⟩)
  obtain ⟨n12, j1, j2, j3, j4, j5⟩ := c_join hC hP k0 hkN (.inl hb) hf hl
  -- the reference begins
  obtain ⟨m18, hm18⟩ : ∃ m18, m18 = yw (yw (yw m 145 0 (max 0 (n 3 (o k) 4 - 2 * n 3 (o k) 8))) 133 0 (m 105 (11 * o k + 9))) 136 0 0 := ⟨_, rfl⟩
  have m18f : ∀ f, f ≠ 145 → f ≠ 133 → f ≠ 136 → m18 f = m f := fun f a b c => by rw [hm18, yw_nF c, yw_nF b, yw_nF a]
  have m145 : m18 145 0 = max 0 (n 3 (o k) 4 - 2 * n 3 (o k) 8) := by rw [hm18, yw_nF (by decide), yw_nF (by decide), yw_eq]
  have m133 : m18 133 0 = m 105 (11 * o k + 9) := by rw [hm18, yw_nF (by decide), yw_eq]
  have m136 : m18 136 0 = 0 := by rw [hm18, yw_eq]
  have e107 : m18 107 = m 107 := m18f 107 (by decide) (by decide) (by decide)
  have e105 : m18 105 = m 105 := m18f 105 (by decide) (by decide) (by decide)
  -- the class begins
  have b12 : ∀ a s, s ≠ 14 → s ≠ 15 → s ≠ 16 → s ≠ 17 → n12 3 a s = n 3 a s := fun a s y1 y2 y3 y4 => j3 a s (by omega)
  have hBK : BK (nw n12 5 0 8 (o k)) m18 (o k) (n 3 (o k) 8) (n 3 (o k) 4) := by
    refine ⟨nw_eq, ho, ?_, by omega, ?_, c6.2, m145, ?_⟩
    · rw [nw_nK (by decide)]; exact b12 _ 8 (by decide) (by decide) (by decide) (by decide)
    · rw [nw_nK (by decide)]; exact b12 _ 4 (by decide) (by decide) (by decide) (by decide)
    · rw [nw_nK (by decide), m133, ← x7]; exact b12 _ 12 (by decide) (by decide) (by decide) (by decide)
  have hst := c_flow0 hBK
  obtain ⟨n5, hn5⟩ : ∃ n5, n5 = wO (nw (nw (nw (nw (nw (nw (nw n12 5 0 8 (o k)) 5 0 17 0) 5 0 18 0) 5 0 19 (n 3 (o k) 8)) 5 0 10 0) 5 0 11 (n 3 (o k) 8)) 5 0 15 0) (leR m18 0 0 + n 3 (o k) 8) (riR m18 0 0 + n 3 (o k) 8) (nX (n 3 (o k) 8) (neR m18 0 0)) := ⟨_, rfl⟩
  rw [← hn5] at hst
  have k5 : ∀ K, K ≠ 5 → n5 K = n12 K := fun K a => by rw [hn5, wO_K a, nw_nK a, nw_nK a, nw_nK a, nw_nK a, nw_nK a, nw_nK a, nw_nK a]
  have s5 : ∀ s, s < 8 ∨ s = 9 → n5 5 0 s = n 5 0 s := fun s a => by rw [hn5, wO_s (by omega) (by omega) (by omega), nw_ns (by omega), nw_ns (by omega), nw_ns (by omega), nw_ns (by omega), nw_ns (by omega), nw_ns (by omega), nw_ns (by omega), j2 5 (by decide)]
  have kn : ∀ K, K ≠ 3 → K ≠ 5 → n5 K = n K := fun K a b => by rw [k5 K b, j2 K a]
  have k53 : ∀ a s, ¬ (a = o k ∧ 14 ≤ s ∧ s ≤ 17) → n5 3 a s = n 3 a s := fun a s h => by rw [k5 3 (by decide)]; exact j3 a s h
  have v17 : n5 5 0 17 = 0 := by rw [hn5, wO_s (by decide) (by decide) (by decide), nw_ns (by decide), nw_ns (by decide), nw_ns (by decide), nw_ns (by decide), nw_ns (by decide), nw_eq]
  have v18 : n5 5 0 18 = 0 := by rw [hn5, wO_s (by decide) (by decide) (by decide), nw_ns (by decide), nw_ns (by decide), nw_ns (by decide), nw_ns (by decide), nw_eq]
  have v19 : n5 5 0 19 = n 3 (o k) 8 := by rw [hn5, wO_s (by decide) (by decide) (by decide), nw_ns (by decide), nw_ns (by decide), nw_ns (by decide), nw_eq]
  have v10 : n5 5 0 10 = 0 := by rw [hn5, wO_s (by decide) (by decide) (by decide), nw_ns (by decide), nw_ns (by decide), nw_eq]
  have v11 : n5 5 0 11 = n 3 (o k) 8 := by rw [hn5, wO_s (by decide) (by decide) (by decide), nw_ns (by decide), nw_eq]
  have v15 : n5 5 0 15 = 0 := by rw [hn5, wO_s (by decide) (by decide) (by decide), nw_eq]
  have v8 : n5 5 0 8 = o k := by rw [hn5, wO_s (by decide) (by decide) (by decide), nw_ns (by decide), nw_ns (by decide), nw_ns (by decide), nw_ns (by decide), nw_ns (by decide), nw_ns (by decide), nw_eq]
  have hC5 : CTX n5 m18 N o e p k := hC.jn k0 hkN kn (fun a s h => k53 a s (fun z => h ⟨z.1, .inr z.2⟩)) (s5 5 (by omega)) (s5 6 (by omega)) c2 (fun f hf => m18f f (fun z => by rw [z] at hf; revert hf; decide) (fun z => by rw [z] at hf; revert hf; decide) (fun z => by rw [z] at hf; revert hf; decide)) (fun a _ => by rw [m18f 113 (by decide) (by decide) (by decide), m18f 114 (by decide) (by decide) (by decide), m18f 115 (by decide) (by decide) (by decide)]; exact ⟨rfl, rfl, rfl⟩)
  have hB5 : BI A B n5 := hB.cg (kn 4 (by decide) (by decide)) ⟨s5 5 (by omega), s5 9 (by omega)⟩ (kn 90 (by decide) (by decide)) (kn 91 (by decide) (by decide)) (kn 92 (by decide) (by decide)) (kn 93 (by decide) (by decide))
  have hW5 : WLc n5 := by
    unfold WLc at *
    rw [s5 5 (by omega), s5 9 (by omega), s5 6 (by omega), kn 92 (by decide) (by decide), kn 93 (by decide) (by decide)]; exact hW
  have hBK5 : BK n5 m18 (o k) (n 3 (o k) 8) (n 3 (o k) 4) := hBK.cg (by rw [v8, nw_eq]) (fun a s _ _ => by rw [k5 3 (by decide), nw_nK (by decide)]) rfl rfl
  have hJOI : JOI m18 o p k ↔ JOI m o p k := by unfold JOI; rw [e107, m18f 108 (by decide) (by decide) (by decide), e105]
  have hO : OUTS A B (n 3 (o k) 8) (n 3 (o k) 4) N o e p k (k + 1) n5 m18 0 0 (-1) 1 0 (fun x => x = l ∧ JOI m18 o p k ∧ m18 105 (11 * o k + 7) = -1) := by
    refine ⟨⟨⟨hBK5, ⟨v17, m136, Int.le_refl _, by decide⟩, fun f x y => by omega, ?_, ⟨by rw [v11]; omega, Int.le_refl _⟩, ⟨v10, v18⟩, fun i j x y z => by omega, .inl v15, fun _ => ⟨?_, ?_, ?_⟩⟩, hB5, hW5, hC5⟩, fun f x y => by omega, ⟨by omega, ?_⟩, fun r x y => by omega, .inl ⟨rfl, Int.le_refl _, Int.le_refl _⟩, .inl ⟨rfl, fun r x y => by omega, rfl⟩⟩
    · rw [v19]; show _ = mxE m18 0 + _; simp only [mxE]; omega
    · rw [hn5, wO_a]; rfl
    · rw [hn5, wO_b]; rfl
    · rw [hn5, wO_c]; rfl
    · rw [if_pos rfl]; show max 0 (mxE m18 0) + 0 ≤ _; simp only [mxE]; omega
  have hcl5 : N_Layout_closeLine n5 = some n5 := by unfold N_Layout_closeLine; rw [v10, if_pos rfl]
  have hf18 : FKj m18 o p k f (e k) := hf.cg e107
  have hl18 : LKj m18 o p k l (e k) := hl.cg e107
  obtain ⟨n20, nc', m32, F', at2, last2, first2, reach2, r1, r2, r3, r4, r5, r6⟩ := flow_both (th := l) k0 hkN _ (k + 1) n5 n5 m18 0 0 (-1) 0 1 0 (Nat.le_refl _) (by omega) (by omega) hcl5 FRs.refl (.inl rfl) hO (fun w => ⟨⟨by omega, fun a x y => by omega⟩, hk1 () w⟩) (by rw [e107]; exact hb) (fun x => Iff.rfl) (fun j hbj hr => by
    have hEj := hbj.1.1
    have hfo : f = o j := hf18.un (.inr ⟨j, hbj.1.1, hbj.2.1, rfl, by have := hbj.2.2.1; omega, hr⟩)
    have hIF : IFk m f := by
      have hoj := hG.oB (k := j) (by omega) (by omega)
      refine ⟨by omega, ?_, ?_⟩
      · rw [hfo, ← e107]; exact hbj.2.2.1
      · rw [hfo, ← m18f 108 (by decide) (by decide) (by decide)]; exact hbj.2.2.2
    rw [hJOI, k5 3 (by decide)]
    constructor
    · intro h
      by_cases z : JOI m o p k
      · exact z
      · exact absurd (j4.2 (fun g => z g.1)).2 h
    · intro h
      have := (j4.1 ⟨h, hIF⟩).2
      omega) (fun w => absurd rfl w)
  obtain ⟨⟨⟨o1, ⟨o2, o3, o4, o4'⟩, o5, o6, o7, o8, o9, o10, o11⟩, hB', hW', hC'⟩, o12, o13, o14, o15, o16⟩ := r4
  clear o11 o16
  have e107' : m32 107 = m 107 := by rw [r6.1 107 (by decide), e107]
  have e105' : m32 105 = m 105 := by rw [r6.1 105 (by decide), e105]
  have hmE := (mxE_ge (m := m32) F'.toNat).1
  have h13b : max at2 (mxE m32 F'.toNat) ≤ 5000 * (e k - k - 1) ∧ (last2 ≠ -1 → max at2 (mxE m32 F'.toNat) + 20 ≤ 5000 * (e k - k - 1)) := by
    have := o13.2
    by_cases z : last2 = -1
    · rw [if_pos z] at this; exact ⟨by omega, fun w => absurd z w⟩
    · rw [if_neg z] at this; exact ⟨by omega, fun _ => by omega⟩
  clear o13
  -- how high it is
  obtain ⟨Hh, hHh⟩ : ∃ Hh, Hh = max (max reach2 at2) (mxE m32 F'.toNat) := ⟨_, rfl⟩
  have n17 : nc' 3 (o k) 17 = n12 3 (o k) 17 := by rw [r5.2.1 _ 17 (by decide) (by decide), k5 3 (by decide)]
  have hH : ∃ nX, (if last2 < 0 then nk_Layout_layFlow_379 (o k) (o k) nc' else if nc' 3 (o k) 17 = 0 then ck ((nc' 5 0 11) + (nc' 3 last2 15)) <| st (nw nc' 5 0 11 ((nc' 5 0 11) + (nc' 3 last2 15))) fun n37 => nk_Layout_layFlow_379 (o k) (o k) n37 else nk_Layout_layFlow_379 (o k) (o k) nc') = N_Layout_setHeight (o k) (o k) Hh nX ∧ (nX = nc' ∨ ∃ x, nX = nw nc' 5 0 11 x) ∧ (0 ≤ Hh ∧ Hh ≤ 5000 * (e k - k - 1)) ∧ 0 ≤ reach2 := by
    have h379 : ∀ nX : NS, nX 3 = nc' 3 → nX 5 0 19 = nc' 5 0 19 → max (nX 5 0 11) (mxE m32 F'.toNat + n 3 (o k) 8) = Hh + n 3 (o k) 8 → Hh ≤ 1000000 → 0 ≤ Hh → nk_Layout_layFlow_379 (o k) (o k) nX = N_Layout_setHeight (o k) (o k) Hh nX := fun nX g3 g19 gm gb gb0 => by
      unfold nk_Layout_layFlow_379
      rw [g19, o6, gm, g3, o1.2.2.1, show Hh + n 3 (o k) 8 - n 3 (o k) 8 = Hh by omega, ck_e _ (by omega)]
      cases N_Layout_setHeight (o k) (o k) Hh nX <;> rfl
    rcases o15 with ⟨z1, z2, z3⟩ | ⟨q, ⟨q1, q2⟩, q3, q4, q5, q6, q7⟩
    · have hh2 : Hh = max at2 (mxE m32 F'.toNat) := by omega
      refine ⟨nc', ?_, .inl rfl, by omega, z2⟩
      rw [if_pos (by omega)]
      exact h379 nc' rfl rfl (by rw [o7.1]; omega) (by omega) (by omega)
    · have hqo := hG.oB (k := q) (by omega) (by omega)
      have hld := hC'.2.2.2.2.2.2 q q1 (by omega) q4.2.2.1
      rw [q3] at hqo hld
      have hll : last2 = l := (LKj.un (m := m32) (.inr ⟨q, ⟨q1, q2⟩, q4.2.1, q3, by have := q4.2.2.1; omega, q5⟩) (hl.cg e107'))
      have hIF : IFk m l := by
        refine ⟨by omega, ?_, ?_⟩
        · rw [← hll, ← q3, ← e107']; exact q4.2.2.1
        · rw [← hll, ← q3, ← m18f 108 (by decide) (by decide) (by decide), ← r6.1 108 (by decide)]; exact q4.2.2.2
      have hslack := h13b.2 (by omega)
      have hat0 := o7.2
      rcases q7 with ⟨w1, w2⟩ | ⟨w1, w2⟩
      · have hj17 : nc' 3 (o k) 17 ≠ 0 := by
          rw [n17, (j5.1 ⟨hJOI.mp w1.2.1, hIF, by rw [← e105]; exact w1.2.2⟩).2]; decide
        have hh2 : Hh = max at2 (mxE m32 F'.toNat) := by omega
        refine ⟨nc', ?_, .inl rfl, by omega, by omega⟩
        rw [if_neg (by omega), if_neg hj17]
        exact h379 nc' rfl rfl (by rw [o7.1]; omega) (by omega) (by omega)
      · have hj17 : nc' 3 (o k) 17 = 0 := by
          rw [n17]
          exact (j5.2 (fun g => w1 ⟨hll, hJOI.mpr g.1, by rw [e105]; exact g.2.2⟩)).2
        have hh2 : Hh = max (at2 + m32 115 last2) (mxE m32 F'.toNat) := by omega
        refine ⟨nw nc' 5 0 11 (nc' 5 0 11 + nc' 3 last2 15), ?_, .inr ⟨_, rfl⟩, by omega, by omega⟩
        unfold st
        dsimp only
        rw [if_neg (by omega), if_pos hj17, ck_e _ (by rw [o7.1, hld.2.2.1]; omega)]
        exact h379 _ (nw_nK (by decide)) (nw_ns (by decide)) (by rw [nw_eq, o7.1, hld.2.2.1]; omega) (by omega) (by omega)
  obtain ⟨nX, hX1, hX2, hX3, hr0⟩ := hH
  have hat0 := o7.2
  have XK : ∀ K, K ≠ 5 → nX K = nc' K := fun K a => by
    rcases hX2 with z | ⟨x, z⟩
    · rw [z]
    · rw [z, nw_nK a]
  have X5 : ∀ s, s ≠ 11 → nX 5 0 s = nc' 5 0 s := fun s a => by
    rcases hX2 with z | ⟨x, z⟩
    · rw [z]
    · rw [z, nw_ns a]
  have E8 : nX 3 (o k) 8 = n 3 (o k) 8 := by rw [XK 3 (by decide)]; exact o1.2.2.1
  have hLX : LKs nX m N o := by
    intro r a b c pr p0 p1
    rw [XK 41 (by decide), r5.1 41 (by decide), kn 41 (by decide) (by decide)]; exact hP.2 r a b c pr p0 p1
  have hset := c_setH (H := Hh) hLX k0 hkN ho c3.1 (by rw [E8]; omega) (by omega)
  rw [E8] at hset
  obtain ⟨hgt, hhgt⟩ : ∃ hgt, ∀ _ : Unit, hgt = (if m 105 (11 * o k + 7) = -1 then 2 * n 3 (o k) 8 + Hh else max (m 105 (11 * o k + 7)) (2 * n 3 (o k) 8)) := ⟨_, fun _ => rfl⟩
  have hgb : 0 ≤ hgt ∧ hgt ≤ 5000 * (e k - k) - 500 := by
    have := hhgt ()
    by_cases z : m 105 (11 * o k + 7) = -1
    · rw [if_pos z] at this; omega
    · rw [if_neg z] at this; omega
  rw [← hhgt ()] at hset
  obtain ⟨nZ, hnZ⟩ : ∃ nZ, nZ = nw nX 3 (o k) 5 hgt := ⟨_, rfl⟩
  rw [← hnZ] at hset
  -- the reference ends
  obtain ⟨m49, hm49⟩ : ∃ m49, m49 = yw m32 113 (o k) hgt := ⟨_, rfl⟩
  have f49 : ∀ f, f ≠ 113 → m49 f = m32 f := fun f a => by rw [hm49, yw_nF a]
  have hyh : N_Y_heightOf (o k) Hh m32 = some hgt := by
    have g4 := hlk 4 (by decide) (by decide)
    have g5 := hlk 5 (by decide) (by decide)
    rw [y_heightOf ho (by rw [e105']; omega) (by omega), hhgt (), e105', ← x3]
    by_cases z : m 105 (11 * o k + 7) = -1
    · rw [if_pos z, if_pos z, Int.add_comm]
    · rw [if_neg z, if_neg z]
  have hC49 : CTX nc' m49 N o e p k := hC'.jn k0 hkN (fun _ _ _ => rfl) (fun _ _ _ => rfl) rfl rfl (by rw [r5.2.1 _ 0 (by decide) (by decide), k53 _ 0 (by omega)]; exact c2) (fun f hf => f49 f (fun z => by rw [z] at hf; revert hf; decide)) (fun a ha => by rw [hm49, yw_ni ha, yw_nF (show (114 : Nat) ≠ 113 by decide), yw_nF (show (115 : Nat) ≠ 113 by decide)]; exact ⟨rfl, rfl, rfl⟩)
  have e49 : m49 107 = m 107 := by rw [f49 107 (by decide), e107']
  have e549 : m49 105 = m 105 := by rw [f49 105 (by decide), e105']
  have e849 : m49 108 = m 108 := by rw [f49 108 (by decide), r6.1 108 (by decide), m18f 108 (by decide) (by decide) (by decide)]
  obtain ⟨m5, q1, q2, q3, q4, q5⟩ := y_540 hC49 k0 hkN (by rw [e49]; exact hb) (hf.cg e49) (hl.cg e49)
  have hJ49 : JOI m49 o p k ↔ JOI m o p k := by unfold JOI; rw [e49, e849, e549]
  have hI49 : ∀ x, IFk m49 x ↔ IFk m x := fun x => by unfold IFk; rw [e49, e849]
  have e114 : ∀ a, a ≠ o k → m49 114 a = m 114 a ∧ m49 115 a = m 115 a := fun a _ => by rw [f49 114 (by decide), f49 115 (by decide), r6.1 114 (by decide), r6.1 115 (by decide), m18f 114 (by decide) (by decide) (by decide), m18f 115 (by decide) (by decide) (by decide)]; exact ⟨rfl, rfl⟩
  have h105 : m49 105 (11 * o k + 3) = n 3 (o k) 6 := by rw [e549, x1]
  -- margins are the same
  have kidb : ∀ x, FKj m o p k x (e k) ∨ LKj m o p k x (e k) → IFk m x → x ≠ o k ∧ (0 ≤ m 114 x ∧ m 114 x ≤ 20) ∧ (0 ≤ m 115 x ∧ m 115 x ≤ 20) := fun x hx hi => by
    have key : ∀ q, k < q → q < e k → o q = x → x ≠ o k ∧ (0 ≤ m 114 x ∧ m 114 x ≤ 20) ∧ (0 ≤ m 115 x ∧ m 115 x ≤ 20) := fun q a b c => by
      have hld := hC.2.2.2.2.2.2 q a (by omega) (by rw [c]; exact hi.2.1)
      rw [c] at hld
      refine ⟨fun z => ?_, by omega, by omega⟩
      have := hG.inj (j := q) (k := k) (by omega) (by omega) k0 hkN (by rw [c]; exact z)
      omega
    rcases hx with (⟨z, _⟩ | ⟨q, ⟨a1, a2⟩, _, a4, _⟩) | (⟨z, _⟩ | ⟨q, ⟨a1, a2⟩, _, a4, _⟩)
    · exact absurd z hi.1
    · exact key q a1 a2 a4
    · exact absurd z hi.1
    · exact key q a1 a2 a4
  have ab : n12 3 (o k) 14 = m5 114 (o k) ∧ 0 ≤ n12 3 (o k) 14 ∧ n12 3 (o k) 14 ≤ 20 := by
    by_cases z : JOI m o p k ∧ IFk m f
    · have g1 := (j4.1 z).1
      have g2 := q4.1 ⟨hJ49.mpr z.1, (hI49 f).mpr z.2⟩
      have g3 := kidb f (.inl hf) z.2
      rw [h105, (e114 f g3.1).1] at g2
      omega
    · have g1 := (j4.2 z).1
      have g2 := q4.2 (fun g => z ⟨hJ49.mp g.1, (hI49 f).mp g.2⟩)
      rw [h105] at g2
      omega
  have be : n12 3 (o k) 15 = m5 115 (o k) ∧ 0 ≤ n12 3 (o k) 15 ∧ n12 3 (o k) 15 ≤ 20 := by
    by_cases z : JOI m o p k ∧ IFk m l ∧ m 105 (11 * o k + 7) = -1
    · have g1 := (j5.1 z).1
      have g2 := q5.1 ⟨hJ49.mpr z.1, (hI49 l).mpr z.2.1, by rw [e549]; exact z.2.2⟩
      have g3 := kidb l (.inr hl) z.2.1
      rw [h105, (e114 l g3.1).2] at g2
      omega
    · have g1 := (j5.2 z).1
      have g2 := q5.2 (fun g => z ⟨hJ49.mp g.1, (hI49 l).mp g.2.1, by rw [← e549]; exact g.2.2⟩)
      rw [h105] at g2
      omega
  clear j4 j5 q4 q5
  have m5f : ∀ f, f ≠ 113 → f ≠ 114 → f ≠ 115 → m5 f = m32 f := fun f a b c => by
    rw [q2 f (by simp only [List.mem_cons, List.not_mem_nil, or_false, not_or]; omega)]; exact f49 f a
  have Z3 : ∀ a s, ¬ (a = o k ∧ s = 5) → nZ 3 a s = nc' 3 a s := fun a s h => by
    rw [hnZ]
    by_cases z : a = o k
    · rw [nw_ns (fun w => h ⟨z, w⟩), XK 3 (by decide)]
    · rw [nw_ni z, XK 3 (by decide)]
  have ZK : ∀ K, K ≠ 3 → K ≠ 5 → nZ K = nc' K := fun K a b => by rw [hnZ, nw_nK a, XK K b]
  have Z5 : ∀ s, s ≠ 11 → nZ 5 0 s = nc' 5 0 s := fun s a => by rw [hnZ, nw_nK (by decide), X5 s a]
  refine ⟨nZ, m5, ?_, ?_, ?_, ?_, ⟨fun K hK => ?_, fun a s y1 y2 y3 => ?_, fun a y1 y2 => ?_, fun s y1 => ?_, ⟨?_, fun q hq => ?_, fun q y1 y2 y3 => ?_, ?_⟩, fun j y1 y2 => ?_, fun i y1 y2 => ?_⟩, ⟨fun f hf' => ?_, fun a ha => ?_, fun a y1 y2 => ?_, fun w y1 y2 => ?_⟩, fun _ => ⟨⟨?_, ?_, ?_⟩, ⟨?_, ?_, ?_⟩, ⟨?_, ?_, ?_⟩⟩, ?_⟩
  · -- the class does so
    rw [j1]
    simp only [Option.bind_some]
    unfold N_Layout_layFlow
    have l1 := hC5.2.1.2 k k0 hkN
    rw [ix_e _ ho, hst]
    simp only [Option.bind_some]
    rw [ix_e _ ho, ix_e _ ho, l1.2.1, l1.2.2, ck_e _ (by omega), r1]
    simp only [Option.bind_some, u2]
    rw [r2]
    simp only [Option.bind_some]
    rw [hX1, hset]
  · unfold N_Y_layBlock
    have g4 := hlk 4 (by decide) (by decide)
    have g5 := hlk 5 (by decide) (by decide)
    rw [y_inner ho (by omega) (by omega), ← c6.1, ← x3]
    simp only [Option.bind_some]
    unfold st
    dsimp only
    rw [y_of ho (by decide), yw_nF (show (105 : Nat) ≠ 145 by decide)]
    simp only [Option.bind_some]
    rw [← hm18, ix_e _ ho]
    have hG18 := hC5.1
    obtain ⟨l', g6, g7⟩ := y_lastK (m := m18) (x1 := o k) (x2 := 0) (x3 := -1) (x4 := 0) (x5 := 1) (x6 := 0) hG18 k0 hkN _ (k + 1) (-1) (Nat.le_refl _) (by omega) (by omega) (hk1 ()) (.inl ⟨rfl, fun r x y => by omega⟩)
    rw [g7.un hl18] at g6
    rw [hG18.fkE k0 hkN, g6]
    simp only [Option.bind_some]
    rw [ix_e _ ho, r3]
    simp only [Option.bind_some, u3]
    rw [y_ends2 o3 ⟨o4, by omega⟩ (by omega), ← hHh]
    simp only [Option.bind_some]
    rw [hyh]
    simp only [Option.bind_some]
    rw [ix_e _ ho, ← hm49, ix_e _ ho]
    have hG49 := hC49.1
    obtain ⟨f', g8, g9⟩ := y_firstK (m := m49) (x1 := o k) (x2 := l) hG49 k0 hkN _ (k + 1) (Nat.le_refl _) (by omega) (by omega) (hk1 ()) (fun r x y => by omega)
    rw [g9.un (hf.cg e49)] at g8
    rw [hG49.fkE k0 hkN, g8]
    simp only [Option.bind_some]
    exact q1
  · exact hB'.cg (ZK 4 (by decide) (by decide)) ⟨Z5 5 (by decide), Z5 9 (by decide)⟩ (ZK 90 (by decide) (by decide)) (ZK 91 (by decide) (by decide)) (ZK 92 (by decide) (by decide)) (ZK 93 (by decide) (by decide))
  · unfold WLc at hW' ⊢
    rw [Z5 5 (by decide), Z5 9 (by decide), Z5 6 (by decide), ZK 92 (by decide) (by decide), ZK 93 (by decide) (by decide)]; exact hW'
  · have h3 : K ≠ 3 := fun z => hK (by rw [z]; decide)
    have h5 : K ≠ 5 := fun z => hK (by rw [z]; decide)
    rw [ZK K h3 h5, r5.1 K hK, kn K h3 h5]
  · rw [Z3 a s (fun z => y3 ⟨z.1, .inl z.2⟩), r5.2.1 a s y1 y2, k53 a s (fun z => y3 ⟨z.1, .inr z.2⟩)]
  · rw [Z3 a 2 (by omega), Z3 a 3 (by omega), r5.2.2.1 a y1 (by rw [k53 a 1 (by omega), k53 a 0 (by omega)]; exact y2), k53 a 2 (by omega), k53 a 3 (by omega)]
    exact ⟨rfl, rfl⟩
  · rw [Z5 s (by omega), r5.2.2.2.1 s (by omega), s5 s (by omega)]
  · rw [ZK 90 (by decide) (by decide)]
    have := r5.2.2.2.2.1.1
    rw [kn 90 (by decide) (by decide)] at this; exact this
  · have := r5.2.2.2.2.1.2.1 q (by rw [kn 90 (by decide) (by decide)]; exact hq)
    rw [ZK 92 (by decide) (by decide), ZK 93 (by decide) (by decide), this.1, this.2, kn 92 (by decide) (by decide), kn 93 (by decide) (by decide)]
    exact ⟨rfl, rfl⟩
  · rw [ZK 99 (by decide) (by decide), r5.2.2.2.2.1.2.2.1 q (by rw [kn 90 (by decide) (by decide)]; exact y1) (by rw [s5 5 (by omega)]; exact y2) (by rw [s5 9 (by omega)]; exact y3), kn 99 (by decide) (by decide)]
  · rw [Z5 9 (by decide)]
    have := r5.2.2.2.2.1.2.2.2
    rw [kn 90 (by decide) (by decide), s5 9 (by omega)] at this; exact this
  · have := r5.2.2.2.2.2.1 j y1 y2
    rw [s5 5 (by omega), kn 99 (by decide) (by decide)] at this
    rw [ZK 99 (by decide) (by decide)]; exact this
  · have := r5.2.2.2.2.2.2 i y1 (by rw [s5 5 (by omega), kn 99 (by decide) (by decide), k53 _ 1 (by omega)]; exact y2)
    rw [s5 5 (by omega), kn 99 (by decide) (by decide)] at this
    rw [ZK 99 (by decide) (by decide)]; exact this
  · simp only [List.mem_cons, List.not_mem_nil, or_false, not_or] at hf'
    rw [m5f f (by omega) (by omega) (by omega), r6.1 f (by simp only [List.mem_cons, List.not_mem_nil, or_false, not_or]; omega), m18f f (by omega) (by omega) (by omega)]
  · have g := q3 a ha
    rw [g.1, g.2, (e114 a ha).1, (e114 a ha).2, q2 113 (by decide), hm49, yw_ni ha, r6.1 113 (by decide), m18f 113 (by decide) (by decide) (by decide)]
    exact ⟨rfl, rfl, rfl⟩
  · have g := r6.2.1 a y1 (by rw [m18f 109 (by decide) (by decide) (by decide)]; exact y2)
    rw [m5f 110 (by decide) (by decide) (by decide), m5f 111 (by decide) (by decide) (by decide), g.1, g.2, m18f 110 (by decide) (by decide) (by decide), m18f 111 (by decide) (by decide) (by decide)]
    exact ⟨rfl, rfl⟩
  · have g := r6.2.2 w y1 (by rw [m18f 109 (by decide) (by decide) (by decide), m18f 118 (by decide) (by decide) (by decide)]; exact y2)
    rw [m5f 121 (by decide) (by decide) (by decide), m5f 122 (by decide) (by decide) (by decide), g.1, g.2, m18f 121 (by decide) (by decide) (by decide), m18f 122 (by decide) (by decide) (by decide)]
    exact ⟨rfl, rfl⟩
  · rw [hnZ, nw_eq, q2 113 (by decide), hm49, yw_eq]
  · rw [hnZ, nw_eq]; omega
  · rw [hnZ, nw_eq]; omega
  · rw [Z3 _ 14 (by omega), r5.2.1 _ 14 (by decide) (by decide), k5 3 (by decide)]; exact ab.1
  · rw [Z3 _ 14 (by omega), r5.2.1 _ 14 (by decide) (by decide), k5 3 (by decide)]; omega
  · rw [Z3 _ 14 (by omega), r5.2.1 _ 14 (by decide) (by decide), k5 3 (by decide)]; omega
  · rw [Z3 _ 15 (by omega), r5.2.1 _ 15 (by decide) (by decide), k5 3 (by decide)]; exact be.1
  · rw [Z3 _ 15 (by omega), r5.2.1 _ 15 (by decide) (by decide), k5 3 (by decide)]; omega
  · rw [Z3 _ 15 (by omega), r5.2.1 _ 15 (by decide) (by decide), k5 3 (by decide)]; omega
  · exact o14.cg (fun a s hs => Z3 a s (by omega)) (Z5 5 (by decide)) (ZK 99 (by decide) (by decide)) (fun f hf' => m5f f (by omega) (by omega) (by omega))
end X8
