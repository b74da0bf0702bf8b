/-! MARGINS THAT JOIN, in the class -/
/-- a kid that is a block in the flow -/
abbrev IFk (m : YS) (x : Int) : Prop := x ≠ -1 ∧ (m 107 x = 1 ∨ m 107 x = 2) ∧ m 108 x = 0
section X6
variable {n n' n'' nc : NS} {m m' m'' : YS} {A B N a b c x y q s E F F' v wd u w t k j r v3 v4 v5 v7 x1 x2 x3 x4 x5 x6 f l f' l' : Int} {o e p : Int → Int}
theorem c_bif (hM : MSk n m o e p q) (hq : 1 ≤ q) (h3 : ∀ s, s = 0 ∨ s = 13 → n' 3 (o q) s = n 3 (o q) s) (hne : o q ≠ -1) : N_Box_isBlockInFlow (o q) n' = some (if IFk m (o q) then 1 else 0) := by
  unfold N_Box_isBlockInFlow
  rw [h3 0 (by omega), h3 13 (by omega)]
  by_cases z : m 107 (o q) = 1 ∨ m 107 (o q) = 2
  · obtain ⟨c1, c2, c3, c4, c5, c6, c7, c8⟩ := hM.box z
    rw [if_pos c2]
    rcases (c7.2 hq).2.1 with w | w
    · rw [if_pos w.2, if_pos ⟨hne, z, w.1⟩]
    · rw [if_neg (by omega), if_neg (fun h => by have := h.2.2; omega)]
  · have : n 3 (o q) 0 ≠ 1 := fun w => by
      rcases hM with ⟨y, y'⟩ | ⟨_, y | y | y | y | y⟩
      · omega
      · exact z y.1
      · have := y.2.1; omega
      · omega
      · omega
      · omega
    rw [if_neg this, if_neg (fun h => z h.2.1)]
/-- may it join: the same in both -/
theorem joi_iff (hC : CTX n m N o e p k) (k0 : 0 ≤ k) (hkN : k < N) (hb : m 107 (o k) = 1 ∨ m 107 (o k) = 2) : JOI m o p k ↔ (o k ≠ 0 ∧ n 3 (o k) 13 = 0 ∧ n 3 (o k) 8 = 0 ∧ m 105 (11 * o k) = 0 ∧ m 105 (11 * o (p k)) = 0) := by
  have hG := hC.1
  have ho := hG.oB k0 hkN
  obtain ⟨c1, c2, c3, ⟨⟨x1, x2, x3⟩, x4⟩, c5, c6, c7, c8⟩ := (hC.2.2.2.2.1 k k0 hkN).box hb
  by_cases z : k = 0
  · have : o k = 0 := by rw [z, hG.o0]
    exact ⟨fun h => by have := h.2.1; omega, fun h => absurd this h.1⟩
  · have hp := hG.pB (k := k) (by omega) hkN
    have hop : m 107 (o (p k)) = 1 ∨ m 107 (o (p k)) = 2 := (c7.2 (by omega)).1
    have hMp := (hC.2.2.2.2.1 (p k) hp.1 (by omega)).box hop
    have hc5p := hMp.2.2.2.2.1
    have hdis := (c7.2 (by omega)).2.2
    have hne : o k ≠ 0 := fun w => by
      have := hG.inj (j := k) (k := 0) k0 hkN (Int.le_refl _) (by omega) (by rw [w, hG.o0])
      omega
    constructor
    · rintro ⟨h1, h2, h3, h4, h5, h6⟩
      refine ⟨hne, ?_, by rw [x3]; exact h4, ?_, h6⟩
      · rcases (c7.2 (by omega)).2.1 with w | w
        · exact w.2
        · omega
      · rcases hdis h5 with w | w
        · exact w
        · have := c5.mpr w; omega
    · rintro ⟨h1, h2, h3, h4, h5⟩
      refine ⟨?_, by omega, ?_, by rw [← x3]; exact h3, ?_, h5⟩
      · rcases hb with w | w
        · exact w
        · have := c5.mp w; omega
      · rcases (c7.2 (by omega)).2.1 with w | w
        · exact w.1
        · omega
      · rcases hop with w | w
        · exact w
        · have := hc5p.mp w; omega
theorem c_join (hC : CTX n m N o e p k) (hP : PHC n m N o) (k0 : 0 ≤ k) (hkN : k < N) (hb : m 107 (o k) = 1 ∨ m 107 (o k) = 2) (hf : FKj m o p k f (e k)) (hl : LKj m o p k l (e k)) :
    ∃ n', N_Layout_joinMargins (o k) n = some n' ∧ (∀ K, K ≠ 3 → n' K = n K) ∧ (∀ a s, ¬ (a = o k ∧ 14 ≤ s ∧ s ≤ 17) → n' 3 a s = n 3 a s)
      ∧ ((JOI m o p k ∧ IFk m f → n' 3 (o k) 14 = max (n 3 (o k) 6) (m 114 f) ∧ n' 3 (o k) 16 = 1) ∧ (¬ (JOI m o p k ∧ IFk m f) → n' 3 (o k) 14 = n 3 (o k) 6 ∧ n' 3 (o k) 16 = 0))
      ∧ ((JOI m o p k ∧ IFk m l ∧ m 105 (11 * o k + 7) = -1 → n' 3 (o k) 15 = max (n 3 (o k) 6) (m 115 l) ∧ n' 3 (o k) 17 = 1) ∧ (¬ (JOI m o p k ∧ IFk m l ∧ m 105 (11 * o k + 7) = -1) → n' 3 (o k) 15 = n 3 (o k) 6 ∧ n' 3 (o k) 17 = 0)) := by
  have hG := hC.1
  have hE := hG.eB k0 hkN
  have ho := hG.oB k0 hkN
  have hN := hG.N1
  obtain ⟨c1, c2, c3, c4, c5, c6, c7, c8⟩ := (hC.2.2.2.2.1 k k0 hkN).box hb
  have hji := joi_iff hC k0 hkN hb
  obtain ⟨n23, hn23⟩ : ∃ n23, n23 = nw (nw (nw (nw n 3 (o k) 14 (n 3 (o k) 6)) 3 (o k) 15 (n 3 (o k) 6)) 3 (o k) 16 0) 3 (o k) 17 0 := ⟨_, rfl⟩
  have sK : ∀ K, K ≠ 3 → n23 K = n K := fun K x => by rw [hn23, nw_nK x, nw_nK x, nw_nK x, nw_nK x]
  have s3 : ∀ a s, ¬ (a = o k ∧ 14 ≤ s ∧ s ≤ 17) → n23 3 a s = n 3 a s := fun a s h => by
    rw [hn23]
    by_cases z : a = o k
    · rw [nw_ns (by omega), nw_ns (by omega), nw_ns (by omega), nw_ns (by omega)]
    · rw [nw_ni z, nw_ni z, nw_ni z, nw_ni z]
  have s14 : n23 3 (o k) 14 = n 3 (o k) 6 := by rw [hn23, nw_ns (by decide), nw_ns (by decide), nw_ns (by decide), nw_eq]
  have s15 : n23 3 (o k) 15 = n 3 (o k) 6 := by rw [hn23, nw_ns (by decide), nw_ns (by decide), nw_eq]
  have s16 : n23 3 (o k) 16 = 0 := by rw [hn23, nw_ns (by decide), nw_eq]
  have s17 : n23 3 (o k) 17 = 0 := by rw [hn23, nw_eq]
  have hLk : LKs n23 m N o := by
    intro r a b c pr p0 p1
    rw [sK 41 (by decide)]; exact hP.2 r a b c pr p0 p1
  have hno : ¬ JOI m o p k → ∃ n', some n23 = some n' ∧ (∀ K, K ≠ 3 → n' K = n K) ∧ (∀ a s, ¬ (a = o k ∧ 14 ≤ s ∧ s ≤ 17) → n' 3 a s = n 3 a s)
      ∧ ((JOI m o p k ∧ IFk m f → n' 3 (o k) 14 = max (n 3 (o k) 6) (m 114 f) ∧ n' 3 (o k) 16 = 1) ∧ (¬ (JOI m o p k ∧ IFk m f) → n' 3 (o k) 14 = n 3 (o k) 6 ∧ n' 3 (o k) 16 = 0))
      ∧ ((JOI m o p k ∧ IFk m l ∧ m 105 (11 * o k + 7) = -1 → n' 3 (o k) 15 = max (n 3 (o k) 6) (m 115 l) ∧ n' 3 (o k) 17 = 1) ∧ (¬ (JOI m o p k ∧ IFk m l ∧ m 105 (11 * o k + 7) = -1) → n' 3 (o k) 15 = n 3 (o k) 6 ∧ n' 3 (o k) 17 = 0)) := fun h => ⟨n23, rfl, sK, s3, ⟨fun g => absurd g.1 h, fun _ => ⟨s14, s16⟩⟩, fun g => absurd g.1 h, fun _ => ⟨s15, s17⟩⟩
  have hstart : N_Layout_joinMargins (o k) n = if JOI m o p k then nk_Layout_joinMargins_87 (o k) (o k) (o k) 1 n23 else some n23 := by
    unfold N_Layout_joinMargins st nk_Layout_joinMargins_86
    dsimp only
    rw [nw_ns (show (6 : Int) ≠ 14 by decide), ← hn23, ix_e _ ho, ix_e _ ho, s3 (o k) 13 (by omega), s3 (o k) 8 (by omega), c_look hLk k0 hkN ho c3.1 (by decide), show 11 * o k + 0 = 11 * o k by omega]
    have h0 : nk_Layout_joinMargins_87 (o k) (o k) (o k) 0 n23 = some n23 := by unfold nk_Layout_joinMargins_87; rw [if_pos rfl]
    rw [h0]
    by_cases z0 : o k = 0
    · rw [if_pos z0, if_neg (fun h => (hji.mp h).1 z0)]
    · rw [if_neg z0]
      have hk1 : 1 ≤ k := by
        by_cases z : k = 0
        · rw [z, hG.o0] at z0; exact absurd rfl z0
        · omega
      have hp := hG.pB hk1 hkN
      have hpo := hG.oB (k := p k) hp.1 (by omega)
      by_cases z1 : n 3 (o k) 13 = 0
      · rw [if_pos z1]
        by_cases z2 : n 3 (o k) 8 = 0
        · rw [if_pos z2]
          simp only [Option.bind_some]
          by_cases z3 : m 105 (11 * o k) = 0
          · have hop : m 107 (o (p k)) = 1 ∨ m 107 (o (p k)) = 2 := (c7.2 hk1).1
            have hMp := (hC.2.2.2.2.1 (p k) hp.1 (by omega)).box hop
            rw [if_pos z3, sK 7 (by decide), (hP.1 k k0 hkN).1, hG.parE hk1 hkN, c_look hLk hp.1 (by omega) hpo hMp.2.2.1.1 (by decide), show 11 * o (p k) + 0 = 11 * o (p k) by omega]
            simp only [Option.bind_some]
            by_cases z4 : m 105 (11 * o (p k)) = 0
            · rw [if_pos z4, if_pos (hji.mpr ⟨z0, z1, z2, z3, z4⟩)]
            · rw [if_neg z4, if_neg (fun h => z4 (hji.mp h).2.2.2.2)]
          · rw [if_neg z3, if_neg (fun h => z3 (hji.mp h).2.2.2.1)]
        · rw [if_neg z2, if_neg (fun h => z2 (hji.mp h).2.2.1)]
      · rw [if_neg z1, if_neg (fun h => z1 (hji.mp h).2.1)]
  rw [hstart]
  by_cases hJ : JOI m o p k
  · rw [if_pos hJ]
    obtain ⟨f', l', g1, g2, g3⟩ := c_kids (x1 := o k) (x2 := o k) hC hP k0 hkN _ (k + 1) (-1) (-1) (Nat.le_refl _) (by omega) (by omega) (fun w => by
      have := hG.pB (k := k + 1) (by omega) (by omega)
      have := hG.inP (t := k) (k := k + 1) k0 hkN (by omega) w
      omega) (.inl ⟨rfl, fun r x y => by omega⟩) (.inl ⟨rfl, fun r x y => by omega⟩)
    rw [g2.un hf, g3.un hl] at g1
    have efn : (fun s : Int × Int × Int => nb_Layout_joinMargins_107 (o k) (o k) s.1 s.2.1 s.2.2 n23) = (fun s : Int × Int × Int => nb_Layout_joinMargins_107 (o k) (o k) s.1 s.2.1 s.2.2 n) := by
      funext s
      unfold nb_Layout_joinMargins_107 nk_Layout_joinMargins_139 nk_Layout_joinMargins_145
      rw [sK 7 (by decide), s3 _ 0 (by omega)]
    have e107 : NL_Layout_joinMargins_107 (o k) (o k) (-1) (-1) (n23 7 (o k) 3) n23 = some (f, l) := by
      rw [← g1, sK 7 (by decide), (hP.1 k k0 hkN).2.1, hG.fkE k0 hkN]
      unfold NL_Layout_joinMargins_107
      rw [efn]
    unfold nk_Layout_joinMargins_87
    rw [if_neg (by decide), e107]
    simp only [Option.bind_some, u2]
    -- what is below
    have h208 : ∀ n3 : NS, (∀ K, K ≠ 3 → n3 K = n K) → (∀ a s, ¬ (a = o k ∧ 14 ≤ s ∧ s ≤ 17) → n3 3 a s = n 3 a s) → n3 3 (o k) 15 = n 3 (o k) 6 → n3 3 (o k) 17 = 0 → ∃ n', nk_Layout_joinMargins_208 (o k) (o k) l n3 = some n' ∧ (∀ K, K ≠ 3 → n' K = n K) ∧ (∀ a s, ¬ (a = o k ∧ 14 ≤ s ∧ s ≤ 17) → n' 3 a s = n 3 a s) ∧ (n' 3 (o k) 14 = n3 3 (o k) 14 ∧ n' 3 (o k) 16 = n3 3 (o k) 16)
      ∧ ((JOI m o p k ∧ IFk m l ∧ m 105 (11 * o k + 7) = -1 → n' 3 (o k) 15 = max (n 3 (o k) 6) (m 115 l) ∧ n' 3 (o k) 17 = 1) ∧ (¬ (JOI m o p k ∧ IFk m l ∧ m 105 (11 * o k + 7) = -1) → n' 3 (o k) 15 = n 3 (o k) 6 ∧ n' 3 (o k) 17 = 0)) := fun n3 k1 k2 k3 k4 => by
      unfold nk_Layout_joinMargins_208 st
      rcases hl with ⟨z, _⟩ | ⟨q, ⟨q1, q2⟩, q3, q4, q5, q6⟩
      · rw [if_pos z]
        exact ⟨n3, rfl, k1, k2, ⟨rfl, rfl⟩, fun g => absurd z g.2.1.1, fun _ => ⟨k3, k4⟩⟩
      · have hqo := hG.oB (k := q) (by omega) (by omega)
        have hMq := hC.2.2.2.2.1 q (by omega) (by omega)
        have hqk : o q ≠ o k := fun z => by have := hG.inj (j := q) (k := k) (by omega) (by omega) k0 hkN z; omega
        have hbq := c_bif (n' := n3) hMq (by omega) (fun s hs => k2 _ s (fun h => hqk h.1)) (by omega)
        rw [q4] at hbq hqo hqk
        rw [if_neg (by omega), ix_e _ hqo, hbq]
        simp only [Option.bind_some]
        by_cases z : IFk m l
        · rw [if_pos z, if_neg (by decide), c_look (n := n3) (by intro r a b c pr p0 p1; rw [k1 41 (by decide)]; exact hP.2 r a b c pr p0 p1) k0 hkN ho c3.1 (by decide)]
          simp only [Option.bind_some]
          by_cases w : m 105 (11 * o k + 7) = -1
          · rw [if_pos w, ix_e _ hqo]
            have hld := hC.2.2.2.2.2.2 q q1 (by omega) (by rw [q4]; exact z.2.1)
            rw [q4] at hld
            refine ⟨_, rfl, fun K x => by rw [nw_nK x, nw_nK x]; exact k1 K x, fun a s x => ?_, ⟨by rw [nw_ns (by decide), nw_ns (by decide)], by rw [nw_ns (by decide), nw_ns (by decide)]⟩, fun _ => ⟨?_, by rw [nw_ns (by decide), nw_eq]⟩, fun g => absurd ⟨hJ, z, w⟩ g⟩
            · by_cases y : a = o k
              · rw [nw_ns (by omega), nw_ns (by omega)]; exact k2 a s x
              · rw [nw_ni y, nw_ni y]; exact k2 a s x
            · rw [nw_eq, nw_ns (by decide), k2 _ 6 (by omega), nw_ni hqk, k2 _ 15 (fun h => hqk h.1), hld.2.2.1]
          · rw [if_neg w]
            exact ⟨n3, rfl, k1, k2, ⟨rfl, rfl⟩, fun g => absurd g.2.2 w, fun _ => ⟨k3, k4⟩⟩
        · rw [if_neg z, if_pos rfl]
          exact ⟨n3, rfl, k1, k2, ⟨rfl, rfl⟩, fun g => absurd g.2.1 z, fun _ => ⟨k3, k4⟩⟩
    rcases hf with ⟨z, _⟩ | ⟨q, ⟨q1, q2⟩, q3, q4, q5, q6⟩
    · rw [if_pos z]
      obtain ⟨n', r1, r2, r3, r4, r5⟩ := h208 n23 sK s3 s15 s17
      exact ⟨n', r1, r2, r3, ⟨fun g => absurd z g.2.1, fun _ => ⟨by rw [r4.1]; exact s14, by rw [r4.2]; exact s16⟩⟩, r5⟩
    · have hqo := hG.oB (k := q) (by omega) (by omega)
      have hMq := hC.2.2.2.2.1 q (by omega) (by omega)
      have hqk : o q ≠ o k := fun z => by have := hG.inj (j := q) (k := k) (by omega) (by omega) k0 hkN z; omega
      have hbq := c_bif (n' := n23) hMq (by omega) (fun s hs => s3 _ s (fun h => hqk h.1)) (by omega)
      rw [q4] at hbq hqo hqk
      rw [if_neg (by omega), ix_e _ hqo, hbq]
      simp only [Option.bind_some]
      by_cases z : IFk m f
      · unfold st
        dsimp only
        rw [if_pos z, if_neg (by decide), ix_e _ hqo]
        have hld := hC.2.2.2.2.2.2 q q1 (by omega) (by rw [q4]; exact z.2.1)
        rw [q4] at hld
        obtain ⟨n', r1, r2, r3, r4, r5⟩ := h208 (nw (nw n23 3 (o k) 16 1) 3 (o k) 14 (max (nw n23 3 (o k) 16 1 3 (o k) 6) (nw n23 3 (o k) 16 1 3 f 14))) (fun K x => by rw [nw_nK x, nw_nK x]; exact sK K x) (fun a s x => by
          by_cases y : a = o k
          · rw [nw_ns (by omega), nw_ns (by omega)]; exact s3 a s x
          · rw [nw_ni y, nw_ni y]; exact s3 a s x) (by rw [nw_ns (by decide), nw_ns (by decide)]; exact s15) (by rw [nw_ns (by decide), nw_ns (by decide)]; exact s17)
        refine ⟨n', r1, r2, r3, ⟨fun _ => ⟨?_, by rw [r4.2, nw_ns (by decide), nw_eq]⟩, fun g => absurd ⟨hJ, z⟩ g⟩, r5⟩
        rw [r4.1, nw_eq, nw_ns (by decide), s3 _ 6 (by omega), nw_ni hqk, s3 _ 14 (fun h => hqk h.1), hld.2.1.1]
      · rw [if_neg z, if_pos rfl]
        obtain ⟨n', r1, r2, r3, r4, r5⟩ := h208 n23 sK s3 s15 s17
        exact ⟨n', r1, r2, r3, ⟨fun g => absurd g.2 z, fun _ => ⟨by rw [r4.1]; exact s14, by rw [r4.2]; exact s16⟩⟩, r5⟩
  · rw [if_neg hJ]
    exact hno hJ
end X6
