/-! ALL BLOCKS, from the last to the first, in both: the loops -/
section Y1
variable {n n' n'' nc : NS} {m m' m'' : YS} {A B N a b c x y q s E F F' v wd u w t k j r v3 v4 v5 v7 x1 x2 x3 x4 x5 x6 f l f' l' H : Int} {o e p : Int → Int}
theorem flex_both (hC : CTX n m N o e p k) (hP : PHC n m N o) (hX : FXK m N o p) (hB : BI A B n) (hW : WLc n) (k0 : 0 ≤ k) (hkN : k < N) (hb : m 107 (o k) = 2) {n12 : NS} (j2 : ∀ K, K ≠ 3 → n12 K = n K) (j3 : ∀ a s, ¬ (a = o k ∧ 14 ≤ s ∧ s ≤ 17) → n12 3 a s = n 3 a s) (j4 : n12 3 (o k) 14 = n 3 (o k) 6) (j5 : n12 3 (o k) 15 = n 3 (o k) 6) :
    ∃ n' m', N_Layout_layFlex (o k) n12 = some n' ∧ N_Y_layFlex (o k) m = some m' ∧ BLS A B o e k n m n' m' := by
  have hG := hC.1
  have hE := hG.eB k0 hkN
  have ho := hG.oB k0 hkN
  have hN := hG.N1
  have hMk := hC.2.2.2.2.1 k k0 hkN
  obtain ⟨c1, c2, c3, ⟨⟨x1, x2, x3⟩, ⟨x4, x5, x6, x7⟩, x8, x9, x10, x11, x12⟩, c5, c6, c7, c8⟩ := hMk.box (.inr hb)
  clear c5
  have hlk : ∀ pr, 0 ≤ pr → pr < 11 → -1 ≤ m 105 (11 * o k + pr) ∧ m 105 (11 * o k + pr) ≤ 1100 := fun pr a b => (hP.2 k k0 hkN c3.1 pr a b).2.1
  have hokL : okL 7 (m 105 (11 * o k + 7)) := (hP.2 k k0 hkN c3.1 7 (by decide) (by decide)).2.2.2
  have h96 : m 105 (11 * o k + 7) ≤ 96 := (hokL.2.2.2.2.2.2.2.1 rfl).2
  have hC12 : CTX n12 m N o e p k := hC.jn k0 hkN (fun K a _ => j2 K a) (fun a s h => j3 a s (fun z => h ⟨z.1, .inr z.2⟩)) (by rw [j2 5 (by decide)]) (by rw [j2 5 (by decide)]) c2 (fun _ _ => rfl) (fun _ _ => ⟨rfl, rfl, rfl⟩)
  have hP12 : PHC n12 m N o := ⟨fun r a b => by rw [j2 7 (by decide)]; exact hP.1 r a b, fun r a b c pr p0 p1 => by rw [j2 41 (by decide)]; exact hP.2 r a b c pr p0 p1⟩
  obtain ⟨n11, m5, hi, r1, r2, r3, r4, r5, r6, r7⟩ := flex_loop (E := n 3 (o k) 8) k0 hkN _ (k + 1) 0 0 n12 m (Nat.le_refl _) (by omega) (by omega) (fun z => by
    have := hG.pB (k := k + 1) (by omega) (by omega)
    have := hG.inP (t := k) (k := k + 1) k0 hkN (by omega) z
    omega) hC12 hP12 hX hb (j3 _ 8 (by omega)) (by omega) (by omega) (by omega) (fun r x y => by omega)
  rw [show (0 : Int) + n 3 (o k) 8 = n 3 (o k) 8 by omega] at r1
  have hHol : n 3 (o k) 1 ≠ o k := by
    rcases hMk with ⟨z, _⟩ | ⟨z | ⟨hh, ⟨b1, b2, b3⟩, b4, b5, b6⟩, _⟩
    · omega
    · omega
    · rw [b4.2]
      intro w
      have := hG.inj (j := hh) (k := k) b1 (by omega) k0 hkN w
      omega
  have h11 : ∀ s, s ≠ 2 → s ≠ 3 → n11 3 (o k) s = n12 3 (o k) s := fun s a b => r4.2.1 _ s a b
  have E8 : n11 3 (o k) 8 = n 3 (o k) 8 := by rw [h11 8 (by decide) (by decide)]; exact j3 _ 8 (by omega)
  have hLX : LKs n11 m N o := by
    intro r a b c pr p0 p1
    rw [r3 41 (by decide)]; exact hP12.2 r a b c pr p0 p1
  have hset := c_setH (H := hi) hLX k0 hkN ho c3.1 (by rw [E8]; omega) (by omega)
  rw [E8] at hset
  obtain ⟨hgt, hhgt⟩ : ∃ hgt, ∀ _ : Unit, hgt = (if m 105 (11 * o k + 7) = -1 then 2 * n 3 (o k) 8 + hi else max (m 105 (11 * o k + 7)) (2 * n 3 (o k) 8)) := ⟨_, fun _ => rfl⟩
  have hgb : 0 ≤ hgt ∧ hgt ≤ 5000 * (e k - k) - 500 := by
    have := hhgt ()
    by_cases z : m 105 (11 * o k + 7) = -1
    · rw [if_pos z] at this; omega
    · rw [if_neg z] at this; omega
  rw [← hhgt ()] at hset
  obtain ⟨nZ, hnZ⟩ : ∃ nZ, nZ = nw n11 3 (o k) 5 hgt := ⟨_, rfl⟩
  rw [← hnZ] at hset
  obtain ⟨mZ, hmZ⟩ : ∃ mZ, mZ = yw (yw (yw m5 114 (o k) (m 105 (11 * o k + 3))) 115 (o k) (m 105 (11 * o k + 3))) 113 (o k) hgt := ⟨_, rfl⟩
  have mZf : ∀ f, f ≠ 113 → f ≠ 114 → f ≠ 115 → mZ f = m5 f := fun f a b c => by rw [hmZ, yw_nF a, yw_nF c, yw_nF b]
  have e105 : m5 105 = m 105 := r5.1 105 (by decide)
  have Z3 : ∀ a s, ¬ (a = o k ∧ s = 5) → nZ 3 a s = n11 3 a s := fun a s h => by
    rw [hnZ]
    by_cases z : a = o k
    · rw [nw_ns (fun w => h ⟨z, w⟩)]
    · rw [nw_ni z]
  have ZK : ∀ K, K ≠ 3 → nZ K = n K := fun K a => by rw [hnZ, nw_nK a, r3 K a, j2 K a]
  refine ⟨nZ, mZ, ?_, ?_, ?_, ?_, ⟨fun K hK => ?_, fun a s y1 y2 y3 => ?_, fun a y1 y2 => ?_, fun s y1 => ?_, ⟨?_, fun q hq => ?_, fun q y1 y2 y3 => ?_, ?_⟩, fun j y1 y2 => ?_, fun i y1 y2 => ?_⟩, ⟨fun f hf' => ?_, fun a ha => ?_, fun a y1 y2 => ?_, fun w y1 y2 => ?_⟩, fun _ => ⟨⟨?_, ?_, ?_⟩, ⟨?_, ?_, ?_⟩, ⟨?_, ?_, ?_⟩⟩, fun r y1 y2 y3 => ?_⟩
  · unfold N_Layout_layFlex
    rw [ix_e _ ho, ix_e _ ho, j3 _ 8 (by omega), j2 7 (by decide), (hP.1 k k0 hkN).2.1, hG.fkE k0 hkN, r1]
    simp only [Option.bind_some, u2]
    rw [hset]
    rfl
  · unfold N_Y_layFlex
    rw [ix_e _ ho, hG.fkE k0 hkN, r2]
    simp only [Option.bind_some, u2]
    unfold st
    dsimp only
    rw [y_of ho (by decide), e105]
    simp only [Option.bind_some]
    rw [ix_e _ ho, y_of ho (by decide), yw_nF (show (105 : Nat) ≠ 114 by decide), e105]
    simp only [Option.bind_some]
    have g4 := hlk 4 (by decide) (by decide)
    have g5 := hlk 5 (by decide) (by decide)
    have e105' : yw (yw m5 114 (o k) (m 105 (11 * o k + 3))) 115 (o k) (m 105 (11 * o k + 3)) 105 = m 105 := by rw [yw_nF (by decide), yw_nF (by decide), e105]
    rw [ix_e _ ho, y_heightOf ho (by rw [e105']; omega) (by omega), e105', ← x3]
    simp only [Option.bind_some]
    rw [ix_e _ ho, hmZ, hhgt ()]
    by_cases z : m 105 (11 * o k + 7) = -1
    · rw [if_pos z, if_pos z, show hi + 2 * n 3 (o k) 8 = 2 * n 3 (o k) 8 + hi by omega]
    · rw [if_neg z, if_neg z]
  · exact hB.cg (ZK 4 (by decide)) (by rw [ZK 5 (by decide)]; exact ⟨rfl, rfl⟩) (ZK 90 (by decide)) (ZK 91 (by decide)) (ZK 92 (by decide)) (ZK 93 (by decide))
  · unfold WLc at *
    rw [ZK 5 (by decide), ZK 92 (by decide), ZK 93 (by decide)]; exact hW
  · exact ZK K (fun z => hK (by rw [z]; decide))
  · rw [Z3 a s (fun z => y3 ⟨z.1, .inl z.2⟩), r4.2.1 a s y1 y2, j3 a s (fun z => y3 ⟨z.1, .inr z.2⟩)]
  · rw [Z3 a 2 (by omega), Z3 a 3 (by omega), r4.2.2.1 a y1 (by rw [j3 a 1 (by omega), j3 a 0 (by omega)]; exact y2), j3 a 2 (by omega), j3 a 3 (by omega)]
    exact ⟨rfl, rfl⟩
  · rw [ZK 5 (by decide)]
  · rw [ZK 90 (by decide)]; exact Int.le_refl _
  · rw [ZK 92 (by decide), ZK 93 (by decide)]; exact ⟨rfl, rfl⟩
  · rw [ZK 99 (by decide)]
  · rw [ZK 5 (by decide)]; exact .inl rfl
  · rw [ZK 99 (by decide)]
  · rw [ZK 99 (by decide)]; exact ⟨rfl, rfl⟩
  · simp only [List.mem_cons, List.not_mem_nil, or_false, not_or] at hf'
    rw [mZf f (by omega) (by omega) (by omega)]
    exact r5.1 f (by simp only [List.mem_cons, List.not_mem_nil, or_false, not_or]; omega)
  · rw [hmZ, yw_ni ha, yw_nF (show (113 : Nat) ≠ 115 by decide), yw_nF (show (113 : Nat) ≠ 114 by decide), yw_nF (show (114 : Nat) ≠ 113 by decide), yw_nF (show (114 : Nat) ≠ 115 by decide), yw_ni ha, yw_nF (show (115 : Nat) ≠ 113 by decide), yw_ni ha, yw_nF (show (115 : Nat) ≠ 114 by decide), r5.1 113 (by decide), r5.1 114 (by decide), r5.1 115 (by decide)]
    exact ⟨rfl, rfl, rfl⟩
  · rw [mZf 110 (by decide) (by decide) (by decide), mZf 111 (by decide) (by decide) (by decide)]
    exact r5.2.1 a y1 y2
  · rw [mZf 121 (by decide) (by decide) (by decide), mZf 122 (by decide) (by decide) (by decide)]
    exact r5.2.2 w y1 y2
  · rw [hnZ, nw_eq, hmZ, yw_eq]
  · rw [hnZ, nw_eq]; omega
  · rw [hnZ, nw_eq]; omega
  · rw [Z3 _ 14 (by omega), h11 14 (by decide) (by decide), j4, hmZ, yw_nF (by decide), yw_nF (by decide), yw_eq, x1]
  · rw [Z3 _ 14 (by omega), h11 14 (by decide) (by decide), j4]; omega
  · rw [Z3 _ 14 (by omega), h11 14 (by decide) (by decide), j4]; omega
  · rw [Z3 _ 15 (by omega), h11 15 (by decide) (by decide), j5, hmZ, yw_nF (by decide), yw_eq, x1]
  · rw [Z3 _ 15 (by omega), h11 15 (by decide) (by decide), j5]; omega
  · rw [Z3 _ 15 (by omega), h11 15 (by decide) (by decide), j5]; omega
  · rw [mZf 109 (by decide) (by decide) (by decide)] at y3
    have g := r7 r y1 y2 y3
    have hpr : ∀ w, PRr mZ w ↔ PRr m5 w := fun w => PRr.cg (fun f hf => mZf f (by simp only [List.mem_cons, List.not_mem_nil, or_false] at hf; omega) (by simp only [List.mem_cons, List.not_mem_nil, or_false] at hf; omega) (by simp only [List.mem_cons, List.not_mem_nil, or_false] at hf; omega))
    simp only [hpr]
    unfold PSb DNw at *
    rw [mZf 107 (by decide) (by decide) (by decide), mZf 110 (by decide) (by decide) (by decide), mZf 111 (by decide) (by decide) (by decide), mZf 116 (by decide) (by decide) (by decide), mZf 121 (by decide) (by decide) (by decide), mZf 122 (by decide) (by decide) (by decide), Z3 _ 2 (by omega), Z3 _ 3 (by omega), Z3 _ 19 (by omega), ZK 5 (by decide), ZK 99 (by decide)]
    rw [r3 5 (by decide), r3 99 (by decide), j2 5 (by decide), j2 99 (by decide)] at g
    exact g
theorem p2_loop : ∀ (z : Nat) (k : Int) (n : NS) (m : YS), (k + 1).toNat ≤ z → -1 ≤ k → k < N → P2 A B N o e p k n m → (∀ r, 0 ≤ r → r < N → m 124 r = o r) → ∃ n' m', NL_Layout_refresh_80 k n = some n' ∧ NL_Y_lay_276 k m = some m' ∧ P2 A B N o e p (-1) n' m' ∧ F2n n n' ∧ F2y m m' := by
  intro z
  induction z with
  | zero =>
    intro k n m h1 h2 h3 hP ho
    have ek : k = -1 := by omega
    subst ek
    refine ⟨n, m, ?_, ?_, hP, F2n.refl, FY.refl _ _⟩
    · unfold NL_Layout_refresh_80
      refine it_inr ?_
      show nb_Layout_refresh_80 (-1) n = _
      unfold nb_Layout_refresh_80
      rw [if_pos (by decide)]
    · unfold NL_Y_lay_276
      refine it_inr ?_
      show nb_Y_lay_276 (-1) m = _
      unfold nb_Y_lay_276
      rw [if_pos (by decide)]
  | succ z ih =>
    intro k n m h1 h2 h3 hP hord
    by_cases hk : 0 ≤ k
    · have hP0 := hP
      obtain ⟨hC, hPH, hX, hB, hW, hS, hZ⟩ := hP
      have hG := hC.1
      have hE := hG.eB hk h3
      have ho := hG.oB hk h3
      have hN := hG.N1
      have hl := hC.2.1.2 k hk h3
      have hor := hord k hk h3
      have hM := hC.2.2.2.2.1 k hk h3
      by_cases hb : m 107 (o k) = 1 ∨ m 107 (o k) = 2
      · obtain ⟨c1, c2, c3, c4, c5, c6⟩ := hM.box hb
        have c5u := fun (_ : Unit) => c5
        clear c5
        have hk1 : k + 1 < e k → p (k + 1) = k := fun z => by
          have := hG.pB (k := k + 1) (by omega) (by omega)
          have := hG.inP (t := k) (k := k + 1) hk h3 (by omega) z
          omega
        obtain ⟨f, _, hf⟩ := y_firstK (x1 := 0) (x2 := 0) hG hk h3 _ (k + 1) (Nat.le_refl _) (by omega) (by omega) hk1 (fun r x y => by omega)
        obtain ⟨l, _, hll⟩ := y_lastK (x1 := 0) (x2 := 0) (x3 := 0) (x4 := 0) (x5 := 0) (x6 := 0) hG hk h3 _ (k + 1) (-1) (Nat.le_refl _) (by omega) (by omega) hk1 (.inl ⟨rfl, fun r x y => by omega⟩)
        obtain ⟨n12, j1, j2, j3, hj⟩ := c_join hC hPH hk h3 hb hf hll
        have hju := fun (_ : Unit) => hj
        clear hj hk1
        have hlook : N_Layout_look (o k) 0 n12 = some (m 105 (11 * o k)) := by
          rw [c_look (n := n12) (m := m) (N := N) (o := o) (by intro r a b c pr p0 p1; rw [j2 41 (by decide)]; exact hPH.2 r a b c pr p0 p1) hk h3 ho c3.1 (by decide), show 11 * o k + 0 = 11 * o k by omega]
        have go : ∀ n1 m1, nb_Layout_refresh_80 k n = some (.inl (k + (-1), n1)) → nb_Y_lay_276 k m = some (.inl (k + (-1), m1)) → BLS A B o e k n m n1 m1 → ∃ n' m', NL_Layout_refresh_80 k n = some n' ∧ NL_Y_lay_276 k m = some m' ∧ P2 A B N o e p (-1) n' m' ∧ F2n n n' ∧ F2y m m' := fun n1 m1 q1 q2 q3 => by
          have hP1 := hP0.blk hk h3 hb q3
          obtain ⟨n', m', r1, r2, r3, r4, r5⟩ := ih (k - 1) n1 m1 (by omega) (by omega) (by omega) hP1 (fun r a b => by rw [q3.2.2.2.1.1 124 (by decide)]; exact hord r a b)
          refine ⟨n', m', ?_, ?_, r3, q3.2.2.1.f2.trans r4, FY.trans q3.2.2.2.1.1 r5⟩
          · rw [← r1]
            unfold NL_Layout_refresh_80
            exact it_inl (f := fun s : Int × NS => nb_Layout_refresh_80 s.1 s.2) (s := (k, n)) (s' := (k - 1, n1)) (by rw [show k - 1 = k + (-1) by omega]; exact q1)
          · rw [← r2]
            unfold NL_Y_lay_276
            exact it_inl (f := fun s : Int × YS => nb_Y_lay_276 s.1 s.2) (s := (k, m)) (s' := (k - 1, m1)) (by rw [show k - 1 = k + (-1) by omega]; exact q2)
        by_cases hb1 : m 107 (o k) = 1
        · obtain ⟨n1, m1, q1, q2, q3⟩ := block_both hC hPH hB hW hk h3 hb1
          rw [j1] at q1
          simp only [Option.bind_some] at q1
          refine go n1 m1 ?_ ?_ q3.ps
          · unfold nb_Layout_refresh_80
            rw [if_neg (by omega), ix_e _ (by omega), hl.1, ix_e _ ho, if_pos c2, j1]
            simp only [Option.bind_some]
            rw [hlook]
            simp only [Option.bind_some]
            rw [if_neg (fun w => by have := (c5u ()).mpr w; omega), q1]
            simp only [Option.bind_some]
            rw [ck_e _ (by omega)]
          · unfold nb_Y_lay_276
            rw [if_neg (by omega), ix_e _ (by omega), hor, ix_e _ ho, if_pos hb1, ix_e _ (by omega), q2]
            simp only [Option.bind_some]
            rw [ck_e _ (by omega)]
        · have hb2 : m 107 (o k) = 2 := by omega
          have hnj : ¬ JOI m o p k := fun w => hb1 w.1
          obtain ⟨n1, m1, q1, q2, q3⟩ := flex_both hC hPH hX hB hW hk h3 hb2 j2 j3 ((hju ()).1.2 (fun w => hnj w.1)).1 ((hju ()).2.2 (fun w => hnj w.1)).1
          refine go n1 m1 ?_ ?_ q3
          · unfold nb_Layout_refresh_80
            rw [if_neg (by omega), ix_e _ (by omega), hl.1, ix_e _ ho, if_pos c2, j1]
            simp only [Option.bind_some]
            rw [hlook]
            simp only [Option.bind_some]
            rw [if_pos ((c5u ()).mp hb2), q1]
            simp only [Option.bind_some]
            rw [ck_e _ (by omega)]
          · unfold nb_Y_lay_276
            rw [if_neg (by omega), ix_e _ (by omega), hor, ix_e _ ho, if_neg hb1, ix_e _ (by omega), ix_e _ ho, if_pos hb2, ix_e _ (by omega), q2]
            simp only [Option.bind_some]
            rw [ck_e _ (by omega)]
      · have hkd : n 3 (o k) 0 ≠ 1 := fun w => by
          rcases hM with ⟨w1, w2⟩ | ⟨_, g | g | g | g | g⟩
          · omega
          · exact hb g.1
          · have := g.2.1; omega
          · omega
          · omega
          · omega
        have hP1 : P2 A B N o e p (k - 1) n m := by
          refine ⟨⟨hC.1, hC.2.1, hC.2.2.1, hC.2.2.2.1, hC.2.2.2.2.1, hC.2.2.2.2.2.1, fun r a b => ?_⟩, hPH, hX, hB, hW, fun r h y1 y2 y3 y4 y5 y6 => ?_, hZ⟩
          · by_cases w : r = k
            · rw [w]; exact fun g => absurd g hb
            · exact hC.2.2.2.2.2.2 r (by omega) b
          · by_cases w : h = k
            · exfalso
              rw [w] at y5
              rcases hC.2.2.2.2.1 r (by omega) y4 with ⟨g, _⟩ | ⟨g | ⟨hh, b1, b2, b3, b4⟩, _⟩
              · exact y6 g
              · omega
              · have := hG.inj (j := hh) (k := k) b1.1 (by omega) hk h3 (by rw [← b2.1]; exact y5)
                rw [this] at b3; exact hb b3
            · exact hS r h (by omega) y2 y3 y4 y5 y6
        obtain ⟨n', m', r1, r2, r3⟩ := ih (k - 1) n m (by omega) (by omega) (by omega) hP1 hord
        refine ⟨n', m', ?_, ?_, r3⟩
        · rw [← r1]
          unfold NL_Layout_refresh_80
          refine it_inl ?_
          show nb_Layout_refresh_80 k n = _
          unfold nb_Layout_refresh_80
          rw [if_neg (by omega), ix_e _ (by omega), hl.1, ix_e _ ho, if_neg hkd, ck_e _ (by omega)]
          rfl
        · rw [← r2]
          unfold NL_Y_lay_276
          refine it_inl ?_
          show nb_Y_lay_276 k m = _
          unfold nb_Y_lay_276
          rw [if_neg (by omega), ix_e _ (by omega), hor, ix_e _ ho, if_neg (by omega), ix_e _ (by omega), ix_e _ ho, if_neg (by omega), ck_e _ (by omega)]
          rfl
    · exact ih k n m (by omega) h2 h3 hP hord
end Y1
