/-! A FLEX IS LAID, in both -/
def PSb (n : NS) (m : YS) (E a X : Int) : Prop := (n 3 a 2 = m 110 a + E ∧ n 3 a 3 = m 111 a + E) ∧ (-6000000 ≤ m 110 a ∧ m 110 a ≤ X) ∧ (0 ≤ m 111 a ∧ m 111 a ≤ 1000000)
/-- all that lies in a block stands -/
def PSE (n : NS) (m : YS) (o : Int → Int) (v E k j : Int) : Prop := ∀ r, k < r → r < j → m 109 (o r) = v → ((m 107 (o r) = 1 ∨ m 107 (o r) = 2 ∨ m 107 (o r) = 4) → PSb n m E (o r) (6000000 * (r - k))) ∧ (m 107 (o r) = 6 → ∀ w, m 116 (o r) ≤ w → w < m 116 (o r) + n 3 (o r) 19 → DNw n m E w) ∧ (m 107 (o r) = 6 → ∀ w, m 116 (o r) ≤ w → w + 1 < m 116 (o r) + n 3 (o r) 19 → PRr m w)
/-- in a FLEX there are boxes and PIECES alone -/
def FXK (m : YS) (N : Int) (o p : Int → Int) : Prop := ∀ r, 1 ≤ r → r < N → m 107 (o (p r)) = 2 → m 107 (o r) = 0 ∨ m 107 (o r) = 1 ∨ m 107 (o r) = 2 ∨ m 107 (o r) = 4
def BLS (A B : Int) (o e : Int → Int) (k : Int) (n : NS) (m : YS) (n' : NS) (m' : YS) : Prop := BI A B n' ∧ WLc n' ∧ FP2 (o k) n n' ∧ FYP (o k) m m' ∧ LDb n' m' o e k ∧ PSE n' m' o (o k) (n 3 (o k) 8) k (e k)
section X9
variable {n n' n'' nc : NS} {m m' m'' : YS} {A B N a b c x y q s E F F' v wd u w t k j r v3 v4 v5 v7 x1 x2 x3 x4 x5 x6 f l f' l' H : Int} {o e p : Int → Int}
theorem DNE.ps (h : DNE n m o v E k j) : PSE n m o v E k j := fun r x y z => ⟨fun u => by
  obtain ⟨g1, g2, g3⟩ := (h r x y z).1 u
  exact ⟨g1, by omega, g3⟩, (h r x y z).2⟩
theorem BLR.ps (h : BLR A B o e k n m n' m') : BLS A B o e k n m n' m' := ⟨h.1, h.2.1, h.2.2.1, h.2.2.2.1, h.2.2.2.2.1, h.2.2.2.2.2.ps⟩
theorem flex_loop (k0 : 0 ≤ k) (hkN : k < N) : ∀ (z : Nat) (j at' hi : Int) (n : NS) (m : YS), (e k - j).toNat ≤ z → k < j → j ≤ e k → (j < e k → p j = k) → CTX n m N o e p k → PHC n m N o → FXK m N o p → m 107 (o k) = 2 → n 3 (o k) 8 = E → (0 ≤ E ∧ E ≤ 50) → (0 ≤ at' ∧ at' ≤ 1400000 * (j - k - 1)) → (0 ≤ hi ∧ hi ≤ 5000 * (e k - k - 1)) → PSE n m o (o k) E k j →
    ∃ n' m' hi', NL_Layout_layFlex_29 (o k) (o k) (at' + E) hi (if j < e k then o j else -1) n = some (hi', n') ∧ NL_Y_layFlex_12 (o k) at' hi (if j < e k then o j else -1) m = some (hi', m') ∧ (∀ K, K ≠ 3 → n' K = n K) ∧ FRs (o k) n n' ∧ FVy (o k) m m' ∧ (0 ≤ hi' ∧ hi' ≤ 5000 * (e k - k - 1)) ∧ PSE n' m' o (o k) E k (e k) := by
  intro z
  induction z with
  | zero =>
    intro j at' hi n m h1 h2 h3 hp hC hP hX hb hE8 hE hat hhi hS
    have ej : j = e k := by omega
    rw [ej] at hS
    rw [if_neg (by omega)]
    refine ⟨n, m, hi, ?_, ?_, fun _ _ => rfl, FRs.refl, FVy.refl, hhi, hS⟩
    · unfold NL_Layout_layFlex_29
      refine it_inr ?_
      show nb_Layout_layFlex_29 (o k) (o k) (at' + E) hi (-1) n = _
      unfold nb_Layout_layFlex_29
      rw [if_pos rfl]
    · unfold NL_Y_layFlex_12
      refine it_inr ?_
      show nb_Y_layFlex_12 (o k) at' hi (-1) m = _
      unfold nb_Y_layFlex_12
      rw [if_pos rfl]
  | succ z ih =>
    intro j at' hi n m h1 h2 h3 hp hC hP hX hb hE8 hE hat hhi hS
    by_cases hlt : j < e k
    · have hG := hC.1
      have hEk := hG.eB k0 hkN
      have hN := hG.N1
      have hjN : j < N := by omega
      have hpj := hp hlt
      have ho := hG.oB (k := j) (by omega) hjN
      have hok := hG.oB k0 hkN
      have hEj := hG.eB (k := j) (by omega) hjN
      have hnest := hG.nest (k := k) (j := j) k0 h2 hlt hjN
      have hM := hC.2.2.2.2.1 j (by omega) hjN
      have hsib : e j < e k → p (e j) = k := fun w => hG.sib (by omega) hjN hpj w
      have hnc : n 7 (o j) 5 = if e j < e k then o (e j) else -1 := by rw [(hP.1 j (by omega) hjN).2.2, hG.nxE (by omega) hjN, hpj]
      have hny : m 52 (o j) = if e j < e k then o (e j) else -1 := by rw [hG.nxE (by omega) hjN, hpj]
      have hmd := hX j (by omega) hjN (by rw [hpj]; exact hb)
      have hke : o j ≠ o k := fun z => by have := hG.inj (j := j) (k := k) (by omega) hjN k0 hkN z; omega
      have hdeep : ∀ r, j < r → r < e j → m 109 (o r) = o k → m 107 (o r) = 0 := fun r a b c => hC.deep k0 hkN ⟨h2, hjN⟩ (r := r) ⟨a, b⟩ (by omega) c
      rw [if_pos hlt]
      by_cases hm0 : m 107 (o j) = 0
      · obtain ⟨n', m', hi', r1, r2, r3⟩ := ih (e j) at' hi n m (by omega) (by omega) hnest hsib hC hP hX hb hE8 hE (by omega) hhi (fun r x y w => by
          rcases Int.lt_trichotomy r j with u | u | u
          · exact hS r x u w
          · rw [u]; exact ⟨fun u => by omega, fun u => by omega, fun u => by omega⟩
          · have := hdeep r u y w
            exact ⟨fun u => by omega, fun u => by omega, fun u => by omega⟩)
        refine ⟨n', m', hi', ?_, ?_, r3⟩
        · rw [← r1]
          unfold NL_Layout_layFlex_29
          refine it_inl ?_
          show nb_Layout_layFlex_29 (o k) (o k) (at' + E) hi (o j) n = _
          unfold nb_Layout_layFlex_29 nk_Layout_layFlex_115
          rw [if_neg (by omega), ix_e _ ho, if_pos (hM.zero hm0), ix_e _ ho, hnc]
        · rw [← r2]
          unfold NL_Y_layFlex_12
          refine it_inl ?_
          show nb_Y_layFlex_12 (o k) at' hi (o j) m = _
          unfold nb_Y_layFlex_12 nk_Y_layFlex_102
          rw [if_neg (by omega), y_isBox ho, if_neg (by omega)]
          simp only [Option.bind_some]
          rw [if_pos trivial, ix_e _ ho, if_neg (by omega), ix_e _ ho, hny]
      · -- it is laid
        have hV : VIS m o e k j := ⟨⟨h2, hlt⟩, fun a x y w => by
          have := hG.pM (k := j) (j := a) (by omega) hjN (by omega) y
          omega⟩
        have hHo : m 109 (o j) = o k ∧ n 3 (o j) 1 = o k := by
          rcases hM with ⟨w, _⟩ | ⟨w | w, _⟩
          · exact absurd w hm0
          · omega
          · exact hV.hol hG k0 (.inr hb) w hkN
        have hfx : n 3 (o j) 0 ≠ 0 ∧ n 3 (o j) 0 ≠ 3 ∧ (n 3 (o j) 6 = m 105 (11 * o j + 3) ∧ 0 ≤ n 3 (o j) 6 ∧ n 3 (o j) 6 ≤ 20) ∧ (n 3 (o j) 4 = m 112 (o j) ∧ 0 ≤ n 3 (o j) 4 ∧ n 3 (o j) 4 ≤ 1300000) ∧ (n 3 (o j) 5 = m 113 (o j) ∧ 0 ≤ n 3 (o j) 5 ∧ n 3 (o j) 5 ≤ 5000 * (e k - k - 1) - 100) := by
          rcases hM with ⟨w, _⟩ | ⟨_, w | w | w | w | w⟩
          · exact absurd w hm0
          · obtain ⟨c1, c2, c3, ⟨⟨y1, y2, y3⟩, y4, y5, _⟩, _, c6, c7, c8⟩ := w
            have hld := hC.2.2.2.2.2.2 j h2 hjN c1
            exact ⟨by omega, by omega, ⟨y1, y5⟩, c6, hld.1.1, hld.1.2.1, by omega⟩
          · obtain ⟨c1, c2, c3, ⟨⟨y1, y2, y3⟩, y4, y5, _⟩, c5, c6, c7⟩ := w
            exact ⟨by omega, by omega, ⟨y1, y5⟩, c5, c6.1, c6.2.1, by omega⟩
          · omega
          · omega
          · omega
        obtain ⟨f1, f2, f3, f4, f5⟩ := hfx
        obtain ⟨n17, hn17⟩ : ∃ n17, n17 = nw (nw n 3 (o j) 2 (at' + E + n 3 (o j) 6)) 3 (o j) 3 (E + n 3 (o j) 6) := ⟨_, rfl⟩
        obtain ⟨m13, hm13⟩ : ∃ m13, m13 = yw (yw m 110 (o j) (at' + n 3 (o j) 6)) 111 (o j) (n 3 (o j) 6) := ⟨_, rfl⟩
        have nK : ∀ K, K ≠ 3 → n17 K = n K := fun K a => by rw [hn17, nw_nK a, nw_nK a]
        have n3 : ∀ a, a ≠ o j → n17 3 a = n 3 a := fun a h => by rw [hn17, nw_ni h, nw_ni h]
        have n3s : ∀ a s, s ≠ 2 → s ≠ 3 → n17 3 a s = n 3 a s := fun a s y1 y2 => by rw [hn17, nw_ns y2, nw_ns y1]
        have mf : ∀ f, f ≠ 110 → f ≠ 111 → m13 f = m f := fun f y1 y2 => by rw [hm13, yw_nF y2, yw_nF y1]
        have fr : FRs (o k) n n17 := ⟨fun K hK => nK K (fun z => hK (by rw [z]; decide)), n3s, fun a _ y => n3 a (fun z => by rw [z] at y; rcases y with y | y; exact y hHo.2; exact f2 y), fun s _ => by rw [nK 5 (by decide)], ⟨by rw [nK 90 (by decide)]; exact Int.le_refl _, fun q _ => by rw [nK 92 (by decide), nK 93 (by decide)]; exact ⟨rfl, rfl⟩, fun q _ _ _ => by rw [nK 99 (by decide)], .inl (by rw [nK 5 (by decide)])⟩, fun _ _ _ => by rw [nK 99 (by decide)], fun _ _ _ => by rw [nK 99 (by decide)]; exact ⟨rfl, rfl⟩⟩
        have fy : FVy (o k) m m13 := by
          refine ⟨fun f hf => mf f (fun z => hf (by rw [z]; decide)) (fun z => hf (by rw [z]; decide)), fun a _ y => ?_, fun w _ _ => by rw [mf 121 (by decide) (by decide), mf 122 (by decide) (by decide)]; exact ⟨rfl, rfl⟩⟩
          have hne : a ≠ o j := fun z => y (by rw [z]; exact hHo.1)
          rw [hm13, yw_nF (show (110 : Nat) ≠ 111 by decide), yw_ni hne, yw_ni hne, yw_nF (show (111 : Nat) ≠ 110 by decide)]
          exact ⟨rfl, rfl⟩
        have hP' : PHC n17 m13 N o := by
          refine ⟨fun r a b => by rw [nK 7 (by decide), mf 49 (by decide) (by decide), mf 50 (by decide) (by decide), mf 52 (by decide) (by decide)]; exact hP.1 r a b, fun r a b c pr p0 p1 => ?_⟩
          rw [mf 46 (by decide) (by decide)] at c
          rw [nK 41 (by decide), mf 105 (by decide) (by decide)]
          exact hP.2 r a b c pr p0 p1
        have hPj : PSb n17 m13 E (o j) (6000000 * (j - k)) := by
          unfold PSb
          rw [hn17, nw_ns (show (2 : Int) ≠ 3 by decide), nw_eq, nw_eq, hm13, yw_nF (show (110 : Nat) ≠ 111 by decide), yw_eq, yw_eq]
          omega
        obtain ⟨n', m', hi', r1, r2, r3, r4, r5, r6⟩ := ih (e j) (at' + (n 3 (o j) 4 + 2 * n 3 (o j) 6)) (max hi (n 3 (o j) 5 + 2 * n 3 (o j) 6)) n17 m13 (by omega) (by omega) hnest hsib (hC.rs fr fy) hP' (fun r a b c => by rw [mf 107 (by decide) (by decide)] at c ⊢; exact hX r a b c) (by rw [mf 107 (by decide) (by decide)]; exact hb) (by rw [n3s _ 8 (by decide) (by decide)]; exact hE8) hE (by omega) (by omega) (fun r x y w => by
          rw [mf 109 (by decide) (by decide)] at w
          rw [mf 107 (by decide) (by decide), mf 116 (by decide) (by decide), n3s _ 19 (by decide) (by decide)]
          rcases Int.lt_trichotomy r j with u | u | u
          · have g := hS r x u w
            have hne : o r ≠ o j := fun z => by have := hG.inj (j := r) (k := j) (by omega) (by omega) (by omega) hjN z; omega
            refine ⟨fun u => ?_, fun u w' x' y' => ?_, fun u w' x' y' => (PRr.cg (fun f hf => mf f (by simp only [List.mem_cons, List.not_mem_nil, or_false] at hf; omega) (by simp only [List.mem_cons, List.not_mem_nil, or_false] at hf; omega))).mpr (g.2.2 u w' x' y')⟩
            · have g1 := g.1 u
              unfold PSb at *
              rw [n3 _ hne, hm13, yw_nF (show (110 : Nat) ≠ 111 by decide), yw_ni hne, yw_ni hne, yw_nF (show (111 : Nat) ≠ 110 by decide)]; exact g1
            · have g1 := g.2.1 u w' x' y'
              unfold DNw at *
              rw [nK 5 (by decide), nK 99 (by decide), mf 121 (by decide) (by decide), mf 122 (by decide) (by decide)]; exact g1
          · rw [u]; exact ⟨fun _ => hPj, fun u => by omega, fun u => by omega⟩
          · have := hdeep r u y w
            exact ⟨fun u => by omega, fun u => by omega, fun u => by omega⟩)
        refine ⟨n', m', hi', ?_, ?_, fun K a => (r3 K a).trans (nK K a), fr.trans r4, fy.trans r5, r6⟩
        · rw [← r1]
          unfold NL_Layout_layFlex_29
          refine it_inl ?_
          show nb_Layout_layFlex_29 (o k) (o k) (at' + E) hi (o j) n = _
          unfold nb_Layout_layFlex_29 nk_Layout_layFlex_115 st
          dsimp only
          rw [if_neg (by omega), ix_e _ ho, if_neg f1, nw_ni (show o k ≠ o j from fun z => hke z.symm), nw_ns (show (6 : Int) ≠ 2 by decide), hE8, ← hn17, n3s _ 6 (by decide) (by decide), n3s _ 4 (by decide) (by decide), n3s _ 5 (by decide) (by decide), nK 7 (by decide), hnc]
          apply eq_of_ev
          refine ev_ck (by omega) (ev_ck (by omega) (ev_ck (by omega) (ev_ck (by omega) (ev_ck (by omega) (ev_ck (by omega) (ev_ck (by omega) (ev_ix ho (ev_ok ?_))))))))
          rw [show at' + E + (n 3 (o j) 4 + 2 * n 3 (o j) 6) = at' + (n 3 (o j) 4 + 2 * n 3 (o j) 6) + E by omega]
        · rw [← r2]
          unfold NL_Y_layFlex_12
          refine it_inl ?_
          show nb_Y_layFlex_12 (o k) at' hi (o j) m = _
          have h41 : nk_Y_layFlex_41 (o k) at' hi (o j) m = some (.inl (at' + (n 3 (o j) 4 + 2 * n 3 (o j) 6), max hi (n 3 (o j) 5 + 2 * n 3 (o j) 6), (if e j < e k then o (e j) else -1), m13)) := by
            unfold nk_Y_layFlex_41 nk_Y_layFlex_102 st
            rw [y_of ho (by decide), ← f3.1]
            simp only [Option.bind_some]
            rw [← hm13, mf 112 (by decide) (by decide), mf 113 (by decide) (by decide), mf 52 (by decide) (by decide), ← f4.1, ← f5.1, hny]
            apply eq_of_ev
            exact ev_ck (by omega) (ev_ix ho (ev_ix ho (ev_ix ho (ev_ck (by omega) (ev_ck (by omega) (ev_ck (by omega) (ev_ix ho (ev_ck (by omega) (ev_ck (by omega) (ev_ix ho (ev_ok rfl)))))))))))
          unfold nb_Y_layFlex_12
          rw [if_neg (by omega), y_isBox ho]
          simp only [Option.bind_some]
          by_cases w : m 107 (o j) = 1 ∨ m 107 (o j) = 2
          · rw [if_pos w, if_neg (by decide), h41]
          · rw [if_neg w, if_pos rfl, ix_e _ ho, if_pos (by omega), h41]
    · exact ih j at' hi n m (by omega) h2 h3 hp hC hP hX hb hE8 hE hat hhi hS
end X9
