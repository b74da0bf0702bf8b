/-! LOAD, and settle, in both -/
/-- on the way, between two scripts -/
def WYS (As Bs : Int → Prop) (A B G : Int) (m0 : YS) (n : NS) (m : YS) (i : Int) : Prop :=
  JA As Bs A B 0 G n m ∧ BUD n m ∧ (n 0 0 17 = -1 ∧ n 6 0 16 = 0) ∧ ((m 163 0 = 0 ∨ m 163 0 = 1) ∧ m 152 0 = 0 ∧ m 153 0 = 0) ∧ (n 4 609 2 ≤ n 0 0 12 ∨ m 154 0 = 1) ∧ (0 ≤ m 181 0 ∧ m 181 0 ≤ 120) ∧ (∀ j, 0 ≤ j → j < m 181 0 → MkR (n 46 0 j) (m 179 j) (m 180 j) ∧ m 180 j ≤ m0 69 0) ∧ FP m0 m ∧ n 0 0 15 = i
/-- nothing is left to do -/
def WYE (As Bs : Int → Prop) (A B G : Int) (n : NS) (m : YS) : Prop :=
  JA As Bs A B 0 G n m ∧ BUD n m ∧ (n 0 0 17 = -1 ∧ n 6 0 16 = 0) ∧ ((m 163 0 = 0 ∨ m 163 0 = 1) ∧ m 152 0 = 0 ∧ m 153 0 = 0) ∧ (m 154 0 = 1 ∨ (n 4 609 2 ≤ n 0 0 12 ∧ n 0 0 16 ≤ n 0 0 15 ∧ n 0 0 18 = 0)) ∧ NIB m
def stl (x : Option (NS ⊕ NS ⊕ NS)) : Option NS := x.bind (us (fun n => some n) (us (fun n => some n) (fun n => some n)))
section O3
variable {n n' n'' : NS} {m m' m'' m0 : YS} {A B N N' k b a δ δ' fr to d L r r' q x f v c G i : Int} {o e p o' e' p' : Int → Int} {As Bs W S : Int → Prop}
theorem stl_end (h : WYE As Bs A B G n m) (hc : c < 1000000) : stl (NL_Acts_settle_2 c n) = some n := by
  obtain ⟨h1, h2, h3, h4, h5, _⟩ := h
  have h9 := h2.1
  have e : nb_Acts_settle_2 c n = some (.inr (.inl n)) ∨ nb_Acts_settle_2 c n = some (.inr (.inr (.inl n))) := by
    unfold nb_Acts_settle_2
    rw [if_pos hc, if_pos h3.2, if_pos h3.1]
    by_cases z : n 0 0 9 = 0
    · rw [if_pos z]; exact .inl rfl
    · rw [if_neg z]
      have h5 : n 4 609 2 ≤ n 0 0 12 ∧ n 0 0 16 ≤ n 0 0 15 ∧ n 0 0 18 = 0 := by
        rcases h5 with y | y
        · rcases h2.2.2 with u | u <;> omega
        · exact y
      rw [if_neg (by omega), if_neg (by omega), if_pos h5.2.2]; exact .inr rfl
  rcases e with e | e
  · have : NL_Acts_settle_2 c n = some (.inl n) := by unfold NL_Acts_settle_2; exact it_inr (f := fun s : Int × NS => nb_Acts_settle_2 s.1 s.2) (s := (c, n)) e
    rw [this]; rfl
  · have : NL_Acts_settle_2 c n = some (.inr (.inl n)) := by unfold NL_Acts_settle_2; exact it_inr (f := fun s : Int × NS => nb_Acts_settle_2 s.1 s.2) (s := (c, n)) e
    rw [this]; rfl
theorem y_76 {s s' : Int × YS} (h : nb_Y_settle_76 s.1 s.2 = some (.inl s')) : NL_Y_settle_76 s.1 s.2 = NL_Y_settle_76 s'.1 s'.2 := by
  unfold NL_Y_settle_76
  exact it_inl (f := fun s : Int × YS => nb_Y_settle_76 s.1 s.2) h
theorem y_76E (h : nb_Y_settle_76 v m = some (.inr m')) : NL_Y_settle_76 v m = some m' := by
  unfold NL_Y_settle_76
  exact it_inr (f := fun s : Int × YS => nb_Y_settle_76 s.1 s.2) (s := (v, m)) h
theorem OLV.at {w : List Int} (h : OLV m0 m) (hw : w ≠ [99, 108, 97, 115, 115]) (hv : 0 ≤ v ∧ v < 120) (h1 : m 45 v = 1) (hb : m 55 v ≤ m0 69 0) : olS w m v = olS w m0 v := by
  rcases h w hw v hv.1 hv.2 h1 with y | y
  · exact y.2.2
  · have := y.2.1; omega
theorem load_way (hN0 : NIB m0) (hb0 : ∀ u, 0 ≤ u → u < 120 → m0 45 u = 1 → m0 55 u ≤ m0 69 0) : ∀ (z : Nat) (i c G : Int) (n : NS) (m : YS), (m 181 0 - i).toNat ≤ z → WYS As Bs A B G m0 n m i → n 0 0 18 = 0 → n 0 0 16 = m 181 0 → 0 ≤ i → i ≤ m 181 0 → 0 ≤ c → c + zsm (fun j => 1 + olS wOnl m0 (m 179 j)) i (m 181 0) + 3000 * (200 - m 158 0) ≤ 990000 → G + 2300 * (200 - m 158 0) < 390000000 → (∀ j, 0 ≤ j → j < m 181 0 → 0 ≤ olS wOnl m0 (m 179 j)) →
    ∃ c' n' m', NL_Acts_settle_2 c n = NL_Acts_settle_2 c' n' ∧ NL_Y_settle_76 i m = some m' ∧ FC n n' m m' ∧ c ≤ c' ∧ (m 158 0 ≤ m' 158 0 ∧ m' 158 0 ≤ 200)
      ∧ ((WYE As Bs A B (G + 2300 * (m' 158 0 - m 158 0)) n' m' ∧ c' + 3000 * (200 - m' 158 0) ≤ c + zsm (fun j => 1 + olS wOnl m0 (m 179 j)) i (m 181 0) + 3000 * (200 - m 158 0))
        ∨ (WEN As Bs A B (G + 2300 * (m' 158 0 - m 158 0)) n' m' ∧ c' + 3000 * (200 - m' 158 0) + 2998 ≤ c + zsm (fun j => 1 + olS wOnl m0 (m 179 j)) i (m 181 0) + 3000 * (200 - m 158 0))) := by
  intro z
  induction z with
  | zero =>
    intro i c G n m hz h h18 h16 i0 i1 c0 hc hG hn
    obtain ⟨h1, h2, h3, h4, h5, h6, h7, h8, h9⟩ := h
    have hb : m 158 0 ≤ 200 := by rcases h2.2.2 with y | y <;> omega
    refine ⟨c, n, m, rfl, y_76E ?_, FC.refl n m, Int.le_refl _, ⟨Int.le_refl _, hb⟩, .inl ⟨⟨?_, h2, h3, h4, ?_, hN0.fp hb0 h8⟩, ?_⟩⟩
    · unfold nb_Y_settle_76
      rw [if_neg (by omega)]
    · rw [show G + 2300 * (m 158 0 - m 158 0) = G by omega]; exact h1
    · rcases h5 with y | y
      · exact .inr ⟨y, by omega, h18⟩
      · exact .inl y
    · rw [zsm_nil (by omega)]; omega
  | succ z ih =>
    intro i c G n m hz h h18 h16 i0 i1 c0 hc hG hn
    have h0 := h
    obtain ⟨h1, h2, h3, h4, h5, h6, h7, h8, h9⟩ := h
    have hb : m 158 0 ≤ 200 := by rcases h2.2.2 with y | y <;> omega
    have hnn : 0 ≤ zsm (fun j => 1 + olS wOnl m0 (m 179 j)) i (m 181 0) := zsm_ge0 (fun j a b => by have := hn j (by omega) b; show 0 ≤ 1 + olS wOnl m0 (m 179 j); omega) i1
    by_cases g1 : i < m 181 0
    · by_cases g2 : m 154 0 = 0
      · have hsz : n 4 609 2 ≤ n 0 0 12 := by rcases h5 with y | y <;> omega
        have hlt200 : m 158 0 < 200 := by rcases h2.2.2 with y | y <;> omega
        have h9' := h2.1
        obtain ⟨hM, hM69⟩ := h7 i i0 g1
        have hcost : zsm (fun j => 1 + olS wOnl m0 (m 179 j)) i (m 181 0) = 1 + olS wOnl m0 (m 179 i) + zsm (fun j => 1 + olS wOnl m0 (m 179 j)) (i + 1) (m 181 0) := by
          rw [zsm_add (a := i) (b := i + 1) (c := m 181 0) (by omega) (by omega), zsm_succ (Int.le_refl i), zsm_nil (Int.le_refl i)]; omega
        have hno := hn i i0 g1
        have hnn1 : 0 ≤ zsm (fun j => 1 + olS wOnl m0 (m 179 j)) (i + 1) (m 181 0) := zsm_ge0 (fun j a b => by have := hn j (by omega) b; show 0 ≤ 1 + olS wOnl m0 (m 179 j); omega) (by omega)
        obtain ⟨n1, eL, hL⟩ := listen_both (w := wOnl) (wN := 1000021) (WW := 135770575) h1 h2 h3 h4 ⟨h9, i0, by omega⟩ hM (by have := h8.2.2; omega) (by rw [if_pos h18]) (fun n => cs_packW okS21 (by decide) (by decide)) (by decide) ⟨by decide, by decide⟩
        have eT : NL_Acts_settle_2 c n = NL_Acts_settle_2 (c + 1) n1 := by
          have e1 : nb_Acts_settle_2 c n = some (.inl (c + 1, n1)) := by
            unfold nb_Acts_settle_2
            rw [if_pos (by omega), if_pos h3.2, if_pos h3.1, if_neg (by omega), if_neg (by omega), if_pos (by omega), eL]
            simp only [Option.bind_some]
            unfold ck
            rw [if_pos (by omega)]
          unfold NL_Acts_settle_2
          exact it_inl (f := fun s : Int × NS => nb_Acts_settle_2 s.1 s.2) e1
        have eY : ∀ (z : Int) (m2 : YS), N_Y_isThere i m = some z → (z = 0 ∧ m2 = m ∨ z = 1 ∧ N_Y_listen i 135770575 m = some m2) → NL_Y_settle_76 i m = NL_Y_settle_76 (i + 1) m2 := fun z m2 e1 e2 => by
          refine y_76 (s := (i, m)) (s' := (i + 1, m2)) ?_
          show nb_Y_settle_76 i m = _
          unfold nb_Y_settle_76
          rw [if_pos g1, if_pos h4.2.1, if_pos g2, e1]
          simp only [Option.bind_some]
          rcases e2 with ⟨y1, y2⟩ | ⟨y1, y2⟩
          · rw [if_pos y1, y2]
            unfold ck
            rw [if_pos (by omega)]
          · rw [if_neg (by omega), y2]
            simp only [Option.bind_some]
            unfold ck
            rw [if_pos (by omega)]
        rcases hL with ⟨z1, t1, t2, t3⟩ | ⟨m1, t1, t2, t3, t4, t5, t6, t7, t8, t9, t10, t11⟩
        · have k1 : ∀ K, K ≠ 0 → n1 K = n K := fun K hK => by rw [t3, nw_nK hK]
          have s1 : ∀ s, s ≠ 15 → n1 0 0 s = n 0 0 s := fun s hs => by rw [t3, nw_ns hs]
          have hW : WYS As Bs A B G m0 n1 m (i + 1) := by
            refine ⟨h1.cg (fun K a _ _ => k1 K a) (fun s hs => s1 s (by omega)) (fun s _ => by rw [k1 6 (by decide)]) (fun _ _ => rfl), ?_, ⟨by rw [s1 17 (by decide)]; exact h3.1, by rw [k1 6 (by decide)]; exact h3.2⟩, h4, ?_, h6, ?_, h8, ?_⟩
            · unfold BUD at *
              rw [s1 9 (by decide)]; exact h2
            · rw [k1 4 (by decide), s1 12 (by decide)]; exact h5
            · rw [k1 46 (by decide)]; exact h7
            · rw [t3, nw_eq]
          obtain ⟨c', n', m', z1', z2, z3, z4, z5, z6⟩ := ih (i + 1) (c + 1) G n1 m (by omega) hW (by rw [s1 18 (by decide)]; exact h18) (by rw [s1 16 (by decide)]; exact h16) (by omega) (by omega) (by omega) (by omega) hG hn
          refine ⟨c', n', m', eT.trans z1', ?_, (FC.k0 (fun K a _ _ => k1 K a) (fun s hs => s1 s (fun w => hs (by rw [w]; decide))) (fun _ _ _ => rfl) (fun _ _ => rfl) (.inr rfl)).trans z3, by omega, z5, ?_⟩
          · rw [eY z1 m t1 (by rcases t2 with y | y; exact .inl ⟨y, rfl⟩; exact .inr y)]; exact z2
          · rcases z6 with ⟨w1, w2⟩ | ⟨w1, w2⟩
            · exact .inl ⟨w1, by omega⟩
            · exact .inr ⟨w1, by omega⟩
        · have y6 : ∀ g, ¬ (159 ≤ g ∧ g ≤ 162) → m1 g = m g := fun g hg => t6 g (by simp only [List.mem_cons, List.not_mem_nil, or_false, not_or]; omega)
          have e158 : m1 158 0 = m 158 0 := by rw [y6 158 (by decide)]
          have hol : olS wOnl m (m 179 i) = olS wOnl m0 (m 179 i) := h8.2.1.at (by decide) hM.2.1 t5.1 (by omega)
          have hlen := t5.2.2
          obtain ⟨c2, n2, m2, r1, r2, r3, r4, r5, r6⟩ := run_both (m1 160 0 + 1).toNat 0 (c + 1) G n1 m1 (by omega) t3 t4 (Int.le_refl _) (by have := t3.2.1.1; omega) (by omega) (by rw [e158]; omega) (by rw [e158]; exact hG)
          have eR : N_Y_listen i 135770575 m = some m2 := by
            rw [t2]
            unfold N_Y_runScript
            rw [r2]; rfl
          have eS := eY 1 m2 t1 (.inr ⟨rfl, eR⟩)
          rcases r6 with ⟨q1, q2, q3, q4, q5⟩ | ⟨q1, q2⟩
          · obtain ⟨u1, u2, u3, u4, u5, u6, u7⟩ := q1
            have e181 : m2 181 = m 181 := by rw [q2.2.1 181 (by omega), y6 181 (by decide)]
            have e179 : m2 179 = m 179 := by rw [q2.2.1 179 (by omega), y6 179 (by decide)]
            have e180 : m2 180 = m 180 := by rw [q2.2.1 180 (by omega), y6 180 (by decide)]
            have c18 : n2 0 0 18 = 0 := by
              rcases q2.2.2 with y | y
              · rw [y.2.1, t11]; exact h18
              · exact y.2.1
            have c16 : n2 0 0 16 = m2 181 0 := by
              rw [e181, ← h16]
              rcases q2.2.2 with y | y
              · rw [y.2.2, t10]
              · rw [y.2.2, if_pos (by rw [t11]; exact h18), t10]
            have hFP : FP m0 m2 := (h8.trans (FP.of (fun g a b => y6 g (by omega)))).trans q3
            have hW : WYS As Bs A B (G + 2300 * (m2 158 0 - m1 158 0)) m0 n2 m2 (i + 1) := ⟨u1, u3, u4, ⟨u5, u6, u7⟩, q4, by rw [e181]; exact h6, by rw [q2.1.2, t9, e179, e180, e181]; exact h7, hFP, by rw [q2.1.1]; exact t8⟩
            obtain ⟨c', n', m', z1', z2, z3, z4, z5, z6⟩ := ih (i + 1) c2 (G + 2300 * (m2 158 0 - m1 158 0)) n2 m2 (by rw [e181]; omega) hW c18 c16 (by omega) (by rw [e181]; omega) (by omega) (by rw [e179, e181]; omega) (by omega) (by rw [e179, e181]; exact hn)
            rw [e179, e181] at z6
            rw [show G + 2300 * (m2 158 0 - m1 158 0) + 2300 * (m' 158 0 - m2 158 0) = G + 2300 * (m' 158 0 - m 158 0) by omega] at z6
            refine ⟨c', n', m', (eT.trans r1).trans z1', by rw [eS]; exact z2, (t7.trans r3).trans z3, by omega, by omega, ?_⟩
            rcases z6 with ⟨w1, w2⟩ | ⟨w1, w2⟩
            · exact .inl ⟨w1, by omega⟩
            · exact .inr ⟨w1, by omega⟩
          · rw [e158] at q1
            refine ⟨c2, n2, m2, eT.trans r1, ?_, t7.trans r3, by omega, by omega, .inr ⟨q1, by omega⟩⟩
            rw [eS]
            refine y_76E ?_
            unfold nb_Y_settle_76
            have := q1.2.2.2.2.1.1
            by_cases u : i + 1 < m2 181 0
            · rw [if_pos u, if_neg (by omega)]
            · rw [if_neg u]
      · have g2' : m 154 0 = 1 := by rcases h2.2.2 with y | y <;> omega
        refine ⟨c, n, m, rfl, y_76E ?_, FC.refl n m, Int.le_refl _, ⟨Int.le_refl _, hb⟩, .inl ⟨⟨?_, h2, h3, h4, .inl g2', hN0.fp hb0 h8⟩, by omega⟩⟩
        · unfold nb_Y_settle_76
          rw [if_pos g1, if_pos h4.2.1, if_neg g2]
        · rw [show G + 2300 * (m 158 0 - m 158 0) = G by omega]; exact h1
    · refine ⟨c, n, m, rfl, y_76E ?_, FC.refl n m, Int.le_refl _, ⟨Int.le_refl _, hb⟩, .inl ⟨⟨?_, h2, h3, h4, ?_, hN0.fp hb0 h8⟩, by omega⟩⟩
      · unfold nb_Y_settle_76
        rw [if_neg g1]
      · rw [show G + 2300 * (m 158 0 - m 158 0) = G by omega]; exact h1
      · rcases h5 with y | y
        · exact .inr ⟨y, by omega, h18⟩
        · exact .inl y
theorem settle_wen0 (c G : Int) (n : NS) (m : YS) (h : WEN As Bs A B G n m) (c0 : 0 ≤ c) (hc : c + 1404 + 3000 * (200 - m 158 0) ≤ 990000) (hG : G + 2300 * (200 - m 158 0) < 390000000) (_ : True)
    (ih : ∀ (c' G' : Int) (n' : NS) (m' : YS), WEN As Bs A B G' n' m' → 0 ≤ c' → c' + 1404 + 3000 * (200 - m' 158 0) ≤ 990000 → G' + 2300 * (200 - m' 158 0) < 390000000 → m 158 0 < m' 158 0 ∧ m' 158 0 ≤ 200 →
      ∃ c'' n'' m'', NL_Acts_settle_2 c' n' = NL_Acts_settle_2 c'' n'' ∧ NL_Y_settle_0 m' = some m'' ∧ FC n' n'' m' m'' ∧ c' ≤ c'' ∧ (m' 158 0 ≤ m'' 158 0 ∧ m'' 158 0 ≤ 200) ∧ WYE As Bs A B (G' + 2300 * (m'' 158 0 - m' 158 0)) n'' m'' ∧ c'' + 3000 * (200 - m'' 158 0) ≤ c' + 1404 + 3000 * (200 - m' 158 0)) :
    ∃ c' n' m', NL_Acts_settle_2 c n = NL_Acts_settle_2 c' n' ∧ NL_Y_settle_0 m = some m' ∧ FC n n' m m' ∧ c ≤ c' ∧ (m 158 0 ≤ m' 158 0 ∧ m' 158 0 ≤ 200) ∧ WYE As Bs A B (G + 2300 * (m' 158 0 - m 158 0)) n' m' ∧ c' + 3000 * (200 - m' 158 0) ≤ c + 1404 + 3000 * (200 - m 158 0) := by
  obtain ⟨h1, h2, h3, h4, h5, ⟨p1, p2, p3, p4⟩, ⟨N, o, e, p, hT, hCW⟩, h8, h9⟩ := h
  have hb : m 158 0 ≤ 200 := by rcases h2.2.2 with y | y <;> omega
  generalize hm12 : yw (yw (yw m 153 0 0) 152 0 0) 181 0 0 = m12
  have y12 : ∀ g, g ≠ 152 → g ≠ 153 → g ≠ 181 → m12 g = m g := fun g u w x => by rw [← hm12, yw_nF x, yw_nF u, yw_nF w]
  have v12 : m12 152 0 = 0 ∧ m12 153 0 = 0 ∧ m12 181 0 = 0 := by
    rw [← hm12]
    exact ⟨by rw [yw_nF (by decide), yw_eq], by rw [yw_nF (by decide), yw_nF (by decide), yw_eq], yw_eq⟩
  have jA12 : JA As Bs A B 0 G n m12 := h1.cg (fun _ _ _ _ => rfl) (fun _ _ => rfl) (fun _ _ => rfl) (fun g hg => y12 g (fun w => hg (by rw [w]; decide)) (fun w => hg (by rw [w]; decide)) (fun w => hg (by rw [w]; decide)))
  have b12 : BUD n m12 := by unfold BUD at *; rw [y12 158 (by decide) (by decide) (by decide), y12 154 (by decide) (by decide) (by decide)]; exact h2
  have fc12 : FC n n m m12 := FC.k0 (fun _ _ _ _ => rfl) (fun _ _ => rfl) (fun g a _ => y12 g (by omega) (by omega) (by omega)) (fun g a => y12 g (by omega) (by omega) (by omega)) (.inr (by rw [y12 126 (by decide) (by decide) (by decide)]))
  have eY : ∀ m15 m', NL_Y_settle_24 0 m12 = some m15 → NL_Y_settle_76 0 m15 = some m' → NL_Y_settle_0 m = NL_Y_settle_0 m' := fun m15 m' e1 e2 => by
    unfold NL_Y_settle_0
    refine it_inl ?_
    show nb_Y_settle_0 m = _
    unfold nb_Y_settle_0 st
    dsimp only
    rw [if_neg (by omega), hm12, e1]
    simp only [Option.bind_some]
    unfold nk_Y_settle_74
    rw [e2]; rfl
  have eE : ∀ m', m' 153 0 = 0 → NL_Y_settle_0 m' = some m' := fun m' e1 => by
    unfold NL_Y_settle_0
    refine it_inr ?_
    show nb_Y_settle_0 m' = _
    unfold nb_Y_settle_0
    rw [if_pos e1]
  have e158 : m12 158 0 = m 158 0 := by rw [y12 158 (by decide) (by decide) (by decide)]
  by_cases g : m 154 0 = 0
  · have hT12 : JTr n m12 N o e p := hT.cg (fun _ _ => rfl) (fun _ _ _ => rfl) (fun g a b => y12 g (by omega) (by omega) (by omega))
    have hCW12 : CWY n m12 N o := hCW.cg (fun g hg => y12 g (by omega) (by omega) (by omega))
    obtain ⟨m15, e15, f15, w15⟩ := y_way hT12.1 v12.2.2 (by rw [y12 154 (by decide) (by decide) (by decide)]; exact g)
    have y15 : ∀ g, ¬ (179 ≤ g ∧ g ≤ 181) → m15 g = m12 g := fun g hg => f15 g (by simp only [List.mem_cons, List.not_mem_nil, or_false, not_or]; omega)
    have hw12 : wtS m12 ≤ 1284 := by
      rw [wtS_cg (m := m) (y12 45 (by decide) (by decide) (by decide)) (fun g hg => y12 g (by omega) (by omega) (by omega))]; exact h8
    have hcost := way_cost hT12.1 hw12 w15
    have hN := hT.1.1.1.N1
    have hcb := cnO_b (m := m12) (o := o) (k := N) (by omega)
    have eol : ∀ u, olS wOnl m15 u = olS wOnl m12 u := fun u => by
      unfold olS fnd anL
      rw [y15 56 (by decide), y15 57 (by decide), y15 58 (by decide), y15 60 (by decide)]
    have nib12 : NIB m12 := nin_wt hT12.1 hw12 (by rw [y12 46 (by decide) (by decide) (by decide)]; exact h9)
    have jA15 : JA As Bs A B 0 G n m15 := jA12.cg (fun _ _ _ _ => rfl) (fun _ _ => rfl) (fun _ _ => rfl) (fun g hg => y15 g (fun w => hg (by simp only [List.mem_cons, List.not_mem_nil, or_false]; omega)))
    have e158' : m15 158 0 = m 158 0 := by rw [y15 158 (by decide)]; exact e158
    have way : ∀ j, 0 ≤ j → j < m15 181 0 → ∃ k, 0 ≤ k ∧ k < N ∧ n 46 0 j = m12 55 (o k) * 128 + o k ∧ m15 179 j = o k ∧ m15 180 j = m12 55 (o k) := fun j j0 j1 => by
      rw [w15.1] at j1
      obtain ⟨k, k0, k1, k2, k3⟩ := cnO_at (m := m12) (o := o) (N := N) (by omega) ⟨j0, j1⟩
      have a1 := hCW12.2 k k0 k1 k2
      have a2 := w15.2 k k0 k1 k2
      rw [k3] at a1 a2
      exact ⟨k, k0, k1, a1, a2.1, a2.2⟩
    have hW : WYS As Bs A B G m15 n m15 0 := by
      refine ⟨jA15, ?_, h3, ⟨?_, ?_, ?_⟩, .inl (by rw [p4, p1]; exact Int.le_refl _), by rw [w15.1]; omega, fun j j0 j1 => ?_, FP.refl m15, p2⟩
      · unfold BUD at *
        rw [y15 158 (by decide), y15 154 (by decide)]; exact b12
      · rw [y15 163 (by decide), y12 163 (by decide) (by decide) (by decide)]; exact h4
      · rw [y15 152 (by decide)]; exact v12.1
      · rw [y15 153 (by decide)]; exact v12.2.1
      · obtain ⟨k, k0, k1, a1, a2, a3⟩ := way j j0 j1
        have hv := hT12.liv k0 k1
        have hbn := hT12.1.born hv.1.1 hv.1.2 hv.2
        rw [a2, a3, y15 69 (by decide)]
        exact ⟨⟨a1, hv.1, hbn.1⟩, hbn.2⟩
    have hz : zsm (fun j => 1 + olS wOnl m15 (m15 179 j)) 0 (m15 181 0) ≤ 1404 := by
      rw [zsm_cg (g' := fun j => 1 + olS wOnl m12 (m15 179 j)) (fun j _ _ => by rw [eol])]; exact hcost
    obtain ⟨c', n', m', z1, z2, z3, z4, z5, z6⟩ := load_way (m0 := m15) (nib12.fp jA12.born (FP.of (fun g a b => y15 g (by omega)))) jA15.born (m15 181 0).toNat 0 c G n m15 (by omega) hW p3 (by rw [hCW12.1, w15.1]) (Int.le_refl _) (by rw [w15.1]; omega) c0 (by rw [e158']; omega) (by rw [e158']; exact hG) (fun j j0 j1 => by
      obtain ⟨k, k0, k1, a1, a2, a3⟩ := way j j0 j1
      rw [a2, eol]
      exact (olS_0 (hT12.1.2.2.2 k k0 k1)).1)
    have eS := eY m15 m' e15 z2
    have fc15 : FC n n m12 m15 := FC.k0 (fun _ _ _ _ => rfl) (fun _ _ => rfl) (fun g a _ => y15 g (by omega)) (fun g a => y15 g (by omega)) (.inr (by rw [y15 126 (by decide)]))
    rw [e158'] at z5 z6
    rcases z6 with ⟨w1, w2⟩ | ⟨w1, w2⟩
    · exact ⟨c', n', m', z1, by rw [eS]; exact eE m' w1.2.2.2.1.2.2, (fc12.trans fc15).trans z3, z4, z5, w1, by omega⟩
    · obtain ⟨c'', n'', m'', q1, q2, q3, q4, q5, q6, q7⟩ := ih c' _ n' m' w1 (by omega) (by omega) (by omega) ⟨by omega, by omega⟩
      refine ⟨c'', n'', m'', z1.trans q1, by rw [eS]; exact q2, ((fc12.trans fc15).trans z3).trans q3, by omega, by omega, ?_, by omega⟩
      rw [show G + 2300 * (m'' 158 0 - m 158 0) = G + 2300 * (m' 158 0 - m 158 0) + 2300 * (m'' 158 0 - m' 158 0) by omega]; exact q6
  · have g' : m 154 0 = 1 := by rcases h2.2.2 with y | y <;> omega
    have e24 : NL_Y_settle_24 0 m12 = some m12 := by
      unfold NL_Y_settle_24
      refine it_inr (f := fun s : Int × YS => nb_Y_settle_24 s.1 s.2) (s := (0, m12)) ?_
      show nb_Y_settle_24 0 m12 = _
      unfold nb_Y_settle_24
      rw [if_neg (by decide), if_neg (by rw [y12 154 (by decide) (by decide) (by decide)]; exact g)]
    have e76 : NL_Y_settle_76 0 m12 = some m12 := by
      refine y_76E ?_
      unfold nb_Y_settle_76
      rw [if_neg (by rw [v12.2.2]; decide)]
    refine ⟨c, n, m12, rfl, by rw [eY m12 m12 e24 e76]; exact eE m12 v12.2.1, fc12, Int.le_refl _, by omega, ⟨?_, b12, h3, ⟨by rw [y12 163 (by decide) (by decide) (by decide)]; exact h4, v12.1, v12.2.1⟩, .inl (by rw [y12 154 (by decide) (by decide) (by decide)]; exact g'), (nin_wt hT.1 h8 h9).fp h1.born (FP.of (fun g a b => y12 g (by omega) (by omega) (by omega)))⟩, by omega⟩
    rw [e158, show G + 2300 * (m 158 0 - m 158 0) = G by omega]; exact jA12
/-- pages that load pages -/
theorem settle_wen : ∀ (z : Nat) (c G : Int) (n : NS) (m : YS), (200 - m 158 0).toNat ≤ z → WEN As Bs A B G n m → 0 ≤ c → c + 1404 + 3000 * (200 - m 158 0) ≤ 990000 → G + 2300 * (200 - m 158 0) < 390000000 →
    ∃ c' n' m', NL_Acts_settle_2 c n = NL_Acts_settle_2 c' n' ∧ NL_Y_settle_0 m = some m' ∧ FC n n' m m' ∧ c ≤ c' ∧ (m 158 0 ≤ m' 158 0 ∧ m' 158 0 ≤ 200) ∧ WYE As Bs A B (G + 2300 * (m' 158 0 - m 158 0)) n' m' ∧ c' + 3000 * (200 - m' 158 0) ≤ c + 1404 + 3000 * (200 - m 158 0) := by
  intro z
  induction z with
  | zero =>
    intro c G n m hz h c0 hc hG
    exact settle_wen0 c G n m h c0 hc hG trivial (fun _ _ _ _ _ _ _ _ hz' => by omega)
  | succ z ih =>
    intro c G n m hz h c0 hc hG
    exact settle_wen0 c G n m h c0 hc hG trivial (fun c' G' n' m' a b d e f => ih c' G' n' m' (by omega) a b d e)
end O3
