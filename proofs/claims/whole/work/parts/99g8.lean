/-! A RUN of text, in both -/
section G8
variable {Z : NS × YS} {n n' : NS} {m m' : YS} {A B N i to r bl oc : Int} {o e p qs : Int → Int}
theorem addRun_both (hJ : JR Z A B n m N o e p qs oc) (hC : JCn Z n m i) (hi : 0 ≤ i ∧ i < to ∧ to ≤ m 76 0) (hr : r = 0 ∨ r = 1) (hbl : (bl = 1 ∧ ∀ j, i ≤ j → j < to → isBl (m 75 j)) ∨ (bl = 0 ∧ ¬ ∀ j, i ≤ j → j < to → isBl (m 75 j))) :
    ∃ n' m' N' o' e' p', N_Reader_addRun i to (1 - r) n = some n' ∧ runT i r to bl m = some (to, m') ∧ JR Z A B n' m' N' o' e' p' qs oc ∧ JCn Z n' m' to ∧ n' 8 0 10 = n 8 0 10 ∧ m' 76 = m 76 := by
  obtain ⟨hB, hT, hP, hF, hS, hO, hX, h106⟩ := hJ
  have hG := hT.1.1
  obtain ⟨o1, o2, o3, o4⟩ := hO.1
  obtain ⟨hk1, hk2, hk3, hk4, hk5, hk6⟩ := hO.2.2.1 (oc - 1) (by omega) (by omega)
  have hL := hS.1.2.2.2
  generalize hkk : qs (oc - 1) = k at *
  have hv := hG.oB hk1.1 hk1.2
  have hlk : n 7 (o k) 4 = m 51 (o k) := (hT.1.2.2.2.2.1 k hk1.1 hk1.2).1.2.2.1
  have eC1 : N_Reader_addRun i to (1 - r) n = if m 51 (o k) = -1 then nk_Reader_addRun_52 i to (1 - r) (o k) n else ix (m 51 (o k)) 120 (if n 7 (m 51 (o k)) 0 = 17 then nk_Reader_addRun_96 i to (1 - r) (m 51 (o k)) n else nk_Reader_addRun_52 i to (1 - r) (o k) n) := by
    unfold N_Reader_addRun
    rw [o1]
    unfold ck
    rw [if_pos (by omega)]
    show (if 0 ≤ oc - 1 ∧ oc - 1 < 22 then ix (n 30 0 (oc - 1)) 120 _ else none) = _
    rw [if_pos (by omega), hk3, hlk]
    show (if 0 ≤ o k ∧ o k < 120 then _ else none) = _
    rw [if_pos hv]
  have eY1 : runT i r to bl m = if m 51 (o k) = -1 then nk_Y_run_133 i r to bl (o k) (m 51 (o k)) m else ix (m 51 (o k)) 120 (if m 46 (m 51 (o k)) = 17 then nk_Y_run_134 i r to bl (o k) (m 51 (o k)) 1 m else nk_Y_run_133 i r to bl (o k) (m 51 (o k)) m) := by
    unfold runT
    rw [o2]
    unfold ck
    rw [if_pos (by omega)]
    show (if 0 ≤ oc - 1 ∧ oc - 1 < 22 then ix (m 73 (oc - 1)) 120 _ else none) = _
    rw [if_pos (by omega), hk4]
    show (if 0 ≤ o k ∧ o k < 120 then _ else none) = _
    rw [if_pos hv]
  -- no TEXT is the last in it
  have other : (m 51 (o k) = -1 ∨ m 46 (m 51 (o k)) ≠ 17) → N_Reader_addRun i to (1 - r) n = nk_Reader_addRun_52 i to (1 - r) (o k) n → runT i r to bl m = nk_Y_run_134 i r to bl (o k) (m 51 (o k)) 0 m → ∃ n' m' N' o' e' p', N_Reader_addRun i to (1 - r) n = some n' ∧ runT i r to bl m = some (to, m') ∧ JR Z A B n' m' N' o' e' p' qs oc ∧ JCn Z n' m' to ∧ n' 8 0 10 = n 8 0 10 ∧ m' 76 = m 76 := fun hno eC eY => by
    obtain ⟨b, eb, hb⟩ := c_isBlankRun (n := n) (g := m 75) (L := m 76 0) (i := i) (to := to) hS.1 ⟨hi.1, by omega, hi.2.2⟩
    unfold nk_Reader_addRun_52 at eC
    rw [eb] at eC
    simp only [Option.bind_some] at eC
    unfold nk_Y_run_134 at eY
    rcases hbl with ⟨l1, l2⟩ | ⟨l1, l2⟩
    · have hb1 : b = 1 := by
        rcases hb with ⟨y, _⟩ | ⟨_, y⟩
        · exact y
        · exact absurd l2 y
      rw [if_neg (by omega)] at eC
      rw [if_neg (by omega), if_pos rfl] at eY
      exact ⟨n, m, N, o, e, p, eC, eY, ⟨hB, hT, hP, hF, hS, hO, by rw [hkk]; exact hX, h106⟩, ⟨by have := hC.1; omega, by have := hC.2.1; omega, by have := hC.2.2; omega⟩, rfl, rfl⟩
    · have hb0 : b = 0 := by
        rcases hb with ⟨_, y⟩ | ⟨y, _⟩
        · exact absurd y l2
        · exact y
      rw [if_pos hb0, J_room hT.1 hk1.1 hk1.2] at eC
      simp only [Option.bind_some] at eC
      rw [if_pos l1] at eY
      unfold nk_Y_run_148 at eY
      rw [if_pos rfl, J_fresh hT.1 hk1.1 hk1.2 (by have := hC.2.1; have := h106.1; omega)] at eY
      by_cases hroom : N < 120 ∧ m 54 (o k) < 20
      · rw [if_pos hroom, if_neg (by decide)] at eC
        rw [if_pos hroom] at eY
        obtain ⟨g1, g2, ⟨f0, f1, f2⟩, g3⟩ := hT.grown (t := 17) (c := 0) hP hk1.1 hk1.2 hroom.1 hroom.2 (by decide) hk5 ⟨h106.1.1, by have := hC.1; have := h106.1; omega, by have := hC.2.1; have := h106.1; omega⟩
        obtain ⟨hnd, hony⟩ := hT.newText hP hB hk1.1 hk1.2 hroom.1 hroom.2 hk5.1 ⟨h106.1.1, by have := hC.1; have := h106.1; omega, by have := hC.2.1; have := h106.1; omega⟩
        have hfk : frY m ≠ o k := fun z => f2 k hk1.1 hk1.2 z.symm
        obtain ⟨hBn, _⟩ := newC_BI (n := n) (f := frY m) (k := o k) (t := 17) (c := 0) hB ⟨f0, f1⟩
        have hyv := newY_v (m := m) (v := frY m) (q := o k) (d := m 54 (o k) + 1) hfk
        have y51 := newY_51 (m := m) (v := frY m) (q := o k) (d := m 54 (o k) + 1) (i := o k) hfk (Ne.symm hfk)
        have y69 : newY m (frY m) (o k) (m 54 (o k) + 1) 69 0 = m 69 0 + 1 := hyv.2.2.2.2.2.2.2.2.2.2.2.2.2.2.2
        have y63 : newY m (frY m) (o k) (m 54 (o k) + 1) 63 (frY m) = 0 := hyv.2.2.2.2.2.2.2.2.2.2.1
        have yo : ∀ (g : Nat) (u : Int), (g = 70 ∨ g = 71 ∨ g = 72 ∨ g = 73 ∨ g = 74 ∨ g = 75 ∨ g = 76 ∨ g = 67 ∨ g = 46) ∨ (u ≠ frY m ∧ (g = 54 ∨ g = 63)) → newY m (frY m) (o k) (m 54 (o k) + 1) g u = m g u := fun g u hg => newY_o hfk (by omega) (by omega) (by omega)
        have c106 : newC n (frY m) (o k) 17 0 10 0 6 = n 10 0 6 + 1 := by rw [newC_10, if_neg (by decide), if_pos rfl]
        have c4 : ∀ b, newC n (frY m) (o k) 17 0 4 b 1 = n 4 b 1 := fun b => by rw [newC_4, if_neg (by omega)]
        have cK : ∀ K, K ≠ 7 → K ≠ 4 → K ≠ 10 → newC n (frY m) (o k) 17 0 K = n K := fun K a b c => newC_K ⟨a, b, c⟩
        rw [g1] at eC
        generalize hn1 : newC n (frY m) (o k) 17 0 = n1 at *
        generalize hm1 : newY m (frY m) (o k) (m 54 (o k) + 1) = m1 at *
        generalize hm2 : yw m1 46 (frY m) 17 = m2 at *
        have m2o : ∀ g, g ≠ 46 → m2 g = m1 g := fun g hg => by rw [← hm2]; exact yw_nF hg
        obtain ⟨hT1, hP1⟩ := g3 n1 m2 ⟨fun u _ _ _ => NG.refl _ _, fun _ _ _ _ _ => rfl, rfl, rfl⟩ hony hnd
        have m2f : ∀ g, (g = 70 ∨ g = 71 ∨ g = 72 ∨ g = 73 ∨ g = 74 ∨ g = 75 ∨ g = 76 ∨ g = 67) → m2 g = m g := fun g hg => by
          rw [m2o g (by omega)]; funext u; exact yo g u (by omega)
        have hF1 : JF n1 m2 := by
          unfold JF at *
          rw [m2f 70 (by omega), m2f 71 (by omega), m2f 72 (by omega), cK 8 (by decide) (by decide) (by decide), cK 28 (by decide) (by decide) (by decide), cK 29 (by decide) (by decide) (by decide)]
          exact hF
        have hS1 : JSrc n1 m2 := by
          unfold JSrc RDR tx at *
          rw [m2f 75 (by omega), m2f 76 (by omega), cK 8 (by decide) (by decide) (by decide), cK 90 (by decide) (by decide) (by decide), cK 92 (by decide) (by decide) (by decide), cK 93 (by decide) (by decide) (by decide), cK 99 (by decide) (by decide) (by decide)]
          exact ⟨hS.1, hS.2.1, fun b b0 b1 => by rw [c4]; exact hS.2.2.1 b b0 b1, hS.2.2.2⟩
        have hek : e k = N := hk2
        rw [hek] at hT1 hP1
        have e8 := cK 8 (by decide) (by decide) (by decide)
        have hcutne : n 8 0 11 ≠ frY m := fun z => by
          rcases hX.1 with y | ⟨j, y0, y1, y2⟩
          · omega
          · exact f2 j y0 y1 (y2.trans z)
        have h63 : m2 63 (frY m) = 0 := by rw [m2o 63 (by decide)]; exact y63
        have hoN : insO o N (frY m) N = frY m := by unfold insO; rw [if_neg (by omega), if_pos rfl]
        obtain ⟨n', m', a1, a2, a3, a4, a5, a6, a7, a8, a9, a10, a11, a12, a13, a14, a15⟩ := fill_both (i := i) (to := to) (r := r) (j := N) (t := frY m) hBn hT1 hP1 hF1 hS1 (by omega) (by omega) hoN (by rw [← hm2]; exact yw_eq) (.inl h63) ⟨fun z => by omega, fun z => by rw [e8] at z; exact absurd z hcutne⟩ ⟨hi.1, by omega, by rw [m2f 76 (by omega)]; exact hi.2.2⟩ hr (by rw [m2f 70 (by omega)]; have := hC.2.2; omega)
        refine ⟨n', m', N + 1, insO o N (frY m), insE e k N, insP p k N, ?_, ?_, ⟨a3, a4, a5, a6, a7, ?_, ?_, ?_⟩, ⟨?_, ?_, ?_⟩, ?_, ?_⟩
        · rw [eC]; exact a1
        · rw [eY]
          show (if frY m = -1 then _ else ix (frY m) 120 (st (yw m1 46 (frY m) 17) fun m17 => nk_Y_run_185 i r to (frY m) m17)) = _
          rw [if_neg (by omega)]
          show (if 0 ≤ frY m ∧ frY m < 120 then nk_Y_run_185 i r to (frY m) (yw m1 46 (frY m) 17) else none) = _
          rw [if_pos ⟨f0, f1⟩, hm2]; exact a2
        · have hOO := hO.new (n' := n') (m' := m') (f := frY m) hT.1 f2 (by rw [a12 6 (by decide) (by decide), e8]) (by rw [a11 30 (by decide) (by decide) (by decide) (by decide) (by decide) (by decide) (by decide) (by decide) (by decide), cK 30 (by decide) (by decide) (by decide)]) (by rw [a11 31 (by decide) (by decide) (by decide) (by decide) (by decide) (by decide) (by decide) (by decide) (by decide), cK 31 (by decide) (by decide) (by decide)]) (by rw [a13 74 (by decide)]; exact m2f 74 (by omega)) (by rw [a13 73 (by decide)]; exact m2f 73 (by omega)) (fun u hu => ⟨by rw [a13 46 (by decide), ← hm2, yw_ni hu]; exact yo 46 u (by omega), by rw [a13 54 (by decide), m2o 54 (by decide)]; exact yo 54 u (by omega), by rw [a13 67 (by decide), m2f 67 (by omega)]⟩)
          rw [hkk] at hOO
          exact hOO
        · rw [hkk]
          have hio : insO o N (frY m) k = o k := by unfold insO; rw [if_pos hk1.2]
          rw [hio]
          have e51 : m' 51 (o k) = frY m := by
            rw [a13 51 (by decide), m2o 51 (by decide), y51, if_pos ⟨rfl, by omega⟩]
          refine ⟨?_, fun _ _ => ?_⟩
          · rcases a10 with y | y
            · rw [y, e8]
              rcases hX.1 with w | ⟨j, w0, w1, w2⟩
              · exact .inl w
              · refine .inr ⟨j, w0, by omega, ?_⟩
                unfold insO; rw [if_pos w1]; exact w2
            · exact .inr ⟨N, by omega, by omega, by rw [hoN, y]⟩
          · rw [e51]; exact ⟨a8, a9⟩
        · refine h106.cg (FRR.trans ⟨fun K c => ?_, fun b hb => ?_, by rw [cK 90 (by decide) (by decide) (by decide)]; exact Int.le_refl _, fun q _ => by rw [cK 92 (by decide) (by decide) (by decide), cK 93 (by decide) (by decide) (by decide)]; exact ⟨rfl, rfl⟩, fun q _ _ => by rw [cK 99 (by decide) (by decide) (by decide)], fun b _ _ => .inl (c4 b), by rw [c106]; omega⟩ a15) (FYR.trans (fun f hf => ?_) (FYR.of a13 (by decide)))
          · simp only [List.mem_cons, List.not_mem_nil, or_false, not_or] at c
            exact cK K (by omega) (by omega) (by omega)
          · funext s; rw [← hn1, newC_4, if_neg (by omega)]
          · rw [m2o f (by omega), ← hm1]; funext u; exact newY_o hfk (by omega) (by omega) (by omega)
        · rw [a11 10 (by decide) (by decide) (by decide) (by decide) (by decide) (by decide) (by decide) (by decide) (by decide), c106, a13 76 (by decide), m2f 76 (by omega)]
          have := hC.1; omega
        · rw [a13 69 (by decide), m2o 69 (by decide), y69, a13 76 (by decide), m2f 76 (by omega)]
          have := hC.2.1; omega
        · rw [m2f 70 (by omega)] at a14
          have w1 := wtS_fy a13 (by decide)
          have w2 := wtS_new (m := m) (m' := m2) ⟨f0, f1⟩ (hT.1.fr hroom.1).2.2.2.1 (by rw [m2o 45 (by decide)]; exact hyv.1) (fun u hu => by rw [m2o 45 (by decide), ← hm1]; exact newY_o hfk (by omega) (by omega) (by omega)) (fun u hu => by
            have := newY_YG (m := m) (d := m 54 (o k) + 1) hfk hu
            rw [hm1] at this
            exact this.trans (hony.1 u hu))
          have w3 : wt m2 (frY m) = 0 := by
            unfold wt
            rw [if_pos (by rw [← hm2]; exact yw_eq)]
          have := hC.2.2; omega
        · rw [a12 10 (by decide) (by decide), e8]
        · rw [a13 76 (by decide)]; exact m2f 76 (by omega)
      · rw [if_neg hroom, if_pos rfl] at eC
        rw [if_neg hroom] at eY
        have h70 := hF.2.1
        obtain ⟨n1, et, t1, t2, t3⟩ := c_tell (n := n) (w := 6) (pl := i) (by rw [hF.1]; have := hC.2.2; omega)
        obtain ⟨m1, eu, yA, yB⟩ := y_tell (m := m) (w := 6) (pl := i) (by have := hC.2.2; omega)
        rw [et] at eC
        have fr : FRk n n1 := ⟨fun K a b c _ _ => t2 K a b c, t3 8 (by decide), t3 9 (by decide)⟩
        have eY2 : runT i r to bl m = some (to, m1) := by
          refine eY.trans (Eq.trans (b := (N_Y_tellFault 6 i m).bind fun m11 => some (to, m11)) rfl ?_)
          rw [eu]; rfl
        refine ⟨n1, m1, N, o, e, p, eC, eY2, ⟨hB.rk fr, hT.rk fr (fun f _ _ => yB f (by simp only [List.mem_cons, List.not_mem_nil, or_false, not_or]; omega)), by unfold JP; rw [yB 46 (by decide)]; exact hP, JF.told hF t1 yA (by have := hC.2.2; omega), hS.rk fr (yB 75 (by decide)) (yB 76 (by decide)), hO.cg (t3 6 (by decide)) (t2 30 (by decide) (by decide) (by decide)) (t2 31 (by decide) (by decide) (by decide)) (yB 74 (by decide)) (yB 73 (by decide)) (fun j _ _ => by rw [yB 46 (by decide), yB 54 (by decide), yB 67 (by decide)]; exact ⟨rfl, rfl, rfl⟩), ?_, h106.cg (FRR.rk fr) (FYR.of yB (by decide))⟩, ⟨?_, ?_, ?_⟩, t3 10 (by decide), yB 76 (by decide)⟩
        · rw [hkk]
          unfold JCut at hX ⊢
          rw [t3 11 (by decide), yB 51 (by decide), yB 46 (by decide), yB 63 (by decide)]; exact hX
        · rw [t2 10 (by decide) (by decide) (by decide), yB 76 (by decide)]; have := hC.1; omega
        · rw [yB 69 (by decide), yB 76 (by decide)]; have := hC.2.1; omega
        · have := yA.1; have := hC.2.2; have := wtS_fy yB (by decide); omega
  rcases hT.1.last hk1.1 hk1.2 with ⟨_, hl⟩ | ⟨j, l1, l2, l3, l4, l5⟩
  · exact other (.inl hl) (by rw [eC1, if_pos hl]) (by rw [eY1, if_pos hl]; rfl)
  · have hj := hG.oB (k := j) (by omega) l2
    have hdj := hT.2.2.2 j (by omega) l2
    have hne1 : m 51 (o k) ≠ -1 := by omega
    by_cases h17 : m 46 (m 51 (o k)) = 17
    · obtain ⟨c1, c2⟩ := hX.2 hne1 h17
      obtain ⟨n', m', a1, a2, a3, a4, a5, a6, a7, a8, a9, a10, a11, a12, a13, a14, a15⟩ := fill_both (i := i) (to := to) (r := r) (j := j) (t := m 51 (o k)) hB hT hP hF hS (by omega) l2 l5.symm h17 c1 c2 ⟨hi.1, by omega, hi.2.2⟩ hr (by have := hC.2.2; omega)
      refine ⟨n', m', N, o, e, p, ?_, ?_, ⟨a3, a4, a5, a6, a7, hO.cg (a12 6 (by decide) (by decide)) (a11 30 (by decide) (by decide) (by decide) (by decide) (by decide) (by decide) (by decide) (by decide) (by decide)) (a11 31 (by decide) (by decide) (by decide) (by decide) (by decide) (by decide) (by decide) (by decide) (by decide)) (a13 74 (by decide)) (a13 73 (by decide)) (fun j _ _ => by rw [a13 46 (by decide), a13 54 (by decide), a13 67 (by decide)]; exact ⟨rfl, rfl, rfl⟩), ?_, h106.cg a15 (FYR.of a13 (by decide))⟩, ⟨?_, ?_, ?_⟩, a12 10 (by decide) (by decide), a13 76 (by decide)⟩
      · rw [eC1, if_neg hne1]
        show (if 0 ≤ m 51 (o k) ∧ m 51 (o k) < 120 then _ else none) = _
        rw [if_pos (by omega), if_pos (by rw [l5, hdj.1.1, ← l5]; exact h17)]; exact a1
      · rw [eY1, if_neg hne1]
        show (if 0 ≤ m 51 (o k) ∧ m 51 (o k) < 120 then _ else none) = _
        rw [if_pos (by omega), if_pos h17]
        unfold nk_Y_run_134 nk_Y_run_148
        rw [if_neg (show ¬ (1 : Int) = 0 by decide), if_neg (show ¬ (1 : Int) = 0 by decide)]
        split <;> exact a2
      · rw [hkk]
        refine ⟨?_, fun _ _ => ?_⟩
        · rcases a10 with y | y
          · rw [y]; exact hX.1
          · exact .inr ⟨j, by omega, l2, by rw [y]; exact l5.symm⟩
        · rw [a13 51 (by decide)]; exact ⟨a8, a9⟩
      · rw [a11 10 (by decide) (by decide) (by decide) (by decide) (by decide) (by decide) (by decide) (by decide) (by decide), a13 76 (by decide)]; have := hC.1; omega
      · rw [a13 69 (by decide), a13 76 (by decide)]; have := hC.2.1; omega
      · have := hC.2.2; have := wtS_fy a13 (by decide); omega
    · refine other (.inr h17) ?_ ?_
      · rw [eC1, if_neg hne1]
        show (if 0 ≤ m 51 (o k) ∧ m 51 (o k) < 120 then _ else none) = _
        rw [if_pos (by omega), if_neg (by rw [l5, hdj.1.1, ← l5]; exact h17)]
      · rw [eY1, if_neg hne1]
        show (if 0 ≤ m 51 (o k) ∧ m 51 (o k) < 120 then _ else none) = _
        rw [if_pos (by omega), if_neg h17]; rfl
end G8
