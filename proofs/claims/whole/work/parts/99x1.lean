/-! THE LINES OF A BLOCK, in both: a run of them -/
section X1
variable {n n' n'' : NS} {m m' m'' : YS} {A B N a b c x y q s E F F' v wd u w t k j r v3 v4 v5 v7 x4 : Int} {o e p : Int → Int}
theorem MSk.zero (h : MSk n m o e p r) (h0 : m 107 (o r) = 0) : n 3 (o r) 0 = 0 := by
  rcases h with ⟨_, z⟩ | ⟨_, c | c | c | c | c⟩
  · exact z
  · have := c.1; omega
  · have := c.1; omega
  · omega
  · omega
  · omega
theorem MSk.box (h : MSk n m o e p r) (h1 : m 107 (o r) = 1 ∨ m 107 (o r) = 2) : MSb n m o p r := by
  rcases h with ⟨z, _⟩ | ⟨_, c | c | c | c | c⟩
  · omega
  · exact c
  · have := c.1; omega
  · omega
  · omega
  · omega
theorem VIS.np (hG : TG N o e p (m 49) (m 50) (m 52)) (h : VIS m o e k j) (hM : MSk n m o e p j) (h1 : m 107 (o j) = 1 ∨ m 107 (o j) = 2) (k0 : 0 ≤ k) (hkN : k < N) : p j = k := by
  have hE := hG.eB k0 hkN
  have hp := hG.pB (k := j) (by have := h.1; omega) (by have := h.1; omega)
  have hin := hG.inP (t := k) (k := j) k0 hkN h.1.1 h.1.2
  have hs := ((hM.box h1).2.2.2.2.2.2.1.2 (by have := h.1; omega)).1
  by_cases z : p j = k
  · exact z
  · exfalso
    have := h.2 (p j) (by omega) hp.2.1 hp.2.2
    omega
theorem thing_end {x : Int} (hx : x = -1) : NL_Y_lineThing_2 t x m = some m := by
  rw [hx]
  unfold NL_Y_lineThing_2
  refine it_inr ?_
  show nb_Y_lineThing_2 t (-1) m = _
  unfold nb_Y_lineThing_2
  rw [if_pos rfl]
theorem thing_both (k0 : 0 ≤ k) (hkN : k < N) (ht : k < t) : ∀ (z : Nat) (j : Int) (n : NS) (m : YS) (F v3 : Int), (e t - j).toNat ≤ z → t ≤ j → j < e t → e t ≤ e k → SIM A B E wd N o e p k j n m F → VIS m o e k j → (m 107 (o k) = 1 ∨ m 107 (o k) = 2) → (j = t → m 107 (o t) ≠ 0 ∧ ¬ ((m 107 (o t) = 1 ∨ m 107 (o t) = 2) ∧ m 108 (o t) = 0)) → (t < j → v3 = 0) →
    ∃ n' m' F', NL_Layout_layFlow_51 (o k) (o k) (e k) v3 (-1) j j n = NL_Layout_layFlow_51 (o k) (o k) (e k) 0 (-1) (e t) (e t) n' ∧ NL_Y_lineThing_2 (o t) (o j) m = some m' ∧ SIM A B E wd N o e p k (e t) n' m' F' ∧ FRs (o k) n n' ∧ FVy (o k) m m' ∧ m 127 0 ≤ m' 127 0 := by
  intro z
  induction z with
  | zero => intro j n m F v3 h1 h2 h3; omega
  | succ z ih =>
    intro j n m F v3 h1 h2 h3 h4 hS hV hb hj hv
    have hC := hS.1.2.2.2
    have hG := hC.1
    have hL := hC.2.1
    have hE := hG.eB k0 hkN
    have hjN : j < N := by omega
    have htN : t < N := by omega
    have hEj := hG.eB (k := j) (by omega) hjN
    have ho := hG.oB (k := j) (by omega) hjN
    have hM := hC.2.2.2.2.1 j (by omega) hjN
    have hnest : e j ≤ e t := by
      by_cases w : j = t
      · rw [w]; exact Int.le_refl _
      · exact hG.nest (k := t) (j := j) (by omega) (by omega) h3 hjN
    by_cases hm0 : m 107 (o j) = 0
    · have hjt : t < j := by
        rcases Int.lt_or_eq_of_le h2 with w | w
        · exact w
        · rw [← w] at hm0; exact absurd hm0 (hj w.symm).1
      have hcl := cl_zero (v := o k) (v3 := v3) (v4 := -1) hG hL k0 hkN ⟨hV.1.1, hV.1.2⟩ (hM.zero hm0)
      have hS' := hS.skip k0 hkN hV.1 hm0
      have hb1 : nb_Y_lineThing_2 (o t) (o j) m = some (.inl (if e j < e t then o (e j) else -1, m)) := by
        unfold nb_Y_lineThing_2 nk_Y_lineThing_172 nk_Y_lineThing_173
        rw [if_neg (by omega), y_isBox ho, if_neg (by omega)]
        simp only [Option.bind_some]
        rw [if_pos trivial, ix_e _ ho, if_neg (by omega), ix_e _ ho, if_neg (by omega), ix_e _ ho, if_neg (by omega), ix_e _ ho, if_pos hm0, if_neg (by decide), y_behind hG (by omega) h2 h3 htN]
        rfl
      have hth : NL_Y_lineThing_2 (o t) (o j) m = NL_Y_lineThing_2 (o t) (if e j < e t then o (e j) else -1) m := by
        unfold NL_Y_lineThing_2
        exact it_inl (f := fun s : Int × YS => nb_Y_lineThing_2 (o t) s.1 s.2) (s := (o j, m)) hb1
      by_cases w : e j < e t
      · rw [if_pos w] at hth
        obtain ⟨n', m', F', r1, r2, r3⟩ := ih (e j) n m F v3 (by omega) (by omega) w h4 hS' (hV.past hG (by omega) k0 hkN) hb (fun x => by omega) (fun _ => hv hjt)
        exact ⟨n', m', F', hcl.trans r1, hth.trans r2, r3⟩
      · rw [if_neg w] at hth
        have ee : e j = e t := by omega
        rw [ee] at hcl hS'
        rw [hv hjt] at hcl ⊢
        exact ⟨n, m, F, hcl, hth.trans (thing_end rfl), hS', FRs.refl, FVy.refl, Int.le_refl _⟩
    · have hnb : ¬ ((m 107 (o j) = 1 ∨ m 107 (o j) = 2) ∧ m 108 (o j) = 0) := fun ⟨w1, w2⟩ => by
        by_cases w : j = t
        · rw [w] at w1 w2; exact (hj w).2 ⟨w1, w2⟩
        · have hp := hV.np hG hM w1 k0 hkN
          have := hG.inP (t := t) (k := j) (by omega) htN (by omega) h3
          omega
      obtain ⟨n1, m1, F1, r1, r2, r3, r4, r5, r6⟩ := sim_step (v3 := v3) hS k0 hkN hb hV hm0 hnb
      have m107 : m1 107 = m 107 := r5.1 107 (by decide)
      have hG1 := r3.1.2.2.2.1
      have hV1 : ∀ q, VIS m o e k q → VIS m1 o e k q := fun q h => ⟨h.1, fun a x y z => by rw [m107]; exact h.2 a x y z⟩
      have r2t := r2 (o t)
      unfold nk_Y_lineThing_173 at r2t
      by_cases h33 : m 107 (o j) = 3
      · rw [if_pos h33] at r1
        rw [if_pos h33] at r3
        rw [if_pos h33, if_pos rfl, y_after hG1 (by omega) h2 h3 htN] at r2t
        simp only [Option.bind_some] at r2t
        have hth : NL_Y_lineThing_2 (o t) (o j) m = NL_Y_lineThing_2 (o t) (if j + 1 < e t then o (j + 1) else -1) m1 := by
          unfold NL_Y_lineThing_2
          exact it_inl (f := fun s : Int × YS => nb_Y_lineThing_2 (o t) s.1 s.2) (s := (o j, m)) r2t
        by_cases w : j + 1 < e t
        · rw [if_pos w] at hth
          have hVn : VIS m o e k (j + 1) := by
            by_cases w' : j + 1 < e j
            · exact hV.in hG h33 w' k0 hkN
            · have := hV.past hG (by omega) k0 hkN
              rw [show e j = j + 1 by omega] at this; exact this
          obtain ⟨n', m', F', s1, s2, s3, s4, s5, s6⟩ := ih (j + 1) n1 m1 F1 0 (by omega) (by omega) w h4 r3 (hV1 _ hVn) (by rw [m107]; exact hb) (fun x => by omega) (fun _ => rfl)
          exact ⟨n', m', F', r1.trans s1, hth.trans s2, s3, r4.trans s4, r5.trans s5, by omega⟩
        · rw [if_neg w] at hth
          have ee : j + 1 = e t := by omega
          rw [ee] at r1 r3
          exact ⟨n1, m1, F1, r1, hth.trans (thing_end rfl), r3, r4, r5, r6⟩
      · rw [if_neg h33] at r1
        rw [if_neg h33] at r3
        rw [if_neg h33, if_neg (by decide), y_behind hG1 (by omega) h2 h3 htN] at r2t
        simp only [Option.bind_some] at r2t
        have hth : NL_Y_lineThing_2 (o t) (o j) m = NL_Y_lineThing_2 (o t) (if e j < e t then o (e j) else -1) m1 := by
          unfold NL_Y_lineThing_2
          exact it_inl (f := fun s : Int × YS => nb_Y_lineThing_2 (o t) s.1 s.2) (s := (o j, m)) r2t
        by_cases w : e j < e t
        · rw [if_pos w] at hth
          obtain ⟨n', m', F', s1, s2, s3, s4, s5, s6⟩ := ih (e j) n1 m1 F1 0 (by omega) (by omega) w h4 r3 (hV1 _ (hV.past hG (by omega) k0 hkN)) (by rw [m107]; exact hb) (fun x => by omega) (fun _ => rfl)
          exact ⟨n', m', F', r1.trans s1, hth.trans s2, s3, r4.trans s4, r5.trans s5, by omega⟩
        · rw [if_neg w] at hth
          have ee : e j = e t := by omega
          rw [ee] at r1 r3
          exact ⟨n1, m1, F1, r1, hth.trans (thing_end rfl), r3, r4, r5, r6⟩
/-- a kid of the block that is in the lines, in the reference -/
theorem run_kid (k0 : 0 ≤ k) (hkN : k < N) (hS : SIM A B E wd N o e p k j n m F) (hV : VIS m o e k j) (hpj : p j = k) (hb : m 107 (o k) = 1 ∨ m 107 (o k) = 2) (h0 : m 107 (o j) ≠ 0) (hnb : ¬ ((m 107 (o j) = 1 ∨ m 107 (o j) = 2) ∧ m 108 (o j) = 0)) :
    ∃ n' m' F', NL_Layout_layFlow_51 (o k) (o k) (e k) v3 (-1) j j n = NL_Layout_layFlow_51 (o k) (o k) (e k) 0 (-1) (e j) (e j) n' ∧ NL_Y_layBlock_374 v x4 v5 v7 (o j) m = NL_Y_layBlock_374 v x4 v5 v7 (if e j < e k then o (e j) else -1) m' ∧ SIM A B E wd N o e p k (e j) n' m' F' ∧ FRs (o k) n n' ∧ FVy (o k) m m' ∧ m 127 0 ≤ m' 127 0 := by
  have hC := hS.1.2.2.2
  have hG := hC.1
  have hE := hG.eB k0 hkN
  have hjN : j < N := by have := hV.1; omega
  have hnest := hG.nest (k := k) (j := j) k0 hV.1.1 hV.1.2 hjN
  have hEj := hG.eB (k := j) (by have := hV.1; omega) hjN
  have ho := hG.oB (k := j) (by have := hV.1; omega) hjN
  obtain ⟨n', m', F', r1, r2, r3, r4, r5, r6⟩ := thing_both (t := j) (A := A) (B := B) (E := E) (wd := wd) (p := p) k0 hkN hV.1.1 _ j n m F v3 (Nat.le_refl _) (Int.le_refl _) hEj.1 hnest hS hV hb (fun _ => ⟨h0, hnb⟩) (fun x => by omega)
  refine ⟨n', m', F', r1, ?_, r3, r4, r5, r6⟩
  have hG1 := r3.1.2.2.2.1
  unfold NL_Y_layBlock_374
  refine it_inl ?_
  show nb_Y_layBlock_374 v x4 v5 v7 (o j) m = _
  have h399 : nk_Y_layBlock_399 v x4 v5 v7 (o j) m = some (.inl (if e j < e k then o (e j) else -1, m')) := by
    unfold nk_Y_layBlock_399 N_Y_lineThing nk_Y_layBlock_415
    rw [ix_e _ ho, if_neg h0, r2]
    simp only [Option.bind_some]
    rw [ix_e _ ho, hG1.nxE (by have := hV.1; omega) hjN, hpj]
  unfold nb_Y_layBlock_374
  rw [if_neg (by omega), y_isBox ho]
  simp only [Option.bind_some]
  by_cases w : m 107 (o j) = 1 ∨ m 107 (o j) = 2
  · rw [if_pos w, if_neg (by decide), ix_e _ ho, if_neg (fun x => hnb ⟨w, x⟩), h399]
  · rw [if_neg w, if_pos rfl, h399]
/-- the rest of a run -/
theorem runL_both (k0 : 0 ≤ k) (hkN : k < N) : ∀ (z : Nat) (j : Int) (n : NS) (m : YS) (F : Int), (e k - j).toNat ≤ z → k < j → j ≤ e k → SIM A B E wd N o e p k j n m F → (j < e k → VIS m o e k j ∧ p j = k) → (m 107 (o k) = 1 ∨ m 107 (o k) = 2) →
    ∃ j' n' m' F', NL_Layout_layFlow_51 (o k) (o k) (e k) 0 (-1) j j n = NL_Layout_layFlow_51 (o k) (o k) (e k) 0 (-1) j' j' n' ∧ NL_Y_layBlock_374 v x4 v5 v7 (if j < e k then o j else -1) m = some (if j' < e k then o j' else -1, m') ∧ SIM A B E wd N o e p k j' n' m' F' ∧ (j ≤ j' ∧ j' ≤ e k) ∧ (j' < e k → (VIS m' o e k j' ∧ p j' = k) ∧ (m' 107 (o j') = 1 ∨ m' 107 (o j') = 2) ∧ m' 108 (o j') = 0) ∧ FRs (o k) n n' ∧ FVy (o k) m m' ∧ m 127 0 ≤ m' 127 0 := by
  intro z
  induction z with
  | zero =>
    intro j n m F h1 h2 h3 hS hV hb
    refine ⟨j, n, m, F, rfl, ?_, hS, ⟨Int.le_refl _, h3⟩, fun x => by omega, FRs.refl, FVy.refl, Int.le_refl _⟩
    rw [if_neg (by omega)]
    unfold NL_Y_layBlock_374
    refine it_inr ?_
    show nb_Y_layBlock_374 v x4 v5 v7 (-1) m = _
    unfold nb_Y_layBlock_374
    rw [if_pos rfl]
  | succ z ih =>
    intro j n m F h1 h2 h3 hS hV hb
    by_cases hlt : j < e k
    · obtain ⟨hVj, hpj⟩ := hV hlt
      have hC := hS.1.2.2.2
      have hG := hC.1
      have hL := hC.2.1
      have hE := hG.eB k0 hkN
      have hjN : j < N := by omega
      have hnest := hG.nest (k := k) (j := j) k0 h2 hlt hjN
      have hEj := hG.eB (k := j) (by omega) hjN
      have ho := hG.oB (k := j) (by omega) hjN
      have hM := hC.2.2.2.2.1 j (by omega) hjN
      rw [if_pos hlt]
      have nxt : ∀ m', m' 107 = m 107 → (e j < e k → VIS m' o e k (e j) ∧ p (e j) = k) := fun m' h7 w => by
        have hv := hVj.past hG w k0 hkN
        exact ⟨⟨hv.1, fun a x y z => by rw [h7]; exact hv.2 a x y z⟩, hG.sib (by omega) hjN hpj w⟩
      by_cases hbf : (m 107 (o j) = 1 ∨ m 107 (o j) = 2) ∧ m 108 (o j) = 0
      · refine ⟨j, n, m, F, rfl, ?_, hS, ⟨Int.le_refl _, h3⟩, fun _ => ⟨⟨hVj, hpj⟩, hbf⟩, FRs.refl, FVy.refl, Int.le_refl _⟩
        rw [if_pos hlt]
        unfold NL_Y_layBlock_374
        refine it_inr ?_
        show nb_Y_layBlock_374 v x4 v5 v7 (o j) m = _
        unfold nb_Y_layBlock_374
        rw [if_neg (by omega), y_isBox ho, if_pos hbf.1]
        simp only [Option.bind_some]
        rw [if_neg (by decide), ix_e _ ho, if_pos hbf.2]
      · by_cases hm0 : m 107 (o j) = 0
        · obtain ⟨j', n', m', F', r1, r2, r3, r4, r5⟩ := ih (e j) n m F (by omega) (by omega) (by omega) (hS.skip k0 hkN hVj.1 hm0) (nxt m rfl) hb
          refine ⟨j', n', m', F', (cl_zero (v := o k) hG hL k0 hkN ⟨h2, hlt⟩ (hM.zero hm0)).trans r1, ?_, r3, by omega, r5⟩
          rw [← r2]
          unfold NL_Y_layBlock_374
          refine it_inl ?_
          show nb_Y_layBlock_374 v x4 v5 v7 (o j) m = _
          unfold nb_Y_layBlock_374 nk_Y_layBlock_399 nk_Y_layBlock_415
          rw [if_neg (by omega), y_isBox ho, if_neg (by omega)]
          simp only [Option.bind_some]
          rw [if_pos trivial, ix_e _ ho, if_pos hm0, ix_e _ ho, hG.nxE (by omega) hjN, hpj]
        · obtain ⟨n1, m1, F1, r1, r2, r3, r4, r5, r6⟩ := run_kid (v := v) (v3 := 0) (v5 := v5) (v7 := v7) (x4 := x4) k0 hkN hS hVj hpj hb hm0 hbf
          have m107 : m1 107 = m 107 := r5.1 107 (by decide)
          obtain ⟨j', n', m', F', s1, s2, s3, s4, s5, s6, s7, s8⟩ := ih (e j) n1 m1 F1 (by omega) (by omega) (by omega) r3 (nxt m1 m107) (by rw [m107]; exact hb)
          exact ⟨j', n', m', F', r1.trans s1, r2.trans s2, s3, by omega, s5, r4.trans s6, r5.trans s7, by omega⟩
    · exact ih j n m F (by omega) h2 h3 hS hV hb
end X1
