/-! A SCRIPT RUNS, in both -/
section O0
variable {n n' n'' : NS} {m m' m'' : YS} {A B N N' k b a δ δ' fr to d L r r' q x f : Int} {o e p o' e' p' : Int → Int} {As Bs W S : Int → Prop} {κ κ' : Int → Int}
theorem y_run {s s' : Int × YS} (h : nb_Y_runScript_2 s.1 s.2 = some (.inl s')) : NL_Y_runScript_2 s.1 s.2 = NL_Y_runScript_2 s'.1 s'.2 := by
  unfold NL_Y_runScript_2
  exact it_inl (f := fun s : Int × YS => nb_Y_runScript_2 s.1 s.2) h
theorem y_runE {v : Int} (h : nb_Y_runScript_2 v m = some (.inr m')) : NL_Y_runScript_2 v m = some m' := by
  unfold NL_Y_runScript_2
  exact it_inr (f := fun s : Int × YS => nb_Y_runScript_2 s.1 s.2) (s := (v, m)) h
theorem run_both : ∀ (z : Nat) (v c G : Int) (n : NS) (m : YS), (m 160 0 + 1 - v).toNat ≤ z → RUN As Bs A B G n m → n 0 0 12 = v → 0 ≤ v → v ≤ m 160 0 + 1 → 0 ≤ c → c + (m 160 0 + 1 - v) + 3000 * (200 - m 158 0) ≤ 990000 → G + 2300 * (200 - m 158 0) < 390000000 →
    ∃ c' n' m', NL_Acts_settle_2 c n = NL_Acts_settle_2 c' n' ∧ NL_Y_runScript_2 v m = some m' ∧ FC n n' m m' ∧ c ≤ c' ∧ (m 158 0 ≤ m' 158 0 ∧ m' 158 0 ≤ 200 ∧ (m' 158 0 = m 158 0 → m' = m))
      ∧ ((RUN As Bs A B (G + 2300 * (m' 158 0 - m 158 0)) n' m' ∧ SQ n n' m m' ∧ FP m m' ∧ (n' 4 609 2 ≤ n' 0 0 12 ∨ m' 154 0 = 1) ∧ c' + 3000 * (200 - m' 158 0) ≤ c + (m 160 0 + 1 - v) + 3000 * (200 - m 158 0))
        ∨ (WEN As Bs A B (G + 2300 * (m' 158 0 - m 158 0)) n' m' ∧ c' + 3000 * (200 - m' 158 0) + 2998 ≤ c + (m 160 0 + 1 - v) + 3000 * (200 - m 158 0))) := by
  intro z
  induction z with
  | zero =>
    intro v c G n m hz hR h12 v0 v1 c0 hc hG
    obtain ⟨h1, h2, h3, h4⟩ := hR
    have hb : m 158 0 ≤ 200 := by rcases h3.2.2 with y | y <;> omega
    refine ⟨c, n, m, rfl, y_runE ?_, FC.refl n m, Int.le_refl _, ⟨Int.le_refl _, hb, fun _ => rfl⟩, .inl ⟨⟨?_, h2, h3, h4⟩, SQ.refl n m, FP.refl m, .inl (by rw [h2.1.1]; omega), by omega⟩⟩
    · unfold nb_Y_runScript_2
      rw [if_pos (by omega)]
    · rw [show G + 2300 * (m 158 0 - m 158 0) = G by omega]; exact h1
  | succ z ih =>
    intro v c G n m hz hR h12 v0 v1 c0 hc hG
    have hR0 := hR
    obtain ⟨h1, h2, h3, h4, h5, h6, h7⟩ := hR
    have hb : m 158 0 ≤ 200 := by rcases h3.2.2 with y | y <;> omega
    have hL := h2.1
    have stay : (n 4 609 2 ≤ n 0 0 12 ∨ m 154 0 = 1) → NL_Y_runScript_2 v m = some m → ∃ c' n' m', NL_Acts_settle_2 c n = NL_Acts_settle_2 c' n' ∧ NL_Y_runScript_2 v m = some m' ∧ FC n n' m m' ∧ c ≤ c' ∧ (m 158 0 ≤ m' 158 0 ∧ m' 158 0 ≤ 200 ∧ (m' 158 0 = m 158 0 → m' = m))
        ∧ ((RUN As Bs A B (G + 2300 * (m' 158 0 - m 158 0)) n' m' ∧ SQ n n' m m' ∧ FP m m' ∧ (n' 4 609 2 ≤ n' 0 0 12 ∨ m' 154 0 = 1) ∧ c' + 3000 * (200 - m' 158 0) ≤ c + (m 160 0 + 1 - v) + 3000 * (200 - m 158 0))
          ∨ (WEN As Bs A B (G + 2300 * (m' 158 0 - m 158 0)) n' m' ∧ c' + 3000 * (200 - m' 158 0) + 2998 ≤ c + (m 160 0 + 1 - v) + 3000 * (200 - m 158 0))) := fun y1 y2 => by
      refine ⟨c, n, m, rfl, y2, FC.refl n m, Int.le_refl _, ⟨Int.le_refl _, hb, fun _ => rfl⟩, .inl ⟨?_, SQ.refl n m, FP.refl m, y1, by omega⟩⟩
      rw [show G + 2300 * (m 158 0 - m 158 0) = G by omega]; exact hR0
    by_cases g1 : m 160 0 < v
    · refine stay (.inl (by rw [h2.1.1]; omega)) (y_runE ?_)
      unfold nb_Y_runScript_2
      rw [if_pos g1]
    · by_cases g2 : m 154 0 = 0
      · by_cases g3 : v = m 160 0
        · refine stay (.inl (by rw [h2.1.1]; omega)) ?_
          have es : smA m v = v := by
            have a1 := scx_ge (p := fun j => m 159 j ≠ 59) v (m 160 0)
            have a2 := scx_le (p := fun j => m 159 j ≠ 59) (i := v) (to := m 160 0) (by omega)
            unfold smA; omega
          have e1 : nb_Y_runScript_2 v m = some (.inl (v + 1, m)) := by
            have ek := y_skip (m := m) (v := v) (x := v) ⟨v0, Int.le_refl _, by omega⟩ hL.2.2
            have a1 := scx_ge (p := fun j => isBl (m 159 j)) v v
            have a2 := scx_le (p := fun j => isBl (m 159 j)) (i := v) (to := v) (Int.le_refl _)
            rw [show sc (fun j => isBl (m 159 j)) v v = v by omega] at ek
            unfold nb_Y_runScript_2
            rw [if_neg g1, if_pos h6, if_pos g2, y_semi ⟨v0, by omega⟩ hL.2.2, es]
            simp only [Option.bind_some]
            unfold nk_Y_runScript_51
            rw [ek]
            simp only [Option.bind_some]
            unfold nk_Y_runScript_76 nk_Y_runScript_105 ck
            rw [if_neg (by omega), if_pos (by omega)]
          rw [y_run (s := (v, m)) e1]
          refine y_runE ?_
          unfold nb_Y_runScript_2
          rw [if_pos (by show m 160 0 < v + 1; omega)]
        · obtain ⟨c1, n1, m1, v1', t1, t2, t3, t4, t5, t6, t7⟩ := turn hR0 (by omega) g2 ⟨h12, v0, by omega⟩ (c := c) (by omega)
          have eY := y_run (s := (v, m)) t2
          have t6' := t6
          have t6 : (m1 158 0 = m 158 0 ∧ c1 = c + 1) ∨ m1 158 0 = m 158 0 + 1 := by
            rcases t6 with ⟨y, z⟩ | y
            · exact .inl ⟨by rw [y], z⟩
            · exact .inr y
          rcases t7 with ⟨q1, q2, q3, q4, q5⟩ | ⟨q1, q2⟩
          · have hb1 : m1 158 0 ≤ 200 := by rcases q1.2.2.1.2.2 with y | y <;> omega
            obtain ⟨c', n', m', z1, z2, z3, z4, z5, z6⟩ := ih v1' c1 (G + 2300 * (m1 158 0 - m 158 0)) n1 m1 (by rw [q3]; omega) q1 q2 (by omega) (by rw [q3]; omega) (by omega) (by rw [q3]; omega) (by omega)
            have eG : G + 2300 * (m1 158 0 - m 158 0) + 2300 * (m' 158 0 - m1 158 0) = G + 2300 * (m' 158 0 - m 158 0) := by omega
            rw [eG] at z6
            refine ⟨c', n', m', t1.trans z1, by rw [show NL_Y_runScript_2 v m = NL_Y_runScript_2 v1' m1 from eY]; exact z2, t5.trans z3, by omega, ⟨by omega, z5.2.1, fun w => ?_⟩, ?_⟩
            · have w1 : m1 = m := by
                rcases t6' with y | y
                · exact y.1
                · have := z5.1; omega
              have := z5.2.2 (by rw [w, w1])
              rw [this]; exact w1
            rcases z6 with ⟨w1, w2, w3, w4, w5⟩ | ⟨w1, w2⟩
            · exact .inl ⟨w1, q4.trans w2, q5.trans w3, w4, by rw [q3] at w5; omega⟩
            · exact .inr ⟨w1, by rw [q3] at w2; omega⟩
          · have hb1 : m1 158 0 ≤ 200 := by rcases q1.2.1.2.2 with y | y <;> omega
            refine ⟨c1, n1, m1, t1, ?_, t5, by omega, ⟨by omega, hb1, fun w => by omega⟩, .inr ⟨q1, by omega⟩⟩
            rw [show NL_Y_runScript_2 v m = NL_Y_runScript_2 v1' m1 from eY]
            refine y_runE ?_
            unfold nb_Y_runScript_2
            have := q1.2.2.2.2.1.1
            by_cases u : m1 160 0 < v1'
            · rw [if_pos u]
            · rw [if_neg u, if_neg (by omega)]
      · have g2' : m 154 0 = 1 := by rcases h3.2.2 with y | y <;> omega
        refine stay (.inr g2') (y_runE ?_)
        unfold nb_Y_runScript_2
        rw [if_neg g1, if_pos h6, if_neg g2]
end O0
