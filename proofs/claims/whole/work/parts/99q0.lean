/-! AN EVENT GOES UP, in both -/
/-- the EVENT goes on, or stop has been said -/
def EVT (c0 : Int) (n : NS) (m : YS) : Prop := (m 163 0 = 0 ∧ n 0 0 18 = c0 ∧ n 0 0 16 = m 181 0) ∨ (m 163 0 = 1 ∧ n 0 0 18 = 0 ∧ n 0 0 16 = n 0 0 15)
section Q0
variable {n n' n'' n2 : NS} {m m' m'' m0 m2 : YS} {A B N N' k b a δ δ' fr to d L r r' x f v i z M kf G G' c0 WW : Int} {o e p o' e' p' κ g : Int → Int} {As Bs W S : Int → Prop} {w : List Int} {wN : Nat}
theorem y_up {s s' : Int × YS} {v1 : Int} (h : nb_Y_goesUp_7 v1 s.1 s.2 = some (.inl s')) : NL_Y_goesUp_7 v1 s.1 s.2 = NL_Y_goesUp_7 v1 s'.1 s'.2 := by
  unfold NL_Y_goesUp_7
  exact it_inl (f := fun s : Int × YS => nb_Y_goesUp_7 v1 s.1 s.2) h
theorem y_upE {v1 : Int} (h : nb_Y_goesUp_7 v1 v m = some (.inr m')) : NL_Y_goesUp_7 v1 v m = some m' := by
  unfold NL_Y_goesUp_7
  exact it_inr (f := fun s : Int × YS => nb_Y_goesUp_7 v1 s.1 s.2) (s := (v, m)) h
theorem ev_way (hc0 : c0 ≠ 0) (hcs : (if c0 = 0 then 1000021 else if c0 = -1 then 1000026 else 1000027) = wN) (hpk : ∀ n : NS, N_Bytes_pack_1 wN n = some (pk w)) (hw : ∀ c ∈ w, isBt c) (hWW : (0 ≤ WW ∧ WW < 36893488147419103232) ∧ wl WW = w) : ∀ (z : Nat) (i c G : Int) (n : NS) (m : YS), (m 181 0 - i).toNat ≤ z → WYS As Bs A B G m0 n m i → EVT c0 n m → 0 ≤ i → i ≤ m 181 0 → 0 ≤ c → c + 62 * (m 181 0 - i) + 3000 * (200 - m 158 0) ≤ 980000 → G + 2300 * (200 - m 158 0) < 390000000 →
    ∃ c' n' m' i', NL_Acts_settle_2 c n = NL_Acts_settle_2 c' n' ∧ NL_Y_goesUp_7 WW i m = some m' ∧ FC n n' m m' ∧ c ≤ c' ∧ (m 158 0 ≤ m' 158 0 ∧ m' 158 0 ≤ 200)
      ∧ ((WYS As Bs A B (G + 2300 * (m' 158 0 - m 158 0)) m0 n' m' i' ∧ EVT c0 n' m' ∧ m' 181 0 = m 181 0 ∧ (m' 163 0 = 1 ∨ m' 154 0 = 1 ∨ i' = m' 181 0) ∧ c' + 3000 * (200 - m' 158 0) ≤ c + 62 * (m 181 0 - i) + 3000 * (200 - m 158 0))
        ∨ (WEN As Bs A B (G + 2300 * (m' 158 0 - m 158 0)) n' m' ∧ c' + 3000 * (200 - m' 158 0) + 2998 ≤ c + 62 * (m 181 0 - i) + 3000 * (200 - m 158 0))) := by
  intro z
  induction z with
  | zero =>
    intro i c G n m hz h hE i0 i1 c0' hc hG
    have hb : m 158 0 ≤ 200 := by rcases h.2.1.2.2 with y | y <;> omega
    refine ⟨c, n, m, i, rfl, y_upE ?_, FC.refl n m, Int.le_refl _, ⟨Int.le_refl _, hb⟩, .inl ⟨?_, hE, rfl, .inr (.inr (by omega)), by omega⟩⟩
    · unfold nb_Y_goesUp_7
      rw [if_neg (by omega)]
    · rw [show G + 2300 * (m 158 0 - m 158 0) = G by omega]; exact h
  | succ z ih =>
    intro i c G n m hz h hE i0 i1 c0' hc hG
    have hh := h
    obtain ⟨h1, h2, h3, h4, h5, h6, h7, h8, h9⟩ := h
    have hb : m 158 0 ≤ 200 := by rcases h2.2.2 with y | y <;> omega
    have stay : nb_Y_goesUp_7 WW i m = some (.inr m) → (m 163 0 = 1 ∨ m 154 0 = 1 ∨ i = m 181 0) → ∃ c' n' m' i', NL_Acts_settle_2 c n = NL_Acts_settle_2 c' n' ∧ NL_Y_goesUp_7 WW i m = some m' ∧ FC n n' m m' ∧ c ≤ c' ∧ (m 158 0 ≤ m' 158 0 ∧ m' 158 0 ≤ 200)
        ∧ ((WYS As Bs A B (G + 2300 * (m' 158 0 - m 158 0)) m0 n' m' i' ∧ EVT c0 n' m' ∧ m' 181 0 = m 181 0 ∧ (m' 163 0 = 1 ∨ m' 154 0 = 1 ∨ i' = m' 181 0) ∧ c' + 3000 * (200 - m' 158 0) ≤ c + 62 * (m 181 0 - i) + 3000 * (200 - m 158 0))
          ∨ (WEN As Bs A B (G + 2300 * (m' 158 0 - m 158 0)) n' m' ∧ c' + 3000 * (200 - m' 158 0) + 2998 ≤ c + 62 * (m 181 0 - i) + 3000 * (200 - m 158 0))) := fun e1 e2 => by
      refine ⟨c, n, m, i, rfl, y_upE e1, FC.refl n m, Int.le_refl _, ⟨Int.le_refl _, hb⟩, .inl ⟨?_, hE, rfl, e2, by omega⟩⟩
      rw [show G + 2300 * (m 158 0 - m 158 0) = G by omega]; exact hh
    by_cases g1 : i < m 181 0
    · by_cases g3 : m 163 0 = 0
      · by_cases g2 : m 154 0 = 0
        · have hE0 : n 0 0 18 = c0 ∧ n 0 0 16 = m 181 0 := by
            rcases hE with y | y
            · exact y.2
            · omega
          have hsz : n 4 609 2 ≤ n 0 0 12 := by rcases h5 with y | y <;> omega
          have hlt200 : m 158 0 < 200 := by rcases h2.2.2 with y | y <;> omega
          have h9' := h2.1
          obtain ⟨hM, hM69⟩ := h7 i i0 g1
          obtain ⟨n1, eL, hL⟩ := listen_both (w := w) (wN := wN) (WW := WW) h1 h2 h3 h4 ⟨h9, i0, by omega⟩ hM (by have := h8.2.2; omega) (by rw [hE0.1]; exact hcs) hpk hw hWW
          have eT : NL_Acts_settle_2 c n = NL_Acts_settle_2 (c + 1) n1 := by
            have e1 : nb_Acts_settle_2 c n = some (.inl (c + 1, n1)) := by
              unfold nb_Acts_settle_2
              rw [if_pos (by omega), if_pos h3.2, if_pos h3.1, if_neg (by omega), if_neg (by omega), if_pos (by omega), eL]
              simp only [Option.bind_some]
              unfold ck
              rw [if_pos (by omega)]
            unfold NL_Acts_settle_2
            exact it_inl (f := fun s : Int × NS => nb_Acts_settle_2 s.1 s.2) e1
          have eY : ∀ (z : Int) (m2 : YS), N_Y_isThere i m = some z → (z = 0 ∧ m2 = m ∨ z = 1 ∧ N_Y_listen i WW m = some m2) → NL_Y_goesUp_7 WW i m = NL_Y_goesUp_7 WW (i + 1) m2 := fun z m2 e1 e2 => by
            refine y_up (s := (i, m)) (s' := (i + 1, m2)) ?_
            show nb_Y_goesUp_7 WW i m = _
            unfold nb_Y_goesUp_7
            rw [if_pos g1, if_pos g3, if_pos h4.2.1, if_pos g2, e1]
            simp only [Option.bind_some]
            rcases e2 with ⟨y1, y2⟩ | ⟨y1, y2⟩
            · rw [if_pos y1, y2]
              unfold ck
              rw [if_pos (by omega)]
            · rw [if_neg (by omega), y2]
              simp only [Option.bind_some]
              unfold ck
              rw [if_pos (by omega)]
          rcases hL with ⟨z1, t1, t2, t3⟩ | ⟨m1, t1, t2, t3, t4, t5, t6, t7, t8, t9, t10, t11⟩
          · have k1 : ∀ K, K ≠ 0 → n1 K = n K := fun K hK => by rw [t3, nw_nK hK]
            have s1 : ∀ s, s ≠ 15 → n1 0 0 s = n 0 0 s := fun s hs => by rw [t3, nw_ns hs]
            have hW : WYS As Bs A B G m0 n1 m (i + 1) := by
              refine ⟨h1.cg (fun K a _ _ => k1 K a) (fun s hs => s1 s (by omega)) (fun s _ => by rw [k1 6 (by decide)]) (fun _ _ => rfl), ?_, ⟨by rw [s1 17 (by decide)]; exact h3.1, by rw [k1 6 (by decide)]; exact h3.2⟩, h4, ?_, h6, ?_, h8, ?_⟩
              · unfold BUD at *
                rw [s1 9 (by decide)]; exact h2
              · rw [k1 4 (by decide), s1 12 (by decide)]; exact h5
              · rw [k1 46 (by decide)]; exact h7
              · rw [t3, nw_eq]
            have hE1 : EVT c0 n1 m := .inl ⟨g3, by rw [s1 18 (by decide)]; exact hE0.1, by rw [s1 16 (by decide)]; exact hE0.2⟩
            obtain ⟨c', n', m', i', z1', z2, z3, z4, z5, z6⟩ := ih (i + 1) (c + 1) G n1 m (by omega) hW hE1 (by omega) (by omega) (by omega) (by omega) hG
            refine ⟨c', n', m', i', eT.trans z1', ?_, (FC.k0 (fun K a _ _ => k1 K a) (fun s hs => s1 s (fun w => hs (by rw [w]; decide))) (fun _ _ _ => rfl) (fun _ _ => rfl) (.inr rfl)).trans z3, by omega, z5, ?_⟩
            · rw [eY z1 m t1 (by rcases t2 with y | y; exact .inl ⟨y, rfl⟩; exact .inr y)]; exact z2
            · rcases z6 with ⟨w1, w2, w3, w4, w5⟩ | ⟨w1, w2⟩
              · exact .inl ⟨w1, w2, w3, w4, by omega⟩
              · exact .inr ⟨w1, by omega⟩
          · have y6 : ∀ g, ¬ (159 ≤ g ∧ g ≤ 162) → m1 g = m g := fun g hg => t6 g (by simp only [List.mem_cons, List.not_mem_nil, or_false, not_or]; omega)
            have e158 : m1 158 0 = m 158 0 := by rw [y6 158 (by decide)]
            obtain ⟨_, _, _, _, _, _, hTT, _⟩ := id h1
            have hol := (olS_0 (w := w) (hTT.1.nd hM.2.1.1 hM.2.1.2 t5.1)).2
            have hlen := t5.2.2
            obtain ⟨c2, n2, m2, r1, r2, r3, r4, r5, r6⟩ := run_both (m1 160 0 + 1).toNat 0 (c + 1) G n1 m1 (by omega) t3 t4 (Int.le_refl _) (by have := t3.2.1.1; omega) (by omega) (by rw [e158]; omega) (by rw [e158]; exact hG)
            have eR : N_Y_listen i WW m = some m2 := by
              rw [t2]
              unfold N_Y_runScript
              rw [r2]; rfl
            have eS := eY 1 m2 t1 (.inr ⟨rfl, eR⟩)
            rcases r6 with ⟨q1, q2, q3, q4, q5⟩ | ⟨q1, q2⟩
            · obtain ⟨u1, u2, u3, u4, u5, u6, u7⟩ := q1
              have e181 : m2 181 = m 181 := by rw [q2.2.1 181 (by omega), y6 181 (by decide)]
              have e179 : m2 179 = m 179 := by rw [q2.2.1 179 (by omega), y6 179 (by decide)]
              have e180 : m2 180 = m 180 := by rw [q2.2.1 180 (by omega), y6 180 (by decide)]
              have e15 : n2 0 0 15 = i + 1 := by rw [q2.1.1]; exact t8
              have hE2 : EVT c0 n2 m2 := by
                rcases q2.2.2 with y | y
                · left
                  refine ⟨by rw [y.1, y6 163 (by decide)]; exact g3, by rw [y.2.1, t11]; exact hE0.1, by rw [y.2.2, t10, e181]; exact hE0.2⟩
                · right
                  refine ⟨y.1, y.2.1, ?_⟩
                  rw [y.2.2, if_neg (by rw [t11, hE0.1]; exact hc0), e15, t8]
              have hFP : FP m0 m2 := (h8.trans (FP.of (fun g a b => y6 g (by omega)))).trans q3
              have hW : WYS As Bs A B (G + 2300 * (m2 158 0 - m1 158 0)) m0 n2 m2 (i + 1) := ⟨u1, u3, u4, ⟨u5, u6, u7⟩, q4, by rw [e181]; exact h6, by rw [q2.1.2, t9, e179, e180, e181]; exact h7, hFP, e15⟩
              obtain ⟨c', n', m', i', z1', z2, z3, z4, z5, z6⟩ := ih (i + 1) c2 (G + 2300 * (m2 158 0 - m1 158 0)) n2 m2 (by rw [e181]; omega) hW hE2 (by omega) (by rw [e181]; omega) (by omega) (by rw [e181]; omega) (by omega)
              rw [e181] at z6
              rw [show G + 2300 * (m2 158 0 - m1 158 0) + 2300 * (m' 158 0 - m2 158 0) = G + 2300 * (m' 158 0 - m 158 0) by omega] at z6
              refine ⟨c', n', m', i', (eT.trans r1).trans z1', by rw [eS]; exact z2, (t7.trans r3).trans z3, by omega, by omega, ?_⟩
              rcases z6 with ⟨w1, w2, w3, w4, w5⟩ | ⟨w1, w2⟩
              · exact .inl ⟨w1, w2, w3, w4, by omega⟩
              · exact .inr ⟨w1, by omega⟩
            · rw [e158] at q1
              refine ⟨c2, n2, m2, i + 1, eT.trans r1, ?_, t7.trans r3, by omega, by omega, .inr ⟨q1, by omega⟩⟩
              rw [eS]
              refine y_upE ?_
              unfold nb_Y_goesUp_7
              have := q1.2.2.2.2.1.1
              by_cases u : i + 1 < m2 181 0
              · rw [if_pos u]
                by_cases u3 : m2 163 0 = 0
                · rw [if_pos u3, if_neg (by omega)]
                · rw [if_neg u3]
              · rw [if_neg u]
        · have g2' : m 154 0 = 1 := by rcases h2.2.2 with y | y <;> omega
          refine stay ?_ (.inr (.inl g2'))
          unfold nb_Y_goesUp_7
          rw [if_pos g1, if_pos g3, if_pos h4.2.1, if_neg g2]
      · refine stay ?_ (.inl (by have := h4.1; omega))
        unfold nb_Y_goesUp_7
        rw [if_pos g1, if_neg g3]
    · refine stay ?_ (.inr (.inr (by omega)))
      unfold nb_Y_goesUp_7
      rw [if_neg g1]
end Q0
