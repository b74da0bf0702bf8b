/-! THE CALL key: all of it -/
section Q3
variable {n n' n'' n2 : NS} {m m' m'' m0 m2 : YS} {A B N N' k b a δ δ' fr to d L r r' x f v c i M kf G G' c0 WW : Int} {o e p o' e' p' κ g : Int → Int} {As Bs W S : Int → Prop}
/-- an EVENT begins at a node -/
theorem event_start (hC : CI As Bs A B G n m) (hb : BUD n m) (hs : n 0 0 12 = 0 ∧ n 4 609 2 = 0) (hm : m 163 0 = 0 ∧ m 152 0 = 0 ∧ m 153 0 = 0) (hv : 0 ≤ v ∧ v < 120) (h45 : m 45 v = 1) (hG : G < 1000000000) (hc0 : c0 ≠ 0) :
    ∃ n' m', N_Acts_startEvent v c0 n = some n' ∧ N_Y_wayUp v m = some m' ∧ WYS As Bs A B G m' n' m' 0 ∧ EVT c0 n' m' ∧ FC n n' m m' ∧ FY [179, 180, 181] m m' := by
  obtain ⟨h1, h2, h3⟩ := hC
  obtain ⟨N, o, e, p, k, hT, k0, k1, hk⟩ := h1.at hv h45
  have hN := hT.1.1.1.N1
  generalize hn10 : nw (nw (nw n 0 0 18 c0) 0 0 15 0) 0 0 16 0 = n10
  have k10 : ∀ K, K ≠ 0 → n10 K = n K := fun K hK => by rw [← hn10, nw_nK hK, nw_nK hK, nw_nK hK]
  have s10 : ∀ s, s ≠ 15 → s ≠ 16 → s ≠ 18 → n10 0 0 s = n 0 0 s := fun s a b c => by rw [← hn10, nw_ns b, nw_ns a, nw_ns c]
  generalize hm2 : yw m 181 0 0 = m2
  have y2 : ∀ g, g ≠ 181 → m2 g = m g := fun g hg => by rw [← hm2, yw_nF hg]
  have hT10 : JTr n10 m2 N o e p := (hT.ks (fun K hK => k10 K (by omega))).cg (fun _ _ => rfl) (fun _ _ _ => rfl) (fun g a b => y2 g (by omega))
  have g69 : m 69 0 ≤ G := by
    obtain ⟨_, _, _, _, _, _, _, _, _, _, _, _, gg⟩ := id h1
    exact gg.2.1
  obtain ⟨n', m', e1, e2, b1, b2, b3, b4, b5⟩ := up_both hT10 (by rw [y2 69 (by decide)]; omega) k.toNat k 0 n10 m2 (Nat.le_refl _) k0 k1 (fun _ _ _ => rfl) (fun _ _ => rfl) (fun _ _ => rfl) ⟨by rw [← hn10, nw_eq], by rw [← hm2, yw_eq], Int.le_refl _, by omega⟩ (fun i i0 i1 => by omega)
  rw [hk] at e1 e2
  have ym : ∀ g, ¬ (179 ≤ g ∧ g ≤ 181) → m' g = m g := fun g hg => by rw [b3 g (by simp only [List.mem_cons, List.not_mem_nil, or_false, not_or]; omega), y2 g (by omega)]
  have kn : ∀ K, K ≠ 0 → K ≠ 46 → n' K = n K := fun K a b => by rw [b1 K a b, k10 K a]
  have sn : ∀ s, s ≠ 15 → s ≠ 16 → s ≠ 18 → n' 0 0 s = n 0 0 s := fun s a c d => by rw [b2 s c, s10 s a c d]
  have e15 : n' 0 0 15 = 0 := by rw [b2 15 (by decide), ← hn10, nw_ns (by decide), nw_eq]
  have e18 : n' 0 0 18 = c0 := by rw [b2 18 (by decide), ← hn10, nw_ns (by decide), nw_ns (by decide), nw_eq]
  refine ⟨n', m', ?_, ?_, ⟨h1.cg (fun K a _ c => kn K a c) (fun s hs => sn s (by omega) (by omega) (by omega)) (fun s _ => by rw [kn 6 (by decide) (by decide)]) (fun g hg => ym g (fun w => hg (by simp only [List.mem_cons, List.not_mem_nil, or_false]; omega))), ?_, ⟨?_, ?_⟩, ⟨.inl ?_, ?_, ?_⟩, .inl ?_, b4.2, fun i i0 i1 => ?_, FP.refl m', e15⟩, .inl ⟨?_, e18, b4.1⟩, ?_, fun g hg => ym g (by simp only [List.mem_cons, List.not_mem_nil, or_false, not_or] at hg; omega)⟩
  · unfold N_Acts_startEvent st
    dsimp only
    rw [hn10, e1]; rfl
  · unfold N_Y_wayUp st
    dsimp only
    rw [hm2, e2]; rfl
  · unfold BUD at *
    rw [sn 9 (by decide) (by decide) (by decide), ym 158 (by decide), ym 154 (by decide)]; exact hb
  · rw [sn 17 (by decide) (by decide) (by decide)]; exact h2.1
  · rw [kn 6 (by decide) (by decide)]; exact h2.2
  · rw [ym 163 (by decide)]; exact hm.1
  · rw [ym 152 (by decide)]; exact hm.2.1
  · rw [ym 153 (by decide)]; exact hm.2.2
  · rw [kn 4 (by decide) (by decide), sn 12 (by decide) (by decide) (by decide), hs.1, hs.2]; exact Int.le_refl _
  · have := b5 i i0 i1
    rw [ym 69 (by decide)]
    rw [y2 69 (by decide)] at this; exact this
  · rw [ym 163 (by decide)]; exact hm.1
  · exact FC.k0 (fun K a _ c => kn K a c) (fun s hs => sn s (fun w => hs (by rw [w]; decide)) (fun w => hs (by rw [w]; decide)) (fun w => hs (by rw [w]; decide))) (fun g a _ => ym g (by omega)) (fun g a => ym g (by omega)) (.inr (by rw [ym 126 (by decide)]))
theorem call_key (hC : CI As Bs A B G n m) (hO : JOut n m) (hG : G < 360000000) :
    ∃ r n' m', N_H_key c n = some (r, n') ∧ N_Y_key c m = some (r, m') ∧ CI As Bs A B (G + 480000) n' m' ∧ JOut n' m' ∧ FC n n' m m' := by
  have same : N_H_key c n = some (-1, n) → N_Y_key c m = some (-1, m) → ∃ r n' m', N_H_key c n = some (r, n') ∧ N_Y_key c m = some (r, m') ∧ CI As Bs A B (G + 480000) n' m' ∧ JOut n' m' ∧ FC n n' m m' := fun e1 e2 => ⟨-1, n, m, e1, e2, hC.mono (by omega), hO, FC.refl n m⟩
  rcases focus_both hC.1 with ⟨f1, f2⟩ | ⟨f1, f2, hM, hal, h13⟩
  · refine same ?_ ?_
    · unfold N_H_key
      rw [f1]; rfl
    · unfold N_Y_key
      rw [f2]; rfl
  · have hvb := hM.2.1
    generalize hv : m 150 0 = v at *
    by_cases hc : c = 8 ∨ c = 10 ∨ (32 ≤ c ∧ c ≤ 126)
    · have eH : N_H_key c n = nk_H_key_46 c v n := by
        unfold N_H_key
        rw [f1]
        simp only [Option.bind_some]
        rw [if_neg (by omega)]
        by_cases c8 : c = 8
        · rw [if_pos c8]
        · rw [if_neg c8]
          by_cases c10 : c = 10
          · rw [if_pos c10]
          · rw [if_neg c10, if_neg (by omega), if_neg (by omega)]
      have eK : N_Y_key c m = nk_Y_key_33 c m := by
        unfold N_Y_key
        rw [f2]
        simp only [Option.bind_some]
        rw [if_neg (by decide)]
        by_cases c8 : c = 8
        · rw [if_pos c8]
        · rw [if_neg c8]
          by_cases c10 : c = 10
          · rw [if_pos c10]
          · rw [if_neg c10, if_neg (by omega), if_neg (by omega)]
      obtain ⟨n3, m3, b1, b2, b3, b4, b5, b6, b7, b8, b9, b10, b11, b12, b13⟩ := begin_both hC
      obtain ⟨n8, m7, s1, s2, s3, s4, s5, s6⟩ := event_start (v := v) (c0 := c) b3 b4 ⟨b5.1, b5.2.2.2.2⟩ ⟨b6.2.2.2.1, b6.1, b6.2.1⟩ hvb (by rw [b8 45 (by decide)]; exact hal.1) (by omega) (by omega)
      have e158 : m7 158 0 = 0 := by rw [s6 158 (by decide)]; exact b6.2.2.2.2
      have e163 : yw m7 163 0 0 = m7 := yw_id (by rw [s6 163 (by decide)]; exact b6.2.2.2.1)
      have hw181 := s3.2.2.2.2.2.1
      have hNI : NIB m7 := b3.2.2.fp b3.1.born (FP.of (fun g a b => s6 g (by simp only [List.mem_cons, List.not_mem_nil, or_false, not_or]; omega)))
      obtain ⟨c', n', m', i', z1, z2, z3, z4, z5, z6⟩ := ev_way (m0 := m7) (c0 := c) (wN := 1000027) (w := wKey) (WW := 26389967) (by omega) (by rw [if_neg (by omega), if_neg (by omega)]) (fun n => cs_packW okS27 (by decide) (by decide)) (by decide) ⟨by decide, by decide⟩ (m7 181 0).toNat 0 0 G n8 m7 (by omega) s3 s4 (Int.le_refl _) hw181.1 (Int.le_refl _) (by omega) (by omega)
      have eG : N_Y_goesUp 26389967 m7 = nk_Y_goesUp_56 m' := by
        unfold N_Y_goesUp st
        dsimp only
        rw [e163, z2]; rfl
      -- the end of the call
      have fin : ∀ n13 m25 m26, stl (NL_Acts_settle_2 0 n8) = some n13 → N_Y_settle m25 = some m26 → CI As Bs A B (G + 480000) n13 m26 → FC n8 n13 m7 m26 → N_Y_key c m = nk_Y_key_69 v m25 → ∃ r n' m', N_H_key c n = some (r, n') ∧ N_Y_key c m = some (r, m') ∧ CI As Bs A B (G + 480000) n' m' ∧ JOut n' m' ∧ FC n n' m m' := fun n13 m25 m26 q1 q2 q3 q4 q5 => by
        have fcE : FC n n13 m (yw m26 126 0 0) := ((b7.trans s5).trans q4).trans (FC.k0 (fun _ _ _ _ => rfl) (fun _ _ => rfl) (fun g a b => yw_nF b) (fun g a => yw_nF (by omega)) (.inl yw_eq))
        refine ⟨v, n13, yw m26 126 0 0, ?_, ?_, q3.y126, hO.fc fcE, fcE⟩
        · rw [eH]
          unfold nk_H_key_46
          rw [b1]
          simp only [Option.bind_some]
          rw [s1]
          simp only [Option.bind_some]
          have eS : N_Acts_settle n8 = some n13 := by
            have : N_Acts_settle n8 = stl (NL_Acts_settle_2 0 n8) := rfl
            rw [this]; exact q1
          rw [eS]; rfl
        · rw [q5]
          unfold nk_Y_key_69
          rw [q2]; rfl
      have eK2 : N_Y_key c m = (nk_Y_goesUp_56 m').bind (u2 fun z12 m15 => if z12 = 0 then nk_Y_key_69 v m15 else (N_Y_focused m15).bind fun z20 => if z20 = 0 then nk_Y_key_69 v m15 else (N_Y_typed c m15).bind fun m25 => nk_Y_key_69 v m25) := by
        rw [eK]
        unfold nk_Y_key_33
        rw [b2]
        simp only [Option.bind_some]
        rw [hv, s2]
        simp only [Option.bind_some]
        rw [eG]
      rcases z6 with ⟨w1, w2, w3, w4, w5⟩ | ⟨w1, w2⟩
      · have hw1 := w1
        obtain ⟨u1, u2', u3, u4, u5, u6, u7, u8, u9⟩ := w1
        have hN' : NIB m' := hNI.fp (s3.1.born) u8
        by_cases hstop : m' 163 0 = 0 ∧ m' 154 0 = 0
        · -- the DEFAULT
          have hi' : i' = m' 181 0 := by rcases w4 with y | y | y <;> omega
          have hE : n' 0 0 18 = c ∧ n' 0 0 16 = m' 181 0 := by
            rcases w2 with y | y
            · exact y.2
            · omega
          have hsz : n' 4 609 2 ≤ n' 0 0 12 := by rcases u5 with y | y <;> omega
          have h9 := u2'.1
          have hlt : m' 158 0 < 200 := by rcases u2'.2.2 with y | y <;> omega
          have e56 : nk_Y_goesUp_56 m' = some (1, m') := by
            unfold nk_Y_goesUp_56
            rw [if_pos hstop.1, if_pos u4.2.1, if_pos hstop.2]
          rw [e56] at eK2
          simp only [Option.bind_some, u2] at eK2
          rw [if_neg (by decide)] at eK2
          generalize hnd : nw n' 0 0 18 0 = nd
          have kd : ∀ K, K ≠ 0 → nd K = n' K := fun K hK => by rw [← hnd, nw_nK hK]
          have sd : ∀ s, s ≠ 18 → nd 0 0 s = n' 0 0 s := fun s hs => by rw [← hnd, nw_ns hs]
          have jd : JA As Bs A B 0 (G + 2300 * (m' 158 0 - m7 158 0)) nd m' := u1.cg (fun K a _ _ => kd K a) (fun s hs => sd s (by omega)) (fun s _ => by rw [kd 6 (by decide)]) (fun _ _ => rfl)
          have fcd : FC n' nd m' m' := FC.k0 (fun K a _ _ => kd K a) (fun s hs => sd s (fun w => hs (by rw [w]; decide))) (fun _ _ _ => rfl) (fun _ _ => rfl) (.inr rfl)
          have eT : ∀ n1, N_Acts_typeKey c nd = some n1 → NL_Acts_settle_2 c' n' = NL_Acts_settle_2 (c' + 1) n1 := fun n1 e => by
            have e1 : nb_Acts_settle_2 c' n' = some (.inl (c' + 1, n1)) := by
              unfold nb_Acts_settle_2
              rw [if_pos (by omega), if_pos u3.2, if_pos u3.1, if_neg (by omega), if_neg (by omega), if_neg (by omega), if_neg (by omega)]
              unfold N_Acts_doDefault st
              dsimp only
              rw [hnd, hE.1, if_neg (by omega), e]
              simp only [Option.bind_some]
              unfold ck
              rw [if_pos (by omega)]
            unfold NL_Acts_settle_2
            exact it_inl (f := fun s : Int × NS => nb_Acts_settle_2 s.1 s.2) e1
          have hD : ∃ Y, DFR As Bs A B (G + 2300 * (m' 158 0 - m7 158 0)) nd m' (N_Acts_typeKey c nd) Y ∧ ∀ m25, Y = some m25 → N_Y_key c m = nk_Y_key_69 v m25 := by
            rcases focus_both jd with ⟨g1, g2⟩ | ⟨g1, g2, gM, gal, g13⟩
            · refine ⟨some m', .inl ⟨nd, m', ?_, rfl, jd.mono (by omega), FE.refl nd m'⟩, fun m25 e => ?_⟩
              · unfold N_Acts_typeKey
                rw [g1]; rfl
              · cases e
                rw [eK2, g2]; rfl
            · refine ⟨N_Y_typed c m', type_both jd hN' gM rfl gal g13 hc, fun m25 e => ?_⟩
              rw [eK2, g2]
              simp only [Option.bind_some]
              rw [if_neg (by decide), e]; rfl
          obtain ⟨Y, hD, hY⟩ := hD
          obtain ⟨n1, n13, m25, m26, d1, d2, d3, d4, d5, d6⟩ := dfr_settle (c := c' + 1) hD (by unfold BUD at *; rw [sd 9 (by decide)]; exact u2') ⟨by rw [sd 17 (by decide)]; exact u3.1, by rw [kd 6 (by decide)]; exact u3.2⟩ u4 ⟨by rw [kd 4 (by decide), sd 12 (by decide)]; exact hsz, by rw [sd 16 (by decide), sd 15 (by decide)]; omega, by rw [← hnd, nw_eq]⟩ hN' jd.born ⟨by omega, by omega⟩ (by omega)
          refine fin n13 m25 m26 ?_ d4 (d6.mono (by omega)) ((z3.trans fcd).trans d5) (hY m25 d2)
          rw [z1, eT n1 d1]; exact d3
        · have e56 : nk_Y_goesUp_56 m' = some (0, m') := by
            unfold nk_Y_goesUp_56
            by_cases y : m' 163 0 = 0
            · rw [if_pos y, if_pos u4.2.1, if_neg (fun w => hstop ⟨y, w⟩)]
            · rw [if_neg y]
          rw [e56] at eK2
          simp only [Option.bind_some, u2] at eK2
          rw [if_pos trivial] at eK2
          have hW : WYE As Bs A B (G + 2300 * (m' 158 0 - m7 158 0)) n' m' := by
            refine ⟨u1, u2', u3, u4, ?_, hN'⟩
            by_cases y : m' 154 0 = 1
            · exact .inl y
            · have h154 : m' 154 0 = 0 := by rcases u2'.2.2 with w | w <;> omega
              have : m' 163 0 = 1 := by rcases u4.1 with w | w; exact absurd ⟨w, h154⟩ hstop; exact w
              rcases w2 with w | w
              · omega
              · refine .inr ⟨by rcases u5 with q | q <;> omega, by omega, w.2.1⟩
          obtain ⟨n13, m26, t1, t2, t3, t4, t5⟩ := settle_fin (.inl hW) (c := c') ⟨by omega, by omega⟩ (by omega)
          refine fin n13 m' m26 (by rw [z1]; exact t1) t2 (t4.ci.mono (by omega)) (z3.trans t3) eK2
      · have e56 : nk_Y_goesUp_56 m' = some (0, m') := by
          have := w1.2.2.2.2.1.1
          unfold nk_Y_goesUp_56
          by_cases y : m' 163 0 = 0
          · rw [if_pos y, if_neg (by omega)]
          · rw [if_neg y]
        rw [e56] at eK2
        simp only [Option.bind_some, u2] at eK2
        rw [if_pos trivial] at eK2
        obtain ⟨n13, m26, t1, t2, t3, t4, t5⟩ := settle_fin (.inr w1) (c := c') ⟨by omega, by omega⟩ (by omega)
        exact fin n13 m' m26 (by rw [z1]; exact t1) t2 (t4.ci.mono (by omega)) (z3.trans t3) eK2
    · refine same ?_ ?_
      · unfold N_H_key
        rw [f1]
        simp only [Option.bind_some]
        rw [if_neg (by omega), if_neg (by omega), if_neg (by omega)]
        by_cases y : c < 32
        · rw [if_pos y]
        · rw [if_neg y, if_pos (by omega)]
      · unfold N_Y_key
        rw [f2]
        simp only [Option.bind_some]
        rw [if_neg (by decide), if_neg (by omega), if_neg (by omega)]
        by_cases y : c < 32
        · rw [if_pos y]
        · rw [if_neg y, if_pos (by omega)]
end Q3
