/-! A PRESS on a node, in both -/
section Q8
variable {n n' n'' n2 : NS} {m m' m'' m0 m2 : YS} {A B N N' k b a δ δ' fr to d L r r' x f v i M kf G G' c0 WW : Int} {o e p o' e' p' κ g : Int → Int} {As Bs W S : Int → Prop}
def wPrs : List Int := [111, 110, 112, 114, 101, 115, 115]
/-- the class's press, from its node on -/
noncomputable def prC (v : Int) (n : NS) : Option (Int × NS) := (N_Acts_begin n).bind fun n3 => (N_Acts_startEvent v (-1) n3).bind fun n8 => (N_Acts_settle n8).bind fun n13 => some (v, n13)
/-- the reference's -/
noncomputable def prR (v : Int) (m : YS) : Option (Int × YS) := (N_Y_begin m).bind fun m15 => (N_Y_wayUp v m15).bind fun m19 => (N_Y_goesUp 21044478415 m19).bind <| u2 fun z24 m27 => if z24 = 0 then nk_Y_press_47 v m27 else (N_Y_pressed m27).bind fun m32 => nk_Y_press_47 v m32
theorem press_event (hC : CI As Bs A B G n m) (hO : JOut n m) (hG : G < 360000000) (hvb : 0 ≤ v ∧ v < 120) (h45 : m 45 v = 1) :
    ∃ r n' m', prC v n = some (r, n') ∧ prR v m = some (r, m') ∧ CI As Bs A B (G + 480000) n' m' ∧ JOut n' m' ∧ FC n n' m m' := by
  obtain ⟨n3, m3, b1, b2, b3, b4, b5, b6, b7, b8, b9, b10, b11, b12, b13⟩ := begin_both hC
  obtain ⟨n8, m7, s1, s2, s3, s4, s5, s6⟩ := event_start (v := v) (c0 := -1) b3 b4 ⟨b5.1, b5.2.2.2.2⟩ ⟨b6.2.2.2.1, b6.1, b6.2.1⟩ hvb (by rw [b8 45 (by decide)]; exact h45) (by omega) (by decide)
  have e158 : m7 158 0 = 0 := by rw [s6 158 (by decide)]; exact b6.2.2.2.2
  have e163 : yw m7 163 0 0 = m7 := yw_id (by rw [s6 163 (by decide)]; exact b6.2.2.2.1)
  have hw181 := s3.2.2.2.2.2.1
  have hNI : NIB m7 := b3.2.2.fp b3.1.born (FP.of (fun g a b => s6 g (by simp only [List.mem_cons, List.not_mem_nil, or_false, not_or]; omega)))
  obtain ⟨c', n', m', i', z1, z2, z3, z4, z5, z6⟩ := ev_way (m0 := m7) (c0 := -1) (wN := 1000026) (w := wPrs) (WW := 21044478415) (by decide) (by rw [if_neg (by decide), if_pos rfl]) (fun n => cs_packW okS26 (by decide) (by decide)) (by decide) ⟨by decide, by decide⟩ (m7 181 0).toNat 0 0 G n8 m7 (by omega) s3 s4 (Int.le_refl _) hw181.1 (Int.le_refl _) (by omega) (by omega)
  have eG : N_Y_goesUp 21044478415 m7 = nk_Y_goesUp_56 m' := by
    unfold N_Y_goesUp st
    dsimp only
    rw [e163, z2]; rfl
  -- the end of the call
  have fin : ∀ n13 m25 m26, stl (NL_Acts_settle_2 0 n8) = some n13 → N_Y_settle m25 = some m26 → CI As Bs A B (G + 480000) n13 m26 → FC n8 n13 m7 m26 → prR v m = nk_Y_press_47 v m25 → ∃ r n' m', prC v n = some (r, n') ∧ prR v m = some (r, m') ∧ CI As Bs A B (G + 480000) n' m' ∧ JOut n' m' ∧ FC n n' m m' := fun n13 m25 m26 q1 q2 q3 q4 q5 => by
    have fcE : FC n n13 m (yw m26 126 0 0) := ((b7.trans s5).trans q4).trans (FC.k0 (fun _ _ _ _ => rfl) (fun _ _ => rfl) (fun g a b => yw_nF b) (fun g a => yw_nF (by omega)) (.inl yw_eq))
    refine ⟨v, n13, yw m26 126 0 0, ?_, ?_, q3.y126, hO.fc fcE, fcE⟩
    · unfold prC
      rw [b1]
      simp only [Option.bind_some]
      rw [s1]
      simp only [Option.bind_some]
      have eS : N_Acts_settle n8 = some n13 := by
        have : N_Acts_settle n8 = stl (NL_Acts_settle_2 0 n8) := rfl
        rw [this]; exact q1
      rw [eS]; rfl
    · rw [q5]
      unfold nk_Y_press_47
      rw [q2]; rfl
  have eK2 : prR v m = (nk_Y_goesUp_56 m').bind (u2 fun z12 m15 => if z12 = 0 then nk_Y_press_47 v m15 else (N_Y_pressed m15).bind fun m25 => nk_Y_press_47 v m25) := by
    unfold prR
    rw [b2]
    simp only [Option.bind_some]
    rw [s2]
    simp only [Option.bind_some]
    rw [eG]
  rcases z6 with ⟨w1, w2, w3, w4, w5⟩ | ⟨w1, w2⟩
  · have hw1 := w1
    obtain ⟨u1, u2', u3, u4, u5, u6, u7, u8, u9⟩ := w1
    have hN' : NIB m' := hNI.fp (s3.1.born) u8
    by_cases hstop : m' 163 0 = 0 ∧ m' 154 0 = 0
    · -- the DEFAULT
      have hi' : i' = m' 181 0 := by rcases w4 with y | y | y <;> omega
      have hE : n' 0 0 18 = -1 ∧ n' 0 0 16 = m' 181 0 := by
        rcases w2 with y | y
        · exact y.2
        · omega
      have hsz : n' 4 609 2 ≤ n' 0 0 12 := by rcases u5 with y | y <;> omega
      have h9 := u2'.1
      have hlt : m' 158 0 < 200 := by rcases u2'.2.2 with y | y <;> omega
      have e56 : nk_Y_goesUp_56 m' = some (1, m') := by
        unfold nk_Y_goesUp_56
        rw [if_pos hstop.1, if_pos u4.2.1, if_pos hstop.2]
      rw [e56] at eK2
      simp only [Option.bind_some, u2] at eK2
      rw [if_neg (by decide)] at eK2
      generalize hnd : nw (nw n' 0 0 18 0) 0 0 6 (-1) = nd
      have kd : ∀ K, K ≠ 0 → nd K = n' K := fun K hK => by rw [← hnd, nw_nK hK, nw_nK hK]
      have sd : ∀ s, s ≠ 18 → s ≠ 6 → nd 0 0 s = n' 0 0 s := fun s hs h6 => by rw [← hnd, nw_ns h6, nw_ns hs]
      generalize hmd : yw m' 150 0 (-1) = md
      have yd : ∀ g, g ≠ 150 → md g = m' g := fun g hg => by rw [← hmd, yw_nF hg]
      have jd : JA As Bs A B 0 (G + 2300 * (m' 158 0 - m7 158 0)) nd md := u1.focus kd (fun s hs => sd s (by omega) (by omega)) (fun g a _ => yd g a) (.inl ⟨by rw [← hnd, nw_eq], by rw [← hmd, yw_eq]⟩)
      have fcd : FC n' nd m' md := FC.k0 (fun K a _ _ => kd K a) (fun s hs => sd s (fun w => hs (by rw [w]; decide)) (fun w => hs (by rw [w]; decide))) (fun g a _ => yd g (by omega)) (fun g a => yd g (by omega)) (.inr (by rw [yd 126 (by decide)]))
      have hNd : NIB md := hN'.fp u1.born (FP.of (fun g a b => yd g (by omega)))
      have eT : ∀ n1, NL_Acts_doDefault_32 0 0 nd = some n1 → NL_Acts_settle_2 c' n' = NL_Acts_settle_2 (c' + 1) n1 := fun n1 e => by
        have e1 : nb_Acts_settle_2 c' n' = some (.inl (c' + 1, n1)) := by
          unfold nb_Acts_settle_2
          rw [if_pos (by omega), if_pos u3.2, if_pos u3.1, if_neg (by omega), if_neg (by omega), if_neg (by omega), if_neg (by omega)]
          unfold N_Acts_doDefault st
          dsimp only
          rw [if_pos hE.1, hnd, e]
          simp only [Option.bind_some]
          unfold ck
          rw [if_pos (by omega)]
        unfold NL_Acts_settle_2
        exact it_inl (f := fun s : Int × NS => nb_Acts_settle_2 s.1 s.2) e1
      have hD : ∃ Y, DFR As Bs A B (G + 2300 * (m' 158 0 - m7 158 0)) nd md (NL_Acts_doDefault_32 0 0 nd) Y ∧ ∀ m25, Y = some m25 → prR v m = nk_Y_press_47 v m25 := by
        obtain ⟨X, Y, q1, q2, q3⟩ := press_loop jd hNd (by omega) ⟨by rw [sd 16 (by decide) (by decide), yd 181 (by decide)]; exact hE.2, by rw [yd 181 (by decide)]; exact u6⟩ (fun i i0 i1 => by rw [yd 181 (by decide)] at i1; rw [kd 46 (by decide), yd 179 (by decide), yd 180 (by decide)]; exact (u7 i i0 i1).1) (md 181 0).toNat 0 (by omega) (Int.le_refl _) (by rw [yd 181 (by decide)]; exact u6.1)
        refine ⟨Y, by rw [q2]; exact q1, fun m25 e => ?_⟩
        rw [eK2]
        unfold N_Y_pressed st
        dsimp only
        rw [hmd, q3, e]; rfl
      obtain ⟨Y, hD, hY⟩ := hD
      obtain ⟨n1, n13, m25, m26, d1, d2, d3, d4, d5, d6⟩ := dfr_settle (c := c' + 1) hD (by unfold BUD at *; rw [sd 9 (by decide) (by decide), yd 158 (by decide), yd 154 (by decide)]; exact u2') ⟨by rw [sd 17 (by decide) (by decide)]; exact u3.1, by rw [kd 6 (by decide)]; exact u3.2⟩ (by rw [yd 163 (by decide), yd 152 (by decide), yd 153 (by decide)]; exact u4) ⟨by rw [kd 4 (by decide), sd 12 (by decide) (by decide)]; exact hsz, by rw [sd 16 (by decide) (by decide), sd 15 (by decide) (by decide)]; omega, by rw [← hnd, nw_ns (by decide), nw_eq]⟩ hNd jd.born ⟨by omega, by rw [yd 158 (by decide)]; omega⟩ (by rw [yd 158 (by decide)]; omega)
      refine fin n13 m25 m26 ?_ d4 (d6.mono (by rw [yd 158 (by decide)]; omega)) ((z3.trans fcd).trans d5) (hY m25 d2)
      rw [z1, eT n1 d1]; exact d3
    · have e56 : nk_Y_goesUp_56 m' = some (0, m') := by
        unfold nk_Y_goesUp_56
        by_cases y : m' 163 0 = 0
        · rw [if_pos y, if_pos u4.2.1, if_neg (fun w => hstop ⟨y, w⟩)]
        · rw [if_neg y]
      rw [e56] at eK2
      simp only [Option.bind_some, u2] at eK2
      rw [if_pos trivial] at eK2
      have hW : WYE As Bs A B (G + 2300 * (m' 158 0 - m7 158 0)) n' m' := by
        refine ⟨u1, u2', u3, u4, ?_, hN'⟩
        by_cases y : m' 154 0 = 1
        · exact .inl y
        · have h154 : m' 154 0 = 0 := by rcases u2'.2.2 with w | w <;> omega
          have : m' 163 0 = 1 := by rcases u4.1 with w | w; exact absurd ⟨w, h154⟩ hstop; exact w
          rcases w2 with w | w
          · omega
          · refine .inr ⟨by rcases u5 with q | q <;> omega, by omega, w.2.1⟩
      obtain ⟨n13, m26, t1, t2, t3, t4, t5⟩ := settle_fin (.inl hW) (c := c') ⟨by omega, by omega⟩ (by omega)
      refine fin n13 m' m26 (by rw [z1]; exact t1) t2 (t4.ci.mono (by omega)) (z3.trans t3) eK2
  · have e56 : nk_Y_goesUp_56 m' = some (0, m') := by
      have := w1.2.2.2.2.1.1
      unfold nk_Y_goesUp_56
      by_cases y : m' 163 0 = 0
      · rw [if_pos y, if_neg (by omega)]
      · rw [if_neg y]
    rw [e56] at eK2
    simp only [Option.bind_some, u2] at eK2
    rw [if_pos trivial] at eK2
    obtain ⟨n13, m26, t1, t2, t3, t4, t5⟩ := settle_fin (.inr w1) (c := c') ⟨by omega, by omega⟩ (by omega)
    exact fin n13 m' m26 (by rw [z1]; exact t1) t2 (t4.ci.mono (by omega)) (z3.trans t3) eK2
end Q8
