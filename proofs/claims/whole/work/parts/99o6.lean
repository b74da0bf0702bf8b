/-! THE CALLS visit and history -/
section O6
variable {n n' n'' n2 : NS} {m m' m'' m0 m6 mR : YS} {A B N N' k b a δ δ' fr to d L r r' q x f v c G G' i : Int} {o e p o' e' p' : Int → Int} {As Bs W S : Int → Prop}
/-- a visit is under way: the page is loaded, and all settles -/
theorem load_settle (h : JA As Bs A B 0 G n m) (hb : BUD n m) (h17 : n 0 0 17 = -1) (h16 : n 6 0 16 = 1 ∨ n 6 0 16 = 2) (h163 : m 163 0 = 0 ∨ m 163 0 = 1) (hAR : AR n m 1584 0) (hG : G < 380000000) (h158 : m 158 0 = 0) :
    ∃ n' m' m'', stl (NL_Acts_settle_2 0 n) = some n' ∧ (if n 6 0 16 = 1 then (N_Y_goTo m).bind N_Y_remember else N_Y_goTo m) = some m' ∧ N_Y_settle m' = some m'' ∧ FC n n' m m'' ∧ CI As Bs A B (G + 465000) n' m'' := by
  obtain ⟨n5, m5, N5, o5, e5, p5, z1, z2, z3, z4, z5, z6, z7, z8, z9, z10, z11, z12, z13⟩ := load_turn (c := 0) h (by omega) hAR h16 (by omega)
  have y : ∀ f, f = 154 ∨ f = 158 ∨ f = 163 → m5 f = m f := fun g hg => z11 g (by omega) (by omega) (by omega) (by omega) (by omega) (by omega) (by omega) (by omega) (by omega) (by omega) (by omega) (by omega)
  have hW : WEN As Bs A B (G + 2100) n5 m5 := by
    refine ⟨z3, ?_, ⟨by rw [z8 17 (by decide)]; exact h17, z9⟩, by rw [y 163 (by omega)]; exact h163, z10, z6, ⟨N5, o5, e5, p5, z4, z5⟩, z12, z13⟩
    unfold BUD at *
    rw [z8 9 (by decide), y 154 (by omega), y 158 (by omega)]; exact hb
  obtain ⟨n', m'', s1, s2, s3, s4, s5⟩ := settle_fin (.inr hW) (c := 0 + 1) ⟨by decide, by rw [y 158 (by omega)]; omega⟩ (by rw [y 158 (by omega)]; omega)
  rw [y 158 (by omega)] at s4
  refine ⟨n', m5, m'', ?_, z2, s2, z7.trans s3, s4.ci.mono (by omega)⟩
  have : NL_Acts_settle_2 0 n = NL_Acts_settle_2 (0 + 1) n5 := by
    unfold NL_Acts_settle_2
    exact it_inl (f := fun s : Int × NS => nb_Acts_settle_2 s.1 s.2) z1
  rw [this]; exact s1
theorem call_visit (hC : CI As Bs A B G n m) (hJ : JTape n m) (hO : JOut n m) (hG : G < 370000000) :
    ∃ r n' m', N_H_visit n = some (r, n') ∧ N_Y_visit m = some (r, m') ∧ CI As Bs A B (G + 470000) n' m' ∧ JTape n' m' ∧ JOut n' m' ∧ FZ n n' m m' := by
  have hB := hC.1.bi
  obtain ⟨m5, f5, m1, ht, hs, hsz, hc⟩ := take_both hB hJ
  have f5' : ∀ f, f ∉ [1, 2, 3] → m5 f = m f := f5
  have O5 : JOut n m5 := by unfold JOut ys at *; rw [f5' 4 (by decide), f5' 5 (by decide)]; exact hO
  have C5 : CI As Bs A B G n m5 := hC.rows hB (FB.refl (fun x => x = 605) n) (fun x hx => .inl hx) (fun f hf => f5' f (by simp only [List.mem_cons, List.not_mem_nil, or_false, not_or]; omega))
  have z5 : FZ n n m m5 := FZ.fb hB (FB.refl (fun _ => False) n) (fun x hx => hx.elim) (fun f hf => f5' f (by simp only [List.mem_cons, List.not_mem_nil, or_false, not_or]; omega))
  rcases hc with ⟨i, i0, i1, c1, c2⟩ | ⟨c1, c2, c3⟩
  · obtain ⟨n3, k1, k2⟩ := tape_fin (r := -1000 - i) (C5.mono (G' := G + 470000) (by omega)) O5 m1 z5
    refine ⟨-1000 - i, n3, m5, ?_, ?_, k2⟩
    · unfold N_H_visit
      rw [c1]
      simp only [Option.bind_some]
      rw [if_neg (by omega)]; exact k1
    · unfold N_Y_visit
      rw [c2]
      simp only [Option.bind_some, u2]
      rw [if_neg (by omega)]
      unfold N_Y_wrong ck
      rw [if_pos (by omega)]; rfl
  · obtain ⟨n8, m10, b1, b2, b3, b4, b5, b6, b7, b8, b9, b10, b11, b12, b13⟩ := begin_both C5
    have y10 : ∀ g, g ∉ [152, 153, 154, 158, 163] → m10 g = m5 g := b8
    have r605 : n8 4 605 = n 4 605 := (b7.1.2.1 605 (by decide) (by decide) (by omega)).1
    have d605 : n8 99 (n 4 605 1) = n 99 (n 4 605 1) := (b7.1.2.1 605 (by decide) (by decide) (by omega)).2
    have hB8 := b3.1.bi
    have hb5 := hB8.1 605 (by decide) (by decide)
    have j8 : JA As Bs A B 0 G n8 m5 := b3.1.cg (fun _ _ _ _ => rfl) (fun _ _ => rfl) (fun _ _ => rfl) (fun g hg => (y10 g (fun w => hg (by simp only [List.mem_cons, List.not_mem_nil, or_false] at w ⊢; omega))).symm)
    obtain ⟨κ, N, o, e, p, h1, _⟩ := id j8
    have hA := h1.1.2.1.1
    have h84 := h1.1.2.1.2.2.1.2.2.1
    have hty := (hA 1584 h84).1.2.1
    obtain ⟨z, n', m', x1, x2, x3, x4, ⟨s, t, x5, x6⟩, x7, x8⟩ := read_both (F := 2) (d := n8 4 605 1) (fr := 0) (to := m5 3 0) (L := m5 3 0) h1 ⟨hb5.2.2.1, by have := hb5.2.2.2.1.2.2; rw [r605] at this ⊢; omega, fun j a b => by rw [r605, d605]; exact ht.2.2 j a b⟩ (fun w => (hA 1584 h84).2.1 605 (by decide) (by decide) w.symm) (by decide) ⟨Int.le_refl _, hs.1, Int.le_refl _, by show _ ≤ (2000 : Int); omega, hs.2⟩ (fun j a b => c3 j a b)
    have kK : ∀ K, K ≠ 99 → n' K = n8 K := fun K hK => by rw [x6]; exact aw_K hK
    have hS : FS (fun x => x = 607) n8 n' := by rw [x6]; exact FS.aw hA h84 hB8
    have jA' : JA As Bs A B 0 (G + 6) n' m' := j8.net x4 (fun K c => kK K (fun w => c (by rw [w]; decide))) (by rw [kK 6 (by decide)]) hS (fun f hf => x7 f (by omega)) (by rw [x7 35 (by decide)]; omega)
    have fA' : FA n8 n' m5 m' := FA.net (fun K c => kK K (fun w => c (by rw [w]; decide))) (by rw [kK 6 (by decide)]) hS (fun f a _ _ _ _ _ _ => x7 f a)
    have C' : CI As Bs A B (G + 6) n' m' := ⟨jA', ⟨by rw [kK 0 (by decide)]; exact b3.2.1.1, by rw [kK 6 (by decide)]; exact b3.2.1.2⟩, C5.2.2.fp C5.1.born (FP.of (fun g a b => x7 g (by omega)))⟩
    have fc8 : FC n n8 m5 m5 := b7.trans (FC.k0 (fun _ _ _ _ => rfl) (fun _ _ => rfl) (fun g a b => (y10 g (by simp only [List.mem_cons, List.not_mem_nil, or_false, not_or]; omega)).symm) (fun g a => (y10 g (by simp only [List.mem_cons, List.not_mem_nil, or_false, not_or]; omega)).symm) (.inr (by rw [y10 126 (by decide)])))
    have fc' : FC n n' m5 m' := fc8.trans fA'.fc
    obtain ⟨_, mB, _, g2, g3, _, _, g6, _, g8, _⟩ := begin_both C'
    have yB : ∀ g, g ∉ [152, 153, 154, 158, 163] → mB g = m' g := g8
    have jB : JA As Bs A B 0 (G + 6) n' mB := jA'.cg (fun _ _ _ _ => rfl) (fun _ _ => rfl) (fun _ _ => rfl) (fun g hg => yB g (fun w => hg (by simp only [List.mem_cons, List.not_mem_nil, or_false] at w ⊢; omega)))
    have fcB : FC n' n' m' mB := FC.k0 (fun _ _ _ _ => rfl) (fun _ _ => rfl) (fun g a b => yB g (by simp only [List.mem_cons, List.not_mem_nil, or_false, not_or]; omega)) (fun g a => yB g (by simp only [List.mem_cons, List.not_mem_nil, or_false, not_or]; omega)) (.inr (by rw [yB 126 (by decide)]))
    have nB : NIB mB := C'.2.2.fp C'.1.born (FP.of (fun g a b => yB g (by simp only [List.mem_cons, List.not_mem_nil, or_false, not_or]; omega)))
    have bB : BUD n' mB := by
      have := b4.1
      unfold BUD
      rw [kK 0 (by decide), g6.2.2.1, g6.2.2.2.2]
      rw [b6.2.2.2.2] at this
      exact ⟨this, by decide, .inl ⟨rfl, by decide⟩⟩
    have wB : WYE As Bs A B (G + 6) n' mB := by
      refine ⟨jB, bB, C'.2.1, ⟨.inl g6.2.2.2.1, g6.1, g6.2.1⟩, .inr ⟨?_, ?_, ?_⟩, nB⟩
      · rw [kK 4 (by decide), kK 0 (by decide), b5.2.2.2.2, b5.1]; exact Int.le_refl _
      · rw [kK 0 (by decide), b5.2.2.1, b5.2.1]; exact Int.le_refl _
      · rw [kK 0 (by decide)]; exact b5.2.2.2.1
    have eAim : N_Net_aim (n8 4 605 1) 0 (n8 4 605 2) n8 = if z = 0 then some (0, n') else (N_Net_setOff n').bind fun n15 => some (1, n15) := by
      unfold N_Net_aim ty
      rw [if_pos hty, show n8 4 605 2 = m5 3 0 by rw [r605]; exact hsz, x1]
      rfl
    have eRes : N_Y_resolve0 m5 = some (z, m') := by
      unfold N_Y_resolve0
      rw [x2]; rfl
    have eH : ∀ n2 (w : Int), N_Net_aim (n8 4 605 1) 0 (n8 4 605 2) n8 = some (w, n2) → N_H_visit n = if w = 0 then nk_H_visit_46 (-1) n2 else nk_H_visit_46 1 n2 := fun n2 w e => by
      unfold N_H_visit
      rw [c1]
      simp only [Option.bind_some]
      rw [if_pos trivial, b1]
      simp only [Option.bind_some]
      unfold nn
      rw [if_pos hb5.2.1.1, e]
      rfl
    have eV : N_Y_visit m = if z = 0 then some (-1, m') else (N_Y_begin m').bind fun m19 => (N_Y_visitResult m19).bind fun m23 => (N_Y_settle m23).bind fun m27 => some (1, m27) := by
      unfold N_Y_visit
      rw [c2]
      simp only [Option.bind_some, u2]
      rw [if_pos (by decide), eRes]
      rfl
    rcases x3 with hz | ⟨hz, hAR⟩
    · rw [if_pos hz] at eAim eV
      have e1 := eH n' 0 eAim
      rw [if_pos rfl] at e1
      obtain ⟨n3, k1, k2⟩ := tape_fin (r := -1) (C'.mono (G' := G + 470000) (by omega)) (O5.fc fc') (by rw [fc'.2.1 1 (by omega)]; exact m1) (z5.trans fc'.fz)
      refine ⟨-1, n3, m', ?_, eV, k2⟩
      rw [e1]
      unfold nk_H_visit_46
      have eS : N_Acts_settle n' = some n' := by
        have : N_Acts_settle n' = stl (NL_Acts_settle_2 0 n') := rfl
        rw [this]; exact stl_end wB (by decide)
      rw [eS]
      exact k1
    · rw [if_neg (by omega)] at eAim eV
      rw [g2] at eV
      simp only [Option.bind_some] at eV
      obtain ⟨κ2, N2, o2, e2, p2, h2, _⟩ := id jB
      have hAR2 : AR n' mB 1584 0 := hAR.fq (FQ.refl As Bs (fun _ => False) n') h84 (fun h => h.elim) (RwE.of (yB 6 (by decide)) (yB 7 (by decide)) (yB 8 (by decide)))
      rcases setOff_both h2 hAR2 with ⟨n2, m2, y1, y2, y3, y4, y5, y6, y7, y8, y9⟩ | ⟨y1, y2⟩
      · rw [y1] at eAim
        simp only [Option.bind_some] at eAim
        rw [y2] at eV
        simp only [Option.bind_some] at eV
        have e1 := eH n2 1 eAim
        rw [if_neg (by decide)] at e1
        have k2' : ∀ K, K ≠ 6 → K ≠ 27 → K ≠ 99 → n2 K = n' K := y6
        have j2 : JA As Bs A B 0 (G + 12) n2 m2 := (jB.net y3 (fun K c => y6 K (fun w => c (by rw [w]; decide)) (fun w => c (by rw [w]; decide)) (fun w => c (by rw [w]; decide))) (y7 8 (by decide) (by decide)) (y8.wid (fun _ h => h.elim)) (fun f hf => y9 f (by simp only [List.mem_cons, List.not_mem_nil, or_false, not_or]; omega)) (by rw [y9 35 (by decide)]; omega)).mono (by omega)
        have f2 : FA n' n2 mB m2 := FA.net (fun K c => y6 K (fun w => c (by rw [w]; decide)) (fun w => c (by rw [w]; decide)) (fun w => c (by rw [w]; decide))) y4 (y8.wid (fun _ h => h.elim)) (fun f a _ _ _ _ b c => y9 f (by simp only [List.mem_cons, List.not_mem_nil, or_false, not_or]; omega))
        have ym : ∀ g, 150 ≤ g → m2 g = mB g := fun g hg => y9 g (by simp only [List.mem_cons, List.not_mem_nil, or_false, not_or]; omega)
        have w2 : WYE As Bs A B (G + 12) n2 m2 := by
          obtain ⟨_, q2, q3, q4, q5, q6⟩ := wB
          refine ⟨j2, ?_, ⟨by rw [k2' 0 (by decide) (by decide) (by decide)]; exact q3.1, by rw [y4]; exact q3.2⟩, by rw [ym 163 (by decide), ym 152 (by decide), ym 153 (by decide)]; exact q4, by rw [ym 154 (by decide), k2' 4 (by decide) (by decide) (by decide), k2' 0 (by decide) (by decide) (by decide)]; exact q5, q6.fp jB.born f2.fp⟩
          unfold BUD at *
          rw [k2' 0 (by decide) (by decide) (by decide), ym 158 (by decide), ym 154 (by decide)]; exact q2
        have e158 : m2 158 0 = 0 := by rw [ym 158 (by decide)]; exact g6.2.2.2.2
        obtain ⟨n3, m3, s1, s2, s3, s4, s5⟩ := settle_fin (.inl w2) (c := 0) ⟨Int.le_refl _, by omega⟩ (by omega)
        rw [s2] at eV
        have fcE : FC n n3 m5 m3 := ((fc'.trans fcB).trans f2.fc).trans s3
        obtain ⟨n4, k1, k2⟩ := tape_fin (r := 1) (s4.ci.mono (G' := G + 470000) (by omega)) (O5.fc fcE) (by rw [fcE.2.1 1 (by omega)]; exact m1) (z5.trans fcE.fz)
        refine ⟨1, n4, m3, ?_, eV, k2⟩
        rw [e1]
        unfold nk_H_visit_46
        have eS : N_Acts_settle n2 = some n3 := by
          have : N_Acts_settle n2 = stl (NL_Acts_settle_2 0 n2) := rfl
          rw [this]; exact s1
        rw [eS]
        exact k1
      · rw [y1] at eAim
        simp only [Option.bind_some] at eAim
        have e1 := eH (nw n' 6 0 16 1) 1 eAim
        rw [if_neg (by decide)] at e1
        have kg : ∀ K, K ≠ 6 → nw n' 6 0 16 1 K = n' K := fun K hK => nw_nK hK
        have jg : JA As Bs A B 0 (G + 6) (nw n' 6 0 16 1) mB := jB.cg (fun K _ b _ => kg K b) (fun s _ => by rw [kg 0 (by decide)]) (fun s hs => nw_ns hs) (fun _ _ => rfl)
        obtain ⟨n3, ma, m3, s1, s2, s3, s4, s5⟩ := load_settle jg (by unfold BUD at *; rw [kg 0 (by decide)]; exact bB) (by rw [kg 0 (by decide)]; exact C'.2.1.1) (.inl nw_eq) (.inl g6.2.2.2.1) (hAR2.ks (kg 99 (by decide))) (by omega) g6.2.2.2.2
        rw [if_pos nw_eq] at s2
        rw [y2, s2] at eV
        simp only [Option.bind_some] at eV
        rw [s3] at eV
        have fcg : FC n' (nw n' 6 0 16 1) mB mB := FC.k0 (fun K _ b _ => kg K b) (fun s _ => by rw [kg 0 (by decide)]) (fun _ _ _ => rfl) (fun _ _ => rfl) (.inr rfl)
        have fcE : FC n n3 m5 m3 := ((fc'.trans fcB).trans fcg).trans s4
        obtain ⟨n4, k1, k2⟩ := tape_fin (r := 1) (s5.mono (G' := G + 470000) (by omega)) (O5.fc fcE) (by rw [fcE.2.1 1 (by omega)]; exact m1) (z5.trans fcE.fz)
        refine ⟨1, n4, m3, ?_, eV, k2⟩
        rw [e1]
        unfold nk_H_visit_46
        have eS : N_Acts_settle (nw n' 6 0 16 1) = some n3 := by
          have : N_Acts_settle (nw n' 6 0 16 1) = stl (NL_Acts_settle_2 0 (nw n' 6 0 16 1)) := rfl
          rw [this]; exact s1
        rw [eS]
        exact k1
theorem call_history (hC : CI As Bs A B G n m) (hO : JOut n m) (hG : G < 370000000) (hv : -2147483648 ≤ v ∧ v ≤ 2147483647) :
    ∃ r n' m', N_H_history v n = some (r, n') ∧ N_Y_history v m = some (r, m') ∧ CI As Bs A B (G + 470000) n' m' ∧ JOut n' m' ∧ FC n n' m m' := by
  obtain ⟨n3, m8, b1, b2, b3, b4, b5, b6, b7, b8, b9, b10, b11, b12, b13⟩ := begin_both hC
  have y8 : ∀ g, g ∉ [152, 153, 154, 158, 163] → m8 g = m g := b8
  obtain ⟨κ, N, o, e, p, ⟨hJe, hH, hP⟩, _⟩ := id b3.1
  obtain ⟨t1, t2, t3, t4⟩ := id hH
  have e18 : n3 6 0 18 = m 148 0 := by rw [t1.1, y8 148 (by decide)]
  have e19 : n3 6 0 19 = m 149 0 := by rw [t1.2.1, y8 149 (by decide)]
  have hr : 0 ≤ m 149 0 ∧ m 149 0 < m 148 0 ∧ m 148 0 ≤ 20 := by
    have := t1.2.2
    rw [y8 148 (by decide), y8 149 (by decide)] at this; exact this
  have eM0 : ¬ (0 ≤ m 149 0 + v ∧ m 149 0 + v < m 148 0) → N_Net_move v n3 = some (0, n3) ∧ N_Y_history v m = some (-1, m) := fun h => by
    have hL : ∀ {α : Type} (x : Option α), ckL (m 149 0 + v) x = x := fun x => by unfold ckL; rw [if_pos (by omega)]
    unfold N_Net_move N_Y_history
    rw [e19, e18]
    simp only [hL]
    by_cases u : m 149 0 + v < 0
    · simp only [if_pos u]; exact ⟨trivial, trivial⟩
    · simp only [if_neg u, if_neg (show ¬ m 149 0 + v < m 148 0 by omega)]; exact ⟨trivial, trivial⟩
  by_cases hin : 0 ≤ m 149 0 + v ∧ m 149 0 + v < m 148 0
  · generalize hi : m 149 0 + v = i at *
    generalize hn9 : nw n3 6 0 19 i = n9
    have k9 : ∀ K, K ≠ 6 → n9 K = n3 K := fun K hK => by rw [← hn9, nw_nK hK]
    have s9 : ∀ s, s ≠ 19 → n9 6 0 s = n3 6 0 s := fun s hs => by rw [← hn9, nw_ns hs]
    have e199 : n9 6 0 19 = i := by rw [← hn9, nw_eq]
    generalize hm13 : yw m8 149 0 i = m13
    have y13 : ∀ g, g ≠ 149 → m13 g = m8 g := fun g hg => by rw [← hm13, yw_nF hg]
    have e149 : m13 149 0 = i := by rw [← hm13, yw_eq]
    have hA := hJe.2.1.1
    have hbs := hJe.2.1.2.1
    have h84 := hJe.2.1.2.2.1.2.2.1
    have h82 := hJe.2.1.2.2.1.2.1
    have hB3 := hJe.1
    obtain ⟨nm, ss, q, mk, hW, hCa, hRa⟩ := t4 i (by omega) (by rw [y8 148 (by decide)]; omega)
    have hhi := t2 i (by omega) (by omega)
    have hB9 : BI A B n9 := hB3.cg (k9 4 (by decide)) (by rw [k9 5 (by decide)]; exact ⟨rfl, rfl⟩) (k9 90 (by decide)) (k9 91 (by decide)) (k9 92 (by decide)) (k9 93 (by decide))
    have fq9 : ∀ W : Int → Prop, FQ As Bs W n3 n9 := fun W => FQ.ks (fun K hK => k9 K (by omega))
    have hA9 := hA.fq (fq9 (fun _ => False))
    have hb9 := hbs.fq (fq9 (fun _ => False))
    have hC9 : CA n9 (n3 27 0 i) nm ss q mk := by unfold CA at *; rw [k9 99 (by decide)]; exact hCa
    obtain ⟨n20, ec, s, t', hs0, en, hCs⟩ := c_copy hA9 h84 hhi.1 (by omega) hC9 hW
    obtain ⟨m19, ey, y19⟩ := y_copyRow (m := m13) (to := 0) (fr := 26 + i) (by decide) (by omega) (by omega)
    have hne := (hA9 1584 h84).1.ne
    have fq20 : FQ As Bs (fun x => x = 1584) n9 n20 := by rw [en]; exact FQ.aw hA9 hb9 h84 rfl hs0
    have k20 : ∀ K, K ≠ 99 → n20 K = n9 K := fun K hK => by rw [en]; exact aw_K hK
    have hS20 : FS (fun x => x = 607) n9 n20 := by rw [en]; exact FS.aw hA9 h84 hB9
    have hB20 : BI A B n20 := by rw [en]; exact hB9.aw
    have r13 : ∀ r, RwE m8 m13 r := fun r => RwE.of (y13 6 (by decide)) (y13 7 (by decide)) (y13 8 (by decide))
    have r19 : ∀ r, r ≠ 0 → RwE m8 m19 r := fun r hr => (r13 r).trans (RwE.cp y19 hr)
    have f19 : ∀ g, ¬ (6 ≤ g ∧ g ≤ 8) → g ≠ 149 → m19 g = m8 g := fun g a b => by rw [y19.1 g (by simp only [List.mem_cons, List.not_mem_nil, or_false, not_or]; omega), y13 g b]
    have jN : JNt κ As Bs A B n20 m19 := by
      have fq : FQ As Bs (fun x => x = 1584) n3 n20 := (fq9 _).trans fq20
      refine ⟨hJe.cg hB20 fq ((FQ7.ks (k9 99 (by decide))).trans (fq9 (fun _ => False)) (by rw [en]; exact FQ7.aw hA9 h84)) (fun a ha => by omega) (fun K hK => by rw [k20 K (by omega), k9 K (by omega)]) (fun s hs => by rw [k20 6 (by decide), s9 s (by omega)]) (by rw [en, hA9.bts hB9 h84 (b := 607) (by omega)]; unfold bt; rw [k9 4 (by decide), k9 99 (by decide)]) (fun f a b => f19 f (by omega) (by omega)) (fun r hr => r19 r (by omega)), ⟨⟨?_, ?_, ?_⟩, ?_, ?_, ?_⟩, hP.fq fq h82 (by decide) (r19 1 (by decide))⟩
      · rw [k20 6 (by decide), s9 18 (by decide), t1.1, f19 148 (by decide) (by decide)]
      · rw [k20 6 (by decide), e199, y19.1 149 (by decide), e149]
      · rw [y19.1 149 (by decide), e149, f19 148 (by decide) (by decide), y8 148 (by decide)]; omega
      · rw [k20 27 (by decide), k9 27 (by decide)]; exact t2
      · rw [k20 27 (by decide), k9 27 (by decide)]; exact t3
      · intro j j0 j1
        rw [f19 148 (by decide) (by decide)] at j1
        rw [k20 27 (by decide), k9 27 (by decide)]
        have hj := t2 j j0 (by have := t1.2.2.2.2; omega)
        exact (t4 j j0 j1).fq fq hj.1 (by omega) (r19 _ (by omega))
    have jA : JA As Bs A B 0 (G + 6) n20 m19 := b3.1.net jN (fun K c => by rw [k20 K (fun w => c (by rw [w]; decide)), k9 K (fun w => c (by rw [w]; decide))]) (by rw [k20 6 (by decide), s9 8 (by decide)]) ((FS.ks (k9 4 (by decide)) (k9 99 (by decide))).trans hS20) (fun g hg => f19 g (by omega) (by omega)) (by rw [f19 35 (by decide) (by decide)]; omega)
    have fA : FA n3 n20 m8 m19 := FA.net (fun K c => by rw [k20 K (fun w => c (by rw [w]; decide)), k9 K (fun w => c (by rw [w]; decide))]) (by rw [k20 6 (by decide), s9 16 (by decide)]) ((FS.ks (k9 4 (by decide)) (k9 99 (by decide))).trans hS20) (fun g a _ _ _ _ _ b => f19 g (by omega) b)
    have hAR : AR n20 m19 1584 0 := ⟨nm, ss, q, mk, hW, by unfold CA; rw [en, aw_a hne, hs0, aw_T]; exact hCs, y19.made (hRa.rw hW (r13 _)) hW⟩
    have kg : ∀ K, K ≠ 6 → nw n20 6 0 16 2 K = n20 K := fun K hK => nw_nK hK
    have jg : JA As Bs A B 0 (G + 6) (nw n20 6 0 16 2) m19 := jA.cg (fun K _ b _ => kg K b) (fun s _ => by rw [kg 0 (by decide)]) (fun s hs => nw_ns hs) (fun _ _ => rfl)
    have e0 : n20 0 = n3 0 := by rw [k20 0 (by decide), k9 0 (by decide)]
    obtain ⟨n4, ma, m4, s1, s2, s3, s4, s5⟩ := load_settle jg (by unfold BUD at *; rw [kg 0 (by decide), e0, f19 158 (by decide) (by decide), f19 154 (by decide) (by decide)]; exact b4) (by rw [kg 0 (by decide), e0]; exact b3.2.1.1) (.inr nw_eq) (.inl (by rw [f19 163 (by decide) (by decide)]; exact b6.2.2.2.1)) (hAR.ks (kg 99 (by decide))) (by omega) (by rw [f19 158 (by decide) (by decide)]; exact b6.2.2.2.2)
    rw [if_neg (by rw [nw_eq]; decide)] at s2
    have fcg : FC n20 (nw n20 6 0 16 2) m19 m19 := FC.k0 (fun K _ b _ => kg K b) (fun s _ => by rw [kg 0 (by decide)]) (fun _ _ _ => rfl) (fun _ _ => rfl) (.inr rfl)
    have fcE : FC n n4 m m4 := ((b7.trans fA.fc).trans fcg).trans s4
    have eEnd : n4 6 0 19 = m4 149 0 := by
      obtain ⟨_, _, _, _, _, ⟨_, hH4, _⟩, _⟩ := s5.1
      exact hH4.1.2.1
    refine ⟨n4 6 0 19, n4, m4, ?_, ?_, s5.mono (by omega), hO.fc fcE, fcE⟩
    · unfold N_H_history
      rw [b1]
      simp only [Option.bind_some]
      have eMv : N_Net_move v n3 = some (1, nw n20 6 0 16 2) := by
        unfold N_Net_move ckL ck ix nn ty st
        dsimp only
        rw [e19, hi, e18, if_pos (by omega), if_neg (by omega), if_pos hin.2, if_pos (by omega), hn9, e199, if_pos (by omega), k9 27 (by decide), if_pos (by omega), if_pos (hA9 1584 h84).1.2.1, ec]
        rfl
      rw [eMv]
      simp only [Option.bind_some, u2]
      rw [if_neg (by decide)]
      have eS : N_Acts_settle (nw n20 6 0 16 2) = some n4 := by
        have : N_Acts_settle (nw n20 6 0 16 2) = stl (NL_Acts_settle_2 0 (nw n20 6 0 16 2)) := rfl
        rw [this]; exact s1
      rw [eS]; rfl
    · unfold N_Y_history ckL ck st
      dsimp only
      rw [hi, if_pos (by omega), if_neg (by omega), if_pos hin.2, b2]
      simp only [Option.bind_some]
      rw [if_pos (by omega), hm13, e149, if_pos (by omega), ey]
      simp only [Option.bind_some]
      rw [s2]
      simp only [Option.bind_some]
      rw [s3, eEnd]; rfl
  · obtain ⟨e1, e2⟩ := eM0 hin
    have fc0 : FC n3 n3 m8 m := FC.k0 (fun _ _ _ _ => rfl) (fun _ _ => rfl) (fun g a b => (y8 g (by simp only [List.mem_cons, List.not_mem_nil, or_false, not_or]; omega)).symm) (fun g a => (y8 g (by simp only [List.mem_cons, List.not_mem_nil, or_false, not_or]; omega)).symm) (.inr (by rw [y8 126 (by decide)]))
    have fcE := b7.trans fc0
    refine ⟨-1, n3, m, ?_, e2, ⟨(b3.1.cg (fun _ _ _ _ => rfl) (fun _ _ => rfl) (fun _ _ => rfl) (fun g hg => (y8 g (fun w => hg (by simp only [List.mem_cons, List.not_mem_nil, or_false] at w ⊢; omega))).symm)).mono (by omega), b3.2.1, hC.2.2⟩, hO.fc fcE, fcE⟩
    unfold N_H_history
    rw [b1]
    simp only [Option.bind_some]
    rw [e1]; rfl
end O6
