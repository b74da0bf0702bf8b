/-! DEFAULTS: a press on one node -/
def wHref : List Int := [104, 114, 101, 102]
section Q6
variable {n n' n'' n2 : NS} {m m' m'' m0 m2 : YS} {A B N N' k b a δ δ' fr to d L r r' x f v c i M kf G G' c0 WW u0 j : Int} {o e p o' e' p' κ g : Int → Int} {As Bs W S : Int → Prop}
/-- what the reference does at a node that is no TEXT -/
noncomputable def prY (j v : Int) (m : YS) : Option ((Int × Int × YS) ⊕ YS) := if m 46 v = 7 then (N_Y_attributeOf v 202312 m).bind fun z24 => nk_Y_pressed_73 j v z24 m else nk_Y_pressed_73 j v (-1) m
theorem press_one (h : JA As Bs A B 0 G n m) (hN : NIB m) (hT : JTr n m N o e p) (k0 : 0 ≤ k) (k1 : k < N) (hk : o k = v) (hj : 0 ≤ j ∧ j < 120) (hG : G < 1000000000) :
    (N_Acts_pressOn v n = some (0, n) ∧ prY j v m = some (.inl (0, j + 1, m)))
    ∨ ∃ X Y, DFR As Bs A B G n m X Y ∧ N_Acts_pressOn v n = X.bind (fun n' => some (1, n')) ∧ prY j v m = Y.bind (fun m' => some (.inl (1, j + 1, m'))) := by
  have hvb := hT.1.1.1.oB k0 k1
  rw [hk] at hvb
  have hd := hT.1.2.2.2 k k0 k1
  rw [hk] at hd
  have h46 := hd.1.1
  have hix : ∀ {α : Type} (x : Option α), ix v 120 x = x := fun x => by unfold ix; rw [if_pos hvb]
  have hck : ∀ {α : Type} (x : Option α), ck (j + 1) x = x := fun x => by unfold ck; rw [if_pos (by omega)]
  unfold N_Acts_pressOn prY
  rw [hix, h46]
  by_cases h7 : m 46 v = 7
  · rw [if_pos h7, if_pos h7]
    have f0 := fnd_b (m := m) (f := v) (w := wHref)
    have epk : N_Bytes_pack_1 1000031 n = some (pk wHref) := cs_packW okS31 (by decide) (by decide)
    have er : N_Node_read v 1000031 n = some (if fnd m v wHref < m 56 v then 5 * v + 1 + fnd m v wHref else -1) := by
      unfold N_Node_read
      rw [epk]
      simp only [Option.bind_some]
      rw [c_find hd (by decide : ∀ c ∈ wHref, isBt c)]
      simp only [Option.bind_some]
      split
      · rw [if_neg (by omega)]
      · rw [if_pos (by decide)]
    rw [er, y_find hd hvb (by decide), show wl 202312 = wHref by decide]
    simp only [Option.bind_some]
    by_cases hf : fnd m v wHref < m 56 v
    · have h4 := hd.2.2.1.2.2
      obtain ⟨x1, x2, x3, x4, x5⟩ := attr_tx h.bi hd hvb ⟨f0, hf⟩
      have hD := aim_off (a := fnd m v wHref) h hT k0 k1 hk ⟨f0, hf⟩
      refine .inr ⟨_, _, hD, ?_, ?_⟩
      · rw [if_pos hf, if_neg (by omega)]
        unfold nn
        rw [if_pos x5]
        cases N_Net_aim (n 4 (5 * v + 1 + fnd m v wHref) 1) 0 (n 4 (5 * v + 1 + fnd m v wHref) 2) n with
        | none => rfl
        | some q =>
          obtain ⟨q1, q2⟩ := q
          show nk_Acts_pressOn_48 (5 * v + 1 + fnd m v wHref) q2 = some (1, q2)
          unfold nk_Acts_pressOn_48
          rw [if_neg (by omega)]
      · rw [if_pos hf]
        have hix4 : ∀ {α : Type} (x : Option α), ix (4 * v + fnd m v wHref) 480 x = x := fun x => by unfold ix; rw [if_pos (by omega)]
        have hck4 : ∀ {α : Type} (x : Option α), ck (60 * (4 * v + fnd m v wHref)) x = x := fun x => by unfold ck; rw [if_pos (by omega)]
        have hck5 : ∀ {α : Type} (x : Option α), ck (60 * (4 * v + fnd m v wHref) + m 60 (4 * v + fnd m v wHref)) x = x := fun x => by unfold ck; rw [if_pos (by omega)]
        unfold nk_Y_pressed_73
        rw [hix, if_neg (show ¬ m 46 v = 14 by omega)]
        unfold nk_Y_pressed_95
        rw [if_neg (show ¬ 4 * v + fnd m v wHref = -1 by omega)]
        unfold nk_Y_pressed_120 nk_Y_pressed_125
        rw [if_neg (show ¬ 4 * v + fnd m v wHref = -1 by omega)]
        simp only [hix4, hck4, hck5, hck]
        cases N_Y_refer 59 (60 * (4 * v + fnd m v wHref)) (60 * (4 * v + fnd m v wHref) + m 60 (4 * v + fnd m v wHref)) 1 m with
        | none => rfl
        | some q =>
          obtain ⟨q1, q2⟩ := q
          simp only [Option.bind_some, u2]
          by_cases hq : q1 = 0
          · rw [if_pos hq, if_pos hq]; rfl
          · rw [if_neg hq, if_neg hq]
    · refine .inl ⟨?_, ?_⟩
      · rw [if_neg hf, if_pos (by decide)]
        unfold nk_Acts_pressOn_48
        rw [if_pos (by decide)]
      · rw [if_neg hf]
        unfold nk_Y_pressed_73
        rw [hix, if_neg (show ¬ m 46 v = 14 by omega)]
        unfold nk_Y_pressed_95
        rw [if_pos rfl, hix, if_neg (show ¬ m 46 v = 13 by omega), if_pos rfl]
        unfold nk_Y_pressed_125
        rw [if_pos rfl, hix, if_neg (show ¬ m 46 v = 13 by omega)]
        unfold nk_Y_pressed_211
        rw [hix, if_neg (show ¬ m 46 v = 13 by omega), if_pos rfl, hck]
  · rw [if_neg h7, if_neg h7]
    by_cases h13 : m 46 v = 13
    · rw [if_pos h13]
      have q := hd.2.2.2.2.2.1 h13
      obtain ⟨ck', eck, hck'⟩ := y_isCheck (f := v) ⟨hd.2.2.1, hd.2.2.2.1⟩ hvb h13
      have eY : nk_Y_pressed_73 j v (-1) m = if ck' = 0 then nk_Y_pressed_211 1 j v (-1) m else if m 66 v = 0 then nk_Y_pressed_207 1 j 1 v m else nk_Y_pressed_207 1 j 0 v m := by
        unfold nk_Y_pressed_73
        rw [hix, if_neg (show ¬ m 46 v = 14 by omega)]
        unfold nk_Y_pressed_95
        rw [if_pos rfl, hix, if_pos h13]
        unfold nk_Y_pressed_120 nk_Y_pressed_125
        rw [if_pos rfl, hix, if_pos h13, eck]
        simp only [Option.bind_some, hix]
      rw [eY]
      have e15 := q.2.2.2.2.2
      have e16 := q.2.2.2.1
      have h66 := q.2.2.2.2.1
      rw [e16]
      by_cases hc : n 7 v 15 = 0
      · have hc' : ck' = 0 := by
          rcases e15 with ⟨y, _⟩ | ⟨_, y⟩
          · omega
          · rcases hck' with ⟨_, w⟩ | ⟨w, _⟩
            · exact absurd w y
            · exact w
        rw [if_pos hc, if_pos hc']
        obtain ⟨g1, g2, g3⟩ := h.foc hT k0 k1 hk h13 hG
        refine .inr ⟨some _, some _, .inl ⟨_, _, rfl, rfl, g2.mono (by omega), g3⟩, ?_, ?_⟩
        · rw [g1]; rfl
        · unfold nk_Y_pressed_211
          rw [hix, if_pos h13]
          unfold st
          dsimp only
          rw [hix, yw_nF (show (55 : Nat) ≠ 150 by decide), hck]; rfl
      · have hc' : ¬ ck' = 0 := by
          rcases e15 with ⟨_, y⟩ | ⟨y, _⟩
          · rcases hck' with ⟨w, _⟩ | ⟨_, w⟩
            · omega
            · exact absurd y w
          · omega
        rw [if_neg hc, if_neg hc']
        have tog : ∀ x, x = 0 ∨ x = 1 → ∃ X Y, DFR As Bs A B G n m X Y ∧ nk_Acts_pressOn_87 x v n = X.bind (fun n' => some (1, n')) ∧ nk_Y_pressed_207 1 j x v m = Y.bind (fun m' => some (Sum.inl (1, j + 1, m'))) := fun x hx => by
          obtain ⟨g1, g2⟩ := h.tick hT k0 k1 hk h13 hx
          refine ⟨some _, some _, .inl ⟨_, _, rfl, rfl, g1.mono (by omega), g2⟩, ?_, ?_⟩
          · unfold nk_Acts_pressOn_87 cz st
            rw [if_pos (by omega)]; rfl
          · unfold nk_Y_pressed_207 cz st
            dsimp only
            rw [if_pos (by omega), hix, hck]; rfl
        by_cases h0 : m 66 v = 0
        · rw [if_pos h0, if_pos h0]; exact .inr (tog 1 (.inr rfl))
        · rw [if_neg h0, if_neg h0]; exact .inr (tog 0 (.inl rfl))
    · rw [if_neg h13]
      have none211 : nk_Y_pressed_125 j v (-1) (-1) 0 m = some (.inl (0, j + 1, m)) := by
        unfold nk_Y_pressed_125
        rw [if_pos rfl, hix, if_neg h13]
        unfold nk_Y_pressed_211
        rw [hix, if_neg h13, if_pos rfl, hck]
      by_cases h14 : m 46 v = 14
      · rw [if_pos h14]
        obtain ⟨r, e1, e2, e3⟩ := form_both hT.1 k0 k1 (by rw [hk]; omega)
        rw [hk] at e1 e2
        have eY : nk_Y_pressed_73 j v (-1) m = if r = -1 then nk_Y_pressed_125 j v (-1) r 0 m else nk_Y_pressed_125 j v (-1) r 1 m := by
          unfold nk_Y_pressed_73
          rw [hix, if_pos h14, e1]
          simp only [Option.bind_some]
          unfold nk_Y_pressed_95
          rw [if_pos rfl, hix, if_neg h13]
          rfl
        rw [e2, eY]
        simp only [Option.bind_some]
        unfold nk_Acts_pressOn_129
        rcases e3 with hr | ⟨i, i0, i1, hi, _⟩
        · rw [if_pos hr, if_pos hr, hr]
          refine .inl ⟨?_, none211⟩
          unfold nk_Acts_pressOn_140
          rw [if_pos rfl]
        · have hib := hT.1.1.1.oB i0 i1
          rw [if_neg (by omega), if_neg (by omega), ← hi]
          refine .inr ⟨_, _, (send_both h hT i0 i1 hN).dfr, ?_, ?_⟩
          · cases N_Acts_send (o i) n with
            | none => rfl
            | some q =>
              show nk_Acts_pressOn_140 (o i) q = some (1, q)
              unfold nk_Acts_pressOn_140
              rw [if_neg (by omega)]
          · unfold nk_Y_pressed_125
            rw [if_pos rfl, hix, if_neg h13]
            unfold nk_Y_pressed_211
            rw [hix, if_neg h13, if_neg (by omega)]
            simp only [hck]
      · rw [if_neg h14]
        refine .inl ⟨?_, ?_⟩
        · unfold nk_Acts_pressOn_129 nk_Acts_pressOn_140
          rw [if_pos rfl, if_pos rfl]
        · unfold nk_Y_pressed_73
          rw [hix, if_neg h14]
          unfold nk_Y_pressed_95
          rw [if_pos rfl, hix, if_neg h13, if_pos rfl]
          exact none211
end Q6
