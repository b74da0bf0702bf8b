/-! DEFAULTS: a press, along the way -/
section Q7
variable {n n' n'' n2 : NS} {m m' m'' m0 m2 : YS} {A B N N' k b a δ δ' fr to d L r r' x f v c M kf G G' c0 WW u0 j : Int} {o e p o' e' p' κ g : Int → Int} {As Bs W S : Int → Prop}
theorem press_loop (h : JA As Bs A B 0 G n m) (hN : NIB m) (hG : G < 1000000000) (h16 : n 0 0 16 = m 181 0 ∧ 0 ≤ m 181 0 ∧ m 181 0 ≤ 120) (hp : ∀ j, 0 ≤ j → j < m 181 0 → MkR (n 46 0 j) (m 179 j) (m 180 j)) : ∀ (z : Nat) (i : Int), (m 181 0 - i).toNat ≤ z → 0 ≤ i → i ≤ m 181 0 → ∃ X Y, DFR As Bs A B G n m X Y ∧ NL_Acts_doDefault_32 0 i n = X ∧ NL_Y_pressed_9 0 i m = Y := by
  have fin : ∀ i, ¬ i < m 181 0 → ∃ X Y, DFR As Bs A B G n m X Y ∧ NL_Acts_doDefault_32 0 i n = X ∧ NL_Y_pressed_9 0 i m = Y := fun i hi => by
    refine ⟨some n, some m, .inl ⟨n, m, rfl, rfl, h.mono (by omega), FE.refl n m⟩, ?_, ?_⟩
    · unfold NL_Acts_doDefault_32
      refine it_inr (f := fun s : Int × Int × NS => nb_Acts_doDefault_32 s.1 s.2.1 s.2.2) (s := (0, i, n)) ?_
      show nb_Acts_doDefault_32 0 i n = _
      unfold nb_Acts_doDefault_32
      rw [if_neg (by omega)]
    · unfold NL_Y_pressed_9
      refine it_inr (f := fun s : Int × Int × YS => nb_Y_pressed_9 s.1 s.2.1 s.2.2) (s := (0, i, m)) ?_
      show nb_Y_pressed_9 0 i m = _
      unfold nb_Y_pressed_9
      rw [if_neg hi]
  intro z
  induction z with
  | zero => intro i hz i0 i1; exact fin i (by omega)
  | succ z ih =>
    intro i hz i0 i1
    by_cases hlt : i < m 181 0
    · have hM := hp i i0 hlt
      have hvb := hM.2.1
      obtain ⟨κ, N, o, e, p, _, hT, _⟩ := id h
      have eal := c_alive hT.1.1 hM
      have h45 := (hT.1.1.2.2.2.1 _ hvb.1 hvb.2).1
      have hix : ∀ {α : Type} (x : Option α), ix i 120 x = x := fun x => by unfold ix; rw [if_pos (by omega)]
      have hix2 : ∀ {α : Type} (x : Option α), ix (m 179 i) 120 x = x := fun x => by unfold ix; rw [if_pos hvb]
      have hck : ∀ {α : Type} (x : Option α), ck (i + 1) x = x := fun x => by unfold ck; rw [if_pos (by omega)]
      have eth : N_Y_isThere i m = some (if m 45 (m 179 i) = 1 ∧ m 55 (m 179 i) = m 180 i then 1 else 0) := by
        unfold N_Y_isThere
        simp only [hix, hix2]
        rcases h45 with y | y
        · rw [if_neg (by omega)]
          by_cases u : m 55 (m 179 i) = m 180 i
          · rw [if_pos u, if_pos ⟨y, u⟩]
          · rw [if_neg u, if_neg (fun z => u z.2)]
        · rw [if_pos y, if_neg (fun z => by omega)]
      obtain ⟨X, Y, hD, eX, eY⟩ := ih (i + 1) (by omega) (by omega) (by omega)
      have step : nb_Acts_doDefault_32 0 i n = some (.inl (0, i + 1, n)) → nb_Y_pressed_9 0 i m = some (.inl (0, i + 1, m)) → ∃ X Y, DFR As Bs A B G n m X Y ∧ NL_Acts_doDefault_32 0 i n = X ∧ NL_Y_pressed_9 0 i m = Y := fun e1 e2 => by
        refine ⟨X, Y, hD, ?_, ?_⟩
        · rw [← eX]
          unfold NL_Acts_doDefault_32
          exact it_inl (f := fun s : Int × Int × NS => nb_Acts_doDefault_32 s.1 s.2.1 s.2.2) (s := (0, i, n)) e1
        · rw [← eY]
          unfold NL_Y_pressed_9
          exact it_inl (f := fun s : Int × Int × YS => nb_Y_pressed_9 s.1 s.2.1 s.2.2) (s := (0, i, m)) e2
      by_cases hal : m 45 (m 179 i) = 1 ∧ m 55 (m 179 i) = m 180 i
      · rw [if_pos hal] at eal eth
        obtain ⟨k, k0, k1, hk⟩ := (hT.1.1.2.2.2.1 _ hvb.1 hvb.2).2.1.mp hal.1
        have hd := hT.1.2.2.2 k k0 k1
        rw [hk] at hd
        have eC : nb_Acts_doDefault_32 0 i n = (N_Acts_pressOn (m 179 i) n).bind (u2 fun z15 n18 => if z15 = 0 then some (.inl (0, i + 1, n18)) else some (.inl (1, i + 1, n18))) := by
          unfold nb_Acts_doDefault_32
          rw [if_pos (by omega), if_pos rfl, hix, eal]
          simp only [Option.bind_some, hck]
          rw [if_neg (by omega)]
        have eR : nb_Y_pressed_9 0 i m = if m 46 (m 179 i) = 17 then some (.inl (0, i + 1, m)) else prY i (m 179 i) m := by
          unfold nb_Y_pressed_9 prY
          rw [if_pos hlt, if_pos rfl, hix, eth]
          simp only [Option.bind_some, hix2, hck]
          rw [if_neg (by decide)]
        rcases press_one (j := i) h hN hT k0 k1 hk (by omega) hG with ⟨q1, q2⟩ | ⟨X', Y', q1, q2, q3⟩
        · refine step ?_ ?_
          · rw [eC, q1]; rfl
          · rw [eR, q2]
            split <;> rfl
        · have h17 : m 46 (m 179 i) ≠ 17 := fun w => by
            have e17 : N_Acts_pressOn (m 179 i) n = some (0, n) := by
              unfold N_Acts_pressOn nk_Acts_pressOn_129 nk_Acts_pressOn_140
              rw [hix2, hd.1.1, if_neg (by omega), if_neg (by omega), if_neg (by omega), if_pos rfl, if_pos rfl]
            rw [e17] at q2
            cases X' with
            | none => cases q2
            | some y =>
              have w0 : (0 : Int) = 1 := congrArg Prod.fst (Option.some.inj q2)
              omega
          rw [if_neg h17] at eR
          refine ⟨X', Y', q1, ?_, ?_⟩
          · have hs : ∃ n1, X' = some n1 := by
              rcases q1 with ⟨y, _, y1, _⟩ | ⟨y, _, y1, _⟩
              · exact ⟨_, y1⟩
              · exact ⟨_, y1⟩
            obtain ⟨n1, hn1⟩ := hs
            rw [q2, hn1] at eC
            unfold NL_Acts_doDefault_32
            rw [it_inl (f := fun s : Int × Int × NS => nb_Acts_doDefault_32 s.1 s.2.1 s.2.2) (s := (0, i, n)) (s' := (1, i + 1, n1)) eC, hn1]
            refine it_inr (f := fun s : Int × Int × NS => nb_Acts_doDefault_32 s.1 s.2.1 s.2.2) (s := (1, i + 1, n1)) ?_
            show nb_Acts_doDefault_32 1 (i + 1) n1 = _
            unfold nb_Acts_doDefault_32
            split
            · rw [if_neg (by decide)]
            · rfl
          · rw [q3] at eR
            unfold NL_Y_pressed_9
            cases Y' with
            | none =>
              rw [it_eq]
              show (match nb_Y_pressed_9 0 i m with | _ => _) = _
              rw [eR]; rfl
            | some m1 =>
              rw [it_inl (f := fun s : Int × Int × YS => nb_Y_pressed_9 s.1 s.2.1 s.2.2) (s := (0, i, m)) (s' := (1, i + 1, m1)) eR]
              refine it_inr (f := fun s : Int × Int × YS => nb_Y_pressed_9 s.1 s.2.1 s.2.2) (s := (1, i + 1, m1)) ?_
              show nb_Y_pressed_9 1 (i + 1) m1 = _
              unfold nb_Y_pressed_9
              split
              · rw [if_neg (by decide)]
              · rfl
      · rw [if_neg hal] at eal eth
        refine step ?_ ?_
        · unfold nb_Acts_doDefault_32
          rw [if_pos (by omega), if_pos rfl, hix, eal]
          simp only [Option.bind_some, hck]
          rw [if_pos trivial]
        · unfold nb_Y_pressed_9
          rw [if_pos hlt, if_pos rfl, hix, eth]
          simp only [Option.bind_some, hck]
          rw [if_pos trivial]
    · exact fin i hlt
end Q7
