/-! A STEP, in both: all of it -/
section N5
variable {n n' n'' : NS} {m m' m'' : YS} {A B N N' k v b a δ δ' G G' fr to d L r r' q : Int} {o e p o' e' p' : Int → Int} {As Bs W S : Int → Prop} {κ κ' : Int → Int} {X : Option (Int × NS)} {Y : Option (Int × YS)}
theorem yw_id {F : Nat} {i v : Int} (h : m F i = v) : yw m F i v = m := by
  funext a b
  rw [yw_app]
  split
  · rename_i w; rw [w.1, w.2, h]
  · rfl
theorem step_both (h : JA As Bs A B δ G n m) (hG : G < 600000000) (hR : JRn n m) (hn17 : n 0 0 17 = -1) (hf : 0 ≤ fr ∧ fr < to ∧ to ≤ m 160 0) (h163 : m 163 0 = 0 ∨ m 163 0 = 1) :
    STP As Bs A B δ G n m (N_Acts_runStep (n 4 609 1) fr to n) (N_Y_step fr to m) := by
  have hR0 := hR
  obtain ⟨r1, r2, r3, r4, r5⟩ := hR
  have eB := c_blankAt (fr := fr) (to := to) r2 ⟨hf.1, by omega, hf.2.2, r1.2.2⟩
  have hsb : fr ≤ bkA (m 159) fr to ∧ bkA (m 159) fr to ≤ to := by unfold bkA; exact ⟨scx_ge _ _, scx_le (by omega)⟩
  have hkb : fr ≤ skA (m 159) fr to ∧ skA (m 159) fr to ≤ to := by unfold skA; exact ⟨scx_ge _ _, scx_le (by omega)⟩
  obtain ⟨c, eW, hc⟩ := c_what r2 (fr := fr) (to := bkA (m 159) fr to) ⟨hf.1, hsb.1, by omega, r1.2.2⟩
  have eS := y_small2 (m := m) (fr := fr) (to := to) ⟨hf.1, by omega, by omega⟩
  obtain ⟨c', eO, hc'⟩ := y_op (m := m) (fr := fr) (k := skA (m 159) fr to) (to := to) ⟨hf.1, hkb.1, hkb.2, by omega⟩
  have hh := head (g := m 159) hf.2.1 rfl rfl hc hc'
  unfold N_Acts_runStep N_Y_step
  rw [eB, eS]
  simp only [Option.bind_some]
  unfold nk_Y_step_25
  rw [eW, eO]
  simp only [Option.bind_some]
  generalize hs : bkA (m 159) fr to = s at *
  generalize hk : skA (m 159) fr to = k at *
  have stay : ∀ w, (w = 0 ∧ m 163 0 = 0) ∨ (w = 1 ∧ m 163 0 = 1) → nk_Y_step_112 to k w m = if k = to then some (1, m) else some (0, m) := fun w hw => by
    have e1 : yw m 163 0 w = m := yw_id (by omega)
    unfold nk_Y_step_112 cz st
    rw [if_pos (by omega), e1]
  have SD : ∀ {X Y}, SND As Bs A B δ G n m X Y → STP As Bs A B δ G n m X Y := fun h => .inl h
  rcases hh with ⟨a1, a2, a3, a4, a5⟩ | ⟨b1, b2⟩
  · subst a2
    subst a3
    by_cases h10 : c' = 10
    · rw [if_pos h10, if_neg a1, if_pos h10]
      by_cases hto : k = to
      · refine .inr ⟨?_, ?_⟩
        · rw [if_pos hto]
          unfold nk_Acts_runStep_52 st
          dsimp only
          rw [if_pos hto, if_pos hto]
          by_cases h18 : n 0 0 18 = 0
          · rw [if_pos h18, if_pos h18]
          · rw [if_neg h18, if_neg h18, nw_ns (by decide)]
        · have e107 : nk_Y_step_107 to k m = some (1, yw m 163 0 1) := by
            unfold nk_Y_step_107 nk_Y_step_112 cz st
            dsimp only
            rw [if_pos (by decide), if_pos hto]
          rw [if_pos hto, e107]
          split <;> rfl
      · refine SD (SND.mk (r := 0) (n' := n) (m' := m) h (FA.refl n m) (.inl rfl) ?_ ?_)
        · rw [if_neg hto]
          unfold nk_Acts_runStep_52
          rw [if_neg hto]
        · rcases h163 with y | y
          · rw [if_pos y, if_neg hto, stay 0 (.inl ⟨rfl, y⟩), if_neg hto]
          · rw [if_neg (by omega)]
            unfold nk_Y_step_107
            rw [stay 1 (.inr ⟨rfl, y⟩), if_neg hto]
    · rw [if_neg h10, if_neg a1, if_neg a1, if_neg h10]
      by_cases hto : k = to
      · rw [if_pos hto, if_pos hto]
        exact SD (SND.mk (r := 0) (n' := n) (m' := m) h (FA.refl n m) (.inl rfl) rfl rfl)
      · rw [if_neg hto, if_neg hto]
        have hlt : k < to := by omega
        have ixE : ∀ {α : Type} (x : Option α), ix k 2000 x = x := fun x => by unfold ix; rw [if_pos (by omega)]
        have ckE : ∀ {α : Type} (x : Option α), ck (k + 1) x = x := fun x => by unfold ck; rw [if_pos (by omega)]
        simp only [ixE, if_pos (a4.resolve_left hto), ckE]
        have hq : 0 ≤ k + 1 ∧ k + 1 ≤ to ∧ to ≤ m 160 0 := by omega
        have hcb : 0 ≤ c' ∧ c' < 11 := by
          rcases hc' with y | y
          · exact absurd y.1 a1
          · exact y.1
        by_cases h5 : c' = 5
        · rw [if_pos h5, if_pos h5]
          rcases opGo h hR0 hq with y | y
          · exact SD (.inl y)
          · exact SD (.inr (.inr y))
        · rw [if_neg h5, if_neg h5]
          by_cases h9 : c' = 9
          · rw [if_neg (show ¬ c' = 6 by omega), if_neg (show ¬ c' = 7 by omega), if_neg (show ¬ c' = 8 by omega), if_pos h9, if_pos h9]
            have := opWait h hG hR0 hq
            have e1 : ∀ (x : Option (Int × NS)), x.bind (u2 fun z49 n52 => some (z49, n52)) = x := fun x => by cases x <;> rfl
            have e2 : ∀ (x : Option (Int × YS)), x.bind (u2 fun z49 n52 => some (z49, n52)) = x := fun x => by cases x <;> rfl
            rw [e1, e2]
            exact SD (.inl (DON.mono this (show G ≤ G + 6 by omega)))
          · simp only [if_neg h9]
            by_cases h7 : c' = 7
            · rw [if_neg (show ¬ c' = 6 by omega), if_pos h7]
              have := opPut h hR0 hq
              have e1 : ∀ (x : Option (Int × NS)), x.bind (u2 fun z49 n52 => some (z49, n52)) = x := fun x => by cases x <;> rfl
              have e2 : ∀ (x : Option (Int × YS)), x.bind (u2 fun z49 n52 => some (z49, n52)) = x := fun x => by cases x <;> rfl
              have eE := ys_nameEnd (f := 159) (i := k + 1) (to := to) (m := m) (by show _ ≤ (2000 : Int); omega) (by omega) (by omega) (by omega)
              rw [e1, eE]
              simp only [Option.bind_some]
              rw [if_pos h7, e2]
              exact SD (.inl (DON.mono this (show G ≤ G + 6 by omega)))
            · have := step_node h hG hR0 hn17 hq (r := c') (by omega)
              have e154 : nk_Acts_runStep_154 (n 4 609 1) to k c' n = N_Acts_runOnNode c' (n 4 609 1) (k + 1) to n := by
                unfold nk_Acts_runStep_154
                rw [ckE]
                cases N_Acts_runOnNode c' (n 4 609 1) (k + 1) to n <;> rfl
              have eX : (if c' = 6 then nk_Acts_runStep_154 (n 4 609 1) to k c' n else if c' = 7 then ((N_Acts_runPut (n 4 609 1) (k + 1) to n).bind (u2 fun z40 n43 => some (z40, n43))) else if c' = 8 then nk_Acts_runStep_154 (n 4 609 1) to k c' n else nk_Acts_runStep_154 (n 4 609 1) to k c' n) = N_Acts_runOnNode c' (n 4 609 1) (k + 1) to n := by
                rw [if_neg h7, e154]
                split
                · rfl
                · split <;> rfl
              rw [eX]
              exact SD this
  · rw [if_neg (by omega), if_pos b1]
    refine SD (SND.mk (r := 0) (n' := n) (m' := m) h (FA.refl n m) (.inl rfl) rfl ?_)
    rcases b2 with y | ⟨y1, y2⟩
    · rw [if_pos y]
    · by_cases z1 : c' = -1
      · rw [if_pos z1]
      · rw [if_neg z1]
        by_cases z2 : c' = 10
        · rw [if_pos z2]
          rcases h163 with y | y
          · rw [if_pos y, if_neg (show ¬ k = to by omega), stay 0 (.inl ⟨rfl, y⟩), if_neg (by omega)]
          · rw [if_neg (by omega)]
            unfold nk_Y_step_107
            rw [stay 1 (.inr ⟨rfl, y⟩), if_neg (by omega)]
        · rw [if_neg z2, if_neg (show ¬ k = to by omega)]
          unfold ix
          rw [if_pos (by omega), if_neg y2]
end N5
