/-! THE CALL key -/
section Q2
variable {n n' n'' n2 : NS} {m m' m'' m0 m2 : YS} {A B N N' k b a δ δ' fr to d L r r' x f v c i M kf G G' c0 WW : Int} {o e p o' e' p' κ g : Int → Int} {As Bs W S : Int → Prop}
def wKey : List Int := [111, 110, 107, 101, 121]
/-- who has the FOCUS, in both -/
theorem focus_both (h : JA As Bs A B δ G n m) : (N_Tree_alive (n 0 0 6) n = some (-1) ∧ N_Y_focused m = some 0) ∨ (N_Tree_alive (n 0 0 6) n = some (m 150 0) ∧ N_Y_focused m = some 1 ∧ MkR (n 0 0 6) (m 150 0) (m 151 0) ∧ (m 45 (m 150 0) = 1 ∧ m 55 (m 150 0) = m 151 0) ∧ m 46 (m 150 0) = 13) := by
  obtain ⟨κ, N, o, e, p, _, hT, _, _, _, _, hF, _⟩ := h
  rcases hF with ⟨f1, f2⟩ | ⟨hM, hI⟩
  · refine .inl ⟨?_, ?_⟩
    · rw [f1]
      unfold N_Tree_alive ck nk_Tree_alive_47 nk_Tree_alive_48
      rw [if_pos (by decide), if_neg (by decide), if_pos rfl]
    · unfold N_Y_focused
      rw [if_pos f2]
  · have hvb := hM.2.1
    have eal := c_alive hT.1.1 hM
    have h45 := (hT.1.1.2.2.2.1 _ hvb.1 hvb.2).1
    have eF : N_Y_focused m = some (if m 45 (m 150 0) = 1 ∧ m 55 (m 150 0) = m 151 0 then 1 else 0) := by
      have hix : ∀ {α : Type} (x : Option α), ix (m 150 0) 120 x = x := fun x => by unfold ix; rw [if_pos hvb]
      unfold N_Y_focused
      rw [if_neg (by omega)]
      simp only [hix]
      rcases h45 with y | y
      · rw [if_neg (by omega)]
        by_cases u : m 55 (m 150 0) = m 151 0
        · rw [if_pos u, if_pos ⟨y, u⟩]
        · rw [if_neg u, if_neg (fun z => u z.2)]
      · rw [if_pos y, if_neg (fun z => by omega)]
    by_cases hal : m 45 (m 150 0) = 1 ∧ m 55 (m 150 0) = m 151 0
    · rw [if_pos hal] at eal eF
      exact .inr ⟨eal, eF, hM, hal, hI.2 hal.1 hal.2⟩
    · rw [if_neg hal] at eal eF
      exact .inl ⟨eal, eF⟩
/-- behind a DEFAULT all settles -/
theorem dfr_settle {X : Option NS} {Y : Option YS} (hD : DFR As Bs A B G n m X Y) (hb : BUD n m) (hn : n 0 0 17 = -1 ∧ n 6 0 16 = 0) (hm : (m 163 0 = 0 ∨ m 163 0 = 1) ∧ m 152 0 = 0 ∧ m 153 0 = 0) (he : n 4 609 2 ≤ n 0 0 12 ∧ n 0 0 16 ≤ n 0 0 15 ∧ n 0 0 18 = 0) (hN : NIB m) (hbn : ∀ u, 0 ≤ u → u < 120 → m 45 u = 1 → m 55 u ≤ m 69 0) (hc : 0 ≤ c ∧ c + 1500 + 3000 * (200 - m 158 0) ≤ 990000) (hG : G + 2300 * (200 - m 158 0) < 380000000) :
    ∃ n1 n' m1 m', X = some n1 ∧ Y = some m1 ∧ stl (NL_Acts_settle_2 c n1) = some n' ∧ N_Y_settle m1 = some m' ∧ FC n n' m m' ∧ CI As Bs A B (G + 2200 + 2300 * (200 - m 158 0)) n' m' := by
  have hs0 : 0 ≤ m 158 0 := hb.2.1
  have hs1 : m 158 0 ≤ 200 := by rcases hb.2.2 with y | y <;> omega
  rcases hD with ⟨n1, m1, x1, x2, x3, x4⟩ | ⟨n1, m1, x1, x2, x3, x4, x5⟩
  · obtain ⟨f1, f2, f3, f4, f5, f6, f7⟩ := x4
    have hW : WYE As Bs A B (G + 40) n1 m1 := by
      refine ⟨x3, ?_, ⟨by rw [f3 17 (by decide)]; exact hn.1, by rw [f4]; exact hn.2⟩, by rw [f7 163 (by decide) (by decide) (by decide), f7 152 (by decide) (by decide) (by decide), f7 153 (by decide) (by decide) (by decide)]; exact hm, .inr (by rw [f6, f3 12 (by decide), f3 15 (by decide), f3 16 (by decide), f3 18 (by decide)]; exact he), hN.fp hbn f2⟩
      unfold BUD at *
      rw [f3 9 (by decide), f7 158 (by decide) (by decide) (by decide), f7 154 (by decide) (by decide) (by decide)]; exact hb
    have e158 : m1 158 0 = m 158 0 := by rw [f7 158 (by decide) (by decide) (by decide)]
    obtain ⟨n', m', s1, s2, s3, s4, s5⟩ := settle_fin (.inl hW) (c := c) ⟨hc.1, by omega⟩ (by omega)
    exact ⟨n1, n', m1, m', x1, x2, s1, s2, f1.trans s3, s4.ci.mono (by omega)⟩
  · obtain ⟨f1, f2, f3, f4, f5, f6, f7⟩ := x4
    have kg : ∀ K, K ≠ 6 → nw n1 6 0 16 1 K = n1 K := fun K hK => nw_nK hK
    have jg : JA As Bs A B 0 (G + 40) (nw n1 6 0 16 1) m1 := x3.cg (fun K _ b _ => kg K b) (fun s _ => by rw [kg 0 (by decide)]) (fun s hs => nw_ns hs) (fun _ _ => rfl)
    obtain ⟨n5, m5, N5, o5, e5, p5, z1, z2, z3, z4, z5, z6, z7, z8, z9, z10, z11, z12, z13⟩ := load_turn (c := c) jg (by omega) (x5.ks (kg 99 (by decide))) (.inl nw_eq) (by omega)
    rw [if_pos nw_eq] at z2
    have y : ∀ f, f = 154 ∨ f = 158 ∨ f = 163 → m5 f = m f := fun g hg => by rw [z11 g (by omega) (by omega) (by omega) (by omega) (by omega) (by omega) (by omega) (by omega) (by omega) (by omega) (by omega) (by omega), f7 g (by omega) (by omega) (by omega)]
    have hW : WEN As Bs A B (G + 40 + 2100) n5 m5 := by
      refine ⟨z3, ?_, ⟨by rw [z8 17 (by decide), kg 0 (by decide), f3 17 (by decide)]; exact hn.1, z9⟩, by rw [y 163 (by omega)]; exact hm.1, z10, z6, ⟨N5, o5, e5, p5, z4, z5⟩, z12, z13⟩
      unfold BUD at *
      rw [z8 9 (by decide), kg 0 (by decide), f3 9 (by decide), y 154 (by omega), y 158 (by omega)]; exact hb
    have e158 : m5 158 0 = m 158 0 := by rw [y 158 (by omega)]
    obtain ⟨n', m', s1, s2, s3, s4, s5⟩ := settle_fin (.inr hW) (c := c + 1) ⟨by omega, by omega⟩ (by omega)
    have fcg : FC n1 (nw n1 6 0 16 1) m1 m1 := FC.k0 (fun K _ b _ => kg K b) (fun s _ => by rw [kg 0 (by decide)]) (fun _ _ _ => rfl) (fun _ _ => rfl) (.inr rfl)
    refine ⟨nw n1 6 0 16 1, n', m5, m', x1, by rw [x2]; exact z2, ?_, s2, ((f1.trans fcg).trans z7).trans s3, s4.ci.mono (by omega)⟩
    have : NL_Acts_settle_2 c (nw n1 6 0 16 1) = NL_Acts_settle_2 (c + 1) n5 := by
      unfold NL_Acts_settle_2
      exact it_inl (f := fun s : Int × NS => nb_Acts_settle_2 s.1 s.2) z1
    rw [this]; exact s1
end Q2
