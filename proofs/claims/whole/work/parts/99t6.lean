/-! STYLE SHEETS: the declarations of a RULE, in both -/
section T6
variable {n n' : NS} {m m' : YS} {g : Int → Int} {a b c d to L ru k br : Int}
theorem nxA_b (h : a ≤ to) : a ≤ nxA g c a to ∧ nxA g c a to ≤ to := ⟨scx_ge (p := fun j => g j ≠ c) a to, scx_le (p := fun j => g j ≠ c) h⟩
theorem decl_loop (hL : L ≤ 400) (hto : to ≤ L) (htx : ∀ j, 0 ≤ j → j < L → isTx (g j)) (hr : 0 ≤ ru ∧ ru < 40) : ∀ (z : Nat) (a gd : Int) (n : NS) (m : YS), (to - a).toNat ≤ z → 0 ≤ gd → gd ≤ a → tx n d g L → m 101 = g → n 90 0 0 ≤ 1000000 → DCr n m ru → ∃ n' m', NL_Sheet_readRule_128 d to ru a gd n = some n' ∧ NL_Y_readDeclarations_23 to a m = some m' ∧ DCr n' m' ru ∧ FDn ru n n' ∧ FY [102, 103, 104] m m' := by
  have stop : ∀ (a gd : Int) (n : NS) (m : YS), ¬ a < to → DCr n m ru → ∃ n' m', NL_Sheet_readRule_128 d to ru a gd n = some n' ∧ NL_Y_readDeclarations_23 to a m = some m' ∧ DCr n' m' ru ∧ FDn ru n n' ∧ FY [102, 103, 104] m m' := fun a gd n m hlt hD => by
    refine ⟨n, m, ?_, ?_, hD, FDn.refl, FY.refl _ _⟩
    · unfold NL_Sheet_readRule_128
      refine it_inr ?_
      show nb_Sheet_readRule_128 d to ru a gd n = _
      unfold nb_Sheet_readRule_128
      by_cases y : gd < to
      · rw [if_pos y, if_neg hlt]
      · rw [if_neg y]
    · unfold NL_Y_readDeclarations_23
      refine it_inr ?_
      show nb_Y_readDeclarations_23 to a m = _
      unfold nb_Y_readDeclarations_23
      rw [if_neg hlt]
  intro z
  induction z with
  | zero => intro a gd n m hz g0 hg ht h101 h90 hD; exact stop a gd n m (by omega) hD
  | succ z ih =>
    intro a gd n m hz g0 hg ht h101 h90 hD
    by_cases hlt : a < to
    · have hb := nxA_b (g := g) (c := 59) (a := a) (to := to) (by omega)
      have c1 := cs_index (c := 59) (i := a) (to := to) ht ⟨by omega, hto, by omega⟩
      have y1 := ys_semi (m := m) (x := a) (i := a) (to := to) ⟨by omega, by omega⟩ (by omega)
      rw [h101] at y1
      generalize nxA g 59 a to = e at *
      obtain ⟨n1, m1, r1, r2, r3, r4, r5⟩ := decl_both (a := a) (to := e) ht h101 ⟨by omega, hb.1, by omega, hL⟩ htx hr h90 hD
      have cb : nb_Sheet_readRule_128 d to ru a gd n = some (.inl (e + 1, gd + 1, n1)) := by
        unfold nb_Sheet_readRule_128
        rw [if_pos (by omega), if_pos hlt, c1]
        simp only [Option.bind_some]
        rw [r1]
        simp only [Option.bind_some]
        rw [ck_e _ (by omega), ck_e _ (by omega)]
      have yb : nb_Y_readDeclarations_23 to a m = some (.inl (e + 1, m1)) := by
        unfold nb_Y_readDeclarations_23 nk_Y_readDeclarations_55
        rw [if_pos hlt, y1]
        simp only [Option.bind_some]
        rw [ys_blanks ⟨by omega, by omega⟩ (by omega), h101]
        simp only [Option.bind_some]
        rw [r2]
        simp only [Option.bind_some]
        rw [ck_e _ (by omega)]
      obtain ⟨n2, m2, w1, w2, w3, w4, w5⟩ := ih (e + 1) (gd + 1) n1 m1 (by omega) (by omega) (by omega) (by unfold tx at *; rw [r4.1 92 (by decide), r4.1 93 (by decide), r4.1 99 (by decide)]; exact ht) (by rw [r5 101 (by decide)]; exact h101) (by rw [r4.1 90 (by decide)]; exact h90) r3
      refine ⟨n2, m2, ?_, ?_, w3, r4.trans w4, r5.trans w5⟩
      · rw [← w1]
        unfold NL_Sheet_readRule_128
        exact it_inl (f := fun t : Int × Int × NS => nb_Sheet_readRule_128 d to ru t.1 t.2.1 t.2.2) (s := (a, gd, n)) cb
      · rw [← w2]
        unfold NL_Y_readDeclarations_23
        exact it_inl (f := fun t : Int × YS => nb_Y_readDeclarations_23 to t.1 t.2) (s := (a, m)) yb
    · exact stop a gd n m hlt hD
theorem c_fill (hr : 0 ≤ ru ∧ ru < 40) : ev (N_Arrays_fill (ru * 11) ((ru + 1) * 11) (-1) n) (fun n' => FDn ru n n' ∧ ∀ j, 11 * ru ≤ j → j < 11 * ru + 11 → n' 39 0 j = -1) := by
  unfold N_Arrays_fill N_Arrays_rangeCheck
  rw [if_neg (by omega), if_neg (by omega), if_neg (by omega)]
  simp only [Option.bind_some]
  refine ev_bind (P := fun n' => FDn ru n n' ∧ ∀ j, 11 * ru ≤ j → j < 11 * ru + 11 → n' 39 0 j = -1) ?_ (fun n' h => ev_ok h)
  unfold NL_Arrays_fill_10
  refine ev_it (fun s : Int × NS => (11 * ru ≤ s.1 ∧ s.1 ≤ 11 * ru + 11) ∧ FDn ru n s.2 ∧ ∀ j, 11 * ru ≤ j → j < s.1 → s.2 39 0 j = -1) (fun s => 11 * ru + 11 - s.1) (fun s hs => ?_) ⟨by show 11 * ru ≤ ru * 11 ∧ ru * 11 ≤ 11 * ru + 11; omega, FDn.refl, fun j x y => by have y : j < ru * 11 := y; omega⟩
  obtain ⟨k, n1⟩ := s
  obtain ⟨g1, g2, g3⟩ := hs
  simp only at g1 g2 g3
  show ev (nb_Arrays_fill_10 ((ru + 1) * 11) (-1) k n1) _
  unfold nb_Arrays_fill_10
  refine ev_if (fun hlt => ev_ix (by omega) (ev_st (ev_ck (by omega) (ev_inl ⟨⟨by show 11 * ru ≤ k + 1 ∧ k + 1 ≤ 11 * ru + 11; omega, g2.trans ⟨fun K hK => nw_nK hK, fun j hj => nw_ns (by omega)⟩, fun j x y => ?_⟩, by show 11 * ru + 11 - (k + 1) < 11 * ru + 11 - k; omega, by show 0 ≤ 11 * ru + 11 - k; omega⟩)))) (fun hge => ev_inr ⟨g2, fun j x y => g3 j x (by omega)⟩)
  have y : j < k + 1 := y
  show nw n1 39 0 k (-1) 39 0 j = -1
  by_cases z : j = k
  · rw [z, nw_eq]
  · rw [nw_ns z]; exact g3 j x (by omega)
theorem y_clear11 : ev (NL_Y_readDeclarations_2 a b 0 m) (fun m' => FY [103] m m' ∧ ∀ j, 0 ≤ j → j < 11 → m' 103 j = 0) := by
  unfold NL_Y_readDeclarations_2
  refine ev_it (fun s : Int × YS => (0 ≤ s.1 ∧ s.1 ≤ 11) ∧ FY [103] m s.2 ∧ ∀ j, 0 ≤ j → j < s.1 → s.2 103 j = 0) (fun s => 11 - s.1) (fun s hs => ?_) ⟨by show (0 : Int) ≤ 0 ∧ (0 : Int) ≤ 11; omega, FY.refl _ _, fun j x y => by have y : j < 0 := y; omega⟩
  obtain ⟨k, m1⟩ := s
  obtain ⟨g1, g2, g3⟩ := hs
  simp only at g1 g2 g3
  show ev (nb_Y_readDeclarations_2 a b k m1) _
  unfold nb_Y_readDeclarations_2
  refine ev_if (fun hlt => ev_ix (by omega) (ev_st (ev_ck (by omega) (ev_inl ⟨⟨by show 0 ≤ k + 1 ∧ k + 1 ≤ 11; omega, fun f hf => ?_, fun j x y => ?_⟩, by show 11 - (k + 1) < 11 - k; omega, by show 0 ≤ 11 - k; omega⟩)))) (fun hge => ev_inr ⟨g2, fun j x y => g3 j x (by omega)⟩)
  · show yw m1 103 k 0 f = m f
    rw [yw_nF (by simp only [List.mem_cons, List.not_mem_nil, or_false] at hf; exact hf)]; exact g2 f hf
  · have y : j < k + 1 := y
    show yw m1 103 k 0 103 j = 0
    by_cases z : j = k
    · rw [z, yw_eq]
    · rw [yw_ni z]; exact g3 j x (by omega)
/-- all declarations of a RULE -/
theorem decls_both (ht : tx n d g L) (h101 : m 101 = g) (ha : 0 ≤ a ∧ a ≤ 400 ∧ to ≤ L ∧ L ≤ 400) (htx : ∀ j, 0 ≤ j → j < L → isTx (g j)) (hr : 0 ≤ ru ∧ ru < 40) (h90 : n 90 0 0 ≤ 1000000) : ∃ n' m', (N_Arrays_fill (ru * 11) ((ru + 1) * 11) (-1) n).bind (fun n8 => (NL_Sheet_readRule_128 d to ru a a n8).bind fun n12 => some n12) = some n' ∧ N_Y_readDeclarations a to m = some m' ∧ DCr n' m' ru ∧ FDn ru n n' ∧ FY [102, 103, 104] m m' := by
  obtain ⟨n1, r1, r2, r3⟩ := c_fill (n := n) hr
  obtain ⟨m1, s1, s2, s3⟩ := y_clear11 (m := m) (a := a) (b := to)
  have D : DCr n1 m1 ru := fun p p0 p1 => .inl ⟨r3 _ (by omega) (by omega), s3 p p0 p1⟩
  obtain ⟨n2, m2, w1, w2, w3, w4, w5⟩ := decl_loop (d := d) (to := to) ha.2.2.2 ha.2.2.1 htx hr (to - a).toNat a a n1 m1 (Nat.le_refl _) ha.1 (Int.le_refl _) (by unfold tx at *; rw [r2.1 92 (by decide), r2.1 93 (by decide), r2.1 99 (by decide)]; exact ht) (by rw [s2 101 (by decide)]; exact h101) (by rw [r2.1 90 (by decide)]; exact h90) D
  refine ⟨n2, m2, ?_, ?_, w3, r2.trans w4, (s2.mono (fun x hx => by simp only [List.mem_cons, List.not_mem_nil, or_false] at hx ⊢; omega)).trans w5⟩
  · rw [r1]
    simp only [Option.bind_some]
    rw [w1]; rfl
  · unfold N_Y_readDeclarations
    rw [s1]
    simp only [Option.bind_some]
    rw [w2]; rfl
end T6
