/-! STYLE SHEETS: a RULE, in both -/
/-- what a SELECTOR's RULE gives -/
def RLs (n : NS) (m : YS) (s : Int) : Prop := (0 ≤ n 34 0 s ∧ n 34 0 s ≤ s) ∧ ∀ p, 0 ≤ p → p < 11 → (n 39 0 (11 * n 34 0 s + p) = -1 ∧ m 99 (11 * s + p) = 0) ∨ (m 99 (11 * s + p) = 1 ∧ n 39 0 (11 * n 34 0 s + p) = m 98 (11 * s + p) ∧ 0 ≤ m 98 (11 * s + p) ∧ m 98 (11 * s + p) ≤ 1100 ∧ okL p (m 98 (11 * s + p))) ∨ (m 99 (11 * s + p) = 2 ∧ n 39 0 (11 * n 34 0 s + p) = m 98 (11 * s + p) + 65536 ∧ 0 ≤ m 98 (11 * s + p) ∧ m 98 (11 * s + p) ≤ 1100 ∧ okL p (m 98 (11 * s + p)))
/-- the SELECTORS so far -/
def SHT (n : NS) (m : YS) : Prop := n 9 0 13 = m 89 0 ∧ (0 ≤ m 89 0 ∧ m 89 0 ≤ 40) ∧ ∀ s, 0 ≤ s → s < m 89 0 → SL n m s ∧ RLs n m s
/-- rooms of the class before c are as they were -/
def FNz (c : Int) (n n' : NS) : Prop := (∀ K, K ∉ [9, 32, 33, 34, 35, 36, 37, 38] → n' K = n K) ∧ (∀ k, k ≠ 13 → n' 9 0 k = n 9 0 k) ∧ (∀ k, k < c → n' 32 0 k = n 32 0 k ∧ n' 33 0 k = n 33 0 k ∧ n' 34 0 k = n 34 0 k) ∧ (∀ k, k < 3 * c → n' 35 0 k = n 35 0 k ∧ n' 36 0 k = n 36 0 k) ∧ (∀ k, k < 12 * c → n' 37 0 k = n 37 0 k ∧ n' 38 0 k = n 38 0 k)
section T8
variable {n n' n'' : NS} {m m' : YS} {g : Int → Int} {a b c d to L k br s ru cnt gd first : Int}
theorem FNz.trans (h : FNz c n n') (h' : FNz c n' n'') : FNz c n n'' := ⟨fun K x => (h'.1 K x).trans (h.1 K x), fun k x => (h'.2.1 k x).trans (h.2.1 k x), fun k x => ⟨(h'.2.2.1 k x).1.trans (h.2.2.1 k x).1, (h'.2.2.1 k x).2.1.trans (h.2.2.1 k x).2.1, (h'.2.2.1 k x).2.2.trans (h.2.2.1 k x).2.2⟩, fun k x => ⟨(h'.2.2.2.1 k x).1.trans (h.2.2.2.1 k x).1, (h'.2.2.2.1 k x).2.trans (h.2.2.2.1 k x).2⟩, fun k x => ⟨(h'.2.2.2.2 k x).1.trans (h.2.2.2.2 k x).1, (h'.2.2.2.2 k x).2.trans (h.2.2.2.2 k x).2⟩⟩
theorem FNz.refl : FNz c n n := ⟨fun _ _ => rfl, fun _ _ => rfl, fun _ _ => ⟨rfl, rfl, rfl⟩, fun _ _ => ⟨rfl, rfl⟩, fun _ _ => ⟨rfl, rfl⟩⟩
theorem FNz.lo {c' : Int} (h : FNz c n n') (hc : c' ≤ c) : FNz c' n n' := ⟨h.1, h.2.1, fun k x => h.2.2.1 k (by omega), fun k x => h.2.2.2.1 k (by omega), fun k x => h.2.2.2.2 k (by omega)⟩
theorem FSn.z (h : FSn s n n') (hs : c ≤ s) : FNz c n n' := ⟨fun K hK => h.1 K (fun z => hK (by simp only [List.mem_cons, List.not_mem_nil, or_false] at z ⊢; omega)), fun k _ => by rw [h.1 9 (by decide)], fun k x => ⟨(h.2.1 k (by omega)).1, (h.2.1 k (by omega)).2, by rw [h.1 34 (by decide)]⟩, fun k x => h.2.2.1 k (by omega), fun k x => h.2.2.2 k (by omega)⟩
theorem FNz.txx (h : FNz c n n') (ht : tx n d g L) : tx n' d g L := by
  unfold tx at *
  rw [h.1 92 (by decide), h.1 93 (by decide), h.1 99 (by decide)]; exact ht
theorem SL.nz (h : SL n m s) (hz : FNz c n n') (hs : 0 ≤ s ∧ s < c) : SL n' m s := by
  obtain ⟨a1, a2, a3, a4, a5⟩ := h
  unfold SL
  rw [(hz.2.2.1 s hs.2).1, (hz.2.2.1 s hs.2).2.1]
  refine ⟨a1, a2, a3, a4, fun j x y => ?_⟩
  exact (a5 j x y).cg (hz.2.2.2.1 _ (by omega)) (fun c u v => ⟨hz.2.2.2.2 c (by omega), rfl, rfl⟩) ⟨rfl, rfl⟩ (fun i u v => rfl) (fun i u v => rfl)
/-- the class takes the SELECTORS of a RULE into rooms of their own -/
theorem rule_sels (hL : br ≤ L ∧ L ≤ 400) : ∀ (P : Nat) (a gd cnt : Int) (n : NS), (∀ i, i < P → 0 ≤ atP g br i a ∧ atP g br i a ≤ br) → br < atP g br P a → 0 ≤ a → (0 ≤ gd ∧ gd ≤ a ∧ a ≤ 1000) → (n 9 0 13 = cnt ∧ 0 ≤ cnt ∧ cnt ≤ 40) → tx n d g L → (∀ i : Nat, i < P → cnt + i < 40 → RDp g br (atP g br i a) (cnt + i) m) →
    ∃ n', NL_Sheet_readRule_12 d br to ru a gd n = some n' ∧ FNz cnt n n' ∧ n' 9 0 13 = min (cnt + P) 40 ∧ ∀ s, cnt ≤ s → s < min (cnt + P) 40 → SL n' m s ∧ n' 34 0 s = ru := by
  intro P
  induction P with
  | zero =>
    intro a gd cnt n hin hout h0 hgd hc ht hR
    have hout : br < a := hout
    refine ⟨n, ?_, FNz.refl, by show n 9 0 13 = min (cnt + ((0 : Nat) : Int)) 40; omega, fun s x y => by have y : s < min (cnt + ((0 : Nat) : Int)) 40 := y; omega⟩
    unfold NL_Sheet_readRule_12
    refine it_inr ?_
    show nb_Sheet_readRule_12 d br to ru a gd n = _
    unfold nb_Sheet_readRule_12
    by_cases y : br < gd
    · rw [if_pos y]
    · rw [if_neg y, if_pos hout]
  | succ P ih =>
    intro a gd cnt n hin hout h0 hgd hc ht hR
    have ha := hin 0 (by omega)
    have ha : 0 ≤ a ∧ a ≤ br := ha
    by_cases h40 : cnt < 40
    · have hb := nxA_b (g := g) (c := 44) (a := a) (to := br) ha.2
      have hr := hR 0 (by omega) (by omega)
      have hr : RDp g br a (cnt + ((0 : Nat) : Int)) m := hr
      rw [show cnt + ((0 : Nat) : Int) = cnt by omega] at hr
      obtain ⟨z, n1, r1, r2, r3⟩ := hr n d L ht hL.1 hL.2
      generalize hn2 : nw (nw n1 34 0 cnt ru) 9 0 13 (cnt + 1) = n2
      have c13 : n1 9 0 13 = cnt := by rw [r2.1 9 (by decide)]; exact hc.1
      have cb : nb_Sheet_readRule_12 d br to ru a gd n = some (.inl (nxA g 44 a br + 1, gd + 1, n2)) := by
        unfold nb_Sheet_readRule_12
        rw [if_neg (by omega), if_neg (by omega), hc.1, if_pos h40, cs_index ht ⟨ha.1, hL.1, by omega⟩]
        simp only [Option.bind_some]
        rw [r1]
        simp only [Option.bind_some, u2]
        rw [c13, ix_e _ (by omega)]
        unfold st
        dsimp only
        rw [nw_nK (show (9 : Nat) ≠ 34 by decide), c13, ck_e _ (by omega), ck_e _ (by omega), ck_e _ (by omega), hn2]
      have K2 : ∀ K, K ≠ 9 → K ≠ 34 → n2 K = n1 K := fun K x y => by rw [← hn2, nw_nK x, nw_nK y]
      have s9 : n2 9 0 13 = cnt + 1 ∧ ∀ k, k ≠ 13 → n2 9 0 k = n1 9 0 k := ⟨by rw [← hn2, nw_eq], fun k x => by rw [← hn2, nw_ns x, nw_nK (by decide)]⟩
      have s34 : n2 34 0 cnt = ru ∧ ∀ k, k ≠ cnt → n2 34 0 k = n1 34 0 k := ⟨by rw [← hn2, nw_nK (by decide), nw_eq], fun k x => by rw [← hn2, nw_nK (by decide), nw_ns x]⟩
      have F2 : FNz cnt n1 n2 := ⟨fun K hK => K2 K (fun z => hK (by rw [z]; decide)) (fun z => hK (by rw [z]; decide)), s9.2, fun k x => ⟨by rw [K2 32 (by decide) (by decide)], by rw [K2 33 (by decide) (by decide)], s34.2 k (by omega)⟩, fun k _ => by rw [K2 35 (by decide) (by decide), K2 36 (by decide) (by decide)]; exact ⟨rfl, rfl⟩, fun k _ => by rw [K2 37 (by decide) (by decide), K2 38 (by decide) (by decide)]; exact ⟨rfl, rfl⟩⟩
      have S2 : SL n2 m cnt := by
        obtain ⟨a1, a2, a3, a4, a5⟩ := r3
        unfold SL
        rw [K2 32 (by decide) (by decide), K2 33 (by decide) (by decide)]
        exact ⟨a1, a2, a3, a4, fun j x y => (a5 j x y).cg (by rw [K2 35 (by decide) (by decide), K2 36 (by decide) (by decide)]; exact ⟨rfl, rfl⟩) (fun c _ _ => by rw [K2 37 (by decide) (by decide), K2 38 (by decide) (by decide)]; exact ⟨⟨rfl, rfl⟩, rfl, rfl⟩) ⟨rfl, rfl⟩ (fun _ _ _ => rfl) (fun _ _ _ => rfl)⟩
      have F12 := (r2.z (c := cnt) (Int.le_refl _)).trans F2
      obtain ⟨n3, w1, w2, w3, w4⟩ := ih (nxA g 44 a br + 1) (gd + 1) (cnt + 1) n2 (fun i hi => hin (i + 1) (by omega)) hout (by omega) (by omega) ⟨s9.1, by omega, by omega⟩ (F12.txx ht) (fun i hi hlt => by
        have := hR (i + 1) (by omega) (by omega)
        rw [show cnt + ((i + 1 : Nat) : Int) = cnt + 1 + i by omega] at this
        exact this)
      refine ⟨n3, ?_, F12.trans (w2.lo (by omega)), by rw [w3]; omega, fun s x y => ?_⟩
      · rw [← w1]
        unfold NL_Sheet_readRule_12
        exact it_inl (f := fun t : Int × Int × NS => nb_Sheet_readRule_12 d br to ru t.1 t.2.1 t.2.2) (s := (a, gd, n)) cb
      · by_cases e : s = cnt
        · rw [e]
          exact ⟨S2.nz w2 (by omega), by rw [(w2.2.2.1 cnt (by omega)).2.2]; exact s34.1⟩
        · exact w4 s (by omega) (by omega)
    · have e : cnt = 40 := by omega
      refine ⟨n, ?_, FNz.refl, by rw [hc.1]; omega, fun s x y => by omega⟩
      unfold NL_Sheet_readRule_12
      refine it_inr ?_
      show nb_Sheet_readRule_12 d br to ru a gd n = _
      unfold nb_Sheet_readRule_12
      rw [if_neg (by omega), if_neg (by omega), hc.1, if_neg h40]
/-- the reference notes what a RULE gives -/
theorem y_note (hc : 0 ≤ first ∧ first ≤ 40 ∧ first ≤ cnt) : ev (NL_Y_readRule_147 cnt first m) (fun m' => FY [98, 99] m m' ∧ (∀ s p, first ≤ s → s < min cnt 40 → 0 ≤ p → p < 11 → m' 98 (11 * s + p) = m 102 p ∧ m' 99 (11 * s + p) = m 103 p) ∧ ∀ j, j < 11 * first → m' 98 j = m 98 j ∧ m' 99 j = m 99 j) := by
  have row : ∀ (s : Int) (m1 : YS), 0 ≤ s → s < 40 → ev (NL_Y_readRule_164 cnt s 0 m1) (fun m' => FY [98, 99] m1 m' ∧ (∀ p, 0 ≤ p → p < 11 → m' 98 (11 * s + p) = m1 102 p ∧ m' 99 (11 * s + p) = m1 103 p) ∧ ∀ j, ¬ (11 * s ≤ j ∧ j < 11 * s + 11) → m' 98 j = m1 98 j ∧ m' 99 j = m1 99 j) := fun s m1 s0 s1 => by
    unfold NL_Y_readRule_164
    refine ev_it (fun t : Int × YS => (0 ≤ t.1 ∧ t.1 ≤ 11) ∧ FY [98, 99] m1 t.2 ∧ (∀ p, 0 ≤ p → p < t.1 → t.2 98 (11 * s + p) = m1 102 p ∧ t.2 99 (11 * s + p) = m1 103 p) ∧ ∀ j, ¬ (11 * s ≤ j ∧ j < 11 * s + 11) → t.2 98 j = m1 98 j ∧ t.2 99 j = m1 99 j) (fun t => 11 - t.1) (fun t ht => ?_) ⟨by show (0 : Int) ≤ 0 ∧ (0 : Int) ≤ 11; omega, FY.refl _ _, fun p x y => by have y : p < 0 := y; omega, fun _ _ => ⟨rfl, rfl⟩⟩
    obtain ⟨q, m2⟩ := t
    obtain ⟨g1, g2, g3, g4⟩ := ht
    simp only at g1 g2 g3 g4
    show ev (nb_Y_readRule_164 cnt s q m2) _
    unfold nb_Y_readRule_164
    refine ev_if (fun hlt => ?_) (fun hge => ev_inr ⟨g2, fun p x y => g3 p x (by omega), g4⟩)
    refine ev_ck (by omega) (ev_ck (by omega) (ev_ix (by omega) (ev_ix (by omega) (ev_st (ev_ck (by omega) (ev_ck (by omega) (ev_ix (by omega) (ev_ix (by omega) (ev_st (ev_ck (by omega) ?_))))))))))
    rw [yw_nF (show (103 : Nat) ≠ 98 by decide), g2 102 (by decide), g2 103 (by decide)]
    refine ev_inl ⟨⟨by show 0 ≤ q + 1 ∧ q + 1 ≤ 11; omega, fun f hf => ?_, fun p x y => ?_, fun j hj => ?_⟩, by show 11 - (q + 1) < 11 - q; omega, by show 0 ≤ 11 - q; omega⟩
    · simp only [List.mem_cons, List.not_mem_nil, or_false, not_or] at hf
      show yw (yw m2 98 (11 * s + q) (m1 102 q)) 99 (11 * s + q) (m1 103 q) f = m1 f
      rw [yw_nF hf.2, yw_nF hf.1]; exact g2 f (by simp only [List.mem_cons, List.not_mem_nil, or_false, not_or]; exact hf)
    · have y : p < q + 1 := y
      show yw (yw m2 98 (11 * s + q) (m1 102 q)) 99 (11 * s + q) (m1 103 q) 98 (11 * s + p) = _ ∧ yw (yw m2 98 (11 * s + q) (m1 102 q)) 99 (11 * s + q) (m1 103 q) 99 (11 * s + p) = _
      rw [yw_nF (show (98 : Nat) ≠ 99 by decide)]
      by_cases e : p = q
      · rw [e, yw_eq, yw_eq]; exact ⟨rfl, rfl⟩
      · rw [yw_ni (by omega), yw_ni (by omega), yw_nF (show (99 : Nat) ≠ 98 by decide)]
        exact g3 p x (by omega)
    · show yw (yw m2 98 (11 * s + q) (m1 102 q)) 99 (11 * s + q) (m1 103 q) 98 j = _ ∧ yw (yw m2 98 (11 * s + q) (m1 102 q)) 99 (11 * s + q) (m1 103 q) 99 j = _
      rw [yw_nF (show (98 : Nat) ≠ 99 by decide), yw_ni (by omega), yw_ni (by omega), yw_nF (show (99 : Nat) ≠ 98 by decide)]
      exact g4 j hj
  unfold NL_Y_readRule_147
  refine ev_it (fun t : Int × YS => (first ≤ t.1 ∧ t.1 ≤ cnt ∧ (t.1 ≤ 40)) ∧ FY [98, 99] m t.2 ∧ (∀ s p, first ≤ s → s < t.1 → 0 ≤ p → p < 11 → t.2 98 (11 * s + p) = m 102 p ∧ t.2 99 (11 * s + p) = m 103 p) ∧ ∀ j, j < 11 * first → t.2 98 j = m 98 j ∧ t.2 99 j = m 99 j) (fun t => 40 - t.1) (fun t ht => ?_) ⟨by show first ≤ first ∧ first ≤ cnt ∧ first ≤ 40; omega, FY.refl _ _, fun s p x y => by have y : s < first := y; omega, fun _ _ => ⟨rfl, rfl⟩⟩
  obtain ⟨q, m2⟩ := t
  obtain ⟨g1, g2, g3, g4⟩ := ht
  simp only at g1 g2 g3 g4
  show ev (nb_Y_readRule_147 cnt q m2) _
  unfold nb_Y_readRule_147
  refine ev_if (fun hlt => ev_if (fun h40 => ev_bind (row q m2 (by omega) h40) (fun m3 h3 => ev_ck (by omega) ?_)) (fun h40 => ev_inr ⟨g2, fun s p x y => g3 s p x (by omega), g4⟩)) (fun hge => ev_inr ⟨g2, fun s p x y => g3 s p x (by omega), g4⟩)
  obtain ⟨r1, r2, r3⟩ := h3
  refine ev_inl ⟨⟨by show first ≤ q + 1 ∧ q + 1 ≤ cnt ∧ q + 1 ≤ 40; omega, g2.trans r1, fun s p x y u v => ?_, fun j hj => ?_⟩, by show 40 - (q + 1) < 40 - q; omega, by show 0 ≤ 40 - q; omega⟩
  · have y : s < q + 1 := y
    show m3 98 (11 * s + p) = _ ∧ m3 99 (11 * s + p) = _
    by_cases e : s = q
    · rw [e, (r2 p u v).1, (r2 p u v).2, g2 102 (by decide), g2 103 (by decide)]; exact ⟨rfl, rfl⟩
    · rw [(r3 (11 * s + p) (by omega)).1, (r3 (11 * s + p) (by omega)).2]; exact g3 s p x (by omega) u v
  · show m3 98 j = _ ∧ m3 99 j = _
    rw [(r3 j (by omega)).1, (r3 j (by omega)).2]; exact g4 j hj
end T8
