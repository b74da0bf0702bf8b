/-! A NEW ELEMENT takes its ATTRIBUTES: the class -/
/-- the ATTRIBUTES of a node, in both -/
def ATs (n : NS) (m : YS) (v : Int) : Prop := (n 7 v 12 = m 56 v ∧ 0 ≤ m 56 v ∧ m 56 v ≤ 4) ∧ ∀ a, 0 ≤ a → a < m 56 v → NA n m v a
theorem ND.ats {n : NS} {m : YS} {v : Int} (h : ND n m v) : ATs n m v := ⟨h.2.2.1, h.2.2.2.1⟩
/-- nothing but one node and its rows has changed -/
def FN (f : Int) (n n' : NS) : Prop :=
  (∀ K, K ∉ [4, 7, 18, 90, 91, 92, 93, 99] → n' K = n K)
  ∧ (∀ v, v ≠ f → n' 7 v = n 7 v ∧ n' 18 v = n 18 v)
  ∧ (∀ b, ¬ (5 * f ≤ b ∧ b ≤ 5 * f + 4) → n' 4 b = n 4 b)
  ∧ n 90 0 0 ≤ n' 90 0 0
  ∧ (∀ q, q < n 90 0 0 → n' 92 0 q = n 92 0 q ∧ n' 93 0 q = n 93 0 q)
  ∧ (∀ q, q < n 90 0 0 → (∀ b, 5 * f ≤ b → b ≤ 5 * f + 4 → q ≠ n 4 b 1) → n' 99 q = n 99 q)
  ∧ (∀ b, 5 * f ≤ b → b ≤ 5 * f + 4 → n' 4 b 1 = n 4 b 1 ∨ n 90 0 0 ≤ n' 4 b 1)
section H8
variable {n n' n'' : NS} {m m' : YS} {A B f v c b t i : Int} {w s : List Int} {q : Nat}
theorem FN.refl (f : Int) (n : NS) : FN f n n := ⟨fun _ _ => rfl, fun _ _ => ⟨rfl, rfl⟩, fun _ _ => rfl, Int.le_refl _, fun _ _ => ⟨rfl, rfl⟩, fun _ _ _ => rfl, fun _ _ _ => .inl rfl⟩
theorem FN.trans (h : FN f n n') (h' : FN f n' n'') : FN f n n'' := by
  obtain ⟨a1, a0, a2, a3, a4, a5, a6⟩ := h
  obtain ⟨b1, b0, b2, b3, b4, b5, b6⟩ := h'
  refine ⟨fun K c => (b1 K c).trans (a1 K c), fun v hv => ⟨(b0 v hv).1.trans (a0 v hv).1, (b0 v hv).2.trans (a0 v hv).2⟩, fun b hb => (b2 b hb).trans (a2 b hb), Int.le_trans a3 b3, fun q hq => ?_, fun q hq hS => ?_, fun b c0 c1 => ?_⟩
  · have h1 := a4 q hq
    have h2 := b4 q (by omega)
    exact ⟨h2.1.trans h1.1, h2.2.trans h1.2⟩
  · rw [b5 q (by omega) (fun b c0 c1 => by have := a6 b c0 c1; have := hS b c0 c1; omega), a5 q hq hS]
  · have := a6 b c0 c1
    have := b6 b c0 c1
    omega
theorem FN.fb {S : Int → Prop} (h : FB S n n') (hS : ∀ x, S x → 5 * f ≤ x ∧ x ≤ 5 * f + 4) : FN f n n' := by
  obtain ⟨a1, a2, a3, a4, a5, a6⟩ := h
  refine ⟨fun K c => by
    simp only [List.mem_cons, List.not_mem_nil, or_false, not_or] at c
    exact a1 K (by omega) (by omega) (by omega) (by omega) (by omega) (by omega), fun v _ => by rw [a1 7 (by decide) (by decide) (by decide) (by decide) (by decide) (by decide), a1 18 (by decide) (by decide) (by decide) (by decide) (by decide) (by decide)]; exact ⟨rfl, rfl⟩, fun b hb => a2 b (fun z => hb (hS b z)), a3, a4, fun q hq c => a5 q hq (fun b hb => c b (hS b hb).1 (hS b hb).2), fun b c0 c1 => ?_⟩
  by_cases z : S b
  · exact a6 b z
  · rw [a2 b z]; exact .inl rfl
theorem FN.nw7 {s x : Int} : FN f n (nw n 7 f s x) := ⟨fun K c => nw_nK (fun z => c (by rw [z]; decide)), fun v hv => ⟨nw_ni hv, by rw [nw_nK (by decide)]⟩, fun b _ => by rw [nw_nK (by decide)], by rw [nw_nK (by decide)]; exact Int.le_refl _, fun q _ => by rw [nw_nK (by decide), nw_nK (by decide)]; exact ⟨rfl, rfl⟩, fun q _ _ => by rw [nw_nK (by decide)], fun b _ _ => .inl (by rw [nw_nK (by decide)])⟩
theorem FN.nw18 {s x : Int} : FN f n (nw n 18 f s x) := ⟨fun K c => nw_nK (fun z => c (by rw [z]; decide)), fun v hv => ⟨by rw [nw_nK (by decide)], nw_ni hv⟩, fun b _ => by rw [nw_nK (by decide)], by rw [nw_nK (by decide)]; exact Int.le_refl _, fun q _ => by rw [nw_nK (by decide), nw_nK (by decide)]; exact ⟨rfl, rfl⟩, fun q _ _ => by rw [nw_nK (by decide)], fun b _ _ => .inl (by rw [nw_nK (by decide)])⟩
theorem BI.n7 {s x : Int} (h : BI A B n) : BI A B (nw n 7 f s x) := h.cg (nw_nK (by decide)) (by rw [nw_nK (by decide)]; exact ⟨rfl, rfl⟩) (nw_nK (by decide)) (nw_nK (by decide)) (nw_nK (by decide)) (nw_nK (by decide))
theorem BI.n18 {s x : Int} (h : BI A B n) : BI A B (nw n 18 f s x) := h.cg (nw_nK (by decide)) (by rw [nw_nK (by decide)]; exact ⟨rfl, rfl⟩) (nw_nK (by decide)) (nw_nK (by decide)) (nw_nK (by decide)) (nw_nK (by decide))
theorem bt_n7 {s x : Int} : bt (nw n 7 f s x) b = bt n b := by unfold bt; rw [nw_nK (by decide), nw_nK (by decide)]
theorem bt_n18 {s x : Int} : bt (nw n 18 f s x) b = bt n b := by unfold bt; rw [nw_nK (by decide), nw_nK (by decide)]
/-- other rows hold what they held -/
theorem FN.bt (h : FN f n n') (hB : BI A B n) (hf : 0 ≤ f ∧ f ≤ 120) (hb : 0 ≤ b ∧ b ≤ 631) (hne : ¬ (5 * f ≤ b ∧ b ≤ 5 * f + 4)) : bt n' b = bt n b := by
  have e1 := h.2.2.1 b hne
  have e2 := h.2.2.2.2.2.1 (n 4 b 1) (hB.1 b hb.1 hb.2).2.1.2 (fun x x0 x1 z => hne (by
    have := hB.2.1 b x hb.1 hb.2 (by omega) (by omega) z
    omega))
  unfold _root_.Jvm.Pilot.CBrowserHouseLaw_law_r2351_74ff1e.bt
  rw [e1, e2]
theorem FN.NG (h : FN f n n') (hB : BI A B n) (hf : 0 ≤ f ∧ f ≤ 120) (hv : 0 ≤ v ∧ v ≤ 120) (hne : v ≠ f) : NG n n' v := ⟨fun s _ => by rw [(h.2.1 v hne).1], (h.2.1 v hne).2, fun b b0 b1 => h.bt hB hf (by omega) (by omega)⟩
theorem FN.FRR (h : FN f n n') (hf : 0 ≤ f ∧ f ≤ 120) : FRR n n' := by
  obtain ⟨a1, a0, a2, a3, a4, a5, a6⟩ := h
  refine ⟨fun K c => a1 K (by simp only [List.mem_cons, List.not_mem_nil, or_false, not_or] at c ⊢; omega), fun b hb => a2 b (by omega), a3, a4, fun q hq c => a5 q hq (fun b x y => c b (by omega) (by omega)), fun b x y => ?_, by rw [a1 10 (by decide)]; exact Int.le_refl _⟩
  by_cases z : 5 * f ≤ b ∧ b ≤ 5 * f + 4
  · exact a6 b z.1 z.2
  · rw [a2 b z]; exact .inl rfl
theorem cs_is (hb : 0 ≤ b ∧ b ≤ 631) (hB : BI A B n) (hs : okS q s) (hne : s ≠ []) : ev (N_Bytes_is b q n) (bz (bt n b = s)) := by
  have hl := okS_le hs
  have hb1 := hB.1 b hb.1 hb.2
  have hlim := lim_b b
  have hbl := bt_len hb hB
  unfold N_Bytes_is
  rw [okS_N hs]
  show ev (if n 4 b 2 = (s.length : Int) then _ else _) _
  refine ev_if (fun h => ev_nn hb1.2.1.1 (ev_bz (cs_stands (hB.txb hb) hs (Int.le_refl _) (Int.le_refl _) ⟨by omega, by omega⟩ (by decide) hne) (fun hp => ?_) (fun hp => ?_))) (fun h => ev_0 (fun z => h (by rw [← z]; omega)))
  · rw [if_neg (by decide)]
    rw [mtR_sg s 0 (by omega)] at hp
    refine ev_1 ?_
    unfold bt
    rw [show n 4 b 2 - 0 = n 4 b 2 by omega] at hp
    exact hp
  · rw [if_pos rfl]
    rw [mtR_sg s 0 (by omega)] at hp
    refine ev_0 (fun z => hp ?_)
    unfold bt at z
    rw [show n 4 b 2 - 0 = n 4 b 2 by omega]
    exact z
theorem c_copyAttr (hB : BI A B n) (hf : 0 ≤ f ∧ f < 120) (hc : n 7 120 12 = c) (hcb : 0 ≤ c ∧ c ≤ 4) : ev (N_Node_copyAttributes f 120 n) (fun n' => BI A B n' ∧ FN f n n' ∧ n' 7 f 12 = c ∧ (∀ s, s ≠ 12 → n' 7 f s = n 7 f s) ∧ (∀ a, 0 ≤ a → a < c → n' 18 f a = n 18 120 a ∧ bt n' (5 * f + 1 + a) = bt n (601 + a)) ∧ bt n' (5 * f) = bt n (5 * f)) := by
  unfold N_Node_copyAttributes
  rw [hc]
  refine ev_st ?_
  rw [bind_id]
  unfold NL_Node_copyAttributes_10
  refine ev_it (fun s : Int × NS => (0 ≤ s.1 ∧ s.1 ≤ c) ∧ BI A B s.2 ∧ FN f n s.2 ∧ s.2 7 f 12 = c ∧ (∀ x, x ≠ 12 → s.2 7 f x = n 7 f x) ∧ (∀ a, 0 ≤ a → a < s.1 → s.2 18 f a = n 18 120 a ∧ bt s.2 (5 * f + 1 + a) = bt n (601 + a)) ∧ bt s.2 (5 * f) = bt n (5 * f)) (fun s => c - s.1) (fun s hs => ?_) ⟨⟨Int.le_refl _, hcb.1⟩, hB.n7, FN.nw7, nw_eq, fun x hx => nw_ns hx, fun a a0 a1 => by have a1 : a < 0 := a1; omega, bt_n7⟩
  obtain ⟨k, n1⟩ := s
  obtain ⟨g1, g2, g3, g4, g5, g6, g7⟩ := hs
  simp only at g1 g2 g3 g4 g5 g6 g7
  show ev (nb_Node_copyAttributes_10 f 120 k n1) _
  unfold nb_Node_copyAttributes_10
  rw [g4]
  refine ev_if (fun hlt => ev_ix (by omega) (ev_ix (by omega) (ev_st (ev_ix (by omega) ?_)))) (fun hge => ev_inr ⟨g2, g3, g4, g5, fun a a0 a1 => g6 a a0 (by omega), g7⟩)
  have e18 : n1 18 120 = n 18 120 := (g3.2.1 120 (by omega)).2
  generalize hn2 : nw n1 18 f k (n1 18 120 k) = n2
  have B2 : BI A B n2 := by rw [← hn2]; exact g2.n18
  have F2 : FN f n1 n2 := by rw [← hn2]; exact FN.nw18
  have t2 : ∀ b, bt n2 b = bt n1 b := fun b => by rw [← hn2]; exact bt_n18
  refine ev_bind (cs_clear (b := 5 * f + 1 + k) ⟨by omega, by omega⟩ B2) (fun n3 h3 => ?_)
  obtain ⟨B3, F3, t3⟩ := h3
  have F3' : FN f n2 n3 := FN.fb F3 (fun x hx => by omega)
  have src : bt n3 (601 + k) = bt n (601 + k) := by rw [F3'.bt B2 (by omega) (by omega) (by omega), t2, g3.bt hB (by omega) (by omega) (by omega)]
  have hb3 := B3.1 (601 + k) (by omega) (by omega)
  have hlim : lim (601 + k) = 60 := by unfold lim; rw [if_pos (by omega), if_neg (by omega)]
  have hz3 := hb3.2.2.2.1
  rw [hlim] at hz3
  rw [show (5 : Int) * 120 + 1 + k = 601 + k by omega]
  refine ev_ix (by omega) (ev_ix (by omega) (ev_nn hb3.2.1.1 (ev_ix (by omega) (ev_bind (cs_addAll (b := 5 * f + 1 + k) (i := 0) ⟨by omega, by omega⟩ B3 (B3.txb ⟨by omega, by omega⟩) hb3.2.1.2 (by omega) (Int.le_refl _) ⟨by omega, by omega, by omega⟩ (fun z => ?_)) (fun n4 h4 => ?_)))))
  · have := B3.2.1 (601 + k) (5 * f + 1 + k) (by omega) (by omega) (by omega) (by omega) z
    omega
  · obtain ⟨B4, F4, t4⟩ := h4
    have F4' : FN f n3 n4 := FN.fb F4 (fun x hx => by omega)
    have hnew : bt n4 (5 * f + 1 + k) = bt n (601 + k) := by
      rw [t4, t3, List.nil_append, Int.sub_zero, ← src]
      have hl : lim (5 * f + 1 + k) = 60 := by unfold lim; rw [if_pos (by omega), if_neg (by omega)]
      rw [hl]
      show List.take 60 (bt n3 (601 + k)) = _
      refine List.take_of_length_le ?_
      have := bt_len (b := 601 + k) ⟨by omega, by omega⟩ B3
      omega
    have F : FN f n1 n4 := (F2.trans F3').trans F4'
    have e7 : n4 7 = n1 7 := by rw [F4.1 7 (by decide) (by decide) (by decide) (by decide) (by decide) (by decide), F3.1 7 (by decide) (by decide) (by decide) (by decide) (by decide) (by decide), ← hn2, nw_nK (by decide)]
    have e18' : n4 18 = n2 18 := by rw [F4.1 18 (by decide) (by decide) (by decide) (by decide) (by decide) (by decide), F3.1 18 (by decide) (by decide) (by decide) (by decide) (by decide) (by decide)]
    have ot : ∀ b, 0 ≤ b ∧ b ≤ 604 → b ≠ 5 * f + 1 + k → bt n4 b = bt n1 b := fun b hb hne => by
      rw [(F4.bts B3 (b := b) ⟨by omega, by omega⟩ (by omega) (fun x hx => by omega)).2.2, (F3.bts B2 (b := b) ⟨by omega, by omega⟩ (by omega) (fun x hx => by omega)).2.2, t2]
    refine ev_ck (by omega) (ev_inl ⟨⟨by show 0 ≤ k + 1 ∧ k + 1 ≤ c; omega, B4, g3.trans F, by show n4 7 f 12 = c; rw [e7]; exact g4, fun x hx => by show n4 7 f x = _; rw [e7]; exact g5 x hx, fun a a0 a1 => ?_, ?_⟩, by show c - (k + 1) < c - k; omega, by show 0 ≤ c - k; omega⟩)
    · have a1 : a < k + 1 := a1
      show n4 18 f a = _ ∧ bt n4 (5 * f + 1 + a) = _
      by_cases y : a = k
      · subst y
        refine ⟨?_, hnew⟩
        rw [e18', ← hn2, nw_eq, e18]
      · have := g6 a a0 (by omega)
        refine ⟨?_, ?_⟩
        · rw [e18', ← hn2, nw_ns y]; exact this.1
        · rw [ot _ (by omega) (by omega)]; exact this.2
    · show bt n4 (5 * f) = _
      rw [ot _ (by omega) (by omega)]; exact g7
theorem c_findA (hd : ATs n m v) (hw : ∀ c ∈ w, isBt c) : N_Node_find v (pk w) n = some (if fnd m v w < m 56 v then 5 * v + 1 + fnd m v w else -1) := by
  apply eq_of_ev
  have hc := hd.1
  unfold N_Node_find NL_Node_find_2
  refine ev_bs (P := fun r => r = fnd m v w ∧ r < m 56 v ∧ 0 ≤ r) (R := fun _ => ¬ fnd m v w < m 56 v) ?_ (fun r hr => ev_ix (by omega) (ev_ok ?_)) (fun r hr => ev_ok ?_)
  · refine ev_it (fun s => 0 ≤ s ∧ s ≤ m 56 v ∧ ∀ j, 0 ≤ j → j < s → anL m v j ≠ w) (fun s => m 56 v - s) (fun s hs => ?_) ⟨Int.le_refl _, hc.2.1, fun j a b => by omega⟩
    obtain ⟨g1, g2, g3⟩ := hs
    unfold nb_Node_find_2
    rw [hc.1]
    refine ev_if (fun hlt => ev_ix (by omega) ?_) (fun hge => ev_inr (show ¬ _ from fun hx => ?_))
    · have ha := hd.2 s g1 hlt
      rw [ha.2.2.1]
      refine ev_if (fun he => ev_inr ⟨scx_eq ⟨g1, .inl g2, g3, fun _ z => z (pkq_inj ha.2.1 hw he)⟩, hlt, g1⟩) (fun hne => ev_ck (by omega) (ev_inl ⟨⟨by omega, by omega, fun j a b => ?_⟩, by omega, by omega⟩))
      by_cases e : j = s
      · rw [e]; exact fun z => hne (by rw [z])
      · exact g3 j a (by omega)
    · have := scx_at (p := fun a => anL m v a ≠ w) hx
      exact this (g3 _ (scx_ge _ _) (by unfold fnd at hx; omega))
  · rw [if_pos (by rw [← hr.1]; exact hr.2.1), hr.1]
  · rw [if_neg hr]
theorem y_findA {W : Int} (hd : ATs n m v) (hv : 0 ≤ v ∧ v < 120) (h : 0 ≤ W ∧ W < 36893488147419103232) : N_Y_attributeOf v W m = some (if fnd m v (wl W) < m 56 v then 4 * v + fnd m v (wl W) else -1) := by
  apply eq_of_ev
  have hc := hd.1
  unfold N_Y_attributeOf NL_Y_attributeOf_3
  refine ev_bs (P := fun r => r = 4 * v + fnd m v (wl W) ∧ fnd m v (wl W) < m 56 v) (R := fun _ => ¬ fnd m v (wl W) < m 56 v) ?_ (fun r hr => ev_ok ?_) (fun r hr => ev_ok ?_)
  · refine ev_it (fun s => 0 ≤ s ∧ s ≤ m 56 v ∧ ∀ j, 0 ≤ j → j < s → anL m v j ≠ wl W) (fun s => m 56 v - s) (fun s hs => ?_) ⟨Int.le_refl _, hc.2.1, fun j a b => by omega⟩
    obtain ⟨g1, g2, g3⟩ := hs
    unfold nb_Y_attributeOf_3
    refine ev_ix hv (ev_if (fun hlt => ?_) (fun hge => ev_inr (show ¬ _ from fun hx => ?_)))
    · have ha := hd.2 s g1 hlt
      have hn1 := ha.1
      have next : anL m v s ≠ wl W → ev (ck (s + 1) <| some (Sum.inl (s + 1))) (lp (fun s => 0 ≤ s ∧ s ≤ m 56 v ∧ ∀ j, 0 ≤ j → j < s → anL m v j ≠ wl W) (fun s => m 56 v - s) s (sp (fun r => r = 4 * v + fnd m v (wl W) ∧ fnd m v (wl W) < m 56 v) (fun _ : Unit => ¬ fnd m v (wl W) < m 56 v))) := fun hne => by
        refine ev_ck (by omega) (ev_inl ⟨⟨by omega, by omega, fun j a b => ?_⟩, by omega, by omega⟩)
        by_cases e : j = s
        · rw [e]; exact hne
        · exact g3 j a (by omega)
      refine ev_ck (by omega) (ev_ck (by omega) (ev_ix (by omega) ?_))
      rw [ys_lengthOf h]
      simp only [Option.bind_some]
      refine ev_if (fun he => ?_) (fun hne => next (fun z => hne ?_))
      · refine ev_ck (by omega) (ev_ck (by omega) (ev_ix (by omega) (ev_ck (by omega) ?_)))
        have hm := mtR_sg (g := m 57) (wl W) (8 * (4 * v + s)) (to := 8 * (4 * v + s) + m 58 (4 * v + s)) (by omega)
        have e1 : anL m v s = sg (m 57) (8 * (4 * v + s)) (8 * (4 * v + s) + m 58 (4 * v + s) - 8 * (4 * v + s)).toNat := by
          unfold anL; rw [show 8 * (4 * v + s) + m 58 (4 * v + s) - 8 * (4 * v + s) = m 58 (4 * v + s) by omega]
        refine ev_bz (ys_isWord (f := 57) h (by show _ ≤ (3840 : Int); omega) (by omega) (by omega) (by omega)) (fun hp => ?_) (fun hp => ?_)
        · rw [if_neg (by decide)]
          have ee : anL m v s = wl W := by rw [e1]; exact hm.mp hp
          have es : s = fnd m v (wl W) := scx_eq ⟨g1, .inl g2, g3, fun _ z => z ee⟩
          exact ev_inr ⟨by omega, by omega⟩
        · rw [if_pos rfl]
          exact next (fun z => hp (hm.mpr (by rw [← e1]; exact z)))
      · rw [← z]; unfold anL; rw [sg_len]; omega
    · have := scx_at (p := fun a => anL m v a ≠ wl W) hx
      exact this (g3 _ (scx_ge _ _) (by unfold fnd at hx; omega))
  · rw [if_pos hr.2, hr.1]
  · rw [if_neg hr]
end H8
