/-! HISTORY, in both -/
def JHs (As : Int → Prop) (n : NS) (m : YS) : Prop :=
  (n 6 0 18 = m 148 0 ∧ n 6 0 19 = m 149 0 ∧ 0 ≤ m 149 0 ∧ m 149 0 < m 148 0 ∧ m 148 0 ≤ 20)
  ∧ (∀ i, 0 ≤ i → i < 20 → As (n 27 0 i) ∧ 1591 ≤ n 27 0 i ∧ n 27 0 i < 1631)
  ∧ (∀ i j, 0 ≤ i → i < 20 → 0 ≤ j → j < 20 → n 27 0 i = n 27 0 j → i = j)
  ∧ (∀ i, 0 ≤ i → i < m 148 0 → AR n m (n 27 0 i) (26 + i))
/-- ADDRESSES of history -/
abbrev hiA (x : Int) : Prop := 1591 ≤ x ∧ x < 1631
def FHn (As Bs : Int → Prop) (n n' : NS) : Prop := FQ As Bs hiA n n' ∧ (∀ K, K ≠ 6 → K ≠ 27 → K ≠ 99 → n' K = n K) ∧ (∀ s, s ≠ 18 → s ≠ 19 → n' 6 0 s = n 6 0 s) ∧ FS (fun _ => False) n n' ∧ FQ7 n n'
def FHy (m m' : YS) : Prop := FY [6, 7, 8, 148, 149] m m' ∧ ∀ r, ¬ (26 ≤ r ∧ r < 46) → RwE m m' r
section K2
variable {n n' n'' : NS} {m m' m'' : YS} {A B a i v1 v2 k l t h : Int} {nm q mk : List Int} {ss : List (List Int)} {As Bs W S : Int → Prop} {κ : Int → Int}
theorem AR.fq {r : Int} (hp : AR n m a r) (hF : FQ As Bs W n n') (ha : As a) (hw : ¬ W a) (hr : RwE m m' r) : AR n' m' a r := by
  obtain ⟨nm, ss, q, mk, w, c, p⟩ := hp
  exact ⟨nm, ss, q, mk, w, c.fq hF ha hw, p.rw w hr⟩
theorem JHs.cg (hJ : JHs As n m) (hF : FQ As Bs W n n') (hW : ∀ x, W x → ¬ hiA x) (h6 : n' 6 0 18 = n 6 0 18 ∧ n' 6 0 19 = n 6 0 19) (h27 : n' 27 = n 27) (hm : m' 148 = m 148 ∧ m' 149 = m 149) (hr : ∀ r, 26 ≤ r → r < 46 → RwE m m' r) : JHs As n' m' := by
  obtain ⟨h1, h2, h3, h4⟩ := hJ
  refine ⟨by rw [h6.1, h6.2, hm.1, hm.2]; exact h1, by rw [h27]; exact h2, by rw [h27]; exact h3, fun i i0 i1 => ?_⟩
  rw [hm.1] at i1
  rw [h27]
  have := h2 i i0 (by omega)
  exact (h4 i i0 i1).fq hF this.1 (fun z => hW _ z ⟨this.2.1, this.2.2⟩) (hr _ (by omega) (by omega))
/-- the page's ADDRESS comes to a place in history -/
theorem put69 (hA : AdS n As) (hbs : BsI n As Bs) (hB : BI A B n) (h2 : As 1582) (hP : AR n m 1582 1) (hh : 0 ≤ h ∧ h < 20) (e19 : n 6 0 19 = h) (g2 : ∀ i, 0 ≤ i → i < 20 → As (n 27 0 i) ∧ 1591 ≤ n 27 0 i ∧ n 27 0 i < 1631) (g3 : ∀ i j, 0 ≤ i → i < 20 → 0 ≤ j → j < 20 → n 27 0 i = n 27 0 j → i = j) (g4 : ∀ i, 0 ≤ i → i < h → AR n m (n 27 0 i) (26 + i)) (e148 : m 148 0 = h) :
    ∃ n' m', nk_Net_pushHistory_69 n = some n' ∧ nk_Y_remember_57 m = some m' ∧ JHs As n' m' ∧ FHn As Bs n n' ∧ FHy m m' := by
  obtain ⟨nm, ss, q, mk, w, c, p⟩ := hP
  have hg := g2 h hh.1 hh.2
  have hAC := (hA _ hg.1).1
  obtain ⟨n1, ec, s, t, hs0, en1, hCs⟩ := c_copy hA hg.1 h2 (by omega) c w
  generalize hm1 : yw m 149 0 (m 148 0) = m1
  have f1 : FY [149] m m1 := fun g hg => by rw [← hm1]; exact yw_nF (by simp only [List.mem_cons, List.not_mem_nil, or_false] at hg; exact hg)
  have e1481 : m1 148 0 = h := by rw [f1 148 (by decide)]; exact e148
  obtain ⟨m2, ey, y2⟩ := y_copyRow (m := m1) (to := 26 + h) (fr := 1) (by omega) (by decide) (by omega)
  have e1482 : m2 148 0 = h := by rw [y2.1 148 (by decide)]; exact e1481
  have hR1 := p.rw w (RwE.of (f1 6 (by decide)) (f1 7 (by decide)) (f1 8 (by decide)))
  have fq : FQ As Bs hiA n n1 := by rw [en1]; exact FQ.aw hA hbs hg.1 ⟨hg.2.1, hg.2.2⟩ hs0
  have k1 : ∀ K, K ≠ 99 → n1 K = n K := fun K hK => by rw [en1]; exact aw_K hK
  have hne := hAC.ne
  have rw2 : ∀ r, r ≠ 26 + h → RwE m m2 r := fun r hr => (RwE.of (f1 6 (by decide)) (f1 7 (by decide)) (f1 8 (by decide))).trans (RwE.cp y2 hr)
  generalize hn2 : nw n1 6 0 18 (h + 1) = n2
  have k2 : ∀ K, K ≠ 6 → n2 K = n1 K := fun K hK => by rw [← hn2]; exact nw_nK hK
  have s2 : ∀ s, s ≠ 18 → n2 6 0 s = n1 6 0 s := fun s hs => by rw [← hn2]; exact nw_ns hs
  generalize hm3 : yw m2 148 0 (h + 1) = m3
  have f3 : FY [148] m2 m3 := fun g hg => by rw [← hm3]; exact yw_nF (by simp only [List.mem_cons, List.not_mem_nil, or_false] at hg; exact hg)
  have r3 : ∀ r, RwE m2 m3 r := fun r => RwE.of (f3 6 (by decide)) (f3 7 (by decide)) (f3 8 (by decide))
  have e149 : m3 149 0 = h := by rw [f3 149 (by decide), y2.1 149 (by decide), ← hm1, yw_eq, e148]
  have e1483 : m3 148 0 = h + 1 := by rw [← hm3, yw_eq]
  have fq2 : FQ As Bs hiA n1 n2 := FQ.ks (fun K hK => k2 K (by omega))
  refine ⟨n2, m3, ?_, ?_, ⟨⟨?_, ?_, by omega, by omega, by omega⟩, ?_, ?_, fun i i0 i1 => ?_⟩, ⟨fq.trans fq2, fun K a b c => by rw [k2 K a, k1 K c], fun s a b => by rw [s2 s a, k1 6 (by decide)], ?_, (by rw [en1]; exact FQ7.aw hA hg.1 : FQ7 n n1).trans fq (FQ7.ks (k2 99 (by decide)))⟩, ⟨fun g hg => ?_, fun r hr => (rw2 r (by omega)).trans (r3 r)⟩⟩
  · unfold nk_Net_pushHistory_69 ix nn ty ck st
    dsimp only
    rw [e19, if_pos hh, if_pos hAC.1.1, if_pos hAC.2.1, ec]
    simp only [Option.bind_some]
    rw [k1 6 (by decide), e19, if_pos (by omega), hn2]
  · unfold nk_Y_remember_57 st ck
    dsimp only
    rw [hm1, e1481, if_pos (by omega), ey]
    simp only [Option.bind_some]
    rw [e1482, if_pos (by omega), hm3]
  · rw [← hn2, nw_eq, e1483]
  · rw [s2 19 (by decide), k1 6 (by decide), e19, e149]
  · intro i i0 i1
    rw [k2 27 (by decide), k1 27 (by decide)]; exact g2 i i0 i1
  · intro i j
    rw [k2 27 (by decide), k1 27 (by decide)]; exact g3 i j
  · rw [e1483] at i1
    rw [k2 27 (by decide), k1 27 (by decide)]
    by_cases z : i = h
    · subst z
      refine ⟨nm, ss, q, mk, w, ?_, (y2.made hR1 w).rw w (r3 _)⟩
      unfold CA
      rw [k2 99 (by decide), en1, aw_a hne, hs0, aw_T]; exact hCs
    · have hg' := g2 i i0 (by omega)
      have := hA.chg (s := s) (t := t) hg.1 hs0
      have hx := this.2 (n 27 0 i) hg'.1 (fun y => z (g3 i h i0 (by omega) hh.1 hh.2 y))
      obtain ⟨nm', ss', q', mk', w', c', p'⟩ := g4 i i0 (by omega)
      refine ⟨nm', ss', q', mk', w', ?_, (p'.rw w' (rw2 _ (by omega))).rw w' (r3 _)⟩
      unfold CA at c' ⊢
      rw [k2 99 (by decide), en1, hx.1, hx.2]; exact c'
  · exact (by rw [en1]; exact FS.aw hA hg.1 hB : FS (fun _ => False) n n1).trans (FS.ks (k2 4 (by decide)) (k2 99 (by decide)))
  · simp only [List.mem_cons, List.not_mem_nil, or_false, not_or] at hg
    rw [f3 g (by simp only [List.mem_cons, List.not_mem_nil, or_false]; omega), y2.1 g (by simp only [List.mem_cons, List.not_mem_nil, or_false, not_or]; omega), f1 g (by simp only [List.mem_cons, List.not_mem_nil, or_false]; omega)]
theorem c_push20 (h2 : ∀ i, 0 ≤ i → i < 20 → 0 ≤ n 27 0 i ∧ n 92 0 (n 27 0 i) = 101) : ev (NL_Net_pushHistory_20 v1 0 n) (fun n' => (∀ K, K ≠ 27 → n' K = n K) ∧ (∀ i, 0 ≤ i → i < 19 → n' 27 0 i = n 27 0 (i + 1)) ∧ n' 27 0 19 = n 27 0 19) := by
  unfold NL_Net_pushHistory_20
  refine ev_it (fun t : Int × NS => (0 ≤ t.1 ∧ t.1 ≤ 19) ∧ (∀ K, K ≠ 27 → t.2 K = n K) ∧ (∀ i, 0 ≤ i → i < t.1 → t.2 27 0 i = n 27 0 (i + 1)) ∧ ∀ i, t.1 ≤ i → i < 20 → t.2 27 0 i = n 27 0 i) (fun t => 19 - t.1) (fun t ht => ?_) ⟨by show (0 : Int) ≤ 0 ∧ (0 : Int) ≤ 19; decide, fun _ _ => rfl, fun i a b => by have b : i < 0 := b; omega, fun _ _ _ => rfl⟩
  obtain ⟨t, n2⟩ := t
  obtain ⟨g1, g2, g3, g4⟩ := ht
  simp only at g1 g2 g3 g4
  show ev (nb_Net_pushHistory_20 v1 t n2) _
  unfold nb_Net_pushHistory_20
  refine ev_ck (by omega) (ev_if (fun hlt => ?_) (fun hge => ev_inr ⟨g2, fun i a b => g3 i a (by omega), g4 19 (by omega) (by decide)⟩))
  have e1 := g4 (t + 1) (by omega) (by omega)
  have o1 := h2 (t + 1) (by omega) (by omega)
  rw [e1]
  refine ev_ck (by omega) (ev_ix (by omega) (ev_nn o1.1 (ev_ty (by rw [g2 92 (by decide)]; exact o1.2) (ev_ix (by omega) (ev_st (ev_ck (by omega) (ev_inl ⟨⟨by show 0 ≤ t + 1 ∧ t + 1 ≤ 19; omega, fun K hK => ?_, fun i a b => ?_, fun i a b => ?_⟩, by show 19 - (t + 1) < 19 - t; omega, by show 0 ≤ 19 - t; omega⟩)))))))
  · show nw n2 27 0 t (n 27 0 (t + 1)) K = n K
    rw [nw_nK hK]; exact g2 K hK
  · have b : i < t + 1 := b
    show nw n2 27 0 t (n 27 0 (t + 1)) 27 0 i = n 27 0 (i + 1)
    by_cases z : i = t
    · rw [z, nw_eq]
    · rw [nw_ns z]; exact g3 i a (by omega)
  · have a : t + 1 ≤ i := a
    show nw n2 27 0 t (n 27 0 (t + 1)) 27 0 i = n 27 0 i
    rw [nw_ns (by omega)]; exact g4 i (by omega) b
theorem y_rem21 : ev (NL_Y_remember_21 1 m) (fun m' => FY [6, 7, 8] m m' ∧ (∀ i, 0 ≤ i → i < 19 → RwC m m' (26 + i) (27 + i)) ∧ ∀ r, ¬ (26 ≤ r ∧ r < 45) → RwE m m' r) := by
  unfold NL_Y_remember_21
  refine ev_it (fun t : Int × YS => (1 ≤ t.1 ∧ t.1 ≤ 20) ∧ FY [6, 7, 8] m t.2 ∧ (∀ i, 0 ≤ i → i + 1 < t.1 → RwC m t.2 (26 + i) (27 + i)) ∧ ∀ r, ¬ (26 ≤ r ∧ r + 1 < 26 + t.1) → RwE m t.2 r) (fun t => 20 - t.1) (fun t ht => ?_) ⟨by show (1 : Int) ≤ 1 ∧ (1 : Int) ≤ 20; decide, fun _ _ => rfl, fun i a b => by have b : i + 1 < 1 := b; omega, fun r _ => RwE.refl m r⟩
  obtain ⟨t, m2⟩ := t
  obtain ⟨g1, g2, g3, g4⟩ := ht
  simp only at g1 g2 g3 g4
  show ev (nb_Y_remember_21 t m2) _
  unfold nb_Y_remember_21
  refine ev_if (fun hlt => ?_) (fun hge => ev_inr ⟨g2, fun i a b => g3 i a (by omega), fun r hr => g4 r (by omega)⟩)
  refine ev_ck (by omega) (ev_ck (by omega) (ev_ck (by omega) (ev_bind (y_copyRow (m := m2) (to := 26 + t - 1) (fr := 26 + t) (by omega) (by omega) (by omega)) (fun m3 h3 => ev_ck (by omega) (ev_inl ⟨⟨by show 1 ≤ t + 1 ∧ t + 1 ≤ 20; omega, g2.trans h3.1, fun i a b => ?_, fun r hr => ?_⟩, by show 20 - (t + 1) < 20 - t; omega, by show 0 ≤ 20 - t; omega⟩)))))
  · have b : i + 1 < t + 1 := b
    by_cases z : i = t - 1
    · subst z
      have g := g4 (26 + t) (by omega)
      show RwC m m3 (26 + (t - 1)) (27 + (t - 1))
      rw [show 27 + (t - 1) = 26 + t by omega, show 26 + (t - 1) = 26 + t - 1 by omega]
      exact ⟨by rw [h3.2.2.2.1, g.1], by rw [h3.2.2.2.2.1, g.2.1], fun j a b => by rw [h3.2.1 j a b, g.2.2 _ (by omega) (by omega)]⟩
    · have g := g3 i a (by omega)
      have e := RwE.cp (r := 26 + i) h3 (by omega)
      show RwC m m3 (26 + i) (27 + i)
      exact ⟨by rw [e.1]; exact g.1, by rw [e.2.1]; exact g.2.1, fun j a b => by rw [e.2.2 _ (by omega) (by omega)]; exact g.2.2 j a b⟩
  · have hr : ¬ (26 ≤ r ∧ r + 1 < 26 + (t + 1)) := hr
    exact (g4 r (by omega)).trans (RwE.cp h3 (by omega))
theorem push_both (hJ : JHs As n m) (hA : AdS n As) (hbs : BsI n As Bs) (hB : BI A B n) (h2 : As 1582) (hP : AR n m 1582 1) : ∃ n' m', N_Net_pushHistory n = some n' ∧ N_Y_remember m = some m' ∧ JHs As n' m' ∧ FHn As Bs n n' ∧ FHy m m' := by
  obtain ⟨h1, g2, g3, g4⟩ := hJ
  have ht : ∀ i, 0 ≤ i → i < 20 → 0 ≤ n 27 0 i ∧ n 92 0 (n 27 0 i) = 101 := fun i a b => by
    have := g2 i a b
    exact ⟨by omega, (hA _ this.1).1.2.1⟩
  generalize hm1 : yw m 148 0 (m 149 0 + 1) = m1
  have f1 : FY [148] m m1 := fun g hg => by rw [← hm1]; exact yw_nF (by simp only [List.mem_cons, List.not_mem_nil, or_false] at hg; exact hg)
  have e148 : m1 148 0 = m 149 0 + 1 := by rw [← hm1, yw_eq]
  have r1 : ∀ r, RwE m m1 r := fun r => RwE.of (f1 6 (by decide)) (f1 7 (by decide)) (f1 8 (by decide))
  by_cases h20 : m 149 0 + 1 = 20
  · obtain ⟨n2, ec, c1, c2, c3⟩ := c_push20 (v1 := n 27 0 0) ht
    generalize hn3 : nw n2 27 0 19 (n 27 0 0) = n3
    have k3 : ∀ K, K ≠ 27 → n3 K = n K := fun K hK => by rw [← hn3, nw_nK hK, c1 K hK]
    have e27 : ∀ i, 0 ≤ i → i < 20 → n3 27 0 i = if i = 19 then n 27 0 0 else n 27 0 (i + 1) := fun i a b => by
      rw [← hn3]
      by_cases z : i = 19
      · rw [if_pos z, z, nw_eq]
      · rw [if_neg z, nw_ns z]; exact c2 i a (by omega)
    obtain ⟨m2, ey, y1, y2, y3⟩ := y_rem21 (m := m1)
    generalize hm3 : yw m2 148 0 19 = m3
    have f3 : FY [148] m2 m3 := fun g hg => by rw [← hm3]; exact yw_nF (by simp only [List.mem_cons, List.not_mem_nil, or_false] at hg; exact hg)
    have r3 : ∀ r, RwE m2 m3 r := fun r => RwE.of (f3 6 (by decide)) (f3 7 (by decide)) (f3 8 (by decide))
    have fq : FQ As Bs hiA n n3 := FQ.ks (fun K hK => k3 K (by omega))
    have hP3 : AR n3 m3 1582 1 := by
      obtain ⟨nm, ss, q, mk, w, c, p⟩ := hP
      exact ⟨nm, ss, q, mk, w, by unfold CA at *; rw [k3 99 (by decide)]; exact c, ((p.rw w (r1 1)).rw w (y3 1 (by omega))).rw w (r3 1)⟩
    obtain ⟨n', m', b1, b2, b3, b4, b5⟩ := put69 (n := n3) (m := m3) (h := 19) (hA.fq fq) (hbs.fq fq) (hB.cg (k3 4 (by decide)) (by rw [k3 5 (by decide)]; exact ⟨rfl, rfl⟩) (k3 90 (by decide)) (k3 91 (by decide)) (k3 92 (by decide)) (k3 93 (by decide))) h2 hP3 (by decide) (by rw [k3 6 (by decide), h1.2.1]; omega) (fun i a b => by
      rw [e27 i a b]
      split
      · exact g2 0 (by decide) (by decide)
      · exact g2 (i + 1) (by omega) (by omega)) (fun i j a b c d e => by
      rw [e27 i a b, e27 j c d] at e
      by_cases y : i = 19 <;> by_cases z : j = 19
      · omega
      · rw [if_pos y, if_neg z] at e
        have := g3 0 (j + 1) (by decide) (by decide) (by omega) (by omega) e; omega
      · rw [if_neg y, if_pos z] at e
        have := g3 (i + 1) 0 (by omega) (by omega) (by decide) (by decide) e; omega
      · rw [if_neg y, if_neg z] at e
        have := g3 (i + 1) (j + 1) (by omega) (by omega) (by omega) (by omega) e; omega) (fun i a b => by
      rw [e27 i a (by omega), if_neg (by omega)]
      obtain ⟨nm, ss, q, mk, w, c, p⟩ := g4 (i + 1) (by omega) (by omega)
      refine ⟨nm, ss, q, mk, w, by unfold CA at *; rw [k3 99 (by decide)]; exact c, ?_⟩
      have hc := y2 i a b
      rw [show 26 + (i + 1) = 27 + i by omega] at p
      exact (hc.ra (p.rw w (r1 _)) w).rw w (r3 _)) (by rw [← hm3, yw_eq])
    refine ⟨n', m', ?_, ?_, b3, ⟨fq.trans b4.1, fun K a b c => by rw [b4.2.1 K a b c, k3 K b], fun s a b => by rw [b4.2.2.1 s a b, k3 6 (by decide)], (FS.ks (k3 4 (by decide)) (k3 99 (by decide))).trans b4.2.2.2.1, (FQ7.ks (k3 99 (by decide))).trans fq b4.2.2.2.2⟩, ⟨fun g hg => ?_, fun r hr => (((r1 r).trans (y3 r (by omega))).trans (r3 r)).trans (b5.2 r hr)⟩⟩
    · unfold N_Net_pushHistory ck ix nn ty st
      dsimp only
      rw [h1.2.1, if_pos (by omega), if_pos h20, if_pos (by decide), if_pos (ht 0 (by decide) (by decide)).1, ec]
      simp only [Option.bind_some]
      rw [c1 92 (by decide), if_pos (ht 0 (by decide) (by decide)).2, if_pos (by decide), hn3]; exact b1
    · unfold N_Y_remember ck st
      dsimp only
      rw [if_pos (by omega), hm1, if_pos (by omega), ey]
      simp only [Option.bind_some]
      have e1482 : m2 148 0 = 20 := by rw [y1 148 (by decide)]; omega
      rw [e1482, if_pos (by decide)]
      show nk_Y_remember_57 (yw m2 148 0 19) = _
      rw [hm3]; exact b2
    · simp only [List.mem_cons, List.not_mem_nil, or_false, not_or] at hg
      rw [b5.1 g (by simp only [List.mem_cons, List.not_mem_nil, or_false, not_or]; omega), f3 g (by simp only [List.mem_cons, List.not_mem_nil, or_false]; omega), y1 g (by simp only [List.mem_cons, List.not_mem_nil, or_false, not_or]; omega), f1 g (by simp only [List.mem_cons, List.not_mem_nil, or_false]; omega)]
  · generalize hn3 : nw n 6 0 19 (m 149 0 + 1) = n3
    have k3 : ∀ K, K ≠ 6 → n3 K = n K := fun K hK => by rw [← hn3]; exact nw_nK hK
    have s3 : ∀ s, s ≠ 19 → n3 6 0 s = n 6 0 s := fun s hs => by rw [← hn3]; exact nw_ns hs
    have fq : FQ As Bs hiA n n3 := FQ.ks (fun K hK => k3 K (by omega))
    have hP3 : AR n3 m1 1582 1 := by
      obtain ⟨nm, ss, q, mk, w, c, p⟩ := hP
      exact ⟨nm, ss, q, mk, w, by unfold CA at *; rw [k3 99 (by decide)]; exact c, p.rw w (r1 1)⟩
    obtain ⟨n', m', b1, b2, b3, b4, b5⟩ := put69 (n := n3) (m := m1) (h := m 149 0 + 1) (hA.fq fq) (hbs.fq fq) (hB.cg (k3 4 (by decide)) (by rw [k3 5 (by decide)]; exact ⟨rfl, rfl⟩) (k3 90 (by decide)) (k3 91 (by decide)) (k3 92 (by decide)) (k3 93 (by decide))) h2 hP3 (by omega) (by rw [← hn3, nw_eq]) (by rw [k3 27 (by decide)]; exact g2) (by rw [k3 27 (by decide)]; exact g3) (fun i a b => by
      rw [k3 27 (by decide)]
      obtain ⟨nm, ss, q, mk, w, c, p⟩ := g4 i a (by omega)
      exact ⟨nm, ss, q, mk, w, by unfold CA at *; rw [k3 99 (by decide)]; exact c, p.rw w (r1 _)⟩) e148
    refine ⟨n', m', ?_, ?_, b3, ⟨fq.trans b4.1, fun K a b c => by rw [b4.2.1 K a b c, k3 K a], fun s a b => by rw [b4.2.2.1 s a b, s3 s b], (FS.ks (k3 4 (by decide)) (k3 99 (by decide))).trans b4.2.2.2.1, (FQ7.ks (k3 99 (by decide))).trans fq b4.2.2.2.2⟩, ⟨fun g hg => ?_, fun r hr => (r1 r).trans (b5.2 r hr)⟩⟩
    · unfold N_Net_pushHistory ck st
      dsimp only
      rw [h1.2.1, if_pos (by omega), if_neg h20, hn3, if_pos (by omega)]; exact b1
    · unfold N_Y_remember ck st
      dsimp only
      rw [if_pos (by omega), hm1, if_neg (by omega)]; exact b2
    · simp only [List.mem_cons, List.not_mem_nil, or_false, not_or] at hg
      rw [b5.1 g (by simp only [List.mem_cons, List.not_mem_nil, or_false, not_or]; omega), f1 g (by simp only [List.mem_cons, List.not_mem_nil, or_false]; omega)]
end K2
