/-! THE CLASS'S TREE, and its list -/
section B2a
variable {N : Int} {o e p par fk nx : Int → Int}
theorem TG.last (h : TG N o e p par fk nx) {k : Int} (h0 : 0 ≤ k) (h1 : k < N) (hk : k + 1 < e k) : ∃ j, k < j ∧ j < e k ∧ p j = k ∧ e j = e k := by
  have hek := h.eB h0 h1
  have : ∀ (d : Nat) (j : Int), (e k - j).toNat ≤ d → k < j → j < e k → p j = k → ∃ j, k < j ∧ j < e k ∧ p j = k ∧ e j = e k := by
    intro d
    induction d with
    | zero => intro j hd a b _; omega
    | succ d ih =>
      intro j hd a b hp
      have hj := h.eB (k := j) (by omega) (by omega)
      have hn := h.nest h0 a b (by omega)
      rcases Int.lt_or_eq_of_le hn with h2 | h2
      · exact ih (e j) (by omega) (by omega) h2 (h.sib (by omega) (by omega) hp h2)
      · exact ⟨j, a, b, hp, h2⟩
  have hp : p (k + 1) = k := by
    have := h.inP (t := k) (k := k + 1) h0 h1 (by omega) hk
    have := h.pB (k := k + 1) (by omega) (by omega)
    omega
  exact this _ (k + 1) (Nat.le_refl _) (by omega) hk hp
theorem TG.cg {par' fk' nx' : Int → Int} (h : TG N o e p par fk nx) (h1 : ∀ k, 0 ≤ k → k < N → par' (o k) = par (o k) ∧ fk' (o k) = fk (o k) ∧ nx' (o k) = nx (o k)) : TG N o e p par' fk' nx' := by
  obtain ⟨a1, a2, a3, a4, a5, a6, a7, a8, a9, a10⟩ := h
  have h0 := h1 0 (by omega) (by omega)
  refine ⟨⟨a1.1, a1.2.1, a1.2.2.1, a1.2.2.2.1, by rw [h0.1]; exact a1.2.2.2.2.1, by rw [h0.2.2]; exact a1.2.2.2.2.2⟩, a2, a3, a4, a5, a6, a7, fun k x y => ?_, fun k x y => ?_, fun k x y => ?_⟩
  · rw [(h1 k (by omega) y).1]; exact a8 k x y
  · rw [(h1 k (by omega) y).2.1]; exact a9 k x y
  · rw [(h1 k (by omega) y).2.2]; exact a10 k x y
end B2a
def TC (n : NS) (N : Int) (o e p : Int → Int) : Prop := TG N o e p (fun v => n 7 v 2) (fun v => n 7 v 3) (fun v => n 7 v 5) ∧ TL N o e p (fun v => n 7 v 4)
/-- the list is as the tree is -/
def LSt (n : NS) (N : Int) (o e : Int → Int) : Prop := n 10 0 3 = N ∧ ∀ k, 0 ≤ k → k < N → n 22 0 k = o k ∧ n 7 (o k) 8 = k ∧ n 7 (o k) 9 = e k
/-- nothing but the list has changed -/
def FL (n n' : NS) : Prop := (∀ K, K ≠ 7 → K ≠ 10 → K ≠ 22 → n' K = n K) ∧ (∀ v s, s ≠ 8 → s ≠ 9 → n' 7 v s = n 7 v s) ∧ (∀ s, s ≠ 3 → s ≠ 4 → n' 10 0 s = n 10 0 s)
theorem FL.refl (n : NS) : FL n n := ⟨fun _ _ _ _ => rfl, fun _ _ _ _ => rfl, fun _ _ _ => rfl⟩
theorem FL.trans {n n' n'' : NS} (h : FL n n') (h' : FL n' n'') : FL n n'' := ⟨fun K a b c => (h'.1 K a b c).trans (h.1 K a b c), fun v s a b => (h'.2.1 v s a b).trans (h.2.1 v s a b), fun s a b => (h'.2.2 s a b).trans (h.2.2 s a b)⟩
theorem FL.TC {n n' : NS} {N : Int} {o e p : Int → Int} (h : FL n n') (hT : TC n N o e p) : TC n' N o e p := by
  refine ⟨hT.1.cg (fun k _ _ => ⟨h.2.1 _ 2 (by decide) (by decide), h.2.1 _ 3 (by decide) (by decide), h.2.1 _ 5 (by decide) (by decide)⟩), fun k a b c => ?_, fun k j a b c d f => ?_⟩
  · exact (h.2.1 _ 4 (by decide) (by decide)).trans (hT.2.1 k a b c)
  · exact (h.2.1 _ 4 (by decide) (by decide)).trans (hT.2.2 k j a b c d f)
section B2b
variable {n : NS} {N : Int} {o e p : Int → Int}
theorem c_next (h : TC n N o e p) {j : Int} (h0 : 0 ≤ j) (h1 : j < N) : NL_Tree_list_86 (n 7 (o j) 3) (o j) n = some (if j + 1 < N then o (j + 1) else -1) := by
  apply eq_of_ev
  have hT := h.1
  have hje := hT.eB h0 h1
  unfold NL_Tree_list_86
  refine ev_itg (I := fun (s : Int × Int) x => (s.1 = -1 ∧ 0 ≤ x ∧ x ≤ j ∧ s.2 = o x ∧ e x = j + 1) ∨ (s.1 = o (j + 1) ∧ j + 1 < N) ∨ (s.1 = -1 ∧ s.2 = -1 ∧ N = j + 1 ∧ x = -1)) (fun s x hs => ?_) (x := j) ?_
  · obtain ⟨nx, up⟩ := s
    simp only at hs
    show ev (nb_Tree_list_86 nx up n) _
    unfold nb_Tree_list_86
    rcases hs with ⟨a, b, c, d, f⟩ | ⟨a, b⟩ | ⟨a, b, c, d⟩
    · have hob := hT.oB (k := x) b (by omega)
      subst a d
      refine ev_if (fun _ => ev_if (fun hz => by omega) (fun _ => ev_ix hob (ev_ix hob ?_))) (fun hz => absurd rfl hz)
      by_cases hx : x = 0
      · subst hx
        have e0 := hT.e0
        exact ev_gl (x' := -1) (.inr (.inr ⟨hT.nx0, hT.par0, by omega, rfl⟩)) (by omega) (by omega)
      · have hp := hT.pB (k := x) (by omega) (by omega)
        have hn := hT.nxE (k := x) (by omega) (by omega)
        have hpar := hT.parE (k := x) (by omega) (by omega)
        have hep := hT.ep (k := x) (by omega) (by omega)
        try simp only at hn hpar
        by_cases hc : e x < e (p x)
        · have := (hT.eB (k := p x) (by omega) (by omega)).2
          rw [if_pos hc, f] at hn
          exact ev_gl (x' := x - 1) (.inr (.inl ⟨hn, by omega⟩)) (by omega) (by omega)
        · rw [if_neg hc] at hn
          exact ev_gl (x' := p x) (.inl ⟨hn, by omega, by omega, hpar, by omega⟩) (by omega) (by omega)
    · have hob := hT.oB (k := j + 1) (by omega) b
      subst a
      refine ev_if (fun hz => by omega) (fun _ => ev_gr ?_)
      rw [if_pos b]
    · subst a b
      exact ev_if (fun _ => ev_if (fun _ => ev_gr (by rw [if_neg (by omega)])) (fun hz => absurd rfl hz)) (fun hz => absurd rfl hz)
  · have hf := hT.fkE h0 h1
    try simp only at hf
    by_cases hc : j + 1 < e j
    · rw [if_pos hc] at hf
      exact .inr (.inl ⟨hf, by omega⟩)
    · rw [if_neg hc] at hf
      exact .inl ⟨hf, h0, Int.le_refl _, rfl, by omega⟩
end B2b
section B2c
variable {n : NS} {N : Int} {o e p : Int → Int}
theorem c_list27 (h : TC n N o e p) (hl : n 10 0 3 = 0) : ev (NL_Tree_list_27 0 n) (fun n' => FL n n' ∧ n' 10 0 4 = n 10 0 4 ∧ n' 10 0 3 = N ∧ ∀ k, 0 ≤ k → k < N → n' 22 0 k = o k ∧ n' 7 (o k) 8 = k) := by
  have hT := h.1
  have hN := hT.N1
  unfold NL_Tree_list_27
  refine ev_itg (I := fun (s : Int × NS) x => FL n s.2 ∧ s.2 10 0 4 = n 10 0 4 ∧ 0 ≤ x ∧ x ≤ N ∧ s.2 10 0 3 = N - x ∧ s.1 = (if N - x < N then o (N - x) else -1) ∧ ∀ k, 0 ≤ k → k < N - x → s.2 22 0 k = o k ∧ s.2 7 (o k) 8 = k) (fun s x hs => ?_) (x := N) ⟨FL.refl _, rfl, by omega, Int.le_refl _, by show n 10 0 3 = _; omega, by show (0 : Int) = _; rw [if_pos (by omega), show N - N = 0 by omega, hT.o0], fun k a b => by omega⟩
  obtain ⟨v, n1⟩ := s
  obtain ⟨g1, g0, g2, g3, g4, g5, g6⟩ := hs
  simp only at g1 g0 g4 g5 g6
  show ev (nb_Tree_list_27 v n1) _
  unfold nb_Tree_list_27
  by_cases hx : x = 0
  · subst hx
    rw [if_neg (by omega)] at g5
    exact ev_if (fun _ => ev_gr ⟨g1, g0, by omega, fun k a b => g6 k a (by omega)⟩) (fun hz => absurd g5 hz)
  · rw [if_pos (by omega)] at g5
    generalize hj : N - x = j at *
    have hob := hT.oB (k := j) (by omega) (by omega)
    refine ev_if (fun hz => by omega) (fun _ => ev_if (fun _ => ev_ix (by omega) (ev_st ?_)) (fun hz => by omega))
    have e1 : nw n1 7 v 8 (n1 10 0 3) 10 0 3 = j := by rw [nw_nK (by decide)]; exact g4
    rw [e1]
    refine ev_ix (by omega) (ev_st ?_)
    generalize hn2 : nw (nw n1 7 v 8 (n1 10 0 3)) 22 0 j v = n2
    have e2 : n2 10 0 3 = j := by rw [← hn2, nw_nK (by decide)]; exact e1
    rw [e2]
    refine ev_ck (by omega) (ev_st ?_)
    generalize hn3 : nw n2 10 0 3 (j + 1) = n3
    have r7 : ∀ u s, n3 7 u s = if u = v ∧ s = 8 then j else n1 7 u s := fun u s => by
      rw [← hn3, nw_nK (by decide), ← hn2, nw_nK (by decide), nw_app, g4]
      simp
    have r22 : ∀ k, n3 22 0 k = if k = j then v else n1 22 0 k := fun k => by
      rw [← hn3, nw_nK (by decide), ← hn2, nw_app]
      by_cases hk : k = j
      · rw [if_pos ⟨rfl, rfl, hk⟩, if_pos hk]
      · rw [if_neg (fun z => hk z.2.2), if_neg hk, nw_nK (by decide)]
    have r10 : ∀ s, n3 10 0 s = if s = 3 then j + 1 else n1 10 0 s := fun s => by
      rw [← hn3, nw_app]
      by_cases hk : s = 3
      · rw [if_pos ⟨rfl, rfl, hk⟩, if_pos hk]
      · rw [if_neg (fun z => hk z.2.2), if_neg hk, ← hn2, nw_nK (by decide), nw_nK (by decide)]
    have rK : ∀ K, K ≠ 7 → K ≠ 10 → K ≠ 22 → n3 K = n1 K := fun K a b c => by rw [← hn3, nw_nK b, ← hn2, nw_nK c, nw_nK a]
    have hF : FL n n3 := by
      refine g1.trans ⟨rK, fun u s a b => ?_, fun s a b => ?_⟩
      · rw [r7, if_neg (fun z => a z.2)]
      · rw [r10, if_neg a]
    refine ev_ix (by omega) ?_
    rw [g5]
    refine ev_eq (c_next (hF.TC h) (by omega) (by omega)) ?_
    refine ev_gl (x' := x - 1) ⟨hF, by show n3 10 0 4 = _; rw [r10, if_neg (by decide)]; exact g0, by omega, by omega, by show n3 10 0 3 = _; rw [r10, if_pos rfl]; omega, by show (if j + 1 < N then o (j + 1) else -1) = _; rw [show N - (x - 1) = j + 1 by omega], fun k a b => ?_⟩ (by omega) (by omega)
    show n3 22 0 k = o k ∧ n3 7 (o k) 8 = k
    rw [r22, r7]
    by_cases hk : k = j
    · subst hk
      rw [if_pos rfl, g5, if_pos ⟨rfl, rfl⟩]; exact ⟨rfl, rfl⟩
    · have hne : o k ≠ v := fun z => hk (hT.inj a (by omega) (by omega) (by omega) (by rw [z, g5]))
      rw [if_neg hk, if_neg (fun z => hne z.1)]
      exact g6 k a (by omega)
theorem c_list131 (h : TC n N o e p) (hl : n 10 0 3 = N) (ho : ∀ k, 0 ≤ k → k < N → n 22 0 k = o k ∧ n 7 (o k) 8 = k) : ev (NL_Tree_list_131 (N - 1) n) (fun n' => FL n n' ∧ n' 10 0 4 = n 10 0 4 ∧ LSt n' N o e) := by
  have hT := h.1
  have hN := hT.N1
  unfold NL_Tree_list_131
  refine ev_it (fun s : Int × NS => -1 ≤ s.1 ∧ s.1 < N ∧ (∀ K, K ≠ 7 → s.2 K = n K) ∧ (∀ v t, t ≠ 9 → s.2 7 v t = n 7 v t) ∧ ∀ k, s.1 < k → k < N → s.2 7 (o k) 9 = e k) (fun s => s.1 + 1) (fun s hs => ?_) ⟨by show -1 ≤ N - 1; omega, by show N - 1 < N; omega, fun _ _ => rfl, fun _ _ _ => rfl, fun k a b => by simp only at a; omega⟩
  obtain ⟨j, n1⟩ := s
  obtain ⟨g1, g2, g3, g4, g5⟩ := hs
  simp only at g1 g2 g3 g4 g5
  show ev (nb_Tree_list_131 j n1) _
  unfold nb_Tree_list_131
  refine ev_if (fun hneg => ?_) (fun hpos => ?_)
  · refine ev_inr ⟨⟨fun K a _ _ => g3 K a, fun v s _ b => g4 v s b, fun s _ _ => by rw [g3 10 (by decide)]⟩, by rw [g3 10 (by decide)], by rw [g3 10 (by decide)]; exact hl, fun k a b => ⟨?_, ?_, g5 k (by omega) b⟩⟩
    · rw [g3 22 (by decide)]; exact (ho k a b).1
    · rw [g4 _ _ (by decide)]; exact (ho k a b).2
  · have hob := hT.oB (k := j) (by omega) g2
    have hej := hT.eB (k := j) (by omega) g2
    have e1 : n1 22 0 j = o j := by rw [g3 22 (by decide)]; exact (ho j (by omega) g2).1
    rw [e1]
    have step : ∀ w, w = e j → ev (nk_Tree_list_174 j w (o j) n1) (lp (fun s : Int × NS => -1 ≤ s.1 ∧ s.1 < N ∧ (∀ K, K ≠ 7 → s.2 K = n K) ∧ (∀ v t, t ≠ 9 → s.2 7 v t = n 7 v t) ∧ ∀ k, s.1 < k → k < N → s.2 7 (o k) 9 = e k) (fun s => s.1 + 1) (j, n1) (fun n' => FL n n' ∧ n' 10 0 4 = n 10 0 4 ∧ LSt n' N o e)) := fun w hw => by
      unfold nk_Tree_list_174
      refine ev_st (ev_ck (by omega) (ev_inl ⟨⟨by show -1 ≤ j + -1; omega, by show j + -1 < N; omega, fun K a => ?_, fun v t a => ?_, fun k a b => ?_⟩, by show j + -1 + 1 < j + 1; omega, by show 0 ≤ j + 1; omega⟩))
      · show nw n1 7 (o j) 9 w K = _; rw [nw_nK a]; exact g3 K a
      · show nw n1 7 (o j) 9 w 7 v t = _; rw [nw_ns a]; exact g4 v t a
      · show nw n1 7 (o j) 9 w 7 (o k) 9 = _
        simp only at a
        by_cases hk : k = j
        · rw [hk, nw_eq, hw]
        · have : o k ≠ o j := fun z => hk (hT.inj (by omega) b (by omega) g2 z)
          rw [nw_ni this]; exact g5 k (by omega) b
    refine ev_ix (by omega) (ev_ix hob ?_)
    rw [g4 _ 4 (by decide)]
    by_cases hc : j + 1 < e j
    · obtain ⟨i, a, b, c, d⟩ := hT.last (by omega) g2 hc
      have hlk := h.2.2 j i (by omega) a (by omega) c d
      have hoi := hT.oB (k := i) (by omega) (by omega)
      try simp only at hlk
      rw [hlk]
      refine ev_if (fun hz => by omega) (fun _ => ev_ix hoi (step _ ?_))
      rw [g5 i a (by omega), d]
    · have hlk := h.2.1 j (by omega) g2 (by omega)
      try simp only at hlk
      rw [hlk]
      exact ev_if (fun _ => ev_ck (by omega) (step _ (by omega))) (fun hz => absurd rfl hz)
/-- the list is brought up to date -/
theorem c_list (h : TC n N o e p) (hl : n 10 0 4 = n 10 0 6 → LSt n N o e) : ev (N_Tree_list n) (fun n' => FL n n' ∧ n' 10 0 4 = n' 10 0 6 ∧ LSt n' N o e) := by
  unfold N_Tree_list
  refine ev_if (fun he => ev_ok ⟨FL.refl _, he, hl he⟩) (fun hne => ev_st (ev_st ?_))
  generalize hn2 : nw (nw n 10 0 4 (n 10 0 6)) 10 0 3 0 = n2
  have r10 : ∀ s, n2 10 0 s = if s = 3 then 0 else if s = 4 then n 10 0 6 else n 10 0 s := fun s => by
    rw [← hn2, nw_app, nw_app]; simp
  have hF : FL n n2 := by
    refine ⟨fun K a b c => by rw [← hn2, nw_nK b, nw_nK b], fun v s a b => by rw [← hn2, nw_nK (by decide), nw_nK (by decide)], fun s a b => by rw [r10, if_neg a, if_neg b]⟩
  refine ev_bind (c_list27 (hF.TC h) (by rw [r10, if_pos rfl])) (fun n3 h3 => ?_)
  unfold nk_Tree_list_124
  have hN := h.1.N1
  rw [h3.2.2.1]
  refine ev_ck (by omega) ?_
  rw [bind_id]
  refine ev_mono (c_list131 (h3.1.TC (hF.TC h)) h3.2.2.1 h3.2.2.2) (fun n4 h4 => ⟨hF.trans (h3.1.trans h4.1), ?_, h4.2.2⟩)
  rw [h4.2.1, h3.2.1, r10, if_neg (by decide), if_pos rfl, h4.1.2.2 6 (by decide) (by decide), h3.1.2.2 6 (by decide) (by decide), r10, if_neg (by decide), if_neg (by decide)]
end B2c
