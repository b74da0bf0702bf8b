/-! A NODE GOES: the class -/
/-- b is the one before the kid at place j, or -1 -/
def PV (o e p : Int → Int) (P j b : Int) : Prop := (j = P + 1 ∧ b = -1) ∨ (∃ i, 1 ≤ i ∧ i < j ∧ p i = P ∧ e i = j ∧ b = o i)
def cutC (n : NS) (v P b : Int) : NS :=
  let n1 := if b = -1 then nw n 7 P 3 (n 7 v 5) else nw n 7 b 5 (n 7 v 5)
  let n2 := if n1 7 P 4 = v then nw n1 7 P 4 b else n1
  nw n2 7 P 6 (n2 7 P 6 - 1)
section C3
variable {n : NS} {N k : Int} {o e p : Int → Int}
theorem c_before (h : TC n N o e p) (h1 : 1 ≤ k) (h2 : k < N) {a c : Int} : ev (NL_Tree_remove_39 (o k) a c (-1) (n 7 (o (p k)) 3) n) (fun b => PV o e p (p k) k b) := by
  have hT := h.1
  have hp := hT.pB h1 h2
  have hpe := hT.eB (k := p k) (by omega) (by omega)
  have hek := hT.ep h1 h2
  have hk := hT.eB (k := k) (by omega) h2
  have hp1 : p (p k + 1) = p k := by
    have := hT.inP (t := p k) (k := p k + 1) hp.1 (by omega) (by omega) (by omega)
    have := hT.pB (k := p k + 1) (by omega) (by omega)
    omega
  unfold NL_Tree_remove_39
  refine ev_itg (I := fun (s : Int × Int) x => ∃ j, p k < j ∧ j ≤ k ∧ x = k - j ∧ p j = p k ∧ s.2 = o j ∧ PV o e p (p k) j s.1) (fun s x hs => ?_) (x := k - (p k + 1)) ⟨p k + 1, by omega, by omega, rfl, hp1, ?_, .inl ⟨rfl, rfl⟩⟩
  · obtain ⟨b, cur⟩ := s
    obtain ⟨j, g1, g2, g3, g4, g5, g6⟩ := hs
    simp only at g5 g6
    subst g5
    show ev (nb_Tree_remove_39 (o k) a c b (o j) n) _
    unfold nb_Tree_remove_39
    have hoj := hT.oB (k := j) (by omega) (by omega)
    refine ev_if (fun hz => by omega) (fun _ => ev_if (fun hz => ?_) (fun hz => ?_))
    · have := hT.inj (by omega) (by omega) (by omega) h2 hz
      subst this
      exact ev_gr g6
    · have hjk : j < k := by
        rcases Int.lt_or_eq_of_le g2 with q | q
        · exact q
        · exact absurd (by rw [q]) hz
      have hm := hT.pM h1 h2 g1 hjk
      have hej := hT.eB (k := j) (by omega) (by omega)
      have hnx := hT.nxE (k := j) (by omega) (by omega)
      rw [g4, if_pos (by omega)] at hnx
      refine ev_ix hoj (ev_gl (x' := k - e j) ⟨e j, by omega, hm, rfl, hT.sib (by omega) (by omega) g4 (by omega), hnx, .inr ⟨j, by omega, by omega, g4, rfl, rfl⟩⟩ (by omega) (by omega))
  · have := hT.fkE (k := p k) hp.1 (by omega)
    rw [if_pos (by omega)] at this
    exact this
/-- all in it is free -/
theorem c_free (hT : ∀ i j, 0 ≤ i → i < N → 0 ≤ j → j < N → o i = o j → i = j) (hb : ∀ j, 0 ≤ j → j < N → 0 ≤ o j ∧ o j < 120) (hN : N ≤ 120) (h0 : 0 ≤ k) {E : Int} (hE : k ≤ E ∧ E ≤ N) (ho : ∀ j, 0 ≤ j → j < N → n 22 0 j = o j) (hs : n 10 0 5 = N) (hc : 0 ≤ n 10 0 6 ∧ n 10 0 6 < 2000000000) : ev (N_Tree_free k E n) (fun n' => (∀ K, K ≠ 7 → K ≠ 10 → n' K = n K) ∧ (∀ u s, s ≠ 0 → n' 7 u s = n 7 u s) ∧ (∀ j, k ≤ j → j < E → n' 7 (o j) 0 = -1) ∧ (∀ u, (∀ j, k ≤ j → j < E → o j ≠ u) → n' 7 u 0 = n 7 u 0) ∧ n' 10 0 5 = N - (E - k) ∧ n' 10 0 6 = n 10 0 6 + 1 ∧ (∀ s, s ≠ 5 → s ≠ 6 → n' 10 0 s = n 10 0 s)) := by
  unfold N_Tree_free
  refine ev_bind (P := fun n1 => (∀ K, K ≠ 7 → K ≠ 10 → n1 K = n K) ∧ (∀ u s, s ≠ 0 → n1 7 u s = n 7 u s) ∧ (∀ j, k ≤ j → j < E → n1 7 (o j) 0 = -1) ∧ (∀ u, (∀ j, k ≤ j → j < E → o j ≠ u) → n1 7 u 0 = n 7 u 0) ∧ n1 10 0 5 = N - (E - k) ∧ (∀ s, s ≠ 5 → n1 10 0 s = n 10 0 s)) ?_ (fun n1 h => ?_)
  · unfold NL_Tree_free_2
    refine ev_it (fun s : Int × NS => k ≤ s.1 ∧ s.1 ≤ E ∧ (∀ K, K ≠ 7 → K ≠ 10 → s.2 K = n K) ∧ (∀ u t, t ≠ 0 → s.2 7 u t = n 7 u t) ∧ (∀ j, k ≤ j → j < s.1 → s.2 7 (o j) 0 = -1) ∧ (∀ u, (∀ j, k ≤ j → j < s.1 → o j ≠ u) → s.2 7 u 0 = n 7 u 0) ∧ s.2 10 0 5 = N - (s.1 - k) ∧ (∀ t, t ≠ 5 → s.2 10 0 t = n 10 0 t)) (fun s => E - s.1) (fun s hs' => ?_) ⟨Int.le_refl _, hE.1, fun _ _ _ => rfl, fun _ _ _ => rfl, fun j a b => by simp only at b; omega, fun _ _ => rfl, by show n 10 0 5 = N - (k - k); omega, fun _ _ => rfl⟩
    obtain ⟨j, n1⟩ := s
    obtain ⟨g1, g2, g3, g4, g5, g6, g7, g8⟩ := hs'
    simp only at g1 g2 g3 g4 g5 g6 g7 g8
    show ev (nb_Tree_free_2 E j n1) _
    unfold nb_Tree_free_2
    refine ev_if (fun hlt => ?_) (fun hge => ?_)
    · have hoj := hb j (by omega) (by omega)
      rw [show n1 22 0 j = o j from by rw [g3 22 (by decide) (by decide)]; exact ho j (by omega) (by omega)]
      refine ev_ix (by omega) (ev_ix hoj (ev_st ?_))
      rw [show nw n1 7 (o j) 0 (-1) 10 0 5 = n1 10 0 5 from by rw [nw_nK (by decide)]]
      refine ev_ck (by omega) (ev_st (ev_ck (by omega) (ev_inl ⟨⟨by show k ≤ j + 1; omega, by show j + 1 ≤ E; omega, fun K a b => ?_, fun u t a => ?_, fun i a b => ?_, fun u hu => ?_, ?_, fun t a => ?_⟩, by show E - (j + 1) < E - j; omega, by show 0 ≤ E - j; omega⟩)))
      · show nw (nw n1 7 (o j) 0 (-1)) 10 0 5 (n1 10 0 5 - 1) K = _; rw [nw_nK b, nw_nK a]; exact g3 K a b
      · show nw (nw n1 7 (o j) 0 (-1)) 10 0 5 (n1 10 0 5 - 1) 7 u t = _; rw [nw_nK (by decide), nw_ns a]; exact g4 u t a
      · show nw (nw n1 7 (o j) 0 (-1)) 10 0 5 (n1 10 0 5 - 1) 7 (o i) 0 = _
        simp only at b
        rw [nw_nK (by decide)]
        by_cases hi : i = j
        · rw [hi, nw_eq]
        · rw [nw_ni (fun z => hi (hT i j (by omega) (by omega) (by omega) (by omega) z))]; exact g5 i a (by omega)
      · show nw (nw n1 7 (o j) 0 (-1)) 10 0 5 (n1 10 0 5 - 1) 7 u 0 = _
        simp only at hu
        rw [nw_nK (by decide), nw_ni (fun z => hu j (by omega) (by omega) z.symm)]
        exact g6 u (fun i a b => hu i a (by omega))
      · show nw (nw n1 7 (o j) 0 (-1)) 10 0 5 (n1 10 0 5 - 1) 10 0 5 = N - (j + 1 - k); rw [nw_eq]; omega
      · show nw (nw n1 7 (o j) 0 (-1)) 10 0 5 (n1 10 0 5 - 1) 10 0 t = _; rw [nw_ns a, nw_nK (by decide)]; exact g8 t a
    · have : j = E := by omega
      subst this
      exact ev_inr ⟨g3, g4, g5, g6, g7, g8⟩
  · obtain ⟨a1, a2, a3, a4, a5, a6⟩ := h
    rw [a6 6 (by decide)]
    refine ev_ck (by omega) (ev_st (ev_ok ⟨fun K x y => ?_, fun u s x => ?_, fun j x y => ?_, fun u x => ?_, ?_, ?_, fun s x y => ?_⟩))
    · rw [nw_nK y]; exact a1 K x y
    · rw [nw_nK (by decide)]; exact a2 u s x
    · rw [nw_nK (by decide)]; exact a3 j x y
    · rw [nw_nK (by decide)]; exact a4 u x
    · rw [nw_ns (by decide)]; exact a5
    · rw [nw_eq]
    · rw [nw_ns y]; exact a6 s x
theorem c_remove (h : TC n N o e p) (hl : n 10 0 4 = n 10 0 6 → LSt n N o e) (h1 : 1 ≤ k) (h2 : k < N) (hs : n 10 0 5 = N) (hc : 0 ≤ n 10 0 6 ∧ n 10 0 6 < 2000000000) (hk6 : 1 ≤ n 7 (o (p k)) 6 ∧ n 7 (o (p k)) 6 ≤ 1000) : ev (N_Tree_remove (o k) n) (fun n' => ∃ n8 b, FL n n8 ∧ n8 10 0 4 = n8 10 0 6 ∧ PV o e p (p k) k b ∧ (∀ K, K ≠ 7 → K ≠ 10 → n' K = n8 K) ∧ (∀ u s, s ≠ 0 → n' 7 u s = cutC n8 (o k) (o (p k)) b 7 u s) ∧ (∀ j, k ≤ j → j < e k → n' 7 (o j) 0 = -1) ∧ (∀ u, (∀ j, k ≤ j → j < e k → o j ≠ u) → n' 7 u 0 = n8 7 u 0) ∧ n' 10 0 5 = N - (e k - k) ∧ n' 10 0 6 = n8 10 0 6 + 1 ∧ (∀ s, s ≠ 5 → s ≠ 6 → n' 10 0 s = n8 10 0 s)) := by
  have hT := h.1
  have hp := hT.pB h1 h2
  have hk := hT.eB (k := k) (by omega) h2
  have hob := hT.oB (k := k) (by omega) h2
  have hop := hT.oB (k := p k) (by omega) (by omega)
  have hpar := hT.parE h1 h2
  have hN := hT.N1
  unfold N_Tree_remove
  refine ev_ix hob ?_
  have hpar : n 7 (o k) 2 = o (p k) := hpar
  rw [hpar]
  refine ev_if (fun hz => by omega) (fun _ => ev_bind (c_list h hl) (fun n8 hn => ?_))
  obtain ⟨f1, f2, f3⟩ := hn
  have h8 := f1.TC h
  have e2 : n8 7 (o k) 2 = o (p k) := by rw [f1.2.1 _ 2 (by decide) (by decide)]; exact hpar
  rw [e2]
  refine ev_ix hop (ev_bind (c_before h8 h1 h2) (fun b hb => ?_))
  have hbb : b = -1 ∨ (0 ≤ b ∧ b < 120) := by
    rcases hb with z | ⟨i, a1, a2, a3, a4, a5⟩
    · exact .inl z.2
    · rw [a5]; exact .inr (hT.oB (by omega) (by omega))
  have hbk : b ≠ o k := by
    rcases hb with z | ⟨i, a1, a2, a3, a4, a5⟩
    · omega
    · rw [a5]; intro z; have := hT.inj (by omega) (by omega) (by omega) h2 z; omega
  have hpk : o (p k) ≠ o k := fun z => by have := hT.inj (by omega) (by omega) (by omega) h2 z; omega
  have r6 : ∀ n2 : NS, (∀ K, K ≠ 7 → n2 K = n8 K) → (∀ u s, s ≠ 3 → s ≠ 4 → s ≠ 5 → n2 7 u s = n8 7 u s) → nw n2 7 (o (p k)) 6 (n2 7 (o (p k)) 6 - 1) = cutC n8 (o k) (o (p k)) b → ev (nk_Tree_remove_115 (o k) (o (p k)) n2) (fun n' => ∃ n8 b, FL n n8 ∧ n8 10 0 4 = n8 10 0 6 ∧ PV o e p (p k) k b ∧ (∀ K, K ≠ 7 → K ≠ 10 → n' K = n8 K) ∧ (∀ u s, s ≠ 0 → n' 7 u s = cutC n8 (o k) (o (p k)) b 7 u s) ∧ (∀ j, k ≤ j → j < e k → n' 7 (o j) 0 = -1) ∧ (∀ u, (∀ j, k ≤ j → j < e k → o j ≠ u) → n' 7 u 0 = n8 7 u 0) ∧ n' 10 0 5 = N - (e k - k) ∧ n' 10 0 6 = n8 10 0 6 + 1 ∧ (∀ s, s ≠ 5 → s ≠ 6 → n' 10 0 s = n8 10 0 s)) := fun n2 q1 q2 q3 => by
    unfold nk_Tree_remove_115
    have w6 : n2 7 (o (p k)) 6 = n 7 (o (p k)) 6 := by rw [q2 _ _ (by decide) (by decide) (by decide), f1.2.1 _ 6 (by decide) (by decide)]
    refine ev_ck (by omega) (ev_st ?_)
    rw [q3]
    generalize hn4 : cutC n8 (o k) (o (p k)) b = n4
    have c7 : ∀ u s, s ≠ 3 → s ≠ 4 → s ≠ 5 → s ≠ 6 → n4 7 u s = n8 7 u s := fun u s a1 a2 a3 a4 => by
      rw [← hn4, ← q3, nw_ns a4]; exact q2 u s a1 a2 a3
    have cK : ∀ K, K ≠ 7 → n4 K = n8 K := fun K hK => by rw [← hn4, ← q3, nw_nK hK]; exact q1 K hK
    have pl := f3.2 k (by omega) h2
    rw [c7 _ 8 (by decide) (by decide) (by decide) (by decide), c7 _ 9 (by decide) (by decide) (by decide) (by decide), pl.2.1, pl.2.2, bind_id]
    refine ev_mono (c_free (n := n4) (N := N) (o := o) (fun i j a b c d => hT.inj a b c d) (fun j a b => hT.oB a b) hN.2 (by omega) ⟨by omega, hk.2⟩ (fun j a b => by rw [cK 22 (by decide)]; exact (f3.2 j a b).1) (by rw [cK 10 (by decide), f1.2.2 5 (by decide) (by decide)]; exact hs) (by rw [cK 10 (by decide), f1.2.2 6 (by decide) (by decide)]; exact hc)) (fun n' hn' => ⟨n8, b, f1, f2, hb, fun K a c => ?_, fun u s a => ?_, hn'.2.2.1, fun u a => ?_, hn'.2.2.2.2.1, ?_, fun s a c => ?_⟩)
    · rw [hn'.1 K a c]; exact cK K a
    · rw [hn4]; exact hn'.2.1 u s a
    · rw [hn'.2.2.2.1 u a]; exact c7 u 0 (by decide) (by decide) (by decide) (by decide)
    · rw [hn'.2.2.2.2.2.1, cK 10 (by decide)]
    · rw [hn'.2.2.2.2.2.2 s a c, cK 10 (by decide)]
  have r1 : ∀ n1 : NS, (∀ K, K ≠ 7 → n1 K = n8 K) → (∀ u s, s ≠ 3 → s ≠ 5 → n1 7 u s = n8 7 u s) → n1 = (if b = -1 then nw n8 7 (o (p k)) 3 (n8 7 (o k) 5) else nw n8 7 b 5 (n8 7 (o k) 5)) → ev (nk_Tree_remove_101 (o k) (o k) (o (p k)) b n1) (fun n' => ∃ n8 b, FL n n8 ∧ n8 10 0 4 = n8 10 0 6 ∧ PV o e p (p k) k b ∧ (∀ K, K ≠ 7 → K ≠ 10 → n' K = n8 K) ∧ (∀ u s, s ≠ 0 → n' 7 u s = cutC n8 (o k) (o (p k)) b 7 u s) ∧ (∀ j, k ≤ j → j < e k → n' 7 (o j) 0 = -1) ∧ (∀ u, (∀ j, k ≤ j → j < e k → o j ≠ u) → n' 7 u 0 = n8 7 u 0) ∧ n' 10 0 5 = N - (e k - k) ∧ n' 10 0 6 = n8 10 0 6 + 1 ∧ (∀ s, s ≠ 5 → s ≠ 6 → n' 10 0 s = n8 10 0 s)) := fun n1 q1 q2 q3 => by
    unfold nk_Tree_remove_101
    refine ev_if (fun hz => ev_st (r6 _ (fun K hK => by rw [nw_nK hK]; exact q1 K hK) (fun u s a1 a2 a3 => by rw [nw_ns a2]; exact q2 u s a1 a3) ?_)) (fun hz => r6 _ q1 (fun u s a1 _ a3 => q2 u s a1 a3) ?_)
    · unfold cutC
      try simp only
      rw [← q3, if_pos hz]
    · unfold cutC
      try simp only
      rw [← q3, if_neg hz]
  unfold nk_Tree_remove_70
  refine ev_if (fun hz => ev_st (r1 _ (fun K hK => nw_nK hK) (fun u s a1 a2 => nw_ns a1) (by rw [if_pos hz]))) (fun hz => ev_ix (by omega) (ev_st (r1 _ (fun K hK => nw_nK hK) (fun u s a1 a2 => nw_ns a2) (by rw [if_neg hz]))))
end C3
