/-! KIDS BY THEIR NUMBER, and the number of a kid -/
def chK (e : Int → Int) (k : Int) : Nat → Int
  | 0 => if k + 1 < e k then k + 1 else -1
  | i + 1 => if chK e k i = -1 then -1 else if e (chK e k i) < e k then e (chK e k i) else -1
def omO (o : Int → Int) (j : Int) : Int := if j = -1 then -1 else o j
section C8
variable {n : NS} {m : YS} {N k x : Int} {o e p par fk nx : Int → Int}
theorem chK_none {i : Nat} (h : chK e k i = -1) : ∀ d : Nat, chK e k (i + d) = -1 := by
  intro d
  induction d with
  | zero => exact h
  | succ d ih => show (if chK e k (i + d) = -1 then -1 else _) = (-1 : Int); rw [if_pos ih]
theorem TG.chB (h : TG N o e p par fk nx) (h0 : 0 ≤ k) (h1 : k < N) : ∀ i : Nat, chK e k i = -1 ∨ (k < chK e k i ∧ chK e k i < e k ∧ p (chK e k i) = k) := by
  intro i
  have hk := h.eB h0 h1
  induction i with
  | zero =>
    show (if k + 1 < e k then k + 1 else -1) = -1 ∨ _
    by_cases hc : k + 1 < e k
    · right
      have e1 : chK e k 0 = k + 1 := if_pos hc
      rw [e1]
      have := h.inP (t := k) (k := k + 1) h0 h1 (by omega) hc
      have := h.pB (k := k + 1) (by omega) (by omega)
      exact ⟨by omega, hc, by omega⟩
    · exact .inl (if_neg hc)
  | succ i ih =>
    have e1 : chK e k (i + 1) = if chK e k i = -1 then -1 else if e (chK e k i) < e k then e (chK e k i) else -1 := rfl
    rw [e1]
    rcases ih with z | ⟨z1, z2, z3⟩
    · exact .inl (if_pos z)
    · rw [if_neg (by omega)]
      have hb := h.eB (k := chK e k i) (by omega) (by omega)
      by_cases hc : e (chK e k i) < e k
      · rw [if_pos hc]
        exact .inr ⟨by omega, hc, h.sib (by omega) (by omega) z3 hc⟩
      · rw [if_neg hc]; exact .inl rfl
theorem TG.chS (h : TG N o e p par fk nx) (h0 : 0 ≤ k) (h1 : k < N) {i : Nat} (hi : chK e k i ≠ -1) : nx (o (chK e k i)) = omO o (chK e k (i + 1)) ∧ (0 ≤ o (chK e k i) ∧ o (chK e k i) < 120) ∧ omO o (chK e k i) = o (chK e k i) := by
  have hk := h.eB h0 h1
  rcases h.chB h0 h1 i with z | ⟨z1, z2, z3⟩
  · exact absurd z hi
  · refine ⟨?_, h.oB (by omega) (by omega), if_neg hi⟩
    have e1 : chK e k (i + 1) = if chK e k i = -1 then -1 else if e (chK e k i) < e k then e (chK e k i) else -1 := rfl
    have hb := h.eB (k := chK e k i) (by omega) (by omega)
    rw [h.nxE (by omega) (by omega), e1, if_neg hi, z3]
    by_cases hc : e (chK e k i) < e k
    · rw [if_pos hc, if_pos hc]; unfold omO; rw [if_neg (by omega)]
    · rw [if_neg hc, if_neg hc]; rfl
theorem TG.ch0 (h : TG N o e p par fk nx) (h0 : 0 ≤ k) (h1 : k < N) : fk (o k) = omO o (chK e k 0) := by
  rw [h.fkE h0 h1]
  show _ = omO o (if k + 1 < e k then k + 1 else -1)
  by_cases hc : k + 1 < e k
  · rw [if_pos hc, if_pos hc]; unfold omO; rw [if_neg (by omega)]
  · rw [if_neg hc, if_neg hc]; rfl
theorem y_kidL (h : TY m N o e p) (h0 : 0 ≤ k) (h1 : k < N) (hx : 0 ≤ x) (hr : x ≤ 2147483647) : NL_Y_kid_24 x (m 50 (o k)) 0 m = some (omO o (chK e k x.toNat)) := by
  apply eq_of_ev
  have hf : m 50 (o k) = omO o (chK e k 0) := TG.ch0 h h0 h1
  unfold NL_Y_kid_24
  refine ev_it (fun s : Int × Int => 0 ≤ s.2 ∧ s.2 ≤ x ∧ s.1 = omO o (chK e k s.2.toNat)) (fun s => x - s.2) (fun s hs => ?_) ⟨Int.le_refl _, hx, hf⟩
  obtain ⟨u, i⟩ := s
  obtain ⟨g1, g2, g3⟩ := hs
  simp only at g1 g2 g3
  show ev (nb_Y_kid_24 x u i m) _
  unfold nb_Y_kid_24
  refine ev_if (fun hlt => ?_) (fun hge => ev_inr (by rw [g3, show i = x by omega]))
  by_cases hc : chK e k i.toNat = -1
  · have hu : u = -1 := by rw [g3, hc]; rfl
    refine ev_if (fun _ => ev_inr ?_) (fun z => absurd hu z)
    have := chK_none hc (x - i).toNat
    rw [show i.toNat + (x - i).toNat = x.toNat by omega] at this
    rw [hu, this]; rfl
  · obtain ⟨s1, s2, s3⟩ := TG.chS h h0 h1 hc
    rw [g3, s3]
    refine ev_if (fun z => by omega) (fun _ => ev_ix s2 (ev_ck (by unfold inR; omega) (ev_inl ⟨⟨by show 0 ≤ i + 1; omega, by show i + 1 ≤ x; omega, ?_⟩, by show x - (i + 1) < x - i; omega, by show 0 ≤ x - i; omega⟩)))
    show m 52 (o (chK e k i.toNat)) = omO o (chK e k (i + 1).toNat)
    rw [s1, show (i + 1).toNat = i.toNat + 1 by omega]
theorem c_kidL (h : TC n N o e p) (h0 : 0 ≤ k) (h1 : k < N) (hx : 0 ≤ x) (hr : x ≤ 2147483647) : NL_Tree_kidAt_13 (n 7 (o k) 3) x n = some (omO o (chK e k x.toNat)) := by
  apply eq_of_ev
  have hf : n 7 (o k) 3 = omO o (chK e k 0) := TG.ch0 h.1 h0 h1
  unfold NL_Tree_kidAt_13
  refine ev_it (fun s : Int × Int => 0 ≤ s.2 ∧ s.2 ≤ x ∧ s.1 = omO o (chK e k (x - s.2).toNat)) (fun s => s.2) (fun s hs => ?_) ⟨hx, Int.le_refl _, by show n 7 (o k) 3 = omO o (chK e k (x - x).toNat); rw [show x - x = 0 by omega]; exact hf⟩
  obtain ⟨u, i⟩ := s
  obtain ⟨g1, g2, g3⟩ := hs
  simp only at g1 g2 g3
  show ev (nb_Tree_kidAt_13 u i n) _
  unfold nb_Tree_kidAt_13
  refine ev_if (fun hlt => ?_) (fun hge => ev_inr (by rw [g3, show x - i = x by omega]))
  by_cases hc : chK e k (x - i).toNat = -1
  · have hu : u = -1 := by rw [g3, hc]; rfl
    refine ev_if (fun _ => ev_inr ?_) (fun z => absurd hu z)
    have := chK_none hc i.toNat
    rw [show (x - i).toNat + i.toNat = x.toNat by omega] at this
    rw [hu, this]; rfl
  · obtain ⟨s1, s2, s3⟩ := TG.chS h.1 h0 h1 hc
    rw [g3, s3]
    refine ev_if (fun z => by omega) (fun _ => ev_ix s2 (ev_ck (by unfold inR; omega) (ev_inl ⟨⟨by show 0 ≤ i + -1; omega, by show i + -1 ≤ x; omega, ?_⟩, by show i + -1 < i; omega, by show 0 ≤ i; omega⟩)))
    show n 7 (o (chK e k (x - i).toNat)) 5 = omO o (chK e k (x - (i + -1)).toNat)
    rw [show (x - (i + -1)).toNat = (x - i).toNat + 1 by omega]
    exact s1
/-- the one before, and how many come before -/
theorem TB.cnt (h : TG N o e p par fk nx) {bf : Int → Int} (hb : TB N o e p bf) (h1 : 1 ≤ k) (h2 : k < N) : (bf (o k) = -1 ∧ zsm (inK p (p k)) 1 k = 0) ∨ (∃ i, 1 ≤ i ∧ i < k ∧ p i = p k ∧ bf (o k) = o i ∧ zsm (inK p (p k)) 1 k = zsm (inK p (p k)) 1 i + 1) := by
  have hp := h.pB h1 h2
  by_cases hf : k = p k + 1
  · left
    have := h.k0 (k := p k) hp.1 (by omega)
    rw [← hf] at this
    exact ⟨hb.2.1 k h1 h2 hf, this⟩
  · right
    obtain ⟨i, a1, a2, a3, a4⟩ := h.prev h1 h2 hf
    have hpi := h.pB a1 (by omega)
    have := h.kIn (k := p k) (x := i) hp.1 (by omega) (by omega) a3
    rw [a4] at this
    exact ⟨i, a1, a2, a3, hb.2.2 k i h1 h2 a1 a2 a3 a4, this⟩
theorem y_rank (h : TY m N o e p) (hb : TB N o e p (m 53)) (h1 : 1 ≤ k) (h2 : k < N) : NL_Y_node_105 0 (m 53 (o k)) m = some (zsm (inK p (p k)) 1 k) := by
  apply eq_of_ev
  have hN := h.N1
  have hRb := zsm_b (g := inK p (p k)) (a := 1) (b := k) (fun _ _ _ => inK_b) h1
  generalize hR : zsm (inK p (p k)) 1 k = R at *
  have hI : ∃ x : Int, (m 53 (o k) = -1 ∧ 0 = R ∧ x = 0) ∨ (∃ j, 1 ≤ j ∧ j < k ∧ p j = p k ∧ m 53 (o k) = o j ∧ 0 = R - zsm (inK p (p k)) 1 j - 1 ∧ x = j) := by
    rcases TB.cnt h hb h1 h2 with ⟨z1, z2⟩ | ⟨i, z1, z2, z3, z4, z5⟩
    · exact ⟨0, .inl ⟨z1, by omega, rfl⟩⟩
    · exact ⟨i, .inr ⟨i, z1, z2, z3, z4, by omega, rfl⟩⟩
  obtain ⟨x0, hI⟩ := hI
  unfold NL_Y_node_105
  refine ev_itg (I := fun (s : Int × Int) x => (s.2 = -1 ∧ s.1 = R ∧ x = 0) ∨ (∃ j, 1 ≤ j ∧ j < k ∧ p j = p k ∧ s.2 = o j ∧ s.1 = R - zsm (inK p (p k)) 1 j - 1 ∧ x = j)) (fun s x hs => ?_) (x := x0) hI
  obtain ⟨c, v⟩ := s
  simp only at hs
  show ev (nb_Y_node_105 c v m) _
  unfold nb_Y_node_105
  rcases hs with ⟨g1, g2, g3⟩ | ⟨j, g1, g2, g3, g4, g5, g6⟩
  · exact ev_if (fun _ => ev_gr g2) (fun z => absurd g1 z)
  · have hoj := h.oB (k := j) (by omega) (by omega)
    have hjb := zsm_b (g := inK p (p k)) (a := 1) (b := j) (fun _ _ _ => inK_b) g1
    refine ev_if (fun z => by omega) (fun _ => ev_ck (by unfold inR; omega) ?_)
    rw [g4]
    refine ev_ix hoj ?_
    have hst := TB.cnt h hb (k := j) g1 (by omega)
    rw [g3] at hst
    rcases hst with ⟨z1, z2⟩ | ⟨i, z1, z2, z3, z4, z5⟩
    · exact ev_gl (x' := 0) (.inl ⟨z1, by show c + 1 = R; omega, rfl⟩) (by omega) (by omega)
    · exact ev_gl (x' := i) (.inr ⟨i, z1, by omega, z3, z4, by show c + 1 = _; omega, rfl⟩) (by omega) (by omega)
theorem c_rank (h : TC n N o e p) (h1 : 1 ≤ k) (h2 : k < N) : NL_Tree_rankOf_35 (o k) 0 (n 7 (o (p k)) 3) n = some (zsm (inK p (p k)) 1 k) := by
  apply eq_of_ev
  have hT := h.1
  have hN := hT.N1
  have hp := hT.pB h1 h2
  have hpe := hT.eB (k := p k) (by omega) (by omega)
  have hp1 : p (p k + 1) = p k := by
    have := hT.inP (t := p k) (k := p k + 1) hp.1 (by omega) (by omega) (by omega)
    have := hT.pB (k := p k + 1) (by omega) (by omega)
    omega
  unfold NL_Tree_rankOf_35
  refine ev_itg (I := fun (s : Int × Int) x => ∃ j, p k < j ∧ j ≤ k ∧ x = k - j ∧ p j = p k ∧ s.2 = o j ∧ s.1 = zsm (inK p (p k)) 1 j) (fun s x hs => ?_) (x := k - (p k + 1)) ⟨p k + 1, by omega, by omega, rfl, hp1, ?_, (hT.k0 (k := p k) hp.1 (by omega)).symm⟩
  · obtain ⟨c, v⟩ := s
    obtain ⟨j, g1, g2, g3, g4, g5, g6⟩ := hs
    simp only at g5 g6
    subst g5
    show ev (nb_Tree_rankOf_35 (o k) c (o j) n) _
    unfold nb_Tree_rankOf_35
    have hoj := hT.oB (k := j) (by omega) (by omega)
    have hjb := zsm_b (g := inK p (p k)) (a := 1) (b := j) (fun _ _ _ => inK_b) (by omega)
    refine ev_if (fun hz => by omega) (fun _ => ev_if (fun hz => ?_) (fun hz => ?_))
    · have := hT.inj (by omega) (by omega) (by omega) h2 hz
      rw [this] at g6
      exact ev_gr g6
    · have hjk : j < k := by
        rcases Int.lt_or_eq_of_le g2 with q | q
        · exact q
        · exact absurd (by rw [q]) hz
      have hm := hT.pM h1 h2 g1 hjk
      have hej := hT.eB (k := j) (by omega) (by omega)
      have hnx := hT.nxE (k := j) (by omega) (by omega)
      rw [g4, if_pos (by omega)] at hnx
      have hin := hT.kIn (k := p k) (x := j) hp.1 g1 (by omega) g4
      refine ev_ck (by unfold inR; omega) (ev_ix hoj (ev_gl (x' := k - e j) ⟨e j, by omega, hm, rfl, hT.sib (by omega) (by omega) g4 (by omega), hnx, by show c + 1 = _; omega⟩ (by omega) (by omega)))
  · have := hT.fkE (k := p k) hp.1 (by omega)
    rw [if_pos (by omega)] at this
    exact this
end C8
