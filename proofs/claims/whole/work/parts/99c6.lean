/-! HOW MANY LIE IN ONE: sums -/
def zsn (g : Int → Int) (a : Int) : Nat → Int
  | 0 => 0
  | i + 1 => zsn g a i + g (a + i)
def zsm (g : Int → Int) (a b : Int) : Int := zsn g a (b - a).toNat
section C6
variable {g g' : Int → Int} {a b c w : Int}
theorem zsm_nil (h : b ≤ a) : zsm g a b = 0 := by unfold zsm; rw [show (b - a).toNat = 0 by omega]; rfl
theorem zsm_succ (h : a ≤ b) : zsm g a (b + 1) = zsm g a b + g b := by
  unfold zsm
  rw [show (b + 1 - a).toNat = (b - a).toNat + 1 by omega]
  show zsn g a (b - a).toNat + g (a + ((b - a).toNat : Nat)) = _
  rw [show a + ((b - a).toNat : Int) = b by omega]
theorem zsm_ind {P : Int → Prop} (h : a ≤ b) (h0 : P a) (hs : ∀ j, a ≤ j → j < b → P j → P (j + 1)) : P b := by
  have : ∀ (d : Nat) (j : Int), j = a + d → j ≤ b → P j := by
    intro d
    induction d with
    | zero => intro j hj _; rw [show j = a by omega]; exact h0
    | succ d ih =>
      intro j hj hb
      have := hs (j - 1) (by omega) (by omega) (ih (j - 1) (by omega) (by omega))
      rw [show j - 1 + 1 = j by omega] at this; exact this
  exact this (b - a).toNat b (by omega) (Int.le_refl _)
theorem zsm_add (h1 : a ≤ b) (h2 : b ≤ c) : zsm g a c = zsm g a b + zsm g b c := by
  refine zsm_ind (P := fun j => zsm g a j = zsm g a b + zsm g b j) h2 (by rw [zsm_nil (g := g) (a := b) (Int.le_refl _)]; omega) (fun j x y z => ?_)
  try simp only at z ⊢
  rw [zsm_succ (by omega), zsm_succ x]; omega
theorem zsm_cg (h : ∀ j, a ≤ j → j < b → g j = g' j) : zsm g a b = zsm g' a b := by
  rcases Int.lt_or_le b a with u | u
  · rw [zsm_nil (by omega), zsm_nil (by omega)]
  · refine zsm_ind (P := fun j => zsm g a j = zsm g' a j) u (by rw [zsm_nil (Int.le_refl _), zsm_nil (Int.le_refl _)]) (fun j x y z => ?_)
    try simp only at z ⊢
    rw [zsm_succ x, zsm_succ x, h j x y]; omega
theorem zsm_z (h : ∀ j, a ≤ j → j < b → g j = 0) : zsm g a b = 0 := by
  rcases Int.lt_or_le b a with u | u
  · exact zsm_nil (by omega)
  · refine zsm_ind (P := fun j => zsm g a j = 0) u (zsm_nil (Int.le_refl _)) (fun j x y z => ?_)
    try simp only at z ⊢
    rw [zsm_succ x, h j x y]; omega
theorem zsm_sh : zsm g (a + w) (b + w) = zsm (fun j => g (j + w)) a b := by
  rcases Int.lt_or_le b a with u | u
  · rw [zsm_nil (by omega), zsm_nil (by omega)]
  · refine zsm_ind (P := fun j => zsm g (a + w) (j + w) = zsm (fun j => g (j + w)) a j) u (by rw [zsm_nil (Int.le_refl _), zsm_nil (Int.le_refl _)]) (fun j x y z => ?_)
    try simp only at z ⊢
    rw [show j + 1 + w = j + w + 1 by omega, zsm_succ (by omega), zsm_succ x, z]
theorem zsm_b (h : ∀ j, a ≤ j → j < b → 0 ≤ g j ∧ g j ≤ 1) (hab : a ≤ b) : 0 ≤ zsm g a b ∧ zsm g a b ≤ b - a := by
  refine zsm_ind (P := fun j => 0 ≤ zsm g a j ∧ zsm g a j ≤ j - a) hab (by rw [zsm_nil (Int.le_refl _)]; omega) (fun j x y z => ?_)
  try simp only at z ⊢
  rw [zsm_succ x]
  have := h j x y
  omega
end C6
/-- one for each that lies in the one at place k -/
def inK (p : Int → Int) (k : Int) : Int → Int := fun j => if p j = k then 1 else 0
def kct (p : Int → Int) (N k : Int) : Int := zsm (inK p k) 1 N
section C6b
variable {m : YS} {N k : Int} {o e p par fk nx : Int → Int}
theorem inK_b {j : Int} : 0 ≤ inK p k j ∧ inK p k j ≤ 1 := by unfold inK; split <;> omega
theorem inK_1 {j : Int} (h : p j = k) : inK p k j = 1 := if_pos h
theorem inK_0 {j : Int} (h : p j ≠ k) : inK p k j = 0 := if_neg h
theorem kct_b (h : 1 ≤ N) : 0 ≤ kct p N k ∧ kct p N k ≤ N - 1 := zsm_b (fun _ _ _ => inK_b) h
/-- none before, none inside a kid, none behind -/
theorem TG.k0 (h : TG N o e p par fk nx) (h0 : 0 ≤ k) (h1 : k < N) : zsm (inK p k) 1 (k + 1) = 0 := zsm_z (fun j a b => inK_0 (fun z => by have := h.pB a (by omega); omega))
theorem TG.kIn (h : TG N o e p par fk nx) (h0 : 0 ≤ k) {x : Int} (h1 : k < x) (h2 : x < N) (hx : p x = k) : zsm (inK p k) 1 (e x) = zsm (inK p k) 1 x + 1 := by
  have hb := h.eB (k := x) (by omega) h2
  rw [zsm_add (a := 1) (b := x + 1) (c := e x) (by omega) (by omega), zsm_succ (by omega), inK_1 hx, zsm_z (a := x + 1) (fun j a b => inK_0 (fun z => ?_))]
  · omega
  · have := h.inP (t := x) (k := j) (by omega) h2 (by omega) b
    omega
theorem TG.kOut (h : TG N o e p par fk nx) (h0 : 0 ≤ k) (h1 : k < N) : kct p N k = zsm (inK p k) 1 (e k) := by
  have hb := h.eB h0 h1
  unfold kct
  rw [zsm_add (a := 1) (b := e k) (c := N) (by omega) (by omega), zsm_z (a := e k) (fun j a b => inK_0 (fun z => ?_))]
  · omega
  · have := h.pB (k := j) (by omega) b
    rw [z] at this; omega
theorem y_kids (h : TY m N o e p) (h0 : 0 ≤ k) (h1 : k < N) : NL_Y_node_74 0 (m 50 (o k)) m = some (kct p N k) := by
  apply eq_of_ev
  have hk := h.eB h0 h1
  have hN := h.N1
  unfold NL_Y_node_74
  refine ev_itg (I := fun (s : Int × Int) x => (s.2 = -1 ∧ s.1 = kct p N k ∧ x = 0) ∨ (∃ j, k < j ∧ j < e k ∧ p j = k ∧ s.2 = o j ∧ s.1 = zsm (inK p k) 1 j ∧ x = e k - j)) (fun s x hs => ?_) (x := e k - k - 1) ?_
  · obtain ⟨c, v⟩ := s
    simp only at hs
    show ev (nb_Y_node_74 c v m) _
    unfold nb_Y_node_74
    rcases hs with ⟨g1, g2, g3⟩ | ⟨j, g1, g2, g3, g4, g5, g6⟩
    · exact ev_if (fun _ => ev_gr g2) (fun z => absurd g1 z)
    · have hoj := h.oB (k := j) (by omega) (by omega)
      have hej := h.eB (k := j) (by omega) (by omega)
      have hn := h.nest h0 g1 g2 (by omega)
      have hcb := zsm_b (g := inK p k) (a := 1) (b := j) (fun _ _ _ => inK_b) (by omega)
      have hnx : m 52 (o j) = if e j < e (p j) then o (e j) else -1 := h.nxE (k := j) (by omega) (by omega)
      have hi := h.kIn h0 g1 (by omega) g3
      refine ev_if (fun z => by omega) (fun _ => ev_ck (by unfold inR; omega) ?_)
      rw [g4]
      refine ev_ix hoj ?_
      rcases Int.lt_or_eq_of_le hn with u | u
      · rw [hnx, g3, if_pos u]
        exact ev_gl (x' := e k - e j) (.inr ⟨e j, by omega, u, h.sib (by omega) (by omega) g3 u, rfl, by show c + 1 = _; omega, rfl⟩) (by omega) (by omega)
      · rw [hnx, g3, if_neg (by omega)]
        exact ev_gl (x' := 0) (.inl ⟨rfl, by show c + 1 = _; rw [h.kOut h0 h1, ← u, hi]; omega, rfl⟩) (by omega) (by omega)
  · have hf : m 50 (o k) = if k + 1 < e k then o (k + 1) else -1 := h.fkE h0 h1
    have z0 := TG.k0 h h0 h1
    by_cases hc : k + 1 < e k
    · rw [hf, if_pos hc]
      refine .inr ⟨k + 1, by omega, hc, ?_, rfl, z0.symm, by omega⟩
      have := h.inP (t := k) (k := k + 1) h0 h1 (by omega) hc
      have := h.pB (k := k + 1) (by omega) (by omega)
      omega
    · rw [hf, if_neg hc]
      refine .inl ⟨rfl, ?_, by omega⟩
      show 0 = kct p N k
      rw [h.kOut h0 h1, show e k = k + 1 by omega, z0]
end C6b
