/-! WHAT IS MEASURED of each node, in both; which nodes a block's lines hold -/
/-- what counts of its style -/
def BXf (n : NS) (m : YS) (u st' : Int) : Prop := (n 3 u 6 = m 105 (11 * st' + 3) ∧ n 3 u 7 = m 105 (11 * st' + 5) ∧ n 3 u 8 = m 105 (11 * st' + 4) + m 105 (11 * st' + 5)) ∧ (n 3 u 9 = m 105 (11 * st' + 1) ∧ n 3 u 10 = m 105 (11 * st' + 2) ∧ n 3 u 11 = m 105 (11 * st' + 8) ∧ n 3 u 12 = m 105 (11 * st' + 9)) ∧ ((0 ≤ n 3 u 6 ∧ n 3 u 6 ≤ 20) ∧ (0 ≤ n 3 u 7 ∧ n 3 u 7 ≤ 3) ∧ (0 ≤ n 3 u 8 ∧ n 3 u 8 ≤ 23) ∧ (1 ≤ n 3 u 11 ∧ n 3 u 11 ≤ 3) ∧ (0 ≤ n 3 u 9 ∧ n 3 u 9 ≤ 63) ∧ (-1 ≤ n 3 u 10 ∧ n 3 u 10 ≤ 63) ∧ (0 ≤ n 3 u 12 ∧ n 3 u 12 ≤ 2))
/-- in which block it lies -/
def HOL (n : NS) (m : YS) (o e : Int → Int) (r : Int) : Prop := ∃ h, (0 ≤ h ∧ h < r ∧ r < e h) ∧ (m 109 (o r) = o h ∧ n 3 (o r) 1 = o h) ∧ (m 107 (o h) = 1 ∨ m 107 (o h) = 2) ∧ ∀ a, h < a → a < r → r < e a → m 107 (o a) = 3
/-- whether it is a FLOAT -/
def SID (n : NS) (m : YS) (o p : Int → Int) (r : Int) : Prop := (r = 0 → n 3 (o r) 13 = 0 ∧ m 108 (o r) = 0) ∧ (1 ≤ r → (m 107 (o (p r)) = 1 ∨ m 107 (o (p r)) = 2) ∧ ((m 108 (o r) = 0 ∧ n 3 (o r) 13 = 0) ∨ (m 108 (o r) = 1 ∧ m 107 (o (p r)) = 1 ∧ n 3 (o r) 13 = m 105 (11 * o r + 10) ∧ (n 3 (o r) 13 = 1 ∨ n 3 (o r) 13 = 2))) ∧ (m 107 (o (p r)) = 1 → m 105 (11 * o r) = 0 ∨ m 105 (11 * o r) = 3))
def MSb (n : NS) (m : YS) (o p : Int → Int) (r : Int) : Prop := (m 107 (o r) = 1 ∨ m 107 (o r) = 2) ∧ n 3 (o r) 0 = 1 ∧ (m 46 (o r) ≠ 17 ∧ (1 ≤ r → m 46 (o r) ≠ 10)) ∧ BXf n m (o r) (o r) ∧ (m 107 (o r) = 2 ↔ m 105 (11 * o r) = 3) ∧ (n 3 (o r) 4 = m 112 (o r) ∧ 0 ≤ n 3 (o r) 4 ∧ n 3 (o r) 4 ≤ 1300000) ∧ SID n m o p r ∧ n 3 (o r) 19 = 0
def MSp (n : NS) (m : YS) (u : Int) : Prop := m 107 u = 4 ∧ n 3 u 0 = 2 ∧ (12 ≤ m 46 u ∧ m 46 u ≤ 14) ∧ BXf n m u u ∧ (n 3 u 4 = m 112 u ∧ 0 ≤ n 3 u 4 ∧ n 3 u 4 ≤ 1300000) ∧ (n 3 u 5 = m 113 u ∧ 0 ≤ n 3 u 5 ∧ n 3 u 5 ≤ 200) ∧ n 3 u 19 = 0
/-- what is measured -/
def MSk (n : NS) (m : YS) (o e p : Int → Int) (r : Int) : Prop := (m 107 (o r) = 0 ∧ n 3 (o r) 0 = 0)
  ∨ (((r = 0 ∧ n 3 (o r) 1 = -1) ∨ HOL n m o e r) ∧ (MSb n m o p r ∨ MSp n m (o r) ∨ (m 107 (o r) = 3 ∧ n 3 (o r) 0 = 3 ∧ (m 46 (o r) ≠ 17 ∧ m 46 (o r) ≠ 10) ∧ n 3 (o r) 19 = 0) ∨ (m 107 (o r) = 5 ∧ n 3 (o r) 0 = 3 ∧ m 46 (o r) = 10 ∧ BXf n m (o r) (o r) ∧ n 3 (o r) 19 = 0) ∨ (m 107 (o r) = 6 ∧ n 3 (o r) 0 = 3 ∧ m 46 (o r) = 17 ∧ BXf n m (o r) (m 49 (o r)) ∧ TXw n m (m 109 (o r)) (o r))))
/-- a block that is laid -/
def LDb (n : NS) (m : YS) (o e : Int → Int) (r : Int) : Prop := (m 107 (o r) = 1 ∨ m 107 (o r) = 2) → (n 3 (o r) 5 = m 113 (o r) ∧ 0 ≤ n 3 (o r) 5 ∧ n 3 (o r) 5 ≤ 5000 * (e r - r) - 500) ∧ (n 3 (o r) 14 = m 114 (o r) ∧ 0 ≤ n 3 (o r) 14 ∧ n 3 (o r) 14 ≤ 20) ∧ (n 3 (o r) 15 = m 115 (o r) ∧ 0 ≤ n 3 (o r) 15 ∧ n 3 (o r) 15 ≤ 20)
section W9
variable {n n' n'' : NS} {m m' m'' : YS} {A B N a b c x y q s E F v wd u w t k j r : Int} {o e p : Int → Int}
theorem BXf.cg {st' : Int} (h : BXf n m u st') (h3 : ∀ s, s = 6 ∨ s = 7 ∨ s = 8 ∨ s = 9 ∨ s = 10 ∨ s = 11 ∨ s = 12 → n' 3 u s = n 3 u s) (h105 : m' 105 = m 105) : BXf n' m' u st' := by
  unfold BXf at *
  rw [h3 6 (by omega), h3 7 (by omega), h3 8 (by omega), h3 9 (by omega), h3 10 (by omega), h3 11 (by omega), h3 12 (by omega), h105]; exact h
theorem MSk.cg (h : MSk n m o e p r) (h3 : ∀ a s, s ≠ 2 → s ≠ 3 → s ≠ 5 → s ≠ 14 → s ≠ 15 → s ≠ 16 → s ≠ 17 → n' 3 a s = n 3 a s) (h35 : ∀ a, n 3 a 0 = 2 → n' 3 a 5 = n 3 a 5 ∧ m' 113 a = m 113 a) (h4 : n' 4 = n 4) (e5 : n' 5 0 5 = n 5 0 5) (e6 : n' 5 0 6 = n 5 0 6) (w6 : ∀ j, j % 6 ≠ 3 → j % 6 ≠ 4 → n' 99 (n 5 0 5) j = n 99 (n 5 0 5) j) (hf : ∀ f, f ∈ [46, 49, 61, 62, 105, 107, 108, 109, 112, 116, 118, 119, 120, 123] → m' f = m f) : MSk n' m' o e p r := by
  have g3 : ∀ a s, s = 0 ∨ s = 1 ∨ s = 4 ∨ (6 ≤ s ∧ s ≤ 13) ∨ s = 18 ∨ s = 19 → n' 3 a s = n 3 a s := fun a s hs => h3 a s (by omega) (by omega) (by omega) (by omega) (by omega) (by omega) (by omega)
  have bx : ∀ u st', BXf n m u st' → BXf n' m' u st' := fun u st' h => h.cg (fun s hs => g3 u s (by omega)) (hf 105 (by decide))
  rcases h with ⟨h1, h2⟩ | ⟨h1, h2⟩
  · exact .inl ⟨by rw [hf 107 (by decide)]; exact h1, by rw [g3 _ 0 (by omega)]; exact h2⟩
  · refine .inr ⟨?_, ?_⟩
    · rcases h1 with h1 | ⟨hh, b1, b2, b3, b4⟩
      · exact .inl ⟨h1.1, by rw [g3 _ 1 (by omega)]; exact h1.2⟩
      · exact .inr ⟨hh, b1, by rw [hf 109 (by decide), g3 _ 1 (by omega)]; exact b2, by rw [hf 107 (by decide)]; exact b3, fun a x y z => by rw [hf 107 (by decide)]; exact b4 a x y z⟩
    · rcases h2 with h2 | h2 | h2 | h2 | h2
      · obtain ⟨c1, c2, c3, c4, c5, c6, c7, c8⟩ := h2
        refine .inl ⟨by rw [hf 107 (by decide)]; exact c1, by rw [g3 _ 0 (by omega)]; exact c2, by rw [hf 46 (by decide)]; exact c3, bx _ _ c4, by rw [hf 107 (by decide), hf 105 (by decide)]; exact c5, by rw [g3 _ 4 (by omega), hf 112 (by decide)]; exact c6, ?_, by rw [g3 _ 19 (by omega)]; exact c8⟩
        unfold SID at *
        rw [g3 _ 13 (by omega), hf 108 (by decide), hf 107 (by decide), hf 105 (by decide)]; exact c7
      · obtain ⟨c1, c2, c3, c4, c5, c6, c7⟩ := h2
        exact .inr (.inl ⟨by rw [hf 107 (by decide)]; exact c1, by rw [g3 _ 0 (by omega)]; exact c2, by rw [hf 46 (by decide)]; exact c3, bx _ _ c4, by rw [g3 _ 4 (by omega), hf 112 (by decide)]; exact c5, by rw [(h35 _ c2).1, (h35 _ c2).2]; exact c6, by rw [g3 _ 19 (by omega)]; exact c7⟩)
      · obtain ⟨c1, c2, c3, c4⟩ := h2
        exact .inr (.inr (.inl ⟨by rw [hf 107 (by decide)]; exact c1, by rw [g3 _ 0 (by omega)]; exact c2, by rw [hf 46 (by decide)]; exact c3, by rw [g3 _ 19 (by omega)]; exact c4⟩))
      · obtain ⟨c1, c2, c3, c4, c5⟩ := h2
        exact .inr (.inr (.inr (.inl ⟨by rw [hf 107 (by decide)]; exact c1, by rw [g3 _ 0 (by omega)]; exact c2, by rw [hf 46 (by decide)]; exact c3, bx _ _ c4, by rw [g3 _ 19 (by omega)]; exact c5⟩)))
      · obtain ⟨c1, c2, c3, c4, c5⟩ := h2
        refine .inr (.inr (.inr (.inr ⟨by rw [hf 107 (by decide)]; exact c1, by rw [g3 _ 0 (by omega)]; exact c2, by rw [hf 46 (by decide)]; exact c3, by rw [hf 49 (by decide)]; exact bx _ _ c4, ?_⟩)))
        rw [hf 109 (by decide)]
        exact c5.cg (fun a => ⟨g3 a 1 (by omega), g3 a 11 (by omega), g3 a 18 (by omega), g3 a 19 (by omega)⟩) h4 e5 e6 w6 (fun f hf' => hf f (by simp only [List.mem_cons, List.not_mem_nil, or_false] at hf' ⊢; omega))
theorem MSk.rs (h : MSk n m o e p r) (hn : FRs v n n') (hm : FVy v m m') : MSk n' m' o e p r := h.cg (fun a s x y _ _ _ _ _ => hn.2.1 a s x y) (fun a _ => ⟨hn.2.1 a 5 (by decide) (by decide), by rw [hm.1 113 (by decide)]⟩) (hn.1 4 (by decide)) (hn.2.2.2.1 5 (by decide)) (hn.2.2.2.1 6 (by decide)) hn.2.2.2.2.2.1 (fun f hf => hm.1 f (by simp only [List.mem_cons, List.not_mem_nil, or_false, not_or] at hf ⊢; omega))
theorem LDb.rs (h : LDb n m o e r) (hn : FRs v n n') (hm : FVy v m m') : LDb n' m' o e r := by
  unfold LDb at *
  rw [hn.2.1 _ 5 (by decide) (by decide), hn.2.1 _ 14 (by decide) (by decide), hn.2.1 _ 15 (by decide) (by decide), hm.1 107 (by decide), hm.1 113 (by decide), hm.1 114 (by decide), hm.1 115 (by decide)]; exact h
/-- a place that the lines of k come to -/
def VIS (m : YS) (o e : Int → Int) (k j : Int) : Prop := (k < j ∧ j < e k) ∧ ∀ a, k < a → a < j → j < e a → m 107 (o a) = 3
theorem VIS.hol (hG : TG N o e p (m 49) (m 50) (m 52)) (h : VIS m o e k j) (k0 : 0 ≤ k) (hb : m 107 (o k) = 1 ∨ m 107 (o k) = 2) (hH : HOL n m o e j) (hkN : k < N) : m 109 (o j) = o k ∧ n 3 (o j) 1 = o k := by
  obtain ⟨hh, ⟨h1, h2, h3⟩, h4, h5, h6⟩ := hH
  obtain ⟨⟨v1, v2⟩, v3⟩ := h
  rcases Int.lt_trichotomy hh k with z | z | z
  · have := h6 k z v1 v2; omega
  · rw [z] at h4; exact h4
  · have := v3 hh z h2 h3; omega
/-- where a TEXT or a break stands, nothing lies in it -/
theorem leaf (hG : TG N o e p (m 49) (m 50) (m 52)) (hP : JP m N o p) (j0 : 0 ≤ j) (j1 : j < N) (ht : m 46 (o j) = 17 ∨ (10 ≤ m 46 (o j) ∧ m 46 (o j) ≤ 13)) : e j = j + 1 := by
  have hE := hG.eB j0 j1
  by_cases z : e j = j + 1
  · exact z
  · exfalso
    have hp := hG.pB (k := j + 1) (by omega) (by omega)
    have hin := hG.inP (t := j) (k := j + 1) j0 j1 (by omega) (by omega)
    have hq := hP (j + 1) (by omega) (by omega)
    rw [show p (j + 1) = j by omega] at hq
    obtain ⟨q1, q2⟩ := hq
    omega
theorem VIS.in (hG : TG N o e p (m 49) (m 50) (m 52)) (h : VIS m o e k j) (h3 : m 107 (o j) = 3) (hj : j + 1 < e j) (k0 : 0 ≤ k) (hkN : k < N) : VIS m o e k (j + 1) := by
  obtain ⟨⟨v1, v2⟩, v3⟩ := h
  have hE := hG.eB k0 hkN
  have := hG.nest (k := k) (j := j) k0 v1 v2 (by omega)
  refine ⟨by omega, fun a x y z => ?_⟩
  by_cases w : a = j
  · rw [w]; exact h3
  · exact v3 a x (by omega) (by omega)
theorem VIS.past (hG : TG N o e p (m 49) (m 50) (m 52)) (h : VIS m o e k j) (hj : e j < e k) (k0 : 0 ≤ k) (hkN : k < N) : VIS m o e k (e j) := by
  obtain ⟨⟨v1, v2⟩, v3⟩ := h
  have hE := hG.eB k0 hkN
  have hEj := hG.eB (k := j) (by omega) (by omega)
  refine ⟨by omega, fun a x y z => ?_⟩
  rcases Int.lt_trichotomy a j with w | w | w
  · exact v3 a x w (by omega)
  · rw [w] at z; omega
  · have := hG.nest (k := j) (j := a) (by omega) w y (by omega)
    omega
/-- the class goes over what is in what it has seen -/
theorem cl_skip {v3 v4 : Int} (hG : TG N o e p (m 49) (m 50) (m 52)) (hL : LSt n N o e) (k0 : 0 ≤ k) (hkN : k < N) (hi : k < r) : ∀ (z : Nat) (j : Int), (e r - j).toNat ≤ z → r < j → j ≤ e r → e r ≤ e k → NL_Layout_layFlow_51 v v (e k) v3 v4 (e r) j n = NL_Layout_layFlow_51 v v (e k) v3 v4 (e r) (e r) n := by
  have hE := hG.eB k0 hkN
  have hN := hG.N1
  intro z
  induction z with
  | zero => intro j h1 h2 h3 h4; rw [show j = e r by omega]
  | succ z ih =>
    intro j h1 h2 h3 h4
    by_cases hlt : j < e r
    · rw [← ih (j + 1) (by omega) (by omega) (by omega) h4]
      unfold NL_Layout_layFlow_51
      refine it_inl ?_
      show nb_Layout_layFlow_51 v v (e k) v3 v4 (e r) j n = _
      unfold nb_Layout_layFlow_51 nk_Layout_layFlow_94
      have hl := hL.2 j (by omega) (by omega)
      have ho := hG.oB (k := j) (by omega) (by omega)
      have hn := hG.nest (k := r) (j := j) (by omega) h2 hlt (by omega)
      rw [if_pos (by omega), ix_e _ (by omega), hl.1, ix_e _ ho, if_pos hlt, ix_e _ ho, hl.2.2, ck_e _ (by omega), show max (e r) (e j) = e r by omega]
    · rw [show j = e r by omega]
end W9
