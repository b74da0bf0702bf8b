/-! A RUN of text goes into a TEXT, in both -/
/-- the page's text, as both have it -/
def JSrc (n : NS) (m : YS) : Prop := RDR n (m 75) (m 76 0) ∧ n 8 0 8 < n 90 0 0 ∧ (∀ b, 0 ≤ b → b ≤ 604 → n 4 b 1 ≠ n 8 0 8) ∧ (∀ j, 0 ≤ j → j < m 76 0 → isTx (m 75 j))
/-- the last TEXT that was cut, beside the marks of the reference -/
def JCut (n : NS) (m : YS) (N : Int) (o : Int → Int) (v : Int) : Prop := (n 8 0 11 = -1 ∨ ∃ j, 0 ≤ j ∧ j < N ∧ o j = n 8 0 11) ∧ (m 51 v ≠ -1 → m 46 (m 51 v) = 17 → (m 63 (m 51 v) = 0 ∨ m 63 (m 51 v) = 1) ∧ (m 63 (m 51 v) = 1 ↔ n 8 0 11 = m 51 v))
/-- only the reader's own numbers have changed -/
def FRk (n n' : NS) : Prop := (∀ K, K ≠ 8 → K ≠ 28 → K ≠ 29 → K ≠ 30 → K ≠ 31 → n' K = n K) ∧ n' 8 0 8 = n 8 0 8 ∧ n' 8 0 9 = n 8 0 9
/-- all that reading a page leaves as it was -/
def FRR (n n' : NS) : Prop :=
  (∀ K, K ∉ [4, 7, 8, 10, 18, 22, 28, 29, 30, 31, 90, 91, 92, 93, 99] → n' K = n K)
  ∧ (∀ b, 605 ≤ b → n' 4 b = n 4 b)
  ∧ n 90 0 0 ≤ n' 90 0 0
  ∧ (∀ q, q < n 90 0 0 → n' 92 0 q = n 92 0 q ∧ n' 93 0 q = n 93 0 q)
  ∧ (∀ q, q < n 90 0 0 → (∀ b, 0 ≤ b → b ≤ 604 → q ≠ n 4 b 1) → n' 99 q = n 99 q)
  ∧ (∀ b, 0 ≤ b → b ≤ 604 → n' 4 b 1 = n 4 b 1 ∨ n 90 0 0 ≤ n' 4 b 1)
  ∧ n 10 0 6 ≤ n' 10 0 6
def FYR (m m' : YS) : Prop := ∀ f, ¬ (45 ≤ f ∧ f ≤ 88) → m' f = m f
theorem FYR.trans {m m' m'' : YS} (h : FYR m m') (h' : FYR m' m'') : FYR m m'' := fun f hf => (h' f hf).trans (h f hf)
theorem FYR.of {l : List Nat} {m m' : YS} (h : FY l m m') (hl : ∀ x ∈ l, 45 ≤ x ∧ x ≤ 88) : FYR m m' := fun f hf => h f (fun z => hf (hl f z))
theorem FRR.refl (n : NS) : FRR n n := ⟨fun _ _ => rfl, fun _ _ => rfl, Int.le_refl _, fun _ _ => ⟨rfl, rfl⟩, fun _ _ _ => rfl, fun _ _ _ => .inl rfl, Int.le_refl _⟩
theorem FRR.trans {n n' n'' : NS} (h : FRR n n') (h' : FRR n' n'') : FRR n n'' := by
  obtain ⟨a1, a2, a3, a4, a5, a6, a7⟩ := h
  obtain ⟨b1, b2, b3, b4, b5, b6, b7⟩ := h'
  refine ⟨fun K c => (b1 K c).trans (a1 K c), fun b hb => (b2 b hb).trans (a2 b hb), Int.le_trans a3 b3, fun q hq => ?_, fun q hq hS => ?_, fun b c0 c1 => ?_, Int.le_trans a7 b7⟩
  · have h1 := a4 q hq
    have h2 := b4 q (by omega)
    exact ⟨h2.1.trans h1.1, h2.2.trans h1.2⟩
  · rw [b5 q (by omega) (fun b c0 c1 => by have := a6 b c0 c1; have := hS b c0 c1; omega), a5 q hq hS]
  · have := a6 b c0 c1
    have := b6 b c0 c1
    omega
theorem FRR.fb {S : Int → Prop} {n n' : NS} (h : FB S n n') (hS : ∀ x, S x → 0 ≤ x ∧ x ≤ 604) : FRR n n' := by
  obtain ⟨a1, a2, a3, a4, a5, a6⟩ := h
  refine ⟨fun K c => by
    simp only [List.mem_cons, List.not_mem_nil, or_false, not_or] at c
    exact a1 K (by omega) (by omega) (by omega) (by omega) (by omega) (by omega), fun b hb => a2 b (fun z => by have := hS b z; omega), a3, a4, fun q hq c => a5 q hq (fun b hb => c b (hS b hb).1 (hS b hb).2), fun b c0 c1 => ?_, by rw [a1 10 (by decide) (by decide) (by decide) (by decide) (by decide) (by decide)]; exact Int.le_refl _⟩
  by_cases z : S b
  · exact a6 b z
  · rw [a2 b z]; exact .inl rfl
/-- rows are as they were -/
theorem FRR.ks {n n' : NS} (h : ∀ K, K ∉ [7, 8, 10, 18, 22, 28, 29, 30, 31] → n' K = n K) (h10 : n 10 0 6 ≤ n' 10 0 6) : FRR n n' := by
  have e4 := h 4 (by decide); have e90 := h 90 (by decide); have e92 := h 92 (by decide); have e93 := h 93 (by decide); have e99 := h 99 (by decide)
  refine ⟨fun K c => h K (by simp only [List.mem_cons, List.not_mem_nil, or_false, not_or] at c ⊢; omega), fun b _ => by rw [e4], by rw [e90]; exact Int.le_refl _, fun q _ => by rw [e92, e93]; exact ⟨rfl, rfl⟩, fun q _ _ => by rw [e99], fun b _ _ => .inl (by rw [e4]), h10⟩
theorem FRR.rk {n n' : NS} (h : FRk n n') : FRR n n' := FRR.ks (fun K c => by
  simp only [List.mem_cons, List.not_mem_nil, or_false, not_or] at c
  exact h.1 K (by omega) (by omega) (by omega) (by omega) (by omega)) (by rw [h.1 10 (by decide) (by decide) (by decide) (by decide) (by decide)]; exact Int.le_refl _)
section G6
variable {n n' : NS} {m m' : YS} {A B N i to r w : Int} {o e p : Int → Int}
theorem JT.rk (h : JT n m N o e p) (hF : FRk n n') (hy : ∀ f, 45 ≤ f → f ≤ 69 → m' f = m f) : JT n' m' N o e p := by
  have e7 := hF.1 7 (by decide) (by decide) (by decide) (by decide) (by decide)
  have e10 := hF.1 10 (by decide) (by decide) (by decide) (by decide) (by decide)
  have e22 := hF.1 22 (by decide) (by decide) (by decide) (by decide) (by decide)
  refine ⟨h.1.cg e7 e10 (fun f hf => hy f (by omega) (by omega)), h.2.1.cg e7, h.2.2.1.cg e7 e10 e22, fun k k0 k1 => (h.2.2.2 k k0 k1).cg (YG.of (fun f hf => hy f (by omega) (by omega))) ⟨fun s _ => by rw [e7], by rw [hF.1 18 (by decide) (by decide) (by decide) (by decide) (by decide)], fun b _ _ => ?_⟩⟩
  unfold bt
  rw [hF.1 4 (by decide) (by decide) (by decide) (by decide) (by decide), hF.1 99 (by decide) (by decide) (by decide) (by decide) (by decide)]
theorem BI.rk (h : BI A B n) (hF : FRk n n') : BI A B n' := h.cg (hF.1 4 (by decide) (by decide) (by decide) (by decide) (by decide)) (by rw [hF.1 5 (by decide) (by decide) (by decide) (by decide) (by decide)]; exact ⟨rfl, rfl⟩) (hF.1 90 (by decide) (by decide) (by decide) (by decide) (by decide)) (hF.1 91 (by decide) (by decide) (by decide) (by decide) (by decide)) (hF.1 92 (by decide) (by decide) (by decide) (by decide) (by decide)) (hF.1 93 (by decide) (by decide) (by decide) (by decide) (by decide))
theorem JSrc.rk (h : JSrc n m) (hF : FRk n n') (h75 : m' 75 = m 75) (h76 : m' 76 = m 76) : JSrc n' m' := by
  unfold JSrc RDR tx at *
  rw [h75, h76, hF.2.1, hF.2.2, hF.1 4 (by decide) (by decide) (by decide) (by decide) (by decide), hF.1 90 (by decide) (by decide) (by decide) (by decide) (by decide), hF.1 92 (by decide) (by decide) (by decide) (by decide) (by decide), hF.1 93 (by decide) (by decide) (by decide) (by decide) (by decide), hF.1 99 (by decide) (by decide) (by decide) (by decide) (by decide)]
  exact h
theorem JSrc.row {S : Int → Prop} (h : JSrc n m) (hF : FB S n n') (hS : ∀ x, S x → 0 ≤ x ∧ x ≤ 604) (h75 : m' 75 = m 75) (h76 : m' 76 = m 76) : JSrc n' m' := by
  obtain ⟨a1, a2, a3, a4⟩ := h
  have e8 := hF.1 8 (by decide) (by decide) (by decide) (by decide) (by decide) (by decide)
  refine ⟨by rw [h75, h76]; exact a1.fb hF a2 (fun x hx => a3 x (hS x hx).1 (hS x hx).2), by rw [e8]; have := hF.2.2.1; omega, fun b b0 b1 => ?_, by rw [h75, h76]; exact a4⟩
  rw [e8]
  by_cases z : S b
  · rcases hF.2.2.2.2.2 b z with y | y
    · rw [y]; exact a3 b b0 b1
    · intro w; omega
  · rw [hF.2.1 b z]; exact a3 b b0 b1
theorem JF.row {S : Int → Prop} (h : JF n m) (hF : FB S n n') (h70 : m' 70 = m 70) (h71 : m' 71 = m 71) (h72 : m' 72 = m 72) : JF n' m' := by
  unfold JF at *
  rw [h70, h71, h72, hF.1 8 (by decide) (by decide) (by decide) (by decide) (by decide) (by decide), hF.1 28 (by decide) (by decide) (by decide) (by decide) (by decide) (by decide), hF.1 29 (by decide) (by decide) (by decide) (by decide) (by decide) (by decide)]
  exact h
/-- the bytes of a run go into a TEXT -/
theorem fill_both {j t : Int} (hB : BI A B n) (hT : JT n m N o e p) (hP : JP m N o p) (hF : JF n m) (hS : JSrc n m) (j0 : 0 ≤ j) (j1 : j < N) (ht : o j = t) (h17 : m 46 t = 17) (h63 : m 63 t = 0 ∨ m 63 t = 1) (hcut : m 63 t = 1 ↔ n 8 0 11 = t) (hi : 0 ≤ i ∧ i ≤ to ∧ to ≤ m 76 0) (hr : r = 0 ∨ r = 1) (hfl : m 70 0 < 90000) :
    ∃ n' m', nk_Reader_addRun_96 i to (1 - r) t n = some n' ∧ nk_Y_run_185 i r to t m = some (to, m') ∧ BI A B n' ∧ JT n' m' N o e p ∧ JP m' N o p ∧ JF n' m' ∧ JSrc n' m'
      ∧ (m' 63 t = 0 ∨ m' 63 t = 1) ∧ (m' 63 t = 1 ↔ n' 8 0 11 = t) ∧ (n' 8 0 11 = n 8 0 11 ∨ n' 8 0 11 = t)
      ∧ (∀ K, K ≠ 4 → K ≠ 8 → K ≠ 28 → K ≠ 29 → K ≠ 90 → K ≠ 91 → K ≠ 92 → K ≠ 93 → K ≠ 99 → n' K = n K) ∧ (∀ s, s ≠ 3 → s ≠ 11 → n' 8 0 s = n 8 0 s)
      ∧ FY [61, 62, 63, 70, 71, 72, 77] m m' ∧ m' 70 0 ≤ m 70 0 + 1 ∧ FRR n n' := by
  subst ht
  have hv := hT.1.1.oB j0 j1
  have hd := hT.2.2.2 j j0 j1
  obtain ⟨k1, k2, k3, k4, k5⟩ := hd.2.2.2.2.1 h17
  obtain ⟨s1, s2, s3, s4⟩ := hS
  have hL := s1.2.2.2
  obtain ⟨⟨z, n1⟩, ec, dn, rest, c1, c2, c3, c4, c5⟩ := c_decode (A := A) (B := B) (b := 5 * o j) (r := r) s1 hB (by omega) s2 (s3 _ (by omega) (by omega)) ⟨hi.1, hi.2.1, hi.2.2⟩ s4 hr
  obtain ⟨m1, ey, dn', ov, y1, y2⟩ := y_runLoop (m := m) (g := m 75) (v := o j) (i := i) (to := to) (r := r) rfl hv k1 ⟨hi.1, hi.2.1, by omega⟩ (fun x a b => s4 x a (by omega)) ⟨hF.2.1, by omega⟩ h63
  simp only at c2 c3
  rw [lim_5 (by omega)] at c4 c5
  have hsz : n 4 (5 * o j) 2 = m 62 (o j) := by
    have := bt_len (b := 5 * o j) (by omega) hB
    rw [k3] at this
    unfold txL at this
    rw [sg_len] at this
    omega
  rw [hsz] at c4 c5
  obtain ⟨ed, er⟩ := cut_same c1 y1 c4 y2.2.2.1 c5 y2.2.2.2.1
  subst ed; subst er
  have htx : ∀ x ∈ dn, isTx x.2 := fun x hx => (dcl_in (r := r) (g := m 75) (to := to) (L := m 76 0) s4 hi.2.2 (to - i).toNat i hi.1 x (by
    have : x ∈ dcl r (m 75) i to := by rw [c1]; exact List.mem_append_left _ hx
    exact this)).1
  obtain ⟨hT1, hP1⟩ := hT.app hP hB j0 j1 h17 c3 y2 htx
  have hF1 := c3.2.1
  have e8 := hF1.1 8 (by decide) (by decide) (by decide) (by decide) (by decide) (by decide)
  obtain ⟨q1, q2, q3, q4, q5, q6, q7, q8, q9⟩ := y2
  have hS1 : JSrc n1 m1 := JSrc.row ⟨s1, s2, s3, s4⟩ hF1 (fun x hx => by omega) (q1 75 (by decide)) (q1 76 (by decide))
  have eY : nk_Y_run_185 i r to (o j) m = some (to, m1) := by unfold nk_Y_run_185; rw [ey]; rfl
  have eC : nk_Reader_addRun_96 i to (1 - r) (o j) n = if z < to then (if n1 8 0 11 = o j then some n1 else st (nw n1 8 0 11 (o j)) fun n18 => (N_Reader_tell 7 z n18).bind fun n22 => some n22) else some n1 := by
    unfold nk_Reader_addRun_96 ix
    rw [if_pos hv, ec]; rfl
  have fK : ∀ K, K ≠ 4 → K ≠ 8 → K ≠ 28 → K ≠ 29 → K ≠ 90 → K ≠ 91 → K ≠ 92 → K ≠ 93 → K ≠ 99 → n1 K = n K := fun K a b c d e f g h i => hF1.1 K a e f g h i
  by_cases hrest : rest = []
  · subst hrest
    have hz : z = to := c2
    rw [if_pos rfl] at q8
    rw [if_pos (.inl rfl)] at q9
    refine ⟨n1, m1, by rw [eC, if_neg (by omega)], eY, c3.1, hT1, hP1, hF.row hF1 q9.1 q9.2.1 q9.2.2, hS1, by rw [q8]; exact h63, by rw [q8, e8]; exact hcut, .inl (by rw [e8]), fK, fun s _ _ => by rw [e8], q1, by rw [q9.1]; omega, FRR.fb hF1 (fun x hx => by omega)⟩
  · have hzlt : z < to := by
      cases rest with
      | nil => exact absurd rfl hrest
      | cons x xs =>
        have hz : z = x.1 := c2
        have := (dcl_in (r := r) (g := m 75) (to := to) (L := m 76 0) s4 hi.2.2 (to - i).toNat i hi.1 x (by
          have : x ∈ dcl r (m 75) i to := by rw [c1]; exact List.mem_append_right _ List.mem_cons_self
          exact this)).2.2.2
        omega
    rw [if_neg hrest] at q8
    by_cases h0 : m 63 (o j) = 0
    · rw [if_neg (fun y => by
        rcases y with y | y
        · exact hrest y
        · exact y h0)] at q9
      have hne : n1 8 0 11 ≠ o j := fun y => by
        rw [e8] at y
        have := hcut.mpr y
        omega
      generalize hn2 : nw n1 8 0 11 (o j) = n2 at *
      have e3 : n2 8 0 3 = n 8 0 3 := by rw [← hn2, nw_ns (by decide), e8]
      obtain ⟨n3, et, t1, t2, t3⟩ := c_tell (n := n2) (w := 7) (pl := z) (by rw [e3, hF.1]; have := hF.2.1; omega)
      have k2' : ∀ K, K ≠ 8 → n2 K = n1 K := fun K hK => by rw [← hn2]; exact nw_nK hK
      have fr : FRk n1 n3 := ⟨fun K a b c _ _ => by rw [t2 K a b c, k2' K a], by rw [t3 8 (by decide), ← hn2, nw_ns (by decide)], by rw [t3 9 (by decide), ← hn2, nw_ns (by decide)]⟩
      have e11 : n3 8 0 11 = o j := by rw [t3 11 (by decide), ← hn2, nw_eq]
      have hJF : JF n3 m1 := by
        refine hF.told (w := 7) (pl := z) ⟨by rw [t1.1, e3], fun x x0 x1 x2 => ?_, fun x => ?_⟩ (by rw [c2]; exact q9) (by omega)
        · have := t1.2.1 x x0 (by rw [e3]; exact x1) x2
          rw [this.1, this.2, k2' 28 (by decide), k2' 29 (by decide), hF1.1 28 (by decide) (by decide) (by decide) (by decide) (by decide) (by decide), hF1.1 29 (by decide) (by decide) (by decide) (by decide) (by decide) (by decide)]
          exact ⟨rfl, rfl⟩
        · have := t1.2.2 (by rw [e3]; exact x)
          rw [e3] at this; exact this
      refine ⟨n3, m1, ?_, eY, c3.1.rk fr, hT1.rk fr (fun _ _ _ => rfl), hP1, hJF, hS1.rk fr rfl rfl, .inr q8, ⟨fun _ => e11, fun _ => q8⟩, .inr e11, fun K a b c d e f g h i => ?_, fun s a b => ?_, q1, by have := q9.1; omega, (FRR.fb hF1 (fun x hx => by omega)).trans (FRR.rk fr)⟩
      · rw [eC, if_pos hzlt, if_neg hne]
        show ((N_Reader_tell 7 z n2).bind fun n22 => some n22) = _
        rw [et]; rfl
      · rw [t2 K b c d, k2' K b]; exact fK K a b c d e f g h i
      · rw [t3 s a, ← hn2, nw_ns b, e8]
    · rw [if_pos (.inr h0)] at q9
      have heq : n1 8 0 11 = o j := by rw [e8]; exact hcut.mp (by omega)
      refine ⟨n1, m1, by rw [eC, if_pos hzlt, if_pos heq], eY, c3.1, hT1, hP1, hF.row hF1 q9.1 q9.2.1 q9.2.2, hS1, .inr q8, ⟨fun _ => heq, fun _ => q8⟩, .inr heq, fK, fun s _ _ => by rw [e8], q1, by rw [q9.1]; omega, FRR.fb hF1 (fun x hx => by omega)⟩
end G6
