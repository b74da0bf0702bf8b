/-! AN ANSWER IS KEPT, in both: all of it -/
section J7
variable {n n' : NS} {m m' : YS} {A B a g i v1 v2 k' r : Int} {nm q mk nm' q' mk' : List Int} {ss ss' : List (List Int)} {As Bs W : Int → Prop} {κ : Int → Int}
theorem CA.adL_eq {x : Int} (h : CA n x nm ss q mk) (h' : CA n x nm' ss' q' mk') : adL nm ss q = adL nm' ss' q' := by
  obtain ⟨c1, c2, c3, c4, c5, c6⟩ := h
  obtain ⟨d1, d2, d3, d4, d5, d6⟩ := h'
  have l1 := adL_len (nm := nm) (ss := ss) (q := q)
  have l2 := adL_len (nm := nm') (ss := ss') (q := q')
  have g6 := sg_pre c6
  have h6 := sg_pre d6
  have : (adL nm ss q).length = (adL nm' ss' q').length := by omega
  rw [← g6, ← h6, this]
theorem JKp.dis (h : JKp κ As Bs n m) {j j' : Int} (h0 : 0 ≤ j) (h1 : j < m 26 0) (h0' : 0 ≤ j') (h1' : j' < m 26 0) (he : j ≠ j') : rowL m (18 + κ j) ≠ rowL m (18 + κ j') := by
  by_cases z : j < j'
  · exact (h.2.2.1 j j' h0 z h1').2
  · exact fun w => (h.2.2.1 j' j h0' (by omega) h1).2 w.symm
theorem JKp.put (hK : JKp κ As Bs n m) (hbs : BsI n As Bs) (ha : AnS As Bs n m a i (6 + i) (46 + i)) (hi : 0 ≤ i ∧ i < 12) (hC : CA n (n 99 a 0) nm ss q []) (hW : WFA nm ss q []) (hR : RA m 4 nm ss q [])
    (hcase : (0 ≤ g ∧ g < m 26 0 ∧ v2 = κ g ∧ k' = m 26 0) ∨ (g = m 26 0 ∧ v2 = m 26 0 ∧ k' = m 26 0 + 1)) (h8 : k' ≤ 8) (hX : ∀ j, 0 ≤ j → j < m 26 0 → j ≠ g → rowL m (18 + κ j) ≠ adL nm ss q)
    (hn4 : n' 6 0 4 = k') (hn24 : ∀ j, 0 ≤ j → j < k' → n' 24 0 j = if j < g then n 24 0 j else if j < k' - 1 then n 24 0 (j + 1) else a) (hF : FQ As Bs (fun _ => False) n n') (h7 : n' 99 a 7 = m 25 0 + m 19 i) (h7' : ∀ x, x ≠ a → n' 99 x = n 99 x) (hY : YKp i v2 k' m m') :
    JKp (fun j => if j < g then κ j else if j < k' - 1 then κ (j + 1) else v2) As Bs n' m' := by
  have hinj := fun j j' => hK.inj (j := j) (j' := j')
  have hdis := fun j j' => hK.dis (j := j) (j' := j')
  obtain ⟨⟨k1, k2, k3, k4⟩, k5, k6, k7⟩ := hK
  obtain ⟨y1, y2, y3, y4, y5, y6⟩ := hY
  have hg : 0 ≤ g ∧ g < k' ∧ 1 ≤ k' := by omega
  have hv2 : 0 ≤ v2 ∧ v2 < k' := by
    rcases hcase with y | y
    · have := (k5 g y.1 y.2.1).1; omega
    · omega
  -- the ones that stay
  have old : ∀ j, 0 ≤ j → j < m 26 0 → j ≠ g → κ j ≠ v2 ∧ AnS As Bs n' m' (n 24 0 j) (12 + κ j) (18 + κ j) (58 + κ j) ∧ n' 99 (n 24 0 j) 7 = m' 28 (κ j) ∧ m' 29 (κ j) = m 29 (κ j) ∧ m 29 (κ j) < m 27 0 ∧ rowL m' (18 + κ j) = rowL m (18 + κ j) := fun j j0 j1 jg => by
    obtain ⟨b1, b2, b3, b4⟩ := k5 j j0 j1
    have hne : κ j ≠ v2 := fun z => by
      rcases hcase with y | y
      · exact jg (hinj j g j0 j1 y.1 y.2.1 (by rw [z]; exact y.2.2.1))
      · omega
    obtain ⟨nm1, ss1, qq1, w1, d1, r1⟩ := b2.2.1.2.2
    have hna : n 24 0 j ≠ a := fun z => by
      rw [z] at d1
      exact hX j j0 j1 jg (by rw [r1.rowL]; exact d1.adL_eq hC)
    have e18 := y6.2.2 (18 + κ j) (by omega) (by omega)
    have e58 := y6.2.2 (58 + κ j) (by omega) (by omega)
    refine ⟨hne, b2.fq hF (fun a h => h.elim) hbs e18 (fun _ => e58) ?_ (fun x x0 x1 => ?_), ?_, (y3.2.2 _ hne).2, b4, ?_⟩
    · have := y4.2.2.2 (12 + κ j) (by omega)
      exact this
    · have := b2.2.2.2.2.2.1
      exact y5.2 _ (by omega)
    · rw [h7' _ hna, (y3.2.2 _ hne).1]; exact b3
    · rw [(r1.rw w1 e18).rowL, r1.rowL]
  -- the new one
  have hrow : rowL m' (18 + v2) = adL nm ss q := (y6.1.ra hR hW).rowL
  have new : AnS As Bs n' m' a (12 + v2) (18 + v2) (58 + v2) := by
    obtain ⟨c1, c2, c3, c4, c5, c6, c7, c8⟩ := ha
    have e : ∀ s, s ≠ 7 → n' 99 a s = n 99 a s := fun s hs => hF.2.2.2.2.1 a c1.1 c1.2.1 c1.2.2 s hs
    have hx := hbs _ c5
    unfold AnS
    rw [e 0 (by decide), e 4 (by decide), e 5 (by decide), e 6 (by decide), y4.1, y4.2.1, y4.2.2.1, hF.2.2.2.1 _ c5, (hF.2.1 _ hx.1.2).2, (hF.2.1 a c1.2.1).1]
    refine ⟨⟨c1.1, by have := hF.1; omega, c1.2.2⟩, ⟨c2.1, c2.2.1, nm, ss, q, hW, hC.fq hF c2.1 (fun h => h.elim), y6.1.ra hR hW⟩, ?_, c4, c5, c6, c7, fun j x y => by rw [y5.1 j x y]; exact c8 j x y⟩
    rcases c3 with y | y
    · exact .inl y
    · obtain ⟨t1, t2, t3, nm2, ss2, q2, mk2, w2, d2, r2⟩ := y
      exact .inr ⟨t1, t2, t3, nm2, ss2, q2, mk2, w2, d2.fq hF t2 (fun h => h.elim), (y6.2.1 t1).ra r2 w2.nomk⟩
  have e26 : m' 26 0 = k' := y2.1
  have src : ∀ j, 0 ≤ j → j < k' - 1 → ∃ x, (if j < g then κ j else if j < k' - 1 then κ (j + 1) else v2) = κ x ∧ n' 24 0 j = n 24 0 x ∧ 0 ≤ x ∧ x < m 26 0 ∧ x ≠ g ∧ (x = if j < g then j else j + 1) := fun j j0 j1 => by
    rw [hn24 j j0 (by omega)]
    by_cases z : j < g
    · exact ⟨j, by rw [if_pos z], by rw [if_pos z], j0, by omega, by omega, by rw [if_pos z]⟩
    · exact ⟨j + 1, by rw [if_neg z, if_pos j1], by rw [if_neg z, if_pos j1], by omega, by omega, by omega, by rw [if_neg z]⟩
  refine ⟨⟨by rw [hn4, e26], by omega, by omega, by rw [y2.2]; omega⟩, fun j j0 j1 => ?_, fun j j' j0 jl j1 => ?_, fun k k0 k1' => ?_⟩
  · rw [e26] at j1 ⊢
    show (0 ≤ (if j < g then κ j else if j < k' - 1 then κ (j + 1) else v2) ∧ (if j < g then κ j else if j < k' - 1 then κ (j + 1) else v2) < k') ∧ AnS As Bs n' m' (n' 24 0 j) (12 + (if j < g then κ j else if j < k' - 1 then κ (j + 1) else v2)) (18 + (if j < g then κ j else if j < k' - 1 then κ (j + 1) else v2)) (58 + (if j < g then κ j else if j < k' - 1 then κ (j + 1) else v2)) ∧ n' 99 (n' 24 0 j) 7 = m' 28 (if j < g then κ j else if j < k' - 1 then κ (j + 1) else v2) ∧ m' 29 (if j < g then κ j else if j < k' - 1 then κ (j + 1) else v2) < m' 27 0
    by_cases z : j < k' - 1
    · obtain ⟨x, e1, e2, x0, x1, xg, _⟩ := src j j0 z
      rw [e1, e2]
      obtain ⟨b1, b2, b3, b4, b5, b6⟩ := old x x0 x1 xg
      have := (k5 x x0 x1).1
      exact ⟨by omega, b2, b3, by rw [b4, y2.2]; omega⟩
    · have hj : j = k' - 1 := by omega
      rw [hn24 j j0 j1, if_neg (by omega), if_neg z, if_neg (by omega), if_neg z]
      exact ⟨hv2, new, by rw [h7, y3.1], by rw [y3.2.1, y2.2]; omega⟩
  · rw [e26] at j1
    show m' 29 (if j < g then κ j else if j < k' - 1 then κ (j + 1) else v2) < m' 29 (if j' < g then κ j' else if j' < k' - 1 then κ (j' + 1) else v2) ∧ rowL m' (18 + (if j < g then κ j else if j < k' - 1 then κ (j + 1) else v2)) ≠ rowL m' (18 + (if j' < g then κ j' else if j' < k' - 1 then κ (j' + 1) else v2))
    obtain ⟨x, e1, e2, x0, x1, xg, ex⟩ := src j j0 (by omega)
    rw [e1]
    obtain ⟨b1, b2, b3, b4, b5, b6⟩ := old x x0 x1 xg
    by_cases z : j' < k' - 1
    · obtain ⟨x', e1', e2', x0', x1', xg', ex'⟩ := src j' (by omega) z
      rw [e1']
      obtain ⟨c1, c2, c3, c4, c5, c6⟩ := old x' x0' x1' xg'
      rw [b4, c4, b6, c6]
      refine k6 x x' x0 ?_ x1'
      rw [ex, ex']
      split <;> split <;> omega
    · rw [if_neg (by omega), if_neg z, b4, y3.2.1, b6, hrow]
      exact ⟨b5, hX x x0 x1 xg⟩
  · rw [e26] at k1' ⊢
    by_cases z : k = v2
    · refine ⟨k' - 1, by omega, by omega, ?_⟩
      show (if k' - 1 < g then κ (k' - 1) else if k' - 1 < k' - 1 then κ (k' - 1 + 1) else v2) = k
      rw [if_neg (by omega), if_neg (by omega)]; exact z.symm
    · obtain ⟨j, j0, j1, je⟩ := k7 k k0 (by omega)
      have hjg : j ≠ g := fun y => by
        rcases hcase with w | w
        · exact z (by rw [← je, y]; exact w.2.2.1.symm)
        · omega
      by_cases y : j < g
      · refine ⟨j, j0, by omega, ?_⟩
        show (if j < g then κ j else if j < k' - 1 then κ (j + 1) else v2) = k
        rw [if_pos y]; exact je
      · refine ⟨j - 1, by omega, by omega, ?_⟩
        show (if j - 1 < g then κ (j - 1) else if j - 1 < k' - 1 then κ (j - 1 + 1) else v2) = k
        rw [if_neg (by omega), if_pos (by omega), show j - 1 + 1 = j by omega]; exact je
theorem keep_both (hK : JKp κ As Bs n m) (hA : AdS n As) (hbs : BsI n As Bs) (ha : AnS As Bs n m a i (6 + i) (46 + i)) (hi : 0 ≤ i ∧ i < 12) (h1 : n 99 a 1 = m 19 i ∧ -1 ≤ m 19 i ∧ m 19 i ≤ 9999) (hC : CA n (n 99 a 0) nm ss q []) (hW : WFA nm ss q []) (hR : RA m 4 nm ss q []) (hc : n 6 0 12 = m 25 0 ∧ 0 ≤ m 25 0 ∧ m 25 0 ≤ 1000000) (h27 : m 27 0 < 1000000000) :
    ∃ n' m' κ' v2 w0, N_Net_keep a n = some n' ∧ N_Y_keep i m = some m' ∧ JKp κ' As Bs n' m' ∧ FQ As Bs (fun _ => False) n n' ∧ ((∀ K, K ≠ 24 → K ≠ 6 → K ≠ 99 → n' K = n K) ∧ (∀ s, s ≠ 4 → n' 6 0 s = n 6 0 s) ∧ (∀ x, x ≠ a → n' 99 x = n 99 x) ∧ ∀ s, s ≠ 7 → n' 99 a s = n 99 a s) ∧ (0 ≤ v2 ∧ v2 < 8) ∧ YKp i v2 w0 m m' := by
  have hK' := hK
  obtain ⟨⟨k1, k2, k3, k4⟩, k5, k6, k7⟩ := hK'
  have h18 : 0 ≤ m 18 i ∧ m 18 i ≤ 1500 := by have := ha.2.2.2.2.2.1; omega
  have h23 : m 23 i = 0 ∨ m 23 i = 1 := by rcases ha.2.2.1 with y | y; exact .inl y.1; exact .inr y.1
  have eC := c_keep2 hK hA ha hC hW
  have eY := y_keep2 (v1 := i) hK hR hW
  have ofC : ∀ g nx kc, nx 6 0 4 = kc → (∀ K, K ≠ 6 → nx K = n K) → (∀ s, s ≠ 4 → nx 6 0 s = n 6 0 s) → 1 ≤ kc ∧ kc ≤ 8 → kc ≤ m 26 0 + 1 → 0 ≤ g ∧ g < kc → (kc = m 26 0 + 1 → g = m 26 0) → ∃ n', nk_Net_keep_75 a g nx = some n' ∧ n' 6 0 4 = kc ∧ (∀ j, 0 ≤ j → j < kc → n' 24 0 j = if j < g then n 24 0 j else if j < kc - 1 then n 24 0 (j + 1) else a) ∧ FQ As Bs (fun _ => False) n n' ∧ n' 99 a 7 = m 25 0 + m 19 i ∧ ((∀ K, K ≠ 24 → K ≠ 6 → K ≠ 99 → n' K = n K) ∧ (∀ s, s ≠ 4 → n' 6 0 s = n 6 0 s) ∧ (∀ x, x ≠ a → n' 99 x = n 99 x) ∧ ∀ s, s ≠ 7 → n' 99 a s = n 99 a s) := fun g nx kc x1 x2 x3 x4 x5 x6 x7 => by
    have e99 := x2 99 (by decide)
    have e92 := x2 92 (by decide)
    have e24 := x2 24 (by decide)
    obtain ⟨n', en, n1, rfl, q1, q2⟩ := c_keep75 (n := nx) (a := a) (g := g) (kc := kc) ⟨x1, x4.1, x4.2⟩ x6 (fun j j0 j1 => by
      rw [e24, e92]
      have := (k5 j (by omega) (by omega)).2.1.1
      exact ⟨this.1, this.2.2⟩) (by rw [e92]; exact ha.1.2.2) (by rw [x3 12 (by decide), hc.1]; exact hc.2) (by rw [e99, h1.1]; exact h1.2)
    have n1_99 : n1 99 = n 99 := by rw [q1 99 (by decide), e99]
    have fq : FQ As Bs (fun _ => False) n n1 := FQ.ks (fun K hK => by rw [q1 K (by omega), x2 K (by omega)])
    refine ⟨_, en, ?_, fun j j0 j1 => ?_, fq.trans (FQ.nw7 (hA.fq fq) (hbs.fq fq) ?_), ?_, fun K a b c => ?_, fun s hs => ?_, fun x hx => ?_, fun s hs => ?_⟩
    · rw [nw_nK (by decide), q1 6 (by decide)]; exact x1
    · rw [nw_nK (by decide), q2 j j0 j1, e24]
    · rw [q1 92 (by decide), e92]; exact ha.1.2.2
    · rw [nw_eq, x3 12 (by decide), hc.1, e99, h1.1]
    · rw [nw_nK c, q1 K a, x2 K b]
    · rw [nw_nK (by decide), q1 6 (by decide)]; exact x3 s hs
    · rw [nw_ni hx, n1_99]
    · rw [nw_ns hs, n1_99]
  unfold N_Net_keep N_Y_keep
  rw [eC, eY]
  simp only [Option.bind_some]
  have hjc0 := scx_ge (p := fun j => rowL m (18 + κ j) ≠ adL nm ss q) 0 (m 26 0)
  have hjc1 := scx_le (p := fun j => rowL m (18 + κ j) ≠ adL nm ss q) (i := 0) (to := m 26 0) k2
  have hjcb := (scx_scn (p := fun j => rowL m (18 + κ j) ≠ adL nm ss q) 0 (m 26 0))
  generalize hjc : sc (fun j => rowL m (18 + κ j) ≠ adL nm ss q) 0 (m 26 0) = jc at *
  by_cases hf : jc < m 26 0
  · have hat : rowL m (18 + κ jc) = adL nm ss q := Classical.byContradiction (fun z => hjcb.2.2.2 hf z)
    have hκ := (k5 jc hjc0 hf).1
    have hky : sc (fun k => rowL m (18 + k) ≠ adL nm ss q) 0 (m 26 0) = κ jc := by
      refine (scx_eq ⟨hκ.1, .inl (by omega), fun k x y z => ?_, fun _ z => z hat⟩).symm
      obtain ⟨j, j0, j1, je⟩ := k7 k x (by omega)
      rw [← je] at z
      exact hK.dis j0 j1 hjc0 hf (fun w => by rw [w] at je; omega) (by rw [z, hat])
    rw [hky]
    obtain ⟨n', a1, a2, a3, a4, a5, a6⟩ := ofC jc n (m 26 0) k1 (fun _ _ => rfl) (fun _ _ => rfl) (by omega) (by omega) ⟨hjc0, hf⟩ (by omega)
    obtain ⟨m', b1, b2⟩ := y_keep93 (w0 := m 26 0) (m := m) hi (v2 := κ jc) (by omega) hc.2 h1.2 ⟨k4, h27⟩ h18 h23
    refine ⟨n', m', _, κ jc, m 26 0, ?_, ?_, hK.put hbs ha hi hC hW hR (.inl ⟨hjc0, hf, rfl, rfl⟩) k3 (fun j j0 j1 jg => fun z => hK.dis j0 j1 hjc0 hf jg (by rw [z, hat])) a2 a3 a4 a5 (fun x hx => a6.2.2.1 x hx) b2, a4, a6, by omega, b2⟩
    · unfold nk_Net_keep_35 nk_Net_keep_65
      rw [k1, if_neg (by omega), if_neg (by omega)]; exact a1
    · unfold nk_Y_keep_28 nk_Y_keep_71
      rw [if_neg (by omega), if_neg (by omega)]; exact b1
  · have hjk : jc = m 26 0 := by omega
    have hall : ∀ j, 0 ≤ j → j < m 26 0 → rowL m (18 + κ j) ≠ adL nm ss q := fun j j0 j1 => hjcb.2.2.1 j j0 (by omega)
    have hky : sc (fun k => rowL m (18 + k) ≠ adL nm ss q) 0 (m 26 0) = m 26 0 := by
      refine (scx_eq ⟨k2, .inl (Int.le_refl _), fun k x y => ?_, fun z => by omega⟩).symm
      obtain ⟨j, j0, j1, je⟩ := k7 k x y
      rw [← je]; exact hall j j0 j1
    rw [hky, hjk]
    by_cases h8 : m 26 0 < 8
    · obtain ⟨n', a1, a2, a3, a4, a5, a6⟩ := ofC (m 26 0) (nw n 6 0 4 (m 26 0 + 1)) (m 26 0 + 1) nw_eq (fun K hK => nw_nK hK) (fun s hs => nw_ns hs) (by omega) (by omega) (by omega) (fun _ => rfl)
      obtain ⟨m', b1, b2⟩ := y_keep93 (w0 := m 26 0 + 1) (m := m) hi (v2 := m 26 0) (by omega) hc.2 h1.2 ⟨k4, h27⟩ h18 h23
      refine ⟨n', m', _, m 26 0, m 26 0 + 1, ?_, ?_, hK.put hbs ha hi hC hW hR (.inr ⟨rfl, rfl, rfl⟩) (by omega) (fun j j0 j1 _ => hall j j0 j1) a2 a3 a4 a5 (fun x hx => a6.2.2.1 x hx) b2, a4, a6, by omega, b2⟩
      · unfold nk_Net_keep_35 ck st
        dsimp only
        rw [k1, if_pos rfl, if_pos h8, if_pos (by omega)]; exact a1
      · unfold nk_Y_keep_28 nk_Y_keep_71 ck
        rw [if_neg (by omega), if_pos rfl, if_pos (by omega)]; exact b1
    · have h8' : m 26 0 = 8 := by omega
      have hκ := (k5 0 (by omega) (by omega)).1
      obtain ⟨n', a1, a2, a3, a4, a5, a6⟩ := ofC 0 n (m 26 0) k1 (fun _ _ => rfl) (fun _ _ => rfl) (by omega) (by omega) (by omega) (by omega)
      obtain ⟨m', b1, b2⟩ := y_keep93 (w0 := m 26 0) (m := m) hi (v2 := κ 0) (by omega) hc.2 h1.2 ⟨k4, h27⟩ h18 h23
      refine ⟨n', m', _, κ 0, m 26 0, ?_, ?_, hK.put hbs ha hi hC hW hR (.inl ⟨by decide, by omega, rfl, rfl⟩) k3 (fun j j0 j1 _ => hall j j0 j1) a2 a3 a4 a5 (fun x hx => a6.2.2.1 x hx) b2, a4, a6, by omega, b2⟩
      · unfold nk_Net_keep_35 nk_Net_keep_65
        rw [k1, if_pos rfl, if_neg h8, if_pos rfl]; exact a1
      · unfold nk_Y_keep_28 nk_Y_keep_71
        rw [if_pos h8', y_keep38 hK h8']
        simp only [Option.bind_some]
        rw [if_neg (by omega)]; exact b1
end J7
