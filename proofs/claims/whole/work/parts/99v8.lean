/-! A LINE's items, in both -/
def iH (m : YS) (i : Int) : Int := if i < 0 then m 113 (-1 - i) else 7 * m 105 (11 * m 49 (m 118 i) + 8)
def mxH (m : YS) : Nat → Int
  | 0 => 0
  | k + 1 => max (mxH m k) (iH m (m 134 k))
/-- where the class keeps an item's x -/
def ixX (n : NS) (i : Int) : Int := if i < 0 then n 3 (-1 - i) 2 else n 99 (n 5 0 5) (6 * i + 3)
/-- an item that both know; v is the block -/
def ITk (n : NS) (m : YS) (v i : Int) : Prop := (i < 0 ∧ -120 ≤ i ∧ n 3 (-1 - i) 5 = m 113 (-1 - i) ∧ (0 ≤ m 113 (-1 - i) ∧ m 113 (-1 - i) ≤ 200) ∧ n 3 (-1 - i) 1 = v ∧ m 109 (-1 - i) = v ∧ n 3 (-1 - i) 0 = 2)
  ∨ (0 ≤ i ∧ i < n 5 0 6 ∧ n 99 (n 5 0 5) (6 * i) = m 118 i ∧ (0 ≤ m 118 i ∧ m 118 i < 120) ∧ n 3 (m 118 i) 11 = m 105 (11 * m 49 (m 118 i) + 8) ∧ (1 ≤ n 3 (m 118 i) 11 ∧ n 3 (m 118 i) 11 ≤ 3) ∧ (0 ≤ m 49 (m 118 i) ∧ m 49 (m 118 i) < 120) ∧ n 3 (m 118 i) 1 = v ∧ m 109 (m 118 i) = v)
/-- the two rows of the class's Layout -/
def WLc (n : NS) : Prop := (n 92 0 (n 5 0 5) = 0 ∧ n 92 0 (n 5 0 9) = 0) ∧ n 5 0 5 ≠ n 5 0 9 ∧ (0 ≤ n 5 0 6 ∧ n 5 0 6 ≤ 24000 ∧ 6 * n 5 0 6 ≤ n 93 0 (n 5 0 5)) ∧ (64 ≤ n 93 0 (n 5 0 9) ∧ n 93 0 (n 5 0 9) ≤ 100000) ∧ (0 ≤ n 5 0 5 ∧ 0 ≤ n 5 0 9)
def DNb (n : NS) (m : YS) (E a : Int) : Prop := (n 3 a 2 = m 110 a + E ∧ n 3 a 3 = m 111 a + E) ∧ (-6000000 ≤ m 110 a ∧ m 110 a ≤ 6000000) ∧ (0 ≤ m 111 a ∧ m 111 a ≤ 1000000)
def DNw (n : NS) (m : YS) (E w : Int) : Prop := (n 99 (n 5 0 5) (6 * w + 3) = m 121 w + E ∧ n 99 (n 5 0 5) (6 * w + 4) = m 122 w + E) ∧ (-6000000 ≤ m 121 w ∧ m 121 w ≤ 6000000) ∧ (0 ≤ m 122 w ∧ m 122 w ≤ 1000000)
/-- the items of the line -/
def LIt (n : NS) (m : YS) (v E : Int) : Prop := (n 5 0 10 = m 131 0 ∧ 0 ≤ m 131 0 ∧ m 131 0 ≤ 24000 ∧ m 131 0 ≤ n 93 0 (n 5 0 9))
  ∧ (∀ i, 0 ≤ i → i < m 131 0 → n 99 (n 5 0 9) i = m 134 i ∧ ITk n m v (m 134 i) ∧ ixX n (m 134 i) = m 135 i + E ∧ 0 ≤ m 135 i ∧ m 135 i ≤ 2000000)
  ∧ (∀ i j, 0 ≤ i → i < j → j < m 131 0 → m 134 i ≠ m 134 j) ∧ m 132 0 = mxH m (m 131 0).toNat
section V8
variable {n n' : NS} {m m' : YS} {a b c y q s E F v wd u w t sh Y H I : Int}
theorem mxH_s (h : 0 ≤ s) : mxH m (s + 1).toNat = max (mxH m s.toNat) (iH m (m 134 s)) := by
  rw [show (s + 1).toNat = s.toNat + 1 by omega]
  simp only [mxH]
  rw [show ((s.toNat : Nat) : Int) = s by omega]
theorem ITk.iH_b (h : ITk n m v a) : 0 ≤ iH m a ∧ iH m a ≤ 200 := by
  unfold iH
  rcases h with ⟨h1, h2, h3, h4, h5⟩ | ⟨h1, h2, h3, h4, h5, h6, h7⟩
  · rw [if_pos h1]; omega
  · rw [if_neg (by omega)]; omega
theorem mxH_b : ∀ k : Nat, (∀ i : Int, 0 ≤ i → i < k → ITk n m v (m 134 i)) → 0 ≤ mxH m k ∧ mxH m k ≤ 200 := by
  intro k
  induction k with
  | zero => intro _; simp only [mxH]; omega
  | succ k ih =>
    intro h
    have := ih (fun i x y => h i x (by omega))
    have := (h k (by omega) (by omega)).iH_b
    simp only [mxH]; omega
theorem mxH_ge : ∀ k : Nat, ∀ i : Int, 0 ≤ i → i < k → iH m (m 134 i) ≤ mxH m k := by
  intro k
  induction k with
  | zero => intro i x y; omega
  | succ k ih =>
    intro i x y
    simp only [mxH]
    by_cases z : i = k
    · rw [z]; omega
    · have := ih i x (by omega); omega
theorem mxH_cg (h134 : ∀ i : Int, 0 ≤ i → i < I → m' 134 i = m 134 i) (hi : ∀ i : Int, 0 ≤ i → i < I → iH m' (m 134 i) = iH m (m 134 i)) : ∀ k : Nat, (k : Int) ≤ I → mxH m' k = mxH m k := by
  intro k
  induction k with
  | zero => intro _; rfl
  | succ k ih =>
    intro h
    simp only [mxH]
    rw [ih (by omega), h134 k (by omega) (by omega), hi k (by omega) (by omega)]
theorem y_itemHigh (h : ITk n m v a) (hw : n 5 0 6 ≤ 24000) : N_Y_itemHigh a m = some (iH m a) := by
  unfold N_Y_itemHigh iH
  rcases h with ⟨h1, h2, h3, h4, h5⟩ | ⟨h1, h2, h3, h4, h5, h6, h7, h8⟩
  · rw [if_pos h1, if_pos h1, ck_e _ (by omega), ix_e _ (by omega)]
  · rw [if_neg (by omega), if_neg (by omega), ix_e _ (by omega), ix_e _ h4, y_of h7 (by decide)]
    simp only [Option.bind_some]
    rw [ck_e _ (by omega)]
theorem c_wordHeight (hW : WLc n) (h : ITk n m v a) (h0 : 0 ≤ a) : N_Layout_wordHeight a n = some (iH m a) := by
  obtain ⟨w1, w2, w3, w4, w5⟩ := hW
  unfold N_Layout_wordHeight iH
  rcases h with ⟨h1, _⟩ | ⟨h1, h2, h3, h4, h5, h6, h7, h8⟩
  · omega
  · apply eq_of_ev
    rw [if_neg (by omega), show a * 6 = 6 * a by omega, h3, h5]
    exact ev_nn w5.1 (ev_ck (by omega) (ev_dx ⟨w1.1, by omega, by omega⟩ (ev_ix h4 (ev_ck (by omega) (ev_ok rfl)))))
/-- the class: how high the line is -/
theorem c_high (hW : WLc n) (hI : LIt n m v E) : NL_Layout_closeLine_60 sh 0 0 n = some (m 132 0) := by
  obtain ⟨⟨i1, i2, i3, i4⟩, i5, i6, i7⟩ := hI
  have hW0 := hW
  obtain ⟨w1, w2, w3, w4, w5⟩ := hW
  apply eq_of_ev
  unfold NL_Layout_closeLine_60
  refine ev_it (fun t : Int × Int => (0 ≤ t.2 ∧ t.2 ≤ m 131 0) ∧ t.1 = mxH m t.2.toNat) (fun t => m 131 0 - t.2) (fun t ht => ?_) ⟨by show (0 : Int) ≤ 0 ∧ (0 : Int) ≤ _; omega, rfl⟩
  obtain ⟨x, k⟩ := t
  obtain ⟨g1, g2⟩ := ht
  simp only at g1 g2
  show ev (nb_Layout_closeLine_60 sh x k n) _
  unfold nb_Layout_closeLine_60 nk_Layout_closeLine_111
  rw [i1]
  refine ev_if (fun hlt => ?_) (fun hge => ev_inr (by show x = _; rw [g2, i7, show k = m 131 0 by omega]))
  obtain ⟨j1, j2, j3⟩ := i5 k g1.1 hlt
  have hdx : n 92 0 (n 5 0 9) = 0 ∧ 0 ≤ k ∧ k < n 93 0 (n 5 0 9) := ⟨w1.2, g1.1, by omega⟩
  refine ev_nn w5.2 (ev_dx hdx ?_)
  rw [j1]
  have fin : ∀ h, h = iH m (m 134 k) → ev (ck (k + 1) (some (Sum.inl (max x h, k + 1)))) (lp (fun t : Int × Int => (0 ≤ t.2 ∧ t.2 ≤ m 131 0) ∧ t.1 = mxH m t.2.toNat) (fun t => m 131 0 - t.2) (x, k) (fun r => r = m 132 0)) := fun h hh => ev_ck (by omega) (ev_inl ⟨⟨by show 0 ≤ k + 1 ∧ k + 1 ≤ _; omega, by show max x h = mxH m (k + 1).toNat; rw [mxH_s g1.1, g2, hh]⟩, by show m 131 0 - (k + 1) < m 131 0 - k; omega, by show 0 ≤ m 131 0 - k; omega⟩)
  refine ev_if (fun hneg => ?_) (fun hpos => ?_)
  · rcases j2 with ⟨h1, h2, h3, h4, h5⟩ | ⟨h1, _⟩
    · refine ev_nn w5.2 (ev_dx hdx (ev_ck (by omega) (ev_ix (by omega) (fin _ ?_))))
      rw [h3]; unfold iH; rw [if_pos h1]
    · omega
  · refine ev_nn w5.2 (ev_dx hdx ?_)
    rw [c_wordHeight hW0 j2 (by omega)]
    simp only [Option.bind_some]
    exact fin _ rfl
/-- the items of the line are put where they stand -/
theorem itm_loop {n0 : NS} {m0 : YS} (hW : WLc n0) (hI : LIt n0 m0 v E) (h11 : n0 5 0 11 = m0 127 0 + m0 132 0 + E) (h127 : 0 ≤ m0 127 0 ∧ m0 127 0 + m0 132 0 ≤ 1000000) (hsh : 0 ≤ sh ∧ sh ≤ 4000000) (hE : 0 ≤ E ∧ E ≤ 50) :
    ∀ (z : Nat) (t : Int) (n : NS) (m : YS), (m0 131 0 - t).toNat ≤ z → 0 ≤ t → t ≤ m0 131 0 → (∀ K, K ≠ 3 → K ≠ 99 → n K = n0 K) → (∀ a s, s ≠ 2 → s ≠ 3 → n 3 a s = n0 3 a s) → (∀ q, q ≠ n0 5 0 5 → n 99 q = n0 99 q) → (∀ j, j % 6 ≠ 3 → j % 6 ≠ 4 → n 99 (n0 5 0 5) j = n0 99 (n0 5 0 5) j) → FY [110, 111, 121, 122] m0 m → (∀ i, t ≤ i → i < m0 131 0 → ixX n (m0 134 i) = m0 135 i + E) →
    ∃ n' m', NL_Layout_closeLine_134 sh t n = some n' ∧ NL_Y_endLine_43 sh t m = some m' ∧ (∀ K, K ≠ 3 → K ≠ 99 → n' K = n0 K) ∧ (∀ a s, s ≠ 2 → s ≠ 3 → n' 3 a s = n0 3 a s) ∧ (∀ q, q ≠ n0 5 0 5 → n' 99 q = n0 99 q) ∧ (∀ j, j % 6 ≠ 3 → j % 6 ≠ 4 → n' 99 (n0 5 0 5) j = n0 99 (n0 5 0 5) j) ∧ FY [110, 111, 121, 122] m0 m'
      ∧ (∀ i, t ≤ i → i < m0 131 0 → (m0 134 i < 0 → DNb n' m' E (-1 - m0 134 i)) ∧ (0 ≤ m0 134 i → DNw n' m' E (m0 134 i)))
      ∧ (∀ a, (∀ i, t ≤ i → i < m0 131 0 → m0 134 i ≠ -1 - a) → 0 ≤ a → n' 3 a = n 3 a ∧ m' 110 a = m 110 a ∧ m' 111 a = m 111 a)
      ∧ (∀ w, (∀ i, t ≤ i → i < m0 131 0 → m0 134 i ≠ w) → 0 ≤ w → n' 99 (n0 5 0 5) (6 * w + 3) = n 99 (n0 5 0 5) (6 * w + 3) ∧ n' 99 (n0 5 0 5) (6 * w + 4) = n 99 (n0 5 0 5) (6 * w + 4) ∧ m' 121 w = m 121 w ∧ m' 122 w = m 122 w) := by
  obtain ⟨⟨i1, i2, i3, i4⟩, i5, i6, i7⟩ := hI
  have hW0 := hW
  obtain ⟨w1, w2, w3, w4, w5⟩ := hW
  intro z
  induction z with
  | zero =>
    intro t n m hz t0 t1 f1 f2 f3 f4 f5 f6
    have hc : NL_Layout_closeLine_134 sh t n = some n := by
      unfold NL_Layout_closeLine_134
      refine it_inr ?_
      show nb_Layout_closeLine_134 sh t n = _
      unfold nb_Layout_closeLine_134
      rw [f1 5 (by decide) (by decide), if_neg (by omega)]
    have hy : NL_Y_endLine_43 sh t m = some m := by
      unfold NL_Y_endLine_43
      refine it_inr ?_
      show nb_Y_endLine_43 sh t m = _
      unfold nb_Y_endLine_43
      rw [f5 131 (by decide), if_neg (by omega)]
    exact ⟨n, m, hc, hy, f1, f2, f3, f4, f5, fun i x y => by omega, fun a _ _ => ⟨rfl, rfl, rfl⟩, fun w _ _ => ⟨rfl, rfl, rfl, rfl⟩⟩
  | succ z ih =>
    intro t n m hz t0 t1 f1 f2 f3 f4 f5 f6
    by_cases hlt : t < m0 131 0
    · obtain ⟨j1, j2, j3, j4, j5⟩ := i5 t t0 hlt
      have hx := f6 t (Int.le_refl _) hlt
      have hih := j2.iH_b
      have hge := mxH_ge (m := m0) (m0 131 0).toNat t t0 (by omega)
      rw [← i7] at hge
      have e5 : n 5 = n0 5 := f1 5 (by decide) (by decide)
      have e92 : n 92 = n0 92 := f1 92 (by decide) (by decide)
      have e93 : n 93 = n0 93 := f1 93 (by decide) (by decide)
      have eL : n 99 (n0 5 0 9) = n0 99 (n0 5 0 9) := f3 _ (fun x => w2 x.symm)
      have e127 : m 127 = m0 127 := f5 127 (by decide)
      have e132 : m 132 = m0 132 := f5 132 (by decide)
      have e134 : m 134 = m0 134 := f5 134 (by decide)
      have e135 : m 135 = m0 135 := f5 135 (by decide)
      have e131 : m 131 = m0 131 := f5 131 (by decide)
      have e113 : m 113 = m0 113 := f5 113 (by decide)
      have j2m : ITk n m v (m0 134 t) := by
        unfold ITk at *
        rw [f2 _ 5 (by decide) (by decide), f2 _ 1 (by decide) (by decide), f2 _ 0 (by decide) (by decide), e113, f5 109 (by decide), e5, f4 _ (by omega) (by omega), f5 118 (by decide), f2 _ 11 (by decide) (by decide), f2 _ 1 (by decide) (by decide), f5 105 (by decide), f5 49 (by decide)]
        exact j2
      have ehm : iH m (m0 134 t) = iH m0 (m0 134 t) := by
        unfold iH
        rw [e113, f5 105 (by decide), f5 49 (by decide), f5 118 (by decide)]
      have hyh : N_Y_itemHigh (m0 134 t) m = some (iH m0 (m0 134 t)) := by rw [y_itemHigh j2m (by rw [e5]; omega), ehm]
      have hdx : n 92 0 (n 5 0 9) = 0 ∧ 0 ≤ t ∧ t < n 93 0 (n 5 0 9) := by rw [e92, e93, e5]; exact ⟨w1.2, t0, by omega⟩
      -- one item, then the rest
      have go : ∀ (n1 : NS) (m1 : YS), nb_Layout_closeLine_134 sh t n = some (.inl (t + 1, n1)) → nb_Y_endLine_43 sh t m = some (.inl (t + 1, m1)) → (∀ K, K ≠ 3 → K ≠ 99 → n1 K = n0 K) → (∀ a s, s ≠ 2 → s ≠ 3 → n1 3 a s = n0 3 a s) → (∀ q, q ≠ n0 5 0 5 → n1 99 q = n0 99 q) → (∀ j, j % 6 ≠ 3 → j % 6 ≠ 4 → n1 99 (n0 5 0 5) j = n0 99 (n0 5 0 5) j) → FY [110, 111, 121, 122] m0 m1 → ((m0 134 t < 0 → DNb n1 m1 E (-1 - m0 134 t)) ∧ (0 ≤ m0 134 t → DNw n1 m1 E (m0 134 t))) → (∀ a, m0 134 t ≠ -1 - a → 0 ≤ a → n1 3 a = n 3 a ∧ m1 110 a = m 110 a ∧ m1 111 a = m 111 a) → (∀ w, m0 134 t ≠ w → 0 ≤ w → n1 99 (n0 5 0 5) (6 * w + 3) = n 99 (n0 5 0 5) (6 * w + 3) ∧ n1 99 (n0 5 0 5) (6 * w + 4) = n 99 (n0 5 0 5) (6 * w + 4) ∧ m1 121 w = m 121 w ∧ m1 122 w = m 122 w) →
          ∃ n' m', NL_Layout_closeLine_134 sh t n = some n' ∧ NL_Y_endLine_43 sh t m = some m' ∧ (∀ K, K ≠ 3 → K ≠ 99 → n' K = n0 K) ∧ (∀ a s, s ≠ 2 → s ≠ 3 → n' 3 a s = n0 3 a s) ∧ (∀ q, q ≠ n0 5 0 5 → n' 99 q = n0 99 q) ∧ (∀ j, j % 6 ≠ 3 → j % 6 ≠ 4 → n' 99 (n0 5 0 5) j = n0 99 (n0 5 0 5) j) ∧ FY [110, 111, 121, 122] m0 m'
            ∧ (∀ i, t ≤ i → i < m0 131 0 → (m0 134 i < 0 → DNb n' m' E (-1 - m0 134 i)) ∧ (0 ≤ m0 134 i → DNw n' m' E (m0 134 i)))
            ∧ (∀ a, (∀ i, t ≤ i → i < m0 131 0 → m0 134 i ≠ -1 - a) → 0 ≤ a → n' 3 a = n 3 a ∧ m' 110 a = m 110 a ∧ m' 111 a = m 111 a)
            ∧ (∀ w, (∀ i, t ≤ i → i < m0 131 0 → m0 134 i ≠ w) → 0 ≤ w → n' 99 (n0 5 0 5) (6 * w + 3) = n 99 (n0 5 0 5) (6 * w + 3) ∧ n' 99 (n0 5 0 5) (6 * w + 4) = n 99 (n0 5 0 5) (6 * w + 4) ∧ m' 121 w = m 121 w ∧ m' 122 w = m 122 w) := fun n1 m1 c1 c2 g1 g2 g3 g4 g5 g6 g7 g8 => by
        obtain ⟨n', m', r1, r2, r3, r4, r5, r6, r7, r8, r9, r10⟩ := ih (t + 1) n1 m1 (by omega) (by omega) (by omega) g1 g2 g3 g4 g5 (fun i x y => by
          have hd := i6 t i t0 (by omega) y
          rw [← f6 i (by omega) y]
          have hit := (i5 i (by omega) y).2.1
          unfold ixX
          rw [g1 5 (by decide) (by decide), e5]
          by_cases u : m0 134 i < 0
          · rw [if_pos u, if_pos u, (g7 (-1 - m0 134 i) (by omega) (by omega)).1]
          · rw [if_neg u, if_neg u, (g8 (m0 134 i) hd (by omega)).1])
        have hdt : ∀ i, t + 1 ≤ i → i < m0 131 0 → m0 134 i ≠ m0 134 t := fun i x y => (i6 t i t0 (by omega) y).symm
        refine ⟨n', m', ?_, ?_, r3, r4, r5, r6, r7, fun i x y => ?_, fun a ha a0 => ?_, fun w hw w0 => ?_⟩
        · rw [← r1]
          unfold NL_Layout_closeLine_134
          exact it_inl (f := fun s : Int × NS => nb_Layout_closeLine_134 sh s.1 s.2) (s := (t, n)) c1
        · rw [← r2]
          unfold NL_Y_endLine_43
          exact it_inl (f := fun s : Int × YS => nb_Y_endLine_43 sh s.1 s.2) (s := (t, m)) c2
        · by_cases u : i = t
          · rw [u]
            refine ⟨fun x => ?_, fun x => ?_⟩
            · have q := r9 (-1 - m0 134 t) (fun i x y => by have := hdt i x y; omega) (by omega)
              have d := g6.1 x
              unfold DNb at *
              rw [q.1, q.2.1, q.2.2]; exact d
            · have q := r10 (m0 134 t) (fun i x y => hdt i x y) x
              have d := g6.2 x
              unfold DNw at *
              rw [r3 5 (by decide) (by decide), q.1, q.2.1, q.2.2.1, q.2.2.2]
              rw [g1 5 (by decide) (by decide)] at d
              exact d
          · exact r8 i (by omega) y
        · have q := r9 a (fun i x y => ha i (by omega) y) a0
          have q2 := g7 a (ha t (Int.le_refl _) hlt) a0
          rw [q.1, q.2.1, q.2.2]; exact q2
        · have q := r10 w (fun i x y => hw i (by omega) y) w0
          have q2 := g8 w (hw t (Int.le_refl _) hlt) w0
          rw [q.1, q.2.1, q.2.2.1, q.2.2.2]; exact q2
      rcases j2 with ⟨h1, h2, h3, h4, h5⟩ | ⟨h1, h2, h3, h4, h5, h6, h7, h8⟩
      · -- a PIECE
        have hxx : n 3 (-1 - m0 134 t) 2 = m0 135 t + E := by
          have := hx; unfold ixX at this; rw [if_pos h1] at this; exact this
        have hHH : iH m0 (m0 134 t) = m0 113 (-1 - m0 134 t) := by unfold iH; rw [if_pos h1]
        generalize hu : -1 - m0 134 t = u at *
        have hub : 0 ≤ u ∧ u < 120 := by omega
        refine go (nw (nw n 3 u 2 (m0 135 t + E + sh)) 3 u 3 (m0 127 0 + m0 132 0 + E - m0 113 u)) (yw (yw m 110 u (m0 135 t + sh)) 111 u (m0 127 0 + m0 132 0 - m0 113 u)) ?_ ?_ ?_ ?_ ?_ ?_ ?_ ?_ ?_ ?_
        · apply eq_of_ev
          unfold nb_Layout_closeLine_134 st
          dsimp only
          rw [e5, eL, j1, hu, hxx, i1]
          simp only [nw_nK (show (5 : Nat) ≠ 3 by decide), nw_ns (show (5 : Int) ≠ 2 by decide), f2 u 5 (by decide) (by decide), h3, e5, h11]
          rw [if_pos hlt]
          refine ev_nn w5.2 (ev_dx (by rw [e92, e93]; exact ⟨w1.2, t0, by omega⟩) ?_)
          rw [if_pos h1]
          exact ev_ck (by omega) (ev_ix hub (ev_ck (by omega) (ev_ck (by omega) (ev_ck (by omega) (ev_ok rfl)))))
        · apply eq_of_ev
          unfold nb_Y_endLine_43 st
          dsimp only
          rw [e131, e127, e132, e134, e135, hyh, hu, hHH]
          simp only [Option.bind_some]
          rw [if_pos hlt, if_pos h1]
          exact ev_ix (by omega) (ev_ck (by omega) (ev_ck (by omega) (ev_ck (by omega) (ev_ix (by omega) (ev_ck (by omega) (ev_ix hub (ev_ck (by omega) (ev_ix hub (ev_ck (by omega) (ev_ok rfl))))))))))
        · intro K x y; rw [nw_nK x, nw_nK x]; exact f1 K x y
        · intro a s x y; rw [nw_ns y, nw_ns x]; exact f2 a s x y
        · intro q hq; rw [nw_nK (by decide), nw_nK (by decide)]; exact f3 q hq
        · intro j x y; rw [nw_nK (by decide), nw_nK (by decide)]; exact f4 j x y
        · intro f hf
          simp only [List.mem_cons, List.not_mem_nil, or_false, not_or] at hf
          rw [yw_nF (by omega), yw_nF (by omega)]; exact f5 f (by simp only [List.mem_cons, List.not_mem_nil, or_false, not_or]; omega)
        · refine ⟨fun _ => ?_, fun x => by omega⟩
          unfold DNb
          rw [nw_ns (show (2 : Int) ≠ 3 by decide), nw_eq, nw_eq, yw_nF (show (110 : Nat) ≠ 111 by decide), yw_eq, yw_eq]
          omega
        · intro a ha a0
          rw [nw_ni (by omega), nw_ni (by omega), yw_nF (show (110 : Nat) ≠ 111 by decide), yw_ni (by omega), yw_ni (by omega), yw_nF (show (111 : Nat) ≠ 110 by decide)]
          exact ⟨rfl, rfl, rfl⟩
        · intro w hw w0
          rw [nw_nK (show (99 : Nat) ≠ 3 by decide), nw_nK (show (99 : Nat) ≠ 3 by decide), yw_nF (show (121 : Nat) ≠ 111 by decide), yw_nF (show (121 : Nat) ≠ 110 by decide), yw_nF (show (122 : Nat) ≠ 111 by decide), yw_nF (show (122 : Nat) ≠ 110 by decide)]
          exact ⟨rfl, rfl, rfl, rfl⟩
      · -- a WORD
        have hxx : n 99 (n0 5 0 5) (6 * m0 134 t + 3) = m0 135 t + E := by
          have := hx; unfold ixX at this; rw [if_neg (by omega), e5] at this; exact this
        generalize hu : m0 134 t = u at *
        have hub : 0 ≤ u ∧ u < 24000 := by omega
        generalize hHH : iH m0 u = hh at *
        have hch : N_Layout_wordHeight u (nw n 99 (n0 5 0 5) (6 * u + 3) (m0 135 t + E + sh)) = some hh := by
          rw [← ehm]
          refine c_wordHeight (v := v) ?_ ?_ h1
          · unfold WLc
            rw [nw_nK (show (5 : Nat) ≠ 99 by decide), nw_nK (show (92 : Nat) ≠ 99 by decide), nw_nK (show (93 : Nat) ≠ 99 by decide), e5, e92, e93]; exact hW0
          · unfold ITk
            rw [nw_nK (show (5 : Nat) ≠ 99 by decide), nw_nK (show (3 : Nat) ≠ 99 by decide), e5, nw_ns (show 6 * u ≠ 6 * u + 3 by omega), ← e5]; exact j2m
        refine go (nw (nw n 99 (n0 5 0 5) (6 * u + 3) (m0 135 t + E + sh)) 99 (n0 5 0 5) (6 * u + 4) (m0 127 0 + m0 132 0 + E - hh)) (yw (yw m 121 u (m0 135 t + sh)) 122 u (m0 127 0 + m0 132 0 - hh)) ?_ ?_ ?_ ?_ ?_ ?_ ?_ ?_ ?_ ?_
        · apply eq_of_ev
          unfold nb_Layout_closeLine_134 st
          dsimp only
          have ed : ∀ j x, n 99 (n0 5 0 5) j = x → n 99 (n 5 0 5) j = x := fun j x h => by rw [e5]; exact h
          simp only [e5, nw_nK (show (5 : Nat) ≠ 99 by decide), eL, j1, show u * 6 = 6 * u by omega, hxx, i1, h11, hch]
          rw [if_pos hlt]
          refine ev_nn w5.2 (ev_dx (by rw [e92, e93]; exact ⟨w1.2, t0, by omega⟩) ?_)
          rw [if_neg (by omega)]
          refine ev_nn w5.1 (ev_ck (by omega) (ev_ck (by omega) (ev_dx (by rw [e92, e93]; exact ⟨w1.1, by omega, by omega⟩) (ev_ck (by omega) (ev_dx (by rw [e92, e93]; exact ⟨w1.1, by omega, by omega⟩) (ev_nn w5.1 (ev_ck (by omega) (ev_ck (by omega) ?_))))))))
          simp only [Option.bind_some]
          exact ev_ck (by omega) (ev_dx (by rw [nw_nK (by decide), nw_nK (by decide), e92, e93]; exact ⟨w1.1, by omega, by omega⟩) (ev_ck (by omega) (ev_ok rfl)))
        · apply eq_of_ev
          unfold nb_Y_endLine_43 st
          dsimp only
          rw [e131, e127, e132, e134, e135, hu, hyh]
          simp only [Option.bind_some]
          rw [if_pos hlt, if_neg (show ¬ u < 0 by omega)]
          exact ev_ix (by omega) (ev_ck (by omega) (ev_ck (by omega) (ev_ix (by omega) (ev_ck (by omega) (ev_ix hub (ev_ix hub (ev_ck (by omega) (ev_ok rfl))))))))
        · intro K x y; rw [nw_nK y, nw_nK y]; exact f1 K x y
        · intro a s x y; rw [nw_nK (by decide), nw_nK (by decide)]; exact f2 a s x y
        · intro q hq; rw [nw_ni hq, nw_ni hq]; exact f3 q hq
        · intro j x y; rw [nw_ns (by omega), nw_ns (by omega)]; exact f4 j x y
        · intro f hf
          simp only [List.mem_cons, List.not_mem_nil, or_false, not_or] at hf
          rw [yw_nF (by omega), yw_nF (by omega)]; exact f5 f (by simp only [List.mem_cons, List.not_mem_nil, or_false, not_or]; omega)
        · refine ⟨fun x => by omega, fun _ => ?_⟩
          unfold DNw
          rw [nw_nK (show (5 : Nat) ≠ 99 by decide), nw_nK (show (5 : Nat) ≠ 99 by decide), e5, nw_ns (show 6 * u + 3 ≠ 6 * u + 4 by omega), nw_eq, nw_eq, yw_nF (show (121 : Nat) ≠ 122 by decide), yw_eq, yw_eq]
          omega
        · intro a ha a0
          rw [nw_nK (show (3 : Nat) ≠ 99 by decide), nw_nK (show (3 : Nat) ≠ 99 by decide), yw_nF (show (110 : Nat) ≠ 122 by decide), yw_nF (show (110 : Nat) ≠ 121 by decide), yw_nF (show (111 : Nat) ≠ 122 by decide), yw_nF (show (111 : Nat) ≠ 121 by decide)]
          exact ⟨rfl, rfl, rfl⟩
        · intro w hw w0
          rw [nw_ns (show 6 * w + 3 ≠ 6 * u + 4 by omega), nw_ns (show 6 * w + 3 ≠ 6 * u + 3 by omega), nw_ns (show 6 * w + 4 ≠ 6 * u + 4 by omega), nw_ns (show 6 * w + 4 ≠ 6 * u + 3 by omega), yw_nF (show (121 : Nat) ≠ 122 by decide), yw_ni (by omega), yw_ni (by omega), yw_nF (show (122 : Nat) ≠ 121 by decide)]
          exact ⟨rfl, rfl, rfl, rfl⟩
    · exact ih t n m (by omega) t0 t1 f1 f2 f3 f4 f5 f6
end V8
