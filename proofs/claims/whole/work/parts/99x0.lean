/-! THE LINES OF A BLOCK, in both: one place after the other -/
def CTX (n : NS) (m : YS) (N : Int) (o e p : Int → Int) (k : Int) : Prop := TG N o e p (m 49) (m 50) (m 52) ∧ LSt n N o e ∧ JP m N o p ∧ (∀ r, 0 ≤ r → r < N → n 7 (o r) 0 = m 46 (o r)) ∧ (∀ r, 0 ≤ r → r < N → MSk n m o e p r) ∧ (∀ r r', 0 ≤ r → r < r' → r' < N → m 107 (o r) = 6 → m 107 (o r') = 6 → m 116 (o r) + n 3 (o r) 19 ≤ m 116 (o r')) ∧ (∀ r, k < r → r < N → LDb n m o e r)
/-- who was seen: he stands, is on the line, or waits -/
def SEE (n : NS) (m : YS) (o : Int → Int) (v E k j : Int) : Prop := ∀ r, k < r → r < j → m 109 (o r) = v → ((m 107 (o r) = 1 ∨ m 107 (o r) = 2 ∨ m 107 (o r) = 4) → SNb n m E (o r)) ∧ (m 107 (o r) = 6 → ∀ w, m 116 (o r) ≤ w → w < m 116 (o r) + n 3 (o r) 19 → SNw n m E w) ∧ (m 107 (o r) = 6 → ∀ w, m 116 (o r) ≤ w → w + 1 < m 116 (o r) + n 3 (o r) 19 → QP m w)
def SIM (A B E wd N : Int) (o e p : Int → Int) (k j : Int) (n : NS) (m : YS) (F : Int) : Prop := (LSx n m (o k) E wd F ∧ BI A B n ∧ WLc n ∧ CTX n m N o e p k) ∧ (∃ wb, 0 ≤ wb ∧ (∀ q, 0 ≤ q → q < m 131 0 → m 134 q < wb) ∧ ∀ r, j ≤ r → r < N → m 107 (o r) = 6 → wb ≤ m 116 (o r))
  ∧ (∀ q, 0 ≤ q → q < m 131 0 → m 134 q < 0 → ∃ r, k < r ∧ r < j ∧ o r = -1 - m 134 q) ∧ (∀ f, 0 ≤ f → f < F + m 143 0 → ∃ r, k < r ∧ r < j ∧ o r = n 43 0 f) ∧ (m 131 0 ≤ 200 * (j - k - 1) ∧ F + m 143 0 ≤ j - k - 1 ∧ pot m F ≤ 5000 * (j - k - 1)) ∧ SEE n m o (o k) E k j
section X0
variable {n n' n'' : NS} {m m' m'' : YS} {A B N a b c x y q s E F F' v wd u w t k j r v3 v4 : Int} {o e p : Int → Int}
theorem CTX.rs (h : CTX n m N o e p k) (hn : FRs v n n') (hm : FVy v m m') : CTX n' m' N o e p k := by
  obtain ⟨a1, a2, a3, a4, a5, a6, a7⟩ := h
  have hf : ∀ f, f ∉ [110, 111, 121, 122, 127, 128, 129, 130, 131, 132, 134, 135, 136, 137, 138, 139, 140, 141, 142, 143, 144] → m' f = m f := hm.1
  have e7 : n' 7 = n 7 := hn.1 7 (by decide)
  refine ⟨by rw [hf 49 (by decide), hf 50 (by decide), hf 52 (by decide)]; exact a1, ?_, ?_, fun r x y => ?_, fun r x y => (a5 r x y).rs hn hm, fun r r' x y z z1 z2 => ?_, fun r x y => (a7 r x y).rs hn hm⟩
  · unfold LSt at *
    rw [hn.1 10 (by decide), hn.1 22 (by decide), e7]; exact a2
  · unfold JP at *
    rw [hf 46 (by decide)]; exact a3
  · rw [e7, hf 46 (by decide)]; exact a4 r x y
  · rw [hf 107 (by decide)] at z1 z2
    rw [hf 116 (by decide), hn.2.1 _ 19 (by decide) (by decide)]; exact a6 r r' x y z z1 z2
/-- who lies deeper belongs to another block -/
theorem CTX.deep (h : CTX n m N o e p k) (k0 : 0 ≤ k) (hkN : k < N) (hj : k < j ∧ j < N) (hjr : j < r ∧ r < e j) (h3 : m 107 (o j) ≠ 3) (h109 : m 109 (o r) = o k) : m 107 (o r) = 0 := by
  have hG := h.1
  have hE := hG.eB (k := j) (by omega) hj.2
  rcases h.2.2.2.2.1 r (by omega) (by omega) with ⟨z, _⟩ | ⟨z, _⟩
  · exact z
  · exfalso
    rcases z with z | ⟨hh, ⟨b1, b2, b3⟩, b4, b5, b6⟩
    · omega
    · have := hG.inj (j := hh) (k := k) b1 (by omega) k0 hkN (by rw [← b4.1]; exact h109)
      rw [this] at b6
      exact h3 (b6 j hj.1 hjr.1 hjr.2)
/-- what a node in the lines of k is -/
theorem CTX.nfx (h : CTX n m N o e p k) (k0 : 0 ≤ k) (hkN : k < N) (hb : m 107 (o k) = 1 ∨ m 107 (o k) = 2) (hV : VIS m o e k j) (h0 : m 107 (o j) ≠ 0) (hnb : ¬ ((m 107 (o j) = 1 ∨ m 107 (o j) = 2) ∧ m 108 (o j) = 0)) : NFx n m (o k) (o j) ∧ cst n (o j) ≤ 5000 * ((if m 107 (o j) = 3 then j + 1 else e j) - j) := by
  obtain ⟨hG, a2, a3, a4, a5, a6, a7⟩ := h
  have hE := hG.eB k0 hkN
  have hj1 : 0 ≤ j ∧ j < N := by have := hV.1; omega
  have hEj := hG.eB hj1.1 hj1.2
  have ho := hG.oB hj1.1 hj1.2
  rcases a5 j hj1.1 hj1.2 with ⟨z, _⟩ | ⟨z, hm⟩
  · exact absurd z h0
  · have hH : HOL n m o e j := by
      rcases z with z | z
      · have := hV.1; omega
      · exact z
    obtain ⟨q1, q2⟩ := hV.hol hG k0 hb hH hkN
    have h46 := a4 j hj1.1 hj1.2
    unfold cst
    rcases hm with c | c | c | c | c
    · obtain ⟨c1, c2, c3, c4, c5, c6, c7, c8⟩ := c
      have hl := a7 j hV.1.1 hj1.2 c1
      have hs := (c7.2 (by have := hV.1; omega)).2.1
      have h108 : m 108 (o j) ≠ 0 := fun z => hnb ⟨c1, z⟩
      rcases hs with ⟨z, _⟩ | ⟨s1, s2, s3, s4⟩
      · exact absurd z h108
      · obtain ⟨⟨x1, x2, x3⟩, x4, x5, x6⟩ := c4
        refine ⟨⟨⟨ho, h46, q2, q1⟩, .inr (.inr (.inr (.inr ⟨c2, c1, c3.1, c3.2 (by have := hV.1; omega), ⟨ho, ⟨x1, x5⟩, c6, ⟨hl.1.1, hl.1.2.1⟩, ⟨s3, s4⟩, q2, q1, c2⟩⟩)))⟩, ?_⟩
        rw [if_pos c2, if_neg (by omega)]
        have := hl.1.2.2
        omega
    · obtain ⟨c1, c2, c3, c4, c5, c6, c7⟩ := c
      obtain ⟨⟨x1, x2, x3⟩, ⟨x4, x5, x6, x7⟩, x8, x9, x10, x11, x12⟩ := c4
      refine ⟨⟨⟨ho, h46, q2, q1⟩, .inl ⟨c2, c1, c3, c5, c6, x6, x11⟩⟩, ?_⟩
      rw [if_neg (by omega), if_neg (by omega)]; omega
    · obtain ⟨c1, c2, c3, c4⟩ := c
      refine ⟨⟨⟨ho, h46, q2, q1⟩, .inr (.inr (.inr (.inl ⟨c2, c1, c3.1, c3.2⟩)))⟩, ?_⟩
      rw [if_neg (by omega), if_pos c1]; omega
    · obtain ⟨c1, c2, c3, c4, c5⟩ := c
      obtain ⟨⟨x1, x2, x3⟩, ⟨x4, x5, x6, x7⟩, x8, x9, x10, x11, x12⟩ := c4
      refine ⟨⟨⟨ho, h46, q2, q1⟩, .inr (.inl ⟨c2, c1, c3, x6, x11⟩)⟩, ?_⟩
      rw [if_neg (by omega), if_neg (by omega)]; omega
    · obtain ⟨c1, c2, c3, c4, c5⟩ := c
      refine ⟨⟨⟨ho, h46, q2, q1⟩, .inr (.inr (.inl ⟨c2, c1, c3, by rw [← q1]; exact c5⟩))⟩, ?_⟩
      rw [if_neg (by omega), if_neg (by omega)]; omega
/-- a place that isn't laid is gone over -/
theorem SIM.skip (h : SIM A B E wd N o e p k j n m F) (k0 : 0 ≤ k) (hkN : k < N) (hj : k < j ∧ j < e k) (h0 : m 107 (o j) = 0) : SIM A B E wd N o e p k (e j) n m F := by
  obtain ⟨h1, ⟨wb, w0, w1, w2⟩, h3, h4, h5, h6⟩ := h
  have hG := h1.2.2.2.1
  have hE := hG.eB k0 hkN
  have hEj := hG.eB (k := j) (by omega) (by omega)
  refine ⟨h1, ⟨wb, w0, w1, fun r x y z => w2 r (by omega) y z⟩, fun q x y z => ?_, fun f x y => ?_, by omega, fun r x y z => ?_⟩
  · obtain ⟨r, r1, r2, r3⟩ := h3 q x y z
    exact ⟨r, r1, by omega, r3⟩
  · obtain ⟨r, r1, r2, r3⟩ := h4 f x y
    exact ⟨r, r1, by omega, r3⟩
  · by_cases w : r < j
    · exact h6 r x w z
    · have hz : m 107 (o r) = 0 := by
        by_cases w' : r = j
        · rw [w']; exact h0
        · exact h1.2.2.2.deep k0 hkN ⟨hj.1, by omega⟩ (r := r) (by omega) (by omega) z
      exact ⟨fun u => by omega, fun u => by omega, fun u => by omega⟩
theorem cl_zero (hG : TG N o e p (m 49) (m 50) (m 52)) (hL : LSt n N o e) (k0 : 0 ≤ k) (hkN : k < N) (hj : k < j ∧ j < e k) (h0 : n 3 (o j) 0 = 0) : NL_Layout_layFlow_51 v v (e k) v3 v4 j j n = NL_Layout_layFlow_51 v v (e k) v3 v4 (e j) (e j) n := by
  have hE := hG.eB k0 hkN
  have hEj := hG.eB (k := j) (by omega) (by omega)
  have hn := hG.nest (k := k) (j := j) k0 hj.1 hj.2 (by omega)
  have hN := hG.N1
  rw [← cl_skip (m := m) hG hL k0 hkN hj.1 _ (j + 1) (Nat.le_refl _) (by omega) (by omega) hn]
  unfold NL_Layout_layFlow_51
  refine it_inl ?_
  show nb_Layout_layFlow_51 v v (e k) v3 v4 j j n = _
  unfold nb_Layout_layFlow_51 nk_Layout_layFlow_94
  have hl := hL.2 j (by omega) (by omega)
  have ho := hG.oB (k := j) (by omega) (by omega)
  rw [if_pos hj.2, ix_e _ (by omega), hl.1, ix_e _ ho, if_neg (by omega), if_pos h0, ix_e _ ho, hl.2.2, ck_e _ (by omega), show max j (e j) = e j by omega]
/-- one place -/
theorem sim_step (h : SIM A B E wd N o e p k j n m F) (k0 : 0 ≤ k) (hkN : k < N) (hb : m 107 (o k) = 1 ∨ m 107 (o k) = 2) (hV : VIS m o e k j) (h0 : m 107 (o j) ≠ 0) (hnb : ¬ ((m 107 (o j) = 1 ∨ m 107 (o j) = 2) ∧ m 108 (o j) = 0)) :
    ∃ n' m' F', NL_Layout_layFlow_51 (o k) (o k) (e k) v3 (-1) j j n = NL_Layout_layFlow_51 (o k) (o k) (e k) 0 (-1) (if m 107 (o j) = 3 then j + 1 else e j) (if m 107 (o j) = 3 then j + 1 else e j) n' ∧ (∀ thing, nb_Y_lineThing_2 thing (o j) m = nk_Y_lineThing_173 thing (o j) (if m 107 (o j) = 3 then 0 else 1) m') ∧ SIM A B E wd N o e p k (if m 107 (o j) = 3 then j + 1 else e j) n' m' F' ∧ FRs (o k) n n' ∧ FVy (o k) m m' ∧ m 127 0 ≤ m' 127 0 := by
  obtain ⟨⟨hS, hB, hW, hC⟩, ⟨wb, w0, w1, w2⟩, h3, h4, h5, h6⟩ := h
  have hG := hC.1
  have hL := hC.2.1
  have hE := hG.eB k0 hkN
  have hj : k < j ∧ j < e k := hV.1
  have hjN : j < N := by omega
  have hEj := hG.eB (k := j) (by omega) hjN
  have hN := hG.N1
  have hnest := hG.nest (k := k) (j := j) k0 hj.1 hj.2 hjN
  obtain ⟨hF, hcs⟩ := hC.nfx k0 hkN hb hV h0 hnb
  have h10 := hS.1.2.1
  obtain ⟨n', m', F', r1, r2, r3, r4q⟩ := stepL_both (wb := wb) hS hB hW hF (fun q x y z => by
    obtain ⟨r, r1, r2, r3⟩ := h3 q x y (by have := hF.1.1; omega)
    have := hG.inj (j := r) (k := j) (by omega) (by omega) (by omega) hjN (by omega)
    omega) (fun f x y z => by
    obtain ⟨r, r1, r2, r3⟩ := h4 f x y
    have := hG.inj (j := r) (k := j) (by omega) (by omega) (by omega) hjN (by omega)
    omega) (by omega) w1 w0 (fun z => w2 j (Int.le_refl _) hjN z) (by omega) (by
      have : (if m 107 (o j) = 3 then j + 1 else e j) ≤ e k := by split <;> omega
      omega)
  obtain ⟨s1, s2, s3, s4, s5, s6, s7, s8, s9, s10, s11, s12, s13, s14, s15, s16⟩ := r3
  have hC' := hC.rs s4 s5
  have m107 : m' 107 = m 107 := s5.1 107 (by decide)
  have m109 : m' 109 = m 109 := s5.1 109 (by decide)
  have m116 : m' 116 = m 116 := s5.1 116 (by decide)
  obtain ⟨nx, hnx⟩ : ∃ nx, nx = (if m 107 (o j) = 3 then j + 1 else e j) := ⟨_, rfl⟩
  rw [← hnx] at hcs ⊢
  have hnxb : j + 1 ≤ nx ∧ nx ≤ e j := by rw [hnx]; split <;> omega
  have kd : (m 107 (o j) = 3 → n 3 (o j) 0 = 3) ∧ (n 3 (o j) 0 = 3 → m 107 (o j) ≠ 3 → e j = j + 1) ∧ n 3 (o j) 0 ≠ 0 ∧ (n 3 (o j) 0 = 1 → n 3 (o j) 13 ≠ 0) := by
    obtain ⟨_, hk⟩ := hF
    rcases hk with g | g | g | g | g
    · exact ⟨fun _ => by omega, fun _ => by omega, by omega, fun _ => by omega⟩
    · exact ⟨fun _ => g.1, fun _ _ => leaf hG hC.2.2.1 (by omega) hjN (.inr (by omega)), by omega, fun _ => by omega⟩
    · exact ⟨fun _ => g.1, fun _ _ => leaf hG hC.2.2.1 (by omega) hjN (.inl g.2.2.1), by omega, fun _ => by omega⟩
    · exact ⟨fun _ => g.1, fun _ z => absurd g.2.1 z, by omega, fun _ => by omega⟩
    · have := g.2.2.2.2.2.2.2.2.1
      exact ⟨fun _ => by omega, fun _ => by omega, by omega, fun _ => by omega⟩
  refine ⟨n', m', F', ?_, r2, ⟨⟨s1, s2, s3, hC'⟩, ⟨(if m 107 (o j) = 6 then m 116 (o j) + n 3 (o j) 19 else wb), ?_, s13, fun r x y z => ?_⟩, fun q x y z => ?_, fun f x y => ?_, by omega, fun r x y z => ?_⟩, s4, s5, s7⟩
  · -- the class
    have hw0 : (if n 3 (o j) 0 = 3 then j + 1 else e j) = nx := by
      rw [hnx]
      by_cases z : m 107 (o j) = 3
      · rw [if_pos z, if_pos (kd.1 z)]
      · rw [if_neg z]
        by_cases y : n 3 (o j) 0 = 3
        · rw [if_pos y, kd.2.1 y z]
        · rw [if_neg y]
    have hl := hL.2 j (by omega) hjN
    have ho := hG.oB (k := j) (by omega) hjN
    have hbf : N_Box_isBlockInFlow (o j) n = some 0 := by
      unfold N_Box_isBlockInFlow
      by_cases z : n 3 (o j) 0 = 1
      · rw [if_pos z, if_neg (kd.2.2.2 z)]
      · rw [if_neg z]
    have h146 : ∀ w, nk_Layout_layFlow_146 (o k) (o k) v3 (-1) (e k) j (o j) (o j) w n = some (.inl (0, -1, w, j + 1, n')) := fun w => by
      unfold nk_Layout_layFlow_146 nk_Layout_layFlow_293
      rw [hbf]
      simp only [Option.bind_some]
      rw [if_pos trivial, if_pos (by decide), ix_e _ ho]
      by_cases z : n 7 (o j) 0 = 17
      · rw [if_pos z] at r1 ⊢
        rw [ix_e _ ho, r1]
        simp only [Option.bind_some]
        rw [ck_e _ (by omega)]
      · rw [if_neg z] at r1 ⊢
        rw [r1]
        simp only [Option.bind_some]
        rw [ck_e _ (by omega)]
    have h1 : NL_Layout_layFlow_51 (o k) (o k) (e k) v3 (-1) j j n = NL_Layout_layFlow_51 (o k) (o k) (e k) 0 (-1) nx (j + 1) n' := by
      unfold NL_Layout_layFlow_51
      refine it_inl ?_
      show nb_Layout_layFlow_51 (o k) (o k) (e k) v3 (-1) j j n = _
      unfold nb_Layout_layFlow_51
      rw [if_pos hj.2, ix_e _ (by omega), hl.1, ix_e _ ho, if_neg (by omega), if_neg kd.2.2.1, ← hw0]
      by_cases y : n 3 (o j) 0 = 3
      · rw [if_pos y, if_pos y, ck_e _ (by omega), h146]
      · rw [if_neg y, if_neg y, ix_e _ ho, hl.2.2, h146]
    rw [h1]
    by_cases z : nx = j + 1
    · rw [z]
    · have ex : nx = e j := by rw [hnx] at z ⊢; split at z <;> omega
      rw [ex]
      exact cl_skip (m := m) hG hC'.2.1 k0 hkN hj.1 _ (j + 1) (Nat.le_refl _) (by omega) (by omega) hnest
  · split
    · next z =>
      have := w2 j (Int.le_refl _) hjN z
      obtain ⟨_, hk⟩ := hF
      rcases hk with g | g | g | g | g
      · omega
      · omega
      · have := g.2.2.2.2.2.1; omega
      · omega
      · omega
    · exact w0
  · rw [m107] at z
    rw [m116]
    split
    · next u => exact hC.2.2.2.2.2.1 j r (by omega) (by omega) y u z
    · exact w2 r (by omega) y z
  · rcases s12 q x y z with g | ⟨q', x', y', z'⟩
    · exact ⟨j, hj.1, by omega, by omega⟩
    · obtain ⟨r, r1, r2, r3⟩ := h3 q' x' y' (by omega)
      exact ⟨r, r1, by omega, by omega⟩
  · rcases s14 f x y with g | ⟨f', x', y', z'⟩
    · exact ⟨j, hj.1, by omega, g.symm⟩
    · obtain ⟨r, r1, r2, r3⟩ := h4 f' x' y'
      exact ⟨r, r1, by omega, by omega⟩
  · rw [m109] at z
    rw [m107, m116, s4.2.1 _ 19 (by decide) (by decide)]
    have hro := fun (hr : r < N) => hG.oB (k := r) (by omega) hr
    by_cases w : r < j
    · have g := h6 r x w z
      have h0r : m 107 (o r) = 6 → 0 ≤ m 116 (o r) := fun u => by
        rcases (hC.2.2.2.2.1 r (by omega) (by omega)) with ⟨z1, _⟩ | ⟨_, t1 | t1 | t1 | t1 | t1⟩
        · omega
        · have := t1.1; omega
        · have := t1.1; omega
        · omega
        · omega
        · have := t1.2.2.2.2.2.2.1; omega
      refine ⟨fun u => s8 _ (hro (by omega)).1 (g.1 u), fun u w' x' y' => ?_, fun u w' x' y' => r4q.1 w' (by have := h0r u; omega) (fun z6 => by have := hC.2.2.2.2.2.1 r j (by omega) w hjN u z6; omega) (g.2.2 u w' x' y')⟩
      have := g.2.1 u w' x' y'
      have hTx := (hC.2.2.2.2.1 r (by omega) (by omega))
      refine s9 w' ?_ this
      rcases hTx with ⟨z1, _⟩ | ⟨_, t1 | t1 | t1 | t1 | t1⟩
      · omega
      · have := t1.1; omega
      · have := t1.1; omega
      · omega
      · omega
      · have := t1.2.2.2.2.2.2.1; omega
    · by_cases w' : r = j
      · rw [w']
        refine ⟨fun u => s15 ?_, s16, r4q.2⟩
        obtain ⟨_, hk⟩ := hF
        rcases hk with g | g | g | g | g
        · exact .inr g.1
        · omega
        · omega
        · omega
        · exact .inl g.1
      · have hne3 : m 107 (o j) ≠ 3 := fun u => by
          rw [hnx, if_pos u] at y; omega
        have hz := hC.deep k0 hkN ⟨hj.1, hjN⟩ (r := r) (by omega) hne3 z
        exact ⟨fun u => by omega, fun u => by omega, fun u => by omega⟩
end X0
