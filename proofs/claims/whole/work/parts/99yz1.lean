/-! THE PICTURE AT A POINT, in both -/
def lstC (f : Int → Int) : Nat → Int
  | 0 => 0
  | k + 1 => if f k = -1 then lstC f k else f k
def lstH (h o : Int → Int) : Nat → Int
  | 0 => -1
  | k + 1 => if h k = 1 then o k else lstH h o k
section YZ1
variable {n n' : NS} {m m' m1 m0 : YS} {A B N a b c x y s px py k r : Int} {o e p o2 e2 p2 g : Int → Int}
/-- what a node gives does not hang on what was painted -/
theorem node_fix (hP : PST A B N o e p o2 e2 p2 n m) (hp : 0 ≤ px ∧ px ≤ 1000 ∧ 0 ≤ py ∧ py ≤ 1000) : ∃ hit col : Int → Int, ∀ r, 0 ≤ r → r < N → (∀ m1, (∀ f, f ≠ 146 → f ≠ 147 → m1 f = m f) → ∃ m', nb_Y_paint_38 px py r m1 = some (.inl (r + 1, m')) ∧ PEf (o r) m1 m' (hit r) (col r)) ∧ (∀ n1, FB (fun x => x = 608) n n1 → BI A B n1 → (∃ n', nb_Layout_colorAt_10 px py r n1 = (if col r = -1 then some (.inl (r + (-1), n')) else some (.inr (.inl (col r, n')))) ∧ BI A B n' ∧ FB (fun x => x = 608) n1 n') ∧ NDx px py r (o r) (hit r) n1) := by
  obtain ⟨m5, hm5⟩ : ∃ m5, m5 = yw (yw m 146 0 (-5)) 147 0 (-5) := ⟨_, rfl⟩
  have hf5 : ∀ f, f ≠ 146 → f ≠ 147 → m5 f = m f := fun f x y => by rw [hm5, yw_nF y, yw_nF x]
  have e5 : m5 146 0 = -5 := by rw [hm5, yw_nF (by decide), yw_eq]
  have one : ∀ r : Int, ∃ hc : Int × Int, 0 ≤ r → r < N → (∀ m1, (∀ f, f ≠ 146 → f ≠ 147 → m1 f = m f) → ∃ m', nb_Y_paint_38 px py r m1 = some (.inl (r + 1, m')) ∧ PEf (o r) m1 m' hc.1 hc.2) ∧ (∀ n1, FB (fun x => x = 608) n n1 → BI A B n1 → (∃ n', nb_Layout_colorAt_10 px py r n1 = (if hc.2 = -1 then some (.inl (r + (-1), n')) else some (.inr (.inl (hc.2, n')))) ∧ BI A B n' ∧ FB (fun x => x = 608) n1 n') ∧ NDx px py r (o r) hc.1 n1) := fun r => by
    by_cases hr : 0 ≤ r ∧ r < N
    · obtain ⟨m', hit, col, n', q1, q2, q3, q4, q5, q6, q7⟩ := node_pt hP hr.1 hr.2 hp hf5
      have ndu : ∀ h1 h2 n1, NDx px py r (o r) h1 n1 → NDx px py r (o r) h2 n1 → h1 = h2 := fun h1 h2 n1 a b => by
        rcases a with ⟨a1, a2⟩ | ⟨a1, a2⟩ <;> rcases b with ⟨b1, b2⟩ | ⟨b1, b2⟩
        · rw [a1, b1]
        · rw [a2] at b2; rcases b2 with b2 | b2 <;> cases b2
        · rw [b2] at a2; rcases a2 with a2 | a2 <;> cases a2
        · rw [a1, b1]
      have cu : ∀ (c1 c2 : Int) (n1 n2 : NS), (if c1 = -1 then some (Sum.inl (r + (-1), n1)) else some (Sum.inr (Sum.inl (c1, n1)) : (Int × NS) ⊕ ((Int × NS) ⊕ NS))) = (if c2 = -1 then some (Sum.inl (r + (-1), n2)) else some (Sum.inr (Sum.inl (c2, n2)))) → c1 = c2 := fun c1 c2 n1 n2 h => by
        by_cases z1 : c1 = -1 <;> by_cases z2 : c2 = -1
        · rw [z1, z2]
        · rw [if_pos z1, if_neg z2] at h; cases h
        · rw [if_neg z1, if_pos z2] at h; cases h
        · rw [if_neg z1, if_neg z2] at h
          have := Sum.inl.inj (Sum.inr.inj (Option.some.inj h))
          exact congrArg Prod.fst this
      refine ⟨(hit, col), fun _ _ => ⟨fun m1 h1 => ?_, fun n1 hF hB1 => ?_⟩⟩
      · obtain ⟨m2, hit2, col2, n2, w1, w2, w3, w4, w5, w6, w7⟩ := node_pt hP hr.1 hr.2 hp h1
        have ec : col2 = col := cu col2 col n2 n' (by rw [← w3, ← q3])
        have eh : hit2 = hit := ndu _ _ n w6 q6
        rw [ec, eh] at w2
        exact ⟨m2, w1, w2⟩
      · obtain ⟨m2, hit2, col2, n2, w1, w2, w3, w4, w5, w6, w7⟩ := node_pt (hP.fb hF hB1) hr.1 hr.2 hp hf5
        rw [q1] at w1
        have em : m' = m2 := by
          have := Sum.inl.inj (Option.some.inj w1)
          exact congrArg Prod.snd this
        have ec : col2 = col := by
          have g1 := q2.2.2
          have g2 := w2.2.2
          rw [e5] at g1 g2
          rw [← em] at g2
          rw [g1] at g2
          by_cases z1 : col = -1 <;> by_cases z2 : col2 = -1
          · rw [z1, z2]
          · rw [if_pos z1, if_neg z2] at g2; omega
          · rw [if_neg z1, if_pos z2] at g2; omega
          · rw [if_neg z1, if_neg z2] at g2; exact g2.symm
        have e7 : m5 147 0 = -5 := by rw [hm5, yw_eq]
        have hv := hP.1.1.1.1.oB hr.1 hr.2
        have h01 : ∀ h n1, NDx px py r (o r) h n1 → h = 0 ∨ h = 1 := fun h n1 a => by
          rcases a with ⟨a1, _⟩ | ⟨a1, _⟩
          · exact .inl a1
          · exact .inr a1
        have eh : hit2 = hit := by
          have g1 := q2.2.1
          have g2 := w2.2.1
          rw [e7] at g1 g2
          rw [← em] at g2
          rw [g1] at g2
          rcases h01 _ _ q6 with a1 | a1 <;> rcases h01 _ _ w6 with b1 | b1
          · rw [a1, b1]
          · rw [if_neg (by omega), if_pos b1] at g2; omega
          · rw [if_pos a1, if_neg (by omega)] at g2; omega
          · rw [a1, b1]
        rw [ec] at w3
        rw [eh] at w6
        exact ⟨⟨n2, w3, w4, w5⟩, w6⟩
    · exact ⟨(0, 0), fun a b => absurd ⟨a, b⟩ hr⟩
  obtain ⟨f, hf⟩ := Classical.axiomOfChoice one
  exact ⟨fun r => (f r).1, fun r => (f r).2, fun r a b => hf r a b⟩
/-- the reference: all nodes, one over the other -/
theorem y_paintL {hit col : Int → Int} (hN : 1 ≤ N ∧ N ≤ 120) (h125 : m 125 0 = N) (hr : ∀ r, 0 ≤ r → r < N → ∀ m1, (∀ f, f ≠ 146 → f ≠ 147 → m1 f = m f) → ∃ m', nb_Y_paint_38 px py r m1 = some (.inl (r + 1, m')) ∧ PEf (o r) m1 m' (hit r) (col r)) :
    ∀ (z : Nat) (k : Int) (m1 : YS), (N - k).toNat = z → 0 ≤ k → k ≤ N → (∀ f, f ≠ 146 → f ≠ 147 → m1 f = m f) → m1 146 0 = lstC col k.toNat → m1 147 0 = lstH hit o k.toNat → ∃ m', NL_Y_paint_38 px py k m1 = some m' ∧ (∀ f, f ≠ 146 → f ≠ 147 → m' f = m f) ∧ m' 146 0 = lstC col N.toNat ∧ m' 147 0 = lstH hit o N.toNat := by
  intro z
  induction z with
  | zero =>
    intro k m1 hz k0 k1 hf h1 h2
    have ek : k = N := by omega
    refine ⟨m1, ?_, hf, by rw [← ek]; exact h1, by rw [← ek]; exact h2⟩
    unfold NL_Y_paint_38
    refine it_inr ?_
    show nb_Y_paint_38 px py k m1 = _
    unfold nb_Y_paint_38
    rw [hf 125 (by decide) (by decide), h125, if_neg (by omega)]
  | succ z ih =>
    intro k m1 hz k0 k1 hf h1 h2
    obtain ⟨m2, q1, q2⟩ := hr k k0 (by omega) m1 hf
    have hst : NL_Y_paint_38 px py k m1 = NL_Y_paint_38 px py (k + 1) m2 := by
      unfold NL_Y_paint_38
      exact it_inl (f := fun s : Int × YS => nb_Y_paint_38 px py s.1 s.2) (s := (k, m1)) q1
    rw [hst]
    refine ih (k + 1) m2 (by omega) (by omega) (by omega) (fun f x y => (q2.1 f x y).trans (hf f x y)) ?_ ?_
    · rw [q2.2.2, h1, show (k + 1).toNat = k.toNat + 1 by omega]
      show _ = if col (k.toNat : Int) = -1 then lstC col k.toNat else col (k.toNat : Int)
      rw [show ((k.toNat : Nat) : Int) = k by omega]
    · rw [q2.2.1, h2, show (k + 1).toNat = k.toNat + 1 by omega]
      show _ = if hit (k.toNat : Int) = 1 then o (k.toNat : Int) else lstH hit o k.toNat
      rw [show ((k.toNat : Nat) : Int) = k by omega]
/-- the class: from the last node back -/
theorem c_colL {hit col : Int → Int} (hN : 1 ≤ N ∧ N ≤ 120) (hr : ∀ r, 0 ≤ r → r < N → ∀ n1, FB (fun x => x = 608) n n1 → BI A B n1 → (∃ n', nb_Layout_colorAt_10 px py r n1 = (if col r = -1 then some (.inl (r + (-1), n')) else some (.inr (.inl (col r, n')))) ∧ BI A B n' ∧ FB (fun x => x = 608) n1 n') ∧ NDx px py r (o r) (hit r) n1) :
    ∀ (k : Nat) (n1 : NS), (k : Int) ≤ N → FB (fun x => x = 608) n n1 → BI A B n1 → ∃ n', ((NL_Layout_colorAt_10 px py ((k : Int) - 1) n1).bind (us (u2 fun z4 n5 => some (z4, n5)) (fun n11 => some (0, n11)))) = some (lstC col k, n') ∧ BI A B n' ∧ FB (fun x => x = 608) n n' := by
  intro k
  induction k with
  | zero =>
    intro n1 _ hF hB1
    refine ⟨n1, ?_, hB1, hF⟩
    have : NL_Layout_colorAt_10 px py (((0 : Nat) : Int) - 1) n1 = some (.inr n1) := by
      unfold NL_Layout_colorAt_10
      refine it_inr ?_
      show nb_Layout_colorAt_10 px py (((0 : Nat) : Int) - 1) n1 = _
      unfold nb_Layout_colorAt_10
      rw [if_pos (by omega)]
    rw [this]; rfl
  | succ k ih =>
    intro n1 hk hF hB1
    obtain ⟨⟨n2, q1, q2, q3⟩, _⟩ := hr k (by omega) (by omega) n1 hF hB1
    rw [show (((k + 1 : Nat) : Int) - 1) = (k : Int) by omega]
    show ∃ n', _ = some ((if col (k : Int) = -1 then lstC col k else col (k : Int)), n') ∧ _
    by_cases z : col (k : Int) = -1
    · rw [if_pos z] at q1 ⊢
      have hst : NL_Layout_colorAt_10 px py (k : Int) n1 = NL_Layout_colorAt_10 px py ((k : Int) - 1) n2 := by
        unfold NL_Layout_colorAt_10
        rw [show ((k : Int) - 1) = (k : Int) + (-1) by omega]
        exact it_inl (f := fun s : Int × NS => nb_Layout_colorAt_10 px py s.1 s.2) (s := ((k : Int), n1)) q1
      rw [hst]
      exact ih n2 (by omega) (hF.trans q3) q2
    · rw [if_neg z] at q1 ⊢
      have hst : NL_Layout_colorAt_10 px py (k : Int) n1 = some (.inl (col (k : Int), n2)) := by
        unfold NL_Layout_colorAt_10
        exact it_inr (f := fun s : Int × NS => nb_Layout_colorAt_10 px py s.1 s.2) (s := ((k : Int), n1)) q1
      rw [hst]
      exact ⟨n2, rfl, q2, hF.trans q3⟩
theorem c_nodL {hit : Int → Int} (hN : 1 ≤ N ∧ N ≤ 120) (hr : ∀ r, 0 ≤ r → r < N → NDx px py r (o r) (hit r) n) :
    ∀ k : Nat, (k : Int) ≤ N → ((NL_Layout_nodeAt_21 px py ((k : Int) - 1) n).bind (us (fun z10 => some z10) (us (fun z14 => some z14) (fun _ => some (-1))))) = some (lstH hit o k) := by
  intro k
  induction k with
  | zero =>
    intro _
    have : NL_Layout_nodeAt_21 px py (((0 : Nat) : Int) - 1) n = some (.inr (.inr ())) := by
      unfold NL_Layout_nodeAt_21
      refine it_inr ?_
      show nb_Layout_nodeAt_21 px py (((0 : Nat) : Int) - 1) n = _
      unfold nb_Layout_nodeAt_21
      rw [if_pos (by omega)]
    rw [this]; rfl
  | succ k ih =>
    intro hk
    rw [show (((k + 1 : Nat) : Int) - 1) = (k : Int) by omega]
    show _ = some (if hit (k : Int) = 1 then o (k : Int) else lstH hit o k)
    rcases hr k (by omega) (by omega) with ⟨a1, a2⟩ | ⟨a1, a2⟩
    · rw [if_neg (by omega)]
      have hst : NL_Layout_nodeAt_21 px py (k : Int) n = NL_Layout_nodeAt_21 px py ((k : Int) - 1) n := by
        unfold NL_Layout_nodeAt_21
        rw [show ((k : Int) - 1) = (k : Int) + (-1) by omega]
        exact it_inl (f := fun s : Int => nb_Layout_nodeAt_21 px py s n) (s := (k : Int)) a2
      rw [hst]
      exact ih (by omega)
    · rw [if_pos a1]
      rcases a2 with a2 | a2
      · have hst : NL_Layout_nodeAt_21 px py (k : Int) n = some (.inl (o (k : Int))) := by
          unfold NL_Layout_nodeAt_21
          exact it_inr (f := fun s : Int => nb_Layout_nodeAt_21 px py s n) (s := (k : Int)) a2
        rw [hst]; rfl
      · have hst : NL_Layout_nodeAt_21 px py (k : Int) n = some (.inr (.inl (o (k : Int)))) := by
          unfold NL_Layout_nodeAt_21
          exact it_inr (f := fun s : Int => nb_Layout_nodeAt_21 px py s n) (s := (k : Int)) a2
        rw [hst]; rfl
/-- inside the picture: color and node, in both -/
theorem paint_in (hP : PST A B N o e p o2 e2 p2 n m) (hp : 0 ≤ px ∧ px ≤ 1000 ∧ 0 ≤ py ∧ py ≤ 1000) : ∃ c t n' m', N_Layout_colorAt px py n = some (c, n') ∧ BI A B n' ∧ FB (fun x => x = 608) n n' ∧ (NL_Layout_nodeAt_21 px py ((n 10 0 3) - 1) n).bind (us (fun z10 => some z10) (us (fun z14 => some z14) (fun _ => some (-1)))) = some t ∧ NL_Y_paint_38 px py 0 (yw (yw m 146 0 0) 147 0 (-1)) = some m' ∧ (∀ f, f ≠ 146 → f ≠ 147 → m' f = m f) ∧ m' 146 0 = c ∧ m' 147 0 = t ∧ (t = -1 ∨ ∃ k, 0 ≤ k ∧ k < N ∧ o k = t) := by
  have hN := hP.1.1.1.1.N1
  have hB := hP.1.2.2.1
  obtain ⟨hit, col, h⟩ := node_fix hP hp
  have h103 : n 10 0 3 = N := hP.1.2.1.1
  obtain ⟨n', a1, a2, a3⟩ := c_colL (n := n) (A := A) (B := B) (o := o) (px := px) (py := py) hN (fun r x y => (h r x y).2) N.toNat n (by omega) (FB.refl _ n) hB
  have b1 := c_nodL (n := n) (o := o) (px := px) (py := py) (hit := hit) hN (fun r x y => ((h r x y).2 n (FB.refl _ n) hB).2) N.toNat (by omega)
  rw [show ((N.toNat : Nat) : Int) = N by omega] at a1 b1
  obtain ⟨m', c1, c2, c3, c4⟩ := y_paintL (m := m) (o := o) (px := px) (py := py) hN hP.2.1.1.2.1.1.1 (fun r x y => (h r x y).1) N.toNat 0 (yw (yw m 146 0 0) 147 0 (-1)) (by omega) (Int.le_refl _) (by omega) (fun f x y => by rw [yw_nF y, yw_nF x]) (by rw [yw_nF (by decide), yw_eq]; rfl) (by rw [yw_eq]; rfl)
  refine ⟨lstC col N.toNat, lstH hit o N.toNat, n', m', ?_, a2, a3, by rw [h103]; exact b1, c1, c2, c3, c4, ?_⟩
  · unfold N_Layout_colorAt
    rw [h103, ck_e _ (by omega)]
    exact a1
  · have go : ∀ k : Nat, (k : Int) ≤ N → lstH hit o k = -1 ∨ ∃ j, 0 ≤ j ∧ j < N ∧ o j = lstH hit o k := by
      intro k
      induction k with
      | zero => intro _; exact .inl rfl
      | succ k ih =>
        intro hk
        show (if hit (k : Int) = 1 then o (k : Int) else lstH hit o k) = -1 ∨ ∃ j, 0 ≤ j ∧ j < N ∧ o j = (if hit (k : Int) = 1 then o (k : Int) else lstH hit o k)
        by_cases z : hit (k : Int) = 1
        · rw [if_pos z]; exact .inr ⟨k, by omega, by omega, rfl⟩
        · rw [if_neg z]; exact ih (by omega)
    exact go N.toNat (by omega)
end YZ1
