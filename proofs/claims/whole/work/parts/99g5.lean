/-! A TEXT grows, in both -/
/-- the same bytes went in -/
theorem cut_same {D d1 r1 d2 r2 : List (Int × Int)} {c l : Int} (h1 : D = d1 ++ r1) (h2 : D = d2 ++ r2) (a1 : c + (d1.length : Int) ≤ l) (a2 : c + (d2.length : Int) ≤ l) (b1 : r1 ≠ [] → c + (d1.length : Int) = l) (b2 : r2 ≠ [] → c + (d2.length : Int) = l) : d1 = d2 ∧ r1 = r2 := by
  have e1 : D.length = d1.length + r1.length := by rw [h1, List.length_append]
  have e2 : D.length = d2.length + r2.length := by rw [h2, List.length_append]
  have n1 : r1 = [] ↔ r1.length = 0 := List.length_eq_zero_iff.symm
  have n2 : r2 = [] ↔ r2.length = 0 := List.length_eq_zero_iff.symm
  have hl : d1.length = d2.length := by
    by_cases z1 : r1 = []
    · by_cases z2 : r2 = []
      · have := n1.mp z1; have := n2.mp z2; omega
      · have := b2 z2
        have := n1.mp z1
        have : r2.length ≠ 0 := fun y => z2 (n2.mpr y)
        omega
    · have q1 := b1 z1
      by_cases z2 : r2 = []
      · have := n2.mp z2
        have : r1.length ≠ 0 := fun y => z1 (n1.mpr y)
        omega
      · have := b2 z2
        omega
  exact List.append_inj (h1.symm.trans h2) hl
section G5
variable {n n' : NS} {m m' : YS} {A B N t to : Int} {o e p : Int → Int} {dn ov : List (Int × Int)}
theorem lim_5 (h : 0 ≤ t ∧ t < 121) : lim (5 * t) = 400 := by
  unfold lim
  rw [if_pos (by omega), if_pos (by omega)]
/-- a row of one node has changed: the others have not -/
theorem NG.row {b u : Int} (hF : FB (fun x => x = b) n n') (hB : BI A B n) (hu : 0 ≤ u ∧ u < 120) (hb : 0 ≤ b ∧ b ≤ 631) (hne : ¬ (5 * u ≤ b ∧ b ≤ 5 * u + 4)) : NG n n' u := by
  refine ⟨fun s _ => by rw [hF.1 7 (by decide) (by decide) (by decide) (by decide) (by decide) (by decide)], by rw [hF.1 18 (by decide) (by decide) (by decide) (by decide) (by decide) (by decide)], fun c c0 c1 => (hF.bts hB (by omega) (fun z => hne (by omega)) (fun x hx => by omega)).2.2⟩
theorem RNQ.YG (h : RNQ m t dn ov to m') (ht : 0 ≤ t) (hc : 0 ≤ m 62 t) {u : Int} (hu : u ≠ t) : YG m m' u := by
  obtain ⟨q1, q2, q3, q4, q5, q6, q7, q8, q9⟩ := h
  have e : ∀ f, f ∉ [61, 62, 63, 70, 71, 72, 77] → m' f = m f := q1
  refine ⟨⟨by rw [e 46 (by decide)], by rw [e 48 (by decide)], by rw [e 56 (by decide)], (q5 u hu).1, by rw [e 65 (by decide)], by rw [e 66 (by decide)]⟩, fun j _ _ => by rw [e 47 (by decide)], fun j _ _ => by rw [e 58 (by decide), e 60 (by decide)]; exact ⟨rfl, rfl⟩, fun j _ _ => by rw [e 57 (by decide)], fun j _ _ => by rw [e 59 (by decide)], fun j j0 j1 => q7 j (by omega), fun j _ _ => by rw [e 64 (by decide)]⟩
theorem ND.app (hd : ND n m t) (h17 : m 46 t = 17) (hB : BI A B n) (ht : 0 ≤ t ∧ t < 120) (ha : AP A B (5 * t) n n' (dn.map Prod.snd)) (hq : RNQ m t dn ov to m') (hx : ∀ x ∈ dn, isTx x.2) : ND n' m' t := by
  have h62 := (hd.2.2.2.2.1 h17).1
  obtain ⟨q1, q2, q3, q4, q5, q6, q7, q8, q9⟩ := hq
  have e : ∀ f, f ∉ [61, 62, 63, 70, 71, 72, 77] → m' f = m f := q1
  obtain ⟨d1, d2, d3, d4, d5, d6, d7⟩ := hd
  obtain ⟨k1, k2, k3, k4, k5⟩ := d5 h17
  have e7 := ha.2.1.1 7 (by decide) (by decide) (by decide) (by decide) (by decide) (by decide)
  have htx : txL m' t = txL m t ++ dn.map Prod.snd := by
    unfold txL
    rw [q2, show (m 62 t + (dn.length : Int)).toNat = (m 62 t).toNat + dn.length by omega, sg_app]
    congr 1
    · exact sg_cg _ _ _ (fun x hx => q7 _ (by omega))
    · rw [show 400 * t + (((m 62 t).toNat : Nat) : Int) = 400 * t + m 62 t by omega]; exact q6
  have hbt : bt n' (5 * t) = txL m t ++ dn.map Prod.snd := by
    rw [ha.2.2, k3, lim_5 (by omega), List.take_of_length_le]
    rw [List.length_append, List.length_map]
    unfold txL
    rw [sg_len]
    show _ ≤ 400
    omega
  have hnm : nmL m' t = nmL m t := by unfold nmL; rw [e 47 (by decide), e 48 (by decide)]
  unfold ND
  rw [e7, e 46 (by decide), e 48 (by decide), e 56 (by decide), hnm]
  refine ⟨d1, d2, d3, fun a a0 a1 => by omega, fun _ => ⟨by rw [q2]; omega, fun c hc => ?_, by rw [hbt, htx], k4, k5⟩, fun z => by omega, d7⟩
  rw [htx] at hc
  rcases List.mem_append.mp hc with z | z
  · exact k2 c z
  · obtain ⟨x, x1, x2⟩ := List.mem_map.mp z
    rw [← x2]; exact hx x x1
/-- the tree stays, one TEXT grows -/
theorem JT.app (h : JT n m N o e p) (hP : JP m N o p) (hB : BI A B n) {j : Int} (j0 : 0 ≤ j) (j1 : j < N) (h17 : m 46 (o j) = 17) (ha : AP A B (5 * o j) n n' (dn.map Prod.snd)) (hq : RNQ m (o j) dn ov to m') (hx : ∀ x ∈ dn, isTx x.2) : JT n' m' N o e p ∧ JP m' N o p := by
  have hv := h.1.1.oB j0 j1
  have hF := ha.2.1
  have e7 := hF.1 7 (by decide) (by decide) (by decide) (by decide) (by decide) (by decide)
  have e10 := hF.1 10 (by decide) (by decide) (by decide) (by decide) (by decide) (by decide)
  have e22 := hF.1 22 (by decide) (by decide) (by decide) (by decide) (by decide) (by decide)
  have hq1 : ∀ f, f ∉ [61, 62, 63, 70, 71, 72, 77] → m' f = m f := hq.1
  have h62 := ((h.2.2.2 j j0 j1).2.2.2.2.1 h17).1
  refine ⟨⟨h.1.cg e7 e10 (fun f hf => hq1 f (by simp only [List.mem_cons, List.not_mem_nil, or_false, not_or]; omega)), h.2.1.cg e7, h.2.2.1.cg e7 e10 e22, fun i i0 i1 => ?_⟩, by unfold JP; rw [hq1 46 (by decide)]; exact hP⟩
  by_cases z : o i = o j
  · rw [z]; exact (h.2.2.2 j j0 j1).app h17 hB hv ha hq hx
  · have hu := h.1.1.oB i0 i1
    exact (h.2.2.2 i i0 i1).cg (hq.YG hv.1 h62.1 z) (NG.row hF hB hu (by omega) (by omega))
theorem dcl_in {r : Int} {g : Int → Int} {to L : Int} (hg : ∀ j, 0 ≤ j → j < L → isTx (g j)) (hL : to ≤ L) : ∀ (k : Nat) (i : Int), 0 ≤ i → ∀ x ∈ dcP r g to k i, isTx x.2 ∧ 0 ≤ x.1 ∧ i ≤ x.1 ∧ x.1 < to := by
  intro k
  induction k with
  | zero => intro i _ x hx; cases hx
  | succ k ih =>
    intro i hi x hx
    have hx : x ∈ (if i < to then (i, stB r g i to) :: dcP r g to k (i + stL r g i to) else []) := hx
    by_cases z : i < to
    · rw [if_pos z] at hx
      have hb := stL_b (r := r) (g := g) z
      rcases List.mem_cons.mp hx with y | y
      · rw [y]
        refine ⟨?_, hi, Int.le_refl _, z⟩
        have := hg i hi (by omega)
        show isTx (stB r g i to)
        unfold stB entB
        (repeat' split) <;> omega
      · have := ih _ (by omega) x y
        exact ⟨this.1, this.2.1, by omega, this.2.2.2⟩
    · rw [if_neg z] at hx; cases hx
end G5
