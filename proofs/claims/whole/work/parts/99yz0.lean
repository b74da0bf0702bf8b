/-! A NODE ON THE SCREEN, in both: whatever it is -/
def NDx (px py : Int) (r v hit : Int) (n : NS) : Prop := (hit = 0 ∧ nb_Layout_nodeAt_21 px py r n = some (.inl (r + (-1)))) ∨ (hit = 1 ∧ (nb_Layout_nodeAt_21 px py r n = some (.inr (.inl v)) ∨ nb_Layout_nodeAt_21 px py r n = some (.inr (.inr (.inl v)))))
section YZ0
variable {n n' : NS} {m m' m1 m0 : YS} {A B N a b c x y s px py X Y W H lim i j k q u v w w' t L x0 X0 Y0 col P Q r fg bg : Int} {l l' : List Int} {o e p o2 e2 p2 g : Int → Int}
theorem FB.lst (h : FB (fun x => x = 608) n n') (hL : LSt n N o e) : LSt n' N o e := by
  unfold LSt at *
  rw [h.1 10 (by decide) (by decide) (by decide) (by decide) (by decide) (by decide), h.1 22 (by decide) (by decide) (by decide) (by decide) (by decide) (by decide), h.1 7 (by decide) (by decide) (by decide) (by decide) (by decide) (by decide)]; exact hL
theorem PST.fb (h : PST A B N o e p o2 e2 p2 n m) (hF : FB (fun x => x = 608) n n') (hB' : BI A B n') : PST A B N o e p o2 e2 p2 n' m := by
  obtain ⟨⟨hT, hLs, hB, hK⟩, ⟨hL, ho2⟩, hD, hW⟩ := h
  have kk : ∀ K, K ≠ 4 → K ≠ 90 → K ≠ 91 → K ≠ 92 → K ≠ 93 → K ≠ 99 → n' K = n K := hF.1
  have e5 : n' 5 = n 5 := kk 5 (by decide) (by decide) (by decide) (by decide) (by decide) (by decide)
  have hr := hB.2.2.2.1
  have t5 := hL.2.2.2.2.1.1.1.1
  have b608 := (hB.1 608 (by decide) (by decide)).2.2.1
  refine ⟨⟨hT.fb hB hF (fun x hx => by have hx : x = 608 := hx; omega) (fun _ _ _ => rfl), hF.lst hLs, hB', fun v x y => by rw [kk 7 (by decide) (by decide) (by decide) (by decide) (by decide) (by decide)]; exact hK v x y⟩, ⟨hL.cn (kk 3 (by decide) (by decide) (by decide) (by decide) (by decide) (by decide)) e5 (kk 9 (by decide) (by decide) (by decide) (by decide) (by decide) (by decide)) (kk 41 (by decide) (by decide) (by decide) (by decide) (by decide) (by decide)) ?_ ⟨(hF.2.2.2.1 _ hr.2.1).1, (hF.2.2.2.1 _ hr.2.2.2).1⟩ ⟨(hF.2.2.2.1 _ hr.2.1).2, (hF.2.2.2.1 _ hr.2.2.2).2⟩ (fun q x y _ => ?_), ho2⟩, fun w x y z => hD w x (by rw [e5] at y; exact y) z, fun w x y => hW w x (by rw [e5] at y; exact y)⟩
  · refine hF.2.2.2.2.1 _ hr.2.1 (fun b hb z => ?_)
    have hb : b = 608 := hb
    rw [hb] at z
    rw [← z, t5.1] at b608
    exact absurd b608 (by decide)
  · have hq := hL.1.1.oB x y
    rw [hF.2.1 _ (fun h => by have h : 5 * o2 q = 608 := h; omega)]
theorem node_pt (hP : PST A B N o e p o2 e2 p2 n m) (r0 : 0 ≤ r) (r1 : r < N) (hp : 0 ≤ px ∧ px ≤ 1000 ∧ 0 ≤ py ∧ py ≤ 1000) (hf : ∀ f, f ≠ 146 → f ≠ 147 → m1 f = m f) :
    ∃ m' hit col n', nb_Y_paint_38 px py r m1 = some (.inl (r + 1, m')) ∧ PEf (o r) m1 m' hit col ∧ nb_Layout_colorAt_10 px py r n = (if col = -1 then some (.inl (r + (-1), n')) else some (.inr (.inl (col, n')))) ∧ BI A B n' ∧ FB (fun x => x = 608) n n' ∧ NDx px py r (o r) hit n ∧ -1 ≤ col := by
  have hP0 := hP
  obtain ⟨⟨hT, hLs, hB, hK⟩, ⟨hL, ho2⟩, hD, hW⟩ := hP
  have hG := hT.1.1
  have hN := hG.N1
  have hv := hG.oB r0 r1
  have e2r : o2 r = o r := ho2 r r0 r1
  have hrf : FB (fun x => x = 608) n n := FB.refl _ n
  have h22 : n 22 0 r = o r := (hLs.2 r r0 r1).1
  have h124 : m1 124 r = o r := by rw [hf 124 (by decide) (by decide), hL.2.1.1.2 r r0 r1]; exact e2r
  have hkd := hL.kd r0 r1
  rw [e2r] at hkd
  have h107 : ∀ _ : Unit, nb_Y_paint_38 px py r m1 = if m 107 (o r) = 6 then nb_Y_paint_38 px py r m1 else if m 107 (o r) = 1 ∨ m 107 (o r) = 2 ∨ m 107 (o r) = 4 then nk_Y_paint_153 px py r (o r) m1 else nk_Y_paint_241 px py r (o r) m1 := fun _ => by
    by_cases z6 : m 107 (o r) = 6
    · rw [if_pos z6]
    · rw [if_neg z6]
      unfold nb_Y_paint_38
      rw [hf 125 (by decide) (by decide), hL.2.1.1.1, if_pos r1, ix_e _ (by omega), h124, ix_e _ hv, hf 107 (by decide) (by decide), if_neg z6, y_isBx hv, hf 107 (by decide) (by decide)]
      simp only [Option.bind_some]
      by_cases z : m 107 (o r) = 1 ∨ m 107 (o r) = 2
      · rw [if_pos z, if_neg (by decide), if_pos (by omega)]
      · rw [if_neg z, if_pos rfl, ix_e _ hv]
        by_cases z4 : m 107 (o r) = 4
        · rw [if_pos z4, if_pos (by omega)]
        · rw [if_neg z4, if_neg (by omega)]
  have e241 : ∀ m2 : YS, m2 107 = m 107 → m 107 (o r) ≠ 4 → nk_Y_paint_241 px py r (o r) m2 = some (.inl (r + 1, m2)) := fun m2 h2 h4 => by
    unfold nk_Y_paint_241 nk_Y_paint_272
    simp only [ix_e _ hv]
    rw [h2, if_neg h4, if_neg h4, ck_e _ (by omega)]
  have h107c : ∀ z n1, nk_Layout_colorAt_107 px py r z n1 = if z = -1 then some (.inl (r + (-1), n1)) else some (.inr (.inl (z, n1))) := fun z n1 => by
    unfold nk_Layout_colorAt_107
    by_cases q : z = -1
    · rw [if_pos q, if_pos q, ck_e _ (by omega)]
    · rw [if_neg q, if_neg q]
  have hcb : nb_Layout_colorAt_10 px py r n = if n 3 (o r) 0 = 1 then (N_Box_colorAt (o r) px py n).bind fun z15 => nk_Layout_colorAt_107 px py r z15 n else if n 3 (o r) 0 = 2 then (N_Layout_pieceColorAt (o r) px py n).bind (u2 fun z19 n22 => nk_Layout_colorAt_107 px py r z19 n22) else if n 3 (o r) 0 = 3 then (N_Layout_wordColorAt (o r) px py n).bind fun z26 => nk_Layout_colorAt_107 px py r z26 n else nk_Layout_colorAt_107 px py r (-1) n := by
    unfold nb_Layout_colorAt_10
    rw [if_neg (by omega), ix_e _ (by omega), h22, ix_e _ hv, ix_e _ hv]
  have h67 : nk_Layout_nodeAt_67 px py r (o r) (o r) n = if n 3 (o r) 0 = 3 then (N_Layout_wordAt (o r) px py n).bind fun z4 => if z4 = (-1) then some (.inl (r + (-1))) else some (.inr (.inr (.inl (o r)))) else some (.inl (r + (-1))) := by
    unfold nk_Layout_nodeAt_67
    rw [ck_e (a := r + (-1)) _ (by omega)]
  have hnb : nb_Layout_nodeAt_21 px py r n = if n 3 (o r) 0 = 1 ∨ n 3 (o r) 0 = 2 then (N_Box_holds (o r) px py 0 n).bind fun z15 => if z15 = 0 then nk_Layout_nodeAt_67 px py r (o r) (o r) n else some (.inr (.inl (o r))) else nk_Layout_nodeAt_67 px py r (o r) (o r) n := by
    unfold nb_Layout_nodeAt_21
    rw [if_neg (by omega), ix_e _ (by omega), h22, ix_e _ hv, c_pntd]
    simp only [Option.bind_some]
    by_cases z : n 3 (o r) 0 = 1 ∨ n 3 (o r) 0 = 2
    · rw [if_pos z, if_pos z, if_neg (by decide)]
    · rw [if_neg z, if_neg z, if_pos rfl]
  -- whether a box is hit
  have boxhit : (m 107 (o r) = 1 ∨ m 107 (o r) = 2 ∨ m 107 (o r) = 4) → NDx px py r (o r) (if INr px py (m 110 (o r)) (m 111 (o r)) (m 112 (o r)) (m 113 (o r)) then 1 else 0) n := fun hb => by
    obtain ⟨⟨b1, b2, b3, b4⟩, b5, b6, b7, b8, b9, b10, b11, b12, b13⟩ := box_nums hL r0 r1 e2r hb
    have hho := c_holds (n := n) (v := o r) (px := px) (py := py) (E := 0) (by omega) (by omega) (by omega) (by omega) (by decide)
    rw [Int.add_zero, Int.add_zero, Int.mul_zero, Int.sub_zero, Int.sub_zero, b1, b2, b3, b4] at hho
    unfold NDx
    rw [hnb, if_pos (show n 3 (o r) 0 = 1 ∨ n 3 (o r) 0 = 2 by omega), h67, if_neg (show ¬ n 3 (o r) 0 = 3 by omega)]
    rcases hho with ⟨k1, k2⟩ | ⟨k1, k2⟩
    · rw [if_pos k2, k1]; exact .inr ⟨rfl, .inl rfl⟩
    · rw [if_neg k2, k1]; exact .inl ⟨rfl, rfl⟩
  rcases hkd with ⟨g1, g2⟩ | ⟨g1, g2⟩ | ⟨g1, g2⟩ | ⟨g1, g2⟩
  · -- not laid
    refine ⟨m1, 0, -1, n, ?_, ⟨fun _ _ _ => rfl, by rw [if_neg (by decide)], by rw [if_pos rfl]⟩, ?_, hB, hrf, .inl ⟨rfl, ?_⟩, by decide⟩
    · rw [h107 (), if_neg (by omega), if_neg (by omega)]
      exact e241 m1 (hf 107 (by decide) (by decide)) (by omega)
    · rw [hcb, if_neg (by omega), if_neg (by omega), if_neg (by omega), h107c]
    · rw [hnb, if_neg (by omega), h67, if_neg (by omega)]
  · -- a block
    have hb3 : m 107 (o r) = 1 ∨ m 107 (o r) = 2 ∨ m 107 (o r) = 4 := by omega
    obtain ⟨⟨b1, b2, b3, b4⟩, b5, b6, b7, b8, b9, b10, b11, b12, b13⟩ := box_nums hL r0 r1 e2r hb3
    obtain ⟨m2, k1, k2⟩ := y_pnode (m := m) (m1 := m1) (v := o r) (px := px) (py := py) (r := r) (b := n 3 (o r) 7) (fg := n 3 (o r) 9) (bg := n 3 (o r) 10) hv b5 b6 b7 b8 b9 b11 b12 (fun h => by omega) hf
    have hbc := c_boxCol (n := n) (v := o r) (px := px) (py := py) (by omega) (by omega) (by omega) (by omega) b9.2
    rw [b1, b2, b3, b4] at hbc
    have hbg : -1 ≤ n 3 (o r) 10 := by
      have g := (hL.bx r0 r1 (by rw [e2r]; exact hb3)).2.2.2.2.2
      rw [e2r] at g
      exact g.2.2.2.2.2.2.2.1.1
    refine ⟨m2, _, _, n, ?_, k2, ?_, hB, hrf, boxhit hb3, ?_⟩
    · rw [h107 (), if_neg (by omega), if_pos hb3, k1]
      exact e241 m2 ((k2.1 107 (by decide) (by decide)).trans (hf 107 (by decide) (by decide))) (by omega)
    · rw [hcb, if_pos g2, hbc]
      exact h107c _ _
    · unfold bxC
      split
      · split <;> omega
      · omega
  · -- a piece
    obtain ⟨m', col, n', k1, k2, k3, k4, k5, hc1⟩ := piece_pt hP0 r0 r1 g1 hp hf
    refine ⟨m', _, col, n', ?_, k2, ?_, k4, k5, boxhit (by omega), hc1⟩
    · rw [h107 (), if_neg (by omega), if_pos (by omega)]; exact k1
    · rw [hcb, if_neg (by omega), if_pos g2, k3]
      exact h107c _ _
  · by_cases z6 : m 107 (o r) = 6
    · obtain ⟨m', hit, col, k1, k2, k3, hc1, k4⟩ := text_pt hP0 r0 r1 z6 hp hf
      refine ⟨m', hit, col, n, k1, k2, ?_, hB, hrf, ?_, hc1⟩
      · rw [hcb, if_neg (by omega), if_neg (by omega), if_pos g2, k3]
        exact h107c _ _
      · unfold NDx
        rw [hnb, if_neg (by omega), h67, if_pos g2]
        rcases k4 with ⟨q1, q2⟩ | ⟨q1, w, q2, q3⟩
        · rw [q2]; exact .inl ⟨q1, rfl⟩
        · rw [q3]
          refine .inr ⟨q1, .inr ?_⟩
          show (if w = -1 then _ else _) = _
          rw [if_neg q2]
    · -- in the lines, a break
      have h18 := hL.2.2.2.2.1.2 (o r) hv.1 hv.2
      have h19 : n 3 (o r) 19 = 0 := by
        have g := (hL.1.2.1 r r0 r1).s19 (by rw [e2r]; omega) (by rw [e2r]; omega)
        rw [e2r] at g; exact g
      have hw0 := c_wordAt0 (n := n) (t := o r) (px := px) (py := py) h18 h19
      refine ⟨m1, 0, -1, n, ?_, ⟨fun _ _ _ => rfl, by rw [if_neg (by decide)], by rw [if_pos rfl]⟩, ?_, hB, hrf, .inl ⟨rfl, ?_⟩, by decide⟩
      · rw [h107 (), if_neg z6, if_neg (by omega)]
        exact e241 m1 (hf 107 (by decide) (by decide)) (by omega)
      · rw [hcb, if_neg (by omega), if_neg (by omega), if_pos g2]
        unfold N_Layout_wordColorAt
        rw [ix_e _ hv, hw0]
        exact h107c _ _
      · rw [hnb, if_neg (by omega), h67, if_pos g2, hw0]; rfl
end YZ0
