/-! A NODE ON THE SCREEN, in both: boxes, pieces -/
section YZ
variable {z : Int × Int × List Int} {n n' : NS} {m m' m1 m0 : YS} {A B N a b c x y s px py X Y W H lim i j k q u v w w' t L x0 X0 Y0 col P Q r fg bg : Int} {l l' : List Int} {o e p o2 e2 p2 g : Int → Int}
theorem oLs_by (h : ∀ c ∈ z.2.2, 0 ≤ c ∧ c ≤ 255) (hb : 0 ≤ b ∧ b ≤ 255) : ∀ c ∈ (oLs b z).2.2, 0 ≤ c ∧ c ≤ 255 := by
  unfold oLs
  by_cases hp : isBl b
  · rw [if_pos hp]; exact h
  · rw [if_neg hp]
    intro c hc
    rcases List.mem_append.mp hc with q | q
    · exact h c q
    · split at q
      · rw [List.mem_singleton] at q; omega
      · simp only [List.mem_cons, List.not_mem_nil, or_false] at q; omega
theorem oLt_by {z : Int × Int × List Int} (h : ∀ c ∈ z.2.2, 0 ≤ c ∧ c ≤ 255) : ∀ j : Nat, (∀ i : Nat, i < j → 0 ≤ g i ∧ g i ≤ 255) → ∀ c ∈ (oLt g j z).2.2, 0 ≤ c ∧ c ≤ 255
  | 0, _ => h
  | j + 1, hg => oLs_by (oLt_by h j (fun i hi => hg i (by omega))) (hg j (by omega))
theorem oLn_by (hT : ∀ q, r ≤ q → q < N → m 46 (o q) = 17 → ∀ j, 0 ≤ j → j < m 62 (o q) → 0 ≤ m 61 (400 * o q + j) ∧ m 61 (400 * o q + j) ≤ 255) : ∀ j : Nat, r + j ≤ N → ∀ c ∈ (oLn m o r j).2.2, 0 ≤ c ∧ c ≤ 255
  | 0, _ => fun c hc => by cases hc
  | j + 1, hj => by
    have g := oLn_by hT j (by omega)
    simp only [oLn]
    split
    · next h17 => exact oLt_by g _ (fun i hi => hT (r + j) (by omega) (by omega) h17 i (by omega) (by omega))
    · exact g
/-- the numbers of a box -/
theorem box_nums (hL : LAYD N o2 e2 p2 n m) (r0 : 0 ≤ r) (r1 : r < N) (e2r : o2 r = v) (hb : m 107 v = 1 ∨ m 107 v = 2 ∨ m 107 v = 4) : (n 3 v 2 = m 110 v ∧ n 3 v 3 = m 111 v ∧ n 3 v 4 = m 112 v ∧ n 3 v 5 = m 113 v) ∧ (-780000000 ≤ m 110 v ∧ m 110 v ≤ 780000000) ∧ (-780000000 ≤ m 111 v ∧ m 111 v ≤ 780000000) ∧ (0 ≤ m 112 v ∧ m 112 v ≤ 1300000) ∧ (0 ≤ m 113 v ∧ m 113 v ≤ 600000) ∧ (n 3 v 7 = m 105 (11 * v + 5) ∧ 0 ≤ n 3 v 7 ∧ n 3 v 7 ≤ 3) ∧ (n 3 v 8 = m 105 (11 * v + 4) + m 105 (11 * v + 5) ∧ 0 ≤ n 3 v 8 ∧ n 3 v 8 ≤ 23) ∧ (n 3 v 9 = m 105 (11 * v + 1) ∧ 0 ≤ n 3 v 9) ∧ n 3 v 10 = m 105 (11 * v + 2) ∧ (n 3 v 11 = m 105 (11 * v + 8) ∧ 1 ≤ n 3 v 11 ∧ n 3 v 11 ≤ 3) := by
  have g := hL.bx r0 r1 (by rw [e2r]; exact hb)
  rw [e2r] at g
  obtain ⟨g1, g2, g3, g4, g5, g6⟩ := g
  unfold BXf at g6
  exact ⟨g1, by omega, by omega, by omega, by omega, by omega, by omega, by omega, by omega, by omega⟩
/-- the reference at a box: hit, then its own color, then what is written in it -/
theorem y_pnode (hv : 0 ≤ v ∧ v < 120) (hX : -780000000 ≤ m 110 v ∧ m 110 v ≤ 780000000) (hY : -780000000 ≤ m 111 v ∧ m 111 v ≤ 780000000) (hW : 0 ≤ m 112 v ∧ m 112 v ≤ 1300000) (hH : 0 ≤ m 113 v ∧ m 113 v ≤ 600000) (hb : b = m 105 (11 * v + 5) ∧ 0 ≤ b ∧ b ≤ 3) (hfg : fg = m 105 (11 * v + 1) ∧ 0 ≤ fg) (hbg : bg = m 105 (11 * v + 2)) (hni : ¬ (m 46 v = 12 ∧ m 107 v = 4)) (hf : ∀ f, f ≠ 146 → f ≠ 147 → m1 f = m f) :
    ∃ m2, nk_Y_paint_153 px py r v m1 = nk_Y_paint_241 px py r v m2 ∧ PEf v m1 m2 (if INr px py (m 110 v) (m 111 v) (m 112 v) (m 113 v) then 1 else 0) (bxC px py (m 110 v) (m 111 v) (m 112 v) (m 113 v) b fg bg) := by
  unfold nk_Y_paint_153 st
  dsimp only
  rw [hf 110 (by decide) (by decide), hf 111 (by decide) (by decide), hf 112 (by decide) (by decide), hf 113 (by decide) (by decide)]
  simp only [ix_e _ hv]
  rcases y_isIn (m := m1) (px := px) (py := py) (X := m 110 v) (Y := m 111 v) (W := m 112 v) (H := m 113 v) (by omega) (by omega) (by omega) (by omega) with ⟨g1, g2⟩ | ⟨g1, g2⟩
  · rw [g1]
    simp only [Option.bind_some]
    have hf2 : ∀ f, f ≠ 146 → f ≠ 147 → yw m1 147 0 v f = m f := fun f a b => by rw [yw_nF b]; exact hf f a b
    obtain ⟨m2, k1, k2, k3⟩ := y_pbox (m := m) (m1 := yw m1 147 0 v) (px := px) (py := py) hv (by omega) (by omega) (by omega) (by omega) hb hfg hbg g2 hf2
    refine ⟨m2, ?_, ⟨fun f x y => by rw [k2 f x, yw_nF y], ?_, ?_⟩⟩
    · have h233 : nk_Y_paint_233 px py r v (yw m1 147 0 v) = nk_Y_paint_241 px py r v m2 := by
        unfold nk_Y_paint_233
        rw [k1]; rfl
      rw [if_neg (by decide), hf2 46 (by decide) (by decide), hf2 107 (by decide) (by decide)]
      by_cases z : m 46 v = 12
      · rw [if_pos z, if_neg (fun h => hni ⟨z, h⟩)]; exact h233
      · rw [if_neg z]; exact h233
    · rw [if_pos g2, if_pos rfl, k2 147 (by decide), yw_eq]
    · rw [k3, yw_nF (by decide)]
  · rw [g1]
    simp only [Option.bind_some]
    refine ⟨m1, by rw [if_pos trivial], ⟨fun _ _ _ => rfl, ?_, ?_⟩⟩
    · rw [if_neg g2, if_neg (by decide)]
    · unfold bxC
      rw [if_neg g2, if_pos rfl]
theorem PEf.cur (h : PEf v m1 m' a c) (hc : CUR s lim P Q col l m' m0) (h0 : 0 ≤ col) : (INK s lim P Q l 0 ∧ PEf v m1 m0 a col) ∨ (¬ INK s lim P Q l 0 ∧ PEf v m1 m0 a c) := by
  rcases hc with ⟨g1, g2⟩ | ⟨g1, g2⟩
  · refine .inl ⟨g1, ⟨fun f x y => by rw [g2, yw_nF x]; exact h.1 f x y, by rw [g2, yw_nF (by decide)]; exact h.2.1, ?_⟩⟩
    rw [g2, yw_eq, if_neg (by omega)]
  · exact .inr ⟨g1, by rw [g2]; exact h⟩
/-- the class: letters first, else frame and ground -/
theorem c_pc109 (hB : BI A B n) (hb : 0 ≤ b ∧ b ≤ 631) (hlen : n 4 b 2 ≤ 60000) (hby : ∀ j, 0 ≤ j → j < n 4 b 2 → 0 ≤ n 99 (n 4 b 1) j ∧ n 99 (n 4 b 1) j ≤ 255) (hl : bt n b = l) (h2 : -780000000 ≤ n 3 v 2 ∧ n 3 v 2 ≤ 780000000) (h3 : -780000000 ≤ n 3 v 3 ∧ n 3 v 3 ≤ 780000000) (h4 : 0 ≤ n 3 v 4 ∧ n 3 v 4 ≤ 1300000) (h5 : 0 ≤ n 3 v 5 ∧ n 3 v 5 ≤ 600000) (h7 : 0 ≤ n 3 v 7 ∧ n 3 v 7 ≤ 3) (h8 : 0 ≤ n 3 v 8 ∧ n 3 v 8 ≤ 23) (hs : 1 ≤ n 3 v 11 ∧ n 3 v 11 ≤ 3) (hp : 0 ≤ px ∧ px ≤ 1000 ∧ 0 ≤ py ∧ py ≤ 1000) :
    (INK (n 3 v 11) (n 3 v 4 - 2 * n 3 v 8) (px - (n 3 v 2 + n 3 v 8)) (py - (n 3 v 3 + n 3 v 8)) l 0 ∧ nk_Layout_pieceColorAt_109 px py v b n = some (n 3 v 9, n)) ∨ (¬ INK (n 3 v 11) (n 3 v 4 - 2 * n 3 v 8) (px - (n 3 v 2 + n 3 v 8)) (py - (n 3 v 3 + n 3 v 8)) l 0 ∧ nk_Layout_pieceColorAt_109 px py v b n = some (bxC px py (n 3 v 2) (n 3 v 3) (n 3 v 4) (n 3 v 5) (n 3 v 7) (n 3 v 9) (n 3 v 10), n)) := by
  have hbc := c_boxCol (n := n) (v := v) (px := px) (py := py) (by omega) (by omega) (by omega) (by omega) h7
  have hbl := (hB.1 b hb.1 hb.2).2.2.2.1
  obtain ⟨lim, hlim⟩ : ∃ lim, lim = n 3 v 4 - 2 * n 3 v 8 := ⟨_, rfl⟩
  have hrun : nk_Layout_pieceColorAt_109 px py v b n = (N_Layout_isLetterOn b 0 (max 0 lim) (n 3 v 11) (px - (n 3 v 2 + n 3 v 8)) (py - (n 3 v 3 + n 3 v 8)) n).bind fun z15 => nk_Layout_pieceColorAt_153 px py v z15 n := by
    unfold nk_Layout_pieceColorAt_109 N_Box_innerWidth
    rw [ck_e _ (by omega), ck_e _ (by omega), ← hlim]
    simp only [Option.bind_some]
    rw [ck_f _ (by omega), ck_f _ (by omega), ck_f _ (by omega), ck_f _ (by omega), show px - n 3 v 2 - n 3 v 8 = px - (n 3 v 2 + n 3 v 8) by omega, show py - n 3 v 3 - n 3 v 8 = py - (n 3 v 3 + n 3 v 8) by omega]
  have hlo := c_letOn (n := n) (b := b) (i := 0) (s := n 3 v 11) (lim := max 0 lim) (x := px - (n 3 v 2 + n 3 v 8)) (y := py - (n 3 v 3 + n 3 v 8)) hB hb hlen hby (by omega) hs (by omega) (by omega) (by omega)
  rw [Int.sub_zero] at hlo
  have el : sg (n 99 (n 4 b 1)) 0 (n 4 b 2).toNat = l := by rw [← hl]; rfl
  rw [el] at hlo
  rw [← hlim]
  have hne : INK (n 3 v 11) (max 0 lim) (px - (n 3 v 2 + n 3 v 8)) (py - (n 3 v 3 + n 3 v 8)) l 0 ↔ INK (n 3 v 11) lim (px - (n 3 v 2 + n 3 v 8)) (py - (n 3 v 3 + n 3 v 8)) l 0 := by
    by_cases z : 0 ≤ lim
    · rw [show max 0 lim = lim by omega]
    · exact ⟨fun h => absurd h (INK_neg hs (by omega)), fun h => absurd h (INK_neg hs (by omega))⟩
  rw [hne] at hlo
  rw [hrun]
  rcases hlo with ⟨k1, k2⟩ | ⟨k1, k2⟩
  · exact .inl ⟨k2, by rw [k1]; rfl⟩
  · refine .inr ⟨k2, ?_⟩
    rw [k1]
    show nk_Layout_pieceColorAt_153 px py v 0 n = _
    unfold nk_Layout_pieceColorAt_153
    rw [if_pos rfl, hbc]; rfl
/-- a piece -/
theorem piece_pt (hP : PST A B N o e p o2 e2 p2 n m) (r0 : 0 ≤ r) (r1 : r < N) (h4 : m 107 (o r) = 4) (hp : 0 ≤ px ∧ px ≤ 1000 ∧ 0 ≤ py ∧ py ≤ 1000) (hf : ∀ f, f ≠ 146 → f ≠ 147 → m1 f = m f) :
    ∃ m' col n', nk_Y_paint_153 px py r (o r) m1 = some (.inl (r + 1, m')) ∧ PEf (o r) m1 m' (if INr px py (m 110 (o r)) (m 111 (o r)) (m 112 (o r)) (m 113 (o r)) then 1 else 0) col ∧ N_Layout_pieceColorAt (o r) px py n = some (col, n') ∧ BI A B n' ∧ FB (fun x => x = 608) n n' ∧ -1 ≤ col := by
  obtain ⟨⟨hT, hLs, hB, hK⟩, ⟨hL, ho2⟩, _, _⟩ := hP
  have hG := hT.1.1
  have hN := hG.N1
  have hv := hG.oB r0 r1
  have e2r : o2 r = o r := ho2 r r0 r1
  obtain ⟨⟨b1, b2, b3, b4⟩, b5, b6, b7, b8, b9, b10, b11, b12, b13⟩ := box_nums hL r0 r1 e2r (by omega)
  have htag : 12 ≤ m 46 (o r) ∧ m 46 (o r) ≤ 14 := by
    rcases hL.1.2.1 r r0 r1 with ⟨w, _⟩ | ⟨_, w | w | w | w | w⟩
    · rw [e2r] at w; omega
    · have := w.1; rw [e2r] at this; omega
    · have := w.2.2.1; rw [e2r] at this; exact this
    · rw [e2r] at w; omega
    · rw [e2r] at w; omega
    · rw [e2r] at w; omega
  have hnd : ND n m (o r) := hT.2.2.2 r r0 r1
  have h70 : n 7 (o r) 0 = m 46 (o r) := hnd.1.1
  have hrf : FB (fun x => x = 608) n n := FB.refl _ n
  have hbg : -1 ≤ n 3 (o r) 10 := by
    have g := (hL.bx r0 r1 (by rw [e2r]; omega)).2.2.2.2.2
    rw [e2r] at g
    exact g.2.2.2.2.2.2.2.1.1
  have hbx1 : -1 ≤ bxC px py (m 110 (o r)) (m 111 (o r)) (m 112 (o r)) (m 113 (o r)) (n 3 (o r) 7) (n 3 (o r) 9) (n 3 (o r) 10) := by
    unfold bxC
    split
    · split <;> omega
    · omega
  have e241 : ∀ m2 : YS, (∀ f, f ≠ 146 → f ≠ 147 → m2 f = m f) → nk_Y_paint_241 px py r (o r) m2 = if m 46 (o r) = 13 then (N_Y_paintInput (o r) px py m2).bind fun m10 => nk_Y_paint_272 px py r (o r) m10 else nk_Y_paint_272 px py r (o r) m2 := fun m2 h2 => by
    unfold nk_Y_paint_241
    simp only [ix_e _ hv]
    rw [h2 107 (by decide) (by decide), h2 46 (by decide) (by decide), if_pos h4]
  have e272 : ∀ m2 : YS, (∀ f, f ≠ 146 → f ≠ 147 → m2 f = m f) → nk_Y_paint_272 px py r (o r) m2 = if m 46 (o r) = 14 then (N_Y_paintButton (o r) px py m2).bind fun m10 => some (.inl (r + 1, m10)) else some (.inl (r + 1, m2)) := fun m2 h2 => by
    unfold nk_Y_paint_272
    simp only [ix_e _ hv]
    rw [h2 107 (by decide) (by decide), h2 46 (by decide) (by decide), if_pos h4, ck_e (a := r + 1) _ (by omega)]
    by_cases z : m 46 (o r) = 14
    · rw [if_pos z, if_pos z]
      congr 1
      funext m10
      rw [ck_e _ (by omega)]
    · rw [if_neg z, if_neg z]
  by_cases t12 : m 46 (o r) = 12
  · -- an image
    have hho := c_holds (n := n) (v := o r) (px := px) (py := py) (E := 0) (by omega) (by omega) (by omega) (by omega) (by decide)
    rw [Int.add_zero, Int.add_zero, Int.mul_zero, Int.sub_zero, Int.sub_zero, b1, b2, b3, b4] at hho
    have hcl : N_Layout_pieceColorAt (o r) px py n = (N_Box_holds (o r) px py 0 n).bind fun z11 => if z11 = 0 then some ((-1), n) else some ((n 3 (o r) 9), n) := by
      unfold N_Layout_pieceColorAt
      rw [ix_e _ hv, ix_e _ hv, h70, if_pos t12]
    rcases y_isIn (m := m1) (px := px) (py := py) (X := m 110 (o r)) (Y := m 111 (o r)) (W := m 112 (o r)) (H := m 113 (o r)) (by omega) (by omega) (by omega) (by omega) with ⟨g1, g2⟩ | ⟨g1, g2⟩
    · have hfz : ∀ f, f ≠ 146 → f ≠ 147 → yw (yw m1 147 0 (o r)) 146 0 (n 3 (o r) 9) f = m f := fun f x y => by rw [yw_nF x, yw_nF y]; exact hf f x y
      refine ⟨yw (yw m1 147 0 (o r)) 146 0 (n 3 (o r) 9), n 3 (o r) 9, n, ?_, ⟨fun f x y => by rw [yw_nF x, yw_nF y], by rw [if_pos g2, if_pos rfl, yw_nF (by decide), yw_eq], by rw [yw_eq, if_neg (by omega)]⟩, ?_, hB, hrf, by omega⟩
      · unfold nk_Y_paint_153 st
        dsimp only
        rw [hf 110 (by decide) (by decide), hf 111 (by decide) (by decide), hf 112 (by decide) (by decide), hf 113 (by decide) (by decide)]
        simp only [ix_e _ hv]
        rw [g1]
        simp only [Option.bind_some]
        rw [if_neg (by decide), yw_nF (by decide), yw_nF (by decide), hf 46 (by decide) (by decide), hf 107 (by decide) (by decide), if_pos t12, if_pos h4, y_of hv (by decide), yw_nF (by decide), hf 105 (by decide) (by decide), ← b11.1]
        simp only [Option.bind_some]
        rw [e241 _ hfz, if_neg (by omega), e272 _ hfz, if_neg (by omega)]
      · rw [hcl]
        rcases hho with ⟨k1, k2⟩ | ⟨k1, k2⟩
        · rw [k1]; rfl
        · exact absurd g2 k2
    · refine ⟨m1, -1, n, ?_, ⟨fun _ _ _ => rfl, by rw [if_neg g2, if_neg (by decide)], by rw [if_pos rfl]⟩, ?_, hB, hrf, by decide⟩
      · unfold nk_Y_paint_153 st
        dsimp only
        rw [hf 110 (by decide) (by decide), hf 111 (by decide) (by decide), hf 112 (by decide) (by decide), hf 113 (by decide) (by decide)]
        simp only [ix_e _ hv]
        rw [g1]
        simp only [Option.bind_some]
        rw [if_pos trivial, e241 _ hf, if_neg (by omega), e272 _ hf, if_neg (by omega)]
      · rw [hcl]
        rcases hho with ⟨k1, k2⟩ | ⟨k1, k2⟩
        · exact absurd k2 g2
        · rw [k1]; rfl
  · -- something is written in it
    obtain ⟨m2, k1, k2⟩ := y_pnode (m := m) (m1 := m1) (v := o r) (px := px) (py := py) (r := r) (b := n 3 (o r) 7) (fg := n 3 (o r) 9) (bg := n 3 (o r) 10) hv b5 b6 b7 b8 b9 b11 b12 (fun h => t12 h.1) hf
    have hf2 : ∀ f, f ≠ 146 → f ≠ 147 → m2 f = m f := fun f x y => (k2.1 f x y).trans (hf f x y)
    by_cases t14 : m 46 (o r) = 14
    · -- a button
      have h16 : n 7 (o r) 16 = 0 := by
        rcases hK (o r) hv.1 hv.2 with z | z | z
        · exact z
        · omega
        · omega
      have h62 : ∀ q, 0 ≤ q → q < N → m 46 (o q) = 17 → (0 ≤ m 62 (o q) ∧ m 62 (o q) ≤ 400) ∧ ∀ j, 0 ≤ j → j < m 62 (o q) → 0 ≤ m 61 (400 * o q + j) ∧ m 61 (400 * o q + j) ≤ 255 := fun q x y z => by
        obtain ⟨t1, t2, _⟩ := (hT.2.2.2 q x y).2.2.2.2.1 z
        exact ⟨t1, fun j x y => isTx_b (sg_all (g := m 61) (i := 400 * o q) (k := m 62 (o q)) t2 (by omega) (by omega))⟩
      obtain ⟨m3, w1, w2⟩ := y_button (m := m) (m0 := m2) (k := r) (s := n 3 (o r) 11) (x0 := n 3 (o r) 8) (col := n 3 (o r) 9) (px := px) (py := py) hG r0 r1 h62 b13 hp (.inr (by omega)) (by omega) (by omega) b10 b11.1 hf2
      obtain ⟨⟨z, n2⟩, v1, v2, v3, v4, v5⟩ := c_textW hB hT hLs r0 r1 b13.2
      simp only at v2 v3 v4 v5
      have e3 : n2 3 = n 3 := v4.1 3 (by decide) (by decide) (by decide) (by decide) (by decide) (by decide)
      have hok := oLn_ok (m := m) (o := o) (k := r) (N := N) (fun q a b c => (h62 q (by omega) b c).1) (e r - r).toNat (by have := hG.eB r0 r1; omega)
      have hlen2 := (v3.1 608 (by decide) (by decide)).2.2.2.1
      have hby : ∀ j, 0 ≤ j → j < n2 4 608 2 → 0 ≤ n2 99 (n2 4 608 1) j ∧ n2 99 (n2 4 608 1) j ≤ 255 := fun j x y => by
        have hall : ∀ c ∈ bt n2 608, 0 ≤ c ∧ c ≤ 255 := by
          rw [v5]
          refine oLn_by (N := N) (fun q a b => ?_) _ (by have := hG.eB r0 r1; omega)
          exact fun c => (h62 q (by omega) b c).2
        have g := sg_all (g := n2 99 (n2 4 608 1)) (i := 0) (k := n2 4 608 2) (P := fun c => 0 ≤ c ∧ c ≤ 255) hall (j := j) (by omega) (by omega)
        exact g
      have hcl : N_Layout_pieceColorAt (o r) px py n = nk_Layout_pieceColorAt_109 px py (o r) 608 n2 := by
        unfold N_Layout_pieceColorAt
        rw [ix_e _ hv, ix_e _ hv, h70, if_neg t12, h16, if_pos rfl, if_pos t14, v1]; rfl
      have hl608 : n2 4 608 2 ≤ 60000 := by
        exact Int.le_trans hlen2.2.1 (by decide)
      have hcc := c_pc109 (n := n2) (b := 608) (v := o r) (px := px) (py := py) v3 (by decide) hl608 hby v5 (by rw [e3]; omega) (by rw [e3]; omega) (by rw [e3]; omega) (by rw [e3]; omega) (by rw [e3]; omega) (by rw [e3]; omega) (by rw [e3]; omega) hp
      rw [e3, b1, b2, b3, b4] at hcc
      have hy : nk_Y_paint_153 px py r (o r) m1 = some (.inl (r + 1, m3)) := by
        rw [k1, e241 _ hf2, if_neg (by omega), e272 _ hf2, if_pos t14, w1]; rfl
      rcases k2.cur w2 b11.2 with ⟨q1, q2⟩ | ⟨q1, q2⟩
      · refine ⟨m3, n 3 (o r) 9, n2, hy, q2, ?_, v3, v4, by omega⟩
        rw [hcl]
        rcases hcc with ⟨u1, u2⟩ | ⟨u1, u2⟩
        · exact u2
        · exact absurd q1 u1
      · refine ⟨m3, _, n2, hy, q2, ?_, v3, v4, hbx1⟩
        rw [hcl]
        rcases hcc with ⟨u1, u2⟩ | ⟨u1, u2⟩
        · exact absurd u1 q1
        · exact u2
    · -- an input
      have t13 : m 46 (o r) = 13 := by omega
      obtain ⟨i1, i2, i3, i4, i5, _⟩ := hnd.2.2.2.2.2.1 t13
      have hedg := y_edg (m := m2) (v := o r) (E := n 3 (o r) 8) hv (by rw [hf2 105 (by decide) (by decide)]; exact b10.1) b10.2
      by_cases h66 : m 66 (o r) = 0
      · -- its value
        have hby : ∀ j, 0 ≤ j → j < m 65 (o r) → 0 ≤ m 64 (24 * o r + j) ∧ m 64 (24 * o r + j) ≤ 255 := fun j x y => isTx_b (sg_all (g := m 64) (i := 24 * o r) (k := m 65 (o r)) i2 (by omega) (by omega))
        obtain ⟨m3, w1, w2⟩ := y_inpL (m := m) (m0 := m2) (v := o r) (s := n 3 (o r) 11) (px := px) (py := py) (x0 := n 3 (o r) 8) (col := n 3 (o r) 9) hv b13.2 hp i1 hby (by omega) (by omega) (by omega) b10.2 b11.1 hf2 (m 65 (o r)).toNat 0 0 m2 (by omega) (Int.le_refl _) i1.1 (by show (0 : Int) = 0 * _; omega) (.inr ⟨fun h => h, rfl⟩) (.inl rfl)
        rw [Int.add_zero] at w1
        have hin : N_Y_paintInput (o r) px py m2 = some m3 := by
          unfold N_Y_paintInput
          rw [hedg]
          simp only [Option.bind_some]
          rw [ix_e _ hv, hf2 66 (by decide) (by decide), if_pos h66, y_of hv (by decide), hf2 105 (by decide) (by decide), ← b13.1]
          simp only [Option.bind_some]
          rw [ix_e _ hv, hf2 110 (by decide) (by decide), ck_f _ (by omega)]
          rcases w1 with w1 | w1
          · rw [w1]; rfl
          · rw [w1]; rfl
        have hlb : bt n (5 * o r) = sg (m 64) (24 * o r) (m 65 (o r)).toNat := i3
        have hlen : n 4 (5 * o r) 2 = m 65 (o r) := by
          have g := bt_len (b := 5 * o r) (by omega) hB
          rw [hlb, sg_len] at g
          omega
        have hall : ∀ c ∈ sg (n 99 (n 4 (5 * o r) 1)) 0 (n 4 (5 * o r) 2).toNat, isTx c := by
          have : sg (n 99 (n 4 (5 * o r) 1)) 0 (n 4 (5 * o r) 2).toNat = bt n (5 * o r) := rfl
          rw [this, i3]; exact i2
        have hby2 : ∀ j, 0 ≤ j → j < n 4 (5 * o r) 2 → 0 ≤ n 99 (n 4 (5 * o r) 1) j ∧ n 99 (n 4 (5 * o r) 1) j ≤ 255 := fun j x y => by
          have g := sg_all (g := n 99 (n 4 (5 * o r) 1)) (i := 0) (k := n 4 (5 * o r) 2) (P := fun c => isTx c) hall (j := j) (by omega) (by omega)
          exact isTx_b g
        have hcl : N_Layout_pieceColorAt (o r) px py n = nk_Layout_pieceColorAt_109 px py (o r) (5 * o r) n := by
          unfold N_Layout_pieceColorAt
          rw [ix_e _ hv, ix_e _ hv, h70, if_neg t12, i4, h66, if_pos rfl, if_neg t14]
        have hcc := c_pc109 (n := n) (b := 5 * o r) (v := o r) (px := px) (py := py) hB (by omega) (by omega) hby2 hlb (by omega) (by omega) (by omega) (by omega) b9.2 b10.2 b13.2 hp
        rw [b1, b2, b3, b4] at hcc
        have hf3 : ∀ f, f ≠ 146 → f ≠ 147 → m3 f = m f := fun f x y => by
          rcases w2 with ⟨_, e⟩ | ⟨_, e⟩
          · rw [e, yw_nF x]; exact hf2 f x y
          · rw [e]; exact hf2 f x y
        have hy : nk_Y_paint_153 px py r (o r) m1 = some (.inl (r + 1, m3)) := by
          rw [k1, e241 _ hf2, if_pos t13, hin]
          simp only [Option.bind_some]
          rw [e272 _ hf3, if_neg t14]
        rcases k2.cur w2 b11.2 with ⟨q1, q2⟩ | ⟨q1, q2⟩
        · refine ⟨m3, n 3 (o r) 9, n, hy, q2, ?_, hB, hrf, by omega⟩
          rw [hcl]
          rcases hcc with ⟨u1, u2⟩ | ⟨u1, u2⟩
          · exact u2
          · exact absurd q1 u1
        · refine ⟨m3, _, n, hy, q2, ?_, hB, hrf, hbx1⟩
          rw [hcl]
          rcases hcc with ⟨u1, u2⟩ | ⟨u1, u2⟩
          · exact absurd u1 q1
          · exact u2
      · -- it is marked
        have hho := c_holds (n := n) (v := o r) (px := px) (py := py) (E := n 3 (o r) 8) (by omega) (by omega) (by omega) (by omega) (by omega)
        rw [b1, b2, b3, b4] at hho
        have hbc := c_boxCol (n := n) (v := o r) (px := px) (py := py) (by omega) (by omega) (by omega) (by omega) b9.2
        rw [b1, b2, b3, b4] at hbc
        have hcl : N_Layout_pieceColorAt (o r) px py n = (N_Box_holds (o r) px py (n 3 (o r) 8) n).bind fun z34 => nk_Layout_pieceColorAt_153 px py (o r) z34 n := by
          unfold N_Layout_pieceColorAt
          rw [ix_e _ hv, ix_e _ hv, h70, if_neg t12, i4, if_neg h66]
        have hin : N_Y_paintInput (o r) px py m2 = (N_Y_isIn px py (m 110 (o r) + n 3 (o r) 8) (m 111 (o r) + n 3 (o r) 8) (m 112 (o r) - 2 * n 3 (o r) 8) (m 113 (o r) - 2 * n 3 (o r) 8) m2).bind fun z44 => if z44 = 0 then some m2 else some (yw m2 146 0 (n 3 (o r) 9)) := by
          unfold N_Y_paintInput st
          rw [hedg]
          simp only [Option.bind_some]
          simp only [ix_e _ hv]
          rw [hf2 66 (by decide) (by decide), if_neg h66, hf2 110 (by decide) (by decide), hf2 111 (by decide) (by decide), hf2 112 (by decide) (by decide), hf2 113 (by decide) (by decide), ck_f _ (by omega), ck_f _ (by omega), ck_f _ (by omega), ck_f _ (by omega), ck_f _ (by omega), ck_f _ (by omega), y_of hv (by decide), hf2 105 (by decide) (by decide), ← b11.1]
          simp only [Option.bind_some]
        rcases y_isIn (m := m2) (px := px) (py := py) (X := m 110 (o r) + n 3 (o r) 8) (Y := m 111 (o r) + n 3 (o r) 8) (W := m 112 (o r) - 2 * n 3 (o r) 8) (H := m 113 (o r) - 2 * n 3 (o r) 8) (by omega) (by omega) (by omega) (by omega) with ⟨g1, g2⟩ | ⟨g1, g2⟩
        · have hf3 : ∀ f, f ≠ 146 → f ≠ 147 → yw m2 146 0 (n 3 (o r) 9) f = m f := fun f x y => by rw [yw_nF x]; exact hf2 f x y
          refine ⟨yw m2 146 0 (n 3 (o r) 9), n 3 (o r) 9, n, ?_, ⟨fun f x y => by rw [yw_nF x]; exact k2.1 f x y, by rw [yw_nF (by decide)]; exact k2.2.1, by rw [yw_eq, if_neg (by omega)]⟩, ?_, hB, hrf, by omega⟩
          · rw [k1, e241 _ hf2, if_pos t13, hin, g1]
            simp only [Option.bind_some]
            rw [if_neg (by decide)]
            simp only [Option.bind_some]
            rw [e272 _ hf3, if_neg t14]
          · rw [hcl]
            rcases hho with ⟨u1, u2⟩ | ⟨u1, u2⟩
            · rw [u1]; rfl
            · exact absurd g2 u2
        · refine ⟨m2, _, n, ?_, k2, ?_, hB, hrf, hbx1⟩
          · rw [k1, e241 _ hf2, if_pos t13, hin, g1]
            simp only [Option.bind_some]
            rw [if_pos trivial]
            simp only [Option.bind_some]
            rw [e272 _ hf2, if_neg t14]
          · rw [hcl]
            rcases hho with ⟨u1, u2⟩ | ⟨u1, u2⟩
            · exact absurd u2 g2
            · rw [u1]
              show nk_Layout_pieceColorAt_153 px py (o r) 0 n = _
              unfold nk_Layout_pieceColorAt_153
              rw [if_pos rfl, hbc]; rfl
end YZ
