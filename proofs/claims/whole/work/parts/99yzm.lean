/-! THE CONSTRUCTORS: reader, sheet, layout, acts; the class -/
section YZM
variable {g g' : g_S} {K q k t l p j : Nat} {f fH fN f1 f2 f5 f6 : Nat → Int} {L : List (Nat × (Nat → Int))} {m : YS} {α β : Type} {Q : α → Prop} {i b : Int}
theorem lin (h : (L.map Prod.fst).all (fun x => Nat.blt x q) = true) : ∀ x ∈ L, x.1 < q := fun x hx => by
  have := List.all_eq_true.mp h x.1 (List.mem_map.mpr ⟨x, hx, rfl⟩)
  exact Nat.lt_of_lt_of_le (Nat.lt_succ_self _) (Nat.le_of_ble_eq_true this)
theorem e_reader {F : g_S → Option α} (h : BD Vt g 1632 ((1631, blk 108) :: (1582, f1) :: (1583, f2) :: (1589, hmB) :: (1590, hmT) :: (1591, f5) :: (1592, f6) :: (0, fH) :: [])) (c : ∀ g', BD Vt g' 1650 ((1582, f1) :: (1583, f2) :: (1589, hmB) :: (1590, hmT) :: (1591, f5) :: (1592, f6) :: (0, fH) :: []) → ev (F g') Q) : ev ((M_Reader_init 1631 5 g).bind F) Q := by
  unfold M_Reader_init
  refine ev_bind (P := fun g' => BD Vt g' 1650 ((1582, f1) :: (1583, f2) :: (1589, hmB) :: (1590, hmT) :: (1591, f5) :: (1592, f6) :: (0, fH) :: [])) ?_ c
  refine e_nA h (by decide) (by decide) (by decide) (by decide) (fun g2 h => ?_)
  have h := h.close (q := 1632) (fun k => by rw [Vt_of (show lc 1632 = (28, 0) by decide) (by decide)]; rfl)
  refine e_wR (p := 1632) (u := 0) h (nnin rfl) (by decide) rfl (by decide) (fun g3 h => ?_)
  refine e_nA h (by decide) (by decide) (by decide) (by decide) (fun g5 h => ?_)
  have h := h.close (q := 1633) (fun k => by rw [Vt_of (show lc 1633 = (29, 0) by decide) (by decide)]; rfl)
  refine e_wR (p := 1633) (u := 0) h (nnin rfl) (by decide) rfl (by decide) (fun g6 h => ?_)
  refine e_nA h (by decide) (by decide) (by decide) (by decide) (fun g8 h => ?_)
  have h := h.close (q := 1634) (fun k => by rw [Vt_of (show lc 1634 = (30, 0) by decide) (by decide)]; rfl)
  refine e_wR (p := 1634) (u := 0) h (nnin rfl) (by decide) rfl (by decide) (fun g9 h => ?_)
  refine e_nA h (by decide) (by decide) (by decide) (by decide) (fun g11 h => ?_)
  have h := h.close (q := 1635) (fun k => by rw [Vt_of (show lc 1635 = (31, 0) by decide) (by decide)]; rfl)
  refine e_wR (p := 1635) (u := 0) h (nnin rfl) (by decide) rfl (by decide) (fun g12 h => ?_)
  refine e_nO h (by decide) (by decide) (by decide) (fun g14 h => ?_)
  refine e_node h (lin rfl) n_st2 (fun g15 h => ?_)
  refine e_wR (p := 1636) (u := 120) h (nnin rfl) (by decide) rfl (by decide) (fun g16 h => ?_)
  refine e_nA h (by decide) (by decide) (by decide) (by decide) (fun g18 h => ?_)
  have h := h.close (q := 1649) (fun k => by rw [Vt_99 (show lc 1649 = (99, ((1649 : Nat) : Int)) by decide)]; rfl)
  refine e_wR (p := 1649) (u := 1649) h (nnin rfl) (by decide) rfl (by decide) (fun g19 h => ?_)
  refine e_wR (p := 5) (u := 0) h (nnin rfl) (by decide) rfl (by decide) (fun g20 h => ?_)
  refine ev_ok (h.close (fun k => ?_))
  rw [Vt_of (show lc 1631 = (8, 0) by decide) (by decide)]; rfl
theorem e_pack {F : Int64 → Option α} {w : List Int} {z : Nat} (h : BD Vt g K L) (hs : okS z w) (hc : ∀ c ∈ w, isBt c) (h8 : w.length ≤ 8) (c : ∀ x : Int64, x.toInt = pk w → ev (F x) Q) : ev ((M_Bytes_pack_1 z g).bind F) Q := by
  obtain ⟨x, hx, h1, h2⟩ := f_Bytes_pack_1 (v0 := z) (rc_of (m := fun _ _ => 0) h.1.2.2.2) _ (cs_packW hs hc h8)
  rw [hx]
  exact c x (by rw [h1]; exact ti64 h2)
theorem e_sheet {F : g_S → Option α} (h : BD Vt g 1651 ((1650, blk 109) :: (1582, f1) :: (1583, f2) :: (1589, hmB) :: (1590, hmT) :: (1591, f5) :: (1592, f6) :: (0, fH) :: [])) (c : ∀ g', BD Vt g' 1661 ((1582, f1) :: (1583, f2) :: (1589, hmB) :: (1590, hmT) :: (1591, f5) :: (1592, f6) :: (0, fH) :: []) → ev (F g') Q) : ev ((M_Sheet_init 1650 5 g).bind F) Q := by
  unfold M_Sheet_init
  refine ev_bind (P := fun g' => BD Vt g' 1661 ((1582, f1) :: (1583, f2) :: (1589, hmB) :: (1590, hmT) :: (1591, f5) :: (1592, f6) :: (0, fH) :: [])) ?_ c
  refine e_nA h (by decide) (by decide) (by decide) (by decide) (fun g2 h => ?_)
  have h := h.close (q := 1651) (fun k => by rw [Vt_of (show lc 1651 = (32, 0) by decide) (by decide)]; rfl)
  refine e_wR (p := 1651) (u := 0) h (nnin rfl) (by decide) rfl (by decide) (fun g3 h => ?_)
  refine e_nA h (by decide) (by decide) (by decide) (by decide) (fun g5 h => ?_)
  have h := h.close (q := 1652) (fun k => by rw [Vt_of (show lc 1652 = (33, 0) by decide) (by decide)]; rfl)
  refine e_wR (p := 1652) (u := 0) h (nnin rfl) (by decide) rfl (by decide) (fun g6 h => ?_)
  refine e_nA h (by decide) (by decide) (by decide) (by decide) (fun g8 h => ?_)
  have h := h.close (q := 1653) (fun k => by rw [Vt_of (show lc 1653 = (34, 0) by decide) (by decide)]; rfl)
  refine e_wR (p := 1653) (u := 0) h (nnin rfl) (by decide) rfl (by decide) (fun g9 h => ?_)
  refine e_nA h (by decide) (by decide) (by decide) (by decide) (fun g11 h => ?_)
  have h := h.close (q := 1654) (fun k => by rw [Vt_of (show lc 1654 = (35, 0) by decide) (by decide)]; rfl)
  refine e_wR (p := 1654) (u := 0) h (nnin rfl) (by decide) rfl (by decide) (fun g12 h => ?_)
  refine e_nA h (by decide) (by decide) (by decide) (by decide) (fun g14 h => ?_)
  have h := h.close (q := 1655) (fun k => by rw [Vt_of (show lc 1655 = (36, 0) by decide) (by decide)]; rfl)
  refine e_wR (p := 1655) (u := 0) h (nnin rfl) (by decide) rfl (by decide) (fun g15 h => ?_)
  refine e_nA h (by decide) (by decide) (by decide) (by decide) (fun g17 h => ?_)
  have h := h.close (q := 1656) (fun k => by rw [Vt_of (show lc 1656 = (37, 0) by decide) (by decide)]; rfl)
  refine e_wR (p := 1656) (u := 0) h (nnin rfl) (by decide) rfl (by decide) (fun g18 h => ?_)
  refine e_nA h (by decide) (by decide) (by decide) (by decide) (fun g20 h => ?_)
  have h := h.close (q := 1657) (fun k => by rw [Vt_of (show lc 1657 = (38, 0) by decide) (by decide)]; rfl)
  refine e_wR (p := 1657) (u := 0) h (nnin rfl) (by decide) rfl (by decide) (fun g21 h => ?_)
  refine e_nA h (by decide) (by decide) (by decide) (by decide) (fun g23 h => ?_)
  have h := h.close (q := 1658) (fun k => by rw [Vt_of (show lc 1658 = (39, 0) by decide) (by decide)]; rfl)
  refine e_wR (p := 1658) (u := 0) h (nnin rfl) (by decide) rfl (by decide) (fun g24 h => ?_)
  refine e_nA h (by decide) (by decide) (by decide) (by decide) (fun g26 h => ?_)
  have h := h.close (q := 1659) (fun k => by rw [Vt_of (show lc 1659 = (40, 0) by decide) (by decide)]; rfl)
  refine e_wR (p := 1659) (u := 0) h (nnin rfl) (by decide) rfl (by decide) (fun g27 h => ?_)
  refine e_nA h (by decide) (by decide) (by decide) (by decide) (fun g29 h => ?_)
  have h := h.close (q := 1660) (fun k => by rw [Vt_of (show lc 1660 = (41, 0) by decide) (by decide)]; rfl)
  refine e_wR (p := 1660) (u := 0) h (nnin rfl) (by decide) rfl (by decide) (fun g30 h => ?_)
  refine e_pack (w := wId) h okS3 (by decide) (by decide) (fun z31 hz31 => ?_)
  refine e_wL (u := pk wId) h (nnin rfl) (by decide) rfl hz31 (fun g32 h => ?_)
  refine e_pack (w := wClass) h okS4 (by decide) (by decide) (fun z33 hz33 => ?_)
  refine e_wL (u := pk wClass) h (nnin rfl) (by decide) rfl hz33 (fun g34 h => ?_)
  refine e_wI (u := (-1)) h (nnin rfl) (by decide) rfl (by decide) (by decide) (by decide) (fun g35 h => ?_)
  refine e_wR (p := 5) (u := 0) h (nnin rfl) (by decide) rfl (by decide) (fun g36 h => ?_)
  refine ev_ok (h.close (fun k => ?_))
  rw [Vt_of (show lc 1650 = (9, 0) by decide) (by decide)]; rfl
theorem e_box {F : g_S → Option α} (c : ∀ g', g' = g → ev (F g') Q) : ev ((M_Box_init q g).bind F) Q := c g rfl
theorem bx_at : ∀ z, z < 120 → sty (1669 + z) = 103 ∧ sln (1669 + z) = 0 ∧ lc (1669 + z) = (3, (z : Int)) := by decide +kernel
theorem e_boxes {F : g_S → Option α} (h : BD Vt g 1669 ((1662, blk 8) :: (1661, f) :: (1582, f1) :: (1583, f2) :: (1589, hmB) :: (1590, hmT) :: (1591, f5) :: (1592, f6) :: (0, fH) :: [])) (hf : f 2 = 0) (c : ∀ g', BD Vt g' 1789 ((1661, f) :: (1582, f1) :: (1583, f2) :: (1589, hmB) :: (1590, hmT) :: (1591, f5) :: (1592, f6) :: (0, fH) :: []) → ev (F g') Q) : ev ((L_Layout_init_85 1661 0 g).bind F) Q := by
  refine ev_bind (P := fun g' => BD Vt g' (1669 + 120) ((1662, fst' 0 1 120) :: (1661, f) :: (1582, f1) :: (1583, f2) :: (1589, hmB) :: (1590, hmT) :: (1591, f5) :: (1592, f6) :: (0, fH) :: [])) ?_ (fun g' h => c g' (h.close (fun k => ?_)))
  · unfold L_Layout_init_85
    refine e_loop (b := b_Layout_init_85 1661) (I := fun z g => BD Vt g (1669 + z) ((1662, fst' 0 1 z) :: (1661, f) :: (1582, f1) :: (1583, f2) :: (1589, hmB) :: (1590, hmT) :: (1591, f5) :: (1592, f6) :: (0, fH) :: [])) (N := 120) (fun z g hz h => ?_) (fun g h => ?_) 120 0 g rfl (by rw [← blk_ref (t := 8) (by decide)]; exact h)
    · obtain ⟨a1, a2, a3, a4⟩ := i32_120 z hz
      obtain ⟨b1, b2, b3⟩ := bx_at z hz
      unfold b_Layout_init_85
      rw [if_pos a1]
      refine e_rQ (p := 1662) (u := 0) h (by omega) (by decide) (((h.sub (List.mem_cons_of_mem _ List.mem_cons_self)).2 2).trans hf) rfl (by decide) (by decide) ?_
      refine e_nO h (by omega) b1 b2 (fun g3 h => ?_)
      refine e_box (fun g4 e => ?_)
      rw [e]
      have h := h.close (fun k => by rw [Vt_of b3 (by decide)]; rfl)
      refine e_sQ (u := z) (j := z) h (nnin rfl) (by decide) (by omega) b1 a2 a3 rfl (by rw [b3]; rfl) (fun g5 h => ?_)
      refine ev_ok ⟨g5, by rw [a4], ?_⟩
      have e : upv (fst' 0 1 z) z (z : Int) = fst' 0 1 (z + 1) := by
        rw [← fst_up]; congr 1; omega
      rw [← e]; exact h
    · unfold b_Layout_init_85
      rw [if_neg (by decide)]
  · rw [Vt_of (show lc 1662 = (42, 0) by decide) (by decide)]
    show fst' 0 1 120 k = if k < 120 then (k : Int) else -1
    unfold fst'
    rw [show (0 : Int) + 1 * (k : Int) = k by omega]
theorem e_layout {F : g_S → Option α} (h : BD Vt g 1662 ((1661, blk 105) :: (1582, f1) :: (1583, f2) :: (1589, hmB) :: (1590, hmT) :: (1591, f5) :: (1592, f6) :: (0, fH) :: [])) (c : ∀ g', BD Vt g' 1789 ((1582, f1) :: (1583, f2) :: (1589, hmB) :: (1590, hmT) :: (1591, f5) :: (1592, f6) :: (0, fH) :: []) → ev (F g') Q) : ev ((M_Layout_init 1661 5 1650 g).bind F) Q := by
  unfold M_Layout_init
  refine ev_bind (P := fun g' => BD Vt g' 1789 ((1582, f1) :: (1583, f2) :: (1589, hmB) :: (1590, hmT) :: (1591, f5) :: (1592, f6) :: (0, fH) :: [])) ?_ c
  refine e_nA h (by decide) (by decide) (by decide) (by decide) (fun g2 h => ?_)
  have h := h.sw
  refine e_wR (p := 1662) (u := 0) h (nnin rfl) (by decide) rfl (by decide) (fun g3 h => ?_)
  refine e_wI (u := 48) h (nnin rfl) (by decide) rfl (by decide) (by decide) (by decide) (fun g4 h => ?_)
  refine e_wI (u := (-1)) h (nnin rfl) (by decide) rfl (by decide) (by decide) (by decide) (fun g5 h => ?_)
  refine e_nA h (by decide) (by decide) (by decide) (by decide) (fun g7 h => ?_)
  have h := h.close (q := 1663) (fun k => by rw [Vt_99 (show lc 1663 = (99, ((1663 : Nat) : Int)) by decide)]; rfl)
  refine e_wR (p := 1663) (u := 1663) h (nnin rfl) (by decide) rfl (by decide) (fun g8 h => ?_)
  refine e_nO h (by decide) (by decide) (by decide) (fun g10 h => ?_)
  refine e_bytes (b := 608) h (nnin rfl) (by decide) (by decide) (by decide) (by decide) (by decide) (by decide) (by decide) (fun g11 h => ?_)
  refine e_wR (p := 1664) (u := 608) h (nnin rfl) (by decide) rfl (by decide) (fun g12 h => ?_)
  refine e_nO h (by decide) (by decide) (by decide) (fun g14 h => ?_)
  refine e_box (fun g15 e => ?_)
  rw [e]
  have h := h.close (q := 1666) (fun k => by rw [Vt_of (show lc 1666 = (3, 120) by decide) (by decide)]; rfl)
  refine e_wR (p := 1666) (u := 120) h (nnin rfl) (by decide) rfl (by decide) (fun g16 h => ?_)
  refine e_nA h (by decide) (by decide) (by decide) (by decide) (fun g18 h => ?_)
  have h := h.close (q := 1667) (fun k => by rw [Vt_99 (show lc 1667 = (99, ((1667 : Nat) : Int)) by decide)]; rfl)
  refine e_wR (p := 1667) (u := 1667) h (nnin rfl) (by decide) rfl (by decide) (fun g19 h => ?_)
  refine e_nA h (by decide) (by decide) (by decide) (by decide) (fun g21 h => ?_)
  have h := h.close (q := 1668) (fun k => by rw [Vt_of (show lc 1668 = (43, 0) by decide) (by decide)]; rfl)
  refine e_wR (p := 1668) (u := 0) h (nnin rfl) (by decide) rfl (by decide) (fun g22 h => ?_)
  refine e_wR (p := 5) (u := 0) h (nnin rfl) (by decide) rfl (by decide) (fun g23 h => ?_)
  refine e_wR (p := 1650) (u := 0) h (nnin rfl) (by decide) rfl (by decide) (fun g24 h => ?_)
  have h := h.sw
  refine e_boxes h rfl (fun g27 h => ?_)
  refine ev_ok (h.close (fun k => ?_))
  rw [Vt_of (show lc 1661 = (5, 0) by decide) (by decide)]; rfl
theorem by_at : ∀ z, z < 20 → (sty (1797 + 2 * z) = 104 ∧ sln (1797 + 2 * z) = 0 ∧ lc (1797 + 2 * z) = (4, 611 + (z : Int))) ∧ sty (1797 + 2 * z + 1) = 1 ∧ sln (1797 + 2 * z + 1) = 16 ∧ lc (1797 + 2 * z + 1) = (99, ((1797 + 2 * z + 1 : Nat) : Int)) ∧ (60 : Int32).toInt = lim (611 + (z : Int)) := by decide +kernel
theorem e_tasks {F : g_S → Option α} (h : BD Vt g 1797 ((1791, blk 4) :: (1789, f) :: (1582, f1) :: (1583, f2) :: (1589, hmB) :: (1590, hmT) :: (1591, f5) :: (1592, f6) :: (0, fH) :: [])) (hf : f 4 = 0) (c : ∀ g', BD Vt g' 1837 ((1789, f) :: (1582, f1) :: (1583, f2) :: (1589, hmB) :: (1590, hmT) :: (1591, f5) :: (1592, f6) :: (0, fH) :: []) → ev (F g') Q) : ev ((L_Acts_init_86 1789 0 g).bind F) Q := by
  refine ev_bind (P := fun g' => BD Vt g' (1797 + 2 * 20) ((1791, fst' 611 1 20) :: (1789, f) :: (1582, f1) :: (1583, f2) :: (1589, hmB) :: (1590, hmT) :: (1591, f5) :: (1592, f6) :: (0, fH) :: [])) ?_ (fun g' h => c g' (h.close (fun k => ?_)))
  · unfold L_Acts_init_86
    refine e_loop (b := b_Acts_init_86 1789) (I := fun z g => BD Vt g (1797 + 2 * z) ((1791, fst' 611 1 z) :: (1789, f) :: (1582, f1) :: (1583, f2) :: (1589, hmB) :: (1590, hmT) :: (1591, f5) :: (1592, f6) :: (0, fH) :: [])) (N := 20) (fun z g hz h => ?_) (fun g h => ?_) 20 0 g rfl (by rw [← blk_ref (t := 4) (by decide)]; exact h)
    · obtain ⟨a1, a2, a3, a4⟩ := i32_20 z hz
      obtain ⟨⟨b1, b2, b3⟩, b4, b5, b6, b7⟩ := by_at z hz
      unfold b_Acts_init_86
      rw [if_pos a1]
      refine e_rQ (p := 1791) (u := 0) h (by omega) (by decide) (((h.sub (List.mem_cons_of_mem _ List.mem_cons_self)).2 4).trans hf) rfl (by decide) (by decide) ?_
      refine e_nO h (by omega) b1 b2 (fun g3 h => ?_)
      refine e_bytes (b := 611 + z) h (fun x hx => ?_) (by omega) b1 b4 b5 b3 b6 b7 (fun g4 h => ?_)
      · simp only [List.mem_cons, List.not_mem_nil, or_false] at hx
        rcases hx with y | y | y | y | y | y | y | y | y <;> (rw [y]; dsimp only; omega)
      refine e_sQ (u := 611 + z) (j := z) h (nnin rfl) (by decide) (by omega) b1 a2 a3 rfl (by rw [b3]; rfl) (fun g5 h => ?_)
      refine ev_ok ⟨g5, by rw [a4], ?_⟩
      have e : upv (fst' 611 1 z) z (611 + (z : Int)) = fst' 611 1 (z + 1) := by
        rw [← fst_up]; congr 1; omega
      rw [← e]; exact h
    · unfold b_Acts_init_86
      rw [if_neg (by decide)]
  · rw [Vt_of (show lc 1791 = (45, 0) by decide) (by decide)]
    show fst' 611 1 20 k = if k < 20 then 611 + (k : Int) else -1
    unfold fst'
    rw [show 611 + 1 * (k : Int) = 611 + k by omega]
theorem e_acts {F : g_S → Option α} (h : BD Vt g 1790 ((1789, blk 100) :: (1582, f1) :: (1583, f2) :: (1589, hmB) :: (1590, hmT) :: (1591, f5) :: (1592, f6) :: (0, fH) :: [])) (c : ∀ g', BD Vt g' 1837 ((1582, f1) :: (1583, f2) :: (1589, hmB) :: (1590, hmT) :: (1591, f5) :: (1592, f6) :: (0, fH) :: []) → ev (F g') Q) : ev ((M_Acts_init 1789 5 1569 1631 g).bind F) Q := by
  unfold M_Acts_init
  refine ev_bind (P := fun g' => BD Vt g' 1837 ((1582, f1) :: (1583, f2) :: (1589, hmB) :: (1590, hmT) :: (1591, f5) :: (1592, f6) :: (0, fH) :: [])) ?_ c
  refine e_nA h (by decide) (by decide) (by decide) (by decide) (fun g2 h => ?_)
  have h := h.close (q := 1790) (fun k => by rw [Vt_of (show lc 1790 = (44, 0) by decide) (by decide)]; rfl)
  refine e_wR (p := 1790) (u := 0) h (nnin rfl) (by decide) rfl (by decide) (fun g3 h => ?_)
  refine e_nA h (by decide) (by decide) (by decide) (by decide) (fun g5 h => ?_)
  have h := h.sw
  refine e_wR (p := 1791) (u := 0) h (nnin rfl) (by decide) rfl (by decide) (fun g6 h => ?_)
  refine e_wL (u := (-1)) h (nnin rfl) (by decide) rfl (by decide) (fun g7 h => ?_)
  refine e_nO h (by decide) (by decide) (by decide) (fun g9 h => ?_)
  refine e_bytes (b := 609) h (nnin rfl) (by decide) (by decide) (by decide) (by decide) (by decide) (by decide) (by decide) (fun g10 h => ?_)
  refine e_wR (p := 1792) (u := 609) h (nnin rfl) (by decide) rfl (by decide) (fun g11 h => ?_)
  refine e_nA h (by decide) (by decide) (by decide) (by decide) (fun g13 h => ?_)
  have h := h.close (q := 1794) (fun k => by rw [Vt_of (show lc 1794 = (46, 0) by decide) (by decide)]; rfl)
  refine e_wR (p := 1794) (u := 0) h (nnin rfl) (by decide) rfl (by decide) (fun g14 h => ?_)
  refine e_wI (u := (-1)) h (nnin rfl) (by decide) rfl (by decide) (by decide) (by decide) (fun g15 h => ?_)
  refine e_nO h (by decide) (by decide) (by decide) (fun g17 h => ?_)
  refine e_bytes (b := 610) h (nnin rfl) (by decide) (by decide) (by decide) (by decide) (by decide) (by decide) (by decide) (fun g18 h => ?_)
  refine e_wR (p := 1795) (u := 610) h (nnin rfl) (by decide) rfl (by decide) (fun g19 h => ?_)
  refine e_wR (p := 5) (u := 0) h (nnin rfl) (by decide) rfl (by decide) (fun g20 h => ?_)
  refine e_wR (p := 1569) (u := 0) h (nnin rfl) (by decide) rfl (by decide) (fun g21 h => ?_)
  refine e_wR (p := 1631) (u := 0) h (nnin rfl) (by decide) rfl (by decide) (fun g22 h => ?_)
  have h := h.sw
  refine e_tasks h rfl (fun g25 h => ?_)
  refine ev_ok (h.close (fun k => ?_))
  rw [Vt_of (show lc 1789 = (0, 0) by decide) (by decide)]; rfl
theorem BD.z0 {V : Nat → Nat → Int} {a b c d e f' x : Nat × (Nat → Int)} (h : BD V g K (a :: b :: c :: d :: e :: f' :: x :: [])) : BD V g K (x :: a :: b :: c :: d :: e :: f' :: []) := by
  have hm : ∀ y, y ∈ a :: b :: c :: d :: e :: f' :: x :: [] ↔ y ∈ x :: a :: b :: c :: d :: e :: f' :: [] := fun y => by
    simp only [List.mem_cons, List.not_mem_nil, or_false]
    constructor
    · rintro (h | h | h | h | h | h | h)
      · exact .inr (.inl h)
      · exact .inr (.inr (.inl h))
      · exact .inr (.inr (.inr (.inl h)))
      · exact .inr (.inr (.inr (.inr (.inl h))))
      · exact .inr (.inr (.inr (.inr (.inr (.inl h)))))
      · exact .inr (.inr (.inr (.inr (.inr (.inr h)))))
      · exact .inl h
    · rintro (h | h | h | h | h | h | h)
      · exact .inr (.inr (.inr (.inr (.inr (.inr h)))))
      · exact .inl h
      · exact .inr (.inl h)
      · exact .inr (.inr (.inl h))
      · exact .inr (.inr (.inr (.inl h)))
      · exact .inr (.inr (.inr (.inr (.inl h))))
      · exact .inr (.inr (.inr (.inr (.inr (.inl h)))))
  exact ⟨h.1, fun p hp hx k => h.2.1 p hp (fun x hx' => hx x ((hm x).mp hx')) k, fun x hx => h.2.2 x ((hm x).mpr hx)⟩
theorem BD.z2 {V : Nat → Nat → Int} {a b c d e f' x : Nat × (Nat → Int)} (h : BD V g K (x :: a :: b :: c :: d :: e :: f' :: [])) : BD V g K (a :: b :: c :: d :: e :: f' :: x :: []) := by
  have hm : ∀ y, y ∈ x :: a :: b :: c :: d :: e :: f' :: [] ↔ y ∈ a :: b :: c :: d :: e :: f' :: x :: [] := fun y => by
    simp only [List.mem_cons, List.not_mem_nil, or_false]
    constructor
    · rintro (h | h | h | h | h | h | h)
      · exact .inr (.inr (.inr (.inr (.inr (.inr h)))))
      · exact .inl h
      · exact .inr (.inl h)
      · exact .inr (.inr (.inl h))
      · exact .inr (.inr (.inr (.inl h)))
      · exact .inr (.inr (.inr (.inr (.inl h))))
      · exact .inr (.inr (.inr (.inr (.inr (.inl h)))))
    · rintro (h | h | h | h | h | h | h)
      · exact .inr (.inl h)
      · exact .inr (.inr (.inl h))
      · exact .inr (.inr (.inr (.inl h)))
      · exact .inr (.inr (.inr (.inr (.inl h))))
      · exact .inr (.inr (.inr (.inr (.inr (.inl h)))))
      · exact .inr (.inr (.inr (.inr (.inr (.inr h)))))
      · exact .inl h
  exact ⟨h.1, fun p hp hx k => h.2.1 p hp (fun x hx' => hx x ((hm x).mp hx')) k, fun x hx => h.2.2 x ((hm x).mpr hx)⟩
theorem z0m {a b c d e f' x : Nat × (Nat → Int)} : x ∈ a :: b :: c :: d :: e :: f' :: x :: [] := by
  simp only [List.mem_cons, List.not_mem_nil, or_false]
  exact .inr (.inr (.inr (.inr (.inr (.inr trivial)))))
/-- the class, up to where its tree is cleared -/
theorem e_house {QH : g_S → Prop} (h : BD Vt g 1 ((0, blk 111) :: [])) (c : ∀ g' f1 f2 f5 f6, AdC f1 f2 1583 → AdC f5 f6 1592 → BD Vt g' 1838 ((1582, f1) :: (1583, f2) :: (1589, hmB) :: (1590, hmT) :: (1591, f5) :: (1592, f6) :: []) → ev (M_Tree_clear 5 g') QH) : ev (M_H_init 0 g) QH := by
  unfold M_H_init
  refine e_nO h (by decide) (by decide) (by decide) (fun g2 h => ?_)
  refine e_bytes (b := 605) h (nnin rfl) (by decide) (by decide) (by decide) (by decide) (by decide) (by decide) (by decide) (fun g3 h => ?_)
  refine e_wR (p := 1) (u := 605) h (nnin rfl) (by decide) rfl (by decide) (fun g4 h => ?_)
  refine e_nO h (by decide) (by decide) (by decide) (fun g6 h => ?_)
  refine e_bytes (b := 606) h (nnin rfl) (by decide) (by decide) (by decide) (by decide) (by decide) (by decide) (by decide) (fun g7 h => ?_)
  refine e_wR (p := 3) (u := 606) h (nnin rfl) (by decide) rfl (by decide) (fun g8 h => ?_)
  refine e_nO h (by decide) (by decide) (by decide) (fun g10 h => ?_)
  refine e_tree h (fun g11 h => ?_)
  refine e_wR (p := 5) (u := 0) h (nnin rfl) (by decide) rfl (by decide) (fun g12 h => ?_)
  refine e_nO h (by decide) (by decide) (by decide) (fun g14 h => ?_)
  refine e_net h (fun g15 f1 f2 f5 f6 hA hB h => ?_)
  have h := h.z0
  refine e_wR (p := 1569) (u := 0) h (nnin rfl) (by decide) rfl (by decide) (fun g16 h => ?_)
  have h := h.z2
  refine e_nO h (by decide) (by decide) (by decide) (fun g18 h => ?_)
  refine e_rQ (p := 5) (u := 0) h (by decide) (by decide) ((h.sub (List.mem_cons_of_mem _ z0m)).2 2) rfl (by decide) (by decide) ?_
  refine e_reader h (fun g20 h => ?_)
  have h := h.z0
  refine e_wR (p := 1631) (u := 0) h (nnin rfl) (by decide) rfl (by decide) (fun g21 h => ?_)
  have h := h.z2
  refine e_nO h (by decide) (by decide) (by decide) (fun g23 h => ?_)
  refine e_rQ (p := 5) (u := 0) h (by decide) (by decide) ((h.sub (List.mem_cons_of_mem _ z0m)).2 2) rfl (by decide) (by decide) ?_
  refine e_sheet h (fun g25 h => ?_)
  have h := h.z0
  refine e_wR (p := 1650) (u := 0) h (nnin rfl) (by decide) rfl (by decide) (fun g26 h => ?_)
  have h := h.z2
  refine e_nO h (by decide) (by decide) (by decide) (fun g28 h => ?_)
  refine e_rQ (p := 5) (u := 0) h (by decide) (by decide) ((h.sub (List.mem_cons_of_mem _ z0m)).2 2) rfl (by decide) (by decide) ?_
  refine e_rQ (p := 1650) (u := 0) h (by decide) (by decide) ((h.sub (List.mem_cons_of_mem _ z0m)).2 5) rfl (by decide) (by decide) ?_
  refine e_layout h (fun g31 h => ?_)
  have h := h.z0
  refine e_wR (p := 1661) (u := 0) h (nnin rfl) (by decide) rfl (by decide) (fun g32 h => ?_)
  have h := h.z2
  refine e_nO h (by decide) (by decide) (by decide) (fun g34 h => ?_)
  refine e_rQ (p := 5) (u := 0) h (by decide) (by decide) ((h.sub (List.mem_cons_of_mem _ z0m)).2 2) rfl (by decide) (by decide) ?_
  refine e_rQ (p := 1569) (u := 0) h (by decide) (by decide) ((h.sub (List.mem_cons_of_mem _ z0m)).2 3) rfl (by decide) (by decide) ?_
  refine e_rQ (p := 1631) (u := 0) h (by decide) (by decide) ((h.sub (List.mem_cons_of_mem _ z0m)).2 4) rfl (by decide) (by decide) ?_
  refine e_acts h (fun g38 h => ?_)
  have h := h.z0
  refine e_wR (p := 1789) (u := 0) h (nnin rfl) (by decide) rfl (by decide) (fun g39 h => ?_)
  have h := h.z2
  refine e_nA h (by decide) (by decide) (by decide) (by decide) (fun g41 h => ?_)
  have h := h.close (q := 1837) (fun k => by rw [Vt_of (show lc 1837 = (47, 0) by decide) (by decide)]; rfl)
  have h := h.z0
  refine e_wR (p := 1837) (u := 0) h (nnin rfl) (by decide) rfl (by decide) (fun g42 h => ?_)
  have h := h.z2
  refine e_rQ (p := 5) (u := 0) h (by decide) (by decide) ((h.sub z0m).2 2) rfl (by decide) (by decide) ?_
  have h := h.z0
  have h := h.close (fun k => by rw [Vt_of (show lc 0 = (11, 0) by decide) (by decide)]; rfl)
  refine e_vb h (by decide) (by decide) ?_
  refine ev_bind (c _ f1 f2 f5 f6 hA hB h) (fun g44 h => ev_ok h)
end YZM
