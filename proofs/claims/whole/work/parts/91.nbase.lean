/-! THE STATES ON NUMBERS. The class's: n (kind of cell, which one, slot); the reference's: m (field, place). -/
abbrev NS : Type := Nat → Int → Int → Int
abbrev YS : Type := Nat → Int → Int
def nw (n : NS) (K : Nat) (i s v : Int) : NS := fun K' i' s' => if K' = K ∧ i' = i ∧ s' = s then v else n K' i' s'
def nwA (n : NS) (K : Nat) (i : Int) (f : Int → Int) : NS := fun K' i' s' => if K' = K ∧ i' = i then f s' else n K' i' s'
def yw (m : YS) (f : Nat) (i v : Int) : YS := fun f' i' => if f' = f ∧ i' = i then v else m f' i'
/-- a copy between rows -/
def cpf (f g : Int → Int) (sp dp c : Int) : Int → Int := fun k => if dp ≤ k ∧ k < dp + c then f (sp + (k - dp)) else g k
/-! where the cells of the class lie -/
def aNd (i : Int) : Nat := if i = 120 then 1636 else 9 + 13 * i.toNat
def aBx (i : Int) : Nat := if i = 120 then 1666 else 1669 + i.toNat
def aBy (b : Int) : Nat := if b < 605 then (if b % 5 = 0 then aNd (b / 5) + 1 else aNd (b / 5) + 3 + 2 * (b % 5).toNat) else if b = 605 then 1 else if b = 606 then 3 else if b = 607 then 1580 else if b = 608 then 1664 else if b = 609 then 1792 else if b = 610 then 1795 else if b = 631 then 1589 else 1797 + 2 * (b - 611).toNat
def aK (K : Nat) : Nat := match K with
  | 0 => 1789
  | 5 => 1661
  | 6 => 1569
  | 8 => 1631
  | 9 => 1650
  | 10 => 5
  | 11 => 0
  | 20 => 6
  | 21 => 7
  | 22 => 8
  | 23 => 1574
  | 24 => 1575
  | 25 => 1576
  | 26 => 1577
  | 27 => 1588
  | 28 => 1632
  | 29 => 1633
  | 30 => 1634
  | 31 => 1635
  | 32 => 1651
  | 33 => 1652
  | 34 => 1653
  | 35 => 1654
  | 36 => 1655
  | 37 => 1656
  | 38 => 1657
  | 39 => 1658
  | 40 => 1659
  | 41 => 1660
  | 42 => 1662
  | 43 => 1668
  | 44 => 1790
  | 45 => 1791
  | 46 => 1794
  | 47 => 1837
  | _ => 0
def lcN (i : Int) (r q : Nat) : Nat × Int := if r = 0 then (7, i) else if r = 1 then (4, 5 * i) else if r = 3 then (18, i) else if r = 4 then (19, i) else if 5 ≤ r ∧ r % 2 = 1 then (4, 5 * i + 1 + ((r - 5) / 2 : Nat)) else (99, q)
def lcA (q : Nat) : Nat × Int := match q with
  | 0 => (11, 0)
  | 1 => (4, 605)
  | 3 => (4, 606)
  | 5 => (10, 0)
  | 6 => (20, 0)
  | 7 => (21, 0)
  | 8 => (22, 0)
  | _ => (99, q)
def lcB (q : Nat) : Nat × Int := match q with
  | 1569 => (6, 0)
  | 1574 => (23, 0)
  | 1575 => (24, 0)
  | 1576 => (25, 0)
  | 1577 => (26, 0)
  | 1580 => (4, 607)
  | 1588 => (27, 0)
  | 1589 => (4, 631)
  | _ => (99, q)
def lcC (q : Nat) : Nat × Int := match q with
  | 1631 => (8, 0)
  | 1632 => (28, 0)
  | 1633 => (29, 0)
  | 1634 => (30, 0)
  | 1635 => (31, 0)
  | _ => (99, q)
def lcD (q : Nat) : Nat × Int := match q with
  | 1650 => (9, 0)
  | 1651 => (32, 0)
  | 1652 => (33, 0)
  | 1653 => (34, 0)
  | 1654 => (35, 0)
  | 1655 => (36, 0)
  | 1656 => (37, 0)
  | 1657 => (38, 0)
  | 1658 => (39, 0)
  | 1659 => (40, 0)
  | 1660 => (41, 0)
  | 1661 => (5, 0)
  | 1662 => (42, 0)
  | 1664 => (4, 608)
  | 1666 => (3, 120)
  | 1668 => (43, 0)
  | _ => (99, q)
def lcE (q : Nat) : Nat × Int := match q with
  | 1789 => (0, 0)
  | 1790 => (44, 0)
  | 1791 => (45, 0)
  | 1792 => (4, 609)
  | 1794 => (46, 0)
  | 1795 => (4, 610)
  | _ => (99, q)
/-- kind and number of a cell -/
def lc (q : Nat) : Nat × Int :=
  if q < 9 then lcA q else if q < 1569 then lcN ((q - 9) / 13 : Nat) ((q - 9) % 13) q else if q < 1591 then lcB q
  else if q < 1631 then (99, q) else if q < 1636 then lcC q else if q < 1649 then lcN 120 (q - 1636) q else if q < 1669 then lcD q
  else if q < 1789 then (3, (q - 1669 : Nat)) else if q < 1797 then lcE q else if q < 1837 then (if (q - 1797) % 2 = 0 then (4, (611 + (q - 1797) / 2 : Nat)) else (99, q))
  else if q = 1837 then (47, 0) else (99, q)
def al (x : Nat × Int) : Nat := if x.1 = 99 then x.2.toNat else if x.1 = 7 then aNd x.2 else if x.1 = 4 then aBy x.2 else if x.1 = 18 then aNd x.2 + 3 else if x.1 = 19 then aNd x.2 + 4 else if x.1 = 3 then aBx x.2 else aK x.1
/-- the cells of the reference -/
def ar (q : Nat) : Prop := 1838 ≤ q ∧ q < 1953
theorem al_7 (i : Int) : al (7, i) = aNd i := rfl
theorem al_b (i : Int) : al (4, i) = aBy i := rfl
theorem al_18 (i : Int) : al (18, i) = aNd i + 3 := rfl
theorem al_19 (i : Int) : al (19, i) = aNd i + 4 := rfl
theorem al_x (i : Int) : al (3, i) = aBx i := rfl
theorem al_d (i : Int) : al (99, i) = i.toNat := rfl
theorem lcN_al (i : Nat) (r q : Nat) (hi : i < 120) (hr : r < 13) (hq : q = 9 + 13 * i + r) : al (lcN i r q) = q := by
  have h : r = 0 ∨ r = 1 ∨ r = 2 ∨ r = 3 ∨ r = 4 ∨ r = 5 ∨ r = 6 ∨ r = 7 ∨ r = 8 ∨ r = 9 ∨ r = 10 ∨ r = 11 ∨ r = 12 := by omega
  have e : ∀ j : Int, j = i → aNd j = 9 + 13 * i := fun j hj => by unfold aNd; rw [if_neg (by omega)]; omega
  have b0 : ∀ j : Int, j = 5 * i → aBy j = 9 + 13 * i + 1 := fun j hj => by
    unfold aBy
    rw [if_pos (by omega), if_pos (by omega), e _ (by omega)]
  have b1 : ∀ (j : Int) (z : Nat), 1 ≤ z → z ≤ 4 → j = 5 * i + z → aBy j = 9 + 13 * i + 3 + 2 * z := fun j z h1 h2 hj => by
    unfold aBy
    rw [if_pos (by omega), if_neg (by omega), e _ (by omega)]
    omega
  unfold lcN
  rcases h with h | h | h | h | h | h | h | h | h | h | h | h | h <;> rw [h] at hq ⊢
  · rw [if_pos rfl, al_7, e _ rfl]; omega
  · rw [if_neg (by decide), if_pos rfl, al_b, b0 _ rfl]; omega
  · rw [if_neg (by decide), if_neg (by decide), if_neg (by decide), if_neg (by decide), if_neg (by decide), al_d]; omega
  · rw [if_neg (by decide), if_neg (by decide), if_pos rfl, al_18, e _ rfl]; omega
  · rw [if_neg (by decide), if_neg (by decide), if_neg (by decide), if_pos rfl, al_19, e _ rfl]; omega
  · rw [if_neg (by decide), if_neg (by decide), if_neg (by decide), if_neg (by decide), if_pos (by decide), al_b, b1 _ 1 (by decide) (by decide) (by omega)]; omega
  · rw [if_neg (by decide), if_neg (by decide), if_neg (by decide), if_neg (by decide), if_neg (by decide), al_d]; omega
  · rw [if_neg (by decide), if_neg (by decide), if_neg (by decide), if_neg (by decide), if_pos (by decide), al_b, b1 _ 2 (by decide) (by decide) (by omega)]; omega
  · rw [if_neg (by decide), if_neg (by decide), if_neg (by decide), if_neg (by decide), if_neg (by decide), al_d]; omega
  · rw [if_neg (by decide), if_neg (by decide), if_neg (by decide), if_neg (by decide), if_pos (by decide), al_b, b1 _ 3 (by decide) (by decide) (by omega)]; omega
  · rw [if_neg (by decide), if_neg (by decide), if_neg (by decide), if_neg (by decide), if_neg (by decide), al_d]; omega
  · rw [if_neg (by decide), if_neg (by decide), if_neg (by decide), if_neg (by decide), if_pos (by decide), al_b, b1 _ 4 (by decide) (by decide) (by omega)]; omega
  · rw [if_neg (by decide), if_neg (by decide), if_neg (by decide), if_neg (by decide), if_neg (by decide), al_d]; omega
theorem lcN_al2 (r q : Nat) (hr : r < 13) (hq : q = 1636 + r) : al (lcN 120 r q) = q := by
  subst hq
  revert r
  decide
theorem al_lc (q : Nat) : al (lc q) = q := by
  unfold lc
  by_cases h1 : q < 9
  · rw [if_pos h1]; revert q; decide
  rw [if_neg h1]
  by_cases h2 : q < 1569
  · rw [if_pos h2]; exact lcN_al _ _ _ (by omega) (by omega) (by omega)
  rw [if_neg h2]
  have dec (lo hi : Nat) (f : Nat → Nat × Int) (h : ∀ k, k < hi - lo → al (f (lo + k)) = lo + k) (hl : lo ≤ q) (hh : q < hi) : al (f q) = q := by
    have := h (q - lo) (by omega)
    rwa [show lo + (q - lo) = q by omega] at this
  by_cases h3 : q < 1591
  · rw [if_pos h3]; exact dec 1569 1591 lcB (by decide) (by omega) h3
  rw [if_neg h3]
  by_cases h4 : q < 1631
  · rw [if_pos h4]; exact Int.toNat_natCast q
  rw [if_neg h4]
  by_cases h5 : q < 1636
  · rw [if_pos h5]; exact dec 1631 1636 lcC (by decide) (by omega) h5
  rw [if_neg h5]
  by_cases h6 : q < 1649
  · rw [if_pos h6]; exact lcN_al2 _ _ (by omega) (by omega)
  rw [if_neg h6]
  by_cases h7 : q < 1669
  · rw [if_pos h7]; exact dec 1649 1669 lcD (by decide) (by omega) h7
  rw [if_neg h7]
  by_cases h8 : q < 1789
  · rw [if_pos h8, al_x]; unfold aBx; rw [if_neg (by omega)]; omega
  rw [if_neg h8]
  by_cases h9 : q < 1797
  · rw [if_pos h9]; exact dec 1789 1797 lcE (by decide) (by omega) h9
  rw [if_neg h9]
  by_cases h10 : q < 1837
  · rw [if_pos h10]
    by_cases h11 : (q - 1797) % 2 = 0
    · rw [if_pos h11, al_b]; unfold aBy
      rw [if_neg (by omega), if_neg (by omega), if_neg (by omega), if_neg (by omega), if_neg (by omega), if_neg (by omega), if_neg (by omega), if_neg (by omega)]; omega
    · rw [if_neg h11]; exact Int.toNat_natCast q
  rw [if_neg h10]
  by_cases h12 : q = 1837
  · rw [if_pos h12, h12]; rfl
  · rw [if_neg h12]; exact Int.toNat_natCast q
theorem lc_inj {q q' : Nat} (h : lc q = lc q') : q = q' := by rw [← al_lc q, ← al_lc q', h]
theorem lcN_k (i : Int) (r q : Nat) : (lcN i r q).1 ≤ 47 ∨ (lcN i r q) = (99, (q : Int)) := by
  unfold lcN
  repeat' split
  all_goals first | exact .inl (Nat.le_of_ble_eq_true rfl) | exact .inr rfl
theorem lc_k (q : Nat) : (q < 1838 ∧ (lc q).1 ≤ 47) ∨ lc q = (99, (q : Int)) := by
  unfold lc
  by_cases h1 : q < 9
  · rw [if_pos h1]; revert q; decide
  rw [if_neg h1]
  by_cases h2 : q < 1569
  · rw [if_pos h2]; rcases lcN_k ((q - 9) / 13 : Nat) ((q - 9) % 13) q with h | h
    · exact .inl ⟨by omega, h⟩
    · exact .inr h
  rw [if_neg h2]
  have dec (lo hi : Nat) (f : Nat → Nat × Int) (h : ∀ k, k < hi - lo → ((lo + k < 1838 ∧ (f (lo + k)).1 ≤ 47) ∨ f (lo + k) = (99, ((lo + k : Nat) : Int)))) (hl : lo ≤ q) (hh : q < hi) : (q < 1838 ∧ (f q).1 ≤ 47) ∨ f q = (99, (q : Int)) := by
    have := h (q - lo) (by omega)
    rwa [show lo + (q - lo) = q by omega] at this
  by_cases h3 : q < 1591
  · rw [if_pos h3]; exact dec 1569 1591 lcB (by decide) (by omega) h3
  rw [if_neg h3]
  by_cases h4 : q < 1631
  · rw [if_pos h4]; exact .inr rfl
  rw [if_neg h4]
  by_cases h5 : q < 1636
  · rw [if_pos h5]; exact dec 1631 1636 lcC (by decide) (by omega) h5
  rw [if_neg h5]
  by_cases h6 : q < 1649
  · rw [if_pos h6]; rcases lcN_k 120 (q - 1636) q with h | h
    · exact .inl ⟨by omega, h⟩
    · exact .inr h
  rw [if_neg h6]
  by_cases h7 : q < 1669
  · rw [if_pos h7]; exact dec 1649 1669 lcD (by decide) (by omega) h7
  rw [if_neg h7]
  by_cases h8 : q < 1789
  · rw [if_pos h8]; exact .inl ⟨by omega, by show 3 ≤ 47; decide⟩
  rw [if_neg h8]
  by_cases h9 : q < 1797
  · rw [if_pos h9]; exact dec 1789 1797 lcE (by decide) (by omega) h9
  rw [if_neg h9]
  by_cases h10 : q < 1837
  · rw [if_pos h10]
    by_cases h11 : (q - 1797) % 2 = 0
    · rw [if_pos h11]; exact .inl ⟨by omega, by show 4 ≤ 47; decide⟩
    · rw [if_neg h11]; exact .inr rfl
  rw [if_neg h10]
  by_cases h12 : q = 1837
  · rw [if_pos h12]; exact .inl ⟨by omega, by show 47 ≤ 47; decide⟩
  · rw [if_neg h12]; exact .inr rfl
theorem lc_no (q : Nat) : (lc q).1 ≠ 90 ∧ (lc q).1 ≠ 91 ∧ (lc q).1 ≠ 92 ∧ (lc q).1 ≠ 93 := by
  rcases lc_k q with h | h
  · have := h.2; omega
  · rw [h]; exact ⟨by omega, by omega, by omega, by omega⟩
theorem lc_hi {q : Nat} (h : 1838 ≤ q) : lc q = (99, (q : Int)) := by
  rcases lc_k q with h' | h'
  · omega
  · exact h'

/-! what a slot holds: 0 an int, 1 a long, 2 a reference -/
def skT (c k : Nat) : Nat := (([[2, 2, 2, 2, 2, 0, 1, 0, 0, 0, 0, 2, 0, 1, 2, 0, 0, 0, 0, 2], [2, 1, 0, 0, 0, 0, 0, 0], [2, 0, 1, 1, 2, 0, 2, 0], [0, 0, 0, 0, 0, 0, 0, 0, 0, 0, 0, 0, 0, 0, 0, 0, 0, 0, 0, 0], [0, 2, 0], [2, 2, 2, 0, 0, 2, 0, 2, 2, 2, 0, 0, 0, 0, 0, 0, 2, 0, 0, 0], [2, 2, 0, 2, 0, 2, 0, 2, 0, 0, 2, 2, 0, 2, 2, 2, 0, 2, 0, 0], [0, 1, 0, 0, 0, 0, 0, 0, 0, 0, 1, 2, 0, 2, 2, 0, 0], [2, 2, 2, 0, 2, 2, 0, 2, 2, 0, 0, 0], [2, 2, 2, 2, 2, 2, 2, 2, 2, 2, 2, 1, 1, 0, 0], [2, 2, 2, 0, 0, 0, 0, 1], [2, 2, 2, 2, 2, 2, 2, 2, 2, 0], [2, 0, 2, 0, 2, 0, 2, 2, 2, 2, 2, 2, 0, 0, 0, 0, 0, 2, 2, 2, 2, 2, 2, 2, 2, 0, 0, 0, 2, 2, 0, 2, 2, 2, 2, 0, 2, 0, 0, 0, 0, 0, 0, 2, 0, 2, 2, 2, 2, 2, 2, 2, 2, 2, 2, 2, 2, 2, 2, 2, 2, 2, 2, 2, 2, 2, 2, 2, 0, 0, 0, 2, 2, 2, 0, 2, 0, 0, 2, 0, 0, 2, 2, 2, 2, 0, 2, 2, 2, 0, 2, 2, 2, 2, 2, 2, 2, 2, 2, 2, 0, 2, 2, 2, 0, 2, 0, 2, 2, 2, 2, 2, 2, 2, 2, 2, 2, 0, 2, 2, 2, 2, 2, 2, 2, 0, 0, 0, 0, 0, 0, 0, 0, 0, 2, 2, 0, 2, 2, 2, 2, 2, 2, 0, 0, 0, 0, 0, 0, 0, 0, 0, 0, 0, 0, 0, 0, 0, 0, 2, 0, 0, 0, 0, 0, 0, 0, 0, 2, 2, 2, 2, 2, 2, 0, 2, 2, 2, 2, 2, 2, 0, 2, 0, 2, 0]] : List (List Nat)).getD c []).getD k 0
def zsT (c k : Nat) : Nat := (([[0, 0, 0, 0, 0, 0, 0, 0, 0, 0, 0, 0, 0, 0, 0, 0, 0, 0, 0, 0], [0, 0, 0, 0, 0, 0, 0, 0], [0, 0, 0, 0, 0, 1, 0, 0], [0, 0, 0, 0, 0, 0, 0, 0, 0, 0, 0, 0, 0, 0, 0, 0, 1, 1, 0, 0], [0, 0, 0], [0, 0, 0, 0, 0, 0, 0, 0, 0, 0, 0, 0, 0, 0, 0, 1, 0, 0, 0, 0], [0, 0, 0, 0, 0, 0, 0, 0, 0, 0, 0, 0, 0, 0, 0, 0, 0, 0, 0, 0], [0, 0, 0, 0, 0, 0, 0, 0, 0, 0, 0, 0, 0, 0, 0, 1, 1], [0, 0, 0, 0, 0, 0, 0, 0, 0, 0, 0, 0], [0, 0, 0, 0, 0, 0, 0, 0, 0, 0, 0, 0, 0, 0, 0], [0, 0, 0, 0, 0, 0, 0, 0], [0, 0, 0, 0, 0, 0, 0, 0, 0, 0], [0, 0, 0, 0, 0, 0, 0, 0, 0, 0, 0, 0, 0, 0, 1, 0, 0, 0, 0, 0, 0, 0, 0, 0, 0, 0, 0, 0, 0, 0, 0, 0, 0, 0, 0, 0, 0, 0, 0, 0, 0, 0, 0, 0, 0, 0, 0, 0, 0, 0, 0, 0, 0, 0, 0, 0, 0, 0, 0, 0, 0, 0, 0, 0, 0, 0, 0, 0, 0, 0, 0, 0, 0, 0, 0, 0, 0, 0, 0, 0, 0, 0, 0, 0, 0, 0, 0, 0, 0, 0, 0, 0, 0, 0, 0, 0, 0, 0, 0, 0, 0, 0, 0, 0, 0, 0, 0, 0, 0, 0, 0, 0, 0, 0, 0, 0, 0, 0, 0, 0, 0, 0, 0, 0, 0, 0, 1, 0, 0, 0, 0, 0, 0, 0, 0, 0, 0, 0, 0, 0, 0, 0, 0, 0, 1, 0, 0, 0, 0, 0, 0, 0, 1, 1, 1, 0, 0, 0, 0, 0, 0, 0, 0, 1, 0, 0, 0, 0, 0, 0, 0, 0, 0, 0, 0, 0, 0, 0, 0, 0, 0, 0, 0, 0, 0, 0]] : List (List Nat)).getD c []).getD k 0
def sk (t k : Nat) : Nat := if t ≤ 2 then 0 else if t = 3 then 1 else if t ≤ 8 then 2 else skT (t - 100) k
def zs (t k : Nat) : Nat := if t = 2 then 1 else if t < 100 then 0 else zsT (t - 100) k
def rcd (r : Option Nat) : Int := match r with
  | some q => (lc q).2
  | none => -1
def vl (g : g_S) (q k : Nat) : Int := if sk (gt g q) k = 0 then (gi g q k).toInt else if sk (gt g q) k = 1 then (gj g q k).toInt else rcd (gr g q k)
/-- how many slots a cell has -/
def cz1 (t l : Nat) : Nat := if t < 100 then l else ab_cN (t - 100)
def gz (g : g_S) : Nat := ((List.range (gn g)).map (fun q => cz1 (g.2.1 q) (gl g q))).sum
theorem ab_sz_hp (g : g_S) : ab_sz (hp g) = gz g := by
  unfold ab_sz hp gz gn
  rw [List.map_map]
  congr 1
  apply List.map_congr_left
  intro q _
  show ab_esz (gE g q) = _
  unfold gE cz1
  by_cases h : g.2.1 q < 100
  · rw [if_pos h, show Nat.blt (g.2.1 q) 100 = true from Nat.ble_eq_true_of_le h]; rfl
  · rw [if_neg h, show Nat.blt (g.2.1 q) 100 = false from by
      cases hb : Nat.blt (g.2.1 q) 100 with
      | false => rfl
      | true => exact absurd (Nat.le_of_ble_eq_true hb) h]
    show (gF g (g.2.1 q - 100) q).length = _
    exact gF_len

/-! the cells below 1838: their types and lengths -/
def styN (r : Nat) : Nat := match r with
  | 0 => 107
  | 1 => 104
  | 2 => 1
  | 3 => 3
  | 4 => 4
  | 5 => 104
  | 6 => 1
  | 7 => 104
  | 8 => 1
  | 9 => 104
  | 10 => 1
  | 11 => 104
  | 12 => 1
  | _ => 0
def styA (q : Nat) : Nat := match q with
  | 0 => 111
  | 1 => 104
  | 2 => 1
  | 3 => 104
  | 4 => 1
  | 5 => 110
  | 6 => 5
  | 7 => 3
  | 8 => 0
  | _ => 0
def styB (q : Nat) : Nat := match q with
  | 1569 => 106
  | 1570 => 102
  | 1571 => 101
  | 1572 => 1
  | 1573 => 1
  | 1574 => 7
  | 1575 => 7
  | 1576 => 3
  | 1577 => 3
  | 1578 => 101
  | 1579 => 1
  | 1580 => 104
  | 1581 => 1
  | 1582 => 101
  | 1583 => 1
  | 1584 => 101
  | 1585 => 1
  | 1586 => 101
  | 1587 => 1
  | 1588 => 6
  | 1589 => 104
  | 1590 => 1
  | _ => 0
def styC (q : Nat) : Nat := match q with
  | 1631 => 108
  | 1632 => 0
  | 1633 => 0
  | 1634 => 0
  | 1635 => 0
  | _ => 0
def styD (q : Nat) : Nat := match q with
  | 1649 => 1
  | 1650 => 109
  | 1651 => 0
  | 1652 => 0
  | 1653 => 0
  | 1654 => 3
  | 1655 => 0
  | 1656 => 3
  | 1657 => 2
  | 1658 => 0
  | 1659 => 0
  | 1660 => 0
  | 1661 => 105
  | 1662 => 8
  | 1663 => 0
  | 1664 => 104
  | 1665 => 1
  | 1666 => 103
  | 1667 => 0
  | 1668 => 0
  | _ => 0
def styE (q : Nat) : Nat := match q with
  | 1789 => 100
  | 1790 => 3
  | 1791 => 4
  | 1792 => 104
  | 1793 => 1
  | 1794 => 3
  | 1795 => 104
  | 1796 => 1
  | _ => 0
def sty (q : Nat) : Nat :=
  if q < 9 then styA q else if q < 1569 then styN ((q - 9) % 13) else if q < 1591 then styB q else if q < 1631 then (if (q - 1591) % 2 = 0 then 101 else 1) else if q < 1636 then styC q else if q < 1649 then styN (q - 1636) else if q < 1669 then styD q else if q < 1789 then 103 else if q < 1797 then styE q else if q < 1837 then (if (q - 1797) % 2 = 0 then 104 else 1) else 0
def slnN (r : Nat) : Nat := match r with
  | 0 => 0
  | 1 => 0
  | 2 => 16
  | 3 => 4
  | 4 => 4
  | 5 => 0
  | 6 => 16
  | 7 => 0
  | 8 => 16
  | 9 => 0
  | 10 => 16
  | 11 => 0
  | 12 => 16
  | _ => 0
def slnA (q : Nat) : Nat := match q with
  | 0 => 0
  | 1 => 0
  | 2 => 16
  | 3 => 0
  | 4 => 16
  | 5 => 0
  | 6 => 120
  | 7 => 16
  | 8 => 120
  | _ => 0
def slnB (q : Nat) : Nat := match q with
  | 1569 => 0
  | 1570 => 0
  | 1571 => 0
  | 1572 => 160
  | 1573 => 0
  | 1574 => 12
  | 1575 => 8
  | 1576 => 60
  | 1577 => 60
  | 1578 => 0
  | 1579 => 160
  | 1580 => 0
  | 1581 => 16
  | 1582 => 0
  | 1583 => 160
  | 1584 => 0
  | 1585 => 160
  | 1586 => 0
  | 1587 => 160
  | 1588 => 20
  | 1589 => 0
  | 1590 => 16
  | _ => 0
def slnC (q : Nat) : Nat := match q with
  | 1631 => 0
  | 1632 => 40
  | 1633 => 40
  | 1634 => 22
  | 1635 => 22
  | _ => 0
def slnD (q : Nat) : Nat := match q with
  | 1649 => 0
  | 1650 => 0
  | 1651 => 41
  | 1652 => 41
  | 1653 => 41
  | 1654 => 123
  | 1655 => 123
  | 1656 => 492
  | 1657 => 492
  | 1658 => 440
  | 1659 => 11
  | 1660 => 1320
  | 1661 => 0
  | 1662 => 120
  | 1663 => 384
  | 1664 => 0
  | 1665 => 16
  | 1666 => 0
  | 1667 => 64
  | 1668 => 120
  | _ => 0
def slnE (q : Nat) : Nat := match q with
  | 1789 => 0
  | 1790 => 40
  | 1791 => 20
  | 1792 => 0
  | 1793 => 16
  | 1794 => 120
  | 1795 => 0
  | 1796 => 16
  | _ => 0
def sln (q : Nat) : Nat :=
  if q < 9 then slnA q else if q < 1569 then slnN ((q - 9) % 13) else if q < 1591 then slnB q else if q < 1631 then (if (q - 1591) % 2 = 0 then 0 else 160) else if q < 1636 then slnC q else if q < 1649 then slnN (q - 1636) else if q < 1669 then slnD q else if q < 1789 then 0 else if q < 1797 then slnE q else if q < 1837 then (if (q - 1797) % 2 = 0 then 0 else 16) else 120
/-! the fields of the reference: 9 no row; else the row's sort; its length; its place -/
def yT (k : Nat) : Nat := ([1, 9, 1, 9, 1, 9, 1, 0, 0, 1, 0, 0, 9, 9, 9, 9, 9, 1, 0, 0, 1, 0, 0, 2, 2, 9, 9, 9, 0, 0, 9, 1, 0, 0, 0, 9, 1, 9, 9, 9, 9, 9, 9, 1, 9, 2, 0, 1, 0, 0, 0, 0, 0, 0, 0, 0, 0, 1, 0, 1, 0, 1, 0, 2, 1, 0, 2, 0, 9, 9, 9, 0, 0, 0, 9, 1, 9, 9, 1, 9, 9, 1, 0, 1, 0, 9, 0, 1, 1, 9, 0, 0, 1, 0, 0, 0, 1, 0, 0, 0, 9, 1, 0, 0, 9, 0, 9, 0, 2, 0, 0, 0, 0, 0, 0, 0, 0, 9, 0, 0, 0, 0, 0, 0, 0, 9, 9, 9, 9, 9, 9, 9, 9, 9, 0, 0, 9, 0, 0, 0, 0, 0, 0, 9, 9, 9, 9, 9, 9, 9, 9, 9, 9, 9, 9, 9, 9, 9, 9, 1, 9, 9, 9, 9, 9, 9, 9, 9, 0, 0, 0, 0, 0, 1, 9, 1, 0, 0, 0, 0, 0, 9, 1, 9, 0, 9] : List Nat).getD k 9
def yLn (k : Nat) : Nat := ([2000, 0, 2000, 0, 8000, 0, 9900, 66, 66, 2200, 2100, 2100, 0, 0, 0, 0, 0, 30000, 20, 12, 192, 12, 12, 20, 20, 0, 0, 0, 8, 8, 0, 480, 20, 20, 20, 0, 400, 0, 0, 0, 0, 0, 0, 16, 0, 120, 120, 960, 120, 120, 120, 120, 120, 120, 120, 120, 120, 3840, 480, 28800, 480, 48000, 120, 120, 2880, 120, 120, 120, 0, 0, 0, 40, 40, 22, 0, 2000, 0, 0, 8, 0, 0, 32, 4, 240, 4, 0, 2000, 8, 60, 0, 41, 123, 984, 123, 492, 492, 3936, 41, 451, 451, 0, 400, 11, 11, 0, 1320, 0, 120, 120, 120, 120, 120, 120, 120, 120, 120, 120, 0, 24000, 24000, 24000, 24000, 24000, 24000, 120, 0, 0, 0, 0, 0, 0, 0, 0, 0, 24000, 24000, 0, 120, 120, 120, 120, 120, 120, 0, 0, 0, 0, 0, 0, 0, 0, 0, 0, 0, 0, 0, 0, 0, 0, 2000, 0, 0, 0, 0, 0, 0, 0, 0, 20, 20, 20, 20, 20, 1200, 0, 480, 20, 20, 20, 120, 120, 0, 4000, 0, 120, 0] : List Nat).getD k 0
def yAd (k : Nat) : Nat := ([1839, 0, 1840, 0, 1841, 0, 1842, 1843, 1844, 1845, 1846, 1847, 0, 0, 0, 0, 0, 1848, 1849, 1850, 1851, 1852, 1853, 1854, 1855, 0, 0, 0, 1856, 1857, 0, 1858, 1859, 1860, 1861, 0, 1862, 0, 0, 0, 0, 0, 0, 1863, 0, 1864, 1865, 1866, 1867, 1868, 1869, 1870, 1871, 1872, 1873, 1874, 1875, 1876, 1877, 1878, 1879, 1880, 1881, 1882, 1883, 1884, 1885, 1886, 0, 0, 0, 1887, 1888, 1889, 0, 1890, 0, 0, 1891, 0, 0, 1892, 1893, 1894, 1895, 0, 1896, 1897, 1898, 0, 1899, 1900, 1901, 1902, 1903, 1904, 1905, 1906, 1907, 1908, 0, 1909, 1910, 1911, 0, 1912, 0, 1913, 1914, 1915, 1916, 1917, 1918, 1919, 1920, 1921, 1922, 0, 1923, 1924, 1925, 1926, 1927, 1928, 1929, 0, 0, 0, 0, 0, 0, 0, 0, 0, 1930, 1931, 0, 1932, 1933, 1934, 1935, 1936, 1937, 0, 0, 0, 0, 0, 0, 0, 0, 0, 0, 0, 0, 0, 0, 0, 0, 1938, 0, 0, 0, 0, 0, 0, 0, 0, 1939, 1940, 1941, 1942, 1943, 1944, 0, 1945, 1946, 1947, 1948, 1949, 1950, 0, 1951, 0, 1952, 0] : List Nat).getD k 0
def yZz (k : Nat) : Nat := ([0, 0, 0, 0, 0, 0, 0, 0, 0, 0, 0, 0, 0, 0, 1, 0, 0, 0, 0, 0, 0, 0, 0, 0, 0, 0, 0, 0, 0, 0, 0, 0, 0, 0, 0, 0, 0, 0, 0, 0, 0, 0, 0, 0, 0, 0, 0, 0, 0, 0, 0, 0, 0, 0, 0, 0, 0, 0, 0, 0, 0, 0, 0, 0, 0, 0, 0, 0, 0, 0, 0, 0, 0, 0, 0, 0, 0, 0, 0, 0, 0, 0, 0, 0, 0, 0, 0, 0, 0, 0, 0, 0, 0, 0, 0, 0, 0, 0, 0, 0, 0, 0, 0, 0, 0, 0, 0, 0, 0, 0, 0, 0, 0, 0, 0, 0, 0, 0, 0, 0, 0, 0, 0, 0, 0, 0, 1, 0, 0, 0, 0, 0, 0, 0, 0, 0, 0, 0, 0, 0, 0, 0, 0, 0, 1, 0, 0, 0, 0, 0, 0, 0, 1, 1, 1, 0, 0, 0, 0, 0, 0, 0, 0, 1, 0, 0, 0, 0, 0, 0, 0, 0, 0, 0, 0, 0, 0, 0, 0, 0, 0, 0, 0, 0, 0, 0] : List Nat).getD k 0
def rkT (c k : Nat) : Nat := (([[10, 6, 8, 44, 45, 99, 99, 99, 99, 99, 99, 4, 99, 99, 46, 99, 99, 99, 99, 4], [99, 99, 99, 99, 99, 99, 99, 99], [99, 99, 99, 99, 99, 99, 99, 99], [99, 99, 99, 99, 99, 99, 99, 99, 99, 99, 99, 99, 99, 99, 99, 99, 99, 99, 99, 99], [99, 99, 99], [10, 9, 42, 99, 99, 99, 99, 4, 3, 99, 99, 99, 99, 99, 99, 99, 43, 99, 99, 99], [99, 23, 99, 24, 99, 25, 99, 26, 99, 99, 99, 4, 99, 99, 99, 99, 99, 27, 99, 99], [99, 99, 99, 99, 99, 99, 99, 99, 99, 99, 99, 4, 99, 18, 19, 99, 99], [10, 28, 29, 99, 30, 31, 99, 7, 99, 99, 99, 99], [10, 32, 33, 34, 35, 36, 37, 38, 39, 40, 41, 99, 99, 99, 99], [20, 21, 22, 99, 99, 99, 99, 99], [4, 4, 10, 6, 8, 9, 5, 0, 47, 99], [99, 99, 99, 99, 99, 99, 99, 99, 99, 99, 99, 99, 99, 99, 99, 99, 99, 99, 99, 99, 99, 99, 99, 99, 99, 99, 99, 99, 99, 99, 99, 99, 99, 99, 99, 99, 99, 99, 99, 99, 99, 99, 99, 99, 99, 99, 99, 99, 99, 99, 99, 99, 99, 99, 99, 99, 99, 99, 99, 99, 99, 99, 99, 99, 99, 99, 99, 99, 99, 99, 99, 99, 99, 99, 99, 99, 99, 99, 99, 99, 99, 99, 99, 99, 99, 99, 99, 99, 99, 99, 99, 99, 99, 99, 99, 99, 99, 99, 99, 99, 99, 99, 99, 99, 99, 99, 99, 99, 99, 99, 99, 99, 99, 99, 99, 99, 99, 99, 99, 99, 99, 99, 99, 99, 99, 99, 99, 99, 99, 99, 99, 99, 99, 99, 99, 99, 99, 99, 99, 99, 99, 99, 99, 99, 99, 99, 99, 99, 99, 99, 99, 99, 99, 99, 99, 99, 99, 99, 99, 99, 99, 99, 99, 99, 99, 99, 99, 99, 99, 99, 99, 99, 99, 99, 99, 99, 99, 99, 99, 99, 99, 99, 99, 99, 99, 99]] : List (List Nat)).getD c []).getD k 99
/-- kinds of what a slot refers to -/
def rk (t k : Nat) : Nat := if t = 4 then 4 else if t = 5 then 7 else if t = 8 then 3 else if t < 100 then 99 else rkT (t - 100) k
/-- the references of singletons that stay -/
def srT (K k : Nat) : Option Nat := match K, k with
  | 0, 0 => some 5
  | 0, 1 => some 1569
  | 0, 2 => some 1631
  | 0, 3 => some 1790
  | 0, 4 => some 1791
  | 0, 11 => some 1792
  | 0, 14 => some 1794
  | 0, 19 => some 1795
  | 5, 0 => some 5
  | 5, 1 => some 1650
  | 5, 2 => some 1662
  | 5, 7 => some 1664
  | 5, 16 => some 1668
  | 6, 0 => some 1570
  | 6, 1 => some 1574
  | 6, 3 => some 1575
  | 6, 5 => some 1576
  | 6, 7 => some 1577
  | 6, 10 => some 1578
  | 6, 11 => some 1580
  | 6, 13 => some 1582
  | 6, 14 => some 1584
  | 6, 15 => some 1586
  | 6, 17 => some 1588
  | 8, 0 => some 5
  | 8, 1 => some 1632
  | 8, 2 => some 1633
  | 8, 4 => some 1634
  | 8, 5 => some 1635
  | 8, 7 => some 1636
  | 9, 0 => some 5
  | 9, 1 => some 1651
  | 9, 2 => some 1652
  | 9, 3 => some 1653
  | 9, 4 => some 1654
  | 9, 5 => some 1655
  | 9, 6 => some 1656
  | 9, 7 => some 1657
  | 9, 8 => some 1658
  | 9, 9 => some 1659
  | 9, 10 => some 1660
  | 10, 0 => some 6
  | 10, 1 => some 7
  | 10, 2 => some 8
  | 11, 0 => some 1
  | 11, 1 => some 3
  | 11, 2 => some 5
  | 11, 3 => some 1569
  | 11, 4 => some 1631
  | 11, 5 => some 1650
  | 11, 6 => some 1661
  | 11, 7 => some 1789
  | 11, 8 => some 1837
  | _, _ => none
def srf (K : Nat) (i : Int) (k : Nat) : Option Nat := if K = 7 then (if k = 11 then some (aBy (5 * i)) else if k = 13 then some (aNd i + 3) else if k = 14 then some (aNd i + 4) else none) else if K = 19 then (if k < 4 then some (aBy (5 * i + 1 + k)) else none) else if K = 20 then (if k < 120 then some (aNd k) else none) else if K = 42 then (if k < 120 then some (aBx k) else none) else srT K k
/-- the class is made: its cells and the references that stay -/
def SH (g : g_S) : Prop := (∀ q, q < 1838 → gt g q = sty q ∧ gl g q = sln q) ∧ (∀ q, q < 1838 → ∀ k a, srf (lc q).1 (lc q).2 k = some a → gr g q k = some a)
/-- the reference is made -/
def SY (g : g_S) (m : YS) : Prop := gt g 1838 = 112 ∧ (∀ k, k < 186 → yT k = 9 → m k 0 = (gi g 1838 k).toInt) ∧ (∀ k, k < 186 → yT k ≠ 9 → gr g 1838 k = some (yAd k) ∧ gt g (yAd k) = yT k ∧ gl g (yAd k) = yLn k ∧ ∀ i : Nat, m k i = (gi g (yAd k) i).toInt)
def RC (w y : Prop) (g : g_S) (n : NS) (m : YS) : Prop :=
  (n 90 0 0 = (gn g : Int) ∧ n 91 0 0 = (gz g : Int))
  ∧ (∀ q k : Nat, ¬ ar q → n (lc q).1 (lc q).2 (k : Int) = vl g q k)
  ∧ (∀ q : Nat, (¬ ar q → n 92 0 q = (gt g q : Int) ∧ n 93 0 q = (gl g q : Int)) ∧ (ar q → n 92 0 q = 98))
  ∧ ((∀ q k, gt g q = 1 → inB (gi g q k).toInt) ∧ (∀ q k, zs (gt g q) k = 1 → inZ (gi g q k).toInt) ∧ (∀ q k q', ¬ ar q → sk (gt g q) k = 2 → gr g q k = some q' → (lc q').1 = rk (gt g q) k))
  ∧ (w → SH g)
  ∧ (y → SY g m)
