/-! single cells and fields -/
section S7
variable {w y : Prop} {g : g_S} {n : NS} {m : YS}
theorem sK0 (h : RC w y g n m) (hw : w) : Ce g 1789 100 0 0 := ce_st h hw (by decide) (by decide) (by decide)
theorem sK5 (h : RC w y g n m) (hw : w) : Ce g 1661 105 5 0 := ce_st h hw (by decide) (by decide) (by decide)
theorem sK6 (h : RC w y g n m) (hw : w) : Ce g 1569 106 6 0 := ce_st h hw (by decide) (by decide) (by decide)
theorem sK8 (h : RC w y g n m) (hw : w) : Ce g 1631 108 8 0 := ce_st h hw (by decide) (by decide) (by decide)
theorem sK9 (h : RC w y g n m) (hw : w) : Ce g 1650 109 9 0 := ce_st h hw (by decide) (by decide) (by decide)
theorem sK10 (h : RC w y g n m) (hw : w) : Ce g 5 110 10 0 := ce_st h hw (by decide) (by decide) (by decide)
theorem sK11 (h : RC w y g n m) (hw : w) : Ce g 0 111 11 0 := ce_st h hw (by decide) (by decide) (by decide)
theorem sA20 (h : RC w y g n m) (hw : w) : Ce g 6 5 20 0 := ce_st h hw (by decide) (by decide) (by decide)
theorem lA20 (h : RC w y g n m) (hw : w) : gl g 6 = 120 := h.sl hw (by decide) (by decide)
theorem sA21 (h : RC w y g n m) (hw : w) : Ce g 7 3 21 0 := ce_st h hw (by decide) (by decide) (by decide)
theorem lA21 (h : RC w y g n m) (hw : w) : gl g 7 = 16 := h.sl hw (by decide) (by decide)
theorem sA22 (h : RC w y g n m) (hw : w) : Ce g 8 0 22 0 := ce_st h hw (by decide) (by decide) (by decide)
theorem lA22 (h : RC w y g n m) (hw : w) : gl g 8 = 120 := h.sl hw (by decide) (by decide)
theorem sA23 (h : RC w y g n m) (hw : w) : Ce g 1574 7 23 0 := ce_st h hw (by decide) (by decide) (by decide)
theorem lA23 (h : RC w y g n m) (hw : w) : gl g 1574 = 12 := h.sl hw (by decide) (by decide)
theorem sA24 (h : RC w y g n m) (hw : w) : Ce g 1575 7 24 0 := ce_st h hw (by decide) (by decide) (by decide)
theorem lA24 (h : RC w y g n m) (hw : w) : gl g 1575 = 8 := h.sl hw (by decide) (by decide)
theorem sA25 (h : RC w y g n m) (hw : w) : Ce g 1576 3 25 0 := ce_st h hw (by decide) (by decide) (by decide)
theorem lA25 (h : RC w y g n m) (hw : w) : gl g 1576 = 60 := h.sl hw (by decide) (by decide)
theorem sA26 (h : RC w y g n m) (hw : w) : Ce g 1577 3 26 0 := ce_st h hw (by decide) (by decide) (by decide)
theorem lA26 (h : RC w y g n m) (hw : w) : gl g 1577 = 60 := h.sl hw (by decide) (by decide)
theorem sA27 (h : RC w y g n m) (hw : w) : Ce g 1588 6 27 0 := ce_st h hw (by decide) (by decide) (by decide)
theorem lA27 (h : RC w y g n m) (hw : w) : gl g 1588 = 20 := h.sl hw (by decide) (by decide)
theorem sA28 (h : RC w y g n m) (hw : w) : Ce g 1632 0 28 0 := ce_st h hw (by decide) (by decide) (by decide)
theorem lA28 (h : RC w y g n m) (hw : w) : gl g 1632 = 40 := h.sl hw (by decide) (by decide)
theorem sA29 (h : RC w y g n m) (hw : w) : Ce g 1633 0 29 0 := ce_st h hw (by decide) (by decide) (by decide)
theorem lA29 (h : RC w y g n m) (hw : w) : gl g 1633 = 40 := h.sl hw (by decide) (by decide)
theorem sA30 (h : RC w y g n m) (hw : w) : Ce g 1634 0 30 0 := ce_st h hw (by decide) (by decide) (by decide)
theorem lA30 (h : RC w y g n m) (hw : w) : gl g 1634 = 22 := h.sl hw (by decide) (by decide)
theorem sA31 (h : RC w y g n m) (hw : w) : Ce g 1635 0 31 0 := ce_st h hw (by decide) (by decide) (by decide)
theorem lA31 (h : RC w y g n m) (hw : w) : gl g 1635 = 22 := h.sl hw (by decide) (by decide)
theorem sA32 (h : RC w y g n m) (hw : w) : Ce g 1651 0 32 0 := ce_st h hw (by decide) (by decide) (by decide)
theorem lA32 (h : RC w y g n m) (hw : w) : gl g 1651 = 41 := h.sl hw (by decide) (by decide)
theorem sA33 (h : RC w y g n m) (hw : w) : Ce g 1652 0 33 0 := ce_st h hw (by decide) (by decide) (by decide)
theorem lA33 (h : RC w y g n m) (hw : w) : gl g 1652 = 41 := h.sl hw (by decide) (by decide)
theorem sA34 (h : RC w y g n m) (hw : w) : Ce g 1653 0 34 0 := ce_st h hw (by decide) (by decide) (by decide)
theorem lA34 (h : RC w y g n m) (hw : w) : gl g 1653 = 41 := h.sl hw (by decide) (by decide)
theorem sA35 (h : RC w y g n m) (hw : w) : Ce g 1654 3 35 0 := ce_st h hw (by decide) (by decide) (by decide)
theorem lA35 (h : RC w y g n m) (hw : w) : gl g 1654 = 123 := h.sl hw (by decide) (by decide)
theorem sA36 (h : RC w y g n m) (hw : w) : Ce g 1655 0 36 0 := ce_st h hw (by decide) (by decide) (by decide)
theorem lA36 (h : RC w y g n m) (hw : w) : gl g 1655 = 123 := h.sl hw (by decide) (by decide)
theorem sA37 (h : RC w y g n m) (hw : w) : Ce g 1656 3 37 0 := ce_st h hw (by decide) (by decide) (by decide)
theorem lA37 (h : RC w y g n m) (hw : w) : gl g 1656 = 492 := h.sl hw (by decide) (by decide)
theorem sA38 (h : RC w y g n m) (hw : w) : Ce g 1657 2 38 0 := ce_st h hw (by decide) (by decide) (by decide)
theorem lA38 (h : RC w y g n m) (hw : w) : gl g 1657 = 492 := h.sl hw (by decide) (by decide)
theorem sA39 (h : RC w y g n m) (hw : w) : Ce g 1658 0 39 0 := ce_st h hw (by decide) (by decide) (by decide)
theorem lA39 (h : RC w y g n m) (hw : w) : gl g 1658 = 440 := h.sl hw (by decide) (by decide)
theorem sA40 (h : RC w y g n m) (hw : w) : Ce g 1659 0 40 0 := ce_st h hw (by decide) (by decide) (by decide)
theorem lA40 (h : RC w y g n m) (hw : w) : gl g 1659 = 11 := h.sl hw (by decide) (by decide)
theorem sA41 (h : RC w y g n m) (hw : w) : Ce g 1660 0 41 0 := ce_st h hw (by decide) (by decide) (by decide)
theorem lA41 (h : RC w y g n m) (hw : w) : gl g 1660 = 1320 := h.sl hw (by decide) (by decide)
theorem sA42 (h : RC w y g n m) (hw : w) : Ce g 1662 8 42 0 := ce_st h hw (by decide) (by decide) (by decide)
theorem lA42 (h : RC w y g n m) (hw : w) : gl g 1662 = 120 := h.sl hw (by decide) (by decide)
theorem sA43 (h : RC w y g n m) (hw : w) : Ce g 1668 0 43 0 := ce_st h hw (by decide) (by decide) (by decide)
theorem lA43 (h : RC w y g n m) (hw : w) : gl g 1668 = 120 := h.sl hw (by decide) (by decide)
theorem sA44 (h : RC w y g n m) (hw : w) : Ce g 1790 3 44 0 := ce_st h hw (by decide) (by decide) (by decide)
theorem lA44 (h : RC w y g n m) (hw : w) : gl g 1790 = 40 := h.sl hw (by decide) (by decide)
theorem sA45 (h : RC w y g n m) (hw : w) : Ce g 1791 4 45 0 := ce_st h hw (by decide) (by decide) (by decide)
theorem lA45 (h : RC w y g n m) (hw : w) : gl g 1791 = 20 := h.sl hw (by decide) (by decide)
theorem sA46 (h : RC w y g n m) (hw : w) : Ce g 1794 3 46 0 := ce_st h hw (by decide) (by decide) (by decide)
theorem lA46 (h : RC w y g n m) (hw : w) : gl g 1794 = 120 := h.sl hw (by decide) (by decide)
theorem sA47 (h : RC w y g n m) (hw : w) : Ce g 1837 0 47 0 := ce_st h hw (by decide) (by decide) (by decide)
theorem lA47 (h : RC w y g n m) (hw : w) : gl g 1837 = 120 := h.sl hw (by decide) (by decide)
end S7
theorem dS1570 : (0 : Int) ≤ 1570 ∧ lc (1570 : Int).toNat = (99, 1570) := ⟨by decide, by decide⟩
theorem dS1578 : (0 : Int) ≤ 1578 ∧ lc (1578 : Int).toNat = (99, 1578) := ⟨by decide, by decide⟩
theorem dS1582 : (0 : Int) ≤ 1582 ∧ lc (1582 : Int).toNat = (99, 1582) := ⟨by decide, by decide⟩
theorem dS1584 : (0 : Int) ≤ 1584 ∧ lc (1584 : Int).toNat = (99, 1584) := ⟨by decide, by decide⟩
theorem dS1586 : (0 : Int) ≤ 1586 ∧ lc (1586 : Int).toNat = (99, 1586) := ⟨by decide, by decide⟩
theorem bS605 : aBy 605 = 1 := by decide
theorem bS606 : aBy 606 = 3 := by decide
theorem bS607 : aBy 607 = 1580 := by decide
theorem bS608 : aBy 608 = 1664 := by decide
theorem bS609 : aBy 609 = 1792 := by decide
theorem bS610 : aBy 610 = 1795 := by decide
theorem bS631 : aBy 631 = 1589 := by decide
theorem nS120 : aNd 120 = 1636 := by decide
theorem ya0 : 0 < 186 ∧ yT 0 = 1 := ⟨by decide, by decide⟩
theorem yl0 : (2000 : Int) = ((yLn 0 : Nat) : Int) := by decide
theorem yk1 : 1 < 186 := by decide
theorem yt1 : yT 1 = 9 := by decide
theorem yz1 : zs 112 1 = 0 := by decide
theorem ya2 : 2 < 186 ∧ yT 2 = 1 := ⟨by decide, by decide⟩
theorem yl2 : (2000 : Int) = ((yLn 2 : Nat) : Int) := by decide
theorem yk3 : 3 < 186 := by decide
theorem yt3 : yT 3 = 9 := by decide
theorem yz3 : zs 112 3 = 0 := by decide
theorem ya4 : 4 < 186 ∧ yT 4 = 1 := ⟨by decide, by decide⟩
theorem yl4 : (8000 : Int) = ((yLn 4 : Nat) : Int) := by decide
theorem yk5 : 5 < 186 := by decide
theorem yt5 : yT 5 = 9 := by decide
theorem yz5 : zs 112 5 = 0 := by decide
theorem ya6 : 6 < 186 ∧ yT 6 = 1 := ⟨by decide, by decide⟩
theorem yl6 : (9900 : Int) = ((yLn 6 : Nat) : Int) := by decide
theorem ya7 : 7 < 186 ∧ yT 7 = 0 := ⟨by decide, by decide⟩
theorem yl7 : (66 : Int) = ((yLn 7 : Nat) : Int) := by decide
theorem ya8 : 8 < 186 ∧ yT 8 = 0 := ⟨by decide, by decide⟩
theorem yl8 : (66 : Int) = ((yLn 8 : Nat) : Int) := by decide
theorem ya9 : 9 < 186 ∧ yT 9 = 1 := ⟨by decide, by decide⟩
theorem yl9 : (2200 : Int) = ((yLn 9 : Nat) : Int) := by decide
theorem ya10 : 10 < 186 ∧ yT 10 = 0 := ⟨by decide, by decide⟩
theorem yl10 : (2100 : Int) = ((yLn 10 : Nat) : Int) := by decide
theorem ya11 : 11 < 186 ∧ yT 11 = 0 := ⟨by decide, by decide⟩
theorem yl11 : (2100 : Int) = ((yLn 11 : Nat) : Int) := by decide
theorem yk12 : 12 < 186 := by decide
theorem yt12 : yT 12 = 9 := by decide
theorem yz12 : zs 112 12 = 0 := by decide
theorem yk13 : 13 < 186 := by decide
theorem yt13 : yT 13 = 9 := by decide
theorem yz13 : zs 112 13 = 0 := by decide
theorem yk14 : 14 < 186 := by decide
theorem yt14 : yT 14 = 9 := by decide
theorem yz14 : zs 112 14 = 1 := by decide
theorem yk15 : 15 < 186 := by decide
theorem yt15 : yT 15 = 9 := by decide
theorem yz15 : zs 112 15 = 0 := by decide
theorem yk16 : 16 < 186 := by decide
theorem yt16 : yT 16 = 9 := by decide
theorem yz16 : zs 112 16 = 0 := by decide
theorem ya17 : 17 < 186 ∧ yT 17 = 1 := ⟨by decide, by decide⟩
theorem yl17 : (30000 : Int) = ((yLn 17 : Nat) : Int) := by decide
theorem ya18 : 18 < 186 ∧ yT 18 = 0 := ⟨by decide, by decide⟩
theorem yl18 : (20 : Int) = ((yLn 18 : Nat) : Int) := by decide
theorem ya19 : 19 < 186 ∧ yT 19 = 0 := ⟨by decide, by decide⟩
theorem yl19 : (12 : Int) = ((yLn 19 : Nat) : Int) := by decide
theorem ya20 : 20 < 186 ∧ yT 20 = 1 := ⟨by decide, by decide⟩
theorem yl20 : (192 : Int) = ((yLn 20 : Nat) : Int) := by decide
theorem ya21 : 21 < 186 ∧ yT 21 = 0 := ⟨by decide, by decide⟩
theorem yl21 : (12 : Int) = ((yLn 21 : Nat) : Int) := by decide
theorem ya22 : 22 < 186 ∧ yT 22 = 0 := ⟨by decide, by decide⟩
theorem yl22 : (12 : Int) = ((yLn 22 : Nat) : Int) := by decide
theorem ya23 : 23 < 186 ∧ yT 23 = 2 := ⟨by decide, by decide⟩
theorem yl23 : (20 : Int) = ((yLn 23 : Nat) : Int) := by decide
theorem ya24 : 24 < 186 ∧ yT 24 = 2 := ⟨by decide, by decide⟩
theorem yl24 : (20 : Int) = ((yLn 24 : Nat) : Int) := by decide
theorem yk25 : 25 < 186 := by decide
theorem yt25 : yT 25 = 9 := by decide
theorem yz25 : zs 112 25 = 0 := by decide
theorem yk26 : 26 < 186 := by decide
theorem yt26 : yT 26 = 9 := by decide
theorem yz26 : zs 112 26 = 0 := by decide
theorem yk27 : 27 < 186 := by decide
theorem yt27 : yT 27 = 9 := by decide
theorem yz27 : zs 112 27 = 0 := by decide
theorem ya28 : 28 < 186 ∧ yT 28 = 0 := ⟨by decide, by decide⟩
theorem yl28 : (8 : Int) = ((yLn 28 : Nat) : Int) := by decide
theorem ya29 : 29 < 186 ∧ yT 29 = 0 := ⟨by decide, by decide⟩
theorem yl29 : (8 : Int) = ((yLn 29 : Nat) : Int) := by decide
theorem yk30 : 30 < 186 := by decide
theorem yt30 : yT 30 = 9 := by decide
theorem yz30 : zs 112 30 = 0 := by decide
theorem ya31 : 31 < 186 ∧ yT 31 = 1 := ⟨by decide, by decide⟩
theorem yl31 : (480 : Int) = ((yLn 31 : Nat) : Int) := by decide
theorem ya32 : 32 < 186 ∧ yT 32 = 0 := ⟨by decide, by decide⟩
theorem yl32 : (20 : Int) = ((yLn 32 : Nat) : Int) := by decide
theorem ya33 : 33 < 186 ∧ yT 33 = 0 := ⟨by decide, by decide⟩
theorem yl33 : (20 : Int) = ((yLn 33 : Nat) : Int) := by decide
theorem ya34 : 34 < 186 ∧ yT 34 = 0 := ⟨by decide, by decide⟩
theorem yl34 : (20 : Int) = ((yLn 34 : Nat) : Int) := by decide
theorem yk35 : 35 < 186 := by decide
theorem yt35 : yT 35 = 9 := by decide
theorem yz35 : zs 112 35 = 0 := by decide
theorem ya36 : 36 < 186 ∧ yT 36 = 1 := ⟨by decide, by decide⟩
theorem yl36 : (400 : Int) = ((yLn 36 : Nat) : Int) := by decide
theorem yk37 : 37 < 186 := by decide
theorem yt37 : yT 37 = 9 := by decide
theorem yz37 : zs 112 37 = 0 := by decide
theorem yk38 : 38 < 186 := by decide
theorem yt38 : yT 38 = 9 := by decide
theorem yz38 : zs 112 38 = 0 := by decide
theorem yk39 : 39 < 186 := by decide
theorem yt39 : yT 39 = 9 := by decide
theorem yz39 : zs 112 39 = 0 := by decide
theorem yk40 : 40 < 186 := by decide
theorem yt40 : yT 40 = 9 := by decide
theorem yz40 : zs 112 40 = 0 := by decide
theorem yk41 : 41 < 186 := by decide
theorem yt41 : yT 41 = 9 := by decide
theorem yz41 : zs 112 41 = 0 := by decide
theorem yk42 : 42 < 186 := by decide
theorem yt42 : yT 42 = 9 := by decide
theorem yz42 : zs 112 42 = 0 := by decide
theorem ya43 : 43 < 186 ∧ yT 43 = 1 := ⟨by decide, by decide⟩
theorem yl43 : (16 : Int) = ((yLn 43 : Nat) : Int) := by decide
theorem yk44 : 44 < 186 := by decide
theorem yt44 : yT 44 = 9 := by decide
theorem yz44 : zs 112 44 = 0 := by decide
theorem ya45 : 45 < 186 ∧ yT 45 = 2 := ⟨by decide, by decide⟩
theorem yl45 : (120 : Int) = ((yLn 45 : Nat) : Int) := by decide
theorem ya46 : 46 < 186 ∧ yT 46 = 0 := ⟨by decide, by decide⟩
theorem yl46 : (120 : Int) = ((yLn 46 : Nat) : Int) := by decide
theorem ya47 : 47 < 186 ∧ yT 47 = 1 := ⟨by decide, by decide⟩
theorem yl47 : (960 : Int) = ((yLn 47 : Nat) : Int) := by decide
theorem ya48 : 48 < 186 ∧ yT 48 = 0 := ⟨by decide, by decide⟩
theorem yl48 : (120 : Int) = ((yLn 48 : Nat) : Int) := by decide
theorem ya49 : 49 < 186 ∧ yT 49 = 0 := ⟨by decide, by decide⟩
theorem yl49 : (120 : Int) = ((yLn 49 : Nat) : Int) := by decide
theorem ya50 : 50 < 186 ∧ yT 50 = 0 := ⟨by decide, by decide⟩
theorem yl50 : (120 : Int) = ((yLn 50 : Nat) : Int) := by decide
theorem ya51 : 51 < 186 ∧ yT 51 = 0 := ⟨by decide, by decide⟩
theorem yl51 : (120 : Int) = ((yLn 51 : Nat) : Int) := by decide
theorem ya52 : 52 < 186 ∧ yT 52 = 0 := ⟨by decide, by decide⟩
theorem yl52 : (120 : Int) = ((yLn 52 : Nat) : Int) := by decide
theorem ya53 : 53 < 186 ∧ yT 53 = 0 := ⟨by decide, by decide⟩
theorem yl53 : (120 : Int) = ((yLn 53 : Nat) : Int) := by decide
theorem ya54 : 54 < 186 ∧ yT 54 = 0 := ⟨by decide, by decide⟩
theorem yl54 : (120 : Int) = ((yLn 54 : Nat) : Int) := by decide
theorem ya55 : 55 < 186 ∧ yT 55 = 0 := ⟨by decide, by decide⟩
theorem yl55 : (120 : Int) = ((yLn 55 : Nat) : Int) := by decide
theorem ya56 : 56 < 186 ∧ yT 56 = 0 := ⟨by decide, by decide⟩
theorem yl56 : (120 : Int) = ((yLn 56 : Nat) : Int) := by decide
theorem ya57 : 57 < 186 ∧ yT 57 = 1 := ⟨by decide, by decide⟩
theorem yl57 : (3840 : Int) = ((yLn 57 : Nat) : Int) := by decide
theorem ya58 : 58 < 186 ∧ yT 58 = 0 := ⟨by decide, by decide⟩
theorem yl58 : (480 : Int) = ((yLn 58 : Nat) : Int) := by decide
theorem ya59 : 59 < 186 ∧ yT 59 = 1 := ⟨by decide, by decide⟩
theorem yl59 : (28800 : Int) = ((yLn 59 : Nat) : Int) := by decide
theorem ya60 : 60 < 186 ∧ yT 60 = 0 := ⟨by decide, by decide⟩
theorem yl60 : (480 : Int) = ((yLn 60 : Nat) : Int) := by decide
theorem ya61 : 61 < 186 ∧ yT 61 = 1 := ⟨by decide, by decide⟩
theorem yl61 : (48000 : Int) = ((yLn 61 : Nat) : Int) := by decide
theorem ya62 : 62 < 186 ∧ yT 62 = 0 := ⟨by decide, by decide⟩
theorem yl62 : (120 : Int) = ((yLn 62 : Nat) : Int) := by decide
theorem ya63 : 63 < 186 ∧ yT 63 = 2 := ⟨by decide, by decide⟩
theorem yl63 : (120 : Int) = ((yLn 63 : Nat) : Int) := by decide
theorem ya64 : 64 < 186 ∧ yT 64 = 1 := ⟨by decide, by decide⟩
theorem yl64 : (2880 : Int) = ((yLn 64 : Nat) : Int) := by decide
theorem ya65 : 65 < 186 ∧ yT 65 = 0 := ⟨by decide, by decide⟩
theorem yl65 : (120 : Int) = ((yLn 65 : Nat) : Int) := by decide
theorem ya66 : 66 < 186 ∧ yT 66 = 2 := ⟨by decide, by decide⟩
theorem yl66 : (120 : Int) = ((yLn 66 : Nat) : Int) := by decide
theorem ya67 : 67 < 186 ∧ yT 67 = 0 := ⟨by decide, by decide⟩
theorem yl67 : (120 : Int) = ((yLn 67 : Nat) : Int) := by decide
theorem yk68 : 68 < 186 := by decide
theorem yt68 : yT 68 = 9 := by decide
theorem yz68 : zs 112 68 = 0 := by decide
theorem yk69 : 69 < 186 := by decide
theorem yt69 : yT 69 = 9 := by decide
theorem yz69 : zs 112 69 = 0 := by decide
theorem yk70 : 70 < 186 := by decide
theorem yt70 : yT 70 = 9 := by decide
theorem yz70 : zs 112 70 = 0 := by decide
theorem ya71 : 71 < 186 ∧ yT 71 = 0 := ⟨by decide, by decide⟩
theorem yl71 : (40 : Int) = ((yLn 71 : Nat) : Int) := by decide
theorem ya72 : 72 < 186 ∧ yT 72 = 0 := ⟨by decide, by decide⟩
theorem yl72 : (40 : Int) = ((yLn 72 : Nat) : Int) := by decide
theorem ya73 : 73 < 186 ∧ yT 73 = 0 := ⟨by decide, by decide⟩
theorem yl73 : (22 : Int) = ((yLn 73 : Nat) : Int) := by decide
theorem yk74 : 74 < 186 := by decide
theorem yt74 : yT 74 = 9 := by decide
theorem yz74 : zs 112 74 = 0 := by decide
theorem ya75 : 75 < 186 ∧ yT 75 = 1 := ⟨by decide, by decide⟩
theorem yl75 : (2000 : Int) = ((yLn 75 : Nat) : Int) := by decide
theorem yk76 : 76 < 186 := by decide
theorem yt76 : yT 76 = 9 := by decide
theorem yz76 : zs 112 76 = 0 := by decide
theorem yk77 : 77 < 186 := by decide
theorem yt77 : yT 77 = 9 := by decide
theorem yz77 : zs 112 77 = 0 := by decide
theorem ya78 : 78 < 186 ∧ yT 78 = 1 := ⟨by decide, by decide⟩
theorem yl78 : (8 : Int) = ((yLn 78 : Nat) : Int) := by decide
theorem yk79 : 79 < 186 := by decide
theorem yt79 : yT 79 = 9 := by decide
theorem yz79 : zs 112 79 = 0 := by decide
theorem yk80 : 80 < 186 := by decide
theorem yt80 : yT 80 = 9 := by decide
theorem yz80 : zs 112 80 = 0 := by decide
theorem ya81 : 81 < 186 ∧ yT 81 = 1 := ⟨by decide, by decide⟩
theorem yl81 : (32 : Int) = ((yLn 81 : Nat) : Int) := by decide
theorem ya82 : 82 < 186 ∧ yT 82 = 0 := ⟨by decide, by decide⟩
theorem yl82 : (4 : Int) = ((yLn 82 : Nat) : Int) := by decide
theorem ya83 : 83 < 186 ∧ yT 83 = 1 := ⟨by decide, by decide⟩
theorem yl83 : (240 : Int) = ((yLn 83 : Nat) : Int) := by decide
theorem ya84 : 84 < 186 ∧ yT 84 = 0 := ⟨by decide, by decide⟩
theorem yl84 : (4 : Int) = ((yLn 84 : Nat) : Int) := by decide
theorem yk85 : 85 < 186 := by decide
theorem yt85 : yT 85 = 9 := by decide
theorem yz85 : zs 112 85 = 0 := by decide
theorem ya86 : 86 < 186 ∧ yT 86 = 0 := ⟨by decide, by decide⟩
theorem yl86 : (2000 : Int) = ((yLn 86 : Nat) : Int) := by decide
theorem ya87 : 87 < 186 ∧ yT 87 = 1 := ⟨by decide, by decide⟩
theorem yl87 : (8 : Int) = ((yLn 87 : Nat) : Int) := by decide
theorem ya88 : 88 < 186 ∧ yT 88 = 1 := ⟨by decide, by decide⟩
theorem yl88 : (60 : Int) = ((yLn 88 : Nat) : Int) := by decide
theorem yk89 : 89 < 186 := by decide
theorem yt89 : yT 89 = 9 := by decide
theorem yz89 : zs 112 89 = 0 := by decide
theorem ya90 : 90 < 186 ∧ yT 90 = 0 := ⟨by decide, by decide⟩
theorem yl90 : (41 : Int) = ((yLn 90 : Nat) : Int) := by decide
theorem ya91 : 91 < 186 ∧ yT 91 = 0 := ⟨by decide, by decide⟩
theorem yl91 : (123 : Int) = ((yLn 91 : Nat) : Int) := by decide
theorem ya92 : 92 < 186 ∧ yT 92 = 1 := ⟨by decide, by decide⟩
theorem yl92 : (984 : Int) = ((yLn 92 : Nat) : Int) := by decide
theorem ya93 : 93 < 186 ∧ yT 93 = 0 := ⟨by decide, by decide⟩
theorem yl93 : (123 : Int) = ((yLn 93 : Nat) : Int) := by decide
theorem ya94 : 94 < 186 ∧ yT 94 = 0 := ⟨by decide, by decide⟩
theorem yl94 : (492 : Int) = ((yLn 94 : Nat) : Int) := by decide
theorem ya95 : 95 < 186 ∧ yT 95 = 0 := ⟨by decide, by decide⟩
theorem yl95 : (492 : Int) = ((yLn 95 : Nat) : Int) := by decide
theorem ya96 : 96 < 186 ∧ yT 96 = 1 := ⟨by decide, by decide⟩
theorem yl96 : (3936 : Int) = ((yLn 96 : Nat) : Int) := by decide
theorem ya97 : 97 < 186 ∧ yT 97 = 0 := ⟨by decide, by decide⟩
theorem yl97 : (41 : Int) = ((yLn 97 : Nat) : Int) := by decide
theorem ya98 : 98 < 186 ∧ yT 98 = 0 := ⟨by decide, by decide⟩
theorem yl98 : (451 : Int) = ((yLn 98 : Nat) : Int) := by decide
theorem ya99 : 99 < 186 ∧ yT 99 = 0 := ⟨by decide, by decide⟩
theorem yl99 : (451 : Int) = ((yLn 99 : Nat) : Int) := by decide
theorem yk100 : 100 < 186 := by decide
theorem yt100 : yT 100 = 9 := by decide
theorem yz100 : zs 112 100 = 0 := by decide
theorem ya101 : 101 < 186 ∧ yT 101 = 1 := ⟨by decide, by decide⟩
theorem yl101 : (400 : Int) = ((yLn 101 : Nat) : Int) := by decide
theorem ya102 : 102 < 186 ∧ yT 102 = 0 := ⟨by decide, by decide⟩
theorem yl102 : (11 : Int) = ((yLn 102 : Nat) : Int) := by decide
theorem ya103 : 103 < 186 ∧ yT 103 = 0 := ⟨by decide, by decide⟩
theorem yl103 : (11 : Int) = ((yLn 103 : Nat) : Int) := by decide
theorem yk104 : 104 < 186 := by decide
theorem yt104 : yT 104 = 9 := by decide
theorem yz104 : zs 112 104 = 0 := by decide
theorem ya105 : 105 < 186 ∧ yT 105 = 0 := ⟨by decide, by decide⟩
theorem yl105 : (1320 : Int) = ((yLn 105 : Nat) : Int) := by decide
theorem yk106 : 106 < 186 := by decide
theorem yt106 : yT 106 = 9 := by decide
theorem yz106 : zs 112 106 = 0 := by decide
theorem ya107 : 107 < 186 ∧ yT 107 = 0 := ⟨by decide, by decide⟩
theorem yl107 : (120 : Int) = ((yLn 107 : Nat) : Int) := by decide
theorem ya108 : 108 < 186 ∧ yT 108 = 2 := ⟨by decide, by decide⟩
theorem yl108 : (120 : Int) = ((yLn 108 : Nat) : Int) := by decide
theorem ya109 : 109 < 186 ∧ yT 109 = 0 := ⟨by decide, by decide⟩
theorem yl109 : (120 : Int) = ((yLn 109 : Nat) : Int) := by decide
theorem ya110 : 110 < 186 ∧ yT 110 = 0 := ⟨by decide, by decide⟩
theorem yl110 : (120 : Int) = ((yLn 110 : Nat) : Int) := by decide
theorem ya111 : 111 < 186 ∧ yT 111 = 0 := ⟨by decide, by decide⟩
theorem yl111 : (120 : Int) = ((yLn 111 : Nat) : Int) := by decide
theorem ya112 : 112 < 186 ∧ yT 112 = 0 := ⟨by decide, by decide⟩
theorem yl112 : (120 : Int) = ((yLn 112 : Nat) : Int) := by decide
theorem ya113 : 113 < 186 ∧ yT 113 = 0 := ⟨by decide, by decide⟩
theorem yl113 : (120 : Int) = ((yLn 113 : Nat) : Int) := by decide
theorem ya114 : 114 < 186 ∧ yT 114 = 0 := ⟨by decide, by decide⟩
theorem yl114 : (120 : Int) = ((yLn 114 : Nat) : Int) := by decide
theorem ya115 : 115 < 186 ∧ yT 115 = 0 := ⟨by decide, by decide⟩
theorem yl115 : (120 : Int) = ((yLn 115 : Nat) : Int) := by decide
theorem ya116 : 116 < 186 ∧ yT 116 = 0 := ⟨by decide, by decide⟩
theorem yl116 : (120 : Int) = ((yLn 116 : Nat) : Int) := by decide
theorem yk117 : 117 < 186 := by decide
theorem yt117 : yT 117 = 9 := by decide
theorem yz117 : zs 112 117 = 0 := by decide
theorem ya118 : 118 < 186 ∧ yT 118 = 0 := ⟨by decide, by decide⟩
theorem yl118 : (24000 : Int) = ((yLn 118 : Nat) : Int) := by decide
theorem ya119 : 119 < 186 ∧ yT 119 = 0 := ⟨by decide, by decide⟩
theorem yl119 : (24000 : Int) = ((yLn 119 : Nat) : Int) := by decide
theorem ya120 : 120 < 186 ∧ yT 120 = 0 := ⟨by decide, by decide⟩
theorem yl120 : (24000 : Int) = ((yLn 120 : Nat) : Int) := by decide
theorem ya121 : 121 < 186 ∧ yT 121 = 0 := ⟨by decide, by decide⟩
theorem yl121 : (24000 : Int) = ((yLn 121 : Nat) : Int) := by decide
theorem ya122 : 122 < 186 ∧ yT 122 = 0 := ⟨by decide, by decide⟩
theorem yl122 : (24000 : Int) = ((yLn 122 : Nat) : Int) := by decide
theorem ya123 : 123 < 186 ∧ yT 123 = 0 := ⟨by decide, by decide⟩
theorem yl123 : (24000 : Int) = ((yLn 123 : Nat) : Int) := by decide
theorem ya124 : 124 < 186 ∧ yT 124 = 0 := ⟨by decide, by decide⟩
theorem yl124 : (120 : Int) = ((yLn 124 : Nat) : Int) := by decide
theorem yk125 : 125 < 186 := by decide
theorem yt125 : yT 125 = 9 := by decide
theorem yz125 : zs 112 125 = 0 := by decide
theorem yk126 : 126 < 186 := by decide
theorem yt126 : yT 126 = 9 := by decide
theorem yz126 : zs 112 126 = 1 := by decide
theorem yk127 : 127 < 186 := by decide
theorem yt127 : yT 127 = 9 := by decide
theorem yz127 : zs 112 127 = 0 := by decide
theorem yk128 : 128 < 186 := by decide
theorem yt128 : yT 128 = 9 := by decide
theorem yz128 : zs 112 128 = 0 := by decide
theorem yk129 : 129 < 186 := by decide
theorem yt129 : yT 129 = 9 := by decide
theorem yz129 : zs 112 129 = 0 := by decide
theorem yk130 : 130 < 186 := by decide
theorem yt130 : yT 130 = 9 := by decide
theorem yz130 : zs 112 130 = 0 := by decide
theorem yk131 : 131 < 186 := by decide
theorem yt131 : yT 131 = 9 := by decide
theorem yz131 : zs 112 131 = 0 := by decide
theorem yk132 : 132 < 186 := by decide
theorem yt132 : yT 132 = 9 := by decide
theorem yz132 : zs 112 132 = 0 := by decide
theorem yk133 : 133 < 186 := by decide
theorem yt133 : yT 133 = 9 := by decide
theorem yz133 : zs 112 133 = 0 := by decide
theorem ya134 : 134 < 186 ∧ yT 134 = 0 := ⟨by decide, by decide⟩
theorem yl134 : (24000 : Int) = ((yLn 134 : Nat) : Int) := by decide
theorem ya135 : 135 < 186 ∧ yT 135 = 0 := ⟨by decide, by decide⟩
theorem yl135 : (24000 : Int) = ((yLn 135 : Nat) : Int) := by decide
theorem yk136 : 136 < 186 := by decide
theorem yt136 : yT 136 = 9 := by decide
theorem yz136 : zs 112 136 = 0 := by decide
theorem ya137 : 137 < 186 ∧ yT 137 = 0 := ⟨by decide, by decide⟩
theorem yl137 : (120 : Int) = ((yLn 137 : Nat) : Int) := by decide
theorem ya138 : 138 < 186 ∧ yT 138 = 0 := ⟨by decide, by decide⟩
theorem yl138 : (120 : Int) = ((yLn 138 : Nat) : Int) := by decide
theorem ya139 : 139 < 186 ∧ yT 139 = 0 := ⟨by decide, by decide⟩
theorem yl139 : (120 : Int) = ((yLn 139 : Nat) : Int) := by decide
theorem ya140 : 140 < 186 ∧ yT 140 = 0 := ⟨by decide, by decide⟩
theorem yl140 : (120 : Int) = ((yLn 140 : Nat) : Int) := by decide
theorem ya141 : 141 < 186 ∧ yT 141 = 0 := ⟨by decide, by decide⟩
theorem yl141 : (120 : Int) = ((yLn 141 : Nat) : Int) := by decide
theorem ya142 : 142 < 186 ∧ yT 142 = 0 := ⟨by decide, by decide⟩
theorem yl142 : (120 : Int) = ((yLn 142 : Nat) : Int) := by decide
theorem yk143 : 143 < 186 := by decide
theorem yt143 : yT 143 = 9 := by decide
theorem yz143 : zs 112 143 = 0 := by decide
theorem yk144 : 144 < 186 := by decide
theorem yt144 : yT 144 = 9 := by decide
theorem yz144 : zs 112 144 = 1 := by decide
theorem yk145 : 145 < 186 := by decide
theorem yt145 : yT 145 = 9 := by decide
theorem yz145 : zs 112 145 = 0 := by decide
theorem yk146 : 146 < 186 := by decide
theorem yt146 : yT 146 = 9 := by decide
theorem yz146 : zs 112 146 = 0 := by decide
theorem yk147 : 147 < 186 := by decide
theorem yt147 : yT 147 = 9 := by decide
theorem yz147 : zs 112 147 = 0 := by decide
theorem yk148 : 148 < 186 := by decide
theorem yt148 : yT 148 = 9 := by decide
theorem yz148 : zs 112 148 = 0 := by decide
theorem yk149 : 149 < 186 := by decide
theorem yt149 : yT 149 = 9 := by decide
theorem yz149 : zs 112 149 = 0 := by decide
theorem yk150 : 150 < 186 := by decide
theorem yt150 : yT 150 = 9 := by decide
theorem yz150 : zs 112 150 = 0 := by decide
theorem yk151 : 151 < 186 := by decide
theorem yt151 : yT 151 = 9 := by decide
theorem yz151 : zs 112 151 = 0 := by decide
theorem yk152 : 152 < 186 := by decide
theorem yt152 : yT 152 = 9 := by decide
theorem yz152 : zs 112 152 = 1 := by decide
theorem yk153 : 153 < 186 := by decide
theorem yt153 : yT 153 = 9 := by decide
theorem yz153 : zs 112 153 = 1 := by decide
theorem yk154 : 154 < 186 := by decide
theorem yt154 : yT 154 = 9 := by decide
theorem yz154 : zs 112 154 = 1 := by decide
theorem yk155 : 155 < 186 := by decide
theorem yt155 : yT 155 = 9 := by decide
theorem yz155 : zs 112 155 = 0 := by decide
theorem yk156 : 156 < 186 := by decide
theorem yt156 : yT 156 = 9 := by decide
theorem yz156 : zs 112 156 = 0 := by decide
theorem yk157 : 157 < 186 := by decide
theorem yt157 : yT 157 = 9 := by decide
theorem yz157 : zs 112 157 = 0 := by decide
theorem yk158 : 158 < 186 := by decide
theorem yt158 : yT 158 = 9 := by decide
theorem yz158 : zs 112 158 = 0 := by decide
theorem ya159 : 159 < 186 ∧ yT 159 = 1 := ⟨by decide, by decide⟩
theorem yl159 : (2000 : Int) = ((yLn 159 : Nat) : Int) := by decide
theorem yk160 : 160 < 186 := by decide
theorem yt160 : yT 160 = 9 := by decide
theorem yz160 : zs 112 160 = 0 := by decide
theorem yk161 : 161 < 186 := by decide
theorem yt161 : yT 161 = 9 := by decide
theorem yz161 : zs 112 161 = 0 := by decide
theorem yk162 : 162 < 186 := by decide
theorem yt162 : yT 162 = 9 := by decide
theorem yz162 : zs 112 162 = 0 := by decide
theorem yk163 : 163 < 186 := by decide
theorem yt163 : yT 163 = 9 := by decide
theorem yz163 : zs 112 163 = 1 := by decide
theorem yk164 : 164 < 186 := by decide
theorem yt164 : yT 164 = 9 := by decide
theorem yz164 : zs 112 164 = 0 := by decide
theorem yk165 : 165 < 186 := by decide
theorem yt165 : yT 165 = 9 := by decide
theorem yz165 : zs 112 165 = 0 := by decide
theorem yk166 : 166 < 186 := by decide
theorem yt166 : yT 166 = 9 := by decide
theorem yz166 : zs 112 166 = 0 := by decide
theorem yk167 : 167 < 186 := by decide
theorem yt167 : yT 167 = 9 := by decide
theorem yz167 : zs 112 167 = 0 := by decide
theorem ya168 : 168 < 186 ∧ yT 168 = 0 := ⟨by decide, by decide⟩
theorem yl168 : (20 : Int) = ((yLn 168 : Nat) : Int) := by decide
theorem ya169 : 169 < 186 ∧ yT 169 = 0 := ⟨by decide, by decide⟩
theorem yl169 : (20 : Int) = ((yLn 169 : Nat) : Int) := by decide
theorem ya170 : 170 < 186 ∧ yT 170 = 0 := ⟨by decide, by decide⟩
theorem yl170 : (20 : Int) = ((yLn 170 : Nat) : Int) := by decide
theorem ya171 : 171 < 186 ∧ yT 171 = 0 := ⟨by decide, by decide⟩
theorem yl171 : (20 : Int) = ((yLn 171 : Nat) : Int) := by decide
theorem ya172 : 172 < 186 ∧ yT 172 = 0 := ⟨by decide, by decide⟩
theorem yl172 : (20 : Int) = ((yLn 172 : Nat) : Int) := by decide
theorem ya173 : 173 < 186 ∧ yT 173 = 1 := ⟨by decide, by decide⟩
theorem yl173 : (1200 : Int) = ((yLn 173 : Nat) : Int) := by decide
theorem yk174 : 174 < 186 := by decide
theorem yt174 : yT 174 = 9 := by decide
theorem yz174 : zs 112 174 = 0 := by decide
theorem ya175 : 175 < 186 ∧ yT 175 = 1 := ⟨by decide, by decide⟩
theorem yl175 : (480 : Int) = ((yLn 175 : Nat) : Int) := by decide
theorem ya176 : 176 < 186 ∧ yT 176 = 0 := ⟨by decide, by decide⟩
theorem yl176 : (20 : Int) = ((yLn 176 : Nat) : Int) := by decide
theorem ya177 : 177 < 186 ∧ yT 177 = 0 := ⟨by decide, by decide⟩
theorem yl177 : (20 : Int) = ((yLn 177 : Nat) : Int) := by decide
theorem ya178 : 178 < 186 ∧ yT 178 = 0 := ⟨by decide, by decide⟩
theorem yl178 : (20 : Int) = ((yLn 178 : Nat) : Int) := by decide
theorem ya179 : 179 < 186 ∧ yT 179 = 0 := ⟨by decide, by decide⟩
theorem yl179 : (120 : Int) = ((yLn 179 : Nat) : Int) := by decide
theorem ya180 : 180 < 186 ∧ yT 180 = 0 := ⟨by decide, by decide⟩
theorem yl180 : (120 : Int) = ((yLn 180 : Nat) : Int) := by decide
theorem yk181 : 181 < 186 := by decide
theorem yt181 : yT 181 = 9 := by decide
theorem yz181 : zs 112 181 = 0 := by decide
theorem ya182 : 182 < 186 ∧ yT 182 = 1 := ⟨by decide, by decide⟩
theorem yl182 : (4000 : Int) = ((yLn 182 : Nat) : Int) := by decide
theorem yk183 : 183 < 186 := by decide
theorem yt183 : yT 183 = 9 := by decide
theorem yz183 : zs 112 183 = 0 := by decide
theorem ya184 : 184 < 186 ∧ yT 184 = 0 := ⟨by decide, by decide⟩
theorem yl184 : (120 : Int) = ((yLn 184 : Nat) : Int) := by decide
theorem yk185 : 185 < 186 := by decide
theorem yt185 : yT 185 = 9 := by decide
theorem yz185 : zs 112 185 = 0 := by decide
/-! relations of references -/
def RN (x : Nat) (a : Int) : Prop := x = aNd a ∧ (0 ≤ a ∧ a ≤ 120)
def RB (x : Nat) (a : Int) : Prop := x = aBy a ∧ (0 ≤ a ∧ a ≤ 631)
def RX (x : Nat) (a : Int) : Prop := x = aBx a ∧ (0 ≤ a ∧ a ≤ 120)
def RD (x : Nat) (a : Int) : Prop := x = a.toNat ∧ (0 ≤ a ∧ lc a.toNat = (99, a))
def RoB (x : Option Nat) (a : Int) : Prop := x = oBy a ∧ a ≤ 631
def RoX (x : Option Nat) (a : Int) : Prop := x = oBx a ∧ a ≤ 120
def RoD (x : Option Nat) (a : Int) : Prop := x = ro a ∧ (0 ≤ a → lc a.toNat = (99, a))
section U7
variable {α β γ δ ε ζ η θ α' β' γ' δ' ε' ζ' η' θ' ρ ρ' : Type} {P : ρ → ρ' → Prop}
theorem rf_us {R1 : α → α' → Prop} {R2 : β → β' → Prop} {F1 : α → Option ρ} {F2 : β → Option ρ} {G1 : α' → Option ρ'} {G2 : β' → Option ρ'} {a : α ⊕ β} {b : α' ⊕ β'} (h : RS R1 R2 a b) (k1 : ∀ a b, R1 a b → Rf P (F1 a) (G1 b)) (k2 : ∀ a b, R2 a b → Rf P (F2 a) (G2 b)) : Rf P (us F1 F2 a) (us G1 G2 b) := by
  cases a with
  | inl a => cases b with
    | inl b => exact k1 a b h
    | inr b => exact absurd h (fun z => z)
  | inr a => cases b with
    | inl b => exact absurd h (fun z => z)
    | inr b => exact k2 a b h
theorem rf_u2 {F : α → β → Option ρ} {G : α' → β' → Option ρ'} {x0 : α} {x1 : β} {y0 : α'} {y1 : β'} (h : Rf P (F x0 x1) (G y0 y1)) : Rf P (u2 F (x0, x1)) (u2 G (y0, y1)) := h
theorem rf_u3 {F : α → β → γ → Option ρ} {G : α' → β' → γ' → Option ρ'} {x0 : α} {x1 : β} {x2 : γ} {y0 : α'} {y1 : β'} {y2 : γ'} (h : Rf P (F x0 x1 x2) (G y0 y1 y2)) : Rf P (u3 F (x0, x1, x2)) (u3 G (y0, y1, y2)) := h
theorem rf_u4 {F : α → β → γ → δ → Option ρ} {G : α' → β' → γ' → δ' → Option ρ'} {x0 : α} {x1 : β} {x2 : γ} {x3 : δ} {y0 : α'} {y1 : β'} {y2 : γ'} {y3 : δ'} (h : Rf P (F x0 x1 x2 x3) (G y0 y1 y2 y3)) : Rf P (u4 F (x0, x1, x2, x3)) (u4 G (y0, y1, y2, y3)) := h
theorem rf_u5 {F : α → β → γ → δ → ε → Option ρ} {G : α' → β' → γ' → δ' → ε' → Option ρ'} {x0 : α} {x1 : β} {x2 : γ} {x3 : δ} {x4 : ε} {y0 : α'} {y1 : β'} {y2 : γ'} {y3 : δ'} {y4 : ε'} (h : Rf P (F x0 x1 x2 x3 x4) (G y0 y1 y2 y3 y4)) : Rf P (u5 F (x0, x1, x2, x3, x4)) (u5 G (y0, y1, y2, y3, y4)) := h
theorem rf_u6 {F : α → β → γ → δ → ε → ζ → Option ρ} {G : α' → β' → γ' → δ' → ε' → ζ' → Option ρ'} {x0 : α} {x1 : β} {x2 : γ} {x3 : δ} {x4 : ε} {x5 : ζ} {y0 : α'} {y1 : β'} {y2 : γ'} {y3 : δ'} {y4 : ε'} {y5 : ζ'} (h : Rf P (F x0 x1 x2 x3 x4 x5) (G y0 y1 y2 y3 y4 y5)) : Rf P (u6 F (x0, x1, x2, x3, x4, x5)) (u6 G (y0, y1, y2, y3, y4, y5)) := h
theorem rf_u7 {F : α → β → γ → δ → ε → ζ → η → Option ρ} {G : α' → β' → γ' → δ' → ε' → ζ' → η' → Option ρ'} {x0 : α} {x1 : β} {x2 : γ} {x3 : δ} {x4 : ε} {x5 : ζ} {x6 : η} {y0 : α'} {y1 : β'} {y2 : γ'} {y3 : δ'} {y4 : ε'} {y5 : ζ'} {y6 : η'} (h : Rf P (F x0 x1 x2 x3 x4 x5 x6) (G y0 y1 y2 y3 y4 y5 y6)) : Rf P (u7 F (x0, x1, x2, x3, x4, x5, x6)) (u7 G (y0, y1, y2, y3, y4, y5, y6)) := h
theorem rf_u8 {F : α → β → γ → δ → ε → ζ → η → θ → Option ρ} {G : α' → β' → γ' → δ' → ε' → ζ' → η' → θ' → Option ρ'} {x0 : α} {x1 : β} {x2 : γ} {x3 : δ} {x4 : ε} {x5 : ζ} {x6 : η} {x7 : θ} {y0 : α'} {y1 : β'} {y2 : γ'} {y3 : δ'} {y4 : ε'} {y5 : ζ'} {y6 : η'} {y7 : θ'} (h : Rf P (F x0 x1 x2 x3 x4 x5 x6 x7) (G y0 y1 y2 y3 y4 y5 y6 y7)) : Rf P (u8 F (x0, x1, x2, x3, x4, x5, x6, x7)) (u8 G (y0, y1, y2, y3, y4, y5, y6, y7)) := h
theorem rf_v2 {M : Option ρ} {G : α → β → Option ρ'} {x : α} {z : β} (h : Rf P M (G x z)) : Rf P M (u2 G (x, z)) := h
end U7
theorem f_shr5 {x : Int64} {a : Int} (hx : x = Int64.ofInt a) (ra : inL a) : x >>> ((5 : Int32).toInt64 &&& 63) = Int64.ofInt (a / 32) := f_shr (k := 5) hx ra (e_n 5) (by decide)
theorem f_shr7 {x : Int64} {a : Int} (hx : x = Int64.ofInt a) (ra : inL a) : x >>> ((7 : Int32).toInt64 &&& 63) = Int64.ofInt (a / 128) := f_shr (k := 7) hx ra (e_n 7) (by decide)
theorem e_shr3 {x : Int32} {a : Int} (hx : x = Int32.ofInt a) (ra : inR a) : x >>> ((3 : Int32) &&& 31) = Int32.ofInt (a / 8) := e_shr (k := 3) hx ra (e_n 3) (by decide)
theorem q32 {a : Int} (ra : inL a) : inL (a / 32) := ⟨by have := ra.1; omega, by have := ra.2; omega⟩
theorem q128 {a : Int} (ra : inL a) : inL (a / 128) := ⟨by have := ra.1; omega, by have := ra.2; omega⟩
theorem q8 {a : Int} (ra : inR a) : inR (a / 8) := ⟨by have := ra.1; omega, by have := ra.2; omega⟩
theorem qR {a : Int} {k : Int} (ra : inR a) : inR (a / 2 ^ k.toNat) := by
  have hp : (0 : Int) < 2 ^ k.toNat := Int.pow_pos (by omega)
  refine ⟨?_, ?_⟩
  · rw [Int.le_ediv_iff_mul_le hp]
    have h5 : (1 : Int) ≤ 2 ^ k.toNat := by omega
    have h6 : (-2147483648 : Int) * 2 ^ k.toNat ≤ -2147483648 * 1 := Int.mul_le_mul_of_nonpos_left (by omega) h5
    have := ra.1
    omega
  · rcases Int.le_total 0 a with h | h
    · exact Int.le_trans (Int.ediv_le_self _ h) ra.2
    · have := Int.ediv_le_ediv hp h
      rw [Int.zero_ediv] at this
      omega
theorem qL {a : Int} {k : Int} (ra : inL a) : inL (a / 2 ^ k.toNat) := by
  have hp : (0 : Int) < 2 ^ k.toNat := Int.pow_pos (by omega)
  refine ⟨?_, ?_⟩
  · rw [Int.le_ediv_iff_mul_le hp]
    have h5 : (1 : Int) ≤ 2 ^ k.toNat := by omega
    have h6 : (-9223372036854775808 : Int) * 2 ^ k.toNat ≤ -9223372036854775808 * 1 := Int.mul_le_mul_of_nonpos_left (by omega) h5
    have := ra.1
    omega
  · rcases Int.le_total 0 a with h | h
    · exact Int.le_trans (Int.ediv_le_self _ h) ra.2
    · have := Int.ediv_le_ediv hp h
      rw [Int.zero_ediv] at this
      omega
