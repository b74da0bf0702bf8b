theorem by5 {i : Int} (h : 0 ≤ i ∧ i ≤ 120) : 0 ≤ 5 * i ∧ 5 * i ≤ 631 := by omega
theorem by19 {i j : Int} (h : 0 ≤ i ∧ i ≤ 120) (hj : 0 ≤ j ∧ j < 4) : 0 ≤ 5 * i + 1 + j ∧ 5 * i + 1 + j ≤ 631 := by omega
theorem srf20 {i : Int} (h0 : 0 ≤ i) (h : i < 120) : srf 20 0 i.toNat = some (aNd i) := by
  show (if i.toNat < 120 then some (aNd (i.toNat : Int)) else none) = _
  rw [if_pos (by omega), Int.toNat_of_nonneg h0]
theorem srf42 {i : Int} (h0 : 0 ≤ i) (h : i < 120) : srf 42 0 i.toNat = some (aBx i) := by
  show (if i.toNat < 120 then some (aBx (i.toNat : Int)) else none) = _
  rw [if_pos (by omega), Int.toNat_of_nonneg h0]
theorem srf19 {i j : Int} (h0 : 0 ≤ j) (h : j < 4) : srf 19 i j.toNat = some (aBy (5 * i + 1 + j)) := by
  show (if j.toNat < 4 then some (aBy (5 * i + 1 + (j.toNat : Int))) else none) = _
  rw [if_pos (by omega), Int.toNat_of_nonneg h0]
theorem ce_J {w y : Prop} {g : g_S} {n : NS} {m : YS} {K : Nat} (hR : RC w y g n m) (hw : w) (h : K = 25 ∨ K = 26) : Ce g (aK K) 3 K 0 := by
  rcases h with rfl | rfl
  · exact sA25 hR hw
  · exact sA26 hR hw
theorem ln_J {w y : Prop} {g : g_S} {n : NS} {m : YS} {K : Nat} (hR : RC w y g n m) (hw : w) (h : K = 25 ∨ K = 26) : gl g (aK K) = 60 := by
  rcases h with rfl | rfl
  · exact lA25 hR hw
  · exact lA26 hR hw
theorem e_N (k : Nat) : Int32.ofNat k = Int32.ofInt (OfNat.ofNat k : Int) := (Int32.ofInt_eq_ofNat).symm
def gcn {ρ : Type} (n : NS) (x : Option ρ) : Option ρ := if n 90 0 0 ≤ 1000000 then x else none
theorem rf_gcn {w y : Prop} {g : g_S} {n : NS} {m : YS} {α β : Type} {P : α → β → Prop} {F : Option α} {G : Option β} (hR : RC w y g n m) (kk : gn g ≤ 1000000 → Rf P F G) : Rf P F (gcn n G) := rf_if (fun h => kk (by have := hR.1.1; omega))
