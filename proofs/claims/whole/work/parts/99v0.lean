/-! THE CALLS count, but for what is laid out, and screen -/
section V0
variable {n n' : NS} {m m' : YS} {A B N G v : Int} {o e p : Int → Int} {As Bs : Int → Prop}
theorem call_count (hC : CI As Bs A B G n m) (h14 : v ≠ 14) (h16 : v ≠ 16) : ∃ r, N_H_count v n = some (r, n) ∧ N_Y_count v m = some (r, m) := by
  have hA := hC.1
  have hf := focus_both hC.1
  obtain ⟨κ, N, o, e, p, h1, h2, h3, ⟨h4, h4'⟩, h5, h6, h7, h8⟩ := hA
  have hnb := h1.1.2.1
  have hhs := h1.2.1
  have hjs := h2.1.1
  unfold N_H_count N_Y_count nk_H_count_184 N_H_countOfNet
  by_cases z0 : v = 0
  · subst z0
    exact ⟨m 68 0, by show some (n 10 0 5, n) = _; rw [hjs.2.2.2.2.2.1, hjs.2.2.2.2.2.2.1], rfl⟩
  by_cases z1 : v = 1
  · subst z1
    exact ⟨m 70 0, by show some (n 8 0 3, n) = _; rw [h2.2.2.1.1], rfl⟩
  by_cases z2 : v = 2
  · subst z2
    exact ⟨m 16 0, by show some (n 6 0 2, n) = _; rw [hnb.2.2.2.1.1.1], rfl⟩
  by_cases z3 : v = 3
  · subst z3
    exact ⟨m 30 0, by show some (n 6 0 6, n) = _; rw [hnb.2.2.2.2.2.2.1.2], rfl⟩
  by_cases z4 : v = 4
  · subst z4
    exact ⟨m 26 0, by show some (n 6 0 4, n) = _; rw [hnb.2.2.2.2.1.1.1], rfl⟩
  by_cases z5 : v = 5
  · subst z5
    exact ⟨m 35 0, by show some (n 6 0 9, n) = _; rw [hnb.2.2.2.2.2.2.2.2.1], rfl⟩
  by_cases z6 : v = 6
  · subst z6
    exact ⟨m 25 0, by show some (n 6 0 12, n) = _; rw [hnb.2.2.2.2.2.2.2.1.1], rfl⟩
  by_cases z7 : v = 7
  · subst z7
    exact ⟨m 148 0, by show some (n 6 0 18, n) = _; rw [hhs.1.1], rfl⟩
  by_cases z8 : v = 8
  · subst z8
    exact ⟨m 149 0, by show some (n 6 0 19, n) = _; rw [hhs.1.2.1], rfl⟩
  by_cases z9 : v = 9
  · subst z9
    exact ⟨m 166 0, by show some (n 0 0 5, n) = _; rw [h4.1.1], rfl⟩
  by_cases z10 : v = 10
  · subst z10
    exact ⟨m 157 0, by show some (n 0 0 10, n) = _; rw [h6.2.2], rfl⟩
  by_cases z11 : v = 11
  · subst z11
    exact ⟨m 156 0, by show some (n 0 0 8, n) = _; rw [h6.2.1], rfl⟩
  by_cases z12 : v = 12
  · subst z12
    exact ⟨m 155 0, by show some (n 0 0 7, n) = _; rw [h6.1, Int.add_zero], rfl⟩
  by_cases z13 : v = 13
  · subst z13
    rcases hf with ⟨y1, y2⟩ | ⟨y1, y2, _⟩
    · exact ⟨-1, by show (N_Tree_alive (n 0 0 6) n).bind (fun z24 => some (z24, n)) = _; rw [y1]; rfl, by show (N_Y_focused m).bind (fun z29 => if z29 = 0 then some (-1, m) else some (m 150 0, m)) = _; rw [y2]; rfl⟩
    · exact ⟨m 150 0, by show (N_Tree_alive (n 0 0 6) n).bind (fun z24 => some (z24, n)) = _; rw [y1]; rfl, by show (N_Y_focused m).bind (fun z29 => if z29 = 0 then some (-1, m) else some (m 150 0, m)) = _; rw [y2]; rfl⟩
  by_cases z15 : v = 15
  · subst z15
    exact ⟨m 174 0, by show some (n 6 0 8, n) = _; rw [h5.2], rfl⟩
  refine ⟨-1, ?_, ?_⟩
  · rw [if_neg z0, if_neg z1, if_neg z2, if_neg z3, if_neg z4, if_neg z5, if_neg z6, if_neg z7, if_neg z8, if_neg z9, if_neg z10, if_neg z11, if_neg z12, if_neg z13, if_neg h14, if_neg z15, if_neg h16, if_neg z2, if_neg z3, if_neg z4, if_neg z5, if_neg z6, if_neg z7, if_neg z8, if_neg z9, if_neg z10, if_neg z11, if_neg z12, if_neg z13, if_neg h14, if_neg z15]; rfl
  · rw [if_neg z0, if_neg z1, if_neg z2, if_neg z3, if_neg z4, if_neg z5, if_neg z6, if_neg z7, if_neg z8, if_neg z9, if_neg z10, if_neg z11, if_neg z12, if_neg z13, if_neg h14, if_neg z15, if_neg h16]
/-- the screen's width, in both -/
def JSc (n : NS) (m : YS) : Prop := n 5 0 3 = m 106 0 ∧ 20 ≤ m 106 0 ∧ m 106 0 ≤ 96
theorem call_screen (hC : CI As Bs A B G n m) (hS : JSc n m) : ∃ r n' m', N_H_screen v n = some (r, n') ∧ N_Y_screen v m = some (r, m') ∧ CI As Bs A B G n' m' ∧ JSc n' m' ∧ (∀ K, K ≠ 5 → n' K = n K) ∧ (∀ s, s ≠ 3 → s ≠ 4 → n' 5 0 s = n 5 0 s) ∧ FY [106, 126] m m' ∧ ((n' = n ∧ m' = m) ∨ (n' 5 0 4 = -1 ∧ m' 126 0 = 0)) := by
  unfold N_H_screen N_Y_screen N_Layout_resize N_Y_changed st
  by_cases z1 : v < 20
  · rw [if_pos z1, if_pos z1]
    exact ⟨-1, n, m, rfl, rfl, hC, hS, fun _ _ => rfl, fun _ _ _ => rfl, FY.refl _ _, .inl ⟨rfl, rfl⟩⟩
  rw [if_neg z1, if_neg z1]
  by_cases z2 : 96 < v
  · rw [if_pos z2, if_pos z2]
    exact ⟨-1, n, m, rfl, rfl, hC, hS, fun _ _ => rfl, fun _ _ _ => rfl, FY.refl _ _, .inl ⟨rfl, rfl⟩⟩
  rw [if_neg z2, if_neg z2]
  have hK : ∀ K, K ≠ 5 → nw (nw n 5 0 3 v) 5 0 4 (-1) K = n K := fun K h => by rw [nw_nK h, nw_nK h]
  have h5 : ∀ s, s ≠ 3 → s ≠ 4 → nw (nw n 5 0 3 v) 5 0 4 (-1) 5 0 s = n 5 0 s := fun s a b => by rw [nw_ns b, nw_ns a]
  have hB' : BI A B (nw (nw n 5 0 3 v) 5 0 4 (-1)) := hC.1.bi.cg (hK 4 (by decide)) ⟨h5 5 (by decide) (by decide), h5 9 (by decide) (by decide)⟩ (hK 90 (by decide)) (hK 91 (by decide)) (hK 92 (by decide)) (hK 93 (by decide))
  have hm : FY [106, 126] m (yw (yw m 106 0 v) 126 0 0) := fun f hf => by
    simp only [List.mem_cons, List.not_mem_nil, or_false, not_or] at hf
    rw [yw_nF hf.2, yw_nF hf.1]
  refine ⟨1, _, _, rfl, rfl, hC.ko hB' (fun K h => hK K (fun z => by rw [z] at h; exact absurd h (by decide))) (fun f hf => hm f (by simp only [List.mem_cons, List.not_mem_nil, or_false, not_or]; omega)), ?_, hK, h5, hm, .inr ⟨by rw [nw_eq], by rw [yw_eq]⟩⟩
  unfold JSc
  rw [nw_ns (by decide), nw_eq, yw_nF (by decide), yw_eq]
  omega
end V0
