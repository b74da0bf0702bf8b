/-! THE ROOT ALONE: both are alike -/
section D4
variable {n5 : NS} {m5 : YS} {c : Int}
def rootY (m5 : YS) : YS := yw (yw (yw (yw (yw (newY m5 0 (-1) 0) 46 0 0) 47 0 100) 47 1 105) 47 2 118) 48 0 3
theorem rootY_n {f : Nat} (h : f ≠ 46 ∧ f ≠ 47 ∧ f ≠ 48) : rootY m5 f = newY0 m5 0 (-1) 0 f := by
  unfold rootY
  rw [yw_nF h.2.2, yw_nF h.2.1, yw_nF h.2.1, yw_nF h.2.1, yw_nF h.1]
  rw [show newY m5 0 (-1) 0 = newY0 m5 0 (-1) 0 from if_pos rfl]
theorem rootY_v : rootY m5 49 0 = -1 ∧ rootY m5 50 0 = -1 ∧ rootY m5 51 0 = -1 ∧ rootY m5 52 0 = -1 ∧ rootY m5 53 0 = -1 ∧ rootY m5 54 0 = 0 ∧ rootY m5 55 0 = m5 69 0 + 1 ∧ rootY m5 68 0 = m5 68 0 + 1 ∧ rootY m5 69 0 = m5 69 0 + 1 ∧ ∀ v, rootY m5 45 v = if v = 0 then 1 else m5 45 v := by
  refine ⟨?_, ?_, ?_, ?_, ?_, ?_, ?_, ?_, ?_, fun v => ?_⟩ <;> rw [rootY_n (by decide)] <;> simp [newY0, yw_app]
theorem rootC_v : newC n5 0 (-1) 0 c 7 0 2 = -1 ∧ newC n5 0 (-1) 0 c 7 0 3 = -1 ∧ newC n5 0 (-1) 0 c 7 0 4 = -1 ∧ newC n5 0 (-1) 0 c 7 0 5 = -1 ∧ newC n5 0 (-1) 0 c 7 0 6 = 0 ∧ newC n5 0 (-1) 0 c 7 0 7 = 0 ∧ newC n5 0 (-1) 0 c 7 0 10 = n5 10 0 7 + 1 ∧ newC n5 0 (-1) 0 c 10 0 5 = n5 10 0 5 + 1 ∧ newC n5 0 (-1) 0 c 10 0 7 = n5 10 0 7 + 1 ∧ (∀ v, newC n5 0 (-1) 0 c 7 v 0 = if v = 0 then 0 else n5 7 v 0) ∧ newC n5 0 (-1) 0 c 10 0 4 = n5 10 0 4 ∧ newC n5 0 (-1) 0 c 10 0 6 = n5 10 0 6 + 1 := by
  rw [show newC n5 0 (-1) 0 c = newC0 n5 0 (-1) 0 c from if_pos rfl]
  refine ⟨?_, ?_, ?_, ?_, ?_, ?_, ?_, ?_, ?_, fun v => ?_, ?_, ?_⟩ <;> simp [newC0, nw_app]
theorem J_root (y1 : ∀ v, 0 ≤ v → v < 120 → m5 45 v = 0) (y2 : m5 68 0 = 0) (c1 : ∀ v, 0 ≤ v → v < 120 → n5 7 v 0 = -1) (c2 : n5 10 0 5 = 0) (h7 : n5 10 0 7 = m5 69 0) (h69 : 0 ≤ m5 69 0) (h4 : n5 10 0 4 ≤ n5 10 0 6) :
    JS (newC n5 0 (-1) 0 c) (rootY m5) 1 (fun _ => 0) (fun _ => 1) (fun _ => 0) ∧ JK (newC n5 0 (-1) 0 c) 1 (fun _ => 0) (fun _ => 0) ∧ JL (newC n5 0 (-1) 0 c) 1 (fun _ => 0) (fun _ => 1) := by
  obtain ⟨r1, r2, r3, r4, r5, r6, r7, r8, r9, r10⟩ := rootY_v (m5 := m5)
  obtain ⟨s1, s2, s3, s4, s5, s6, s7, s8, s9, s10, s11, s12⟩ := rootC_v (n5 := n5) (c := c)
  refine ⟨⟨⟨⟨by omega, by omega, rfl, rfl, r1, r4⟩, fun k a b => by show (0 : Int) ≤ 0 ∧ (0 : Int) < 120; omega, fun j k a b c d _ => by omega, fun k a b => by show k < 1 ∧ (1 : Int) ≤ 1; omega, fun k j a b c d => by omega, fun k a b => by omega, fun k j a b c d => by omega, fun k a b => by omega, fun k a b => ?_, fun k a b => by omega⟩, ⟨fun k a b _ => r3, fun k j a b c d _ => by omega⟩, ⟨r5, fun k a b _ => by omega, fun k j a b c d _ _ => by omega⟩, fun v a b => ?_, fun k a b => ⟨⟨?_, ?_, ?_, ?_, ?_, ?_⟩, ?_, ?_, ?_, ?_⟩, ?_, ?_, ?_, ?_⟩, fun k a b => ?_, ?_, fun z => ?_⟩
  · show rootY m5 50 0 = _; rw [r2, if_neg (show ¬ (k + 1 < 1) by omega)]
  · rw [r10, s10]
    by_cases z : v = 0
    · rw [if_pos z, if_pos z]
      exact ⟨.inl rfl, ⟨fun _ => ⟨0, by omega, by omega, z.symm⟩, fun _ => rfl⟩, ⟨fun y => by omega, fun y => by omega⟩⟩
    · rw [if_neg z, if_neg z, y1 v a b, c1 v a b]
      exact ⟨.inr rfl, ⟨fun y => by omega, fun ⟨_, _, _, y⟩ => absurd y.symm z⟩, ⟨fun _ => rfl, fun _ => rfl⟩⟩
  · show newC n5 0 (-1) 0 c 7 0 2 = rootY m5 49 0; rw [s1, r1]
  · show newC n5 0 (-1) 0 c 7 0 3 = rootY m5 50 0; rw [s2, r2]
  · show newC n5 0 (-1) 0 c 7 0 4 = rootY m5 51 0; rw [s3, r3]
  · show newC n5 0 (-1) 0 c 7 0 5 = rootY m5 52 0; rw [s4, r4]
  · show newC n5 0 (-1) 0 c 7 0 7 = rootY m5 54 0; rw [s6, r6]
  · show newC n5 0 (-1) 0 c 7 0 10 = rootY m5 55 0; rw [s7, r7, h7]
  · show 0 ≤ rootY m5 54 0; rw [r6]; decide
  · show rootY m5 54 0 ≤ 20; rw [r6]; decide
  · show 0 ≤ rootY m5 55 0; rw [r7]; omega
  · show rootY m5 55 0 ≤ rootY m5 69 0; rw [r7, r9]; exact Int.le_refl _
  · rw [s8, c2]; rfl
  · rw [r8, y2]; rfl
  · rw [s9, r9, h7]
  · rw [r9]; omega
  · show newC n5 0 (-1) 0 c 7 0 6 = kct (fun _ => 0) 1 k
    rw [s5]; unfold kct; rw [zsm_nil (Int.le_refl _)]
  · rw [s11, s12]; omega
  · rw [s11, s12] at z; omega
end D4
