/-! THE CALLS kid AND node: both programs answer alike -/
section C9
variable {n : NS} {m : YS} {N v x : Int} {o e p : Int → Int}
theorem JS.there (h : JS n m N o e p) (v : Int) : (N_Y_there v m = some 0 ∧ N_H_isNode v n = some 0) ∨ (N_Y_there v m = some 1 ∧ N_H_isNode v n = some 1 ∧ ∃ k, 0 ≤ k ∧ k < N ∧ o k = v) := by
  by_cases h0 : v < 0
  · left; unfold N_Y_there N_H_isNode; rw [if_pos h0, if_pos h0]; exact ⟨rfl, rfl⟩
  · by_cases h1 : v < 120
    · have hx := h.2.2.2.1 v (by omega) h1
      have e1 : N_Y_there v m = if m 45 v = 0 then some 0 else some 1 := by
        unfold N_Y_there ix; rw [if_neg h0, if_pos h1, if_pos ⟨by omega, h1⟩]
      have e2 : N_H_isNode v n = if n 7 v 0 = -1 then some 0 else some 1 := by
        unfold N_H_isNode ix; rw [if_neg h0, if_pos h1, if_pos ⟨by omega, h1⟩]
      rw [e1, e2]
      by_cases hz : m 45 v = 0
      · left; rw [if_pos hz, if_pos (hx.2.2.mpr hz)]; exact ⟨rfl, rfl⟩
      · right; rw [if_neg hz, if_neg (fun z => hz (hx.2.2.mp z))]
        exact ⟨rfl, rfl, hx.2.1.mp (by have := hx.1; omega)⟩
    · left; unfold N_Y_there N_H_isNode; rw [if_neg h0, if_neg h0, if_neg h1, if_neg h1]; exact ⟨rfl, rfl⟩
theorem call_kid (h : JS n m N o e p) (hr : x ≤ 2147483647) : ∃ r, N_Y_kid v x m = some r ∧ N_H_kid v x n = some r := by
  rcases h.there v with ⟨a, b⟩ | ⟨a, b, k, k0, k1, kv⟩
  · refine ⟨-1, ?_, ?_⟩
    · unfold N_Y_kid; rw [a]; rfl
    · unfold N_H_kid; rw [b]; rfl
  · have hv := h.1.oB k0 k1
    by_cases hx : x < 0
    · refine ⟨-1, ?_, ?_⟩
      · unfold N_Y_kid; rw [a]
        simp only [Option.bind_some]
        rw [if_neg (by decide), if_pos hx]
      · unfold N_H_kid; rw [b]
        simp only [Option.bind_some]
        rw [if_neg (by decide), if_pos hx]
    · refine ⟨omO o (chK e k x.toNat), ?_, ?_⟩
      · unfold N_Y_kid; rw [a]
        simp only [Option.bind_some]
        rw [if_neg (by decide), if_neg hx, ← kv, y_kidL h.1 k0 k1 (by omega) hr]
        unfold ix; rw [if_pos hv]; rfl
      · unfold N_H_kid; rw [b]
        simp only [Option.bind_some]
        rw [if_neg (by decide), if_neg hx, ← kv]
        unfold N_Tree_kidAt
        rw [c_kidL h.TC k0 k1 (by omega) hr]
        unfold ix; rw [if_pos hv]; rfl
/-- what a node has of numbers -/
def JQ (n : NS) (m : YS) (N : Int) (o : Int → Int) : Prop := ∀ k, 0 ≤ k → k < N → n 7 (o k) 0 = m 46 (o k) ∧ n 7 (o k) 12 = m 56 (o k) ∧ (m 46 (o k) = 17 → n 4 (5 * o k) 2 = m 62 (o k))
theorem call_node (h : JS n m N o e p) (hK : JK n N o p) (hQ : JQ n m N o) : ∃ r, N_Y_node v x m = some r ∧ N_H_node v x n = some r := by
  rcases h.there v with ⟨a, b⟩ | ⟨a, b, k, k0, k1, kv⟩
  · refine ⟨-1, ?_, ?_⟩
    · unfold N_Y_node; rw [a]; rfl
    · unfold N_H_node; rw [b]; rfl
  · have hv := h.1.oB k0 k1
    have hq := hQ k k0 k1
    have hl := h.2.2.2.2.1 k k0 k1
    rw [kv] at hv hq hl
    have hk6 : n 7 v 6 = kct p N k := by rw [← kv]; exact hK k k0 k1
    have hyk : NL_Y_node_74 0 (m 50 v) m = some (kct p N k) := by rw [← kv]; exact y_kids h.1 k0 k1
    have hrk : ∃ r, NL_Y_node_105 0 (m 53 v) m = some r ∧ N_Tree_rankOf v n = some r := by
      unfold N_Tree_rankOf ix
      rw [if_pos hv]
      by_cases hz : k = 0
      · have e0 : m 49 v = -1 := by rw [← kv, hz]; exact h.1.par0
        have e1 : m 53 v = -1 := by rw [← kv, hz]; exact h.2.2.1.1
        refine ⟨0, ?_, ?_⟩
        · rw [e1]; apply eq_of_ev; unfold NL_Y_node_105
          refine ev_it (fun s : Int × Int => s = (0, -1)) (fun _ => 0) (fun s hs => ?_) rfl
          subst hs
          show ev (nb_Y_node_105 0 (-1) m) _
          unfold nb_Y_node_105
          exact ev_if (fun _ => ev_inr rfl) (fun z => absurd rfl z)
        · rw [if_pos (by rw [hl.1.1]; exact e0)]
      · have hp := h.1.pB (k := k) (by omega) k1
        have hop := h.1.oB (k := p k) (by omega) (by omega)
        have e0 : n 7 v 2 = o (p k) := by rw [hl.1.1, ← kv]; exact h.1.parE (by omega) k1
        refine ⟨zsm (inK p (p k)) 1 k, by rw [← kv]; exact y_rank h.1 h.2.2.1 (by omega) k1, ?_⟩
        rw [e0, if_neg (by omega), if_pos hv, if_pos hop, ← kv, c_rank h.TC (by omega) k1]; rfl
    obtain ⟨r, r1, r2⟩ := hrk
    have eY : N_Y_node v x m = if x = 0 then some (m 46 v) else if x = 1 then some (m 49 v) else if x = 2 then some (kct p N k) else if x = 3 then some r else if x = 4 then some (m 56 v) else if x = 5 then (if m 46 v = 17 then some (m 62 v) else some 0) else some (-1) := by
      unfold N_Y_node; rw [a, hyk, r1]
      unfold ix
      simp only [Option.bind_some, if_pos hv]
      rw [if_neg (by decide)]
    have eC : N_H_node v x n = if x = 0 then some (n 7 v 0) else if x = 1 then some (n 7 v 2) else if x = 2 then some (n 7 v 6) else if x = 3 then some r else if x = 4 then some (n 7 v 12) else if x = 5 then (if n 7 v 0 = 17 then some (n 4 (5 * v) 2) else some 0) else some (-1) := by
      unfold N_H_node; rw [b, r2]
      unfold ix
      simp only [Option.bind_some, if_pos hv]
      rw [if_neg (by decide)]
    rw [eY, eC, hq.1, hl.1.1, hk6, hq.2.1]
    by_cases h17 : m 46 v = 17
    · rw [hq.2.2 h17, if_pos h17]
      split
      · exact ⟨_, rfl, rfl⟩
      · split
        · exact ⟨_, rfl, rfl⟩
        · split
          · exact ⟨_, rfl, rfl⟩
          · split
            · exact ⟨_, rfl, rfl⟩
            · split
              · exact ⟨_, rfl, rfl⟩
              · split <;> exact ⟨_, rfl, rfl⟩
    · rw [if_neg h17, if_neg h17]
      split
      · exact ⟨_, rfl, rfl⟩
      · split
        · exact ⟨_, rfl, rfl⟩
        · split
          · exact ⟨_, rfl, rfl⟩
          · split
            · exact ⟨_, rfl, rfl⟩
            · split
              · exact ⟨_, rfl, rfl⟩
              · split <;> exact ⟨_, rfl, rfl⟩
end C9
