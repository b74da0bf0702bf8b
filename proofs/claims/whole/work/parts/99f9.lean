/-! A NODE GOES, with all that the nodes hold -/
section F9
variable {n n' : NS} {m m' : YS} {A B N k : Int} {o e p : Int → Int}
theorem JT.remove (h : JT n m N o e p) (hP : JP m N o p) (hB : BI A B n) (h1 : 1 ≤ k) (h2 : k < N) (hc : 0 ≤ n 10 0 6 ∧ n 10 0 6 < 2000000000) :
    ∃ n' m', N_Tree_remove (o k) n = some n' ∧ N_Y_remove (o k) m = some m'
      ∧ JT n' m' (N - (e k - k)) (delO o k (e k - k)) (delE e k (e k - k)) (delP p k (e k - k))
      ∧ JP m' (N - (e k - k)) (delO o k (e k - k)) (delP p k (e k - k))
      ∧ BI A B n' ∧ n' 10 0 6 = n 10 0 6 + 1 ∧ FCut n n' ∧ FY [45, 68, 50, 51, 52, 53] m m' := by
  obtain ⟨hS, hK, hL, hD⟩ := h
  have hG := hS.1
  have hE := hG.eB (k := k) (by omega) h2
  obtain ⟨n', m', a1, a2, a3, a4, a5, a6, a7, a8, a9⟩ := J_remove hS hK hL h1 h2 hc
  refine ⟨n', m', a1, a2, ⟨a3, a4, a5, fun j j0 j1 => ?_⟩, fun j j0 j1 => ?_, hB.fl a7.1, a6, a7, a8⟩
  · -- a node that stays
    obtain ⟨j', b0, b1, b2, b3⟩ : ∃ j', 0 ≤ j' ∧ j' < N ∧ delO o k (e k - k) j = o j' ∧ ¬ (k ≤ j' ∧ j' < e k) := by
      unfold delO
      by_cases z : j < k
      · exact ⟨j, j0, by omega, by rw [if_pos z], by omega⟩
      · exact ⟨j + (e k - k), by omega, by omega, by rw [if_neg z], by omega⟩
    rw [b2]
    refine (hD j' b0 b1).cg (YG.of (fun f hf => a8 f (by simp only [List.mem_cons, List.not_mem_nil, or_false, not_or]; omega))) ⟨fun s hs => ?_, a7.1 18 (by decide) (by decide) (by decide) ▸ rfl, fun b _ _ => ?_⟩
    · by_cases z : s = 0
      · subst z
        exact a9 (o j') (fun i i0 i1 y => b3 (by have := hG.inj (j := i) (k := j') (by omega) (by omega) b0 b1 y; omega))
      · exact a7.2.1 _ s z (by omega) (by omega) (by omega) (by omega) (by omega) (by omega)
    · unfold bt
      rw [a7.1 4 (by decide) (by decide) (by decide), a7.1 99 (by decide) (by decide) (by decide)]
  · rw [a8 46 (by decide)]
    unfold delO delP
    by_cases z : j < k
    · have q := hG.pB (k := j) j0 (by omega)
      rw [if_pos z, if_pos (by omega)]
      exact hP j j0 (by omega)
    · have q := hG.pB (k := j + (e k - k)) (by omega) (by omega)
      rw [if_neg z]
      by_cases y : p (j + (e k - k)) < k
      · rw [if_pos y, if_pos y]; exact hP _ (by omega) (by omega)
      · have hne : e k ≤ p (j + (e k - k)) := by
          by_cases w : e k ≤ p (j + (e k - k))
          · exact w
          · exfalso
            by_cases u : p (j + (e k - k)) = k
            · rw [u] at q; omega
            · have := hG.nest (k := k) (j := p (j + (e k - k))) (by omega) (by omega) (by omega) (by omega)
              omega
        rw [if_neg y, if_neg (by omega), show p (j + (e k - k)) - (e k - k) + (e k - k) = p (j + (e k - k)) by omega]
        exact hP _ (by omega) (by omega)
end F9
