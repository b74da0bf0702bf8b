/-! A NODE GOES: both programs, and what stays -/
def JL (n : NS) (N : Int) (o e : Int → Int) : Prop := n 10 0 4 ≤ n 10 0 6 ∧ (n 10 0 4 = n 10 0 6 → LSt n N o e)
/-- the class but for the links, the list and the marks of the tree -/
def FCut (n n' : NS) : Prop := (∀ K, K ≠ 7 → K ≠ 10 → K ≠ 22 → n' K = n K) ∧ (∀ u s, s ≠ 0 → s ≠ 3 → s ≠ 4 → s ≠ 5 → s ≠ 6 → s ≠ 8 → s ≠ 9 → n' 7 u s = n 7 u s) ∧ (∀ s, s ≠ 3 → s ≠ 4 → s ≠ 5 → s ≠ 6 → n' 10 0 s = n 10 0 s)
section D0
variable {n n' : NS} {m m' : YS} {N k : Int} {o e p : Int → Int}
theorem J_remove (h : JS n m N o e p) (hK : JK n N o p) (hL : JL n N o e) (h1 : 1 ≤ k) (h2 : k < N) (hc : 0 ≤ n 10 0 6 ∧ n 10 0 6 < 2000000000) :
    ∃ n' m', N_Tree_remove (o k) n = some n' ∧ N_Y_remove (o k) m = some m'
      ∧ JS n' m' (N - (e k - k)) (delO o k (e k - k)) (delE e k (e k - k)) (delP p k (e k - k))
      ∧ JK n' (N - (e k - k)) (delO o k (e k - k)) (delP p k (e k - k))
      ∧ JL n' (N - (e k - k)) (delO o k (e k - k)) (delE e k (e k - k))
      ∧ n' 10 0 6 = n 10 0 6 + 1 ∧ FCut n n' ∧ FY [45, 68, 50, 51, 52, 53] m m'
      ∧ (∀ u, (∀ j, k ≤ j → j < e k → o j ≠ u) → n' 7 u 0 = n 7 u 0) := by
  have hT := h.1
  have hb := h.2.2.2.2.2
  obtain ⟨m', hm', y1, y2, y3, y4⟩ := y_remove hT h.2.2.1 h1 h2 hb.2.1
  obtain ⟨n', hn', n8, b, c1, c0, c2, cK, c3, c4, c5, c6, c8, c7⟩ := c_remove h.TC hL.2 h1 h2 hb.1 hc (hK.ge hT h1 h2)
  obtain ⟨q1, q2, q3, q4⟩ := c2.bf hT h.2.2.1 h1 h2
  refine ⟨n', m', hn', hm', JS_del h h1 h2 y1 y2 y3 y4 c1 c2 c3 c4 c5 c6 c7, JK_del h hK h1 h2 c1 c2 c3, ?_, ?_, ⟨?_, ?_, ?_⟩, ?_, ?_⟩
  · have e4 : n' 10 0 4 = n8 10 0 4 := c7 4 (by decide) (by decide)
    exact ⟨by rw [e4, c8]; omega, fun z => by rw [e4, c8] at z; omega⟩
  · rw [c8, c1.2.2 6 (by decide) (by decide)]
  · intro K a b c; rw [cK K a b]; exact c1.1 K a b c
  · intro u s s0 s3 s4 s5 s6 s8 s9
    rw [c3 u s s0, cutC_7 (Ne.symm q3), if_neg (fun z => s3 z.1), if_neg (fun z => s5 z.1), if_neg (fun z => s4 z.1), if_neg (fun z => s6 z.1)]
    exact c1.2.1 u s s8 s9
  · intro s s3 s4 s5 s6; rw [c7 s s5 s6]; exact c1.2.2 s s3 s4
  · intro f hf
    simp only [List.mem_cons, List.not_mem_nil, or_false, not_or] at hf
    rw [y1 f (by simp only [List.mem_cons, List.not_mem_nil, or_false, not_or]; exact ⟨hf.1, hf.2.1⟩)]
    exact cutY_o ⟨hf.2.2.1, hf.2.2.2.1, hf.2.2.2.2.1, hf.2.2.2.2.2⟩
  · intro u hu; rw [c5 u hu]; exact c1.2.1 u 0 (by decide) (by decide)
end D0
