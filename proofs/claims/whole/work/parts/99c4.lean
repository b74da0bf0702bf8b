/-! A NODE GOES from both trees: the links stay alike -/
section C4
variable {n n' : NS} {m m' : YS} {N k : Int} {o e p : Int → Int}
theorem cutY_49 {v : Int} : cutY m v 49 = m 49 := by
  unfold cutY; try simp only
  split <;> split <;> (rw [yw_nF (by decide), yw_nF (by decide)])
theorem cutY_o {v : Int} {f : Nat} (h : f ≠ 50 ∧ f ≠ 51 ∧ f ≠ 52 ∧ f ≠ 53) : cutY m v f = m f := by
  unfold cutY; try simp only
  split <;> split <;> (rw [yw_nF (by omega), yw_nF (by omega)])
theorem cutY_50 {v i : Int} : cutY m v 50 i = if m 53 v = -1 ∧ i = m 49 v then m 52 v else m 50 i := by
  unfold cutY; try simp only
  by_cases h : m 53 v = -1
  · rw [if_pos h]
    by_cases h2 : m 52 v = -1
    · rw [if_pos h2, yw_nF (by decide), yw_app]; simp [h]
    · rw [if_neg h2, yw_nF (by decide), yw_app]; simp [h]
  · rw [if_neg h, if_neg (show ¬ (m 53 v = -1 ∧ i = m 49 v) from fun z => h z.1)]
    split <;> (rw [yw_nF (by decide), yw_nF (by decide)])
theorem cutY_52 {v i : Int} : cutY m v 52 i = if m 53 v ≠ -1 ∧ i = m 53 v then m 52 v else m 52 i := by
  unfold cutY; try simp only
  by_cases h : m 53 v = -1
  · rw [if_pos h, if_neg (show ¬ (m 53 v ≠ -1 ∧ i = m 53 v) from fun z => z.1 h)]
    split <;> (rw [yw_nF (by decide), yw_nF (by decide)])
  · rw [if_neg h]
    by_cases h2 : m 52 v = -1
    · rw [if_pos h2, yw_nF (by decide), yw_app]; simp [h]
    · rw [if_neg h2, yw_nF (by decide), yw_app]; simp [h]
theorem cutY_51 {v i : Int} : cutY m v 51 i = if m 52 v = -1 ∧ i = m 49 v then m 53 v else m 51 i := by
  unfold cutY; try simp only
  have q : ∀ j, (if m 53 v = -1 then yw m 50 (m 49 v) (m 52 v) else yw m 52 (m 53 v) (m 52 v)) 51 j = m 51 j := fun j => by split <;> rw [yw_nF (by decide)]
  by_cases h2 : m 52 v = -1
  · rw [if_pos h2, yw_app, q]; simp [h2]
  · rw [if_neg h2, if_neg (show ¬ (m 52 v = -1 ∧ i = m 49 v) from fun z => h2 z.1), yw_nF (by decide)]; exact q i
theorem cutY_53 {v i : Int} : cutY m v 53 i = if m 52 v ≠ -1 ∧ i = m 52 v then m 53 v else m 53 i := by
  unfold cutY; try simp only
  have q : ∀ j, (if m 53 v = -1 then yw m 50 (m 49 v) (m 52 v) else yw m 52 (m 53 v) (m 52 v)) 53 j = m 53 j := fun j => by split <;> rw [yw_nF (by decide)]
  by_cases h2 : m 52 v = -1
  · rw [if_pos h2, if_neg (show ¬ (m 52 v ≠ -1 ∧ i = m 52 v) from fun z => z.1 h2), yw_nF (by decide)]; exact q i
  · rw [if_neg h2, yw_app, q]; simp [h2]
theorem cutC_7 {v P b u s : Int} (hP : P ≠ b) : cutC n v P b 7 u s = if s = 3 ∧ b = -1 ∧ u = P then n 7 v 5 else if s = 5 ∧ b ≠ -1 ∧ u = b then n 7 v 5 else if s = 4 ∧ u = P ∧ n 7 P 4 = v then b else if s = 6 ∧ u = P then n 7 P 6 - 1 else n 7 u s := by
  unfold cutC; try simp only
  have q : ∀ x y, (if b = -1 then nw n 7 P 3 (n 7 v 5) else nw n 7 b 5 (n 7 v 5)) 7 x y = if y = 3 ∧ b = -1 ∧ x = P then n 7 v 5 else if y = 5 ∧ b ≠ -1 ∧ x = b then n 7 v 5 else n 7 x y := fun x y => by
    by_cases h : b = -1
    · rw [if_pos h, nw_app]
      repeat' split
      all_goals first | rfl | (exfalso; omega)
    · rw [if_neg h, nw_app]
      repeat' split
      all_goals first | rfl | (exfalso; omega)
  have q4 : (if b = -1 then nw n 7 P 3 (n 7 v 5) else nw n 7 b 5 (n 7 v 5)) 7 P 4 = n 7 P 4 := by rw [q, if_neg (by omega), if_neg (by omega)]
  generalize (if b = -1 then nw n 7 P 3 (n 7 v 5) else nw n 7 b 5 (n 7 v 5)) = n1 at *
  rw [q4]
  have q6 : n1 7 P 6 = n 7 P 6 := by rw [q, if_neg (by omega), if_neg (by omega)]
  by_cases h4 : n 7 P 4 = v
  · rw [if_pos h4, nw_app]
    have w6 : nw n1 7 P 4 b 7 P 6 = n 7 P 6 := by rw [nw_ns (by decide)]; exact q6
    rw [w6, nw_app, q]
    repeat' split
    all_goals first | rfl | (exfalso; omega)
  · rw [if_neg h4, nw_app, q6, q]
    repeat' split
    all_goals first | rfl | (exfalso; omega)
end C4
