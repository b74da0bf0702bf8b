/-! A NODE COMES into both trees -/
section C0
variable {n : NS} {m : YS} {N k t c v q d : Int} {o e p : Int → Int}
/-- the fields of the reference behind it -/
theorem newY_o {f : Nat} {i : Int} (hv : v ≠ q) (h : ¬ (i = v ∧ (f = 45 ∨ f = 55 ∨ f = 54 ∨ f = 49 ∨ f = 50 ∨ f = 51 ∨ f = 52 ∨ f = 53 ∨ f = 56 ∨ f = 62 ∨ f = 63 ∨ f = 48 ∨ f = 65 ∨ f = 66))) (h2 : f ≠ 68 ∧ f ≠ 69) (h3 : f ≠ 50 ∧ f ≠ 51 ∧ f ≠ 52) : newY m v q d f i = m f i := by
  unfold newY newY0
  split
  · simp only [yw_app]; repeat rw [if_neg (by omega)]
  · split
    · simp only [yw_app]; repeat rw [if_neg (by omega)]
    · simp only [yw_app]; repeat rw [if_neg (by omega)]
theorem newY_v (hv : v ≠ q) : newY m v q d 45 v = 1 ∧ newY m v q d 55 v = m 69 0 + 1 ∧ newY m v q d 54 v = d ∧ newY m v q d 49 v = q ∧ newY m v q d 50 v = -1 ∧ newY m v q d 51 v = -1 ∧ (m 51 q ≠ v → newY m v q d 52 v = -1) ∧ newY m v q d 53 v = (if q = -1 then -1 else m 51 q) ∧ newY m v q d 56 v = 0 ∧ newY m v q d 62 v = 0 ∧ newY m v q d 63 v = 0 ∧ newY m v q d 48 v = 0 ∧ newY m v q d 65 v = 0 ∧ newY m v q d 66 v = 0 ∧ newY m v q d 68 0 = m 68 0 + 1 ∧ newY m v q d 69 0 = m 69 0 + 1 := by
  unfold newY newY0
  split
  · simp [yw_app]
  · split
    · simp [yw_app, hv]
    · refine ⟨?_, ?_, ?_, ?_, ?_, ?_, fun h => ?_, ?_, ?_, ?_, ?_, ?_, ?_, ?_, ?_, ?_⟩ <;> simp [yw_app, hv]
      exact fun z => absurd z.symm h
theorem newY_50 {i : Int} (hv : v ≠ q) (hi : i ≠ v) : newY m v q d 50 i = if i = q ∧ q ≠ -1 ∧ m 51 q = -1 then v else m 50 i := by
  unfold newY newY0
  by_cases h1 : q = -1
  · rw [if_pos h1, if_neg (by omega)]; simp [yw_app, hi]
  · rw [if_neg h1]
    by_cases h2 : m 51 q = -1
    · rw [if_pos h2]
      by_cases h3 : i = q
      · rw [if_pos ⟨h3, h1, h2⟩]; simp [yw_app, hi, h3]
      · rw [if_neg (by omega)]; simp [yw_app, hi, h3]
    · rw [if_neg h2, if_neg (by omega)]; simp [yw_app, hi]
theorem newY_51 {i : Int} (hv : v ≠ q) (hi : i ≠ v) : newY m v q d 51 i = if i = q ∧ q ≠ -1 then v else m 51 i := by
  unfold newY newY0
  by_cases h1 : q = -1
  · rw [if_pos h1, if_neg (by omega)]; simp [yw_app, hi]
  · rw [if_neg h1]
    by_cases h2 : m 51 q = -1
    · rw [if_pos h2]
      by_cases h3 : i = q
      · rw [if_pos (show i = q ∧ q ≠ -1 from ⟨h3, h1⟩)]; simp [yw_app, h3]
      · rw [if_neg (show ¬ (i = q ∧ q ≠ -1) from fun z => h3 z.1)]; simp [yw_app, hi, h3]
    · rw [if_neg h2]
      by_cases h3 : i = q
      · rw [if_pos (show i = q ∧ q ≠ -1 from ⟨h3, h1⟩)]; simp [yw_app, h3]
      · rw [if_neg (show ¬ (i = q ∧ q ≠ -1) from fun z => h3 z.1)]; simp [yw_app, hi, h3]
theorem newY_52 {i : Int} (hv : v ≠ q) (hi : i ≠ v) : newY m v q d 52 i = if q ≠ -1 ∧ m 51 q ≠ -1 ∧ i = m 51 q then v else m 52 i := by
  unfold newY newY0
  by_cases h1 : q = -1
  · rw [if_pos h1, if_neg (by omega)]; simp [yw_app, hi]
  · rw [if_neg h1]
    by_cases h2 : m 51 q = -1
    · rw [if_pos h2, if_neg (by omega)]; simp [yw_app, hi]
    · rw [if_neg h2]
      by_cases h3 : i = m 51 q
      · rw [if_pos ⟨h1, h2, h3⟩]; simp [yw_app, h3]
      · rw [if_neg (by omega)]; simp [yw_app, hi, h3]
/-- the class's -/
theorem newC_K {K : Nat} (h : K ≠ 7 ∧ K ≠ 4 ∧ K ≠ 10) : newC n v q t c K = n K := by
  unfold newC newC0
  split
  · repeat rw [nw_nK (by omega)]
  · split
    · repeat rw [nw_nK (by omega)]
    · repeat rw [nw_nK (by omega)]
theorem newC_4 {b s : Int} : newC n v q t c 4 b s = if b = 5 * v ∧ s = 2 then 0 else n 4 b s := by
  unfold newC newC0
  split
  · simp [nw_app]
  · split <;> simp [nw_app]
theorem newC_10 {s : Int} : newC n v q t c 10 0 s = if s = 5 then n 10 0 5 + 1 else if s = 6 then n 10 0 6 + 1 else if s = 7 then n 10 0 7 + 1 else n 10 0 s := by
  have : ∀ s : Int, newC0 n v q t c 10 0 s = if s = 5 then n 10 0 5 + 1 else if s = 6 then n 10 0 6 + 1 else if s = 7 then n 10 0 7 + 1 else n 10 0 s := fun s => by
    unfold newC0
    simp only [nw_app]
    by_cases h5 : s = 5
    · subst h5; simp
    · by_cases h6 : s = 6
      · subst h6; simp
      · by_cases h7 : s = 7
        · subst h7; simp
        · simp [h5, h6, h7]
  unfold newC
  split
  · exact this s
  · split
    · rw [nw_nK (by decide), nw_nK (by decide), nw_nK (by decide), nw_nK (by decide)]; exact this s
    · rw [nw_nK (by decide), nw_nK (by decide), nw_nK (by decide), nw_nK (by decide)]; exact this s
theorem newC_v (hv : v ≠ q) : newC n v q t c 7 v 0 = t ∧ newC n v q t c 7 v 1 = c ∧ newC n v q t c 7 v 2 = q ∧ newC n v q t c 7 v 3 = -1 ∧ newC n v q t c 7 v 4 = -1 ∧ (n 7 q 4 ≠ v → newC n v q t c 7 v 5 = -1) ∧ newC n v q t c 7 v 6 = 0 ∧ newC n v q t c 7 v 7 = (if q = -1 then 0 else n 7 q 7 + 1) ∧ newC n v q t c 7 v 10 = n 10 0 7 + 1 ∧ newC n v q t c 7 v 12 = 0 ∧ newC n v q t c 7 v 15 = 0 ∧ newC n v q t c 7 v 16 = 0 := by
  unfold newC newC0
  split
  · simp [nw_app]
  · split
    · simp [nw_app, hv]
    · refine ⟨?_, ?_, ?_, ?_, ?_, fun h => ?_, ?_, ?_, ?_, ?_, ?_, ?_⟩ <;> simp [nw_app, hv]
      exact fun z => absurd z.symm h
theorem newC_7 {i s : Int} (hv : v ≠ q) (hi : i ≠ v) : newC n v q t c 7 i s = if q ≠ -1 ∧ s = 3 ∧ i = q ∧ n 7 q 4 = -1 then v else if q ≠ -1 ∧ s = 5 ∧ n 7 q 4 ≠ -1 ∧ i = n 7 q 4 then v else if q ≠ -1 ∧ s = 4 ∧ i = q then v else if q ≠ -1 ∧ s = 6 ∧ i = q then n 7 q 6 + 1 else n 7 i s := by
  have h0 : newC0 n v q t c 7 i s = n 7 i s := by unfold newC0; simp [nw_app, hi]
  unfold newC
  by_cases h1 : q = -1
  · rw [if_pos h1, h0, if_neg (by omega), if_neg (by omega), if_neg (by omega), if_neg (by omega)]
  · rw [if_neg h1]
    by_cases h2 : n 7 q 4 = -1
    · rw [if_pos h2]
      simp only [nw_app]
      rw [h0]
      by_cases a6 : i = q ∧ s = 6
      · rw [if_pos ⟨trivial, a6⟩, if_neg (by omega), if_neg (by omega), if_neg (by omega), if_pos (by omega)]
      · rw [if_neg (fun z => a6 z.2)]
        by_cases a4 : i = q ∧ s = 4
        · rw [if_pos ⟨trivial, a4⟩, if_neg (by omega), if_neg (by omega), if_pos (by omega)]
        · rw [if_neg (fun z => a4 z.2)]
          by_cases a3 : i = q ∧ s = 3
          · rw [if_pos ⟨trivial, a3⟩, if_pos (by omega)]
          · rw [if_neg (fun z => a3 z.2), if_neg (fun z => hi z.2.1), if_neg (by omega), if_neg (by omega), if_neg (by omega), if_neg (by omega)]
    · rw [if_neg h2]
      simp only [nw_app]
      rw [h0]
      by_cases a6 : i = q ∧ s = 6
      · rw [if_pos ⟨trivial, a6⟩, if_neg (by omega), if_neg (by omega), if_neg (by omega), if_pos (by omega)]
      · rw [if_neg (fun z => a6 z.2)]
        by_cases a4 : i = q ∧ s = 4
        · rw [if_pos ⟨trivial, a4⟩, if_neg (by omega), if_neg (by omega), if_pos (by omega)]
        · rw [if_neg (fun z => a4 z.2)]
          by_cases a5 : i = n 7 q 4 ∧ s = 5
          · rw [if_pos ⟨trivial, a5⟩, if_neg (by omega), if_pos (by omega)]
          · rw [if_neg (fun z => a5 z.2), if_neg (fun z => hi z.2.1), if_neg (by omega), if_neg (by omega), if_neg (by omega), if_neg (by omega)]
end C0
