/-- Bytes.isBlank -/
def fBlank (x : Int32) : Bool := decide (x = 10) || decide (x = 32)
theorem m_Bytes_isBlank (X : Nat → Option (Nat × (Nat → Int32))) (x : Int32) (h : ab_H) : mw X J_Bytes_isBlank [.int x] h (fun r h' => r = some (.int (bI (fBlank x))) ∧ h' = h) := by
  refine wp_p (j := J_Bytes_isBlank) 2 (pc' := 3) (lv' := [(0, .int x)]) (st' := [.int 10, .int x]) rfl ?_
  refine wp_if2 rfl (fun h1 => ?_) (fun h1 => ?_)
  · rw [show fBlank x = true by simp [fBlank, ab_eqT h1]]
    refine wp_p (j := J_Bytes_isBlank) 2 (pc' := 17) (lv' := [(0, .int x)]) (st' := [.int 1]) rfl ?_
    exact wp_iret (ty := .boolean) rfl rfl (by decide) ⟨rfl, rfl⟩
  · refine wp_p (j := J_Bytes_isBlank) 2 (pc' := 9) (lv' := [(0, .int x)]) (st' := [.int 32, .int x]) rfl ?_
    refine wp_if2 rfl (fun h2 => ?_) (fun h2 => ?_)
    · rw [show fBlank x = false by simp [fBlank, ab_eqF h1, ab_neT h2]]
      refine wp_p (j := J_Bytes_isBlank) 1 (pc' := 17) (lv' := [(0, .int x)]) (st' := [.int 0]) rfl ?_
      exact wp_iret (ty := .boolean) rfl rfl (by decide) ⟨rfl, rfl⟩
    · rw [show fBlank x = true by simp [fBlank, ab_neF h2]]
      refine wp_p (j := J_Bytes_isBlank) 2 (pc' := 17) (lv' := [(0, .int x)]) (st' := [.int 1]) rfl ?_
      exact wp_iret (ty := .boolean) rfl rfl (by decide) ⟨rfl, rfl⟩
