/-! methods without heap and loops: a function each -/
theorem nb_nar {x : Int32} (h : x = 0 ∨ x = 1) : narrow .boolean (.int x) = .int x := by rcases h with rfl | rfl <;> decide
def F_Address_isSegmentByte (x0 : Int32) : Int32 := (if ab_icmp .lt (x0) (97) = true then (if ab_icmp .lt (x0) (48) = true then (if ab_icmp .eq (x0) (46) = true then (1) else (if ab_icmp .eq (x0) (45) = true then (1) else (if ab_icmp .ne (x0) (95) = true then (0) else (1)))) else (if ab_icmp .le (x0) (57) = true then (1) else (if ab_icmp .eq (x0) (46) = true then (1) else (if ab_icmp .eq (x0) (45) = true then (1) else (if ab_icmp .ne (x0) (95) = true then (0) else (1)))))) else (if ab_icmp .le (x0) (122) = true then (1) else (if ab_icmp .lt (x0) (48) = true then (if ab_icmp .eq (x0) (46) = true then (1) else (if ab_icmp .eq (x0) (45) = true then (1) else (if ab_icmp .ne (x0) (95) = true then (0) else (1)))) else (if ab_icmp .le (x0) (57) = true then (1) else (if ab_icmp .eq (x0) (46) = true then (1) else (if ab_icmp .eq (x0) (45) = true then (1) else (if ab_icmp .ne (x0) (95) = true then (0) else (1))))))))
theorem nb_Address_isSegmentByte (x0 : Int32) : F_Address_isSegmentByte x0 = 0 ∨ F_Address_isSegmentByte x0 = 1 := by
  unfold F_Address_isSegmentByte
  repeat' split
  all_goals first | decide
set_option maxRecDepth 20000 in
theorem m_Address_isSegmentByte (X : Nat → Option (Nat × (Nat → Int32))) (x0 : Int32) (h : ab_H) : mw X J_Address_isSegmentByte [.int x0] h (fun r h' => r = some (.int (F_Address_isSegmentByte x0)) ∧ h' = h) := by
  refine wp_p (j := J_Address_isSegmentByte) 2 (pc' := 3) (lv' := [(0, .int (x0))]) (st' := [.int (97), .int (x0)]) rfl ?_
  refine wp_if2 rfl (fun h1 => ?_) (fun h1 => ?_)
  · refine wp_p (j := J_Address_isSegmentByte) 2 (pc' := 15) (lv' := [(0, .int (x0))]) (st' := [.int (48), .int (x0)]) rfl ?_
    refine wp_if2 rfl (fun h2 => ?_) (fun h2 => ?_)
    · refine wp_p (j := J_Address_isSegmentByte) 2 (pc' := 27) (lv' := [(0, .int (x0))]) (st' := [.int (46), .int (x0)]) rfl ?_
      refine wp_if2 rfl (fun h3 => ?_) (fun h3 => ?_)
      · refine wp_p (j := J_Address_isSegmentByte) 2 (pc' := 47) (lv' := [(0, .int (x0))]) (st' := [.int (1)]) rfl ?_
        exact wp_iret (ty := .boolean) rfl rfl (by decide) ⟨by simp only [F_Address_isSegmentByte, h1, h2, h3, if_true, if_false, Bool.false_eq_true], rfl⟩
      · refine wp_p (j := J_Address_isSegmentByte) 2 (pc' := 33) (lv' := [(0, .int (x0))]) (st' := [.int (45), .int (x0)]) rfl ?_
        refine wp_if2 rfl (fun h4 => ?_) (fun h4 => ?_)
        · refine wp_p (j := J_Address_isSegmentByte) 2 (pc' := 47) (lv' := [(0, .int (x0))]) (st' := [.int (1)]) rfl ?_
          exact wp_iret (ty := .boolean) rfl rfl (by decide) ⟨by simp only [F_Address_isSegmentByte, h1, h2, h3, h4, if_true, if_false, Bool.false_eq_true], rfl⟩
        · refine wp_p (j := J_Address_isSegmentByte) 2 (pc' := 39) (lv' := [(0, .int (x0))]) (st' := [.int (95), .int (x0)]) rfl ?_
          refine wp_if2 rfl (fun h5 => ?_) (fun h5 => ?_)
          · refine wp_p (j := J_Address_isSegmentByte) 1 (pc' := 47) (lv' := [(0, .int (x0))]) (st' := [.int (0)]) rfl ?_
            exact wp_iret (ty := .boolean) rfl rfl (by decide) ⟨by simp only [F_Address_isSegmentByte, h1, h2, h3, h4, h5, if_true, if_false, Bool.false_eq_true], rfl⟩
          · refine wp_p (j := J_Address_isSegmentByte) 2 (pc' := 47) (lv' := [(0, .int (x0))]) (st' := [.int (1)]) rfl ?_
            exact wp_iret (ty := .boolean) rfl rfl (by decide) ⟨by simp only [F_Address_isSegmentByte, h1, h2, h3, h4, h5, if_true, if_false, Bool.false_eq_true], rfl⟩
    · refine wp_p (j := J_Address_isSegmentByte) 2 (pc' := 21) (lv' := [(0, .int (x0))]) (st' := [.int (57), .int (x0)]) rfl ?_
      refine wp_if2 rfl (fun h6 => ?_) (fun h6 => ?_)
      · refine wp_p (j := J_Address_isSegmentByte) 2 (pc' := 47) (lv' := [(0, .int (x0))]) (st' := [.int (1)]) rfl ?_
        exact wp_iret (ty := .boolean) rfl rfl (by decide) ⟨by simp only [F_Address_isSegmentByte, h1, h2, h6, if_true, if_false, Bool.false_eq_true], rfl⟩
      · refine wp_p (j := J_Address_isSegmentByte) 2 (pc' := 27) (lv' := [(0, .int (x0))]) (st' := [.int (46), .int (x0)]) rfl ?_
        refine wp_if2 rfl (fun h7 => ?_) (fun h7 => ?_)
        · refine wp_p (j := J_Address_isSegmentByte) 2 (pc' := 47) (lv' := [(0, .int (x0))]) (st' := [.int (1)]) rfl ?_
          exact wp_iret (ty := .boolean) rfl rfl (by decide) ⟨by simp only [F_Address_isSegmentByte, h1, h2, h6, h7, if_true, if_false, Bool.false_eq_true], rfl⟩
        · refine wp_p (j := J_Address_isSegmentByte) 2 (pc' := 33) (lv' := [(0, .int (x0))]) (st' := [.int (45), .int (x0)]) rfl ?_
          refine wp_if2 rfl (fun h8 => ?_) (fun h8 => ?_)
          · refine wp_p (j := J_Address_isSegmentByte) 2 (pc' := 47) (lv' := [(0, .int (x0))]) (st' := [.int (1)]) rfl ?_
            exact wp_iret (ty := .boolean) rfl rfl (by decide) ⟨by simp only [F_Address_isSegmentByte, h1, h2, h6, h7, h8, if_true, if_false, Bool.false_eq_true], rfl⟩
          · refine wp_p (j := J_Address_isSegmentByte) 2 (pc' := 39) (lv' := [(0, .int (x0))]) (st' := [.int (95), .int (x0)]) rfl ?_
            refine wp_if2 rfl (fun h9 => ?_) (fun h9 => ?_)
            · refine wp_p (j := J_Address_isSegmentByte) 1 (pc' := 47) (lv' := [(0, .int (x0))]) (st' := [.int (0)]) rfl ?_
              exact wp_iret (ty := .boolean) rfl rfl (by decide) ⟨by simp only [F_Address_isSegmentByte, h1, h2, h6, h7, h8, h9, if_true, if_false, Bool.false_eq_true], rfl⟩
            · refine wp_p (j := J_Address_isSegmentByte) 2 (pc' := 47) (lv' := [(0, .int (x0))]) (st' := [.int (1)]) rfl ?_
              exact wp_iret (ty := .boolean) rfl rfl (by decide) ⟨by simp only [F_Address_isSegmentByte, h1, h2, h6, h7, h8, h9, if_true, if_false, Bool.false_eq_true], rfl⟩
  · refine wp_p (j := J_Address_isSegmentByte) 2 (pc' := 9) (lv' := [(0, .int (x0))]) (st' := [.int (122), .int (x0)]) rfl ?_
    refine wp_if2 rfl (fun h10 => ?_) (fun h10 => ?_)
    · refine wp_p (j := J_Address_isSegmentByte) 2 (pc' := 47) (lv' := [(0, .int (x0))]) (st' := [.int (1)]) rfl ?_
      exact wp_iret (ty := .boolean) rfl rfl (by decide) ⟨by simp only [F_Address_isSegmentByte, h1, h10, if_true, if_false, Bool.false_eq_true], rfl⟩
    · refine wp_p (j := J_Address_isSegmentByte) 2 (pc' := 15) (lv' := [(0, .int (x0))]) (st' := [.int (48), .int (x0)]) rfl ?_
      refine wp_if2 rfl (fun h11 => ?_) (fun h11 => ?_)
      · refine wp_p (j := J_Address_isSegmentByte) 2 (pc' := 27) (lv' := [(0, .int (x0))]) (st' := [.int (46), .int (x0)]) rfl ?_
        refine wp_if2 rfl (fun h12 => ?_) (fun h12 => ?_)
        · refine wp_p (j := J_Address_isSegmentByte) 2 (pc' := 47) (lv' := [(0, .int (x0))]) (st' := [.int (1)]) rfl ?_
          exact wp_iret (ty := .boolean) rfl rfl (by decide) ⟨by simp only [F_Address_isSegmentByte, h1, h10, h11, h12, if_true, if_false, Bool.false_eq_true], rfl⟩
        · refine wp_p (j := J_Address_isSegmentByte) 2 (pc' := 33) (lv' := [(0, .int (x0))]) (st' := [.int (45), .int (x0)]) rfl ?_
          refine wp_if2 rfl (fun h13 => ?_) (fun h13 => ?_)
          · refine wp_p (j := J_Address_isSegmentByte) 2 (pc' := 47) (lv' := [(0, .int (x0))]) (st' := [.int (1)]) rfl ?_
            exact wp_iret (ty := .boolean) rfl rfl (by decide) ⟨by simp only [F_Address_isSegmentByte, h1, h10, h11, h12, h13, if_true, if_false, Bool.false_eq_true], rfl⟩
          · refine wp_p (j := J_Address_isSegmentByte) 2 (pc' := 39) (lv' := [(0, .int (x0))]) (st' := [.int (95), .int (x0)]) rfl ?_
            refine wp_if2 rfl (fun h14 => ?_) (fun h14 => ?_)
            · refine wp_p (j := J_Address_isSegmentByte) 1 (pc' := 47) (lv' := [(0, .int (x0))]) (st' := [.int (0)]) rfl ?_
              exact wp_iret (ty := .boolean) rfl rfl (by decide) ⟨by simp only [F_Address_isSegmentByte, h1, h10, h11, h12, h13, h14, if_true, if_false, Bool.false_eq_true], rfl⟩
            · refine wp_p (j := J_Address_isSegmentByte) 2 (pc' := 47) (lv' := [(0, .int (x0))]) (st' := [.int (1)]) rfl ?_
              exact wp_iret (ty := .boolean) rfl rfl (by decide) ⟨by simp only [F_Address_isSegmentByte, h1, h10, h11, h12, h13, h14, if_true, if_false, Bool.false_eq_true], rfl⟩
      · refine wp_p (j := J_Address_isSegmentByte) 2 (pc' := 21) (lv' := [(0, .int (x0))]) (st' := [.int (57), .int (x0)]) rfl ?_
        refine wp_if2 rfl (fun h15 => ?_) (fun h15 => ?_)
        · refine wp_p (j := J_Address_isSegmentByte) 2 (pc' := 47) (lv' := [(0, .int (x0))]) (st' := [.int (1)]) rfl ?_
          exact wp_iret (ty := .boolean) rfl rfl (by decide) ⟨by simp only [F_Address_isSegmentByte, h1, h10, h11, h15, if_true, if_false, Bool.false_eq_true], rfl⟩
        · refine wp_p (j := J_Address_isSegmentByte) 2 (pc' := 27) (lv' := [(0, .int (x0))]) (st' := [.int (46), .int (x0)]) rfl ?_
          refine wp_if2 rfl (fun h16 => ?_) (fun h16 => ?_)
          · refine wp_p (j := J_Address_isSegmentByte) 2 (pc' := 47) (lv' := [(0, .int (x0))]) (st' := [.int (1)]) rfl ?_
            exact wp_iret (ty := .boolean) rfl rfl (by decide) ⟨by simp only [F_Address_isSegmentByte, h1, h10, h11, h15, h16, if_true, if_false, Bool.false_eq_true], rfl⟩
          · refine wp_p (j := J_Address_isSegmentByte) 2 (pc' := 33) (lv' := [(0, .int (x0))]) (st' := [.int (45), .int (x0)]) rfl ?_
            refine wp_if2 rfl (fun h17 => ?_) (fun h17 => ?_)
            · refine wp_p (j := J_Address_isSegmentByte) 2 (pc' := 47) (lv' := [(0, .int (x0))]) (st' := [.int (1)]) rfl ?_
              exact wp_iret (ty := .boolean) rfl rfl (by decide) ⟨by simp only [F_Address_isSegmentByte, h1, h10, h11, h15, h16, h17, if_true, if_false, Bool.false_eq_true], rfl⟩
            · refine wp_p (j := J_Address_isSegmentByte) 2 (pc' := 39) (lv' := [(0, .int (x0))]) (st' := [.int (95), .int (x0)]) rfl ?_
              refine wp_if2 rfl (fun h18 => ?_) (fun h18 => ?_)
              · refine wp_p (j := J_Address_isSegmentByte) 1 (pc' := 47) (lv' := [(0, .int (x0))]) (st' := [.int (0)]) rfl ?_
                exact wp_iret (ty := .boolean) rfl rfl (by decide) ⟨by simp only [F_Address_isSegmentByte, h1, h10, h11, h15, h16, h17, h18, if_true, if_false, Bool.false_eq_true], rfl⟩
              · refine wp_p (j := J_Address_isSegmentByte) 2 (pc' := 47) (lv' := [(0, .int (x0))]) (st' := [.int (1)]) rfl ?_
                exact wp_iret (ty := .boolean) rfl rfl (by decide) ⟨by simp only [F_Address_isSegmentByte, h1, h10, h11, h15, h16, h17, h18, if_true, if_false, Bool.false_eq_true], rfl⟩
def F_Bytes_isBlank (x0 : Int32) : Int32 := (if ab_icmp .eq (x0) (10) = true then (1) else (if ab_icmp .ne (x0) (32) = true then (0) else (1)))
theorem nb_Bytes_isBlank (x0 : Int32) : F_Bytes_isBlank x0 = 0 ∨ F_Bytes_isBlank x0 = 1 := by
  unfold F_Bytes_isBlank
  repeat' split
  all_goals first | decide
set_option maxRecDepth 20000 in
theorem m_Bytes_isBlank (X : Nat → Option (Nat × (Nat → Int32))) (x0 : Int32) (h : ab_H) : mw X J_Bytes_isBlank [.int x0] h (fun r h' => r = some (.int (F_Bytes_isBlank x0)) ∧ h' = h) := by
  refine wp_p (j := J_Bytes_isBlank) 2 (pc' := 3) (lv' := [(0, .int (x0))]) (st' := [.int (10), .int (x0)]) rfl ?_
  refine wp_if2 rfl (fun h1 => ?_) (fun h1 => ?_)
  · refine wp_p (j := J_Bytes_isBlank) 2 (pc' := 17) (lv' := [(0, .int (x0))]) (st' := [.int (1)]) rfl ?_
    exact wp_iret (ty := .boolean) rfl rfl (by decide) ⟨by simp only [F_Bytes_isBlank, h1, if_true, if_false, Bool.false_eq_true], rfl⟩
  · refine wp_p (j := J_Bytes_isBlank) 2 (pc' := 9) (lv' := [(0, .int (x0))]) (st' := [.int (32), .int (x0)]) rfl ?_
    refine wp_if2 rfl (fun h2 => ?_) (fun h2 => ?_)
    · refine wp_p (j := J_Bytes_isBlank) 1 (pc' := 17) (lv' := [(0, .int (x0))]) (st' := [.int (0)]) rfl ?_
      exact wp_iret (ty := .boolean) rfl rfl (by decide) ⟨by simp only [F_Bytes_isBlank, h1, h2, if_true, if_false, Bool.false_eq_true], rfl⟩
    · refine wp_p (j := J_Bytes_isBlank) 2 (pc' := 17) (lv' := [(0, .int (x0))]) (st' := [.int (1)]) rfl ?_
      exact wp_iret (ty := .boolean) rfl rfl (by decide) ⟨by simp only [F_Bytes_isBlank, h1, h2, if_true, if_false, Bool.false_eq_true], rfl⟩
def F_Bytes_isDigit (x0 : Int32) : Int32 := (if ab_icmp .lt (x0) (48) = true then (0) else (if ab_icmp .gt (x0) (57) = true then (0) else (1)))
theorem nb_Bytes_isDigit (x0 : Int32) : F_Bytes_isDigit x0 = 0 ∨ F_Bytes_isDigit x0 = 1 := by
  unfold F_Bytes_isDigit
  repeat' split
  all_goals first | decide
set_option maxRecDepth 20000 in
theorem m_Bytes_isDigit (X : Nat → Option (Nat × (Nat → Int32))) (x0 : Int32) (h : ab_H) : mw X J_Bytes_isDigit [.int x0] h (fun r h' => r = some (.int (F_Bytes_isDigit x0)) ∧ h' = h) := by
  refine wp_p (j := J_Bytes_isDigit) 2 (pc' := 3) (lv' := [(0, .int (x0))]) (st' := [.int (48), .int (x0)]) rfl ?_
  refine wp_if2 rfl (fun h1 => ?_) (fun h1 => ?_)
  · refine wp_p (j := J_Bytes_isDigit) 1 (pc' := 17) (lv' := [(0, .int (x0))]) (st' := [.int (0)]) rfl ?_
    exact wp_iret (ty := .boolean) rfl rfl (by decide) ⟨by simp only [F_Bytes_isDigit, h1, if_true, if_false, Bool.false_eq_true], rfl⟩
  · refine wp_p (j := J_Bytes_isDigit) 2 (pc' := 9) (lv' := [(0, .int (x0))]) (st' := [.int (57), .int (x0)]) rfl ?_
    refine wp_if2 rfl (fun h2 => ?_) (fun h2 => ?_)
    · refine wp_p (j := J_Bytes_isDigit) 1 (pc' := 17) (lv' := [(0, .int (x0))]) (st' := [.int (0)]) rfl ?_
      exact wp_iret (ty := .boolean) rfl rfl (by decide) ⟨by simp only [F_Bytes_isDigit, h1, h2, if_true, if_false, Bool.false_eq_true], rfl⟩
    · refine wp_p (j := J_Bytes_isDigit) 2 (pc' := 17) (lv' := [(0, .int (x0))]) (st' := [.int (1)]) rfl ?_
      exact wp_iret (ty := .boolean) rfl rfl (by decide) ⟨by simp only [F_Bytes_isDigit, h1, h2, if_true, if_false, Bool.false_eq_true], rfl⟩
def F_Bytes_isLetter (x0 : Int32) : Int32 := (if ab_icmp .lt (x0) (97) = true then (if ab_icmp .lt (x0) (65) = true then (0) else (if ab_icmp .gt (x0) (90) = true then (0) else (1))) else (if ab_icmp .le (x0) (122) = true then (1) else (if ab_icmp .lt (x0) (65) = true then (0) else (if ab_icmp .gt (x0) (90) = true then (0) else (1)))))
theorem nb_Bytes_isLetter (x0 : Int32) : F_Bytes_isLetter x0 = 0 ∨ F_Bytes_isLetter x0 = 1 := by
  unfold F_Bytes_isLetter
  repeat' split
  all_goals first | decide
set_option maxRecDepth 20000 in
theorem m_Bytes_isLetter (X : Nat → Option (Nat × (Nat → Int32))) (x0 : Int32) (h : ab_H) : mw X J_Bytes_isLetter [.int x0] h (fun r h' => r = some (.int (F_Bytes_isLetter x0)) ∧ h' = h) := by
  refine wp_p (j := J_Bytes_isLetter) 2 (pc' := 3) (lv' := [(0, .int (x0))]) (st' := [.int (97), .int (x0)]) rfl ?_
  refine wp_if2 rfl (fun h1 => ?_) (fun h1 => ?_)
  · refine wp_p (j := J_Bytes_isLetter) 2 (pc' := 15) (lv' := [(0, .int (x0))]) (st' := [.int (65), .int (x0)]) rfl ?_
    refine wp_if2 rfl (fun h2 => ?_) (fun h2 => ?_)
    · refine wp_p (j := J_Bytes_isLetter) 1 (pc' := 29) (lv' := [(0, .int (x0))]) (st' := [.int (0)]) rfl ?_
      exact wp_iret (ty := .boolean) rfl rfl (by decide) ⟨by simp only [F_Bytes_isLetter, h1, h2, if_true, if_false, Bool.false_eq_true], rfl⟩
    · refine wp_p (j := J_Bytes_isLetter) 2 (pc' := 21) (lv' := [(0, .int (x0))]) (st' := [.int (90), .int (x0)]) rfl ?_
      refine wp_if2 rfl (fun h3 => ?_) (fun h3 => ?_)
      · refine wp_p (j := J_Bytes_isLetter) 1 (pc' := 29) (lv' := [(0, .int (x0))]) (st' := [.int (0)]) rfl ?_
        exact wp_iret (ty := .boolean) rfl rfl (by decide) ⟨by simp only [F_Bytes_isLetter, h1, h2, h3, if_true, if_false, Bool.false_eq_true], rfl⟩
      · refine wp_p (j := J_Bytes_isLetter) 2 (pc' := 29) (lv' := [(0, .int (x0))]) (st' := [.int (1)]) rfl ?_
        exact wp_iret (ty := .boolean) rfl rfl (by decide) ⟨by simp only [F_Bytes_isLetter, h1, h2, h3, if_true, if_false, Bool.false_eq_true], rfl⟩
  · refine wp_p (j := J_Bytes_isLetter) 2 (pc' := 9) (lv' := [(0, .int (x0))]) (st' := [.int (122), .int (x0)]) rfl ?_
    refine wp_if2 rfl (fun h4 => ?_) (fun h4 => ?_)
    · refine wp_p (j := J_Bytes_isLetter) 2 (pc' := 29) (lv' := [(0, .int (x0))]) (st' := [.int (1)]) rfl ?_
      exact wp_iret (ty := .boolean) rfl rfl (by decide) ⟨by simp only [F_Bytes_isLetter, h1, h4, if_true, if_false, Bool.false_eq_true], rfl⟩
    · refine wp_p (j := J_Bytes_isLetter) 2 (pc' := 15) (lv' := [(0, .int (x0))]) (st' := [.int (65), .int (x0)]) rfl ?_
      refine wp_if2 rfl (fun h5 => ?_) (fun h5 => ?_)
      · refine wp_p (j := J_Bytes_isLetter) 1 (pc' := 29) (lv' := [(0, .int (x0))]) (st' := [.int (0)]) rfl ?_
        exact wp_iret (ty := .boolean) rfl rfl (by decide) ⟨by simp only [F_Bytes_isLetter, h1, h4, h5, if_true, if_false, Bool.false_eq_true], rfl⟩
      · refine wp_p (j := J_Bytes_isLetter) 2 (pc' := 21) (lv' := [(0, .int (x0))]) (st' := [.int (90), .int (x0)]) rfl ?_
        refine wp_if2 rfl (fun h6 => ?_) (fun h6 => ?_)
        · refine wp_p (j := J_Bytes_isLetter) 1 (pc' := 29) (lv' := [(0, .int (x0))]) (st' := [.int (0)]) rfl ?_
          exact wp_iret (ty := .boolean) rfl rfl (by decide) ⟨by simp only [F_Bytes_isLetter, h1, h4, h5, h6, if_true, if_false, Bool.false_eq_true], rfl⟩
        · refine wp_p (j := J_Bytes_isLetter) 2 (pc' := 29) (lv' := [(0, .int (x0))]) (st' := [.int (1)]) rfl ?_
          exact wp_iret (ty := .boolean) rfl rfl (by decide) ⟨by simp only [F_Bytes_isLetter, h1, h4, h5, h6, if_true, if_false, Bool.false_eq_true], rfl⟩
def F_Bytes_isSmall (x0 : Int32) : Int32 := (if ab_icmp .lt (x0) (97) = true then (0) else (if ab_icmp .gt (x0) (122) = true then (0) else (1)))
theorem nb_Bytes_isSmall (x0 : Int32) : F_Bytes_isSmall x0 = 0 ∨ F_Bytes_isSmall x0 = 1 := by
  unfold F_Bytes_isSmall
  repeat' split
  all_goals first | decide
set_option maxRecDepth 20000 in
theorem m_Bytes_isSmall (X : Nat → Option (Nat × (Nat → Int32))) (x0 : Int32) (h : ab_H) : mw X J_Bytes_isSmall [.int x0] h (fun r h' => r = some (.int (F_Bytes_isSmall x0)) ∧ h' = h) := by
  refine wp_p (j := J_Bytes_isSmall) 2 (pc' := 3) (lv' := [(0, .int (x0))]) (st' := [.int (97), .int (x0)]) rfl ?_
  refine wp_if2 rfl (fun h1 => ?_) (fun h1 => ?_)
  · refine wp_p (j := J_Bytes_isSmall) 1 (pc' := 17) (lv' := [(0, .int (x0))]) (st' := [.int (0)]) rfl ?_
    exact wp_iret (ty := .boolean) rfl rfl (by decide) ⟨by simp only [F_Bytes_isSmall, h1, if_true, if_false, Bool.false_eq_true], rfl⟩
  · refine wp_p (j := J_Bytes_isSmall) 2 (pc' := 9) (lv' := [(0, .int (x0))]) (st' := [.int (122), .int (x0)]) rfl ?_
    refine wp_if2 rfl (fun h2 => ?_) (fun h2 => ?_)
    · refine wp_p (j := J_Bytes_isSmall) 1 (pc' := 17) (lv' := [(0, .int (x0))]) (st' := [.int (0)]) rfl ?_
      exact wp_iret (ty := .boolean) rfl rfl (by decide) ⟨by simp only [F_Bytes_isSmall, h1, h2, if_true, if_false, Bool.false_eq_true], rfl⟩
    · refine wp_p (j := J_Bytes_isSmall) 2 (pc' := 17) (lv' := [(0, .int (x0))]) (st' := [.int (1)]) rfl ?_
      exact wp_iret (ty := .boolean) rfl rfl (by decide) ⟨by simp only [F_Bytes_isSmall, h1, h2, if_true, if_false, Bool.false_eq_true], rfl⟩
def F_Y_wrong (x0 : Int32) : Int32 := (((-1000)) - (x0))
set_option maxRecDepth 20000 in
theorem m_Y_wrong (X : Nat → Option (Nat × (Nat → Int32))) (x0 : Int32) (h : ab_H) : mw X J_Y_wrong [.int x0] h (fun r h' => r = some (.int (F_Y_wrong x0)) ∧ h' = h) := by
  refine wp_p (j := J_Y_wrong) 3 (pc' := 5) (lv' := [(0, .int (x0))]) (st' := [.int (((-1000)) - (x0))]) rfl ?_
  exact wp_iret (ty := .int) rfl rfl rfl ⟨by simp only [F_Y_wrong, if_true, if_false, Bool.false_eq_true], rfl⟩
def F_Y_isBlank (x0 : Int32) : Int32 := (if ab_icmp .eq (x0) (10) = true then (1) else (if ab_icmp .ne (x0) (32) = true then (0) else (1)))
theorem nb_Y_isBlank (x0 : Int32) : F_Y_isBlank x0 = 0 ∨ F_Y_isBlank x0 = 1 := by
  unfold F_Y_isBlank
  repeat' split
  all_goals first | decide
set_option maxRecDepth 20000 in
theorem m_Y_isBlank (X : Nat → Option (Nat × (Nat → Int32))) (x0 : Int32) (h : ab_H) : mw X J_Y_isBlank [.int x0] h (fun r h' => r = some (.int (F_Y_isBlank x0)) ∧ h' = h) := by
  refine wp_p (j := J_Y_isBlank) 2 (pc' := 3) (lv' := [(0, .int (x0))]) (st' := [.int (10), .int (x0)]) rfl ?_
  refine wp_if2 rfl (fun h1 => ?_) (fun h1 => ?_)
  · refine wp_p (j := J_Y_isBlank) 2 (pc' := 17) (lv' := [(0, .int (x0))]) (st' := [.int (1)]) rfl ?_
    exact wp_iret (ty := .boolean) rfl rfl (by decide) ⟨by simp only [F_Y_isBlank, h1, if_true, if_false, Bool.false_eq_true], rfl⟩
  · refine wp_p (j := J_Y_isBlank) 2 (pc' := 9) (lv' := [(0, .int (x0))]) (st' := [.int (32), .int (x0)]) rfl ?_
    refine wp_if2 rfl (fun h2 => ?_) (fun h2 => ?_)
    · refine wp_p (j := J_Y_isBlank) 1 (pc' := 17) (lv' := [(0, .int (x0))]) (st' := [.int (0)]) rfl ?_
      exact wp_iret (ty := .boolean) rfl rfl (by decide) ⟨by simp only [F_Y_isBlank, h1, h2, if_true, if_false, Bool.false_eq_true], rfl⟩
    · refine wp_p (j := J_Y_isBlank) 2 (pc' := 17) (lv' := [(0, .int (x0))]) (st' := [.int (1)]) rfl ?_
      exact wp_iret (ty := .boolean) rfl rfl (by decide) ⟨by simp only [F_Y_isBlank, h1, h2, if_true, if_false, Bool.false_eq_true], rfl⟩
def F_Y_isSmall (x0 : Int32) : Int32 := (if ab_icmp .lt (x0) (97) = true then (0) else (if ab_icmp .gt (x0) (122) = true then (0) else (1)))
theorem nb_Y_isSmall (x0 : Int32) : F_Y_isSmall x0 = 0 ∨ F_Y_isSmall x0 = 1 := by
  unfold F_Y_isSmall
  repeat' split
  all_goals first | decide
set_option maxRecDepth 20000 in
theorem m_Y_isSmall (X : Nat → Option (Nat × (Nat → Int32))) (x0 : Int32) (h : ab_H) : mw X J_Y_isSmall [.int x0] h (fun r h' => r = some (.int (F_Y_isSmall x0)) ∧ h' = h) := by
  refine wp_p (j := J_Y_isSmall) 2 (pc' := 3) (lv' := [(0, .int (x0))]) (st' := [.int (97), .int (x0)]) rfl ?_
  refine wp_if2 rfl (fun h1 => ?_) (fun h1 => ?_)
  · refine wp_p (j := J_Y_isSmall) 1 (pc' := 17) (lv' := [(0, .int (x0))]) (st' := [.int (0)]) rfl ?_
    exact wp_iret (ty := .boolean) rfl rfl (by decide) ⟨by simp only [F_Y_isSmall, h1, if_true, if_false, Bool.false_eq_true], rfl⟩
  · refine wp_p (j := J_Y_isSmall) 2 (pc' := 9) (lv' := [(0, .int (x0))]) (st' := [.int (122), .int (x0)]) rfl ?_
    refine wp_if2 rfl (fun h2 => ?_) (fun h2 => ?_)
    · refine wp_p (j := J_Y_isSmall) 1 (pc' := 17) (lv' := [(0, .int (x0))]) (st' := [.int (0)]) rfl ?_
      exact wp_iret (ty := .boolean) rfl rfl (by decide) ⟨by simp only [F_Y_isSmall, h1, h2, if_true, if_false, Bool.false_eq_true], rfl⟩
    · refine wp_p (j := J_Y_isSmall) 2 (pc' := 17) (lv' := [(0, .int (x0))]) (st' := [.int (1)]) rfl ?_
      exact wp_iret (ty := .boolean) rfl rfl (by decide) ⟨by simp only [F_Y_isSmall, h1, h2, if_true, if_false, Bool.false_eq_true], rfl⟩
def F_Y_isDigit (x0 : Int32) : Int32 := (if ab_icmp .lt (x0) (48) = true then (0) else (if ab_icmp .gt (x0) (57) = true then (0) else (1)))
theorem nb_Y_isDigit (x0 : Int32) : F_Y_isDigit x0 = 0 ∨ F_Y_isDigit x0 = 1 := by
  unfold F_Y_isDigit
  repeat' split
  all_goals first | decide
set_option maxRecDepth 20000 in
theorem m_Y_isDigit (X : Nat → Option (Nat × (Nat → Int32))) (x0 : Int32) (h : ab_H) : mw X J_Y_isDigit [.int x0] h (fun r h' => r = some (.int (F_Y_isDigit x0)) ∧ h' = h) := by
  refine wp_p (j := J_Y_isDigit) 2 (pc' := 3) (lv' := [(0, .int (x0))]) (st' := [.int (48), .int (x0)]) rfl ?_
  refine wp_if2 rfl (fun h1 => ?_) (fun h1 => ?_)
  · refine wp_p (j := J_Y_isDigit) 1 (pc' := 17) (lv' := [(0, .int (x0))]) (st' := [.int (0)]) rfl ?_
    exact wp_iret (ty := .boolean) rfl rfl (by decide) ⟨by simp only [F_Y_isDigit, h1, if_true, if_false, Bool.false_eq_true], rfl⟩
  · refine wp_p (j := J_Y_isDigit) 2 (pc' := 9) (lv' := [(0, .int (x0))]) (st' := [.int (57), .int (x0)]) rfl ?_
    refine wp_if2 rfl (fun h2 => ?_) (fun h2 => ?_)
    · refine wp_p (j := J_Y_isDigit) 1 (pc' := 17) (lv' := [(0, .int (x0))]) (st' := [.int (0)]) rfl ?_
      exact wp_iret (ty := .boolean) rfl rfl (by decide) ⟨by simp only [F_Y_isDigit, h1, h2, if_true, if_false, Bool.false_eq_true], rfl⟩
    · refine wp_p (j := J_Y_isDigit) 2 (pc' := 17) (lv' := [(0, .int (x0))]) (st' := [.int (1)]) rfl ?_
      exact wp_iret (ty := .boolean) rfl rfl (by decide) ⟨by simp only [F_Y_isDigit, h1, h2, if_true, if_false, Bool.false_eq_true], rfl⟩
def F_Y_isSegment (x0 : Int32) : Int32 := (if ab_icmp .ne (F_Y_isSmall (x0)) (0) = true then (1) else (if ab_icmp .ne (F_Y_isDigit (x0)) (0) = true then (1) else (if ab_icmp .eq (x0) (46) = true then (1) else (if ab_icmp .eq (x0) (45) = true then (1) else (if ab_icmp .ne (x0) (95) = true then (0) else (1))))))
theorem nb_Y_isSegment (x0 : Int32) : F_Y_isSegment x0 = 0 ∨ F_Y_isSegment x0 = 1 := by
  unfold F_Y_isSegment
  repeat' split
  all_goals first | decide | exact nb_Y_isSmall _ | exact nb_Y_isDigit _
set_option maxRecDepth 20000 in
theorem m_Y_isSegment (X : Nat → Option (Nat × (Nat → Int32))) (x0 : Int32) (h : ab_H) : mw X J_Y_isSegment [.int x0] h (fun r h' => r = some (.int (F_Y_isSegment x0)) ∧ h' = h) := by
  refine wp_p (j := J_Y_isSegment) 1 (pc' := 1) (lv' := [(0, .int (x0))]) (st' := [.int (x0)]) rfl ?_
  refine wp_cs (As := [.int (x0)]) (rest := []) rfl (by decide) rfl (Nat.le_of_ble_eq_true rfl) (Nat.le_of_ble_eq_true rfl) (m_Y_isSmall X (x0) h) (fun v hh hv => ?_)
  rw [hv.1, hv.2]
  show wp X J_Y_isSegment 4 [(0, .int (x0))] [.int (F_Y_isSmall (x0))] h _
  refine wp_if1 rfl (fun h1 => ?_) (fun h1 => ?_)
  · refine wp_p (j := J_Y_isSegment) 2 (pc' := 37) (lv' := [(0, .int (x0))]) (st' := [.int (1)]) rfl ?_
    exact wp_iret (ty := .boolean) rfl rfl (by decide) ⟨by simp only [F_Y_isSegment, h1, if_true, if_false, Bool.false_eq_true], rfl⟩
  · refine wp_p (j := J_Y_isSegment) 1 (pc' := 8) (lv' := [(0, .int (x0))]) (st' := [.int (x0)]) rfl ?_
    refine wp_cs (As := [.int (x0)]) (rest := []) rfl (by decide) rfl (Nat.le_of_ble_eq_true rfl) (Nat.le_of_ble_eq_true rfl) (m_Y_isDigit X (x0) h) (fun v hh hv => ?_)
    rw [hv.1, hv.2]
    show wp X J_Y_isSegment 11 [(0, .int (x0))] [.int (F_Y_isDigit (x0))] h _
    refine wp_if1 rfl (fun h2 => ?_) (fun h2 => ?_)
    · refine wp_p (j := J_Y_isSegment) 2 (pc' := 37) (lv' := [(0, .int (x0))]) (st' := [.int (1)]) rfl ?_
      exact wp_iret (ty := .boolean) rfl rfl (by decide) ⟨by simp only [F_Y_isSegment, h1, h2, if_true, if_false, Bool.false_eq_true], rfl⟩
    · refine wp_p (j := J_Y_isSegment) 2 (pc' := 17) (lv' := [(0, .int (x0))]) (st' := [.int (46), .int (x0)]) rfl ?_
      refine wp_if2 rfl (fun h3 => ?_) (fun h3 => ?_)
      · refine wp_p (j := J_Y_isSegment) 2 (pc' := 37) (lv' := [(0, .int (x0))]) (st' := [.int (1)]) rfl ?_
        exact wp_iret (ty := .boolean) rfl rfl (by decide) ⟨by simp only [F_Y_isSegment, h1, h2, h3, if_true, if_false, Bool.false_eq_true], rfl⟩
      · refine wp_p (j := J_Y_isSegment) 2 (pc' := 23) (lv' := [(0, .int (x0))]) (st' := [.int (45), .int (x0)]) rfl ?_
        refine wp_if2 rfl (fun h4 => ?_) (fun h4 => ?_)
        · refine wp_p (j := J_Y_isSegment) 2 (pc' := 37) (lv' := [(0, .int (x0))]) (st' := [.int (1)]) rfl ?_
          exact wp_iret (ty := .boolean) rfl rfl (by decide) ⟨by simp only [F_Y_isSegment, h1, h2, h3, h4, if_true, if_false, Bool.false_eq_true], rfl⟩
        · refine wp_p (j := J_Y_isSegment) 2 (pc' := 29) (lv' := [(0, .int (x0))]) (st' := [.int (95), .int (x0)]) rfl ?_
          refine wp_if2 rfl (fun h5 => ?_) (fun h5 => ?_)
          · refine wp_p (j := J_Y_isSegment) 1 (pc' := 37) (lv' := [(0, .int (x0))]) (st' := [.int (0)]) rfl ?_
            exact wp_iret (ty := .boolean) rfl rfl (by decide) ⟨by simp only [F_Y_isSegment, h1, h2, h3, h4, h5, if_true, if_false, Bool.false_eq_true], rfl⟩
          · refine wp_p (j := J_Y_isSegment) 2 (pc' := 37) (lv' := [(0, .int (x0))]) (st' := [.int (1)]) rfl ?_
            exact wp_iret (ty := .boolean) rfl rfl (by decide) ⟨by simp only [F_Y_isSegment, h1, h2, h3, h4, h5, if_true, if_false, Bool.false_eq_true], rfl⟩
def F_Y_isQuery (x0 : Int32) : Int32 := (if ab_icmp .ne (F_Y_isSegment (x0)) (0) = true then (1) else (if ab_icmp .eq (x0) (61) = true then (1) else (if ab_icmp .eq (x0) (38) = true then (1) else (if ab_icmp .ne (x0) (43) = true then (0) else (1)))))
theorem nb_Y_isQuery (x0 : Int32) : F_Y_isQuery x0 = 0 ∨ F_Y_isQuery x0 = 1 := by
  unfold F_Y_isQuery
  repeat' split
  all_goals first | decide | exact nb_Y_isSegment _
set_option maxRecDepth 20000 in
theorem m_Y_isQuery (X : Nat → Option (Nat × (Nat → Int32))) (x0 : Int32) (h : ab_H) : mw X J_Y_isQuery [.int x0] h (fun r h' => r = some (.int (F_Y_isQuery x0)) ∧ h' = h) := by
  refine wp_p (j := J_Y_isQuery) 1 (pc' := 1) (lv' := [(0, .int (x0))]) (st' := [.int (x0)]) rfl ?_
  refine wp_cs (As := [.int (x0)]) (rest := []) rfl (by decide) rfl (Nat.le_of_ble_eq_true rfl) (Nat.le_of_ble_eq_true rfl) (m_Y_isSegment X (x0) h) (fun v hh hv => ?_)
  rw [hv.1, hv.2]
  show wp X J_Y_isQuery 4 [(0, .int (x0))] [.int (F_Y_isSegment (x0))] h _
  refine wp_if1 rfl (fun h1 => ?_) (fun h1 => ?_)
  · refine wp_p (j := J_Y_isQuery) 2 (pc' := 30) (lv' := [(0, .int (x0))]) (st' := [.int (1)]) rfl ?_
    exact wp_iret (ty := .boolean) rfl rfl (by decide) ⟨by simp only [F_Y_isQuery, h1, if_true, if_false, Bool.false_eq_true], rfl⟩
  · refine wp_p (j := J_Y_isQuery) 2 (pc' := 10) (lv' := [(0, .int (x0))]) (st' := [.int (61), .int (x0)]) rfl ?_
    refine wp_if2 rfl (fun h2 => ?_) (fun h2 => ?_)
    · refine wp_p (j := J_Y_isQuery) 2 (pc' := 30) (lv' := [(0, .int (x0))]) (st' := [.int (1)]) rfl ?_
      exact wp_iret (ty := .boolean) rfl rfl (by decide) ⟨by simp only [F_Y_isQuery, h1, h2, if_true, if_false, Bool.false_eq_true], rfl⟩
    · refine wp_p (j := J_Y_isQuery) 2 (pc' := 16) (lv' := [(0, .int (x0))]) (st' := [.int (38), .int (x0)]) rfl ?_
      refine wp_if2 rfl (fun h3 => ?_) (fun h3 => ?_)
      · refine wp_p (j := J_Y_isQuery) 2 (pc' := 30) (lv' := [(0, .int (x0))]) (st' := [.int (1)]) rfl ?_
        exact wp_iret (ty := .boolean) rfl rfl (by decide) ⟨by simp only [F_Y_isQuery, h1, h2, h3, if_true, if_false, Bool.false_eq_true], rfl⟩
      · refine wp_p (j := J_Y_isQuery) 2 (pc' := 22) (lv' := [(0, .int (x0))]) (st' := [.int (43), .int (x0)]) rfl ?_
        refine wp_if2 rfl (fun h4 => ?_) (fun h4 => ?_)
        · refine wp_p (j := J_Y_isQuery) 1 (pc' := 30) (lv' := [(0, .int (x0))]) (st' := [.int (0)]) rfl ?_
          exact wp_iret (ty := .boolean) rfl rfl (by decide) ⟨by simp only [F_Y_isQuery, h1, h2, h3, h4, if_true, if_false, Bool.false_eq_true], rfl⟩
        · refine wp_p (j := J_Y_isQuery) 2 (pc' := 30) (lv' := [(0, .int (x0))]) (st' := [.int (1)]) rfl ?_
          exact wp_iret (ty := .boolean) rfl rfl (by decide) ⟨by simp only [F_Y_isQuery, h1, h2, h3, h4, if_true, if_false, Bool.false_eq_true], rfl⟩
def F_Y_isEmptyTag (x0 : Int32) : Int32 := (if ab_icmp .lt (x0) (10) = true then (0) else (if ab_icmp .gt (x0) (13) = true then (0) else (1)))
theorem nb_Y_isEmptyTag (x0 : Int32) : F_Y_isEmptyTag x0 = 0 ∨ F_Y_isEmptyTag x0 = 1 := by
  unfold F_Y_isEmptyTag
  repeat' split
  all_goals first | decide
set_option maxRecDepth 20000 in
theorem m_Y_isEmptyTag (X : Nat → Option (Nat × (Nat → Int32))) (x0 : Int32) (h : ab_H) : mw X J_Y_isEmptyTag [.int x0] h (fun r h' => r = some (.int (F_Y_isEmptyTag x0)) ∧ h' = h) := by
  refine wp_p (j := J_Y_isEmptyTag) 2 (pc' := 3) (lv' := [(0, .int (x0))]) (st' := [.int (10), .int (x0)]) rfl ?_
  refine wp_if2 rfl (fun h1 => ?_) (fun h1 => ?_)
  · refine wp_p (j := J_Y_isEmptyTag) 1 (pc' := 17) (lv' := [(0, .int (x0))]) (st' := [.int (0)]) rfl ?_
    exact wp_iret (ty := .boolean) rfl rfl (by decide) ⟨by simp only [F_Y_isEmptyTag, h1, if_true, if_false, Bool.false_eq_true], rfl⟩
  · refine wp_p (j := J_Y_isEmptyTag) 2 (pc' := 9) (lv' := [(0, .int (x0))]) (st' := [.int (13), .int (x0)]) rfl ?_
    refine wp_if2 rfl (fun h2 => ?_) (fun h2 => ?_)
    · refine wp_p (j := J_Y_isEmptyTag) 1 (pc' := 17) (lv' := [(0, .int (x0))]) (st' := [.int (0)]) rfl ?_
      exact wp_iret (ty := .boolean) rfl rfl (by decide) ⟨by simp only [F_Y_isEmptyTag, h1, h2, if_true, if_false, Bool.false_eq_true], rfl⟩
    · refine wp_p (j := J_Y_isEmptyTag) 2 (pc' := 17) (lv' := [(0, .int (x0))]) (st' := [.int (1)]) rfl ?_
      exact wp_iret (ty := .boolean) rfl rfl (by decide) ⟨by simp only [F_Y_isEmptyTag, h1, h2, if_true, if_false, Bool.false_eq_true], rfl⟩
def F_Y_isLetter (x0 : Int32) : Int32 := (if ab_icmp .ne (F_Y_isSmall (x0)) (0) = true then (1) else (if ab_icmp .lt (x0) (65) = true then (0) else (if ab_icmp .gt (x0) (90) = true then (0) else (1))))
theorem nb_Y_isLetter (x0 : Int32) : F_Y_isLetter x0 = 0 ∨ F_Y_isLetter x0 = 1 := by
  unfold F_Y_isLetter
  repeat' split
  all_goals first | decide | exact nb_Y_isSmall _
set_option maxRecDepth 20000 in
theorem m_Y_isLetter (X : Nat → Option (Nat × (Nat → Int32))) (x0 : Int32) (h : ab_H) : mw X J_Y_isLetter [.int x0] h (fun r h' => r = some (.int (F_Y_isLetter x0)) ∧ h' = h) := by
  refine wp_p (j := J_Y_isLetter) 1 (pc' := 1) (lv' := [(0, .int (x0))]) (st' := [.int (x0)]) rfl ?_
  refine wp_cs (As := [.int (x0)]) (rest := []) rfl (by decide) rfl (Nat.le_of_ble_eq_true rfl) (Nat.le_of_ble_eq_true rfl) (m_Y_isSmall X (x0) h) (fun v hh hv => ?_)
  rw [hv.1, hv.2]
  show wp X J_Y_isLetter 4 [(0, .int (x0))] [.int (F_Y_isSmall (x0))] h _
  refine wp_if1 rfl (fun h1 => ?_) (fun h1 => ?_)
  · refine wp_p (j := J_Y_isLetter) 2 (pc' := 24) (lv' := [(0, .int (x0))]) (st' := [.int (1)]) rfl ?_
    exact wp_iret (ty := .boolean) rfl rfl (by decide) ⟨by simp only [F_Y_isLetter, h1, if_true, if_false, Bool.false_eq_true], rfl⟩
  · refine wp_p (j := J_Y_isLetter) 2 (pc' := 10) (lv' := [(0, .int (x0))]) (st' := [.int (65), .int (x0)]) rfl ?_
    refine wp_if2 rfl (fun h2 => ?_) (fun h2 => ?_)
    · refine wp_p (j := J_Y_isLetter) 1 (pc' := 24) (lv' := [(0, .int (x0))]) (st' := [.int (0)]) rfl ?_
      exact wp_iret (ty := .boolean) rfl rfl (by decide) ⟨by simp only [F_Y_isLetter, h1, h2, if_true, if_false, Bool.false_eq_true], rfl⟩
    · refine wp_p (j := J_Y_isLetter) 2 (pc' := 16) (lv' := [(0, .int (x0))]) (st' := [.int (90), .int (x0)]) rfl ?_
      refine wp_if2 rfl (fun h3 => ?_) (fun h3 => ?_)
      · refine wp_p (j := J_Y_isLetter) 1 (pc' := 24) (lv' := [(0, .int (x0))]) (st' := [.int (0)]) rfl ?_
        exact wp_iret (ty := .boolean) rfl rfl (by decide) ⟨by simp only [F_Y_isLetter, h1, h2, h3, if_true, if_false, Bool.false_eq_true], rfl⟩
      · refine wp_p (j := J_Y_isLetter) 2 (pc' := 24) (lv' := [(0, .int (x0))]) (st' := [.int (1)]) rfl ?_
        exact wp_iret (ty := .boolean) rfl rfl (by decide) ⟨by simp only [F_Y_isLetter, h1, h2, h3, if_true, if_false, Bool.false_eq_true], rfl⟩
def F_Y_small (x0 : Int32) : Int32 := (if ab_icmp .lt (x0) (65) = true then (x0) else (if ab_icmp .gt (x0) (90) = true then (x0) else ((x0) + (32))))
set_option maxRecDepth 20000 in
theorem m_Y_small (X : Nat → Option (Nat × (Nat → Int32))) (x0 : Int32) (h : ab_H) : mw X J_Y_small [.int x0] h (fun r h' => r = some (.int (F_Y_small x0)) ∧ h' = h) := by
  refine wp_p (j := J_Y_small) 2 (pc' := 3) (lv' := [(0, .int (x0))]) (st' := [.int (65), .int (x0)]) rfl ?_
  refine wp_if2 rfl (fun h1 => ?_) (fun h1 => ?_)
  · refine wp_p (j := J_Y_small) 1 (pc' := 20) (lv' := [(0, .int (x0))]) (st' := [.int (x0)]) rfl ?_
    exact wp_iret (ty := .int) rfl rfl rfl ⟨by simp only [F_Y_small, h1, if_true, if_false, Bool.false_eq_true], rfl⟩
  · refine wp_p (j := J_Y_small) 2 (pc' := 9) (lv' := [(0, .int (x0))]) (st' := [.int (90), .int (x0)]) rfl ?_
    refine wp_if2 rfl (fun h2 => ?_) (fun h2 => ?_)
    · refine wp_p (j := J_Y_small) 1 (pc' := 20) (lv' := [(0, .int (x0))]) (st' := [.int (x0)]) rfl ?_
      exact wp_iret (ty := .int) rfl rfl rfl ⟨by simp only [F_Y_small, h1, h2, if_true, if_false, Bool.false_eq_true], rfl⟩
    · refine wp_p (j := J_Y_small) 4 (pc' := 20) (lv' := [(0, .int (x0))]) (st' := [.int ((x0) + (32))]) rfl ?_
      exact wp_iret (ty := .int) rfl rfl rfl ⟨by simp only [F_Y_small, h1, h2, if_true, if_false, Bool.false_eq_true], rfl⟩
def F_Y_isBlockTag (x0 : Int32) : Int32 := (if ab_icmp .le (x0) (5) = true then (1) else (if ab_icmp .ne (x0) (11) = true then (0) else (1)))
theorem nb_Y_isBlockTag (x0 : Int32) : F_Y_isBlockTag x0 = 0 ∨ F_Y_isBlockTag x0 = 1 := by
  unfold F_Y_isBlockTag
  repeat' split
  all_goals first | decide
set_option maxRecDepth 20000 in
theorem m_Y_isBlockTag (X : Nat → Option (Nat × (Nat → Int32))) (x0 : Int32) (h : ab_H) : mw X J_Y_isBlockTag [.int x0] h (fun r h' => r = some (.int (F_Y_isBlockTag x0)) ∧ h' = h) := by
  refine wp_p (j := J_Y_isBlockTag) 2 (pc' := 2) (lv' := [(0, .int (x0))]) (st' := [.int (5), .int (x0)]) rfl ?_
  refine wp_if2 rfl (fun h1 => ?_) (fun h1 => ?_)
  · refine wp_p (j := J_Y_isBlockTag) 2 (pc' := 16) (lv' := [(0, .int (x0))]) (st' := [.int (1)]) rfl ?_
    exact wp_iret (ty := .boolean) rfl rfl (by decide) ⟨by simp only [F_Y_isBlockTag, h1, if_true, if_false, Bool.false_eq_true], rfl⟩
  · refine wp_p (j := J_Y_isBlockTag) 2 (pc' := 8) (lv' := [(0, .int (x0))]) (st' := [.int (11), .int (x0)]) rfl ?_
    refine wp_if2 rfl (fun h2 => ?_) (fun h2 => ?_)
    · refine wp_p (j := J_Y_isBlockTag) 1 (pc' := 16) (lv' := [(0, .int (x0))]) (st' := [.int (0)]) rfl ?_
      exact wp_iret (ty := .boolean) rfl rfl (by decide) ⟨by simp only [F_Y_isBlockTag, h1, h2, if_true, if_false, Bool.false_eq_true], rfl⟩
    · refine wp_p (j := J_Y_isBlockTag) 2 (pc' := 16) (lv' := [(0, .int (x0))]) (st' := [.int (1)]) rfl ?_
      exact wp_iret (ty := .boolean) rfl rfl (by decide) ⟨by simp only [F_Y_isBlockTag, h1, h2, if_true, if_false, Bool.false_eq_true], rfl⟩
def F_Y_glyph (x0 : Int32) : Int32 := (if ab_icmp .eq (x0) (105) = true then (2) else (if ab_icmp .eq (x0) (108) = true then (2) else (if ab_icmp .eq (x0) (106) = true then (2) else (if ab_icmp .eq (x0) (46) = true then (2) else (if ab_icmp .eq (x0) (44) = true then (2) else (if ab_icmp .eq (x0) (39) = true then (2) else (if ab_icmp .eq (x0) (58) = true then (2) else (if ab_icmp .eq (x0) (59) = true then (2) else (if ab_icmp .eq (x0) (33) = true then (2) else (if ab_icmp .ne (x0) (124) = true then (if ab_icmp .eq (x0) (109) = true then (5) else (if ab_icmp .eq (x0) (119) = true then (5) else (if ab_icmp .eq (x0) (77) = true then (5) else (if ab_icmp .eq (x0) (87) = true then (5) else (if ab_icmp .ne (x0) (64) = true then (4) else (5)))))) else (2)))))))))))
set_option maxRecDepth 20000 in
theorem m_Y_glyph (X : Nat → Option (Nat × (Nat → Int32))) (x0 : Int32) (h : ab_H) : mw X J_Y_glyph [.int x0] h (fun r h' => r = some (.int (F_Y_glyph x0)) ∧ h' = h) := by
  refine wp_p (j := J_Y_glyph) 2 (pc' := 3) (lv' := [(0, .int (x0))]) (st' := [.int (105), .int (x0)]) rfl ?_
  refine wp_if2 rfl (fun h1 => ?_) (fun h1 => ?_)
  · refine wp_p (j := J_Y_glyph) 1 (pc' := 61) (lv' := [(0, .int (x0))]) (st' := [.int (2)]) rfl ?_
    exact wp_iret (ty := .int) rfl rfl rfl ⟨by simp only [F_Y_glyph, h1, if_true, if_false, Bool.false_eq_true], rfl⟩
  · refine wp_p (j := J_Y_glyph) 2 (pc' := 9) (lv' := [(0, .int (x0))]) (st' := [.int (108), .int (x0)]) rfl ?_
    refine wp_if2 rfl (fun h2 => ?_) (fun h2 => ?_)
    · refine wp_p (j := J_Y_glyph) 1 (pc' := 61) (lv' := [(0, .int (x0))]) (st' := [.int (2)]) rfl ?_
      exact wp_iret (ty := .int) rfl rfl rfl ⟨by simp only [F_Y_glyph, h1, h2, if_true, if_false, Bool.false_eq_true], rfl⟩
    · refine wp_p (j := J_Y_glyph) 2 (pc' := 15) (lv' := [(0, .int (x0))]) (st' := [.int (106), .int (x0)]) rfl ?_
      refine wp_if2 rfl (fun h3 => ?_) (fun h3 => ?_)
      · refine wp_p (j := J_Y_glyph) 1 (pc' := 61) (lv' := [(0, .int (x0))]) (st' := [.int (2)]) rfl ?_
        exact wp_iret (ty := .int) rfl rfl rfl ⟨by simp only [F_Y_glyph, h1, h2, h3, if_true, if_false, Bool.false_eq_true], rfl⟩
      · refine wp_p (j := J_Y_glyph) 2 (pc' := 21) (lv' := [(0, .int (x0))]) (st' := [.int (46), .int (x0)]) rfl ?_
        refine wp_if2 rfl (fun h4 => ?_) (fun h4 => ?_)
        · refine wp_p (j := J_Y_glyph) 1 (pc' := 61) (lv' := [(0, .int (x0))]) (st' := [.int (2)]) rfl ?_
          exact wp_iret (ty := .int) rfl rfl rfl ⟨by simp only [F_Y_glyph, h1, h2, h3, h4, if_true, if_false, Bool.false_eq_true], rfl⟩
        · refine wp_p (j := J_Y_glyph) 2 (pc' := 27) (lv' := [(0, .int (x0))]) (st' := [.int (44), .int (x0)]) rfl ?_
          refine wp_if2 rfl (fun h5 => ?_) (fun h5 => ?_)
          · refine wp_p (j := J_Y_glyph) 1 (pc' := 61) (lv' := [(0, .int (x0))]) (st' := [.int (2)]) rfl ?_
            exact wp_iret (ty := .int) rfl rfl rfl ⟨by simp only [F_Y_glyph, h1, h2, h3, h4, h5, if_true, if_false, Bool.false_eq_true], rfl⟩
          · refine wp_p (j := J_Y_glyph) 2 (pc' := 33) (lv' := [(0, .int (x0))]) (st' := [.int (39), .int (x0)]) rfl ?_
            refine wp_if2 rfl (fun h6 => ?_) (fun h6 => ?_)
            · refine wp_p (j := J_Y_glyph) 1 (pc' := 61) (lv' := [(0, .int (x0))]) (st' := [.int (2)]) rfl ?_
              exact wp_iret (ty := .int) rfl rfl rfl ⟨by simp only [F_Y_glyph, h1, h2, h3, h4, h5, h6, if_true, if_false, Bool.false_eq_true], rfl⟩
            · refine wp_p (j := J_Y_glyph) 2 (pc' := 39) (lv' := [(0, .int (x0))]) (st' := [.int (58), .int (x0)]) rfl ?_
              refine wp_if2 rfl (fun h7 => ?_) (fun h7 => ?_)
              · refine wp_p (j := J_Y_glyph) 1 (pc' := 61) (lv' := [(0, .int (x0))]) (st' := [.int (2)]) rfl ?_
                exact wp_iret (ty := .int) rfl rfl rfl ⟨by simp only [F_Y_glyph, h1, h2, h3, h4, h5, h6, h7, if_true, if_false, Bool.false_eq_true], rfl⟩
              · refine wp_p (j := J_Y_glyph) 2 (pc' := 45) (lv' := [(0, .int (x0))]) (st' := [.int (59), .int (x0)]) rfl ?_
                refine wp_if2 rfl (fun h8 => ?_) (fun h8 => ?_)
                · refine wp_p (j := J_Y_glyph) 1 (pc' := 61) (lv' := [(0, .int (x0))]) (st' := [.int (2)]) rfl ?_
                  exact wp_iret (ty := .int) rfl rfl rfl ⟨by simp only [F_Y_glyph, h1, h2, h3, h4, h5, h6, h7, h8, if_true, if_false, Bool.false_eq_true], rfl⟩
                · refine wp_p (j := J_Y_glyph) 2 (pc' := 51) (lv' := [(0, .int (x0))]) (st' := [.int (33), .int (x0)]) rfl ?_
                  refine wp_if2 rfl (fun h9 => ?_) (fun h9 => ?_)
                  · refine wp_p (j := J_Y_glyph) 1 (pc' := 61) (lv' := [(0, .int (x0))]) (st' := [.int (2)]) rfl ?_
                    exact wp_iret (ty := .int) rfl rfl rfl ⟨by simp only [F_Y_glyph, h1, h2, h3, h4, h5, h6, h7, h8, h9, if_true, if_false, Bool.false_eq_true], rfl⟩
                  · refine wp_p (j := J_Y_glyph) 2 (pc' := 57) (lv' := [(0, .int (x0))]) (st' := [.int (124), .int (x0)]) rfl ?_
                    refine wp_if2 rfl (fun h10 => ?_) (fun h10 => ?_)
                    · refine wp_p (j := J_Y_glyph) 2 (pc' := 65) (lv' := [(0, .int (x0))]) (st' := [.int (109), .int (x0)]) rfl ?_
                      refine wp_if2 rfl (fun h11 => ?_) (fun h11 => ?_)
                      · refine wp_p (j := J_Y_glyph) 2 (pc' := 97) (lv' := [(0, .int (x0))]) (st' := [.int (5)]) rfl ?_
                        exact wp_iret (ty := .int) rfl rfl rfl ⟨by simp only [F_Y_glyph, h1, h2, h3, h4, h5, h6, h7, h8, h9, h10, h11, if_true, if_false, Bool.false_eq_true], rfl⟩
                      · refine wp_p (j := J_Y_glyph) 2 (pc' := 71) (lv' := [(0, .int (x0))]) (st' := [.int (119), .int (x0)]) rfl ?_
                        refine wp_if2 rfl (fun h12 => ?_) (fun h12 => ?_)
                        · refine wp_p (j := J_Y_glyph) 2 (pc' := 97) (lv' := [(0, .int (x0))]) (st' := [.int (5)]) rfl ?_
                          exact wp_iret (ty := .int) rfl rfl rfl ⟨by simp only [F_Y_glyph, h1, h2, h3, h4, h5, h6, h7, h8, h9, h10, h11, h12, if_true, if_false, Bool.false_eq_true], rfl⟩
                        · refine wp_p (j := J_Y_glyph) 2 (pc' := 77) (lv' := [(0, .int (x0))]) (st' := [.int (77), .int (x0)]) rfl ?_
                          refine wp_if2 rfl (fun h13 => ?_) (fun h13 => ?_)
                          · refine wp_p (j := J_Y_glyph) 2 (pc' := 97) (lv' := [(0, .int (x0))]) (st' := [.int (5)]) rfl ?_
                            exact wp_iret (ty := .int) rfl rfl rfl ⟨by simp only [F_Y_glyph, h1, h2, h3, h4, h5, h6, h7, h8, h9, h10, h11, h12, h13, if_true, if_false, Bool.false_eq_true], rfl⟩
                          · refine wp_p (j := J_Y_glyph) 2 (pc' := 83) (lv' := [(0, .int (x0))]) (st' := [.int (87), .int (x0)]) rfl ?_
                            refine wp_if2 rfl (fun h14 => ?_) (fun h14 => ?_)
                            · refine wp_p (j := J_Y_glyph) 2 (pc' := 97) (lv' := [(0, .int (x0))]) (st' := [.int (5)]) rfl ?_
                              exact wp_iret (ty := .int) rfl rfl rfl ⟨by simp only [F_Y_glyph, h1, h2, h3, h4, h5, h6, h7, h8, h9, h10, h11, h12, h13, h14, if_true, if_false, Bool.false_eq_true], rfl⟩
                            · refine wp_p (j := J_Y_glyph) 2 (pc' := 89) (lv' := [(0, .int (x0))]) (st' := [.int (64), .int (x0)]) rfl ?_
                              refine wp_if2 rfl (fun h15 => ?_) (fun h15 => ?_)
                              · refine wp_p (j := J_Y_glyph) 1 (pc' := 97) (lv' := [(0, .int (x0))]) (st' := [.int (4)]) rfl ?_
                                exact wp_iret (ty := .int) rfl rfl rfl ⟨by simp only [F_Y_glyph, h1, h2, h3, h4, h5, h6, h7, h8, h9, h10, h11, h12, h13, h14, h15, if_true, if_false, Bool.false_eq_true], rfl⟩
                              · refine wp_p (j := J_Y_glyph) 2 (pc' := 97) (lv' := [(0, .int (x0))]) (st' := [.int (5)]) rfl ?_
                                exact wp_iret (ty := .int) rfl rfl rfl ⟨by simp only [F_Y_glyph, h1, h2, h3, h4, h5, h6, h7, h8, h9, h10, h11, h12, h13, h14, h15, if_true, if_false, Bool.false_eq_true], rfl⟩
                    · refine wp_p (j := J_Y_glyph) 1 (pc' := 61) (lv' := [(0, .int (x0))]) (st' := [.int (2)]) rfl ?_
                      exact wp_iret (ty := .int) rfl rfl rfl ⟨by simp only [F_Y_glyph, h1, h2, h3, h4, h5, h6, h7, h8, h9, h10, if_true, if_false, Bool.false_eq_true], rfl⟩
