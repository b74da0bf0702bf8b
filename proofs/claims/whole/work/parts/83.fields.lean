/-! the fields that are read or written: what they hold -/
theorem fd_0_0 : Nat.blt 0 (ab_cN 0) = true ∧ defaultValue (ab_cty 0 0) = .null := ⟨rfl, rfl⟩
theorem fd_0_1 : Nat.blt 1 (ab_cN 0) = true ∧ defaultValue (ab_cty 0 1) = .null := ⟨rfl, rfl⟩
theorem fd_0_2 : Nat.blt 2 (ab_cN 0) = true ∧ defaultValue (ab_cty 0 2) = .null := ⟨rfl, rfl⟩
theorem fd_0_3 : Nat.blt 3 (ab_cN 0) = true ∧ defaultValue (ab_cty 0 3) = .null := ⟨rfl, rfl⟩
theorem fd_0_4 : Nat.blt 4 (ab_cN 0) = true ∧ defaultValue (ab_cty 0 4) = .null := ⟨rfl, rfl⟩
theorem fd_0_5 : Nat.blt 5 (ab_cN 0) = true ∧ defaultValue (ab_cty 0 5) = .int 0 := ⟨rfl, rfl⟩
theorem fd_0_6 : Nat.blt 6 (ab_cN 0) = true ∧ defaultValue (ab_cty 0 6) = .long 0 := ⟨rfl, rfl⟩
theorem fd_0_7 : Nat.blt 7 (ab_cN 0) = true ∧ defaultValue (ab_cty 0 7) = .int 0 := ⟨rfl, rfl⟩
theorem fd_0_8 : Nat.blt 8 (ab_cN 0) = true ∧ defaultValue (ab_cty 0 8) = .int 0 := ⟨rfl, rfl⟩
theorem fd_0_9 : Nat.blt 9 (ab_cN 0) = true ∧ defaultValue (ab_cty 0 9) = .int 0 := ⟨rfl, rfl⟩
theorem fd_0_10 : Nat.blt 10 (ab_cN 0) = true ∧ defaultValue (ab_cty 0 10) = .int 0 := ⟨rfl, rfl⟩
theorem fd_0_11 : Nat.blt 11 (ab_cN 0) = true ∧ defaultValue (ab_cty 0 11) = .null := ⟨rfl, rfl⟩
theorem fd_0_12 : Nat.blt 12 (ab_cN 0) = true ∧ defaultValue (ab_cty 0 12) = .int 0 := ⟨rfl, rfl⟩
theorem fd_0_13 : Nat.blt 13 (ab_cN 0) = true ∧ defaultValue (ab_cty 0 13) = .long 0 := ⟨rfl, rfl⟩
theorem fd_0_14 : Nat.blt 14 (ab_cN 0) = true ∧ defaultValue (ab_cty 0 14) = .null := ⟨rfl, rfl⟩
theorem fd_0_15 : Nat.blt 15 (ab_cN 0) = true ∧ defaultValue (ab_cty 0 15) = .int 0 := ⟨rfl, rfl⟩
theorem fd_0_16 : Nat.blt 16 (ab_cN 0) = true ∧ defaultValue (ab_cty 0 16) = .int 0 := ⟨rfl, rfl⟩
theorem fd_0_17 : Nat.blt 17 (ab_cN 0) = true ∧ defaultValue (ab_cty 0 17) = .int 0 := ⟨rfl, rfl⟩
theorem fd_0_18 : Nat.blt 18 (ab_cN 0) = true ∧ defaultValue (ab_cty 0 18) = .int 0 := ⟨rfl, rfl⟩
theorem fd_0_19 : Nat.blt 19 (ab_cN 0) = true ∧ defaultValue (ab_cty 0 19) = .null := ⟨rfl, rfl⟩
theorem fd_1_0 : Nat.blt 0 (ab_cN 1) = true ∧ defaultValue (ab_cty 1 0) = .null := ⟨rfl, rfl⟩
theorem fd_1_1 : Nat.blt 1 (ab_cN 1) = true ∧ defaultValue (ab_cty 1 1) = .long 0 := ⟨rfl, rfl⟩
theorem fd_1_2 : Nat.blt 2 (ab_cN 1) = true ∧ defaultValue (ab_cty 1 2) = .int 0 := ⟨rfl, rfl⟩
theorem fd_1_3 : Nat.blt 3 (ab_cN 1) = true ∧ defaultValue (ab_cty 1 3) = .int 0 := ⟨rfl, rfl⟩
theorem fd_1_4 : Nat.blt 4 (ab_cN 1) = true ∧ defaultValue (ab_cty 1 4) = .int 0 := ⟨rfl, rfl⟩
theorem fd_1_5 : Nat.blt 5 (ab_cN 1) = true ∧ defaultValue (ab_cty 1 5) = .int 0 := ⟨rfl, rfl⟩
theorem fd_1_6 : Nat.blt 6 (ab_cN 1) = true ∧ defaultValue (ab_cty 1 6) = .int 0 := ⟨rfl, rfl⟩
theorem fd_1_7 : Nat.blt 7 (ab_cN 1) = true ∧ defaultValue (ab_cty 1 7) = .int 0 := ⟨rfl, rfl⟩
theorem fd_2_0 : Nat.blt 0 (ab_cN 2) = true ∧ defaultValue (ab_cty 2 0) = .null := ⟨rfl, rfl⟩
theorem fd_2_1 : Nat.blt 1 (ab_cN 2) = true ∧ defaultValue (ab_cty 2 1) = .int 0 := ⟨rfl, rfl⟩
theorem fd_2_2 : Nat.blt 2 (ab_cN 2) = true ∧ defaultValue (ab_cty 2 2) = .long 0 := ⟨rfl, rfl⟩
theorem fd_2_3 : Nat.blt 3 (ab_cN 2) = true ∧ defaultValue (ab_cty 2 3) = .long 0 := ⟨rfl, rfl⟩
theorem fd_2_4 : Nat.blt 4 (ab_cN 2) = true ∧ defaultValue (ab_cty 2 4) = .null := ⟨rfl, rfl⟩
theorem fd_2_5 : Nat.blt 5 (ab_cN 2) = true ∧ defaultValue (ab_cty 2 5) = .int 0 := ⟨rfl, rfl⟩
theorem fd_2_6 : Nat.blt 6 (ab_cN 2) = true ∧ defaultValue (ab_cty 2 6) = .null := ⟨rfl, rfl⟩
theorem fd_2_7 : Nat.blt 7 (ab_cN 2) = true ∧ defaultValue (ab_cty 2 7) = .int 0 := ⟨rfl, rfl⟩
theorem fd_3_0 : Nat.blt 0 (ab_cN 3) = true ∧ defaultValue (ab_cty 3 0) = .int 0 := ⟨rfl, rfl⟩
theorem fd_3_1 : Nat.blt 1 (ab_cN 3) = true ∧ defaultValue (ab_cty 3 1) = .int 0 := ⟨rfl, rfl⟩
theorem fd_3_2 : Nat.blt 2 (ab_cN 3) = true ∧ defaultValue (ab_cty 3 2) = .int 0 := ⟨rfl, rfl⟩
theorem fd_3_3 : Nat.blt 3 (ab_cN 3) = true ∧ defaultValue (ab_cty 3 3) = .int 0 := ⟨rfl, rfl⟩
theorem fd_3_4 : Nat.blt 4 (ab_cN 3) = true ∧ defaultValue (ab_cty 3 4) = .int 0 := ⟨rfl, rfl⟩
theorem fd_3_5 : Nat.blt 5 (ab_cN 3) = true ∧ defaultValue (ab_cty 3 5) = .int 0 := ⟨rfl, rfl⟩
theorem fd_3_6 : Nat.blt 6 (ab_cN 3) = true ∧ defaultValue (ab_cty 3 6) = .int 0 := ⟨rfl, rfl⟩
theorem fd_3_7 : Nat.blt 7 (ab_cN 3) = true ∧ defaultValue (ab_cty 3 7) = .int 0 := ⟨rfl, rfl⟩
theorem fd_3_8 : Nat.blt 8 (ab_cN 3) = true ∧ defaultValue (ab_cty 3 8) = .int 0 := ⟨rfl, rfl⟩
theorem fd_3_9 : Nat.blt 9 (ab_cN 3) = true ∧ defaultValue (ab_cty 3 9) = .int 0 := ⟨rfl, rfl⟩
theorem fd_3_10 : Nat.blt 10 (ab_cN 3) = true ∧ defaultValue (ab_cty 3 10) = .int 0 := ⟨rfl, rfl⟩
theorem fd_3_11 : Nat.blt 11 (ab_cN 3) = true ∧ defaultValue (ab_cty 3 11) = .int 0 := ⟨rfl, rfl⟩
theorem fd_3_12 : Nat.blt 12 (ab_cN 3) = true ∧ defaultValue (ab_cty 3 12) = .int 0 := ⟨rfl, rfl⟩
theorem fd_3_13 : Nat.blt 13 (ab_cN 3) = true ∧ defaultValue (ab_cty 3 13) = .int 0 := ⟨rfl, rfl⟩
theorem fd_3_14 : Nat.blt 14 (ab_cN 3) = true ∧ defaultValue (ab_cty 3 14) = .int 0 := ⟨rfl, rfl⟩
theorem fd_3_15 : Nat.blt 15 (ab_cN 3) = true ∧ defaultValue (ab_cty 3 15) = .int 0 := ⟨rfl, rfl⟩
theorem fd_3_16 : Nat.blt 16 (ab_cN 3) = true ∧ defaultValue (ab_cty 3 16) = .int 0 := ⟨rfl, rfl⟩
theorem fd_3_17 : Nat.blt 17 (ab_cN 3) = true ∧ defaultValue (ab_cty 3 17) = .int 0 := ⟨rfl, rfl⟩
theorem fd_3_18 : Nat.blt 18 (ab_cN 3) = true ∧ defaultValue (ab_cty 3 18) = .int 0 := ⟨rfl, rfl⟩
theorem fd_3_19 : Nat.blt 19 (ab_cN 3) = true ∧ defaultValue (ab_cty 3 19) = .int 0 := ⟨rfl, rfl⟩
theorem fd_4_0 : Nat.blt 0 (ab_cN 4) = true ∧ defaultValue (ab_cty 4 0) = .int 0 := ⟨rfl, rfl⟩
theorem fd_4_1 : Nat.blt 1 (ab_cN 4) = true ∧ defaultValue (ab_cty 4 1) = .null := ⟨rfl, rfl⟩
theorem fd_4_2 : Nat.blt 2 (ab_cN 4) = true ∧ defaultValue (ab_cty 4 2) = .int 0 := ⟨rfl, rfl⟩
theorem fd_5_0 : Nat.blt 0 (ab_cN 5) = true ∧ defaultValue (ab_cty 5 0) = .null := ⟨rfl, rfl⟩
theorem fd_5_1 : Nat.blt 1 (ab_cN 5) = true ∧ defaultValue (ab_cty 5 1) = .null := ⟨rfl, rfl⟩
theorem fd_5_2 : Nat.blt 2 (ab_cN 5) = true ∧ defaultValue (ab_cty 5 2) = .null := ⟨rfl, rfl⟩
theorem fd_5_3 : Nat.blt 3 (ab_cN 5) = true ∧ defaultValue (ab_cty 5 3) = .int 0 := ⟨rfl, rfl⟩
theorem fd_5_4 : Nat.blt 4 (ab_cN 5) = true ∧ defaultValue (ab_cty 5 4) = .int 0 := ⟨rfl, rfl⟩
theorem fd_5_5 : Nat.blt 5 (ab_cN 5) = true ∧ defaultValue (ab_cty 5 5) = .null := ⟨rfl, rfl⟩
theorem fd_5_6 : Nat.blt 6 (ab_cN 5) = true ∧ defaultValue (ab_cty 5 6) = .int 0 := ⟨rfl, rfl⟩
theorem fd_5_7 : Nat.blt 7 (ab_cN 5) = true ∧ defaultValue (ab_cty 5 7) = .null := ⟨rfl, rfl⟩
theorem fd_5_8 : Nat.blt 8 (ab_cN 5) = true ∧ defaultValue (ab_cty 5 8) = .null := ⟨rfl, rfl⟩
theorem fd_5_9 : Nat.blt 9 (ab_cN 5) = true ∧ defaultValue (ab_cty 5 9) = .null := ⟨rfl, rfl⟩
theorem fd_5_10 : Nat.blt 10 (ab_cN 5) = true ∧ defaultValue (ab_cty 5 10) = .int 0 := ⟨rfl, rfl⟩
theorem fd_5_11 : Nat.blt 11 (ab_cN 5) = true ∧ defaultValue (ab_cty 5 11) = .int 0 := ⟨rfl, rfl⟩
theorem fd_5_12 : Nat.blt 12 (ab_cN 5) = true ∧ defaultValue (ab_cty 5 12) = .int 0 := ⟨rfl, rfl⟩
theorem fd_5_13 : Nat.blt 13 (ab_cN 5) = true ∧ defaultValue (ab_cty 5 13) = .int 0 := ⟨rfl, rfl⟩
theorem fd_5_14 : Nat.blt 14 (ab_cN 5) = true ∧ defaultValue (ab_cty 5 14) = .int 0 := ⟨rfl, rfl⟩
theorem fd_5_15 : Nat.blt 15 (ab_cN 5) = true ∧ defaultValue (ab_cty 5 15) = .int 0 := ⟨rfl, rfl⟩
theorem fd_5_16 : Nat.blt 16 (ab_cN 5) = true ∧ defaultValue (ab_cty 5 16) = .null := ⟨rfl, rfl⟩
theorem fd_5_17 : Nat.blt 17 (ab_cN 5) = true ∧ defaultValue (ab_cty 5 17) = .int 0 := ⟨rfl, rfl⟩
theorem fd_5_18 : Nat.blt 18 (ab_cN 5) = true ∧ defaultValue (ab_cty 5 18) = .int 0 := ⟨rfl, rfl⟩
theorem fd_5_19 : Nat.blt 19 (ab_cN 5) = true ∧ defaultValue (ab_cty 5 19) = .int 0 := ⟨rfl, rfl⟩
theorem fd_6_0 : Nat.blt 0 (ab_cN 6) = true ∧ defaultValue (ab_cty 6 0) = .null := ⟨rfl, rfl⟩
theorem fd_6_1 : Nat.blt 1 (ab_cN 6) = true ∧ defaultValue (ab_cty 6 1) = .null := ⟨rfl, rfl⟩
theorem fd_6_2 : Nat.blt 2 (ab_cN 6) = true ∧ defaultValue (ab_cty 6 2) = .int 0 := ⟨rfl, rfl⟩
theorem fd_6_3 : Nat.blt 3 (ab_cN 6) = true ∧ defaultValue (ab_cty 6 3) = .null := ⟨rfl, rfl⟩
theorem fd_6_4 : Nat.blt 4 (ab_cN 6) = true ∧ defaultValue (ab_cty 6 4) = .int 0 := ⟨rfl, rfl⟩
theorem fd_6_5 : Nat.blt 5 (ab_cN 6) = true ∧ defaultValue (ab_cty 6 5) = .null := ⟨rfl, rfl⟩
theorem fd_6_6 : Nat.blt 6 (ab_cN 6) = true ∧ defaultValue (ab_cty 6 6) = .int 0 := ⟨rfl, rfl⟩
theorem fd_6_7 : Nat.blt 7 (ab_cN 6) = true ∧ defaultValue (ab_cty 6 7) = .null := ⟨rfl, rfl⟩
theorem fd_6_8 : Nat.blt 8 (ab_cN 6) = true ∧ defaultValue (ab_cty 6 8) = .int 0 := ⟨rfl, rfl⟩
theorem fd_6_9 : Nat.blt 9 (ab_cN 6) = true ∧ defaultValue (ab_cty 6 9) = .int 0 := ⟨rfl, rfl⟩
theorem fd_6_10 : Nat.blt 10 (ab_cN 6) = true ∧ defaultValue (ab_cty 6 10) = .null := ⟨rfl, rfl⟩
theorem fd_6_11 : Nat.blt 11 (ab_cN 6) = true ∧ defaultValue (ab_cty 6 11) = .null := ⟨rfl, rfl⟩
theorem fd_6_12 : Nat.blt 12 (ab_cN 6) = true ∧ defaultValue (ab_cty 6 12) = .int 0 := ⟨rfl, rfl⟩
theorem fd_6_13 : Nat.blt 13 (ab_cN 6) = true ∧ defaultValue (ab_cty 6 13) = .null := ⟨rfl, rfl⟩
theorem fd_6_14 : Nat.blt 14 (ab_cN 6) = true ∧ defaultValue (ab_cty 6 14) = .null := ⟨rfl, rfl⟩
theorem fd_6_15 : Nat.blt 15 (ab_cN 6) = true ∧ defaultValue (ab_cty 6 15) = .null := ⟨rfl, rfl⟩
theorem fd_6_16 : Nat.blt 16 (ab_cN 6) = true ∧ defaultValue (ab_cty 6 16) = .int 0 := ⟨rfl, rfl⟩
theorem fd_6_17 : Nat.blt 17 (ab_cN 6) = true ∧ defaultValue (ab_cty 6 17) = .null := ⟨rfl, rfl⟩
theorem fd_6_18 : Nat.blt 18 (ab_cN 6) = true ∧ defaultValue (ab_cty 6 18) = .int 0 := ⟨rfl, rfl⟩
theorem fd_6_19 : Nat.blt 19 (ab_cN 6) = true ∧ defaultValue (ab_cty 6 19) = .int 0 := ⟨rfl, rfl⟩
theorem fd_7_0 : Nat.blt 0 (ab_cN 7) = true ∧ defaultValue (ab_cty 7 0) = .int 0 := ⟨rfl, rfl⟩
theorem fd_7_1 : Nat.blt 1 (ab_cN 7) = true ∧ defaultValue (ab_cty 7 1) = .long 0 := ⟨rfl, rfl⟩
theorem fd_7_2 : Nat.blt 2 (ab_cN 7) = true ∧ defaultValue (ab_cty 7 2) = .int 0 := ⟨rfl, rfl⟩
theorem fd_7_3 : Nat.blt 3 (ab_cN 7) = true ∧ defaultValue (ab_cty 7 3) = .int 0 := ⟨rfl, rfl⟩
theorem fd_7_4 : Nat.blt 4 (ab_cN 7) = true ∧ defaultValue (ab_cty 7 4) = .int 0 := ⟨rfl, rfl⟩
theorem fd_7_5 : Nat.blt 5 (ab_cN 7) = true ∧ defaultValue (ab_cty 7 5) = .int 0 := ⟨rfl, rfl⟩
theorem fd_7_6 : Nat.blt 6 (ab_cN 7) = true ∧ defaultValue (ab_cty 7 6) = .int 0 := ⟨rfl, rfl⟩
theorem fd_7_7 : Nat.blt 7 (ab_cN 7) = true ∧ defaultValue (ab_cty 7 7) = .int 0 := ⟨rfl, rfl⟩
theorem fd_7_8 : Nat.blt 8 (ab_cN 7) = true ∧ defaultValue (ab_cty 7 8) = .int 0 := ⟨rfl, rfl⟩
theorem fd_7_9 : Nat.blt 9 (ab_cN 7) = true ∧ defaultValue (ab_cty 7 9) = .int 0 := ⟨rfl, rfl⟩
theorem fd_7_10 : Nat.blt 10 (ab_cN 7) = true ∧ defaultValue (ab_cty 7 10) = .long 0 := ⟨rfl, rfl⟩
theorem fd_7_11 : Nat.blt 11 (ab_cN 7) = true ∧ defaultValue (ab_cty 7 11) = .null := ⟨rfl, rfl⟩
theorem fd_7_12 : Nat.blt 12 (ab_cN 7) = true ∧ defaultValue (ab_cty 7 12) = .int 0 := ⟨rfl, rfl⟩
theorem fd_7_13 : Nat.blt 13 (ab_cN 7) = true ∧ defaultValue (ab_cty 7 13) = .null := ⟨rfl, rfl⟩
theorem fd_7_14 : Nat.blt 14 (ab_cN 7) = true ∧ defaultValue (ab_cty 7 14) = .null := ⟨rfl, rfl⟩
theorem fd_7_15 : Nat.blt 15 (ab_cN 7) = true ∧ defaultValue (ab_cty 7 15) = .int 0 := ⟨rfl, rfl⟩
theorem fd_7_16 : Nat.blt 16 (ab_cN 7) = true ∧ defaultValue (ab_cty 7 16) = .int 0 := ⟨rfl, rfl⟩
theorem fd_8_0 : Nat.blt 0 (ab_cN 8) = true ∧ defaultValue (ab_cty 8 0) = .null := ⟨rfl, rfl⟩
theorem fd_8_1 : Nat.blt 1 (ab_cN 8) = true ∧ defaultValue (ab_cty 8 1) = .null := ⟨rfl, rfl⟩
theorem fd_8_2 : Nat.blt 2 (ab_cN 8) = true ∧ defaultValue (ab_cty 8 2) = .null := ⟨rfl, rfl⟩
theorem fd_8_3 : Nat.blt 3 (ab_cN 8) = true ∧ defaultValue (ab_cty 8 3) = .int 0 := ⟨rfl, rfl⟩
theorem fd_8_4 : Nat.blt 4 (ab_cN 8) = true ∧ defaultValue (ab_cty 8 4) = .null := ⟨rfl, rfl⟩
theorem fd_8_5 : Nat.blt 5 (ab_cN 8) = true ∧ defaultValue (ab_cty 8 5) = .null := ⟨rfl, rfl⟩
theorem fd_8_6 : Nat.blt 6 (ab_cN 8) = true ∧ defaultValue (ab_cty 8 6) = .int 0 := ⟨rfl, rfl⟩
theorem fd_8_7 : Nat.blt 7 (ab_cN 8) = true ∧ defaultValue (ab_cty 8 7) = .null := ⟨rfl, rfl⟩
theorem fd_8_8 : Nat.blt 8 (ab_cN 8) = true ∧ defaultValue (ab_cty 8 8) = .null := ⟨rfl, rfl⟩
theorem fd_8_9 : Nat.blt 9 (ab_cN 8) = true ∧ defaultValue (ab_cty 8 9) = .int 0 := ⟨rfl, rfl⟩
theorem fd_8_10 : Nat.blt 10 (ab_cN 8) = true ∧ defaultValue (ab_cty 8 10) = .int 0 := ⟨rfl, rfl⟩
theorem fd_8_11 : Nat.blt 11 (ab_cN 8) = true ∧ defaultValue (ab_cty 8 11) = .int 0 := ⟨rfl, rfl⟩
theorem fd_9_0 : Nat.blt 0 (ab_cN 9) = true ∧ defaultValue (ab_cty 9 0) = .null := ⟨rfl, rfl⟩
theorem fd_9_1 : Nat.blt 1 (ab_cN 9) = true ∧ defaultValue (ab_cty 9 1) = .null := ⟨rfl, rfl⟩
theorem fd_9_2 : Nat.blt 2 (ab_cN 9) = true ∧ defaultValue (ab_cty 9 2) = .null := ⟨rfl, rfl⟩
theorem fd_9_3 : Nat.blt 3 (ab_cN 9) = true ∧ defaultValue (ab_cty 9 3) = .null := ⟨rfl, rfl⟩
theorem fd_9_4 : Nat.blt 4 (ab_cN 9) = true ∧ defaultValue (ab_cty 9 4) = .null := ⟨rfl, rfl⟩
theorem fd_9_5 : Nat.blt 5 (ab_cN 9) = true ∧ defaultValue (ab_cty 9 5) = .null := ⟨rfl, rfl⟩
theorem fd_9_6 : Nat.blt 6 (ab_cN 9) = true ∧ defaultValue (ab_cty 9 6) = .null := ⟨rfl, rfl⟩
theorem fd_9_7 : Nat.blt 7 (ab_cN 9) = true ∧ defaultValue (ab_cty 9 7) = .null := ⟨rfl, rfl⟩
theorem fd_9_8 : Nat.blt 8 (ab_cN 9) = true ∧ defaultValue (ab_cty 9 8) = .null := ⟨rfl, rfl⟩
theorem fd_9_9 : Nat.blt 9 (ab_cN 9) = true ∧ defaultValue (ab_cty 9 9) = .null := ⟨rfl, rfl⟩
theorem fd_9_10 : Nat.blt 10 (ab_cN 9) = true ∧ defaultValue (ab_cty 9 10) = .null := ⟨rfl, rfl⟩
theorem fd_9_11 : Nat.blt 11 (ab_cN 9) = true ∧ defaultValue (ab_cty 9 11) = .long 0 := ⟨rfl, rfl⟩
theorem fd_9_12 : Nat.blt 12 (ab_cN 9) = true ∧ defaultValue (ab_cty 9 12) = .long 0 := ⟨rfl, rfl⟩
theorem fd_9_13 : Nat.blt 13 (ab_cN 9) = true ∧ defaultValue (ab_cty 9 13) = .int 0 := ⟨rfl, rfl⟩
theorem fd_9_14 : Nat.blt 14 (ab_cN 9) = true ∧ defaultValue (ab_cty 9 14) = .int 0 := ⟨rfl, rfl⟩
theorem fd_10_0 : Nat.blt 0 (ab_cN 10) = true ∧ defaultValue (ab_cty 10 0) = .null := ⟨rfl, rfl⟩
theorem fd_10_1 : Nat.blt 1 (ab_cN 10) = true ∧ defaultValue (ab_cty 10 1) = .null := ⟨rfl, rfl⟩
theorem fd_10_2 : Nat.blt 2 (ab_cN 10) = true ∧ defaultValue (ab_cty 10 2) = .null := ⟨rfl, rfl⟩
theorem fd_10_3 : Nat.blt 3 (ab_cN 10) = true ∧ defaultValue (ab_cty 10 3) = .int 0 := ⟨rfl, rfl⟩
theorem fd_10_4 : Nat.blt 4 (ab_cN 10) = true ∧ defaultValue (ab_cty 10 4) = .int 0 := ⟨rfl, rfl⟩
theorem fd_10_5 : Nat.blt 5 (ab_cN 10) = true ∧ defaultValue (ab_cty 10 5) = .int 0 := ⟨rfl, rfl⟩
theorem fd_10_6 : Nat.blt 6 (ab_cN 10) = true ∧ defaultValue (ab_cty 10 6) = .int 0 := ⟨rfl, rfl⟩
theorem fd_10_7 : Nat.blt 7 (ab_cN 10) = true ∧ defaultValue (ab_cty 10 7) = .long 0 := ⟨rfl, rfl⟩
theorem fd_11_0 : Nat.blt 0 (ab_cN 11) = true ∧ defaultValue (ab_cty 11 0) = .null := ⟨rfl, rfl⟩
theorem fd_11_1 : Nat.blt 1 (ab_cN 11) = true ∧ defaultValue (ab_cty 11 1) = .null := ⟨rfl, rfl⟩
theorem fd_11_2 : Nat.blt 2 (ab_cN 11) = true ∧ defaultValue (ab_cty 11 2) = .null := ⟨rfl, rfl⟩
theorem fd_11_3 : Nat.blt 3 (ab_cN 11) = true ∧ defaultValue (ab_cty 11 3) = .null := ⟨rfl, rfl⟩
theorem fd_11_4 : Nat.blt 4 (ab_cN 11) = true ∧ defaultValue (ab_cty 11 4) = .null := ⟨rfl, rfl⟩
theorem fd_11_5 : Nat.blt 5 (ab_cN 11) = true ∧ defaultValue (ab_cty 11 5) = .null := ⟨rfl, rfl⟩
theorem fd_11_6 : Nat.blt 6 (ab_cN 11) = true ∧ defaultValue (ab_cty 11 6) = .null := ⟨rfl, rfl⟩
theorem fd_11_7 : Nat.blt 7 (ab_cN 11) = true ∧ defaultValue (ab_cty 11 7) = .null := ⟨rfl, rfl⟩
theorem fd_11_8 : Nat.blt 8 (ab_cN 11) = true ∧ defaultValue (ab_cty 11 8) = .null := ⟨rfl, rfl⟩
theorem fd_11_9 : Nat.blt 9 (ab_cN 11) = true ∧ defaultValue (ab_cty 11 9) = .int 0 := ⟨rfl, rfl⟩
theorem fd_12_0 : Nat.blt 0 (ab_cN 12) = true ∧ defaultValue (ab_cty 12 0) = .null := ⟨rfl, rfl⟩
theorem fd_12_1 : Nat.blt 1 (ab_cN 12) = true ∧ defaultValue (ab_cty 12 1) = .int 0 := ⟨rfl, rfl⟩
theorem fd_12_2 : Nat.blt 2 (ab_cN 12) = true ∧ defaultValue (ab_cty 12 2) = .null := ⟨rfl, rfl⟩
theorem fd_12_3 : Nat.blt 3 (ab_cN 12) = true ∧ defaultValue (ab_cty 12 3) = .int 0 := ⟨rfl, rfl⟩
theorem fd_12_4 : Nat.blt 4 (ab_cN 12) = true ∧ defaultValue (ab_cty 12 4) = .null := ⟨rfl, rfl⟩
theorem fd_12_5 : Nat.blt 5 (ab_cN 12) = true ∧ defaultValue (ab_cty 12 5) = .int 0 := ⟨rfl, rfl⟩
theorem fd_12_6 : Nat.blt 6 (ab_cN 12) = true ∧ defaultValue (ab_cty 12 6) = .null := ⟨rfl, rfl⟩
theorem fd_12_7 : Nat.blt 7 (ab_cN 12) = true ∧ defaultValue (ab_cty 12 7) = .null := ⟨rfl, rfl⟩
theorem fd_12_8 : Nat.blt 8 (ab_cN 12) = true ∧ defaultValue (ab_cty 12 8) = .null := ⟨rfl, rfl⟩
theorem fd_12_9 : Nat.blt 9 (ab_cN 12) = true ∧ defaultValue (ab_cty 12 9) = .null := ⟨rfl, rfl⟩
theorem fd_12_10 : Nat.blt 10 (ab_cN 12) = true ∧ defaultValue (ab_cty 12 10) = .null := ⟨rfl, rfl⟩
theorem fd_12_11 : Nat.blt 11 (ab_cN 12) = true ∧ defaultValue (ab_cty 12 11) = .null := ⟨rfl, rfl⟩
theorem fd_12_12 : Nat.blt 12 (ab_cN 12) = true ∧ defaultValue (ab_cty 12 12) = .int 0 := ⟨rfl, rfl⟩
theorem fd_12_14 : Nat.blt 14 (ab_cN 12) = true ∧ defaultValue (ab_cty 12 14) = .int 0 := ⟨rfl, rfl⟩
theorem fd_12_15 : Nat.blt 15 (ab_cN 12) = true ∧ defaultValue (ab_cty 12 15) = .int 0 := ⟨rfl, rfl⟩
theorem fd_12_16 : Nat.blt 16 (ab_cN 12) = true ∧ defaultValue (ab_cty 12 16) = .int 0 := ⟨rfl, rfl⟩
theorem fd_12_17 : Nat.blt 17 (ab_cN 12) = true ∧ defaultValue (ab_cty 12 17) = .null := ⟨rfl, rfl⟩
theorem fd_12_18 : Nat.blt 18 (ab_cN 12) = true ∧ defaultValue (ab_cty 12 18) = .null := ⟨rfl, rfl⟩
theorem fd_12_19 : Nat.blt 19 (ab_cN 12) = true ∧ defaultValue (ab_cty 12 19) = .null := ⟨rfl, rfl⟩
theorem fd_12_20 : Nat.blt 20 (ab_cN 12) = true ∧ defaultValue (ab_cty 12 20) = .null := ⟨rfl, rfl⟩
theorem fd_12_21 : Nat.blt 21 (ab_cN 12) = true ∧ defaultValue (ab_cty 12 21) = .null := ⟨rfl, rfl⟩
theorem fd_12_22 : Nat.blt 22 (ab_cN 12) = true ∧ defaultValue (ab_cty 12 22) = .null := ⟨rfl, rfl⟩
theorem fd_12_23 : Nat.blt 23 (ab_cN 12) = true ∧ defaultValue (ab_cty 12 23) = .null := ⟨rfl, rfl⟩
theorem fd_12_24 : Nat.blt 24 (ab_cN 12) = true ∧ defaultValue (ab_cty 12 24) = .null := ⟨rfl, rfl⟩
theorem fd_12_25 : Nat.blt 25 (ab_cN 12) = true ∧ defaultValue (ab_cty 12 25) = .int 0 := ⟨rfl, rfl⟩
theorem fd_12_26 : Nat.blt 26 (ab_cN 12) = true ∧ defaultValue (ab_cty 12 26) = .int 0 := ⟨rfl, rfl⟩
theorem fd_12_27 : Nat.blt 27 (ab_cN 12) = true ∧ defaultValue (ab_cty 12 27) = .int 0 := ⟨rfl, rfl⟩
theorem fd_12_28 : Nat.blt 28 (ab_cN 12) = true ∧ defaultValue (ab_cty 12 28) = .null := ⟨rfl, rfl⟩
theorem fd_12_29 : Nat.blt 29 (ab_cN 12) = true ∧ defaultValue (ab_cty 12 29) = .null := ⟨rfl, rfl⟩
theorem fd_12_30 : Nat.blt 30 (ab_cN 12) = true ∧ defaultValue (ab_cty 12 30) = .int 0 := ⟨rfl, rfl⟩
theorem fd_12_31 : Nat.blt 31 (ab_cN 12) = true ∧ defaultValue (ab_cty 12 31) = .null := ⟨rfl, rfl⟩
theorem fd_12_32 : Nat.blt 32 (ab_cN 12) = true ∧ defaultValue (ab_cty 12 32) = .null := ⟨rfl, rfl⟩
theorem fd_12_33 : Nat.blt 33 (ab_cN 12) = true ∧ defaultValue (ab_cty 12 33) = .null := ⟨rfl, rfl⟩
theorem fd_12_34 : Nat.blt 34 (ab_cN 12) = true ∧ defaultValue (ab_cty 12 34) = .null := ⟨rfl, rfl⟩
theorem fd_12_35 : Nat.blt 35 (ab_cN 12) = true ∧ defaultValue (ab_cty 12 35) = .int 0 := ⟨rfl, rfl⟩
theorem fd_12_36 : Nat.blt 36 (ab_cN 12) = true ∧ defaultValue (ab_cty 12 36) = .null := ⟨rfl, rfl⟩
theorem fd_12_37 : Nat.blt 37 (ab_cN 12) = true ∧ defaultValue (ab_cty 12 37) = .int 0 := ⟨rfl, rfl⟩
theorem fd_12_38 : Nat.blt 38 (ab_cN 12) = true ∧ defaultValue (ab_cty 12 38) = .int 0 := ⟨rfl, rfl⟩
theorem fd_12_39 : Nat.blt 39 (ab_cN 12) = true ∧ defaultValue (ab_cty 12 39) = .int 0 := ⟨rfl, rfl⟩
theorem fd_12_40 : Nat.blt 40 (ab_cN 12) = true ∧ defaultValue (ab_cty 12 40) = .int 0 := ⟨rfl, rfl⟩
theorem fd_12_41 : Nat.blt 41 (ab_cN 12) = true ∧ defaultValue (ab_cty 12 41) = .int 0 := ⟨rfl, rfl⟩
theorem fd_12_42 : Nat.blt 42 (ab_cN 12) = true ∧ defaultValue (ab_cty 12 42) = .int 0 := ⟨rfl, rfl⟩
theorem fd_12_43 : Nat.blt 43 (ab_cN 12) = true ∧ defaultValue (ab_cty 12 43) = .null := ⟨rfl, rfl⟩
theorem fd_12_44 : Nat.blt 44 (ab_cN 12) = true ∧ defaultValue (ab_cty 12 44) = .int 0 := ⟨rfl, rfl⟩
theorem fd_12_45 : Nat.blt 45 (ab_cN 12) = true ∧ defaultValue (ab_cty 12 45) = .null := ⟨rfl, rfl⟩
theorem fd_12_46 : Nat.blt 46 (ab_cN 12) = true ∧ defaultValue (ab_cty 12 46) = .null := ⟨rfl, rfl⟩
theorem fd_12_47 : Nat.blt 47 (ab_cN 12) = true ∧ defaultValue (ab_cty 12 47) = .null := ⟨rfl, rfl⟩
theorem fd_12_48 : Nat.blt 48 (ab_cN 12) = true ∧ defaultValue (ab_cty 12 48) = .null := ⟨rfl, rfl⟩
theorem fd_12_49 : Nat.blt 49 (ab_cN 12) = true ∧ defaultValue (ab_cty 12 49) = .null := ⟨rfl, rfl⟩
theorem fd_12_50 : Nat.blt 50 (ab_cN 12) = true ∧ defaultValue (ab_cty 12 50) = .null := ⟨rfl, rfl⟩
theorem fd_12_51 : Nat.blt 51 (ab_cN 12) = true ∧ defaultValue (ab_cty 12 51) = .null := ⟨rfl, rfl⟩
theorem fd_12_52 : Nat.blt 52 (ab_cN 12) = true ∧ defaultValue (ab_cty 12 52) = .null := ⟨rfl, rfl⟩
theorem fd_12_53 : Nat.blt 53 (ab_cN 12) = true ∧ defaultValue (ab_cty 12 53) = .null := ⟨rfl, rfl⟩
theorem fd_12_54 : Nat.blt 54 (ab_cN 12) = true ∧ defaultValue (ab_cty 12 54) = .null := ⟨rfl, rfl⟩
theorem fd_12_55 : Nat.blt 55 (ab_cN 12) = true ∧ defaultValue (ab_cty 12 55) = .null := ⟨rfl, rfl⟩
theorem fd_12_56 : Nat.blt 56 (ab_cN 12) = true ∧ defaultValue (ab_cty 12 56) = .null := ⟨rfl, rfl⟩
theorem fd_12_57 : Nat.blt 57 (ab_cN 12) = true ∧ defaultValue (ab_cty 12 57) = .null := ⟨rfl, rfl⟩
theorem fd_12_58 : Nat.blt 58 (ab_cN 12) = true ∧ defaultValue (ab_cty 12 58) = .null := ⟨rfl, rfl⟩
theorem fd_12_59 : Nat.blt 59 (ab_cN 12) = true ∧ defaultValue (ab_cty 12 59) = .null := ⟨rfl, rfl⟩
theorem fd_12_60 : Nat.blt 60 (ab_cN 12) = true ∧ defaultValue (ab_cty 12 60) = .null := ⟨rfl, rfl⟩
theorem fd_12_61 : Nat.blt 61 (ab_cN 12) = true ∧ defaultValue (ab_cty 12 61) = .null := ⟨rfl, rfl⟩
theorem fd_12_62 : Nat.blt 62 (ab_cN 12) = true ∧ defaultValue (ab_cty 12 62) = .null := ⟨rfl, rfl⟩
theorem fd_12_63 : Nat.blt 63 (ab_cN 12) = true ∧ defaultValue (ab_cty 12 63) = .null := ⟨rfl, rfl⟩
theorem fd_12_64 : Nat.blt 64 (ab_cN 12) = true ∧ defaultValue (ab_cty 12 64) = .null := ⟨rfl, rfl⟩
theorem fd_12_65 : Nat.blt 65 (ab_cN 12) = true ∧ defaultValue (ab_cty 12 65) = .null := ⟨rfl, rfl⟩
theorem fd_12_66 : Nat.blt 66 (ab_cN 12) = true ∧ defaultValue (ab_cty 12 66) = .null := ⟨rfl, rfl⟩
theorem fd_12_67 : Nat.blt 67 (ab_cN 12) = true ∧ defaultValue (ab_cty 12 67) = .null := ⟨rfl, rfl⟩
theorem fd_12_68 : Nat.blt 68 (ab_cN 12) = true ∧ defaultValue (ab_cty 12 68) = .int 0 := ⟨rfl, rfl⟩
theorem fd_12_69 : Nat.blt 69 (ab_cN 12) = true ∧ defaultValue (ab_cty 12 69) = .int 0 := ⟨rfl, rfl⟩
theorem fd_12_70 : Nat.blt 70 (ab_cN 12) = true ∧ defaultValue (ab_cty 12 70) = .int 0 := ⟨rfl, rfl⟩
theorem fd_12_71 : Nat.blt 71 (ab_cN 12) = true ∧ defaultValue (ab_cty 12 71) = .null := ⟨rfl, rfl⟩
theorem fd_12_72 : Nat.blt 72 (ab_cN 12) = true ∧ defaultValue (ab_cty 12 72) = .null := ⟨rfl, rfl⟩
theorem fd_12_73 : Nat.blt 73 (ab_cN 12) = true ∧ defaultValue (ab_cty 12 73) = .null := ⟨rfl, rfl⟩
theorem fd_12_74 : Nat.blt 74 (ab_cN 12) = true ∧ defaultValue (ab_cty 12 74) = .int 0 := ⟨rfl, rfl⟩
theorem fd_12_75 : Nat.blt 75 (ab_cN 12) = true ∧ defaultValue (ab_cty 12 75) = .null := ⟨rfl, rfl⟩
theorem fd_12_76 : Nat.blt 76 (ab_cN 12) = true ∧ defaultValue (ab_cty 12 76) = .int 0 := ⟨rfl, rfl⟩
theorem fd_12_77 : Nat.blt 77 (ab_cN 12) = true ∧ defaultValue (ab_cty 12 77) = .int 0 := ⟨rfl, rfl⟩
theorem fd_12_78 : Nat.blt 78 (ab_cN 12) = true ∧ defaultValue (ab_cty 12 78) = .null := ⟨rfl, rfl⟩
theorem fd_12_79 : Nat.blt 79 (ab_cN 12) = true ∧ defaultValue (ab_cty 12 79) = .int 0 := ⟨rfl, rfl⟩
theorem fd_12_80 : Nat.blt 80 (ab_cN 12) = true ∧ defaultValue (ab_cty 12 80) = .int 0 := ⟨rfl, rfl⟩
theorem fd_12_81 : Nat.blt 81 (ab_cN 12) = true ∧ defaultValue (ab_cty 12 81) = .null := ⟨rfl, rfl⟩
theorem fd_12_82 : Nat.blt 82 (ab_cN 12) = true ∧ defaultValue (ab_cty 12 82) = .null := ⟨rfl, rfl⟩
theorem fd_12_83 : Nat.blt 83 (ab_cN 12) = true ∧ defaultValue (ab_cty 12 83) = .null := ⟨rfl, rfl⟩
theorem fd_12_84 : Nat.blt 84 (ab_cN 12) = true ∧ defaultValue (ab_cty 12 84) = .null := ⟨rfl, rfl⟩
theorem fd_12_85 : Nat.blt 85 (ab_cN 12) = true ∧ defaultValue (ab_cty 12 85) = .int 0 := ⟨rfl, rfl⟩
theorem fd_12_86 : Nat.blt 86 (ab_cN 12) = true ∧ defaultValue (ab_cty 12 86) = .null := ⟨rfl, rfl⟩
theorem fd_12_87 : Nat.blt 87 (ab_cN 12) = true ∧ defaultValue (ab_cty 12 87) = .null := ⟨rfl, rfl⟩
theorem fd_12_88 : Nat.blt 88 (ab_cN 12) = true ∧ defaultValue (ab_cty 12 88) = .null := ⟨rfl, rfl⟩
theorem fd_12_89 : Nat.blt 89 (ab_cN 12) = true ∧ defaultValue (ab_cty 12 89) = .int 0 := ⟨rfl, rfl⟩
theorem fd_12_90 : Nat.blt 90 (ab_cN 12) = true ∧ defaultValue (ab_cty 12 90) = .null := ⟨rfl, rfl⟩
theorem fd_12_91 : Nat.blt 91 (ab_cN 12) = true ∧ defaultValue (ab_cty 12 91) = .null := ⟨rfl, rfl⟩
theorem fd_12_92 : Nat.blt 92 (ab_cN 12) = true ∧ defaultValue (ab_cty 12 92) = .null := ⟨rfl, rfl⟩
theorem fd_12_93 : Nat.blt 93 (ab_cN 12) = true ∧ defaultValue (ab_cty 12 93) = .null := ⟨rfl, rfl⟩
theorem fd_12_94 : Nat.blt 94 (ab_cN 12) = true ∧ defaultValue (ab_cty 12 94) = .null := ⟨rfl, rfl⟩
theorem fd_12_95 : Nat.blt 95 (ab_cN 12) = true ∧ defaultValue (ab_cty 12 95) = .null := ⟨rfl, rfl⟩
theorem fd_12_96 : Nat.blt 96 (ab_cN 12) = true ∧ defaultValue (ab_cty 12 96) = .null := ⟨rfl, rfl⟩
theorem fd_12_97 : Nat.blt 97 (ab_cN 12) = true ∧ defaultValue (ab_cty 12 97) = .null := ⟨rfl, rfl⟩
theorem fd_12_98 : Nat.blt 98 (ab_cN 12) = true ∧ defaultValue (ab_cty 12 98) = .null := ⟨rfl, rfl⟩
theorem fd_12_99 : Nat.blt 99 (ab_cN 12) = true ∧ defaultValue (ab_cty 12 99) = .null := ⟨rfl, rfl⟩
theorem fd_12_100 : Nat.blt 100 (ab_cN 12) = true ∧ defaultValue (ab_cty 12 100) = .int 0 := ⟨rfl, rfl⟩
theorem fd_12_101 : Nat.blt 101 (ab_cN 12) = true ∧ defaultValue (ab_cty 12 101) = .null := ⟨rfl, rfl⟩
theorem fd_12_102 : Nat.blt 102 (ab_cN 12) = true ∧ defaultValue (ab_cty 12 102) = .null := ⟨rfl, rfl⟩
theorem fd_12_103 : Nat.blt 103 (ab_cN 12) = true ∧ defaultValue (ab_cty 12 103) = .null := ⟨rfl, rfl⟩
theorem fd_12_104 : Nat.blt 104 (ab_cN 12) = true ∧ defaultValue (ab_cty 12 104) = .int 0 := ⟨rfl, rfl⟩
theorem fd_12_105 : Nat.blt 105 (ab_cN 12) = true ∧ defaultValue (ab_cty 12 105) = .null := ⟨rfl, rfl⟩
theorem fd_12_106 : Nat.blt 106 (ab_cN 12) = true ∧ defaultValue (ab_cty 12 106) = .int 0 := ⟨rfl, rfl⟩
theorem fd_12_107 : Nat.blt 107 (ab_cN 12) = true ∧ defaultValue (ab_cty 12 107) = .null := ⟨rfl, rfl⟩
theorem fd_12_108 : Nat.blt 108 (ab_cN 12) = true ∧ defaultValue (ab_cty 12 108) = .null := ⟨rfl, rfl⟩
theorem fd_12_109 : Nat.blt 109 (ab_cN 12) = true ∧ defaultValue (ab_cty 12 109) = .null := ⟨rfl, rfl⟩
theorem fd_12_110 : Nat.blt 110 (ab_cN 12) = true ∧ defaultValue (ab_cty 12 110) = .null := ⟨rfl, rfl⟩
theorem fd_12_111 : Nat.blt 111 (ab_cN 12) = true ∧ defaultValue (ab_cty 12 111) = .null := ⟨rfl, rfl⟩
theorem fd_12_112 : Nat.blt 112 (ab_cN 12) = true ∧ defaultValue (ab_cty 12 112) = .null := ⟨rfl, rfl⟩
theorem fd_12_113 : Nat.blt 113 (ab_cN 12) = true ∧ defaultValue (ab_cty 12 113) = .null := ⟨rfl, rfl⟩
theorem fd_12_114 : Nat.blt 114 (ab_cN 12) = true ∧ defaultValue (ab_cty 12 114) = .null := ⟨rfl, rfl⟩
theorem fd_12_115 : Nat.blt 115 (ab_cN 12) = true ∧ defaultValue (ab_cty 12 115) = .null := ⟨rfl, rfl⟩
theorem fd_12_116 : Nat.blt 116 (ab_cN 12) = true ∧ defaultValue (ab_cty 12 116) = .null := ⟨rfl, rfl⟩
theorem fd_12_117 : Nat.blt 117 (ab_cN 12) = true ∧ defaultValue (ab_cty 12 117) = .int 0 := ⟨rfl, rfl⟩
theorem fd_12_118 : Nat.blt 118 (ab_cN 12) = true ∧ defaultValue (ab_cty 12 118) = .null := ⟨rfl, rfl⟩
theorem fd_12_119 : Nat.blt 119 (ab_cN 12) = true ∧ defaultValue (ab_cty 12 119) = .null := ⟨rfl, rfl⟩
theorem fd_12_120 : Nat.blt 120 (ab_cN 12) = true ∧ defaultValue (ab_cty 12 120) = .null := ⟨rfl, rfl⟩
theorem fd_12_121 : Nat.blt 121 (ab_cN 12) = true ∧ defaultValue (ab_cty 12 121) = .null := ⟨rfl, rfl⟩
theorem fd_12_122 : Nat.blt 122 (ab_cN 12) = true ∧ defaultValue (ab_cty 12 122) = .null := ⟨rfl, rfl⟩
theorem fd_12_123 : Nat.blt 123 (ab_cN 12) = true ∧ defaultValue (ab_cty 12 123) = .null := ⟨rfl, rfl⟩
theorem fd_12_124 : Nat.blt 124 (ab_cN 12) = true ∧ defaultValue (ab_cty 12 124) = .null := ⟨rfl, rfl⟩
theorem fd_12_125 : Nat.blt 125 (ab_cN 12) = true ∧ defaultValue (ab_cty 12 125) = .int 0 := ⟨rfl, rfl⟩
theorem fd_12_126 : Nat.blt 126 (ab_cN 12) = true ∧ defaultValue (ab_cty 12 126) = .int 0 := ⟨rfl, rfl⟩
theorem fd_12_127 : Nat.blt 127 (ab_cN 12) = true ∧ defaultValue (ab_cty 12 127) = .int 0 := ⟨rfl, rfl⟩
theorem fd_12_128 : Nat.blt 128 (ab_cN 12) = true ∧ defaultValue (ab_cty 12 128) = .int 0 := ⟨rfl, rfl⟩
theorem fd_12_129 : Nat.blt 129 (ab_cN 12) = true ∧ defaultValue (ab_cty 12 129) = .int 0 := ⟨rfl, rfl⟩
theorem fd_12_130 : Nat.blt 130 (ab_cN 12) = true ∧ defaultValue (ab_cty 12 130) = .int 0 := ⟨rfl, rfl⟩
theorem fd_12_131 : Nat.blt 131 (ab_cN 12) = true ∧ defaultValue (ab_cty 12 131) = .int 0 := ⟨rfl, rfl⟩
theorem fd_12_132 : Nat.blt 132 (ab_cN 12) = true ∧ defaultValue (ab_cty 12 132) = .int 0 := ⟨rfl, rfl⟩
theorem fd_12_133 : Nat.blt 133 (ab_cN 12) = true ∧ defaultValue (ab_cty 12 133) = .int 0 := ⟨rfl, rfl⟩
theorem fd_12_134 : Nat.blt 134 (ab_cN 12) = true ∧ defaultValue (ab_cty 12 134) = .null := ⟨rfl, rfl⟩
theorem fd_12_135 : Nat.blt 135 (ab_cN 12) = true ∧ defaultValue (ab_cty 12 135) = .null := ⟨rfl, rfl⟩
theorem fd_12_136 : Nat.blt 136 (ab_cN 12) = true ∧ defaultValue (ab_cty 12 136) = .int 0 := ⟨rfl, rfl⟩
theorem fd_12_137 : Nat.blt 137 (ab_cN 12) = true ∧ defaultValue (ab_cty 12 137) = .null := ⟨rfl, rfl⟩
theorem fd_12_138 : Nat.blt 138 (ab_cN 12) = true ∧ defaultValue (ab_cty 12 138) = .null := ⟨rfl, rfl⟩
theorem fd_12_139 : Nat.blt 139 (ab_cN 12) = true ∧ defaultValue (ab_cty 12 139) = .null := ⟨rfl, rfl⟩
theorem fd_12_140 : Nat.blt 140 (ab_cN 12) = true ∧ defaultValue (ab_cty 12 140) = .null := ⟨rfl, rfl⟩
theorem fd_12_141 : Nat.blt 141 (ab_cN 12) = true ∧ defaultValue (ab_cty 12 141) = .null := ⟨rfl, rfl⟩
theorem fd_12_142 : Nat.blt 142 (ab_cN 12) = true ∧ defaultValue (ab_cty 12 142) = .null := ⟨rfl, rfl⟩
theorem fd_12_143 : Nat.blt 143 (ab_cN 12) = true ∧ defaultValue (ab_cty 12 143) = .int 0 := ⟨rfl, rfl⟩
theorem fd_12_144 : Nat.blt 144 (ab_cN 12) = true ∧ defaultValue (ab_cty 12 144) = .int 0 := ⟨rfl, rfl⟩
theorem fd_12_145 : Nat.blt 145 (ab_cN 12) = true ∧ defaultValue (ab_cty 12 145) = .int 0 := ⟨rfl, rfl⟩
theorem fd_12_146 : Nat.blt 146 (ab_cN 12) = true ∧ defaultValue (ab_cty 12 146) = .int 0 := ⟨rfl, rfl⟩
theorem fd_12_147 : Nat.blt 147 (ab_cN 12) = true ∧ defaultValue (ab_cty 12 147) = .int 0 := ⟨rfl, rfl⟩
theorem fd_12_148 : Nat.blt 148 (ab_cN 12) = true ∧ defaultValue (ab_cty 12 148) = .int 0 := ⟨rfl, rfl⟩
theorem fd_12_149 : Nat.blt 149 (ab_cN 12) = true ∧ defaultValue (ab_cty 12 149) = .int 0 := ⟨rfl, rfl⟩
theorem fd_12_150 : Nat.blt 150 (ab_cN 12) = true ∧ defaultValue (ab_cty 12 150) = .int 0 := ⟨rfl, rfl⟩
theorem fd_12_151 : Nat.blt 151 (ab_cN 12) = true ∧ defaultValue (ab_cty 12 151) = .int 0 := ⟨rfl, rfl⟩
theorem fd_12_152 : Nat.blt 152 (ab_cN 12) = true ∧ defaultValue (ab_cty 12 152) = .int 0 := ⟨rfl, rfl⟩
theorem fd_12_153 : Nat.blt 153 (ab_cN 12) = true ∧ defaultValue (ab_cty 12 153) = .int 0 := ⟨rfl, rfl⟩
theorem fd_12_154 : Nat.blt 154 (ab_cN 12) = true ∧ defaultValue (ab_cty 12 154) = .int 0 := ⟨rfl, rfl⟩
theorem fd_12_155 : Nat.blt 155 (ab_cN 12) = true ∧ defaultValue (ab_cty 12 155) = .int 0 := ⟨rfl, rfl⟩
theorem fd_12_156 : Nat.blt 156 (ab_cN 12) = true ∧ defaultValue (ab_cty 12 156) = .int 0 := ⟨rfl, rfl⟩
theorem fd_12_157 : Nat.blt 157 (ab_cN 12) = true ∧ defaultValue (ab_cty 12 157) = .int 0 := ⟨rfl, rfl⟩
theorem fd_12_158 : Nat.blt 158 (ab_cN 12) = true ∧ defaultValue (ab_cty 12 158) = .int 0 := ⟨rfl, rfl⟩
theorem fd_12_159 : Nat.blt 159 (ab_cN 12) = true ∧ defaultValue (ab_cty 12 159) = .null := ⟨rfl, rfl⟩
theorem fd_12_160 : Nat.blt 160 (ab_cN 12) = true ∧ defaultValue (ab_cty 12 160) = .int 0 := ⟨rfl, rfl⟩
theorem fd_12_161 : Nat.blt 161 (ab_cN 12) = true ∧ defaultValue (ab_cty 12 161) = .int 0 := ⟨rfl, rfl⟩
theorem fd_12_162 : Nat.blt 162 (ab_cN 12) = true ∧ defaultValue (ab_cty 12 162) = .int 0 := ⟨rfl, rfl⟩
theorem fd_12_163 : Nat.blt 163 (ab_cN 12) = true ∧ defaultValue (ab_cty 12 163) = .int 0 := ⟨rfl, rfl⟩
theorem fd_12_164 : Nat.blt 164 (ab_cN 12) = true ∧ defaultValue (ab_cty 12 164) = .int 0 := ⟨rfl, rfl⟩
theorem fd_12_166 : Nat.blt 166 (ab_cN 12) = true ∧ defaultValue (ab_cty 12 166) = .int 0 := ⟨rfl, rfl⟩
theorem fd_12_167 : Nat.blt 167 (ab_cN 12) = true ∧ defaultValue (ab_cty 12 167) = .int 0 := ⟨rfl, rfl⟩
theorem fd_12_168 : Nat.blt 168 (ab_cN 12) = true ∧ defaultValue (ab_cty 12 168) = .null := ⟨rfl, rfl⟩
theorem fd_12_169 : Nat.blt 169 (ab_cN 12) = true ∧ defaultValue (ab_cty 12 169) = .null := ⟨rfl, rfl⟩
theorem fd_12_170 : Nat.blt 170 (ab_cN 12) = true ∧ defaultValue (ab_cty 12 170) = .null := ⟨rfl, rfl⟩
theorem fd_12_171 : Nat.blt 171 (ab_cN 12) = true ∧ defaultValue (ab_cty 12 171) = .null := ⟨rfl, rfl⟩
theorem fd_12_172 : Nat.blt 172 (ab_cN 12) = true ∧ defaultValue (ab_cty 12 172) = .null := ⟨rfl, rfl⟩
theorem fd_12_173 : Nat.blt 173 (ab_cN 12) = true ∧ defaultValue (ab_cty 12 173) = .null := ⟨rfl, rfl⟩
theorem fd_12_174 : Nat.blt 174 (ab_cN 12) = true ∧ defaultValue (ab_cty 12 174) = .int 0 := ⟨rfl, rfl⟩
theorem fd_12_175 : Nat.blt 175 (ab_cN 12) = true ∧ defaultValue (ab_cty 12 175) = .null := ⟨rfl, rfl⟩
theorem fd_12_176 : Nat.blt 176 (ab_cN 12) = true ∧ defaultValue (ab_cty 12 176) = .null := ⟨rfl, rfl⟩
theorem fd_12_177 : Nat.blt 177 (ab_cN 12) = true ∧ defaultValue (ab_cty 12 177) = .null := ⟨rfl, rfl⟩
theorem fd_12_178 : Nat.blt 178 (ab_cN 12) = true ∧ defaultValue (ab_cty 12 178) = .null := ⟨rfl, rfl⟩
theorem fd_12_179 : Nat.blt 179 (ab_cN 12) = true ∧ defaultValue (ab_cty 12 179) = .null := ⟨rfl, rfl⟩
theorem fd_12_180 : Nat.blt 180 (ab_cN 12) = true ∧ defaultValue (ab_cty 12 180) = .null := ⟨rfl, rfl⟩
theorem fd_12_181 : Nat.blt 181 (ab_cN 12) = true ∧ defaultValue (ab_cty 12 181) = .int 0 := ⟨rfl, rfl⟩
theorem fd_12_182 : Nat.blt 182 (ab_cN 12) = true ∧ defaultValue (ab_cty 12 182) = .null := ⟨rfl, rfl⟩
theorem fd_12_183 : Nat.blt 183 (ab_cN 12) = true ∧ defaultValue (ab_cty 12 183) = .int 0 := ⟨rfl, rfl⟩
theorem fd_12_184 : Nat.blt 184 (ab_cN 12) = true ∧ defaultValue (ab_cty 12 184) = .null := ⟨rfl, rfl⟩
theorem fd_12_185 : Nat.blt 185 (ab_cN 12) = true ∧ defaultValue (ab_cty 12 185) = .int 0 := ⟨rfl, rfl⟩
theorem fw_0_5 : Nat.blt 5 (ab_cN 0) = true ∧ ab_cty 0 5 = .int := ⟨rfl, rfl⟩
theorem fw_0_6 : Nat.blt 6 (ab_cN 0) = true ∧ ab_cty 0 6 = .long := ⟨rfl, rfl⟩
theorem fw_0_7 : Nat.blt 7 (ab_cN 0) = true ∧ ab_cty 0 7 = .int := ⟨rfl, rfl⟩
theorem fw_0_8 : Nat.blt 8 (ab_cN 0) = true ∧ ab_cty 0 8 = .int := ⟨rfl, rfl⟩
theorem fw_0_9 : Nat.blt 9 (ab_cN 0) = true ∧ ab_cty 0 9 = .int := ⟨rfl, rfl⟩
theorem fw_0_10 : Nat.blt 10 (ab_cN 0) = true ∧ ab_cty 0 10 = .int := ⟨rfl, rfl⟩
theorem fw_0_12 : Nat.blt 12 (ab_cN 0) = true ∧ ab_cty 0 12 = .int := ⟨rfl, rfl⟩
theorem fw_0_13 : Nat.blt 13 (ab_cN 0) = true ∧ ab_cty 0 13 = .long := ⟨rfl, rfl⟩
theorem fw_0_15 : Nat.blt 15 (ab_cN 0) = true ∧ ab_cty 0 15 = .int := ⟨rfl, rfl⟩
theorem fw_0_16 : Nat.blt 16 (ab_cN 0) = true ∧ ab_cty 0 16 = .int := ⟨rfl, rfl⟩
theorem fw_0_17 : Nat.blt 17 (ab_cN 0) = true ∧ ab_cty 0 17 = .int := ⟨rfl, rfl⟩
theorem fw_0_18 : Nat.blt 18 (ab_cN 0) = true ∧ ab_cty 0 18 = .int := ⟨rfl, rfl⟩
theorem fw_1_1 : Nat.blt 1 (ab_cN 1) = true ∧ ab_cty 1 1 = .long := ⟨rfl, rfl⟩
theorem fw_1_2 : Nat.blt 2 (ab_cN 1) = true ∧ ab_cty 1 2 = .int := ⟨rfl, rfl⟩
theorem fw_1_3 : Nat.blt 3 (ab_cN 1) = true ∧ ab_cty 1 3 = .int := ⟨rfl, rfl⟩
theorem fw_1_4 : Nat.blt 4 (ab_cN 1) = true ∧ ab_cty 1 4 = .int := ⟨rfl, rfl⟩
theorem fw_1_5 : Nat.blt 5 (ab_cN 1) = true ∧ ab_cty 1 5 = .int := ⟨rfl, rfl⟩
theorem fw_1_6 : Nat.blt 6 (ab_cN 1) = true ∧ ab_cty 1 6 = .int := ⟨rfl, rfl⟩
theorem fw_1_7 : Nat.blt 7 (ab_cN 1) = true ∧ ab_cty 1 7 = .int := ⟨rfl, rfl⟩
theorem fw_2_1 : Nat.blt 1 (ab_cN 2) = true ∧ ab_cty 2 1 = .int := ⟨rfl, rfl⟩
theorem fw_2_2 : Nat.blt 2 (ab_cN 2) = true ∧ ab_cty 2 2 = .long := ⟨rfl, rfl⟩
theorem fw_2_3 : Nat.blt 3 (ab_cN 2) = true ∧ ab_cty 2 3 = .long := ⟨rfl, rfl⟩
theorem fw_2_5 : Nat.blt 5 (ab_cN 2) = true ∧ ab_cty 2 5 = .boolean := ⟨rfl, rfl⟩
theorem fw_2_7 : Nat.blt 7 (ab_cN 2) = true ∧ ab_cty 2 7 = .int := ⟨rfl, rfl⟩
theorem fw_3_0 : Nat.blt 0 (ab_cN 3) = true ∧ ab_cty 3 0 = .int := ⟨rfl, rfl⟩
theorem fw_3_1 : Nat.blt 1 (ab_cN 3) = true ∧ ab_cty 3 1 = .int := ⟨rfl, rfl⟩
theorem fw_3_2 : Nat.blt 2 (ab_cN 3) = true ∧ ab_cty 3 2 = .int := ⟨rfl, rfl⟩
theorem fw_3_3 : Nat.blt 3 (ab_cN 3) = true ∧ ab_cty 3 3 = .int := ⟨rfl, rfl⟩
theorem fw_3_4 : Nat.blt 4 (ab_cN 3) = true ∧ ab_cty 3 4 = .int := ⟨rfl, rfl⟩
theorem fw_3_5 : Nat.blt 5 (ab_cN 3) = true ∧ ab_cty 3 5 = .int := ⟨rfl, rfl⟩
theorem fw_3_6 : Nat.blt 6 (ab_cN 3) = true ∧ ab_cty 3 6 = .int := ⟨rfl, rfl⟩
theorem fw_3_7 : Nat.blt 7 (ab_cN 3) = true ∧ ab_cty 3 7 = .int := ⟨rfl, rfl⟩
theorem fw_3_8 : Nat.blt 8 (ab_cN 3) = true ∧ ab_cty 3 8 = .int := ⟨rfl, rfl⟩
theorem fw_3_9 : Nat.blt 9 (ab_cN 3) = true ∧ ab_cty 3 9 = .int := ⟨rfl, rfl⟩
theorem fw_3_10 : Nat.blt 10 (ab_cN 3) = true ∧ ab_cty 3 10 = .int := ⟨rfl, rfl⟩
theorem fw_3_11 : Nat.blt 11 (ab_cN 3) = true ∧ ab_cty 3 11 = .int := ⟨rfl, rfl⟩
theorem fw_3_12 : Nat.blt 12 (ab_cN 3) = true ∧ ab_cty 3 12 = .int := ⟨rfl, rfl⟩
theorem fw_3_13 : Nat.blt 13 (ab_cN 3) = true ∧ ab_cty 3 13 = .int := ⟨rfl, rfl⟩
theorem fw_3_14 : Nat.blt 14 (ab_cN 3) = true ∧ ab_cty 3 14 = .int := ⟨rfl, rfl⟩
theorem fw_3_15 : Nat.blt 15 (ab_cN 3) = true ∧ ab_cty 3 15 = .int := ⟨rfl, rfl⟩
theorem fw_3_16 : Nat.blt 16 (ab_cN 3) = true ∧ ab_cty 3 16 = .boolean := ⟨rfl, rfl⟩
theorem fw_3_17 : Nat.blt 17 (ab_cN 3) = true ∧ ab_cty 3 17 = .boolean := ⟨rfl, rfl⟩
theorem fw_3_18 : Nat.blt 18 (ab_cN 3) = true ∧ ab_cty 3 18 = .int := ⟨rfl, rfl⟩
theorem fw_3_19 : Nat.blt 19 (ab_cN 3) = true ∧ ab_cty 3 19 = .int := ⟨rfl, rfl⟩
theorem fw_4_0 : Nat.blt 0 (ab_cN 4) = true ∧ ab_cty 4 0 = .int := ⟨rfl, rfl⟩
theorem fw_4_2 : Nat.blt 2 (ab_cN 4) = true ∧ ab_cty 4 2 = .int := ⟨rfl, rfl⟩
theorem fw_5_3 : Nat.blt 3 (ab_cN 5) = true ∧ ab_cty 5 3 = .int := ⟨rfl, rfl⟩
theorem fw_5_4 : Nat.blt 4 (ab_cN 5) = true ∧ ab_cty 5 4 = .int := ⟨rfl, rfl⟩
theorem fw_5_6 : Nat.blt 6 (ab_cN 5) = true ∧ ab_cty 5 6 = .int := ⟨rfl, rfl⟩
theorem fw_5_10 : Nat.blt 10 (ab_cN 5) = true ∧ ab_cty 5 10 = .int := ⟨rfl, rfl⟩
theorem fw_5_11 : Nat.blt 11 (ab_cN 5) = true ∧ ab_cty 5 11 = .int := ⟨rfl, rfl⟩
theorem fw_5_12 : Nat.blt 12 (ab_cN 5) = true ∧ ab_cty 5 12 = .int := ⟨rfl, rfl⟩
theorem fw_5_13 : Nat.blt 13 (ab_cN 5) = true ∧ ab_cty 5 13 = .int := ⟨rfl, rfl⟩
theorem fw_5_14 : Nat.blt 14 (ab_cN 5) = true ∧ ab_cty 5 14 = .int := ⟨rfl, rfl⟩
theorem fw_5_15 : Nat.blt 15 (ab_cN 5) = true ∧ ab_cty 5 15 = .boolean := ⟨rfl, rfl⟩
theorem fw_5_17 : Nat.blt 17 (ab_cN 5) = true ∧ ab_cty 5 17 = .int := ⟨rfl, rfl⟩
theorem fw_5_18 : Nat.blt 18 (ab_cN 5) = true ∧ ab_cty 5 18 = .int := ⟨rfl, rfl⟩
theorem fw_5_19 : Nat.blt 19 (ab_cN 5) = true ∧ ab_cty 5 19 = .int := ⟨rfl, rfl⟩
theorem fw_6_2 : Nat.blt 2 (ab_cN 6) = true ∧ ab_cty 6 2 = .int := ⟨rfl, rfl⟩
theorem fw_6_4 : Nat.blt 4 (ab_cN 6) = true ∧ ab_cty 6 4 = .int := ⟨rfl, rfl⟩
theorem fw_6_6 : Nat.blt 6 (ab_cN 6) = true ∧ ab_cty 6 6 = .int := ⟨rfl, rfl⟩
theorem fw_6_8 : Nat.blt 8 (ab_cN 6) = true ∧ ab_cty 6 8 = .int := ⟨rfl, rfl⟩
theorem fw_6_9 : Nat.blt 9 (ab_cN 6) = true ∧ ab_cty 6 9 = .int := ⟨rfl, rfl⟩
theorem fw_6_12 : Nat.blt 12 (ab_cN 6) = true ∧ ab_cty 6 12 = .int := ⟨rfl, rfl⟩
theorem fw_6_16 : Nat.blt 16 (ab_cN 6) = true ∧ ab_cty 6 16 = .int := ⟨rfl, rfl⟩
theorem fw_6_18 : Nat.blt 18 (ab_cN 6) = true ∧ ab_cty 6 18 = .int := ⟨rfl, rfl⟩
theorem fw_6_19 : Nat.blt 19 (ab_cN 6) = true ∧ ab_cty 6 19 = .int := ⟨rfl, rfl⟩
theorem fw_7_0 : Nat.blt 0 (ab_cN 7) = true ∧ ab_cty 7 0 = .int := ⟨rfl, rfl⟩
theorem fw_7_1 : Nat.blt 1 (ab_cN 7) = true ∧ ab_cty 7 1 = .long := ⟨rfl, rfl⟩
theorem fw_7_2 : Nat.blt 2 (ab_cN 7) = true ∧ ab_cty 7 2 = .int := ⟨rfl, rfl⟩
theorem fw_7_3 : Nat.blt 3 (ab_cN 7) = true ∧ ab_cty 7 3 = .int := ⟨rfl, rfl⟩
theorem fw_7_4 : Nat.blt 4 (ab_cN 7) = true ∧ ab_cty 7 4 = .int := ⟨rfl, rfl⟩
theorem fw_7_5 : Nat.blt 5 (ab_cN 7) = true ∧ ab_cty 7 5 = .int := ⟨rfl, rfl⟩
theorem fw_7_6 : Nat.blt 6 (ab_cN 7) = true ∧ ab_cty 7 6 = .int := ⟨rfl, rfl⟩
theorem fw_7_7 : Nat.blt 7 (ab_cN 7) = true ∧ ab_cty 7 7 = .int := ⟨rfl, rfl⟩
theorem fw_7_8 : Nat.blt 8 (ab_cN 7) = true ∧ ab_cty 7 8 = .int := ⟨rfl, rfl⟩
theorem fw_7_9 : Nat.blt 9 (ab_cN 7) = true ∧ ab_cty 7 9 = .int := ⟨rfl, rfl⟩
theorem fw_7_10 : Nat.blt 10 (ab_cN 7) = true ∧ ab_cty 7 10 = .long := ⟨rfl, rfl⟩
theorem fw_7_12 : Nat.blt 12 (ab_cN 7) = true ∧ ab_cty 7 12 = .int := ⟨rfl, rfl⟩
theorem fw_7_15 : Nat.blt 15 (ab_cN 7) = true ∧ ab_cty 7 15 = .boolean := ⟨rfl, rfl⟩
theorem fw_7_16 : Nat.blt 16 (ab_cN 7) = true ∧ ab_cty 7 16 = .boolean := ⟨rfl, rfl⟩
theorem fw_8_3 : Nat.blt 3 (ab_cN 8) = true ∧ ab_cty 8 3 = .int := ⟨rfl, rfl⟩
theorem fw_8_6 : Nat.blt 6 (ab_cN 8) = true ∧ ab_cty 8 6 = .int := ⟨rfl, rfl⟩
theorem fw_8_9 : Nat.blt 9 (ab_cN 8) = true ∧ ab_cty 8 9 = .int := ⟨rfl, rfl⟩
theorem fw_8_10 : Nat.blt 10 (ab_cN 8) = true ∧ ab_cty 8 10 = .int := ⟨rfl, rfl⟩
theorem fw_8_11 : Nat.blt 11 (ab_cN 8) = true ∧ ab_cty 8 11 = .int := ⟨rfl, rfl⟩
theorem fw_9_11 : Nat.blt 11 (ab_cN 9) = true ∧ ab_cty 9 11 = .long := ⟨rfl, rfl⟩
theorem fw_9_12 : Nat.blt 12 (ab_cN 9) = true ∧ ab_cty 9 12 = .long := ⟨rfl, rfl⟩
theorem fw_9_13 : Nat.blt 13 (ab_cN 9) = true ∧ ab_cty 9 13 = .int := ⟨rfl, rfl⟩
theorem fw_9_14 : Nat.blt 14 (ab_cN 9) = true ∧ ab_cty 9 14 = .int := ⟨rfl, rfl⟩
theorem fw_10_3 : Nat.blt 3 (ab_cN 10) = true ∧ ab_cty 10 3 = .int := ⟨rfl, rfl⟩
theorem fw_10_4 : Nat.blt 4 (ab_cN 10) = true ∧ ab_cty 10 4 = .int := ⟨rfl, rfl⟩
theorem fw_10_5 : Nat.blt 5 (ab_cN 10) = true ∧ ab_cty 10 5 = .int := ⟨rfl, rfl⟩
theorem fw_10_6 : Nat.blt 6 (ab_cN 10) = true ∧ ab_cty 10 6 = .int := ⟨rfl, rfl⟩
theorem fw_10_7 : Nat.blt 7 (ab_cN 10) = true ∧ ab_cty 10 7 = .long := ⟨rfl, rfl⟩
theorem fw_11_9 : Nat.blt 9 (ab_cN 11) = true ∧ ab_cty 11 9 = .int := ⟨rfl, rfl⟩
theorem fw_12_1 : Nat.blt 1 (ab_cN 12) = true ∧ ab_cty 12 1 = .int := ⟨rfl, rfl⟩
theorem fw_12_3 : Nat.blt 3 (ab_cN 12) = true ∧ ab_cty 12 3 = .int := ⟨rfl, rfl⟩
theorem fw_12_5 : Nat.blt 5 (ab_cN 12) = true ∧ ab_cty 12 5 = .int := ⟨rfl, rfl⟩
theorem fw_12_12 : Nat.blt 12 (ab_cN 12) = true ∧ ab_cty 12 12 = .int := ⟨rfl, rfl⟩
theorem fw_12_14 : Nat.blt 14 (ab_cN 12) = true ∧ ab_cty 12 14 = .boolean := ⟨rfl, rfl⟩
theorem fw_12_15 : Nat.blt 15 (ab_cN 12) = true ∧ ab_cty 12 15 = .int := ⟨rfl, rfl⟩
theorem fw_12_16 : Nat.blt 16 (ab_cN 12) = true ∧ ab_cty 12 16 = .int := ⟨rfl, rfl⟩
theorem fw_12_25 : Nat.blt 25 (ab_cN 12) = true ∧ ab_cty 12 25 = .int := ⟨rfl, rfl⟩
theorem fw_12_26 : Nat.blt 26 (ab_cN 12) = true ∧ ab_cty 12 26 = .int := ⟨rfl, rfl⟩
theorem fw_12_27 : Nat.blt 27 (ab_cN 12) = true ∧ ab_cty 12 27 = .int := ⟨rfl, rfl⟩
theorem fw_12_30 : Nat.blt 30 (ab_cN 12) = true ∧ ab_cty 12 30 = .int := ⟨rfl, rfl⟩
theorem fw_12_35 : Nat.blt 35 (ab_cN 12) = true ∧ ab_cty 12 35 = .int := ⟨rfl, rfl⟩
theorem fw_12_37 : Nat.blt 37 (ab_cN 12) = true ∧ ab_cty 12 37 = .int := ⟨rfl, rfl⟩
theorem fw_12_38 : Nat.blt 38 (ab_cN 12) = true ∧ ab_cty 12 38 = .int := ⟨rfl, rfl⟩
theorem fw_12_39 : Nat.blt 39 (ab_cN 12) = true ∧ ab_cty 12 39 = .int := ⟨rfl, rfl⟩
theorem fw_12_40 : Nat.blt 40 (ab_cN 12) = true ∧ ab_cty 12 40 = .int := ⟨rfl, rfl⟩
theorem fw_12_41 : Nat.blt 41 (ab_cN 12) = true ∧ ab_cty 12 41 = .int := ⟨rfl, rfl⟩
theorem fw_12_42 : Nat.blt 42 (ab_cN 12) = true ∧ ab_cty 12 42 = .int := ⟨rfl, rfl⟩
theorem fw_12_44 : Nat.blt 44 (ab_cN 12) = true ∧ ab_cty 12 44 = .int := ⟨rfl, rfl⟩
theorem fw_12_68 : Nat.blt 68 (ab_cN 12) = true ∧ ab_cty 12 68 = .int := ⟨rfl, rfl⟩
theorem fw_12_69 : Nat.blt 69 (ab_cN 12) = true ∧ ab_cty 12 69 = .int := ⟨rfl, rfl⟩
theorem fw_12_70 : Nat.blt 70 (ab_cN 12) = true ∧ ab_cty 12 70 = .int := ⟨rfl, rfl⟩
theorem fw_12_74 : Nat.blt 74 (ab_cN 12) = true ∧ ab_cty 12 74 = .int := ⟨rfl, rfl⟩
theorem fw_12_76 : Nat.blt 76 (ab_cN 12) = true ∧ ab_cty 12 76 = .int := ⟨rfl, rfl⟩
theorem fw_12_77 : Nat.blt 77 (ab_cN 12) = true ∧ ab_cty 12 77 = .int := ⟨rfl, rfl⟩
theorem fw_12_79 : Nat.blt 79 (ab_cN 12) = true ∧ ab_cty 12 79 = .int := ⟨rfl, rfl⟩
theorem fw_12_80 : Nat.blt 80 (ab_cN 12) = true ∧ ab_cty 12 80 = .int := ⟨rfl, rfl⟩
theorem fw_12_85 : Nat.blt 85 (ab_cN 12) = true ∧ ab_cty 12 85 = .int := ⟨rfl, rfl⟩
theorem fw_12_89 : Nat.blt 89 (ab_cN 12) = true ∧ ab_cty 12 89 = .int := ⟨rfl, rfl⟩
theorem fw_12_100 : Nat.blt 100 (ab_cN 12) = true ∧ ab_cty 12 100 = .int := ⟨rfl, rfl⟩
theorem fw_12_104 : Nat.blt 104 (ab_cN 12) = true ∧ ab_cty 12 104 = .int := ⟨rfl, rfl⟩
theorem fw_12_106 : Nat.blt 106 (ab_cN 12) = true ∧ ab_cty 12 106 = .int := ⟨rfl, rfl⟩
theorem fw_12_117 : Nat.blt 117 (ab_cN 12) = true ∧ ab_cty 12 117 = .int := ⟨rfl, rfl⟩
theorem fw_12_125 : Nat.blt 125 (ab_cN 12) = true ∧ ab_cty 12 125 = .int := ⟨rfl, rfl⟩
theorem fw_12_126 : Nat.blt 126 (ab_cN 12) = true ∧ ab_cty 12 126 = .boolean := ⟨rfl, rfl⟩
theorem fw_12_127 : Nat.blt 127 (ab_cN 12) = true ∧ ab_cty 12 127 = .int := ⟨rfl, rfl⟩
theorem fw_12_128 : Nat.blt 128 (ab_cN 12) = true ∧ ab_cty 12 128 = .int := ⟨rfl, rfl⟩
theorem fw_12_129 : Nat.blt 129 (ab_cN 12) = true ∧ ab_cty 12 129 = .int := ⟨rfl, rfl⟩
theorem fw_12_130 : Nat.blt 130 (ab_cN 12) = true ∧ ab_cty 12 130 = .int := ⟨rfl, rfl⟩
theorem fw_12_131 : Nat.blt 131 (ab_cN 12) = true ∧ ab_cty 12 131 = .int := ⟨rfl, rfl⟩
theorem fw_12_132 : Nat.blt 132 (ab_cN 12) = true ∧ ab_cty 12 132 = .int := ⟨rfl, rfl⟩
theorem fw_12_133 : Nat.blt 133 (ab_cN 12) = true ∧ ab_cty 12 133 = .int := ⟨rfl, rfl⟩
theorem fw_12_136 : Nat.blt 136 (ab_cN 12) = true ∧ ab_cty 12 136 = .int := ⟨rfl, rfl⟩
theorem fw_12_143 : Nat.blt 143 (ab_cN 12) = true ∧ ab_cty 12 143 = .int := ⟨rfl, rfl⟩
theorem fw_12_144 : Nat.blt 144 (ab_cN 12) = true ∧ ab_cty 12 144 = .boolean := ⟨rfl, rfl⟩
theorem fw_12_145 : Nat.blt 145 (ab_cN 12) = true ∧ ab_cty 12 145 = .int := ⟨rfl, rfl⟩
theorem fw_12_146 : Nat.blt 146 (ab_cN 12) = true ∧ ab_cty 12 146 = .int := ⟨rfl, rfl⟩
theorem fw_12_147 : Nat.blt 147 (ab_cN 12) = true ∧ ab_cty 12 147 = .int := ⟨rfl, rfl⟩
theorem fw_12_148 : Nat.blt 148 (ab_cN 12) = true ∧ ab_cty 12 148 = .int := ⟨rfl, rfl⟩
theorem fw_12_149 : Nat.blt 149 (ab_cN 12) = true ∧ ab_cty 12 149 = .int := ⟨rfl, rfl⟩
theorem fw_12_150 : Nat.blt 150 (ab_cN 12) = true ∧ ab_cty 12 150 = .int := ⟨rfl, rfl⟩
theorem fw_12_151 : Nat.blt 151 (ab_cN 12) = true ∧ ab_cty 12 151 = .int := ⟨rfl, rfl⟩
theorem fw_12_152 : Nat.blt 152 (ab_cN 12) = true ∧ ab_cty 12 152 = .boolean := ⟨rfl, rfl⟩
theorem fw_12_153 : Nat.blt 153 (ab_cN 12) = true ∧ ab_cty 12 153 = .boolean := ⟨rfl, rfl⟩
theorem fw_12_154 : Nat.blt 154 (ab_cN 12) = true ∧ ab_cty 12 154 = .boolean := ⟨rfl, rfl⟩
theorem fw_12_155 : Nat.blt 155 (ab_cN 12) = true ∧ ab_cty 12 155 = .int := ⟨rfl, rfl⟩
theorem fw_12_156 : Nat.blt 156 (ab_cN 12) = true ∧ ab_cty 12 156 = .int := ⟨rfl, rfl⟩
theorem fw_12_157 : Nat.blt 157 (ab_cN 12) = true ∧ ab_cty 12 157 = .int := ⟨rfl, rfl⟩
theorem fw_12_158 : Nat.blt 158 (ab_cN 12) = true ∧ ab_cty 12 158 = .int := ⟨rfl, rfl⟩
theorem fw_12_160 : Nat.blt 160 (ab_cN 12) = true ∧ ab_cty 12 160 = .int := ⟨rfl, rfl⟩
theorem fw_12_161 : Nat.blt 161 (ab_cN 12) = true ∧ ab_cty 12 161 = .int := ⟨rfl, rfl⟩
theorem fw_12_162 : Nat.blt 162 (ab_cN 12) = true ∧ ab_cty 12 162 = .int := ⟨rfl, rfl⟩
theorem fw_12_163 : Nat.blt 163 (ab_cN 12) = true ∧ ab_cty 12 163 = .boolean := ⟨rfl, rfl⟩
theorem fw_12_164 : Nat.blt 164 (ab_cN 12) = true ∧ ab_cty 12 164 = .int := ⟨rfl, rfl⟩
theorem fw_12_166 : Nat.blt 166 (ab_cN 12) = true ∧ ab_cty 12 166 = .int := ⟨rfl, rfl⟩
theorem fw_12_167 : Nat.blt 167 (ab_cN 12) = true ∧ ab_cty 12 167 = .int := ⟨rfl, rfl⟩
theorem fw_12_174 : Nat.blt 174 (ab_cN 12) = true ∧ ab_cty 12 174 = .int := ⟨rfl, rfl⟩
theorem fw_12_181 : Nat.blt 181 (ab_cN 12) = true ∧ ab_cty 12 181 = .int := ⟨rfl, rfl⟩
theorem fw_12_183 : Nat.blt 183 (ab_cN 12) = true ∧ ab_cty 12 183 = .int := ⟨rfl, rfl⟩
theorem fw_12_185 : Nat.blt 185 (ab_cN 12) = true ∧ ab_cty 12 185 = .int := ⟨rfl, rfl⟩
