/-! THE CALLS word, count (14: the picture's height, 16: the rules) -/
section YQ
variable {n n' n1 n'' : NS} {m m' m0 : YS} {A B G N N' a b c x y q s k j r w v u : Int} {o e p o' e' p' : Int → Int} {As Bs : Int → Prop}
/-- a word, in both -/
theorem LAYD.wd (h : LAYD N o e p n m) (w0 : 0 ≤ w) (w1 : w < n 5 0 6) : ∃ r, 0 ≤ r ∧ r < N ∧ m 107 (o r) = 6 ∧ (m 116 (o r) ≤ w ∧ w < m 116 (o r) + n 3 (o r) 19) ∧ TXw n m (m 109 (o r)) (o r) ∧ WDi n m (m 109 (o r)) (o r) w := by
  obtain ⟨r, r0, r1, r2, r3, r4⟩ := h.2.1.2.2.1 w w0 w1
  have ht := (h.1.2.1 r r0 r1).tx r2
  exact ⟨r, r0, r1, r2, ⟨r3, r4⟩, ht, ht.2.2.2.2.1 w r3 r4⟩
theorem call_word (hC : CI As Bs A B G n m) (hH : SHc n) (hI : LAYI n m) : ∃ r n' m', N_H_word v u n = some (r, n') ∧ N_Y_word v u m = some (r, m') ∧ CI As Bs A B G n' m' ∧ SHc n' ∧ LAYI n' m' ∧ FZl n n' m m' := by
  obtain ⟨n1, n', m', N, o, e, p, o2, e2, p2, q1, q2, q3, q4, q5, q6, ⟨q6a, q6b⟩, ⟨q7, q7'⟩, q8, q9, q10, q11, q12, q13⟩ := lay_call hC hH hI
  have e6 : n' 5 0 6 = m' 117 0 := q9.2.1.2.1
  obtain ⟨w1, w2, w3, w4, w5⟩ := q9.2.2.2.2.1.1.1
  have fin : ∀ r, N_H_word v u n = some (r, n') → N_Y_word v u m = some (r, m') → ∃ r n' m', N_H_word v u n = some (r, n') ∧ N_Y_word v u m = some (r, m') ∧ CI As Bs A B G n' m' ∧ SHc n' ∧ LAYI n' m' ∧ FZl n n' m m' := fun r a b => ⟨r, n', m', a, b, q4.2, q5.2, q6.2, q13⟩
  unfold N_H_word N_Y_word at *
  rw [q1, q3] at fin
  rw [q1, q3]
  simp only [Option.bind_some] at fin ⊢
  rw [q2] at fin ⊢
  simp only [Option.bind_some] at fin ⊢
  by_cases v0 : v < 0
  · exact fin (-1000) (by rw [if_pos v0]) (by rw [if_pos v0])
  · by_cases v1 : v < n' 5 0 6
    · rw [if_neg v0, if_neg v0, if_pos v1, if_pos (show v < m' 117 0 by omega)] at fin ⊢
      obtain ⟨t, r0, r1, r2, r3, r4, d1, d2, d3, d4, d5, d6, d7⟩ := q9.wd (w := v) (by omega) v1
      have hpl := (q9.2.2.2.1 v (by omega) v1).1
      have hv24 : 0 ≤ v ∧ v < 24000 := by omega
      have hdx : ∀ j, 0 ≤ j → j < 6 → n' 92 0 (n' 5 0 5) = 0 ∧ 0 ≤ v * 6 + j ∧ v * 6 + j < n' 93 0 (n' 5 0 5) := fun j a b => ⟨w1.1, by omega, by omega⟩
      have rd : ∀ r, 0 ≤ u → u ≤ 5 → n' 99 (n' 5 0 5) (6 * v + u) = r → (if u < 0 then some ((-1000), n') else if 6 < u then some ((-1000), n') else if u = 6 then (N_Layout_wordHeight v n').bind fun z23 => some (z23, n') else nn (n' 5 0 5) <| ck (v * 6) <| ck ((v * 6) + u) <| dx n' (n' 5 0 5) 0 ((v * 6) + u) <| some ((n' 99 (n' 5 0 5) ((v * 6) + u)), n')) = some (r, n') := fun r a b c => by
        rw [if_neg (by omega), if_neg (by omega), if_neg (by omega), nn_g _ w5.1, ck_e _ (by omega), ck_e _ (by omega), dx_g _ (hdx u a (by omega)), show v * 6 + u = 6 * v + u by omega, c]
      by_cases u0 : u = 0
      · refine fin (m' 118 v) (rd _ (by omega) (by omega) (by rw [u0, Int.add_zero]; exact d1.2.2.1)) (by rw [if_pos u0, ix_e _ hv24])
      · by_cases u1 : u = 1
        · exact fin (m' 119 v) (rd _ (by omega) (by omega) (by rw [u1]; exact d3.1)) (by rw [if_neg u0, if_pos u1, ix_e _ hv24])
        · by_cases u2 : u = 2
          · exact fin (m' 120 v) (rd _ (by omega) (by omega) (by rw [u2]; exact d3.2.1)) (by rw [if_neg u0, if_neg u1, if_pos u2, ix_e _ hv24])
          · by_cases u3 : u = 3
            · exact fin (m' 121 v) (rd _ (by omega) (by omega) (by rw [u3]; exact hpl.1)) (by rw [if_neg u0, if_neg u1, if_neg u2, if_pos u3, ix_e _ hv24])
            · by_cases u4 : u = 4
              · exact fin (m' 122 v) (rd _ (by omega) (by omega) (by rw [u4]; exact hpl.2)) (by rw [if_neg u0, if_neg u1, if_neg u2, if_neg u3, if_pos u4, ix_e _ hv24])
              · by_cases u5 : u = 5
                · exact fin (m' 123 v) (rd _ (by omega) (by omega) (by rw [u5]; exact d3.2.2)) (by rw [if_neg u0, if_neg u1, if_neg u2, if_neg u3, if_neg u4, if_pos u5, ix_e _ hv24])
                · by_cases u6 : u = 6
                  · have g5 := d1.2.2.2.2.1
                    have g6 := d1.2.2.2.2.2.1
                    have g4 := d1.2.2.2.1
                    have g7 := d1.2.2.2.2.2.2.1
                    refine fin (7 * m' 105 (11 * m' 49 (m' 118 v) + 8)) ?_ ?_
                    · rw [if_neg (by omega), if_neg (by omega), if_pos u6]
                      unfold N_Layout_wordHeight
                      rw [nn_g _ w5.1, ck_e _ (by omega), dx_g _ ⟨w1.1, by omega, by omega⟩, show v * 6 = 6 * v by omega, d1.2.2.1, ix_e _ g4, ck_e _ (by omega), g5]
                      rfl
                    · rw [if_neg u0, if_neg u1, if_neg u2, if_neg u3, if_neg u4, if_neg u5, if_pos u6, ix_e _ hv24, ix_e _ g4, y_of g7 (by decide)]
                      simp only [Option.bind_some]
                      rw [ck_e _ (by omega)]
                  · refine fin (-1000) ?_ (by rw [if_neg u0, if_neg u1, if_neg u2, if_neg u3, if_neg u4, if_neg u5, if_neg u6])
                    by_cases z : u < 0
                    · rw [if_pos z]
                    · rw [if_neg z, if_pos (by omega)]
    · exact fin (-1000) (by rw [if_neg v0, if_neg v1]) (by rw [if_neg v0, if_neg (show ¬ v < m' 117 0 by omega)])
/-- the root's height -/
theorem LAYD.h0 (h : LAYD N o e p n m) : n 3 0 5 = m 113 0 ∧ 0 ≤ m 113 0 ∧ m 113 0 ≤ 600000 := by
  have hN := h.1.1.N1
  have g := h.bx (k := 0) (Int.le_refl _) (by omega) (by have := h.2.2.2.2.2.2.2.1; omega)
  rw [h.1.1.o0] at g
  exact ⟨g.1.2.2.2, g.2.2.2.2.1⟩
theorem call_count2 (hC : CI As Bs A B G n m) (hH : SHc n) (hI : LAYI n m) (hv : v = 14 ∨ v = 16) : ∃ r n' m', N_H_count v n = some (r, n') ∧ N_Y_count v m = some (r, m') ∧ CI As Bs A B G n' m' ∧ SHc n' ∧ LAYI n' m' ∧ FZl n n' m m' := by
  obtain ⟨n1, n', m', N, o, e, p, o2, e2, p2, q1, q2, q3, q4, q5, q6, ⟨q6a, q6b⟩, ⟨q7, q7'⟩, q8, q9, q10, q11, q12, q13⟩ := lay_call hC hH hI
  rcases hv with hv | hv
  · refine ⟨min 400 (m' 113 0), n', m', ?_, ?_, q4.2, q5.2, q6.2, q13⟩
    · have g := q9.h0
      rw [hv]
      show ((N_Sheet_refresh n).bind fun n30 => (N_Layout_refresh n30).bind fun n35 => (N_Layout_pictureHeight n35).bind fun z40 => some (z40, n35)) = _
      rw [q1]
      simp only [Option.bind_some]
      rw [q2]
      simp only [Option.bind_some]
      unfold N_Layout_pictureHeight
      rw [ix_e _ (by decide), g.1]
      simp only [Option.bind_some]
      rw [Int.min_comm]
    · rw [hv]
      show ((N_Y_pictureHigh m).bind <| u2 fun z37 m40 => some (z37, m40)) = _
      unfold N_Y_pictureHigh
      rw [q3]
      simp only [Option.bind_some]
      rw [ix_e _ (by decide)]
      rfl
  · refine ⟨m' 89 0, n1, m', ?_, ?_, q4.1, q5.1, q6.1, q12⟩
    · rw [hv]
      show ((N_Sheet_refresh n).bind fun n46 => some ((n46 9 0 13), n46)) = _
      rw [q1]
      simp only [Option.bind_some]
      rw [q11.2]
    · rw [hv]
      show ((N_Y_lay m).bind fun m47 => some ((m47 89 0), m47)) = _
      rw [q3]
      rfl
end YQ
