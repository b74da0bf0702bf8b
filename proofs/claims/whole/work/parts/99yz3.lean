/-! THE CALL press -/
section YZ3
variable {n n' n1 n'' : NS} {m m' m6 : YS} {A B G N a b c x y k r v u : Int} {o e p o2 e2 p2 : Int → Int} {As Bs : Int → Prop}
theorem k_prC : kz (kI n) (prC v n) := by
  unfold prC
  exact kz_b (k_N_Acts_begin KRw.refl) (fun n3 h3 => kz_b (k_N_Acts_startEvent h3) (fun n8 h8 => kz_b (k_N_Acts_settle h8) (fun n13 h13 => kz_some h13)))
theorem c_prC (h : CHK n) : kz cI (prC v n) := by
  unfold prC
  exact kz_b (c_N_Acts_begin h) (fun n3 h3 => kz_b (c_N_Acts_startEvent h3) (fun n8 h8 => kz_b (c_N_Acts_settle h8) (fun n13 h13 => kz_some h13)))
theorem JOut.zp (h : JOut n m) (hF : FZp n n' m m') : JOut n' m' := by
  have g := hF.2.1 606 (by decide) (by decide) (by decide)
  have e : bt n' 606 = bt n 606 := FS.bt hF.2.1 (by decide) (by decide)
  unfold JOut ys at *
  rw [e, g.1, hF.2.2.1 4 (by omega), hF.2.2.1 5 (by omega)]; exact h
theorem LAYI.fc (h : LAYI n m) (hC : CI As Bs A B G n m) {G' : Int} (hC' : CI As Bs A B G' n' m') (hk : KRw n n') (hF : FC n n' m m') : LAYI n' m' :=
  h.keep hC hC' hk (hF.1.1 3 (by decide)) (hF.1.1 5 (by decide)) (hF.1.1 9 (by decide)) (hF.1.1 41 (by decide)) (fun f hf => hF.2.1 f (by omega)) hF.2.2.1 hF.2.2.2
theorem call_press (hC : CI As Bs A B G n m) (hO : JOut n m) (hH : SHc n) (hI : LAYI n m) (hK : CHK n) (hG : G < 360000000) : ∃ r n' m', N_H_press v u n = some (r, n') ∧ N_Y_press v u m = some (r, m') ∧ CI As Bs A B (G + 480000) n' m' ∧ JOut n' m' ∧ SHc n' ∧ LAYI n' m' ∧ CHK n' ∧ ∃ n1 m1, FZp n n1 m m1 ∧ FC n1 n' m1 m' := by
  obtain ⟨n1, n2, m2, z, c, t, q1, q2, q3, q4, q5, q6, q7, q8, q9, q10, q11, q12, q13, q14⟩ := pict_both (v := v) (u := u) hC hH hI hK
  have hO2 := hO.zp q13
  have hcl : N_H_press v u n = if t = -1 then some (t, n2) else prC t n2 := by
    unfold N_H_press
    rw [q1]
    simp only [Option.bind_some]
    rw [q2]
    simp only [Option.bind_some]
    rw [q6]
    simp only [Option.bind_some]
    rfl
  have hyl : N_Y_press v u m = if z = 0 then some ((-1), m2) else if m2 147 0 = -1 then some ((-1), m2) else prR (m2 147 0) m2 := by
    unfold N_Y_press
    rw [q4]
    simp only [Option.bind_some, u2]
    rfl
  by_cases ht : t = -1
  · refine ⟨-1, n2, m2, by rw [hcl, if_pos ht, ht], ?_, q9.mono (by omega), hO2, q10, q11, q12, n2, m2, q13, FC.refl _ _⟩
    rw [hyl]
    rcases q5 with z0 | z0
    · rw [if_pos z0]
    · rw [if_neg (by omega), (q8 z0).1, if_pos ht]
  · have z1 : z = 1 := by
      rcases q5 with z0 | z0
      · exact absurd (q7 z0) ht
      · exact z0
    have hl : 0 ≤ t ∧ t < 120 ∧ m2 45 t = 1 := by
      rcases q14 with w | w
      · exact absurd w ht
      · exact w
    obtain ⟨r, n3, m3, p1, p2, p3, p4, p5⟩ := press_event (v := t) q9 hO2 hG ⟨hl.1, hl.2.1⟩ hl.2.2
    have hk := k_prC (v := t) (n := n2) _ p1
    have hc := c_prC (v := t) q12 _ p1
    refine ⟨r, n3, m3, by rw [hcl, if_neg ht]; exact p1, by rw [hyl, if_neg (by omega), (q8 z1).1, if_neg ht]; exact p2, p3, p4, ?_, q11.fc q9 p3 hk p5, hc, n2, m2, q13, p5⟩
    unfold SHc at *
    rw [p5.1.1 9 (by decide)]; exact q10
end YZ3
