/-! THE CALLS top, point, press -/
/-- what a picture leaves -/
def FZp (n n' : NS) (m m' : YS) : Prop := (∀ K, K ∉ [3, 4, 5, 7, 9, 10, 22, 32, 33, 34, 35, 36, 37, 38, 39, 40, 41, 43, 90, 91, 92, 93, 99] → n' K = n K) ∧ FS (fun x => x = 608) n n' ∧ (∀ f, (f < 89 ∨ f = 106 ∨ 147 < f) → m' f = m f) ∧ (∀ v s, s ≠ 8 → s ≠ 9 → n' 7 v s = n 7 v s)
section YZ2
variable {n n' n1 n'' : NS} {m m' m6 : YS} {A B G N a b c x y k r v u : Int} {o e p o2 e2 p2 : Int → Int} {As Bs : Int → Prop}
theorem LAYI.ym (h : LAYI n m) (hf : ∀ f, f ≠ 146 → f ≠ 147 → m6 f = m f) : LAYI n m6 := by
  obtain ⟨hA, hB, hR, hS, hSc⟩ := h
  have e45 : ∀ f, 45 ≤ f → f ≤ 63 → m6 f = m f := fun f x y => hf f (by omega) (by omega)
  refine ⟨hA.cm e45, hB.cm e45 (by rw [hf 106 (by decide) (by decide)]), fun z => ?_, hS, by unfold JSc at *; rw [hf 106 (by decide) (by decide)]; exact hSc⟩
  rw [hf 126 (by decide) (by decide)] at z
  obtain ⟨m0, m1, a1, a2, a3, a4, a5⟩ := hR z
  exact ⟨m0, m1, fun f x y => (a1 f x y).trans (e45 f x y).symm, by rw [hf 106 (by decide) (by decide)]; exact a2, a3, a4, fun f hf' => by rw [hf f (by omega) (by omega)]; exact a5 f hf'⟩
/-- the picture is asked for: both programs have it -/
theorem pict_both (hC : CI As Bs A B G n m) (hH : SHc n) (hI : LAYI n m) (hK : CHK n) :
    ∃ n1 n' m' z c t, N_Sheet_refresh n = some n1 ∧ N_Layout_refresh n1 = some n' ∧ N_Layout_isInPicture v u n' = some z ∧ N_Y_paint v u m = some (z, m') ∧ (z = 0 ∨ z = 1) ∧ N_Layout_nodeAt v u n' = some t ∧ (z = 0 → t = -1) ∧ (z = 1 → m' 147 0 = t ∧ m' 146 0 = c ∧ ∃ n'', N_Layout_colorAt v u n' = some (c, n'') ∧ BI A B n'' ∧ FB (fun x => x = 608) n' n'') ∧ CI As Bs A B G n' m' ∧ SHc n' ∧ LAYI n' m' ∧ CHK n' ∧ FZp n n' m m' ∧ (t = -1 ∨ (0 ≤ t ∧ t < 120 ∧ m' 45 t = 1)) := by
  obtain ⟨m6, hm6⟩ : ∃ m6, m6 = yw (yw m 146 0 0) 147 0 (-1) := ⟨_, rfl⟩
  have f6 : ∀ f, f ≠ 146 → f ≠ 147 → m6 f = m f := fun f x y => by rw [hm6, yw_nF y, yw_nF x]
  have v146 : m6 146 0 = 0 := by rw [hm6, yw_nF (by decide), yw_eq]
  have v147 : m6 147 0 = -1 := by rw [hm6, yw_eq]
  have hC6 : CI As Bs A B G n m6 := hC.ko hC.1.bi (fun _ _ => rfl) (fun f hf => f6 f (by omega) (by omega))
  obtain ⟨n1, n', m', N, o, e, p, o2, e2, p2, q1, q2, q3, q4, q5, q6, ⟨q6a, q6b⟩, ⟨q7, q7'⟩, q8, q9, q10, q11, q12, q13⟩ := lay_call hC6 hH (hI.ym f6)
  have hK' : CHK n' := fun w x y => by rw [q13.2.2.2 w 16 (by decide) (by decide), q13.2.2.2 w 0 (by decide) (by decide)]; exact hK w x y
  have hback : ∀ (nn : NS) (mm : YS), FZl n nn m6 mm → FZp n nn m mm := fun nn mm h => ⟨h.1, h.2.1, fun f hf => by rw [h.2.2.1 f (by omega), f6 f (by omega) (by omega)], h.2.2.2⟩
  have e106 : n' 5 0 3 = m' 106 0 := q9.2.2.2.2.2.2.1.1
  have b106 := q9.2.2.2.2.2.2.1.2
  have h0 := q9.h0
  have hpic : N_Layout_isInPicture v u n' = some (if 0 ≤ v ∧ v < m' 106 0 ∧ 0 ≤ u ∧ u < min 400 (m' 113 0) then 1 else 0) := by
    unfold N_Layout_isInPicture N_Layout_pictureHeight
    rw [ix_e _ (by decide), e106, h0.1]
    simp only [Option.bind_some]
    by_cases z1 : v < 0
    · rw [if_pos z1, if_neg (by omega)]
    · rw [if_neg z1]
      by_cases z2 : v < m' 106 0
      · rw [if_pos z2]
        by_cases z3 : u < 0
        · rw [if_pos z3, if_neg (by omega)]
        · rw [if_neg z3]
          by_cases z4 : u < min (m' 113 0) 400
          · rw [if_pos z4, if_pos (by omega)]
          · rw [if_neg z4, if_neg (by omega)]
      · rw [if_neg z2, if_neg (by omega)]
  have hhigh : N_Y_pictureHigh m6 = some (min 400 (m' 113 0), m') := by
    unfold N_Y_pictureHigh
    rw [q3]
    simp only [Option.bind_some]
    rw [ix_e _ (by decide)]
  have hrun : N_Y_paint v u m = if u < 0 then some (0, m6) else if u < min 400 (m' 113 0) then (if v < 0 then some (0, m') else if v < m' 106 0 then (NL_Y_paint_38 v u 0 m').bind (fun m23 => some (1, m23)) else some (0, m')) else some (0, m') := by
    unfold N_Y_paint st
    dsimp only
    rw [← hm6, hhigh]
    simp only [Option.bind_some, u2]
  have hnode0 : N_Layout_isInPicture v u n' = some 0 → N_Layout_nodeAt v u n' = some (-1) := fun h => by
    unfold N_Layout_nodeAt
    rw [h]; rfl
  have r146 : m' 146 = m6 146 := q13.2.2.1 146 (by omega)
  have r147 : m' 147 = m6 147 := q13.2.2.1 147 (by omega)
  by_cases hin : 0 ≤ v ∧ v < m' 106 0 ∧ 0 ≤ u ∧ u < min 400 (m' 113 0)
  · rw [if_pos hin] at hpic
    have hP : PST A B N o e p o2 e2 p2 n' m' := ⟨⟨q7.1, q8, q4.2.1.bi, hK'⟩, ⟨q9, q10⟩, q9.2.2.2.2.2.2.2.2, q9.wid⟩
    obtain ⟨c, t, n3, m3, p1, p2', p3, p4, p5, p6, p7, p8, p9⟩ := paint_in (px := v) (py := u) hP (by omega)
    have ey : yw (yw m' 146 0 0) 147 0 (-1) = m' := by
      rw [yw_id (m := m') (F := 146) (by rw [r146]; exact v146)]
      exact yw_id (by rw [r147]; exact v147)
    rw [ey] at p5
    have hnode : N_Layout_nodeAt v u n' = some t := by
      unfold N_Layout_nodeAt
      rw [hpic]
      simp only [Option.bind_some]
      rw [if_neg (by decide), q8.1, ck_e _ (by have := q9.1.1.N1; omega), ← q8.1]
      exact p4
    refine ⟨n1, n', m3, 1, c, t, q1, q2, hpic, ?_, .inr rfl, hnode, fun z => by omega, fun _ => ⟨p8, p7, n3, p1, p2', p3⟩, q4.2.ko q4.2.1.bi (fun _ _ => rfl) (fun f hf => p6 f (by omega) (by omega)), q5.2, q6.2.ym p6, hK', ⟨q13.1, q13.2.1, fun f hf => by rw [p6 f (by omega) (by omega), q13.2.2.1 f (by omega), f6 f (by omega) (by omega)], q13.2.2.2⟩, ?_⟩
    · rw [hrun, if_neg (by omega), if_pos hin.2.2.2, if_neg (by omega), if_pos hin.2.1, p5]; rfl
    · rcases p9 with p9 | ⟨k, k0, k1, k2⟩
      · exact .inl p9
      · refine .inr ?_
        have g := q7.liv k0 k1
        rw [k2] at g
        rw [p6 45 (by decide) (by decide)]
        exact ⟨g.1.1, g.1.2, g.2⟩
  · rw [if_neg hin] at hpic
    by_cases hu : u < 0
    · refine ⟨n1, n', m6, 0, 0, -1, q1, q2, hpic, by rw [hrun, if_pos hu], .inl rfl, hnode0 hpic, fun _ => rfl, fun z => by omega, q6b.2, q5.2, q6b.1, hK', hback n' m6 ⟨q13.1, q13.2.1, fun _ _ => rfl, q13.2.2.2⟩, .inl rfl⟩
    · refine ⟨n1, n', m', 0, 0, -1, q1, q2, hpic, ?_, .inl rfl, hnode0 hpic, fun _ => rfl, fun z => by omega, q4.2, q5.2, q6.2, hK', hback n' m' q13, .inl rfl⟩
      rw [hrun, if_neg hu]
      by_cases z1 : u < min 400 (m' 113 0)
      · rw [if_pos z1]
        by_cases z2 : v < 0
        · rw [if_pos z2]
        · rw [if_neg z2, if_neg (by omega)]
      · rw [if_neg z1]
theorem CI.f8 (h : CI As Bs A B G n m) (hB' : BI A B n') (hF : FB (fun x => x = 608) n n') : CI As Bs A B G n' m := by
  refine h.ly hB' ⟨fun K hK => ?_, fun b hb => hF.2.1 b hb, ⟨hF.2.2.1, hF.2.2.2.1, fun q x y _ => hF.2.2.2.2.1 q x (fun b hb => ?_)⟩, hF.2.2.2.2.2 608 rfl, fun s _ => ?_⟩ (fun _ _ => rfl)
  · simp only [List.mem_cons, List.not_mem_nil, or_false, not_or] at hK
    exact hF.1 K (by omega) (by omega) (by omega) (by omega) (by omega) (by omega)
  · have hb : b = 608 := hb
    rw [hb]; exact y
  · rw [hF.1 5 (by decide) (by decide) (by decide) (by decide) (by decide) (by decide)]
theorem FB.krw (hF : FB (fun x => x = 608) n n') (hB : BI A B n) : KRw n n' := by
  have b608 := (hB.1 608 (by decide) (by decide)).2.2.1
  have e10 : n' 10 = n 10 := hF.1 10 (by decide) (by decide) (by decide) (by decide) (by decide) (by decide)
  refine ⟨⟨hF.2.2.1, fun q hq => ⟨(hF.2.2.2.1 q hq).1, (hF.2.2.2.1 q hq).2, fun z => hF.2.2.2.2.1 q hq (fun b hb w => ?_)⟩⟩, by rw [e10]; exact ⟨Int.le_refl _, fun _ _ => rfl⟩⟩
  have hb : b = 608 := hb
  rw [w, hb, b608] at z
  exact absurd z (by decide)
/-- TOP -/
theorem call_top (hC : CI As Bs A B G n m) (hH : SHc n) (hI : LAYI n m) (hK : CHK n) : ∃ r n' m', N_H_top v u n = some (r, n') ∧ N_Y_top v u m = some (r, m') ∧ CI As Bs A B G n' m' ∧ SHc n' ∧ LAYI n' m' ∧ CHK n' ∧ FZp n n' m m' := by
  obtain ⟨n1, n', m', z, c, t, q1, q2, q3, q4, q5, q6, q7, q8, q9, q10, q11, q12, q13, q14⟩ := pict_both (v := v) (u := u) hC hH hI hK
  refine ⟨t, n', m', ?_, ?_, q9, q10, q11, q12, q13⟩
  · unfold N_H_top
    rw [q1]
    simp only [Option.bind_some]
    rw [q2]
    simp only [Option.bind_some]
    rw [q6]; rfl
  · unfold N_Y_top
    rw [q4]
    simp only [Option.bind_some, u2]
    rcases q5 with z0 | z0
    · rw [if_pos z0, q7 z0]
    · rw [if_neg (by omega), (q8 z0).1]
/-- POINT -/
theorem call_point (hC : CI As Bs A B G n m) (hH : SHc n) (hI : LAYI n m) (hK : CHK n) : ∃ r n' m', N_H_point v u n = some (r, n') ∧ N_Y_point v u m = some (r, m') ∧ CI As Bs A B G n' m' ∧ SHc n' ∧ LAYI n' m' ∧ CHK n' ∧ FZp n n' m m' := by
  obtain ⟨n1, n', m', z, c, t, q1, q2, q3, q4, q5, q6, q7, q8, q9, q10, q11, q12, q13, q14⟩ := pict_both (v := v) (u := u) hC hH hI hK
  have hcl : N_H_point v u n = if z = 0 then some ((-1), n') else (N_Layout_colorAt v u n').bind (u2 fun z20 n23 => some (z20, n23)) := by
    unfold N_H_point
    rw [q1]
    simp only [Option.bind_some]
    rw [q2]
    simp only [Option.bind_some]
    rw [q3]
    simp only [Option.bind_some]
  have hyl : N_Y_point v u m = if z = 0 then some ((-1), m') else some ((m' 146 0), m') := by
    unfold N_Y_point
    rw [q4]
    simp only [Option.bind_some, u2]
  rcases q5 with z0 | z0
  · exact ⟨-1, n', m', by rw [hcl, if_pos z0], by rw [hyl, if_pos z0], q9, q10, q11, q12, q13⟩
  · obtain ⟨_, e2, n3, k1, k2, k3⟩ := q8 z0
    have kk : ∀ K, K ≠ 4 → K ≠ 90 → K ≠ 91 → K ≠ 92 → K ≠ 93 → K ≠ 99 → n3 K = n' K := k3.1
    have hC3 := q9.f8 k2 k3
    refine ⟨c, n3, m', ?_, by rw [hyl, if_neg (by omega), e2], hC3, ?_, ?_, ?_, ?_⟩
    · rw [hcl, if_neg (by omega), k1]; rfl
    · unfold SHc at *
      rw [kk 9 (by decide) (by decide) (by decide) (by decide) (by decide) (by decide)]; exact q10
    · refine q11.keep q9 hC3 (k3.krw q9.1.bi) (kk 3 (by decide) (by decide) (by decide) (by decide) (by decide) (by decide)) (kk 5 (by decide) (by decide) (by decide) (by decide) (by decide) (by decide)) (kk 9 (by decide) (by decide) (by decide) (by decide) (by decide) (by decide)) (kk 41 (by decide) (by decide) (by decide) (by decide) (by decide) (by decide)) (fun _ _ => rfl) (.inr ⟨?_, fun _ _ _ => rfl⟩) (.inr ⟨rfl, fun _ _ _ => rfl⟩)
      rw [kk 10 (by decide) (by decide) (by decide) (by decide) (by decide) (by decide)]
    · exact fun w x y => by rw [kk 7 (by decide) (by decide) (by decide) (by decide) (by decide) (by decide)]; exact q12 w x y
    · refine ⟨fun K hK => ?_, q13.2.1.trans (FS.fb k3 (fun x hx => by have hx : x = 608 := hx; omega) q9.1.bi), q13.2.2.1, fun w s x y => by rw [kk 7 (by decide) (by decide) (by decide) (by decide) (by decide) (by decide)]; exact q13.2.2.2 w s x y⟩
      have hK' := hK
      simp only [List.mem_cons, List.not_mem_nil, or_false, not_or] at hK'
      rw [kk K (by omega) (by omega) (by omega) (by omega) (by omega) (by omega)]; exact q13.1 K hK
end YZ2
