/-! THE CALLS style, box, word, count of heights and rules -/
section YP
variable {n n' n1 n'' : NS} {m m' m0 : YS} {A B G N N' a b c x y q s k j r w v u : Int} {o e p o' e' p' : Int → Int} {As Bs : Int → Prop}
theorem FZl.refl : FZl n n m m := ⟨fun _ _ => rfl, FS.refl _ _, fun _ _ => rfl, fun _ _ _ _ => rfl⟩
/-- acts leave a layout that is valid, or make it invalid -/
theorem LAYI.keep (h : LAYI n m) (hC : CI As Bs A B G n m) {A' B' G' : Int} {As' Bs' : Int → Prop} (hC' : CI As' Bs' A' B' G' n' m') (hk : KRw n n') (h3 : n' 3 = n 3) (h5 : n' 5 = n 5) (h9 : n' 9 = n 9) (h41 : n' 41 = n 41) (hm : ∀ f, f = 89 ∨ (105 ≤ f ∧ f ≤ 125) → m' f = m f) (hc : LYc n n' m m') (hy : LYy m m') : LAYI n' m' := by
  obtain ⟨hA, hB, hR, hS, hSc⟩ := h
  obtain ⟨⟨k1, k2⟩, k3, k4⟩ := hk
  have hBI := hC.1.bi
  have hr := hBI.2.2.2.1
  have t9 := hS.1.1.1.1
  have hs4 := hS.2.1
  have hs14 := hS.2.2
  have w5 := k2 (n 5 0 5) hr.2.1
  have w9 := k2 (n 5 0 9) hr.2.2.2
  have same : n' 10 0 6 = n 10 0 6 → ∀ f, 45 ≤ f → f ≤ 63 → m' f = m f := fun z => by
    rcases hc with c | c
    · omega
    · exact c.2
  refine ⟨fun z => ?_, fun z => ?_, fun z => ?_, ⟨⟨?_, fun a x y => by rw [h3]; exact hS.1.2 a x y⟩, by rw [h5]; omega, by rw [h9]; omega⟩, ?_⟩
  · rw [h9] at z
    have e6 : n' 10 0 6 = n 10 0 6 := by omega
    have sm := same e6
    obtain ⟨N, o, e, p, g1, g2⟩ := hA (by omega)
    refine ⟨N, o, e, p, by rw [sm 49 (by decide) (by decide), sm 50 (by decide) (by decide), sm 52 (by decide) (by decide)]; exact g1, fun m0 h0 => ?_⟩
    obtain ⟨m0', c1, c2, c3, c4⟩ := g2 m0 (fun f x y => (h0 f x y).trans (sm f x y))
    exact ⟨m0', c1, c2.cg h41 rfl rfl, by rw [h9]; exact c3, c4⟩
  · rw [h5] at z
    have e6 : n' 10 0 6 = n 10 0 6 := by omega
    have sm := same e6
    obtain ⟨g1, g2, N, o, e, p, g3⟩ := hB (by omega)
    refine ⟨by rw [h9, e6]; exact g1, by rw [k4 g2 e6, e6]; exact g2, N, o, e, p, fun m0 h0 h1 h2 => ?_⟩
    obtain ⟨m0', c1, c2, c3⟩ := g3 m0 (fun f x y => (h0 f x y).trans (sm f x y)) (h1.trans (by rw [hm 106 (by omega)])) h2
    refine ⟨m0', c1, c2.cn h3 h5 h9 h41 (w5.2.2 t9.1) ⟨w5.1, w9.1⟩ ⟨w5.2.1, w9.2.1⟩ (fun r x y z6 => ?_), c3⟩
    -- the length of a TEXT
    obtain ⟨⟨κ, N1, o1, e1, p1, hNt, hTr, hrest⟩, hz⟩ := hC'
    have em : ∀ f, 45 ≤ f → f ≤ 63 → m0' f = m' f := fun f a b => (c3.1 f (by omega)).trans (h0 f a b)
    have hTY : TY m' N o e p := by
      have := c2.1.1
      unfold TY
      rw [← em 49 (by decide) (by decide), ← em 50 (by decide) (by decide), ← em 52 (by decide) (by decide)]; exact this
    obtain ⟨u1, u2⟩ := TY.uniq (m := m') hTY hTr.1.1.1
    have hq := (hTr.1.2.2.2.Q hTr.1.1 hNt.1.1) r x (by omega)
    rw [u2 r x y] at hq
    have ht := (c2.1.2.1 r x y).tx z6
    have h17 : m0' 46 (o r) = 17 := by
      rcases c2.1.2.1 r x y with ⟨w, _⟩ | ⟨_, w | w | w | w | w⟩
      · omega
      · have := w.1; omega
      · have := w.1; omega
      · omega
      · omega
      · exact w.2.2.1
    have h62 := hq.2.2 (by rw [← em 46 (by decide) (by decide)]; exact h17)
    rw [ht.2.1.1, em 62 (by decide) (by decide)]
    exact h62
  · rcases hy with w | w
    · exact absurd w z
    · rw [w.1] at z
      obtain ⟨m0, m1, a1, a2, a3, a4, a5⟩ := hR z
      exact ⟨m0, m1, fun f x y => (a1 f x y).trans (w.2 f x y).symm, a2.trans (by rw [hm 106 (by omega)]), a3, a4, fun f hf => (hm f hf).trans (a5 f hf)⟩
  · have := hS.1.1
    unfold WL1 WLc at *
    rw [h5, w5.1, w5.2.1, w9.1, w9.2.1]; exact this
  · unfold JSc at *
    rw [h5, hm 106 (by omega)]; exact hSc
/-- STYLE -/
theorem call_style (hC : CI As Bs A B G n m) (hH : SHc n) (hI : LAYI n m) : ∃ r n' m', N_H_style v u n = some (r, n') ∧ N_Y_style v u m = some (r, m') ∧ CI As Bs A B G n' m' ∧ SHc n' ∧ LAYI n' m' ∧ FZl n n' m m' := by
  obtain ⟨n1, n', m', N, o, e, p, o2, e2, p2, q1, q2, q3, q4, q5, q6, q6', ⟨q7, q7'⟩, q8, q9, q10, q11, q12, q13⟩ := lay_call hC hH hI
  obtain ⟨⟨κ, N0, o0, e0, p0, hNt, hTr, hrest⟩, hz⟩ := id hC
  rcases hTr.1.1.there v with ⟨t1, t2⟩ | ⟨t1, t2, _⟩
  · refine ⟨-1, n, m, ?_, ?_, hC, hH, hI, FZl.refl⟩
    · unfold N_H_style; rw [t2]; rfl
    · unfold N_Y_style; rw [t1]; rfl
  · by_cases u0 : u < 0
    · refine ⟨-1, n, m, ?_, ?_, hC, hH, hI, FZl.refl⟩
      · unfold N_H_style; rw [t2]; simp only [Option.bind_some]; rw [if_neg (by decide), if_pos u0]
      · unfold N_Y_style; rw [t1]; simp only [Option.bind_some]; rw [if_neg (by decide), if_pos u0]
    · by_cases u1 : u < 11
      · obtain ⟨k, k0, k1, hk⟩ : ∃ k, 0 ≤ k ∧ k < N ∧ o k = v := by
          have g := q7'.1.1.there v
          rcases g with ⟨g, _⟩ | ⟨_, _, g⟩
          · have e45 : N_Y_there v m' = N_Y_there v m := by unfold N_Y_there; rw [q13.2.2.1 45 (by omega)]
            rw [e45, t1] at g; cases g
          · exact g
        have hT1 := q7'.1
        have hG := hT1.1.1
        have hv := hG.oB k0 k1
        have hnd : ND n1 m' (o k) := hT1.2.2.2 k k0 k1
        have hl := (hT1.1.2.2.2.2.1 k k0 k1).1
        rw [hk] at hv hnd hl
        have look : ∀ j, 0 ≤ j → j < N → m' 46 (o j) ≠ 17 → nk_H_style_60 u (o j) n1 = some (m' 105 (11 * o j + u), n1) ∧ nk_Y_style_46 u (o j) m' = some (m' 105 (11 * o j + u), m') := fun j j0 j1 j2 => by
          have hj := hG.oB j0 j1
          have g := (q11.1 j j0 j1 j2 u (by omega) u1).1
          unfold nk_H_style_60 nk_Y_style_46
          rw [if_neg (by omega), ck_e _ (by omega), ck_e _ (by omega), ix_e _ (by omega), show o j * 11 + u = 11 * o j + u by omega, g, y_of hj (by omega)]
          exact ⟨rfl, rfl⟩
        have hcl : N_H_style v u n = if m' 46 v = 17 then nk_H_style_60 u (m' 49 v) n1 else nk_H_style_60 u v n1 := by
          unfold N_H_style; rw [t2]; simp only [Option.bind_some]
          rw [if_neg (by decide), if_neg u0, if_pos u1, q1]; simp only [Option.bind_some]
          rw [ix_e _ hv, ix_e _ hv, hnd.1.1, hl.1]
        have hyl : N_Y_style v u m = if m' 46 v = 17 then nk_Y_style_46 u (m' 49 v) m' else nk_Y_style_46 u v m' := by
          unfold N_Y_style; rw [t1]; simp only [Option.bind_some]
          rw [if_neg (by decide), if_neg u0, if_neg (by omega), q3]; simp only [Option.bind_some]
          rw [ix_e _ hv, ix_e _ hv]
        by_cases h17 : m' 46 v = 17
        · have k1' : 1 ≤ k := by
            by_cases z : k = 0
            · exfalso
              rw [z, hG.o0] at hk
              rw [← hk] at h17
              have g := (q7'.liv (Int.le_refl 0) (by have := hG.N1; omega)).2
              rw [hG.o0] at g
              exact q4.1.2.2.2 g h17
            · omega
          have hp := hG.pB k1' k1
          have hop := q7'.2.1 k k1' k1
          have e49 : m' 49 v = o (p k) := by rw [← hk]; exact hG.parE k1' k1
          obtain ⟨g1, g2⟩ := look (p k) hp.1 (by omega) hop.1
          refine ⟨_, n1, m', by rw [hcl, if_pos h17, e49]; exact g1, by rw [hyl, if_pos h17, e49]; exact g2, q4.1, q5.1, q6.1, q12⟩
        · obtain ⟨g1, g2⟩ := look k k0 k1 (by rw [hk]; exact h17)
          rw [hk] at g1 g2
          exact ⟨_, n1, m', by rw [hcl, if_neg h17]; exact g1, by rw [hyl, if_neg h17]; exact g2, q4.1, q5.1, q6.1, q12⟩
      · refine ⟨-1, n, m, ?_, ?_, hC, hH, hI, FZl.refl⟩
        · unfold N_H_style; rw [t2]; simp only [Option.bind_some]; rw [if_neg (by decide), if_neg u0, if_neg u1]
        · unfold N_Y_style; rw [t1]; simp only [Option.bind_some]; rw [if_neg (by decide), if_neg u0, if_pos (by omega)]
/-- which kind it is, in both -/
theorem LAYD.kd (h : LAYD N o e p n m) (k0 : 0 ≤ k) (k1 : k < N) : (m 107 (o k) = 0 ∧ n 3 (o k) 0 = 0) ∨ ((m 107 (o k) = 1 ∨ m 107 (o k) = 2) ∧ n 3 (o k) 0 = 1) ∨ (m 107 (o k) = 4 ∧ n 3 (o k) 0 = 2) ∨ ((m 107 (o k) = 3 ∨ m 107 (o k) = 5 ∨ m 107 (o k) = 6) ∧ n 3 (o k) 0 = 3) := by
  rcases h.1.2.1 k k0 k1 with ⟨w, w'⟩ | ⟨_, w | w | w | w | w⟩
  · exact .inl ⟨w, w'⟩
  · exact .inr (.inl ⟨w.1, w.2.1⟩)
  · exact .inr (.inr (.inl ⟨w.1, w.2.1⟩))
  · exact .inr (.inr (.inr ⟨.inl w.1, w.2.1⟩))
  · exact .inr (.inr (.inr ⟨.inr (.inl w.1), w.2.1⟩))
  · exact .inr (.inr (.inr ⟨.inr (.inr w.1), w.2.1⟩))
/-- where a box, a piece is, and how large -/
theorem LAYD.bx (h : LAYD N o e p n m) (k0 : 0 ≤ k) (k1 : k < N) (hb : m 107 (o k) = 1 ∨ m 107 (o k) = 2 ∨ m 107 (o k) = 4) : (n 3 (o k) 2 = m 110 (o k) ∧ n 3 (o k) 3 = m 111 (o k) ∧ n 3 (o k) 4 = m 112 (o k) ∧ n 3 (o k) 5 = m 113 (o k)) ∧ (-720000000 ≤ m 110 (o k) ∧ m 110 (o k) ≤ 720003000) ∧ (0 ≤ m 111 (o k) ∧ m 111 (o k) ≤ 120003000) ∧ (0 ≤ m 112 (o k) ∧ m 112 (o k) ≤ 1300000) ∧ (0 ≤ m 113 (o k) ∧ m 113 (o k) ≤ 600000) ∧ BXf n m (o k) (o k) := by
  obtain ⟨⟨c1, c2⟩, c3, c4⟩ := h.2.2.1 k k0 k1 hb
  have hN := h.1.1.N1
  have hE := h.1.1.eB k0 k1
  have hk : k ≤ 119 := by omega
  by_cases z : m 107 (o k) = 4
  · rcases h.1.2.1 k k0 k1 with ⟨w, _⟩ | ⟨_, w | w | w | w | w⟩
    · omega
    · have := w.1; omega
    · have g1 := w.2.2.2.2.1
      have g2 := w.2.2.2.2.2.1
      exact ⟨⟨c1, c2, g1.1, g2.1⟩, by omega, by omega, by omega, by omega, w.2.2.2.1⟩
    · omega
    · omega
    · omega
  · have w := (h.1.2.1 k k0 k1).box (by omega)
    have l := (h.1.2.2 k k0 k1 (by omega)).1
    have g1 := w.2.2.2.2.2.1
    exact ⟨⟨c1, c2, g1.1, l.1⟩, by omega, by omega, by omega, by omega, w.2.2.2.1⟩
theorem c_pntd : N_Box_isPainted v n = some (if n 3 v 0 = 1 ∨ n 3 v 0 = 2 then 1 else 0) := by
  unfold N_Box_isPainted
  by_cases z : n 3 v 0 = 1
  · rw [if_pos z, if_pos (.inl z)]
  · by_cases z2 : n 3 v 0 = 2
    · rw [if_neg z, if_pos z2, if_pos (.inr z2)]
    · rw [if_neg z, if_neg z2, if_neg (by omega)]
/-- BOX -/
theorem call_box (hC : CI As Bs A B G n m) (hH : SHc n) (hI : LAYI n m) : ∃ r n' m', N_H_box v u n = some (r, n') ∧ N_Y_box v u m = some (r, m') ∧ CI As Bs A B G n' m' ∧ SHc n' ∧ LAYI n' m' ∧ FZl n n' m m' := by
  obtain ⟨n1, n', m', N, o, e, p, o2, e2, p2, q1, q2, q3, q4, q5, q6, ⟨q6a, q6b⟩, ⟨q7, q7'⟩, q8, q9, q10, q11, q12, q13⟩ := lay_call hC hH hI
  obtain ⟨⟨κ, N0, o0, e0, p0, hNt, hTr, hrest⟩, hz⟩ := id hC
  rcases hTr.1.1.there v with ⟨t1, t2⟩ | ⟨t1, t2, k9, k90, k91, hk9⟩
  · refine ⟨-1000, n, m, ?_, ?_, hC, hH, hI, FZl.refl⟩
    · unfold N_H_box N_H_isElement; rw [t2]; rfl
    · unfold N_Y_box; rw [t1]; rfl
  · obtain ⟨k, k0, k1, hk⟩ : ∃ k, 0 ≤ k ∧ k < N ∧ o k = v := by
      have g := q7'.1.1.there v
      rcases g with ⟨g, _⟩ | ⟨_, _, g⟩
      · have e45 : N_Y_there v m' = N_Y_there v m := by unfold N_Y_there; rw [q13.2.2.1 45 (by omega)]
        rw [e45, t1] at g; cases g
      · exact g
    have hG := q7.1.1.1
    have hv := hG.oB k0 k1
    have ho2 := q10 k k0 k1
    have hnd := (hTr.1.2.2.2 k9 k90 k91).1.1
    rw [hk9] at hnd
    rw [hk] at hv ho2
    have hkd := q9.kd k0 k1
    rw [ho2] at hkd
    have hE : N_H_isElement v n = some (if m 46 v = 17 then 0 else 1) := by
      unfold N_H_isElement; rw [t2]; simp only [Option.bind_some]
      rw [if_neg (by decide), ix_e _ hv, hnd]
      split <;> rfl
    by_cases h17 : m 46 v = 17
    · -- a TEXT
      have h17' : m' 46 v = 17 := by rw [q13.2.2.1 46 (by omega)]; exact h17
      have hnb : ¬ (m' 107 v = 1 ∨ m' 107 v = 2) ∧ m' 107 v ≠ 4 := by
        have g := q9.1.2.1 k k0 k1
        rw [← ho2] at h17' ⊢
        rcases g with ⟨w, _⟩ | ⟨_, w | w | w | w | w⟩
        · omega
        · exact absurd h17' w.2.2.1.1
        · have := w.2.2.1; omega
        · exact absurd h17' w.2.2.1.1
        · have := w.2.2.1; omega
        · omega
      have hcl : N_H_box v u n = some (-1000, n) := by
        unfold N_H_box; rw [hE, if_pos h17]; rfl
      by_cases u0 : u < 0 ∨ 3 < u
      · refine ⟨-1000, n, m, hcl, ?_, hC, hH, hI, FZl.refl⟩
        unfold N_Y_box; rw [t1]; simp only [Option.bind_some]
        rw [if_neg (by decide)]
        by_cases z : u < 0
        · rw [if_pos z]
        · rw [if_neg z, if_pos (by omega)]
      · refine ⟨-1000, n, m', hcl, ?_, q6a.2, hH, q6a.1, ⟨fun _ _ => rfl, FS.refl _ _, q13.2.2.1, fun _ _ _ _ => rfl⟩⟩
        unfold N_Y_box; rw [t1]; simp only [Option.bind_some]
        rw [if_neg (by decide), if_neg (by omega), if_neg (by omega), q3]; simp only [Option.bind_some]
        rw [y_isBx hv, if_neg hnb.1]; simp only [Option.bind_some]
        rw [if_pos trivial, ix_e _ hv, if_neg hnb.2]
    · -- an ELEMENT
      have hcl : N_H_box v u n = if n' 3 v 0 = 1 ∨ n' 3 v 0 = 2 then (if u = 0 then some ((n' 3 v 2), n') else if u = 1 then some ((n' 3 v 3), n') else if u = 2 then some ((n' 3 v 4), n') else if u = 3 then some ((n' 3 v 5), n') else some ((-1000), n')) else some (-1000, n') := by
        unfold N_H_box; rw [hE, if_neg h17]; simp only [Option.bind_some]
        rw [if_neg (by decide), q1]; simp only [Option.bind_some]
        rw [q2]; simp only [Option.bind_some]
        rw [ix_e _ hv, c_pntd]; simp only [Option.bind_some]
        by_cases z : n' 3 v 0 = 1 ∨ n' 3 v 0 = 2
        · rw [if_pos z, if_pos z, if_neg (by decide)]
        · rw [if_neg z, if_neg z, if_pos rfl]
      by_cases u0 : u < 0 ∨ 3 < u
      · refine ⟨-1000, n', m, ?_, ?_, q6b.2, q5.2, q6b.1, ⟨q13.1, q13.2.1, fun _ _ => rfl, q13.2.2.2⟩⟩
        · rw [hcl, if_neg (show ¬ u = 0 by omega), if_neg (show ¬ u = 1 by omega), if_neg (show ¬ u = 2 by omega), if_neg (show ¬ u = 3 by omega)]
          split <;> rfl
        · unfold N_Y_box; rw [t1]; simp only [Option.bind_some]
          rw [if_neg (by decide)]
          by_cases z : u < 0
          · rw [if_pos z]
          · rw [if_neg z, if_pos (by omega)]
      · have hyl : N_Y_box v u m = if m' 107 v = 1 ∨ m' 107 v = 2 ∨ m' 107 v = 4 then nk_Y_box_47 v u m' else some (-1000, m') := by
          unfold N_Y_box; rw [t1]; simp only [Option.bind_some]
          rw [if_neg (by decide), if_neg (by omega), if_neg (by omega), q3]; simp only [Option.bind_some]
          rw [y_isBx hv]; simp only [Option.bind_some]
          by_cases z : m' 107 v = 1 ∨ m' 107 v = 2
          · rw [if_pos z, if_neg (by decide), if_pos (by omega)]
          · rw [if_neg z, if_pos rfl, ix_e _ hv]
            by_cases z4 : m' 107 v = 4
            · rw [if_pos z4, if_pos (by omega)]
            · rw [if_neg z4, if_neg (by omega)]
        by_cases zb : m' 107 v = 1 ∨ m' 107 v = 2 ∨ m' 107 v = 4
        · have g := (q9.bx k0 k1 (by rw [ho2]; exact zb)).1
          rw [ho2] at g
          obtain ⟨g1, g2, g3, g4⟩ := g
          have hkn : n' 3 v 0 = 1 ∨ n' 3 v 0 = 2 := by omega
          have fin : ∀ r, (if u = 0 then some ((n' 3 v 2), n') else if u = 1 then some ((n' 3 v 3), n') else if u = 2 then some ((n' 3 v 4), n') else if u = 3 then some ((n' 3 v 5), n') else some ((-1000), n')) = some (r, n') → nk_Y_box_47 v u m' = some (r, m') → ∃ r n' m', N_H_box v u n = some (r, n') ∧ N_Y_box v u m = some (r, m') ∧ CI As Bs A B G n' m' ∧ SHc n' ∧ LAYI n' m' ∧ FZl n n' m m' := fun r a1 a2 =>
            ⟨r, n', m', by rw [hcl, if_pos hkn]; exact a1, by rw [hyl, if_pos zb]; exact a2, q4.2, q5.2, q6.2, q13⟩
          unfold nk_Y_box_47 at fin
          rw [ix_e _ hv, ix_e _ hv, ix_e _ hv, ix_e _ hv, g1, g2, g3, g4] at fin
          by_cases w0 : u = 0
          · exact fin _ (by rw [if_pos w0]) (by rw [if_pos w0])
          · by_cases w1 : u = 1
            · exact fin _ (by rw [if_neg w0, if_pos w1]) (by rw [if_neg w0, if_pos w1])
            · by_cases w2 : u = 2
              · exact fin _ (by rw [if_neg w0, if_neg w1, if_pos w2]) (by rw [if_neg w0, if_neg w1, if_pos w2])
              · exact fin _ (by rw [if_neg w0, if_neg w1, if_neg w2, if_pos (show u = 3 by omega)]) (by rw [if_neg w0, if_neg w1, if_neg w2])
        · exact ⟨-1000, n', m', by rw [hcl, if_neg (by omega)], by rw [hyl, if_neg zb], q4.2, q5.2, q6.2, q13⟩
end YP
