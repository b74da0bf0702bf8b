/-! WHAT STAYS; the calls with a text; the call attribute -/
section D7
variable {n n' : NS} {m m' : YS} {A B N v x : Int} {o e p : Int → Int} {w l : List Int} {S S' : Int → Prop}
theorem JS.cg (h : JS n m N o e p) (e7 : n' 7 = n 7) (e10 : n' 10 = n 10) (ey : ∀ f, f = 45 ∨ (49 ≤ f ∧ f ≤ 55) ∨ f = 68 ∨ f = 69 → m' f = m f) : JS n' m' N o e p := by
  have e45 := ey 45 (by omega); have e49 := ey 49 (by omega); have e50 := ey 50 (by omega); have e51 := ey 51 (by omega); have e52 := ey 52 (by omega); have e53 := ey 53 (by omega); have e54 := ey 54 (by omega); have e55 := ey 55 (by omega); have e68 := ey 68 (by omega); have e69 := ey 69 (by omega)
  unfold JS TY lnk at *
  rw [e7, e10, e45, e49, e50, e51, e52, e53, e54, e55, e68, e69]
  exact h
theorem JK.cg (h : JK n N o p) (e7 : n' 7 = n 7) : JK n' N o p := by
  unfold JK at *; rw [e7]; exact h
theorem JL.cg (h : JL n N o e) (e7 : n' 7 = n 7) (e10 : n' 10 = n 10) (e22 : n' 22 = n 22) : JL n' N o e := by
  unfold JL LSt at *; rw [e7, e10, e22]; exact h
/-- the two trees, with all that they hold -/
def JT (n : NS) (m : YS) (N : Int) (o e p : Int → Int) : Prop := JS n m N o e p ∧ JK n N o p ∧ JL n N o e ∧ JD n m N o
theorem JT.fb (h : JT n m N o e p) (hB : BI A B n) (hF : FB S n n') (hS : ∀ x, S x → 605 ≤ x ∧ x ≤ 631) (hy : ∀ f, 45 ≤ f → f ≤ 69 → m' f = m f) : JT n' m' N o e p := by
  have e7 := hF.1 7 (by decide) (by decide) (by decide) (by decide) (by decide) (by decide)
  have e10 := hF.1 10 (by decide) (by decide) (by decide) (by decide) (by decide) (by decide)
  have e22 := hF.1 22 (by decide) (by decide) (by decide) (by decide) (by decide) (by decide)
  exact ⟨h.1.cg e7 e10 (fun f hf => hy f (by omega) (by omega)), h.2.1.cg e7, h.2.2.1.cg e7 e10 e22, fun k k0 k1 => (h.2.2.2 k k0 k1).cg (YG.of (fun f hf => hy f (by omega) (by omega))) (NG.fb hF hB hS (h.1.1.oB k0 k1))⟩
theorem FB.up (h : FB S n n') (hs : ∀ b, S b → S' b) : FB S' n n' := h.mono hs (fun b _ => by
  by_cases z : S b
  · exact h.2.2.2.2.2 b z
  · left; rw [h.2.1 b z])
theorem JOut.fb (h : JOut n m) (hB : BI A B n) (hF : FB S n n') (hS : ∀ x, S x → 0 ≤ x ∧ x ≤ 631) (h6 : ¬ S 606) (e4 : m' 4 = m 4) (e5 : m' 5 = m 5) : JOut n' m' := by
  obtain ⟨a, b, c⟩ := hF.bts hB (b := 606) (by omega) h6 hS
  unfold JOut ys at *
  rw [c, a, e4, e5]
  exact h
theorem JTape.fb (h : JTape n m) (hB : BI A B n) (hF : FB S n n') (hS : ∀ x, S x → 0 ≤ x ∧ x ≤ 631) (h6 : ¬ S 605) (e4 : m' 0 = m 0) (e5 : m' 1 = m 1) : JTape n' m' := by
  obtain ⟨a, b, c⟩ := hF.bts hB (b := 605) (by omega) h6 hS
  unfold JTape ys at *
  rw [c, a, e4, e5]
  exact h
theorem JTape_clear (hB : BI A B n') (h0 : bt n' 605 = []) (hy : m' 1 0 = 0) : JTape n' m' := by
  have hl := bt_len (b := 605) (by omega) hB
  rw [h0] at hl
  have hl : (0 : Int) = n' 4 605 2 := hl
  refine ⟨?_, by omega, by omega, by omega⟩
  rw [h0]; unfold ys; rw [hy]; rfl
/-- the text is taken, by both: a wrong byte, or a text -/
theorem take_both (hB : BI A B n) (hJ : JTape n m) : ∃ m5, FY [1, 2, 3] m m5 ∧ m5 1 0 = 0 ∧ tx n (n 4 605 1) (m5 2) (m5 3 0) ∧ (0 ≤ m5 3 0 ∧ m5 3 0 ≤ 2000) ∧ n 4 605 2 = m5 3 0
    ∧ ((∃ i, 0 ≤ i ∧ i < 2000 ∧ N_H_wrongByte n = some (-1000 - i) ∧ N_Y_take m = some (i, m5)) ∨ (N_H_wrongByte n = some 0 ∧ N_Y_take m = some (-1, m5) ∧ ∀ j, 0 ≤ j → j < m5 3 0 → isTx (m5 2 j))) := by
  have ht := hJ.tx hB
  have h0 := hJ.2.2
  have c1 := cs_wrongByte hB ht hJ.2.1 h0
  obtain ⟨⟨z, m5⟩, e1, t1, t2, t3, t4, t5⟩ := ys_take h0
  simp only at t1 t2 t3 t4 t5
  refine ⟨m5, t2, t3, ⟨ht.1, by rw [t4]; exact ht.2.1, fun j a b => ?_⟩, by omega, by rw [t4]; exact hJ.2.1, ?_⟩
  · rw [t5 j a (by omega)]; exact ht.2.2 j a (by omega)
  · have hg := scx_ge (p := fun j => isTx (m 0 j)) 0 (m 1 0)
    by_cases hw : sc (fun j => isTx (m 0 j)) 0 (m 1 0) < m 1 0
    · rw [if_pos hw] at c1 t1
      left
      exact ⟨_, hg, by omega, c1, by rw [e1, t1]⟩
    · rw [if_neg hw] at c1 t1
      right
      refine ⟨c1, by rw [e1, t1], fun j a b => ?_⟩
      rw [t5 j a (by omega)]
      exact scx_in (p := fun j => isTx (m 0 j)) (to := m 1 0) a (by omega)
theorem y_attr16 (h : 0 ≤ m 3 0 ∧ m 3 0 ≤ 2000) : NL_Y_attribute_16 v 0 m = some (nmC (m 2) 0 (m 3 0)) := by
  apply eq_of_ev
  unfold NL_Y_attribute_16
  have h1 := scx_ge (p := fun j => isNm (m 2 j)) 0 (m 3 0)
  refine ev_it (fun s => 0 ≤ s ∧ s ≤ m 3 0 ∧ s ≤ 8 ∧ (0 < s → isSm (m 2 0)) ∧ s ≤ sc (fun j => isNm (m 2 j)) 0 (m 3 0)) (fun s => m 3 0 - s) (fun s hs => ?_) ⟨Int.le_refl _, h.1, by omega, fun h => by omega, h1⟩
  obtain ⟨h2, h3, h4, h5, h6⟩ := hs
  have h7 : s < m 3 0 → ((isNm (m 2 s)) ↔ s < sc (fun j => isNm (m 2 j)) 0 (m 3 0)) := fun hlt => by
    constructor
    · intro hp
      rcases Int.lt_or_eq_of_le h6 with h | h
      · exact h
      · have hx := scx_at (p := fun j => isNm (m 2 j)) (i := 0) (to := m 3 0) (by omega)
        rw [← h] at hx
        exact absurd hp hx
    · intro h; exact scx_in (p := fun j => isNm (m 2 j)) h2 h
  have h8 := scx_le (p := fun j => isNm (m 2 j)) (i := 0) (to := m 3 0)
  unfold nb_Y_attribute_16 nmC
  generalize sc (fun j => isNm (m 2 j)) 0 (m 3 0) = k at *
  (repeat' (first | (with_reducible apply ev_z0) | (with_reducible apply ev_z1) | (with_reducible refine ev_bz (ys_small) (fun _ => ?_) (fun _ => ?_)) | (with_reducible refine ev_bz (ys_digit) (fun _ => ?_) (fun _ => ?_)) | (with_reducible apply ev_ck; focus omega) | (with_reducible apply ev_ckL; focus omega) | (with_reducible apply ev_ix; focus omega) | (with_reducible apply ev_cz; focus omega) | (with_reducible apply ev_cb; focus omega) | (with_reducible apply ev_dx; focus omega) | (with_reducible apply ev_nn; focus omega) | (with_reducible apply ev_ty; focus omega) | (with_reducible apply ev_cd; focus omega) | (with_reducible apply ev_or8; focus omega) | (with_reducible apply ev_sh5; focus omega) | (with_reducible apply ev_sh6; focus omega) | (with_reducible apply ev_st) | (with_reducible refine ev_if (fun _ => ?_) (fun _ => ?_))))
  all_goals first
    | refine ev_inl ⟨⟨by omega, by omega, by omega, fun _ => ?_, by omega⟩, by omega, by omega⟩
      by_cases e : s = 0
      · subst e; omega
      · exact h5 (by omega)
    | refine ev_inr (show _ = _ from ?_)
      by_cases e : s = 0
      · subst e; split <;> omega
      · have := h5 (by omega)
        split <;> omega
theorem y_find2 (hd : ND n m v) (hv : 0 ≤ v ∧ v < 120) (h3 : 1 ≤ m 3 0 ∧ m 3 0 ≤ 2000) : ev (NL_Y_attribute_110 v (4 * v) m) (sp (fun r => r = 4 * v + fnd m v (sg (m 2) 0 (m 3 0).toNat) ∧ fnd m v (sg (m 2) 0 (m 3 0).toNat) < m 56 v) (fun _ => ¬ fnd m v (sg (m 2) 0 (m 3 0).toNat) < m 56 v)) := by
  have hc := hd.2.2.1
  generalize hw : sg (m 2) 0 (m 3 0).toNat = w
  unfold NL_Y_attribute_110
  refine ev_it (fun s => 4 * v ≤ s ∧ s ≤ 4 * v + m 56 v ∧ ∀ j, 0 ≤ j → 4 * v + j < s → anL m v j ≠ w) (fun s => 4 * v + m 56 v - s) (fun s hs => ?_) ⟨Int.le_refl _, by omega, fun j a b => by omega⟩
  obtain ⟨g1, g2, g3⟩ := hs
  unfold nb_Y_attribute_110
  refine ev_ck (by omega) (ev_ix hv (ev_ck (by omega) (ev_if (fun hlt => ev_ix (by omega) ?_) (fun hge => ev_inr (show ¬ _ from fun hx => ?_)))))
  · have ha := hd.2.2.2.1 (s - 4 * v) (by omega) (by omega)
    have hn1 := ha.1
    rw [show 4 * v + (s - 4 * v) = s by omega] at hn1
    have next : anL m v (s - 4 * v) ≠ w → ev (ck (s + 1) <| some (Sum.inl (s + 1))) (lp (fun s => 4 * v ≤ s ∧ s ≤ 4 * v + m 56 v ∧ ∀ j, 0 ≤ j → 4 * v + j < s → anL m v j ≠ w) (fun s => 4 * v + m 56 v - s) s (sp (fun r => r = 4 * v + fnd m v w ∧ fnd m v w < m 56 v) (fun _ : Unit => ¬ fnd m v w < m 56 v))) := fun hne => by
      refine ev_ck (by omega) (ev_inl ⟨⟨by omega, by omega, fun j a b => ?_⟩, by omega, by omega⟩)
      by_cases e : j = s - 4 * v
      · rw [e]; exact hne
      · exact g3 j a (by omega)
    have ea : anL m v (s - 4 * v) = sg (m 57) (8 * s) (m 58 s).toNat := by unfold anL; rw [show 4 * v + (s - 4 * v) = s by omega]
    refine ev_if (fun he => ?_) (fun hne => next (fun z => hne ?_))
    · refine ev_ck (by omega) (ev_bz (ys_same (f := 57) (f2 := 2) (by omega) (by omega) (by show _ ≤ (3840 : Int); omega) (by show _ ≤ (2000 : Int); omega) (by omega) (by omega)) (fun hp => ?_) (fun hp => ?_))
      · rw [if_neg (by decide)]
        have ee : anL m v (s - 4 * v) = w := by rw [ea, he, hp, hw]
        have es : s - 4 * v = fnd m v w := scx_eq ⟨by omega, .inl (by omega), fun j a b => g3 j a (by omega), fun _ z => z ee⟩
        exact ev_inr ⟨by omega, by omega⟩
      · rw [if_pos rfl]
        exact next (fun z => hp (by rw [hw, ← z, ea, he]))
    · have e1 := congrArg List.length (z.trans hw.symm)
      rw [ea, sg_len, sg_len] at e1
      omega
  · have := scx_at (p := fun a => anL m v a ≠ w) hx
    exact this (g3 _ (scx_ge _ _) (by unfold fnd at hx; omega))
/-- both calls put the same into the out, and the tape is empty -/
def SAYT (A B : Int) (n : NS) (m : YS) (X : Option (Int × NS)) (Y : Option (Int × YS)) : Prop := ∃ r n' m', X = some (r, n') ∧ Y = some (r, m') ∧ BI A B n' ∧ JOut n' m' ∧ JTape n' m' ∧ FB (fun x => x = 605 ∨ x = 606) n n' ∧ FY [1, 2, 3, 4, 5] m m'
theorem call_attribute (hB : BI A B n) (h : JS n m N o e p) (hD : JD n m N o) (hO : JOut n m) (hJ : JTape n m) : SAYT A B n m (N_H_attribute v n) (N_Y_attribute v m) := by
  obtain ⟨m5, f5, m1, ht, hs, hsz, hc⟩ := take_both hB hJ
  have f5' : ∀ f, f ∉ [1, 2, 3] → m5 f = m f := f5
  have O5 : JOut n m5 := by unfold JOut ys at *; rw [f5' 4 (by decide), f5' 5 (by decide)]; exact hO
  have fin : ∀ (r : Int) (n1 : NS) (m6 : YS), BI A B n1 → JOut n1 m6 → m6 1 0 = 0 → FB (fun x => x = 606) n n1 → FY [4, 5] m5 m6 → ∃ n2, nk_H_attribute_70 r n1 = some (r, n2) ∧ BI A B n2 ∧ JOut n2 m6 ∧ JTape n2 m6 ∧ FB (fun x => x = 605 ∨ x = 606) n n2 ∧ FY [1, 2, 3, 4, 5] m m6 := fun r n1 m6 q1 q2 q3 q4 q5 => by
    obtain ⟨n2, k1, k2, k3, k4⟩ := cs_clear (b := 605) (by omega) q1
    refine ⟨n2, ?_, k2, q2.fb q1 k3 (fun x hx => by omega) (by omega) rfl rfl, JTape_clear k2 k4 q3, (q4.up (fun b hb => .inr hb)).trans (k3.up (fun b hb => .inl hb)), fun f hf => ?_⟩
    · unfold nk_H_attribute_70; rw [k1]; rfl
    · simp only [List.mem_cons, List.not_mem_nil, or_false, not_or] at hf
      rw [q5 f (by simp only [List.mem_cons, List.not_mem_nil, or_false]; omega), f5' f (by simp only [List.mem_cons, List.not_mem_nil, or_false]; omega)]
  rcases hc with ⟨i, i0, i1, c1, c2⟩ | ⟨c1, c2, c3⟩
  · obtain ⟨n2, k1, k2⟩ := fin (-1000 - i) n m5 hB O5 m1 (FB.refl _ _) (FY.refl _ _)
    refine ⟨-1000 - i, n2, m5, ?_, ?_, k2⟩
    · unfold N_H_attribute; rw [c1]
      simp only [Option.bind_some]
      rw [if_neg (by omega)]; exact k1
    · unfold N_Y_attribute N_Y_wrong ck; rw [c2]
      show (if i < 0 then _ else _) = _
      rw [if_neg (by omega), if_pos (by omega)]; rfl
  · have hb1 := hB.1 605 (by omega) (by omega)
    have eC := cs_nameEnd (i := 0) (to := m5 3 0) ht (Int.le_refl _) (by omega) (by omega) (by omega)
    have eY := y_attr16 (v := v) (m := m5) hs
    have hz : 0 ≤ nmC (m5 2) 0 (m5 3 0) ∧ nmC (m5 2) 0 (m5 3 0) ≤ 8 ∧ nmC (m5 2) 0 (m5 3 0) ≤ m5 3 0 := by
      have q1 := scx_ge (p := fun j => isNm (m5 2 j)) 0 (m5 3 0)
      have q2 := scx_le (p := fun j => isNm (m5 2 j)) hs.1
      unfold nmC; split <;> omega
    unfold N_H_attribute N_Y_attribute
    rw [c1, c2]
    simp only [Option.bind_some]
    rw [if_pos trivial]
    unfold u2
    simp only
    rw [if_pos (by decide), hsz, eC, eY]
    unfold nn
    rw [if_pos hb1.2.1.1]
    simp only [Option.bind_some]
    generalize nmC (m5 2) 0 (m5 3 0) = z at *
    unfold nk_Y_attribute_64 nk_Y_attribute_79 nk_H_attribute_43 N_Y_wrong ck
    by_cases hbad : z = 0 ∨ z < m5 3 0
    · obtain ⟨n2, k1, k2⟩ := fin (-1000 - z) n m5 hB O5 m1 (FB.refl _ _) (FY.refl _ _)
      refine ⟨-1000 - z, n2, m5, ?_, ?_, k2⟩
      · rw [if_pos (show inR (-1000 - z) by omega)]
        by_cases z0 : z = 0
        · rw [if_pos z0]; exact k1
        · rw [if_neg z0, if_pos (by omega)]; exact k1
      · rw [if_pos (show inR (-1000 - z) by omega)]
        by_cases z0 : z < m5 3 0
        · rw [if_pos z0]; rfl
        · rw [if_neg z0, if_pos (by omega)]; rfl
    · rw [if_neg (show ¬ z = 0 by omega), if_neg (show ¬ z < m5 3 0 by omega), if_neg (show ¬ z < m5 3 0 by omega), if_neg (show ¬ m5 3 0 = 0 by omega)]
      try rw [if_pos hb1.2.1.1]
      have ez : z = m5 3 0 := by omega
      have hbt : ∀ j, 0 ≤ j → j < m5 3 0 → isBt (m5 2 j) := fun j a b => by have := c3 j a b; omega
      rw [ez, cs_pack (to := m5 3 0) ht (Int.le_refl _) (by omega) (by omega) (fun j a b _ => hbt j a b)]
      rw [show (min (m5 3 0 - 0) 8).toNat = (m5 3 0).toNat by omega]
      simp only [Option.bind_some]
      generalize hw : sg (m5 2) 0 (m5 3 0).toNat = w
      have hwb : ∀ c ∈ w, isBt c := by rw [← hw]; exact sg_mem _ _ (fun x hx => hbt _ (by omega) (by omega))
      have e45 : N_Y_there v m5 = N_Y_there v m := by unfold N_Y_there; rw [f5' 45 (by decide)]
      rw [e45]
      unfold N_H_showAttribute N_H_isElement
      have nothing : ∀ X : Option (Int × NS), X = some (-1, n) → ∀ Y : Option (Int × YS), Y = some (-1, m5) → SAYT A B n m (X.bind (fun y => nk_H_attribute_70 y.1 y.2)) Y := fun X hX Y hY => by
        obtain ⟨n2, k1, k2⟩ := fin (-1) n m5 hB O5 m1 (FB.refl _ _) (FY.refl _ _)
        exact ⟨-1, n2, m5, by rw [hX]; exact k1, hY, k2⟩
      rcases h.there v with ⟨a, b⟩ | ⟨a, b, k, k0, k1, kv⟩
      · rw [a, b]
        exact nothing _ rfl _ rfl
      · have hv := h.1.oB k0 k1
        have hd := hD k k0 k1
        rw [kv] at hv hd
        have hd5 : ND n m5 v := hd.cg (YG.of (fun f hf => f5' f (by simp only [List.mem_cons, List.not_mem_nil, or_false]; omega))) (NG.refl _ _)
        rw [a, b]
        simp only [Option.bind_some]
        unfold ix
        rw [if_neg (show ¬ (1 : Int) = 0 by decide), if_neg (show ¬ (1 : Int) = 0 by decide), if_pos hv, if_pos hv, hd5.1.1]
        by_cases h17 : m5 46 v = 17
        · rw [if_pos h17, if_pos h17]
          exact nothing _ rfl _ (if_pos hv)
        · rw [if_neg h17, if_neg h17]
          simp only [Option.bind_some]
          rw [if_neg (show ¬ (1 : Int) = 0 by decide), if_pos hv, c_find hd5 hwb]
          simp only [Option.bind_some]
          obtain ⟨sr, es, hsr⟩ := y_find2 hd5 hv ⟨by omega, hs.2⟩
          rw [hw] at hsr
          rw [if_pos (show inR (4 * v) by omega), es]
          have hg := scx_ge (p := fun a => anL m5 v a ≠ w) 0 (m5 56 v)
          by_cases hf : fnd m5 v w < m5 56 v
          · cases sr with
            | inr u => exact absurd hf hsr
            | inl r =>
              obtain ⟨hr, _⟩ := hsr
              have hna := hd5.2.2.2.1 (fnd m5 v w) hg hf
              have h56 := hd5.2.2.1
              have hg : 0 ≤ fnd m5 v w := hg
              rw [if_pos hf, if_neg (show ¬ (5 * v + 1 + fnd m5 v w < 0) by omega)]
              have hsay : SAY A B n m5 ((N_H_showBytes (5 * v + 1 + fnd m5 v w) n).bind (u2 fun z18 n21 => some (z18, n21))) ((N_Y_sayAll 59 (60 * r) (m5 60 r) (yw m5 5 0 0)).bind (fun m30 => some (m30 5 0, m30))) := by
                refine both_say (l := avL m5 v (fnd m5 v w)) ?_ ?_ (fun c hc => by have := hna.2.2.2.2.1 c hc; omega)
                · rw [← hna.2.2.2.2.2]
                  exact ev_b2 (cs_showBytes hB (by omega) (by omega)) (fun z n1 hz => ev_ok hz)
                · rw [hr]
                  have hq := hna.2.2.2.1
                  exact y_sayRow (f := 59) (by decide) (by omega) (by omega) (by show _ ≤ (28800 : Int); omega) (by omega) (fun c hc => by have := hna.2.2.2.2.1 c hc; omega)
              obtain ⟨r2, n1, m6, s1, s2, s3, s4, s5, s6⟩ := hsay
              obtain ⟨n2, t1, t2⟩ := fin r2 n1 m6 s3 s4 (by rw [s6 1 (by decide)]; exact m1) s5 s6
              refine ⟨r2, n2, m6, ?_, ?_, t2⟩
              · rw [s1]; exact t1
              · show ((if inR (60 * r) then _ else none : Option (Int × YS))) = _
                rw [if_pos (show inR (60 * r) by omega), if_pos (show 0 ≤ r ∧ r < 480 by omega), yw_nF (show (60 : Nat) ≠ 5 by decide)]
                exact s2
          · cases sr with
            | inl r => exact absurd hsr.2 hf
            | inr u =>
              rw [if_neg hf]
              exact nothing _ rfl _ rfl
end D7
