/-! THE REFERENCE takes bytes over into a TEXT -/
/-- one fault has been told -/
def TLD (w pl : Int) (m m' : YS) : Prop := m' 70 0 = m 70 0 + 1 ∧ (∀ j, 0 ≤ j → j < m 70 0 → j < 40 → m' 71 j = m 71 j ∧ m' 72 j = m 72 j) ∧ (m 70 0 < 40 → m' 71 (m 70 0) = w ∧ m' 72 (m 70 0) = pl)
def TLC (w pl : Int) (n n' : NS) : Prop := n' 8 0 3 = n 8 0 3 + 1 ∧ (∀ j, 0 ≤ j → j < n 8 0 3 → j < 40 → n' 28 0 j = n 28 0 j ∧ n' 29 0 j = n 29 0 j) ∧ (n 8 0 3 < 40 → n' 28 0 (n 8 0 3) = w ∧ n' 29 0 (n 8 0 3) = pl)
section G4
variable {n n' : NS} {m m' : YS} {g : Int → Int} {L i to A B b r w pl v : Int}
theorem JF.told (h : JF n m) (hc : TLC w pl n n') (hy : TLD w pl m m') (hb : m 70 0 < 100000) : JF n' m' := by
  obtain ⟨h1, h2, h3, h4⟩ := h
  obtain ⟨c1, c2, c3⟩ := hc
  obtain ⟨y1, y2, y3⟩ := hy
  rw [h1] at c1 c2 c3
  refine ⟨by rw [c1, y1], by omega, by omega, fun j j0 j1 j2 => ?_⟩
  by_cases z : j = m 70 0
  · rw [z]
    have a := c3 (by omega)
    have b := y3 (by omega)
    exact ⟨a.1.trans b.1.symm, a.2.trans b.2.symm⟩
  · have a := c2 j j0 (by omega) j2
    have b := y2 j j0 (by omega) j2
    have d := h4 j j0 (by omega) j2
    exact ⟨by rw [a.1, b.1]; exact d.1, by rw [a.2, b.2]; exact d.2⟩
theorem y_tell (hb : 0 ≤ m 70 0 ∧ m 70 0 < 100000) : ev (N_Y_tellFault w pl m) (fun m' => TLD w pl m m' ∧ FY [70, 71, 72] m m') := by
  unfold N_Y_tellFault nk_Y_tellFault_29
  refine ev_if (fun z => ev_ix (by omega) (ev_st ?_)) (fun z => ev_ck (by omega) (ev_st (ev_ok ⟨⟨yw_eq, fun j _ _ _ => by rw [yw_nF (by decide), yw_nF (by decide)]; exact ⟨rfl, rfl⟩, fun y => absurd y z⟩, fun x hx => yw_nF (fun y => hx (by simp [y]))⟩)))
  rw [show yw m 71 (m 70 0) w 70 0 = m 70 0 by rw [yw_nF (by decide)]]
  refine ev_ix (by omega) (ev_st ?_)
  rw [show yw (yw m 71 (m 70 0) w) 72 (m 70 0) pl 70 0 = m 70 0 by rw [yw_nF (by decide), yw_nF (by decide)]]
  refine ev_ck (by omega) (ev_st (ev_ok ⟨⟨yw_eq, fun j j0 j1 j2 => ⟨?_, ?_⟩, fun _ => ⟨?_, ?_⟩⟩, fun x hx => ?_⟩))
  · rw [yw_nF (by decide), yw_nF (by decide), yw_ni (by omega)]
  · rw [yw_nF (by decide), yw_ni (by omega), yw_nF (by decide)]
  · rw [yw_nF (by decide), yw_nF (by decide), yw_eq]
  · rw [yw_nF (by decide), yw_eq]
  · simp only [List.mem_cons, List.not_mem_nil, or_false, not_or] at hx
    rw [yw_nF hx.1, yw_nF hx.2.2, yw_nF hx.2.1]
theorem c_tell (hb : 0 ≤ n 8 0 3 ∧ n 8 0 3 < 100000) : ev (N_Reader_tell w pl n) (fun n' => TLC w pl n n' ∧ (∀ K, K ≠ 8 → K ≠ 28 → K ≠ 29 → n' K = n K) ∧ (∀ s, s ≠ 3 → n' 8 0 s = n 8 0 s)) := by
  unfold N_Reader_tell nk_Reader_tell_29
  refine ev_if (fun z => ev_ix (by omega) (ev_st ?_)) (fun z => ev_ck (by omega) (ev_st (ev_ok ⟨⟨nw_eq, fun j _ _ _ => by rw [nw_nK (by decide), nw_nK (by decide)]; exact ⟨rfl, rfl⟩, fun y => absurd y z⟩, fun K a _ _ => nw_nK a, fun s hs => nw_ns hs⟩)))
  rw [show nw n 28 0 (n 8 0 3) w 8 0 3 = n 8 0 3 by rw [nw_nK (by decide)]]
  refine ev_ix (by omega) (ev_st ?_)
  rw [show nw (nw n 28 0 (n 8 0 3) w) 29 0 (n 8 0 3) pl 8 0 3 = n 8 0 3 by rw [nw_nK (by decide), nw_nK (by decide)]]
  refine ev_ck (by omega) (ev_st (ev_ok ⟨⟨nw_eq, fun j j0 j1 j2 => ⟨?_, ?_⟩, fun _ => ⟨?_, ?_⟩⟩, fun K a b c => ?_, fun s hs => ?_⟩))
  · rw [nw_nK (by decide), nw_nK (by decide), nw_ns (by omega)]
  · rw [nw_nK (by decide), nw_ns (by omega), nw_nK (by decide)]
  · rw [nw_nK (by decide), nw_nK (by decide), nw_eq]
  · rw [nw_nK (by decide), nw_eq]
  · rw [nw_nK a, nw_nK c, nw_nK b]
  · rw [nw_ns hs, nw_nK (by decide), nw_nK (by decide)]
/-- what the taking over leaves: dn went in, ov did not -/
def RNQ (m : YS) (v : Int) (dn ov : List (Int × Int)) (to : Int) (m' : YS) : Prop :=
  FY [61, 62, 63, 70, 71, 72, 77] m m' ∧ m' 62 v = m 62 v + (dn.length : Int) ∧ m 62 v + (dn.length : Int) ≤ 400 ∧ (ov ≠ [] → m 62 v + (dn.length : Int) = 400)
  ∧ (∀ u, u ≠ v → m' 62 u = m 62 u ∧ m' 63 u = m 63 u)
  ∧ sg (m' 61) (400 * v + m 62 v) dn.length = dn.map Prod.snd ∧ (∀ j, ¬ (400 * v + m 62 v ≤ j ∧ j < 400 * v + m 62 v + (dn.length : Int)) → m' 61 j = m 61 j)
  ∧ m' 63 v = (if ov = [] then m 63 v else 1)
  ∧ (if ov = [] ∨ m 63 v ≠ 0 then (m' 70 = m 70 ∧ m' 71 = m 71 ∧ m' 72 = m 72) else TLD 7 (firstP ov to) m m')
theorem y_runLoop (hg : m 75 = g) (hv : 0 ≤ v ∧ v < 120) (hc : 0 ≤ m 62 v ∧ m 62 v ≤ 400) (hi : 0 ≤ i ∧ i ≤ to ∧ to ≤ 2000) (hgb : ∀ j, 0 ≤ j → j < to → isTx (g j)) (hF : 0 ≤ m 70 0 ∧ m 70 0 < 100000) (h63b : m 63 v = 0 ∨ m 63 v = 1) : ev (NL_Y_run_188 r to v i m) (fun m' => ∃ dn ov, dcl r g i to = dn ++ ov ∧ RNQ m v dn ov to m') := by
  unfold NL_Y_run_188
  refine ev_it (fun s : Int × YS => i ≤ s.1 ∧ s.1 ≤ to ∧ ∃ dn ov, dcl r g i to = dn ++ (ov ++ dcl r g s.1 to) ∧ RNQ m v dn ov to s.2) (fun s => to - s.1) (fun s hs => ?_) ⟨Int.le_refl _, hi.2.1, [], [], rfl, FY.refl _ _, by show m 62 v = m 62 v + ((0 : Nat) : Int); omega, by show m 62 v + ((0 : Nat) : Int) ≤ 400; omega, fun z => absurd rfl z, fun _ _ => ⟨rfl, rfl⟩, rfl, fun _ _ => rfl, by rw [if_pos rfl], by rw [if_pos (.inl rfl)]; exact ⟨rfl, rfl, rfl⟩⟩
  obtain ⟨k, m1⟩ := s
  obtain ⟨g1, g2, dn, ov, g3, q1, q2, q3, q4, q5, q6, q7, q8, q9⟩ := hs
  simp only at g1 g2 g3 q1 q2 q5 q6 q7 q8 q9
  show ev (nb_Y_run_188 r to v k m1) _
  unfold nb_Y_run_188
  refine ev_if (fun hlt => ev_st ?_) (fun hge => ev_inr ?_)
  · have hstep := stL_b (r := r) (g := g) hlt
    have hlist := dcl_1 (r := r) (g := g) hlt
    have hbyte : -128 ≤ stB r g k to ∧ stB r g k to ≤ 127 := by
      have := hgb k (by omega) hlt
      unfold stB entB
      (repeat' split) <;> omega
    generalize hm2 : yw m1 77 0 1 = m2
    have f2 : FY [77] m1 m2 := fun x hx => by rw [← hm2]; exact yw_nF (fun y => hx (by simp [y]))
    have hg2 : m2 75 = g := by rw [f2 75 (by decide), q1 75 (by decide)]; exact hg
    -- behind a byte
    have key : ∀ m3, FY [77] m1 m3 → m3 77 0 = stL r g k to → ev (nk_Y_run_224 r to v k (stB r g k to) m3) (lp (fun s : Int × YS => i ≤ s.1 ∧ s.1 ≤ to ∧ ∃ dn ov, dcl r g i to = dn ++ (ov ++ dcl r g s.1 to) ∧ RNQ m v dn ov to s.2) (fun s => to - s.1) (k, m1) (fun m' => ∃ dn ov, dcl r g i to = dn ++ ov ∧ RNQ m v dn ov to m')) := fun m3 f3 e77 => by
      unfold nk_Y_run_224 nk_Y_run_301
      have e62 : m3 62 = m1 62 := f3 62 (by decide)
      have e63 : m3 63 = m1 63 := f3 63 (by decide)
      have e61 : m3 61 = m1 61 := f3 61 (by decide)
      rw [e62, q2]
      refine ev_ix hv (ev_if (fun hroom => ?_) (fun hfull => ?_))
      · have hov : ov = [] := by
          by_cases z : ov = []
          · exact z
          · have := q4 z; omega
        subst hov
        refine ev_ck (by omega) (ev_ix hv (ev_ck (by omega) (ev_ix (by omega) (ev_st (ev_ix hv ?_)))))
        rw [show yw m3 61 (400 * v + (m 62 v + (dn.length : Int))) (Int.bmod (stB r g k to) 256) 62 v = m 62 v + (dn.length : Int) by rw [yw_nF (by decide), e62]; exact q2, bmod_id hbyte]
        refine ev_ck (by omega) (ev_ix hv (ev_st ?_))
        generalize hm4 : yw (yw m3 61 (400 * v + (m 62 v + (dn.length : Int))) (stB r g k to)) 62 v (m 62 v + (dn.length : Int) + 1) = m4
        have f4 : FY [61, 62] m3 m4 := fun x hx => by
          simp only [List.mem_cons, List.not_mem_nil, or_false, not_or] at hx
          rw [← hm4, yw_nF hx.2, yw_nF hx.1]
        have e4 : m4 77 0 = stL r g k to := by rw [f4 77 (by decide)]; exact e77
        rw [e4]
        refine ev_ck (by omega) (ev_inl ⟨⟨by show i ≤ k + stL r g k to; omega, by show k + stL r g k to ≤ to; omega, dn ++ [(k, stB r g k to)], [], ?_, fun x hx => ?_, ?_, ?_, fun z => absurd rfl z, fun u hu => ⟨?_, ?_⟩, ?_, fun j hj => ?_, ?_, ?_⟩, by show to - (k + stL r g k to) < to - k; omega, by show 0 ≤ to - k; omega⟩)
        · show dcl r g i to = dn ++ [(k, stB r g k to)] ++ ([] ++ dcl r g (k + stL r g k to) to)
          rw [g3, hlist, List.append_assoc]; rfl
        · show m4 x = m x
          simp only [List.mem_cons, List.not_mem_nil, or_false, not_or] at hx
          rw [f4 x (by simp only [List.mem_cons, List.not_mem_nil, or_false, not_or]; exact ⟨hx.1, hx.2.1⟩), f3 x (by simp only [List.mem_cons, List.not_mem_nil, or_false, not_or]; exact hx.2.2.2.2.2.2), q1 x (by simp only [List.mem_cons, List.not_mem_nil, or_false, not_or]; exact hx)]
        · show m4 62 v = m 62 v + ((dn ++ [(k, stB r g k to)]).length : Int)
          rw [← hm4, yw_eq, List.length_append]
          show _ = m 62 v + ((dn.length + 1 : Nat) : Int)
          omega
        · rw [List.length_append]
          show m 62 v + ((dn.length + 1 : Nat) : Int) ≤ 400
          omega
        · show m4 62 u = m 62 u
          rw [← hm4, yw_ni hu, yw_nF (by decide), e62]; exact (q5 u hu).1
        · show m4 63 u = m 63 u
          rw [f4 63 (by decide), e63]; exact (q5 u hu).2
        · show sg (m4 61) (400 * v + m 62 v) (dn ++ [(k, stB r g k to)]).length = (dn ++ [(k, stB r g k to)]).map Prod.snd
          rw [List.length_append, sg_app, List.map_append]
          congr 1
          · refine Eq.trans (sg_cg _ _ (400 * v + m 62 v) (fun x hx => ?_)) q6
            rw [← hm4, yw_nF (by decide), yw_ni (by omega), e61]
          · show [m4 61 (400 * v + m 62 v + (dn.length : Int))] = [stB r g k to]
            rw [← hm4, yw_nF (by decide), show 400 * v + m 62 v + (dn.length : Int) = 400 * v + (m 62 v + (dn.length : Int)) by omega, yw_eq]
        · rw [List.length_append] at hj
          have hj : ¬ (400 * v + m 62 v ≤ j ∧ j < 400 * v + m 62 v + ((dn.length + 1 : Nat) : Int)) := hj
          show m4 61 j = m 61 j
          rw [← hm4, yw_nF (by decide), yw_ni (by omega), e61]; exact q7 j (by omega)
        · show m4 63 v = _
          rw [f4 63 (by decide), e63]; exact q8
        · rw [if_pos (.inl rfl)] at q9 ⊢
          show m4 70 = m 70 ∧ m4 71 = m 71 ∧ m4 72 = m 72
          rw [f4 70 (by decide), f4 71 (by decide), f4 72 (by decide), f3 70 (by decide), f3 71 (by decide), f3 72 (by decide)]; exact q9
      · have hfull : m 62 v + (dn.length : Int) = 400 := by omega
        -- it does not go in
        have over : ∀ m4, FY [63, 70, 71, 72] m3 m4 → (∀ u, u ≠ v → m4 63 u = m3 63 u) → m4 63 v = 1 → (if ov = [] ∧ m1 63 v = 0 then TLD 7 k m3 m4 else (m4 70 = m3 70 ∧ m4 71 = m3 71 ∧ m4 72 = m3 72)) → ev (ck (k + m4 77 0) (some (Sum.inl (k + m4 77 0, m4)))) (lp (fun s : Int × YS => i ≤ s.1 ∧ s.1 ≤ to ∧ ∃ dn ov, dcl r g i to = dn ++ (ov ++ dcl r g s.1 to) ∧ RNQ m v dn ov to s.2) (fun s => to - s.1) (k, m1) (fun m' => ∃ dn ov, dcl r g i to = dn ++ ov ∧ RNQ m v dn ov to m')) := fun m4 f4 u4 v4 t4 => by
          have e4 : m4 77 0 = stL r g k to := by rw [f4 77 (by decide)]; exact e77
          rw [e4]
          refine ev_ck (by omega) (ev_inl ⟨⟨by show i ≤ k + stL r g k to; omega, by show k + stL r g k to ≤ to; omega, dn, ov ++ [(k, stB r g k to)], ?_, fun x hx => ?_, ?_, q3, fun _ => hfull, fun u hu => ⟨?_, ?_⟩, ?_, fun j hj => ?_, ?_, ?_⟩, by show to - (k + stL r g k to) < to - k; omega, by show 0 ≤ to - k; omega⟩)
          · show dcl r g i to = dn ++ (ov ++ [(k, stB r g k to)] ++ dcl r g (k + stL r g k to) to)
            rw [g3, hlist, List.append_assoc]; rfl
          · show m4 x = m x
            simp only [List.mem_cons, List.not_mem_nil, or_false, not_or] at hx
            rw [f4 x (by simp only [List.mem_cons, List.not_mem_nil, or_false, not_or]; exact ⟨hx.2.2.1, hx.2.2.2.1, hx.2.2.2.2.1, hx.2.2.2.2.2.1⟩), f3 x (by simp only [List.mem_cons, List.not_mem_nil, or_false, not_or]; exact hx.2.2.2.2.2.2), q1 x (by simp only [List.mem_cons, List.not_mem_nil, or_false, not_or]; exact hx)]
          · show m4 62 v = _
            rw [f4 62 (by decide), e62]; exact q2
          · show m4 62 u = m 62 u
            rw [f4 62 (by decide), e62]; exact (q5 u hu).1
          · show m4 63 u = m 63 u
            rw [u4 u hu, e63]; exact (q5 u hu).2
          · show sg (m4 61) _ _ = _
            rw [f4 61 (by decide), e61]; exact q6
          · show m4 61 j = m 61 j
            rw [f4 61 (by decide), e61]; exact q7 j hj
          · show m4 63 v = _
            rw [if_neg (by simp)]; exact v4
          · show (if ov ++ [(k, stB r g k to)] = [] ∨ m 63 v ≠ 0 then (m4 70 = m 70 ∧ m4 71 = m 71 ∧ m4 72 = m 72) else TLD 7 (firstP (ov ++ [(k, stB r g k to)]) to) m m4)
            have e70 : m3 70 = m1 70 := f3 70 (by decide)
            have e71 : m3 71 = m1 71 := f3 71 (by decide)
            have e72 : m3 72 = m1 72 := f3 72 (by decide)
            by_cases hov : ov = []
            · subst hov
              rw [if_pos rfl] at q8
              rw [if_pos (.inl rfl)] at q9
              by_cases h63 : m 63 v = 0
              · rw [if_pos ⟨rfl, by rw [q8]; exact h63⟩] at t4
                rw [if_neg (fun z => by
                  rcases z with z | z
                  · cases z
                  · exact z h63)]
                unfold TLD at t4 ⊢
                rw [e70, e71, e72, q9.1, q9.2.1, q9.2.2] at t4
                exact t4
              · rw [if_neg (fun z => h63 (by rw [← q8]; exact z.2))] at t4
                rw [if_pos (.inr h63), t4.1, t4.2.1, t4.2.2, e70, e71, e72]; exact q9
            · rw [if_neg (fun z => hov z.1)] at t4
              have hfp : firstP (ov ++ [(k, stB r g k to)]) to = firstP ov to := by
                cases ov with
                | nil => exact absurd rfl hov
                | cons x xs => rfl
              by_cases h63 : m 63 v = 0
              · rw [if_neg (fun z => by
                  rcases z with z | z
                  · exact hov z
                  · exact z h63)] at q9
                rw [if_neg (fun z => by
                  rcases z with z | z
                  · simp at z
                  · exact z h63), hfp]
                unfold TLD at q9 ⊢
                rw [t4.1, t4.2.1, t4.2.2, e70, e71, e72]; exact q9
              · rw [if_pos (.inr h63)] at q9
                rw [if_pos (.inr h63), t4.1, t4.2.1, t4.2.2, e70, e71, e72]; exact q9
        refine ev_ix hv ?_
        rw [e63]
        refine ev_if (fun h63 => ev_ix hv (ev_st ?_)) (fun h63 => ?_)
        · have hov : ov = [] := by
            by_cases z : ov = []
            · exact z
            · rw [if_neg z] at q8; omega
          generalize hm4 : yw m3 63 v 1 = m4
          have f4 : FY [63] m3 m4 := fun x hx => by rw [← hm4]; exact yw_nF (fun y => hx (by simp [y]))
          subst hov
          rw [if_pos (.inl rfl)] at q9
          have e70 : m4 70 0 = m 70 0 := by rw [f4 70 (by decide), f3 70 (by decide), q9.1]
          refine ev_bind (y_tell (by omega)) (fun m5 h5 => ?_)
          refine over m5 (fun x hx => ?_) (fun u hu => ?_) ?_ ?_
          · simp only [List.mem_cons, List.not_mem_nil, or_false, not_or] at hx
            rw [h5.2 x (by simp only [List.mem_cons, List.not_mem_nil, or_false, not_or]; exact hx.2), f4 x (by simp [hx.1])]
          · rw [h5.2 63 (by decide), ← hm4, yw_ni hu]
          · rw [h5.2 63 (by decide), ← hm4, yw_eq]
          · rw [if_pos ⟨rfl, h63⟩]
            have := h5.1
            unfold TLD at this ⊢
            rw [f4 70 (by decide), f4 71 (by decide), f4 72 (by decide)] at this
            exact this
        · refine over m3 (FY.refl _ _) (fun u hu => rfl) ?_ ?_
          · rw [e63]
            by_cases z : ov = []
            · rw [if_pos z] at q8; omega
            · rw [if_neg z] at q8; exact q8
          · rw [if_neg (fun z => h63 z.2)]; exact ⟨rfl, rfl, rfl⟩
    refine ev_if (fun hr => ?_) (fun hr => ev_ix (by omega) ?_)
    · refine ev_b2 (y_ent (f := 75) (by decide) hg2 ⟨by omega, hlt, by show _ ≤ (2000 : Int); omega, by omega⟩) (fun c m3 h3 => ?_)
      have hc1 : c = entB g k to := h3.1
      have hc2 : m3 77 0 = entL g k to := h3.2.2
      have hc : c = stB r g k to := by rw [hc1]; unfold stB; rw [if_pos hr]
      rw [hc]
      exact key m3 (f2.trans h3.2.1) (by rw [hc2]; unfold stL; rw [if_pos hr])
    · have e1 : m2 75 k = stB r g k to := by rw [hg2]; unfold stB; rw [if_neg hr]
      rw [e1]
      exact key m2 f2 (by rw [← hm2, yw_eq]; unfold stL; rw [if_neg hr])
  · refine ⟨dn, ov, by rw [dcl_0 hge, List.append_nil] at g3; exact g3, q1, q2, q3, q4, q5, q6, q7, q8, q9⟩
end G4
