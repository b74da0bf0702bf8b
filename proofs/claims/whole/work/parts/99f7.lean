/-! THE CALL resolve; an ADDRESS is shown -/
/-- both hold the same ADDRESS -/
def AR (n : NS) (m : YS) (a r : Int) : Prop := ∃ nm ss q mk, WFA nm ss q mk ∧ CA n a nm ss q mk ∧ RA m r nm ss q mk
theorem adL_in {nm q mk : List Int} {ss : List (List Int)} (h : WFA nm ss q mk) : ∀ c ∈ adL nm ss q ++ mkL mk, 0 ≤ c ∧ c ≤ 127 := by
  obtain ⟨w1, w2, w3, w4⟩ := h
  intro c hc
  unfold adL mkL at hc
  rcases List.mem_append.mp hc with z | z
  · rcases List.mem_append.mp z with y | y
    · simp at y; omega
    · rcases List.mem_append.mp y with x | x
      · have := w1.2.2 c x; omega
      · rcases List.mem_append.mp x with u | u
        · obtain ⟨v, v1, v2⟩ := List.mem_flatMap.mp u
          rcases List.mem_cons.mp v2 with t | t
          · omega
          · have := (w2.2.2 v v1).2.2 c t; omega
        · have := w3.2.2 c u; omega
  · split at z
    · cases z
    · rcases List.mem_cons.mp z with y | y
      · omega
      · have := w4.2 c y; omega
theorem mkL_len {mk : List Int} : (mkL mk).length ≤ mk.length + 1 := by
  unfold mkL; split
  · exact Nat.zero_le _
  · rw [List.length_cons]; omega
section F7
variable {n n' : NS} {m m' : YS} {A B a r : Int} {As : Int → Prop} {nm q mk : List Int} {ss : List (List Int)}
theorem cs_showAddr (hB : BI A B n) (hA : AdS n As) (ha : As a) (hC : CA n a nm ss q mk) (hW : WFA nm ss q mk) : ev (N_H_showAddress a n) (fun r => ∃ n0, AP A B 606 n0 r.2 (adL nm ss q ++ mkL mk) ∧ bt n0 606 = [] ∧ FB (fun x => x = 606) n r.2 ∧ r.1 = r.2 4 606 2) := by
  unfold N_H_showAddress
  refine ev_bind (cs_clear (b := 606) (by omega) hB) (fun n3 h3 => ?_)
  obtain ⟨hB3, hF3, h0⟩ := h3
  obtain ⟨hA3, hx⟩ := hA.fx hB (FX.fb hF3) (fun x hx => by omega)
  obtain ⟨e1, e2⟩ := hx a ha
  have hac := (hA3 a ha).1
  rw [e1] at hac
  obtain ⟨c1, c2, c3, c4, c5, c6⟩ := hC
  have hl := hW.len
  have w1 := hW.1
  have w5 := hW.2.2.1.1
  have w6 := hW.2.2.2.1
  have hml := mkL_len (mk := mk)
  have hlen : ((adL nm ss q ++ mkL mk).length : Int) = n 99 a 5 := by
    rw [List.length_append]
    have := adL_len (nm := nm) (ss := ss) (q := q)
    omega
  refine ev_ty hac.2.1 ?_
  rw [e1]
  refine ev_nn hac.2.2.1.1 (ev_ty hac.2.1 (ev_bind (cs_addAllA (b := 606) (g := n 99 (n 99 a 0)) (l := 160) (i := 0) (to := n 99 a 5) (by omega) hB3 ⟨hac.2.2.2.1, by rw [hac.2.2.2.2]; exact Int.le_refl _, fun j _ _ => by rw [e2]⟩ hac.2.2.1.2 (by omega) (by omega) (by omega) (fun z => ?_)) (fun n4 h4 => ev_ok ⟨n3, ?_, h0, hF3.trans h4.2.1, rfl⟩)))
  · have := (hA3 a ha).2.1 606 (by omega) (by omega)
    rw [e1] at this
    exact this z.symm
  · rw [show (n 99 a 5 - 0).toNat = (adL nm ss q ++ mkL mk).length by omega, c6] at h4
    exact h4
theorem y_sayRow2 (hR : RA m r nm ss q mk) (hW : WFA nm ss q mk) (hr : 0 ≤ r ∧ r < 66) (hb : 0 ≤ m 5 0 ∧ m 5 0 ≤ 8000) : ev (N_Y_sayRow r m) (fun m' => SY1 m m' (adL nm ss q ++ mkL mk)) := by
  have hin := adL_in hW
  have hl := hW.len
  have w1 := hW.1
  have w5 := hW.2.2.1.1
  have w6 := hW.2.2.2
  have hlen := adL_len (nm := nm) (ss := ss) (q := q)
  obtain ⟨r1, r2, r3, r4⟩ := hR
  unfold N_Y_sayRow
  refine ev_ck (by omega) (ev_ix hr ?_)
  rw [r1, show r * 150 = 150 * r by omega]
  refine ev_bind (y_sayAll (f := 6) hb (by decide) (by omega) (by omega) (by show _ ≤ (9900 : Int); omega) (by omega) (fun j ja jb => ?_)) (fun m2 a2 => ev_ix hr ?_)
  · have := sg_all (P := fun c => 0 ≤ c ∧ c ≤ 127) (g := m 6) (i := 150 * r) (k := ((adL nm ss q).length : Int)) (by rw [show (((adL nm ss q).length : Int)).toNat = (adL nm ss q).length by omega, r2]; exact fun c hc => hin c (List.mem_append_left _ hc)) ja jb
    omega
  · rw [show (((adL nm ss q).length : Int)).toNat = (adL nm ss q).length by omega, r2] at a2
    rw [a2.1 8 (by decide), r3]
    refine ev_if (fun hz => ?_) (fun hz => ev_ok ?_)
    · have hmk : mkL mk = [35] ++ mk := by
        unfold mkL; rw [if_neg (fun z => by rw [z] at hz; exact absurd hz (by decide))]; rfl
      refine ev_bind (y_say a2.2.1 (by omega)) (fun m3 a3 => ev_ck (by omega) (ev_ck (by omega) (ev_ix hr ?_)))
      have hF := a2.1.trans a3.1
      rw [hF 8 (by decide), r3]
      refine ev_bind (y_sayAll (f := 6) a3.2.1 (by decide) (by omega) (by omega) (by show _ ≤ (9900 : Int); omega) (by omega) (fun j ja jb => ?_)) (fun m4 a4 => ev_ok ?_)
      · rw [hF 6 (by decide)]
        have := sg_all (P := fun c => isNm c) (g := m 6) (i := 150 * r + 135) (k := (mk.length : Int)) (by rw [show ((mk.length : Int)).toNat = mk.length by omega, r4]; exact w6.2) ja jb
        omega
      · rw [hF 6 (by decide), show ((mk.length : Int)).toNat = mk.length by omega, r4] at a4
        rw [hmk]
        exact a2.trans (a3.trans a4)
    · have : mk = [] := List.length_eq_zero_iff.mp (by omega)
      rw [this]
      show SY1 m m2 (adL nm ss q ++ [])
      rw [List.append_nil]; exact a2
/-- an ADDRESS that is changed is no row's -/
theorem AdS.bts (hA : AdS n As) (hB : BI A B n) (ha : As a) {s t : Int → Int} {b : Int} (hb : 0 ≤ b ∧ b ≤ 631) : bt (aw n a (n 99 a 0) s t) b = bt n b := by
  unfold bt
  rw [aw_K (show (4 : Nat) ≠ 99 by decide), aw_q (hA.nb hB ha hb) ((hA a ha).2.1 b hb.1 hb.2)]
theorem BI.aw {s t : Int → Int} {T : Int} (h : BI A B n) : BI A B (aw n a T s t) := h.cg (aw_K (by decide)) (by rw [aw_K (by decide)]; exact ⟨rfl, rfl⟩) (aw_K (by decide)) (aw_K (by decide)) (aw_K (by decide)) (aw_K (by decide))
/-- target is read anew, rows of the tape and of the out have changed -/
def FT (n n' : NS) : Prop := ∃ n1, (n1 = n ∨ ∃ s t, s 0 = n 99 1584 0 ∧ n1 = aw n 1584 (n 99 1584 0) s t) ∧ FB (fun x => x = 605 ∨ x = 606) n1 n'
def FTY (m m' : YS) : Prop := FY [1, 2, 3, 4, 5, 6, 7, 8, 9, 10, 11, 12, 14, 15] m m' ∧ (∀ j, 150 ≤ j → m' 6 j = m 6 j) ∧ (∀ q, q ≠ 0 → m' 7 q = m 7 q ∧ m' 8 q = m 8 q)
theorem call_resolve (hB : BI A B n) (hJ : JTape n m) (hO : JOut n m) (hA : AdS n As) (h2 : As 1582) (h4 : As 1584) (hP : AR n m 1582 1) : ∃ r n' m', N_H_resolve n = some (r, n') ∧ N_Y_resolve m = some (r, m') ∧ BI A B n' ∧ JTape n' m' ∧ JOut n' m' ∧ FT n n' ∧ FTY m m' := by
  obtain ⟨m5, f5, m1, ht, hs, hsz, hc⟩ := take_both hB hJ
  have f5' : ∀ f, f ∉ [1, 2, 3] → m5 f = m f := f5
  have O5 : JOut n m5 := by unfold JOut ys at *; rw [f5' 4 (by decide), f5' 5 (by decide)]; exact hO
  have fy5 : FTY m m5 := ⟨fun f hf => f5' f (fun z => hf (by simp at z ⊢; omega)), fun j _ => by rw [f5' 6 (by decide)], fun q _ => by rw [f5' 7 (by decide), f5' 8 (by decide)]; exact ⟨rfl, rfl⟩⟩
  -- the end: the tape is cleared
  have fin : ∀ (r : Int) (n1 n2 : NS) (m6 : YS), (n1 = n ∨ ∃ s t, s 0 = n 99 1584 0 ∧ n1 = aw n 1584 (n 99 1584 0) s t) → FB (fun x => x = 606) n1 n2 → BI A B n2 → JOut n2 m6 → m6 1 0 = 0 → FTY m m6 → ∃ n3, nk_H_resolve_62 r n2 = some (r, n3) ∧ BI A B n3 ∧ JTape n3 m6 ∧ JOut n3 m6 ∧ FT n n3 ∧ FTY m m6 := fun r n1 n2 m6 q0 q1 q2 q3 q4 q5 => by
    obtain ⟨n3, k1, k2, k3, k4⟩ := cs_clear (b := 605) (by omega) q2
    refine ⟨n3, ?_, k2, JTape_clear k2 k4 q4, q3.fb q2 k3 (fun x hx => by omega) (by omega) rfl rfl, ⟨n1, q0, (q1.up (fun b hb => .inr hb)).trans (k3.up (fun b hb => .inl hb))⟩, q5⟩
    unfold nk_H_resolve_62; rw [k1]; rfl
  rcases hc with ⟨i, i0, i1, c1, c2⟩ | ⟨c1, c2, c3⟩
  · obtain ⟨n3, k1, k2⟩ := fin (-1000 - i) n n m5 (.inl rfl) (FB.refl _ _) hB O5 m1 fy5
    refine ⟨-1000 - i, n3, m5, ?_, ?_, k2⟩
    · unfold N_H_resolve; rw [c1]
      simp only [Option.bind_some]
      rw [if_neg (by omega)]; exact k1
    · unfold N_Y_resolve N_Y_wrong ck; rw [c2]
      show (if i < 0 then _ else _) = _
      rw [if_neg (by omega), if_pos (by omega)]; rfl
  · obtain ⟨bnm, bss, bq, bmk, hW, hC, hR⟩ := hP
    have hb1 := hB.1 605 (by omega) (by omega)
    have hT := hA 1584 h4
    have hH := hA 1582 h2
    have hne : n 99 1582 0 ≠ n 99 1584 0 := fun z => absurd (hH.2.2 1584 h4 z) (by decide)
    have hty : ∀ q : Int, n 92 0 q = 101 → q ≠ n 99 1584 0 ∧ q ≠ n 99 1582 0 := fun q hq => ⟨fun z => by rw [z, hT.1.2.2.2.1] at hq; exact absurd hq (by decide), fun z => by rw [z, hH.1.2.2.2.1] at hq; exact absurd hq (by decide)⟩
    have hBS : BS n 1584 (n 99 1584 0) 1582 (n 99 1582 0) (n 99 1582) (n 99 (n 99 1582 0)) bnm bss bq bmk := ⟨hH.1, ⟨by decide, (hty 1582 hH.1.2.1).1, fun z => (hty 1584 hT.1.2.1).2 z.symm, hne⟩, rfl, rfl, rfl, hC, hW⟩
    have hcr := c_read (i := 0) (to := m5 3 0) hT.1 rfl ht (hA.nb hB h4 (by omega)) (hT.2.1 605 (by omega) (by omega)) hBS ⟨by omega, hs.1, Int.le_refl _, by omega⟩
    have hR5 : RA m5 1 bnm bss bq bmk := by
      unfold RA at *; rw [f5' 6 (by decide), f5' 7 (by decide), f5' 8 (by decide)]; exact hR
    have hyr := y_refer (f := 2) (i := 0) (to := m5 3 0) (r := 1) (m := m5) (g := m5 2) (by decide) rfl ⟨by omega, hs.1, by show _ ≤ (2000 : Int); omega, by omega, by omega⟩ (fun j a b => c3 j a b) (by omega) hR5 hW
    obtain ⟨⟨x, n1⟩, ex, s', t', x1, x2, x3⟩ := hcr
    obtain ⟨⟨y, m6⟩, ey, y1, y2⟩ := hyr
    simp only at x1 x3 y1 y2
    have fy6 : FTY m m6 := by
      refine ⟨fun f hf => ?_, fun j hj => ?_, fun q hq => ?_⟩
      · simp only [List.mem_cons, List.not_mem_nil, or_false, not_or] at hf
        rw [y1.1 f (by simp only [List.mem_cons, List.not_mem_nil, or_false, not_or]; omega), f5' f (by simp only [List.mem_cons, List.not_mem_nil, or_false, not_or]; omega)]
      · rw [y1.2.1 j hj, f5' 6 (by decide)]
      · rw [(y1.2.2 q hq).1, (y1.2.2 q hq).2, f5' 7 (by decide), f5' 8 (by decide)]; exact ⟨rfl, rfl⟩
    have hB1 : BI A B n1 := by rw [x1]; exact hB.aw
    have O6 : JOut n1 m6 := by
      have b6 : bt n1 606 = bt n 606 := by rw [x1]; exact hA.bts hB h4 (by omega)
      have b4 : n1 4 = n 4 := by rw [x1]; exact aw_K (by decide)
      unfold JOut ys at *
      rw [b6, b4, y1.1 4 (by decide), y1.1 5 (by decide)]; exact O5
    have m61 : m6 1 0 = 0 := by rw [y1.1 1 (by decide)]; exact m1
    have q0 : n1 = n ∨ ∃ s t, s 0 = n 99 1584 0 ∧ n1 = aw n 1584 (n 99 1584 0) s t := .inr ⟨s', t', x2, x1⟩
    have unf : N_H_resolve n = if x = 0 then nk_H_resolve_61 (-1) n1 else (N_H_showAddress 1584 n1).bind (u2 fun z27 n30 => nk_H_resolve_61 z27 n30) := by
      unfold N_H_resolve nn ty
      rw [c1]
      simp only [Option.bind_some]
      rw [if_pos trivial, if_pos hb1.2.1.1, if_pos hT.1.2.1, hsz, ex]
      rfl
    have unfY : N_Y_resolve m = if y = 0 then some (-1, m6) else st (yw m6 5 0 0) fun m19 => (N_Y_sayRow 0 m19).bind fun m23 => some (m23 5 0, m23) := by
      unfold N_Y_resolve N_Y_resolve0
      rw [c2]
      simp only [Option.bind_some]
      unfold u2
      simp only
      rw [if_pos (show (-1 : Int) < 0 by decide), ey]
      rfl
    have fail : x = 0 → y = 0 → ∃ r n' m', N_H_resolve n = some (r, n') ∧ N_Y_resolve m = some (r, m') ∧ BI A B n' ∧ JTape n' m' ∧ JOut n' m' ∧ FT n n' ∧ FTY m m' := fun z1 z2 => by
      obtain ⟨n3, k1, k2⟩ := fin (-1) n1 n1 m6 q0 (FB.refl _ _) hB1 O6 m61 fy6
      refine ⟨-1, n3, m6, ?_, ?_, k2⟩
      · rw [unf, if_pos z1]; exact k1
      · rw [unfY, if_pos z2]
    rcases x3 with ⟨z1, z2⟩ | ⟨z1, nm, ss, q, mk, z2, z3, z4⟩
    · rcases y2 with ⟨w1, w2⟩ | ⟨w1, nm, ss, q, mk, w2, w3⟩
      · exact fail z1 w1
      · rw [z2] at w2; cases w2
    · rcases y2 with ⟨w1, w2⟩ | ⟨w1, nm', ss', q', mk', w2, w3⟩
      · rw [z2] at w2; cases w2
      · rw [z2] at w2
        cases w2
        have hW' := RF_wf z2 hs.1 hW (fun j a b => c3 j a b)
        have hA1 : AdS n1 As := by rw [x1]; exact (hA.chg h4 x2).1
        have hC1 : CA n1 1584 nm ss q mk := by
          unfold CA
          rw [x1, aw_a hT.1.ne, x2, aw_T]; exact z3
        obtain ⟨r, n2, m7, s1, s2, s3, s4, s5, s6⟩ := both_say (n := n1) (m := m6) (cs_showAddr hB1 hA1 h4 hC1 hW') (Y := (N_Y_sayRow 0 (yw m6 5 0 0)).bind fun m23 => some (m23 5 0, m23)) (by
          have hm8 : FY [4, 5] m6 (yw m6 5 0 0) := fun f hf => yw_nF (fun z => hf (by simp [z]))
          have hR8 : RA (yw m6 5 0 0) 0 nm ss q mk := by
            unfold RA at *; rw [hm8 6 (by decide), hm8 7 (by decide), hm8 8 (by decide)]; exact w3
          exact ev_bind (y_sayRow2 hR8 hW' (by omega) (by rw [yw_eq]; omega)) (fun m9 h9 => ev_ok ⟨h9, rfl⟩)) (adL_in hW')
        have fy7 : FTY m m7 := by
          refine ⟨fun f hf => ?_, fun j hj => ?_, fun q hq => ?_⟩
          · simp only [List.mem_cons, List.not_mem_nil, or_false, not_or] at hf
            rw [s6 f (by simp only [List.mem_cons, List.not_mem_nil, or_false, not_or]; omega)]
            exact fy6.1 f (by simp only [List.mem_cons, List.not_mem_nil, or_false, not_or]; omega)
          · rw [s6 6 (by decide)]; exact fy6.2.1 j hj
          · rw [s6 7 (by decide), s6 8 (by decide)]; exact fy6.2.2 q hq
        obtain ⟨n3, k1, k2⟩ := fin r n1 n2 m7 q0 s5 s3 s4 (by rw [s6 1 (by decide)]; exact m61) fy7
        refine ⟨r, n3, m7, ?_, ?_, k2⟩
        · rw [unf, if_neg (by omega), s1]; exact k1
        · rw [unfY, if_neg (by omega)]; exact s2
end F7
