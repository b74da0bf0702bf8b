/-! THE CALL write -/
section K6
variable {n n' : NS} {m m' : YS} {A B a v r : Int} {nm q mk : List Int} {ss : List (List Int)} {As Bs : Int → Prop} {κ : Int → Int}
theorem cs_show0 (hB : BI A B n) (hA : AdS n As) (ha : As a) (h5 : n 99 a 5 = 0) : ev (N_H_showAddress a n) (fun r => ∃ n0, AP A B 606 n0 r.2 [] ∧ bt n0 606 = [] ∧ FB (fun x => x = 606) n r.2 ∧ r.1 = r.2 4 606 2) := by
  unfold N_H_showAddress
  refine ev_bind (cs_clear (b := 606) (by omega) hB) (fun n3 h3 => ?_)
  obtain ⟨hB3, hF3, h0⟩ := h3
  obtain ⟨hA3, hx⟩ := hA.fx hB (FX.fb hF3) (fun x hx => by omega)
  obtain ⟨e1, e2⟩ := hx a ha
  have hac := (hA3 a ha).1
  rw [e1] at hac
  refine ev_ty hac.2.1 ?_
  rw [e1, h5]
  refine ev_nn hac.2.2.1.1 (ev_ty hac.2.1 (ev_bind (cs_addAllA (b := 606) (g := n 99 (n 99 a 0)) (l := 160) (i := 0) (to := 0) (by omega) hB3 ⟨hac.2.2.2.1, by rw [hac.2.2.2.2]; exact Int.le_refl _, fun j _ _ => by rw [e2]⟩ hac.2.2.1.2 (by omega) (by omega) (by omega) (fun z => ?_)) (fun n4 h4 => ev_ok ⟨n3, ?_, h0, hF3.trans h4.2.1, rfl⟩)))
  · have := (hA3 a ha).2.1 606 (by omega) (by omega)
    rw [e1] at this
    exact this z.symm
  · exact h4
theorem call_write (h : JNt κ As Bs A B n m) (hO : JOut n m) : SAY A B n m (N_H_write v n) (N_Y_write v m) := by
  obtain ⟨⟨hB, hJ, hAs, hSn⟩, hH, hP⟩ := h
  have hA := hJ.1
  have h3 := hJ.2.2.1
  have y5 : ∀ f, f ≠ 5 → yw m 5 0 0 f = m f := fun f hf => yw_nF hf
  have r5 : ∀ r, RwE m (yw m 5 0 0) r := fun r => RwE.of (y5 6 (by decide)) (y5 7 (by decide)) (y5 8 (by decide))
  have row : ∀ a r nm ss q mk, As a → WFA nm ss q mk → CA n a nm ss q mk → RA m r nm ss q mk → 0 ≤ r ∧ r < 66 → SAY A B n m ((N_H_showAddress a n).bind (u2 fun z5 n8 => some (z5, n8))) ((N_Y_sayRow r (yw m 5 0 0)).bind fun m2 => some (m2 5 0, m2)) := fun a r nm ss q mk ha hW hC hR hr => by
    refine both_say (l := adL nm ss q ++ mkL mk) ?_ ?_ (adL_in hW)
    · exact ev_b2 (cs_showAddr hB hA ha hC hW) (fun z n1 hz => ev_ok hz)
    · exact ev_bind (y_sayRow2 (hR.rw hW (r5 r)) hW hr (by rw [yw_eq]; decide)) (fun m2 h2 => ev_ok ⟨h2, rfl⟩)
  by_cases h0 : v = 0
  · subst h0
    obtain ⟨nm, ss, q, mk, hW, hC, hR⟩ := hP
    exact row 1582 1 nm ss q mk h3.2.1 hW hC hR (by decide)
  · by_cases h1 : v = 1
    · subst h1
      rcases hAs with ⟨z1, z2⟩ | ⟨z1, nm, ss, q, mk, hW, hC, hR⟩
      · refine both_say (l := []) ?_ ?_ (fun c hc => by cases hc)
        · exact ev_b2 (cs_show0 hB hA h3.1 z2) (fun z n1 hz => ev_ok hz)
        · unfold N_Y_write st
          rw [if_neg (by decide), if_neg (by decide)]
          dsimp only
          rw [if_neg (by decide), if_neg (by decide), y5 35 (by decide), z1, if_neg (by decide)]
          refine ev_ok ⟨⟨fun _ _ => rfl, ⟨by show 0 ≤ yw m 5 0 0 5 0; rw [yw_eq]; decide, by show yw m 5 0 0 5 0 ≤ 8000; rw [yw_eq]; decide⟩, ?_⟩, rfl⟩
          unfold ys
          show _ = (sg _ 0 _ ++ []).take 8000
          rw [yw_eq]; rfl
      · have e : N_Y_write 1 m = (N_Y_sayRow 2 (yw m 5 0 0)).bind fun m2 => some (m2 5 0, m2) := by
          unfold N_Y_write st
          rw [if_neg (by decide), if_neg (by decide)]
          dsimp only
          rw [if_neg (by decide), if_neg (by decide), y5 35 (by decide), if_pos z1]
          rfl
        rw [e]
        exact row 1578 2 nm ss q mk h3.1 hW hC hR (by decide)
    · by_cases h2 : v = 2
      · subst h2
        obtain ⟨s1, s2, s3, s4⟩ := hSn
        refine both_say (l := ys m 36 37) ?_ ?_ s4
        · rw [← s1]
          exact ev_b2 (cs_showBytes hB (b := 607) (by omega) (by omega)) (fun z n1 hz => ev_ok hz)
        · unfold N_Y_write
          rw [if_neg (by decide), if_neg (by decide)]
          refine ev_st ?_
          rw [if_pos rfl, y5 37 (by decide)]
          exact y_sayRow (f := 36) (by decide) (by decide) s2 (by show _ ≤ (400 : Int); omega) (by omega) s4
      · refine SAY.same (r := -1) ?_ ?_ hB hO
        · unfold N_H_write
          rw [if_neg h0, if_neg h1, if_neg h2]
        · unfold N_Y_write
          by_cases z : v < 0
          · rw [if_pos z]
          · rw [if_neg z, if_pos (by omega)]
end K6
