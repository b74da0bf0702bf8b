/-! COOKIES, in both -/
section J1
variable {n n' : NS} {m m' : YS} {A B k i x : Int} {s w v q mk : List Int} {ss : List (List Int)}
theorem RA.site {r : Int} (hR : RA m r s ss q mk) : sg (m 6) (150 * r + 2) s.length = s := by
  have h2 := hR.2.1
  have e : adL s ss q = [47, 47] ++ (s ++ (pth ss ++ q)) := rfl
  rw [e] at h2
  have h3 := sg_mid (X := [47, 47]) (Y := s) (Z := pth ss ++ q) h2
  have e0 : 150 * r + (([47, 47] : List Int).length : Int) = 150 * r + 2 := by rw [show (([47, 47] : List Int).length : Int) = 2 by decide]
  rw [e0] at h3
  exact h3
/-- a cookie is laid -/
theorem y_dropC {v1 : Int} (h : TRs 25 31 32 33 34 n m (m 30 0)) (hR : RA m 4 s ss q mk) (hW : WFA s ss q mk) (h1 : 0 ≤ v1 ∧ v1 < 12) (h21 : m 21 v1 = (w.length : Int)) (hw : sg (m 20) (16 * v1) w.length = w) (hw8 : okN w) (h22 : m 22 v1 = (v.length : Int)) (hv : sg (m 20) (16 * v1 + 8) v.length = v) (hv8 : okN v) :
    ev (N_Y_dropCookie v1 m) (fun m' => if tbF 31 32 33 m (m 30 0) s w = 20 then m' = m else FY [30, 31, 32, 33, 34] m m' ∧ m' 30 0 = max (m 30 0) (tbF 31 32 33 m (m 30 0) s w + 1) ∧ ∀ n', (n' 25 0 (3 * tbF 31 32 33 m (m 30 0) s w) = pk s ∧ n' 25 0 (3 * tbF 31 32 33 m (m 30 0) s w + 1) = pk w ∧ n' 25 0 (3 * tbF 31 32 33 m (m 30 0) s w + 2) = pk v ∧ ∀ j, j ≠ 3 * tbF 31 32 33 m (m 30 0) s w → j ≠ 3 * tbF 31 32 33 m (m 30 0) s w + 1 → j ≠ 3 * tbF 31 32 33 m (m 30 0) s w + 2 → n' 25 0 j = n 25 0 j) → TRs 25 31 32 33 34 n' m' (m' 30 0)) := by
  have hs := hW.nm
  have hb := tbF_b (D := 31) (S := 32) (M := 33) (m := m) (s := s) (w := w) h.1
  have hk := h.2.1
  have hsite : sg (m 6) 602 s.length = s := hR.site
  have c1 := hs.2.1
  have c2 := hw8.2.1
  have c3 := hv8.2.1
  unfold N_Y_dropCookie
  rw [y_siteEnd hR hW ⟨by decide, by decide⟩]
  simp only [Option.bind_some]
  refine ev_ck (by omega) ?_
  rw [show 2 + (s.length : Int) - 2 = (s.length : Int) by omega, y_drop10 h hR hW h1 h21 hw hw8]
  simp only [Option.bind_some]
  generalize hi : tbF 31 32 33 m (m 30 0) s w = i at *
  unfold nk_Y_dropCookie_102
  by_cases z : i = 20
  · rw [if_pos z]
    refine ev_ok ?_
    rw [if_pos z]
  · rw [if_neg z]
    have hd : ∀ w0, w0 = max (m 30 0) (i + 1) → ev (nk_Y_dropCookie_131 v1 (s.length : Int) i w0 m) (fun m' => if i = 20 then m' = m else FY [30, 31, 32, 33, 34] m m' ∧ m' 30 0 = max (m 30 0) (i + 1) ∧ ∀ n', (n' 25 0 (3 * i) = pk s ∧ n' 25 0 (3 * i + 1) = pk w ∧ n' 25 0 (3 * i + 2) = pk v ∧ ∀ j, j ≠ 3 * i → j ≠ 3 * i + 1 → j ≠ 3 * i + 2 → n' 25 0 j = n 25 0 j) → TRs 25 31 32 33 34 n' m' (m' 30 0)) := fun w0 hw0 => by
      unfold nk_Y_dropCookie_131
      refine ev_st (ev_ix (by omega) (ev_st (ev_ix h1 (ev_ix (by omega) (ev_st (ev_ix h1 (ev_ix (by omega) (ev_st ?_))))))))
      generalize e1 : yw m 30 0 w0 = m1
      have f1 : FY [30] m m1 := fun g hg => by rw [← e1]; exact yw_nF (by simp only [List.mem_cons, List.not_mem_nil, or_false] at hg; exact hg)
      generalize e2 : yw m1 32 i (s.length : Int) = m2
      have f2 : FY [32] m1 m2 := fun g hg => by rw [← e2]; exact yw_nF (by simp only [List.mem_cons, List.not_mem_nil, or_false] at hg; exact hg)
      generalize e3 : yw m2 33 i (m2 21 v1) = m3
      have f3 : FY [33] m2 m3 := fun g hg => by rw [← e3]; exact yw_nF (by simp only [List.mem_cons, List.not_mem_nil, or_false] at hg; exact hg)
      generalize e4 : yw m3 34 i (m3 22 v1) = m4
      have f4 : FY [34] m3 m4 := fun g hg => by rw [← e4]; exact yw_nF (by simp only [List.mem_cons, List.not_mem_nil, or_false] at hg; exact hg)
      have g4 : ∀ g, g ≠ 30 → g ≠ 32 → g ≠ 33 → g ≠ 34 → m4 g = m g := fun g a b c d => by
        rw [f4 g (by simp only [List.mem_cons, List.not_mem_nil, or_false]; exact d), f3 g (by simp only [List.mem_cons, List.not_mem_nil, or_false]; exact c), f2 g (by simp only [List.mem_cons, List.not_mem_nil, or_false]; exact b), f1 g (by simp only [List.mem_cons, List.not_mem_nil, or_false]; exact a)]
      refine ev_bind (P := fun m5 => FY [31] m4 m5 ∧ (∀ j, 0 ≤ j → j < (s.length : Int) → m5 31 (24 * i + j) = m4 6 (602 + j)) ∧ ∀ j, ¬ (24 * i ≤ j ∧ j < 24 * i + (s.length : Int)) → m5 31 j = m4 31 j) ?_ (fun m5 h5 => ?_)
      · unfold NL_Y_dropCookie_168
        refine y_copy (F := 31) (G := 6) (K := (s.length : Int)) (a := 24 * i) (b := 602) (by decide) (by omega) (fun k m9 h9 k0 k1 => ?_) (fun m9 h9 => ?_)
        · show nb_Y_dropCookie_168 v1 (s.length : Int) i k m9 = _
          unfold nb_Y_dropCookie_168 ck ix st
          dsimp only
          rw [if_pos k1, if_pos (by omega), if_pos (by omega), if_pos (by omega), if_pos (by omega), if_pos (by omega), if_pos (by omega)]
        · show nb_Y_dropCookie_168 v1 (s.length : Int) i (s.length : Int) m9 = _
          unfold nb_Y_dropCookie_168
          rw [if_neg (by omega)]
      obtain ⟨i1, i2, i3⟩ := h5
      refine ev_bind (P := fun m6 => FY [31] m5 m6 ∧ (∀ j, 0 ≤ j → j < 8 → m6 31 (24 * i + 8 + j) = m 20 (16 * v1 + j) ∧ m6 31 (24 * i + 16 + j) = m 20 (16 * v1 + 8 + j)) ∧ ∀ j, ¬ (24 * i + 8 ≤ j ∧ j < 24 * i + 24) → m6 31 j = m5 31 j) ?_ (fun m6 h6 => ev_ok ?_)
      · unfold NL_Y_dropCookie_206
        have g20 : m5 20 = m 20 := by rw [i1 20 (by decide), g4 20 (by decide) (by decide) (by decide) (by decide)]
        refine ev_it (fun t : Int × YS => (0 ≤ t.1 ∧ t.1 ≤ 8) ∧ FY [31] m5 t.2 ∧ (∀ j, 0 ≤ j → j < t.1 → t.2 31 (24 * i + 8 + j) = m 20 (16 * v1 + j) ∧ t.2 31 (24 * i + 16 + j) = m 20 (16 * v1 + 8 + j)) ∧ ∀ j, ¬ (24 * i + 8 ≤ j ∧ j < 24 * i + 24) → t.2 31 j = m5 31 j) (fun t => 8 - t.1) (fun t ht => ?_) ⟨by show (0 : Int) ≤ 0 ∧ (0 : Int) ≤ 8; decide, fun _ _ => rfl, fun j a b => by have b : j < 0 := b; omega, fun _ _ => rfl⟩
        obtain ⟨t, m9⟩ := t
        obtain ⟨t1, t2, t3, t4⟩ := ht
        simp only at t1 t2 t3 t4
        show ev (nb_Y_dropCookie_206 v1 i t m9) _
        unfold nb_Y_dropCookie_206
        refine ev_if (fun hlt => ?_) (fun hge => ev_inr ⟨t2, fun j a b => t3 j a (by omega), t4⟩)
        refine ev_ck (by omega) (ev_ck (by omega) (ev_ck (by omega) (ev_ck (by omega) (ev_ck (by omega) (ev_ix (by omega) (ev_ix (by omega) (ev_st (ev_ck (by omega) (ev_ck (by omega) (ev_ck (by omega) (ev_ck (by omega) (ev_ck (by omega) (ev_ck (by omega) (ev_ix (by omega) (ev_ix (by omega) (ev_st (ev_ck (by omega) ?_)))))))))))))))))
        rw [yw_nF (show (20 : Nat) ≠ 31 by decide), t2 20 (by decide), g20]
        generalize hx : yw (yw m9 31 (24 * i + 8 + t) (m 20 (16 * v1 + t))) 31 (24 * i + 16 + t) (m 20 (16 * v1 + 8 + t)) = mx
        have ex : ∀ j, mx 31 j = if j = 24 * i + 16 + t then m 20 (16 * v1 + 8 + t) else if j = 24 * i + 8 + t then m 20 (16 * v1 + t) else m9 31 j := fun j => by
          rw [← hx]
          split
          · next y => rw [y, yw_eq]
          · next y =>
            rw [yw_ni y]
            split
            · next y2 => rw [y2, yw_eq]
            · next y2 => rw [yw_ni y2]
        refine ev_inl ⟨⟨by show 0 ≤ t + 1 ∧ t + 1 ≤ 8; omega, fun g hg => ?_, fun j a b => ?_, fun j hj => ?_⟩, by show 8 - (t + 1) < 8 - t; omega, by show 0 ≤ 8 - t; omega⟩
        · show mx g = m5 g
          have hg' : g ≠ 31 := by simp only [List.mem_cons, List.not_mem_nil, or_false] at hg; exact hg
          rw [← hx, yw_nF hg', yw_nF hg']; exact t2 g hg
        · have b : j < t + 1 := b
          show mx 31 (24 * i + 8 + j) = m 20 (16 * v1 + j) ∧ mx 31 (24 * i + 16 + j) = m 20 (16 * v1 + 8 + j)
          rw [ex, ex]
          by_cases y : j = t
          · subst y
            rw [if_neg (by omega), if_pos rfl, if_pos rfl]; exact ⟨rfl, rfl⟩
          · rw [if_neg (by omega), if_neg (by omega), if_neg (by omega), if_neg (by omega)]
            exact t3 j a (by omega)
        · show mx 31 j = m5 31 j
          rw [ex, if_neg (by omega), if_neg (by omega)]; exact t4 j hj
      · rw [if_neg z]
        obtain ⟨j1, j2, j3⟩ := h6
        have k6 : ∀ g, g ≠ 31 → m6 g = m4 g := fun g hg => by rw [j1 g (by simp only [List.mem_cons, List.not_mem_nil, or_false]; exact hg), i1 g (by simp only [List.mem_cons, List.not_mem_nil, or_false]; exact hg)]
        have e30 : m6 30 0 = w0 := by rw [k6 30 (by decide), f4 30 (by decide), f3 30 (by decide), f2 30 (by decide), ← e1, yw_eq]
        have s32 : ∀ c, m6 32 c = if c = i then (s.length : Int) else m 32 c := fun c => by
          rw [k6 32 (by decide), f4 32 (by decide), f3 32 (by decide), ← e2]
          split
          · next y => rw [y, yw_eq]
          · next y => rw [yw_ni y, f1 32 (by decide)]
        have s33 : ∀ c, m6 33 c = if c = i then (w.length : Int) else m 33 c := fun c => by
          rw [k6 33 (by decide), f4 33 (by decide), ← e3]
          split
          · next y => rw [y, yw_eq, f2 21 (by decide), f1 21 (by decide), h21]
          · next y => rw [yw_ni y, f2 33 (by decide), f1 33 (by decide)]
        have s34 : ∀ c, m6 34 c = if c = i then (v.length : Int) else m 34 c := fun c => by
          rw [k6 34 (by decide), ← e4]
          split
          · next y => rw [y, yw_eq, f3 22 (by decide), f2 22 (by decide), f1 22 (by decide), h22]
          · next y => rw [yw_ni y, f3 34 (by decide), f2 34 (by decide), f1 34 (by decide)]
        refine ⟨fun g hg => ?_, by rw [e30]; exact hw0, fun n' hn' => ?_⟩
        · simp only [List.mem_cons, List.not_mem_nil, or_false, not_or] at hg
          rw [k6 g hg.2.1, g4 g hg.1 hg.2.2.1 hg.2.2.2.1 hg.2.2.2.2]
        · rw [e30]
          refine h.put (i := i) (s := s) (w := w) (v := v) ⟨hb.1, hb.2, by omega⟩ hw0 ⟨⟨by rw [s32, if_pos rfl]; omega, by rw [s33, if_pos rfl]; omega, by rw [s34, if_pos rfl]; omega⟩, ?_, ?_, ?_⟩ hs hw8 hv8 (fun c hc => ⟨by rw [s32, if_neg hc], by rw [s33, if_neg hc], by rw [s34, if_neg hc]⟩) (fun j hj => ?_) hn'
          · unfold tbS
            rw [s32, if_pos rfl, Int.toNat_natCast]
            refine Eq.trans (sg_cg (g := m6 31) (h := m 6) _ _ 602 (fun y hy => ?_)) hsite
            rw [j3 _ (by omega), i2 y (by omega) (by omega), g4 6 (by decide) (by decide) (by decide) (by decide)]
          · unfold tbM
            rw [s33, if_pos rfl, Int.toNat_natCast]
            refine Eq.trans (sg_cg (g := m6 31) (h := m 20) _ _ (16 * v1) (fun y hy => ?_)) hw
            exact (j2 y (by omega) (by omega)).1
          · unfold tbV
            rw [s34, if_pos rfl, Int.toNat_natCast]
            refine Eq.trans (sg_cg (g := m6 31) (h := m 20) _ _ (16 * v1 + 8) (fun y hy => ?_)) hv
            exact (j2 y (by omega) (by omega)).2
          · rw [j3 j (by omega), i3 j (by omega), g4 31 (by decide) (by decide) (by decide) (by decide)]
    by_cases y : i = m 30 0
    · rw [if_pos y]
      exact ev_ck (by omega) (hd _ (by omega))
    · rw [if_neg y]
      exact hd _ (by omega)
end J1
