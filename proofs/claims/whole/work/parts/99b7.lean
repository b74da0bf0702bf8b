/-! A NODE COMES: the reference's fresh -/
/-- the first number that is free -/
def frY (m : YS) : Int := sc (fun j => m 45 j ≠ 0) 0 120
section B7
variable {m : YS} {N k : Int} {o e p : Int → Int}
theorem y_fresh20 {a b : Int} : NL_Y_fresh_20 a b 0 m = some (frY m) := by
  unfold NL_Y_fresh_20 frY
  refine ev_scan (fun s h1 h2 => ?_)
  unfold nb_Y_fresh_20
  refine ev_if (fun hlt => ev_ix (by omega) (ev_if (fun hz => ev_ok (.inr ⟨rfl, fun z => z.2 hz⟩)) (fun hz => ev_ck (by omega) (ev_ok (.inl ⟨rfl, hlt, hz⟩))))) (fun hge => ev_ok (.inr ⟨rfl, by omega⟩))
/-- what the new node is, in the reference: v in the node q (or -1), d deep -/
def newY0 (m : YS) (v q d : Int) : YS := yw (yw (yw (yw (yw (yw (yw (yw (yw (yw (yw (yw (yw (yw (yw (yw m 45 v 1) 68 0 (m 68 0 + 1)) 69 0 (m 69 0 + 1)) 55 v (m 69 0 + 1)) 54 v d) 49 v q) 50 v (-1)) 51 v (-1)) 52 v (-1)) 53 v (-1)) 56 v 0) 62 v 0) 63 v 0) 48 v 0) 65 v 0) 66 v 0
def newY (m : YS) (v q d : Int) : YS := if q = -1 then newY0 m v q d else if m 51 q = -1 then yw (yw (yw (newY0 m v q d) 53 v (m 51 q)) 50 q v) 51 q v else yw (yw (yw (newY0 m v q d) 53 v (m 51 q)) 52 (m 51 q) v) 51 q v
set_option maxHeartbeats 4000000 in
theorem y_fresh {q : Int} (hq : q = -1 ∨ (0 ≤ q ∧ q < 120 ∧ m 45 q ≠ 0)) (hd : q ≠ -1 → 0 ≤ m 54 q ∧ m 54 q ≤ 20) (hl : q ≠ -1 → m 51 q = -1 ∨ (0 ≤ m 51 q ∧ m 51 q < 120 ∧ m 45 (m 51 q) ≠ 0)) (hc : 0 ≤ m 68 0 ∧ m 68 0 ≤ 1000 ∧ 0 ≤ m 69 0 ∧ m 69 0 < 2000000000) : ev (N_Y_fresh q m) (fun r => if frY m = 120 ∨ (q ≠ -1 ∧ m 54 q = 20) then r = (-1, m) else r = (frY m, newY m (frY m) q (if q = -1 then 0 else m 54 q + 1))) := by
  have hfr := scx_le (p := fun j => m 45 j ≠ 0) (i := 0) (to := 120) (by omega)
  have hf0 := scx_ge (p := fun j => m 45 j ≠ 0) 0 120
  have hat := scx_at (p := fun j => m 45 j ≠ 0) (i := 0) (to := 120)
  have key : ∀ d, (q = -1 → d = 0) → (q ≠ -1 → d = m 54 q + 1) → ev (nk_Y_fresh_17 q d m) (fun r => if frY m = 120 ∨ (q ≠ -1 ∧ m 54 q = 20) then r = (-1, m) else r = (frY m, newY m (frY m) q (if q = -1 then 0 else m 54 q + 1))) := fun d d1 d2 => by
    have hdd : d = if q = -1 then 0 else m 54 q + 1 := by split; exact d1 ‹_›; exact d2 ‹_›
    unfold nk_Y_fresh_17
    refine ev_eq y_fresh20 ?_
    unfold nk_Y_fresh_41
    rw [← hdd]
    unfold frY at *
    generalize hv : sc (fun j => m 45 j ≠ 0) 0 120 = v at *
    refine ev_if (fun h120 => ev_ok (by rw [if_pos (.inl h120)])) (fun h120 => ev_if (fun hdeep => ev_ok (by rw [if_pos (.inr (by omega))])) (fun hdeep => ?_))
    refine ev_mono (P := fun r => r = (v, newY m v q d)) ?_ (fun r hr => by rw [if_neg (by omega)]; exact hr)
    have hv0 : m 45 v = 0 := by have := hat (by omega); omega
    have hvq : v ≠ q := fun z => by rcases hq with h | h; omega; rw [← z] at h; omega
    have r1 : yw m 45 v 1 68 0 = m 68 0 := by simp [yw_app]
    have r2 : yw (yw m 45 v 1) 68 0 (m 68 0 + 1) 69 0 = m 69 0 := by simp [yw_app]
    have r3 : yw (yw (yw m 45 v 1) 68 0 (m 68 0 + 1)) 69 0 (m 69 0 + 1) 69 0 = m 69 0 + 1 := yw_eq
    refine ev_ix (by omega) (ev_st ?_)
    rw [r1]
    refine ev_ck (by omega) (ev_st ?_)
    rw [r2]
    refine ev_ck (by omega) (ev_st ?_)
    rw [r3]
    refine ev_ix (by omega) (ev_st (ev_ix (by omega) (ev_st (ev_ix (by omega) (ev_st (ev_ix (by omega) (ev_st (ev_ix (by omega) (ev_st (ev_ix (by omega) (ev_st (ev_ix (by omega) (ev_st (ev_ix (by omega) (ev_st (ev_ix (by omega) (ev_st (ev_ix (by omega) (ev_st (ev_ix (by omega) (ev_st (ev_ix (by omega) (ev_st (ev_ix (by omega) (ev_st ?_)))))))))))))))))))))))))
    show ev (if q = -1 then some (v, newY0 m v q d) else _) _
    unfold newY
    by_cases hq1 : q = -1
    · rw [if_pos hq1, if_pos hq1]; exact ev_ok rfl
    · rw [if_neg hq1, if_neg hq1]
      have hq2 : 0 ≤ q ∧ q < 120 ∧ m 45 q ≠ 0 := by rcases hq with h | h; exact absurd h hq1; exact h
      have s1 : newY0 m v q d 51 q = m 51 q := by unfold newY0; simp [yw_app, Ne.symm hvq]
      have s2 : yw (newY0 m v q d) 53 v (m 51 q) 51 q = m 51 q := by rw [yw_nF (by decide)]; exact s1
      show ev (ix q 120 _) _
      refine ev_ix (by omega) ?_
      show ev (ix v 120 (st (yw (newY0 m v q d) 53 v (newY0 m v q d 51 q)) _)) _
      rw [s1]
      refine ev_ix (by omega) (ev_st (ev_ix (by omega) ?_))
      rw [s2]
      have h5 := hl hq1
      by_cases h6 : m 51 q = -1
      · rw [if_pos h6, if_pos h6]
        refine ev_ix (by omega) (ev_st ?_)
        unfold nk_Y_fresh_225
        exact ev_ix (by omega) (ev_st (ev_ok rfl))
      · rw [if_neg h6, if_neg h6]
        refine ev_ix (by omega) (ev_ix (by omega) (ev_st ?_))
        unfold nk_Y_fresh_225
        exact ev_ix (by omega) (ev_st (ev_ok rfl))
  unfold N_Y_fresh
  refine ev_if (fun h => key 0 (fun _ => rfl) (fun z => absurd h z)) (fun h => ?_)
  have h1 := hd h
  rcases hq with hq | hq
  · exact absurd hq h
  · exact ev_ix (by omega) (ev_ck (by omega) (key _ (fun z => absurd z h) (fun _ => rfl)))
end B7
