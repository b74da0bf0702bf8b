/-! A NODE COMES: the class's grow -/
def frC (n : NS) : Int := sc (fun j => n 7 j 0 ≠ -1) 0 119
def newC0 (n : NS) (v q t c : Int) : NS := nw (nw (nw (nw (nw (nw (nw (nw (nw (nw (nw (nw (nw (nw (nw (nw n 7 v 0 t) 7 v 1 c) 7 v 2 q) 7 v 3 (-1)) 7 v 4 (-1)) 7 v 5 (-1)) 7 v 6 0) 7 v 7 0) 7 v 12 0) 4 (5 * v) 2 0) 7 v 15 0) 7 v 16 0) 10 0 7 (n 10 0 7 + 1)) 7 v 10 (n 10 0 7 + 1)) 10 0 5 (n 10 0 5 + 1)) 10 0 6 (n 10 0 6 + 1)
def newC (n : NS) (v q t c : Int) : NS := if q = -1 then newC0 n v q t c else if n 7 q 4 = -1 then nw (nw (nw (nw (newC0 n v q t c) 7 v 7 (n 7 q 7 + 1)) 7 q 3 v) 7 q 4 v) 7 q 6 (n 7 q 6 + 1) else nw (nw (nw (nw (newC0 n v q t c) 7 v 7 (n 7 q 7 + 1)) 7 (n 7 q 4) 5 v) 7 q 4 v) 7 q 6 (n 7 q 6 + 1)
theorem BI.cg {A B : Int} {n n' : NS} (h : BI A B n) (h4 : n' 4 = n 4) (h5 : n' 5 0 5 = n 5 0 5 ∧ n' 5 0 9 = n 5 0 9) (h90 : n' 90 = n 90) (h91 : n' 91 = n 91) (h92 : n' 92 = n 92) (h93 : n' 93 = n 93) : BI A B n' := by
  have e1 : capS n' = capS n := sumF_cg 632 (fun j _ _ => by unfold cap; rw [h4, h93])
  have e2 : capT n' = capT n := by unfold capT; rw [e1, h93, h5.1, h5.2]
  refine ⟨fun b h0 h1 => ?_, fun b b' a1 a2 a3 a4 he => ?_, ?_, ?_, ?_, h.2.2.2.2.2⟩
  · have := h.1 b h0 h1
    unfold B1 at this ⊢
    rw [h4, h90, h92, h93]; exact this
  · rw [h4] at he; exact h.2.1 b b' a1 a2 a3 a4 he
  · rw [h90, h91, e2]; exact h.2.2.1
  · rw [h5.1, h5.2, h90]; exact h.2.2.2.1
  · rw [h5.1, h5.2, h93]; exact h.2.2.2.2.1
section B8
variable {n : NS} {v q t c : Int}
theorem c_grow3 {a b d : Int} : NL_Tree_grow_3 a b d 0 n = some (frC n) := by
  unfold NL_Tree_grow_3 frC
  refine ev_scan (fun s h1 h2 => ?_)
  unfold nb_Tree_grow_3
  refine ev_if (fun hlt => ev_ix (by omega) (ev_if (fun hz => ev_ok (.inr ⟨rfl, fun z => z.2 hz⟩)) (fun hz => ev_ck (by omega) (ev_ok (.inl ⟨rfl, hlt, hz⟩))))) (fun hge => ev_ok (.inr ⟨rfl, by omega⟩))
set_option maxHeartbeats 4000000 in
theorem c_grow (hq : q = -1 ∨ (0 ≤ q ∧ q < 120 ∧ n 7 q 0 ≠ -1)) (hf : n 7 (frC n) 0 = -1) (hd : q ≠ -1 → 0 ≤ n 7 q 7 ∧ n 7 q 7 < 20) (hl : q ≠ -1 → n 7 q 4 = -1 ∨ (0 ≤ n 7 q 4 ∧ n 7 q 4 < 120)) (hk : q ≠ -1 → 0 ≤ n 7 q 6 ∧ n 7 q 6 ≤ 1000) (hc : 0 ≤ n 10 0 5 ∧ n 10 0 5 ≤ 1000 ∧ 0 ≤ n 10 0 6 ∧ n 10 0 6 < 2000000000 ∧ 0 ≤ n 10 0 7 ∧ n 10 0 7 < 2000000000) : N_Tree_grow q t c n = some (frC n, newC n (frC n) q t c) := by
  have hfr := scx_le (p := fun j => n 7 j 0 ≠ -1) (i := 0) (to := 119) (by omega)
  have hf0 := scx_ge (p := fun j => n 7 j 0 ≠ -1) 0 119
  apply eq_of_ev
  unfold N_Tree_grow
  refine ev_eq c_grow3 ?_
  unfold frC at *
  generalize sc (fun j => n 7 j 0 ≠ -1) 0 119 = v at *
  have hvq : v ≠ q := fun z => by rcases hq with h | h; omega; rw [← z] at h; omega
  unfold nk_Tree_grow_30
  refine ev_ix (by omega) (ev_st (ev_st (ev_st (ev_st (ev_st (ev_st (ev_st (ev_st (ev_st ?_)))))))))
  unfold N_Bytes_clear
  refine ev_eq (v := nw (nw (nw (nw (nw (nw (nw (nw (nw (nw n 7 v 0 t) 7 v 1 c) 7 v 2 q) 7 v 3 (-1)) 7 v 4 (-1)) 7 v 5 (-1)) 7 v 6 0) 7 v 7 0) 7 v 12 0) 4 (5 * v) 2 0) rfl (ev_st (ev_st ?_))
  generalize hn : nw (nw (nw (nw (nw (nw (nw (nw (nw (nw (nw (nw n 7 v 0 t) 7 v 1 c) 7 v 2 q) 7 v 3 (-1)) 7 v 4 (-1)) 7 v 5 (-1)) 7 v 6 0) 7 v 7 0) 7 v 12 0) 4 (5 * v) 2 0) 7 v 15 0) 7 v 16 0 = n1
  have r7 : n1 10 = n 10 := by
    rw [← hn]
    repeat rw [nw_nK (by decide)]
  rw [r7]
  refine ev_ckL (by omega) (ev_st ?_)
  rw [show nw n1 10 0 7 (n 10 0 7 + 1) 10 0 7 = n 10 0 7 + 1 from nw_eq]
  refine ev_st ?_
  rw [show nw (nw n1 10 0 7 (n 10 0 7 + 1)) 7 v 10 (n 10 0 7 + 1) 10 0 5 = n 10 0 5 from by rw [nw_nK (by decide), nw_ns (by decide), r7]]
  refine ev_ck (by omega) (ev_st ?_)
  rw [show nw (nw (nw n1 10 0 7 (n 10 0 7 + 1)) 7 v 10 (n 10 0 7 + 1)) 10 0 5 (n 10 0 5 + 1) 10 0 6 = n 10 0 6 from by rw [nw_ns (by decide), nw_nK (by decide), nw_ns (by decide), r7]]
  refine ev_ck (by omega) (ev_st ?_)
  rw [← hn]
  show ev (if q = -1 then some (v, newC0 n v q t c) else _) _
  unfold newC
  by_cases hq1 : q = -1
  · rw [if_pos hq1, if_pos hq1]; exact ev_ok rfl
  · rw [if_neg hq1, if_neg hq1]
    have hq2 : 0 ≤ q ∧ q < 120 ∧ n 7 q 0 ≠ -1 := by rcases hq with h | h; exact absurd h hq1; exact h
    have hd1 := hd hq1
    have hk1 := hk hq1
    have hl1 := hl hq1
    have s7 : ∀ s, newC0 n v q t c 7 q s = n 7 q s := fun s => by unfold newC0; simp [nw_app, Ne.symm hvq]
    have s8 : ∀ s, nw (newC0 n v q t c) 7 v 7 (n 7 q 7 + 1) 7 q s = n 7 q s := fun s => by rw [nw_ni (Ne.symm hvq)]; exact s7 s
    show ev (ix q 120 (ck (newC0 n v q t c 7 q 7 + 1) (st (nw (newC0 n v q t c) 7 v 7 (newC0 n v q t c 7 q 7 + 1)) _))) _
    rw [s7]
    refine ev_ix (by omega) (ev_ck (by omega) (ev_st ?_))
    rw [s8]
    by_cases h6 : n 7 q 4 = -1
    · rw [if_pos h6, if_pos h6]
      refine ev_st ?_
      unfold nk_Tree_grow_214
      refine ev_st ?_
      rw [show nw (nw (nw (newC0 n v q t c) 7 v 7 (n 7 q 7 + 1)) 7 q 3 v) 7 q 4 v 7 q 6 = n 7 q 6 from by rw [nw_ns (by decide), nw_ns (by decide)]; exact s8 6]
      exact ev_ck (by omega) (ev_st (ev_ok rfl))
    · rw [if_neg h6, if_neg h6]
      refine ev_ix (by omega) (ev_st ?_)
      unfold nk_Tree_grow_214
      refine ev_st ?_
      rw [show nw (nw (nw (newC0 n v q t c) 7 v 7 (n 7 q 7 + 1)) 7 (n 7 q 4) 5 v) 7 q 4 v 7 q 6 = n 7 q 6 from by rw [nw_ns (by decide), nw_ns (by decide)]; exact s8 6]
      exact ev_ck (by omega) (ev_st (ev_ok rfl))
end B8
