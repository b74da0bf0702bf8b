/-! THE START: the tree; all that acts hold -/
section YZR
variable {g : g_S} {f1 f2 f5 f6 : Nat → Int} {n n5 : NS} {m m5 : YS} {z : Int} {K q k f : Nat} {i s b v : Int}
theorem tg_all : ∀ k : Nat, k < 16 → Vn 21 0 k = pk (tgK (k : Int)) := by decide +kernel
theorem ST0.nt (h : ST0 g f1 f2 f5 f6 n5 z n) : NT n := fun k h0 h1 => by
  rw [h.va (q := 7) (K := 21) (i := 0) (by decide) (by decide) (by decide) (by decide) h0, tg_all k.toNat (by omega), show ((k.toNat : Nat) : Int) = k by omega]
theorem ST0.k10 (h : ST0 g f1 f2 f5 f6 n5 z n) (hs : 0 ≤ s) : nOf g 10 0 s = Vn 10 0 s.toNat := h.nv (q := 5) (K := 10) (i := 0) (by decide) (by decide) (by decide) (by decide) hs
theorem ST0.t10 (h : ST0 g f1 f2 f5 f6 n5 z n) : n 10 0 4 = -1 ∧ n 10 0 6 = 1 ∧ n5 10 0 4 = -1 ∧ n5 10 0 6 = 0 ∧ n5 10 0 7 = 0 := by
  have e4 : n5 10 0 4 = -1 := by rw [h.2.1.2.2.2.1 4 (by decide), h.k10 (by decide)]; rfl
  have e6 : n5 10 0 6 = 0 := by rw [h.2.1.2.2.2.1 6 (by decide), h.k10 (by decide)]; rfl
  have e7 : n5 10 0 7 = 0 := by rw [h.2.1.2.2.2.1 7 (by decide), h.k10 (by decide)]; rfl
  refine ⟨?_, ?_, e4, e6, e7⟩
  · rw [h.2.2.1, nY_K (by decide), newC_10, if_neg (by decide), if_neg (by decide), if_neg (by decide)]; exact e4
  · rw [h.2.2.1, nY_K (by decide), newC_10, if_neg (by decide), if_pos rfl, e6]; rfl
theorem st_tree (h : ST0 g f1 f2 f5 f6 n5 z n) (hm : MT0 m m5) : JTr n m 1 (fun _ => 0) (fun _ => 1) (fun _ => 0) := by
  obtain ⟨e1, e2, e3, e4, e5⟩ := h.t10
  obtain ⟨o1, o2, o3, o4, o5⟩ := hm.ot
  obtain ⟨j1, j2, j3⟩ := J_root (m5 := m5) (n5 := n5) (c := nOf g 21 0 0) hm.2.1 hm.2.2.1 h.2.1.2.2.1 h.2.1.2.2.2.2 (by rw [e5, o5]) (by omega) (by omega)
  rw [← hm.2.2.2] at j1
  have k7 : n 7 = newC n5 0 (-1) 0 (nOf g 21 0 0) 7 := by rw [h.2.2.1, nY_K (by decide)]
  have k10 : n 10 = newC n5 0 (-1) 0 (nOf g 21 0 0) 10 := by rw [h.2.2.1, nY_K (by decide)]
  have k22 : n 22 = newC n5 0 (-1) 0 (nOf g 21 0 0) 22 := by rw [h.2.2.1, nY_K (by decide)]
  have hv := newC_v (n := n5) (v := 0) (q := -1) (t := 0) (c := nOf g 21 0 0) (by decide)
  have h21 : nOf g 21 0 0 = pk [100, 105, 118] := by
    rw [h.nv (q := 7) (K := 21) (i := 0) (by decide) (by decide) (by decide) (by decide) (by decide)]
    exact (tg_all 0 (by decide)).trans (by decide)
  have v46 : m 46 0 = 0 := by rw [hm.2.2.2]; unfold rootY; rw [yw_nF (by decide), yw_nF (by decide), yw_nF (by decide), yw_nF (by decide), yw_eq]
  have v48 : m 48 0 = 3 := by rw [hm.2.2.2]; unfold rootY; rw [yw_eq]
  have v47 : nmL m 0 = [100, 105, 118] := by
    unfold nmL
    rw [v48]
    have a0 : m 47 0 = 100 := by rw [hm.2.2.2]; unfold rootY; rw [yw_nF (by decide), yw_ni (by decide), yw_ni (by decide), yw_eq]
    have a1 : m 47 1 = 105 := by rw [hm.2.2.2]; unfold rootY; rw [yw_nF (by decide), yw_ni (by decide), yw_eq]
    have a2 : m 47 2 = 118 := by rw [hm.2.2.2]; unfold rootY; rw [yw_nF (by decide), yw_eq]
    show [m 47 (8 * 0), m 47 (8 * 0 + 1), m 47 (8 * 0 + 1 + 1)] = _
    rw [show (8 : Int) * 0 = 0 by decide, show (0 : Int) + 1 = 1 by decide, show (1 : Int) + 1 = 2 by decide, a0, a1, a2]
  have v56 : m 56 0 = 0 := by rw [hm.2.2.2, rootY_n (by decide)]; unfold newY0; rw [yw_nF (by decide), yw_nF (by decide), yw_nF (by decide), yw_nF (by decide), yw_nF (by decide), yw_eq]
  have z70 : m 70 0 = 0 := hm.ze (by decide)
  have e8 : n 8 0 3 = 0 := h.va (q := 1631) (K := 8) (i := 0) (by decide) (by decide) (by decide) (by decide) (s := 3) (by decide)
  refine ⟨⟨?_, ?_, ?_, fun k x y => ?_⟩, fun k x y => by omega, ⟨by omega, by omega, by omega, fun j x y => by omega⟩, by omega⟩
  · unfold JS lnk at *
    rw [k7, k10]; exact j1
  · unfold JK at *
    rw [k7]; exact j2
  · unfold JL LSt at *
    rw [k7, k10, k22]; exact j3
  · show ND n m 0
    have a0 : n 7 0 0 = 0 := by rw [k7]; exact hv.1
    have a1 : n 7 0 1 = nOf g 21 0 0 := by rw [k7]; exact hv.2.1
    have a12 : n 7 0 12 = 0 := by rw [k7]; unfold newC newC0; rw [if_pos rfl, nw_nK (by decide), nw_nK (by decide), nw_ns (by decide), nw_nK (by decide), nw_ns (by decide), nw_ns (by decide), nw_nK (by decide), nw_eq]
    refine ⟨⟨by rw [a0, v46], by omega, by omega⟩, ⟨by omega, by omega, fun c hc => ?_, by rw [a1, v47, h21]⟩, ⟨by rw [a12, v56], by omega, by omega⟩, fun a x y => by omega, fun w => by omega, fun w => by omega, fun _ => by rw [v46, v47]; decide⟩
    rw [v47] at hc
    simp only [List.mem_cons, List.not_mem_nil, or_false] at hc
    rcases hc with w | w | w <;> (rw [w]; decide)
theorem zsm_0n : ∀ k : Nat, zsm (fun _ => 0) 0 (k : Int) = 0
  | 0 => zsm_nil (Int.le_refl _)
  | k + 1 => by
    have := zsm_0n k
    rw [show ((k + 1 : Nat) : Int) = (k : Int) + 1 by omega, zsm_succ (by omega), this]; rfl
theorem zsm_0 : zsm (fun _ => 0) 0 120 = 0 := zsm_0n 120
theorem st_acts (h : ST0 g f1 f2 f5 f6 n5 z n) (hm : MT0 m m5) : CI As0 Bs0 7000000 4000000 1 n m := by
  obtain ⟨e1, e2, e3, e4, e5⟩ := h.t10
  obtain ⟨o1, o2, o3, o4, o5⟩ := hm.ot
  have zz : ∀ f, f ∈ [35, 155, 156, 157, 166, 167, 174] → m f 0 = 0 := fun f hf => by
    simp only [List.mem_cons, List.not_mem_nil, or_false] at hf
    exact hm.ze (by simp only [List.mem_cons, List.not_mem_nil, or_false, not_or]; omega)
  have z35 := zz 35 (by decide)
  have z155 := zz 155 (by decide)
  have z156 := zz 156 (by decide)
  have z157 := zz 157 (by decide)
  have z166 := zz 166 (by decide)
  have z167 := zz 167 (by decide)
  have z174 := zz 174 (by decide)
  have q5 : n 0 0 5 = 0 := h.k0 (s := 5) (by decide)
  have q6 : n 0 0 6 = -1 := h.k0 (s := 6) (by decide)
  have q7 : n 0 0 7 = 0 := h.k0 (s := 7) (by decide)
  have q8 : n 0 0 8 = 0 := h.k0 (s := 8) (by decide)
  have q10 : n 0 0 10 = 0 := h.k0 (s := 10) (by decide)
  have q17 : n 0 0 17 = -1 := h.k0 (s := 17) (by decide)
  have p8 : n 6 0 8 = 0 := h.k6 (s := 8) (by decide)
  have p16 : n 6 0 16 = 0 := h.k6 (s := 16) (by decide)
  have v45 : ∀ i, 0 ≤ i → i < 20 → n 45 0 i = 611 + i := fun i h0 h1 => by
    rw [h.va (q := 1791) (K := 45) (i := 0) (by decide) (by decide) (by decide) (by decide) h0]
    show (if i.toNat < 20 then 611 + ((i.toNat : Nat) : Int) else -1) = _
    rw [if_pos (by omega)]; omega
  have r := rootY_v (m5 := m5)
  rw [← hm.2.2.2] at r
  obtain ⟨_, _, _, _, _, _, _, _, r9, r10⟩ := r
  have v46 : m 46 0 = 0 := by rw [hm.2.2.2]; unfold rootY; rw [yw_nF (by decide), yw_nF (by decide), yw_nF (by decide), yw_nF (by decide), yw_eq]
  refine ⟨⟨fun j => j, 1, fun _ => 0, fun _ => 1, fun _ => 0, st_net h hm, st_tree h hm, h.nt, ⟨⟨by omega, fun i x y => by rw [v45 i x y]; omega, fun i j x y w w' he => by rw [v45 i x y, v45 j w w'] at he; omega, fun i x y => by omega, fun i j x y w => by omega, by omega⟩, fun i x y => by omega⟩, ⟨⟨by omega, by omega, fun c x y => by omega⟩, by omega⟩, ⟨by omega, by omega, by omega⟩, .inl ⟨q6, o3⟩, by omega, by omega, by omega, by omega, by omega, by omega, by omega⟩, ⟨q17, p16⟩, ?_, fun _ => by rw [v46]; decide⟩
  have e0 : zsm (inN m) 0 120 = zsm (fun _ => 0) 0 120 := zsm_cg (fun j x y => by
    unfold inN
    rw [if_neg (fun w => ?_)]
    have w1 := w.1
    rw [r10] at w1
    by_cases j0 : j = 0
    · rw [j0, v46] at w; omega
    · rw [if_neg j0, hm.2.1 j x y] at w1; omega)
  unfold nin
  rw [e0, zsm_0]; decide
end YZR
