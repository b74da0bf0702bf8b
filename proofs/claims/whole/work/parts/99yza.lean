/-! BETWEEN CALLS: serialise; top, point, press -/
section YZA
variable {n n' : NS} {m m' : YS} {A B G k v x r δ u N : Int} {o e p : Int → Int} {As Bs : Int → Prop} {X : Option (Int × NS)} {Y : Option (Int × YS)}
theorem s_serialise (h : INV k n m) : CLS k (N_H_serialise v n) (N_Y_serialise v m) := by
  have hc := h.chk
  obtain ⟨As, Bs, A, B, G, h1, h2, ⟨h3, h3', h3''⟩, ⟨h4, h4', h4''⟩, h5⟩ := h
  obtain ⟨⟨κ, N, o, e, p, hNt, hT, hr⟩, hz⟩ := id h1
  have hB := h1.1.bi
  obtain ⟨r, n', m', q1, q2, q3, q4, q5, ⟨x1, x2, x3, x4, x5, x6, x7, x8⟩, q7⟩ := call_serialise (v := v) hB hT.1 hT.2.1 h3'
  have q7' : ∀ f, f ∉ [4, 5] → m' f = m f := q7
  obtain ⟨nI, hnI⟩ : ∃ nI : NS, nI = fun K => if K = 7 ∨ K = 10 ∨ K = 22 then n' K else n K := ⟨_, rfl⟩
  have iA : ∀ K, K = 7 ∨ K = 10 ∨ K = 22 → nI K = n' K := fun K hK => by rw [hnI]; exact if_pos hK
  have iB : ∀ K, ¬ (K = 7 ∨ K = 10 ∨ K = 22) → nI K = n K := fun K hK => by rw [hnI]; exact if_neg hK
  have hFL : FL n nI := ⟨fun K a b c => iB K (by omega), fun w s a b => by rw [iA 7 (by omega)]; exact x2 w s a b, fun s a b => by rw [iA 10 (by omega)]; exact x3 s a b⟩
  have hBI : BI A B nI := hB.cg (iB 4 (by decide)) (by rw [iB 5 (by decide)]; exact ⟨rfl, rfl⟩) (iB 90 (by decide)) (iB 91 (by decide)) (iB 92 (by decide)) (iB 93 (by decide))
  have tI : JT nI m N o e p := by
    have hT' := hT.1
    refine ⟨hT'.1.fl hFL, fun k a b => ?_, ?_, fun k a b => (hT'.2.2.2 k a b).cg (YG.refl _ _) (NG.fl hFL _)⟩
    · rw [hFL.2.1 _ 6 (by decide) (by decide)]; exact hT'.2.1 k a b
    · have g := q4.2.2.1
      unfold JL LSt at *
      rw [iA 10 (by omega), iA 7 (by omega), iA 22 (by omega)]; exact g
  have cI : CI As Bs A B G nI m := ⟨(h1.1.fl tI hT.2.1 hBI hFL).1, by rw [iB 0 (by decide), iB 6 (by decide)]; exact h1.2.1, h1.2.2⟩
  have hFB : FB (fun x => x = 606) nI n' := by
    refine ⟨fun K a b c d e f => ?_, fun b hb => by rw [iB 4 (by decide)]; exact x4 b hb, by rw [iB 90 (by decide)]; exact x5, by rw [iB 90 (by decide), iB 92 (by decide), iB 93 (by decide)]; exact x6, by rw [iB 90 (by decide), iB 4 (by decide), iB 99 (by decide)]; exact x7, by rw [iB 90 (by decide), iB 4 (by decide)]; exact x8⟩
    by_cases z : K = 7 ∨ K = 10 ∨ K = 22
    · exact (iA K z).symm
    · rw [iB K z]; exact x1 K a b c d e f (by omega) (by omega) (by omega)
  have hC : CI As Bs A B G n' m' := cI.rows q3 hFB (fun x hx => .inr hx) (FY.six q7)
  have kk : ∀ K, K ≠ 4 → K ≠ 90 → K ≠ 91 → K ≠ 92 → K ≠ 93 → K ≠ 99 → K ≠ 7 → K ≠ 10 → K ≠ 22 → n' K = n K := x1
  have six := FY.six q7
  have hJI : JTape nI m := by
    unfold JTape bt ys at *
    rw [iB 4 (by decide), iB 99 (by decide)]; exact h3
  refine ⟨r, n', m', q1, q2, As, Bs, A, B, G, hC, by omega, ⟨hJI.fb hBI hFB (fun x hx => by have hx : x = 606 := hx; omega) (by decide) (q7' 0 (by decide)) (q7' 1 (by decide)), q5, h3''.cg (by rw [kk 11 (by decide) (by decide) (by decide) (by decide) (by decide) (by decide) (by decide) (by decide) (by decide)]) (kk 47 (by decide) (by decide) (by decide) (by decide) (by decide) (by decide) (by decide) (by decide) (by decide)) (six 184 (by decide)) (six 185 (by decide))⟩, ⟨?_, h4'.keep h1 hC (k_N_H_serialise KRw.refl _ q1) (kk 3 (by decide) (by decide) (by decide) (by decide) (by decide) (by decide) (by decide) (by decide) (by decide)) (kk 5 (by decide) (by decide) (by decide) (by decide) (by decide) (by decide) (by decide) (by decide) (by decide)) (kk 9 (by decide) (by decide) (by decide) (by decide) (by decide) (by decide) (by decide) (by decide) (by decide)) (kk 41 (by decide) (by decide) (by decide) (by decide) (by decide) (by decide) (by decide) (by decide) (by decide)) (fun f hf => six f (by omega)) (.inr ⟨x3 6 (by decide) (by decide), fun f x y => six f (by omega)⟩) (.inr ⟨by rw [six 126 (by decide)], fun f x y => six f (by omega)⟩), c_N_H_serialise hc _ q1⟩, by rw [six 25 (by decide), q7' 1 (by decide)]; omega⟩
  unfold SHc at *
  rw [kk 9 (by decide) (by decide) (by decide) (by decide) (by decide) (by decide) (by decide) (by decide) (by decide)]; exact h4
theorem s_top (h : INV k n m) : CLS k (N_H_top v u n) (N_Y_top v u m) := h.fl (fun As Bs A B G hC hH hI hK => by
  obtain ⟨r, n', m', q1, q2, q3, q4, q5, q6, q7⟩ := call_top (v := v) (u := u) hC hH hI hK
  exact ⟨r, n', m', q1, q2, q3, q4, q5, q7⟩)
theorem s_point (h : INV k n m) : CLS k (N_H_point v u n) (N_Y_point v u m) := h.fl (fun As Bs A B G hC hH hI hK => by
  obtain ⟨r, n', m', q1, q2, q3, q4, q5, q6, q7⟩ := call_point (v := v) (u := u) hC hH hI hK
  exact ⟨r, n', m', q1, q2, q3, q4, q5, q7⟩)
theorem s_press (h : INV k n m) (hk : k ≤ 64) : CLS k (N_H_press v u n) (N_Y_press v u m) := by
  obtain ⟨As, Bs, A, B, G, h1, h2, ⟨h3, h3', h3''⟩, ⟨h4, h4', h4''⟩, h5⟩ := h
  obtain ⟨r, n', m', q1, q2, q3, q4, q5, q6, q7, n2, m2, z, f⟩ := call_press (v := v) (u := u) h1 h3' h4 h4' h4'' (by omega)
  have hJ2 : JTape n2 m2 := by
    have g := z.2.1 605 (by decide) (by decide) (by decide)
    have e : bt n2 605 = bt n 605 := FS.bt z.2.1 (by decide) (by decide)
    unfold JTape ys at *
    rw [e, g.1, z.2.2.1 0 (by omega), z.2.2.1 1 (by omega)]; exact h3
  have hM2 : JM n2 m2 := h3''.cg (by rw [z.1 11 (by decide)]) (z.1 47 (by decide)) (z.2.2.1 184 (by omega)) (z.2.2.1 185 (by omega))
  refine ⟨r, n', m', q1, q2, As, Bs, A, B, G + 480000, q3, by omega, ⟨hJ2.fc f, q4, hM2.cg (by rw [f.1.1 11 (by decide)]) (f.1.1 47 (by decide)) (f.2.1 184 (by omega)) (f.2.1 185 (by omega))⟩, ⟨q5, q6, q7⟩, ?_⟩
  rw [f.2.1 25 (by omega), f.2.1 1 (by omega), z.2.2.1 25 (by omega), z.2.2.1 1 (by omega)]; omega
end YZA
