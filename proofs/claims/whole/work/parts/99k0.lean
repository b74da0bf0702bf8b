/-! ASKING, in both -/
def JAs (n : NS) (m : YS) : Prop := (m 35 0 = 0 ∧ n 99 1578 5 = 0) ∨ (0 < m 35 0 ∧ AR n m 1578 2)
/-- what fetching leaves as it was -/
def FEn (As Bs : Int → Prop) (n n' : NS) : Prop := FQ As Bs (fun x => x = 1578 ∨ x = 1586) n n' ∧ (∀ K, K ∉ [4, 6, 24, 25, 90, 91, 92, 93, 99] → n' K = n K) ∧ (∀ s, s ≠ 4 → s ≠ 6 → s ≠ 9 → n' 6 0 s = n 6 0 s) ∧ FS (fun x => x = 607) n n'
def FEy (m m' : YS) (k : Int) : Prop := FY [6, 7, 8, 17, 18, 23, 24, 26, 27, 28, 29, 30, 31, 32, 33, 34, 35, 36, 37, 44] m m' ∧ (∀ r, r ≠ 2 → r ≠ 4 → ¬ (18 ≤ r ∧ r < 26) → ¬ (58 ≤ r ∧ r < 66) → RwE m m' r) ∧ m 35 0 ≤ m' 35 0 ∧ m' 35 0 ≤ m 35 0 + k
section K0
variable {n n' n'' : NS} {m m' m'' : YS} {A B a i v2 k l : Int} {nm q mk : List Int} {ss : List (List Int)} {As Bs W S : Int → Prop} {κ : Int → Int}
theorem FEn.refl (As Bs : Int → Prop) (n : NS) : FEn As Bs n n := ⟨FQ.refl _ _ _ n, fun _ _ => rfl, fun _ _ _ _ => rfl, FS.refl _ n⟩
theorem FEn.trans (h : FEn As Bs n n') (h' : FEn As Bs n' n'') : FEn As Bs n n'' := ⟨h.1.trans h'.1, fun K c => (h'.2.1 K c).trans (h.2.1 K c), fun s a b c => (h'.2.2.1 s a b c).trans (h.2.2.1 s a b c), h.2.2.2.trans h'.2.2.2⟩
theorem FEy.refl (m : YS) (hk : 0 ≤ k) : FEy m m k := ⟨fun _ _ => rfl, fun r _ _ _ _ => RwE.refl m r, Int.le_refl _, by omega⟩
theorem FEy.trans (h : FEy m m' k) (h' : FEy m' m'' l) : FEy m m'' (k + l) := ⟨h.1.trans h'.1, fun r a b c d => (h.2.1 r a b c d).trans (h'.2.1 r a b c d), by have := h.2.2; have := h'.2.2; omega, by have := h.2.2; have := h'.2.2; omega⟩
theorem JNb.req (h : JNb κ As Bs n m) : JNb κ As Bs (nw n 6 0 9 (n 6 0 9 + 1)) (yw m 35 0 (m 35 0 + 1)) := by
  obtain ⟨c1, c2, c3, c4, c5, c6, c7, c8, c9⟩ := h
  have fq : FQ As Bs (fun _ => False) n (nw n 6 0 9 (n 6 0 9 + 1)) := FQ.ks (fun K hK => nw_nK (by omega))
  have hm : ∀ f, f ≠ 35 → yw m 35 0 (m 35 0 + 1) f = m f := fun f hf => yw_nF hf
  refine ⟨c1.fq fq, c2.fq fq, c3, c4.cg fq (fun _ h => h.elim) c2 (nw_ns (by decide)) (nw_nK (by decide)) (fun f hf => hm f (by omega)) (fun k _ _ => by rw [hm 18 (by decide), hm 23 (by decide), hm 24 (by decide)]; exact ⟨rfl, rfl, rfl⟩) (fun j _ _ => by rw [hm 17 (by decide)]) (fun r _ => RwE.of (hm 6 (by decide)) (hm 7 (by decide)) (hm 8 (by decide))), c5.cg fq (FQ7.ks (nw_nK (by decide))) (fun _ h => h.elim) c2 (nw_ns (by decide)) (nw_nK (by decide)) (fun f hf => hm f (by omega)) (fun r _ => RwE.of (hm 6 (by decide)) (hm 7 (by decide)) (hm 8 (by decide))), c6.cg fq c2, ⟨?_, ?_⟩, ?_, ?_⟩
  · rw [hm 30 (by decide)]; exact c7.1.cg (by rw [nw_nK (by decide)]) (hm 31 (by decide)) (hm 32 (by decide)) (hm 33 (by decide)) (hm 34 (by decide))
  · rw [nw_ns (by decide), hm 30 (by decide)]; exact c7.2
  · rw [nw_ns (by decide), hm 25 (by decide)]; exact c8
  · rw [nw_eq, yw_eq, hm 27 (by decide)]; omega
/-- the cookies are others -/
theorem JNb.ck (h : JNb κ As Bs n m) (hK : ∀ K, K ≠ 25 → K ≠ 6 → n' K = n K) (h6 : ∀ s, s ≠ 6 → n' 6 0 s = n 6 0 s) (hm : FY [30, 31, 32, 33, 34] m m') (hT : TRs 25 31 32 33 34 n' m' (m' 30 0)) (hc : n' 6 0 6 = m' 30 0) : JNb κ As Bs n' m' := by
  obtain ⟨c1, c2, c3, c4, c5, c6, c7, c8, c9⟩ := h
  have fq : FQ As Bs (fun _ => False) n n' := FQ.ks (fun K hK' => hK K (by omega) (by omega))
  have hm' : ∀ f, (f < 30 ∨ 34 < f) → m' f = m f := fun f hf => hm f (by simp only [List.mem_cons, List.not_mem_nil, or_false, not_or]; omega)
  refine ⟨c1.fq fq, c2.fq fq, c3, c4.cg fq (fun _ h => h.elim) c2 (h6 2 (by decide)) (hK 23 (by decide) (by decide)) (fun f hf => hm' f (by omega)) (fun k _ _ => by rw [hm' 18 (by decide), hm' 23 (by decide), hm' 24 (by decide)]; exact ⟨rfl, rfl, rfl⟩) (fun j _ _ => by rw [hm' 17 (by decide)]) (fun r _ => RwE.of (hm' 6 (by decide)) (hm' 7 (by decide)) (hm' 8 (by decide))), c5.cg fq (FQ7.ks (hK 99 (by decide) (by decide))) (fun _ h => h.elim) c2 (h6 4 (by decide)) (hK 24 (by decide) (by decide)) (fun f hf => hm' f (by omega)) (fun r _ => RwE.of (hm' 6 (by decide)) (hm' 7 (by decide)) (hm' 8 (by decide))), c6.cg fq c2, ⟨hT, hc⟩, ?_, ?_⟩
  · rw [h6 12 (by decide), hm' 25 (by decide)]; exact c8
  · rw [h6 9 (by decide), hm' 35 (by decide), hm' 27 (by decide)]; exact c9
theorem ask169 (h : JNb κ As Bs n m) (hB : BI A B n) (hi : 0 ≤ i ∧ i < m 16 0) (h44 : m 44 0 = i) (hC : CA n 1586 nm ss q []) (hW : WFA nm ss q []) (hR : RA m 4 nm ss q []) (hrow : rowL m (6 + i) = adL nm ss q) (h35 : m 35 0 < 1000000000) (h27 : m 27 0 < m 35 0) :
    ∃ n' m' κ', nk_Net_ask_169 (n 23 0 i) n = some (n 23 0 i, n') ∧ nk_Y_request_81 m = some m' ∧ BI A B n' ∧ JNb κ' As Bs n' m' ∧ GOT As Bs n' m' (n 23 0 i) i ∧ CA n' 1586 nm ss q [] ∧ RA m' 4 nm ss q [] ∧ FEn As Bs n n' ∧ FEy m m' 0 ∧ (n' 99 1578 = n 99 1578 ∧ n' 99 (n 99 1578 0) = n 99 (n 99 1578 0)) ∧ RwE m m' 2 ∧ m' 44 0 = i ∧ m' 35 = m 35 ∧ m' 36 = m 36 ∧ m' 37 = m 37 ∧ bt n' 607 = bt n 607 := by
  have hh := h
  obtain ⟨c1, c2, c3, c4, c5, c6, c7, c8, c9⟩ := hh
  obtain ⟨d1, d2⟩ := c4.2 i hi.1 hi.2
  have hi12 : i < 12 := by have := c4.1; omega
  obtain ⟨nm1, ss1, qq1, w1, e1, r1⟩ := d1.2.1.2.2
  have he : adL nm1 ss1 qq1 = adL nm ss q := by rw [← r1.rowL]; exact hrow
  unfold nk_Net_ask_169 nk_Y_request_81 ty ix
  rw [if_pos d1.1.2.2, h44, d2.1.1, if_pos (show 0 ≤ i ∧ i < 12 from ⟨hi.1, hi12⟩)]
  by_cases hz : 0 < m 19 i
  · rw [if_pos hz, if_pos hz]
    obtain ⟨n', m', κ', v2, w0, a1, a2, a3, a4, ⟨a5, a6, a7, a8⟩, a9, a10⟩ := keep_both (nm := nm1) (ss := ss1) (q := qq1) c5 c1 c2 d1 ⟨hi.1, hi12⟩ d2.1 e1 w1 (hR.swap he) c8 (by omega)
    obtain ⟨y1, y2, y3, y4, y5, y6⟩ := a10
    have hrw : ∀ r, r ≠ 18 + v2 → r ≠ 58 + v2 → RwE m m' r := y6.2.2
    have ne : ∀ x, As x → x ≠ n 23 0 i ∧ n 99 x 0 ≠ n 23 0 i := fun x hx => by
      obtain ⟨⟨b1, b2, b3, b4, b5⟩, _⟩ := c1 x hx
      exact ⟨fun z => by rw [z, d1.1.2.2] at b2; exact absurd b2 (by decide), fun z => by rw [z, d1.1.2.2] at b4; exact absurd b4 (by decide)⟩
    have hJA : JAns As Bs n' m' := c4.cg a4 (fun _ h => h.elim) c2 (a6 2 (by decide)) (a5 23 (by decide) (by decide) (by decide)) (fun f hf => y1 f (by simp only [List.mem_cons, List.not_mem_nil, or_false, not_or]; omega)) (fun k x y => y4.2.2.2 k (by omega)) (fun j x y => y5.2 j (by omega)) (fun r hr => hrw r (by omega) (by omega))
    have hB' : BI A B n' := hB.cg (a5 4 (by decide) (by decide) (by decide)) (by rw [a5 5 (by decide) (by decide) (by decide)]; exact ⟨rfl, rfl⟩) (a5 90 (by decide) (by decide) (by decide)) (a5 91 (by decide) (by decide) (by decide)) (a5 92 (by decide) (by decide) (by decide)) (a5 93 (by decide) (by decide) (by decide))
    have fs : FS (fun x => x = 607) n n' := fun b x y _ => by
      rw [a5 4 (by decide) (by decide) (by decide)]
      refine ⟨rfl, a7 _ (fun z => ?_)⟩
      have := (hB.1 b x y).2.2.1
      rw [z, d1.1.2.2] at this; exact absurd this (by decide)
    refine ⟨n', m', κ', by rw [a1]; rfl, by rw [a2]; rfl, hB', ⟨c1.fq a4, c2.fq a4, c3, hJA, a3, c6.cg a4 c2, ⟨?_, ?_⟩, ?_, ?_⟩, .inr ⟨hi.1, by omega, ?_⟩, hC.fq a4 c3.2.2.2 (fun h => h.elim), hR.rw hW (hrw 4 (by omega) (by omega)), ⟨a4.wid (fun _ h => h.elim), fun K c => ?_, fun s x _ _ => a6 s x, fs⟩, ⟨y1.sub (by decide), fun r _ _ x y => hrw r (by omega) (by omega), by rw [y1 35 (by decide)]; exact Int.le_refl _, by rw [y1 35 (by decide)]; omega⟩, ⟨a7 _ (ne 1578 c3.1).1, a7 _ (ne 1578 c3.1).2⟩, hrw 2 (by omega) (by omega), by rw [y1 44 (by decide)]; exact h44, y1 35 (by decide), y1 36 (by decide), y1 37 (by decide), ?_⟩
    · rw [y1 30 (by decide)]; exact c7.1.cg (by rw [a5 25 (by decide) (by decide) (by decide)]) (y1 31 (by decide)) (y1 32 (by decide)) (y1 33 (by decide)) (y1 34 (by decide))
    · rw [a6 6 (by decide), y1 30 (by decide)]; exact c7.2
    · rw [a6 12 (by decide), y1 25 (by decide)]; exact c8
    · rw [a6 9 (by decide), y1 35 (by decide), y2.2]; exact ⟨c9.1, by omega⟩
    · have := (hJA.2 i hi.1 (by rw [y1 16 (by decide)]; exact hi.2)).1
      rw [a5 23 (by decide) (by decide) (by decide)] at this; exact this
    · simp only [List.mem_cons, List.not_mem_nil, or_false, not_or] at c
      exact a5 K (by omega) (by omega) (by omega)
    · have h607 := (hB.1 607 (by decide) (by decide)).2.2.1
      unfold bt
      rw [a5 4 (by decide) (by decide) (by decide), a7 _ (fun z => by rw [z, d1.1.2.2] at h607; exact absurd h607 (by decide))]
  · rw [if_neg hz, if_neg hz]
    exact ⟨n, m, κ, rfl, rfl, hB, h, .inr ⟨hi.1, by omega, d1⟩, hC, hR, FEn.refl As Bs n, FEy.refl m (Int.le_refl _), ⟨rfl, rfl⟩, RwE.refl m 2, h44, rfl, rfl, rfl, rfl⟩
/-- an ADDRESS takes another's place, in both -/
theorem request_both (h : JNb κ As Bs n m) (hB : BI A B n) (hC : CA n 1586 nm ss q []) (hW : WFA nm ss q []) (hR : RA m 4 nm ss q []) (h44 : m 44 0 = -1) (h35 : m 35 0 < 900000000) (hno : NL_Net_ask_2 0 n = some (.inr ())) :
    ∃ a n' m' κ', N_Net_ask n = some (a, n') ∧ N_Y_request m = some m' ∧ BI A B n' ∧ JNb κ' As Bs n' m' ∧ GOT As Bs n' m' a (m' 44 0) ∧ CA n' 1586 nm ss q [] ∧ RA m' 4 nm ss q [] ∧ FEn As Bs n n' ∧ FEy m m' 1 ∧ JAs n' m' ∧ JSnt n' m' := by
  have hreq := h.req
  have hh := h
  obtain ⟨c1, c2, c3, c4, c5, c6, c7, c8, c9⟩ := hh
  have k35 : 0 ≤ m 35 0 := by have := c9.2; have := c5.1.2.2.2; omega
  -- the class
  generalize hn1 : nw n 6 0 9 (n 6 0 9 + 1) = n1 at hreq
  have k1 : ∀ K, K ≠ 6 → n1 K = n K := fun K hK => by rw [← hn1]; exact nw_nK hK
  have s1 : ∀ s, s ≠ 9 → n1 6 0 s = n 6 0 s := fun s hs => by rw [← hn1]; exact nw_ns hs
  have fq1 : FQ As Bs (fun x => x = 1578 ∨ x = 1586) n n1 := FQ.ks (fun K hK => k1 K (by omega))
  have hB1 : BI A B n1 := hB.cg (k1 4 (by decide)) (by rw [k1 5 (by decide)]; exact ⟨rfl, rfl⟩) (k1 90 (by decide)) (k1 91 (by decide)) (k1 92 (by decide)) (k1 93 (by decide))
  have hC1 : CA n1 1586 nm ss q [] := by unfold CA at *; rw [k1 99 (by decide)]; exact hC
  have hA1 := hreq.1
  have hb1 := hreq.2.1
  obtain ⟨n2, ec, s, t, hs0, en2, hCs⟩ := c_copy hA1 c3.1 c3.2.2.2 (by decide) hC1 hW
  have fq2 : FQ As Bs (fun x => x = 1578 ∨ x = 1586) n1 n2 := by rw [en2]; exact FQ.aw hA1 hb1 c3.1 (.inl rfl) hs0
  have fq27 : FQ7 n1 n2 := by rw [en2]; exact FQ7.aw hA1 c3.1
  have k2 : ∀ K, K ≠ 99 → n2 K = n1 K := fun K hK => by rw [en2]; exact aw_K hK
  have hB2 : BI A B n2 := by rw [en2]; exact hB1.aw
  have hne := (hA1 1578 c3.1).1.ne
  have hC2 : CA n2 1578 nm ss q [] := by
    unfold CA
    rw [en2, aw_a hne, hs0, aw_T]; exact hCs
  have hC2' : CA n2 1586 nm ss q [] := by
    have := (hA1.chg (s := s) (t := t) c3.1 hs0).2 1586 c3.2.2.2 (by decide)
    unfold CA at hC1 ⊢
    rw [en2, this.1, this.2]; exact hC1
  have hA2 := hA1.fq fq2
  have hb2 := hb1.fq fq2
  have hT1 : TRs 25 31 32 33 34 n2 m (m 30 0) := c7.1.cg (by rw [k2 25 (by decide), k1 25 (by decide)]) rfl rfl rfl rfl
  obtain ⟨n3, el, l1, l2, l3⟩ := c_listC hB2 hT1 (by rw [k2 6 (by decide), s1 6 (by decide)]; exact c7.2) hA2 c3.2.2.2 hC2' hW
  have fq3 : FQ As Bs (fun x => x = 1578 ∨ x = 1586) n2 n3 := FQ.fb l2 (fun x hx => by omega) hB2 hA2 hb2
  have fq37 : FQ7 n2 n3 := FQ7.fb l2 (fun x hx => by omega) hB2
  have hC3 : CA n3 1586 nm ss q [] := hC2'.fq (FQ.fb (W := fun _ => False) l2 (fun x hx => by omega) hB2 hA2 hb2) c3.2.2.2 (fun h => h.elim)
  have hC3' : CA n3 1578 nm ss q [] := hC2.fq (FQ.fb (W := fun _ => False) l2 (fun x hx => by omega) hB2 hA2 hb2) c3.1 (fun h => h.elim)
  have k3 : ∀ K, K ∉ [4, 90, 91, 92, 93, 99] → n3 K = n2 K := fun K hK => by
    simp only [List.mem_cons, List.not_mem_nil, or_false, not_or] at hK
    exact l2.1 K hK.1 hK.2.1 hK.2.2.1 hK.2.2.2.1 hK.2.2.2.2.1 hK.2.2.2.2.2
  -- the reference
  generalize hm1 : yw m 35 0 (m 35 0 + 1) = m1 at hreq
  have f1 : FY [35] m m1 := fun g hg => by rw [← hm1]; exact yw_nF (by simp only [List.mem_cons, List.not_mem_nil, or_false] at hg; exact hg)
  have hR1 : RA m1 4 nm ss q [] := hR.rw hW (RwE.of (f1 6 (by decide)) (f1 7 (by decide)) (f1 8 (by decide)))
  obtain ⟨m2, ey2, y2⟩ := y_copyRow (m := m1) (to := 2) (fr := 4) (by decide) (by decide) (by decide)
  have hR2 := y2.kept (r := 4) (by decide) hR1 hW
  have hR2' := y2.made hR1 hW
  obtain ⟨m3, ey3, y31, y32, y33⟩ := y_tellC (n := n2) (m := m2) (by rw [y2.1 30 (by decide), f1 30 (by decide)]; exact hT1.cg rfl (by rw [y2.1 31 (by decide), f1 31 (by decide)]) (by rw [y2.1 32 (by decide), f1 32 (by decide)]) (by rw [y2.1 33 (by decide), f1 33 (by decide)]) (by rw [y2.1 34 (by decide), f1 34 (by decide)])) hR2 hW
  have m3f : ∀ g, g ∉ [6, 7, 8, 35, 36, 37] → m3 g = m g := fun g hg => by
    simp only [List.mem_cons, List.not_mem_nil, or_false, not_or] at hg
    rw [y31 g (by simp only [List.mem_cons, List.not_mem_nil, or_false, not_or]; omega), y2.1 g (by simp only [List.mem_cons, List.not_mem_nil, or_false, not_or]; omega), f1 g (by simp only [List.mem_cons, List.not_mem_nil, or_false]; omega)]
  have r3 : ∀ r, RwE m2 m3 r := fun r => RwE.of (y31 6 (by decide)) (y31 7 (by decide)) (y31 8 (by decide))
  have rw3 : ∀ r, r ≠ 2 → RwE m m3 r := fun r hr => ((RwE.of (f1 6 (by decide)) (f1 7 (by decide)) (f1 8 (by decide))).trans (RwE.cp y2 hr)).trans (r3 r)
  have hR3 := hR2.rw hW (r3 4)
  have hR3' := hR2'.rw hW (r3 2)
  have hJ3 : JNb κ As Bs n3 m3 := hreq.cg (fq2.trans fq3) (fq27.trans fq2 fq37) (fun a ha => by omega) (fun K hK => by rw [k3 K (by simp only [List.mem_cons, List.not_mem_nil, or_false, not_or]; omega), k2 K (by omega)]) (fun s hs => by rw [k3 6 (by decide), k2 6 (by decide)]) (fun f a b => by rw [y31 f (by simp only [List.mem_cons, List.not_mem_nil, or_false, not_or]; omega), y2.1 f (by simp only [List.mem_cons, List.not_mem_nil, or_false, not_or]; omega)]) (fun r hr => (RwE.cp y2 (by omega)).trans (r3 r))
  have h443 : m3 44 0 = -1 := by rw [m3f 44 (by decide)]; exact h44
  obtain ⟨m4, ey4, y41, y42⟩ := y_req22 hJ3.2.2.2.1 hR3 hW h443
  have r4 : ∀ r, RwE m3 m4 r := fun r => RwE.of (y41 6 (by decide)) (y41 7 (by decide)) (y41 8 (by decide))
  have hR4 := hR3.rw hW (r4 4)
  have hR4' := hR3'.rw hW (r4 2)
  have hJ4 : JNb κ As Bs n3 m4 := hJ3.cg (FQ.refl As Bs (fun _ => False) n3) (FQ7.refl n3) (fun _ h => h.elim) (fun _ _ => rfl) (fun _ _ => rfl) (fun f a b => y41 f (by simp only [List.mem_cons, List.not_mem_nil, or_false]; omega)) (fun r _ => r4 r)
  have e90 := c_ask90 hJ3.1 hJ3.2.2.2.1 c3.2.2.2 hC3 hW
  have hlb := lstA_b (m := m3) (X := adL nm ss q) (m3 16 0).toNat
  have hk16 := hJ3.2.2.2.1.1
  have m435 : m4 35 0 = m 35 0 + 1 := by rw [y41 35 (by decide), y31 35 (by decide), y2.1 35 (by decide), ← hm1, yw_eq]
  have hsn : JSnt n3 m4 := by
    have e36 : ys m4 36 37 = ckA m2 nm (m2 30 0).toNat := by
      rw [← y33]; unfold ys; rw [y41 36 (by decide), y41 37 (by decide)]
    have e30 : m2 30 0 = m 30 0 := by rw [y2.1 30 (by decide), f1 30 (by decide)]
    have eck : ∀ c : Nat, ckA m2 nm c = ckA m nm c := fun c => by
      induction c with
      | zero => rfl
      | succ c ih =>
        show (if tbS 31 32 m2 c = nm then (if ckA m2 nm c = [] then [] else ckA m2 nm c ++ [59]) ++ (tbM 31 33 m2 c ++ ([61] ++ tbV 31 34 m2 c)) else ckA m2 nm c) = (if tbS 31 32 m c = nm then (if ckA m nm c = [] then [] else ckA m nm c ++ [59]) ++ (tbM 31 33 m c ++ ([61] ++ tbV 31 34 m c)) else ckA m nm c)
        rw [ih]
        unfold tbS tbM tbV
        rw [y2.1 31 (by decide), f1 31 (by decide), y2.1 32 (by decide), f1 32 (by decide), y2.1 33 (by decide), f1 33 (by decide), y2.1 34 (by decide), f1 34 (by decide)]
    have hl := ckA_len (s := nm) c7.1 (m 30 0).toNat (by have := c7.1.1; omega)
    refine ⟨by rw [e36, e30, eck]; exact l3, by rw [y41 37 (by decide)]; exact y32.1, by rw [y41 37 (by decide)]; exact y32.2, fun c hc => ?_⟩
    rw [e36, e30, eck] at hc
    exact hl.2 c hc
  have hFn : FEn As Bs n n3 := by
    refine ⟨(fq1.trans fq2).trans fq3, fun K c => ?_, fun s a b c => by rw [k3 6 (by decide), k2 6 (by decide), s1 s c], ((FS.ks (k1 4 (by decide)) (k1 99 (by decide))).trans (by rw [en2]; exact FS.aw hA1 c3.1 hB1)).trans (FS.fb l2 (fun x hx => by omega) hB2)⟩
    simp only [List.mem_cons, List.not_mem_nil, or_false, not_or] at c
    rw [k3 K (by simp only [List.mem_cons, List.not_mem_nil, or_false, not_or]; omega), k2 K (by omega), k1 K (by omega)]
  have hFy : FEy m m4 1 := by
    refine ⟨fun g hg => ?_, fun r a b _ _ => (rw3 r a).trans (r4 r), by omega, by omega⟩
    simp only [List.mem_cons, List.not_mem_nil, or_false, not_or] at hg
    rw [y41 g (by simp only [List.mem_cons, List.not_mem_nil, or_false]; omega), m3f g (by simp only [List.mem_cons, List.not_mem_nil, or_false, not_or]; omega)]
  have h27 : m4 27 0 < m4 35 0 := by rw [m435, y41 27 (by decide), m3f 27 (by decide)]; have := c9.2; omega
  -- what both say up to here
  have eC : N_Net_ask n = (if n3 99 (if lstA m3 (adL nm ss q) (m3 16 0).toNat < 0 then 1570 else n3 23 0 (lstA m3 (adL nm ss q) (m3 16 0).toNat)) 2 = 0 then nk_Net_ask_169 (if lstA m3 (adL nm ss q) (m3 16 0).toNat < 0 then 1570 else n3 23 0 (lstA m3 (adL nm ss q) (m3 16 0).toNat)) n3 else (N_Net_putRow 25 (n3 6 0 6) (n3 99 1586 1) (n3 99 (if lstA m3 (adL nm ss q) (m3 16 0).toNat < 0 then 1570 else n3 23 0 (lstA m3 (adL nm ss q) (m3 16 0).toNat)) 2) (n3 99 (if lstA m3 (adL nm ss q) (m3 16 0).toNat < 0 then 1570 else n3 23 0 (lstA m3 (adL nm ss q) (m3 16 0).toNat)) 3) n3).bind (u2 fun z47 n50 => nk_Net_ask_169 (if lstA m3 (adL nm ss q) (m3 16 0).toNat < 0 then 1570 else n3 23 0 (lstA m3 (adL nm ss q) (m3 16 0).toNat)) (nw n50 6 0 6 z47))) := by
    have hty : n3 92 0 (if lstA m3 (adL nm ss q) (m3 16 0).toNat < 0 then 1570 else n3 23 0 (lstA m3 (adL nm ss q) (m3 16 0).toNat)) = 102 := by
      split
      · exact hJ3.2.2.2.2.2.1.1.2
      · next z => exact (hJ3.2.2.2.1.2 _ (by omega) (by omega)).1.1.2.2
    have h86 := (hJ3.1 1586 c3.2.2.2).1.2.1
    have h78 := (hA1 1578 c3.1).1.2.1
    unfold N_Net_ask
    rw [hno]
    show ck (n 6 0 9 + 1) (st (nw n 6 0 9 (n 6 0 9 + 1)) _) = _
    unfold ck st ty
    dsimp only
    rw [if_pos (by omega), hn1, if_pos h78, ec]
    simp only [Option.bind_some]
    rw [el]
    simp only [Option.bind_some]
    rw [e90]
    simp only [Option.bind_some]
    rw [if_pos hty, if_pos h86, if_pos hty, if_pos hty]
  have eY : N_Y_request m = (if m4 44 0 < 0 then some m4 else if 0 ≤ m4 44 0 ∧ m4 44 0 < 12 then (if 0 < m4 21 (m4 44 0) then (N_Y_dropCookie (m4 44 0) m4).bind fun m28 => nk_Y_request_81 m28 else nk_Y_request_81 m4) else none) := by
    unfold N_Y_request ck st ix
    dsimp only
    rw [if_pos (by omega), hm1, ey2]
    simp only [Option.bind_some]
    rw [ey3]
    simp only [Option.bind_some]
    rw [ey4]
    rfl
  have hAR : AR n3 m4 1578 2 := ⟨nm, ss, q, [], hW, hC3', hR4'⟩
  rw [y42] at eY
  generalize hg : lstA m3 (adL nm ss q) (m3 16 0).toNat = g at *
  by_cases hneg : g < 0
  · rw [if_pos hneg] at eC eY
    have he := hJ3.2.2.2.2.2.1
    refine ⟨1570, n3, m4, κ, ?_, eY, l1, hJ4, .inl ⟨by rw [y42]; have := hlb.1; omega, rfl⟩, hC3, hR4, hFn, hFy, .inr ⟨by omega, hAR⟩, hsn⟩
    rw [eC, he.2.2.1, if_pos rfl]
    unfold nk_Net_ask_169 ty
    rw [if_pos he.1.2, he.2.1, if_neg (by decide)]
  · rw [if_neg hneg] at eC eY
    have hgb : 0 ≤ g ∧ g < m3 16 0 := by omega
    have h16 : m4 16 0 = m3 16 0 := by rw [y41 16 (by decide)]
    obtain ⟨d1, d2⟩ := hJ4.2.2.2.1.2 g hgb.1 (by omega)
    have hrow : rowL m4 (6 + g) = adL nm ss q := by
      have := hlb.2 hgb.1
      rw [← this]
      unfold rowL; rw [y41 6 (by decide), y41 7 (by decide)]
    rw [if_pos (by omega)] at eY
    have fin : ∀ nx mx, JNb κ As Bs nx mx → BI A B nx → CA nx 1586 nm ss q [] → RA mx 4 nm ss q [] → nx 23 = n3 23 → FEn As Bs n3 nx → FEy m4 mx 0 → (nx 99 = n3 99 ∧ nx 4 = n3 4) → RwE m4 mx 2 → (∀ f, f = 16 ∨ f = 44 ∨ f = 35 ∨ f = 36 ∨ f = 37 ∨ f = 27 ∨ f = 6 ∨ f = 7 → mx f = m4 f) → N_Net_ask n = nk_Net_ask_169 (n3 23 0 g) nx → N_Y_request m = nk_Y_request_81 mx → ∃ a n' m' κ', N_Net_ask n = some (a, n') ∧ N_Y_request m = some m' ∧ BI A B n' ∧ JNb κ' As Bs n' m' ∧ GOT As Bs n' m' a (m' 44 0) ∧ CA n' 1586 nm ss q [] ∧ RA m' 4 nm ss q [] ∧ FEn As Bs n n' ∧ FEy m m' 1 ∧ JAs n' m' ∧ JSnt n' m' := fun nx mx x1 x2 x3 x4 x5 x6 x7 x8 x9 x10 e1 e2 => by
      obtain ⟨n', m', κ', b1, b2, b3, b4, b5, b6, b7, b8, b9, b10, b11, b12, b13, b14, b15, b16⟩ := ask169 (i := g) x1 x2 (by rw [x10 16 (by omega)]; omega) (by rw [x10 44 (by omega)]; exact y42) x3 hW x4 (by unfold rowL at hrow ⊢; rw [x10 6 (by omega), x10 7 (by omega)]; exact hrow) (by rw [x10 35 (by omega)]; omega) (by rw [x10 27 (by omega), x10 35 (by omega)]; exact h27)
      rw [x5] at b1 b5
      have hfe := (hFy.trans x7).trans b9
      refine ⟨n3 23 0 g, n', m', κ', by rw [e1]; exact b1, by rw [e2]; exact b2, b3, b4, by rw [b12]; exact b5, b6, b7, (hFn.trans x6).trans b8, by simpa using hfe, .inr ⟨by rw [b13, x10 35 (by omega)]; omega, nm, ss, q, [], hW, ?_, (hR4'.rw hW x9).rw hW b11⟩, ?_⟩
      · unfold CA at hC3' ⊢
        rw [b10.1, x8.1]
        have := b10.2
        rw [x8.1] at this
        rw [this]; exact hC3'
      · unfold JSnt at hsn ⊢
        have e1 : bt nx 607 = bt n3 607 := by unfold bt; rw [x8.1, x8.2]
        have e2 : ys m' 36 37 = ys m4 36 37 := by unfold ys; rw [b14, b15, x10 36 (by omega), x10 37 (by omega)]
        rw [b16, e1, e2, b15, x10 37 (by omega)]; exact hsn
    rcases d2.2 with ⟨z1, z2⟩ | ⟨w, v, z1, z2, z3, z4, z5, z6, z7, z8⟩
    · rw [if_neg (by omega)] at eY
      rw [if_pos z2] at eC
      exact fin n3 m4 hJ4 l1 hC3 hR4 rfl (FEn.refl _ _ _) (FEy.refl m4 (Int.le_refl _)) ⟨rfl, rfl⟩ (RwE.refl m4 2) (fun _ _ => rfl) eC eY
    · have hwl := z1.1
      rw [if_pos (by omega)] at eY
      rw [if_neg (by rw [z7]; exact fun y => by rw [pkq_0 z1.bt] at y; rw [y] at hwl; exact absurd hwl (by decide)), z7, z8, hC3.1, hJ4.2.2.2.2.2.2.1.2, c_putRow hJ4.2.2.2.2.2.2.1.1 hW.nm z1] at eC
      obtain ⟨m5, ed, hd⟩ := y_dropC hJ4.2.2.2.2.2.2.1.1 hR4 hW ⟨hgb.1, by omega⟩ z3 z5 z1 z4 z6 z2
      rw [ed] at eY
      by_cases h20 : tbF 31 32 33 m4 (m4 30 0) nm w = 20
      · rw [if_pos h20] at hd eC
        subst hd
        refine fin (nw n3 6 0 6 (m5 30 0)) m5 ?_ (l1.cg (nw_nK (by decide)) (by rw [nw_nK (by decide)]; exact ⟨rfl, rfl⟩) (nw_nK (by decide)) (nw_nK (by decide)) (nw_nK (by decide)) (nw_nK (by decide))) (by unfold CA at *; rw [nw_nK (by decide)]; exact hC3) hR4 (nw_nK (by decide)) ⟨FQ.ks (fun K hK => nw_nK (by omega)), fun K c => nw_nK (fun z => c (by rw [z]; decide)), fun s _ a _ => nw_ns a, FS.ks (nw_nK (by decide)) (nw_nK (by decide))⟩ (FEy.refl m5 (Int.le_refl _)) ⟨nw_nK (by decide), nw_nK (by decide)⟩ (RwE.refl m5 2) (fun _ _ => rfl) eC eY
        exact hJ4.ck (fun K _ b => nw_nK b) (fun s hs => nw_ns hs) (fun _ _ => rfl) (hJ4.2.2.2.2.2.2.1.1.cg (by rw [nw_nK (by decide)]) rfl rfl rfl rfl) nw_eq
      · rw [if_neg h20] at hd eC
        obtain ⟨hd1, hd2, hd3⟩ := hd
        generalize hnx : nw (n3w 25 n3 (tbF 31 32 33 m4 (m4 30 0) nm w) (pk nm) (pk w) (pk v)) 6 0 6 (max (m4 30 0) (tbF 31 32 33 m4 (m4 30 0) nm w + 1)) = nx at *
        have kx : ∀ K, K ≠ 25 → K ≠ 6 → nx K = n3 K := fun K a b => by rw [← hnx, nw_nK b, n3w_K a]
        have sx : ∀ s, s ≠ 6 → nx 6 0 s = n3 6 0 s := fun s hs => by rw [← hnx, nw_ns hs, n3w_K (by decide)]
        have ex : nx 6 0 6 = m5 30 0 := by rw [← hnx, nw_eq, hd2]
        refine fin nx m5 ?_ (l1.cg (kx 4 (by decide) (by decide)) (by rw [kx 5 (by decide) (by decide)]; exact ⟨rfl, rfl⟩) (kx 90 (by decide) (by decide)) (kx 91 (by decide) (by decide)) (kx 92 (by decide) (by decide)) (kx 93 (by decide) (by decide))) (by unfold CA at *; rw [kx 99 (by decide) (by decide)]; exact hC3) (hR4.rw hW (RwE.of (hd1 6 (by decide)) (hd1 7 (by decide)) (hd1 8 (by decide)))) (kx 23 (by decide) (by decide)) ⟨FQ.ks (fun K hK => kx K (by omega) (by omega)), fun K c => ?_, fun s _ a _ => sx s a, FS.ks (kx 4 (by decide) (by decide)) (kx 99 (by decide) (by decide))⟩ ⟨hd1.sub (by decide), fun r _ _ _ _ => RwE.of (hd1 6 (by decide)) (hd1 7 (by decide)) (hd1 8 (by decide)), by rw [hd1 35 (by decide)]; exact Int.le_refl _, by rw [hd1 35 (by decide)]; omega⟩ ⟨kx 99 (by decide) (by decide), kx 4 (by decide) (by decide)⟩ (RwE.of (hd1 6 (by decide)) (hd1 7 (by decide)) (hd1 8 (by decide))) (fun f hf => hd1 f (by simp only [List.mem_cons, List.not_mem_nil, or_false, not_or]; omega)) (by rw [eC, ← hnx]; rfl) eY
        · refine hJ4.ck kx sx hd1 (hd3 nx ?_) ex
          have := n3w_v (K := 25) (n := n3) (i := tbF 31 32 33 m4 (m4 30 0) nm w) (a := pk nm) (b := pk w) (c := pk v)
          rw [← hnx, nw_nK (by decide)]; exact this
        · simp only [List.mem_cons, List.not_mem_nil, or_false, not_or] at c
          exact kx K (by omega) (by omega)
end K0
