/-! WHAT ACTS LEAVE AS IT WAS; A PAGE STARTS -/
def FCn (n n' : NS) : Prop :=
  (∀ K, K ∉ [0, 4, 6, 7, 8, 10, 18, 22, 24, 25, 26, 27, 28, 29, 30, 31, 44, 45, 46, 90, 91, 92, 93, 99] → n' K = n K)
  ∧ FS (fun x => x = 607 ∨ x ≤ 604 ∨ (609 ≤ x ∧ x ≤ 630)) n n' ∧ (∀ s, s ∉ [5, 6, 7, 8, 9, 10, 12, 13, 15, 16, 17, 18] → n' 0 0 s = n 0 0 s)
def FCy (m m' : YS) : Prop := ∀ f, (f ≤ 5 ∨ f = 16 ∨ (19 ≤ f ∧ f ≤ 22) ∨ f = 25 ∨ (89 ≤ f ∧ f ≤ 125) ∨ (127 ≤ f ∧ f ≤ 147) ∨ 184 ≤ f) → m' f = m f
def FC (n n' : NS) (m m' : YS) : Prop := FCn n n' ∧ FCy m m' ∧ LYc n n' m m' ∧ LYy m m'
/-- the page stays: who lives in it, and with which attributes -/
def FP (m m' : YS) : Prop := LIV m m' ∧ OLV m m' ∧ m 69 0 ≤ m' 69 0
def hsO (m : YS) (v : Int) : Int := if fnd m v wOnl < m 56 v then 1 else 0
/-- how many of the first have onload -/
def cnO (m : YS) (o : Int → Int) (k : Int) : Int := zsm (fun j => hsO m (o j)) 0 k
def CWY (n : NS) (m : YS) (N : Int) (o : Int → Int) : Prop := n 0 0 16 = cnO m o N ∧ ∀ k, 0 ≤ k → k < N → hsO m (o k) = 1 → n 46 0 (cnO m o k) = m 55 (o k) * 128 + o k
def YWY (m m' : YS) (N : Int) (o : Int → Int) : Prop := m' 181 0 = cnO m o N ∧ ∀ k, 0 ≤ k → k < N → hsO m (o k) = 1 → m' 179 (cnO m o k) = o k ∧ m' 180 (cnO m o k) = m 55 (o k)
section N6
variable {n n' n'' : NS} {m m' m'' : YS} {A B N N' k v b a δ δ' G G' fr to d L r r' q : Int} {o e p o' e' p' : Int → Int} {As Bs W S : Int → Prop} {κ κ' : Int → Int}
theorem FC.refl (n : NS) (m : YS) : FC n n m m := ⟨⟨fun _ _ => rfl, FS.refl _ n, fun _ _ => rfl⟩, fun _ _ => rfl, LYc.refl n m, LYy.refl m⟩
theorem FC.trans (h : FC n n' m m') (h' : FC n' n'' m' m'') : FC n n'' m m'' := by
  obtain ⟨⟨a1, a2, a3⟩, a4, a5, a6⟩ := h
  obtain ⟨⟨b1, b2, b3⟩, b4, b5, b6⟩ := h'
  exact ⟨⟨fun K c => (b1 K c).trans (a1 K c), a2.trans b2, fun s c => (b3 s c).trans (a3 s c)⟩, fun f c => (b4 f c).trans (a4 f c), a5.trans b5, a6.trans b6⟩
theorem FA.fc (h : FA n n' m m') : FC n n' m m' := by
  obtain ⟨⟨a1, a2, a3, _⟩, a4, a5, a6, _⟩ := h
  exact ⟨⟨fun K c => a1 K (by simp only [List.mem_cons, List.not_mem_nil, or_false, not_or] at c ⊢; omega), a2.wid (fun x hx => by omega), fun s c => a3 s (by simp only [List.mem_cons, List.not_mem_nil, or_false, not_or] at c ⊢; omega)⟩, fun f hf => a4 f (by omega), a5, a6⟩
theorem FA.fp (h : FA n n' m m') : FP m m' := ⟨h.2.2.2.2.1, h.2.2.2.2.2.1, h.2.2.2.2.2.2⟩
theorem FP.refl (m : YS) : FP m m := ⟨LIV.refl m, OLV.refl m, Int.le_refl _⟩
theorem FP.trans (h : FP m m') (h' : FP m' m'') : FP m m'' := ⟨h.1.trans h'.1 h.2.2, h.2.1.trans h'.2.1 h'.1 h.2.2, Int.le_trans h.2.2 h'.2.2⟩
theorem FP.of (h : ∀ f, 45 ≤ f → f ≤ 69 → m' f = m f) : FP m m' := ⟨LIV.of (h 45 (by decide) (by decide)) (h 46 (by decide) (by decide)) (h 55 (by decide) (by decide)), OLV.of (fun f hf => h f (by omega) (by omega)), by rw [h 69 (by decide) (by decide)]; exact Int.le_refl _⟩
/-- kinds of the acts alone -/
theorem FC.k0 (hK : ∀ K, K ≠ 0 → K ≠ 6 → K ≠ 46 → n' K = n K) (h0 : ∀ s, s ∉ [5, 6, 7, 8, 9, 10, 12, 13, 15, 16, 17, 18] → n' 0 0 s = n 0 0 s) (hm : ∀ f, f < 148 → f ≠ 126 → m' f = m f) (hm2 : ∀ f, 184 ≤ f → m' f = m f) (h126 : m' 126 0 = 0 ∨ m' 126 0 = m 126 0) : FC n n' m m' := by
  refine ⟨⟨fun K c => ?_, FS.ks (hK 4 (by decide) (by decide) (by decide)) (hK 99 (by decide) (by decide) (by decide)), h0⟩, fun f hf => ?_, .inr ⟨by rw [hK 10 (by decide) (by decide) (by decide)], fun f a b => hm f (by omega) (by omega)⟩, ?_⟩
  · simp only [List.mem_cons, List.not_mem_nil, or_false, not_or] at c
    exact hK K (by omega) (by omega) (by omega)
  · by_cases z : 184 ≤ f
    · exact hm2 f z
    · exact hm f (by omega) (by omega)
  · rcases h126 with y | y
    · exact .inl y
    · exact .inr ⟨y, fun f a b => hm f (by omega) (by omega)⟩
theorem FC.fb (hB : BI A B n) (hF : FB (fun x => x = 609) n n') : FC n n' m m := by
  have kk := hF.1
  refine ⟨⟨fun K c => ?_, (FS.fb hF (fun x hx => by have hx : x = 609 := hx; omega) hB).wid (fun x hx => .inr (.inr (by have hx : x = 609 := hx; omega))), fun s _ => by rw [kk 0 (by decide) (by decide) (by decide) (by decide) (by decide) (by decide)]⟩, fun _ _ => rfl, .inr ⟨by rw [kk 10 (by decide) (by decide) (by decide) (by decide) (by decide) (by decide)], fun _ _ _ => rfl⟩, LYy.refl m⟩
  simp only [List.mem_cons, List.not_mem_nil, or_false, not_or] at c
  exact kk K (by omega) (by omega) (by omega) (by omega) (by omega) (by omega)
theorem FC.fl (hF : FL n n') : FC n n' m m := by
  refine ⟨⟨fun K c => ?_, FS.ks (hF.1 4 (by decide) (by decide) (by decide)) (hF.1 99 (by decide) (by decide) (by decide)), fun s _ => by rw [hF.1 0 (by decide) (by decide) (by decide)]⟩, fun _ _ => rfl, .inr ⟨hF.2.2 6 (by decide) (by decide), fun _ _ _ => rfl⟩, LYy.refl m⟩
  simp only [List.mem_cons, List.not_mem_nil, or_false, not_or] at c
  exact hF.1 K (by omega) (by omega) (by omega)
/-- the row of the script alone has changed -/
theorem JA.rw9 (h : JA As Bs A B δ G n m) (hB' : BI A B n') (hF : FB (fun x => x = 609) n n') : JA As Bs A B δ G n' m := by
  obtain ⟨κ, N, o, e, p, ⟨hJ, hH, hP⟩, h2, h3, ⟨h4, h4'⟩, h5, h6, h7, h8⟩ := h
  have hB := hJ.1
  have hA := hJ.2.1.1
  have hb := hJ.2.1.2.1
  have hS : ∀ x : Int, x = 609 → 0 ≤ x ∧ x ≤ 631 := fun x hx => by omega
  have fq : FQ As Bs (fun _ => False) n n' := FQ.fb hF hS hB hA hb
  have fs : FS (fun x => x = 609) n n' := FS.fb hF hS hB
  have kk : ∀ K, K ≠ 4 → K ≠ 90 → K ≠ 91 → K ≠ 92 → K ≠ 93 → K ≠ 99 → n' K = n K := hF.1
  have e0 : n' 0 = n 0 := kk 0 (by decide) (by decide) (by decide) (by decide) (by decide) (by decide)
  have e6 : n' 6 = n 6 := kk 6 (by decide) (by decide) (by decide) (by decide) (by decide) (by decide)
  have e10 : n' 10 = n 10 := kk 10 (by decide) (by decide) (by decide) (by decide) (by decide) (by decide)
  refine ⟨κ, N, o, e, p, ⟨hJ.cg hB' fq (FQ7.fb hF hS hB) (fun _ h => h.elim) (fun K hK => kk K (by omega) (by omega) (by omega) (by omega) (by omega) (by omega)) (fun s _ => by rw [e6]) (fs.bt (by omega) (by omega)) (fun _ _ _ => rfl) (fun x _ => RwE.refl m x), hH.cg fq (fun _ h => h.elim) (by rw [e6]; exact ⟨rfl, rfl⟩) (kk 27 (by decide) (by decide) (by decide) (by decide) (by decide) (by decide)) ⟨rfl, rfl⟩ (fun x _ _ => RwE.refl m x), hP.fq fq hJ.2.1.2.2.1.2.1 (fun h => h.elim) (RwE.refl m 1)⟩,
    h2.cg (fun K c => kk K (by omega) (by omega) (by omega) (by omega) (by omega) (by omega)) (fun b x y => fs.bt (by omega) (by omega)) (fun _ _ _ => rfl), fun k a b => by rw [kk 21 (by decide) (by decide) (by decide) (by decide) (by decide) (by decide)]; exact h3 k a b,
    ⟨h4.cg (by rw [e0]) (kk 44 (by decide) (by decide) (by decide) (by decide) (by decide) (by decide)) (kk 45 (by decide) (by decide) (by decide) (by decide) (by decide) (by decide)) (fun b x y => fs.bt (by omega) (by omega)) (fun _ _ _ => rfl), h4'⟩,
    h5.cg (kk 26 (by decide) (by decide) (by decide) (by decide) (by decide) (by decide)) (by rw [e6]) (fun _ _ _ => rfl), ?_, h7.liv (by rw [e0]) rfl rfl (LIV.refl m) (Int.le_refl _), ?_⟩
  · unfold JCt at *
    rw [e0]; exact h6
  · unfold gB at *
    rw [e10]; exact h8
theorem JT.ks (h : JT n m N o e p) (hK : ∀ K, K = 4 ∨ K = 7 ∨ K = 10 ∨ K = 18 ∨ K = 22 ∨ K = 99 → n' K = n K) : JT n' m N o e p := by
  have e7 := hK 7 (by omega)
  have e10 := hK 10 (by omega)
  refine ⟨h.1.cg e7 e10 (fun _ _ => rfl), h.2.1.cg e7, h.2.2.1.cg e7 e10 (hK 22 (by omega)), fun k k0 k1 => (h.2.2.2 k k0 k1).cg (YG.of (fun _ _ => rfl)) ⟨fun s _ => by rw [e7], by rw [hK 18 (by omega)], fun b x y => ?_⟩⟩
  unfold bt
  rw [hK 4 (by omega), hK 99 (by omega)]
theorem JTr.ks (h : JTr n m N o e p) (hK : ∀ K, K = 4 ∨ K = 7 ∨ K = 8 ∨ K = 10 ∨ K = 18 ∨ K = 22 ∨ K = 28 ∨ K = 29 ∨ K = 99 → n' K = n K) : JTr n' m N o e p := h.cg (fun K c => hK K (by omega)) (fun b _ _ => by unfold bt; rw [hK 4 (by omega), hK 99 (by omega)]) (fun _ _ _ => rfl)
theorem hsO_b : 0 ≤ hsO m v ∧ hsO m v ≤ 1 := by unfold hsO; split <;> decide
theorem hsO_1 : hsO m v = 1 ↔ fnd m v wOnl < m 56 v := by
  unfold hsO
  split
  · rename_i z; exact ⟨fun _ => z, fun _ => rfl⟩
  · rename_i z; exact ⟨fun y => absurd y (by decide), fun y => absurd y z⟩
theorem cnO_0 : cnO m o 0 = 0 := zsm_nil (Int.le_refl _)
theorem cnO_s (h : 0 ≤ k) : cnO m o (k + 1) = cnO m o k + hsO m (o k) := zsm_succ (g := fun j => hsO m (o j)) h
theorem cnO_b (h : 0 ≤ k) : 0 ≤ cnO m o k ∧ cnO m o k ≤ k := by
  have := zsm_b (g := fun j => hsO m (o j)) (a := 0) (b := k) (fun _ _ _ => hsO_b) h
  exact ⟨this.1, by have := this.2; unfold cnO; omega⟩
theorem cnO_m (h : 0 ≤ k) (hk : k ≤ N) : cnO m o k ≤ cnO m o N := by
  refine zsm_ind (P := fun j => cnO m o k ≤ cnO m o j) hk (Int.le_refl _) (fun j x y z => ?_)
  rw [cnO_s (by omega)]
  have := hsO_b (m := m) (v := o j)
  omega
theorem cnO_at {i : Int} (h : 0 ≤ N) (hi : 0 ≤ i ∧ i < cnO m o N) : ∃ k, 0 ≤ k ∧ k < N ∧ hsO m (o k) = 1 ∧ cnO m o k = i := by
  have := zsm_ind (P := fun j => i < cnO m o j → ∃ k, 0 ≤ k ∧ k < j ∧ hsO m (o k) = 1 ∧ cnO m o k = i) h (fun y => by rw [cnO_0] at y; omega) (fun j x y z w => by
    rw [cnO_s x] at w
    by_cases u : i < cnO m o j
    · obtain ⟨k, a, b, c⟩ := z u
      exact ⟨k, a, by omega, c⟩
    · have := hsO_b (m := m) (v := o j)
      exact ⟨j, x, by omega, by omega, by omega⟩)
  exact this hi.2
theorem cnO_lt (h : 0 ≤ k) (hk : k < N) (h1 : hsO m (o k) = 1) : cnO m o k < cnO m o N := by
  have := cnO_m (m := m) (o := o) (k := k + 1) (N := N) (by omega) (by omega)
  rw [cnO_s h] at this
  omega
/-- the class's way of load -/
theorem c_way (hT : JT n m N o e p) (hB : BI A B n) (hL : LSt n N o e) (h16 : n 0 0 16 = 0) (h69 : m 69 0 < 2000000000) : ev (NL_Acts_startPage_48 0 n) (fun n' => (∀ K, K ≠ 0 → K ≠ 46 → n' K = n K) ∧ (∀ s, s ≠ 16 → n' 0 0 s = n 0 0 s) ∧ CWY n' m N o) := by
  have hG := hT.1.1
  have hN := hG.N1
  unfold NL_Acts_startPage_48
  refine ev_it (fun s : Int × NS => (0 ≤ s.1 ∧ s.1 ≤ N) ∧ (∀ K, K ≠ 0 → K ≠ 46 → s.2 K = n K) ∧ (∀ t, t ≠ 16 → s.2 0 0 t = n 0 0 t) ∧ s.2 0 0 16 = cnO m o s.1 ∧ ∀ k, 0 ≤ k → k < s.1 → hsO m (o k) = 1 → s.2 46 0 (cnO m o k) = m 55 (o k) * 128 + o k) (fun s => N - s.1) (fun s hs => ?_) ⟨by show (0 : Int) ≤ 0 ∧ (0 : Int) ≤ N; omega, fun _ _ _ => rfl, fun _ _ => rfl, by show n 0 0 16 = cnO m o 0; rw [cnO_0]; exact h16, fun k a b => by have b : k < 0 := b; omega⟩
  obtain ⟨j, n1⟩ := s
  obtain ⟨g1, g2, g3, g4, g5⟩ := hs
  simp only at g1 g2 g3 g4 g5
  show ev (nb_Acts_startPage_48 j n1) _
  unfold nb_Acts_startPage_48
  have hT1 : JT n1 m N o e p := hT.ks (fun K hK => g2 K (by omega) (by omega))
  rw [g2 10 (by decide) (by decide), hL.1]
  refine ev_if (fun hlt => ?_) (fun hge => ev_inr ⟨g2, g3, ?_, ?_⟩)
  · have hv := hG.oB g1.1 hlt
    have hd := hT1.2.2.2 j g1.1 hlt
    rw [g2 22 (by decide) (by decide), (hL.2 j g1.1 hlt).1]
    have epk : N_Bytes_pack_1 1000021 n1 = some (pk wOnl) := cs_packW okS21 (by decide) (by decide)
    have f0 := fnd_b (m := m) (f := o j) (w := wOnl)
    have hc0 := cnO_b (m := m) (o := o) g1.1
    have er : N_Node_read (o j) 1000021 n1 = some (if fnd m (o j) wOnl < m 56 (o j) then 5 * o j + 1 + fnd m (o j) wOnl else -1) := by
      unfold N_Node_read
      rw [epk]
      simp only [Option.bind_some]
      rw [c_find hd (by decide : ∀ c ∈ wOnl, isBt c)]
      simp only [Option.bind_some]
      split
      · rw [if_neg (by omega)]
      · rw [if_pos (by decide)]
    refine ev_ix (by omega) (ev_ix hv ?_)
    rw [er]
    simp only [Option.bind_some]
    by_cases hf : fnd m (o j) wOnl < m 56 (o j)
    · have h1 := hsO_1.mpr hf
      rw [if_pos hf, if_neg (by omega)]
      have hb := hT1.born hv.1 hv.2 ((hT1.1.2.2.2.1 _ hv.1 hv.2).2.1.mpr ⟨j, g1.1, hlt, rfl⟩)
      have e10 : n1 7 (o j) 10 = m 55 (o j) := (hT1.1.2.2.2.2.1 j g1.1 hlt).1.2.2.2.2.2
      have emk : N_Tree_markOf (o j) n1 = some (m 55 (o j) * 128 + o j) := by
        unfold N_Tree_markOf ix ckL
        rw [e10, if_pos hv, if_pos (by omega), if_pos (by omega)]
      rw [emk, g4]
      simp only [Option.bind_some]
      refine ev_ix (by omega) (ev_st ?_)
      rw [nw_nK (by decide), g4]
      refine ev_ck (by omega) (ev_st (ev_ck (by omega) (ev_inl ⟨⟨by show 0 ≤ j + 1 ∧ j + 1 ≤ N; omega, fun K a b => ?_, fun t ht => ?_, ?_, fun k a b c => ?_⟩, by show N - (j + 1) < N - j; omega, by show 0 ≤ N - j; omega⟩)))
      · show nw (nw n1 46 0 (cnO m o j) (m 55 (o j) * 128 + o j)) 0 0 16 (cnO m o j + 1) K = _
        rw [nw_nK a, nw_nK b]; exact g2 K a b
      · show nw (nw n1 46 0 (cnO m o j) (m 55 (o j) * 128 + o j)) 0 0 16 (cnO m o j + 1) 0 0 t = _
        rw [nw_ns ht, nw_nK (by decide)]; exact g3 t ht
      · show nw (nw n1 46 0 (cnO m o j) (m 55 (o j) * 128 + o j)) 0 0 16 (cnO m o j + 1) 0 0 16 = cnO m o (j + 1)
        rw [nw_eq, cnO_s g1.1, h1]
      · show nw (nw n1 46 0 (cnO m o j) (m 55 (o j) * 128 + o j)) 0 0 16 (cnO m o j + 1) 46 0 (cnO m o k) = _
        have b : k < j + 1 := b
        rw [nw_nK (by decide)]
        by_cases hk : k = j
        · rw [hk, nw_eq]
        · have := cnO_lt (m := m) (o := o) (k := k) (N := j) a (by omega) c
          rw [nw_ns (by omega)]
          exact g5 k a (by omega) c
    · have h1 : hsO m (o j) = 0 := by unfold hsO; rw [if_neg hf]
      rw [if_neg hf, if_pos (by decide)]
      refine ev_ck (by omega) (ev_inl ⟨⟨by show 0 ≤ j + 1 ∧ j + 1 ≤ N; omega, g2, g3, ?_, fun k a b c => ?_⟩, by show N - (j + 1) < N - j; omega, by show 0 ≤ N - j; omega⟩)
      · show n1 0 0 16 = cnO m o (j + 1)
        rw [cnO_s g1.1, h1, g4]; omega
      · have b : k < j + 1 := b
        by_cases hk : k = j
        · rw [hk, h1] at c; exact absurd c (by decide)
        · exact g5 k a (by omega) c
  · rw [g4, show j = N by omega]
  · exact fun k a b c => g5 k a (by omega) c
/-- the reference's -/
theorem y_way (hT : JT n m N o e p) (h181 : m 181 0 = 0) (h154 : m 154 0 = 0) : ev (NL_Y_settle_24 0 m) (fun m' => FY [179, 180, 181] m m' ∧ YWY m m' N o) := by
  have hG := hT.1.1
  have hN := hG.N1
  have hE0 : e 0 = N := hG.1.2.2.2.1
  unfold NL_Y_settle_24
  refine ev_itg (I := fun (s : Int × YS) x => ∃ j, 0 ≤ j ∧ j ≤ N ∧ x = N - j ∧ s.1 = (if j < N then o j else -1) ∧ FY [179, 180, 181] m s.2 ∧ s.2 181 0 = cnO m o j ∧ ∀ k, 0 ≤ k → k < j → hsO m (o k) = 1 → s.2 179 (cnO m o k) = o k ∧ s.2 180 (cnO m o k) = m 55 (o k)) (fun s x hs => ?_) (x := N) ⟨0, Int.le_refl _, by omega, by omega, by show (0 : Int) = _; rw [if_pos (by omega)]; exact hG.o0.symm, fun _ _ => rfl, by show m 181 0 = _; rw [cnO_0]; exact h181, fun k a b => by omega⟩
  obtain ⟨v, m1⟩ := s
  obtain ⟨j, j0, j1, hx, g4, g5, g6, g7⟩ := hs
  simp only at g4 g5 g6 g7
  show ev (nb_Y_settle_24 v m1) _
  unfold nb_Y_settle_24
  have hT1 : JT n m1 N o e p := hT.rk (FRk.refl n) (fun f a b => g5 f (by simp only [List.mem_cons, List.not_mem_nil, or_false, not_or]; omega))
  rw [g5 154 (by decide), if_pos h154]
  by_cases hlt : j < N
  · rw [if_pos hlt] at g4
    subst g4
    have hv := hG.oB j0 hlt
    have hd := hT.2.2.2 j j0 hlt
    have hd1 := hT1.2.2.2 j j0 hlt
    have hc0 := cnO_b (m := m) (o := o) j0
    have f0 := fnd_b (m := m) (f := o j) (w := wOnl)
    rw [if_neg (show ¬ o j = -1 by omega)]
    have next : ∀ m2, JT n m2 N o e p → FY [179, 180, 181] m m2 → m2 181 0 = cnO m o (j + 1) → (∀ k, 0 ≤ k → k < j + 1 → hsO m (o k) = 1 → m2 179 (cnO m o k) = o k ∧ m2 180 (cnO m o k) = m 55 (o k)) → ev (nk_Y_settle_64 (o j) m2) (lg (fun (s : Int × YS) x => ∃ j, 0 ≤ j ∧ j ≤ N ∧ x = N - j ∧ s.1 = (if j < N then o j else -1) ∧ FY [179, 180, 181] m s.2 ∧ s.2 181 0 = cnO m o j ∧ ∀ k, 0 ≤ k → k < j → hsO m (o k) = 1 → s.2 179 (cnO m o k) = o k ∧ s.2 180 (cnO m o k) = m 55 (o k)) x (fun m' => FY [179, 180, 181] m m' ∧ YWY m m' N o)) := fun m2 t2 t3 t4 t5 => by
      unfold nk_Y_settle_64
      have ha := y_after t2.1.1 (t := 0) (k := j) (Int.le_refl _) j0 (by omega) (by omega)
      rw [hG.o0, hE0] at ha
      rw [ha]
      simp only [Option.bind_some]
      exact ev_gl (x' := N - (j + 1)) ⟨j + 1, by omega, by omega, rfl, rfl, t3, t4, t5⟩ (by omega) (by omega)
    have skip : hsO m (o j) = 0 → ev (nk_Y_settle_64 (o j) m1) (lg (fun (s : Int × YS) x => ∃ j, 0 ≤ j ∧ j ≤ N ∧ x = N - j ∧ s.1 = (if j < N then o j else -1) ∧ FY [179, 180, 181] m s.2 ∧ s.2 181 0 = cnO m o j ∧ ∀ k, 0 ≤ k → k < j → hsO m (o k) = 1 → s.2 179 (cnO m o k) = o k ∧ s.2 180 (cnO m o k) = m 55 (o k)) x (fun m' => FY [179, 180, 181] m m' ∧ YWY m m' N o)) := fun h1 => by
      refine next m1 hT1 g5 (by rw [cnO_s j0, h1, g6]; omega) (fun k a b c => ?_)
      by_cases hk : k = j
      · rw [hk, h1] at c; exact absurd c (by decide)
      · exact g7 k a (by omega) c
    refine ev_ix hv ?_
    rw [g5 46 (by decide)]
    by_cases h17 : m 46 (o j) = 17
    · rw [if_pos h17]
      refine skip ?_
      have := (hd.2.2.2.2.1 h17).2.2.2.2
      unfold hsO
      rw [if_neg (by omega)]
    · rw [if_neg h17, y_find hd1 hv (by decide)]
      simp only [Option.bind_some]
      have eF : fnd m1 (o j) (wl 135770575) = fnd m (o j) wOnl := by
        rw [show wl 135770575 = wOnl by decide]
        unfold fnd anL
        rw [g5 56 (by decide), g5 57 (by decide), g5 58 (by decide)]
      rw [eF, g5 56 (by decide)]
      by_cases hf : fnd m (o j) wOnl < m 56 (o j)
      · have h1 := hsO_1.mpr hf
        rw [if_pos hf, if_neg (by omega)]
        unfold N_Y_onWay
        rw [g6]
        have hix : ∀ {α : Type} (x : Option α), ix (cnO m o j) 120 x = x := fun x => by unfold ix; rw [if_pos (by omega)]
        have hiv : ∀ {α : Type} (x : Option α), ix (o j) 120 x = x := fun x => by unfold ix; rw [if_pos hv]
        unfold st
        dsimp only
        rw [hix, hiv, yw_nF (show (181 : Nat) ≠ 179 by decide), g6, hix]
        rw [yw_nF (show (181 : Nat) ≠ 180 by decide), yw_nF (show (181 : Nat) ≠ 179 by decide), g6, yw_nF (show (55 : Nat) ≠ 179 by decide), g5 55 (by decide)]
        unfold ck
        rw [if_pos (show inR (cnO m o j + 1) by omega)]
        simp only [Option.bind_some]
        generalize hm2 : yw (yw (yw m1 179 (cnO m o j) (o j)) 180 (cnO m o j) (m 55 (o j))) 181 0 (cnO m o j + 1) = m2
        have f2 : FY [179, 180, 181] m m2 := fun g hg => by
          have hg' := hg
          simp only [List.mem_cons, List.not_mem_nil, or_false, not_or] at hg'
          rw [← hm2, yw_nF hg'.2.2, yw_nF hg'.2.1, yw_nF hg'.1]; exact g5 g hg
        refine next m2 (hT.rk (FRk.refl n) (fun f a b => f2 f (by simp only [List.mem_cons, List.not_mem_nil, or_false, not_or]; omega))) f2 (by rw [← hm2, yw_eq, cnO_s j0, h1]) (fun k a b c => ?_)
        rw [← hm2, yw_nF (show (179 : Nat) ≠ 181 by decide), yw_nF (show (179 : Nat) ≠ 180 by decide), yw_nF (show (180 : Nat) ≠ 181 by decide)]
        by_cases hk : k = j
        · rw [hk, yw_eq, yw_eq]; exact ⟨rfl, rfl⟩
        · have := cnO_lt (m := m) (o := o) (k := k) (N := j) a (by omega) c
          rw [yw_ni (by omega), yw_ni (by omega), yw_nF (show (180 : Nat) ≠ 179 by decide)]
          exact g7 k a (by omega) c
      · rw [if_neg hf, if_pos rfl]
        refine skip ?_
        unfold hsO
        rw [if_neg hf]
  · rw [if_neg hlt] at g4
    rw [if_pos g4]
    have : j = N := by omega
    subst this
    exact ev_gr ⟨g5, g6, g7⟩
theorem startPage_c (h : JA As Bs A B δ G (nw (nw n 0 0 6 (-1)) 0 0 5 0) m) (hG : G < 1000000000) :
    ∃ n' N o e p, N_Acts_startPage n = some n' ∧ JA As Bs A B δ G n' m ∧ JTr n' m N o e p ∧ CWY n' m N o ∧ (n' 0 0 5 = 0 ∧ n' 0 0 6 = -1 ∧ n' 0 0 12 = 0 ∧ n' 0 0 15 = 0 ∧ n' 0 0 18 = 0 ∧ n' 4 609 2 = 0) ∧ FC n n' m m ∧ (∀ s, s ∉ [5, 6, 12, 15, 16, 18] → n' 0 0 s = n 0 0 s) ∧ n' 6 = n 6 := by
  generalize hn7 : nw (nw n 0 0 6 (-1)) 0 0 5 0 = n7 at *
  have h18 : JA As Bs A B δ G (nw n7 0 0 18 0) m := h.cg (fun K a _ _ => nw_nK a) (fun s hs => nw_ns (by omega)) (fun s _ => by rw [nw_nK (by decide)]) (fun _ _ => rfl)
  have hB1 := h18.bi
  obtain ⟨n16, e16, a1, a2, a3⟩ := cs_clear (b := 609) (by decide) hB1
  have j16 := h18.rw9 a1 a2
  generalize hn28 : nw (nw (nw n16 0 0 12 0) 0 0 15 0) 0 0 16 0 = n28
  have k28 : ∀ K, K ≠ 0 → n28 K = n16 K := fun K hK => by rw [← hn28, nw_nK hK, nw_nK hK, nw_nK hK]
  have s28 : ∀ s, s ≠ 12 → s ≠ 15 → s ≠ 16 → n28 0 0 s = n16 0 0 s := fun s x y z => by rw [← hn28, nw_ns z, nw_ns y, nw_ns x]
  have j28 : JA As Bs A B δ G n28 m := j16.cg (fun K a _ _ => k28 K a) (fun s hs => s28 s (by omega) (by omega) (by omega)) (fun s _ => by rw [k28 6 (by decide)]) (fun _ _ => rfl)
  have hg := j28
  obtain ⟨κ, N, o, e, p, h1, hT, h3, h4, h5, h6, h7, h8⟩ := hg
  obtain ⟨n33, e33, t33, l33, f33, b33⟩ := hT.1.list j28.bi
  obtain ⟨j33, fa33⟩ := j28.fl t33 hT.2.1 b33 f33
  have z33 : ∀ s, n33 0 0 s = n28 0 0 s := fun s => by rw [f33.1 0 (by decide) (by decide) (by decide)]
  have hT33 : JTr n33 m N o e p := by
    refine ⟨t33, hT.2.1, ?_, ?_⟩
    · have := hT.2.2.1
      unfold JF at *
      rw [f33.1 8 (by decide) (by decide) (by decide), f33.1 28 (by decide) (by decide) (by decide), f33.1 29 (by decide) (by decide) (by decide)]; exact this
    · rw [f33.2.2 6 (by decide) (by decide)]; exact hT.2.2.2
  obtain ⟨n36, e36, w1, w2, w3⟩ := c_way t33 b33 l33 (by rw [z33, ← hn28, nw_eq]) (by have := h8.2.1; omega)
  have j36 : JA As Bs A B δ G n36 m := j33.cg (fun K a _ c => w1 K a c) (fun s hs => w2 s (by omega)) (fun s _ => by rw [w1 6 (by decide) (by decide)]) (fun _ _ => rfl)
  have c0 : ∀ s, n16 0 0 s = nw n7 0 0 18 0 0 0 s := fun s => by rw [a2.1 0 (by decide) (by decide) (by decide) (by decide) (by decide) (by decide)]
  refine ⟨n36, N, o, e, p, ?_, j36, hT33.ks (fun K hK => w1 K (by omega) (by omega)), w3, ⟨?_, ?_, ?_, ?_, ?_, ?_⟩, ?_, fun s hs => ?_, ?_⟩
  · unfold N_Acts_startPage st
    dsimp only
    rw [hn7, e16]
    simp only [Option.bind_some]
    rw [hn28, e33]
    simp only [Option.bind_some]
    rw [e36]; rfl
  · rw [w2 5 (by decide), z33, s28 5 (by decide) (by decide) (by decide), c0, nw_ns (by decide), ← hn7, nw_eq]
  · rw [w2 6 (by decide), z33, s28 6 (by decide) (by decide) (by decide), c0, nw_ns (by decide), ← hn7, nw_ns (by decide), nw_eq]
  · rw [w2 12 (by decide), z33, ← hn28, nw_ns (by decide), nw_ns (by decide), nw_eq]
  · rw [w2 15 (by decide), z33, ← hn28, nw_ns (by decide), nw_eq]
  · rw [w2 18 (by decide), z33, s28 18 (by decide) (by decide) (by decide), c0, nw_eq]
  · rw [w1 4 (by decide) (by decide), f33.1 4 (by decide) (by decide) (by decide), k28 4 (by decide)]
    have := bt_len (b := 609) (by decide) a1
    rw [a3] at this
    exact this.symm
  · have q1 : FC n (nw n7 0 0 18 0) m m := FC.k0 (fun K a _ _ => by rw [nw_nK a, ← hn7, nw_nK a, nw_nK a]) (fun s hs => by
      simp only [List.mem_cons, List.not_mem_nil, or_false, not_or] at hs
      rw [nw_ns (by omega), ← hn7, nw_ns (by omega), nw_ns (by omega)]) (fun _ _ _ => rfl) (fun _ _ => rfl) (.inr rfl)
    have q2 : FC n16 n28 m m := FC.k0 (fun K a _ _ => k28 K a) (fun s hs => by
      simp only [List.mem_cons, List.not_mem_nil, or_false, not_or] at hs
      exact s28 s (by omega) (by omega) (by omega)) (fun _ _ _ => rfl) (fun _ _ => rfl) (.inr rfl)
    have q3 : FC n33 n36 m m := FC.k0 (fun K a _ c => w1 K a c) (fun s hs => by
      simp only [List.mem_cons, List.not_mem_nil, or_false, not_or] at hs
      exact w2 s (by omega)) (fun _ _ _ => rfl) (fun _ _ => rfl) (.inr rfl)
    exact (((q1.trans (FC.fb hB1 a2)).trans q2).trans (FC.fl f33)).trans q3
  · simp only [List.mem_cons, List.not_mem_nil, or_false, not_or] at hs
    rw [w2 s (by omega), z33, s28 s (by omega) (by omega) (by omega), c0, nw_ns (by omega), ← hn7, nw_ns (by omega), nw_ns (by omega)]
  · rw [w1 6 (by decide) (by decide), f33.1 6 (by decide) (by decide) (by decide), k28 6 (by decide), a2.1 6 (by decide) (by decide) (by decide) (by decide) (by decide) (by decide), nw_nK (by decide), ← hn7, nw_nK (by decide), nw_nK (by decide)]
end N6
