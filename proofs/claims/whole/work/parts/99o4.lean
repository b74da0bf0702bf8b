/-! CALLS THAT ACT: begin, settle, the call script -/
/-- what a call leaves as it was -/
def FZ (n n' : NS) (m m' : YS) : Prop :=
  (∀ K, K ∉ [0, 4, 6, 7, 8, 10, 18, 22, 24, 25, 26, 27, 28, 29, 30, 31, 44, 45, 46, 90, 91, 92, 93, 99] → n' K = n K) ∧ FS (fun x => x ≠ 608 ∧ x ≠ 631) n n' ∧ (∀ s, s ∉ [5, 6, 7, 8, 9, 10, 12, 13, 15, 16, 17, 18] → n' 0 0 s = n 0 0 s)
  ∧ (∀ f, ((89 ≤ f ∧ f ≤ 125) ∨ (127 ≤ f ∧ f ≤ 147) ∨ 184 ≤ f) → m' f = m f) ∧ LYc n n' m m' ∧ LYy m m'
/-- what acts hold between calls -/
def CI (As Bs : Int → Prop) (A B G : Int) (n : NS) (m : YS) : Prop := JA As Bs A B 0 G n m ∧ (n 0 0 17 = -1 ∧ n 6 0 16 = 0) ∧ NIB m
section O4
variable {n n' n'' : NS} {m m' m'' m0 : YS} {A B N N' k b a δ δ' fr to d L r r' q x f v c G G' i : Int} {o e p o' e' p' : Int → Int} {As Bs W S : Int → Prop}
theorem FZ.refl (n : NS) (m : YS) : FZ n n m m := ⟨fun _ _ => rfl, FS.refl _ n, fun _ _ => rfl, fun _ _ => rfl, LYc.refl n m, LYy.refl m⟩
theorem FZ.trans (h : FZ n n' m m') (h' : FZ n' n'' m' m'') : FZ n n'' m m'' := by
  obtain ⟨a1, a2, a3, a4, a5, a6⟩ := h
  obtain ⟨b1, b2, b3, b4, b5, b6⟩ := h'
  exact ⟨fun K c => (b1 K c).trans (a1 K c), a2.trans b2, fun s c => (b3 s c).trans (a3 s c), fun f c => (b4 f c).trans (a4 f c), a5.trans b5, a6.trans b6⟩
theorem FC.fz (h : FC n n' m m') : FZ n n' m m' := by
  obtain ⟨⟨a1, a2, a3⟩, a4, a5, a6⟩ := h
  exact ⟨a1, a2.wid (fun x hx => by omega), a3, fun f hf => a4 f (by omega), a5, a6⟩
/-- rows of the tape and of what is shown -/
theorem FZ.fb {S : Int → Prop} (hB : BI A B n) (hF : FB S n n') (hS : ∀ x, S x → 0 ≤ x ∧ x ≤ 631 ∧ x ≠ 608 ∧ x ≠ 631) (hm : ∀ f, 45 ≤ f → m' f = m f) : FZ n n' m m' := by
  have kk := hF.1
  refine ⟨fun K c => ?_, (FS.fb hF (fun x hx => by have := hS x hx; omega) hB).wid (fun x hx => by have := hS x hx; omega), fun s _ => by rw [kk 0 (by decide) (by decide) (by decide) (by decide) (by decide) (by decide)], fun f hf => hm f (by omega), .inr ⟨by rw [kk 10 (by decide) (by decide) (by decide) (by decide) (by decide) (by decide)], fun f a b => hm f a⟩, .inr ⟨by rw [hm 126 (by decide)], fun f a b => hm f a⟩⟩
  simp only [List.mem_cons, List.not_mem_nil, or_false, not_or] at c
  exact kk K (by omega) (by omega) (by omega) (by omega) (by omega) (by omega)
/-- a row that holds nothing of acts has changed; or what the reference has taken -/
theorem JA.rows {S : Int → Prop} (h : JA As Bs A B δ G n m) (hB' : BI A B n') (hF : FB S n n') (hS : ∀ x, S x → x = 605 ∨ x = 606) (hm : ∀ f, 6 ≤ f → m' f = m f) : JA As Bs A B δ G n' m' := by
  obtain ⟨κ, N, o, e, p, ⟨hJ, hH, hP⟩, h2, h3, ⟨h4, h4'⟩, h5, h6, h7, h8⟩ := h
  have hB := hJ.1
  have hA := hJ.2.1.1
  have hb := hJ.2.1.2.1
  have hS' : ∀ x : Int, S x → 0 ≤ x ∧ x ≤ 631 := fun x hx => by have := hS x hx; omega
  have nS : ∀ x : Int, x ≠ 605 → x ≠ 606 → ¬ S x := fun x a b c => by have := hS x c; omega
  have fq : FQ As Bs (fun _ => False) n n' := FQ.fb hF hS' hB hA hb
  have fs : FS S n n' := FS.fb hF hS' hB
  have kk : ∀ K, K ≠ 4 → K ≠ 90 → K ≠ 91 → K ≠ 92 → K ≠ 93 → K ≠ 99 → n' K = n K := hF.1
  have e0 : n' 0 = n 0 := kk 0 (by decide) (by decide) (by decide) (by decide) (by decide) (by decide)
  have e6 : n' 6 = n 6 := kk 6 (by decide) (by decide) (by decide) (by decide) (by decide) (by decide)
  have e10 : n' 10 = n 10 := kk 10 (by decide) (by decide) (by decide) (by decide) (by decide) (by decide)
  have r : ∀ r, RwE m m' r := fun r => RwE.of (hm 6 (by decide)) (hm 7 (by decide)) (hm 8 (by decide))
  have liv : LIV m m' := LIV.of (hm 45 (by decide)) (hm 46 (by decide)) (hm 55 (by decide))
  have c69 : m 69 0 ≤ m' 69 0 := by rw [hm 69 (by decide)]; exact Int.le_refl _
  refine ⟨κ, N, o, e, p, ⟨hJ.cg hB' fq (FQ7.fb hF hS' hB) (fun _ h => h.elim) (fun K hK => kk K (by omega) (by omega) (by omega) (by omega) (by omega) (by omega)) (fun s _ => by rw [e6]) (fs.bt (by omega) (nS _ (by decide) (by decide))) (fun f a _ => hm f (by omega)) (fun x _ => r x), hH.cg fq (fun _ h => h.elim) (by rw [e6]; exact ⟨rfl, rfl⟩) (kk 27 (by decide) (by decide) (by decide) (by decide) (by decide) (by decide)) ⟨hm 148 (by decide), hm 149 (by decide)⟩ (fun x _ _ => r x), hP.fq fq hJ.2.1.2.2.1.2.1 (fun h => h.elim) (r 1)⟩,
    h2.cg (fun K c => kk K (by omega) (by omega) (by omega) (by omega) (by omega) (by omega)) (fun b x y => fs.bt (by omega) (nS _ (by omega) (by omega))) (fun f a _ => hm f (by omega)), fun k a b => by rw [kk 21 (by decide) (by decide) (by decide) (by decide) (by decide) (by decide)]; exact h3 k a b,
    ⟨h4.cg (by rw [e0]) (kk 44 (by decide) (by decide) (by decide) (by decide) (by decide) (by decide)) (kk 45 (by decide) (by decide) (by decide) (by decide) (by decide) (by decide)) (fun b x y => fs.bt (by omega) (nS _ (by omega) (by omega))) (fun f a _ => hm f (by omega)), h4'.liv h4 (fun f hf => hm f (by omega)) liv c69⟩,
    h5.cg (kk 26 (by decide) (by decide) (by decide) (by decide) (by decide) (by decide)) (by rw [e6]) (fun f a _ => hm f (by omega)), ?_, h7.liv (by rw [e0]) (hm 150 (by decide)) (hm 151 (by decide)) liv c69, ?_⟩
  · unfold JCt at *
    rw [e0, hm 155 (by decide), hm 156 (by decide), hm 157 (by decide)]; exact h6
  · unfold gB at *
    rw [e10, hm 69 (by decide), hm 35 (by decide), hm 155 (by decide), hm 156 (by decide), hm 157 (by decide), hm 167 (by decide)]; exact h8
theorem CI.rows {S : Int → Prop} (h : CI As Bs A B G n m) (hB' : BI A B n') (hF : FB S n n') (hS : ∀ x, S x → x = 605 ∨ x = 606) (hm : ∀ f, 6 ≤ f → m' f = m f) : CI As Bs A B G n' m' := by
  obtain ⟨h1, h2, h3⟩ := h
  refine ⟨h1.rows hB' hF hS hm, ⟨by rw [hF.1 0 (by decide) (by decide) (by decide) (by decide) (by decide) (by decide)]; exact h2.1, by rw [hF.1 6 (by decide) (by decide) (by decide) (by decide) (by decide) (by decide)]; exact h2.2⟩, ?_⟩
  exact h3.fp h1.born (FP.of (fun f a _ => hm f (by omega)))
theorem begin_both (h : CI As Bs A B G n m) :
    ∃ n' m', N_Acts_begin n = some n' ∧ N_Y_begin m = some m' ∧ CI As Bs A B G n' m' ∧ BUD n' m' ∧ (n' 0 0 12 = 0 ∧ n' 0 0 15 = 0 ∧ n' 0 0 16 = 0 ∧ n' 0 0 18 = 0 ∧ n' 4 609 2 = 0) ∧ (m' 152 0 = 0 ∧ m' 153 0 = 0 ∧ m' 154 0 = 0 ∧ m' 163 0 = 0 ∧ m' 158 0 = 0) ∧ FC n n' m m' ∧ FY [152, 153, 154, 158, 163] m m' ∧ (∀ s, s ∉ [9, 12, 15, 16, 18] → n' 0 0 s = n 0 0 s) ∧ n' 6 = n 6 ∧ FB (fun x => x = 609) (nw (nw n 0 0 9 200) 0 0 18 0) (nw (nw (nw n' 0 0 12 (n 0 0 12)) 0 0 15 (n 0 0 15)) 0 0 16 (n 0 0 16)) ∧ n' 10 = n 10 ∧ n' 7 = n 7 := by
  obtain ⟨h1, h2, h3⟩ := h
  generalize hn6 : nw (nw n 0 0 9 200) 0 0 18 0 = n6
  have k6 : ∀ K, K ≠ 0 → n6 K = n K := fun K hK => by rw [← hn6, nw_nK hK, nw_nK hK]
  have s6 : ∀ s, s ≠ 9 → s ≠ 18 → n6 0 0 s = n 0 0 s := fun s u w => by rw [← hn6, nw_ns w, nw_ns u]
  have j6 : JA As Bs A B 0 G n6 m := h1.cg (fun K a _ _ => k6 K a) (fun s hs => s6 s (by omega) (by omega)) (fun s _ => by rw [k6 6 (by decide)]) (fun _ _ => rfl)
  obtain ⟨n11, e11, a1, a2, a3⟩ := cs_clear (b := 609) (by decide) j6.bi
  have j11 := j6.rw9 a1 a2
  generalize hn23 : nw (nw (nw n11 0 0 12 0) 0 0 15 0) 0 0 16 0 = n23
  have k23 : ∀ K, K ≠ 0 → n23 K = n11 K := fun K hK => by rw [← hn23, nw_nK hK, nw_nK hK, nw_nK hK]
  have s23 : ∀ s, s ≠ 12 → s ≠ 15 → s ≠ 16 → n23 0 0 s = n11 0 0 s := fun s x y z => by rw [← hn23, nw_ns z, nw_ns y, nw_ns x]
  have s11 : ∀ s, n11 0 0 s = n6 0 0 s := fun s => by rw [a2.1 0 (by decide) (by decide) (by decide) (by decide) (by decide) (by decide)]
  generalize hm18 : yw (yw (yw (yw (yw m 152 0 0) 153 0 0) 154 0 0) 163 0 0) 158 0 0 = m18
  have fy : FY [152, 153, 154, 158, 163] m m18 := fun g hg => by
    simp only [List.mem_cons, List.not_mem_nil, or_false, not_or] at hg
    rw [← hm18, yw_nF hg.2.2.2.1, yw_nF hg.2.2.2.2, yw_nF hg.2.2.1, yw_nF hg.2.1, yw_nF hg.1]
  have v18 : m18 152 0 = 0 ∧ m18 153 0 = 0 ∧ m18 154 0 = 0 ∧ m18 163 0 = 0 ∧ m18 158 0 = 0 := by
    rw [← hm18]
    refine ⟨?_, ?_, ?_, ?_, yw_eq⟩
    · rw [yw_nF (by decide), yw_nF (by decide), yw_nF (by decide), yw_nF (by decide), yw_eq]
    · rw [yw_nF (by decide), yw_nF (by decide), yw_nF (by decide), yw_eq]
    · rw [yw_nF (by decide), yw_nF (by decide), yw_eq]
    · rw [yw_nF (by decide), yw_eq]
  have j23 : JA As Bs A B 0 G n23 m18 := j11.cg (fun K a _ _ => k23 K a) (fun s hs => s23 s (by omega) (by omega) (by omega)) (fun s _ => by rw [k23 6 (by decide)]) (fun g hg => fy g (fun w => hg (by simp only [List.mem_cons, List.not_mem_nil, or_false] at w ⊢; omega)))
  have e6' : n23 6 = n 6 := by rw [k23 6 (by decide), a2.1 6 (by decide) (by decide) (by decide) (by decide) (by decide) (by decide), k6 6 (by decide)]
  have slot : ∀ s, s ∉ [9, 12, 15, 16, 18] → n23 0 0 s = n 0 0 s := fun s hs => by
    simp only [List.mem_cons, List.not_mem_nil, or_false, not_or] at hs
    rw [s23 s (by omega) (by omega) (by omega), s11, s6 s (by omega) (by omega)]
  refine ⟨n23, m18, ?_, ?_, ⟨j23, ⟨by rw [slot 17 (by decide)]; exact h2.1, by rw [e6']; exact h2.2⟩, ?_⟩, ?_, ⟨?_, ?_, ?_, ?_, ?_⟩, v18, ?_, fy, slot, e6', ?_, ?_, ?_⟩
  · unfold N_Acts_begin st
    dsimp only
    rw [hn6, e11]
    simp only [Option.bind_some]
    rw [hn23]
  · unfold N_Y_begin st
    dsimp only
    rw [hm18]
  · exact h3.fp h1.born (FP.of (fun f a b => fy f (by simp only [List.mem_cons, List.not_mem_nil, or_false, not_or]; omega)))
  · unfold BUD
    rw [v18.2.2.1, v18.2.2.2.2, s23 9 (by decide) (by decide) (by decide), s11, ← hn6, nw_ns (by decide), nw_eq]
    decide
  · rw [← hn23, nw_ns (by decide), nw_ns (by decide), nw_eq]
  · rw [← hn23, nw_ns (by decide), nw_eq]
  · rw [← hn23, nw_eq]
  · rw [s23 18 (by decide) (by decide) (by decide), s11, ← hn6, nw_eq]
  · rw [k23 4 (by decide)]
    have := bt_len (b := 609) (by decide) a1
    rw [a3] at this
    exact this.symm
  · have q1 : FC n n6 m m := FC.k0 (fun K a _ _ => k6 K a) (fun s hs => s6 s (fun w => hs (by rw [w]; decide)) (fun w => hs (by rw [w]; decide))) (fun _ _ _ => rfl) (fun _ _ => rfl) (.inr rfl)
    have q2 : FC n11 n23 m m18 := FC.k0 (fun K a _ _ => k23 K a) (fun s hs => s23 s (fun w => hs (by rw [w]; decide)) (fun w => hs (by rw [w]; decide)) (fun w => hs (by rw [w]; decide))) (fun g a _ => fy g (by simp only [List.mem_cons, List.not_mem_nil, or_false, not_or]; omega)) (fun g a => fy g (by simp only [List.mem_cons, List.not_mem_nil, or_false, not_or]; omega)) (.inr (by rw [fy 126 (by decide)]))
    exact (q1.trans (FC.fb j6.bi a2)).trans q2
  · have : nw (nw (nw n23 0 0 12 (n 0 0 12)) 0 0 15 (n 0 0 15)) 0 0 16 (n 0 0 16) = n11 := by
      funext K i s
      by_cases hK : K = 0
      · subst hK
        rw [nw_app, nw_app, nw_app, ← hn23, nw_app, nw_app, nw_app]
        have z12 := (s11 12).trans (s6 12 (by decide) (by decide))
        have z15 := (s11 15).trans (s6 15 (by decide) (by decide))
        have z16 := (s11 16).trans (s6 16 (by decide) (by decide))
        by_cases c1 : i = 0 ∧ s = 16
        · rw [if_pos ⟨rfl, c1⟩, c1.1, c1.2, z16]
        · rw [if_neg (fun z => c1 z.2)]
          by_cases c2 : i = 0 ∧ s = 15
          · rw [if_pos ⟨rfl, c2⟩, c2.1, c2.2, z15]
          · rw [if_neg (fun z => c2 z.2)]
            by_cases c3 : i = 0 ∧ s = 12
            · rw [if_pos ⟨rfl, c3⟩, c3.1, c3.2, z12]
            · rw [if_neg (fun z => c3 z.2), if_neg (fun z => c1 z.2), if_neg (fun z => c2 z.2), if_neg (fun z => c3 z.2)]
      · rw [nw_nK hK, nw_nK hK, nw_nK hK, k23 K hK]
    rw [this]; exact a2
  · rw [k23 10 (by decide), a2.1 10 (by decide) (by decide) (by decide) (by decide) (by decide) (by decide), k6 10 (by decide)]
  · rw [k23 7 (by decide), a2.1 7 (by decide) (by decide) (by decide) (by decide) (by decide) (by decide), k6 7 (by decide)]
/-- the end of settle -/
theorem settle_fin (h : WYE As Bs A B G n m ∨ WEN As Bs A B G n m) (hc : 0 ≤ c ∧ c + 1404 + 3000 * (200 - m 158 0) ≤ 990000) (hG : G + 2300 * (200 - m 158 0) < 390000000) :
    ∃ n' m', stl (NL_Acts_settle_2 c n) = some n' ∧ N_Y_settle m = some m' ∧ FC n n' m m' ∧ WYE As Bs A B (G + 2300 * (m' 158 0 - m 158 0)) n' m' ∧ (m 158 0 ≤ m' 158 0 ∧ m' 158 0 ≤ 200) := by
  have key : ∃ c' n' m', NL_Acts_settle_2 c n = NL_Acts_settle_2 c' n' ∧ NL_Y_settle_0 m = some m' ∧ FC n n' m m' ∧ c' < 1000000 ∧ (m 158 0 ≤ m' 158 0 ∧ m' 158 0 ≤ 200) ∧ WYE As Bs A B (G + 2300 * (m' 158 0 - m 158 0)) n' m' := by
    rcases h with h | h
    · have hb : m 158 0 ≤ 200 := by rcases h.2.1.2.2 with y | y <;> omega
      refine ⟨c, n, m, rfl, ?_, FC.refl n m, by omega, by omega, ?_⟩
      · unfold NL_Y_settle_0
        refine it_inr ?_
        show nb_Y_settle_0 m = _
        unfold nb_Y_settle_0
        rw [if_pos h.2.2.2.1.2.2]
      · rw [show G + 2300 * (m 158 0 - m 158 0) = G by omega]; exact h
    · obtain ⟨c', n', m', z1, z2, z3, z4, z5, z6, z7⟩ := settle_wen (200 - m 158 0).toNat c G n m (Nat.le_refl _) h hc.1 hc.2 hG
      exact ⟨c', n', m', z1, z2, z3, by omega, z5, z6⟩
  obtain ⟨c', n', m', z1, z2, z3, z4, z5, z6⟩ := key
  have e152 : yw m' 152 0 0 = m' := yw_id z6.2.2.2.1.2.1
  refine ⟨n', m', by rw [z1]; exact stl_end z6 z4, ?_, z3, z6, z5⟩
  unfold N_Y_settle
  rw [z2]
  simp only [Option.bind_some]
  unfold st
  rw [e152]
theorem WYE.ci (h : WYE As Bs A B G n m) : CI As Bs A B G n m := ⟨h.1, h.2.2.1, h.2.2.2.2.2⟩
theorem CI.mono (h : CI As Bs A B G n m) (hG : G ≤ G') : CI As Bs A B G' n m := ⟨h.1.mono hG, h.2⟩
theorem CI.y126 (h : CI As Bs A B G n m) : CI As Bs A B G n (yw m 126 0 0) := ⟨h.1.chd, h.2.1, h.2.2.fp h.1.born (FP.of (fun f a b => yw_nF (by omega)))⟩
/-- behind a script, with no way and no cause -/
theorem run_end (h : (RUN As Bs A B G n m ∧ (n 4 609 2 ≤ n 0 0 12 ∨ m 154 0 = 1)) ∨ WEN As Bs A B G n m) (hs : WEN As Bs A B G n m ∨ (n 0 0 16 ≤ n 0 0 15 ∧ n 0 0 18 = 0)) (hN : WEN As Bs A B G n m ∨ NIB m) : WYE As Bs A B G n m ∨ WEN As Bs A B G n m := by
  rcases h with ⟨h1, h2⟩ | h
  · rcases hs with hs | hs
    · exact .inr hs
    · rcases hN with hN | hN
      · exact .inr hN
      · obtain ⟨a1, a2, a3, a4, a5, a6, a7⟩ := h1
        refine .inl ⟨a1, a3, a4, ⟨a5, a6, a7⟩, ?_, hN⟩
        rcases h2 with y | y
        · exact .inr ⟨y, hs⟩
        · exact .inl y
  · exact .inr h
theorem call_script (hC : CI As Bs A B G n m) (hJ : JTape n m) (hO : JOut n m) (hG : G < 380000000) :
    ∃ r n' m', N_H_script n = some (r, n') ∧ N_Y_script m = some (r, m') ∧ CI As Bs A B (G + 460000) n' m' ∧ JTape n' m' ∧ JOut n' m' ∧ FZ n n' m m' := by
  have hB := hC.1.bi
  obtain ⟨m5, f5, m1, ht, hs, hsz, hc⟩ := take_both hB hJ
  have f5' : ∀ f, f ∉ [1, 2, 3] → m5 f = m f := f5
  have O5 : JOut n m5 := by unfold JOut ys at *; rw [f5' 4 (by decide), f5' 5 (by decide)]; exact hO
  have C5 : CI As Bs A B G n m5 := hC.rows hB (FB.refl (fun x => x = 605) n) (fun x hx => .inl hx) (fun f hf => f5' f (by simp only [List.mem_cons, List.not_mem_nil, or_false, not_or]; omega))
  have z5 : FZ n n m m5 := FZ.fb hB (FB.refl (fun _ => False) n) (fun x hx => hx.elim) (fun f hf => f5' f (by simp only [List.mem_cons, List.not_mem_nil, or_false, not_or]; omega))
  -- the end: the tape is cleared
  have fin : ∀ (r : Int) (n2 : NS) (m6 : YS), CI As Bs A B (G + 460000) n2 m6 → JOut n2 m6 → m6 1 0 = 0 → FZ n n2 m m6 → ∃ n3, nk_H_script_60 r n2 = some (r, n3) ∧ CI As Bs A B (G + 460000) n3 m6 ∧ JTape n3 m6 ∧ JOut n3 m6 ∧ FZ n n3 m m6 := fun r n2 m6 q2 q3 q4 q5 => by
    obtain ⟨n3, k1, k2, k3, k4⟩ := cs_clear (b := 605) (by omega) q2.1.bi
    refine ⟨n3, ?_, q2.rows k2 k3 (fun x hx => .inl hx) (fun _ _ => rfl), JTape_clear k2 k4 q4, q3.fb q2.1.bi k3 (fun x hx => by have hx : x = 605 := hx; omega) (by omega) rfl rfl, q5.trans (FZ.fb q2.1.bi k3 (fun x hx => by have hx : x = 605 := hx; omega) (fun _ _ => rfl))⟩
    unfold nk_H_script_60; rw [k1]; rfl
  rcases hc with ⟨i, i0, i1, c1, c2⟩ | ⟨c1, c2, c3⟩
  · obtain ⟨n3, k1, k2⟩ := fin (-1000 - i) n m5 (C5.mono (by omega)) O5 m1 z5
    refine ⟨-1000 - i, n3, m5, ?_, ?_, k2⟩
    · unfold N_H_script
      rw [c1]
      simp only [Option.bind_some]
      rw [if_neg (by omega)]; exact k1
    · unfold N_Y_script
      rw [c2]
      simp only [Option.bind_some, u2]
      rw [if_neg (by omega)]
      unfold N_Y_wrong ck
      rw [if_pos (by omega)]; rfl
  · obtain ⟨n10, m10, b1, b2, b3, b4, b5, b6, b7, b8, b9, b10, b11, b12, b13⟩ := begin_both C5
    have bt605 : bt n10 605 = bt n 605 := b7.1.2.1.bt (by omega) (by omega)
    have r605 : n10 4 605 = n 4 605 := (b7.1.2.1 605 (by decide) (by decide) (by omega)).1
    obtain ⟨κ, N, o, e, p, _, hT, _⟩ := id b3.1
    have hG0 := hT.1.1.1
    have hN1 := hG0.N1
    have o0 : o 0 = 0 := hG0.o0
    have h45 := (hT.liv (k := 0) (by decide) (by omega))
    rw [o0] at h45
    have hborn := hT.1.born (u := 0) (by decide) (by decide) h45.2
    have e710 : n10 7 0 10 = m10 55 0 := by
      have := (hT.1.1.2.2.2.2.1 0 (by decide) (by omega)).1.2.2.2.2.2
      rw [o0] at this; exact this
    have g69 : m10 69 0 ≤ G := by
      obtain ⟨_, _, _, _, _, _, _, _, _, _, _, _, g⟩ := id b3.1
      exact g.2.1
    have emk : N_Tree_markOf 0 n10 = some (m10 55 0 * 128 + 0) := by
      unfold N_Tree_markOf ix ckL
      rw [e710, if_pos (by decide), if_pos (by omega), if_pos (by omega)]
    have e3 : m10 3 = m5 3 := b8 3 (by decide)
    have e2 : m10 2 = m5 2 := b8 2 (by decide)
    have hlen : (bt n10 605).length ≤ 2000 := by
      rw [bt605]
      have := bt_len (b := 605) (by decide) hB
      omega
    obtain ⟨n21, t1, t2, t3, t4, t5, t6, t7, t8, t9, _, _⟩ := startScript_c (R := 605) (M := m10 55 0 * 128 + 0) b3.1 ⟨by decide, by decide⟩ hlen
    generalize hm15 : yw m10 160 0 (m10 3 0) = m15
    have y15 : ∀ g, g ≠ 160 → m15 g = m10 g := fun g hg => by rw [← hm15, yw_nF hg]
    have e160 : m15 160 0 = m5 3 0 := by rw [← hm15, yw_eq, e3]
    obtain ⟨m18, ec, d1, d2, d3⟩ : ev (NL_Y_script_28 0 m15) (fun m' => FY [159] m15 m' ∧ (∀ j, 0 ≤ j → j < m5 3 0 → m' 159 (0 + j) = m15 2 (0 + j)) ∧ ∀ j, ¬ (0 ≤ j ∧ j < 0 + m5 3 0) → m' 159 j = m15 159 j) := by
      unfold NL_Y_script_28
      refine y_copy (F := 159) (G := 2) (K := m5 3 0) (a := 0) (b := 0) (by decide) hs.1 (fun k m9 f9 k0 k1 => ?_) (fun m9 f9 => ?_)
      · show nb_Y_script_28 k m9 = _
        unfold nb_Y_script_28 ck ix st
        dsimp only
        rw [f9 3 (by decide), y15 3 (by decide), e3, if_pos k1, if_pos (by omega), if_pos (by omega), if_pos (by omega), show (0 : Int) + k = k by omega]
      · show nb_Y_script_28 (m5 3 0) m9 = _
        unfold nb_Y_script_28
        rw [f9 3 (by decide), y15 3 (by decide), e3, if_neg (by omega)]
    generalize hm29 : yw (yw m18 161 0 0) 162 0 (m10 55 0) = m29
    have y29 : ∀ g, g ≠ 161 → g ≠ 162 → m29 g = m18 g := fun g u z => by rw [← hm29, yw_nF z, yw_nF u]
    have fy : FY [159, 160, 161, 162] m10 m29 := fun g hg => by
      simp only [List.mem_cons, List.not_mem_nil, or_false, not_or] at hg
      rw [y29 g hg.2.2.1 hg.2.2.2, d1 g (by simp only [List.mem_cons, List.not_mem_nil, or_false]; exact hg.1), y15 g hg.2.1]
    have y6 : ∀ g, ¬ (159 ≤ g ∧ g ≤ 162) → m29 g = m10 g := fun g hg => fy g (by simp only [List.mem_cons, List.not_mem_nil, or_false, not_or]; omega)
    have e160' : m29 160 0 = m5 3 0 := by rw [y29 160 (by decide) (by decide), d1 160 (by decide)]; exact e160
    have esg : sg (m29 159) 0 (m29 160 0).toNat = bt n 605 := by
      rw [e160']
      unfold bt
      rw [hsz]
      refine sg_cg _ _ _ (fun x hx => ?_)
      rw [y29 159 (by decide) (by decide), d2 x (by omega) (by omega), y15 2 (by decide), e2, ht.2.2 (0 + x) (by omega) (by omega)]
    have hRun : RUN As Bs A B G n21 m29 := by
      refine ⟨t2.cg (fun _ _ _ _ => rfl) (fun _ _ => rfl) (fun _ _ => rfl) (fun g hg => y6 g (fun z => hg (by simp only [List.mem_cons, List.not_mem_nil, or_false]; omega))), JRn.lay t2.bi (by rw [t3, bt605, esg]) (by rw [e160']; exact hs) ?_ ?_ ?_, ?_, ⟨by rw [t5 17 (by decide) (by decide)]; exact b3.2.1.1, by rw [t8]; exact b3.2.1.2⟩, .inl (by rw [y6 163 (by decide)]; exact b6.2.2.2.1), by rw [y6 152 (by decide)]; exact b6.1, by rw [y6 153 (by decide)]; exact b6.2.1⟩
      · intro c hc
        refine sg_mem (P := isTx) _ _ (fun x hx => ?_) c hc
        rw [e160'] at hx
        rw [y29 159 (by decide) (by decide), d2 x (by omega) (by omega), y15 2 (by decide), e2]
        exact c3 _ (by omega) (by omega)
      · rw [t7, ← hm29, yw_nF (show (161 : Nat) ≠ 162 by decide), yw_eq, yw_eq]
        exact ⟨rfl, by decide, hborn.1⟩
      · rw [← hm29, yw_nF (show (161 : Nat) ≠ 162 by decide), yw_eq, yw_eq, hm29]
        refine ⟨by rw [y6 69 (by decide)]; exact hborn.2, fun _ _ => ?_⟩
        rw [y6 46 (by decide)]
        exact b3.2.2.2 h45.2
      · unfold BUD at *
        rw [t5 9 (by decide) (by decide), y6 158 (by decide), y6 154 (by decide)]; exact b4
    have e158 : m29 158 0 = 0 := by rw [y6 158 (by decide)]; exact b6.2.2.2.2
    obtain ⟨c2', n2, m2, r1, r2, r3, r4, r5, r6⟩ := run_both (m29 160 0 + 1).toNat 0 0 G n21 m29 (by omega) hRun t6 (Int.le_refl _) (by omega) (Int.le_refl _) (by omega) (by omega)
    have hN29 : NIB m29 := b3.2.2.fp b3.1.born (FP.of (fun g a b => y6 g (by omega)))
    have hend : WYE As Bs A B (G + 2300 * (m2 158 0 - m29 158 0)) n2 m2 ∨ WEN As Bs A B (G + 2300 * (m2 158 0 - m29 158 0)) n2 m2 := by
      rcases r6 with ⟨q1, q2, q3, q4, q5⟩ | ⟨q1, q2⟩
      · refine run_end (.inl ⟨q1, q4⟩) (.inr ?_) (.inr (hN29.fp (hRun.1.born) q3))
        have z15 : n2 0 0 15 = 0 := by rw [q2.1.1, t5 15 (by decide) (by decide)]; exact b5.2.1
        have z16 : n21 0 0 16 = 0 := by rw [t5 16 (by decide) (by decide)]; exact b5.2.2.1
        have z18 : n21 0 0 18 = 0 := by rw [t5 18 (by decide) (by decide)]; exact b5.2.2.2.1
        rcases q2.2.2 with y | y
        · exact ⟨by omega, by omega⟩
        · rw [if_pos z18] at y; exact ⟨by omega, y.2.1⟩
      · exact .inr q1
    have hcc : c2' + 3000 * (200 - m2 158 0) ≤ 0 + (m29 160 0 + 1 - 0) + 3000 * (200 - m29 158 0) := by
      rcases r6 with ⟨q1, q2, q3, q4, q5⟩ | ⟨q1, q2⟩
      · exact q5
      · omega
    obtain ⟨n26, m38, s1, s2, s3, s4, s5⟩ := settle_fin hend (c := c2') ⟨by omega, by omega⟩ (by omega)
    have cF : CI As Bs A B (G + 460000) n26 (yw m38 126 0 0) := (s4.ci.mono (by omega)).y126
    have fcA : FC n n26 m5 m38 := ((((b7.trans t4).trans (FC.k0 (fun _ _ _ _ => rfl) (fun _ _ => rfl) (fun g a _ => y6 g (by omega)) (fun g a => y6 g (by omega)) (.inr (by rw [y6 126 (by decide)])))).trans r3).trans s3)
    have fcB : FC n26 n26 m38 (yw m38 126 0 0) := FC.k0 (fun _ _ _ _ => rfl) (fun _ _ => rfl) (fun g a b => yw_nF b) (fun g a => yw_nF (by omega)) (.inl yw_eq)
    have fcE := fcA.trans fcB
    have O26 : JOut n26 (yw m38 126 0 0) := by
      unfold JOut at *
      rw [fcE.1.2.1.bt (b := 606) (by omega) (by omega), (fcE.1.2.1 606 (by decide) (by decide) (by omega)).1]
      unfold ys at *
      rw [fcE.2.1 4 (by omega), fcE.2.1 5 (by omega)]; exact O5
    obtain ⟨n3, k1, k2⟩ := fin (n26 0 0 7 - n 0 0 7) n26 (yw m38 126 0 0) cF O26 (by rw [fcE.2.1 1 (by omega)]; exact m1) (z5.trans fcE.fz)
    have cnt : n26 0 0 7 = m38 155 0 ∧ (0 ≤ m38 155 0 ∧ m38 155 0 ≤ G + 460000) := by
      obtain ⟨_, _, _, _, _, _, _, _, _, _, hc, _, g⟩ := (s4.ci.mono (G' := G + 460000) (by omega)).1
      have h1 := hc.1
      exact ⟨by omega, g.2.2.2.2.1⟩
    have cnt0 : n 0 0 7 = m5 155 0 ∧ (0 ≤ m5 155 0 ∧ m5 155 0 ≤ G) := by
      obtain ⟨_, _, _, _, _, _, _, _, _, _, hc, _, g⟩ := C5.1
      have h1 := hc.1
      exact ⟨by omega, g.2.2.2.2.1⟩
    have e155 : m29 155 0 = m5 155 0 := by rw [y6 155 (by decide), b8 155 (by decide)]
    refine ⟨n26 0 0 7 - n 0 0 7, n3, yw m38 126 0 0, ?_, ?_, k2⟩
    · unfold N_H_script
      rw [c1]
      simp only [Option.bind_some]
      rw [if_pos trivial, b1]
      simp only [Option.bind_some]
      rw [emk]
      simp only [Option.bind_some]
      rw [t1]
      simp only [Option.bind_some]
      have eS : N_Acts_settle n21 = some n26 := by
        have : N_Acts_settle n21 = stl (NL_Acts_settle_2 0 n21) := rfl
        rw [this, r1]; exact s1
      rw [eS]
      simp only [Option.bind_some]
      unfold ck
      rw [if_pos (by omega)]; exact k1
    · unfold N_Y_script
      rw [c2]
      simp only [Option.bind_some, u2]
      rw [if_pos (by decide), b2]
      simp only [Option.bind_some]
      unfold st
      dsimp only
      rw [hm15, ec]
      simp only [Option.bind_some]
      rw [yw_nF (show (55 : Nat) ≠ 161 by decide), d1 55 (by decide), y15 55 (by decide), hm29]
      unfold ix
      rw [if_pos (by decide)]
      unfold N_Y_runScript
      rw [r2]
      simp only [Option.bind_some]
      rw [s2]
      simp only [Option.bind_some]
      unfold N_Y_changed st
      simp only [Option.bind_some]
      unfold ck
      rw [yw_nF (show (155 : Nat) ≠ 126 by decide), if_pos (by omega), e155, ← cnt.1, ← cnt0.1]
end O4
