/-! BETWEEN CALLS: resolve, serialise, server, select, screen, count, style, box, word -/
section YZ9
variable {n n' : NS} {m m' : YS} {A B G k v x r δ u N : Int} {o e p : Int → Int} {As Bs : Int → Prop} {X : Option (Int × NS)} {Y : Option (Int × YS)}
/-- resolve -/
theorem JA.res (h : JA As Bs A B δ G n m) (hB' : BI A B n') (hF : FT n n') (hy : FTY m m') : JA As Bs A B δ G n' m' := by
  obtain ⟨κ, N, o, e, p, ⟨hJ, hH, hP⟩, h2, h3, ⟨h4, h4'⟩, h5, h6, h7, h8⟩ := h
  have hB := hJ.1
  have hA := hJ.2.1.1
  have hb := hJ.2.1.2.1
  have a84 : As 1584 := hJ.2.1.2.2.1.2.2.1
  obtain ⟨n1, q0, q1⟩ := hF
  obtain ⟨hB1, fq1, f71, fs1, kk1⟩ : BI A B n1 ∧ FQ As Bs (fun a => a = 1584) n n1 ∧ FQ7 n n1 ∧ FS (fun _ => False) n n1 ∧ (∀ K, K ≠ 99 → n1 K = n K) := by
    rcases q0 with q0 | ⟨s, t, s0, q0⟩
    · rw [q0]; exact ⟨hB, FQ.refl _ _ _ _, fun _ _ _ _ => rfl, FS.refl _ _, fun _ _ => rfl⟩
    · rw [q0]; exact ⟨hB.aw, FQ.aw hA hb a84 rfl s0, FQ7.aw hA a84, FS.aw hA a84 hB, fun K hK => aw_K hK⟩
  have hA1 := hA.fq fq1
  have hb1 := hb.fq fq1
  have hS' : ∀ x : Int, x = 605 ∨ x = 606 → 0 ≤ x ∧ x ≤ 631 := fun x hx => by omega
  have fq : FQ As Bs (fun a => a = 1584) n n' := fq1.trans (FQ.fb q1 hS' hB1 hA1 hb1)
  have f7 : FQ7 n n' := f71.trans fq1 (FQ7.fb q1 hS' hB1)
  have fs : FS (fun x => x = 605 ∨ x = 606) n n' := (fs1.wid (fun x hx => hx.elim)).trans (FS.fb q1 hS' hB1)
  have kk : ∀ K, K ≠ 4 → K ≠ 90 → K ≠ 91 → K ≠ 92 → K ≠ 93 → K ≠ 99 → n' K = n K := fun K a b c d e f => (q1.1 K a b c d e f).trans (kk1 K f)
  have hm : ∀ f, f ∉ [1, 2, 3, 4, 5, 6, 7, 8, 9, 10, 11, 12, 14, 15] → m' f = m f := hy.1
  have hm16 : ∀ f, 16 ≤ f → m' f = m f := fun f hf => hm f (by simp only [List.mem_cons, List.not_mem_nil, or_false, not_or]; omega)
  have e0 : n' 0 = n 0 := kk 0 (by decide) (by decide) (by decide) (by decide) (by decide) (by decide)
  have e6 : n' 6 = n 6 := kk 6 (by decide) (by decide) (by decide) (by decide) (by decide) (by decide)
  have e10 : n' 10 = n 10 := kk 10 (by decide) (by decide) (by decide) (by decide) (by decide) (by decide)
  have r : ∀ r, 1 ≤ r → RwE m m' r := fun r hr => ⟨(hy.2.2 r (by omega)).1, (hy.2.2 r (by omega)).2, fun j a b => hy.2.1 j (by omega)⟩
  have liv : LIV m m' := LIV.of (hm16 45 (by decide)) (hm16 46 (by decide)) (hm16 55 (by decide))
  have c69 : m 69 0 ≤ m' 69 0 := by rw [hm16 69 (by decide)]; exact Int.le_refl _
  have nS : ∀ x : Int, x ≠ 605 → x ≠ 606 → ¬ (x = 605 ∨ x = 606) := fun x a b c => by omega
  refine ⟨κ, N, o, e, p, ⟨hJ.cg hB' fq f7 (fun a ha => by have ha : a = 1584 := ha; omega) (fun K hK => kk K (by omega) (by omega) (by omega) (by omega) (by omega) (by omega)) (fun s _ => by rw [e6]) (fs.bt (by omega) (nS _ (by decide) (by decide))) (fun f a _ => hm16 f (by omega)) (fun x hx => r x (by omega)), hH.cg fq (fun x hx => by have hx : x = 1584 := hx; rw [hx]; decide) (by rw [e6]; exact ⟨rfl, rfl⟩) (kk 27 (by decide) (by decide) (by decide) (by decide) (by decide) (by decide)) ⟨hm16 148 (by decide), hm16 149 (by decide)⟩ (fun x hx _ => r x (by omega)), hP.fq fq hJ.2.1.2.2.1.2.1 (fun h => by have h : (1582 : Int) = 1584 := h; omega) (r 1 (by decide))⟩,
    h2.cg (fun K c => kk K (by omega) (by omega) (by omega) (by omega) (by omega) (by omega)) (fun b x y => fs.bt (by omega) (nS _ (by omega) (by omega))) (fun f a _ => hm16 f (by omega)), fun k a b => by rw [kk 21 (by decide) (by decide) (by decide) (by decide) (by decide) (by decide)]; exact h3 k a b,
    ⟨h4.cg (by rw [e0]) (kk 44 (by decide) (by decide) (by decide) (by decide) (by decide) (by decide)) (kk 45 (by decide) (by decide) (by decide) (by decide) (by decide) (by decide)) (fun b x y => fs.bt (by omega) (nS _ (by omega) (by omega))) (fun f a _ => hm16 f (by omega)), h4'.liv h4 (fun f hf => hm16 f (by omega)) liv c69⟩,
    h5.cg (kk 26 (by decide) (by decide) (by decide) (by decide) (by decide) (by decide)) (by rw [e6]) (fun f a _ => hm16 f (by omega)), ?_, h7.liv (by rw [e0]) (hm16 150 (by decide)) (hm16 151 (by decide)) liv c69, ?_⟩
  · unfold JCt at *
    rw [e0, hm16 155 (by decide), hm16 156 (by decide), hm16 157 (by decide)]; exact h6
  · unfold gB at *
    rw [e10, hm16 69 (by decide), hm16 35 (by decide), hm16 155 (by decide), hm16 156 (by decide), hm16 157 (by decide), hm16 167 (by decide)]; exact h8
theorem FT.kk (h : FT n n') : ∀ K, K ≠ 4 → K ≠ 90 → K ≠ 91 → K ≠ 92 → K ≠ 93 → K ≠ 99 → n' K = n K := fun K a b c d e f => by
  obtain ⟨n1, q0, q1⟩ := h
  rw [q1.1 K a b c d e f]
  rcases q0 with q0 | ⟨s, t, s0, q0⟩
  · rw [q0]
  · rw [q0, aw_K f]
theorem s_resolve (h : INV k n m) : CLS k (N_H_resolve n) (N_Y_resolve m) := by
  have hc := h.chk
  obtain ⟨As, Bs, A, B, G, h1, h2, ⟨h3, h3', h3''⟩, ⟨h4, h4', h4''⟩, h5⟩ := h
  have h1' := h1
  obtain ⟨⟨κ, N, o, e, p, ⟨hJ, hH, hP⟩, hT, hr⟩, hz⟩ := h1
  obtain ⟨r, n', m', q1, q2, q3, q4, q5, q6, q7⟩ := call_resolve hJ.1 h3 h3' hJ.2.1.1 hJ.2.1.2.2.1.2.1 hJ.2.1.2.2.1.2.2.1 hP
  have kk := q6.kk
  have hm : ∀ f, f ∉ [1, 2, 3, 4, 5, 6, 7, 8, 9, 10, 11, 12, 14, 15] → m' f = m f := q7.1
  have hm16 : ∀ f, 16 ≤ f → m' f = m f := fun f hf => hm f (by simp only [List.mem_cons, List.not_mem_nil, or_false, not_or]; omega)
  have hC : CI As Bs A B G n' m' := ⟨h1'.1.res q3 q6 q7, by rw [kk 0 (by decide) (by decide) (by decide) (by decide) (by decide) (by decide), kk 6 (by decide) (by decide) (by decide) (by decide) (by decide) (by decide)]; exact h1'.2.1, h1'.2.2.fp h1'.1.born (FP.of (fun f a b => hm16 f (by omega)))⟩
  have g := y_N_Y_resolve KYt.refl _ q2
  refine ⟨r, n', m', q1, q2, As, Bs, A, B, G, hC, by omega, ⟨q4, q5, h3''.cg (by rw [kk 11 (by decide) (by decide) (by decide) (by decide) (by decide) (by decide)]) (kk 47 (by decide) (by decide) (by decide) (by decide) (by decide) (by decide)) (hm16 184 (by decide)) (hm16 185 (by decide))⟩, ⟨?_, h4'.keep h1' hC (k_N_H_resolve KRw.refl _ q1) (kk 3 (by decide) (by decide) (by decide) (by decide) (by decide) (by decide)) (kk 5 (by decide) (by decide) (by decide) (by decide) (by decide) (by decide)) (kk 9 (by decide) (by decide) (by decide) (by decide) (by decide) (by decide)) (kk 41 (by decide) (by decide) (by decide) (by decide) (by decide) (by decide)) (fun f hf => hm16 f (by omega)) (.inr ⟨?_, fun f x y => hm16 f (by omega)⟩) (.inr ⟨by rw [hm16 126 (by decide)], fun f x y => hm16 f (by omega)⟩), c_N_H_resolve hc _ q1⟩, ⟨by rw [hm16 25 (by decide)]; omega, tape_le g ⟨h5.2, h3.2.2.1⟩⟩⟩
  · unfold SHc at *
    rw [kk 9 (by decide) (by decide) (by decide) (by decide) (by decide) (by decide)]; exact h4
  · rw [kk 10 (by decide) (by decide) (by decide) (by decide) (by decide) (by decide)]
/-- a call that looks at the layout -/
theorem INV.fl (h : INV k n m) (run : ∀ As Bs A B G, CI As Bs A B G n m → SHc n → LAYI n m → CHK n → ∃ r n' m', X = some (r, n') ∧ Y = some (r, m') ∧ CI As Bs A B G n' m' ∧ SHc n' ∧ LAYI n' m' ∧ FZp n n' m m') : CLS k X Y := by
  obtain ⟨As, Bs, A, B, G, h1, h2, ⟨h3, h3', h3''⟩, ⟨h4, h4', h4''⟩, h5⟩ := h
  obtain ⟨r, n', m', q1, q2, q3, q4, q5, q6⟩ := run As Bs A B G h1 h4 h4' h4''
  have e1 : m' 1 = m 1 := q6.2.2.1 1 (by omega)
  have e25 : m' 25 = m 25 := q6.2.2.1 25 (by omega)
  refine ⟨r, n', m', q1, q2, As, Bs, A, B, G, q3, by omega, ⟨?_, h3'.zp q6, h3''.cg (by rw [q6.1 11 (by decide)]) (q6.1 47 (by decide)) (q6.2.2.1 184 (by omega)) (q6.2.2.1 185 (by omega))⟩, ⟨q4, q5, fun w x y => by rw [q6.2.2.2 w 16 (by decide) (by decide), q6.2.2.2 w 0 (by decide) (by decide)]; exact h4'' w x y⟩, by rw [e1, e25]; omega⟩
  have g := q6.2.1 605 (by decide) (by decide) (by decide)
  have e : bt n' 605 = bt n 605 := FS.bt q6.2.1 (by decide) (by decide)
  unfold JTape ys at *
  rw [e, g.1, q6.2.2.1 0 (by omega), e1]; exact h3
theorem FZl.zp (h : FZl n n' m m') : FZp n n' m m' := ⟨h.1, h.2.1, fun f hf => h.2.2.1 f (by omega), h.2.2.2⟩
theorem s_style (h : INV k n m) : CLS k (N_H_style v u n) (N_Y_style v u m) := h.fl (fun As Bs A B G hC hH hI _ => by
  obtain ⟨r, n', m', q1, q2, q3, q4, q5, q6⟩ := call_style (v := v) (u := u) hC hH hI
  exact ⟨r, n', m', q1, q2, q3, q4, q5, q6.zp⟩)
theorem s_box (h : INV k n m) : CLS k (N_H_box v u n) (N_Y_box v u m) := h.fl (fun As Bs A B G hC hH hI _ => by
  obtain ⟨r, n', m', q1, q2, q3, q4, q5, q6⟩ := call_box (v := v) (u := u) hC hH hI
  exact ⟨r, n', m', q1, q2, q3, q4, q5, q6.zp⟩)
theorem s_word (h : INV k n m) : CLS k (N_H_word v u n) (N_Y_word v u m) := h.fl (fun As Bs A B G hC hH hI _ => by
  obtain ⟨r, n', m', q1, q2, q3, q4, q5, q6⟩ := call_word (v := v) (u := u) hC hH hI
  exact ⟨r, n', m', q1, q2, q3, q4, q5, q6.zp⟩)
theorem s_count (h : INV k n m) : CLS k (N_H_count v n) (N_Y_count v m) := by
  by_cases hv : v = 14 ∨ v = 16
  · exact h.fl (fun As Bs A B G hC hH hI _ => by
      obtain ⟨r, n', m', q1, q2, q3, q4, q5, q6⟩ := call_count2 (v := v) hC hH hI hv
      exact ⟨r, n', m', q1, q2, q3, q4, q5, q6.zp⟩)
  · have h0 := h
    obtain ⟨As, Bs, A, B, G, h1, h2, h3, h4, h5⟩ := h
    obtain ⟨r, q1, q2⟩ := call_count (v := v) h1 (by omega) (by omega)
    exact CLS.same h0 q1 q2
theorem s_server (h : INV k n m) (hk : k ≤ 64) : CLS k (N_H_server n) (N_Y_server m) := by
  have hc := h.chk
  obtain ⟨As, Bs, A, B, G, h1, h2, ⟨h3, h3', h3''⟩, ⟨h4, h4', h4''⟩, h5⟩ := h
  obtain ⟨r, n', m', As', Bs', q1, q2, q3, q4, q5, z1, z2, z3⟩ := call_server h1 h3 h3' (by omega) (by omega)
  have g := y_N_Y_server KYt.refl _ q2
  refine ⟨r, n', m', q1, q2, As', Bs', A + 112, B + 2100, G + 6, q3, by omega, ⟨q4, q5, h3''.cg (by rw [z1 11 (by decide)]) (z1 47 (by decide)) (z3 184 (by decide)) (z3 185 (by decide))⟩, ⟨?_, h4'.keep h1 q3 (k_N_H_server KRw.refl _ q1) (z1 3 (by decide)) (z1 5 (by decide)) (z1 9 (by decide)) (z1 41 (by decide)) (fun f hf => z3 f (by omega)) (.inr ⟨by rw [z1 10 (by decide)], fun f x y => z3 f (by omega)⟩) (.inr ⟨by rw [z3 126 (by decide)], fun f x y => z3 f (by omega)⟩), c_N_H_server hc _ q1⟩, ⟨by have e : m' 25 0 = m 25 0 := g.2; omega, tape_le g ⟨h5.2, h3.2.2.1⟩⟩⟩
  unfold SHc at *
  rw [z1 9 (by decide)]; exact h4
theorem s_select (h : INV k n m) : CLS k (N_H_select n) (N_Y_select m) := by
  have hc := h.chk
  obtain ⟨As, Bs, A, B, G, h1, h2, ⟨h3, h3', h3''⟩, ⟨h4, h4', h4''⟩, h5⟩ := h
  obtain ⟨r, n', m', q1, q2, q3, q4, q5, q6, z1, z2, z3, z4, z5⟩ := call_select h1 h3 h3' h4 h3''
  have g := y_N_Y_select KYt.refl _ q2
  have zf : ∀ f, 4 ≤ f → f ≠ 90 → f ≠ 91 → f ≠ 92 → f ≠ 93 → f ≠ 94 → f ≠ 95 → f ≠ 96 → f ≠ 97 → f ≠ 100 → f < 184 → m' f = m f := fun f a b c d e1 e2 e3 e4 e5 e6 e7 => z5 f (by simp only [List.mem_cons, List.not_mem_nil, or_false, not_or]; omega)
  have zg : ∀ f, (45 ≤ f ∧ f ≤ 89) ∨ (105 ≤ f ∧ f ≤ 126) → m' f = m f := fun f hf => zf f (by omega) (by omega) (by omega) (by omega) (by omega) (by omega) (by omega) (by omega) (by omega) (by omega) (by omega)
  refine ⟨r, n', m', q1, q2, As, Bs, A, B, G, q3, by omega, ⟨q4, q5, q6⟩, ⟨?_, h4'.keep h1 q3 (k_N_H_select KRw.refl _ q1) (z1 3 (by decide)) (z1 5 (by decide)) (z1 9 (by decide)) (z1 41 (by decide)) (fun f hf => zg f (by omega)) (.inr ⟨z4 6 (by decide) (by decide), fun f x y => zg f (by omega)⟩) (.inr ⟨by rw [zg 126 (by omega)], fun f x y => zg f (by omega)⟩), c_N_H_select hc _ q1⟩, ⟨by have e : m' 25 0 = m 25 0 := g.2; omega, tape_le g ⟨h5.2, h3.2.2.1⟩⟩⟩
  unfold SHc at *
  rw [z1 9 (by decide)]; exact h4
theorem s_screen (h : INV k n m) : CLS k (N_H_screen v n) (N_Y_screen v m) := by
  have h0 := h
  obtain ⟨As, Bs, A, B, G, h1, h2, ⟨h3, h3', h3''⟩, ⟨h4, h4', h4''⟩, h5⟩ := h
  obtain ⟨hA, hBv, hR, hS, hSc⟩ := h4'
  obtain ⟨r, n', m', q1, q2, q3, q4, q5, q6, q7, q8⟩ := call_screen (v := v) h1 hSc
  have q7' : ∀ f, f ∉ [106, 126] → m' f = m f := q7
  rcases q8 with ⟨e1, e2⟩ | ⟨e1, e2⟩
  · rw [e1] at q1
    rw [e2] at q2
    exact CLS.same h0 q1 q2
  · have hN : 0 ≤ n' 10 0 6 := by
      obtain ⟨⟨κ, N, o, e, p, hNt, hT, hr⟩, hz⟩ := q3
      exact hT.2.2.2
    have sm : ∀ f, 45 ≤ f → f ≤ 63 → m' f = m f := fun f x y => q7' f (by simp only [List.mem_cons, List.not_mem_nil, or_false, not_or]; omega)
    refine ⟨r, n', m', q1, q2, As, Bs, A, B, G, q3, by omega, ⟨?_, ?_, h3''.cg (by rw [q5 11 (by decide)]) (q5 47 (by decide)) (q7' 184 (by decide)) (q7' 185 (by decide))⟩, ⟨?_, ⟨fun z => ?_, fun z => by omega, fun z => absurd e2 z, ⟨⟨?_, fun a x y => by rw [q5 3 (by decide)]; exact hS.1.2 a x y⟩, by omega, by rw [q5 9 (by decide), q5 10 (by decide)]; exact hS.2.2⟩, q4⟩, fun w x y => by rw [q5 7 (by decide)]; exact h4'' w x y⟩, by rw [q7' 25 (by decide), q7' 1 (by decide)]; omega⟩
    · unfold JTape bt ys at *
      rw [q5 99 (by decide), q5 4 (by decide), q7' 0 (by decide), q7' 1 (by decide)]; exact h3
    · unfold JOut bt ys at *
      rw [q5 99 (by decide), q5 4 (by decide), q7' 4 (by decide), q7' 5 (by decide)]; exact h3'
    · unfold SHc at *
      rw [q5 9 (by decide)]; exact h4
    · rw [q5 9 (by decide), q5 10 (by decide)] at z
      obtain ⟨N, o, e, p, g1, g2⟩ := hA z
      refine ⟨N, o, e, p, by rw [sm 49 (by decide) (by decide), sm 50 (by decide) (by decide), sm 52 (by decide) (by decide)]; exact g1, fun m0 h0 => ?_⟩
      obtain ⟨m0', c1, c2, c3, c4⟩ := g2 m0 (fun f x y => (h0 f x y).trans (sm f x y))
      exact ⟨m0', c1, c2.cg (q5 41 (by decide)) rfl rfl, by rw [q5 9 (by decide)]; exact c3, c4⟩
    · have := hS.1.1
      unfold WL1 WLc at *
      rw [q6 5 (by decide) (by decide), q6 9 (by decide) (by decide), q6 6 (by decide) (by decide), q5 92 (by decide), q5 93 (by decide)]; exact this
end YZ9
