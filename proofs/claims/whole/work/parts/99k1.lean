/-! FETCHING, in both -/
section K1
variable {n n' n'' : NS} {m m' m'' : YS} {A B a i v1 v2 k l t : Int} {nm q mk : List Int} {ss : List (List Int)} {As Bs W S : Int → Prop} {κ : Int → Int}
/-- what both hold while they fetch -/
def JFe (κ : Int → Int) (As Bs : Int → Prop) (A B : Int) (n : NS) (m : YS) : Prop := BI A B n ∧ JNb κ As Bs n m ∧ JAs n m ∧ JSnt n m
/-- the ADDRESS that is FETCHED -/
def LST (n : NS) (m : YS) : Prop := AdE n m 1586 4 []
theorem GOT.rE (h : GOT As Bs n m a i) (hF : ∀ f, 16 ≤ f → f ≤ 35 → m' f = m f) (hr : ∀ r, RwE m m' r) (hb : BsI n As Bs) : GOT As Bs n m' a i := h.cg (FQ.refl As Bs (fun _ => False) n) (fun _ h => h.elim) hb (fun f hf => hF f (by omega) (by omega)) (fun r _ => hr r)
theorem ask_both (h : JFe κ As Bs A B n m) (hL : LST n m) (h35 : m 35 0 < 900000000) :
    ∃ a n' m' κ', N_Net_ask n = some (a, n') ∧ (NL_Y_fetch_28 v2 0 (yw m 44 0 (-1))).bind (fun m6 => if m6 44 0 < 0 then N_Y_request m6 else some m6) = some m' ∧ JFe κ' As Bs A B n' m' ∧ GOT As Bs n' m' a (m' 44 0) ∧ LST n' m' ∧ FEn As Bs n n' ∧ FEy m m' 1 := by
  obtain ⟨hB, hJ, hAs, hSn⟩ := h
  obtain ⟨nm, ss, q, hW, hC, hR⟩ := hL
  generalize hm1 : yw m 44 0 (-1) = m1
  have f1 : FY [44] m m1 := fun g hg => by rw [← hm1]; exact yw_nF (by simp only [List.mem_cons, List.not_mem_nil, or_false] at hg; exact hg)
  have r1 : ∀ r, RwE m m1 r := fun r => RwE.of (f1 6 (by decide)) (f1 7 (by decide)) (f1 8 (by decide))
  have g1 : ∀ f, 16 ≤ f → f ≤ 35 → m1 f = m f := fun f a b => f1 f (by simp only [List.mem_cons, List.not_mem_nil, or_false]; omega)
  have hJ1 : JNb κ As Bs n m1 := hJ.cg (FQ.refl As Bs (fun _ => False) n) (FQ7.refl n) (fun _ h => h.elim) (fun _ _ => rfl) (fun _ _ => rfl) g1 (fun r _ => r1 r)
  have hR1 := hR.rw hW (r1 4)
  obtain ⟨m6, e28, f6, h6⟩ := y_fetch28 (v2 := v2) hJ1 hR1 hW (by rw [← hm1, yw_eq])
  rw [e28]
  simp only [Option.bind_some]
  have f16 : FY [44] m m6 := f1.trans f6
  have r6 : ∀ r, RwE m m6 r := fun r => RwE.of (f16 6 (by decide)) (f16 7 (by decide)) (f16 8 (by decide))
  have g6 : ∀ f, 16 ≤ f → f ≤ 35 → m6 f = m f := fun f a b => f16 f (by simp only [List.mem_cons, List.not_mem_nil, or_false]; omega)
  have hJ6 : JNb κ As Bs n m6 := hJ.cg (FQ.refl As Bs (fun _ => False) n) (FQ7.refl n) (fun _ h => h.elim) (fun _ _ => rfl) (fun _ _ => rfl) g6 (fun r _ => r6 r)
  have hR6 := hR.rw hW (r6 4)
  have fe6 : FEy m m6 0 := ⟨f16.sub (by decide), fun r _ _ _ _ => r6 r, by rw [f16 35 (by decide)]; exact Int.le_refl _, by rw [f16 35 (by decide)]; omega⟩
  obtain ⟨x, ex, hx⟩ := c_ask2 hJ1 hC hW
  cases x with
  | inr u =>
    cases u
    have hx : ∀ j, 0 ≤ j → j < m1 26 0 → ¬ (rowL m1 (18 + κ j) = adL nm ss q ∧ m1 25 0 < m1 28 (κ j)) := hx
    have h44 : m6 44 0 = -1 := by
      rcases h6 with y | ⟨k, y0, y1, y2, y3⟩
      · exact y.1
      · obtain ⟨j, j0, j1, je⟩ := hJ1.2.2.2.2.1.2.2.2 k y0 y1
        rw [← je] at y2
        exact absurd y2 (hx j j0 j1)
    rw [if_pos (by omega)]
    obtain ⟨a, n', m', κ', b1, b2, b3, b4, b5, b6, b7, b8, b9, b10, b11⟩ := request_both hJ6 hB hC hW hR6 h44 (by rw [f16 35 (by decide)]; exact h35) ex
    exact ⟨a, n', m', κ', b1, b2, ⟨b3, b4, b10, b11⟩, b5, ⟨nm, ss, q, hW, b6, b7⟩, b8, by simpa using fe6.trans b9⟩
  | inl z =>
    obtain ⟨x0, x1, x2, x3⟩ : 0 ≤ z ∧ z < m1 26 0 ∧ rowL m1 (18 + κ z) = adL nm ss q ∧ m1 25 0 < m1 28 (κ z) := hx
    have h44 : m6 44 0 = 12 + κ z := by
      rcases h6 with y | ⟨k, y0, y1, y2, y3⟩
      · have := hJ1.2.2.2.2.1.2.1 z x0 x1
        exact absurd ⟨x2, x3⟩ (y.2 (κ z) this.1.1 this.1.2)
      · obtain ⟨j, j0, j1, je⟩ := hJ1.2.2.2.2.1.2.2.2 k y0 y1
        rw [← je] at y2 y3
        by_cases w : j = z
        · rw [y3, w]
        · exact absurd (y2.1.trans x2.symm) (hJ1.2.2.2.2.1.dis j0 j1 x0 x1 w)
    have hk := hJ6.2.2.2.2.1.2.1 z x0 (by rw [f6 26 (by decide)]; exact x1)
    have hb8 := hJ6.2.2.2.2.1.1
    have hz8 : z < 8 := by rw [f6 26 (by decide)] at hb8; omega
    rw [if_neg (by omega)]
    refine ⟨n 24 0 z, n, m6, κ, ?_, rfl, ⟨hB, hJ6, ?_, ?_⟩, .inr ⟨by omega, by omega, ?_⟩, ⟨nm, ss, q, hW, hC, hR6⟩, FEn.refl As Bs n, ⟨fe6.1, fe6.2.1, fe6.2.2.1, by have := fe6.2.2.2; omega⟩⟩
    · unfold N_Net_ask
      rw [ex]
      show ix z 8 (nn (n 24 0 z) (some (n 24 0 z, n))) = _
      unfold ix nn
      rw [if_pos ⟨x0, hz8⟩, if_pos hk.2.1.1.1]
    · unfold JAs AR at *
      rw [f16 35 (by decide)]
      rcases hAs with y | ⟨y0, nm2, ss2, q2, mk2, w2, d2, r2⟩
      · exact .inl y
      · exact .inr ⟨y0, nm2, ss2, q2, mk2, w2, d2, r2.rw w2 (r6 2)⟩
    · unfold JSnt ys at *
      rw [f16 36 (by decide), f16 37 (by decide)]; exact hSn
    · have := hk.2.1
      rw [h44, show 6 + (12 + κ z) = 18 + κ z by omega, show 46 + (12 + κ z) = 58 + κ z by omega]; exact this
/-- the next ADDRESS -/
theorem JFe.last {s t' : Int → Int} (h : JFe κ As Bs A B n m) (hs : s 0 = n 99 1586 0) (hy : FY [6, 7, 8, 44] m m') (hr : ∀ r, r ≠ 4 → RwE m m' r) : JFe κ As Bs A B (aw n 1586 (n 99 1586 0) s t') m' ∧ FEn As Bs n (aw n 1586 (n 99 1586 0) s t') ∧ FEy m m' 0 := by
  obtain ⟨hB, hJ, hAs, hSn⟩ := h
  have hA := hJ.1
  have h86 := hJ.2.2.1.2.2.2
  have fq : FQ As Bs (fun x => x = 1578 ∨ x = 1586) n (aw n 1586 (n 99 1586 0) s t') := FQ.aw hA hJ.2.1 h86 (.inr rfl) hs
  have hch := (hA.chg (s := s) (t := t') h86 hs).2 1578 hJ.2.2.1.1 (by decide)
  refine ⟨⟨hB.aw, hJ.cg fq (FQ7.aw hA h86) (fun a ha => by omega) (fun K hK => aw_K (by omega)) (fun s _ => by rw [aw_K (by decide)]) (fun f a b => hy f (by simp only [List.mem_cons, List.not_mem_nil, or_false, not_or]; omega)) (fun r h => hr r (by omega)), ?_, ?_⟩, ⟨fq, fun K c => aw_K (fun z => c (by rw [z]; decide)), fun s _ _ _ => by rw [aw_K (by decide)], FS.aw hA h86 hB⟩, ⟨hy.sub (by decide), fun r _ b _ _ => hr r b, by rw [hy 35 (by decide)]; exact Int.le_refl _, by rw [hy 35 (by decide)]; omega⟩⟩
  · unfold JAs AR CA at *
    rw [hy 35 (by decide), hch.1, hch.2]
    rcases hAs with y | ⟨y0, nm2, ss2, q2, mk2, w2, d2, r2⟩
    · exact .inl y
    · exact .inr ⟨y0, nm2, ss2, q2, mk2, w2, d2, r2.rw w2 (hr 2 (by decide))⟩
  · unfold JSnt ys at *
    rw [hy 36 (by decide), hy 37 (by decide), hA.bts hB h86 (b := 607) (by omega)]; exact hSn
/-- one turn of both loops -/
theorem fetchOne (h : JFe κ As Bs A B n m) (hL : LST n m) (h35 : m 35 0 < 900000000) (ht : 1 ≤ t ∧ t ≤ 6) :
    ∃ a n1 m1 κ1, JFe κ1 As Bs A B n1 m1 ∧ LST n1 m1 ∧ FEn As Bs n n1 ∧ FEy m m1 1
      ∧ ((nb_Net_fetch_17 t n = some (.inr (.inl (a, n1))) ∧ nb_Y_fetch_17 1 (t - 1) m = some (.inl (0, t, m1)) ∧ GOT As Bs n1 m1 a (m1 44 0))
        ∨ (t < 6 ∧ ∃ n2 m2, nb_Net_fetch_17 t n = some (.inl (t + 1, n2)) ∧ nb_Y_fetch_17 1 (t - 1) m = some (.inl (1, t, m2)) ∧ JFe κ1 As Bs A B n2 m2 ∧ LST n2 m2 ∧ FEn As Bs n n2 ∧ FEy m m2 1)
        ∨ (t = 6 ∧ nb_Net_fetch_17 t n = some (.inl (t + 1, n1)) ∧ nb_Y_fetch_17 1 (t - 1) m = some (.inl (0, t, yw m1 44 0 (-1))))) := by
  obtain ⟨a, n1, m1, κ1, e1, e2, j1, g1, l1, f1, y1⟩ := ask_both (v2 := t - 1) h hL h35
  have eY : nb_Y_fetch_17 1 (t - 1) m = nk_Y_fetch_86 (t - 1) m1 := by
    unfold nb_Y_fetch_17 st
    rw [if_neg (by decide)]
    dsimp only
    have : ∀ (x : Option YS), x.bind (fun m6 => if m6 44 0 < 0 then N_Y_request m6 else some m6) = some m1 → (x.bind fun m6 => if m6 44 0 < 0 then (N_Y_request m6).bind fun m12 => nk_Y_fetch_86 (t - 1) m12 else nk_Y_fetch_86 (t - 1) m6) = nk_Y_fetch_86 (t - 1) m1 := fun x hx => by
      cases x with
      | none => cases hx
      | some y =>
        simp only [Option.bind_some] at hx ⊢
        by_cases z : y 44 0 < 0
        · rw [if_pos z] at hx ⊢
          rw [hx]; rfl
        · rw [if_neg z] at hx ⊢
          cases hx; rfl
    exact this _ e2
  have hty : n1 92 0 a = 102 := by
    rcases g1 with y | y
    · rw [y.2]; exact j1.2.1.2.2.2.2.2.1.1.2
    · exact y.2.2.1.2.2
  have eC : nb_Net_fetch_17 t n = if n1 99 a 4 < 0 then some (.inr (.inl (a, n1))) else if t < 6 then (if n1 99 a 4 < 0 then none else ty n1 1586 101 ((N_Address_copy 1586 (n1 99 a 4) n1).bind fun n23 => ty n23 1586 101 ((N_Address_dropMark 1586 n23).bind fun n30 => ck (t + 1) (some (.inl (t + 1, n30)))))) else ck (t + 1) (some (.inl (t + 1, n1))) := by
    unfold nb_Net_fetch_17
    rw [if_neg (by omega), e1]
    show (if n1 92 0 a = 102 then (if n1 99 a 4 < 0 then _ else if t < 6 then (if n1 92 0 a = 102 then _ else none) else _) else none) = _
    rw [if_pos hty, if_pos hty]
  have hb := j1.2.1.2.1
  have e0 : nk_Y_fetch_109 (t - 1) m1 = some (.inl (0, t, m1)) := by
    unfold nk_Y_fetch_109 nk_Y_fetch_110 nk_Y_fetch_127 ck
    rw [if_pos rfl, if_pos rfl, if_pos (by omega), show t - 1 + 1 = t by omega]
  rcases g1 with ⟨y1', y2'⟩ | ⟨y1', y2', y3'⟩
  · refine ⟨a, n1, m1, κ1, j1, l1, f1, y1, .inl ⟨?_, ?_, .inl ⟨y1', y2'⟩⟩⟩
    · rw [eC, if_pos (by rw [y2', j1.2.1.2.2.2.2.2.1.2.2.2.1]; decide)]
    · rw [eY]; unfold nk_Y_fetch_86
      rw [if_pos (by omega)]; exact e0
  · rcases y3'.2.2.1 with z | z
    · refine ⟨a, n1, m1, κ1, j1, l1, f1, y1, .inl ⟨?_, ?_, .inr ⟨y1', y2', y3'⟩⟩⟩
      · rw [eC, if_pos z.2]
      · rw [eY]; unfold nk_Y_fetch_86 ix
        rw [if_neg (by omega), if_pos ⟨y1', y2'⟩, if_pos z.1]; exact e0
    · have hnn : ¬ n1 99 a 4 < 0 := by have := z.2.2.1; omega
      have e1' : nk_Y_fetch_86 (t - 1) m1 = nk_Y_fetch_110 (t - 1) 1 m1 := by
        unfold nk_Y_fetch_86 ix
        rw [if_neg (by omega), if_pos ⟨y1', y2'⟩, if_neg (by rw [z.1]; decide)]
      by_cases h6 : t < 6
      · obtain ⟨_, zA, zB, nm, ss, q, mk, w, d, r⟩ := z
        have hA := j1.2.1.1
        have h86 := j1.2.1.2.2.1.2.2.2
        have hAC := (hA 1586 h86).1
        obtain ⟨n2, ec, s, t', hs0, en2, hCs⟩ := c_copy hA h86 zA (by omega) d w
        obtain ⟨m2, ey, y2⟩ := y_copyRow (m := m1) (to := 4) (fr := 46 + m1 44 0) (by decide) (by omega) (by omega)
        obtain ⟨j2, f2, fy2⟩ := j1.last (s := s) (t' := t') hs0 (y2.1.sub (by decide)) (fun r hr => RwE.cp y2 hr)
        rw [← en2] at j2 f2
        have hA2 := j2.2.1.1
        have hne := hAC.ne
        have e20 : n2 99 1586 0 = n1 99 1586 0 := by rw [en2, aw_a hne]; exact hs0
        have hC2 : CA n2 1586 nm ss q mk := by
          unfold CA
          rw [en2, aw_a hne, hs0, aw_T]; exact hCs
        obtain ⟨n3, ed, s3, t3, hs3, en3, hC3⟩ := c_dropMark hA2 h86 hC2
        have hR2 := y2.made r w.nomk
        obtain ⟨j3, f3, fy3⟩ := j2.last (s := s3) (t' := t3) (m' := m2) hs3 (fun _ _ => rfl) (fun r _ => RwE.refl m2 r)
        rw [← en3] at j3 f3
        have hne2 := (hA2 1586 h86).1.ne
        refine ⟨a, n1, m1, κ1, j1, l1, f1, y1, .inr (.inl ⟨h6, n3, m2, ?_, ?_, j3, ⟨nm, ss, q, w.nomk, ?_, hR2⟩, (f1.trans f2).trans f3, ?_⟩)⟩
        · rw [eC, if_neg hnn, if_pos h6, if_neg hnn]
          unfold ty ck
          rw [if_pos hAC.2.1, ec]
          simp only [Option.bind_some]
          rw [if_pos (hA2 1586 h86).1.2.1, ed]
          simp only [Option.bind_some]
          rw [if_pos (by omega)]
        · rw [eY, e1']
          unfold nk_Y_fetch_110 nk_Y_fetch_127
          rw [if_neg (by decide), if_neg (by omega), if_neg (by decide)]
          have : ∀ w0, w0 = 46 + m1 44 0 → nk_Y_fetch_162 1 (t - 1) w0 4 m1 = some (.inl (1, t, m2)) := fun w0 hw => by
            unfold nk_Y_fetch_162 ck
            rw [hw, ey]
            simp only [Option.bind_some]
            rw [if_pos (by omega), show t - 1 + 1 = t by omega]
          unfold ck
          by_cases h12 : m1 44 0 < 12
          · rw [if_pos h12, if_pos (by omega)]; exact this _ rfl
          · rw [if_neg h12, if_pos (by omega), if_pos (by omega)]; exact this _ (by omega)
        · unfold CA
          rw [en3, aw_a hne2, hs3, aw_T]; exact hC3
        · have := (y1.trans fy2).trans fy3
          simpa using this
      · have h6' : t = 6 := by omega
        refine ⟨a, n1, m1, κ1, j1, l1, f1, y1, .inr (.inr ⟨h6', ?_, ?_⟩)⟩
        · rw [eC, if_neg hnn, if_neg h6]; unfold ck
          rw [if_pos (by omega)]
        · rw [eY, e1']
          unfold nk_Y_fetch_110 nk_Y_fetch_127 st ck
          dsimp only
          rw [if_neg (by decide), if_pos (by omega), if_pos rfl, if_pos (by omega), show t - 1 + 1 = t by omega]
theorem fetchLoop : ∀ d : Nat, ∀ t n m κ, t + (d : Int) = 6 → 1 ≤ t → JFe κ As Bs A B n m → LST n m → m 35 0 + d < 900000000 →
    ∃ a n' m' κ', (NL_Net_fetch_17 t n).bind (us (u2 fun z15 n16 => some (z15, n16)) (fun n22 => some (1570, n22))) = some (a, n') ∧ NL_Y_fetch_17 1 (t - 1) m = some m' ∧ JFe κ' As Bs A B n' m' ∧ GOT As Bs n' m' a (m' 44 0) ∧ LST n' m' ∧ FEn As Bs n n' ∧ FEy m m' (d + 1) := by
  intro d
  have endY : ∀ t mx, NL_Y_fetch_17 0 t mx = some mx := fun t mx => by
    unfold NL_Y_fetch_17
    refine it_inr ?_
    show nb_Y_fetch_17 0 t mx = _
    unfold nb_Y_fetch_17
    rw [if_pos rfl]
  have stop : ∀ t n m n1 m1 a (d : Nat), nb_Net_fetch_17 t n = some (.inr (.inl (a, n1))) → nb_Y_fetch_17 1 (t - 1) m = some (.inl (0, t, m1)) → (NL_Net_fetch_17 t n).bind (us (u2 fun z15 n16 => some (z15, n16)) (fun n22 => some (1570, n22))) = some (a, n1) ∧ NL_Y_fetch_17 1 (t - 1) m = some m1 := fun t n m n1 m1 a d e1 e2 => by
    constructor
    · have : NL_Net_fetch_17 t n = some (.inl (a, n1)) := by unfold NL_Net_fetch_17; exact it_inr e1
      rw [this]; rfl
    · rw [← endY t m1]; unfold NL_Y_fetch_17; exact it_inl e2
  induction d with
  | zero =>
    intro t n m κ ht h1 h hL h35
    obtain ⟨a, n1, m1, κ1, j1, l1, f1, y1, hc⟩ := fetchOne h hL (t := t) (by omega) (by omega)
    rcases hc with ⟨e1, e2, g⟩ | ⟨h6, _⟩ | ⟨h6, e1, e2⟩
    · obtain ⟨s1, s2⟩ := stop t n m n1 m1 a 0 e1 e2
      exact ⟨a, n1, m1, κ1, s1, s2, j1, g, l1, f1, y1⟩
    · omega
    · have f4 : FY [6, 7, 8, 44] m1 (yw m1 44 0 (-1)) := fun g hg => yw_nF (by simp only [List.mem_cons, List.not_mem_nil, or_false, not_or] at hg; exact hg.2.2.2)
      obtain ⟨hB, hJ, hAs, hSn⟩ := j1
      have r4 : ∀ r, RwE m1 (yw m1 44 0 (-1)) r := fun r => RwE.of (yw_nF (by decide)) (yw_nF (by decide)) (yw_nF (by decide))
      have hJ4 : JNb κ1 As Bs n1 (yw m1 44 0 (-1)) := hJ.cg (FQ.refl As Bs (fun _ => False) n1) (FQ7.refl n1) (fun _ h => h.elim) (fun _ _ => rfl) (fun _ _ => rfl) (fun f a b => yw_nF (by omega)) (fun r _ => r4 r)
      refine ⟨1570, n1, yw m1 44 0 (-1), κ1, ?_, ?_, ⟨hB, hJ4, ?_, ?_⟩, .inl ⟨yw_eq, rfl⟩, ?_, f1, ?_⟩
      · have e3 : nb_Net_fetch_17 (t + 1) n1 = some (.inr (.inr n1)) := by
          unfold nb_Net_fetch_17
          rw [if_pos (by omega)]
        have : NL_Net_fetch_17 t n = some (.inr n1) := by
          unfold NL_Net_fetch_17
          rw [it_inl (f := fun s : Int × NS => nb_Net_fetch_17 s.1 s.2) e1]
          exact it_inr e3
        rw [this]; rfl
      · rw [← endY t (yw m1 44 0 (-1))]; unfold NL_Y_fetch_17; exact it_inl e2
      · unfold JAs AR at *
        rw [yw_nF (show (35 : Nat) ≠ 44 by decide)]
        rcases hAs with y | ⟨y0, nm2, ss2, q2, mk2, w2, d2, r2⟩
        · exact .inl y
        · exact .inr ⟨y0, nm2, ss2, q2, mk2, w2, d2, r2.rw w2 (r4 2)⟩
      · unfold JSnt ys at *
        rw [yw_nF (show (36 : Nat) ≠ 44 by decide), yw_nF (show (37 : Nat) ≠ 44 by decide)]; exact hSn
      · obtain ⟨nm, ss, q, w, c, r⟩ := l1
        exact ⟨nm, ss, q, w, c, r.rw w (r4 4)⟩
      · have : FEy m1 (yw m1 44 0 (-1)) 0 := ⟨f4.sub (by decide), fun r _ _ _ _ => r4 r, by rw [yw_nF (show (35 : Nat) ≠ 44 by decide)]; exact Int.le_refl _, by rw [yw_nF (show (35 : Nat) ≠ 44 by decide)]; omega⟩
        have := y1.trans this
        simpa using this
  | succ d ih =>
    intro t n m κ ht h1 h hL h35
    obtain ⟨a, n1, m1, κ1, j1, l1, f1, y1, hc⟩ := fetchOne h hL (t := t) (by omega) (by omega)
    rcases hc with ⟨e1, e2, g⟩ | ⟨h6, n2, m2, e1, e2, j2, l2, f2, y2⟩ | ⟨h6, _⟩
    · obtain ⟨s1, s2⟩ := stop t n m n1 m1 a 0 e1 e2
      exact ⟨a, n1, m1, κ1, s1, s2, j1, g, l1, f1, ⟨y1.1, y1.2.1, y1.2.2.1, by have := y1.2.2.2; omega⟩⟩
    · obtain ⟨a', n', m', κ', b1, b2, b3, b4, b5, b6, b7⟩ := ih (t + 1) n2 m2 κ1 (by omega) (by omega) j2 l2 (by have := y2.2.2.2; omega)
      rw [show t + 1 - 1 = t by omega] at b2
      refine ⟨a', n', m', κ', ?_, ?_, b3, b4, b5, f2.trans b6, ?_⟩
      · have : NL_Net_fetch_17 t n = NL_Net_fetch_17 (t + 1) n2 := by unfold NL_Net_fetch_17; exact it_inl e1
        rw [this]; exact b1
      · rw [← b2]; unfold NL_Y_fetch_17; exact it_inl e2
      · have := y2.trans b7
        exact ⟨this.1, this.2.1, this.2.2.1, by have := this.2.2.2; omega⟩
    · omega
/-- TO FETCH an ADDRESS, in both -/
theorem fetch_both (h : JFe κ As Bs A B n m) (hv : As v1) (hne : v1 ≠ 1586) (hW : WFA nm ss q mk) (hC : CA n v1 nm ss q mk) (hR : RA m 0 nm ss q mk) (h35 : m 35 0 < 800000000) :
    ∃ a n' m' κ', N_Net_fetch v1 n = some (a, n') ∧ N_Y_fetch m = some m' ∧ JFe κ' As Bs A B n' m' ∧ GOT As Bs n' m' a (m' 44 0) ∧ LST n' m' ∧ FEn As Bs n n' ∧ FEy m m' 6 := by
  have hA := h.2.1.1
  have h86 := h.2.1.2.2.1.2.2.2
  have hAC := (hA 1586 h86).1
  obtain ⟨n2, ec, s, t', hs0, en2, hCs⟩ := c_copy hA h86 hv (Ne.symm hne) hC hW
  obtain ⟨m2, ey, y2⟩ := y_copyRow (m := m) (to := 4) (fr := 0) (by decide) (by decide) (by decide)
  obtain ⟨j2, f2, fy2⟩ := h.last (s := s) (t' := t') hs0 (y2.1.sub (by decide)) (fun r hr => RwE.cp y2 hr)
  rw [← en2] at j2 f2
  have hA2 := j2.2.1.1
  have hne' := hAC.ne
  have hC2 : CA n2 1586 nm ss q mk := by
    unfold CA
    rw [en2, aw_a hne', hs0, aw_T]; exact hCs
  obtain ⟨n3, ed, s3, t3, hs3, en3, hC3⟩ := c_dropMark hA2 h86 hC2
  have hR2 := (y2.made hR hW).drop
  have f8 : FY [6, 7, 8, 44] m2 (yw m2 8 4 0) := fun g hg => yw_nF (by simp only [List.mem_cons, List.not_mem_nil, or_false, not_or] at hg; exact hg.2.2.1)
  obtain ⟨j3, f3, fy3⟩ := j2.last (s := s3) (t' := t3) (m' := yw m2 8 4 0) hs3 f8 (fun r hr => ⟨by rw [yw_nF (by decide)], yw_ni hr, fun j _ _ => by rw [yw_nF (by decide)]⟩)
  rw [← en3] at j3 f3
  have hne2 := (hA2 1586 h86).1.ne
  have l3 : LST n3 (yw m2 8 4 0) := ⟨nm, ss, q, hW.nomk, by unfold CA; rw [en3, aw_a hne2, hs3, aw_T]; exact hC3, hR2⟩
  have fe := fy2.trans fy3
  obtain ⟨a, n', m', κ', b1, b2, b3, b4, b5, b6, b7⟩ := fetchLoop 5 1 n3 (yw m2 8 4 0) κ (by decide) (by decide) j3 l3 (by have := fe.2.2.2; omega)
  refine ⟨a, n', m', κ', ?_, ?_, b3, b4, b5, (f2.trans f3).trans b6, ?_⟩
  · unfold N_Net_fetch ty
    rw [if_pos hAC.2.1, ec]
    simp only [Option.bind_some]
    rw [if_pos (hA2 1586 h86).1.2.1, ed]
    exact b1
  · unfold N_Y_fetch
    rw [ey]
    show (if (0 : Int) ≤ 4 ∧ (4 : Int) < 66 then (NL_Y_fetch_17 1 0 (yw m2 8 4 0)).bind (fun m10 => some m10) else none) = _
    have b2 : NL_Y_fetch_17 1 0 (yw m2 8 4 0) = some m' := b2
    rw [if_pos (by decide), b2]; rfl
  · have := fe.trans b7
    exact ⟨this.1, this.2.1, this.2.2.1, by have := this.2.2.2; omega⟩
end K1
