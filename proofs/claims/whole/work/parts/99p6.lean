/-! A FORM IS SENT, in both -/
/-- what sending leaves as it was -/
def FD (n n' : NS) (m m' : YS) : Prop := FC n n' m m' ∧ FP m m' ∧ n' 0 = n 0 ∧ n' 6 0 16 = n 6 0 16 ∧ n' 46 = n 46 ∧ n' 4 609 = n 4 609 ∧ (∀ f, 150 ≤ f → f ≠ 182 → f ≠ 183 → m' f = m f)
/-- how it ends: refused or within the page; or a visit is set off -/
def SNR (As Bs : Int → Prop) (A B δ G : Int) (n : NS) (m : YS) (X : Option NS) (Y : Option YS) : Prop :=
  (∃ n' m', X = some n' ∧ Y = some m' ∧ JA As Bs A B δ (G + 30) n' m' ∧ FD n n' m m')
  ∨ (∃ n1 m1, X = some (nw n1 6 0 16 1) ∧ Y = (N_Y_goTo m1).bind N_Y_remember ∧ JA As Bs A B δ (G + 30) n1 m1 ∧ FD n n1 m m1 ∧ AR n1 m1 1584 0)
def wAct : List Int := [97, 99, 116, 105, 111, 110]
section P6
variable {n n' n'' n2 : NS} {m m' m'' m0 m6 mR : YS} {A B N N' k b a δ δ' fr to d L r r' x f v c i z M kf G : Int} {o e p o' e' p' κ g : Int → Int} {As Bs W S : Int → Prop} {l l' acc nm q mk : List Int} {ss : List (List Int)}
theorem FD.refl (n : NS) (m : YS) : FD n n m m := ⟨FC.refl n m, FP.refl m, rfl, rfl, rfl, rfl, fun _ _ _ _ => rfl⟩
theorem FD.trans (h : FD n n' m m') (h' : FD n' n'' m' m'') : FD n n'' m m'' := ⟨h.1.trans h'.1, h.2.1.trans h'.2.1, h'.2.2.1.trans h.2.2.1, h'.2.2.2.1.trans h.2.2.2.1, h'.2.2.2.2.1.trans h.2.2.2.2.1, h'.2.2.2.2.2.1.trans h.2.2.2.2.2.1, fun f a b c => (h'.2.2.2.2.2.2 f a b c).trans (h.2.2.2.2.2.2 f a b c)⟩
theorem FA.fd (h : FA n n' m m') (h0 : n' 0 = n 0) (hm : ∀ f, 150 ≤ f → f ≠ 182 → f ≠ 183 → m' f = m f) : FD n n' m m' := ⟨h.fc, h.fp, h0, h.1.2.2.2, h.1.1 46 (by decide), h.row, hm⟩
/-- an attribute's row, as a text -/
theorem attr_tx (hB : BI A B n) (hd : ND n m v) (hv : 0 ≤ v ∧ v < 120) (ha : 0 ≤ a ∧ a < m 56 v) : tx n (n 4 (5 * v + 1 + a) 1) (fun j => m 59 (60 * (4 * v + a) + j)) (m 60 (4 * v + a)) ∧ n 4 (5 * v + 1 + a) 2 = m 60 (4 * v + a) ∧ (0 ≤ m 60 (4 * v + a) ∧ m 60 (4 * v + a) ≤ 60) ∧ (∀ j, 0 ≤ j → j < m 60 (4 * v + a) → isTx (m 59 (60 * (4 * v + a) + j))) ∧ 0 ≤ n 4 (5 * v + 1 + a) 1 := by
  have h4 := hd.2.2.1.2.2
  obtain ⟨_, _, _, h60, htx, hbt⟩ := hd.2.2.2.1 a ha.1 ha.2
  have b1 := hB.1 (5 * v + 1 + a) (by omega) (by omega)
  have hsz : n 4 (5 * v + 1 + a) 2 = m 60 (4 * v + a) := by
    have := bt_len (b := 5 * v + 1 + a) (by omega) hB
    rw [hbt] at this
    unfold avL at this
    rw [sg_len] at this
    omega
  refine ⟨⟨b1.2.2.1, by have := b1.2.2.2.1.2.2; omega, fun j j0 j1 => ?_⟩, hsz, h60, fun j j0 j1 => ?_, b1.2.1.1⟩
  · unfold bt avL at hbt
    rw [hsz] at hbt
    have := sg_inj _ _ _ hbt j.toNat (by omega)
    rw [show ((j.toNat : Nat) : Int) = j by omega, show (0 : Int) + j = j by omega] at this
    exact this
  · have := sg_at (g := m 59) (m 60 (4 * v + a)).toNat (60 * (4 * v + a)) j.toNat (by omega)
    rw [show ((j.toNat : Nat) : Int) = j by omega] at this
    exact htx _ this
/-- the ADDRESS stands in both: its query comes, and the visit is set off -/
theorem send_tail (h : JA As Bs A B δ G n m) (hAR : AR n m 1584 0) (hT : JTr n m N o e p) (k0 : 0 ≤ kf) (k1 : kf < N) (hN : NIB m) (hys : ys m 182 183 = qF m o kf (e kf - kf).toNat) (h183 : 0 ≤ m 183 0 ∧ m 183 0 ≤ 4000) :
    SNR As Bs A B δ (G - 10) n m (nk_Acts_send_70 (o kf) n) (nk_Y_sendForm_312 m) := by
  have hG := hT.1.1.1
  have hvf := hG.oB k0 k1
  have hEb := hG.eB k0 k1
  obtain ⟨n3, e3, a1, a2, a3⟩ := cs_clear (b := 610) (by decide) h.bi
  obtain ⟨j3, f3⟩ := h.scr a1 a2
  have fs3 : FS (fun x => x = 610) n n3 := FS.fb a2 (fun x hx => by have hx : x = 610 := hx; omega) h.bi
  have hT3 : JTr n3 m N o e p := hT.cg (fun K c => a2.1 K (by omega) (by omega) (by omega) (by omega) (by omega) (by omega)) (fun b x y => fs3.bt (by omega) (by omega)) (fun _ _ _ => rfl)
  obtain ⟨n8, e8, t8, l8, f8, b8⟩ := hT3.1.list a1
  obtain ⟨j8, fa8⟩ := j3.fl t8 hT.2.1 b8 f8
  obtain ⟨n16, e16, q16⟩ := c_send100 t8 b8 l8 k0 k1
  obtain ⟨j16, fa16⟩ := j8.scr q16.1 q16.2.1
  have b610 : bt n8 610 = [] := by
    have : bt n8 610 = bt n3 610 := by unfold bt; rw [f8.1 4 (by decide) (by decide) (by decide), f8.1 99 (by decide) (by decide) (by decide)]
    rw [this]; exact a3
  have hbt : bt n16 610 = (qF m o kf (e kf - kf).toNat).take 40 := by
    rw [q16.2.2, b610, List.nil_append, show (lim 610).toNat = 40 by decide]
  have h40 : ((qF m o kf (e kf - kf).toNat).take 40).length ≤ 40 := by rw [List.length_take]; omega
  have htx : ∀ c ∈ qF m o kf (e kf - kf).toNat, isTx c := qF_tx hT.1 k0 _ (by omega)
  -- the ADDRESS in the class
  obtain ⟨κ, N6, o6, e6, p6, h16, _⟩ := id j16
  obtain ⟨hJe, hH, hP⟩ := h16
  have hA := hJe.2.1.1
  have hbs := hJe.2.1.2.1
  have h84 := hJe.2.1.2.2.1.2.2.1
  have h82 := hJe.2.1.2.2.1.2.1
  obtain ⟨nm, ss, q, mk, hW, hC, hR⟩ := hAR
  have hAR16 : CA n16 1584 nm ss q mk := by
    obtain ⟨κ0, N0, o0, e0, p0, h0, _⟩ := id h
    have fq1 : FQ As Bs (fun _ => False) n n3 := FQ.fb a2 (fun x hx => by have hx : x = 610 := hx; omega) h.bi h0.1.2.1.1 h0.1.2.1.2.1
    have fq2 : FQ As Bs (fun _ => False) n3 n8 := FQ.ks (fun K hK => f8.1 K (by omega) (by omega) (by omega))
    have hA8 := (h0.1.2.1.1.fq fq1).fq fq2
    have hb8 := (h0.1.2.1.2.1.fq fq1).fq fq2
    have fq3 : FQ As Bs (fun _ => False) n8 n16 := FQ.fb q16.2.1 (fun x hx => by have hx : x = 610 := hx; omega) b8 hA8 hb8
    have := ((fq1.trans fq2).trans fq3).2.2.1 1584 h0.1.2.1.2.2.1.2.2.1
    unfold CA at *
    rw [(this.2 (fun h => h)).1, this.1] at *
    rw [(this.2 (fun h => h)).1] at this
    have t2 := (this.2 (fun h => h)).2
    rw [t2]; exact hC
  obtain ⟨n25, e25, s, t', hs0, en, hCs⟩ := c_replaceQuery hA hJe.1 h84 hAR16 hW hbt h40
  have hW' := hW.query h40 (fun c hc => htx c (List.mem_of_mem_take hc))
  -- in the reference
  obtain ⟨m14, e14, hR', f14, r14⟩ := y_query hR hW h183 (by rw [hys]; exact htx)
  rw [hys] at hR'
  have y14 : ∀ g, g ≠ 6 → g ≠ 7 → m14 g = m g := fun g u z => f14 g (by simp only [List.mem_cons, List.not_mem_nil, or_false, not_or]; exact ⟨u, z⟩)
  have hne := (hA 1584 h84).1.ne
  have fq25 : FQ As Bs (fun x => x = 1584) n16 n25 := by rw [en]; exact FQ.aw hA hbs h84 rfl hs0
  have k25 : ∀ K, K ≠ 99 → n25 K = n16 K := fun K hK => by rw [en]; exact aw_K hK
  have hS25 : FS (fun x => x = 607) n16 n25 := by rw [en]; exact FS.aw hA h84 hJe.1
  have hB25 : BI A B n25 := by rw [en]; exact hJe.1.aw
  have jN : JNt κ As Bs A B n25 m14 := by
    refine ⟨hJe.cg hB25 fq25 (by rw [en]; exact FQ7.aw hA h84) (fun a ha => by omega) (fun K hK => k25 K (by omega)) (fun s hs => by rw [k25 6 (by decide)]) (by rw [en, hA.bts hJe.1 h84 (b := 607) (by omega)]) (fun f a b => y14 f (by omega) (by omega)) (fun r hr => r14 r (by omega)), hH.cg fq25 (fun x hx => by unfold hiA; omega) (by rw [k25 6 (by decide)]; exact ⟨rfl, rfl⟩) (k25 27 (by decide)) ⟨y14 148 (by decide) (by decide), y14 149 (by decide) (by decide)⟩ (fun r a b => r14 r (by omega)), hP.fq fq25 h82 (by decide) (r14 1 (by decide))⟩
  have j25 : JA As Bs A B δ (G + 6) n25 m14 := j16.net jN (fun K c => k25 K (fun w => c (by rw [w]; decide))) (by rw [k25 6 (by decide)]) hS25 (fun f hf => y14 f (by omega) (by omega)) (by rw [y14 35 (by decide) (by decide)]; omega)
  have fa25 : FA n16 n25 m m14 := FA.net (fun K c => k25 K (fun w => c (by rw [w]; decide))) (by rw [k25 6 (by decide)]) hS25 (fun f a _ _ _ _ _ _ => y14 f (by omega) (by omega))
  have hAR25 : AR n25 m14 1584 0 := ⟨nm, ss, _, mk, hW', by unfold CA; rw [en, aw_a hne, hs0, aw_T]; exact hCs, hR'⟩
  have fd1 : FD n n16 m m := (((f3.fd (by rw [a2.1 0 (by decide) (by decide) (by decide) (by decide) (by decide) (by decide)]) (fun _ _ _ _ => rfl)).trans (fa8.fd (by rw [f8.1 0 (by decide) (by decide) (by decide)]) (fun _ _ _ _ => rfl))).trans (fa16.fd (by rw [q16.2.1.1 0 (by decide) (by decide) (by decide) (by decide) (by decide) (by decide)]) (fun _ _ _ _ => rfl)))
  have fd25 : FD n n25 m m14 := fd1.trans (fa25.fd (k25 0 (by decide)) (fun g a _ _ => y14 g (by omega) (by omega)))
  have eC : nk_Acts_send_70 (o kf) n = (N_Net_setOff n25).bind fun n30 => some n30 := by
    have hty : n16 92 0 1584 = 101 := (hA 1584 h84).1.2.1
    unfold nk_Acts_send_70
    rw [e3]
    simp only [Option.bind_some]
    rw [e8]
    simp only [Option.bind_some]
    unfold ix
    rw [if_pos hvf, (l8.2 kf k0 k1).2.1, e16]
    simp only [Option.bind_some]
    unfold ty
    rw [if_pos hty, e25]
    rfl
  rw [eC, e14]
  obtain ⟨κ2, N2, o2, e2, p2, h2, _⟩ := id j25
  rcases setOff_both h2 hAR25 with ⟨n2, m2, y1, y2, y3, y4, y5, y6, y7, y8, y9⟩ | ⟨y1, y2⟩
  · refine .inl ⟨n2, m2, by rw [y1]; rfl, by rw [y2]; rfl, ?_, fd25.trans ?_⟩
    · exact (j25.net y3 (fun K c => y6 K (fun w => c (by rw [w]; decide)) (fun w => c (by rw [w]; decide)) (fun w => c (by rw [w]; decide))) (y7 8 (by decide) (by decide)) (y8.wid (fun _ h => h.elim)) (fun f hf => y9 f (by simp only [List.mem_cons, List.not_mem_nil, or_false, not_or]; omega)) (by rw [y9 35 (by decide)]; omega)).mono (by omega)
    · refine FA.fd (FA.net (fun K c => y6 K (fun w => c (by rw [w]; decide)) (fun w => c (by rw [w]; decide)) (fun w => c (by rw [w]; decide))) y4 (y8.wid (fun _ h => h.elim)) (fun f a _ _ _ _ b c => y9 f (by simp only [List.mem_cons, List.not_mem_nil, or_false, not_or]; omega))) (y6 0 (by decide) (by decide) (by decide)) (fun f a _ _ => y9 f (by simp only [List.mem_cons, List.not_mem_nil, or_false, not_or]; omega))
  · refine .inr ⟨n25, m14, by rw [y1]; rfl, ?_, j25.mono (by omega), fd25, hAR25⟩
    rw [y2]
    cases ((N_Y_goTo m14).bind N_Y_remember) <;> rfl
end P6
