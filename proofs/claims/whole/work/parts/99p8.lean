/-! DEFAULTS: focus, values -/
section P8
variable {n n' n'' n2 : NS} {m m' m'' m0 m2 : YS} {A B N N' k b a δ δ' fr to d L r r' x f v c i z M kf G G' : Int} {o e p o' e' p' κ g : Int → Int} {As Bs W S : Int → Prop} {l l' acc nm q mk : List Int} {ss : List (List Int)} {X : Option NS} {Y : Option YS}
/-- another focus -/
theorem JA.focus (h : JA As Bs A B δ G n m) (hK : ∀ K, K ≠ 0 → n' K = n K) (h0 : ∀ s, s = 5 ∨ s = 7 ∨ s = 8 ∨ s = 10 → n' 0 0 s = n 0 0 s) (hm : ∀ f, f ≠ 150 → f ≠ 151 → m' f = m f) (hF : JFo n' m') : JA As Bs A B δ G n' m' := by
  obtain ⟨κ, N, o, e, p, h1, h2, h3, ⟨h4, h4'⟩, h5, h6', _, h8⟩ := h
  obtain ⟨hJ, hH, hP⟩ := h1.ks hK
  have r : ∀ r, RwE m m' r := fun r => RwE.of (hm 6 (by decide) (by decide)) (hm 7 (by decide) (by decide)) (hm 8 (by decide) (by decide))
  have liv : LIV m m' := LIV.of (hm 45 (by decide) (by decide)) (hm 46 (by decide) (by decide)) (hm 55 (by decide) (by decide))
  have c69 : m 69 0 ≤ m' 69 0 := by rw [hm 69 (by decide) (by decide)]; exact Int.le_refl _
  refine ⟨κ, N, o, e, p, ⟨hJ.cg hJ.1 (FQ.refl As Bs (fun _ => False) n') (FQ7.refl n') (fun _ h => h.elim) (fun _ _ => rfl) (fun _ _ => rfl) rfl (fun f a b => hm f (by omega) (by omega)) (fun x _ => r x), hH.cg (FQ.refl As Bs (fun _ => False) n') (fun _ h => h.elim) ⟨rfl, rfl⟩ rfl ⟨hm 148 (by decide) (by decide), hm 149 (by decide) (by decide)⟩ (fun x _ _ => r x), hP.fq (FQ.refl As Bs (fun _ => False) n') hJ.2.1.2.2.1.2.1 (fun h => h.elim) (r 1)⟩, (h2.ks (fun K hK' => hK K (by omega))).cg (fun _ _ => rfl) (fun _ _ _ => rfl) (fun f a b => hm f (by omega) (by omega)), fun k a b => by rw [hK 21 (by decide)]; exact h3 k a b, ⟨h4.cg (h0 5 (by omega)) (hK 44 (by decide)) (hK 45 (by decide)) (fun b _ _ => by unfold bt; rw [hK 4 (by decide), hK 99 (by decide)]) (fun f a b => hm f (by omega) (by omega)), h4'.liv h4 (fun f hf => hm f (by omega) (by omega)) liv c69⟩, h5.cg (hK 26 (by decide)) (by rw [hK 6 (by decide)]) (fun f a b => hm f (by omega) (by omega)), ?_, hF, ?_⟩
  · unfold JCt at *
    rw [h0 7 (by omega), h0 8 (by omega), h0 10 (by omega), hm 155 (by decide) (by decide), hm 156 (by decide) (by decide), hm 157 (by decide) (by decide)]; exact h6'
  · unfold gB at *
    rw [hK 10 (by decide), hm 69 (by decide) (by decide), hm 35 (by decide) (by decide), hm 155 (by decide) (by decide), hm 156 (by decide) (by decide), hm 157 (by decide) (by decide), hm 167 (by decide) (by decide)]; exact h8
/-- the value of an input has changed -/
theorem JA.value (h : JA As Bs A B δ G n m) (hT : JTr n m N o e p) (k0 : 0 ≤ k) (k1 : k < N) (hk : o k = v) (h13 : m 46 v = 13) (b1 : BI A B n2) (fb : FB (fun x => x = 5 * v) n n2) (hFY : FY [64, 65] m m2) (h65 : ∀ u, u ≠ v → m2 65 u = m 65 u) (h64 : ∀ j, ¬ (24 * v ≤ j ∧ j < 24 * v + 24) → m2 64 j = m 64 j) (e65 : 0 ≤ m2 65 v ∧ m2 65 v ≤ 24) (eva : bt n2 (5 * v) = vaL m2 v) (htx : ∀ c ∈ vaL m2 v, isTx c) :
    JA As Bs A B δ (G + 2) n2 m2 ∧ FC n n2 m m2 ∧ FP m m2 := by
  have hB := h.bi
  have hvb := hT.1.1.1.oB k0 k1
  rw [hk] at hvb
  have hd := hT.1.2.2.2 k k0 k1
  rw [hk] at hd
  have k7 : ∀ K, K ≠ 4 → K ≠ 90 → K ≠ 91 → K ≠ 92 → K ≠ 93 → K ≠ 99 → n2 K = n K := fb.1
  have n7 : n2 7 = n 7 := k7 7 (by decide) (by decide) (by decide) (by decide) (by decide) (by decide)
  have btn : ∀ b, 0 ≤ b → b ≤ 631 → b ≠ 5 * v → bt n2 b = bt n b := fun b x y z => (fb.bts hB ⟨x, y⟩ z (fun x hx => by omega)).2.2
  have hnd : ND n2 m2 v := by
    have eN : nmL m2 v = nmL m v := by unfold nmL; rw [hFY 48 (by decide), hFY 47 (by decide)]
    have eA : ∀ a, anL m2 v a = anL m v a := fun a => by unfold anL; rw [hFY 57 (by decide), hFY 58 (by decide)]
    have eV : ∀ a, avL m2 v a = avL m v a := fun a => by unfold avL; rw [hFY 59 (by decide), hFY 60 (by decide)]
    have eF : ∀ w, fnd m2 v w = fnd m v w := fun w => by unfold fnd anL; rw [hFY 56 (by decide), hFY 57 (by decide), hFY 58 (by decide)]
    have eK : chkL m2 v ↔ chkL m v := by unfold chkL; rw [eF, hFY 56 (by decide), eV]
    obtain ⟨d1, d2, d3, d4, d5, d6, d7⟩ := hd
    unfold ND
    rw [n7, hFY 46 (by decide), hFY 48 (by decide), hFY 56 (by decide), hFY 66 (by decide), eN]
    refine ⟨d1, d2, d3, fun a a0 a1 => ?_, fun z => by omega, fun z => ?_, d7⟩
    · have := d4 a a0 a1
      unfold NA at *
      rw [eA, eV, hFY 58 (by decide), hFY 60 (by decide), k7 18 (by decide) (by decide) (by decide) (by decide) (by decide) (by decide), btn _ (by omega) (by omega) (by omega)]
      exact this
    · have q := d6 z
      refine ⟨e65, htx, eva, q.2.2.2.1, q.2.2.2.2.1, ?_⟩
      rcases q.2.2.2.2.2 with c | c
      · exact .inl ⟨c.1, eK.mpr c.2⟩
      · exact .inr ⟨c.1, fun z => c.2 (eK.mp z)⟩
  have e10 : n2 10 = n 10 := k7 10 (by decide) (by decide) (by decide) (by decide) (by decide) (by decide)
  have hT2 : JT n2 m2 N o e p := hT.1.data k0 k1 hk (fun u s _ _ _ => by rw [n7]) (fun s _ => by rw [e10]) (.inl (by rw [e10])) (k7 22 (by decide) (by decide) (by decide) (by decide) (by decide) (by decide)) (fun f hf => hFY f (by simp only [List.mem_cons, List.not_mem_nil, or_false, not_or]; omega))
    (fun u hu => ⟨⟨by rw [hFY 46 (by decide)], by rw [hFY 48 (by decide)], by rw [hFY 56 (by decide)], by rw [hFY 62 (by decide)], h65 u hu, by rw [hFY 66 (by decide)]⟩, fun j _ _ => by rw [hFY 47 (by decide)], fun j x y => by rw [hFY 58 (by decide), hFY 60 (by decide)]; exact ⟨rfl, rfl⟩, fun j x y => by rw [hFY 57 (by decide)], fun j x y => by rw [hFY 59 (by decide)], fun j x y => by rw [hFY 61 (by decide)], fun j x y => h64 j (by omega)⟩)
    (fun u u0 u1 hu => ⟨fun s _ => by rw [n7], by rw [k7 18 (by decide) (by decide) (by decide) (by decide) (by decide) (by decide)], fun b x y => btn b (by omega) (by omega) (by omega)⟩) hnd
  have frr : FRR n n2 := FRR.fb fb (fun x hx => by omega)
  have fyr : FYR m m2 := FYR.of hFY (by decide)
  have liv : LIV m m2 := LIV.of (hFY 45 (by decide)) (hFY 46 (by decide)) (hFY 55 (by decide))
  have hj : JFk n n2 m m2 := ⟨⟨k7 8 (by decide) (by decide) (by decide) (by decide) (by decide) (by decide), k7 28 (by decide) (by decide) (by decide) (by decide) (by decide) (by decide), k7 29 (by decide) (by decide) (by decide) (by decide) (by decide) (by decide)⟩, fun f hf => hFY f (by simp only [List.mem_cons, List.not_mem_nil, or_false, not_or]; omega)⟩
  have e69 : m2 69 0 = m 69 0 := by rw [hFY 69 (by decide)]
  have hP : JP m2 N o p := by unfold JP; rw [hFY 46 (by decide)]; exact hT.2.1
  refine ⟨h.tree hT2 hP b1 frr fyr (by rw [e10]; omega) ⟨by omega, by omega⟩ liv hj, ⟨⟨fun K c => ?_, (FS.fb fb (fun x hx => by have hx : x = 5 * v := hx; omega) hB).wid (fun x hx => .inr (.inl (by have hx : x = 5 * v := hx; omega))), fun s _ => by rw [k7 0 (by decide) (by decide) (by decide) (by decide) (by decide) (by decide)]⟩, fun f hf => fyr f (by omega), .inr ⟨by rw [e10], fun f a b => hFY f (by simp only [List.mem_cons, List.not_mem_nil, or_false, not_or]; omega)⟩, .inr ⟨by rw [hFY 126 (by decide)], fun f a b => hFY f (by simp only [List.mem_cons, List.not_mem_nil, or_false, not_or]; omega)⟩⟩, liv, OLV.of (fun f hf => hFY f (by simp only [List.mem_cons, List.not_mem_nil, or_false, not_or]; omega)), by omega⟩
  simp only [List.mem_cons, List.not_mem_nil, or_false, not_or] at c
  exact k7 K (by omega) (by omega) (by omega) (by omega) (by omega) (by omega)
/-- the last byte goes -/
theorem key_drop (h : JA As Bs A B δ G n m) (hT : JTr n m N o e p) (k0 : 0 ≤ k) (k1 : k < N) (hk : o k = v) (h13 : m 46 v = 13) :
    ∃ n', N_Bytes_dropLast (5 * v) n = some n' ∧ JA As Bs A B δ (G + 2) n' (yw m 65 v (max 0 (m 65 v - 1))) ∧ FC n n' m (yw m 65 v (max 0 (m 65 v - 1))) ∧ FP m (yw m 65 v (max 0 (m 65 v - 1))) ∧ n' 0 = n 0 ∧ n' 6 = n 6 ∧ n' 46 = n 46 ∧ n' 4 609 = n 4 609 := by
  have hvb := hT.1.1.1.oB k0 k1
  rw [hk] at hvb
  have hd := hT.1.2.2.2 k k0 k1
  rw [hk] at hd
  have q := hd.2.2.2.2.2.1 h13
  obtain ⟨n', e1, a1, a2, a3⟩ := cs_dropLast (b := 5 * v) (by omega) h.bi
  have hl : (vaL m v).length = (m 65 v).toNat := by unfold vaL; rw [sg_len]
  generalize hm2 : yw m 65 v (max 0 (m 65 v - 1)) = m2
  have e65 : m2 65 v = max 0 (m 65 v - 1) := by rw [← hm2, yw_eq]
  have e64 : m2 64 = m 64 := by rw [← hm2, yw_nF (by decide)]
  have eva : vaL m2 v = (vaL m v).take ((vaL m v).length - 1) := by
    rw [hl]
    unfold vaL
    rw [e65, e64]
    rw [show (m 65 v).toNat = (max 0 (m 65 v - 1)).toNat + ((m 65 v).toNat - (max 0 (m 65 v - 1)).toNat) by omega, sg_app, List.take_append_of_le_length (by rw [sg_len]; omega), List.take_of_length_le (by rw [sg_len]; omega)]
  have := h.value hT k0 k1 hk h13 a1 a2 (m2 := m2) (fun f hf => by
    simp only [List.mem_cons, List.not_mem_nil, or_false, not_or] at hf
    rw [← hm2, yw_nF hf.2]) (fun u hu => by rw [← hm2, yw_ni hu]) (fun j _ => by rw [e64]) (by rw [e65]; omega) (by rw [a3, q.2.2.1, eva]) (fun c hc => by
      rw [eva] at hc
      exact q.2.1 c (List.mem_of_mem_take hc))
  exact ⟨n', e1, this.1, this.2.1, this.2.2, a2.1 0 (by decide) (by decide) (by decide) (by decide) (by decide) (by decide), a2.1 6 (by decide) (by decide) (by decide) (by decide) (by decide) (by decide), a2.1 46 (by decide) (by decide) (by decide) (by decide) (by decide) (by decide), a2.2.1 609 (by omega)⟩
/-- a byte comes -/
theorem key_add (h : JA As Bs A B δ G n m) (hT : JTr n m N o e p) (k0 : 0 ≤ k) (k1 : k < N) (hk : o k = v) (h13 : m 46 v = 13) (hc : 32 ≤ c ∧ c ≤ 126) (hlt : m 65 v < 24) :
    ∃ n', N_Bytes_add (5 * v) c n = some n' ∧ JA As Bs A B δ (G + 2) n' (yw (yw m 64 (24 * v + m 65 v) c) 65 v (m 65 v + 1)) ∧ FC n n' m (yw (yw m 64 (24 * v + m 65 v) c) 65 v (m 65 v + 1)) ∧ FP m (yw (yw m 64 (24 * v + m 65 v) c) 65 v (m 65 v + 1)) ∧ n' 0 = n 0 ∧ n' 6 = n 6 ∧ n' 46 = n 46 ∧ n' 4 609 = n 4 609 := by
  have hvb := hT.1.1.1.oB k0 k1
  rw [hk] at hvb
  have hd := hT.1.2.2.2 k k0 k1
  rw [hk] at hd
  have q := hd.2.2.2.2.2.1 h13
  have hbm : Int.bmod c 256 = c := by rw [Int.bmod_def]; omega
  obtain ⟨n', e1, a1, a2, a3⟩ := cs_add (b := 5 * v) (c := c) (by omega) h.bi
  rw [hbm] at a3
  have hl : (vaL m v).length = (m 65 v).toNat := by unfold vaL; rw [sg_len]
  generalize hm2 : yw (yw m 64 (24 * v + m 65 v) c) 65 v (m 65 v + 1) = m2
  have e65 : m2 65 v = m 65 v + 1 := by rw [← hm2, yw_eq]
  have e64 : ∀ j, m2 64 j = if j = 24 * v + m 65 v then c else m 64 j := fun j => by
    rw [← hm2, yw_nF (by decide)]
    by_cases u : j = 24 * v + m 65 v
    · rw [u, yw_eq, if_pos rfl]
    · rw [yw_ni u, if_neg u]
  have eva : vaL m2 v = vaL m v ++ [c] := by
    unfold vaL
    rw [e65, show (m 65 v + 1).toNat = (m 65 v).toNat + 1 by omega, sg_app]
    congr 1
    · refine sg_cg _ _ _ (fun x hx => ?_)
      rw [e64, if_neg (by omega)]
    · refine sg_1.mpr ⟨rfl, ?_⟩
      rw [show ((m 65 v).toNat : Int) = m 65 v by omega, e64, if_pos rfl]
  have := h.value hT k0 k1 hk h13 a1 a2 (m2 := m2) (fun f hf => by
    simp only [List.mem_cons, List.not_mem_nil, or_false, not_or] at hf
    rw [← hm2, yw_nF hf.2, yw_nF hf.1]) (fun u hu => by rw [← hm2, yw_ni hu, yw_nF (by decide)]) (fun j hj => by rw [e64, if_neg (by omega)]) (by rw [e65]; omega) (by
      rw [a3, q.2.2.1, eva, lim_5 (by omega)]
      exact List.take_of_length_le (by rw [List.length_append, hl]; show _ + 1 ≤ 400; omega)) (fun x hx => by
      rw [eva] at hx
      rcases List.mem_append.mp hx with y | y
      · exact q.2.1 x y
      · simp at y; unfold isTx; omega)
  exact ⟨n', e1, this.1, this.2.1, this.2.2, a2.1 0 (by decide) (by decide) (by decide) (by decide) (by decide) (by decide), a2.1 6 (by decide) (by decide) (by decide) (by decide) (by decide) (by decide), a2.1 46 (by decide) (by decide) (by decide) (by decide) (by decide) (by decide), a2.2.1 609 (by omega)⟩
end P8
