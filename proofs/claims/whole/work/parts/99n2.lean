/-! STEPS: go, get -/
section N2
variable {n n' n'' : NS} {m m' m'' : YS} {A B N N' k v b a δ δ' G G' fr to d L r r' : Int} {o e p o' e' p' : Int → Int} {As Bs W S : Int → Prop} {κ κ' : Int → Int} {nm q mk nm' q' mk' : List Int} {ss ss' : List (List Int)}
theorem RA.pre (hR : RA m r nm ss q mk) : sg (m 6) (150 * r) (2 + (nm.length : Int)).toNat = 47 :: 47 :: nm := by
  have h2 := hR.2.1
  have e : adL nm ss q = (47 :: 47 :: nm) ++ (pth ss ++ q) := rfl
  rw [e] at h2
  have := sg_pre h2
  rw [show (2 + (nm.length : Int)).toNat = (47 :: 47 :: nm).length by rw [List.length_cons, List.length_cons]; omega]
  exact this
theorem y_sameSite (hR : RA m r nm ss q mk) (hW : WFA nm ss q mk) (hR' : RA m r' nm' ss' q' mk') (hW' : WFA nm' ss' q' mk') (hr : 0 ≤ r ∧ r < 66) (hr' : 0 ≤ r' ∧ r' < 66) : ∃ z, N_Y_sameSite r r' m = some z ∧ bz (nm = nm') z := by
  have c1 := hW.nm.2.1
  have c2 := hW'.nm.2.1
  unfold N_Y_sameSite
  rw [y_siteEnd hR hW hr, y_siteEnd hR' hW' hr']
  simp only [Option.bind_some]
  by_cases hl : 2 + (nm'.length : Int) = 2 + (nm.length : Int)
  · rw [if_pos hl]
    obtain ⟨z, ez, hz⟩ := ys_same (f := 6) (f2 := 6) (i := r * 150) (j := r' * 150) (k := 2 + (nm.length : Int)) (m := m) (by omega) (by omega) (by show _ ≤ (9900 : Int); omega) (by show _ ≤ (9900 : Int); omega) (by omega) (by omega)
    have p1 := hR.pre
    have p2 := hR'.pre
    rw [show 150 * r = r * 150 by omega] at p1
    rw [show 150 * r' = r' * 150 by omega, hl] at p2
    rw [p1, p2] at hz
    unfold ck
    rw [if_pos (by omega), if_pos (by omega), ez]
    simp only [Option.bind_some]
    rcases hz with ⟨y, y'⟩ | ⟨y, y'⟩
    · rw [if_neg (by omega)]
      refine ⟨1, rfl, .inl ⟨rfl, ?_⟩⟩
      have := List.cons.inj (List.cons.inj y').2
      exact this.2
    · rw [if_pos y]
      exact ⟨0, rfl, .inr ⟨rfl, fun w => y' (by rw [w])⟩⟩
  · rw [if_neg hl]
    exact ⟨0, rfl, .inr ⟨rfl, fun w => hl (by rw [w])⟩⟩
/-- the net alone has changed -/
theorem FA.net (hK : ∀ K, K ∉ [4, 6, 24, 25, 27, 90, 91, 92, 93, 99] → n' K = n K) (h16 : n' 6 0 16 = n 6 0 16) (hS : FS (fun x => x = 607) n n') (hy : ∀ f, ¬ (6 ≤ f ∧ f ≤ 15) → ¬ (17 ≤ f ∧ f ≤ 18) → ¬ (23 ≤ f ∧ f ≤ 24) → ¬ (26 ≤ f ∧ f ≤ 37) → f ≠ 44 → f ≠ 148 → f ≠ 149 → m' f = m f) : FA n n' m m' := by
  have ym : ∀ f, 45 ≤ f → f < 148 → m' f = m f := fun f a b => hy f (by omega) (by omega) (by omega) (by omega) (by omega) (by omega) (by omega)
  refine ⟨⟨fun K c => hK K (by simp only [List.mem_cons, List.not_mem_nil, or_false, not_or] at c ⊢; omega), hS.wid (fun x hx => .inl hx), fun s _ => by rw [hK 0 (by decide)], h16⟩, fun f hf => hy f (by omega) (by omega) (by omega) (by omega) (by omega) (by omega) (by omega), .inr ⟨by rw [hK 10 (by decide)], fun f a b => ym f a (by omega)⟩, .inr ⟨by rw [ym 126 (by decide) (by decide)], fun f a b => ym f a (by omega)⟩, LIV.of (ym 45 (by decide) (by decide)) (ym 46 (by decide) (by decide)) (ym 55 (by decide) (by decide)), OLV.of (fun f hf => ym f (by omega) (by omega)), by rw [ym 69 (by decide) (by decide)]; exact Int.le_refl _⟩
/-- counters alone have changed -/
theorem JA.ct (h : JA As Bs A B δ G n m) (hK : ∀ K, K ≠ 0 → n' K = n K) (h0 : ∀ s, s = 5 ∨ s = 6 → n' 0 0 s = n 0 0 s) (hm : FY [155, 156, 157] m m') (hc : JCt δ' n' m') (hb : (0 ≤ m' 155 0 ∧ m' 155 0 ≤ G') ∧ (0 ≤ m' 156 0 ∧ m' 156 0 ≤ G') ∧ (0 ≤ m' 157 0 ∧ m' 157 0 ≤ G')) (hG : G ≤ G') : JA As Bs A B δ' G' n' m' := by
  obtain ⟨κ, N, o, e, p, ⟨hJ, hH, hP⟩, h2, h3, ⟨h4, h4'⟩, h5, h6', h7, h8⟩ := h
  have ym : ∀ f, ¬ (155 ≤ f ∧ f ≤ 157) → m' f = m f := fun f hf => hm f (by simp only [List.mem_cons, List.not_mem_nil, or_false, not_or]; omega)
  have r : ∀ r, RwE m m' r := fun r => RwE.of (ym 6 (by decide)) (ym 7 (by decide)) (ym 8 (by decide))
  have fq : FQ As Bs (fun _ => False) n n' := FQ.ks (fun K hK' => hK K (by omega))
  have hS : ∀ S : Int → Prop, FS S n n' := fun S => FS.ks (hK 4 (by decide)) (hK 99 (by decide))
  have hB' : BI A B n' := hJ.1.cg (hK 4 (by decide)) (by rw [hK 5 (by decide)]; exact ⟨rfl, rfl⟩) (hK 90 (by decide)) (hK 91 (by decide)) (hK 92 (by decide)) (hK 93 (by decide))
  have liv : LIV m m' := LIV.of (ym 45 (by decide)) (ym 46 (by decide)) (ym 55 (by decide))
  have c69 : m 69 0 ≤ m' 69 0 := by rw [ym 69 (by decide)]; exact Int.le_refl _
  have e6 := hK 6 (by decide)
  refine ⟨κ, N, o, e, p, ⟨hJ.cg hB' fq (FQ7.ks (hK 99 (by decide))) (fun _ h => h.elim) (fun K hK' => hK K (by omega)) (fun s hs => by rw [e6]) ((hS (fun _ => False)).bt (by omega) (fun h => h)) (fun f a b => ym f (by omega)) (fun x _ => r x), hH.cg fq (fun _ h => h.elim) (by rw [e6]; exact ⟨rfl, rfl⟩) (hK 27 (by decide)) ⟨ym 148 (by decide), ym 149 (by decide)⟩ (fun x _ _ => r x), hP.fq fq hJ.2.1.2.2.1.2.1 (fun h => h.elim) (r 1)⟩,
    h2.cg (fun K c => hK K (by omega)) (fun b x y => (hS (fun _ => False)).bt (by omega) (fun h => h)) (fun f a b => ym f (by omega)), fun k a b => by rw [hK 21 (by decide)]; exact h3 k a b,
    ⟨h4.cg (h0 5 (by omega)) (hK 44 (by decide)) (hK 45 (by decide)) (fun b x y => (hS (fun _ => False)).bt (by omega) (fun h => h)) (fun f a b => ym f (by omega)), h4'.liv h4 (fun f hf => ym f (by omega)) liv c69⟩,
    h5.cg (hK 26 (by decide)) (by rw [e6]) (fun f a b => ym f (by omega)), hc, h7.liv (h0 6 (by omega)) (ym 150 (by decide)) (ym 151 (by decide)) liv c69, ?_⟩
  have h8' : gB n m G := h8
  unfold gB at *
  rw [hK 10 (by decide), ym 69 (by decide), ym 35 (by decide), ym 167 (by decide)]
  omega
/-- a reference is read -/
theorem readRef (h : JA As Bs A B δ G n m) (hR : JRn n m) (hf : 0 ≤ fr ∧ fr ≤ to ∧ to ≤ m 160 0) :
    ∃ z n' m', N_Address_read 1584 (n 4 609 1) fr to 1582 n = some (z, n') ∧ N_Y_refer 159 fr to 1 m = some (z, m') ∧ (z = 0 ∨ (z = 1 ∧ AR n' m' 1584 0)) ∧ JA As Bs A B δ (G + 6) n' m' ∧ FA n n' m m' ∧ (∀ f, ¬ (6 ≤ f ∧ f ≤ 15) → m' f = m f) := by
  obtain ⟨r1, r2, r3, r4, r5⟩ := hR
  have hg := h
  obtain ⟨κ, N, o, e, p, h1, _⟩ := hg
  have hA := h1.1.2.1.1
  have h4 := h1.1.2.1.2.2.1.2.2.1
  have hB := h1.1.1
  obtain ⟨z, n', m', x1, x2, x3, x4, ⟨s, t, x5, x6⟩, x7, x8⟩ := read_both (F := 159) (d := n 4 609 1) (fr := fr) (to := to) (L := m 160 0) h1 r2 (fun w => (hA 1584 h4).2.1 609 (by decide) (by decide) w.symm) (by decide) ⟨hf.1, hf.2.1, hf.2.2, by show _ ≤ (2000 : Int); omega, r1.2.2⟩ (fun j a b => r3 j (by omega) (by omega))
  have kK : ∀ K, K ≠ 99 → n' K = n K := fun K hK => by rw [x6]; exact aw_K hK
  have hS : FS (fun x => x = 607) n n' := by rw [x6]; exact FS.aw hA h4 hB
  refine ⟨z, n', m', x1, x2, x3, h.net x4 (fun K c => kK K (fun w => c (by rw [w]; decide))) (by rw [kK 6 (by decide)]) hS (fun f hf => x7 f (by omega)) (by rw [x7 35 (by decide)]; omega), FA.net (fun K c => kK K (fun w => c (by rw [w]; decide))) (by rw [kK 6 (by decide)]) hS (fun f a _ _ _ _ _ _ => x7 f a), x7⟩
theorem opGo (h : JA As Bs A B δ G n m) (hR : JRn n m) (hf : 0 ≤ fr ∧ fr ≤ to ∧ to ≤ m 160 0) :
    DON As Bs A B δ (G + 6) n m ((N_Net_aim (n 4 609 1) fr to n).bind (u2 fun z31 n34 => some (1, n34))) ((N_Y_refer 159 fr to 1 m).bind (u2 fun z20 m23 => if z20 = 0 then some (1, m23) else (N_Y_visitResult m23).bind fun m29 => some (1, m29)))
    ∨ ∃ n1 m1, (N_Net_aim (n 4 609 1) fr to n).bind (u2 fun z31 n34 => some ((1 : Int), n34)) = some (1, nw n1 6 0 16 1) ∧ ((N_Y_refer 159 fr to 1 m).bind (u2 fun z20 m23 => if z20 = 0 then some ((1 : Int), m23) else (N_Y_visitResult m23).bind fun m29 => some (1, m29))) = ((N_Y_goTo m1).bind N_Y_remember).bind (fun m29 => some (1, m29)) ∧ JA As Bs A B δ (G + 6) n1 m1 ∧ FA n n1 m m1 ∧ AR n1 m1 1584 0 := by
  obtain ⟨z, n', m', x1, x2, x3, x4, x5, x6⟩ := readRef h hR hf
  have hg := x4
  obtain ⟨κ, N, o, e, p, h1, _⟩ := hg
  have hty := (h1.1.2.1.1 1584 h1.1.2.1.2.2.1.2.2.1).1.2.1
  have hty0 : n 92 0 1584 = 101 := by
    obtain ⟨_, _, _, _, _, h0, _⟩ := h
    exact (h0.1.2.1.1 1584 h0.1.2.1.2.2.1.2.2.1).1.2.1
  have eC : N_Net_aim (n 4 609 1) fr to n = if z = 0 then some (0, n') else (N_Net_setOff n').bind fun n15 => some (1, n15) := by
    unfold N_Net_aim ty
    rw [if_pos hty0, x1]
    rfl
  rw [eC, x2]
  rcases x3 with hz | ⟨hz, hAR⟩
  · rw [if_pos hz]
    refine .inl ⟨1, n', m', rfl, ?_, .inr rfl, x4.mono (by omega), x5⟩
    show (if z = 0 then some (1, m') else _) = _
    rw [if_pos hz]
  · rw [if_neg (by omega)]
    have eY : (some (z, m')).bind (u2 fun z20 m23 => if z20 = 0 then some ((1 : Int), m23) else (N_Y_visitResult m23).bind fun m29 => some (1, m29)) = (N_Y_visitResult m').bind fun m29 => some (1, m29) := by
      show (if z = 0 then some ((1 : Int), m') else _) = _
      rw [if_neg (by omega)]
    rw [eY]
    rcases setOff_both h1 hAR with ⟨n2, m2, y1, y2, y3, y4, y5, y6, y7, y8, y9⟩ | ⟨y1, y2⟩
    · refine .inl ⟨1, n2, m2, by rw [y1]; rfl, by rw [y2]; rfl, .inr rfl, ?_, ?_⟩
      · exact (x4.net y3 (fun K c => y6 K (fun w => c (by rw [w]; decide)) (fun w => c (by rw [w]; decide)) (fun w => c (by rw [w]; decide))) (y7 8 (by decide) (by decide)) (y8.wid (fun _ h => h.elim)) (fun f hf => y9 f (by simp only [List.mem_cons, List.not_mem_nil, or_false, not_or]; omega)) (by rw [y9 35 (by decide)]; omega)).mono (by omega)
      · exact x5.trans (FA.net (fun K c => y6 K (fun w => c (by rw [w]; decide)) (fun w => c (by rw [w]; decide)) (fun w => c (by rw [w]; decide))) y4 (y8.wid (fun _ h => h.elim)) (fun f a _ _ _ _ b c => y9 f (by simp only [List.mem_cons, List.not_mem_nil, or_false, not_or]; omega)))
    · exact .inr ⟨n', m', by rw [y1]; rfl, by rw [y2], x4, x5, hAR⟩
end N2
