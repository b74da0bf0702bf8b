/-! AN ATTRIBUTE goes in, or is told as a fault, in both -/
/-- what the reference needs of its own -/
def RdI (m : YS) : Prop := (0 ≤ m 80 0 ∧ m 80 0 ≤ 4) ∧ 0 ≤ m 85 0 ∧ ∀ a, 0 ≤ a → a < m 80 0 → (0 ≤ m 82 a ∧ m 82 a ≤ 8) ∧ 0 ≤ m 84 a ∧ m 84 a ≤ 60
def YT2 (m m' : YS) (i : Int) : Prop := m' 80 = m 80 ∧ m' 81 = m 81 ∧ m' 82 = m 82 ∧ m' 83 = m 83 ∧ m' 84 = m 84 ∧ m' 85 0 = m 85 0 + 1 ∧ m' 86 (m 85 0) = i ∧ ∀ j, j ≠ m 85 0 → m' 86 j = m 86 j
def YAd (m m' : YS) (w v : List Int) : Prop := m' 80 0 = m 80 0 + 1 ∧ (rnL m' (m 80 0) = w ∧ rvL m' (m 80 0) = v ∧ m' 82 (m 80 0) = (w.length : Int) ∧ m' 84 (m 80 0) = (v.length : Int)) ∧ (∀ a, 0 ≤ a → a < m 80 0 → rnL m' a = rnL m a ∧ rvL m' a = rvL m a ∧ m' 82 a = m 82 a ∧ m' 84 a = m 84 a) ∧ m' 85 = m 85 ∧ m' 86 = m 86
abbrev YFs : List Nat := [77, 80, 81, 82, 83, 84, 85, 86, 87, 88]
section H5
variable {Z : NS × YS} {n n' : NS} {m m' : YS} {A B N i q b t z oc v1 v2 v3 v4 : Int} {o e p qs : Int → Int} {w v : List Int}
theorem vlL_len {g : Int → Int} {i k : Int} : (vlL g i k).length ≤ 60 := by unfold vlL; rw [List.length_take]; omega
theorem smL_len {g : Int → Int} {i k : Int} (h : i < k) : 1 ≤ (smL g i k).length ∧ (smL g i k).length ≤ 8 := by unfold smL; rw [sg_len]; omega
theorem y_314 (hR : RdI m) (h85 : m 85 0 ≤ i ∧ i < 2000) (hw : sg (m 87) 0 w.length = w) (hv : sg (m 88) 0 v.length = v) (hw8 : w.length ≤ 8) (hv60 : v.length ≤ 60) :
    ∃ m', nk_Y_readAttribute_314 i (w.length : Int) z (v.length : Int) m = some (z, m') ∧ FY YFs m m' ∧ RdI m' ∧ m' 85 0 ≤ m 85 0 + 1
      ∧ ((((∃ a, 0 ≤ a ∧ a < m 80 0 ∧ rnL m a = w) ∨ m 80 0 = 4) ∧ YT2 m m' i) ∨ ((∀ a, 0 ≤ a → a < m 80 0 → rnL m a ≠ w) ∧ m 80 0 < 4 ∧ YAd m m' w v)) := by
  obtain ⟨r, er, hr⟩ := y_findT (m := m) (w := w) (v1 := i) (v2 := (w.length : Int)) (v3 := z) (v4 := (v.length : Int)) hR.1 hw8 hw rfl (fun a a0 a1 => (hR.2.2 a a0 a1).1.1)
  have tw : ∃ m', nk_Y_readAttribute_392 i z m = some (z, m') ∧ FY YFs m m' ∧ RdI m' ∧ m' 85 0 ≤ m 85 0 + 1 ∧ YT2 m m' i := by
    have h850 := hR.2.1
    refine ⟨yw (yw m 86 (m 85 0) i) 85 0 (m 85 0 + 1), ?_, fun f hf => ?_, ?_, by rw [yw_eq]; omega, ?_⟩
    · unfold nk_Y_readAttribute_392 ix st ck
      rw [if_pos (by omega)]
      dsimp only
      rw [show yw m 86 (m 85 0) i 85 0 = m 85 0 by rw [yw_nF (by decide)], if_pos (by omega)]
    · simp only [List.mem_cons, List.not_mem_nil, or_false, not_or] at hf
      rw [yw_nF hf.2.2.2.2.2.2.1, yw_nF hf.2.2.2.2.2.2.2.1]
    · unfold RdI
      rw [yw_eq, yw_nF (show (80 : Nat) ≠ 85 by decide), yw_nF (show (80 : Nat) ≠ 86 by decide), yw_nF (show (82 : Nat) ≠ 85 by decide), yw_nF (show (82 : Nat) ≠ 86 by decide), yw_nF (show (84 : Nat) ≠ 85 by decide), yw_nF (show (84 : Nat) ≠ 86 by decide)]
      exact ⟨hR.1, by omega, hR.2.2⟩
    · refine ⟨by rw [yw_nF (by decide), yw_nF (by decide)], by rw [yw_nF (by decide), yw_nF (by decide)], by rw [yw_nF (by decide), yw_nF (by decide)], by rw [yw_nF (by decide), yw_nF (by decide)], by rw [yw_nF (by decide), yw_nF (by decide)], yw_eq, by rw [yw_nF (by decide), yw_eq], fun j hj => by rw [yw_nF (by decide), yw_ni hj]⟩
  unfold nk_Y_readAttribute_314
  rw [er]
  simp only [Option.bind_some]
  rcases hr with ⟨r1, r2⟩ | ⟨r1, r2⟩
  · obtain ⟨m', t1, t2, t3, t4, t5⟩ := tw
    refine ⟨m', ?_, t2, t3, t4, .inl ⟨.inl r2, t5⟩⟩
    rw [if_neg (by omega)]; exact t1
  · rw [if_pos r1]
    by_cases h4 : m 80 0 = 4
    · obtain ⟨m', t1, t2, t3, t4, t5⟩ := tw
      refine ⟨m', ?_, t2, t3, t4, .inl ⟨.inr h4, t5⟩⟩
      rw [if_pos h4]; exact t1
    · rw [if_neg h4]
      have hc := hR.1
      generalize hm1 : yw m 82 (m 80 0) (w.length : Int) = m1
      have f1 : FY [82] m m1 := fun f hf => by rw [← hm1]; exact yw_nF (by simp only [List.mem_cons, List.not_mem_nil, or_false] at hf; exact hf)
      generalize hm2 : yw m1 84 (m 80 0) (v.length : Int) = m2
      have f2 : FY [84] m1 m2 := fun f hf => by rw [← hm2]; exact yw_nF (by simp only [List.mem_cons, List.not_mem_nil, or_false] at hf; exact hf)
      have e80 : m2 80 = m 80 := by rw [f2 80 (by decide), f1 80 (by decide)]
      obtain ⟨m3, e3, f3, a3, b3⟩ := y_cp438 (m := m2) (v2 := (w.length : Int)) (v3 := z) (v4 := (v.length : Int)) (by rw [e80]; omega) ⟨by omega, by omega⟩
      have e80' : m3 80 = m 80 := by rw [f3 80 (by decide), e80]
      obtain ⟨m4, e4, f4, a4, b4⟩ := y_cp475 (m := m3) (v3 := z) (v4 := (v.length : Int)) (by rw [e80']; omega) ⟨by omega, by omega⟩
      have e80'' : m4 80 = m 80 := by rw [f4 80 (by decide), e80']
      rw [e80] at a3 b3
      rw [e80'] at a4 b4
      have g82 : m4 82 = m1 82 := by rw [f4 82 (by decide), f3 82 (by decide), f2 82 (by decide)]
      have g84 : m4 84 = m2 84 := by rw [f4 84 (by decide), f3 84 (by decide)]
      have g81 : m4 81 = m3 81 := f4 81 (by decide)
      have i82 : ∀ a, a ≠ m 80 0 → m4 82 a = m 82 a := fun a ha => by rw [g82, ← hm1, yw_ni ha]
      have i84 : ∀ a, a ≠ m 80 0 → m4 84 a = m 84 a := fun a ha => by rw [g84, ← hm2, yw_ni ha, f1 84 (by decide)]
      have j82 : m4 82 (m 80 0) = (w.length : Int) := by rw [g82, ← hm1, yw_eq]
      have j84 : m4 84 (m 80 0) = (v.length : Int) := by rw [g84, ← hm2, yw_eq]
      have k81 : ∀ j, ¬ (8 * m 80 0 ≤ j ∧ j < 8 * m 80 0 + (w.length : Int)) → m4 81 j = m 81 j := fun j hj => by rw [g81, b3 j hj, f2 81 (by decide), f1 81 (by decide)]
      have k83 : ∀ j, ¬ (60 * m 80 0 ≤ j ∧ j < 60 * m 80 0 + (v.length : Int)) → m4 83 j = m 83 j := fun j hj => by rw [b4 j hj, f3 83 (by decide), f2 83 (by decide), f1 83 (by decide)]
      have e87 : m2 87 = m 87 := by rw [f2 87 (by decide), f1 87 (by decide)]
      have e88 : m3 88 = m 88 := by rw [f3 88 (by decide), f2 88 (by decide), f1 88 (by decide)]
      rw [e87] at a3
      rw [e88] at a4
      generalize hm5 : yw m4 80 0 (m 80 0 + 1) = m5
      have f5 : FY [80] m4 m5 := fun f hf => by rw [← hm5]; exact yw_nF (by simp only [List.mem_cons, List.not_mem_nil, or_false] at hf; exact hf)
      have h80 : m5 80 0 = m 80 0 + 1 := by rw [← hm5, yw_eq]
      have hY : YAd m m5 w v := by
        refine ⟨h80, ⟨?_, ?_, by rw [f5 82 (by decide)]; exact j82, by rw [f5 84 (by decide)]; exact j84⟩, fun a a0 a1 => ⟨?_, ?_, by rw [f5 82 (by decide)]; exact i82 a (by omega), by rw [f5 84 (by decide)]; exact i84 a (by omega)⟩, by rw [f5 85 (by decide), f4 85 (by decide), f3 85 (by decide), f2 85 (by decide), f1 85 (by decide)], by rw [f5 86 (by decide), f4 86 (by decide), f3 86 (by decide), f2 86 (by decide), f1 86 (by decide)]⟩
        · unfold rnL
          rw [f5 81 (by decide), f5 82 (by decide), j82, show ((w.length : Int)).toNat = w.length by omega]
          refine Eq.trans (sg_cg _ _ 0 (fun x hx => ?_)) hw
          rw [g81, Int.zero_add]; exact a3 x (by omega) (by omega)
        · unfold rvL
          rw [f5 83 (by decide), f5 84 (by decide), j84, show ((v.length : Int)).toNat = v.length by omega]
          refine Eq.trans (sg_cg _ _ 0 (fun x hx => ?_)) hv
          rw [Int.zero_add]; exact a4 x (by omega) (by omega)
        · have := hR.2.2 a a0 a1
          unfold rnL
          rw [f5 81 (by decide), f5 82 (by decide), i82 a (by omega)]
          exact sg_cg _ _ _ (fun x hx => k81 _ (by omega))
        · have := hR.2.2 a a0 a1
          unfold rvL
          rw [f5 83 (by decide), f5 84 (by decide), i84 a (by omega)]
          exact sg_cg _ _ _ (fun x hx => k83 _ (by omega))
      refine ⟨m5, ?_, fun f hf => ?_, ⟨by omega, by rw [hY.2.2.2.1]; exact hR.2.1, fun a a0 a1 => ?_⟩, by rw [hY.2.2.2.1]; omega, .inr ⟨r2, by omega, hY⟩⟩
      · unfold ix st ck
        rw [if_pos (by omega)]
        dsimp only
        rw [f1 80 (by decide), if_pos (by omega), hm2, e3]
        simp only [Option.bind_some]
        rw [e4]
        simp only [Option.bind_some]
        rw [e80'', if_pos (by omega), hm5]
      · simp only [List.mem_cons, List.not_mem_nil, or_false, not_or] at hf
        obtain ⟨x1, x2, x3, x4, x5, x6, x7, x8, x9, x10⟩ := hf
        rw [f5 f (by simp only [List.mem_cons, List.not_mem_nil, or_false]; exact x2), f4 f (by simp only [List.mem_cons, List.not_mem_nil, or_false]; exact x5), f3 f (by simp only [List.mem_cons, List.not_mem_nil, or_false]; exact x3), f2 f (by simp only [List.mem_cons, List.not_mem_nil, or_false]; exact x6), f1 f (by simp only [List.mem_cons, List.not_mem_nil, or_false]; exact x4)]
      · by_cases y : a = m 80 0
        · rw [y, hY.2.1.2.2.1, hY.2.1.2.2.2]; omega
        · rw [(hY.2.2.1 a a0 (by omega)).2.2.1, (hY.2.2.1 a a0 (by omega)).2.2.2]; exact hR.2.2 a a0 (by omega)
/-- the class puts it in -/
theorem c_206 (hX : JX Z A B n m N o e p qs oc) (hD : TD n m) (hw : ∀ c ∈ w, isBt c) (hb : 0 ≤ b ∧ b ≤ t ∧ t ≤ m 76 0) (hz : z < m 76 0) (hno : ∀ a, 0 ≤ a → a < m 80 0 → rnL m a ≠ w) (h4 : m 80 0 < 4) :
    ∃ n', nk_Reader_readAttribute_206 i 0 z (pk w) b t n = some (z, n') ∧ JX Z A B n' m N o e p qs oc ∧ n' 7 120 12 = m 80 0 + 1 ∧ n' 18 120 (m 80 0) = pk w ∧ (∀ a, a ≠ m 80 0 → n' 18 120 a = n 18 120 a) ∧ bt n' (601 + m 80 0) = vlL (m 75) b t ∧ (∀ a, 0 ≤ a → a < 4 → a ≠ m 80 0 → bt n' (601 + a) = bt n (601 + a)) ∧ n' 8 = n 8 ∧ n' 28 = n 28 ∧ n' 29 = n 29 ∧ n' 10 = n 10 := by
  have hRD := hX.2.2.2.1
  have hc := hD.1
  obtain ⟨r, er, hr⟩ := c_findT hD hw
  have hr1 : r = -1 := by
    rcases hr with ⟨_, a, a0, a1, a2⟩ | ⟨y, _⟩
    · exact absurd a2 (hno a a0 a1)
    · exact y
  subst hr1
  generalize hn1 : nw n 18 120 (m 80 0) (pk w) = n1
  have k1 : ∀ K, K ≠ 18 → n1 K = n K := fun K hK => by rw [← hn1]; exact nw_nK hK
  have X1 : JX Z A B n1 m N o e p qs oc := hX.tn (fun K _ hK => k1 K hK) (fun v _ => by rw [k1 7 (by decide)]) (fun v hv => by rw [← hn1]; exact nw_ni hv)
  have hrow : 0 ≤ 601 + m 80 0 ∧ 601 + m 80 0 ≤ 604 := by omega
  obtain ⟨n2, e2, B2, F2, t2⟩ := cs_clear (b := 601 + m 80 0) ⟨by omega, by omega⟩ X1.1
  have X2 : JX Z A B n2 m N o e p qs oc := X1.fb B2 F2 (fun x hx => by omega)
  have e7 : n2 7 = n 7 := by rw [F2.1 7 (by decide) (by decide) (by decide) (by decide) (by decide) (by decide), k1 7 (by decide)]
  generalize hn3 : nw n2 7 120 12 (m 80 0 + 1) = n3
  have k3 : ∀ K, K ≠ 7 → n3 K = n2 K := fun K hK => by rw [← hn3]; exact nw_nK hK
  have X3 : JX Z A B n3 m N o e p qs oc := X2.tn (fun K hK _ => k3 K hK) (fun v hv => by rw [← hn3]; exact nw_ni hv) (fun v _ => by rw [k3 18 (by decide)])
  have S3 := X3.2.2.2.1
  have bt3 : bt n3 (601 + m 80 0) = [] := by
    unfold bt at t2 ⊢
    rw [k3 4 (by decide), k3 99 (by decide)]; exact t2
  obtain ⟨⟨y, n4⟩, e4, dn, rest, d1, d2, d3, d4, d5⟩ := c_decode (A := A) (B := B) (b := 601 + m 80 0) (r := 0) S3.1 X3.1 hrow S3.2.1 (S3.2.2.1 _ (by omega) (by omega)) hb S3.2.2.2 (.inl rfl)
  simp only at d2 d3
  have X4 : JX Z A B n4 m N o e p qs oc := X3.fb d3.1 d3.2.1 (fun x hx => by omega)
  have F4 := d3.2.1
  have hlim : lim (601 + m 80 0) = 60 := by unfold lim; rw [if_pos (by omega), if_neg (by omega)]
  have hsz : n3 4 (601 + m 80 0) 2 = 0 := by
    have := bt_len (b := 601 + m 80 0) ⟨by omega, by omega⟩ X3.1
    rw [bt3] at this
    have e0 : (([] : List Int).length : Int) = 0 := rfl
    omega
  have hbt : bt n4 (601 + m 80 0) = vlL (m 75) b t := by
    rw [d3.2.2, bt3, List.nil_append, hlim]
    unfold vlL
    rw [d1, List.map_append]
    rw [hlim, hsz] at d4 d5
    show List.take 60 (dn.map Prod.snd) = _
    by_cases hrn : rest = []
    · rw [hrn]; show _ = List.take 60 (dn.map Prod.snd ++ []); rw [List.append_nil]
    · have := d5 hrn
      rw [List.take_append_of_le_length (by rw [List.length_map]; omega)]
  have fK : ∀ K, K ≠ 4 → K ≠ 7 → K ≠ 18 → K ≠ 90 → K ≠ 91 → K ≠ 92 → K ≠ 93 → K ≠ 99 → n4 K = n K := fun K a1 a2 a3 a4 a5 a6 a7 a8 => by rw [F4.1 K a1 a4 a5 a6 a7 a8, k3 K a2, F2.1 K a1 a4 a5 a6 a7 a8, k1 K a3]
  have g18 : n4 18 = n1 18 := by rw [F4.1 18 (by decide) (by decide) (by decide) (by decide) (by decide) (by decide), k3 18 (by decide), F2.1 18 (by decide) (by decide) (by decide) (by decide) (by decide) (by decide)]
  refine ⟨n4, ?_, X4, ?_, by rw [g18, ← hn1, nw_eq], fun a ha => by rw [g18, ← hn1, nw_ns ha], hbt, fun a a0 a1 ha => ?_, fK 8 (by decide) (by decide) (by decide) (by decide) (by decide) (by decide) (by decide) (by decide), fK 28 (by decide) (by decide) (by decide) (by decide) (by decide) (by decide) (by decide) (by decide), fK 29 (by decide) (by decide) (by decide) (by decide) (by decide) (by decide) (by decide) (by decide), fK 10 (by decide) (by decide) (by decide) (by decide) (by decide) (by decide) (by decide) (by decide)⟩
  · unfold nk_Reader_readAttribute_206
    rw [hRD.1.2.1, if_pos hz, if_pos rfl, er]
    simp only [Option.bind_some]
    rw [if_pos (show (-1 : Int) < 0 by decide)]
    have hadd : N_Node_addAttribute 120 (pk w) n = some (601 + m 80 0, n3) := by
      unfold N_Node_addAttribute ix st ck
      rw [hc.1, if_neg (by omega), if_pos (by omega), hn1]
      dsimp only
      rw [k1 7 (by decide), hc.1, if_pos (by omega), show (5 : Int) * 120 + 1 + m 80 0 = 601 + m 80 0 by omega, e2]
      simp only [Option.bind_some]
      rw [e7, hc.1, if_pos (by omega), hn3]
    rw [hadd]
    show (if 601 + m 80 0 < 0 then nk_Reader_readAttribute_245 i z b t (-1) n3 else nk_Reader_readAttribute_245 i z b t (601 + m 80 0) n3) = _
    rw [if_neg (by omega)]
    unfold nk_Reader_readAttribute_245
    rw [if_neg (by omega)]
    have e4' : N_Reader_decode b t 1 (601 + m 80 0) n3 = some (y, n4) := e4
    rw [e4']; rfl
  · rw [F4.1 7 (by decide) (by decide) (by decide) (by decide) (by decide) (by decide), ← hn3, nw_eq]
  · rw [(F4.bts X3.1 (b := 601 + a) ⟨by omega, by omega⟩ (by omega) (fun x hx => by omega)).2.2]
    have : bt n3 (601 + a) = bt n2 (601 + a) := by unfold bt; rw [k3 4 (by decide), k3 99 (by decide)]
    rw [this, (F2.bts X1.1 (b := 601 + a) ⟨by omega, by omega⟩ (by omega) (fun x hx => by omega)).2.2]
    unfold bt; rw [k1 4 (by decide), k1 99 (by decide)]
/-- the class tells it -/
theorem c_206t (hD : TD n m) (hw : ∀ c ∈ w, isBt c) (h9 : n 8 0 9 = m 76 0) (hz : z < m 76 0) (hno : (∃ a, 0 ≤ a ∧ a < m 80 0 ∧ rnL m a = w) ∨ m 80 0 = 4) : nk_Reader_readAttribute_206 i 0 z (pk w) b t n = (N_Reader_tell 2 i n).bind fun n13 => some (z, n13) := by
  have hc := hD.1
  obtain ⟨r, er, hr⟩ := c_findT hD hw
  unfold nk_Reader_readAttribute_206
  rw [h9, if_pos hz, if_pos rfl, er]
  simp only [Option.bind_some]
  have e245 : nk_Reader_readAttribute_245 i z b t (-1) n = (N_Reader_tell 2 i n).bind fun n13 => some (z, n13) := by
    unfold nk_Reader_readAttribute_245
    rw [if_pos (by decide)]
  rcases hr with ⟨r1, _⟩ | ⟨r1, r2⟩
  · rw [if_neg (by omega)]; exact e245
  · rw [if_pos (by omega)]
    have h4 : m 80 0 = 4 := by
      rcases hno with ⟨a, a0, a1, a2⟩ | y
      · exact absurd a2 (r2 a a0 a1)
      · exact y
    have : N_Node_addAttribute 120 (pk w) n = some (-1, n) := by
      unfold N_Node_addAttribute
      rw [hc.1, if_pos h4]
    rw [this]
    show (if (-1 : Int) < 0 then nk_Reader_readAttribute_245 i z b t (-1) n else nk_Reader_readAttribute_245 i z b t (-1) n) = _
    rw [if_pos (by decide)]; exact e245
end H5
