/-! SELECTORS, in both: all of one -/
section S5
variable {n n' n'' : NS} {m m' m'' : YS} {g : Int → Int} {a a0 tc ty d L s al c : Int} {f : Nat}
/-- how a SELECTOR's loops end -/
def SLP (tc s a : Int) (n : NS) (m : YS) (X : Option ((Int × NS) ⊕ (NS) ⊕ (Int × NS) ⊕ (Int × NS))) (Y : Option ((Int × YS) ⊕ (YS))) : Prop :=
  ∃ n' m', FSn s n n' ∧ FSy s m m' ∧
    ((X = some (.inr (.inl n')) ∧ Y = some (.inr m') ∧ SL n' m' s ∧ m' 100 0 = tc)
    ∨ ∃ k, (a ≤ k ∧ k ≤ tc) ∧ (X = some (.inl (-1 - k, n')) ∨ X = some (.inr (.inr (.inl (k, n'))))) ∧ (Y = some (.inl (k, m')) ∨ (Y = some (.inr m') ∧ m' 100 0 = k ∧ k < tc)))
theorem sel_loop (hs : 0 ≤ s ∧ s < 41) (hf : f = 2 ∨ f = 101) (hK : okK g tc ty) (hA : okA g a0 tc ty al) (hal : al = 0 ∨ al = 1) (hty : ty ≤ yLn f ∧ ty ≤ 2000) : ∀ (z : Nat) (c a : Int) (n : NS) (m : YS), (3 - c).toNat ≤ z → (0 ≤ c ∧ c < 3) → (n 32 0 s = c ∧ m 90 s = c) → (0 ≤ a ∧ a0 ≤ a ∧ a ≤ tc ∧ m 100 0 = a) → tx n d g tc → m f = g → n 33 0 s = m 97 s → (0 ≤ m 97 s ∧ m 97 s ≤ 401 * c) → (∀ j, 0 ≤ j → j < c → PRT n m (3 * s + j)) → SLP tc s a n m (NL_Sheet_readSelector_22 d tc s a c n) (NL_Y_readSelector_17 f ty s al 1 m) := by
  have hle := hK.1
  have hfn : f ≠ 90 ∧ f ≠ 100 := by omega
  intro z
  induction z with
  | zero => intro c a n m hz hc; omega
  | succ z ih =>
    intro c a n m hz hc hcc ha ht hg h33 h97 hPT
    obtain ⟨k, n1, m1, r1, r2, r3, r4, r5⟩ := part_both (d := d) (f := f) (g := g) (p := 3 * s + c) (B := 401 * (c + 1)) hs ⟨hcc.1, hcc.2, hc⟩ rfl hf hK hty (by omega) ⟨ha.1, ha.2.2.1, ha.2.2.2⟩ ht hg h33 (by omega)
    have hps : 3 * s ≤ 3 * s + c ∧ 3 * s + c < 3 * s + 3 := by omega
    have F1 := r2.fs hps
    have G1 := r3.fs hps
    have t1 := F1.txx ht
    have g1 : m1 f = g := by rw [r3.1 f (by rcases hf with y | y <;> rw [y] <;> decide)]; exact hg
    have e90 : m1 90 s = c := by rw [r3.1 90 (by decide)]; exact hcc.2
    have ybody : ∀ (z8 : Int) (mm : YS), N_Y_readPart f ty (3 * s + c) s m = some (z8, mm) → nb_Y_readSelector_17 f ty s al 1 m = if z8 < 0 then (ix s 41 <| ck (mm 90 s + 1) <| ix s 41 <| st (yw mm 90 s (mm 90 s + 1)) fun m20 => (NL_Y_readSelector_65 f ty s al (m20 100 0) m20).bind fun z24 => nk_Y_readSelector_87 f ty s al z24 m20) else some (.inr (.inl (z8, mm))) := fun z8 mm e => by
      unfold nb_Y_readSelector_17
      rw [if_neg (by decide), ck_e _ (by omega), ix_e _ hs, hcc.2, ck_e _ (by omega), e]
      rfl
    have cbody : ∀ (z3 : Int) (nn' : NS), N_Sheet_readPart d a tc s n = some (z3, nn') → nb_Sheet_readSelector_22 d tc s a c n = if z3 < 0 then some (.inr (.inl (z3, nn'))) else if z3 = tc then some (.inr (.inr (.inl nn'))) else dx nn' d 1 z3 <| (N_Bytes_isBlank (nn' 99 d z3) nn').bind fun z14 => if z14 = 0 then some (.inr (.inr (.inr (.inl (z3, nn'))))) else if c = 2 then some (.inr (.inr (.inr (.inl (z3, nn'))))) else (N_Sheet_skipBlanks d z3 tc nn').bind fun z20 => ck (c + 1) <| some (.inl (z20, c + 1, nn')) := fun z3 nn' e => by
      unfold nb_Sheet_readSelector_22
      rw [if_pos hc.2, e]
      rfl
    rcases r5 with ⟨u1, u2', u3, u4, u5, u6, u7⟩ | ⟨u1, u2'⟩ | ⟨u1, u2', u3, u4⟩
    · -- a PART
      generalize hm2 : yw m1 90 s (c + 1) = m2
      have f2 : FY [90] m1 m2 := fun x hx => by rw [← hm2]; exact yw_nF (by simp only [List.mem_cons, List.not_mem_nil, or_false] at hx; exact hx)
      have e902 : m2 90 s = c + 1 := by rw [← hm2, yw_eq]
      have g2 : m2 f = g := by rw [f2 f (by simp only [List.mem_cons, List.not_mem_nil, or_false]; exact hfn.1)]; exact g1
      have e100 : m2 100 0 = k := by rw [f2 100 (by decide)]; exact u4
      have G2 : FSy s m m2 := G1.trans ⟨f2.mono (fun x hx => by simp only [List.mem_cons, List.not_mem_nil, or_false] at hx ⊢; omega), fun j hj => ⟨by rw [← hm2, yw_ni hj], by rw [f2 97 (by decide)]⟩, fun j _ => by rw [f2 91 (by decide), f2 93 (by decide)]; exact ⟨rfl, rfl⟩, fun j _ => by rw [f2 94 (by decide), f2 95 (by decide)]; exact ⟨rfl, rfl⟩, fun j _ => by rw [f2 96 (by decide)], fun j _ => by rw [f2 92 (by decide)]⟩
      have PRTn : ∀ j, 0 ≤ j → j < c + 1 → PRT n1 m2 (3 * s + j) := fun j x y => by
        have h : PRT n1 m1 (3 * s + j) := by
          by_cases w : j = c
          · rw [w]; exact u5
          · exact (hPT j x (by omega)).fp r2 r3 (by omega)
        exact h.cg ⟨rfl, rfl⟩ (fun i _ _ => ⟨⟨rfl, rfl⟩, by rw [f2 94 (by decide), f2 95 (by decide)]; exact ⟨rfl, rfl⟩⟩) (by rw [f2 91 (by decide), f2 93 (by decide)]; exact ⟨rfl, rfl⟩) (fun i _ _ => by rw [f2 92 (by decide)]) (fun i _ _ => by rw [f2 96 (by decide)])
      have SLn : SL n1 m2 s := ⟨by rw [r4, hcc.1, e902], by rw [e902]; omega, by rw [f2 97 (by decide)]; exact u6, by rw [f2 97 (by decide)]; omega, by rw [e902]; exact PRTn⟩
      have ey := ybody (-1) m1 u2'
      rw [if_pos (by decide), ix_e _ hs, e90, ck_e _ (by omega), ix_e _ hs] at ey
      unfold st at ey
      dsimp only at ey
      rw [hm2, e100, ys_skip hty ⟨by omega, by omega⟩, g2] at ey
      simp only [Option.bind_some] at ey
      have ym := y_more (f := f) (ty := ty) (m := m2) (x := sc (fun j => isBl (g j)) k ty) (g := g) (s := s) (al := al) hs hal hty (by have := scx_ge (p := fun j => isBl (g j)) k ty; omega) g2
      rw [e100, e902] at ym
      have ec := cbody k n1 u1
      rw [if_neg (by omega)] at ec
      -- the reference ends here
      have yend : ¬ (k < sc (fun j => isBl (g j)) k ty ∧ c + 1 < 3 ∧ (al ≠ 0 ∨ (sc (fun j => isBl (g j)) k ty < ty ∧ g (sc (fun j => isBl (g j)) k ty) ≠ 44))) → NL_Y_readSelector_17 f ty s al 1 m = some (.inr m2) := fun hno => by
        rw [ym.2 hno] at ey
        unfold NL_Y_readSelector_17
        rw [it_inl (f := fun t : Int × YS => nb_Y_readSelector_17 f ty s al t.1 t.2) (s := (1, m)) ey]
        refine it_inr ?_
        show nb_Y_readSelector_17 f ty s al 0 m2 = _
        unfold nb_Y_readSelector_17
        rw [if_pos rfl]
      by_cases z1 : k = tc
      · rw [if_pos z1] at ec
        refine ⟨n1, m2, F1, G2, .inl ⟨?_, ?_, SLn, by rw [e100, z1]⟩⟩
        · unfold NL_Sheet_readSelector_22
          exact it_inr ec
        · refine yend (fun y => ?_)
          rw [z1] at y
          exact okA_end hA hle ⟨y.1, y.2.2⟩
      · rw [if_neg z1] at ec
        unfold dx at ec
        rw [if_pos ⟨t1.1, by omega, by have := t1.2.1; omega⟩, t1.2.2 k (by omega) (by omega)] at ec
        by_cases hb : isBl (g k)
        · rw [bz_t cs_blank hb] at ec
          simp only [Option.bind_some] at ec
          rw [if_neg (by decide)] at ec
          by_cases z2 : c = 2
          · rw [if_pos z2] at ec
            refine ⟨n1, m2, F1, G2, .inr ⟨k, ⟨by omega, r1.2⟩, .inr ?_, .inr ⟨yend (fun y => by omega), e100, by omega⟩⟩⟩
            unfold NL_Sheet_readSelector_22
            exact it_inr ec
          · rw [if_neg z2, cs_skip t1 ⟨by omega, Int.le_refl _, by omega⟩] at ec
            simp only [Option.bind_some] at ec
            rw [ck_e _ (by omega)] at ec
            obtain ⟨o1, o2, o3⟩ := okA_skip (q := k) hA hle ⟨by omega, by omega⟩ hb
            rw [o1] at ym ey
            have k2 := scx_le (p := fun j => isBl (g j)) (i := k) (to := tc) (by omega)
            generalize sc (fun j => isBl (g j)) k tc = q at *
            rw [ym.1 ⟨o2, by omega, by rcases o3 with y | y; exact .inl (by omega); exact .inr y.2⟩] at ey
            have fq : FY [100] m2 (yw m2 100 0 q) := fun x hx => yw_nF (by simp only [List.mem_cons, List.not_mem_nil, or_false] at hx; exact hx)
            have I := ih (c + 1) q n1 (yw m2 100 0 q) (by omega) ⟨by omega, by omega⟩ ⟨by rw [r4, hcc.1], by rw [fq 90 (by decide)]; exact e902⟩ ⟨by omega, by omega, k2, yw_eq⟩ t1 (by rw [fq f (by simp only [List.mem_cons, List.not_mem_nil, or_false]; exact hfn.2)]; exact g2) (by rw [fq 97 (by decide), f2 97 (by decide)]; exact u6) (by rw [fq 97 (by decide), f2 97 (by decide)]; exact u7) (fun j x y => (PRTn j x y).cg ⟨rfl, rfl⟩ (fun i _ _ => ⟨⟨rfl, rfl⟩, by rw [fq 94 (by decide), fq 95 (by decide)]; exact ⟨rfl, rfl⟩⟩) (by rw [fq 91 (by decide), fq 93 (by decide)]; exact ⟨rfl, rfl⟩) (fun i _ _ => by rw [fq 92 (by decide)]) (fun i _ _ => by rw [fq 96 (by decide)]))
            have E1 : NL_Sheet_readSelector_22 d tc s a c n = NL_Sheet_readSelector_22 d tc s q (c + 1) n1 := by
              unfold NL_Sheet_readSelector_22
              exact it_inl (f := fun t : Int × Int × NS => nb_Sheet_readSelector_22 d tc s t.1 t.2.1 t.2.2) (s := (a, c, n)) ec
            have E2 : NL_Y_readSelector_17 f ty s al 1 m = NL_Y_readSelector_17 f ty s al 1 (yw m2 100 0 q) := by
              unfold NL_Y_readSelector_17
              exact it_inl (f := fun t : Int × YS => nb_Y_readSelector_17 f ty s al t.1 t.2) (s := (1, m)) ey
            rw [E1, E2]
            obtain ⟨n', m', w1, w2, w3⟩ := I
            refine ⟨n', m', F1.trans w1, (G2.trans ⟨fq.mono (fun x hx => by simp only [List.mem_cons, List.not_mem_nil, or_false] at hx ⊢; omega), fun j _ => by rw [fq 90 (by decide), fq 97 (by decide)]; exact ⟨rfl, rfl⟩, fun j _ => by rw [fq 91 (by decide), fq 93 (by decide)]; exact ⟨rfl, rfl⟩, fun j _ => by rw [fq 94 (by decide), fq 95 (by decide)]; exact ⟨rfl, rfl⟩, fun j _ => by rw [fq 96 (by decide)], fun j _ => by rw [fq 92 (by decide)]⟩).trans w2, ?_⟩
            rcases w3 with y | ⟨k', y1, y2⟩
            · exact .inl y
            · exact .inr ⟨k', ⟨by omega, y1.2⟩, y2⟩
        · rw [bz_f cs_blank hb] at ec
          simp only [Option.bind_some] at ec
          rw [if_pos trivial] at ec
          refine ⟨n1, m2, F1, G2, .inr ⟨k, ⟨by omega, r1.2⟩, .inr ?_, .inr ⟨yend (fun y => ?_), e100, by omega⟩⟩⟩
          · unfold NL_Sheet_readSelector_22
            exact it_inr ec
          · exact absurd (scx_in (p := fun j => isBl (g j)) (Int.le_refl k) y.1) hb
    · have ec := cbody (-1 - k) n1 u1
      rw [if_pos (by omega)] at ec
      have ey := ybody k m1 u2'
      rw [if_neg (by omega)] at ey
      refine ⟨n1, m1, F1, G1, .inr ⟨k, r1, .inl ?_, .inl ?_⟩⟩
      · unfold NL_Sheet_readSelector_22
        exact it_inr ec
      · unfold NL_Y_readSelector_17
        exact it_inr ey
    · have ec := cbody k n1 u1
      unfold dx at ec
      rw [if_neg (by omega), if_neg (by omega), if_pos ⟨t1.1, by omega, by have := t1.2.1; omega⟩, t1.2.2 k (by omega) u3, bz_f cs_blank (fun y => by unfold isNm at u4; unfold isBl at y; omega)] at ec
      simp only [Option.bind_some] at ec
      rw [if_pos trivial] at ec
      have ey := ybody k m1 u2'
      rw [if_neg (by omega)] at ey
      refine ⟨n1, m1, F1, G1, .inr ⟨k, r1, .inr ?_, .inl ?_⟩⟩
      · unfold NL_Sheet_readSelector_22
        exact it_inr ec
      · unfold NL_Y_readSelector_17
        exact it_inr ey
/-- how a SELECTOR ends -/
def SLR (tc s a : Int) (n : NS) (m : YS) (X : Option (Int × NS)) (Y : Option (Int × YS)) : Prop :=
  ∃ n' m', FSn s n n' ∧ FSy s m m' ∧
    ((X = some (-1, n') ∧ Y = some (-1, m') ∧ SL n' m' s ∧ m' 100 0 = tc)
    ∨ ∃ k, (a ≤ k ∧ k ≤ tc) ∧ X = some (k, n') ∧ (Y = some (k, m') ∨ (Y = some (-1, m') ∧ m' 100 0 = k ∧ k < tc)))
theorem sel_both (hs : 0 ≤ s ∧ s < 41) (hf : f = 2 ∨ f = 101) (hK : okK g tc ty) (hA : okA g a tc ty al) (hal : al = 0 ∨ al = 1) (hty : ty ≤ yLn f ∧ ty ≤ 2000) (ha : 0 ≤ a ∧ a ≤ tc ∧ m 100 0 = a) (ht : tx n d g tc) (hg : m f = g) : SLR tc s a n m (N_Sheet_readSelector d a tc s n) (N_Y_readSelector f ty s al m) := by
  have hle := hK.1
  generalize hn8 : nw (nw n 32 0 s 0) 33 0 s 0 = n8
  generalize hm8 : yw (yw m 90 s 0) 97 s 0 = m8
  have K8 : ∀ K, K ∉ [32, 33] → n8 K = n K := fun K hK' => by
    simp only [List.mem_cons, List.not_mem_nil, or_false, not_or] at hK'
    rw [← hn8, nw_nK hK'.2, nw_nK hK'.1]
  have F8 : FY [90, 97] m m8 := fun x hx => by
    simp only [List.mem_cons, List.not_mem_nil, or_false, not_or] at hx
    rw [← hm8, yw_nF hx.2, yw_nF hx.1]
  have fn8 : FSn s n n8 := ⟨fun K hK' => K8 K (fun z => hK' (by simp only [List.mem_cons, List.not_mem_nil, or_false] at z ⊢; omega)), fun k hk => ⟨by rw [← hn8, nw_nK (by decide), nw_ns hk], by rw [← hn8, nw_ns hk, nw_nK (by decide)]⟩, fun k _ => by rw [K8 35 (by decide), K8 36 (by decide)]; exact ⟨rfl, rfl⟩, fun k _ => by rw [K8 37 (by decide), K8 38 (by decide)]; exact ⟨rfl, rfl⟩⟩
  have fm8 : FSy s m m8 := ⟨F8.mono (fun x hx => by simp only [List.mem_cons, List.not_mem_nil, or_false] at hx ⊢; omega), fun k hk => ⟨by rw [← hm8, yw_nF (by decide), yw_ni hk], by rw [← hm8, yw_ni hk, yw_nF (by decide)]⟩, fun k _ => by rw [F8 91 (by decide), F8 93 (by decide)]; exact ⟨rfl, rfl⟩, fun k _ => by rw [F8 94 (by decide), F8 95 (by decide)]; exact ⟨rfl, rfl⟩, fun j _ => by rw [F8 96 (by decide)], fun j _ => by rw [F8 92 (by decide)]⟩
  obtain ⟨n', m', w1, w2, w3⟩ := sel_loop (d := d) (f := f) hs hf hK hA hal hty 3 0 a n8 m8 (by decide) (by omega) ⟨by rw [← hn8, nw_nK (by decide), nw_eq], by rw [← hm8, yw_nF (by decide), yw_eq]⟩ ⟨ha.1, Int.le_refl _, ha.2.1, by rw [F8 100 (by decide)]; exact ha.2.2⟩ (fn8.txx ht) (by rw [F8 f (by rcases hf with y | y <;> rw [y] <;> decide)]; exact hg) (by rw [← hn8, nw_eq, ← hm8, yw_eq]) (by rw [← hm8, yw_eq]; omega) (fun j x y => by omega)
  have ec : N_Sheet_readSelector d a tc s n = (NL_Sheet_readSelector_22 d tc s a 0 n8).bind (us (u2 fun z11 n12 => ck ((-1) - z11) <| some ((-1) - z11, n12)) (us (fun n19 => some ((-1), n19)) (us (u2 fun z23 n24 => some (z23, n24)) (u2 fun z30 n31 => some (z30, n31))))) := by
    unfold N_Sheet_readSelector st
    dsimp only
    rw [ix_e _ hs, ix_e _ hs, hn8]
  have ey : N_Y_readSelector f ty s al m = (NL_Y_readSelector_17 f ty s al 1 m8).bind (us (u2 fun z11 m12 => some (z11, m12)) (fun m18 => some ((-1), m18))) := by
    unfold N_Y_readSelector st
    dsimp only
    rw [ix_e _ hs, ix_e _ hs, hm8]
  rw [ec, ey]
  refine ⟨n', m', fn8.trans w1, fm8.trans w2, ?_⟩
  rcases w3 with ⟨u1, u2', u3⟩ | ⟨k, u1, u2', u3⟩
  · rw [u1, u2']
    exact .inl ⟨rfl, rfl, u3⟩
  · refine .inr ⟨k, u1, ?_, ?_⟩
    · rcases u2' with y | y
      · rw [y]
        simp only [Option.bind_some, us, u2]
        rw [ck_e _ (by omega), show -1 - (-1 - k) = k by omega]
      · rw [y]; rfl
    · rcases u3 with y | ⟨y1, y2⟩
      · rw [y]; exact .inl rfl
      · rw [y1]; exact .inr ⟨rfl, y2⟩
end S5
