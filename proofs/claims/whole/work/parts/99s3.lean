/-! SELECTORS: a PART, in both -/
def PRT (n : NS) (m : YS) (p : Int) : Prop := (∃ w : List Int, w.length ≤ 8 ∧ (∀ c ∈ w, isNm c) ∧ (m 91 p = (w.length : Int) ∨ (w = [] ∧ m 91 p = -1)) ∧ sg (m 92) (8 * p) w.length = w ∧ n 35 0 p = pk w) ∧ MKs n m p
def FPn (s p : Int) (n n' : NS) : Prop := (∀ K, K ∉ [32, 33, 35, 36, 37, 38] → n' K = n K) ∧ (∀ k, k ≠ s → n' 32 0 k = n 32 0 k ∧ n' 33 0 k = n 33 0 k) ∧ (∀ k, k ≠ p → n' 35 0 k = n 35 0 k ∧ n' 36 0 k = n 36 0 k) ∧ (∀ c, ¬ (4 * p ≤ c ∧ c < 4 * p + 4) → n' 37 0 c = n 37 0 c ∧ n' 38 0 c = n 38 0 c)
def FPy (s p : Int) (m m' : YS) : Prop := FY [91, 92, 93, 94, 95, 96, 97, 100] m m' ∧ (∀ k, k ≠ s → m' 97 k = m 97 k) ∧ (∀ k, k ≠ p → m' 91 k = m 91 k ∧ m' 93 k = m 93 k) ∧ (∀ c, ¬ (4 * p ≤ c ∧ c < 4 * p + 4) → m' 94 c = m 94 c ∧ m' 95 c = m 95 c) ∧ (∀ j, ¬ (32 * p ≤ j ∧ j < 32 * p + 32) → m' 96 j = m 96 j) ∧ (∀ j, ¬ (8 * p ≤ j ∧ j < 8 * p + 8) → m' 92 j = m 92 j)
section S3
variable {n n' n'' : NS} {m m' m'' : YS} {g : Int → Int} {a at' tc ty d L s p fr c B : Int} {f : Nat}
theorem FKn.fp (h : FKn s p n n') : FPn s p n n' := ⟨fun K hK => h.1 K (fun z => hK (by simp only [List.mem_cons, List.not_mem_nil, or_false] at z ⊢; omega)), fun k hk => ⟨by rw [h.1 32 (by decide)], h.2.1 k hk⟩, fun k hk => ⟨by rw [h.1 35 (by decide)], h.2.2.1 k hk⟩, h.2.2.2⟩
theorem FKy.fp (h : FKy s p m m') : FPy s p m m' := ⟨h.1.mono (fun x hx => by simp only [List.mem_cons, List.not_mem_nil, or_false] at hx ⊢; omega), h.2.1, fun k hk => ⟨by rw [h.1 91 (by decide)], h.2.2.1 k hk⟩, h.2.2.2.1, h.2.2.2.2, fun j _ => by rw [h.1 92 (by decide)]⟩
theorem FPn.trans (h : FPn s p n n') (h' : FPn s p n' n'') : FPn s p n n'' := ⟨fun K x => (h'.1 K x).trans (h.1 K x), fun k x => ⟨(h'.2.1 k x).1.trans (h.2.1 k x).1, (h'.2.1 k x).2.trans (h.2.1 k x).2⟩, fun k x => ⟨(h'.2.2.1 k x).1.trans (h.2.2.1 k x).1, (h'.2.2.1 k x).2.trans (h.2.2.1 k x).2⟩, fun c x => ⟨(h'.2.2.2 c x).1.trans (h.2.2.2 c x).1, (h'.2.2.2 c x).2.trans (h.2.2.2 c x).2⟩⟩
theorem FPy.trans (h : FPy s p m m') (h' : FPy s p m' m'') : FPy s p m m'' := ⟨fun K x => (h'.1 K x).trans (h.1 K x), fun k x => (h'.2.1 k x).trans (h.2.1 k x), fun k x => ⟨(h'.2.2.1 k x).1.trans (h.2.2.1 k x).1, (h'.2.2.1 k x).2.trans (h.2.2.1 k x).2⟩, fun c x => ⟨(h'.2.2.2.1 c x).1.trans (h.2.2.2.1 c x).1, (h'.2.2.2.1 c x).2.trans (h.2.2.2.1 c x).2⟩, fun j x => (h'.2.2.2.2.1 j x).trans (h.2.2.2.2.1 j x), fun j x => (h'.2.2.2.2.2 j x).trans (h.2.2.2.2.2 j x)⟩
/-- how a PART ends -/
def PTR (g : Int → Int) (tc p s B a : Int) (n : NS) (m : YS) (X : Option (Int × NS)) (Y : Option (Int × YS)) : Prop :=
  ∃ k n' m', (a ≤ k ∧ k ≤ tc) ∧ FPn s p n n' ∧ FPy s p m m' ∧ n' 32 0 s = n 32 0 s + 1 ∧
    ((X = some (k, n') ∧ Y = some (-1, m') ∧ a < k ∧ m' 100 0 = k ∧ PRT n' m' p ∧ n' 33 0 s = m' 97 s ∧ (0 ≤ m' 97 s ∧ m' 97 s ≤ B))
    ∨ (X = some (-1 - k, n') ∧ Y = some (k, m'))
    ∨ (X = some (k, n') ∧ Y = some (k, m') ∧ k < tc ∧ isNm (g k)))
theorem part_tail (hs : 0 ≤ s ∧ s < 41) (hp : 0 ≤ p ∧ p < 123) (hf : f = 2 ∨ f = 101) (hK : okK g tc ty) (hty : ty ≤ yLn f ∧ ty ≤ 2000) (hB : B ≤ 100000) (ha : 0 ≤ a ∧ a ≤ at' ∧ at' ≤ tc) (ht : tx n d g tc) (hg : m f = g) (h36 : n 36 0 p = 0) (h93 : m 93 p = 0) (h33 : n 33 0 s = m 97 s) (h97 : 0 ≤ m 97 s ∧ m 97 s + 400 ≤ B) (h91 : (m 91 p = 0 ∧ at' = a) ∨ (m 91 p ≠ 0 ∧ a < at')) (hw : ∃ w : List Int, w.length ≤ 8 ∧ (∀ c ∈ w, isNm c) ∧ (m 91 p = (w.length : Int) ∨ (w = [] ∧ m 91 p = -1)) ∧ sg (m 92) (8 * p) w.length = w ∧ n 35 0 p = pk w) :
    ∃ k n' m', (a ≤ k ∧ k ≤ tc) ∧ FKn s p n n' ∧ FPy s p m m' ∧
    (((NL_Sheet_readPart_100 d a tc s p at' n).bind (us (u2 fun z6 n7 => ck (-1 - z6) <| some (-1 - z6, n7)) (u2 fun z14 n15 => nk_Sheet_readPart_257 a z14 n15)) = some (k, n') ∧ (NL_Y_readPart_201 f ty p s at' m).bind (us (u2 fun z m => some (z, m)) (us (u2 fun z m => some (z, m)) (u2 fun z m => nk_Y_readPart_450 p z m))) = some (-1, m') ∧ a < k ∧ m' 100 0 = k ∧ PRT n' m' p ∧ n' 33 0 s = m' 97 s ∧ (0 ≤ m' 97 s ∧ m' 97 s ≤ B))
    ∨ ((NL_Sheet_readPart_100 d a tc s p at' n).bind (us (u2 fun z6 n7 => ck (-1 - z6) <| some (-1 - z6, n7)) (u2 fun z14 n15 => nk_Sheet_readPart_257 a z14 n15)) = some (-1 - k, n') ∧ (NL_Y_readPart_201 f ty p s at' m).bind (us (u2 fun z m => some (z, m)) (us (u2 fun z m => some (z, m)) (u2 fun z m => nk_Y_readPart_450 p z m))) = some (k, m'))
    ∨ ((NL_Sheet_readPart_100 d a tc s p at' n).bind (us (u2 fun z6 n7 => ck (-1 - z6) <| some (-1 - z6, n7)) (u2 fun z14 n15 => nk_Sheet_readPart_257 a z14 n15)) = some (k, n') ∧ (NL_Y_readPart_201 f ty p s at' m).bind (us (u2 fun z m => some (z, m)) (us (u2 fun z m => some (z, m)) (u2 fun z m => nk_Y_readPart_450 p z m))) = some (k, m') ∧ k < tc ∧ isNm (g k))) := by
  have hle := hK.1
  obtain ⟨k, n', m', r1, r2, r3, r4⟩ := marks_both (d := d) (fr := a) (f := f) hs hp hf hK hty hB 4 at' n m (by rw [h93]; decide) ⟨by omega, ha.2.2⟩ ht hg ⟨by rw [h36, h93], by rw [h93]; decide, fun j x y => by rw [h93] at y; omega⟩ h33 (by rw [h93]; omega)
  rcases r4 with ⟨u1, u2', u3, u4, u5, u6, u7⟩ | ⟨u1, u2'⟩ | ⟨u1, u2', u3, u4, u5⟩
  · have e91 : m' 91 p = m 91 p := by rw [r3.1 91 (by decide)]
    by_cases hz : k = a
    · -- nothing at all
      have hat : at' = a := by omega
      have z91 : m 91 p = 0 := by rcases h91 with y | y <;> omega
      have z93 : m' 93 p = 0 := by rw [u6 (by omega)]; exact h93
      refine ⟨k, n', m', ⟨by omega, r1.2⟩, r2, r3.fp, .inr (.inl ⟨?_, ?_⟩)⟩
      · rw [u1]
        simp only [Option.bind_some, us, u2]
        unfold nk_Sheet_readPart_257
        rw [if_pos hz, ck_e _ (by omega)]
      · rw [u2']
        simp only [Option.bind_some, us, u2]
        unfold nk_Y_readPart_450
        rw [ix_e _ hp, e91, if_pos z91, ix_e _ hp, if_pos z93]
    · have hy : nk_Y_readPart_450 p k m' = some (-1, yw m' 100 0 k) := by
        unfold nk_Y_readPart_450 nk_Y_readPart_471 st
        dsimp only
        rw [ix_e _ hp, e91]
        rcases h91 with y | y
        · rw [if_pos y.1, ix_e _ hp, if_neg (by have := u7 (by omega); omega)]
        · rw [if_neg y.1]
      refine ⟨k, n', yw m' 100 0 k, ⟨by omega, r1.2⟩, r2, ⟨fun x hx => ?_, fun j hj => by rw [yw_nF (by decide)]; exact r3.2.1 j hj, fun j hj => ⟨by rw [yw_nF (by decide)]; exact r3.fp.2.2.1 j hj |>.1, by rw [yw_nF (by decide)]; exact r3.2.2.1 j hj⟩, fun j hj => by rw [yw_nF (by decide), yw_nF (by decide)]; exact r3.2.2.2.1 j hj, fun j hj => by rw [yw_nF (by decide)]; exact r3.2.2.2.2 j hj, fun j hj => by rw [yw_nF (by decide), r3.1 92 (by decide)]⟩, .inl ⟨?_, ?_, by omega, yw_eq, ⟨?_, ?_⟩, by rw [yw_nF (by decide)]; exact u4, by rw [yw_nF (by decide)]; exact u5⟩⟩
      · simp only [List.mem_cons, List.not_mem_nil, or_false, not_or] at hx
        rw [yw_nF (by omega), r3.1 x (by simp only [List.mem_cons, List.not_mem_nil, or_false, not_or]; omega)]
      · rw [u1]
        simp only [Option.bind_some, us, u2]
        unfold nk_Sheet_readPart_257
        rw [if_neg hz]
      · rw [u2']
        simp only [Option.bind_some, us, u2]
        exact hy
      · obtain ⟨w, w1, w2, w3, w4, w5⟩ := hw
        exact ⟨w, w1, w2, by rw [yw_nF (by decide), e91]; exact w3, by rw [yw_nF (by decide), r3.1 92 (by decide)]; exact w4, by rw [r2.1 35 (by decide)]; exact w5⟩
      · refine ⟨by rw [yw_nF (by decide)]; exact u3.1, by rw [yw_nF (by decide)]; exact u3.2.1, fun j x y => ?_⟩
        rw [yw_nF (by decide)] at y
        exact (u3.2.2 j x y).cg ⟨rfl, rfl⟩ ⟨by rw [yw_nF (by decide)], by rw [yw_nF (by decide)]⟩ (fun _ _ _ => by rw [yw_nF (by decide)])
  · refine ⟨k, n', m', ⟨by omega, r1.2⟩, r2, r3.fp, .inr (.inl ⟨?_, ?_⟩)⟩
    · rw [u1]
      simp only [Option.bind_some, us, u2]
      rw [ck_e _ (by omega)]
    · rw [u2']
      simp only [Option.bind_some, us, u2]
  · refine ⟨k, n', m', ⟨by omega, r1.2⟩, r2, r3.fp, .inr (.inr ⟨?_, ?_, u3, u4⟩)⟩
    · rw [u1]
      simp only [Option.bind_some, us, u2]
      unfold nk_Sheet_readPart_257
      rw [if_neg (by omega)]
    · rw [u2']
      simp only [Option.bind_some, us, u2]
theorem part_both (hs : 0 ≤ s ∧ s < 41) (hc : n 32 0 s = c ∧ m 90 s = c ∧ 0 ≤ c ∧ c < 3) (hpe : p = 3 * s + c) (hf : f = 2 ∨ f = 101) (hK : okK g tc ty) (hty : ty ≤ yLn f ∧ ty ≤ 2000) (hB : B ≤ 100000) (ha : 0 ≤ a ∧ a ≤ tc ∧ m 100 0 = a) (ht : tx n d g tc) (hg : m f = g) (h33 : n 33 0 s = m 97 s) (h97 : 0 ≤ m 97 s ∧ m 97 s + 401 ≤ B) :
    PTR g tc p s B a n m (N_Sheet_readPart d a tc s n) (N_Y_readPart f ty p s m) := by
  have hle := hK.1
  have hp : 0 ≤ p ∧ p < 123 := by omega
  have hfn : f ≠ 91 ∧ f ≠ 93 ∧ f ≠ 92 ∧ f ≠ 97 ∧ f ≠ 100 := by omega
  have hb := nmC_b (g := g) (i := a) (to := tc) ha.2.1
  -- the class: up to its marks
  have ht1 : ∀ v, tx (nw n 32 0 s v) d g tc := fun v => by
    unfold tx at *
    rw [nw_nK (by decide), nw_nK (by decide), nw_nK (by decide)]; exact ht
  have hnm : a < nmC g a tc → isSm (g a) ∧ a < tc ∧ nmC g a tc = min (sc (fun j => isNm (g j)) a tc) (a + 8) := fun y => by
    by_cases z : a < tc ∧ isSm (g a)
    · exact ⟨z.2, z.1, by unfold nmC; rw [if_pos z]⟩
    · have : nmC g a tc = a := by unfold nmC; rw [if_neg z]
      omega
  have hin : ∀ j, a ≤ j → j < nmC g a tc → isNm (g j) := fun j x y => by
    have := (hnm (by omega)).2.2
    exact scx_in (p := fun j => isNm (g j)) x (show j < sc (fun j => isNm (g j)) a tc by omega)
  have hpk : N_Bytes_pack d a (nmC g a tc) (nw n 32 0 s (c + 1)) = some (pk (sg g a (nmC g a tc - a).toNat)) := by
    rw [cs_pack (ht1 _) hb.2.2 ha.1 (by omega) (fun j x y _ => by have := hin j x y; unfold isNm at this; unfold isBt; omega)]
    rw [show min (nmC g a tc - a) 8 = nmC g a tc - a by omega]
  generalize hz15 : nmC g a tc = z15 at *
  generalize hWn : (if a < z15 then (1 : Int) else 0) = wn
  have hwn : 0 ≤ wn ∧ wn ≤ 1 := by rw [← hWn]; split <;> omega
  generalize hn3 : nw (nw (nw (nw n 32 0 s (c + 1)) 35 0 p (pk (sg g a (z15 - a).toNat))) 33 0 s (m 97 s + wn)) 36 0 p 0 = n3
  have K3 : ∀ K, K ∉ [32, 33, 35, 36] → n3 K = n K := fun K hK' => by
    simp only [List.mem_cons, List.not_mem_nil, or_false, not_or] at hK'
    rw [← hn3, nw_nK (by omega), nw_nK (by omega), nw_nK (by omega), nw_nK (by omega)]
  have v32 : n3 32 0 s = c + 1 ∧ ∀ j, j ≠ s → n3 32 0 j = n 32 0 j := ⟨by rw [← hn3, nw_nK (by decide), nw_nK (by decide), nw_nK (by decide), nw_eq], fun j hj => by rw [← hn3, nw_nK (by decide), nw_nK (by decide), nw_nK (by decide), nw_ns hj]⟩
  have v33 : n3 33 0 s = m 97 s + wn ∧ ∀ j, j ≠ s → n3 33 0 j = n 33 0 j := ⟨by rw [← hn3, nw_nK (by decide), nw_eq], fun j hj => by rw [← hn3, nw_nK (by decide), nw_ns hj, nw_nK (by decide), nw_nK (by decide)]⟩
  have v35 : n3 35 0 p = pk (sg g a (z15 - a).toNat) ∧ ∀ j, j ≠ p → n3 35 0 j = n 35 0 j := ⟨by rw [← hn3, nw_nK (by decide), nw_nK (by decide), nw_eq], fun j hj => by rw [← hn3, nw_nK (by decide), nw_nK (by decide), nw_ns hj, nw_nK (by decide)]⟩
  have v36 : n3 36 0 p = 0 ∧ ∀ j, j ≠ p → n3 36 0 j = n 36 0 j := ⟨by rw [← hn3, nw_eq], fun j hj => by rw [← hn3, nw_ns hj, nw_nK (by decide), nw_nK (by decide), nw_nK (by decide)]⟩
  have F3 : FPn s p n n3 := ⟨fun K hK' => K3 K (fun z => hK' (by simp only [List.mem_cons, List.not_mem_nil, or_false] at z ⊢; omega)), fun k hk => ⟨v32.2 k hk, v33.2 k hk⟩, fun k hk => ⟨v35.2 k hk, v36.2 k hk⟩, fun j _ => by rw [K3 37 (by decide), K3 38 (by decide)]; exact ⟨rfl, rfl⟩⟩
  have t3 : tx n3 d g tc := by
    unfold tx at *
    rw [K3 92 (by decide), K3 93 (by decide), K3 99 (by decide)]; exact ht
  have star : (z15 = a ∧ a < tc ∧ g a = 42) → N_Sheet_readPart d a tc s n = (NL_Sheet_readPart_100 d a tc s p (a + 1) n3).bind (us (u2 fun z6 n7 => ck (-1 - z6) <| some (-1 - z6, n7)) (u2 fun z14 n15 => nk_Sheet_readPart_257 a z14 n15)) := fun hz => by
    unfold N_Sheet_readPart
    rw [ck_e _ (by omega), ix_e _ hs, hc.1, show s * 3 + c = p by omega, ck_e _ (by omega), ix_e _ hs, ck_e _ (by omega), ix_e _ hs]
    unfold st
    dsimp only
    rw [cs_nameEnd (ht1 _) (Int.le_refl _) ha.1 (by omega) (by omega), hz15]
    simp only [Option.bind_some]
    rw [hpk]
    simp only [Option.bind_some]
    rw [ix_e _ hp, ix_e _ hs, if_neg (by omega), nw_nK (show (33 : Nat) ≠ 35 by decide), nw_nK (show (33 : Nat) ≠ 32 by decide), h33]
    unfold nk_Sheet_readPart_66 nk_Sheet_readPart_92 st dx
    dsimp only
    have hw0 : wn = 0 := by rw [← hWn, if_neg (by omega)]
    subst hw0
    rw [ck_e _ (by omega), ix_e _ hs, if_pos hz.1, hz.1, if_pos hz.2.1, nw_nK (show (92 : Nat) ≠ 33 by decide), nw_nK (show (92 : Nat) ≠ 35 by decide), nw_nK (show (92 : Nat) ≠ 32 by decide), nw_nK (show (93 : Nat) ≠ 33 by decide), nw_nK (show (93 : Nat) ≠ 35 by decide), nw_nK (show (93 : Nat) ≠ 32 by decide), nw_nK (show (99 : Nat) ≠ 33 by decide), nw_nK (show (99 : Nat) ≠ 35 by decide), nw_nK (show (99 : Nat) ≠ 32 by decide), if_pos ⟨ht.1, ha.1, by have := ht.2.1; omega⟩, ht.2.2 a ha.1 hz.2.1, if_pos hz.2.2, ck_e _ (by omega), ix_e _ hp]
    rw [hz.1] at hn3
    rw [hn3]
  have plain : ¬ (z15 = a ∧ a < tc ∧ g a = 42) → N_Sheet_readPart d a tc s n = (NL_Sheet_readPart_100 d a tc s p z15 n3).bind (us (u2 fun z6 n7 => ck (-1 - z6) <| some (-1 - z6, n7)) (u2 fun z14 n15 => nk_Sheet_readPart_257 a z14 n15)) := fun hz => by
    have h92 : nk_Sheet_readPart_92 d a tc s p z15 (nw (nw (nw n 32 0 s (c + 1)) 35 0 p (pk (sg g a (z15 - a).toNat))) 33 0 s (m 97 s + wn)) = (NL_Sheet_readPart_100 d a tc s p z15 n3).bind (us (u2 fun z6 n7 => ck (-1 - z6) <| some (-1 - z6, n7)) (u2 fun z14 n15 => nk_Sheet_readPart_257 a z14 n15)) := by
      unfold nk_Sheet_readPart_92 st
      dsimp only
      rw [ix_e _ hp, hn3]
    have h66 : nk_Sheet_readPart_66 d a tc s p z15 wn (m 97 s) s (nw (nw n 32 0 s (c + 1)) 35 0 p (pk (sg g a (z15 - a).toNat))) = (NL_Sheet_readPart_100 d a tc s p z15 n3).bind (us (u2 fun z6 n7 => ck (-1 - z6) <| some (-1 - z6, n7)) (u2 fun z14 n15 => nk_Sheet_readPart_257 a z14 n15)) := by
      unfold nk_Sheet_readPart_66 st dx
      dsimp only
      rw [ck_e _ (by omega), ix_e _ hs, h92]
      by_cases y1 : z15 = a
      · rw [if_pos y1]
        by_cases y2 : z15 < tc
        · rw [if_pos y2, nw_nK (show (92 : Nat) ≠ 33 by decide), nw_nK (show (92 : Nat) ≠ 35 by decide), nw_nK (show (92 : Nat) ≠ 32 by decide), nw_nK (show (93 : Nat) ≠ 33 by decide), nw_nK (show (93 : Nat) ≠ 35 by decide), nw_nK (show (93 : Nat) ≠ 32 by decide), nw_nK (show (99 : Nat) ≠ 33 by decide), nw_nK (show (99 : Nat) ≠ 35 by decide), nw_nK (show (99 : Nat) ≠ 32 by decide), if_pos ⟨ht.1, by omega, by have := ht.2.1; omega⟩, ht.2.2 z15 (by omega) y2, if_neg (fun y => hz ⟨y1, by omega, by rw [← y1]; exact y⟩)]
        · rw [if_neg y2]
      · rw [if_neg y1]
    unfold N_Sheet_readPart
    rw [ck_e _ (by omega), ix_e _ hs, hc.1, show s * 3 + c = p by omega, ck_e _ (by omega), ix_e _ hs, ck_e _ (by omega), ix_e _ hs]
    unfold st
    dsimp only
    rw [cs_nameEnd (ht1 _) (Int.le_refl _) ha.1 (by omega) (by omega), hz15]
    simp only [Option.bind_some]
    rw [hpk]
    simp only [Option.bind_some]
    rw [ix_e _ hp, ix_e _ hs, nw_nK (show (33 : Nat) ≠ 35 by decide), nw_nK (show (33 : Nat) ≠ 32 by decide), h33]
    by_cases y : a < z15
    · rw [if_pos y]
      have hw1 : wn = 1 := by rw [← hWn, if_pos y]
      rw [hw1] at h66; exact h66
    · rw [if_neg y]
      have hw1 : wn = 0 := by rw [← hWn, if_neg y]
      rw [hw1] at h66; exact h66
  -- the reference: up to its marks
  generalize hm9 : yw (yw m 91 p 0) 93 p 0 = m9
  have F9 : FY [91, 93] m m9 := fun x hx => by
    simp only [List.mem_cons, List.not_mem_nil, or_false, not_or] at hx
    rw [← hm9, yw_nF (by omega), yw_nF (by omega)]
  have u91 : m9 91 p = 0 ∧ ∀ j, j ≠ p → m9 91 j = m 91 j := ⟨by rw [← hm9, yw_nF (by decide), yw_eq], fun j hj => by rw [← hm9, yw_nF (by decide), yw_ni hj]⟩
  have u93 : m9 93 p = 0 ∧ ∀ j, j ≠ p → m9 93 j = m 93 j := ⟨by rw [← hm9, yw_eq], fun j hj => by rw [← hm9, yw_ni hj, yw_nF (by decide)]⟩
  have g9 : m9 f = g := by rw [F9 f (by simp only [List.mem_cons, List.not_mem_nil, or_false, not_or]; omega)]; exact hg
  have hY : N_Y_readPart f ty p s m = if a < ty then (if g a = 42 then (NL_Y_readPart_201 f ty p s (a + 1) (yw m9 91 p (-1))).bind (us (u2 fun z m => some (z, m)) (us (u2 fun z m => some (z, m)) (u2 fun z m => nk_Y_readPart_450 p z m))) else nk_Y_readPart_48 f ty p s a m9) else nk_Y_readPart_48 f ty p s a m9 := by
    unfold N_Y_readPart st
    dsimp only
    rw [ix_e _ hp, ix_e _ hp, hm9, ha.2.2, g9]
    by_cases y : a < ty
    · rw [if_pos y, if_pos y, ix_e _ ⟨ha.1, by omega⟩]
      by_cases y2 : g a = 42
      · rw [if_pos y2, if_pos y2, ix_e _ hp, ck_e _ (by omega)]
      · rw [if_neg y2, if_neg y2]
    · rw [if_neg y, if_neg y]
  have FY9 : FPy s p m m9 := ⟨F9.mono (fun x hx => by simp only [List.mem_cons, List.not_mem_nil, or_false] at hx ⊢; omega), fun k _ => by rw [F9 97 (by decide)], fun k hk => ⟨u91.2 k hk, u93.2 k hk⟩, fun j _ => by rw [F9 94 (by decide), F9 95 (by decide)]; exact ⟨rfl, rfl⟩, fun j _ => by rw [F9 96 (by decide)], fun j _ => by rw [F9 92 (by decide)]⟩
  -- both, from the marks on
  have fin : ∀ (at' : Int) (mm : YS), (a ≤ at' ∧ at' ≤ tc) → FPy s p m mm → mm f = g → mm 93 p = 0 → mm 97 s = m 97 s + wn → ((mm 91 p = 0 ∧ at' = a) ∨ (mm 91 p ≠ 0 ∧ a < at')) → (∃ w : List Int, w.length ≤ 8 ∧ (∀ c ∈ w, isNm c) ∧ (mm 91 p = (w.length : Int) ∨ (w = [] ∧ mm 91 p = -1)) ∧ sg (mm 92) (8 * p) w.length = w ∧ n3 35 0 p = pk w) → PTR g tc p s B a n m ((NL_Sheet_readPart_100 d a tc s p at' n3).bind (us (u2 fun z6 n7 => ck (-1 - z6) <| some (-1 - z6, n7)) (u2 fun z14 n15 => nk_Sheet_readPart_257 a z14 n15))) ((NL_Y_readPart_201 f ty p s at' mm).bind (us (u2 fun z m => some (z, m)) (us (u2 fun z m => some (z, m)) (u2 fun z m => nk_Y_readPart_450 p z m)))) := fun at' mm q1 q2 q3 q4 q5 q6 q7 => by
    obtain ⟨k, n', m', r1, r2, r3, r4⟩ := part_tail (d := d) (f := f) hs hp hf hK hty hB ⟨ha.1, q1.1, q1.2⟩ t3 q3 v36.1 q4 (by rw [v33.1, q5]) (by rw [q5]; omega) q6 q7
    exact ⟨k, n', m', r1, F3.trans r2.fp, q2.trans r3, by rw [r2.1 32 (by decide), v32.1, hc.1], r4⟩
  rw [hY]
  by_cases hsm : a < tc ∧ isSm (g a)
  · -- a name
    have hn42 : g a ≠ 42 := by have := hsm.2; unfold isSm at this; omega
    have e15 : z15 = min (sc (fun j => isNm (g j)) a tc) (a + 8) := by rw [← hz15]; unfold nmC; rw [if_pos hsm]
    have k1 := scx_ge (p := fun j => isNm (g j)) a tc
    have k2 := scx_le (p := fun j => isNm (g j)) (i := a) (to := tc) ha.2.1
    have k3 : a < sc (fun j => isNm (g j)) a tc := by
      by_cases u : a < sc (fun j => isNm (g j)) a tc
      · exact u
      · have e : sc (fun j => isNm (g j)) a tc = a := by omega
        have := scx_at (p := fun j => isNm (g j)) (i := a) (to := tc) (by omega)
        rw [e] at this
        exact absurd (by have := hsm.2; unfold isSm at this; unfold isNm; omega) this
    have hlt : a < z15 := by omega
    rw [plain (fun y => by omega), if_pos (by omega), if_neg hn42]
    have e48 : nk_Y_readPart_48 f ty p s a m9 = nk_Y_readPart_110 f ty p s a z15 m9 := by
      unfold nk_Y_readPart_48
      have e8 := y_nm8b (m := m9) (f := f) (a := a) (ty := ty) (x1 := p) (x2 := s) hty.1 ⟨by omega, by omega⟩ hty.2
      rw [g9, sc_stop hK ha.2.1, ← e15] at e8
      rw [if_pos (by omega), ix_e _ ⟨ha.1, by omega⟩, g9, bz_t ys_small hsm.2]
      simp only [Option.bind_some]
      rw [if_neg (by decide), e8]
      simp only [Option.bind_some]
    rw [e48]
    by_cases hlong : z15 < ty ∧ isNm (g z15)
    · have hktc : z15 < tc := by
        by_cases u : z15 < tc
        · exact u
        · have e : z15 = tc := by omega
          rw [e] at hlong
          exact absurd hlong.2 (hK.2 hlong.1).1
      refine ⟨z15, n3, m9, ⟨by omega, by omega⟩, F3, FY9, by rw [v32.1, hc.1], .inr (.inr ⟨?_, ?_, hktc, hlong.2⟩)⟩
      · have e1 : NL_Sheet_readPart_100 d a tc s p z15 n3 = some (.inr (z15, n3)) := by
          unfold NL_Sheet_readPart_100
          refine it_inr ?_
          show nb_Sheet_readPart_100 d a tc s p z15 n3 = _
          have hnm' := hlong.2
          unfold isNm at hnm'
          unfold nb_Sheet_readPart_100 dx
          rw [if_pos hktc, if_pos ⟨t3.1, by omega, by have := t3.2.1; omega⟩, t3.2.2 z15 (by omega) hktc, if_neg (by omega), if_pos ⟨t3.1, by omega, by have := t3.2.1; omega⟩, if_neg (by omega)]
        rw [e1]
        simp only [Option.bind_some, us, u2]
        unfold nk_Sheet_readPart_257
        rw [if_neg (by omega)]
      · unfold nk_Y_readPart_110
        rw [if_pos hlong.1, ix_e _ ⟨by omega, by omega⟩, y_isNm (L' := (yLn f : Int)) ⟨by omega, by omega⟩ (by rw [g9]), if_pos hlong.2]
    · have e110 : nk_Y_readPart_110 f ty p s a z15 m9 = nk_Y_readPart_139 f ty p s a z15 m9 := by
        unfold nk_Y_readPart_110
        by_cases u : z15 < ty
        · rw [if_pos u, ix_e _ ⟨by omega, by omega⟩, y_isNm (L' := (yLn f : Int)) ⟨by omega, by omega⟩ (by rw [g9]), if_neg (fun x => hlong ⟨u, x⟩)]
        · rw [if_neg u]
      rw [e110]
      generalize hm4 : yw m9 91 p (z15 - a) = m4
      have F4 : FY [91] m9 m4 := fun x hx => by rw [← hm4]; exact yw_nF (by simp only [List.mem_cons, List.not_mem_nil, or_false] at hx; exact hx)
      have w91 : m4 91 p = z15 - a ∧ ∀ j, j ≠ p → m4 91 j = m 91 j := ⟨by rw [← hm4, yw_eq], fun j hj => by rw [← hm4, yw_ni hj]; exact u91.2 j hj⟩
      have e4 : m4 f = g := by rw [F4 f (by simp only [List.mem_cons, List.not_mem_nil, or_false]; omega)]; exact g9
      obtain ⟨m7, l1, l2, l3, l4⟩ := y_copy2 (m := m4) (F := 92) (G := f) (A := 8 * p) (b := a) (K := z15 - a) (fn := fun t => nb_Y_readPart_154 f ty p s a z15 t.1 t.2) (by omega) (by omega) (fun j ma fa ja jb => by
        show nb_Y_readPart_154 f ty p s a z15 (a + j) ma = _
        unfold nb_Y_readPart_154 st
        dsimp only
        rw [if_pos (by omega), ck_e _ (by omega), ck_e _ (by omega), ck_e _ (by omega), ix_e _ ⟨by omega, by omega⟩, ix_e _ ⟨by omega, by omega⟩, ck_e _ (by omega), show 8 * p + (a + j) - a = 8 * p + j by omega]) (fun ma fa => by
        show nb_Y_readPart_154 f ty p s a z15 (a + (z15 - a)) ma = _
        unfold nb_Y_readPart_154
        rw [if_neg (by omega)])
      have l1 : NL_Y_readPart_154 f ty p s a z15 a m4 = some m7 := l1
      have w97 : m7 97 = m 97 := by rw [l2 97 (by decide), F4 97 (by decide), F9 97 (by decide)]
      have w7 : ∀ x, x ≠ 91 → x ≠ 92 → x ≠ 93 → m7 x = m x := fun x x1 x2 x3 => by
        rw [l2 x (by simp only [List.mem_cons, List.not_mem_nil, or_false]; exact x2), F4 x (by simp only [List.mem_cons, List.not_mem_nil, or_false]; exact x1), F9 x (by simp only [List.mem_cons, List.not_mem_nil, or_false, not_or]; exact ⟨x1, x3⟩)]
      have hw1 : wn = 1 := by rw [← hWn, if_pos hlt]
      have e139 : nk_Y_readPart_139 f ty p s a z15 m9 = (NL_Y_readPart_201 f ty p s z15 (yw m7 97 s (m 97 s + 1))).bind (us (u2 fun z m => some (z, m)) (us (u2 fun z m => some (z, m)) (u2 fun z m => nk_Y_readPart_450 p z m))) := by
        unfold nk_Y_readPart_139 st
        dsimp only
        rw [ck_e _ (by omega), ix_e _ hp, hm4, l1]
        simp only [Option.bind_some]
        rw [ix_e _ hs, w97, ck_e _ (by omega), ix_e _ hs]
      rw [e139]
      refine fin z15 _ ⟨by omega, by omega⟩ ⟨fun x hx => ?_, fun k hk => ?_, fun k hk => ⟨?_, ?_⟩, fun j _ => ?_, fun j _ => ?_, fun j hj => ?_⟩ ?_ ?_ ?_ (.inr ⟨?_, hlt⟩) ⟨sg g a (z15 - a).toNat, by rw [sg_len]; omega, sg_mem _ _ (fun x hx => hin _ (by omega) (by omega)), .inl ?_, ?_, v35.1⟩
      · simp only [List.mem_cons, List.not_mem_nil, or_false, not_or] at hx
        rw [yw_nF (by omega), w7 x (by omega) (by omega) (by omega)]
      · rw [yw_ni hk, w97]
      · rw [yw_nF (by decide), l2 91 (by decide)]; exact w91.2 k hk
      · rw [yw_nF (by decide), l2 93 (by decide), F4 93 (by decide)]; exact u93.2 k hk
      · rw [yw_nF (by decide), yw_nF (by decide), w7 94 (by decide) (by decide) (by decide), w7 95 (by decide) (by decide) (by decide)]; exact ⟨rfl, rfl⟩
      · rw [yw_nF (by decide), w7 96 (by decide) (by decide) (by decide)]
      · rw [yw_nF (by decide), l4 j (by omega), F4 92 (by decide), F9 92 (by decide)]
      · rw [yw_nF hfn.2.2.2.1, w7 f hfn.1 hfn.2.2.1 hfn.2.1]; exact hg
      · rw [yw_nF (by decide), l2 93 (by decide), F4 93 (by decide)]; exact u93.1
      · rw [yw_eq, hw1]
      · rw [yw_nF (by decide), l2 91 (by decide), w91.1]; omega
      · rw [yw_nF (by decide), l2 91 (by decide), w91.1, sg_len]; omega
      · rw [sg_len, yw_nF (by decide)]
        exact sg_cg _ _ _ (fun x hx => by rw [l3 x (by omega) (by omega), e4])
  · have e15 : z15 = a := by rw [← hz15]; unfold nmC; rw [if_neg hsm]
    have hw0 : wn = 0 := by rw [← hWn, if_neg (by omega)]
    have hemp : sg g a (z15 - a).toNat = [] := by rw [show (z15 - a).toNat = 0 by omega]; rfl
    by_cases hst : a < tc ∧ g a = 42
    · rw [star ⟨e15, hst.1, hst.2⟩, if_pos (by omega), if_pos hst.2]
      refine fin (a + 1) _ ⟨by omega, by omega⟩ (FY9.trans ⟨fun x hx => yw_nF (fun y => hx (by rw [y]; decide)), fun k _ => by rw [yw_nF (by decide)], fun k hk => ⟨yw_ni hk, by rw [yw_nF (by decide)]⟩, fun j _ => by rw [yw_nF (by decide), yw_nF (by decide)]; exact ⟨rfl, rfl⟩, fun j _ => by rw [yw_nF (by decide)], fun j _ => by rw [yw_nF (by decide)]⟩) (by rw [yw_nF hfn.1]; exact g9) (by rw [yw_nF (by decide)]; exact u93.1) (by rw [yw_nF (by decide), F9 97 (by decide), hw0]; omega) (.inr ⟨by rw [yw_eq]; decide, by omega⟩) ⟨[], by decide, fun c hc => (by cases hc), .inr ⟨rfl, yw_eq⟩, rfl, by rw [v35.1, hemp]⟩
    · rw [plain (fun y => hst y.2), e15]
      have e48 : nk_Y_readPart_48 f ty p s a m9 = (NL_Y_readPart_201 f ty p s a m9).bind (us (u2 fun z m => some (z, m)) (us (u2 fun z m => some (z, m)) (u2 fun z m => nk_Y_readPart_450 p z m))) := by
        unfold nk_Y_readPart_48
        by_cases y : a < ty
        · have hn : ¬ isSm (g a) := fun x => by
            by_cases u : a < tc
            · exact hsm ⟨u, x⟩
            · have e : a = tc := by omega
              rw [e] at y x
              have h1 := (hK.2 y).1
              unfold isSm at x
              unfold isNm at h1
              omega
          rw [if_pos y, ix_e _ ⟨ha.1, by omega⟩, g9, bz_f ys_small hn]
          simp only [Option.bind_some]
          rw [if_pos trivial]
        · rw [if_neg y]
      have h42 : ¬ (a < ty ∧ g a = 42) := fun y => by
        by_cases u : a < tc
        · exact hst ⟨u, y.2⟩
        · have e : a = tc := by omega
          rw [e] at y
          exact (hK.2 y.1).2.2.2 y.2
      have hYY : (if a < ty then (if g a = 42 then (NL_Y_readPart_201 f ty p s (a + 1) (yw m9 91 p (-1))).bind (us (u2 fun z m => some (z, m)) (us (u2 fun z m => some (z, m)) (u2 fun z m => nk_Y_readPart_450 p z m))) else nk_Y_readPart_48 f ty p s a m9) else nk_Y_readPart_48 f ty p s a m9) = nk_Y_readPart_48 f ty p s a m9 := by
        by_cases y : a < ty
        · rw [if_pos y, if_neg (fun x => h42 ⟨y, x⟩)]
        · rw [if_neg y]
      rw [hYY, e48]
      exact fin a m9 ⟨by omega, by omega⟩ FY9 g9 u93.1 (by rw [F9 97 (by decide), hw0]; omega) (.inl ⟨u91.1, rfl⟩) ⟨[], by decide, fun c hc => (by cases hc), .inl u91.1, rfl, by rw [v35.1, hemp]⟩
end S3
