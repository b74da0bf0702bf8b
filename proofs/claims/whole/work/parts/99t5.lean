/-! SELECTORS: the class reads one alike, into whichever room -/
section T5
variable {n n' n1 : NS} {g : Int → Int} {a at' tc d d' s s' p p' fr fr' c W W' : Int}
/-- marks -/
theorem marks_cc (hs : 0 ≤ s ∧ s < 41) (hp : 0 ≤ p ∧ p < 123) (hs' : 0 ≤ s' ∧ s' < 41) (hp' : 0 ≤ p' ∧ p' < 123) (htc : tc ≤ 2000) : ∀ (z : Nat) (a : Int) (n n' : NS), (4 - n 36 0 p).toNat ≤ z → (0 ≤ a ∧ a ≤ tc) → tx n d g tc → tx n' d' g tc → n' 36 0 p' = n 36 0 p → (0 ≤ n 36 0 p ∧ n 36 0 p ≤ 4) → (0 ≤ n 33 0 s ∧ n 33 0 s + 100 * (4 - n 36 0 p) ≤ W ∧ W ≤ 100000) → (0 ≤ n' 33 0 s' ∧ n' 33 0 s' + 100 * (4 - n 36 0 p) ≤ W' ∧ W' ≤ 100000) →
    ∃ k n1 n1', (a ≤ k ∧ k ≤ tc) ∧ FKn s p n n1 ∧ FKn s' p' n' n1' ∧ (0 ≤ n1 33 0 s ∧ n1 33 0 s ≤ W) ∧ (0 ≤ n1' 33 0 s' ∧ n1' 33 0 s' ≤ W') ∧ ((NL_Sheet_readPart_100 d fr tc s p a n = some (.inl (k, n1)) ∧ NL_Sheet_readPart_100 d' fr' tc s' p' a n' = some (.inl (k, n1'))) ∨ (NL_Sheet_readPart_100 d fr tc s p a n = some (.inr (k, n1)) ∧ NL_Sheet_readPart_100 d' fr' tc s' p' a n' = some (.inr (k, n1')))) := by
  -- nothing more
  have one : ∀ (d fr s p a : Int) (n : NS), (0 ≤ p ∧ p < 123) → (0 ≤ a ∧ a ≤ tc) → tx n d g tc → (a < tc → (g a ≠ 46 ∧ g a ≠ 35) ∨ 4 ≤ n 36 0 p) → NL_Sheet_readPart_100 d fr tc s p a n = some (.inr (a, n)) := fun d fr s p a n hp ha ht hno => by
    unfold NL_Sheet_readPart_100
    refine it_inr ?_
    show nb_Sheet_readPart_100 d fr tc s p a n = _
    unfold nb_Sheet_readPart_100 nk_Sheet_readPart_124 dx
    by_cases u : a < tc
    · rw [if_pos u, if_pos ⟨ht.1, ha.1, by have := ht.2.1; omega⟩, ht.2.2 a ha.1 u, ix_e _ hp]
      rcases hno u with y | y
      · rw [if_neg y.1, if_pos ⟨ht.1, ha.1, by have := ht.2.1; omega⟩, if_neg y.2]
      · rw [if_neg (show ¬ n 36 0 p < 4 by omega)]
        by_cases v : g a = 46
        · rw [if_pos v]
        · rw [if_neg v, if_pos ⟨ht.1, ha.1, by have := ht.2.1; omega⟩]
          by_cases w : g a = 35
          · rw [if_pos w]
          · rw [if_neg w]
    · rw [if_neg u]
  have stop : ∀ (a : Int) (n n' : NS), (0 ≤ a ∧ a ≤ tc) → tx n d g tc → tx n' d' g tc → n' 36 0 p' = n 36 0 p → (0 ≤ n 36 0 p ∧ n 36 0 p ≤ 4) → (0 ≤ n 33 0 s ∧ n 33 0 s + 100 * (4 - n 36 0 p) ≤ W ∧ W ≤ 100000) → (0 ≤ n' 33 0 s' ∧ n' 33 0 s' + 100 * (4 - n 36 0 p) ≤ W' ∧ W' ≤ 100000) → (a < tc → (g a ≠ 46 ∧ g a ≠ 35) ∨ 4 ≤ n 36 0 p) → ∃ k n1 n1', (a ≤ k ∧ k ≤ tc) ∧ FKn s p n n1 ∧ FKn s' p' n' n1' ∧ (0 ≤ n1 33 0 s ∧ n1 33 0 s ≤ W) ∧ (0 ≤ n1' 33 0 s' ∧ n1' 33 0 s' ≤ W') ∧ ((NL_Sheet_readPart_100 d fr tc s p a n = some (.inl (k, n1)) ∧ NL_Sheet_readPart_100 d' fr' tc s' p' a n' = some (.inl (k, n1'))) ∨ (NL_Sheet_readPart_100 d fr tc s p a n = some (.inr (k, n1)) ∧ NL_Sheet_readPart_100 d' fr' tc s' p' a n' = some (.inr (k, n1')))) := fun a n n' ha ht ht' h36 h4 h33 h33' hno =>
    ⟨a, n, n', ⟨Int.le_refl _, ha.2⟩, FKn.refl, FKn.refl, by omega, by omega, .inr ⟨one d fr s p a n hp ha ht hno, one d' fr' s' p' a n' hp' ha ht' (by rw [h36]; exact hno)⟩⟩
  intro z
  induction z with
  | zero =>
    intro a n n' hz ha ht ht' h36 h4 h33 h33'
    exact stop a n n' ha ht ht' h36 h4 h33 h33' (fun _ => .inr (by omega))
  | succ z ih =>
    intro a n n' hz ha ht ht' h36 h4 h33 h33'
    by_cases hgo : a < tc ∧ (g a = 46 ∨ g a = 35) ∧ n 36 0 p < 4
    · obtain ⟨g1, g2, g3⟩ := hgo
      have c1 := fun _ : Unit => c_mark (fr := fr) hs hp ht ⟨ha.1, g1, htc⟩ g2 ⟨h4.1, g3⟩ ⟨h33.1, by omega⟩
      have c1' := fun _ : Unit => c_mark (fr := fr') hs' hp' ht' ⟨ha.1, g1, htc⟩ g2 (by rw [h36]; exact ⟨h4.1, g3⟩) ⟨h33'.1, by omega⟩
      have hb := nmC_b (g := g) (i := a + 1) (to := tc) (by omega)
      by_cases y : nmC g (a + 1) tc = a + 1
      · refine ⟨a + 1, n, n', ⟨by omega, by omega⟩, FKn.refl, FKn.refl, by omega, by omega, .inl ⟨?_, ?_⟩⟩
        · unfold NL_Sheet_readPart_100
          exact it_inr ((c1 ()).1 y)
        · unfold NL_Sheet_readPart_100
          exact it_inr ((c1' ()).1 y)
      · have q := (c1 ()).2 y
        have q' := (c1' ()).2 y
        generalize nmC g (a + 1) tc = k at *
        have hW : (0 : Int) ≤ (if g a = 35 then (100 : Int) else 10) ∧ (if g a = 35 then (100 : Int) else 10) ≤ 100 := by split <;> omega
        have fk : ∀ (s p w x : Int) (n : NS), 0 ≤ n 36 0 p ∧ n 36 0 p < 4 → FKn s p n (nw (nw (nw (nw n 38 0 (4 * p + n 36 0 p) w) 37 0 (4 * p + n 36 0 p) x) 33 0 s (n 33 0 s + (if g a = 35 then 100 else 10))) 36 0 p (n 36 0 p + 1)) ∧ (nw (nw (nw (nw n 38 0 (4 * p + n 36 0 p) w) 37 0 (4 * p + n 36 0 p) x) 33 0 s (n 33 0 s + (if g a = 35 then 100 else 10))) 36 0 p (n 36 0 p + 1)) 36 0 p = n 36 0 p + 1 ∧ (nw (nw (nw (nw n 38 0 (4 * p + n 36 0 p) w) 37 0 (4 * p + n 36 0 p) x) 33 0 s (n 33 0 s + (if g a = 35 then 100 else 10))) 36 0 p (n 36 0 p + 1)) 33 0 s = n 33 0 s + (if g a = 35 then 100 else 10) := fun s p w x n hc => by
          refine ⟨⟨fun K hK => ?_, fun j hj => ?_, fun j hj => ?_, fun j hj => ⟨?_, ?_⟩⟩, by rw [nw_eq], by rw [nw_nK (by decide), nw_eq]⟩
          · simp only [List.mem_cons, List.not_mem_nil, or_false, not_or] at hK
            rw [nw_nK (by omega), nw_nK (by omega), nw_nK (by omega), nw_nK (by omega)]
          · rw [nw_nK (by decide), nw_ns hj, nw_nK (by decide), nw_nK (by decide)]
          · rw [nw_ns hj, nw_nK (by decide), nw_nK (by decide), nw_nK (by decide)]
          · rw [nw_nK (by decide), nw_nK (by decide), nw_ns (by omega), nw_nK (by decide)]
          · rw [nw_nK (by decide), nw_nK (by decide), nw_nK (by decide), nw_ns (by omega)]
        obtain ⟨f1, f2, f3⟩ := fk s p (if g a = 35 then 1 else 0) (pk (sg g (a + 1) (k - (a + 1)).toNat)) n ⟨h4.1, g3⟩
        obtain ⟨f1', f2', f3'⟩ := fk s' p' (if g a = 35 then 1 else 0) (pk (sg g (a + 1) (k - (a + 1)).toNat)) n' (by rw [h36]; exact ⟨h4.1, g3⟩)
        generalize nw (nw (nw (nw n 38 0 (4 * p + n 36 0 p) (if g a = 35 then 1 else 0)) 37 0 (4 * p + n 36 0 p) (pk (sg g (a + 1) (k - (a + 1)).toNat))) 33 0 s (n 33 0 s + (if g a = 35 then 100 else 10))) 36 0 p (n 36 0 p + 1) = n2 at *
        generalize nw (nw (nw (nw n' 38 0 (4 * p' + n' 36 0 p') (if g a = 35 then 1 else 0)) 37 0 (4 * p' + n' 36 0 p') (pk (sg g (a + 1) (k - (a + 1)).toNat))) 33 0 s' (n' 33 0 s' + (if g a = 35 then 100 else 10))) 36 0 p' (n' 36 0 p' + 1) = n2' at *
        have I := ih k n2 n2' (by rw [f2]; omega) ⟨by omega, by omega⟩ (f1.txx ht) (f1'.txx ht') (by rw [f2, f2', h36]) (by rw [f2]; omega) (by rw [f3, f2]; omega) (by rw [f3', f2]; omega)
        have E1 : NL_Sheet_readPart_100 d fr tc s p a n = NL_Sheet_readPart_100 d fr tc s p k n2 := by
          unfold NL_Sheet_readPart_100
          exact it_inl (f := fun t : Int × NS => nb_Sheet_readPart_100 d fr tc s p t.1 t.2) (s := (a, n)) q
        have E2 : NL_Sheet_readPart_100 d' fr' tc s' p' a n' = NL_Sheet_readPart_100 d' fr' tc s' p' k n2' := by
          unfold NL_Sheet_readPart_100
          exact it_inl (f := fun t : Int × NS => nb_Sheet_readPart_100 d' fr' tc s' p' t.1 t.2) (s := (a, n')) q'
        rw [E1, E2]
        obtain ⟨k', m1, m1', r1, r2, r3, r4, r5, r6⟩ := I
        exact ⟨k', m1, m1', ⟨by omega, r1.2⟩, f1.trans r2, f1'.trans r3, r4, r5, r6⟩
    · refine stop a n n' ha ht ht' h36 h4 h33 h33' (fun u => ?_)
      by_cases y : g a = 46 ∨ g a = 35
      · exact .inr (by
          by_cases w : n 36 0 p < 4
          · exact absurd ⟨u, y, w⟩ hgo
          · omega)
      · exact .inl ⟨fun w => y (.inl w), fun w => y (.inr w)⟩
/-- a PART, up to its marks -/
theorem c_partF (hs : 0 ≤ s ∧ s < 41) (hc : n 32 0 s = c ∧ 0 ≤ c ∧ c < 3) (hpe : p = 3 * s + c) (ha : 0 ≤ a ∧ a ≤ tc ∧ tc ≤ 2000) (ht : tx n d g tc) (h33 : 0 ≤ n 33 0 s ∧ n 33 0 s ≤ 90000) :
    ∃ n3, FPn s p n n3 ∧ n3 32 0 s = c + 1 ∧ n3 36 0 p = 0 ∧ (n 33 0 s ≤ n3 33 0 s ∧ n3 33 0 s ≤ n 33 0 s + 1) ∧ N_Sheet_readPart d a tc s n = (NL_Sheet_readPart_100 d a tc s p (if nmC g a tc = a ∧ a < tc ∧ g a = 42 then a + 1 else nmC g a tc) n3).bind (us (u2 fun z6 n7 => ck (-1 - z6) <| some (-1 - z6, n7)) (u2 fun z14 n15 => nk_Sheet_readPart_257 a z14 n15)) := by
  have hp : 0 ≤ p ∧ p < 123 := by omega
  have hb := nmC_b (g := g) (i := a) (to := tc) ha.2.1
  have ht1 : ∀ v, tx (nw n 32 0 s v) d g tc := fun v => by
    unfold tx at *
    rw [nw_nK (by decide), nw_nK (by decide), nw_nK (by decide)]; exact ht
  have hin : ∀ j, a ≤ j → j < nmC g a tc → isNm (g j) := fun j x y => by
    by_cases z : a < tc ∧ isSm (g a)
    · have e : nmC g a tc = min (sc (fun j => isNm (g j)) a tc) (a + 8) := by unfold nmC; rw [if_pos z]
      exact scx_in (p := fun j => isNm (g j)) x (show j < sc (fun j => isNm (g j)) a tc by omega)
    · have : nmC g a tc = a := by unfold nmC; rw [if_neg z]
      omega
  have hpk : N_Bytes_pack d a (nmC g a tc) (nw n 32 0 s (c + 1)) = some (pk (sg g a (nmC g a tc - a).toNat)) := by
    rw [cs_pack (ht1 _) hb.2.2 ha.1 (by omega) (fun j x y _ => by have := hin j x y; unfold isNm at this; unfold isBt; omega)]
    rw [show min (nmC g a tc - a) 8 = nmC g a tc - a by omega]
  generalize hz15 : nmC g a tc = z15 at *
  generalize hWn : (if a < z15 then (1 : Int) else 0) = wn
  have hwn : 0 ≤ wn ∧ wn ≤ 1 := by rw [← hWn]; split <;> omega
  generalize hW0 : n 33 0 s = w0 at *
  generalize hn3 : nw (nw (nw (nw n 32 0 s (c + 1)) 35 0 p (pk (sg g a (z15 - a).toNat))) 33 0 s (w0 + wn)) 36 0 p 0 = n3
  have K3 : ∀ K, K ∉ [32, 33, 35, 36] → n3 K = n K := fun K hK' => by
    simp only [List.mem_cons, List.not_mem_nil, or_false, not_or] at hK'
    rw [← hn3, nw_nK (by omega), nw_nK (by omega), nw_nK (by omega), nw_nK (by omega)]
  have v32 : n3 32 0 s = c + 1 ∧ ∀ j, j ≠ s → n3 32 0 j = n 32 0 j := ⟨by rw [← hn3, nw_nK (by decide), nw_nK (by decide), nw_nK (by decide), nw_eq], fun j hj => by rw [← hn3, nw_nK (by decide), nw_nK (by decide), nw_nK (by decide), nw_ns hj]⟩
  have v33 : n3 33 0 s = w0 + wn ∧ ∀ j, j ≠ s → n3 33 0 j = n 33 0 j := ⟨by rw [← hn3, nw_nK (by decide), nw_eq], fun j hj => by rw [← hn3, nw_nK (by decide), nw_ns hj, nw_nK (by decide), nw_nK (by decide)]⟩
  have v35 : ∀ j, j ≠ p → n3 35 0 j = n 35 0 j := fun j hj => by rw [← hn3, nw_nK (by decide), nw_nK (by decide), nw_ns hj, nw_nK (by decide)]
  have v36 : n3 36 0 p = 0 ∧ ∀ j, j ≠ p → n3 36 0 j = n 36 0 j := ⟨by rw [← hn3, nw_eq], fun j hj => by rw [← hn3, nw_ns hj, nw_nK (by decide), nw_nK (by decide), nw_nK (by decide)]⟩
  refine ⟨n3, ⟨fun K hK' => K3 K (fun z => hK' (by simp only [List.mem_cons, List.not_mem_nil, or_false] at z ⊢; omega)), fun k hk => ⟨v32.2 k hk, v33.2 k hk⟩, fun k hk => ⟨v35 k hk, v36.2 k hk⟩, fun j _ => by rw [K3 37 (by decide), K3 38 (by decide)]; exact ⟨rfl, rfl⟩⟩, v32.1, v36.1, by rw [v33.1]; omega, ?_⟩
  have h92 : ∀ x, nk_Sheet_readPart_92 d a tc s p x (nw (nw (nw n 32 0 s (c + 1)) 35 0 p (pk (sg g a (z15 - a).toNat))) 33 0 s (w0 + wn)) = (NL_Sheet_readPart_100 d a tc s p x n3).bind (us (u2 fun z6 n7 => ck (-1 - z6) <| some (-1 - z6, n7)) (u2 fun z14 n15 => nk_Sheet_readPart_257 a z14 n15)) := fun x => by
    unfold nk_Sheet_readPart_92 st
    dsimp only
    rw [ix_e _ hp, hn3]
  have h66 : nk_Sheet_readPart_66 d a tc s p z15 wn w0 s (nw (nw n 32 0 s (c + 1)) 35 0 p (pk (sg g a (z15 - a).toNat))) = (NL_Sheet_readPart_100 d a tc s p (if z15 = a ∧ a < tc ∧ g a = 42 then a + 1 else z15) n3).bind (us (u2 fun z6 n7 => ck (-1 - z6) <| some (-1 - z6, n7)) (u2 fun z14 n15 => nk_Sheet_readPart_257 a z14 n15)) := by
    unfold nk_Sheet_readPart_66 st dx
    dsimp only
    rw [ck_e _ (by omega), ix_e _ hs, h92, h92]
    by_cases y1 : z15 = a
    · rw [if_pos y1]
      by_cases y2 : z15 < tc
      · rw [if_pos y2, nw_nK (show (92 : Nat) ≠ 33 by decide), nw_nK (show (92 : Nat) ≠ 35 by decide), nw_nK (show (92 : Nat) ≠ 32 by decide), nw_nK (show (93 : Nat) ≠ 33 by decide), nw_nK (show (93 : Nat) ≠ 35 by decide), nw_nK (show (93 : Nat) ≠ 32 by decide), nw_nK (show (99 : Nat) ≠ 33 by decide), nw_nK (show (99 : Nat) ≠ 35 by decide), nw_nK (show (99 : Nat) ≠ 32 by decide), if_pos ⟨ht.1, by omega, by have := ht.2.1; omega⟩, ht.2.2 z15 (by omega) y2]
        by_cases y3 : g z15 = 42
        · rw [if_pos y3, ck_e _ (by omega), if_pos ⟨y1, by omega, by rw [← y1]; exact y3⟩, y1]
        · rw [if_neg y3, if_neg (fun y => y3 (by rw [y1]; exact y.2.2))]
      · rw [if_neg y2, if_neg (fun y => y2 (by omega))]
    · rw [if_neg y1, if_neg (fun y => y1 y.1)]
  unfold N_Sheet_readPart
  rw [ck_e _ (by omega), ix_e _ hs, hc.1, show s * 3 + c = p by omega, ck_e _ (by omega), ix_e _ hs, ck_e _ (by omega), ix_e _ hs]
  unfold st
  dsimp only
  rw [cs_nameEnd (ht1 _) (Int.le_refl _) ha.1 (by omega) (by omega), hz15]
  simp only [Option.bind_some]
  rw [hpk]
  simp only [Option.bind_some]
  rw [ix_e _ hp, ix_e _ hs, nw_nK (show (33 : Nat) ≠ 35 by decide), nw_nK (show (33 : Nat) ≠ 32 by decide), hW0]
  by_cases y : a < z15
  · rw [if_pos y]
    have hw1 : wn = 1 := by rw [← hWn, if_pos y]
    rw [hw1] at h66; exact h66
  · rw [if_neg y]
    have hw1 : wn = 0 := by rw [← hWn, if_neg y]
    rw [hw1] at h66; exact h66
theorem part_cc (hs : 0 ≤ s ∧ s < 41) (hs' : 0 ≤ s' ∧ s' < 41) (hc : n 32 0 s = c ∧ 0 ≤ c ∧ c < 3) (hc' : n' 32 0 s' = c) (ha : 0 ≤ a ∧ a ≤ tc ∧ tc ≤ 2000) (ht : tx n d g tc) (ht' : tx n' d' g tc) (h33 : 0 ≤ n 33 0 s ∧ n 33 0 s ≤ 2000) (h33' : 0 ≤ n' 33 0 s' ∧ n' 33 0 s' ≤ 2000) :
    ∃ z n1 n1', N_Sheet_readPart d a tc s n = some (z, n1) ∧ N_Sheet_readPart d' a tc s' n' = some (z, n1') ∧ ((-10000 ≤ z ∧ z < 0) ∨ (a < z ∧ z ≤ tc)) ∧ FPn s (3 * s + c) n n1 ∧ FPn s' (3 * s' + c) n' n1' ∧ n1 32 0 s = c + 1 ∧ n1' 32 0 s' = c + 1 ∧ (0 ≤ n1 33 0 s ∧ n1 33 0 s ≤ n 33 0 s + 401) ∧ (0 ≤ n1' 33 0 s' ∧ n1' 33 0 s' ≤ n' 33 0 s' + 401) := by
  have hb := nmC_b (g := g) (i := a) (to := tc) ha.2.1
  obtain ⟨n3, a1, a2, a3, a4, a5⟩ := c_partF (p := 3 * s + c) hs hc rfl ha ht ⟨h33.1, by omega⟩
  obtain ⟨n3', b1, b2, b3, b4, b5⟩ := c_partF (p := 3 * s' + c) hs' ⟨hc', hc.2⟩ rfl ha ht' ⟨h33'.1, by omega⟩
  have tx3 : tx n3 d g tc := by unfold tx at *; rw [a1.1 92 (by decide), a1.1 93 (by decide), a1.1 99 (by decide)]; exact ht
  have tx3' : tx n3' d' g tc := by unfold tx at *; rw [b1.1 92 (by decide), b1.1 93 (by decide), b1.1 99 (by decide)]; exact ht'
  have hat : a ≤ (if nmC g a tc = a ∧ a < tc ∧ g a = 42 then a + 1 else nmC g a tc) ∧ (if nmC g a tc = a ∧ a < tc ∧ g a = 42 then a + 1 else nmC g a tc) ≤ tc := by split <;> omega
  generalize (if nmC g a tc = a ∧ a < tc ∧ g a = 42 then a + 1 else nmC g a tc) = at' at *
  obtain ⟨k, n1, n1', r1, r2, r3, r4, r5, r6⟩ := marks_cc (d := d) (d' := d') (g := g) (fr := a) (fr' := a) (W := n 33 0 s + 401) (W' := n' 33 0 s' + 401) (p := 3 * s + c) (p' := 3 * s' + c) hs (by omega) hs' (by omega) ha.2.2 4 at' n3 n3' (by rw [a3]; decide) ⟨by omega, hat.2⟩ tx3 tx3' (by rw [a3, b3]) (by rw [a3]; decide) (by rw [a3]; omega) (by rw [a3]; omega)
  have F1 := a1.trans r2.fp
  have F2 := b1.trans r3.fp
  have e32 : n1 32 0 s = c + 1 := by rw [r2.1 32 (by decide)]; exact a2
  have e32' : n1' 32 0 s' = c + 1 := by rw [r3.1 32 (by decide)]; exact b2
  rcases r6 with ⟨q1, q2⟩ | ⟨q1, q2⟩
  · refine ⟨-1 - k, n1, n1', ?_, ?_, .inl (by omega), F1, F2, e32, e32', r4, r5⟩
    · rw [a5, q1]
      simp only [Option.bind_some, us, u2]
      rw [ck_e _ (by omega)]
    · rw [b5, q2]
      simp only [Option.bind_some, us, u2]
      rw [ck_e _ (by omega)]
  · by_cases y : k = a
    · refine ⟨-1 - k, n1, n1', ?_, ?_, .inl (by omega), F1, F2, e32, e32', r4, r5⟩
      · rw [a5, q1]
        simp only [Option.bind_some, us, u2]
        unfold nk_Sheet_readPart_257
        rw [if_pos y, ck_e _ (by omega)]
      · rw [b5, q2]
        simp only [Option.bind_some, us, u2]
        unfold nk_Sheet_readPart_257
        rw [if_pos y, ck_e _ (by omega)]
    · refine ⟨k, n1, n1', ?_, ?_, .inr (by omega), F1, F2, e32, e32', r4, r5⟩
      · rw [a5, q1]
        simp only [Option.bind_some, us, u2]
        unfold nk_Sheet_readPart_257
        rw [if_neg y]
      · rw [b5, q2]
        simp only [Option.bind_some, us, u2]
        unfold nk_Sheet_readPart_257
        rw [if_neg y]
/-- a SELECTOR: the class says alike of it -/
theorem sel_cc (hs : 0 ≤ s ∧ s < 41) (hs' : 0 ≤ s' ∧ s' < 41) (ha : 0 ≤ a ∧ a ≤ tc ∧ tc ≤ 2000) (ht : tx n d g tc) (ht' : tx n' d' g tc) :
    ∃ z n1 n1', N_Sheet_readSelector d a tc s n = some (z, n1) ∧ N_Sheet_readSelector d' a tc s' n' = some (z, n1') ∧ FSn s n n1 ∧ FSn s' n' n1' := by
  have loop : ∀ (z : Nat) (c a : Int) (n n' : NS), (3 - c).toNat ≤ z → (0 ≤ c ∧ c < 3) → n 32 0 s = c → n' 32 0 s' = c → (0 ≤ a ∧ a ≤ tc) → tx n d g tc → tx n' d' g tc → (0 ≤ n 33 0 s ∧ n 33 0 s ≤ 401 * c) → (0 ≤ n' 33 0 s' ∧ n' 33 0 s' ≤ 401 * c) → ∃ n1 n1', FSn s n n1 ∧ FSn s' n' n1' ∧ ((∃ k, NL_Sheet_readSelector_22 d tc s a c n = some (.inl (k, n1)) ∧ NL_Sheet_readSelector_22 d' tc s' a c n' = some (.inl (k, n1')) ∧ (-10000 ≤ k ∧ k < 0)) ∨ (NL_Sheet_readSelector_22 d tc s a c n = some (.inr (.inl n1)) ∧ NL_Sheet_readSelector_22 d' tc s' a c n' = some (.inr (.inl n1'))) ∨ (∃ k, NL_Sheet_readSelector_22 d tc s a c n = some (.inr (.inr (.inl (k, n1)))) ∧ NL_Sheet_readSelector_22 d' tc s' a c n' = some (.inr (.inr (.inl (k, n1')))))) := by
    intro z
    induction z with
    | zero => intro c a n n' hz hc; omega
    | succ z ih =>
      intro c a n n' hz hc h32 h32' ha' ht ht' h33 h33'
      obtain ⟨k, n1, n1', r1, r2, r3, r4, r5, r6, r7, r8, r9⟩ := part_cc (c := c) hs hs' ⟨h32, hc⟩ h32' ⟨ha'.1, ha'.2, ha.2.2⟩ ht ht' ⟨h33.1, by omega⟩ ⟨h33'.1, by omega⟩
      have F1 := r4.fs (show 3 * s ≤ 3 * s + c ∧ 3 * s + c < 3 * s + 3 by omega)
      have F2 := r5.fs (show 3 * s' ≤ 3 * s' + c ∧ 3 * s' + c < 3 * s' + 3 by omega)
      have t1 := F1.txx ht
      have t2 := F2.txx ht'
      have body : ∀ (d s : Int) (n n1 : NS), N_Sheet_readPart d a tc s n = some (k, n1) → tx n1 d g tc → nb_Sheet_readSelector_22 d tc s a c n = if k < 0 then some (.inr (.inl (k, n1))) else if k = tc then some (.inr (.inr (.inl n1))) else if isBl (g k) then (if c = 2 then some (.inr (.inr (.inr (.inl (k, n1))))) else some (.inl (sc (fun j => isBl (g j)) k tc, c + 1, n1))) else some (.inr (.inr (.inr (.inl (k, n1))))) := fun d s n n1 e t => by
        unfold nb_Sheet_readSelector_22
        rw [if_pos hc.2, e]
        simp only [Option.bind_some, u2]
        by_cases y1 : k < 0
        · rw [if_pos y1, if_pos y1]
        · rw [if_neg y1, if_neg y1]
          by_cases y2 : k = tc
          · rw [if_pos y2, if_pos y2]
          · rw [if_neg y2, if_neg y2]
            unfold dx
            rw [if_pos ⟨t.1, by omega, by have := t.2.1; omega⟩, t.2.2 k (by omega) (by omega)]
            by_cases y3 : isBl (g k)
            · rw [bz_t cs_blank y3, if_pos y3]
              simp only [Option.bind_some]
              rw [if_neg (by decide)]
              by_cases y4 : c = 2
              · rw [if_pos y4, if_pos y4]
              · rw [if_neg y4, if_neg y4, cs_skip t ⟨by omega, Int.le_refl _, by omega⟩]
                simp only [Option.bind_some]
                rw [ck_e _ (by omega)]
            · rw [bz_f cs_blank y3, if_neg y3]
              simp only [Option.bind_some]
              rw [if_pos trivial]
      have e1 := body d s n n1 r1 t1
      have e2 := body d' s' n' n1' r2 t2
      by_cases y1 : k < 0
      · rw [if_pos y1] at e1 e2
        refine ⟨n1, n1', F1, F2, .inl ⟨k, ?_, ?_, ?_⟩⟩
        · unfold NL_Sheet_readSelector_22
          exact it_inr e1
        · unfold NL_Sheet_readSelector_22
          exact it_inr e2
        · omega
      · rw [if_neg y1] at e1 e2
        by_cases y2 : k = tc
        · rw [if_pos y2] at e1 e2
          refine ⟨n1, n1', F1, F2, .inr (.inl ⟨?_, ?_⟩)⟩
          · unfold NL_Sheet_readSelector_22
            exact it_inr e1
          · unfold NL_Sheet_readSelector_22
            exact it_inr e2
        · rw [if_neg y2] at e1 e2
          have ex : ∀ n1 n1', FSn s n n1 → FSn s' n' n1' → nb_Sheet_readSelector_22 d tc s a c n = some (.inr (.inr (.inr (.inl (k, n1))))) → nb_Sheet_readSelector_22 d' tc s' a c n' = some (.inr (.inr (.inr (.inl (k, n1'))))) → ∃ n1 n1', FSn s n n1 ∧ FSn s' n' n1' ∧ ((∃ k, NL_Sheet_readSelector_22 d tc s a c n = some (.inl (k, n1)) ∧ NL_Sheet_readSelector_22 d' tc s' a c n' = some (.inl (k, n1')) ∧ (-10000 ≤ k ∧ k < 0)) ∨ (NL_Sheet_readSelector_22 d tc s a c n = some (.inr (.inl n1)) ∧ NL_Sheet_readSelector_22 d' tc s' a c n' = some (.inr (.inl n1'))) ∨ (∃ k, NL_Sheet_readSelector_22 d tc s a c n = some (.inr (.inr (.inl (k, n1)))) ∧ NL_Sheet_readSelector_22 d' tc s' a c n' = some (.inr (.inr (.inl (k, n1')))))) := fun n1 n1' u1 u2' u3 u4 => by
            refine ⟨n1, n1', u1, u2', .inr (.inr ⟨k, ?_, ?_⟩)⟩
            · unfold NL_Sheet_readSelector_22
              exact it_inr u3
            · unfold NL_Sheet_readSelector_22
              exact it_inr u4
          by_cases y3 : isBl (g k)
          · rw [if_pos y3] at e1 e2
            by_cases y4 : c = 2
            · rw [if_pos y4] at e1 e2
              exact ex n1 n1' F1 F2 e1 e2
            · rw [if_neg y4] at e1 e2
              have k1 := scx_ge (p := fun j => isBl (g j)) k tc
              have k2 := scx_le (p := fun j => isBl (g j)) (i := k) (to := tc) (by omega)
              have I := ih (c + 1) (sc (fun j => isBl (g j)) k tc) n1 n1' (by omega) (by omega) r6 r7 ⟨by omega, k2⟩ t1 t2 (by omega) (by omega)
              have E1 : NL_Sheet_readSelector_22 d tc s a c n = NL_Sheet_readSelector_22 d tc s (sc (fun j => isBl (g j)) k tc) (c + 1) n1 := by
                unfold NL_Sheet_readSelector_22
                exact it_inl (f := fun t : Int × Int × NS => nb_Sheet_readSelector_22 d tc s t.1 t.2.1 t.2.2) (s := (a, c, n)) e1
              have E2 : NL_Sheet_readSelector_22 d' tc s' a c n' = NL_Sheet_readSelector_22 d' tc s' (sc (fun j => isBl (g j)) k tc) (c + 1) n1' := by
                unfold NL_Sheet_readSelector_22
                exact it_inl (f := fun t : Int × Int × NS => nb_Sheet_readSelector_22 d' tc s' t.1 t.2.1 t.2.2) (s := (a, c, n')) e2
              rw [E1, E2]
              obtain ⟨m1, m1', w1, w2, w3⟩ := I
              exact ⟨m1, m1', F1.trans w1, F2.trans w2, w3⟩
          · rw [if_neg y3] at e1 e2
            exact ex n1 n1' F1 F2 e1 e2
  have start : ∀ (s : Int) (n : NS), (0 ≤ s ∧ s < 41) → FSn s n (nw (nw n 32 0 s 0) 33 0 s 0) := fun s n hs => ⟨fun K hK' => by
      simp only [List.mem_cons, List.not_mem_nil, or_false, not_or] at hK'
      rw [nw_nK (by omega), nw_nK (by omega)], fun k hk => ⟨by rw [nw_nK (by decide), nw_ns hk], by rw [nw_ns hk, nw_nK (by decide)]⟩, fun k _ => by rw [nw_nK (by decide), nw_nK (by decide), nw_nK (by decide), nw_nK (by decide)]; exact ⟨rfl, rfl⟩, fun k _ => by rw [nw_nK (by decide), nw_nK (by decide), nw_nK (by decide), nw_nK (by decide)]; exact ⟨rfl, rfl⟩⟩
  have f1 := start s n hs
  have f2 := start s' n' hs'
  obtain ⟨n1, n1', w1, w2, w3⟩ := loop 3 0 a (nw (nw n 32 0 s 0) 33 0 s 0) (nw (nw n' 32 0 s' 0) 33 0 s' 0) (by decide) (by omega) (by rw [nw_nK (by decide), nw_eq]) (by rw [nw_nK (by decide), nw_eq]) ⟨ha.1, ha.2.1⟩ (f1.txx ht) (f2.txx ht') (by rw [nw_eq]; omega) (by rw [nw_eq]; omega)
  unfold N_Sheet_readSelector st
  dsimp only
  rw [ix_e _ hs, ix_e _ hs, ix_e _ hs', ix_e _ hs']
  rcases w3 with ⟨k, u1, u2', u3⟩ | ⟨u1, u2'⟩ | ⟨k, u1, u2'⟩
  · refine ⟨-1 - k, n1, n1', ?_, ?_, f1.trans w1, f2.trans w2⟩
    · rw [u1]
      simp only [Option.bind_some, us, u2]
      rw [ck_e _ (by omega)]
    · rw [u2']
      simp only [Option.bind_some, us, u2]
      rw [ck_e _ (by omega)]
  · rw [u1, u2']
    exact ⟨-1, n1, n1', rfl, rfl, f1.trans w1, f2.trans w2⟩
  · rw [u1, u2']
    exact ⟨k, n1, n1', rfl, rfl, f1.trans w1, f2.trans w2⟩
end T5
