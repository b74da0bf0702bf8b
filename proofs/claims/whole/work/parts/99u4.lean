/-! THE CASCADE of the page, in both -/
/-- the looks of all ELEMENTS -/
def LKs (n : NS) (m : YS) (N : Int) (o : Int → Int) : Prop := ∀ k, 0 ≤ k → k < N → m 46 (o k) ≠ 17 → LKv n m (o k)
section U4
variable {n n' : NS} {m m' : YS} {A B N k v s p : Int} {o e q : Int → Int}
theorem looks_both (hB : BI A B n) (hT : JT n m N o e q) (hL : LSt n N o e) (hJ : JP m N o q) (hH : SHc n) (hS : SHT n m) : ∃ n' m', NL_Sheet_refresh_132 0 n = some n' ∧ NL_Y_cascade_6 0 m = some m' ∧ (∀ K, K ≠ 40 → K ≠ 41 → n' K = n K) ∧ FY [105] m m' ∧ LKs n' m' N o := by
  have hG := hT.1.1
  have hN := hG.1
  have key : ∀ (z : Nat) (k : Int) (n8 : NS) (m8 : YS), (N - k).toNat ≤ z → (0 ≤ k ∧ k ≤ N) → (∀ K, K ≠ 40 → K ≠ 41 → n8 K = n K) → FY [105] m m8 → (∀ j, 0 ≤ j → j < k → m 46 (o j) ≠ 17 → LKv n8 m8 (o j)) → ∃ n9 m9, NL_Sheet_refresh_132 k n8 = some n9 ∧ NL_Y_cascade_6 (if k < N then o k else -1) m8 = some m9 ∧ (∀ K, K ≠ 40 → K ≠ 41 → n9 K = n K) ∧ FY [105] m m9 ∧ LKs n9 m9 N o := by
    have stop : ∀ (k : Int) (n8 : NS) (m8 : YS), ¬ k < N → 0 ≤ k ∧ k ≤ N → (∀ K, K ≠ 40 → K ≠ 41 → n8 K = n K) → FY [105] m m8 → (∀ j, 0 ≤ j → j < k → m 46 (o j) ≠ 17 → LKv n8 m8 (o j)) → ∃ n9 m9, NL_Sheet_refresh_132 k n8 = some n9 ∧ NL_Y_cascade_6 (if k < N then o k else -1) m8 = some m9 ∧ (∀ K, K ≠ 40 → K ≠ 41 → n9 K = n K) ∧ FY [105] m m9 ∧ LKs n9 m9 N o := fun k n8 m8 hlt hk q1 q2 q3 => by
      refine ⟨n8, m8, ?_, ?_, q1, q2, fun j a b c => q3 j a (by omega) (by rw [q2 46 (by decide)] at c; exact c)⟩
      · unfold NL_Sheet_refresh_132
        refine it_inr ?_
        show nb_Sheet_refresh_132 k n8 = _
        unfold nb_Sheet_refresh_132
        rw [q1 10 (by decide) (by decide), hL.1, if_neg hlt]
      · rw [if_neg hlt]
        unfold NL_Y_cascade_6
        refine it_inr ?_
        show nb_Y_cascade_6 (-1) m8 = _
        unfold nb_Y_cascade_6
        rw [if_pos rfl]
    intro z
    induction z with
    | zero => intro k n8 m8 hz hk q1 q2 q3; exact stop k n8 m8 (by omega) hk q1 q2 q3
    | succ z ih =>
      intro k n8 m8 hz hk q1 q2 q3
      by_cases hlt : k < N
      · have hv := hG.oB hk.1 hlt
        have ef : ∀ f, f ≠ 105 → m8 f = m f := fun f hf => q2 f (by simp only [List.mem_cons, List.not_mem_nil, or_false]; exact hf)
        have hB8 : BI A B n8 := hB.cg (q1 4 (by decide) (by decide)) (by rw [q1 5 (by decide) (by decide)]; exact ⟨rfl, rfl⟩) (q1 90 (by decide) (by decide)) (q1 91 (by decide) (by decide)) (q1 92 (by decide) (by decide)) (q1 93 (by decide) (by decide))
        have hT8 : JT n8 m8 N o e q := (hT.ks (n' := n8) (fun K hK => q1 K (by omega) (by omega))).fb hB8 (FB.refl (fun _ => False) n8) (fun x hx => hx.elim) (fun f a b => ef f (by omega))
        have o22 : n8 22 0 k = o k := by rw [q1 22 (by decide) (by decide)]; exact (hL.2 k hk.1 hlt).1
        have tag : n8 7 (o k) 0 = m8 46 (o k) := (hT8.2.2.2 k hk.1 hlt).1.1
        have par : n8 7 (o k) 2 = m8 49 (o k) := (hT8.1.2.2.2.2.1 k hk.1 hlt).1.1
        have h120 := hN.2.1
        have nx : ∀ (mm : YS), (∀ f, f ≠ 105 → mm f = m f) → nk_Y_cascade_306 (o k) mm = some (.inl (if k + 1 < N then o (k + 1) else -1, mm)) := fun mm hm => by
          have hT9 : JT n8 mm N o e q := hT8.fb hB8 (FB.refl (fun _ => False) n8) (fun x hx => hx.elim) (fun f x y => by rw [hm f (by omega), ef f (by omega)])
          have := y_after (t := 0) (k := k) hT9.1.1 (Int.le_refl _) hk.1 (by rw [hN.2.2.2.1]; exact hlt) (by omega)
          rw [hN.2.2.1, hN.2.2.2.1] at this
          unfold nk_Y_cascade_306; rw [this]; rfl
        have go : ∀ (n9 : NS) (m9 : YS), nb_Sheet_refresh_132 k n8 = some (.inl (k + 1, n9)) → nb_Y_cascade_6 (o k) m8 = some (.inl (if k + 1 < N then o (k + 1) else -1, m9)) → (∀ K, K ≠ 40 → K ≠ 41 → n9 K = n K) → FY [105] m m9 → (∀ j, 0 ≤ j → j < k + 1 → m 46 (o j) ≠ 17 → LKv n9 m9 (o j)) → ∃ n9 m9, NL_Sheet_refresh_132 k n8 = some n9 ∧ NL_Y_cascade_6 (if k < N then o k else -1) m8 = some m9 ∧ (∀ K, K ≠ 40 → K ≠ 41 → n9 K = n K) ∧ FY [105] m m9 ∧ LKs n9 m9 N o := fun n9 m9 b1 b2 w1 w2 w3 => by
          obtain ⟨n', m', r1, r2, r3⟩ := ih (k + 1) n9 m9 (by omega) (by omega) w1 w2 w3
          refine ⟨n', m', ?_, ?_, r3⟩
          · rw [← r1]
            unfold NL_Sheet_refresh_132
            exact it_inl (f := fun t : Int × NS => nb_Sheet_refresh_132 t.1 t.2) (s := (k, n8)) b1
          · rw [← r2, if_pos hlt]
            unfold NL_Y_cascade_6
            exact it_inl (f := fun t : Int × YS => nb_Y_cascade_6 t.1 t.2) (s := (o k, m8)) b2
        have e46 : m8 46 = m 46 := ef 46 (by decide)
        by_cases z17 : m8 46 (o k) = 17
        · have cb : nb_Sheet_refresh_132 k n8 = some (.inl (k + 1, n8)) := by
            unfold nb_Sheet_refresh_132
            rw [q1 10 (by decide) (by decide), hL.1, if_pos hlt, ix_e _ (by omega), o22, ix_e _ hv, tag, if_pos z17, ck_e _ (by omega)]
          have yb : nb_Y_cascade_6 (o k) m8 = nk_Y_cascade_306 (o k) m8 := by
            unfold nb_Y_cascade_6
            rw [if_neg (by omega), ix_e _ hv, if_pos z17]
          refine go n8 m8 cb (yb.trans (nx m8 ef)) q1 q2 (fun j a b c => ?_)
          by_cases y : j = k
          · rw [y, ← e46] at c; exact absurd z17 c
          · exact q3 j a (by omega) c
        · have hS8 : SHT n8 m8 := (hS.cn (fun K hK => q1 K (by omega) (by omega))).cm (fun f a b => ef f (by omega))
          have hH8 : SHc n8 := by unfold SHc at *; rw [q1 9 (by decide) (by decide)]; exact hH
          have hPk : PLk n8 m8 (o k) := by
            refine ⟨par, ?_⟩
            by_cases y : k = 0
            · refine .inl ⟨by rw [y]; exact hN.2.2.1, ?_⟩
              rw [ef 49 (by decide), y]; exact hN.2.2.2.2.1
            · have hq := hG.2.2.2.2.2.1 k (by omega) hlt
              have ep : m8 49 (o k) = o (q k) := by rw [ef 49 (by decide)]; exact hG.2.2.2.2.2.2.2.1 k (by omega) hlt
              have hqv := hG.oB hq.1 (show q k < N by omega)
              refine .inr ⟨fun u => ?_, by rw [ep]; exact hqv, fun u => ?_, ?_⟩
              · have := hG.2.2.1 k 0 hk.1 hlt (Int.le_refl _) (by omega) (by rw [u]; exact hN.2.2.1.symm)
                exact y this
              · rw [ep] at u
                have := hG.2.2.1 (q k) k hq.1 (by omega) hk.1 hlt u
                omega
              · rw [ep]
                exact q3 (q k) hq.1 hq.2.1 (hJ k (by omega) hlt).1
          obtain ⟨n9, m9, r1, r2, r3, r4, r5, r6, r7⟩ := node_look hB8 hT8 hH8 hS8 ⟨hk.1, hlt⟩ z17 hPk
          have cb : nb_Sheet_refresh_132 k n8 = some (.inl (k + 1, n9)) := by
            unfold nb_Sheet_refresh_132
            rw [q1 10 (by decide) (by decide), hL.1, if_pos hlt, ix_e _ (by omega), o22, ix_e _ hv, tag, if_neg z17, ix_e _ (by omega), r1]
            simp only [Option.bind_some]
            rw [ck_e _ (by omega)]
          have f9 := q2.trans r5
          refine go n9 m9 cb (r2.trans (nx m9 (fun f hf => f9 f (by simp only [List.mem_cons, List.not_mem_nil, or_false]; exact hf)))) (fun K x y => (r3 K x y).trans (q1 K x y)) f9 (fun j a b c => ?_)
          by_cases y : j = k
          · rw [y]; exact r7
          · have hne : o j ≠ o k := fun u => y (hG.2.2.1 j k a (by omega) hk.1 hlt u)
            exact ((q3 j a (by omega) c).cn (n' := n9) hne r4).cm hne r6
      · exact stop k n8 m8 hlt hk q1 q2 q3
  obtain ⟨n9, m9, r1, r2, r3, r4, r5⟩ := key N.toNat 0 n m (by omega) (by omega) (fun _ _ _ => rfl) (FY.refl _ _) (fun j a b => by omega)
  rw [if_pos (by omega), hN.2.2.1] at r2
  exact ⟨n9, m9, r1, r2, r3, r4, r5⟩
/-- the sheets are read and the cascade is run, in both -/
theorem refresh_both (hB : BI A B n) (hT : JT n m N o e q) (hJ : JP m N o q) (h0 : m 46 0 ≠ 17) (hH : SHc n) (hne : n 9 0 14 ≠ n 10 0 6) : ∃ n' m', N_Sheet_refresh n = some n' ∧ N_Y_cascade m = some m' ∧ BI A B n' ∧ JT n' m' N o e q ∧ LSt n' N o e ∧ SHc n' ∧ SHT n' m' ∧ LKs n' m' N o ∧ n' 9 0 14 = n' 10 0 6 ∧ (∀ K, K ∉ [7, 9, 10, 22, 32, 33, 34, 35, 36, 37, 38, 39, 40, 41] → n' K = n K) ∧ (∀ v s, s ≠ 8 → s ≠ 9 → n' 7 v s = n 7 v s) ∧ (∀ s, s ≠ 3 → s ≠ 4 → n' 10 0 s = n 10 0 s) ∧ FY [89, 90, 91, 92, 93, 94, 95, 96, 97, 98, 99, 100, 101, 102, 103, 104, 105] m m' := by
  generalize hn1 : nw (nw n 9 0 14 (n 10 0 6)) 9 0 13 0 = n1
  have K1 : ∀ K, K ≠ 9 → n1 K = n K := fun K h => by rw [← hn1, nw_nK h, nw_nK h]
  have s14 : n1 9 0 14 = n 10 0 6 ∧ n1 9 0 13 = 0 ∧ ∀ s, s ≠ 13 → s ≠ 14 → n1 9 0 s = n 9 0 s := ⟨by rw [← hn1, nw_ns (by decide), nw_eq], by rw [← hn1, nw_eq], fun s x y => by rw [← hn1, nw_ns x, nw_ns y]⟩
  have hB1 : BI A B n1 := hB.cg (K1 4 (by decide)) (by rw [K1 5 (by decide)]; exact ⟨rfl, rfl⟩) (K1 90 (by decide)) (K1 91 (by decide)) (K1 92 (by decide)) (K1 93 (by decide))
  have hT1 : JT n1 m N o e q := hT.ks (fun K hK => K1 K (by omega))
  obtain ⟨n2, a1, a2, a3, a4, a5⟩ := hT1.list hB1
  have e9 : n2 9 = n1 9 := a4.1 9 (by decide) (by decide) (by decide)
  have f89 : FY [89] m (yw m 89 0 0) := fun f hf => yw_nF (by simp only [List.mem_cons, List.not_mem_nil, or_false] at hf; exact hf)
  have hTy : JT n2 (yw m 89 0 0) N o e q := a2.fb a5 (FB.refl (fun _ => False) n2) (fun x hx => hx.elim) (fun f a b => f89 f (by simp only [List.mem_cons, List.not_mem_nil, or_false]; omega))
  have hS0 : SHT n2 (yw m 89 0 0) := ⟨by rw [e9, s14.2.1, yw_eq], by rw [yw_eq]; omega, fun s x y => by rw [yw_eq] at y; omega⟩
  have hJ0 : JP (yw m 89 0 0) N o q := fun k x y => by rw [f89 46 (by decide)]; exact hJ k x y
  obtain ⟨n3, m3, b1, b2, b3, b4, b5⟩ := styles_both a5 hTy a3 hJ0 (by rw [f89 46 (by decide)]; exact h0) hS0
  have hB3 : BI A B n3 := a5.cg (b4.1 4 (by decide)) (by rw [b4.1 5 (by decide)]; exact ⟨rfl, rfl⟩) (b4.1 90 (by decide)) (b4.1 91 (by decide)) (b4.1 92 (by decide)) (b4.1 93 (by decide))
  have hT3 : JT n3 m3 N o e q := (hTy.ks (n' := n3) (fun K hK => b4.1 K (by simp only [List.mem_cons, List.not_mem_nil, or_false, not_or]; omega))).fb hB3 (FB.refl (fun _ => False) n3) (fun x hx => hx.elim) (fun f a b => b5 f (by simp only [List.mem_cons, List.not_mem_nil, or_false, not_or]; omega))
  have hL3 : LSt n3 N o e := by unfold LSt at *; rw [b4.1 10 (by decide), b4.1 22 (by decide), b4.1 7 (by decide)]; exact a3
  have hH3 : SHc n3 := by
    unfold SHc at *
    rw [b4.2 11 (by decide), b4.2 12 (by decide), e9, s14.2.2 11 (by decide) (by decide), s14.2.2 12 (by decide) (by decide)]; exact hH
  have hJ3 : JP m3 N o q := fun k x y => by rw [b5 46 (by decide)]; exact hJ0 k x y
  obtain ⟨n4, m4, c1, c2, c3, c4, c5⟩ := looks_both hB3 hT3 hL3 hJ3 hH3 b3
  have hB4 : BI A B n4 := hB3.cg (c3 4 (by decide) (by decide)) (by rw [c3 5 (by decide) (by decide)]; exact ⟨rfl, rfl⟩) (c3 90 (by decide) (by decide)) (c3 91 (by decide) (by decide)) (c3 92 (by decide) (by decide)) (c3 93 (by decide) (by decide))
  have e10 : ∀ s, s ≠ 3 → s ≠ 4 → n4 10 0 s = n 10 0 s := fun s x y => by rw [c3 10 (by decide) (by decide), b4.1 10 (by decide), a4.2.2 s x y, K1 10 (by decide)]
  have cf : ∀ f, f ≠ 105 → m4 f = m3 f := fun f hf => c4 f (by simp only [List.mem_cons, List.not_mem_nil, or_false]; exact hf)
  refine ⟨n4, m4, ?_, ?_, hB4, (hT3.ks (n' := n4) (fun K hK => c3 K (by omega) (by omega))).fb hB4 (FB.refl (fun _ => False) n4) (fun x hx => hx.elim) (fun f a b => cf f (by omega)), by unfold LSt at *; rw [c3 10 (by decide) (by decide), c3 22 (by decide) (by decide), c3 7 (by decide) (by decide)]; exact hL3, by unfold SHc at *; rw [c3 9 (by decide) (by decide)]; exact hH3, (b3.cn (n' := n4) (fun K hK => c3 K (by omega) (by omega))).cm (fun f a b => cf f (by omega)), c5, ?_, fun K hK => ?_, fun v s x y => ?_, e10, fun f hf => ?_⟩
  · unfold N_Sheet_refresh st
    dsimp only
    rw [if_neg hne, hn1, a1]
    simp only [Option.bind_some]
    rw [b1]
    simp only [Option.bind_some]
    rw [c1]; rfl
  · unfold N_Y_cascade N_Y_readStyles st
    dsimp only
    rw [b2]
    simp only [Option.bind_some]
    rw [c2]; rfl
  · rw [c3 9 (by decide) (by decide), b4.2 14 (by decide), e9, s14.1, e10 6 (by decide) (by decide)]
  · simp only [List.mem_cons, List.not_mem_nil, or_false, not_or] at hK
    rw [c3 K (by omega) (by omega), b4.1 K (by simp only [List.mem_cons, List.not_mem_nil, or_false, not_or]; omega), a4.1 K (by omega) (by omega) (by omega), K1 K (by omega)]
  · rw [c3 7 (by decide) (by decide), b4.1 7 (by decide), a4.2.1 v s x y, K1 7 (by decide)]
  · simp only [List.mem_cons, List.not_mem_nil, or_false, not_or] at hf
    rw [c4 f (by simp only [List.mem_cons, List.not_mem_nil, or_false]; omega), b5 f (by simp only [List.mem_cons, List.not_mem_nil, or_false, not_or]; omega), f89 f (by simp only [List.mem_cons, List.not_mem_nil, or_false]; omega)]
end U4
