/-! WORDS ARE LISTED, in both -/
/-- what measuring leaves as it was, in the class; 3 is told apart -/
def F1n (n n' : NS) : Prop := (∀ K, K ∉ [3, 4, 5, 90, 91, 92, 93, 99] → n' K = n K) ∧ (∀ b, b ≠ 608 → n' 4 b = n 4 b) ∧ (∀ s, s ≠ 5 → s ≠ 6 → n' 5 0 s = n 5 0 s) ∧ (n 90 0 0 ≤ n' 90 0 0 ∧ (∀ q, q < n 90 0 0 → n' 92 0 q = n 92 0 q ∧ n' 93 0 q = n 93 0 q) ∧ (∀ q, q < n 90 0 0 → q ≠ n 4 608 1 → q ≠ n 5 0 5 → n' 99 q = n 99 q)) ∧ (n' 4 608 1 = n 4 608 1 ∨ n 90 0 0 ≤ n' 4 608 1) ∧ (n' 5 0 5 = n 5 0 5 ∨ n 90 0 0 ≤ n' 5 0 5)
/-- the rows of the Layout, while words are listed -/
def WL1 (n : NS) : Prop := WLc n ∧ 384 ≤ n 93 0 (n 5 0 5)
/-- the words so far stay -/
def WKp (n n' : NS) : Prop := n 5 0 6 ≤ n' 5 0 6 ∧ ∀ j, 0 ≤ j → j < 6 * n 5 0 6 → n' 99 (n' 5 0 5) j = n 99 (n 5 0 5) j
section Y4
variable {n n' n'' : NS} {m m' m'' : YS} {A B N a b c x y q s E v u w t k j r x1 x2 x3 x4 x5 i L fw len wide : Int} {o e p g : Int → Int}
theorem F1n.refl : F1n n n := ⟨fun _ _ => rfl, fun _ _ => rfl, fun _ _ _ => rfl, ⟨Int.le_refl _, fun _ _ => ⟨rfl, rfl⟩, fun _ _ _ _ => rfl⟩, .inl rfl, .inl rfl⟩
theorem F1n.trans (h : F1n n n') (h' : F1n n' n'') : F1n n n'' := by
  obtain ⟨a1, a2, a3, ⟨a4, a5, a6⟩, a7, a8⟩ := h
  obtain ⟨b1, b2, b3, ⟨b4, b5, b6⟩, b7, b8⟩ := h'
  refine ⟨fun K x => (b1 K x).trans (a1 K x), fun b x => (b2 b x).trans (a2 b x), fun s x y => (b3 s x y).trans (a3 s x y), ⟨by omega, fun q x => ?_, fun q x y z => ?_⟩, by omega, by omega⟩
  · have g1 := a5 q x
    have g2 := b5 q (by omega)
    exact ⟨g2.1.trans g1.1, g2.2.trans g1.2⟩
  · rw [b6 q (by omega) (by omega) (by omega), a6 q x y z]
theorem FB.f1 (h : FB (fun x => x = 608) n n') : F1n n n' := by
  obtain ⟨a1, a2, a3, a4, a5, a6⟩ := h
  refine ⟨fun K hK => ?_, fun b x => a2 b x, fun s _ _ => by rw [a1 5 (by decide) (by decide) (by decide) (by decide) (by decide) (by decide)], ⟨a3, a4, fun q x y _ => a5 q x (fun b hb => by rw [hb]; exact y)⟩, a6 608 rfl, .inl (by rw [a1 5 (by decide) (by decide) (by decide) (by decide) (by decide) (by decide)])⟩
  simp only [List.mem_cons, List.not_mem_nil, or_false, not_or] at hK
  exact a1 K (by omega) (by omega) (by omega) (by omega) (by omega) (by omega)
/-- the tree stays -/
theorem JT.f1 (h : JT n m N o e p) (hB : BI A B n) (hW : WLc n) (hF : F1n n n') (hy : ∀ f, 45 ≤ f → f ≤ 69 → m' f = m f) : JT n' m' N o e p := by
  have e7 : n' 7 = n 7 := hF.1 7 (by decide)
  have e10 : n' 10 = n 10 := hF.1 10 (by decide)
  have e22 : n' 22 = n 22 := hF.1 22 (by decide)
  have e18 : n' 18 = n 18 := hF.1 18 (by decide)
  refine ⟨h.1.cg e7 e10 (fun f hf => hy f (by omega) (by omega)), h.2.1.cg e7, h.2.2.1.cg e7 e10 e22, fun k k0 k1 => (h.2.2.2 k k0 k1).cg (YG.of (fun f hf => hy f (by omega) (by omega))) ⟨fun s _ => by rw [e7], by rw [e18], fun b x y => ?_⟩⟩
  have ho := h.1.1.oB k0 k1
  have hb1 := hB.1 b (by omega) (by omega)
  unfold bt
  rw [hF.2.1 b (by omega), hF.2.2.2.1.2.2 _ hb1.2.1.2 (fun z => by
    have := hB.2.1 b 608 (by omega) (by omega) (by decide) (by decide) z
    omega) (fun z => by
    have h1 := hb1.2.2.1
    rw [z, hW.1.1] at h1
    exact absurd h1 (by decide))]
theorem LSt.f1 (h : LSt n N o e) (hF : F1n n n') : LSt n' N o e := by
  unfold LSt at *
  rw [hF.1 10 (by decide), hF.1 22 (by decide), hF.1 7 (by decide)]; exact h
theorem LKs.f1 (h : LKs n m N o) (hF : F1n n n') (hm : m' 105 = m 105) (h46 : m' 46 = m 46) : LKs n' m' N o := fun r a b c pr p0 p1 => by
  rw [h46] at c
  rw [hF.1 41 (by decide), hm]; exact h r a b c pr p0 p1
/-- a word is added to the class's row -/
theorem c_addWord (hB : BI A B n) (hW : WL1 n) (hw : n 5 0 6 < 24000) (ht : -1000 ≤ t ∧ t ≤ 1000) : ev (N_Layout_addWord t i len wide n) (fun n' => BI A B n' ∧ WL1 n' ∧ n' 5 0 6 = n 5 0 6 + 1 ∧ F1n n n' ∧ n' 3 = n 3 ∧ n' 4 = n 4 ∧ WKp n n' ∧ n' 99 (n' 5 0 5) (6 * n 5 0 6) = t ∧ n' 99 (n' 5 0 5) (6 * n 5 0 6 + 1) = i ∧ n' 99 (n' 5 0 5) (6 * n 5 0 6 + 2) = len ∧ n' 99 (n' 5 0 5) (6 * n 5 0 6 + 5) = wide) := by
  obtain ⟨⟨w1, w2, w3, w4, w5⟩, w6⟩ := hW
  have hc := hB.2.2.2.1
  have hl := hB.2.2.2.2.1
  -- the row has room
  have put : ∀ n1 : NS, BI A B n1 → (n1 92 0 (n1 5 0 5) = 0 ∧ n1 92 0 (n1 5 0 9) = 0) → n1 5 0 5 ≠ n1 5 0 9 → (64 ≤ n1 93 0 (n1 5 0 9) ∧ n1 93 0 (n1 5 0 9) ≤ 100000) → 384 ≤ n1 93 0 (n1 5 0 5) → 6 * n 5 0 6 + 6 ≤ n1 93 0 (n1 5 0 5) → n1 5 0 6 = n 5 0 6 → F1n n n1 → n1 3 = n 3 → n1 4 = n 4 → (∀ j, 0 ≤ j → j < 6 * n 5 0 6 → n1 99 (n1 5 0 5) j = n 99 (n 5 0 5) j) → ev (nk_Layout_addWord_40 t i len wide (n 5 0 6 * 6) n1) (fun n' => BI A B n' ∧ WL1 n' ∧ n' 5 0 6 = n 5 0 6 + 1 ∧ F1n n n' ∧ n' 3 = n 3 ∧ n' 4 = n 4 ∧ WKp n n' ∧ n' 99 (n' 5 0 5) (6 * n 5 0 6) = t ∧ n' 99 (n' 5 0 5) (6 * n 5 0 6 + 1) = i ∧ n' 99 (n' 5 0 5) (6 * n 5 0 6 + 2) = len ∧ n' 99 (n' 5 0 5) (6 * n 5 0 6 + 5) = wide) := fun n1 k1 k2 k3 k4 k5 k6 k7 k8 k9 k10 k11 => by
    have hc1 := k1.2.2.2.1
    obtain ⟨n21, hn21⟩ : ∃ n21, n21 = nw (nw (nw (nw n1 99 (n1 5 0 5) (6 * n 5 0 6) t) 99 (n1 5 0 5) (6 * n 5 0 6 + 1) i) 99 (n1 5 0 5) (6 * n 5 0 6 + 2) len) 99 (n1 5 0 5) (6 * n 5 0 6 + 5) wide := ⟨_, rfl⟩
    have h21 : ∀ K, K ≠ 99 → n21 K = n1 K := fun K a => by rw [hn21, nw_nK a, nw_nK a, nw_nK a, nw_nK a]
    have h219 : ∀ q, q ≠ n1 5 0 5 → n21 99 q = n1 99 q := fun q a => by rw [hn21, nw_ni a, nw_ni a, nw_ni a, nw_ni a]
    unfold nk_Layout_addWord_40 st
    dsimp only
    have e5 : ∀ (n2 : NS) (a b x : Int), nw n2 99 a b x 5 = n2 5 := fun n2 a b x => nw_nK (by decide)
    simp only [e5, show n 5 0 6 * 6 = 6 * n 5 0 6 by omega]
    rw [← hn21, k7]
    refine ev_nn hc1.1 (ev_dx ⟨k2.1, by omega, by omega⟩ (ev_nn hc1.1 (ev_ck (by omega) (ev_dx ⟨by rw [nw_nK (by decide)]; exact k2.1, by omega, by rw [nw_nK (by decide)]; omega⟩ (ev_nn hc1.1 (ev_ck (by omega) (ev_dx ⟨by rw [nw_nK (by decide), nw_nK (by decide)]; exact k2.1, by omega, by rw [nw_nK (by decide), nw_nK (by decide)]; omega⟩ (ev_nn hc1.1 (ev_ck (by omega) (ev_dx ⟨by rw [nw_nK (by decide), nw_nK (by decide), nw_nK (by decide)]; exact k2.1, by omega, by rw [nw_nK (by decide), nw_nK (by decide), nw_nK (by decide)]; omega⟩ (ev_ck (by omega) (ev_ok ?_))))))))))))
    have r5 : ∀ s, s ≠ 6 → nw n21 5 0 6 (n 5 0 6 + 1) 5 0 s = n1 5 0 s := fun s a => by rw [nw_ns a, h21 5 (by decide)]
    have rK : ∀ K, K ≠ 5 → K ≠ 99 → nw n21 5 0 6 (n 5 0 6 + 1) K = n1 K := fun K a b => by rw [nw_nK a, h21 K b]
    have r99 : nw n21 5 0 6 (n 5 0 6 + 1) 99 = n21 99 := nw_nK (by decide)
    obtain ⟨a1, a2, a3, ⟨a4, a5, a6⟩, a7, a8⟩ := k8
    refine ⟨k1.cg (rK 4 (by decide) (by decide)) ⟨r5 5 (by decide), r5 9 (by decide)⟩ (rK 90 (by decide) (by decide)) (rK 91 (by decide) (by decide)) (rK 92 (by decide) (by decide)) (rK 93 (by decide) (by decide)), ⟨?_, ?_⟩, nw_eq, ⟨fun K hK => ?_, fun b hb => ?_, fun s y1 y2 => ?_, ⟨?_, fun q hq => ?_, fun q y1 y2 y3 => ?_⟩, ?_, ?_⟩, ?_, ?_, ⟨?_, fun j y1 y2 => ?_⟩, ?_, ?_, ?_, ?_⟩
    · unfold WLc
      rw [r5 5 (by decide), r5 9 (by decide), nw_eq, rK 92 (by decide) (by decide), rK 93 (by decide) (by decide)]
      exact ⟨k2, k3, by omega, k4, hc1.1, hc1.2.2.1⟩
    · rw [r5 5 (by decide), rK 93 (by decide) (by decide)]; exact k5
    · have g5 : K ≠ 5 := fun z => hK (by rw [z]; decide)
      have g9 : K ≠ 99 := fun z => hK (by rw [z]; decide)
      rw [rK K g5 g9, a1 K hK]
    · rw [rK 4 (by decide) (by decide), a2 b hb]
    · rw [r5 s y2, a3 s y1 y2]
    · rw [rK 90 (by decide) (by decide)]; exact a4
    · rw [rK 92 (by decide) (by decide), rK 93 (by decide) (by decide)]; exact a5 q hq
    · rw [r99, h219 q (by omega), a6 q y1 y2 y3]
    · rw [rK 4 (by decide) (by decide)]; exact a7
    · rw [r5 5 (by decide)]; exact a8
    · rw [rK 3 (by decide) (by decide), k9]
    · rw [rK 4 (by decide) (by decide), k10]
    · rw [nw_eq]; omega
    · rw [r5 5 (by decide), r99, hn21, nw_ns (by omega), nw_ns (by omega), nw_ns (by omega), nw_ns (by omega)]
      exact k11 j y1 y2
    · rw [r5 5 (by decide), r99, hn21, nw_ns (by omega), nw_ns (by omega), nw_ns (by omega), nw_eq]
    · rw [r5 5 (by decide), r99, hn21, nw_ns (by omega), nw_ns (by omega), nw_eq]
    · rw [r5 5 (by decide), r99, hn21, nw_ns (by omega), nw_eq]
    · rw [r5 5 (by decide), r99, hn21, nw_eq]
  unfold N_Layout_addWord
  refine ev_ck (by omega) (ev_ck (by omega) (ev_nn w5.1 (ev_ty w1.1 (ev_ck (by omega) ?_))))
  refine ev_if (fun hlt => ?_) (fun hge => ?_)
  · refine ev_nn w5.1 (ev_nn w5.1 (ev_ty w1.1 (ev_ck (by omega) (ev_ck (by omega) ?_))))
    refine ev_b2 (cs_copyI (a := n 5 0 5) (l := n 93 0 (n 5 0 5) * 2) hB ⟨w1.1, hc.2.1⟩ (by omega)) (fun z n17 h17 => ev_st ?_)
    obtain ⟨r1, r2, r3, r4, r5, r6, r7, r8⟩ := h17
    simp only at r1 r2 r3 r4 r5 r6 r7 r8
    rw [r1] at r4 r5 r6 ⊢
    have e5 : n17 5 = n 5 := r8 5 (by decide) (by decide) (by decide) (by decide) (by decide)
    have s9 : nw n17 5 0 5 (n 90 0 0) 5 0 9 = n 5 0 9 := by rw [nw_ns (by decide), e5]
    have q9 := r7 (n 5 0 9) hc.2.2.2
    refine put (nw n17 5 0 5 (n 90 0 0)) (grow59 hB (.inl ⟨rfl, by omega⟩) (by omega) (by omega) r2 r3 r5 r7 r8) ?_ ?_ ?_ ?_ ?_ ?_ ⟨fun K hK => ?_, fun b _ => ?_, fun s y1 y2 => ?_, ⟨?_, fun q hq => ?_, fun q y1 y2 y3 => ?_⟩, ?_, ?_⟩ ?_ ?_ (fun j y1 y2 => ?_)
    · rw [nw_eq, s9, nw_nK (by decide), r4, q9.1]; exact ⟨rfl, w1.2⟩
    · rw [nw_eq, s9]; omega
    · rw [s9, nw_nK (by decide), q9.2.1]; exact w4
    · rw [nw_eq, nw_nK (by decide), r5]; omega
    · rw [nw_eq, nw_nK (by decide), r5]; omega
    · rw [nw_ns (by decide), e5]
    · simp only [List.mem_cons, List.not_mem_nil, or_false, not_or] at hK
      rw [nw_nK (by omega), r8 K (by omega) (by omega) (by omega) (by omega) (by omega)]
    · rw [nw_nK (by decide), r8 4 (by decide) (by decide) (by decide) (by decide) (by decide)]
    · rw [nw_ns y1, e5]
    · rw [nw_nK (by decide), r2]; omega
    · rw [nw_nK (by decide), nw_nK (by decide)]; exact ⟨(r7 q hq).1, (r7 q hq).2.1⟩
    · rw [nw_nK (by decide)]; exact (r7 q y1).2.2
    · rw [nw_nK (by decide), r8 4 (by decide) (by decide) (by decide) (by decide) (by decide)]; exact .inl rfl
    · rw [nw_eq]; exact .inr (Int.le_refl _)
    · rw [nw_nK (by decide), r8 3 (by decide) (by decide) (by decide) (by decide) (by decide)]
    · rw [nw_nK (by decide), r8 4 (by decide) (by decide) (by decide) (by decide) (by decide)]
    · rw [nw_eq, nw_nK (by decide)]; exact r6 j y1 (by omega)
  · exact put n hB w1 w2 w4 w6 (by omega) rfl F1n.refl rfl rfl (fun _ _ _ => rfl)
end Y4
