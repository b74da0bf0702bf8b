/-! THE WORDS of a TEXT come on the line, in both: one after the other -/
def LNR (A B v E wd C Q : Int) (n : NS) (m : YS) (F : Int) (n' : NS) (m' : YS) (F' : Int) : Prop := LSx n' m' v E wd F' ∧ BI A B n' ∧ WLc n' ∧ FRl v n n' ∧ FVy v m m' ∧ pot m' F' ≤ pot m F + C ∧ m 127 0 ≤ m' 127 0
      ∧ (∀ a, 0 ≤ a → SNb n m E a → SNb n' m' E a) ∧ (∀ w', 0 ≤ w' → SNw n m E w' → SNw n' m' E w') ∧ m' 131 0 ≤ m 131 0 + Q ∧ F' + m' 143 0 = F + m 143 0 ∧ (∀ q, 0 ≤ q → q < m' 131 0 → m' 134 q < 0 → ∃ q', 0 ≤ q' ∧ q' < m 131 0 ∧ m 134 q' = m' 134 q)
section W6
variable {n n' n'' : NS} {m m' m'' : YS} {A B a b c x y q s E F F' F'' v wd u w t sh Y H I l gap at' it' k i C C' Q Q' fw : Int}
theorem LNR.trans (h : LNR A B v E wd C Q n m F n' m' F') (h' : LNR A B v E wd C' Q' n' m' F' n'' m'' F'') : LNR A B v E wd (C + C') (Q + Q') n m F n'' m'' F'' := by
  obtain ⟨a1, a2, a3, a4, a5, a6, a7, a8, a9, a10, a11, a12⟩ := h
  obtain ⟨b1, b2, b3, b4, b5, b6, b7, b8, b9, b10, b11, b12⟩ := h'
  refine ⟨b1, b2, b3, a4.trans b4, a5.trans b5, by omega, by omega, fun a x h => b8 a x (a8 a x h), fun a x h => b9 a x (a9 a x h), by omega, by omega, fun q x y z => ?_⟩
  obtain ⟨q1, x1, y1, z1⟩ := b12 q x y z
  obtain ⟨q2, x2, y2, z2⟩ := a12 q1 x1 y1 (by omega)
  exact ⟨q2, x2, y2, by omega⟩
theorem LNR.refl (hS : LSx n m v E wd F) (hB : BI A B n) (hW : WLc n) : LNR A B v E wd 0 0 n m F n m F := ⟨hS, hB, hW, FRl.refl, FVy.refl, by omega, Int.le_refl _, fun _ _ h => h, fun _ _ h => h, by omega, rfl, fun q x y _ => ⟨q, x, y, rfl⟩⟩
theorem LNR.mono (h : LNR A B v E wd C Q n m F n' m' F') (h1 : C ≤ C') (h2 : Q ≤ Q') : LNR A B v E wd C' Q' n m F n' m' F' := by
  obtain ⟨a1, a2, a3, a4, a5, a6, a7, a8, a9, a10, a11, a12⟩ := h
  exact ⟨a1, a2, a3, a4, a5, by omega, a7, a8, a9, by omega, a11, a12⟩
theorem ywS : yw m 144 0 (m 144 0) = m := by
  funext f j
  rw [yw_app]
  split
  · next h => rw [h.1, h.2]
  · rfl
theorem pot_144 : pot (yw m 144 0 y) F = pot m F := by
  unfold pot
  have q := flR_m (m := m) (m' := yw m 144 0 y) (y := 0) (F := F) (fun f hf => yw_nF (by omega))
  rw [q.2.2.2, yw_nF (by decide), yw_nF (by decide), yw_nF (by decide)]
  congr 1
/-- a blank is noted -/
theorem LNR.bl (hS : LSx n m v E wd F) (hB : BI A B n) (hW : WLc n) (hx : x = 0 ∨ x = 1) (hy : y = 0 ∨ y = 1) (hxy : 0 < m 131 0 → x = y) : LNR A B v E wd 0 0 n m F (nw n 5 0 15 x) (yw m 144 0 y) F := by
  have cn : FVn v n (nw n 5 0 15 x) := bl_cn
  exact ⟨hS.bl hx hy hxy, cn.bi hB, cn.wl hW, cn.rl, FY.cy bl_fy, by rw [pot_144]; omega, by rw [yw_nF (by decide)]; exact Int.le_refl _, fun _ _ h => h.bl, fun _ _ h => h.bl, by rw [yw_nF (by decide)]; omega, by rw [yw_nF (by decide)], fun q x y _ => ⟨q, x, by rw [yw_nF (by decide)] at y; exact y, by rw [yw_nF (by decide)]⟩⟩
theorem words_loop (hs : s = n 3 t 11) : ∀ (z : Nat) (i : Int) (n : NS) (m : YS) (F : Int), (fw + c - i).toNat ≤ z → fw ≤ i → i ≤ fw + c → s = n 3 t 11 → (m 116 t = fw ∧ n 3 t 19 = c) → LSx n m v E wd F → BI A B n → WLc n → TXw n m v t → (∀ q, 0 ≤ q → q < m 131 0 → m 134 q < i) → m 131 0 + (fw + c - i) ≤ 24000 → pot m F + 21 * (fw + c - i) ≤ 900000 → (fw < i → LPw m (i - 1)) →
    ∃ n' m' F', NL_Layout_putWords_8 (5 * t) t (pE m t i) i n = some (pE m t (fw + c), n') ∧ NL_Y_lineText_23 t s i (pE m t i) m = NL_Y_lineText_23 t s (fw + c) (pE m t (fw + c)) m' ∧ LNR A B v E wd (21 * (fw + c - i)) (fw + c - i) n m F n' m' F' ∧ (∀ q, 0 ≤ q → q < m' 131 0 → m' 134 q < fw + c) ∧ (∀ w, i ≤ w → w < fw + c → SNw n' m' E w) ∧ (∀ w, 0 ≤ w → w + 1 < i → QP m w → QP m' w) ∧ (∀ w, fw ≤ w → i ≤ w + 1 → w + 1 < fw + c → QP m' w) := by
  clear hs
  intro z
  induction z with
  | zero =>
    intro i n m F hz h1 h2 hs hf hS hB hW hT hq hr hp hl
    have ei : i = fw + c := by omega
    refine ⟨n, m, F, ?_, by rw [ei], (LNR.refl hS hB hW).mono (by omega) (by omega), fun q x y => by have := hq q x y; omega, fun w x y => by omega, fun w _ _ h => h, fun w x y z => by omega⟩
    obtain ⟨a1, a2, a3, a4, a5, a6⟩ := hT
    rw [ei]
    unfold NL_Layout_putWords_8
    refine it_inr ?_
    show nb_Layout_putWords_8 (5 * t) t (pE m t (fw + c)) (fw + c) n = _
    unfold nb_Layout_putWords_8
    have hw := hW.2.2.1
    rw [a3.1, hf.1, hf.2, ck_e _ (by omega), if_neg (by omega)]
  | succ z ih =>
    intro i n m F hz h1 h2 hs hf hS hB hW hT hq hr hp hl
    by_cases hlt : i < fw + c
    · have hT0 := hT
      have hW0 := hW
      have hS0 := hS
      obtain ⟨a1, a2, a3, a4, a5, a6⟩ := hT
      obtain ⟨b1, b2, ⟨b3, b3', b3''⟩, b4, b5, b6, b7⟩ := a5 i (by omega) (by omega)
      obtain ⟨w1, w2, w3, w4, w5⟩ := hW
      obtain ⟨e1, e2, e3⟩ := hS.2.2.2
      have hi6 : 0 ≤ i ∧ i < n 5 0 6 := by omega
      -- blanks ahead of it
      obtain ⟨x, hx⟩ : ∃ x, x = (if n 5 0 15 = 0 then (if pE m t i < m 119 i then (1 : Int) else 0) else 1) := ⟨_, rfl⟩
      obtain ⟨y, hy⟩ : ∃ y, y = (if pE m t i < m 119 i then (1 : Int) else m 144 0) := ⟨_, rfl⟩
      have hx01 : x = 0 ∨ x = 1 := by rw [hx]; (repeat' split) <;> omega
      have hy01 : y = 0 ∨ y = 1 := by rw [hy]; split <;> omega
      have hxy : 0 < m 131 0 → x = y := fun z => by
        have := (e2 z).2.2.1
        rw [hx, hy]; (repeat' split) <;> omega
      have R1 : LNR A B v E wd 0 0 n m F (nw n 5 0 15 x) (yw m 144 0 y) F := LNR.bl hS0 hB hW0 hx01 hy01 hxy
      obtain ⟨n3, hn3⟩ : ∃ n3, n3 = nw n 5 0 15 x := ⟨_, rfl⟩
      obtain ⟨m3, hm3⟩ : ∃ m3, m3 = yw m 144 0 y := ⟨_, rfl⟩
      rw [← hn3, ← hm3] at R1
      have T3 : TXw n3 m3 v t := hT0.rl R1.2.2.2.1 R1.2.2.2.2.1
      have m3f : ∀ f, f ≠ 144 → m3 f = m f := fun f hf => by rw [hm3, yw_nF hf]
      have n3K : ∀ K, K ≠ 5 → n3 K = n K := fun K hK => by rw [hn3, nw_nK hK]
      have n35 : ∀ s, s ≠ 15 → n3 5 0 s = n 5 0 s := fun s hs => by rw [hn3, nw_ns hs]
      have b1' : ITk n m v i := .inr b1
      have k3 : ITk n3 m3 v i := b1'.cg (fun a s _ _ => by rw [n3K 3 (by decide)]) (n35 6 (by decide)) (n35 5 (by decide)) (fun i => by rw [n3K 99 (by decide)]) (fun f hf => m3f f (by omega))
      have eiH : iH m3 i = 7 * s := by
        unfold iH
        rw [if_neg (by omega), m3f 118 (by decide), b2, m3f 49 (by decide), m3f 105 (by decide), hs, a4.1]
      obtain ⟨n13, m19, F1, p1, p2, p3, p4, p5, p6, p7, p8, p9, p10, p11, p12, p13, p14, p15⟩ := putItem_both (w := m 123 i) (s := s) R1.1 R1.2.1 R1.2.2.1 k3 (fun q x y => by rw [m3f 131 (by decide)] at y; rw [m3f 134 (by decide)]; have := hq q x y; omega) (by rw [m3f 131 (by decide)]; omega) (by omega) (by omega) (by rw [hm3, pot_144]; omega)
      have R2 : LNR A B v E wd 21 1 n3 m3 F n13 m19 F1 := ⟨p3, p4, p5, p6, p7, by omega, p9, p10, p11, p13, p14, fun q x y z => by rcases p15 q x y with u | u; omega; exact u⟩
      have R := R1.trans R2
      have T4 := T3.rl p6 p7
      have m19f : ∀ f, f ∉ [110, 111, 121, 122, 127, 128, 129, 130, 131, 132, 134, 135, 136, 137, 138, 139, 140, 141, 142, 143, 144] → m19 f = m f := R.2.2.2.2.1.1
      have eP : ∀ j, pE m19 t j = pE m t j := fun j => by unfold pE; rw [m19f 116 (by decide), m19f 119 (by decide), m19f 120 (by decide)]
      have hsn := R.2.2.2.1
      have ePi : pE m t (i + 1) = m 119 i + m 120 i := by unfold pE; rw [if_neg (by omega), show i + 1 - 1 = i by omega]
      have hN3 := R1.1.lni
      have hJ : J1v m3 i (m 123 i) m19 := ov_put hN3 (fun ⟨q, x, y, z⟩ => by
        rw [m3f 131 (by decide)] at y
        rw [m3f 134 (by decide)] at z
        have := hq q x y; omega) (by omega) m19 p2
      obtain ⟨n', m', F', r1, r2, r3, r4, r5, r6, r7⟩ := ih (i + 1) n13 m19 F1 (by omega) (by omega) (by omega) (by rw [hsn.2.1 t 11 (by decide) (by decide)]; exact hs) ⟨by rw [m19f 116 (by decide)]; exact hf.1, by rw [hsn.2.1 t 19 (by decide) (by decide)]; exact hf.2⟩ p3 p4 p5 T4 (fun q x y => by
        rcases p15 q x y with z | ⟨j, j1, j2, j3⟩
        · omega
        · rw [← j3, m3f 134 (by decide)]
          rw [m3f 131 (by decide)] at j2
          have := hq j j1 j2; omega) (by have := R.2.2.2.2.2.2.2.2.2.1; omega) (by have := R.2.2.2.2.2.1; omega) (fun _ => by
        rw [show i + 1 - 1 = i by omega]
        exact hJ.2.2.2.2.2.2.1 (by omega) (by rw [m3f 123 (by decide)]))
      rw [eP, eP] at r1 r2
      have hpE := b5
      refine ⟨n', m', F', ?_, ?_, (R.trans r3).mono (by omega) (by omega), r4, fun w x y => ?_, fun w x y h => ?_, fun w x y z => ?_⟩
      · rw [← r1]
        unfold NL_Layout_putWords_8
        refine it_inl ?_
        show nb_Layout_putWords_8 (5 * t) t (pE m t i) i n = _
        have h55 : nk_Layout_putWords_55 (5 * t) t i (m 119 i) x n = some (.inl (pE m t (i + 1), i + 1, n13)) := by
          unfold nk_Layout_putWords_55 st
          dsimp only
          rw [← hn3, n35 5 (by decide), n3K 99 (by decide), n3K 3 (by decide), ← hs, show i * 6 + 5 = 6 * i + 5 by omega, b3'', p1]
          have e135 : n13 5 0 5 = n 5 0 5 := hsn.2.2.2.1 5 (by decide)
          have e99 : n13 99 (n 5 0 5) (6 * i + 2) = m 120 i := by rw [hsn.2.2.2.2.2.1 _ (by omega) (by omega)]; exact b3'
          simp only [Option.bind_some]
          rw [e135, show i * 6 + 2 = 6 * i + 2 by omega, e99]
          have e92 : n13 92 0 (n 5 0 5) = 0 := by rw [(hsn.2.2.2.2.1.2.1 _ hB.2.2.2.1.2.1).1]; exact w1.1
          have e93 : n13 93 0 (n 5 0 5) = n 93 0 (n 5 0 5) := (hsn.2.2.2.2.1.2.1 _ hB.2.2.2.1.2.1).2
          apply eq_of_ev
          refine ev_cz hx01 (ev_nn w5.1 (ev_ck (by omega) (ev_ck (by omega) (ev_dx ⟨by rw [n3K 92 (by decide)]; exact w1.1, by omega, by rw [n3K 93 (by decide)]; omega⟩ (ev_nn w5.1 (ev_ck (by omega) (ev_ck (by omega) (ev_dx ⟨e92, by omega, by rw [e93]; omega⟩ (ev_ck (by omega) (ev_ck (by omega) (ev_ok ?_)))))))))))
          rw [ePi]
        have hnn : ∀ {α : Type} (x : Option α), nn (n 5 0 5) x = x := fun x => if_pos w5.1
        have hdx : ∀ {α : Type} (x : Option α), dx n (n 5 0 5) 0 (i * 6 + 1) x = x := fun x => if_pos ⟨w1.1, by omega, by omega⟩
        unfold nb_Layout_putWords_8 nk_Layout_putWords_50
        rw [a3.1, hf.1, hf.2, ck_e _ (by omega), if_pos hlt, hnn, ck_e _ (by omega), ck_e _ (by omega), hdx, show i * 6 + 1 = 6 * i + 1 by omega, b3]
        by_cases g1 : n 5 0 15 = 0
        · rw [if_pos g1] at hx
          rw [if_pos g1]
          by_cases g2 : pE m t i < m 119 i
          · rw [if_pos g2] at hx
            rw [if_pos g2]; rw [hx] at h55; exact h55
          · rw [if_neg g2] at hx
            rw [if_neg g2]; rw [hx] at h55; exact h55
        · rw [if_neg g1] at hx
          rw [if_neg g1]; rw [hx] at h55; exact h55
      · rw [← r2, ePi]
        rw [y_bls (m := m) a1 a2.2.2 _ (pE m t i) (m 119 i) m (Nat.le_refl _) hpE.1 hpE.2.1 (by omega) (fun _ _ => rfl) b6]
        have em3 : (if pE m t i < m 119 i then yw m 144 0 1 else m) = m3 := by
          rw [hm3]
          by_cases g : pE m t i < m 119 i
          · rw [if_pos g] at hy
            rw [if_pos g, hy]
          · rw [if_neg g] at hy
            rw [if_neg g, hy, ywS]
        rw [em3]
        unfold NL_Y_lineText_23
        refine it_inl ?_
        show nb_Y_lineText_23 t s i (m 119 i) m3 = _
        have e1 : m3 62 = m 62 := m3f 62 (by decide)
        have e2 : m3 61 = m 61 := m3f 61 (by decide)
        unfold nb_Y_lineText_23
        rw [ix_e _ a1, e1, if_pos (by omega), ck_e _ (by omega), ck_e _ (by omega), ix_e _ (by omega), e2, m3f 123 (by decide), p2]
        apply eq_of_ev
        refine y_isBlank (fun h => absurd h (b7 _ (Int.le_refl _) (by omega))) (fun _ => ?_)
        rw [if_pos rfl]
        simp only [Option.bind_some]
        rw [m19f 119 (by decide), m19f 120 (by decide)]
        exact ev_ix (by omega) (ev_ix (by omega) (ev_ix (by omega) (ev_ck (by omega) (ev_ck (by omega) (ev_ok rfl)))))
      · by_cases g : w = i
        · rw [g]
          exact r3.2.2.2.2.2.2.2.2.1 i (by omega) (.inr p12)
        · exact r5 w (by omega) y
      · refine r6 w x (by omega) (hJ.2.2.2.2.1 w x (by omega) (by omega) ?_)
        rw [hm3]; exact h.w44
      · by_cases g : w + 1 = i
        · refine r6 w (by omega) (by omega) (hJ.2.2.2.2.2.1 w (by omega) g.symm ?_)
          rw [hm3]
          have := hl (by omega)
          rw [show i - 1 = w by omega] at this
          exact this.w44
        · exact r7 w x (by omega) z
    · exact ih i n m F (by omega) h1 h2 hs hf hS hB hW hT hq hr hp hl
/-- all words of a TEXT -/
theorem words_both (hS : LSx n m v E wd F) (hB : BI A B n) (hW : WLc n) (hT : TXw n m v t) (hq : ∀ q, 0 ≤ q → q < m 131 0 → m 134 q < m 116 t) (hr : m 131 0 + 200 ≤ 24000) (hp : pot m F + 4200 ≤ 900000) :
    ∃ n' m' F', N_Layout_putWords (5 * t) t n = some n' ∧ N_Y_lineText t m = some m' ∧ LNR A B v E wd 4200 200 n m F n' m' F' ∧ (∀ q, 0 ≤ q → q < m' 131 0 → m' 134 q < m 116 t + n 3 t 19) ∧ (∀ w, m 116 t ≤ w → w < m 116 t + n 3 t 19 → SNw n' m' E w) ∧ (∀ w, 0 ≤ w → w + 1 < m 116 t → QP m w → QP m' w) ∧ (∀ w, m 116 t ≤ w → w + 1 < m 116 t + n 3 t 19 → QP m' w) := by
  have hT0 := hT
  obtain ⟨a1, a2, a3, a4, a5, a6⟩ := hT
  have eP0 : pE m t (m 116 t) = 0 := by unfold pE; rw [if_pos rfl]
  obtain ⟨n1, m1, F1, r1, r2, r3, r4, r5, r6, r7⟩ := words_loop (fw := m 116 t) (c := n 3 t 19) (s := n 3 t 11) (A := A) (B := B) rfl _ (m 116 t) n m F (Nat.le_refl _) (Int.le_refl _) (by omega) rfl ⟨rfl, rfl⟩ hS hB hW hT0 hq (by omega) (by omega) (fun z => by omega)
  rw [eP0] at r1 r2
  generalize hP : pE m t (m 116 t + n 3 t 19) = P at *
  have S1 := r3.1
  obtain ⟨e1, e2, e3⟩ := S1.2.2.2
  obtain ⟨x, hx⟩ : ∃ x, x = (if n1 5 0 15 = 0 then (if P < m 62 t then (1 : Int) else 0) else 1) := ⟨_, rfl⟩
  obtain ⟨y, hy⟩ : ∃ y, y = (if P < m 62 t then (1 : Int) else m1 144 0) := ⟨_, rfl⟩
  have hx01 : x = 0 ∨ x = 1 := by rw [hx]; (repeat' split) <;> omega
  have hy01 : y = 0 ∨ y = 1 := by rw [hy]; split <;> omega
  have R1 : LNR A B v E wd 0 0 n1 m1 F1 (nw n1 5 0 15 x) (yw m1 144 0 y) F1 := LNR.bl S1 r3.2.1 r3.2.2.1 hx01 hy01 (fun z => by
    have := (e2 z).2.2.1
    rw [hx, hy]; (repeat' split) <;> omega)
  have m1f : ∀ f, f ∉ [110, 111, 121, 122, 127, 128, 129, 130, 131, 132, 134, 135, 136, 137, 138, 139, 140, 141, 142, 143, 144] → m1 f = m f := r3.2.2.2.2.1.1
  refine ⟨nw n1 5 0 15 x, yw m1 144 0 y, F1, ?_, ?_, (r3.trans R1).mono (by omega) (by omega), fun q p p' => ?_, fun w p p' => (r5 w p p').bl, fun w p p' h => (r6 w p p' h).w44, fun w p p' => (r7 w p (by omega) p').w44⟩
  · unfold N_Layout_putWords
    rw [a3.1, r1]
    simp only [Option.bind_some, u2]
    have e4 : n1 4 (5 * t) 2 = m 62 t := by rw [r3.2.2.2.1.1 4 (by decide)]; exact a2.1
    rw [e4]
    unfold nk_Layout_putWords_118 nk_Layout_putWords_123 st
    dsimp only
    have hcz : ∀ (a : Int) (x : Option NS), (a = 0 ∨ a = 1) → cz a x = x := fun a x h => if_pos h
    by_cases g1 : n1 5 0 15 = 0
    · rw [if_pos g1] at hx
      rw [if_pos g1]
      by_cases g2 : P < m 62 t
      · rw [if_pos g2] at hx
        rw [if_pos g2, hcz _ _ (.inr rfl), hx]
      · rw [if_neg g2] at hx
        rw [if_neg g2, hcz _ _ (.inl rfl), hx]
    · rw [if_neg g1] at hx
      rw [if_neg g1, hcz _ _ (.inr rfl), hx]
  · unfold N_Y_lineText
    rw [ix_e _ a1, ix_e _ a1, y_of ⟨a4.2.2.2.1, a4.2.2.2.2⟩ (by decide), ← a4.1]
    simp only [Option.bind_some]
    have hmm : ∀ f, f = 62 ∨ f = 61 → m1 f = m f := fun f hf => m1f f (by simp only [List.mem_cons, List.not_mem_nil, or_false, not_or]; omega)
    rw [r2, y_bls (m := m1) a1 (by rw [hmm 62 (.inl rfl)]; exact a2.2.2) _ P (m 62 t) m1 (Nat.le_refl _) a6.1 a6.2.1 (by rw [hmm 62 (.inl rfl)]; exact Int.le_refl _) (fun _ _ => rfl) (fun j x y => by rw [hmm 61 (.inr rfl)]; exact a6.2.2 j x y)]
    have em : (if P < m 62 t then yw m1 144 0 1 else m1) = yw m1 144 0 y := by
      by_cases g : P < m 62 t
      · rw [if_pos g] at hy
        rw [if_pos g, hy]
      · rw [if_neg g] at hy
        rw [if_neg g, hy, ywS]
    rw [em]
    have h2 : NL_Y_lineText_23 t (n 3 t 11) (m 116 t + n 3 t 19) (m 62 t) (yw m1 144 0 y) = some (yw m1 144 0 y) := by
      unfold NL_Y_lineText_23
      refine it_inr ?_
      show nb_Y_lineText_23 t (n 3 t 11) (m 116 t + n 3 t 19) (m 62 t) _ = _
      dsimp only
      unfold nb_Y_lineText_23
      rw [ix_e _ a1, yw_nF (show (62 : Nat) ≠ 144 by decide), hmm 62 (.inl rfl), if_neg (by omega)]
    rw [h2]; rfl
  · rw [yw_nF (by decide)] at p'
    rw [yw_nF (by decide)]
    exact r4 q p p'
end W6
