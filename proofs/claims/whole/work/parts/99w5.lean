/-! THE WORDS of a TEXT come on the line, in both -/
/-- where the word before ends -/
def pE (m : YS) (t i : Int) : Int := if i = m 116 t then 0 else m 119 (i - 1) + m 120 (i - 1)
/-- a word that both know -/
def ITw (n : NS) (m : YS) (v i : Int) : Prop := 0 ≤ i ∧ i < n 5 0 6 ∧ n 99 (n 5 0 5) (6 * i) = m 118 i ∧ (0 ≤ m 118 i ∧ m 118 i < 120) ∧ n 3 (m 118 i) 11 = m 105 (11 * m 49 (m 118 i) + 8) ∧ (1 ≤ n 3 (m 118 i) 11 ∧ n 3 (m 118 i) 11 ≤ 3) ∧ (0 ≤ m 49 (m 118 i) ∧ m 49 (m 118 i) < 120) ∧ n 3 (m 118 i) 1 = v ∧ m 109 (m 118 i) = v
/-- one word, in both -/
def WDi (n : NS) (m : YS) (v t i : Int) : Prop := ITw n m v i ∧ m 118 i = t ∧ (n 99 (n 5 0 5) (6 * i + 1) = m 119 i ∧ n 99 (n 5 0 5) (6 * i + 2) = m 120 i ∧ n 99 (n 5 0 5) (6 * i + 5) = m 123 i) ∧ (0 ≤ m 123 i ∧ m 123 i ≤ 6000 ∧ m 123 i = wdS (fun j => m 61 (400 * t + j)) (m 119 i) (m 120 i).toNat * n 3 t 11) ∧ (0 ≤ pE m t i ∧ pE m t i ≤ m 119 i ∧ 1 ≤ m 120 i ∧ m 119 i + m 120 i ≤ m 62 t) ∧ (∀ j, pE m t i ≤ j → j < m 119 i → isBl (m 61 (400 * t + j))) ∧ (∀ j, m 119 i ≤ j → j < m 119 i + m 120 i → ¬ isBl (m 61 (400 * t + j)))
/-- all words of a TEXT, in both -/
def TXw (n : NS) (m : YS) (v t : Int) : Prop := (0 ≤ t ∧ t < 120) ∧ (n 4 (5 * t) 2 = m 62 t ∧ 0 ≤ m 62 t ∧ m 62 t ≤ 400) ∧ (n 3 t 18 = m 116 t ∧ 0 ≤ m 116 t ∧ 0 ≤ n 3 t 19 ∧ n 3 t 19 ≤ 200 ∧ m 116 t + n 3 t 19 ≤ n 5 0 6) ∧ (n 3 t 11 = m 105 (11 * m 49 t + 8) ∧ 1 ≤ n 3 t 11 ∧ n 3 t 11 ≤ 3 ∧ 0 ≤ m 49 t ∧ m 49 t < 120)
  ∧ (∀ i, m 116 t ≤ i → i < m 116 t + n 3 t 19 → WDi n m v t i) ∧ (0 ≤ pE m t (m 116 t + n 3 t 19) ∧ pE m t (m 116 t + n 3 t 19) ≤ m 62 t ∧ ∀ j, pE m t (m 116 t + n 3 t 19) ≤ j → j < m 62 t → isBl (m 61 (400 * t + j)))
section W5
variable {n n' n'' : NS} {m m' m'' : YS} {A B a b c x y q s E F v wd u w t sh Y H I l gap at' it' k i : Int}
theorem LSx.bl (h : LSx n m v E wd F) (hx : x = 0 ∨ x = 1) (hy : y = 0 ∨ y = 1) (hxy : 0 < m 131 0 → x = y) : LSx (nw n 5 0 15 x) (yw m 144 0 y) v E wd F := by
  obtain ⟨⟨l1, l2, l3, l4, l5⟩, ⟨i1, i2, i3, i4⟩, ⟨t1, t2, t3⟩, e1, e2, e3⟩ := h
  have mf : ∀ f, f ≠ 144 → yw m 144 0 y f = m f := fun f hf => yw_nF hf
  have nK : ∀ K, K ≠ 5 → nw n 5 0 15 x K = n K := fun K hK => nw_nK hK
  have n5 : ∀ s, s ≠ 15 → nw n 5 0 15 x 5 0 s = n 5 0 s := fun s hs => nw_ns hs
  have kc : ∀ a, ITk n m v a → ITk (nw n 5 0 15 x) (yw m 144 0 y) v a := fun a h => h.cg (fun a s _ _ => by rw [nK 3 (by decide)]) (n5 6 (by decide)) (n5 5 (by decide)) (fun i => by rw [nK 99 (by decide)]) (fun f hf => mf f (by omega))
  have qf := fun z => flR_m (m := m) (m' := yw m 144 0 y) (y := z) (F := F) (fun f hf => mf f (by omega))
  refine ⟨LFl.cy (m := m) ⟨l1.cg (n5 8 (by decide)) (fun a s _ _ => by rw [nK 3 (by decide)]) rfl rfl, by rw [n5 17 (by decide)]; exact l2, l3.cg (fun f _ _ => by rw [nK 43 (by decide)]) (fun f _ _ => by rw [nK 3 (by decide)]) (fun _ _ _ => ⟨rfl, rfl, rfl, rfl, rfl⟩), by rw [n5 19 (by decide)]; exact l4, by rw [n5 11 (by decide)]; exact l5⟩ (fun f hf => mf f (by omega)), ⟨by rw [n5 10 (by decide), n5 9 (by decide), nK 93 (by decide), mf 131 (by decide)]; exact i1, fun i p q => ?_, fun i j p q r => ?_, ?_⟩, ⟨by rw [n5 18 (by decide), mf 143 (by decide)]; exact t1, fun i p q => ?_, fun i j p q r => ?_⟩, ⟨by rw [yw_eq]; exact hy, by rw [nw_eq]; exact hx⟩, fun z => ?_, fun z => ?_⟩
  · rw [mf 131 (by decide)] at q
    obtain ⟨j1, j2, j3, j4⟩ := i2 i p q
    rw [n5 9 (by decide), nK 99 (by decide), mf 134 (by decide), mf 135 (by decide)]
    refine ⟨j1, kc _ j2, ?_, j4⟩
    unfold ixX at *
    rw [nK 3 (by decide), nK 99 (by decide), n5 5 (by decide)]; exact j3
  · rw [mf 131 (by decide)] at r
    rw [mf 134 (by decide)]; exact i3 i j p q r
  · rw [mf 132 (by decide), mf 131 (by decide), i4, mxH_cg (m := m) (m' := yw m 144 0 y) (I := m 131 0) (fun i _ _ => by rw [mf 134 (by decide)]) (fun i _ _ => iH_cg (fun f hf => mf f (by omega))) _ (by have := i1.2.1; omega)]
  · rw [mf 143 (by decide)] at q
    have h := t2 i p q
    rw [nK 43 (by decide), mf 142 (by decide)]
    exact ⟨h.1, h.2.cg (fun a s _ _ => by rw [nK 3 (by decide)]) (fun f hf => mf f (by omega))⟩
  · rw [mf 143 (by decide)] at r
    rw [nK 43 (by decide)]; exact t3 i j p q r
  · rw [mf 131 (by decide)] at z
    obtain ⟨g1, g2, g3, g4⟩ := e2 z
    rw [n5 12 (by decide), n5 13 (by decide), nw_eq, yw_eq, mf 130 (by decide), mf 129 (by decide)]
    exact ⟨g1, g2, hxy z, g4⟩
  · rw [mf 131 (by decide)] at z
    obtain ⟨g1, g2, g3, g4⟩ := e3 z
    rw [n5 12 (by decide), n5 13 (by decide), n5 14 (by decide), mf 143 (by decide), mf 127 (by decide), (qf _).1, (qf _).2.1, (qf _).2.2.1]
    exact ⟨g1, g2, g3, g4⟩
theorem bl_cn : FVn v n (nw n 5 0 15 x) := ⟨fun K _ h _ => nw_nK h, fun a s _ _ => by rw [nw_nK (by decide)], fun a _ _ => by rw [nw_nK (by decide)], fun s h => nw_ns (by omega), fun q _ => by rw [nw_nK (by decide)], fun j _ _ => by rw [nw_nK (by decide)], fun i _ _ => by rw [nw_nK (by decide)]; exact ⟨rfl, rfl⟩⟩
theorem bl_fy : FY [127, 128, 129, 130, 144] m (yw m 144 0 y) := fun f hf => by
  simp only [List.mem_cons, List.not_mem_nil, or_false, not_or] at hf
  exact yw_nF (by omega)
theorem SNb.bl (h : SNb n m E a) : SNb (nw n 5 0 15 x) (yw m 144 0 y) E a := by
  unfold SNb DNb at *
  rw [nw_nK (show (3 : Nat) ≠ 5 by decide), yw_nF (show (110 : Nat) ≠ 144 by decide), yw_nF (show (111 : Nat) ≠ 144 by decide), yw_nF (show (131 : Nat) ≠ 144 by decide), yw_nF (show (134 : Nat) ≠ 144 by decide), yw_nF (show (142 : Nat) ≠ 144 by decide), yw_nF (show (143 : Nat) ≠ 144 by decide)]; exact h
theorem SNw.bl (h : SNw n m E a) : SNw (nw n 5 0 15 x) (yw m 144 0 y) E a := by
  unfold SNw DNw at *
  rw [nw_nK (show (99 : Nat) ≠ 5 by decide), nw_ns (show (5 : Int) ≠ 15 by decide), yw_nF (show (121 : Nat) ≠ 144 by decide), yw_nF (show (122 : Nat) ≠ 144 by decide), yw_nF (show (131 : Nat) ≠ 144 by decide), yw_nF (show (134 : Nat) ≠ 144 by decide)]; exact h
theorem ITw.cg (h : ITw n m v a) (h3 : ∀ a, n' 3 a 11 = n 3 a 11 ∧ n' 3 a 1 = n 3 a 1) (h6 : n' 5 0 6 = n 5 0 6) (h5 : n' 5 0 5 = n 5 0 5) (h99 : ∀ i, n' 99 (n 5 0 5) (6 * i) = n 99 (n 5 0 5) (6 * i)) (hm : ∀ f, f = 109 ∨ f = 118 ∨ f = 105 ∨ f = 49 → m' f = m f) : ITw n' m' v a := by
  unfold ITw at *
  rw [hm 109 (by omega), h6, h5, h99, hm 118 (by omega), (h3 _).1, (h3 _).2, hm 105 (by omega), hm 49 (by omega)]
  exact h
theorem TXw.cg (h : TXw n m v t) (h3 : ∀ a, n' 3 a 1 = n 3 a 1 ∧ n' 3 a 11 = n 3 a 11 ∧ n' 3 a 18 = n 3 a 18 ∧ n' 3 a 19 = n 3 a 19) (h4 : n' 4 = n 4) (e5 : n' 5 0 5 = n 5 0 5) (e6 : n' 5 0 6 = n 5 0 6) (w6 : ∀ j, j % 6 ≠ 3 → j % 6 ≠ 4 → n' 99 (n 5 0 5) j = n 99 (n 5 0 5) j) (hf : ∀ f, f ∈ [49, 61, 62, 105, 109, 116, 118, 119, 120, 123] → m' f = m f) : TXw n' m' v t := by
  obtain ⟨a1, a2, a3, a4, a5, a6⟩ := h
  have eP : ∀ i, pE m' t i = pE m t i := fun i => by unfold pE; rw [hf 116 (by decide), hf 119 (by decide), hf 120 (by decide)]
  refine ⟨a1, by rw [h4, hf 62 (by decide)]; exact a2, by rw [(h3 t).2.2.1, (h3 t).2.2.2, hf 116 (by decide), e6]; exact a3, by rw [(h3 t).2.1, hf 105 (by decide), hf 49 (by decide)]; exact a4, fun i x y => ?_, ?_⟩
  · rw [hf 116 (by decide)] at x y
    rw [(h3 t).2.2.2] at y
    obtain ⟨b1, b2, b3, b4, b5, b6, b7⟩ := a5 i x y
    refine ⟨b1.cg (fun a => ⟨(h3 a).2.1, (h3 a).1⟩) e6 e5 (fun i => w6 _ (by omega) (by omega)) (fun f hf' => hf f (by simp only [List.mem_cons, List.not_mem_nil, or_false]; omega)), by rw [hf 118 (by decide)]; exact b2, by rw [e5, w6 _ (by omega) (by omega), w6 _ (by omega) (by omega), w6 _ (by omega) (by omega), hf 119 (by decide), hf 120 (by decide), hf 123 (by decide)]; exact b3, by rw [hf 123 (by decide), hf 61 (by decide), hf 119 (by decide), hf 120 (by decide), (h3 t).2.1]; exact b4, by rw [eP, hf 119 (by decide), hf 120 (by decide), hf 62 (by decide)]; exact b5, fun j p q => ?_, fun j p q => ?_⟩
    · rw [eP] at p
      rw [hf 119 (by decide)] at q
      rw [hf 61 (by decide)]; exact b6 j p q
    · rw [hf 119 (by decide)] at p
      rw [hf 119 (by decide), hf 120 (by decide)] at q
      rw [hf 61 (by decide)]; exact b7 j p q
  · rw [eP, hf 116 (by decide), (h3 t).2.2.2, hf 62 (by decide), hf 61 (by decide)]; exact a6
theorem TXw.rl {v' : Int} (h : TXw n m v t) (hn : FRl v' n n') (hm : FVy v' m m') : TXw n' m' v t := h.cg (fun a => ⟨hn.2.1 a 1 (by decide) (by decide), hn.2.1 a 11 (by decide) (by decide), hn.2.1 a 18 (by decide) (by decide), hn.2.1 a 19 (by decide) (by decide)⟩) (hn.1 4 (by decide)) (hn.2.2.2.1 5 (by decide)) (hn.2.2.2.1 6 (by decide)) hn.2.2.2.2.2.1 (fun f hf => hm.1 f (by simp only [List.mem_cons, List.not_mem_nil, or_false, not_or] at hf ⊢; omega))
/-- the reference goes over blanks -/
theorem y_bls (ht : 0 ≤ t ∧ t < 120) (hL : m 62 t ≤ 400) : ∀ (z : Nat) (k to : Int) (m1 : YS), (to - k).toNat ≤ z → 0 ≤ k → k ≤ to → to ≤ m 62 t → (∀ f, f ≠ 144 → m1 f = m f) → (∀ j, k ≤ j → j < to → isBl (m 61 (400 * t + j))) → NL_Y_lineText_23 t s i k m1 = NL_Y_lineText_23 t s i to (if k < to then yw m1 144 0 1 else m1) := by
  intro z
  induction z with
  | zero =>
    intro k to m1 hz k0 k1 k2 hm hb
    rw [if_neg (by omega), show k = to by omega]
  | succ z ih =>
    intro k to m1 hz k0 k1 k2 hm hb
    by_cases hlt : k < to
    · have h1 : nb_Y_lineText_23 t s i k m1 = some (.inl (i, k + 1, yw m1 144 0 1)) := by
        unfold nb_Y_lineText_23 st
        dsimp only
        rw [ix_e _ ht, hm 62 (by decide), if_pos (by omega), ck_e _ (by omega), ck_e _ (by omega), ix_e _ (by omega), hm 61 (by decide)]
        have hbl := hb k (Int.le_refl _) hlt
        apply eq_of_ev
        refine y_isBlank (fun _ => ?_) (fun h => absurd hbl h)
        rw [if_neg (by decide)]
        exact ev_ck (by omega) (ev_ok rfl)
      have h2 : NL_Y_lineText_23 t s i k m1 = NL_Y_lineText_23 t s i (k + 1) (yw m1 144 0 1) := by
        unfold NL_Y_lineText_23
        exact it_inl (f := fun s' : Int × Int × YS => nb_Y_lineText_23 t s s'.1 s'.2.1 s'.2.2) (s := (i, k, m1)) h1
      rw [h2, ih (k + 1) to (yw m1 144 0 1) (by omega) (by omega) (by omega) k2 (fun f hf => by rw [yw_nF hf]; exact hm f hf) (fun j x y => hb j (by omega) y), if_pos hlt]
      by_cases y : k + 1 < to
      · rw [if_pos y]
        congr 1
        funext f j
        rw [yw_app, yw_app]
        split <;> rfl
      · rw [if_neg y]
    · rw [if_neg hlt, show k = to by omega]
end W5
