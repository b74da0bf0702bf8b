/-! A LINE is closed, in both -/
/-- a FLOAT that both know -/
def FLb (n : NS) (m : YS) (v u : Int) : Prop := (0 ≤ u ∧ u < 120) ∧ (n 3 u 6 = m 105 (11 * u + 3) ∧ 0 ≤ n 3 u 6 ∧ n 3 u 6 ≤ 20) ∧ (n 3 u 4 = m 112 u ∧ 0 ≤ n 3 u 4 ∧ n 3 u 4 ≤ 1300000) ∧ (n 3 u 5 = m 113 u ∧ 0 ≤ n 3 u 5) ∧ (n 3 u 13 = m 105 (11 * u + 10) ∧ (n 3 u 13 = 1 ∨ n 3 u 13 = 2)) ∧ n 3 u 1 = v ∧ m 109 u = v ∧ n 3 u 0 = 1
def wC (m : YS) (i : Int) : Int := m 113 (m 142 i) + 2 * m 105 (11 * m 142 i + 3)
/-- the FLOATS that are put, and where the line is -/
def LFl (n : NS) (m : YS) (v E wd F : Int) : Prop := BK n m v E wd ∧ (n 5 0 17 = F ∧ m 136 0 = F ∧ 0 ≤ F) ∧ FTb n m E F ∧ n 5 0 19 = mxE m F.toNat + E ∧ (n 5 0 11 = m 127 0 + E ∧ 0 ≤ m 127 0)
/-- those that wait -/
def LWt (n : NS) (m : YS) (v F : Int) : Prop := (n 5 0 18 = F + m 143 0 ∧ 0 ≤ m 143 0 ∧ F + m 143 0 ≤ 119) ∧ (∀ i, 0 ≤ i → i < m 143 0 → n 43 0 (F + i) = m 142 i ∧ FLb n m v (m 142 i)) ∧ (∀ i j, 0 ≤ i → i < j → j < F + m 143 0 → n 43 0 i ≠ n 43 0 j)
def LEd (n : NS) (m : YS) (E F : Int) : Prop := ((m 144 0 = 0 ∨ m 144 0 = 1) ∧ (n 5 0 15 = 0 ∨ n 5 0 15 = 1)) ∧ (0 < m 131 0 → n 5 0 12 = m 130 0 + E ∧ n 5 0 13 = m 129 0 + E ∧ n 5 0 15 = m 144 0 ∧ (0 ≤ m 130 0 ∧ m 130 0 ≤ 4000000) ∧ (-2000000 ≤ m 129 0 ∧ m 129 0 ≤ 1300000)) ∧ (m 131 0 = 0 → m 143 0 = 0 ∧ n 5 0 12 = leR m (m 127 0) F.toNat + E ∧ n 5 0 13 = riR m (m 127 0) F.toNat + E ∧ n 5 0 14 = nX E (neR m (m 127 0) F.toNat))
/-- a line is being laid -/
def LSx (n : NS) (m : YS) (v E wd F : Int) : Prop := LFl n m v E wd F ∧ LIt n m v E ∧ LWt n m v F ∧ LEd n m E F
def pot (m : YS) (F : Int) : Int := max (m 127 0) (mxE m F.toNat) + m 132 0 + zsm (wC m) 0 (m 143 0)
def SNb (n : NS) (m : YS) (E a : Int) : Prop := DNb n m E a ∨ (∃ i, 0 ≤ i ∧ i < m 131 0 ∧ m 134 i = -1 - a) ∨ (∃ i, 0 ≤ i ∧ i < m 143 0 ∧ m 142 i = a)
def SNw (n : NS) (m : YS) (E w : Int) : Prop := DNw n m E w ∨ (∃ i, 0 ≤ i ∧ i < m 131 0 ∧ m 134 i = w)
def FWn (S : Int → Prop) (n n' : NS) : Prop := (∀ K, K ≠ 3 → K ≠ 5 → n' K = n K) ∧ (∀ a s, s ≠ 2 → s ≠ 3 → n' 3 a s = n 3 a s) ∧ (∀ a, ¬ S a → n' 3 a = n 3 a) ∧ ∀ s, s ≠ 12 → s ≠ 13 → s ≠ 14 → s ≠ 17 → s ≠ 19 → n' 5 0 s = n 5 0 s
def FWy (S : Int → Prop) (m m' : YS) : Prop := FY [110, 111, 128, 129, 136, 137, 138, 139, 140, 141] m m' ∧ ∀ a, ¬ S a → m' 110 a = m 110 a ∧ m' 111 a = m 111 a
section V9
variable {n n' : NS} {m m' : YS} {a b c y q s E F v wd u w t sh Y H I : Int}
theorem FLb.cg (h : FLb n m v u) (h3 : ∀ a s, s ≠ 2 → s ≠ 3 → n' 3 a s = n 3 a s) (hm : ∀ f, f = 105 ∨ f = 112 ∨ f = 113 ∨ f = 109 → m' f = m f) : FLb n' m' v u := by
  unfold FLb at *
  rw [h3 _ 6 (by decide) (by decide), h3 _ 4 (by decide) (by decide), h3 _ 5 (by decide) (by decide), h3 _ 13 (by decide) (by decide), h3 _ 1 (by decide) (by decide), h3 _ 0 (by decide) (by decide), hm 105 (by omega), hm 112 (by omega), hm 113 (by omega), hm 109 (by omega)]
  exact h
theorem BK.cg (h : BK n m v E wd) (h5 : n' 5 0 8 = n 5 0 8) (h3 : ∀ a s, s ≠ 2 → s ≠ 3 → n' 3 a s = n 3 a s) (h145 : m' 145 = m 145) (h133 : m' 133 = m 133) : BK n' m' v E wd := by
  unfold BK at *
  rw [h5, h3 _ 8 (by decide) (by decide), h3 _ 4 (by decide) (by decide), h3 _ 12 (by decide) (by decide), h145, h133]
  exact h
theorem FTb.cg (h : FTb n m E F) (h43 : ∀ f, 0 ≤ f → f < F → n' 43 0 f = n 43 0 f) (h3 : ∀ f, 0 ≤ f → f < F → n' 3 (n 43 0 f) = n 3 (n 43 0 f)) (hm : TBs m m' F) : FTb n' m' E F := fun f f0 f1 => by
  rw [h43 f f0 f1, h3 f f0 f1]
  have t := hm f f0 f1
  rw [t.1, t.2.1, t.2.2.1, t.2.2.2.1, t.2.2.2.2]
  exact h f f0 f1
theorem FLb.wC (h : FLb n m v u) : 0 ≤ m 113 u + 2 * m 105 (11 * u + 3) ∧ m 113 u + 2 * m 105 (11 * u + 3) = n 3 u 5 + 2 * n 3 u 6 := by
  obtain ⟨_, h2, _, h4, _⟩ := h
  omega
/-- the FLOATS that wait are put -/
theorem wait_loop {Wt : Int} : ∀ (z : Nat) (k F : Int) (n : NS) (m : YS), (Wt - k).toNat ≤ z → (0 ≤ k ∧ k ≤ Wt) → LFl n m v E wd F → (n 5 0 18 = F + (Wt - k) ∧ m 143 0 = Wt ∧ F + (Wt - k) ≤ 119 ∧ Wt ≤ 119) → (∀ i, k ≤ i → i < Wt → n 43 0 (F + (i - k)) = m 142 i ∧ FLb n m v (m 142 i)) → (∀ i j, 0 ≤ i → i < j → j < F + (Wt - k) → n 43 0 i ≠ n 43 0 j) → max (m 127 0) (mxE m F.toNat) + zsm (wC m) k Wt ≤ 1000000 →
    ∃ n' m', NL_Layout_closeLine_247 n = some n' ∧ NL_Y_endLine_173 k m = some m' ∧ LFl n' m' v E wd (F + (Wt - k)) ∧ FWn (fun a => ∃ i, k ≤ i ∧ i < Wt ∧ m 142 i = a) n n' ∧ FWy (fun a => ∃ i, k ≤ i ∧ i < Wt ∧ m 142 i = a) m m' ∧ (∀ i, k ≤ i → i < Wt → DNb n' m' E (m 142 i)) ∧ max (m' 127 0) (mxE m' (F + (Wt - k)).toNat) ≤ max (m 127 0) (mxE m F.toNat) + zsm (wC m) k Wt := by
  intro z
  induction z with
  | zero =>
    intro k F n m hz hk hL h18 hi hd hp
    have eF : F + (Wt - k) = F := by omega
    refine ⟨n, m, ?_, ?_, by rw [eF]; exact hL, ⟨fun _ _ _ => rfl, fun _ _ _ _ => rfl, fun _ _ => rfl, fun _ _ _ _ _ _ => rfl⟩, ⟨FY.refl _ _, fun _ _ => ⟨rfl, rfl⟩⟩, fun i x y => by omega, ?_⟩
    · unfold NL_Layout_closeLine_247
      refine it_inr ?_
      show nb_Layout_closeLine_247 n = _
      unfold nb_Layout_closeLine_247
      rw [h18.1, hL.2.1.1, if_neg (by omega)]
    · unfold NL_Y_endLine_173
      refine it_inr ?_
      show nb_Y_endLine_173 k m = _
      unfold nb_Y_endLine_173
      rw [h18.2.1, if_neg (by omega)]
    · rw [eF, zsm_nil (by omega)]; omega
  | succ z ih =>
    intro k F n m hz hk hL h18 hi hd hp
    by_cases hlt : k < Wt
    · obtain ⟨l1, ⟨l2, l3, l4⟩, l5, l6, l7, l8⟩ := hL
      obtain ⟨u1, u2⟩ := hi k (Int.le_refl _) hlt
      rw [show F + (k - k) = F by omega] at u1
      have hwc := u2.wC
      have hpos : ∀ i, k + 1 ≤ i → i < Wt → 0 ≤ wC m i := fun i x y => (hi i (by omega) y).2.wC.1
      have hsum : zsm (wC m) k Wt = wC m k + zsm (wC m) (k + 1) Wt := by
        rw [zsm_add (a := k) (b := k + 1) (c := Wt) (by omega) (by omega), zsm_succ (Int.le_refl k), zsm_nil (Int.le_refl k)]; omega
      have hge := zsm_ge0 hpos (show k + 1 ≤ Wt by omega)
      have ewc : wC m k = n 3 (m 142 k) 5 + 2 * n 3 (m 142 k) 6 := hwc.2
      obtain ⟨q1, q2, q3, q4, q5, q6, q7, q8⟩ := u2
      obtain ⟨n1, m1, r1, r2, ⟨r3, r4, r5⟩, ⟨r6, r7, r8⟩, r9, r10, r11, r12, r13, r14, r15⟩ := putFloat_both (u := m 142 k) l1 l2 l3 ⟨l4, by omega⟩ l5 l6 l7 l8 q1 q8 u1 (fun f x y => by rw [← u1]; exact hd f F x y (by omega)) q2.1 q2.2 q3.1 q3.2 q4.1 q4.2 q5.1 q5.2 (by omega)
      have r4' : ∀ a s, s ≠ 2 → s ≠ 3 → n1 3 a s = n 3 a s := fun a s x y => r4 a s (by omega)
      have e142 : m1 142 = m 142 := r6 142 (by decide)
      obtain ⟨n2, hn2⟩ : ∃ n2, n2 = nw n1 5 0 17 (F + 1) := ⟨_, rfl⟩
      have n2K : ∀ K, K ≠ 5 → n2 K = n1 K := fun K x => by rw [hn2, nw_nK x]
      have n25 : ∀ s, s ≠ 17 → n2 5 0 s = n1 5 0 s := fun s x => by rw [hn2, nw_ns x]
      have n2x : ∀ a s, s ≠ 2 → s ≠ 3 → n2 3 a s = n 3 a s := fun a s x y => by rw [n2K 3 (by decide)]; exact r4' a s x y
      have L2 : LFl n2 m1 v E wd (F + 1) := by
        refine ⟨l1.cg (by rw [n25 8 (by decide)]; exact r5 8 (by decide) (by decide) (by decide) (by decide)) n2x (r6 145 (by decide)) (r6 133 (by decide)), ⟨by rw [hn2, nw_eq], r9, by omega⟩, ?_, by rw [n25 19 (by decide)]; exact r11, by rw [n25 11 (by decide), r5 11 (by decide) (by decide) (by decide) (by decide), r6 127 (by decide)]; exact l7, by rw [r6 127 (by decide)]; exact l8⟩
        unfold FTb
        rw [n2K 3 (by decide), n2K 43 (by decide)]; exact r10
      have e127 : m1 127 = m 127 := r6 127 (by decide)
      have ewcs : ∀ i, wC m1 i = wC m i := fun i => by unfold wC; rw [e142, r6 113 (by decide), r6 105 (by decide)]
      have ezs : zsm (wC m1) (k + 1) Wt = zsm (wC m) (k + 1) Wt := zsm_cg (fun j _ _ => ewcs j)
      obtain ⟨n', m', s1, s2, s3, s4, s5, s6, s7⟩ := ih (k + 1) (F + 1) n2 m1 (by omega) (by omega) L2 ⟨by rw [n25 18 (by decide), r5 18 (by decide) (by decide) (by decide) (by decide), h18.1]; omega, by rw [r6 143 (by decide)]; exact h18.2.1, by omega, h18.2.2.2⟩ (fun i x y => by
        have h := hi i (by omega) y
        rw [n2K 43 (by decide), r3 43 (by decide) (by decide), e142, show F + 1 + (i - (k + 1)) = F + (i - k) by omega]
        exact ⟨h.1, h.2.cg n2x (fun f hf => r6 f (by simp only [List.mem_cons, List.not_mem_nil, or_false, not_or]; omega))⟩) (fun i j x y w => by
        rw [n2K 43 (by decide), r3 43 (by decide) (by decide)]; exact hd i j x y (by omega)) (by rw [e127, ezs]; omega)
      rw [show F + 1 + (Wt - (k + 1)) = F + (Wt - k) by omega] at s3 s7
      rw [e142] at s4 s5 s6
      refine ⟨n', m', ?_, ?_, s3, ⟨fun K x y => ?_, fun a s x y => ?_, fun a ha => ?_, fun s x y w p p' => ?_⟩, ⟨fun f hf => ?_, fun a ha => ?_⟩, fun i x y => ?_, ?_⟩
      · rw [← s1]
        unfold NL_Layout_closeLine_247
        refine it_inl ?_
        show nb_Layout_closeLine_247 n = _
        unfold nb_Layout_closeLine_247
        rw [h18.1, l2, if_pos (by omega), u1, ix_e _ (by omega), ix_e _ q1, r1]
        simp only [Option.bind_some]
        rw [r5 17 (by decide) (by decide) (by decide) (by decide), l2, ck_e _ (by omega), hn2]; rfl
      · rw [← s2]
        unfold NL_Y_endLine_173
        refine it_inl ?_
        show nb_Y_endLine_173 k m = _
        unfold nb_Y_endLine_173
        rw [h18.2.1, if_pos hlt, ix_e _ (by omega), r2]
        simp only [Option.bind_some]
        rw [ck_e _ (by omega)]
      · rw [s4.1 K x y, n2K K y, r3 K x y]
      · rw [s4.2.1 a s x y, n2x a s x y]
      · rw [s4.2.2.1 a (fun ⟨i, x, y, w⟩ => ha ⟨i, by omega, y, w⟩), n2K 3 (by decide)]
        funext s
        exact r4 a s (fun x => ha ⟨k, Int.le_refl _, hlt, x.1.symm⟩)
      · rw [s4.2.2.2 s x y w p p', n25 s p, r5 s x y w p']
      · rw [s5.1 f hf, r6 f hf]
      · have q := s5.2 a (fun ⟨i, x, y, w⟩ => ha ⟨i, by omega, y, w⟩)
        have q' := r7 a (fun x => ha ⟨k, Int.le_refl _, hlt, x.symm⟩)
        rw [q.1, q.2]; exact q'
      · by_cases x' : i = k
        · rw [x']
          by_cases w : ∃ j, k + 1 ≤ j ∧ j < Wt ∧ m 142 j = m 142 k
          · obtain ⟨j, j1, j2, j3⟩ := w
            rw [← j3]; exact s6 j j1 j2
          · have g1 := s4.2.2.1 (m 142 k) w
            have g2 := s5.2 (m 142 k) w
            unfold DNb
            rw [g1, g2.1, g2.2, n2K 3 (by decide)]
            exact ⟨r13, by omega, r15⟩
        · exact s6 i (by omega) y
      · rw [e127, ezs] at s7
        omega
    · exact ih k F n m (by omega) hk hL h18 hi hd hp
end V9
