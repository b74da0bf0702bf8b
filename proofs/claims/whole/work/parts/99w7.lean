/-! ONE NODE comes into the lines of its block, in both -/
def FRs (v : Int) (n n' : NS) : Prop := (∀ K, K ∉ [3, 5, 43, 90, 91, 92, 93, 99] → n' K = n K) ∧ (∀ a s, s ≠ 2 → s ≠ 3 → n' 3 a s = n 3 a s) ∧ (∀ a, 0 ≤ a → (n 3 a 1 ≠ v ∨ n 3 a 0 = 3) → n' 3 a = n 3 a) ∧ (∀ s, s < 9 → n' 5 0 s = n 5 0 s)
  ∧ (n 90 0 0 ≤ n' 90 0 0 ∧ (∀ q, q < n 90 0 0 → n' 92 0 q = n 92 0 q ∧ n' 93 0 q = n 93 0 q) ∧ (∀ q, q < n 90 0 0 → q ≠ n 5 0 5 → q ≠ n 5 0 9 → n' 99 q = n 99 q) ∧ (n' 5 0 9 = n 5 0 9 ∨ n 90 0 0 ≤ n' 5 0 9))
  ∧ (∀ j, j % 6 ≠ 3 → j % 6 ≠ 4 → n' 99 (n 5 0 5) j = n 99 (n 5 0 5) j)
  ∧ (∀ i, 0 ≤ i → n 3 (n 99 (n 5 0 5) (6 * i)) 1 ≠ v → n' 99 (n 5 0 5) (6 * i + 3) = n 99 (n 5 0 5) (6 * i + 3) ∧ n' 99 (n 5 0 5) (6 * i + 4) = n 99 (n 5 0 5) (6 * i + 4))
/-- what is known of a node that is laid in the lines of v -/
def NFx (n : NS) (m : YS) (v u : Int) : Prop := ((0 ≤ u ∧ u < 120) ∧ n 7 u 0 = m 46 u ∧ n 3 u 1 = v ∧ m 109 u = v) ∧
  ((n 3 u 0 = 2 ∧ m 107 u = 4 ∧ (12 ≤ m 46 u ∧ m 46 u ≤ 14) ∧ (n 3 u 4 = m 112 u ∧ 0 ≤ n 3 u 4 ∧ n 3 u 4 ≤ 1300000) ∧ (n 3 u 5 = m 113 u ∧ 0 ≤ n 3 u 5 ∧ n 3 u 5 ≤ 200) ∧ (n 3 u 11 = m 105 (11 * u + 8) ∧ 1 ≤ n 3 u 11 ∧ n 3 u 11 ≤ 3))
  ∨ (n 3 u 0 = 3 ∧ m 107 u = 5 ∧ m 46 u = 10 ∧ (n 3 u 11 = m 105 (11 * u + 8) ∧ 1 ≤ n 3 u 11 ∧ n 3 u 11 ≤ 3))
  ∨ (n 3 u 0 = 3 ∧ m 107 u = 6 ∧ m 46 u = 17 ∧ TXw n m v u)
  ∨ (n 3 u 0 = 3 ∧ m 107 u = 3 ∧ m 46 u ≠ 17 ∧ m 46 u ≠ 10)
  ∨ (n 3 u 0 = 1 ∧ (m 107 u = 1 ∨ m 107 u = 2) ∧ m 46 u ≠ 17 ∧ m 46 u ≠ 10 ∧ FLb n m v u))
def cst (n : NS) (u : Int) : Int := if n 3 u 0 = 1 then n 3 u 5 + 2 * n 3 u 6 else 4200
def STQ (A B v E wd u wb C : Int) (n : NS) (m : YS) (F : Int) (n' : NS) (m' : YS) (F' : Int) : Prop := LSx n' m' v E wd F' ∧ BI A B n' ∧ WLc n' ∧ FRs v n n' ∧ FVy v m m' ∧ pot m' F' ≤ pot m F + C ∧ m 127 0 ≤ m' 127 0
      ∧ (∀ a, 0 ≤ a → SNb n m E a → SNb n' m' E a) ∧ (∀ w', 0 ≤ w' → SNw n m E w' → SNw n' m' E w') ∧ m' 131 0 ≤ m 131 0 + 200 ∧ F' + m' 143 0 ≤ F + m 143 0 + 1
      ∧ (∀ q, 0 ≤ q → q < m' 131 0 → m' 134 q < 0 → m' 134 q = -1 - u ∨ ∃ q', 0 ≤ q' ∧ q' < m 131 0 ∧ m 134 q' = m' 134 q) ∧ (∀ q, 0 ≤ q → q < m' 131 0 → m' 134 q < wb)
      ∧ (∀ f, 0 ≤ f → f < F' + m' 143 0 → n' 43 0 f = u ∨ ∃ f', 0 ≤ f' ∧ f' < F + m 143 0 ∧ n 43 0 f' = n' 43 0 f)
      ∧ ((n 3 u 0 = 1 ∨ n 3 u 0 = 2) → SNb n' m' E u) ∧ (m 107 u = 6 → ∀ w, m 116 u ≤ w → w < m 116 u + n 3 u 19 → SNw n' m' E w)
section W7
variable {n n' n'' : NS} {m m' m'' : YS} {A B a b c x y q s E F F' F'' v wd u w t sh Y H I l gap at' it' k i C C' Q Q' fw wb thing : Int}
theorem FRl.rs (h : FRl v n n') : FRs v n n' := ⟨fun K hK => h.1 K (by simp only [List.mem_cons, List.not_mem_nil, or_false, not_or] at hK ⊢; omega), h.2⟩
theorem FRs.refl : FRs v n n := FRl.refl.rs
theorem FRs.trans (h : FRs v n n') (h' : FRs v n' n'') : FRs v n n'' := by
  obtain ⟨a1, a2, a3, a4, ⟨a5, a6, a7, a8⟩, a9, a10⟩ := h
  obtain ⟨b1, b2, b3, b4, ⟨b5, b6, b7, b8⟩, b9, b10⟩ := h'
  have e5 : n' 5 0 5 = n 5 0 5 := a4 5 (by decide)
  refine ⟨fun K x => (b1 K x).trans (a1 K x), fun a s x y => (b2 a s x y).trans (a2 a s x y), fun a x y => (b3 a x (by rw [a2 a 1 (by decide) (by decide), a2 a 0 (by decide) (by decide)]; exact y)).trans (a3 a x y), fun s x => (b4 s x).trans (a4 s x), ⟨by omega, fun q x => ?_, fun q x y z => ?_, by omega⟩, fun j x y => ?_, fun i x y => ?_⟩
  · have g1 := a6 q x
    have g2 := b6 q (by omega)
    exact ⟨g2.1.trans g1.1, g2.2.trans g1.2⟩
  · rw [b7 q (by omega) (by rw [e5]; exact y) (by omega), a7 q x y z]
  · rw [← e5, b9 j x y, e5, a9 j x y]
  · have g1 := a10 i x y
    have g2 := b10 i x (by rw [e5, a9 _ (by omega) (by omega), a2 _ 1 (by decide) (by decide)]; exact y)
    rw [e5] at g2
    exact ⟨g2.1.trans g1.1, g2.2.trans g1.2⟩
theorem y_isBox (hu : 0 ≤ u ∧ u < 120) : N_Y_isBox u m = some (if m 107 u = 1 ∨ m 107 u = 2 then 1 else 0) := by
  unfold N_Y_isBox
  rw [ix_e _ hu, ix_e _ hu]
  by_cases z : m 107 u = 1
  · rw [if_pos z, if_pos (.inl z)]
  · rw [if_neg z]
    by_cases y : m 107 u = 2
    · rw [if_pos y, if_pos (.inr y)]
    · rw [if_neg y, if_neg (by omega)]
theorem nwS {K : Nat} {i s : Int} : nw n K i s (n K i s) = n := by
  funext a b c
  rw [nw_app]
  split
  · next h => rw [h.1, h.2.1, h.2.2]
  · rfl
/-- of a step that brings no FLOAT -/
theorem LNR.stp (h : LNR A B v E wd C 200 n m F n' m' F') (hC : C ≤ C') (hwb : ∀ q, 0 ≤ q → q < m' 131 0 → m' 134 q < wb) (h1 : (n 3 u 0 = 1 ∨ n 3 u 0 = 2) → SNb n' m' E u) (h2 : m 107 u = 6 → ∀ w, m 116 u ≤ w → w < m 116 u + n 3 u 19 → SNw n' m' E w) : STQ A B v E wd u wb C' n m F n' m' F' := by
  obtain ⟨a1, a2, a3, a4, a5, a6, a7, a8, a9, a10, a11, a12⟩ := h
  refine ⟨a1, a2, a3, a4.rs, a5, by omega, a7, a8, a9, a10, by omega, fun q x y z => .inr (a12 q x y z), hwb, fun f x y => .inr ⟨f, x, by omega, ?_⟩, h1, h2⟩
  rw [a4.1 43 (by decide)]
/-- a FLOAT where the line is empty -/
theorem float0 (hS : LSx n m v E wd F) (hB : BI A B n) (hW : WLc n) (hF : FLb n m v u) (hfr : ∀ f, 0 ≤ f → f < F + m 143 0 → n 43 0 f ≠ u) (hfc : F + m 143 0 ≤ 118) (hI : m 131 0 = 0) (hp : pot m F + cst n u ≤ 900000) (h107 : m 107 u ≠ 6) :
    ∃ n' m', (ix (n 5 0 18) 120 <| st (nw n 43 0 (n 5 0 18) u) fun n43 => ck ((n43 5 0 18) + 1) <| st (nw n43 5 0 18 ((n43 5 0 18) + 1)) fun n49 => if (n49 5 0 10) = 0 then ((N_Layout_putFloat u n49).bind fun n55 => ck ((n55 5 0 17) + 1) <| st (nw n55 5 0 17 ((n55 5 0 17) + 1)) fun n61 => (N_Layout_openAt (n61 5 0 11) n61).bind fun n66 => some n66) else some n49) = some n' ∧ N_Y_putFloat u m = some m' ∧ STQ A B v E wd u wb (cst n u) n m F n' m' (F + 1) := by
  have hS0 := hS
  obtain ⟨⟨l1, l2, l3, l4, l5⟩, ⟨i1, i2, i3, i4⟩, ⟨t1, t2, t3⟩, e1, e2, e3⟩ := hS
  obtain ⟨f1, f2, f3, f4⟩ := e3 hI
  have hF0 := hF
  obtain ⟨q1, q2, q3, q4, q5, q6, q7, q8⟩ := hF
  have ec : cst n u = n 3 u 5 + 2 * n 3 u 6 := by unfold cst; rw [if_pos q8]
  have hE := l1.2.2.2.1
  have hmE := (mxE_ge (m := m) F.toNat).1
  have h132 : m 132 0 = 0 := by rw [i4, hI]; rfl
  unfold pot at hp
  rw [f1, zsm_nil (Int.le_refl _), h132] at hp
  have e18 : n 5 0 18 = F := by omega
  obtain ⟨nA, hnA⟩ : ∃ nA, nA = nw (nw n 43 0 F u) 5 0 18 (F + 1) := ⟨_, rfl⟩
  have aK : ∀ K, K ≠ 5 → K ≠ 43 → nA K = n K := fun K x y => by rw [hnA, nw_nK x, nw_nK y]
  have a5 : ∀ s, s ≠ 18 → nA 5 0 s = n 5 0 s := fun s x => by rw [hnA, nw_ns x, nw_nK (by decide)]
  have a43 : ∀ f, f ≠ F → nA 43 0 f = n 43 0 f := fun f x => by rw [hnA, nw_nK (by decide), nw_ns x]
  have a43F : nA 43 0 F = u := by rw [hnA, nw_nK (by decide), nw_eq]
  have aB : BK nA m v E wd := l1.cg (a5 8 (by decide)) (fun a s _ _ => by rw [aK 3 (by decide) (by decide)]) rfl rfl
  have aT : FTb nA m E F := l3.cg (fun f _ _ => a43 f (by omega)) (fun f _ _ => by rw [aK 3 (by decide) (by decide)]) (fun _ _ _ => ⟨rfl, rfl, rfl, rfl, rfl⟩)
  have a3 : nA 3 = n 3 := aK 3 (by decide) (by decide)
  obtain ⟨n1, m1, r1, r2, ⟨r3, r4, r5⟩, ⟨r6, r7, r8⟩, r9, r10, r11, r12, r13, r14, r15⟩ := putFloat_both (u := u) aB (by rw [a5 17 (by decide)]; exact l2.1) l2.2.1 ⟨l2.2.2, by omega⟩ aT (by rw [a5 19 (by decide)]; exact l4) (by rw [a5 11 (by decide)]; exact l5.1) l5.2 q1 (by rw [a3]; exact q8) a43F (fun f x y => by rw [a43 f (by omega)]; exact hfr f x (by omega)) (by rw [a3]; exact q2.1) (by rw [a3]; exact q2.2) (by rw [a3]; exact q3.1) (by rw [a3]; exact q3.2) (by rw [a3]; exact q4.1) (by rw [a3]; exact q4.2) (by rw [a3]; exact q5.1) (by rw [a3]; exact q5.2) (by rw [a3]; omega)
  rw [a3] at r4 r12
  have r4' : ∀ a s, s ≠ 2 → s ≠ 3 → n1 3 a s = n 3 a s := fun a s x y => r4 a s (by omega)
  obtain ⟨n2, hn2⟩ : ∃ n2, n2 = nw n1 5 0 17 (F + 1) := ⟨_, rfl⟩
  have n2K : ∀ K, K ≠ 5 → n2 K = n1 K := fun K x => by rw [hn2, nw_nK x]
  have n25 : ∀ s, s ≠ 17 → n2 5 0 s = n1 5 0 s := fun s x => by rw [hn2, nw_ns x]
  have n2s : ∀ s, s ≠ 12 → s ≠ 13 → s ≠ 14 → s ≠ 17 → s ≠ 18 → s ≠ 19 → n2 5 0 s = n 5 0 s := fun s x1 x2 x3 x4 x5 x6 => by rw [n25 s x4, r5 s x1 x2 x3 x6, a5 s x5]
  have n2x : ∀ a s, s ≠ 2 → s ≠ 3 → n2 3 a s = n 3 a s := fun a s x y => by rw [n2K 3 (by decide)]; exact r4' a s x y
  have e127 : m1 127 = m 127 := r6 127 (by decide)
  have B2 : BK n2 m1 v E wd := l1.cg (n2s 8 (by decide) (by decide) (by decide) (by decide) (by decide) (by decide)) n2x (r6 145 (by decide)) (r6 133 (by decide))
  have T2 : FTb n2 m1 E (F + 1) := by
    unfold FTb
    rw [n2K 3 (by decide), n2K 43 (by decide)]; exact r10
  have L2 : LFl n2 m1 v E wd (F + 1) := ⟨B2, ⟨by rw [hn2, nw_eq], r9, by omega⟩, T2, by rw [n25 19 (by decide)]; exact r11, by rw [n2s 11 (by decide) (by decide) (by decide) (by decide) (by decide) (by decide), e127]; exact l5.1, by rw [e127]; exact l5.2⟩
  have hop := c_openAt (y := m1 127 0) B2 (by rw [hn2, nw_eq]) (by omega) T2
  rw [← L2.2.2.2.2.1] at hop
  obtain ⟨nE, hnE⟩ : ∃ nE, nE = wO n2 (leR m1 (m1 127 0) (F + 1).toNat + E) (riR m1 (m1 127 0) (F + 1).toNat + E) (nX E (neR m1 (m1 127 0) (F + 1).toNat)) := ⟨_, rfl⟩
  rw [← hnE] at hop
  have EK : ∀ K, K ≠ 5 → nE K = n2 K := fun K x => by rw [hnE, wO_K x]
  have E5 : ∀ s, s ≠ 12 → s ≠ 13 → s ≠ 14 → nE 5 0 s = n2 5 0 s := fun s x y z => by rw [hnE, wO_s x y z]
  have EKn : ∀ K, K ≠ 3 → K ≠ 5 → K ≠ 43 → nE K = n K := fun K x y z => by rw [EK K y, n2K K y, r3 K x y, aK K y z]
  have E43 : ∀ f, f ≠ F → nE 43 0 f = n 43 0 f := fun f x => by rw [EK 43 (by decide), n2K 43 (by decide), r3 43 (by decide) (by decide), a43 f x]
  have E43F : nE 43 0 F = u := by rw [EK 43 (by decide), n2K 43 (by decide), r3 43 (by decide) (by decide), a43F]
  have Es : ∀ s, s ≠ 12 → s ≠ 13 → s ≠ 14 → s ≠ 17 → s ≠ 18 → s ≠ 19 → nE 5 0 s = n 5 0 s := fun s x1 x2 x3 x4 x5 x6 => by rw [E5 s x1 x2 x3, n2s s x1 x2 x3 x4 x5 x6]
  have E3 : ∀ a, a ≠ u → nE 3 a = n 3 a := fun a x => by
    rw [EK 3 (by decide), n2K 3 (by decide)]
    funext s
    exact r4 a s (fun z => x z.1)
  have E3s : ∀ a s, s ≠ 2 → s ≠ 3 → nE 3 a s = n 3 a s := fun a s x y => by rw [EK 3 (by decide)]; exact n2x a s x y
  have hDu : DNb nE m1 E u := by
    unfold DNb
    rw [EK 3 (by decide), n2K 3 (by decide)]
    exact ⟨r13, by omega, r15⟩
  have e131 : m1 131 0 = 0 := by rw [r6 131 (by decide)]; exact hI
  have e143 : m1 143 0 = 0 := by rw [r6 143 (by decide)]; exact f1
  refine ⟨nE, m1, ?_, r2, ⟨by rw [hnE]; exact L2.wO, ⟨⟨?_, by omega, by omega, ?_⟩, fun i x y => by omega, fun i j x y z => by omega, ?_⟩, ⟨⟨?_, by omega, by omega⟩, fun i x y => by omega, fun i j x y z => ?_⟩, ⟨by rw [r6 144 (by decide)]; exact e1.1, by rw [Es 15 (by decide) (by decide) (by decide) (by decide) (by decide) (by decide)]; exact e1.2⟩, fun z => by omega, fun _ => ⟨e143, by rw [hnE, wO_a], by rw [hnE, wO_b], by rw [hnE, wO_c]⟩⟩, ?_, ?_, ⟨fun K hK => ?_, E3s, fun a x y => E3 a (fun z => by rw [z] at y; rcases y with y | y; exact y q6; omega), fun s x => Es s (by omega) (by omega) (by omega) (by omega) (by omega) (by omega), ⟨by rw [EKn 90 (by decide) (by decide) (by decide)]; exact Int.le_refl _, fun q _ => by rw [EKn 92 (by decide) (by decide) (by decide), EKn 93 (by decide) (by decide) (by decide)]; exact ⟨rfl, rfl⟩, fun q _ _ _ => by rw [EKn 99 (by decide) (by decide) (by decide)], .inl (Es 9 (by decide) (by decide) (by decide) (by decide) (by decide) (by decide))⟩, fun j _ _ => by rw [EKn 99 (by decide) (by decide) (by decide)], fun i _ _ => by rw [EKn 99 (by decide) (by decide) (by decide)]; exact ⟨rfl, rfl⟩⟩, ⟨fun f hf => r6 f (by simp only [List.mem_cons, List.not_mem_nil, or_false, not_or] at hf ⊢; omega), fun a x y => r7 a (fun z => y (by rw [z]; exact q7)), fun w _ _ => by rw [r6 121 (by decide), r6 122 (by decide)]; exact ⟨rfl, rfl⟩⟩, ?_, by rw [e127]; exact Int.le_refl _, fun a x h => ?_, fun w x h => ?_, by omega, by omega, fun q x y z => by omega, fun q x y => by omega, fun f x y => ?_, fun _ => .inl hDu, fun z => absurd z h107⟩
  · unfold st
    dsimp only
    rw [e18, ix_e _ (by omega), nw_nK (show (5 : Nat) ≠ 43 by decide), e18, ck_e _ (by omega), ← hnA, a5 10 (by decide), i1.1, hI, if_pos rfl, r1]
    simp only [Option.bind_some]
    rw [r5 17 (by decide) (by decide) (by decide) (by decide), a5 17 (by decide), l2.1, ck_e _ (by omega), ← hn2, hop]
    simp only [Option.bind_some]
  · rw [Es 10 (by decide) (by decide) (by decide) (by decide) (by decide) (by decide), i1.1, hI, e131]
  · rw [e131, Es 9 (by decide) (by decide) (by decide) (by decide) (by decide) (by decide), EKn 93 (by decide) (by decide) (by decide)]
    have := hW.2.2.2.1; omega
  · rw [e131, r6 132 (by decide), h132]; rfl
  · rw [E5 18 (by decide) (by decide) (by decide), n25 18 (by decide), r5 18 (by decide) (by decide) (by decide) (by decide), hnA, nw_eq, e143]; omega
  · rw [e143] at z
    by_cases w : j = F
    · rw [w, E43F, E43 i (by omega)]; exact hfr i x (by omega)
    · rw [E43 i (by omega), E43 j w]; exact t3 i j x y (by omega)
  · exact hB.cg (EKn 4 (by decide) (by decide) (by decide)) ⟨Es 5 (by decide) (by decide) (by decide) (by decide) (by decide) (by decide), Es 9 (by decide) (by decide) (by decide) (by decide) (by decide) (by decide)⟩ (EKn 90 (by decide) (by decide) (by decide)) (EKn 91 (by decide) (by decide) (by decide)) (EKn 92 (by decide) (by decide) (by decide)) (EKn 93 (by decide) (by decide) (by decide))
  · unfold WLc at *
    rw [Es 5 (by decide) (by decide) (by decide) (by decide) (by decide) (by decide), Es 9 (by decide) (by decide) (by decide) (by decide) (by decide) (by decide), Es 6 (by decide) (by decide) (by decide) (by decide) (by decide) (by decide), EKn 92 (by decide) (by decide) (by decide), EKn 93 (by decide) (by decide) (by decide)]; exact hW
  · simp only [List.mem_cons, List.not_mem_nil, or_false, not_or] at hK
    exact EKn K (by omega) (by omega) (by omega)
  · unfold pot
    rw [e127, r6 132 (by decide), h132, e143, f1, zsm_nil (Int.le_refl _), zsm_nil (Int.le_refl _), ec]
    omega
  · by_cases z : a = u
    · rw [z]; exact .inl hDu
    · rcases h with h | ⟨i, y1, y2, _⟩ | ⟨i, y1, y2, _⟩
      · refine .inl ?_
        unfold DNb at *
        rw [E3 a z, (r7 a z).1, (r7 a z).2]; exact h
      · omega
      · omega
  · rcases h with h | ⟨i, y1, y2, _⟩
    · refine .inl ?_
      unfold DNw at *
      rw [Es 5 (by decide) (by decide) (by decide) (by decide) (by decide) (by decide), EKn 99 (by decide) (by decide) (by decide), r6 121 (by decide), r6 122 (by decide)]; exact h
    · omega
  · rw [e143] at y
    by_cases w : f = F
    · rw [w]; exact .inl E43F
    · exact .inr ⟨f, x, by omega, (E43 f w).symm⟩
end W7
