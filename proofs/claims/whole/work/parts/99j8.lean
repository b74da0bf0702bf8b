/-! THE NET: all that both hold for fetching -/
def FQ7 (n n' : NS) : Prop := ∀ a, 0 ≤ a → a < n 90 0 0 → n 92 0 a = 102 → n' 99 a 7 = n 99 a 7
/-- the cookie of an ANSWER, and how long it is kept -/
def AnK (n : NS) (m : YS) (a i : Int) : Prop :=
  (n 99 a 1 = m 19 i ∧ -1 ≤ m 19 i ∧ m 19 i ≤ 9999)
  ∧ ((m 21 i = 0 ∧ n 99 a 2 = 0) ∨ ∃ w v, okN w ∧ okN v ∧ m 21 i = (w.length : Int) ∧ m 22 i = (v.length : Int) ∧ sg (m 20) (16 * i) w.length = w ∧ sg (m 20) (16 * i + 8) v.length = v ∧ n 99 a 2 = pk w ∧ n 99 a 3 = pk v)
def JAns (As Bs : Int → Prop) (n : NS) (m : YS) : Prop := (n 6 0 2 = m 16 0 ∧ 0 ≤ m 16 0 ∧ m 16 0 ≤ 12) ∧ ∀ i, 0 ≤ i → i < m 16 0 → AnS As Bs n m (n 23 0 i) i (6 + i) (46 + i) ∧ AnK n m (n 23 0 i) i
/-- the class's ANSWER that is none -/
def JEm (Bs : Int → Prop) (n : NS) : Prop := (1570 < n 90 0 0 ∧ n 92 0 1570 = 102) ∧ n 99 1570 1 = -1 ∧ n 99 1570 2 = 0 ∧ n 99 1570 4 = -1 ∧ n 99 1570 5 = 0 ∧ Bs (n 99 1570 6) ∧ n 93 0 (n 99 1570 6) = 0
def JNb (κ : Int → Int) (As Bs : Int → Prop) (n : NS) (m : YS) : Prop :=
  AdS n As ∧ BsI n As Bs ∧ (As 1578 ∧ As 1582 ∧ As 1584 ∧ As 1586) ∧ JAns As Bs n m ∧ JKp κ As Bs n m ∧ JEm Bs n ∧ (TRs 25 31 32 33 34 n m (m 30 0) ∧ n 6 0 6 = m 30 0) ∧ (n 6 0 12 = m 25 0 ∧ 0 ≤ m 25 0 ∧ m 25 0 ≤ 1000000) ∧ (n 6 0 9 = m 35 0 ∧ m 27 0 ≤ m 35 0)
/-- what has been got -/
def GOT (As Bs : Int → Prop) (n : NS) (m : YS) (a g : Int) : Prop := (g = -1 ∧ a = 1570) ∨ (0 ≤ g ∧ g < 20 ∧ AnS As Bs n m a g (6 + g) (46 + g))
section J8
variable {n n' n'' : NS} {m m' : YS} {A B a b i r : Int} {nm q mk : List Int} {ss : List (List Int)} {As Bs W S : Int → Prop} {κ : Int → Int}
theorem FQ7.refl (n : NS) : FQ7 n n := fun _ _ _ _ => rfl
theorem FQ7.trans (h : FQ7 n n') (hF : FQ As Bs W n n') (h' : FQ7 n' n'') : FQ7 n n'' := fun a x y z => (h' a x (by have := hF.1; omega) (by rw [(hF.2.1 a y).1]; exact z)).trans (h a x y z)
theorem FQ7.fb (h : FB S n n') (hS : ∀ x, S x → 0 ≤ x ∧ x ≤ 631) (hB : BI A B n) : FQ7 n n' := fun a _ y z => by
  rw [h.2.2.2.2.1 a y (fun b hb w => by
    have := (hB.1 b (hS b hb).1 (hS b hb).2).2.2.1
    rw [← w, z] at this; exact absurd this (by decide))]
theorem FQ7.aw {s t : Int → Int} (hA : AdS n As) (ha : As a) : FQ7 n (aw n a (n 99 a 0) s t) := fun x _ _ z => by
  obtain ⟨⟨c1, c2, c3, c4, c5⟩, _⟩ := hA a ha
  rw [aw_q (fun w => by rw [w, c2] at z; exact absurd z (by decide)) (fun w => by rw [w, c4] at z; exact absurd z (by decide))]
theorem FQ7.ks (h : n' 99 = n 99) : FQ7 n n' := fun a _ _ _ => by rw [h]
theorem FQ7.frr (h : FRR n n') (hB : BI A B n) : FQ7 n n' := fun a _ y z => by
  rw [h.2.2.2.2.1 a y (fun b u v w => by
    have := (hB.1 b u (by omega)).2.2.1
    rw [← w, z] at this; exact absurd this (by decide))]
theorem AnK.cg (h : AnK n m a i) (hn : ∀ s, s = 1 ∨ s = 2 ∨ s = 3 → n' 99 a s = n 99 a s) (hm : ∀ f, 19 ≤ f → f ≤ 22 → m' f = m f) : AnK n' m' a i := by
  unfold AnK at *
  rw [hn 1 (by omega), hn 2 (by omega), hn 3 (by omega), hm 19 (by decide) (by decide), hm 20 (by decide) (by decide), hm 21 (by decide) (by decide), hm 22 (by decide) (by decide)]
  exact h
theorem JAns.cg (h : JAns As Bs n m) (hF : FQ As Bs W n n') (hW : ∀ a, W a → a < 1953) (hb : BsI n As Bs) (h6 : n' 6 0 2 = n 6 0 2) (h23 : n' 23 = n 23) (hm : ∀ f, f = 16 ∨ (19 ≤ f ∧ f ≤ 22) → m' f = m f) (hm2 : ∀ k, 0 ≤ k → k < 12 → m' 18 k = m 18 k ∧ m' 23 k = m 23 k ∧ m' 24 k = m 24 k) (hm3 : ∀ j, 0 ≤ j → j < 18000 → m' 17 j = m 17 j) (hr : ∀ r, (6 ≤ r ∧ r < 18) ∨ (46 ≤ r ∧ r < 58) → RwE m m' r) : JAns As Bs n' m' := by
  obtain ⟨h1, h2⟩ := h
  refine ⟨by rw [h6, hm 16 (by omega)]; exact h1, fun i i0 i1 => ?_⟩
  rw [hm 16 (by omega)] at i1
  obtain ⟨c1, c2⟩ := h2 i i0 i1
  rw [h23]
  refine ⟨c1.fq hF hW hb (hr _ (by omega)) (fun _ => hr _ (by omega)) (hm2 i i0 (by omega)) (fun j x y => ?_), c2.cg (fun s hs => hF.2.2.2.2.1 _ c1.1.1 c1.1.2.1 c1.1.2.2 s (by omega)) (fun f x y => hm f (by omega))⟩
  have := c1.2.2.2.2.2.1
  exact hm3 _ (by omega) (by omega)
theorem JKp.cg (h : JKp κ As Bs n m) (hF : FQ As Bs W n n') (h7 : FQ7 n n') (hW : ∀ a, W a → a < 1953) (hb : BsI n As Bs) (h6 : n' 6 0 4 = n 6 0 4) (h24 : n' 24 = n 24) (hm : ∀ f, f = 17 ∨ f = 18 ∨ (23 ≤ f ∧ f ≤ 24) ∨ (26 ≤ f ∧ f ≤ 29) → m' f = m f) (hr : ∀ r, (18 ≤ r ∧ r < 26) ∨ (58 ≤ r ∧ r < 66) → RwE m m' r) : JKp κ As Bs n' m' := by
  obtain ⟨k1, k2, k3, k4⟩ := h
  have row : ∀ j, 0 ≤ j → j < m 26 0 → rowL m' (18 + κ j) = rowL m (18 + κ j) := fun j j0 j1 => by
    obtain ⟨b1, b2, b3, b4⟩ := k2 j j0 j1
    obtain ⟨nm1, ss1, q1, w1, d1, r1⟩ := b2.2.1.2.2
    rw [(r1.rw w1 (hr _ (by omega))).rowL, r1.rowL]
  refine ⟨by rw [h6, hm 26 (by omega), hm 27 (by omega)]; exact k1, fun j j0 j1 => ?_, fun j j' j0 jl j1 => ?_, by rw [hm 26 (by omega)]; exact k4⟩
  · rw [hm 26 (by omega)] at j1 ⊢
    obtain ⟨b1, b2, b3, b4⟩ := k2 j j0 j1
    rw [h24, hm 28 (by omega), hm 29 (by omega), hm 27 (by omega)]
    exact ⟨b1, b2.fq hF hW hb (hr _ (by omega)) (fun _ => hr _ (by omega)) (by rw [hm 18 (by omega), hm 23 (by omega), hm 24 (by omega)]; exact ⟨rfl, rfl, rfl⟩) (fun _ _ _ => by rw [hm 17 (by omega)]), by rw [h7 _ b2.1.1 b2.1.2.1 b2.1.2.2]; exact b3, b4⟩
  · rw [hm 26 (by omega)] at j1
    rw [hm 29 (by omega), row j j0 (by omega), row j' (by omega) j1]
    exact k3 j j' j0 jl j1
theorem JEm.cg (h : JEm Bs n) (hF : FQ As Bs W n n') (hb : BsI n As Bs) : JEm Bs n' := by
  obtain ⟨h1, h2, h3, h4, h5, h6, h7⟩ := h
  have e : ∀ s, s ≠ 7 → n' 99 1570 s = n 99 1570 s := fun s hs => hF.2.2.2.2.1 1570 (by decide) h1.1 h1.2 s hs
  have hx := hb _ h6
  unfold JEm
  rw [e 1 (by decide), e 2 (by decide), e 4 (by decide), e 5 (by decide), e 6 (by decide), (hF.2.1 1570 h1.1).1, (hF.2.1 _ hx.1.2).2]
  exact ⟨⟨by have := hF.1; omega, h1.2⟩, h2, h3, h4, h5, h6, h7⟩
theorem GOT.cg {g : Int} (h : GOT As Bs n m a g) (hF : FQ As Bs W n n') (hW : ∀ a, W a → a < 1953) (hb : BsI n As Bs) (hm : ∀ f, f = 17 ∨ f = 18 ∨ (23 ≤ f ∧ f ≤ 24) → m' f = m f) (hr : ∀ r, (6 ≤ r ∧ r < 26) ∨ (46 ≤ r ∧ r < 66) → RwE m m' r) : GOT As Bs n' m' a g := by
  rcases h with y | ⟨y1, y2, y3⟩
  · exact .inl y
  · exact .inr ⟨y1, y2, y3.fq hF hW hb (hr _ (by omega)) (fun _ => hr _ (by omega)) (by rw [hm 18 (by omega), hm 23 (by omega), hm 24 (by omega)]; exact ⟨rfl, rfl, rfl⟩) (fun _ _ _ => by rw [hm 17 (by omega)])⟩
/-- what lies beside the net has changed -/
theorem JNb.cg (h : JNb κ As Bs n m) (hF : FQ As Bs W n n') (h7 : FQ7 n n') (hW : ∀ a, W a → a < 1953) (hK : ∀ K, K = 23 ∨ K = 24 ∨ K = 25 → n' K = n K) (h6 : ∀ s, s = 2 ∨ s = 4 ∨ s = 6 ∨ s = 9 ∨ s = 12 → n' 6 0 s = n 6 0 s) (hm : ∀ f, 16 ≤ f → f ≤ 35 → m' f = m f) (hr : ∀ r, (6 ≤ r ∧ r < 26) ∨ (46 ≤ r ∧ r < 66) → RwE m m' r) : JNb κ As Bs n' m' := by
  obtain ⟨c1, c2, c3, c4, c5, c6, c7, c8, c9⟩ := h
  refine ⟨c1.fq hF, c2.fq hF, c3, c4.cg hF hW c2 (h6 2 (by omega)) (hK 23 (by omega)) (fun f hf => hm f (by omega) (by omega)) (fun k _ _ => by rw [hm 18 (by decide) (by decide), hm 23 (by decide) (by decide), hm 24 (by decide) (by decide)]; exact ⟨rfl, rfl, rfl⟩) (fun j _ _ => by rw [hm 17 (by decide) (by decide)]) (fun r hr' => hr r (by omega)), c5.cg hF h7 hW c2 (h6 4 (by omega)) (hK 24 (by omega)) (fun f hf => hm f (by omega) (by omega)) (fun r hr' => hr r (by omega)), c6.cg hF c2, ⟨?_, ?_⟩, ?_, ?_⟩
  · rw [hm 30 (by decide) (by decide)]
    exact c7.1.cg (by rw [hK 25 (by omega)]) (hm 31 (by decide) (by decide)) (hm 32 (by decide) (by decide)) (hm 33 (by decide) (by decide)) (hm 34 (by decide) (by decide))
  · rw [h6 6 (by omega), hm 30 (by decide) (by decide)]; exact c7.2
  · rw [h6 12 (by omega), hm 25 (by decide) (by decide)]; exact c8
  · rw [h6 9 (by omega), hm 35 (by decide) (by decide), hm 27 (by decide) (by decide)]; exact c9
end J8
