/-! THE NET: what both hold, and what leaves it as it was -/
/-- cells of ADDRESSES, of bodies and of ANSWERS, but for ADDRESSES W, are as they were -/
def FQ (As Bs W : Int → Prop) (n n' : NS) : Prop :=
  n 90 0 0 ≤ n' 90 0 0
  ∧ (∀ q, q < n 90 0 0 → n' 92 0 q = n 92 0 q ∧ n' 93 0 q = n 93 0 q)
  ∧ (∀ a, As a → n' 99 a 0 = n 99 a 0 ∧ (¬ W a → n' 99 a = n 99 a ∧ n' 99 (n 99 a 0) = n 99 (n 99 a 0)))
  ∧ (∀ x, Bs x → n' 99 x = n 99 x)
  ∧ (∀ a, 0 ≤ a → a < n 90 0 0 → n 92 0 a = 102 → ∀ s, s ≠ 7 → n' 99 a s = n 99 a s)
  ∧ (∀ b, 0 ≤ b → b ≤ 631 → n' 4 b 1 = n 4 b 1 ∨ n 90 0 0 ≤ n' 4 b 1)
/-- bodies -/
def BsI (n : NS) (As Bs : Int → Prop) : Prop := ∀ x, Bs x → (0 ≤ x ∧ x < n 90 0 0) ∧ n 92 0 x = 1 ∧ (∀ b, 0 ≤ b → b ≤ 631 → n 4 b 1 ≠ x) ∧ ∀ a, As a → n 99 a 0 ≠ x
/-- a row of the reference is as it was -/
def RwE (m m' : YS) (r : Int) : Prop := m' 7 r = m 7 r ∧ m' 8 r = m 8 r ∧ ∀ j, 150 * r ≤ j → j < 150 * r + 150 → m' 6 j = m 6 j
def AdE (n : NS) (m : YS) (a r : Int) (mk : List Int) : Prop := ∃ nm ss q, WFA nm ss q mk ∧ CA n a nm ss q mk ∧ RA m r nm ss q mk
/-- an ADDRESS of the class whose mark the reference has dropped -/
def AdT (n : NS) (m : YS) (a r : Int) : Prop := ∃ nm ss q mk, WFA nm ss q mk ∧ CA n a nm ss q mk ∧ RA m r nm ss q []
/-- an ANSWER, in both -/
def AnS (As Bs : Int → Prop) (n : NS) (m : YS) (a i rA rT : Int) : Prop :=
  (0 ≤ a ∧ a < n 90 0 0 ∧ n 92 0 a = 102)
  ∧ (As (n 99 a 0) ∧ 1953 ≤ n 99 a 0 ∧ AdE n m (n 99 a 0) rA [])
  ∧ ((m 23 i = 0 ∧ n 99 a 4 < 0) ∨ (m 23 i = 1 ∧ As (n 99 a 4) ∧ 1953 ≤ n 99 a 4 ∧ AdT n m (n 99 a 4) rT))
  ∧ n 99 a 5 = m 24 i
  ∧ Bs (n 99 a 6) ∧ (0 ≤ m 18 i ∧ m 18 i ≤ 1280) ∧ n 93 0 (n 99 a 6) = m 18 i ∧ ∀ j, 0 ≤ j → j < m 18 i → n 99 (n 99 a 6) j = m 17 (1500 * i + j) ∧ isTx (m 17 (1500 * i + j))
section J4
variable {n n' n'' : NS} {m m' : YS} {A B a b i r rA rT : Int} {nm q mk : List Int} {ss : List (List Int)} {As Bs W S : Int → Prop}
theorem FQ.refl (As Bs W : Int → Prop) (n : NS) : FQ As Bs W n n := ⟨Int.le_refl _, fun _ _ => ⟨rfl, rfl⟩, fun _ _ => ⟨rfl, fun _ => ⟨rfl, rfl⟩⟩, fun _ _ => rfl, fun _ _ _ _ _ _ => rfl, fun _ _ _ => .inl rfl⟩
theorem FQ.trans (h : FQ As Bs W n n') (h' : FQ As Bs W n' n'') : FQ As Bs W n n'' := by
  obtain ⟨a1, a2, a3, a4, a5, a6⟩ := h
  obtain ⟨b1, b2, b3, b4, b5, b6⟩ := h'
  refine ⟨Int.le_trans a1 b1, fun q hq => ?_, fun a ha => ?_, fun x hx => (b4 x hx).trans (a4 x hx), fun a x y z s hs => ?_, fun b x y => ?_⟩
  · have h1 := a2 q hq
    have h2 := b2 q (by omega)
    exact ⟨h2.1.trans h1.1, h2.2.trans h1.2⟩
  · have h1 := a3 a ha
    have h2 := b3 a ha
    refine ⟨h2.1.trans h1.1, fun hw => ?_⟩
    have c1 := h1.2 hw
    have c2 := h2.2 hw
    rw [h1.1] at c2
    exact ⟨c2.1.trans c1.1, c2.2.trans c1.2⟩
  · rw [b5 a x (by omega) (by rw [(a2 a y).1]; exact z) s hs, a5 a x y z s hs]
  · have := a6 b x y
    have := b6 b x y
    omega
theorem FQ.wid {W' : Int → Prop} (h : FQ As Bs W n n') (hw : ∀ a, W a → W' a) : FQ As Bs W' n n' := ⟨h.1, h.2.1, fun a ha => ⟨(h.2.2.1 a ha).1, fun z => (h.2.2.1 a ha).2 (fun y => z (hw a y))⟩, h.2.2.2⟩
theorem AdS.fq (h : AdS n As) (hF : FQ As Bs W n n') : AdS n' As := by
  intro a ha
  obtain ⟨⟨c1, c2, c3, c4, c5⟩, d1, d2⟩ := h a ha
  have e0 := (hF.2.2.1 a ha).1
  have q1 := hF.2.1 a c1.2
  have q2 := hF.2.1 _ c3.2
  rw [e0]
  refine ⟨⟨⟨c1.1, by have := hF.1; omega⟩, by rw [q1.1]; exact c2, ⟨c3.1, by have := hF.1; omega⟩, by rw [q2.1]; exact c4, by rw [q2.2]; exact c5⟩, fun b b0 b1 z => ?_, fun a' ha' z => d2 a' ha' (by rw [(hF.2.2.1 a' ha').1] at z; exact z)⟩
  have := hF.2.2.2.2.2 b b0 b1
  have := d1 b b0 b1
  omega
theorem BsI.fq (h : BsI n As Bs) (hF : FQ As Bs W n n') : BsI n' As Bs := by
  intro x hx
  obtain ⟨c1, c2, c3, c4⟩ := h x hx
  refine ⟨⟨c1.1, by have := hF.1; omega⟩, by rw [(hF.2.1 x c1.2).1]; exact c2, fun b b0 b1 z => ?_, fun a ha => by rw [(hF.2.2.1 a ha).1]; exact c4 a ha⟩
  have := hF.2.2.2.2.2 b b0 b1
  have := c3 b b0 b1
  omega
/-- rows of bytes -/
theorem FQ.fb (h : FB S n n') (hS : ∀ x, S x → 0 ≤ x ∧ x ≤ 631) (hB : BI A B n) (hA : AdS n As) (hb : BsI n As Bs) : FQ As Bs W n n' := by
  obtain ⟨a1, a2, a3, a4, a5, a6⟩ := h
  have row : ∀ b, S b → n 92 0 (n 4 b 1) = 1 := fun b hb => (hB.1 b (hS b hb).1 (hS b hb).2).2.2.1
  refine ⟨a3, a4, fun a ha => ?_, fun x hx => ?_, fun a x y z s _ => ?_, fun b b0 b1 => ?_⟩
  · obtain ⟨⟨c1, c2, c3, c4, c5⟩, d1, d2⟩ := hA a ha
    have e1 : n' 99 a = n 99 a := a5 a c1.2 (fun b hb z => by
      have := row b hb; rw [← z, c2] at this; exact absurd this (by decide))
    have e2 : n' 99 (n 99 a 0) = n 99 (n 99 a 0) := a5 _ c3.2 (fun b hb z => d1 b (hS b hb).1 (hS b hb).2 z.symm)
    exact ⟨by rw [e1], fun _ => ⟨e1, e2⟩⟩
  · obtain ⟨c1, c2, c3, c4⟩ := hb x hx
    exact a5 x c1.2 (fun b hb z => c3 b (hS b hb).1 (hS b hb).2 z.symm)
  · rw [a5 a y (fun b hb w => by
      have := row b hb; rw [← w, z] at this; exact absurd this (by decide))]
  · by_cases z : S b
    · exact a6 b z
    · rw [a2 b z]; exact .inl rfl
/-- one ADDRESS -/
theorem FQ.aw {s t : Int → Int} (hA : AdS n As) (hb : BsI n As Bs) (ha : As a) (hw : W a) (hs : s 0 = n 99 a 0) : FQ As Bs W n (aw n a (n 99 a 0) s t) := by
  obtain ⟨⟨c1, c2, c3, c4, c5⟩, d1, d2⟩ := hA a ha
  have hne := (hA a ha).1.ne
  refine ⟨by rw [aw_K (by decide)]; exact Int.le_refl _, fun q _ => by rw [aw_K (by decide), aw_K (by decide)]; exact ⟨rfl, rfl⟩, fun a' ha' => ?_, fun x hx => ?_, fun a' x y z s' _ => ?_, fun b _ _ => .inl (by rw [aw_K (by decide)])⟩
  · by_cases z : a' = a
    · rw [z, aw_a hne]; exact ⟨hs, fun y => absurd hw y⟩
    · have := (hA.chg (s := s) (t := t) ha hs).2 a' ha' z
      exact ⟨by rw [this.1], fun _ => this⟩
  · obtain ⟨e1, e2, e3, e4⟩ := hb x hx
    exact aw_q (fun z => by rw [z, c2] at e2; exact absurd e2 (by decide)) (fun z => e4 a ha z.symm)
  · rw [aw_q (fun w => by rw [w, c2] at z; exact absurd z (by decide)) (fun w => by rw [w, c4] at z; exact absurd z (by decide))]
/-- till when an ANSWER is kept -/
theorem FQ.nw7 {v : Int} (hA : AdS n As) (hb : BsI n As Bs) (ht : n 92 0 a = 102) : FQ As Bs W n (nw n 99 a 7 v) := by
  have hq : ∀ q, q ≠ a → nw n 99 a 7 v 99 q = n 99 q := fun q hq => nw_ni hq
  refine ⟨by rw [nw_nK (by decide)]; exact Int.le_refl _, fun q _ => by rw [nw_nK (by decide), nw_nK (by decide)]; exact ⟨rfl, rfl⟩, fun a' ha' => ?_, fun x hx => hq x (fun z => by have := (hb x hx).2.1; rw [z, ht] at this; exact absurd this (by decide)), fun a' _ _ _ s hs => ?_, fun b _ _ => .inl (by rw [nw_nK (by decide)])⟩
  · obtain ⟨⟨c1, c2, c3, c4, c5⟩, d1, d2⟩ := hA a' ha'
    have e1 := hq a' (fun z => by rw [z, ht] at c2; exact absurd c2 (by decide))
    exact ⟨by rw [e1], fun _ => ⟨e1, hq _ (fun z => by rw [z, ht] at c4; exact absurd c4 (by decide))⟩⟩
  · by_cases z : a' = a
    · rw [z, nw_ns hs]
    · rw [hq a' z]
/-- nothing of the cells -/
theorem FQ.ks (h : ∀ K, K = 4 ∨ K = 90 ∨ K = 92 ∨ K = 93 ∨ K = 99 → n' K = n K) : FQ As Bs W n n' := by
  refine ⟨by rw [h 90 (by omega)]; exact Int.le_refl _, fun q _ => by rw [h 92 (by omega), h 93 (by omega)]; exact ⟨rfl, rfl⟩, fun a _ => by rw [h 99 (by omega)]; exact ⟨rfl, fun _ => ⟨rfl, rfl⟩⟩, fun x _ => by rw [h 99 (by omega)], fun a _ _ _ s _ => by rw [h 99 (by omega)], fun b _ _ => .inl (by rw [h 4 (by omega)])⟩
/-- a page is read -/
theorem FQ.frr (h : FRR n n') (hB : BI A B n) (hA : AdS n As) (hb : BsI n As Bs) : FQ As Bs W n n' := by
  obtain ⟨a1, a2, a3, a4, a5, a6, a7⟩ := h
  have row : ∀ b, 0 ≤ b → b ≤ 604 → n 92 0 (n 4 b 1) = 1 := fun b x y => (hB.1 b x (by omega)).2.2.1
  refine ⟨a3, a4, fun a ha => ?_, fun x hx => ?_, fun a x y z s _ => ?_, fun b b0 b1 => ?_⟩
  · obtain ⟨⟨c1, c2, c3, c4, c5⟩, d1, d2⟩ := hA a ha
    have e1 : n' 99 a = n 99 a := a5 a c1.2 (fun b x y z => by
      have := row b x y; rw [← z, c2] at this; exact absurd this (by decide))
    have e2 : n' 99 (n 99 a 0) = n 99 (n 99 a 0) := a5 _ c3.2 (fun b x y z => d1 b x (by omega) z.symm)
    exact ⟨by rw [e1], fun _ => ⟨e1, e2⟩⟩
  · obtain ⟨c1, c2, c3, c4⟩ := hb x hx
    exact a5 x c1.2 (fun b x y z => c3 b x (by omega) z.symm)
  · rw [a5 a y (fun b u v w => by
      have := row b u v; rw [← w, z] at this; exact absurd this (by decide))]
  · by_cases z : b ≤ 604
    · exact a6 b b0 z
    · rw [a2 b (by omega)]; exact .inl rfl
theorem RwE.refl (m : YS) (r : Int) : RwE m m r := ⟨rfl, rfl, fun _ _ _ => rfl⟩
theorem RwE.trans {m'' : YS} (h : RwE m m' r) (h' : RwE m' m'' r) : RwE m m'' r := ⟨h'.1.trans h.1, h'.2.1.trans h.2.1, fun j x y => (h'.2.2 j x y).trans (h.2.2 j x y)⟩
theorem RwE.of (h6 : m' 6 = m 6) (h7 : m' 7 = m 7) (h8 : m' 8 = m 8) : RwE m m' r := ⟨by rw [h7], by rw [h8], fun j _ _ => by rw [h6]⟩
theorem RwE.cp {to fr : Int} (h : RC1 m m' to fr) (hr : r ≠ to) : RwE m m' r := ⟨(h.2.2.2.2.2 r hr).1, (h.2.2.2.2.2 r hr).2, fun j x y => h.2.2.1 j (by omega)⟩
theorem RA.rw (hR : RA m r nm ss q mk) (hW : WFA nm ss q mk) (h : RwE m m' r) : RA m' r nm ss q mk := by
  obtain ⟨r1, r2, r3, r4⟩ := hR
  have hsz := hW.sz
  have w6 := hW.2.2.2.1
  refine ⟨by rw [h.1]; exact r1, Eq.trans (sg_cg _ _ (150 * r) (fun x hx => h.2.2 _ (by omega) (by omega))) r2, by rw [h.2.1]; exact r3, Eq.trans (sg_cg _ _ (150 * r + 135) (fun x hx => h.2.2 _ (by omega) (by omega))) r4⟩
theorem WFA.nomk (h : WFA nm ss q mk) : WFA nm ss q [] := ⟨h.1, h.2.1, h.2.2.1, by decide, fun c hc => by cases hc⟩
theorem CA.fq (hC : CA n a nm ss q mk) (hF : FQ As Bs W n n') (ha : As a) (hw : ¬ W a) : CA n' a nm ss q mk := by
  obtain ⟨e0, e⟩ := hF.2.2.1 a ha
  unfold CA at *
  rw [e0, (e hw).1, (e hw).2]; exact hC
theorem AdE.fq (h : AdE n m a r mk) (hF : FQ As Bs W n n') (ha : As a) (hw : ¬ W a) (hr : RwE m m' r) : AdE n' m' a r mk := by
  obtain ⟨nm, ss, q, w, c, p⟩ := h
  exact ⟨nm, ss, q, w, c.fq hF ha hw, p.rw w hr⟩
theorem AdT.fq (h : AdT n m a r) (hF : FQ As Bs W n n') (ha : As a) (hw : ¬ W a) (hr : RwE m m' r) : AdT n' m' a r := by
  obtain ⟨nm, ss, q, mk, w, c, p⟩ := h
  exact ⟨nm, ss, q, mk, w, c.fq hF ha hw, p.rw w.nomk hr⟩
theorem AnS.fq (h : AnS As Bs n m a i rA rT) (hF : FQ As Bs W n n') (hW : ∀ a, W a → a < 1953) (hb : BsI n As Bs) (h1 : RwE m m' rA) (h2 : m 23 i = 1 → RwE m m' rT) (h3 : m' 18 i = m 18 i ∧ m' 23 i = m 23 i ∧ m' 24 i = m 24 i) (h4 : ∀ j, 0 ≤ j → j < m 18 i → m' 17 (1500 * i + j) = m 17 (1500 * i + j)) : AnS As Bs n' m' a i rA rT := by
  obtain ⟨c1, c2, c3, c4, c5, c6, c7, c8⟩ := h
  have e : ∀ s, s ≠ 7 → n' 99 a s = n 99 a s := fun s hs => hF.2.2.2.2.1 a c1.1 c1.2.1 c1.2.2 s hs
  have hx := hb _ c5
  unfold AnS
  rw [e 0 (by decide), e 4 (by decide), e 5 (by decide), e 6 (by decide), h3.1, h3.2.1, h3.2.2, hF.2.2.2.1 _ c5, (hF.2.1 _ hx.1.2).2, (hF.2.1 a c1.2.1).1]
  refine ⟨⟨c1.1, by have := hF.1; omega, c1.2.2⟩, ⟨c2.1, c2.2.1, c2.2.2.fq hF c2.1 (fun z => by have := hW _ z; omega) h1⟩, ?_, c4, c5, c6, c7, fun j x y => by rw [h4 j x y]; exact c8 j x y⟩
  rcases c3 with y | y
  · exact .inl y
  · exact .inr ⟨y.1, y.2.1, y.2.2.1, y.2.2.2.fq hF y.2.1 (fun z => by have := hW _ z; have := y.2.2.1; omega) (h2 y.1)⟩
end J4
