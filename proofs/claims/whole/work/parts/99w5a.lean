/-! ROWS OF WHOLE NUMBERS STAY, and the stamp of the list: rules -/
def KRw (n0 n : NS) : Prop := (n0 90 0 0 ≤ n 90 0 0 ∧ ∀ q, q < n0 90 0 0 → n 92 0 q = n0 92 0 q ∧ n 93 0 q = n0 93 0 q ∧ (n0 92 0 q = 0 → n 99 q = n0 99 q)) ∧ (n0 10 0 6 ≤ n 10 0 6 ∧ (n0 10 0 4 = n0 10 0 6 → n 10 0 6 = n0 10 0 6 → n 10 0 4 = n0 10 0 4))
def kT {α : Type} (_ : α) : Prop := True
def kI (n0 : NS) (r : Int × NS) : Prop := KRw n0 r.2
def kJ (n0 : NS) (r : Int × Int × NS) : Prop := KRw n0 r.2.2
/-- whatever it says, it is so -/
def kz {α : Type} (P : α → Prop) (x : Option α) : Prop := ∀ r, x = some r → P r
section YH
variable {α β γ : Type} {P : α → Prop} {Q : β → Prop} {x : Option α} {n n0 : NS} {i s v u a b : Int} {K t : Nat}
theorem KRw.refl : KRw n n := ⟨⟨Int.le_refl _, fun _ _ => ⟨rfl, rfl, fun _ => rfl⟩⟩, Int.le_refl _, fun _ _ => rfl⟩
theorem KRw.trans {n' : NS} (h : KRw n0 n) (h' : KRw n n') : KRw n0 n' := by
  obtain ⟨⟨a1, a2⟩, a3, a4⟩ := h
  obtain ⟨⟨b1, b2⟩, b3, b4⟩ := h'
  refine ⟨⟨by omega, fun q hq => ?_⟩, by omega, fun x y => ?_⟩
  · obtain ⟨c1, c2, c3⟩ := a2 q hq
    obtain ⟨d1, d2, d3⟩ := b2 q (by omega)
    exact ⟨d1.trans c1, d2.trans c2, fun z => (d3 (c1.trans z)).trans (c3 z)⟩
  · have e1 : n 10 0 6 = n0 10 0 6 := by omega
    have e2 := a4 x e1
    have e3 := b4 (by omega) (by omega)
    omega
theorem KRw.nwr (h1 : K ≠ 10) (h2 : K ≠ 90) (h3 : K ≠ 92) (h4 : K ≠ 93) (h5 : K ≠ 99) (h : KRw n0 n) : KRw n0 (nw n K i s v) := by
  unfold KRw
  rw [nw_nK (Ne.symm h1), nw_nK (Ne.symm h2), nw_nK (Ne.symm h3), nw_nK (Ne.symm h4), nw_nK (Ne.symm h5)]; exact h
theorem KRw.n10 (h1 : s ≠ 4) (h2 : s ≠ 6) (h : KRw n0 n) : KRw n0 (nw n 10 i s v) := by
  unfold KRw
  rw [nw_nK (show 90 ≠ 10 by decide), nw_nK (show 92 ≠ 10 by decide), nw_nK (show 93 ≠ 10 by decide), nw_nK (show 99 ≠ 10 by decide), nw_ns (Ne.symm h1), nw_ns (Ne.symm h2)]; exact h
theorem KRw.n106 (h : KRw n0 n) : KRw n0 (nw n 10 0 6 (n 10 0 6 + 1)) := by
  obtain ⟨a1, a3, a4⟩ := h
  unfold KRw
  rw [nw_nK (show 90 ≠ 10 by decide), nw_nK (show 92 ≠ 10 by decide), nw_nK (show 93 ≠ 10 by decide), nw_nK (show 99 ≠ 10 by decide), nw_eq]
  exact ⟨a1, by omega, fun x y => by omega⟩
theorem KRw.n104 (h : KRw n0 n) : KRw n0 (nw n 10 0 4 (n 10 0 6)) := by
  obtain ⟨a1, a3, a4⟩ := h
  unfold KRw
  rw [nw_nK (show 90 ≠ 10 by decide), nw_nK (show 92 ≠ 10 by decide), nw_nK (show 93 ≠ 10 by decide), nw_nK (show 99 ≠ 10 by decide), nw_eq, nw_ns (show (6 : Int) ≠ 4 by decide)]
  exact ⟨a1, a3, fun x y => by omega⟩
theorem KRw.n99 (hu : n 92 0 u = b) (ht : b ≠ 0) (h : KRw n0 n) : KRw n0 (nw n 99 u i v) := by
  obtain ⟨⟨a1, a2⟩, a3⟩ := h
  unfold KRw
  rw [nw_nK (show 90 ≠ 99 by decide), nw_nK (show 92 ≠ 99 by decide), nw_nK (show 93 ≠ 99 by decide), nw_nK (show 10 ≠ 99 by decide)]
  refine ⟨⟨a1, fun q hq => ?_⟩, a3⟩
  obtain ⟨c1, c2, c3⟩ := a2 q hq
  refine ⟨c1, c2, fun z => ?_⟩
  rw [nw_ni (fun w => by rw [w] at c1 z; rw [c1, z] at hu; exact ht hu.symm)]; exact c3 z
theorem KRw.nA {g : Int → Int} (hu : n 92 0 u = b) (ht : b ≠ 0) (h : KRw n0 n) : KRw n0 (nwA n 99 u g) := by
  obtain ⟨⟨a1, a2⟩, a3⟩ := h
  unfold KRw
  rw [nwA_nK (show 90 ≠ 99 by decide), nwA_nK (show 92 ≠ 99 by decide), nwA_nK (show 93 ≠ 99 by decide), nwA_nK (show 10 ≠ 99 by decide)]
  refine ⟨⟨a1, fun q hq => ?_⟩, a3⟩
  obtain ⟨c1, c2, c3⟩ := a2 q hq
  refine ⟨c1, c2, fun z => ?_⟩
  rw [nwA_ni (fun w => by rw [w] at c1 z; rw [c1, z] at hu; exact ht hu.symm)]; exact c3 z
theorem KRw.new (h : KRw n0 n) : KRw n0 (nnew n t a b) := by
  obtain ⟨⟨a1, a2⟩, a3⟩ := h
  have e90 : nnew n t a b 90 0 0 = n 90 0 0 + 1 := by unfold nnew; rw [nw_eq]
  have e10 : nnew n t a b 10 = n 10 := by unfold nnew; rw [nw_nK (by decide), nw_nK (by decide), nw_nK (by decide), nw_nK (by decide), nwA_nK (by decide)]
  have e92 : ∀ q, q < n 90 0 0 → nnew n t a b 92 0 q = n 92 0 q := fun q hq => by unfold nnew; rw [nw_nK (by decide), nw_nK (by decide), nw_ns (by omega), nw_nK (by decide), nwA_nK (by decide)]
  have e93 : ∀ q, q < n 90 0 0 → nnew n t a b 93 0 q = n 93 0 q := fun q hq => by unfold nnew; rw [nw_nK (by decide), nw_nK (by decide), nw_nK (by decide), nw_ns (by omega), nwA_nK (by decide)]
  have e99 : ∀ q, q < n 90 0 0 → nnew n t a b 99 q = n 99 q := fun q hq => by unfold nnew; rw [nw_nK (by decide), nw_nK (by decide), nw_nK (by decide), nw_nK (by decide), nwA_ni (by omega)]
  unfold KRw
  rw [e90, e10]
  refine ⟨⟨by omega, fun q hq => ?_⟩, a3⟩
  rw [e92 q (by omega), e93 q (by omega), e99 q (by omega)]; exact a2 q hq
theorem kz_none : kz P none := fun _ h => by cases h
theorem kz_g {p : Prop} [Decidable p] (h : kz P x) : kz P (if p then x else none) := fun r hr => by
  by_cases z : p
  · rw [if_pos z] at hr; exact h r hr
  · rw [if_neg z] at hr; cases hr
theorem kz_ck (h : kz P x) : kz P (ck a x) := kz_g h
theorem kz_ckL (h : kz P x) : kz P (ckL a x) := kz_g h
theorem kz_ix (h : kz P x) : kz P (ix a b x) := kz_g h
theorem kz_cz (h : kz P x) : kz P (cz a x) := kz_g h
theorem kz_nn (h : kz P x) : kz P (nn a x) := kz_g h
theorem kz_cd (h : kz P x) : kz P (cd a b x) := kz_g h
theorem kz_or8 (h : kz P x) : kz P (or8 a b x) := kz_g h
theorem kz_sh5 (h : kz P x) : kz P (sh5 a x) := kz_g h
theorem kz_sh6 (h : kz P x) : kz P (sh6 a x) := kz_g h
theorem kz_al1 (h : kz P x) : kz P (al1 n x) := kz_g h
theorem kz_al2 (h : kz P x) : kz P (al2 n a x) := kz_g h
theorem kz_gcn (h : kz P x) : kz P (gcn n x) := kz_g h
theorem kz_dx (h : n 92 0 u = a → kz P x) : kz P (dx n u a i x) := fun r hr => by
  unfold dx at hr
  by_cases z : n 92 0 u = a ∧ 0 ≤ i ∧ i < n 93 0 u
  · rw [if_pos z] at hr; exact h z.1 r hr
  · rw [if_neg z] at hr; cases hr
theorem kz_ty (h : n 92 0 u = a → kz P x) : kz P (ty n u a x) := fun r hr => by
  unfold ty at hr
  by_cases z : n 92 0 u = a
  · rw [if_pos z] at hr; exact h z r hr
  · rw [if_neg z] at hr; cases hr
theorem kz_cpg {u0 u1 sp' dp c : Int} (h : n 92 0 u0 = a → n 92 0 u1 = a → kz P x) : kz P (cpg n a u0 sp' u1 dp c x) := fun r hr => by
  unfold cpg at hr
  by_cases z : n 92 0 u0 = a ∧ n 92 0 u1 = a ∧ (0 ≤ sp' ∧ 0 ≤ dp ∧ 0 ≤ c) ∧ sp' + c ≤ n 93 0 u0 ∧ dp + c ≤ n 93 0 u1
  · rw [if_pos z] at hr; exact h z.1 z.2.1 r hr
  · rw [if_neg z] at hr; cases hr
theorem kz_if {p : Prop} [Decidable p] {y : Option α} (h : kz P x) (h' : kz P y) : kz P (if p then x else y) := by
  by_cases z : p
  · rw [if_pos z]; exact h
  · rw [if_neg z]; exact h'
theorem kz_ifc {p : Prop} [Decidable p] {y : Option α} (h : p → kz P x) (h' : ¬ p → kz P y) : kz P (if p then x else y) := by
  by_cases z : p
  · rw [if_pos z]; exact h z
  · rw [if_neg z]; exact h' z
theorem kz_st {F : NS → Option α} (h : KRw n0 n) (hF : ∀ n', KRw n0 n' → kz P (F n')) : kz P (st n F) := hF n h
theorem kz_b {y : Option β} {f : β → Option α} (h : kz Q y) (hf : ∀ c, Q c → kz P (f c)) : kz P (y.bind f) := fun r hr => by
  cases y with
  | none => cases hr
  | some c => exact hf c (h c rfl) r hr
theorem kz_bt {y : Option β} {f : β → Option α} (hf : ∀ c, kz P (f c)) : kz P (y.bind f) := kz_b (Q := fun _ => True) (fun _ _ => trivial) (fun c _ => hf c)
theorem kz_us {F : β → Option α} {G : γ → Option α} {c : β ⊕ γ} (hF : ∀ c, kz P (F c)) (hG : ∀ c, kz P (G c)) : kz P (us F G c) := by
  cases c with
  | inl c => exact hF c
  | inr c => exact hG c
theorem kz_usi {F : β → Option α} {G : γ → Option α} {Q' : γ → Prop} (hF : ∀ c, Q c → kz P (F c)) (hG : ∀ c, Q' c → kz P (G c)) : ∀ c : β ⊕ γ, sp Q Q' c → kz P (us F G c) := fun c h => by
  cases c with
  | inl c => exact hF c h
  | inr c => exact hG c h
theorem kz_u2 {F : β → γ → Option α} {c : β × γ} (hF : ∀ c d, kz P (F c d)) : kz P (u2 F c) := hF _ _
theorem kz_u2i {F : Int → NS → Option α} (hF : ∀ c d, KRw n0 d → kz P (F c d)) : ∀ c : Int × NS, kI n0 c → kz P (u2 F c) := fun c h => hF c.1 c.2 h
theorem kz_u3 {δ : Type} {F : β → γ → δ → Option α} {c : β × γ × δ} (hF : ∀ c d d', kz P (F c d d')) : kz P (u3 F c) := hF _ _ _
theorem kz_u3i {F : Int → Int → NS → Option α} (hF : ∀ c c' d, KRw n0 d → kz P (F c c' d)) : ∀ c : Int × Int × NS, kJ n0 c → kz P (u3 F c) := fun c h => hF c.1 c.2.1 c.2.2 h
theorem kz_some {c : α} (h : P c) : kz P (some c) := fun r hr => by cases hr; exact h
theorem kq_t {c : α} : kT c := trivial
theorem kq_l {Q' : γ → Prop} {c : β} (h : Q c) : sp Q Q' (Sum.inl c) := h
theorem kq_r {Q' : γ → Prop} {c : γ} (h : Q' c) : sp Q Q' (Sum.inr c) := h
theorem kq_i (h : KRw n0 n) : kI n0 (a, n) := h
theorem kq_j (h : KRw n0 n) : kJ n0 (a, b, n) := h
theorem kz_itN {σ ρ : Type} {f : σ → Option (σ ⊕ ρ)} {R : ρ → Prop} (I : σ → Prop) (hb : ∀ s, I s → kz (sp I R) (f s)) : ∀ (k : Nat) (s : σ), I s → kz R (itN f k s)
  | 0, _, _ => kz_none
  | k + 1, s, hs => fun r hr => by
    unfold itN at hr
    cases hc : f s with
    | none => rw [hc] at hr; cases hr
    | some c =>
      rw [hc] at hr
      have g := hb s hs c hc
      cases c with
      | inl s' => exact kz_itN I hb k s' g r hr
      | inr r' => cases hr; exact g
theorem kz_it {σ ρ : Type} {f : σ → Option (σ ⊕ ρ)} {R : ρ → Prop} {s : σ} (I : σ → Prop) (hb : ∀ s, I s → kz (sp I R) (f s)) (h : I s) : kz R (it f s) := fun r hr => by
  obtain ⟨k, hk⟩ := it_some.mp hr
  exact kz_itN I hb k s h r hk
end YH
