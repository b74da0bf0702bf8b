/-! EVALUATION on numbers -/
def ev {α : Type} (x : Option α) (Q : α → Prop) : Prop := ∃ a, x = some a ∧ Q a
def lp {σ ρ : Type} (I : σ → Prop) (μ : σ → Int) (s0 : σ) (Q : ρ → Prop) : σ ⊕ ρ → Prop
  | .inl s => I s ∧ μ s < μ s0 ∧ 0 ≤ μ s0
  | .inr r => Q r
def sp {α β : Type} (P : α → Prop) (Q : β → Prop) : α ⊕ β → Prop
  | .inl a => P a
  | .inr b => Q b
section EV
variable {α β γ δ σ ρ : Type} {Q : α → Prop} {x A B : Option α} {a b i L : Int}
theorem ev_ok {v : α} (h : Q v) : ev (some v) Q := ⟨v, rfl, h⟩
theorem ev_bind {P : β → Prop} {y : Option β} {F : β → Option α} (h : ev y P) (k : ∀ v, P v → ev (F v) Q) : ev (y.bind F) Q := by
  obtain ⟨v, rfl, hv⟩ := h
  exact k v hv
theorem ev_eq {v : β} {y : Option β} {F : β → Option α} (h : y = some v) (k : ev (F v) Q) : ev (y.bind F) Q := by rw [h]; exact k
theorem ev_mono {P : α → Prop} (h : ev x P) (k : ∀ v, P v → Q v) : ev x Q := by
  obtain ⟨v, e, hv⟩ := h
  exact ⟨v, e, k v hv⟩
theorem ev_of {v : α} (h : x = some v) (k : Q v) : ev x Q := ⟨v, h, k⟩
theorem ev_g {p : Prop} [Decidable p] (h : p) (k : ev x Q) : ev (if p then x else none) Q := by rw [if_pos h]; exact k
theorem ev_if {p : Prop} [Decidable p] (k1 : p → ev A Q) (k2 : ¬ p → ev B Q) : ev (if p then A else B) Q := by
  by_cases h : p
  · rw [if_pos h]; exact k1 h
  · rw [if_neg h]; exact k2 h
theorem ev_z0 (k : ev B Q) : ev (if (1 : Int) = 0 then A else B) Q := k
theorem ev_z1 (k : ev A Q) : ev (if (0 : Int) = 0 then A else B) Q := k
theorem ev_ck (h : inR a) (k : ev x Q) : ev (ck a x) Q := ev_g h k
theorem ev_ckL (h : inL a) (k : ev x Q) : ev (ckL a x) Q := ev_g h k
theorem ev_cz (h : inZ a) (k : ev x Q) : ev (cz a x) Q := ev_g h k
theorem ev_cb (h : inB a) (k : ev x Q) : ev (cb a x) Q := ev_g h k
theorem ev_ix (h : 0 ≤ i ∧ i < L) (k : ev x Q) : ev (ix i L x) Q := ev_g h k
theorem ev_nn (h : 0 ≤ a) (k : ev x Q) : ev (nn a x) Q := ev_g h k
theorem ev_cd (h : 0 ≤ a ∧ 0 < b) (k : ev x Q) : ev (cd a b x) Q := ev_g h k
theorem ev_or8 (h : a % 256 = 0 ∧ 0 ≤ b ∧ b < 256) (k : ev x Q) : ev (or8 a b x) Q := ev_g h k
theorem ev_sh5 (h : 0 ≤ a ∧ a < 32) (k : ev x Q) : ev (sh5 a x) Q := ev_g h k
theorem ev_sh6 (h : 0 ≤ a ∧ a < 64) (k : ev x Q) : ev (sh6 a x) Q := ev_g h k
theorem ev_ty {n : NS} {t : Int} (h : n 92 0 a = t) (k : ev x Q) : ev (ty n a t x) Q := ev_g h k
theorem ev_dx {n : NS} {t : Int} (h : n 92 0 a = t ∧ 0 ≤ i ∧ i < n 93 0 a) (k : ev x Q) : ev (dx n a t i x) Q := ev_g h k
theorem ev_st {s : σ} {F : σ → Option α} (k : ev (F s) Q) : ev (st s F) Q := k
theorem ev_u2 {F : β → γ → Option α} {p : β} {q : γ} (k : ev (F p q) Q) : ev (u2 F (p, q)) Q := k
theorem ev_b2 {P : β × γ → Prop} {y : Option (β × γ)} {F : β → γ → Option α} (h : ev y P) (k : ∀ v w, P (v, w) → ev (F v w) Q) : ev (y.bind (u2 F)) Q := ev_bind h (fun v hv => k v.1 v.2 hv)
theorem ev_bs {P : β → Prop} {R : γ → Prop} {y : Option (β ⊕ γ)} {F : β → Option α} {G : γ → Option α} (h : ev y (sp P R)) (k1 : ∀ v, P v → ev (F v) Q) (k2 : ∀ v, R v → ev (G v) Q) : ev (y.bind (us F G)) Q := ev_bind h (fun v hv => by
  cases v with
  | inl v => exact k1 v hv
  | inr v => exact k2 v hv)
theorem ev_inl {I : σ → Prop} {μ : σ → Int} {s0 s : σ} {R : ρ → Prop} (h : I s ∧ μ s < μ s0 ∧ 0 ≤ μ s0) : ev (some (Sum.inl s)) (lp I μ s0 R) := ⟨_, rfl, h⟩
theorem ev_inr {I : σ → Prop} {μ : σ → Int} {s0 : σ} {R : ρ → Prop} {r : ρ} (h : R r) : ev (some (Sum.inr r)) (lp I μ s0 R) := ⟨_, rfl, h⟩
/-- a loop: what stays true, and what falls -/
theorem ev_it {f : σ → Option (σ ⊕ ρ)} {R : ρ → Prop} (I : σ → Prop) (μ : σ → Int) (hb : ∀ s, I s → ev (f s) (lp I μ s R)) {s : σ} (h : I s) : ev (it f s) R := by
  have : ∀ (k : Nat) (s : σ), (μ s + 1).toNat ≤ k → I s → ev (it f s) R := by
    intro k
    induction k with
    | zero =>
      intro s hk hs
      obtain ⟨o, ho, hl⟩ := hb s hs
      rw [ev, it_eq, ho]
      cases o with
      | inl s' => exact absurd hl.2.2 (by omega)
      | inr r => exact ⟨r, rfl, hl⟩
    | succ k ih =>
      intro s hk hs
      obtain ⟨o, ho, hl⟩ := hb s hs
      rw [ev, it_eq, ho]
      cases o with
      | inl s' => exact ih s' (by have := hl.2; omega) hl.1
      | inr r => exact ⟨r, rfl, hl⟩
  exact this _ s (Nat.le_refl _) h
end EV
/-! sorts of bytes -/
def sm (b : Int) : Prop := 97 ≤ b ∧ b ≤ 122
def dg (b : Int) : Prop := 48 ≤ b ∧ b ≤ 57
def nmc (b : Int) : Prop := (97 ≤ b ∧ b ≤ 122) ∨ (48 ≤ b ∧ b ≤ 57)
def bl (b : Int) : Prop := b = 10 ∨ b = 32
section CH
variable {α : Type} {Q : α → Prop} {b : Int} {m : YS} {n : NS} {F : Int → Option α}
theorem y_isSmall (k1 : (97 ≤ b ∧ b ≤ 122) → ev (F 1) Q) (k0 : ¬ (97 ≤ b ∧ b ≤ 122) → ev (F 0) Q) : ev ((N_Y_isSmall b m).bind F) Q := by
  unfold N_Y_isSmall
  by_cases h1 : b < 97
  · rw [if_pos h1]; exact k0 (by omega)
  · rw [if_neg h1]
    by_cases h2 : 122 < b
    · rw [if_pos h2]; exact k0 (by omega)
    · rw [if_neg h2]; exact k1 (by omega)
theorem y_isDigit (k1 : (48 ≤ b ∧ b ≤ 57) → ev (F 1) Q) (k0 : ¬ (48 ≤ b ∧ b ≤ 57) → ev (F 0) Q) : ev ((N_Y_isDigit b m).bind F) Q := by
  unfold N_Y_isDigit
  by_cases h1 : b < 48
  · rw [if_pos h1]; exact k0 (by omega)
  · rw [if_neg h1]
    by_cases h2 : 57 < b
    · rw [if_pos h2]; exact k0 (by omega)
    · rw [if_neg h2]; exact k1 (by omega)
theorem y_isBlank (k1 : (b = 10 ∨ b = 32) → ev (F 1) Q) (k0 : ¬ (b = 10 ∨ b = 32) → ev (F 0) Q) : ev ((N_Y_isBlank b m).bind F) Q := by
  unfold N_Y_isBlank
  by_cases h1 : b = 10
  · rw [if_pos h1]; exact k1 (by omega)
  · rw [if_neg h1]
    by_cases h2 : b = 32
    · rw [if_pos h2]; exact k1 (by omega)
    · rw [if_neg h2]; exact k0 (by omega)
end CH
/-- the least place from i on, before to, at which p does not hold; else to (i itself, if it is not before to) -/
def scn (p : Int → Prop) (i to r : Int) : Prop := (i ≤ r) ∧ (r ≤ to ∨ r = i) ∧ (∀ j, i ≤ j → j < r → p j) ∧ (r < to → ¬ p r)
theorem scn_un {p : Int → Prop} {i to r r' : Int} (h : scn p i to r) (h' : scn p i to r') : r = r' := by
  rcases Int.lt_trichotomy r r' with hl | hl | hl
  · have := h'.2.2.1 r h.1 hl
    exact absurd this (h.2.2.2 (by have := h'.2.1; have := h.1; omega))
  · exact hl
  · have := h.2.2.1 r' h'.1 hl
    exact absurd this (h'.2.2.2 (by have := h.2.1; have := h'.1; omega))
/-- nameEnd of the reference -/
theorem y_nameEnd_18 {f : Nat} {i to : Int} {m : YS} (hl : to ≤ yLn f) (h0 : 0 ≤ i) (hto : to ≤ 100000) (hi : i ≤ 100000) : ev (NL_Y_nameEnd_18 f i to i m) (scn (fun j => nmc (m f j)) i to) := by
  unfold NL_Y_nameEnd_18
  refine ev_it (fun s => i ≤ s ∧ (s ≤ to ∨ s = i) ∧ ∀ j, i ≤ j → j < s → nmc (m f j)) (fun s => to - s) (fun s hs => ?_) ⟨Int.le_refl _, .inr rfl, fun j h1 h2 => by omega⟩
  obtain ⟨h1, h2, h3⟩ := hs
  unfold nb_Y_nameEnd_18
  (repeat' (first | (with_reducible apply ev_z0) | (with_reducible apply ev_z1) | (with_reducible refine y_isSmall (fun _ => ?_) (fun _ => ?_)) | (with_reducible refine y_isDigit (fun _ => ?_) (fun _ => ?_)) | (with_reducible apply ev_ck; focus omega) | (with_reducible apply ev_ckL; focus omega) | (with_reducible apply ev_ix; focus omega) | (with_reducible apply ev_cz; focus omega) | (with_reducible apply ev_cb; focus omega) | (with_reducible apply ev_dx; focus omega) | (with_reducible apply ev_nn; focus omega) | (with_reducible apply ev_ty; focus omega) | (with_reducible apply ev_cd; focus omega) | (with_reducible apply ev_or8; focus omega) | (with_reducible apply ev_sh5; focus omega) | (with_reducible apply ev_sh6; focus omega) | (with_reducible apply ev_st) | (with_reducible refine ev_if (fun _ => ?_) (fun _ => ?_))))
  all_goals first
    | refine ev_inl ⟨⟨by omega, by omega, fun j hj1 hj2 => ?_⟩, by omega, by omega⟩
      by_cases hj : j = s
      · subst hj; unfold nmc; omega
      · exact h3 j hj1 (by omega)
    | refine ev_inr ⟨h1, h2, h3, fun _ => ?_⟩
      unfold nmc; omega
    | refine ev_inr ⟨h1, h2, h3, fun _ => ?_⟩
      omega
