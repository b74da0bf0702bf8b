/-- a loop with a number that falls beside its state -/
def lg {σ ρ : Type} (I : σ → Int → Prop) (x : Int) (R : ρ → Prop) : σ ⊕ ρ → Prop
  | .inl s => ∃ x', I s x' ∧ x' < x ∧ 0 ≤ x
  | .inr r => R r
theorem ev_itg {σ ρ : Type} {f : σ → Option (σ ⊕ ρ)} {R : ρ → Prop} {I : σ → Int → Prop} (hb : ∀ s x, I s x → ev (f s) (lg I x R)) {s : σ} {x : Int} (h : I s x) : ev (it f s) R := by
  have : ∀ (k : Nat) (s : σ) (x : Int), (x + 1).toNat ≤ k → I s x → ev (it f s) R := by
    intro k
    induction k with
    | zero =>
      intro s x hk hs
      obtain ⟨o, ho, hl⟩ := hb s x hs
      rw [ev, it_eq, ho]
      cases o with
      | inl s' => obtain ⟨x', _, _, h0⟩ := hl; exact absurd h0 (by omega)
      | inr r => exact ⟨r, rfl, hl⟩
    | succ k ih =>
      intro s x hk hs
      obtain ⟨o, ho, hl⟩ := hb s x hs
      rw [ev, it_eq, ho]
      cases o with
      | inl s' => obtain ⟨x', h1, h2, h0⟩ := hl; exact ih s' x' (by omega) h1
      | inr r => exact ⟨r, rfl, hl⟩
  exact this _ s x (Nat.le_refl _) h
theorem ev_gl {σ ρ : Type} {I : σ → Int → Prop} {x x' : Int} {R : ρ → Prop} {s : σ} (h : I s x') (h1 : x' < x) (h0 : 0 ≤ x) : ev (some (Sum.inl s)) (lg I x R) := ⟨_, rfl, x', h, h1, h0⟩
theorem ev_gr {σ ρ : Type} {I : σ → Int → Prop} {x : Int} {R : ρ → Prop} {r : ρ} (h : R r) : ev (some (Sum.inr r)) (lg I x R) := ⟨_, rfl, h⟩
/-! THE TREE: N nodes in their order; o: which node at a place; e: where all in it ends; p: the place of what it lies in -/
def TG (N : Int) (o e p par fk nx : Int → Int) : Prop :=
  (1 ≤ N ∧ N ≤ 120 ∧ o 0 = 0 ∧ e 0 = N ∧ par (o 0) = -1 ∧ nx (o 0) = -1)
  ∧ (∀ k, 0 ≤ k → k < N → 0 ≤ o k ∧ o k < 120)
  ∧ (∀ j k, 0 ≤ j → j < N → 0 ≤ k → k < N → o j = o k → j = k)
  ∧ (∀ k, 0 ≤ k → k < N → k < e k ∧ e k ≤ N)
  ∧ (∀ k j, 0 ≤ k → k < j → j < e k → j < N → e j ≤ e k)
  ∧ (∀ k, 1 ≤ k → k < N → 0 ≤ p k ∧ p k < k ∧ k < e (p k))
  ∧ (∀ k j, 1 ≤ k → k < N → p k < j → j < k → e j ≤ k)
  ∧ (∀ k, 1 ≤ k → k < N → par (o k) = o (p k))
  ∧ (∀ k, 0 ≤ k → k < N → fk (o k) = if k + 1 < e k then o (k + 1) else -1)
  ∧ (∀ k, 1 ≤ k → k < N → nx (o k) = if e k < e (p k) then o (e k) else -1)
/-- last ones, and those before -/
def TL (N : Int) (o e p lk : Int → Int) : Prop := (∀ k, 0 ≤ k → k < N → e k = k + 1 → lk (o k) = -1) ∧ (∀ k j, 0 ≤ k → k < j → j < N → p j = k → e j = e k → lk (o k) = o j)
def TB (N : Int) (o e p bf : Int → Int) : Prop := bf (o 0) = -1 ∧ (∀ k, 1 ≤ k → k < N → k = p k + 1 → bf (o k) = -1) ∧ (∀ k j, 1 ≤ k → k < N → 1 ≤ j → j < k → p j = p k → e j = k → bf (o k) = o j)
section B1
variable {N : Int} {o e p par fk nx : Int → Int}
theorem TG.e0 (h : TG N o e p par fk nx) : e 0 = N := h.1.2.2.2.1
theorem TG.oB (h : TG N o e p par fk nx) {k : Int} (h0 : 0 ≤ k) (h1 : k < N) : 0 ≤ o k ∧ o k < 120 := h.2.1 k h0 h1
theorem TG.inj (h : TG N o e p par fk nx) {j k : Int} (h0 : 0 ≤ j) (h1 : j < N) (h2 : 0 ≤ k) (h3 : k < N) (he : o j = o k) : j = k := h.2.2.1 j k h0 h1 h2 h3 he
theorem TG.eB (h : TG N o e p par fk nx) {k : Int} (h0 : 0 ≤ k) (h1 : k < N) : k < e k ∧ e k ≤ N := h.2.2.2.1 k h0 h1
theorem TG.nest (h : TG N o e p par fk nx) {k j : Int} (h0 : 0 ≤ k) (h1 : k < j) (h2 : j < e k) (h3 : j < N) : e j ≤ e k := h.2.2.2.2.1 k j h0 h1 h2 h3
theorem TG.pB (h : TG N o e p par fk nx) {k : Int} (h0 : 1 ≤ k) (h1 : k < N) : 0 ≤ p k ∧ p k < k ∧ k < e (p k) := h.2.2.2.2.2.1 k h0 h1
theorem TG.pM (h : TG N o e p par fk nx) {k j : Int} (h0 : 1 ≤ k) (h1 : k < N) (h2 : p k < j) (h3 : j < k) : e j ≤ k := h.2.2.2.2.2.2.1 k j h0 h1 h2 h3
theorem TG.parE (h : TG N o e p par fk nx) {k : Int} (h0 : 1 ≤ k) (h1 : k < N) : par (o k) = o (p k) := h.2.2.2.2.2.2.2.1 k h0 h1
theorem TG.fkE (h : TG N o e p par fk nx) {k : Int} (h0 : 0 ≤ k) (h1 : k < N) : fk (o k) = if k + 1 < e k then o (k + 1) else -1 := h.2.2.2.2.2.2.2.2.1 k h0 h1
theorem TG.nxE (h : TG N o e p par fk nx) {k : Int} (h0 : 1 ≤ k) (h1 : k < N) : nx (o k) = if e k < e (p k) then o (e k) else -1 := h.2.2.2.2.2.2.2.2.2 k h0 h1
theorem TG.nx0 (h : TG N o e p par fk nx) : nx (o 0) = -1 := h.1.2.2.2.2.2
theorem TG.par0 (h : TG N o e p par fk nx) : par (o 0) = -1 := h.1.2.2.2.2.1
theorem TG.o0 (h : TG N o e p par fk nx) : o 0 = 0 := h.1.2.2.1
theorem TG.N1 (h : TG N o e p par fk nx) : 1 ≤ N ∧ N ≤ 120 := ⟨h.1.1, h.1.2.1⟩
/-- all in it ends not behind the end of what it lies in -/
theorem TG.ep (h : TG N o e p par fk nx) {k : Int} (h0 : 1 ≤ k) (h1 : k < N) : e k ≤ e (p k) := by
  have := h.pB h0 h1
  exact h.nest this.1 this.2.1 this.2.2 h1
/-- what comes behind a kid, if it still lies in the same, is a kid too -/
theorem TG.sib (h : TG N o e p par fk nx) {k j : Int} (h0 : 1 ≤ j) (h1 : j < N) (hk : p j = k) (hl : e j < e k) : p (e j) = k := by
  have hp := h.pB h0 h1
  have he := h.eB (k := j) (by omega) h1
  have hk0 : 0 ≤ k := by omega
  have heN : e k ≤ N := (h.eB hk0 (by omega)).2
  have hq := h.pB (k := e j) (by omega) (by omega)
  rcases Int.lt_trichotomy (p (e j)) k with h2 | h2 | h2
  · have := h.pM (k := e j) (j := k) (by omega) (by omega) h2 (by omega)
    omega
  · exact h2
  · exfalso
    rcases Int.lt_trichotomy (p (e j)) j with h3 | h3 | h3
    · have := h.pM (k := j) (j := p (e j)) h0 h1 (by omega) h3
      omega
    · rw [h3] at hq; omega
    · have := h.nest (k := j) (j := p (e j)) (by omega) h3 (by omega) (by omega)
      omega
/-- where things lie one in another -/
def Sub (o e : Int → Int) (t k : Int) : Prop := t ≤ k ∧ k < e t
theorem TG.inP (h : TG N o e p par fk nx) {t k : Int} (h0 : 0 ≤ t) (ht : t < N) (hk : t < k) (hl : k < e t) : t ≤ p k := by
  have := h.eB h0 ht
  have hp := h.pB (k := k) (by omega) (by omega)
  rcases Int.lt_or_le (p k) t with h1 | h1
  · have := h.pM (k := k) (j := t) (by omega) (by omega) h1 hk
    omega
  · exact h1
end B1
/-- the reference's tree -/
def TY (m : YS) (N : Int) (o e p : Int → Int) : Prop := TG N o e p (m 49) (m 50) (m 52)
section B2
variable {m : YS} {N : Int} {o e p : Int → Int}
theorem y_behind (h : TY m N o e p) {t k : Int} (h0 : 0 ≤ t) (h1 : t ≤ k) (h2 : k < e t) (h3 : t < N) : N_Y_behind (o k) (o t) m = some (if e k < e t then o (e k) else -1) := by
  apply eq_of_ev
  have hN := h.N1
  have hte := h.eB h0 h3
  have hkN : k < N := by omega
  have hke := h.eB (k := k) (by omega) hkN
  unfold N_Y_behind NL_Y_behind_2
  refine ev_bind (P := fun v => ∃ j, t ≤ j ∧ j ≤ k ∧ v = o j ∧ e j = e k ∧ (j = t ∨ (e k < e (p j) ∧ t < j))) (ev_itg (I := fun s j => t ≤ j ∧ j ≤ k ∧ s = o j ∧ e j = e k) (fun s j hs => ?_) (x := k) ⟨h1, Int.le_refl _, rfl, rfl⟩) (fun v hv => ?_)
  · obtain ⟨g1, g2, rfl, g4⟩ := hs
    unfold nb_Y_behind_2
    have hob := h.oB (k := j) (by omega) (by omega)
    refine ev_if (fun he => ?_) (fun he => ?_)
    · have := h.inj (by omega) (by omega) h0 h3 he
      exact ev_gr ⟨j, g1, g2, rfl, g4, .inl this⟩
    · have htj : t < j := by
        rcases Int.lt_or_eq_of_le g1 with h4 | h4
        · exact h4
        · exact absurd (by rw [h4]) he
      have hp := h.pB (k := j) (by omega) (by omega)
      have hpt := h.inP h0 h3 htj (by omega)
      have hep := h.ep (k := j) (by omega) (by omega)
      refine ev_ix hob ?_
      rw [h.nxE (k := j) (by omega) (by omega)]
      by_cases hc : e j < e (p j)
      · have hoe := h.oB (k := e j) (by omega) (by have := (h.eB (k := p j) (by omega) (by omega)).2; omega)
        rw [if_pos hc]
        refine ev_if (fun hz => by omega) (fun _ => ev_gr ⟨j, g1, g2, rfl, g4, .inr ⟨by omega, htj⟩⟩)
      · rw [if_neg hc]
        refine ev_if (fun _ => ev_ix hob ?_) (fun hz => absurd rfl hz)
        rw [h.parE (k := j) (by omega) (by omega)]
        exact ev_gl (x' := p j) ⟨hpt, by omega, rfl, by omega⟩ (by omega) (by omega)
  · obtain ⟨j, g1, g2, rfl, g4, g5⟩ := hv
    have hob := h.oB (k := j) (by omega) (by omega)
    unfold nk_Y_behind_27
    rcases g5 with g5 | g5
    · subst g5
      refine ev_if (fun _ => ev_ok ?_) (fun hz => absurd rfl hz)
      rw [if_neg (by omega)]
    · have hp := h.pB (k := j) (by omega) (by omega)
      have hpt := h.inP h0 h3 g5.2 (by omega)
      have hpe : e (p j) ≤ e t := by
        rcases Int.lt_or_eq_of_le hpt with h4 | h4
        · exact h.nest h0 h4 (by omega) (by omega)
        · rw [← h4]; exact Int.le_refl _
      refine ev_if (fun hz => ?_) (fun _ => ev_ix hob (ev_ok ?_))
      · have := h.inj (by omega) (by omega) h0 h3 hz; omega
      · rw [h.nxE (k := j) (by omega) (by omega), if_pos (by omega), if_pos (by omega), g4]
theorem y_after (h : TY m N o e p) {t k : Int} (h0 : 0 ≤ t) (h1 : t ≤ k) (h2 : k < e t) (h3 : t < N) : N_Y_after (o k) (o t) m = some (if k + 1 < e t then o (k + 1) else -1) := by
  apply eq_of_ev
  have hte := h.eB h0 h3
  have hke := h.eB (k := k) (by omega) (by omega)
  have hob := h.oB (k := k) (by omega) (by omega)
  have het : e k ≤ e t := by
    rcases Int.lt_or_eq_of_le h1 with h4 | h4
    · exact h.nest h0 h4 h2 (by omega)
    · rw [← h4]; exact Int.le_refl _
  unfold N_Y_after
  refine ev_ix hob ?_
  rw [h.fkE (k := k) (by omega) (by omega)]
  by_cases hc : k + 1 < e k
  · have := h.oB (k := k + 1) (by omega) (by omega)
    rw [if_pos hc]
    exact ev_if (fun hz => by omega) (fun _ => ev_ix hob (ev_ok (by rw [if_pos (by omega)])))
  · rw [if_neg hc]
    refine ev_if (fun _ => ?_) (fun hz => absurd rfl hz)
    refine ev_eq (y_behind h h0 h1 h2 h3) (ev_ok ?_)
    rw [show e k = k + 1 by omega]
end B2
