/-! WHAT IS LAID OUT doesn't look at values, births and counts: fields 64 to 69 may be others -/
def pZ (X : YS) (m : YS) : YS := fun f => if 64 ≤ f ∧ f ≤ 69 then X f else m f
section V1
variable {X m : YS} {f : Nat} {i v a L : Int} {α β γ δ σ ρ σ' ρ' : Type}
theorem pZ_r (h : ¬ (64 ≤ f ∧ f ≤ 69)) : pZ X m f = m f := if_neg h
theorem pZ_w (h : ¬ (64 ≤ f ∧ f ≤ 69)) : yw (pZ X m) f i v = pZ X (yw m f i v) := by
  funext g j
  unfold pZ
  rw [yw_app]
  by_cases y : 64 ≤ g ∧ g ≤ 69
  · rw [if_neg (fun u => h (by rw [← u.1]; exact y)), if_pos y, if_pos y]
  · rw [if_neg y, if_neg y, yw_app]
theorem ck_map (x : Option α) (r : α → β) : (ck a x).map r = ck a (x.map r) := by
  unfold ck; split <;> rfl
theorem ix_map (x : Option α) (r : α → β) : (ix a L x).map r = ix a L (x.map r) := by
  unfold ix; split <;> rfl
theorem cz_map (x : Option α) (r : α → β) : (cz a x).map r = cz a (x.map r) := by
  unfold cz; split <;> rfl
theorem ite_map' {c : Prop} [Decidable c] (x y : Option α) (r : α → β) : (if c then x else y).map r = if c then x.map r else y.map r := by split <;> rfl
theorem bind_map1 (x : Option α) (g : α → Option β) (r : β → γ) : (x.bind g).map r = x.bind (fun y => (g y).map r) := by cases x <;> rfl
theorem map_bind1 (x : Option α) (r : α → β) (g : β → Option γ) : (x.map r).bind g = x.bind (fun y => g (r y)) := by cases x <;> rfl
theorem itN_map {f : σ → Option (σ ⊕ ρ)} {f' : σ' → Option (σ' ⊕ ρ')} (φ : σ → σ') (ψ : ρ → ρ') (h : ∀ s, f' (φ s) = (f s).map (Sum.map φ ψ)) : ∀ (n : Nat) (s : σ), itN f' n (φ s) = (itN f n s).map ψ := by
  intro n
  induction n with
  | zero => intro s; rfl
  | succ n ih =>
    intro s
    unfold itN
    rw [h s]
    cases f s with
    | none => rfl
    | some o =>
      cases o with
      | inl s' => exact ih s'
      | inr r => rfl
theorem it_map {f : σ → Option (σ ⊕ ρ)} {f' : σ' → Option (σ' ⊕ ρ')} (φ : σ → σ') (ψ : ρ → ρ') (h : ∀ s, f' (φ s) = (f s).map (Sum.map φ ψ)) (s : σ) : it f' (φ s) = (it f s).map ψ := by
  have hN := itN_map φ ψ h
  cases hx : it f s with
  | some r =>
    obtain ⟨n, hn⟩ := it_some.mp hx
    exact it_some.mpr ⟨n, by rw [hN, hn]; rfl⟩
  | none =>
    cases hy : it f' (φ s) with
    | none => rfl
    | some r' =>
      obtain ⟨n, hn⟩ := it_some.mp hy
      rw [hN] at hn
      cases hz : itN f n s with
      | none => rw [hz] at hn; cases hn
      | some r =>
        have := it_some.mpr ⟨n, hz⟩
        rw [hx] at this; cases this
theorem z_isBlank : N_Y_isBlank i (pZ X m) = N_Y_isBlank i m := rfl
theorem z_nb_blanks {to : Int} : nb_Y_blanks_2 to i (pZ X m) = nb_Y_blanks_2 to i m := by
  unfold nb_Y_blanks_2
  simp only [z_isBlank, pZ_r (X := X) (m := m) (f := 101) (by decide)]
theorem z_blanks {to : Int} : N_Y_blanks i to (pZ X m) = N_Y_blanks i to m := by
  unfold N_Y_blanks NL_Y_blanks_2
  simp only [z_nb_blanks]
theorem z_nb_readDeclarations_2 {b : Int} : nb_Y_readDeclarations_2 a b i (pZ X m) = (nb_Y_readDeclarations_2 a b i m).map (Sum.map (fun x => (x.1, pZ X x.2)) (pZ X)) := by
  unfold nb_Y_readDeclarations_2 st
  simp only [pZ_w (X := X) (m := m) (f := 103) (by decide), ck_map, ix_map, ite_map', Option.map_some, Sum.map_inl, Sum.map_inr]
theorem z_readDeclarations_2 {b : Int} : NL_Y_readDeclarations_2 a b i (pZ X m) = (NL_Y_readDeclarations_2 a b i m).map (pZ X) := by
  unfold NL_Y_readDeclarations_2
  exact it_map (fun s : Int × YS => (s.1, pZ X s.2)) (pZ X) (fun s => z_nb_readDeclarations_2) (i, m)
end V1
