/-! THE TAPE AND THE CLOCK of the reference: rules -/
def KYt (m0 m : YS) : Prop := (m 1 0 = m0 1 0 ∨ m 1 0 = 0) ∧ m 25 0 = m0 25 0
def yI (m0 : YS) (r : Int × YS) : Prop := KYt m0 r.2
def yJ (m0 : YS) (r : Int × Int × YS) : Prop := KYt m0 r.2.2
section YZ4
variable {α : Type} {P : α → Prop} {m m0 : YS} {i v a b : Int} {F : Nat}
theorem KYt.refl : KYt m m := ⟨.inl rfl, rfl⟩
theorem KYt.w (h1 : F ≠ 1) (h2 : F ≠ 25) (h : KYt m0 m) : KYt m0 (yw m F i v) := by
  unfold KYt
  rw [yw_nF (Ne.symm h1), yw_nF (Ne.symm h2)]; exact h
theorem KYt.z (h : KYt m0 m) : KYt m0 (yw m 1 0 0) := by
  unfold KYt
  rw [yw_eq, yw_nF (by decide)]; exact ⟨.inr rfl, h.2⟩
theorem kz_sty {G : YS → Option α} (h : KYt m0 m) (hF : ∀ m', KYt m0 m' → kz P (G m')) : kz P (st m G) := hF m h
theorem kz_u2iy {G : Int → YS → Option α} (hF : ∀ c d, KYt m0 d → kz P (G c d)) : ∀ c : Int × YS, yI m0 c → kz P (u2 G c) := fun c h => hF c.1 c.2 h
theorem kz_u3iy {G : Int → Int → YS → Option α} (hF : ∀ c c' d, KYt m0 d → kz P (G c c' d)) : ∀ c : Int × Int × YS, yJ m0 c → kz P (u3 G c) := fun c h => hF c.1 c.2.1 c.2.2 h
theorem kq_iy (h : KYt m0 m) : yI m0 (a, m) := h
theorem kq_jy (h : KYt m0 m) : yJ m0 (a, b, m) := h
end YZ4
