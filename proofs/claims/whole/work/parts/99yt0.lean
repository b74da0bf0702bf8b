/-! ONLY INPUTS ARE MARKED (checked), in the class: rules -/
def KTg (n0 n : NS) : Prop := ∀ v, n 7 v 0 = n0 7 v 0 ∧ n 7 v 16 = n0 7 v 16
def CHK (n : NS) : Prop := ∀ v, 0 ≤ v → v < 120 → n 7 v 16 = 0 ∨ n 7 v 0 = 13 ∨ n 7 v 0 = -1
def tI (n0 : NS) (r : Int × NS) : Prop := KTg n0 r.2
def tJ (n0 : NS) (r : Int × Int × NS) : Prop := KTg n0 r.2.2
def cI (r : Int × NS) : Prop := CHK r.2
def cJ (r : Int × Int × NS) : Prop := CHK r.2.2
section YT0
variable {α β γ : Type} {P : α → Prop} {Q : β → Prop} {x : Option α} {n n0 n' : NS} {i s v u a b : Int} {K t : Nat}
theorem KTg.refl : KTg n n := fun _ => ⟨rfl, rfl⟩
theorem KTg.nwr (h1 : K ≠ 7) (h : KTg n0 n) : KTg n0 (nw n K i s v) := fun w => by rw [nw_nK (Ne.symm h1)]; exact h w
theorem KTg.n7 (h1 : s ≠ 0) (h2 : s ≠ 16) (h : KTg n0 n) : KTg n0 (nw n 7 i s v) := fun w => by rw [nw_ns (Ne.symm h1), nw_ns (Ne.symm h2)]; exact h w
theorem KTg.nA {g : Int → Int} (h : KTg n0 n) : KTg n0 (nwA n 99 u g) := fun w => by rw [nwA_nK (by decide)]; exact h w
theorem nnew_7 : nnew n t a b 7 = n 7 := by unfold nnew; rw [nw_nK (by decide), nw_nK (by decide), nw_nK (by decide), nw_nK (by decide), nwA_nK (by decide)]
theorem KTg.new (h : KTg n0 n) : KTg n0 (nnew n t a b) := fun w => by rw [nnew_7]; exact h w
theorem CHK.kt (h : CHK n) (ht : KTg n n') : CHK n' := fun v x y => by rw [(ht v).1, (ht v).2]; exact h v x y
theorem CHK.nwr (h1 : K ≠ 7) (h : CHK n) : CHK (nw n K i s v) := h.kt (KTg.nwr h1 KTg.refl)
theorem CHK.n7 (h1 : s ≠ 0) (h2 : s ≠ 16) (h : CHK n) : CHK (nw n 7 i s v) := h.kt (KTg.n7 h1 h2 KTg.refl)
theorem CHK.nA {g : Int → Int} (h : CHK n) : CHK (nwA n 99 u g) := h.kt (KTg.nA KTg.refl)
theorem CHK.new (h : CHK n) : CHK (nnew n t a b) := h.kt (KTg.new KTg.refl)
theorem CHK.fr (h : CHK n) : CHK (nw n 7 i 0 (-1)) := fun w x y => by
  rw [nw_ns (by decide)]
  by_cases z : w = i
  · rw [z, nw_eq]; exact .inr (.inr rfl)
  · rw [nw_ni z]; exact h w x y
theorem CHK.z (h : CHK n) : CHK (nw n 7 i 16 0) := fun w x y => by
  rw [nw_ns (show (0 : Int) ≠ 16 by decide)]
  by_cases z : w = i
  · rw [z, nw_eq]; exact .inl rfl
  · rw [nw_ni z]; exact h w x y
theorem CHK.stt (h13 : n 7 i 0 = 13) (h : CHK n) : CHK (nw n 7 i 16 v) := fun w x y => by
  rw [nw_ns (show (0 : Int) ≠ 16 by decide)]
  by_cases z : w = i
  · rw [z, h13]; exact .inr (.inl rfl)
  · rw [nw_ni z]; exact h w x y
theorem kz_stt {F : NS → Option α} (h : KTg n0 n) (hF : ∀ n', KTg n0 n' → kz P (F n')) : kz P (st n F) := hF n h
theorem kz_stc {F : NS → Option α} (h : CHK n) (hF : ∀ n', CHK n' → kz P (F n')) : kz P (st n F) := hF n h
theorem kz_ste {F : NS → Option α} (hF : ∀ n', n' = n → kz P (F n')) : kz P (st n F) := hF n rfl
theorem kz_u2it {F : Int → NS → Option α} (hF : ∀ c d, KTg n0 d → kz P (F c d)) : ∀ c : Int × NS, tI n0 c → kz P (u2 F c) := fun c h => hF c.1 c.2 h
theorem kz_u3it {F : Int → Int → NS → Option α} (hF : ∀ c c' d, KTg n0 d → kz P (F c c' d)) : ∀ c : Int × Int × NS, tJ n0 c → kz P (u3 F c) := fun c h => hF c.1 c.2.1 c.2.2 h
theorem kz_u2ic {F : Int → NS → Option α} (hF : ∀ c d, CHK d → kz P (F c d)) : ∀ c : Int × NS, cI c → kz P (u2 F c) := fun c h => hF c.1 c.2 h
theorem kz_u3ic {F : Int → Int → NS → Option α} (hF : ∀ c c' d, CHK d → kz P (F c c' d)) : ∀ c : Int × Int × NS, cJ c → kz P (u3 F c) := fun c h => hF c.1 c.2.1 c.2.2 h
theorem kq_it (h : KTg n0 n) : tI n0 (a, n) := h
theorem kq_jt (h : KTg n0 n) : tJ n0 (a, b, n) := h
theorem kq_ic (h : CHK n) : cI (a, n) := h
theorem kq_jc (h : CHK n) : cJ (a, b, n) := h
end YT0
