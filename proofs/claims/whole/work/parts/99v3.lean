/-! THE CASCADE hangs on fields 45 to 63 alone -/
section V3
variable {n n' : NS} {m m' m0 m0' : YS} {A B N : Int} {o e q : Int → Int}
theorem casc_det (hB : BI A B n) (hT : JT n m N o e q) (hJ : JP m N o q) (h0 : m 46 0 ≠ 17) (hH : SHc n) (hne : n 9 0 14 ≠ n 10 0 6) (hm : ∀ f, 45 ≤ f → f ≤ 63 → m0 f = m f) : ∃ n' m0', N_Sheet_refresh n = some n' ∧ N_Y_cascade m0 = some m0' ∧ LKs n' m0' N o ∧ n' 9 0 13 = m0' 89 0 ∧ FY [89, 90, 91, 92, 93, 94, 95, 96, 97, 98, 99, 100, 101, 102, 103, 104, 105] m0 m0' := by
  have ez : ∀ f, 45 ≤ f → f ≤ 69 → pZ m m0 f = m f := fun f x y => by
    by_cases z : 64 ≤ f ∧ f ≤ 69
    · exact if_pos z
    · rw [pZ_r z]; exact hm f x (by omega)
  have hTz : JT n (pZ m m0) N o e q := hT.fb hB (FB.refl (fun _ => False) n) (fun x hx => hx.elim) ez
  have hJz : JP (pZ m m0) N o q := fun k x y => by rw [ez 46 (by decide) (by decide)]; exact hJ k x y
  obtain ⟨n', mz, r1, r2, _, _, _, _, r7, r8, _, _, _, _, r13⟩ := refresh_both hB hTz hJz (by rw [ez 46 (by decide) (by decide)]; exact h0) hH hne
  rw [z_N_Y_cascade (X := m) (m := m0)] at r2
  cases hc : N_Y_cascade m0 with
  | none => rw [hc] at r2; cases r2
  | some m0' =>
    rw [hc] at r2
    have emz : mz = pZ m m0' := (Option.some.inj r2).symm
    have g : ∀ f, ¬ (64 ≤ f ∧ f ≤ 69) → mz f = m0' f := fun f hf => by rw [emz]; exact pZ_r hf
    refine ⟨n', m0', r1, rfl, fun k a b c => ?_, by rw [r7.1, g 89 (by decide)], fun f hf => ?_⟩
    · have := r8 k a b (by rw [g 46 (by decide)]; exact c)
      intro p p0 p1
      have h := this p p0 p1
      rw [g 105 (by decide)] at h; exact h
    · by_cases z : 64 ≤ f ∧ f ≤ 69
      · have hX : N_Y_cascade (pZ m0 m0) = (N_Y_cascade m0).map (pZ m0) := z_N_Y_cascade
        have e0 : pZ m0 m0 = m0 := by funext f; unfold pZ; split <;> rfl
        rw [e0, hc] at hX
        have := Option.some.inj hX
        rw [this]; exact if_pos z
      · rw [← g f z, r13 f hf, pZ_r z]
end V3
