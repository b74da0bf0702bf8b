/-! WHAT A NODE HOLDS changes: one node -/
def wClass : List Int := [99, 108, 97, 115, 115]
section L2
variable {n n' : NS} {m m' : YS} {A B N k v a d fr to L i : Int} {o e p g : Int → Int} {w : List Int}
/-- the data of one node are others -/
theorem JT.data (h : JT n m N o e p) (h0 : 0 ≤ k) (h1 : k < N) (hv : o k = v) (h7 : ∀ u s, s ≠ 12 → s ≠ 15 → s ≠ 16 → n' 7 u s = n 7 u s) (h10 : ∀ s, s ≠ 6 → n' 10 0 s = n 10 0 s) (h6 : n' 10 0 6 = n 10 0 6 ∨ n 10 0 6 < n' 10 0 6) (h22 : n' 22 = n 22) (hm : ∀ f, f = 45 ∨ (49 ≤ f ∧ f ≤ 55) ∨ f = 68 ∨ f = 69 → m' f = m f) (hy : ∀ u, u ≠ v → YG m m' u) (hn : ∀ u, 0 ≤ u → u < 120 → u ≠ v → NG n n' u) (hnd : ND n' m' v) : JT n' m' N o e p := by
  obtain ⟨hS, hK, hL, hD⟩ := h
  refine ⟨hS.cg2 (fun u s hs => h7 u s (by omega) (by omega) (by omega)) ⟨h10 5 (by decide), h10 7 (by decide)⟩ hm, fun j j0 j1 => by rw [h7 _ 6 (by decide) (by decide) (by decide)]; exact hK j j0 j1, ⟨by rw [h10 4 (by decide)]; have := hL.1; omega, fun z => ?_⟩, fun j j0 j1 => ?_⟩
  · rw [h10 4 (by decide)] at z
    have e6 : n' 10 0 6 = n 10 0 6 := by have := hL.1; omega
    have hl := hL.2 (by omega)
    refine ⟨by rw [h10 3 (by decide)]; exact hl.1, fun j j0 j1 => ?_⟩
    rw [h22, h7 _ 8 (by decide) (by decide) (by decide), h7 _ 9 (by decide) (by decide) (by decide)]
    exact hl.2 j j0 j1
  · by_cases z : o j = v
    · rw [z]; exact hnd
    · have hb := hS.1.oB j0 j1
      exact (hD j j0 j1).cg (hy _ z) (hn _ hb.1 hb.2 z)
theorem fnd_at (h : fnd m v w < m 56 v) : anL m v (fnd m v w) = w := Classical.byContradiction (fun z => scx_at (p := fun a => anL m v a ≠ w) h z)
theorem fnd_bf {a : Int} (h0 : 0 ≤ a) (h1 : a < fnd m v w) : anL m v a ≠ w := (scx_scn (p := fun a => anL m v a ≠ w) 0 (m 56 v)).2.2.1 a h0 h1
theorem fnd_le (h : 0 ≤ m 56 v) : fnd m v w ≤ m 56 v := scx_le h
/-- a name is found where it was, if only another name has come or changed its value -/
theorem fnd_keep (h56 : 0 ≤ m 56 v ∧ m 56 v ≤ m' 56 v) (hold : ∀ a, 0 ≤ a → a < m 56 v → anL m' v a = anL m v a) (hnew : ∀ a, m 56 v ≤ a → a < m' 56 v → anL m' v a ≠ w) : (fnd m v w < m 56 v → fnd m' v w = fnd m v w ∧ fnd m' v w < m' 56 v) ∧ (¬ fnd m v w < m 56 v → ¬ fnd m' v w < m' 56 v) := by
  constructor
  · intro hf
    have h0 := fnd_b (m := m) (f := v) (w := w)
    have : fnd m v w = fnd m' v w := scx_eq ⟨h0, .inl (by omega), fun a a0 a1 => by show anL m' v a ≠ w; rw [hold a a0 (by omega)]; exact fnd_bf a0 a1, fun _ z => z (by rw [hold _ h0 hf]; exact fnd_at hf)⟩
    exact ⟨this.symm, by omega⟩
  · intro hf hf'
    have h0 := fnd_b (m := m') (f := v) (w := w)
    have hat := fnd_at hf'
    by_cases z : fnd m' v w < m 56 v
    · rw [hold _ h0 z] at hat
      have hle := fnd_le (w := w) h56.1
      exact fnd_bf h0 (by omega) hat
    · exact hnew _ (by omega) hf' hat
theorem chkL_keep (h56 : 0 ≤ m 56 v ∧ m 56 v ≤ m' 56 v) (hold : ∀ a, 0 ≤ a → a < m 56 v → anL m' v a = anL m v a) (hnew : ∀ a, m 56 v ≤ a → a < m' 56 v → anL m' v a ≠ wType) (hval : ∀ a, 0 ≤ a → a < m 56 v → anL m v a = wType → avL m' v a = avL m v a) : chkL m' v ↔ chkL m v := by
  have hk := fnd_keep (w := wType) h56 hold hnew
  unfold chkL
  by_cases z : fnd m v wType < m 56 v
  · obtain ⟨e1, e2⟩ := hk.1 z
    rw [e1] at e2 ⊢
    rw [hval _ fnd_b z (fnd_at z)]
    exact ⟨fun y => ⟨z, y.2⟩, fun y => ⟨e2, y.2⟩⟩
  · exact ⟨fun y => absurd y.1 (hk.2 z), fun y => absurd y.1 z⟩
end L2
