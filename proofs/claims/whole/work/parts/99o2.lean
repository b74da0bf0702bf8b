/-! WHAT THE LISTENERS OF A PAGE COST -/
def wNam : List Int := [110, 97, 109, 101]
/-- an input that has a name -/
def inN (m : YS) (u : Int) : Int := if m 45 u = 1 ∧ m 46 u = 13 ∧ 2 ≤ olS wNam m u then 1 else 0
def nin (m : YS) : Int := zsm (inN m) 0 120
/-- few of them, and the root is no TEXT -/
def NIB (m : YS) : Prop := nin m ≤ 116 ∧ (m 45 0 = 1 → m 46 0 ≠ 17)
section O2
variable {n n' n'' : NS} {m m' m'' : YS} {A B N N' k b a δ δ' fr to d L r r' q x v c G i : Int} {o e p o' e' p' f g : Int → Int} {As Bs W S : Int → Prop} {w : List Int}
theorem zsm_le (h : ∀ j, a ≤ j → j < b → f j ≤ g j) (hab : a ≤ b) : zsm f a b ≤ zsm g a b := by
  refine zsm_ind (P := fun j => zsm f a j ≤ zsm g a j) hab (by rw [zsm_nil (Int.le_refl _), zsm_nil (Int.le_refl _)]; exact Int.le_refl _) (fun j x y z => ?_)
  have z : zsm f a j ≤ zsm g a j := z
  show zsm f a (j + 1) ≤ zsm g a (j + 1)
  rw [zsm_succ x, zsm_succ x]
  have := h j x y
  omega
theorem zsm_ge0 (h : ∀ j, a ≤ j → j < b → 0 ≤ f j) (hab : a ≤ b) : 0 ≤ zsm f a b := by
  have := zsm_le (f := fun _ => 0) (g := f) h hab
  rw [zsm_z (g := fun _ => 0) (fun _ _ _ => rfl)] at this; exact this
/-- at one place alone -/
theorem zsm_pt (hx : 0 ≤ x ∧ x < 120) (h : ∀ u, u ≠ x → f u = g u) : zsm f 0 120 = zsm g 0 120 + (f x - g x) := by
  have s : ∀ h : Int → Int, zsm h 0 120 = zsm h 0 x + (h x + zsm h (x + 1) 120) := fun h => by
    rw [zsm_add (a := 0) (b := x) (c := 120) hx.1 (by omega), zsm_add (a := x) (b := x + 1) (c := 120) (by omega) (by omega), zsm_succ (Int.le_refl x), zsm_nil (Int.le_refl x)]
    omega
  rw [s f, s g, zsm_cg (g := f) (g' := g) (a := 0) (b := x) (fun j a b => h j (by omega)), zsm_cg (g := f) (g' := g) (a := x + 1) (b := 120) (fun j a b => h j (by omega))]
  omega
/-- a sum over those that are in order is one over all places -/
theorem zsm_ord (hN : 0 ≤ N) (hb : ∀ k, 0 ≤ k → k < N → 0 ≤ o k ∧ o k < 120) (hi : ∀ j k, 0 ≤ j → j < N → 0 ≤ k → k < N → o j = o k → j = k) (hg : ∀ k, 0 ≤ k → k < N → 0 ≤ g (o k)) (hf : ∀ u, 0 ≤ u → u < 120 → 0 ≤ f u) (hfg : ∀ k, 0 ≤ k → k < N → g (o k) ≤ f (o k)) : zsm (fun k => g (o k)) 0 N ≤ zsm f 0 120 := by
  have key : ∃ h : Int → Int, zsm (fun k => g (o k)) 0 N = zsm h 0 120 ∧ (∀ u, (∃ k, 0 ≤ k ∧ k < N ∧ o k = u ∧ h u = g u) ∨ ((∀ k, 0 ≤ k → k < N → o k ≠ u) ∧ h u = 0)) := by
    refine zsm_ind (P := fun j => j ≤ N → ∃ h : Int → Int, zsm (fun k => g (o k)) 0 j = zsm h 0 120 ∧ (∀ u, (∃ k, 0 ≤ k ∧ k < j ∧ o k = u ∧ h u = g u) ∨ ((∀ k, 0 ≤ k → k < j → o k ≠ u) ∧ h u = 0))) hN (fun _ => ⟨fun _ => 0, by rw [zsm_nil (Int.le_refl _), zsm_z (g := fun _ => 0) (fun _ _ _ => rfl)], fun u => .inr ⟨fun k a b => by omega, rfl⟩⟩) (fun j x y z hj => ?_) (Int.le_refl _)
    obtain ⟨h, e1, e2⟩ := z (by omega)
    refine ⟨fun u => if u = o j then g u else h u, ?_, fun u => ?_⟩
    · have h0 : h (o j) = 0 := by
        rcases e2 (o j) with ⟨k, a, b, c, _⟩ | ⟨_, c⟩
        · have := hi k j a (by omega) x (by omega) c; omega
        · exact c
      rw [zsm_succ x, e1, zsm_pt (f := fun u => if u = o j then g u else h u) (g := h) (hb j x (by omega)) (fun u hu => by show (if u = o j then g u else h u) = h u; rw [if_neg hu])]
      show zsm h 0 120 + g (o j) = zsm h 0 120 + ((if o j = o j then g (o j) else h (o j)) - h (o j))
      rw [if_pos rfl, h0]; omega
    · by_cases hu : u = o j
      · exact .inl ⟨j, x, by omega, hu.symm, by show (if u = o j then g u else h u) = g u; rw [if_pos hu]⟩
      · rcases e2 u with ⟨k, a, b, c, d⟩ | ⟨c, d⟩
        · exact .inl ⟨k, a, by omega, c, by show (if u = o j then g u else h u) = g u; rw [if_neg hu]; exact d⟩
        · refine .inr ⟨fun k a b z => ?_, by show (if u = o j then g u else h u) = 0; rw [if_neg hu]; exact d⟩
          by_cases hk : k = j
          · rw [hk] at z; exact hu z.symm
          · exact c k a (by omega) z
  obtain ⟨h, e1, e2⟩ := key
  rw [e1]
  refine zsm_le (fun u u0 u1 => ?_) (by decide)
  rcases e2 u with ⟨k, a, b, c, d⟩ | ⟨_, d⟩
  · rw [d, ← c]; exact hfg k a b
  · rw [d]; exact hf u u0 u1
theorem olS_0 (hd : ND n m v) : 0 ≤ olS w m v ∧ olS w m v ≤ 61 := by
  have f0 := fnd_b (m := m) (f := v) (w := w)
  unfold olS
  split
  · rename_i z
    have := (hd.2.2.2.1 _ f0 z).2.2.2.1
    omega
  · decide
theorem wt_0 (hd : ND n m v) : 0 ≤ wt m v := by
  have h4 := hd.2.2.1.2
  have h48 := hd.2.1.1
  have a : ∀ i, 0 ≤ i → 0 ≤ at1 m v i := fun i i0 => by
    unfold at1
    split
    · rename_i z
      have := hd.2.2.2.1 i i0 z
      have := this.1
      have := (hd.2.2.2.1 i i0 z).2.2.2.1
      omega
    · exact Int.le_refl _
  have := a 0 (by decide)
  have := a 1 (by decide)
  have := a 2 (by decide)
  have := a 3 (by decide)
  unfold wt
  split
  · exact Int.le_refl _
  · omega
theorem olS_wt (hd : ND n m v) : olS w m v ≤ wt m v := by
  have f0 := fnd_b (m := m) (f := v) (w := w)
  unfold olS
  split
  · rename_i z
    have h4 := hd.2.2.1.2
    have h48 := hd.2.1.1
    have a : ∀ i, 0 ≤ i → 0 ≤ at1 m v i := fun i i0 => by
      unfold at1
      split
      · rename_i z
        have := hd.2.2.2.1 i i0 z
        have := this.1
        have := (hd.2.2.2.1 i i0 z).2.2.2.1
        omega
      · exact Int.le_refl _
    have a0 := a 0 (by decide)
    have a1 := a 1 (by decide)
    have a2 := a 2 (by decide)
    have a3 := a 3 (by decide)
    have hn := hd.2.2.2.1 _ f0 z
    have n1 := hn.1
    have e : at1 m v (fnd m v w) = m 58 (4 * v + fnd m v w) + m 60 (4 * v + fnd m v w) := by unfold at1; rw [if_pos z]
    have h17 : m 46 v ≠ 17 := fun y => by have := (hd.2.2.2.2.1 y).2.2.2.2; omega
    unfold wt
    rw [if_neg h17]
    rcases (show fnd m v w = 0 ∨ fnd m v w = 1 ∨ fnd m v w = 2 ∨ fnd m v w = 3 by omega) with y | y | y | y <;> rw [y] at e n1 ⊢ <;> omega
  · exact wt_0 hd
/-- all the listeners of load -/
theorem way_cost (hT : JT n m N o e p) (hw : wtS m ≤ 1284) (hy : YWY m m' N o) : zsm (fun j => 1 + olS wOnl m (m' 179 j)) 0 (m' 181 0) ≤ 1404 := by
  have hG := hT.1.1
  have hN := hG.N1
  have e1 : ∀ k, 0 ≤ k → k ≤ N → zsm (fun j => 1 + olS wOnl m (m' 179 j)) 0 (cnO m o k) ≤ k + zsm (fun j => olS wOnl m (o j)) 0 k := fun k k0 k1 => by
    refine zsm_ind (P := fun k => k ≤ N → zsm (fun j => 1 + olS wOnl m (m' 179 j)) 0 (cnO m o k) ≤ k + zsm (fun j => olS wOnl m (o j)) 0 k) k0 (fun _ => by rw [cnO_0, zsm_nil (Int.le_refl _), zsm_nil (Int.le_refl _)]; decide) (fun j x y z hj => ?_) k1
    have z := z (by omega)
    have hd := hT.2.2.2 j x (by omega)
    have h0 := olS_0 (w := wOnl) hd
    rw [cnO_s x, zsm_succ x]
    by_cases hh : hsO m (o j) = 1
    · have hcb := cnO_b (m := m) (o := o) x
      rw [hh, zsm_succ hcb.1, (hy.2 j x (by omega) hh).1]; omega
    · have hb := hsO_b (m := m) (v := o j)
      rw [show hsO m (o j) = 0 by omega, show cnO m o j + 0 = cnO m o j by omega]; omega
  have e2 : zsm (fun j => olS wOnl m (o j)) 0 N ≤ wtS m := by
    refine zsm_ord (g := olS wOnl m) (f := fun v => if m 45 v = 1 then wt m v else 0) (by omega) (fun k a b => hG.oB a b) (fun j k a b c d z => hG.inj a b c d z) (fun k a b => (olS_0 (hT.2.2.2 k a b)).1) (fun u u0 u1 => ?_) (fun k a b => ?_)
    · show 0 ≤ if m 45 u = 1 then wt m u else 0
      split
      · rename_i z; exact wt_0 (hT.nd u0 u1 z)
      · exact Int.le_refl _
    · show olS wOnl m (o k) ≤ if m 45 (o k) = 1 then wt m (o k) else 0
      have hb := hG.oB a b
      rw [if_pos ((hT.1.2.2.2.1 _ hb.1 hb.2).2.1.mpr ⟨k, a, b, rfl⟩)]
      exact olS_wt (hT.2.2.2 k a b)
  have := e1 N (by omega) (Int.le_refl _)
  rw [hy.1]; omega
theorem JA.born (h : JA As Bs A B δ G n m) : ∀ u, 0 ≤ u → u < 120 → m 45 u = 1 → m 55 u ≤ m 69 0 := fun u u0 u1 x => by
  obtain ⟨_, _, _, _, _, _, hT, _⟩ := h
  exact (hT.1.born u0 u1 x).2
theorem NIB.fp (hb : ∀ u, 0 ≤ u → u < 120 → m 45 u = 1 → m 55 u ≤ m 69 0) (h : FP m m') (hn : NIB m) : NIB m' := by
  have : zsm (inN m') 0 120 ≤ zsm (inN m) 0 120 := zsm_le (fun u u0 u1 => by
    unfold inN
    by_cases z : m' 45 u = 1 ∧ m' 46 u = 13 ∧ 2 ≤ olS wNam m' u
    · rw [if_pos z]
      rcases h.2.1 wNam (by decide) u u0 u1 z.1 with ⟨a, b, c⟩ | ⟨a, _⟩
      · have l := h.1 u u0 u1 z.1 (by rw [b]; exact hb u u0 u1 a)
        rw [if_pos ⟨a, by rw [← l.2.2]; exact z.2.1, by rw [← c]; exact z.2.2⟩]; exact Int.le_refl _
      · omega
    · rw [if_neg z]
      split <;> decide) (by decide)
  refine ⟨by have := hn.1; unfold nin at *; omega, fun x => ?_⟩
  rcases h.2.1 wNam (by decide) 0 (by decide) (by decide) x with ⟨a, b, _⟩ | ⟨_, _, z⟩
  · rw [(h.1 0 (by decide) (by decide) x (by rw [b]; exact hb 0 (by decide) (by decide) a)).2.2]
    exact hn.2 a
  · exact absurd rfl z
theorem inN_wt (hd : ND n m v) (h13 : m 46 v = 13) (h2 : 2 ≤ olS wNam m v) : 11 ≤ wt m v := by
  have f0 := fnd_b (m := m) (f := v) (w := wNam)
  have z : fnd m v wNam < m 56 v := by
    by_cases z : fnd m v wNam < m 56 v
    · exact z
    · unfold olS at h2
      rw [if_neg z] at h2; omega
  unfold olS at h2
  rw [if_pos z] at h2
  have h48 : m 48 v = 5 := by
    have h1 := hd.2.2.2.2.2.2 (by omega)
    rw [h13] at h1
    have h3 := tgL_at (l := nmL m v) (by omega)
    rw [← h1] at h3
    have h4 : (tgK 13).length = 5 := by decide
    rw [h3] at h4
    unfold nmL at h4
    rw [sg_len] at h4
    have := hd.2.1.1
    omega
  have h4 := hd.2.2.1.2
  have a : ∀ i, 0 ≤ i → 0 ≤ at1 m v i := fun i i0 => by
    unfold at1
    split
    · rename_i z
      have := hd.2.2.2.1 i i0 z
      have := this.1
      have := (hd.2.2.2.1 i i0 z).2.2.2.1
      omega
    · exact Int.le_refl _
  have a0 := a 0 (by decide)
  have a1 := a 1 (by decide)
  have a2 := a 2 (by decide)
  have a3 := a 3 (by decide)
  have hn := hd.2.2.2.1 _ f0 z
  have n1 := hn.1
  have h58 : m 58 (4 * v + fnd m v wNam) = 4 := by
    have h5 := fnd_at z
    have h6 := congrArg List.length h5
    unfold anL at h6
    rw [sg_len] at h6
    have h6 : (m 58 (4 * v + fnd m v wNam)).toNat = 4 := h6
    omega
  have e : at1 m v (fnd m v wNam) = m 58 (4 * v + fnd m v wNam) + m 60 (4 * v + fnd m v wNam) := by unfold at1; rw [if_pos z]
  unfold wt
  rw [if_neg (by omega)]
  rcases (show fnd m v wNam = 0 ∨ fnd m v wNam = 1 ∨ fnd m v wNam = 2 ∨ fnd m v wNam = 3 by omega) with y | y | y | y <;> rw [y] at e h58 h2 <;> omega
theorem nin_wt (hT : JT n m N o e p) (hw : wtS m ≤ 1284) (h0 : m 46 0 ≠ 17) : NIB m := by
  have e1 : zsm (fun u => 11 * inN m u) 0 120 = 11 * zsm (inN m) 0 120 := by
    refine zsm_ind (P := fun j => zsm (fun u => 11 * inN m u) 0 j = 11 * zsm (inN m) 0 j) (a := 0) (b := 120) (by decide) (by rw [zsm_nil (Int.le_refl _), zsm_nil (Int.le_refl _)]; decide) (fun j x y z => ?_)
    have z : zsm (fun u => 11 * inN m u) 0 j = 11 * zsm (inN m) 0 j := z
    show zsm (fun u => 11 * inN m u) 0 (j + 1) = 11 * zsm (inN m) 0 (j + 1)
    rw [zsm_succ x, zsm_succ x, z]; omega
  have e2 : zsm (fun u => 11 * inN m u) 0 120 ≤ wtS m := zsm_le (fun u u0 u1 => by
    show 11 * inN m u ≤ if m 45 u = 1 then wt m u else 0
    unfold inN
    by_cases z : m 45 u = 1 ∧ m 46 u = 13 ∧ 2 ≤ olS wNam m u
    · rw [if_pos z, if_pos z.1]
      have := inN_wt (hT.nd u0 u1 z.1) z.2.1 z.2.2
      omega
    · rw [if_neg z]
      split
      · rename_i y; have := wt_0 (hT.nd u0 u1 y); omega
      · omega) (by decide)
  refine ⟨by unfold nin; omega, fun _ => h0⟩
end O2
