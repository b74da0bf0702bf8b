/-! BOTH TREES: the same links -/
theorem inj_le : ∀ (b a : Nat) (f : Nat → Nat), (∀ i, i < a → f i < b) → (∀ i j, i < a → j < a → f i = f j → i = j) → a ≤ b := by
  intro b
  induction b with
  | zero =>
    intro a f h _
    cases a with
    | zero => exact Nat.le_refl _
    | succ a => exact absurd (h 0 (by omega)) (by omega)
  | succ b ih =>
    intro a f h hi
    by_cases hx : ∃ i, i < a ∧ f i = b
    · obtain ⟨i, h1, h2⟩ := hx
      cases a with
      | zero => omega
      | succ a =>
        have := ih a (fun j => if j < i then f j else f (j + 1)) (fun j hj => by
          try simp only
          split
          · have := h j (by omega)
            have : f j ≠ b := fun z => by have := hi j i (by omega) h1 (by omega); omega
            omega
          · have := h (j + 1) (by omega)
            have : f (j + 1) ≠ b := fun z => by have := hi (j + 1) i (by omega) h1 (by omega); omega
            omega) (fun x y hx hy he => by
          try simp only at he
          split at he <;> split at he
          · exact hi x y (by omega) (by omega) he
          · have := hi x (y + 1) (by omega) (by omega) he; omega
          · have := hi (x + 1) y (by omega) (by omega) he; omega
          · have := hi (x + 1) (y + 1) (by omega) (by omega) he; omega)
        omega
    · have := ih a f (fun i hi' => by
        have h1 := h i hi'
        have : f i ≠ b := fun z => hx ⟨i, hi', z⟩
        omega) hi
      omega
def lnk (n : NS) (m : YS) (v : Int) : Prop := (n 7 v 2 = m 49 v ∧ n 7 v 3 = m 50 v ∧ n 7 v 4 = m 51 v ∧ n 7 v 5 = m 52 v ∧ n 7 v 7 = m 54 v ∧ n 7 v 10 = m 55 v) ∧ 0 ≤ m 54 v ∧ m 54 v ≤ 20 ∧ 0 ≤ m 55 v ∧ m 55 v ≤ m 69 0
def JS (n : NS) (m : YS) (N : Int) (o e p : Int → Int) : Prop :=
  TY m N o e p ∧ TL N o e p (m 51) ∧ TB N o e p (m 53)
  ∧ (∀ v, 0 ≤ v → v < 120 → (m 45 v = 1 ∨ m 45 v = 0) ∧ (m 45 v = 1 ↔ ∃ k, 0 ≤ k ∧ k < N ∧ o k = v) ∧ (n 7 v 0 = -1 ↔ m 45 v = 0))
  ∧ (∀ k, 0 ≤ k → k < N → lnk n m (o k))
  ∧ (n 10 0 5 = N ∧ m 68 0 = N ∧ n 10 0 7 = m 69 0 ∧ 0 ≤ m 69 0)
section B9
variable {n : NS} {m : YS} {N : Int} {o e p : Int → Int}
theorem JS.live (h : JS n m N o e p) {k : Int} (h0 : 0 ≤ k) (h1 : k < N) : m 45 (o k) = 1 ∧ n 7 (o k) 0 ≠ -1 ∧ 0 ≤ o k ∧ o k < 120 := by
  have hb := h.1.oB h0 h1
  have := h.2.2.2.1 (o k) hb.1 hb.2
  have h2 : m 45 (o k) = 1 := this.2.1.mpr ⟨k, h0, h1, rfl⟩
  exact ⟨h2, fun z => by have := this.2.2.mp z; omega, hb.1, hb.2⟩
theorem JS.TC (h : JS n m N o e p) : TC n N o e p := by
  refine ⟨h.1.cg (fun k a b => ?_), fun k a b c => ?_, fun k j a b c d f => ?_⟩
  · have := (h.2.2.2.2.1 k a b).1
    exact ⟨this.1, this.2.1, this.2.2.2.1⟩
  · exact ((h.2.2.2.2.1 k a b).1.2.2.1).trans (h.2.1.1 k a b c)
  · exact ((h.2.2.2.2.1 k a (by omega)).1.2.2.1).trans (h.2.1.2 k j a b c d f)
/-- there is a free one just if there are fewer than 120 -/
theorem JS.room (h : JS n m N o e p) : frY m = 120 ↔ N = 120 := by
  have hN := h.1.N1
  have hle := scx_le (p := fun j => m 45 j ≠ 0) (i := 0) (to := 120) (by omega)
  have hge := scx_ge (p := fun j => m 45 j ≠ 0) 0 120
  unfold frY
  constructor
  · intro hf
    have hall : ∀ v : Nat, v < 120 → ∃ k : Nat, (k : Int) < N ∧ o k = v := fun v hv => by
      have h1 : m 45 (v : Int) ≠ 0 := scx_in (p := fun j => m 45 j ≠ 0) (i := 0) (to := 120) (by omega) (by omega)
      have h2 := h.2.2.2.1 (v : Int) (by omega) (by omega)
      obtain ⟨k, a, b, c⟩ := h2.2.1.mp (by have := h2.1; omega)
      exact ⟨k.toNat, by omega, by rw [Int.toNat_of_nonneg a]; exact c⟩
    have := inj_le N.toNat 120 (fun v => if hv : v < 120 then Classical.choose (hall v hv) else 0) (fun v hv => by
      simp only [dif_pos hv]
      have := (Classical.choose_spec (hall v hv)).1
      omega) (fun v u hv hu he => by
      simp only [dif_pos hv, dif_pos hu] at he
      have e1 := (Classical.choose_spec (hall v hv)).2
      have e2 := (Classical.choose_spec (hall u hu)).2
      rw [he] at e1
      omega)
    omega
  · intro hN'
    rcases Int.lt_or_eq_of_le hle with hlt | he
    · exfalso
      generalize hv : sc (fun j => m 45 j ≠ 0) 0 120 = v at *
      have h0 : ¬ (m 45 v ≠ 0) := by rw [← hv]; exact scx_at (p := fun j => m 45 j ≠ 0) (by omega)
      have := inj_le 119 120 (fun k => if (o k).toNat < v.toNat then (o k).toNat else (o k).toNat - 1) (fun k hk => by
        have := h.live (k := k) (by omega) (by omega)
        have hne : o k ≠ v := fun z => by rw [z] at this; omega
        try simp only
        split <;> omega) (fun i j hi hj he => by
        have h1 := h.live (k := i) (by omega) (by omega)
        have h2 := h.live (k := j) (by omega) (by omega)
        have n1 : o i ≠ v := fun z => by rw [z] at h1; omega
        have n2 : o j ≠ v := fun z => by rw [z] at h2; omega
        try simp only at he
        have : o i = o j := by split at he <;> split at he <;> omega
        have := h.1.inj (by omega) (by omega) (by omega) (by omega) this
        omega)
      omega
    · exact he
/-- the first free number is the same -/
theorem JS.fr (h : JS n m N o e p) (hN : N < 120) : frC n = frY m ∧ 0 ≤ frY m ∧ frY m < 120 ∧ m 45 (frY m) = 0 ∧ n 7 (frY m) 0 = -1 ∧ ∀ k, 0 ≤ k → k < N → o k ≠ frY m := by
  have hr := h.room
  have hle := scx_le (p := fun j => m 45 j ≠ 0) (i := 0) (to := 120) (by omega)
  have hge := scx_ge (p := fun j => m 45 j ≠ 0) 0 120
  have hat := scx_at (p := fun j => m 45 j ≠ 0) (i := 0) (to := 120)
  have hin : ∀ j, 0 ≤ j → j < frY m → m 45 j ≠ 0 := fun j a b => scx_in (p := fun j => m 45 j ≠ 0) a b
  have hlt : frY m < 120 := by unfold frY at hr ⊢; omega
  have h0 : m 45 (frY m) = 0 := by
    have := hat (by unfold frY at hlt; exact hlt)
    unfold frY; omega
  have hn : n 7 (frY m) 0 = -1 := (h.2.2.2.1 _ hge hlt).2.2.mpr h0
  refine ⟨?_, hge, hlt, h0, hn, fun k a b z => ?_⟩
  · unfold frC
    refine (scx_eq ⟨hge, ?_, fun j a b => ?_, fun _ z => z hn⟩).symm
    · by_cases h9 : frY m = 119
      · left; show frY m ≤ 119; omega
      · left; show frY m ≤ 119; omega
    · have h1 := h.2.2.2.1 j a (by have : j < frY m := b; omega)
      have h2 := hin j a b
      exact fun z => h2 (h1.2.2.mp z)
  · have := h.live a b
    rw [z] at this; omega
end B9
