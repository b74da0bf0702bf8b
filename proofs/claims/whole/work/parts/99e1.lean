/-! PATHS, as lists: read from the left with a row that shrinks, or from the right with a count -/
/-- a row of bytes, parted at / -/
def spl (g : Int → Int) (i : Int) : Nat → List (List Int)
  | 0 => [[]]
  | k + 1 => if g i = 47 then [] :: spl g (i + 1) k else (g i :: (spl g (i + 1) k).headD []) :: (spl g (i + 1) k).tail
theorem spl_ne (g : Int → Int) : ∀ (k : Nat) (i : Int), ∃ h t, spl g i k = h :: t
  | 0, _ => ⟨_, _, rfl⟩
  | k + 1, i => by
    show ∃ h t, (if g i = 47 then [] :: spl g (i + 1) k else (g i :: (spl g (i + 1) k).headD []) :: (spl g (i + 1) k).tail) = h :: t
    split <;> exact ⟨_, _, rfl⟩
theorem spl_sl {g : Int → Int} {i : Int} {k : Nat} (h : g i = 47) : spl g i (k + 1) = [] :: spl g (i + 1) k := by
  show (if g i = 47 then _ else _) = _
  rw [if_pos h]
theorem spl_no {g : Int → Int} {i : Int} {k : Nat} {h : List Int} {t : List (List Int)} (hn : g i ≠ 47) (he : spl g (i + 1) k = h :: t) : spl g i (k + 1) = (g i :: h) :: t := by
  show (if g i = 47 then _ else _) = _
  rw [if_neg hn, he]; rfl
/-- from the left: the first part, and the rest -/
theorem spl_seg {g : Int → Int} : ∀ (d : Nat) (i : Int) (k : Nat), d ≤ k → (∀ x : Nat, x < d → g (i + x) ≠ 47) → spl g i k = (sg g i d ++ (spl g (i + d) (k - d)).headD []) :: (spl g (i + d) (k - d)).tail := by
  intro d
  induction d with
  | zero =>
    intro i k _ _
    obtain ⟨h, t, e⟩ := spl_ne g k i
    rw [show i + ((0 : Nat) : Int) = i by omega, Nat.sub_zero, e]; rfl
  | succ d ih =>
    intro i k hk hn
    obtain ⟨k, rfl⟩ : ∃ k', k = k' + 1 := ⟨k - 1, by omega⟩
    have h0 := hn 0 (by omega)
    rw [show i + ((0 : Nat) : Int) = i by omega] at h0
    have e := ih (i + 1) k (by omega) (fun x hx => by
      have := hn (x + 1) (by omega)
      rw [show i + ((x + 1 : Nat) : Int) = i + 1 + (x : Int) by omega] at this
      exact this)
    rw [spl_no h0 e, show i + ((d + 1 : Nat) : Int) = i + 1 + (d : Int) by omega, show k + 1 - (d + 1) = k - d by omega]
    rfl
theorem spl_end {g : Int → Int} {i : Int} {k : Nat} (hn : ∀ x : Nat, x < k → g (i + x) ≠ 47) : spl g i k = [sg g i k] := by
  rw [spl_seg k i k (Nat.le_refl _) hn, Nat.sub_self]
  show (sg g i k ++ []) :: [] = _
  rw [List.append_nil]
theorem spl_cut {g : Int → Int} {i : Int} {d k : Nat} (hd : d < k) (hn : ∀ x : Nat, x < d → g (i + x) ≠ 47) (h : g (i + d) = 47) : spl g i k = sg g i d :: spl g (i + d + 1) (k - d - 1) := by
  rw [spl_seg d i k (by omega) hn]
  obtain ⟨r, hr⟩ : ∃ r, k - d = r + 1 := ⟨k - d - 1, by omega⟩
  rw [hr, spl_sl h]
  show (sg g i d ++ []) :: spl g (i + d + 1) r = _
  rw [List.append_nil, show r + 1 - 1 = r by omega]
abbrev wnt (s : List Int) : Prop := s = [46] ∨ s = [46, 46]
/-- from the left -/
def psh (st : List (List Int)) (s : List Int) : List (List Int) := if s = [46] then st else if s = [46, 46] then st.dropLast else st ++ [s]
/-- from the right -/
def tk (s : List Int) (x : List (List Int) × Nat) : List (List Int) × Nat := if s = [46] then x else if s = [46, 46] then (x.1, x.2 + 1) else if 0 < x.2 then (x.1, x.2 - 1) else (s :: x.1, x.2)
theorem tk_1 {s : List Int} {x : List (List Int) × Nat} (h : s = [46]) : tk s x = x := if_pos h
theorem tk_2 {s : List Int} {K : List (List Int)} {c : Nat} (h1 : ¬ s = [46]) (h : s = [46, 46]) : tk s (K, c) = (K, c + 1) := by unfold tk; rw [if_neg h1, if_pos h]
theorem tk_3 {s : List Int} {K : List (List Int)} {c : Nat} (h1 : ¬ s = [46]) (h2 : ¬ s = [46, 46]) (h : 0 < c) : tk s (K, c) = (K, c - 1) := by unfold tk; rw [if_neg h1, if_neg h2, if_pos h]
theorem tk_4 {s : List Int} {K : List (List Int)} {c : Nat} (h1 : ¬ s = [46]) (h2 : ¬ s = [46, 46]) (h : ¬ 0 < c) : tk s (K, c) = (s :: K, c) := by unfold tk; rw [if_neg h1, if_neg h2, if_neg h]
theorem psh_1 {s : List Int} {st : List (List Int)} (h : s = [46]) : psh st s = st := if_pos h
theorem psh_2 {s : List Int} {st : List (List Int)} (h1 : ¬ s = [46]) (h : s = [46, 46]) : psh st s = st.dropLast := by unfold psh; rw [if_neg h1, if_pos h]
theorem psh_3 {s : List Int} {st : List (List Int)} (h1 : ¬ s = [46]) (h2 : ¬ s = [46, 46]) : psh st s = st ++ [s] := by unfold psh; rw [if_neg h1, if_neg h2]
theorem tk_psh : ∀ (r ss : List (List Int)), r = ss.reverse → ∀ (K : List (List Int)) (c : Nat), (ss.foldr tk (K, c)).1 = (ss.foldl psh []).take ((ss.foldl psh []).length - c) ++ K := by
  intro r
  induction r with
  | nil =>
    intro ss h K c
    have : ss = [] := by rw [← List.reverse_reverse ss, ← h]; rfl
    subst this
    show K = ([] : List (List Int)).take _ ++ K
    rw [List.take_nil]; rfl
  | cons s r ih =>
    intro ss h K c
    have e : ss = r.reverse ++ [s] := by
      rw [← List.reverse_reverse ss, ← h, List.reverse_cons]
    rw [e, List.foldr_append, List.foldl_append]
    show ((r.reverse).foldr tk (tk s (K, c))).1 = (psh ((r.reverse).foldl psh []) s).take ((psh ((r.reverse).foldl psh []) s).length - c) ++ K
    have ih' := ih r.reverse (List.reverse_reverse r).symm
    generalize (r.reverse).foldl psh [] = F at *
    by_cases h1 : s = [46]
    · rw [tk_1 h1, psh_1 h1]; exact ih' K c
    · by_cases h2 : s = [46, 46]
      · rw [tk_2 h1 h2, psh_2 h1 h2, ih' K (c + 1), List.length_dropLast, List.dropLast_eq_take, List.take_take]
        rw [show min (F.length - 1 - c) (F.length - 1) = F.length - (c + 1) by omega]
      · rw [psh_3 h1 h2]
        by_cases h3 : 0 < c
        · rw [tk_3 h1 h2 h3, ih' K (c - 1), List.length_append, List.take_append_of_le_length (by simp; omega)]
          simp only [List.length_singleton]
          rw [show F.length - (c - 1) = F.length + 1 - c by omega]
        · have : c = 0 := by omega
          subst this
          rw [tk_4 h1 h2 h3, ih' (s :: K) 0, Nat.sub_zero, Nat.sub_zero, List.take_length, List.take_length, List.append_assoc]
          rfl
theorem tk_len : ∀ (ss : List (List Int)) (x : List (List Int) × Nat), x.1.length ≤ (ss.foldr tk x).1.length := by
  intro ss
  induction ss with
  | nil => intro x; exact Nat.le_refl _
  | cons s ss ih =>
    intro x
    show x.1.length ≤ (tk s (ss.foldr tk x)).1.length
    have h0 := ih x
    generalize ss.foldr tk x = y at *
    obtain ⟨K, c⟩ := y
    by_cases h1 : s = [46]
    · rw [tk_1 h1]; exact h0
    · by_cases h2 : s = [46, 46]
      · rw [tk_2 h1 h2]; exact h0
      · by_cases h3 : 0 < c
        · rw [tk_3 h1 h2 h3]; exact h0
        · rw [tk_4 h1 h2 h3]
          show x.1.length ≤ (s :: K).length
          rw [List.length_cons]
          have h0 : x.1.length ≤ K.length := h0
          omega
/-- a path is written -/
def pth (ss : List (List Int)) : List Int := ss.flatMap (fun s => 47 :: s)
theorem pth_len : ∀ ss : List (List Int), (∀ s ∈ ss, s.length ≤ 12) → (pth ss).length ≤ 13 * ss.length := by
  intro ss
  induction ss with
  | nil => intro _; exact Nat.le_refl 0
  | cons s ss ih =>
    intro h
    have h1 := ih (fun x hx => h x (List.mem_cons_of_mem _ hx))
    have h2 := h s List.mem_cons_self
    show ((47 :: s) ++ pth ss).length ≤ _
    rw [List.length_append, List.length_cons, List.length_cons]; omega
/-- a written path, parted -/
theorem spl_pth {g : Int → Int} : ∀ (ss : List (List Int)) (i : Int), ss ≠ [] → (∀ s ∈ ss, ∀ c ∈ s, c ≠ 47) → sg g i (pth ss).length = pth ss → spl g i (pth ss).length = [] :: ss := by
  intro ss
  induction ss with
  | nil => intro i h; exact absurd rfl h
  | cons s ss ih =>
    intro i _ hc hg
    have el : (pth (s :: ss)).length = 1 + (s.length + (pth ss).length) := by
      show ((47 :: s) ++ pth ss).length = _
      rw [List.length_append, List.length_cons]; omega
    have ep : pth (s :: ss) = [47] ++ (s ++ pth ss) := rfl
    rw [el] at hg ⊢
    rw [ep, sg_app, sg_app] at hg
    have q1 := List.append_inj hg (by rw [sg_len]; rfl)
    have q2 := List.append_inj q1.2 (by rw [sg_len])
    have g0 : g i = 47 := by have := q1.1; simpa [sg] using this
    rw [show 1 + (s.length + (pth ss).length) = s.length + (pth ss).length + 1 by omega, spl_sl g0]
    have hs : ∀ x : Nat, x < s.length → g (i + 1 + x) ≠ 47 := fun x hx => by
      have := sg_at (g := g) s.length (i + 1) x hx
      rw [show sg g (i + 1) s.length = s from by have := q2.1; rwa [show i + ((1 : Nat) : Int) = i + 1 by omega] at this] at this
      exact hc s List.mem_cons_self _ this
    have e1 : sg g (i + 1) s.length = s := by have := q2.1; rwa [show i + ((1 : Nat) : Int) = i + 1 by omega] at this
    congr 1
    by_cases hz : ss = []
    · subst hz
      show spl g (i + 1) (s.length + 0) = [s]
      rw [Nat.add_zero, spl_end hs, e1]
    · have e2 : sg g (i + 1 + s.length) (pth ss).length = pth ss := by have := q2.2; rwa [show i + ((1 : Nat) : Int) + (s.length : Int) = i + 1 + s.length by omega] at this
      have := ih (i + 1 + s.length) hz (fun x hx => hc x (List.mem_cons_of_mem _ hx)) e2
      obtain ⟨w, ws, rfl⟩ : ∃ w ws, ss = w :: ws := by
        cases ss with
        | nil => exact absurd rfl hz
        | cons w ws => exact ⟨w, ws, rfl⟩
      rw [spl_seg s.length (i + 1) _ (by omega) hs, show s.length + (pth (w :: ws)).length - s.length = (pth (w :: ws)).length by omega, this, e1]
      show (s ++ []) :: w :: ws = _
      rw [List.append_nil]
