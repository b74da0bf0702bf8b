/-! WHAT A PROGRAM DOES on the typed state; none: it would throw, or leave what is foreseen -/
def rI (g : g_S) (c q k : Nat) : Option Int32 := if gt g q = c then some (gi g q k) else none
def rL (g : g_S) (c q k : Nat) : Option Int64 := if gt g q = c then some (gj g q k) else none
def rO (g : g_S) (c q k : Nat) : Option (Option Nat) := if gt g q = c then some (gr g q k) else none
def rQ (g : g_S) (c q k : Nat) : Option Nat := if gt g q = c then gr g q k else none
def wI (g : g_S) (c q k : Nat) (v : Int32) : Option g_S := if gt g q = c then some (gwI g q k v) else none
def wZ (g : g_S) (c q k : Nat) (v : Int32) : Option g_S := if gt g q = c ∧ (v = 0 ∨ v = 1) then some (gwI g q k v) else none
def wL (g : g_S) (c q k : Nat) (v : Int64) : Option g_S := if gt g q = c then some (gwL g q k v) else none
def wR (g : g_S) (c q k : Nat) (v : Option Nat) : Option g_S := if gt g q = c then some (gwR g q k v) else none
def aI (g : g_S) (t q : Nat) (i : Int32) : Option Int32 := if gt g q = t ∧ ab_inb i (gl g q) = true then some (gi g q i.toNatClampNeg) else none
def aL (g : g_S) (q : Nat) (i : Int32) : Option Int64 := if gt g q = 3 ∧ ab_inb i (gl g q) = true then some (gj g q i.toNatClampNeg) else none
def aQ (g : g_S) (t q : Nat) (i : Int32) : Option Nat := if gt g q = t ∧ ab_inb i (gl g q) = true then gr g q i.toNatClampNeg else none
def aN (g : g_S) (q : Nat) : Option Int32 := if gt g q ≤ 8 then some (Int32.ofNat (gl g q)) else none
def sI (g : g_S) (q : Nat) (i x : Int32) : Option g_S := if gt g q = 0 ∧ ab_inb i (gl g q) = true then some (gwI g q i.toNatClampNeg x) else none
def sB (g : g_S) (q : Nat) (i x : Int32) : Option g_S := if gt g q = 1 ∧ ab_inb i (gl g q) = true then some (gwI g q i.toNatClampNeg (vp_nar .byte x)) else none
def sZ (g : g_S) (q : Nat) (i x : Int32) : Option g_S := if gt g q = 2 ∧ ab_inb i (gl g q) = true then some (gwI g q i.toNatClampNeg (vp_nar .boolean x)) else none
def sL (g : g_S) (q : Nat) (i : Int32) (x : Int64) : Option g_S := if gt g q = 3 ∧ ab_inb i (gl g q) = true then some (gwL g q i.toNatClampNeg x) else none
def sQ (g : g_S) (t q : Nat) (i : Int32) (w : Nat) : Option g_S := if gt g q = t ∧ gt g w = 100 + ab_aci t ∧ ab_inb i (gl g q) = true then some (gwR g q i.toNatClampNeg (some w)) else none
def nO (g : g_S) (c : Nat) : Option (Nat × g_S) := if gn g < 1000000 then some (gn g, gnew g c 0) else none
def nA (g : g_S) (t : Nat) (x : Int32) : Option (Nat × g_S) := if ¬ x < 0 ∧ x.toNatClampNeg * 8 ≤ 536870912 ∧ gn g < 1000000 then some (gn g, gnew g t x.toNatClampNeg) else none
def cp (g : g_S) (t q0 : Nat) (sp : Int32) (q1 : Nat) (dp n : Int32) : Option g_S := if gt g q0 = t ∧ gt g q1 = t ∧ (¬ sp < 0 ∧ ¬ dp < 0 ∧ ¬ n < 0) ∧ (sp.toNatClampNeg + n.toNatClampNeg ≤ gl g q0 ∧ dp.toNatClampNeg + n.toNatClampNeg ≤ gl g q1) then some (gwA g q1 (va_cpy (gi g q0) (gi g q1) sp.toNatClampNeg dp.toNatClampNeg n.toNatClampNeg)) else none
def tN (a : Nat) : Option Int32 := (ab_sbt a).map (fun bs => nI bs.length)
def tC (a : Nat) (i : Int32) : Option Int32 := (ab_sbt a).bind (fun bs => if ab_inb i bs.length = true then some (bs.getD i.toNatClampNeg 0 &&& 255) else none)
def tS (g : g_S) (a : Nat) (i : Int32) : Option Int32 := if gn g ≤ 1000000 ∧ ab_inb i 9 = true then (if a = 2000001 then some (ab_sv0.getD i.toNatClampNeg 0) else if a = 2000002 then some (ab_sv1.getD i.toNatClampNeg 0) else none) else none
def dv (x y : Int32) : Option Int32 := if y = 0 then none else some (x / y)
def rm (x y : Int32) : Option Int32 := if y = 0 then none else some (x - x / y * y)
/-- an answer that has to be a truth -/
def tz (x : Int32) : Option Int32 := if x = 0 ∨ x = 1 then some x else none
def c2 {α ρ : Type} (x : Option (α × g_S)) (F : α → g_S → Option ρ) : Option ρ := match x with
  | some (a, g) => F a g
  | none => none
theorem c2_some {α ρ : Type} {x : Option (α × g_S)} {F : α → g_S → Option ρ} {out : ρ} (e : c2 x F = some out) : ∃ a g, x = some (a, g) ∧ F a g = some out := by
  unfold c2 at e
  split at e
  next a g => exact ⟨a, g, rfl, e⟩
  next => cases e
theorem bd {α ρ : Type} {x : Option α} {F : α → Option ρ} {out : ρ} (e : x.bind F = some out) : ∃ a, x = some a ∧ F a = some out := by
  cases x with
  | none => cases e
  | some a => exact ⟨a, rfl, e⟩
/-! loops -/
def itN {σ ρ : Type} (f : σ → Option (σ ⊕ ρ)) : Nat → σ → Option ρ
  | 0, _ => none
  | n + 1, s => match f s with
    | some (.inl s') => itN f n s'
    | some (.inr r) => some r
    | none => none
theorem itN_more {σ ρ : Type} {f : σ → Option (σ ⊕ ρ)} : ∀ (n : Nat) (s : σ) (r : ρ), itN f n s = some r → itN f (n + 1) s = some r := by
  intro n
  induction n with
  | zero => intro s r h; cases h
  | succ n ih =>
    intro s r h
    unfold itN at h ⊢
    split
    next s' hs => rw [hs] at h; exact ih s' r h
    next r' hs => rw [hs] at h; exact h
    next hs => rw [hs] at h; exact h
theorem itN_le {σ ρ : Type} {f : σ → Option (σ ⊕ ρ)} {n m : Nat} {s : σ} {r : ρ} (h : itN f n s = some r) (hl : n ≤ m) : itN f m s = some r := by
  induction hl with
  | refl => exact h
  | step _ ih => exact itN_more _ _ _ ih
noncomputable def it {σ ρ : Type} (f : σ → Option (σ ⊕ ρ)) (s : σ) : Option ρ := @dite _ (∃ r, ∃ n, itN f n s = some r) (Classical.propDecidable _) (fun h => some (Classical.choose h)) (fun _ => none)
theorem it_some {σ ρ : Type} {f : σ → Option (σ ⊕ ρ)} {s : σ} {r : ρ} : it f s = some r ↔ ∃ n, itN f n s = some r := by
  unfold it
  by_cases hx : ∃ r, ∃ n, itN f n s = some r
  · rw [dif_pos hx]
    have hc := Classical.choose_spec hx
    obtain ⟨m, hm⟩ := hc
    constructor
    · intro h; rw [← Option.some.inj h]; exact ⟨m, hm⟩
    · intro ⟨n, hn⟩
      have h1 := itN_le hm (Nat.le_max_left m n)
      have h2 := itN_le hn (Nat.le_max_right m n)
      rw [h1] at h2
      exact h2
  · rw [dif_neg hx]
    constructor
    · intro h; cases h
    · intro ⟨n, hn⟩; exact absurd ⟨r, n, hn⟩ hx
/-- what a loop does, a turn at a time -/
theorem it_eq {σ ρ : Type} (f : σ → Option (σ ⊕ ρ)) (s : σ) : it f s = match f s with
    | some (.inl s') => it f s'
    | some (.inr r) => some r
    | none => none := by
  cases hr : it f s with
  | some r =>
    obtain ⟨n, hn⟩ := it_some.mp hr
    cases n with
    | zero => cases hn
    | succ n =>
      unfold itN at hn
      split at hn
      next s' hs => exact (it_some.mpr ⟨n, hn⟩).symm
      next r' hs => exact hn.symm
      next hs => cases hn
  | none =>
    have hno : ∀ r n, itN f n s ≠ some r := fun r n hn => by rw [it_some.mpr ⟨n, hn⟩] at hr; cases hr
    split
    next s' hs =>
      cases hq : it f s' with
      | none => rfl
      | some r =>
        obtain ⟨n, hn⟩ := it_some.mp hq
        exact absurd (show itN f (n + 1) s = some r by unfold itN; rw [hs]; exact hn) (hno r (n + 1))
    next r hs => exact absurd (show itN f 1 s = some r by unfold itN; rw [hs]) (hno r 1)
    next hs => rfl
def itc {σ ρ : Type} (x : Option (σ ⊕ ρ)) (k : σ → Option ρ) : Option ρ := match x with
  | some (.inl s) => k s
  | some (.inr r) => some r
  | none => none
theorem it_eq2 {σ ρ : Type} (f : σ → Option (σ ⊕ ρ)) (s : σ) : it f s = itc (f s) (it f) := by
  rw [it_eq]
  unfold itc
  split <;> rfl
/-- a loop, by what a turn does -/
theorem it_wp {σ ρ : Type} {f : σ → Option (σ ⊕ ρ)} {P : σ → Prop} {E : ρ → Prop} (hb : ∀ s out, f s = some out → (match out with
    | .inl s' => P s'
    | .inr r => E r) → P s) {s : σ} {r : ρ} (h : it f s = some r) (hE : E r) : P s := by
  obtain ⟨n, hn⟩ := it_some.mp h
  clear h
  induction n generalizing s with
  | zero => cases hn
  | succ n ih =>
    unfold itN at hn
    split at hn
    next s' hs => exact hb s _ hs (ih hn)
    next r' hs => cases hn; exact hb s _ hs hE
    next hs => cases hn
/-! fewer locals do -/
def lv_nd : ab_L → Bool
  | [] => true
  | q :: r => r.all (fun p => !(p.1 == q.1)) && lv_nd r
def lv_al : ab_L → ab_L → Prop
  | [], _ => True
  | q :: r, lv => lv.lookup q.1 = some q.2 ∧ lv_al r lv
def lv_sb (lv' lv : ab_L) : Prop := lv_nd lv' = true ∧ ∀ k w, lv'.lookup k = some w → lv.lookup k = some w
theorem lv_al_sb {lv' lv : ab_L} (hn : lv_nd lv' = true) (h : lv_al lv' lv) : lv_sb lv' lv := by
  refine ⟨hn, ?_⟩
  clear hn
  induction lv' with
  | nil => intro k w hk; cases hk
  | cons q r ih =>
    intro k w hk
    rw [List.lookup_cons] at hk
    split at hk
    next he => cases hk; rw [eq_of_beq he]; exact h.1
    next => exact ih h.2 k w hk
theorem lookup_mem {k : Nat} {w : Value} : ∀ {l : ab_L}, l.lookup k = some w → (k, w) ∈ l := by
  intro l
  induction l with
  | nil => intro h; cases h
  | cons q r ih =>
    intro h
    rw [List.lookup_cons] at h
    split at h
    next he => cases h; rw [eq_of_beq he]; exact List.mem_cons_self
    next => exact List.mem_cons_of_mem _ (ih h)
theorem lookup_nd {k : Nat} {w : Value} : ∀ {l : ab_L}, lv_nd l = true → (k, w) ∈ l → l.lookup k = some w := by
  intro l
  induction l with
  | nil => intro _ h; cases h
  | cons q r ih =>
    intro hn h
    unfold lv_nd at hn
    rw [Bool.and_eq_true] at hn
    rw [List.lookup_cons]
    rcases List.mem_cons.mp h with h | h
    · subst h; simp
    · have := List.all_eq_true.mp hn.1 _ h
      split
      next he => rw [eq_of_beq he] at this; simp at this
      next => exact ih hn.2 h
theorem lv_nd_filter {p : Nat × Value → Bool} : ∀ {l : ab_L}, lv_nd l = true → lv_nd (l.filter p) = true := by
  intro l
  induction l with
  | nil => intro _; rfl
  | cons q r ih =>
    intro hn
    unfold lv_nd at hn
    rw [Bool.and_eq_true] at hn
    rw [List.filter_cons]
    split
    · unfold lv_nd
      rw [Bool.and_eq_true]
      refine ⟨List.all_eq_true.mpr (fun z hz => ?_), ih hn.2⟩
      exact List.all_eq_true.mp hn.1 z (List.mem_filter.mp hz).1
    · exact ih hn.2
theorem lookup_filter {p : Nat × Value → Bool} {k : Nat} {w : Value} : ∀ {l : ab_L}, l.lookup k = some w → p (k, w) = true → (l.filter p).lookup k = some w := by
  intro l
  induction l with
  | nil => intro h; cases h
  | cons q r ih =>
    intro h hp
    rw [List.lookup_cons] at h
    split at h
    next he =>
      cases h
      have : q = (k, q.2) := by rw [eq_of_beq he]
      rw [List.filter_cons, show p q = true by rw [this]; exact hp, if_pos rfl, List.lookup_cons, he]
    next he =>
      rw [List.filter_cons]
      split
      · rw [List.lookup_cons, he]; exact ih h hp
      · exact ih h hp
theorem lv_sb_put {p : Nat × Value → Bool} {lv' lv : ab_L} {i : Nat} {v : Value} (h : lv_sb lv' lv) (hp : ∀ w, p (i, w) = false) : lv_sb ((i, v) :: lv'.filter p) ((i, v) :: lv.filter p) := by
  refine ⟨?_, fun k w hk => ?_⟩
  · unfold lv_nd
    rw [Bool.and_eq_true]
    refine ⟨List.all_eq_true.mpr (fun z hz => ?_), lv_nd_filter h.1⟩
    have h2 := (List.mem_filter.mp hz).2
    cases hb : z.1 == i with
    | false => rfl
    | true => rw [show z = (i, z.2) by rw [← eq_of_beq hb], hp] at h2; cases h2
  · rw [List.lookup_cons] at hk ⊢
    split at hk
    next he => exact hk
    next he =>
      have hm := List.mem_filter.mp (lookup_mem hk)
      exact lookup_filter (h.2 k w (lookup_nd h.1 hm.1)) hm.2
theorem lv_put1 {lv' lv : ab_L} {i : Nat} {v : Value} (h : lv_sb lv' lv) : lv_sb (ab_put1 lv' i v) (ab_put1 lv i v) := lv_sb_put h (fun w => by simp)
theorem lv_put2 {lv' lv : ab_L} {i : Nat} {v : Value} (h : lv_sb lv' lv) : lv_sb (ab_put2 lv' i v) (ab_put2 lv i v) := lv_sb_put h (fun w => by simp)
set_option maxHeartbeats 4000000 in
theorem ab_s_sb {nL : Nat} {i : Instr} {lv' lv lv1 : ab_L} {st st1 : List Value} (h : lv_sb lv' lv) (hs : ab_s nL i lv' st = some (lv1, st1)) : ∃ lv2, ab_s nL i lv st = some (lv2, st1) ∧ lv_sb lv1 lv2 := by
  unfold ab_s at hs ⊢
  split at hs
  all_goals first
    | (cases hs; exact ⟨lv, rfl, h⟩)
    | (simp only [ab_ldI, ab_ldL, ab_ldA] at hs ⊢
       split at hs
       · next hl => rw [h.2 _ _ hl]; cases hs; exact ⟨lv, rfl, h⟩
       · cases hs)
    | (simp only [ab_ldI, ab_ldL, ab_ldA] at hs ⊢
       split at hs
       · next hl => rw [h.2 _ _ hl]; cases hs; exact ⟨lv, rfl, h⟩
       · next hl => rw [h.2 _ _ hl]; cases hs; exact ⟨lv, rfl, h⟩
       · cases hs)
    | (simp only [ab_stI, ab_stL] at hs ⊢
       split at hs
       · split at hs
         · next hl => cases hs; exact ⟨_, if_pos hl, by first | exact lv_put1 h | exact lv_put2 h⟩
         · cases hs
       · cases hs)
    | (simp only [ab_stA] at hs ⊢
       split at hs
       · split at hs
         · next hl => cases hs; exact ⟨_, if_pos hl, lv_put1 h⟩
         · cases hs
       · split at hs
         · next hl => cases hs; exact ⟨_, if_pos hl, lv_put1 h⟩
         · cases hs
       · cases hs)
    | (simp only [ab_inc] at hs ⊢
       split at hs
       · next hl =>
         split at hs
         · next hk => rw [h.2 _ _ hl]; cases hs; exact ⟨_, if_pos hk, lv_put1 h⟩
         · cases hs
       · cases hs)
    | (simp only [ab_ii, ab_iz, ab_ll, ab_li, ab_i1, ab_lc, ab_i2l, ab_l2i, ab_dup, ab_pop, ab_dup2] at hs ⊢
       repeat' split at hs
       all_goals first | (cases hs; exact ⟨lv, by simp [*], h⟩) | cases hs)
    | cases hs
theorem ab_s_other {nL : Nat} {i : Instr} {lv l : ab_L} {st s : List Value} (hs : ab_s nL i lv st = some (l, s)) {mt : Nat → ab_M} {ext : Nat → Option (Nat × (Nat → Int32))} {sbt : Nat → Option (List Int32)} {rt : Option FieldType} {a b c pc : Nat} {h : ab_H} : ab_b i a pc st = none ∧ ab_h ext sbt i a b c st h = none ∧ ab_r rt i st = none ∧ ab_c mt i a b c st h = none := by
  unfold ab_s at hs
  split at hs
  all_goals first
    | exact ⟨rfl, rfl, rfl, by unfold ab_c; split <;> rfl⟩
    | cases hs
theorem ab_go_sb {dc : Nat → Nat → Option ab_I} {mt : Nat → ab_M} {ext : Nat → Option (Nat × (Nat → Int32))} {sbt : Nat → Option (List Int32)} : ∀ (n j pc : Nat) (lv' lv : ab_L) (st : List Value) (h : ab_H) (x : Option Value × ab_H), lv_sb lv' lv → ab_go dc mt ext sbt n j pc lv' st h = some x → ab_go dc mt ext sbt n j pc lv st h = some x := by
  intro n
  induction n with
  | zero => intro j pc lv' lv st h x _ hs; cases hs
  | succ n ih =>
    intro j pc lv' lv st h x hb hs
    show ab_st dc mt ext sbt (ab_go dc mt ext sbt n) j pc lv st h = some x
    have hs : ab_st dc mt ext sbt (ab_go dc mt ext sbt n) j pc lv' st h = some x := hs
    unfold ab_st at hs ⊢
    split at hs
    next => cases hs
    next i a b c hd =>
      split at hs
      next lv1 st1 h1 =>
        obtain ⟨lv2, h2, h3⟩ := ab_s_sb hb h1
        rw [h2]
        exact ih _ _ _ _ _ _ _ h3 hs
      next h1 =>
        have h2 : ab_s (mt j).2.2.1 i lv st = none ∨ ∃ l s, ab_s (mt j).2.2.1 i lv st = some (l, s) := by
          cases ab_s (mt j).2.2.1 i lv st with
          | none => exact Or.inl rfl
          | some q => exact Or.inr ⟨q.1, q.2, rfl⟩
        rcases h2 with h2 | ⟨l, s, h2⟩
        · rw [h2]
          dsimp only
          split at hs
          next pc' st' h3 => exact ih _ _ _ _ _ _ _ hb hs
          next h3 =>
            split at hs
            next st' h' h4 =>
              split at hs
              next h5 => rw [if_pos h5]; exact ih _ _ _ _ _ _ _ hb hs
              next => cases hs
            next h4 =>
              split at hs
              next => exact hs
              next h5 =>
                split at hs
                next vs r h6 =>
                  split at hs
                  next v h' h7 => exact ih _ _ _ _ _ _ _ hb hs
                  next => cases hs
                next => cases hs
        · exact absurd hs (by
            have := ab_s_other h2 (mt := mt) (ext := ext) (sbt := sbt) (rt := (mt j).2.2.2.1) (a := a) (b := b) (c := c) (pc := pc) (h := h)
            intro hs
            rw [this.1] at hs
            dsimp only at hs
            rw [this.2.1] at hs
            dsimp only at hs
            rw [this.2.2.1] at hs
            dsimp only at hs
            rw [this.2.2.2] at hs
            cases hs)
section XR
variable {X : Nat → Option (Nat × (Nat → Int32))} {j pc : Nat} {lv : ab_L} {st : List Value} {h : ab_H} {Q : Option Value → ab_H → Prop}
/-- to a list of the locals that are still wanted, in their order -/
theorem wp_lv {lv' : ab_L} (hn : lv_nd lv' = true) (hs : lv_al lv' lv) (k : wp X j pc lv' st h Q) : wp X j pc lv st h Q := by
  obtain ⟨n, r, hE, h1, h2⟩ := k
  exact ⟨n, r, hE, ab_go_sb n j pc lv' lv st h _ (lv_al_sb hn hs) h1, h2⟩
end XR
