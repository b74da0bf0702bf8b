/-! RULES, a turn of the program each -/
theorem lc_4 {q : Nat} {u : Int} (h : lc q = (4, u)) : 0 ≤ u ∧ u ≤ 631 := by
  have hd (lo hi : Nat) (f : Nat → Nat × Int) (h1 : ∀ k, k < hi - lo → (f (lo + k)).1 = 4 → 0 ≤ (f (lo + k)).2 ∧ (f (lo + k)).2 ≤ 631) (hl : lo ≤ q) (hh : q < hi) (h2 : f q = (4, u)) : 0 ≤ u ∧ u ≤ 631 := by
    have h3 := h1 (q - lo) (by omega)
    rw [show lo + (q - lo) = q by omega, h2] at h3
    exact h3 rfl
  have hn (i : Int) (hi : 0 ≤ i ∧ i ≤ 120) (r : Nat) (hr : r < 13) (h2 : lcN i r q = (4, u)) : 0 ≤ u ∧ u ≤ 631 := by
    unfold lcN at h2
    repeat' split at h2
    all_goals first
      | (have := congrArg Prod.snd h2; simp only at this; omega)
      | (have := congrArg Prod.fst h2; simp only at this; omega)
  unfold lc at h
  by_cases h1 : q < 9
  · rw [if_pos h1] at h; exact hd 0 9 lcA (by decide) (by omega) h1 h
  rw [if_neg h1] at h
  by_cases h2 : q < 1569
  · rw [if_pos h2] at h; exact hn _ (by omega) _ (by omega) h
  rw [if_neg h2] at h
  by_cases h3 : q < 1591
  · rw [if_pos h3] at h; exact hd 1569 1591 lcB (by decide) (by omega) h3 h
  rw [if_neg h3] at h
  by_cases h4 : q < 1631
  · rw [if_pos h4] at h; cases congrArg Prod.fst h
  rw [if_neg h4] at h
  by_cases h5 : q < 1636
  · rw [if_pos h5] at h; exact hd 1631 1636 lcC (by decide) (by omega) h5 h
  rw [if_neg h5] at h
  by_cases h6 : q < 1649
  · rw [if_pos h6] at h; exact hn _ (by omega) _ (by omega) h
  rw [if_neg h6] at h
  by_cases h7 : q < 1669
  · rw [if_pos h7] at h; exact hd 1649 1669 lcD (by decide) (by omega) h7 h
  rw [if_neg h7] at h
  by_cases h8 : q < 1789
  · rw [if_pos h8] at h; cases congrArg Prod.fst h
  rw [if_neg h8] at h
  by_cases h9 : q < 1797
  · rw [if_pos h9] at h; exact hd 1789 1797 lcE (by decide) (by omega) h9 h
  rw [if_neg h9] at h
  by_cases h10 : q < 1837
  · rw [if_pos h10] at h
    by_cases h11 : (q - 1797) % 2 = 0
    · rw [if_pos h11] at h
      have := congrArg Prod.snd h
      simp only at this
      omega
    · rw [if_neg h11] at h; cases congrArg Prod.fst h
  rw [if_neg h10] at h
  by_cases h12 : q = 1837
  · rw [if_pos h12] at h; cases congrArg Prod.fst h
  · rw [if_neg h12] at h; cases congrArg Prod.fst h
theorem lc_3 {q : Nat} {u : Int} (h : lc q = (3, u)) : 0 ≤ u ∧ u ≤ 120 := by
  have hd (lo hi : Nat) (f : Nat → Nat × Int) (h1 : ∀ k, k < hi - lo → (f (lo + k)).1 = 3 → 0 ≤ (f (lo + k)).2 ∧ (f (lo + k)).2 ≤ 120) (hl : lo ≤ q) (hh : q < hi) (h2 : f q = (3, u)) : 0 ≤ u ∧ u ≤ 120 := by
    have h3 := h1 (q - lo) (by omega)
    rw [show lo + (q - lo) = q by omega, h2] at h3
    exact h3 rfl
  have hn (i : Int) (r : Nat) (h2 : lcN i r q = (3, u)) : 0 ≤ u ∧ u ≤ 120 := by
    unfold lcN at h2
    repeat' split at h2
    all_goals (have := congrArg Prod.fst h2; simp only at this; omega)
  unfold lc at h
  by_cases h1 : q < 9
  · rw [if_pos h1] at h; exact hd 0 9 lcA (by decide) (by omega) h1 h
  rw [if_neg h1] at h
  by_cases h2 : q < 1569
  · rw [if_pos h2] at h; exact hn _ _ h
  rw [if_neg h2] at h
  by_cases h3 : q < 1591
  · rw [if_pos h3] at h; exact hd 1569 1591 lcB (by decide) (by omega) h3 h
  rw [if_neg h3] at h
  by_cases h4 : q < 1631
  · rw [if_pos h4] at h; cases congrArg Prod.fst h
  rw [if_neg h4] at h
  by_cases h5 : q < 1636
  · rw [if_pos h5] at h; exact hd 1631 1636 lcC (by decide) (by omega) h5 h
  rw [if_neg h5] at h
  by_cases h6 : q < 1649
  · rw [if_pos h6] at h; exact hn _ _ h
  rw [if_neg h6] at h
  by_cases h7 : q < 1669
  · rw [if_pos h7] at h; exact hd 1649 1669 lcD (by decide) (by omega) h7 h
  rw [if_neg h7] at h
  by_cases h8 : q < 1789
  · rw [if_pos h8] at h
    have := congrArg Prod.snd h
    simp only at this
    omega
  rw [if_neg h8] at h
  by_cases h9 : q < 1797
  · rw [if_pos h9] at h; exact hd 1789 1797 lcE (by decide) (by omega) h9 h
  rw [if_neg h9] at h
  by_cases h10 : q < 1837
  · rw [if_pos h10] at h
    by_cases h11 : (q - 1797) % 2 = 0
    · rw [if_pos h11] at h; cases congrArg Prod.fst h
    · rw [if_neg h11] at h; cases congrArg Prod.fst h
  rw [if_neg h10] at h
  by_cases h12 : q = 1837
  · rw [if_pos h12] at h; cases congrArg Prod.fst h
  · rw [if_neg h12] at h; cases congrArg Prod.fst h
theorem al_4 {q : Nat} {u : Int} (h : lc q = (4, u)) : q = aBy u := by rw [← al_lc q, h]; rfl
theorem al_3 {q : Nat} {u : Int} (h : lc q = (3, u)) : q = aBx u := by rw [← al_lc q, h]; rfl
theorem al_99 {q : Nat} {u : Int} (h : lc q = (99, u)) : q = u.toNat ∧ 0 ≤ u := by
  rcases lc_k q with h' | h'
  · have := h'.2; rw [h] at this; omega
  · rw [h] at h'
    have := congrArg Prod.snd h'
    simp only at this
    subst this
    exact ⟨(Int.toNat_natCast q).symm, Int.natCast_nonneg q⟩
section NU
variable {w y : Prop} {g : g_S} {n : NS} {m : YS} {q k c K t : Nat} {i s a u : Int} {α β : Type} {P : α → β → Prop} {G : Option β}
theorem c_I (hR : RC w y g n m) (hC : Ce g q c K i) (hs : s = (k : Int)) (hk : sk c k = 0) {F : Int32 → Option α} (kk : inR (n K i s) → Rf P (F (Int32.ofInt (n K i s))) G) : Rf P ((rI g c q k).bind F) G := by
  have e := hR.val hC hs
  rw [vl_i (by rw [hC.1]; exact hk)] at e
  unfold rI
  rw [if_pos hC.1]
  have := kk (by rw [e]; exact r32 _)
  rw [e, oi32] at this
  exact this
theorem c_Z (hR : RC w y g n m) (hC : Ce g q c K i) (hs : s = (k : Int)) (hk : sk c k = 0) (hz : zs c k = 1) {F : Int32 → Option α} (kk : inZ (n K i s) → Rf P (F (Int32.ofInt (n K i s))) G) : Rf P ((rI g c q k).bind F) G := by
  refine c_I hR hC hs hk (fun _ => kk ?_)
  rw [hR.val hC hs, vl_i (by rw [hC.1]; exact hk)]
  exact hR.2.2.2.1.2.1 q k (by rw [hC.1]; exact hz)
theorem c_L (hR : RC w y g n m) (hC : Ce g q c K i) (hs : s = (k : Int)) (hk : sk c k = 1) {F : Int64 → Option α} (kk : inL (n K i s) → Rf P (F (Int64.ofInt (n K i s))) G) : Rf P ((rL g c q k).bind F) G := by
  have e := hR.val hC hs
  rw [vl_j (by rw [hC.1]; exact hk)] at e
  unfold rL
  rw [if_pos hC.1]
  have := kk (by rw [e]; exact r64 _)
  rw [e, oi64] at this
  exact this
/-- a reference that stays -/
theorem c_S (hR : RC w y g n m) (hw : w) (hC : Ce g q c K i) (hl : q < 1838) {p : Nat} (hs : srf K i k = some p) {F : Nat → Option α} (kk : Rf P (F p) G) : Rf P ((rQ g c q k).bind F) G := by
  unfold rQ
  rw [if_pos hC.1, (hR.2.2.2.2.1 hw).2 q hl k p (by rw [hC.2.1]; exact hs)]
  exact kk
theorem c_kd (hR : RC w y g n m) (hC : Ce g q c K i) (hs : s = (k : Int)) (hk : sk c k = 2) (h0 : 0 ≤ n K i s) : ∃ p, gr g q k = some p ∧ lc p = (rk c k, n K i s) := by
  have e := hR.val hC hs
  rw [vl_r (by rw [hC.1]; exact hk)] at e
  cases hg : gr g q k with
  | none => rw [hg] at e; rw [e] at h0; exact absurd h0 (by show ¬ (0 : Int) ≤ -1; decide)
  | some p =>
    refine ⟨p, rfl, Prod.ext ?_ ?_⟩
    · rw [← hC.1]; exact hR.2.2.2.1.2.2 q k p hC.2.2 (by rw [hC.1]; exact hk) hg
    · rw [hg] at e; exact e.symm
/-- a reference that changes: to a cell of any kind, to a row of bytes, to a box -/
theorem c_D (hR : RC w y g n m) (hC : Ce g q c K i) (hs : s = (k : Int)) (hk : sk c k = 2) (hr : rk c k = 99) {F : Nat → Option α} (kk : (0 ≤ n K i s ∧ lc (n K i s).toNat = (99, n K i s)) → Rf P (F (n K i s).toNat) G) : Rf P ((rQ g c q k).bind F) (nn (n K i s) G) := by
  refine rf_if (fun h0 => ?_)
  obtain ⟨p, hp, hl⟩ := c_kd hR hC hs hk h0
  rw [hr] at hl
  have := (al_99 hl).1
  subst this
  unfold rQ
  rw [if_pos hC.1, hp]
  exact kk ⟨h0, hl⟩
theorem c_B (hR : RC w y g n m) (hC : Ce g q c K i) (hs : s = (k : Int)) (hk : sk c k = 2) (hr : rk c k = 3) {F : Nat → Option α} (kk : (0 ≤ n K i s ∧ n K i s ≤ 120) → Rf P (F (aBx (n K i s))) G) : Rf P ((rQ g c q k).bind F) (nn (n K i s) G) := by
  refine rf_if (fun h0 => ?_)
  obtain ⟨p, hp, hl⟩ := c_kd hR hC hs hk h0
  rw [hr] at hl
  have := al_3 hl
  subst this
  unfold rQ
  rw [if_pos hC.1, hp]
  exact kk (lc_3 hl)
/-- one that may be null -/
theorem c_O (hR : RC w y g n m) (hC : Ce g q c K i) (hs : s = (k : Int)) (hk : sk c k = 2) (hr : rk c k = 99) {F : Option Nat → Option α} (kk : (0 ≤ n K i s → lc (n K i s).toNat = (99, n K i s)) → Rf P (F (ro (n K i s))) G) : Rf P ((rO g c q k).bind F) G := by
  unfold rO
  rw [if_pos hC.1]
  show Rf P (F (gr g q k)) G
  by_cases h0 : 0 ≤ n K i s
  · obtain ⟨p, hp, hl⟩ := c_kd hR hC hs hk h0
    rw [hr] at hl
    have := (al_99 hl).1
    have h1 := kk (fun _ => by rw [← this]; exact hl)
    unfold ro at h1
    rw [if_neg (by omega), ← this] at h1
    rw [hp]; exact h1
  · have e := hR.val hC hs
    rw [vl_r (by rw [hC.1]; exact hk)] at e
    have h1 := kk (fun z => absurd z h0)
    unfold ro at h1
    rw [if_pos (by omega)] at h1
    cases hg : gr g q k with
    | none => exact h1
    | some p =>
      rw [hg] at e
      have h2 := hR.2.2.2.1.2.2 q k p hC.2.2 (by rw [hC.1]; exact hk) hg
      rw [hC.1, hr] at h2
      have h3 : lc p = (99, n K i s) := Prod.ext h2 e.symm
      exact absurd (al_99 h3).2 h0
/-- rows -/
theorem s_I (hR : RC w y g n m) (hC : Ce g q t K a) (ht : t = 0) {l : Nat} (hl : gl g q = l) {L : Int} (hL : L = l) {x : Int32} (ex : x = Int32.ofInt i) (ri : inR i) {F : Int32 → Option α} (kk : (0 ≤ i ∧ i < L) → inR (n K a i) → Rf P (F (Int32.ofInt (n K a i))) G) : Rf P ((aI g t q x).bind F) (ix i L G) := by
  refine rf_if (fun h => ?_)
  obtain ⟨j, rfl⟩ : ∃ j : Nat, i = j := ⟨i.toNat, by omega⟩
  have e := hR.val hC (k := j) rfl
  rw [vl_i (by rw [hC.1]; exact sk_ar (by omega) _)] at e
  unfold aI
  rw [ex, if_pos ⟨hC.1, inb_ok ri (by omega)⟩, tnc ri, Int.toNat_natCast]
  have := kk h (by rw [e]; exact r32 _)
  rw [e, oi32] at this
  exact this
theorem s_B (hR : RC w y g n m) (hC : Ce g q t K a) (ht : t = 1) {l : Nat} (hl : gl g q = l) {L : Int} (hL : L = l) {x : Int32} (ex : x = Int32.ofInt i) (ri : inR i) {F : Int32 → Option α} (kk : (0 ≤ i ∧ i < L) → inB (n K a i) → Rf P (F (Int32.ofInt (n K a i))) G) : Rf P ((aI g t q x).bind F) (ix i L G) := by
  refine rf_if (fun h => ?_)
  obtain ⟨j, rfl⟩ : ∃ j : Nat, i = j := ⟨i.toNat, by omega⟩
  have e := hR.val hC (k := j) rfl
  rw [vl_i (by rw [hC.1]; exact sk_ar (by omega) _)] at e
  unfold aI
  rw [ex, if_pos ⟨hC.1, inb_ok ri (by omega)⟩, tnc ri, Int.toNat_natCast]
  have := kk h (by rw [e]; exact hR.2.2.2.1.1 q j (by rw [hC.1]; exact ht))
  rw [e, oi32] at this
  exact this
theorem s_Z (hR : RC w y g n m) (hC : Ce g q t K a) (ht : t = 2) {l : Nat} (hl : gl g q = l) {L : Int} (hL : L = l) {x : Int32} (ex : x = Int32.ofInt i) (ri : inR i) {F : Int32 → Option α} (kk : (0 ≤ i ∧ i < L) → inZ (n K a i) → Rf P (F (Int32.ofInt (n K a i))) G) : Rf P ((aI g t q x).bind F) (ix i L G) := by
  refine rf_if (fun h => ?_)
  obtain ⟨j, rfl⟩ : ∃ j : Nat, i = j := ⟨i.toNat, by omega⟩
  have e := hR.val hC (k := j) rfl
  rw [vl_i (by rw [hC.1]; exact sk_ar (by omega) _)] at e
  unfold aI
  rw [ex, if_pos ⟨hC.1, inb_ok ri (by omega)⟩, tnc ri, Int.toNat_natCast]
  have := kk h (by rw [e]; exact hR.2.2.2.1.2.1 q j (by rw [hC.1, ht]; rfl))
  rw [e, oi32] at this
  exact this
theorem s_L (hR : RC w y g n m) (hC : Ce g q 3 K a) {l : Nat} (hl : gl g q = l) {L : Int} (hL : L = l) {x : Int32} (ex : x = Int32.ofInt i) (ri : inR i) {F : Int64 → Option α} (kk : (0 ≤ i ∧ i < L) → inL (n K a i) → Rf P (F (Int64.ofInt (n K a i))) G) : Rf P ((aL g q x).bind F) (ix i L G) := by
  refine rf_if (fun h => ?_)
  obtain ⟨j, rfl⟩ : ∃ j : Nat, i = j := ⟨i.toNat, by omega⟩
  have e := hR.val hC (k := j) rfl
  rw [vl_j (by rw [hC.1]; rfl)] at e
  unfold aL
  rw [ex, if_pos ⟨hC.1, inb_ok ri (by omega)⟩, tnc ri, Int.toNat_natCast]
  have := kk h (by rw [e]; exact r64 _)
  rw [e, oi64] at this
  exact this
/-- rows of references that stay -/
theorem s_S (hR : RC w y g n m) (hw : w) (hC : Ce g q t K a) (hq : q < 1838) {l : Nat} (hl : gl g q = l) {L : Int} (hL : L = l) {x : Int32} (ex : x = Int32.ofInt i) (ri : inR i) {p : Nat} (hs : 0 ≤ i → i < L → srf K a i.toNat = some p) {F : Nat → Option α} (kk : (0 ≤ i ∧ i < L) → Rf P (F p) G) : Rf P ((aQ g t q x).bind F) (ix i L G) := by
  refine rf_if (fun h => ?_)
  unfold aQ
  rw [ex, if_pos ⟨hC.1, inb_ok ri (by omega)⟩, tnc ri, (hR.2.2.2.2.1 hw).2 q hq i.toNat p (by rw [hC.2.1]; exact hs h.1 h.2)]
  exact kk h
/-- rows of references that change -/
theorem s_D (hR : RC w y g n m) (hC : Ce g q t K a) (ht : t = 6 ∨ t = 7) {l : Nat} (hl : gl g q = l) {L : Int} (hL : L = l) {x : Int32} (ex : x = Int32.ofInt i) (ri : inR i) {F : Nat → Option α} (kk : (0 ≤ i ∧ i < L) → (0 ≤ n K a i ∧ lc (n K a i).toNat = (99, n K a i)) → Rf P (F (n K a i).toNat) G) : Rf P ((aQ g t q x).bind F) (ix i L (nn (n K a i) G)) := by
  refine rf_if (fun h => rf_if (fun h0 => ?_))
  obtain ⟨j, rfl⟩ : ∃ j : Nat, i = j := ⟨i.toNat, by omega⟩
  obtain ⟨p, hp, hl'⟩ := c_kd hR hC (k := j) rfl (by rcases ht with rfl | rfl <;> rfl) h0
  rw [show rk t j = 99 from by rcases ht with rfl | rfl <;> rfl] at hl'
  have := (al_99 hl').1
  subst this
  unfold aQ
  rw [ex, if_pos ⟨hC.1, inb_ok ri (by omega)⟩, tnc ri, Int.toNat_natCast, hp]
  exact kk h ⟨h0, hl'⟩
theorem s_Y (hR : RC w y g n m) (hC : Ce g q 4 K a) {l : Nat} (hl : gl g q = l) {L : Int} (hL : L = l) {x : Int32} (ex : x = Int32.ofInt i) (ri : inR i) {F : Nat → Option α} (kk : (0 ≤ i ∧ i < L) → (0 ≤ n K a i ∧ n K a i ≤ 631) → Rf P (F (aBy (n K a i))) G) : Rf P ((aQ g 4 q x).bind F) (ix i L (nn (n K a i) G)) := by
  refine rf_if (fun h => rf_if (fun h0 => ?_))
  obtain ⟨j, rfl⟩ : ∃ j : Nat, i = j := ⟨i.toNat, by omega⟩
  obtain ⟨p, hp, hl'⟩ := c_kd hR hC (k := j) rfl rfl h0
  rw [show rk 4 j = 4 from rfl] at hl'
  have := al_4 hl'
  subst this
  unfold aQ
  rw [ex, if_pos ⟨hC.1, inb_ok ri (by omega)⟩, tnc ri, Int.toNat_natCast, hp]
  exact kk h (lc_4 hl')
/-- rows that are found by a reference: the type is looked at -/
theorem d_I (hR : RC w y g n m) (hd : 0 ≤ u ∧ lc u.toNat = (99, u)) {x : Int32} (ex : x = Int32.ofInt i) (ri : inR i) {F : Int32 → Option α} (kk : (0 ≤ i ∧ i < n 93 0 u) → inR (n 99 u i) → Rf P (F (Int32.ofInt (n 99 u i))) G) : Rf P ((aI g 0 u.toNat x).bind F) (dx n u 0 i G) := by
  refine rf_if (fun h => ?_)
  have hC := ce_dy hR hd (t := 0) h.1 (by decide)
  have := s_I hR hC rfl rfl (L := n 93 0 u) (hR.ln hd.1 hC.2.2) ex ri kk
  unfold ix at this
  rwa [if_pos h.2] at this
theorem d_B (hR : RC w y g n m) (hd : 0 ≤ u ∧ lc u.toNat = (99, u)) {x : Int32} (ex : x = Int32.ofInt i) (ri : inR i) {F : Int32 → Option α} (kk : (0 ≤ i ∧ i < n 93 0 u) → inB (n 99 u i) → Rf P (F (Int32.ofInt (n 99 u i))) G) : Rf P ((aI g 1 u.toNat x).bind F) (dx n u 1 i G) := by
  refine rf_if (fun h => ?_)
  have hC := ce_dy hR hd (t := 1) h.1 (by decide)
  have := s_B hR hC rfl rfl (L := n 93 0 u) (hR.ln hd.1 hC.2.2) ex ri kk
  unfold ix at this
  rwa [if_pos h.2] at this
/-- a length -/
theorem d_N (hR : RC w y g n m) (hd : 0 ≤ u ∧ lc u.toNat = (99, u)) (ht8 : t ≤ 8) {F : Int32 → Option α} (kk : inR (n 93 0 u) → 0 ≤ n 93 0 u → Rf P (F (Int32.ofInt (n 93 0 u))) G) : Rf P ((aN g u.toNat).bind F) (ty n u t (ck (n 93 0 u) G)) := by
  refine rf_if (fun h => rf_if (fun h2 => ?_))
  have hC := ce_dy hR hd (t := t) h (by omega)
  have e := hR.ln hd.1 hC.2.2
  unfold aN
  rw [if_pos (by rw [hC.1]; exact ht8)]
  have := kk h2 (by rw [e]; exact Int.natCast_nonneg _)
  rw [e] at this
  show Rf P (F (Int32.ofNat (gl g u.toNat))) G
  rw [show Int32.ofNat (gl g u.toNat) = Int32.ofInt ((gl g u.toNat : Nat) : Int) from (Int32.ofInt_eq_ofNat).symm]
  exact this
theorem s_N (hC : Ce g q t K a) (ht8 : t ≤ 8) {l : Nat} (hl : gl g q = l) {F : Int32 → Option α} (kk : Rf P (F (Int32.ofNat l)) G) : Rf P ((aN g q).bind F) G := by
  unfold aN
  rw [if_pos (by rw [hC.1]; exact ht8), hl]
  exact kk

variable {H : NS → Option β}
theorem p_I (hR : RC w y g n m) (hC : Ce g q c K i) (hs : s = (k : Int)) (hk : sk c k = 0 ∧ zs c k = 0 ∧ c ≠ 1) {x : Int32} (ex : x = Int32.ofInt a) (ra : inR a) {F : g_S → Option α} (kk : ∀ g' n', RC w y g' n' m → Rf P (F g') (H n')) : Rf P ((wI g c q k x).bind F) (st (nw n K i s a) H) := by
  unfold wI st
  rw [if_pos hC.1, ex]
  exact kk _ _ (hR.wI hC hs hk.1 (fun z => absurd z hk.2.2) (fun z => by have := hk.2.1; omega) ra)
theorem p_Z (hR : RC w y g n m) (hC : Ce g q c K i) (hs : s = (k : Int)) (hk : sk c k = 0 ∧ c ≠ 1) {x : Int32} (ex : x = Int32.ofInt a) (za : inZ a) {F : g_S → Option α} (kk : ∀ g' n', RC w y g' n' m → Rf P (F g') (H n')) : Rf P ((wZ g c q k x).bind F) (st (nw n K i s a) H) := by
  unfold wZ st
  rw [if_pos ⟨hC.1, by rcases za with rfl | rfl; exact .inl ex; exact .inr ex⟩, ex]
  exact kk _ _ (hR.wI hC hs hk.1 (fun z => absurd z hk.2) (fun _ => za) za.r)
theorem p_L (hR : RC w y g n m) (hC : Ce g q c K i) (hs : s = (k : Int)) (hk : sk c k = 1) {x : Int64} (ex : x = Int64.ofInt a) (ra : inL a) {F : g_S → Option α} (kk : ∀ g' n', RC w y g' n' m → Rf P (F g') (H n')) : Rf P ((wL g c q k x).bind F) (st (nw n K i s a) H) := by
  unfold wL st
  rw [if_pos hC.1, ex]
  exact kk _ _ (hR.wL hC hs hk ra)
theorem p_R (hR : RC w y g n m) (hC : Ce g q c K i) (hs : s = (k : Int)) (hk : sk c k = 2) (hn : srf K i k = none) {r : Option Nat} (hr : rcd r = a ∧ (∀ p, r = some p → (lc p).1 = rk c k)) {F : g_S → Option α} (kk : ∀ g' n', RC w y g' n' m → Rf P (F g') (H n')) : Rf P ((wR g c q k r).bind F) (st (nw n K i s a) H) := by
  unfold wR st
  rw [if_pos hC.1]
  exact kk _ _ (hR.wR hC hs hk hn hr.1 hr.2)

theorem rc_d (hd : 0 ≤ u ∧ lc u.toNat = (99, u)) : rcd (some u.toNat) = u ∧ (∀ p, some u.toNat = some p → (lc p).1 = 99) := by
  refine ⟨by show (lc u.toNat).2 = u; rw [hd.2], fun p hp => ?_⟩
  cases hp; rw [hd.2]
theorem rc_y (hd : 0 ≤ u ∧ u ≤ 631) : rcd (some (aBy u)) = u ∧ (∀ p, some (aBy u) = some p → (lc p).1 = 4) := by
  refine ⟨by show (lc (aBy u)).2 = u; rw [(by_st hd).2.2], fun p hp => ?_⟩
  cases hp; rw [(by_st hd).2.2]
theorem rc_x (hd : 0 ≤ u ∧ u ≤ 120) : rcd (some (aBx u)) = u ∧ (∀ p, some (aBx u) = some p → (lc p).1 = 3) := by
  refine ⟨by show (lc (aBx u)).2 = u; rw [(bx_st hd).2.2], fun p hp => ?_⟩
  cases hp; rw [(bx_st hd).2.2]
theorem t_I (hR : RC w y g n m) (hC : Ce g q 0 K a) {l : Nat} (hl : gl g q = l) {L : Int} (hL : L = l) {x v : Int32} {b : Int} (ex : x = Int32.ofInt i) (ri : inR i) (ev : v = Int32.ofInt b) (rb : inR b) {F : g_S → Option α} (kk : ∀ g' n', RC w y g' n' m → Rf P (F g') (H n')) : Rf P ((sI g q x v).bind F) (ix i L (st (nw n K a i b) H)) := by
  refine rf_if (fun h => ?_)
  obtain ⟨j, rfl⟩ : ∃ j : Nat, i = j := ⟨i.toNat, by omega⟩
  unfold sI st
  rw [ex, ev, if_pos ⟨hC.1, inb_ok ri (by omega)⟩, tnc ri, Int.toNat_natCast]
  exact kk _ _ (hR.wI hC rfl (sk_ar (by decide) _) (fun z => by cases z) (fun z => by cases z) rb)
theorem nar_B {b : Int} (hb : inB b) : vp_nar .byte (Int32.ofInt b) = Int32.ofInt b := by
  show (Int32.toInt8 (Int32.ofInt b)).toInt32 = _
  rw [e_b rfl, nb_id hb]
theorem nar_Z {b : Int} (hb : inZ b) : vp_nar .boolean (Int32.ofInt b) = Int32.ofInt b := by
  rcases hb with rfl | rfl <;> rfl
theorem t_B (hR : RC w y g n m) (hC : Ce g q 1 K a) {l : Nat} (hl : gl g q = l) {L : Int} (hL : L = l) {x v : Int32} {b : Int} (ex : x = Int32.ofInt i) (ri : inR i) (ev : v = Int32.ofInt b) (rb : inB b) {F : g_S → Option α} (kk : ∀ g' n', RC w y g' n' m → Rf P (F g') (H n')) : Rf P ((sB g q x v).bind F) (ix i L (st (nw n K a i b) H)) := by
  refine rf_if (fun h => ?_)
  obtain ⟨j, rfl⟩ : ∃ j : Nat, i = j := ⟨i.toNat, by omega⟩
  unfold sB st
  rw [ex, ev, if_pos ⟨hC.1, inb_ok ri (by omega)⟩, tnc ri, Int.toNat_natCast, nar_B rb]
  exact kk _ _ (hR.wI hC rfl (sk_ar (by decide) _) (fun _ => rb) (fun z => by cases z) rb.r)
theorem t_Z (hR : RC w y g n m) (hC : Ce g q 2 K a) {l : Nat} (hl : gl g q = l) {L : Int} (hL : L = l) {x v : Int32} {b : Int} (ex : x = Int32.ofInt i) (ri : inR i) (ev : v = Int32.ofInt b) (rb : inZ b) {F : g_S → Option α} (kk : ∀ g' n', RC w y g' n' m → Rf P (F g') (H n')) : Rf P ((sZ g q x v).bind F) (ix i L (st (nw n K a i b) H)) := by
  refine rf_if (fun h => ?_)
  obtain ⟨j, rfl⟩ : ∃ j : Nat, i = j := ⟨i.toNat, by omega⟩
  unfold sZ st
  rw [ex, ev, if_pos ⟨hC.1, inb_ok ri (by omega)⟩, tnc ri, Int.toNat_natCast, nar_Z rb]
  exact kk _ _ (hR.wI hC rfl (sk_ar (by decide) _) (fun z => by cases z) (fun _ => rb) rb.r)
theorem t_L (hR : RC w y g n m) (hC : Ce g q 3 K a) {l : Nat} (hl : gl g q = l) {L : Int} (hL : L = l) {x : Int32} {v : Int64} {b : Int} (ex : x = Int32.ofInt i) (ri : inR i) (ev : v = Int64.ofInt b) (rb : inL b) {F : g_S → Option α} (kk : ∀ g' n', RC w y g' n' m → Rf P (F g') (H n')) : Rf P ((sL g q x v).bind F) (ix i L (st (nw n K a i b) H)) := by
  refine rf_if (fun h => ?_)
  obtain ⟨j, rfl⟩ : ∃ j : Nat, i = j := ⟨i.toNat, by omega⟩
  unfold sL st
  rw [ex, ev, if_pos ⟨hC.1, inb_ok ri (by omega)⟩, tnc ri, Int.toNat_natCast]
  exact kk _ _ (hR.wL hC rfl rfl rb)
theorem t_Q (hR : RC w y g n m) (hC : Ce g q t K a) (ht : t = 4 ∨ t = 6 ∨ t = 7) {l : Nat} (hl : gl g q = l) {L : Int} (hL : L = l) {x : Int32} {b : Int} {p : Nat} (ex : x = Int32.ofInt i) (ri : inR i) (hn : ∀ k, srf K a k = none) (hp : gt g p = 100 + ab_aci t) (hr : rcd (some p) = b ∧ (∀ p', some p = some p' → (lc p').1 = rk t 0)) {F : g_S → Option α} (kk : ∀ g' n', RC w y g' n' m → Rf P (F g') (H n')) : Rf P ((sQ g t q x p).bind F) (ix i L (st (nw n K a i b) H)) := by
  refine rf_if (fun h => ?_)
  obtain ⟨j, rfl⟩ : ∃ j : Nat, i = j := ⟨i.toNat, by omega⟩
  unfold sQ st
  rw [ex, if_pos ⟨hC.1, hp, inb_ok ri (by omega)⟩, tnc ri, Int.toNat_natCast]
  have hsk : sk t j = 2 := by rcases ht with rfl | rfl | rfl <;> rfl
  have hrk : rk t j = rk t 0 := by rcases ht with rfl | rfl | rfl <;> rfl
  exact kk _ _ (hR.wR hC rfl hsk (hn j) hr.1 (fun p' hp' => by rw [hrk]; exact hr.2 p' hp'))

theorem e_I (hR : RC w y g n m) (hd : 0 ≤ u ∧ lc u.toNat = (99, u)) {x v : Int32} {b : Int} (ex : x = Int32.ofInt i) (ri : inR i) (ev : v = Int32.ofInt b) (rb : inR b) {F : g_S → Option α} (kk : ∀ g' n', RC w y g' n' m → Rf P (F g') (H n')) : Rf P ((sI g u.toNat x v).bind F) (dx n u 0 i (st (nw n 99 u i b) H)) := by
  refine rf_if (fun h => ?_)
  have hC := ce_dy hR hd (t := 0) h.1 (by decide)
  have := t_I hR hC rfl (L := n 93 0 u) (hR.ln hd.1 hC.2.2) ex ri ev rb kk
  unfold ix at this
  rwa [if_pos h.2] at this
theorem e_B (hR : RC w y g n m) (hd : 0 ≤ u ∧ lc u.toNat = (99, u)) {x v : Int32} {b : Int} (ex : x = Int32.ofInt i) (ri : inR i) (ev : v = Int32.ofInt b) (rb : inB b) {F : g_S → Option α} (kk : ∀ g' n', RC w y g' n' m → Rf P (F g') (H n')) : Rf P ((sB g u.toNat x v).bind F) (dx n u 1 i (st (nw n 99 u i b) H)) := by
  refine rf_if (fun h => ?_)
  have hC := ce_dy hR hd (t := 1) h.1 (by decide)
  have := t_B hR hC rfl (L := n 93 0 u) (hR.ln hd.1 hC.2.2) ex ri ev rb kk
  unfold ix at this
  rwa [if_pos h.2] at this
end NU
