/-! RULES: what the programs on numbers do, those on words do -/
def nn {ρ : Type} (u : Int) (x : Option ρ) : Option ρ := if 0 ≤ u then x else none
def ty {ρ : Type} (n : NS) (u : Int) (t : Int) (x : Option ρ) : Option ρ := if n 92 0 u = t then x else none
def dx {ρ : Type} (n : NS) (u : Int) (t : Int) (i : Int) (x : Option ρ) : Option ρ := if n 92 0 u = t ∧ 0 ≤ i ∧ i < n 93 0 u then x else none
def or8 {ρ : Type} (a b : Int) (x : Option ρ) : Option ρ := if a % 256 = 0 ∧ 0 ≤ b ∧ b < 256 then x else none
def cb {ρ : Type} (a : Int) (x : Option ρ) : Option ρ := if inB a then x else none
def ro (u : Int) : Option Nat := if u < 0 then none else some u.toNat
def oBy (u : Int) : Option Nat := if u < 0 then none else some (aBy u)
def oBx (u : Int) : Option Nat := if u < 0 then none else some (aBx u)
def dz (t : Nat) (s : Int) : Int := if sk t s.toNat = 2 then -1 else 0
def nnew (n : NS) (t : Nat) (l z : Int) : NS := nw (nw (nw (nw (nwA n 99 (n 90 0 0) (dz t)) 93 0 (n 90 0 0) l) 92 0 (n 90 0 0) t) 91 0 0 (n 91 0 0 + z)) 90 0 0 (n 90 0 0 + 1)
/-- a cell: its type, kind, number -/
def Ce (g : g_S) (q t K : Nat) (i : Int) : Prop := gt g q = t ∧ lc q = (K, i) ∧ ¬ ar q
theorem oi32 (x : Int32) : Int32.ofInt x.toInt = x := Int32.ofInt_toInt x
theorem oi64 (x : Int64) : Int64.ofInt x.toInt = x := Int64.ofInt_toInt x
theorem tnc {i : Int} (ri : inR i) : (Int32.ofInt i).toNatClampNeg = i.toNat := by
  show (Int32.ofInt i).toInt.toNat = _
  rw [ti32 ri]
theorem lt0 {i : Int} (ri : inR i) : (Int32.ofInt i < 0) ↔ i < 0 := r_lt rfl (e_n 0) ri (by decide)
theorem inb_ok {i : Int} {l : Nat} (ri : inR i) (h : 0 ≤ i ∧ i < l) : ab_inb (Int32.ofInt i) l = true := by
  unfold ab_inb
  rw [tnc ri]
  have h1 : ¬ (Int32.ofInt i < 0) := fun z => by have := (lt0 ri).mp z; omega
  have h2 : ¬ (l ≤ i.toNat) := by omega
  simp [h1, h2]
section ST
variable {n : NS} {K K' : Nat} {i i' s s' v : Int} {f : Int → Int} {m : YS} {F F' : Nat}
theorem nw_eq : nw n K i s v K i s = v := by simp [nw]
theorem nw_nK (h : K' ≠ K) : nw n K i s v K' = n K' := by funext a b; simp [nw, h]
theorem nw_ni (h : i' ≠ i) : nw n K i s v K' i' = n K' i' := by funext b; simp [nw, h]
theorem nw_ns (h : s' ≠ s) : nw n K i s v K' i' s' = n K' i' s' := by simp [nw, h]
theorem nwA_nK (h : K' ≠ K) : nwA n K i f K' = n K' := by funext a b; simp [nwA, h]
theorem nwA_ni (h : i' ≠ i) : nwA n K i f K' i' = n K' i' := by funext b; simp [nwA, h]
theorem nwA_eq : nwA n K i f K i = f := by funext b; simp [nwA]
theorem yw_eq : yw m F i v F i = v := by simp [yw]
theorem yw_nF (h : F' ≠ F) : yw m F i v F' = m F' := by funext a; simp [yw, h]
theorem yw_ni (h : i' ≠ i) : yw m F i v F' i' = m F' i' := by simp [yw, h]
end ST
theorem if_ok {ρ : Type} {p : Prop} [Decidable p] {x : Option ρ} (h : p) : (if p then x else none) = x := if_pos h
theorem gt_of {g g' : g_S} (h1 : g'.1 = g.1) (h2 : g'.2.1 = g.2.1) (q : Nat) : gt g' q = gt g q := by unfold gt; rw [h1, h2]
theorem gz_of {g g' : g_S} (h1 : g'.1 = g.1) (h2 : g'.2.1 = g.2.1) (h3 : g'.2.2.1 = g.2.2.1) : gz g' = gz g := by unfold gz gn gl; rw [h1, h2, h3]
theorem lc_ne {q q' : Nat} (h : q' ≠ q) : (lc q').1 ≠ (lc q).1 ∨ (lc q').2 ≠ (lc q).2 := by
  by_cases h1 : (lc q').1 = (lc q).1
  · right; intro h2; exact h (lc_inj (Prod.ext h1 h2))
  · exact .inl h1
theorem sk_ar {t : Nat} (h : t ≤ 2) (k : Nat) : sk t k = 0 := by unfold sk; rw [if_pos h]
theorem vl_i {g : g_S} {q k : Nat} (h : sk (gt g q) k = 0) : vl g q k = (gi g q k).toInt := by unfold vl; rw [if_pos h]
theorem vl_j {g : g_S} {q k : Nat} (h : sk (gt g q) k = 1) : vl g q k = (gj g q k).toInt := by unfold vl; rw [if_neg (by omega), if_pos h]
theorem vl_r {g : g_S} {q k : Nat} (h : sk (gt g q) k = 2) : vl g q k = rcd (gr g q k) := by unfold vl; rw [if_neg (by omega), if_neg (by omega)]
theorem gr_gwI {g : g_S} {q k : Nat} {v : Int32} : gr (gwI g q k v) = gr g := rfl
theorem gi_gwI2 {g : g_S} {q k p j : Nat} {v : Int32} (h : p ≠ q ∨ j ≠ k) : gi (gwI g q k v) p j = gi g p j := by
  show up2 g.2.2.2.1 q k v p j = _
  unfold up2
  by_cases hp : p = q
  · rw [if_pos hp]; unfold va_up; rw [if_neg (by rcases h with h | h; exact absurd hp h; exact h)]; rfl
  · rw [if_neg hp]; rfl
theorem gj_gwL2 {g : g_S} {q k p j : Nat} {v : Int64} (h : p ≠ q ∨ j ≠ k) : gj (gwL g q k v) p j = gj g p j := by
  show up2 g.2.2.2.2.1 q k v p j = _
  unfold up2
  by_cases hp : p = q
  · rw [if_pos hp]; unfold va_up; rw [if_neg (by rcases h with h | h; exact absurd hp h; exact h)]; rfl
  · rw [if_neg hp]; rfl
theorem gr_gwR2 {g : g_S} {q k p j : Nat} {v : Option Nat} (h : p ≠ q ∨ j ≠ k) : gr (gwR g q k v) p j = gr g p j := by
  show up2 g.2.2.2.2.2 q k v p j = _
  unfold up2
  by_cases hp : p = q
  · rw [if_pos hp]; unfold va_up; rw [if_neg (by rcases h with h | h; exact absurd hp h; exact h)]; rfl
  · rw [if_neg hp]; rfl
theorem gi_gwI1 {g : g_S} {q k : Nat} {v : Int32} : gi (gwI g q k v) q k = v := by rw [gi_gwI, va_up_eq2]
theorem gj_gwL1 {g : g_S} {q k : Nat} {v : Int64} : gj (gwL g q k v) q k = v := by rw [gj_gwL, va_up_eq2]
theorem gr_gwR1 {g : g_S} {q k : Nat} {v : Option Nat} : gr (gwR g q k v) q k = v := by rw [gr_gwR, va_up_eq2]
/-! the parts of the relation -/
section RR
variable {w y : Prop} {g : g_S} {n : NS} {m : YS}
theorem RC.val (h : RC w y g n m) {q k t K : Nat} {i s : Int} (hC : Ce g q t K i) (hs : s = (k : Int)) : n K i s = vl g q k := by
  have := h.2.1 q k hC.2.2
  rw [hC.2.1] at this
  rw [hs]; exact this
theorem RC.typ (h : RC w y g n m) {u : Int} {t : Nat} (h0 : 0 ≤ u) (ht : n 92 0 u = t) (h98 : t ≠ 98) : gt g u.toNat = t ∧ ¬ ar u.toNat := by
  have h1 := h.2.2.1 u.toNat
  rw [show ((u.toNat : Nat) : Int) = u from Int.toNat_of_nonneg h0] at h1
  by_cases ha : ar u.toNat
  · have := h1.2 ha; omega
  · have := (h1.1 ha).1; exact ⟨by omega, ha⟩
theorem RC.ln (h : RC w y g n m) {u : Int} (h0 : 0 ≤ u) (ha : ¬ ar u.toNat) : n 93 0 u = gl g u.toNat := by
  have h1 := h.2.2.1 u.toNat
  rw [show ((u.toNat : Nat) : Int) = u from Int.toNat_of_nonneg h0] at h1
  exact (h1.1 ha).2
/-- a cell whose type is looked at -/
theorem ce_dy (h : RC w y g n m) {u : Int} {t : Nat} (hd : 0 ≤ u ∧ lc u.toNat = (99, u)) (ht : n 92 0 u = t) (h98 : t ≠ 98) : Ce g u.toNat t 99 u := by
  have := h.typ hd.1 ht h98
  exact ⟨this.1, hd.2, this.2⟩
theorem ce_st (h : RC w y g n m) (hw : w) {q t K : Nat} {i : Int} (hq : q < 1838) (ht : sty q = t) (hl : lc q = (K, i)) : Ce g q t K i := by
  have := (h.2.2.2.2.1 hw).1 q hq
  exact ⟨by rw [this.1, ht], hl, fun z => by have := z.1; omega⟩
theorem RC.sl (h : RC w y g n m) (hw : w) {q l : Nat} (hq : q < 1838) (hl : sln q = l) : gl g q = l := by
  rw [((h.2.2.2.2.1 hw).1 q hq).2, hl]
end RR
/-! places of static cells -/
theorem nd_lt {i : Int} (h : 0 ≤ i ∧ i ≤ 120) : aNd i < 1650 ∧ 9 ≤ aNd i := by unfold aNd; split <;> omega
theorem nd_cases {i : Int} (h : 0 ≤ i ∧ i ≤ 120) (r : Nat) (hr : r < 13) : (aNd i + r < 1569 ∧ 9 ≤ aNd i ∧ (aNd i + r - 9) / 13 = i.toNat ∧ (aNd i + r - 9) % 13 = r ∧ i ≠ 120) ∨ (aNd i = 1636 ∧ i = 120) := by
  unfold aNd
  by_cases h1 : i = 120
  · right; rw [if_pos h1]; exact ⟨rfl, h1⟩
  · left; rw [if_neg h1]; omega
theorem lc_nd0 {i : Int} (h : 0 ≤ i ∧ i ≤ 120) (r : Nat) (hr : r < 13) : lc (aNd i + r) = lcN i r (aNd i + r) := by
  rcases nd_cases h r hr with ⟨h1, h2, h3, h4, h5⟩ | ⟨h1, h2⟩
  · unfold lc
    rw [if_neg (by omega), if_pos h1, h3, h4, show ((i.toNat : Nat) : Int) = i from Int.toNat_of_nonneg h.1]
  · unfold lc
    rw [h1, if_neg (by omega), if_neg (by omega), if_neg (by omega), if_neg (by omega), if_neg (by omega), if_pos (by omega), h2, show 1636 + r - 1636 = r from by omega]
theorem sty_nd0 {i : Int} (h : 0 ≤ i ∧ i ≤ 120) (r : Nat) (hr : r < 13) : sty (aNd i + r) = styN r ∧ sln (aNd i + r) = slnN r ∧ aNd i + r < 1838 := by
  rcases nd_cases h r hr with ⟨h1, h2, h3, h4, h5⟩ | ⟨h1, h2⟩
  · unfold sty sln
    rw [if_neg (by omega), if_pos h1, if_neg (by omega), if_pos h1, h4]
    exact ⟨rfl, rfl, by omega⟩
  · unfold sty sln
    rw [h1, if_neg (by omega), if_neg (by omega), if_neg (by omega), if_neg (by omega), if_neg (by omega), if_pos (by omega), if_neg (by omega), if_neg (by omega), if_neg (by omega), if_neg (by omega), if_neg (by omega), if_pos (by omega), show 1636 + r - 1636 = r from by omega]
    exact ⟨rfl, rfl, by omega⟩
section SC
variable {w y : Prop} {g : g_S} {n : NS} {m : YS} {i : Int}
theorem ce_nd (h : RC w y g n m) (hw : w) (hi : 0 ≤ i ∧ i ≤ 120) : Ce g (aNd i) 107 7 i :=
  ce_st h hw (sty_nd0 hi 0 (by decide)).2.2 (sty_nd0 hi 0 (by decide)).1 (lc_nd0 hi 0 (by decide))
theorem ce_nm (h : RC w y g n m) (hw : w) (hi : 0 ≤ i ∧ i ≤ 120) : Ce g (aNd i + 3) 3 18 i :=
  ce_st h hw (sty_nd0 hi 3 (by decide)).2.2 (sty_nd0 hi 3 (by decide)).1 (lc_nd0 hi 3 (by decide))
theorem ln_nm (h : RC w y g n m) (hw : w) (hi : 0 ≤ i ∧ i ≤ 120) : gl g (aNd i + 3) = 4 := h.sl hw (sty_nd0 hi 3 (by decide)).2.2 (sty_nd0 hi 3 (by decide)).2.1
theorem ce_vs (h : RC w y g n m) (hw : w) (hi : 0 ≤ i ∧ i ≤ 120) : Ce g (aNd i + 4) 4 19 i :=
  ce_st h hw (sty_nd0 hi 4 (by decide)).2.2 (sty_nd0 hi 4 (by decide)).1 (lc_nd0 hi 4 (by decide))
theorem ln_vs (h : RC w y g n m) (hw : w) (hi : 0 ≤ i ∧ i ≤ 120) : gl g (aNd i + 4) = 4 := h.sl hw (sty_nd0 hi 4 (by decide)).2.2 (sty_nd0 hi 4 (by decide)).2.1
theorem bx_st (hi : 0 ≤ i ∧ i ≤ 120) : aBx i < 1838 ∧ sty (aBx i) = 103 ∧ lc (aBx i) = (3, i) := by
  by_cases h1 : i = 120
  · subst h1; exact ⟨by decide, by decide, by decide⟩
  · have e : aBx i = 1669 + i.toNat := by unfold aBx; rw [if_neg h1]
    refine ⟨by omega, ?_, ?_⟩
    · unfold sty
      rw [if_neg (by omega), if_neg (by omega), if_neg (by omega), if_neg (by omega), if_neg (by omega), if_neg (by omega), if_neg (by omega), if_pos (by omega)]
    · unfold lc
      rw [if_neg (by omega), if_neg (by omega), if_neg (by omega), if_neg (by omega), if_neg (by omega), if_neg (by omega), if_neg (by omega), if_pos (by omega)]
      exact Prod.ext rfl (by show ((aBx i - 1669 : Nat) : Int) = i; omega)
theorem ce_bx (h : RC w y g n m) (hw : w) (hi : 0 ≤ i ∧ i ≤ 120) : Ce g (aBx i) 103 3 i := ce_st h hw (bx_st hi).1 (bx_st hi).2.1 (bx_st hi).2.2
theorem by_st (hi : 0 ≤ i ∧ i ≤ 631) : aBy i < 1838 ∧ sty (aBy i) = 104 ∧ lc (aBy i) = (4, i) := by
  by_cases h1 : i < 605
  · have hj : 0 ≤ i / 5 ∧ i / 5 ≤ 120 := by omega
    by_cases h2 : i % 5 = 0
    · have e : aBy i = aNd (i / 5) + 1 := by unfold aBy; rw [if_pos h1, if_pos h2]
      rw [e]
      refine ⟨(sty_nd0 hj 1 (by decide)).2.2, (sty_nd0 hj 1 (by decide)).1, ?_⟩
      rw [lc_nd0 hj 1 (by decide)]
      exact Prod.ext rfl (by show 5 * (i / 5) = i; omega)
    · have e : aBy i = aNd (i / 5) + 3 + 2 * (i % 5).toNat := by unfold aBy; rw [if_pos h1, if_neg h2]
      have h3 : (i % 5).toNat = 1 ∨ (i % 5).toNat = 2 ∨ (i % 5).toNat = 3 ∨ (i % 5).toNat = 4 := by omega
      rw [e]
      rcases h3 with h3 | h3 | h3 | h3 <;> rw [h3]
      · refine ⟨(sty_nd0 hj 5 (by decide)).2.2, (sty_nd0 hj 5 (by decide)).1, ?_⟩
        rw [show aNd (i / 5) + 3 + 2 * 1 = aNd (i / 5) + 5 from rfl, lc_nd0 hj 5 (by decide)]
        exact Prod.ext rfl (by show 5 * (i / 5) + 1 + ((0 : Nat) : Int) = i; omega)
      · refine ⟨(sty_nd0 hj 7 (by decide)).2.2, (sty_nd0 hj 7 (by decide)).1, ?_⟩
        rw [show aNd (i / 5) + 3 + 2 * 2 = aNd (i / 5) + 7 from rfl, lc_nd0 hj 7 (by decide)]
        exact Prod.ext rfl (by show 5 * (i / 5) + 1 + ((1 : Nat) : Int) = i; omega)
      · refine ⟨(sty_nd0 hj 9 (by decide)).2.2, (sty_nd0 hj 9 (by decide)).1, ?_⟩
        rw [show aNd (i / 5) + 3 + 2 * 3 = aNd (i / 5) + 9 from rfl, lc_nd0 hj 9 (by decide)]
        exact Prod.ext rfl (by show 5 * (i / 5) + 1 + ((2 : Nat) : Int) = i; omega)
      · refine ⟨(sty_nd0 hj 11 (by decide)).2.2, (sty_nd0 hj 11 (by decide)).1, ?_⟩
        rw [show aNd (i / 5) + 3 + 2 * 4 = aNd (i / 5) + 11 from rfl, lc_nd0 hj 11 (by decide)]
        exact Prod.ext rfl (by show 5 * (i / 5) + 1 + ((3 : Nat) : Int) = i; omega)
  · have h2 : i = 605 ∨ i = 606 ∨ i = 607 ∨ i = 608 ∨ i = 609 ∨ i = 610 ∨ i = 631 ∨ (611 ≤ i ∧ i < 631) := by omega
    rcases h2 with h2 | h2 | h2 | h2 | h2 | h2 | h2 | h2
    all_goals first | (subst h2; exact ⟨by decide, by decide, by decide⟩) | skip
    have e : aBy i = 1797 + 2 * (i - 611).toNat := by
      unfold aBy
      rw [if_neg (by omega), if_neg (by omega), if_neg (by omega), if_neg (by omega), if_neg (by omega), if_neg (by omega), if_neg (by omega), if_neg (by omega)]
    refine ⟨by omega, ?_, ?_⟩
    · unfold sty
      rw [if_neg (by omega), if_neg (by omega), if_neg (by omega), if_neg (by omega), if_neg (by omega), if_neg (by omega), if_neg (by omega), if_neg (by omega), if_neg (by omega), if_pos (by omega), if_pos (by omega)]
    · unfold lc
      rw [if_neg (by omega), if_neg (by omega), if_neg (by omega), if_neg (by omega), if_neg (by omega), if_neg (by omega), if_neg (by omega), if_neg (by omega), if_neg (by omega), if_pos (by omega), if_pos (by omega)]
      exact Prod.ext rfl (by show ((611 + (aBy i - 1797) / 2 : Nat) : Int) = i; omega)
theorem ce_by (h : RC w y g n m) (hw : w) (hi : 0 ≤ i ∧ i ≤ 631) : Ce g (aBy i) 104 4 i := ce_st h hw (by_st hi).1 (by_st hi).2.1 (by_st hi).2.2
end SC
theorem getD_mem {α : Type} {l : List α} {k : Nat} {d : α} : l.getD k d ∈ l ∨ l.getD k d = d := by
  rw [List.getD_eq_getElem?_getD]
  cases h : l[k]? with
  | none => exact .inr rfl
  | some x => exact .inl (List.mem_of_getElem? h)
theorem sk_le (t k : Nat) : sk t k ≤ 2 := by
  unfold sk
  repeat' split
  · decide
  · decide
  · decide
  · unfold skT
    generalize hl : ([_, _, _, _, _, _, _, _, _, _, _, _, _] : List (List Nat)) = l
    have hal : ∀ r ∈ l, ∀ x ∈ r, x ≤ 2 := by rw [← hl]; decide +kernel
    rcases getD_mem (l := l) (k := t - 100) (d := []) with h | h
    · rcases getD_mem (l := l.getD (t - 100) []) (k := k) (d := 0) with h' | h'
      · exact hal _ h _ h'
      · rw [h']; decide
    · rw [h]; simp
