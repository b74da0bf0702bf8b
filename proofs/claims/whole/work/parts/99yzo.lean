/-! BOTH ARE MADE: the state on numbers -/
def chk1 (q k : Nat) : Bool := match srT (lc q).1 k with
  | none => true
  | some a => decide (sk (sty q) k = 2) && (decide ((lc a).1 = rk (sty q) k) && (decide ((lc a).2 = Vt q k) && (decide (0 ≤ (lc a).2) && decide (q ∉ [1582, 1583, 1589, 1590, 1591, 1592]))))
def EXC : List Nat := [1582, 1583, 1589, 1590, 1591, 1592]
def g00 : g_S := (0, fun _ => 0, fun _ => 0, fun _ _ => 0, fun _ _ => 0, fun _ _ => none)
section YZO
variable {g g0 g' : g_S} {K q k t l p j c d a : Nat} {fi : Nat → Int32} {R : Nat → Nat → Int32} {α β : Type} {Q : α → Prop} {n n' : NS} {m : YS} {L : List (Nat × (Nat → Int))} {i s b : Int}
set_option maxRecDepth 100000 in
theorem chk_all : ((List.range 1838).all fun q => (List.range 21).all fun k => chk1 q k) = true := by decide +kernel
theorem chk_at (hq : q < 1838) (hk : k < 21) (h : srT (lc q).1 k = some a) : sk (sty q) k = 2 ∧ (lc a).1 = rk (sty q) k ∧ (lc a).2 = Vt q k ∧ 0 ≤ (lc a).2 ∧ q ∉ EXC := by
  have h1 := List.all_eq_true.mp chk_all q (List.mem_range.mpr hq)
  have h2 := List.all_eq_true.mp h1 k (List.mem_range.mpr hk)
  unfold chk1 at h2
  rw [h] at h2
  simp only [Bool.and_eq_true, decide_eq_true_eq] at h2
  exact h2
set_option maxHeartbeats 4000000 in
theorem srT_lt (h : srT K k = some a) : k < 21 := by
  unfold srT at h
  split at h <;> first | omega | (cases h)
/-- of which number a node can be -/
theorem nk_all : ((List.range 1838).all fun q => decide (((lc q).1 = 7 → 0 ≤ (lc q).2 ∧ (lc q).2 ≤ 120) ∧ ((lc q).1 = 19 → (0 ≤ (lc q).2 ∧ (lc q).2 ≤ 120) ∧ sty q = 4))) = true := by decide +kernel
theorem nk_at (hq : q < 1838) (hl : lc q = (K, i)) : (K = 7 → 0 ≤ i ∧ i ≤ 120) ∧ (K = 19 → (0 ≤ i ∧ i ≤ 120) ∧ sty q = 4) := by
  have h1 := List.all_eq_true.mp nk_all q (List.mem_range.mpr hq)
  have h1 := of_decide_eq_true h1
  rw [hl] at h1
  exact h1
theorem srf_ok (hq : q < 1838) (h : srf (lc q).1 (lc q).2 k = some a) : sk (sty q) k = 2 ∧ (lc a).1 = rk (sty q) k ∧ (lc a).2 = Vt q k ∧ 0 ≤ (lc a).2 ∧ q ∉ EXC := by
  have ha := al_lc q
  obtain ⟨K, i, hl⟩ : ∃ K i, lc q = (K, i) := ⟨_, _, rfl⟩
  rw [hl] at h ha
  unfold srf at h
  have hKk := lc_k q
  by_cases h7 : K = 7
  · rw [if_pos h7] at h
    subst h7
    rw [al_7] at ha
    have hi := (nk_at hq hl).1 rfl
    have st : nSt q i := by
      rw [← ha]
      by_cases z : i = 120
      · rw [z]; exact n_st2
      · have e : aNd i = 9 + 13 * i.toNat := by unfold aNd; rw [if_neg z]
        rw [e]
        have := n_st (i := i.toNat) (by omega)
        rw [show ((i.toNat : Nat) : Int) = i by omega] at this
        exact this
    have t0 : sty q = 107 := st.ty (r := 0) (by decide)
    rw [t0, Vt_of hl (by decide)]
    have nE : q ∉ EXC := fun hx => by
      have : ∀ x ∈ EXC, (lc x).1 ≠ 7 := by decide
      exact this q hx (by rw [hl])
    by_cases k11 : k = 11
    · rw [if_pos k11] at h
      have e := al_lc (q + 1)
      rw [st.lc (r := 1) (by decide)] at e
      have e : aBy (5 * i) = q + 1 := e
      rw [← Option.some.inj h, e, st.lc (r := 1) (by decide), k11]
      exact ⟨rfl, rfl, rfl, by show 0 ≤ 5 * i; omega, nE⟩
    · rw [if_neg k11] at h
      by_cases k13 : k = 13
      · rw [if_pos k13] at h
        rw [← Option.some.inj h, ha, st.lc (r := 3) (by decide), k13]
        exact ⟨rfl, rfl, rfl, hi.1, nE⟩
      · rw [if_neg k13] at h
        by_cases k14 : k = 14
        · rw [if_pos k14] at h
          rw [← Option.some.inj h, ha, st.lc (r := 4) (by decide), k14]
          exact ⟨rfl, rfl, rfl, hi.1, nE⟩
        · rw [if_neg k14] at h; cases h
  · rw [if_neg h7] at h
    have nE : ∀ K', K' = 19 ∨ K' = 20 ∨ K' = 42 → K = K' → q ∉ EXC := fun K' h1 h2 hx => by
      have : ∀ x ∈ EXC, (lc x).1 ≠ 19 ∧ (lc x).1 ≠ 20 ∧ (lc x).1 ≠ 42 := by decide
      have := this q hx
      rw [hl] at this
      have this : K ≠ 19 ∧ K ≠ 20 ∧ K ≠ 42 := this
      omega
    by_cases h19 : K = 19
    · rw [if_pos h19] at h
      subst h19
      by_cases k4 : k < 4
      · rw [if_pos k4] at h
        have hb := ((nk_at hq hl).2 rfl).1
        obtain ⟨b1, b2, b3⟩ := by_st (i := 5 * i + 1 + k) (by omega)
        have ht : sty q = 4 := ((nk_at hq hl).2 rfl).2
        rw [← Option.some.inj h, b3, ht, Vt_of hl (by decide)]
        refine ⟨rfl, rfl, ?_, by show 0 ≤ 5 * i + 1 + (k : Int); omega, nE 19 (by omega) rfl⟩
        show 5 * i + 1 + (k : Int) = upv (upv (upv (upv (blk 4) 0 (5 * i + 1)) 1 (5 * i + 2)) 2 (5 * i + 3)) 3 (5 * i + 4) k
        match k, k4 with
        | 0, _ => show _ = 5 * i + 1; omega
        | 1, _ => show _ = 5 * i + 2; omega
        | 2, _ => show _ = 5 * i + 3; omega
        | 3, _ => show _ = 5 * i + 4; omega
      · rw [if_neg k4] at h; cases h
    · rw [if_neg h19] at h
      by_cases h20 : K = 20
      · rw [if_pos h20] at h
        subst h20
        have e6 : q = 6 := ha.symm.trans (by rfl)
        by_cases k4 : k < 120
        · rw [if_pos k4] at h
          have st := n_st k4
          have e := al_lc (9 + 13 * k)
          rw [show lc (9 + 13 * k) = (7, (k : Int)) from st.lc (r := 0) (by decide)] at e
          have e : aNd (k : Int) = 9 + 13 * k := e
          rw [← Option.some.inj h, e, show lc (9 + 13 * k) = (7, (k : Int)) from st.lc (r := 0) (by decide), Vt_of hl (by decide), e6]
          refine ⟨rfl, rfl, ?_, by show (0 : Int) ≤ k; omega, by decide⟩
          show (k : Int) = if k < 120 then (k : Int) else -1
          rw [if_pos k4]
        · rw [if_neg k4] at h; cases h
      · rw [if_neg h20] at h
        by_cases h42 : K = 42
        · rw [if_pos h42] at h
          subst h42
          have e6 : q = 1662 := ha.symm.trans (by rfl)
          by_cases k4 : k < 120
          · rw [if_pos k4] at h
            obtain ⟨b1, b2, b3⟩ := bx_st (i := (k : Int)) (by omega)
            rw [← Option.some.inj h, b3, Vt_of hl (by decide), e6]
            refine ⟨rfl, rfl, ?_, by show (0 : Int) ≤ k; omega, by decide⟩
            show (k : Int) = if k < 120 then (k : Int) else -1
            rw [if_pos k4]
          · rw [if_neg k4] at h; cases h
        · rw [if_neg h42] at h
          exact chk_at hq (srT_lt h) (by rw [hl]; exact h)
theorem sh_of (h : BD Vt g 1838 L) (hE : ∀ x ∈ L, x.1 ∈ EXC) : SH g := by
  refine ⟨fun q hq => h.ty hq, fun q hq k a ha => ?_⟩
  obtain ⟨a1, a2, a3, a4, a5⟩ := srf_ok hq ha
  exact h.ref hq a1 (by rw [h.2.1 q hq (fun x hx z => a5 (by rw [← z]; exact hE x hx)) k, a3]) a2 a4
theorem rc_sh (h : BD Vt g 1838 L) (hE : ∀ x ∈ L, x.1 ∈ EXC) : RC True False g (nOf g) m := by
  have r : RC False False g (nOf g) m := rc_of h.1.2.2.2
  exact ⟨r.1, r.2.1, r.2.2.1, r.2.2.2.1, fun _ => sh_of h hE, fun z => z.elim⟩
end YZO
