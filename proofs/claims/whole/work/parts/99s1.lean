/-! SELECTORS: the marks of a PART, in both -/
def MK1 (n : NS) (m : YS) (c : Int) : Prop := ((n 38 0 c = 1 ∧ m 94 c = 35) ∨ (n 38 0 c = 0 ∧ m 94 c = 46)) ∧ ∃ w, okN w ∧ m 95 c = (w.length : Int) ∧ sg (m 96) (8 * c) w.length = w ∧ n 37 0 c = pk w
def MKs (n : NS) (m : YS) (p : Int) : Prop := n 36 0 p = m 93 p ∧ (0 ≤ m 93 p ∧ m 93 p ≤ 4) ∧ ∀ j, 0 ≤ j → j < m 93 p → MK1 n m (4 * p + j)
/-- what marks leave as it was -/
def FKn (s p : Int) (n n' : NS) : Prop := (∀ K, K ∉ [33, 36, 37, 38] → n' K = n K) ∧ (∀ k, k ≠ s → n' 33 0 k = n 33 0 k) ∧ (∀ k, k ≠ p → n' 36 0 k = n 36 0 k) ∧ (∀ c, ¬ (4 * p ≤ c ∧ c < 4 * p + 4) → n' 37 0 c = n 37 0 c ∧ n' 38 0 c = n 38 0 c)
def FKy (s p : Int) (m m' : YS) : Prop := FY [93, 94, 95, 96, 97] m m' ∧ (∀ k, k ≠ s → m' 97 k = m 97 k) ∧ (∀ k, k ≠ p → m' 93 k = m 93 k) ∧ (∀ c, ¬ (4 * p ≤ c ∧ c < 4 * p + 4) → m' 94 c = m 94 c ∧ m' 95 c = m 95 c) ∧ (∀ j, ¬ (32 * p ≤ j ∧ j < 32 * p + 32) → m' 96 j = m 96 j)
section S1
variable {n n' n'' : NS} {m m' m'' : YS} {g : Int → Int} {a tc ty d L s p fr c : Int} {f : Nat}
theorem FKn.refl : FKn s p n n := ⟨fun _ _ => rfl, fun _ _ => rfl, fun _ _ => rfl, fun _ _ => ⟨rfl, rfl⟩⟩
theorem FKn.trans (h : FKn s p n n') (h' : FKn s p n' n'') : FKn s p n n'' := ⟨fun K x => (h'.1 K x).trans (h.1 K x), fun k x => (h'.2.1 k x).trans (h.2.1 k x), fun k x => (h'.2.2.1 k x).trans (h.2.2.1 k x), fun c x => ⟨(h'.2.2.2 c x).1.trans (h.2.2.2 c x).1, (h'.2.2.2 c x).2.trans (h.2.2.2 c x).2⟩⟩
theorem FKy.refl : FKy s p m m := ⟨fun _ _ => rfl, fun _ _ => rfl, fun _ _ => rfl, fun _ _ => ⟨rfl, rfl⟩, fun _ _ => rfl⟩
theorem FKy.trans (h : FKy s p m m') (h' : FKy s p m' m'') : FKy s p m m'' := ⟨fun K x => (h'.1 K x).trans (h.1 K x), fun k x => (h'.2.1 k x).trans (h.2.1 k x), fun k x => (h'.2.2.1 k x).trans (h.2.2.1 k x), fun c x => ⟨(h'.2.2.2.1 c x).1.trans (h.2.2.2.1 c x).1, (h'.2.2.2.1 c x).2.trans (h.2.2.2.1 c x).2⟩, fun j x => (h'.2.2.2.2 j x).trans (h.2.2.2.2 j x)⟩
theorem FKn.txx (h : FKn s p n n') (ht : tx n d g L) : tx n' d g L := by
  unfold tx at *
  rw [h.1 92 (by decide), h.1 93 (by decide), h.1 99 (by decide)]; exact ht
theorem MK1.cg (h : MK1 n m c) (h1 : n' 37 0 c = n 37 0 c ∧ n' 38 0 c = n 38 0 c) (h2 : m' 94 c = m 94 c ∧ m' 95 c = m 95 c) (h3 : ∀ j, 8 * c ≤ j → j < 8 * c + 8 → m' 96 j = m 96 j) : MK1 n' m' c := by
  obtain ⟨a1, w, a2, a3, a4, a5⟩ := h
  refine ⟨by rw [h1.2, h2.1]; exact a1, w, a2, by rw [h2.2]; exact a3, ?_, by rw [h1.1]; exact a5⟩
  have := a2.2.1
  exact Eq.trans (sg_cg _ _ (8 * c) (fun x hx => h3 _ (by omega) (by omega))) a4
/-- the class takes one mark -/
theorem c_mark (hs : 0 ≤ s ∧ s < 41) (hp : 0 ≤ p ∧ p < 123) (ht : tx n d g tc) (ha : 0 ≤ a ∧ a < tc ∧ tc ≤ 2000) (hg : g a = 46 ∨ g a = 35) (h4 : 0 ≤ n 36 0 p ∧ n 36 0 p < 4) (h33 : 0 ≤ n 33 0 s ∧ n 33 0 s ≤ 100000) :
    (nmC g (a + 1) tc = a + 1 → nb_Sheet_readPart_100 d fr tc s p a n = some (.inr (.inl (a + 1, n))))
    ∧ (nmC g (a + 1) tc ≠ a + 1 → nb_Sheet_readPart_100 d fr tc s p a n = some (.inl (nmC g (a + 1) tc, nw (nw (nw (nw n 38 0 (4 * p + n 36 0 p) (if g a = 35 then 1 else 0)) 37 0 (4 * p + n 36 0 p) (pk (sg g (a + 1) (nmC g (a + 1) tc - (a + 1)).toNat))) 33 0 s (n 33 0 s + (if g a = 35 then 100 else 10))) 36 0 p (n 36 0 p + 1)))) := by
  have hb := nmC_b (g := g) (i := a + 1) (to := tc) (by omega)
  have hN := cs_nameEnd (i := a + 1) (to := tc) ht (Int.le_refl _) (by omega) (by omega) (by omega)
  have h0 : nb_Sheet_readPart_100 d fr tc s p a n = nk_Sheet_readPart_124 d fr tc s p a n := by
    unfold nb_Sheet_readPart_100 dx
    rw [if_pos ha.2.1, if_pos ⟨ht.1, ha.1, by have := ht.2.1; omega⟩, ht.2.2 a ha.1 ha.2.1]
    rcases hg with z | z
    · rw [if_pos z]
    · rw [if_neg (by omega), if_pos ⟨ht.1, ha.1, by have := ht.2.1; omega⟩, if_pos z]
  rw [h0]
  unfold nk_Sheet_readPart_124
  rw [ix_e _ hp, if_pos h4.2, ck_e _ (by omega), hN]
  simp only [Option.bind_some]
  rw [ck_e _ (by omega)]
  refine ⟨fun z => by rw [if_pos z, z], fun z => ?_⟩
  rw [if_neg z, ck_e _ (by omega), ix_e _ hp, ck_e _ (by omega)]
  unfold dx
  rw [if_pos ⟨ht.1, ha.1, by have := ht.2.1; omega⟩, ht.2.2 a ha.1 ha.2.1, show p * 4 + n 36 0 p = 4 * p + n 36 0 p by omega]
  have hname : a + 1 < nmC g (a + 1) tc ∧ nmC g (a + 1) (nmC g (a + 1) tc) = nmC g (a + 1) tc := by
    refine ⟨by omega, ?_⟩
    have hz : a + 1 < tc ∧ isSm (g (a + 1)) := by
      by_cases y : a + 1 < tc ∧ isSm (g (a + 1))
      · exact y
      · exact absurd (by unfold nmC; rw [if_neg y]) z
    refine nmC_all (by omega) (by omega) hz.2 (fun j x y => ?_)
    have e : nmC g (a + 1) tc = min (sc (fun j => isNm (g j)) (a + 1) tc) (a + 1 + 8) := by unfold nmC; rw [if_pos hz]
    exact scx_in (p := fun j => isNm (g j)) x (show j < sc (fun j => isNm (g j)) (a + 1) tc by omega)
  generalize nmC g (a + 1) tc = z7 at *
  generalize hc : 4 * p + n 36 0 p = c at *
  have hc1 : 0 ≤ c ∧ c < 492 := by omega
  have go : ∀ w : Int, (w = 0 ∨ w = 1) → nk_Sheet_readPart_194 d fr tc s p a z7 c w c n = some (.inl (z7, nw (nw (nw (nw n 38 0 c w) 37 0 c (pk (sg g (a + 1) (z7 - (a + 1)).toNat))) 33 0 s (n 33 0 s + (if w = 0 then 10 else 100))) 36 0 p (n 36 0 p + 1))) := fun w hw => by
    have ht' : tx (nw n 38 0 c w) d g tc := by
      unfold tx at *
      rw [nw_nK (by decide), nw_nK (by decide), nw_nK (by decide)]; exact ht
    have e37 : ∀ x, 0 ≤ x → x ≤ 100 → nk_Sheet_readPart_237 d fr tc s p z7 x (n 33 0 s) s (nw (nw n 38 0 c w) 37 0 c (pk (sg g (a + 1) (z7 - (a + 1)).toNat))) = some (.inl (z7, nw (nw (nw (nw n 38 0 c w) 37 0 c (pk (sg g (a + 1) (z7 - (a + 1)).toNat))) 33 0 s (n 33 0 s + x)) 36 0 p (n 36 0 p + 1))) := fun x x0 x1 => by
      unfold nk_Sheet_readPart_237 st
      dsimp only
      rw [ck_e _ (by omega), ix_e _ hs, ix_e _ hp]
      rw [nw_nK (show (36 : Nat) ≠ 33 by decide), nw_nK (show (36 : Nat) ≠ 37 by decide), nw_nK (show (36 : Nat) ≠ 38 by decide), ck_e _ (by omega), ix_e _ hp]
    unfold nk_Sheet_readPart_194 cz st
    dsimp only
    rw [if_pos (by rcases hw with y | y <;> rw [y] <;> decide), ix_e _ hc1, ck_e _ (by omega), c_packN ht' ⟨by omega, by omega, by omega⟩ hname]
    simp only [Option.bind_some]
    rw [ix_e _ hc1, ix_e _ hs, ix_e _ hc1, nw_nK (by decide), nw_eq]
    rw [nw_nK (show (33 : Nat) ≠ 37 by decide), nw_nK (show (33 : Nat) ≠ 38 by decide)]
    by_cases y : w = 0
    · rw [if_pos y, if_pos y, e37 10 (by decide) (by decide)]
    · rw [if_neg y, if_neg y, e37 100 (by decide) (by decide)]
  by_cases z35 : g a = 35
  · rw [if_pos z35, if_pos z35, if_pos z35, go 1 (.inr rfl), if_neg (by decide)]
  · rw [if_neg z35, if_neg z35, if_neg z35, go 0 (.inl rfl), if_pos rfl]
end S1
