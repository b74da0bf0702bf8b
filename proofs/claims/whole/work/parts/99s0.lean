/-! SELECTORS: scans and copies -/
theorem ck_e {α : Type} {a : Int} (x : Option α) (h : -10000000 ≤ a ∧ a ≤ 10000000) : ck a x = x := if_pos (by omega)
theorem ix_e {α : Type} {a L : Int} (x : Option α) (h : 0 ≤ a ∧ a < L) : ix a L x = x := if_pos h
/-- where a text stops for the class, and for the reference -/
def okK (g : Int → Int) (tc ty : Int) : Prop := tc ≤ ty ∧ (tc < ty → ¬ isNm (g tc) ∧ g tc ≠ 46 ∧ g tc ≠ 35 ∧ g tc ≠ 42)
section S0
variable {n n' : NS} {m m' : YS} {g : Int → Int} {a tc ty to d L : Int} {f : Nat}
theorem sc_stop (h : okK g tc ty) (ha : a ≤ tc) : sc (fun j => isNm (g j)) a ty = sc (fun j => isNm (g j)) a tc := by
  obtain ⟨s1, s2, s3, s4⟩ := scx_scn (p := fun j => isNm (g j)) a tc
  have h1 := h.1
  refine (scx_eq (p := fun j => isNm (g j)) ⟨s1, by omega, s3, fun hz => ?_⟩).symm
  by_cases y : sc (fun j => isNm (g j)) a tc < tc
  · exact s4 y
  · have e : sc (fun j => isNm (g j)) a tc = tc := by omega
    rw [e] at hz ⊢
    exact (h.2 hz).1
theorem sc_min (ha : a ≤ to) : sc (fun j => isNm (g j) ∧ j < a + 8) a to = min (sc (fun j => isNm (g j)) a to) (a + 8) := by
  obtain ⟨s1, s2, s3, s4⟩ := scx_scn (p := fun j => isNm (g j)) a to
  refine (scx_eq (p := fun j => isNm (g j) ∧ j < a + 8) ⟨by omega, by omega, fun j x y => ⟨s3 j x (by omega), by omega⟩, fun hz => ?_⟩).symm
  intro y
  by_cases z : sc (fun j => isNm (g j)) a to ≤ a + 8
  · rw [show min (sc (fun j => isNm (g j)) a to) (a + 8) = sc (fun j => isNm (g j)) a to by omega] at y hz
    exact s4 hz y.1
  · have := y.2
    omega
/-- up to eight bytes of a NAME -/
theorem y_nm8 {x1 x2 x3 : Int} (hl : ty ≤ yLn f) (h0 : 0 ≤ a ∧ a ≤ ty) (hto : ty ≤ 2000) : NL_Y_readPart_284 f ty x1 x2 a x3 a m = some (min (sc (fun j => isNm (m f j)) a ty) (a + 8)) := by
  rw [← sc_min h0.2]
  unfold NL_Y_readPart_284
  refine ev_scan (p := fun j => isNm (m f j) ∧ j < a + 8) (fun k h1 h2 => ?_)
  unfold nb_Y_readPart_284 nk_Y_readPart_310
  refine ev_if (fun hlt => ev_ix (by omega) (ev_bz ys_small (fun hp => ?_) (fun hp => ?_))) (fun hge => ev_ok (.inr ⟨rfl, fun z => hge z.1⟩))
  · rw [if_neg (by decide)]
    have hn : isNm (m f k) := by unfold isNm; unfold isSm at hp; omega
    refine ev_ck (by omega) (ev_if (fun h8 => ev_ck (by omega) (ev_ok (.inl ⟨rfl, hlt, hn, by omega⟩))) (fun h8 => ev_ok (.inr ⟨rfl, fun z => by have := z.2.2; omega⟩)))
  · rw [if_pos rfl]
    refine ev_ix (by omega) (ev_bz ys_digit (fun hq => ?_) (fun hq => ?_))
    · rw [if_neg (by decide)]
      have hn : isNm (m f k) := by unfold isNm; unfold isDg at hq; omega
      refine ev_ck (by omega) (ev_if (fun h8 => ev_ck (by omega) (ev_ok (.inl ⟨rfl, hlt, hn, by omega⟩))) (fun h8 => ev_ok (.inr ⟨rfl, fun z => by have := z.2.2; omega⟩)))
    · rw [if_pos rfl]
      refine ev_ok (.inr ⟨rfl, fun z => ?_⟩)
      have := z.2.1
      unfold isNm at this; unfold isSm at hp; unfold isDg at hq; omega
theorem y_nm8b {x1 x2 : Int} (hl : ty ≤ yLn f) (h0 : 0 ≤ a ∧ a ≤ ty) (hto : ty ≤ 2000) : NL_Y_readPart_68 f ty x1 x2 a a m = some (min (sc (fun j => isNm (m f j)) a ty) (a + 8)) := by
  rw [← sc_min h0.2]
  unfold NL_Y_readPart_68
  refine ev_scan (p := fun j => isNm (m f j) ∧ j < a + 8) (fun k h1 h2 => ?_)
  unfold nb_Y_readPart_68 nk_Y_readPart_94
  refine ev_if (fun hlt => ev_ix (by omega) (ev_bz ys_small (fun hp => ?_) (fun hp => ?_))) (fun hge => ev_ok (.inr ⟨rfl, fun z => hge z.1⟩))
  · rw [if_neg (by decide)]
    have hn : isNm (m f k) := by unfold isNm; unfold isSm at hp; omega
    refine ev_ck (by omega) (ev_if (fun h8 => ev_ck (by omega) (ev_ok (.inl ⟨rfl, hlt, hn, by omega⟩))) (fun h8 => ev_ok (.inr ⟨rfl, fun z => by have := z.2.2; omega⟩)))
  · rw [if_pos rfl]
    refine ev_ix (by omega) (ev_bz ys_digit (fun hq => ?_) (fun hq => ?_))
    · rw [if_neg (by decide)]
      have hn : isNm (m f k) := by unfold isNm; unfold isDg at hq; omega
      refine ev_ck (by omega) (ev_if (fun h8 => ev_ck (by omega) (ev_ok (.inl ⟨rfl, hlt, hn, by omega⟩))) (fun h8 => ev_ok (.inr ⟨rfl, fun z => by have := z.2.2; omega⟩)))
    · rw [if_pos rfl]
      refine ev_ok (.inr ⟨rfl, fun z => ?_⟩)
      have := z.2.1
      unfold isNm at this; unfold isSm at hp; unfold isDg at hq; omega
/-- is it a byte of a NAME -/
theorem y_isNm {α : Type} {b : Int} {A B : Option α} {L' : Int} (hi : 0 ≤ a ∧ a < L') (hb : m f a = b) : ((N_Y_isSmall (m f a) m).bind fun z => if z = 0 then ix a L' ((N_Y_isDigit (m f a) m).bind fun y => if y = 0 then A else B) else B) = if isNm b then B else A := by
  rw [hb]
  by_cases h1 : isSm b
  · rw [bz_t ys_small h1]
    simp only [Option.bind_some]
    rw [if_neg (by decide), if_pos (by unfold isNm; unfold isSm at h1; omega)]
  · rw [bz_f ys_small h1]
    simp only [Option.bind_some]
    rw [if_pos trivial, ix_e _ hi]
    by_cases h2 : isDg b
    · rw [bz_t ys_digit h2]
      simp only [Option.bind_some]
      rw [if_neg (by decide), if_pos (by unfold isNm; unfold isDg at h2; omega)]
    · rw [bz_f ys_digit h2]
      simp only [Option.bind_some]
      rw [if_pos trivial, if_neg (by unfold isNm; unfold isSm at h1; unfold isDg at h2; omega)]
/-- a copy whose counter goes with what is copied -/
theorem y_copy2 {F G : Nat} {A b K : Int} {fn : Int × YS → Option ((Int × YS) ⊕ YS)} (hFG : G ≠ F) (hK : 0 ≤ K) (hb : ∀ k m1, FY [F] m m1 → 0 ≤ k → k < K → fn (b + k, m1) = some (.inl (b + k + 1, yw m1 F (A + k) (m1 G (b + k))))) (he : ∀ m1, FY [F] m m1 → fn (b + K, m1) = some (.inr m1)) : ev (it fn (b, m)) (fun m' => FY [F] m m' ∧ (∀ j, 0 ≤ j → j < K → m' F (A + j) = m G (b + j)) ∧ ∀ j, ¬ (A ≤ j ∧ j < A + K) → m' F j = m F j) := by
  refine ev_it (fun s : Int × YS => (b ≤ s.1 ∧ s.1 ≤ b + K) ∧ FY [F] m s.2 ∧ (∀ j, 0 ≤ j → j < s.1 - b → s.2 F (A + j) = m G (b + j)) ∧ ∀ j, ¬ (A ≤ j ∧ j < A + K) → s.2 F j = m F j) (fun s => b + K - s.1) (fun s hs => ?_) ⟨⟨Int.le_refl _, by show b ≤ b + K; omega⟩, fun _ _ => rfl, fun j x y => by have y : j < b - b := y; omega, fun _ _ => rfl⟩
  obtain ⟨k, m1⟩ := s
  obtain ⟨g1, g2, g3, g4⟩ := hs
  simp only at g1 g2 g3 g4
  by_cases hlt : k < b + K
  · have h := hb (k - b) m1 g2 (by omega) (by omega)
    rw [show b + (k - b) = k by omega] at h
    rw [h, g2 G (by simp only [List.mem_cons, List.not_mem_nil, or_false]; exact hFG)]
    refine ev_inl ⟨⟨by show b ≤ k + 1 ∧ k + 1 ≤ b + K; omega, fun g hg => ?_, fun j x y => ?_, fun j hj => ?_⟩, by show b + K - (k + 1) < b + K - k; omega, by show 0 ≤ b + K - k; omega⟩
    · show yw m1 F _ _ g = m g
      rw [yw_nF (by simp only [List.mem_cons, List.not_mem_nil, or_false] at hg; exact hg)]; exact g2 g hg
    · have y : j < k + 1 - b := y
      show yw m1 F (A + (k - b)) (m G k) F (A + j) = m G (b + j)
      by_cases z : j = k - b
      · rw [z, yw_eq, show b + (k - b) = k by omega]
      · rw [yw_ni (by omega)]; exact g3 j x (by omega)
    · show yw m1 F (A + (k - b)) (m G k) F j = m F j
      rw [yw_ni (by omega)]; exact g4 j hj
  · have e : k = b + K := by omega
    rw [e, he m1 g2]
    exact ev_inr ⟨g2, fun j x y => g3 j x (by omega), g4⟩
end S0
