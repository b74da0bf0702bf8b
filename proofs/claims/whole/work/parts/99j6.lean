/-! AN ANSWER IS KEPT, in both -/
def rowL (m : YS) (r : Int) : List Int := sg (m 6) (150 * r) (m 7 r).toNat
/-- what is KEPT, in both: the class has it in its order -/
def JKp (κ : Int → Int) (As Bs : Int → Prop) (n : NS) (m : YS) : Prop :=
  (n 6 0 4 = m 26 0 ∧ 0 ≤ m 26 0 ∧ m 26 0 ≤ 8 ∧ 0 ≤ m 27 0)
  ∧ (∀ j, 0 ≤ j → j < m 26 0 → (0 ≤ κ j ∧ κ j < m 26 0) ∧ AnS As Bs n m (n 24 0 j) (12 + κ j) (18 + κ j) (58 + κ j) ∧ n 99 (n 24 0 j) 7 = m 28 (κ j) ∧ m 29 (κ j) < m 27 0)
  ∧ (∀ j j', 0 ≤ j → j < j' → j' < m 26 0 → m 29 (κ j) < m 29 (κ j') ∧ rowL m (18 + κ j) ≠ rowL m (18 + κ j'))
  ∧ (∀ k, 0 ≤ k → k < m 26 0 → ∃ j, 0 ≤ j ∧ j < m 26 0 ∧ κ j = k)
section J6
variable {n n' : NS} {m m' : YS} {A B a g kc i v1 v2 w0 r : Int} {nm q mk nm' q' mk' : List Int} {ss ss' : List (List Int)} {As Bs W : Int → Prop} {κ : Int → Int}
theorem RA.rowL (h : RA m r nm ss q mk) : rowL m r = adL nm ss q := by
  unfold _root_.Jvm.Pilot.CBrowserHouseLaw_law_r2351_74ff1e.rowL
  rw [h.1, Int.toNat_natCast]; exact h.2.1
theorem RA.swap (h : RA m r nm ss q mk) (he : adL nm' ss' q' = adL nm ss q) : RA m r nm' ss' q' mk := by
  unfold RA at *
  rw [he]; exact h
theorem JKp.inj (h : JKp κ As Bs n m) {j j' : Int} (h0 : 0 ≤ j) (h1 : j < m 26 0) (h0' : 0 ≤ j') (h1' : j' < m 26 0) (he : κ j = κ j') : j = j' := by
  by_cases z : j < j'
  · have := (h.2.2.1 j j' h0 z h1').1; rw [he] at this; omega
  · by_cases y : j' < j
    · have := (h.2.2.1 j' j h0' y h1).1; rw [he] at this; omega
    · omega
theorem c_keep75 (hk : n 6 0 4 = kc ∧ 1 ≤ kc ∧ kc ≤ 8) (hg : 0 ≤ g ∧ g < kc) (ho : ∀ j, g < j → j < kc → 0 ≤ n 24 0 j ∧ n 92 0 (n 24 0 j) = 102) (ha : n 92 0 a = 102) (hc : 0 ≤ n 6 0 12 ∧ n 6 0 12 ≤ 1000000) (hage : -1 ≤ n 99 a 1 ∧ n 99 a 1 ≤ 9999) :
    ev (nk_Net_keep_75 a g n) (fun n' => ∃ n1, n' = nw n1 99 a 7 (n 6 0 12 + n 99 a 1) ∧ (∀ K, K ≠ 24 → n1 K = n K) ∧ ∀ j, 0 ≤ j → j < kc → n1 24 0 j = if j < g then n 24 0 j else if j < kc - 1 then n 24 0 (j + 1) else a) := by
  unfold nk_Net_keep_75
  refine ev_bind (P := fun n1 => (∀ K, K ≠ 24 → n1 K = n K) ∧ ∀ j, 0 ≤ j → j < kc - 1 → n1 24 0 j = if j < g then n 24 0 j else n 24 0 (j + 1)) ?_ (fun n1 h1 => ?_)
  · unfold NL_Net_keep_77
    refine ev_it (fun t : Int × NS => (g ≤ t.1 ∧ t.1 < kc) ∧ (∀ K, K ≠ 24 → t.2 K = n K) ∧ ∀ j, 0 ≤ j → j < kc → t.2 24 0 j = if j < g then n 24 0 j else if j < t.1 then n 24 0 (j + 1) else n 24 0 j) (fun t => kc - t.1) (fun t ht => ?_) ⟨by show g ≤ g ∧ g < kc; omega, fun _ _ => rfl, fun j a b => ?_⟩
    · obtain ⟨t, n2⟩ := t
      obtain ⟨g1, g2, g3⟩ := ht
      simp only at g1 g2 g3
      show ev (nb_Net_keep_77 a t n2) _
      unfold nb_Net_keep_77
      rw [g2 6 (by decide), hk.1]
      refine ev_ck (by omega) (ev_if (fun hlt => ?_) (fun hge => ev_inr ⟨g2, fun j a b => ?_⟩))
      · have e1 : n2 24 0 (t + 1) = n 24 0 (t + 1) := by rw [g3 _ (by omega) hlt, if_neg (by omega), if_neg (by omega)]
        have o1 := ho (t + 1) (by omega) hlt
        rw [e1]
        refine ev_ck (by omega) (ev_ix (by omega) (ev_nn o1.1 (ev_ty (by rw [g2 92 (by decide)]; exact o1.2) (ev_ix (by omega) (ev_st (ev_ck (by omega) (ev_inl ⟨⟨by show g ≤ t + 1 ∧ t + 1 < kc; omega, fun K hK => ?_, fun j a b => ?_⟩, by show kc - (t + 1) < kc - t; omega, by show 0 ≤ kc - t; omega⟩)))))))
        · show nw n2 24 0 t (n 24 0 (t + 1)) K = n K
          rw [nw_nK hK]; exact g2 K hK
        · show nw n2 24 0 t (n 24 0 (t + 1)) 24 0 j = if j < g then n 24 0 j else if j < t + 1 then n 24 0 (j + 1) else n 24 0 j
          by_cases z : j = t
          · subst z
            rw [nw_eq, if_neg (by omega), if_pos (by omega)]
          · rw [nw_ns z, g3 j a b]
            by_cases y : j < g
            · rw [if_pos y, if_pos y]
            · rw [if_neg y, if_neg y]
              by_cases w : j < t
              · rw [if_pos w, if_pos (by omega)]
              · rw [if_neg w, if_neg (by omega)]
      · rw [g3 j a (by omega)]
        by_cases y : j < g
        · rw [if_pos y, if_pos y]
        · rw [if_neg y, if_neg y, if_pos (by omega)]
    · show n 24 0 j = if j < g then n 24 0 j else if j < g then n 24 0 (j + 1) else n 24 0 j
      split
      · rfl
      · rfl
  · obtain ⟨q1, q2⟩ := h1
    have e92 := q1 92 (by decide)
    have e6 := q1 6 (by decide)
    have e99 := q1 99 (by decide)
    rw [e6, hk.1]
    refine ev_ck (by omega) (ev_ty (by rw [e92]; exact ha) (ev_ix (by omega) (ev_st ?_)))
    have k6 : nw n1 24 0 (kc - 1) a 6 = n 6 := by rw [nw_nK (by decide), e6]
    have k99 : nw n1 24 0 (kc - 1) a 99 = n 99 := by rw [nw_nK (by decide), e99]
    have k92 : nw n1 24 0 (kc - 1) a 92 = n 92 := by rw [nw_nK (by decide), e92]
    rw [k6, k99]
    refine ev_ty (by rw [k92]; exact ha) (ev_ck (by omega) (ev_ty (by rw [k92]; exact ha) (ev_st (ev_ok ⟨_, rfl, fun K hK => by rw [nw_nK hK, q1 K hK], fun j x y => ?_⟩))))
    by_cases z : j = kc - 1
    · rw [z, nw_eq, if_neg (by omega), if_neg (by omega)]
    · rw [nw_ns z, q2 j x (by omega)]
      by_cases w : j < g
      · rw [if_pos w, if_pos w]
      · rw [if_neg w, if_neg w, if_pos (by omega)]
/-- the class's place of what goes -/
theorem c_keep2 (hK : JKp κ As Bs n m) (hA : AdS n As) (ha : AnS As Bs n m a i (6 + i) (46 + i)) (hC : CA n (n 99 a 0) nm ss q []) (hW : WFA nm ss q []) : NL_Net_keep_2 a 0 n = some (sc (fun j => rowL m (18 + κ j) ≠ adL nm ss q) 0 (m 26 0)) := by
  unfold NL_Net_keep_2
  obtain ⟨⟨k1, k2, k3, k4⟩, k5, k6, k7⟩ := hK
  refine ev_scan (fun x x1 x2 => ?_)
  show ev (nb_Net_keep_2 a x n) _
  unfold nb_Net_keep_2
  rw [k1]
  refine ev_if (fun hlt => ?_) (fun hge => ev_ok (.inr ⟨rfl, fun z => hge z.1⟩))
  obtain ⟨_, c2, _⟩ := k5 x x1 hlt
  obtain ⟨nm1, ss1, qq1, w1, d1, r1⟩ := c2.2.1.2.2
  have hAt := hA _ c2.2.1.1
  have hAa := hA _ ha.2.1.1
  refine ev_ix (by omega) (ev_nn c2.1.1 (ev_ty c2.1.2.2 (ev_nn hAt.1.1.1 (ev_ty ha.1.2.2 (ev_nn hAa.1.1.1 (ev_ty hAt.1.2.1 (ev_bz (c_isAt hA c2.2.1.1 ha.2.1.1 d1 w1 hC hW) (fun hp => ?_) (fun hp => ?_))))))))
  · rw [if_neg (by decide)]
    exact ev_ok (.inr ⟨rfl, fun z => z.2 (by rw [r1.rowL]; exact hp)⟩)
  · rw [if_pos rfl]
    exact ev_ck (by omega) (ev_ok (.inl ⟨rfl, hlt, by rw [r1.rowL]; exact hp⟩))
theorem y_keep2 (hK : JKp κ As Bs n m) (hR : RA m 4 nm ss q []) (hW : WFA nm ss q []) : NL_Y_keep_2 v1 0 m = some (sc (fun k => rowL m (18 + k) ≠ adL nm ss q) 0 (m 26 0)) := by
  unfold NL_Y_keep_2
  obtain ⟨⟨k1, k2, k3, k4⟩, k5, k6, k7⟩ := hK
  refine ev_scan (fun x x1 x2 => ?_)
  show ev (nb_Y_keep_2 v1 x m) _
  unfold nb_Y_keep_2
  refine ev_if (fun hlt => ?_) (fun hge => ev_ok (.inr ⟨rfl, fun z => hge z.1⟩))
  obtain ⟨j, j0, j1, je⟩ := k7 x x1 hlt
  obtain ⟨_, c2, _⟩ := k5 j j0 j1
  rw [je] at c2
  obtain ⟨nm1, ss1, qq1, w1, d1, r1⟩ := c2.2.1.2.2
  refine ev_ck (by omega) (ev_bz (y_alike r1 w1 hR hW (by omega) (by omega)) (fun hp => ?_) (fun hp => ?_))
  · rw [if_neg (by decide)]
    exact ev_ok (.inr ⟨rfl, fun z => z.2 (by rw [r1.rowL]; exact hp)⟩)
  · rw [if_pos rfl]
    exact ev_ck (by omega) (ev_ok (.inl ⟨rfl, hlt, by rw [r1.rowL]; exact hp⟩))
/-- the one that was kept first -/
theorem y_keep38 (hK : JKp κ As Bs n m) (h8 : m 26 0 = 8) : NL_Y_keep_38 v1 0 1 m = some (κ 0) := by
  apply eq_of_ev
  obtain ⟨⟨k1, k2, k3, k4⟩, k5, k6, k7⟩ := hK
  have hmin : ∀ k, 0 ≤ k → k < 8 → m 29 (κ 0) ≤ m 29 k := fun k a b => by
    obtain ⟨j, j0, j1, je⟩ := k7 k a (by omega)
    by_cases z : j = 0
    · rw [← je, z]; exact Int.le_refl _
    · have := (k6 0 j (by omega) (by omega) j1).1
      rw [je] at this; omega
  have h0 := (k5 0 (by omega) (by omega)).1
  have huniq : ∀ k, 0 ≤ k → k < 8 → m 29 k = m 29 (κ 0) → k = κ 0 := fun k a b he => by
    obtain ⟨j, j0, j1, je⟩ := k7 k a (by omega)
    by_cases z : j = 0
    · rw [← je, z]
    · have := (k6 0 j (by omega) (by omega) j1).1
      rw [je] at this; omega
  unfold NL_Y_keep_38
  refine ev_it (fun t : Int × Int => (0 ≤ t.1 ∧ t.1 < 8) ∧ (1 ≤ t.2 ∧ t.2 ≤ 8) ∧ ∀ k, 0 ≤ k → k < t.2 → m 29 t.1 ≤ m 29 k) (fun t => 8 - t.2) (fun t ht => ?_) ⟨by show (0 : Int) ≤ 0 ∧ (0 : Int) < 8; decide, by show (1 : Int) ≤ 1 ∧ (1 : Int) ≤ 8; decide, fun k a b => by have b : k < 1 := b; rw [show k = 0 by omega]; exact Int.le_refl _⟩
  obtain ⟨b, c⟩ := t
  obtain ⟨g1, g2, g3⟩ := ht
  simp only at g1 g2 g3
  show ev (nb_Y_keep_38 v1 b c m) _
  unfold nb_Y_keep_38
  refine ev_if (fun hlt => ev_ix (by omega) (ev_ix g1 (ev_if (fun hl => ev_ck (by omega) (ev_inl ⟨⟨by show 0 ≤ c ∧ c < 8; omega, by show 1 ≤ c + 1 ∧ c + 1 ≤ 8; omega, fun k x y => ?_⟩, by show 8 - (c + 1) < 8 - c; omega, by show 0 ≤ 8 - c; omega⟩)) (fun hl => ev_ck (by omega) (ev_inl ⟨⟨g1, by show 1 ≤ c + 1 ∧ c + 1 ≤ 8; omega, fun k x y => ?_⟩, by show 8 - (c + 1) < 8 - c; omega, by show 0 ≤ 8 - c; omega⟩))))) (fun hge => ev_inr ?_)
  · have y : k < c + 1 := y
    show m 29 c ≤ m 29 k
    by_cases z : k = c
    · rw [z]; exact Int.le_refl _
    · have := g3 k x (by omega); omega
  · have y : k < c + 1 := y
    show m 29 b ≤ m 29 k
    by_cases z : k = c
    · rw [z]; omega
    · exact g3 k x (by omega)
  · have a1 := hmin b g1.1 g1.2
    have a2 := g3 (κ 0) h0.1 (by omega)
    exact huniq b g1.1 g1.2 (by omega)
end J6
