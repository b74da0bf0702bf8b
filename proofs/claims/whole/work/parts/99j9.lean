/-! ASKING: the searches -/
/-- rows of bytes but S are as they were -/
def FS (S : Int → Prop) (n n' : NS) : Prop := ∀ b, 0 ≤ b → b ≤ 631 → ¬ S b → n' 4 b = n 4 b ∧ n' 99 (n 4 b 1) = n 99 (n 4 b 1)
/-- the last ANSWER at an ADDRESS, of the first ones -/
def lstA (m : YS) (X : List Int) : Nat → Int
  | 0 => -1
  | c + 1 => if rowL m (6 + c) = X then c else lstA m X c
section J9
variable {n n' n'' : NS} {m m' : YS} {A B a b i r v2 : Int} {nm q mk X : List Int} {ss : List (List Int)} {As Bs W S : Int → Prop} {κ : Int → Int}
theorem FS.refl (S : Int → Prop) (n : NS) : FS S n n := fun _ _ _ _ => ⟨rfl, rfl⟩
theorem FS.trans (h : FS S n n') (h' : FS S n' n'') : FS S n n'' := fun b x y z => by
  have h1 := h b x y z
  have h2 := h' b x y z
  rw [h1.1] at h2
  exact ⟨h2.1, h2.2.trans h1.2⟩
theorem FS.bt (h : FS S n n') (hb : 0 ≤ b ∧ b ≤ 631) (hS : ¬ S b) : bt n' b = bt n b := by
  unfold _root_.Jvm.Pilot.CBrowserHouseLaw_law_r2351_74ff1e.bt
  rw [(h b hb.1 hb.2 hS).1, (h b hb.1 hb.2 hS).2]
theorem FS.fb (h : FB S n n') (hS : ∀ x, S x → 0 ≤ x ∧ x ≤ 631) (hB : BI A B n) : FS S n n' := fun b x y z => by
  have := h.bts hB ⟨x, y⟩ z hS
  exact ⟨this.1, this.2.1⟩
theorem FS.aw {s t : Int → Int} (hA : AdS n As) (ha : As a) (hB : BI A B n) : FS S n (aw n a (n 99 a 0) s t) := fun b x y _ => by
  refine ⟨by rw [aw_K (by decide)], aw_q (fun z => hA.nb hB ha (b := b) ⟨x, y⟩ z) ((hA a ha).2.1 b x y)⟩
theorem FS.nw7 {v : Int} (hB : BI A B n) (ht : n 92 0 a = 102) : FS S n (nw n 99 a 7 v) := fun b x y _ => by
  refine ⟨by rw [nw_nK (by decide)], nw_ni (fun z => ?_)⟩
  have := (hB.1 b x y).2.2.1
  rw [z, ht] at this; exact absurd this (by decide)
theorem FS.ks (h4 : n' 4 = n 4) (h99 : n' 99 = n 99) : FS S n n' := fun b _ _ _ => by rw [h4, h99]; exact ⟨rfl, rfl⟩
theorem lstA_b : ∀ c : Nat, (-1 ≤ lstA m X c ∧ lstA m X c < c) ∧ (0 ≤ lstA m X c → rowL m (6 + lstA m X c) = X) := by
  intro c
  induction c with
  | zero => exact ⟨⟨Int.le_refl _, by show (-1 : Int) < 0; decide⟩, fun h => by have h : (0 : Int) ≤ -1 := h; omega⟩
  | succ c ih =>
    show (-1 ≤ (if rowL m (6 + c) = X then (c : Int) else lstA m X c) ∧ (if rowL m (6 + c) = X then (c : Int) else lstA m X c) < ((c + 1 : Nat) : Int)) ∧ (0 ≤ (if rowL m (6 + c) = X then (c : Int) else lstA m X c) → rowL m (6 + (if rowL m (6 + c) = X then (c : Int) else lstA m X c)) = X)
    split
    · next y => exact ⟨by omega, fun _ => y⟩
    · exact ⟨by have := ih.1; omega, ih.2⟩
theorem c_ask2 (h : JNb κ As Bs n m) (hC : CA n 1586 nm ss q mk) (hW : WFA nm ss q mk) : ev (NL_Net_ask_2 0 n) (sp (fun r => 0 ≤ r ∧ r < m 26 0 ∧ rowL m (18 + κ r) = adL nm ss q ∧ m 25 0 < m 28 (κ r)) (fun _ => ∀ j, 0 ≤ j → j < m 26 0 → ¬ (rowL m (18 + κ j) = adL nm ss q ∧ m 25 0 < m 28 (κ j)))) := by
  obtain ⟨hA, hb, c3, c4, c5, c6, c7, c8, c9⟩ := h
  obtain ⟨⟨k1, k2, k3, k4⟩, k5, k6, k7⟩ := c5
  unfold NL_Net_ask_2
  refine ev_it (fun s => 0 ≤ s ∧ s ≤ m 26 0 ∧ ∀ j, 0 ≤ j → j < s → ¬ (rowL m (18 + κ j) = adL nm ss q ∧ m 25 0 < m 28 (κ j))) (fun s => m 26 0 - s) (fun s hs => ?_) ⟨Int.le_refl _, k2, fun j a b => by omega⟩
  obtain ⟨g1, g2, g3⟩ := hs
  show ev (nb_Net_ask_2 s n) _
  unfold nb_Net_ask_2
  rw [k1]
  refine ev_if (fun hlt => ?_) (fun hge => ev_inr (show ∀ j, _ from fun j a b => g3 j a (by omega)))
  obtain ⟨_, b2, b3, b4⟩ := k5 s g1 hlt
  obtain ⟨nm1, ss1, qq1, w1, d1, r1⟩ := b2.2.1.2.2
  have hAt := hA _ b2.2.1.1
  have next : ¬ (rowL m (18 + κ s) = adL nm ss q ∧ m 25 0 < m 28 (κ s)) → ev (ck (s + 1) (some (Sum.inl (s + 1)))) (lp (fun s => 0 ≤ s ∧ s ≤ m 26 0 ∧ ∀ j, 0 ≤ j → j < s → ¬ (rowL m (18 + κ j) = adL nm ss q ∧ m 25 0 < m 28 (κ j))) (fun s => m 26 0 - s) s (sp (fun r => 0 ≤ r ∧ r < m 26 0 ∧ rowL m (18 + κ r) = adL nm ss q ∧ m 25 0 < m 28 (κ r)) (fun _ : Unit => ∀ j, 0 ≤ j → j < m 26 0 → ¬ (rowL m (18 + κ j) = adL nm ss q ∧ m 25 0 < m 28 (κ j))))) := fun hne => by
    refine ev_ck (by omega) (ev_inl ⟨⟨by omega, by omega, fun j a b => ?_⟩, by omega, by omega⟩)
    by_cases z : j = s
    · rw [z]; exact hne
    · exact g3 j a (by omega)
  refine ev_ix (by omega) (ev_nn b2.1.1 (ev_ty b2.1.2.2 ?_))
  rw [b3, c8.1]
  refine ev_if (fun ht => ?_) (fun ht => next (fun z => ht z.2))
  refine ev_ix (by omega) (ev_nn b2.1.1 (ev_ty b2.1.2.2 (ev_nn hAt.1.1.1 (ev_ty hAt.1.2.1 (ev_bz (c_isAt hA b2.2.1.1 c3.2.2.2 d1 w1 hC hW) (fun hp => ?_) (fun hp => ?_))))))
  · rw [if_neg (by decide)]
    exact ev_inr ⟨g1, hlt, by rw [r1.rowL]; exact hp, ht⟩
  · rw [if_pos rfl]
    exact next (fun z => hp (by rw [← r1.rowL]; exact z.1))
theorem y_fetch28 (h : JNb κ As Bs n m) (hR : RA m 4 nm ss q mk) (hW : WFA nm ss q mk) (h44 : m 44 0 = -1) : ev (NL_Y_fetch_28 v2 0 m) (fun m' => FY [44] m m' ∧ ((m' 44 0 = -1 ∧ ∀ k, 0 ≤ k → k < m 26 0 → ¬ (rowL m (18 + k) = adL nm ss q ∧ m 25 0 < m 28 k)) ∨ ∃ k, 0 ≤ k ∧ k < m 26 0 ∧ (rowL m (18 + k) = adL nm ss q ∧ m 25 0 < m 28 k) ∧ m' 44 0 = 12 + k)) := by
  obtain ⟨hA, hb, c3, c4, c5, c6, c7, c8, c9⟩ := h
  obtain ⟨⟨k1, k2, k3, k4⟩, k5, k6, k7⟩ := c5
  unfold NL_Y_fetch_28
  refine ev_it (fun s : Int × YS => (0 ≤ s.1 ∧ s.1 ≤ m 26 0) ∧ FY [44] m s.2 ∧ ((s.2 44 0 = -1 ∧ ∀ k, 0 ≤ k → k < s.1 → ¬ (rowL m (18 + k) = adL nm ss q ∧ m 25 0 < m 28 k)) ∨ ∃ k, 0 ≤ k ∧ k < s.1 ∧ (rowL m (18 + k) = adL nm ss q ∧ m 25 0 < m 28 k) ∧ s.2 44 0 = 12 + k)) (fun s => m 26 0 - s.1) (fun s hs => ?_) ⟨⟨Int.le_refl _, k2⟩, fun _ _ => rfl, .inl ⟨h44, fun k x y => by have y : k < 0 := y; omega⟩⟩
  obtain ⟨c, m1⟩ := s
  obtain ⟨g1, g2, g3⟩ := hs
  simp only at g1 g2 g3
  show ev (nb_Y_fetch_28 v2 c m1) _
  unfold nb_Y_fetch_28
  rw [g2 26 (by decide)]
  refine ev_if (fun hlt => ?_) (fun hge => ev_inr ⟨g2, ?_⟩)
  · obtain ⟨j, j0, j1, je⟩ := k7 c g1.1 hlt
    obtain ⟨_, b2, b3, b4⟩ := k5 j j0 j1
    rw [je] at b2
    obtain ⟨nm1, ss1, qq1, w1, d1, r1⟩ := b2.2.1.2.2
    have fr : ∀ r, RwE m m1 r := fun r => RwE.of (g2 6 (by decide)) (g2 7 (by decide)) (g2 8 (by decide))
    have next : ¬ (rowL m (18 + c) = adL nm ss q ∧ m 25 0 < m 28 c) → ev (ck (c + 1) (some (Sum.inl (c + 1, m1)))) (lp (fun s : Int × YS => (0 ≤ s.1 ∧ s.1 ≤ m 26 0) ∧ FY [44] m s.2 ∧ ((s.2 44 0 = -1 ∧ ∀ k, 0 ≤ k → k < s.1 → ¬ (rowL m (18 + k) = adL nm ss q ∧ m 25 0 < m 28 k)) ∨ ∃ k, 0 ≤ k ∧ k < s.1 ∧ (rowL m (18 + k) = adL nm ss q ∧ m 25 0 < m 28 k) ∧ s.2 44 0 = 12 + k)) (fun s => m 26 0 - s.1) (c, m1) (fun m' => FY [44] m m' ∧ ((m' 44 0 = -1 ∧ ∀ k, 0 ≤ k → k < m 26 0 → ¬ (rowL m (18 + k) = adL nm ss q ∧ m 25 0 < m 28 k)) ∨ ∃ k, 0 ≤ k ∧ k < m 26 0 ∧ (rowL m (18 + k) = adL nm ss q ∧ m 25 0 < m 28 k) ∧ m' 44 0 = 12 + k))) := fun hne => by
      refine ev_ck (by omega) (ev_inl ⟨⟨by show 0 ≤ c + 1 ∧ c + 1 ≤ m 26 0; omega, g2, ?_⟩, by show m 26 0 - (c + 1) < m 26 0 - c; omega, by show 0 ≤ m 26 0 - c; omega⟩)
      rcases g3 with y | ⟨k, y0, y1, y2, y3⟩
      · refine .inl ⟨y.1, fun k x z => ?_⟩
        have z : k < c + 1 := z
        by_cases w : k = c
        · rw [w]; exact hne
        · exact y.2 k x (by omega)
      · exact .inr ⟨k, y0, by show k < c + 1; omega, y2, y3⟩
    refine ev_ck (by omega) (ev_bz (y_alike (r1.rw w1 (fr _)) w1 (hR.rw hW (fr 4)) hW (by omega) (by omega)) (fun hp => ?_) (fun hp => ?_))
    · rw [if_neg (by decide), g2 25 (by decide), g2 28 (by decide)]
      refine ev_ix (by omega) (ev_if (fun ht => ?_) (fun ht => next (fun z => ht z.2)))
      refine ev_ck (by omega) (ev_st (ev_ck (by omega) (ev_inl ⟨⟨by show 0 ≤ c + 1 ∧ c + 1 ≤ m 26 0; omega, fun g hg => ?_, .inr ⟨c, g1.1, by show c < c + 1; omega, ⟨by rw [r1.rowL]; exact hp, ht⟩, (yw_eq : yw m1 44 0 (12 + c) 44 0 = 12 + c)⟩⟩, by show m 26 0 - (c + 1) < m 26 0 - c; omega, by show 0 ≤ m 26 0 - c; omega⟩)))
      show yw m1 44 0 (12 + c) g = m g
      rw [yw_nF (by simp only [List.mem_cons, List.not_mem_nil, or_false] at hg; exact hg)]; exact g2 g hg
    · rw [if_pos rfl]
      exact next (fun z => hp (by rw [← r1.rowL]; exact z.1))
  · rcases g3 with y | ⟨k, y0, y1, y2, y3⟩
    · exact .inl ⟨y.1, fun k x z => y.2 k x (by omega)⟩
    · exact .inr ⟨k, y0, by omega, y2, y3⟩
theorem c_ask90 (hA : AdS n As) (hAn : JAns As Bs n m) (h86 : As 1586) (hC : CA n 1586 nm ss q mk) (hW : WFA nm ss q mk) : NL_Net_ask_90 1570 0 n = some (if lstA m (adL nm ss q) (m 16 0).toNat < 0 then 1570 else n 23 0 (lstA m (adL nm ss q) (m 16 0).toNat)) := by
  apply eq_of_ev
  obtain ⟨⟨k1, k2, k3⟩, k5⟩ := hAn
  unfold NL_Net_ask_90
  refine ev_it (fun s : Int × Int => (0 ≤ s.2 ∧ s.2 ≤ m 16 0) ∧ s.1 = (if lstA m (adL nm ss q) s.2.toNat < 0 then 1570 else n 23 0 (lstA m (adL nm ss q) s.2.toNat))) (fun s => m 16 0 - s.2) (fun s hs => ?_) ⟨⟨Int.le_refl _, k2⟩, rfl⟩
  obtain ⟨v, c⟩ := s
  obtain ⟨g1, g2⟩ := hs
  simp only at g1 g2
  show ev (nb_Net_ask_90 v c n) _
  unfold nb_Net_ask_90
  rw [k1]
  refine ev_if (fun hlt => ?_) (fun hge => ev_inr (by rw [g2, show c = m 16 0 by omega]))
  obtain ⟨b2, _⟩ := k5 c g1.1 hlt
  obtain ⟨nm1, ss1, qq1, w1, d1, r1⟩ := b2.2.1.2.2
  have hAt := hA _ b2.2.1.1
  have eS : lstA m (adL nm ss q) (c + 1).toNat = if rowL m (6 + c) = adL nm ss q then c else lstA m (adL nm ss q) c.toNat := by
    rw [show (c + 1).toNat = c.toNat + 1 by omega]
    show (if rowL m (6 + (c.toNat : Int)) = adL nm ss q then (c.toNat : Int) else lstA m (adL nm ss q) c.toNat) = _
    rw [show ((c.toNat : Nat) : Int) = c by omega]
  refine ev_ix (by omega) (ev_nn b2.1.1 (ev_ty b2.1.2.2 (ev_nn hAt.1.1.1 (ev_ty hAt.1.2.1 (ev_bz (c_isAt hA b2.2.1.1 h86 d1 w1 hC hW) (fun hp => ?_) (fun hp => ?_))))))
  · rw [if_neg (by decide)]
    refine ev_ix (by omega) (ev_nn b2.1.1 (ev_ck (by omega) (ev_inl ⟨⟨by show 0 ≤ c + 1 ∧ c + 1 ≤ m 16 0; omega, ?_⟩, by show m 16 0 - (c + 1) < m 16 0 - c; omega, by show 0 ≤ m 16 0 - c; omega⟩)))
    show n 23 0 c = if lstA m (adL nm ss q) (c + 1).toNat < 0 then 1570 else n 23 0 (lstA m (adL nm ss q) (c + 1).toNat)
    rw [if_pos (show rowL m (6 + c) = adL nm ss q by rw [r1.rowL]; exact hp)] at eS
    rw [eS, if_neg (by omega)]
  · rw [if_pos rfl]
    refine ev_ck (by omega) (ev_inl ⟨⟨by show 0 ≤ c + 1 ∧ c + 1 ≤ m 16 0; omega, ?_⟩, by show m 16 0 - (c + 1) < m 16 0 - c; omega, by show 0 ≤ m 16 0 - c; omega⟩)
    show v = if lstA m (adL nm ss q) (c + 1).toNat < 0 then 1570 else n 23 0 (lstA m (adL nm ss q) (c + 1).toNat)
    rw [if_neg (show ¬ rowL m (6 + c) = adL nm ss q by rw [r1.rowL]; exact hp)] at eS
    rw [eS]; exact g2
theorem y_req22 (hAn : JAns As Bs n m) (hR : RA m 4 nm ss q mk) (hW : WFA nm ss q mk) (h44 : m 44 0 = -1) : ev (NL_Y_request_22 0 m) (fun m' => FY [44] m m' ∧ m' 44 0 = lstA m (adL nm ss q) (m 16 0).toNat) := by
  obtain ⟨⟨k1, k2, k3⟩, k5⟩ := hAn
  unfold NL_Y_request_22
  refine ev_it (fun s : Int × YS => (0 ≤ s.1 ∧ s.1 ≤ m 16 0) ∧ FY [44] m s.2 ∧ s.2 44 0 = lstA m (adL nm ss q) s.1.toNat) (fun s => m 16 0 - s.1) (fun s hs => ?_) ⟨⟨Int.le_refl _, k2⟩, fun _ _ => rfl, h44⟩
  obtain ⟨c, m1⟩ := s
  obtain ⟨g1, g2, g3⟩ := hs
  simp only at g1 g2 g3
  show ev (nb_Y_request_22 c m1) _
  unfold nb_Y_request_22
  rw [g2 16 (by decide)]
  refine ev_if (fun hlt => ?_) (fun hge => ev_inr ⟨g2, by rw [g3, show c = m 16 0 by omega]⟩)
  obtain ⟨b2, _⟩ := k5 c g1.1 hlt
  obtain ⟨nm1, ss1, qq1, w1, d1, r1⟩ := b2.2.1.2.2
  have fr : ∀ r, RwE m m1 r := fun r => RwE.of (g2 6 (by decide)) (g2 7 (by decide)) (g2 8 (by decide))
  have eS : lstA m (adL nm ss q) (c + 1).toNat = if rowL m (6 + c) = adL nm ss q then c else lstA m (adL nm ss q) c.toNat := by
    rw [show (c + 1).toNat = c.toNat + 1 by omega]
    show (if rowL m (6 + (c.toNat : Int)) = adL nm ss q then (c.toNat : Int) else lstA m (adL nm ss q) c.toNat) = _
    rw [show ((c.toNat : Nat) : Int) = c by omega]
  refine ev_ck (by omega) (ev_bz (y_alike (r1.rw w1 (fr _)) w1 (hR.rw hW (fr 4)) hW (by omega) (by omega)) (fun hp => ?_) (fun hp => ?_))
  · rw [if_neg (by decide)]
    refine ev_st (ev_ck (by omega) (ev_inl ⟨⟨by show 0 ≤ c + 1 ∧ c + 1 ≤ m 16 0; omega, fun g hg => ?_, ?_⟩, by show m 16 0 - (c + 1) < m 16 0 - c; omega, by show 0 ≤ m 16 0 - c; omega⟩))
    · show yw m1 44 0 c g = m g
      rw [yw_nF (by simp only [List.mem_cons, List.not_mem_nil, or_false] at hg; exact hg)]; exact g2 g hg
    · show yw m1 44 0 c 44 0 = lstA m (adL nm ss q) (c + 1).toNat
      rw [yw_eq, eS, if_pos (by rw [r1.rowL]; exact hp)]
  · rw [if_pos rfl]
    refine ev_ck (by omega) (ev_inl ⟨⟨by show 0 ≤ c + 1 ∧ c + 1 ≤ m 16 0; omega, g2, ?_⟩, by show m 16 0 - (c + 1) < m 16 0 - c; omega, by show 0 ≤ m 16 0 - c; omega⟩)
    show m1 44 0 = lstA m (adL nm ss q) (c + 1).toNat
    rw [eS, if_neg (by rw [r1.rowL]; exact hp)]; exact g3
end J9
