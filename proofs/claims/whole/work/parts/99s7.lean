/-! SELECTORS: which ELEMENT they match, in both -/
/-- the NAME of a mark -/
def mkN (m : YS) (c : Int) : List Int := sg (m 96) (8 * c) (m 95 c).toNat
/-- a mark holds of an ELEMENT -/
def mkM (m : YS) (v c : Int) : Prop :=
  if m 94 c = 35 then fnd m v wId < m 56 v ∧ avL m v (fnd m v wId) = mkN m c
  else fnd m v wClass < m 56 v ∧ hwF (fun j => m 59 (60 * (4 * v + fnd m v wClass) + j)) (mkN m c) (m 60 (4 * v + fnd m v wClass)) ((m 60 (4 * v + fnd m v wClass)).toNat + 1) 0
/-- a PART matches an ELEMENT -/
def ptM (m : YS) (v p : Int) : Prop := (0 < m 91 p → sg (m 92) (8 * p) (m 91 p).toNat = nmL m v) ∧ ∀ j, 0 ≤ j → j < m 93 p → mkM m v (4 * p + j)
/-- the class's words for id and class -/
def SHc (n : NS) : Prop := n 9 0 11 = pk wId ∧ n 9 0 12 = pk wClass
section S7
variable {n n' : NS} {m m' : YS} {g h : Int → Int} {A B v a b d L c i k p s N : Int} {o e q : Int → Int} {w : List Int}
theorem fnd_bb (h : 0 ≤ m 56 v) : 0 ≤ fnd m v w ∧ fnd m v w ≤ m 56 v := ⟨scx_ge (p := fun a => anL m v a ≠ w) 0 (m 56 v), scx_le (p := fun a => anL m v a ≠ w) h⟩
/-- one mark, in the class -/
theorem c_mk1 (hB : BI A B n) (hd : ND n m v) (hv : 0 ≤ v ∧ v < 120) (hH : SHc n) (hp : 0 ≤ p ∧ p < 123) (h36 : n 36 0 p = m 93 p ∧ 0 ≤ m 93 p ∧ m 93 p ≤ 4) (hc : 4 * p ≤ c ∧ c < 4 * p + m 93 p) (hM : MK1 n m c) : (mkM m v c → nb_Sheet_isPartMatch_31 p v c n = some (.inl (c + 1))) ∧ (¬ mkM m v c → nb_Sheet_isPartMatch_31 p v c n = some (.inr (.inl ())) ∨ nb_Sheet_isPartMatch_31 p v c n = some (.inr (.inr (.inl ()))) ∨ nb_Sheet_isPartMatch_31 p v c n = some (.inr (.inr (.inr (.inl ()))))) := by
  obtain ⟨hk, w, w1, w2, w3, w4⟩ := hM
  have hN : mkN m c = w := by unfold mkN; rw [w2, show ((w.length : Int)).toNat = w.length by omega]; exact w3
  have h56 := hd.2.2.1.2
  have e0 : nb_Sheet_isPartMatch_31 p v c n = if n 38 0 c = 0 then nk_Sheet_isPartMatch_66 p v c (pk wClass) v n else nk_Sheet_isPartMatch_66 p v c (pk wId) v n := by
    unfold nb_Sheet_isPartMatch_31
    rw [ck_e _ (by omega), ix_e _ hp, h36.1, ck_e _ (by omega), if_pos (by omega), ix_e _ (by omega), hH.1, hH.2]
  unfold mkM
  rw [e0, hN]
  rcases hk with ⟨k1, k2⟩ | ⟨k1, k2⟩
  · have hf := fnd_bb (m := m) (v := v) (w := wId) h56.1
    rw [if_pos k2, if_neg (show ¬ n 38 0 c = 0 by omega)]
    unfold nk_Sheet_isPartMatch_66
    rw [c_find hd (w := wId) (by decide)]
    simp only [Option.bind_some]
    by_cases z : fnd m v wId < m 56 v
    · obtain ⟨x, x1, x2⟩ := packed_val hB hd hv (a := fnd m v wId) hf.1 z w1.bt ⟨w1.1, w1.2.1⟩
      rw [if_pos z, if_neg (by omega), ix_e _ (by omega), if_neg (by omega), x1]
      simp only [Option.bind_some]
      rw [ix_e _ (by omega), w4, ck_e _ (by omega)]
      refine ⟨fun y => by rw [if_pos (x2.mpr y.2)], fun y => .inr (.inl (by rw [if_neg (fun u => y ⟨z, x2.mp u⟩)]))⟩
    · rw [if_neg z, if_pos (by decide)]
      exact ⟨fun y => absurd y.1 z, fun _ => .inl rfl⟩
  · have hf := fnd_bb (m := m) (v := v) (w := wClass) h56.1
    rw [if_neg (show ¬ m 94 c = 35 by omega), if_pos k1]
    unfold nk_Sheet_isPartMatch_66
    rw [c_find hd (w := wClass) (by decide)]
    simp only [Option.bind_some]
    by_cases z : fnd m v wClass < m 56 v
    · obtain ⟨x1, x2, x3⟩ := av_tx hB hd hv ⟨hf.1, z⟩
      have h60 := (hd.2.2.2.1 _ hf.1 z).2.2.2.1
      have hb := hB.1 (5 * v + 1 + fnd m v wClass) (by omega) (by omega)
      rw [if_pos z, if_neg (by omega), ix_e _ (by omega), if_pos k1, ix_e _ (by omega), w4, c_hasWord x1 x2 hb.2.1.1 ⟨h60.1, by omega⟩ x3 w1]
      simp only [Option.bind_some]
      rw [ck_e _ (by omega)]
      by_cases u : hwF (fun j => m 59 (60 * (4 * v + fnd m v wClass) + j)) w (m 60 (4 * v + fnd m v wClass)) ((m 60 (4 * v + fnd m v wClass)).toNat + 1) 0
      · rw [@if_pos _ (Classical.propDecidable _) u, if_neg (by decide)]
        exact ⟨fun _ => rfl, fun y => absurd ⟨z, u⟩ y⟩
      · rw [@if_neg _ (Classical.propDecidable _) u, if_pos rfl]
        exact ⟨fun y => absurd y.2 u, fun _ => .inr (.inr rfl)⟩
    · rw [if_neg z, if_pos (by decide)]
      exact ⟨fun y => absurd y.1 z, fun _ => .inl rfl⟩
/-- one mark, in the reference -/
theorem y_mk1 (hd : ND n m v) (hv : 0 ≤ v ∧ v < 120) (hp : 0 ≤ p ∧ p < 123) (h93 : 0 ≤ m 93 p ∧ m 93 p ≤ 4) (hc : 4 * p ≤ c ∧ c < 4 * p + m 93 p) (hM : MK1 n m c) : (mkM m v c → nb_Y_matchesPart_51 v p c m = some (.inl (c + 1))) ∧ (¬ mkM m v c → nb_Y_matchesPart_51 v p c m = some (.inr (.inl ())) ∨ nb_Y_matchesPart_51 v p c m = some (.inr (.inr (.inl ()))) ∨ nb_Y_matchesPart_51 v p c m = some (.inr (.inr (.inr (.inl ()))))) := by
  obtain ⟨hk, w, w1, w2, w3, w4⟩ := hM
  have hN : mkN m c = w := by unfold mkN; rw [w2, show ((w.length : Int)).toNat = w.length by omega]; exact w3
  have h56 := hd.2.2.1.2
  have h8 := w1.2.1
  have h1 := w1.1
  have e0 : nb_Y_matchesPart_51 v p c m = if m 94 c = 35 then nk_Y_matchesPart_89 v p c 137 v m else nk_Y_matchesPart_89 v p c 20546947 v m := by
    unfold nb_Y_matchesPart_51
    rw [ck_e _ (by omega), ix_e _ hp, ck_e _ (by omega), if_pos (by omega), ix_e _ (by omega)]
  unfold mkM
  rw [e0, hN]
  rcases hk with ⟨k1, k2⟩ | ⟨k1, k2⟩
  · have hf := fnd_bb (m := m) (v := v) (w := wId) h56.1
    have ef := y_find (W := 137) hd hv (by decide)
    rw [show wl 137 = wId by decide] at ef
    rw [if_pos k2, if_pos k2]
    unfold nk_Y_matchesPart_89
    rw [ef]
    simp only [Option.bind_some]
    by_cases z : fnd m v wId < m 56 v
    · have h60 := (hd.2.2.2.1 _ hf.1 z).2.2.2.1
      rw [if_pos z, if_neg (by omega), ix_e _ (by omega), if_pos k2, ix_e _ (by omega), ix_e _ (by omega), w2]
      unfold avL
      by_cases y : m 60 (4 * v + fnd m v wId) = (w.length : Int)
      · have hs := ys_same (f := 59) (f2 := 96) (m := m) (i := 60 * (4 * v + fnd m v wId)) (j := 8 * c) (k := (w.length : Int)) (by omega) (by omega) (by show _ ≤ (28800 : Int); omega) (by show _ ≤ (3936 : Int); omega) (by omega) ⟨by omega, by omega⟩
        rw [show ((w.length : Int)).toNat = w.length by omega, w3] at hs
        rw [if_pos y, ck_e _ (by omega), ck_e _ (by omega), ix_e _ (by omega), ck_e (a := c + 1) _ (by omega), y, show ((w.length : Int)).toNat = w.length by omega]
        by_cases u : sg (m 59) (60 * (4 * v + fnd m v wId)) w.length = w
        · rw [bz_t hs u]
          simp only [Option.bind_some]
          rw [if_neg (by decide)]
          exact ⟨fun _ => rfl, fun x => absurd ⟨z, u⟩ x⟩
        · rw [bz_f hs u]
          simp only [Option.bind_some]
          rw [if_pos trivial]
          exact ⟨fun x => absurd x.2 u, fun _ => .inr (.inl rfl)⟩
      · rw [if_neg y]
        refine ⟨fun x => ?_, fun _ => .inr (.inl rfl)⟩
        have := congrArg List.length x.2
        rw [sg_len] at this
        omega
    · rw [if_neg z, if_pos rfl]
      exact ⟨fun y => absurd y.1 z, fun _ => .inl rfl⟩
  · have hf := fnd_bb (m := m) (v := v) (w := wClass) h56.1
    have ef := y_find (W := 20546947) hd hv (by decide)
    rw [show wl 20546947 = wClass by decide] at ef
    rw [if_neg (by omega), if_neg (by omega)]
    unfold nk_Y_matchesPart_89
    rw [ef]
    simp only [Option.bind_some]
    by_cases z : fnd m v wClass < m 56 v
    · have h60 := (hd.2.2.2.1 _ hf.1 z).2.2.2.1
      rw [if_pos z, if_neg (by omega), ix_e _ (by omega), if_neg (by omega), y_hasClass (L := m 60 (4 * v + fnd m v wClass)) (w := w) (by omega) ⟨rfl, h60⟩ (by omega) ⟨w1, w2, w3⟩]
      simp only [Option.bind_some]
      rw [ck_e _ (by omega)]
      by_cases u : hwF (fun j => m 59 (60 * (4 * v + fnd m v wClass) + j)) w (m 60 (4 * v + fnd m v wClass)) ((m 60 (4 * v + fnd m v wClass)).toNat + 1) 0
      · rw [@if_pos _ (Classical.propDecidable _) u, if_neg (by decide)]
        exact ⟨fun _ => rfl, fun y => absurd ⟨z, u⟩ y⟩
      · rw [@if_neg _ (Classical.propDecidable _) u, if_pos rfl]
        exact ⟨fun y => absurd y.2 u, fun _ => .inr (.inr rfl)⟩
    · rw [if_neg z, if_pos rfl]
      exact ⟨fun y => absurd y.1 z, fun _ => .inl rfl⟩
/-- a PART, in the class -/
theorem c_pt (hB : BI A B n) (hd : ND n m v) (hv : 0 ≤ v ∧ v < 120) (hH : SHc n) (hp : 0 ≤ p ∧ p < 123) (hP : PRT n m p) : ev (N_Sheet_isPartMatch p v n) (bz (ptM m v p)) := by
  obtain ⟨⟨w, w1, w2, w3, w4, w5⟩, u1, u2, u3⟩ := hP
  have hwb : ∀ c ∈ w, isBt c := fun c hc => by have := w2 c hc; unfold isNm at this; unfold isBt; omega
  have hnm := hd.2.1
  have marks : ev (nk_Sheet_isPartMatch_27 p v n) (bz (∀ j, 0 ≤ j → j < m 93 p → mkM m v (4 * p + j))) := by
    unfold nk_Sheet_isPartMatch_27
    rw [ck_e _ (by omega), show p * 4 = 4 * p by omega]
    have hl : ev (NL_Sheet_isPartMatch_31 p v (4 * p) n) (fun r => (r = .inr (.inr (.inr ())) ∧ ∀ j, 0 ≤ j → j < m 93 p → mkM m v (4 * p + j)) ∨ ((r = .inl () ∨ r = .inr (.inl ()) ∨ r = .inr (.inr (.inl ()))) ∧ ¬ ∀ j, 0 ≤ j → j < m 93 p → mkM m v (4 * p + j))) := by
      unfold NL_Sheet_isPartMatch_31
      refine ev_it (fun t : Int => (4 * p ≤ t ∧ t ≤ 4 * p + m 93 p) ∧ ∀ j, 0 ≤ j → 4 * p + j < t → mkM m v (4 * p + j)) (fun t => 4 * p + m 93 p - t) (fun t ht => ?_) ⟨by omega, fun j x y => by omega⟩
      obtain ⟨t1, t2⟩ := ht
      show ev (nb_Sheet_isPartMatch_31 p v t n) _
      by_cases hlt : t < 4 * p + m 93 p
      · have hM := u3 (t - 4 * p) (by omega) (by omega)
        rw [show 4 * p + (t - 4 * p) = t by omega] at hM
        obtain ⟨c1, c2⟩ := c_mk1 hB hd hv hH hp ⟨u1, u2⟩ ⟨t1.1, hlt⟩ hM
        by_cases y : mkM m v t
        · rw [c1 y]
          refine ev_inl ⟨⟨by omega, fun j x z => ?_⟩, by omega, by omega⟩
          by_cases e : 4 * p + j = t
          · rw [e]; exact y
          · exact t2 j x (by omega)
        · have no : ¬ ∀ j, 0 ≤ j → j < m 93 p → mkM m v (4 * p + j) := fun z => y (by
            have := z (t - 4 * p) (by omega) (by omega)
            rw [show 4 * p + (t - 4 * p) = t by omega] at this; exact this)
          rcases c2 y with z | z | z
          · rw [z]; exact ev_inr (.inr ⟨.inl rfl, no⟩)
          · rw [z]; exact ev_inr (.inr ⟨.inr (.inl rfl), no⟩)
          · rw [z]; exact ev_inr (.inr ⟨.inr (.inr rfl), no⟩)
      · unfold nb_Sheet_isPartMatch_31
        rw [ck_e _ (by omega), ix_e _ hp, u1, ck_e _ (by omega), if_neg (by omega)]
        exact ev_inr (.inl ⟨rfl, fun j x y => t2 j x (by omega)⟩)
    refine ev_bind hl (fun r hr => ?_)
    rcases hr with ⟨r1, r2⟩ | ⟨r1 | r1 | r1, r2⟩
    · rw [r1]; exact ev_ok (.inl ⟨rfl, r2⟩)
    · rw [r1]; exact ev_ok (.inr ⟨rfl, r2⟩)
    · rw [r1]; exact ev_ok (.inr ⟨rfl, r2⟩)
    · rw [r1]; exact ev_ok (.inr ⟨rfl, r2⟩)
  unfold N_Sheet_isPartMatch
  rw [ix_e _ hp, w5, hnm.2.2.2]
  by_cases z : w = []
  · rw [if_pos (by rw [z]; rfl)]
    refine bz_iff marks ⟨fun y => ⟨fun x => ?_, y⟩, fun y => y.2⟩
    rcases w3 with u | u
    · rw [z] at u; rw [u] at x; exact absurd x (by decide)
    · rw [u.2] at x; exact absurd x (by decide)
  · have hlen : 0 < (w.length : Int) := by have := List.length_pos_iff.mpr z; omega
    have e91 : m 91 p = (w.length : Int) := by
      rcases w3 with u | u
      · exact u
      · exact absurd u.1 z
    rw [if_neg (fun y => z ((pkq_0 hwb).mp y)), ix_e _ hp]
    unfold ptM
    rw [e91, show ((w.length : Int)).toNat = w.length by omega, w4]
    by_cases y : w = nmL m v
    · rw [if_pos (by rw [y])]
      exact bz_iff marks ⟨fun x => ⟨fun _ => y, x⟩, fun x => x.2⟩
    · rw [if_neg (fun u => y (pkq_inj hwb hnm.2.2.1 u))]
      exact ev_ok (.inr ⟨rfl, fun x => y (x.1 hlen)⟩)
/-- a PART, in the reference -/
theorem y_pt (hd : ND n m v) (hv : 0 ≤ v ∧ v < 120) (hp : 0 ≤ p ∧ p < 123) (hP : PRT n m p) : ev (N_Y_matchesPart v p m) (bz (ptM m v p)) := by
  obtain ⟨⟨w, w1, w2, w3, w4, w5⟩, u1, u2, u3⟩ := hP
  have hnm := hd.2.1
  have marks : ev (nk_Y_matchesPart_46 v p m) (bz (∀ j, 0 ≤ j → j < m 93 p → mkM m v (4 * p + j))) := by
    unfold nk_Y_matchesPart_46
    rw [ck_e _ (by omega)]
    have hl : ev (NL_Y_matchesPart_51 v p (4 * p) m) (fun r => (r = .inr (.inr (.inr ())) ∧ ∀ j, 0 ≤ j → j < m 93 p → mkM m v (4 * p + j)) ∨ ((r = .inl () ∨ r = .inr (.inl ()) ∨ r = .inr (.inr (.inl ()))) ∧ ¬ ∀ j, 0 ≤ j → j < m 93 p → mkM m v (4 * p + j))) := by
      unfold NL_Y_matchesPart_51
      refine ev_it (fun t : Int => (4 * p ≤ t ∧ t ≤ 4 * p + m 93 p) ∧ ∀ j, 0 ≤ j → 4 * p + j < t → mkM m v (4 * p + j)) (fun t => 4 * p + m 93 p - t) (fun t ht => ?_) ⟨by omega, fun j x y => by omega⟩
      obtain ⟨t1, t2⟩ := ht
      show ev (nb_Y_matchesPart_51 v p t m) _
      by_cases hlt : t < 4 * p + m 93 p
      · have hM := u3 (t - 4 * p) (by omega) (by omega)
        rw [show 4 * p + (t - 4 * p) = t by omega] at hM
        obtain ⟨c1, c2⟩ := y_mk1 hd hv hp u2 ⟨t1.1, hlt⟩ hM
        by_cases y : mkM m v t
        · rw [c1 y]
          refine ev_inl ⟨⟨by omega, fun j x z => ?_⟩, by omega, by omega⟩
          by_cases e : 4 * p + j = t
          · rw [e]; exact y
          · exact t2 j x (by omega)
        · have no : ¬ ∀ j, 0 ≤ j → j < m 93 p → mkM m v (4 * p + j) := fun z => y (by
            have := z (t - 4 * p) (by omega) (by omega)
            rw [show 4 * p + (t - 4 * p) = t by omega] at this; exact this)
          rcases c2 y with z | z | z
          · rw [z]; exact ev_inr (.inr ⟨.inl rfl, no⟩)
          · rw [z]; exact ev_inr (.inr ⟨.inr (.inl rfl), no⟩)
          · rw [z]; exact ev_inr (.inr ⟨.inr (.inr rfl), no⟩)
      · unfold nb_Y_matchesPart_51
        rw [ck_e _ (by omega), ix_e _ hp, ck_e _ (by omega), if_neg (by omega)]
        exact ev_inr (.inl ⟨rfl, fun j x y => t2 j x (by omega)⟩)
    refine ev_bind hl (fun r hr => ?_)
    rcases hr with ⟨r1, r2⟩ | ⟨r1 | r1 | r1, r2⟩
    · rw [r1]; exact ev_ok (.inl ⟨rfl, r2⟩)
    · rw [r1]; exact ev_ok (.inr ⟨rfl, r2⟩)
    · rw [r1]; exact ev_ok (.inr ⟨rfl, r2⟩)
    · rw [r1]; exact ev_ok (.inr ⟨rfl, r2⟩)
  unfold N_Y_matchesPart
  rw [ix_e _ hp]
  by_cases z : 0 < m 91 p
  · have e91 : m 91 p = (w.length : Int) := by
      rcases w3 with u | u
      · exact u
      · omega
    have h48 := hnm.1
    rw [if_pos z, ix_e _ hv]
    unfold ptM
    rw [e91, show ((w.length : Int)).toNat = w.length by omega, w4]
    by_cases y : m 48 v = (w.length : Int)
    · have hs := ys_same (f := 47) (f2 := 92) (m := m) (i := 8 * v) (j := 8 * p) (k := (w.length : Int)) (by omega) (by omega) (by show _ ≤ (960 : Int); omega) (by show _ ≤ (984 : Int); omega) (by omega) ⟨by omega, by omega⟩
      rw [show ((w.length : Int)).toNat = w.length by omega, w4] at hs
      have en : nmL m v = sg (m 47) (8 * v) w.length := by unfold nmL; rw [y, show ((w.length : Int)).toNat = w.length by omega]
      rw [if_pos y, ck_e _ (by omega), ck_e _ (by omega), en]
      by_cases u : sg (m 47) (8 * v) w.length = w
      · rw [bz_t hs u]
        simp only [Option.bind_some]
        rw [if_neg (by decide)]
        exact bz_iff marks ⟨fun x => ⟨fun _ => u.symm, x⟩, fun x => x.2⟩
      · rw [bz_f hs u]
        simp only [Option.bind_some]
        rw [if_pos trivial]
        exact ev_ok (.inr ⟨rfl, fun x => u (x.1 (by omega)).symm⟩)
    · rw [if_neg y]
      refine ev_ok (.inr ⟨rfl, fun x => y ?_⟩)
      have := congrArg List.length (x.1 (by omega))
      unfold nmL at this
      rw [sg_len] at this
      omega
  · rw [if_neg z]
    exact bz_iff marks ⟨fun y => ⟨fun x => absurd x z, y⟩, fun y => y.2⟩
/-- a SELECTOR matches an ELEMENT, or not: alike in both -/
theorem match_both (hB : BI A B n) (hT : JT n m N o e q) (hH : SHc n) (hs : 0 ≤ s ∧ s < 41) (hS : SL n m s) (hk : 0 ≤ k ∧ k < N) : ∃ r, N_Sheet_isMatch s (o k) n = some r ∧ N_Y_matches (o k) s m = some r := by
  obtain ⟨s1, s2, s3, s4, s5⟩ := hS
  have hG := hT.1.1
  have nd : ∀ j, 0 ≤ j → j < N → (0 ≤ o j ∧ o j < 120) ∧ ND n m (o j) := fun j x y => ⟨hG.oB x y, hT.2.2.2 j x y⟩
  have par : ∀ j, 0 ≤ j → j < N → n 7 (o j) 2 = m 49 (o j) := fun j x y => (hT.1.2.2.2.2.1 j x y).1.1
  have parp : ∀ j, 1 ≤ j → j < N → m 49 (o j) = o (q j) ∧ 0 ≤ q j ∧ q j < j := fun j x y => ⟨hG.2.2.2.2.2.2.2.1 j x y, (hG.2.2.2.2.2.1 j x y).1, (hG.2.2.2.2.2.1 j x y).2.1⟩
  have par0 : m 49 (o 0) = -1 := hG.1.2.2.2.2.1
  -- the way up
  have up : ∀ (z : Nat) (u c : Int), ((u = -1) ∨ ∃ j, 0 ≤ j ∧ j < N ∧ (j : Int).toNat < z ∧ u = o j) → (-1 ≤ c ∧ c < m 90 s) → ∃ c', -1 ≤ c' ∧ c' ≤ c ∧ NL_Sheet_isMatch_49 s (3 * s + c) u n = some (3 * s + c') ∧ NL_Y_matches_35 s c u m = some c' := by
    intro z
    induction z with
    | zero =>
      intro u c hu hc
      rcases hu with hu | ⟨j, _, _, hj, _⟩
      · refine ⟨c, hc.1, Int.le_refl _, ?_, ?_⟩
        · unfold NL_Sheet_isMatch_49
          refine it_inr ?_
          show nb_Sheet_isMatch_49 s (3 * s + c) u n = _
          unfold nb_Sheet_isMatch_49
          rw [if_pos hu]
        · unfold NL_Y_matches_35
          refine it_inr ?_
          show nb_Y_matches_35 s c u m = _
          unfold nb_Y_matches_35
          by_cases y : c < 0
          · rw [if_pos y]
          · rw [if_neg y, if_pos hu]
      · omega
    | succ z ih =>
      intro u c hu hc
      by_cases hend : u = -1 ∨ c < 0
      · refine ⟨c, hc.1, Int.le_refl _, ?_, ?_⟩
        · unfold NL_Sheet_isMatch_49
          refine it_inr ?_
          show nb_Sheet_isMatch_49 s (3 * s + c) u n = _
          unfold nb_Sheet_isMatch_49
          by_cases y : u = -1
          · rw [if_pos y]
          · rw [if_neg y, ck_e _ (by omega), if_pos (by omega)]
        · unfold NL_Y_matches_35
          refine it_inr ?_
          show nb_Y_matches_35 s c u m = _
          unfold nb_Y_matches_35
          by_cases y : c < 0
          · rw [if_pos y]
          · rw [if_neg y, if_pos (by omega)]
      · have hu1 : u ≠ -1 := fun y => hend (.inl y)
        have hc1 : 0 ≤ c := by omega
        rcases hu with hu | ⟨j, j0, j1, jz, hu⟩
        · exact absurd hu hu1
        · obtain ⟨v1, v2⟩ := nd j j0 j1
          have hP := s5 c hc1 hc.2
          have hpb : 0 ≤ 3 * s + c ∧ 3 * s + c < 123 := by omega
          have ec := c_pt hB v2 v1 hH hpb hP
          have ey := y_pt v2 v1 hpb hP
          rw [← hu] at ec ey v1
          have hpar : n 7 u 2 = m 49 u := by rw [hu]; exact par j j0 j1
          have hnx : (m 49 u = -1) ∨ ∃ j, 0 ≤ j ∧ j < N ∧ (j : Int).toNat < z ∧ m 49 u = o j := by
            by_cases y : j = 0
            · rw [hu, y]; exact .inl par0
            · have := parp j (by omega) j1
              refine .inr ⟨q j, this.2.1, by omega, by omega, by rw [hu]; exact this.1⟩
          have step : ∀ c2, (c2 = c ∨ c2 = c - 1) → nb_Sheet_isMatch_49 s (3 * s + c) u n = some (.inl (3 * s + c2, n 7 u 2)) → nb_Y_matches_35 s c u m = some (.inl (c2, m 49 u)) → ∃ c', -1 ≤ c' ∧ c' ≤ c ∧ NL_Sheet_isMatch_49 s (3 * s + c) u n = some (3 * s + c') ∧ NL_Y_matches_35 s c u m = some c' := fun c2 h2 b1 b2 => by
            obtain ⟨c', r1, r2, r3, r4⟩ := ih (m 49 u) c2 hnx (by omega)
            refine ⟨c', r1, by omega, ?_, ?_⟩
            · rw [← r3, ← hpar]
              unfold NL_Sheet_isMatch_49
              exact it_inl (f := fun t : Int × Int => nb_Sheet_isMatch_49 s t.1 t.2 n) (s := (3 * s + c, u)) b1
            · rw [← r4]
              unfold NL_Y_matches_35
              exact it_inl (f := fun t : Int × Int => nb_Y_matches_35 s t.1 t.2 m) (s := (c, u)) b2
          by_cases hm : ptM m u (3 * s + c)
          · refine step (c - 1) (.inr rfl) ?_ ?_
            · unfold nb_Sheet_isMatch_49 nk_Sheet_isMatch_83
              rw [if_neg hu1, ck_e _ (by omega), if_neg (by omega), ix_e _ v1, bz_t ec hm]
              simp only [Option.bind_some]
              rw [if_neg (by decide), ck_e _ (by omega), ix_e _ v1, show 3 * s + c + -1 = 3 * s + (c - 1) by omega]
            · unfold nb_Y_matches_35 nk_Y_matches_62
              rw [if_neg (by omega), if_neg hu1, ck_e _ (by omega), ck_e _ (by omega), bz_t ey hm]
              simp only [Option.bind_some]
              rw [if_neg (by decide), ck_e _ (by omega), ix_e _ v1, show c + -1 = c - 1 by omega]
          · refine step c (.inl rfl) ?_ ?_
            · unfold nb_Sheet_isMatch_49 nk_Sheet_isMatch_83
              rw [if_neg hu1, ck_e _ (by omega), if_neg (by omega), ix_e _ v1, bz_f ec hm]
              simp only [Option.bind_some]
              rw [if_pos trivial, ix_e _ v1]
            · unfold nb_Y_matches_35 nk_Y_matches_62
              rw [if_neg (by omega), if_neg hu1, ck_e _ (by omega), ck_e _ (by omega), bz_f ey hm]
              simp only [Option.bind_some]
              rw [if_pos trivial, ix_e _ v1]
  obtain ⟨v1, v2⟩ := nd k hk.1 hk.2
  have hP := s5 (m 90 s - 1) (by omega) (by omega)
  have hpb : 0 ≤ 3 * s + (m 90 s - 1) ∧ 3 * s + (m 90 s - 1) < 123 := by omega
  have ec := c_pt hB v2 v1 hH hpb hP
  have ey := y_pt v2 v1 hpb hP
  unfold N_Sheet_isMatch N_Y_matches
  rw [s1, ck_e _ (by omega), ix_e _ hs, ck_e _ (by omega), ck_e _ (by omega), ix_e _ v1, show s * 3 + m 90 s - 1 = 3 * s + (m 90 s - 1) by omega]
  rw [ix_e _ hs, ck_e _ (by omega), ck_e _ (by omega), ck_e _ (by omega)]
  by_cases hm : ptM m (o k) (3 * s + (m 90 s - 1))
  · rw [bz_t ec hm, bz_t ey hm]
    simp only [Option.bind_some]
    rw [if_neg (by decide), if_neg (by decide), ck_e _ (by omega), ix_e _ v1]
    have hnx : (m 49 (o k) = -1) ∨ ∃ j, 0 ≤ j ∧ j < N ∧ (j : Int).toNat < 200 ∧ m 49 (o k) = o j := by
      by_cases y : k = 0
      · rw [y]; exact .inl par0
      · have := parp k (by omega) hk.2
        have hN := hG.1.2.1
        exact .inr ⟨q k, this.2.1, by omega, by omega, this.1⟩
    obtain ⟨c', r1, r2, r3, r4⟩ := up 200 (m 49 (o k)) (m 90 s - 2) hnx ⟨by omega, by omega⟩
    rw [show 3 * s + (m 90 s - 1) + -1 = 3 * s + (m 90 s - 2) by omega, par k hk.1 hk.2, r3, ck_e _ (by omega), ix_e _ v1, show m 90 s - 1 + -1 = m 90 s - 2 by omega, r4]
    simp only [Option.bind_some]
    unfold nk_Sheet_isMatch_101 nk_Y_matches_74
    rw [ck_e _ (by omega)]
    by_cases y : c' < 0
    · rw [if_pos (by omega), if_pos y]; exact ⟨1, rfl, rfl⟩
    · rw [if_neg (by omega), if_neg y]; exact ⟨0, rfl, rfl⟩
  · rw [bz_f ec hm, bz_f ey hm]
    simp only [Option.bind_some]
    rw [if_pos trivial, if_pos trivial]
    exact ⟨0, rfl, by rw [ck_e _ (by omega)]⟩
end S7
