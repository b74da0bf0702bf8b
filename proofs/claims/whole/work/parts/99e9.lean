/-! THE REFERENCE'S ROWS AND PARTS OF PATHS -/
/-- bytes are put at the end of a row -/
def RPt (m m' : YS) (r : Int) (l : List Int) : Prop := FY [6, 7] m m' ∧ m' 7 r = m 7 r + (l.length : Int) ∧ (∀ q, q ≠ r → m' 7 q = m 7 q) ∧ sg (m' 6) (150 * r + m 7 r) l.length = l ∧ (∀ j, ¬ (150 * r + m 7 r ≤ j ∧ j < 150 * r + m 7 r + (l.length : Int)) → m' 6 j = m 6 j)
section E9a
variable {m m' m'' : YS} {r c k0 k1 : Int} {l l' : List Int}
theorem RPt.nil : RPt m m r [] := ⟨FY.refl _ _, by show m 7 r = m 7 r + ((0 : Nat) : Int); omega, fun _ _ => rfl, rfl, fun _ _ => rfl⟩
theorem RPt.trans (h : RPt m m' r l) (h' : RPt m' m'' r l') : RPt m m'' r (l ++ l') := by
  obtain ⟨a1, a2, a3, a4, a5⟩ := h
  obtain ⟨b1, b2, b3, b4, b5⟩ := h'
  refine ⟨a1.trans b1, by rw [b2, a2, List.length_append]; omega, fun q hq => (b3 q hq).trans (a3 q hq), ?_, fun j hj => ?_⟩
  · rw [List.length_append, sg_app]
    congr 1
    · refine Eq.trans (sg_cg _ _ (150 * r + m 7 r) (fun x hx => b5 _ ?_)) a4
      rw [a2]; omega
    · rw [a2] at b4
      rw [show 150 * r + m 7 r + (l.length : Int) = 150 * r + (m 7 r + (l.length : Int)) by omega]; exact b4
  · rw [List.length_append] at hj
    rw [b5 j (by rw [a2]; omega), a5 j (by omega)]
theorem y_put (hr : 0 ≤ r ∧ r < 66) (hs : 0 ≤ m 7 r ∧ m 7 r < 150) (hc : -128 ≤ c ∧ c ≤ 127) : ev (N_Y_put r c m) (fun m' => RPt m m' r [c]) := by
  unfold N_Y_put
  refine ev_ck (by omega) (ev_ix (by omega) (ev_ck (by omega) (ev_ix (by omega) (ev_st (ev_ix (by omega) ?_)))))
  rw [show yw m 6 (r * 150 + m 7 r) (Int.bmod c 256) 7 r = m 7 r from by rw [yw_nF (by decide)]]
  refine ev_ck (by omega) (ev_ix (by omega) (ev_st (ev_ok ⟨fun f hf => ?_, ?_, fun q hq => ?_, ?_, fun j hj => ?_⟩)))
  · simp only [List.mem_cons, List.not_mem_nil, or_false, not_or] at hf
    rw [yw_nF hf.2, yw_nF hf.1]
  · rw [yw_eq]; rfl
  · rw [yw_ni hq, yw_nF (by decide)]
  · show [yw (yw m 6 (r * 150 + m 7 r) (Int.bmod c 256)) 7 r (m 7 r + 1) 6 (150 * r + m 7 r)] = [c]
    rw [yw_nF (by decide), show 150 * r + m 7 r = r * 150 + m 7 r by omega, yw_eq, bmod_id hc]
  · rw [yw_nF (by decide), yw_ni (fun z => hj ⟨by omega, by show j < 150 * r + m 7 r + ((1 : Nat) : Int); omega⟩)]
/-- a loop that puts -/
theorem y_putLoop {F : Int × YS → Option ((Int × YS) ⊕ YS)} {src : Int → Int} (h : k0 ≤ k1) (hb : ∀ k m1, k0 ≤ k → k < k1 → RPt m m1 r (sg src k0 (k - k0).toNat) → ev (F (k, m1)) (fun o => ∃ m2, o = .inl (k + 1, m2) ∧ RPt m1 m2 r [src k])) (he : ∀ m1, RPt m m1 r (sg src k0 (k1 - k0).toNat) → F (k1, m1) = some (.inr m1)) : ev (it F (k0, m)) (fun m' => RPt m m' r (sg src k0 (k1 - k0).toNat)) := by
  refine ev_it (fun s : Int × YS => k0 ≤ s.1 ∧ s.1 ≤ k1 ∧ RPt m s.2 r (sg src k0 (s.1 - k0).toNat)) (fun s => k1 - s.1) (fun s hs => ?_) ⟨Int.le_refl _, h, by show RPt m m r (sg src k0 (k0 - k0).toNat); rw [show (k0 - k0).toNat = 0 by omega]; exact RPt.nil⟩
  obtain ⟨k, m1⟩ := s
  obtain ⟨g1, g2, g3⟩ := hs
  simp only at g1 g2 g3
  by_cases hz : k < k1
  · obtain ⟨o, ho, m2, h1, h2⟩ := hb k m1 g1 hz g3
    subst h1
    refine ⟨_, ho, ⟨by show k0 ≤ k + 1; omega, by show k + 1 ≤ k1; omega, ?_⟩, by show k1 - (k + 1) < k1 - k; omega, by show 0 ≤ k1 - k; omega⟩
    show RPt m m2 r (sg src k0 (k + 1 - k0).toNat)
    rw [show (k + 1 - k0).toNat = (k - k0).toNat + 1 by omega, sg_app, show k0 + (((k - k0).toNat : Nat) : Int) = k by omega]
    exact g3.trans h2
  · have : k = k1 := by omega
    subst this
    exact ⟨_, he m1 g3, g3⟩
end E9a
/-- the parts of a path, as the reference holds them -/
def STK (m : YS) (st : List (List Int)) : Prop := m 12 0 = (st.length : Int) ∧ (∀ j : Nat, j < st.length → m 10 j = ((st.take j).flatten.length : Int) ∧ m 11 j = ((st.getD j []).length : Int)) ∧ sg (m 9) 0 st.flatten.length = st.flatten
section E9
variable {m m' : YS} {f : Nat} {i L : Int} {st : List (List Int)}
theorem STK.cg (h : STK m st) (h9 : m' 9 = m 9) (h10 : m' 10 = m 10) (h11 : m' 11 = m 11) (h12 : m' 12 = m 12) : STK m' st := by
  unfold STK at *; rw [h9, h10, h11, h12]; exact h
theorem flat_snoc (x : List Int) : (st ++ [x]).flatten = st.flatten ++ x := by
  rw [List.flatten_append]
  show st.flatten ++ (x ++ []) = _
  rw [List.append_nil]
theorem STK.pop (h : STK m st) (hne : st ≠ []) : STK (yw m 12 0 (m 12 0 - 1)) st.dropLast := by
  obtain ⟨h1, h2, h3⟩ := h
  have es : st = st.dropLast ++ [st.getLast hne] := (List.dropLast_concat_getLast hne).symm
  generalize st.dropLast = D at *
  generalize st.getLast hne = E at *
  subst es
  rw [List.length_append] at h1
  have h1 : m 12 0 = ((D.length + 1 : Nat) : Int) := h1
  refine ⟨by rw [yw_eq]; omega, fun j hj => ?_, ?_⟩
  · have := h2 j (by rw [List.length_append]; omega)
    rw [yw_nF (by decide), yw_nF (by decide)]
    rw [List.take_append_of_le_length (by omega)] at this
    rw [show (D ++ [E]).getD j [] = D.getD j [] by simp [List.getD, List.getElem?_append_left hj]] at this
    exact this
  · rw [yw_nF (by decide)]
    rw [flat_snoc] at h3
    exact sg_pre h3
theorem y_seg124 (hf : f ≠ 9 ∧ f ≠ 10 ∧ f ≠ 11 ∧ f ≠ 12) (h : STK m st) (hi : 0 ≤ i) (hL : 0 ≤ L ∧ L ≤ 2000) (hl : i + L ≤ yLn f) (hib : i ≤ 100000) (hb1 : st.length < 2099) (hb2 : st.flatten.length + L ≤ 2200) : ev (nk_Y_segment_124 f i L (st.flatten.length : Int) (m 12 0) m) (fun m' => FY [9, 10, 11, 12] m m' ∧ STK m' (st ++ [sg (m f) i L.toNat])) := by
  obtain ⟨h1, h2, h3⟩ := h
  unfold nk_Y_segment_124
  refine ev_ix (by omega) (ev_st ?_)
  rw [show yw m 10 (m 12 0) (st.flatten.length : Int) 12 0 = m 12 0 from by rw [yw_nF (by decide)]]
  refine ev_ix (by omega) (ev_st ?_)
  generalize hm8 : yw (yw m 10 (m 12 0) (st.flatten.length : Int)) 11 (m 12 0) L = m8
  have f12 : m8 12 = m 12 := by rw [← hm8, yw_nF (by decide), yw_nF (by decide)]
  have f9 : m8 9 = m 9 := by rw [← hm8, yw_nF (by decide), yw_nF (by decide)]
  have ff : m8 f = m f := by rw [← hm8, yw_nF (fun z => hf.2.2.1 z), yw_nF (fun z => hf.2.1 z)]
  have f10 : ∀ j, m8 10 j = if j = m 12 0 then (st.flatten.length : Int) else m 10 j := fun j => by
    rw [← hm8, yw_nF (by decide), yw_app]
    by_cases z : j = m 12 0
    · rw [if_pos ⟨rfl, z⟩, if_pos z]
    · rw [if_neg (fun y => z y.2), if_neg z]
  have f11 : ∀ j, m8 11 j = if j = m 12 0 then L else m 11 j := fun j => by
    rw [← hm8, yw_app]
    by_cases z : j = m 12 0
    · rw [if_pos ⟨rfl, z⟩, if_pos z]
    · rw [if_neg (fun y => z y.2), if_neg z, yw_nF (by decide)]
  have fo : FY [10, 11] m m8 := fun g hg => by
    simp only [List.mem_cons, List.not_mem_nil, or_false, not_or] at hg
    rw [← hm8, yw_nF hg.2, yw_nF hg.1]
  refine ev_bind (P := fun m9 => FY [9] m8 m9 ∧ (∀ j, j < (st.flatten.length : Int) → m9 9 j = m 9 j) ∧ ∀ x : Nat, (x : Int) < L → m9 9 ((st.flatten.length : Int) + x) = m f (i + x)) ?_ (fun m9 hm9 => ?_)
  · unfold NL_Y_segment_138
    refine ev_it (fun s : Int × YS => 0 ≤ s.1 ∧ s.1 ≤ L ∧ FY [9] m8 s.2 ∧ (∀ j, j < (st.flatten.length : Int) → s.2 9 j = m 9 j) ∧ ∀ x : Nat, (x : Int) < s.1 → s.2 9 ((st.flatten.length : Int) + x) = m f (i + x)) (fun s => L - s.1) (fun s hs => ?_) ⟨Int.le_refl _, hL.1, FY.refl _ _, fun j _ => by show m8 9 j = _; rw [f9], fun x hx => by have hx : (x : Int) < 0 := hx; omega⟩
    obtain ⟨k, m1⟩ := s
    obtain ⟨g1, g2, g3, g4, g5⟩ := hs
    simp only at g1 g2 g3 g4 g5
    show ev (nb_Y_segment_138 f i L k m1) _
    unfold nb_Y_segment_138
    have w12 : m1 12 0 = (st.length : Int) := by rw [g3 12 (by decide), f12]; exact h1
    have w10 : m1 10 (st.length : Int) = (st.flatten.length : Int) := by rw [g3 10 (by decide), f10, if_pos (by omega)]
    have wf : m1 f = m f := by rw [g3 f (by simp [hf.1]), ff]
    refine ev_if (fun hlt => ?_) (fun hge => ev_inr ⟨g3, g4, fun x hx => g5 x (by omega)⟩)
    rw [w12]
    refine ev_ix (by omega) ?_
    rw [w10, wf]
    refine ev_ck (by omega) (ev_ck (by omega) (ev_ix (by omega) (ev_ix (by omega) (ev_st (ev_ck (by omega) (ev_inl ⟨⟨by show 0 ≤ k + 1; omega, by show k + 1 ≤ L; omega, fun g hg => ?_, fun j hj => ?_, fun x hx => ?_⟩, by show L - (k + 1) < L - k; omega, by show 0 ≤ L - k; omega⟩))))))
    · show yw m1 9 _ _ g = m8 g
      rw [yw_nF (fun z => hg (by simp [z]))]; exact g3 g hg
    · show yw m1 9 _ _ 9 j = _
      rw [yw_ni (by omega)]; exact g4 j hj
    · show yw m1 9 _ _ 9 _ = _
      have hx : (x : Int) < k + 1 := hx
      by_cases e : (x : Int) = k
      · rw [e, yw_eq]
      · rw [yw_ni (by omega)]; exact g5 x (by omega)
  · obtain ⟨k1, k2, k3⟩ := hm9
    have w12 : m9 12 0 = (st.length : Int) := by rw [k1 12 (by decide), f12]; exact h1
    rw [w12]
    refine ev_ck (by omega) (ev_st (ev_ok ⟨fun g hg => ?_, ?_, fun j hj => ?_, ?_⟩))
    · simp only [List.mem_cons, List.not_mem_nil, or_false, not_or] at hg
      rw [yw_nF hg.2.2.2, k1 g (by simp [hg.1]), fo g (by simp only [List.mem_cons, List.not_mem_nil, or_false, not_or]; exact ⟨hg.2.1, hg.2.2.1⟩)]
    · rw [yw_eq, List.length_append]; rfl
    · rw [List.length_append] at hj
      have hj : j < st.length + 1 := hj
      rw [yw_nF (by decide), yw_nF (by decide), k1 10 (by decide), k1 11 (by decide), f10, f11]
      by_cases e : j = st.length
      · subst e
        rw [if_pos (by omega), if_pos (by omega), List.take_append_of_le_length (Nat.le_refl _), List.take_length]
        refine ⟨rfl, ?_⟩
        rw [show (st ++ [sg (m f) i L.toNat]).getD st.length [] = sg (m f) i L.toNat by simp [List.getD], sg_len]; omega
      · have := h2 j (by omega)
        rw [if_neg (by omega), if_neg (by omega), List.take_append_of_le_length (by omega)]
        rw [show (st ++ [sg (m f) i L.toNat]).getD j [] = st.getD j [] by simp [List.getD, List.getElem?_append_left (show j < st.length by omega)]]
        exact this
    · rw [yw_nF (by decide), flat_snoc]
      refine sg_ext (t := m 9) rfl h3 (fun j _ hj => k2 j hj) ?_
      rw [sg_len]
      exact sg_cg _ _ _ (fun x hx => k3 x (by omega))
def segN (m m' : YS) (s : List Int) (st : List (List Int)) : Prop := FY [9, 10, 11, 12, 14] m m' ∧ STK m' (psh st s) ∧ m' 14 0 = if wnt s then 1 else 0
theorem y_segment (hf : f ≠ 9 ∧ f ≠ 10 ∧ f ≠ 11 ∧ f ≠ 12 ∧ f ≠ 14) (h : STK m st) (hi : 0 ≤ i) (hL : 0 ≤ L ∧ L ≤ 2000) (hl : i + L ≤ yLn f) (hib : i ≤ 100000) (hb1 : st.length < 2099) (hb2 : st.flatten.length + L ≤ 2200) : ev (N_Y_segment f i L m) (fun m' => segN m m' (sg (m f) i L.toNat) st) := by
  generalize hx : sg (m f) i L.toNat = x
  have w1 : x = [46] ↔ L = 1 ∧ m f i = 46 := by rw [← hx, sg_1]; constructor <;> intro z <;> exact ⟨by omega, z.2⟩
  have w2 : x = [46, 46] ↔ L = 2 ∧ m f i = 46 ∧ m f (i + 1) = 46 := by rw [← hx, sg_2]; constructor <;> intro z <;> exact ⟨by omega, z.2⟩
  have hN := h.1
  by_cases hH : x = [46]
  · obtain ⟨z1, z2⟩ := w1.mp hH
    unfold N_Y_segment
    rw [if_pos z1]
    refine ev_ix (by omega) ?_
    rw [if_pos z2]
    unfold nk_Y_segment_37 nk_Y_segment_42
    refine ev_cz (by omega) (ev_st ?_)
    rw [if_neg (by omega)]
    unfold nk_Y_segment_74
    rw [yw_eq, if_neg (by decide)]
    refine ev_ok ⟨fun g hg => yw_nF (fun z => hg (by simp [z])), ?_, ?_⟩
    · rw [psh_1 hH]; exact h.cg (yw_nF (by decide)) (yw_nF (by decide)) (yw_nF (by decide)) (yw_nF (by decide))
    · rw [yw_eq, if_pos (.inl hH)]
  · by_cases hU : x = [46, 46]
    · obtain ⟨z1, z2, z3⟩ := w2.mp hU
      unfold N_Y_segment
      rw [if_neg (by omega)]
      unfold nk_Y_segment_14
      rw [if_pos z1]
      refine ev_ix (by omega) ?_
      rw [if_pos z2]
      refine ev_ck (by omega) (ev_ix (by omega) ?_)
      rw [if_pos z3]
      unfold nk_Y_segment_37 nk_Y_segment_42
      refine ev_cz (by omega) (ev_st ?_)
      have h' : STK (yw m 14 0 1) st := h.cg (yw_nF (by decide)) (yw_nF (by decide)) (yw_nF (by decide)) (yw_nF (by decide))
      rw [if_pos z1, show yw m 14 0 1 14 0 = 1 from yw_eq, if_neg (by decide), show yw m 14 0 1 12 0 = m 12 0 from by rw [yw_nF (by decide)]]
      refine ev_if (fun hp => ev_ck (by omega) (ev_st ?_)) (fun hp => ?_)
      · unfold nk_Y_segment_74
        rw [yw_nF (show (14 : Nat) ≠ 12 by decide), yw_eq, if_neg (by decide)]
        refine ev_ok ⟨fun g hg => ?_, ?_, ?_⟩
        · simp only [List.mem_cons, List.not_mem_nil, or_false, not_or] at hg
          rw [yw_nF hg.2.2.2.1, yw_nF hg.2.2.2.2]
        · rw [psh_2 hH hU]
          have := h'.pop (fun z => by rw [z] at hN; have hN : m 12 0 = ((0 : Nat) : Int) := hN; omega)
          rw [show yw m 14 0 1 12 0 = m 12 0 from by rw [yw_nF (by decide)]] at this
          exact this
        · rw [yw_nF (by decide), yw_eq, if_pos (.inr hU)]
      · unfold nk_Y_segment_74
        rw [yw_eq, if_neg (by decide)]
        refine ev_ok ⟨fun g hg => yw_nF (fun z => hg (by simp [z])), ?_, ?_⟩
        · have : st = [] := List.length_eq_zero_iff.mp (by omega)
          rw [psh_2 hH hU, this]; rw [this] at h'; exact h'
        · rw [yw_eq, if_pos (.inr hU)]
    · have hw : ¬ wnt x := fun z => by
        rcases z with z | z
        · exact hH z
        · exact hU z
      have core : ev (nk_Y_segment_41 f i L m) (fun m' => segN m m' x st) := by
        unfold nk_Y_segment_41 nk_Y_segment_42
        refine ev_cz (by omega) (ev_st ?_)
        have h' : STK (yw m 14 0 0) st := h.cg (yw_nF (by decide)) (yw_nF (by decide)) (yw_nF (by decide)) (yw_nF (by decide))
        have c74 : ev (nk_Y_segment_74 f i L (yw m 14 0 0)) (fun m' => segN m m' x st) := by
          unfold nk_Y_segment_74
          rw [show yw m 14 0 0 14 0 = 0 from yw_eq, if_pos rfl]
          have e12 : yw m 14 0 0 12 = m 12 := yw_nF (by decide)
          have e10 : yw m 14 0 0 10 = m 10 := yw_nF (by decide)
          have e11 : yw m 14 0 0 11 = m 11 := yw_nF (by decide)
          have ef : yw m 14 0 0 f = m f := yw_nF hf.2.2.2.2
          have go : ev (nk_Y_segment_124 f i L (st.flatten.length : Int) (yw m 14 0 0 12 0) (yw m 14 0 0)) (fun m' => segN m m' x st) := by
            refine ev_mono (y_seg124 ⟨hf.1, hf.2.1, hf.2.2.1, hf.2.2.2.1⟩ h' hi hL hl hib hb1 hb2) (fun m' hm' => ?_)
            rw [ef, hx] at hm'
            refine ⟨fun g hg => ?_, by rw [psh_3 hH hU]; exact hm'.2, ?_⟩
            · simp only [List.mem_cons, List.not_mem_nil, or_false, not_or] at hg
              rw [hm'.1 g (by simp only [List.mem_cons, List.not_mem_nil, or_false, not_or]; exact ⟨hg.1, hg.2.1, hg.2.2.1, hg.2.2.2.1⟩), yw_nF hg.2.2.2.2]
            · rw [hm'.1 14 (by decide), yw_eq, if_neg hw]
          rw [e10, e11]
          refine ev_if (fun hz => ?_) (fun hz => ?_)
          · rw [e12] at hz
            have : st = [] := List.length_eq_zero_iff.mp (by omega)
            rw [this] at go ⊢
            exact go
          · rw [e12] at hz go ⊢
            rw [hN] at hz go ⊢
            have hlt : st.length - 1 < st.length := by omega
            have q := h.2.1 (st.length - 1) hlt
            have hne : st ≠ [] := fun z => by rw [z] at hz; exact hz rfl
            have es : st = st.dropLast ++ [st.getLast hne] := (List.dropLast_concat_getLast hne).symm
            have e1 : (((st.length - 1 : Nat) : Nat) : Int) = (st.length : Int) - 1 := by omega
            rw [e1] at q
            have e2 : m 10 ((st.length : Int) - 1) + m 11 ((st.length : Int) - 1) = (st.flatten.length : Int) := by
              rw [q.1, q.2]
              have e3 : st.take (st.length - 1) = st.dropLast := by rw [List.dropLast_eq_take]
              have e4 : st.getD (st.length - 1) [] = st.getLast hne := by
                rw [List.getLast_eq_getElem]
                simp [List.getD, hlt]
              rw [e3, e4]
              have e5 : st.flatten = st.dropLast.flatten ++ st.getLast hne := by
                have := flat_snoc (st := st.dropLast) (st.getLast hne)
                rw [← es] at this; exact this
              rw [e5, List.length_append]; omega
            refine ev_ck (by omega) (ev_ix (by omega) (ev_ck (by omega) (ev_ix (by omega) ?_)))
            rw [e2]
            exact ev_ck (by omega) go
        rw [show yw m 14 0 0 14 0 = 0 from yw_eq]
        exact ev_if (fun _ => by rw [if_pos rfl]; exact c74) (fun _ => c74)
      have c14 : ev (nk_Y_segment_14 f i L m) (fun m' => segN m m' x st) := by
        unfold nk_Y_segment_14
        refine ev_if (fun z1 => ev_ix (by omega) (ev_if (fun z2 => ev_ck (by omega) (ev_ix (by omega) (ev_if (fun z3 => absurd (w2.mpr ⟨z1, z2, z3⟩) hU) (fun _ => core)))) (fun _ => core))) (fun _ => core)
      unfold N_Y_segment
      exact ev_if (fun z1 => ev_ix (by omega) (ev_if (fun z2 => absurd (w1.mpr ⟨z1, z2⟩) hH) (fun _ => c14))) (fun _ => c14)
end E9
