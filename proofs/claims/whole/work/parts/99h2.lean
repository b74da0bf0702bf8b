/-! NAMES and values within tags, in both -/
def smL (g : Int → Int) (i k : Int) : List Int := sg (fun j => toSm (g j)) i (min (k - i) 8).toNat
/-- a value: what comes out of a text, cut -/
def vlL (g : Int → Int) (i k : Int) : List Int := ((dcl 0 g i k).map Prod.snd).take 60
abbrev tnC (g : Int → Int) (j : Int) : Prop := isLt (g j) ∨ isDg (g j)
abbrev anC (g : Int → Int) (j : Int) : Prop := g j ≠ 61 ∧ g j ≠ 47 ∧ g j ≠ 62 ∧ ¬ isBl (g j)
abbrev pvC (g : Int → Int) (j : Int) : Prop := g j ≠ 62 ∧ ¬ isBl (g j)
section H2
variable {n : NS} {m : YS} {g : Int → Int} {L i to v1 v2 v3 v4 v5 : Int}
theorem y_toSm (h : isTx (m 75 i)) : N_Y_small (m 75 i) m = some (toSm (m 75 i)) ∧ Int.bmod (toSm (m 75 i)) 256 = toSm (m 75 i) := by
  refine ⟨ys_toSm ⟨by omega, by omega⟩, bmod_id ?_⟩
  have := toSm_bt (c := m 75 i) (by omega)
  omega
theorem y_tagName (hb : 0 ≤ m 76 0 ∧ m 76 0 ≤ 2000) (hg : ∀ j, 0 ≤ j → j < m 76 0 → isTx (m 75 j)) (h79 : m 79 0 = 0) (hi : 0 ≤ i ∧ i ≤ m 76 0) : ev (NL_Y_readTag_38 v1 v2 i m) (fun x => x.1 = sc (tnC (m 75)) i (m 76 0) ∧ FY [78, 79] m x.2 ∧ x.2 79 0 = min (x.1 - i) 8 ∧ sg (x.2 78) 0 (x.2 79 0).toNat = smL (m 75) i x.1) := by
  unfold NL_Y_readTag_38
  refine ev_it (fun s : Int × YS => i ≤ s.1 ∧ s.1 ≤ m 76 0 ∧ (∀ j, i ≤ j → j < s.1 → tnC (m 75) j) ∧ FY [78, 79] m s.2 ∧ s.2 79 0 = min (s.1 - i) 8 ∧ ∀ x, 0 ≤ x → x < min (s.1 - i) 8 → s.2 78 x = toSm (m 75 (i + x))) (fun s => m 76 0 - s.1) (fun s hs => ?_) ⟨Int.le_refl _, hi.2, fun j a b => by have b : j < i := b; omega, fun _ _ => rfl, by show m 79 0 = min (i - i) 8; omega, fun x a b => by have b : x < min (i - i) 8 := b; omega⟩
  obtain ⟨k, m1⟩ := s
  obtain ⟨q1, q2, q3, q4, q5, q6⟩ := hs
  simp only at q1 q2 q3 q4 q5 q6
  show ev (nb_Y_readTag_38 v1 v2 k m1) _
  have fin : (k < m 76 0 → ¬ tnC (m 75) k) → k = sc (tnC (m 75)) i (m 76 0) ∧ FY [78, 79] m m1 ∧ m1 79 0 = min (k - i) 8 ∧ sg (m1 78) 0 (m1 79 0).toNat = smL (m 75) i k := fun z => by
    refine ⟨scx_eq ⟨q1, .inl q2, q3, z⟩, q4, q5, ?_⟩
    unfold smL
    rw [q5]
    refine sg_cg _ _ _ (fun x hx => ?_)
    rw [Int.zero_add]; exact q6 x (by omega) (by omega)
  have go : k < m 76 0 → tnC (m 75) k → ev (nk_Y_readTag_70 v1 v2 k m1) (lp (fun s : Int × YS => i ≤ s.1 ∧ s.1 ≤ m 76 0 ∧ (∀ j, i ≤ j → j < s.1 → tnC (m 75) j) ∧ FY [78, 79] m s.2 ∧ s.2 79 0 = min (s.1 - i) 8 ∧ ∀ x, 0 ≤ x → x < min (s.1 - i) 8 → s.2 78 x = toSm (m 75 (i + x))) (fun s => m 76 0 - s.1) (k, m1) (fun x => x.1 = sc (tnC (m 75)) i (m 76 0) ∧ FY [78, 79] m x.2 ∧ x.2 79 0 = min (x.1 - i) 8 ∧ sg (x.2 78) 0 (x.2 79 0).toNat = smL (m 75) i x.1)) := fun hk hP => by
    have hT : ∀ j, i ≤ j → j < k + 1 → tnC (m 75) j := fun j a b => by
      by_cases z : j = k
      · rw [z]; exact hP
      · exact q3 j a (by omega)
    have e75 : m1 75 = m 75 := q4 75 (by decide)
    have hs := y_toSm (m := m1) (i := k) (by rw [e75]; exact hg k (by omega) hk)
    unfold nk_Y_readTag_70
    refine ev_if (fun h8 => ?_) (fun h8 => ?_)
    · refine ev_ix (by omega) ?_
      rw [hs.1]
      show ev (ix (m1 79 0) 8 _) _
      rw [hs.2]
      refine ev_ix (by omega) (ev_st ?_)
      rw [show yw m1 78 (m1 79 0) (toSm (m1 75 k)) 79 0 = m1 79 0 by rw [yw_nF (by decide)]]
      refine ev_ck (by omega) (ev_st (ev_ck (by omega) (ev_inl ⟨⟨by show i ≤ k + 1; omega, by show k + 1 ≤ m 76 0; omega, hT, fun f hf => ?_, ?_, fun x a b => ?_⟩, by show m 76 0 - (k + 1) < m 76 0 - k; omega, by show 0 ≤ m 76 0 - k; omega⟩)))
      · simp only [List.mem_cons, List.not_mem_nil, or_false, not_or] at hf
        show yw _ 79 0 _ f = _
        rw [yw_nF hf.2, yw_nF hf.1]; exact q4 f (by simp only [List.mem_cons, List.not_mem_nil, or_false, not_or]; exact hf)
      · show yw (yw m1 78 (m1 79 0) (toSm (m1 75 k))) 79 0 (m1 79 0 + 1) 79 0 = min (k + 1 - i) 8
        rw [yw_eq]; omega
      · have b : x < min (k + 1 - i) 8 := b
        show yw (yw m1 78 (m1 79 0) (toSm (m1 75 k))) 79 0 (m1 79 0 + 1) 78 x = _
        rw [yw_nF (by decide)]
        by_cases z : x = m1 79 0
        · rw [z, yw_eq, e75, show k = i + m1 79 0 by omega]
        · rw [yw_ni z]; exact q6 x a (by omega)
    · refine ev_ck (by omega) (ev_inl ⟨⟨by show i ≤ k + 1; omega, by show k + 1 ≤ m 76 0; omega, hT, q4, by show m1 79 0 = min (k + 1 - i) 8; omega, fun x a b => q6 x a (by have b : x < min (k + 1 - i) 8 := b; omega)⟩, by show m 76 0 - (k + 1) < m 76 0 - k; omega, by show 0 ≤ m 76 0 - k; omega⟩)
  have e75 : m1 75 = m 75 := q4 75 (by decide)
  have e76 : m1 76 = m 76 := q4 76 (by decide)
  unfold nb_Y_readTag_38
  rw [e75, e76]
  refine ev_if (fun hk => ev_ix (by omega) (ev_bz ys_letter (fun hp => ?_) (fun hp => ?_))) (fun hk => ev_inr (fin (fun z => absurd z hk)))
  · rw [if_neg (by decide)]; exact go hk (.inl hp)
  · rw [if_pos rfl]
    refine ev_ix (by omega) (ev_bz ys_digit (fun hq => ?_) (fun hq => ?_))
    · rw [if_neg (by decide)]; exact go hk (.inr hq)
    · rw [if_pos rfl]
      exact ev_inr (fin (fun _ z => by
        rcases z with z | z
        · exact hp z
        · exact hq z))
theorem c_tagScan (h : RDR n g L) (hi : 0 ≤ i ∧ i ≤ L) : NL_Reader_readTag_57 v1 v2 v3 v4 i n = some (sc (tnC g) i L) := by
  obtain ⟨h1, h2, h3, h4, h5⟩ := h
  unfold NL_Reader_readTag_57
  refine ev_scan (fun x x1 x2 => ?_)
  unfold nb_Reader_readTag_57
  rw [h2]
  refine ev_if (fun hl => ev_nn h3 (ev_tx h1 ⟨by omega, hl⟩ (fun e => ?_))) (fun hl => ev_ok (.inr ⟨rfl, fun z => hl z.1⟩))
  rw [e]
  refine ev_bz cs_letter (fun hp => ?_) (fun hp => ?_)
  · rw [if_neg (by decide)]; exact ev_ck (by omega) (ev_ok (.inl ⟨rfl, hl, .inl hp⟩))
  · rw [if_pos rfl]
    refine ev_nn h3 (ev_tx h1 ⟨by omega, hl⟩ (fun _ => ?_))
    refine ev_bz cs_digit (fun hq => ?_) (fun hq => ?_)
    · rw [if_neg (by decide)]; exact ev_ck (by omega) (ev_ok (.inl ⟨rfl, hl, .inr hq⟩))
    · rw [if_pos rfl]
      exact ev_ok (.inr ⟨rfl, fun z => by
        rcases z.2 with z | z
        · exact hp z
        · exact hq z⟩)
theorem c_attrScan (h : RDR n g L) (hi : 0 ≤ i ∧ i ≤ L) : NL_Reader_readAttribute_4 v1 v2 i n = some (sc (anC g) i L) := by
  obtain ⟨h1, h2, h3, h4, h5⟩ := h
  unfold NL_Reader_readAttribute_4
  refine ev_scan (fun x x1 x2 => ?_)
  unfold nb_Reader_readAttribute_4
  rw [h2]
  refine ev_if (fun hl => ev_nn h3 (ev_tx h1 ⟨by omega, hl⟩ (fun e => ?_))) (fun hl => ev_ok (.inr ⟨rfl, fun z => hl z.1⟩))
  rw [e]
  refine ev_if (fun w => ev_ok (.inr ⟨rfl, fun z => z.2.1 w⟩)) (fun w1 => ev_nn h3 (ev_tx h1 ⟨by omega, hl⟩ (fun _ => ?_)))
  refine ev_if (fun w => ev_ok (.inr ⟨rfl, fun z => z.2.2.1 w⟩)) (fun w2 => ev_nn h3 (ev_tx h1 ⟨by omega, hl⟩ (fun _ => ?_)))
  refine ev_if (fun w => ev_ok (.inr ⟨rfl, fun z => z.2.2.2.1 w⟩)) (fun w3 => ev_nn h3 (ev_tx h1 ⟨by omega, hl⟩ (fun _ => ?_)))
  refine ev_bz cs_blank (fun hp => ?_) (fun hp => ?_)
  · rw [if_neg (by decide)]; exact ev_ok (.inr ⟨rfl, fun z => z.2.2.2.2 hp⟩)
  · rw [if_pos rfl]; exact ev_ck (by omega) (ev_ok (.inl ⟨rfl, hl, w1, w2, w3, hp⟩))
theorem c_quoteEnd (h : RDR n g L) (hi : 0 ≤ i ∧ i ≤ L) : N_Reader_quoteEnd i v2 n = some (sc (fun j => g j ≠ v2) i L) := by
  obtain ⟨h1, h2, h3, h4, h5⟩ := h
  have : NL_Reader_quoteEnd_2 v2 i n = some (sc (fun j => g j ≠ v2) i L) := by
    unfold NL_Reader_quoteEnd_2
    refine ev_scan (fun x x1 x2 => ?_)
    unfold nb_Reader_quoteEnd_2
    rw [h2]
    refine ev_if (fun hl => ev_nn h3 (ev_tx h1 ⟨by omega, hl⟩ (fun e => ?_))) (fun hl => ev_ok (.inr ⟨rfl, fun z => hl z.1⟩))
    rw [e]
    exact ev_if (fun w => ev_ok (.inr ⟨rfl, fun z => z.2 w⟩)) (fun w1 => ev_ck (by omega) (ev_ok (.inl ⟨rfl, hl, w1⟩)))
  unfold N_Reader_quoteEnd
  rw [this]; rfl
theorem c_plainEnd (h : RDR n g L) (hi : 0 ≤ i ∧ i ≤ L) : N_Reader_plainEnd i n = some (sc (pvC g) i L) := by
  obtain ⟨h1, h2, h3, h4, h5⟩ := h
  have : NL_Reader_plainEnd_2 i n = some (sc (pvC g) i L) := by
    unfold NL_Reader_plainEnd_2
    refine ev_scan (fun x x1 x2 => ?_)
    unfold nb_Reader_plainEnd_2
    rw [h2]
    refine ev_if (fun hl => ev_nn h3 (ev_tx h1 ⟨by omega, hl⟩ (fun e => ?_))) (fun hl => ev_ok (.inr ⟨rfl, fun z => hl z.1⟩))
    rw [e]
    refine ev_if (fun w => ev_ok (.inr ⟨rfl, fun z => z.2.1 w⟩)) (fun w1 => ev_nn h3 (ev_tx h1 ⟨by omega, hl⟩ (fun _ => ?_)))
    refine ev_bz cs_blank (fun hp => ?_) (fun hp => ?_)
    · rw [if_neg (by decide)]; exact ev_ok (.inr ⟨rfl, fun z => z.2.2 hp⟩)
    · rw [if_pos rfl]; exact ev_ck (by omega) (ev_ok (.inl ⟨rfl, hl, w1, hp⟩))
  unfold N_Reader_plainEnd
  rw [this]; rfl
theorem y_quoteEnd (hb : 0 ≤ m 76 0 ∧ m 76 0 ≤ 2000) (hi : 0 ≤ i ∧ i ≤ m 76 0) (h5 : 0 < v5) : NL_Y_readAttribute_176 v1 v2 v3 v4 v5 i m = some (sc (fun j => m 75 j ≠ v5) i (m 76 0)) := by
  unfold NL_Y_readAttribute_176
  refine ev_scan (fun x x1 x2 => ?_)
  unfold nb_Y_readAttribute_176
  rw [if_pos h5]
  refine ev_if (fun hl => ev_ix (by omega) ?_) (fun hl => ev_ok (.inr ⟨rfl, fun z => hl z.1⟩))
  exact ev_if (fun w => ev_ok (.inr ⟨rfl, fun z => z.2 w⟩)) (fun w1 => ev_ck (by omega) (ev_ok (.inl ⟨rfl, hl, w1⟩)))
theorem y_plainEnd (hb : 0 ≤ m 76 0 ∧ m 76 0 ≤ 2000) (hi : 0 ≤ i ∧ i ≤ m 76 0) (h5 : ¬ 0 < v5) : NL_Y_readAttribute_176 v1 v2 v3 v4 v5 i m = some (sc (pvC (m 75)) i (m 76 0)) := by
  unfold NL_Y_readAttribute_176
  refine ev_scan (fun x x1 x2 => ?_)
  unfold nb_Y_readAttribute_176
  rw [if_neg h5]
  refine ev_if (fun hl => ev_ix (by omega) (ev_bz ys_blank (fun hp => ?_) (fun hp => ?_))) (fun hl => ev_ok (.inr ⟨rfl, fun z => hl z.1⟩))
  · rw [if_neg (by decide)]; exact ev_ok (.inr ⟨rfl, fun z => z.2.2 hp⟩)
  · rw [if_pos rfl]
    exact ev_ix (by omega) (ev_if (fun w => ev_ok (.inr ⟨rfl, fun z => z.2.1 w⟩)) (fun w1 => ev_ck (by omega) (ev_ok (.inl ⟨rfl, hl, w1, hp⟩))))
/-- the reference's name of an attribute -/
theorem y_attrName (hb : 0 ≤ m 76 0 ∧ m 76 0 ≤ 2000) (hg : ∀ j, 0 ≤ j → j < m 76 0 → isTx (m 75 j)) (hi : 0 ≤ i ∧ i < m 76 0) : ev (NL_Y_readAttribute_4 i 0 i m) (fun x => x.2.1 = sc (anC (m 75)) (i + 1) (m 76 0) ∧ FY [87] m x.2.2 ∧ x.1 = min (x.2.1 - i) 8 ∧ sg (x.2.2 87) 0 x.1.toNat = smL (m 75) i x.2.1) := by
  unfold NL_Y_readAttribute_4
  refine ev_it (fun s : Int × Int × YS => i ≤ s.2.1 ∧ s.2.1 ≤ m 76 0 ∧ (∀ j, i + 1 ≤ j → j < s.2.1 → anC (m 75) j) ∧ FY [87] m s.2.2 ∧ s.1 = min (s.2.1 - i) 8 ∧ ∀ x, 0 ≤ x → x < min (s.2.1 - i) 8 → s.2.2 87 x = toSm (m 75 (i + x))) (fun s => m 76 0 - s.2.1) (fun s hs => ?_) ⟨Int.le_refl _, by show i ≤ m 76 0; omega, fun j a b => by have b : j < i := b; omega, fun _ _ => rfl, by show 0 = min (i - i) 8; omega, fun x a b => by have b : x < min (i - i) 8 := b; omega⟩
  obtain ⟨c, k, m1⟩ := s
  obtain ⟨q1, q2, q3, q4, q5, q6⟩ := hs
  simp only at q1 q2 q3 q4 q5 q6
  show ev (nb_Y_readAttribute_4 i c k m1) _
  have e75 : m1 75 = m 75 := q4 75 (by decide)
  have e76 : m1 76 = m 76 := q4 76 (by decide)
  have fin : k ≠ i → (k < m 76 0 → ¬ anC (m 75) k) → k = sc (anC (m 75)) (i + 1) (m 76 0) ∧ FY [87] m m1 ∧ c = min (k - i) 8 ∧ sg (m1 87) 0 c.toNat = smL (m 75) i k := fun y z => by
    refine ⟨scx_eq ⟨by omega, .inl q2, q3, z⟩, q4, q5, ?_⟩
    unfold smL
    rw [q5]
    refine sg_cg _ _ _ (fun x hx => ?_)
    rw [Int.zero_add]; exact q6 x (by omega) (by omega)
  have go : k < m 76 0 → (k ≠ i → anC (m 75) k) → ev (nk_Y_readAttribute_62 i c k m1) (lp (fun s : Int × Int × YS => i ≤ s.2.1 ∧ s.2.1 ≤ m 76 0 ∧ (∀ j, i + 1 ≤ j → j < s.2.1 → anC (m 75) j) ∧ FY [87] m s.2.2 ∧ s.1 = min (s.2.1 - i) 8 ∧ ∀ x, 0 ≤ x → x < min (s.2.1 - i) 8 → s.2.2 87 x = toSm (m 75 (i + x))) (fun s => m 76 0 - s.2.1) (c, k, m1) (fun x => x.2.1 = sc (anC (m 75)) (i + 1) (m 76 0) ∧ FY [87] m x.2.2 ∧ x.1 = min (x.2.1 - i) 8 ∧ sg (x.2.2 87) 0 x.1.toNat = smL (m 75) i x.2.1)) := fun hk hP => by
    have hT : ∀ j, i + 1 ≤ j → j < k + 1 → anC (m 75) j := fun j a b => by
      by_cases z : j = k
      · rw [z]; exact hP (by omega)
      · exact q3 j a (by omega)
    have hs := y_toSm (m := m1) (i := k) (by rw [e75]; exact hg k (by omega) hk)
    unfold nk_Y_readAttribute_62
    refine ev_if (fun h8 => ?_) (fun h8 => ?_)
    · refine ev_ix (by omega) ?_
      rw [hs.1]
      show ev (ix c 8 _) _
      rw [hs.2]
      refine ev_ix (by omega) (ev_st (ev_ck (by omega) (ev_ck (by omega) (ev_inl ⟨⟨by show i ≤ k + 1; omega, by show k + 1 ≤ m 76 0; omega, hT, fun f hf => ?_, ?_, fun x a b => ?_⟩, by show m 76 0 - (k + 1) < m 76 0 - k; omega, by show 0 ≤ m 76 0 - k; omega⟩))))
      · simp only [List.mem_cons, List.not_mem_nil, or_false] at hf
        show yw _ 87 _ _ f = _
        rw [yw_nF hf]; exact q4 f (by simp only [List.mem_cons, List.not_mem_nil, or_false]; exact hf)
      · show c + 1 = min (k + 1 - i) 8
        omega
      · have b : x < min (k + 1 - i) 8 := b
        show yw _ 87 _ _ 87 x = _
        by_cases z : x = c
        · rw [z, yw_eq, e75, show k = i + c by omega]
        · rw [yw_ni z]; exact q6 x a (by omega)
    · refine ev_ck (by omega) (ev_inl ⟨⟨by show i ≤ k + 1; omega, by show k + 1 ≤ m 76 0; omega, hT, q4, by show c = min (k + 1 - i) 8; omega, fun x a b => q6 x a (by have b : x < min (k + 1 - i) 8 := b; omega)⟩, by show m 76 0 - (k + 1) < m 76 0 - k; omega, by show 0 ≤ m 76 0 - k; omega⟩)
  unfold nb_Y_readAttribute_4
  rw [e75, e76]
  refine ev_if (fun hk => ev_if (fun z => go hk (fun y => absurd z y)) (fun hne => ev_ix (by omega) ?_)) (fun hk => ev_inr (fin (by omega) (fun z => absurd z hk)))
  refine ev_if (fun w => ev_inr (fin hne (fun _ z => z.1 w))) (fun w1 => ev_ix (by omega) (ev_bz ys_blank (fun hp => ?_) (fun hp => ?_)))
  · rw [if_neg (by decide)]; exact ev_inr (fin hne (fun _ z => z.2.2.2 hp))
  · rw [if_pos rfl]
    exact ev_ix (by omega) (ev_if (fun w => ev_inr (fin hne (fun _ z => z.2.1 w))) (fun w2 => ev_ix (by omega) (ev_if (fun w => ev_inr (fin hne (fun _ z => z.2.2.1 w))) (fun w3 => go hk (fun _ => ⟨w1, w2, w3, hp⟩)))))
end H2
