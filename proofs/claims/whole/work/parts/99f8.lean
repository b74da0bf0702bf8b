/-! ADDRESSES are copied and compared -/
theorem bz_iff {p p' : Prop} {x : Option Int} (h : ev x (bz p)) (e : p ↔ p') : ev x (bz p') := ev_mono h (fun r hr => by
  rcases hr with ⟨a, b⟩ | ⟨a, b⟩
  · exact .inl ⟨a, e.mp b⟩
  · exact .inr ⟨a, fun z => b (e.mpr z)⟩)
section F8
variable {n : NS} {m m' : YS} {A B a b r fr to : Int} {As : Int → Prop} {nm q mk nm' q' mk' : List Int} {ss ss' : List (List Int)}
theorem WFA.sz (h : WFA nm ss q mk) : (adL nm ss q).length ≤ 129 ∧ (mkL mk).length ≤ 9 ∧ 4 ≤ (adL nm ss q).length := by
  have hl := h.len
  have w1 := h.1
  have w5 := h.2.2.1.1
  have w6 := h.2.2.2.1
  have hml := mkL_len (mk := mk)
  have hlen := adL_len (nm := nm) (ss := ss) (q := q)
  omega
/-- one is made as another -/
theorem c_copy (hA : AdS n As) (ha : As a) (hb : As b) (hne : a ≠ b) (hC : CA n b nm ss q mk) (hW : WFA nm ss q mk) : ev (N_Address_copy a b n) (fun n' => ∃ s t, s 0 = n 99 a 0 ∧ n' = aw n a (n 99 a 0) s t ∧ CAs s t nm ss q mk) := by
  have hAa := (hA a ha).1
  have hAb := (hA b hb).1
  have haT := hAa.ne
  have hTT : n 99 b 0 ≠ n 99 a 0 := fun z => hne ((hA a ha).2.2 b hb z.symm)
  have hbT : b ≠ n 99 a 0 := fun z => by have h1 := hAb.2.1; rw [z, hAa.2.2.2.1] at h1; exact absurd h1 (by decide)
  have hTa : n 99 b 0 ≠ a := fun z => by have h1 := hAb.2.2.2.1; rw [z, hAa.2.1] at h1; exact absurd h1 (by decide)
  obtain ⟨c1, c2, c3, c4, c5, c6⟩ := hC
  have hsz := hW.sz
  have hl5 : n 99 b 5 = ((adL nm ss q ++ mkL mk).length : Int) := by
    rw [List.length_append]
    have := adL_len (nm := nm) (ss := ss) (q := q)
    omega
  have hl6 : (adL nm ss q ++ mkL mk).length ≤ 138 := by rw [List.length_append]; omega
  suffices key : ev (N_Address_copy a b (aw n a (n 99 a 0) (n 99 a) (n 99 (n 99 a 0)))) (fun n' => ∃ s t, s 0 = n 99 a 0 ∧ n' = aw n a (n 99 a 0) s t ∧ CAs s t nm ss q mk) by
    rw [aw_id rfl rfl] at key; exact key
  unfold N_Address_copy
  have rb : ∀ {s' t' : Int → Int}, aw n a (n 99 a 0) s' t' 99 b = n 99 b := fun {s' t'} => aw_q (Ne.symm hne) hbT
  have rT : ∀ {s' t' : Int → Int}, aw n a (n 99 a 0) s' t' 99 (n 99 b 0) = n 99 (n 99 b 0) := fun {s' t'} => aw_q hTa hTT
  have tyb : ∀ {α : Type} {Q : α → Prop} {x : Option α} {s' t' : Int → Int}, ev x Q → ev (ty (aw n a (n 99 a 0) s' t') b 101 x) Q := fun {α Q x s' t'} z => ev_ty (by rw [aw_K (by decide)]; exact hAb.2.1) z
  refine tyb ?_
  rw [rb]
  refine ev_nn hAb.2.2.1.1 (ev_tyA hAa ?_)
  rw [aw_a haT]
  refine ev_nn hAa.2.2.1.1 (tyb (ev_g ⟨by rw [aw_K (by decide)]; exact hAb.2.2.2.1, by rw [aw_K (by decide)]; exact hAa.2.2.2.1, by omega, by rw [aw_K (by decide), hAb.2.2.2.2]; omega, by rw [aw_K (by decide), hAa.2.2.2.2]; omega⟩ (ev_st ?_)))
  rw [aw_T, rT, aw_nT]
  refine tyb (ev_tyA hAa (ev_st ?_))
  rw [rb, aw_nw haT]
  refine tyb (ev_tyA hAa (ev_st ?_))
  rw [rb, aw_nw haT]
  refine tyb (ev_tyA hAa (ev_st ?_))
  rw [rb, aw_nw haT]
  refine tyb (ev_tyA hAa (ev_st ?_))
  rw [rb, aw_nw haT]
  refine tyb (ev_tyA hAa (ev_st ?_))
  rw [rb, aw_nw haT]
  refine ev_ok ⟨_, _, ?_, rfl, ?_, ?_, ?_, ?_, ?_, ?_⟩
  · rw [udz_n (by decide), udz_n (by decide), udz_n (by decide), udz_n (by decide), udz_n (by decide)]
  · rw [udz_n (by decide), udz_n (by decide), udz_n (by decide), udz_n (by decide), udz_e]; exact c1
  · rw [udz_n (by decide), udz_n (by decide), udz_n (by decide), udz_e]; exact c2
  · rw [udz_n (by decide), udz_n (by decide), udz_e]; exact c3
  · rw [udz_n (by decide), udz_e, udz_n (by decide), udz_n (by decide), udz_e]; exact c4
  · rw [udz_e, udz_n (by decide), udz_e]; exact c5
  · refine Eq.trans (sg_cg _ _ 0 (fun x hx => ?_)) c6
    unfold cpf
    rw [if_pos (by omega)]; congr 1; omega
theorem c_isAt (hA : AdS n As) (ha : As a) (hb : As b) (hC : CA n a nm ss q mk) (hW : WFA nm ss q mk) (hC' : CA n b nm' ss' q' mk') (hW' : WFA nm' ss' q' mk') : ev (N_Address_isAt a b n) (bz (adL nm ss q = adL nm' ss' q')) := by
  have hAa := (hA a ha).1
  have hAb := (hA b hb).1
  have hsz := hW.sz
  have hsz' := hW'.sz
  have l1 := adL_len (nm := nm) (ss := ss) (q := q)
  have l2 := adL_len (nm := nm') (ss := ss') (q := q')
  obtain ⟨c1, c2, c3, c4, c5, c6⟩ := hC
  obtain ⟨d1, d2, d3, d4, d5, d6⟩ := hC'
  have g6 := sg_pre c6
  have h6 := sg_pre d6
  unfold N_Address_isAt
  refine ev_ty hAa.2.1 (ev_ty hAb.2.1 (ev_if (fun he => ?_) (fun hne => ev_0 (fun z => hne ?_))))
  · have hll : (adL nm ss q).length = (adL nm' ss' q').length := by omega
    rw [← hll] at h6
    have hiff : adL nm ss q = adL nm' ss' q' ↔ ∀ x, 0 ≤ x → x < n 99 a 4 → n 99 (n 99 a 0) x = n 99 (n 99 b 0) x := by
      constructor
      · intro z x x0 x1
        have := sg_inj _ _ _ (g6.trans (z.trans h6.symm)) x.toNat (by omega)
        rw [show (0 : Int) + ((x.toNat : Nat) : Int) = x by omega] at this
        exact this
      · intro z
        rw [← g6, ← h6]
        exact sg_cg _ _ _ (fun x hx => z _ (by omega) (by omega))
    unfold NL_Address_isAt_15
    refine ev_bs (P := fun _ => ¬ adL nm ss q = adL nm' ss' q') (R := fun _ => adL nm ss q = adL nm' ss' q') ?_ (fun v h => ev_0 h) (fun v h => ev_1 h)
    refine ev_it (fun s : Int => 0 ≤ s ∧ s ≤ n 99 a 4 ∧ ∀ x, 0 ≤ x → x < s → n 99 (n 99 a 0) x = n 99 (n 99 b 0) x) (fun s => n 99 a 4 - s) (fun s hs => ?_) ⟨Int.le_refl _, by omega, fun x a b => by omega⟩
    obtain ⟨g1, g2, g3⟩ := hs
    show ev (nb_Address_isAt_15 a b s n) _
    unfold nb_Address_isAt_15
    refine ev_ty hAa.2.1 (ev_if (fun hlt => ev_ty hAa.2.1 (ev_nn hAa.2.2.1.1 (ev_dx ⟨hAa.2.2.2.1, g1, by rw [hAa.2.2.2.2]; omega⟩ (ev_ty hAb.2.1 (ev_nn hAb.2.2.1.1 (ev_dx ⟨hAb.2.2.2.1, g1, by rw [hAb.2.2.2.2]; omega⟩ (ev_if (fun hq => ev_ck (by omega) (ev_inl ⟨⟨by omega, by omega, fun x x0 x1 => ?_⟩, by omega, by omega⟩)) (fun hq => ev_inr (show ¬ _ from fun z => hq (hiff.mp z s g1 hlt)))))))))) (fun hge => ev_inr (hiff.mpr (fun x x0 x1 => g3 x x0 (by omega)))))
    by_cases e : x = s
    · rw [e]; exact hq
    · exact g3 x x0 (by omega)
  · rw [z] at l1; omega
theorem y_alike (hR : RA m a nm ss q mk) (hW : WFA nm ss q mk) (hR' : RA m b nm' ss' q' mk') (hW' : WFA nm' ss' q' mk') (ha : 0 ≤ a ∧ a < 66) (hb : 0 ≤ b ∧ b < 66) : ev (N_Y_alike a b m) (bz (adL nm ss q = adL nm' ss' q')) := by
  have hsz := hW.sz
  have hsz' := hW'.sz
  obtain ⟨r1, r2, r3, r4⟩ := hR
  obtain ⟨t1, t2, t3, t4⟩ := hR'
  unfold N_Y_alike
  refine ev_ix ha (ev_ix hb ?_)
  rw [r1, t1]
  refine ev_if (fun he => ev_ck (by omega) (ev_ck (by omega) (ev_ix ha ?_))) (fun hne => ev_0 (fun z => hne (by rw [z])))
  have hll : (adL nm ss q).length = (adL nm' ss' q').length := by omega
  refine ev_bz (ys_same (f := 6) (f2 := 6) (by omega) (by omega) (by show _ ≤ (9900 : Int); omega) (by show _ ≤ (9900 : Int); omega) (by omega) (by omega)) (fun hp => ?_) (fun hp => ?_)
  · rw [if_neg (by decide)]
    refine ev_1 ?_
    rw [show (((adL nm ss q).length : Int)).toNat = (adL nm ss q).length by omega, show a * 150 = 150 * a by omega, show b * 150 = 150 * b by omega, r2, hll, t2] at hp
    exact hp
  · rw [if_pos rfl]
    refine ev_0 (fun z => hp ?_)
    rw [show (((adL nm ss q).length : Int)).toNat = (adL nm ss q).length by omega, show a * 150 = 150 * a by omega, show b * 150 = 150 * b by omega, r2, hll, t2]
    exact z
/-- a row is made as another -/
def RC1 (m m' : YS) (to fr : Int) : Prop := FY [6, 7, 8] m m' ∧ (∀ j, 0 ≤ j → j < 150 → m' 6 (150 * to + j) = m 6 (150 * fr + j)) ∧ (∀ j, ¬ (150 * to ≤ j ∧ j < 150 * to + 150) → m' 6 j = m 6 j) ∧ m' 7 to = m 7 fr ∧ m' 8 to = m 8 fr ∧ (∀ q, q ≠ to → m' 7 q = m 7 q ∧ m' 8 q = m 8 q)
theorem y_copyRow (hto : 0 ≤ to ∧ to < 66) (hfr : 0 ≤ fr ∧ fr < 66) (hne : to ≠ fr) : ev (N_Y_copyRow to fr m) (fun m' => RC1 m m' to fr) := by
  unfold N_Y_copyRow
  refine ev_bind (P := fun m1 => FY [6] m m1 ∧ (∀ j, 0 ≤ j → j < 150 → m1 6 (150 * to + j) = m 6 (150 * fr + j)) ∧ (∀ j, ¬ (150 * to ≤ j ∧ j < 150 * to + 150) → m1 6 j = m 6 j)) ?_ (fun m1 h1 => ?_)
  · unfold NL_Y_copyRow_2
    refine ev_it (fun s : Int × YS => 0 ≤ s.1 ∧ s.1 ≤ 150 ∧ FY [6] m s.2 ∧ (∀ j, 0 ≤ j → j < s.1 → s.2 6 (150 * to + j) = m 6 (150 * fr + j)) ∧ (∀ j, ¬ (150 * to ≤ j ∧ j < 150 * to + 150) → s.2 6 j = m 6 j)) (fun s => 150 - s.1) (fun s hs => ?_) ⟨Int.le_refl _, by show (0 : Int) ≤ 150; decide, FY.refl _ _, fun j a b => by have b : j < 0 := b; omega, fun _ _ => rfl⟩
    obtain ⟨k, m1⟩ := s
    obtain ⟨g1, g2, g3, g4, g5⟩ := hs
    simp only at g1 g2 g3 g4 g5
    show ev (nb_Y_copyRow_2 to fr k m1) _
    unfold nb_Y_copyRow_2
    refine ev_if (fun hlt => ev_ck (by omega) (ev_ck (by omega) (ev_ck (by omega) (ev_ck (by omega) (ev_ix (by omega) (ev_ix (by omega) (ev_st (ev_ck (by omega) (ev_inl ⟨⟨by show 0 ≤ k + 1; omega, by show k + 1 ≤ 150; omega, fun f hf => ?_, fun j j0 j1 => ?_, fun j hj => ?_⟩, by show 150 - (k + 1) < 150 - k; omega, by show 0 ≤ 150 - k; omega⟩))))))))) (fun hge => ev_inr ⟨g3, fun j j0 j1 => g4 j j0 (by omega), g5⟩)
    · show yw m1 6 _ _ f = m f
      rw [yw_nF (fun z => hf (by simp [z]))]; exact g3 f hf
    · show yw m1 6 _ _ 6 _ = _
      have j1 : j < k + 1 := j1
      by_cases e : j = k
      · rw [e, show 150 * to + k = to * 150 + k by omega, yw_eq, g5 _ (by omega), show fr * 150 + k = 150 * fr + k by omega]
      · rw [yw_ni (by omega)]; exact g4 j j0 (by omega)
    · show yw m1 6 _ _ 6 _ = _
      rw [yw_ni (by omega)]; exact g5 j hj
  · obtain ⟨k1, k2, k3⟩ := h1
    refine ev_ix hfr (ev_ix hto (ev_st (ev_ix hfr (ev_ix hto (ev_st (ev_ok ⟨fun f hf => ?_, fun j j0 j1 => ?_, fun j hj => ?_, ?_, ?_, fun q hq => ⟨?_, ?_⟩⟩))))))
    · simp only [List.mem_cons, List.not_mem_nil, or_false, not_or] at hf
      rw [yw_nF hf.2.2, yw_nF hf.2.1]; exact k1 f (by simp [hf.1])
    · rw [yw_nF (by decide), yw_nF (by decide)]; exact k2 j j0 j1
    · rw [yw_nF (by decide), yw_nF (by decide)]; exact k3 j hj
    · rw [yw_nF (by decide), yw_eq, k1 7 (by decide)]
    · rw [yw_eq, yw_nF (by decide), k1 8 (by decide)]
    · rw [yw_nF (by decide), yw_ni hq, k1 7 (by decide)]
    · rw [yw_ni hq, yw_nF (by decide), k1 8 (by decide)]
theorem RC1.made (h : RC1 m m' to fr) (hR : RA m fr nm ss q mk) (hW : WFA nm ss q mk) : RA m' to nm ss q mk := by
  obtain ⟨h1, h2, h3, h4, h5, h6⟩ := h
  obtain ⟨r1, r2, r3, r4⟩ := hR
  have hsz := hW.sz
  have w6 := hW.2.2.2.1
  refine ⟨by rw [h4]; exact r1, Eq.trans (sg_cg _ _ (150 * fr) (fun x hx => h2 x (by omega) (by omega))) r2, by rw [h5]; exact r3, Eq.trans (sg_cg _ _ (150 * fr + 135) (fun x hx => ?_)) r4⟩
  rw [show 150 * to + 135 + (x : Int) = 150 * to + (135 + x) by omega, h2 _ (by omega) (by omega)]; congr 1; omega
theorem RC1.kept (h : RC1 m m' to fr) (hr : r ≠ to) (hR : RA m r nm ss q mk) (hW : WFA nm ss q mk) : RA m' r nm ss q mk := by
  obtain ⟨h1, h2, h3, h4, h5, h6⟩ := h
  obtain ⟨r1, r2, r3, r4⟩ := hR
  have hsz := hW.sz
  have w6 := hW.2.2.2.1
  refine ⟨by rw [(h6 r hr).1]; exact r1, Eq.trans (sg_cg _ _ (150 * r) (fun x hx => h3 _ (by omega))) r2, by rw [(h6 r hr).2]; exact r3, Eq.trans (sg_cg _ _ (150 * r + 135) (fun x hx => h3 _ (by omega))) r4⟩
/-- a mark goes -/
theorem RA.drop (h : RA m r nm ss q mk) : RA (yw m 8 r 0) r nm ss q [] := ⟨by rw [yw_nF (by decide)]; exact h.1, by rw [yw_nF (by decide)]; exact h.2.1, yw_eq, rfl⟩
theorem c_dropMark (hA : AdS n As) (ha : As a) (hC : CA n a nm ss q mk) : ev (N_Address_dropMark a n) (fun n' => ∃ s t, s 0 = n 99 a 0 ∧ n' = aw n a (n 99 a 0) s t ∧ CAs s t nm ss q []) := by
  have hAa := (hA a ha).1
  have haT := hAa.ne
  obtain ⟨c1, c2, c3, c4, c5, c6⟩ := hC
  unfold N_Address_dropMark
  refine ev_ty hAa.2.1 (ev_ty hAa.2.1 (ev_st (ev_ok ⟨udz (n 99 a) 5 (n 99 a 4), n 99 (n 99 a 0), udz_n (by decide), ?_, ?_, ?_, ?_, ?_, ?_, ?_⟩)))
  · rw [← aw_nw haT, aw_id rfl rfl]
  · rw [udz_n (by decide)]; exact c1
  · rw [udz_n (by decide)]; exact c2
  · rw [udz_n (by decide)]; exact c3
  · rw [udz_n (by decide), udz_n (by decide)]; exact c4
  · rw [udz_e, udz_n (by decide)]; show n 99 a 4 = n 99 a 4 + ((0 : Nat) : Int); omega
  · show sg (n 99 (n 99 a 0)) 0 (adL nm ss q ++ []).length = adL nm ss q ++ []
    rw [List.append_nil]; exact sg_pre c6
theorem c_hasMark (hA : AdS n As) (ha : As a) (hC : CA n a nm ss q mk) : ev (N_Address_hasMark a n) (bz (mk ≠ [])) := by
  have hAa := (hA a ha).1
  obtain ⟨c1, c2, c3, c4, c5, c6⟩ := hC
  unfold N_Address_hasMark
  refine ev_ty hAa.2.1 (ev_ty hAa.2.1 (ev_if (fun h => ev_1 (fun z => ?_)) (fun h => ev_0 (fun z => h ?_))))
  · rw [z] at c5
    have c5 : n 99 a 5 = n 99 a 4 + ((0 : Nat) : Int) := c5
    omega
  · unfold mkL at c5
    rw [if_neg z, List.length_cons] at c5; omega
end F8
