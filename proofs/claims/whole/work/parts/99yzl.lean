/-! THE CONSTRUCTORS: the class's net, to the end -/
def hmN : List Int := [104, 111, 109, 101]
def hmG : Int → Int := fun j => hmT j.toNat
/-- an ADDRESS that is the one at home -/
def AdC (f t : Nat → Int) (T : Int) : Prop := f 0 = T ∧ ∃ s t' : Int → Int, CAs s t' hmN [[]] [] [] ∧ ∀ k : Nat, f k = s k ∧ t k = t' k
section YZL
variable {g g' : g_S} {K q k t l p j : Nat} {f fH fN f1 f2 : Nat → Int} {L : List (Nat × (Nat → Int))} {m : YS} {n : NS} {α β : Type} {Q : α → Prop} {i b : Int}
theorem hm_wf : WFA hmN [[]] [] [] := by
  refine ⟨⟨by decide, by decide, fun c hc => ?_⟩, ⟨by decide, by decide, fun x hx => ?_⟩, ⟨by decide, fun h => absurd rfl h, fun c hc => by cases hc⟩, by decide, fun c hc => by cases hc⟩
  · unfold hmN at hc
    simp only [List.mem_cons, List.not_mem_nil, or_false] at hc
    show (97 ≤ c ∧ c ≤ 122) ∨ (48 ≤ c ∧ c ≤ 57)
    omega
  · simp only [List.mem_cons, List.not_mem_nil, or_false] at hx
    rw [hx]
    exact ⟨by decide, by unfold wnt; decide, fun c hc => by cases hc⟩
theorem hm_rf : RFs hmG 0 7 = some (hmN, [[]], [], []) := by
  have e1 : stpA hmG 0 7 = 7 := by decide
  have e2 : sc (fun j => hmG j ≠ 47) (0 + 2) 7 = 6 := by decide
  have e3 : nmC hmG (0 + 2) 6 = 6 := by decide
  unfold RFs
  rw [e1, e2, e3, if_pos (by decide)]
  have e4 : sgs hmG 6 ((7 : Int) - 6).toNat = [[]] := by decide
  rw [RP1_yes ⟨fun j h1 h2 => by
    have : j = 6 := by omega
    rw [this]; exact .inr (by decide), fun x hx _ => by
    rw [e4] at hx
    simp only [List.mem_cons, List.not_mem_nil, or_false] at hx
    rw [hx]; decide, by rw [e4]; decide⟩, e4]
  decide
theorem CAs.nat {s t s' t' : Int → Int} {nm q mk : List Int} {ss : List (List Int)} (h : CAs s t nm ss q mk) (hs : ∀ k : Nat, s' k = s k) (ht : ∀ k : Nat, t' k = t k) : CAs s' t' nm ss q mk := by
  obtain ⟨a1, a2, a3, a4, a5, a6⟩ := h
  have h1 := hs 1
  have h2 := hs 2
  have h3 := hs 3
  have h4 := hs 4
  have h5 := hs 5
  have h1 : s' 1 = s 1 := h1
  have h2 : s' 2 = s 2 := h2
  have h3 : s' 3 = s 3 := h3
  have h4 : s' 4 = s 4 := h4
  have h5 : s' 5 = s 5 := h5
  refine ⟨by rw [h1]; exact a1, by rw [h2]; exact a2, by rw [h3]; exact a3, by rw [h4, h3]; exact a4, by rw [h5, h4]; exact a5, ?_⟩
  refine Eq.trans (sg_cg _ _ 0 (fun x hx => ?_)) a6
  have := ht x
  rw [show (0 : Int) + (x : Int) = (x : Int) by omega]; exact this
theorem V6 : Vt 1569 = Vn 6 0 := Vt_of (show lc 1569 = (6, 0) by decide) (by decide)
/-- two cells are written, nothing else -/
theorem aw_lc {a T : Nat} {s t : Int → Int} (ha : lc a = (99, (a : Int))) (hT : lc T = (99, (T : Int))) (h1 : q ≠ a) (h2 : q ≠ T) : aw n a T s t (lc q).1 (lc q).2 = n (lc q).1 (lc q).2 := by
  by_cases h : (lc q).1 = 99
  · rw [h]
    refine aw_q (fun z => h1 ?_) (fun z => h2 ?_)
    · exact lc_inj (Prod.ext (h.trans (by rw [ha])) (z.trans (by rw [ha])))
    · exact lc_inj (Prod.ext (h.trans (by rw [hT])) (z.trans (by rw [hT])))
  · rw [aw_K h]
theorem ad_st : ∀ z, z < 20 → (sty (1591 + 2 * z) = 101 ∧ sln (1591 + 2 * z) = 0 ∧ lc (1591 + 2 * z) = (99, ((1591 + 2 * z : Nat) : Int))) ∧ sty (1591 + 2 * z + 1) = 1 ∧ sln (1591 + 2 * z + 1) = 160 ∧ lc (1591 + 2 * z + 1) = (99, ((1591 + 2 * z + 1 : Nat) : Int)) := by decide +kernel
/-- the home is read -/
theorem e_home {F : Int32 → g_S → Option α} (h : BD Vt g 1591 ((1590, hmT) :: (1589, hmB) :: (1588, blk 6) :: (0, fH) :: [])) (c : ∀ z g' f1 f2, AdC f1 f2 1583 → BD Vt g' 1591 ((1588, blk 6) :: (1582, f1) :: (1583, f2) :: (1589, hmB) :: (1590, hmT) :: (0, fH) :: []) → ev (F z g') Q) : ev (c2 (M_Address_read 1582 1590 0 (Int32.ofInt 7) 1584 g) F) Q := by
  have hR : RC False False g (nOf g) (fun _ _ => 0) := rc_of h.1.2.2.2
  have n82 := h.n92 (q := 1582) (by decide)
  have n83 := h.n92 (q := 1583) (by decide)
  have n90 := h.n92 (q := 1590) (by decide)
  have k90 : nOf g 90 0 0 = 1591 := by show (gn g : Int) = _; rw [h.1.1]; rfl
  have hT : nOf g 99 1582 0 = 1583 := by
    have := h.c99 (q := 1582) (by decide) (by decide) (nnin rfl) (s := 0) (by decide)
    rw [Vt_99 (by decide)] at this
    exact this
  have hA : AC (nOf g) 1582 1583 := ⟨⟨by decide, by rw [k90]; decide⟩, n82.1.trans (by decide), ⟨by decide, by rw [k90]; decide⟩, n83.1.trans (by decide), n83.2.trans (by decide)⟩
  have hx : tx (nOf g) 1590 hmG 7 := ⟨n90.1.trans (by decide), by rw [show nOf g 93 0 1590 = _ from n90.2]; decide, fun j j0 _ => h.n99 (q := 1590) (by decide) (List.mem_cons_self) rfl j0⟩
  obtain ⟨r, hr, s', t', r1, r2, r3⟩ := c_readX (b := 1584) (i := 0) (to := 7) hA hT hx (by decide) (by decide) (by decide) (by decide) (by decide) (by decide)
  obtain ⟨x, hx1, _, hx2⟩ := f_Address_read (xv0 := 1582) (v0 := 1582) rfl ⟨by decide, by decide⟩ (xv1 := 1590) (v1 := 1590) rfl ⟨by decide, by decide⟩ (xv2 := 0) (v2 := 0) rfl (by decide) (xv3 := Int32.ofInt 7) (v3 := 7) rfl (by decide) (xv4 := 1584) (v4 := 1584) rfl ⟨by decide, by decide⟩ hR r hr
  rw [hx1]
  rcases r3 with ⟨_, z⟩ | ⟨_, nm, ss, q, mk, z, hC, _⟩
  · rw [hm_rf] at z; cases z
  · rw [hm_rf] at z
    obtain ⟨rfl, rfl, rfl, rfl⟩ : nm = hmN ∧ ss = [[]] ∧ q = [] ∧ mk = [] := by
      have := Option.some.inj z
      simp only [Prod.mk.injEq] at this
      exact ⟨this.1.symm, this.2.1.symm, this.2.2.1.symm, this.2.2.2.symm⟩
    show ev (F x.1 x.2) Q
    rw [r1] at hx2
    have hne : (1582 : Int) ≠ 1583 := by decide
    refine c x.1 x.2 (fun k => s' k) (fun k => t' k) ⟨r2, s', t', hC, fun k => ⟨rfl, rfl⟩⟩ (h.re hx2 (by rw [aw_K (by decide)]; exact k90) (by rw [aw_K (by decide)]) (by rw [aw_K (by decide)]) (fun q hq hx' => ?_) (fun y hy => ?_))
    · have g1 := hx' (1582, _) (by simp only [List.mem_cons]; exact .inr (.inl rfl))
      have g2 := hx' (1583, _) (by simp only [List.mem_cons]; exact .inr (.inr (.inl rfl)))
      refine ⟨fun y hy => ?_, fun k => by rw [show aw (nOf g) 1582 1583 s' t' (lc q).1 (lc q).2 = nOf g (lc q).1 (lc q).2 from aw_lc (a := 1582) (T := 1583) (by decide) (by decide) (fun z => g1 z.symm) (fun z => g2 z.symm)]⟩
      simp only [List.mem_cons, List.not_mem_nil, or_false] at hy
      rcases hy with y1 | y1 | y1 | y1
      · rw [y1]; exact hx' (1590, hmT) (by simp only [List.mem_cons]; exact .inr (.inr (.inr (.inr (.inl trivial)))))
      · rw [y1]; exact hx' (1589, hmB) (by simp only [List.mem_cons]; exact .inr (.inr (.inr (.inl trivial))))
      · rw [y1]; exact hx' (1588, blk 6) (by simp only [List.mem_cons]; exact .inl trivial)
      · rw [y1]; exact hx' (0, fH) (by simp only [List.mem_cons]; exact .inr (.inr (.inr (.inr (.inr (.inl trivial))))))
    · simp only [List.mem_cons, List.not_mem_nil, or_false] at hy
      have old : ∀ x ∈ ((1590, hmT) :: (1589, hmB) :: (1588, blk 6) :: (0, fH) :: []), x.1 ≠ 1582 → x.1 ≠ 1583 → x.1 < 1591 ∧ ∀ k : Nat, aw (nOf g) 1582 1583 s' t' (lc x.1).1 (lc x.1).2 k = x.2 k := fun x hx z1 z2 => by
        obtain ⟨u1, u2⟩ := h.2.2 x hx
        refine ⟨u1, fun k => ?_⟩
        rw [show aw (nOf g) 1582 1583 s' t' (lc x.1).1 (lc x.1).2 = nOf g (lc x.1).1 (lc x.1).2 from aw_lc (a := 1582) (T := 1583) (by decide) (by decide) z1 z2, nOf_lc]
        exact u2 k
      rcases hy with y1 | y1 | y1 | y1 | y1 | y1
      · rw [y1]; exact old (1588, blk 6) (by simp only [List.mem_cons]; exact .inr (.inr (.inl trivial))) (by dsimp only; decide) (by dsimp only; decide)
      · rw [y1]
        refine ⟨by show 1582 < 1591; decide, fun k => ?_⟩
        show aw (nOf g) 1582 1583 s' t' (lc 1582).1 (lc 1582).2 k = s' k
        rw [show lc 1582 = (99, 1582) by decide]
        show aw (nOf g) 1582 1583 s' t' 99 1582 k = s' k
        rw [aw_a hne]
      · rw [y1]
        refine ⟨by show 1583 < 1591; decide, fun k => ?_⟩
        show aw (nOf g) 1582 1583 s' t' (lc 1583).1 (lc 1583).2 k = t' k
        rw [show lc 1583 = (99, 1583) by decide]
        show aw (nOf g) 1582 1583 s' t' 99 1583 k = t' k
        rw [aw_T]
      · rw [y1]; exact old (1589, hmB) (by simp only [List.mem_cons]; exact .inr (.inl trivial)) (by dsimp only; decide) (by dsimp only; decide)
      · rw [y1]; exact old (1590, hmT) (by simp only [List.mem_cons]; exact .inl trivial) (by dsimp only; decide) (by dsimp only; decide)
      · rw [y1]; exact old (0, fH) (by simp only [List.mem_cons]; exact .inr (.inr (.inr (.inl trivial)))) (by dsimp only; decide) (by dsimp only; decide)
/-- the ADDRESSES of the history -/
theorem e_adrs {F : g_S → Option α} (h : BD Vt g 1591 ((1588, blk 6) :: (1582, f1) :: (1583, f2) :: (1589, hmB) :: (1590, hmT) :: (0, fH) :: [])) (c : ∀ g', BD Vt g' 1631 ((1582, f1) :: (1583, f2) :: (1589, hmB) :: (1590, hmT) :: (0, fH) :: []) → ev (F g') Q) : ev ((L_Net_init_165 1569 0 g).bind F) Q := by
  refine ev_bind (P := fun g' => BD Vt g' (1591 + 2 * 20) ((1588, fst' 1591 2 20) :: (1582, f1) :: (1583, f2) :: (1589, hmB) :: (1590, hmT) :: (0, fH) :: [])) ?_ (fun g' h => c g' (h.close (fun k => ?_)))
  · unfold L_Net_init_165
    refine e_loop (b := b_Net_init_165 1569) (I := fun z g => BD Vt g (1591 + 2 * z) ((1588, fst' 1591 2 z) :: (1582, f1) :: (1583, f2) :: (1589, hmB) :: (1590, hmT) :: (0, fH) :: [])) (N := 20) (fun z g hz h => ?_) (fun g h => ?_) 20 0 g rfl (by rw [← blk_ref (t := 6) (by decide)]; exact h)
    · obtain ⟨a1, a2, a3, a4⟩ := i32_20 z hz
      obtain ⟨⟨b1, b2, b3⟩, b4, b5, b6⟩ := ad_st z hz
      unfold b_Net_init_165
      rw [if_pos a1]
      have hv : vl g 1569 17 = 0 := by rw [h.2.1 1569 (by omega) (nnin rfl) 17, V6]; rfl
      refine e_rQ (p := 1588) (u := 0) h (by omega) (by decide) hv rfl (by decide) (by decide) ?_
      refine e_nO h (by omega) b1 b2 (fun g3 h => ?_)
      refine e_addr h (fun x hx => ?_) (by omega) b1 b4 b5 b3 b6 (fun g4 h => ?_)
      · simp only [List.mem_cons, List.not_mem_nil, or_false] at hx
        rcases hx with y | y | y | y | y | y <;> (rw [y]; dsimp only; omega)
      refine e_sQ (u := 1591 + 2 * z) (j := z) h (nnin rfl) (by decide) (by omega) b1 a2 a3 rfl (by rw [b3]; rfl) (fun g5 h => ?_)
      refine ev_ok ⟨g5, by rw [a4], ?_⟩
      rw [fst_up] at h
      exact h
    · unfold b_Net_init_165
      rw [if_neg (by decide)]
  · rw [Vt_of (show lc 1588 = (27, 0) by decide) (by decide)]; rfl
/-- the first of them is the home -/
theorem e_first {F : g_S → Option α} (h : BD Vt g 1631 ((1582, f1) :: (1583, f2) :: (1589, hmB) :: (1590, hmT) :: (0, fH) :: [])) (hA : AdC f1 f2 1583) (c : ∀ g' f5 f6, AdC f5 f6 1592 → BD Vt g' 1631 ((1582, f1) :: (1583, f2) :: (1589, hmB) :: (1590, hmT) :: (1591, f5) :: (1592, f6) :: (0, fH) :: []) → ev (F g') Q) : ev ((M_Address_copy 1591 1582 g).bind F) Q := by
  have hR : RC False False g (nOf g) (fun _ _ => 0) := rc_of h.1.2.2.2
  obtain ⟨hA0, s, t, hC, hst⟩ := hA
  have n82 := h.n92 (q := 1582) (by decide)
  have n83 := h.n92 (q := 1583) (by decide)
  have n91 := h.n92 (q := 1591) (by decide)
  have n92 := h.n92 (q := 1592) (by decide)
  have k90 : nOf g 90 0 0 = 1631 := by show (gn g : Int) = _; rw [h.1.1]; rfl
  have e82 : ∀ k : Nat, nOf g 99 1582 k = f1 k := fun k => by
    have := h.n99 (q := 1582) (by decide) (x := (1582, f1)) (by simp only [List.mem_cons]; exact .inl trivial) rfl (s := (k : Int)) (by omega)
    rw [Int.toNat_natCast] at this; exact this
  have e83 : ∀ k : Nat, nOf g 99 1583 k = f2 k := fun k => by
    have := h.n99 (q := 1583) (by decide) (x := (1583, f2)) (by simp only [List.mem_cons]; exact .inr (.inl trivial)) rfl (s := (k : Int)) (by omega)
    rw [Int.toNat_natCast] at this; exact this
  have t82 : nOf g 99 1582 0 = 1583 := (e82 0).trans hA0
  have t91 : nOf g 99 1591 0 = 1592 := by
    have := h.c99 (q := 1591) (by decide) (by decide) (nnin rfl) (s := 0) (by decide)
    rw [Vt_99 (by decide)] at this
    exact this
  have hAa : AC (nOf g) 1591 (nOf g 99 1591 0) := by
    rw [t91]
    exact ⟨⟨by decide, by rw [k90]; decide⟩, n91.1.trans (by decide), ⟨by decide, by rw [k90]; decide⟩, n92.1.trans (by decide), n92.2.trans (by decide)⟩
  have hAb : AC (nOf g) 1582 (nOf g 99 1582 0) := by
    rw [t82]
    exact ⟨⟨by decide, by rw [k90]; decide⟩, n82.1.trans (by decide), ⟨by decide, by rw [k90]; decide⟩, n83.1.trans (by decide), n83.2.trans (by decide)⟩
  have hCA : CA (nOf g) 1582 hmN [[]] [] [] := by
    unfold CA
    rw [t82]
    exact hC.nat (fun k => (e82 k).trans (hst k).1) (fun k => (e83 k).trans (hst k).2)
  obtain ⟨n', hr, s', t', r1, r2, r3⟩ := c_copyX hAa hAb (by rw [t82, t91]; decide) (by decide) hCA hm_wf
  rw [t91] at r1 r2
  obtain ⟨x, hx1, hx2⟩ := f_Address_copy (xv0 := 1591) (v0 := 1591) rfl ⟨by decide, by decide⟩ (xv1 := 1582) (v1 := 1582) rfl ⟨by decide, by decide⟩ hR n' hr
  rw [hx1]
  rw [r2] at hx2
  show ev (F x) Q
  have hne : (1591 : Int) ≠ 1592 := by decide
  refine c x (fun k => s' k) (fun k => t' k) ⟨r1, s', t', r3, fun k => ⟨rfl, rfl⟩⟩ (h.re hx2 (by rw [aw_K (by decide)]; exact k90) (by rw [aw_K (by decide)]) (by rw [aw_K (by decide)]) (fun q hq hx' => ?_) (fun y hy => ?_))
  · have g1 := hx' (1591, _) (by simp only [List.mem_cons]; exact .inr (.inr (.inr (.inr (.inl rfl)))))
    have g2 := hx' (1592, _) (by simp only [List.mem_cons]; exact .inr (.inr (.inr (.inr (.inr (.inl rfl))))))
    refine ⟨fun y hy => ?_, fun k => by rw [show aw (nOf g) 1591 1592 s' t' (lc q).1 (lc q).2 = nOf g (lc q).1 (lc q).2 from aw_lc (a := 1591) (T := 1592) (by decide) (by decide) (fun z => g1 z.symm) (fun z => g2 z.symm)]⟩
    simp only [List.mem_cons, List.not_mem_nil, or_false] at hy
    rcases hy with y1 | y1 | y1 | y1 | y1
    · rw [y1]; exact hx' (1582, f1) (by simp only [List.mem_cons]; exact .inl trivial)
    · rw [y1]; exact hx' (1583, f2) (by simp only [List.mem_cons]; exact .inr (.inl trivial))
    · rw [y1]; exact hx' (1589, hmB) (by simp only [List.mem_cons]; exact .inr (.inr (.inl trivial)))
    · rw [y1]; exact hx' (1590, hmT) (by simp only [List.mem_cons]; exact .inr (.inr (.inr (.inl trivial))))
    · rw [y1]; exact hx' (0, fH) (by simp only [List.mem_cons]; exact .inr (.inr (.inr (.inr (.inr (.inr (.inl trivial)))))))
  · simp only [List.mem_cons, List.not_mem_nil, or_false] at hy
    have old : ∀ x ∈ ((1582, f1) :: (1583, f2) :: (1589, hmB) :: (1590, hmT) :: (0, fH) :: []), x.1 ≠ 1591 → x.1 ≠ 1592 → x.1 < 1631 ∧ ∀ k : Nat, aw (nOf g) 1591 1592 s' t' (lc x.1).1 (lc x.1).2 k = x.2 k := fun x hx z1 z2 => by
      obtain ⟨u1, u2⟩ := h.2.2 x hx
      refine ⟨u1, fun k => ?_⟩
      rw [show aw (nOf g) 1591 1592 s' t' (lc x.1).1 (lc x.1).2 = nOf g (lc x.1).1 (lc x.1).2 from aw_lc (a := 1591) (T := 1592) (by decide) (by decide) z1 z2, nOf_lc]
      exact u2 k
    rcases hy with y1 | y1 | y1 | y1 | y1 | y1 | y1
    · rw [y1]; exact old (1582, f1) (by simp only [List.mem_cons]; exact .inl trivial) (by dsimp only; decide) (by dsimp only; decide)
    · rw [y1]; exact old (1583, f2) (by simp only [List.mem_cons]; exact .inr (.inl trivial)) (by dsimp only; decide) (by dsimp only; decide)
    · rw [y1]; exact old (1589, hmB) (by simp only [List.mem_cons]; exact .inr (.inr (.inl trivial))) (by dsimp only; decide) (by dsimp only; decide)
    · rw [y1]; exact old (1590, hmT) (by simp only [List.mem_cons]; exact .inr (.inr (.inr (.inl trivial)))) (by dsimp only; decide) (by dsimp only; decide)
    · rw [y1]
      refine ⟨by show 1591 < 1631; decide, fun k => ?_⟩
      show aw (nOf g) 1591 1592 s' t' (lc 1591).1 (lc 1591).2 k = s' k
      rw [show lc 1591 = (99, 1591) by decide]
      show aw (nOf g) 1591 1592 s' t' 99 1591 k = s' k
      rw [aw_a hne]
    · rw [y1]
      refine ⟨by show 1592 < 1631; decide, fun k => ?_⟩
      show aw (nOf g) 1591 1592 s' t' (lc 1592).1 (lc 1592).2 k = t' k
      rw [show lc 1592 = (99, 1592) by decide]
      show aw (nOf g) 1591 1592 s' t' 99 1592 k = t' k
      rw [aw_T]
    · rw [y1]; exact old (0, fH) (by simp only [List.mem_cons]; exact .inr (.inr (.inr (.inr (.inl trivial))))) (by dsimp only; decide) (by dsimp only; decide)
theorem e_net {F : g_S → Option α} (h : BD Vt g 1570 ((1569, blk 106) :: (0, fH) :: [])) (c : ∀ g' f1 f2 f5 f6, AdC f1 f2 1583 → AdC f5 f6 1592 → BD Vt g' 1631 ((1582, f1) :: (1583, f2) :: (1589, hmB) :: (1590, hmT) :: (1591, f5) :: (1592, f6) :: (0, fH) :: []) → ev (F g') Q) : ev ((M_Net_init 1569 g).bind F) Q := by
  unfold M_Net_init
  refine ev_bind (P := fun g' => ∃ f1 f2 f5 f6, AdC f1 f2 1583 ∧ AdC f5 f6 1592 ∧ BD Vt g' 1631 ((1582, f1) :: (1583, f2) :: (1589, hmB) :: (1590, hmT) :: (1591, f5) :: (1592, f6) :: (0, fH) :: [])) ?_ (fun g' hg => by
    obtain ⟨f1, f2, f5, f6, a, b, d⟩ := hg
    exact c g' f1 f2 f5 f6 a b d)
  refine e_nO h (by decide) (by decide) (by decide) (fun g2 h => ?_)
  refine e_answer h (fun g3 h => ?_)
  refine e_wR (p := 1570) (u := 1570) h (nnin rfl) (by decide) rfl (by decide) (fun g4 h => ?_)
  refine e_nA h (by decide) (by decide) (by decide) (by decide) (fun g6 h => ?_)
  have h := h.close (q := 1574) (fun k => by rw [Vt_of (show lc 1574 = (23, 0) by decide) (by decide)]; rfl)
  refine e_wR (p := 1574) (u := 0) h (nnin rfl) (by decide) rfl (by decide) (fun g7 h => ?_)
  refine e_nA h (by decide) (by decide) (by decide) (by decide) (fun g9 h => ?_)
  have h := h.close (q := 1575) (fun k => by rw [Vt_of (show lc 1575 = (24, 0) by decide) (by decide)]; rfl)
  refine e_wR (p := 1575) (u := 0) h (nnin rfl) (by decide) rfl (by decide) (fun g10 h => ?_)
  refine e_nA h (by decide) (by decide) (by decide) (by decide) (fun g12 h => ?_)
  have h := h.close (q := 1576) (fun k => by rw [Vt_of (show lc 1576 = (25, 0) by decide) (by decide)]; rfl)
  refine e_wR (p := 1576) (u := 0) h (nnin rfl) (by decide) rfl (by decide) (fun g13 h => ?_)
  refine e_nA h (by decide) (by decide) (by decide) (by decide) (fun g15 h => ?_)
  have h := h.close (q := 1577) (fun k => by rw [Vt_of (show lc 1577 = (26, 0) by decide) (by decide)]; rfl)
  refine e_wR (p := 1577) (u := 0) h (nnin rfl) (by decide) rfl (by decide) (fun g16 h => ?_)
  refine e_nO h (by decide) (by decide) (by decide) (fun g18 h => ?_)
  refine e_addr h (nnin rfl) (by decide) (by decide) (by decide) (by decide) (by decide) (by decide) (fun g19 h => ?_)
  refine e_wR (p := 1578) (u := 1578) h (nnin rfl) (by decide) rfl (by decide) (fun g20 h => ?_)
  refine e_nO h (by decide) (by decide) (by decide) (fun g22 h => ?_)
  refine e_bytes (b := 607) h (nnin rfl) (by decide) (by decide) (by decide) (by decide) (by decide) (by decide) (by decide) (fun g23 h => ?_)
  refine e_wR (p := 1580) (u := 607) h (nnin rfl) (by decide) rfl (by decide) (fun g24 h => ?_)
  refine e_nO h (by decide) (by decide) (by decide) (fun g26 h => ?_)
  refine e_addr h (nnin rfl) (by decide) (by decide) (by decide) (by decide) (by decide) (by decide) (fun g27 h => ?_)
  refine e_wR (p := 1582) (u := 1582) h (nnin rfl) (by decide) rfl (by decide) (fun g28 h => ?_)
  refine e_nO h (by decide) (by decide) (by decide) (fun g30 h => ?_)
  refine e_addr h (nnin rfl) (by decide) (by decide) (by decide) (by decide) (by decide) (by decide) (fun g31 h => ?_)
  refine e_wR (p := 1584) (u := 1584) h (nnin rfl) (by decide) rfl (by decide) (fun g32 h => ?_)
  refine e_nO h (by decide) (by decide) (by decide) (fun g34 h => ?_)
  refine e_addr h (nnin rfl) (by decide) (by decide) (by decide) (by decide) (by decide) (by decide) (fun g35 h => ?_)
  refine e_wR (p := 1586) (u := 1586) h (nnin rfl) (by decide) rfl (by decide) (fun g36 h => ?_)
  refine e_wI (u := 0) h (nnin rfl) (by decide) rfl (by decide) (by decide) (by decide) (fun g37 h => ?_)
  refine e_nA h (by decide) (by decide) (by decide) (by decide) (fun g39 h => ?_)
  have h := h.sw
  refine e_wR (p := 1588) (u := 0) h (nnin rfl) (by decide) rfl (by decide) (fun g40 h => ?_)
  refine e_wI (u := 1) h (nnin rfl) (by decide) rfl (by decide) (by decide) (by decide) (fun g41 h => ?_)
  refine e_nO h (by decide) (by decide) (by decide) (fun g43 h => ?_)
  refine e_bytes (b := 631) h (nnin rfl) (by decide) (by decide) (by decide) (by decide) (by decide) (by decide) (by decide) (fun g44 h => ?_)
  have h := h.close (fun k => by rw [V6]; rfl)
  have h := (h.again (q := 1589) (by decide) (nnin rfl)).again (q := 1590) (by decide) (nnin rfl)
  refine e_vb h (by decide) (by decide) ?_
  refine e_text h (fun x hx => ?_) (fun g45 h => ?_)
  · simp only [List.mem_cons, List.not_mem_nil, or_false] at hx
    rcases hx with y | y <;> (rw [y]; dsimp only; decide)
  have v69 : ∀ k, vl g45 1569 k = Vn 6 0 k := fun k => by rw [h.2.1 1569 (by decide) (nnin rfl) k, V6]
  refine e_rQ (p := 1582) (u := 1582) h (by decide) (by decide) ((v69 13).trans rfl) rfl (by decide) (by decide) ?_
  refine e_rQ (p := 1590) (u := 1590) h (by decide) (by decide) (((h.sub (List.mem_cons_of_mem _ List.mem_cons_self)).2 1).trans (by unfold hmB; rw [Vt_1589]; rfl)) rfl (by decide) (by decide) ?_
  refine e_rI (u := 7) h (by decide) (by decide) (((h.sub (List.mem_cons_of_mem _ List.mem_cons_self)).2 2).trans rfl) rfl ?_
  refine e_rQ (p := 1584) (u := 1584) h (by decide) (by decide) ((v69 14).trans rfl) rfl (by decide) (by decide) ?_
  have evc : ∀ {x : Option (Int32 × g_S)}, vc g45 101 1582 x = x := fun {x} => by
    unfold vc
    rw [(h.ty (q := 1582) (by decide)).1, if_pos (by decide)]
  rw [evc]
  refine e_home h (fun z50 g51 f1 f2 hA h => ?_)
  refine e_adrs h (fun g54 h => ?_)
  have v69 : ∀ k, vl g54 1569 k = Vn 6 0 k := fun k => by rw [h.2.1 1569 (by decide) (nnin rfl) k, V6]
  refine e_rQ (p := 1588) (u := 0) h (by decide) (by decide) ((v69 17).trans rfl) rfl (by decide) (by decide) ?_
  have eaQ : aQ g54 6 1588 0 = some 1591 := by
    unfold aQ
    rw [(h.ty (q := 1588) (by decide)).1, (h.ty (q := 1588) (by decide)).2, if_pos (by decide)]
    refine h.ref (q := 1588) (by decide) (by decide) ?_ (by decide) (by decide)
    rw [show (0 : Int32).toNatClampNeg = 0 from rfl, h.2.1 1588 (by decide) (nnin rfl) 0, Vt_of (show lc 1588 = (27, 0) by decide) (by decide)]; rfl
  rw [eaQ]
  simp only [Option.bind_some]
  refine e_rQ (p := 1582) (u := 1582) h (by decide) (by decide) ((v69 13).trans rfl) rfl (by decide) (by decide) ?_
  refine e_vb h (by decide) (by decide) ?_
  refine e_first h hA (fun g58 f5 f6 hB h => ?_)
  exact ev_ok ⟨f1, f2, f5, f6, hA, hB, h⟩
end YZL
