/-! COOKIES ARE TOLD: the class -/
section J3
variable {n n' : NS} {m m' : YS} {A B k i x v1 v2 : Int} {s w v q mk l : List Int} {ss : List (List Int)} {As : Int → Prop}
theorem lim_607 : lim 607 = 2000 := by decide
/-- a short text is not cut -/
theorem AP.nocut {b : Int} (h : AP A B b n n' l) (hl : (bt n b ++ l).length ≤ (lim b).toNat) : bt n' b = bt n b ++ l := by rw [h.2.2, List.take_of_length_le hl]
theorem c_list55 (hB : BI A B n) (h : TRs 25 31 32 33 34 n m k) (hk : 0 ≤ v1 ∧ v1 < k) (hl : (bt n 607).length ≤ 1000) : ev (nk_Net_listCookies_55 v1 n) (fun x => ∃ n', x = .inl (v1 + 1, n') ∧ BI A B n' ∧ FB (fun x => x = 607) n n' ∧ bt n' 607 = bt n 607 ++ (tbM 31 33 m v1 ++ ([61] ++ tbV 31 34 m v1))) := by
  obtain ⟨_, ⟨q1, q2, q3⟩, e1, e2, e3⟩ := h.2.2 v1 hk.1 hk.2
  have hk2 := h.2.1
  have a2 := q2.2.1
  have a3 := q3.2.1
  have hlim : (lim 607).toNat = 2000 := by decide
  unfold nk_Net_listCookies_55
  refine ev_ck (by omega) (ev_ck (by omega) (ev_ix (by omega) ?_))
  rw [e2]
  refine ev_bind (cs_addPacked (b := 607) (by omega) hB q2.bt q2.2.1) (fun n1 h1 => ?_)
  have c1 := h1.nocut (by rw [hlim, List.length_append]; omega)
  refine ev_bind (cs_add (b := 607) (c := 61) (by omega) h1.1) (fun n2 h2 => ?_)
  have c2 : bt n2 607 = bt n1 607 ++ [61] := by
    rw [h2.2.2, show Int.bmod 61 256 = 61 by decide, List.take_of_length_le (by rw [hlim, c1, List.length_append, List.length_append, List.length_singleton]; omega)]
  refine ev_ck (by omega) (ev_ck (by omega) (ev_ix (by omega) ?_))
  have f2 := h1.2.1.trans h2.2.1
  rw [f2.1 25 (by decide) (by decide) (by decide) (by decide) (by decide) (by decide), e3]
  refine ev_bind (cs_addPacked (b := 607) (by omega) h2.1 q3.bt q3.2.1) (fun n3 h3 => ?_)
  have c3 := h3.nocut (by rw [hlim, c2, c1, List.length_append, List.length_append, List.length_append, List.length_singleton]; omega)
  refine ev_ck (by omega) (ev_ok ⟨n3, rfl, h3.1, f2.trans h3.2.1, ?_⟩)
  rw [c3, c2, c1, List.append_assoc, List.append_assoc]
theorem c_listC (hB : BI A B n) (h : TRs 25 31 32 33 34 n m k) (hk : n 6 0 6 = k) (hA : AdS n As) (h86 : As 1586) (hC : CA n 1586 s ss q mk) (hW : WFA s ss q mk) : ev (N_Net_listCookies n) (fun n' => BI A B n' ∧ FB (fun x => x = 607) n n' ∧ bt n' 607 = ckA m s k.toNat) := by
  have hs := hW.nm
  have hk2 := h.2.1
  have hk0 := h.1
  have hAC := (hA 1586 h86).1
  unfold N_Net_listCookies
  refine ev_bind (cs_clear (b := 607) (by omega) hB) (fun n1 h1 => ?_)
  rw [bind_id]
  unfold NL_Net_listCookies_9
  have hlim : (lim 607).toNat = 2000 := by decide
  refine ev_it (fun t : Int × NS => (0 ≤ t.1 ∧ t.1 ≤ k) ∧ BI A B t.2 ∧ FB (fun x => x = 607) n t.2 ∧ bt t.2 607 = ckA m s t.1.toNat) (fun t => k - t.1) (fun t ht => ?_) ⟨⟨Int.le_refl _, hk0⟩, h1.1, h1.2.1, h1.2.2⟩
  obtain ⟨c, n2⟩ := t
  obtain ⟨g1, g2, g3, g4⟩ := ht
  simp only at g1 g2 g3 g4
  show ev (nb_Net_listCookies_9 c n2) _
  have hlen := (ckA_len (s := s) h c.toNat (by omega)).1
  have e6 := g3.1 6 (by decide) (by decide) (by decide) (by decide) (by decide) (by decide)
  have e25 := g3.1 25 (by decide) (by decide) (by decide) (by decide) (by decide) (by decide)
  have e92 := (g3.2.2.2.1 1586 hAC.1.2).1
  have e99 : n2 99 1586 = n 99 1586 := g3.2.2.2.2.1 1586 hAC.1.2 (fun b hb z => by
    subst hb
    exact hA.nb hB h86 (b := 607) (by omega) z.symm)
  have esite : n2 99 1586 1 = pk s := by rw [e99]; exact hC.1
  unfold nb_Net_listCookies_9
  rw [e6, hk, e25, esite]
  refine ev_if (fun hlt => ?_) (fun hge => ev_inr ⟨g2, g3, by rw [g4, show c = k by omega]⟩)
  obtain ⟨_, ⟨q1, q2, q3⟩, e1, e2, e3⟩ := h.2.2 c g1.1 hlt
  have eS : ckA m s (c + 1).toNat = if tbS 31 32 m c = s then (if ckA m s c.toNat = [] then [] else ckA m s c.toNat ++ [59]) ++ (tbM 31 33 m c ++ ([61] ++ tbV 31 34 m c)) else ckA m s c.toNat := by
    rw [show (c + 1).toNat = c.toNat + 1 by omega]
    show (if tbS 31 32 m (c.toNat : Int) = s then (if ckA m s c.toNat = [] then [] else ckA m s c.toNat ++ [59]) ++ (tbM 31 33 m (c.toNat : Int) ++ ([61] ++ tbV 31 34 m (c.toNat : Int))) else ckA m s c.toNat) = _
    rw [show ((c.toNat : Nat) : Int) = c by omega]
  refine ev_ck (by omega) (ev_ix (by omega) (ev_ty (by rw [e92]; exact hAC.2.1) ?_))
  rw [e1]
  refine ev_if (fun he => ?_) (fun hne => ?_)
  · have hp : tbS 31 32 m c = s := pkq_inj q1.bt hs.bt he
    rw [if_pos hp] at eS
    have fin : ∀ n3, BI A B n3 → FB (fun x => x = 607) n n3 → bt n3 607 = (if ckA m s c.toNat = [] then [] else ckA m s c.toNat ++ [59]) → ev (nk_Net_listCookies_55 c n3) (lp (fun t : Int × NS => (0 ≤ t.1 ∧ t.1 ≤ k) ∧ BI A B t.2 ∧ FB (fun x => x = 607) n t.2 ∧ bt t.2 607 = ckA m s t.1.toNat) (fun t => k - t.1) (c, n2) (fun n' => BI A B n' ∧ FB (fun x => x = 607) n n' ∧ bt n' 607 = ckA m s k.toNat)) := fun n3 x1 x2 x3 => by
      have hT3 : TRs 25 31 32 33 34 n3 m k := h.cg (by rw [x2.1 25 (by decide) (by decide) (by decide) (by decide) (by decide) (by decide)]) rfl rfl rfl rfl
      obtain ⟨r, er, n4, rfl, y1, y2, y3⟩ := c_list55 (v1 := c) x1 hT3 ⟨g1.1, hlt⟩ (by
        rw [x3]
        split
        · exact Nat.zero_le _
        · rw [List.length_append, List.length_singleton]; omega)
      rw [er]
      refine ev_inl ⟨⟨by show 0 ≤ c + 1 ∧ c + 1 ≤ k; omega, y1, x2.trans y2, ?_⟩, by show k - (c + 1) < k - c; omega, by show 0 ≤ k - c; omega⟩
      show bt n4 607 = ckA m s (c + 1).toNat
      rw [eS, y3, x3]
    have hsz := bt_len (b := 607) (by omega) g2
    rw [g4] at hsz
    refine ev_if (fun hpos => ?_) (fun hz => ?_)
    · refine ev_bind (cs_add (b := 607) (c := 59) (by omega) g2) (fun n3 h3 => ?_)
      refine fin n3 h3.1 (g3.trans h3.2.1) ?_
      rw [h3.2.2, show Int.bmod 59 256 = 59 by decide, g4, List.take_of_length_le (by rw [hlim, List.length_append, List.length_singleton]; omega), if_neg (fun z => by rw [z] at hsz; have : (0 : Int) = n2 4 607 2 := hsz; omega)]
    · have hb := (g2.1 607 (by omega) (by omega)).2.2.2.1
      have h0 : ckA m s c.toNat = [] := by
        apply List.length_eq_zero_iff.mp; omega
      refine fin n2 g2 g3 ?_
      rw [g4, h0, if_pos rfl]
  · have hne' : tbS 31 32 m c ≠ s := fun z => hne (by rw [z])
    refine ev_ck (by omega) (ev_inl ⟨⟨by show 0 ≤ c + 1 ∧ c + 1 ≤ k; omega, g2, g3, ?_⟩, by show k - (c + 1) < k - c; omega, by show 0 ≤ k - c; omega⟩)
    show bt n2 607 = ckA m s (c + 1).toNat
    rw [eS, if_neg hne']; exact g4
end J3
