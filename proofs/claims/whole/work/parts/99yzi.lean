/-! AN ADDRESS OF THE CLASS is read, with its site: the base is not looked at -/
section YZI
variable {n : NS} {a T d l i to at' st b Tb : Int} {s t g sb tb : Int → Int} {X q mk nm bnm bq bmk : List Int} {K bss pre ss : List (List Int)}
theorem c_115x (hA : AC n a T) (hd : tx n d g l) (h1 : d ≠ a) (h2 : d ≠ T) (hi : 0 ≤ i ∧ i ≤ at' ∧ at' ≤ st ∧ st ≤ to ∧ to ≤ l ∧ to ≤ 20000) (h35 : st < to → g st = 63 ∨ g st = 35) (hs0 : s 0 = T) (hn : 1 ≤ nm.length ∧ nm.length ≤ 8) (e1 : s 1 = pk nm) (e2 : s 2 = 2 + (nm.length : Int)) (hX : sg t 0 ([47, 47] ++ nm).length = [47, 47] ++ nm) (hz : i ≠ st) (h47 : g i = 47) : ev (nk_Address_read_115 a d i to b st at' (aw n a T s t)) (RDQ n a T (RP1 g at' st to nm [])) := by
  have hne := hA.ne
  have hXl : (([47, 47] ++ nm : List Int).length : Int) = s 2 := by rw [List.length_append, e2]; show ((2 + nm.length : Nat) : Int) = _; omega
  unfold nk_Address_read_115
  rw [if_neg hz]
  refine ev_tyA hA (ev_st ?_)
  rw [aw_nw hne]
  refine ev_tyA hA (ev_st ?_)
  rw [aw_nw hne]
  refine ev_tyA hA (ev_st ?_)
  rw [aw_nw hne]
  generalize hs3 : udz (udz (udz s 5 160) 6 0) 7 0 = s3
  have u0 : s3 0 = T := by rw [← hs3, udz_n (by decide), udz_n (by decide), udz_n (by decide)]; exact hs0
  have u1 : s3 1 = pk nm := by rw [← hs3, udz_n (by decide), udz_n (by decide), udz_n (by decide)]; exact e1
  have u2 : s3 2 = 2 + (nm.length : Int) := by rw [← hs3, udz_n (by decide), udz_n (by decide), udz_n (by decide)]; exact e2
  have hS3 : SGS s3 t [] ((0 : Nat) : Int) := ⟨by rw [← hs3, udz_n (by decide), udz_e]; rfl, by rw [← hs3, udz_e]; rfl, by rw [← hs3, udz_n (by decide), udz_n (by decide), udz_e]; rfl, by decide, fun x hx => (by cases hx), rfl⟩
  have hT1 := c_takeSegs (K0 := []) (c0 := 0) (fr := at') (to := st) (en := st) hA hd h1 h2 (by omega) ⟨by omega, by omega, by omega⟩ (Int.le_refl _) hS3 (fun _ => ⟨rfl, rfl⟩) (by omega) u0
  rw [if_pos rfl] at hT1
  refine ev_tyA hA (ev_b2 hT1 (fun r n2 hr => ?_))
  obtain ⟨s4, t4, y1, y2, y3⟩ := hr
  simp only at y1 y3
  subst y1
  generalize hss : sgs g at' (st - at').toNat = ss at *
  have hssl : ss.length ≤ (st - at').toNat + 1 := by rw [← hss]; exact sgs_len
  have hpf : (pr 1 [] 0 ss).1 = ss.foldl psh [] ++ eL ss := by
    have := pr_fold (pre := []) (ss := ss)
    exact this
  have hpc : (pr 1 [] 0 ss).2 ≤ ss.length := by
    unfold pr
    have := tk_cntF ss (if (1 : Int) = 1 then (eL ss, 0) else ([], 0))
    rw [if_pos rfl] at this ⊢
    have this : (ss.foldr tk (eL ss, 0)).2 ≤ 0 + ss.length := this
    omega
  have hX4 : sg t4 0 ([47, 47] ++ nm).length = [47, 47] ++ nm := by
    refine Eq.trans (sg_cg _ _ 0 (fun x hx => y2.2 _ ?_)) hX
    rw [List.length_append] at hx
    have hx : x < 2 + nm.length := hx
    omega
  have v0 : s4 0 = T := by rw [y2.1.1]; exact u0
  have v1 : s4 1 = pk nm := by rw [y2.1.2.1]; exact u1
  have v2 : s4 2 = 2 + (nm.length : Int) := by rw [y2.1.2.2.1]; exact u2
  rcases y3 with ⟨z0, zb⟩ | ⟨z1, zr, zl, z6, zS⟩
  · rw [if_pos z0]
    refine ev_ok ⟨s4, t4, rfl, v0, .inl ⟨rfl, ?_⟩⟩
    exact RP1_no (fun hh => zb ⟨hh.1, by rw [hss] at hh; exact hh.2.1, by rw [hss] at hh; have := finP_ge (pre := []) (ss := ss); omega⟩)
  · rw [if_neg (by omega)]
    have ht := aw_tx (s := s4) (t := t4) hd h1 h2
    refine ev_tx ht ⟨hi.1, by omega⟩ (fun he => ?_)
    rw [he, if_pos h47]
    have hfin : (if (pr 1 [] 0 ss).1 = [] then [[]] else (pr 1 [] 0 ss).1) = finP [] ss := by rw [hpf]; rfl
    rw [RP1_yes ⟨zr, by rw [hss]; exact zl, by
      rw [hss, ← hfin]
      split
      · decide
      · exact z6⟩, hss, ← hfin]
    exact c_fin221 hA hd h1 h2 ⟨by omega, hi.2.2.1⟩ ⟨hi.2.2.2.1, hi.2.2.2.2.1, by omega⟩ v0 h35 zS (by omega) (fun hK => by
      have : ss = [] := fold_nil (pre := []) (by rw [hpf] at hK; exact hK)
      rw [this]; rfl) hn v1 v2 hX4
/-- the part of a REFERENCE with a site -/
noncomputable def RFs (g : Int → Int) (i to : Int) : Option (List Int × List (List Int) × List Int × List Int) := if i + 2 < sc (fun j => g j ≠ 47) (i + 2) (stpA g i to) ∧ nmC g (i + 2) (sc (fun j => g j ≠ 47) (i + 2) (stpA g i to)) = sc (fun j => g j ≠ 47) (i + 2) (stpA g i to) then RP1 g (sc (fun j => g j ≠ 47) (i + 2) (stpA g i to)) (stpA g i to) to (sg g (i + 2) (sc (fun j => g j ≠ 47) (i + 2) (stpA g i to) - i - 2).toNat) [] else none
theorem c_readX (hA : AC n a T) (hT : n 99 a 0 = T) (hd : tx n d g l) (h1 : d ≠ a) (h2 : d ≠ T) (hi : 0 ≤ i ∧ i ≤ to ∧ to ≤ l ∧ to ≤ 20000) (h47 : g i = 47) (h47' : g (i + 1) = 47) (hst : i + 2 ≤ stpA g i to) : ev (N_Address_read a d i to b n) (RDQ n a T (RFs g i to)) := by
  have hne := hA.ne
  obtain ⟨s, hs⟩ : ∃ s, s = n 99 a := ⟨_, rfl⟩
  obtain ⟨t, ht'⟩ : ∃ t, t = n 99 T := ⟨_, rfl⟩
  have hs0 : s 0 = T := by rw [hs]; exact hT
  have en : aw n a T s t = n := aw_id hs.symm ht'.symm
  rw [show N_Address_read a d i to b n = N_Address_read a d i to b (aw n a T s t) by rw [en]]
  have ht := aw_tx (s := s) (t := t) hd h1 h2
  unfold RFs
  have e0 : NL_Address_read_3 a d i to b i (aw n a T s t) = some (stpA g i to) := by
    unfold NL_Address_read_3 stpA
    refine ev_scan (fun x x1 x2 => ?_)
    unfold nb_Address_read_3
    refine ev_if (fun hl => ev_tx ht ⟨by omega, by omega⟩ (fun he => ?_)) (fun hl => ev_ok (.inr ⟨rfl, fun z => hl z.1⟩))
    rw [he]
    refine ev_if (fun z => ev_ok (.inr ⟨rfl, fun y => y.2.1 z⟩)) (fun z => ev_tx ht ⟨by omega, by omega⟩ (fun _ => ev_if (fun z' => ev_ok (.inr ⟨rfl, fun y => y.2.2 z'⟩)) (fun z' => ev_ck (by omega) (ev_ok (.inl ⟨rfl, hl, z, z'⟩)))))
  have y1 := scx_ge (p := fun j => g j ≠ 63 ∧ g j ≠ 35) i to
  have y2 := scx_le (p := fun j => g j ≠ 63 ∧ g j ≠ 35) hi.2.1
  have y3 : stpA g i to < to → g (stpA g i to) = 63 ∨ g (stpA g i to) = 35 := fun z => by
    have := scx_at (p := fun j => g j ≠ 63 ∧ g j ≠ 35) z
    by_cases z1 : g (stpA g i to) = 63
    · exact .inl z1
    · by_cases z2 : g (stpA g i to) = 35
      · exact .inr z2
      · exact absurd ⟨z1, z2⟩ this
  unfold N_Address_read
  rw [e0]
  simp only [Option.bind_some]
  have y1 : i ≤ stpA g i to := y1
  have y2 : stpA g i to ≤ to := y2
  generalize stpA g i to = st at *
  unfold nk_Address_read_33
  refine ev_bz (cs_stands ht okS2 (by omega) hi.1 (by omega) (by omega) (by decide)) (fun hp => ?_) (fun hp => absurd ⟨by omega, h47, by omega, h47', trivial⟩ hp)
  · obtain ⟨p1, p2, p3, p4, _⟩ := hp
    rw [if_neg (by decide)]
    have e1 : NL_Address_read_53 a d i to b st (i + 2) (aw n a T s t) = some (sc (fun j => g j ≠ 47) (i + 2) st) := by
      unfold NL_Address_read_53
      refine ev_scan (fun x x1 x2 => ?_)
      unfold nb_Address_read_53
      refine ev_if (fun hl => ev_tx ht ⟨by omega, by omega⟩ (fun he => ?_)) (fun hl => ev_ok (.inr ⟨rfl, fun z => hl z.1⟩))
      rw [he]
      exact ev_if (fun z => ev_ok (.inr ⟨rfl, fun y => y.2 z⟩)) (fun z => ev_ck (by omega) (ev_ok (.inl ⟨rfl, hl, z⟩)))
    refine ev_ck (by omega) ?_
    rw [e1]
    simp only [Option.bind_some]
    have q1 := scx_ge (p := fun j => g j ≠ 47) (i + 2) st
    have q2 := scx_le (p := fun j => g j ≠ 47) (i := i + 2) (to := st) (by omega)
    clear e1
    generalize sc (fun j => g j ≠ 47) (i + 2) st = AT at *
    unfold nk_Address_read_75 N_Bytes_isName
    refine ev_ck (by omega) ?_
    have hb := nmC_b (g := g) (i := i + 2) (to := AT) q1
    have bad : ¬ (i + 2 < AT ∧ nmC g (i + 2) AT = AT) → RDQ n a T (if i + 2 < AT ∧ nmC g (i + 2) AT = AT then RP1 g AT st to (sg g (i + 2) (AT - i - 2).toNat) [] else none) (0, aw n a T s t) := fun z => ⟨s, t, rfl, hs0, .inl ⟨rfl, by rw [if_neg z]⟩⟩
    by_cases z1 : i + 2 < AT
    · rw [if_pos z1, cs_nameEnd ht (by omega) (by omega) (by omega) (by omega)]
      simp only [Option.bind_some]
      by_cases z2 : nmC g (i + 2) AT = AT
      · rw [if_pos z2]
        simp only [Option.bind_some]
        rw [if_neg (show ¬ (1 : Int) = 0 by decide), if_pos ⟨z1, z2⟩]
        have hall : ∀ j, i + 2 ≤ j → j < AT → isNm (g j) := fun j ja jb => by
          unfold nmC at z2
          by_cases zz : i + 2 < AT ∧ isSm (g (i + 2))
          · rw [if_pos zz] at z2
            exact scx_in (p := fun j => isNm (g j)) (to := AT) ja (by omega)
          · rw [if_neg zz] at z2; omega
        refine ev_tyA hA (ev_bind (c_takeSite hA hd h1 h2 hi.1 ⟨by omega, by omega, by omega, by omega⟩ hs0 (fun j ja jb => by have := hall j ja jb; omega)) (fun n1 hn1 => ?_))
        obtain ⟨s1, t1, r1, r2, r3, r4, r5, r6⟩ := hn1
        subst r1
        have hl : (sg g (i + 2) (AT - i - 2).toNat).length = (AT - i - 2).toNat := sg_len _ _ _
        refine c_115x (at' := AT) hA hd h1 h2 ⟨hi.1, by omega, q2, y2, hi.2.2.1, hi.2.2.2⟩ y3 (by rw [r4 0 (by decide) (by decide)]; exact hs0) (by rw [hl]; omega) r2 (by rw [r3, hl]; omega) ?_ (by omega) p2
        rw [List.length_append, hl, sg_app]
        congr 1
        · show [t1 0, t1 (0 + 1)] = [47, 47]
          rw [r5 0 (by omega) (by omega), r5 (0 + 1) (by omega) (by omega), show i + 0 = i by omega, show i + (0 + 1) = i + 1 by omega, p2, p4]
        · exact sg_cg _ _ _ (fun x hx => by
            show t1 (0 + ((2 : Nat) : Int) + x) = _
            rw [r5 _ (by omega) (by omega)]; congr 1; omega)
      · rw [if_neg z2]
        exact ev_ok (bad (fun z => z2 z.2))
    · rw [if_neg z1]
      exact ev_ok (bad (fun z => z1 z.1))
theorem c_copyX (hAa : AC n a (n 99 a 0)) (hAb : AC n b (n 99 b 0)) (hTT : n 99 b 0 ≠ n 99 a 0) (hne : a ≠ b) (hC : CA n b nm ss q mk) (hW : WFA nm ss q mk) : ev (N_Address_copy a b n) (fun n' => ∃ s t, s 0 = n 99 a 0 ∧ n' = aw n a (n 99 a 0) s t ∧ CAs s t nm ss q mk) := by
  have haT := hAa.ne
  have hbT : b ≠ n 99 a 0 := fun z => by have h1 := hAb.2.1; rw [z, hAa.2.2.2.1] at h1; exact absurd h1 (by decide)
  have hTa : n 99 b 0 ≠ a := fun z => by have h1 := hAb.2.2.2.1; rw [z, hAa.2.1] at h1; exact absurd h1 (by decide)
  obtain ⟨c1, c2, c3, c4, c5, c6⟩ := hC
  have hsz := hW.sz
  have hl5 : n 99 b 5 = ((adL nm ss q ++ mkL mk).length : Int) := by
    rw [List.length_append]
    have := adL_len (nm := nm) (ss := ss) (q := q)
    omega
  have hl6 : (adL nm ss q ++ mkL mk).length ≤ 138 := by rw [List.length_append]; omega
  suffices key : ev (N_Address_copy a b (aw n a (n 99 a 0) (n 99 a) (n 99 (n 99 a 0)))) (fun n' => ∃ s t, s 0 = n 99 a 0 ∧ n' = aw n a (n 99 a 0) s t ∧ CAs s t nm ss q mk) by
    rw [aw_id rfl rfl] at key; exact key
  unfold N_Address_copy
  have rb : ∀ {s' t' : Int → Int}, aw n a (n 99 a 0) s' t' 99 b = n 99 b := fun {s' t'} => aw_q (Ne.symm hne) hbT
  have rT : ∀ {s' t' : Int → Int}, aw n a (n 99 a 0) s' t' 99 (n 99 b 0) = n 99 (n 99 b 0) := fun {s' t'} => aw_q hTa hTT
  have tyb : ∀ {α : Type} {Q : α → Prop} {x : Option α} {s' t' : Int → Int}, ev x Q → ev (ty (aw n a (n 99 a 0) s' t') b 101 x) Q := fun {α Q x s' t'} z => ev_ty (by rw [aw_K (by decide)]; exact hAb.2.1) z
  refine tyb ?_
  rw [rb]
  refine ev_nn hAb.2.2.1.1 (ev_tyA hAa ?_)
  rw [aw_a haT]
  refine ev_nn hAa.2.2.1.1 (tyb (ev_g ⟨by rw [aw_K (by decide)]; exact hAb.2.2.2.1, by rw [aw_K (by decide)]; exact hAa.2.2.2.1, by omega, by rw [aw_K (by decide), hAb.2.2.2.2]; omega, by rw [aw_K (by decide), hAa.2.2.2.2]; omega⟩ (ev_st ?_)))
  rw [aw_T, rT, aw_nT]
  refine tyb (ev_tyA hAa (ev_st ?_))
  rw [rb, aw_nw haT]
  refine tyb (ev_tyA hAa (ev_st ?_))
  rw [rb, aw_nw haT]
  refine tyb (ev_tyA hAa (ev_st ?_))
  rw [rb, aw_nw haT]
  refine tyb (ev_tyA hAa (ev_st ?_))
  rw [rb, aw_nw haT]
  refine tyb (ev_tyA hAa (ev_st ?_))
  rw [rb, aw_nw haT]
  refine ev_ok ⟨_, _, ?_, rfl, ?_, ?_, ?_, ?_, ?_, ?_⟩
  · rw [udz_n (by decide), udz_n (by decide), udz_n (by decide), udz_n (by decide), udz_n (by decide)]
  · rw [udz_n (by decide), udz_n (by decide), udz_n (by decide), udz_n (by decide), udz_e]; exact c1
  · rw [udz_n (by decide), udz_n (by decide), udz_n (by decide), udz_e]; exact c2
  · rw [udz_n (by decide), udz_n (by decide), udz_e]; exact c3
  · rw [udz_n (by decide), udz_e, udz_n (by decide), udz_n (by decide), udz_e]; exact c4
  · rw [udz_e, udz_n (by decide), udz_e]; exact c5
  · refine Eq.trans (sg_cg _ _ 0 (fun x hx => ?_)) c6
    unfold cpf
    rw [if_pos (by omega)]; congr 1; omega
end YZI
