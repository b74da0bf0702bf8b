/-! AN ADDRESS OF THE CLASS is read: the whole call -/
section E7
variable {n : NS} {a T d l i to at' st b Tb : Int} {s t g sb tb : Int → Int} {X q mk nm bnm bq bmk : List Int} {K bss pre ss : List (List Int)}
theorem CAs.split (h : CAs s t nm ss q mk) : sg t 0 ([47, 47] ++ nm).length = [47, 47] ++ nm ∧ sg t (s 2) (pth ss).length = pth ss ∧ sg t (s 3) q.length = q := by
  obtain ⟨c1, c2, c3, c4, c5, c6⟩ := h
  have ea : adL nm ss q ++ mkL mk = ([47, 47] ++ nm) ++ (pth ss ++ (q ++ mkL mk)) := by unfold adL; simp only [List.append_assoc]
  have eb : adL nm ss q ++ mkL mk = (([47, 47] ++ nm) ++ pth ss) ++ (q ++ mkL mk) := by unfold adL; simp only [List.append_assoc]
  have hl : ((([47, 47] ++ nm : List Int).length : Nat) : Int) = s 2 := by rw [List.length_append, c2]; show ((2 + nm.length : Nat) : Int) = _; omega
  refine ⟨?_, ?_, ?_⟩
  · rw [ea] at c6; exact sg_pre c6
  · rw [ea] at c6
    have := sg_mid c6
    rw [show (0 : Int) + ((([47, 47] ++ nm : List Int).length : Nat) : Int) = s 2 by omega] at this
    exact this
  · rw [eb] at c6
    have := sg_mid c6
    rw [show (0 : Int) + (((([47, 47] ++ nm) ++ pth ss : List Int).length : Nat) : Int) = s 3 by rw [List.length_append]; omega] at this
    exact this
theorem finP_ge : (pr 1 [] 0 ss).1.length ≤ (finP pre ss).length := by
  have h1 := tk_len pre (pr 1 [] 0 ss)
  rw [pr_fold] at h1
  unfold finP
  split
  · rename_i h; rw [h] at h1
    have h1 : (pr 1 [] 0 ss).1.length ≤ 0 := h1
    omega
  · exact h1
theorem RP1_no {i : Int} (h : ¬ (rgn g i st ∧ (∀ x ∈ sgs g i (st - i).toNat, ¬ wnt x → x.length ≤ 12) ∧ (finP pre (sgs g i (st - i).toNat)).length ≤ 6)) : RP1 g i st to nm pre = none := by unfold RP1; rw [if_neg h]
theorem RP1_yes {i : Int} (h : rgn g i st ∧ (∀ x ∈ sgs g i (st - i).toNat, ¬ wnt x → x.length ≤ 12) ∧ (finP pre (sgs g i (st - i).toNat)).length ≤ 6) : RP1 g i st to nm pre = (RTl g st to []).map (fun r => (nm, finP pre (sgs g i (st - i).toNat), r.1, r.2)) := by unfold RP1; rw [if_pos h]
theorem c_115 (hA : AC n a T) (hd : tx n d g l) (h1 : d ≠ a) (h2 : d ≠ T) (hB : BS n a T b Tb sb tb bnm bss bq bmk) (hi : 0 ≤ i ∧ i ≤ at' ∧ at' ≤ st ∧ st ≤ to ∧ to ≤ l ∧ to ≤ 20000) (h35 : st < to → g st = 63 ∨ g st = 35) (hs0 : s 0 = T) (hn : 1 ≤ nm.length ∧ nm.length ≤ 8) (e1 : s 1 = pk nm) (e2 : s 2 = 2 + (nm.length : Int)) (hX : sg t 0 ([47, 47] ++ nm).length = [47, 47] ++ nm) {R : Option (List Int × List (List Int) × List Int × List Int)}
    (r1 : i = st → R = (RTl g st to bq).map (fun r => (nm, bss, r.1, r.2))) (r2 : i ≠ st → g i = 47 → R = RP1 g at' st to nm []) (r3 : i ≠ st → g i ≠ 47 → at' = i ∧ R = RP1 g i st to nm bss.dropLast) : ev (nk_Address_read_115 a d i to b st at' (aw n a T s t)) (RDQ n a T R) := by
  have hne := hA.ne
  have hB' := hB
  obtain ⟨hAb, ⟨b2, b3, b4, b5⟩, b7, b12, b8, hC, hW⟩ := hB
  obtain ⟨sp1, sp2, sp3⟩ := hC.split
  obtain ⟨c1, c2, c3, c4, c5, c6⟩ := hC
  obtain ⟨w1, ⟨w2, w3, w4⟩, w5, w6⟩ := hW
  have tyb : ∀ {α : Type} {Q : α → Prop} {x : Option α} {s t : Int → Int}, ev x Q → ev (ty (aw n a T s t) b 101 x) Q := fun {α Q x s t} z => ev_ty (by rw [aw_K (by decide)]; exact hAb.2.1) z
  have rb : ∀ {s t : Int → Int}, aw n a T s t 99 b = sb := fun {s t} => by rw [aw_q b2 b3]; exact b7
  have rT : ∀ {s t : Int → Int}, aw n a T s t 99 Tb = tb := fun {s t} => by rw [aw_q b4 b5]; exact b12
  have hpl := pth_len bss (fun x hx => (w4 x hx).1)
  have hXl : (([47, 47] ++ nm : List Int).length : Int) = s 2 := by rw [List.length_append, e2]; show ((2 + nm.length : Nat) : Int) = _; omega
  unfold nk_Address_read_115
  refine ev_if (fun hz => ?_) (fun hz => ?_)
  · refine tyb ?_
    rw [rb, b8]
    refine ev_nn hAb.2.2.1.1 (tyb (tyb (ev_tyA hA (ev_bind (c_takePath hA b4 hAb.2.2.2.1 ⟨by omega, by omega, by rw [hAb.2.2.2.2]; omega, by omega⟩ hs0 ⟨by omega, by omega⟩) (fun n1 hn1 => ?_)))))
    obtain ⟨s1, t1, p1, p2, p3, p4, p5, p6⟩ := hn1
    subst p1
    rw [rT] at p5
    have hX1 : sg t1 0 (([47, 47] ++ nm) ++ pth bss).length = ([47, 47] ++ nm) ++ pth bss := by
      refine sg_ext hXl.symm hX (fun j j0 j1 => p6 j j1) ?_
      exact Eq.trans (sg_cg _ _ (sb 2) (fun x hx => p5 x (by omega) (by omega))) sp2
    refine ev_tyA hA (ev_b2 (c_tail (X := ([47, 47] ++ nm) ++ pth bss) (bq := bq) (b := b) (Tb := Tb) (sb := sb) (tb := tb) hA hd h1 h2 (by omega) ⟨by omega, by omega, by omega⟩ (by rw [p4 0 (by decide) (by decide)]; exact hs0) h35 (by rw [p3, List.length_append]; omega) (by rw [p3]; omega) hX1 (.inr ⟨hAb.1.1, b2, b3, b4, b5, hAb.2.1, b7, b8, hAb.2.2.1.1, hAb.2.2.2.1, hAb.2.2.2.2, b12, by omega, by omega, by omega, w5.1, sp3⟩)) (fun r n2 hr => ev_ok ?_))
    rw [r1 hz]
    obtain ⟨s2, t2, y1, y2, y3⟩ := hr
    refine ⟨s2, t2, y1, y2, ?_⟩
    rcases y3 with ⟨z1, z2⟩ | ⟨z1, q, mk, z2, z3, z4, z5, z6, z7, z8, z9⟩
    · exact .inl ⟨z1, by rw [z2]; rfl⟩
    · refine .inr ⟨z1, nm, bss, q, mk, by rw [z2]; rfl, ⟨?_, ?_, ?_, ?_, ?_, ?_⟩, z4, z5, z3⟩
      · rw [z8 1 (by decide) (by decide), p4 1 (by decide) (by decide)]; exact e1
      · rw [z8 2 (by decide) (by decide), p4 2 (by decide) (by decide)]; exact e2
      · rw [z8 3 (by decide) (by decide), p2, e2]; omega
      · rw [z8 3 (by decide) (by decide), p2, z6, p3]
      · rw [z7, z6]
      · have ea : adL nm bss q ++ mkL mk = ([47, 47] ++ nm) ++ pth bss ++ (q ++ mkL mk) := by unfold adL; simp only [List.append_assoc]
        rw [ea]; exact z9
  · refine ev_tyA hA (ev_st ?_)
    rw [aw_nw hne]
    refine ev_tyA hA (ev_st ?_)
    rw [aw_nw hne]
    refine ev_tyA hA (ev_st ?_)
    rw [aw_nw hne]
    generalize hs3 : udz (udz (udz s 5 160) 6 0) 7 0 = s3
    have u0 : s3 0 = T := by rw [← hs3, udz_n (by decide), udz_n (by decide), udz_n (by decide)]; exact hs0
    have u1 : s3 1 = pk nm := by rw [← hs3, udz_n (by decide), udz_n (by decide), udz_n (by decide)]; exact e1
    have u2 : s3 2 = 2 + (nm.length : Int) := by rw [← hs3, udz_n (by decide), udz_n (by decide), udz_n (by decide)]; exact e2
    have hS3 : SGS s3 t [] ((0 : Nat) : Int) := ⟨by rw [← hs3, udz_n (by decide), udz_e]; rfl, by rw [← hs3, udz_e]; rfl, by rw [← hs3, udz_n (by decide), udz_n (by decide), udz_e]; rfl, by decide, fun x hx => (by cases hx), rfl⟩
    have hT1 := c_takeSegs (K0 := []) (c0 := 0) (fr := at') (to := st) (en := st) hA hd h1 h2 (by omega) ⟨by omega, by omega, by omega⟩ (Int.le_refl _) hS3 (fun _ => ⟨rfl, rfl⟩) (by omega) u0
    rw [if_pos rfl] at hT1
    refine ev_tyA hA (ev_b2 hT1 (fun r n2 hr => ?_))
    obtain ⟨s4, t4, y1, y2, y3⟩ := hr
    simp only at y1 y3
    subst y1
    generalize hss : sgs g at' (st - at').toNat = ss at *
    have hssl : ss.length ≤ (st - at').toNat + 1 := by rw [← hss]; exact sgs_len
    have hpf : (pr 1 [] 0 ss).1 = ss.foldl psh [] ++ eL ss := by
      have := pr_fold (pre := []) (ss := ss)
      exact this
    have hpc : (pr 1 [] 0 ss).2 ≤ ss.length := by
      unfold pr
      have := tk_cntF ss (if (1 : Int) = 1 then (eL ss, 0) else ([], 0))
      rw [if_pos rfl] at this ⊢
      have this : (ss.foldr tk (eL ss, 0)).2 ≤ 0 + ss.length := this
      omega
    have hX4 : sg t4 0 ([47, 47] ++ nm).length = [47, 47] ++ nm := by
      refine Eq.trans (sg_cg _ _ 0 (fun x hx => y2.2 _ ?_)) hX
      rw [List.length_append] at hx
      have hx : x < 2 + nm.length := hx
      omega
    have v0 : s4 0 = T := by rw [y2.1.1]; exact u0
    have v1 : s4 1 = pk nm := by rw [y2.1.2.1]; exact u1
    have v2 : s4 2 = 2 + (nm.length : Int) := by rw [y2.1.2.2.1]; exact u2
    rcases y3 with ⟨z0, zb⟩ | ⟨z1, zr, zl, z6, zS⟩
    · rw [if_pos z0]
      refine ev_ok ⟨s4, t4, rfl, v0, .inl ⟨rfl, ?_⟩⟩
      by_cases h47 : g i = 47
      · rw [r2 hz h47]
        exact RP1_no (fun hh => zb ⟨hh.1, by rw [hss] at hh; exact hh.2.1, by rw [hss] at hh; have := finP_ge (pre := []) (ss := ss); omega⟩)
      · obtain ⟨e, hR⟩ := r3 hz h47
        subst e
        rw [hR]
        exact RP1_no (fun hh => zb ⟨hh.1, by rw [hss] at hh; exact hh.2.1, by rw [hss] at hh; have := finP_ge (pre := bss.dropLast) (ss := ss); omega⟩)
    · rw [if_neg (by omega)]
      have ht := aw_tx (s := s4) (t := t4) hd h1 h2
      refine ev_tx ht ⟨hi.1, by omega⟩ (fun he => ?_)
      rw [he]
      refine ev_if (fun h47 => ?_) (fun h47 => ?_)
      · rw [r2 hz h47]
        have hfin : (if (pr 1 [] 0 ss).1 = [] then [[]] else (pr 1 [] 0 ss).1) = finP [] ss := by rw [hpf]; rfl
        rw [RP1_yes ⟨zr, by rw [hss]; exact zl, by
          rw [hss, ← hfin]
          split
          · decide
          · exact z6⟩, hss, ← hfin]
        exact c_fin221 hA hd h1 h2 ⟨by omega, hi.2.2.1⟩ ⟨hi.2.2.2.1, hi.2.2.2.2.1, by omega⟩ v0 h35 zS (by omega) (fun hK => by
          have : ss = [] := fold_nil (pre := []) (by rw [hpf] at hK; exact hK)
          rw [this]; rfl) hn v1 v2 hX4
      · obtain ⟨e, hR⟩ := r3 hz h47
        subst e
        have hsn : ss ≠ [] := fun z => by
          rw [z] at hss
          obtain ⟨k, hk⟩ : ∃ k, (st - at').toNat = k + 1 := ⟨(st - at').toNat - 1, by omega⟩
          obtain ⟨h', t', ht'⟩ := spl_ne g k (at' + 1)
          unfold sgs at hss
          rw [hk, spl_no h47 ht'] at hss
          cases hss
        refine tyb ?_
        rw [rb, b8]
        refine ev_nn hAb.2.2.1.1 (tyb (tyb ?_))
        rw [c_lastSlash hB']
        simp only [Option.bind_some]
        refine tyb (ev_tyA hA ?_)
        have es : bss = bss.dropLast ++ [bss.getLast w2] := (List.dropLast_concat_getLast w2).symm
        generalize hD : bss.dropLast = D at *
        have hDm : ∀ x ∈ D, x ∈ bss := fun x hx => by rw [es]; exact List.mem_append_left _ hx
        have hDp : pth bss = pth D ++ pth [bss.getLast w2] := by
          have := pth_app D [bss.getLast w2]
          rw [← es] at this; exact this
        have hDl : (pth D).length < (pth bss).length := by
          rw [hDp, List.length_append]
          show (pth D).length < (pth D).length + ((47 :: bss.getLast w2) ++ []).length
          rw [List.append_nil, List.length_cons]; omega
        have hDg : sg tb (sb 2) (pth D).length = pth D := by
          rw [hDp] at sp2; exact sg_pre sp2
        have htb : tx n Tb tb 160 := ⟨hAb.2.2.2.1, by rw [hAb.2.2.2.2]; exact Int.le_refl _, fun j _ _ => by rw [b12]⟩
        have hT2 := c_takeSegs (K0 := (pr 1 [] 0 ss).1) (c0 := (pr 1 [] 0 ss).2) (fr := sb 2) (to := sb 2 + ((pth D).length : Int)) (en := sb 3) hA htb b4 b5 (by omega) ⟨by omega, by omega, by omega⟩ (by omega) zS (fun z => by omega) (by omega) v0
        rw [if_neg (show ¬ sb 3 = sb 2 + ((pth D).length : Int) by omega)] at hT2
        unfold TGQ at hT2
        rw [show (sb 2 + ((pth D).length : Int) - sb 2).toNat = (pth D).length by omega, sgs_pth (fun x hx c hc => by have := (w4 x (hDm x hx)).2.2 c hc; omega) hDg] at hT2
        have hpD : (pr 0 (pr 1 [] 0 ss).1 (pr 1 [] 0 ss).2 D).1 = (D ++ ss).foldl psh [] ++ eL ss := by
          rw [← pr_fold]; unfold pr; rw [if_neg (show ¬ (0 : Int) = 1 by decide)]
        have hrg : rgn tb (sb 2) (sb 2 + ((pth D).length : Int)) := fun j ja jb => by
          have hm := sg_at (g := tb) (pth D).length (sb 2) (j - sb 2).toNat (by omega)
          rw [show sb 2 + (((j - sb 2).toNat : Nat) : Int) = j by omega, hDg] at hm
          obtain ⟨x, x1, x2⟩ := List.mem_flatMap.mp hm
          rcases List.mem_cons.mp x2 with z | z
          · exact .inr z
          · exact .inl ((w4 x (hDm x x1)).2.2 _ z)
        have hfne : (D ++ ss).foldl psh [] ++ eL ss ≠ [] := fun z => hsn (fold_nil z)
        have hfin : finP D ss = (D ++ ss).foldl psh [] ++ eL ss := by unfold finP; rw [if_neg hfne]
        refine ev_b2 hT2 (fun r n3 hr => ?_)
        obtain ⟨s5, t5, x1, x2, x3⟩ := hr
        simp only at x1 x3
        subst x1
        have hX5 : sg t5 0 ([47, 47] ++ nm).length = [47, 47] ++ nm := by
          refine Eq.trans (sg_cg _ _ 0 (fun x hx => x2.2 _ ?_)) hX4
          rw [List.length_append] at hx
          have hx : x < 2 + nm.length := hx
          omega
        rcases x3 with ⟨z0, zb⟩ | ⟨_, _, _, z6', zS'⟩
        · rw [if_pos z0]
          refine ev_ok ⟨s5, t5, rfl, by rw [x2.1.1]; exact v0, .inl ⟨rfl, ?_⟩⟩
          rw [hR]
          exact RP1_no (fun hh => zb ⟨hrg, fun x hx _ => (w4 x (hDm x hx)).1, by rw [hss, hfin] at hh; rw [hpD]; exact hh.2.2⟩)
        · rw [if_neg (by omega), hR, RP1_yes ⟨zr, by rw [hss]; exact zl, by rw [hss, hfin, ← hpD]; exact z6'⟩, hss]
          have hK : (if (pr 0 (pr 1 [] 0 ss).1 (pr 1 [] 0 ss).2 D).1 = [] then [[]] else (pr 0 (pr 1 [] 0 ss).1 (pr 1 [] 0 ss).2 D).1) = finP D ss := by
            rw [hpD, if_neg hfne, hfin]
          rw [← hK]
          refine c_fin221 hA hd h1 h2 ⟨by omega, hi.2.2.1⟩ ⟨hi.2.2.2.1, hi.2.2.2.2.1, by omega⟩ (by rw [x2.1.1]; exact v0) h35 zS' ?_ (fun z => absurd (hpD ▸ z) hfne) hn (by rw [x2.1.2.1]; exact v1) (by rw [x2.1.2.2.1]; exact v2) hX5
          have y := tk_cntF D ((pr 1 [] 0 ss).1, (pr 1 [] 0 ss).2)
          have hDlen : D.length ≤ bss.length := by rw [es, List.length_append]; omega
          have y : (pr 0 (pr 1 [] 0 ss).1 (pr 1 [] 0 ss).2 D).2 ≤ (pr 1 [] 0 ss).2 + D.length := by
            unfold pr at y ⊢; rw [if_neg (show ¬ (0 : Int) = 1 by decide)]; exact y
          omega
end E7
