/-! AN ADDRESS OF THE CLASS is read: the call -/
section E8
variable {n : NS} {a T d l i to b Tb : Int} {s t g sb tb : Int → Int} {bnm bq bmk : List Int} {bss : List (List Int)}
theorem c_readA (hA : AC n a T) (hd : tx n d g l) (h1 : d ≠ a) (h2 : d ≠ T) (hB : BS n a T b Tb sb tb bnm bss bq bmk) (hi : 0 ≤ i ∧ i ≤ to ∧ to ≤ l ∧ to ≤ 20000) (hs0 : s 0 = T) : ev (N_Address_read a d i to b (aw n a T s t)) (RDQ n a T (RF g i to bnm bss bq)) := by
  have hne := hA.ne
  have ht := aw_tx (s := s) (t := t) hd h1 h2
  have hB' := hB
  obtain ⟨hAb, ⟨b2, b3, b4, b5⟩, b7, b12, b8, hC, hW⟩ := hB
  obtain ⟨sp1, sp2, sp3⟩ := hC.split
  obtain ⟨c1, c2, c3, c4, c5, c6⟩ := hC
  obtain ⟨⟨w1, w1', w1''⟩, ⟨w2, w3, w4⟩, w5, w6⟩ := hW
  have tyb : ∀ {α : Type} {Q : α → Prop} {x : Option α} {s t : Int → Int}, ev x Q → ev (ty (aw n a T s t) b 101 x) Q := fun {α Q x s t} z => ev_ty (by rw [aw_K (by decide)]; exact hAb.2.1) z
  have rb : aw n a T s t 99 b = sb := by rw [aw_q b2 b3]; exact b7
  have e0 : NL_Address_read_3 a d i to b i (aw n a T s t) = some (stpA g i to) := by
    unfold NL_Address_read_3 stpA
    refine ev_scan (fun x x1 x2 => ?_)
    unfold nb_Address_read_3
    refine ev_if (fun hl => ev_tx ht ⟨by omega, by omega⟩ (fun he => ?_)) (fun hl => ev_ok (.inr ⟨rfl, fun z => hl z.1⟩))
    rw [he]
    refine ev_if (fun z => ev_ok (.inr ⟨rfl, fun y => y.2.1 z⟩)) (fun z => ev_tx ht ⟨by omega, by omega⟩ (fun _ => ev_if (fun z' => ev_ok (.inr ⟨rfl, fun y => y.2.2 z'⟩)) (fun z' => ev_ck (by omega) (ev_ok (.inl ⟨rfl, hl, z, z'⟩)))))
  have y1 := scx_ge (p := fun j => g j ≠ 63 ∧ g j ≠ 35) i to
  have y2 := scx_le (p := fun j => g j ≠ 63 ∧ g j ≠ 35) hi.2.1
  have y3 : stpA g i to < to → g (stpA g i to) = 63 ∨ g (stpA g i to) = 35 := fun z => by
    have := scx_at (p := fun j => g j ≠ 63 ∧ g j ≠ 35) z
    by_cases z1 : g (stpA g i to) = 63
    · exact .inl z1
    · by_cases z2 : g (stpA g i to) = 35
      · exact .inr z2
      · exact absurd ⟨z1, z2⟩ this
  unfold N_Address_read
  rw [e0]
  simp only [Option.bind_some]
  unfold RF
  have y1 : i ≤ stpA g i to := y1
  have y2 : stpA g i to ≤ to := y2
  generalize stpA g i to = st at *
  unfold nk_Address_read_33
  refine ev_bz (cs_stands ht okS2 (by omega) hi.1 (by omega) (by omega) (by decide)) (fun hp => ?_) (fun hp => ?_)
  · obtain ⟨p1, p2, p3, p4, _⟩ := hp
    rw [if_neg (by decide), if_pos ⟨p3, p2, p4⟩]
    have e1 : NL_Address_read_53 a d i to b st (i + 2) (aw n a T s t) = some (sc (fun j => g j ≠ 47) (i + 2) st) := by
      unfold NL_Address_read_53
      refine ev_scan (fun x x1 x2 => ?_)
      unfold nb_Address_read_53
      refine ev_if (fun hl => ev_tx ht ⟨by omega, by omega⟩ (fun he => ?_)) (fun hl => ev_ok (.inr ⟨rfl, fun z => hl z.1⟩))
      rw [he]
      exact ev_if (fun z => ev_ok (.inr ⟨rfl, fun y => y.2 z⟩)) (fun z => ev_ck (by omega) (ev_ok (.inl ⟨rfl, hl, z⟩)))
    refine ev_ck (by omega) ?_
    rw [e1]
    simp only [Option.bind_some]
    have q1 := scx_ge (p := fun j => g j ≠ 47) (i + 2) st
    have q2 := scx_le (p := fun j => g j ≠ 47) (i := i + 2) (to := st) (by omega)
    clear e1
    generalize sc (fun j => g j ≠ 47) (i + 2) st = AT at *
    unfold nk_Address_read_75 N_Bytes_isName
    refine ev_ck (by omega) ?_
    have hb := nmC_b (g := g) (i := i + 2) (to := AT) q1
    have bad : ¬ (i + 2 < AT ∧ nmC g (i + 2) AT = AT) → RDQ n a T (if i + 2 < AT ∧ nmC g (i + 2) AT = AT then RP1 g AT st to (sg g (i + 2) (AT - i - 2).toNat) [] else none) (0, aw n a T s t) := fun z => ⟨s, t, rfl, hs0, .inl ⟨rfl, by rw [if_neg z]⟩⟩
    by_cases z1 : i + 2 < AT
    · rw [if_pos z1, cs_nameEnd ht (by omega) (by omega) (by omega) (by omega)]
      simp only [Option.bind_some]
      by_cases z2 : nmC g (i + 2) AT = AT
      · rw [if_pos z2]
        simp only [Option.bind_some]
        rw [if_neg (show ¬ (1 : Int) = 0 by decide), if_pos ⟨z1, z2⟩]
        have hall : ∀ j, i + 2 ≤ j → j < AT → isNm (g j) := fun j ja jb => by
          unfold nmC at z2
          by_cases zz : i + 2 < AT ∧ isSm (g (i + 2))
          · rw [if_pos zz] at z2
            exact scx_in (p := fun j => isNm (g j)) (to := AT) ja (by omega)
          · rw [if_neg zz] at z2; omega
        refine ev_tyA hA (ev_bind (c_takeSite hA hd h1 h2 hi.1 ⟨by omega, by omega, by omega, by omega⟩ hs0 (fun j ja jb => by have := hall j ja jb; omega)) (fun n1 hn1 => ?_))
        obtain ⟨s1, t1, r1, r2, r3, r4, r5, r6⟩ := hn1
        subst r1
        have hl : (sg g (i + 2) (AT - i - 2).toNat).length = (AT - i - 2).toNat := sg_len _ _ _
        refine c_115 (at' := AT) hA hd h1 h2 hB' ⟨hi.1, by omega, q2, y2, hi.2.2.1, hi.2.2.2⟩ y3 (by rw [r4 0 (by decide) (by decide)]; exact hs0) (by rw [hl]; omega) r2 (by rw [r3, hl]; omega) ?_ (fun z => by omega) (fun _ _ => rfl) (fun _ z => absurd p2 z)
        rw [List.length_append, hl, sg_app]
        congr 1
        · show [t1 0, t1 (0 + 1)] = [47, 47]
          rw [r5 0 (by omega) (by omega), r5 (0 + 1) (by omega) (by omega), show i + 0 = i by omega, show i + (0 + 1) = i + 1 by omega, p2, p4]
        · exact sg_cg _ _ _ (fun x hx => by
            show t1 (0 + ((2 : Nat) : Int) + x) = _
            rw [r5 _ (by omega) (by omega)]; congr 1; omega)
      · rw [if_neg z2]
        exact ev_ok (bad (fun z => z2 z.2))
    · rw [if_neg z1]
      exact ev_ok (bad (fun z => z1 z.1))
  · have hno : ¬ (i + 1 < st ∧ g i = 47 ∧ g (i + 1) = 47) := fun z => hp ⟨by omega, z.2.1, z.1, z.2.2, trivial⟩
    rw [if_pos rfl, if_neg hno]
    refine tyb ?_
    rw [rb, b8]
    have htb : tx n Tb tb 160 := ⟨hAb.2.2.2.1, by rw [hAb.2.2.2.2]; exact Int.le_refl _, fun j _ _ => by rw [b12]⟩
    have esite : sg tb 2 bnm.length = bnm := by
      have : sg tb (0 + (([47, 47] : List Int).length : Int)) bnm.length = bnm := by
        have sp1' : sg tb 0 ([47, 47] ++ (bnm ++ [])).length = [47, 47] ++ (bnm ++ []) := by rw [List.append_nil]; exact sp1
        exact sg_mid sp1'
      exact this
    refine ev_nn hAb.2.2.1.1 (tyb (ev_tyA hA (ev_bind (c_takeSite hA htb b4 b5 (Int.le_refl _) ⟨by omega, by omega, by omega, by omega⟩ hs0 (fun j ja jb => ?_)) (fun n1 hn1 => ?_))))
    · have hm := sg_at (g := tb) bnm.length 2 (j - 2).toNat (by omega)
      rw [show (2 : Int) + (((j - 2).toNat : Nat) : Int) = j by omega, esite] at hm
      have := w1'' _ hm
      omega
    · obtain ⟨s1, t1, r1, r2, r3, r4, r5, r6⟩ := hn1
      subst r1
      refine c_115 (at' := i) (nm := bnm) hA hd h1 h2 hB' ⟨hi.1, Int.le_refl _, y1, y2, hi.2.2.1, hi.2.2.2⟩ y3 (by rw [r4 0 (by decide) (by decide)]; exact hs0) ⟨w1, w1'⟩ ?_ (by rw [r3]; omega) ?_ (fun z => ?_) (fun z z' => ?_) (fun z z' => ⟨rfl, ?_⟩)
      · rw [r2, show (0 : Int) + 2 = 2 by omega, show (sb 2 - 0 - 2).toNat = bnm.length by omega, esite]
      · refine Eq.trans (sg_cg _ _ 0 (fun x hx => ?_)) sp1
        rw [List.length_append] at hx
        have hx : x < 2 + bnm.length := hx
        rw [r5 _ (by omega) (by omega)]; congr 1; omega
      · rw [if_pos z, z]
      · rw [if_neg z, if_pos z']
      · rw [if_neg z, if_neg z']
theorem c_read (hA : AC n a T) (hT : n 99 a 0 = T) (hd : tx n d g l) (h1 : d ≠ a) (h2 : d ≠ T) (hB : BS n a T b Tb sb tb bnm bss bq bmk) (hi : 0 ≤ i ∧ i ≤ to ∧ to ≤ l ∧ to ≤ 20000) : ev (N_Address_read a d i to b n) (RDQ n a T (RF g i to bnm bss bq)) := by
  have := c_readA (s := n 99 a) (t := n 99 T) hA hd h1 h2 hB hi hT
  rw [aw_id rfl rfl] at this
  exact this
end E8
