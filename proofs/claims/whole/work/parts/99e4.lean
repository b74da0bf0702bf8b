/-! AN ADDRESS OF THE CLASS is read: its pieces -/
/-- what is written behind a text -/
theorem sg_ext {t t' : Int → Int} {X Y : List Int} {P : Int} (hP : P = X.length) (hX : sg t 0 X.length = X) (h1 : ∀ j, 0 ≤ j → j < P → t' j = t j) (hY : sg t' P Y.length = Y) : sg t' 0 (X ++ Y).length = X ++ Y := by
  rw [List.length_append, sg_app]
  congr 1
  · rw [← hX, show (sg t 0 X.length).length = X.length from sg_len _ _ _]
    exact sg_cg _ _ _ (fun x hx => h1 _ (by omega) (by omega))
  · rw [show (0 : Int) + (X.length : Int) = P by omega]; exact hY
def mkL (mk : List Int) : List Int := if mk = [] then [] else 35 :: mk
def RMk (g : Int → Int) (k to : Int) (q : List Int) : Option (List Int × List Int) := if k = to then some (q, []) else if g k = 35 ∧ k + 1 < to ∧ nmC g (k + 1) to = to then some (q, sg g (k + 1) (to - k - 1).toNat) else none
/-- QUERY and mark -/
def RTl (g : Int → Int) (k to : Int) (bq : List Int) : Option (List Int × List Int) := if k < to ∧ g k = 63 then (if 40 < sc (fun j => isQr (g j)) (k + 1) to - k - 1 then none else RMk g (sc (fun j => isQr (g j)) (k + 1) to) to (63 :: sg g (k + 1) (sc (fun j => isQr (g j)) (k + 1) to - k - 1).toNat)) else RMk g k to bq
section E4
variable {n : NS} {a T d l fr to k : Int} {s t g : Int → Int} {X q bq : List Int}
theorem nmC_b {i : Int} (h : i ≤ to) : i ≤ nmC g i to ∧ nmC g i to ≤ i + 8 ∧ nmC g i to ≤ to := by
  have q1 := scx_ge (p := fun j => isNm (g j)) i to
  have q2 := scx_le (p := fun j => isNm (g j)) h
  unfold nmC; split <;> omega
theorem c_takeSite (hA : AC n a T) (hd : tx n d g l) (h1 : d ≠ a) (h2 : d ≠ T) (hfr : 0 ≤ fr) (hto : fr + 2 ≤ to ∧ to ≤ fr + 10 ∧ to ≤ l ∧ to ≤ 100000) (hs0 : s 0 = T) (hb : ∀ j, fr + 2 ≤ j → j < to → isBt (g j)) : ev (N_Address_takeSite a d fr to (aw n a T s t)) (fun n' => ∃ s' t', n' = aw n a T s' t' ∧ s' 1 = pk (sg g (fr + 2) (to - fr - 2).toNat) ∧ s' 2 = to - fr ∧ (∀ j, j ≠ 1 → j ≠ 2 → s' j = s j) ∧ (∀ j, 0 ≤ j → j < to - fr → t' j = g (fr + j)) ∧ (∀ j, to - fr ≤ j → t' j = t j)) := by
  have hne := hA.ne
  have ht := aw_tx (s := s) (t := t) hd h1 h2
  unfold N_Address_takeSite
  refine ev_tyA hA ?_
  rw [aw_a hne, hs0]
  refine ev_nn hA.2.2.1.1 (ev_ck (by omega) (ev_g ⟨ht.1, by rw [aw_K (by decide)]; exact hA.2.2.2.1, by omega, by have := ht.2.1; omega, by rw [aw_K (by decide), hA.2.2.2.2]; omega⟩ (ev_st ?_)))
  rw [aw_T, aw_q h1 h2, aw_nT]
  refine ev_ck (by omega) (ev_tyA hA (ev_st ?_))
  rw [aw_nw hne]
  refine ev_tyA hA ?_
  rw [aw_a hne, udz_n (show (0 : Int) ≠ 2 by decide), hs0, udz_e]
  refine ev_nn hA.2.2.1.1 (ev_tyA hA ?_)
  generalize ht' : cpf (n 99 d) t fr 0 (to - fr) = t'
  have e1 : ∀ j, 0 ≤ j → j < to - fr → t' j = g (fr + j) := fun j a b => by
    rw [← ht']; unfold cpf; rw [if_pos (by omega), show fr + (j - 0) = fr + j by omega]; exact hd.2.2 _ (by omega) (by omega)
  have e2 : ∀ j, to - fr ≤ j → t' j = t j := fun j a => by
    rw [← ht']; unfold cpf; rw [if_neg (by omega)]
  have htx : tx (aw n a T (udz s 2 (to - fr)) t') T t' 160 := ⟨by rw [aw_K (by decide)]; exact hA.2.2.2.1, by rw [aw_K (by decide), hA.2.2.2.2]; exact Int.le_refl _, fun j a b => by rw [aw_T]⟩
  rw [cs_pack htx (by omega) (by omega) (by omega) (fun j a b _ => by rw [e1 j (by omega) b]; exact hb _ (by omega) (by omega))]
  simp only [Option.bind_some]
  refine ev_tyA hA (ev_st ?_)
  rw [aw_nw hne]
  refine ev_ok ⟨_, _, rfl, ?_, ?_, fun j j1 j2 => ?_, e1, e2⟩
  · rw [udz_e, show (min (to - fr - 2) 8).toNat = (to - fr - 2).toNat by omega]
    congr 1
    exact sg_cg _ _ _ (fun x hx => by
      rw [e1 _ (by omega) (by omega)]; congr 1; omega)
  · rw [udz_n (by decide), udz_e]
  · rw [udz_n j1, udz_n j2]
theorem c_takePath (hA : AC n a T) (h1 : d ≠ a) (hd : n 92 0 d = 1) (hfr : 0 ≤ fr ∧ fr ≤ to ∧ to ≤ n 93 0 d ∧ to ≤ 100000) (hs0 : s 0 = T) (h2 : 0 ≤ s 2 ∧ s 2 + (to - fr) ≤ 160) : ev (N_Address_takePath a d fr to (aw n a T s t)) (fun n' => ∃ s' t', n' = aw n a T s' t' ∧ s' 3 = s 2 + (to - fr) ∧ s' 5 = s 2 + (to - fr) ∧ (∀ j, j ≠ 3 → j ≠ 5 → s' j = s j) ∧ (∀ j, 0 ≤ j → j < to - fr → t' (s 2 + j) = aw n a T s t 99 d (fr + j)) ∧ (∀ j, j < s 2 → t' j = t j)) := by
  have hne := hA.ne
  unfold N_Address_takePath
  refine ev_tyA hA ?_
  rw [aw_a hne, hs0]
  refine ev_nn hA.2.2.1.1 (ev_tyA hA (ev_ck (by omega) (ev_g ⟨by rw [aw_K (by decide)]; exact hd, by rw [aw_K (by decide)]; exact hA.2.2.2.1, by omega, by rw [aw_K (by decide)]; omega, by rw [aw_K (by decide), hA.2.2.2.2]; omega⟩ (ev_st ?_))))
  rw [aw_T, aw_nT]
  refine ev_tyA hA ?_
  rw [aw_a hne]
  refine ev_ck (by omega) (ev_ck (by omega) (ev_tyA hA (ev_st ?_)))
  rw [aw_nw hne]
  refine ev_tyA hA (ev_tyA hA (ev_st ?_))
  rw [aw_a hne, udz_e, aw_nw hne]
  refine ev_ok ⟨_, _, rfl, ?_, ?_, fun j j1 j2 => ?_, fun j j0 j1 => ?_, fun j j0 => ?_⟩
  · rw [udz_n (by decide), udz_e]; omega
  · rw [udz_e]; omega
  · rw [udz_n j2, udz_n j1]
  · unfold cpf; rw [if_pos (by omega)]; congr 1; omega
  · unfold cpf; rw [if_neg (by omega)]
/-- behind the QUERY -/
theorem c_tail188 (hA : AC n a T) (hd : tx n d g l) (h1 : d ≠ a) (h2 : d ≠ T) (hk : 0 ≤ k) (hto : k ≤ to ∧ to ≤ l ∧ to ≤ 100000) (hs0 : s 0 = T) (h35 : k < to → g k = 35) (hP : s 5 = X.length) (h5 : s 5 ≤ 150) (hX : sg t 0 X.length = X) : ev (nk_Address_readTail_188 a d to k (aw n a T s t)) (fun r => ∃ s' t', r.2 = aw n a T s' t' ∧ s' 0 = T ∧ ((r.1 = 0 ∧ RMk g k to q = none) ∨ (r.1 = 1 ∧ ∃ mk, RMk g k to q = some (q, mk) ∧ mk.length ≤ 8 ∧ (∀ c ∈ mk, isNm c) ∧ s' 4 = s 5 ∧ s' 5 = s 5 + ((mkL mk).length : Int) ∧ (∀ j, j ≠ 4 → j ≠ 5 → s' j = s j) ∧ sg t' 0 (X ++ mkL mk).length = X ++ mkL mk))) := by
  have hne := hA.ne
  unfold nk_Address_readTail_188
  refine ev_tyA hA (ev_tyA hA (ev_st ?_))
  rw [aw_a hne, aw_nw hne]
  have u0 : udz s 4 (s 5) 0 = T := by rw [udz_n (by decide)]; exact hs0
  have u5 : udz s 4 (s 5) 5 = s 5 := udz_n (by decide)
  refine ev_if (fun hz => ev_ok ⟨_, t, rfl, u0, .inr ⟨rfl, [], ?_, by decide, fun c hc => (by cases hc), udz_e, ?_, fun j a b => udz_n a, ?_⟩⟩) (fun hz => ?_)
  · unfold RMk; rw [if_pos hz]
  · rw [u5]; show s 5 = s 5 + ((0 : Nat) : Int); omega
  · show sg t 0 (X ++ []).length = X ++ []
    rw [List.append_nil]; exact hX
  · have g35 := h35 (by omega)
    refine ev_ck (by omega) (ev_if (fun hz1 => ev_ok ⟨_, t, rfl, u0, .inl ⟨rfl, ?_⟩⟩) (fun hz1 => ?_))
    · unfold RMk; rw [if_neg hz, if_neg (fun z => by omega)]
    · refine ev_ck (by omega) ?_
      have ht := aw_tx (s := udz s 4 (s 5)) (t := t) hd h1 h2
      rw [cs_nameEnd ht (by omega) (by omega) (by omega) (by omega)]
      simp only [Option.bind_some]
      have hb := nmC_b (g := g) (i := k + 1) (to := to) (by omega)
      refine ev_if (fun hz2 => ev_ok ⟨_, t, rfl, u0, .inl ⟨rfl, ?_⟩⟩) (fun hz2 => ?_)
      · unfold RMk; rw [if_neg hz, if_neg (fun z => by omega)]
      · have hn : nmC g (k + 1) to = to := by omega
        have hall : ∀ j, k + 1 ≤ j → j < to → isNm (g j) := fun j ja jb => by
          unfold nmC at hn
          by_cases zz : k + 1 < to ∧ isSm (g (k + 1))
          · rw [if_pos zz] at hn
            exact scx_in (p := fun j => isNm (g j)) (to := to) ja (by omega)
          · rw [if_neg zz] at hn; omega
        refine ev_tyA hA ?_
        rw [aw_a hne, u0, u5]
        refine ev_nn hA.2.2.1.1 (ev_tyA hA (ev_ck (by omega) (ev_g ⟨ht.1, by rw [aw_K (by decide)]; exact hA.2.2.2.1, by omega, by have := ht.2.1; omega, by rw [aw_K (by decide), hA.2.2.2.2]; omega⟩ (ev_st ?_))))
        rw [aw_T, aw_q h1 h2, aw_nT]
        refine ev_tyA hA (ev_ck (by omega) ?_)
        rw [aw_a hne, u5]
        refine ev_ck (by omega) (ev_tyA hA (ev_st ?_))
        rw [aw_nw hne]
        have hmk : mkL (sg g (k + 1) (to - k - 1).toNat) = sg g k (to - k).toNat := by
          obtain ⟨w, hw⟩ : ∃ w, (to - k - 1).toNat = w + 1 := ⟨(to - k - 1).toNat - 1, by omega⟩
          unfold mkL
          rw [if_neg (fun z => by have := congrArg List.length z; rw [sg_len] at this; have : (to - k - 1).toNat = 0 := this; omega), show (to - k).toNat = (to - k - 1).toNat + 1 by omega]
          show 35 :: _ = g k :: _
          rw [g35]
        refine ev_ok ⟨_, _, rfl, by rw [udz_n (by decide)]; exact u0, .inr ⟨rfl, sg g (k + 1) (to - k - 1).toNat, ?_, by rw [sg_len]; omega, sg_mem _ _ (fun x hx => hall _ (by omega) (by omega)), ?_, ?_, fun j a b => ?_, ?_⟩⟩
        · unfold RMk; rw [if_neg hz, if_pos ⟨g35, by omega, hn⟩]
        · rw [udz_n (by decide), udz_e]
        · rw [udz_e, hmk, sg_len]; omega
        · rw [udz_n b, udz_n a]
        · refine sg_ext hP hX (fun j j0 j1 => ?_) ?_
          · unfold cpf; rw [if_neg (by omega)]
          · rw [hmk, sg_len]
            exact sg_cg _ _ _ (fun x hx => by
              unfold cpf
              rw [if_pos (by omega), show k + (s 5 + (x : Int) - s 5) = k + x by omega]
              exact hd.2.2 _ (by omega) (by omega))
/-- what the reading of the tail leaves -/
def TLQ (n : NS) (a T : Int) (s : Int → Int) (X : List Int) (R : Option (List Int × List Int)) (r : Int × NS) : Prop := ∃ s' t', r.2 = aw n a T s' t' ∧ s' 0 = T ∧ ((r.1 = 0 ∧ R = none) ∨ (r.1 = 1 ∧ ∃ q mk, R = some (q, mk) ∧ q.length ≤ 41 ∧ mk.length ≤ 8 ∧ (∀ c ∈ mk, isNm c) ∧ s' 4 = s 5 + (q.length : Int) ∧ s' 5 = s 5 + (q.length : Int) + ((mkL mk).length : Int) ∧ (∀ j, j ≠ 4 → j ≠ 5 → s' j = s j) ∧ sg t' 0 (X ++ (q ++ mkL mk)).length = X ++ (q ++ mkL mk)))
theorem c_tail (hA : AC n a T) (hd : tx n d g l) (h1 : d ≠ a) (h2 : d ≠ T) (hk : 0 ≤ k) (hto : k ≤ to ∧ to ≤ l ∧ to ≤ 100000) (hs0 : s 0 = T) (h35 : k < to → g k = 63 ∨ g k = 35) (hP : s 5 = X.length) (h5 : s 5 ≤ 100) (hX : sg t 0 X.length = X) {b Tb : Int} {sb tb : Int → Int} (hb : (b < 0 ∧ b = -1 ∧ bq = []) ∨ (0 ≤ b ∧ b ≠ a ∧ b ≠ T ∧ Tb ≠ a ∧ Tb ≠ T ∧ n 92 0 b = 101 ∧ n 99 b = sb ∧ sb 0 = Tb ∧ 0 ≤ Tb ∧ n 92 0 Tb = 1 ∧ n 93 0 Tb = 160 ∧ n 99 Tb = tb ∧ 0 ≤ sb 3 ∧ sb 4 ≤ 150 ∧ sb 4 - sb 3 = bq.length ∧ bq.length ≤ 41 ∧ sg tb (sb 3) bq.length = bq)) : ev (N_Address_readTail a d k to b (aw n a T s t)) (TLQ n a T s X (RTl g k to bq)) := by
  have hne := hA.ne
  have ht := aw_tx (s := s) (t := t) hd h1 h2
  -- a query is read
  have qry : k < to → g k = 63 → ev ((NL_Address_readTail_21 a d k to (k + 1) (aw n a T s t)).bind fun z => nk_Address_readTail_70 a d k to z (aw n a T s t)) (TLQ n a T s X (RTl g k to bq)) := fun hlt h63 => by
    have hNL : NL_Address_readTail_21 a d k to (k + 1) (aw n a T s t) = some (sc (fun j => isQr (g j)) (k + 1) to) := by
      unfold NL_Address_readTail_21
      refine ev_scan (fun x x1 x2 => ?_)
      unfold nb_Address_readTail_21
      refine ev_if (fun hl => ev_tx ht ⟨by omega, by omega⟩ (fun he => ?_)) (fun hl => ev_ok (.inr ⟨rfl, fun z => hl z.1⟩))
      rw [he]
      refine ev_bz cs_segment (fun hp => ?_) (fun hp => ?_)
      · rw [if_neg (by decide)]; exact ev_ck (by omega) (ev_ok (.inl ⟨rfl, hl, by omega⟩))
      · rw [if_pos rfl]
        refine ev_tx ht ⟨by omega, by omega⟩ (fun _ => ev_if (fun z => ev_ck (by omega) (ev_ok (.inl ⟨rfl, hl, by omega⟩))) (fun z1 => ev_tx ht ⟨by omega, by omega⟩ (fun _ => ev_if (fun z => ev_ck (by omega) (ev_ok (.inl ⟨rfl, hl, by omega⟩))) (fun z2 => ev_tx ht ⟨by omega, by omega⟩ (fun _ => ev_if (fun z => ev_ck (by omega) (ev_ok (.inl ⟨rfl, hl, by omega⟩))) (fun z3 => ev_ok (.inr ⟨rfl, fun z => ?_⟩)))))))
        have := z.2
        omega
    rw [hNL]
    clear hNL
    simp only [Option.bind_some]
    have y1 := scx_ge (p := fun j => isQr (g j)) (k + 1) to
    have y2 := scx_le (p := fun j => isQr (g j)) (i := k + 1) (to := to) (by omega)
    unfold RTl
    rw [if_pos ⟨hlt, h63⟩]
    generalize sc (fun j => isQr (g j)) (k + 1) to = e at *
    unfold nk_Address_readTail_70
    refine ev_ck (by omega) (ev_ck (by omega) ?_)
    refine ev_if (fun h40 => ev_ok ⟨s, t, rfl, hs0, .inl ⟨rfl, by rw [if_pos h40]⟩⟩) (fun h40 => ?_)
    rw [if_neg h40]
    have bad : e < to → g e ≠ 35 → RMk g e to (63 :: sg g (k + 1) (e - k - 1).toNat) = none := fun z1 z2 => by
      unfold RMk; rw [if_neg (by omega), if_neg (fun z => z2 z.1)]
    have good : (e < to → g e = 35) → ev (nk_Address_readTail_98 a d k to e (aw n a T s t)) (TLQ n a T s X (RMk g e to (63 :: sg g (k + 1) (e - k - 1).toNat))) := fun h35 => by
      unfold nk_Address_readTail_98
      refine ev_tyA hA ?_
      rw [aw_a hne, hs0]
      refine ev_nn hA.2.2.1.1 (ev_tyA hA (ev_ck (by omega) (ev_g ⟨ht.1, by rw [aw_K (by decide)]; exact hA.2.2.2.1, by omega, by have := ht.2.1; omega, by rw [aw_K (by decide), hA.2.2.2.2]; omega⟩ (ev_st ?_))))
      rw [aw_T, aw_q h1 h2, aw_nT]
      refine ev_tyA hA (ev_ck (by omega) ?_)
      rw [aw_a hne]
      refine ev_ck (by omega) (ev_tyA hA (ev_st ?_))
      rw [aw_nw hne]
      have hq : 63 :: sg g (k + 1) (e - k - 1).toNat = sg g k (e - k).toNat := by
        rw [show (e - k).toNat = (e - k - 1).toNat + 1 by omega]
        show _ = g k :: _
        rw [h63]
      rw [hq]
      refine ev_mono (c_tail188 (X := X ++ sg g k (e - k).toNat) (q := sg g k (e - k).toNat) hA hd h1 h2 (by omega) ⟨by omega, hto.2⟩ (by rw [udz_n (by decide)]; exact hs0) h35 ?_ ?_ ?_) (fun r hr => ?_)
      · rw [udz_e, List.length_append, sg_len]; omega
      · rw [udz_e]; omega
      · refine sg_ext hP hX (fun j j0 j1 => ?_) ?_
        · unfold cpf; rw [if_neg (by omega)]
        · rw [sg_len]
          exact sg_cg _ _ _ (fun x hx => by
            unfold cpf
            rw [if_pos (by omega), show k + (s 5 + (x : Int) - s 5) = k + x by omega]
            exact hd.2.2 _ (by omega) (by omega))
      · obtain ⟨s', t', r1, r2, r3⟩ := hr
        refine ⟨s', t', r1, r2, ?_⟩
        rcases r3 with ⟨w1, w2⟩ | ⟨w1, mk, w2, w3, w4, w5, w6, w7, w8⟩
        · exact .inl ⟨w1, w2⟩
        · rw [udz_e] at w5 w6
          refine .inr ⟨w1, sg g k (e - k).toNat, mk, w2, by rw [sg_len]; omega, w3, w4, by rw [w5, sg_len]; omega, by rw [w6, sg_len]; omega, fun j a b => ?_, by rw [List.append_assoc] at w8; exact w8⟩
          rw [w7 j a b, udz_n b]
    refine ev_if (fun hl => ev_tx ht ⟨by omega, by omega⟩ (fun he => ?_)) (fun hl => good (fun z => absurd z hl))
    rw [he]
    exact ev_if (fun z => good (fun _ => z)) (fun z => ev_ok ⟨s, t, rfl, hs0, .inl ⟨rfl, bad hl z⟩⟩)
  -- none is read
  have plain : ¬ (k < to ∧ g k = 63) → ev (nk_Address_readTail_131 a d to b k (aw n a T s t)) (TLQ n a T s X (RTl g k to bq)) := fun hno => by
    have h35' : k < to → g k = 35 := fun z => by
      rcases h35 z with y | y
      · exact absurd ⟨z, y⟩ hno
      · exact y
    unfold RTl
    rw [if_neg hno]
    unfold nk_Address_readTail_131
    rcases hb with ⟨b1, b2, b3⟩ | ⟨b1, b2, b3, b4, b5, b6, b7, b8, b9, b10, b11, b12, b13, b14, b15, b16, b17⟩
    · rw [if_pos b1, b3]
      refine ev_mono (c_tail188 (X := X) (q := []) hA hd h1 h2 hk hto hs0 h35' hP (by omega) hX) (fun r hr => ?_)
      obtain ⟨s', t', r1, r2, r3⟩ := hr
      refine ⟨s', t', r1, r2, ?_⟩
      rcases r3 with ⟨w1, w2⟩ | ⟨w1, mk, w2, w3, w4, w5, w6, w7, w8⟩
      · exact .inl ⟨w1, w2⟩
      · exact .inr ⟨w1, [], mk, w2, by decide, w3, w4, by rw [w5]; show s 5 = s 5 + ((0 : Nat) : Int); omega, by rw [w6]; show _ = s 5 + ((0 : Nat) : Int) + _; omega, w7, w8⟩
    · have tyb : ∀ {α : Type} {Q : α → Prop} {x : Option α} {s t : Int → Int}, ev x Q → ev (ty (aw n a T s t) b 101 x) Q := fun {α Q x s t} z => ev_ty (by rw [aw_K (by decide)]; exact b6) z
      have rb : ∀ {s t : Int → Int}, aw n a T s t 99 b = sb := fun {s t} => by rw [aw_q b2 b3]; exact b7
      have rT : ∀ {s t : Int → Int}, aw n a T s t 99 Tb = tb := fun {s t} => by rw [aw_q b4 b5]; exact b12
      rw [if_neg (by omega)]
      refine tyb ?_
      rw [rb, b8]
      refine ev_nn b9 (tyb (ev_tyA hA ?_))
      rw [aw_a hne, hs0]
      refine ev_nn hA.2.2.1.1 (ev_tyA hA (tyb (tyb (ev_ck (by omega) (ev_g ⟨by rw [aw_K (by decide)]; exact b10, by rw [aw_K (by decide)]; exact hA.2.2.2.1, by omega, by rw [aw_K (by decide), b11]; omega, by rw [aw_K (by decide), hA.2.2.2.2]; omega⟩ (ev_st ?_))))))
      rw [aw_T, rT, aw_nT]
      refine ev_tyA hA (tyb (tyb ?_))
      rw [rb, aw_a hne]
      refine ev_ck (by omega) (ev_ck (by omega) (ev_tyA hA (ev_st ?_)))
      rw [aw_nw hne, b15]
      refine ev_mono (c_tail188 (X := X ++ bq) (q := bq) hA hd h1 h2 hk hto (by rw [udz_n (by decide)]; exact hs0) h35' ?_ ?_ ?_) (fun r hr => ?_)
      · rw [udz_e, List.length_append]; omega
      · rw [udz_e]; omega
      · refine sg_ext hP hX (fun j j0 j1 => ?_) ?_
        · unfold cpf; rw [if_neg (by omega)]
        · refine Eq.trans (sg_cg _ _ (sb 3) (fun x hx => ?_)) b17
          unfold cpf
          rw [if_pos (by omega), show sb 3 + (s 5 + (x : Int) - s 5) = sb 3 + x by omega]
      · obtain ⟨s', t', r1, r2, r3⟩ := hr
        refine ⟨s', t', r1, r2, ?_⟩
        rcases r3 with ⟨w1, w2⟩ | ⟨w1, mk, w2, w3, w4, w5, w6, w7, w8⟩
        · exact .inl ⟨w1, w2⟩
        · rw [udz_e] at w5 w6
          refine .inr ⟨w1, bq, mk, w2, b16, w3, w4, w5, w6, fun j a b => ?_, by rw [List.append_assoc] at w8; exact w8⟩
          rw [w7 j a b, udz_n b]
  unfold N_Address_readTail
  have both : ev (if k < to then dx (aw n a T s t) d 1 k (if aw n a T s t 99 d k = 63 then ck (k + 1) ((NL_Address_readTail_21 a d k to (k + 1) (aw n a T s t)).bind fun z => nk_Address_readTail_70 a d k to z (aw n a T s t)) else nk_Address_readTail_131 a d to b k (aw n a T s t)) else nk_Address_readTail_131 a d to b k (aw n a T s t)) (TLQ n a T s X (RTl g k to bq)) := by
    refine ev_if (fun hl => ev_tx ht ⟨hk, by omega⟩ (fun he => ?_)) (fun hl => plain (fun z => hl z.1))
    rw [he]
    exact ev_if (fun z => ev_ck (by omega) (qry hl z)) (fun z => plain (fun y => z y.2))
  rcases hb with ⟨b1, b2, b3⟩ | hb2
  · rw [if_pos b1]
    subst b2
    exact both
  · rw [if_neg (by have := hb2.1; omega)]
    exact both
end E4
