/-! A FIELD of a server's ANSWER: cookies and redirects -/
def OKC (g : Int → Int) (k to : Int) : Prop := nmE g k to ≠ k ∧ nmE g k to < to ∧ g (nmE g k to) = 58 ∧ nmE g (nmE g k to + 1) to ≠ nmE g k to + 1 ∧ nmE g (nmE g k to + 1) to = to
section R3
variable {n n' : NS} {m m' : YS} {i k to e c d w L : Int} {g : Int → Int} {nm q mk : List Int} {ss : List (List Int)}
theorem okc_iff (hk : k ≤ to) : (OKC g k to ↔ (nmC g k to ≠ k ∧ nmC g k to ≠ to ∧ g (nmC g k to) = 58 ∧ (nmC g k to + 1 < to ∧ nmC g (nmC g k to + 1) to = to))) ∧ (OKC g k to → nmC g k to = nmE g k to) := by
  have hb := nmC_b (g := g) (i := k) (to := to) hk
  have key : nmC g k to = nmE g k to ∨ (nmE g k to = k ∧ nmC g k to < to ∧ g (nmC g k to) ≠ 58) := by
    have hin : ∀ j, k ≤ j → j < sc (fun j => isNm (g j)) k to → isNm (g j) := fun j a b => scx_in (p := fun j => isNm (g j)) a b
    have hle := scx_le (p := fun j => isNm (g j)) hk
    unfold nmC nmE
    by_cases z : k < to ∧ isSm (g k)
    · rw [if_pos z, if_pos z]
      generalize sc (fun j => isNm (g j)) k to = S at *
      by_cases y : 8 < S - k
      · rw [if_pos y]
        refine .inr ⟨rfl, by omega, ?_⟩
        rw [show min S (k + 8) = k + 8 by omega]
        have := hin (k + 8) (by omega) (by omega)
        unfold isNm at this
        intro x; rw [x] at this; omega
      · rw [if_neg y]; exact .inl (by omega)
    · rw [if_neg z, if_neg z]; exact .inl rfl
  rcases key with h | ⟨h1, h2, h3⟩
  · refine ⟨?_, fun _ => h⟩
    unfold OKC
    rw [h]
    rw [h] at hb
    have hn := fun x : nmE g k to < to => nameAll (g := g) (fr := nmE g k to + 1) (to := to) (by omega)
    constructor
    · rintro ⟨a, b, c, d, e⟩
      exact ⟨a, by omega, c, (hn b).mp ⟨d, e⟩⟩
    · rintro ⟨a, b, c, d⟩
      have b' : nmE g k to < to := by omega
      have := (hn b').mpr d
      exact ⟨a, b', c, this⟩
  · exact ⟨⟨fun y => absurd h1 y.1, fun y => absurd y.2.2.1 h3⟩, fun y => absurd h1 y.1⟩
/-- the reference takes a cookie -/
theorem y_fd_ck (h0 : 0 ≤ i ∧ i ≤ e) (hto : e < to ∧ to ≤ 2000) (h6 : e - i = 6) (hw : mtR wCk (m 2) i e) (h39 : 0 ≤ m 39 0) :
    ((m 39 0 = 0 ∧ OKC (m 2) (e + 1) to) → ∃ m', nk_Y_field_70 i to e m = some (1, m') ∧ FY [39, 40, 43] m m' ∧ m' 39 0 = nmE (m 2) (e + 1) to - (e + 1) ∧ m' 40 0 = to - (nmE (m 2) (e + 1) to + 1) ∧ (∀ j, 0 ≤ j → j < nmE (m 2) (e + 1) to - (e + 1) → m' 43 j = m 2 (e + 1 + j)) ∧ (∀ j, 0 ≤ j → j < to - (nmE (m 2) (e + 1) to + 1) → m' 43 (8 + j) = m 2 (nmE (m 2) (e + 1) to + 1 + j)))
    ∧ (¬ (m 39 0 = 0 ∧ OKC (m 2) (e + 1) to) → nk_Y_field_70 i to e m = some (0, m)) := by
  rw [y_70n h0 hto (fun z => by omega)]
  have e1 : N_Y_nameEnd 2 (e + 1) to m = some (nmE (m 2) (e + 1) to) := ys_nameEnd (show to ≤ yLn 2 from hto.2) (by omega) (by omega) (by omega)
  have hb := (nm_iff (g := m 2) (k := e + 1) (to := to) (by omega)).2
  have e2 : nmE (m 2) (e + 1) to < to → N_Y_nameEnd 2 (nmE (m 2) (e + 1) to + 1) to m = some (nmE (m 2) (nmE (m 2) (e + 1) to + 1) to) := fun x => ys_nameEnd (show to ≤ yLn 2 from hto.2) (by omega) (by omega) (by omega)
  have hb2 := fun x : nmE (m 2) (e + 1) to < to => (nm_iff (g := m 2) (k := nmE (m 2) (e + 1) to + 1) (to := to) (by omega)).2
  unfold nk_Y_field_223 OKC
  rw [if_pos h6, (y_word (w := wCk) (by decide) (by decide) ⟨h0.1, by omega⟩ (by omega)).1 hw]
  simp only [Option.bind_some]
  rw [if_neg (by decide)]
  have hck : ∀ {α : Type} {a : Int} (x : Option α), 0 ≤ a → a ≤ 5000 → ck a x = x := fun x a b => if_pos (by omega)
  have hix : ∀ {α : Type} {a : Int} (x : Option α), 0 ≤ a → a < 2000 → ix a 2000 x = x := fun x a b => if_pos ⟨a, b⟩
  rw [hck _ (by omega) (by omega), e1]
  simp only [Option.bind_some]
  generalize nmE (m 2) (e + 1) to = q at *
  rw [hck _ (by omega) (by omega)]
  by_cases z1 : q = e + 1
  · rw [if_pos z1]
    exact ⟨fun y => absurd z1 y.2.1, fun _ => rfl⟩
  rw [if_neg z1]
  by_cases z2 : q < to
  · have e2 := e2 z2
    have hb2 := hb2 z2
    rw [if_pos z2, hix _ (by omega) (by omega)]
    by_cases z3 : m 2 q = 58
    · rw [if_pos z3]
      by_cases z4 : 0 < m 39 0
      · rw [if_pos z4]
        exact ⟨fun y => by omega, fun _ => rfl⟩
      · rw [if_neg z4, hck _ (by omega) (by omega), e2]
        simp only [Option.bind_some]
        generalize nmE (m 2) (q + 1) to = l at *
        rw [hck _ (by omega) (by omega)]
        by_cases z5 : l = q + 1
        · rw [if_pos z5]
          exact ⟨fun y => absurd z5 y.2.2.2.2.1, fun _ => rfl⟩
        · rw [if_neg z5]
          by_cases z6 : l = to
          · rw [if_pos z6]
            refine ⟨fun _ => ?_, fun y => absurd ⟨by omega, z1, z2, z3, z5, z6⟩ y⟩
            rw [hck _ (by omega) (by omega), hck _ (by omega) (by omega)]
            unfold st
            dsimp only
            rw [hck _ (by omega) (by omega), hck _ (by omega) (by omega)]
            have f0 : FY [39, 40] m (yw (yw m 39 0 (q - e - 1)) 40 0 (l - q - 1)) := fun f hf => by
              simp only [List.mem_cons, List.not_mem_nil, or_false, not_or] at hf
              rw [yw_nF hf.2, yw_nF hf.1]
            have c39 : yw (yw m 39 0 (q - e - 1)) 40 0 (l - q - 1) 39 0 = q - e - 1 := by rw [yw_nF (by decide), yw_eq]
            have c40 : yw (yw m 39 0 (q - e - 1)) 40 0 (l - q - 1) 40 0 = l - q - 1 := yw_eq
            generalize yw (yw m 39 0 (q - e - 1)) 40 0 (l - q - 1) = m1 at *
            obtain ⟨m2, k1, k2, k3, k4⟩ := y_copy (m := m1) (F := 43) (G := 2) (a := 0) (b := e + 1) (K := q - e - 1) (fn := fun s => nb_Y_field_348 e q s.1 s.2) (by decide) (by omega) (fun k ma fa ka kb => by
              show nb_Y_field_348 e q k ma = _
              unfold nb_Y_field_348 st ck ix
              dsimp only
              rw [fa 39 (by decide), c39, if_pos kb, if_pos (by omega), if_pos (by omega), if_pos (by omega), if_pos (by omega), if_pos (by omega), Int.zero_add]) (fun ma fa => by
              show nb_Y_field_348 e q (q - e - 1) ma = _
              unfold nb_Y_field_348
              rw [fa 39 (by decide), c39, if_neg (by omega)])
            obtain ⟨m3, l1, l2, l3, l4⟩ := y_copy (m := m2) (F := 43) (G := 2) (a := 8) (b := q + 1) (K := l - q - 1) (fn := fun s => nb_Y_field_384 q s.1 s.2) (by decide) (by omega) (fun k ma fa ka kb => by
              show nb_Y_field_384 q k ma = _
              unfold nb_Y_field_384 st ck ix
              dsimp only
              rw [fa 40 (by decide), k2 40 (by decide), c40, if_pos kb, if_pos (by omega), if_pos (by omega), if_pos (by omega), if_pos (by omega), if_pos (by omega), if_pos (by omega)]) (fun ma fa => by
              show nb_Y_field_384 q (l - q - 1) ma = _
              unfold nb_Y_field_384
              rw [fa 40 (by decide), k2 40 (by decide), c40, if_neg (by omega)])
            refine ⟨m3, ?_, fun f hf => ?_, ?_, ?_, fun j j0 j1 => ?_, fun j j0 j1 => ?_⟩
            · have k1 : NL_Y_field_348 e q 0 m1 = some m2 := k1
              have l1 : NL_Y_field_384 q 0 m2 = some m3 := l1
              rw [k1]
              simp only [Option.bind_some]
              rw [l1]; rfl
            · simp only [List.mem_cons, List.not_mem_nil, or_false, not_or] at hf
              rw [l2 f (by simp only [List.mem_cons, List.not_mem_nil, or_false]; exact hf.2.2), k2 f (by simp only [List.mem_cons, List.not_mem_nil, or_false]; exact hf.2.2), f0 f (by simp only [List.mem_cons, List.not_mem_nil, or_false, not_or]; exact ⟨hf.1, hf.2.1⟩)]
            · rw [l2 39 (by decide), k2 39 (by decide), c39]; omega
            · rw [l2 40 (by decide), k2 40 (by decide), c40]; omega
            · rw [l4 j (by omega)]
              have := k3 j j0 (by omega)
              rw [Int.zero_add] at this
              rw [this, f0 2 (by decide)]
            · rw [l3 j j0 (by omega), k2 2 (by decide), f0 2 (by decide)]
          · rw [if_neg z6]
            exact ⟨fun y => absurd y.2.2.2.2.2 z6, fun _ => rfl⟩
    · rw [if_neg z3]
      exact ⟨fun y => absurd y.2.2.2.1 z3, fun _ => rfl⟩
  · rw [if_neg z2]
    exact ⟨fun y => absurd y.2.2.1 z2, fun _ => rfl⟩
/-- the class takes a cookie -/
theorem c_cookie (ht : tx n d g L) (hw : n 92 0 w = 102) (hk : 0 ≤ k ∧ k ≤ to ∧ to ≤ L ∧ L ≤ 2000) : (OKC g k to → N_Answer_readCookie w d k to n = some (1, nw (nw n 99 w 2 (pk (sg g k (nmE g k to - k).toNat))) 99 w 3 (pk (sg g (nmE g k to + 1) (to - (nmE g k to + 1)).toNat)))) ∧ (¬ OKC g k to → N_Answer_readCookie w d k to n = some (0, n)) := by
  obtain ⟨h1, h2⟩ := okc_iff (g := g) (k := k) (to := to) hk.2.1
  have hb := nmC_b (g := g) (i := k) (to := to) hk.2.1
  unfold N_Answer_readCookie
  rw [cs_nameEnd ht hk.2.2.1 hk.1 (by omega) (by omega)]
  simp only [Option.bind_some]
  have hE := nmE_in (g := g) (k := k) (to := to) hk.2.1
  constructor
  · intro ho
    have hc := h2 ho
    have h3 := h1.mp ho
    have hin := hE ho.1
    rw [← hc] at hin
    rw [← hc]
    generalize nmC g k to = c at *
    have hdw : d ≠ w := fun z => by have := ht.1; rw [z, hw] at this; exact absurd this (by decide)
    have ht' : tx (nw n 99 w 2 (pk (sg g k (c - k).toNat))) d g L := by
      unfold tx
      rw [nw_nK (by decide), nw_nK (by decide), nw_ni hdw]; exact ht
    rw [if_neg h3.1, if_neg h3.2.1]
    unfold dx ck ty st
    dsimp only
    rw [if_pos ⟨ht.1, by omega, by have := ht.2.1; omega⟩, ht.2.2 c (by omega) (by omega), if_pos h3.2.2.1, if_pos (by omega), c_isName ht ⟨by omega, hk.2.2.1, hk.2.2.2⟩, if_pos h3.2.2.2]
    simp only [Option.bind_some]
    rw [if_neg (by decide), c_packN ht ⟨hk.1, by omega, hk.2.2.2⟩ ⟨by omega, nmC_all (by omega) (by omega) hin.2.1 hin.2.2.1⟩]
    simp only [Option.bind_some]
    rw [if_pos hw, if_pos (by omega), c_packN ht' ⟨by omega, hk.2.2.1, hk.2.2.2⟩ h3.2.2.2]
    simp only [Option.bind_some]
    rw [if_pos (by rw [nw_nK (by decide)]; exact hw)]
  · intro ho
    have h3 := fun y => ho (h1.mpr y)
    generalize nmC g k to = c at *
    by_cases z1 : c = k
    · rw [if_pos z1]
    rw [if_neg z1]
    by_cases z2 : c = to
    · rw [if_pos z2]
    rw [if_neg z2]
    unfold dx ck
    rw [if_pos ⟨ht.1, by omega, by have := ht.2.1; omega⟩, ht.2.2 c (by omega) (by omega)]
    by_cases z3 : g c = 58
    · rw [if_pos z3, if_pos (by omega), c_isName ht ⟨by omega, hk.2.2.1, hk.2.2.2⟩, if_neg (fun y => h3 ⟨z1, z2, z3, y⟩)]
      simp only [Option.bind_some]
      rw [if_pos trivial]
    · rw [if_neg z3]
/-- the reference takes a redirect -/
theorem y_fd_to (h0 : 0 ≤ i ∧ i ≤ e) (hto : e < to ∧ to ≤ 2000) (h2 : e - i = 2) (hw : mtR wTo (m 2) i e) (h41 : m 41 0 = 0) (hR : RA m 3 nm ss q mk) (hW : WFA nm ss q mk) (htx : ∀ j, i ≤ j → j < to → isTx (m 2 j)) :
    ev (nk_Y_field_70 i to e m) (fun x => FY [6, 7, 8, 9, 10, 11, 12, 14, 15, 41] m x.2 ∧ (∀ r, 1 ≤ r → r ≠ 4 → RwE m x.2 r) ∧ ((x.1 = 0 ∧ RF (m 2) (e + 1) to nm ss q = none) ∨ (x.1 = 1 ∧ x.2 41 0 = 1 ∧ ∃ nm' ss' q' mk', RF (m 2) (e + 1) to nm ss q = some (nm', ss', q', mk') ∧ WFA nm' ss' q' mk' ∧ RA x.2 4 nm' ss' q' []))) := by
  rw [y_70n h0 hto (fun z => by omega), y_223n h0 (by omega) (fun z => by omega)]
  unfold nk_Y_field_423
  rw [if_pos h2, (y_word (w := wTo) (by decide) (by decide) ⟨h0.1, by omega⟩ (by omega)).1 hw]
  simp only [Option.bind_some]
  rw [if_neg (by decide), if_neg (by omega)]
  refine ev_ck (by omega) (ev_b2 (y_refer (f := 2) (g := m 2) (by decide) rfl ⟨by omega, by omega, by show _ ≤ (2000 : Int); omega, by omega, by omega⟩ (fun j a b => htx j (by omega) b) (by omega) hR hW) (fun z m1 hz => ?_))
  obtain ⟨f1, hz⟩ := hz
  have f1 : FR0 m m1 := f1
  have rw1 : ∀ r, 1 ≤ r → r ≠ 4 → RwE m m1 r := fun r r0 _ => ⟨(f1.2.2 r (by omega)).1, (f1.2.2 r (by omega)).2, fun j a b => f1.2.1 j (by omega)⟩
  rcases hz with ⟨z0, hn⟩ | ⟨z1, nm', ss', q', mk', hs, hr⟩
  · have z0 : z = 0 := z0
    rw [if_pos z0]
    exact ev_ok ⟨fun f hf => f1.1 f (by simp only [List.mem_cons, List.not_mem_nil, or_false, not_or] at hf ⊢; omega), rw1, .inl ⟨rfl, hn⟩⟩
  · have z1 : z = 1 := z1
    have hr : RA m1 0 nm' ss' q' mk' := hr
    rw [if_neg (by omega)]
    have hW' : WFA nm' ss' q' mk' := RF_wf hs (by omega) hW (fun j a b => htx j (by omega) b)
    have hr' : RA (yw m1 41 0 1) 0 nm' ss' q' mk' := hr.rw hW' (RwE.of (yw_nF (by decide)) (yw_nF (by decide)) (yw_nF (by decide)))
    refine ev_st (ev_bind (y_copyRow (to := 4) (fr := 0) (by omega) (by omega) (by omega)) (fun m2 hm2 => ev_ix (by omega) (ev_st (ev_ok ⟨fun f hf => ?_, fun r r0 r4 => ?_, .inr ⟨rfl, ?_, nm', ss', q', mk', hs, hW', (hm2.made hr' hW').drop⟩⟩))))
    · simp only [List.mem_cons, List.not_mem_nil, or_false, not_or] at hf
      show yw m2 8 4 0 f = m f
      rw [yw_nF (by omega), hm2.1 f (by simp only [List.mem_cons, List.not_mem_nil, or_false, not_or]; omega), yw_nF (by omega), f1.1 f (by simp only [List.mem_cons, List.not_mem_nil, or_false, not_or]; omega)]
    · refine (rw1 r r0 r4).trans (RwE.trans (RwE.of (m' := yw m1 41 0 1) (yw_nF (by decide)) (yw_nF (by decide)) (yw_nF (by decide))) ((RwE.cp hm2 r4).trans ⟨?_, ?_, fun j _ _ => ?_⟩))
      · show yw m2 8 4 0 7 r = m2 7 r
        rw [yw_nF (by decide)]
      · show yw m2 8 4 0 8 r = m2 8 r
        rw [yw_ni r4]
      · show yw m2 8 4 0 6 j = m2 6 j
        rw [yw_nF (by decide)]
    · show yw m2 8 4 0 41 0 = 1
      rw [yw_nF (by decide), hm2.1 41 (by decide), yw_eq]
theorem y_fd_to1 (h0 : 0 ≤ i ∧ i ≤ e) (hto : e < to ∧ to ≤ 2000) (h2 : e - i = 2) (hw : mtR wTo (m 2) i e) (h41 : 0 < m 41 0) : nk_Y_field_70 i to e m = some (0, m) := by
  rw [y_70n h0 hto (fun z => by omega), y_223n h0 (by omega) (fun z => by omega)]
  unfold nk_Y_field_423
  rw [if_pos h2, (y_word (w := wTo) (by decide) (by decide) ⟨h0.1, by omega⟩ (by omega)).1 hw]
  simp only [Option.bind_some]
  rw [if_neg (by decide), if_pos h41]
end R3
