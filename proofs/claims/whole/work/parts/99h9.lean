/-! AN INPUT begins, in both; the reference's new element -/
def wVal : List Int := [118, 97, 108, 117, 101]
def wChkd : List Int := [99, 104, 101, 99, 107, 101, 100]
theorem sg_tk {g : Int → Int} : ∀ (k l : Nat) (i : Int), (sg g i k).take l = sg g i (min l k) := by
  intro k
  induction k with
  | zero => intro l i; rw [Nat.min_zero]; cases l <;> rfl
  | succ k ih =>
    intro l i
    cases l with
    | zero => rw [Nat.zero_min]; rfl
    | succ l =>
      rw [show min (l + 1) (k + 1) = min l k + 1 by omega]
      show g i :: (sg g (i + 1) k).take l = g i :: sg g (i + 1) (min l k)
      rw [ih]
section H9
variable {n n' n'' : NS} {m m' : YS} {A B f v c b t i v2 : Int} {w s : List Int} {q : Nat}
theorem ATs.cg (h : ATs n m f) (h7 : n' 7 f 12 = n 7 f 12) (h18 : n' 18 f = n 18 f) (hb : ∀ a, 0 ≤ a → a < 4 → bt n' (5 * f + 1 + a) = bt n (5 * f + 1 + a)) : ATs n' m f := by
  refine ⟨by rw [h7]; exact h.1, fun a a0 a1 => ?_⟩
  have := h.2 a a0 a1
  unfold NA at *
  rw [h18, hb a a0 (by have := h.1; omega)]; exact this
theorem ATs.y (h : ATs n m f) (hy : ∀ g, 56 ≤ g → g ≤ 60 → m' g = m g) : ATs n m' f := by
  unfold ATs NA anL avL at *
  rw [hy 56 (by decide) (by decide), hy 57 (by decide) (by decide), hy 58 (by decide) (by decide), hy 59 (by decide) (by decide), hy 60 (by decide) (by decide)]; exact h
theorem fnd_b : 0 ≤ fnd m f w := scx_ge _ _
theorem c_findW (hA : ATs n m f) (hs : okS q w) (hw : ∀ c ∈ w, isBt c) (h8 : w.length ≤ 8) : ∃ z, N_Bytes_pack_1 q n = some z ∧ N_Node_find f z n = some (if fnd m f w < m 56 f then 5 * f + 1 + fnd m f w else -1) := ⟨_, cs_packW hs hw h8, c_findA hA hw⟩
/-- the class's marks of an INPUT -/
theorem c_start27 (hA : ATs n m f) (hB : BI A B n) (hf : 0 ≤ f ∧ f < 120) : ∃ x y, nk_Node_startInput_27 f n = some (nw (nw n 7 f 15 x) 7 f 16 y) ∧ bz (chkL m f) x ∧ bz (chkL m f ∧ fnd m f wChkd < m 56 f) y := by
  have hc := hA.1
  obtain ⟨z, e1, e2⟩ := c_findW hA okS16 (w := wType) (by decide) (by decide)
  have e56 : ∀ x, inZ x → nk_Node_startInput_56 f x f n = if x = 0 then nk_Node_startInput_83 f (nw n 7 f 15 x) else (N_Bytes_pack_1 1000018 (nw n 7 f 15 x)).bind fun z10 => (N_Node_find f z10 (nw n 7 f 15 x)).bind fun z14 => if z14 < 0 then nk_Node_startInput_83 f (nw n 7 f 15 x) else nk_Node_startInput_84 1 f (nw n 7 f 15 x) := fun x hx => by
    unfold nk_Node_startInput_56 cz st
    rw [if_pos hx]
    dsimp only
    rw [nw_eq]
  have e84 : ∀ x y, inZ y → nk_Node_startInput_84 y f (nw n 7 f 15 x) = some (nw (nw n 7 f 15 x) 7 f 16 y) := fun x y hy => by
    unfold nk_Node_startInput_84 cz st
    rw [if_pos hy]
  unfold nk_Node_startInput_27
  rw [e1]
  simp only [Option.bind_some]
  rw [e2]
  simp only [Option.bind_some]
  have no : ¬ chkL m f → ∃ x y, nk_Node_startInput_55 f f n = some (nw (nw n 7 f 15 x) 7 f 16 y) ∧ bz (chkL m f) x ∧ bz (chkL m f ∧ fnd m f wChkd < m 56 f) y := fun h => by
    refine ⟨0, 0, ?_, .inr ⟨rfl, h⟩, .inr ⟨rfl, fun z => h z.1⟩⟩
    unfold nk_Node_startInput_55
    rw [e56 0 (by decide), if_pos rfl]
    unfold nk_Node_startInput_83
    exact e84 0 0 (by decide)
  have hf0 := fnd_b (m := m) (f := f) (w := wType)
  by_cases h1 : fnd m f wType < m 56 f
  · rw [if_pos h1, if_neg (by omega)]
    obtain ⟨r, er, hr⟩ := cs_is (n := n) (b := 5 * f + 1 + fnd m f wType) ⟨by omega, by omega⟩ hB okS17 (by decide)
    have hav := (hA.2 _ hf0 h1).2.2.2.2.2
    rw [er]
    simp only [Option.bind_some]
    rcases hr with ⟨r1, r2⟩ | ⟨r1, r2⟩
    · have hck : chkL m f := ⟨h1, by rw [← hav]; exact r2⟩
      rw [if_neg (by omega), e56 1 (by decide), if_neg (by decide)]
      have hA' : ATs (nw n 7 f 15 1) m f := hA.cg (nw_ns (by decide)) (by rw [nw_nK (by decide)]) (fun a _ _ => bt_n7)
      obtain ⟨z', e1', e2'⟩ := c_findW hA' okS18 (w := wChkd) (by decide) (by decide)
      rw [e1']
      simp only [Option.bind_some]
      rw [e2']
      simp only [Option.bind_some]
      have hf1 := fnd_b (m := m) (f := f) (w := wChkd)
      by_cases h2 : fnd m f wChkd < m 56 f
      · rw [if_pos h2, if_neg (by omega)]
        exact ⟨1, 1, e84 1 1 (by decide), .inl ⟨rfl, hck⟩, .inl ⟨rfl, hck, h2⟩⟩
      · rw [if_neg h2, if_pos (by decide)]
        refine ⟨1, 0, ?_, .inl ⟨rfl, hck⟩, .inr ⟨rfl, fun z => h2 z.2⟩⟩
        unfold nk_Node_startInput_83
        exact e84 1 0 (by decide)
    · rw [if_pos r1]
      exact no (fun z => r2 (by rw [hav]; exact z.2))
  · rw [if_neg h1, if_pos (by decide)]
    exact no (fun z => h1 z.1)
theorem c_startInput (hA : ATs n m f) (hB : BI A B n) (hf : 0 ≤ f ∧ f < 120) : ∃ n', N_Node_startInput f n = some n' ∧ BI A B n' ∧ FN f n n' ∧ (∀ s, s ≠ 15 → s ≠ 16 → n' 7 f s = n 7 f s) ∧ n' 18 = n 18 ∧ (∀ a, 0 ≤ a → a < 4 → bt n' (5 * f + 1 + a) = bt n (5 * f + 1 + a)) ∧ bt n' (5 * f) = (if fnd m f wVal < m 56 f then (avL m f (fnd m f wVal)).take 24 else bt n (5 * f)) ∧ bz (chkL m f) (n' 7 f 15) ∧ bz (chkL m f ∧ fnd m f wChkd < m 56 f) (n' 7 f 16) := by
  have hc := hA.1
  obtain ⟨z, e1, e2⟩ := c_findW hA okS15 (w := wVal) (by decide) (by decide)
  have hf0 := fnd_b (m := m) (f := f) (w := wVal)
  have fin : ∀ n1, ATs n1 m f → BI A B n1 → ∃ n', nk_Node_startInput_27 f n1 = some n' ∧ BI A B n' ∧ FN f n1 n' ∧ (∀ s, s ≠ 15 → s ≠ 16 → n' 7 f s = n1 7 f s) ∧ n' 18 = n1 18 ∧ (∀ b, bt n' b = bt n1 b) ∧ bz (chkL m f) (n' 7 f 15) ∧ bz (chkL m f ∧ fnd m f wChkd < m 56 f) (n' 7 f 16) := fun n1 hA1 hB1 => by
    obtain ⟨x, y, e3, hx, hy⟩ := c_start27 hA1 hB1 hf
    refine ⟨_, e3, hB1.n7.n7, FN.nw7.trans FN.nw7, fun s s1 s2 => by rw [nw_ns s2, nw_ns s1], by rw [nw_nK (by decide), nw_nK (by decide)], fun b => by rw [bt_n7, bt_n7], ?_, ?_⟩
    · rw [nw_ns (by decide), nw_eq]; exact hx
    · rw [nw_eq]; exact hy
  unfold N_Node_startInput
  rw [e1]
  simp only [Option.bind_some]
  rw [e2]
  simp only [Option.bind_some]
  by_cases h1 : fnd m f wVal < m 56 f
  · rw [if_pos h1, if_neg (by omega), if_pos h1]
    generalize ha : fnd m f wVal = a at *
    have hrow : 0 ≤ 5 * f + 1 + a ∧ 5 * f + 1 + a ≤ 631 := by omega
    have hb1 := hB.1 _ hrow.1 hrow.2
    have hlim : lim (5 * f + 1 + a) = 60 := by unfold lim; rw [if_pos (by omega), if_neg (by omega)]
    have hz1 := hb1.2.2.2.1
    rw [hlim] at hz1
    have hav := (hA.2 _ hf0 h1).2.2.2.2.2
    obtain ⟨n1, c1, B1, F1, t1⟩ := cs_clear (b := 5 * f) ⟨by omega, by omega⟩ hB
    have htx := F1.tx (hB.txb hrow) hb1.2.1.2 (fun x hx y => by
      have := hB.2.1 (5 * f + 1 + a) x hrow.1 hrow.2 (by omega) (by omega) y
      omega)
    obtain ⟨n2, c2, B2, F2, t2⟩ := cs_addAll (b := 5 * f) (i := 0) (to := min (n 4 (5 * f + 1 + a) 2) (0 + 24)) ⟨by omega, by omega⟩ B1 htx (by have := F1.2.2.1; have := hb1.2.1.2; omega) (by omega) (by omega) ⟨by omega, by omega, by omega⟩ (fun y => by
      rcases F1.2.2.2.2.2 (5 * f) rfl with x | x
      · rw [x] at y
        have := hB.2.1 (5 * f + 1 + a) (5 * f) hrow.1 hrow.2 (by omega) (by omega) y
        omega
      · have := hb1.2.1.2
        omega)
    have eS : N_Node_setValue f (n 4 (5 * f + 1 + a) 1) 0 (n 4 (5 * f + 1 + a) 2) n = some n2 := by
      unfold N_Node_setValue ck
      rw [c1]
      simp only [Option.bind_some]
      rw [if_pos (by decide), c2]; rfl
    have FF : FN f n n2 := (FN.fb F1 (fun x hx => by omega)).trans (FN.fb F2 (fun x hx => by omega))
    have e7 : n2 7 = n 7 := by rw [F2.1 7 (by decide) (by decide) (by decide) (by decide) (by decide) (by decide), F1.1 7 (by decide) (by decide) (by decide) (by decide) (by decide) (by decide)]
    have e18 : n2 18 = n 18 := by rw [F2.1 18 (by decide) (by decide) (by decide) (by decide) (by decide) (by decide), F1.1 18 (by decide) (by decide) (by decide) (by decide) (by decide) (by decide)]
    have eb : ∀ x, 0 ≤ x → x < 4 → bt n2 (5 * f + 1 + x) = bt n (5 * f + 1 + x) := fun x x0 x1 => by
      rw [(F2.bts B1 (b := 5 * f + 1 + x) ⟨by omega, by omega⟩ (by omega) (fun y hy => by omega)).2.2, (F1.bts hB (b := 5 * f + 1 + x) ⟨by omega, by omega⟩ (by omega) (fun y hy => by omega)).2.2]
    have hA2 : ATs n2 m f := hA.cg (by rw [e7]) (by rw [e18]) eb
    obtain ⟨n3, x1, x2, x3, x4, x5, x6, x7, x8⟩ := fin n2 hA2 B2
    refine ⟨n3, ?_, x2, FF.trans x3, fun s s1 s2 => by rw [x4 s s1 s2, e7], by rw [x5, e18], fun y y0 y1 => by rw [x6, eb y y0 y1], ?_, x7, x8⟩
    · unfold nn
      rw [if_pos hb1.2.1.1, eS]
      simp only [Option.bind_some]
      exact x1
    · rw [x6, t2, t1, List.nil_append, ← hav]
      unfold bt
      rw [lim_5 (by omega), sg_tk, sg_tk]
      congr 1
      show min 400 _ = _
      omega
  · rw [if_neg h1, if_pos (by decide), if_neg h1]
    obtain ⟨n3, x1, x2, x3, x4, x5, x6, x7, x8⟩ := fin n hA hB
    exact ⟨n3, x1, x2, x3, x4, x5, fun a _ _ => x6 _, x6 _, x7, x8⟩
theorem y_isCheck (hA : ATs n m f) (hf : 0 ≤ f ∧ f < 120) (h13 : m 46 f = 13) : ev (N_Y_isCheck f m) (bz (chkL m f)) := by
  have hf0 := fnd_b (m := m) (f := f) (w := wType)
  have e1 := y_findA (W := 181044) hA hf ⟨by decide, by decide⟩
  rw [show wl 181044 = wType by decide] at e1
  unfold N_Y_isCheck
  rw [e1]
  simp only [Option.bind_some]
  refine ev_ix hf ?_
  rw [if_pos h13]
  have hc := hA.1
  by_cases h1 : fnd m f wType < m 56 f
  · rw [if_pos h1, if_neg (by omega)]
    have ha := hA.2 _ hf0 h1
    generalize hk : fnd m f wType = a at *
    refine ev_ix (by omega) (ev_if (fun h5 => ev_ck (by omega) (ev_ck (by omega) (ev_ck (by omega) (ev_bz (ys_isWord (f := 59) (w := 11638019) ⟨by decide, by decide⟩ (by show _ ≤ ((28800 : Nat) : Int); omega) (by omega) (by omega) (by omega)) (fun hp => ?_) (fun hp => ?_))))) (fun h5 => ev_0 (fun z => h5 ?_)))
    · rw [if_neg (by decide)]
      rw [show wl 11638019 = wCheck by decide, mtR_sg wCheck _ (by show _ + ((5 : Nat) : Int) = _; omega)] at hp
      refine ev_1 ⟨by rw [hk]; exact h1, ?_⟩
      rw [hk]
      unfold avL
      rw [h5]
      rw [show (60 * (4 * f + a) + 5 - 60 * (4 * f + a)).toNat = (5 : Int).toNat by omega] at hp
      exact hp
    · rw [if_pos rfl]
      rw [show wl 11638019 = wCheck by decide, mtR_sg wCheck _ (by show _ + ((5 : Nat) : Int) = _; omega)] at hp
      refine ev_0 (fun z => hp ?_)
      have z2 := z.2
      rw [hk] at z2
      unfold avL at z2
      rw [h5] at z2
      rw [show (60 * (4 * f + a) + 5 - 60 * (4 * f + a)).toNat = (5 : Int).toNat by omega]
      exact z2
    · have z2 := z.2
      rw [hk] at z2
      have hl : (avL m f a).length = 5 := by rw [z2]; rfl
      unfold avL at hl
      rw [sg_len] at hl
      omega
  · rw [if_neg h1, if_pos rfl]
    exact ev_0 (fun z => h1 z.1)
theorem y_settle (hA : ATs n m f) (hf : 0 ≤ f ∧ f < 120) (h13 : m 46 f = 13) : ev (N_Y_settleInput f m) (fun m' => FY [64, 65, 66] m m' ∧ (∀ u, u ≠ f → m' 65 u = m 65 u ∧ m' 66 u = m 66 u) ∧ (∀ j, ¬ (24 * f ≤ j ∧ j < 24 * f + 24) → m' 64 j = m 64 j) ∧ (0 ≤ m' 65 f ∧ m' 65 f ≤ 24) ∧ vaL m' f = (if fnd m f wVal < m 56 f then (avL m f (fnd m f wVal)).take 24 else []) ∧ bz (chkL m f ∧ fnd m f wChkd < m 56 f) (m' 66 f)) := by
  have hc := hA.1
  have hf0 := fnd_b (m := m) (f := f) (w := wVal)
  have e1 := y_findA (W := 5943350) hA hf ⟨by decide, by decide⟩
  rw [show wl 5943350 = wVal by decide] at e1
  -- the bytes and the marks
  have fin : ∀ z x, 0 ≤ x → x ≤ 24 → (0 < x → 0 ≤ z ∧ z < 480 ∧ x ≤ m 60 z ∧ m 60 z ≤ 60) → ev (nk_Y_settleInput_46 f z x f m) (fun m' => FY [64, 65, 66] m m' ∧ (∀ u, u ≠ f → m' 65 u = m 65 u ∧ m' 66 u = m 66 u) ∧ (∀ j, ¬ (24 * f ≤ j ∧ j < 24 * f + 24) → m' 64 j = m 64 j) ∧ m' 65 f = x ∧ (∀ j, 0 ≤ j → j < x → m' 64 (24 * f + j) = m 59 (60 * z + j)) ∧ bz (chkL m f ∧ fnd m f wChkd < m 56 f) (m' 66 f)) := fun z x x0 x1 hz => by
    unfold nk_Y_settleInput_46
    refine ev_ix hf (ev_st ?_)
    generalize hm1 : yw m 65 f x = m1
    have f1 : FY [65] m m1 := fun g hg => by rw [← hm1]; exact yw_nF (by simp only [List.mem_cons, List.not_mem_nil, or_false] at hg; exact hg)
    have e65 : m1 65 f = x := by rw [← hm1, yw_eq]
    refine ev_bind (P := fun m2 => FY [64] m1 m2 ∧ (∀ j, ¬ (24 * f ≤ j ∧ j < 24 * f + 24) → m2 64 j = m 64 j) ∧ (∀ j, 0 ≤ j → j < x → m2 64 (24 * f + j) = m 59 (60 * z + j))) ?_ (fun m2 h2 => ?_)
    · unfold NL_Y_settleInput_49
      refine ev_it (fun s : Int × YS => (0 ≤ s.1 ∧ s.1 ≤ x) ∧ FY [64] m1 s.2 ∧ (∀ j, ¬ (24 * f ≤ j ∧ j < 24 * f + 24) → s.2 64 j = m 64 j) ∧ (∀ j, 0 ≤ j → j < s.1 → s.2 64 (24 * f + j) = m 59 (60 * z + j))) (fun s => x - s.1) (fun s hs => ?_) ⟨⟨Int.le_refl _, x0⟩, fun _ _ => rfl, fun j _ => by show m1 64 j = _; rw [f1 64 (by decide)], fun j a b => by have b : j < 0 := b; omega⟩
      obtain ⟨k, m3⟩ := s
      obtain ⟨g1, g2, g3, g4⟩ := hs
      simp only at g1 g2 g3 g4
      show ev (nb_Y_settleInput_49 f z k m3) _
      unfold nb_Y_settleInput_49
      rw [g2 65 (by decide), e65, g2 59 (by decide), f1 59 (by decide)]
      refine ev_ix hf (ev_if (fun hlt => ?_) (fun hge => ev_inr ⟨g2, g3, fun j a b => g4 j a (by omega)⟩))
      have hz' := hz (by omega)
      refine ev_ck (by omega) (ev_ck (by omega) (ev_ck (by omega) (ev_ck (by omega) (ev_ix (by omega) (ev_ix (by omega) (ev_st (ev_ck (by omega) (ev_inl ⟨⟨by show 0 ≤ k + 1 ∧ k + 1 ≤ x; omega, fun g hg => ?_, fun j hj => ?_, fun j a b => ?_⟩, by show x - (k + 1) < x - k; omega, by show 0 ≤ x - k; omega⟩))))))))
      · show yw m3 64 (24 * f + k) (m 59 (60 * z + k)) g = m1 g
        rw [yw_nF (by simp only [List.mem_cons, List.not_mem_nil, or_false] at hg; exact hg)]; exact g2 g hg
      · show yw m3 64 (24 * f + k) (m 59 (60 * z + k)) 64 j = m 64 j
        rw [yw_ni (by omega)]; exact g3 j hj
      · have b : j < k + 1 := b
        show yw m3 64 (24 * f + k) (m 59 (60 * z + k)) 64 (24 * f + j) = _
        by_cases y : j = k
        · rw [y, yw_eq]
        · rw [yw_ni (by omega)]; exact g4 j a (by omega)
    · obtain ⟨f2, h64, h64'⟩ := h2
      have hA2 : ATs n m2 f := hA.y (fun g a b => by
        rw [f2 g (by simp only [List.mem_cons, List.not_mem_nil, or_false]; omega), f1 g (by simp only [List.mem_cons, List.not_mem_nil, or_false]; omega)])
      have g56 : ∀ g, 56 ≤ g → g ≤ 60 → m2 g = m g := fun g a b => by
        rw [f2 g (by simp only [List.mem_cons, List.not_mem_nil, or_false]; omega), f1 g (by simp only [List.mem_cons, List.not_mem_nil, or_false]; omega)]
      have hfn : ∀ w, fnd m2 f w = fnd m f w := fun w => by unfold fnd anL; rw [g56 56 (by decide) (by decide), g56 57 (by decide) (by decide), g56 58 (by decide) (by decide)]
      have hck : chkL m2 f ↔ chkL m f := by unfold chkL avL; rw [hfn, g56 56 (by decide) (by decide), g56 59 (by decide) (by decide), g56 60 (by decide) (by decide)]
      have h46 : m2 46 f = 13 := by rw [f2 46 (by decide), f1 46 (by decide)]; exact h13
      have res : ∀ y, inZ y → bz (chkL m f ∧ fnd m f wChkd < m 56 f) y → ev (nk_Y_settleInput_117 y f m2) (fun m' => FY [64, 65, 66] m m' ∧ (∀ u, u ≠ f → m' 65 u = m 65 u ∧ m' 66 u = m 66 u) ∧ (∀ j, ¬ (24 * f ≤ j ∧ j < 24 * f + 24) → m' 64 j = m 64 j) ∧ m' 65 f = x ∧ (∀ j, 0 ≤ j → j < x → m' 64 (24 * f + j) = m 59 (60 * z + j)) ∧ bz (chkL m f ∧ fnd m f wChkd < m 56 f) (m' 66 f)) := fun y hy hb => by
        unfold nk_Y_settleInput_117
        refine ev_cz hy (ev_ix hf (ev_st (ev_ok ⟨fun g hg => ?_, fun u hu => ⟨?_, ?_⟩, fun j hj => ?_, ?_, fun j a b => ?_, ?_⟩)))
        · simp only [List.mem_cons, List.not_mem_nil, or_false, not_or] at hg
          rw [yw_nF hg.2.2, f2 g (by simp only [List.mem_cons, List.not_mem_nil, or_false]; exact hg.1), f1 g (by simp only [List.mem_cons, List.not_mem_nil, or_false]; exact hg.2.1)]
        · rw [yw_nF (by decide), f2 65 (by decide), ← hm1, yw_ni hu]
        · rw [yw_ni hu, f2 66 (by decide), f1 66 (by decide)]
        · rw [yw_nF (by decide)]; exact h64 j hj
        · rw [yw_nF (by decide), f2 65 (by decide)]; exact e65
        · rw [yw_nF (by decide)]; exact h64' j a b
        · rw [yw_eq]; exact hb
      refine ev_bz (y_isCheck hA2 hf h46) (fun hp => ?_) (fun hp => ?_)
      · rw [if_neg (by decide)]
        have e3 := y_findA (W := 4474377475) hA2 hf ⟨by decide, by decide⟩
        rw [show wl 4474377475 = wChkd by decide, hfn, g56 56 (by decide) (by decide)] at e3
        rw [e3]
        have hf1 := fnd_b (m := m) (f := f) (w := wChkd)
        show ev (if (if fnd m f wChkd < m 56 f then 4 * f + fnd m f wChkd else -1) = -1 then nk_Y_settleInput_116 f m2 else nk_Y_settleInput_117 1 f m2) _
        by_cases h2 : fnd m f wChkd < m 56 f
        · rw [if_pos h2, if_neg (by omega)]
          exact res 1 (by decide) (.inl ⟨rfl, hck.mp hp, h2⟩)
        · rw [if_neg h2, if_pos rfl]
          unfold nk_Y_settleInput_116
          exact res 0 (by decide) (.inr ⟨rfl, fun y => h2 y.2⟩)
      · rw [if_pos rfl]
        unfold nk_Y_settleInput_116
        exact res 0 (by decide) (.inr ⟨rfl, fun y => hp (hck.mpr y.1)⟩)
  unfold N_Y_settleInput
  refine ev_ix hf ?_
  rw [if_pos h13, e1]
  simp only [Option.bind_some]
  by_cases h1 : fnd m f wVal < m 56 f
  · rw [if_pos h1, if_neg (by omega), if_pos h1]
    have ha := hA.2 _ hf0 h1
    generalize hk : fnd m f wVal = a at *
    refine ev_ix (by omega) (ev_mono (fin (4 * f + a) (min 24 (m 60 (4 * f + a))) (by have := ha.2.2.2.1; omega) (by omega) (fun _ => ⟨by omega, by omega, by omega, ha.2.2.2.1.2⟩)) (fun m' h => ?_))
    obtain ⟨y1, y2, y3, y4, y5, y6⟩ := h
    refine ⟨y1, y2, y3, by have := ha.2.2.2.1; omega, ?_, y6⟩
    unfold vaL avL
    rw [sg_tk, y4, show (min 24 (m 60 (4 * f + a))).toNat = min 24 (m 60 (4 * f + a)).toNat by omega]
    exact sg_cg _ _ _ (fun x hx => y5 x (by omega) (by omega))
  · rw [if_neg h1, if_pos rfl, if_neg h1]
    refine ev_mono (fin (-1) 0 (by decide) (by decide) (fun y => absurd y (by decide))) (fun m' h => ?_)
    obtain ⟨y1, y2, y3, y4, y5, y6⟩ := h
    refine ⟨y1, y2, y3, by omega, ?_, y6⟩
    unfold vaL
    rw [y4]; rfl
end H9
