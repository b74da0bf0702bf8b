/-! THE WORDS OF A STEP, in both -/
def stW : List (List Int) := [[116, 101, 120, 116], [99, 108, 97, 115, 115], [97, 100, 100], [100, 101, 108], [118, 97, 108], [103, 111], [103, 101, 116], [112, 117, 116], [114, 101, 97, 100], [119, 97, 105, 116], [115, 116, 111, 112]]
abbrev stK (j : Int) : List Int := stW.getD j.toNat []
/-- which word it is; -1 if none -/
def OPS (l : List Int) (r : Int) : Prop := (r = -1 ∧ ∀ j, 0 ≤ j → j < 11 → stK j ≠ l) ∨ ((0 ≤ r ∧ r < 11) ∧ stK r = l)
/-- the next blank -/
def bkA (g : Int → Int) (i to : Int) : Int := sc (fun j => g j ≠ 32) i to
def skA (g : Int → Int) (i to : Int) : Int := sc (fun j => isSm (g j)) i to
section M1
variable {n n' : NS} {m m' : YS} {A B N k v M b d fr to L i r c st q : Int} {o e p g : Int → Int} {w l : List Int}
theorem stK_in {j : Int} (h0 : 0 ≤ j) (h1 : j < 11) : 1 ≤ (stK j).length ∧ (stK j).length ≤ 5 ∧ ∀ x ∈ stK j, isSm x := by
  rcases (show j = 0 ∨ j = 1 ∨ j = 2 ∨ j = 3 ∨ j = 4 ∨ j = 5 ∨ j = 6 ∨ j = 7 ∨ j = 8 ∨ j = 9 ∨ j = 10 by omega) with y | y | y | y | y | y | y | y | y | y | y <;> subst y <;> decide
theorem OPS.un {r' : Int} (h : OPS l r) (h' : OPS l r') : r = r' := by
  have inj : ∀ a b : Int, 0 ≤ a → a < 11 → 0 ≤ b → b < 11 → stK a = stK b → a = b := fun a b a0 a1 b0 b1 he => by
    have : ∀ x y : Fin 11, stW.getD x.val [] = stW.getD y.val [] → x = y := by decide
    have := this ⟨a.toNat, by omega⟩ ⟨b.toNat, by omega⟩ he
    have := congrArg Fin.val this
    have : a.toNat = b.toNat := this
    omega
  rcases h with ⟨a, b⟩ | ⟨a, b⟩ <;> rcases h' with ⟨c, d⟩ | ⟨c, d⟩
  · omega
  · exact absurd d (b r' c.1 c.2)
  · exact absurd b (d r a.1 a.2)
  · exact inj r r' a.1 a.2 c.1 c.2 (by rw [b, d])
theorem wpF_sp : ∀ (ws : List (List Int)) (k : Int), (wpF ws l k = -1 ∧ l ∉ ws) ∨ ∃ i : Nat, i < ws.length ∧ wpF ws l k = k + i ∧ ws.getD i [] = l := by
  intro ws
  induction ws with
  | nil => intro k; exact .inl ⟨rfl, by simp⟩
  | cons x ws ih =>
    intro k
    by_cases z : x = l
    · exact .inr ⟨0, by simp, by unfold wpF; rw [if_pos z.symm]; simp, by simp [z]⟩
    · have e1 : wpF (x :: ws) l k = wpF ws l (k + 1) := by
        show (if l = x then k else wpF ws l (k + 1)) = _
        rw [if_neg (Ne.symm z)]
      rcases ih (k + 1) with ⟨y1, y2⟩ | ⟨j, y1, y2, y3⟩
      · exact .inl ⟨by rw [e1]; exact y1, by simp only [List.mem_cons, not_or]; exact ⟨Ne.symm z, y2⟩⟩
      · exact .inr ⟨j + 1, by simp; exact y1, by rw [e1, y2]; push_cast; omega, by simpa using y3⟩
theorem c_what (hs : tx n d g L) (hf : 0 ≤ fr ∧ fr ≤ to ∧ to ≤ L ∧ L ≤ 2000) : ∃ r, N_Bytes_wordPlace 1000022 d fr to n = some r ∧ OPS (sg g fr (to - fr).toNat) r := by
  refine ⟨_, cs_wordPlace (ws := stW) hs okS22 (by decide) (by decide) hf.2.2.1 hf.1 hf.2.1 (by omega), ?_⟩
  rcases wpF_sp (l := sg g fr (to - fr).toNat) stW 0 with ⟨y1, y2⟩ | ⟨j, y1, y2, y3⟩
  · refine .inl ⟨y1, fun i i0 i1 z => y2 ?_⟩
    rw [← z]
    unfold stK
    rw [List.getD_eq_getElem?_getD, List.getElem?_eq_getElem (by show i.toNat < 11; omega)]
    exact List.getElem_mem _
  · have hl : stW.length = 11 := rfl
    refine .inr ⟨by rw [y2]; omega, ?_⟩
    rw [y2]
    show stW.getD (0 + (j : Int)).toNat [] = _
    rw [show (0 + (j : Int)).toNat = j by omega]; exact y3
theorem c_blankAt (hs : tx n d g L) (hf : 0 ≤ fr ∧ fr ≤ to ∧ to ≤ L ∧ L ≤ 2000) : N_Acts_blankAt d fr to n = some (bkA g fr to) := by
  unfold N_Acts_blankAt
  rw [bind_id]
  unfold NL_Acts_blankAt_2
  refine ev_scan (fun x x1 x2 => ?_)
  unfold nb_Acts_blankAt_2
  refine ev_if (fun hlt => ev_tx hs ⟨by omega, by omega⟩ (fun e => ?_)) (fun hge => ev_ok (.inr ⟨rfl, fun z => hge z.1⟩))
  rw [e]
  exact ev_if (fun he => ev_ok (.inr ⟨rfl, fun z => z.2 he⟩)) (fun hne => ev_ck (by omega) (ev_ok (.inl ⟨rfl, hlt, hne⟩)))
theorem y_small2 (hf : 0 ≤ fr ∧ fr ≤ to ∧ to ≤ 2000) : NL_Y_step_2 fr to fr m = some (skA (m 159) fr to) := by
  unfold NL_Y_step_2
  refine ev_scan (fun x x1 x2 => ?_)
  unfold nb_Y_step_2
  refine ev_if (fun hlt => ev_ix (by omega) (ev_bz ys_small (fun hp => ?_) (fun hp => ?_))) (fun hge => ev_ok (.inr ⟨rfl, fun z => hge z.1⟩))
  · rw [if_neg (by decide)]; exact ev_ck (by omega) (ev_ok (.inl ⟨rfl, hlt, hp⟩))
  · rw [if_pos rfl]; exact ev_ok (.inr ⟨rfl, fun z => hp z.2⟩)
theorem y_stW {j : Int} (h0 : 0 ≤ j) (h1 : j < 11) : ∃ W, N_Y_stepWord j m = some W ∧ (0 ≤ W ∧ W < 36893488147419103232) ∧ wl W = stK j := by
  rcases (show j = 0 ∨ j = 1 ∨ j = 2 ∨ j = 3 ∨ j = 4 ∨ j = 5 ∨ j = 6 ∨ j = 7 ∨ j = 8 ∨ j = 9 ∨ j = 10 by omega) with y | y | y | y | y | y | y | y | y | y | y <;> subst y <;> exact ⟨_, rfl, by decide, by decide⟩
theorem y_op (hf : 0 ≤ fr ∧ fr ≤ k ∧ k ≤ to ∧ to ≤ 2000) : ∃ r, NL_Y_step_31 fr to k (-1) 0 m = some r ∧ OPS (sg (m 159) fr (k - fr).toNat) r := by
  have : ev (NL_Y_step_31 fr to k (-1) 0 m) (fun r => OPS (sg (m 159) fr (k - fr).toNat) r) := by
    unfold NL_Y_step_31
    refine ev_it (fun s : Int × Int => (0 ≤ s.2 ∧ s.2 ≤ 11) ∧ ((s.1 = -1 ∧ ∀ j, 0 ≤ j → j < s.2 → stK j ≠ sg (m 159) fr (k - fr).toNat) ∨ ((0 ≤ s.1 ∧ s.1 < 11) ∧ stK s.1 = sg (m 159) fr (k - fr).toNat))) (fun s => 11 - s.2) (fun s hs => ?_) ⟨by show (0 : Int) ≤ 0 ∧ (0 : Int) ≤ 11; decide, .inl ⟨rfl, fun j x y => by have y : j < 0 := y; omega⟩⟩
    obtain ⟨a, c⟩ := s
    obtain ⟨g1, g2⟩ := hs
    simp only at g1 g2
    show ev (nb_Y_step_31 fr to k a c m) _
    unfold nb_Y_step_31
    refine ev_if (fun hlt => ?_) (fun hge => ev_inr ?_)
    · obtain ⟨W, eW, hW, hl⟩ := y_stW (m := m) g1.1 hlt
      rw [eW]
      simp only [Option.bind_some]
      rw [ys_lengthOf hW, hl]
      simp only [Option.bind_some]
      have next : stK c ≠ sg (m 159) fr (k - fr).toNat → ev (ck (c + 1) (some (Sum.inl (a, c + 1)))) (lp (fun s : Int × Int => (0 ≤ s.2 ∧ s.2 ≤ 11) ∧ ((s.1 = -1 ∧ ∀ j, 0 ≤ j → j < s.2 → stK j ≠ sg (m 159) fr (k - fr).toNat) ∨ ((0 ≤ s.1 ∧ s.1 < 11) ∧ stK s.1 = sg (m 159) fr (k - fr).toNat))) (fun s => 11 - s.2) (a, c) (fun r => OPS (sg (m 159) fr (k - fr).toNat) r)) := fun hne => by
        refine ev_ck (by omega) (ev_inl ⟨⟨by show 0 ≤ c + 1 ∧ c + 1 ≤ 11; omega, ?_⟩, by show 11 - (c + 1) < 11 - c; omega, by show 0 ≤ 11 - c; omega⟩)
        rcases g2 with y | y
        · refine .inl ⟨y.1, fun j x z => ?_⟩
          have z : j < c + 1 := z
          by_cases u : j = c
          · rw [u]; exact hne
          · exact y.2 j x (by omega)
        · exact .inr y
      have hlen : ((sg (m 159) fr (k - fr).toNat).length : Int) = k - fr := by rw [sg_len]; omega
      refine ev_ck (by omega) (ev_if (fun he => ?_) (fun hne => next (fun z => hne (by rw [z]; exact hlen))))
      have hm := mtR_sg (g := m 159) (stK c) fr (to := k) (by omega)
      refine ev_bz (ys_isWord (f := 159) hW (by show _ ≤ (2000 : Int); omega) hf.1 (by omega) (by omega)) (fun hp => ?_) (fun hp => ?_)
      · rw [if_neg (by decide)]
        rw [hl] at hp
        refine ev_ck (by omega) (ev_inl ⟨⟨by show 0 ≤ c + 1 ∧ c + 1 ≤ 11; omega, .inr ⟨⟨g1.1, hlt⟩, (hm.mp hp).symm⟩⟩, by show 11 - (c + 1) < 11 - c; omega, by show 0 ≤ 11 - c; omega⟩)
      · rw [if_pos rfl]
        rw [hl] at hp
        exact next (fun z => hp (hm.mpr z.symm))
    · rcases g2 with y | y
      · exact .inl ⟨y.1, fun j x z => y.2 j x (by omega)⟩
      · exact .inr y
  obtain ⟨r, er, hr⟩ := this
  exact ⟨r, er, hr⟩
/-- both see the same word, or none -/
theorem head (hf : fr < to) (hst : st = bkA g fr to) (hk : k = skA g fr to) (hc : OPS (sg g fr (st - fr).toNat) c) (hr : OPS (sg g fr (k - fr).toNat) r) : (c ≠ -1 ∧ r = c ∧ k = st ∧ (st = to ∨ g st = 32) ∧ st ≤ to) ∨ (c = -1 ∧ (r = -1 ∨ (k < to ∧ g k ≠ 32))) := by
  have hs := scx_scn (p := fun j => g j ≠ 32) fr to
  have hs2 := scx_scn (p := fun j => isSm (g j)) fr to
  have s1 : fr ≤ st ∧ st ≤ to := by rw [hst]; exact ⟨scx_ge _ _, scx_le (by omega)⟩
  have s2 : fr ≤ k ∧ k ≤ to := by rw [hk]; exact ⟨scx_ge _ _, scx_le (by omega)⟩
  have s3 : st < to → g st = 32 := fun y => by
    have := hs.2.2.2
    unfold bkA at hst
    rw [← hst] at this
    exact Classical.byContradiction (fun q => this y q)
  have s4 : ∀ j, fr ≤ j → j < st → g j ≠ 32 := fun j a b => by unfold bkA at hst; exact hs.2.2.1 j a (by rw [← hst]; exact b)
  have s5 : ∀ j, fr ≤ j → j < k → isSm (g j) := fun j a b => by unfold skA at hk; exact hs2.2.2.1 j a (by rw [← hk]; exact b)
  have s6 : k < to → ¬ isSm (g k) := fun y => by
    have := hs2.2.2.2
    unfold skA at hk
    rw [← hk] at this
    exact this y
  rcases hc with ⟨c1, c2⟩ | ⟨c1, c2⟩
  · refine .inr ⟨c1, ?_⟩
    rcases hr with ⟨r1, _⟩ | ⟨r1, r2⟩
    · exact .inl r1
    · refine .inr ?_
      by_cases y : k < to ∧ g k ≠ 32
      · exact y
      · exfalso
        have hks : k = st := by
          by_cases u : st < k
          · have := s5 st s1.1 u
            rw [s3 (by omega)] at this; unfold isSm at this; omega
          · by_cases u2 : k < st
            · exact absurd ⟨by omega, s4 k s2.1 u2⟩ y
            · omega
        rw [hks] at r2
        exact c2 r r1.1 r1.2 r2
  · have hin := stK_in c1.1 c1.2
    rw [c2] at hin
    have hall : ∀ j, fr ≤ j → j < st → isSm (g j) := fun j a b => hin.2.2 (g j) (by
      have := sg_at (g := g) (st - fr).toNat fr (j - fr).toNat (by omega)
      rw [show fr + (((j - fr).toNat : Nat) : Int) = j by omega] at this
      exact this)
    have hks : k = st := by
      by_cases u : st < k
      · have := s5 st s1.1 u
        rw [s3 (by omega)] at this; unfold isSm at this; omega
      · by_cases u2 : k < st
        · exact absurd (hall k s2.1 u2) (s6 (by omega))
        · omega
    rw [hks] at hr
    refine .inl ⟨by omega, OPS.un hr (.inr ⟨c1, c2⟩), hks, ?_, s1.2⟩
    by_cases u : st = to
    · exact .inl u
    · exact .inr (s3 (by omega))
/-- both see the same NAME, or none -/
theorem nameHead (hq : q ≤ to) (hst : st = bkA g q to) : (nmE g q to ≠ q ∧ (nmE g q to = to ∨ g (nmE g q to) = 32) ∧ nmE g q to = st ∧ q < st ∧ nmC g q st = st) ∨ (¬ (nmE g q to ≠ q ∧ (nmE g q to = to ∨ g (nmE g q to) = 32)) ∧ ¬ (q < st ∧ nmC g q st = st)) := by
  have hs := scx_scn (p := fun j => g j ≠ 32) q to
  have s1 : q ≤ st ∧ st ≤ to := by rw [hst]; exact ⟨scx_ge _ _, scx_le hq⟩
  have s3 : st < to → g st = 32 := fun y => by
    have := hs.2.2.2
    unfold bkA at hst
    rw [← hst] at this
    exact Classical.byContradiction (fun u => this y u)
  have s4 : ∀ j, q ≤ j → j < st → g j ≠ 32 := fun j a b => by unfold bkA at hst; exact hs.2.2.1 j a (by rw [← hst]; exact b)
  have hn := scx_scn (p := fun j => isNm (g j)) q to
  have hnl := scx_le (p := fun j => isNm (g j)) (i := q) (to := to) hq
  by_cases h2 : q < st ∧ nmC g q st = st
  · have hE := nmC_nmE (g := g) (k := q) (to := to) (A := st) h2.1 s1.2 h2.2 (fun y => by rw [s3 y]; unfold isNm; omega)
    refine .inl ⟨by rw [hE]; omega, ?_, hE, h2.1, h2.2⟩
    rw [hE]
    by_cases u : st = to
    · exact .inl u
    · exact .inr (s3 (by omega))
  · refine .inr ⟨fun h => h2 ?_, h2⟩
    obtain ⟨h1, h3⟩ := h
    unfold nmE at h1 h3
    by_cases hsm : q < to ∧ isSm (g q)
    · rw [if_pos hsm] at h1 h3
      by_cases h8 : 8 < sc (fun j => isNm (g j)) q to - q
      · rw [if_pos h8] at h1; exact absurd rfl h1
      · rw [if_neg h8] at h1 h3
        have hst2 : st = sc (fun j => isNm (g j)) q to := by
          by_cases u : st < sc (fun j => isNm (g j)) q to
          · have this : isNm (g st) := hn.2.2.1 st s1.1 u
            rw [s3 (by omega)] at this; unfold isNm at this; omega
          · by_cases u2 : sc (fun j => isNm (g j)) q to < st
            · rcases h3 with y | y
              · omega
              · exact absurd y (s4 _ hn.1 u2)
            · omega
        have hlt : q < st := by have := hn.1; omega
        exact ⟨hlt, nmC_all hlt (by omega) hsm.2 (fun j a b => hn.2.2.1 j a (by omega))⟩
    · rw [if_neg hsm] at h1; exact absurd rfl h1
theorem nmC_in (h : q < st ∧ nmC g q st = st) : st ≤ q + 8 ∧ ∀ j, q ≤ j → j < st → isNm (g j) := by
  have hb := nmC_b (g := g) (i := q) (to := st) (by omega)
  have hn := scx_scn (p := fun j => isNm (g j)) q st
  have h2 := h.2
  unfold nmC at h2
  by_cases hsm : q < st ∧ isSm (g q)
  · rw [if_pos hsm] at h2
    have hl := scx_le (p := fun j => isNm (g j)) (i := q) (to := st) (by omega)
    exact ⟨by omega, fun j a b => hn.2.2.1 j a (by omega)⟩
  · rw [if_neg hsm] at h2; omega
end M1
