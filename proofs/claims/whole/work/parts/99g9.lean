/-! WHERE A RUN ENDS; text, raw text and comments, step by step -/
abbrev spA (g : Int → Int) (L j : Int) : Prop := cmA g L j ∨ tgA g L j
section G9
variable {Z : NS × YS} {n n' : NS} {m m' : YS} {A B N i to r bl oc : Int} {o e p qs : Int → Int}
/-- the reference's search -/
theorem y_runScan {S : Int → Prop} [DecidablePred S] (hb : 0 ≤ m 76 0 ∧ m 76 0 ≤ 2000) (hi : 0 ≤ i ∧ i < m 76 0) (hS : ∀ k w, i ≤ k → k < m 76 0 → ev (nk_Y_run_35 i r k w m) (fun x => (x = .inl (k + 1, w, 1) ∧ k + 1 < m 76 0 ∧ ¬ S (k + 1)) ∨ (x = .inl (k + 1, w, 0) ∧ (k + 1 < m 76 0 → S (k + 1))))) : ev (NL_Y_run_8 i r i 1 1 m) (fun x => x.1 = sc (fun j => ¬ S j) (i + 1) (m 76 0) ∧ ((x.2 = 1 ∧ ∀ j, i ≤ j → j < x.1 → isBl (m 75 j)) ∨ (x.2 = 0 ∧ ¬ ∀ j, i ≤ j → j < x.1 → isBl (m 75 j)))) := by
  unfold NL_Y_run_8
  refine ev_itg (I := fun (s : Int × Int × Int) x => ((s.2.1 = 1 ∧ ∀ j, i ≤ j → j < s.1 → isBl (m 75 j)) ∨ (s.2.1 = 0 ∧ ¬ ∀ j, i ≤ j → j < s.1 → isBl (m 75 j))) ∧ ((s.2.2 = 1 ∧ x = m 76 0 - s.1 + 1 ∧ i ≤ s.1 ∧ s.1 < m 76 0 ∧ ∀ j, i + 1 ≤ j → j ≤ s.1 → ¬ S j) ∨ (s.2.2 = 0 ∧ x = 0 ∧ i + 1 ≤ s.1 ∧ s.1 ≤ m 76 0 ∧ (∀ j, i + 1 ≤ j → j < s.1 → ¬ S j) ∧ (s.1 < m 76 0 → S s.1)))) (fun s x hs => ?_) (x := m 76 0 - i + 1) ⟨.inl ⟨rfl, fun j a b => by have b : j < i := b; omega⟩, .inl ⟨rfl, rfl, Int.le_refl _, hi.2, fun j a b => by have b : j ≤ i := b; omega⟩⟩
  obtain ⟨k, w, v⟩ := s
  obtain ⟨hw, hv⟩ := hs
  simp only at hw hv
  show ev (nb_Y_run_8 i r k w v m) _
  unfold nb_Y_run_8
  rcases hv with ⟨v1, v2, v3, v4, v5⟩ | ⟨v1, v2, v3, v4, v5, v6⟩
  · rw [if_neg (by omega)]
    have go : ∀ w', ((w' = 1 ∧ ∀ j, i ≤ j → j < k + 1 → isBl (m 75 j)) ∨ (w' = 0 ∧ ¬ ∀ j, i ≤ j → j < k + 1 → isBl (m 75 j))) → ev (nk_Y_run_35 i r k w' m) (lg (fun (s : Int × Int × Int) x => ((s.2.1 = 1 ∧ ∀ j, i ≤ j → j < s.1 → isBl (m 75 j)) ∨ (s.2.1 = 0 ∧ ¬ ∀ j, i ≤ j → j < s.1 → isBl (m 75 j))) ∧ ((s.2.2 = 1 ∧ x = m 76 0 - s.1 + 1 ∧ i ≤ s.1 ∧ s.1 < m 76 0 ∧ ∀ j, i + 1 ≤ j → j ≤ s.1 → ¬ S j) ∨ (s.2.2 = 0 ∧ x = 0 ∧ i + 1 ≤ s.1 ∧ s.1 ≤ m 76 0 ∧ (∀ j, i + 1 ≤ j → j < s.1 → ¬ S j) ∧ (s.1 < m 76 0 → S s.1)))) x (fun x => x.1 = sc (fun j => ¬ S j) (i + 1) (m 76 0) ∧ ((x.2 = 1 ∧ ∀ j, i ≤ j → j < x.1 → isBl (m 75 j)) ∨ (x.2 = 0 ∧ ¬ ∀ j, i ≤ j → j < x.1 → isBl (m 75 j))))) := fun w' hw' => by
      obtain ⟨y, ey, hy⟩ := hS k w' v3 v4
      rcases hy with ⟨y1, y2, y3⟩ | ⟨y1, y2⟩
      · subst y1
        refine ⟨_, ey, m 76 0 - (k + 1) + 1, ⟨hw', .inl ⟨rfl, rfl, by show i ≤ k + 1; omega, y2, fun j a b => ?_⟩⟩, by omega, by omega⟩
        have b : j ≤ k + 1 := b
        by_cases z : j = k + 1
        · rw [z]; exact y3
        · exact v5 j a (by omega)
      · subst y1
        refine ⟨_, ey, 0, ⟨hw', .inr ⟨rfl, rfl, by show i + 1 ≤ k + 1; omega, by show k + 1 ≤ m 76 0; omega, fun j a b => ?_, y2⟩⟩, by omega, by omega⟩
        have b : j < k + 1 := b
        exact v5 j a (by omega)
    unfold nk_Y_run_34
    refine ev_if (fun z => go 0 (.inr ⟨rfl, fun y => ?_⟩)) (fun z => ev_ix (by omega) (ev_bz ys_blank (fun hp => ?_) (fun hp => ?_)))
    · rcases hw with ⟨w1, _⟩ | ⟨_, w2⟩
      · omega
      · exact w2 (fun j a b => y j a (by omega))
    · rw [if_neg (by decide)]
      refine go 1 (.inl ⟨rfl, fun j a b => ?_⟩)
      rcases hw with ⟨_, w2⟩ | ⟨w1, _⟩
      · by_cases y : j = k
        · rw [y]; exact hp
        · exact w2 j a (by omega)
      · exact absurd w1 z
    · rw [if_pos rfl]
      exact go 0 (.inr ⟨rfl, fun y => hp (y k v3 (by omega))⟩)
  · rw [if_pos v1]
    exact ev_gr ⟨scx_eq ⟨v3, .inl v4, fun j a b => v5 j a b, fun z y => y (v6 z)⟩, hw⟩
theorem y_run35t (hb : 0 ≤ m 76 0 ∧ m 76 0 ≤ 2000) {k w : Int} (h0 : 0 ≤ k ∧ k < m 76 0) : ev (nk_Y_run_35 i 0 k w m) (fun x => (x = .inl (k + 1, w, 1) ∧ k + 1 < m 76 0 ∧ ¬ spA (m 75) (m 76 0) (k + 1)) ∨ (x = .inl (k + 1, w, 0) ∧ (k + 1 < m 76 0 → spA (m 75) (m 76 0) (k + 1)))) := by
  unfold nk_Y_run_35
  refine ev_ck (by omega) (ev_if (fun hlt => ?_) (fun hge => ev_ok (.inr ⟨rfl, fun z => absurd z hge⟩)))
  rw [if_pos rfl]
  refine ev_bz (y_isNoteA rfl rfl hb (by omega)) (fun q => ?_) (fun q => ?_)
  · rw [if_neg (by decide)]; exact ev_ok (.inr ⟨rfl, fun _ => .inl q⟩)
  · rw [if_pos rfl]
    refine ev_bz (y_isTagA rfl rfl hb ⟨by omega, hlt⟩) (fun q2 => ?_) (fun q2 => ?_)
    · rw [if_neg (by decide)]; exact ev_ok (.inr ⟨rfl, fun _ => .inr q2⟩)
    · rw [if_pos rfl]
      refine ev_ok (.inl ⟨rfl, hlt, fun y => ?_⟩)
      rcases y with y | y
      · exact q y
      · exact q2 y
theorem y_run35r (hb : 0 ≤ m 76 0 ∧ m 76 0 ≤ 2000) {k w : Int} (h0 : 0 ≤ k ∧ k < m 76 0) : ev (nk_Y_run_35 i 1 k w m) (fun x => (x = .inl (k + 1, w, 1) ∧ k + 1 < m 76 0 ∧ ¬ stA (m 75) (m 76 0) (k + 1)) ∨ (x = .inl (k + 1, w, 0) ∧ (k + 1 < m 76 0 → stA (m 75) (m 76 0) (k + 1)))) := by
  unfold nk_Y_run_35
  refine ev_ck (by omega) (ev_if (fun hlt => ?_) (fun hge => ev_ok (.inr ⟨rfl, fun z => absurd z hge⟩)))
  rw [if_neg (by decide)]
  refine ev_bz (y_endsStyleA rfl rfl hb (by omega)) (fun q => ?_) (fun q => ?_)
  · rw [if_neg (by decide)]; exact ev_ok (.inr ⟨rfl, fun _ => q⟩)
  · rw [if_pos rfl]; exact ev_ok (.inl ⟨rfl, hlt, q⟩)
/-- the reader's place is moved -/
theorem JR.at (h : JR Z A B n m N o e p qs oc) (w : Int) : JR Z A B (nw n 8 0 10 w) m N o e p qs oc := by
  have fr : FRk n (nw n 8 0 10 w) := ⟨fun K a _ _ _ _ => nw_nK a, nw_ns (by decide), nw_ns (by decide)⟩
  obtain ⟨hB, hT, hP, hF, hS, hO, hX, h6⟩ := h
  refine ⟨hB.rk fr, hT.rk fr (fun _ _ _ => rfl), hP, ?_, hS.rk fr rfl rfl, hO.cg (nw_ns (by decide)) (nw_nK (by decide)) (nw_nK (by decide)) rfl rfl (fun _ _ _ => ⟨rfl, rfl, rfl⟩), ?_, h6.cg (FRR.rk fr) (fun _ _ => rfl)⟩
  · unfold JF at *
    rw [nw_ns (show (3 : Int) ≠ 10 by decide), nw_nK (show (28 : Nat) ≠ 8 by decide), nw_nK (show (29 : Nat) ≠ 8 by decide)]; exact hF
  · unfold JCut at *
    rw [nw_ns (show (11 : Int) ≠ 10 by decide)]; exact hX
/-- one step of both readers: the place moves on -/
def STEP (Z : NS × YS) (A B : Int) (i : Int) (qs : Int → Int) (X : Option NS) (Y : Option (Int × YS)) (m : YS) : Prop := ∃ n' m' to N' o' e' p' qs' oc', X = some n' ∧ Y = some (to, m') ∧ JR Z A B n' m' N' o' e' p' qs' oc' ∧ n' 8 0 10 = to ∧ i < to ∧ to ≤ m 76 0 ∧ JCn Z n' m' to ∧ m' 76 = m 76
theorem step_text (hJ : JR Z A B n m N o e p qs oc) (hC : JCn Z n m i) (ha : n 8 0 10 = i) (hi : 0 ≤ i ∧ i < m 76 0) : STEP Z A B i qs (N_Reader_readText n) (N_Y_run i 0 m) m := by
  have hL := hJ.2.2.2.2.1.1.2.2.2
  have hRD := hJ.2.2.2.2.1.1
  have q1 := scx_ge (p := fun j => ¬ spA (m 75) (m 76 0) j) (i + 1) (m 76 0)
  have q2 := scx_le (p := fun j => ¬ spA (m 75) (m 76 0) j) (i := i + 1) (to := m 76 0) (by omega)
  have eC : NL_Reader_readText_7 (i + 1) n = some (sc (fun j => ¬ spA (m 75) (m 76 0) j) (i + 1) (m 76 0)) := by
    unfold NL_Reader_readText_7
    refine ev_scan (fun x x1 x2 => ?_)
    unfold nb_Reader_readText_7
    rw [hRD.2.1]
    refine ev_if (fun hl => ?_) (fun hl => ev_ok (.inr ⟨rfl, fun z => hl z.1⟩))
    refine ev_bz (c_isTag hRD ⟨by omega, hl⟩) (fun q => ?_) (fun q => ?_)
    · rw [if_neg (by decide)]; exact ev_ok (.inr ⟨rfl, fun z => z.2 (.inr q)⟩)
    · rw [if_pos rfl]
      refine ev_bz (c_isComment hRD ⟨by omega, hl⟩) (fun q' => ?_) (fun q' => ?_)
      · rw [if_neg (by decide)]; exact ev_ok (.inr ⟨rfl, fun z => z.2 (.inl q')⟩)
      · rw [if_pos rfl]
        refine ev_ck (by omega) (ev_ok (.inl ⟨rfl, hl, fun z => ?_⟩))
        rcases z with z | z
        · exact q' z
        · exact q z
  obtain ⟨⟨to, bl⟩, eY, s1, s2⟩ := y_runScan (S := spA (m 75) (m 76 0)) (r := 0) hL hi (fun k w a b => y_run35t hL ⟨by omega, b⟩)
  simp only at s1 s2
  rw [← s1] at eC q1 q2
  obtain ⟨n', m', N', o', e', p', a1, a2, a3, a4, a5, a6⟩ := addRun_both (to := to) (r := 0) (bl := bl) hJ hC ⟨hi.1, by omega, q2⟩ (.inl rfl) s2
  refine ⟨nw n' 8 0 10 to, m', to, N', o', e', p', qs, oc, ?_, ?_, a3.at to, nw_eq, by omega, q2, ?_, a6⟩
  · unfold N_Reader_readText nk_Reader_readText_37 ck
    rw [ha, if_pos (by omega), eC]
    simp only [Option.bind_some]
    rw [show (1 : Int) = 1 - 0 by decide, a1]
    rfl
  · unfold N_Y_run
    rw [eY]
    exact a2
  · unfold JCn at *
    rw [nw_nK (by decide)]; exact a4
end G9
