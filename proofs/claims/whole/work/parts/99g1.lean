/-! A PAGE'S TEXT: what stands at a place -/
/-- the class's reader has the text g of length L -/
def RDR (n : NS) (g : Int → Int) (L : Int) : Prop := tx n (n 8 0 8) g L ∧ n 8 0 9 = L ∧ 0 ≤ n 8 0 8 ∧ 0 ≤ L ∧ L ≤ 2000
abbrev tgA (g : Int → Int) (L i : Int) : Prop := g i = 60 ∧ ((i + 1 < L ∧ isLt (g (i + 1))) ∨ (i + 2 < L ∧ g (i + 1) = 47 ∧ isLt (g (i + 2))))
abbrev cmA (g : Int → Int) (L i : Int) : Prop := i + 3 < L ∧ g i = 60 ∧ g (i + 1) = 33 ∧ g (i + 2) = 45 ∧ g (i + 3) = 45
abbrev ceA (g : Int → Int) (L i : Int) : Prop := i + 2 < L ∧ g i = 45 ∧ g (i + 1) = 45 ∧ g (i + 2) = 62
abbrev stA (g : Int → Int) (L i : Int) : Prop := i + 6 < L ∧ g i = 60 ∧ g (i + 1) = 47 ∧ g (i + 2) = 115 ∧ g (i + 3) = 116 ∧ g (i + 4) = 121 ∧ g (i + 5) = 108 ∧ g (i + 6) = 101
section G1
variable {n : NS} {m : YS} {g : Int → Int} {L i : Int}
theorem mt_cm : mtR [60, 33, 45, 45] g i L ↔ cmA g L i := by
  show (i < L ∧ g i = 60 ∧ i + 1 < L ∧ g (i + 1) = 33 ∧ i + 1 + 1 < L ∧ g (i + 1 + 1) = 45 ∧ i + 1 + 1 + 1 < L ∧ g (i + 1 + 1 + 1) = 45 ∧ True) ↔ _
  rw [show i + 1 + 1 + 1 = i + 3 by omega, show i + 1 + 1 = i + 2 by omega]
  constructor
  · intro z; obtain ⟨_, a, _, b, _, c, d, e, _⟩ := z; exact ⟨d, a, b, c, e⟩
  · intro z; obtain ⟨d, a, b, c, e⟩ := z; exact ⟨by omega, a, by omega, b, by omega, c, d, e, trivial⟩
theorem mt_ce : mtR [45, 45, 62] g i L ↔ ceA g L i := by
  show (i < L ∧ g i = 45 ∧ i + 1 < L ∧ g (i + 1) = 45 ∧ i + 1 + 1 < L ∧ g (i + 1 + 1) = 62 ∧ True) ↔ _
  rw [show i + 1 + 1 = i + 2 by omega]
  constructor
  · intro z; obtain ⟨_, a, _, b, c, d, _⟩ := z; exact ⟨c, a, b, d⟩
  · intro z; obtain ⟨c, a, b, d⟩ := z; exact ⟨by omega, a, by omega, b, c, d, trivial⟩
theorem mt_st : mtR [60, 47, 115, 116, 121, 108, 101] g i L ↔ stA g L i := by
  show (i < L ∧ g i = 60 ∧ i + 1 < L ∧ g (i + 1) = 47 ∧ i + 1 + 1 < L ∧ g (i + 1 + 1) = 115 ∧ i + 1 + 1 + 1 < L ∧ g (i + 1 + 1 + 1) = 116 ∧ i + 1 + 1 + 1 + 1 < L ∧ g (i + 1 + 1 + 1 + 1) = 121 ∧ i + 1 + 1 + 1 + 1 + 1 < L ∧ g (i + 1 + 1 + 1 + 1 + 1) = 108 ∧ i + 1 + 1 + 1 + 1 + 1 + 1 < L ∧ g (i + 1 + 1 + 1 + 1 + 1 + 1) = 101 ∧ True) ↔ _
  rw [show i + 1 + 1 + 1 + 1 + 1 + 1 = i + 6 by omega, show i + 1 + 1 + 1 + 1 + 1 = i + 5 by omega, show i + 1 + 1 + 1 + 1 = i + 4 by omega, show i + 1 + 1 + 1 = i + 3 by omega, show i + 1 + 1 = i + 2 by omega]
  constructor
  · intro z; obtain ⟨_, a, _, b, _, c, _, d, _, e, _, f, k, l, _⟩ := z; exact ⟨k, a, b, c, d, e, f, l⟩
  · intro z; obtain ⟨k, a, b, c, d, e, f, l⟩ := z; exact ⟨by omega, a, by omega, b, by omega, c, by omega, d, by omega, e, by omega, f, k, l, trivial⟩
theorem c_isTag (h : RDR n g L) (hi : 0 ≤ i ∧ i < L) : ev (N_Reader_isTag i n) (bz (tgA g L i)) := by
  obtain ⟨h1, h2, h3, h4, h5⟩ := h
  unfold N_Reader_isTag
  rw [h2]
  refine ev_nn h3 (ev_tx h1 hi (fun e0 => ?_))
  rw [e0]
  refine ev_if (fun z0 => ev_ck (by omega) (ev_if (fun z1 => ev_nn h3 (ev_ck (by omega) (ev_tx h1 ⟨by omega, z1⟩ (fun e1 => ?_)))) (fun z1 => ev_0 (by omega)))) (fun z0 => ev_0 (by omega))
  rw [e1]
  refine ev_bz cs_letter (fun p => ?_) (fun p => ?_)
  · rw [if_neg (by decide)]; exact ev_1 ⟨z0, .inl ⟨z1, p⟩⟩
  · rw [if_pos rfl]
    refine ev_nn h3 (ev_ck (by omega) (ev_tx h1 ⟨by omega, z1⟩ (fun _ => ev_if (fun z2 => ev_ck (by omega) (ev_if (fun z3 => ev_nn h3 (ev_ck (by omega) (ev_tx h1 ⟨by omega, z3⟩ (fun e2 => ?_)))) (fun z3 => ev_0 (by omega)))) (fun z2 => ev_0 (by omega)))))
    rw [e2]
    refine ev_bz cs_letter (fun p' => ?_) (fun p' => ?_)
    · rw [if_neg (by decide)]; exact ev_1 ⟨z0, .inr ⟨z3, z2, p'⟩⟩
    · rw [if_pos rfl]; exact ev_0 (by omega)
theorem y_isTagA (hL : m 76 0 = L) (hg : m 75 = g) (hb : 0 ≤ L ∧ L ≤ 2000) (hi : 0 ≤ i ∧ i < L) : ev (N_Y_isTag i m) (bz (tgA g L i)) := by
  have c53 : ∀ w : Int, 0 ≤ w → w ≤ i + 2 → ev (nk_Y_isTag_53 w m) (bz (w < L ∧ isLt (g w))) := fun w w0 w1 => by
    unfold nk_Y_isTag_53
    rw [hL, hg]
    refine ev_if (fun z => ev_ix (by omega) (ev_bz ys_letter (fun p => ?_) (fun p => ?_))) (fun z => ev_0 (fun y => z y.1))
    · rw [if_neg (by decide)]; exact ev_1 ⟨z, p⟩
    · rw [if_pos rfl]; exact ev_0 (fun y => p y.2)
  unfold N_Y_isTag nk_Y_isTag_50
  rw [hL, hg]
  refine ev_if (fun _ => ev_ix (by omega) (ev_if (fun z0 => ev_ck (by omega) (ev_if (fun z1 => ev_ck (by omega) (ev_ix (by omega) (ev_if (fun z2 => ev_ck (by omega) (bz_iff (c53 (i + 2) (by omega) (by omega)) ?_)) (fun z2 => ev_ck (by omega) (bz_iff (c53 (i + 1) (by omega) (by omega)) ?_))))) (fun z1 => ev_ck (by omega) (bz_iff (c53 (i + 1) (by omega) (by omega)) ?_)))) (fun z0 => ev_0 (fun y => z0 y.1)))) (fun z => by omega)
  · constructor
    · intro y; exact ⟨z0, .inr ⟨y.1, z2, y.2⟩⟩
    · intro y
      rcases y.2 with w | w
      · rw [z2] at w; omega
      · exact ⟨w.1, w.2.2⟩
  · constructor
    · intro y; exact ⟨z0, .inl y⟩
    · intro y
      rcases y.2 with w | w
      · exact w
      · exact absurd w.2.1 z2
  · constructor
    · intro y; exact ⟨z0, .inl y⟩
    · intro y
      rcases y.2 with w | w
      · exact w
      · omega
theorem c_isComment (h : RDR n g L) (hi : 0 ≤ i ∧ i < L) : ev (N_Reader_isComment i n) (bz (cmA g L i)) := by
  obtain ⟨h1, h2, h3, h4, h5⟩ := h
  unfold N_Reader_isComment
  rw [h2]
  refine ev_nn h3 (ev_tx h1 hi (fun e0 => ?_))
  rw [e0]
  refine ev_if (fun z0 => ev_nn h3 (ev_bz (cs_stands h1 okS19 (Int.le_refl _) hi.1 (by omega) (by omega) (by decide)) (fun p => ?_) (fun p => ?_))) (fun z0 => ev_0 (fun y => z0 y.2.1))
  · rw [if_neg (by decide)]; exact ev_1 (mt_cm.mp p)
  · rw [if_pos rfl]; exact ev_0 (fun y => p (mt_cm.mpr y))
theorem y_isAt3 {a b c : Int} (hL : m 76 0 = L) (hg : m 75 = g) (hb : 0 ≤ L ∧ L ≤ 2000) (hi : 0 ≤ i ∧ i ≤ 3000) : ev (N_Y_isAt i a b c m) (bz (i + 2 < L ∧ g i = a ∧ g (i + 1) = b ∧ g (i + 2) = c)) := by
  unfold N_Y_isAt
  rw [hL, hg]
  refine ev_ck (by omega) (ev_if (fun z0 => ev_ix (by omega) (ev_if (fun z1 => ev_ck (by omega) (ev_ix (by omega) (ev_if (fun z2 => ev_ck (by omega) (ev_ix (by omega) (ev_if (fun z3 => ev_1 ⟨z0, z1, z2, z3⟩) (fun z3 => ev_0 (fun y => z3 y.2.2.2))))) (fun z2 => ev_0 (fun y => z2 y.2.2.1))))) (fun z1 => ev_0 (fun y => z1 y.2.1)))) (fun z0 => ev_0 (fun y => z0 y.1)))
theorem y_isNoteA (hL : m 76 0 = L) (hg : m 75 = g) (hb : 0 ≤ L ∧ L ≤ 2000) (hi : 0 ≤ i ∧ i ≤ 3000) : ev (N_Y_isNote i m) (bz (cmA g L i)) := by
  unfold N_Y_isNote
  refine ev_bz (y_isAt3 hL hg hb hi) (fun p => ?_) (fun p => ?_)
  · rw [if_neg (by decide), hL, hg]
    refine ev_ck (by omega) (ev_if (fun z => ev_ck (by omega) (ev_ix (by omega) (ev_if (fun z' => ev_1 ⟨z, p.2.1, p.2.2.1, p.2.2.2, z'⟩) (fun z' => ev_0 (fun y => z' y.2.2.2.2))))) (fun z => ev_0 (fun y => z y.1)))
  · rw [if_pos rfl]; exact ev_0 (fun y => p ⟨by omega, y.2.1, y.2.2.1, y.2.2.2.1⟩)
theorem y_tagW15 : N_Y_tagWord 15 m = some 5662355 ∧ wl 5662355 = [115, 116, 121, 108, 101] := by
  constructor
  · rfl
  · decide
theorem y_endsStyleA (hL : m 76 0 = L) (hg : m 75 = g) (hb : 0 ≤ L ∧ L ≤ 2000) (hi : 0 ≤ i ∧ i ≤ 3000) : ev (N_Y_endsStyle i m) (bz (stA g L i)) := by
  unfold N_Y_endsStyle
  refine ev_bz (y_isAt3 hL hg hb hi) (fun p => ?_) (fun p => ?_)
  · rw [if_neg (by decide), (y_tagW15 (m := m)).1, hL]
    simp only [Option.bind_some]
    have hw := ys_isWord (m := m) (f := 75) (w := 5662355) (i := i + 2) (to := L) (by omega) (by show _ ≤ (2000 : Int); omega) (by omega) (by omega) (by omega)
    rw [(y_tagW15 (m := m)).2, hg] at hw
    have hiff : mtR [115, 116, 121, 108, 101] g (i + 2) L ↔ stA g L i := by
      show (i + 2 < L ∧ g (i + 2) = 115 ∧ i + 2 + 1 < L ∧ g (i + 2 + 1) = 116 ∧ i + 2 + 1 + 1 < L ∧ g (i + 2 + 1 + 1) = 121 ∧ i + 2 + 1 + 1 + 1 < L ∧ g (i + 2 + 1 + 1 + 1) = 108 ∧ i + 2 + 1 + 1 + 1 + 1 < L ∧ g (i + 2 + 1 + 1 + 1 + 1) = 101 ∧ True) ↔ _
      rw [show i + 2 + 1 + 1 + 1 + 1 = i + 6 by omega, show i + 2 + 1 + 1 + 1 = i + 5 by omega, show i + 2 + 1 + 1 = i + 4 by omega, show i + 2 + 1 = i + 3 by omega]
      constructor
      · intro z; obtain ⟨_, c, _, d, _, e, _, f, k, l, _⟩ := z; exact ⟨k, p.2.1, p.2.2.1, c, d, e, f, l⟩
      · intro z; obtain ⟨k, a, b, c, d, e, f, l⟩ := z; exact ⟨by omega, c, by omega, d, by omega, e, by omega, f, k, l, trivial⟩
    refine ev_ck (by omega) (ev_bz hw (fun q => ?_) (fun q => ?_))
    · rw [if_neg (by decide)]; exact ev_1 (hiff.mp q)
    · rw [if_pos rfl]; exact ev_0 (fun y => q (hiff.mpr y))
  · rw [if_pos rfl]; exact ev_0 (fun y => p ⟨by omega, y.2.1, y.2.2.1, y.2.2.2.1⟩)
end G1
