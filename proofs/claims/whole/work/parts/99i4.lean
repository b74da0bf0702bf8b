/-! A START TAG, in both -/
section I4
variable {Z : NS × YS} {n n' : NS} {m m' : YS} {A B N oc pl v1 v3 v5 t : Int} {o e p qs : Int → Int} {w : List Int}
/-- the reference tells what the class has told already -/
theorem y_defer (hb : JFb n m) (hd : JFd n m) (h85 : m 85 0 ≤ 2000) : ev (NL_Y_readTag_259 v1 v3 v5 0 m) (fun m' => FY [70, 71, 72] m m' ∧ JF n m' ∧ m' 70 0 = m 70 0 + m 85 0) := by
  obtain ⟨b1, b2, b3⟩ := hb
  obtain ⟨d1, d2, d3⟩ := hd
  unfold NL_Y_readTag_259
  refine ev_it (fun s : Int × YS => (0 ≤ s.1 ∧ s.1 ≤ m 85 0) ∧ FY [70, 71, 72] m s.2 ∧ s.2 70 0 = m 70 0 + s.1 ∧ ∀ j, 0 ≤ j → j < m 70 0 + s.1 → j < 40 → n 28 0 j = s.2 71 j ∧ n 29 0 j = s.2 72 j) (fun s => m 85 0 - s.1) (fun s hs => ?_) ⟨⟨Int.le_refl _, d2⟩, fun _ _ => rfl, by show m 70 0 = m 70 0 + 0; omega, fun j x y => by have y : j < m 70 0 + 0 := y; exact b3 j x (by omega)⟩
  obtain ⟨k, m1⟩ := s
  obtain ⟨g1, g2, g3, g4⟩ := hs
  simp only at g1 g2 g3 g4
  show ev (nb_Y_readTag_259 v1 v3 v5 k m1) _
  unfold nb_Y_readTag_259
  rw [g2 85 (by decide), g2 86 (by decide)]
  refine ev_if (fun hlt => ev_ix (by omega) (ev_bind (y_tell (m := m1) (w := 2) (pl := m 86 k) (by omega)) (fun m2 h2 => ev_ck (by omega) (ev_inl ⟨⟨by show 0 ≤ k + 1 ∧ k + 1 ≤ m 85 0; omega, g2.trans h2.2, by show m2 70 0 = m 70 0 + (k + 1); have := h2.1.1; omega, fun j x y y2 => ?_⟩, by show m 85 0 - (k + 1) < m 85 0 - k; omega, by show 0 ≤ m 85 0 - k; omega⟩)))) (fun hge => ev_inr ⟨g2, ⟨by rw [g3]; omega, by omega, by omega, fun j x y y2 => g4 j x (by omega) y2⟩, by omega⟩)
  have y : j < m 70 0 + (k + 1) := y
  show n 28 0 j = m2 71 j ∧ n 29 0 j = m2 72 j
  by_cases z : j = m 70 0 + k
  · have a := h2.1.2.2 (by omega)
    have b := d3 k g1.1 hlt (by omega)
    rw [z, b.1, b.2]
    rw [g3] at a
    exact ⟨a.1.symm, a.2.symm⟩
  · have a := h2.1.2.1 j x (by omega) y2
    rw [a.1, a.2]; exact g4 j x (by omega) y2
/-- some have been closed -/
def CLs (Z : NS × YS) (A B : Int) (n : NS) (m : YS) (N : Int) (o e p qs : Int → Int) (oc : Int) (n' : NS) (m' : YS) (oc' : Int) : Prop := JR Z A B n' m' N o e p qs oc' ∧ FRk n n' ∧ FY [70, 71, 72, 74] m m' ∧ n' 8 0 10 = n 8 0 10 ∧ m' 70 0 + oc' ≤ m 70 0 + oc
theorem CLs.refl (h : JR Z A B n m N o e p qs oc) : CLs Z A B n m N o e p qs oc n m oc := ⟨h, FRk.refl n, fun _ _ => rfl, rfl, Int.le_refl _⟩
theorem CLs.trans {n'' : NS} {m'' : YS} {oc' oc'' : Int} (h : CLs Z A B n m N o e p qs oc n' m' oc') (h' : CLs Z A B n' m' N o e p qs oc' n'' m'' oc'') : CLs Z A B n m N o e p qs oc n'' m'' oc'' := ⟨h'.1, h.2.1.trans h'.2.1, h.2.2.1.trans h'.2.2.1, by rw [h'.2.2.2.1, h.2.2.2.1], by have := h.2.2.2.2; have := h'.2.2.2.2; omega⟩
theorem CLs.td {oc' : Int} (h : CLs Z A B n m N o e p qs oc n' m' oc') (hD : TD n m) : TD n' m' := by
  have q := h.2.1.1
  have y := h.2.2.1
  unfold TD TD1 rnL rvL bt at *
  rw [q 7 (by decide) (by decide) (by decide) (by decide) (by decide), q 18 (by decide) (by decide) (by decide) (by decide) (by decide), q 4 (by decide) (by decide) (by decide) (by decide) (by decide), q 99 (by decide) (by decide) (by decide) (by decide) (by decide), y 80 (by decide), y 81 (by decide), y 82 (by decide), y 83 (by decide), y 84 (by decide)]
  exact hD
/-- what is within a level goes, in both -/
theorem close_lv {r oth : Int} (hJ : JR Z A B n m N o e p qs oc) (hr : dn (fun j => m 46 (o (qs j)) = t) (oc - 1) r) (h0 : 0 < r) (h2 : (oth = -1 ∧ (t = 1 ∨ t = 4)) ∨ oth = o (qs r)) (hb : m 70 0 ≤ 80000) : ∃ n' m', N_Reader_closeTo r n = some n' ∧ N_Y_closeTo r (-1) oth m = some m' ∧ CLs Z A B n m N o e p qs oc n' m' r ∧ m' 70 0 + r < m 70 0 + oc := by
  have ht : m 46 (o (qs r)) = t := hr.2.2.2 h0
  obtain ⟨n1, m1, a1, a2, a3, a4, a5, a6, a7⟩ := closeTo_both (lv := r) (own := -1) (oth := oth) hJ (by have := hr.2.1; omega) (.inl rfl) (by rcases h2 with y | y; exact .inl y.1; exact .inr y) (by
    rcases h2 with y | y
    · rw [ht]; rcases y.2 with z | z
      · exact .inr (.inr (.inl z))
      · exact .inr (.inr (.inr z))
    · exact .inr (.inl y)) hb
  exact ⟨n1, m1, a1, a2, ⟨a3, a6.2, a7, a5, by omega⟩, by omega⟩
theorem c_closeTag (ho : ev (N_Reader_openOf t n) (fun r => r = v1)) : N_Reader_closeTag t n = if 0 < v1 then (N_Reader_closeTo v1 n).bind (fun n7 => some (1, n7)) else some (0, n) := by
  obtain ⟨r, er, rfl⟩ := ho
  unfold N_Reader_closeTag nk_Reader_closeTag_15
  rw [er]
  simp only [Option.bind_some]
  by_cases z : 0 < r
  · rw [if_pos z, if_pos z]
    congr 1
    funext n7
    rw [if_pos z]
  · rw [if_neg z, if_neg z, if_neg z]
theorem st_block (hJ : JR Z A B n m N o e p qs oc) (ht : 0 ≤ t ∧ t ≤ 16) (hT : N_Tree_tagOf v1 n = some t) (hb : m 70 0 ≤ 80000) : ∃ n' m' oc', N_Reader_startTag v1 pl n = nk_Reader_startTag_29 v1 pl t n' ∧ N_Y_startTag pl t m = nk_Y_startTag_50 pl t m' ∧ CLs Z A B n m N o e p qs oc n' m' oc' := by
  have hO := hJ.2.2.2.2.2.1.1
  obtain ⟨r, er, hr⟩ := c_openOf (t := 1) hJ
  obtain ⟨r', er', hr'⟩ := y_open1 (v1 := pl) (v2 := t) hJ
  have := dn_un hr hr'
  subst this
  have hcl : ∃ n' m' oc', nk_Reader_startTag_23 v1 pl t n = nk_Reader_startTag_29 v1 pl t n' ∧ nk_Y_startTag_39 pl t r m = nk_Y_startTag_50 pl t m' ∧ CLs Z A B n m N o e p qs oc n' m' oc' := by
    unfold nk_Reader_startTag_23 nk_Y_startTag_39
    rw [c_closeTag ⟨r, er, rfl⟩]
    by_cases z : 0 < r
    · obtain ⟨n1, m1, a1, a2, a3, a4⟩ := close_lv (t := 1) (oth := -1) hJ hr z (.inl ⟨rfl, .inl rfl⟩) hb
      rw [if_pos z, if_pos z, a1, a2]
      exact ⟨n1, m1, r, rfl, rfl, a3⟩
    · rw [if_neg z, if_neg z]
      exact ⟨n, m, oc, rfl, rfl, CLs.refl hJ⟩
  have eY : ck (m 74 0 - 1) ((NL_Y_startTag_14 pl t (m 74 0 - 1) m).bind fun z8 => nk_Y_startTag_39 pl t z8 m) = nk_Y_startTag_39 pl t r m := by
    unfold ck
    rw [hO.2.1, if_pos (by omega), er']; rfl
  unfold N_Reader_startTag N_Y_startTag N_Y_isBlockTag
  rw [hT]
  simp only [Option.bind_some]
  by_cases z : 5 < t
  · rw [if_pos z, if_pos z]
    by_cases y : t = 11
    · rw [if_pos y, if_pos y]
      simp only [Option.bind_some]
      rw [if_neg (by decide), eY]; exact hcl
    · rw [if_neg y, if_neg y]
      simp only [Option.bind_some]
      rw [if_pos trivial]
      exact ⟨n, m, oc, rfl, rfl, CLs.refl hJ⟩
  · rw [if_neg z, if_neg z]
    simp only [Option.bind_some]
    rw [if_neg (by decide), eY]; exact hcl
theorem st_li (hJ : JR Z A B n m N o e p qs oc) (hb : m 70 0 ≤ 80000) : ∃ n' m' oc', nk_Reader_startTag_29 v1 pl t n = nk_Reader_startTag_54 v1 pl t n' ∧ nk_Y_startTag_50 pl t m = nk_Y_startTag_128 pl t m' ∧ CLs Z A B n m N o e p qs oc n' m' oc' := by
  unfold nk_Reader_startTag_29 nk_Y_startTag_50
  by_cases z : t = 4
  · rw [if_pos z, if_pos z]
    have hO := hJ.2.2.2.2.2.1
    obtain ⟨o1, o2, o3, o4⟩ := hO.1
    obtain ⟨a, ea, ha⟩ := c_openOf (t := 4) hJ
    obtain ⟨b, eb, hb'⟩ := c_openOf (t := 3) hJ
    obtain ⟨r, er, hr⟩ := y_open43 (v1 := pl) (v2 := t) hJ
    rw [ea, eb]
    simp only [Option.bind_some]
    unfold ck
    rw [o2, if_pos (show inR (oc - 1) by omega), er]
    simp only [Option.bind_some]
    unfold nk_Y_startTag_102
    obtain ⟨a1, a2, a3, a4⟩ := ha
    obtain ⟨b1, b2, b3, b4⟩ := hb'
    have hr' := hr
    obtain ⟨r1, r2, r3, r4⟩ := hr
    by_cases y : b < a
    · have hra : r = a := by
        by_cases q : r < a
        · exact absurd (.inl (a4 (by omega))) (r3 a q a2)
        · by_cases q2 : a < r
          · rcases r4 (by omega) with w | w
            · exact absurd w (a3 r q2 r2)
            · exact absurd w (b3 r (by omega) r2)
          · omega
      subst hra
      have ht : m 46 (o (qs r)) = 4 := a4 (by omega)
      have hk := hO.2.2.1 r r1 (by omega)
      have hv := hJ.2.1.1.1.oB hk.1.1 hk.1.2
      rw [if_pos y, if_pos (by omega), c_closeTag ⟨r, ea, rfl⟩, if_pos (by omega), hk.2.2.2.1]
      unfold ix
      rw [if_pos (by omega), if_pos hv, if_pos ht]
      obtain ⟨n1, m1, c1, c2, c3, c4⟩ := close_lv (t := 4) (oth := -1) hJ ⟨a1, a2, a3, a4⟩ (by omega) (.inl ⟨rfl, .inr rfl⟩) hb
      rw [c1, c2]
      exact ⟨n1, m1, r, rfl, rfl, c3⟩
    · rw [if_neg y]
      refine ⟨n, m, oc, rfl, ?_, CLs.refl hJ⟩
      by_cases q : 0 < r
      · have hk := hO.2.2.1 r r1 (by omega)
        have hv := hJ.2.1.1.1.oB hk.1.1 hk.1.2
        rw [if_pos q, hk.2.2.2.1]
        unfold ix
        rw [if_pos (by omega), if_pos hv, if_neg (fun w : m 46 (o (qs r)) = 4 => ?_)]
        have h1 : r ≤ a := by
          by_cases q2 : a < r
          · exact absurd w (a3 r q2 r2)
          · omega
        have h2 : r ≠ b := fun x => by
          have := b4 (by omega)
          rw [← x] at this
          omega
        exact absurd (.inr (b4 (by omega))) (r3 b (by omega) b2)
      · rw [if_neg q]
  · rw [if_neg z, if_neg z]
    exact ⟨n, m, oc, rfl, rfl, CLs.refl hJ⟩
theorem st_a (hJ : JR Z A B n m N o e p qs oc) (hb : m 70 0 ≤ 80000) : ∃ n' m' oc', nk_Reader_startTag_54 v1 pl t n = nk_Reader_startTag_76 v1 pl t n' ∧ nk_Y_startTag_128 pl t m = nk_Y_startTag_189 pl t m' ∧ CLs Z A B n m N o e p qs oc n' m' oc' := by
  unfold nk_Reader_startTag_54 nk_Y_startTag_128
  by_cases z : t = 7
  · rw [if_pos z, if_pos z]
    have hO := hJ.2.2.2.2.2.1
    obtain ⟨o1, o2, o3, o4⟩ := hO.1
    obtain ⟨r, er, hr⟩ := c_openOf (t := 7) hJ
    obtain ⟨r', er', hr'⟩ := y_open7 (v1 := pl) (v2 := t) hJ
    have := dn_un hr hr'
    subst this
    unfold ck
    rw [o2, if_pos (by omega), er']
    simp only [Option.bind_some]
    unfold nk_Y_startTag_167
    rw [c_closeTag ⟨r, er, rfl⟩]
    by_cases q : 0 < r
    · have hk := hO.2.2.1 r hr.1 (by have := hr.2.1; omega)
      rw [if_pos q, if_pos q, hk.2.2.2.1]
      obtain ⟨n1, m1, c1, c2, c3, c4⟩ := close_lv (t := 7) (oth := o (qs r)) hJ hr q (.inr rfl) hb
      obtain ⟨n2, m2, t1, t2, t3, t4, t5, t6, t7⟩ := c3.1.tell (w := 5) (pl := pl) (by have := c3.2.2.2.2; omega)
      unfold ix
      rw [if_pos (by have := hr.2.1; omega), c1, c2]
      refine ⟨n2, m2, r, ?_, ?_, ⟨t3, c3.2.1.trans t5.2, c3.2.2.1.trans (t6.sub (by decide)), by rw [t4 10 (by decide)]; exact c3.2.2.2.1, by omega⟩⟩
      · show (if (1 : Int) = 0 then nk_Reader_startTag_76 v1 pl t n1 else (N_Reader_tell 5 pl n1).bind (fun n11 => nk_Reader_startTag_76 v1 pl t n11)) = _
        rw [if_neg (by decide), t1]; rfl
      · show (N_Y_tellFault 5 pl m1).bind (fun m10 => nk_Y_startTag_189 pl t m10) = _
        rw [t2]; rfl
    · rw [if_neg q, if_neg q]
      exact ⟨n, m, oc, rfl, rfl, CLs.refl hJ⟩
  · rw [if_neg z, if_neg z]
    exact ⟨n, m, oc, rfl, rfl, CLs.refl hJ⟩
theorem startTag_both (hNT : NT Z.1) (hJ : JR Z A B n m N o e p qs oc) (hD : TD n m) (hw : sg (m 78) 0 (m 79 0).toNat = w) (h79 : 0 ≤ m 79 0 ∧ m 79 0 ≤ 8) (hwb : ∀ c ∈ w, isBt c) (hc : n 10 0 6 < 2000000000 ∧ m 69 0 < 2000000000) (hb : m 70 0 ≤ 70000) :
    ∃ n' m' N' o' e' p' qs' oc', N_Reader_startTag (pk w) pl n = some n' ∧ N_Y_startTag pl (tgL w) m = some m' ∧ JR Z A B n' m' N' o' e' p' qs' oc' ∧ n' 8 0 10 = n 8 0 10 ∧ n' 10 0 6 ≤ n 10 0 6 + 1 ∧ m' 69 0 ≤ m 69 0 + 1 ∧ m' 70 0 ≤ m 70 0 + 22 ∧ m' 76 = m 76 ∧ wtS m' ≤ wtS m + (1 + m 79 0 + rdW m) := by
  have hoc := hJ.2.2.2.2.2.1.1
  have hNn : NT n := fun k a b => by
    rw [hJ.2.2.2.2.2.2.2.2.1.1 21 (by decide)]; exact hNT k a b
  have htb := tgL_b (l := w)
  obtain ⟨n1, m1, oc1, a1, a2, a3⟩ := st_block (v1 := pk w) (pl := pl) hJ htb (c_tagOf hNn hwb) (by omega)
  have b1 := a3.2.2.2.2
  have q1 := a3.1.2.2.2.2.2.1.1
  obtain ⟨n2, m2, oc2, c1, c2, c3⟩ := st_li (v1 := pk w) (pl := pl) (t := tgL w) a3.1 (by omega)
  have b2 := c3.2.2.2.2
  have q2 := c3.1.2.2.2.2.2.1.1
  obtain ⟨n3, m3, oc3, d1, d2, d3⟩ := st_a (v1 := pk w) (pl := pl) (t := tgL w) c3.1 (by omega)
  have b3 := d3.2.2.2.2
  have q3 := d3.1.2.2.2.2.2.1.1
  have hC := (a3.trans c3).trans d3
  obtain ⟨k1, k2, k3, k4, k5⟩ := hC
  have e10 := k2.1 10 (by decide) (by decide) (by decide) (by decide) (by decide)
  obtain ⟨n', m', N', o', e', p', qs', oc', x1, x2, x3, x4, x5, x6, x7, x8, x9⟩ := elem_both (pl := pl) (w := w) d3.1 (((a3.trans c3).trans d3).td hD) (by rw [k3 78 (by decide), k3 79 (by decide)]; exact hw) (by rw [k3 79 (by decide)]; exact h79) hwb (by rw [e10, k3 69 (by decide)]; exact hc) (by omega)
  exact ⟨n', m', N', o', e', p', qs', oc', by rw [a1, c1, d1]; exact x1, by rw [a2, c2, d2]; exact x2, x3, by rw [x4]; exact k4, by rw [e10] at x5; exact x5, by rw [k3 69 (by decide)] at x6; exact x6, by omega, by rw [x8]; exact k3 76 (by decide), by
    rw [k3 79 (by decide), rdW_same (m := m) (k3 80 (by decide)) (k3 82 (by decide)) (k3 84 (by decide)), wtS_fy k3 (by decide)] at x9; exact x9⟩
end I4
