/-! TEXT IN ONE LINE, in both: all of it; how an element is laid -/
section Y3
variable {n n' n'' : NS} {m m' m'' : YS} {A B N a b c x y q s E v u w t k j r x1 x2 x3 x4 x5 i : Int} {o e p g : Int → Int} {s0 : Int × Int × List Int}
theorem oLn_s (h : k ≤ j) : oLn m o k (j + 1 - k).toNat = if m 46 (o j) = 17 then oLt (fun i => m 61 (400 * o j + i)) (m 62 (o j)).toNat (oLn m o k (j - k).toNat) else oLn m o k (j - k).toNat := by
  rw [show (j + 1 - k).toNat = (j - k).toNat + 1 by omega]
  simp only [oLn]
  rw [show k + (((j - k).toNat : Nat) : Int) = j by omega]
theorem JT.t62 (hT : JT n m N o e p) (r0 : 0 ≤ r) (r1 : r < N) (h17 : m 46 (o r) = 17) : 0 ≤ m 62 (o r) ∧ m 62 (o r) ≤ 400 := ((hT.2.2.2 r r0 r1).2.2.2.2.1 h17).1
theorem c_textW (hB : BI A B n) (hT : JT n m N o e p) (hL : LSt n N o e) (k0 : 0 ≤ k) (hkN : k < N) (hs : 1 ≤ s ∧ s ≤ 3) : ev (N_Layout_textWidth (o k) s n) (fun r => r.1 = (oLn m o k (e k - k).toNat).2.1 * s ∧ BI A B r.2 ∧ FB (fun x => x = 608) n r.2 ∧ bt r.2 608 = (oLn m o k (e k - k).toNat).2.2) := by
  have hG := hT.1.1
  have hE := hG.eB k0 hkN
  have ho := hG.oB k0 hkN
  have hN := hG.N1
  unfold N_Layout_textWidth
  refine ev_bind (cs_clear (b := 608) (by decide) hB) (fun n3 h3 => ev_ix ho ?_)
  have hok := oLn_ok (m := m) (o := o) (k := k) (N := N) (fun r a b c => hT.t62 (by omega) b c)
  rw [h3.2.1.1 7 (by decide) (by decide) (by decide) (by decide) (by decide) (by decide), (hL.2 k k0 hkN).2.1]
  refine ev_b2 (P := fun r => r.1 = (oLn m o k (e k - k).toNat).2.1 ∧ BI A B r.2 ∧ FB (fun x => x = 608) n r.2 ∧ bt r.2 608 = (oLn m o k (e k - k).toNat).2.2) ?_ (fun z n4 h4 => ?_)
  · unfold NL_Layout_textWidth_26
    refine ev_it (fun t : Int × Int × Int × NS => (k ≤ t.2.2.1 ∧ t.2.2.1 ≤ e k) ∧ BI A B t.2.2.2 ∧ FB (fun x => x = 608) n t.2.2.2 ∧ (t.1, t.2.1, bt t.2.2.2 608) = oLn m o k (t.2.2.1 - k).toNat) (fun t => e k - t.2.2.1) (fun t ht => ?_) ⟨⟨Int.le_refl _, by show k ≤ e k; omega⟩, h3.1, h3.2.1, by show (0, 0, bt n3 608) = oLn m o k (k - k).toNat; rw [h3.2.2, show (k - k).toNat = 0 by omega]; rfl⟩
    obtain ⟨a1, w1, j, n1⟩ := t
    obtain ⟨g1, g2, g3, g4⟩ := ht
    simp only at g1 g2 g3 g4
    show ev (nb_Layout_textWidth_26 (o k) s a1 w1 j n1) _
    unfold nb_Layout_textWidth_26
    have e7 : n1 7 = n 7 := g3.1 7 (by decide) (by decide) (by decide) (by decide) (by decide) (by decide)
    have e22 : n1 22 = n 22 := g3.1 22 (by decide) (by decide) (by decide) (by decide) (by decide) (by decide)
    rw [e7, e22, (hL.2 k k0 hkN).2.2]
    refine ev_ix ho (ev_if (fun hlt => ?_) (fun hge => ev_inr ⟨?_, g2, g3, ?_⟩))
    · have hjN : j < N := by omega
      have hoj := hG.oB (k := j) (by omega) hjN
      rw [(hL.2 j (by omega) hjN).1]
      refine ev_ix (by omega) (ev_ix hoj ?_)
      have hd : ND n m (o j) := hT.2.2.2 j (by omega) hjN
      have hd1 : ND n1 m (o j) := hd.cg (YG.refl _ _) (NG.fb g3 hB (fun x hx => by omega) hoj)
      have hst := oLn_s (m := m) (o := o) (k := k) (j := j) g1.1
      by_cases h17 : m 46 (o j) = 17
      · have hj := hok (j - k).toNat (by omega)
        refine ev_bind (c_olT (x1 := o k) (x2 := s) (x5 := j) g2 hd1 hoj h17 g4.symm hj (by omega)) (fun r hr => ?_)
        obtain ⟨z1, z2, n2⟩ := r
        obtain ⟨r1, r2, r3⟩ := hr
        simp only at r1 r2 r3
        refine ev_ck (by omega) (ev_inl ⟨⟨by show k ≤ j + 1 ∧ j + 1 ≤ e k; omega, r1, g3.trans r2, ?_⟩, by show e k - (j + 1) < e k - j; omega, by show 0 ≤ e k - j; omega⟩)
        show (z1, z2, bt n2 608) = oLn m o k (j + 1 - k).toNat
        rw [r3, hst, if_pos h17]
      · have h66 : NL_Layout_textWidth_66 (o k) s j (o j) a1 w1 0 n1 = some (a1, w1, n1) := by
          unfold NL_Layout_textWidth_66
          refine it_inr ?_
          show nb_Layout_textWidth_66 (o k) s j (o j) a1 w1 0 n1 = _
          unfold nb_Layout_textWidth_66
          rw [hd1.1.1, if_neg h17]
        rw [h66]
        refine ev_ck (by omega) (ev_inl ⟨⟨by show k ≤ j + 1 ∧ j + 1 ≤ e k; omega, g2, g3, ?_⟩, by show e k - (j + 1) < e k - j; omega, by show 0 ≤ e k - j; omega⟩)
        show (a1, w1, bt n1 608) = oLn m o k (j + 1 - k).toNat
        rw [hst, if_neg h17]; exact g4
    · show w1 = _
      rw [show e k = j by omega, ← g4]
    · show bt n1 608 = _
      rw [show e k = j by omega, ← g4]
  · obtain ⟨h5, h6, h7, h8⟩ := h4
    simp only at h5 h6 h7 h8
    have hj := hok (e k - k).toNat (by omega)
    obtain ⟨_, hw, _⟩ := hj
    rw [← h5] at hw ⊢
    have hzs : 0 ≤ z * s ∧ z * s ≤ 400000 * 3 := ⟨Int.mul_nonneg hw.1 (by omega), Int.mul_le_mul (by omega) hs.2 (by omega) (by omega)⟩
    exact ev_ck (by omega) (ev_ok ⟨rfl, h6, h7, h8⟩)
theorem oLn_b (hT : JT n m N o e p) (k0 : 0 ≤ k) (hkN : k < N) (hs : 1 ≤ s ∧ s ≤ 3) : 0 ≤ (oLn m o k (e k - k).toNat).2.1 * s ∧ (oLn m o k (e k - k).toNat).2.1 * s ≤ 1152000 := by
  have hG := hT.1.1
  have hE := hG.eB k0 hkN
  have hN := hG.N1
  have hj := oLn_ok (m := m) (o := o) (k := k) (N := N) (fun r a b c => hT.t62 (by omega) b c) (e k - k).toNat (by omega)
  have hle : (oLn m o k (e k - k).toNat).2.1 ≤ 384000 := by have := hj.2.1.2; omega
  refine ⟨Int.mul_nonneg hj.2.1.1 (by omega), ?_⟩
  have := Int.mul_le_mul hle hs.2 (by omega) (by omega)
  omega
theorem y_textW (hT : JT n m N o e p) (k0 : 0 ≤ k) (hkN : k < N) (hs : m' 105 (11 * o k + 8) = s ∧ 1 ≤ s ∧ s ≤ 3) (hm : ∀ f, 45 ≤ f → f ≤ 63 → m' f = m f) : N_Y_oneLine (o k) m' = some ((oLn m o k (e k - k).toNat).2.1 * s) := by
  have hG := hT.1.1
  have hE := hG.eB k0 hkN
  have ho := hG.oB k0 hkN
  have hN := hG.N1
  have hG' : TY m' N o e p := by
    unfold TY
    rw [hm 49 (by decide) (by decide), hm 50 (by decide) (by decide), hm 52 (by decide) (by decide)]; exact hG
  have hok := oLn_ok (m := m) (o := o) (k := k) (N := N) (fun r a b c => hT.t62 (by omega) b c)
  unfold N_Y_oneLine
  have key : NL_Y_oneLine_10 (o k) 0 0 0 (o k) m' = some ((oLn m o k (e k - k).toNat).2.1 * s) := by
    apply eq_of_ev
    unfold NL_Y_oneLine_10
    refine ev_itg (I := fun (t : Int × Int × Int × Int) (d : Int) => (0 ≤ d ∧ d ≤ e k - k) ∧ t.2.2.2 = (if 0 < d then o (e k - d) else -1) ∧ (t.1, t.2.1, t.2.2.1) = oY s (oLn m o k (e k - d - k).toNat)) (fun t d hs' => ?_) (x := e k - k) ⟨by omega, by show o k = _; rw [if_pos (by omega), show e k - (e k - k) = k by omega], by show (0, 0, 0) = _; rw [show (e k - (e k - k) - k).toNat = 0 by omega]; unfold oY; simp only [oLn]; rw [if_pos trivial, show (0 : Int) * s = 0 by omega, show (0 : Int) * (3 * s) = 0 by omega]⟩
    obtain ⟨w1, b1, f1, v1⟩ := t
    obtain ⟨g1, g2, g3⟩ := hs'
    simp only at g2 g3
    show ev (nb_Y_oneLine_10 (o k) w1 b1 f1 v1 m') _
    unfold nb_Y_oneLine_10
    by_cases hd : 0 < d
    · rw [if_pos hd] at g2
      generalize hj : e k - d = j at *
      have hjN : j < N := by omega
      have hoj := hG.oB (k := j) (by omega) hjN
      have haf := y_after hG' (t := k) (k := j) k0 (by omega) (by omega) hkN
      have hst := oLn_s (m := m) (o := o) (k := k) (j := j) (by omega)
      rw [g2, if_neg (by omega), hm 46 (by decide) (by decide)]
      refine ev_ix hoj ?_
      have fin : ∀ w2 b2 f2, (w2, b2, f2) = oY s (oLn m o k (j + 1 - k).toNat) → ev (nk_Y_oneLine_120 (o k) w2 b2 f2 (o j) m') (lg (fun (t : Int × Int × Int × Int) (d : Int) => (0 ≤ d ∧ d ≤ e k - k) ∧ t.2.2.2 = (if 0 < d then o (e k - d) else -1) ∧ (t.1, t.2.1, t.2.2.1) = oY s (oLn m o k (e k - d - k).toNat)) d (fun r => r = (oLn m o k (e k - k).toNat).2.1 * s)) := fun w2 b2 f2 h => by
        unfold nk_Y_oneLine_120
        rw [haf]
        simp only [Option.bind_some]
        refine ev_gl (x' := d - 1) ⟨by omega, ?_, ?_⟩ (by omega) (by omega)
        · show (if j + 1 < e k then o (j + 1) else -1) = _
          by_cases w : j + 1 < e k
          · rw [if_pos w, if_pos (by omega), show e k - (d - 1) = j + 1 by omega]
          · rw [if_neg w, if_neg (by omega)]
        · show (w2, b2, f2) = _
          rw [show e k - (d - 1) - k = j + 1 - k by omega]; exact h
      by_cases h17 : m 46 (o j) = 17
      · rw [if_pos h17, y_of ho (by decide), hs.1]
        simp only [Option.bind_some]
        have hb := hT.t62 (r := j) (by omega) hjN h17
        have h43 := y_olT (m := m') (x1 := o k) (s0 := oLn m o k (j - k).toNat) hoj (by rw [hm 62 (by decide) (by decide)]; exact hb) hs.2 (hok (j - k).toNat (by omega)) (by omega)
        rw [← g3, hm 61 (by decide) (by decide), hm 62 (by decide) (by decide)] at h43
        rw [h43]
        simp only [Option.bind_some]
        refine fin _ _ _ ?_
        rw [hst, if_pos h17]
      · rw [if_neg h17]
        exact fin _ _ _ (by rw [hst, if_neg h17]; exact g3)
    · rw [if_neg hd] at g2
      rw [if_pos g2]
      refine ev_gr ?_
      have e1 : w1 = _ := congrArg Prod.fst g3
      rw [e1, show e k - d - k = e k - k by omega]; rfl
  rw [key]; rfl
/-- how it is laid: kd of the class, md of the reference, pk of what it lies in -/
def KMR (kd md pk t ds : Int) : Prop := (kd = 0 ∧ md = 0) ∨ ((pk = 1 ∨ pk = 2 ∨ pk = 3) ∧
  ((kd = 1 ∧ (md = 1 ∨ md = 2) ∧ (t ≠ 17 ∧ t ≠ 10) ∧ (pk = 1 ∨ pk = 2) ∧ (md = 2 ↔ ds = 3) ∧ (pk = 1 → ds = 0 ∨ ds = 3)) ∨ (kd = 2 ∧ md = 4 ∧ 12 ≤ t ∧ t ≤ 14) ∨ (kd = 3 ∧ md = 3 ∧ (t ≠ 17 ∧ t ≠ 10) ∧ pk ≠ 2) ∨ (kd = 3 ∧ md = 5 ∧ t = 10 ∧ pk ≠ 2) ∨ (kd = 3 ∧ md = 6 ∧ t = 17 ∧ pk ≠ 2)))
theorem kind_both {qn : Int} (hv : 0 ≤ v ∧ v < 120) (hq : 0 ≤ qn ∧ qn < 120) (hv0 : v ≠ 0) (h2 : n 7 v 2 = qn) (h49 : m 49 v = qn) (ht : n 7 v 0 = m 46 v) (htb : 0 ≤ m 46 v ∧ m 46 v ≤ 17) (hlv : m 46 v ≠ 17 → N_Layout_look v 0 n = some (m 105 (11 * v)) ∧ 0 ≤ m 105 (11 * v) ∧ m 105 (11 * v) ≤ 3) (hlq : N_Layout_look qn 0 n = some (m 105 (11 * qn)))
    (hpk : (n 3 qn 0 = 0 ∧ m 107 qn = 0) ∨ (n 3 qn 0 = 1 ∧ ((m 107 qn = 1 ∧ m 105 (11 * qn) ≠ 3) ∨ (m 107 qn = 2 ∧ m 105 (11 * qn) = 3))) ∨ (n 3 qn 0 = 2 ∧ m 107 qn = 4) ∨ (n 3 qn 0 = 3 ∧ m 107 qn = 3)) :
    ∃ kd md, N_Layout_kindOf v v n = some kd ∧ N_Y_modeOf v m = some md ∧ KMR kd md (m 107 qn) (m 46 v) (m 105 (11 * v)) := by
  have hl1 : N_Y_of v 0 m = some (m 105 (11 * v)) := by rw [y_of hv (by decide), show 11 * v + 0 = 11 * v by omega]
  obtain ⟨pz, hpz⟩ : ∃ pz, pz = (if 12 ≤ m 46 v ∧ m 46 v ≤ 14 then (1 : Int) else 0) := ⟨_, rfl⟩
  have hc : N_Node_isPieceTag v n = some pz := by
    unfold N_Node_isPieceTag
    rw [ht, hpz]
    by_cases z : m 46 v < 12
    · rw [if_pos z, if_neg (by omega)]
    · rw [if_neg z]
      by_cases z' : 14 < m 46 v
      · rw [if_pos z', if_neg (by omega)]
      · rw [if_neg z', if_pos (by omega)]
  have hy : N_Y_isPieceTag (m 46 v) m = some pz := by
    unfold N_Y_isPieceTag
    rw [hpz]
    by_cases z : m 46 v = 12
    · rw [if_pos z, if_pos (by omega)]
    · rw [if_neg z]
      by_cases z' : m 46 v = 13
      · rw [if_pos z', if_pos (by omega)]
      · rw [if_neg z']
        by_cases z2 : m 46 v = 14
        · rw [if_pos z2, if_pos (by omega)]
        · rw [if_neg z2, if_neg (by omega)]
  unfold N_Layout_kindOf N_Y_modeOf nk_Layout_kindOf_42 nk_Layout_kindOf_43 nk_Layout_kindOf_83 nk_Layout_kindOf_84 nk_Layout_kindOf_104
  simp only [h2, h49, ht, hlq, hc, hy, hl1, ix_e (L := 120) _ hv, ix_e (L := 120) _ hq, if_neg hv0, Option.bind_some]
  by_cases h17 : m 46 v = 17
  · simp only [if_pos h17]
    rcases hpk with ⟨p1, p2⟩ | ⟨p1, ⟨p2, p3⟩ | ⟨p2, p3⟩⟩ | ⟨p1, p2⟩ | ⟨p1, p2⟩
    · rw [p1, p2]
      exact ⟨0, 0, rfl, rfl, .inl ⟨rfl, rfl⟩⟩
    · rw [p1, p2]
      simp only [if_neg p3]
      exact ⟨3, 6, rfl, rfl, .inr ⟨.inl rfl, .inr (.inr (.inr (.inr ⟨rfl, rfl, h17, by decide⟩)))⟩⟩
    · rw [p1, p2]
      simp only [if_pos p3]
      exact ⟨0, 0, rfl, rfl, .inl ⟨rfl, rfl⟩⟩
    · rw [p1, p2]
      exact ⟨0, 0, rfl, rfl, .inl ⟨rfl, rfl⟩⟩
    · rw [p1, p2]
      exact ⟨3, 6, rfl, rfl, .inr ⟨.inr (.inr rfl), .inr (.inr (.inr (.inr ⟨rfl, rfl, h17, by decide⟩)))⟩⟩
  · obtain ⟨l1, l2, l3⟩ := hlv h17
    simp only [if_neg h17, l1, Option.bind_some]
    by_cases d2 : m 105 (11 * v) = 2
    · simp only [if_pos d2]
      have hX : (if m 107 qn = 0 then some (0 : Int) else if m 107 qn = 4 then some 0 else if m 107 qn = 5 then some 0 else some 0) = some 0 := by (repeat' split) <;> rfl
      exact ⟨0, 0, rfl, hX, .inl ⟨rfl, rfl⟩⟩
    · simp only [if_neg d2]
      by_cases pc : 12 ≤ m 46 v ∧ m 46 v ≤ 14
      · have ep : pz = 1 := by rw [hpz, if_pos pc]
        have n10 : ¬ m 46 v = 10 := by omega
        simp only [ep, if_neg n10]
        rcases hpk with ⟨p1, p2⟩ | ⟨p1, ⟨p2, p3⟩ | ⟨p2, p3⟩⟩ | ⟨p1, p2⟩ | ⟨p1, p2⟩
        · rw [p1, p2]
          exact ⟨0, 0, rfl, rfl, .inl ⟨rfl, rfl⟩⟩
        · rw [p1, p2]
          simp only [if_neg p3]
          exact ⟨2, 4, rfl, rfl, .inr ⟨.inl rfl, .inr (.inl ⟨rfl, rfl, pc⟩)⟩⟩
        · rw [p1, p2]
          simp only [if_pos p3]
          exact ⟨2, 4, rfl, rfl, .inr ⟨.inr (.inl rfl), .inr (.inl ⟨rfl, rfl, pc⟩)⟩⟩
        · rw [p1, p2]
          exact ⟨0, 0, rfl, rfl, .inl ⟨rfl, rfl⟩⟩
        · rw [p1, p2]
          exact ⟨2, 4, rfl, rfl, .inr ⟨.inr (.inr rfl), .inr (.inl ⟨rfl, rfl, pc⟩)⟩⟩
      · have ep : pz = 0 := by rw [hpz, if_neg pc]
        by_cases n10 : m 46 v = 10
        · simp only [ep, if_pos n10]
          rcases hpk with ⟨p1, p2⟩ | ⟨p1, ⟨p2, p3⟩ | ⟨p2, p3⟩⟩ | ⟨p1, p2⟩ | ⟨p1, p2⟩
          · rw [p1, p2]
            exact ⟨0, 0, rfl, rfl, .inl ⟨rfl, rfl⟩⟩
          · rw [p1, p2]
            simp only [if_neg p3]
            exact ⟨3, 5, rfl, rfl, .inr ⟨.inl rfl, .inr (.inr (.inr (.inl ⟨rfl, rfl, n10, by decide⟩)))⟩⟩
          · rw [p1, p2]
            simp only [if_pos p3]
            exact ⟨0, 0, rfl, rfl, .inl ⟨rfl, rfl⟩⟩
          · rw [p1, p2]
            exact ⟨0, 0, rfl, rfl, .inl ⟨rfl, rfl⟩⟩
          · rw [p1, p2]
            exact ⟨3, 5, rfl, rfl, .inr ⟨.inr (.inr rfl), .inr (.inr (.inr (.inl ⟨rfl, rfl, n10, by decide⟩)))⟩⟩
        · simp only [ep, if_neg n10]
          rcases hpk with ⟨p1, p2⟩ | ⟨p1, ⟨p2, p3⟩ | ⟨p2, p3⟩⟩ | ⟨p1, p2⟩ | ⟨p1, p2⟩
          · rw [p1, p2]
            exact ⟨0, 0, rfl, rfl, .inl ⟨rfl, rfl⟩⟩
          · rw [p1, p2]
            simp only [if_neg p3]
            by_cases d1 : m 105 (11 * v) = 1
            · simp only [if_pos d1]
              exact ⟨3, 3, rfl, rfl, .inr ⟨.inl rfl, .inr (.inr (.inl ⟨rfl, rfl, ⟨h17, n10⟩, by decide⟩))⟩⟩
            · simp only [if_neg d1]
              by_cases d3 : m 105 (11 * v) = 3
              · simp only [if_pos d3]
                exact ⟨1, 2, rfl, rfl, .inr ⟨.inl rfl, .inl ⟨rfl, .inr rfl, ⟨h17, n10⟩, .inl rfl, ⟨fun _ => d3, fun _ => rfl⟩, fun w => .inr d3⟩⟩⟩
              · simp only [if_neg d3]
                exact ⟨1, 1, rfl, rfl, .inr ⟨.inl rfl, .inl ⟨rfl, .inl rfl, ⟨h17, n10⟩, .inl rfl, ⟨fun w => absurd w (by decide), fun w => absurd w d3⟩, fun w => .inl (by omega)⟩⟩⟩
          · rw [p1, p2]
            simp only [if_pos p3]
            by_cases d3 : m 105 (11 * v) = 3
            · simp only [if_pos d3]
              exact ⟨1, 2, rfl, rfl, .inr ⟨.inr (.inl rfl), .inl ⟨rfl, .inr rfl, ⟨h17, n10⟩, .inr rfl, ⟨fun _ => d3, fun _ => rfl⟩, fun w => absurd w (by decide)⟩⟩⟩
            · simp only [if_neg d3]
              exact ⟨1, 1, rfl, rfl, .inr ⟨.inr (.inl rfl), .inl ⟨rfl, .inl rfl, ⟨h17, n10⟩, .inr rfl, ⟨fun w => absurd w (by decide), fun w => absurd w d3⟩, fun w => absurd w (by decide)⟩⟩⟩
          · rw [p1, p2]
            exact ⟨0, 0, rfl, rfl, .inl ⟨rfl, rfl⟩⟩
          · rw [p1, p2]
            by_cases t11 : m 46 v = 11
            · simp only [if_pos t11]
              exact ⟨0, 0, rfl, rfl, .inl ⟨rfl, rfl⟩⟩
            · simp only [if_neg t11]
              exact ⟨3, 3, rfl, rfl, .inr ⟨.inr (.inr rfl), .inr (.inr (.inl ⟨rfl, rfl, ⟨h17, n10⟩, by decide⟩))⟩⟩
end Y3
