/-! TEXT IN ONE LINE: how wide it is, in both -/
/-- one byte more: whether a blank waits, how wide, what is gathered -/
def oLs (b : Int) (s : Int × Int × List Int) : Int × Int × List Int := if isBl b then ((if s.2.2 = [] then 0 else 1), s.2.1, s.2.2) else (0, s.2.1 + (if s.1 = 0 then 0 else 3) + gly b, s.2.2 ++ (if s.1 = 0 then [b] else [32, b]))
def oLt (g : Int → Int) : Nat → Int × Int × List Int → Int × Int × List Int
  | 0, s => s
  | k + 1, s => oLs (g k) (oLt g k s)
/-- the texts of the places from k on -/
def oLn (m : YS) (o : Int → Int) (k : Int) : Nat → Int × Int × List Int
  | 0 => (0, 0, [])
  | j + 1 => if m 46 (o (k + j)) = 17 then oLt (fun i => m 61 (400 * o (k + j) + i)) (m 62 (o (k + j))).toNat (oLn m o k j) else oLn m o k j
def OKo (s : Int × Int × List Int) (c : Int) : Prop := (s.1 = 0 ∨ s.1 = 1) ∧ (0 ≤ s.2.1 ∧ s.2.1 ≤ 8 * c) ∧ (s.2.2.length : Int) + s.1 ≤ c ∧ (s.1 = 1 → s.2.2 ≠ [])
section Y2
variable {n n' n'' : NS} {m m' m'' : YS} {A B N a b c x y q s E v u w t k j r x1 x2 x3 x4 x5 i : Int} {o e p g : Int → Int} {s0 : Int × Int × List Int}
theorem len0 {l : List Int} (h : l.length = 0) : l = [] := by
  cases l with
  | nil => rfl
  | cons a l => simp at h
theorem oLs_ok (h : OKo s0 c) : OKo (oLs b s0) (c + 1) := by
  obtain ⟨a, w, l⟩ := s0
  obtain ⟨h1, h2, h3, h4⟩ := h
  simp only at h1 h2 h3 h4
  have gb := gly_b (b := b)
  unfold oLs OKo
  by_cases z : isBl b
  · rw [if_pos z]
    by_cases y : l = []
    · simp only [if_pos y]
      exact ⟨.inl trivial, by omega, by omega, fun w => absurd w (by decide)⟩
    · simp only [if_neg y]
      refine ⟨.inr trivial, by omega, ?_, fun _ => y⟩
      have : l.length ≠ 0 := fun w => y (len0 w)
      omega
  · rw [if_neg z]
    by_cases y : a = 0
    · simp only [if_pos y]
      refine ⟨.inl trivial, by omega, ?_, fun w => absurd w (by decide)⟩
      rw [List.length_append]; simp; omega
    · simp only [if_neg y]
      refine ⟨.inl trivial, by omega, ?_, fun w => absurd w (by decide)⟩
      rw [List.length_append]; simp; omega
theorem oLt_ok (h : OKo s0 c) : ∀ j : Nat, OKo (oLt g j s0) (c + j) := by
  intro j
  induction j with
  | zero => simp only [oLt]; rw [show c + ((0 : Nat) : Int) = c by omega]; exact h
  | succ j ih =>
    simp only [oLt]
    rw [show c + ((j + 1 : Nat) : Int) = c + j + 1 by omega]
    exact oLs_ok ih
theorem oLn_ok (hd : ∀ r, k ≤ r → r < N → m 46 (o r) = 17 → 0 ≤ m 62 (o r) ∧ m 62 (o r) ≤ 400) : ∀ j : Nat, k + j ≤ N → OKo (oLn m o k j) (400 * j) := by
  intro j
  induction j with
  | zero => intro _; simp only [oLn]; exact ⟨.inl rfl, by decide, by decide, fun w => absurd w (by decide)⟩
  | succ j ih =>
    intro hj
    have h1 := ih (by omega)
    simp only [oLn]
    by_cases z : m 46 (o (k + j)) = 17
    · rw [if_pos z]
      have hb := hd (k + j) (by omega) (by omega) z
      have h2 := oLt_ok (g := fun i => m 61 (400 * o (k + j) + i)) h1 (m 62 (o (k + j))).toNat
      obtain ⟨g1, g2, g3, g4⟩ := h2
      exact ⟨g1, by omega, by omega, g4⟩
    · rw [if_neg z]
      obtain ⟨g1, g2, g3, g4⟩ := h1
      exact ⟨g1, by omega, by omega, g4⟩
theorem oLt_s (h : 0 ≤ i) : oLt g (i + 1).toNat s0 = oLs (g i) (oLt g i.toNat s0) := by
  rw [show (i + 1).toNat = i.toNat + 1 by omega]
  simp only [oLt]
  rw [show ((i.toNat : Nat) : Int) = i by omega]
theorem bm_tx (h : 0 ≤ b ∧ b ≤ 126) : Int.bmod b 256 = b := bmod_id ⟨by omega, by omega⟩
theorem lim_608 : lim 608 = 48000 := by decide
theorem c_addO (hB : BI A B n) (hb : 0 ≤ b ∧ b ≤ 126) (hl : ((bt n 608).length : Int) < 48000) : ev (N_Bytes_add 608 b n) (fun n' => BI A B n' ∧ FB (fun x => x = 608) n n' ∧ bt n' 608 = bt n 608 ++ [b]) := by
  refine ev_mono (cs_add (c := b) (by decide) hB) (fun n' h => ⟨h.1, h.2.1, ?_⟩)
  rw [h.2.2, bm_tx hb, lim_608, List.take_of_length_le (by rw [List.length_append]; simp; omega)]
/-- one TEXT, in the class -/
theorem c_olT (hB : BI A B n) (hd : ND n m v) (hv : 0 ≤ v ∧ v < 120) (h17 : m 46 v = 17) (hs : s0 = (a, w, bt n 608)) (hok : OKo s0 c) (hc : 0 ≤ c ∧ c + 400 ≤ 48000) : ev (NL_Layout_textWidth_66 x1 x2 x5 v a w 0 n) (fun r => BI A B r.2.2 ∧ FB (fun x => x = 608) n r.2.2 ∧ (r.1, r.2.1, bt r.2.2 608) = oLt (fun i => m 61 (400 * v + i)) (m 62 v).toNat s0) := by
  obtain ⟨t1, t2, t3, t4⟩ := tx_node hB hd hv h17
  have htag : n 7 v 0 = 17 := by rw [hd.1.1]; exact h17
  unfold NL_Layout_textWidth_66
  refine ev_it (fun t : Int × Int × Int × NS => (0 ≤ t.2.2.1 ∧ t.2.2.1 ≤ m 62 v) ∧ BI A B t.2.2.2 ∧ FB (fun x => x = 608) n t.2.2.2 ∧ (t.1, t.2.1, bt t.2.2.2 608) = oLt (fun i => m 61 (400 * v + i)) t.2.2.1.toNat s0) (fun t => m 62 v - t.2.2.1) (fun t ht => ?_) ⟨⟨Int.le_refl _, t2.1⟩, hB, FB.refl _ _, hs.symm⟩
  obtain ⟨a1, w1, i, n1⟩ := t
  obtain ⟨g1, g2, g3, g4⟩ := ht
  simp only at g1 g2 g3 g4
  show ev (nb_Layout_textWidth_66 x1 x2 x5 v a1 w1 i n1) _
  have hd1 : ND n1 m v := hd.cg (YG.refl _ _) (NG.fb g3 hB (fun x hx => by omega) hv)
  obtain ⟨q1, q2, q3, q4⟩ := tx_node g2 hd1 hv h17
  have hO := oLt_ok (g := fun i => m 61 (400 * v + i)) hok i.toNat
  rw [← g4] at hO
  obtain ⟨o1, o2, o3, o4⟩ := hO
  simp only at o1 o2 o3 o4
  have hbl := bt_len (b := 608) (by decide) g2
  have hr := (g2.1 (5 * v) (by omega) (by omega)).2.1.1
  unfold nb_Layout_textWidth_66
  rw [g3.1 7 (by decide) (by decide) (by decide) (by decide) (by decide) (by decide), htag, if_pos rfl, q1]
  refine ev_if (fun hlt => ?_) (fun hge => ev_inr ⟨g2, g3, by show (a1, w1, bt n1 608) = _; rw [g4, show i = m 62 v by omega]⟩)
  refine ev_nn hr (ev_tx q3 ⟨g1.1, hlt⟩ (fun ex => ?_))
  rw [ex]
  have hb := q4 i g1.1 hlt
  have fin : ∀ a2 w2 (n2 : NS), BI A B n2 → FB (fun x => x = 608) n1 n2 → (a2, w2, bt n2 608) = oLs (m 61 (400 * v + i)) (a1, w1, bt n1 608) → ev (ck (i + 1) (some (Sum.inl (a2, w2, i + 1, n2)))) (lp (fun t : Int × Int × Int × NS => (0 ≤ t.2.2.1 ∧ t.2.2.1 ≤ m 62 v) ∧ BI A B t.2.2.2 ∧ FB (fun x => x = 608) n t.2.2.2 ∧ (t.1, t.2.1, bt t.2.2.2 608) = oLt (fun i => m 61 (400 * v + i)) t.2.2.1.toNat s0) (fun t => m 62 v - t.2.2.1) (a1, w1, i, n1) (fun r : Int × Int × NS => BI A B r.2.2 ∧ FB (fun x => x = 608) n r.2.2 ∧ (r.1, r.2.1, bt r.2.2 608) = oLt (fun i => m 61 (400 * v + i)) (m 62 v).toNat s0)) := fun a2 w2 n2 k1 k2 k3 => ev_ck (by omega) (ev_inl ⟨⟨by show 0 ≤ i + 1 ∧ i + 1 ≤ _; omega, k1, g3.trans k2, by show (a2, w2, bt n2 608) = oLt _ (i + 1).toNat s0; rw [oLt_s g1.1, k3, g4]⟩, by show m 62 v - (i + 1) < m 62 v - i; omega, by show 0 ≤ m 62 v - i; omega⟩)
  refine ev_bz cs_blank (fun hp => ?_) (fun hp => ?_)
  · rw [if_neg (by decide)]
    refine ev_if (fun hz => ?_) (fun hz => ?_)
    · refine fin 1 w1 n1 g2 (FB.refl _ _) ?_
      unfold oLs
      have : bt n1 608 ≠ [] := fun w => by rw [w] at hbl; simp at hbl; omega
      simp only [if_pos hp, if_neg this]
    · refine fin 0 w1 n1 g2 (FB.refl _ _) ?_
      unfold oLs
      have : bt n1 608 = [] := len0 (by omega)
      simp only [if_pos hp, if_pos this]
  · rw [if_pos rfl]
    have gb := gly_b (b := m 61 (400 * v + i))
    have h145 : ∀ w2 (n2 : NS) l2, BI A B n2 → FB (fun x => x = 608) n1 n2 → bt n2 608 = l2 → (0, w2 + gly (m 61 (400 * v + i)), l2 ++ [m 61 (400 * v + i)]) = oLs (m 61 (400 * v + i)) (a1, w1, bt n1 608) → ((l2.length : Nat) : Int) < 48000 → 0 ≤ w2 → w2 ≤ 1000000 → ev (nk_Layout_textWidth_145 x1 x2 w2 x5 v i (m 61 (400 * v + i)) n2) (lp (fun t : Int × Int × Int × NS => (0 ≤ t.2.2.1 ∧ t.2.2.1 ≤ m 62 v) ∧ BI A B t.2.2.2 ∧ FB (fun x => x = 608) n t.2.2.2 ∧ (t.1, t.2.1, bt t.2.2.2 608) = oLt (fun i => m 61 (400 * v + i)) t.2.2.1.toNat s0) (fun t => m 62 v - t.2.2.1) (a1, w1, i, n1) (fun r : Int × Int × NS => BI A B r.2.2 ∧ FB (fun x => x = 608) n r.2.2 ∧ (r.1, r.2.1, bt r.2.2 608) = oLt (fun i => m 61 (400 * v + i)) (m 62 v).toNat s0)) := fun w2 n2 l2 k1 k2 k3 k4 k5 k6 k7 => by
      unfold nk_Layout_textWidth_145
      refine ev_bind (c_addO k1 (by omega) (by rw [k3]; exact k5)) (fun n3 h3 => ?_)
      rw [cs_glyph]
      simp only [Option.bind_some]
      refine ev_ck (by omega) (fin 0 _ n3 h3.1 (k2.trans h3.2.1) ?_)
      rw [h3.2.2, k3]; exact k4
    refine ev_if (fun hz => ?_) (fun hz => ?_)
    · refine h145 w1 n1 _ g2 (FB.refl _ _) rfl ?_ (by omega) (by omega) (by omega)
      unfold oLs
      simp only [if_neg hp, if_pos hz]
      rw [show w1 + 0 + gly (m 61 (400 * v + i)) = w1 + gly (m 61 (400 * v + i)) by omega]
    · refine ev_bind (c_addO g2 (show (0 : Int) ≤ 32 ∧ (32 : Int) ≤ 126 by decide) (by omega)) (fun n2 h2 => ev_ck (by omega) ?_)
      refine h145 (w1 + 3) n2 _ h2.1 h2.2.1 h2.2.2 ?_ (by rw [List.length_append]; simp; omega) (by omega) (by omega)
      unfold oLs
      simp only [if_neg hp, if_neg hz]
      rw [List.append_assoc]; rfl
/-- one TEXT, in the reference -/
def oY (s : Int) (z : Int × Int × List Int) : Int × Int × Int := (z.2.1 * s, z.1 * (3 * s), if z.2.2 = [] then 0 else 1)
theorem y_olT (hv : 0 ≤ v ∧ v < 120) (hL : 0 ≤ m 62 v ∧ m 62 v ≤ 400) (hs : 1 ≤ s ∧ s ≤ 3) (hok : OKo s0 c) (hc : 0 ≤ c ∧ c + 400 ≤ 48000) : NL_Y_oneLine_43 x1 v s (oY s s0).1 (oY s s0).2.1 (oY s s0).2.2 0 m = some (oY s (oLt (fun i => m 61 (400 * v + i)) (m 62 v).toNat s0)) := by
  apply eq_of_ev
  unfold NL_Y_oneLine_43
  refine ev_it (fun t : Int × Int × Int × Int => (0 ≤ t.2.2.2 ∧ t.2.2.2 ≤ m 62 v) ∧ (t.1, t.2.1, t.2.2.1) = oY s (oLt (fun i => m 61 (400 * v + i)) t.2.2.2.toNat s0)) (fun t => m 62 v - t.2.2.2) (fun t ht => ?_) ⟨⟨Int.le_refl _, hL.1⟩, rfl⟩
  obtain ⟨w1, b1, f1, i⟩ := t
  obtain ⟨g1, g2⟩ := ht
  simp only at g1 g2
  show ev (nb_Y_oneLine_43 x1 v s w1 b1 f1 i m) _
  have hO := oLt_ok (g := fun i => m 61 (400 * v + i)) hok i.toNat
  have hst := oLt_s (g := fun i => m 61 (400 * v + i)) (s0 := s0) g1.1
  generalize hz : oLt (fun i => m 61 (400 * v + i)) i.toNat s0 = z at *
  obtain ⟨za, zw, zl⟩ := z
  obtain ⟨o1, o2, o3, o4⟩ := hO
  simp only at o1 o2 o3 o4
  have e1 : w1 = zw * s := congrArg Prod.fst g2
  have e2 : b1 = za * (3 * s) := congrArg (fun t => t.2.1) g2
  have e3 : f1 = if zl = [] then 0 else 1 := congrArg (fun t => t.2.2) g2
  unfold nb_Y_oneLine_43
  refine ev_ix hv (ev_if (fun hlt => ?_) (fun hge => ev_inr (by show (w1, b1, f1) = _; rw [g2, show m 62 v = i by omega, hz])))
  refine ev_ck (by omega) (ev_ck (by omega) (ev_ix (by omega) ?_))
  have fin : ∀ w2 b2 f2, (w2, b2, f2) = oY s (oLs (m 61 (400 * v + i)) (za, zw, zl)) → ev (ck (i + 1) (some (Sum.inl (w2, b2, f2, i + 1)))) (lp (fun t : Int × Int × Int × Int => (0 ≤ t.2.2.2 ∧ t.2.2.2 ≤ m 62 v) ∧ (t.1, t.2.1, t.2.2.1) = oY s (oLt (fun i => m 61 (400 * v + i)) t.2.2.2.toNat s0)) (fun t => m 62 v - t.2.2.2) (w1, b1, f1, i) (fun r => r = oY s (oLt (fun i => m 61 (400 * v + i)) (m 62 v).toNat s0))) := fun w2 b2 f2 k => ev_ck (by omega) (ev_inl ⟨⟨by show 0 ≤ i + 1 ∧ i + 1 ≤ _; omega, by show (w2, b2, f2) = oY s (oLt _ (i + 1).toNat s0); rw [hst]; exact k⟩, by show m 62 v - (i + 1) < m 62 v - i; omega, by show 0 ≤ m 62 v - i; omega⟩)
  have gb := gly_b (b := m 61 (400 * v + i))
  have hgs : 0 ≤ gly (m 61 (400 * v + i)) * s ∧ gly (m 61 (400 * v + i)) * s ≤ 5 * 3 := ⟨Int.mul_nonneg (by omega) (by omega), Int.mul_le_mul gb.2 hs.2 (by omega) (by omega)⟩
  have hws : 0 ≤ zw * s ∧ zw * s ≤ 400000 * 3 := ⟨Int.mul_nonneg o2.1 (by omega), Int.mul_le_mul (by omega) hs.2 (by omega) (by omega)⟩
  refine ev_bz ys_blank (fun hp => ?_) (fun hp => ?_)
  · rw [if_neg (by decide)]
    by_cases hl : zl = []
    · rw [if_pos hl] at e3
      rw [if_pos e3]
      refine fin w1 b1 f1 ?_
      have hza : za = 0 := by
        rcases o1 with w | w
        · exact w
        · exact absurd hl (o4 w)
      unfold oLs oY
      simp only [if_pos hp, if_pos hl]
      rw [e1, e2, e3, hza]
    · rw [if_neg hl] at e3
      rw [if_neg (by omega)]
      by_cases hb : b1 = 0
      · have hza : za = 0 := by
          rcases o1 with w | w
          · exact w
          · rw [w] at e2; omega
        rw [if_pos hb]
        refine ev_ck (by omega) (fin _ _ _ ?_)
        unfold oLs oY
        simp only [if_pos hp, if_neg hl]
        rw [e1, e3, show (1 : Int) * (3 * s) = 3 * s by omega]
      · have hza : za = 1 := by
          rcases o1 with w | w
          · rw [w] at e2; omega
          · exact w
        rw [if_neg hb]
        refine fin _ _ _ ?_
        unfold oLs oY
        simp only [if_pos hp, if_neg hl]
        rw [e1, e2, e3, hza]
  · rw [if_pos rfl, ys_glyph]
    simp only [Option.bind_some]
    have hb1 : 0 ≤ b1 ∧ b1 ≤ 9 := by
      rcases o1 with w | w
      · rw [w] at e2; omega
      · rw [w] at e2; omega
    refine ev_ck (by omega) (ev_ck (by omega) (ev_ck (by omega) (fin _ _ _ ?_)))
    unfold oLs oY
    simp only [if_neg hp]
    have e4 : ((zw + (if za = 0 then 0 else 3) + gly (m 61 (400 * v + i))) * s) = w1 + (b1 + gly (m 61 (400 * v + i)) * s) := by
      rw [e1, e2]
      rcases o1 with w | w
      · rw [if_pos w, w, Int.add_mul, Int.add_mul]; omega
      · rw [if_neg (by omega), w, Int.add_mul, Int.add_mul]; omega
    rw [e4]
    have hne : (zl ++ if za = 0 then [m 61 (400 * v + i)] else [32, m 61 (400 * v + i)]) ≠ [] := by
      split <;> simp
    rw [if_neg hne, show (0 : Int) * (3 * s) = 0 by omega]
end Y2
