/-! THE REFERENCE writes a path, reads QUERY and mark -/
/-- all but the first row, and what is used up on the way -/
def FR0 (m m' : YS) : Prop := FY [6, 7, 8, 9, 10, 11, 12, 14, 15] m m' ∧ (∀ j, 150 ≤ j → m' 6 j = m 6 j) ∧ (∀ q, q ≠ 0 → m' 7 q = m 7 q ∧ m' 8 q = m 8 q)
section F2
variable {m m' m'' : YS} {f : Nat} {a b c k to e pa r : Int} {g : Int → Int} {st ss : List (List Int)} {q l nm mk : List Int}
theorem FR0.refl : FR0 m m := ⟨FY.refl _ _, fun _ _ => rfl, fun _ _ => ⟨rfl, rfl⟩⟩
theorem FR0.trans (h : FR0 m m') (h' : FR0 m' m'') : FR0 m m'' := ⟨h.1.trans h'.1, fun j hj => (h'.2.1 j hj).trans (h.2.1 j hj), fun q hq => ⟨(h'.2.2 q hq).1.trans (h.2.2 q hq).1, (h'.2.2 q hq).2.trans (h.2.2 q hq).2⟩⟩
theorem RPt.fr (h : RPt m m' 0 l) (hs : m 7 0 + (l.length : Int) ≤ 150) : FR0 m m' := by
  refine ⟨fun x hx => h.1 x (fun z => hx (by simp at z ⊢; omega)), fun j hj => h.2.2.2.2 j (by omega), fun q hq => ⟨h.2.2.1 q hq, by rw [h.1 8 (by decide)]⟩⟩
theorem FY.fr {fs : List Nat} (h : FY fs m m') (hs : ∀ x ∈ fs, x = 9 ∨ x = 10 ∨ x = 11 ∨ x = 12 ∨ x = 14 ∨ x = 15) : FR0 m m' := by
  refine ⟨fun x hx => h x (fun z => hx (by have := hs x z; simp; omega)), fun j hj => by rw [h 6 (fun z => by have := hs 6 z; omega)], fun q hq => ⟨by rw [h 7 (fun z => by have := hs 7 z; omega)], by rw [h 8 (fun z => by have := hs 8 z; omega)]⟩⟩
theorem STK.seg (hS : STK m st) {j : Nat} (hj : j < st.length) : m 11 j = (st[j].length : Int) ∧ 0 ≤ m 10 j ∧ sg (m 9) (m 10 j) st[j].length = st[j] ∧ m 10 j + (st[j].length : Int) ≤ (st.flatten.length : Int) := by
  obtain ⟨h1, h2, h3⟩ := hS
  obtain ⟨q1, q2⟩ := h2 j hj
  have eg : st.getD j [] = st[j] := by simp [List.getD, hj]
  rw [eg] at q2
  have e1 : st = st.take j ++ (st[j] :: st.drop (j + 1)) := by
    rw [← List.drop_eq_getElem_cons hj, List.take_append_drop]
  have e2 : st.flatten = (st.take j).flatten ++ (st[j] ++ (st.drop (j + 1)).flatten) := by
    have : (st.take j ++ (st[j] :: st.drop (j + 1))).flatten = (st.take j).flatten ++ (st[j] ++ (st.drop (j + 1)).flatten) := by rw [List.flatten_append]; rfl
    rw [← e1] at this; exact this
  refine ⟨q2, by omega, ?_, ?_⟩
  · rw [e2] at h3
    have := sg_mid h3
    rw [q1]
    rw [show (0 : Int) + ((st.take j).flatten.length : Int) = ((st.take j).flatten.length : Int) by omega] at this
    exact this
  · rw [q1, e2, List.length_append, List.length_append]; omega
theorem y_pathOut (hS : STK m st) (hb : st.length ≤ 6 ∧ ∀ x ∈ st, x.length ≤ 12 ∧ ∀ c ∈ x, isSg c) (hf : st.flatten.length ≤ 2200) (hsz : 0 ≤ m 7 0 ∧ m 7 0 ≤ 20) : ev (NL_Y_refer_291 f a b c 0 m) (fun m' => RPt m m' 0 (pth st)) := by
  have hpl := pth_len st (fun x hx => (hb.2 x hx).1)
  unfold NL_Y_refer_291
  refine ev_it (fun s : Int × YS => ∃ j : Nat, s.1 = (j : Int) ∧ j ≤ st.length ∧ RPt m s.2 0 (pth (st.take j))) (fun s => (st.length : Int) - s.1) (fun s hs => ?_) ⟨0, rfl, Nat.zero_le _, RPt.nil⟩
  obtain ⟨k, m1⟩ := s
  obtain ⟨j, g1, g2, g3⟩ := hs
  simp only at g1 g3
  subst g1
  show ev (nb_Y_refer_291 f a b c j m1) _
  unfold nb_Y_refer_291
  rw [g3.1 12 (by decide), hS.1]
  refine ev_if (fun hlt => ?_) (fun hge => ev_inr (show RPt m m1 0 (pth st) from ?_))
  · have hj : j < st.length := by omega
    obtain ⟨t1, t2⟩ := pth_take hj
    obtain ⟨s1, s2, s3, s4⟩ := hS.seg hj
    have hx := hb.2 st[j] (List.getElem_mem hj)
    have hlen : (pth st).length = (pth (st.take j)).length + (1 + st[j].length + (pth (st.drop (j + 1))).length) := by
      rw [t1, List.length_append, List.length_append, List.length_cons]; omega
    have z7 := g3.2.1
    refine ev_bind (y_put (r := 0) (c := 47) (by omega) (by omega) (by omega)) (fun m2 h2 => ?_)
    have f2 : FY [6, 7] m m2 := g3.1.trans h2.1
    have z72 : m2 7 0 = m1 7 0 + 1 := h2.2.1
    refine ev_bind (P := fun m3 => RPt m2 m3 0 st[j]) ?_ (fun m3 h3 => ev_ck (by omega) (ev_inl ⟨⟨j + 1, by show (j : Int) + 1 = ((j + 1 : Nat) : Int); omega, hj, ?_⟩, by show (st.length : Int) - ((j : Int) + 1) < (st.length : Int) - (j : Int); omega, by show 0 ≤ (st.length : Int) - (j : Int); omega⟩))
    · have hsrc : sg (fun k => m 9 (m 10 j + k)) 0 st[j].length = st[j] := by
        refine Eq.trans (sg_cg _ _ (m 10 j) (fun x hx => ?_)) s3
        show m 9 (m 10 j + (0 + (x : Int))) = m 9 (m 10 j + x)
        congr 1; omega
      have hloop := y_putLoop (m := m2) (r := 0) (F := fun s : Int × YS => nb_Y_refer_310 f a b c j s.1 s.2) (src := fun k => m 9 (m 10 j + k)) (k0 := 0) (k1 := (st[j].length : Int)) (by omega) (fun k m4 k1 k2 h4 => by
        have f4 : FY [6, 7] m m4 := f2.trans h4.1
        have z74 := h4.2.1
        rw [sg_len] at z74
        show ev (nb_Y_refer_310 f a b c j k m4) _
        unfold nb_Y_refer_310
        rw [f4 11 (by decide), f4 10 (by decide), f4 9 (by decide), s1]
        refine ev_ix (by omega) ?_
        rw [if_pos k2]
        have hm := sg_at (g := m 9) st[j].length (m 10 j) k.toNat (by omega)
        rw [s3, show m 10 j + ((k.toNat : Nat) : Int) = m 10 j + k by omega] at hm
        have hc := hx.2 _ hm
        refine ev_ix (by omega) (ev_ck (by omega) (ev_ix (by omega) (ev_bind (y_put (r := 0) (by omega) (by omega) (by omega)) (fun m5 h5 => ev_ck (by omega) (ev_ok ⟨m5, rfl, h5⟩))))) ) (fun m4 h4 => by
        have f4 : FY [6, 7] m m4 := f2.trans h4.1
        show nb_Y_refer_310 f a b c j (st[j].length : Int) m4 = _
        unfold nb_Y_refer_310 ix
        rw [f4 11 (by decide), s1, if_pos (by omega), if_neg (by omega)])
      rw [show ((st[j].length : Int) - 0).toNat = st[j].length by omega, hsrc] at hloop
      exact hloop
    · show RPt m m3 0 (pth (st.take (j + 1)))
      have e : pth (st.take (j + 1)) = pth (st.take j) ++ ([47] ++ st[j]) := by
        rw [show st.take (j + 1) = st.take j ++ [st[j]] by rw [List.take_succ]; simp [hj], pth_app]
        show pth (st.take j) ++ ((47 :: st[j]) ++ []) = _
        rw [List.append_nil]; rfl
      rw [e]
      exact g3.trans (h2.trans h3)
  · rw [List.take_of_length_le (by omega)] at g3; exact g3
theorem nm_iff (h : k ≤ to) : ((k < to ∧ nmC g k to = to) ↔ (nmE g k to ≠ k ∧ nmE g k to = to)) ∧ k ≤ nmE g k to ∧ nmE g k to ≤ to ∧ nmE g k to ≤ k + 8 := by
  have q1 := scx_ge (p := fun j => isNm (g j)) k to
  have q2 := scx_le (p := fun j => isNm (g j)) h
  unfold nmC nmE
  generalize sc (fun j => isNm (g j)) k to = S at *
  by_cases z : k < to ∧ isSm (g k)
  · rw [if_pos z, if_pos z]
    by_cases y : 8 < S - k
    · rw [if_pos y]; omega
    · rw [if_neg y]; omega
  · rw [if_neg z, if_neg z]; omega
def Q149 (m : YS) (R : Option (List Int × List Int)) (q : List Int) (x : Int × YS) : Prop := FR0 m x.2 ∧ x.2 7 0 = m 7 0 ∧ (∀ j, j < 135 → x.2 6 j = m 6 j) ∧ ((x.1 = 0 ∧ R = none) ∨ (x.1 = 1 ∧ ∃ mk, R = some (q, mk) ∧ x.2 8 0 = (mk.length : Int) ∧ sg (x.2 6) 135 mk.length = mk))
theorem y_q149 (hf : f ≠ 6 ∧ f ≠ 7 ∧ f ≠ 8 ∧ f ≠ 15) (hg : m f = g) (he : m 15 0 = e) (h8 : m 8 0 = 0) (hr : 0 ≤ e ∧ e ≤ to ∧ to ≤ yLn f ∧ to ≤ 100000) : ev (nk_Y_query_149 f to m) (Q149 m (RMk g e to q) q) := by
  unfold nk_Y_query_149 RMk
  rw [he, hg]
  have fin : ∀ x : Int, (x = 1 ∧ e = to) ∨ (x = 0 ∧ e ≠ to ∧ g e ≠ 35) → ev (some (x, m)) (Q149 m (if e = to then some (q, []) else if g e = 35 ∧ e + 1 < to ∧ nmC g (e + 1) to = to then some (q, sg g (e + 1) (to - e - 1).toNat) else none) q) := fun x hx => by
    refine ev_ok ⟨FR0.refl, rfl, fun _ _ => rfl, ?_⟩
    rcases hx with ⟨z1, z2⟩ | ⟨z1, z2, z3⟩
    · exact .inr ⟨z1, [], by rw [if_pos z2], h8, rfl⟩
    · exact .inl ⟨z1, by rw [if_neg z2, if_neg (fun y => z3 y.1)]⟩
  have f257 : (e = to ∨ g e ≠ 35) → ev (nk_Y_query_257 to m) (Q149 m (if e = to then some (q, []) else if g e = 35 ∧ e + 1 < to ∧ nmC g (e + 1) to = to then some (q, sg g (e + 1) (to - e - 1).toNat) else none) q) := fun hx => by
    unfold nk_Y_query_257
    rw [he]
    refine ev_if (fun z => fin 1 (.inl ⟨rfl, z⟩)) (fun z => fin 0 (.inr ⟨rfl, z, ?_⟩))
    rcases hx with y | y
    · exact absurd y z
    · exact y
  refine ev_if (fun hlt => ev_ix (by omega) (ev_if (fun h35 => ?_) (fun h35 => f257 (.inr h35)))) (fun hge => f257 (.inl (by omega)))
  obtain ⟨ni, n1, n2, n3⟩ := nm_iff (g := g) (k := e + 1) (to := to) (by omega)
  refine ev_ck (by omega) ?_
  rw [ys_nameEnd (f := f) (by omega) (by omega) (by omega) (by omega), hg]
  simp only [Option.bind_some]
  generalize nmE g (e + 1) to = z at *
  refine ev_ck (by omega) (ev_if (fun hz => ?_) (fun hz => ?_))
  · refine ev_ok ⟨FR0.refl, rfl, fun _ _ => rfl, .inl ⟨rfl, ?_⟩⟩
    rw [if_neg (by omega), if_neg (fun y => (ni.mp ⟨y.2.1, y.2.2⟩).1 hz)]
  · refine ev_ck (by omega) (ev_ck (by omega) (ev_ix (by omega) (ev_st ?_)))
    generalize hm2 : yw m 8 0 (z - e - 1) = m2
    have f2 : FY [8] m m2 := fun x hx => by rw [← hm2]; exact yw_nF (fun y => hx (by simp [y]))
    have e8 : m2 8 0 = z - e - 1 := by rw [← hm2, yw_eq]
    have e8o : ∀ j, j ≠ 0 → m2 8 j = m 8 j := fun j hj => by rw [← hm2, yw_ni hj]
    refine ev_bind (P := fun m3 => FY [6] m2 m3 ∧ (∀ j, ¬ (135 ≤ j ∧ j < 135 + (z - e - 1)) → m3 6 j = m 6 j) ∧ ∀ x : Nat, (x : Int) < z - e - 1 → m3 6 (135 + x) = g (e + 1 + x)) ?_ (fun m3 h3 => ev_st ?_)
    · unfold NL_Y_query_212
      refine ev_it (fun s : Int × YS => 0 ≤ s.1 ∧ s.1 ≤ z - e - 1 ∧ FY [6] m2 s.2 ∧ (∀ j, ¬ (135 ≤ j ∧ j < 135 + s.1) → s.2 6 j = m 6 j) ∧ ∀ x : Nat, (x : Int) < s.1 → s.2 6 (135 + x) = g (e + 1 + x)) (fun s => z - e - 1 - s.1) (fun s hs => ?_) ⟨Int.le_refl _, by show 0 ≤ z - e - 1; omega, FY.refl _ _, fun j _ => by show m2 6 j = _; rw [f2 6 (by decide)], fun x hx => by have hx : (x : Int) < 0 := hx; omega⟩
      obtain ⟨k, m4⟩ := s
      obtain ⟨g1, g2, g3, g4, g5⟩ := hs
      simp only at g1 g2 g3 g4 g5
      show ev (nb_Y_query_212 f to z k m4) _
      unfold nb_Y_query_212
      have w8 : m4 8 0 = z - e - 1 := by rw [g3 8 (by decide)]; exact e8
      have w15 : m4 15 0 = e := by rw [g3 15 (by decide), f2 15 (by decide)]; exact he
      have wf : m4 f = g := by rw [g3 f (by simp [hf.1]), f2 f (by simp [hf.2.2.1])]; exact hg
      rw [w8, w15, wf]
      refine ev_ix (by omega) (ev_if (fun hl => ev_ck (by omega) (ev_ck (by omega) (ev_ck (by omega) (ev_ix (by omega) (ev_ix (by omega) (ev_st (ev_ck (by omega) (ev_inl ⟨⟨by show 0 ≤ k + 1; omega, by show k + 1 ≤ _; omega, fun x hx => ?_, fun j hj => ?_, fun x hx => ?_⟩, by show z - e - 1 - (k + 1) < z - e - 1 - k; omega, by show 0 ≤ z - e - 1 - k; omega⟩)))))))) (fun hl => ev_inr ⟨g3, fun j hj => g4 j (by omega), fun x hx => g5 x (by omega)⟩))
      · show yw m4 6 _ _ x = m2 x
        rw [yw_nF (fun y => hx (by simp [y]))]; exact g3 x hx
      · show yw m4 6 _ _ 6 j = _
        have hj : ¬ (135 ≤ j ∧ j < 135 + (k + 1)) := hj
        rw [yw_ni (by omega)]; exact g4 j (by omega)
      · show yw m4 6 _ _ 6 _ = _
        have hx : (x : Int) < k + 1 := hx
        by_cases y : (x : Int) = k
        · rw [y, yw_eq]
        · rw [yw_ni (by omega)]; exact g5 x (by omega)
    · obtain ⟨k1, k2, k3⟩ := h3
      generalize hm4 : yw m3 15 0 z = m4
      have f4 : FY [15] m3 m4 := fun x hx => by rw [← hm4]; exact yw_nF (fun y => hx (by simp [y]))
      have e15 : m4 15 0 = z := by rw [← hm4, yw_eq]
      have fr : FR0 m m4 := by
        refine ⟨fun x hx => ?_, fun j hj => ?_, fun q hq => ⟨?_, ?_⟩⟩
        · simp only [List.mem_cons, List.not_mem_nil, or_false, not_or] at hx
          rw [f4 x (by simp; omega), k1 x (by simp; omega), f2 x (by simp; omega)]
        · rw [f4 6 (by decide)]; exact k2 j (by omega)
        · rw [f4 7 (by decide), k1 7 (by decide), f2 7 (by decide)]
        · rw [f4 8 (by decide), k1 8 (by decide)]; exact e8o q hq
      have c7 : m4 7 0 = m 7 0 := by rw [f4 7 (by decide), k1 7 (by decide), f2 7 (by decide)]
      have c6 : ∀ j, j < 135 → m4 6 j = m 6 j := fun j hj => by rw [f4 6 (by decide)]; exact k2 j (by omega)
      unfold nk_Y_query_257
      rw [e15]
      refine ev_if (fun hto => ev_ok ⟨fr, c7, c6, .inr ⟨rfl, sg g (e + 1) (to - e - 1).toNat, ?_, ?_, ?_⟩⟩) (fun hto => ev_ok ⟨fr, c7, c6, .inl ⟨rfl, ?_⟩⟩)
      · have := ni.mpr ⟨hz, hto⟩
        rw [if_neg (by omega), if_pos ⟨h35, this.1, this.2⟩]
      · show m4 8 0 = _
        rw [f4 8 (by decide), k1 8 (by decide), e8, sg_len]; omega
      · show sg (m4 6) 135 _ = _
        rw [sg_len, f4 6 (by decide)]
        exact sg_cg _ _ _ (fun x hx => k3 x (by omega))
      · rw [if_neg (by omega), if_neg (fun y => hto (ni.mp ⟨y.2.1, y.2.2⟩).2)]
def QRY (m : YS) (R : Option (List Int × List Int)) (x : Int × YS) : Prop := FR0 m x.2 ∧ ((x.1 = 0 ∧ R = none) ∨ (x.1 = 1 ∧ ∃ q mk, R = some (q, mk) ∧ q.length ≤ 41 ∧ (∀ j, j < m 7 0 → x.2 6 j = m 6 j) ∧ x.2 7 0 = m 7 0 + (q.length : Int) ∧ sg (x.2 6) (m 7 0) q.length = q ∧ x.2 8 0 = (mk.length : Int) ∧ sg (x.2 6) 135 mk.length = mk))
theorem QRY.of {R : Option (List Int × List Int)} {x : Int × YS} (h : RPt m m' 0 q) (hs : 0 ≤ m 7 0 ∧ m 7 0 ≤ 90) (hq : q.length ≤ 41) {m1 : YS} (h1 : FY [15] m' m1) (hx : Q149 m1 R q x) : QRY m R x := by
  obtain ⟨a1, a2, a3, a4⟩ := hx
  have f1 : FR0 m' m1 := h1.fr (fun x hx => by simp at hx; omega)
  have f0 : FR0 m m' := h.fr (by omega)
  refine ⟨(f0.trans f1).trans a1, ?_⟩
  rcases a4 with ⟨b1, b2⟩ | ⟨b1, mk, b2, b3, b4⟩
  · exact .inl ⟨b1, b2⟩
  · have e6 : m1 6 = m' 6 := h1 6 (by decide)
    refine .inr ⟨b1, q, mk, b2, hq, fun j hj => ?_, ?_, ?_, b3, b4⟩
    · rw [a3 j (by omega), e6]; exact h.2.2.2.2 j (by omega)
    · rw [a2, h1 7 (by decide)]; exact h.2.1
    · have := h.2.2.2.1
      rw [show 150 * 0 + m 7 0 = m 7 0 by omega] at this
      refine Eq.trans (sg_cg _ _ (m 7 0) (fun x hx => ?_)) this
      rw [a3 _ (by omega), e6]
theorem y_qry (hf : f ≠ 6 ∧ f ≠ 7 ∧ f ≠ 8 ∧ f ≠ 15) (hg : m f = g) (he : m 15 0 = k) (h8 : m 8 0 = 0) (hr : 0 ≤ k ∧ k ≤ to ∧ to ≤ yLn f ∧ to ≤ 100000) (hs : 0 ≤ m 7 0 ∧ m 7 0 ≤ 90) (hgb : ∀ j, k ≤ j → j < to → isTx (g j)) {bq : List Int} (hb : (pa ≠ 0 ∧ bq = []) ∨ (pa = 0 ∧ 1 ≤ r ∧ r < 66 ∧ RA m r nm ss bq mk ∧ WFA nm ss bq mk)) : ev (N_Y_query f to r pa m) (QRY m (RTl g k to bq)) := by
  unfold N_Y_query RTl
  rw [he, hg]
  have plain : ¬ (k < to ∧ g k = 63) → ev (nk_Y_query_102 f to r pa m) (QRY m (if k < to ∧ g k = 63 then (if 40 < sc (fun j => isQr (g j)) (k + 1) to - k - 1 then none else RMk g (sc (fun j => isQr (g j)) (k + 1) to) to (63 :: sg g (k + 1) (sc (fun j => isQr (g j)) (k + 1) to - k - 1).toNat)) else RMk g k to bq)) := fun hno => by
    rw [if_neg hno]
    unfold nk_Y_query_102
    rcases hb with ⟨p1, p2⟩ | ⟨p1, p2, p3, p4, p5⟩
    · rw [if_neg p1, p2]
      exact ev_mono (y_q149 (q := []) hf hg he h8 hr) (fun x hx => QRY.of RPt.nil hs (by decide) (FY.refl _ _) hx)
    · rw [if_pos p1, y_queryAt p4 p5 ⟨by omega, p3⟩]
      simp only [Option.bind_some]
      have hsz := p4.1
      rw [adL_len] at hsz
      obtain ⟨_, _, q3, _⟩ := p4.parts
      have hl := p5.len
      have hn := p5.1
      have hq := p5.2.2.1
      generalize hQ : 2 + (nm.length : Int) + ((pth ss).length : Int) = Q at *
      have hloop := y_putLoop (m := m) (r := 0) (F := fun s : Int × YS => nb_Y_query_114 f to r s.1 s.2) (src := fun j => m 6 (r * 150 + j)) (k0 := Q) (k1 := Q + (bq.length : Int)) (by omega) (fun j m4 k1 k2 h4 => by
        have z74 := h4.2.1
        rw [sg_len] at z74
        have z6 : m4 6 (r * 150 + j) = m 6 (r * 150 + j) := h4.2.2.2.2 _ (by rw [sg_len]; omega)
        have z7 : m4 7 r = m 7 r := h4.2.2.1 r (by omega)
        show ev (nb_Y_query_114 f to r j m4) _
        unfold nb_Y_query_114
        rw [z7, hsz, z6]
        refine ev_ix (by omega) ?_
        rw [if_pos k2]
        have hm := sg_at (g := m 6) bq.length (150 * r + Q) (j - Q).toNat (by omega)
        rw [q3, show 150 * r + Q + (((j - Q).toNat : Nat) : Int) = r * 150 + j by omega] at hm
        have hc := hq.2.2 _ hm
        refine ev_ck (by omega) (ev_ck (by omega) (ev_ix (by omega) (ev_bind (y_put (r := 0) (by omega) (by omega) (by omega)) (fun m5 h5 => ev_ck (by omega) (ev_ok ⟨m5, rfl, h5⟩)))))) (fun m4 h4 => by
        have z7 : m4 7 r = m 7 r := h4.2.2.1 r (by omega)
        show nb_Y_query_114 f to r (Q + (bq.length : Int)) m4 = _
        unfold nb_Y_query_114 ix
        rw [z7, hsz, if_pos (by omega), if_neg (by omega)])
      have hsrc : sg (fun j => m 6 (r * 150 + j)) Q bq.length = bq := by
        refine Eq.trans (sg_cg _ _ (150 * r + Q) (fun x hx => ?_)) q3
        show m 6 (r * 150 + (Q + (x : Int))) = m 6 (150 * r + Q + x)
        congr 1; omega
      rw [show (Q + (bq.length : Int) - Q).toNat = bq.length by omega, hsrc] at hloop
      unfold NL_Y_query_114
      refine ev_bind hloop (fun m1 h1 => ?_)
      exact ev_mono (y_q149 (q := bq) hf (by rw [h1.1 f (by simp [hf.1, hf.2.1])]; exact hg) (by rw [h1.1 15 (by decide)]; exact he) (by rw [h1.1 8 (by decide)]; exact h8) hr) (fun x hx => QRY.of h1 hs hq.1 (FY.refl _ _) hx)
  refine ev_if (fun hlt => ev_ix (by omega) (ev_if (fun h63 => ev_ck (by omega) ?_) (fun h63 => plain (fun z => h63 z.2)))) (fun hge => plain (fun z => hge z.1))
  rw [if_pos ⟨hlt, h63⟩]
  have e : NL_Y_query_27 f to (k + 1) m = some (sc (fun j => isQr (g j)) (k + 1) to) := by
    unfold NL_Y_query_27
    refine ev_scan (fun x x1 x2 => ?_)
    unfold nb_Y_query_27
    rw [hg]
    refine ev_if (fun hl => ev_ix (by omega) (ev_bz ys_query (fun hp => ?_) (fun hp => ?_))) (fun hl => ev_ok (.inr ⟨rfl, fun z => hl z.1⟩))
    · rw [if_neg (by decide)]; exact ev_ck (by omega) (ev_ok (.inl ⟨rfl, hl, hp⟩))
    · rw [if_pos rfl]; exact ev_ok (.inr ⟨rfl, fun z => hp z.2⟩)
  rw [e]
  clear e
  simp only [Option.bind_some]
  have y1 := scx_ge (p := fun j => isQr (g j)) (k + 1) to
  have y2 := scx_le (p := fun j => isQr (g j)) (i := k + 1) (to := to) (by omega)
  generalize sc (fun j => isQr (g j)) (k + 1) to = e at *
  unfold nk_Y_query_49
  rw [he]
  refine ev_ck (by omega) (ev_ck (by omega) (ev_if (fun h40 => ev_ok ⟨FR0.refl, .inl ⟨rfl, by rw [if_pos h40]⟩⟩) (fun h40 => ?_)))
  rw [if_neg h40]
  have hloop := y_putLoop (m := m) (r := 0) (F := fun s : Int × YS => nb_Y_query_71 f to e s.1 s.2) (src := g) (k0 := k) (k1 := e) (by omega) (fun j m4 k1 k2 h4 => by
    have z74 := h4.2.1
    rw [sg_len] at z74
    have zf : m4 f = g := by rw [h4.1 f (by simp [hf.1, hf.2.1])]; exact hg
    show ev (nb_Y_query_71 f to e j m4) _
    unfold nb_Y_query_71
    rw [zf, if_pos k2]
    have hc := hgb j k1 (by omega)
    exact ev_ix (by omega) (ev_bind (y_put (r := 0) (by omega) (by omega) (by omega)) (fun m5 h5 => ev_ck (by omega) (ev_ok ⟨m5, rfl, h5⟩)))) (fun m4 h4 => by
    show nb_Y_query_71 f to e e m4 = _
    unfold nb_Y_query_71
    rw [if_neg (by omega)])
  have hq : 63 :: sg g (k + 1) (e - k - 1).toNat = sg g k (e - k).toNat := by
    rw [show (e - k).toNat = (e - k - 1).toNat + 1 by omega]
    show _ = g k :: _
    rw [h63]
  rw [hq]
  unfold NL_Y_query_71
  refine ev_bind hloop (fun m1 h1 => ev_st ?_)
  have f1 : FY [15] m1 (yw m1 15 0 e) := fun x hx => yw_nF (fun y => hx (by simp [y]))
  exact ev_mono (y_q149 (q := sg g k (e - k).toNat) hf (by rw [f1 f (by simp [hf.2.2.2]), h1.1 f (by simp [hf.1, hf.2.1])]; exact hg) yw_eq (by rw [f1 8 (by decide), h1.1 8 (by decide)]; exact h8) ⟨by omega, by omega, hr.2.2⟩) (fun x hx => QRY.of h1 hs (by rw [sg_len]; omega) f1 hx)
end F2
