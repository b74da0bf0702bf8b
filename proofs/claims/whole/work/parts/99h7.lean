/-! THE TAG of a name in both; which elements are begun; end tags -/
abbrev tgK (k : Int) : List Int := tgW.getD k.toNat []
/-- the class's table of names -/
def NT (n : NS) : Prop := ∀ k, 0 ≤ k → k < 16 → n 21 0 k = pk (tgK k)
theorem tgF_scF {l : List Int} : ∀ (ws pre : List (List Int)), tgF ws l (pre.length : Int) = scF (fun k : Int => (pre ++ ws).getD k.toNat [] ≠ l) ws.length (pre.length : Int) := by
  intro ws
  induction ws with
  | nil => intro pre; rfl
  | cons w ws ih =>
    intro pre
    have e1 : (pre ++ w :: ws).getD ((pre.length : Int)).toNat [] = w := by
      rw [show ((pre.length : Int)).toNat = pre.length by omega, List.getD_eq_getElem?_getD, List.getElem?_append_right (Nat.le_refl _)]
      simp
    show (if w = l then (pre.length : Int) else tgF ws l ((pre.length : Int) + 1)) = (if (pre ++ w :: ws).getD ((pre.length : Int)).toNat [] ≠ l then scF _ ws.length ((pre.length : Int) + 1) else (pre.length : Int))
    rw [e1]
    by_cases z : w = l
    · rw [if_pos z, if_neg (fun y => y z)]
    · rw [if_neg z, if_pos z]
      have h := ih (pre ++ [w])
      rw [List.length_append] at h
      have e2 : (((pre.length + [w].length : Nat)) : Int) = (pre.length : Int) + 1 := by show (((pre.length + 1 : Nat)) : Int) = _; omega
      rw [e2, List.append_assoc] at h
      exact h
theorem tgL_sc {l : List Int} : tgL l = sc (fun k => tgK k ≠ l) 0 16 := tgF_scF tgW []
theorem tgL_b {l : List Int} : 0 ≤ tgL l ∧ tgL l ≤ 16 := by
  rw [tgL_sc]
  exact ⟨scx_ge _ _, scx_le (by decide)⟩
theorem tgL_at {l : List Int} (h : tgL l < 16) : tgK (tgL l) = l := by
  have := scx_at (p := fun k => tgK k ≠ l) (i := 0) (to := 16) (by rw [← tgL_sc]; exact h)
  rw [← tgL_sc] at this
  exact Classical.byContradiction this
theorem tgL_inj {l l' : List Int} (h : tgL l = tgL l') (h' : tgL l < 16) : l = l' := by
  rw [← tgL_at h', ← tgL_at (l := l') (by omega), h]
theorem tgK_bt {k : Int} (h : 0 ≤ k) (h' : k < 16) : ∀ c ∈ tgK k, isBt c := by
  rcases (show k = 0 ∨ k = 1 ∨ k = 2 ∨ k = 3 ∨ k = 4 ∨ k = 5 ∨ k = 6 ∨ k = 7 ∨ k = 8 ∨ k = 9 ∨ k = 10 ∨ k = 11 ∨ k = 12 ∨ k = 13 ∨ k = 14 ∨ k = 15 by omega) with y | y | y | y | y | y | y | y | y | y | y | y | y | y | y | y <;> subst y <;> decide
/-- searching downwards -/
def dn (P : Int → Prop) (k r : Int) : Prop := 0 ≤ r ∧ r ≤ k ∧ (∀ j, r < j → j ≤ k → ¬ P j) ∧ (0 < r → P r)
theorem dn_cg {P Q : Int → Prop} {k r : Int} (h : dn P k r) (he : ∀ j, 1 ≤ j → j ≤ k → (P j ↔ Q j)) : dn Q k r := by
  obtain ⟨a, b, c, d⟩ := h
  exact ⟨a, b, fun j x y z => c j x y ((he j (by omega) y).mpr z), fun x => (he r (by omega) b).mp (d x)⟩
theorem dn_un {P : Int → Prop} {k r r' : Int} (h : dn P k r) (h' : dn P k r') : r = r' := by
  obtain ⟨a, b, c, d⟩ := h
  obtain ⟨a', b', c', d'⟩ := h'
  rcases Int.lt_trichotomy r r' with y | y | y
  · exact absurd (d' (by omega)) (c r' y b')
  · exact y
  · exact absurd (d (by omega)) (c' r y b)
theorem ev_dn {P : Int → Prop} {K : Int} {f : Int → Option (Int ⊕ Int)} (hK : 0 ≤ K) (hb : ∀ s, 0 ≤ s → s ≤ K → ev (f s) (fun x => (0 < s ∧ ¬ P s ∧ x = .inl (s + (-1))) ∨ ((0 < s → P s) ∧ x = .inr s))) : ev (it f K) (dn P K) := by
  refine ev_it (fun s => 0 ≤ s ∧ s ≤ K ∧ ∀ j, s < j → j ≤ K → ¬ P j) (fun s => s) (fun s hs => ?_) ⟨hK, Int.le_refl _, fun j a b => by omega⟩
  obtain ⟨x, ex, hx⟩ := hb s hs.1 hs.2.1
  rcases hx with ⟨h1, h2, h3⟩ | ⟨h1, h2⟩
  · subst h3
    refine ⟨_, ex, ⟨by omega, by omega, fun j a b => ?_⟩, by show s + -1 < s; omega, by show 0 ≤ s; omega⟩
    by_cases y : j = s
    · rw [y]; exact h2
    · exact hs.2.2 j (by omega) b
  · subst h2
    exact ⟨_, ex, hs.1, hs.2.1, hs.2.2, h1⟩
section H7
variable {Z : NS × YS} {n n' : NS} {m m' : YS} {A B N i q b t z oc v1 v2 v3 v4 : Int} {o e p qs : Int → Int} {w v : List Int}
theorem c_tagOf (h : NT n) (hw : ∀ c ∈ w, isBt c) : N_Tree_tagOf (pk w) n = some (tgL w) := by
  have : NL_Tree_tagOf_2 (pk w) 0 n = some (sc (fun k => tgK k ≠ w) 0 16) := by
    unfold NL_Tree_tagOf_2
    refine ev_scan (fun x x1 x2 => ?_)
    unfold nb_Tree_tagOf_2
    refine ev_if (fun hl => ev_ix (by omega) ?_) (fun hl => ev_ok (.inr ⟨rfl, fun z => hl z.1⟩))
    rw [h x x1 hl]
    exact ev_if (fun y => ev_ok (.inr ⟨rfl, fun z => z.2 (pkq_inj (tgK_bt x1 hl) hw y)⟩)) (fun y => ev_ck (by omega) (ev_ok (.inl ⟨rfl, hl, fun z => y (by rw [z])⟩)))
  unfold N_Tree_tagOf
  rw [this, ← tgL_sc]; rfl
theorem y_tagWd {k : Int} (h : 0 ≤ k) (h' : k < 16) (h2 : k ≠ 2) : ∃ W, N_Y_tagWord k m = some W ∧ (0 ≤ W ∧ W < 36893488147419103232) ∧ wl W = tgK k := by
  rcases (show k = 0 ∨ k = 1 ∨ k = 3 ∨ k = 4 ∨ k = 5 ∨ k = 6 ∨ k = 7 ∨ k = 8 ∨ k = 9 ∨ k = 10 ∨ k = 11 ∨ k = 12 ∨ k = 13 ∨ k = 14 ∨ k = 15 by omega) with y | y | y | y | y | y | y | y | y | y | y | y | y | y | y <;> subst y <;> exact ⟨_, rfl, by decide, by decide⟩
theorem y_tagOf {f : Nat} (hv : 0 ≤ v1 ∧ 0 ≤ v2 ∧ v1 + v2 ≤ yLn f ∧ v1 + v2 ≤ 100000) : N_Y_tagOf f v1 v2 m = some (tgL (sg (m f) v1 v2.toNat)) := by
  apply eq_of_ev
  unfold N_Y_tagOf
  generalize hw : sg (m f) v1 v2.toNat = w
  have hwl : (w.length : Int) = v2 := by rw [← hw, sg_len]; omega
  have fin : ∀ s, 0 ≤ s → s < 16 → (∀ j, 0 ≤ j → j < s → tgK j ≠ w) → tgK s = w → s = tgL w := fun s s0 s1 h1 h2 => by
    rw [tgL_sc]; exact scx_eq ⟨s0, .inl (by omega), h1, fun _ z => z h2⟩
  refine ev_bs (P := fun r => r = tgL w) (R := sp (fun r => r = tgL w) (fun _ => tgL w = 16)) ?_ (fun r hr => ev_ok hr) (fun r hr => ?_)
  · unfold NL_Y_tagOf_2
    refine ev_it (fun s => 0 ≤ s ∧ s ≤ 16 ∧ ∀ j, 0 ≤ j → j < s → tgK j ≠ w) (fun s => 16 - s) (fun s hs => ?_) ⟨Int.le_refl _, by decide, fun j a b => by omega⟩
    obtain ⟨g1, g2, g3⟩ := hs
    have nx : tgK s ≠ w → ∀ j, 0 ≤ j → j < s + 1 → tgK j ≠ w := fun y j a b => by
      by_cases z : j = s
      · rw [z]; exact y
      · exact g3 j a (by omega)
    have go : s < 16 → tgK s ≠ w → ev (ck (s + 1) (some (Sum.inl (s + 1)))) (lp (fun s => 0 ≤ s ∧ s ≤ 16 ∧ ∀ j, 0 ≤ j → j < s → tgK j ≠ w) (fun s => 16 - s) s (sp (fun r => r = tgL w) (sp (fun r => r = tgL w) (fun (_ : Unit) => tgL w = 16)))) := fun y0 y => ev_ck (by omega) (ev_inl ⟨⟨by omega, by omega, nx y⟩, by omega, by omega⟩)
    unfold nb_Y_tagOf_2
    refine ev_if (fun hlt => ?_) (fun hge => ev_inr ?_)
    · by_cases h2 : s = 2
      · have ew : N_Y_tagWord s m = some 8 := by rw [h2]; rfl
        rw [ew]
        show ev (if s = 2 then _ else _) _
        rw [if_pos h2]
        have e2 : tgK s = [104, 49] := by rw [h2]; rfl
        have hq : tgK s = w ↔ v2.toNat = 2 ∧ m f v1 = 104 ∧ m f (v1 + 1) = 49 := by
          rw [e2, ← hw]
          exact ⟨fun y => sg_2.mp y.symm, fun y => (sg_2.mpr y).symm⟩
        refine ev_if (fun h => ev_ix (by omega) (ev_if (fun h' => ev_ck (by omega) (ev_ix (by omega) (ev_if (fun h'' => ev_inr (fin s g1 hlt g3 (hq.mpr ⟨by omega, h', h''⟩))) (fun h'' => go hlt (fun y => h'' (hq.mp y).2.2))))) (fun h' => go hlt (fun y => h' (hq.mp y).2.1)))) (fun h => go hlt (fun y => h (by have := (hq.mp y).1; omega)))
      · obtain ⟨W, eW, hW, hWl⟩ := y_tagWd (m := m) g1 hlt h2
        rw [eW]
        show ev (if s = 2 then _ else _) _
        rw [if_neg h2, ys_lengthOf hW]
        show ev (if ((wl W).length : Int) = v2 then _ else _) _
        rw [hWl]
        refine ev_if (fun h => ev_ck (by omega) (ev_bz (ys_isWord hW hv.2.2.1 hv.1 (by omega) (by omega)) (fun hp => ?_) (fun hp => ?_))) (fun h => go hlt (fun y => h (by rw [y]; exact hwl)))
        · rw [if_neg (by decide)]
          rw [hWl, mtR_sg (tgK s) v1 (by omega)] at hp
          rw [show (v1 + v2 - v1).toNat = v2.toNat by omega, hw] at hp
          exact ev_inr (fin s g1 hlt g3 hp.symm)
        · rw [if_pos rfl]
          rw [hWl, mtR_sg (tgK s) v1 (by omega)] at hp
          rw [show (v1 + v2 - v1).toNat = v2.toNat by omega, hw] at hp
          exact go hlt (fun y => hp y.symm)
    · show tgL w = 16
      rw [tgL_sc]
      refine (scx_eq ⟨by decide, .inl (Int.le_refl _), fun j a b => g3 j a (by omega), fun y => absurd y (by decide)⟩).symm
  · rcases r with r | r
    · exact ev_ok hr
    · have hr : tgL w = 16 := hr
      exact ev_ok hr.symm
/-- which element of a TAG is begun -/
theorem c_openOf (hJ : JR Z A B n m N o e p qs oc) : ev (N_Reader_openOf t n) (dn (fun j => m 46 (o (qs j)) = t) (oc - 1)) := by
  have hO := hJ.2.2.2.2.2.1
  obtain ⟨o1, o2, o3, o4⟩ := hO.1
  unfold N_Reader_openOf
  rw [o1]
  refine ev_ck (by omega) ?_
  rw [bind_id]
  unfold NL_Reader_openOf_7
  refine ev_dn (by omega) (fun s s0 s1 => ?_)
  unfold nb_Reader_openOf_7
  refine ev_if (fun h0 => ?_) (fun h0 => ev_ok (.inr ⟨fun y => absurd y h0, rfl⟩))
  have hj := hO.2.2.1 s s0 (by omega)
  have hv := hJ.2.1.1.1.oB hj.1.1 hj.1.2
  rw [hj.2.2.1, (hJ.2.1.2.2.2 _ hj.1.1 hj.1.2).1.1]
  exact ev_ix (by omega) (ev_ix hv (ev_if (fun y => ev_ok (.inr ⟨fun _ => y, rfl⟩)) (fun y => ev_ck (by omega) (ev_ok (.inl ⟨h0, y, rfl⟩)))))
theorem y_open1 (hJ : JR Z A B n m N o e p qs oc) : ev (NL_Y_startTag_14 v1 v2 (oc - 1) m) (dn (fun j => m 46 (o (qs j)) = 1) (oc - 1)) := by
  have hO := hJ.2.2.2.2.2.1
  obtain ⟨o1, o2, o3, o4⟩ := hO.1
  unfold NL_Y_startTag_14
  refine ev_dn (by omega) (fun s s0 s1 => ?_)
  unfold nb_Y_startTag_14
  refine ev_if (fun h0 => ?_) (fun h0 => ev_ok (.inr ⟨fun y => absurd y h0, rfl⟩))
  have hj := hO.2.2.1 s s0 (by omega)
  have hv := hJ.2.1.1.1.oB hj.1.1 hj.1.2
  rw [hj.2.2.2.1]
  exact ev_ix (by omega) (ev_ix hv (ev_if (fun y => ev_ok (.inr ⟨fun _ => y, rfl⟩)) (fun y => ev_ck (by omega) (ev_ok (.inl ⟨h0, y, rfl⟩)))))
theorem y_open7 (hJ : JR Z A B n m N o e p qs oc) : ev (NL_Y_startTag_141 v1 v2 (oc - 1) m) (dn (fun j => m 46 (o (qs j)) = 7) (oc - 1)) := by
  have hO := hJ.2.2.2.2.2.1
  obtain ⟨o1, o2, o3, o4⟩ := hO.1
  unfold NL_Y_startTag_141
  refine ev_dn (by omega) (fun s s0 s1 => ?_)
  unfold nb_Y_startTag_141
  refine ev_if (fun h0 => ?_) (fun h0 => ev_ok (.inr ⟨fun y => absurd y h0, rfl⟩))
  have hj := hO.2.2.1 s s0 (by omega)
  have hv := hJ.2.1.1.1.oB hj.1.1 hj.1.2
  rw [hj.2.2.2.1]
  exact ev_ix (by omega) (ev_ix hv (ev_if (fun y => ev_ok (.inr ⟨fun _ => y, rfl⟩)) (fun y => ev_ck (by omega) (ev_ok (.inl ⟨h0, y, rfl⟩)))))
theorem y_open43 (hJ : JR Z A B n m N o e p qs oc) : ev (NL_Y_startTag_62 v1 v2 (oc - 1) m) (dn (fun j => m 46 (o (qs j)) = 4 ∨ m 46 (o (qs j)) = 3) (oc - 1)) := by
  have hO := hJ.2.2.2.2.2.1
  obtain ⟨o1, o2, o3, o4⟩ := hO.1
  unfold NL_Y_startTag_62
  refine ev_dn (by omega) (fun s s0 s1 => ?_)
  unfold nb_Y_startTag_62
  refine ev_if (fun h0 => ?_) (fun h0 => ev_ok (.inr ⟨fun y => absurd y h0, rfl⟩))
  have hj := hO.2.2.1 s s0 (by omega)
  have hv := hJ.2.1.1.1.oB hj.1.1 hj.1.2
  rw [hj.2.2.2.1]
  exact ev_ix (by omega) (ev_ix hv (ev_if (fun y => ev_ok (.inr ⟨fun _ => .inl y, rfl⟩)) (fun y => ev_ix (by omega) (ev_ix hv (ev_if (fun y' => ev_ok (.inr ⟨fun _ => .inr y', rfl⟩)) (fun y' => ev_ck (by omega) (ev_ok (.inl ⟨h0, fun x => by
    rcases x with x | x
    · exact y x
    · exact y' x, rfl⟩))))))))
/-- an end tag -/
theorem endTag_both (hJ : JR Z A B n m N o e p qs oc) (hw : sg (m 78) 0 (m 79 0).toNat = w) (h79 : 0 ≤ m 79 0 ∧ m 79 0 ≤ 8) (hb : ∀ c ∈ w, isBt c) (h70 : m 70 0 ≤ 80000) :
    ∃ n' m' oc', N_Reader_endTag (pk w) i n = some n' ∧ N_Y_endTag i (tgL w) m = some m' ∧ JR Z A B n' m' N o e p qs oc' ∧ m' 70 0 ≤ m 70 0 + 22 ∧ n' 8 0 10 = n 8 0 10 ∧ n' 10 = n 10 ∧ FY [70, 71, 72, 74] m m' := by
  have hO := hJ.2.2.2.2.2.1
  obtain ⟨o1, o2, o3, o4⟩ := hO.1
  have eC : ev (NL_Reader_endTag_8 (pk w) i (oc - 1) n) (dn (fun j => nmL m (o (qs j)) = w) (oc - 1)) := by
    unfold NL_Reader_endTag_8
    refine ev_dn (by omega) (fun s s0 s1 => ?_)
    unfold nb_Reader_endTag_8
    refine ev_if (fun h0 => ?_) (fun h0 => ev_ok (.inr ⟨fun y => absurd y h0, rfl⟩))
    have hj := hO.2.2.1 s s0 (by omega)
    have hv := hJ.2.1.1.1.oB hj.1.1 hj.1.2
    have hd := hJ.2.1.2.2.2 _ hj.1.1 hj.1.2
    rw [hj.2.2.1, hd.2.1.2.2.2]
    exact ev_ix (by omega) (ev_ix hv (ev_if (fun y => ev_ok (.inr ⟨fun _ => pkq_inj hd.2.1.2.2.1 hb y, rfl⟩)) (fun y => ev_ck (by omega) (ev_ok (.inl ⟨h0, fun x => y (by rw [x]), rfl⟩)))))
  have eY : ev (NL_Y_endTag_7 i (tgL w) (oc - 1) m) (dn (fun j => nmL m (o (qs j)) = w) (oc - 1)) := by
    unfold NL_Y_endTag_7
    refine ev_dn (by omega) (fun s s0 s1 => ?_)
    unfold nb_Y_endTag_7
    refine ev_if (fun h0 => ?_) (fun h0 => ev_ok (.inr ⟨fun y => absurd y h0, rfl⟩))
    have hj := hO.2.2.1 s s0 (by omega)
    have hv := hJ.2.1.1.1.oB hj.1.1 hj.1.2
    have hd := hJ.2.1.2.2.2 _ hj.1.1 hj.1.2
    have htag := hd.2.2.2.2.2.2 hj.2.2.2.2.1.1
    rw [hj.2.2.2.1]
    have no : nmL m (o (qs s)) ≠ w → ev (ck (s + (-1)) (some (Sum.inl (s + (-1))))) (fun x => (0 < s ∧ ¬ nmL m (o (qs s)) = w ∧ x = Sum.inl (s + (-1))) ∨ ((0 < s → nmL m (o (qs s)) = w) ∧ x = Sum.inr s)) := fun y => ev_ck (by omega) (ev_ok (.inl ⟨h0, y, rfl⟩))
    have ye : nmL m (o (qs s)) = w → ev (some (Sum.inr s)) (fun x => (0 < s ∧ ¬ nmL m (o (qs s)) = w ∧ x = Sum.inl (s + (-1))) ∨ ((0 < s → nmL m (o (qs s)) = w) ∧ x = Sum.inr s)) := fun y => ev_ok (.inr ⟨fun _ => y, rfl⟩)
    refine ev_ix (by omega) (ev_ix hv (ev_if (fun y => ?_) (fun y => no (fun x => y (by rw [htag, x])))))
    refine ev_if (fun h16 => ev_ix (by omega) (ev_ix hv (ev_if (fun hl => ev_ix (by omega) (ev_ck (by omega) (ev_bz (ys_same (by omega) (by omega) (by show _ ≤ ((960 : Nat) : Int); omega) (by show _ ≤ ((8 : Nat) : Int); omega) h79.1 ⟨by omega, by omega⟩) (fun hp => ?_) (fun hp => ?_)))) (fun hl => no (fun x => hl ?_))))) (fun h16 => ye ?_)
    · rw [if_neg (by decide)]
      refine ye ?_
      unfold nmL
      rw [hl, hp, hw]
    · rw [if_pos rfl]
      refine no (fun x => hp ?_)
      unfold nmL at x
      rw [hl] at x
      rw [x, hw]
    · have h1 : (nmL m (o (qs s))).length = (m 48 (o (qs s))).toNat := by unfold nmL; rw [sg_len]
      rw [x, ← hw, sg_len] at h1
      have := hd.2.1.1
      omega
    · refine tgL_inj (by rw [← htag, y]) ?_
      have := tgL_b (l := w)
      rw [← htag, y]; omega
  obtain ⟨r, er, hr⟩ := eC
  obtain ⟨r', er', hr'⟩ := eY
  have := dn_un hr' hr
  subst this
  have uC : N_Reader_endTag (pk w) i n = nk_Reader_endTag_42 i r' n := by
    unfold N_Reader_endTag ck
    rw [o1, if_pos (by omega), er]; rfl
  have uY : N_Y_endTag i (tgL w) m = nk_Y_endTag_84 i (tgL w) r' m := by
    unfold N_Y_endTag ck
    rw [o2, if_pos (by omega), er']; rfl
  rw [uC, uY]
  unfold nk_Reader_endTag_42 nk_Y_endTag_84
  have hF70 := hJ.2.2.2.1.2.1
  by_cases h0 : r' = 0
  · rw [if_pos h0, if_pos h0]
    obtain ⟨n1, m1, t1, t2, t3, t4, t5, t6, t7⟩ := hJ.tell (w := 3) (pl := i) (by omega)
    refine ⟨n1, m1, oc, by rw [t1]; rfl, ?_, t3, by omega, t4 10 (by decide), t5.1, t6.sub (by decide)⟩
    unfold nk_Y_endTag_95
    rw [t2]; rfl
  · rw [if_neg h0, if_neg h0]
    have hr1 := hr.2.2.2 (by have := hr.1; omega)
    have hj := hO.2.2.1 r' hr.1 (by have := hr.2.1; omega)
    have hd := hJ.2.1.2.2.2 _ hj.1.1 hj.1.2
    have htag := hd.2.2.2.2.2.2 hj.2.2.2.2.1.1
    have hr1 : nmL m (o (qs r')) = w := hr1
    rw [hr1] at htag
    have hne := hj.2.2.2.2.1.2
    rw [htag] at hne
    have he : N_Y_isEmptyTag (tgL w) m = some 0 := by
      unfold N_Y_isEmptyTag
      by_cases y : tgL w < 10
      · rw [if_pos y]
      · rw [if_neg y, if_pos (by omega)]
    rw [he]
    obtain ⟨n1, m1, t1, t2, t3, t4, t5, t6, t7⟩ := closeTo_both (lv := r') (own := m 73 r') (oth := -1) hJ (by have := hr.1; have := hr.2.1; omega) (.inr hj.2.2.2.1) (.inl rfl) (.inl hj.2.2.2.1) h70
    refine ⟨n1, m1, r', by rw [t1]; rfl, ?_, t3, by have := hr.1; omega, t5, t6.1, t7⟩
    simp only [Option.bind_some]
    rw [if_pos trivial]
    unfold ix
    rw [if_pos (by have := hr.1; have := hr.2.1; omega), t2]; rfl
end H7
