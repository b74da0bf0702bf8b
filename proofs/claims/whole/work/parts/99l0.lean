/-! ALL IN A NODE GOES, in both -/
/-- who lives and is not new lived before, and is the same -/
def LIV (m m' : YS) : Prop := ∀ u, 0 ≤ u → u < 120 → m' 45 u = 1 → m' 55 u ≤ m 69 0 → m 45 u = 1 ∧ m' 55 u = m 55 u ∧ m' 46 u = m 46 u
theorem LIV.refl (m : YS) : LIV m m := fun _ _ _ h _ => ⟨h, rfl, rfl⟩
theorem LIV.trans {m m' m'' : YS} (h : LIV m m') (h' : LIV m' m'') (h69 : m 69 0 ≤ m' 69 0) : LIV m m'' := fun u u0 u1 x y => by
  have a := h' u u0 u1 x (by omega)
  have b := h u u0 u1 a.1 (by omega)
  exact ⟨b.1, a.2.1.trans b.2.1, a.2.2.trans b.2.2⟩
theorem LIV.of {m m' : YS} (h45 : m' 45 = m 45) (h46 : m' 46 = m 46) (h55 : m' 55 = m 55) : LIV m m' := fun u _ _ x _ => by
  rw [h45] at x
  exact ⟨x, by rw [h55], by rw [h46]⟩
/-- the words onload, and how many bytes stand there -/
def wOnl : List Int := [111, 110, 108, 111, 97, 100]
def olS (w : List Int) (m : YS) (u : Int) : Int := if fnd m u w < m 56 u then m 60 (4 * u + fnd m u w) + 1 else 0
/-- what attributes are there stays, class aside; and who is new has none -/
def OLV (m m' : YS) : Prop := ∀ w : List Int, w ≠ [99, 108, 97, 115, 115] → ∀ u, 0 ≤ u → u < 120 → m' 45 u = 1 → (m 45 u = 1 ∧ m' 55 u = m 55 u ∧ olS w m' u = olS w m u) ∨ (olS w m' u = 0 ∧ m 69 0 < m' 55 u ∧ u ≠ 0)
/-- the class counts a change of what is laid out, or there is none -/
def LYc (n n' : NS) (m m' : YS) : Prop := n 10 0 6 < n' 10 0 6 ∨ (n' 10 0 6 = n 10 0 6 ∧ ∀ f, 45 ≤ f → f ≤ 63 → m' f = m f)
/-- the faults told stay -/
def JFk (n n' : NS) (m m' : YS) : Prop := (n' 8 = n 8 ∧ n' 28 = n 28 ∧ n' 29 = n 29) ∧ ∀ f, f = 70 ∨ f = 71 ∨ f = 72 → m' f = m f
theorem JFk.refl (n : NS) (m : YS) : JFk n n m m := ⟨⟨rfl, rfl, rfl⟩, fun _ _ => rfl⟩
theorem JFk.trans {n n' n'' : NS} {m m' m'' : YS} (h : JFk n n' m m') (h' : JFk n' n'' m' m'') : JFk n n'' m m'' := ⟨⟨h'.1.1.trans h.1.1, h'.1.2.1.trans h.1.2.1, h'.1.2.2.trans h.1.2.2⟩, fun f hf => (h'.2 f hf).trans (h.2 f hf)⟩
theorem JFk.jf {n n' : NS} {m m' : YS} (h : JFk n n' m m') (hF : JF n m) : JF n' m' := by
  unfold JF at *
  rw [h.1.1, h.1.2.1, h.1.2.2, h.2 70 (by omega), h.2 71 (by omega), h.2 72 (by omega)]; exact hF
theorem LYc.refl (n : NS) (m : YS) : LYc n n m m := .inr ⟨rfl, fun _ _ _ => rfl⟩
theorem LYc.le {n n' : NS} {m m' : YS} (h : LYc n n' m m') : n 10 0 6 ≤ n' 10 0 6 := by
  rcases h with h | h
  · omega
  · omega
theorem LYc.trans {n n' n'' : NS} {m m' m'' : YS} (h : LYc n n' m m') (h' : LYc n' n'' m' m'') : LYc n n'' m m'' := by
  rcases h with h | h
  · have := h'.le; exact .inl (by omega)
  · rcases h' with h' | h'
    · exact .inl (by omega)
    · exact .inr ⟨by omega, fun f a b => (h'.2 f a b).trans (h.2 f a b)⟩
theorem OLV.refl (m : YS) : OLV m m := fun _ _ _ _ _ x => .inl ⟨x, rfl, rfl⟩
theorem OLV.trans {m m' m'' : YS} (h : OLV m m') (h' : OLV m' m'') (_ : LIV m' m'') (h69 : m 69 0 ≤ m' 69 0) : OLV m m'' := fun w hw u u0 u1 x => by
  rcases h' w hw u u0 u1 x with ⟨a, b, c⟩ | ⟨a, b, z⟩
  · rcases h w hw u u0 u1 a with ⟨a', b', c'⟩ | ⟨a', b', z'⟩
    · exact .inl ⟨a', b.trans b', c.trans c'⟩
    · exact .inr ⟨c.trans a', by omega, z'⟩
  · exact .inr ⟨a, by omega, z⟩
theorem OLV.of2 {m m' : YS} (h : ∀ f, f = 55 ∨ f = 56 ∨ f = 57 ∨ f = 58 ∨ f = 60 → m' f = m f) (hl : ∀ u, 0 ≤ u → u < 120 → m' 45 u = 1 → m 45 u = 1) : OLV m m' := fun w _ u u0 u1 x => by
  refine .inl ⟨hl u u0 u1 x, by rw [h 55 (by omega)], ?_⟩
  unfold olS fnd anL
  rw [h 56 (by omega), h 57 (by omega), h 58 (by omega), h 60 (by omega)]
theorem OLV.of {m m' : YS} (h : ∀ f, f = 45 ∨ f = 55 ∨ f = 56 ∨ f = 57 ∨ f = 58 ∨ f = 60 → m' f = m f) : OLV m m' := OLV.of2 (fun f hf => h f (by omega)) (fun u _ _ x => by rw [h 45 (by omega)] at x; exact x)
theorem olS_cg {n : NS} {m m' : YS} {u : Int} {w : List Int} (hd : ND n m u) (hy : YG m m' u) : olS w m' u = olS w m u := by
  have h3 := hd.2.2.1
  have eA : ∀ a, 0 ≤ a → a < m 56 u → anL m' u a = anL m u a := fun a a0 a1 => by
    have ha := (hd.2.2.2.1 a a0 a1).1
    unfold anL
    rw [(hy.2.2.1 (4 * u + a) (by omega) (by omega)).1]
    exact sg_cg _ _ _ (fun x hx => hy.2.2.2.1 _ (by omega) (by omega))
  have eF : fnd m' u w = fnd m u w := by
    unfold fnd
    rw [hy.1.2.2.1]
    exact scx_cg (fun j a b => by rw [eA j a b])
  have f0 := fnd_b (m := m) (f := u) (w := w)
  unfold olS
  rw [eF, hy.1.2.2.1]
  split
  · next z => rw [(hy.2.2.1 _ (by omega) (by omega)).2]
  · rfl
theorem JT.nd {n : NS} {m : YS} {N u : Int} {o e p : Int → Int} (h : JT n m N o e p) (u0 : 0 ≤ u) (u1 : u < 120) (h1 : m 45 u = 1) : ND n m u := by
  obtain ⟨k, k0, k1, hk⟩ := (h.1.2.2.2.1 u u0 u1).2.1.mp h1
  have := h.2.2.2 k k0 k1
  rw [hk] at this; exact this
theorem JT.born {n : NS} {m : YS} {N u : Int} {o e p : Int → Int} (h : JT n m N o e p) (u0 : 0 ≤ u) (u1 : u < 120) (h1 : m 45 u = 1) : 0 ≤ m 55 u ∧ m 55 u ≤ m 69 0 := by
  obtain ⟨k, k0, k1, hk⟩ := (h.1.2.2.2.1 u u0 u1).2.1.mp h1
  have := (h.1.2.2.2.2.1 k k0 k1).2.2.2
  rw [hk] at this; exact this
section L0
variable {n n' : NS} {m m' : YS} {A B N k v a b : Int} {o e p : Int → Int} {F : Nat}
/-- what a removal does, more of it -/
theorem c_remX (h : JT n m N o e p) (h1 : 1 ≤ k) (h2 : k < N) (hc : 0 ≤ n 10 0 6 ∧ n 10 0 6 < 2000000000) : ev (N_Tree_remove (o k) n) (fun n' => (∀ u, (∀ j, k ≤ j → j < e k → o j ≠ u) → n' 7 u 0 = n 7 u 0) ∧ (∀ j, k ≤ j → j < e k → n' 7 (o j) 0 = -1) ∧ (k = p k + 1 → ∀ u s, (u ≠ o (p k) ∨ s = 5) → s ≠ 0 → s ≠ 8 → s ≠ 9 → n' 7 u s = n 7 u s)) := by
  obtain ⟨hS, hK, hL, hD⟩ := h
  have hT := hS.1
  obtain ⟨n', hn', n8, b, c1, c0, c2, cK, c3, c4, c5, c6, c8, c7⟩ := c_remove hS.TC hL.2 h1 h2 hS.2.2.2.2.2.1 hc (hK.ge hT h1 h2)
  obtain ⟨q1, q2, q3, q4⟩ := c2.bf hT hS.2.2.1 h1 h2
  refine ⟨n', hn', fun u hu => by rw [c5 u hu]; exact c1.2.1 u 0 (by decide) (by decide), c4, fun hk u s hu s0 s8 s9 => ?_⟩
  have hb := q2.mpr hk
  rw [c3 u s s0, cutC_7 (Ne.symm q3)]
  rw [if_neg (by
    rintro ⟨x, _, y⟩
    rcases hu with z | z
    · exact z y
    · omega), if_neg (by
    rintro ⟨_, x, _⟩
    exact x hb), if_neg (by
    rintro ⟨x, y, _⟩
    rcases hu with z | z
    · exact z y
    · omega), if_neg (by
    rintro ⟨x, y⟩
    rcases hu with z | z
    · exact z y
    · omega)]
  exact c1.2.1 u s s8 s9
/-- the reference empties a node; the class beside it too, one by one -/
theorem clearLoop : ∀ d : Nat, ∀ n m N o e p, JT n m N o e p → JP m N o p → BI A B n → 0 ≤ k → k < N → e k - (k + 1) ≤ (d : Int) → o k = v → 0 ≤ n 10 0 6 → n 10 0 6 + d < 2000000000 →
    ∃ n' m' N' o' e' p', NL_Y_setText_57 F a b v m = some m' ∧ JT n' m' N' o' e' p' ∧ JP m' N' o' p' ∧ N' = N - (e k - (k + 1)) ∧ k < N' ∧ o' k = v ∧ e' k = k + 1
      ∧ (∀ u s, u ≠ v → s ≠ 0 → s ≠ 8 → s ≠ 9 → n' 7 u s = n 7 u s) ∧ (∀ s, s ∉ [0, 3, 4, 6, 8, 9] → n' 7 v s = n 7 v s)
      ∧ (∀ j, k < j → j < e k → n' 7 (o j) 0 = -1) ∧ (∀ u, (∀ j, k < j → j < e k → o j ≠ u) → n' 7 u 0 = n 7 u 0)
      ∧ (∀ K, K ≠ 7 → K ≠ 10 → K ≠ 22 → n' K = n K) ∧ (∀ s, s ≠ 3 → s ≠ 4 → s ≠ 5 → s ≠ 6 → n' 10 0 s = n 10 0 s) ∧ FY [45, 68, 50, 51, 52, 53] m m' := by
  intro d
  induction d with
  | zero =>
    intro n m N o e p hT hP hB h0 h1 hd hv hc0 hc
    have hG := hT.1.1
    have hE := hG.eB h0 h1
    have hk : e k = k + 1 := by omega
    have hb := hG.oB h0 h1
    refine ⟨n, m, N, o, e, p, ?_, hT, hP, by omega, h1, hv, hk, fun _ _ _ _ _ _ => rfl, fun _ _ => rfl, fun j x y => by omega, fun _ _ => rfl, fun _ _ _ _ => rfl, fun _ _ _ _ _ => rfl, fun _ _ => rfl⟩
    unfold NL_Y_setText_57
    refine it_inr ?_
    show nb_Y_setText_57 F a b v m = _
    have hf := hG.fkE h0 h1
    rw [if_neg (by omega), hv] at hf
    unfold nb_Y_setText_57 ix
    rw [if_pos (by omega), if_pos hf]
  | succ d ih =>
    intro n m N o e p hT hP hB h0 h1 hd hv hc0 hc
    have hG := hT.1.1
    have hE := hG.eB h0 h1
    by_cases hk : e k = k + 1
    · obtain ⟨n', m', N', o', e', p', r⟩ := ih n m N o e p hT hP hB h0 h1 (by omega) hv hc0 (by omega)
      exact ⟨n', m', N', o', e', p', r⟩
    · have hb := hG.oB h0 h1
      have hp1 : p (k + 1) = k := by
        have := hG.inP (t := k) (k := k + 1) h0 h1 (by omega) (by omega)
        have := hG.pB (k := k + 1) (by omega) (by omega)
        omega
      have hE1 := hG.eB (k := k + 1) (by omega) (by omega)
      have hn1 := hG.nest (k := k) (j := k + 1) h0 (by omega) (by omega) (by omega)
      have hf := hG.fkE h0 h1
      rw [if_pos (by omega), hv] at hf
      have hb1 := hG.oB (k := k + 1) (by omega) (by omega)
      obtain ⟨n1, m1, a1, a2, a3, a4, a5, a6, a7, a8⟩ := hT.remove hP hB (k := k + 1) (by omega) (by omega) ⟨hc0, by omega⟩
      obtain ⟨n1', x0, x1, x2, x3⟩ := c_remX hT (k := k + 1) (by omega) (by omega) ⟨hc0, by omega⟩
      rw [a1] at x0
      cases x0
      rw [hp1] at x3
      have x3 := x3 rfl
      rw [hv] at x3
      have eo : delO o (k + 1) (e (k + 1) - (k + 1)) k = o k := by unfold delO; rw [if_pos (by omega)]
      have ee : delE e (k + 1) (e (k + 1) - (k + 1)) k = e k - (e (k + 1) - (k + 1)) := by unfold delE; rw [if_pos (by omega), if_pos (by omega)]
      obtain ⟨n', m', N', o', e', p', b1, b2, b3, b4, b5, b6, b7, b8, b9, b10, b11, b12, b13, b14⟩ := ih n1 m1 _ _ _ _ a3 a4 a5 h0 (by omega) (by rw [ee]; omega) (by rw [eo]; exact hv) (by omega) (by omega)
      rw [ee] at b4 b10 b11
      refine ⟨n', m', N', o', e', p', ?_, b2, b3, by omega, b5, b6, b7, fun u s hu s0 s8 s9 => ?_, fun s hs => ?_, fun j j0 j1 => ?_, fun u hu => ?_, fun K x y z => by rw [b12 K x y z, a7.1 K x y z], fun s x y z w => by rw [b13 s x y z w, a7.2.2 s x y z w], a8.trans b14⟩
      · rw [← b1]
        unfold NL_Y_setText_57
        refine it_inl ?_
        show nb_Y_setText_57 F a b v m = _
        unfold nb_Y_setText_57 ix
        rw [if_pos (by omega), if_neg (by rw [hf]; omega), if_pos (by omega), hf, a2]; rfl
      · rw [b8 u s hu s0 s8 s9]; exact x3 u s (.inl hu) s0 s8 s9
      · rw [b9 s hs]
        simp only [List.mem_cons, List.not_mem_nil, or_false, not_or] at hs
        by_cases z : s = 5
        · exact x3 v s (.inr z) hs.1 hs.2.2.2.2.1 hs.2.2.2.2.2
        · exact a7.2.1 v s hs.1 hs.2.1 hs.2.2.1 z hs.2.2.2.1 hs.2.2.2.2.1 hs.2.2.2.2.2
      · by_cases z : j < e (k + 1)
        · have hx := x2 j (by omega) z
          by_cases w : ∃ i, k < i ∧ i < e k - (e (k + 1) - (k + 1)) ∧ delO o (k + 1) (e (k + 1) - (k + 1)) i = o j
          · obtain ⟨i, i0, i1, i2⟩ := w
            rw [← i2]; exact b10 i i0 i1
          · rw [b11 (o j) (fun i i0 i1 y => w ⟨i, i0, i1, y⟩)]; exact hx
        · have := b10 (j - (e (k + 1) - (k + 1))) (by omega) (by omega)
          unfold delO at this
          rw [if_neg (by omega), show j - (e (k + 1) - (k + 1)) + (e (k + 1) - (k + 1)) = j by omega] at this
          exact this
      · rw [b11 u (fun i i0 i1 => by
          unfold delO
          rw [if_neg (by omega)]
          exact hu _ (by omega) (by omega))]
        exact x1 u (fun j j0 j1 => hu j (by omega) (by omega))
theorem kct_leaf {par fk nx : Int → Int} (h : TG N o e p par fk nx) (h0 : 0 ≤ k) (h1 : k < N) (he : e k = k + 1) : kct p N k = 0 := by
  unfold kct
  refine zsm_z (fun j a b => inK_0 (fun z => ?_))
  have := h.pB a b
  rw [z] at this
  omega
/-- the class empties it at once -/
theorem clear_both (hT : JT n m N o e p) (hP : JP m N o p) (hB : BI A B n) (h0 : 0 ≤ k) (h1 : k < N) (hv : o k = v) (hc0 : 0 ≤ n 10 0 6) (hc : n 10 0 6 < 1000000000) :
    ∃ n12 n' m' N' o' e' p', N_Tree_list n = some n12 ∧ (n12 7 v 8 = k ∧ n12 7 v 9 = e k) ∧ N_Tree_free (k + 1) (e k) (nw (nw (nw n12 7 v 3 (-1)) 7 v 4 (-1)) 7 v 6 0) = some n' ∧ NL_Y_setText_57 F a b v m = some m' ∧ JT n' m' N' o' e' p' ∧ JP m' N' o' p' ∧ BI A B n' ∧ N' = N - (e k - (k + 1)) ∧ k < N' ∧ o' k = v ∧ e' k = k + 1
      ∧ (∀ K, K ≠ 7 → K ≠ 10 → K ≠ 22 → n' K = n K) ∧ n' 10 0 6 = n 10 0 6 + 1 ∧ n' 7 v 7 = n 7 v 7 ∧ FY [45, 68, 50, 51, 52, 53] m m' ∧ LIV m m' := by
  have hG := hT.1.1
  have hE := hG.eB h0 h1
  have hN := hG.N1
  obtain ⟨ng, m', N', o', e', p', b1, b2, b3, b4, b5, b6, b7, b8, b9, b10, b11, b12, b13, b14⟩ := clearLoop (F := F) (a := a) (b := b) (A := A) (B := B) (k := k) (v := v) (e k - (k + 1)).toNat n m N o e p hT hP hB h0 h1 (by omega) hv hc0 (by omega)
  obtain ⟨n12, el, l1, l2, l3⟩ := c_list hT.1.TC hT.2.2.1.2
  have h7 := l3.2 k h0 h1
  rw [hv] at h7
  generalize hn24 : nw (nw (nw n12 7 v 3 (-1)) 7 v 4 (-1)) 7 v 6 0 = n24
  have k24 : ∀ K, K ≠ 7 → n24 K = n12 K := fun K hK => by rw [← hn24, nw_nK hK, nw_nK hK, nw_nK hK]
  have s24 : ∀ u s, (u ≠ v ∨ (s ≠ 3 ∧ s ≠ 4 ∧ s ≠ 6)) → n24 7 u s = n12 7 u s := fun u s h => by
    rw [← hn24]
    simp only [nw_app]
    rw [if_neg (by omega), if_neg (by omega), if_neg (by omega)]
  have v24 : n24 7 v 3 = -1 ∧ n24 7 v 4 = -1 ∧ n24 7 v 6 = 0 := by
    rw [← hn24]
    exact ⟨by rw [nw_ns (by decide), nw_ns (by decide), nw_eq], by rw [nw_ns (by decide), nw_eq], nw_eq⟩
  have e10 : ∀ s, s ≠ 3 → s ≠ 4 → n24 10 0 s = n 10 0 s := fun s x y => by rw [k24 10 (by decide)]; exact l1.2.2 s x y
  obtain ⟨n', ef, f1, f2, f3, f4, f5, f6, f7⟩ := c_free (n := n24) (N := N) (o := o) (k := k + 1) (E := e k) (fun i j x y z w q => hG.inj x y z w q) (fun j x y => hG.oB x y) hN.2 (by omega) (by omega) (fun j x y => by rw [k24 22 (by decide)]; exact (l3.2 j x y).1) (by rw [e10 5 (by decide) (by decide)]; exact hT.1.2.2.2.2.2.1) (by rw [e10 6 (by decide) (by decide)]; omega)
  have K' : ∀ K, K ≠ 7 → K ≠ 10 → K ≠ 22 → n' K = n K := fun K x y z => by rw [f1 K x y, k24 K x, l1.1 K x y z]
  have slot : ∀ u s, s ≠ 0 → s ≠ 8 → s ≠ 9 → (u ≠ v ∨ (s ≠ 3 ∧ s ≠ 4 ∧ s ≠ 6)) → n' 7 u s = n 7 u s := fun u s x y z w => by
    rw [f2 u s x, s24 u s w, l1.2.1 u s y z]
  have tag : ∀ u, n' 7 u 0 = ng 7 u 0 := fun u => by
    by_cases w : ∃ j, k < j ∧ j < e k ∧ o j = u
    · obtain ⟨j, j0, j1, j2⟩ := w
      rw [← j2, f3 j (by omega) j1, b10 j j0 j1]
    · rw [f4 u (fun j x y z => w ⟨j, by omega, y, z⟩), b11 u (fun j x y z => w ⟨j, x, y, z⟩), s24 u 0 (.inr ⟨by decide, by decide, by decide⟩), l1.2.1 u 0 (by decide) (by decide)]
  have hlk := b2.1.2.2.2.2.1 k h0 b5
  rw [b6] at hlk
  have hfk := b2.1.1.fkE h0 b5
  rw [if_neg (by omega), b6] at hfk
  have hlast : m' 51 v = -1 := by
    rcases b2.1.last h0 b5 with ⟨_, z⟩ | ⟨j, x, y, z, w, _⟩
    · rw [b6] at z; exact z
    · have := b2.1.1.pB (k := j) (by omega) y
      rw [z] at this; omega
  have hg3 : ng 7 v 3 = -1 := by rw [hlk.1.2.1]; exact hfk
  have hg4 : ng 7 v 4 = -1 := by rw [hlk.1.2.2.1]; exact hlast
  have links : ∀ u s, s = 0 ∨ s = 2 ∨ s = 3 ∨ s = 4 ∨ s = 5 ∨ s = 7 ∨ s = 10 → n' 7 u s = ng 7 u s := fun u s hs => by
    by_cases z0 : s = 0
    · rw [z0]; exact tag u
    · by_cases hu : u = v
      · rw [hu]
        by_cases z3 : s = 3
        · rw [z3, f2 v 3 (by decide), v24.1, hg3]
        · by_cases z4 : s = 4
          · rw [z4, f2 v 4 (by decide), v24.2.1, hg4]
          · rw [slot v s z0 (by omega) (by omega) (.inr ⟨z3, z4, by omega⟩), b9 s (by simp only [List.mem_cons, List.not_mem_nil, or_false, not_or]; omega)]
      · rw [slot u s z0 (by omega) (by omega) (.inl hu), b8 u s hu z0 (by omega) (by omega)]
  have hS' : JS n' m' N' o' e' p' := b2.1.cg2 links ⟨by rw [f5, b2.1.2.2.2.2.2.1]; omega, by rw [f7 7 (by decide) (by decide), e10 7 (by decide) (by decide), b13 7 (by decide) (by decide) (by decide) (by decide)]⟩ (fun _ _ => rfl)
  have hK' : JK n' N' o' p' := fun j j0 j1 => by
    by_cases z : o' j = v
    · have : j = k := b2.1.1.inj j0 j1 h0 b5 (by rw [z, b6])
      rw [z, f2 v 6 (by decide), v24.2.2, this]
      exact (kct_leaf b2.1.1 h0 b5 b7).symm
    · rw [slot (o' j) 6 (by decide) (by decide) (by decide) (.inl z), ← b8 (o' j) 6 z (by decide) (by decide) (by decide)]
      exact b2.2.1 j j0 j1
  have e4 : n' 10 0 4 = n 10 0 6 := by rw [f7 4 (by decide) (by decide), k24 10 (by decide), l2, l1.2.2 6 (by decide) (by decide)]
  have e6 : n' 10 0 6 = n 10 0 6 + 1 := by rw [f6, e10 6 (by decide) (by decide)]
  have hliv : LIV m m' := fun u u0 u1 x _ => by
    refine ⟨?_, by rw [b14 55 (by decide)], by rw [b14 46 (by decide)]⟩
    have q1 := hS'.2.2.2.1 u u0 u1
    have q2 := hT.1.2.2.2.1 u u0 u1
    have hne : n' 7 u 0 ≠ -1 := fun z => by have := q1.2.2.mp z; omega
    have hn : n' 7 u 0 = n 7 u 0 := by
      by_cases w : ∃ j, k < j ∧ j < e k ∧ o j = u
      · obtain ⟨j, j0, j1, j2⟩ := w
        exact absurd (by rw [← j2]; exact f3 j (by omega) j1) hne
      · rw [tag, b11 u (fun j x y z => w ⟨j, x, y, z⟩)]
    rcases q2.1 with y | y
    · exact y
    · exact absurd (by rw [hn]; exact q2.2.2.mpr y) hne
  refine ⟨n12, n', m', N', o', e', p', el, ⟨h7.2.1, h7.2.2⟩, by rw [hn24]; exact ef, b1, ⟨hS', hK', ⟨by omega, fun z => by omega⟩, fun j j0 j1 => ?_⟩, b3, hB.cg (K' 4 (by decide) (by decide) (by decide)) (by rw [K' 5 (by decide) (by decide) (by decide)]; exact ⟨rfl, rfl⟩) (K' 90 (by decide) (by decide) (by decide)) (K' 91 (by decide) (by decide) (by decide)) (K' 92 (by decide) (by decide) (by decide)) (K' 93 (by decide) (by decide) (by decide)), b4, b5, b6, b7, K', e6, slot v 7 (by decide) (by decide) (by decide) (.inr ⟨by decide, by decide, by decide⟩), b14, hliv⟩
  refine (b2.2.2.2 j j0 j1).cg (YG.refl m' _) ⟨fun s hs => ?_, ?_, fun c _ _ => ?_⟩
  · by_cases z0 : s = 0
    · rw [z0]; exact tag _
    · by_cases hu : o' j = v
      · rw [hu, slot v s z0 (by omega) (by omega) (.inr ⟨by omega, by omega, by omega⟩), b9 s (by simp only [List.mem_cons, List.not_mem_nil, or_false, not_or]; omega)]
      · rw [slot (o' j) s z0 (by omega) (by omega) (.inl hu), b8 _ s hu z0 (by omega) (by omega)]
  · rw [K' 18 (by decide) (by decide) (by decide), b12 18 (by decide) (by decide) (by decide)]
  · unfold bt
    rw [K' 4 (by decide) (by decide) (by decide), K' 99 (by decide) (by decide) (by decide), b12 4 (by decide) (by decide) (by decide), b12 99 (by decide) (by decide) (by decide)]
end L0
