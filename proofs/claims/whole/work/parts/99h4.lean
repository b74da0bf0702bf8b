/-! WITHIN A TAG: what is read so far, in both -/
/-- the reading but for the faults -/
def JX (Z : NS × YS) (A B : Int) (n : NS) (m : YS) (N : Int) (o e p qs : Int → Int) (oc : Int) : Prop :=
  BI A B n ∧ JT n m N o e p ∧ JP m N o p ∧ JSrc n m ∧ JO n m N o e p qs oc ∧ JCut n m N o (o (qs (oc - 1))) ∧ J6 Z n m
def rnL (m : YS) (a : Int) : List Int := sg (m 81) (8 * a) (m 82 a).toNat
def rvL (m : YS) (a : Int) : List Int := sg (m 83) (60 * a) (m 84 a).toNat
/-- one ATTRIBUTE of the tag -/
def TD1 (n : NS) (m : YS) (a : Int) : Prop := (1 ≤ m 82 a ∧ m 82 a ≤ 8) ∧ (∀ c ∈ rnL m a, isBt c) ∧ n 18 120 a = pk (rnL m a) ∧ (0 ≤ m 84 a ∧ m 84 a ≤ 60) ∧ (∀ c ∈ rvL m a, isTx c) ∧ bt n (601 + a) = rvL m a
def TD (n : NS) (m : YS) : Prop := (n 7 120 12 = m 80 0 ∧ 0 ≤ m 80 0 ∧ m 80 0 ≤ 4) ∧ ∀ a, 0 ≤ a → a < m 80 0 → TD1 n m a
/-- the faults, some of which the reference tells later -/
def JFb (n : NS) (m : YS) : Prop := 0 ≤ m 70 0 ∧ m 70 0 ≤ 90000 ∧ ∀ j, 0 ≤ j → j < m 70 0 → j < 40 → n 28 0 j = m 71 j ∧ n 29 0 j = m 72 j
def JFd (n : NS) (m : YS) : Prop := n 8 0 3 = m 70 0 + m 85 0 ∧ 0 ≤ m 85 0 ∧ ∀ j, 0 ≤ j → j < m 85 0 → m 70 0 + j < 40 → n 28 0 (m 70 0 + j) = 2 ∧ n 29 0 (m 70 0 + j) = m 86 j
section H4
variable {Z : NS × YS} {n n' : NS} {m m' : YS} {A B N i q b t z oc v1 v2 v3 v4 : Int} {o e p qs : Int → Int} {w : List Int}
theorem JR.x (h : JR Z A B n m N o e p qs oc) : JX Z A B n m N o e p qs oc ∧ JF n m := by
  obtain ⟨hB, hT, hP, hF, hS, hO, hX, h6⟩ := h
  exact ⟨⟨hB, hT, hP, hS, hO, hX, h6⟩, hF⟩
theorem JX.r (h : JX Z A B n m N o e p qs oc) (hF : JF n m) : JR Z A B n m N o e p qs oc := by
  obtain ⟨hB, hT, hP, hS, hO, hX, h6⟩ := h
  exact ⟨hB, hT, hP, hF, hS, hO, hX, h6⟩
/-- the reference's own working numbers -/
theorem JX.y (h : JX Z A B n m N o e p qs oc) (hy : ∀ f, 45 ≤ f → f ≤ 76 → f ≠ 70 → f ≠ 71 → f ≠ 72 → m' f = m f) (hyr : FYR m m') : JX Z A B n m' N o e p qs oc := by
  obtain ⟨hB, hT, hP, hS, hO, hX, h6⟩ := h
  have fk : FRk n n := ⟨fun _ _ _ _ _ _ => rfl, rfl, rfl⟩
  refine ⟨hB, hT.rk fk (fun f a b => hy f a (by omega) (by omega) (by omega) (by omega)), by unfold JP; rw [hy 46 (by decide) (by decide) (by decide) (by decide) (by decide)]; exact hP, hS.rk fk (hy 75 (by decide) (by decide) (by decide) (by decide) (by decide)) (hy 76 (by decide) (by decide) (by decide) (by decide) (by decide)), hO.cg rfl rfl rfl (hy 74 (by decide) (by decide) (by decide) (by decide) (by decide)) (hy 73 (by decide) (by decide) (by decide) (by decide) (by decide)) (fun j _ _ => by rw [hy 46 (by decide) (by decide) (by decide) (by decide) (by decide), hy 54 (by decide) (by decide) (by decide) (by decide) (by decide), hy 67 (by decide) (by decide) (by decide) (by decide) (by decide)]; exact ⟨rfl, rfl, rfl⟩), ?_, h6.cg (FRR.refl n) hyr⟩
  unfold JCut at *
  rw [hy 51 (by decide) (by decide) (by decide) (by decide) (by decide), hy 46 (by decide) (by decide) (by decide) (by decide) (by decide), hy 63 (by decide) (by decide) (by decide) (by decide) (by decide)]; exact hX
/-- the class tells a fault -/
theorem JX.tl (h : JX Z A B n m N o e p qs oc) (h1 : ∀ K, K ≠ 8 → K ≠ 28 → K ≠ 29 → n' K = n K) (h2 : ∀ s, s ≠ 3 → n' 8 0 s = n 8 0 s) : JX Z A B n' m N o e p qs oc := by
  obtain ⟨hB, hT, hP, hS, hO, hX, h6⟩ := h
  have fk : FRk n n' := ⟨fun K a b c _ _ => h1 K a b c, h2 8 (by decide), h2 9 (by decide)⟩
  refine ⟨hB.rk fk, hT.rk fk (fun _ _ _ => rfl), hP, hS.rk fk rfl rfl, hO.cg (h2 6 (by decide)) (h1 30 (by decide) (by decide) (by decide)) (h1 31 (by decide) (by decide) (by decide)) rfl rfl (fun _ _ _ => ⟨rfl, rfl, rfl⟩), ?_, h6.cg (FRR.rk fk) (fun _ _ => rfl)⟩
  unfold JCut at *
  rw [h2 11 (by decide)]; exact hX
/-- the tag's own node -/
theorem JT.tn (h : JT n m N o e p) (h1 : ∀ K, K ≠ 7 → K ≠ 18 → n' K = n K) (h7 : ∀ v, v ≠ 120 → n' 7 v = n 7 v) (h18 : ∀ v, v ≠ 120 → n' 18 v = n 18 v) : JT n' m N o e p := by
  obtain ⟨hS, hK, hL, hD⟩ := h
  have hO : ∀ k, 0 ≤ k → k < N → n' 7 (o k) = n 7 (o k) := fun k a b => h7 _ (by have := hS.1.oB a b; omega)
  refine ⟨⟨hS.1, hS.2.1, hS.2.2.1, fun v a b => by rw [h7 v (by omega)]; exact hS.2.2.2.1 v a b, fun k a b => by unfold lnk; rw [hO k a b]; exact hS.2.2.2.2.1 k a b, by rw [h1 10 (by decide) (by decide)]; exact hS.2.2.2.2.2⟩, fun k a b => by rw [hO k a b]; exact hK k a b, ⟨by rw [h1 10 (by decide) (by decide)]; exact hL.1, fun y => ?_⟩, fun k a b => (hD k a b).cg (YG.refl m _) ⟨fun s _ => by rw [hO k a b], h18 _ (by have := hS.1.oB a b; omega), fun c _ _ => by unfold bt; rw [h1 4 (by decide) (by decide), h1 99 (by decide) (by decide)]⟩⟩
  rw [h1 10 (by decide) (by decide)] at y
  have := hL.2 y
  exact ⟨by rw [h1 10 (by decide) (by decide)]; exact this.1, fun k a b => by rw [h1 22 (by decide) (by decide), hO k a b]; exact this.2 k a b⟩
theorem JX.tn (h : JX Z A B n m N o e p qs oc) (h1 : ∀ K, K ≠ 7 → K ≠ 18 → n' K = n K) (h7 : ∀ v, v ≠ 120 → n' 7 v = n 7 v) (h18 : ∀ v, v ≠ 120 → n' 18 v = n 18 v) : JX Z A B n' m N o e p qs oc := by
  obtain ⟨hB, hT, hP, hS, hO, hX, h6⟩ := h
  have e8 := h1 8 (by decide) (by decide)
  refine ⟨hB.cg (h1 4 (by decide) (by decide)) (by rw [h1 5 (by decide) (by decide)]; exact ⟨rfl, rfl⟩) (h1 90 (by decide) (by decide)) (h1 91 (by decide) (by decide)) (h1 92 (by decide) (by decide)) (h1 93 (by decide) (by decide)), hT.tn h1 h7 h18, hP, ?_, hO.cg (by rw [e8]) (h1 30 (by decide) (by decide)) (h1 31 (by decide) (by decide)) rfl rfl (fun _ _ _ => ⟨rfl, rfl, rfl⟩), ?_, h6.cg (FRR.ks (fun K c => by
    simp only [List.mem_cons, List.not_mem_nil, or_false, not_or] at c
    exact h1 K (by omega) (by omega)) (by rw [h1 10 (by decide) (by decide)]; exact Int.le_refl _)) (fun _ _ => rfl)⟩
  · unfold JSrc RDR tx at *
    rw [e8, h1 4 (by decide) (by decide), h1 90 (by decide) (by decide), h1 92 (by decide) (by decide), h1 93 (by decide) (by decide), h1 99 (by decide) (by decide)]; exact hS
  · unfold JCut at *
    rw [e8]; exact hX
/-- rows of the tag's node -/
theorem JT.fb6 {S : Int → Prop} (h : JT n m N o e p) (hB : BI A B n) (hF : FB S n n') (hS : ∀ x, S x → 600 ≤ x ∧ x ≤ 631) : JT n' m N o e p := by
  have e7 := hF.1 7 (by decide) (by decide) (by decide) (by decide) (by decide) (by decide)
  have e10 := hF.1 10 (by decide) (by decide) (by decide) (by decide) (by decide) (by decide)
  have e22 := hF.1 22 (by decide) (by decide) (by decide) (by decide) (by decide) (by decide)
  refine ⟨h.1.cg e7 e10 (fun _ _ => rfl), h.2.1.cg e7, h.2.2.1.cg e7 e10 e22, fun k k0 k1 => (h.2.2.2 k k0 k1).cg (YG.refl m _) ⟨fun s _ => by rw [e7], by rw [hF.1 18 (by decide) (by decide) (by decide) (by decide) (by decide) (by decide)], fun b b0 b1 => ?_⟩⟩
  have hv := h.1.1.oB k0 k1
  exact (hF.bts hB (by omega) (fun z => by have := hS b z; omega) (fun x hx => by have := hS x hx; omega)).2.2
theorem JX.fb {S : Int → Prop} (h : JX Z A B n m N o e p qs oc) (hB' : BI A B n') (hF : FB S n n') (hS : ∀ x, S x → 600 ≤ x ∧ x ≤ 604) : JX Z A B n' m N o e p qs oc := by
  obtain ⟨hB, hT, hP, hs, hO, hX, h6⟩ := h
  have e8 := hF.1 8 (by decide) (by decide) (by decide) (by decide) (by decide) (by decide)
  refine ⟨hB', hT.fb6 hB hF (fun x hx => by have := hS x hx; omega), hP, hs.row hF (fun x hx => by have := hS x hx; omega) rfl rfl, hO.cg (by rw [e8]) (hF.1 30 (by decide) (by decide) (by decide) (by decide) (by decide) (by decide)) (hF.1 31 (by decide) (by decide) (by decide) (by decide) (by decide) (by decide)) rfl rfl (fun _ _ _ => ⟨rfl, rfl, rfl⟩), ?_, h6.cg (FRR.fb hF (fun x hx => by have := hS x hx; omega)) (fun _ _ => rfl)⟩
  unfold JCut at *
  rw [e8]; exact hX
theorem c_findT (h : TD n m) (hw : ∀ c ∈ w, isBt c) : ev (N_Node_find 120 (pk w) n) (fun r => (0 ≤ r ∧ ∃ a, 0 ≤ a ∧ a < m 80 0 ∧ rnL m a = w) ∨ (r = -1 ∧ ∀ a, 0 ≤ a → a < m 80 0 → rnL m a ≠ w)) := by
  unfold N_Node_find NL_Node_find_2
  have hc := h.1
  refine ev_bs (P := fun r => (0 ≤ r ∧ r < 4) ∧ ∃ a, 0 ≤ a ∧ a < m 80 0 ∧ rnL m a = w) (R := fun _ => ∀ a, 0 ≤ a → a < m 80 0 → rnL m a ≠ w) ?_ (fun r hr => ev_ix hr.1 (ev_ok (.inl ⟨by omega, hr.2⟩))) (fun r hr => ev_ok (.inr ⟨rfl, hr⟩))
  refine ev_it (fun s => 0 ≤ s ∧ s ≤ m 80 0 ∧ ∀ j, 0 ≤ j → j < s → rnL m j ≠ w) (fun s => m 80 0 - s) (fun s hs => ?_) ⟨Int.le_refl _, hc.2.1, fun j a b => by omega⟩
  obtain ⟨g1, g2, g3⟩ := hs
  unfold nb_Node_find_2
  rw [hc.1]
  refine ev_if (fun hlt => ev_ix (by omega) ?_) (fun hge => ev_inr (fun a a0 a1 => g3 a a0 (by omega)))
  have ha := h.2 s g1 hlt
  rw [ha.2.2.1]
  refine ev_if (fun he => ev_inr ⟨⟨g1, by omega⟩, s, g1, hlt, pkq_inj ha.2.1 hw he⟩) (fun hne => ev_ck (by omega) (ev_inl ⟨⟨by omega, by omega, fun j a b => ?_⟩, by omega, by omega⟩))
  by_cases y : j = s
  · rw [y]; exact fun x => hne (by rw [x])
  · exact g3 j a (by omega)
theorem y_findT (h : 0 ≤ m 80 0 ∧ m 80 0 ≤ 4) (hw8 : w.length ≤ 8) (hw : sg (m 87) 0 w.length = w) (h2 : v2 = (w.length : Int)) (h82 : ∀ a, 0 ≤ a → a < m 80 0 → 0 ≤ m 82 a) : ev (NL_Y_readAttribute_320 v1 v2 v3 v4 0 0 m) (fun r => (r = 1 ∧ ∃ a, 0 ≤ a ∧ a < m 80 0 ∧ rnL m a = w) ∨ (r = 0 ∧ ∀ a, 0 ≤ a → a < m 80 0 → rnL m a ≠ w)) := by
  unfold NL_Y_readAttribute_320
  refine ev_it (fun s : Int × Int => 0 ≤ s.2 ∧ s.2 ≤ m 80 0 ∧ ((s.1 = 1 ∧ ∃ a, 0 ≤ a ∧ a < m 80 0 ∧ rnL m a = w) ∨ (s.1 = 0 ∧ ∀ a, 0 ≤ a → a < s.2 → rnL m a ≠ w))) (fun s => m 80 0 - s.2) (fun s hs => ?_) ⟨Int.le_refl _, h.1, .inr ⟨rfl, fun a a0 a1 => by have a1 : a < 0 := a1; omega⟩⟩
  obtain ⟨x, k⟩ := s
  obtain ⟨g1, g2, g3⟩ := hs
  simp only at g1 g2 g3
  show ev (nb_Y_readAttribute_320 v1 v2 v3 v4 x k m) _
  unfold nb_Y_readAttribute_320 nk_Y_readAttribute_366
  have no : (∀ a, 0 ≤ a → a < k → rnL m a ≠ w) → rnL m k ≠ w → ∀ a, 0 ≤ a → a < k + 1 → rnL m a ≠ w := fun y1 y2 a a0 a1 => by
    by_cases y : a = k
    · rw [y]; exact y2
    · exact y1 a a0 (by omega)
  refine ev_if (fun hlt => ev_if (fun h0 => ev_ix (by omega) ?_) (fun h0 => ?_)) (fun hge => ev_inr ?_)
  · have g4 : ∀ a, 0 ≤ a → a < k → rnL m a ≠ w := by
      rcases g3 with ⟨y, _⟩ | ⟨_, y⟩
      · omega
      · exact y
    refine ev_if (fun he => ev_ck (by omega) (ev_bz (ys_same (by omega) (by omega) (by show 8 * k + v2 ≤ ((32 : Nat) : Int); omega) (by show 0 + v2 ≤ ((8 : Nat) : Int); omega) (by omega) ⟨by omega, by omega⟩) (fun hp => ?_) (fun hp => ?_))) (fun hne => ev_ck (by omega) (ev_inl ⟨⟨by show 0 ≤ k + 1; omega, by show k + 1 ≤ _; omega, .inr ⟨rfl, no g4 (fun y => hne ?_)⟩⟩, by show m 80 0 - (k + 1) < m 80 0 - k; omega, by show 0 ≤ m 80 0 - k; omega⟩))
    · rw [if_neg (by decide)]
      refine ev_ck (by omega) (ev_inl ⟨⟨by show 0 ≤ k + 1; omega, by show k + 1 ≤ _; omega, .inl ⟨rfl, k, g1, hlt, ?_⟩⟩, by show m 80 0 - (k + 1) < m 80 0 - k; omega, by show 0 ≤ m 80 0 - k; omega⟩)
      unfold rnL
      rw [he, hp, show v2.toNat = w.length by omega]; exact hw
    · rw [if_pos rfl]
      refine ev_ck (by omega) (ev_inl ⟨⟨by show 0 ≤ k + 1; omega, by show k + 1 ≤ _; omega, .inr ⟨rfl, no g4 (fun y => hp ?_)⟩⟩, by show m 80 0 - (k + 1) < m 80 0 - k; omega, by show 0 ≤ m 80 0 - k; omega⟩)
      unfold rnL at y
      rw [he] at y
      rw [y, show v2.toNat = w.length by omega]; exact hw.symm
    · have := h82 k g1 hlt
      rw [← y] at h2
      unfold rnL at h2
      rw [sg_len] at h2
      omega
  · refine ev_ck (by omega) (ev_inl ⟨⟨by show 0 ≤ k + 1; omega, by show k + 1 ≤ _; omega, .inl ⟨rfl, ?_⟩⟩, by show m 80 0 - (k + 1) < m 80 0 - k; omega, by show 0 ≤ m 80 0 - k; omega⟩)
    rcases g3 with ⟨_, y⟩ | ⟨y, _⟩
    · exact y
    · exact absurd y h0
  · rcases g3 with ⟨y1, y2⟩ | ⟨y1, y2⟩
    · exact .inl ⟨y1, y2⟩
    · exact .inr ⟨y1, fun a a0 a1 => y2 a a0 (by omega)⟩
/-- the reference's copying of a name, of a value -/
theorem y_cp438 (h : 0 ≤ m 80 0 ∧ m 80 0 < 4) (hv : 0 ≤ v2 ∧ v2 ≤ 8) : ev (NL_Y_readAttribute_438 v2 v3 v4 0 m) (fun m' => FY [81] m m' ∧ (∀ j, 0 ≤ j → j < v2 → m' 81 (8 * m 80 0 + j) = m 87 j) ∧ ∀ j, ¬ (8 * m 80 0 ≤ j ∧ j < 8 * m 80 0 + v2) → m' 81 j = m 81 j) := by
  unfold NL_Y_readAttribute_438
  refine ev_it (fun s : Int × YS => (0 ≤ s.1 ∧ s.1 ≤ v2) ∧ FY [81] m s.2 ∧ (∀ j, 0 ≤ j → j < s.1 → s.2 81 (8 * m 80 0 + j) = m 87 j) ∧ ∀ j, ¬ (8 * m 80 0 ≤ j ∧ j < 8 * m 80 0 + v2) → s.2 81 j = m 81 j) (fun s => v2 - s.1) (fun s hs => ?_) ⟨⟨Int.le_refl _, hv.1⟩, fun _ _ => rfl, fun j a b => by have b : j < 0 := b; omega, fun _ _ => rfl⟩
  obtain ⟨k, m1⟩ := s
  obtain ⟨g1, g2, g3, g4⟩ := hs
  simp only at g1 g2 g3 g4
  show ev (nb_Y_readAttribute_438 v2 v3 v4 k m1) _
  unfold nb_Y_readAttribute_438
  rw [g2 80 (by decide), g2 87 (by decide)]
  refine ev_if (fun hlt => ev_ck (by omega) (ev_ck (by omega) (ev_ix (by omega) (ev_ix (by omega) (ev_st (ev_ck (by omega) (ev_inl ⟨⟨by show 0 ≤ k + 1 ∧ k + 1 ≤ v2; omega, fun f hf => ?_, fun j a b => ?_, fun j hj => ?_⟩, by show v2 - (k + 1) < v2 - k; omega, by show 0 ≤ v2 - k; omega⟩))))))) (fun hge => ev_inr ⟨g2, fun j a b => g3 j a (by omega), g4⟩)
  · show yw m1 81 (8 * m 80 0 + k) (m 87 k) f = m f
    rw [yw_nF (by simp only [List.mem_cons, List.not_mem_nil, or_false] at hf; exact hf)]; exact g2 f hf
  · have b : j < k + 1 := b
    show yw m1 81 (8 * m 80 0 + k) (m 87 k) 81 (8 * m 80 0 + j) = m 87 j
    by_cases y : j = k
    · rw [y, yw_eq]
    · rw [yw_ni (by omega)]; exact g3 j a (by omega)
  · show yw m1 81 (8 * m 80 0 + k) (m 87 k) 81 j = m 81 j
    rw [yw_ni (by omega)]; exact g4 j hj
theorem y_cp475 (h : 0 ≤ m 80 0 ∧ m 80 0 < 4) (hv : 0 ≤ v4 ∧ v4 ≤ 60) : ev (NL_Y_readAttribute_475 v3 v4 0 m) (fun m' => FY [83] m m' ∧ (∀ j, 0 ≤ j → j < v4 → m' 83 (60 * m 80 0 + j) = m 88 j) ∧ ∀ j, ¬ (60 * m 80 0 ≤ j ∧ j < 60 * m 80 0 + v4) → m' 83 j = m 83 j) := by
  unfold NL_Y_readAttribute_475
  refine ev_it (fun s : Int × YS => (0 ≤ s.1 ∧ s.1 ≤ v4) ∧ FY [83] m s.2 ∧ (∀ j, 0 ≤ j → j < s.1 → s.2 83 (60 * m 80 0 + j) = m 88 j) ∧ ∀ j, ¬ (60 * m 80 0 ≤ j ∧ j < 60 * m 80 0 + v4) → s.2 83 j = m 83 j) (fun s => v4 - s.1) (fun s hs => ?_) ⟨⟨Int.le_refl _, hv.1⟩, fun _ _ => rfl, fun j a b => by have b : j < 0 := b; omega, fun _ _ => rfl⟩
  obtain ⟨k, m1⟩ := s
  obtain ⟨g1, g2, g3, g4⟩ := hs
  simp only at g1 g2 g3 g4
  show ev (nb_Y_readAttribute_475 v3 v4 k m1) _
  unfold nb_Y_readAttribute_475
  rw [g2 80 (by decide), g2 88 (by decide)]
  refine ev_if (fun hlt => ev_ck (by omega) (ev_ck (by omega) (ev_ix (by omega) (ev_ix (by omega) (ev_st (ev_ck (by omega) (ev_inl ⟨⟨by show 0 ≤ k + 1 ∧ k + 1 ≤ v4; omega, fun f hf => ?_, fun j a b => ?_, fun j hj => ?_⟩, by show v4 - (k + 1) < v4 - k; omega, by show 0 ≤ v4 - k; omega⟩))))))) (fun hge => ev_inr ⟨g2, fun j a b => g3 j a (by omega), g4⟩)
  · show yw m1 83 (60 * m 80 0 + k) (m 88 k) f = m f
    rw [yw_nF (by simp only [List.mem_cons, List.not_mem_nil, or_false] at hf; exact hf)]; exact g2 f hf
  · have b : j < k + 1 := b
    show yw m1 83 (60 * m 80 0 + k) (m 88 k) 83 (60 * m 80 0 + j) = m 88 j
    by_cases y : j = k
    · rw [y, yw_eq]
    · rw [yw_ni (by omega)]; exact g3 j a (by omega)
  · show yw m1 83 (60 * m 80 0 + k) (m 88 k) 83 j = m 83 j
    rw [yw_ni (by omega)]; exact g4 j hj
end H4
