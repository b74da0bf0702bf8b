/-! A FORM IS SENT: the form around, the pieces of its query -/
/-- a byte of a value as it is sent -/
def vmC (c : Int) : List Int := if c = 32 then [43] else if isSg c then [c] else []
def vmp : List Int → List Int
  | [] => []
  | c :: l => vmC c ++ vmp l
/-- more of the query, in the reference -/
def QA (m m' : YS) (l : List Int) : Prop := FY [182, 183] m m' ∧ ys m' 182 183 = ys m 182 183 ++ l ∧ m' 183 0 = m 183 0 + (l.length : Int)
/-- a NAME, from a place on -/
def nmQ (g : Int → Int) (b L : Int) : Prop := (0 < L ∧ L ≤ 8) ∧ isSm (g b) ∧ ∀ j, 0 ≤ j → j < L → isNm (g (b + j))
section P0
variable {n n' n'' n2 : NS} {m m' m'' m0 m6 mR : YS} {A B N N' k b a δ δ' fr to d L r r' q x f v c i z M : Int} {o e p o' e' p' κ g : Int → Int} {As Bs W S : Int → Prop} {l l' : List Int}
theorem form_up (hT : JT n m N o e p) : ∀ (z : Nat) (k : Int), 0 ≤ k → k < N → k.toNat ≤ z → ∃ r, NL_Y_formOf_2 (o k) m = some r ∧ NL_Tree_around_10 5 (o k) n = some r ∧ (r = -1 ∨ ∃ j, 0 ≤ j ∧ j < N ∧ o j = r ∧ m 46 r = 5) := by
  have hG := hT.1.1
  intro z
  induction z with
  | zero =>
    intro k k0 k1 hk
    have hk0 : k = 0 := by omega
    subst hk0
    have hv := hG.oB k0 k1
    have h7 := (hT.2.2.2 0 k0 k1).1.1
    have hp : m 49 (o 0) = -1 := hG.par0
    have hl := (hT.1.2.2.2.2.1 0 k0 k1).1.1
    by_cases h5 : m 46 (o 0) = 5
    · refine ⟨o 0, ?_, ?_, .inr ⟨0, k0, k1, rfl, h5⟩⟩
      · unfold NL_Y_formOf_2
        refine it_inr ?_
        show nb_Y_formOf_2 (o 0) m = _
        unfold nb_Y_formOf_2 ix
        rw [if_neg (by omega), if_pos hv, if_pos h5]
      · unfold NL_Tree_around_10
        refine it_inr ?_
        show nb_Tree_around_10 5 (o 0) n = _
        unfold nb_Tree_around_10 ix
        rw [if_neg (by omega), if_pos hv, if_pos (by rw [h7]; exact h5)]
    · refine ⟨-1, ?_, ?_, .inl rfl⟩
      · unfold NL_Y_formOf_2
        have e1 : nb_Y_formOf_2 (o 0) m = some (.inl (-1)) := by
          unfold nb_Y_formOf_2 ix
          rw [if_neg (by omega), if_pos hv, if_neg h5, if_pos hv, hp]
        rw [it_inl e1]
        refine it_inr ?_
        show nb_Y_formOf_2 (-1) m = _
        unfold nb_Y_formOf_2
        rw [if_pos rfl]
      · unfold NL_Tree_around_10
        have e1 : nb_Tree_around_10 5 (o 0) n = some (.inl (-1)) := by
          unfold nb_Tree_around_10 ix
          rw [if_neg (by omega), if_pos hv, if_neg (by rw [h7]; exact h5), if_pos hv, hl, hp]
        rw [it_inl e1]
        refine it_inr ?_
        show nb_Tree_around_10 5 (-1) n = _
        unfold nb_Tree_around_10
        rw [if_pos rfl]
  | succ z ih =>
    intro k k0 k1 hk
    by_cases hk0 : k = 0
    · exact ih k k0 k1 (by omega)
    · have hv := hG.oB k0 k1
      have h7 := (hT.2.2.2 k k0 k1).1.1
      have hp : m 49 (o k) = o (p k) := hG.parE (by omega) k1
      have hl := (hT.1.2.2.2.2.1 k k0 k1).1.1
      have hpb := hG.pB (k := k) (by omega) k1
      by_cases h5 : m 46 (o k) = 5
      · refine ⟨o k, ?_, ?_, .inr ⟨k, k0, k1, rfl, h5⟩⟩
        · unfold NL_Y_formOf_2
          refine it_inr ?_
          show nb_Y_formOf_2 (o k) m = _
          unfold nb_Y_formOf_2 ix
          rw [if_neg (by omega), if_pos hv, if_pos h5]
        · unfold NL_Tree_around_10
          refine it_inr ?_
          show nb_Tree_around_10 5 (o k) n = _
          unfold nb_Tree_around_10 ix
          rw [if_neg (by omega), if_pos hv, if_pos (by rw [h7]; exact h5)]
      · obtain ⟨r, e1, e2, e3⟩ := ih (p k) hpb.1 (by omega) (by omega)
        refine ⟨r, ?_, ?_, e3⟩
        · rw [← e1]
          unfold NL_Y_formOf_2
          refine it_inl ?_
          show nb_Y_formOf_2 (o k) m = _
          unfold nb_Y_formOf_2 ix
          rw [if_neg (by omega), if_pos hv, if_neg h5, if_pos hv, hp]
        · rw [← e2]
          unfold NL_Tree_around_10
          refine it_inl ?_
          show nb_Tree_around_10 5 (o k) n = _
          unfold nb_Tree_around_10 ix
          rw [if_neg (by omega), if_pos hv, if_neg (by rw [h7]; exact h5), if_pos hv, hl, hp]
/-- the form around a node that is none itself -/
theorem form_both (hT : JT n m N o e p) (k0 : 0 ≤ k) (k1 : k < N) (h5 : m 46 (o k) ≠ 5) : ∃ r, N_Y_formOf (o k) m = some r ∧ N_Tree_around (o k) 5 n = some r ∧ (r = -1 ∨ ∃ j, 0 ≤ j ∧ j < N ∧ o j = r ∧ m 46 r = 5) := by
  have hG := hT.1.1
  have hv := hG.oB k0 k1
  have h7 := (hT.2.2.2 k k0 k1).1.1
  obtain ⟨r, e1, e2, e3⟩ := form_up hT k.toNat k k0 k1 (Nat.le_refl _)
  refine ⟨r, by unfold N_Y_formOf; rw [e1]; rfl, ?_, e3⟩
  have e4 : NL_Tree_around_10 5 (n 7 (o k) 2) n = some r := by
    rw [← e2]
    unfold NL_Tree_around_10
    refine (it_inl (f := fun s : Int => nb_Tree_around_10 5 s n) (s := o k) (s' := n 7 (o k) 2) ?_).symm
    show nb_Tree_around_10 5 (o k) n = _
    unfold nb_Tree_around_10 ix
    rw [if_neg (by omega), if_pos hv, if_neg (by rw [h7]; exact h5), if_pos hv]
  unfold N_Tree_around ix
  rw [if_pos hv, e4]; rfl
theorem nmQ_c (hL : 0 ≤ L) : (0 < L ∧ nmC (fun j => g (b + j)) 0 L = L) ↔ nmQ g b L := by
  constructor
  · intro h
    obtain ⟨a1, a2⟩ := nmC_in h
    refine ⟨⟨h.1, by omega⟩, ?_, fun j j0 j1 => a2 j j0 j1⟩
    have h2 := h.2
    unfold nmC at h2
    by_cases u : 0 < L ∧ isSm (g (b + 0))
    · have := u.2; rw [show b + 0 = b by omega] at this; exact this
    · rw [if_neg u] at h2; omega
  · rintro ⟨⟨a1, a2⟩, a3, a4⟩
    exact ⟨a1, nmC_all (g := fun j => g (b + j)) a1 (by omega) (by rw [show b + 0 = b by omega]; exact a3) (fun j j0 j1 => a4 j j0 j1)⟩
theorem nmQ_y (hL : 0 ≤ L) : (L ≠ 0 ∧ nmE g b (b + L) = b + L) ↔ nmQ g b L := by
  constructor
  · rintro ⟨h1, h2⟩
    have h3 := (nameAll (g := g) (fr := b) (to := b + L) (by omega)).mp ⟨by omega, h2⟩
    obtain ⟨a1, a2⟩ := nmC_in h3
    refine ⟨⟨by omega, by omega⟩, ?_, fun j j0 j1 => a2 _ (by omega) (by omega)⟩
    have h4 := h3.2
    unfold nmC at h4
    by_cases u : b < b + L ∧ isSm (g b)
    · exact u.2
    · rw [if_neg u] at h4; omega
  · rintro ⟨⟨a1, a2⟩, a3, a4⟩
    have := (nameAll (g := g) (fr := b) (to := b + L) (by omega)).mpr ⟨by omega, nmC_all (by omega) (by omega) a3 (fun j j0 j1 => by have := a4 (j - b) (by omega) (by omega); rw [show b + (j - b) = j by omega] at this; exact this)⟩
    exact ⟨by omega, this.2⟩
theorem QA.nil (m : YS) : QA m m [] := ⟨fun _ _ => rfl, by rw [List.append_nil], by simp⟩
theorem QA.trans (h : QA m m' l) (h' : QA m' m'' l') : QA m m'' (l ++ l') := ⟨h.1.trans h'.1, by rw [h'.2.1, h.2.1, List.append_assoc], by rw [h'.2.2, h.2.2, List.length_append]; omega⟩
theorem y_ask (h : 0 ≤ m 183 0 ∧ m 183 0 < 4000) (hc : 0 ≤ c ∧ c < 128) : ∃ m', N_Y_ask c m = some m' ∧ QA m m' [c] := by
  have hbm : Int.bmod c 256 = c := by rw [Int.bmod_def]; omega
  refine ⟨yw (yw m 182 (m 183 0) c) 183 0 (m 183 0 + 1), ?_, fun g hg => ?_, ?_, ?_⟩
  · unfold N_Y_ask ix ck st
    dsimp only
    rw [if_pos h, hbm, yw_nF (show (183 : Nat) ≠ 182 by decide), if_pos (by omega)]
  · simp only [List.mem_cons, List.not_mem_nil, or_false, not_or] at hg
    rw [yw_nF hg.2, yw_nF hg.1]
  · unfold ys
    rw [yw_eq, yw_nF (show (182 : Nat) ≠ 183 by decide), show (m 183 0 + 1).toNat = (m 183 0).toNat + 1 by omega, sg_app]
    congr 1
    · refine sg_cg _ _ _ (fun x hx => ?_)
      rw [yw_ni (by omega)]
    · rw [show (0 : Int) + ((m 183 0).toNat : Int) = m 183 0 by omega]
      refine sg_1.mpr ⟨rfl, yw_eq⟩
  · rw [yw_eq]; rfl
/-- the NAME of an input goes into the query -/
theorem y_ask128 (h : 0 ≤ m 183 0 ∧ m 183 0 + m 60 a ≤ 4000) (ha : 0 ≤ a ∧ a < 480) (h60 : 0 ≤ m 60 a ∧ m 60 a ≤ 60) (hc : ∀ j, 0 ≤ j → j < m 60 a → 0 ≤ m 59 (60 * a + j) ∧ m 59 (60 * a + j) < 128) {v1 v2 v4 : Int} : ev (NL_Y_sendForm_128 v1 v2 a v4 0 m) (fun m' => QA m m' (sg (m 59) (60 * a) (m 60 a).toNat)) := by
  unfold NL_Y_sendForm_128
  refine ev_it (fun s : Int × YS => (0 ≤ s.1 ∧ s.1 ≤ m 60 a) ∧ QA m s.2 (sg (m 59) (60 * a) s.1.toNat)) (fun s => m 60 a - s.1) (fun s hs => ?_) ⟨by show (0 : Int) ≤ 0 ∧ (0 : Int) ≤ m 60 a; omega, QA.nil m⟩
  obtain ⟨j, m1⟩ := s
  obtain ⟨g1, g2⟩ := hs
  simp only at g1 g2
  show ev (nb_Y_sendForm_128 v1 v2 a v4 j m1) _
  unfold nb_Y_sendForm_128
  have e60 : m1 60 = m 60 := g2.1 60 (by decide)
  have e59 : m1 59 = m 59 := g2.1 59 (by decide)
  have hlen := g2.2.2
  rw [sg_len] at hlen
  refine ev_ix (by omega) ?_
  rw [e60, e59]
  refine ev_if (fun hlt => ?_) (fun hge => ev_inr (by rw [show m 60 a = j by omega]; exact g2))
  have hcj := hc j g1.1 hlt
  obtain ⟨m2, ea, qa⟩ := y_ask (m := m1) (c := m 59 (60 * a + j)) ⟨by omega, by omega⟩ hcj
  refine ev_ck (by omega) (ev_ck (by omega) (ev_ix (by omega) ?_))
  rw [ea]
  simp only [Option.bind_some]
  refine ev_ck (by omega) (ev_inl ⟨⟨by show 0 ≤ j + 1 ∧ j + 1 ≤ m 60 a; omega, ?_⟩, by show m 60 a - (j + 1) < m 60 a - j; omega, by show 0 ≤ m 60 a - j; omega⟩)
  show QA m m2 (sg (m 59) (60 * a) (j + 1).toNat)
  rw [show (j + 1).toNat = j.toNat + 1 by omega, sg_app, show sg (m 59) (60 * a + ((j.toNat : Nat) : Int)) 1 = [m 59 (60 * a + j)] from sg_1.mpr ⟨rfl, by rw [show ((j.toNat : Nat) : Int) = j by omega]⟩]
  exact g2.trans qa
theorem vmp_app : ∀ (x y : List Int), vmp (x ++ y) = vmp x ++ vmp y := by
  intro x
  induction x with
  | nil => intro y; rfl
  | cons c x ih => intro y; show vmC c ++ vmp (x ++ y) = (vmC c ++ vmp x) ++ vmp y; rw [ih, List.append_assoc]
theorem vmC_len : (vmC c).length ≤ 1 ∧ (isTx c → ∀ x ∈ vmC c, 0 ≤ x ∧ x < 128) := by
  unfold vmC
  split
  · exact ⟨by decide, fun _ x hx => by simp at hx; omega⟩
  · split
    · refine ⟨by simp, fun h x hx => ?_⟩
      simp at hx
      unfold isTx at h
      omega
    · exact ⟨by decide, fun _ x hx => by cases hx⟩
theorem vmp_len : ∀ l : List Int, (vmp l).length ≤ l.length := by
  intro l
  induction l with
  | nil => exact Nat.le_refl _
  | cons c l ih =>
    show (vmC c ++ vmp l).length ≤ l.length + 1
    rw [List.length_append]
    have := (vmC_len (c := c)).1
    omega
/-- its value -/
theorem y_ask190 (h : 0 ≤ m 183 0 ∧ m 183 0 + m 65 v ≤ 4000) (hv : 0 ≤ v ∧ v < 120) (h65 : 0 ≤ m 65 v ∧ m 65 v ≤ 24) (hc : ∀ c ∈ vaL m v, isTx c) {v1 : Int} : ev (NL_Y_sendForm_190 v1 v 0 m) (fun m' => QA m m' (vmp (vaL m v))) := by
  unfold NL_Y_sendForm_190
  refine ev_it (fun s : Int × YS => (0 ≤ s.1 ∧ s.1 ≤ m 65 v) ∧ QA m s.2 (vmp (sg (m 64) (24 * v) s.1.toNat))) (fun s => m 65 v - s.1) (fun s hs => ?_) ⟨by show (0 : Int) ≤ 0 ∧ (0 : Int) ≤ m 65 v; omega, QA.nil m⟩
  obtain ⟨j, m1⟩ := s
  obtain ⟨g1, g2⟩ := hs
  simp only at g1 g2
  show ev (nb_Y_sendForm_190 v1 v j m1) _
  unfold nb_Y_sendForm_190
  have e65 : m1 65 = m 65 := g2.1 65 (by decide)
  have e64 : m1 64 = m 64 := g2.1 64 (by decide)
  have hlen := g2.2.2
  have hvl := vmp_len (sg (m 64) (24 * v) j.toNat)
  rw [sg_len] at hvl
  refine ev_ix hv ?_
  rw [e65, e64]
  refine ev_if (fun hlt => ?_) (fun hge => ev_inr (by unfold vaL; rw [show m 65 v = j by omega]; exact g2))
  have htx : isTx (m 64 (24 * v + j)) := by
    have := sg_at (g := m 64) (m 65 v).toNat (24 * v) j.toNat (by omega)
    rw [show ((j.toNat : Nat) : Int) = j by omega] at this
    exact hc _ this
  have hs : sg (m 64) (24 * v) (j + 1).toNat = sg (m 64) (24 * v) j.toNat ++ [m 64 (24 * v + j)] := by
    rw [show (j + 1).toNat = j.toNat + 1 by omega, sg_app, show sg (m 64) (24 * v + ((j.toNat : Nat) : Int)) 1 = [m 64 (24 * v + j)] from sg_1.mpr ⟨rfl, by rw [show ((j.toNat : Nat) : Int) = j by omega]⟩]
  have next : ∀ m2, QA m1 m2 (vmC (m 64 (24 * v + j))) → ev (ck (j + 1) (some (Sum.inl (j + 1, m2)))) (lp (fun s : Int × YS => (0 ≤ s.1 ∧ s.1 ≤ m 65 v) ∧ QA m s.2 (vmp (sg (m 64) (24 * v) s.1.toNat))) (fun s => m 65 v - s.1) (j, m1) (fun m' => QA m m' (vmp (vaL m v)))) := fun m2 qa => by
    refine ev_ck (by omega) (ev_inl ⟨⟨by show 0 ≤ j + 1 ∧ j + 1 ≤ m 65 v; omega, ?_⟩, by show m 65 v - (j + 1) < m 65 v - j; omega, by show 0 ≤ m 65 v - j; omega⟩)
    show QA m m2 (vmp (sg (m 64) (24 * v) (j + 1).toNat))
    rw [hs, vmp_app]
    have : vmp [m 64 (24 * v + j)] = vmC (m 64 (24 * v + j)) := by show vmC _ ++ [] = _; rw [List.append_nil]
    rw [this]
    exact g2.trans qa
  refine ev_ck (by omega) (ev_ck (by omega) (ev_ix (by omega) (ev_bz ys_segment (fun hp => ?_) (fun hp => ?_))))
  · rw [if_neg (by decide)]
    obtain ⟨m2, ea, qa⟩ := y_ask (m := m1) (c := m 64 (24 * v + j)) ⟨by omega, by omega⟩ (by unfold isTx at htx; omega)
    rw [ea]
    simp only [Option.bind_some]
    refine next m2 ?_
    unfold vmC
    rw [if_neg (by unfold isSg at hp; omega), if_pos hp]; exact qa
  · rw [if_pos rfl]
    refine ev_if (fun y => ?_) (fun y => next m1 ?_)
    · obtain ⟨m2, ea, qa⟩ := y_ask (m := m1) (c := 43) ⟨by omega, by omega⟩ (by decide)
      rw [ea]
      simp only [Option.bind_some]
      refine next m2 ?_
      unfold vmC
      rw [if_pos y]; exact qa
    · unfold vmC
      rw [if_neg y, if_neg hp]; exact QA.nil m1
/-- the class's, into its scratch -/
theorem c_sent20 (hB : BI A B n) (hv : 0 ≤ v ∧ v < 120) : ev (NL_Acts_addSent_20 v 0 n) (fun n' => AP A B 610 n n' (vmp (bt n (5 * v)))) := by
  have hb0 := hB.1 (5 * v) (by omega) (by omega)
  have hlen := bt_len (b := 5 * v) (by omega) hB
  unfold NL_Acts_addSent_20
  refine ev_it (fun s : Int × NS => (0 ≤ s.1 ∧ s.1 ≤ n 4 (5 * v) 2) ∧ AP A B 610 n s.2 (vmp (sg (n 99 (n 4 (5 * v) 1)) 0 s.1.toNat))) (fun s => n 4 (5 * v) 2 - s.1) (fun s hs => ?_) ⟨by show (0 : Int) ≤ 0 ∧ (0 : Int) ≤ n 4 (5 * v) 2; omega, AP.nil (by decide) hB⟩
  obtain ⟨j, n1⟩ := s
  obtain ⟨g1, g2⟩ := hs
  simp only at g1 g2
  show ev (nb_Acts_addSent_20 v j n1) _
  unfold nb_Acts_addSent_20
  obtain ⟨q1, q2, q3⟩ := g2.2.1.bts hB (b := 5 * v) (by omega) (by omega) (fun x hx => by omega)
  have hb1 := g2.1.1 (5 * v) (by omega) (by omega)
  unfold B1 at hb1
  rw [q1] at hb1 ⊢
  rw [q2]
  refine ev_if (fun hlt => ?_) (fun hge => ev_inr (by unfold bt; rw [show n 4 (5 * v) 2 = j by omega]; exact g2))
  generalize hc : n 99 (n 4 (5 * v) 1) j = c
  have hs : sg (n 99 (n 4 (5 * v) 1)) 0 (j + 1).toNat = sg (n 99 (n 4 (5 * v) 1)) 0 j.toNat ++ [c] := by
    rw [show (j + 1).toNat = j.toNat + 1 by omega, sg_app, show sg (n 99 (n 4 (5 * v) 1)) (0 + ((j.toNat : Nat) : Int)) 1 = [c] from sg_1.mpr ⟨rfl, by rw [show (0 : Int) + ((j.toNat : Nat) : Int) = j by omega]; exact hc⟩]
  have next : ∀ n2, AP A B 610 n1 n2 (vmC c) → ev (ck (j + 1) (some (Sum.inl (j + 1, n2)))) (lp (fun s : Int × NS => (0 ≤ s.1 ∧ s.1 ≤ n 4 (5 * v) 2) ∧ AP A B 610 n s.2 (vmp (sg (n 99 (n 4 (5 * v) 1)) 0 s.1.toNat))) (fun s => n 4 (5 * v) 2 - s.1) (j, n1) (fun n' => AP A B 610 n n' (vmp (bt n (5 * v))))) := fun n2 qa => by
    refine ev_ck (by have := hb0.2.2.2.1; have := lim_b (5 * v); omega) (ev_inl ⟨⟨by show 0 ≤ j + 1 ∧ j + 1 ≤ n 4 (5 * v) 2; omega, ?_⟩, by show n 4 (5 * v) 2 - (j + 1) < n 4 (5 * v) 2 - j; omega, by show 0 ≤ n 4 (5 * v) 2 - j; omega⟩)
    show AP A B 610 n n2 (vmp (sg (n 99 (n 4 (5 * v) 1)) 0 (j + 1).toNat))
    rw [hs, vmp_app]
    have : vmp [c] = vmC c := by show vmC _ ++ [] = _; rw [List.append_nil]
    rw [this]
    exact g2.trans qa
  refine ev_nn hb0.2.1.1 (ev_dx ⟨hb1.2.2.1, g1.1, by have := hb1.2.2.2.1.2.2; omega⟩ (ev_if (fun y => ?_) (fun y => ev_bz cs_segment (fun hp => ?_) (fun hp => ?_))))
  · refine ev_bind (cs_add (b := 610) (c := 43) (by decide) g2.1) (fun n2 h2 => next n2 ?_)
    unfold vmC
    rw [if_pos y]; exact h2
  · rw [if_neg (by decide)]
    refine ev_bind (cs_add (b := 610) (c := c) (by decide) g2.1) (fun n2 h2 => next n2 ?_)
    unfold vmC
    rw [if_neg y, if_pos hp]
    have hbm : Int.bmod c 256 = c := by rw [Int.bmod_def]; unfold isSg at hp; omega
    rw [hbm] at h2; exact h2
  · rw [if_pos rfl]
    refine next n1 ?_
    unfold vmC
    rw [if_neg y, if_neg hp]; exact AP.nil (by decide) g2.1
end P0
