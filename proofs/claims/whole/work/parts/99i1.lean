/-! A NEW ELEMENT: the reference -/
/-- a new element has been filled -/
def YMd (f t pl : Int) (m m' : YS) : Prop :=
  FY [46, 47, 48, 56, 57, 58, 59, 60, 64, 65, 66, 67] m m'
  ∧ (m' 46 f = t ∧ m' 48 f = m 79 0 ∧ m' 56 f = m 80 0 ∧ m' 67 f = pl)
  ∧ (∀ u, u ≠ f → YG m m' u) ∧ (∀ u, u ≠ f → m' 67 u = m 67 u)
  ∧ nmL m' f = sg (m 78) 0 (m 79 0).toNat
  ∧ (t = 13 → (0 ≤ m' 65 f ∧ m' 65 f ≤ 24) ∧ vaL m' f = (if fnd m' f wVal < m' 56 f then (avL m' f (fnd m' f wVal)).take 24 else []) ∧ bz (chkL m' f ∧ fnd m' f wChkd < m' 56 f) (m' 66 f))
  ∧ (∀ a, 0 ≤ a → a < m 80 0 → m' 58 (4 * f + a) = m 82 a ∧ m' 60 (4 * f + a) = m 84 a)
/-- what has been read of the tag, beside the class's node -/
def TDf (n : NS) (m : YS) (f : Int) : Prop := (n 7 f 12 = m 80 0 ∧ 0 ≤ m 80 0 ∧ m 80 0 ≤ 4) ∧ ∀ a, 0 ≤ a → a < m 80 0 → (1 ≤ m 82 a ∧ m 82 a ≤ 8) ∧ (∀ c ∈ rnL m a, isBt c) ∧ n 18 f a = pk (rnL m a) ∧ (0 ≤ m 84 a ∧ m 84 a ≤ 60) ∧ (∀ c ∈ rvL m a, isTx c) ∧ bt n (5 * f + 1 + a) = rvL m a
section I1
variable {n n' : NS} {m m' m1 m2 : YS} {A B f t pl oc : Int}
theorem TDf.ats (h : TDf n m f) (hk : YTk f (m 80 0) m2 m') (h56 : m' 56 f = m 80 0) (hy : ∀ g, 80 ≤ g → g ≤ 84 → m2 g = m g) : ATs n m' f := by
  refine ⟨⟨by rw [h56]; exact h.1.1, by rw [h56]; exact h.1.2⟩, fun a a0 a1 => ?_⟩
  rw [h56] at a1
  obtain ⟨c1, c2, c3, c4, c5, c6⟩ := h.2 a a0 a1
  obtain ⟨⟨d1, d2⟩, d3, d4⟩ := hk.2.1 a a0 a1
  rw [hy 82 (by decide) (by decide)] at d1
  rw [hy 84 (by decide) (by decide)] at d2
  rw [hy 81 (by decide) (by decide)] at d3
  rw [hy 83 (by decide) (by decide)] at d4
  have e1 : anL m' f a = rnL m a := by
    unfold anL rnL
    rw [d1]
    exact sg_cg _ _ _ (fun x hx => d3 x (by omega) (by omega))
  have e2 : avL m' f a = rvL m a := by
    unfold avL rvL
    rw [d2]
    exact sg_cg _ _ _ (fun x hx => d4 x (by omega) (by omega))
  unfold NA
  rw [e1, e2, d1, d2]
  exact ⟨c1, c2, c3, c4, c5, c6⟩
theorem fnd_y {w : List Int} (hy : ∀ g, 56 ≤ g → g ≤ 60 → m' g = m g) : fnd m' f w = fnd m f w := by
  unfold fnd anL; rw [hy 56 (by decide) (by decide), hy 57 (by decide) (by decide), hy 58 (by decide) (by decide)]
theorem avL_y {a : Int} (hy : ∀ g, 56 ≤ g → g ≤ 60 → m' g = m g) : avL m' f a = avL m f a := by
  unfold avL; rw [hy 59 (by decide) (by decide), hy 60 (by decide) (by decide)]
theorem chkL_y (hy : ∀ g, 56 ≤ g → g ≤ 60 → m' g = m g) : chkL m' f = chkL m f := by
  unfold chkL; rw [fnd_y hy, avL_y hy, hy 56 (by decide) (by decide)]
theorem y_elem (h74 : m 74 0 = oc ∧ 1 ≤ oc ∧ oc ≤ 21) (hfr : N_Y_fresh (m 73 (oc - 1)) m = some (f, m1)) (hf : 0 ≤ f ∧ f < 120) (h79 : 0 ≤ m1 79 0 ∧ m1 79 0 ≤ 8) (hD : TDf n m1 f) (h74' : m1 74 = m 74) : ev (nk_Y_startTag_189 pl t m) (fun m' => ∃ m6, YMd f t pl m1 m6 ∧ ATs n m6 f ∧ m' = if 10 ≤ t ∧ t ≤ 13 then m6 else yw (yw m6 73 oc f) 74 0 (oc + 1)) := by
  unfold nk_Y_startTag_189
  rw [h74.1]
  refine ev_ck (by omega) (ev_ix (by omega) ?_)
  rw [hfr]
  show ev (if f = -1 then _ else _) _
  rw [if_neg (by omega)]
  refine ev_bind (y_element hf h79) (fun m2 h2 => ev_ix hf (ev_st (ev_ix hf (ev_st ?_))))
  obtain ⟨a1, a2, a3, a4, a5⟩ := h2
  generalize h3 : yw m2 67 f pl = m3
  have q3 : FY [67] m2 m3 := fun g hg => by rw [← h3]; exact yw_nF (by simp only [List.mem_cons, List.not_mem_nil, or_false] at hg; exact hg)
  generalize h4 : yw m3 56 f (m3 80 0) = m4
  have q4 : FY [56] m3 m4 := fun g hg => by rw [← h4]; exact yw_nF (by simp only [List.mem_cons, List.not_mem_nil, or_false] at hg; exact hg)
  have e80 : ∀ g, 74 ≤ g → g ≤ 88 → m4 g = m1 g := fun g x y => by
    rw [q4 g (by simp only [List.mem_cons, List.not_mem_nil, or_false]; omega), q3 g (by simp only [List.mem_cons, List.not_mem_nil, or_false]; omega), a1 g (by simp only [List.mem_cons, List.not_mem_nil, or_false]; omega)]
  have hc := hD.1.2
  refine ev_bind (y_takes hf (by rw [e80 80 (by decide) (by decide)]; exact hc)) (fun m5 h5 => ?_)
  rw [e80 80 (by decide) (by decide)] at h5
  have e56 : m5 56 f = m1 80 0 := by
    rw [h5.1 56 (by decide), ← h4, yw_eq, q3 80 (by decide), a1 80 (by decide)]
  have hA := hD.ats h5 e56 (fun g x y => e80 g (by omega) (by omega))
  have e46 : m5 46 f = t := by rw [h5.1 46 (by decide), q4 46 (by decide), q3 46 (by decide)]; exact a2.1
  obtain ⟨t1, t2, t3, t4, t5⟩ := h5
  -- all but the input's value
  have fy5 : FY [46, 47, 48, 56, 57, 58, 59, 60, 67] m1 m5 := fun g hg => by
    simp only [List.mem_cons, List.not_mem_nil, or_false, not_or] at hg
    rw [t1 g (by simp only [List.mem_cons, List.not_mem_nil, or_false]; omega), q4 g (by simp only [List.mem_cons, List.not_mem_nil, or_false]; omega), q3 g (by simp only [List.mem_cons, List.not_mem_nil, or_false]; omega), a1 g (by simp only [List.mem_cons, List.not_mem_nil, or_false]; omega)]
  have yg5 : ∀ u, u ≠ f → YG m1 m5 u := fun u hu => by
    have b := a3 u hu
    refine ⟨⟨?_, ?_, ?_, by rw [fy5 62 (by decide)], by rw [fy5 65 (by decide)], by rw [fy5 66 (by decide)]⟩, fun j x y => ?_, fun j x y => ?_, fun j x y => ?_, fun j x y => ?_, fun j _ _ => by rw [fy5 61 (by decide)], fun j _ _ => by rw [fy5 64 (by decide)]⟩
    · rw [t1 46 (by decide), q4 46 (by decide), q3 46 (by decide)]; exact b.1
    · rw [t1 48 (by decide), q4 48 (by decide), q3 48 (by decide)]; exact b.2
    · rw [t1 56 (by decide), ← h4, yw_ni hu, q3 56 (by decide), a1 56 (by decide)]
    · rw [t1 47 (by decide), q4 47 (by decide), q3 47 (by decide)]; exact a5 j (by omega)
    · have := t3 j (by omega)
      rw [this.1, this.2, q4 58 (by decide), q3 58 (by decide), a1 58 (by decide), q4 60 (by decide), q3 60 (by decide), a1 60 (by decide)]; exact ⟨rfl, rfl⟩
    · rw [t4 j (by omega), q4 57 (by decide), q3 57 (by decide), a1 57 (by decide)]
    · rw [t5 j (by omega), q4 59 (by decide), q3 59 (by decide), a1 59 (by decide)]
  have e48 : m5 48 f = m1 79 0 := by rw [t1 48 (by decide), q4 48 (by decide), q3 48 (by decide)]; exact a2.2
  have enm : nmL m5 f = sg (m1 78) 0 (m1 79 0).toNat := by
    rw [← a4]; unfold nmL
    rw [t1 47 (by decide), q4 47 (by decide), q3 47 (by decide), t1 48 (by decide), q4 48 (by decide), q3 48 (by decide)]
  have e67 : m5 67 f = pl := by rw [t1 67 (by decide), q4 67 (by decide), ← h3, yw_eq]
  have e67' : ∀ u, u ≠ f → m5 67 u = m1 67 u := fun u hu => by rw [t1 67 (by decide), q4 67 (by decide), ← h3, yw_ni hu, a1 67 (by decide)]
  have e58 : ∀ a, 0 ≤ a → a < m1 80 0 → m5 58 (4 * f + a) = m1 82 a ∧ m5 60 (4 * f + a) = m1 84 a := fun a a0 a1 => by
    have := (t2 a a0 a1).1
    rw [e80 82 (by decide) (by decide), e80 84 (by decide) (by decide)] at this; exact this
  refine ev_bind (P := fun m6 => YMd f t pl m1 m6 ∧ ATs n m6 f) ?_ (fun m6 h6 => ?_)
  · by_cases h13 : t = 13
    · obtain ⟨m6, ez, z1, z2, z3, z4, z5, z6⟩ := y_settle hA hf (by rw [e46]; exact h13)
      have hy6 : ∀ g, 56 ≤ g → g ≤ 60 → m6 g = m5 g := fun g x y => z1 g (by simp only [List.mem_cons, List.not_mem_nil, or_false]; omega)
      rw [ez]
      refine ev_ok ⟨⟨fun g hg => ?_, ⟨?_, ?_, ?_, ?_⟩, fun u hu => (yg5 u hu).trans ?_, fun u hu => ?_, ?_, fun _ => ⟨z4, ?_, ?_⟩, by rw [z1 58 (by decide), z1 60 (by decide)]; exact e58⟩, hA.y hy6⟩
      · simp only [List.mem_cons, List.not_mem_nil, or_false, not_or] at hg
        rw [z1 g (by simp only [List.mem_cons, List.not_mem_nil, or_false]; omega), fy5 g (by simp only [List.mem_cons, List.not_mem_nil, or_false]; omega)]
      · rw [z1 46 (by decide)]; exact e46
      · rw [z1 48 (by decide)]; exact e48
      · rw [z1 56 (by decide)]; exact e56
      · rw [z1 67 (by decide)]; exact e67
      · have b := z2 u hu
        exact ⟨⟨by rw [z1 46 (by decide)], by rw [z1 48 (by decide)], by rw [z1 56 (by decide)], by rw [z1 62 (by decide)], b.1, b.2⟩, fun j _ _ => by rw [z1 47 (by decide)], fun j _ _ => by rw [z1 58 (by decide), z1 60 (by decide)]; exact ⟨rfl, rfl⟩, fun j _ _ => by rw [z1 57 (by decide)], fun j _ _ => by rw [z1 59 (by decide)], fun j _ _ => by rw [z1 61 (by decide)], fun j x y => z3 j (by omega)⟩
      · rw [z1 67 (by decide)]; exact e67' u hu
      · rw [← enm]; unfold nmL; rw [z1 47 (by decide), z1 48 (by decide)]
      · rw [fnd_y hy6, avL_y hy6, hy6 56 (by decide) (by decide)]; exact z5
      · rw [fnd_y hy6, chkL_y hy6, hy6 56 (by decide) (by decide)]; exact z6
    · have : N_Y_settleInput f m5 = some m5 := by
        unfold N_Y_settleInput ix
        rw [if_pos hf, e46, if_neg h13]
      rw [this]
      exact ev_ok ⟨⟨fun g hg => fy5 g (fun z => hg (by revert z; simp only [List.mem_cons, List.not_mem_nil, or_false]; omega)), ⟨e46, e48, e56, e67⟩, yg5, e67', enm, fun z => absurd z h13, e58⟩, hA⟩
  · have e74 : m6 74 0 = oc := by rw [h6.1.1 74 (by decide), h74']; exact h74.1
    unfold N_Y_isEmptyTag
    by_cases y1 : t < 10
    · rw [if_pos y1]
      simp only [Option.bind_some]
      rw [if_pos trivial, e74]
      refine ev_ix (by omega) (ev_st ?_)
      rw [yw_nF (show (74 : Nat) ≠ 73 by decide), e74]
      exact ev_ck (by omega) (ev_ok ⟨m6, h6.1, h6.2, by rw [if_neg (by omega)]⟩)
    · rw [if_neg y1]
      by_cases y2 : 13 < t
      · rw [if_pos y2]
        simp only [Option.bind_some]
        rw [if_pos trivial, e74]
        refine ev_ix (by omega) (ev_st ?_)
        rw [yw_nF (show (74 : Nat) ≠ 73 by decide), e74]
        exact ev_ck (by omega) (ev_ok ⟨m6, h6.1, h6.2, by rw [if_neg (by omega)]⟩)
      · rw [if_neg y2]
        simp only [Option.bind_some]
        rw [if_neg (by decide)]
        exact ev_ok ⟨m6, h6.1, h6.2, by rw [if_pos (by omega)]⟩
end I1
