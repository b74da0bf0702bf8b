/-! THE REFERENCE reads parts of a path -/
theorem psh_b (st : List (List Int)) (s : List Int) : (psh st s).length ≤ st.length + 1 ∧ (psh st s).flatten.length ≤ st.flatten.length + s.length := by
  by_cases h1 : s = [46]
  · rw [psh_1 h1]; omega
  · by_cases h2 : s = [46, 46]
    · rw [psh_2 h1 h2]
      by_cases hz : st = []
      · rw [hz]; exact ⟨Nat.zero_le _, Nat.zero_le _⟩
      · have es : st = st.dropLast ++ [st.getLast hz] := (List.dropLast_concat_getLast hz).symm
        have e5 : st.flatten = st.dropLast.flatten ++ st.getLast hz := by
          have := flat_snoc (st := st.dropLast) (st.getLast hz)
          rw [← es] at this; exact this
        rw [List.length_dropLast, e5, List.length_append]; omega
    · rw [psh_3 h1 h2, flat_snoc, List.length_append, List.length_append]
      show st.length + 1 ≤ _ ∧ _
      omega
def rndA (g : Int → Int) (i to : Int) : Int := sc (fun j => isSg (g j) ∨ g j = 47) i to
section F0
variable {m m' : YS} {f : Nat} {i to : Int} {st : List (List Int)}
abbrev sgF : List Nat := [9, 10, 11, 12, 14, 15]
theorem y_oneSeg (hf : f ≠ 9 ∧ f ≠ 10 ∧ f ≠ 11 ∧ f ≠ 12 ∧ f ≠ 14) (h : STK m st) (hr : 0 ≤ m 15 0 ∧ m 15 0 ≤ to ∧ to ≤ yLn f ∧ to ≤ 100000 ∧ to - m 15 0 ≤ 2000) (hb1 : st.length < 2099) (hb2 : st.flatten.length + 12 ≤ 2200) : ev (N_Y_oneSegment f to m) (fun x => (x.1 = 0 ∧ x.2 = m ∧ 12 < sc (fun j => isSg (m f j)) (m 15 0) to - m 15 0) ∨ (x.1 = 1 ∧ sc (fun j => isSg (m f j)) (m 15 0) to - m 15 0 ≤ 12 ∧ FY sgF m x.2 ∧ STK x.2 (psh st (sg (m f) (m 15 0) (sc (fun j => isSg (m f j)) (m 15 0) to - m 15 0).toNat)) ∧ x.2 14 0 = (if wnt (sg (m f) (m 15 0) (sc (fun j => isSg (m f j)) (m 15 0) to - m 15 0).toNat) then 1 else 0) ∧ x.2 15 0 = sc (fun j => isSg (m f j)) (m 15 0) to)) := by
  unfold N_Y_oneSegment
  have e : NL_Y_oneSegment_5 f to (m 15 0) m = some (sc (fun j => isSg (m f j)) (m 15 0) to) := by
    unfold NL_Y_oneSegment_5
    refine ev_scan (fun x x1 x2 => ?_)
    unfold nb_Y_oneSegment_5
    refine ev_if (fun hl => ev_ix (by omega) (ev_bz ys_segment (fun hp => ?_) (fun hp => ?_))) (fun hl => ev_ok (.inr ⟨rfl, fun z => hl z.1⟩))
    · rw [if_neg (by decide)]; exact ev_ck (by omega) (ev_ok (.inl ⟨rfl, hl, hp⟩))
    · rw [if_pos rfl]; exact ev_ok (.inr ⟨rfl, fun z => hp z.2⟩)
  rw [e]
  simp only [Option.bind_some]
  have y1 := scx_ge (p := fun j => isSg (m f j)) (m 15 0) to
  have y2 := scx_le (p := fun j => isSg (m f j)) hr.2.1
  generalize sc (fun j => isSg (m f j)) (m 15 0) to = k at *
  unfold nk_Y_oneSegment_25
  refine ev_ck (by omega) (ev_if (fun hz => ev_ok (.inl ⟨rfl, rfl, hz⟩)) (fun hz => ev_ck (by omega) (ev_bind (y_segment hf h hr.1 ⟨by omega, by omega⟩ (by omega) (by omega) hb1 (by omega)) (fun m1 h1 => ev_st (ev_ok (.inr ⟨rfl, by omega, fun g hg => ?_, ?_, ?_, ?_⟩))))))
  · simp only [List.mem_cons, List.not_mem_nil, or_false, not_or] at hg
    show yw m1 15 0 k g = m g
    rw [yw_nF hg.2.2.2.2.2, h1.1 g (by simp only [List.mem_cons, List.not_mem_nil, or_false, not_or]; exact ⟨hg.1, hg.2.1, hg.2.2.1, hg.2.2.2.1, hg.2.2.2.2.1⟩)]
  · show STK (yw m1 15 0 k) _
    exact h1.2.1.cg (yw_nF (by decide)) (yw_nF (by decide)) (yw_nF (by decide)) (yw_nF (by decide))
  · show yw m1 15 0 k 14 0 = _
    rw [yw_nF (by decide)]; exact h1.2.2
  · show yw m1 15 0 k 15 0 = k
    exact yw_eq
/-- a part, and where it ends -/
theorem spl_one {g : Int → Int} {r to : Int} (h : r ≤ to) : (sc (fun j => isSg (g j)) r to = rndA g r to ∨ g (sc (fun j => isSg (g j)) r to) = 47) ∧ sc (fun j => isSg (g j)) r to ≤ rndA g r to ∧ rndA g (sc (fun j => isSg (g j)) r to) to = rndA g r to ∧ spl g r (rndA g r to - r).toNat = sg g r (sc (fun j => isSg (g j)) r to - r).toNat :: (spl g (sc (fun j => isSg (g j)) r to) (rndA g r to - sc (fun j => isSg (g j)) r to).toNat).tail := by
  have a1 := scx_ge (p := fun j => isSg (g j)) r to
  have a2 := scx_le (p := fun j => isSg (g j)) h
  have a3 : ∀ j, r ≤ j → j < sc (fun j => isSg (g j)) r to → isSg (g j) := fun j x y => scx_in (p := fun j => isSg (g j)) x y
  have a4 : sc (fun j => isSg (g j)) r to < to → ¬ isSg (g (sc (fun j => isSg (g j)) r to)) := fun z => scx_at (p := fun j => isSg (g j)) z
  have b1 : r ≤ rndA g r to := scx_ge (p := fun j => isSg (g j) ∨ g j = 47) r to
  have b2 : rndA g r to ≤ to := scx_le (p := fun j => isSg (g j) ∨ g j = 47) h
  have b3 : ∀ j, r ≤ j → j < rndA g r to → isSg (g j) ∨ g j = 47 := fun j x y => scx_in (p := fun j => isSg (g j) ∨ g j = 47) x y
  have b4 : rndA g r to < to → ¬ (isSg (g (rndA g r to)) ∨ g (rndA g r to) = 47) := fun z => scx_at (p := fun j => isSg (g j) ∨ g j = 47) z
  generalize sc (fun j => isSg (g j)) r to = k at *
  have hle : k ≤ rndA g r to := by
    by_cases z : k ≤ rndA g r to
    · exact z
    · exact absurd (.inl (a3 _ b1 (by omega))) (b4 (by omega))
  have hor : k = rndA g r to ∨ g k = 47 := by
    by_cases z : k = rndA g r to
    · exact .inl z
    · rcases b3 k a1 (by omega) with y | y
      · exact absurd y (a4 (by omega))
      · exact .inr y
  have hre : rndA g k to = rndA g r to := (scx_eq (p := fun j => isSg (g j) ∨ g j = 47) (i := k) (to := to) (r := rndA g r to) ⟨hle, .inl b2, fun j x y => b3 j (by omega) y, b4⟩).symm
  refine ⟨hor, hle, hre, ?_⟩
  have e := spl_seg (g := g) (k - r).toNat r (rndA g r to - r).toNat (by omega) (fun x hx z => by
    have := a3 (r + x) (by omega) (by omega)
    omega)
  rw [show r + (((k - r).toNat : Nat) : Int) = k by omega, show (rndA g r to - r).toNat - (k - r).toNat = (rndA g r to - k).toNat by omega] at e
  rw [e]
  have hh : (spl g k (rndA g r to - k).toNat).headD [] = [] := by
    rcases hor with z | z
    · rw [show (rndA g r to - k).toNat = 0 by omega]; rfl
    · by_cases y : k = rndA g r to
      · rw [show (rndA g r to - k).toNat = 0 by omega]; rfl
      · rw [show (rndA g r to - k).toNat = (rndA g r to - k - 1).toNat + 1 by omega, spl_sl z]; rfl
  rw [hh, List.append_nil]
def SGQ (m : YS) (f : Nat) (to : Int) (st tl : List (List Int)) (rend : Int) (x : Int × YS) : Prop := FY sgF m x.2 ∧ ((x.1 = 0 ∧ ∃ s ∈ tl, 12 < s.length) ∨ (x.1 = 1 ∧ (∀ s ∈ tl, s.length ≤ 12) ∧ STK x.2 (tl.foldl psh st) ∧ x.2 15 0 = rend ∧ (tl = [] → x.2 14 0 = m 14 0) ∧ (tl ≠ [] → x.2 14 0 = if wnt (tl.getLastD []) then 1 else 0)))
theorem y_segs (hf : f ≠ 9 ∧ f ≠ 10 ∧ f ≠ 11 ∧ f ≠ 12 ∧ f ≠ 14 ∧ f ≠ 15) (h : STK m st) (hi : m 15 0 = i) (hr : 0 ≤ i ∧ i ≤ to ∧ to ≤ yLn f ∧ to ≤ 100000 ∧ to - i ≤ 2000) (h0 : i = rndA (m f) i to ∨ m f i = 47) (hb1 : st.length ≤ 7) (hb2 : st.flatten.length ≤ 100) : ev (N_Y_segments f to m) (SGQ m f to st (spl (m f) i (rndA (m f) i to - i).toNat).tail (rndA (m f) i to)) := by
  unfold N_Y_segments
  generalize hg : m f = g at *
  have b1 : i ≤ rndA g i to := scx_ge (p := fun j => isSg (g j) ∨ g j = 47) i to
  have b2 : rndA g i to ≤ to := scx_le (p := fun j => isSg (g j) ∨ g j = 47) hr.2.1
  have b4 : rndA g i to < to → ¬ (isSg (g (rndA g i to)) ∨ g (rndA g i to) = 47) := fun z => scx_at (p := fun j => isSg (g j) ∨ g j = 47) z
  generalize hre : rndA g i to = re at *
  generalize htl : (spl g i (re - i).toNat).tail = tl
  refine ev_bs (P := fun m1 => SGQ m f to st tl re (0, m1)) (R := fun m1 => SGQ m f to st tl re (1, m1)) ?_ (fun m1 h1 => ev_ok h1) (fun m1 h1 => ev_ok h1)
  unfold NL_Y_segments_0
  refine ev_it (fun m1 : YS => ∃ dn, FY sgF m m1 ∧ i ≤ m1 15 0 ∧ m1 15 0 ≤ re ∧ rndA g (m1 15 0) to = re ∧ (m1 15 0 = re ∨ g (m1 15 0) = 47) ∧ tl = dn ++ (spl g (m1 15 0) (re - m1 15 0).toNat).tail ∧ (∀ s ∈ dn, s.length ≤ 12) ∧ STK m1 (dn.foldl psh st) ∧ (dn.foldl psh st).length ≤ 7 + (m1 15 0 - i) ∧ (dn.foldl psh st).flatten.length ≤ 100 + (m1 15 0 - i) ∧ (dn = [] → m1 14 0 = m 14 0) ∧ (dn ≠ [] → m1 14 0 = if wnt (dn.getLastD []) then 1 else 0)) (fun m1 => to - m1 15 0) (fun m1 hm1 => ?_) ⟨[], FY.refl _ _, by omega, by omega, by rw [hi]; exact hre, by rw [hi]; exact h0, by rw [hi]; exact htl.symm, fun s hs => (by cases hs), h, by show (st.length : Int) ≤ _; omega, by show (st.flatten.length : Int) ≤ _; omega, fun _ => rfl, fun z => absurd rfl z⟩
  obtain ⟨dn, g1, g2, g3, g4, g5, g6, g7, g8, g9, g10, g11, g12⟩ := hm1
  have hfF : m1 f = g := by rw [g1 f (by simp only [List.mem_cons, List.not_mem_nil, or_false, not_or]; exact ⟨hf.1, hf.2.1, hf.2.2.1, hf.2.2.2.1, hf.2.2.2.2.1, hf.2.2.2.2.2⟩)]; exact hg
  unfold nb_Y_segments_0
  rw [hfF]
  have fin : m1 15 0 = re → SGQ m f to st tl re (1, m1) := fun z => by
    have e : tl = dn := by rw [g6, z, show (re - re).toNat = 0 by omega]; show dn ++ [] = dn; rw [List.append_nil]
    rw [e]
    exact ⟨g1, .inr ⟨rfl, g7, g8, z, g11, g12⟩⟩
  refine ev_if (fun hlt => ev_ix (by omega) (ev_if (fun h47 => ?_) (fun h47 => ev_inr (fin ?_)))) (fun hge => ev_inr (fin (by omega)))
  · have hlt2 : m1 15 0 < re := by
      by_cases z : m1 15 0 < re
      · exact z
      · exact absurd (.inr (by rw [show re = m1 15 0 by omega]; exact h47)) (b4 (by omega))
    refine ev_ck (by omega) (ev_st ?_)
    generalize hm2 : yw m1 15 0 (m1 15 0 + 1) = m2
    have e15 : m2 15 0 = m1 15 0 + 1 := by rw [← hm2, yw_eq]
    have hF2 : FY [15] m1 m2 := fun x hx => by rw [← hm2]; exact yw_nF (fun z => hx (by simp [z]))
    have e2f : m2 f = g := by rw [hF2 f (by simp [hf.2.2.2.2.2]), hfF]
    have h8 : STK m2 (dn.foldl psh st) := g8.cg (hF2 9 (by decide)) (hF2 10 (by decide)) (hF2 11 (by decide)) (hF2 12 (by decide))
    have ho := y_oneSeg (f := f) (to := to) ⟨hf.1, hf.2.1, hf.2.2.1, hf.2.2.2.1, hf.2.2.2.2.1⟩ h8 (by rw [e15]; omega) (by omega) (by omega)
    rw [e15, e2f] at ho
    have hone := spl_one (g := g) (r := m1 15 0 + 1) (to := to) (by omega)
    have hrnd : rndA g (m1 15 0 + 1) to = re := by
      have := scx_scn (p := fun j => isSg (g j) ∨ g j = 47) (m1 15 0) to
      have this : scn (fun j => isSg (g j) ∨ g j = 47) (m1 15 0) to re := by rw [← g4]; exact this
      exact (scx_eq (p := fun j => isSg (g j) ∨ g j = 47) (i := m1 15 0 + 1) (to := to) (r := re) ⟨by omega, .inl (by omega), fun j x y => this.2.2.1 j (by omega) y, this.2.2.2⟩).symm
    rw [hrnd] at hone
    have c1 := scx_ge (p := fun j => isSg (g j)) (m1 15 0 + 1) to
    generalize sc (fun j => isSg (g j)) (m1 15 0 + 1) to = k at *
    obtain ⟨o1, o2, o3, o4⟩ := hone
    have htail : tl = dn ++ (sg g (m1 15 0 + 1) (k - (m1 15 0 + 1)).toNat :: (spl g k (re - k).toNat).tail) := by
      rw [g6]
      congr 1
      rw [show (re - m1 15 0).toNat = (re - (m1 15 0 + 1)).toNat + 1 by omega, spl_sl h47, o4]; rfl
    refine ev_b2 ho (fun z m3 hz => ?_)
    rcases hz with ⟨z0, z1, z2⟩ | ⟨z0, z1, z2, z3, z4, z5⟩
    · simp only at z0 z1
      rw [if_pos z0]
      refine ev_inr (show SGQ m f to st tl re (0, m3) from ⟨fun x hx => ?_, .inl ⟨rfl, sg g (m1 15 0 + 1) (k - (m1 15 0 + 1)).toNat, by rw [htail]; simp, by rw [sg_len]; omega⟩⟩)
      show m3 x = m x
      rw [z1, hF2 x (fun y => hx (by simp at y; simp [y])), g1 x hx]
    · simp only at z0 z2 z3 z4 z5
      rw [if_neg (by omega)]
      have hp := psh_b (dn.foldl psh st) (sg g (m1 15 0 + 1) (k - (m1 15 0 + 1)).toNat)
      rw [sg_len] at hp
      have hfold : (dn ++ [sg g (m1 15 0 + 1) (k - (m1 15 0 + 1)).toNat]).foldl psh st = psh (dn.foldl psh st) (sg g (m1 15 0 + 1) (k - (m1 15 0 + 1)).toNat) := by rw [List.foldl_append]; rfl
      refine ev_inl ⟨⟨dn ++ [sg g (m1 15 0 + 1) (k - (m1 15 0 + 1)).toNat], fun x hx => ?_, by rw [z5]; omega, by rw [z5]; exact o2, by rw [z5]; exact o3, by rw [z5]; exact o1, ?_, fun s hs => ?_, by rw [hfold]; exact z3, by rw [hfold, z5]; omega, by rw [hfold, z5]; omega, fun y => (by simp at y), fun _ => ?_⟩, by rw [z5]; omega, by omega⟩
      · rw [z2 x hx, hF2 x (fun y => hx (by simp at y; simp [y])), g1 x hx]
      · rw [z5, htail, List.append_assoc]; rfl
      · rcases List.mem_append.mp hs with y | y
        · exact g7 s y
        · rw [List.mem_singleton.mp y, sg_len]; omega
      · rw [getLastD_app]; exact z4
  · rcases g5 with z | z
    · exact z
    · exact absurd z h47
end F0
