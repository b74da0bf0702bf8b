/-! THE REFERENCE reads an address: the end of it -/
theorem psh_mem {y : List Int} : ∀ (tl st : List (List Int)), y ∈ tl.foldl psh st → y ∈ st ∨ y ∈ tl := by
  intro tl
  induction tl with
  | nil => intro st h; exact .inl h
  | cons x tl ih =>
    intro st h
    rcases ih (psh st x) h with z | z
    · by_cases h1 : x = [46]
      · rw [psh_1 h1] at z; exact .inl z
      · by_cases h2 : x = [46, 46]
        · rw [psh_2 h1 h2] at z; exact .inl (List.dropLast_subset st z)
        · rw [psh_3 h1 h2] at z
          rcases List.mem_append.mp z with w | w
          · exact .inl w
          · exact .inr (by rw [List.mem_singleton.mp w]; exact List.mem_cons_self)
    · exact .inr (List.mem_cons_of_mem _ z)
theorem psh_foldb : ∀ (tl st : List (List Int)), (tl.foldl psh st).length ≤ st.length + tl.length ∧ (tl.foldl psh st).flatten.length ≤ st.flatten.length + tl.flatten.length := by
  intro tl
  induction tl with
  | nil => intro st; exact ⟨Nat.le_refl _, Nat.le_refl _⟩
  | cons x tl ih =>
    intro st
    have h1 := ih (psh st x)
    have h2 := psh_b st x
    show ((tl.foldl psh (psh st x)).length ≤ _ ∧ (tl.foldl psh (psh st x)).flatten.length ≤ st.flatten.length + (x ++ tl.flatten).length)
    rw [List.length_cons, List.length_append]; omega
theorem spl_flat {g : Int → Int} : ∀ (k : Nat) (i : Int), (spl g i k).flatten.length ≤ k := by
  intro k
  induction k with
  | zero => intro i; exact Nat.le_refl _
  | succ k ih =>
    intro i
    have h := ih (i + 1)
    obtain ⟨w, t, e⟩ := spl_ne g k (i + 1)
    by_cases hz : g i = 47
    · rw [spl_sl hz]
      show ([] ++ (spl g (i + 1) k).flatten).length ≤ _
      rw [List.nil_append]; omega
    · rw [spl_no hz e]
      rw [e] at h
      have h : (w ++ t.flatten).length ≤ k := h
      show ((g i :: w) ++ t.flatten).length ≤ _
      rw [List.length_append] at h ⊢
      rw [List.length_cons]; omega
theorem spl_in {g : Int → Int} : ∀ (k : Nat) (i : Int), ∀ x ∈ spl g i k, ∀ c ∈ x, c ≠ 47 ∧ ∃ j, i ≤ j ∧ j < i + k ∧ g j = c := by
  intro k
  induction k with
  | zero =>
    intro i x hx c hc
    have hx : x ∈ [[]] := hx
    rw [List.mem_singleton.mp hx] at hc; cases hc
  | succ k ih =>
    intro i x hx c hc
    obtain ⟨w, t, e⟩ := spl_ne g k (i + 1)
    have old : x ∈ spl g (i + 1) k → c ≠ 47 ∧ ∃ j, i ≤ j ∧ j < i + ((k + 1 : Nat) : Int) ∧ g j = c := fun h => by
      obtain ⟨z1, j, z2, z3, z4⟩ := ih (i + 1) x h c hc
      exact ⟨z1, j, by omega, by omega, z4⟩
    by_cases hz : g i = 47
    · rw [spl_sl hz] at hx
      rcases List.mem_cons.mp hx with z | z
      · rw [z] at hc; cases hc
      · exact old z
    · rw [spl_no hz e] at hx
      rcases List.mem_cons.mp hx with z | z
      · rw [z] at hc
        rcases List.mem_cons.mp hc with y | y
        · exact ⟨by rw [y]; exact hz, i, by omega, by omega, y.symm⟩
        · obtain ⟨z1, j, z2, z3, z4⟩ := ih (i + 1) w (by rw [e]; exact List.mem_cons_self) c y
          exact ⟨z1, j, by omega, by omega, z4⟩
      · exact old (by rw [e]; exact List.mem_cons_of_mem _ z)
section F3
variable {m m' : YS} {f : Nat} {i k to e pa r w : Int} {g : Int → Int} {st ss : List (List Int)} {q l nm bnm mk bq : List Int}
/-- the parts that stay in the end -/
def finS (w : Int) (st : List (List Int)) : List (List Int) := if w = 0 ∧ st ≠ [] then st else st ++ [[]]
def RFQ (m : YS) (nm : List Int) (fin : List (List Int)) (R : Option (List Int × List Int)) (x : Int × YS) : Prop := FR0 m x.2 ∧ ((x.1 = 0 ∧ (6 < fin.length ∨ R = none)) ∨ (x.1 = 1 ∧ fin.length ≤ 6 ∧ ∃ q mk, R = some (q, mk) ∧ RA x.2 0 nm fin q mk))
theorem y_fin (hf : f ≠ 6 ∧ f ≠ 7 ∧ f ≠ 8 ∧ f ≠ 9 ∧ f ≠ 10 ∧ f ≠ 11 ∧ f ≠ 12 ∧ f ≠ 14 ∧ f ≠ 15) (hg : m f = g) (hS : STK m st) (h14 : m 14 0 = w) (he : m 15 0 = k) (h8 : m 8 0 = 0) (hr : 0 ≤ k ∧ k ≤ to ∧ to ≤ yLn f ∧ to ≤ 100000) (hi : 0 ≤ i ∧ i ≤ to) (hnm : 1 ≤ nm.length ∧ nm.length ≤ 8) (hsz : m 7 0 = 2 + (nm.length : Int)) (hrow : sg (m 6) 0 ([47, 47] ++ nm).length = [47, 47] ++ nm) (hst : ∀ x ∈ st, x.length ≤ 12 ∧ ∀ c ∈ x, isSg c) (hb1 : st.length < 2099) (hb2 : st.flatten.length ≤ 2200) (hgb : ∀ j, k ≤ j → j < to → isTx (g j)) {bmk : List Int} (hb : (pa ≠ 0 ∧ bq = []) ∨ (pa = 0 ∧ 1 ≤ r ∧ r < 66 ∧ RA m r bnm ss bq bmk ∧ WFA bnm ss bq bmk)) : ev (nk_Y_refer_256 f i to r pa m) (RFQ m nm (finS w st) (RTl g k to bq)) := by
  have hN := hS.1
  -- from the row of parts on
  have core : ∀ (m1 : YS) (fin : List (List Int)), FY [9, 10, 11, 12, 14] m m1 → STK m1 fin → (∀ x ∈ fin, x.length ≤ 12 ∧ ∀ c ∈ x, isSg c) → fin.flatten.length ≤ 2200 → ev (nk_Y_refer_277 f to r pa m1) (RFQ m nm fin (RTl g k to bq)) := fun m1 fin hF hS1 hx hfl => by
    have fr1 : FR0 m m1 := hF.fr (fun x hx => by simp at hx; omega)
    unfold nk_Y_refer_277
    rw [hS1.1]
    refine ev_if (fun h6 => ev_ok ⟨fr1, .inl ⟨rfl, .inl (by omega)⟩⟩) (fun h6 => ?_)
    have z7 : m1 7 0 = 2 + (nm.length : Int) := by rw [hF 7 (by decide)]; exact hsz
    have hpl := pth_len fin (fun x hx' => (hx x hx').1)
    refine ev_bind (y_pathOut hS1 ⟨by omega, hx⟩ hfl (by omega)) (fun m2 h2 => ?_)
    have fr2 : FR0 m1 m2 := h2.fr (by omega)
    have z72 := h2.2.1
    have nf : ∀ x ∈ [9, 10, 11, 12, 14], x ≠ f := fun x hx z => by subst z; simp at hx; omega
    have hq := y_qry (m := m2) (f := f) (g := g) (k := k) (to := to) (pa := pa) (r := r) (nm := bnm) (ss := ss) (mk := bmk) (bq := bq) ⟨hf.1, hf.2.1, hf.2.2.1, hf.2.2.2.2.2.2.2.2⟩ (by rw [h2.1 f (by simp [hf.1, hf.2.1]), hF f (by simp [hf.2.2.2.1, hf.2.2.2.2.1, hf.2.2.2.2.2.1, hf.2.2.2.2.2.2.1, hf.2.2.2.2.2.2.2.1])]; exact hg) (by rw [h2.1 15 (by decide), hF 15 (by decide)]; exact he) (by rw [h2.1 8 (by decide), hF 8 (by decide)]; exact h8) hr (by omega) hgb (by
      rcases hb with z | ⟨z1, z2, z3, z4, z5⟩
      · exact .inl z
      · refine .inr ⟨z1, z2, z3, ?_, z5⟩
        have hl := z5.len
        have hlen := adL_len (nm := bnm) (ss := ss) (q := bq)
        have w1 := z5.1
        have w5 := z5.2.2.1
        have w6 := z5.2.2.2
        have e6 : ∀ j, 150 ≤ j → m2 6 j = m 6 j := fun j hj => (fr2.2.1 j hj).trans (fr1.2.1 j hj)
        refine ⟨?_, ?_, ?_, ?_⟩
        · rw [(fr2.2.2 r (by omega)).1, (fr1.2.2 r (by omega)).1]; exact z4.1
        · exact Eq.trans (sg_cg _ _ (150 * r) (fun x hx => e6 _ (by omega))) z4.2.1
        · rw [(fr2.2.2 r (by omega)).2, (fr1.2.2 r (by omega)).2]; exact z4.2.2.1
        · exact Eq.trans (sg_cg _ _ (150 * r + 135) (fun x hx => e6 _ (by omega))) z4.2.2.2)
    refine ev_b2 hq (fun x m3 hx3 => ev_ok ?_)
    obtain ⟨a1, a2⟩ := hx3
    refine ⟨(fr1.trans fr2).trans a1, ?_⟩
    rcases a2 with ⟨b1, b2⟩ | ⟨b1, q, mk, b2, b3, b4, b5, b6, b7, b8⟩
    · exact .inl ⟨b1, .inr b2⟩
    · refine .inr ⟨b1, by omega, q, mk, b2, ?_, ?_, b7, ?_⟩
      · show m3 7 0 = _
        have b5 : m3 7 0 = m2 7 0 + (q.length : Int) := b5
        rw [adL_len]; omega
      · show sg (m3 6) (150 * 0) (adL nm fin q).length = adL nm fin q
        have ea : adL nm fin q = (([47, 47] ++ nm) ++ pth fin) ++ q := by unfold adL; simp only [List.append_assoc]
        have l0 : ((([47, 47] ++ nm : List Int).length : Nat) : Int) = 2 + (nm.length : Int) := by rw [List.length_append]; show ((2 + nm.length : Nat) : Int) = _; omega
        rw [ea]
        have h2r : sg (m2 6) 0 (([47, 47] ++ nm) ++ pth fin).length = ([47, 47] ++ nm) ++ pth fin := by
          have h24 := h2.2.2.2.1
          rw [show 150 * 0 + m1 7 0 = m1 7 0 by omega] at h24
          refine sg_ext (t := m 6) (P := m1 7 0) (by omega) hrow (fun j j0 j1 => ?_) h24
          rw [h2.2.2.2.2 j (by omega), hF 6 (by decide)]
        refine sg_ext (t := m2 6) (P := m2 7 0) (by rw [List.length_append]; omega) h2r (fun j j0 j1 => b4 j j1) b6
      · show sg (m3 6) (150 * 0 + 135) mk.length = mk
        exact b8
  have push : ev (nk_Y_refer_270 f i to r pa m) (RFQ m nm (st ++ [[]]) (RTl g k to bq)) := by
    unfold nk_Y_refer_270
    refine ev_bind (y_segment (L := 0) ⟨hf.2.2.2.1, hf.2.2.2.2.1, hf.2.2.2.2.2.1, hf.2.2.2.2.2.2.1, hf.2.2.2.2.2.2.2.1⟩ hS hi.1 ⟨by omega, by omega⟩ (by omega) (by omega) hb1 (by omega)) (fun m1 h1 => ?_)
    refine core m1 (st ++ [[]]) h1.1 h1.2.1 (fun x hx => ?_) (by rw [flat_snoc, List.append_nil]; exact hb2)
    rcases List.mem_append.mp hx with z | z
    · exact hst x z
    · rw [List.mem_singleton.mp z]; exact ⟨Nat.zero_le _, fun c hc => by cases hc⟩
  unfold nk_Y_refer_256 finS
  rw [h14, hN]
  refine ev_if (fun hw => ev_if (fun hz => ?_) (fun hz => ?_)) (fun hw => ?_)
  · rw [if_neg (fun y => y.2 (List.length_eq_zero_iff.mp (by omega)))]; exact push
  · rw [if_pos ⟨hw, fun y => hz (by rw [y]; rfl)⟩]
    exact core m st (FY.refl _ _) hS hst hb2
  · rw [if_neg (fun y => hw y.1)]; exact push
end F3
