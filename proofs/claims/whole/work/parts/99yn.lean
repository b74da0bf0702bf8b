/-! BETWEEN CALLS: what a sheet, a layout that is still valid says; the first calls for it -/
def SMf (m m0 : YS) : Prop := ∀ f, 45 ≤ f → f ≤ 63 → m0 f = m f
def YFr (m m' : YS) : Prop := (∀ f, (f < 89 ∨ f = 106 ∨ 145 < f) → m' f = m f) ∧ m' 126 0 = 1
/-- the class's sheet is valid -/
def LYA (n : NS) (m : YS) : Prop := n 9 0 14 = n 10 0 6 → ∃ N o e p, TG N o e p (m 49) (m 50) (m 52) ∧ ∀ m0, SMf m m0 → ∃ m0', N_Y_cascade m0 = some m0' ∧ LKs n m0' N o ∧ n 9 0 13 = m0' 89 0 ∧ FY [89, 90, 91, 92, 93, 94, 95, 96, 97, 98, 99, 100, 101, 102, 103, 104, 105] m0 m0'
/-- the class's layout is valid -/
def LYB (n : NS) (m : YS) : Prop := n 5 0 4 = n 10 0 6 → n 9 0 14 = n 10 0 6 ∧ n 10 0 4 = n 10 0 6 ∧ ∃ N o e p, ∀ m0, SMf m m0 → m0 106 0 = m 106 0 → m0 126 0 = 0 → ∃ m0', N_Y_lay m0 = some m0' ∧ LAYD N o e p n m0' ∧ YFr m0 m0'
/-- the reference's layout is valid -/
def LYR (m : YS) : Prop := m 126 0 ≠ 0 → ∃ m0 m1, SMf m m0 ∧ m0 106 0 = m 106 0 ∧ m0 126 0 = 0 ∧ N_Y_lay m0 = some m1 ∧ ∀ f, f = 89 ∨ (105 ≤ f ∧ f ≤ 125) → m f = m1 f
def LYS (n : NS) : Prop := (WL1 n ∧ S18 n) ∧ n 5 0 4 ≤ n 10 0 6 ∧ n 9 0 14 ≤ n 10 0 6
def LAYI (n : NS) (m : YS) : Prop := LYA n m ∧ LYB n m ∧ LYR m ∧ LYS n ∧ JSc n m
/-- what reading the sheet leaves -/
def FSh (n n' : NS) : Prop := (∀ K, K ∉ [7, 9, 10, 22, 32, 33, 34, 35, 36, 37, 38, 39, 40, 41] → n' K = n K) ∧ (∀ v s, s ≠ 8 → s ≠ 9 → n' 7 v s = n 7 v s) ∧ (∀ s, s ≠ 3 → s ≠ 4 → n' 10 0 s = n 10 0 s)
/-- what sheet and layout leave -/
def FZl (n n' : NS) (m m' : YS) : Prop := (∀ K, K ∉ [3, 4, 5, 7, 9, 10, 22, 32, 33, 34, 35, 36, 37, 38, 39, 40, 41, 43, 90, 91, 92, 93, 99] → n' K = n K) ∧ FS (fun x => x = 608) n n' ∧ (∀ f, (f < 89 ∨ f = 106 ∨ 145 < f) → m' f = m f) ∧ (∀ v s, s ≠ 8 → s ≠ 9 → n' 7 v s = n 7 v s)
section YN
variable {n n' n1 n'' : NS} {m m' m0 : YS} {A B G N N' a b c x y q s k j r w : Int} {o e p o' e' p' : Int → Int} {As Bs : Int → Prop}
theorem LKs.oc (h : LKs n m N o) (ho : ∀ k, 0 ≤ k → k < N → o' k = o k) : LKs n m N o' := fun k x y z => by
  rw [ho k x y] at z ⊢; exact h k x y z
theorem sheet_call (hB : BI A B n) (hT : JT n m N o e p) (hJ : JP m N o p) (h17 : m 46 0 ≠ 17) (hH : SHc n) (hA : LYA n m) : ∃ n1, N_Sheet_refresh n = some n1 ∧ (BI A B n1 ∧ JT n1 m N o e p ∧ SHc n1 ∧ n1 9 0 14 = n1 10 0 6) ∧ FSh n n1 ∧ (n 9 0 14 = n 10 0 6 → n1 = n) ∧ ∀ m0, SMf m m0 → ∃ m0', N_Y_cascade m0 = some m0' ∧ LKs n1 m0' N o ∧ n1 9 0 13 = m0' 89 0 ∧ FY [89, 90, 91, 92, 93, 94, 95, 96, 97, 98, 99, 100, 101, 102, 103, 104, 105] m0 m0' := by
  by_cases hv : n 9 0 14 = n 10 0 6
  · obtain ⟨N2, o2, e2, p2, g1, g2⟩ := hA hv
    obtain ⟨u1, u2⟩ := TY.uniq (m := m) hT.1.1 g1
    refine ⟨n, by unfold N_Sheet_refresh; rw [if_pos hv], ⟨hB, hT, hH, hv⟩, ⟨fun _ _ => rfl, fun _ _ _ _ => rfl, fun _ _ _ => rfl⟩, fun _ => rfl, fun m0 hm => ?_⟩
    obtain ⟨m0', c1, c2, c3, c4⟩ := g2 m0 hm
    rw [← u1] at c2
    exact ⟨m0', c1, c2.oc (fun k x y => (u2 k x y).symm), c3, c4⟩
  · obtain ⟨n1, m', r1, r2, r3, r4, r5, r6, r7, r8, r9, r10, r11, r12, r13⟩ := refresh_both hB hT hJ h17 hH hv
    have f13 : ∀ f, f ∉ [89, 90, 91, 92, 93, 94, 95, 96, 97, 98, 99, 100, 101, 102, 103, 104, 105] → m' f = m f := r13
    refine ⟨n1, r1, ⟨r3, r4.fb r3 (FB.refl (fun _ => False) n1) (fun x hx => hx.elim) (fun f x y => (f13 f (by simp only [List.mem_cons, List.not_mem_nil, or_false, not_or]; omega)).symm), r6, r9⟩, ⟨r10, r11, r12⟩, fun z => absurd z hv, fun m0 hm => ?_⟩
    obtain ⟨n2, m0', c1, c2, c3, c4, c5⟩ := casc_det hB hT hJ h17 hH hv hm
    rw [r1] at c1
    rw [← Option.some.inj c1] at c3 c4
    exact ⟨m0', c2, c3, c4, c5⟩
/-- the layout is made, whatever the reference is from which it starts -/
theorem lay_comp (hB : BI A B n) (hT : JT n m N o e p) (hJ : JP m N o p) (h17 : m 46 0 ≠ 17) (hW : WL1 n ∧ S18 n) (hc : JSc n m) (hcas : ∀ m0, SMf m m0 → ∃ m0', N_Y_cascade m0 = some m0' ∧ LKs n m0' N o ∧ n 9 0 13 = m0' 89 0 ∧ FY [89, 90, 91, 92, 93, 94, 95, 96, 97, 98, 99, 100, 101, 102, 103, 104, 105] m0 m0') (hne : n 5 0 4 ≠ n 10 0 6) :
    ∃ n1 n', N_Layout_refresh n = some n' ∧ BI A B n' ∧ JT n1 m N o e p ∧ BI A B n1 ∧ LSt n' N o e ∧ (n' 5 0 4 = n' 10 0 6 ∧ n' 10 0 4 = n' 10 0 6) ∧ FL (nw (nw n 5 0 4 (n 10 0 6)) 5 0 6 0) n1 ∧ FLo n1 n' ∧ ∀ m0, SMf m m0 → m0 106 0 = m 106 0 → m0 126 0 = 0 → ∃ m0', N_Y_lay m0 = some m0' ∧ LAYD N o e p n' m0' ∧ YFr m0 m0' := by
  have run : ∀ m0, SMf m m0 → m0 106 0 = m 106 0 → m0 126 0 = 0 → ∃ n1 n' m0', N_Layout_refresh n = some n' ∧ N_Y_lay m0 = some m0' ∧ LAYD N o e p n' m0' ∧ YFr m0 m0' ∧ BI A B n' ∧ JT n1 m N o e p ∧ BI A B n1 ∧ LSt n' N o e ∧ (n' 5 0 4 = n' 10 0 6 ∧ n' 10 0 4 = n' 10 0 6) ∧ FL (nw (nw n 5 0 4 (n 10 0 6)) 5 0 6 0) n1 ∧ FLo n1 n' := fun m0 hm h106 h126 => by
    obtain ⟨mz, hmz⟩ : ∃ mz, mz = yw (pZ m m0) 126 0 1 := ⟨_, rfl⟩
    have ez : ∀ f, 45 ≤ f → f ≤ 69 → mz f = m f := fun f x y => by
      rw [hmz, yw_nF (by omega)]
      by_cases z : 64 ≤ f ∧ f ≤ 69
      · exact if_pos z
      · rw [pZ_r z]; exact hm f x (by omega)
    obtain ⟨mc, c1, c2, c3, c4⟩ := hcas mz (fun f x y => ez f x (by omega))
    have f4 : ∀ f, f ∉ [89, 90, 91, 92, 93, 94, 95, 96, 97, 98, 99, 100, 101, 102, 103, 104, 105] → mc f = mz f := c4
    have ec : ∀ f, 45 ≤ f → f ≤ 69 → mc f = m f := fun f x y => (f4 f (by simp only [List.mem_cons, List.not_mem_nil, or_false, not_or]; omega)).trans (ez f x y)
    have hTc : JT n mc N o e p := hT.fb hB (FB.refl (fun _ => False) n) (fun x hx => hx.elim) ec
    have hJc : JP mc N o p := fun k x y => by rw [ec 46 (by decide) (by decide)]; exact hJ k x y
    have z106 : mz 106 = m0 106 := by rw [hmz, yw_nF (by decide), pZ_r (by decide)]
    have h106c : mc 106 0 = m 106 0 := by rw [f4 106 (by decide), z106]; exact h106
    have hcc : n 5 0 3 = mc 106 0 ∧ 20 ≤ mc 106 0 ∧ mc 106 0 ≤ 96 := by rw [h106c]; exact hc
    obtain ⟨n1, n', mr, r1, r2, r3, r4, r5, r6, r7, r8, r9, r10, r11⟩ := lay_both hTc hJc c2 hB hW.1 hW.2 hcc (by rw [ec 46 (by decide) (by decide)]; exact h17) c3 hne
    have hz : N_Y_lay (pZ m m0) = some mr := by
      rw [y_lay_eq, pZ_r (by decide), if_pos h126, ← hmz, c1]
      exact r2
    rw [z_N_Y_lay (X := m) (m := m0)] at hz
    cases hl : N_Y_lay m0 with
    | none => rw [hl] at hz; cases hz
    | some m0' =>
      rw [hl] at hz
      have emr : mr = pZ m m0' := (Option.some.inj hz).symm
      have g : ∀ f, ¬ (64 ≤ f ∧ f ≤ 69) → m0' f = mr f := fun f hf => by rw [emr]; exact (pZ_r hf).symm
      have hz0 : ∀ f, 64 ≤ f ∧ f ≤ 69 → m0' f = m0 f := fun f z => by
        have hX : N_Y_lay (pZ m0 m0) = (N_Y_lay m0).map (pZ m0) := z_N_Y_lay
        have e0 : pZ m0 m0 = m0 := by funext f; unfold pZ; split <;> rfl
        rw [e0, hl] at hX
        have := Option.some.inj hX
        rw [this]; exact if_pos z
      refine ⟨n1, n', m0', r1, rfl, r3.cm (fun f hf => g f (by omega)), ⟨fun f hf => ?_, ?_⟩, r4, r5.fb r6 (FB.refl (fun _ => False) n1) (fun x hx => hx.elim) (fun f x y => (ec f x y).symm), r6, r7, r8, r9, r10⟩
      · by_cases z : 64 ≤ f ∧ f ≤ 69
        · exact hz0 f z
        · rw [g f z, r11 f (by omega), f4 f (by simp only [List.mem_cons, List.not_mem_nil, or_false, not_or]; omega), hmz, yw_nF (by omega), pZ_r z]
      · rw [g 126 (by decide), r11 126 (by omega), f4 126 (by decide), hmz, yw_eq]
  obtain ⟨n1, n', m1, q1, q2, q3, q4, q5, q6, q7, q8, q9, q10, q11⟩ := run (yw m 126 0 0) (fun f x y => yw_nF (by omega)) (by rw [yw_nF (by decide)]) yw_eq
  refine ⟨n1, n', q1, q5, q6, q7, q8, q9, q10, q11, fun m0 a1 a2 a3 => ?_⟩
  obtain ⟨_, n2, m0', t1, t2, t3, t4, _⟩ := run m0 a1 a2 a3
  rw [q1] at t1
  rw [← Option.some.inj t1] at t3
  exact ⟨m0', t2, t3, t4⟩
/-- reading the sheet leaves what acts hold -/
theorem CI.sh (h : CI As Bs A B G n m) (t : JT n1 m N o e p) (q : JP m N o p) (hB' : BI A B n1) (hF : FSh n n1) : CI As Bs A B G n1 m := by
  obtain ⟨f1, f2, f3⟩ := hF
  obtain ⟨nI, hnI⟩ : ∃ nI : NS, nI = fun K => if K = 7 ∨ K = 10 ∨ K = 22 then n1 K else n K := ⟨_, rfl⟩
  have iA : ∀ K, K = 7 ∨ K = 10 ∨ K = 22 → nI K = n1 K := fun K hK => by rw [hnI]; exact if_pos hK
  have iB : ∀ K, ¬ (K = 7 ∨ K = 10 ∨ K = 22) → nI K = n K := fun K hK => by rw [hnI]; exact if_neg hK
  have iC : ∀ K, K ∉ [9, 32, 33, 34, 35, 36, 37, 38, 39, 40, 41] → n1 K = nI K := fun K hK => by
    simp only [List.mem_cons, List.not_mem_nil, or_false, not_or] at hK
    by_cases z : K = 7 ∨ K = 10 ∨ K = 22
    · exact (iA K z).symm
    · rw [iB K z]; exact f1 K (by simp only [List.mem_cons, List.not_mem_nil, or_false, not_or]; omega)
  have hFL : FL n nI := ⟨fun K x y z => iB K (by omega), fun v s x y => by rw [iA 7 (by omega)]; exact f2 v s x y, fun s x y => by rw [iA 10 (by omega)]; exact f3 s x y⟩
  have hBI : BI A B nI := h.1.bi.cg (iB 4 (by decide)) (by rw [iB 5 (by decide)]; exact ⟨rfl, rfl⟩) (iB 90 (by decide)) (iB 91 (by decide)) (iB 92 (by decide)) (iB 93 (by decide))
  have tI : JT nI m N o e p := t.ks (fun K hK => (iC K (by simp only [List.mem_cons, List.not_mem_nil, or_false, not_or]; omega)).symm)
  have jI := (h.1.fl tI q hBI hFL).1
  have cI : CI As Bs A B G nI m := ⟨jI, by rw [iB 0 (by decide), iB 6 (by decide)]; exact h.2.1, h.2.2⟩
  exact cI.ko hB' (fun K hK => iC K (by simp only [List.mem_cons, List.not_mem_nil, or_false, not_or] at hK ⊢; omega)) (fun _ _ => rfl)
end YN
