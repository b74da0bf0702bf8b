/-! A FORM IS SENT: the reference's ADDRESS with its query -/
section P5
variable {n n' n'' n2 : NS} {m m' m'' m0 m6 mR : YS} {A B N N' k b a δ δ' fr to d L r r' x f v c i z M kf G : Int} {o e p o' e' p' κ g : Int → Int} {As Bs W S : Int → Prop} {l l' acc nm q mk : List Int} {ss : List (List Int)}
theorem vmp_tx : ∀ l : List Int, (∀ c ∈ l, isTx c) → ∀ c ∈ vmp l, isTx c := by
  intro l
  induction l with
  | nil => intro _ c hc; cases hc
  | cons a l ih =>
    intro h c hc
    have hc : c ∈ vmC a ++ vmp l := hc
    rcases List.mem_append.mp hc with y | y
    · unfold vmC at y
      split at y
      · simp at y; unfold isTx; omega
      · split at y
        · simp at y; rw [y]; exact h a (by simp)
        · cases y
    · exact ih (fun x hx => h x (by simp [hx])) c y
theorem qF_tx (hT : JT n m N o e p) (h0 : 0 ≤ kf) : ∀ i : Nat, kf + i ≤ N → ∀ c ∈ qF m o kf i, isTx c := by
  intro i
  induction i with
  | zero => intro _ c hc; cases hc
  | succ i ih =>
    intro hi c hc
    have ih := ih (by omega)
    have hd := hT.2.2.2 (kf + i) (by omega) (by omega)
    have hc : c ∈ qAdd m (qF m o kf i) (o (kf + i)) := hc
    by_cases hs : sndQ m (o (kf + i))
    · rw [(qAdd_ne hd hs).1] at hc
      have f0 := fnd_b (m := m) (f := o (kf + i)) (w := wNam)
      rcases List.mem_append.mp hc with y | y
      · exact ih c y
      · rcases List.mem_append.mp y with y | y
        · split at y
          · cases y
          · simp at y; unfold isTx; omega
        · unfold pieceQ at y
          rcases List.mem_append.mp y with y | y
          · exact (hd.2.2.2.1 _ f0 hs.2.1).2.2.2.2.1 c y
          · rcases List.mem_append.mp y with y | y
            · simp at y; unfold isTx; omega
            · split at y
              · simp at y; unfold isTx; omega
              · exact vmp_tx _ (hd.2.2.2.2.2.1 hs.1).2.1 c y
    · unfold qAdd at hc
      rw [if_neg hs] at hc
      exact ih c hc
theorem adL_q (hW : WFA nm ss q mk) : ∀ c ∈ [47, 47] ++ (nm ++ pth ss), c ≠ 63 := by
  intro c hc
  rcases List.mem_append.mp hc with y | y
  · simp at y; omega
  · rcases List.mem_append.mp y with y | y
    · have := hW.1.2.2 c y; unfold isNm at this; omega
    · unfold pth at y
      obtain ⟨s, h1, h2⟩ := List.mem_flatMap.mp y
      rcases List.mem_cons.mp h2 with u | u
      · omega
      · have := (hW.2.1.2.2 s h1).2.2 c u; unfold isSg at this; omega
/-- where the query of an ADDRESS begins -/
theorem y_qAt0 (hR : RA m 0 nm ss q mk) (hW : WFA nm ss q mk) : N_Y_queryAt 0 m = some (2 + (nm.length : Int) + ((pth ss).length : Int)) := by
  have hsz := hW.sz
  have hlen := adL_len (nm := nm) (ss := ss) (q := q)
  have hl := hW.len
  have w1 := hW.1
  have e7 := hR.1
  have hX : adL nm ss q = ([47, 47] ++ (nm ++ pth ss)) ++ q := by unfold adL; simp only [List.append_assoc]
  have hXl : (([47, 47] ++ (nm ++ pth ss)).length : Int) = 2 + (nm.length : Int) + ((pth ss).length : Int) := by
    rw [List.length_append, List.length_append]
    show ((2 + (nm.length + (pth ss).length) : Nat) : Int) = _
    omega
  have h2 := hR.2.1
  rw [show 150 * (0 : Int) = 0 by decide] at h2
  have : NL_Y_queryAt_2 0 0 m = some (sc (fun j => m 6 j ≠ 63) 0 (m 7 0)) := by
    unfold NL_Y_queryAt_2
    refine ev_scan (fun x x1 x2 => ?_)
    unfold nb_Y_queryAt_2
    refine ev_ix (by decide) (ev_if (fun hlt => ev_ck (by decide) (ev_ck (by omega) (ev_ix (by omega) ?_))) (fun hge => ev_ok (.inr ⟨rfl, fun z => hge z.1⟩)))
    rw [show (0 : Int) * 150 + x = x by omega]
    exact ev_if (fun he => ev_ok (.inr ⟨rfl, fun z => z.2 he⟩)) (fun hne => ev_ck (by omega) (ev_ok (.inl ⟨rfl, hlt, hne⟩)))
  unfold N_Y_queryAt
  rw [this]
  simp only [Option.bind_some]
  congr 1
  refine (scx_eq ⟨by omega, .inl (by rw [e7, hlen]; omega), fun j j0 j1 => ?_, fun y z => ?_⟩).symm
  · rw [hX] at h2
    have h3 := sg_pre h2
    have h4 := sg_at (g := m 6) ([47, 47] ++ (nm ++ pth ss)).length 0 j.toNat (by omega)
    rw [h3, show (0 : Int) + ((j.toNat : Nat) : Int) = j by omega] at h4
    exact adL_q hW _ h4
  · have hq : q ≠ [] := fun w => by
      have h0 : q.length = 0 := by rw [w]; rfl
      omega
    have hq1 := hW.2.2.1.2.1 hq
    cases q with
    | nil => exact hq rfl
    | cons c q' =>
      have hq1 : some c = some 63 := hq1
      cases hq1
      rw [hX] at h2
      have h3 : sg (m 6) 0 (([47, 47] ++ (nm ++ pth ss)) ++ ((63 :: q') ++ [])).length = ([47, 47] ++ (nm ++ pth ss)) ++ ((63 :: q') ++ []) := by rw [List.append_nil]; exact h2
      have h4 := sg_mid h3
      rw [hXl, show (0 : Int) + (2 + (nm.length : Int) + ((pth ss).length : Int)) = 2 + (nm.length : Int) + ((pth ss).length : Int) by omega] at h4
      have h5 := sg_rd h4 (x := 0) (by simp)
      rw [show (2 + (nm.length : Int) + ((pth ss).length : Int)) + ((0 : Nat) : Int) = 2 + (nm.length : Int) + ((pth ss).length : Int) by omega] at h5
      exact z (by rw [h5]; rfl)
/-- bytes put at the end of row 0 -/
def PT (m m' : YS) (l : List Int) : Prop := FY [6, 7] m m' ∧ m' 7 0 = m 7 0 + (l.length : Int) ∧ (∀ r, r ≠ 0 → m' 7 r = m 7 r) ∧ sg (m' 6) (m 7 0) l.length = l ∧ ∀ j, ¬ (m 7 0 ≤ j ∧ j < m 7 0 + (l.length : Int)) → m' 6 j = m 6 j
theorem PT.nil (m : YS) : PT m m [] := ⟨fun _ _ => rfl, by simp, fun _ _ => rfl, rfl, fun _ _ => rfl⟩
theorem PT.trans (h : PT m m' l) (h' : PT m' m'' l') : PT m m'' (l ++ l') := by
  obtain ⟨a1, a2, a3, a4, a5⟩ := h
  obtain ⟨b1, b2, b3, b4, b5⟩ := h'
  refine ⟨a1.trans b1, by rw [b2, a2, List.length_append]; omega, fun r hr => (b3 r hr).trans (a3 r hr), ?_, fun j hj => ?_⟩
  · rw [List.length_append, sg_app]
    congr 1
    · refine Eq.trans (sg_cg _ _ _ (fun x hx => ?_)) a4
      exact b5 _ (by omega)
    · rw [← a2]; exact b4
  · rw [List.length_append] at hj
    rw [b5 j (by omega), a5 j (by omega)]
theorem y_put0 (h : 0 ≤ m 7 0 ∧ m 7 0 < 150) (hc : 0 ≤ c ∧ c < 128) : ∃ m', N_Y_put 0 c m = some m' ∧ PT m m' [c] := by
  have hbm : Int.bmod c 256 = c := by rw [Int.bmod_def]; omega
  refine ⟨yw (yw m 6 (m 7 0) c) 7 0 (m 7 0 + 1), ?_, fun g hg => ?_, ?_, fun r hr => ?_, ?_, fun j hj => ?_⟩
  · have z : (0 : Int) * 150 + m 7 0 = m 7 0 := by omega
    unfold N_Y_put ck ix st
    dsimp only
    rw [z, if_pos (by decide), if_pos (by decide), if_pos (by omega), if_pos (by omega), if_pos (by decide), hbm, yw_nF (show (7 : Nat) ≠ 6 by decide), if_pos (by omega), if_pos (by decide)]
  · simp only [List.mem_cons, List.not_mem_nil, or_false, not_or] at hg
    rw [yw_nF hg.2, yw_nF hg.1]
  · rw [yw_eq]; rfl
  · rw [yw_ni hr, yw_nF (by decide)]
  · refine sg_1.mpr ⟨rfl, ?_⟩
    rw [yw_nF (by decide), yw_eq]
  · have hj : ¬ (m 7 0 ≤ j ∧ j < m 7 0 + 1) := hj
    rw [yw_nF (by decide), yw_ni (by omega)]
theorem y_put332 (h : 0 ≤ m 7 0 ∧ m 7 0 ≤ 100) (h183 : 0 ≤ m 183 0 ∧ m 183 0 ≤ 4000) (hc : ∀ c ∈ ys m 182 183, 0 ≤ c ∧ c < 128) : ev (NL_Y_sendForm_332 0 m) (fun m' => PT m m' ((ys m 182 183).take 40)) := by
  have key : ∀ j : Nat, (j : Int) ≤ m 183 0 → (ys m 182 183).take j = sg (m 182) 0 j := fun j hj => by
    unfold ys
    rw [show (m 183 0).toNat = j + ((m 183 0).toNat - j) by omega, sg_app, List.take_append_of_le_length (by rw [sg_len]; exact Nat.le_refl _), List.take_of_length_le (by rw [sg_len]; exact Nat.le_refl _)]
  unfold NL_Y_sendForm_332
  refine ev_it (fun s : Int × YS => (0 ≤ s.1 ∧ s.1 ≤ m 183 0 ∧ s.1 ≤ 40) ∧ PT m s.2 (sg (m 182) 0 s.1.toNat)) (fun s => 40 - s.1) (fun s hs => ?_) ⟨by show (0 : Int) ≤ 0 ∧ (0 : Int) ≤ m 183 0 ∧ (0 : Int) ≤ 40; omega, PT.nil m⟩
  obtain ⟨j, m1⟩ := s
  obtain ⟨g1, g2⟩ := hs
  simp only at g1 g2
  have y1 : ∀ g, g ≠ 6 → g ≠ 7 → m1 g = m g := fun g u z => g2.1 g (by simp only [List.mem_cons, List.not_mem_nil, or_false, not_or]; exact ⟨u, z⟩)
  have s1 := g2.2.1
  rw [sg_len] at s1
  have fin : j = m 183 0 ∨ j = 40 → PT m m1 ((ys m 182 183).take 40) := fun hj => by
    have : (ys m 182 183).take 40 = sg (m 182) 0 j.toNat := by
      rcases hj with y | y
      · rw [List.take_of_length_le (by unfold ys; rw [sg_len]; omega)]
        unfold ys
        rw [y]
      · rw [y]; exact key 40 (by omega)
    rw [this]; exact g2
  show ev (nb_Y_sendForm_332 j m1) _
  unfold nb_Y_sendForm_332
  rw [y1 183 (by decide) (by decide), y1 182 (by decide) (by decide)]
  refine ev_if (fun h1 => ev_if (fun h2 => ev_ix (by omega) ?_) (fun h2 => ev_inr (fin (.inr (by omega))))) (fun h1 => ev_inr (fin (.inl (by omega))))
  have hcj : 0 ≤ m 182 j ∧ m 182 j < 128 := by
    have := sg_at (g := m 182) (m 183 0).toNat 0 j.toNat (by omega)
    rw [show (0 : Int) + ((j.toNat : Nat) : Int) = j by omega] at this
    exact hc _ this
  obtain ⟨m2, e2, q2⟩ := y_put0 (m := m1) (c := m 182 j) ⟨by omega, by omega⟩ hcj
  rw [e2]
  simp only [Option.bind_some]
  refine ev_ck (by omega) (ev_inl ⟨⟨by show 0 ≤ j + 1 ∧ j + 1 ≤ m 183 0 ∧ j + 1 ≤ 40; omega, ?_⟩, by show 40 - (j + 1) < 40 - j; omega, by show 0 ≤ 40 - j; omega⟩)
  show PT m m2 (sg (m 182) 0 (j + 1).toNat)
  rw [show (j + 1).toNat = j.toNat + 1 by omega, sg_app, show sg (m 182) (0 + ((j.toNat : Nat) : Int)) 1 = [m 182 j] from sg_1.mpr ⟨rfl, by rw [show (0 : Int) + ((j.toNat : Nat) : Int) = j by omega]⟩]
  exact g2.trans q2
theorem WFA.query (hW : WFA nm ss q mk) (hl : l.length ≤ 40) (ht : ∀ c ∈ l, isTx c) : WFA nm ss (63 :: l) mk := ⟨hW.1, hW.2.1, ⟨by rw [List.length_cons]; omega, fun _ => rfl, fun c hc => by
  rcases List.mem_cons.mp hc with y | y
  · rw [y]; unfold isTx; omega
  · exact ht c y⟩, hW.2.2.2⟩
/-- the reference's ADDRESS gets its query -/
theorem y_query (hR : RA m 0 nm ss q mk) (hW : WFA nm ss q mk) (h183 : 0 ≤ m 183 0 ∧ m 183 0 ≤ 4000) (hc : ∀ c ∈ ys m 182 183, isTx c) :
    ∃ m', nk_Y_sendForm_312 m = (N_Y_visitResult m').bind (fun m2 => some m2) ∧ RA m' 0 nm ss (63 :: (ys m 182 183).take 40) mk ∧ FY [6, 7] m m' ∧ ∀ r, r ≠ 0 → RwE m m' r := by
  have hl := hW.len
  have w1 := hW.1
  have hsz := hW.sz
  generalize hP : 2 + (nm.length : Int) + ((pth ss).length : Int) = P
  have hPb : 4 ≤ P ∧ P ≤ 88 := by omega
  generalize hm7 : yw m 7 0 P = m7
  have y7 : ∀ g, g ≠ 7 → m7 g = m g := fun g hg => by rw [← hm7, yw_nF hg]
  have e7 : m7 7 0 = P := by rw [← hm7, yw_eq]
  obtain ⟨m11, e11, q11⟩ := y_put0 (m := m7) (c := 63) ⟨by omega, by omega⟩ (by decide)
  have y11 : ∀ g, g ≠ 6 → g ≠ 7 → m11 g = m7 g := fun g u z => q11.1 g (by simp only [List.mem_cons, List.not_mem_nil, or_false, not_or]; exact ⟨u, z⟩)
  have s11 : m11 7 0 = P + 1 := by rw [q11.2.1, e7]; rfl
  have eys : ys m11 182 183 = ys m 182 183 := by unfold ys; rw [y11 182 (by decide) (by decide), y11 183 (by decide) (by decide), y7 182 (by decide), y7 183 (by decide)]
  obtain ⟨m14, e14, q14⟩ := y_put332 (m := m11) ⟨by omega, by omega⟩ (by rw [y11 183 (by decide) (by decide), y7 183 (by decide)]; exact h183) (by rw [eys]; exact fun c h => by have := hc c h; unfold isTx at this; omega)
  rw [eys] at q14
  have all := q11.trans q14
  have hXX : adL nm ss (63 :: (ys m 182 183).take 40) = ([47, 47] ++ (nm ++ pth ss)) ++ (63 :: (ys m 182 183).take 40) := by unfold adL; simp only [List.append_assoc]
  have hX : adL nm ss q = ([47, 47] ++ (nm ++ pth ss)) ++ q := by unfold adL; simp only [List.append_assoc]
  have hXl : (([47, 47] ++ (nm ++ pth ss)).length : Int) = P := by
    rw [List.length_append, List.length_append]
    show ((2 + (nm.length + (pth ss).length) : Nat) : Int) = _
    omega
  have hql : ((ys m 182 183).take 40).length ≤ 40 := by rw [List.length_take]; omega
  have hall : ([63] ++ (ys m 182 183).take 40 : List Int) = 63 :: (ys m 182 183).take 40 := rfl
  rw [hall] at all
  obtain ⟨a1, a2, a3, a4, a5⟩ := all
  rw [e7] at a2 a4 a5
  have hlc : ((63 :: (ys m 182 183).take 40).length : Int) = 1 + (((ys m 182 183).take 40).length : Int) := by rw [List.length_cons]; omega
  have e6 : ∀ j, ¬ (P ≤ j ∧ j < P + ((63 :: (ys m 182 183).take 40).length : Int)) → m14 6 j = m 6 j := fun j hj => by rw [a5 j hj, y7 6 (by decide)]
  refine ⟨m14, ?_, ⟨?_, ?_, ?_, ?_⟩, fun g hg => ?_, fun r hr => ⟨?_, ?_, fun j j0 j1 => ?_⟩⟩
  · unfold nk_Y_sendForm_312
    rw [y_qAt0 hR hW, hP]
    simp only [Option.bind_some]
    unfold ix st
    dsimp only
    rw [if_pos (by decide), hm7, e11]
    simp only [Option.bind_some]
    rw [e14]; rfl
  · rw [a2, hXX, List.length_append]; omega
  · rw [show 150 * (0 : Int) = 0 by decide, hXX]
    have h2 := hR.2.1
    rw [show 150 * (0 : Int) = 0 by decide, hX] at h2
    exact sg_ext (t := m 6) (P := P) hXl.symm (sg_pre h2) (fun j j0 j1 => e6 j (by omega)) a4
  · rw [a1 8 (by decide), y7 8 (by decide)]; exact hR.2.2.1
  · refine Eq.trans (sg_cg _ _ _ (fun x hx => ?_)) hR.2.2.2
    have := hW.2.2.2.1
    exact e6 _ (by omega)
  · simp only [List.mem_cons, List.not_mem_nil, or_false, not_or] at hg
    rw [a1 g (by simp only [List.mem_cons, List.not_mem_nil, or_false, not_or]; exact hg), y7 g hg.2]
  · rw [a3 r hr, ← hm7, yw_ni hr]
  · rw [a1 8 (by decide), y7 8 (by decide)]
  · exact e6 j (by omega)
end P5
