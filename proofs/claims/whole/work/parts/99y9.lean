/-! WHAT IS WRITTEN FIRST of each node, in both -/
def mB (n : NS) (m : YS) (v s kd : Int) : NS := nw (nw (nw (nw (nw (nw (nw (nw (nw (nw (nw (nw n 3 v 0 kd) 3 v 6 (m 105 (11 * s + 3))) 3 v 7 (m 105 (11 * s + 5))) 3 v 8 (m 105 (11 * s + 5) + m 105 (11 * s + 4))) 3 v 9 (m 105 (11 * s + 1))) 3 v 10 (m 105 (11 * s + 2))) 3 v 11 (m 105 (11 * s + 8))) 3 v 12 (m 105 (11 * s + 9))) 3 v 13 0) 3 v 19 0) 3 v 2 0) 3 v 3 0
def mA (m : YS) (k v hh : Int) : YS := yw (yw (yw m 124 k v) 125 0 (k + 1)) 109 v hh
def mS (m : YS) (k v hh md sd : Int) : YS := yw (yw (yw (mA m k v hh) 107 v md) 108 v sd) 116 v (m 117 0)
noncomputable def yGo (v md : Int) (M : YS) : Option ((Int × YS) ⊕ (YS)) := if md = 1 ∨ md = 2 then (N_Y_widen v M).bind fun z => nk_Y_lay_259 v z else if md = 4 then (N_Y_measure v M).bind fun z => nk_Y_lay_259 v z else if md = 6 then (N_Y_split v M).bind fun z => nk_Y_lay_259 v z else nk_Y_lay_259 v M
section Y9
variable {n n' n'' : NS} {m m' m'' : YS} {A B N a b c x y q s E v u w t k j r i L I X h fw kd md hh sd w0 : Int} {o e p g : Int → Int}
theorem c_meas (hv : 0 ≤ v ∧ v < 120) (hkd : N_Layout_kindOf v v n = some kd) (hk0 : kd ≠ 0) (hs : (n 7 v 0 = 17 ∧ n 7 v 2 = s) ∨ (n 7 v 0 ≠ 17 ∧ s = v)) (hsb : 0 ≤ s ∧ s < 120) (hl : ∀ pr, 0 ≤ pr → pr < 11 → n 41 0 (11 * s + pr) = m 105 (11 * s + pr)) (hb : (0 ≤ m 105 (11 * s + 4) ∧ m 105 (11 * s + 4) ≤ 20) ∧ (0 ≤ m 105 (11 * s + 5) ∧ m 105 (11 * s + 5) ≤ 3)) :
    N_Layout_measure v n = if v = 0 then some (nw (nw (mB n m v s kd) 3 v 1 (-1)) 3 v 4 (n 5 0 3)) else ix (n 7 v 2) 120 (if mB n m v s kd 3 (n 7 v 2) 0 = 1 then nk_Layout_measure_212 v v v (n 7 v 2) v (mB n m v s kd) else ix (n 7 v 2) 120 (nk_Layout_measure_212 v v v (mB n m v s kd 3 (n 7 v 2) 1) v (mB n m v s kd))) := by
  have lk : ∀ pr, 0 ≤ pr → pr < 11 → ∀ n2 : NS, n2 41 = n 41 → N_Layout_look s pr n2 = some (m 105 (11 * s + pr)) := fun pr x y n2 e => by
    unfold N_Layout_look
    rw [ck_e _ (by omega), ck_e _ (by omega), ix_e _ (by omega), e, show s * 11 + pr = 11 * s + pr by omega, hl pr x y]
  have e41 : ∀ (n2 : NS) (s x : Int), n2 41 = n 41 → nw n2 3 v s x 41 = n 41 := fun n2 s x h => by rw [nw_nK (by decide)]; exact h
  have e7 : ∀ (n2 : NS) (s x : Int), nw n2 3 v s x 7 = n2 7 := fun n2 s x => nw_nK (by decide)
  have e5 : ∀ (n2 : NS) (s x : Int), nw n2 3 v s x 5 = n2 5 := fun n2 s x => nw_nK (by decide)
  have h52 : nk_Layout_measure_52 v v v s (nw n 3 v 0 kd) = if v = 0 then some (nw (nw (mB n m v s kd) 3 v 1 (-1)) 3 v 4 (n 5 0 3)) else ix (n 7 v 2) 120 (if mB n m v s kd 3 (n 7 v 2) 0 = 1 then nk_Layout_measure_212 v v v (n 7 v 2) v (mB n m v s kd) else ix (n 7 v 2) 120 (nk_Layout_measure_212 v v v (mB n m v s kd 3 (n 7 v 2) 1) v (mB n m v s kd))) := by
    unfold nk_Layout_measure_52 st
    dsimp only
    have q0 := e41 n 0 kd rfl
    rw [lk 3 (by decide) (by decide) _ q0]
    simp only [Option.bind_some]
    have q1 := e41 _ 6 (m 105 (11 * s + 3)) q0
    rw [lk 5 (by decide) (by decide) _ q1]
    simp only [Option.bind_some]
    have q2 := e41 _ 7 (m 105 (11 * s + 5)) q1
    rw [lk 4 (by decide) (by decide) _ q2]
    simp only [Option.bind_some, nw_eq]
    rw [ck_e _ (by omega)]
    have q3 := e41 _ 8 (m 105 (11 * s + 5) + m 105 (11 * s + 4)) q2
    rw [lk 1 (by decide) (by decide) _ q3]
    simp only [Option.bind_some]
    have q4 := e41 _ 9 (m 105 (11 * s + 1)) q3
    rw [lk 2 (by decide) (by decide) _ q4]
    simp only [Option.bind_some]
    have q5 := e41 _ 10 (m 105 (11 * s + 2)) q4
    rw [lk 8 (by decide) (by decide) _ q5]
    simp only [Option.bind_some]
    have q6 := e41 _ 11 (m 105 (11 * s + 8)) q5
    rw [lk 9 (by decide) (by decide) _ q6]
    simp only [Option.bind_some]
    unfold mB
    simp only [e7, e5]
  unfold N_Layout_measure st
  rw [ix_e _ hv, ix_e _ hv, hkd]
  simp only [Option.bind_some]
  rw [nw_eq, if_neg hk0, e7]
  rcases hs with ⟨h1, h2⟩ | ⟨h1, h2⟩
  · rw [if_pos h1, h2, h52, h2]
  · rw [if_neg h1]
    rw [← h2] at h52 ⊢
    exact h52
theorem y_isBx (hv : 0 ≤ v ∧ v < 120) : N_Y_isBox v m = some (if m 107 v = 1 ∨ m 107 v = 2 then 1 else 0) := by
  unfold N_Y_isBox
  rw [ix_e _ hv, ix_e _ hv]
  by_cases h1 : m 107 v = 1
  · rw [if_pos h1, if_pos (.inl h1)]
  · rw [if_neg h1]
    by_cases h2 : m 107 v = 2
    · rw [if_pos h2, if_pos (.inr h2)]
    · rw [if_neg h2, if_neg (by omega)]
theorem y_181 (hv : 1 ≤ v ∧ v < 120) (hsd : sd = 0 ∨ sd = 1) (h107 : m 107 v = md) : nk_Y_lay_181 v sd v m = yGo v md (yw (yw m 108 v sd) 116 v (m 117 0)) := by
  have hv' : 0 ≤ v ∧ v < 120 := by omega
  unfold nk_Y_lay_181 st yGo
  have hz : ∀ x : Option ((Int × YS) ⊕ YS), cz sd x = x := fun x => if_pos (by omega)
  rw [hz]
  simp only [ix_e (L := 120) _ hv']
  rw [yw_nF (show 117 ≠ 108 by decide), if_neg (by omega), y_isBx hv', yw_nF (show 107 ≠ 116 by decide), yw_nF (show 107 ≠ 108 by decide), h107]
  simp only [Option.bind_some]
  by_cases z : md = 1 ∨ md = 2
  · rw [if_pos z, if_pos z, if_neg (by decide)]
  · rw [if_neg z, if_neg z, if_pos rfl]
theorem y_29 (hv : 1 ≤ v ∧ v < 120) (hq : 0 ≤ m 49 v ∧ m 49 v < 120) (hqv : m 49 v ≠ v) (hk : m 125 0 = k) (hkb : 0 ≤ k ∧ k < 120) (hh' : hh = if m 107 (m 49 v) = 1 ∨ m 107 (m 49 v) = 2 then m 49 v else m 109 (m 49 v)) (hmd : N_Y_modeOf v (mA m k v hh) = some md) (hsd : sd = if (md = 1 ∨ md = 2) ∧ m 107 (m 49 v) = 1 ∧ 0 < m 105 (11 * v + 10) then 1 else 0) : nb_Y_lay_29 v m = yGo v md (mS m k v hh md sd) := by
  have hv' : 0 ≤ v ∧ v < 120 := by omega
  have hv0 : v ≠ 0 := by omega
  obtain ⟨M, hM⟩ : ∃ M, M = yw (yw m 124 k v) 125 0 (k + 1) := ⟨_, rfl⟩
  have f11 : ∀ f, f ≠ 124 → f ≠ 125 → M f = m f := fun f a b => by rw [hM, yw_nF b, yw_nF a]
  have h181 : nk_Y_lay_133 v md v (mA m k v hh) = yGo v md (mS m k v hh md sd) := by
    obtain ⟨M3, hM3⟩ : ∃ M3, M3 = yw (mA m k v hh) 107 v md := ⟨_, rfl⟩
    have e49 : M3 49 = m 49 := by rw [hM3, yw_nF (by decide)]; unfold mA; rw [yw_nF (by decide), yw_nF (by decide), yw_nF (by decide)]
    have e105 : M3 105 = m 105 := by rw [hM3, yw_nF (by decide)]; unfold mA; rw [yw_nF (by decide), yw_nF (by decide), yw_nF (by decide)]
    have e117 : M3 117 = m 117 := by rw [hM3, yw_nF (by decide)]; unfold mA; rw [yw_nF (by decide), yw_nF (by decide), yw_nF (by decide)]
    have e107 : M3 107 v = md := by rw [hM3, yw_eq]
    have e107q : M3 107 (m 49 v) = m 107 (m 49 v) := by rw [hM3, yw_ni hqv]; unfold mA; rw [yw_nF (by decide), yw_nF (by decide), yw_nF (by decide)]
    have hE : ∀ x, (x = 0 ∨ x = 1) → x = sd → nk_Y_lay_181 v x v M3 = yGo v md (mS m k v hh md sd) := fun x h1 h2 => by
      rw [y_181 hv h1 e107, e117, h2, hM3]; rfl
    unfold nk_Y_lay_133 nk_Y_lay_180 st
    dsimp only
    rw [ix_e _ hv', ← hM3, if_pos (by omega), y_isBx hv', e107]
    simp only [Option.bind_some, e49, ix_e (L := 120) _ hv', ix_e (L := 120) _ hq, e107q]
    rw [y_of hv' (by decide), e105]
    simp only [Option.bind_some]
    by_cases z : md = 1 ∨ md = 2
    · rw [if_pos z, if_neg (by decide)]
      by_cases z1 : m 107 (m 49 v) = 1
      · rw [if_pos z1]
        by_cases z2 : 0 < m 105 (11 * v + 10)
        · rw [if_pos z2]; exact hE 1 (.inr rfl) (by rw [hsd, if_pos ⟨z, z1, z2⟩])
        · rw [if_neg z2]; exact hE 0 (.inl rfl) (by rw [hsd, if_neg (fun w => z2 w.2.2)])
      · rw [if_neg z1]; exact hE 0 (.inl rfl) (by rw [hsd, if_neg (fun w => z1 w.2.1)])
    · rw [if_neg z, if_pos rfl]; exact hE 0 (.inl rfl) (by rw [hsd, if_neg (fun w => z w.1)])
  have h100 : nk_Y_lay_100 v hh v M = yGo v md (mS m k v hh md sd) := by
    unfold nk_Y_lay_100 st
    dsimp only
    have : yw M 109 v hh = mA m k v hh := by rw [hM]; rfl
    rw [ix_e _ hv', if_neg hv0, this, hmd]
    simp only [Option.bind_some]
    exact h181
  unfold nb_Y_lay_29 st
  dsimp only
  rw [if_neg (by omega), hk, ix_e _ hkb, yw_nF (show 125 ≠ 124 by decide), hk, ck_e _ (by omega), if_neg hv0, ← hM, f11 49 (by decide) (by decide), f11 109 (by decide) (by decide), y_isBx hq, f11 107 (by decide) (by decide)]
  simp only [Option.bind_some, ix_e (L := 120) _ hv', ix_e (L := 120) _ hq]
  by_cases z : m 107 (m 49 v) = 1 ∨ m 107 (m 49 v) = 2
  · rw [if_pos z] at hh'
    rw [if_pos z, if_neg (by decide), ← hh']; exact h100
  · rw [if_neg z] at hh'
    rw [if_neg z, if_pos rfl, ← hh']; exact h100
theorem FM1.yy {f : Nat} (hf : f = 107 ∨ f = 108 ∨ f = 109 ∨ f = 112 ∨ f = 113 ∨ f = 116) (h : FM1 u k w0 m m') : FM1 u k w0 m (yw m' f u x) := by
  obtain ⟨y1, y2, y3, y4⟩ := h
  refine ⟨fun g hg => ?_, fun g hg a ha => by rw [yw_ni ha]; exact y2 g hg a ha, fun j hj => ?_, fun j hj => by rw [yw_nF (by omega)]; exact y4 j hj⟩
  · have : g ≠ f := fun z => hg (by simp only [List.mem_cons, List.not_mem_nil, or_false]; omega)
    rw [yw_nF this]; exact y1 g hg
  · rw [yw_nF (by omega), yw_nF (by omega), yw_nF (by omega), yw_nF (by omega)]; exact y3 j hj
theorem FM1.ss : FM1 v k w0 m (mS m k v hh md sd) := by
  have h0 : FM1 v k w0 m (yw (yw m 124 k v) 125 0 (k + 1)) := by
    refine ⟨fun g hg => ?_, fun g hg a ha => by rw [yw_nF (by omega), yw_nF (by omega)], fun j hj => ?_, fun j hj => by rw [yw_nF (by decide), yw_ni hj]⟩
    · have : g ≠ 124 ∧ g ≠ 125 := ⟨fun z => hg (by rw [z]; decide), fun z => hg (by rw [z]; decide)⟩
      rw [yw_nF this.2, yw_nF this.1]
    · rw [yw_nF (by decide), yw_nF (by decide), yw_nF (by decide), yw_nF (by decide), yw_nF (by decide), yw_nF (by decide), yw_nF (by decide), yw_nF (by decide)]; exact ⟨rfl, rfl, rfl, rfl⟩
  unfold mS mA
  exact FM1.yy (by omega) (FM1.yy (by omega) (FM1.yy (by omega) (FM1.yy (by omega) h0)))
theorem FM1.ff (h : FM1 u k w0 m m') (hw : F1w w0 m' m'') : FM1 u k w0 m m'' := by
  obtain ⟨y1, y2, y3, y4⟩ := h
  have z1 : ∀ f, f ∉ [117, 118, 119, 120, 123] → m'' f = m' f := hw.1
  refine ⟨fun g hg => ?_, fun g hg a ha => ?_, fun j hj => ?_, fun j hj => by rw [z1 124 (by decide)]; exact y4 j hj⟩
  · rw [z1 g (fun z => hg (by simp only [List.mem_cons, List.not_mem_nil, or_false] at z ⊢; omega))]; exact y1 g hg
  · rw [z1 g (by simp only [List.mem_cons, List.not_mem_nil, or_false, not_or]; omega)]; exact y2 g hg a ha
  · have a := hw.2 j hj
    have b := y3 j hj
    rw [a.1, a.2.1, a.2.2.1, a.2.2.2]; exact b
end Y9
