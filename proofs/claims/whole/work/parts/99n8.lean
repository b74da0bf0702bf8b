/-! A TURN: the next step of the script that runs -/
def BUD (n : NS) (m : YS) : Prop := n 0 0 9 = 200 - m 158 0 ∧ 0 ≤ m 158 0 ∧ ((m 154 0 = 0 ∧ m 158 0 < 200) ∨ (m 154 0 = 1 ∧ m 158 0 = 200))
/-- the way stays; or stop has been said -/
def SQ (n n' : NS) (m m' : YS) : Prop := (n' 0 0 15 = n 0 0 15 ∧ n' 46 = n 46) ∧ (∀ f, f = 179 ∨ f = 180 ∨ f = 181 → m' f = m f) ∧ ((m' 163 0 = m 163 0 ∧ n' 0 0 18 = n 0 0 18 ∧ n' 0 0 16 = n 0 0 16) ∨ (m' 163 0 = 1 ∧ n' 0 0 18 = 0 ∧ n' 0 0 16 = if n 0 0 18 = 0 then n 0 0 16 else n 0 0 15))
def RUN (As Bs : Int → Prop) (A B G : Int) (n : NS) (m : YS) : Prop := JA As Bs A B 0 G n m ∧ JRn n m ∧ BUD n m ∧ (n 0 0 17 = -1 ∧ n 6 0 16 = 0) ∧ (m 163 0 = 0 ∨ m 163 0 = 1) ∧ m 152 0 = 0 ∧ m 153 0 = 0
def WEN (As Bs : Int → Prop) (A B G : Int) (n : NS) (m : YS) : Prop := JA As Bs A B 0 G n m ∧ BUD n m ∧ (n 0 0 17 = -1 ∧ n 6 0 16 = 0) ∧ (m 163 0 = 0 ∨ m 163 0 = 1) ∧ (m 152 0 = 1 ∧ m 153 0 = 1) ∧ PGS n ∧ (∃ N o e p, JTr n m N o e p ∧ CWY n m N o) ∧ wtS m ≤ 1284 ∧ m 46 0 ≠ 17
def smA (m : YS) (v : Int) : Int := sc (fun j => m 159 j ≠ 59) v (m 160 0)
section N8
variable {n n' n'' : NS} {m m' m'' : YS} {A B N N' k v b a δ δ' G G' fr to d L r r' q c x f : Int} {o e p o' e' p' : Int → Int} {As Bs W S : Int → Prop} {κ κ' : Int → Int}
theorem SQ.refl (n : NS) (m : YS) : SQ n n m m := ⟨⟨rfl, rfl⟩, fun _ _ => rfl, .inl ⟨rfl, rfl, rfl⟩⟩
theorem SQ.trans (h : SQ n n' m m') (h' : SQ n' n'' m' m'') : SQ n n'' m m'' := by
  obtain ⟨a1, a2, a3⟩ := h
  obtain ⟨b1, b2, b3⟩ := h'
  refine ⟨⟨b1.1.trans a1.1, b1.2.trans a1.2⟩, fun f hf => (b2 f hf).trans (a2 f hf), ?_⟩
  rcases a3 with a3 | a3 <;> rcases b3 with b3 | b3
  · exact .inl ⟨b3.1.trans a3.1, b3.2.1.trans a3.2.1, b3.2.2.trans a3.2.2⟩
  · refine .inr ⟨b3.1, b3.2.1, ?_⟩
    rw [b3.2.2, a3.2.1, a3.2.2, a1.1]
  · exact .inr ⟨b3.1.trans a3.1, b3.2.1.trans a3.2.1, b3.2.2.trans a3.2.2⟩
  · refine .inr ⟨b3.1, b3.2.1, ?_⟩
    rw [b3.2.2, if_pos a3.2.1]; exact a3.2.2
theorem FA.sq (h : FA n n' m m') : SQ n n' m m' := ⟨⟨h.1.2.2.1 15 (by decide), h.1.1 46 (by decide)⟩, fun f hf => h.2.1 f (by omega), .inl ⟨by rw [h.2.1 163 (by omega)], h.1.2.2.1 18 (by decide), h.1.2.2.1 16 (by decide)⟩⟩
theorem SQ.cg (h15 : ∀ s, s = 15 ∨ s = 16 ∨ s = 18 → n' 0 0 s = n 0 0 s) (h46 : n' 46 = n 46) (hm : ∀ f, f = 163 ∨ f = 179 ∨ f = 180 ∨ f = 181 → m' f = m f) : SQ n n' m m' := ⟨⟨h15 15 (by omega), h46⟩, fun f hf => hm f (by omega), .inl ⟨by rw [hm 163 (by omega)], h15 18 (by omega), h15 16 (by omega)⟩⟩
theorem JRn.cg (h : JRn n m) (hK : ∀ K, K = 4 ∨ K = 92 ∨ K = 93 ∨ K = 99 → n' K = n K) (h13 : n' 0 0 13 = n 0 0 13) (hm : ∀ f, f = 45 ∨ f = 46 ∨ f = 55 ∨ f = 69 ∨ (159 ≤ f ∧ f ≤ 162) → m' f = m f) : JRn n' m' := by
  unfold JRn tx ELm at *
  rw [hK 4 (by omega), hK 92 (by omega), hK 93 (by omega), hK 99 (by omega), h13, hm 45 (by omega), hm 46 (by omega), hm 55 (by omega), hm 69 (by omega), hm 159 (by omega), hm 160 (by omega), hm 161 (by omega), hm 162 (by omega)]
  exact h
theorem c_semi (hR : JRn n m) (hv : 0 ≤ v ∧ v ≤ m 160 0) (hB : BI A B n) : NL_Acts_runNext_10 v v n = some (smA m v) := by
  obtain ⟨r1, r2, _⟩ := hR
  have hd := (hB.1 609 (by decide) (by decide)).2.1
  unfold NL_Acts_runNext_10 smA
  refine ev_scan (fun x x1 x2 => ?_)
  unfold nb_Acts_runNext_10
  rw [r1.1]
  refine ev_if (fun hlt => ev_nn hd.1 (ev_tx r2 ⟨by omega, by omega⟩ (fun e => ?_))) (fun hge => ev_ok (.inr ⟨rfl, fun z => hge z.1⟩))
  rw [e]
  exact ev_if (fun he => ev_ok (.inr ⟨rfl, fun z => z.2 he⟩)) (fun hne => ev_ck (by omega) (ev_ok (.inl ⟨rfl, hlt, hne⟩)))
theorem y_semi (hv : 0 ≤ v ∧ v ≤ m 160 0) (hL : m 160 0 ≤ 2000) : NL_Y_runScript_26 v v m = some (smA m v) := by
  unfold NL_Y_runScript_26 smA
  refine ev_scan (fun x x1 x2 => ?_)
  unfold nb_Y_runScript_26
  refine ev_if (fun hlt => ev_ix (by omega) ?_) (fun hge => ev_ok (.inr ⟨rfl, fun z => hge z.1⟩))
  exact ev_if (fun he => ev_ok (.inr ⟨rfl, fun z => z.2 he⟩)) (fun hne => ev_ck (by omega) (ev_ok (.inl ⟨rfl, hlt, hne⟩)))
theorem c_skip (hR : JRn n m) (hv : 0 ≤ v ∧ v ≤ x ∧ x ≤ m 160 0) (hB : BI A B n) : NL_Acts_runNext_48 x v n = some (sc (fun j => isBl (m 159 j)) v x) := by
  obtain ⟨r1, r2, _⟩ := hR
  have hd := (hB.1 609 (by decide) (by decide)).2.1
  unfold NL_Acts_runNext_48
  refine ev_scan (fun y x1 x2 => ?_)
  unfold nb_Acts_runNext_48
  refine ev_if (fun hlt => ev_nn hd.1 (ev_tx r2 ⟨by omega, by omega⟩ (fun e => ?_))) (fun hge => ev_ok (.inr ⟨rfl, fun z => hge z.1⟩))
  rw [e]
  refine ev_bz cs_blank (fun hp => ?_) (fun hp => ?_)
  · rw [if_neg (by decide)]; exact ev_ck (by omega) (ev_ok (.inl ⟨rfl, hlt, hp⟩))
  · rw [if_pos rfl]; exact ev_ok (.inr ⟨rfl, fun z => hp z.2⟩)
theorem y_skip (hv : 0 ≤ v ∧ v ≤ x ∧ x ≤ m 160 0) (hL : m 160 0 ≤ 2000) : NL_Y_runScript_53 x v m = some (sc (fun j => isBl (m 159 j)) v x) := by
  unfold NL_Y_runScript_53
  refine ev_scan (fun y x1 x2 => ?_)
  unfold nb_Y_runScript_53
  refine ev_if (fun hlt => ev_ix (by omega) ?_) (fun hge => ev_ok (.inr ⟨rfl, fun z => hge z.1⟩))
  refine ev_bz ys_blank (fun hp => ?_) (fun hp => ?_)
  · rw [if_neg (by decide)]; exact ev_ck (by omega) (ev_ok (.inl ⟨rfl, hlt, hp⟩))
  · rw [if_pos rfl]; exact ev_ok (.inr ⟨rfl, fun z => hp z.2⟩)
/-- the class counts a step -/
theorem JA.cnt (h : JA As Bs A B δ G n m) (hG : G < 2000000000) (hδ : δ = 0) : (ck ((n 0 0 7) + 1) <| st (nw n 0 0 7 ((n 0 0 7) + 1)) fun n29 => some n29) = some (nw n 0 0 7 (n 0 0 7 + 1)) ∧ JA As Bs A B 1 G (nw n 0 0 7 (n 0 0 7 + 1)) m := by
  have hg := h
  obtain ⟨_, _, _, _, _, _, _, _, _, _, hc, _, g⟩ := hg
  obtain ⟨g1, g2, g3, g4, g5, g6, g7⟩ := g
  have c1 := hc.1
  refine ⟨by unfold ck st; rw [if_pos (by omega)], h.ct (fun K hK => nw_nK hK) (fun s hs => nw_ns (by omega)) (fun _ _ => rfl) ⟨by rw [nw_eq]; omega, by rw [nw_ns (by decide)]; exact hc.2.1, by rw [nw_ns (by decide)]; exact hc.2.2⟩ ⟨g5, g6, g7⟩ (Int.le_refl _)⟩
theorem bud42 (h9 : n 0 0 9 = 200 - m 158 0 ∧ 0 ≤ m 158 0 ∧ m 158 0 ≤ 200 ∧ m 154 0 = 0) : ∃ m', nk_Y_oneStep_42 m = some m' ∧ FY [154] m m' ∧ BUD n m' := by
  unfold nk_Y_oneStep_42 st
  by_cases z : m 158 0 = 200
  · rw [if_pos z]
    refine ⟨_, rfl, fun f hf => yw_nF (fun w => hf (by rw [w]; decide)), ?_⟩
    unfold BUD
    rw [yw_nF (show (158 : Nat) ≠ 154 by decide), yw_eq]
    exact ⟨h9.1, h9.2.1, .inr ⟨rfl, z⟩⟩
  · rw [if_neg z]
    exact ⟨_, rfl, fun _ _ => rfl, h9.1, h9.2.1, .inl ⟨h9.2.2.2, by omega⟩⟩
/-- the reference counts it -/
theorem fin1 (h : JA As Bs A B 1 G n m) (hG : G < 2000000000) (h9 : n 0 0 9 = 200 - m 158 0 ∧ 0 ≤ m 158 0 ∧ m 158 0 ≤ 200 ∧ m 154 0 = 0) :
    ∃ m', (ck ((m 155 0) + 1) <| st (yw m 155 0 ((m 155 0) + 1)) fun m24 => nk_Y_oneStep_42 m24) = some m' ∧ JA As Bs A B 0 (G + 1) n m' ∧ BUD n m' ∧ FY [154, 155] m m' := by
  have hg := h
  obtain ⟨_, _, _, _, _, _, _, _, _, _, hc, _, g⟩ := hg
  obtain ⟨g1, g2, g3, g4, g5, g6, g7⟩ := g
  have c1 := hc.1
  have j1 : JA As Bs A B 0 (G + 1) n (yw m 155 0 (m 155 0 + 1)) := h.ct (fun _ _ => rfl) (fun _ _ => rfl) (fun f hf => yw_nF (fun w => hf (by rw [w]; decide))) ⟨by rw [yw_eq]; omega, by rw [yw_nF (by decide)]; exact hc.2.1, by rw [yw_nF (by decide)]; exact hc.2.2⟩ ⟨by rw [yw_eq]; omega, by rw [yw_nF (by decide)]; omega, by rw [yw_nF (by decide)]; omega⟩ (by omega)
  obtain ⟨m', e1, f1, b1⟩ := bud42 (n := n) (m := yw m 155 0 (m 155 0 + 1)) (by rw [yw_nF (by decide), yw_nF (by decide)]; exact h9)
  refine ⟨m', by unfold ck st; rw [if_pos (by omega)]; exact e1, j1.cg (fun _ _ _ _ => rfl) (fun _ _ => rfl) (fun _ _ => rfl) (fun f hf => f1 f (fun w => hf (by simp only [List.mem_cons, List.not_mem_nil, or_false] at w; rw [w]; decide))), b1, fun f hf => ?_⟩
  simp only [List.mem_cons, List.not_mem_nil, or_false, not_or] at hf
  rw [f1 f (by simp only [List.mem_cons, List.not_mem_nil, or_false]; exact hf.1), yw_nF hf.2]
theorem fin0 (h : JA As Bs A B 0 G n m) (hG : G < 2000000000) (h9 : n 0 0 9 = 200 - m 158 0 ∧ 0 ≤ m 158 0 ∧ m 158 0 ≤ 200 ∧ m 154 0 = 0) :
    ∃ n' m', (ck ((n 0 0 8) + 1) <| st (nw n 0 0 8 ((n 0 0 8) + 1)) fun n29 => some n29) = some n' ∧ n' = nw n 0 0 8 (n 0 0 8 + 1) ∧ (ck ((m 156 0) + 1) <| st (yw m 156 0 ((m 156 0) + 1)) fun m24 => nk_Y_oneStep_42 m24) = some m' ∧ JA As Bs A B 0 (G + 1) n' m' ∧ BUD n' m' ∧ FY [154, 156] m m' := by
  have hg := h
  obtain ⟨_, _, _, _, _, _, _, _, _, _, hc, _, g⟩ := hg
  obtain ⟨g1, g2, g3, g4, g5, g6, g7⟩ := g
  obtain ⟨c1, c2, c3⟩ := hc
  have j1 : JA As Bs A B 0 (G + 1) (nw n 0 0 8 (n 0 0 8 + 1)) (yw m 156 0 (m 156 0 + 1)) := h.ct (fun K hK => nw_nK hK) (fun s hs => nw_ns (by omega)) (fun f hf => yw_nF (fun w => hf (by rw [w]; decide))) ⟨by rw [nw_ns (by decide), yw_nF (by decide)]; exact c1, by rw [nw_eq, yw_eq, c2], by rw [nw_ns (by decide), yw_nF (by decide)]; exact c3⟩ ⟨by rw [yw_nF (by decide)]; omega, by rw [yw_eq]; omega, by rw [yw_nF (by decide)]; omega⟩ (by omega)
  obtain ⟨m', e1, f1, b1⟩ := bud42 (n := nw n 0 0 8 (n 0 0 8 + 1)) (m := yw m 156 0 (m 156 0 + 1)) (by rw [nw_ns (by decide), yw_nF (by decide), yw_nF (by decide)]; exact h9)
  refine ⟨_, m', by unfold ck st; rw [if_pos (by omega)], rfl, by unfold ck st; rw [if_pos (by omega)]; exact e1, j1.cg (fun _ _ _ _ => rfl) (fun _ _ => rfl) (fun _ _ => rfl) (fun f hf => f1 f (fun w => hf (by simp only [List.mem_cons, List.not_mem_nil, or_false] at w; rw [w]; decide))), b1, fun f hf => ?_⟩
  simp only [List.mem_cons, List.not_mem_nil, or_false, not_or] at hf
  rw [f1 f (by simp only [List.mem_cons, List.not_mem_nil, or_false]; exact hf.1), yw_nF hf.2]
end N8
