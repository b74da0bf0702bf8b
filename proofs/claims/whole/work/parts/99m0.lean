/-! WHICH NODE IS CALLED, in both -/
/-- a mark of the class, and number and birth of the reference -/
def MkR (M v b : Int) : Prop := M = b * 128 + v ∧ (0 ≤ v ∧ v < 120) ∧ 0 ≤ b
def wId : List Int := [105, 100]
section M0
variable {n n' : NS} {m m' : YS} {A B N k v M b d fr to L : Int} {o e p g : Int → Int} {w : List Int}
theorem JS.al (h : JS n m N o e p) (hv : 0 ≤ v ∧ v < 120) : (m 45 v = 1 → n 7 v 0 ≠ -1 ∧ n 7 v 10 = m 55 v) ∧ (m 45 v ≠ 1 → m 45 v = 0 ∧ n 7 v 0 = -1) := by
  have h4 := h.2.2.2.1 v hv.1 hv.2
  refine ⟨fun z => ?_, fun z => ?_⟩
  · obtain ⟨k, k0, k1, rfl⟩ := h4.2.1.mp z
    exact ⟨fun y => by have := h4.2.2.mp y; omega, (h.2.2.2.2.1 k k0 k1).1.2.2.2.2.2⟩
  · have : m 45 v = 0 := by rcases h4.1 with y | y; exact absurd y z; exact y
    exact ⟨this, h4.2.2.mpr this⟩
theorem c_alive (h : JS n m N o e p) (hM : MkR M v b) : N_Tree_alive M n = some (if m 45 v = 1 ∧ m 55 v = b then v else -1) := by
  obtain ⟨h1, h2, h3⟩ := hM
  have e1 : M % 128 = v := by omega
  have e2 : M / 128 = b := by omega
  have ha := h.al h2
  unfold N_Tree_alive ck ix nk_Tree_alive_47 nk_Tree_alive_48
  rw [e1, e2, if_pos (by omega), if_pos h2.2, if_pos h2]
  by_cases z : m 45 v = 1
  · have q := ha.1 z
    rw [if_neg q.1, if_pos h2, q.2]
    by_cases y : m 55 v = b
    · rw [if_pos y, if_neg (by decide), if_pos ⟨z, y⟩]
    · rw [if_neg y, if_pos rfl, if_neg (fun w => y w.2)]
  · rw [if_pos (ha.2 z).2, if_pos rfl, if_neg (fun w => z w.1)]
theorem y_self (h : JS n m N o e p) (hv : 0 ≤ m 161 0 ∧ m 161 0 < 120) : N_Y_selfIsThere m = some (if m 45 (m 161 0) = 1 ∧ m 55 (m 161 0) = m 162 0 then 1 else 0) := by
  have ha := h.al hv
  unfold N_Y_selfIsThere ix
  rw [if_neg (by omega), if_pos hv]
  by_cases z : m 45 (m 161 0) = 1
  · rw [if_neg (by omega), if_pos hv]
    by_cases y : m 55 (m 161 0) = m 162 0
    · rw [if_pos y, if_pos ⟨z, y⟩]
    · rw [if_neg y, if_neg (fun w => y w.2)]
  · rw [if_pos (ha.2 z).1, if_neg (fun w => z w.1)]
/-- a node has this id -/
def hasId (m : YS) (w : List Int) (v : Int) : Prop := fnd m v wId < m 56 v ∧ avL m v (fnd m v wId) = w
noncomputable def idK (m : YS) (w : List Int) (N : Int) (o : Int → Int) : Int := @sc (fun k => ¬ hasId m w (o k)) (fun _ => Classical.propDecidable _) 0 N
theorem packed_val (hB : BI A B n) (hd : ND n m v) (hv : 0 ≤ v ∧ v < 120) {a : Int} (h0 : 0 ≤ a) (h1 : a < m 56 v) (hw : ∀ c ∈ w, isBt c) (hw1 : 1 ≤ w.length ∧ w.length ≤ 8) : ∃ z, N_Bytes_packed (5 * v + 1 + a) n = some z ∧ (z = pk w ↔ avL m v a = w) := by
  have ha := hd.2.2.2.1 a h0 h1
  have h4 := hd.2.2.1.2.2
  have hav : ∀ c ∈ avL m v a, isBt c := fun c hc => by have := ha.2.2.2.2.1 c hc; unfold isTx at this; unfold isBt; omega
  have hl := bt_len (b := 5 * v + 1 + a) (by omega) hB
  refine ⟨_, cs_packed (b := 5 * v + 1 + a) (by omega) hB (by rw [ha.2.2.2.2.2]; exact hav), ?_⟩
  rw [ha.2.2.2.2.2] at hl ⊢
  by_cases z : n 4 (5 * v + 1 + a) 2 ≤ 8
  · rw [if_pos z]
    exact ⟨fun y => pkq_inj hav hw y, fun y => by rw [y]⟩
  · rw [if_neg z]
    constructor
    · intro y
      have := (pkq_0 hw).mp y.symm
      rw [this] at hw1; exact absurd hw1.1 (by decide)
    · intro y
      rw [y] at hl; omega
theorem c_findId (hT : JT n m N o e p) (hB : BI A B n) (hw : ∀ c ∈ w, isBt c) (hw1 : 1 ≤ w.length ∧ w.length ≤ 8) : ev (N_Tree_findId (pk w) n) (fun r => r.1 = (if idK m w N o < N then o (idK m w N o) else -1) ∧ JT r.2 m N o e p ∧ FL n r.2 ∧ BI A B r.2) := by
  unfold N_Tree_findId
  refine ev_bind (hT.list hB) (fun n2 h2 => ?_)
  obtain ⟨hT2, hL2, hF2, hB2⟩ := h2
  have hG := hT2.1.1
  have hN := hG.N1
  have epk : N_Bytes_pack_1 1000024 n2 = some (pk wId) := cs_packW okS24 (by decide) (by decide)
  rw [epk]
  simp only [Option.bind_some]
  refine ev_bs (P := fun r => 0 ≤ r ∧ r < N ∧ r = idK m w N o) (R := fun _ => ¬ idK m w N o < N) ?_ (fun r hr => ?_) (fun r hr => ev_ok ⟨by rw [if_neg hr], hT2, hF2, hB2⟩)
  · unfold NL_Tree_findId_13
    refine ev_it (fun s => 0 ≤ s ∧ s ≤ N ∧ ∀ j, 0 ≤ j → j < s → ¬ hasId m w (o j)) (fun s => N - s) (fun s hs => ?_) ⟨Int.le_refl _, by omega, fun j a b => by omega⟩
    obtain ⟨g1, g2, g3⟩ := hs
    show ev (nb_Tree_findId_13 (pk w) (pk wId) s n2) _
    unfold nb_Tree_findId_13
    rw [hL2.1]
    refine ev_if (fun hlt => ?_) (fun hge => ev_inr (show ¬ idK m w N o < N from fun hx => ?_))
    · have hv := hG.oB g1 hlt
      have hd := hT2.2.2.2 s g1 hlt
      rw [(hL2.2 s g1 hlt).1]
      have next : ¬ hasId m w (o s) → ev (ck (s + 1) (some (Sum.inl (s + 1)))) (lp (fun s => 0 ≤ s ∧ s ≤ N ∧ ∀ j, 0 ≤ j → j < s → ¬ hasId m w (o j)) (fun s => N - s) s (sp (fun r => 0 ≤ r ∧ r < N ∧ r = idK m w N o) (fun _ : Unit => ¬ idK m w N o < N))) := fun hne => by
        refine ev_ck (by omega) (ev_inl ⟨⟨by omega, by omega, fun j a b => ?_⟩, by omega, by omega⟩)
        by_cases y : j = s
        · rw [y]; exact hne
        · exact g3 j a (by omega)
      refine ev_ix (by omega) (ev_ix hv ?_)
      rw [c_find hd (by decide : ∀ c ∈ wId, isBt c)]
      simp only [Option.bind_some]
      by_cases hf : fnd m (o s) wId < m 56 (o s)
      · have f0 := fnd_b (m := m) (f := o s) (w := wId)
        rw [if_pos hf, if_neg (show ¬ 5 * o s + 1 + fnd m (o s) wId < 0 by omega)]
        obtain ⟨z, ez, hz⟩ := packed_val hB2 hd hv f0 hf hw hw1
        rw [ez]
        simp only [Option.bind_some]
        refine ev_if (fun y => ev_inr ⟨g1, hlt, ?_⟩) (fun y => next (fun q => y (hz.mpr q.2)))
        exact @scx_eq _ (fun _ => Classical.propDecidable _) _ _ _ ⟨g1, .inl g2, g3, fun _ q => q ⟨hf, hz.mp y⟩⟩
      · rw [if_neg hf, if_pos (by decide)]
        exact next (fun q => hf q.1)
    · have h1 := @scx_at (fun k => ¬ hasId m w (o k)) (fun _ => Classical.propDecidable _) _ _ hx
      exact h1 (g3 _ (@scx_ge (fun k => ¬ hasId m w (o k)) (fun _ => Classical.propDecidable _) _ _) (by unfold idK at hx; omega))
  · refine ev_ix (by omega) (ev_ok ⟨?_, hT2, hF2, hB2⟩)
    show n2 22 0 r = _
    rw [(hL2.2 r hr.1 hr.2.1).1, if_pos (by rw [← hr.2.2]; exact hr.2.1), ← hr.2.2]
theorem y_findId (hT : JT n m N o e p) (hfr : 0 ≤ fr ∧ fr < to ∧ to ≤ 2000) (hw : sg (m 159) fr (to - fr).toNat = w) : nk_Y_nodeOf_38 fr to m = some (if idK m w N o < N then o (idK m w N o) else -1) := by
  apply eq_of_ev
  have hG := hT.1.1
  have hN := hG.N1
  have hE0 : e 0 = N := hG.1.2.2.2.1
  unfold nk_Y_nodeOf_38
  refine ev_bs (P := fun r => idK m w N o < N ∧ r = o (idK m w N o)) (R := fun _ => ¬ idK m w N o < N) ?_ (fun r hr => ev_ok (by rw [if_pos hr.1]; exact hr.2)) (fun r hr => ev_ok (by rw [if_neg hr]))
  unfold NL_Y_nodeOf_40
  refine ev_itg (I := fun (s : Int) x => ∃ j, 0 ≤ j ∧ j ≤ N ∧ x = N - j ∧ (∀ i, 0 ≤ i → i < j → ¬ hasId m w (o i)) ∧ s = if j < N then o j else -1) (fun s x hs => ?_) (x := N) ⟨0, Int.le_refl _, by omega, by omega, fun i a b => by omega, by rw [if_pos (by omega)]; exact hG.o0.symm⟩
  obtain ⟨j, j0, j1, hx, g3, g4⟩ := hs
  show ev (nb_Y_nodeOf_40 fr to s m) _
  unfold nb_Y_nodeOf_40
  by_cases hlt : j < N
  · rw [if_pos hlt] at g4
    subst g4
    have hv := hG.oB j0 hlt
    have hd := hT.2.2.2 j j0 hlt
    rw [if_neg (show ¬ o j = -1 by omega)]
    have next : ¬ hasId m w (o j) → ev (nk_Y_nodeOf_114 fr to (o j) m) (lg (fun (s : Int) x => ∃ j, 0 ≤ j ∧ j ≤ N ∧ x = N - j ∧ (∀ i, 0 ≤ i → i < j → ¬ hasId m w (o i)) ∧ s = if j < N then o j else -1) x (sp (fun r => idK m w N o < N ∧ r = o (idK m w N o)) (fun _ : Unit => ¬ idK m w N o < N))) := fun hne => by
      unfold nk_Y_nodeOf_114
      have ha := y_after hG (t := 0) (k := j) (Int.le_refl _) j0 (by omega) (by omega)
      rw [hG.o0, hE0] at ha
      rw [ha]
      simp only [Option.bind_some]
      refine ev_gl (x' := N - (j + 1)) ⟨j + 1, by omega, by omega, rfl, fun i a b => ?_, rfl⟩ (by omega) (by omega)
      by_cases y : i = j
      · rw [y]; exact hne
      · exact g3 i a (by omega)
    refine ev_ix hv ?_
    by_cases h17 : m 46 (o j) = 17
    · rw [if_pos h17]
      unfold nk_Y_nodeOf_68
      rw [if_pos rfl]
      refine next (fun q => ?_)
      have := (hd.2.2.2.2.1 h17).2.2.2.2
      have h1 := q.1
      have := fnd_b (m := m) (f := o j) (w := wId)
      omega
    · rw [if_neg h17, y_find hd hv (by decide)]
      simp only [Option.bind_some]
      rw [show wl 137 = wId by decide]
      unfold nk_Y_nodeOf_68
      by_cases hf : fnd m (o j) wId < m 56 (o j)
      · have f0 := fnd_b (m := m) (f := o j) (w := wId)
        have h4 := hd.2.2.1.2.2
        have ha := hd.2.2.2.1 _ f0 hf
        have hla : ((avL m (o j) (fnd m (o j) wId)).length : Int) = m 60 (4 * o j + fnd m (o j) wId) := by unfold avL; rw [sg_len]; have := ha.2.2.2.1; omega
        have hlw : (w.length : Int) = to - fr := by rw [← hw, sg_len]; omega
        rw [if_pos hf, if_neg (show ¬ 4 * o j + fnd m (o j) wId = -1 by omega)]
        refine ev_ix (by omega) (ev_ck (by omega) (ev_if (fun he => ?_) (fun hne => next (fun q => hne ?_))))
        · refine ev_ck (by omega) (ev_ck (by omega) (ev_bz (ys_same (f := 59) (f2 := 159) (i := 60 * (4 * o j + fnd m (o j) wId)) (j := fr) (k := to - fr) (by omega) (by omega) (by show _ ≤ (28800 : Int); have := ha.2.2.2.1; omega) (by show _ ≤ (2000 : Int); omega) (by omega) (by have := ha.2.2.2.1; omega)) (fun hp => ?_) (fun hp => ?_)))
          · rw [if_neg (by decide)]
            have hid : hasId m w (o j) := ⟨hf, by unfold avL; rw [he, hp]; exact hw⟩
            have : j = idK m w N o := @scx_eq _ (fun _ => Classical.propDecidable _) _ _ _ ⟨j0, .inl j1, g3, fun _ q => q hid⟩
            exact ev_gr ⟨by rw [← this]; exact hlt, by rw [← this]⟩
          · rw [if_pos rfl]
            refine next (fun q => hp ?_)
            have := q.2
            unfold avL at this
            rw [he] at this
            rw [hw]; exact this
        · rw [← hla, q.2]; exact hlw
      · rw [if_neg hf, if_pos rfl]
        exact next (fun q => hf q.1)
  · rw [if_neg hlt] at g4
    rw [g4, if_pos rfl]
    refine ev_gr (show ¬ idK m w N o < N from fun hx => ?_)
    have h1 := @scx_at (fun k => ¬ hasId m w (o k)) (fun _ => Classical.propDecidable _) _ _ hx
    exact h1 (g3 _ (@scx_ge (fun k => ¬ hasId m w (o k)) (fun _ => Classical.propDecidable _) _ _) (by unfold idK at hx; omega))
end M0
