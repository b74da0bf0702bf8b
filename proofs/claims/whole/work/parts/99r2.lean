/-! A FIELD of a server's ANSWER: what the reference says of it -/
theorem bz_t {x : Option Int} {p : Prop} (h : ev x (bz p)) (hp : p) : x = some 1 := by
  obtain ⟨r, e, c⟩ := h
  rcases c with ⟨c, _⟩ | ⟨_, c⟩
  · rw [e, c]
  · exact absurd hp c
theorem bz_f {x : Option Int} {p : Prop} (h : ev x (bz p)) (hp : ¬ p) : x = some 0 := by
  obtain ⟨r, e, c⟩ := h
  rcases c with ⟨_, c⟩ | ⟨c, _⟩
  · exact absurd c hp
  · rw [e, c]
abbrev wAg : List Int := [97, 103, 101]
abbrev wCk : List Int := [99, 111, 111, 107, 105, 101]
abbrev wTo : List Int := [116, 111]
abbrev wOp : List Int := [111, 112, 101, 110]
section R2
variable {m m' : YS} {i to e W : Int} {w : List Int}
theorem y_word (hw : wl W = w) (hW : 0 ≤ W ∧ W < 36893488147419103232) (h0 : 0 ≤ i ∧ i ≤ 2000) (hto : to ≤ 2000) : (mtR w (m 2) i to → N_Y_isWord 2 i to W m = some 1) ∧ (¬ mtR w (m 2) i to → N_Y_isWord 2 i to W m = some 0) := by
  have h := ys_isWord (f := 2) (m := m) hW (show to ≤ yLn 2 from hto) h0.1 (by omega) (by omega)
  rw [hw] at h
  exact ⟨bz_t h, bz_f h⟩
theorem y_fd_open (h0 : 0 ≤ i ∧ i ≤ 2000) (hto : to ≤ 2000) (h4 : to - i = 4) (hw : mtR wOp (m 2) i to) (h42 : 0 ≤ m 42 0 ∧ m 42 0 ≤ 1) : N_Y_field i to m = some (if m 42 0 = 0 then 1 else 0, yw m 42 0 (m 42 0 + 1)) := by
  unfold N_Y_field ck
  rw [if_pos (by omega), if_pos h4, (y_word (w := wOp) (by decide) (by decide) h0 hto).1 hw]
  simp only [Option.bind_some]
  rw [if_neg (by decide), if_pos (by omega)]
  unfold st
  dsimp only
  rw [yw_eq]
  by_cases z : m 42 0 = 0
  · rw [if_pos (by omega), if_pos z]
  · rw [if_neg (by omega), if_neg z]
theorem y_fd_eq (h0 : 0 ≤ i ∧ i ≤ to) (hto : to ≤ 2000) (hn : ¬ (to - i = 4 ∧ mtR wOp (m 2) i to)) : N_Y_field i to m = nk_Y_field_70 i to (eqA (m 2) i to) m := by
  have h46 : nk_Y_field_46 i to m = nk_Y_field_70 i to (eqA (m 2) i to) m := by
    unfold nk_Y_field_46
    rw [y_eqA ⟨h0.1, by omega⟩ hto]; rfl
  unfold N_Y_field ck
  rw [if_pos (by omega), h46]
  by_cases z : to - i = 4
  · rw [if_pos z, (y_word (w := wOp) (by decide) (by decide) ⟨h0.1, by omega⟩ hto).2 (fun y => hn ⟨z, y⟩)]
    simp only [Option.bind_some]
    rw [if_pos trivial]
  · rw [if_neg z]
theorem y_423n (h0 : 0 ≤ i ∧ i ≤ e) (hto : e ≤ 2000) (hn : ¬ (e - i = 2 ∧ mtR wTo (m 2) i e)) : nk_Y_field_423 i to e (e - i) m = some (0, m) := by
  unfold nk_Y_field_423
  by_cases z : e - i = 2
  · rw [if_pos z, (y_word (w := wTo) (by decide) (by decide) ⟨h0.1, by omega⟩ hto).2 (fun y => hn ⟨z, y⟩)]
    simp only [Option.bind_some]
    rw [if_pos trivial]
  · rw [if_neg z]
theorem y_223n (h0 : 0 ≤ i ∧ i ≤ e) (hto : e ≤ 2000) (hn : ¬ (e - i = 6 ∧ mtR wCk (m 2) i e)) : nk_Y_field_223 i to e (e - i) m = nk_Y_field_423 i to e (e - i) m := by
  unfold nk_Y_field_223
  by_cases z : e - i = 6
  · rw [if_pos z, (y_word (w := wCk) (by decide) (by decide) ⟨h0.1, by omega⟩ hto).2 (fun y => hn ⟨z, y⟩)]
    simp only [Option.bind_some]
    rw [if_pos trivial]
  · rw [if_neg z]
theorem y_70n (h0 : 0 ≤ i ∧ i ≤ e) (hto : e < to ∧ to ≤ 2000) (hn : ¬ (e - i = 3 ∧ mtR wAg (m 2) i e)) : nk_Y_field_70 i to e m = nk_Y_field_223 i to e (e - i) m := by
  unfold nk_Y_field_70 ck
  rw [if_neg (by omega), if_pos (by omega)]
  by_cases z : e - i = 3
  · rw [if_pos z, (y_word (w := wAg) (by decide) (by decide) ⟨h0.1, by omega⟩ (by omega)).2 (fun y => hn ⟨z, y⟩)]
    simp only [Option.bind_some]
    rw [if_pos trivial]
  · rw [if_neg z]
/-- the digits of an age -/
theorem y_digits (h0 : 0 ≤ e ∧ e ≤ to) (hto : to ≤ 2000) (h4 : 1 ≤ to - e ∧ to - e ≤ 4) (htx : ∀ j, e ≤ j → j < to → isTx (m 2 j)) : ev (NL_Y_field_136 to 0 1 e m) (fun t => (t.2 = 1 ∧ (∀ j, e ≤ j → j < to → isDg (m 2 j)) ∧ t.1 = nvL (m 2) e (to - e).toNat) ∨ (t.2 = 0 ∧ ¬ ∀ j, e ≤ j → j < to → isDg (m 2 j))) := by
  unfold NL_Y_field_136
  refine ev_it (fun s : Int × Int × Int => (e ≤ s.2.2 ∧ s.2.2 ≤ to) ∧ ((s.2.1 = 1 ∧ (∀ j, e ≤ j → j < s.2.2 → isDg (m 2 j)) ∧ s.1 = nvL (m 2) e (s.2.2 - e).toNat) ∨ (s.2.1 = 0 ∧ ¬ ∀ j, e ≤ j → j < to → isDg (m 2 j)))) (fun s => to - s.2.2) (fun s hs => ?_) ⟨⟨Int.le_refl _, h0.2⟩, .inl ⟨rfl, fun j a b => by have b : j < e := b; omega, by show (0 : Int) = nvL (m 2) e (e - e).toNat; rw [show (e - e).toNat = 0 by omega]; rfl⟩⟩
  obtain ⟨v, z, t⟩ := s
  obtain ⟨g1, g2⟩ := hs
  simp only at g1 g2
  show ev (nb_Y_field_136 to v z t m) _
  unfold nb_Y_field_136
  rcases g2 with ⟨z1, g2, g3⟩ | ⟨z0, g2⟩
  · refine ev_if (fun hlt => ?_) (fun hge => ev_inr (.inl ⟨z1, fun j a b => g2 j a (by omega), by show v = _; rw [g3, show t = to by omega]⟩))
    rw [if_neg (by omega)]
    have hb := nvL_b (g := m 2) (fr := e) (to := t) (fun j a _ c => g2 j a c) (t - e).toNat (by omega) (by omega)
    have h10 : (10 : Int) ^ (t - e).toNat ≤ 1000 := by
      rcases (show (t - e).toNat = 0 ∨ (t - e).toNat = 1 ∨ (t - e).toNat = 2 ∨ (t - e).toNat = 3 by omega) with y | y | y | y <;> rw [y] <;> decide
    rw [← g3] at hb
    have ht := htx t g1.1 hlt
    unfold isTx at ht
    refine ev_ix (by omega) (ev_bz ys_digit (fun hp => ?_) (fun hp => ?_))
    · refine ev_ck (by omega) (ev_ix (by omega) (ev_ck (by omega) (ev_ck (by omega) (ev_ck (by omega) (ev_inl ⟨⟨by show e ≤ t + 1 ∧ t + 1 ≤ to; omega, .inl ⟨rfl, fun j a b => ?_, ?_⟩⟩, by show to - (t + 1) < to - t; omega, by show 0 ≤ to - t; omega⟩)))))
      · have b : j < t + 1 := b
        by_cases y : j = t
        · rw [y]; exact hp
        · exact g2 j a (by omega)
      · show 10 * v + m 2 t - 48 = nvL (m 2) e (t + 1 - e).toNat
        rw [show (t + 1 - e).toNat = (t - e).toNat + 1 by omega]
        show _ = 10 * nvL (m 2) e (t - e).toNat + m 2 (e + ((t - e).toNat : Int)) - 48
        rw [← g3, show e + (((t - e).toNat : Nat) : Int) = t by omega]
    · exact ev_ck (by omega) (ev_ix (by omega) (ev_ck (by omega) (ev_ck (by omega) (ev_ck (by omega) (ev_inl ⟨⟨by show e ≤ t + 1 ∧ t + 1 ≤ to; omega, .inr ⟨rfl, fun y => hp (y t g1.1 hlt)⟩⟩, by show to - (t + 1) < to - t; omega, by show 0 ≤ to - t; omega⟩)))))
  · refine ev_if (fun hlt => ?_) (fun hge => ev_inr (.inr ⟨z0, g2⟩))
    rw [if_pos z0]
    exact ev_inr (.inr ⟨z0, g2⟩)
theorem y_digits0 (h0 : 0 ≤ e) : NL_Y_field_136 to 0 0 e m = some (0, 0) := by
  unfold NL_Y_field_136
  refine it_inr ?_
  show nb_Y_field_136 to 0 0 e m = _
  unfold nb_Y_field_136
  by_cases z : e < to
  · rw [if_pos z, if_pos rfl]
  · rw [if_neg z]
/-- an age -/
theorem y_fd_age (h0 : 0 ≤ i ∧ i ≤ e) (hto : e < to ∧ to ≤ 2000) (h3 : e - i = 3) (hw : mtR wAg (m 2) i e) (htx : ∀ j, i ≤ j → j < to → isTx (m 2 j)) : (((1 ≤ to - (e + 1) ∧ to - (e + 1) ≤ 4 ∧ ∀ j, e + 1 ≤ j → j < to → isDg (m 2 j)) ∧ m 38 0 < 0) → nk_Y_field_70 i to e m = some (1, yw m 38 0 (nvL (m 2) (e + 1) (to - (e + 1)).toNat))) ∧ (¬ ((1 ≤ to - (e + 1) ∧ to - (e + 1) ≤ 4 ∧ ∀ j, e + 1 ≤ j → j < to → isDg (m 2 j)) ∧ m 38 0 < 0) → nk_Y_field_70 i to e m = some (0, m)) := by
  have f0 : ∀ v, nk_Y_field_199 v m = some (0, m) := fun v => by
    unfold nk_Y_field_199 nk_Y_field_200 nk_Y_field_217 st cz
    rw [if_pos rfl]
    dsimp only
    rw [yw_id rfl, if_pos (by decide)]
  have hz : nk_Y_field_129 to e 0 0 m = some (0, m) := by
    unfold nk_Y_field_129 ck
    rw [if_pos (by omega), y_digits0 (by omega)]
    show nk_Y_field_183 0 0 m = _
    unfold nk_Y_field_183
    rw [if_pos rfl, f0]
  have start : nk_Y_field_70 i to e m = if 1 ≤ to - (e + 1) ∧ to - (e + 1) ≤ 4 then nk_Y_field_129 to e 0 1 m else some (0, m) := by
    unfold nk_Y_field_70 ck
    rw [if_neg (by omega), if_pos (show inR (e - i) by omega), if_pos h3, (y_word (w := wAg) (by decide) (by decide) ⟨h0.1, by omega⟩ (by omega)).1 hw]
    simp only [Option.bind_some]
    rw [if_neg (by decide), if_pos (show inR (to - e) by omega), if_pos (show inR (to - e - 1) by omega)]
    unfold nk_Y_field_128
    rw [hz]
    by_cases z : to - e - 1 < 1
    · rw [if_pos z, if_neg (by omega)]
    · rw [if_neg z, if_pos (show inR (to - e) by omega), if_pos (show inR (to - e - 1) by omega)]
      by_cases y : 4 < to - e - 1
      · rw [if_pos y, if_neg (by omega)]
      · rw [if_neg y, if_pos (by omega)]
  rw [start]
  by_cases hr : 1 ≤ to - (e + 1) ∧ to - (e + 1) ≤ 4
  · rw [if_pos hr]
    obtain ⟨⟨v, z⟩, ez, hv⟩ := y_digits (m := m) (e := e + 1) (to := to) ⟨by omega, by omega⟩ hto.2 hr (fun j a b => htx j (by omega) b)
    simp only at hv
    have e129 : nk_Y_field_129 to e 0 1 m = nk_Y_field_183 v z m := by
      unfold nk_Y_field_129 ck
      rw [if_pos (by omega), ez]; rfl
    rw [e129]
    unfold nk_Y_field_183
    rcases hv with ⟨z1, hd, hv⟩ | ⟨z0, hd⟩
    · rw [if_neg (by omega)]
      by_cases h38 : m 38 0 < 0
      · rw [if_pos h38]
        refine ⟨fun _ => ?_, fun y => absurd ⟨⟨hr.1, hr.2, hd⟩, h38⟩ y⟩
        unfold nk_Y_field_200 nk_Y_field_217 st cz
        rw [if_neg (by decide)]
        dsimp only
        rw [if_pos (by decide), hv]
      · rw [if_neg h38, f0]
        exact ⟨fun y => absurd y.2 h38, fun _ => rfl⟩
    · rw [if_pos z0, f0]
      exact ⟨fun y => absurd y.1.2.2 hd, fun _ => rfl⟩
  · rw [if_neg hr]
    exact ⟨fun y => absurd ⟨y.1.1, y.1.2.1⟩ hr, fun _ => rfl⟩
end R2
