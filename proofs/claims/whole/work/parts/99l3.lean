/-! A CLASS IS SET, in both -/
section L3
variable {n n' : NS} {m m' : YS} {A B N k v a d fr to L i c : Int} {o e p g : Int → Int} {w : List Int}
/-- the name of the ATTRIBUTE class -/
theorem y_class76 {v1 v2 : Int} (ha : 0 ≤ a ∧ a < 480) : ev (NL_Y_setClass_76 v1 v2 a 20546947 0 m) (fun m' => FY [57] m m' ∧ sg (m' 57) (8 * a) 5 = wClass ∧ ∀ j, ¬ (8 * a ≤ j ∧ j < 8 * a + 8) → m' 57 j = m 57 j) := by
  unfold NL_Y_setClass_76
  refine ev_it (fun t : Int × YS => (0 ≤ t.1 ∧ t.1 ≤ 5) ∧ FY [57] m t.2 ∧ (∀ j, 0 ≤ j → j < t.1 → t.2 57 (8 * a + j) = wClass.getD j.toNat 0) ∧ ∀ j, ¬ (8 * a ≤ j ∧ j < 8 * a + 8) → t.2 57 j = m 57 j) (fun t => 5 - t.1) (fun t ht => ?_) ⟨by show (0 : Int) ≤ 0 ∧ (0 : Int) ≤ 5; decide, fun _ _ => rfl, fun j x y => by have y : j < 0 := y; omega, fun _ _ => rfl⟩
  obtain ⟨t, m1⟩ := t
  obtain ⟨g1, g2, g3, g4⟩ := ht
  simp only at g1 g2 g3 g4
  show ev (nb_Y_setClass_76 v1 v2 a 20546947 t m1) _
  unfold nb_Y_setClass_76
  refine ev_if (fun hlt => ?_) (fun hge => ev_inr ⟨g2, ?_, g4⟩)
  · have hval : ∀ x : Int, x = Int.bmod (96 + (20546947 / 2 ^ Int.toNat (5 * t)) % 32) 256 → x = wClass.getD t.toNat 0 := fun x hx => by
      rcases (show t = 0 ∨ t = 1 ∨ t = 2 ∨ t = 3 ∨ t = 4 by omega) with y | y | y | y | y <;> subst y <;> rw [hx] <;> decide
    have hr : ∀ x : Int, 0 ≤ x % 32 ∧ x % 32 < 32 := fun x => by omega
    have hr := hr (20546947 / 2 ^ Int.toNat (5 * t))
    generalize hz : Int.bmod (96 + (20546947 / 2 ^ Int.toNat (5 * t)) % 32) 256 = z at *
    have hval := hval z rfl
    refine ev_ck (by omega) (ev_ck (by omega) (ev_ck (by omega) (ev_g (by omega) (ev_ck (by omega) (ev_ck (by omega) (ev_ix (by omega) (ev_st (ev_ck (by omega) (ev_inl ⟨⟨by show 0 ≤ t + 1 ∧ t + 1 ≤ 5; omega, fun f hf => ?_, fun j x y => ?_, fun j hj => ?_⟩, by show 5 - (t + 1) < 5 - t; omega, by show 0 ≤ 5 - t; omega⟩)))))))))
    · show yw m1 57 (8 * a + t) z f = m f
      rw [yw_nF (by simp only [List.mem_cons, List.not_mem_nil, or_false] at hf; exact hf)]; exact g2 f hf
    · have y : j < t + 1 := y
      show yw m1 57 (8 * a + t) z 57 (8 * a + j) = wClass.getD j.toNat 0
      by_cases q : j = t
      · rw [q, yw_eq]; exact hval
      · rw [yw_ni (by omega)]; exact g3 j x (by omega)
    · show yw m1 57 (8 * a + t) z 57 j = m 57 j
      rw [yw_ni (by omega)]; exact g4 j hj
  · have h5 : t = 5 := by omega
    subst h5
    show [m1 57 (8 * a), m1 57 (8 * a + 1), m1 57 (8 * a + 1 + 1), m1 57 (8 * a + 1 + 1 + 1), m1 57 (8 * a + 1 + 1 + 1 + 1)] = wClass
    have e0 := g3 0 (by decide) (by decide)
    have e1 := g3 1 (by decide) (by decide)
    have e2 := g3 2 (by decide) (by decide)
    have e3 := g3 3 (by decide) (by decide)
    have e4 := g3 4 (by decide) (by decide)
    rw [show 8 * a + 0 = 8 * a by omega] at e0
    rw [show 8 * a + 1 + 1 = 8 * a + 2 by omega, show 8 * a + 2 + 1 = 8 * a + 3 by omega, show 8 * a + 3 + 1 = 8 * a + 4 by omega, e0, e1, e2, e3, e4]
    rfl
/-- the VALUE of the ATTRIBUTE -/
theorem y_class116 (ha : 0 ≤ a ∧ a < 480) (hf : 0 ≤ fr ∧ fr ≤ to ∧ to ≤ 2000) : ev (nk_Y_setClass_116 fr to a m) (fun m' => FY [59, 60] m m' ∧ (∀ j, j ≠ a → m' 60 j = m 60 j) ∧ m' 60 a = min 60 (to - fr) ∧ sg (m' 59) (60 * a) (m' 60 a).toNat = (sg (m 159) fr (to - fr).toNat).take 60 ∧ ∀ j, ¬ (60 * a ≤ j ∧ j < 60 * a + 60) → m' 59 j = m 59 j) := by
  unfold nk_Y_setClass_116
  refine ev_ck (by omega) (ev_ix ha (ev_st ?_))
  generalize h1 : yw m 60 a (min 60 (to - fr)) = m1
  have f1 : FY [60] m m1 := fun f hf => by rw [← h1]; exact yw_nF (by simp only [List.mem_cons, List.not_mem_nil, or_false] at hf; exact hf)
  have e60 : m1 60 a = min 60 (to - fr) := by rw [← h1, yw_eq]
  refine ev_bind (P := fun m' => FY [59] m1 m' ∧ (∀ j, 0 ≤ j → j < min 60 (to - fr) → m' 59 (60 * a + j) = m1 159 (fr + j)) ∧ ∀ j, ¬ (60 * a ≤ j ∧ j < 60 * a + min 60 (to - fr)) → m' 59 j = m1 59 j) ?_ (fun m2 h2 => ev_ok ?_)
  · unfold NL_Y_setClass_133
    refine y_copy (F := 59) (G := 159) (K := min 60 (to - fr)) (a := 60 * a) (b := fr) (by decide) (by omega) (fun k m9 f9 k0 k1 => ?_) (fun m9 f9 => ?_)
    · show nb_Y_setClass_133 fr a k m9 = _
      unfold nb_Y_setClass_133 ck ix st
      dsimp only
      rw [f9 60 (by decide), e60, if_pos ha, if_pos k1, if_pos (by omega), if_pos (by omega), if_pos (by omega), if_pos (by omega), if_pos (by omega), if_pos (by omega)]
    · show nb_Y_setClass_133 fr a (min 60 (to - fr)) m9 = _
      unfold nb_Y_setClass_133 ix
      rw [f9 60 (by decide), e60, if_pos ha, if_neg (by omega)]
  · obtain ⟨y1, y2, y3⟩ := h2
    have e602 : m2 60 a = min 60 (to - fr) := by rw [y1 60 (by decide)]; exact e60
    refine ⟨fun f hf => ?_, fun j hj => ?_, e602, ?_, fun j hj => ?_⟩
    · simp only [List.mem_cons, List.not_mem_nil, or_false, not_or] at hf
      rw [y1 f (by simp only [List.mem_cons, List.not_mem_nil, or_false]; exact hf.1), f1 f (by simp only [List.mem_cons, List.not_mem_nil, or_false]; exact hf.2)]
    · rw [y1 60 (by decide), ← h1, yw_ni hj]
    · rw [e602, sg_tk, show (min 60 (to - fr)).toNat = min 60 (to - fr).toNat by omega]
      refine sg_cg _ _ _ (fun x hx => ?_)
      rw [y2 x (by omega) (by omega), f1 159 (by decide)]
    · rw [y3 j (by omega), f1 59 (by decide)]
/-- one ATTRIBUTE of a node is set, in both -/
theorem ND.setA (hd : ND n m v) (h17 : m 46 v ≠ 17) (hi : 0 ≤ i ∧ i < c ∧ c ≤ 4) (hcase : (i < m 56 v ∧ c = m 56 v ∧ anL m v i = wClass) ∨ (i = m 56 v ∧ c = m 56 v + 1))
    (hn7 : n' 7 v 12 = c ∧ ∀ s, s ≠ 12 → n' 7 v s = n 7 v s) (hn18 : n' 18 v i = pk wClass ∧ ∀ a, a ≠ i → n' 18 v a = n 18 v a) (hbt : bt n' (5 * v + 1 + i) = w ∧ ∀ b, 5 * v ≤ b → b ≤ 5 * v + 4 → b ≠ 5 * v + 1 + i → bt n' b = bt n b)
    (hF : FY [56, 57, 58, 59, 60] m m') (h56 : m' 56 v = c) (h58 : m' 58 (4 * v + i) = 5 ∧ ∀ a, a ≠ i → m' 58 (4 * v + a) = m 58 (4 * v + a)) (h60 : 0 ≤ m' 60 (4 * v + i) ∧ m' 60 (4 * v + i) ≤ 60 ∧ ∀ a, a ≠ i → m' 60 (4 * v + a) = m 60 (4 * v + a)) (hname : anL m' v i = wClass) (hval : avL m' v i = w) (hw : ∀ c ∈ w, isTx c)
    (h57 : ∀ a, 0 ≤ a → a < m 56 v → a ≠ i → ∀ j, 8 * (4 * v + a) ≤ j → j < 8 * (4 * v + a) + 8 → m' 57 j = m 57 j) (h59 : ∀ a, 0 ≤ a → a < m 56 v → a ≠ i → ∀ j, 60 * (4 * v + a) ≤ j → j < 60 * (4 * v + a) + 60 → m' 59 j = m 59 j) : ND n' m' v := by
  obtain ⟨d1, d2, d3, d4, d5, d6, d7⟩ := hd
  have oldn : ∀ a, 0 ≤ a → a < m 56 v → a ≠ i → anL m' v a = anL m v a := fun a a0 a1 ai => by
    have hb := (d4 a a0 a1).1
    unfold anL
    rw [h58.2 a ai]
    exact sg_cg _ _ _ (fun x hx => h57 a a0 a1 ai _ (by omega) (by omega))
  have oldv : ∀ a, 0 ≤ a → a < m 56 v → a ≠ i → avL m' v a = avL m v a := fun a a0 a1 ai => by
    have hb := (d4 a a0 a1).2.2.2.1
    unfold avL
    rw [h60.2.2 a ai]
    exact sg_cg _ _ _ (fun x hx => h59 a a0 a1 ai _ (by omega) (by omega))
  have e46 := hF 46 (by decide)
  have enm : nmL m' v = nmL m v := by unfold nmL; rw [hF 47 (by decide), hF 48 (by decide)]
  have hall : ∀ a, 0 ≤ a → a < m 56 v → anL m' v a = anL m v a := fun a a0 a1 => by
    by_cases z : a = i
    · rw [z, hname]
      rcases hcase with y | y
      · exact y.2.2.symm
      · omega
    · exact oldn a a0 a1 z
  refine ⟨by rw [e46, hn7.2 0 (by decide)]; exact d1, by rw [enm, hF 48 (by decide), hn7.2 1 (by decide)]; exact d2, ⟨by rw [hn7.1, h56], by omega, by omega⟩, fun a a0 a1 => ?_, fun z => absurd (by rw [e46] at z; exact z) h17, fun z => ?_, fun _ => by rw [e46, enm]; exact d7 h17⟩
  · rw [h56] at a1
    by_cases z : a = i
    · subst z
      unfold NA
      rw [hname, hval, h58.1, hn18.1, hbt.1]
      exact ⟨by decide, by decide, rfl, ⟨h60.1, h60.2.1⟩, hw, rfl⟩
    · have ha := d4 a a0 (by omega)
      unfold NA
      rw [oldn a a0 (by omega) z, oldv a a0 (by omega) z, h58.2 a z, h60.2.2 a z, hn18.2 a z, hbt.2 (5 * v + 1 + a) (by omega) (by omega) (by omega)]
      exact ha
  · rw [e46] at z
    obtain ⟨e1, e2, e3, e4, e5, e6⟩ := d6 z
    have eva : vaL m' v = vaL m v := by unfold vaL; rw [hF 64 (by decide), hF 65 (by decide)]
    rw [eva, hF 65 (by decide), hF 66 (by decide), hn7.2 16 (by decide), hn7.2 15 (by decide), hbt.2 (5 * v) (by omega) (by omega) (by omega)]
    refine ⟨e1, e2, e3, e4, e5, ?_⟩
    have hk : chkL m' v ↔ chkL m v := chkL_keep (by omega) hall (fun a a0 a1 y => by
      have : a = i := by omega
      rw [this, hname] at y
      exact absurd y (by decide)) (fun a a0 a1 y => by
      by_cases q : a = i
      · rcases hcase with u | u
        · rw [q, u.2.2] at y; exact absurd y (by decide)
        · omega
      · exact oldv a a0 a1 q)
    rcases e6 with y | y
    · exact .inl ⟨y.1, hk.mpr y.2⟩
    · exact .inr ⟨y.1, fun q => y.2 (hk.mp q)⟩
end L3
