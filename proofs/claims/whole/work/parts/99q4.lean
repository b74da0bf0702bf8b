/-! DEFAULTS: what a press does to an input -/
section Q4
variable {n n' n'' n2 : NS} {m m' m'' m0 m2 : YS} {A B N N' k b a δ δ' fr to d L r r' x f v c i M kf G G' c0 WW u0 : Int} {o e p o' e' p' κ g : Int → Int} {As Bs W S : Int → Prop}
/-- an input is ticked, or no longer -/
theorem JA.tick (h : JA As Bs A B δ G n m) (hT : JTr n m N o e p) (k0 : 0 ≤ k) (k1 : k < N) (hk : o k = v) (h13 : m 46 v = 13) (hx : x = 0 ∨ x = 1) :
    JA As Bs A B δ (G + 2) (nw n 7 v 16 x) (yw m 66 v x) ∧ FE n (nw n 7 v 16 x) m (yw m 66 v x) := by
  have hB := h.bi
  have hvb := hT.1.1.1.oB k0 k1
  rw [hk] at hvb
  have hd := hT.1.2.2.2 k k0 k1
  rw [hk] at hd
  generalize hn2 : nw n 7 v 16 x = n2
  generalize hm2 : yw m 66 v x = m2
  have kk : ∀ K, K ≠ 7 → n2 K = n K := fun K hK => by rw [← hn2, nw_nK hK]
  have k7 : ∀ u s, s ≠ 16 → n2 7 u s = n 7 u s := fun u s hs => by rw [← hn2, nw_ns hs]
  have k7' : ∀ u, u ≠ v → n2 7 u = n 7 u := fun u hu => by rw [← hn2, nw_ni hu]
  have e16 : n2 7 v 16 = x := by rw [← hn2, nw_eq]
  have hFY : ∀ g, g ≠ 66 → m2 g = m g := fun g hg => by rw [← hm2, yw_nF hg]
  have e66 : m2 66 v = x := by rw [← hm2, yw_eq]
  have btn : ∀ b, bt n2 b = bt n b := fun b => by unfold bt; rw [kk 4 (by decide), kk 99 (by decide)]
  have hnd : ND n2 m2 v := by
    have eN : nmL m2 v = nmL m v := by unfold nmL; rw [hFY 48 (by decide), hFY 47 (by decide)]
    have eA : ∀ a, anL m2 v a = anL m v a := fun a => by unfold anL; rw [hFY 57 (by decide), hFY 58 (by decide)]
    have eV : ∀ a, avL m2 v a = avL m v a := fun a => by unfold avL; rw [hFY 59 (by decide), hFY 60 (by decide)]
    have eF : ∀ w, fnd m2 v w = fnd m v w := fun w => by unfold fnd anL; rw [hFY 56 (by decide), hFY 57 (by decide), hFY 58 (by decide)]
    have eK : chkL m2 v ↔ chkL m v := by unfold chkL; rw [eF, hFY 56 (by decide), eV]
    have eva : vaL m2 v = vaL m v := by unfold vaL; rw [hFY 64 (by decide), hFY 65 (by decide)]
    obtain ⟨d1, d2, d3, d4, d5, d6, d7⟩ := hd
    unfold ND
    rw [k7 v 0 (by decide), k7 v 1 (by decide), k7 v 12 (by decide), k7 v 15 (by decide), e16, e66, hFY 46 (by decide), hFY 48 (by decide), hFY 56 (by decide), hFY 65 (by decide), eN, btn, eva]
    refine ⟨d1, d2, d3, fun a a0 a1 => ?_, fun z => by omega, fun z => ?_, d7⟩
    · have := d4 a a0 a1
      unfold NA at *
      rw [eA, eV, hFY 58 (by decide), hFY 60 (by decide), kk 18 (by decide), btn]
      exact this
    · have q := d6 z
      refine ⟨q.1, q.2.1, q.2.2.1, rfl, hx, ?_⟩
      rcases q.2.2.2.2.2 with c | c
      · exact .inl ⟨c.1, eK.mpr c.2⟩
      · exact .inr ⟨c.1, fun z => c.2 (eK.mp z)⟩
  have e10 := kk 10 (by decide)
  have hT2 : JT n2 m2 N o e p := hT.1.data k0 k1 hk (fun u s _ _ w => k7 u s w) (fun s _ => by rw [e10]) (.inl (by rw [e10])) (kk 22 (by decide)) (fun f hf => hFY f (by omega))
    (fun u hu => ⟨⟨by rw [hFY 46 (by decide)], by rw [hFY 48 (by decide)], by rw [hFY 56 (by decide)], by rw [hFY 62 (by decide)], by rw [hFY 65 (by decide)], by rw [← hm2, yw_ni hu]⟩, fun j _ _ => by rw [hFY 47 (by decide)], fun j x y => by rw [hFY 58 (by decide), hFY 60 (by decide)]; exact ⟨rfl, rfl⟩, fun j x y => by rw [hFY 57 (by decide)], fun j x y => by rw [hFY 59 (by decide)], fun j x y => by rw [hFY 61 (by decide)], fun j x y => by rw [hFY 64 (by decide)]⟩)
    (fun u u0 u1 hu => ⟨fun s _ => by rw [k7' u hu], by rw [kk 18 (by decide)], fun b _ _ => btn b⟩) hnd
  have hB2 : BI A B n2 := hB.cg (kk 4 (by decide)) (by rw [kk 5 (by decide)]; exact ⟨rfl, rfl⟩) (kk 90 (by decide)) (kk 91 (by decide)) (kk 92 (by decide)) (kk 93 (by decide))
  have frr : FRR n n2 := FRR.ks (fun K c => by
    simp only [List.mem_cons, List.not_mem_nil, or_false, not_or] at c
    exact kk K (by omega)) (by rw [e10]; exact Int.le_refl _)
  have fyr : FYR m m2 := fun f hf => hFY f (by omega)
  have liv : LIV m m2 := LIV.of (hFY 45 (by decide)) (hFY 46 (by decide)) (hFY 55 (by decide))
  have hj : JFk n n2 m m2 := ⟨⟨kk 8 (by decide), kk 28 (by decide), kk 29 (by decide)⟩, fun f hf => hFY f (by omega)⟩
  have e69 : m2 69 0 = m 69 0 := by rw [hFY 69 (by decide)]
  have hP : JP m2 N o p := by unfold JP; rw [hFY 46 (by decide)]; exact hT.2.1
  refine ⟨h.tree hT2 hP hB2 frr fyr (by rw [e10]; omega) ⟨by omega, by omega⟩ liv hj, ⟨⟨fun K c => ?_, FS.ks (kk 4 (by decide)) (kk 99 (by decide)), fun s _ => by rw [kk 0 (by decide)]⟩, fun f hf => fyr f (by omega), .inr ⟨by rw [e10], fun f a b => hFY f (by omega)⟩, .inr ⟨by rw [hFY 126 (by decide)], fun f a b => hFY f (by omega)⟩⟩, ⟨liv, OLV.of (fun f hf => hFY f (by omega)), by omega⟩, fun s _ => by rw [kk 0 (by decide)], by rw [kk 6 (by decide)], kk 46 (by decide), by rw [kk 4 (by decide)], fun f a _ _ => hFY f (by omega)⟩
  simp only [List.mem_cons, List.not_mem_nil, or_false, not_or] at c
  exact kk K (by omega)
/-- an input gets the FOCUS -/
theorem JA.foc (h : JA As Bs A B δ G n m) (hT : JTr n m N o e p) (k0 : 0 ≤ k) (k1 : k < N) (hk : o k = v) (h13 : m 46 v = 13) (hG : G < 1000000000) :
    N_Tree_markOf v n = some (m 55 v * 128 + v) ∧ JA As Bs A B δ G (nw n 0 0 6 (m 55 v * 128 + v)) (yw (yw m 150 0 v) 151 0 (m 55 v)) ∧ FE n (nw n 0 0 6 (m 55 v * 128 + v)) m (yw (yw m 150 0 v) 151 0 (m 55 v)) := by
  have hl := hT.liv k0 k1
  rw [hk] at hl
  have hbn := hT.1.born hl.1.1 hl.1.2 hl.2
  have hlk := (hT.1.1.2.2.2.2.1 k k0 k1).1.2.2.2.2.2
  rw [hk] at hlk
  have g69 : m 69 0 ≤ G := by
    obtain ⟨_, _, _, _, _, _, _, _, _, _, _, _, gg⟩ := id h
    exact gg.2.1
  have y : ∀ g, g ≠ 150 → g ≠ 151 → yw (yw m 150 0 v) 151 0 (m 55 v) g = m g := fun g a b => by rw [yw_nF b, yw_nF a]
  refine ⟨?_, h.focus (fun K hK => nw_nK hK) (fun s hs => nw_ns (by omega)) y (.inr ?_), FC.k0 (fun K a _ _ => nw_nK a) (fun s hs => nw_ns (fun w => hs (by rw [w]; decide))) (fun g a _ => y g (by omega) (by omega)) (fun g a => y g (by omega) (by omega)) (.inr (by rw [y 126 (by decide) (by decide)])), FP.of (fun g a b => y g (by omega) (by omega)), fun s hs => nw_ns hs, by rw [nw_nK (by decide)], nw_nK (by decide), by rw [nw_nK (by decide)], fun g a _ _ => y g (by omega) (by omega)⟩
  · unfold N_Tree_markOf ix ckL
    rw [hlk, if_pos hl.1, if_pos (by omega), if_pos (by omega)]
  · rw [nw_eq, yw_nF (show (150 : Nat) ≠ 151 by decide), yw_eq, yw_eq]
    refine ⟨⟨rfl, hl.1, hbn.1⟩, by rw [y 69 (by decide) (by decide)]; exact hbn.2, fun _ _ => by rw [y 46 (by decide) (by decide)]; exact h13⟩
end Q4
