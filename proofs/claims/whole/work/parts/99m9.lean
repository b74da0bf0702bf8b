/-! STEPS ON A NODE: del, val -/
section M9
variable {n n' n'' : NS} {m m' m'' : YS} {A B N N' k v b δ G G' fr to d L : Int} {o e p o' e' p' : Int → Int} {As Bs W S : Int → Prop} {κ κ' : Int → Int}
theorem FA.jt (hT : JT n m N o e p) (hT' : JT n' m' N' o' e' p') (hF : FY [45, 68, 50, 51, 52, 53] m m') (hsub : ∀ j, 0 ≤ j → j < N' → ∃ i, 0 ≤ i ∧ i < N ∧ o i = o' j) : LIV m m' ∧ OLV m m' := by
  have al : ∀ u, 0 ≤ u → u < 120 → m' 45 u = 1 → m 45 u = 1 := fun u u0 u1 x => by
    obtain ⟨j, j0, j1, hj⟩ := (hT'.1.2.2.2.1 u u0 u1).2.1.mp x
    obtain ⟨i, i0, i1, hi⟩ := hsub j j0 j1
    exact (hT.1.2.2.2.1 u u0 u1).2.1.mpr ⟨i, i0, i1, hi.trans hj⟩
  exact ⟨fun u u0 u1 x _ => ⟨al u u0 u1 x, by rw [hF 55 (by decide)], by rw [hF 46 (by decide)]⟩, OLV.of2 (fun f hf => hF f (by simp only [List.mem_cons, List.not_mem_nil, or_false, not_or]; omega)) al⟩
theorem opDel (h : JA As Bs A B δ G n m) (hG : G < 600000000) (hT : JTr n m N o e p) (k0 : 0 ≤ k) (k1 : k < N) (hk : o k = v) :
    DON As Bs A B δ G n m ((N_Tree_remove v n).bind fun n18 => some (1, n18)) (if 0 < v then (N_Y_remove v m).bind fun m12 => (N_Y_changed m12).bind fun m16 => some (1, m16) else some (1, m)) := by
  have hB := h.bi
  have hg := h
  obtain ⟨_, _, _, _, _, _, _, _, _, _, _, _, g⟩ := hg
  have hG1 := hT.1.1.1
  by_cases hk0 : k = 0
  · have hv : v = 0 := by rw [← hk, hk0]; exact hG1.1.2.2.1
    rw [if_neg (by omega)]
    refine ⟨1, n, m, ?_, rfl, .inr rfl, h.mono (by omega), FA.refl n m⟩
    have hp : n 7 0 2 = -1 := by
      have := (hT.1.1.2.2.2.2.1 0 (by decide) (by have := hG1.N1; omega)).1.1
      rw [hG1.1.2.2.1] at this
      rw [this]
      have h5 := hG1.1.2.2.2.2.1
      rw [hG1.1.2.2.1] at h5; exact h5
    unfold N_Tree_remove ix
    rw [hv, if_pos (by decide), if_pos hp]; rfl
  · have hvb := hG1.oB k0 k1
    rw [hk] at hvb
    have hv : v ≠ 0 := fun z => by
      have : o k = o 0 := by rw [hk, z]; exact hG1.1.2.2.1.symm
      exact hk0 (hG1.inj k0 k1 (by decide) (by have := hG1.N1; omega) this)
    rw [if_pos (by omega)]
    obtain ⟨n', m', x1, x2, x3, x4, x5, x6, x7, x8⟩ := hT.1.remove hT.2.1 hB (by omega) k1 ⟨hT.2.2.2, by have := g.1; omega⟩
    rw [hk] at x1 x2
    have hE := hG1.eB k0 k1
    obtain ⟨liv, olv⟩ := FA.jt hT.1 x3 x8 (fun j j0 j1 => by
      unfold delO
      by_cases z : j < k
      · rw [if_pos z]; exact ⟨j, j0, by omega, rfl⟩
      · rw [if_neg z]; exact ⟨j + (e k - k), by omega, by omega, rfl⟩)
    have frr : FRR n n' := FRR.ks (fun K c => by
      simp only [List.mem_cons, List.not_mem_nil, or_false, not_or] at c
      exact x7.1 K (by omega) (by omega) (by omega)) (by omega)
    have hj : JFk n n' m m' := ⟨⟨x7.1 8 (by decide) (by decide) (by decide), x7.1 28 (by decide) (by decide) (by decide), x7.1 29 (by decide) (by decide) (by decide)⟩, fun f hf => x8 f (by simp only [List.mem_cons, List.not_mem_nil, or_false, not_or]; omega)⟩
    have e69 : m' 69 0 = m 69 0 := by rw [x8 69 (by decide)]
    have fyr : FYR m m' := FYR.of x8 (by decide)
    refine ⟨1, n', yw m' 126 0 0, by rw [x1]; rfl, by rw [x2]; rfl, .inr rfl, ((h.tree x3 x4 x5 frr fyr (by omega) ⟨by omega, by omega⟩ liv hj).mono (by omega)).chd, ?_⟩
    refine ⟨⟨fun K c => frr.1 K (by simp only [List.mem_cons, List.not_mem_nil, or_false, not_or] at c ⊢; omega), FS.frr frr hB (fun x _ h => .inr (.inl h)), fun s _ => by rw [frr.1 0 (by decide)], by rw [frr.1 6 (by decide)]⟩, fun f hf => by rw [yw_nF (by omega)]; exact fyr f (by omega), .inl (by omega), .inl yw_eq, fun u u0 u1 x y => ?_, olv.trans (OLV.of (fun f hf => yw_nF (by omega))) (LIV.of (yw_nF (by decide)) (yw_nF (by decide)) (yw_nF (by decide))) (by omega), by rw [yw_nF (by decide)]; omega⟩
    · rw [yw_nF (by decide)] at x y
      have := liv u u0 u1 x y
      rw [yw_nF (by decide), yw_nF (by decide)]; exact this
theorem opVal (h : JA As Bs A B δ G n m) (hG : G < 600000000) (hR : JRn n m) (hT : JTr n m N o e p) (k0 : 0 ≤ k) (k1 : k < N) (hk : o k = v) (h164 : m 164 0 = v) (h126 : m 126 0 = 0) (hf : 0 ≤ fr ∧ fr ≤ to ∧ to ≤ m 160 0) :
    DON As Bs A B δ G n m (if n 7 v 0 = 13 then (N_Node_setValue v (n 4 609 1) fr to n).bind fun n59 => some (1, n59) else some (1, n)) (if m 46 v = 13 then st (yw m 65 v (min 24 (to - fr))) fun m44 => (NL_Y_step_489 fr 0 m44).bind fun m47 => some (1, m47) else some (1, m)) := by
  have hB := h.bi
  obtain ⟨r1, r2, r3, r4, r5⟩ := hR
  have hrow := JRn.row hB
  have hvb := hT.1.1.1.oB k0 k1
  rw [hk] at hvb
  have hd := hT.1.2.2.2 k k0 k1
  rw [hk] at hd
  have h46 := hd.1
  rw [h46.1]
  by_cases h13 : m 46 v = 13
  · rw [if_pos h13, if_pos h13]
    obtain ⟨n1, e1, a1, a2, a3⟩ := cs_clear (b := 5 * v) (by omega) hB
    have tx1 : tx n1 (n 4 609 1) (m 159) (m 160 0) := a2.tx r2 hrow.1.2 (fun b hb => by subst hb; exact fun z => hrow.2 _ (by omega) (by omega) (by omega) z.symm)
    obtain ⟨n2, e2, b1, b2, b3⟩ := cs_addAllA (b := 5 * v) (a := n 4 609 1) (g := m 159) (l := m 160 0) (i := fr) (to := min to (fr + 24)) (by omega) a1 tx1 (by have := a2.2.2.1; omega) hf.1 (by omega) (by omega) (fun z => by
      rcases a2.2.2.2.2.2 (5 * v) rfl with y | y
      · rw [y] at z; exact hrow.2 _ (by omega) (by omega) (by omega) z.symm
      · omega)
    have fb := a2.trans b2
    rw [a3, List.nil_append, lim_5 (by omega)] at b3
    have hval : bt n2 (5 * v) = sg (m 159) fr (min 24 (to - fr)).toNat := by
      rw [b3, show (min to (fr + 24) - fr).toNat = (min 24 (to - fr)).toNat by omega]
      exact List.take_of_length_le (by rw [sg_len]; omega)
    have eC : N_Node_setValue v (n 4 609 1) fr to n = some n2 := by
      unfold N_Node_setValue ck
      rw [e1]
      simp only [Option.bind_some]
      rw [if_pos (by omega), e2]; rfl
    generalize hm1 : yw m 65 v (min 24 (to - fr)) = m1
    have f1 : FY [65] m m1 := fun f hf => by rw [← hm1]; exact yw_nF (by simp only [List.mem_cons, List.not_mem_nil, or_false] at hf; exact hf)
    have e65 : m1 65 v = min 24 (to - fr) := by rw [← hm1, yw_eq]
    have e164 : m1 164 0 = v := by rw [f1 164 (by decide)]; exact h164
    obtain ⟨m2, ey, y1, y2, y3⟩ : ev (NL_Y_step_489 fr 0 m1) (fun m' => FY [64] m1 m' ∧ (∀ j, 0 ≤ j → j < min 24 (to - fr) → m' 64 (24 * v + j) = m1 159 (fr + j)) ∧ ∀ j, ¬ (24 * v ≤ j ∧ j < 24 * v + min 24 (to - fr)) → m' 64 j = m1 64 j) := by
      unfold NL_Y_step_489
      refine y_copy (F := 64) (G := 159) (K := min 24 (to - fr)) (a := 24 * v) (b := fr) (by decide) (by omega) (fun t m9 f9 t0 t1 => ?_) (fun m9 f9 => ?_)
      · show nb_Y_step_489 fr t m9 = _
        unfold nb_Y_step_489 ck ix st
        dsimp only
        rw [f9 164 (by decide), e164, f9 65 (by decide), e65, if_pos (by omega), if_pos t1, if_pos (by omega), if_pos (by omega), if_pos (by omega), if_pos (by omega), if_pos (by omega), if_pos (by omega)]
      · show nb_Y_step_489 fr (min 24 (to - fr)) m9 = _
        unfold nb_Y_step_489 ix
        rw [f9 164 (by decide), e164, f9 65 (by decide), e65, if_pos (by omega), if_neg (by omega)]
    have hFY : FY [64, 65] m m2 := fun f hf => by
      simp only [List.mem_cons, List.not_mem_nil, or_false, not_or] at hf
      rw [y1 f (by simp only [List.mem_cons, List.not_mem_nil, or_false]; exact hf.1), f1 f (by simp only [List.mem_cons, List.not_mem_nil, or_false]; exact hf.2)]
    have e652 : m2 65 v = min 24 (to - fr) := by rw [y1 65 (by decide)]; exact e65
    have eva : vaL m2 v = sg (m 159) fr (min 24 (to - fr)).toNat := by
      unfold vaL
      rw [e652]
      refine sg_cg _ _ _ (fun x hx => ?_)
      rw [y2 x (by omega) (by omega), f1 159 (by decide)]
    have k7 : ∀ K, K ≠ 4 → K ≠ 90 → K ≠ 91 → K ≠ 92 → K ≠ 93 → K ≠ 99 → n2 K = n K := fb.1
    have n7 : n2 7 = n 7 := k7 7 (by decide) (by decide) (by decide) (by decide) (by decide) (by decide)
    have btn : ∀ b, 0 ≤ b → b ≤ 631 → b ≠ 5 * v → bt n2 b = bt n b := fun b x y z => (fb.bts hB ⟨x, y⟩ z (fun x hx => by omega)).2.2
    have hnd : ND n2 m2 v := by
      have eN : nmL m2 v = nmL m v := by unfold nmL; rw [hFY 48 (by decide), hFY 47 (by decide)]
      have eA : ∀ a, anL m2 v a = anL m v a := fun a => by unfold anL; rw [hFY 57 (by decide), hFY 58 (by decide)]
      have eV : ∀ a, avL m2 v a = avL m v a := fun a => by unfold avL; rw [hFY 59 (by decide), hFY 60 (by decide)]
      have eF : ∀ w, fnd m2 v w = fnd m v w := fun w => by unfold fnd anL; rw [hFY 56 (by decide), hFY 57 (by decide), hFY 58 (by decide)]
      have eK : chkL m2 v ↔ chkL m v := by unfold chkL; rw [eF, hFY 56 (by decide), eV]
      obtain ⟨d1, d2, d3, d4, d5, d6, d7⟩ := hd
      unfold ND
      rw [n7, hFY 46 (by decide), hFY 48 (by decide), hFY 56 (by decide), hFY 66 (by decide), eN]
      refine ⟨d1, d2, d3, fun a a0 a1 => ?_, fun z => by omega, fun z => ?_, d7⟩
      · have := d4 a a0 a1
        unfold NA at *
        rw [eA, eV, hFY 58 (by decide), hFY 60 (by decide), k7 18 (by decide) (by decide) (by decide) (by decide) (by decide) (by decide), btn _ (by omega) (by omega) (by omega)]
        exact this
      · have q := d6 z
        refine ⟨by rw [e652]; omega, ?_, by rw [eva]; exact hval, q.2.2.2.1, q.2.2.2.2.1, ?_⟩
        · rw [eva]
          exact sg_mem (P := isTx) _ _ (fun x hx => r3 _ (by omega) (by omega))
        · rcases q.2.2.2.2.2 with c | c
          · exact .inl ⟨c.1, eK.mpr c.2⟩
          · exact .inr ⟨c.1, fun z => c.2 (eK.mp z)⟩
    have e10 : n2 10 = n 10 := k7 10 (by decide) (by decide) (by decide) (by decide) (by decide) (by decide)
    have hT2 : JT n2 m2 N o e p := hT.1.data k0 k1 hk (fun u s _ _ _ => by rw [n7]) (fun s _ => by rw [e10]) (.inl (by rw [e10])) (k7 22 (by decide) (by decide) (by decide) (by decide) (by decide) (by decide)) (fun f hf => hFY f (by simp only [List.mem_cons, List.not_mem_nil, or_false, not_or]; omega))
      (fun u hu => ⟨⟨by rw [hFY 46 (by decide)], by rw [hFY 48 (by decide)], by rw [hFY 56 (by decide)], by rw [hFY 62 (by decide)], by rw [y1 65 (by decide), ← hm1, yw_ni hu], by rw [hFY 66 (by decide)]⟩, fun j _ _ => by rw [hFY 47 (by decide)], fun j x y => by rw [hFY 58 (by decide), hFY 60 (by decide)]; exact ⟨rfl, rfl⟩, fun j x y => by rw [hFY 57 (by decide)], fun j x y => by rw [hFY 59 (by decide)], fun j _ _ => by rw [hFY 61 (by decide)], fun j x y => by rw [y3 j (by omega), f1 64 (by decide)]⟩)
      (fun u u0 u1 hu => ⟨fun s _ => by rw [n7], by rw [k7 18 (by decide) (by decide) (by decide) (by decide) (by decide) (by decide)], fun b x y => btn b (by omega) (by omega) (by omega)⟩) hnd
    have frr : FRR n n2 := FRR.fb fb (fun x hx => by omega)
    have fyr : FYR m m2 := FYR.of hFY (by decide)
    have liv : LIV m m2 := LIV.of (hFY 45 (by decide)) (hFY 46 (by decide)) (hFY 55 (by decide))
    have hj : JFk n n2 m m2 := ⟨⟨k7 8 (by decide) (by decide) (by decide) (by decide) (by decide) (by decide), k7 28 (by decide) (by decide) (by decide) (by decide) (by decide) (by decide), k7 29 (by decide) (by decide) (by decide) (by decide) (by decide) (by decide)⟩, fun f hf => hFY f (by simp only [List.mem_cons, List.not_mem_nil, or_false, not_or]; omega)⟩
    have e69 : m2 69 0 = m 69 0 := by rw [hFY 69 (by decide)]
    have hP : JP m2 N o p := by unfold JP; rw [hFY 46 (by decide)]; exact hT.2.1
    refine ⟨1, n2, m2, by rw [eC]; rfl, ?_, .inr rfl, (h.tree hT2 hP b1 frr fyr (by rw [e10]; omega) ⟨by omega, by omega⟩ liv hj).mono (by omega), FA.tree hB frr fyr liv (OLV.of (fun f hf => hFY f (by simp only [List.mem_cons, List.not_mem_nil, or_false, not_or]; omega))) (.inr ⟨by rw [e10], fun f a b => hFY f (by simp only [List.mem_cons, List.not_mem_nil, or_false, not_or]; omega)⟩) (by omega) (.inl h126)⟩
    unfold st
    dsimp only
    rw [ey]; rfl
  · rw [if_neg h13, if_neg h13]
    exact ⟨1, n, m, rfl, rfl, .inr rfl, h.mono (by omega), FA.refl n m⟩
end M9
