/-! AN ELEMENT IS ADDED, a VALUE is set, in both -/
section L5
variable {n n' : NS} {m m' : YS} {A B N k v a d fr to L i c : Int} {o e p g : Int → Int} {w : List Int}
theorem addEl_both (hNT : NT n) (hT : JT n m N o e p) (hP : JP m N o p) (hB : BI A B n) (h0 : 0 ≤ k) (h1 : k < N) (hv : o k = v) (h17 : m 46 v ≠ 17) (h164 : m 164 0 = v) (hc : 0 ≤ n 10 0 6 ∧ n 10 0 6 < 1000000000 ∧ m 69 0 < 1000000000)
    (hs : tx n d g L) (hft : 0 ≤ fr ∧ fr < to ∧ to ≤ L ∧ L ≤ 2000 ∧ to ≤ fr + 8) (hg : ∀ j, fr ≤ j → j < to → m 159 j = g j ∧ isNm (g j)) (hN : N_Bytes_isName d fr to n = some 1) :
    ∃ n' m' N' o' e' p', N_Acts_runAdd v d fr to n = some (1, n') ∧ N_Y_addElement fr to m = some m' ∧ JT n' m' N' o' e' p' ∧ JP m' N' o' p' ∧ BI A B n' ∧ FRR n n' ∧ FYR m m' ∧ n' 10 0 6 ≤ n 10 0 6 + 1 ∧ m 69 0 ≤ m' 69 0 ∧ m' 69 0 ≤ m 69 0 + 1 ∧ LIV m m' ∧ OLV m m' ∧ LYc n n' m m' ∧ JFk n n' m m' := by
  have hG := hT.1.1
  have hvb := hG.oB h0 h1
  rw [hv] at hvb
  have htag := (hT.2.2.2 k h0 h1).1.1
  rw [hv] at htag
  have hix : ∀ {α : Type} (x : Option α), ix v 120 x = x := fun x => by unfold ix; rw [if_pos hvb]
  have eC0 : N_Node_isEmptyTag v n = N_Y_isEmptyTag (m 46 v) m := by
    unfold N_Node_isEmptyTag N_Y_isEmptyTag; rw [htag]
  obtain ⟨z, ez⟩ : ∃ z, N_Y_isEmptyTag (m 46 v) m = some z := by
    unfold N_Y_isEmptyTag
    split
    · exact ⟨_, rfl⟩
    · split
      · exact ⟨_, rfl⟩
      · exact ⟨_, rfl⟩
  have hop0 : z = 0 → opN (m 46 v) := fun y => ⟨h17, fun w => by
    unfold N_Y_isEmptyTag at ez
    rw [if_neg (show ¬ m 46 v < 10 by omega), if_neg (show ¬ 13 < m 46 v by omega)] at ez
    have := Option.some.inj ez
    omega⟩
  unfold N_Acts_runAdd N_Y_addElement
  rw [hN, h164, eC0]
  simp only [Option.bind_some, hix]
  rw [if_neg (show ¬ (1 : Int) = 0 by decide), ez]
  simp only [Option.bind_some]
  by_cases hz : z = 0
  · have hop := hop0 hz
    rw [if_pos hz, if_pos hz]
    have hroom := J_room hT.1 h0 h1
    have hfr := J_fresh hT.1 h0 h1 (by omega)
    rw [hv] at hroom hfr
    rw [hroom, hfr]
    simp only [Option.bind_some]
    by_cases hr : N < 120 ∧ m 54 v < 20
    · rw [if_pos hr, if_pos hr, if_neg (show ¬ (1 : Int) = 0 by decide)]
      have hwb : ∀ c ∈ sg g fr (to - fr).toNat, isBt c := sg_mem (P := isBt) _ _ (fun x hx => by have := (hg (fr + x) (by omega) (by omega)).2; unfold isNm at this; unfold isBt; omega)
      have epk : N_Bytes_pack d fr to n = some (pk (sg g fr (to - fr).toNat)) := by
        rw [cs_pack hs hft.2.2.1 hft.1 (by omega) (fun j a b _ => by have := (hg j a b).2; unfold isNm at this; unfold isBt; omega)]
        rw [show min (to - fr) 8 = to - fr by omega]
      rw [epk]
      simp only [Option.bind_some]
      generalize hw : sg g fr (to - fr).toNat = w at *
      rw [c_tagOf hNT hwb]
      simp only [Option.bind_some]
      have htb := tgL_b (l := w)
      have hd : m 54 (o k) < 20 := by rw [hv]; exact hr.2
      obtain ⟨g1, g2, ⟨f0, f1, f2⟩, g3⟩ := hT.grown (t := tgL w) (c := pk w) hP h0 h1 hr.1 hd (by omega) (by rw [hv]; exact hop) ⟨hc.1, by omega, by omega⟩
      have hfk : frY m ≠ o k := fun z => f2 k h0 h1 z.symm
      obtain ⟨hBn, hb0⟩ := newC_BI (n := n) (f := frY m) (k := o k) (t := tgL w) (c := pk w) hB ⟨f0, f1⟩
      have hyv := newY_v (m := m) (v := frY m) (q := o k) (d := m 54 (o k) + 1) hfk
      have fyr1 : FYR m (newY m (frY m) (o k) (m 54 (o k) + 1)) := fun f hf => by funext u; exact newY_o hfk (by omega) (by omega) (by omega)
      have frr1 := newC_FRR (n := n) (f := frY m) (k := o k) (t := tgL w) (c := pk w) ⟨f0, f1⟩
      have c106 : newC n (frY m) (o k) (tgL w) (pk w) 10 0 6 = n 10 0 6 + 1 := by rw [newC_10, if_neg (by decide), if_pos rfl]
      have cv := newC_v (n := n) (v := frY m) (q := o k) (t := tgL w) (c := pk w) hfk
      rw [hv] at g1 g2 g3 hBn hb0 hyv fyr1 frr1 c106 cv hfk
      rw [g1]
      generalize hff : frY m = f at *
      generalize hn1 : newC n f v (tgL w) (pk w) = n1 at *
      generalize hm1 : newY m f v (m 54 v + 1) = m1 at *
      have e159 : m1 159 = m 159 := fyr1 159 (by decide)
      generalize hm2 : yw m1 79 0 (to - fr) = m2
      have f12 : FY [79] m1 m2 := fun f hf => by rw [← hm2]; exact yw_nF (by simp only [List.mem_cons, List.not_mem_nil, or_false] at hf; exact hf)
      have e79 : m2 79 0 = to - fr := by rw [← hm2, yw_eq]
      obtain ⟨m3, ey3, a1, a2, a3⟩ : ev (NL_Y_addElement_41 fr f 0 m2) (fun m' => FY [78] m2 m' ∧ (∀ j, 0 ≤ j → j < to - fr → m' 78 (0 + j) = m2 159 (fr + j)) ∧ ∀ j, ¬ (0 ≤ j ∧ j < 0 + (to - fr)) → m' 78 j = m2 78 j) := by
        unfold NL_Y_addElement_41
        refine y_copy (F := 78) (G := 159) (K := to - fr) (a := 0) (b := fr) (by decide) (by omega) (fun k m9 f9 k0 k1 => ?_) (fun m9 f9 => ?_)
        · show nb_Y_addElement_41 fr f k m9 = _
          unfold nb_Y_addElement_41 ck ix st
          dsimp only
          rw [f9 79 (by decide), e79, if_pos k1, if_pos (by omega), if_pos (by omega), if_pos (by omega), if_pos (by omega), show (0 : Int) + k = k by omega]
        · show nb_Y_addElement_41 fr f (to - fr) m9 = _
          unfold nb_Y_addElement_41
          rw [f9 79 (by decide), e79, if_neg (by omega)]
      have e793 : m3 79 0 = to - fr := by rw [a1 79 (by decide)]; exact e79
      have hnm : sg (m3 78) 0 (to - fr).toNat = w := by
        rw [← hw]
        refine sg_cg _ _ _ (fun x hx => ?_)
        rw [a2 x (by omega) (by omega), f12 159 (by decide), e159]
        exact (hg _ (by omega) (by omega)).1
      have etag : N_Y_tagOf 78 0 (m3 79 0) m3 = some (tgL w) := by
        rw [e793, y_tagOf (f := 78) ⟨by decide, by omega, by show _ ≤ (8 : Int); omega, by omega⟩, hnm]
      obtain ⟨m4, ey4, b1, b2, b3, b4, b5⟩ := y_element (f := f) (t := tgL w) (m := m3) ⟨f0, f1⟩ (by rw [e793]; omega)
      rw [e793, hnm] at b4
      have f14 : FY [46, 47, 48, 78, 79] m1 m4 := fun g hg => by
        simp only [List.mem_cons, List.not_mem_nil, or_false, not_or] at hg
        rw [b1 g (by simp only [List.mem_cons, List.not_mem_nil, or_false, not_or]; omega), a1 g (by simp only [List.mem_cons, List.not_mem_nil, or_false]; omega), f12 g (by simp only [List.mem_cons, List.not_mem_nil, or_false]; omega)]
      have g34 : ∀ g, g = 46 ∨ g = 47 ∨ g = 48 → m3 g = m1 g := fun g hg => by rw [a1 g (by simp only [List.mem_cons, List.not_mem_nil, or_false]; omega), f12 g (by simp only [List.mem_cons, List.not_mem_nil, or_false]; omega)]
      have e56 : m4 56 f = 0 := by rw [f14 56 (by decide)]; exact hyv.2.2.2.2.2.2.2.2.1
      have e65 : m4 65 f = 0 := by rw [f14 65 (by decide)]; exact hyv.2.2.2.2.2.2.2.2.2.2.2.2.1
      have e66 : m4 66 f = 0 := by rw [f14 66 (by decide)]; exact hyv.2.2.2.2.2.2.2.2.2.2.2.2.2.1
      have hlw : (w.length : Int) = to - fr := by rw [← hw]; rw [sg_len]; omega
      have hnd : ND n1 m4 f := by
        refine ⟨⟨by rw [cv.1, b2.1], by rw [b2.1]; omega, by rw [b2.1]; omega⟩, ⟨by rw [b2.2, e793]; omega, by rw [b2.2, e793]; omega, by rw [b4]; exact hwb, by rw [b4]; exact cv.2.1⟩, ⟨by rw [e56]; exact cv.2.2.2.2.2.2.2.2.2.1, by rw [e56]; decide, by rw [e56]; decide⟩, fun a a0 a1 => by rw [e56] at a1; omega, fun y => by rw [b2.1] at y; omega, fun _ => ⟨by rw [e65]; decide, ?_, ?_, by rw [e66]; exact cv.2.2.2.2.2.2.2.2.2.2.2, .inl e66, .inr ⟨cv.2.2.2.2.2.2.2.2.2.2.1, fun y => by have := y.1; rw [e56] at this; have := fnd_b (m := m4) (f := f) (w := wType); omega⟩⟩, fun _ => by rw [b2.1, b4]⟩
        · unfold vaL; rw [e65]; intro c hc; cases hc
        · unfold vaL; rw [e65]; exact hb0
      have hoy : OnY f m1 m4 := ⟨fun u hu => ⟨⟨by rw [(b3 u hu).1, g34 46 (by omega)], by rw [(b3 u hu).2, g34 48 (by omega)], by rw [f14 56 (by decide)], by rw [f14 62 (by decide)], by rw [f14 65 (by decide)], by rw [f14 66 (by decide)]⟩, fun j x y => by rw [b5 j (by omega), g34 47 (by omega)], fun j _ _ => by rw [f14 58 (by decide), f14 60 (by decide)]; exact ⟨rfl, rfl⟩, fun j _ _ => by rw [f14 57 (by decide)], fun j _ _ => by rw [f14 59 (by decide)], fun j _ _ => by rw [f14 61 (by decide)], fun j _ _ => by rw [f14 64 (by decide)]⟩, fun g hg => f14 g (by simp only [List.mem_cons, List.not_mem_nil, or_false, not_or]; omega)⟩
      obtain ⟨hT', hP'⟩ := g3 n1 m4 ⟨fun u _ _ _ => NG.refl _ _, fun _ _ _ _ _ => rfl, rfl, rfl⟩ hoy hnd
      have y69 : m4 69 0 = m 69 0 + 1 := by rw [f14 69 (by decide)]; exact hyv.2.2.2.2.2.2.2.2.2.2.2.2.2.2.2
      have hliv : LIV m m4 := fun u u0 u1 x y => by
        have hu : u ≠ f := fun z => by
          rw [z, f14 55 (by decide), hyv.2.1] at y; omega
        have q : ∀ g, g = 45 ∨ g = 55 ∨ g = 46 → m1 g u = m g u := fun g hg => by rw [← hm1]; exact newY_o hfk (by omega) (by omega) (by omega)
        rw [f14 45 (by decide), q 45 (by omega)] at x
        exact ⟨x, by rw [f14 55 (by decide), q 55 (by omega)], by rw [(b3 u hu).1, g34 46 (by omega), q 46 (by omega)]⟩
      have jfk : JFk n n1 m m4 := by
        have q : ∀ K, K = 8 ∨ K = 28 ∨ K = 29 → n1 K = n K := fun K hK => by rw [← hn1]; exact newC_K (by omega)
        refine ⟨⟨q 8 (by omega), q 28 (by omega), q 29 (by omega)⟩, fun g hg => ?_⟩
        rw [f14 g (by simp only [List.mem_cons, List.not_mem_nil, or_false, not_or]; omega), ← hm1]
        funext u
        exact newY_o hfk (by omega) (by omega) (by omega)
      have holv : OLV m m4 := fun w hw u u0 u1 x => by
        by_cases hu : u = f
        · subst hu
          have h0 := fnd_b (m := m4) (f := u) (w := w)
          have e56 : m4 56 u = 0 := by rw [f14 56 (by decide)]; exact hyv.2.2.2.2.2.2.2.2.1
          have hN0 := hT.1.1.N1
          have h00 := hT.1.1.o0
          refine .inr ⟨?_, by rw [f14 55 (by decide), hyv.2.1]; omega, fun z => f2 0 (by decide) (by omega) (by rw [h00, z])⟩
          unfold olS
          rw [if_neg (by omega)]
        · have q : ∀ g, g = 45 ∨ g = 55 → m1 g u = m g u := fun g hg => by rw [← hm1]; exact newY_o hfk (by omega) (by omega) (by omega)
          rw [f14 45 (by decide), q 45 (by omega)] at x
          have yg : YG m m1 u := by rw [← hm1]; exact newY_YG hfk hu
          exact .inl ⟨x, by rw [f14 55 (by decide), q 55 (by omega)], olS_cg (hT.nd u0 u1 x) (yg.trans (hoy.1 u hu))⟩
      refine ⟨n1, m4, _, _, _, _, rfl, ?_, hT', hP', hBn, frr1, fyr1.trans (FYR.of f14 (by decide)), by omega, by omega, by omega, hliv, holv, .inl (by omega), jfk⟩
      show (if f = -1 then some m1 else ck (to - fr) (st (yw m1 79 0 (to - fr)) fun m22 => (NL_Y_addElement_41 fr f 0 m22).bind fun m25 => (N_Y_tagOf 78 0 (m25 79 0) m25).bind fun z31 => (N_Y_element f z31 m25).bind fun m35 => some m35)) = _
      unfold ck st
      dsimp only
      rw [if_neg (by omega), if_pos (by omega), hm2, ey3]
      simp only [Option.bind_some]
      rw [etag]
      simp only [Option.bind_some]
      rw [ey4]; rfl
    · rw [if_neg hr, if_neg hr, if_pos (show (0 : Int) = 0 from rfl)]
      exact ⟨n, m, N, o, e, p, rfl, rfl, hT, hP, hB, FRR.refl n, fun _ _ => rfl, by omega, Int.le_refl _, by omega, LIV.refl m, OLV.refl m, LYc.refl n m, JFk.refl n m⟩
  · rw [if_neg hz, if_neg hz]
    exact ⟨n, m, N, o, e, p, rfl, rfl, hT, hP, hB, FRR.refl n, fun _ _ => rfl, by omega, Int.le_refl _, by omega, LIV.refl m, OLV.refl m, LYc.refl n m, JFk.refl n m⟩
end L5
