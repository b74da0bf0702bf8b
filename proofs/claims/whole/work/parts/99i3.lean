/-! A NEW ELEMENT, in both: all of it -/
section I3
variable {Z : NS × YS} {n n' : NS} {m m' : YS} {A B N oc pl f k : Int} {o e p qs : Int → Int} {w : List Int}
theorem elem_both (hJ : JR Z A B n m N o e p qs oc) (hD : TD n m) (hw : sg (m 78) 0 (m 79 0).toNat = w) (h79 : 0 ≤ m 79 0 ∧ m 79 0 ≤ 8) (hwb : ∀ c ∈ w, isBt c) (hc : n 10 0 6 < 2000000000 ∧ m 69 0 < 2000000000) (h70 : m 70 0 < 90000) :
    ∃ n' m' N' o' e' p' qs' oc', nk_Reader_startTag_76 (pk w) pl (tgL w) n = some n' ∧ nk_Y_startTag_189 pl (tgL w) m = some m' ∧ JR Z A B n' m' N' o' e' p' qs' oc' ∧ n' 8 0 10 = n 8 0 10 ∧ n' 10 0 6 ≤ n 10 0 6 + 1 ∧ m' 69 0 ≤ m 69 0 + 1 ∧ m' 70 0 ≤ m 70 0 + 1 ∧ m' 76 = m 76 ∧ wtS m' ≤ wtS m + (1 + m 79 0 + rdW m) := by
  have hJ' := hJ
  obtain ⟨hB, hT, hP, hF, hS, hO, hX, h106⟩ := hJ'
  obtain ⟨o1, o2, o3, o4⟩ := hO.1
  obtain ⟨hk1, hk2, hk3, hk4, hk5, hk6⟩ := hO.2.2.1 (oc - 1) (by omega) (by omega)
  have hG := hT.1.1
  have hv := hG.oB hk1.1 hk1.2
  have hroomC := J_room hT.1 hk1.1 hk1.2
  have hfrY := J_fresh hT.1 hk1.1 hk1.2 hc.2
  by_cases hroom : N < 120 ∧ m 54 (o (qs (oc - 1))) < 20
  · rw [if_pos hroom] at hroomC hfrY
    have htb := tgL_b (l := w)
    generalize ht : tgL w = t at *
    obtain ⟨g1, g2, ⟨f0, f1, f2⟩, g3⟩ := hT.grown (t := t) (c := pk w) hP hk1.1 hk1.2 hroom.1 hroom.2 (by omega) hk5 ⟨h106.1.1, hc.1, hc.2⟩
    have hfk : frY m ≠ o (qs (oc - 1)) := fun z => f2 _ hk1.1 hk1.2 z.symm
    obtain ⟨hBn, hb0⟩ := newC_BI (n := n) (f := frY m) (k := o (qs (oc - 1))) (t := t) (c := pk w) hB ⟨f0, f1⟩
    have hyv := newY_v (m := m) (v := frY m) (q := o (qs (oc - 1))) (d := m 54 (o (qs (oc - 1))) + 1) hfk
    have y51 := newY_51 (m := m) (v := frY m) (q := o (qs (oc - 1))) (d := m 54 (o (qs (oc - 1))) + 1) (i := o (qs (oc - 1))) hfk (Ne.symm hfk)
    have y69 := hyv.2.2.2.2.2.2.2.2.2.2.2.2.2.2.2
    have y54 := hyv.2.2.1
    have y51f := hyv.2.2.2.2.2.1
    have yo : ∀ (g : Nat) (u : Int), (70 ≤ g ∨ g = 67 ∨ g = 46) ∨ (u ≠ frY m ∧ g = 54) → newY m (frY m) (o (qs (oc - 1))) (m 54 (o (qs (oc - 1))) + 1) g u = m g u := fun g u hg => newY_o hfk (by omega) (by omega) (by omega)
    have fyr1 : FYR m (newY m (frY m) (o (qs (oc - 1))) (m 54 (o (qs (oc - 1))) + 1)) := fun f hf => by funext u; exact newY_o hfk (by omega) (by omega) (by omega)
    have frr1 := newC_FRR (n := n) (f := frY m) (k := o (qs (oc - 1))) (t := t) (c := pk w) ⟨f0, f1⟩
    have c106 : newC n (frY m) (o (qs (oc - 1))) t (pk w) 10 0 6 = n 10 0 6 + 1 := by rw [newC_10, if_neg (by decide), if_pos rfl]
    have cK : ∀ K, K ≠ 7 → K ≠ 4 → K ≠ 10 → newC n (frY m) (o (qs (oc - 1))) t (pk w) K = n K := fun K a b c => newC_K ⟨a, b, c⟩
    have cv := newC_v (n := n) (v := frY m) (q := o (qs (oc - 1))) (t := t) (c := pk w) hfk
    have c712 : newC n (frY m) (o (qs (oc - 1))) t (pk w) 7 120 12 = n 7 120 12 := by rw [newC_7 hfk (by omega), if_neg (by omega), if_neg (by omega), if_neg (by omega), if_neg (by omega)]
    have c4b : ∀ a, 0 ≤ a → bt (newC n (frY m) (o (qs (oc - 1))) t (pk w)) (601 + a) = bt n (601 + a) := fun a a0 => by
      unfold bt
      rw [newC_4, newC_4, if_neg (by omega), if_neg (by omega), cK 99 (by decide) (by decide) (by decide)]
    have hek : e (qs (oc - 1)) = N := hk2
    rw [hek] at g3
    have h45 := (hT.1.fr hroom.1).2.2.2.1
    generalize hkk : qs (oc - 1) = k at *
    generalize hff : frY m = f at *
    generalize hn1 : newC n f (o k) t (pk w) = n1 at *
    generalize hm1 : newY m f (o k) (m 54 (o k) + 1) = m1 at *
    have m1f : ∀ g : Nat, (70 ≤ g ∨ g = 67 ∨ g = 46) → m1 g = m g := fun g hg => by funext u; exact yo g u (.inl hg)
    obtain ⟨n2, ec, c1, c2, c3, c4, c5, c6⟩ := c_copyAttr (f := f) hBn ⟨f0, f1⟩ (c712.trans hD.1.1) hD.1.2
    have hDf : TDf n2 m1 f := by
      refine ⟨by rw [m1f 80 (by decide)]; exact ⟨c3, hD.1.2⟩, fun a a0 a1 => ?_⟩
      rw [m1f 80 (by decide)] at a1
      obtain ⟨d1, d2, d3, d4, d5, d6⟩ := hD.2 a a0 a1
      have := c5 a a0 a1
      have er : rnL m1 a = rnL m a := by unfold rnL; rw [m1f 81 (by decide), m1f 82 (by decide)]
      have ev : rvL m1 a = rvL m a := by unfold rvL; rw [m1f 83 (by decide), m1f 84 (by decide)]
      rw [er, ev, m1f 82 (by decide), m1f 84 (by decide), this.1, this.2, c4b a a0, cK 18 (by decide) (by decide) (by decide)]
      exact ⟨d1, d2, d3, d4, d5, d6⟩
    obtain ⟨mE, eY, m6, y1, y2, y3⟩ := y_elem (m := m) (m1 := m1) (f := f) (t := t) (pl := pl) (oc := oc) ⟨o2, o3, o4⟩ (by rw [hk4]; exact hfrY) ⟨f0, f1⟩ (by rw [m1f 79 (by decide)]; exact h79) hDf (m1f 74 (by decide))
    have eC1 : nk_Reader_startTag_76 (pk w) pl t n = if t = 13 then (N_Node_startInput f n2).bind (fun n36 => nk_Reader_startTag_156 pl f f n36) else nk_Reader_startTag_156 pl f f n2 := by
      unfold nk_Reader_startTag_76 ck
      rw [o1, if_pos (by omega)]
      unfold ix
      rw [if_pos (by omega), hk3, hroomC]
      simp only [Option.bind_some]
      rw [if_neg (by decide), g1]
      show (if 0 ≤ f ∧ f < 120 then (N_Node_copyAttributes f 120 n1).bind _ else none) = _
      rw [if_pos ⟨f0, f1⟩, ec]; rfl
    have hin : ∃ n3, nk_Reader_startTag_76 (pk w) pl t n = nk_Reader_startTag_156 pl f f n3 ∧ BI A B n3 ∧ FN f n2 n3 ∧ (∀ s, s ≠ 15 → s ≠ 16 → n3 7 f s = n2 7 f s) ∧ n3 18 = n2 18 ∧ (∀ a, 0 ≤ a → a < 4 → bt n3 (5 * f + 1 + a) = bt n2 (5 * f + 1 + a)) ∧ (t = 13 → bt n3 (5 * f) = vaL m6 f ∧ n3 7 f 16 = m6 66 f ∧ bz (chkL m6 f) (n3 7 f 15)) := by
      by_cases h13 : t = 13
      · obtain ⟨n3, i0, i1, i2, i3, i4, i5, i6, i7, i8⟩ := c_startInput y2 c1 ⟨f0, f1⟩
        obtain ⟨z1, z2, z3⟩ := y1.2.2.2.2.2.1 h13
        refine ⟨n3, by rw [eC1, if_pos h13, i0]; rfl, i1, i2, i3, i4, i5, fun _ => ⟨by rw [i6, z2, c6, hb0], bz_un i8 z3, i7⟩⟩
      · exact ⟨n2, by rw [eC1, if_neg h13], c1, FN.refl f n2, fun _ _ _ => rfl, rfl, fun _ _ _ => rfl, fun z => absurd z h13⟩
    obtain ⟨n3, eC2, i1, i2, i3, i4, i5, i6⟩ := hin
    obtain ⟨q1, q2, q3, q4, q5, q6, q7⟩ := y1
    have fn3 := c2.trans i2
    have nK : ∀ K, K ∉ [4, 7, 10, 18, 90, 91, 92, 93, 99] → n3 K = n K := fun K hK => by
      simp only [List.mem_cons, List.not_mem_nil, or_false, not_or] at hK
      rw [fn3.1 K (by simp only [List.mem_cons, List.not_mem_nil, or_false, not_or]; omega), cK K (by omega) (by omega) (by omega)]
    have mK : ∀ g : Nat, 70 ≤ g → m6 g = m g := fun g hg => by rw [q1 g (by simp only [List.mem_cons, List.not_mem_nil, or_false, not_or]; omega), m1f g (by omega)]
    have e70 : n3 7 f 0 = t := by rw [i3 0 (by decide) (by decide), c4 0 (by decide)]; exact cv.1
    have enm : nmL m6 f = w := by rw [q5, m1f 78 (by decide), m1f 79 (by decide)]; exact hw
    have hND : ND n3 m6 f := by
      have hA : ATs n3 m6 f := y2.cg (i3 12 (by decide) (by decide)) (by rw [i4]) i5
      refine ⟨⟨by rw [e70]; exact q2.1.symm, by rw [q2.1]; omega, by rw [q2.1]; omega⟩, ⟨by rw [q2.2.1, m1f 79 (by decide)]; exact h79.1, by rw [q2.2.1, m1f 79 (by decide)]; exact h79.2, by rw [enm]; exact hwb, ?_⟩, hA.1, hA.2, fun z => ?_, fun z => ?_, fun _ => by rw [q2.1, enm]; exact ht.symm⟩
      · rw [enm, i3 1 (by decide) (by decide), c4 1 (by decide)]; exact cv.2.1
      · rw [q2.1] at z; omega
      · rw [q2.1] at z
        obtain ⟨z1, z2, z3⟩ := q6 z
        obtain ⟨x1, x2, x3⟩ := i6 z
        refine ⟨z1, fun c hc => ?_, x1, x2, ?_, x3⟩
        · rw [z2] at hc
          split at hc
          · next y => exact (hA.2 _ fnd_b y).2.2.2.2.1 c (List.mem_of_mem_take hc)
          · cases hc
        · rcases z3 with y | y
          · exact .inr y.1
          · exact .inl y.1
    have hOn : OnN f n1 n3 := by
      refine ⟨fun u u0 u1 hu => fn3.NG hBn ⟨f0, by omega⟩ ⟨u0, by omega⟩ hu, fun u s s1 s2 s3 => ?_, fn3.1 10 (by decide), fn3.1 22 (by decide)⟩
      by_cases z : u = f
      · rw [z, i3 s s2 s3, c4 s s1]
      · rw [(fn3.2.1 u z).1]
    have hOy : OnY f m1 m6 := ⟨q3, fun g hg => q1 g (by simp only [List.mem_cons, List.not_mem_nil, or_false, not_or]; omega)⟩
    obtain ⟨hT3, hP3⟩ := g3 n3 m6 hOn hOy hND
    have e8 := nK 8 (by decide)
    have hF3 : JF n3 m6 := by
      unfold JF at *
      rw [mK 70 (by decide), mK 71 (by decide), mK 72 (by decide), e8, nK 28 (by decide), nK 29 (by decide)]
      exact hF
    have frr3 : FRR n n3 := frr1.trans (fn3.FRR ⟨f0, by omega⟩)
    have fyr3 : FYR m m6 := fyr1.trans (FYR.of q1 (by decide))
    have hS3 : JSrc n3 m6 := hS.frr frr3 (by rw [e8]; exact ⟨rfl, rfl⟩) (mK 75 (by decide)) (mK 76 (by decide))
    have hO3 := hO.new (n' := n3) (m' := m6) (f := f) hT.1 f2 (by rw [e8]) (nK 30 (by decide)) (nK 31 (by decide)) (mK 74 (by decide)) (mK 73 (by decide)) (fun u hu => ⟨by rw [(q3 u hu).1.1, m1f 46 (by decide)], by rw [q1 54 (by decide)]; exact yo 54 u (.inr ⟨hu, rfl⟩), by rw [q4 u hu, m1f 67 (by decide)]⟩)
    rw [hkk] at hO3
    have hio : insO o N f k = o k := by unfold insO; rw [if_pos hk1.2]
    have hoN : insO o N f N = f := by unfold insO; rw [if_neg (by omega), if_pos rfl]
    have hcut : n3 8 0 11 = -1 ∨ ∃ j, 0 ≤ j ∧ j < N + 1 ∧ insO o N f j = n3 8 0 11 := by
      rw [e8]
      rcases hX.1 with y | ⟨j, y0, y1, y2⟩
      · exact .inl y
      · exact .inr ⟨j, y0, by omega, by unfold insO; rw [if_pos y1]; exact y2⟩
    have hJ3 : JR Z A B n3 m6 (N + 1) (insO o N f) (insE e k N) (insP p k N) qs oc := by
      refine ⟨i1, hT3, hP3, hF3, hS3, hO3, ?_, h106.cg frr3 fyr3⟩
      rw [hkk, hio]
      refine ⟨hcut, fun _ z => ?_⟩
      rw [q1 51 (by decide), y51, if_pos ⟨rfl, by omega⟩, q2.1] at z
      omega
    have e106 : n3 10 0 6 = n 10 0 6 + 1 := by rw [fn3.1 10 (by decide)]; exact c106
    have e69 : m6 69 0 = m 69 0 + 1 := by rw [q1 69 (by decide)]; exact y69
    have eE : N_Node_isEmptyTag f n3 = some (if 10 ≤ t ∧ t ≤ 13 then 1 else 0) := by
      unfold N_Node_isEmptyTag
      rw [e70]
      by_cases z1 : t < 10
      · rw [if_pos z1, if_neg (by omega)]
      · rw [if_neg z1]
        by_cases z2 : 13 < t
        · rw [if_pos z2, if_neg (by omega)]
        · rw [if_neg z2, if_pos (by omega)]
    have hwt : wtS m6 = wtS m + (1 + m 79 0 + rdW m) := by
      rw [wtS_new (m := m) (m' := m6) ⟨f0, f1⟩ h45 (by rw [q1 45 (by decide)]; exact hyv.1) (fun u hu => by rw [q1 45 (by decide), ← hm1]; exact newY_o hfk (by omega) (by omega) (by omega)) (fun u hu => by
        have := newY_YG (m := m) (d := m 54 (o k) + 1) hfk hu
        rw [hm1] at this
        exact this.trans (q3 u hu))]
      have e1 : ∀ a, 0 ≤ a → at1 m6 f a = rd1 m a := fun a a0 => by
        unfold at1 rd1
        rw [q2.2.2.1, m1f 80 (by decide)]
        by_cases y : a < m 80 0
        · have := q7 a a0 (by rw [m1f 80 (by decide)]; exact y)
          rw [if_pos y, if_pos y, this.1, this.2, m1f 82 (by decide), m1f 84 (by decide)]
        · rw [if_neg y, if_neg y]
      unfold wt rdW
      rw [q2.1, if_neg (by omega), q2.2.1, m1f 79 (by decide), e1 0 (by decide), e1 1 (by decide), e1 2 (by decide), e1 3 (by decide)]
    by_cases he : 10 ≤ t ∧ t ≤ 13
    · rw [if_pos he] at y3 eE
      subst y3
      refine ⟨n3, mE, N + 1, _, _, _, qs, oc, ?_, eY, hJ3, by rw [e8], by omega, by omega, by rw [mK 70 (by decide)]; omega, mK 76 (by decide), by omega⟩
      rw [eC2]; unfold nk_Reader_startTag_156
      rw [eE]
      simp only [Option.bind_some]
      rw [if_neg (by decide)]
    · rw [if_neg he] at y3 eE
      have eC3 : nk_Reader_startTag_76 (pk w) pl t n = some (nw (nw (nw n3 30 0 oc f) 31 0 oc pl) 8 0 6 (oc + 1)) := by
        rw [eC2]; unfold nk_Reader_startTag_156
        rw [eE]
        simp only [Option.bind_some]
        rw [if_pos trivial, e8, o1, if_pos (by omega)]
        unfold ix st ck
        dsimp only
        rw [if_pos (by omega), nw_nK (show (8 : Nat) ≠ 30 by decide), e8, o1, if_pos (by omega), nw_nK (show (8 : Nat) ≠ 31 by decide), nw_nK (show (8 : Nat) ≠ 30 by decide), e8, o1, if_pos (by omega)]
      generalize hn4 : nw (nw (nw n3 30 0 oc f) 31 0 oc pl) 8 0 6 (oc + 1) = n4 at *
      have fk : FRk n3 n4 := by
        rw [← hn4]
        exact ⟨fun K a _ _ b c => by rw [nw_nK a, nw_nK c, nw_nK b], by rw [nw_ns (by decide), nw_nK (by decide), nw_nK (by decide)], by rw [nw_ns (by decide), nw_nK (by decide), nw_nK (by decide)]⟩
      have n46 : n4 8 0 6 = oc + 1 := by rw [← hn4, nw_eq]
      have n4s : ∀ s, s ≠ 6 → n4 8 0 s = n3 8 0 s := fun s hs => by rw [← hn4, nw_ns hs, nw_nK (by decide), nw_nK (by decide)]
      have n430 : ∀ j, n4 30 0 j = if j = oc then f else n3 30 0 j := fun j => by
        rw [← hn4, nw_nK (by decide), nw_nK (by decide)]
        split
        · next y => rw [y, nw_eq]
        · next y => rw [nw_ns y]
      have n431 : ∀ j, n4 31 0 j = if j = oc then pl else n3 31 0 j := fun j => by
        rw [← hn4, nw_nK (by decide)]
        split
        · next y => rw [y, nw_eq]
        · next y => rw [nw_ns y, nw_nK (by decide)]
      have nK4 : ∀ K, K ≠ 8 → K ≠ 30 → K ≠ 31 → n4 K = n3 K := fun K a b c => by rw [← hn4, nw_nK a, nw_nK c, nw_nK b]
      have f4 : FY [73, 74] m6 mE := fun g hg => by
        simp only [List.mem_cons, List.not_mem_nil, or_false, not_or] at hg
        rw [y3, yw_nF hg.2, yw_nF hg.1]
      have e73 : ∀ j, mE 73 j = if j = oc then f else m6 73 j := fun j => by
        rw [y3, yw_nF (by decide)]
        split
        · next y => rw [y, yw_eq]
        · next y => rw [yw_ni y]
      have e74 : mE 74 0 = oc + 1 := by rw [y3, yw_eq]
      have hy : ∀ g, 45 ≤ g → g ≤ 69 → mE g = m6 g := fun g a b => f4 g (by simp only [List.mem_cons, List.not_mem_nil, or_false, not_or]; omega)
      have hF4 : JF n4 mE := by
        unfold JF at hF3 ⊢
        rw [n4s 3 (by decide), nK4 28 (by decide) (by decide) (by decide), nK4 29 (by decide) (by decide) (by decide), f4 70 (by decide), f4 71 (by decide), f4 72 (by decide)]
        exact hF3
      have hO4 : JO n4 mE (N + 1) (insO o N f) (insE e k N) (insP p k N) (fun j => if j = oc then N else qs j) (oc + 1) := by
        refine hO3.push (f := f) ?_ ?_ (by omega) (by omega) hoN ?_ ?_ n46 ⟨by rw [n430, if_pos rfl], fun j hj => by rw [n430, if_neg hj]⟩ ⟨by rw [n431, if_pos rfl, hy 67 (by decide) (by decide)]; exact q2.2.2.2.symm, fun j hj => by rw [n431, if_neg hj]⟩ e74 ⟨by rw [e73, if_pos rfl], fun j hj => by rw [e73, if_neg hj]⟩ (fun g hg => hy g (by omega) (by omega))
        · unfold insE; rw [if_neg (by omega), if_pos rfl]
        · unfold insP; rw [if_neg (by omega), if_pos rfl, hkk]
        · rw [hy 46 (by decide) (by decide), q2.1]; exact ⟨by omega, he⟩
        · rw [hy 54 (by decide) (by decide), q1 54 (by decide), y54, hk6]; omega
      refine ⟨n4, mE, N + 1, _, _, _, _, oc + 1, eC3, eY, hJ3.chg fk hF4 hO4 ?_ hy (f4 75 (by decide)) (f4 76 (by decide)) (FYR.of f4 (by decide)), by rw [n4s 10 (by decide), e8], by rw [nK4 10 (by decide) (by decide) (by decide)]; omega, by rw [f4 69 (by decide)]; omega, by rw [f4 70 (by decide), mK 70 (by decide)]; omega, by rw [f4 76 (by decide), mK 76 (by decide)], by have := wtS_fy f4 (by decide); omega⟩
      show JCut n4 mE (N + 1) (insO o N f) (insO o N f (if oc + 1 - 1 = oc then N else qs (oc + 1 - 1)))
      rw [if_pos (by omega), hoN]
      refine ⟨by rw [n4s 11 (by decide)]; exact hcut, fun z => ?_⟩
      rw [hy 51 (by decide) (by decide), q1 51 (by decide), y51f] at z
      exact absurd rfl z
  · rw [if_neg hroom] at hroomC hfrY
    obtain ⟨n1, m1, t1, t2, t3, t4, t5, t6, t7⟩ := hJ.tell (w := 6) (pl := pl) h70
    refine ⟨n1, m1, N, o, e, p, qs, oc, ?_, ?_, t3, t4 10 (by decide), by rw [t5.1]; omega, by rw [t6 69 (by decide)]; omega, by omega, t6 76 (by decide), by
      have := wtS_fy t6 (by decide)
      have : 0 ≤ rdW m := by
        have h1 : ∀ a, 0 ≤ a → 0 ≤ rd1 m a := fun a a0 => by
          unfold rd1
          split
          · next y => have := hD.2 a a0 y; have := this.1; have := (hD.2 a a0 y).2.2.2.1; omega
          · decide
        unfold rdW
        have := h1 0 (by decide); have := h1 1 (by decide); have := h1 2 (by decide); have := h1 3 (by decide); omega
      omega⟩
    · unfold nk_Reader_startTag_76 ck
      rw [o1, if_pos (by omega)]
      unfold ix
      rw [if_pos (by omega), hk3, hroomC]
      simp only [Option.bind_some]
      rw [if_pos trivial, t1]; rfl
    · unfold nk_Y_startTag_189 ck
      rw [o2, if_pos (by omega)]
      unfold ix
      rw [if_pos (by omega), hk4, hfrY]
      simp only [Option.bind_some]
      unfold u2
      dsimp only
      rw [if_pos rfl, t2]; rfl
end I3
