/-! ONE TEXT IN PLACE OF ALL, in both -/
section L1
variable {n n' : NS} {m m' : YS} {A B N k v a d fr to L f : Int} {o e p g : Int → Int} {F : Nat}
/-- a TEXT is made of bytes, in both -/
theorem newTx (hT : JT n m N o e p) (hP : JP m N o p) (hB : BI A B n) (h0 : 0 ≤ k) (h1 : k < N) (hv : o k = v) (hN : N < 120) (hd : m 54 v < 20) (h17 : opN (m 46 v)) (hc : 0 ≤ n 10 0 6 ∧ n 10 0 6 < 2000000000 ∧ m 69 0 < 2000000000)
    (hs : tx n d g L) (hdb : 0 ≤ d ∧ d < n 90 0 0) (hdr : ∀ b, 0 ≤ b → b ≤ 604 → n 4 b 1 ≠ d) (hft : 0 ≤ fr ∧ fr < to ∧ to ≤ L ∧ L ≤ 10000) (hF : F < 45 ∨ 88 < F) (ha : 0 ≤ a ∧ a + (to - fr) ≤ yLn F ∧ a + (to - fr) ≤ 100000) (hg : ∀ j, 0 ≤ j → j < to - fr → m F (a + j) = g (fr + j) ∧ isTx (g (fr + j))) :
    ∃ n' m' N' o' e' p', ((N_Tree_grow v 17 0 n).bind (u2 fun z42 n45 => ix z42 120 ((N_Bytes_addAll (5 * z42) d fr to n45).bind fun n53 => some n53))) = some n'
      ∧ ((N_Y_fresh v m).bind (u2 fun z29 m32 => ix z29 120 (st (yw m32 46 z29 17) fun m37 => ix z29 120 (st (yw m37 62 z29 (min 400 (to - fr))) fun m43 => (NL_Y_setText_121 F a z29 0 m43).bind fun m46 => some m46)))) = some m'
      ∧ JT n' m' N' o' e' p' ∧ JP m' N' o' p' ∧ BI A B n' ∧ FRR n n' ∧ FYR m m' ∧ n' 10 0 6 = n 10 0 6 + 1 ∧ m' 69 0 = m 69 0 + 1 ∧ LIV m m' ∧ OLV m m' ∧ JFk n n' m m' := by
  subst hv
  obtain ⟨g1, g2, ⟨f0, f1, f2⟩, g3⟩ := hT.grown (t := 17) (c := 0) hP h0 h1 hN hd (by decide) h17 hc
  have hfk : frY m ≠ o k := fun z => f2 k h0 h1 z.symm
  obtain ⟨hBn, hb0⟩ := newC_BI (n := n) (f := frY m) (k := o k) (t := 17) (c := 0) hB ⟨f0, f1⟩
  have hyv := newY_v (m := m) (v := frY m) (q := o k) (d := m 54 (o k) + 1) hfk
  have frr1 := newC_FRR (n := n) (f := frY m) (k := o k) (t := 17) (c := 0) ⟨f0, f1⟩
  have fyr1 : FYR m (newY m (frY m) (o k) (m 54 (o k) + 1)) := fun f hf => by funext u; exact newY_o hfk (by omega) (by omega) (by omega)
  have yF : newY m (frY m) (o k) (m 54 (o k) + 1) F = m F := fyr1 F (by omega)
  have c106 : newC n (frY m) (o k) 17 0 10 0 6 = n 10 0 6 + 1 := by rw [newC_10, if_neg (by decide), if_pos rfl]
  have cK : ∀ K, K ≠ 7 → K ≠ 4 → K ≠ 10 → newC n (frY m) (o k) 17 0 K = n K := fun K a b c => newC_K ⟨a, b, c⟩
  have cv := newC_v (n := n) (v := frY m) (q := o k) (t := 17) (c := 0) hfk
  have c4 : ∀ b, newC n (frY m) (o k) 17 0 4 b 1 = n 4 b 1 := fun b => by rw [newC_4, if_neg (by omega)]
  generalize hff : frY m = f at *
  generalize hn1 : newC n f (o k) 17 0 = n1 at *
  generalize hm1 : newY m f (o k) (m 54 (o k) + 1) = m1 at *
  obtain ⟨n2, ec, d1, d2, d3⟩ := cs_addAllA (b := 5 * f) (a := d) (g := g) (l := L) (i := fr) (to := to) (by omega) hBn ⟨by rw [cK 92 (by decide) (by decide) (by decide)]; exact hs.1, by rw [cK 93 (by decide) (by decide) (by decide)]; exact hs.2.1, fun j x y => by rw [cK 99 (by decide) (by decide) (by decide)]; exact hs.2.2 j x y⟩ (by rw [cK 90 (by decide) (by decide) (by decide)]; exact hdb.2) hft.1 hft.2.2.1 (by omega) (by rw [c4]; exact fun z => hdr (5 * f) (by omega) (by omega) z.symm)
  rw [hb0, List.nil_append, lim_5 (by omega)] at d3
  generalize hm2 : yw (yw m1 46 f 17) 62 f (min 400 (to - fr)) = m2
  have f12 : FY [46, 62] m1 m2 := fun g hg => by
    simp only [List.mem_cons, List.not_mem_nil, or_false, not_or] at hg
    rw [← hm2, yw_nF hg.2, yw_nF hg.1]
  have e62 : m2 62 f = min 400 (to - fr) := by rw [← hm2, yw_eq]
  have hF1 : F ≠ 61 := by omega
  obtain ⟨m3, ey, y1, y2, y3⟩ : ev (NL_Y_setText_121 F a f 0 m2) (fun m' => FY [61] m2 m' ∧ (∀ j, 0 ≤ j → j < min 400 (to - fr) → m' 61 (400 * f + j) = m2 F (a + j)) ∧ ∀ j, ¬ (400 * f ≤ j ∧ j < 400 * f + min 400 (to - fr)) → m' 61 j = m2 61 j) := by
    unfold NL_Y_setText_121
    refine y_copy (F := 61) (G := F) (K := min 400 (to - fr)) (a := 400 * f) (b := a) hF1 (by omega) (fun k m9 f9 k0 k1 => ?_) (fun m9 f9 => ?_)
    · show nb_Y_setText_121 F a f k m9 = _
      unfold nb_Y_setText_121 ck ix st
      dsimp only
      rw [f9 62 (by decide), e62, if_pos (by omega), if_pos k1, if_pos (by omega), if_pos (by omega), if_pos (by omega), if_pos (by omega), if_pos (by omega), if_pos (by omega)]
    · show nb_Y_setText_121 F a f (min 400 (to - fr)) m9 = _
      unfold nb_Y_setText_121 ix
      rw [f9 62 (by decide), e62, if_pos (by omega), if_neg (by omega)]
  have f13 : FY [46, 61, 62] m1 m3 := fun g hg => by
    simp only [List.mem_cons, List.not_mem_nil, or_false, not_or] at hg
    rw [y1 g (by simp only [List.mem_cons, List.not_mem_nil, or_false]; exact hg.2.1), f12 g (by simp only [List.mem_cons, List.not_mem_nil, or_false, not_or]; exact ⟨hg.1, hg.2.2⟩)]
  have e46 : m3 46 f = 17 := by rw [y1 46 (by decide), ← hm2, yw_nF (by decide), yw_eq]
  have e623 : m3 62 f = min 400 (to - fr) := by rw [y1 62 (by decide)]; exact e62
  have etx : txL m3 f = (sg g fr (to - fr).toNat).take 400 := by
    unfold txL
    rw [e623, sg_tk]
    rw [show (min 400 (to - fr)).toNat = min 400 (to - fr).toNat by omega]
    refine sg_cg _ _ _ (fun x hx => ?_)
    rw [y2 x (by omega) (by omega), f12 F (by simp only [List.mem_cons, List.not_mem_nil, or_false, not_or]; omega), yF]
    exact (hg x (by omega) (by omega)).1
  have hon : OnN f n1 n2 := by
    have e7 := d2.1 7 (by decide) (by decide) (by decide) (by decide) (by decide) (by decide)
    refine ⟨fun u u0 u1 hu => ⟨fun s _ => by rw [e7], by rw [d2.1 18 (by decide) (by decide) (by decide) (by decide) (by decide) (by decide)], fun b b0 b1 => (d2.bts hBn (by omega) (by omega) (fun x hx => by omega)).2.2⟩, fun u s _ _ _ => by rw [e7], d2.1 10 (by decide) (by decide) (by decide) (by decide) (by decide) (by decide), d2.1 22 (by decide) (by decide) (by decide) (by decide) (by decide) (by decide)⟩
  have hoy : OnY f m1 m3 := by
    refine ⟨fun u hu => ⟨⟨?_, by rw [f13 48 (by decide)], by rw [f13 56 (by decide)], ?_, by rw [f13 65 (by decide)], by rw [f13 66 (by decide)]⟩, fun j _ _ => by rw [f13 47 (by decide)], fun j _ _ => by rw [f13 58 (by decide), f13 60 (by decide)]; exact ⟨rfl, rfl⟩, fun j _ _ => by rw [f13 57 (by decide)], fun j _ _ => by rw [f13 59 (by decide)], fun j x y => ?_, fun j _ _ => by rw [f13 64 (by decide)]⟩, fun g hg => f13 g (by simp only [List.mem_cons, List.not_mem_nil, or_false, not_or]; omega)⟩
    · rw [y1 46 (by decide), ← hm2, yw_nF (by decide), yw_ni hu]
    · rw [y1 62 (by decide), ← hm2, yw_ni hu, yw_nF (by decide)]
    · rw [y3 j (by omega), f12 61 (by decide)]
  have hnd : ND n2 m3 f := by
    have e7 := d2.1 7 (by decide) (by decide) (by decide) (by decide) (by decide) (by decide)
    have e48 : m3 48 f = 0 := by rw [f13 48 (by decide)]; exact hyv.2.2.2.2.2.2.2.2.2.2.2.1
    have e56 : m3 56 f = 0 := by rw [f13 56 (by decide)]; exact hyv.2.2.2.2.2.2.2.2.1
    have enm : nmL m3 f = [] := by unfold nmL; rw [e48]; rfl
    refine ⟨⟨by rw [e7, cv.1, e46], by rw [e46]; decide, by rw [e46]; decide⟩, ⟨by rw [e48]; decide, by rw [e48]; decide, by rw [enm]; exact ⟨(fun c hc => (by cases hc)), by rw [e7, cv.2.1]; rfl⟩⟩, ⟨by rw [e7, e56]; exact cv.2.2.2.2.2.2.2.2.2.1, by rw [e56]; decide, by rw [e56]; decide⟩, fun a a0 a1 => by rw [e56] at a1; omega, fun _ => ⟨by rw [e623]; omega, fun c hc => ?_, ?_, e48, e56⟩, fun z => by rw [e46] at z; exact absurd z (by decide), fun z => absurd e46 z⟩
    · rw [etx] at hc
      have hc := List.mem_of_mem_take hc
      exact sg_mem (P := isTx) _ _ (fun x hx => (hg x (by omega) (by omega)).2) c hc
    · rw [etx]; exact d3
  obtain ⟨hT', hP'⟩ := g3 n2 m3 hon hoy hnd
  refine ⟨n2, m3, _, _, _, _, ?_, ?_, hT', hP', d1, frr1.trans (FRR.fb d2 (fun x hx => by omega)), fyr1.trans (FYR.of f13 (by decide)), ?_, ?_, ?_, ?_, ?_⟩
  · rw [g1]
    show ix f 120 ((N_Bytes_addAll (5 * f) d fr to n1).bind fun n53 => some n53) = _
    unfold ix
    rw [if_pos ⟨f0, f1⟩, ec]; rfl
  · rw [g2]
    show ix f 120 (st (yw m1 46 f 17) fun m37 => ix f 120 (st (yw m37 62 f (min 400 (to - fr))) fun m43 => (NL_Y_setText_121 F a f 0 m43).bind fun m46 => some m46)) = _
    unfold ix st
    dsimp only
    rw [if_pos ⟨f0, f1⟩, if_pos ⟨f0, f1⟩, hm2, ey]; rfl
  · rw [d2.1 10 (by decide) (by decide) (by decide) (by decide) (by decide) (by decide)]; exact c106
  · rw [f13 69 (by decide)]; exact hyv.2.2.2.2.2.2.2.2.2.2.2.2.2.2.2
  · intro u u0 u1 x y
    have hu : u ≠ f := fun z => by
      rw [z, f13 55 (by decide), hyv.2.1] at y; omega
    have q : ∀ g, g = 45 ∨ g = 55 ∨ g = 46 → m1 g u = m g u := fun g hg => by rw [← hm1]; exact newY_o hfk (by omega) (by omega) (by omega)
    rw [f13 45 (by decide), q 45 (by omega)] at x
    exact ⟨x, by rw [f13 55 (by decide), q 55 (by omega)], by rw [(hoy.1 u hu).1.1, q 46 (by omega)]⟩
  · intro w hw u u0 u1 x
    by_cases hu : u = f
    · subst hu
      have e56 := (hnd.2.2.2.2.1 e46).2.2.2.2
      have h0 := fnd_b (m := m3) (f := u) (w := w)
      have hN0 := hT.1.1.N1
      have h00 := hT.1.1.o0
      refine .inr ⟨?_, by rw [f13 55 (by decide), hyv.2.1]; omega, fun z => f2 0 (by decide) (by omega) (by rw [h00, z])⟩
      unfold olS
      rw [if_neg (by omega)]
    · have q : ∀ g, g = 45 ∨ g = 55 → m1 g u = m g u := fun g hg => by rw [← hm1]; exact newY_o hfk (by omega) (by omega) (by omega)
      rw [f13 45 (by decide), q 45 (by omega)] at x
      have yg : YG m m1 u := by rw [← hm1]; exact newY_YG hfk hu
      exact .inl ⟨x, by rw [f13 55 (by decide), q 55 (by omega)], olS_cg (hT.nd u0 u1 x) (yg.trans (hoy.1 u hu))⟩
  · have q : ∀ K, K = 8 ∨ K = 28 ∨ K = 29 → n2 K = n K := fun K hK => by rw [d2.1 K (by omega) (by omega) (by omega) (by omega) (by omega) (by omega), cK K (by omega) (by omega) (by omega)]
    refine ⟨⟨q 8 (by omega), q 28 (by omega), q 29 (by omega)⟩, fun g hg => ?_⟩
    rw [f13 g (by simp only [List.mem_cons, List.not_mem_nil, or_false, not_or]; omega), ← hm1]
    funext u
    exact newY_o hfk (by omega) (by omega) (by omega)
theorem setText_both (hT : JT n m N o e p) (hP : JP m N o p) (hB : BI A B n) (h0 : 0 ≤ k) (h1 : k < N) (hv : o k = v) (h17 : m 46 v ≠ 17) (h164 : m 164 0 = v) (hc : 0 ≤ n 10 0 6 ∧ n 10 0 6 < 1000000000 ∧ m 69 0 < 1000000000)
    (hs : tx n d g L) (hdb : 0 ≤ d ∧ d < n 90 0 0) (hdr : ∀ b, 0 ≤ b → b ≤ 604 → n 4 b 1 ≠ d) (hft : 0 ≤ fr ∧ fr ≤ to ∧ to ≤ L ∧ L ≤ 10000) (hF : F < 45 ∨ 88 < F) (ha : 0 ≤ a ∧ a + (to - fr) ≤ yLn F ∧ a + (to - fr) ≤ 100000) (hg : ∀ j, 0 ≤ j → j < to - fr → m F (a + j) = g (fr + j) ∧ isTx (g (fr + j))) :
    ∃ n' m' N' o' e' p', N_Tree_setText v d fr to n = some n' ∧ N_Y_setText F a (to - fr) m = some m' ∧ JT n' m' N' o' e' p' ∧ JP m' N' o' p' ∧ BI A B n' ∧ FRR n n' ∧ FYR m m' ∧ n' 10 0 6 ≤ n 10 0 6 + 2 ∧ m 69 0 ≤ m' 69 0 ∧ m' 69 0 ≤ m 69 0 + 1 ∧ LIV m m' ∧ OLV m m' ∧ LYc n n' m m' ∧ JFk n n' m m' := by
  have hG := hT.1.1
  have hvb := hG.oB h0 h1
  rw [hv] at hvb
  have hE := hG.eB h0 h1
  have htag := (hT.2.2.2 k h0 h1).1.1
  rw [hv] at htag
  have hlk := hT.1.2.2.2.2.1 k h0 h1
  rw [hv] at hlk
  have hN := hG.N1
  have hd20 := hlk.2
  have eC0 : N_Node_isEmptyTag v n = N_Y_isEmptyTag (m 46 v) m := by
    unfold N_Node_isEmptyTag N_Y_isEmptyTag; rw [htag]
  have hix : ∀ {α : Type} (x : Option α), ix v 120 x = x := fun x => by unfold ix; rw [if_pos hvb]
  unfold N_Tree_setText N_Y_setText
  rw [h164, eC0]
  simp only [hix]
  have same : ∀ X : Option NS, ∀ Y : Option YS, X = some n → Y = some m → ∃ n' m' N' o' e' p', X = some n' ∧ Y = some m' ∧ JT n' m' N' o' e' p' ∧ JP m' N' o' p' ∧ BI A B n' ∧ FRR n n' ∧ FYR m m' ∧ n' 10 0 6 ≤ n 10 0 6 + 2 ∧ m 69 0 ≤ m' 69 0 ∧ m' 69 0 ≤ m 69 0 + 1 ∧ LIV m m' ∧ OLV m m' ∧ LYc n n' m m' ∧ JFk n n' m m' := fun X Y x y => ⟨n, m, N, o, e, p, x, y, hT, hP, hB, FRR.refl n, fun _ _ => rfl, by omega, Int.le_refl _, by omega, LIV.refl m, OLV.refl m, LYc.refl n m, JFk.refl n m⟩
  obtain ⟨z, ez⟩ : ∃ z, N_Y_isEmptyTag (m 46 v) m = some z := by
    unfold N_Y_isEmptyTag
    split
    · exact ⟨_, rfl⟩
    · split
      · exact ⟨_, rfl⟩
      · exact ⟨_, rfl⟩
  have hop0 : z = 0 → opN (m 46 v) := fun y => ⟨h17, fun w => by
    unfold N_Y_isEmptyTag at ez
    rw [if_neg (show ¬ m 46 v < 10 by omega), if_neg (show ¬ 13 < m 46 v by omega)] at ez
    have := Option.some.inj ez
    omega⟩
  rw [ez]
  simp only [Option.bind_some]
  by_cases hz : z = 0
  · have hop := hop0 hz
    rw [if_pos hz, if_pos hz, hlk.1.2.2.2.2.1]
    by_cases h20 : m 54 v = 20
    · rw [if_neg (show ¬ m 54 v < 20 by omega)]
      refine same _ _ rfl ?_
      rw [if_pos h20]
    · rw [if_pos (show m 54 v < 20 by omega)]
      obtain ⟨n12, n31, m31, N', o', e', p', el, ⟨q8, q9⟩, ef, eY, t1, t2, t3, t4, t5, t6, t7, t8, t9, t10, t11, t12⟩ := clear_both (F := F) (a := a) (b := to - fr) hT hP hB h0 h1 hv hc.1 hc.2.1
      have w8 : nw (nw (nw n12 7 v 3 (-1)) 7 v 4 (-1)) 7 v 6 0 7 v 8 = k := by rw [nw_ns (by decide), nw_ns (by decide), nw_ns (by decide)]; exact q8
      have w9 : nw (nw (nw n12 7 v 3 (-1)) 7 v 4 (-1)) 7 v 6 0 7 v 9 = e k := by rw [nw_ns (by decide), nw_ns (by decide), nw_ns (by decide)]; exact q9
      have frr : FRR n n31 := FRR.ks (fun K c => by
        simp only [List.mem_cons, List.not_mem_nil, or_false, not_or] at c
        exact t8 K (by omega) (by omega) (by omega)) (by omega)
      have fyr : FYR m m31 := FYR.of t11 (by decide)
      have jfk : JFk n n31 m m31 := ⟨⟨t8 8 (by decide) (by decide) (by decide), t8 28 (by decide) (by decide) (by decide), t8 29 (by decide) (by decide) (by decide)⟩, fun f hf => t11 f (by simp only [List.mem_cons, List.not_mem_nil, or_false, not_or]; omega)⟩
      have e69 : m31 69 0 = m 69 0 := by rw [t11 69 (by decide)]
      have ov : OLV m m31 := OLV.of2 (fun f hf => t11 f (by simp only [List.mem_cons, List.not_mem_nil, or_false, not_or]; omega)) (fun u u0 u1 x => (t12 u u0 u1 x (by have := t1.born u0 u1 x; omega)).1)
      have eC : ∀ X : NS → Option NS, ((N_Tree_list n).bind fun n12 => st (nw n12 7 v 3 (-1)) fun n16 => st (nw n16 7 v 4 (-1)) fun n20 => st (nw n20 7 v 6 0) fun n24 => ck (n24 7 v 8 + 1) ((N_Tree_free (n24 7 v 8 + 1) (n24 7 v 9) n24).bind X)) = X n31 := fun X => by
        rw [el]
        show ck (nw (nw (nw n12 7 v 3 (-1)) 7 v 4 (-1)) 7 v 6 0 7 v 8 + 1) ((N_Tree_free (nw (nw (nw n12 7 v 3 (-1)) 7 v 4 (-1)) 7 v 6 0 7 v 8 + 1) (nw (nw (nw n12 7 v 3 (-1)) 7 v 4 (-1)) 7 v 6 0 7 v 9) (nw (nw (nw n12 7 v 3 (-1)) 7 v 4 (-1)) 7 v 6 0)).bind X) = _
        unfold ck
        rw [w8, w9, if_pos (by omega), ef]; rfl
      rw [eC, if_neg h20]
      have hroom := J_room t1.1 h0 t5
      rw [t6] at hroom
      have e54 : m31 54 v = m 54 v := by rw [t11 54 (by decide)]
      rw [e54] at hroom
      have e46 : m31 46 v = m 46 v := by rw [t11 46 (by decide)]
      have hfk := hG.fkE h0 h1
      rw [hv] at hfk
      by_cases hlen : fr < to
      · rw [if_pos hlen, if_pos (show 0 < to - fr by omega), hroom]
        simp only [Option.bind_some]
        by_cases hN' : N' < 120
        · rw [if_pos (show N' < 120 ∧ m 54 v < 20 from ⟨hN', by omega⟩), if_neg (show ¬ (1 : Int) = 0 by decide)]
          obtain ⟨n', m', N2, o2, e2, p2, x1, x2, x3, x4, x5, x6, x7, x8, x9, x10, x11, x12⟩ := newTx (F := F) (a := a) (d := d) (fr := fr) (to := to) (L := L) (g := g) t1 t2 t3 h0 t5 t6 hN' (by omega) (by rw [e46]; exact hop) (by rw [t9, e69]; omega) ⟨by rw [t8 92 (by decide) (by decide) (by decide)]; exact hs.1, by rw [t8 93 (by decide) (by decide) (by decide)]; exact hs.2.1, by rw [t8 99 (by decide) (by decide) (by decide)]; exact hs.2.2⟩ (by rw [t8 90 (by decide) (by decide) (by decide)]; exact hdb) (by rw [t8 4 (by decide) (by decide) (by decide)]; exact hdr) ⟨hft.1, hlen, hft.2.2⟩ hF ha (fun j x y => by rw [t11 F (by simp only [List.mem_cons, List.not_mem_nil, or_false, not_or]; omega)]; exact hg j x y)
          refine ⟨n', m', N2, o2, e2, p2, x1, ?_, x3, x4, x5, frr.trans x6, fyr.trans x7, by omega, by omega, by omega, t12.trans x10 (by omega), ov.trans x11 x10 (by omega), .inl (by omega), jfk.trans x12⟩
          by_cases h68 : m 68 0 = 120
          · rw [if_pos h68, if_neg (show ¬ m 50 v = -1 by
              rw [hfk]
              have := hT.1.2.2.2.2.2.2.1
              split
              · next y => have := hG.oB (k := k + 1) (by omega) (by omega); omega
              · next y => omega), eY]
            simp only [Option.bind_some]
            rw [if_neg (show ¬ to - fr = 0 by omega)]; exact x2
          · rw [if_neg h68, eY]
            simp only [Option.bind_some]
            rw [if_neg (show ¬ to - fr = 0 by omega)]; exact x2
        · rw [if_neg (show ¬ (N' < 120 ∧ m 54 v < 20) from fun y => hN' y.1), if_pos (show (0 : Int) = 0 from rfl)]
          have h68 := hT.1.2.2.2.2.2.2.1
          have hk1 : e k = k + 1 := by omega
          have hm50 : m 50 v = -1 := by rw [hfk, if_neg (by omega)]
          have hmm : m31 = m := by
            have : NL_Y_setText_57 F a (to - fr) v m = some m := by
              unfold NL_Y_setText_57
              refine it_inr ?_
              show nb_Y_setText_57 F a (to - fr) v m = _
              unfold nb_Y_setText_57 ix
              rw [if_pos hvb, if_pos hm50]
            rw [this] at eY
            cases eY; rfl
          rw [hmm] at t1 t2
          refine ⟨n31, m, N', o', e', p', rfl, ?_, t1, t2, t3, frr, fun _ _ => rfl, by omega, Int.le_refl _, by omega, LIV.refl m, OLV.refl m, .inl (by omega), ⟨jfk.1, fun _ _ => rfl⟩⟩
          rw [if_pos (show m 68 0 = 120 by omega), if_pos hm50]
      · rw [if_neg hlen, if_neg (show ¬ 0 < to - fr by omega), eY]
        simp only [Option.bind_some]
        rw [if_pos (show to - fr = 0 by omega)]
        exact ⟨n31, m31, N', o', e', p', rfl, rfl, t1, t2, t3, frr, fyr, by omega, by omega, by omega, t12, ov, .inl (by omega), jfk⟩
  · rw [if_neg hz, if_neg hz]
    exact same _ _ rfl rfl
end L1
