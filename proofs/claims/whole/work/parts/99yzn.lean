/-! THE CONSTRUCTORS: the reference's rows -/
/-- the reference's cells up to K are made over g0 -/
def YB (g0 : g_S) (fi : Nat → Int32) (R : Nat → Nat → Int32) (g : g_S) (K c : Nat) : Prop :=
  (gn g = K ∧ 1839 ≤ K ∧ K ≤ 1953 ∧ gt g 1838 = 112 ∧ (∀ k, gi g 1838 k = fi k) ∧ gz g = gz g0 + c)
  ∧ (∀ q, q < 1838 ∨ K ≤ q → gt g q = gt g0 q ∧ gl g q = gl g0 q ∧ (∀ k, gi g q k = gi g0 q k) ∧ (∀ k, gj g q k = gj g0 q k) ∧ ∀ k, gr g q k = gr g0 q k)
  ∧ (∀ k, k < 186 → yT k ≠ 9 → yAd k < K → gr g 1838 k = some (yAd k) ∧ gt g (yAd k) = yT k ∧ gl g (yAd k) = yLn k ∧ ∀ i, gi g (yAd k) i = R k i)
def upR (R : Nat → Nat → Int32) (k j : Nat) (v : Int32) : Nat → Nat → Int32 := fun k' j' => if k' = k ∧ j' = j then v else R k' j'
def upf (f : Nat → Int32) (k : Nat) (v : Int32) : Nat → Int32 := fun j => if j = k then v else f j
def R0' : Nat → Nat → Int32 := fun _ _ => 0
section YZN
variable {g g0 g' : g_S} {K q k t l p j c d : Nat} {fi : Nat → Int32} {R : Nat → Nat → Int32} {α β : Type} {Q : α → Prop} {n : NS} {m : YS}
theorem gz_same (h1 : g'.1 = g.1) (h2 : g'.2.1 = g.2.1) (h3 : g'.2.2.1 = g.2.2.1) : gz g' = gz g := by
  unfold gz gn gl
  rw [h1, h2, h3]
theorem yA_lo : ∀ k, k < 186 → yT k ≠ 9 → 1839 ≤ yAd k ∧ yAd k < 1953 := by decide +kernel
theorem yA_on : ∀ q, q < 114 → ∃ k, k < 186 ∧ yT k ≠ 9 ∧ yAd k = 1839 + q := by decide +kernel
theorem yb_row {F : g_S → Option α} {x : Int32} (h : YB g0 fi R0' g K c) (hk : k < 186) (h9 : yT k ≠ 9) (hA : yAd k = K) (hK : K < 1953) (ht : yT k = t) (hl : yLn k = x.toNatClampNeg) (hx : ¬ x < 0 ∧ x.toNatClampNeg * 8 ≤ 536870912) (hd : d = c + cz1 t x.toNatClampNeg) (cc : ∀ g', YB g0 fi R0' g' (K + 1) d → ev (F g') Q) : ev (c2 (nA g t x) fun z g1 => (wR g1 112 1838 k (some z)).bind F) Q := by
  obtain ⟨⟨a1, a2, a3, a4, a5, a6⟩, b, c'⟩ := h
  have e1 : nA g t x = some (K, gnew g t x.toNatClampNeg) := by unfold nA; rw [a1, if_pos ⟨hx.1, hx.2, by omega⟩]
  rw [e1]
  have tn : ∀ q, gt (gnew g t x.toNatClampNeg) q = if q = K then t else gt g q := fun q => by rw [gt_new, a1]
  have e2 : wR (gnew g t x.toNatClampNeg) 112 1838 k (some K) = some (gwR (gnew g t x.toNatClampNeg) 1838 k (some K)) := by
    have e3 : gt (gnew g t x.toNatClampNeg) 1838 = 112 := by rw [tn, if_neg (by omega)]; exact a4
    unfold wR
    rw [if_pos e3]
  show ev ((wR (gnew g t x.toNatClampNeg) 112 1838 k (some K)).bind F) Q
  rw [e2]
  refine cc _ ⟨⟨?_, by omega, by omega, ?_, fun k' => ?_, ?_⟩, fun q hq => ?_, fun k' hk' h9' hA' => ?_⟩
  · show gn g + 1 = K + 1; rw [a1]
  · show gt (gnew g t x.toNatClampNeg) 1838 = 112
    rw [tn, if_neg (by omega)]; exact a4
  · show gi (gnew g t x.toNatClampNeg) 1838 k' = fi k'
    rw [gi_new, a1, if_neg (by omega)]; exact a5 k'
  · show gz (gnew g t x.toNatClampNeg) = _
    rw [gz_new, a6, hd]; omega
  · have hb := b q (by omega)
    have hne : q ≠ K := by omega
    refine ⟨?_, ?_, fun k' => ?_, fun k' => ?_, fun k' => ?_⟩
    · show gt (gnew g t x.toNatClampNeg) q = _
      rw [tn, if_neg hne]; exact hb.1
    · show gl (gnew g t x.toNatClampNeg) q = _
      rw [gl_new, a1, if_neg hne]; exact hb.2.1
    · show gi (gnew g t x.toNatClampNeg) q k' = _
      rw [gi_new, a1, if_neg hne]; exact hb.2.2.1 k'
    · show gj (gnew g t x.toNatClampNeg) q k' = _
      rw [gj_new, a1, if_neg hne]; exact hb.2.2.2.1 k'
    · rw [gr_w, if_neg (by omega), gr_nw, a1, if_neg hne]; exact hb.2.2.2.2 k'
  · by_cases z : k' = k
    · rw [z, hA]
      refine ⟨by rw [gr_w, if_pos ⟨rfl, rfl⟩], ?_, ?_, fun i => ?_⟩
      · show gt (gnew g t x.toNatClampNeg) K = _
        rw [tn, if_pos rfl, ht]
      · show gl (gnew g t x.toNatClampNeg) K = _
        rw [gl_new, a1, if_pos rfl, hl]
      · show gi (gnew g t x.toNatClampNeg) K i = _
        rw [gi_new, a1, if_pos rfl]; rfl
    · have hne : yAd k' ≠ K := fun w => z (yA_inj k' k hk' hk h9' h9 (by rw [w, hA]))
      obtain ⟨d1, d2, d3, d4⟩ := c' k' hk' h9' (by omega)
      refine ⟨by rw [gr_w, if_neg (fun w => z w.2), gr_nw, a1, if_neg (by omega)]; exact d1, ?_, ?_, fun i => ?_⟩
      · show gt (gnew g t x.toNatClampNeg) _ = _
        rw [tn, if_neg hne]; exact d2
      · show gl (gnew g t x.toNatClampNeg) _ = _
        rw [gl_new, a1, if_neg hne]; exact d3
      · show gi (gnew g t x.toNatClampNeg) _ i = _
        rw [gi_new, a1, if_neg hne]; exact d4 i
theorem yb_wI {F : g_S → Option α} {v : Int32} (h : YB g0 fi R g K c) (cc : ∀ g', YB g0 (upf fi k v) R g' K c → ev (F g') Q) : ev ((wI g 112 1838 k v).bind F) Q := by
  obtain ⟨⟨a1, a2, a3, a4, a5, a6⟩, b, c'⟩ := h
  have e : wI g 112 1838 k v = some (gwI g 1838 k v) := by unfold wI; rw [if_pos a4]
  rw [e]
  refine cc _ ⟨⟨a1, a2, a3, a4, fun k' => ?_, a6⟩, fun q hq => ?_, fun k' hk' h9' hA' => ?_⟩
  · rw [gi_w]
    unfold upf
    by_cases z : k' = k
    · rw [if_pos ⟨rfl, z⟩, if_pos z]
    · rw [if_neg (fun w => z w.2), if_neg z]; exact a5 k'
  · have hb := b q hq
    refine ⟨hb.1, hb.2.1, fun k' => ?_, hb.2.2.2.1, hb.2.2.2.2⟩
    rw [gi_w, if_neg (fun w => by have := w.1; omega)]; exact hb.2.2.1 k'
  · obtain ⟨d1, d2, d3, d4⟩ := c' k' hk' h9' hA'
    have := yA_lo k' hk' h9'
    exact ⟨d1, d2, d3, fun i => by rw [gi_w, if_neg (fun w => by have := w.1; omega)]; exact d4 i⟩
theorem yb_rQ {F : Nat → Option α} (h : YB g0 fi R g 1953 c) (hk : k < 186) (h9 : yT k ≠ 9) (hA : yAd k = q) (cc : ev (F q) Q) : ev ((rQ g 112 1838 k).bind F) Q := by
  have hl := yA_lo k hk h9
  have e : rQ g 112 1838 k = some q := by unfold rQ; rw [if_pos h.1.2.2.2.1, (h.2.2 k hk h9 hl.2).1, hA]
  rw [e]; exact cc
theorem YB.wr {v : Int32} (h : YB g0 fi R g 1953 c) (hk : k < 186) (h9 : yT k ≠ 9) (hA : yAd k = q) : YB g0 fi (upR R k j v) (gwI g q j v) 1953 c := by
  obtain ⟨⟨a1, a2, a3, a4, a5, a6⟩, b, c'⟩ := h
  have hl := yA_lo k hk h9
  refine ⟨⟨a1, a2, a3, a4, fun k' => ?_, a6⟩, fun q' hq => ?_, fun k' hk' h9' hA' => ?_⟩
  · rw [gi_w, if_neg (fun w => by have := w.1; omega)]; exact a5 k'
  · have hb := b q' hq
    refine ⟨hb.1, hb.2.1, fun k' => ?_, hb.2.2.2.1, hb.2.2.2.2⟩
    rw [gi_w, if_neg (fun w => by have := w.1; omega)]; exact hb.2.2.1 k'
  · obtain ⟨d1, d2, d3, d4⟩ := c' k' hk' h9' hA'
    refine ⟨d1, d2, d3, fun i => ?_⟩
    rw [gi_w]
    unfold upR
    by_cases z : k' = k
    · by_cases z' : i = j
      · rw [if_pos ⟨by rw [z, hA], z'⟩, if_pos ⟨z, z'⟩]
      · rw [if_neg (fun w => z' w.2), if_neg (fun w => z' w.2)]; exact d4 i
    · rw [if_neg (fun w => z (yA_inj k' k hk' hk h9' h9 (w.1.trans hA.symm))), if_neg (fun w => z w.1)]; exact d4 i
theorem yb_sI {F : g_S → Option α} {i v : Int32} (h : YB g0 fi R g 1953 c) (hk : k < 186) (h9 : yT k = 0) (hA : yAd k = q) (hi : ab_inb i (yLn k) = true) (hj : i.toNatClampNeg = j) (cc : ∀ g', YB g0 fi (upR R k j v) g' 1953 c → ev (F g') Q) : ev ((sI g q i v).bind F) Q := by
  have h9' : yT k ≠ 9 := by omega
  have hl := yA_lo k hk h9'
  obtain ⟨d1, d2, d3, d4⟩ := h.2.2 k hk h9' hl.2
  have e : sI g q i v = some (gwI g q j v) := by unfold sI; rw [← hA, d2, d3, if_pos ⟨h9, hi⟩, hj]
  rw [e]
  exact cc _ (h.wr hk h9' hA)
theorem yb_sB {F : g_S → Option α} {i v w : Int32} (h : YB g0 fi R g 1953 c) (hk : k < 186) (h9 : yT k = 1) (hA : yAd k = q) (hi : ab_inb i (yLn k) = true) (hj : i.toNatClampNeg = j) (hw : vp_nar .byte v = w) (cc : ∀ g', YB g0 fi (upR R k j w) g' 1953 c → ev (F g') Q) : ev ((sB g q i v).bind F) Q := by
  have h9' : yT k ≠ 9 := by omega
  have hl := yA_lo k hk h9'
  obtain ⟨d1, d2, d3, d4⟩ := h.2.2 k hk h9' hl.2
  have e : sB g q i v = some (gwI g q j w) := by unfold sB; rw [← hA, d2, d3, if_pos ⟨h9, hi⟩, hj, hw]
  rw [e]
  exact cc _ (h.wr hk h9' hA)
/-- the reference's state on numbers -/
def mOf (fi : Nat → Int32) (R : Nat → Nat → Int32) : YS := fun k i => if yT k = 9 then (fi k).toInt else (R k i.toNat).toInt
def nY (n : NS) (z : Int) : NS := fun K i s => if K = 90 then 1953 else if K = 91 then z else if K = 92 ∧ 1838 ≤ s ∧ s < 1953 then 98 else n K i s
theorem nY_K {z : Int} {K : Nat} (h : K ≠ 90 ∧ K ≠ 91 ∧ K ≠ 92) : nY n z K = n K := by
  funext i s
  unfold nY
  rw [if_neg h.1, if_neg h.2.1, if_neg (fun w => h.2.2 w.1)]
/-- both are made -/
theorem YB.rc {m0 : YS} (h : YB g0 fi R g 1953 c) (hR : RC True False g0 n m0) (h0 : gn g0 = 1838) (hf : ∀ k, zs 112 k = 1 → inZ (fi k).toInt) (hb : ∀ k i, yT k = 1 → inB (R k i).toInt) (hz : ∀ k i, yT k = 2 → inZ (R k i).toInt) : RC True True g (nY n (gz g)) (mOf fi R) := by
  obtain ⟨⟨a1, a2, a3, a4, a5, a6⟩, b, c'⟩ := h
  obtain ⟨_, r2, r3, ⟨r4, r5, r6⟩, r7, _⟩ := hR
  have nar : ∀ q, ¬ ar q → q < 1838 ∨ 1953 ≤ q := fun q hq => by unfold ar at hq; omega
  have evl : ∀ q k, ¬ ar q → vl g q k = vl g0 q k := fun q k hq => by
    have hb := b q (nar q hq)
    unfold vl
    rw [hb.1, hb.2.2.1, hb.2.2.2.1, hb.2.2.2.2]
  have yar : ∀ q, ar q → q = 1838 ∨ ∃ k, k < 186 ∧ yT k ≠ 9 ∧ yAd k = q := fun q hq => by
    by_cases z : q = 1838
    · exact .inl z
    · have := hq.1
      have := hq.2
      obtain ⟨k, k1, k2, k3⟩ := yA_on (q - 1839) (by omega)
      exact .inr ⟨k, k1, k2, by omega⟩
  refine ⟨⟨by rw [a1]; rfl, rfl⟩, fun q k hq => ?_, fun q => ⟨fun hq => ?_, fun hq => ?_⟩, ⟨fun q k hq => ?_, fun q k hq => ?_, fun q k q' hq hk hr => ?_⟩, fun _ => ⟨fun q hq => ?_, fun q hq k a ha => ?_⟩, fun _ => ⟨a4, fun k hk h9 => ?_, fun k hk h9 => ?_⟩⟩
  · obtain ⟨l0, l1, l2, l3⟩ := lc_no q
    rw [nY_K ⟨l0, l1, l2⟩, evl q k hq]; exact r2 q k hq
  · have hb := b q (nar q hq)
    have g3 := (r3 q).1 hq
    rw [hb.1, hb.2.1, nY_K (K := 93) (by decide)]
    refine ⟨?_, g3.2⟩
    show (if (92 : Nat) = 90 then (1953 : Int) else if (92 : Nat) = 91 then _ else if (92 : Nat) = 92 ∧ 1838 ≤ (q : Int) ∧ (q : Int) < 1953 then 98 else n 92 0 q) = _
    rw [if_neg (by decide), if_neg (by decide), if_neg (fun w => by have := nar q hq; omega)]; exact g3.1
  · show (if (92 : Nat) = 90 then (1953 : Int) else if (92 : Nat) = 91 then _ else if (92 : Nat) = 92 ∧ 1838 ≤ (q : Int) ∧ (q : Int) < 1953 then 98 else n 92 0 q) = _
    rw [if_neg (by decide), if_neg (by decide), if_pos ⟨rfl, by have := hq.1; omega, by have := hq.2; omega⟩]
  · by_cases hq' : ar q
    · rcases yar q hq' with z | ⟨k', k1, k2, k3⟩
      · rw [z, a4] at hq; exact absurd hq (by decide)
      · obtain ⟨d1, d2, d3, d4⟩ := c' k' k1 k2 (yA_lo k' k1 k2).2
        rw [← k3] at hq ⊢
        rw [d4]
        exact hb k' k (by rw [← d2]; exact hq)
    · have hb := b q (nar q hq')
      rw [hb.1] at hq
      rw [hb.2.2.1]; exact r4 q k hq
  · by_cases hq' : ar q
    · rcases yar q hq' with z | ⟨k', k1, k2, k3⟩
      · rw [z, a4] at hq
        rw [z, a5]; exact hf k hq
      · obtain ⟨d1, d2, d3, d4⟩ := c' k' k1 k2 (yA_lo k' k1 k2).2
        rw [← k3] at hq ⊢
        rw [d4]
        rw [d2] at hq
        refine hz k' k ?_
        have hle := yt_le k' k1 k2
        unfold zs at hq
        by_cases w : yT k' = 2
        · exact w
        · rw [if_neg w, if_pos (by omega)] at hq; cases hq
    · have hb := b q (nar q hq')
      rw [hb.1] at hq
      rw [hb.2.2.1]; exact r5 q k hq
  · have hb := b q (nar q hq)
    rw [hb.1] at hk ⊢
    rw [hb.2.2.2.2] at hr
    exact r6 q k q' hq hk hr
  · have hb := b q (.inl hq)
    rw [hb.1, hb.2.1]; exact (r7 trivial).1 q hq
  · have hb := b q (.inl hq)
    rw [hb.2.2.2.2]; exact (r7 trivial).2 q hq k a ha
  · unfold mOf
    rw [if_pos h9, a5]
  · obtain ⟨d1, d2, d3, d4⟩ := c' k hk h9 (yA_lo k hk h9).2
    refine ⟨d1, d2, d3, fun i => ?_⟩
    unfold mOf
    rw [if_neg h9, d4, Int.toNat_natCast]
/-- the reference's numbers and rows, before its tree is made -/
def yFi : Nat → Int32 := upf (upf (fun _ => 0) 106 48) 150 (-1)
def yR : Nat → Nat → Int32 := upR (upR (upR (upR (upR (upR (upR (upR R0' 7 5 7) 6 750 47) 6 751 47) 6 752 104) 6 753 111) 6 754 109) 6 755 101) 6 756 47
set_option maxRecDepth 20000 in
theorem e_yinit {QH : g_S → Prop} (h : YB g0 (fun _ => 0) R0' g 1839 186) (cc : ∀ g', YB g0 yFi yR g' 1953 362812 → ev ((vc g' 112 1838 (M_Y_copyRow 1838 1 5 g')).bind fun g361 => (vc g361 112 1838 (M_Y_copyRow 1838 26 5 g361)).bind fun g362 => (wI g362 112 1838 148 1).bind fun g363 => (wI g363 112 1838 149 0).bind fun g364 => (vc g364 112 1838 (M_Y_emptyTree 1838 g364)).bind fun g365 => some g365) QH) : ev (M_Y_init 1838 g) QH := by
  unfold M_Y_init
  refine yb_row (k := 0) (d := 2186) h (by decide) (by decide) (by decide) (by decide) (by decide) (by decide) (by decide) rfl (fun g3 h => ?_)
  refine yb_row (k := 2) (d := 4186) h (by decide) (by decide) (by decide) (by decide) (by decide) (by decide) (by decide) rfl (fun g6 h => ?_)
  refine yb_row (k := 4) (d := 12186) h (by decide) (by decide) (by decide) (by decide) (by decide) (by decide) (by decide) rfl (fun g9 h => ?_)
  refine yb_row (k := 6) (d := 22086) h (by decide) (by decide) (by decide) (by decide) (by decide) (by decide) (by decide) rfl (fun g12 h => ?_)
  refine yb_row (k := 7) (d := 22152) h (by decide) (by decide) (by decide) (by decide) (by decide) (by decide) (by decide) rfl (fun g15 h => ?_)
  refine yb_row (k := 8) (d := 22218) h (by decide) (by decide) (by decide) (by decide) (by decide) (by decide) (by decide) rfl (fun g18 h => ?_)
  refine yb_row (k := 9) (d := 24418) h (by decide) (by decide) (by decide) (by decide) (by decide) (by decide) (by decide) rfl (fun g21 h => ?_)
  refine yb_row (k := 10) (d := 26518) h (by decide) (by decide) (by decide) (by decide) (by decide) (by decide) (by decide) rfl (fun g24 h => ?_)
  refine yb_row (k := 11) (d := 28618) h (by decide) (by decide) (by decide) (by decide) (by decide) (by decide) (by decide) rfl (fun g27 h => ?_)
  refine yb_row (k := 17) (d := 58618) h (by decide) (by decide) (by decide) (by decide) (by decide) (by decide) (by decide) rfl (fun g30 h => ?_)
  refine yb_row (k := 18) (d := 58638) h (by decide) (by decide) (by decide) (by decide) (by decide) (by decide) (by decide) rfl (fun g33 h => ?_)
  refine yb_row (k := 19) (d := 58650) h (by decide) (by decide) (by decide) (by decide) (by decide) (by decide) (by decide) rfl (fun g36 h => ?_)
  refine yb_row (k := 20) (d := 58842) h (by decide) (by decide) (by decide) (by decide) (by decide) (by decide) (by decide) rfl (fun g39 h => ?_)
  refine yb_row (k := 21) (d := 58854) h (by decide) (by decide) (by decide) (by decide) (by decide) (by decide) (by decide) rfl (fun g42 h => ?_)
  refine yb_row (k := 22) (d := 58866) h (by decide) (by decide) (by decide) (by decide) (by decide) (by decide) (by decide) rfl (fun g45 h => ?_)
  refine yb_row (k := 23) (d := 58886) h (by decide) (by decide) (by decide) (by decide) (by decide) (by decide) (by decide) rfl (fun g48 h => ?_)
  refine yb_row (k := 24) (d := 58906) h (by decide) (by decide) (by decide) (by decide) (by decide) (by decide) (by decide) rfl (fun g51 h => ?_)
  refine yb_row (k := 28) (d := 58914) h (by decide) (by decide) (by decide) (by decide) (by decide) (by decide) (by decide) rfl (fun g54 h => ?_)
  refine yb_row (k := 29) (d := 58922) h (by decide) (by decide) (by decide) (by decide) (by decide) (by decide) (by decide) rfl (fun g57 h => ?_)
  refine yb_row (k := 31) (d := 59402) h (by decide) (by decide) (by decide) (by decide) (by decide) (by decide) (by decide) rfl (fun g60 h => ?_)
  refine yb_row (k := 32) (d := 59422) h (by decide) (by decide) (by decide) (by decide) (by decide) (by decide) (by decide) rfl (fun g63 h => ?_)
  refine yb_row (k := 33) (d := 59442) h (by decide) (by decide) (by decide) (by decide) (by decide) (by decide) (by decide) rfl (fun g66 h => ?_)
  refine yb_row (k := 34) (d := 59462) h (by decide) (by decide) (by decide) (by decide) (by decide) (by decide) (by decide) rfl (fun g69 h => ?_)
  refine yb_row (k := 36) (d := 59862) h (by decide) (by decide) (by decide) (by decide) (by decide) (by decide) (by decide) rfl (fun g72 h => ?_)
  refine yb_row (k := 43) (d := 59878) h (by decide) (by decide) (by decide) (by decide) (by decide) (by decide) (by decide) rfl (fun g75 h => ?_)
  refine yb_row (k := 45) (d := 59998) h (by decide) (by decide) (by decide) (by decide) (by decide) (by decide) (by decide) rfl (fun g78 h => ?_)
  refine yb_row (k := 46) (d := 60118) h (by decide) (by decide) (by decide) (by decide) (by decide) (by decide) (by decide) rfl (fun g81 h => ?_)
  refine yb_row (k := 47) (d := 61078) h (by decide) (by decide) (by decide) (by decide) (by decide) (by decide) (by decide) rfl (fun g84 h => ?_)
  refine yb_row (k := 48) (d := 61198) h (by decide) (by decide) (by decide) (by decide) (by decide) (by decide) (by decide) rfl (fun g87 h => ?_)
  refine yb_row (k := 49) (d := 61318) h (by decide) (by decide) (by decide) (by decide) (by decide) (by decide) (by decide) rfl (fun g90 h => ?_)
  refine yb_row (k := 50) (d := 61438) h (by decide) (by decide) (by decide) (by decide) (by decide) (by decide) (by decide) rfl (fun g93 h => ?_)
  refine yb_row (k := 51) (d := 61558) h (by decide) (by decide) (by decide) (by decide) (by decide) (by decide) (by decide) rfl (fun g96 h => ?_)
  refine yb_row (k := 52) (d := 61678) h (by decide) (by decide) (by decide) (by decide) (by decide) (by decide) (by decide) rfl (fun g99 h => ?_)
  refine yb_row (k := 53) (d := 61798) h (by decide) (by decide) (by decide) (by decide) (by decide) (by decide) (by decide) rfl (fun g102 h => ?_)
  refine yb_row (k := 54) (d := 61918) h (by decide) (by decide) (by decide) (by decide) (by decide) (by decide) (by decide) rfl (fun g105 h => ?_)
  refine yb_row (k := 55) (d := 62038) h (by decide) (by decide) (by decide) (by decide) (by decide) (by decide) (by decide) rfl (fun g108 h => ?_)
  refine yb_row (k := 56) (d := 62158) h (by decide) (by decide) (by decide) (by decide) (by decide) (by decide) (by decide) rfl (fun g111 h => ?_)
  refine yb_row (k := 57) (d := 65998) h (by decide) (by decide) (by decide) (by decide) (by decide) (by decide) (by decide) rfl (fun g114 h => ?_)
  refine yb_row (k := 58) (d := 66478) h (by decide) (by decide) (by decide) (by decide) (by decide) (by decide) (by decide) rfl (fun g117 h => ?_)
  refine yb_row (k := 59) (d := 95278) h (by decide) (by decide) (by decide) (by decide) (by decide) (by decide) (by decide) rfl (fun g120 h => ?_)
  refine yb_row (k := 60) (d := 95758) h (by decide) (by decide) (by decide) (by decide) (by decide) (by decide) (by decide) rfl (fun g123 h => ?_)
  refine yb_row (k := 61) (d := 143758) h (by decide) (by decide) (by decide) (by decide) (by decide) (by decide) (by decide) rfl (fun g126 h => ?_)
  refine yb_row (k := 62) (d := 143878) h (by decide) (by decide) (by decide) (by decide) (by decide) (by decide) (by decide) rfl (fun g129 h => ?_)
  refine yb_row (k := 63) (d := 143998) h (by decide) (by decide) (by decide) (by decide) (by decide) (by decide) (by decide) rfl (fun g132 h => ?_)
  refine yb_row (k := 64) (d := 146878) h (by decide) (by decide) (by decide) (by decide) (by decide) (by decide) (by decide) rfl (fun g135 h => ?_)
  refine yb_row (k := 65) (d := 146998) h (by decide) (by decide) (by decide) (by decide) (by decide) (by decide) (by decide) rfl (fun g138 h => ?_)
  refine yb_row (k := 66) (d := 147118) h (by decide) (by decide) (by decide) (by decide) (by decide) (by decide) (by decide) rfl (fun g141 h => ?_)
  refine yb_row (k := 67) (d := 147238) h (by decide) (by decide) (by decide) (by decide) (by decide) (by decide) (by decide) rfl (fun g144 h => ?_)
  refine yb_row (k := 71) (d := 147278) h (by decide) (by decide) (by decide) (by decide) (by decide) (by decide) (by decide) rfl (fun g147 h => ?_)
  refine yb_row (k := 72) (d := 147318) h (by decide) (by decide) (by decide) (by decide) (by decide) (by decide) (by decide) rfl (fun g150 h => ?_)
  refine yb_row (k := 73) (d := 147340) h (by decide) (by decide) (by decide) (by decide) (by decide) (by decide) (by decide) rfl (fun g153 h => ?_)
  refine yb_row (k := 75) (d := 149340) h (by decide) (by decide) (by decide) (by decide) (by decide) (by decide) (by decide) rfl (fun g156 h => ?_)
  refine yb_row (k := 78) (d := 149348) h (by decide) (by decide) (by decide) (by decide) (by decide) (by decide) (by decide) rfl (fun g159 h => ?_)
  refine yb_row (k := 81) (d := 149380) h (by decide) (by decide) (by decide) (by decide) (by decide) (by decide) (by decide) rfl (fun g162 h => ?_)
  refine yb_row (k := 82) (d := 149384) h (by decide) (by decide) (by decide) (by decide) (by decide) (by decide) (by decide) rfl (fun g165 h => ?_)
  refine yb_row (k := 83) (d := 149624) h (by decide) (by decide) (by decide) (by decide) (by decide) (by decide) (by decide) rfl (fun g168 h => ?_)
  refine yb_row (k := 84) (d := 149628) h (by decide) (by decide) (by decide) (by decide) (by decide) (by decide) (by decide) rfl (fun g171 h => ?_)
  refine yb_row (k := 86) (d := 151628) h (by decide) (by decide) (by decide) (by decide) (by decide) (by decide) (by decide) rfl (fun g174 h => ?_)
  refine yb_row (k := 87) (d := 151636) h (by decide) (by decide) (by decide) (by decide) (by decide) (by decide) (by decide) rfl (fun g177 h => ?_)
  refine yb_row (k := 88) (d := 151696) h (by decide) (by decide) (by decide) (by decide) (by decide) (by decide) (by decide) rfl (fun g180 h => ?_)
  refine yb_row (k := 90) (d := 151737) h (by decide) (by decide) (by decide) (by decide) (by decide) (by decide) (by decide) rfl (fun g183 h => ?_)
  refine yb_row (k := 91) (d := 151860) h (by decide) (by decide) (by decide) (by decide) (by decide) (by decide) (by decide) rfl (fun g186 h => ?_)
  refine yb_row (k := 92) (d := 152844) h (by decide) (by decide) (by decide) (by decide) (by decide) (by decide) (by decide) rfl (fun g189 h => ?_)
  refine yb_row (k := 93) (d := 152967) h (by decide) (by decide) (by decide) (by decide) (by decide) (by decide) (by decide) rfl (fun g192 h => ?_)
  refine yb_row (k := 94) (d := 153459) h (by decide) (by decide) (by decide) (by decide) (by decide) (by decide) (by decide) rfl (fun g195 h => ?_)
  refine yb_row (k := 95) (d := 153951) h (by decide) (by decide) (by decide) (by decide) (by decide) (by decide) (by decide) rfl (fun g198 h => ?_)
  refine yb_row (k := 96) (d := 157887) h (by decide) (by decide) (by decide) (by decide) (by decide) (by decide) (by decide) rfl (fun g201 h => ?_)
  refine yb_row (k := 97) (d := 157928) h (by decide) (by decide) (by decide) (by decide) (by decide) (by decide) (by decide) rfl (fun g204 h => ?_)
  refine yb_row (k := 98) (d := 158379) h (by decide) (by decide) (by decide) (by decide) (by decide) (by decide) (by decide) rfl (fun g207 h => ?_)
  refine yb_row (k := 99) (d := 158830) h (by decide) (by decide) (by decide) (by decide) (by decide) (by decide) (by decide) rfl (fun g210 h => ?_)
  refine yb_row (k := 101) (d := 159230) h (by decide) (by decide) (by decide) (by decide) (by decide) (by decide) (by decide) rfl (fun g213 h => ?_)
  refine yb_row (k := 102) (d := 159241) h (by decide) (by decide) (by decide) (by decide) (by decide) (by decide) (by decide) rfl (fun g216 h => ?_)
  refine yb_row (k := 103) (d := 159252) h (by decide) (by decide) (by decide) (by decide) (by decide) (by decide) (by decide) rfl (fun g219 h => ?_)
  refine yb_row (k := 105) (d := 160572) h (by decide) (by decide) (by decide) (by decide) (by decide) (by decide) (by decide) rfl (fun g222 h => ?_)
  refine yb_wI h (fun g223 h => ?_)
  refine yb_row (k := 107) (d := 160692) h (by decide) (by decide) (by decide) (by decide) (by decide) (by decide) (by decide) rfl (fun g226 h => ?_)
  refine yb_row (k := 108) (d := 160812) h (by decide) (by decide) (by decide) (by decide) (by decide) (by decide) (by decide) rfl (fun g229 h => ?_)
  refine yb_row (k := 109) (d := 160932) h (by decide) (by decide) (by decide) (by decide) (by decide) (by decide) (by decide) rfl (fun g232 h => ?_)
  refine yb_row (k := 110) (d := 161052) h (by decide) (by decide) (by decide) (by decide) (by decide) (by decide) (by decide) rfl (fun g235 h => ?_)
  refine yb_row (k := 111) (d := 161172) h (by decide) (by decide) (by decide) (by decide) (by decide) (by decide) (by decide) rfl (fun g238 h => ?_)
  refine yb_row (k := 112) (d := 161292) h (by decide) (by decide) (by decide) (by decide) (by decide) (by decide) (by decide) rfl (fun g241 h => ?_)
  refine yb_row (k := 113) (d := 161412) h (by decide) (by decide) (by decide) (by decide) (by decide) (by decide) (by decide) rfl (fun g244 h => ?_)
  refine yb_row (k := 114) (d := 161532) h (by decide) (by decide) (by decide) (by decide) (by decide) (by decide) (by decide) rfl (fun g247 h => ?_)
  refine yb_row (k := 115) (d := 161652) h (by decide) (by decide) (by decide) (by decide) (by decide) (by decide) (by decide) rfl (fun g250 h => ?_)
  refine yb_row (k := 116) (d := 161772) h (by decide) (by decide) (by decide) (by decide) (by decide) (by decide) (by decide) rfl (fun g253 h => ?_)
  refine yb_row (k := 118) (d := 185772) h (by decide) (by decide) (by decide) (by decide) (by decide) (by decide) (by decide) rfl (fun g256 h => ?_)
  refine yb_row (k := 119) (d := 209772) h (by decide) (by decide) (by decide) (by decide) (by decide) (by decide) (by decide) rfl (fun g259 h => ?_)
  refine yb_row (k := 120) (d := 233772) h (by decide) (by decide) (by decide) (by decide) (by decide) (by decide) (by decide) rfl (fun g262 h => ?_)
  refine yb_row (k := 121) (d := 257772) h (by decide) (by decide) (by decide) (by decide) (by decide) (by decide) (by decide) rfl (fun g265 h => ?_)
  refine yb_row (k := 122) (d := 281772) h (by decide) (by decide) (by decide) (by decide) (by decide) (by decide) (by decide) rfl (fun g268 h => ?_)
  refine yb_row (k := 123) (d := 305772) h (by decide) (by decide) (by decide) (by decide) (by decide) (by decide) (by decide) rfl (fun g271 h => ?_)
  refine yb_row (k := 124) (d := 305892) h (by decide) (by decide) (by decide) (by decide) (by decide) (by decide) (by decide) rfl (fun g274 h => ?_)
  refine yb_row (k := 134) (d := 329892) h (by decide) (by decide) (by decide) (by decide) (by decide) (by decide) (by decide) rfl (fun g277 h => ?_)
  refine yb_row (k := 135) (d := 353892) h (by decide) (by decide) (by decide) (by decide) (by decide) (by decide) (by decide) rfl (fun g280 h => ?_)
  refine yb_row (k := 137) (d := 354012) h (by decide) (by decide) (by decide) (by decide) (by decide) (by decide) (by decide) rfl (fun g283 h => ?_)
  refine yb_row (k := 138) (d := 354132) h (by decide) (by decide) (by decide) (by decide) (by decide) (by decide) (by decide) rfl (fun g286 h => ?_)
  refine yb_row (k := 139) (d := 354252) h (by decide) (by decide) (by decide) (by decide) (by decide) (by decide) (by decide) rfl (fun g289 h => ?_)
  refine yb_row (k := 140) (d := 354372) h (by decide) (by decide) (by decide) (by decide) (by decide) (by decide) (by decide) rfl (fun g292 h => ?_)
  refine yb_row (k := 141) (d := 354492) h (by decide) (by decide) (by decide) (by decide) (by decide) (by decide) (by decide) rfl (fun g295 h => ?_)
  refine yb_row (k := 142) (d := 354612) h (by decide) (by decide) (by decide) (by decide) (by decide) (by decide) (by decide) rfl (fun g298 h => ?_)
  refine yb_wI h (fun g299 h => ?_)
  refine yb_row (k := 159) (d := 356612) h (by decide) (by decide) (by decide) (by decide) (by decide) (by decide) (by decide) rfl (fun g302 h => ?_)
  refine yb_row (k := 168) (d := 356632) h (by decide) (by decide) (by decide) (by decide) (by decide) (by decide) (by decide) rfl (fun g305 h => ?_)
  refine yb_row (k := 169) (d := 356652) h (by decide) (by decide) (by decide) (by decide) (by decide) (by decide) (by decide) rfl (fun g308 h => ?_)
  refine yb_row (k := 170) (d := 356672) h (by decide) (by decide) (by decide) (by decide) (by decide) (by decide) (by decide) rfl (fun g311 h => ?_)
  refine yb_row (k := 171) (d := 356692) h (by decide) (by decide) (by decide) (by decide) (by decide) (by decide) (by decide) rfl (fun g314 h => ?_)
  refine yb_row (k := 172) (d := 356712) h (by decide) (by decide) (by decide) (by decide) (by decide) (by decide) (by decide) rfl (fun g317 h => ?_)
  refine yb_row (k := 173) (d := 357912) h (by decide) (by decide) (by decide) (by decide) (by decide) (by decide) (by decide) rfl (fun g320 h => ?_)
  refine yb_row (k := 175) (d := 358392) h (by decide) (by decide) (by decide) (by decide) (by decide) (by decide) (by decide) rfl (fun g323 h => ?_)
  refine yb_row (k := 176) (d := 358412) h (by decide) (by decide) (by decide) (by decide) (by decide) (by decide) (by decide) rfl (fun g326 h => ?_)
  refine yb_row (k := 177) (d := 358432) h (by decide) (by decide) (by decide) (by decide) (by decide) (by decide) (by decide) rfl (fun g329 h => ?_)
  refine yb_row (k := 178) (d := 358452) h (by decide) (by decide) (by decide) (by decide) (by decide) (by decide) (by decide) rfl (fun g332 h => ?_)
  refine yb_row (k := 179) (d := 358572) h (by decide) (by decide) (by decide) (by decide) (by decide) (by decide) (by decide) rfl (fun g335 h => ?_)
  refine yb_row (k := 180) (d := 358692) h (by decide) (by decide) (by decide) (by decide) (by decide) (by decide) (by decide) rfl (fun g338 h => ?_)
  refine yb_row (k := 182) (d := 362692) h (by decide) (by decide) (by decide) (by decide) (by decide) (by decide) (by decide) rfl (fun g341 h => ?_)
  refine yb_row (k := 184) (d := 362812) h (by decide) (by decide) (by decide) (by decide) (by decide) (by decide) (by decide) rfl (fun g344 h => ?_)
  refine yb_rQ (q := 1843) h (by decide) (by decide) (by decide) ?_
  refine yb_sI (k := 7) (j := 5) h (by decide) (by decide) (by decide) (by decide) (by decide) (fun g346 h => ?_)
  refine yb_rQ (q := 1842) h (by decide) (by decide) (by decide) ?_
  refine yb_sB (k := 6) (j := 750) (w := 47) h (by decide) (by decide) (by decide) (by decide) (by decide) rfl (fun g348 h => ?_)
  refine yb_rQ (q := 1842) h (by decide) (by decide) (by decide) ?_
  refine yb_sB (k := 6) (j := 751) (w := 47) h (by decide) (by decide) (by decide) (by decide) (by decide) rfl (fun g350 h => ?_)
  refine yb_rQ (q := 1842) h (by decide) (by decide) (by decide) ?_
  refine yb_sB (k := 6) (j := 752) (w := 104) h (by decide) (by decide) (by decide) (by decide) (by decide) rfl (fun g352 h => ?_)
  refine yb_rQ (q := 1842) h (by decide) (by decide) (by decide) ?_
  refine yb_sB (k := 6) (j := 753) (w := 111) h (by decide) (by decide) (by decide) (by decide) (by decide) rfl (fun g354 h => ?_)
  refine yb_rQ (q := 1842) h (by decide) (by decide) (by decide) ?_
  refine yb_sB (k := 6) (j := 754) (w := 109) h (by decide) (by decide) (by decide) (by decide) (by decide) rfl (fun g356 h => ?_)
  refine yb_rQ (q := 1842) h (by decide) (by decide) (by decide) ?_
  refine yb_sB (k := 6) (j := 755) (w := 101) h (by decide) (by decide) (by decide) (by decide) (by decide) rfl (fun g358 h => ?_)
  refine yb_rQ (q := 1842) h (by decide) (by decide) (by decide) ?_
  refine yb_sB (k := 6) (j := 756) (w := 47) h (by decide) (by decide) (by decide) (by decide) (by decide) rfl (fun g360 h => ?_)
  exact cc _ h
end YZN
