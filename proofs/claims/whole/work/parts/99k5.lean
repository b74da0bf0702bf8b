/-! A PAGE IS LOADED, in both: all of it -/
/-- what both hold of the tree -/
def JTr (n : NS) (m : YS) (N : Int) (o e p : Int → Int) : Prop := JT n m N o e p ∧ JP m N o p ∧ JF n m ∧ 0 ≤ n 10 0 6
/-- the net, with history and the page's ADDRESS -/
def JNt (κ : Int → Int) (As Bs : Int → Prop) (A B : Int) (n : NS) (m : YS) : Prop := JFe κ As Bs A B n m ∧ JHs As n m ∧ AR n m 1582 1
section K5
variable {n n' n'' : NS} {m m' m'' : YS} {A B N a b i v1 v2 k l : Int} {nm q mk nm' q' mk' X Y : List Int} {ss ss' : List (List Int)} {As Bs W S : Int → Prop} {κ o e p : Int → Int}
/-- what loading leaves as it was -/
def FLn (n n' : NS) : Prop := (∀ K, K ∉ [4, 6, 7, 8, 10, 18, 22, 24, 25, 27, 28, 29, 30, 31, 90, 91, 92, 93, 99] → n' K = n K) ∧ (∀ s, s ∉ [4, 6, 9, 16, 18, 19] → n' 6 0 s = n 6 0 s) ∧ FS (fun x => x = 607 ∨ x ≤ 604) n n'
def FLy (m m' : YS) : Prop := (∀ f, ¬ (6 ≤ f ∧ f ≤ 8) → ¬ (17 ≤ f ∧ f ≤ 18) → ¬ (23 ≤ f ∧ f ≤ 24) → ¬ (26 ≤ f ∧ f ≤ 37) → ¬ (44 ≤ f ∧ f ≤ 88) → f ≠ 126 → f ≠ 148 → f ≠ 149 → f ≠ 150 → f ≠ 152 → f ≠ 153 → f ≠ 166 → m' f = m f)
theorem FS.frr (h : FRR n n') (hB : BI A B n) (hS : ∀ x, 0 ≤ x → x ≤ 604 → S x) : FS S n n' := fun b x y z => by
  have hb : ¬ b ≤ 604 := fun w => z (hS b x w)
  refine ⟨h.2.1 b (by omega), h.2.2.2.2.1 _ (hB.1 b x y).2.1.2 (fun b' x' y' w => ?_)⟩
  have := hB.2.1 b b' x y x' (by omega) w
  omega
theorem FS.wid {S' : Int → Prop} (h : FS S n n') (hs : ∀ x, S x → S' x) : FS S' n n' := fun b x y z => h b x y (fun w => z (hs b w))
theorem load_both (h : JNt κ As Bs A B n m) (hT : AR n m 1584 0) (hNT : NT n) (h35 : m 35 0 < 700000000) (hgo : n 6 0 16 = 1 ∨ n 6 0 16 = 2) (hc : 0 ≤ n 10 0 6 ∧ n 10 0 6 < 999999999 ∧ 0 ≤ m 69 0 ∧ m 69 0 < 1000000000) (h7 : n 10 0 7 = m 69 0) (h4 : n 10 0 4 ≤ n 10 0 6) :
    ∃ a n1 n2 m' κ' N' o' e' p', N_Net_arrive n = some (a, n1) ∧ (n1 92 0 a = 102 ∧ 0 ≤ n1 99 a 6 ∧ n1 92 0 (n1 99 a 6) = 1 ∧ 0 ≤ n1 93 0 (n1 99 a 6) ∧ n1 93 0 (n1 99 a 6) ≤ 1280) ∧ N_Reader_read (n1 99 a 6) (n1 93 0 (n1 99 a 6)) n1 = some n2
      ∧ (if n 6 0 16 = 1 then (N_Y_goTo m).bind N_Y_remember else N_Y_goTo m) = some m' ∧ JNt κ' As Bs A B n2 m' ∧ JTr n2 m' N' o' e' p' ∧ FLn n n2 ∧ FLy m m' ∧ FQ As Bs (fun x => arA x ∨ hiA x) n n2
      ∧ (n2 6 0 16 = 0 ∧ m' 150 0 = -1 ∧ m' 166 0 = 0 ∧ m' 126 0 = 0 ∧ m' 153 0 = 1 ∧ m' 152 0 = 1) ∧ (n2 10 0 6 ≤ n 10 0 6 + 2002 ∧ n 10 0 6 < n2 10 0 6 ∧ m' 69 0 ≤ m 69 0 + 2001 ∧ m 35 0 ≤ m' 35 0 ∧ m' 35 0 ≤ m 35 0 + 6) ∧ wtS m' ≤ 1284 ∧ m' 46 0 ≠ 17 := by
  obtain ⟨hJ, hH, hP⟩ := h
  obtain ⟨a, n22, m20, κ', eC, eY, j22, p22, src, ⟨fq, k22, s22, fs22⟩, ⟨f20, r20, c20⟩⟩ := arrive1 hJ hT h35
  have hA := j22.2.1.1
  have hb := j22.2.1.2.1
  have hAs := j22.2.1.2.2.1
  have e16 : n22 6 0 16 = n 6 0 16 := s22 16 (by decide) (by decide) (by decide)
  have hH20 : JHs As n22 m20 := hH.cg fq (fun x hx => by unfold arA at hx; unfold hiA; omega) ⟨s22 18 (by decide) (by decide) (by decide), s22 19 (by decide) (by decide) (by decide)⟩ (k22 27 (by decide)) ⟨f20 148 (by decide), f20 149 (by decide)⟩ (fun r a b => r20 r (by omega) (by omega) (by omega) (by omega) (by omega) (by omega))
  -- the class up to the reading
  obtain ⟨n28, mP, eP, _, _, fP, _⟩ := push_both hH20 hA hb j22.1 hAs.2.1 p22
  generalize hn1 : nw (if n 6 0 16 = 1 then n28 else n22) 6 0 16 0 = n1
  have eC1 : N_Net_arrive n = some (a, n1) := by
    rw [eC, e16]
    by_cases z : n 6 0 16 = 1
    · rw [if_pos z, eP, ← hn1, if_pos z]; rfl
    · rw [if_neg z, ← hn1, if_neg z]; rfl
  have fq1 : FQ As Bs hiA n22 n1 := by
    rw [← hn1]
    by_cases z : n 6 0 16 = 1
    · rw [if_pos z]; exact fP.1.trans (FQ.ks (fun K hK => nw_nK (by omega)))
    · rw [if_neg z]; exact FQ.ks (fun K hK => nw_nK (by omega))
  have k1 : ∀ K, K ≠ 6 → K ≠ 27 → K ≠ 99 → n1 K = n22 K := fun K a b c => by
    rw [← hn1, nw_nK a]
    by_cases z : n 6 0 16 = 1
    · rw [if_pos z]; exact fP.2.1 K a b c
    · rw [if_neg z]
  have s1 : ∀ s, s ≠ 16 → s ≠ 18 → s ≠ 19 → n1 6 0 s = n22 6 0 s := fun s a b c => by
    rw [← hn1, nw_ns a]
    by_cases z : n 6 0 16 = 1
    · rw [if_pos z]; exact fP.2.2.1 s b c
    · rw [if_neg z]
  have f71 : FQ7 n22 n1 := by
    rw [← hn1]
    by_cases z : n 6 0 16 = 1
    · rw [if_pos z]; exact fP.2.2.2.2.trans fP.1 (FQ7.ks (nw_nK (by decide)))
    · rw [if_neg z]; exact FQ7.ks (nw_nK (by decide))
  have fs1 : ∀ S : Int → Prop, FS S n22 n1 := fun S => by
    rw [← hn1]
    by_cases z : n 6 0 16 = 1
    · rw [if_pos z]; exact (fP.2.2.2.1.wid (fun _ h => h.elim)).trans (FS.ks (nw_nK (by decide)) (nw_nK (by decide)))
    · rw [if_neg z]; exact FS.ks (nw_nK (by decide)) (nw_nK (by decide))
  have hB1 : BI A B n1 := j22.1.cg (k1 4 (by decide) (by decide) (by decide)) (by rw [k1 5 (by decide) (by decide) (by decide)]; exact ⟨rfl, rfl⟩) (k1 90 (by decide) (by decide) (by decide)) (k1 91 (by decide) (by decide) (by decide)) (k1 92 (by decide) (by decide) (by decide)) (k1 93 (by decide) (by decide) (by decide))
  have hA1 := hA.fq fq1
  have hb1 := hb.fq fq1
  obtain ⟨t1, t2, t3, t4, t5⟩ := src
  have ea : n1 99 a 6 = n22 99 a 6 := fq1.2.2.2.2.1 a t1.1 t1.2.1 t1.2.2 6 (by decide)
  have hbx := hb _ t2
  have eB : n1 99 (n22 99 a 6) = n22 99 (n22 99 a 6) := fq1.2.2.2.1 _ t2
  have e93 : n1 93 0 (n1 99 a 6) = m20 76 0 := by rw [ea, k1 93 (by decide) (by decide) (by decide)]; exact t3
  have e10 : n1 10 = n 10 := by rw [k1 10 (by decide) (by decide) (by decide), k22 10 (by decide)]
  have e69 : m20 69 = m 69 := f20 69 (by decide)
  have hbx1 := hb1 _ t2
  obtain ⟨n2, mR, N', o', e', p', x1, x2, x3, x4, x5, x6, x7, x8, x9, x10, x11, x12, x13⟩ := readPage_both (n := n1) (m := m20) (a := n1 99 a 6) hB1 ⟨by rw [ea]; exact hbx1.2.1, by rw [e93]; exact Int.le_refl _, fun j u v => by rw [ea, eB]; exact (t5 j u v).1⟩ (by omega) (by rw [ea]; exact hbx1.1) (fun b u v => by rw [ea]; exact hbx1.2.2.1 b u (by omega)) (fun j u v => (t5 j u v).2) (by rw [e10, e69]; exact hc) (by rw [e10, e69]; exact h7) (by rw [e10]; exact h4) (fun k u v => by rw [k1 21 (by decide) (by decide) (by decide), k22 21 (by decide)]; exact hNT k u v)
  -- the reference behind the reading
  generalize hm28 : yw (yw (yw (yw (yw mR 150 0 (-1)) 166 0 0) 126 0 0) 153 0 1) 152 0 1 = m28
  have f28 : FY [150, 166, 126, 153, 152] mR m28 := fun g hg => by
    simp only [List.mem_cons, List.not_mem_nil, or_false, not_or] at hg
    rw [← hm28, yw_nF hg.2.2.2.2, yw_nF hg.2.2.2.1, yw_nF hg.2.2.1, yw_nF hg.2.1, yw_nF hg.1]
  have v28 : m28 150 0 = -1 ∧ m28 166 0 = 0 ∧ m28 126 0 = 0 ∧ m28 153 0 = 1 ∧ m28 152 0 = 1 := by
    rw [← hm28]
    refine ⟨?_, ?_, ?_, ?_, yw_eq⟩
    · rw [yw_nF (by decide), yw_nF (by decide), yw_nF (by decide), yw_nF (by decide), yw_eq]
    · rw [yw_nF (by decide), yw_nF (by decide), yw_nF (by decide), yw_eq]
    · rw [yw_nF (by decide), yw_nF (by decide), yw_eq]
    · rw [yw_nF (by decide), yw_eq]
  have eG : N_Y_goTo m = some m28 := by
    rw [eY]
    unfold N_Y_newPage N_Y_changed st
    rw [x2]
    show some (yw (yw (yw (yw (yw mR 150 0 (-1)) 166 0 0) 126 0 0) 153 0 1) 152 0 1) = _
    rw [hm28]
  have m28f : ∀ f, ¬ (45 ≤ f ∧ f ≤ 88) → f ∉ [150, 166, 126, 153, 152] → m28 f = m20 f := fun f u v => by rw [f28 f v, x8 f u]
  have r28 : ∀ r, RwE m20 m28 r := fun r => RwE.of (m28f 6 (by decide) (by decide)) (m28f 7 (by decide) (by decide)) (m28f 8 (by decide) (by decide))
  have hH28 : JHs As n22 m28 := hH20.cg (FQ.refl As Bs (fun _ => False) n22) (fun _ h => h.elim) ⟨rfl, rfl⟩ rfl ⟨m28f 148 (by decide) (by decide), m28f 149 (by decide) (by decide)⟩ (fun r _ _ => r28 r)
  have p28 : AR n22 m28 1582 1 := p22.fq (FQ.refl As Bs (fun _ => False) n22) hAs.2.1 (fun h => h.elim) (r28 1)
  have hM : ∃ m', (if n 6 0 16 = 1 then (N_Y_goTo m).bind N_Y_remember else N_Y_goTo m) = some m' ∧ JHs As n1 m' ∧ FHy m28 m' := by
    by_cases z : n 6 0 16 = 1
    · obtain ⟨n28', m', b1, b2, b3, b4, b5⟩ := push_both hH28 hA hb j22.1 hAs.2.1 p28
      rw [eP] at b1
      cases b1
      refine ⟨m', by rw [if_pos z, eG]; exact b2, ?_, b5⟩
      rw [← hn1, if_pos z]
      exact b3.cg (FQ.ks (As := As) (Bs := Bs) (W := fun _ => False) (fun K hK => nw_nK (by omega))) (fun _ h => h.elim) ⟨nw_ns (by decide), nw_ns (by decide)⟩ (nw_nK (by decide)) ⟨rfl, rfl⟩ (fun r _ _ => RwE.refl m' r)
    · refine ⟨m28, by rw [if_neg z]; exact eG, ?_, ⟨fun _ _ => rfl, fun r _ => RwE.refl m28 r⟩⟩
      rw [← hn1, if_neg z]
      exact hH28.cg (FQ.ks (As := As) (Bs := Bs) (W := fun _ => False) (fun K hK => nw_nK (by omega))) (fun _ h => h.elim) ⟨nw_ns (by decide), nw_ns (by decide)⟩ (nw_nK (by decide)) ⟨rfl, rfl⟩ (fun r _ _ => RwE.refl m28 r)
  obtain ⟨m', eM, hH1, fM⟩ := hM
  have m'f : ∀ f, f ∉ [6, 7, 8, 148, 149] → m' f = m28 f := fun f hf => fM.1 f hf
  have fq2 : ∀ W : Int → Prop, FQ As Bs W n1 n2 := fun W => FQ.frr x7 hB1 hA1 hb1
  have k2 : ∀ K, K ∉ [4, 7, 8, 10, 18, 22, 28, 29, 30, 31, 90, 91, 92, 93, 99] → n2 K = n1 K := x7.1
  have fk0 : FRk n2 n2 := FRk.refl n2
  refine ⟨a, n1, n2, m', κ', N', o', e', p', eC1, ⟨by rw [k1 92 (by decide) (by decide) (by decide)]; exact t1.2.2, by rw [ea]; exact hbx.1.1, by rw [ea]; exact hbx1.2.1, by rw [e93]; exact t4.1, by rw [e93]; exact t4.2⟩, by rw [e93]; exact x1, eM, ⟨?_, ?_, ?_⟩, ⟨?_, ?_, ?_, ?_⟩, ⟨fun K c => ?_, fun s c => ?_, ?_⟩, ?_, ?_, ⟨?_, ?_, ?_, ?_, ?_, ?_⟩, ⟨?_, ?_, ?_, ?_, ?_⟩, ?_, ?_⟩
  · have j1 : JFe κ' As Bs A B n1 m20 := j22.cg hB1 fq1 f71 (fun x hx => by unfold hiA at hx; omega) (fun K hK => k1 K (by omega) (by omega) (by omega)) (fun s hs => s1 s (by omega) (by omega) (by omega)) ((fs1 (fun _ => False)).bt (by omega) (fun h => h.elim)) (fun _ _ _ => rfl) (fun r _ => RwE.refl m20 r)
    exact j1.cg x3 (fq2 (fun _ => False)) (FQ7.frr x7 hB1) (fun _ h => h.elim) (fun K hK => k2 K (by simp only [List.mem_cons, List.not_mem_nil, or_false, not_or]; omega)) (fun s _ => by rw [k2 6 (by decide)]) ((FS.frr (S := fun x => x ≤ 604) x7 hB1 (fun x _ h => h)).bt (by omega) (by omega)) (fun f u v => by rw [m'f f (by simp only [List.mem_cons, List.not_mem_nil, or_false, not_or]; omega), m28f f (by omega) (by simp only [List.mem_cons, List.not_mem_nil, or_false, not_or]; omega)]) (fun r hr => (r28 r).trans (fM.2 r (by omega)))
  · exact hH1.cg (fq2 (fun _ => False)) (fun _ h => h.elim) (by rw [k2 6 (by decide)]; exact ⟨rfl, rfl⟩) (k2 27 (by decide)) ⟨rfl, rfl⟩ (fun r _ _ => RwE.refl m' r)
  · have q1 : AR n1 m' 1582 1 := p22.fq fq1 hAs.2.1 (fun z => by unfold hiA at z; omega) ((r28 1).trans (fM.2 1 (by omega)))
    exact q1.fq (fq2 (fun _ => False)) hAs.2.1 (fun h => h.elim) (RwE.refl m' 1)
  · exact x4.rk fk0 (fun f u v => by rw [m'f f (by simp only [List.mem_cons, List.not_mem_nil, or_false, not_or]; omega), f28 f (by simp only [List.mem_cons, List.not_mem_nil, or_false, not_or]; omega)])
  · unfold JP at *
    rw [m'f 46 (by decide), f28 46 (by decide)]; exact x5
  · unfold JF at *
    rw [m'f 70 (by decide), f28 70 (by decide), m'f 71 (by decide), f28 71 (by decide), m'f 72 (by decide), f28 72 (by decide)]; exact x6
  · have := x7.2.2.2.2.2.2; rw [e10] at this; omega
  · simp only [List.mem_cons, List.not_mem_nil, or_false, not_or] at c
    rw [k2 K (by simp only [List.mem_cons, List.not_mem_nil, or_false, not_or]; omega), k1 K (by omega) (by omega) (by omega), k22 K (by simp only [List.mem_cons, List.not_mem_nil, or_false, not_or]; omega)]
  · simp only [List.mem_cons, List.not_mem_nil, or_false, not_or] at c
    rw [k2 6 (by decide), s1 s (by omega) (by omega) (by omega), s22 s (by omega) (by omega) (by omega)]
  · exact ((fs22.wid (fun x hx => .inl hx)).trans (fs1 _)).trans (FS.frr x7 hB1 (fun x _ h => .inr h))
  · intro f c1 c2 c3 c4 c5 c6 c7 c8 c9 c10 c11 c12
    rw [m'f f (by simp only [List.mem_cons, List.not_mem_nil, or_false, not_or]; omega), m28f f (by omega) (by simp only [List.mem_cons, List.not_mem_nil, or_false, not_or]; omega), f20 f (by simp only [List.mem_cons, List.not_mem_nil, or_false, not_or]; omega)]
  · exact ((fq.wid (fun x hx => .inl hx)).trans (fq1.wid (fun x hx => .inr hx))).trans (fq2 _)
  · rw [k2 6 (by decide), ← hn1, nw_eq]
  · rw [m'f 150 (by decide)]; exact v28.1
  · rw [m'f 166 (by decide)]; exact v28.2.1
  · rw [m'f 126 (by decide)]; exact v28.2.2.1
  · rw [m'f 153 (by decide)]; exact v28.2.2.2.1
  · rw [m'f 152 (by decide)]; exact v28.2.2.2.2
  · rw [e10] at x9; exact x9
  · rw [e10] at x12; exact x12
  · rw [m'f 69 (by decide), f28 69 (by decide)]; rw [e69] at x10; exact x10
  · rw [m'f 35 (by decide), m28f 35 (by decide) (by decide)]; exact c20.1
  · rw [m'f 35 (by decide), m28f 35 (by decide) (by decide)]; exact c20.2
  · rw [wtS_fy fM.1 (by decide), wtS_fy f28 (by decide)]; omega
  · rw [m'f 46 (by decide), f28 46 (by decide)]; exact x13
end K5
