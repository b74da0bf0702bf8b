/-! STEPS ON A NODE: text, class, add -/
/-- the script that runs, in both -/
def JRn (n : NS) (m : YS) : Prop := (n 4 609 2 = m 160 0 ∧ 0 ≤ m 160 0 ∧ m 160 0 ≤ 2000) ∧ tx n (n 4 609 1) (m 159) (m 160 0) ∧ (∀ j, 0 ≤ j → j < m 160 0 → isTx (m 159 j)) ∧ MkR (n 0 0 13) (m 161 0) (m 162 0) ∧ ELm m (m 161 0) (m 162 0)
section M8
variable {n n' n'' : NS} {m m' m'' : YS} {A B N N' k v b δ G G' fr to d L : Int} {o e p o' e' p' : Int → Int} {As Bs W S : Int → Prop} {κ κ' : Int → Int}
theorem JA.bi (h : JA As Bs A B δ G n m) : BI A B n := by
  obtain ⟨κ, N, o, e, p, h1, _⟩ := h
  exact h1.1.1
theorem JA.cg (h : JA As Bs A B δ G n m) (hK : ∀ K, K ≠ 0 → K ≠ 6 → K ≠ 46 → n' K = n K) (h0 : ∀ s, s = 5 ∨ s = 6 ∨ s = 7 ∨ s = 8 ∨ s = 10 → n' 0 0 s = n 0 0 s) (h6 : ∀ s, s ≠ 16 → n' 6 0 s = n 6 0 s)
    (hm : ∀ f, f ∉ [126, 152, 153, 154, 158, 159, 160, 161, 162, 163, 164, 179, 180, 181, 182, 183] → m' f = m f) : JA As Bs A B δ G n' m' := by
  obtain ⟨κ, N, o, e, p, ⟨hJ, hH, hP⟩, h2, h3, ⟨h4, h4'⟩, h5, h6', h7, h8⟩ := h
  have r : ∀ r, RwE m m' r := fun r => RwE.of (hm 6 (by decide)) (hm 7 (by decide)) (hm 8 (by decide))
  have fq : FQ As Bs (fun _ => False) n n' := FQ.ks (fun K hK' => hK K (by omega) (by omega) (by omega))
  have hS : ∀ S : Int → Prop, FS S n n' := fun S => FS.ks (hK 4 (by decide) (by decide) (by decide)) (hK 99 (by decide) (by decide) (by decide))
  have hB' : BI A B n' := hJ.1.cg (hK 4 (by decide) (by decide) (by decide)) (by rw [hK 5 (by decide) (by decide) (by decide)]; exact ⟨rfl, rfl⟩) (hK 90 (by decide) (by decide) (by decide)) (hK 91 (by decide) (by decide) (by decide)) (hK 92 (by decide) (by decide) (by decide)) (hK 93 (by decide) (by decide) (by decide))
  have liv : LIV m m' := LIV.of (hm 45 (by decide)) (hm 46 (by decide)) (hm 55 (by decide))
  have c69 : m 69 0 ≤ m' 69 0 := by rw [hm 69 (by decide)]; exact Int.le_refl _
  refine ⟨κ, N, o, e, p, ⟨hJ.cg hB' fq (FQ7.ks (hK 99 (by decide) (by decide) (by decide))) (fun _ h => h.elim) (fun K hK' => hK K (by omega) (by omega) (by omega)) (fun s hs => h6 s (by omega)) ((hS (fun _ => False)).bt (by omega) (fun h => h)) (fun f a b => hm f (by simp only [List.mem_cons, List.not_mem_nil, or_false, not_or]; omega)) (fun x _ => r x), hH.cg fq (fun _ h => h.elim) ⟨h6 18 (by decide), h6 19 (by decide)⟩ (hK 27 (by decide) (by decide) (by decide)) ⟨hm 148 (by decide), hm 149 (by decide)⟩ (fun x _ _ => r x), hP.fq fq hJ.2.1.2.2.1.2.1 (fun h => h.elim) (r 1)⟩,
    h2.cg (fun K c => hK K (by omega) (by omega) (by omega)) (fun b x y => (hS (fun _ => False)).bt (by omega) (fun h => h)) (fun f a b => hm f (by simp only [List.mem_cons, List.not_mem_nil, or_false, not_or]; omega)), fun k a b => by rw [hK 21 (by decide) (by decide) (by decide)]; exact h3 k a b,
    ⟨h4.cg (h0 5 (by omega)) (hK 44 (by decide) (by decide) (by decide)) (hK 45 (by decide) (by decide) (by decide)) (fun b x y => (hS (fun _ => False)).bt (by omega) (fun h => h)) (fun f a b => hm f (by simp only [List.mem_cons, List.not_mem_nil, or_false, not_or]; omega)), h4'.liv h4 (fun f hf => hm f (by simp only [List.mem_cons, List.not_mem_nil, or_false, not_or]; omega)) liv c69⟩,
    h5.cg (hK 26 (by decide) (by decide) (by decide)) (h6 8 (by decide)) (fun f a b => hm f (by simp only [List.mem_cons, List.not_mem_nil, or_false, not_or]; omega)), ?_, h7.liv (h0 6 (by omega)) (hm 150 (by decide)) (hm 151 (by decide)) liv c69, ?_⟩
  · unfold JCt at *
    rw [h0 7 (by omega), h0 8 (by omega), h0 10 (by omega), hm 155 (by decide), hm 156 (by decide), hm 157 (by decide)]; exact h6'
  · unfold gB at *
    rw [hK 10 (by decide) (by decide) (by decide), hm 69 (by decide), hm 35 (by decide), hm 155 (by decide), hm 156 (by decide), hm 157 (by decide), hm 167 (by decide)]; exact h8
/-- the reference notes its target and that a change comes -/
theorem JA.tgt (h : JA As Bs A B δ G n m) : JA As Bs A B δ G n (yw m 164 0 v) := h.cg (fun _ _ _ _ => rfl) (fun _ _ => rfl) (fun _ _ => rfl) (fun f hf => yw_nF (fun z => hf (by rw [z]; decide)))
theorem JA.chd (h : JA As Bs A B δ G n m) : JA As Bs A B δ G n (yw m 126 0 0) := h.cg (fun _ _ _ _ => rfl) (fun _ _ => rfl) (fun _ _ => rfl) (fun f hf => yw_nF (fun z => hf (by rw [z]; decide)))
theorem FA.y164 : FA n n m (yw m 164 0 v) := ⟨⟨fun _ _ => rfl, FS.refl _ n, fun _ _ => rfl, rfl⟩, fun f hf => yw_nF (by omega), .inr ⟨rfl, fun f a b => yw_nF (by omega)⟩, .inr ⟨by rw [yw_nF (by decide)], fun f a b => yw_nF (by omega)⟩, LIV.of (yw_nF (by decide)) (yw_nF (by decide)) (yw_nF (by decide)), OLV.of (fun f hf => yw_nF (by omega)), by rw [yw_nF (by decide)]; exact Int.le_refl _⟩
theorem FA.y126 : FA n n m (yw m 126 0 0) := ⟨⟨fun _ _ => rfl, FS.refl _ n, fun _ _ => rfl, rfl⟩, fun f hf => yw_nF (by omega), .inr ⟨rfl, fun f a b => yw_nF (by omega)⟩, .inl yw_eq, LIV.of (yw_nF (by decide)) (yw_nF (by decide)) (yw_nF (by decide)), OLV.of (fun f hf => yw_nF (by omega)), by rw [yw_nF (by decide)]; exact Int.le_refl _⟩
/-- the tree alone has changed -/
theorem FA.tree (hB : BI A B n) (hF : FRR n n') (hy : FYR m m') (hl : LIV m m') (ho : OLV m m') (hc : LYc n n' m m') (c69 : m 69 0 ≤ m' 69 0) (h126 : m 126 0 = 0 ∨ ∀ f, 45 ≤ f → f ≤ 63 → m' f = m f) : FA n n' m m' := by
  refine ⟨⟨fun K c => hF.1 K (by simp only [List.mem_cons, List.not_mem_nil, or_false, not_or] at c ⊢; omega), FS.frr hF hB (fun x _ h => .inr (.inl h)), fun s _ => by rw [hF.1 0 (by decide)], by rw [hF.1 6 (by decide)]⟩, fun f hf => hy f (by omega), hc, ?_, hl, ho, c69⟩
  rcases h126 with h | h
  · exact .inl (by rw [hy 126 (by decide)]; exact h)
  · exact .inr ⟨by rw [hy 126 (by decide)], h⟩
/-- the class has listed its nodes anew -/
theorem JA.fl (h : JA As Bs A B δ G n m) (t : JT n' m N' o' e' p') (q : JP m N' o' p') (hB' : BI A B n') (hF : FL n n') : JA As Bs A B δ G n' m ∧ FA n n' m m := by
  have hB := h.bi
  have e6 : n' 10 0 6 = n 10 0 6 := hF.2.2 6 (by decide) (by decide)
  have frr : FRR n n' := FRR.ks (fun K c => by
    simp only [List.mem_cons, List.not_mem_nil, or_false, not_or] at c
    exact hF.1 K (by omega) (by omega) (by omega)) (by omega)
  have hj : JFk n n' m m := ⟨⟨hF.1 8 (by decide) (by decide) (by decide), hF.1 28 (by decide) (by decide) (by decide), hF.1 29 (by decide) (by decide) (by decide)⟩, fun _ _ => rfl⟩
  refine ⟨?_, FA.tree hB frr (fun _ _ => rfl) (LIV.refl m) (OLV.refl m) (.inr ⟨e6, fun _ _ _ => rfl⟩) (Int.le_refl _) (.inr (fun _ _ _ => rfl))⟩
  obtain ⟨κ, N, o, e, p, a1, a2, a3, a4, a5, a6, a7, a8⟩ := h.tree t q hB' frr (fun _ _ => rfl) (by omega) (by omega) (LIV.refl m) hj
  obtain ⟨_, _, _, _, _, _, _, _, _, _, _, _, b8⟩ := h
  refine ⟨κ, N, o, e, p, a1, a2, a3, a4, a5, a6, a7, ?_⟩
  unfold gB at *
  rw [e6]; exact b8
theorem JRn.fa (h : JRn n m) (hB' : BI A B n') (hF : FA n n' m m') : JRn n' m' := by
  obtain ⟨h1, h2, h3, h4, h5⟩ := h
  obtain ⟨⟨a1, a2, a3, a4⟩, b1, _, _, b2, _, b3⟩ := hF
  obtain ⟨c1, c2⟩ := a2 609 (by decide) (by decide) (by decide)
  have hb := hB'.1 609 (by decide) (by decide)
  unfold JRn
  rw [b1 159 (by omega), b1 160 (by omega), b1 161 (by omega), b1 162 (by omega), a3 13 (by decide), c1]
  unfold B1 at hb
  rw [c1] at hb
  exact ⟨h1, ⟨hb.2.2.1, by have := hb.2.2.2.1.2.2; omega, fun j x y => by rw [c2]; exact h2.2.2 j x y⟩, h3, h4, h5.liv h4.2.1 b2 b3⟩
/-- the row of the script is none of a node's -/
theorem JRn.row (hB : BI A B n) : (0 ≤ n 4 609 1 ∧ n 4 609 1 < n 90 0 0) ∧ ∀ b, 0 ≤ b → b ≤ 631 → b ≠ 609 → n 4 b 1 ≠ n 4 609 1 := by
  refine ⟨(hB.1 609 (by decide) (by decide)).2.1, fun b x y z w => z (hB.2.1 b 609 x y (by decide) (by decide) w)⟩
/-- a step that has ended, in both -/
def DON (As Bs : Int → Prop) (A B δ G : Int) (n : NS) (m : YS) (X : Option (Int × NS)) (Y : Option (Int × YS)) : Prop :=
  ∃ r n' m', X = some (r, n') ∧ Y = some (r, m') ∧ (r = 0 ∨ r = 1) ∧ JA As Bs A B δ (G + 10) n' m' ∧ FA n n' m m'
theorem opText (h : JA As Bs A B δ G n m) (hG : G < 600000000) (hR : JRn n m) (hT : JTr n m N o e p) (k0 : 0 ≤ k) (k1 : k < N) (hk : o k = v) (h17 : m 46 v ≠ 17) (h164 : m 164 0 = v) (h126 : m 126 0 = 0) (hf : 0 ≤ fr ∧ fr ≤ to ∧ to ≤ m 160 0) :
    DON As Bs A B δ G n m ((N_Tree_setText v (n 4 609 1) fr to n).bind fun n27 => some (1, n27)) ((N_Y_setText 159 fr (to - fr) m).bind fun m20 => some (1, m20)) := by
  have hB := h.bi
  obtain ⟨r1, r2, r3, r4, r5⟩ := hR
  have hrow := JRn.row hB
  have hg := h
  obtain ⟨_, _, _, _, _, _, _, _, _, _, _, _, g⟩ := hg
  obtain ⟨n', m', N', o', e', p', x1, x2, x3, x4, x5, x6, x7, x8, x9, x10, x11, x12, x13, x14⟩ := setText_both (F := 159) (a := fr) (fr := fr) (to := to) (L := m 160 0) (g := m 159) hT.1 hT.2.1 hB k0 k1 hk h17 h164 ⟨hT.2.2.2, by have := g.1; omega, by have := g.2.1; omega⟩ r2 hrow.1 (fun b x y => hrow.2 b x (by omega) (by omega)) (by omega) (.inr (by decide)) ⟨hf.1, by show _ ≤ (2000 : Int); omega, by omega⟩ (fun j x y => ⟨rfl, r3 _ (by omega) (by omega)⟩)
  exact ⟨1, n', m', by rw [x1]; rfl, by rw [x2]; rfl, .inr rfl, (h.tree x3 x4 x5 x6 x7 x8 ⟨x9, x10⟩ x11 x14).mono (by omega), FA.tree hB x6 x7 x11 x12 x13 x9 (.inl h126)⟩
theorem opClass (h : JA As Bs A B δ G n m) (hG : G < 600000000) (hR : JRn n m) (hT : JTr n m N o e p) (k0 : 0 ≤ k) (k1 : k < N) (hk : o k = v) (h17 : m 46 v ≠ 17) (h164 : m 164 0 = v) (h126 : m 126 0 = 0) (hf : 0 ≤ fr ∧ fr ≤ to ∧ to ≤ m 160 0) :
    DON As Bs A B δ G n m ((N_Tree_setClass v (n 4 609 1) fr to n).bind fun n27 => some (1, n27)) ((N_Y_setClass fr to m).bind fun m20 => some (1, m20)) := by
  have hB := h.bi
  obtain ⟨r1, r2, r3, r4, r5⟩ := hR
  have hrow := JRn.row hB
  have hg := h
  obtain ⟨_, _, _, _, _, _, _, _, _, _, _, _, g⟩ := hg
  obtain ⟨n', m', x1, x2, x3, x4, x5, x6, x7, x8, x12, x13, x14⟩ := setClass_both (fr := fr) (to := to) (L := m 160 0) (g := m 159) hT.1 hT.2.1 hB k0 k1 hk h17 h164 ⟨hT.2.2.2, by have := g.1; omega⟩ r2 hrow.1 (fun b x y => hrow.2 b x (by omega) (by omega)) (by omega) (fun j x y => ⟨rfl, r3 _ (by omega) (by omega)⟩)
  have liv : LIV m m' := LIV.of (x7 45 (by decide)) (x7 46 (by decide)) (x7 55 (by decide))
  have e69 : m' 69 0 = m 69 0 := by rw [x7 69 (by decide)]
  have fyr : FYR m m' := FYR.of x7 (by decide)
  exact ⟨1, n', m', by rw [x1]; rfl, by rw [x2]; rfl, .inr rfl, (h.tree x3 x4 x5 x6 fyr (by omega) ⟨by omega, by omega⟩ liv x14).mono (by omega), FA.tree hB x6 fyr liv x12 x13 (by omega) (.inl h126)⟩
theorem opAdd (h : JA As Bs A B δ G n m) (hG : G < 600000000) (hR : JRn n m) (hT : JTr n m N o e p) (k0 : 0 ≤ k) (k1 : k < N) (hk : o k = v) (h17 : m 46 v ≠ 17) (h164 : m 164 0 = v) (h126 : m 126 0 = 0) (hf : 0 ≤ fr ∧ to ≤ m 160 0) (hn : fr < to ∧ nmC (m 159) fr to = to) :
    DON As Bs A B δ G n m ((N_Acts_runAdd v (n 4 609 1) fr to n).bind (u2 fun z40 n43 => some (z40, n43))) ((N_Y_addElement fr to m).bind fun m20 => some (1, m20)) := by
  have hB := h.bi
  obtain ⟨r1, r2, r3, r4, r5⟩ := hR
  have hg := h
  obtain ⟨_, _, _, _, _, _, _, hNT, _, _, _, _, g⟩ := hg
  have hnm := nmC_in hn
  have eN := c_isName r2 (fr := fr) (to := to) ⟨hf.1, hf.2, r1.2.2⟩
  rw [if_pos hn] at eN
  obtain ⟨n', m', N', o', e', p', x1, x2, x3, x4, x5, x6, x7, x8, x9, x10, x11, x12, x13, x14⟩ := addEl_both (fr := fr) (to := to) (L := m 160 0) (g := m 159) hNT hT.1 hT.2.1 hB k0 k1 hk h17 h164 ⟨hT.2.2.2, by have := g.1; omega, by have := g.2.1; omega⟩ r2 ⟨hf.1, hn.1, hf.2, r1.2.2, hnm.1⟩ (fun j x y => ⟨rfl, hnm.2 j x y⟩) eN
  exact ⟨1, n', m', by rw [x1]; rfl, by rw [x2]; rfl, .inr rfl, (h.tree x3 x4 x5 x6 x7 (by omega) ⟨x9, x10⟩ x11 x14).mono (by omega), FA.tree hB x6 x7 x11 x12 x13 x9 (.inl h126)⟩
end M8
