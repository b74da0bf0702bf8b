/-! ALL THAT ACTS HOLD, in both; what a step leaves as it was -/
/-- a mark is of an element, where it is of a node at all -/
def ELm (m : YS) (v b : Int) : Prop := b ≤ m 69 0 ∧ (m 45 v = 1 → m 55 v = b → m 46 v ≠ 17)
def INm (m : YS) (v b : Int) : Prop := b ≤ m 69 0 ∧ (m 45 v = 1 → m 55 v = b → m 46 v = 13)
def JFo (n : NS) (m : YS) : Prop := (n 0 0 6 = -1 ∧ m 150 0 = -1) ∨ (MkR (n 0 0 6) (m 150 0) (m 151 0) ∧ INm m (m 150 0) (m 151 0))
def JSt (n : NS) (m : YS) : Prop := TRs 26 175 176 177 178 n m (m 174 0) ∧ n 6 0 8 = m 174 0
def gB (n : NS) (m : YS) (G : Int) : Prop := n 10 0 6 ≤ G ∧ m 69 0 ≤ G ∧ m 35 0 ≤ G ∧ m 167 0 ≤ G ∧ (0 ≤ m 155 0 ∧ m 155 0 ≤ G) ∧ (0 ≤ m 156 0 ∧ m 156 0 ≤ G) ∧ (0 ≤ m 157 0 ∧ m 157 0 ≤ G)
def JCt (δ : Int) (n : NS) (m : YS) : Prop := n 0 0 7 = m 155 0 + δ ∧ n 0 0 8 = m 156 0 ∧ n 0 0 10 = m 157 0
def JTe (m : YS) : Prop := ∀ i, 0 ≤ i → i < m 166 0 → ELm m (m 170 i) (m 171 i)
def JA (As Bs : Int → Prop) (A B δ G : Int) (n : NS) (m : YS) : Prop :=
  ∃ κ N o e p, JNt κ As Bs A B n m ∧ JTr n m N o e p ∧ NT n ∧ (JTk n m ∧ JTe m) ∧ JSt n m ∧ JCt δ n m ∧ JFo n m ∧ gB n m G
def FAn (n n' : NS) : Prop :=
  (∀ K, K ∉ [0, 4, 6, 7, 8, 10, 18, 22, 24, 25, 26, 27, 28, 29, 30, 31, 44, 90, 91, 92, 93, 99] → n' K = n K)
  ∧ FS (fun x => x = 607 ∨ x ≤ 604 ∨ (610 ≤ x ∧ x ≤ 630)) n n' ∧ (∀ s, s ∉ [5, 7, 8, 10] → n' 0 0 s = n 0 0 s) ∧ n' 6 0 16 = n 6 0 16
def FAy (m m' : YS) : Prop := ∀ f, (f ≤ 5 ∨ f = 16 ∨ (19 ≤ f ∧ f ≤ 22) ∨ f = 25 ∨ (89 ≤ f ∧ f ≤ 125) ∨ (127 ≤ f ∧ f ≤ 147) ∨ (150 ≤ f ∧ f ≤ 154) ∨ (158 ≤ f ∧ f ≤ 163) ∨ 179 ≤ f) → m' f = m f
def LYy (m m' : YS) : Prop := m' 126 0 = 0 ∨ (m' 126 0 = m 126 0 ∧ ∀ f, 45 ≤ f → f ≤ 63 → m' f = m f)
def FA (n n' : NS) (m m' : YS) : Prop := FAn n n' ∧ FAy m m' ∧ LYc n n' m m' ∧ LYy m m' ∧ LIV m m' ∧ OLV m m' ∧ m 69 0 ≤ m' 69 0
section M6
variable {n n' n'' : NS} {m m' m'' : YS} {A B N N' k v b δ G G' : Int} {o e p o' e' p' : Int → Int} {As Bs W S : Int → Prop} {κ κ' : Int → Int}
theorem LYy.refl (m : YS) : LYy m m := .inr ⟨rfl, fun _ _ _ => rfl⟩
theorem LYy.trans (h : LYy m m') (h' : LYy m' m'') : LYy m m'' := by
  rcases h' with h' | h'
  · exact .inl h'
  · rcases h with h | h
    · exact .inl (by omega)
    · exact .inr ⟨by omega, fun f a b => (h'.2 f a b).trans (h.2 f a b)⟩
theorem FA.refl (n : NS) (m : YS) : FA n n m m := ⟨⟨fun _ _ => rfl, FS.refl _ n, fun _ _ => rfl, rfl⟩, fun _ _ => rfl, LYc.refl n m, LYy.refl m, LIV.refl m, OLV.refl m, Int.le_refl _⟩
theorem FA.trans (h : FA n n' m m') (h' : FA n' n'' m' m'') : FA n n'' m m'' := by
  obtain ⟨⟨a1, a2, a3, a3'⟩, a4, a5, a6, a7, a8, a9⟩ := h
  obtain ⟨⟨b1, b2, b3, b3'⟩, b4, b5, b6, b7, b8, b9⟩ := h'
  exact ⟨⟨fun K c => (b1 K c).trans (a1 K c), a2.trans b2, fun s c => (b3 s c).trans (a3 s c), b3'.trans a3'⟩, fun f c => (b4 f c).trans (a4 f c), a5.trans b5, a6.trans b6, a7.trans b7 a9, a8.trans b8 b7 a9, Int.le_trans a9 b9⟩
theorem ELm.liv (h : ELm m v b) (hv : 0 ≤ v ∧ v < 120) (hl : LIV m m') (h69 : m 69 0 ≤ m' 69 0) : ELm m' v b := by
  have h1 := h.1
  exact ⟨by omega, fun x y => by
    have l := hl v hv.1 hv.2 x (by omega)
    rw [l.2.2]; exact h.2 l.1 (by rw [← l.2.1]; exact y)⟩
theorem INm.liv (h : INm m v b) (hv : 0 ≤ v ∧ v < 120) (hl : LIV m m') (h69 : m 69 0 ≤ m' 69 0) : INm m' v b := by
  have h1 := h.1
  exact ⟨by omega, fun x y => by
    have l := hl v hv.1 hv.2 x (by omega)
    rw [l.2.2]; exact h.2 l.1 (by rw [← l.2.1]; exact y)⟩
theorem JFo.liv (h : JFo n m) (h6 : n' 0 0 6 = n 0 0 6) (h150 : m' 150 = m 150) (h151 : m' 151 = m 151) (hl : LIV m m') (h69 : m 69 0 ≤ m' 69 0) : JFo n' m' := by
  unfold JFo at *
  rw [h6, h150, h151]
  rcases h with h | ⟨h, h'⟩
  · exact .inl h
  · exact .inr ⟨h, h'.liv h.2.1 hl h69⟩
theorem JTe.liv (h : JTe m) (hk : JTk n m) (hm : ∀ f, f = 166 ∨ f = 170 ∨ f = 171 → m' f = m f) (hl : LIV m m') (h69 : m 69 0 ≤ m' 69 0) : JTe m' := by
  unfold JTe at *
  rw [hm 166 (by omega), hm 170 (by omega), hm 171 (by omega)]
  exact fun i a b => (h i a b).liv (hk.2.2.2.1 i a b).2.1.2.1 hl h69
theorem JTk.cg (h : JTk n m) (h0 : n' 0 0 5 = n 0 0 5) (h44 : n' 44 = n 44) (h45 : n' 45 = n 45) (hb : ∀ b, 611 ≤ b → b ≤ 630 → bt n' b = bt n b) (hm : ∀ f, 166 ≤ f → f ≤ 173 → m' f = m f) : JTk n' m' := by
  obtain ⟨t1, t2, t3, t4, t5, t6⟩ := h
  have e6 := hm 166 (by decide) (by decide)
  unfold JTk
  rw [h0, h44, h45, e6, hm 167 (by decide) (by decide), hm 168 (by decide) (by decide), hm 169 (by decide) (by decide), hm 170 (by decide) (by decide), hm 171 (by decide) (by decide), hm 172 (by decide) (by decide), hm 173 (by decide) (by decide)]
  refine ⟨t1, t2, t3, fun i a b => ?_, t5, t6⟩
  have := t2 i a (by omega)
  rw [hb _ this.1 this.2]
  exact t4 i a b
theorem JSt.cg (h : JSt n m) (h26 : n' 26 = n 26) (h8 : n' 6 0 8 = n 6 0 8) (hm : ∀ f, 174 ≤ f → f ≤ 178 → m' f = m f) : JSt n' m' := by
  obtain ⟨h1, h2⟩ := h
  unfold JSt
  rw [h8, hm 174 (by decide) (by decide)]
  exact ⟨h1.cg (by rw [h26]) (hm 175 (by decide) (by decide)) (hm 176 (by decide) (by decide)) (hm 177 (by decide) (by decide)) (hm 178 (by decide) (by decide)), h2⟩
theorem JTr.cg (h : JTr n m N o e p) (hK : ∀ K, K = 7 ∨ K = 8 ∨ K = 10 ∨ K = 18 ∨ K = 22 ∨ K = 28 ∨ K = 29 → n' K = n K) (hb : ∀ b, 0 ≤ b → b ≤ 604 → bt n' b = bt n b) (hm : ∀ f, 45 ≤ f → f ≤ 72 → m' f = m f) : JTr n' m' N o e p := by
  obtain ⟨h1, h2, h3, h4⟩ := h
  have e7 := hK 7 (by omega)
  have e10 := hK 10 (by omega)
  refine ⟨⟨h1.1.cg e7 e10 (fun f hf => hm f (by omega) (by omega)), h1.2.1.cg e7, h1.2.2.1.cg e7 e10 (hK 22 (by omega)), fun k k0 k1 => (h1.2.2.2 k k0 k1).cg (YG.of (fun f hf => hm f (by omega) (by omega))) ⟨fun s _ => by rw [e7], by rw [hK 18 (by omega)], fun b x y => ?_⟩⟩, ?_, ?_, by rw [e10]; exact h4⟩
  · have := h1.1.1.oB k0 k1
    exact hb b (by omega) (by omega)
  · unfold JP at *
    rw [hm 46 (by decide) (by decide)]; exact h2
  · unfold JF at *
    rw [hK 8 (by omega), hK 28 (by omega), hK 29 (by omega), hm 70 (by decide) (by decide), hm 71 (by decide) (by decide), hm 72 (by decide) (by decide)]; exact h3
theorem JNt.frr (h : JNt κ As Bs A B n m) (hB' : BI A B n') (hF : FRR n n') (hy : FYR m m') : JNt κ As Bs A B n' m' := by
  obtain ⟨hJ, hH, hP⟩ := h
  have hB := hJ.1
  have hA := hJ.2.1.1
  have hb := hJ.2.1.2.1
  have fq : FQ As Bs (fun _ => False) n n' := FQ.frr hF hB hA hb
  have r : ∀ r, RwE m m' r := fun r => RwE.of (hy 6 (by decide)) (hy 7 (by decide)) (hy 8 (by decide))
  refine ⟨hJ.cg hB' fq (FQ7.frr hF hB) (fun _ h => h.elim) (fun K hK => hF.1 K (by simp only [List.mem_cons, List.not_mem_nil, or_false, not_or]; omega)) (fun s _ => by rw [hF.1 6 (by decide)]) ((FS.frr (S := fun x => x ≤ 604) hF hB (fun x _ h => h)).bt (by omega) (by omega)) (fun f a b => hy f (by omega)) (fun x _ => r x), ?_, hP.fq fq hJ.2.1.2.2.1.2.1 (fun h => h.elim) (r 1)⟩
  exact hH.cg fq (fun _ h => h.elim) (by rw [hF.1 6 (by decide)]; exact ⟨rfl, rfl⟩) (hF.1 27 (by decide)) ⟨hy 148 (by decide), hy 149 (by decide)⟩ (fun x _ _ => r x)
theorem gB.mono (h : gB n m G) (hG : G ≤ G') : gB n m G' := by
  obtain ⟨a1, a2, a3, a4, a5, a6, a7⟩ := h
  exact ⟨by omega, by omega, by omega, by omega, by omega, by omega, by omega⟩
theorem JA.mono (h : JA As Bs A B δ G n m) (hG : G ≤ G') : JA As Bs A B δ G' n m := by
  obtain ⟨κ, N, o, e, p, h1, h2, h3, h4, h5, h6, h7, h8⟩ := h
  exact ⟨κ, N, o, e, p, h1, h2, h3, h4, h5, h6, h7, h8.mono hG⟩
/-- the tree has changed -/
theorem JA.tree (h : JA As Bs A B δ G n m) (t : JT n' m' N' o' e' p') (q : JP m' N' o' p') (hB' : BI A B n') (hF : FRR n n') (hy : FYR m m') (c6 : n' 10 0 6 ≤ n 10 0 6 + 2) (c69 : m 69 0 ≤ m' 69 0 ∧ m' 69 0 ≤ m 69 0 + 1) (hl : LIV m m') (hj : JFk n n' m m') : JA As Bs A B δ (G + 2) n' m' := by
  obtain ⟨κ, N, o, e, p, h1, h2, h3, ⟨h4, h4'⟩, h5, h6, h7, h8⟩ := h
  have hB := h1.1.1
  have e0 : n' 0 = n 0 := hF.1 0 (by decide)
  have fs : FS (fun x => x ≤ 604) n n' := FS.frr hF hB (fun x _ h => h)
  refine ⟨κ, N', o', e', p', h1.frr hB' hF hy, ⟨t, q, hj.jf h2.2.2.1, by have := hF.2.2.2.2.2.2; have := h2.2.2.2; omega⟩, fun k a b => by rw [hF.1 21 (by decide)]; exact h3 k a b, ⟨h4.cg (by rw [e0]) (hF.1 44 (by decide)) (hF.1 45 (by decide)) (fun b x y => fs.bt (by omega) (by omega)) (fun f a b => hy f (by omega)), h4'.liv h4 (fun f hf => hy f (by omega)) hl c69.1⟩, h5.cg (hF.1 26 (by decide)) (by rw [hF.1 6 (by decide)]) (fun f a b => hy f (by omega)), ?_, h7.liv (by rw [e0]) (hy 150 (by decide)) (hy 151 (by decide)) hl c69.1, ?_⟩
  · unfold JCt at *
    rw [e0, hy 155 (by decide), hy 156 (by decide), hy 157 (by decide)]; exact h6
  · unfold gB at *
    rw [hy 35 (by decide), hy 155 (by decide), hy 156 (by decide), hy 157 (by decide), hy 167 (by decide)]
    omega
/-- the net has changed -/
theorem JA.net (h : JA As Bs A B δ G n m) (h' : JNt κ' As Bs A B n' m') (hK : ∀ K, K ∉ [4, 6, 24, 25, 27, 90, 91, 92, 93, 99] → n' K = n K) (e8 : n' 6 0 8 = n 6 0 8) (hS : FS (fun x => x = 607) n n') (hy : ∀ f, (45 ≤ f ∧ f ≤ 72) ∨ (150 ≤ f ∧ f ≠ 164) → m' f = m f) (h35 : m' 35 0 ≤ m 35 0 + 6) : JA As Bs A B δ (G + 6) n' m' := by
  obtain ⟨κ, N, o, e, p, h1, h2, h3, ⟨h4, h4'⟩, h5, h6, h7, h8⟩ := h
  have e0 : n' 0 = n 0 := hK 0 (by decide)
  have liv : LIV m m' := LIV.of (hy 45 (by omega)) (hy 46 (by omega)) (hy 55 (by omega))
  have e69 : m' 69 = m 69 := hy 69 (by omega)
  have c69 : m 69 0 ≤ m' 69 0 := by rw [e69]; exact Int.le_refl _
  refine ⟨κ', N, o, e, p, h', h2.cg (fun K c => hK K (by simp only [List.mem_cons, List.not_mem_nil, or_false, not_or]; omega)) (fun b x y => hS.bt (by omega) (by omega)) (fun f a b => hy f (by omega)), fun k a b => by rw [hK 21 (by decide)]; exact h3 k a b, ⟨h4.cg (by rw [e0]) (hK 44 (by decide)) (hK 45 (by decide)) (fun b x y => hS.bt (by omega) (by omega)) (fun f a b => hy f (by omega)), h4'.liv h4 (fun f hf => hy f (by omega)) liv c69⟩, h5.cg (hK 26 (by decide)) e8 (fun f a b => hy f (by omega)), ?_, h7.liv (by rw [e0]) (hy 150 (by omega)) (hy 151 (by omega)) liv c69, ?_⟩
  · unfold JCt at *
    rw [e0, hy 155 (by omega), hy 156 (by omega), hy 157 (by omega)]; exact h6
  · unfold gB at *
    rw [hK 10 (by decide), e69, hy 155 (by omega), hy 156 (by omega), hy 157 (by omega), hy 167 (by omega)]
    omega
end M6
