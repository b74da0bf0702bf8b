/-! STEPS ON A NODE: read -/
section N0
variable {n n' n'' : NS} {m m' m'' : YS} {A B N N' k v b δ G G' fr to d L : Int} {o e p o' e' p' : Int → Int} {As Bs W S : Int → Prop} {κ κ' : Int → Int}
/-- the scratch row alone has changed -/
theorem JA.scr (h : JA As Bs A B δ G n m) (hB' : BI A B n') (hF : FB (fun x => x = 610) n n') : JA As Bs A B δ G n' m ∧ FA n n' m m := by
  obtain ⟨κ, N, o, e, p, ⟨hJ, hH, hP⟩, h2, h3, ⟨h4, h4'⟩, h5, h6, h7, h8⟩ := h
  have hB := hJ.1
  have hA := hJ.2.1.1
  have hb := hJ.2.1.2.1
  have hS : ∀ x : Int, x = 610 → 0 ≤ x ∧ x ≤ 631 := fun x hx => by omega
  have fq : FQ As Bs (fun _ => False) n n' := FQ.fb hF hS hB hA hb
  have fs : FS (fun x => x = 610) n n' := FS.fb hF hS hB
  have kk : ∀ K, K ≠ 4 → K ≠ 90 → K ≠ 91 → K ≠ 92 → K ≠ 93 → K ≠ 99 → n' K = n K := hF.1
  have e0 : n' 0 = n 0 := kk 0 (by decide) (by decide) (by decide) (by decide) (by decide) (by decide)
  have e6 : n' 6 = n 6 := kk 6 (by decide) (by decide) (by decide) (by decide) (by decide) (by decide)
  have e10 : n' 10 = n 10 := kk 10 (by decide) (by decide) (by decide) (by decide) (by decide) (by decide)
  refine ⟨⟨κ, N, o, e, p, ⟨hJ.cg hB' fq (FQ7.fb hF hS hB) (fun _ h => h.elim) (fun K hK => kk K (by omega) (by omega) (by omega) (by omega) (by omega) (by omega)) (fun s _ => by rw [e6]) (fs.bt (by omega) (by omega)) (fun _ _ _ => rfl) (fun x _ => RwE.refl m x), hH.cg fq (fun _ h => h.elim) (by rw [e6]; exact ⟨rfl, rfl⟩) (kk 27 (by decide) (by decide) (by decide) (by decide) (by decide) (by decide)) ⟨rfl, rfl⟩ (fun x _ _ => RwE.refl m x), hP.fq fq hJ.2.1.2.2.1.2.1 (fun h => h.elim) (RwE.refl m 1)⟩,
    h2.cg (fun K c => kk K (by omega) (by omega) (by omega) (by omega) (by omega) (by omega)) (fun b x y => fs.bt (by omega) (by omega)) (fun _ _ _ => rfl), fun k a b => by rw [kk 21 (by decide) (by decide) (by decide) (by decide) (by decide) (by decide)]; exact h3 k a b,
    ⟨h4.cg (by rw [e0]) (kk 44 (by decide) (by decide) (by decide) (by decide) (by decide) (by decide)) (kk 45 (by decide) (by decide) (by decide) (by decide) (by decide) (by decide)) (fun b x y => fs.bt (by omega) (by omega)) (fun _ _ _ => rfl), h4'⟩,
    h5.cg (kk 26 (by decide) (by decide) (by decide) (by decide) (by decide) (by decide)) (by rw [e6]) (fun _ _ _ => rfl), ?_, h7.liv (by rw [e0]) rfl rfl (LIV.refl m) (Int.le_refl _), ?_⟩, ?_⟩
  · unfold JCt at *
    rw [e0]; exact h6
  · unfold gB at *
    rw [e10]; exact h8
  · refine ⟨⟨fun K c => ?_, fs.wid (fun x hx => .inr (.inr (by have hx : x = 610 := hx; omega))), fun s _ => by rw [e0], by rw [e6]⟩, fun _ _ => rfl, .inr ⟨by rw [e10], fun _ _ _ => rfl⟩, LYy.refl m, LIV.refl m, OLV.refl m, Int.le_refl _⟩
    simp only [List.mem_cons, List.not_mem_nil, or_false, not_or] at c
    exact kk K (by omega) (by omega) (by omega) (by omega) (by omega) (by omega)
theorem opRead (h : JA As Bs A B δ G n m) (hG : G < 600000000) (hR : JRn n m) (hT : JTr n m N o e p) (k0 : 0 ≤ k) (k1 : k < N) (hk : o k = v) (h17 : m 46 v ≠ 17) (h164 : m 164 0 = v) (h126 : m 126 0 = 0) (hf : 0 ≤ fr ∧ to ≤ m 160 0) (hn : fr < to ∧ nmC (m 159) fr to = to) :
    DON As Bs A B δ G n m ((N_Acts_lookUp (n 4 609 1) fr to n).bind (u2 fun z3 n6 => if z3 = 0 then some (0, n6) else nn (n6 4 610 1) ((N_Tree_setText v (n6 4 610 1) 0 (n6 4 610 2) n6).bind fun n17 => some (1, n17)))) ((N_Y_readStep fr to m).bind fun m2 => some (1, m2)) := by
  have hB := h.bi
  have hR' := hR
  obtain ⟨r1, r2, r3, r4, r5⟩ := hR
  have hrow := JRn.row hB
  have hnm := nmC_in hn
  have eN := c_isName r2 (fr := fr) (to := to) ⟨hf.1, hf.2, r1.2.2⟩
  rw [if_pos hn] at eN
  obtain ⟨n1, e1, a1, a2, a3⟩ := cs_clear (b := 610) (by decide) hB
  obtain ⟨hA1, fA1⟩ := h.scr a1 a2
  have tx1 : tx n1 (n 4 609 1) (m 159) (m 160 0) := a2.tx r2 hrow.1.2 (fun b hb => by subst hb; exact fun z => hrow.2 _ (by decide) (by decide) (by decide) z.symm)
  have eP := c_packN tx1 ⟨hf.1, hf.2, r1.2.2⟩ hn
  have hwN : okN (sg (m 159) fr (to - fr).toNat) := ⟨by rw [sg_len]; omega, by rw [sg_len]; omega, sg_mem (P := isNm) _ _ (fun x hx => hnm.2 _ (by omega) (by omega))⟩
  generalize hw : sg (m 159) fr (to - fr).toNat = w at *
  have hwl : (w.length : Int) = to - fr := by rw [← hw, sg_len]; omega
  obtain ⟨κ, N1, o1, e1', p1, ⟨hJ1, hH1, hP1⟩, _, _, _, ⟨hS1, hS8⟩, _⟩ := hA1
  obtain ⟨s, ss, q, mk, hW, hC, hRr⟩ := hP1
  have hAC := (hJ1.2.1.1 1582 hJ1.2.1.2.2.1.2.1).1
  have eRow := c_rowOf hS1 hW.nm hwN
  have hb := tbF_b (D := 175) (S := 176) (M := 177) (m := m) (s := s) (w := w) hS1.1
  have eS := y_stored (v1 := fr) (v2 := to - fr) hS1 hRr hW ⟨hf.1, by omega, by omega⟩ (by rw [show w.length = (to - fr).toNat by omega]; exact hw) hwN
  generalize hi : tbF 175 176 177 m (m 174 0) s w = i at *
  -- the value that is read
  obtain ⟨x, F, a, hx8, hxb, hxF, hxa, eV, eY⟩ : ∃ (x : List Int) (F : Nat) (a : Int), x.length ≤ 8 ∧ (∀ c ∈ x, isTx c) ∧ (F < 45 ∨ 88 < F) ∧ (0 ≤ a ∧ a + (x.length : Int) ≤ yLn F ∧ a + (x.length : Int) ≤ 100000 ∧ sg (m F) a x.length = x) ∧ N_Net_readStore (pk w) n1 = some (pk x) ∧ N_Y_readStep fr to m = (N_Y_setText F a (x.length : Int) m).bind fun m9 => some m9 := by
    have e26 : N_Net_readStore (pk w) n1 = if i < m 174 0 then ck (3 * i) (ck (3 * i + 2) (ix (3 * i + 2) 60 (some (n1 26 0 (3 * i + 2))))) else some 0 := by
      unfold N_Net_readStore ty
      rw [if_pos hAC.2.1, hS8, hC.1, eRow]
      rfl
    have eR : N_Y_readStep fr to m = if (if i < m 174 0 then i else -1) = -1 then (N_Y_setText 159 0 0 m).bind fun m9 => some m9 else ck (24 * (if i < m 174 0 then i else -1)) (ck (24 * (if i < m 174 0 then i else -1) + 16) (ix (if i < m 174 0 then i else -1) 20 ((N_Y_setText 175 (24 * (if i < m 174 0 then i else -1) + 16) (m 178 (if i < m 174 0 then i else -1)) m).bind fun m20 => some m20))) := by
      unfold N_Y_readStep
      unfold ck
      rw [if_pos (show inR (to - fr) by omega), eS]
      rfl
    have h20 := hS1.2.1
    by_cases hlt : i < m 174 0
    · have hr := hS1.2.2 i hb.1 hlt
      have hv8 := hr.2.1.2.2
      rw [if_pos hlt] at e26
      rw [if_pos hlt, if_neg (by omega)] at eR
      have hlen : ((tbV 175 178 m i).length : Int) = m 178 i := by unfold tbV; exact sg_lenI hr.1.2.2
      have hv1 := hv8.2.1
      refine ⟨tbV 175 178 m i, 175, 24 * i + 16, hv8.2.1, fun c hc => by have := hv8.2.2 c hc; unfold isNm at this; unfold isTx; omega, .inr (by decide), ⟨by omega, by show _ ≤ (480 : Int); omega, by omega, ?_⟩, ?_, ?_⟩
      · rw [show (tbV 175 178 m i).length = (m 178 i).toNat by omega]; rfl
      · rw [e26]
        unfold ck ix
        rw [if_pos (by omega), if_pos (by omega), if_pos (by omega), hr.2.2.2.2]
      · rw [eR, hlen]
        unfold ck ix
        rw [if_pos (by omega), if_pos (by omega), if_pos (by omega)]
    · rw [if_neg hlt] at e26
      rw [if_neg hlt, if_pos rfl] at eR
      exact ⟨[], 159, 0, by decide, (fun c hc => (by cases hc)), .inr (by decide), ⟨by decide, by decide, by decide, rfl⟩, e26, eR⟩
  have hxB : ∀ c ∈ x, isBt c := fun c hc => by have := hxb c hc; unfold isTx at this; unfold isBt; omega
  obtain ⟨n2, e2, b1, b2, b3⟩ := cs_addPacked (b := 610) (by decide) a1 hxB hx8
  obtain ⟨hA2, fA2⟩ := (h.scr a1 a2).1.scr b1 b2
  have hlim : (lim 610).toNat = 400 ∨ 8 ≤ (lim 610).toNat := .inr (by have := lim_b 610; omega)
  rw [a3, List.nil_append, List.take_of_length_le (by omega)] at b3
  have hlk : N_Acts_lookUp (n 4 609 1) fr to n = some (1, n2) := by
    unfold N_Acts_lookUp
    rw [eN]
    simp only [Option.bind_some]
    rw [if_neg (by decide), e1]
    simp only [Option.bind_some]
    rw [eP]
    simp only [Option.bind_some]
    rw [eV]
    simp only [Option.bind_some]
    rw [e2]; rfl
  have hb6 := b1.1 610 (by decide) (by decide)
  have hsz : n2 4 610 2 = (x.length : Int) := by
    have := bt_len (b := 610) (by decide) b1
    rw [b3] at this; exact this.symm
  -- the trees stand
  have fbx := a2.trans b2
  have hT2 : JTr n2 m N o e p := by
    have fs : FS (fun x => x = 610) n n2 := FS.fb fbx (fun x hx => by have hx : x = 610 := hx; omega) hB
    exact hT.cg (fun K c => fbx.1 K (by omega) (by omega) (by omega) (by omega) (by omega) (by omega)) (fun b x y => fs.bt (by omega) (by omega)) (fun _ _ _ => rfl)
  have hg := hA2
  obtain ⟨_, _, _, _, _, _, _, _, _, _, _, _, g⟩ := hg
  have hat : ∀ j, 0 ≤ j → j < (x.length : Int) → m F (a + j) = n2 99 (n2 4 610 1) j ∧ isTx (m F (a + j)) := fun j j0 j1 => by
    unfold bt at b3
    rw [hsz, Int.toNat_natCast] at b3
    have q := sg_inj _ _ _ (hxa.2.2.2.trans b3.symm) j.toNat (by omega)
    rw [show a + ((j.toNat : Nat) : Int) = a + j by omega, show 0 + ((j.toNat : Nat) : Int) = j by omega] at q
    refine ⟨q, ?_⟩
    have := sg_at (g := m F) x.length a j.toNat (by omega)
    rw [hxa.2.2.2, show a + ((j.toNat : Nat) : Int) = a + j by omega] at this
    exact hxb _ this
  obtain ⟨n', m', N', o', e', p', x1, x2, x3, x4, x5, x6, x7, x8, x9, x10, x11, x12, x13, x14⟩ := setText_both (n := n2) (F := F) (a := a) (fr := 0) (to := (x.length : Int)) (L := (x.length : Int)) (d := n2 4 610 1) (g := n2 99 (n2 4 610 1)) hT2.1 hT2.2.1 b1 k0 k1 hk h17 h164 ⟨hT2.2.2.2, by have := g.1; omega, by have := g.2.1; omega⟩ ⟨hb6.2.2.1, by have := hb6.2.2.2.1.2.2; omega, fun _ _ _ => rfl⟩ hb6.2.1 (fun b x y z => by have := b1.2.1 b 610 x (by omega) (by decide) (by decide) z; omega) (by omega) hxF (by omega) (fun j j0 j1 => by
    have := hat j j0 (by omega)
    rw [show (0 : Int) + j = j by omega]
    exact ⟨this.1, by rw [← this.1]; exact this.2⟩)
  rw [show (x.length : Int) - 0 = (x.length : Int) by omega] at x2
  refine ⟨1, n', m', ?_, by rw [eY, x2]; rfl, .inr rfl, (hA2.tree x3 x4 x5 x6 x7 x8 ⟨x9, x10⟩ x11 x14).mono (by omega), ((fA1.trans fA2).trans (FA.tree b1 x6 x7 x11 x12 x13 x9 (.inl h126)))⟩
  rw [hlk]
  show (if (1 : Int) = 0 then some (0, n2) else nn (n2 4 610 1) ((N_Tree_setText v (n2 4 610 1) 0 (n2 4 610 2) n2).bind fun n17 => some (1, n17))) = _
  rw [if_neg (by decide), hsz, x1]
  unfold nn
  rw [if_pos hb6.2.1.1]; rfl
end N0
