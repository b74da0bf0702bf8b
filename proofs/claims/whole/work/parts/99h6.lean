/-! THE ATTRIBUTES of a tag, one after the other, in both -/
def TInv (Z : NS × YS) (A B : Int) (n : NS) (m : YS) (N : Int) (o e p qs : Int → Int) (oc : Int) : Prop := JX Z A B n m N o e p qs oc ∧ TD n m ∧ JFb n m ∧ JFd n m ∧ RdI m
def EInv (Z : NS × YS) (A B : Int) (n : NS) (m : YS) (N : Int) (o e p qs : Int → Int) (oc : Int) : Prop := JX Z A B n m N o e p qs oc ∧ JF n m ∧ RdI m
section H6
variable {Z : NS × YS} {n n' : NS} {m m' : YS} {A B N i q b t z oc v1 v2 v3 v4 : Int} {o e p qs : Int → Int} {w v : List Int}
theorem smL_bt {g : Int → Int} {L : Int} (hg : ∀ j, 0 ≤ j → j < L → isTx (g j)) (hi : 0 ≤ i) (hq : q ≤ L) : ∀ c ∈ smL g i q, isBt c := by
  unfold smL
  refine sg_mem _ _ (fun x hx => ?_)
  exact toSm_bt (by have := hg (i + x) (by omega) (by omega); omega)
theorem vlL_tx {g : Int → Int} {L : Int} (hg : ∀ j, 0 ≤ j → j < L → isTx (g j)) (hi : 0 ≤ i) (hq : q ≤ L) : ∀ c ∈ vlL g i q, isTx c := fun c hc => by
  unfold vlL at hc
  have := List.mem_of_mem_take hc
  rw [List.mem_map] at this
  obtain ⟨x, hx, hx2⟩ := this
  rw [← hx2]
  exact (dcl_in (r := 0) (g := g) (to := q) (L := L) hg hq (q - i).toNat i hi x hx).1
theorem TD.y (h : TD n m) (hy : ∀ f, 80 ≤ f → f ≤ 84 → m' f = m f) : TD n m' := by
  unfold TD TD1 rnL rvL at *
  rw [hy 80 (by decide) (by decide), hy 81 (by decide) (by decide), hy 82 (by decide) (by decide), hy 83 (by decide) (by decide), hy 84 (by decide) (by decide)]; exact h
theorem FY.sub {l l' : List Nat} (h : FY l m m') (hs : ∀ x ∈ l, x ∈ l') : FY l' m m' := fun f hf => h f (fun z => hf (hs f z))
theorem it_same {σ ρ : Type} {f : σ → Option (σ ⊕ ρ)} {s s' : σ} (h : f s = f s') : it f s = it f s' := by rw [it_eq, h, ← it_eq]
theorem JX.ys (h : JX Z A B n m N o e p qs oc) (hy : FY YFs m m') : JX Z A B n m' N o e p qs oc := h.y (fun f a b _ _ _ => hy f (by simp only [List.mem_cons, List.not_mem_nil, or_false, not_or]; omega)) (FYR.of hy (by decide))
theorem RdI.y (h : RdI m) (h80 : m' 80 = m 80) (h82 : m' 82 = m 82) (h84 : m' 84 = m 84) (h85 : m' 85 = m 85) : RdI m' := by
  unfold RdI at *; rw [h80, h82, h84, h85]; exact h
/-- the reference alone -/
theorem y_attr (hX : JX Z A B n m N o e p qs oc) (hR : RdI m) (hi : 0 ≤ i ∧ i < m 76 0) (h85 : m 85 0 ≤ i) (hA : ATR (m 75) (m 76 0) i q b t z) :
    ∃ m', N_Y_readAttribute i m = some (min z (m 76 0), m') ∧ FY YFs m m' ∧ RdI m' ∧ m' 85 0 ≤ m 85 0 + 1
      ∧ ((((∃ a, 0 ≤ a ∧ a < m 80 0 ∧ rnL m a = smL (m 75) i q) ∨ m 80 0 = 4) ∧ YT2 m m' i) ∨ ((∀ a, 0 ≤ a → a < m 80 0 → rnL m a ≠ smL (m 75) i q) ∧ m 80 0 < 4 ∧ YAd m m' (smL (m 75) i q) (vlL (m 75) b t))) := by
  have hS := hX.2.2.2.1
  have hz := hA.b hi
  have hL := hS.1.2.2.2
  obtain ⟨m1, e1, f1, w1, w2⟩ := y_readAttr hL hS.2.2.2 hi hA
  have hR1 : RdI m1 := hR.y (f1 80 (by decide)) (f1 82 (by decide)) (f1 84 (by decide)) (f1 85 (by decide))
  obtain ⟨m2, e2, f2, r2, l2, c2⟩ := y_314 (z := min z (m 76 0)) hR1 ⟨by rw [f1 85 (by decide)]; exact h85, by omega⟩ w1 w2 (smL_len (by omega)).2 vlL_len
  refine ⟨m2, by rw [e1, e2], (f1.sub (by decide)).trans f2, r2, by rw [f1 85 (by decide)] at l2; exact l2, ?_⟩
  unfold YT2 YAd rnL rvL at *
  rw [f1 80 (by decide), f1 81 (by decide), f1 82 (by decide), f1 83 (by decide), f1 84 (by decide), f1 85 (by decide), f1 86 (by decide)] at c2
  exact c2
/-- what has been read of the ATTRIBUTES, in bytes -/
def rd1 (m : YS) (a : Int) : Int := if a < m 80 0 then m 82 a + m 84 a else 0
def rdW (m : YS) : Int := rd1 m 0 + rd1 m 1 + rd1 m 2 + rd1 m 3
theorem rdW_same {m m' : YS} (h80 : m' 80 = m 80) (h82 : m' 82 = m 82) (h84 : m' 84 = m 84) : rdW m' = rdW m := by
  unfold rdW rd1; rw [h80, h82, h84]
theorem rdW_add {m m' : YS} {w v : List Int} (h : YAd m m' w v) (h80 : 0 ≤ m 80 0 ∧ m 80 0 < 4) : rdW m' = rdW m + ((w.length : Int) + (v.length : Int)) := by
  obtain ⟨y1, ⟨_, _, y4, y5⟩, y6, _⟩ := h
  have e : ∀ a, 0 ≤ a → rd1 m' a = if a = m 80 0 then (w.length : Int) + (v.length : Int) else rd1 m a := fun a a0 => by
    unfold rd1
    rw [y1]
    by_cases z : a = m 80 0
    · rw [if_pos (by omega), if_pos z, z, y4, y5]
    · rw [if_neg z]
      by_cases y : a < m 80 0
      · have := y6 a a0 y
        rw [if_pos (by omega), if_pos y, this.2.2.1, this.2.2.2]
      · rw [if_neg (by omega), if_neg y]
  have e2 : rd1 m (m 80 0) = 0 := by unfold rd1; rw [if_neg (by omega)]
  unfold rdW
  rw [e 0 (by decide), e 1 (by decide), e 2 (by decide), e 3 (by decide)]
  rcases (show m 80 0 = 0 ∨ m 80 0 = 1 ∨ m 80 0 = 2 ∨ m 80 0 = 3 by omega) with y | y | y | y <;> rw [y] at e2 ⊢ <;> simp only [if_pos, if_neg, reduceIte] <;> simp <;> omega
theorem dcl_len {r : Int} {g : Int → Int} {to : Int} : ∀ (d : Nat) (i : Int), (to - i).toNat ≤ d → (dcl r g i to).length ≤ (to - i).toNat := by
  intro d
  induction d with
  | zero =>
    intro i h
    rw [dcl_0 (by omega)]; exact Nat.zero_le _
  | succ d ih =>
    intro i h
    by_cases z : i < to
    · have hs := stL_b (r := r) (g := g) z
      have := ih (i + stL r g i to) (by omega)
      rw [dcl_1 z, List.length_cons]
      omega
    · rw [dcl_0 z]; exact Nat.zero_le _
theorem vlL_len2 {g : Int → Int} {i k : Int} : (vlL g i k).length ≤ (k - i).toNat := by
  unfold vlL
  rw [List.length_take, List.length_map]
  have := dcl_len (r := 0) (g := g) (to := k) (k - i).toNat i (Nat.le_refl _)
  omega
theorem rdW_attr {m m' : YS} {L : Int} (hR : RdI m) (hi : 0 ≤ i ∧ i < L) (hA : ATR (m 75) L i q b t z) (h : (((∃ a, 0 ≤ a ∧ a < m 80 0 ∧ rnL m a = smL (m 75) i q) ∨ m 80 0 = 4) ∧ YT2 m m' i) ∨ ((∀ a, 0 ≤ a → a < m 80 0 → rnL m a ≠ smL (m 75) i q) ∧ m 80 0 < 4 ∧ YAd m m' (smL (m 75) i q) (vlL (m 75) b t))) : rdW m' ≤ rdW m + (z - i) := by
  have hb := hA.b hi
  rcases h with ⟨_, y⟩ | ⟨_, y1, y2⟩
  · rw [rdW_same y.1 y.2.2.1 y.2.2.2.2.1]; omega
  · rw [rdW_add y2 ⟨hR.1.1, y1⟩]
    have h1 : (smL (m 75) i q).length ≤ (q - i).toNat := by unfold smL; rw [sg_len]; omega
    have h2 := vlL_len2 (g := m 75) (i := b) (k := t)
    omega
theorem attr_start (h : TInv Z A B n m N o e p qs oc) (hi : 0 ≤ i ∧ i < m 76 0) (h85 : m 85 0 ≤ i) (hA : ATR (m 75) (m 76 0) i q b t z) (hz : z < m 76 0) :
    ∃ n' m', N_Reader_readAttribute i 0 n = some (z, n') ∧ N_Y_readAttribute i m = some (z, m') ∧ TInv Z A B n' m' N o e p qs oc ∧ m' 85 0 ≤ m 85 0 + 1 ∧ (∀ s, s ≠ 3 → n' 8 0 s = n 8 0 s) ∧ n' 10 = n 10 ∧ FY YFs m m' ∧ rdW m' ≤ rdW m + (z - i) := by
  obtain ⟨hX, hD, hb, hd, hR⟩ := h
  have hS := hX.2.2.2.1
  have hq := hA.b hi
  have hL := hS.1.2.2.2
  obtain ⟨m', ey, fy, r', l', c'⟩ := y_attr hX hR hi h85 hA
  rw [show min z (m 76 0) = z by omega] at ey
  have ec := c_readAttr (v2 := 0) hS.1 hS.2.2.2 hi hA
  have hwb : ∀ c ∈ smL (m 75) i q, isBt c := smL_bt hS.2.2.2 hi.1 (by omega)
  have e70 := fy 70 (by decide); have e71 := fy 71 (by decide); have e72 := fy 72 (by decide)
  have hrw := rdW_attr hR hi hA c'
  rcases c' with ⟨c1, c2⟩ | ⟨c1, c2, c3⟩
  · rw [c_206t hD hwb hS.1.2.1 hz c1] at ec
    have h3 : n 8 0 3 = m 70 0 + m 85 0 := hd.1
    have h850 := hd.2.1
    obtain ⟨n1, et, t1, t2, t3⟩ := c_tell (n := n) (w := 2) (pl := i) (by have := hb.1; have := hb.2.1; omega)
    obtain ⟨y80, y81, y82, y83, y84, y85, y86, y86'⟩ := c2
    refine ⟨n1, m', by rw [ec, et]; rfl, ey, ⟨(hX.tl t2 t3).ys fy, ?_, ?_, ?_, r'⟩, l', t3, t2 10 (by decide) (by decide) (by decide), fy, hrw⟩
    · refine TD.y (m := m) ?_ (fun f a b => by
        rcases (show f = 80 ∨ f = 81 ∨ f = 82 ∨ f = 83 ∨ f = 84 by omega) with y | y | y | y | y <;> subst y <;> assumption)
      unfold TD TD1 bt at *
      rw [t2 7 (by decide) (by decide) (by decide), t2 18 (by decide) (by decide) (by decide), t2 4 (by decide) (by decide) (by decide), t2 99 (by decide) (by decide) (by decide)]; exact hD
    · unfold JFb
      rw [e70, e71, e72]
      refine ⟨hb.1, hb.2.1, fun j j0 j1 j2 => ?_⟩
      have := t1.2.1 j j0 (by omega) j2
      rw [this.1, this.2]; exact hb.2.2 j j0 j1 j2
    · unfold JFd
      rw [e70, y85]
      refine ⟨by rw [t1.1, h3]; omega, by omega, fun j j0 j1 j2 => ?_⟩
      by_cases y : j = m 85 0
      · have := t1.2.2 (by rw [h3, ← y]; exact j2)
        rw [h3, ← y] at this
        rw [this.1, this.2, y, y86]; exact ⟨rfl, rfl⟩
      · have := t1.2.1 (m 70 0 + j) (by have := hb.1; omega) (by omega) j2
        rw [this.1, this.2, y86' j y]; exact hd.2.2 j j0 (by omega) j2
  · obtain ⟨n1, x1, x2, x3, x4, x5, x6, x7, x8, x9, x10, x11⟩ := c_206 (i := i) (b := b) (t := t) hX hD hwb ⟨by omega, by omega, by omega⟩ hz c1 c2
    obtain ⟨y1, ⟨y2, y3, y4, y5⟩, y6, y7, y8⟩ := c3
    have hc := hD.1
    refine ⟨n1, m', by rw [ec, x1], ey, ⟨x2.ys fy, ⟨⟨by rw [x3, y1], by omega, by omega⟩, fun a a0 a1 => ?_⟩, ?_, ?_, r'⟩, l', fun s _ => by rw [x8], x11, fy, hrw⟩
    · by_cases y : a = m 80 0
      · subst y
        unfold TD1
        rw [y2, y3, y4, y5, x4, x6]
        have := smL_len (g := m 75) (i := i) (k := q) (by omega)
        exact ⟨by omega, hwb, rfl, ⟨by omega, by have := vlL_len (g := m 75) (i := b) (k := t); omega⟩, vlL_tx hS.2.2.2 (by omega) (by omega), rfl⟩
      · have ha := hD.2 a a0 (by omega)
        obtain ⟨z1, z2, z3, z4⟩ := y6 a a0 (by omega)
        unfold TD1
        rw [z1, z2, z3, z4, x5 a y, x7 a a0 (by omega) y]; exact ha
    · unfold JFb
      rw [e70, e71, e72, x9, x10]; exact hb
    · unfold JFd
      rw [e70, y7, y8, x8, x9, x10]; exact hd
theorem attr_end (h : EInv Z A B n m N o e p qs oc) (hi : 0 ≤ i ∧ i < m 76 0) (h85 : m 85 0 ≤ i) (hA : ATR (m 75) (m 76 0) i q b t z) (hz : z < m 76 0) :
    ∃ n' m', N_Reader_readAttribute i 1 n = some (z, n') ∧ N_Y_readAttribute i m = some (z, m') ∧ EInv Z A B n' m' N o e p qs oc ∧ m' 85 0 ≤ m 85 0 + 1 ∧ (∀ s, s ≠ 3 → n' 8 0 s = n 8 0 s) ∧ n' 10 = n 10 ∧ FY YFs m m' ∧ rdW m' ≤ rdW m + (z - i) := by
  obtain ⟨hX, hF, hR⟩ := h
  have hS := hX.2.2.2.1
  obtain ⟨m', ey, fy, r', l', c'⟩ := y_attr hX hR hi h85 hA
  rw [show min z (m 76 0) = z by omega] at ey
  refine ⟨n, m', ?_, ey, ⟨hX.ys fy, ?_, r'⟩, l', fun _ _ => rfl, rfl, fy, rdW_attr hR hi hA c'⟩
  · rw [c_readAttr (v2 := 1) hS.1 hS.2.2.2 hi hA]
    unfold nk_Reader_readAttribute_206
    rw [hS.1.2.1, if_pos hz, if_neg (by decide)]
  · unfold JF at *
    rw [fy 70 (by decide), fy 71 (by decide), fy 72 (by decide)]; exact hF
/-- one that does not end within the page -/
theorem attr_stop (hX : JX Z A B n m N o e p qs oc) (hR : RdI m) (hi : 0 ≤ i ∧ i < m 76 0) (h85 : m 85 0 ≤ i) (hA : ATR (m 75) (m 76 0) i q b t z) (hz : m 76 0 ≤ z) :
    ∃ m', N_Reader_readAttribute i v2 n = some (z, n) ∧ N_Y_readAttribute i m = some (m 76 0, m') ∧ FY YFs m m' := by
  have hS := hX.2.2.2.1
  obtain ⟨m', ey, fy, r', l', c'⟩ := y_attr hX hR hi h85 hA
  rw [show min z (m 76 0) = m 76 0 by omega] at ey
  refine ⟨m', ?_, ey, fy⟩
  rw [c_readAttr (v2 := v2) hS.1 hS.2.2.2 hi hA]
  unfold nk_Reader_readAttribute_206
  rw [hS.1.2.1, if_neg (by omega)]
/-- both loops over the attributes -/
theorem tagLoop {v6 : Int} (Inv : NS → YS → Prop) (hI : ∀ n m, Inv n m → JX Z A B n m N o e p qs oc ∧ RdI m)
    (hs : ∀ n m i q b t z, Inv n m → 0 ≤ i ∧ i < m 76 0 → m 85 0 ≤ i → ATR (m 75) (m 76 0) i q b t z → z < m 76 0 → ∃ n' m', N_Reader_readAttribute i v3 n = some (z, n') ∧ N_Y_readAttribute i m = some (z, m') ∧ Inv n' m' ∧ m' 85 0 ≤ m 85 0 + 1 ∧ (∀ s, s ≠ 3 → n' 8 0 s = n 8 0 s) ∧ n' 10 = n 10 ∧ FY YFs m m' ∧ rdW m' ≤ rdW m + (z - i)) :
    ∀ d : Nat, ∀ q gd n m, Inv n m → m 76 0 - q ≤ (d : Int) → 0 ≤ q ∧ q ≤ m 76 0 → 0 ≤ gd ∧ gd ≤ q → m 85 0 ≤ q →
      ∃ z n' m', NL_Reader_readTag_122 v1 v2 v3 v6 q gd n = some (z, n') ∧ NL_Y_readTag_127 v1 v4 q 1 m = some (min z (m 76 0), m') ∧ q ≤ z ∧ ((z < m 76 0 ∧ m 75 z = 62 ∧ Inv n' m' ∧ m' 85 0 - m 85 0 ≤ z - q ∧ rdW m' - rdW m ≤ z - q) ∨ (m 76 0 ≤ z ∧ ∃ m1, Inv n' m1 ∧ FY YFs m1 m')) ∧ (∀ s, s ≠ 3 → n' 8 0 s = n 8 0 s) ∧ n' 10 = n 10 ∧ FY YFs m m' := by
  intro d
  induction d with
  | zero =>
    intro q gd n m h hd hq hg h85
    obtain ⟨hX, hR⟩ := hI n m h
    have hS := hX.2.2.2.1
    have hL := hS.1.2.2.2
    have hqL : q = m 76 0 := by omega
    refine ⟨q, n, m, ?_, ?_, Int.le_refl _, .inr ⟨by omega, m, h, fun _ _ => rfl⟩, fun _ _ => rfl, rfl, fun _ _ => rfl⟩
    · unfold NL_Reader_readTag_122
      refine it_inr ?_
      show nb_Reader_readTag_122 v1 v2 v3 v6 q gd n = _
      unfold nb_Reader_readTag_122
      rw [hS.1.2.1, if_neg (show ¬ q < m 76 0 by omega)]
      split <;> rfl
    · have e132 : NL_Y_readTag_132 v1 v4 q m = some q := by
        unfold NL_Y_readTag_132
        refine it_inr ?_
        show nb_Y_readTag_132 v1 v4 q m = _
        unfold nb_Y_readTag_132
        rw [if_neg (by omega)]
      unfold NL_Y_readTag_127
      rw [it_inl (s' := (q, 0, m)) (by
        show nb_Y_readTag_127 v1 v4 q 1 m = _
        unfold nb_Y_readTag_127
        rw [if_neg (by decide), e132]
        show nk_Y_readTag_169 v1 v4 q m = _
        unfold nk_Y_readTag_169 nk_Y_readTag_192 nk_Y_readTag_193
        rw [if_neg (by omega), if_pos rfl])]
      rw [show min q (m 76 0) = q by omega]
      refine it_inr ?_
      show nb_Y_readTag_127 v1 v4 q 0 m = _
      unfold nb_Y_readTag_127
      rw [if_pos rfl]
  | succ d ih =>
    intro q gd n m h hd hq hg h85
    obtain ⟨hX, hR⟩ := hI n m h
    have hS := hX.2.2.2.1
    have hL := hS.1.2.2.2
    have h1 := hS.1.1
    have h2 := hS.1.2.1
    have h3 := hS.1.2.2.1
    by_cases hqL : q < m 76 0
    · have eg : n 99 (n 8 0 8) q = m 75 q := h1.2.2 q hq.1 hqL
      have ed : ∀ (α : Type) (x : Option α), dx n (n 8 0 8) 1 q x = x := fun α x => by unfold dx; rw [if_pos ⟨h1.1, hq.1, by have := h1.2.1; omega⟩]
      have en : ∀ (α : Type) (x : Option α), nn (n 8 0 8) x = x := fun α x => by unfold nn; rw [if_pos h3]
      have ec : ∀ (α : Type) (x : Option α) (j : Int), -10 ≤ j → j ≤ 5000 → ck j x = x := fun α x j j0 j1 => by unfold ck; rw [if_pos (by omega)]
      have ei : ∀ (α : Type) (x : Option α), ix q 2000 x = x := fun α x => by unfold ix; rw [if_pos (by omega)]
      by_cases h62 : m 75 q = 62
      · refine ⟨q, n, m, ?_, ?_, Int.le_refl _, .inl ⟨hqL, h62, h, by omega, by omega⟩, fun _ _ => rfl, rfl, fun _ _ => rfl⟩
        · unfold NL_Reader_readTag_122
          refine it_inr ?_
          show nb_Reader_readTag_122 v1 v2 v3 v6 q gd n = _
          unfold nb_Reader_readTag_122
          rw [h2, if_pos (show gd < m 76 0 by omega), if_pos hqL, en, ed, eg, if_pos h62]
        · have e132 : NL_Y_readTag_132 v1 v4 q m = some q := by
            unfold NL_Y_readTag_132
            refine it_inr ?_
            show nb_Y_readTag_132 v1 v4 q m = _
            obtain ⟨x, ex, hx⟩ := ys_blank (b := m 75 q) (m := m)
            unfold nb_Y_readTag_132
            rw [if_pos hqL, ei, ex]
            simp only [Option.bind_some]
            rw [if_pos (by rcases hx with ⟨_, y⟩ | ⟨y, _⟩ <;> omega), ei, if_neg (by omega)]
          unfold NL_Y_readTag_127
          rw [it_inl (s' := (q, 0, m)) (by
            show nb_Y_readTag_127 v1 v4 q 1 m = _
            unfold nb_Y_readTag_127
            rw [if_neg (by decide), e132]
            show nk_Y_readTag_169 v1 v4 q m = _
            unfold nk_Y_readTag_169 nk_Y_readTag_192 nk_Y_readTag_193
            rw [if_pos hqL, ei, if_pos h62, if_pos rfl])]
          rw [show min q (m 76 0) = q by omega]
          refine it_inr ?_
          show nb_Y_readTag_127 v1 v4 q 0 m = _
          unfold nb_Y_readTag_127
          rw [if_pos rfl]
      · by_cases hbs : isBl (m 75 q) ∨ m 75 q = 47
        · obtain ⟨z, n', m', i1, i2, i3, i4, i5, i6, i7⟩ := ih (q + 1) (gd + 1) n m h (by omega) (by omega) (by omega) (by omega)
          refine ⟨z, n', m', ?_, ?_, by omega, i4.imp (fun y => ⟨y.1, y.2.1, y.2.2.1, by have := y.2.2.2; omega, by have := y.2.2.2; omega⟩) id, i5, i6, i7⟩
          · rw [← i1]
            unfold NL_Reader_readTag_122
            refine it_inl ?_
            show nb_Reader_readTag_122 v1 v2 v3 v6 q gd n = _
            have ek : nk_Reader_readTag_177 v1 v2 v3 q v6 gd n = some (.inl (q + 1, gd + 1, n)) := by
              unfold nk_Reader_readTag_177
              rw [ec _ _ _ (by omega) (by omega), ec _ _ _ (by omega) (by omega)]
            unfold nb_Reader_readTag_122
            rw [h2, if_pos (show gd < m 76 0 by omega), if_pos hqL, en, ed, eg, if_neg h62, en, ed]
            obtain ⟨x, ex, hx⟩ := cs_blank (b := m 75 q) (n := n)
            rw [ex]
            simp only [Option.bind_some]
            rcases hx with ⟨x1, x2⟩ | ⟨x1, x2⟩
            · rw [if_neg (by omega)]; exact ek
            · rw [if_pos x1, en, ed, if_pos (by rcases hbs with y | y; exact absurd y x2; exact y)]; exact ek
          · rw [← i2]
            have e132 : NL_Y_readTag_132 v1 v4 q m = NL_Y_readTag_132 v1 v4 (q + 1) m := by
              unfold NL_Y_readTag_132
              refine it_inl ?_
              show nb_Y_readTag_132 v1 v4 q m = _
              obtain ⟨x, ex, hx⟩ := ys_blank (b := m 75 q) (m := m)
              unfold nb_Y_readTag_132
              rw [if_pos hqL, ei, ex]
              simp only [Option.bind_some]
              rcases hx with ⟨x1, x2⟩ | ⟨x1, x2⟩
              · rw [if_neg (by omega), ec _ _ _ (by omega) (by omega)]
              · rw [if_pos x1, ei, if_pos (by rcases hbs with y | y; exact absurd y x2; exact y), ec _ _ _ (by omega) (by omega)]
            unfold NL_Y_readTag_127
            refine it_same ?_
            show nb_Y_readTag_127 v1 v4 q 1 m = nb_Y_readTag_127 v1 v4 (q + 1) 1 m
            unfold nb_Y_readTag_127
            rw [if_neg (show ¬ (1 : Int) = 0 by decide), if_neg (show ¬ (1 : Int) = 0 by decide), e132]
        · obtain ⟨q', b', t', z', hA⟩ := ATR.ex (g := m 75) (L := m 76 0) (i := q)
          have hz' := hA.b ⟨hq.1, hqL⟩
          have e132 : NL_Y_readTag_132 v1 v4 q m = some q := by
            unfold NL_Y_readTag_132
            refine it_inr ?_
            show nb_Y_readTag_132 v1 v4 q m = _
            obtain ⟨x, ex, hx⟩ := ys_blank (b := m 75 q) (m := m)
            unfold nb_Y_readTag_132
            rw [if_pos hqL, ei, ex]
            simp only [Option.bind_some]
            rw [if_pos (by
              rcases hx with ⟨_, y⟩ | ⟨y, _⟩
              · exact absurd (.inl y) hbs
              · exact y), ei, if_neg (fun y => hbs (.inr y))]
          have cS : ∀ y n1, N_Reader_readAttribute q v3 n = some (y, n1) → nb_Reader_readTag_122 v1 v2 v3 v6 q gd n = some (.inl (y, gd + 1, n1)) := fun y n1 hy => by
            unfold nb_Reader_readTag_122
            rw [h2, if_pos (show gd < m 76 0 by omega), if_pos hqL, en, ed, eg, if_neg h62, en, ed]
            obtain ⟨x, ex, hx⟩ := cs_blank (b := m 75 q) (n := n)
            rw [ex]
            simp only [Option.bind_some]
            rw [if_pos (by
              rcases hx with ⟨_, y⟩ | ⟨y, _⟩
              · exact absurd (.inl y) hbs
              · exact y), en, ed, if_neg (fun y => hbs (.inr y)), hy]
            show ck (gd + 1) _ = _
            rw [ec _ _ _ (by omega) (by omega)]
          have yS : ∀ y m1, N_Y_readAttribute q m = some (y, m1) → nb_Y_readTag_127 v1 v4 q 1 m = some (.inl (y, 1, m1)) := fun y m1 hy => by
            unfold nb_Y_readTag_127
            rw [if_neg (by decide), e132]
            show nk_Y_readTag_169 v1 v4 q m = _
            unfold nk_Y_readTag_169 nk_Y_readTag_193
            rw [if_pos hqL, ei, if_neg h62, if_neg (by decide), hy]; rfl
          by_cases hzL : z' < m 76 0
          · obtain ⟨n1, m1, a1, a2, a3, a4, a5, a6, a7, a8⟩ := hs n m q q' b' t' z' h ⟨hq.1, hqL⟩ h85 hA hzL
            have e76 : m1 76 = m 76 := a7 76 (by decide)
            obtain ⟨z, n', m', i1, i2, i3, i4, i5, i6, i7⟩ := ih z' (gd + 1) n1 m1 a3 (by rw [e76]; omega) (by rw [e76]; omega) (by omega) (by omega)
            rw [e76] at i2 i4
            rw [a7 75 (by decide)] at i4
            refine ⟨z, n', m', ?_, ?_, by omega, i4.imp (fun y => ⟨y.1, y.2.1, y.2.2.1, by have := y.2.2.2; omega, by have := y.2.2.2; omega⟩) id, fun s hs => by rw [i5 s hs, a5 s hs], by rw [i6, a6], a7.trans i7⟩
            · rw [← i1]; unfold NL_Reader_readTag_122; exact it_inl (cS _ _ a1)
            · rw [← i2]; unfold NL_Y_readTag_127; exact it_inl (yS _ _ a2)
          · obtain ⟨m1, a1, a2, a3⟩ := attr_stop (v2 := v3) hX hR ⟨hq.1, hqL⟩ h85 hA (by omega)
            have e76 : m1 76 = m 76 := a3 76 (by decide)
            refine ⟨z', n, m1, ?_, ?_, by omega, .inr ⟨by omega, m, h, a3⟩, fun _ _ => rfl, rfl, a3⟩
            · unfold NL_Reader_readTag_122
              rw [it_inl (f := fun s : Int × Int × NS => nb_Reader_readTag_122 v1 v2 v3 v6 s.1 s.2.1 s.2.2) (s := (q, gd, n)) (cS _ _ a1)]
              refine it_inr ?_
              show nb_Reader_readTag_122 v1 v2 v3 v6 z' (gd + 1) n = _
              unfold nb_Reader_readTag_122
              rw [h2, if_neg (show ¬ z' < m 76 0 by omega)]
              split <;> rfl
            · unfold NL_Y_readTag_127
              rw [it_inl (f := fun s : Int × Int × YS => nb_Y_readTag_127 v1 v4 s.1 s.2.1 s.2.2) (s := (q, 1, m)) (yS _ _ a2)]
              have e132' : NL_Y_readTag_132 v1 v4 (m 76 0) m1 = some (m 76 0) := by
                unfold NL_Y_readTag_132
                refine it_inr ?_
                show nb_Y_readTag_132 v1 v4 (m 76 0) m1 = _
                unfold nb_Y_readTag_132
                rw [e76, if_neg (by omega)]
              rw [it_inl (f := fun s : Int × Int × YS => nb_Y_readTag_127 v1 v4 s.1 s.2.1 s.2.2) (s := (m 76 0, 1, m1)) (s' := (m 76 0, 0, m1)) (by
                show nb_Y_readTag_127 v1 v4 (m 76 0) 1 m1 = _
                unfold nb_Y_readTag_127
                rw [if_neg (by decide), e132']
                show nk_Y_readTag_169 v1 v4 (m 76 0) m1 = _
                unfold nk_Y_readTag_169 nk_Y_readTag_192 nk_Y_readTag_193
                rw [e76, if_neg (by omega), if_pos rfl])]
              rw [show min z' (m 76 0) = m 76 0 by omega]
              refine it_inr ?_
              show nb_Y_readTag_127 v1 v4 (m 76 0) 0 m1 = _
              unfold nb_Y_readTag_127
              rw [if_pos rfl]
    · have hz : q = m 76 0 := by omega
      obtain ⟨z, n', m', i1, i2, i3, i4, i5, i6, i7⟩ := ih q gd n m h (by omega) hq hg h85
      exact ⟨z, n', m', i1, i2, i3, i4, i5, i6, i7⟩
end H6
