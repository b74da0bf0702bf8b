/-! STYLE SHEETS: a RULE and a sheet, in both -/
/-- what reading sheets leaves as it was -/
def FHn' (n n' : NS) : Prop := (∀ K, K ∉ [9, 32, 33, 34, 35, 36, 37, 38, 39] → n' K = n K) ∧ ∀ k, k ≠ 13 → n' 9 0 k = n 9 0 k
def FHy' (m m' : YS) : Prop := FY [89, 90, 91, 92, 93, 94, 95, 96, 97, 98, 99, 100, 102, 103, 104] m m'
section T9
variable {n n' n'' : NS} {m m' m'' : YS} {g : Int → Int} {a at' b c d to L k br s : Int}
theorem FHn'.refl : FHn' n n := ⟨fun _ _ => rfl, fun _ _ => rfl⟩
theorem FHn'.trans (h : FHn' n n') (h' : FHn' n' n'') : FHn' n n'' := ⟨fun K x => (h'.1 K x).trans (h.1 K x), fun k x => (h'.2 k x).trans (h.2 k x)⟩
theorem FHn'.txx (h : FHn' n n') (ht : tx n d g L) : tx n' d g L := by
  unfold tx at *
  rw [h.1 92 (by decide), h.1 93 (by decide), h.1 99 (by decide)]; exact ht
theorem FNz.fh (h : FNz c n n') : FHn' n n' := ⟨fun K hK => h.1 K (fun z => hK (by simp only [List.mem_cons, List.not_mem_nil, or_false] at z ⊢; omega)), h.2.1⟩
theorem FDn.fh {ru : Int} (h : FDn ru n n') : FHn' n n' := ⟨fun K hK => h.1 K (fun z => hK (by rw [z]; decide)), fun k _ => by rw [h.1 9 (by decide)]⟩
theorem FSz.fh (h : FSz c m m') : FHy' m m' := h.1.mono (fun x hx => by simp only [List.mem_cons, List.not_mem_nil, or_false] at hx ⊢; omega)
theorem RLs.cg (h : RLs n m s) (h34 : n' 34 0 s = n 34 0 s) (h39 : ∀ j, 0 ≤ j → j < 11 * s + 11 → n' 39 0 j = n 39 0 j) (hm : ∀ j, 11 * s ≤ j → j < 11 * s + 11 → m' 98 j = m 98 j ∧ m' 99 j = m 99 j) : RLs n' m' s := by
  obtain ⟨h1, h2⟩ := h
  unfold RLs
  rw [h34]
  refine ⟨h1, fun p p0 p1 => ?_⟩
  rw [h39 _ (by omega) (by omega), (hm _ (by omega) (by omega)).1, (hm _ (by omega) (by omega)).2]
  exact h2 p p0 p1
theorem SL.y97 (h : SL n m s) (ef : ∀ f, 90 ≤ f → f ≤ 97 → m' f = m f) : SL n m' s := by
  obtain ⟨a1, a2, a3, a4, a5⟩ := h
  unfold SL
  rw [ef 90 (by decide) (by decide), ef 97 (by decide) (by decide)]
  exact ⟨a1, a2, a3, a4, fun j x y => (a5 j x y).cg ⟨rfl, rfl⟩ (fun c _ _ => by rw [ef 94 (by decide) (by decide), ef 95 (by decide) (by decide)]; exact ⟨⟨rfl, rfl⟩, rfl, rfl⟩) (by rw [ef 91 (by decide) (by decide), ef 93 (by decide) (by decide)]; exact ⟨rfl, rfl⟩) (fun i _ _ => by rw [ef 92 (by decide) (by decide)]) (fun i _ _ => by rw [ef 96 (by decide) (by decide)])⟩
theorem SL.n38 (h : SL n m s) (ef : ∀ K, 32 ≤ K → K ≤ 38 → n' K = n K) : SL n' m s := by
  obtain ⟨a1, a2, a3, a4, a5⟩ := h
  unfold SL
  rw [ef 32 (by decide) (by decide), ef 33 (by decide) (by decide)]
  exact ⟨a1, a2, a3, a4, fun j x y => (a5 j x y).cg (by rw [ef 35 (by decide) (by decide), ef 36 (by decide) (by decide)]; exact ⟨rfl, rfl⟩) (fun c _ _ => by rw [ef 37 (by decide) (by decide), ef 38 (by decide) (by decide)]; exact ⟨⟨rfl, rfl⟩, rfl, rfl⟩) ⟨rfl, rfl⟩ (fun _ _ _ => rfl) (fun _ _ _ => rfl)⟩
theorem rule_both (hS : SHT n m) (ht : tx n d g L) (hL : L ≤ 400) (h101 : m 101 = g) (ha : 0 ≤ a ∧ a ≤ br ∧ br < to ∧ to ≤ L) (hat : 0 ≤ at' ∧ at' ≤ br ∧ blA g at' br = blA g a br) (htx : ∀ j, 0 ≤ j → j < L → isTx (g j)) (h90 : n 90 0 0 ≤ 1000000) :
    ∃ n' m', ((N_Sheet_areSelectors d a br n).bind (u2 fun z14 n17 => if z14 = 0 then some n17 else N_Sheet_readRule d a br to n17)) = some n' ∧ N_Y_readRule at' br to m = some m' ∧ SHT n' m' ∧ FHn' n n' ∧ FHy' m m' := by
  obtain ⟨s1, s2, s3⟩ := hS
  generalize hcnt : m 89 0 = cnt at *
  have hmin : min cnt 40 = cnt := by omega
  have e4 : FSz cnt m (yw m 100 0 at') := FSz.y100
  have I := sels_both (d := d) (g := g) (to := to) (br := br) (L := L) ⟨by omega, hL⟩ (br + 1 - a).toNat a a cnt cnt n (yw m 100 0 at') (Nat.le_refl _) ⟨ha.1, ha.2.1⟩ ⟨ha.1, Int.le_refl _⟩ (by omega) ht (by rw [yw_nF (by decide)]; exact h101) (by rw [yw_eq]; exact hat.2.2) (by rw [yw_eq]; omega)
  rw [hmin] at I
  unfold N_Sheet_areSelectors N_Y_readRule st
  dsimp only
  rw [hcnt]
  rcases I with ⟨n1, m1, r1, r2, r3, r4⟩ | ⟨n1, m1, P, r1, r2, r3, r4, r5, r6, r7, r8⟩
  · -- it is no RULE
    have Z := e4.trans r2
    refine ⟨n1, m1, by rw [r3]; rfl, by rcases r4 with y | y <;> rw [y] <;> rfl, ⟨by rw [r1.1 9 (by decide), Z.1 89 (by decide), hcnt]; exact s1, by rw [Z.1 89 (by decide), hcnt]; exact s2, fun s x y => ?_⟩, (r1.z (c := 40) (Int.le_refl _)).fh, Z.fh⟩
    rw [Z.1 89 (by decide), hcnt] at y
    obtain ⟨q1, q2⟩ := s3 s x y
    exact ⟨(q1.z Z (by omega)).nz (r1.z (c := 40) (Int.le_refl _)) (by omega), q2.cg (by rw [r1.1 34 (by decide)]) (fun j _ _ => by rw [r1.1 39 (by decide)]) (fun j _ _ => by rw [Z.1 98 (by decide), Z.1 99 (by decide)]; exact ⟨rfl, rfl⟩)⟩
  · have Z := e4.trans r2
    have c13 : n1 9 0 13 = cnt := by rw [r1.1 9 (by decide)]; exact s1
    obtain ⟨n2, w1, w2, w3, w4⟩ := rule_sels (d := d) (g := g) (m := m1) (to := to) (ru := cnt) (br := br) (L := L) ⟨by omega, hL⟩ P a a cnt n1 r6 r7 ha.1 (by omega) ⟨c13, s2.1, s2.2⟩ (r1.txx ht) r8
    have t2 : tx n2 d g L := w2.txx (r1.txx ht)
    have h90' : n2 90 0 0 ≤ 1000000 := by rw [w2.1 90 (by decide), r1.1 90 (by decide)]; exact h90
    have g1 : m1 101 = g := by rw [Z.1 101 (by decide)]; exact h101
    have F2 : FHn' n n2 := ((r1.z (c := 40) (Int.le_refl _)).fh).trans w2.fh
    have X1 : (NL_Sheet_areSelectors_6 d br a a n).bind (us (fun n1 => some ((0 : Int), n1)) (fun n5 => some ((1 : Int), n5))) = some ((1 : Int), n1) := by rw [r3]; rfl
    have X2 : N_Sheet_readRule d a br to n1 = nk_Sheet_readRule_91 d br to cnt n2 := by
      unfold N_Sheet_readRule
      rw [c13, w1]; rfl
    have Y1 : ∀ m2 m3, N_Y_readDeclarations (br + 1) to m1 = some m2 → NL_Y_readRule_147 (cnt + P) cnt m2 = some m3 → (NL_Y_readRule_20 br to cnt cnt 1 (yw m 100 0 at')).bind (us (fun m7 => some m7) (us (fun m11 => some m11) (u2 fun z15 m16 => ck (br + 1) <| (N_Y_readDeclarations (br + 1) to m16).bind fun m23 => (NL_Y_readRule_147 z15 cnt m23).bind fun m26 => nk_Y_readRule_223 z15 m26))) = some (yw m3 89 0 (min (cnt + P) 40)) := fun m2 m3 q1 q2 => by
      rw [r4]
      simp only [Option.bind_some, us, u2]
      rw [ck_e _ (by omega), q1]
      simp only [Option.bind_some]
      rw [q2]
      rfl
    rw [X1]
    simp only [Option.bind_some, u2]
    rw [if_neg (by decide), X2]
    by_cases z40 : cnt = 40
    · -- no room is left
      obtain ⟨_, m2, _, v2, _, _, v5⟩ := decls_both (a := br + 1) (to := to) (ru := 0) t2 g1 ⟨by omega, by omega, ha.2.2.2, hL⟩ htx (by omega) h90'
      obtain ⟨m3, u1, u2', u3, u4⟩ := y_note (m := m2) (cnt := cnt + P) (first := cnt) (by omega)
      have eX : nk_Sheet_readRule_91 d br to cnt n2 = some n2 := by unfold nk_Sheet_readRule_91; rw [if_pos z40]
      have em : ∀ f, f ∉ [90, 91, 92, 93, 94, 95, 96, 97, 98, 99, 100, 102, 103, 104] → m3 f = m f := fun f hf => by
        simp only [List.mem_cons, List.not_mem_nil, or_false, not_or] at hf
        rw [u2' f (by simp only [List.mem_cons, List.not_mem_nil, or_false, not_or]; omega), v5 f (by simp only [List.mem_cons, List.not_mem_nil, or_false, not_or]; omega), Z.1 f (by simp only [List.mem_cons, List.not_mem_nil, or_false, not_or]; omega)]
      refine ⟨n2, yw m3 89 0 (min (cnt + P) 40), eX, Y1 m2 m3 v2 u1, ⟨by rw [w3, yw_eq], by rw [yw_eq]; omega, fun s x y => ?_⟩, F2, fun f hf => ?_⟩
      · rw [yw_eq] at y
        obtain ⟨q1, q2⟩ := s3 s x (by omega)
        refine ⟨(((q1.z Z (by omega)).y97 (m' := yw m3 89 0 (min (cnt + P) 40)) (fun f x y => by rw [yw_nF (by omega), u2' f (by simp only [List.mem_cons, List.not_mem_nil, or_false, not_or]; omega), v5 f (by simp only [List.mem_cons, List.not_mem_nil, or_false, not_or]; omega)])).nz (r1.z (c := 40) (Int.le_refl _)) (by omega)).nz w2 (by omega), q2.cg (by rw [(w2.2.2.1 s (by omega)).2.2, r1.1 34 (by decide)]) (fun j _ _ => by rw [w2.1 39 (by decide), r1.1 39 (by decide)]) (fun j x y => ?_)⟩
        rw [yw_nF (by decide), yw_nF (by decide), (u4 j (by omega)).1, (u4 j (by omega)).2, v5 98 (by decide), v5 99 (by decide), Z.1 98 (by decide), Z.1 99 (by decide)]
        exact ⟨rfl, rfl⟩
      · simp only [List.mem_cons, List.not_mem_nil, or_false, not_or] at hf
        rw [yw_nF (by omega), em f (by simp only [List.mem_cons, List.not_mem_nil, or_false, not_or]; omega)]
    · obtain ⟨n3, m2, v1, v2, v3, v4, v5⟩ := decls_both (a := br + 1) (to := to) (ru := cnt) t2 g1 ⟨by omega, by omega, ha.2.2.2, hL⟩ htx (by omega) h90'
      obtain ⟨m3, u1, u2', u3, u4⟩ := y_note (m := m2) (cnt := cnt + P) (first := cnt) (by omega)
      have eX : nk_Sheet_readRule_91 d br to cnt n2 = some n3 := by
        unfold nk_Sheet_readRule_91
        rw [if_neg z40, ck_e _ (by omega), ck_e _ (by omega), ck_e _ (by omega)]
        simp only [ck_e (a := br + 1) _ (show -10000000 ≤ br + 1 ∧ br + 1 ≤ 10000000 by omega)]
        exact v1
      have em : ∀ f, f ∉ [90, 91, 92, 93, 94, 95, 96, 97, 98, 99, 100, 102, 103, 104] → m3 f = m f := fun f hf => by
        simp only [List.mem_cons, List.not_mem_nil, or_false, not_or] at hf
        rw [u2' f (by simp only [List.mem_cons, List.not_mem_nil, or_false, not_or]; omega), v5 f (by simp only [List.mem_cons, List.not_mem_nil, or_false, not_or]; omega), Z.1 f (by simp only [List.mem_cons, List.not_mem_nil, or_false, not_or]; omega)]
      have e97 : ∀ f, 90 ≤ f → f ≤ 97 → yw m3 89 0 (min (cnt + P) 40) f = m1 f := fun f x y => by
        rw [yw_nF (by omega), u2' f (by simp only [List.mem_cons, List.not_mem_nil, or_false, not_or]; omega), v5 f (by simp only [List.mem_cons, List.not_mem_nil, or_false, not_or]; omega)]
      have e38 : ∀ K, 32 ≤ K → K ≤ 38 → n3 K = n2 K := fun K x y => v4.1 K (by omega)
      refine ⟨n3, yw m3 89 0 (min (cnt + P) 40), eX, Y1 m2 m3 v2 u1, ⟨by rw [v4.1 9 (by decide), w3, yw_eq], by rw [yw_eq]; omega, fun s x y => ?_⟩, F2.trans v4.fh, fun f hf => ?_⟩
      · rw [yw_eq] at y
        by_cases zs : s < cnt
        · obtain ⟨q1, q2⟩ := s3 s x zs
          refine ⟨((((q1.z Z (by omega)).y97 e97).nz (r1.z (c := 40) (Int.le_refl _)) (by omega)).nz w2 (by omega)).n38 e38, q2.cg (by rw [v4.1 34 (by decide), (w2.2.2.1 s (by omega)).2.2, r1.1 34 (by decide)]) (fun j _ _ => by rw [v4.2 j (by omega), w2.1 39 (by decide), r1.1 39 (by decide)]) (fun j x y => ?_)⟩
          rw [yw_nF (by decide), yw_nF (by decide), (u4 j (by omega)).1, (u4 j (by omega)).2, v5 98 (by decide), v5 99 (by decide), Z.1 98 (by decide), Z.1 99 (by decide)]
          exact ⟨rfl, rfl⟩
        · obtain ⟨q1, q2⟩ := w4 s (by omega) y
          have e34 : n3 34 0 s = cnt := by rw [v4.1 34 (by decide)]; exact q2
          refine ⟨(q1.y97 e97).n38 e38, by rw [e34]; omega, fun p p0 p1 => ?_⟩
          rw [e34, yw_nF (show (98 : Nat) ≠ 89 by decide), yw_nF (show (99 : Nat) ≠ 89 by decide), (u3 s p (by omega) (by omega) p0 p1).1, (u3 s p (by omega) (by omega) p0 p1).2]
          exact v3 p p0 p1
      · simp only [List.mem_cons, List.not_mem_nil, or_false, not_or] at hf
        rw [yw_nF (by omega), em f (by simp only [List.mem_cons, List.not_mem_nil, or_false, not_or]; omega)]
theorem nx_skip (h : a ≤ b ∧ b ≤ to) (hn : ∀ j, a ≤ j → j < b → g j ≠ c) : nxA g c a to = nxA g c b to := by
  obtain ⟨s1, s2, s3, s4⟩ := scx_scn (p := fun j => g j ≠ c) b to
  refine (scx_eq (p := fun j => g j ≠ c) ⟨by omega, by omega, fun j x y => ?_, s4⟩).symm
  by_cases z : j < b
  · exact hn j x z
  · exact s3 j (by omega) y
/-- a sheet -/
theorem sheet_both (hL : 0 ≤ L ∧ L ≤ 400) (htx : ∀ j, 0 ≤ j → j < L → isTx (g j)) : ∀ (z : Nat) (a gd : Int) (n : NS) (m : YS), (L - a).toNat < z → 0 ≤ a → (0 ≤ gd ∧ gd ≤ a) → SHT n m → tx n d g L → m 101 = g → n 90 0 0 ≤ 1000000 →
    ∃ n' m', NL_Sheet_readSheet_5 d L a gd n = some n' ∧ (NL_Y_readSheet_7 L (blA g a L) m = some (.inl m') ∨ NL_Y_readSheet_7 L (blA g a L) m = some (.inr m')) ∧ SHT n' m' ∧ FHn' n n' ∧ FHy' m m' := by
  have cstop : ∀ (a gd : Int) (n : NS), ¬ a < L → NL_Sheet_readSheet_5 d L a gd n = some n := fun a gd n hlt => by
    unfold NL_Sheet_readSheet_5
    refine it_inr ?_
    show nb_Sheet_readSheet_5 d L a gd n = _
    unfold nb_Sheet_readSheet_5
    by_cases y : gd < L
    · rw [if_pos y, if_neg hlt]
    · rw [if_neg y]
  have ystop : ∀ (x : Int) (m : YS), ¬ x < L → NL_Y_readSheet_7 L x m = some (.inr m) := fun x m hlt => by
    unfold NL_Y_readSheet_7
    refine it_inr ?_
    show nb_Y_readSheet_7 L x m = _
    unfold nb_Y_readSheet_7
    rw [if_neg hlt]
  intro z
  induction z with
  | zero => intro a gd n m hz; omega
  | succ z ih =>
    intro a gd n m hz h0 hgd hS ht h101 h90
    by_cases hlt : a < L
    · have b1 := blA_ge (g := g) (i := a) (to := L)
      have b2 := blA_le (g := g) (i := a) (to := L) (by omega)
      have bin : ∀ j, a ≤ j → j < blA g a L → isBl (g j) := fun j x y => blA_in x y
      have bat : blA g a L < L → ¬ isBl (g (blA g a L)) := fun y => blA_at y
      have hst := nxA_b (g := g) (c := 125) (a := a) (to := L) (by omega)
      have sat : nxA g 125 a L < L → g (nxA g 125 a L) = 125 := fun z => Decidable.not_not.mp (scx_at (p := fun j => g j ≠ 125) z)
      have c1 := cs_index (c := 125) (i := a) (to := L) ht ⟨h0, Int.le_refl _, by omega⟩
      have e125 : nxA g 125 a L = nxA g 125 (blA g a L) L := nx_skip ⟨b1, b2⟩ (fun j x y w => by have := bin j x y; unfold isBl at this; omega)
      have hble : blA g a L ≤ nxA g 125 a L := by rw [e125]; exact (nxA_b (g := g) (c := 125) (a := blA g a L) (to := L) b2).1
      generalize hbe : blA g a L = be at *
      generalize hse : nxA g 125 a L = st' at *
      have c2 := cs_index (c := 123) (i := a) (to := st') ht ⟨h0, by omega, by omega⟩
      have hbr := nxA_b (g := g) (c := 123) (a := a) (to := st') (by omega)
      have rat : nxA g 123 a st' < st' → g (nxA g 123 a st') = 123 := fun z => Decidable.not_not.mp (scx_at (p := fun j => g j ≠ 123) z)
      have e123 : nxA g 123 a st' = nxA g 123 be st' := nx_skip ⟨b1, hble⟩ (fun j x y w => by have := bin j x y; unfold isBl at this; omega)
      have hbb : be ≤ nxA g 123 a st' := by rw [e123]; exact (nxA_b (g := g) (c := 123) (a := be) (to := st') hble).1
      generalize hbre : nxA g 123 a st' = br at *
      -- the class: what the RULE does, and on
      have cgo : ∀ n1, (if st' < L then (if br < st' then (N_Sheet_areSelectors d a br n).bind (u2 fun z14 n17 => if z14 = 0 then some n17 else N_Sheet_readRule d a br st' n17) else some n) else some n) = some n1 → nb_Sheet_readSheet_5 d L a gd n = some (.inl (st' + 1, gd + 1, n1)) := fun n1 h => by
        have h71 : ∀ n, nk_Sheet_readSheet_71 d L gd st' n = some (.inl (st' + 1, gd + 1, n)) := fun n => by
          unfold nk_Sheet_readSheet_71
          rw [ck_e _ (by omega), ck_e _ (by omega)]
        unfold nb_Sheet_readSheet_5
        rw [if_pos (by omega), if_pos hlt, c1]
        simp only [Option.bind_some]
        rw [c2]
        simp only [Option.bind_some, h71]
        by_cases y1 : st' < L
        · rw [if_pos y1] at h ⊢
          by_cases y2 : br < st'
          · rw [if_pos y2] at h ⊢
            cases hA : N_Sheet_areSelectors d a br n with
            | none => rw [hA] at h; cases h
            | some x =>
              obtain ⟨x1, x2⟩ := x
              rw [hA] at h
              simp only [Option.bind_some, u2] at h ⊢
              by_cases y3 : x1 = 0
              · rw [if_pos y3] at h ⊢
                cases h; rfl
              · rw [if_neg y3] at h ⊢
                rw [h]; rfl
          · rw [if_neg y2] at h ⊢
            cases h; rfl
        · rw [if_neg y1] at h ⊢
          cases h; rfl
      by_cases y1 : st' < L
      · have ys1 := ys_brace (m := m) (x := be) (i := be) (to := L) ⟨by omega, by omega⟩ hL.2
        rw [h101, ← e125] at ys1
        have ys2 := ys_obrace (m := m) (x := L) (y := be) (i := be) (to := st') ⟨by omega, by omega⟩ (by omega)
        rw [h101, ← e123] at ys2
        have ygo : ∀ m1, m1 101 = g → (if br < st' then N_Y_readRule be br st' m else some m) = some m1 → nb_Y_readSheet_7 L be m = some (.inl (blA g (st' + 1) L, m1)) := fun m1 g1 h => by
          have h83 : nk_Y_readSheet_83 L st' m1 = some (.inl (blA g (st' + 1) L, m1)) := by
            unfold nk_Y_readSheet_83
            rw [ck_e _ (by omega), ys_blanks ⟨by omega, by omega⟩ hL.2, g1]; rfl
          unfold nb_Y_readSheet_7 nk_Y_readSheet_36 nk_Y_readSheet_69
          rw [if_pos (by omega), ys1]
          simp only [Option.bind_some]
          rw [if_neg (by omega), ys2]
          simp only [Option.bind_some]
          by_cases y2 : br < st'
          · rw [if_pos y2] at h ⊢
            rw [h]
            simp only [Option.bind_some]
            exact h83
          · rw [if_neg y2] at h ⊢
            cases h
            exact h83
        have on : ∀ n1 m1, SHT n1 m1 → FHn' n n1 → FHy' m m1 → (if st' < L then (if br < st' then (N_Sheet_areSelectors d a br n).bind (u2 fun z14 n17 => if z14 = 0 then some n17 else N_Sheet_readRule d a br st' n17) else some n) else some n) = some n1 → (if br < st' then N_Y_readRule be br st' m else some m) = some m1 → ∃ n' m', NL_Sheet_readSheet_5 d L a gd n = some n' ∧ (NL_Y_readSheet_7 L be m = some (.inl m') ∨ NL_Y_readSheet_7 L be m = some (.inr m')) ∧ SHT n' m' ∧ FHn' n n' ∧ FHy' m m' := fun n1 m1 q1 q2 q3 q4 q5 => by
          have g1 : m1 101 = g := by rw [q3 101 (by decide)]; exact h101
          obtain ⟨n2, m2, r1, r2, r3, r4, r5⟩ := ih (st' + 1) (gd + 1) n1 m1 (by omega) (by omega) (by omega) q1 (q2.txx ht) g1 (by rw [q2.1 90 (by decide)]; exact h90)
          have E1 : NL_Sheet_readSheet_5 d L a gd n = NL_Sheet_readSheet_5 d L (st' + 1) (gd + 1) n1 := by
            unfold NL_Sheet_readSheet_5
            exact it_inl (f := fun t : Int × Int × NS => nb_Sheet_readSheet_5 d L t.1 t.2.1 t.2.2) (s := (a, gd, n)) (cgo n1 q4)
          have E2 : NL_Y_readSheet_7 L be m = NL_Y_readSheet_7 L (blA g (st' + 1) L) m1 := by
            unfold NL_Y_readSheet_7
            exact it_inl (f := fun t : Int × YS => nb_Y_readSheet_7 L t.1 t.2) (s := (be, m)) (ygo m1 g1 q5)
          rw [E1, E2]
          exact ⟨n2, m2, r1, r2, r3, q2.trans r4, q3.trans r5⟩
        rw [if_pos y1] at on
        by_cases y2 : br < st'
        · rw [if_pos y2, if_pos y2] at on
          have e1 : blA g a br = be := blA_eq ⟨b1, hbb⟩ (fun j x y => bin j x y) (fun y => bat (by omega))
          have e2 : blA g be br = be := blA_eq ⟨Int.le_refl _, hbb⟩ (fun j x y => by omega) (fun y => bat (by omega))
          obtain ⟨n1, m1, r1, r2, r3, r4, r5⟩ := rule_both (a := a) (br := br) (to := st') (at' := be) hS ht hL.2 h101 ⟨h0, hbr.1, y2, hst.2⟩ ⟨by omega, hbb, by rw [e1, e2]⟩ htx h90
          exact on n1 m1 r3 r4 r5 r1 r2
        · rw [if_neg y2, if_neg y2] at on
          exact on n m hS FHn'.refl (FY.refl _ _) rfl rfl
      · -- no } any more
        have cb := cgo n (by rw [if_neg y1])
        have E1 : NL_Sheet_readSheet_5 d L a gd n = some n := by
          unfold NL_Sheet_readSheet_5
          rw [it_inl (f := fun t : Int × Int × NS => nb_Sheet_readSheet_5 d L t.1 t.2.1 t.2.2) (s := (a, gd, n)) cb]
          have := cstop (st' + 1) (gd + 1) n (by omega)
          unfold NL_Sheet_readSheet_5 at this
          exact this
        refine ⟨n, m, E1, ?_, hS, FHn'.refl, FY.refl _ _⟩
        by_cases y3 : be < L
        · have ys1 := ys_brace (m := m) (x := be) (i := be) (to := L) ⟨by omega, by omega⟩ hL.2
          rw [h101, ← e125] at ys1
          refine .inl ?_
          unfold NL_Y_readSheet_7
          refine it_inr ?_
          show nb_Y_readSheet_7 L be m = _
          unfold nb_Y_readSheet_7 nk_Y_readSheet_36
          rw [if_pos y3, ys1]
          simp only [Option.bind_some]
          rw [if_pos (by omega)]
        · exact .inr (ystop be m y3)
    · have b1 := blA_ge (g := g) (i := a) (to := L)
      exact ⟨n, m, cstop a gd n hlt, .inr (ystop _ m (by omega)), hS, FHn'.refl, FY.refl _ _⟩
end T9
