/-! STYLE SHEETS: the SELECTORS of a RULE, in both -/
/-- where the pieces between commas begin -/
def atP (g : Int → Int) (br : Int) : Nat → Int → Int
  | 0, a => a
  | i + 1, a => atP g br i (nxA g 44 a br + 1)
/-- rooms before c are as they were -/
def FSz (c : Int) (m m' : YS) : Prop := FY [90, 91, 92, 93, 94, 95, 96, 97, 100] m m' ∧ (∀ k, k < c → m' 90 k = m 90 k ∧ m' 97 k = m 97 k) ∧ (∀ k, k < 3 * c → m' 91 k = m 91 k ∧ m' 93 k = m 93 k) ∧ (∀ k, k < 12 * c → m' 94 k = m 94 k ∧ m' 95 k = m 95 k) ∧ (∀ j, j < 96 * c → m' 96 j = m 96 j) ∧ (∀ j, j < 24 * c → m' 92 j = m 92 j)
/-- a room of the reference holds what the class reads of a piece -/
def RDp (g : Int → Int) (br a s : Int) (m : YS) : Prop := ∀ (n : NS) (d L : Int), tx n d g L → br ≤ L → L ≤ 400 → ∃ z n', N_Sheet_takeSelector d a (nxA g 44 a br) s n = some (z, n') ∧ FSn s n n' ∧ SL n' m s
section T7
variable {n n' n1 : NS} {m m' m'' : YS} {g : Int → Int} {a b c d to L k br s s' cnt q e : Int}
theorem FSz.refl : FSz c m m := ⟨fun _ _ => rfl, fun _ _ => ⟨rfl, rfl⟩, fun _ _ => ⟨rfl, rfl⟩, fun _ _ => ⟨rfl, rfl⟩, fun _ _ => rfl, fun _ _ => rfl⟩
theorem FSz.trans (h : FSz c m m') (h' : FSz c m' m'') : FSz c m m'' := ⟨fun K x => (h'.1 K x).trans (h.1 K x), fun k x => ⟨(h'.2.1 k x).1.trans (h.2.1 k x).1, (h'.2.1 k x).2.trans (h.2.1 k x).2⟩, fun k x => ⟨(h'.2.2.1 k x).1.trans (h.2.2.1 k x).1, (h'.2.2.1 k x).2.trans (h.2.2.1 k x).2⟩, fun c x => ⟨(h'.2.2.2.1 c x).1.trans (h.2.2.2.1 c x).1, (h'.2.2.2.1 c x).2.trans (h.2.2.2.1 c x).2⟩, fun j x => (h'.2.2.2.2.1 j x).trans (h.2.2.2.2.1 j x), fun j x => (h'.2.2.2.2.2 j x).trans (h.2.2.2.2.2 j x)⟩
theorem FSz.lo {c' : Int} (h : FSz c m m') (hc : c' ≤ c) : FSz c' m m' := ⟨h.1, fun k x => h.2.1 k (by omega), fun k x => h.2.2.1 k (by omega), fun k x => h.2.2.2.1 k (by omega), fun k x => h.2.2.2.2.1 k (by omega), fun k x => h.2.2.2.2.2 k (by omega)⟩
theorem FSy.z (h : FSy s m m') (hs : c ≤ s) : FSz c m m' := ⟨h.1, fun k x => h.2.1 k (by omega), fun k x => h.2.2.1 k (by omega), fun k x => h.2.2.2.1 k (by omega), fun k x => h.2.2.2.2.1 k (by omega), fun k x => h.2.2.2.2.2 k (by omega)⟩
theorem FSz.y100 {v : Int} : FSz c m (yw m 100 0 v) := ⟨fun f hf => yw_nF (fun y => hf (by rw [y]; decide)), fun _ _ => by rw [yw_nF (by decide), yw_nF (by decide)]; exact ⟨rfl, rfl⟩, fun _ _ => by rw [yw_nF (by decide), yw_nF (by decide)]; exact ⟨rfl, rfl⟩, fun _ _ => by rw [yw_nF (by decide), yw_nF (by decide)]; exact ⟨rfl, rfl⟩, fun _ _ => by rw [yw_nF (by decide)], fun _ _ => by rw [yw_nF (by decide)]⟩
theorem SL.z (h : SL n m s) (hz : FSz c m m') (hs : 0 ≤ s ∧ s < c) : SL n m' s := by
  obtain ⟨a1, a2, a3, a4, a5⟩ := h
  unfold SL
  rw [(hz.2.1 s hs.2).1, (hz.2.1 s hs.2).2]
  refine ⟨a1, a2, a3, a4, fun j x y => ?_⟩
  exact (a5 j x y).cg ⟨rfl, rfl⟩ (fun c u v => ⟨⟨rfl, rfl⟩, hz.2.2.2.1 c (by omega)⟩) (hz.2.2.1 _ (by omega)) (fun i u v => hz.2.2.2.2.2 i (by omega)) (fun i u v => hz.2.2.2.2.1 i (by omega))
theorem RDp.z (h : RDp g br a s m) (hz : FSz c m m') (hs : 0 ≤ s ∧ s < c) : RDp g br a s m' := fun n d L t h1 h2 => by
  obtain ⟨z, n', r1, r2, r3⟩ := h n d L t h1 h2
  exact ⟨z, n', r1, r2, r3.z hz hs⟩
/-- how a piece stands in the text of the reference -/
theorem piece_ok (ha : 0 ≤ a ∧ a ≤ br) (hT : TRM g (blA g a (nxA g 44 a br)) (nxA g 44 a br) e) : blA g a (nxA g 44 a br) = blA g a br ∧ okK g e br ∧ okA g (blA g a br) e br 0 ∧ blA g e br = nxA g 44 a br ∧ (blA g a br ≤ e ∧ e ≤ nxA g 44 a br) := by
  have hb := nxA_b (g := g) (c := 44) (a := a) (to := br) ha.2
  have hat : nxA g 44 a br < br → g (nxA g 44 a br) = 44 := fun z => Decidable.not_not.mp (scx_at (p := fun j => g j ≠ 44) z)
  have hin : ∀ j, a ≤ j → j < nxA g 44 a br → g j ≠ 44 := fun j x y => scx_in (p := fun j => g j ≠ 44) x y
  generalize nxA g 44 a br = st at *
  have nb : st < br → ¬ isBl (g st) := fun z y => by rw [hat z] at y; unfold isBl at y; omega
  have q1 := blA_ge (g := g) (i := a) (to := st)
  have q2 := blA_le (g := g) (i := a) (to := st) hb.1
  have e1 : blA g a br = blA g a st := blA_eq ⟨q1, by omega⟩ (fun j x y => blA_in x y) (fun z => by
    by_cases y : blA g a st < st
    · exact blA_at y
    · rw [show blA g a st = st by omega]; exact nb (by omega))
  rw [← e1] at hT q1 q2
  obtain ⟨t1, t2, t3⟩ := hT
  have e2 : blA g e br = st := blA_eq ⟨t1.2, hb.2⟩ t2 nb
  refine ⟨e1.symm, ⟨by omega, fun z => ?_⟩, .inr ⟨rfl, t3, fun j x y => hin j (by omega) (by omega), ?_⟩, e2, t1⟩
  · have h1 : isBl (g e) ∨ g e = 44 := by
      by_cases y : e < st
      · exact .inl (t2 e (Int.le_refl _) y)
      · have y' : e = st := by omega
        rw [y'] at z ⊢
        exact .inr (hat z)
    unfold isBl at h1
    unfold isNm
    omega
  · show blA g e br = br ∨ g (blA g e br) = 44
    rw [e2]
    by_cases y : st < br
    · exact .inr (hat y)
    · exact .inl (by omega)
/-- one piece: the class in room 40, the reference in its own -/
theorem piece_both (ht : tx n d g L) (hL : br ≤ L ∧ L ≤ 400) (ha : 0 ≤ a ∧ a ≤ br) (hs : 0 ≤ s ∧ s < 41) (h101 : m 101 = g) (h100 : m 100 0 = blA g a br) :
    ∃ n1 m1, FSn 40 n n1 ∧ FSy s m m1 ∧
      ((N_Sheet_takeSelector d a (nxA g 44 a br) 40 n = some (1, n1) ∧ N_Y_readSelector 101 br s 0 m = some (-1, m1) ∧ blA g (m1 100 0) br = nxA g 44 a br ∧ (0 ≤ m1 100 0 ∧ m1 100 0 ≤ br) ∧ RDp g br a s m1)
      ∨ (N_Sheet_takeSelector d a (nxA g 44 a br) 40 n = some (0, n1) ∧ ((∃ k, 0 ≤ k ∧ N_Y_readSelector 101 br s 0 m = some (k, m1)) ∨ (N_Y_readSelector 101 br s 0 m = some (-1, m1) ∧ (0 ≤ m1 100 0 ∧ m1 100 0 ≤ br) ∧ blA g (m1 100 0) br < br ∧ g (blA g (m1 100 0) br) ≠ 44)))) := by
  have hb := nxA_b (g := g) (c := 44) (a := a) (to := br) ha.2
  have hq1 := blA_ge (g := g) (i := a) (to := nxA g 44 a br)
  have hq2 := blA_le (g := g) (i := a) (to := nxA g 44 a br) hb.1
  obtain ⟨e, u1, u2'⟩ := cs_trim ht (a := blA g a (nxA g 44 a br)) (to := nxA g 44 a br) ⟨by omega, hq2, by omega, by omega⟩
  obtain ⟨o1, o2, o3, o4, o5⟩ := piece_ok ha u2'
  have te : ∀ {n : NS} {d L : Int}, tx n d g L → br ≤ L → tx n d g e := fun t h => ⟨t.1, by have := t.2.1; omega, fun j x y => t.2.2 j x (by omega)⟩
  have take : ∀ (n : NS) (d L s : Int), tx n d g L → br ≤ L → L ≤ 400 → N_Sheet_takeSelector d a (nxA g 44 a br) s n = (N_Sheet_readSelector d (blA g a br) e s n).bind (u2 fun z10 n13 => if z10 = -1 then some (1, n13) else some (0, n13)) := fun n d L s t h1 h2 => by
    obtain ⟨e', v1, v2⟩ := cs_trim t (a := blA g a (nxA g 44 a br)) (to := nxA g 44 a br) ⟨by omega, hq2, by omega, by omega⟩
    unfold N_Sheet_takeSelector
    rw [cs_skipB t ⟨ha.1, by omega, by omega⟩]
    simp only [Option.bind_some]
    rw [v1, v2.un u2', o1]
    simp only [Option.bind_some]
  have hT2 := te ht hL.1
  -- the same room, and room 40
  obtain ⟨z, n1, n2, c1, c2, c3, c4⟩ := sel_cc (s := 40) (s' := s) (a := blA g a br) (tc := e) (n := n) (n' := n) (by omega) hs ⟨by omega, o5.1, by omega⟩ hT2 hT2
  obtain ⟨n3, m1, w1, w2, w3⟩ := sel_both (d := d) (f := 101) (g := g) (s := s) (a := blA g a br) (tc := e) (ty := br) (al := 0) (n := n) (m := m) hs (.inr rfl) o2 o3 (.inl rfl) ⟨by show br ≤ (400 : Int); omega, by omega⟩ ⟨by omega, o5.1, h100⟩ hT2 h101
  rw [c2] at w3
  refine ⟨n1, m1, c3, w2, ?_⟩
  rcases w3 with ⟨x1, x2, x3, x4⟩ | ⟨k, x1, x2, x3⟩
  · have hz : z = -1 := by have := Option.some.inj x1; exact congrArg Prod.fst this
    refine .inl ⟨?_, x2, by rw [x4]; exact o4, by rw [x4]; omega, fun n' d' L' t' h1 h2 => ?_⟩
    · rw [take n d L 40 ht hL.1 hL.2, c1, hz]; rfl
    · -- whichever state the class is in
      obtain ⟨n4, m4, y1, y2, y3⟩ := sel_both (d := d') (f := 101) (g := g) (s := s) (a := blA g a br) (tc := e) (ty := br) (al := 0) (n := n') (m := m) hs (.inr rfl) o2 o3 (.inl rfl) ⟨by show br ≤ (400 : Int); omega, by omega⟩ ⟨by omega, o5.1, h100⟩ (te t' h1) h101
      have em : ∀ {u : Int} {mm : YS}, N_Y_readSelector 101 br s 0 m = some (u, mm) → u = -1 ∧ mm = m1 := fun h => by
        rw [x2] at h
        have := Option.some.inj h
        exact ⟨(congrArg Prod.fst this).symm, (congrArg Prod.snd this).symm⟩
      rcases y3 with ⟨v1, v2, v3, v4⟩ | ⟨k, v1, v2, v3⟩
      · rw [take n' d' L' s t' h1 h2, v1]
        exact ⟨1, n4, rfl, y1, by rw [← (em v2).2]; exact v3⟩
      · rcases v3 with v3 | ⟨v3, v4, v5⟩
        · have := (em v3).1; omega
        · rw [(em v3).2, x4] at v4; omega
  · have hz : z = k := by have := Option.some.inj x2; exact congrArg Prod.fst this
    refine .inr ⟨?_, ?_⟩
    · rw [take n d L 40 ht hL.1 hL.2, c1, hz]
      simp only [Option.bind_some, u2]
      rw [if_neg (by omega)]
    · rcases x3 with y | ⟨y1, y2, y3⟩
      · exact .inl ⟨k, by omega, y⟩
      · refine .inr ⟨y1, by rw [y2]; omega, ?_⟩
        rw [y2]
        -- something that is no blank stands before the end of the piece
        rcases o3 with o | ⟨_, p1, p2, _⟩
        · exact absurd o.1 (by decide)
        · have hlt : blA g k br < e := by
            by_cases v : blA g k br < e
            · exact v
            · exact absurd (blA_in (g := g) (i := k) (to := br) (j := e - 1) (by omega) (by omega)) (p1 (by omega))
          have hge := blA_ge (g := g) (i := k) (to := br)
          exact ⟨by omega, p2 _ (by omega) hlt⟩
/-- all pieces -/
theorem sels_both (hL : br ≤ L ∧ L ≤ 400) : ∀ (z : Nat) (a gd cnt first : Int) (n : NS) (m : YS), (br + 1 - a).toNat ≤ z → (0 ≤ a ∧ a ≤ br) → (0 ≤ gd ∧ gd ≤ a) → (0 ≤ cnt ∧ cnt ≤ 1000 + a) → tx n d g L → m 101 = g → blA g (m 100 0) br = blA g a br → (0 ≤ m 100 0 ∧ m 100 0 ≤ br) →
    (∃ n1 m1, FSn 40 n n1 ∧ FSz (min cnt 40) m m1 ∧ NL_Sheet_areSelectors_6 d br a gd n = some (.inl n1) ∧ (NL_Y_readRule_20 br to first cnt 1 m = some (.inl m1) ∨ NL_Y_readRule_20 br to first cnt 1 m = some (.inr (.inl m1))))
    ∨ (∃ n1 m1, ∃ P : Nat, FSn 40 n n1 ∧ FSz (min cnt 40) m m1 ∧ NL_Sheet_areSelectors_6 d br a gd n = some (.inr n1) ∧ NL_Y_readRule_20 br to first cnt 1 m = some (.inr (.inr (cnt + P, m1))) ∧ 1 ≤ P ∧ (∀ i, i < P → 0 ≤ atP g br i a ∧ atP g br i a ≤ br) ∧ br < atP g br P a ∧ (∀ i : Nat, i < P → cnt + i < 40 → RDp g br (atP g br i a) (cnt + i) m1)) := by
  intro z
  induction z with
  | zero => intro a gd cnt first n m hz ha; omega
  | succ z ih =>
    intro a gd cnt first n m hz ha hgd hcnt ht h101 hbl h100
    have hb := nxA_b (g := g) (c := 44) (a := a) (to := br) ha.2
    have hat : nxA g 44 a br < br → g (nxA g 44 a br) = 44 := fun z => Decidable.not_not.mp (scx_at (p := fun j => g j ≠ 44) z)
    have e8 : FY [100] m (yw m 100 0 (blA g a br)) := fun f hf => yw_nF (by simp only [List.mem_cons, List.not_mem_nil, or_false] at hf; exact hf)
    have hq := blA_ge (g := g) (i := a) (to := br)
    have hq2 := blA_le (g := g) (i := a) (to := br) ha.2
    obtain ⟨n1, m1, f1, f2, f3⟩ := piece_both (n := n) (d := d) (m := yw m 100 0 (blA g a br)) (s := min cnt 40) ht hL ha (by omega) (by rw [e8 101 (by decide)]; exact h101) yw_eq
    have g1 : m1 101 = g := by rw [f2.1 101 (by decide), e8 101 (by decide)]; exact h101
    have Z1 : FSz (min cnt 40) m m1 := (FSz.y100).trans (f2.z (Int.le_refl _))
    have c0 : ∀ (x : Int) (nn' : NS), N_Sheet_takeSelector d a (nxA g 44 a br) 40 n = some (x, nn') → nb_Sheet_areSelectors_6 d br a gd n = if x = 0 then some (.inr (.inl nn')) else some (.inl (nxA g 44 a br + 1, gd + 1, nn')) := fun x nn' e => by
      unfold nb_Sheet_areSelectors_6
      rw [if_neg (by omega), if_neg (by omega), cs_index ht ⟨ha.1, hL.1, by omega⟩]
      simp only [Option.bind_some]
      rw [e]
      simp only [Option.bind_some, u2]
      rw [ck_e _ (by omega), ck_e _ (by omega)]
    have y0 : ∀ (x : Int) (mm : YS), N_Y_readSelector 101 br (min cnt 40) 0 (yw m 100 0 (blA g a br)) = some (x, mm) → mm 101 = g → (0 ≤ mm 100 0 ∧ mm 100 0 ≤ br) ∨ 0 ≤ x → nb_Y_readRule_20 br to first cnt 1 m = if x < 0 then (if blA g (mm 100 0) br < br then (if g (blA g (mm 100 0) br) = 44 then some (.inl (cnt + 1, 1, yw (yw mm 100 0 (blA g (mm 100 0) br)) 100 0 (blA g (mm 100 0) br + 1))) else some (.inr (.inr (.inl (yw mm 100 0 (blA g (mm 100 0) br)))))) else some (.inl (cnt + 1, 0, yw (yw mm 100 0 (blA g (mm 100 0) br)) 100 0 (blA g (mm 100 0) br + 1)))) else some (.inr (.inl mm)) := fun x mm e eg h100' => by
      unfold nb_Y_readRule_20
      rw [if_neg (by decide), ys_blanks ⟨h100.1, by omega⟩ (by omega), h101, hbl]
      simp only [Option.bind_some]
      unfold st
      dsimp only
      rw [e]
      simp only [Option.bind_some, u2]
      by_cases y : x < 0
      · rw [if_pos y, if_pos y, ck_e _ (by omega), ys_blanks ⟨by omega, by omega⟩ (by omega), eg]
        simp only [Option.bind_some]
        rw [yw_eq, yw_nF (show (101 : Nat) ≠ 100 by decide), eg]
        have hle : mm 100 0 ≤ br := by omega
        have w1 := blA_ge (g := g) (i := mm 100 0) (to := br)
        have w2 := blA_le (g := g) (i := mm 100 0) (to := br) hle
        unfold nk_Y_readRule_105 nk_Y_readRule_106 nk_Y_readRule_122 st
        dsimp only
        rw [yw_eq, ck_e (a := blA g (mm 100 0) br + 1) _ (by omega)]
        by_cases y1 : blA g (mm 100 0) br < br
        · rw [if_pos y1, if_pos y1, ix_e _ ⟨by omega, by omega⟩]
          by_cases y2 : g (blA g (mm 100 0) br) = 44
          · rw [if_pos y2, if_pos y2, if_neg (by decide), if_pos y1]
          · rw [if_neg y2, if_neg y2, if_pos rfl, if_pos y1, if_pos y1]
        · rw [if_neg y1, if_neg y1, if_pos rfl]
          first
          | rw [if_neg y1, ck_e _ (by omega)]
          | rw [if_neg y1]
          | rw [ck_e _ (by omega)]
      · rw [if_neg y, if_neg y]
    rcases f3 with ⟨x1, x2, x3, x4, x5⟩ | ⟨x1, x2⟩
    · have cb := c0 1 n1 x1
      rw [if_neg (by decide)] at cb
      have yb := y0 (-1) m1 x2 g1 (.inl x4)
      rw [if_pos (by decide), x3] at yb
      generalize hst : nxA g 44 a br = st' at *
      have ea : ∀ i : Nat, atP g br (i + 1) a = atP g br i (st' + 1) := fun i => by
        show atP g br i (nxA g 44 a br + 1) = _
        rw [hst]
      have x5' : ∀ c, FSz (min (cnt + 1) 40) (yw (yw m1 100 0 st') 100 0 (st' + 1)) c → cnt < 40 → RDp g br a cnt c := fun c hz hc => by
        rw [show min cnt 40 = cnt by omega] at x5
        exact ((x5.z (c := cnt + 1) ((FSz.y100).trans FSz.y100) (by omega))).z (hz.lo (show cnt + 1 ≤ min (cnt + 1) 40 by omega)) (by omega)
      by_cases y1 : st' < br
      · rw [if_pos y1, if_pos (hat y1)] at yb
        generalize hm3 : yw (yw m1 100 0 st') 100 0 (st' + 1) = m3 at *
        have F3 : FSz (min cnt 40) m1 m3 := by rw [← hm3]; exact (FSz.y100).trans FSz.y100
        have I := ih (st' + 1) (gd + 1) (cnt + 1) first n1 m3 (by omega) (by omega) (by omega) (by omega) (f1.txx ht) (by rw [F3.1 101 (by decide)]; exact g1) (by rw [← hm3, yw_eq]) (by rw [← hm3, yw_eq]; omega)
        have E1 : NL_Sheet_areSelectors_6 d br a gd n = NL_Sheet_areSelectors_6 d br (st' + 1) (gd + 1) n1 := by
          unfold NL_Sheet_areSelectors_6
          exact it_inl (f := fun t : Int × Int × NS => nb_Sheet_areSelectors_6 d br t.1 t.2.1 t.2.2) (s := (a, gd, n)) cb
        have E2 : NL_Y_readRule_20 br to first cnt 1 m = NL_Y_readRule_20 br to first (cnt + 1) 1 m3 := by
          unfold NL_Y_readRule_20
          exact it_inl (f := fun t : Int × Int × YS => nb_Y_readRule_20 br to first t.1 t.2.1 t.2.2) (s := (cnt, 1, m)) yb
        rw [E1, E2]
        rcases I with ⟨n2, m2, r1, r2, r3, r4⟩ | ⟨n2, m2, P, r1, r2, r3, r4, r5, r6, r7, r8⟩
        · exact .inl ⟨n2, m2, f1.trans r1, Z1.trans (F3.trans (r2.lo (by omega))), r3, r4⟩
        · refine .inr ⟨n2, m2, P + 1, f1.trans r1, Z1.trans (F3.trans (r2.lo (by omega))), r3, by rw [r4, show cnt + 1 + (P : Int) = cnt + ((P + 1 : Nat) : Int) by omega], by omega, fun i hi => ?_, by rw [ea]; exact r7, fun i hi hc => ?_⟩
          · cases i with
            | zero => exact ha
            | succ i => rw [ea]; exact r6 i (by omega)
          · cases i with
            | zero =>
              show RDp g br a (cnt + ((0 : Nat) : Int)) m2
              rw [show cnt + ((0 : Nat) : Int) = cnt by omega]
              exact x5' m2 r2 (by omega)
            | succ i =>
              rw [ea, show cnt + ((i + 1 : Nat) : Int) = cnt + 1 + i by omega]
              exact r8 i (by omega) (by omega)
      · rw [if_neg y1] at yb
        generalize hm3 : yw (yw m1 100 0 st') 100 0 (st' + 1) = m3 at *
        have F3 : FSz (min cnt 40) m1 m3 := by rw [← hm3]; exact (FSz.y100).trans FSz.y100
        refine .inr ⟨n1, m3, 1, f1, Z1.trans F3, ?_, ?_, by omega, fun i hi => ?_, ?_, fun i hi hc => ?_⟩
        · unfold NL_Sheet_areSelectors_6
          rw [it_inl (f := fun t : Int × Int × NS => nb_Sheet_areSelectors_6 d br t.1 t.2.1 t.2.2) (s := (a, gd, n)) cb]
          refine it_inr ?_
          show nb_Sheet_areSelectors_6 d br (st' + 1) (gd + 1) n1 = _
          unfold nb_Sheet_areSelectors_6
          by_cases y : br < gd + 1
          · rw [if_pos y]
          · rw [if_neg y, if_pos (by omega)]
        · unfold NL_Y_readRule_20
          rw [it_inl (f := fun t : Int × Int × YS => nb_Y_readRule_20 br to first t.1 t.2.1 t.2.2) (s := (cnt, 1, m)) yb]
          refine it_inr ?_
          show nb_Y_readRule_20 br to first (cnt + 1) 0 m3 = _
          unfold nb_Y_readRule_20
          rw [if_pos rfl]; rfl
        · rw [show i = 0 by omega]; exact ha
        · show br < atP g br 0 (nxA g 44 a br + 1)
          rw [hst]
          show br < st' + 1
          omega
        · rw [show i = 0 by omega]
          show RDp g br a (cnt + ((0 : Nat) : Int)) m3
          rw [show cnt + ((0 : Nat) : Int) = cnt by omega]
          exact x5' m3 FSz.refl (by omega)
    · have cb := c0 0 n1 x1
      rw [if_pos rfl] at cb
      have ec : NL_Sheet_areSelectors_6 d br a gd n = some (.inl n1) := by
        unfold NL_Sheet_areSelectors_6
        exact it_inr cb
      rcases x2 with ⟨k, k0, x2⟩ | ⟨x2, x3, x4, x5⟩
      · have yb := y0 k m1 x2 g1 (.inr k0)
        rw [if_neg (by omega)] at yb
        refine .inl ⟨n1, m1, f1, Z1, ec, .inl ?_⟩
        unfold NL_Y_readRule_20
        exact it_inr yb
      · have yb := y0 (-1) m1 x2 g1 (.inl x3)
        rw [if_pos (by decide), if_pos x4, if_neg x5] at yb
        refine .inl ⟨n1, yw m1 100 0 (blA g (m1 100 0) br), f1, Z1.trans FSz.y100, ec, .inr ?_⟩
        unfold NL_Y_readRule_20
        exact it_inr yb
end T7
