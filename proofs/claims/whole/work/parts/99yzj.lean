/-! THE CONSTRUCTORS: the class's tree -/
section YZJ
variable {g g' : g_S} {K q k t l p j : Nat} {f fH : Nat → Int} {L : List (Nat × (Nat → Int))} {m : YS} {α β : Type} {Q : α → Prop} {i b : Int}
theorem i32_120 : ∀ z, z < 120 → Int32.ofNat z < 120 ∧ ab_inb (Int32.ofNat z) 120 = true ∧ (Int32.ofNat z).toNatClampNeg = z ∧ Int32.ofNat z + 1 = Int32.ofNat (z + 1) := by decide +kernel
theorem i32_20 : ∀ z, z < 20 → Int32.ofNat z < 20 ∧ ab_inb (Int32.ofNat z) 20 = true ∧ (Int32.ofNat z).toNatClampNeg = z ∧ Int32.ofNat z + 1 = Int32.ofNat (z + 1) := by decide +kernel
theorem e_loop {b : Int32 → g_S → Option ((Int32 × g_S) ⊕ g_S)} {I : Nat → g_S → Prop} {N : Nat} (st : ∀ z g, z < N → I z g → ev (b (Int32.ofNat z) g) (fun c => ∃ g', c = .inl (Int32.ofNat (z + 1), g') ∧ I (z + 1) g')) (fin : ∀ g, I N g → b (Int32.ofNat N) g = some (.inr g)) : ∀ (r z : Nat) (g : g_S), z + r = N → I z g → ev (it (fun s : Int32 × g_S => b s.1 s.2) (Int32.ofNat z, g)) (I N)
  | 0, z, g, hr, hI => by
    have hz : z = N := by omega
    rw [hz] at hI ⊢
    rw [it_inr (f := fun s : Int32 × g_S => b s.1 s.2) (s := (Int32.ofNat N, g)) (fin g hI)]
    exact ev_ok hI
  | r + 1, z, g, hr, hI => by
    refine e_it (ev_mono (st z g (by omega) hI) (fun c hc => ?_))
    obtain ⟨g', rfl, h⟩ := hc
    exact e_loop st fin r (z + 1) g' (by omega) h
/-- the first so many are there -/
def fst' (b c : Int) (z : Nat) : Nat → Int := fun k => if k < z then b + c * k else -1
theorem fst_up {b c : Int} {z : Nat} : upv (fst' b c z) z (b + c * z) = fst' b c (z + 1) := by
  funext k
  unfold upv fst'
  by_cases h : k = z
  · rw [if_pos h, if_pos (by omega), h]
  · rw [if_neg h]
    by_cases h' : k < z
    · rw [if_pos h', if_pos (by omega)]
    · rw [if_neg h', if_neg (by omega)]
theorem blk_ref {t : Nat} (h : 4 ≤ t ∧ t ≤ 8) {b c : Int} : blk t = fst' b c 0 := by
  funext k
  have e : sk t k = 2 := by unfold sk; rw [if_neg (by omega), if_neg (by omega), if_pos h.2]
  unfold blk fst'
  rw [e, if_neg (by decide), if_neg (by decide), if_neg (Nat.not_lt_zero k)]
/-- all nodes -/
theorem e_nodes {F : g_S → Option α} (h : BD Vt g 9 ((6, blk 5) :: (5, f) :: (7, blk 3) :: (0, fH) :: [])) (hf : f 0 = 0) (c : ∀ g', BD Vt g' 1569 ((5, f) :: (7, blk 3) :: (0, fH) :: []) → ev (F g') Q) : ev ((L_Tree_init_36 5 0 g).bind F) Q := by
  refine ev_bind (P := fun g' => BD Vt g' (9 + 13 * 120) ((6, fst' 0 1 120) :: (5, f) :: (7, blk 3) :: (0, fH) :: [])) ?_ (fun g' h => c g' (h.close (fun k => ?_)))
  · unfold L_Tree_init_36
    refine e_loop (b := b_Tree_init_36 5) (I := fun z g => BD Vt g (9 + 13 * z) ((6, fst' 0 1 z) :: (5, f) :: (7, blk 3) :: (0, fH) :: [])) (N := 120) (fun z g hz h => ?_) (fun g h => ?_) 120 0 g rfl (by rw [← blk_ref (t := 5) (by decide)]; exact h)
    · obtain ⟨a1, a2, a3, a4⟩ := i32_120 z hz
      have hS := n_st hz
      unfold b_Tree_init_36
      rw [if_pos a1]
      refine e_rQ (p := 6) (u := 0) h (by omega) (by decide) (((h.sub (List.mem_cons_of_mem _ List.mem_cons_self)).2 0).trans hf) rfl (by decide) (by decide) ?_
      refine e_nO h (by omega) (hS.ty (r := 0) (by decide)) (hS.ln (r := 0) (by decide)) (fun g3 h => ?_)
      refine e_node h (fun x hx => ?_) hS (fun g4 h => ?_)
      · simp only [List.mem_cons, List.not_mem_nil, or_false] at hx
        rcases hx with y | y | y | y <;> (rw [y]; dsimp only; omega)
      refine e_sQ (u := z) (j := z) h (nnin rfl) (by decide) (by omega) (hS.ty (r := 0) (by decide)) a2 a3 rfl (hS.lc (r := 0) (by decide)) (fun g5 h => ?_)
      refine ev_ok ⟨g5, by rw [a4], ?_⟩
      have e : upv (fst' 0 1 z) z (z : Int) = fst' 0 1 (z + 1) := by
        rw [← fst_up]; congr 1; omega
      rw [← e]; exact h
    · unfold b_Tree_init_36
      rw [if_neg (by decide)]
  · rw [Vt_of (show lc 6 = (20, 0) by decide) (by decide)]
    show fst' 0 1 120 k = if k < 120 then (k : Int) else -1
    unfold fst'
    rw [show (0 : Int) + 1 * (k : Int) = k by omega]
/-- the names of tags -/
theorem e_tags {F : g_S → Option α} (h : BD Vt g 1569 ((7, blk 3) :: (5, f) :: (0, fH) :: [])) (hf : f 1 = 0) (c : ∀ g', BD Vt g' 1569 ((5, f) :: (0, fH) :: []) → ev (F g') Q) : ev ((L_Tree_init_65 5 0 0 g).bind F) Q := by
  obtain ⟨bs, hbs⟩ : ∃ bs, ab_sbt 1000000 = some bs := ⟨_, rfl⟩
  have hlen : bs.length < 1000 ∧ ∀ z, z < bs.length → Int32.ofNat z < nI bs.length ∧ ab_inb (Int32.ofNat z) bs.length = true ∧ (Int32.ofNat z).toNatClampNeg = z ∧ Int32.ofNat z + 1 = Int32.ofNat (z + 1) := by
    have : ∀ bs, ab_sbt 1000000 = some bs → bs.length < 1000 ∧ ∀ z, z < bs.length → Int32.ofNat z < nI bs.length ∧ ab_inb (Int32.ofNat z) bs.length = true ∧ (Int32.ofNat z).toNatClampNeg = z ∧ Int32.ofNat z + 1 = Int32.ofNat (z + 1) := by
      intro bs hb
      have hb' : bs = (ab_sbt 1000000).getD [] := by rw [hb]; rfl
      rw [hb']
      decide +kernel
    exact this bs hbs
  have i16 : ∀ z, z ≤ 16 → (Int32.ofNat z < 16 ↔ z < 16) ∧ (z < 16 → ab_inb (Int32.ofNat z) 16 = true ∧ (Int32.ofNat z).toNatClampNeg = z ∧ Int32.ofNat z + 1 = Int32.ofNat (z + 1)) := by decide +kernel
  have fin : ¬ Int32.ofNat bs.length < nI bs.length := by
    have : ∀ bs, ab_sbt 1000000 = some bs → ¬ Int32.ofNat bs.length < nI bs.length := by
      intro bs hb
      have hb' : bs = (ab_sbt 1000000).getD [] := by rw [hb]; rfl
      rw [hb']
      decide +kernel
    exact this bs hbs
  have eN : tN 1000000 = some (nI bs.length) := by unfold tN; rw [hbs]; rfl
  have step : ∀ (z v : Nat) (fr : Nat → Int) (g : g_S), z < bs.length → v ≤ 16 → BD Vt g 1569 ((7, fr) :: (5, f) :: (0, fH) :: []) → ev (b_Tree_init_65 5 (Int32.ofNat v) (Int32.ofNat z) g) (fun c => (∃ v' fr' g', c = .inl (Int32.ofNat v', Int32.ofNat (z + 1), g') ∧ v' ≤ 16 ∧ BD Vt g' 1569 ((7, fr') :: (5, f) :: (0, fH) :: []) ∧ tgp (bs.drop (z + 1)) v' fr' = tgp (bs.drop z) v fr) ∨ (∃ g', c = .inr g' ∧ BD Vt g' 1569 ((7, tgp (bs.drop z) v fr) :: (5, f) :: (0, fH) :: []))) := by
    intro z v fr g hlt hv h
    obtain ⟨a1, a2, a3, a4⟩ := hlen.2 z hlt
    have eC : tC 1000000 (Int32.ofNat z) = some (bs[z] &&& 255) := by
      unfold tC
      rw [hbs]
      simp only [Option.bind_some]
      rw [if_pos a2, a3, List.getD_eq_getElem?_getD, List.getElem?_eq_getElem hlt]; rfl
    rw [List.drop_eq_getElem_cons hlt]
    unfold b_Tree_init_65
    rw [eN]
    simp only [Option.bind_some]
    rw [if_pos a1]
    by_cases h16 : v < 16
    · have et : tgp (bs[z] :: bs.drop (z + 1)) v fr = if bs[z] &&& 255 = 32 then tgp (bs.drop (z + 1)) (v + 1) fr else tgp (bs.drop (z + 1)) v (upv fr v (((Int64.ofInt (fr v)) <<< ((8 : Int32).toInt64 &&& 63)) ||| (Int32.toInt64 (bs[z] &&& 255))).toInt) := by
        show (if v < 16 then _ else _) = _
        rw [if_pos h16]
      rw [et]
      rw [if_pos ((i16 v hv).1.mpr h16), eC]
      simp only [Option.bind_some]
      obtain ⟨b1, b2, b3⟩ := (i16 v hv).2 h16
      by_cases h32 : bs[z] &&& 255 = 32
      · rw [if_pos h32, if_pos h32]
        exact ev_ok (.inl ⟨v + 1, fr, g, by rw [a4, b3], by omega, h, rfl⟩)
      · rw [if_neg h32, if_neg h32]
        refine e_rQ (p := 7) (u := 0) h (by decide) (by decide) (((h.sub (List.mem_cons_of_mem _ List.mem_cons_self)).2 1).trans hf) rfl (by decide) (by decide) ?_
        refine e_rQ (p := 7) (u := 0) h (by decide) (by decide) (((h.sub (List.mem_cons_of_mem _ List.mem_cons_self)).2 1).trans hf) rfl (by decide) (by decide) ?_
        have t7 := h.ty (q := 7) (by decide)
        have e7 : gt g 7 = 3 ∧ gl g 7 = 16 := ⟨t7.1.trans (by decide), t7.2.trans (by decide)⟩
        have eL : aL g 7 (Int32.ofNat v) = some (Int64.ofInt (fr v)) := by
          unfold aL
          rw [if_pos ⟨e7.1, by rw [e7.2]; exact b1⟩, b2, ← h.hd.2 v]
          unfold vl
          rw [e7.1]
          show some (gj g 7 v) = some (Int64.ofInt (gj g 7 v).toInt)
          rw [Int64.ofInt_toInt]
        rw [eL]
        simp only [Option.bind_some]
        have eS : ∀ x, sL g 7 (Int32.ofNat v) x = some (gwL g 7 v x) := fun x => by
          unfold sL
          rw [if_pos ⟨e7.1, by rw [e7.2]; exact b1⟩, b2]
        rw [eS]
        simp only [Option.bind_some]
        exact ev_ok (.inl ⟨v, _, _, by rw [a4], hv, h.wL (nnin rfl) (by show sk 3 v = 1; rfl), rfl⟩)
    · have et : tgp (bs[z] :: bs.drop (z + 1)) v fr = fr := by
        show (if v < 16 then _ else _) = _
        rw [if_neg h16]
      rw [et, if_neg (fun y => h16 ((i16 v hv).1.mp y))]
      exact ev_ok (.inr ⟨g, rfl, h⟩)
  have go : ∀ (r z v : Nat) (fr : Nat → Int) (g : g_S), z + r = bs.length → v ≤ 16 → BD Vt g 1569 ((7, fr) :: (5, f) :: (0, fH) :: []) → ev (it (fun s : Int32 × Int32 × g_S => b_Tree_init_65 5 s.1 s.2.1 s.2.2) (Int32.ofNat v, Int32.ofNat z, g)) (fun g' => BD Vt g' 1569 ((7, tgp (bs.drop z) v fr) :: (5, f) :: (0, fH) :: [])) := by
    intro r
    induction r with
    | zero =>
      intro z v fr g hz hv h
      have e : z = bs.length := by omega
      have eb : b_Tree_init_65 5 (Int32.ofNat v) (Int32.ofNat z) g = some (.inr g) := by
        unfold b_Tree_init_65
        rw [eN, e]
        simp only [Option.bind_some]
        rw [if_neg fin]
      rw [it_inr (f := fun s : Int32 × Int32 × g_S => b_Tree_init_65 5 s.1 s.2.1 s.2.2) (s := (Int32.ofNat v, Int32.ofNat z, g)) eb, e, List.drop_length]
      exact ev_ok h
    | succ r ih =>
      intro z v fr g hz hv h
      refine e_it (ev_mono (step z v fr g (by omega) hv h) (fun c hc => ?_))
      rcases hc with ⟨v', fr', g', rfl, h1, h2, h3⟩ | ⟨g', rfl, h1⟩
      · rw [← h3]
        exact ih (z + 1) v' fr' g' (by omega) h1 h2
      · exact h1
  refine ev_bind (P := fun g' => BD Vt g' 1569 ((7, tgp bs 0 (blk 3)) :: (5, f) :: (0, fH) :: [])) ?_ (fun g' h => c g' (h.close (fun k => ?_)))
  · unfold L_Tree_init_65
    have := go bs.length 0 0 (blk 3) g (by omega) (by omega) h
    rw [List.drop_zero] at this
    exact this
  · rw [Vt_of (show lc 7 = (21, 0) by decide) (by decide)]
    show _ = tgp ((ab_sbt 1000000).getD []) 0 (blk 3) k
    rw [hbs]; rfl
theorem e_tree {F : g_S → Option α} (h : BD Vt g 6 ((5, blk 110) :: (0, fH) :: [])) (c : ∀ g', BD Vt g' 1569 ((0, fH) :: []) → ev (F g') Q) : ev ((M_Tree_init 5 g).bind F) Q := by
  unfold M_Tree_init
  refine ev_bind (P := fun g' => BD Vt g' 1569 ((0, fH) :: [])) ?_ c
  refine e_nA h (by decide) (by decide) (by decide) (by decide) (fun g2 h => ?_)
  have h := h.sw
  refine e_wR (p := 6) (u := 0) h (nnin rfl) (by decide) rfl (by decide) (fun g3 h => ?_)
  refine e_nA h (by decide) (by decide) (by decide) (by decide) (fun g5 h => ?_)
  have h := h.sw
  refine e_wR (p := 7) (u := 0) h (nnin rfl) (by decide) rfl (by decide) (fun g6 h => ?_)
  refine e_nA h (by decide) (by decide) (by decide) (by decide) (fun g8 h => ?_)
  have h := h.close (q := 8) (fun k => by rw [Vt_of (show lc 8 = (22, 0) by decide) (by decide)]; rfl)
  refine e_wR (p := 8) (u := 0) h (nnin rfl) (by decide) rfl (by decide) (fun g9 h => ?_)
  refine e_wI (u := (-1)) h (nnin rfl) (by decide) rfl (by decide) (by decide) (by decide) (fun g10 h => ?_)
  have h := h.s2.sw
  refine e_nodes h rfl (fun g13 h => ?_)
  have h := h.sw
  refine e_tags h rfl (fun g16 h => ?_)
  refine ev_ok (h.close (fun k => ?_))
  rw [Vt_of (show lc 5 = (10, 0) by decide) (by decide)]; rfl
end YZJ
