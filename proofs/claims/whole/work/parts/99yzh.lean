/-! THE CONSTRUCTORS: what each cell is in the end; rows of bytes, ADDRESSES, nodes -/
def V99 (q : Nat) : Nat → Int := if sty q = 101 then upv (blk 101) 0 (q + 1) else if q = 1570 then upv (upv (upv (blk 102) 0 1571) 1 (-1)) 6 1573 else blk (sty q)
/-- how the names of tags are packed -/
def tgp : List Int32 → Nat → (Nat → Int) → Nat → Int
  | [], _, f => f
  | c :: l, i, f => if i < 16 then (if c &&& 255 = 32 then tgp l (i + 1) f else tgp l i (upv f i (((Int64.ofInt (f i)) <<< ((8 : Int32).toInt64 &&& 63)) ||| (Int32.toInt64 (c &&& 255))).toInt)) else f
def Vn (K : Nat) (i : Int) : Nat → Int := match K with
  | 0 => upv (upv (upv (upv (upv (upv (upv (upv (upv (upv (blk 100) 3 0) 4 0) 6 (-1)) 11 609) 14 0) 17 (-1)) 19 610) 0 0) 1 0) 2 0
  | 3 => blk 103
  | 4 => upv (upv (blk 104) 0 (lim i)) 1 (aBy i + 1 : Nat)
  | 5 => upv (upv (upv (upv (upv (upv (upv (upv (upv (upv (blk 105) 2 0) 3 48) 4 (-1)) 5 1663) 7 608) 8 120) 9 1667) 16 0) 0 0) 1 0
  | 6 => upv (upv (upv (upv (upv (upv (upv (upv (upv (upv (upv (upv (upv (blk 106) 0 1570) 1 0) 3 0) 5 0) 7 0) 10 1578) 11 607) 13 1582) 14 1584) 15 1586) 16 0) 17 0) 18 1
  | 7 => upv (upv (upv (upv (upv (upv (upv (upv (blk 107) 0 (-1)) 2 (-1)) 3 (-1)) 4 (-1)) 5 (-1)) 11 (5 * i)) 13 i) 14 i
  | 8 => upv (upv (upv (upv (upv (upv (upv (blk 108) 1 0) 2 0) 4 0) 5 0) 7 120) 8 1649) 0 0
  | 9 => upv (upv (upv (upv (upv (upv (upv (upv (upv (upv (upv (upv (upv (upv (blk 109) 1 0) 2 0) 3 0) 4 0) 5 0) 6 0) 7 0) 8 0) 9 0) 10 0) 11 (pk wId)) 12 (pk wClass)) 14 (-1)) 0 0
  | 10 => upv (upv (upv (upv (blk 110) 0 0) 1 0) 2 0) 4 (-1)
  | 11 => upv (upv (upv (upv (upv (upv (upv (upv (upv (blk 111) 0 605) 1 606) 2 0) 3 0) 4 0) 5 0) 6 0) 7 0) 8 0
  | 19 => upv (upv (upv (upv (blk 4) 0 (5 * i + 1)) 1 (5 * i + 2)) 2 (5 * i + 3)) 3 (5 * i + 4)
  | 20 => fun k => if k < 120 then (k : Int) else -1
  | 21 => tgp ((ab_sbt 1000000).getD []) 0 (blk 3)
  | 27 => fun k => if k < 20 then 1591 + 2 * (k : Int) else -1
  | 42 => fun k => if k < 120 then (k : Int) else -1
  | 45 => fun k => if k < 20 then 611 + (k : Int) else -1
  | 18 => blk 3
  | K => blk (sty (aK K))
def Vt (q : Nat) : Nat → Int := if (lc q).1 = 99 then V99 q else Vn (lc q).1 (lc q).2
section YZH
variable {g g' : g_S} {K q k t l p j : Nat} {f : Nat → Int} {L : List (Nat × (Nat → Int))} {m : YS} {α β : Type} {Q : α → Prop} {i b : Int}
theorem Vt_of (h : lc q = (K, i)) (hK : K ≠ 99) : Vt q = Vn K i := by
  unfold Vt
  rw [h, if_neg hK]
theorem Vt_99 (h : lc q = (99, (q : Int))) : Vt q = V99 q := by
  unfold Vt
  rw [h, if_pos rfl]
/-- a row of bytes is made -/
theorem e_bytes {F : g_S → Option α} {v : Int32} (h : BD Vt g (q + 1) ((q, blk 104) :: L)) (hn : ∀ x ∈ L, x.1 ≠ q) (hq : q + 1 < 1838) (h1 : sty q = 104) (h2 : sty (q + 1) = 1) (h3 : sln (q + 1) = 16) (h4 : lc q = (4, b)) (h5 : lc (q + 1) = (99, ((q + 1 : Nat) : Int))) (hv : v.toInt = lim b) (c : ∀ g', BD Vt g' (q + 2) L → ev (F g') Q) : ev ((M_Bytes_init q v g).bind F) Q := by
  unfold M_Bytes_init
  have hb : aBy b = q := by have := al_lc q; rw [h4, al_b] at this; exact this
  refine ev_bind (P := fun g' => BD Vt g' (q + 2) L) ?_ c
  refine e_wI h hn h1 rfl (by decide) (.inl rfl) hv (fun g1 h => ?_)
  refine e_nA h hq h2 (by rw [h3]; rfl) (by decide) (fun g2 h => ?_)
  have h := h.close (fun k => by rw [Vt_99 h5]; unfold V99; rw [if_neg (by omega), if_neg (fun z => by rw [z] at h2; exact absurd h2 (by decide)), h2])
  refine e_wR h hn h1 rfl (by rw [h5]; rfl) (fun g3 h => ?_)
  refine ev_ok (h.close (fun k => ?_))
  rw [Vt_of h4 (by decide)]
  show _ = upv (upv (blk 104) 0 (lim b)) 1 (aBy b + 1 : Nat) k
  rw [hb]
/-- an ADDRESS is made -/
theorem e_addr {F : g_S → Option α} (h : BD Vt g (q + 1) ((q, blk 101) :: L)) (hn : ∀ x ∈ L, x.1 ≠ q) (hq : q + 1 < 1838) (h1 : sty q = 101) (h2 : sty (q + 1) = 1) (h3 : sln (q + 1) = 160) (h4 : lc q = (99, (q : Int))) (h5 : lc (q + 1) = (99, ((q + 1 : Nat) : Int))) (c : ∀ g', BD Vt g' (q + 2) L → ev (F g') Q) : ev ((M_Address_init q g).bind F) Q := by
  unfold M_Address_init
  refine ev_bind (P := fun g' => BD Vt g' (q + 2) L) ?_ c
  refine e_nA h hq h2 (by rw [h3]; rfl) (by decide) (fun g2 h => ?_)
  have h := h.close (fun k => by rw [Vt_99 h5]; unfold V99; rw [if_neg (by omega), if_neg (fun z => by rw [z] at h2; exact absurd h2 (by decide)), h2])
  refine e_wR h hn h1 rfl (by rw [h5]; rfl) (fun g3 h => ?_)
  refine ev_ok (h.close (fun k => ?_))
  rw [Vt_99 h4]
  unfold V99
  rw [if_pos h1]
  rfl
/-- where a node lies -/
def nSt (q : Nat) (i : Int) : Prop := q + 13 ≤ 1838 ∧ (0 ≤ i ∧ i ≤ 120) ∧ ∀ r, r < 13 → sty (q + r) = styN r ∧ sln (q + r) = slnN r ∧ lc (q + r) = lcN i r (q + r)
theorem n_st {i : Nat} (hi : i < 120) : nSt (9 + 13 * i) i := by
  refine ⟨by omega, by omega, fun r hr => ?_⟩
  have e1 : (9 + 13 * i + r - 9) % 13 = r := by omega
  have e2 : (9 + 13 * i + r - 9) / 13 = i := by omega
  refine ⟨?_, ?_, ?_⟩
  · unfold sty; rw [if_neg (by omega), if_pos (by omega), e1]
  · unfold sln; rw [if_neg (by omega), if_pos (by omega), e1]
  · unfold lc; rw [if_neg (by omega), if_pos (by omega), e1, e2]
theorem n_st2 : nSt 1636 120 := by
  refine ⟨by decide, by decide, ?_⟩
  decide
theorem nSt.ty (h : nSt q i) {r : Nat} (hr : r < 13) : sty (q + r) = styN r := (h.2.2 r hr).1
theorem nSt.ln (h : nSt q i) {r : Nat} (hr : r < 13) : sln (q + r) = slnN r := (h.2.2 r hr).2.1
theorem nSt.lc (h : nSt q i) {r : Nat} (hr : r < 13) : lc (q + r) = lcN i r (q + r) := (h.2.2 r hr).2.2
/-- a node is made -/
theorem e_node {F : g_S → Option α} (h : BD Vt g (q + 1) ((q, blk 107) :: L)) (hn : ∀ x ∈ L, x.1 < q) (hS : nSt q i) (c : ∀ g', BD Vt g' (q + 13) L → ev (F g') Q) : ev ((M_Node_init q g).bind F) Q := by
  have hq := hS.1
  have t0 : sty q = 107 := hS.ty (r := 0) (by decide)
  have hn' : ∀ a, q ≤ a → ∀ x ∈ L, x.1 ≠ a := fun a ha x hx => by have := hn x hx; omega
  unfold M_Node_init
  refine ev_bind (P := fun g' => BD Vt g' (q + 13) L) ?_ c
  refine e_wI h (hn' q (by omega)) t0 rfl (by decide) (.inl rfl) (show _ = (-1 : Int) by decide) (fun g1 h => ?_)
  refine e_wI h (hn' q (by omega)) t0 rfl (by decide) (.inl rfl) (show _ = (-1 : Int) by decide) (fun g2 h => ?_)
  refine e_wI h (hn' q (by omega)) t0 rfl (by decide) (.inl rfl) (show _ = (-1 : Int) by decide) (fun g3 h => ?_)
  refine e_wI h (hn' q (by omega)) t0 rfl (by decide) (.inl rfl) (show _ = (-1 : Int) by decide) (fun g4 h => ?_)
  refine e_wI h (hn' q (by omega)) t0 rfl (by decide) (.inl rfl) (show _ = (-1 : Int) by decide) (fun g5 h => ?_)
  refine e_nO h (by omega) (hS.ty (r := 1) (by decide)) (hS.ln (r := 1) (by decide)) (fun g7 h => ?_)
  have hb : ∀ (a : Nat) (f : Nat → Int), q ≤ a → a ≠ q → ∀ x ∈ ((q, f) :: L), x.1 ≠ a := fun a f ha hne x hx => by
    rcases List.mem_cons.mp hx with z | z
    · rw [z]; exact fun z => hne z.symm
    · exact hn' a ha x z
  refine e_bytes (b := 5 * i) h (hb _ _ (by omega) (by omega)) (by omega) (hS.ty (r := 1) (by decide)) (hS.ty (r := 2) (by decide)) (hS.ln (r := 2) (by decide)) (hS.lc (r := 1) (by decide)) (hS.lc (r := 2) (by decide)) ?_ (fun g8 h => ?_)
  · unfold lim; rw [if_pos (by have := hS.2.1; omega), if_pos (by omega)]; decide
  refine e_wR (u := 5 * i) h (hn' q (by omega)) t0 rfl (hS.lc (r := 1) (by decide)) (fun g9 h => ?_)
  refine e_nA h (by omega) (hS.ty (r := 3) (by decide)) (hS.ln (r := 3) (by decide)) (by decide) (fun g11 h => ?_)
  have h := h.close (fun k => by rw [Vt_of (hS.lc (r := 3) (by decide)) (by decide)]; rfl)
  refine e_wR (u := i) h (hn' q (by omega)) t0 rfl (hS.lc (r := 3) (by decide)) (fun g12 h => ?_)
  refine e_nA h (by omega) (hS.ty (r := 4) (by decide)) (hS.ln (r := 4) (by decide)) (by decide) (fun g14 h => ?_)
  have h := h.sw
  refine e_wR (u := i) h (fun x hx => ?_) t0 rfl (hS.lc (r := 4) (by decide)) (fun g15 h => ?_)
  · rcases List.mem_cons.mp hx with z | z
    · rw [z]; show q + 4 ≠ q; omega
    · exact hn' q (by omega) x z
  have h := h.sw
  -- its values
  obtain ⟨fN, hfN⟩ : ∃ fN : Nat → Int, fN = upv (upv (upv (upv (upv (upv (upv (upv (blk 107) 0 (-1)) 2 (-1)) 3 (-1)) 4 (-1)) 5 (-1)) 11 (5 * i)) 13 i) 14 i := ⟨_, rfl⟩
  have h : BD Vt g15 (q + 5) ((q + 4, blk 4) :: (q, fN) :: L) := by rw [hfN]; exact h
  have hv14 : fN 14 = i := by rw [hfN]; rfl
  have hcl : fN = Vt q := by rw [hfN, show Vt q = Vn 7 i from Vt_of (hS.lc (r := 0) (by decide)) (by decide)]; rfl
  have one : ∀ (z : Nat) (hz : z < 4) (g : g_S) (f : Nat → Int), BD Vt g (q + 5 + 2 * z) ((q + 4, f) :: (q, fN) :: L) → ev (b_Node_init_60 q (Int32.ofNat z) g) (fun c => ∃ g', c = .inl (Int32.ofNat (z + 1), g') ∧ BD Vt g' (q + 5 + 2 * (z + 1)) ((q + 4, upv f z (5 * i + 1 + z)) :: (q, fN) :: L)) := fun z hz g f h => by
    unfold b_Node_init_60
    have hlt : Int32.ofNat z < 4 := by
      match z, hz with
      | 0, _ => decide
      | 1, _ => decide
      | 2, _ => decide
      | 3, _ => decide
    have hr : ∀ r, r < 13 → r = 5 + 2 * z → lc (q + r) = (4, 5 * i + 1 + z) ∧ sty (q + r) = 104 ∧ sln (q + r) = 0 ∧ lc (q + (r + 1)) = (99, ((q + (r + 1) : Nat) : Int)) ∧ sty (q + (r + 1)) = 1 ∧ sln (q + (r + 1)) = 16 := fun r hr he => by
      match z, hz with
      | 0, _ => subst he; exact ⟨hS.lc (r := 5) (by decide), hS.ty (r := 5) (by decide), hS.ln (r := 5) (by decide), hS.lc (r := 6) (by decide), hS.ty (r := 6) (by decide), hS.ln (r := 6) (by decide)⟩
      | 1, _ => subst he; exact ⟨hS.lc (r := 7) (by decide), hS.ty (r := 7) (by decide), hS.ln (r := 7) (by decide), hS.lc (r := 8) (by decide), hS.ty (r := 8) (by decide), hS.ln (r := 8) (by decide)⟩
      | 2, _ => subst he; exact ⟨hS.lc (r := 9) (by decide), hS.ty (r := 9) (by decide), hS.ln (r := 9) (by decide), hS.lc (r := 10) (by decide), hS.ty (r := 10) (by decide), hS.ln (r := 10) (by decide)⟩
      | 3, _ => subst he; exact ⟨hS.lc (r := 11) (by decide), hS.ty (r := 11) (by decide), hS.ln (r := 11) (by decide), hS.lc (r := 12) (by decide), hS.ty (r := 12) (by decide), hS.ln (r := 12) (by decide)⟩
    obtain ⟨r1, r2, r3, r4, r5, r6⟩ := hr (5 + 2 * z) (by omega) rfl
    rw [show q + (5 + 2 * z) = q + 5 + 2 * z by omega] at r1 r2 r3
    rw [show q + (5 + 2 * z + 1) = q + 5 + 2 * z + 1 by omega] at r4 r5 r6
    rw [if_pos hlt]
    have hN0 := h.sub (a := (q, fN)) (List.mem_cons_of_mem _ List.mem_cons_self)
    refine e_rQ (p := q + 4) (u := i) h (by omega) t0 ((hN0.2 14).trans hv14) rfl (hS.lc (r := 4) (by decide)) hS.2.1.1 ?_
    refine e_nO h (by omega) r2 r3 (fun g3 h => ?_)
    refine e_bytes (b := 5 * i + 1 + z) h (fun x hx => ?_) (by omega) r2 r5 r6 r1 r4 ?_ (fun g4 h => ?_)
    · rcases List.mem_cons.mp hx with y | y
      · rw [y]; show q + 4 ≠ _; omega
      · exact hb _ _ (by omega) (by omega) x y
    · unfold lim; rw [if_pos (by have := hS.2.1; omega), if_neg (by omega)]; decide
    refine e_sQ (u := 5 * i + 1 + z) (j := z) h (fun x hx => hb _ _ (by omega) (by omega) x hx) (hS.ty (r := 4) (by decide)) (by omega) r2 ?_ ?_ rfl r1 (fun g5 h => ?_)
    · rw [hS.ln (r := 4) (by decide)]
      match z, hz with
      | 0, _ => decide
      | 1, _ => decide
      | 2, _ => decide
      | 3, _ => decide
    · match z, hz with
      | 0, _ => decide
      | 1, _ => decide
      | 2, _ => decide
      | 3, _ => decide
    refine ev_ok ⟨g5, ?_, h⟩
    match z, hz with
    | 0, _ => rfl
    | 1, _ => rfl
    | 2, _ => rfl
    | 3, _ => rfl
  unfold L_Node_init_60
  refine ev_bind (P := fun g' => BD Vt g' (q + 13) ((q + 4, upv (upv (upv (upv (blk 4) 0 (5 * i + 1 + (0 : Nat))) 1 (5 * i + 1 + (1 : Nat))) 2 (5 * i + 1 + (2 : Nat))) 3 (5 * i + 1 + (3 : Nat))) :: (q, fN) :: L)) ?_ (fun g18 h => ?_)
  · refine e_it (ev_mono (one 0 (by decide) g15 _ h) (fun c hc => ?_))
    obtain ⟨ga, rfl, h⟩ := hc
    refine e_it (ev_mono (one 1 (by decide) ga _ h) (fun c hc => ?_))
    obtain ⟨gb, rfl, h⟩ := hc
    refine e_it (ev_mono (one 2 (by decide) gb _ h) (fun c hc => ?_))
    obtain ⟨gc, rfl, h⟩ := hc
    refine e_it (ev_mono (one 3 (by decide) gc _ h) (fun c hc => ?_))
    obtain ⟨gd, rfl, h⟩ := hc
    refine e_it ?_
    show ev (b_Node_init_60 q (Int32.ofNat (3 + 1)) gd) _
    unfold b_Node_init_60
    rw [if_neg (by decide)]
    exact ev_ok h
  · have h := h.close (fun k => by
      rw [Vt_of (hS.lc (r := 4) (by decide)) (by decide)]
      show _ = upv (upv (upv (upv (blk 4) 0 (5 * i + 1)) 1 (5 * i + 2)) 2 (5 * i + 3)) 3 (5 * i + 4) k
      rw [show 5 * i + 1 + ((0 : Nat) : Int) = 5 * i + 1 by omega, show 5 * i + 1 + ((1 : Nat) : Int) = 5 * i + 2 by omega, show 5 * i + 1 + ((2 : Nat) : Int) = 5 * i + 3 by omega, show 5 * i + 1 + ((3 : Nat) : Int) = 5 * i + 4 by omega])
    exact ev_ok (h.close (fun k => by rw [hcl]))
end YZH
