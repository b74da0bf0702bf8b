/-! THE CONSTRUCTORS: the class's net -/
section YZK
variable {g g' : g_S} {K q k t l p j : Nat} {f fH fN : Nat → Int} {L : List (Nat × (Nat → Int))} {m : YS} {α β : Type} {Q : α → Prop} {i b : Int}
theorem e_answer {F : g_S → Option α} (h : BD Vt g 1571 ((1570, blk 102) :: (1569, fN) :: (0, fH) :: [])) (c : ∀ g', BD Vt g' 1574 ((1569, fN) :: (0, fH) :: []) → ev (F g') Q) : ev ((M_Answer_init 1570 g).bind F) Q := by
  unfold M_Answer_init
  refine ev_bind (P := fun g' => BD Vt g' 1574 ((1569, fN) :: (0, fH) :: [])) ?_ c
  refine e_nO h (by decide) (by decide) (by decide) (fun g2 h => ?_)
  refine e_addr h (nnin rfl) (by decide) (by decide) (by decide) (by decide) (by decide) (by decide) (fun g3 h => ?_)
  refine e_wR (p := 1571) (u := 1571) h (nnin rfl) (by decide) rfl (by decide) (fun g4 h => ?_)
  refine e_wI (u := (-1)) h (nnin rfl) (by decide) rfl (by decide) (by decide) (by decide) (fun g5 h => ?_)
  refine e_nA h (by decide) (by decide) (by decide) (by decide) (fun g7 h => ?_)
  have h := h.close (q := 1573) (fun k => by rw [Vt_99 (show lc 1573 = (99, ((1573 : Nat) : Int)) by decide)]; rfl)
  refine e_wR (p := 1573) (u := 1573) h (nnin rfl) (by decide) rfl (by decide) (fun g8 h => ?_)
  refine ev_ok (h.close (fun k => ?_))
  rw [Vt_99 (show lc 1570 = (99, ((1570 : Nat) : Int)) by decide)]; rfl
/-- a byte more in the first name -/
theorem e_add1 {c w : Int32} {z : Nat} {u : Int} {r : Nat → Int} (h : BD Vt g 1591 ((1590, r) :: (1589, f) :: L)) (hn : ∀ x ∈ L, x.1 ≠ 1590 ∧ x.1 ≠ 1589) (hf0 : f 0 = 8) (hf1 : f 1 = 1590) (hf2 : f 2 = z) (h1 : Int32.ofInt z < Int32.ofInt 8) (h2 : ¬ Int32.ofInt z = Int32.ofNat 16) (h3 : ab_inb (Int32.ofInt z) 16 = true) (h4 : (Int32.ofInt z).toNatClampNeg = z) (h5 : vp_nar .byte ((Int32.toInt8 c).toInt32) = w) (h6 : w.toInt = u) (h7 : inB u) (h8 : (Int32.ofInt z + 1).toInt = z + 1) : ev (M_Bytes_add 1589 c g) (fun g' => BD Vt g' 1591 ((1590, upv r z u) :: (1589, upv f 2 (z + 1)) :: L)) := by
  have t1 : sty 1589 = 104 := by decide
  have hs := h.sub (a := (1589, f)) (List.mem_cons_of_mem _ List.mem_cons_self)
  have hn2 : ∀ x ∈ ((1589, f) :: L), x.1 ≠ 1590 := fun x hx => by
    rcases List.mem_cons.mp hx with y | y
    · rw [y]; show (1589 : Nat) ≠ 1590; decide
    · exact (hn x y).1
  unfold M_Bytes_add
  refine e_rI h hs.1 t1 ((hs.2 2).trans hf2) rfl ?_
  refine e_rI h hs.1 t1 ((hs.2 0).trans hf0) rfl ?_
  rw [if_pos h1]
  refine e_rI h hs.1 t1 ((hs.2 2).trans hf2) rfl ?_
  refine e_rQ (p := 1590) h hs.1 t1 ((hs.2 1).trans hf1) rfl (by decide) (by decide) ?_
  have t2 := h.ty (q := 1590) (by decide)
  have e1 : aN g 1590 = some (Int32.ofNat 16) := by
    unfold aN
    rw [t2.1, t2.2, if_pos (by decide)]
    rfl
  rw [e1]
  simp only [Option.bind_some]
  rw [if_neg h2]
  unfold k_Bytes_add_44
  refine e_rQ (p := 1590) h hs.1 t1 ((hs.2 1).trans hf1) rfl (by decide) (by decide) ?_
  refine e_rI h hs.1 t1 ((hs.2 2).trans hf2) rfl ?_
  refine e_sB h hn2 (by decide) (show ab_inb (Int32.ofInt z) (sln 1590) = true from h3) h4 h5 h6 h7 (fun g3 h => ?_)
  have hs := h.sub (a := (1589, f)) (List.mem_cons_of_mem _ List.mem_cons_self)
  refine e_rI h hs.1 t1 ((hs.2 2).trans hf2) rfl ?_
  have h := h.sw
  refine e_wI h (fun x hx => ?_) t1 rfl (by decide) (.inl rfl) h8 (fun g5 h => ?_)
  · rcases List.mem_cons.mp hx with y | y
    · rw [y]; show (1590 : Nat) ≠ 1589; decide
    · exact (hn x y).2
  exact ev_ok h.sw
/-- the name of the site at home -/
def hmT : Nat → Int := upv (upv (upv (upv (upv (upv (upv (blk 1) 0 47) 1 47) 2 104) 3 111) 4 109) 5 101) 6 47
def hmB : Nat → Int := upv (upv (upv (upv (upv (upv (upv (Vt 1589) 2 1) 2 2) 2 3) 2 4) 2 5) 2 6) 2 7
theorem Vt_1589 : Vt 1589 = upv (upv (blk 104) 0 8) 1 1590 := by
  rw [Vt_of (show lc 1589 = (4, 631) by decide) (by decide)]; rfl
theorem e_text {F : g_S → Option α} (h : BD Vt g 1591 ((1590, Vt 1590) :: (1589, Vt 1589) :: L)) (hn : ∀ x ∈ L, x.1 ≠ 1590 ∧ x.1 ≠ 1589) (c : ∀ g', BD Vt g' 1591 ((1590, hmT) :: (1589, hmB) :: L) → ev (F g') Q) : ev ((M_Bytes_addText 1589 1000001 g).bind F) Q := by
  unfold M_Bytes_addText L_Bytes_addText_2
  have e90 : Vt 1590 = blk 1 := by rw [Vt_99 (show lc 1590 = (99, ((1590 : Nat) : Int)) by decide)]; rfl
  rw [e90] at h
  have eN : tN 1000001 = some 7 := rfl
  refine ev_bind (P := fun g' => BD Vt g' 1591 ((1590, hmT) :: (1589, hmB) :: L)) ?_ (fun g3 h => ?_)
  · refine ev_bind (P := fun g' => BD Vt g' 1591 ((1590, hmT) :: (1589, hmB) :: L)) ?_ (fun g3 h => ev_ok h)
    refine e_it (ev_mono (P := fun c => ∃ ga, c = .inl (1, ga) ∧ BD Vt ga 1591 ((1590, upv (blk 1) 0 47) :: (1589, upv (Vt 1589) 2 1) :: L)) ?_ (fun c hc => ?_))
    · show ev (b_Bytes_addText_2 1589 1000001 0 g) _
      unfold b_Bytes_addText_2
      rw [eN]
      simp only [Option.bind_some]
      rw [if_pos (by decide), show tC 1000001 0 = some 47 from rfl]
      simp only [Option.bind_some]
      refine e_vb h (by decide) (by decide) (ev_bind (e_add1 (z := 0) (u := 47) (c := 47) h hn (by rw [Vt_1589]; rfl) (by rw [Vt_1589]; rfl) (by first | rfl | (rw [Vt_1589]; rfl)) (by decide) (by decide) (by decide) (by decide) rfl (by decide) (by decide) (by decide)) (fun ga h => ev_ok ⟨ga, rfl, h⟩))
    obtain ⟨g1, rfl, h⟩ := hc
    refine e_it (ev_mono (P := fun c => ∃ ga, c = .inl (2, ga) ∧ BD Vt ga 1591 ((1590, upv (upv (blk 1) 0 47) 1 47) :: (1589, upv (upv (Vt 1589) 2 1) 2 2) :: L)) ?_ (fun c hc => ?_))
    · show ev (b_Bytes_addText_2 1589 1000001 1 g1) _
      unfold b_Bytes_addText_2
      rw [eN]
      simp only [Option.bind_some]
      rw [if_pos (by decide), show tC 1000001 1 = some 47 from rfl]
      simp only [Option.bind_some]
      refine e_vb h (by decide) (by decide) (ev_bind (e_add1 (z := 1) (u := 47) (c := 47) h hn (by rw [Vt_1589]; rfl) (by rw [Vt_1589]; rfl) (by first | rfl | (rw [Vt_1589]; rfl)) (by decide) (by decide) (by decide) (by decide) rfl (by decide) (by decide) (by decide)) (fun ga h => ev_ok ⟨ga, rfl, h⟩))
    obtain ⟨g2, rfl, h⟩ := hc
    refine e_it (ev_mono (P := fun c => ∃ ga, c = .inl (3, ga) ∧ BD Vt ga 1591 ((1590, upv (upv (upv (blk 1) 0 47) 1 47) 2 104) :: (1589, upv (upv (upv (Vt 1589) 2 1) 2 2) 2 3) :: L)) ?_ (fun c hc => ?_))
    · show ev (b_Bytes_addText_2 1589 1000001 2 g2) _
      unfold b_Bytes_addText_2
      rw [eN]
      simp only [Option.bind_some]
      rw [if_pos (by decide), show tC 1000001 2 = some 104 from rfl]
      simp only [Option.bind_some]
      refine e_vb h (by decide) (by decide) (ev_bind (e_add1 (z := 2) (u := 104) (c := 104) h hn (by rw [Vt_1589]; rfl) (by rw [Vt_1589]; rfl) (by first | rfl | (rw [Vt_1589]; rfl)) (by decide) (by decide) (by decide) (by decide) rfl (by decide) (by decide) (by decide)) (fun ga h => ev_ok ⟨ga, rfl, h⟩))
    obtain ⟨g3, rfl, h⟩ := hc
    refine e_it (ev_mono (P := fun c => ∃ ga, c = .inl (4, ga) ∧ BD Vt ga 1591 ((1590, upv (upv (upv (upv (blk 1) 0 47) 1 47) 2 104) 3 111) :: (1589, upv (upv (upv (upv (Vt 1589) 2 1) 2 2) 2 3) 2 4) :: L)) ?_ (fun c hc => ?_))
    · show ev (b_Bytes_addText_2 1589 1000001 3 g3) _
      unfold b_Bytes_addText_2
      rw [eN]
      simp only [Option.bind_some]
      rw [if_pos (by decide), show tC 1000001 3 = some 111 from rfl]
      simp only [Option.bind_some]
      refine e_vb h (by decide) (by decide) (ev_bind (e_add1 (z := 3) (u := 111) (c := 111) h hn (by rw [Vt_1589]; rfl) (by rw [Vt_1589]; rfl) (by first | rfl | (rw [Vt_1589]; rfl)) (by decide) (by decide) (by decide) (by decide) rfl (by decide) (by decide) (by decide)) (fun ga h => ev_ok ⟨ga, rfl, h⟩))
    obtain ⟨g4, rfl, h⟩ := hc
    refine e_it (ev_mono (P := fun c => ∃ ga, c = .inl (5, ga) ∧ BD Vt ga 1591 ((1590, upv (upv (upv (upv (upv (blk 1) 0 47) 1 47) 2 104) 3 111) 4 109) :: (1589, upv (upv (upv (upv (upv (Vt 1589) 2 1) 2 2) 2 3) 2 4) 2 5) :: L)) ?_ (fun c hc => ?_))
    · show ev (b_Bytes_addText_2 1589 1000001 4 g4) _
      unfold b_Bytes_addText_2
      rw [eN]
      simp only [Option.bind_some]
      rw [if_pos (by decide), show tC 1000001 4 = some 109 from rfl]
      simp only [Option.bind_some]
      refine e_vb h (by decide) (by decide) (ev_bind (e_add1 (z := 4) (u := 109) (c := 109) h hn (by rw [Vt_1589]; rfl) (by rw [Vt_1589]; rfl) (by first | rfl | (rw [Vt_1589]; rfl)) (by decide) (by decide) (by decide) (by decide) rfl (by decide) (by decide) (by decide)) (fun ga h => ev_ok ⟨ga, rfl, h⟩))
    obtain ⟨g5, rfl, h⟩ := hc
    refine e_it (ev_mono (P := fun c => ∃ ga, c = .inl (6, ga) ∧ BD Vt ga 1591 ((1590, upv (upv (upv (upv (upv (upv (blk 1) 0 47) 1 47) 2 104) 3 111) 4 109) 5 101) :: (1589, upv (upv (upv (upv (upv (upv (Vt 1589) 2 1) 2 2) 2 3) 2 4) 2 5) 2 6) :: L)) ?_ (fun c hc => ?_))
    · show ev (b_Bytes_addText_2 1589 1000001 5 g5) _
      unfold b_Bytes_addText_2
      rw [eN]
      simp only [Option.bind_some]
      rw [if_pos (by decide), show tC 1000001 5 = some 101 from rfl]
      simp only [Option.bind_some]
      refine e_vb h (by decide) (by decide) (ev_bind (e_add1 (z := 5) (u := 101) (c := 101) h hn (by rw [Vt_1589]; rfl) (by rw [Vt_1589]; rfl) (by first | rfl | (rw [Vt_1589]; rfl)) (by decide) (by decide) (by decide) (by decide) rfl (by decide) (by decide) (by decide)) (fun ga h => ev_ok ⟨ga, rfl, h⟩))
    obtain ⟨g6, rfl, h⟩ := hc
    refine e_it (ev_mono (P := fun c => ∃ ga, c = .inl (7, ga) ∧ BD Vt ga 1591 ((1590, upv (upv (upv (upv (upv (upv (upv (blk 1) 0 47) 1 47) 2 104) 3 111) 4 109) 5 101) 6 47) :: (1589, upv (upv (upv (upv (upv (upv (upv (Vt 1589) 2 1) 2 2) 2 3) 2 4) 2 5) 2 6) 2 7) :: L)) ?_ (fun c hc => ?_))
    · show ev (b_Bytes_addText_2 1589 1000001 6 g6) _
      unfold b_Bytes_addText_2
      rw [eN]
      simp only [Option.bind_some]
      rw [if_pos (by decide), show tC 1000001 6 = some 47 from rfl]
      simp only [Option.bind_some]
      refine e_vb h (by decide) (by decide) (ev_bind (e_add1 (z := 6) (u := 47) (c := 47) h hn (by rw [Vt_1589]; rfl) (by rw [Vt_1589]; rfl) (by first | rfl | (rw [Vt_1589]; rfl)) (by decide) (by decide) (by decide) (by decide) rfl (by decide) (by decide) (by decide)) (fun ga h => ev_ok ⟨ga, rfl, h⟩))
    obtain ⟨g7, rfl, h⟩ := hc
    refine e_it (ev_mono (P := fun c => c = .inr g7) ?_ (fun c hc => ?_))
    · show ev (b_Bytes_addText_2 1589 1000001 7 g7) _
      unfold b_Bytes_addText_2
      rw [eN]
      simp only [Option.bind_some]
      rw [if_neg (by decide)]
      exact ev_ok rfl
    · rw [hc]; exact h
  · exact c g3 h
end YZK
