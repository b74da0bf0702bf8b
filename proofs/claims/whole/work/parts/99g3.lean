/-! FAULTS; bytes that are taken over, by both -/
section G3
variable {n n' : NS} {m m' : YS} {g : Int → Int} {L i to A B b r w pl v : Int}
/-- one fault is told, by both -/
theorem tell_both (h : JF n m) (hb : m 70 0 < 100000) : ∃ n' m', N_Reader_tell w pl n = some n' ∧ N_Y_tellFault w pl m = some m' ∧ JF n' m' ∧ m' 70 0 = m 70 0 + 1 ∧ FY [70, 71, 72] m m' ∧ (∀ K, K ≠ 8 → K ≠ 28 → K ≠ 29 → n' K = n K) ∧ (∀ s, s ≠ 3 → n' 8 0 s = n 8 0 s) := by
  obtain ⟨h1, h2, h3, h4⟩ := h
  unfold N_Reader_tell N_Y_tellFault nk_Reader_tell_29 nk_Y_tellFault_29
  rw [h1]
  by_cases z : m 70 0 < 40
  · refine ⟨nw (nw (nw n 28 0 (m 70 0) w) 29 0 (m 70 0) pl) 8 0 3 (m 70 0 + 1), yw (yw (yw m 71 (m 70 0) w) 72 (m 70 0) pl) 70 0 (m 70 0 + 1), ?_, ?_, ⟨?_, ?_, ?_, fun j j0 j1 j2 => ?_⟩, ?_, fun x hx => ?_, fun K a b c => ?_, fun s hs => ?_⟩
    · apply eq_of_ev
      rw [if_pos z]
      refine ev_ix (by omega) (ev_st ?_)
      rw [show nw n 28 0 (m 70 0) w 8 0 3 = m 70 0 by rw [nw_nK (by decide)]; exact h1]
      refine ev_ix (by omega) (ev_st ?_)
      rw [show nw (nw n 28 0 (m 70 0) w) 29 0 (m 70 0) pl 8 0 3 = m 70 0 by rw [nw_nK (by decide), nw_nK (by decide)]; exact h1]
      exact ev_ck (by omega) (ev_st (ev_ok rfl))
    · apply eq_of_ev
      rw [if_pos z]
      refine ev_ix (by omega) (ev_st ?_)
      rw [show yw m 71 (m 70 0) w 70 0 = m 70 0 by rw [yw_nF (by decide)]]
      refine ev_ix (by omega) (ev_st ?_)
      rw [show yw (yw m 71 (m 70 0) w) 72 (m 70 0) pl 70 0 = m 70 0 by rw [yw_nF (by decide), yw_nF (by decide)]]
      exact ev_ck (by omega) (ev_st (ev_ok rfl))
    · rw [nw_eq, yw_eq]
    · rw [yw_eq]; omega
    · rw [yw_eq]; omega
    · rw [yw_eq] at j1
      rw [nw_nK (show (28 : Nat) ≠ 8 by decide), nw_nK (show (28 : Nat) ≠ 29 by decide), nw_nK (show (29 : Nat) ≠ 8 by decide), yw_nF (show (71 : Nat) ≠ 70 by decide), yw_nF (show (71 : Nat) ≠ 72 by decide), yw_nF (show (72 : Nat) ≠ 70 by decide)]
      by_cases y : j = m 70 0
      · rw [y, nw_eq, yw_eq, nw_eq, yw_eq]; exact ⟨rfl, rfl⟩
      · have q := h4 j j0 (by omega) j2
        constructor
        · rw [nw_ns y, yw_ni y]; exact q.1
        · rw [nw_ns y, yw_ni y, nw_nK (by decide), yw_nF (by decide)]; exact q.2
    · rw [yw_eq]
    · simp only [List.mem_cons, List.not_mem_nil, or_false, not_or] at hx
      rw [yw_nF hx.1, yw_nF hx.2.2, yw_nF hx.2.1]
    · rw [nw_nK a, nw_nK c, nw_nK b]
    · rw [nw_ns hs, nw_nK (by decide), nw_nK (by decide)]
  · refine ⟨nw n 8 0 3 (m 70 0 + 1), yw m 70 0 (m 70 0 + 1), ?_, ?_, ⟨?_, ?_, ?_, fun j j0 j1 j2 => ?_⟩, ?_, fun x hx => ?_, fun K a b c => ?_, fun s hs => ?_⟩
    · rw [if_neg z]; unfold ck st; rw [if_pos (by omega)]
    · rw [if_neg z]; unfold ck st; rw [if_pos (by omega)]
    · rw [nw_eq, yw_eq]
    · rw [yw_eq]; omega
    · rw [yw_eq]; omega
    · rw [yw_eq] at j1
      rw [nw_nK (by decide), nw_nK (by decide), yw_nF (by decide), yw_nF (by decide)]
      exact h4 j j0 (by omega) j2
    · rw [yw_eq]
    · simp only [List.mem_cons, List.not_mem_nil, or_false, not_or] at hx
      rw [yw_nF hx.1]
    · rw [nw_nK a]
    · rw [nw_ns hs]
/-- the reader's text is not touched by rows of nodes -/
theorem RDR.fb {S : Int → Prop} (h : RDR n g L) (hF : FB S n n') (hl : n 8 0 8 < n 90 0 0) (hS : ∀ x, S x → n 4 x 1 ≠ n 8 0 8) : RDR n' g L := by
  obtain ⟨h1, h2, h3, h4, h5⟩ := h
  have e8 := hF.1 8 (by decide) (by decide) (by decide) (by decide) (by decide) (by decide)
  unfold RDR
  rw [e8]
  exact ⟨hF.tx h1 hl (fun b hb z => hS b hb z.symm), h2, h3, h4, h5⟩
def firstP (rest : List (Int × Int)) (to : Int) : Int := match rest with
  | [] => to
  | x :: _ => x.1
def DCQ (A B b : Int) (n : NS) (D : List (Int × Int)) (to : Int) (x : Int × NS) : Prop := ∃ dn rest, D = dn ++ rest ∧ x.1 = firstP rest to ∧ AP A B b n x.2 (dn.map Prod.snd) ∧ n 4 b 2 + (dn.length : Int) ≤ lim b ∧ (rest ≠ [] → n 4 b 2 + (dn.length : Int) = lim b)
theorem c_decode (h : RDR n g L) (hB : BI A B n) (hb : 0 ≤ b ∧ b ≤ 604) (hl : n 8 0 8 < n 90 0 0) (hd : n 4 b 1 ≠ n 8 0 8) (hi : 0 ≤ i ∧ i ≤ to ∧ to ≤ L) (hg : ∀ j, 0 ≤ j → j < L → isTx (g j)) (hr : r = 0 ∨ r = 1) : ev (N_Reader_decode i to (1 - r) b n) (DCQ A B b n (dcl r g i to) to) := by
  have hlb := lim_b b
  have hb1 := (hB.1 b hb.1 (by omega))
  have hz := hb1.2.2.2.1
  unfold N_Reader_decode
  refine ev_b2 (P := DCQ A B b n (dcl r g i to) to) ?_ (fun z n1 hz => ev_ok hz)
  unfold NL_Reader_decode_3
  refine ev_it (fun s : Int × NS => i ≤ s.1 ∧ s.1 ≤ to ∧ ∃ dn, dcl r g i to = dn ++ dcl r g s.1 to ∧ AP A B b n s.2 (dn.map Prod.snd) ∧ n 4 b 2 + (dn.length : Int) ≤ lim b) (fun s => to - s.1) (fun s hs => ?_) ⟨Int.le_refl _, hi.2.1, [], rfl, AP.nil (by omega) hB, by show n 4 b 2 + ((0 : Nat) : Int) ≤ lim b; omega⟩
  obtain ⟨k, n1⟩ := s
  obtain ⟨g1, g2, dn, g3, g4, g5⟩ := hs
  simp only at g1 g2 g3 g4
  have h1 := h.fb g4.2.1 hl (fun x hx => by rw [hx]; exact hd)
  obtain ⟨t1, t2, t3, t4, t5⟩ := h1
  have q1 := g4.1.1 b hb.1 (by omega)
  have hsz : n1 4 b 2 = n 4 b 2 + (dn.length : Int) := by
    have e1 := bt_len (b := b) (by omega) g4.1
    have e2 := bt_len (b := b) (by omega) hB
    rw [g4.2.2, List.take_of_length_le (by rw [List.length_append, List.length_map]; omega), List.length_append, List.length_map] at e1
    omega
  show ev (nb_Reader_decode_3 to (1 - r) b k n1) _
  unfold nb_Reader_decode_3
  rw [hsz, q1.1]
  refine ev_if (fun hlt => ev_if (fun hfull => ?_) (fun hfull => ev_inr ?_)) (fun hge => ev_inr ?_)
  · have hstep := stL_b (r := r) (g := g) hlt
    have hlist := dcl_1 (r := r) (g := g) hlt
    have hbyte : -128 ≤ stB r g k to ∧ stB r g k to ≤ 127 := by
      have := hg k (by omega) (by omega)
      unfold stB entB
      (repeat' split) <;> omega
    have next : ∀ (l c : Int), l = stL r g k to → c = stB r g k to → ev (nk_Reader_decode_75 to (1 - r) b k l c b n1) (lp (fun s : Int × NS => i ≤ s.1 ∧ s.1 ≤ to ∧ ∃ dn, dcl r g i to = dn ++ dcl r g s.1 to ∧ AP A B b n s.2 (dn.map Prod.snd) ∧ n 4 b 2 + (dn.length : Int) ≤ lim b) (fun s => to - s.1) (k, n1) (DCQ A B b n (dcl r g i to) to)) := fun l c hl hc => by
      unfold nk_Reader_decode_75
      rw [hl, hc]
      refine ev_bind (cs_addA (b := b) (by omega) g4.1 hbyte) (fun n2 a2 => ev_ck (by omega) (ev_inl ⟨⟨by show i ≤ k + stL r g k to; omega, by show k + stL r g k to ≤ to; omega, dn ++ [(k, stB r g k to)], ?_, ?_, ?_⟩, by show to - (k + stL r g k to) < to - k; omega, by show 0 ≤ to - k; omega⟩))
      · show dcl r g i to = dn ++ [(k, stB r g k to)] ++ dcl r g (k + stL r g k to) to
        rw [g3, hlist, List.append_assoc]; rfl
      · show AP A B b n n2 ((dn ++ [(k, stB r g k to)]).map Prod.snd)
        rw [List.map_append]
        exact g4.trans a2
      · rw [List.length_append]
        show n 4 b 2 + ((dn.length + 1 : Nat) : Int) ≤ lim b
        omega
    have plain : stL r g k to = 1 → stB r g k to = g k → ev (nk_Reader_decode_49 to (1 - r) b k 1 n1) (lp (fun s : Int × NS => i ≤ s.1 ∧ s.1 ≤ to ∧ ∃ dn, dcl r g i to = dn ++ dcl r g s.1 to ∧ AP A B b n s.2 (dn.map Prod.snd) ∧ n 4 b 2 + (dn.length : Int) ≤ lim b) (fun s => to - s.1) (k, n1) (DCQ A B b n (dcl r g i to) to)) := fun e1 e2 => by
      unfold nk_Reader_decode_49
      rw [if_pos rfl]
      refine ev_nn t3 (ev_tx t1 ⟨by omega, by omega⟩ (fun e => ?_))
      rw [e]
      exact next 1 (g k) e1.symm e2.symm
    rcases hr with hr | hr
    · subst hr
      rw [if_neg (by decide)]
      refine ev_nn t3 (ev_tx t1 ⟨by omega, by omega⟩ (fun e => ?_))
      rw [e]
      refine ev_if (fun h38 => ?_) (fun h38 => ?_)
      · have hcl := c_entL (n := n1) ⟨t1, t2, t3, t4, t5⟩ ⟨by omega, hlt, hi.2.2⟩ h38
        refine ev_bind hcl (fun l hl => ?_)
        by_cases hl1 : l = 1
        · rw [hl1]
          have e1 : entL g k to = 1 := by rw [← hl]; exact hl1
          refine plain (by unfold stL; rw [if_pos rfl]; exact e1) ?_
          unfold stB entB
          unfold entL at e1
          rw [if_pos h38] at e1
          rw [if_pos rfl, if_pos h38, h38]
          by_cases y4 : e4A g k to
          · rw [if_pos y4] at e1; exact absurd e1 (by decide)
          · rw [if_neg y4] at e1
            by_cases y5 : e5A g k to
            · rw [if_pos y5] at e1; exact absurd e1 (by decide)
            · rw [if_neg y5] at e1
              by_cases y6 : e6A g k to
              · rw [if_pos y6] at e1; exact absurd e1 (by decide)
              · rw [if_neg y4, if_neg y5, if_neg y6]
        · unfold nk_Reader_decode_49
          rw [if_neg hl1]
          refine ev_bind (c_entB (n := n1) ⟨t1, t2, t3, t4, t5⟩ ⟨by omega, hlt, hi.2.2⟩ h38 (by rw [← hl]; exact hl1)) (fun c hc => next l c (by rw [hl]; unfold stL; rw [if_pos rfl]) (by rw [hc]; unfold stB; rw [if_pos rfl]))
      · unfold nk_Reader_decode_48
        exact plain (by unfold stL entL; rw [if_pos rfl, if_neg h38]) (by unfold stB entB; rw [if_pos rfl, if_neg h38])
    · subst hr
      rw [if_pos (by decide)]
      unfold nk_Reader_decode_48
      exact plain (by unfold stL; rw [if_neg (by decide)]) (by unfold stB; rw [if_neg (by decide)])
  · refine ⟨dn, dcl r g k to, g3, ?_, g4, g5, fun _ => by omega⟩
    show k = _
    rw [dcl_1 hlt]; rfl
  · refine ⟨dn, [], by rw [dcl_0 hge] at g3; exact g3, ?_, g4, g5, fun z => absurd rfl z⟩
    show k = to
    omega
end G3
