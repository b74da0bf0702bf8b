/-! THE TAPE AND THE OUT, together; what a text's call begins with -/
/-- bytes that may stand in texts -/
abbrev isTx (b : Int) : Prop := b = 10 ∨ (32 ≤ b ∧ b ≤ 126)
def JTape (n : NS) (m : YS) : Prop := bt n 605 = ys m 0 1 ∧ n 4 605 2 = m 1 0 ∧ 0 ≤ m 1 0 ∧ m 1 0 ≤ 2000
def JOut (n : NS) (m : YS) : Prop := bt n 606 = ys m 4 5 ∧ n 4 606 2 = m 5 0 ∧ 0 ≤ m 5 0 ∧ m 5 0 ≤ 8000 ∧ ∀ j, 0 ≤ j → j < m 5 0 → 0 ≤ m 4 j ∧ m 4 j ≤ 127
theorem lim_605 : lim 605 = 2000 := by decide
theorem lim_606 : lim 606 = 8000 := by decide
theorem ys_len {m : YS} {f h : Nat} (h0 : 0 ≤ m h 0) : ((ys m f h).length : Int) = m h 0 := by unfold ys; rw [sg_len]; omega
/-- the rows hold the same bytes, place by place -/
theorem bt_at {n : NS} {m : YS} {b : Int} {f h : Nat} (he : bt n b = ys m f h) (hs : n 4 b 2 = m h 0) {j : Int} (h0 : 0 ≤ j) (hj : j < m h 0) : n 99 (n 4 b 1) j = m f j := by
  unfold bt ys at he
  rw [hs] at he
  have := sg_inj _ _ _ he j.toNat (by omega)
  rw [show 0 + ((j.toNat : Nat) : Int) = j by omega] at this
  exact this
theorem JTape.tx {n : NS} {m : YS} {A B : Int} (h : JTape n m) (hB : BI A B n) : tx n (n 4 605 1) (m 0) (m 1 0) := by
  have h1 := hB.1 605 (by omega) (by omega)
  refine ⟨h1.2.2.1, ?_, fun j h0 hj => bt_at h.1 h.2.1 h0 hj⟩
  have := h1.2.2.2.1
  have := h.2.1
  omega
section A8
variable {n : NS} {m : YS} {A B v i : Int}
theorem feed_ok {a b c d e : Int} (hB : BI A B n) (hJ : JTape n m) : ∃ r n' m', N_H_feed a b c d e n = some (r, n') ∧ N_Y_feed a b c d e m = some (r, m') ∧ BI A B n' ∧ JTape n' m' ∧ FB (fun x => x = 605) n n' ∧ FY [0, 1] m m' := by
  obtain ⟨h1, h2, h3, h4⟩ := hJ
  obtain ⟨⟨r, n'⟩, e1, p1⟩ := cs_feed (a := a) (b := b) (c := c) (d := d) (e := e) hB
  obtain ⟨⟨s, m'⟩, e2, p2⟩ := ys_feed (a := a) (b := b) (c := c) (d := d) (e := e) (m := m) ⟨h3, h4⟩
  obtain ⟨f2, p2⟩ := p2
  rcases p2 with ⟨q1, q2⟩ | ⟨q1, q2, q3, q4⟩
  · rcases p1 with ⟨t1, t2⟩ | ⟨t1, t2, t3⟩
    · rw [q2] at e2; rw [t2] at e1
      exact ⟨-1, n, m, e1, e2, hB, ⟨h1, h2, h3, h4⟩, FB.refl _ _, FY.refl _ _⟩
    · omega
  · rcases p1 with ⟨t1, t2⟩ | ⟨t1, t2, t3⟩
    · omega
    · simp only at q2 q3 q4 t2
      have t3 : AP A B 605 n n' (four a ++ (four b ++ (four c ++ (four d ++ four e)))) := t3
      have hl : bt n' 605 = ys m' 0 1 := by
        rw [t3.2.2, q4, h1, lim_605]
        exact List.take_of_length_le (by
          rw [List.length_append]
          have := ys_len (m := m) (f := 0) h3
          simp [four]; omega)
      have hsz : n' 4 605 2 = m' 1 0 := by
        have e5 := bt_len (b := 605) (by omega) t3.1
        rw [hl] at e5
        rw [← e5, ys_len (by omega)]
      rw [t2] at e1
      rw [q2] at e2
      refine ⟨m 1 0 + 20, n', m', ?_, e2, t3.1, ⟨hl, hsz, by omega, by omega⟩, t3.2.1, f2⟩
      rw [e1, hsz, q3]
theorem end_ok (hB : BI A B n) (hJ : JTape n m) : ∃ r n' m', N_H_end v n = some (r, n') ∧ N_Y_end v m = some (r, m') ∧ BI A B n' ∧ JTape n' m' ∧ FB (fun x => x = 605) n n' ∧ FY [0, 1] m m' := by
  obtain ⟨h1, h2, h3, h4⟩ := hJ
  unfold N_H_end N_Y_end
  by_cases hv : v < 0
  · rw [if_pos hv, if_pos hv]; exact ⟨_, _, _, rfl, rfl, hB, ⟨h1, h2, h3, h4⟩, FB.refl _ _, FY.refl _ _⟩
  · rw [if_neg hv, if_neg hv, h2]
    by_cases hg : m 1 0 < v
    · rw [if_pos hg, if_pos hg]; exact ⟨_, _, _, rfl, rfl, hB, ⟨h1, h2, h3, h4⟩, FB.refl _ _, FY.refl _ _⟩
    · rw [if_neg hg, if_neg hg]
      have hb1 := hB.1 605 (by omega) (by omega)
      have hz := hb1.2.2.2.1
      have h := set_ok (b := 605) (by omega) hB (f := n 99 (n 4 605 1)) (s := v) ⟨by omega, by omega, by unfold cap; omega⟩
      rw [show nwA n 99 (n 4 605 1) (n 99 (n 4 605 1)) = n from by
        funext K i s; unfold nwA; split
        · rename_i h; obtain ⟨rfl, rfl⟩ := h; rfl
        · rfl] at h
      refine ⟨v, _, _, rfl, rfl, h.1, ⟨?_, ?_, ?_, ?_⟩, h.2.1, fun f hf => yw_nF (fun z => hf (by simp [z]))⟩
      · rw [h.2.2.1]
        unfold ys
        rw [yw_eq, yw_nF (by decide)]
        exact sg_cg _ _ _ (fun x hx => by
          have := bt_at h1 h2 (j := (0 : Int) + x) (by omega) (by omega)
          exact this)
      · rw [h.2.2.2, yw_eq]
      · rw [yw_eq]; omega
      · rw [yw_eq]; omega
theorem out_ok (hB : BI A B n) (hJ : JOut n m) : ∃ r, N_H_out v n = some r ∧ N_Y_out v m = some r := by
  obtain ⟨h1, h2, h3, h4, h5⟩ := hJ
  have hb1 := hB.1 606 (by omega) (by omega)
  unfold N_H_out N_Y_out
  by_cases hv : v < 0
  · rw [if_pos hv, if_pos hv]; exact ⟨_, rfl, rfl⟩
  · rw [if_neg hv, if_neg hv, h2]
    by_cases hg : v < m 5 0
    · rw [if_pos hg, if_pos hg]
      have e := bt_at h1 h2 (j := v) (by omega) hg
      have hx := h5 v (by omega) hg
      refine ⟨m 4 v, ?_, ?_⟩
      · unfold nn dx
        rw [if_pos hb1.2.1.1, if_pos ⟨hb1.2.2.1, by omega, by have := hb1.2.2.2.1; omega⟩, e]
      · unfold ix
        rw [if_pos (by omega), show m 4 v % 256 = m 4 v by omega]
    · rw [if_neg hg, if_neg hg]; exact ⟨_, rfl, rfl⟩
/-- the first byte that is wrong -/
theorem cs_wrongByte (hB : BI A B n) (ht : tx n (n 4 605 1) (m 0) (m 1 0)) (hs : n 4 605 2 = m 1 0) (h0 : 0 ≤ m 1 0 ∧ m 1 0 ≤ 2000) : N_H_wrongByte n = some (if sc (fun j => isTx (m 0 j)) 0 (m 1 0) < m 1 0 then -1000 - sc (fun j => isTx (m 0 j)) 0 (m 1 0) else 0) := by
  apply eq_of_ev
  have hb1 := hB.1 605 (by omega) (by omega)
  have hle := scx_le (p := fun j => isTx (m 0 j)) (i := 0) (to := m 1 0) h0.1
  unfold N_H_wrongByte NL_H_wrongByte_2
  refine ev_bs (P := fun r => r = sc (fun j => isTx (m 0 j)) 0 (m 1 0) ∧ r < m 1 0 ∧ 0 ≤ r) (R := fun _ => ¬ sc (fun j => isTx (m 0 j)) 0 (m 1 0) < m 1 0) ?_ (fun r h => ?_) (fun r h => ?_)
  · refine ev_it (fun s => 0 ≤ s ∧ s ≤ m 1 0 ∧ ∀ j, 0 ≤ j → j < s → isTx (m 0 j)) (fun s => m 1 0 - s) (fun s hs' => ?_) ⟨Int.le_refl _, h0.1, fun j a b => by omega⟩
    obtain ⟨g1, g2, g3⟩ := hs'
    unfold nb_H_wrongByte_2
    rw [hs]
    have hstop : s < m 1 0 → ¬ isTx (m 0 s) → s = sc (fun j => isTx (m 0 j)) 0 (m 1 0) := fun hlt hn => scx_eq ⟨g1, .inl (by omega), g3, fun _ => hn⟩
    have hnext : s < m 1 0 → isTx (m 0 s) → ev (some (Sum.inl (s + 1))) (lp (fun s => 0 ≤ s ∧ s ≤ m 1 0 ∧ ∀ j, 0 ≤ j → j < s → isTx (m 0 j)) (fun s => m 1 0 - s) s (sp (fun r => r = sc (fun j => isTx (m 0 j)) 0 (m 1 0) ∧ r < m 1 0 ∧ 0 ≤ r) (fun _ : Unit => ¬ sc (fun j => isTx (m 0 j)) 0 (m 1 0) < m 1 0))) := fun hlt hp =>
      ev_inl ⟨⟨by omega, by omega, fun j a b => by
        by_cases e : j = s
        · rw [e]; exact hp
        · exact g3 j a (by omega)⟩, by omega, by omega⟩
    refine ev_if (fun hlt => ?_) (fun hge => ?_)
    · refine ev_nn hb1.2.1.1 (ev_tx ht ⟨g1, hlt⟩ (fun he => ?_))
      rw [he]
      refine ev_if (fun h => ev_ck (by omega) (hnext hlt (by omega))) (fun h => ev_if (fun h' => ev_inr ⟨hstop hlt (by omega), hlt, g1⟩) (fun h' => ev_if (fun h'' => ev_inr ⟨hstop hlt (by omega), hlt, g1⟩) (fun h'' => ev_ck (by omega) (hnext hlt (by omega)))))
    · refine ev_inr (show ¬ _ from fun hx => ?_)
      have := scx_at (p := fun j => isTx (m 0 j)) hx
      exact this (g3 _ (scx_ge _ _) (by omega))
  · refine ev_ck (by omega) (ev_ok ?_)
    rw [if_pos (by rw [← h.1]; exact h.2.1), h.1]
  · exact ev_ok (by rw [if_neg h])
/-- the reference's: the text is taken, the tape is empty -/
theorem ys_take (h0 : 0 ≤ m 1 0 ∧ m 1 0 ≤ 2000) : ev (N_Y_take m) (fun r => r.1 = (if sc (fun j => isTx (m 0 j)) 0 (m 1 0) < m 1 0 then sc (fun j => isTx (m 0 j)) 0 (m 1 0) else -1) ∧ FY [1, 2, 3] m r.2 ∧ r.2 1 0 = 0 ∧ r.2 3 0 = m 1 0 ∧ ∀ j, 0 ≤ j → j < m 1 0 → r.2 2 j = m 0 j) := by
  unfold N_Y_take
  refine ev_st ?_
  have hle := scx_le (p := fun j => isTx (m 0 j)) (i := 0) (to := m 1 0) h0.1
  refine ev_bind (P := fun m1 => FY [2, 3] m m1 ∧ m1 3 0 = m 1 0 ∧ ∀ j, 0 ≤ j → j < m 1 0 → m1 2 j = m 0 j) ?_ (fun m1 h1 => ?_)
  · unfold NL_Y_take_10
    refine ev_it (fun t : Int × YS => 0 ≤ t.1 ∧ t.1 ≤ m 1 0 ∧ FY [2, 3] m t.2 ∧ t.2 3 0 = m 1 0 ∧ ∀ j, 0 ≤ j → j < t.1 → t.2 2 j = m 0 j) (fun t => m 1 0 - t.1) (fun t ht => ?_) ⟨Int.le_refl _, h0.1, fun f hf => yw_nF (fun z => hf (by simp [z])), by show yw m 3 0 (m 1 0) 3 0 = _; exact yw_eq, fun j a b => by simp only at b; omega⟩
    obtain ⟨k, m1⟩ := t
    obtain ⟨g1, g2, g3, g4, g5⟩ := ht
    simp only at g1 g2 g3 g4 g5
    show ev (nb_Y_take_10 k m1) _
    unfold nb_Y_take_10
    rw [g4]
    refine ev_if (fun hlt => ?_) (fun hge => ?_)
    · refine ev_ix (by omega) (ev_ix (by omega) (ev_st (ev_ck (by omega) (ev_inl ⟨⟨by show 0 ≤ k + 1; omega, by show k + 1 ≤ _; omega, fun f hf => ?_, ?_, fun j a b => ?_⟩, by show m 1 0 - (k + 1) < m 1 0 - k; omega, by show 0 ≤ m 1 0 - k; omega⟩))))
      · show yw m1 2 k (m1 0 k) f = m f
        rw [yw_nF (fun z => hf (by simp [z]))]; exact g3 f hf
      · show yw m1 2 k (m1 0 k) 3 0 = _
        rw [yw_nF (by decide)]; exact g4
      · show yw m1 2 k (m1 0 k) 2 j = _
        by_cases e : j = k
        · rw [e, yw_eq, g3 0 (by decide)]
        · rw [yw_ni e]; exact g5 j a (by simp only at b; omega)
    · exact ev_inr ⟨g3, g4, fun j a b => g5 j a (by omega)⟩
  · obtain ⟨f1, f2, f3⟩ := h1
    refine ev_st ?_
    have q3 : yw m1 1 0 0 3 0 = m 1 0 := by rw [yw_nF (by decide)]; exact f2
    have q2 : ∀ j, yw m1 1 0 0 2 j = m1 2 j := fun j => by rw [yw_nF (by decide)]
    have qF : FY [1, 2, 3] m (yw m1 1 0 0) := fun f hf => by
      rw [yw_nF (fun z => hf (by simp [z]))]; exact f1 f (fun z => hf (by simp at z ⊢; omega))
    have fin : ∀ r, r = (if sc (fun j => isTx (m 0 j)) 0 (m 1 0) < m 1 0 then sc (fun j => isTx (m 0 j)) 0 (m 1 0) else -1) → ev (some (r, yw m1 1 0 0)) (fun r => r.1 = (if sc (fun j => isTx (m 0 j)) 0 (m 1 0) < m 1 0 then sc (fun j => isTx (m 0 j)) 0 (m 1 0) else -1) ∧ FY [1, 2, 3] m r.2 ∧ r.2 1 0 = 0 ∧ r.2 3 0 = m 1 0 ∧ ∀ j, 0 ≤ j → j < m 1 0 → r.2 2 j = m 0 j) := fun r hr => ev_ok ⟨hr, qF, by show yw m1 1 0 0 1 0 = 0; exact yw_eq, q3, fun j a b => (q2 j).trans (f3 j a b)⟩
    refine ev_bs (P := fun r => r = sc (fun j => isTx (m 0 j)) 0 (m 1 0) ∧ r < m 1 0) (R := fun _ => ¬ sc (fun j => isTx (m 0 j)) 0 (m 1 0) < m 1 0) ?_ (fun r h => fin r (by rw [if_pos (by rw [← h.1]; exact h.2), h.1])) (fun r h => fin _ (by rw [if_neg h]))
    unfold NL_Y_take_43
    refine ev_it (fun s => 0 ≤ s ∧ s ≤ m 1 0 ∧ ∀ j, 0 ≤ j → j < s → isTx (m 0 j)) (fun s => m 1 0 - s) (fun s hs' => ?_) ⟨Int.le_refl _, h0.1, fun j a b => by omega⟩
    obtain ⟨g1, g2, g3⟩ := hs'
    unfold nb_Y_take_43
    rw [q3, q2]
    have hstop : s < m 1 0 → ¬ isTx (m 0 s) → s = sc (fun j => isTx (m 0 j)) 0 (m 1 0) := fun hlt hn => scx_eq ⟨g1, .inl (by omega), g3, fun _ => hn⟩
    have hnext : s < m 1 0 → isTx (m 0 s) → ev (some (Sum.inl (s + 1))) (lp (fun s => 0 ≤ s ∧ s ≤ m 1 0 ∧ ∀ j, 0 ≤ j → j < s → isTx (m 0 j)) (fun s => m 1 0 - s) s (sp (fun r => r = sc (fun j => isTx (m 0 j)) 0 (m 1 0) ∧ r < m 1 0) (fun _ : Unit => ¬ sc (fun j => isTx (m 0 j)) 0 (m 1 0) < m 1 0))) := fun hlt hp =>
      ev_inl ⟨⟨by omega, by omega, fun j a b => by
        by_cases e : j = s
        · rw [e]; exact hp
        · exact g3 j a (by omega)⟩, by omega, by omega⟩
    refine ev_if (fun hlt => ?_) (fun hge => ?_)
    · refine ev_ix (by omega) ?_
      rw [f3 s g1 hlt]
      refine ev_if (fun h => ev_ck (by omega) (hnext hlt (by omega))) (fun h => ev_if (fun h' => ev_inr ⟨hstop hlt (by omega), hlt⟩) (fun h' => ev_if (fun h'' => ev_inr ⟨hstop hlt (by omega), hlt⟩) (fun h'' => ev_ck (by omega) (hnext hlt (by omega)))))
    · refine ev_inr (show ¬ _ from fun hx => ?_)
      have := scx_at (p := fun j => isTx (m 0 j)) hx
      exact this (g3 _ (scx_ge _ _) (by omega))
end A8
