/-! STYLE SHEETS: all sheets of the page, in both -/
section U0
variable {n n' n1 : NS} {m m' : YS} {A B N k v : Int} {o e p : Int → Int}
/-- the text of a node -/
theorem tx_node (hB : BI A B n) (hd : ND n m v) (hv : 0 ≤ v ∧ v < 120) (h17 : m 46 v = 17) : n 4 (5 * v) 2 = m 62 v ∧ (0 ≤ m 62 v ∧ m 62 v ≤ 400) ∧ tx n (n 4 (5 * v) 1) (fun j => m 61 (400 * v + j)) (m 62 v) ∧ (∀ j, 0 ≤ j → j < m 62 v → isTx (m 61 (400 * v + j))) := by
  have ht := hd.2.2.2.2.1 h17
  have hl := bt_len (b := 5 * v) (by omega) hB
  have hb := hB.1 (5 * v) (by omega) (by omega)
  have hbt := ht.2.2.1
  have hs : n 4 (5 * v) 2 = m 62 v := by
    rw [hbt] at hl
    unfold txL at hl
    rw [sg_len] at hl
    omega
  refine ⟨hs, ht.1, ⟨hb.2.2.1, by rw [← hs]; exact hb.2.2.2.1.2.2, fun j j0 j1 => ?_⟩, fun j j0 j1 => ?_⟩
  · unfold bt txL at hbt
    rw [hs] at hbt
    have := sg_pw (g := n 99 (n 4 (5 * v) 1)) (h := m 61) _ 0 (400 * v) hbt j.toNat (by omega)
    rw [show (0 : Int) + ((j.toNat : Nat) : Int) = j by omega, show 400 * v + ((j.toNat : Nat) : Int) = 400 * v + j by omega] at this
    exact this
  · exact sg_all (P := isTx) (g := m 61) (i := 400 * v) (k := m 62 v) ht.2.1 (by omega) (by omega)
theorem styles_both (hB : BI A B n) (hT : JT n m N o e p) (hL : LSt n N o e) (hP : JP m N o p) (h0 : m 46 0 ≠ 17) (hS : SHT n m) : ∃ n' m', NL_Sheet_refresh_40 0 n = some n' ∧ NL_Y_readStyles_7 0 m = some m' ∧ SHT n' m' ∧ FHn' n n' ∧ FY [89, 90, 91, 92, 93, 94, 95, 96, 97, 98, 99, 100, 101, 102, 103, 104] m m' := by
  have hG := hT.1.1
  have hN := hG.1
  have hcell := hB.cells
  have key : ∀ (z : Nat) (k : Int) (n8 : NS) (m8 : YS), (N - k).toNat ≤ z → (0 ≤ k ∧ k ≤ N) → FHn' n n8 → FY [89, 90, 91, 92, 93, 94, 95, 96, 97, 98, 99, 100, 101, 102, 103, 104] m m8 → SHT n8 m8 → ∃ n9 m9, NL_Sheet_refresh_40 k n8 = some n9 ∧ NL_Y_readStyles_7 (if k < N then o k else -1) m8 = some m9 ∧ SHT n9 m9 ∧ FHn' n n9 ∧ FY [89, 90, 91, 92, 93, 94, 95, 96, 97, 98, 99, 100, 101, 102, 103, 104] m m9 := by
    intro z
    induction z with
    | zero =>
      intro k n8 m8 hz hk q1 q2 q3
      refine ⟨n8, m8, ?_, ?_, q3, q1, q2⟩
      · unfold NL_Sheet_refresh_40
        refine it_inr ?_
        show nb_Sheet_refresh_40 k n8 = _
        unfold nb_Sheet_refresh_40
        rw [q1.1 10 (by decide), hL.1, if_neg (by omega)]
      · rw [if_neg (by omega)]
        unfold NL_Y_readStyles_7
        refine it_inr ?_
        show nb_Y_readStyles_7 (-1) m8 = _
        unfold nb_Y_readStyles_7
        rw [if_pos rfl]
    | succ z ih =>
      intro k n8 m8 hz hk q1 q2 q3
      by_cases hlt : k < N
      · have hv := hG.oB hk.1 hlt
        have hB8 : BI A B n8 := hB.cg (q1.1 4 (by decide)) (by rw [q1.1 5 (by decide)]; exact ⟨rfl, rfl⟩) (q1.1 90 (by decide)) (q1.1 91 (by decide)) (q1.1 92 (by decide)) (q1.1 93 (by decide))
        have em : ∀ f, 45 ≤ f → f ≤ 69 → m8 f = m f := fun f x y => q2 f (by simp only [List.mem_cons, List.not_mem_nil, or_false, not_or]; omega)
        have hT8 : JT n8 m8 N o e p := (hT.ks (n' := n8) (fun K hK => q1.1 K (by simp only [List.mem_cons, List.not_mem_nil, or_false, not_or]; omega))).fb hB8 (FB.refl (fun _ => False) n8) (fun x hx => hx.elim) em
        have o22 : n8 22 0 k = o k := by rw [q1.1 22 (by decide)]; exact (hL.2 k hk.1 hlt).1
        have hd := hT8.2.2.2 k hk.1 hlt
        have tag : n8 7 (o k) 0 = m8 46 (o k) := hd.1.1
        have par : n8 7 (o k) 2 = m8 49 (o k) := (hT8.1.2.2.2.2.1 k hk.1 hlt).1.1
        have nx : ∀ (mm : YS), (∀ f, 45 ≤ f → f ≤ 69 → mm f = m f) → nk_Y_readStyles_88 (o k) mm = some (.inl (if k + 1 < N then o (k + 1) else -1, mm)) := fun mm hm => by
          have hT9 : JT n8 mm N o e p := hT8.fb hB8 (FB.refl (fun _ => False) n8) (fun x hx => hx.elim) (fun f x y => by rw [hm f x y, em f x y])
          have := y_after (t := 0) (k := k) hT9.1.1 (Int.le_refl _) hk.1 (by rw [hN.2.2.2.1]; exact hlt) (by omega)
          rw [hN.2.2.1, hN.2.2.2.1] at this
          unfold nk_Y_readStyles_88; rw [this]; rfl
        have go : ∀ (n9 : NS) (m9 : YS), nb_Sheet_refresh_40 k n8 = some (.inl (k + 1, n9)) → nb_Y_readStyles_7 (o k) m8 = some (.inl (if k + 1 < N then o (k + 1) else -1, m9)) → FHn' n n9 → FY [89, 90, 91, 92, 93, 94, 95, 96, 97, 98, 99, 100, 101, 102, 103, 104] m m9 → SHT n9 m9 → ∃ n9 m9, NL_Sheet_refresh_40 k n8 = some n9 ∧ NL_Y_readStyles_7 (if k < N then o k else -1) m8 = some m9 ∧ SHT n9 m9 ∧ FHn' n n9 ∧ FY [89, 90, 91, 92, 93, 94, 95, 96, 97, 98, 99, 100, 101, 102, 103, 104] m m9 := fun n9 m9 b1 b2 w1 w2 w3 => by
          obtain ⟨n', m', r1, r2, r3⟩ := ih (k + 1) n9 m9 (by omega) (by omega) w1 w2 w3
          refine ⟨n', m', ?_, ?_, r3⟩
          · rw [← r1]
            unfold NL_Sheet_refresh_40
            exact it_inl (f := fun t : Int × NS => nb_Sheet_refresh_40 t.1 t.2) (s := (k, n8)) b1
          · rw [← r2, if_pos hlt]
            unfold NL_Y_readStyles_7
            exact it_inl (f := fun t : Int × YS => nb_Y_readStyles_7 t.1 t.2) (s := (o k, m8)) b2
        have h120 := hN.2.1
        by_cases z17 : m8 46 (o k) = 17
        · -- TEXT
          have hk1 : 1 ≤ k := by
            by_cases y : k = 0
            · rw [y, hN.2.2.1, em 46 (by decide) (by decide)] at z17
              exact absurd z17 h0
            · omega
          have hpk := hG.2.2.2.2.2.1 k hk1 hlt
          have epar : m8 49 (o k) = o (p k) := by rw [em 49 (by decide) (by decide)]; exact hG.2.2.2.2.2.2.2.1 k hk1 hlt
          have hpv := hG.oB hpk.1 (show p k < N by omega)
          have ptag : n8 7 (o (p k)) 0 = m8 46 (o (p k)) := (hT8.2.2.2 (p k) hpk.1 (by omega)).1.1
          have cb0 : nb_Sheet_refresh_40 k n8 = if m8 46 (o (p k)) = 15 then (nn (n8 4 (5 * (o k)) 1) <| (N_Sheet_readSheet (n8 4 (5 * (o k)) 1) (n8 4 (5 * (o k)) 2) n8).bind fun n29 => some (.inl (k + 1, n29))) else some (.inl (k + 1, n8)) := by
            unfold nb_Sheet_refresh_40
            rw [q1.1 10 (by decide), hL.1, if_pos hlt, ix_e _ (by omega), o22, ix_e _ hv, tag, if_pos z17, par, epar, if_neg (by omega), ix_e _ hpv, ptag]
            simp only [ck_e (a := k + 1) _ (show -10000000 ≤ k + 1 ∧ k + 1 ≤ 10000000 by omega)]
          have yb0 : nb_Y_readStyles_7 (o k) m8 = if m8 46 (o (p k)) = 15 then ((NL_Y_readStyles_44 (o k) 0 m8).bind fun m13 => ix (o k) 120 <| (N_Y_readSheet (m13 62 (o k)) m13).bind fun m20 => nk_Y_readStyles_88 (o k) m20) else nk_Y_readStyles_88 (o k) m8 := by
            unfold nb_Y_readStyles_7
            rw [if_neg (by omega), ix_e _ hv, if_pos z17, ix_e _ hv, epar, ix_e _ hpv]
          by_cases z15 : m8 46 (o (p k)) = 15
          · rw [if_pos z15] at cb0 yb0
            obtain ⟨t1, t2, t3, t4⟩ := tx_node hB8 hd hv z17
            obtain ⟨m13, c1, c2, c3, c4⟩ := y_copy (m := m8) (F := 101) (G := 61) (a := 0) (b := 400 * o k) (K := m8 62 (o k)) (fn := fun t => nb_Y_readStyles_44 (o k) t.1 t.2) (by decide) t2.1 (fun j ma fa ja jb => by
              show nb_Y_readStyles_44 (o k) j ma = _
              unfold nb_Y_readStyles_44 st
              dsimp only
              rw [ix_e _ hv, fa 62 (by decide), if_pos jb, ck_e _ (by omega), ck_e _ (by omega), ix_e _ (by omega), ix_e _ (by omega), ck_e _ (by omega), Int.zero_add]) (fun ma fa => by
              show nb_Y_readStyles_44 (o k) (m8 62 (o k)) ma = _
              unfold nb_Y_readStyles_44
              rw [ix_e _ hv, fa 62 (by decide), if_neg (by omega)])
            have c1 : NL_Y_readStyles_44 (o k) 0 m8 = some m13 := c1
            have e62 : m13 62 = m8 62 := c2 62 (by decide)
            have gj : ∀ j, 0 ≤ j → j < m8 62 (o k) → m13 101 j = m8 61 (400 * o k + j) := fun j x y => by
              have := c3 j x y
              rw [Int.zero_add] at this; exact this
            have tx' : tx n8 (n8 4 (5 * o k) 1) (m13 101) (m8 62 (o k)) := ⟨t3.1, t3.2.1, fun j x y => by rw [gj j x y]; exact t3.2.2 j x y⟩
            have S13 : SHT n8 m13 := by
              have ef : ∀ f, f ≠ 101 → m13 f = m8 f := fun f hf => c2 f (by simp only [List.mem_cons, List.not_mem_nil, or_false]; exact hf)
              obtain ⟨s1, s2, s3⟩ := q3
              refine ⟨by rw [ef 89 (by decide)]; exact s1, by rw [ef 89 (by decide)]; exact s2, fun s x y => ?_⟩
              rw [ef 89 (by decide)] at y
              obtain ⟨u1, u2⟩ := s3 s x y
              exact ⟨u1.y97 (fun f a b => ef f (by omega)), u2.cg rfl (fun _ _ _ => rfl) (fun j _ _ => by rw [ef 98 (by decide), ef 99 (by decide)]; exact ⟨rfl, rfl⟩)⟩
            obtain ⟨n9, m9, r1, r2, r3, r4, r5⟩ := sheet_both (d := n8 4 (5 * o k) 1) (L := m8 62 (o k)) (g := m13 101) t2 (fun j x y => by rw [gj j x y]; exact t4 j x y) ((m8 62 (o k) - 0).toNat + 1) 0 0 n8 m13 (by omega) (Int.le_refl _) (by omega) S13 tx' rfl (by have := hB8.cells; omega)
            have hb := hB8.1 (5 * o k) (by omega) (by omega)
            have f13 : FY [89, 90, 91, 92, 93, 94, 95, 96, 97, 98, 99, 100, 101, 102, 103, 104] m m13 := q2.trans (c2.mono (fun x hx => by simp only [List.mem_cons, List.not_mem_nil, or_false] at hx ⊢; omega))
            have f9 : FY [89, 90, 91, 92, 93, 94, 95, 96, 97, 98, 99, 100, 101, 102, 103, 104] m m9 := f13.trans (FY.mono (fs := [89, 90, 91, 92, 93, 94, 95, 96, 97, 98, 99, 100, 102, 103, 104]) r5 (fun x hx => by simp only [List.mem_cons, List.not_mem_nil, or_false] at hx ⊢; omega))
            have m9f : ∀ f, 45 ≤ f → f ≤ 69 → m9 f = m f := fun f x y => f9 f (by simp only [List.mem_cons, List.not_mem_nil, or_false, not_or]; omega)
            have eC : nb_Sheet_refresh_40 k n8 = some (.inl (k + 1, n9)) := by
              rw [cb0]
              unfold nn N_Sheet_readSheet
              rw [if_pos hb.2.1.1, t1, r1]; rfl
            have eS : N_Y_readSheet (m8 62 (o k)) m13 = some m9 := by
              unfold N_Y_readSheet
              rw [ys_blanks ⟨by omega, by omega⟩ t2.2]
              simp only [Option.bind_some]
              rcases r2 with y | y <;> rw [y] <;> rfl
            refine go n9 m9 eC ?_ (q1.trans r4) f9 r3
            rw [yb0, c1]
            simp only [Option.bind_some]
            rw [ix_e _ hv, e62, eS]
            simp only [Option.bind_some]
            exact nx m9 m9f
          · rw [if_neg z15] at cb0 yb0
            exact go n8 m8 cb0 (yb0.trans (nx m8 em)) q1 q2 q3
        · have cb : nb_Sheet_refresh_40 k n8 = some (.inl (k + 1, n8)) := by
            unfold nb_Sheet_refresh_40
            rw [q1.1 10 (by decide), hL.1, if_pos hlt, ix_e _ (by omega), o22, ix_e _ hv, tag, if_neg z17, ck_e _ (by omega)]
          have yb : nb_Y_readStyles_7 (o k) m8 = nk_Y_readStyles_88 (o k) m8 := by
            unfold nb_Y_readStyles_7
            rw [if_neg (by omega), ix_e _ hv, if_neg z17]
          exact go n8 m8 cb (yb.trans (nx m8 em)) q1 q2 q3
      · refine ⟨n8, m8, ?_, ?_, q3, q1, q2⟩
        · unfold NL_Sheet_refresh_40
          refine it_inr ?_
          show nb_Sheet_refresh_40 k n8 = _
          unfold nb_Sheet_refresh_40
          rw [q1.1 10 (by decide), hL.1, if_neg hlt]
        · rw [if_neg hlt]
          unfold NL_Y_readStyles_7
          refine it_inr ?_
          show nb_Y_readStyles_7 (-1) m8 = _
          unfold nb_Y_readStyles_7
          rw [if_pos rfl]
  obtain ⟨n9, m9, r1, r2, r3, r4, r5⟩ := key N.toNat 0 n m (by omega) (by omega) FHn'.refl (FY.refl _ _) hS
  rw [if_pos (by omega), hN.2.2.1] at r2
  exact ⟨n9, m9, r1, r2, r3, r4, r5⟩
end U0
