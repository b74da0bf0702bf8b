/-! TASKS: what the word wait does, in both -/
/-- rows S of bytes and kinds Ks have changed -/
def FBK (S : Int → Prop) (Ks : List Nat) (n n' : NS) : Prop := ∃ na nb, (∀ K, K ∉ Ks → na K = n K) ∧ FB S na nb ∧ (∀ K, K ∉ Ks → n' K = nb K)
section M4
variable {n n' : NS} {m m' : YS} {A B N k v d fr to L i c st q : Int} {g : Int → Int} {w x : List Int}
theorem wait_both (hJ : JTk n m) (hB : BI A B n) (hself : MkR (n 0 0 13) (m 161 0) (m 162 0)) (hclk : n 6 0 12 = m 25 0 ∧ 0 ≤ m 25 0 ∧ m 25 0 ≤ 1000000) (h167 : m 167 0 < 1000000000)
    (hs : tx n d g L) (hdb : 0 ≤ d ∧ d < n 90 0 0) (hdr : ∀ b, 611 ≤ b → b ≤ 630 → n 4 b 1 ≠ d) (hf : 0 ≤ fr ∧ fr ≤ to ∧ to ≤ L ∧ L ≤ 2000) (hg : ∀ j, fr ≤ j → j < to → m 159 j = g j ∧ isTx (g j)) :
    ∃ r n' m', N_Acts_runWait d fr to n = some (r, n') ∧ N_Y_waitStep fr to m = some (r, m') ∧ (r = 0 ∨ r = 1) ∧ JTk n' m' ∧ BI A B n' ∧ FBK (fun b => 611 ≤ b ∧ b ≤ 630) [0, 44] n n' ∧ (∀ s, s ≠ 5 → n' 0 0 s = n 0 0 s) ∧ FY [166, 167, 168, 169, 170, 171, 172, 173] m m' ∧ m' 167 0 ≤ m 167 0 + 1 ∧ (∀ i, 0 ≤ i → i < m' 166 0 → (i < m 166 0 ∧ m' 170 i = m 170 i ∧ m' 171 i = m 171 i) ∨ (m' 170 i = m 161 0 ∧ m' 171 i = m 162 0)) := by
  have hJ' := hJ
  obtain ⟨⟨t1, t2, t3⟩, t4, t5, t6, t7, t8⟩ := hJ
  have hst0 := scx_ge (p := fun j => g j ≠ 32) fr to
  have hst1 := scx_le (p := fun j => g j ≠ 32) (i := fr) (to := to) hf.2.1
  have hscn := scx_scn (p := fun j => g j ≠ 32) fr to
  have eB := c_blankAt (fr := fr) (to := to) hs hf
  unfold bkA at eB
  generalize hst : sc (fun j => g j ≠ 32) fr to = st at *
  obtain ⟨z, ez, hz⟩ := c_num (fr := fr) (st := st) hs ⟨hf.1, hst0, by omega, hf.2.2.2⟩
  obtain ⟨⟨k, val⟩, ey, k1, k2, k3, k4⟩ := y_num (m := m) (fr := fr) (to := to) ⟨hf.1, hf.2.1, by omega⟩
  simp only at k1 k2 k3 k4
  have s3 : st < to → g st = 32 := fun y => Classical.byContradiction (fun u => hscn.2.2.2 y u)
  have s4 : ∀ j, fr ≤ j → j < st → g j ≠ 32 := fun j a b => hscn.2.2.1 j a b
  have same : ∀ r, (r = 0 ∨ r = 1) → N_Acts_runWait d fr to n = some (r, n) → N_Y_waitStep fr to m = some (r, m) → ∃ r n' m', N_Acts_runWait d fr to n = some (r, n') ∧ N_Y_waitStep fr to m = some (r, m') ∧ (r = 0 ∨ r = 1) ∧ JTk n' m' ∧ BI A B n' ∧ FBK (fun b => 611 ≤ b ∧ b ≤ 630) [0, 44] n n' ∧ (∀ s, s ≠ 5 → n' 0 0 s = n 0 0 s) ∧ FY [166, 167, 168, 169, 170, 171, 172, 173] m m' ∧ m' 167 0 ≤ m 167 0 + 1 ∧ (∀ i, 0 ≤ i → i < m' 166 0 → (i < m 166 0 ∧ m' 170 i = m 170 i ∧ m' 171 i = m 171 i) ∨ (m' 170 i = m 161 0 ∧ m' 171 i = m 162 0)) := fun r hr a b => ⟨r, n, m, a, b, hr, hJ', hB, ⟨n, n, fun _ _ => rfl, FB.refl _ n, fun _ _ => rfl⟩, fun _ _ => rfl, fun _ _ => rfl, by omega, fun i _ hi => .inl ⟨hi, rfl, rfl⟩⟩
  have eY : N_Y_waitStep fr to m = nk_Y_waitStep_52 fr to k val m := by
    unfold N_Y_waitStep; rw [ey]; rfl
  by_cases hgood : st ≠ to ∧ z ≠ -1
  · rcases hz with ⟨⟨z1, z2, z3⟩, z4, z5, z6⟩ | ⟨_, y⟩
    · have hk : k = st := by
        by_cases u : st < k
        · have := k2 st hst0 u
          rw [(hg st hst0 (by omega)).1, s3 (by omega)] at this
          unfold isDg at this; omega
        · by_cases u2 : k < st
          · have := k4 (by omega) (by omega)
            rw [(hg k k1.1 (by omega)).1] at this
            exact absurd (z3 k k1.1 u2) this
          · omega
      subst hk
      have hval : val = z := by
        rw [k3, z4]
        exact nvL_cg _ (fun j a b => (hg j a (by omega)).1)
      subst hval
      have h32 : m 159 k = 32 := by rw [(hg k k1.1 (by omega)).1]; exact s3 (by omega)
      by_cases h20 : m 166 0 = 20
      · refine same 1 (.inr rfl) ?_ ?_
        · unfold N_Acts_runWait
          rw [eB]
          simp only [Option.bind_some]
          rw [ez]
          simp only [Option.bind_some]
          rw [if_neg hgood.1, if_neg hgood.2, t1, if_neg (by omega)]
        · rw [eY]; unfold nk_Y_waitStep_52 ix
          rw [if_neg (by omega), if_pos (show k < to by omega), if_pos (by omega), if_pos h32, if_pos h20]
      · -- a task comes
        have hc20 : 0 ≤ m 166 0 ∧ m 166 0 < 20 := ⟨t2, by omega⟩
        have hrow := t4 (m 166 0) t2 hc20.2
        generalize hna : nw (nw n 44 0 (2 * m 166 0) (m 25 0 + val)) 44 0 (2 * m 166 0 + 1) (n 0 0 13) = na
        have ka : ∀ K, K ≠ 44 → na K = n K := fun K hK => by rw [← hna, nw_nK hK, nw_nK hK]
        have hBa : BI A B na := hB.cg (ka 4 (by decide)) (by rw [ka 5 (by decide)]; exact ⟨rfl, rfl⟩) (ka 90 (by decide)) (ka 91 (by decide)) (ka 92 (by decide)) (ka 93 (by decide))
        generalize hr : n 45 0 (m 166 0) = r at *
        obtain ⟨n1, e1, a1, a2, a3⟩ := cs_clear (b := r) (by omega) hBa
        have txa : tx na d g L := ⟨by rw [ka 92 (by decide)]; exact hs.1, by rw [ka 93 (by decide)]; exact hs.2.1, by rw [ka 99 (by decide)]; exact hs.2.2⟩
        have tx1 : tx n1 d g L := a2.tx txa (by rw [ka 90 (by decide)]; exact hdb.2) (fun b hb => by subst hb; rw [ka 4 (by decide)]; exact fun z => hdr _ hrow.1 hrow.2 z.symm)
        obtain ⟨nb, e2, b1, b2, b3⟩ := cs_addAllA (b := r) (a := d) (g := g) (l := L) (i := k + 1) (to := to) (by omega) a1 tx1 (by have := a2.2.2.1; rw [ka 90 (by decide)] at this; omega) (by omega) hf.2.2.1 (by omega) (fun z => by
          rcases a2.2.2.2.2.2 r rfl with y | y
          · rw [y, ka 4 (by decide)] at z; exact hdr _ hrow.1 hrow.2 z.symm
          · rw [ka 90 (by decide)] at y; omega)
        have fb := a2.trans b2
        have hlim : (lim r).toNat = 60 := by
          unfold lim
          rw [if_neg (by omega), if_neg (by omega), if_neg (by omega), if_neg (by omega), if_neg (by omega), if_neg (by omega), if_neg (by omega), if_neg (by omega)]; rfl
        rw [a3, List.nil_append, hlim] at b3
        have e0b : nb 0 = n 0 := by rw [fb.1 0 (by decide) (by decide) (by decide) (by decide) (by decide) (by decide), ka 0 (by decide)]
        have e45 : nb 45 = n 45 := by rw [fb.1 45 (by decide) (by decide) (by decide) (by decide) (by decide) (by decide), ka 45 (by decide)]
        have e44 : nb 44 = na 44 := fb.1 44 (by decide) (by decide) (by decide) (by decide) (by decide) (by decide)
        have eC : N_Acts_runWait d fr to n = some (1, nw nb 0 0 5 (m 166 0 + 1)) := by
          unfold N_Acts_runWait
          rw [eB]
          simp only [Option.bind_some]
          rw [ez]
          simp only [Option.bind_some]
          rw [if_neg hgood.1, if_neg hgood.2, t1, if_pos hc20.2, hclk.1]
          have q1 : nw n 44 0 (2 * m 166 0) (m 25 0 + val) 0 = n 0 := nw_nK (by decide)
          unfold ck ix st nn
          dsimp only
          rw [q1, t1, hna, ka 0 (by decide), t1, ka 45 (by decide), hr, e1]
          simp only [Option.bind_some]
          have e01 : n1 0 = n 0 := by rw [a2.1 0 (by decide) (by decide) (by decide) (by decide) (by decide) (by decide), ka 0 (by decide)]
          have e451 : n1 45 = n 45 := by rw [a2.1 45 (by decide) (by decide) (by decide) (by decide) (by decide) (by decide), ka 45 (by decide)]
          rw [e01, t1, e451, hr, e2]
          simp only [Option.bind_some]
          rw [e0b, t1]
          rw [if_pos (show inR (2 * m 166 0) by omega), if_pos (show inR (m 25 0 + val) by omega), if_pos (show 0 ≤ 2 * m 166 0 ∧ 2 * m 166 0 < 40 by omega), if_pos (show inR (2 * m 166 0) by omega), if_pos (show inR (2 * m 166 0 + 1) by omega), if_pos (show 0 ≤ 2 * m 166 0 + 1 ∧ 2 * m 166 0 + 1 < 40 by omega), if_pos hc20, if_pos (show 0 ≤ r by omega), if_pos hc20, if_pos (show 0 ≤ r by omega), if_pos (show inR (k + 1) by omega), if_pos (show inR (m 166 0 + 1) by omega)]
        -- the reference
        generalize hm1 : yw (yw (yw (yw (yw (yw m 168 (m 166 0) (m 25 0 + val)) 169 (m 166 0) (m 167 0)) 167 0 (m 167 0 + 1)) 170 (m 166 0) (m 161 0)) 171 (m 166 0) (m 162 0)) 172 (m 166 0) (min 60 (to - k - 1)) = m1
        have f1 : FY [167, 168, 169, 170, 171, 172] m m1 := fun f hf => by
          simp only [List.mem_cons, List.not_mem_nil, or_false, not_or] at hf
          rw [← hm1, yw_nF hf.2.2.2.2.2, yw_nF hf.2.2.2.2.1, yw_nF hf.2.2.2.1, yw_nF hf.1, yw_nF hf.2.2.1, yw_nF hf.2.1]
        have e166 : m1 166 0 = m 166 0 := by rw [f1 166 (by decide)]
        obtain ⟨m2, eL, l1, l2, l3⟩ : ev (NL_Y_waitStep_177 k (min 60 (to - k - 1)) 0 m1) (fun m' => FY [173] m1 m' ∧ (∀ j, 0 ≤ j → j < min 60 (to - k - 1) → m' 173 (60 * m 166 0 + j) = m1 159 (k + 1 + j)) ∧ ∀ j, ¬ (60 * m 166 0 ≤ j ∧ j < 60 * m 166 0 + min 60 (to - k - 1)) → m' 173 j = m1 173 j) := by
          unfold NL_Y_waitStep_177
          refine y_copy (F := 173) (G := 159) (K := min 60 (to - k - 1)) (a := 60 * m 166 0) (b := k + 1) (by decide) (by omega) (fun t m9 f9 t0 t1 => ?_) (fun m9 f9 => ?_)
          · show nb_Y_waitStep_177 k (min 60 (to - k - 1)) t m9 = _
            unfold nb_Y_waitStep_177 ck ix st
            dsimp only
            rw [f9 166 (by decide), e166, if_pos t1, if_pos (by omega), if_pos (by omega), if_pos (by omega), if_pos (by omega), if_pos (by omega), if_pos (by omega), if_pos (by omega)]
          · show nb_Y_waitStep_177 k (min 60 (to - k - 1)) (min 60 (to - k - 1)) m9 = _
            unfold nb_Y_waitStep_177
            rw [if_neg (by omega)]
        have e1662 : m2 166 0 = m 166 0 := by rw [l1 166 (by decide)]; exact e166
        have eYY : N_Y_waitStep fr to m = some (1, yw m2 166 0 (m 166 0 + 1)) := by
          rw [eY]; unfold nk_Y_waitStep_52 ix ck st
          dsimp only
          rw [if_neg (show ¬ k = fr by omega), if_pos (show k < to by omega), if_pos (show 0 ≤ k ∧ k < 2000 by omega), if_pos h32, if_neg h20]
          have p166 : ∀ (f : Nat) (y : Int), yw m f (m 166 0) y 166 0 = m 166 0 ∨ f = 166 := fun f y => by
            by_cases q : f = 166
            · exact .inr q
            · exact .inl (by rw [yw_nF (Ne.symm q)])
          rw [show yw m 168 (m 166 0) (m 25 0 + val) 166 0 = m 166 0 by rw [yw_nF (by decide)], show yw m 168 (m 166 0) (m 25 0 + val) 167 0 = m 167 0 by rw [yw_nF (by decide)]]
          rw [show yw (yw m 168 (m 166 0) (m 25 0 + val)) 169 (m 166 0) (m 167 0) 167 0 = m 167 0 by rw [yw_nF (by decide), yw_nF (by decide)]]
          rw [show yw (yw (yw m 168 (m 166 0) (m 25 0 + val)) 169 (m 166 0) (m 167 0)) 167 0 (m 167 0 + 1) 166 0 = m 166 0 by rw [yw_nF (by decide), yw_nF (by decide), yw_nF (by decide)], show yw (yw (yw m 168 (m 166 0) (m 25 0 + val)) 169 (m 166 0) (m 167 0)) 167 0 (m 167 0 + 1) 161 0 = m 161 0 by rw [yw_nF (by decide), yw_nF (by decide), yw_nF (by decide)]]
          rw [show yw (yw (yw (yw m 168 (m 166 0) (m 25 0 + val)) 169 (m 166 0) (m 167 0)) 167 0 (m 167 0 + 1)) 170 (m 166 0) (m 161 0) 166 0 = m 166 0 by rw [yw_nF (by decide), yw_nF (by decide), yw_nF (by decide), yw_nF (by decide)], show yw (yw (yw (yw m 168 (m 166 0) (m 25 0 + val)) 169 (m 166 0) (m 167 0)) 167 0 (m 167 0 + 1)) 170 (m 166 0) (m 161 0) 162 0 = m 162 0 by rw [yw_nF (by decide), yw_nF (by decide), yw_nF (by decide), yw_nF (by decide)]]
          rw [show yw (yw (yw (yw (yw m 168 (m 166 0) (m 25 0 + val)) 169 (m 166 0) (m 167 0)) 167 0 (m 167 0 + 1)) 170 (m 166 0) (m 161 0)) 171 (m 166 0) (m 162 0) 166 0 = m 166 0 by rw [yw_nF (by decide), yw_nF (by decide), yw_nF (by decide), yw_nF (by decide), yw_nF (by decide)]]
          rw [hm1, eL]
          simp only [Option.bind_some]
          rw [e1662, if_pos (show inR (to - k) by omega), if_pos (show inR (to - k - 1) by omega), if_pos (show inR (m 25 0 + val) by omega), if_pos hc20, if_pos hc20, if_pos (show inR (m 167 0 + 1) by omega), if_pos hc20, if_pos hc20, if_pos hc20, if_pos (show inR (m 166 0 + 1) by omega)]
        generalize hm3 : yw m2 166 0 (m 166 0 + 1) = m3 at *
        have f3 : ∀ f, f ≠ 166 → m3 f = m2 f := fun f hf => by rw [← hm3]; exact yw_nF hf
        have e1663 : m3 166 0 = m 166 0 + 1 := by rw [← hm3, yw_eq]
        have g3 : ∀ f, f ≠ 166 → f ≠ 173 → m3 f = m1 f := fun f a b => by rw [f3 f a, l1 f (by simp only [List.mem_cons, List.not_mem_nil, or_false]; exact b)]
        have v1 : m1 168 (m 166 0) = m 25 0 + val ∧ m1 169 (m 166 0) = m 167 0 ∧ m1 167 0 = m 167 0 + 1 ∧ m1 170 (m 166 0) = m 161 0 ∧ m1 171 (m 166 0) = m 162 0 ∧ m1 172 (m 166 0) = min 60 (to - k - 1) := by
          rw [← hm1]
          refine ⟨?_, ?_, ?_, ?_, ?_, yw_eq⟩
          · rw [yw_nF (by decide), yw_nF (by decide), yw_nF (by decide), yw_nF (by decide), yw_nF (by decide), yw_eq]
          · rw [yw_nF (by decide), yw_nF (by decide), yw_nF (by decide), yw_nF (by decide), yw_eq]
          · rw [yw_nF (by decide), yw_nF (by decide), yw_nF (by decide), yw_eq]
          · rw [yw_nF (by decide), yw_nF (by decide), yw_eq]
          · rw [yw_nF (by decide), yw_eq]
        have o1 : ∀ i, i ≠ m 166 0 → m1 168 i = m 168 i ∧ m1 169 i = m 169 i ∧ m1 170 i = m 170 i ∧ m1 171 i = m 171 i ∧ m1 172 i = m 172 i := fun i hi => by
          rw [← hm1]
          refine ⟨?_, ?_, ?_, ?_, ?_⟩
          · rw [yw_nF (by decide), yw_nF (by decide), yw_nF (by decide), yw_nF (by decide), yw_nF (by decide), yw_ni hi]
          · rw [yw_nF (by decide), yw_nF (by decide), yw_nF (by decide), yw_nF (by decide), yw_ni hi, yw_nF (by decide)]
          · rw [yw_nF (by decide), yw_nF (by decide), yw_ni hi, yw_nF (by decide), yw_nF (by decide), yw_nF (by decide)]
          · rw [yw_nF (by decide), yw_ni hi, yw_nF (by decide), yw_nF (by decide), yw_nF (by decide), yw_nF (by decide)]
          · rw [yw_ni hi, yw_nF (by decide), yw_nF (by decide), yw_nF (by decide), yw_nF (by decide), yw_nF (by decide)]
        have n44 : ∀ i, na 44 0 i = if i = 2 * m 166 0 + 1 then n 0 0 13 else if i = 2 * m 166 0 then m 25 0 + val else n 44 0 i := fun i => by
          rw [← hna]
          split
          · next y => rw [y, nw_eq]
          · next y =>
            rw [nw_ns y]
            split
            · next y2 => rw [y2, nw_eq]
            · next y2 => rw [nw_ns y2]
        have btr : bt nb r = sg (m3 173) (60 * m 166 0) (m3 172 (m 166 0)).toNat := by
          rw [b3, g3 172 (by decide) (by decide), v1.2.2.2.2.2, sg_tk, show (min 60 (to - k - 1)).toNat = min 60 (to - (k + 1)).toNat by omega]
          refine sg_cg _ _ _ (fun y hy => ?_)
          rw [f3 173 (by decide), l2 y (by omega) (by omega), f1 159 (by decide)]
          exact (hg _ (by omega) (by omega)).1.symm
        have k5 : ∀ K, K ≠ 0 → nw nb 0 0 5 (m 166 0 + 1) K = nb K := fun K hK => nw_nK hK
        refine ⟨1, _, m3, eC, eYY, .inr rfl, ⟨⟨by rw [nw_eq, e1663], by omega, by omega⟩, by rw [k5 45 (by decide), e45]; exact t4, by rw [k5 45 (by decide), e45]; exact t5, fun i i0 i1 => ?_, fun i j i0 ij j1 => ?_, by rw [g3 167 (by decide) (by decide), v1.2.2.1]; omega⟩, b1.cg (k5 4 (by decide)) (by rw [k5 5 (by decide)]; exact ⟨rfl, rfl⟩) (k5 90 (by decide)) (k5 91 (by decide)) (k5 92 (by decide)) (k5 93 (by decide)), ⟨na, nb, fun K c => ka K (fun y => c (by rw [y]; decide)), fb.up (fun b hb => by rw [hb]; exact hrow), fun K c => k5 K (fun y => c (by rw [y]; decide))⟩, fun s hs => by rw [nw_ns hs, e0b], fun f hf => ?_, by rw [g3 167 (by decide) (by decide), v1.2.2.1]; omega, fun i i0 i1 => (if z : i = m 166 0 then .inr (by rw [z, g3 170 (by decide) (by decide), g3 171 (by decide) (by decide)]; exact ⟨v1.2.2.2.1, v1.2.2.2.2.1⟩) else .inl (by rw [e1663] at i1; rw [g3 170 (by decide) (by decide), g3 171 (by decide) (by decide)]; exact ⟨by omega, (o1 i z).2.2.1, (o1 i z).2.2.2.1⟩))⟩
        · rw [e1663] at i1
          rw [k5 44 (by decide), e44, k5 45 (by decide), e45, n44, n44, g3 168 (by decide) (by decide), g3 170 (by decide) (by decide), g3 171 (by decide) (by decide), g3 169 (by decide) (by decide), g3 167 (by decide) (by decide)]
          have hbt : ∀ b, bt (nw nb 0 0 5 (m 166 0 + 1)) b = bt nb b := fun b => by unfold bt; rw [k5 4 (by decide), k5 99 (by decide)]
          rw [hbt]
          by_cases y : i = m 166 0
          · subst y
            rw [if_neg (by omega), if_pos rfl, if_pos rfl, hr, v1.1, v1.2.1, v1.2.2.1, v1.2.2.2.1, v1.2.2.2.2.1]
            refine ⟨rfl, hself, by rw [g3 172 (by decide) (by decide), v1.2.2.2.2.2]; omega, btr, fun c hc => ?_, by omega⟩
            rw [← btr, b3] at hc
            exact sg_mem (P := isTx) _ _ (fun u hu => (hg _ (by omega) (by omega)).2) c (List.mem_of_mem_take hc)
          · have ho := o1 i y
            have ht := t6 i i0 (by omega)
            rw [if_neg (by omega), if_neg (by omega), if_neg (by omega), if_neg (by omega), g3 172 (by decide) (by decide), ho.1, ho.2.1, ho.2.2.1, ho.2.2.2.1, ho.2.2.2.2, v1.2.2.1]
            have hrne : n 45 0 i ≠ r := fun q => y (t5 i (m 166 0) i0 (by omega) t2 hc20.2 (by rw [q, hr]))
            have hri := t4 i i0 (by omega)
            have q1 := (fb.bts hBa (b := n 45 0 i) (by omega) hrne (fun u hu => by omega)).2.2
            have q2 : bt na (n 45 0 i) = bt n (n 45 0 i) := by unfold bt; rw [ka 4 (by decide), ka 99 (by decide)]
            have hsg : sg (m3 173) (60 * i) (m 172 i).toNat = sg (m 173) (60 * i) (m 172 i).toNat := sg_cg _ _ _ (fun u hu => by
              have := ht.2.2.1
              rw [f3 173 (by decide), l3 _ (by omega), f1 173 (by decide)])
            rw [q1, q2, hsg]
            exact ⟨ht.1, ht.2.1, ht.2.2.1, ht.2.2.2.1, ht.2.2.2.2.1, by have := ht.2.2.2.2.2; omega⟩
        · rw [e1663] at j1
          rw [g3 169 (by decide) (by decide), (o1 i (by omega)).2.1]
          by_cases y : j = m 166 0
          · rw [y, v1.2.1]; exact (t6 i i0 (by omega)).2.2.2.2.2
          · rw [(o1 j y).2.1]; exact t7 i j i0 ij (by omega)
        · simp only [List.mem_cons, List.not_mem_nil, or_false, not_or] at hf
          rw [g3 f hf.1 hf.2.2.2.2.2.2.2, f1 f (by simp only [List.mem_cons, List.not_mem_nil, or_false, not_or]; exact ⟨hf.2.1, hf.2.2.1, hf.2.2.2.1, hf.2.2.2.2.1, hf.2.2.2.2.2.1, hf.2.2.2.2.2.2.1⟩)]
    · exact absurd y hgood.2
  · refine same 0 (.inl rfl) ?_ ?_
    · unfold N_Acts_runWait
      rw [eB]
      simp only [Option.bind_some]
      rw [ez]
      simp only [Option.bind_some]
      by_cases u : st = to
      · rw [if_pos u]
      · rw [if_neg u, if_pos (Classical.byContradiction (fun y => hgood ⟨u, y⟩))]
    · rw [eY]; unfold nk_Y_waitStep_52 ix
      by_cases u1 : k = fr
      · rw [if_pos u1]
      · rw [if_neg u1]
        by_cases u2 : k < to
        · rw [if_pos u2, if_pos (by omega)]
          by_cases u3 : m 159 k = 32
          · exfalso
            rw [(hg k k1.1 u2).1] at u3
            have hks : k = st := by
              by_cases u : st < k
              · have := k2 st hst0 u
                rw [(hg st hst0 (by omega)).1, s3 (by omega)] at this
                unfold isDg at this; omega
              · by_cases u4 : k < st
                · exact absurd u3 (s4 k k1.1 u4)
                · omega
            refine hgood ⟨by omega, fun y => ?_⟩
            rcases hz with ⟨_, _, z5, _⟩ | ⟨z1, _⟩
            · omega
            · exact z1 ⟨by omega, by omega, fun j a b => by rw [← (hg j a (by omega)).1]; exact k2 j a (by omega)⟩
          · rw [if_neg u3]
        · rw [if_neg u2]
end M4
