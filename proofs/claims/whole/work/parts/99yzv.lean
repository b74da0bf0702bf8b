/-! THE LAW: to its end -/
section YZV
variable {L : Nat} {xs : Nat → Int32} {Q : Option Value → ab_H → Prop} {g g' : g_S} {n : NS} {m : YS} {k : Int} {i v : Int32} {pc a b c : Nat} {lv : ab_L} {st rest : List Value} {idx : Nat}
theorem and31 (x : Int32) : ∃ c, c < 32 ∧ x &&& 31 = Int32.ofNat c := by
  refine ⟨x.toBitVec.toNat % 32, Nat.mod_lt _ (by decide), ?_⟩
  apply Int32.toBitVec_inj.mp
  apply BitVec.eq_of_toNat_eq
  have e1 : (x &&& 31).toBitVec.toNat = x.toBitVec.toNat &&& 31 := by
    rw [Int32.toBitVec_and, BitVec.toNat_and]; rfl
  have e2 : (Int32.ofNat (x.toBitVec.toNat % 32)).toBitVec.toNat = x.toBitVec.toNat % 32 := by
    show (BitVec.ofNat 32 (x.toBitVec.toNat % 32)).toNat = _
    rw [BitVec.toNat_ofNat]
    exact Nat.mod_eq_of_lt (Nat.lt_of_lt_of_le (Nat.mod_lt _ (by decide)) (by decide))
  rw [e1, e2]
  exact Nat.and_two_pow_sub_one_eq_mod (x.toBitVec.toNat) 5
theorem LWs.up (h : LWs k g) : LWs (k + 1) g := by
  obtain ⟨n, m, h1, h2⟩ := h
  exact ⟨n, m, h1, h2.up⟩
set_option maxRecDepth 20000 in
theorem lw_sw {x : Int32} (hk : k ≤ 64) (hi : LWi L i) (h : LWs k g) (kk : ∀ g', LWs (k + 1) g' → wp (ab_ext L xs) 1000 928 (LV i) [] (hp g') Q) : wp (ab_ext L xs) 1000 33 (LV i) [.int (x &&& 31)] (hp g) Q := by
  obtain ⟨c, hc, e⟩ := and31 x
  rw [e]
  match c, hc with
  | 0, _ => exact wp_b rfl rfl (pc' := 168) (st' := []) rfl (lw_feed hk hi h kk)
  | 1, _ => exact wp_b rfl rfl (pc' := 231) (st' := []) rfl (lw_end hk hi h kk)
  | 2, _ => exact wp_b rfl rfl (pc' := 254) (st' := []) rfl (lw_out hk hi h kk)
  | 3, _ => exact wp_b rfl rfl (pc' := 277) (st' := []) rfl (lw_resolve hk hi h kk)
  | 4, _ => exact wp_b rfl rfl (pc' := 290) (st' := []) rfl (lw_server hk hi h kk)
  | 5, _ => exact wp_b rfl rfl (pc' := 303) (st' := []) rfl (lw_visit hk hi h kk)
  | 6, _ => exact wp_b rfl rfl (pc' := 316) (st' := []) rfl (lw_page hk hi h kk)
  | 7, _ => exact wp_b rfl rfl (pc' := 329) (st' := []) rfl (lw_history hk hi h kk)
  | 8, _ => exact wp_b rfl rfl (pc' := 352) (st' := []) rfl (lw_write hk hi h kk)
  | 9, _ => exact wp_b rfl rfl (pc' := 375) (st' := []) rfl (lw_tick hk hi h kk)
  | 10, _ => exact wp_b rfl rfl (pc' := 398) (st' := []) rfl (lw_node hk hi h kk)
  | 11, _ => exact wp_b rfl rfl (pc' := 431) (st' := []) rfl (lw_kid hk hi h kk)
  | 12, _ => exact wp_b rfl rfl (pc' := 464) (st' := []) rfl (lw_name hk hi h kk)
  | 13, _ => exact wp_b rfl rfl (pc' := 487) (st' := []) rfl (lw_attribute hk hi h kk)
  | 14, _ => exact wp_b rfl rfl (pc' := 510) (st' := []) rfl (lw_serialise hk hi h kk)
  | 15, _ => exact wp_b rfl rfl (pc' := 533) (st' := []) rfl (lw_fault hk hi h kk)
  | 16, _ => exact wp_b rfl rfl (pc' := 566) (st' := []) rfl (lw_select hk hi h kk)
  | 17, _ => exact wp_b rfl rfl (pc' := 579) (st' := []) rfl (lw_found hk hi h kk)
  | 18, _ => exact wp_b rfl rfl (pc' := 602) (st' := []) rfl (lw_style hk hi h kk)
  | 19, _ => exact wp_b rfl rfl (pc' := 635) (st' := []) rfl (lw_screen hk hi h kk)
  | 20, _ => exact wp_b rfl rfl (pc' := 658) (st' := []) rfl (lw_box hk hi h kk)
  | 21, _ => exact wp_b rfl rfl (pc' := 691) (st' := []) rfl (lw_word hk hi h kk)
  | 22, _ => exact wp_b rfl rfl (pc' := 724) (st' := []) rfl (lw_point hk hi h kk)
  | 23, _ => exact wp_b rfl rfl (pc' := 757) (st' := []) rfl (lw_top hk hi h kk)
  | 24, _ => exact wp_b rfl rfl (pc' := 790) (st' := []) rfl (lw_press hk hi h kk)
  | 25, _ => exact wp_b rfl rfl (pc' := 823) (st' := []) rfl (lw_key hk hi h kk)
  | 26, _ => exact wp_b rfl rfl (pc' := 846) (st' := []) rfl (lw_script hk hi h kk)
  | 27, _ => exact wp_b rfl rfl (pc' := 859) (st' := []) rfl (lw_value hk hi h kk)
  | 28, _ => exact wp_b rfl rfl (pc' := 882) (st' := []) rfl (lw_checked hk hi h kk)
  | 29, _ => exact wp_b rfl rfl (pc' := 905) (st' := []) rfl (lw_count hk hi h kk)
  | 30, _ => exact wp_b rfl rfl (pc' := 928) (st' := []) rfl (kk g h.up)
  | 31, _ => exact wp_b rfl rfl (pc' := 928) (st' := []) rfl (kk g h.up)
  | c + 32, hc => exact absurd hc (by omega)
theorem i32_384 : ∀ w, w < 384 → ¬ Int32.ofNat w < 0 ∧ (Int32.ofNat w).toNatClampNeg = w := by decide +kernel
theorem i32_6 : ∀ z, z < 64 → (∀ j, j < 6 → Int32.ofNat (6 * z) + Int32.ofNat j = Int32.ofNat (6 * z + j)) ∧ Int32.ofNat (6 * z) + 6 = Int32.ofNat (6 * (z + 1)) := by decide +kernel
theorem i32_L : ∀ L, L < 385 → ∀ z, z < 65 → ¬ (Int32.ofNat L - 6 < Int32.ofNat (6 * z)) → 6 * z + 6 ≤ L := by decide +kernel
theorem lwi_of {z : Nat} (hL : L ≤ 384) (h : 6 * z + 6 ≤ L) : LWi L (Int32.ofNat (6 * z)) := fun j hj => by
  rw [(i32_6 z (by omega)).1 j hj]
  obtain ⟨a1, a2⟩ := i32_384 (6 * z + j) (by omega)
  unfold ab_inb
  rw [a2, decide_eq_false a1, decide_eq_false (show ¬ L ≤ 6 * z + j by omega)]; rfl
set_option maxRecDepth 20000 in
theorem lw_turn (hL : L ≤ 384) : ∀ (r z : Nat) (g : g_S), z + r = 64 → LWs (z + 1) g → wp (ab_ext L xs) 1000 18 (LV (Int32.ofNat (6 * z))) [] (hp g) (fun r h => r = some (.int 1) ∧ ∃ k g', LWs k g' ∧ k ≤ 65 ∧ h = hp g') := by
  intro r
  induction r with
  | zero =>
    intro z g hz h
    have hg := h.gn.1
    refine wp_p (j := 1000) 2 (pc' := 20) (lv' := LV (Int32.ofNat (6 * z))) (st' := [.ref 2000000, .int (Int32.ofNat (6 * z))]) rfl ?_
    refine lw_ln rfl hg rfl ?_
    refine wp_p (j := 1000) 2 (pc' := 24) (lv' := LV (Int32.ofNat (6 * z))) (st' := [.int (Int32.ofNat L - 6), .int (Int32.ofNat (6 * z))]) rfl ?_
    refine wp_if2 rfl (fun _ => ?_) (fun hc => ?_)
    · refine wp_p (j := 1000) 1 (pc' := 935) (lv' := LV (Int32.ofNat (6 * z))) (st' := [.int 1]) rfl ?_
      exact wp_iret rfl rfl rfl ⟨rfl, z + 1, g, h, by omega, rfl⟩
    · have := i32_L L (by omega) z (by omega) (ab_gtF hc)
      omega
  | succ r ih =>
    intro z g hz h
    have hg := h.gn.1
    refine wp_p (j := 1000) 2 (pc' := 20) (lv' := LV (Int32.ofNat (6 * z))) (st' := [.ref 2000000, .int (Int32.ofNat (6 * z))]) rfl ?_
    refine lw_ln rfl hg rfl ?_
    refine wp_p (j := 1000) 2 (pc' := 24) (lv' := LV (Int32.ofNat (6 * z))) (st' := [.int (Int32.ofNat L - 6), .int (Int32.ofNat (6 * z))]) rfl ?_
    refine wp_if2 rfl (fun _ => ?_) (fun hc => ?_)
    · refine wp_p (j := 1000) 1 (pc' := 935) (lv' := LV (Int32.ofNat (6 * z))) (st' := [.int 1]) rfl ?_
      exact wp_iret rfl rfl rfl ⟨rfl, z + 1, g, h, by omega, rfl⟩
    · have hle := i32_L L (by omega) z (by omega) (ab_gtF hc)
      have hi := lwi_of hL hle
      refine wp_p (j := 1000) 2 (pc' := 29) (lv' := LV (Int32.ofNat (6 * z))) (st' := [.int (Int32.ofNat (6 * z)), .ref 2000000]) rfl ?_
      have h0 := hi 0 (by decide)
      rw [(i32_6 z (by omega)).1 0 (by decide), Nat.add_zero] at h0
      refine lw_ld rfl hg h0 rfl ?_
      refine wp_p (j := 1000) 2 (pc' := 33) (lv' := LV (Int32.ofNat (6 * z))) (st' := [.int (xs (Int32.ofNat (6 * z)).toNatClampNeg &&& 31)]) rfl ?_
      refine lw_sw (by omega) hi h (fun g' h' => ?_)
      refine wp_p (j := 1000) 2 (pc' := 18) (lv' := LV (Int32.ofNat (6 * z) + 6)) (st' := []) rfl ?_
      rw [(i32_6 z (by omega)).2]
      exact ih (z + 1) g' (by omega) (by have := h'; rw [show ((z + 1 : Nat) : Int) + 1 = (z : Int) + 1 + 1 by omega]; exact this)
theorem BI.size {A B : Int} {n : NS} (h : BI A B n) : n 91 0 0 ≤ 1582976 + B := by
  have h1 : capS n ≤ 291488 := by
    rw [← cap_sum]
    exact sumF_le 632 (fun b h0 h1 => (h.1 b h0 (by omega)).2.2.2.2.2)
  have h2 := h.2.2.1.2.2
  have h3 := h.2.2.2.2.1
  unfold capT at h2
  omega
set_option maxRecDepth 20000 in
/-- the law says true, whatever the script -/
theorem ab_lawT (L : Nat) (xs : Nat → Int32) (hL : L ≤ 384) : ab_true L xs := by
  obtain ⟨g2, g4, n, m, e1, e2, e3, hR, hI⟩ := st_both
  have key : wp (ab_ext L xs) 1000 0 [(0, .ref 2000000)] [] (hp g00) (fun r h => r = some (.int 1) ∧ ∃ k g', LWs k g' ∧ k ≤ 65 ∧ h = hp g') := by
    refine x_nO (g := g00) (c := 111) (F := fun v g' => some (v, g')) (out := (0, gnew g00 111 0)) rfl rfl rfl rfl (fun v g' e => ?_)
    have e := Option.some.inj e
    obtain ⟨rfl, rfl⟩ := Prod.mk.inj e
    refine wp_p (j := 1000) 1 (pc' := 4) (lv' := [(0, .ref 2000000)]) (st' := [.ref 0, .ref 0]) rfl ?_
    refine x_ci0 (As := []) (rest := [.ref 0]) (M := M_H_init 0 (gnew g00 111 0)) (F := fun g' => some g') (out := g2) (by rw [e1]; rfl) rfl rfl rfl rfl rfl (fun h => d_H_init h ⟨rfl, rfl⟩) (fun g' e => ?_)
    have e := Option.some.inj e
    subst e
    refine wp_p (j := 1000) 1 (pc' := 8) (lv' := [(1, .ref 0), (0, .ref 2000000)]) (st' := []) rfl ?_
    have eN : nO g' 112 = some (1838, gnew g' 112 0) := by unfold nO; rw [e2, if_pos (by decide)]
    refine x_nO (g := g') (c := 112) (F := fun v g' => some (v, g')) (out := (1838, gnew g' 112 0)) (by rw [eN]; rfl) rfl rfl rfl (fun v g3 e => ?_)
    have e := Option.some.inj e
    obtain ⟨rfl, rfl⟩ := Prod.mk.inj e
    refine wp_p (j := 1000) 1 (pc' := 12) (lv' := [(1, .ref 0), (0, .ref 2000000)]) (st' := [.ref 1838, .ref 1838]) rfl ?_
    refine x_ci0 (As := []) (rest := [.ref 1838]) (M := M_Y_init 1838 (gnew g' 112 0)) (F := fun g' => some g') (out := g4) (by rw [e3]; rfl) rfl rfl rfl rfl rfl (fun h => d_Y_init h ⟨rfl, rfl⟩) (fun g5 e => ?_)
    have e := Option.some.inj e
    subst e
    refine wp_p (j := 1000) 3 (pc' := 18) (lv' := LV (Int32.ofNat (6 * 0))) (st' := []) rfl ?_
    exact lw_turn hL 64 0 g5 rfl ⟨n, m, hR, hI⟩
  obtain ⟨q, r, hE, h1, h2, k, g', ⟨n', m', hR', As, Bs, A, B, G, hC, hb, _⟩, hk, h3⟩ := key
  refine ⟨q, hE, ?_, ?_, ?_⟩
  · rw [h2] at h1; exact h1
  · rw [h3, hp_len]
    have := hC.1.bi.cells
    have := hR'.1.1
    omega
  · rw [h3, ab_sz_hp]
    have := hC.1.bi.size
    have := hR'.1.2
    omega
end YZV
