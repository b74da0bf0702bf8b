/-! THE LAW: its own run -/
section YZU
variable {L : Nat} {xs : Nat → Int32} {Q : Option Value → ab_H → Prop} {g g' : g_S} {n : NS} {m : YS} {k : Int} {i v : Int32} {pc a b c : Nat} {lv : ab_L} {st rest : List Value} {idx : Nat}
theorem lw_ld {i : Int32} (hd : ab_dc 1000 pc = some (.iaload, a, b, c)) (hg : gn g ≤ 1000000) (hi : ab_inb i L = true) (hz : Nat.ble (cs rest) 8 = true) (kk : wp (ab_ext L xs) 1000 (pc + 1) lv (.int (xs i.toNatClampNeg) :: rest) (hp g) Q) : wp (ab_ext L xs) 1000 pc lv (.int i :: .ref 2000000 :: rest) (hp g) Q := by
  refine wp_h hd rfl rfl (st' := .int (xs i.toNatClampNeg) :: rest) (h' := hp g) ?_ (by have := Nat.le_of_ble_eq_true hz; show 1 + cs rest ≤ 9; omega) kk
  show ab_hiald (ab_ext L xs) (.int i :: .ref 2000000 :: rest) (hp g) = _
  have h5 : (hp g)[2000000]? = none := hp_none (by omega)
  simp [ab_hiald, ab_ai, h5, ab_ext, hi]
theorem lw_ln (hd : ab_dc 1000 pc = some (.arraylength, a, b, c)) (hg : gn g ≤ 1000000) (hz : Nat.ble (cs rest) 8 = true) (kk : wp (ab_ext L xs) 1000 (pc + 1) lv (.int (Int32.ofNat L) :: rest) (hp g) Q) : wp (ab_ext L xs) 1000 pc lv (.ref 2000000 :: rest) (hp g) Q := by
  refine wp_h hd rfl rfl (st' := .int (Int32.ofNat L) :: rest) (h' := hp g) ?_ (by have := Nat.le_of_ble_eq_true hz; show 1 + cs rest ≤ 9; omega) kk
  show ab_hlen (ab_ext L xs) (.ref 2000000 :: rest) (hp g) = _
  have h5 : (hp g)[2000000]? = none := hp_none (by omega)
  simp [ab_hlen, h5, ab_ext]
theorem lw_cv {As : List Value} {q : Nat} (hd : ab_dc 1000 pc = some (.invokevirtual idx, a, As.length, c)) (hgt : gt g q = 100 + (ab_mt a).2.2.2.2.2.2) (hc : Nat.ble c 1 = true) (hst : st = As.reverse ++ .ref q :: rest) (h1 : Nat.ble (lg_sl (.ref q :: As)).length (ab_mt a).2.2.1 = true) (h2 : Nat.ble (cs rest) 8 = true) (hm : mw (ab_ext L xs) a (.ref q :: As) (hp g) (fun r h => r = some (.int v) ∧ h = hp g')) (kk : wp (ab_ext L xs) 1000 (pc + 3) lv (.int v :: rest) (hp g') Q) : wp (ab_ext L xs) 1000 pc lv st (hp g) Q := by
  refine wp_cv hd (Nat.le_of_ble_eq_true hc) hst (hp_ob hgt) (Nat.le_of_ble_eq_true h1) (Nat.le_of_ble_eq_true h2) hm (fun r h ⟨hr, hh⟩ => ?_)
  subst hr hh
  exact kk
theorem lw_eq {off : Int} (hd : ab_dc 1000 pc = some (.if_icmp .eq off, a, b, c)) (kk : wp (ab_ext L xs) 1000 a lv rest (hp g) Q) : wp (ab_ext L xs) 1000 pc lv (.int v :: .int v :: rest) (hp g) Q := wp_if2 hd (fun _ => kk) (fun h => absurd rfl (ab_eqF h))
/-- where a call's words lie -/
def LWi (L : Nat) (i : Int32) : Prop := ∀ j, j < 6 → ab_inb (i + Int32.ofNat j) L = true
/-- between calls -/
def LWs (k : Int) (g : g_S) : Prop := ∃ n m, RC True True g n m ∧ INV k n m
def LV (i : Int32) : ab_L := [(3, .int i), (2, .ref 1838), (1, .ref 0), (0, .ref 2000000)]
theorem LWs.gn (h : LWs k g) : gn g ≤ 1000000 ∧ gt g 0 = 111 ∧ gt g 1838 = 112 := by
  obtain ⟨n, m, hR, As, Bs, A, B, G, hC, _⟩ := h
  have h90 := hR.1.1
  have := hC.1.bi.cells
  refine ⟨by omega, ?_, y_gt hR trivial⟩
  exact ((hR.2.2.2.2.1 trivial).1 0 (by decide)).1.trans (by decide)
set_option maxRecDepth 20000 in
theorem lw_feed (hk : k ≤ 64) (hi : LWi L i) (h : LWs k g) (kk : ∀ g', LWs (k + 1) g' → wp (ab_ext L xs) 1000 928 (LV i) [] (hp g') Q) : wp (ab_ext L xs) 1000 168 (LV i) [] (hp g) Q := by
  obtain ⟨hg, h0, h1⟩ := h.gn
  obtain ⟨n, m, hR, hI⟩ := h
  obtain ⟨r, g1, g2, n', m', e1, e2, hR2, hI2, ht, hg1⟩ := b_feed (xs (i + Int32.ofNat 1).toNatClampNeg) (xs (i + Int32.ofNat 2).toNatClampNeg) (xs (i + Int32.ofNat 3).toNatClampNeg) (xs (i + Int32.ofNat 4).toNatClampNeg) (xs (i + Int32.ofNat 5).toNatClampNeg) hR hI hk
  refine wp_p (j := 1000) 5 (pc' := 173) (lv' := LV i) (st' := [.int (i + Int32.ofNat 1), .ref 2000000, .ref 0]) rfl ?_
  refine lw_ld rfl hg (hi 1 (by decide)) rfl ?_
  refine wp_p (j := 1000) 4 (pc' := 178) (lv' := LV i) (st' := [.int (i + Int32.ofNat 2), .ref 2000000, .int (xs (i + Int32.ofNat 1).toNatClampNeg), .ref 0]) rfl ?_
  refine lw_ld rfl hg (hi 2 (by decide)) rfl ?_
  refine wp_p (j := 1000) 4 (pc' := 183) (lv' := LV i) (st' := [.int (i + Int32.ofNat 3), .ref 2000000, .int (xs (i + Int32.ofNat 2).toNatClampNeg), .int (xs (i + Int32.ofNat 1).toNatClampNeg), .ref 0]) rfl ?_
  refine lw_ld rfl hg (hi 3 (by decide)) rfl ?_
  refine wp_p (j := 1000) 4 (pc' := 188) (lv' := LV i) (st' := [.int (i + Int32.ofNat 4), .ref 2000000, .int (xs (i + Int32.ofNat 3).toNatClampNeg), .int (xs (i + Int32.ofNat 2).toNatClampNeg), .int (xs (i + Int32.ofNat 1).toNatClampNeg), .ref 0]) rfl ?_
  refine lw_ld rfl hg (hi 4 (by decide)) rfl ?_
  refine wp_p (j := 1000) 4 (pc' := 193) (lv' := LV i) (st' := [.int (i + Int32.ofNat 5), .ref 2000000, .int (xs (i + Int32.ofNat 4).toNatClampNeg), .int (xs (i + Int32.ofNat 3).toNatClampNeg), .int (xs (i + Int32.ofNat 2).toNatClampNeg), .int (xs (i + Int32.ofNat 1).toNatClampNeg), .ref 0]) rfl ?_
  refine lw_ld rfl hg (hi 5 (by decide)) rfl ?_
  refine lw_cv (As := [.int (xs (i + Int32.ofNat 1).toNatClampNeg), .int (xs (i + Int32.ofNat 2).toNatClampNeg), .int (xs (i + Int32.ofNat 3).toNatClampNeg), .int (xs (i + Int32.ofNat 4).toNatClampNeg), .int (xs (i + Int32.ofNat 5).toNatClampNeg)]) (q := 0) (rest := []) (v := r) (g' := g1) rfl h0 rfl rfl rfl rfl (d_H_feed e1 ⟨rfl, rfl⟩) ?_
  refine wp_p (j := 1000) 5 (pc' := 202) (lv' := LV i) (st' := [.int (i + Int32.ofNat 1), .ref 2000000, .ref 1838, .int r]) rfl ?_
  refine lw_ld rfl hg1 (hi 1 (by decide)) rfl ?_
  refine wp_p (j := 1000) 4 (pc' := 207) (lv' := LV i) (st' := [.int (i + Int32.ofNat 2), .ref 2000000, .int (xs (i + Int32.ofNat 1).toNatClampNeg), .ref 1838, .int r]) rfl ?_
  refine lw_ld rfl hg1 (hi 2 (by decide)) rfl ?_
  refine wp_p (j := 1000) 4 (pc' := 212) (lv' := LV i) (st' := [.int (i + Int32.ofNat 3), .ref 2000000, .int (xs (i + Int32.ofNat 2).toNatClampNeg), .int (xs (i + Int32.ofNat 1).toNatClampNeg), .ref 1838, .int r]) rfl ?_
  refine lw_ld rfl hg1 (hi 3 (by decide)) rfl ?_
  refine wp_p (j := 1000) 4 (pc' := 217) (lv' := LV i) (st' := [.int (i + Int32.ofNat 4), .ref 2000000, .int (xs (i + Int32.ofNat 3).toNatClampNeg), .int (xs (i + Int32.ofNat 2).toNatClampNeg), .int (xs (i + Int32.ofNat 1).toNatClampNeg), .ref 1838, .int r]) rfl ?_
  refine lw_ld rfl hg1 (hi 4 (by decide)) rfl ?_
  refine wp_p (j := 1000) 4 (pc' := 222) (lv' := LV i) (st' := [.int (i + Int32.ofNat 5), .ref 2000000, .int (xs (i + Int32.ofNat 4).toNatClampNeg), .int (xs (i + Int32.ofNat 3).toNatClampNeg), .int (xs (i + Int32.ofNat 2).toNatClampNeg), .int (xs (i + Int32.ofNat 1).toNatClampNeg), .ref 1838, .int r]) rfl ?_
  refine lw_ld rfl hg1 (hi 5 (by decide)) rfl ?_
  refine lw_cv (As := [.int (xs (i + Int32.ofNat 1).toNatClampNeg), .int (xs (i + Int32.ofNat 2).toNatClampNeg), .int (xs (i + Int32.ofNat 3).toNatClampNeg), .int (xs (i + Int32.ofNat 4).toNatClampNeg), .int (xs (i + Int32.ofNat 5).toNatClampNeg)]) (q := 1838) (rest := [.int r]) (v := r) (g' := g2) rfl ht rfl rfl rfl rfl (d_Y_feed e2 ⟨rfl, rfl⟩) ?_
  refine lw_eq rfl ?_
  exact kk g2 ⟨n', m', hR2, hI2⟩
set_option maxRecDepth 20000 in
theorem lw_end (hk : k ≤ 64) (hi : LWi L i) (h : LWs k g) (kk : ∀ g', LWs (k + 1) g' → wp (ab_ext L xs) 1000 928 (LV i) [] (hp g') Q) : wp (ab_ext L xs) 1000 231 (LV i) [] (hp g) Q := by
  obtain ⟨hg, h0, h1⟩ := h.gn
  obtain ⟨n, m, hR, hI⟩ := h
  obtain ⟨r, g1, g2, n', m', e1, e2, hR2, hI2, ht, hg1⟩ := b_end (xs (i + Int32.ofNat 1).toNatClampNeg) hR hI hk
  refine wp_p (j := 1000) 5 (pc' := 236) (lv' := LV i) (st' := [.int (i + Int32.ofNat 1), .ref 2000000, .ref 0]) rfl ?_
  refine lw_ld rfl hg (hi 1 (by decide)) rfl ?_
  refine lw_cv (As := [.int (xs (i + Int32.ofNat 1).toNatClampNeg)]) (q := 0) (rest := []) (v := r) (g' := g1) rfl h0 rfl rfl rfl rfl (d_H_end e1 ⟨rfl, rfl⟩) ?_
  refine wp_p (j := 1000) 5 (pc' := 245) (lv' := LV i) (st' := [.int (i + Int32.ofNat 1), .ref 2000000, .ref 1838, .int r]) rfl ?_
  refine lw_ld rfl hg1 (hi 1 (by decide)) rfl ?_
  refine lw_cv (As := [.int (xs (i + Int32.ofNat 1).toNatClampNeg)]) (q := 1838) (rest := [.int r]) (v := r) (g' := g2) rfl ht rfl rfl rfl rfl (d_Y_end e2 ⟨rfl, rfl⟩) ?_
  refine lw_eq rfl ?_
  exact kk g2 ⟨n', m', hR2, hI2⟩
set_option maxRecDepth 20000 in
theorem lw_out (hk : k ≤ 64) (hi : LWi L i) (h : LWs k g) (kk : ∀ g', LWs (k + 1) g' → wp (ab_ext L xs) 1000 928 (LV i) [] (hp g') Q) : wp (ab_ext L xs) 1000 254 (LV i) [] (hp g) Q := by
  obtain ⟨hg, h0, h1⟩ := h.gn
  obtain ⟨n, m, hR, hI⟩ := h
  obtain ⟨r, e1, e2⟩ := b_out (xs (i + Int32.ofNat 1).toNatClampNeg) hR hI hk
  refine wp_p (j := 1000) 5 (pc' := 259) (lv' := LV i) (st' := [.int (i + Int32.ofNat 1), .ref 2000000, .ref 0]) rfl ?_
  refine lw_ld rfl hg (hi 1 (by decide)) rfl ?_
  refine lw_cv (As := [.int (xs (i + Int32.ofNat 1).toNatClampNeg)]) (q := 0) (rest := []) (v := r) (g' := g) rfl h0 rfl rfl rfl rfl (d_H_out e1 ⟨rfl, rfl⟩) ?_
  refine wp_p (j := 1000) 5 (pc' := 268) (lv' := LV i) (st' := [.int (i + Int32.ofNat 1), .ref 2000000, .ref 1838, .int r]) rfl ?_
  refine lw_ld rfl hg (hi 1 (by decide)) rfl ?_
  refine lw_cv (As := [.int (xs (i + Int32.ofNat 1).toNatClampNeg)]) (q := 1838) (rest := [.int r]) (v := r) (g' := g) rfl h1 rfl rfl rfl rfl (d_Y_out e2 ⟨rfl, rfl⟩) ?_
  refine lw_eq rfl ?_
  exact kk g ⟨n, m, hR, hI.up⟩
set_option maxRecDepth 20000 in
theorem lw_resolve (hk : k ≤ 64) (hi : LWi L i) (h : LWs k g) (kk : ∀ g', LWs (k + 1) g' → wp (ab_ext L xs) 1000 928 (LV i) [] (hp g') Q) : wp (ab_ext L xs) 1000 277 (LV i) [] (hp g) Q := by
  obtain ⟨hg, h0, h1⟩ := h.gn
  obtain ⟨n, m, hR, hI⟩ := h
  obtain ⟨r, g1, g2, n', m', e1, e2, hR2, hI2, ht, hg1⟩ := b_resolve hR hI hk
  refine wp_p (j := 1000) 1 (pc' := 278) (lv' := LV i) (st' := [.ref 0]) rfl ?_
  refine lw_cv (As := []) (q := 0) (rest := []) (v := r) (g' := g1) rfl h0 rfl rfl rfl rfl (d_H_resolve e1 ⟨rfl, rfl⟩) ?_
  refine wp_p (j := 1000) 1 (pc' := 282) (lv' := LV i) (st' := [.ref 1838, .int r]) rfl ?_
  refine lw_cv (As := []) (q := 1838) (rest := [.int r]) (v := r) (g' := g2) rfl ht rfl rfl rfl rfl (d_Y_resolve e2 ⟨rfl, rfl⟩) ?_
  refine lw_eq rfl ?_
  exact kk g2 ⟨n', m', hR2, hI2⟩
set_option maxRecDepth 20000 in
theorem lw_server (hk : k ≤ 64) (hi : LWi L i) (h : LWs k g) (kk : ∀ g', LWs (k + 1) g' → wp (ab_ext L xs) 1000 928 (LV i) [] (hp g') Q) : wp (ab_ext L xs) 1000 290 (LV i) [] (hp g) Q := by
  obtain ⟨hg, h0, h1⟩ := h.gn
  obtain ⟨n, m, hR, hI⟩ := h
  obtain ⟨r, g1, g2, n', m', e1, e2, hR2, hI2, ht, hg1⟩ := b_server hR hI hk
  refine wp_p (j := 1000) 1 (pc' := 291) (lv' := LV i) (st' := [.ref 0]) rfl ?_
  refine lw_cv (As := []) (q := 0) (rest := []) (v := r) (g' := g1) rfl h0 rfl rfl rfl rfl (d_H_server e1 ⟨rfl, rfl⟩) ?_
  refine wp_p (j := 1000) 1 (pc' := 295) (lv' := LV i) (st' := [.ref 1838, .int r]) rfl ?_
  refine lw_cv (As := []) (q := 1838) (rest := [.int r]) (v := r) (g' := g2) rfl ht rfl rfl rfl rfl (d_Y_server e2 ⟨rfl, rfl⟩) ?_
  refine lw_eq rfl ?_
  exact kk g2 ⟨n', m', hR2, hI2⟩
set_option maxRecDepth 20000 in
theorem lw_visit (hk : k ≤ 64) (hi : LWi L i) (h : LWs k g) (kk : ∀ g', LWs (k + 1) g' → wp (ab_ext L xs) 1000 928 (LV i) [] (hp g') Q) : wp (ab_ext L xs) 1000 303 (LV i) [] (hp g) Q := by
  obtain ⟨hg, h0, h1⟩ := h.gn
  obtain ⟨n, m, hR, hI⟩ := h
  obtain ⟨r, g1, g2, n', m', e1, e2, hR2, hI2, ht, hg1⟩ := b_visit hR hI hk
  refine wp_p (j := 1000) 1 (pc' := 304) (lv' := LV i) (st' := [.ref 0]) rfl ?_
  refine lw_cv (As := []) (q := 0) (rest := []) (v := r) (g' := g1) rfl h0 rfl rfl rfl rfl (d_H_visit e1 ⟨rfl, rfl⟩) ?_
  refine wp_p (j := 1000) 1 (pc' := 308) (lv' := LV i) (st' := [.ref 1838, .int r]) rfl ?_
  refine lw_cv (As := []) (q := 1838) (rest := [.int r]) (v := r) (g' := g2) rfl ht rfl rfl rfl rfl (d_Y_visit e2 ⟨rfl, rfl⟩) ?_
  refine lw_eq rfl ?_
  exact kk g2 ⟨n', m', hR2, hI2⟩
set_option maxRecDepth 20000 in
theorem lw_page (hk : k ≤ 64) (hi : LWi L i) (h : LWs k g) (kk : ∀ g', LWs (k + 1) g' → wp (ab_ext L xs) 1000 928 (LV i) [] (hp g') Q) : wp (ab_ext L xs) 1000 316 (LV i) [] (hp g) Q := by
  obtain ⟨hg, h0, h1⟩ := h.gn
  obtain ⟨n, m, hR, hI⟩ := h
  obtain ⟨r, g1, g2, n', m', e1, e2, hR2, hI2, ht, hg1⟩ := b_page hR hI hk
  refine wp_p (j := 1000) 1 (pc' := 317) (lv' := LV i) (st' := [.ref 0]) rfl ?_
  refine lw_cv (As := []) (q := 0) (rest := []) (v := r) (g' := g1) rfl h0 rfl rfl rfl rfl (d_H_page e1 ⟨rfl, rfl⟩) ?_
  refine wp_p (j := 1000) 1 (pc' := 321) (lv' := LV i) (st' := [.ref 1838, .int r]) rfl ?_
  refine lw_cv (As := []) (q := 1838) (rest := [.int r]) (v := r) (g' := g2) rfl ht rfl rfl rfl rfl (d_Y_page e2 ⟨rfl, rfl⟩) ?_
  refine lw_eq rfl ?_
  exact kk g2 ⟨n', m', hR2, hI2⟩
set_option maxRecDepth 20000 in
theorem lw_history (hk : k ≤ 64) (hi : LWi L i) (h : LWs k g) (kk : ∀ g', LWs (k + 1) g' → wp (ab_ext L xs) 1000 928 (LV i) [] (hp g') Q) : wp (ab_ext L xs) 1000 329 (LV i) [] (hp g) Q := by
  obtain ⟨hg, h0, h1⟩ := h.gn
  obtain ⟨n, m, hR, hI⟩ := h
  obtain ⟨r, g1, g2, n', m', e1, e2, hR2, hI2, ht, hg1⟩ := b_history (xs (i + Int32.ofNat 1).toNatClampNeg) hR hI hk
  refine wp_p (j := 1000) 5 (pc' := 334) (lv' := LV i) (st' := [.int (i + Int32.ofNat 1), .ref 2000000, .ref 0]) rfl ?_
  refine lw_ld rfl hg (hi 1 (by decide)) rfl ?_
  refine lw_cv (As := [.int (xs (i + Int32.ofNat 1).toNatClampNeg)]) (q := 0) (rest := []) (v := r) (g' := g1) rfl h0 rfl rfl rfl rfl (d_H_history e1 ⟨rfl, rfl⟩) ?_
  refine wp_p (j := 1000) 5 (pc' := 343) (lv' := LV i) (st' := [.int (i + Int32.ofNat 1), .ref 2000000, .ref 1838, .int r]) rfl ?_
  refine lw_ld rfl hg1 (hi 1 (by decide)) rfl ?_
  refine lw_cv (As := [.int (xs (i + Int32.ofNat 1).toNatClampNeg)]) (q := 1838) (rest := [.int r]) (v := r) (g' := g2) rfl ht rfl rfl rfl rfl (d_Y_history e2 ⟨rfl, rfl⟩) ?_
  refine lw_eq rfl ?_
  exact kk g2 ⟨n', m', hR2, hI2⟩
set_option maxRecDepth 20000 in
theorem lw_write (hk : k ≤ 64) (hi : LWi L i) (h : LWs k g) (kk : ∀ g', LWs (k + 1) g' → wp (ab_ext L xs) 1000 928 (LV i) [] (hp g') Q) : wp (ab_ext L xs) 1000 352 (LV i) [] (hp g) Q := by
  obtain ⟨hg, h0, h1⟩ := h.gn
  obtain ⟨n, m, hR, hI⟩ := h
  obtain ⟨r, g1, g2, n', m', e1, e2, hR2, hI2, ht, hg1⟩ := b_write (xs (i + Int32.ofNat 1).toNatClampNeg) hR hI hk
  refine wp_p (j := 1000) 5 (pc' := 357) (lv' := LV i) (st' := [.int (i + Int32.ofNat 1), .ref 2000000, .ref 0]) rfl ?_
  refine lw_ld rfl hg (hi 1 (by decide)) rfl ?_
  refine lw_cv (As := [.int (xs (i + Int32.ofNat 1).toNatClampNeg)]) (q := 0) (rest := []) (v := r) (g' := g1) rfl h0 rfl rfl rfl rfl (d_H_write e1 ⟨rfl, rfl⟩) ?_
  refine wp_p (j := 1000) 5 (pc' := 366) (lv' := LV i) (st' := [.int (i + Int32.ofNat 1), .ref 2000000, .ref 1838, .int r]) rfl ?_
  refine lw_ld rfl hg1 (hi 1 (by decide)) rfl ?_
  refine lw_cv (As := [.int (xs (i + Int32.ofNat 1).toNatClampNeg)]) (q := 1838) (rest := [.int r]) (v := r) (g' := g2) rfl ht rfl rfl rfl rfl (d_Y_write e2 ⟨rfl, rfl⟩) ?_
  refine lw_eq rfl ?_
  exact kk g2 ⟨n', m', hR2, hI2⟩
set_option maxRecDepth 20000 in
theorem lw_tick (hk : k ≤ 64) (hi : LWi L i) (h : LWs k g) (kk : ∀ g', LWs (k + 1) g' → wp (ab_ext L xs) 1000 928 (LV i) [] (hp g') Q) : wp (ab_ext L xs) 1000 375 (LV i) [] (hp g) Q := by
  obtain ⟨hg, h0, h1⟩ := h.gn
  obtain ⟨n, m, hR, hI⟩ := h
  obtain ⟨r, g1, g2, n', m', e1, e2, hR2, hI2, ht, hg1⟩ := b_tick (xs (i + Int32.ofNat 1).toNatClampNeg) hR hI hk
  refine wp_p (j := 1000) 5 (pc' := 380) (lv' := LV i) (st' := [.int (i + Int32.ofNat 1), .ref 2000000, .ref 0]) rfl ?_
  refine lw_ld rfl hg (hi 1 (by decide)) rfl ?_
  refine lw_cv (As := [.int (xs (i + Int32.ofNat 1).toNatClampNeg)]) (q := 0) (rest := []) (v := r) (g' := g1) rfl h0 rfl rfl rfl rfl (d_H_tick e1 ⟨rfl, rfl⟩) ?_
  refine wp_p (j := 1000) 5 (pc' := 389) (lv' := LV i) (st' := [.int (i + Int32.ofNat 1), .ref 2000000, .ref 1838, .int r]) rfl ?_
  refine lw_ld rfl hg1 (hi 1 (by decide)) rfl ?_
  refine lw_cv (As := [.int (xs (i + Int32.ofNat 1).toNatClampNeg)]) (q := 1838) (rest := [.int r]) (v := r) (g' := g2) rfl ht rfl rfl rfl rfl (d_Y_tick e2 ⟨rfl, rfl⟩) ?_
  refine lw_eq rfl ?_
  exact kk g2 ⟨n', m', hR2, hI2⟩
set_option maxRecDepth 20000 in
theorem lw_node (hk : k ≤ 64) (hi : LWi L i) (h : LWs k g) (kk : ∀ g', LWs (k + 1) g' → wp (ab_ext L xs) 1000 928 (LV i) [] (hp g') Q) : wp (ab_ext L xs) 1000 398 (LV i) [] (hp g) Q := by
  obtain ⟨hg, h0, h1⟩ := h.gn
  obtain ⟨n, m, hR, hI⟩ := h
  obtain ⟨r, e1, e2⟩ := b_node (xs (i + Int32.ofNat 1).toNatClampNeg) (xs (i + Int32.ofNat 2).toNatClampNeg) hR hI hk
  refine wp_p (j := 1000) 5 (pc' := 403) (lv' := LV i) (st' := [.int (i + Int32.ofNat 1), .ref 2000000, .ref 0]) rfl ?_
  refine lw_ld rfl hg (hi 1 (by decide)) rfl ?_
  refine wp_p (j := 1000) 4 (pc' := 408) (lv' := LV i) (st' := [.int (i + Int32.ofNat 2), .ref 2000000, .int (xs (i + Int32.ofNat 1).toNatClampNeg), .ref 0]) rfl ?_
  refine lw_ld rfl hg (hi 2 (by decide)) rfl ?_
  refine lw_cv (As := [.int (xs (i + Int32.ofNat 1).toNatClampNeg), .int (xs (i + Int32.ofNat 2).toNatClampNeg)]) (q := 0) (rest := []) (v := r) (g' := g) rfl h0 rfl rfl rfl rfl (d_H_node e1 ⟨rfl, rfl⟩) ?_
  refine wp_p (j := 1000) 5 (pc' := 417) (lv' := LV i) (st' := [.int (i + Int32.ofNat 1), .ref 2000000, .ref 1838, .int r]) rfl ?_
  refine lw_ld rfl hg (hi 1 (by decide)) rfl ?_
  refine wp_p (j := 1000) 4 (pc' := 422) (lv' := LV i) (st' := [.int (i + Int32.ofNat 2), .ref 2000000, .int (xs (i + Int32.ofNat 1).toNatClampNeg), .ref 1838, .int r]) rfl ?_
  refine lw_ld rfl hg (hi 2 (by decide)) rfl ?_
  refine lw_cv (As := [.int (xs (i + Int32.ofNat 1).toNatClampNeg), .int (xs (i + Int32.ofNat 2).toNatClampNeg)]) (q := 1838) (rest := [.int r]) (v := r) (g' := g) rfl h1 rfl rfl rfl rfl (d_Y_node e2 ⟨rfl, rfl⟩) ?_
  refine lw_eq rfl ?_
  exact kk g ⟨n, m, hR, hI.up⟩
set_option maxRecDepth 20000 in
theorem lw_kid (hk : k ≤ 64) (hi : LWi L i) (h : LWs k g) (kk : ∀ g', LWs (k + 1) g' → wp (ab_ext L xs) 1000 928 (LV i) [] (hp g') Q) : wp (ab_ext L xs) 1000 431 (LV i) [] (hp g) Q := by
  obtain ⟨hg, h0, h1⟩ := h.gn
  obtain ⟨n, m, hR, hI⟩ := h
  obtain ⟨r, e1, e2⟩ := b_kid (xs (i + Int32.ofNat 1).toNatClampNeg) (xs (i + Int32.ofNat 2).toNatClampNeg) hR hI hk
  refine wp_p (j := 1000) 5 (pc' := 436) (lv' := LV i) (st' := [.int (i + Int32.ofNat 1), .ref 2000000, .ref 0]) rfl ?_
  refine lw_ld rfl hg (hi 1 (by decide)) rfl ?_
  refine wp_p (j := 1000) 4 (pc' := 441) (lv' := LV i) (st' := [.int (i + Int32.ofNat 2), .ref 2000000, .int (xs (i + Int32.ofNat 1).toNatClampNeg), .ref 0]) rfl ?_
  refine lw_ld rfl hg (hi 2 (by decide)) rfl ?_
  refine lw_cv (As := [.int (xs (i + Int32.ofNat 1).toNatClampNeg), .int (xs (i + Int32.ofNat 2).toNatClampNeg)]) (q := 0) (rest := []) (v := r) (g' := g) rfl h0 rfl rfl rfl rfl (d_H_kid e1 ⟨rfl, rfl⟩) ?_
  refine wp_p (j := 1000) 5 (pc' := 450) (lv' := LV i) (st' := [.int (i + Int32.ofNat 1), .ref 2000000, .ref 1838, .int r]) rfl ?_
  refine lw_ld rfl hg (hi 1 (by decide)) rfl ?_
  refine wp_p (j := 1000) 4 (pc' := 455) (lv' := LV i) (st' := [.int (i + Int32.ofNat 2), .ref 2000000, .int (xs (i + Int32.ofNat 1).toNatClampNeg), .ref 1838, .int r]) rfl ?_
  refine lw_ld rfl hg (hi 2 (by decide)) rfl ?_
  refine lw_cv (As := [.int (xs (i + Int32.ofNat 1).toNatClampNeg), .int (xs (i + Int32.ofNat 2).toNatClampNeg)]) (q := 1838) (rest := [.int r]) (v := r) (g' := g) rfl h1 rfl rfl rfl rfl (d_Y_kid e2 ⟨rfl, rfl⟩) ?_
  refine lw_eq rfl ?_
  exact kk g ⟨n, m, hR, hI.up⟩
set_option maxRecDepth 20000 in
theorem lw_name (hk : k ≤ 64) (hi : LWi L i) (h : LWs k g) (kk : ∀ g', LWs (k + 1) g' → wp (ab_ext L xs) 1000 928 (LV i) [] (hp g') Q) : wp (ab_ext L xs) 1000 464 (LV i) [] (hp g) Q := by
  obtain ⟨hg, h0, h1⟩ := h.gn
  obtain ⟨n, m, hR, hI⟩ := h
  obtain ⟨r, g1, g2, n', m', e1, e2, hR2, hI2, ht, hg1⟩ := b_name (xs (i + Int32.ofNat 1).toNatClampNeg) hR hI hk
  refine wp_p (j := 1000) 5 (pc' := 469) (lv' := LV i) (st' := [.int (i + Int32.ofNat 1), .ref 2000000, .ref 0]) rfl ?_
  refine lw_ld rfl hg (hi 1 (by decide)) rfl ?_
  refine lw_cv (As := [.int (xs (i + Int32.ofNat 1).toNatClampNeg)]) (q := 0) (rest := []) (v := r) (g' := g1) rfl h0 rfl rfl rfl rfl (d_H_name e1 ⟨rfl, rfl⟩) ?_
  refine wp_p (j := 1000) 5 (pc' := 478) (lv' := LV i) (st' := [.int (i + Int32.ofNat 1), .ref 2000000, .ref 1838, .int r]) rfl ?_
  refine lw_ld rfl hg1 (hi 1 (by decide)) rfl ?_
  refine lw_cv (As := [.int (xs (i + Int32.ofNat 1).toNatClampNeg)]) (q := 1838) (rest := [.int r]) (v := r) (g' := g2) rfl ht rfl rfl rfl rfl (d_Y_name e2 ⟨rfl, rfl⟩) ?_
  refine lw_eq rfl ?_
  exact kk g2 ⟨n', m', hR2, hI2⟩
set_option maxRecDepth 20000 in
theorem lw_attribute (hk : k ≤ 64) (hi : LWi L i) (h : LWs k g) (kk : ∀ g', LWs (k + 1) g' → wp (ab_ext L xs) 1000 928 (LV i) [] (hp g') Q) : wp (ab_ext L xs) 1000 487 (LV i) [] (hp g) Q := by
  obtain ⟨hg, h0, h1⟩ := h.gn
  obtain ⟨n, m, hR, hI⟩ := h
  obtain ⟨r, g1, g2, n', m', e1, e2, hR2, hI2, ht, hg1⟩ := b_attribute (xs (i + Int32.ofNat 1).toNatClampNeg) hR hI hk
  refine wp_p (j := 1000) 5 (pc' := 492) (lv' := LV i) (st' := [.int (i + Int32.ofNat 1), .ref 2000000, .ref 0]) rfl ?_
  refine lw_ld rfl hg (hi 1 (by decide)) rfl ?_
  refine lw_cv (As := [.int (xs (i + Int32.ofNat 1).toNatClampNeg)]) (q := 0) (rest := []) (v := r) (g' := g1) rfl h0 rfl rfl rfl rfl (d_H_attribute e1 ⟨rfl, rfl⟩) ?_
  refine wp_p (j := 1000) 5 (pc' := 501) (lv' := LV i) (st' := [.int (i + Int32.ofNat 1), .ref 2000000, .ref 1838, .int r]) rfl ?_
  refine lw_ld rfl hg1 (hi 1 (by decide)) rfl ?_
  refine lw_cv (As := [.int (xs (i + Int32.ofNat 1).toNatClampNeg)]) (q := 1838) (rest := [.int r]) (v := r) (g' := g2) rfl ht rfl rfl rfl rfl (d_Y_attribute e2 ⟨rfl, rfl⟩) ?_
  refine lw_eq rfl ?_
  exact kk g2 ⟨n', m', hR2, hI2⟩
set_option maxRecDepth 20000 in
theorem lw_serialise (hk : k ≤ 64) (hi : LWi L i) (h : LWs k g) (kk : ∀ g', LWs (k + 1) g' → wp (ab_ext L xs) 1000 928 (LV i) [] (hp g') Q) : wp (ab_ext L xs) 1000 510 (LV i) [] (hp g) Q := by
  obtain ⟨hg, h0, h1⟩ := h.gn
  obtain ⟨n, m, hR, hI⟩ := h
  obtain ⟨r, g1, g2, n', m', e1, e2, hR2, hI2, ht, hg1⟩ := b_serialise (xs (i + Int32.ofNat 1).toNatClampNeg) hR hI hk
  refine wp_p (j := 1000) 5 (pc' := 515) (lv' := LV i) (st' := [.int (i + Int32.ofNat 1), .ref 2000000, .ref 0]) rfl ?_
  refine lw_ld rfl hg (hi 1 (by decide)) rfl ?_
  refine lw_cv (As := [.int (xs (i + Int32.ofNat 1).toNatClampNeg)]) (q := 0) (rest := []) (v := r) (g' := g1) rfl h0 rfl rfl rfl rfl (d_H_serialise e1 ⟨rfl, rfl⟩) ?_
  refine wp_p (j := 1000) 5 (pc' := 524) (lv' := LV i) (st' := [.int (i + Int32.ofNat 1), .ref 2000000, .ref 1838, .int r]) rfl ?_
  refine lw_ld rfl hg1 (hi 1 (by decide)) rfl ?_
  refine lw_cv (As := [.int (xs (i + Int32.ofNat 1).toNatClampNeg)]) (q := 1838) (rest := [.int r]) (v := r) (g' := g2) rfl ht rfl rfl rfl rfl (d_Y_serialise e2 ⟨rfl, rfl⟩) ?_
  refine lw_eq rfl ?_
  exact kk g2 ⟨n', m', hR2, hI2⟩
set_option maxRecDepth 20000 in
theorem lw_fault (hk : k ≤ 64) (hi : LWi L i) (h : LWs k g) (kk : ∀ g', LWs (k + 1) g' → wp (ab_ext L xs) 1000 928 (LV i) [] (hp g') Q) : wp (ab_ext L xs) 1000 533 (LV i) [] (hp g) Q := by
  obtain ⟨hg, h0, h1⟩ := h.gn
  obtain ⟨n, m, hR, hI⟩ := h
  obtain ⟨r, e1, e2⟩ := b_fault (xs (i + Int32.ofNat 1).toNatClampNeg) (xs (i + Int32.ofNat 2).toNatClampNeg) hR hI hk
  refine wp_p (j := 1000) 5 (pc' := 538) (lv' := LV i) (st' := [.int (i + Int32.ofNat 1), .ref 2000000, .ref 0]) rfl ?_
  refine lw_ld rfl hg (hi 1 (by decide)) rfl ?_
  refine wp_p (j := 1000) 4 (pc' := 543) (lv' := LV i) (st' := [.int (i + Int32.ofNat 2), .ref 2000000, .int (xs (i + Int32.ofNat 1).toNatClampNeg), .ref 0]) rfl ?_
  refine lw_ld rfl hg (hi 2 (by decide)) rfl ?_
  refine lw_cv (As := [.int (xs (i + Int32.ofNat 1).toNatClampNeg), .int (xs (i + Int32.ofNat 2).toNatClampNeg)]) (q := 0) (rest := []) (v := r) (g' := g) rfl h0 rfl rfl rfl rfl (d_H_fault e1 ⟨rfl, rfl⟩) ?_
  refine wp_p (j := 1000) 5 (pc' := 552) (lv' := LV i) (st' := [.int (i + Int32.ofNat 1), .ref 2000000, .ref 1838, .int r]) rfl ?_
  refine lw_ld rfl hg (hi 1 (by decide)) rfl ?_
  refine wp_p (j := 1000) 4 (pc' := 557) (lv' := LV i) (st' := [.int (i + Int32.ofNat 2), .ref 2000000, .int (xs (i + Int32.ofNat 1).toNatClampNeg), .ref 1838, .int r]) rfl ?_
  refine lw_ld rfl hg (hi 2 (by decide)) rfl ?_
  refine lw_cv (As := [.int (xs (i + Int32.ofNat 1).toNatClampNeg), .int (xs (i + Int32.ofNat 2).toNatClampNeg)]) (q := 1838) (rest := [.int r]) (v := r) (g' := g) rfl h1 rfl rfl rfl rfl (d_Y_fault e2 ⟨rfl, rfl⟩) ?_
  refine lw_eq rfl ?_
  exact kk g ⟨n, m, hR, hI.up⟩
set_option maxRecDepth 20000 in
theorem lw_select (hk : k ≤ 64) (hi : LWi L i) (h : LWs k g) (kk : ∀ g', LWs (k + 1) g' → wp (ab_ext L xs) 1000 928 (LV i) [] (hp g') Q) : wp (ab_ext L xs) 1000 566 (LV i) [] (hp g) Q := by
  obtain ⟨hg, h0, h1⟩ := h.gn
  obtain ⟨n, m, hR, hI⟩ := h
  obtain ⟨r, g1, g2, n', m', e1, e2, hR2, hI2, ht, hg1⟩ := b_select hR hI hk
  refine wp_p (j := 1000) 1 (pc' := 567) (lv' := LV i) (st' := [.ref 0]) rfl ?_
  refine lw_cv (As := []) (q := 0) (rest := []) (v := r) (g' := g1) rfl h0 rfl rfl rfl rfl (d_H_select e1 ⟨rfl, rfl⟩) ?_
  refine wp_p (j := 1000) 1 (pc' := 571) (lv' := LV i) (st' := [.ref 1838, .int r]) rfl ?_
  refine lw_cv (As := []) (q := 1838) (rest := [.int r]) (v := r) (g' := g2) rfl ht rfl rfl rfl rfl (d_Y_select e2 ⟨rfl, rfl⟩) ?_
  refine lw_eq rfl ?_
  exact kk g2 ⟨n', m', hR2, hI2⟩
set_option maxRecDepth 20000 in
theorem lw_found (hk : k ≤ 64) (hi : LWi L i) (h : LWs k g) (kk : ∀ g', LWs (k + 1) g' → wp (ab_ext L xs) 1000 928 (LV i) [] (hp g') Q) : wp (ab_ext L xs) 1000 579 (LV i) [] (hp g) Q := by
  obtain ⟨hg, h0, h1⟩ := h.gn
  obtain ⟨n, m, hR, hI⟩ := h
  obtain ⟨r, e1, e2⟩ := b_found (xs (i + Int32.ofNat 1).toNatClampNeg) hR hI hk
  refine wp_p (j := 1000) 5 (pc' := 584) (lv' := LV i) (st' := [.int (i + Int32.ofNat 1), .ref 2000000, .ref 0]) rfl ?_
  refine lw_ld rfl hg (hi 1 (by decide)) rfl ?_
  refine lw_cv (As := [.int (xs (i + Int32.ofNat 1).toNatClampNeg)]) (q := 0) (rest := []) (v := r) (g' := g) rfl h0 rfl rfl rfl rfl (d_H_found e1 ⟨rfl, rfl⟩) ?_
  refine wp_p (j := 1000) 5 (pc' := 593) (lv' := LV i) (st' := [.int (i + Int32.ofNat 1), .ref 2000000, .ref 1838, .int r]) rfl ?_
  refine lw_ld rfl hg (hi 1 (by decide)) rfl ?_
  refine lw_cv (As := [.int (xs (i + Int32.ofNat 1).toNatClampNeg)]) (q := 1838) (rest := [.int r]) (v := r) (g' := g) rfl h1 rfl rfl rfl rfl (d_Y_found e2 ⟨rfl, rfl⟩) ?_
  refine lw_eq rfl ?_
  exact kk g ⟨n, m, hR, hI.up⟩
set_option maxRecDepth 20000 in
theorem lw_style (hk : k ≤ 64) (hi : LWi L i) (h : LWs k g) (kk : ∀ g', LWs (k + 1) g' → wp (ab_ext L xs) 1000 928 (LV i) [] (hp g') Q) : wp (ab_ext L xs) 1000 602 (LV i) [] (hp g) Q := by
  obtain ⟨hg, h0, h1⟩ := h.gn
  obtain ⟨n, m, hR, hI⟩ := h
  obtain ⟨r, g1, g2, n', m', e1, e2, hR2, hI2, ht, hg1⟩ := b_style (xs (i + Int32.ofNat 1).toNatClampNeg) (xs (i + Int32.ofNat 2).toNatClampNeg) hR hI hk
  refine wp_p (j := 1000) 5 (pc' := 607) (lv' := LV i) (st' := [.int (i + Int32.ofNat 1), .ref 2000000, .ref 0]) rfl ?_
  refine lw_ld rfl hg (hi 1 (by decide)) rfl ?_
  refine wp_p (j := 1000) 4 (pc' := 612) (lv' := LV i) (st' := [.int (i + Int32.ofNat 2), .ref 2000000, .int (xs (i + Int32.ofNat 1).toNatClampNeg), .ref 0]) rfl ?_
  refine lw_ld rfl hg (hi 2 (by decide)) rfl ?_
  refine lw_cv (As := [.int (xs (i + Int32.ofNat 1).toNatClampNeg), .int (xs (i + Int32.ofNat 2).toNatClampNeg)]) (q := 0) (rest := []) (v := r) (g' := g1) rfl h0 rfl rfl rfl rfl (d_H_style e1 ⟨rfl, rfl⟩) ?_
  refine wp_p (j := 1000) 5 (pc' := 621) (lv' := LV i) (st' := [.int (i + Int32.ofNat 1), .ref 2000000, .ref 1838, .int r]) rfl ?_
  refine lw_ld rfl hg1 (hi 1 (by decide)) rfl ?_
  refine wp_p (j := 1000) 4 (pc' := 626) (lv' := LV i) (st' := [.int (i + Int32.ofNat 2), .ref 2000000, .int (xs (i + Int32.ofNat 1).toNatClampNeg), .ref 1838, .int r]) rfl ?_
  refine lw_ld rfl hg1 (hi 2 (by decide)) rfl ?_
  refine lw_cv (As := [.int (xs (i + Int32.ofNat 1).toNatClampNeg), .int (xs (i + Int32.ofNat 2).toNatClampNeg)]) (q := 1838) (rest := [.int r]) (v := r) (g' := g2) rfl ht rfl rfl rfl rfl (d_Y_style e2 ⟨rfl, rfl⟩) ?_
  refine lw_eq rfl ?_
  exact kk g2 ⟨n', m', hR2, hI2⟩
set_option maxRecDepth 20000 in
theorem lw_screen (hk : k ≤ 64) (hi : LWi L i) (h : LWs k g) (kk : ∀ g', LWs (k + 1) g' → wp (ab_ext L xs) 1000 928 (LV i) [] (hp g') Q) : wp (ab_ext L xs) 1000 635 (LV i) [] (hp g) Q := by
  obtain ⟨hg, h0, h1⟩ := h.gn
  obtain ⟨n, m, hR, hI⟩ := h
  obtain ⟨r, g1, g2, n', m', e1, e2, hR2, hI2, ht, hg1⟩ := b_screen (xs (i + Int32.ofNat 1).toNatClampNeg) hR hI hk
  refine wp_p (j := 1000) 5 (pc' := 640) (lv' := LV i) (st' := [.int (i + Int32.ofNat 1), .ref 2000000, .ref 0]) rfl ?_
  refine lw_ld rfl hg (hi 1 (by decide)) rfl ?_
  refine lw_cv (As := [.int (xs (i + Int32.ofNat 1).toNatClampNeg)]) (q := 0) (rest := []) (v := r) (g' := g1) rfl h0 rfl rfl rfl rfl (d_H_screen e1 ⟨rfl, rfl⟩) ?_
  refine wp_p (j := 1000) 5 (pc' := 649) (lv' := LV i) (st' := [.int (i + Int32.ofNat 1), .ref 2000000, .ref 1838, .int r]) rfl ?_
  refine lw_ld rfl hg1 (hi 1 (by decide)) rfl ?_
  refine lw_cv (As := [.int (xs (i + Int32.ofNat 1).toNatClampNeg)]) (q := 1838) (rest := [.int r]) (v := r) (g' := g2) rfl ht rfl rfl rfl rfl (d_Y_screen e2 ⟨rfl, rfl⟩) ?_
  refine lw_eq rfl ?_
  exact kk g2 ⟨n', m', hR2, hI2⟩
set_option maxRecDepth 20000 in
theorem lw_box (hk : k ≤ 64) (hi : LWi L i) (h : LWs k g) (kk : ∀ g', LWs (k + 1) g' → wp (ab_ext L xs) 1000 928 (LV i) [] (hp g') Q) : wp (ab_ext L xs) 1000 658 (LV i) [] (hp g) Q := by
  obtain ⟨hg, h0, h1⟩ := h.gn
  obtain ⟨n, m, hR, hI⟩ := h
  obtain ⟨r, g1, g2, n', m', e1, e2, hR2, hI2, ht, hg1⟩ := b_box (xs (i + Int32.ofNat 1).toNatClampNeg) (xs (i + Int32.ofNat 2).toNatClampNeg) hR hI hk
  refine wp_p (j := 1000) 5 (pc' := 663) (lv' := LV i) (st' := [.int (i + Int32.ofNat 1), .ref 2000000, .ref 0]) rfl ?_
  refine lw_ld rfl hg (hi 1 (by decide)) rfl ?_
  refine wp_p (j := 1000) 4 (pc' := 668) (lv' := LV i) (st' := [.int (i + Int32.ofNat 2), .ref 2000000, .int (xs (i + Int32.ofNat 1).toNatClampNeg), .ref 0]) rfl ?_
  refine lw_ld rfl hg (hi 2 (by decide)) rfl ?_
  refine lw_cv (As := [.int (xs (i + Int32.ofNat 1).toNatClampNeg), .int (xs (i + Int32.ofNat 2).toNatClampNeg)]) (q := 0) (rest := []) (v := r) (g' := g1) rfl h0 rfl rfl rfl rfl (d_H_box e1 ⟨rfl, rfl⟩) ?_
  refine wp_p (j := 1000) 5 (pc' := 677) (lv' := LV i) (st' := [.int (i + Int32.ofNat 1), .ref 2000000, .ref 1838, .int r]) rfl ?_
  refine lw_ld rfl hg1 (hi 1 (by decide)) rfl ?_
  refine wp_p (j := 1000) 4 (pc' := 682) (lv' := LV i) (st' := [.int (i + Int32.ofNat 2), .ref 2000000, .int (xs (i + Int32.ofNat 1).toNatClampNeg), .ref 1838, .int r]) rfl ?_
  refine lw_ld rfl hg1 (hi 2 (by decide)) rfl ?_
  refine lw_cv (As := [.int (xs (i + Int32.ofNat 1).toNatClampNeg), .int (xs (i + Int32.ofNat 2).toNatClampNeg)]) (q := 1838) (rest := [.int r]) (v := r) (g' := g2) rfl ht rfl rfl rfl rfl (d_Y_box e2 ⟨rfl, rfl⟩) ?_
  refine lw_eq rfl ?_
  exact kk g2 ⟨n', m', hR2, hI2⟩
set_option maxRecDepth 20000 in
theorem lw_word (hk : k ≤ 64) (hi : LWi L i) (h : LWs k g) (kk : ∀ g', LWs (k + 1) g' → wp (ab_ext L xs) 1000 928 (LV i) [] (hp g') Q) : wp (ab_ext L xs) 1000 691 (LV i) [] (hp g) Q := by
  obtain ⟨hg, h0, h1⟩ := h.gn
  obtain ⟨n, m, hR, hI⟩ := h
  obtain ⟨r, g1, g2, n', m', e1, e2, hR2, hI2, ht, hg1⟩ := b_word (xs (i + Int32.ofNat 1).toNatClampNeg) (xs (i + Int32.ofNat 2).toNatClampNeg) hR hI hk
  refine wp_p (j := 1000) 5 (pc' := 696) (lv' := LV i) (st' := [.int (i + Int32.ofNat 1), .ref 2000000, .ref 0]) rfl ?_
  refine lw_ld rfl hg (hi 1 (by decide)) rfl ?_
  refine wp_p (j := 1000) 4 (pc' := 701) (lv' := LV i) (st' := [.int (i + Int32.ofNat 2), .ref 2000000, .int (xs (i + Int32.ofNat 1).toNatClampNeg), .ref 0]) rfl ?_
  refine lw_ld rfl hg (hi 2 (by decide)) rfl ?_
  refine lw_cv (As := [.int (xs (i + Int32.ofNat 1).toNatClampNeg), .int (xs (i + Int32.ofNat 2).toNatClampNeg)]) (q := 0) (rest := []) (v := r) (g' := g1) rfl h0 rfl rfl rfl rfl (d_H_word e1 ⟨rfl, rfl⟩) ?_
  refine wp_p (j := 1000) 5 (pc' := 710) (lv' := LV i) (st' := [.int (i + Int32.ofNat 1), .ref 2000000, .ref 1838, .int r]) rfl ?_
  refine lw_ld rfl hg1 (hi 1 (by decide)) rfl ?_
  refine wp_p (j := 1000) 4 (pc' := 715) (lv' := LV i) (st' := [.int (i + Int32.ofNat 2), .ref 2000000, .int (xs (i + Int32.ofNat 1).toNatClampNeg), .ref 1838, .int r]) rfl ?_
  refine lw_ld rfl hg1 (hi 2 (by decide)) rfl ?_
  refine lw_cv (As := [.int (xs (i + Int32.ofNat 1).toNatClampNeg), .int (xs (i + Int32.ofNat 2).toNatClampNeg)]) (q := 1838) (rest := [.int r]) (v := r) (g' := g2) rfl ht rfl rfl rfl rfl (d_Y_word e2 ⟨rfl, rfl⟩) ?_
  refine lw_eq rfl ?_
  exact kk g2 ⟨n', m', hR2, hI2⟩
set_option maxRecDepth 20000 in
theorem lw_point (hk : k ≤ 64) (hi : LWi L i) (h : LWs k g) (kk : ∀ g', LWs (k + 1) g' → wp (ab_ext L xs) 1000 928 (LV i) [] (hp g') Q) : wp (ab_ext L xs) 1000 724 (LV i) [] (hp g) Q := by
  obtain ⟨hg, h0, h1⟩ := h.gn
  obtain ⟨n, m, hR, hI⟩ := h
  obtain ⟨r, g1, g2, n', m', e1, e2, hR2, hI2, ht, hg1⟩ := b_point (xs (i + Int32.ofNat 1).toNatClampNeg) (xs (i + Int32.ofNat 2).toNatClampNeg) hR hI hk
  refine wp_p (j := 1000) 5 (pc' := 729) (lv' := LV i) (st' := [.int (i + Int32.ofNat 1), .ref 2000000, .ref 0]) rfl ?_
  refine lw_ld rfl hg (hi 1 (by decide)) rfl ?_
  refine wp_p (j := 1000) 4 (pc' := 734) (lv' := LV i) (st' := [.int (i + Int32.ofNat 2), .ref 2000000, .int (xs (i + Int32.ofNat 1).toNatClampNeg), .ref 0]) rfl ?_
  refine lw_ld rfl hg (hi 2 (by decide)) rfl ?_
  refine lw_cv (As := [.int (xs (i + Int32.ofNat 1).toNatClampNeg), .int (xs (i + Int32.ofNat 2).toNatClampNeg)]) (q := 0) (rest := []) (v := r) (g' := g1) rfl h0 rfl rfl rfl rfl (d_H_point e1 ⟨rfl, rfl⟩) ?_
  refine wp_p (j := 1000) 5 (pc' := 743) (lv' := LV i) (st' := [.int (i + Int32.ofNat 1), .ref 2000000, .ref 1838, .int r]) rfl ?_
  refine lw_ld rfl hg1 (hi 1 (by decide)) rfl ?_
  refine wp_p (j := 1000) 4 (pc' := 748) (lv' := LV i) (st' := [.int (i + Int32.ofNat 2), .ref 2000000, .int (xs (i + Int32.ofNat 1).toNatClampNeg), .ref 1838, .int r]) rfl ?_
  refine lw_ld rfl hg1 (hi 2 (by decide)) rfl ?_
  refine lw_cv (As := [.int (xs (i + Int32.ofNat 1).toNatClampNeg), .int (xs (i + Int32.ofNat 2).toNatClampNeg)]) (q := 1838) (rest := [.int r]) (v := r) (g' := g2) rfl ht rfl rfl rfl rfl (d_Y_point e2 ⟨rfl, rfl⟩) ?_
  refine lw_eq rfl ?_
  exact kk g2 ⟨n', m', hR2, hI2⟩
set_option maxRecDepth 20000 in
theorem lw_top (hk : k ≤ 64) (hi : LWi L i) (h : LWs k g) (kk : ∀ g', LWs (k + 1) g' → wp (ab_ext L xs) 1000 928 (LV i) [] (hp g') Q) : wp (ab_ext L xs) 1000 757 (LV i) [] (hp g) Q := by
  obtain ⟨hg, h0, h1⟩ := h.gn
  obtain ⟨n, m, hR, hI⟩ := h
  obtain ⟨r, g1, g2, n', m', e1, e2, hR2, hI2, ht, hg1⟩ := b_top (xs (i + Int32.ofNat 1).toNatClampNeg) (xs (i + Int32.ofNat 2).toNatClampNeg) hR hI hk
  refine wp_p (j := 1000) 5 (pc' := 762) (lv' := LV i) (st' := [.int (i + Int32.ofNat 1), .ref 2000000, .ref 0]) rfl ?_
  refine lw_ld rfl hg (hi 1 (by decide)) rfl ?_
  refine wp_p (j := 1000) 4 (pc' := 767) (lv' := LV i) (st' := [.int (i + Int32.ofNat 2), .ref 2000000, .int (xs (i + Int32.ofNat 1).toNatClampNeg), .ref 0]) rfl ?_
  refine lw_ld rfl hg (hi 2 (by decide)) rfl ?_
  refine lw_cv (As := [.int (xs (i + Int32.ofNat 1).toNatClampNeg), .int (xs (i + Int32.ofNat 2).toNatClampNeg)]) (q := 0) (rest := []) (v := r) (g' := g1) rfl h0 rfl rfl rfl rfl (d_H_top e1 ⟨rfl, rfl⟩) ?_
  refine wp_p (j := 1000) 5 (pc' := 776) (lv' := LV i) (st' := [.int (i + Int32.ofNat 1), .ref 2000000, .ref 1838, .int r]) rfl ?_
  refine lw_ld rfl hg1 (hi 1 (by decide)) rfl ?_
  refine wp_p (j := 1000) 4 (pc' := 781) (lv' := LV i) (st' := [.int (i + Int32.ofNat 2), .ref 2000000, .int (xs (i + Int32.ofNat 1).toNatClampNeg), .ref 1838, .int r]) rfl ?_
  refine lw_ld rfl hg1 (hi 2 (by decide)) rfl ?_
  refine lw_cv (As := [.int (xs (i + Int32.ofNat 1).toNatClampNeg), .int (xs (i + Int32.ofNat 2).toNatClampNeg)]) (q := 1838) (rest := [.int r]) (v := r) (g' := g2) rfl ht rfl rfl rfl rfl (d_Y_top e2 ⟨rfl, rfl⟩) ?_
  refine lw_eq rfl ?_
  exact kk g2 ⟨n', m', hR2, hI2⟩
set_option maxRecDepth 20000 in
theorem lw_press (hk : k ≤ 64) (hi : LWi L i) (h : LWs k g) (kk : ∀ g', LWs (k + 1) g' → wp (ab_ext L xs) 1000 928 (LV i) [] (hp g') Q) : wp (ab_ext L xs) 1000 790 (LV i) [] (hp g) Q := by
  obtain ⟨hg, h0, h1⟩ := h.gn
  obtain ⟨n, m, hR, hI⟩ := h
  obtain ⟨r, g1, g2, n', m', e1, e2, hR2, hI2, ht, hg1⟩ := b_press (xs (i + Int32.ofNat 1).toNatClampNeg) (xs (i + Int32.ofNat 2).toNatClampNeg) hR hI hk
  refine wp_p (j := 1000) 5 (pc' := 795) (lv' := LV i) (st' := [.int (i + Int32.ofNat 1), .ref 2000000, .ref 0]) rfl ?_
  refine lw_ld rfl hg (hi 1 (by decide)) rfl ?_
  refine wp_p (j := 1000) 4 (pc' := 800) (lv' := LV i) (st' := [.int (i + Int32.ofNat 2), .ref 2000000, .int (xs (i + Int32.ofNat 1).toNatClampNeg), .ref 0]) rfl ?_
  refine lw_ld rfl hg (hi 2 (by decide)) rfl ?_
  refine lw_cv (As := [.int (xs (i + Int32.ofNat 1).toNatClampNeg), .int (xs (i + Int32.ofNat 2).toNatClampNeg)]) (q := 0) (rest := []) (v := r) (g' := g1) rfl h0 rfl rfl rfl rfl (d_H_press e1 ⟨rfl, rfl⟩) ?_
  refine wp_p (j := 1000) 5 (pc' := 809) (lv' := LV i) (st' := [.int (i + Int32.ofNat 1), .ref 2000000, .ref 1838, .int r]) rfl ?_
  refine lw_ld rfl hg1 (hi 1 (by decide)) rfl ?_
  refine wp_p (j := 1000) 4 (pc' := 814) (lv' := LV i) (st' := [.int (i + Int32.ofNat 2), .ref 2000000, .int (xs (i + Int32.ofNat 1).toNatClampNeg), .ref 1838, .int r]) rfl ?_
  refine lw_ld rfl hg1 (hi 2 (by decide)) rfl ?_
  refine lw_cv (As := [.int (xs (i + Int32.ofNat 1).toNatClampNeg), .int (xs (i + Int32.ofNat 2).toNatClampNeg)]) (q := 1838) (rest := [.int r]) (v := r) (g' := g2) rfl ht rfl rfl rfl rfl (d_Y_press e2 ⟨rfl, rfl⟩) ?_
  refine lw_eq rfl ?_
  exact kk g2 ⟨n', m', hR2, hI2⟩
set_option maxRecDepth 20000 in
theorem lw_key (hk : k ≤ 64) (hi : LWi L i) (h : LWs k g) (kk : ∀ g', LWs (k + 1) g' → wp (ab_ext L xs) 1000 928 (LV i) [] (hp g') Q) : wp (ab_ext L xs) 1000 823 (LV i) [] (hp g) Q := by
  obtain ⟨hg, h0, h1⟩ := h.gn
  obtain ⟨n, m, hR, hI⟩ := h
  obtain ⟨r, g1, g2, n', m', e1, e2, hR2, hI2, ht, hg1⟩ := b_key (xs (i + Int32.ofNat 1).toNatClampNeg) hR hI hk
  refine wp_p (j := 1000) 5 (pc' := 828) (lv' := LV i) (st' := [.int (i + Int32.ofNat 1), .ref 2000000, .ref 0]) rfl ?_
  refine lw_ld rfl hg (hi 1 (by decide)) rfl ?_
  refine lw_cv (As := [.int (xs (i + Int32.ofNat 1).toNatClampNeg)]) (q := 0) (rest := []) (v := r) (g' := g1) rfl h0 rfl rfl rfl rfl (d_H_key e1 ⟨rfl, rfl⟩) ?_
  refine wp_p (j := 1000) 5 (pc' := 837) (lv' := LV i) (st' := [.int (i + Int32.ofNat 1), .ref 2000000, .ref 1838, .int r]) rfl ?_
  refine lw_ld rfl hg1 (hi 1 (by decide)) rfl ?_
  refine lw_cv (As := [.int (xs (i + Int32.ofNat 1).toNatClampNeg)]) (q := 1838) (rest := [.int r]) (v := r) (g' := g2) rfl ht rfl rfl rfl rfl (d_Y_key e2 ⟨rfl, rfl⟩) ?_
  refine lw_eq rfl ?_
  exact kk g2 ⟨n', m', hR2, hI2⟩
set_option maxRecDepth 20000 in
theorem lw_script (hk : k ≤ 64) (hi : LWi L i) (h : LWs k g) (kk : ∀ g', LWs (k + 1) g' → wp (ab_ext L xs) 1000 928 (LV i) [] (hp g') Q) : wp (ab_ext L xs) 1000 846 (LV i) [] (hp g) Q := by
  obtain ⟨hg, h0, h1⟩ := h.gn
  obtain ⟨n, m, hR, hI⟩ := h
  obtain ⟨r, g1, g2, n', m', e1, e2, hR2, hI2, ht, hg1⟩ := b_script hR hI hk
  refine wp_p (j := 1000) 1 (pc' := 847) (lv' := LV i) (st' := [.ref 0]) rfl ?_
  refine lw_cv (As := []) (q := 0) (rest := []) (v := r) (g' := g1) rfl h0 rfl rfl rfl rfl (d_H_script e1 ⟨rfl, rfl⟩) ?_
  refine wp_p (j := 1000) 1 (pc' := 851) (lv' := LV i) (st' := [.ref 1838, .int r]) rfl ?_
  refine lw_cv (As := []) (q := 1838) (rest := [.int r]) (v := r) (g' := g2) rfl ht rfl rfl rfl rfl (d_Y_script e2 ⟨rfl, rfl⟩) ?_
  refine lw_eq rfl ?_
  exact kk g2 ⟨n', m', hR2, hI2⟩
set_option maxRecDepth 20000 in
theorem lw_value (hk : k ≤ 64) (hi : LWi L i) (h : LWs k g) (kk : ∀ g', LWs (k + 1) g' → wp (ab_ext L xs) 1000 928 (LV i) [] (hp g') Q) : wp (ab_ext L xs) 1000 859 (LV i) [] (hp g) Q := by
  obtain ⟨hg, h0, h1⟩ := h.gn
  obtain ⟨n, m, hR, hI⟩ := h
  obtain ⟨r, g1, g2, n', m', e1, e2, hR2, hI2, ht, hg1⟩ := b_value (xs (i + Int32.ofNat 1).toNatClampNeg) hR hI hk
  refine wp_p (j := 1000) 5 (pc' := 864) (lv' := LV i) (st' := [.int (i + Int32.ofNat 1), .ref 2000000, .ref 0]) rfl ?_
  refine lw_ld rfl hg (hi 1 (by decide)) rfl ?_
  refine lw_cv (As := [.int (xs (i + Int32.ofNat 1).toNatClampNeg)]) (q := 0) (rest := []) (v := r) (g' := g1) rfl h0 rfl rfl rfl rfl (d_H_value e1 ⟨rfl, rfl⟩) ?_
  refine wp_p (j := 1000) 5 (pc' := 873) (lv' := LV i) (st' := [.int (i + Int32.ofNat 1), .ref 2000000, .ref 1838, .int r]) rfl ?_
  refine lw_ld rfl hg1 (hi 1 (by decide)) rfl ?_
  refine lw_cv (As := [.int (xs (i + Int32.ofNat 1).toNatClampNeg)]) (q := 1838) (rest := [.int r]) (v := r) (g' := g2) rfl ht rfl rfl rfl rfl (d_Y_value e2 ⟨rfl, rfl⟩) ?_
  refine lw_eq rfl ?_
  exact kk g2 ⟨n', m', hR2, hI2⟩
set_option maxRecDepth 20000 in
theorem lw_checked (hk : k ≤ 64) (hi : LWi L i) (h : LWs k g) (kk : ∀ g', LWs (k + 1) g' → wp (ab_ext L xs) 1000 928 (LV i) [] (hp g') Q) : wp (ab_ext L xs) 1000 882 (LV i) [] (hp g) Q := by
  obtain ⟨hg, h0, h1⟩ := h.gn
  obtain ⟨n, m, hR, hI⟩ := h
  obtain ⟨r, e1, e2⟩ := b_checked (xs (i + Int32.ofNat 1).toNatClampNeg) hR hI hk
  refine wp_p (j := 1000) 5 (pc' := 887) (lv' := LV i) (st' := [.int (i + Int32.ofNat 1), .ref 2000000, .ref 0]) rfl ?_
  refine lw_ld rfl hg (hi 1 (by decide)) rfl ?_
  refine lw_cv (As := [.int (xs (i + Int32.ofNat 1).toNatClampNeg)]) (q := 0) (rest := []) (v := r) (g' := g) rfl h0 rfl rfl rfl rfl (d_H_checked e1 ⟨rfl, rfl⟩) ?_
  refine wp_p (j := 1000) 5 (pc' := 896) (lv' := LV i) (st' := [.int (i + Int32.ofNat 1), .ref 2000000, .ref 1838, .int r]) rfl ?_
  refine lw_ld rfl hg (hi 1 (by decide)) rfl ?_
  refine lw_cv (As := [.int (xs (i + Int32.ofNat 1).toNatClampNeg)]) (q := 1838) (rest := [.int r]) (v := r) (g' := g) rfl h1 rfl rfl rfl rfl (d_Y_checked e2 ⟨rfl, rfl⟩) ?_
  refine lw_eq rfl ?_
  exact kk g ⟨n, m, hR, hI.up⟩
set_option maxRecDepth 20000 in
theorem lw_count (hk : k ≤ 64) (hi : LWi L i) (h : LWs k g) (kk : ∀ g', LWs (k + 1) g' → wp (ab_ext L xs) 1000 928 (LV i) [] (hp g') Q) : wp (ab_ext L xs) 1000 905 (LV i) [] (hp g) Q := by
  obtain ⟨hg, h0, h1⟩ := h.gn
  obtain ⟨n, m, hR, hI⟩ := h
  obtain ⟨r, g1, g2, n', m', e1, e2, hR2, hI2, ht, hg1⟩ := b_count (xs (i + Int32.ofNat 1).toNatClampNeg) hR hI hk
  refine wp_p (j := 1000) 5 (pc' := 910) (lv' := LV i) (st' := [.int (i + Int32.ofNat 1), .ref 2000000, .ref 0]) rfl ?_
  refine lw_ld rfl hg (hi 1 (by decide)) rfl ?_
  refine lw_cv (As := [.int (xs (i + Int32.ofNat 1).toNatClampNeg)]) (q := 0) (rest := []) (v := r) (g' := g1) rfl h0 rfl rfl rfl rfl (d_H_count e1 ⟨rfl, rfl⟩) ?_
  refine wp_p (j := 1000) 5 (pc' := 919) (lv' := LV i) (st' := [.int (i + Int32.ofNat 1), .ref 2000000, .ref 1838, .int r]) rfl ?_
  refine lw_ld rfl hg1 (hi 1 (by decide)) rfl ?_
  refine lw_cv (As := [.int (xs (i + Int32.ofNat 1).toNatClampNeg)]) (q := 1838) (rest := [.int r]) (v := r) (g' := g2) rfl ht rfl rfl rfl rfl (d_Y_count e2 ⟨rfl, rfl⟩) ?_
  refine lw_eq rfl ?_
  exact kk g2 ⟨n', m', hR2, hI2⟩
end YZU
