set_option maxHeartbeats 4000000 in
set_option maxRecDepth 100000 in
theorem sc_pre (l : Launch) (i n : Int32) (f : Value) (hf : f = .null ∨ ∃ a, f = .ref a) (h0 : ¬ i < 0) (hlt : i < n) : Met l sy_pre sw_pre ({ frames := 0, cells := 0, slots := 0, locals := 0 }) (va_Pc [.int i, .int n, f] (fun _ => True)) (ab_Qh (some (.int i))) 0 0 (fun _ => False) := by
  refine Met.ofW (cc := prog_22_method_11_code) (maxL := 3) (ret := some .int) (by decide) rfl ?_
  intro p e s m args below meth c s₁ Bd hml hv
  obtain ⟨rfl, -⟩ := hv
  have hx := Bd.exec
  have hb := Bd.bytes
  have hr := Bd.returns
  have hlocks := Bd.notSynchronized
  have hcat : f.category = 1 := by rcases hf with rfl | ⟨a, rfl⟩ <;> rfl
  have hl := lv_entry ([.int i, .int n, f]) (n := 3) (by rcases hf with rfl | ⟨a, rfl⟩ <;> exact Nat.le_of_ble_eq_true rfl)
  rw [lg_entry_eq]
  generalize (lg_sl ([.int i, .int n, f]) ++ List.replicate (3 - (lg_sl ([.int i, .int n, f])).length) Slot.unset).toArray = ls at hl ⊢
  have hl : lv_has ls 3 [(0, .int i), (1, .int n), (2, f)] := hl
  refine lv_iload_n hx hb sd_pre_0 rfl (lv_at hl 0 rfl) ?_
  refine lv_if_lt (tgt := 9) hx hb sd_pre_1 (by decide) (fun h => absurd h h0) (fun _ => ?_)
  refine lv_iload_n hx hb sd_pre_4 rfl (lv_at hl 0 rfl) ?_
  refine lv_iload_n hx hb sd_pre_5 rfl (lv_at hl 1 rfl) ?_
  refine lv_icmp_lt (tgt := 16) hx hb sd_pre_6 (by decide) (fun _ => ?_) (fun h => absurd hlt h)
  refine lv_iload_n hx hb sd_pre_16 rfl (lv_at hl 0 rfl) ?_
  exact W.iret hx hb hr (fun t ht hW => ⟨rfl, ht⟩) (fun q hq => by cases hq) sd_pre_17
set_option maxHeartbeats 4000000 in
set_option maxRecDepth 100000 in
theorem sc_chk (l : Launch) (B : Nat) (i n : Int32) (h0 : ¬ i < 0) (hlt : i < n) : Met l sy_chk sw_chk ({ frames := 1, cells := 0, slots := 0, locals := 22 }) (va_Pc [.int i, .int n] (fun U => ab_StS B U U.heap)) (ab_Qh none) 0 0 (fun _ => False) := by
  refine Met.ofW (cc := prog_17_method_155_code) (maxL := 2) (ret := none) (by decide) rfl ?_
  intro p e s m args below meth c s₁ Bd hml hv
  obtain ⟨rfl, -, hZ⟩ := hv
  have hx := Bd.exec
  have hb := Bd.bytes
  have hr := Bd.returns
  have hts := atoms_spec (ws := sw_chk) Bd.pre
  have htg : ∀ w ∈ gw, w.before #[.int i, .int n] s = true := fun w h => hts w (List.mem_cons_of_mem _ h)
  have hown : s.vm.findClass "java/lang/String" = some m.cls := findClass_of_methodNamed Bd.named
  have hlocks := Bd.notSynchronized
  have hS : va_S (fun q => B ≤ q) s.heap s.heap [] := va_S.rf
  have hl := lv_entry ([.int i, .int n]) (n := 2) (Nat.le_of_ble_eq_true rfl)
  rw [lg_entry_eq]
  generalize (lg_sl ([.int i, .int n]) ++ List.replicate (2 - (lg_sl ([.int i, .int n])).length) Slot.unset).toArray = ls at hl ⊢
  have hl : lv_has ls 2 [(0, .int i), (1, .int n)] := hl
  refine lv_iload_n hx hb sd_chk_0 rfl (lv_at hl 0 rfl) ?_
  refine lv_iload_n hx hb sd_chk_1 rfl (lv_at hl 1 rfl) ?_
  have go : ∀ f : Value, (f = .null ∨ ∃ a, f = .ref a) → W p l e ({ frames := 1, cells := 0, slots := 0, locals := 22 } : Room) s m #[.int i, .int n] below meth c s.heap [] 0 0 (MQ below (ab_Qh none) #[.int i, .int n] s 0 0 (fun _ => False)) (F0 m 5 ls [f, .int n, .int i]) := by
    intro f hf
    refine ab_run (va_runS (As := [.int i, .int n, f]) (rest := []) ⟨hx, hb, hml, hown, htg⟩ (sc_pre l i n f hf h0 hlt) (va_cwS 3 htg (ab_goodA (by
      intro w hw
      simp only [List.mem_cons, List.not_mem_nil, or_false] at hw
      rcases hw with rfl | rfl | rfl
      · exact sg_m_pre
      · exact sg_t_pre
      · exact sg_nP) (ab_goodC sg_c_pre)) rfl rfl rfl (by decide +kernel) ⟨by decide, by decide⟩) ⟨fun _ _ _ _ q => q, fun U hU hW => ⟨rfl, trivial⟩⟩ rfl rfl hl.1 rfl (lv_room (Nat.le_of_ble_eq_true rfl)) sd_chk_5 ⟨Nat.zero_le _, Nat.zero_le _⟩) (fun w st₀ t H1 L h0 ht hq hL => ?_)
    obtain ⟨hw, hh⟩ := hq
    cases hw
    have hH : H1 = s.heap := by rw [← ht, hh, h0]
    subst hH
    refine lv_pop hx hb sd_chk_8 rfl ?_
    exact W.vret hx hb hr (fun t ht hW => ⟨rfl, ht⟩) (fun q hq => by
      rcases List.mem_append.mp hq with h | h
      · cases h
      · exact hL q h) sd_chk_9
  rcases hZ with hZ | ⟨a, hZ⟩
  · exact va_gets hx hb hZ hS hown (htg _ sg_f1053) (fun _ z => z) sd_chk_2 (go _ (Or.inl rfl))
  · exact va_gets hx hb hZ hS hown (htg _ sg_f1053) (fun _ z => z) sd_chk_2 (go _ (Or.inr ⟨a, rfl⟩))
set_option maxHeartbeats 4000000 in
set_option maxRecDepth 100000 in
theorem sc_lat (l : Launch) (B v : Nat) (bs : List Int32) (i : Int32) (h0 : ¬ i < 0) (hk : i.toNatClampNeg < bs.length) (hlt : i < nI bs.length) : Met l sy_lat sw_lat ({ frames := 2, cells := 0, slots := 0, locals := 43 }) (va_Pc [.ref v, .int i] (fun U => ab_StS B U U.heap ∧ va_T .byte v bs.length (fun j => .int (bs.getD j 0)) (fun q => B ≤ q) U U.heap)) (ab_Qh (some (.int (bs.getD i.toNatClampNeg 0 &&& 255)))) 0 0 (fun _ => False) := by
  refine Met.ofW (cc := prog_18_method_2_code) (maxL := 2) (ret := some .char) (by decide) rfl ?_
  intro p e s m args below meth c s₁ Bd hml hv
  obtain ⟨rfl, hZ, hT⟩ := hv
  have hx := Bd.exec
  have hb := Bd.bytes
  have hr := Bd.returns
  have hts := atoms_spec (ws := sw_lat) Bd.pre
  have htg : ∀ w ∈ gw, w.before #[.ref v, .int i] s = true := fun w h => hts w (List.mem_cons_of_mem _ h)
  have hown : s.vm.findClass "java/lang/StringLatin1" = some m.cls := findClass_of_methodNamed Bd.named
  have hlocks := Bd.notSynchronized
  have hl := lv_entry ([.ref v, .int i]) (n := 2) (Nat.le_of_ble_eq_true rfl)
  rw [lg_entry_eq]
  generalize (lg_sl ([.ref v, .int i]) ++ List.replicate (2 - (lg_sl ([.ref v, .int i])).length) Slot.unset).toArray = ls at hl ⊢
  have hl : lv_has ls 2 [(0, .ref v), (1, .int i)] := hl
  obtain ⟨cell, h1, h2, h3, h4, h5, h6, -⟩ := hT
  refine lv_iload_n hx hb sd_lat_0 rfl (lv_at hl 1 rfl) ?_
  refine lv_aload_n hx hb sd_lat_1 rfl (lv_at hl 0 rfl) ?_
  refine W.alen (n := nI bs.length) hx hb h1 h2 h5 rfl rfl sd_lat_2 ?_
  refine ab_run (va_runS (As := [.int i, .int (nI bs.length)]) (rest := []) ⟨hx, hb, hml, hown, htg⟩ (sc_chk l B i (nI bs.length) h0 hlt) (va_cwS 2 htg (ab_goodA (by
      intro w hw
      simp only [List.mem_cons, List.not_mem_nil, or_false] at hw
      rcases hw with rfl | rfl | rfl
      · exact sg_m_chk
      · exact sg_t_chk
      · exact sg_nS) (ab_goodC sg_c_chk)) rfl rfl rfl (by decide +kernel) ⟨by decide, by decide⟩) ⟨fun _ _ _ _ q => q, fun U hU hW => ⟨rfl, by show ab_StS B U U.heap; rw [hU]; exact hZ.next hW.alike (fun _ _ _ => rfl)⟩⟩ rfl rfl hl.1 rfl (lv_room (Nat.le_of_ble_eq_true rfl)) sd_lat_3 ⟨Nat.zero_le _, Nat.zero_le _⟩) (fun w st₀ t H1 L h00 ht hq hL => ?_)
  obtain ⟨hw, hh⟩ := hq
  cases hw
  have hH : H1 = s.heap := by rw [← ht, hh, h00]
  subst hH
  refine lv_aload_n hx hb sd_lat_6 rfl (lv_at hl 0 rfl) ?_
  refine lv_iload_n hx hb sd_lat_7 rfl (lv_at hl 1 rfl) ?_
  refine W.bald (v := .int (bs.getD i.toNatClampNeg 0)) hx hb h1 h2 h3 (fun z => z.elim h0 (fun z => by omega)) (h6 _ hk) rfl rfl sd_lat_8 ?_
  refine lv_sipush (v := 255) hx hb sd_lat_9 (by decide) ?_
  refine lv_iand hx hb sd_lat_12 ?_
  refine lv_i2c hx hb sd_lat_13 (sc_c2 _) ?_
  exact W.zret hx hb hr (sc_nar _) (fun t ht hW => ⟨rfl, ht⟩) (fun q hq => by
    rcases List.mem_append.mp hq with h | h
    · cases h
    · exact hL q h) sd_lat_14
set_option maxHeartbeats 4000000 in
set_option maxRecDepth 100000 in
theorem sc_at (l : Launch) (B a : Nat) (bs : List Int32) (i : Int32) (h0 : ¬ i < 0) (hk : i.toNatClampNeg < bs.length) (hlt : i < nI bs.length) : Met l sy_charAt sw_charAt ({ frames := 3, cells := 0, slots := 0, locals := 64 }) (va_Pc [.ref a, .int i] (fun U => ab_StS B U U.heap ∧ ab_Str B a bs U U.heap)) (ab_Qh (some (.int (bs.getD i.toNatClampNeg 0 &&& 255)))) 0 0 (fun _ => False) := by
  refine Met.ofW (cc := prog_17_method_56_code) (maxL := 2) (ret := some .char) (by decide) rfl ?_
  intro p e s m args below meth c s₁ Bd hml hv
  obtain ⟨rfl, hZ, hO, hF, ⟨v, hV, hT⟩, hlen⟩ := hv
  have hx := Bd.exec
  have hb := Bd.bytes
  have hr := Bd.returns
  have hts := atoms_spec (ws := sw_charAt) Bd.pre
  have htg : ∀ w ∈ gw, w.before #[.ref a, .int i] s = true := fun w h => hts w (List.mem_cons_of_mem _ h)
  have hown : s.vm.findClass "java/lang/String" = some m.cls := findClass_of_methodNamed Bd.named
  have hlocks := Bd.notSynchronized
  have hS : va_S (fun q => B ≤ q) s.heap s.heap [] := va_S.rf
  have hl := lv_entry ([.ref a, .int i]) (n := 2) (Nat.le_of_ble_eq_true rfl)
  rw [lg_entry_eq]
  generalize (lg_sl ([.ref a, .int i]) ++ List.replicate (2 - (lg_sl ([.ref a, .int i])).length) Slot.unset).toArray = ls at hl ⊢
  have hl : lv_has ls 2 [(0, .ref a), (1, .int i)] := hl
  refine lv_aload_n hx hb sd_charAt_0 rfl (lv_at hl 0 rfl) ?_
  obtain ⟨cO, g1, g2, g3, -⟩ := hO
  refine ab_run (va_runV (As := []) (rest := []) ⟨hx, hb, hml, hown, htg⟩ (sc_isL l B a) (cwV 0 htg (ab_goodA (by
      intro w hw
      simp only [List.mem_cons, List.not_mem_nil, or_false] at hw
      rcases hw with rfl | rfl | rfl | rfl
      · exact sg_m_isL
      · exact sg_i_isL
      · exact sg_s_isL
      · exact sg_nS) (ab_goodC sg_c_isL)) rfl rfl rfl (by decide +kernel) ⟨by decide, by decide⟩) ⟨fun _ _ _ _ q => q, ⟨cO, g1, g2, g3⟩, fun U hU hW => ⟨rfl, by rw [hU]; exact hZ.next hW.alike (fun _ _ _ => rfl), by rw [hU]; exact va_OF.moved hW.alike hF⟩⟩ rfl rfl hl.1 rfl (lv_room (Nat.le_of_ble_eq_true rfl)) sd_charAt_1 ⟨Nat.zero_le _, Nat.zero_le _⟩) (fun w st₀ t H1 L h00 ht hq hL => ?_)
  obtain ⟨hw, hh⟩ := hq
  cases hw
  have hH : H1 = s.heap := by rw [← ht, hh, h00]
  subst hH
  have hS : va_S (fun q => B ≤ q) s.heap s.heap ([] ++ L) := ⟨Nat.le_refl _, fun _ _ _ => rfl, fun q hq => by
    rcases List.mem_append.mp hq with h | h
    · cases h
    · exact (hL q h).elim⟩
  refine lv_if_eq (tgt := 16) hx hb sd_charAt_4 (by decide) (fun h => absurd h (by decide)) (fun _ => ?_)
  refine lv_aload_n hx hb sd_charAt_7 rfl (lv_at hl 0 rfl) ?_
  refine vk_getf hx hb hV hS hown (htg _ sg_f9) (fun _ z => z) sd_charAt_8 ?_
  refine lv_iload_n hx hb sd_charAt_11 rfl (lv_at hl 1 rfl) ?_
  refine ab_run (va_runS (As := [.ref v, .int i]) (rest := []) ⟨hx, hb, hml, hown, htg⟩ (sc_lat l B v bs i h0 hk hlt) (va_cwS 2 htg (ab_goodA (by
      intro w hw
      simp only [List.mem_cons, List.not_mem_nil, or_false] at hw
      rcases hw with rfl | rfl | rfl
      · exact sg_m_lat
      · exact sg_t_lat
      · exact sg_nL) (ab_goodC sg_c_lat)) rfl rfl rfl (by decide +kernel) ⟨by decide, by decide⟩) ⟨fun _ _ _ _ q => q, fun U hU hW => ⟨rfl, by rw [hU]; exact hZ.next hW.alike (fun _ _ _ => rfl), by rw [hU]; exact va_T.moved hW.alike hT⟩⟩ rfl rfl hl.1 rfl (lv_room (Nat.le_of_ble_eq_true rfl)) sd_charAt_12 ⟨Nat.zero_le _, Nat.zero_le _⟩) (fun w st₀ t H1 L2 h00 ht hq hL2 => ?_)
  obtain ⟨hw, hh⟩ := hq
  cases hw
  have hH : H1 = s.heap := by rw [← ht, hh, h00]
  subst hH
  exact W.zret hx hb hr (sc_nar _) (fun t ht hW => ⟨rfl, ht⟩) (fun q hq => by
    rcases List.mem_append.mp hq with h | h
    · rcases List.mem_append.mp h with h | h
      · cases h
      · exact hL q h
    · exact hL2 q h) sd_charAt_15
