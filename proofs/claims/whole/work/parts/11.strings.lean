/-- a String constant's cells: its bytes -/
def ab_Str (B a : Nat) (bs : List Int32) (U : State) (H : Heap) : Prop := va_O "java/lang/String" a (fun q => B ≤ q) U H ∧ va_OF "java/lang/String" "coder" "B" (.int 0) a (fun q => B ≤ q) U H ∧ (∃ v : Nat, va_OF "java/lang/String" "value" "[B" (.ref v) a (fun q => B ≤ q) U H ∧ va_T .byte v bs.length (fun j => .int (bs.getD j 0)) (fun q => B ≤ q) U H) ∧ bs.length < 2 ^ 31
/-- what String's methods read of the statics -/
def ab_StS (B : Nat) (U : State) (H : Heap) : Prop := va_Z "java/lang/String" "COMPACT_STRINGS" "Z" (.int 1) (fun q => B ≤ q) U H ∧ va_Zq "jdk/internal/util/Preconditions" "SIOOBE_FORMATTER" "Ljava/util/function/BiFunction;" (fun q => B ≤ q) U H
theorem ab_Str.next {B a : Nat} {bs : List Int32} {u U : State} {H H1 : Heap} (hvm : u.vm.Alike U.vm) (hq : ∀ a : Nat, a < H.size → ¬ B ≤ a → H1[a]? = H[a]?) (h : ab_Str B a bs u H) : ab_Str B a bs U H1 := by
  obtain ⟨h1, h2, ⟨v, h3, h4⟩, h5⟩ := h
  exact ⟨va_O.moved hvm (h1.kept hq), va_OF.moved hvm (h2.kept hq), ⟨v, va_OF.moved hvm (h3.kept hq), va_T.moved hvm (h4.kept hq)⟩, h5⟩
theorem ab_StS.next {B : Nat} {u U : State} {H H1 : Heap} (hvm : u.vm.Alike U.vm) (hq : ∀ a : Nat, a < H.size → ¬ B ≤ a → H1[a]? = H[a]?) (h : ab_StS B u H) : ab_StS B U H1 := ⟨va_Z.moved hvm (h.1.kept hq), va_Zq.moved hvm (h.2.kept hq)⟩
/-- an answer, the heap as it was -/
def ab_Qh (v : Option Value) : Array Value → State → Outcome → State → Prop := fun _ st o t => o = .returned v ∧ t.heap = st.heap
theorem ab_good (w : Cond) (h : w ∈ gw) : w ∈ gw ∧ ((w.onTables && w.keeps) = true ∨ ∃ ty, w = .arrayClass ty) := ⟨h, good_of_word (List.mem_filter.mp h).2⟩
theorem ab_goodC {w : Cond} (h : w ∈ gw) : GoodIn gw (w :: gw) := fun x hx => by
  rcases List.mem_cons.mp hx with rfl | hx
  · exact ab_good _ h
  · exact ab_good _ hx
theorem ab_goodA {a b : List Cond} (ha : ∀ w ∈ a, w ∈ gw) (hb : GoodIn gw b) : GoodIn gw (a ++ b) := fun x hx => by
  rcases List.mem_append.mp hx with hx | hx
  · exact ab_good _ (ha x hx)
  · exact hb x hx
theorem ab_run {p : Program} {l : Launch} {e : Env} {R : Room} {s : State} {m : MethodId} {args : Array Value} {below : List Frame} {meth : Method} {c : Code} {H : Heap} {locs : List Loc} {cells slots mc ms pc : Nat} {Q : State → Prop} {ls : Array Slot} {st0 rest : List Value} {Qa : State → Outcome → State → Prop} {free : Addr → Prop}
    (hr : va_Run p l e R s m args below meth c H locs cells slots mc ms (F0 m pc ls st0) rest Qa free)
    (kk : ∀ (v : Option Value) (st₀ t : State) (H1 : Heap) (L : List Loc), st₀.heap = H → t.heap = H1 → Qa st₀ (.returned v) t → (∀ q ∈ L, free q.base) → W p l e R s m args below meth c H1 (locs ++ L) (cells + mc) (slots + ms) Q (F0 m (pc + 3) ls (v.toList ++ rest))) : W p l e R s m args below meth c H locs cells slots Q (F0 m pc ls st0) := by
  intro T hT X
  obtain ⟨v, st₀, t, T', L, h0, X', hL, e1, e2, hq, st⟩ := hr T hT X
  obtain ⟨t2, a1, b1⟩ := kk v st₀ t T'.heap L h0 e1.symm hq hL T' rfl X'
  exact ⟨t2, st t2 a1, b1⟩
set_option maxHeartbeats 4000000 in
set_option maxRecDepth 100000 in
theorem sc_coder (l : Launch) (B a : Nat) : Met l sy_coder sw_coder ({ frames := 0, cells := 0, slots := 0, locals := 0 }) (va_Pc [.ref a] (fun U => ab_StS B U U.heap ∧ va_OF "java/lang/String" "coder" "B" (.int 0) a (fun q => B ≤ q) U U.heap)) (ab_Qh (some (.int 0))) 0 0 (fun _ => False) := by
  refine Met.ofW (cc := prog_17_method_152_code) (maxL := 1) (ret := some .byte) (by decide) rfl ?_
  intro p e s m args below meth c s₁ Bd hml hv
  obtain ⟨rfl, ⟨hZ, -⟩, hF⟩ := hv
  have hx := Bd.exec
  have hb := Bd.bytes
  have hr := Bd.returns
  have hts := atoms_spec (ws := sw_coder) Bd.pre
  have hown : s.vm.findClass "java/lang/String" = some m.cls := findClass_of_methodNamed Bd.named
  have hlocks := Bd.notSynchronized
  have hS : va_S (fun q => B ≤ q) s.heap s.heap [] := va_S.rf
  have hl := lv_entry ([.ref a]) (n := 1) (Nat.le_of_ble_eq_true rfl)
  rw [lg_entry_eq]
  generalize (lg_sl ([.ref a]) ++ List.replicate (1 - (lg_sl ([.ref a])).length) Slot.unset).toArray = ls at hl ⊢
  have hl : lv_has ls 1 [(0, .ref a)] := hl
  refine va_gets hx hb hZ hS hown (hts _ (List.mem_cons_of_mem _ sg_f38)) (fun _ z => z) sd_coder_0 ?_
  refine lv_if_eq (tgt := 13) hx hb sd_coder_3 (by decide) (fun h => absurd h (by decide)) (fun _ => ?_)
  refine lv_aload_n hx hb sd_coder_6 rfl (lv_at hl 0 rfl) ?_
  refine vk_getf hx hb hF hS hown (hts _ (List.mem_cons_of_mem _ sg_f15)) (fun _ z => z) sd_coder_7 ?_
  refine lv_goto (tgt := 14) hx hb sd_coder_10 (by decide) ?_
  exact W.zret (v := 0) hx hb hr (by decide) (fun t ht hW => ⟨rfl, ht⟩) (fun q hq => by cases hq) sd_coder_14
set_option maxHeartbeats 4000000 in
set_option maxRecDepth 100000 in
theorem sc_isL (l : Launch) (B a : Nat) : Met l sy_isL sw_isL ({ frames := 0, cells := 0, slots := 0, locals := 0 }) (va_Pc [.ref a] (fun U => ab_StS B U U.heap ∧ va_OF "java/lang/String" "coder" "B" (.int 0) a (fun q => B ≤ q) U U.heap)) (ab_Qh (some (.int 1))) 0 0 (fun _ => False) := by
  refine Met.ofW (cc := prog_17_method_154_code) (maxL := 1) (ret := some .boolean) (by decide) rfl ?_
  intro p e s m args below meth c s₁ Bd hml hv
  obtain ⟨rfl, ⟨hZ, -⟩, hF⟩ := hv
  have hx := Bd.exec
  have hb := Bd.bytes
  have hr := Bd.returns
  have hts := atoms_spec (ws := sw_isL) Bd.pre
  have hown : s.vm.findClass "java/lang/String" = some m.cls := findClass_of_methodNamed Bd.named
  have hlocks := Bd.notSynchronized
  have hS : va_S (fun q => B ≤ q) s.heap s.heap [] := va_S.rf
  have hl := lv_entry ([.ref a]) (n := 1) (Nat.le_of_ble_eq_true rfl)
  rw [lg_entry_eq]
  generalize (lg_sl ([.ref a]) ++ List.replicate (1 - (lg_sl ([.ref a])).length) Slot.unset).toArray = ls at hl ⊢
  have hl : lv_has ls 1 [(0, .ref a)] := hl
  refine va_gets hx hb hZ hS hown (hts _ (List.mem_cons_of_mem _ sg_f38)) (fun _ z => z) sd_isL_0 ?_
  refine lv_if_eq (tgt := 17) hx hb sd_isL_3 (by decide) (fun h => absurd h (by decide)) (fun _ => ?_)
  refine lv_aload_n hx hb sd_isL_6 rfl (lv_at hl 0 rfl) ?_
  refine vk_getf hx hb hF hS hown (hts _ (List.mem_cons_of_mem _ sg_f15)) (fun _ z => z) sd_isL_7 ?_
  refine lv_if_ne (tgt := 17) hx hb sd_isL_10 (by decide) (fun h => absurd rfl h) (fun _ => ?_)
  refine lv_iconst (v := 1) hx hb sd_isL_13 (by decide) ?_
  refine lv_goto (tgt := 18) hx hb sd_isL_14 (by decide) ?_
  exact W.zret (v := 1) hx hb hr (by decide) (fun t ht hW => ⟨rfl, ht⟩) (fun q hq => by cases hq) sd_isL_18
set_option maxHeartbeats 4000000 in
set_option maxRecDepth 100000 in
theorem sc_len (l : Launch) (B a : Nat) (bs : List Int32) : Met l sy_len sw_len ({ frames := 1, cells := 0, slots := 0, locals := 20 }) (va_Pc [.ref a] (fun U => ab_StS B U U.heap ∧ ab_Str B a bs U U.heap)) (ab_Qh (some (.int (nI bs.length)))) 0 0 (fun _ => False) := by
  refine Met.ofW (cc := prog_17_method_54_code) (maxL := 1) (ret := some .int) (by decide) rfl ?_
  intro p e s m args below meth c s₁ Bd hml hv
  obtain ⟨rfl, hZ, hO, hF, ⟨v, hV, hT⟩, hlen⟩ := hv
  have hx := Bd.exec
  have hb := Bd.bytes
  have hr := Bd.returns
  have hts := atoms_spec (ws := sw_len) Bd.pre
  have htg : ∀ w ∈ gw, w.before #[.ref a] s = true := fun w h => hts w (List.mem_cons_of_mem _ h)
  have hown : s.vm.findClass "java/lang/String" = some m.cls := findClass_of_methodNamed Bd.named
  have hlocks := Bd.notSynchronized
  have hS : va_S (fun q => B ≤ q) s.heap s.heap [] := va_S.rf
  have hl := lv_entry ([.ref a]) (n := 1) (Nat.le_of_ble_eq_true rfl)
  rw [lg_entry_eq]
  generalize (lg_sl ([.ref a]) ++ List.replicate (1 - (lg_sl ([.ref a])).length) Slot.unset).toArray = ls at hl ⊢
  have hl : lv_has ls 1 [(0, .ref a)] := hl
  refine lv_aload_n hx hb sd_len_0 rfl (lv_at hl 0 rfl) ?_
  refine vk_getf hx hb hV hS hown (htg _ sg_f9) (fun _ z => z) sd_len_1 ?_
  obtain ⟨cell, h1, h2, h3, h4, h5, h6, -⟩ := hT
  refine W.alen (n := nI bs.length) hx hb h1 h2 h5 rfl rfl sd_len_4 ?_
  refine lv_aload_n hx hb sd_len_5 rfl (lv_at hl 0 rfl) ?_
  obtain ⟨cO, g1, g2, g3, -⟩ := hO
  refine ab_run (va_runV (As := []) (rest := [.int (nI bs.length)]) ⟨hx, hb, hml, hown, htg⟩ (sc_coder l B a) (cwV 0 htg (ab_goodA (by
      intro w hw
      simp only [List.mem_cons, List.not_mem_nil, or_false] at hw
      rcases hw with rfl | rfl | rfl | rfl
      · exact sg_m_coder
      · exact sg_i_coder
      · exact sg_s_coder
      · exact sg_nS) (ab_goodC sg_c_coder)) rfl rfl rfl (by decide +kernel) ⟨by decide, by decide⟩) ⟨fun _ _ _ _ q => q, ⟨cO, g1, g2, g3⟩, fun U hU hW => ⟨rfl, by rw [hU]; exact hZ.next hW.alike (fun _ _ _ => rfl), by rw [hU]; exact va_OF.moved hW.alike hF⟩⟩ rfl rfl hl.1 rfl (lv_room (Nat.le_of_ble_eq_true rfl)) sd_len_6 ⟨Nat.zero_le _, Nat.zero_le _⟩) (fun w st₀ t H1 L h0 ht hq hL => ?_)
  obtain ⟨hw, hh⟩ := hq
  cases hw
  have hH : H1 = s.heap := by rw [← ht, hh, h0]
  subst hH
  refine lv_ishr hx hb sd_len_9 ?_
  have e0 : nI bs.length >>> ((0 : Int32) &&& 31) = nI bs.length := by
    rw [show ((0 : Int32) &&& 31) = 0 by decide]
    apply Int32.toBitVec_inj.mp
    simp
  rw [e0]
  exact W.iret hx hb hr (fun t ht hW => ⟨rfl, ht⟩) (fun q hq => by
    rcases List.mem_append.mp hq with h | h
    · cases h
    · exact hL q h) sd_len_10
