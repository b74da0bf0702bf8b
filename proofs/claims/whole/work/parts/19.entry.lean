/-! WHAT HOLDS AT THE LAW'S ENTRY -/
def ab_f0 : List Cond := flatC (Jvm.Cond.and given_1 narrow_1)
set_option maxRecDepth 100000 in
theorem ab_inst : ∀ (a : Nat) (q : vw_C), vwCl[a]? = some q → Cond.instantiable q.1 q.2.2 ∈ gw := by
  intro a q h
  match a, h with
  | 0, h => cases h; exact ab_atw_ok (pos := 3052) (by decide +kernel)
  | 1, h => cases h; exact ab_atw_ok (pos := 1039) (by decide +kernel)
  | 2, h => cases h; exact ab_atw_ok (pos := 1033) (by decide +kernel)
  | 3, h => cases h; exact ab_atw_ok (pos := 2147) (by decide +kernel)
  | 4, h => cases h; exact ab_atw_ok (pos := 30) (by decide +kernel)
  | 5, h => cases h; exact ab_atw_ok (pos := 2137) (by decide +kernel)
  | 6, h => cases h; exact ab_atw_ok (pos := 1027) (by decide +kernel)
  | 7, h => cases h; exact ab_atw_ok (pos := 72) (by decide +kernel)
  | 8, h => cases h; exact ab_atw_ok (pos := 2028) (by decide +kernel)
  | 9, h => cases h; exact ab_atw_ok (pos := 2076) (by decide +kernel)
  | 10, h => cases h; exact ab_atw_ok (pos := 65) (by decide +kernel)
  | 11, h => cases h; exact ab_atw_ok (pos := 22) (by decide +kernel)
  | 12, h => cases h; exact ab_atw_ok (pos := 7166) (by decide +kernel)
  | n + 13, h => exact absurd h (by simp [vwCl])
theorem ab_ac_int : Cond.arrayClass .int ∈ gw := ab_atw_ok (pos := 175) (by decide +kernel)
theorem ab_ac_byte : Cond.arrayClass .byte ∈ gw := ab_atw_ok (pos := 63) (by decide +kernel)
theorem ab_ac_boolean : Cond.arrayClass .boolean ∈ gw := ab_atw_ok (pos := 2135) (by decide +kernel)
theorem ab_ac_long : Cond.arrayClass .long ∈ gw := ab_atw_ok (pos := 174) (by decide +kernel)
theorem ab_over : ∀ (t : Nat) (C : String), ab_aty[t]? = some (FieldType.object C) → Cond.arrayOver (.object C) ∈ lw_tbl := by
  intro t C h
  match t, h with
  | 0, h => cases h
  | 1, h => cases h
  | 2, h => cases h
  | 3, h => cases h
  | 4, h => cases h; exact List.mem_of_getElem? (i := 304) (by decide +kernel)
  | 5, h => cases h; exact List.mem_of_getElem? (i := 296) (by decide +kernel)
  | 6, h => cases h; exact List.mem_of_getElem? (i := 576) (by decide +kernel)
  | 7, h => cases h; exact List.mem_of_getElem? (i := 571) (by decide +kernel)
  | 8, h => cases h; exact List.mem_of_getElem? (i := 848) (by decide +kernel)
  | n + 9, h => exact absurd h (by simp [ab_aty])
def ab_sp : List (Nat × Nat × Nat × Nat × Nat × Nat) := [(33, 34, 35, 36, 37, 401), (96, 97, 98, 99, 100, 577), (107, 108, 109, 110, 111, 608), (113, 114, 115, 116, 117, 786), (119, 120, 121, 122, 123, 790), (128, 129, 130, 131, 132, 1168), (135, 136, 137, 138, 139, 1178), (143, 144, 145, 146, 147, 1186), (154, 155, 156, 157, 158, 1194), (161, 162, 163, 164, 165, 1196), (169, 170, 171, 172, 173, 1286), (180, 181, 182, 183, 184, 1318), (188, 189, 190, 191, 192, 1319), (196, 197, 198, 199, 200, 1320), (205, 206, 207, 208, 209, 1321), (215, 216, 217, 218, 219, 1396), (224, 225, 226, 227, 228, 1404), (232, 233, 234, 235, 236, 1405), (241, 242, 243, 244, 245, 1411), (252, 253, 254, 255, 256, 1420), (260, 261, 262, 263, 264, 1425), (267, 268, 269, 270, 271, 1438), (277, 278, 279, 280, 281, 1478), (329, 330, 331, 332, 333, 1507), (337, 338, 339, 340, 341, 1518), (344, 345, 346, 347, 348, 1533), (354, 355, 356, 357, 358, 1558), (365, 366, 367, 368, 369, 1559), (374, 375, 376, 377, 378, 1585), (384, 385, 386, 387, 388, 1587), (392, 393, 394, 395, 396, 1597), (398, 399, 400, 401, 402, 1610), (406, 407, 408, 409, 410, 1697), (415, 416, 417, 418, 419, 1699), (424, 425, 426, 427, 428, 1700), (434, 435, 436, 437, 438, 1701), (445, 446, 447, 448, 449, 1704), (451, 452, 453, 454, 455, 1708), (457, 458, 459, 460, 461, 1799), (537, 538, 539, 540, 541, 1804), (563, 564, 565, 566, 567, 1805), (584, 585, 586, 587, 588, 1806)]
/-- String constant z with bytes bs: what the start says of it, by its places q -/
def ab_strB (z : String × Nat × String × Nat) (bs : List Int32) (q : Nat × Nat × Nat × Nat × Nat × Nat) : Bool :=
  decide (ab_f0[q.1]? = some (Cond.exactly (Term.string z.1 z.2.1) "java/lang/String")) && decide (ab_f0[q.2.1]? = some (Cond.eq (.field (Term.string z.1 z.2.1) "java/lang/String" "coder" "B") (.int 0))) && decide (ab_f0[q.2.2.1]? = some (Cond.arrayOf (.field (Term.string z.1 z.2.1) "java/lang/String" "value" "[B") .byte)) && decide (ab_f0[q.2.2.2.1]? = some (Cond.eq (.length (.field (Term.string z.1 z.2.1) "java/lang/String" "value" "[B")) (.int (Int32.ofNat bs.length)))) &&
  (List.range bs.length).all (fun j => decide (ab_f0[q.2.2.2.2.1 + j]? = some (Cond.eq (.elem (.field (Term.string z.1 z.2.1) "java/lang/String" "value" "[B") (.int (Int32.ofNat j))) (.int (bs.getD j 0))))) && decide (lw_tbl[q.2.2.2.2.2]? = some (Cond.stringRef z.1 z.2.1 z.2.2.1)) && Nat.blt bs.length 2147483648
def ab_strC (k : Nat) : Bool := match ab_ldcs[k]?, ab_sbl[k]?, ab_sp[k]? with
  | some z, some bs, some q => ab_strB z bs q && Nat.beq z.2.2.2 (1000000 + k)
  | none, none, _ => true
  | _, _, _ => false
set_option maxRecDepth 100000 in
theorem ab_strs : (List.range 42).all ab_strC = true := by decide +kernel
theorem ab_strO {args : Array Value} {s : State} (hf : ∀ c ∈ ab_f0, c.before args s = true) (hts : ∀ w ∈ lw_tbl, w.before args s = true) (k : Nat) : ∃ a : Nat, ∀ z bs, ab_ldcs[k]? = some z → ab_sbl[k]? = some bs → vk_R z.1 z.2.1 z.2.2.1 a s ∧ ab_Str s.heap.size a bs s s.heap ∧ z.2.2.2 = 1000000 + k := by
  by_cases hk : k < 42
  · have hc := List.all_eq_true.mp ab_strs k (List.mem_range.mpr hk)
    unfold ab_strC at hc
    split at hc
    next z bs q hz hb hq =>
      rw [Bool.and_eq_true] at hc
      obtain ⟨hc, hk0⟩ := hc
      simp only [ab_strB, Bool.and_eq_true, decide_eq_true_eq] at hc
      obtain ⟨⟨⟨⟨⟨⟨h1, h2⟩, h3⟩, h4⟩, h5⟩, h6⟩, h7⟩ := hc
      have hl : bs.length < 2 ^ 31 := Nat.blt_eq.mp h7
      obtain ⟨adK, adV, hS, hev⟩ := vk_Sof (args := args) (s := s) (N := 1) (tm := fun _ => Term.string z.1 z.2.1) (len := [bs.length]) (byt := [bs]) (A := fun q => s.heap.size ≤ q) (fun i hi => by rw [show i = 0 by omega]; exact hl) (fun _ _ => hf _ (List.mem_of_getElem? h1)) (fun _ _ => hf _ (List.mem_of_getElem? h2)) (fun _ _ => hf _ (List.mem_of_getElem? h3)) (fun i hi => by rw [show i = 0 by omega]; exact hf _ (List.mem_of_getElem? h4)) (fun i hi j hj => by
        rw [show i = 0 by omega] at hj ⊢
        have h8 := List.all_eq_true.mp h5 j (List.mem_range.mpr hj)
        rw [decide_eq_true_eq] at h8
        exact hf _ (List.mem_of_getElem? h8)) (fun i j hi hj hne => absurd (show i = j by omega) hne) (fun a ha => Nat.not_le.mpr ha)
      obtain ⟨g1, g2, g3, g4⟩ := hS.1 0 (by omega)
      refine ⟨adK 0, fun z' bs' hz' hb' => ?_⟩
      rw [hz] at hz'
      rw [hb] at hb'
      cases hz'
      cases hb'
      exact ⟨vk_R.of (hts _ (List.mem_of_getElem? h6)) (hev 0 (by omega)), ⟨g1, g2, ⟨adV 0, g3, g4⟩, hl⟩, Nat.eq_of_beq_eq_true hk0⟩
    next hz hb => exact ⟨0, fun z bs hz' => by rw [hz] at hz'; cases hz'⟩
    next => cases hc
  · refine ⟨0, fun z bs hz => ?_⟩
    have : ab_ldcs[k]? = none := List.getElem?_eq_none (Nat.le_trans (Nat.le_of_ble_eq_true (by decide +kernel : Nat.ble ab_ldcs.length 42 = true)) (Nat.not_lt.mp hk))
    rw [this] at hz
    cases hz
def ab_sv0 : List Int32 := [0, 0, 0, 0, 0, 0, 0, 0, 1]
def ab_sv1 : List Int32 := [0, 63, 63, 20, 20, 3, 96, 96, 3]
def ab_nm (i : Nat) : String := match i with
  | 0 => "LEAST"
  | _ => "MOST"
theorem ab_stO {args : Array Value} {s : State} {n : String} {vs : List Int32} {pa pl pe ls : Nat} (hf : ∀ c ∈ ab_f0, c.before args s = true) (hts : ∀ w ∈ lw_tbl, w.before args s = true) (hl : vs.length = 9) (hc : (decide (ab_f0[pa]? = some (Cond.arrayOf (.static "BrowserHouse$Sheet" n "[I") .int)) && decide (ab_f0[pl]? = some (Cond.eq (.length (.static "BrowserHouse$Sheet" n "[I")) (.int (Int32.ofNat 9)))) && (List.range 9).all (fun j => decide (ab_f0[pe + j]? = some (Cond.eq (.elem (.static "BrowserHouse$Sheet" n "[I") (.int (Int32.ofNat j))) (.int (vs.getD j 0))))) && decide (lw_tbl[ls]? = some (Cond.laysStatic "BrowserHouse$Sheet" n "[I"))) = true) (hi : (Cond.initialized "BrowserHouse$Sheet").before args s = true) :
    ∃ t : Nat, va_Z "BrowserHouse$Sheet" n "[I" (.ref t) (fun q => s.heap.size ≤ q) s s.heap ∧ va_T .int t 9 (fun j => .int (vs.getD j 0)) (fun q => s.heap.size ≤ q) s s.heap := by
  simp only [Bool.and_eq_true, decide_eq_true_eq] at hc
  obtain ⟨⟨⟨h1, h2⟩, h3⟩, h4⟩ := hc
  obtain ⟨t, ht, hT⟩ := va_Tof (f := fun j => .int (vs.getD j 0)) (A := fun q => s.heap.size ≤ q) (N := 9) (by decide) (hf _ (List.mem_of_getElem? h1)) (va_eqt (hf _ (List.mem_of_getElem? h2))) (fun j hj => by
    have h8 := List.all_eq_true.mp h3 j (List.mem_range.mpr hj)
    rw [decide_eq_true_eq] at h8
    exact va_eqt (hf _ (List.mem_of_getElem? h8))) (fun a ha => Nat.not_le.mpr ha)
  exact ⟨t, va_Zof (hts _ (List.mem_of_getElem? h4)) hi ht (fun a ha => Nat.not_le.mpr ha), hT⟩
def ab_ext (L : Nat) (xs : Nat → Int32) (q : Nat) : Option (Nat × (Nat → Int32)) := if q = 2000000 then some (L, xs) else if q = 2000001 then some (9, fun j => ab_sv0.getD j 0) else if q = 2000002 then some (9, fun j => ab_sv1.getD j 0) else none
set_option maxHeartbeats 4000000 in
set_option maxRecDepth 100000 in
/-- the environment that the evaluator asks for, at the law's entry -/
theorem ab_entry {args : Array Value} {s : State} {b L : Nat} {xs : Nat → Int32} (hts : ∀ w ∈ lw_tbl, w.before args s = true) (hf : ∀ c ∈ ab_f0, c.before args s = true) (hX : va_X b L xs s s.heap) (hbl : b < s.heap.size) (hL : L < 2 ^ 31) :
    ∃ (D : va_G) (aC : Nat → ClassId) (g : Nat → Nat), (∀ q, q < 1000000 → g q = s.heap.size + q) ∧ g 2000000 = b ∧ ab_Env D aC s.heap.size g (ab_ext L xs) s s.heap := by
  have htg : ∀ w ∈ gw, w.before args s = true := fun w h => hts w (gw_in h)
  have h1 : ∀ k : Nat, ∃ z : ClassId × (Nat → Nat), ∀ q, vwCl[k]? = some q → u_Kn s q.1 q.2.1 q.2.2 z.1 z.2 := by
    intro k
    cases hk : vwCl[k]? with
    | none => exact ⟨(0, fun _ => 0), fun q h => by cases h⟩
    | some q =>
      obtain ⟨c, i, h⟩ := u_known htg (ab_clsOK k q hk).1 (htg _ (ab_inst k q hk))
      exact ⟨(c, i), fun q' h' => by cases h'; exact h⟩
  obtain ⟨z1, hz1⟩ := Classical.axiomOfChoice h1
  have prim : ∀ ty : FieldType, (∀ C, ty ≠ .object C) → Cond.arrayClass ty ∈ gw → ∃ c : ClassId, ArrOfT s c ty ∧ va_RA s c ty := by
    intro ty hne hm
    obtain ⟨c, k, comp, e1, e2, e3⟩ := Cond.arrayClass_spec (htg _ hm)
    refine ⟨c, fun n z => ⟨fun k h => (by cases h), k, e2, comp, e3⟩, ?_⟩
    cases ty <;> first | exact e1 | exact absurd rfl (hne _)
  have h2 : ∀ t : Nat, ∃ c : ClassId, ∀ ty, ab_aty[t]? = some ty → ArrOfT s c ty ∧ va_RA s c ty := by
    intro t
    cases ht : ab_aty[t]? with
    | none => exact ⟨0, fun ty h => by cases h⟩
    | some ty =>
      have : ∃ c : ClassId, ArrOfT s c ty ∧ va_RA s c ty := by
        match t, ht with
        | 0, ht => cases ht; exact prim _ (fun C h => by cases h) ab_ac_int
        | 1, ht => cases ht; exact prim _ (fun C h => by cases h) ab_ac_byte
        | 2, ht => cases ht; exact prim _ (fun C h => by cases h) ab_ac_boolean
        | 3, ht => cases ht; exact prim _ (fun C h => by cases h) ab_ac_long
        | n + 4, ht =>
          have hob : ∃ C, ty = .object C := by
            match n, ht with
            | 0, ht => cases ht; exact ⟨_, rfl⟩
            | 1, ht => cases ht; exact ⟨_, rfl⟩
            | 2, ht => cases ht; exact ⟨_, rfl⟩
            | 3, ht => cases ht; exact ⟨_, rfl⟩
            | 4, ht => cases ht; exact ⟨_, rfl⟩
            | n + 5, ht => exact absurd ht (by simp [ab_aty])
          obtain ⟨C, rfl⟩ := hob
          obtain ⟨comp, c, k, e1, e2, e3, e4, e5⟩ := Cond.arrayOver_spec (hts _ (ab_over _ C ht))
          exact ⟨c, fun n z => ⟨fun k h => (by cases h), k, e3, comp, e4⟩, k, comp, e3, e4, e1, e5⟩
      obtain ⟨c, hc⟩ := this
      exact ⟨c, fun ty' h' => by cases h'; exact hc⟩
  obtain ⟨aC, hz2⟩ := Classical.axiomOfChoice h2
  obtain ⟨adr, hz3⟩ := Classical.axiomOfChoice (ab_strO hf hts)
  have hini : (Cond.initialized "BrowserHouse$Sheet").before args s = true := hts _ (List.mem_of_getElem? (i := 241) (by decide +kernel))
  obtain ⟨t1, ht1, hT1⟩ := ab_stO (n := "LEAST") (vs := ab_sv0) (pa := 10) (pl := 11) (pe := 12) (ls := 1809) hf hts rfl (by decide +kernel) hini
  obtain ⟨t2, ht2, hT2⟩ := ab_stO (n := "MOST") (vs := ab_sv1) (pa := 22) (pl := 23) (pe := 24) (ls := 1811) hf hts rfl (by decide +kernel) hini
  have hst : ab_StS s.heap.size s s.heap := ⟨va_Zof (hts _ (List.mem_of_getElem? (i := 411) (by decide +kernel))) (hts _ (List.mem_of_getElem? (i := 230) (by decide +kernel))) (va_eqi (hf _ (List.mem_of_getElem? (i := 4) (by decide +kernel)))) (fun a ha => Nat.not_le.mpr ha), va_Zqof (hts _ (List.mem_of_getElem? (i := 427) (by decide +kernel))) (hts _ (List.mem_of_getElem? (i := 232) (by decide +kernel))) (hf _ (List.mem_of_getElem? (i := 5) (by decide +kernel))) (fun a ha => Nat.not_le.mpr ha)⟩
  refine ⟨(fun k => (z1 k).1, fun k => (z1 k).2), aC, fun q => if q < 1000000 then s.heap.size + q else if q = 2000000 then b else if q = 2000001 then t1 else if q = 2000002 then t2 else adr (q - 1000000), fun q hq => if_pos hq, rfl, ⟨⟨fun k q hq => hz1 k q hq, fun k q hq => ?_⟩, fun w hw hn => ?_, fun t C hC => va_AO.of (hts _ (ab_over t C hC)), fun q n f hq => ?_, fun q bs hq => ?_, hst, fun z hz => ?_, fun z hz => ?_⟩⟩
  · simp only [ab_tys, List.getElem?_mapIdx, Option.map_eq_some_iff] at hq
    obtain ⟨ty, e1, rfl⟩ := hq
    exact hz2 k ty e1
  · refine va_Nw.of ?_ (hts w hw)
    unfold ab_nest at hn
    split at hn
    · rfl
    · rfl
    · cases hn
  · unfold ab_ext at hq
    split at hq
    next e =>
      cases hq
      subst e
      obtain ⟨scr, g1, g2, g3, g4, g5⟩ := hX
      exact ⟨scr, g1, g2, g3, Nat.le_of_eq g4.symm, by rw [g4], g5, Nat.not_le.mpr hbl⟩
    next =>
      split at hq
      next e => cases hq; subst e; exact hT1
      next =>
        split at hq
        next e => cases hq; subst e; exact hT2
        next => cases hq
  · unfold ab_sbt at hq
    split at hq
    next hge =>
      have hlt : q - 1000000 < 42 := Nat.lt_of_lt_of_le (List.getElem?_eq_some_iff.mp hq).1 (Nat.le_of_ble_eq_true (by decide +kernel : Nat.ble ab_sbl.length 42 = true))
      have hlt2 : q - 1000000 < ab_ldcs.length := Nat.lt_of_lt_of_le hlt (Nat.le_of_ble_eq_true (by decide +kernel : Nat.ble 42 ab_ldcs.length = true))
      have h3 := (hz3 (q - 1000000) _ bs (List.getElem?_eq_getElem hlt2) hq).2.1
      dsimp only
      rw [if_neg (by omega), if_neg (by omega), if_neg (by omega), if_neg (by omega)]
      exact h3
    next => cases hq
  · obtain ⟨k, hk⟩ := List.mem_iff_getElem?.mp hz
    have hlt : k < 42 := Nat.lt_of_lt_of_le (List.getElem?_eq_some_iff.mp hk).1 (Nat.le_of_ble_eq_true (by decide +kernel : Nat.ble ab_ldcs.length 42 = true))
    have hlt2 : k < ab_sbl.length := Nat.lt_of_lt_of_le hlt (Nat.le_of_ble_eq_true (by decide +kernel : Nat.ble 42 ab_sbl.length = true))
    obtain ⟨h3, -, h5⟩ := hz3 k z _ hk (List.getElem?_eq_getElem hlt2)
    dsimp only
    rw [h5, if_neg (by omega), if_neg (by omega), if_neg (by omega), if_neg (by omega), Nat.add_sub_cancel_left]
    exact h3
  · simp only [ab_sts, List.mem_cons, List.not_mem_nil, or_false] at hz
    rcases hz with rfl | rfl
    · exact ht1
    · exact ht2
