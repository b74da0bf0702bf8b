/-! String constants: class, pool index, text, abstract address; statics: class, name, descriptor, abstract address -/
def ab_ldcs : List (String × Nat × String × Nat) := [("BrowserHouse$Tree", 30, "div p h1 ul li form span a b i br hr img input button style", 1000000), ("BrowserHouse$Net", 68, "//home/", 1000001), ("BrowserHouse$Address", 48, "//", 1000002), ("BrowserHouse$Sheet", 44, "id", 1000003), ("BrowserHouse$Sheet", 56, "class", 1000004), ("BrowserHouse$Net", 93, "//", 1000005), ("BrowserHouse$Answer", 26, "age=", 1000006), ("BrowserHouse$Answer", 38, "cookie=", 1000007), ("BrowserHouse$Answer", 48, "to=", 1000008), ("BrowserHouse$Answer", 57, "open", 1000009), ("BrowserHouse$Reader", 67, "</style", 1000010), ("BrowserHouse$Reader", 153, "&lt;", 1000011), ("BrowserHouse$Reader", 155, "&gt;", 1000012), ("BrowserHouse$Reader", 157, "&amp;", 1000013), ("BrowserHouse$Reader", 159, "&quot;", 1000014), ("BrowserHouse$Node", 69, "value", 1000015), ("BrowserHouse$Node", 74, "type", 1000016), ("BrowserHouse$Node", 76, "check", 1000017), ("BrowserHouse$Node", 86, "checked", 1000018), ("BrowserHouse$Reader", 101, "<!--", 1000019), ("BrowserHouse$Reader", 103, "-->", 1000020), ("BrowserHouse$Acts", 118, "onload", 1000021), ("BrowserHouse$Acts", 192, "text class add del val go get put read wait stop", 1000022), ("BrowserHouse$Acts", 260, "self", 1000023), ("BrowserHouse$Tree", 143, "id", 1000024), ("BrowserHouse$Tree", 127, "class", 1000025), ("BrowserHouse$Acts", 163, "onpress", 1000026), ("BrowserHouse$Acts", 165, "onkey", 1000027), ("BrowserHouse$Acts", 341, "action", 1000028), ("BrowserHouse$Acts", 353, "name", 1000029), ("BrowserHouse$Acts", 369, "on", 1000030), ("BrowserHouse$Acts", 318, "href", 1000031), ("BrowserHouse$Tree", 193, "&lt;", 1000032), ("BrowserHouse$Tree", 195, "&gt;", 1000033), ("BrowserHouse$Tree", 197, "&amp;", 1000034), ("BrowserHouse$Tree", 199, "&quot;", 1000035), ("BrowserHouse$Tree", 181, "=\"", 1000036), ("BrowserHouse$Tree", 191, "</", 1000037), ("BrowserHouse$Sheet", 159, "display color background margin padding border width height size align float", 1000038), ("BrowserHouse$Sheet", 170, "block inline none flex", 1000039), ("BrowserHouse$Sheet", 172, "left center right", 1000040), ("BrowserHouse$Sheet", 174, "none left right", 1000041)]
def ab_sts : List (String × String × String × Nat) := [("BrowserHouse$Sheet", "LEAST", "[I", 2000001), ("BrowserHouse$Sheet", "MOST", "[I", 2000002)]
def ab_sbl : List (List Int32) := [[100, 105, 118, 32, 112, 32, 104, 49, 32, 117, 108, 32, 108, 105, 32, 102, 111, 114, 109, 32, 115, 112, 97, 110, 32, 97, 32, 98, 32, 105, 32, 98, 114, 32, 104, 114, 32, 105, 109, 103, 32, 105, 110, 112, 117, 116, 32, 98, 117, 116, 116, 111, 110, 32, 115, 116, 121, 108, 101], [47, 47, 104, 111, 109, 101, 47], [47, 47], [105, 100], [99, 108, 97, 115, 115], [47, 47], [97, 103, 101, 61], [99, 111, 111, 107, 105, 101, 61], [116, 111, 61], [111, 112, 101, 110], [60, 47, 115, 116, 121, 108, 101], [38, 108, 116, 59], [38, 103, 116, 59], [38, 97, 109, 112, 59], [38, 113, 117, 111, 116, 59], [118, 97, 108, 117, 101], [116, 121, 112, 101], [99, 104, 101, 99, 107], [99, 104, 101, 99, 107, 101, 100], [60, 33, 45, 45], [45, 45, 62], [111, 110, 108, 111, 97, 100], [116, 101, 120, 116, 32, 99, 108, 97, 115, 115, 32, 97, 100, 100, 32, 100, 101, 108, 32, 118, 97, 108, 32, 103, 111, 32, 103, 101, 116, 32, 112, 117, 116, 32, 114, 101, 97, 100, 32, 119, 97, 105, 116, 32, 115, 116, 111, 112], [115, 101, 108, 102], [105, 100], [99, 108, 97, 115, 115], [111, 110, 112, 114, 101, 115, 115], [111, 110, 107, 101, 121], [97, 99, 116, 105, 111, 110], [110, 97, 109, 101], [111, 110], [104, 114, 101, 102], [38, 108, 116, 59], [38, 103, 116, 59], [38, 97, 109, 112, 59], [38, 113, 117, 111, 116, 59], [61, 34], [60, 47], [100, 105, 115, 112, 108, 97, 121, 32, 99, 111, 108, 111, 114, 32, 98, 97, 99, 107, 103, 114, 111, 117, 110, 100, 32, 109, 97, 114, 103, 105, 110, 32, 112, 97, 100, 100, 105, 110, 103, 32, 98, 111, 114, 100, 101, 114, 32, 119, 105, 100, 116, 104, 32, 104, 101, 105, 103, 104, 116, 32, 115, 105, 122, 101, 32, 97, 108, 105, 103, 110, 32, 102, 108, 111, 97, 116], [98, 108, 111, 99, 107, 32, 105, 110, 108, 105, 110, 101, 32, 110, 111, 110, 101, 32, 102, 108, 101, 120], [108, 101, 102, 116, 32, 99, 101, 110, 116, 101, 114, 32, 114, 105, 103, 104, 116], [110, 111, 110, 101, 32, 108, 101, 102, 116, 32, 114, 105, 103, 104, 116]]
def ab_sbt (q : Nat) : Option (List Int32) := if 1000000 ≤ q then ab_sbl[q - 1000000]? else none
/-- what holds of the machine around the system's own cells -/
def ab_Env (D : va_G) (aC : Nat → ClassId) (B : Nat) (g : Nat → Nat) (ext : Nat → Option (Nat × (Nat → Int32))) (U : State) (H : Heap) : Prop :=
  va_K D vwCl (ab_tys aC) U ∧ (∀ w ∈ lw_tbl, ab_nest w = true → va_Nw w U) ∧ (∀ (t : Nat) (C : String), ab_aty[t]? = some (FieldType.object C) → va_AO C U) ∧
  (∀ (q n : Nat) (f : Nat → Int32), ext q = some (n, f) → va_T .int (g q) n (fun j => .int (f j)) (fun q => B ≤ q) U H) ∧ (∀ (q : Nat) (bs : List Int32), ab_sbt q = some bs → ab_Str B (g q) bs U H) ∧ ab_StS B U H ∧
  (∀ z ∈ ab_ldcs, vk_R z.1 z.2.1 z.2.2.1 (g z.2.2.2) U) ∧ (∀ z ∈ ab_sts, va_Z z.1 z.2.1 z.2.2.1 (.ref (g z.2.2.2)) (fun q => B ≤ q) U H)
theorem ab_nest_warm {w : Cond} (hn : ab_nest w = true) {s U : State} (hW : s.WarmedH U.vm) (h : va_Nw w s) : va_Nw w U := by
  unfold ab_nest at hn
  split at hn
  · exact va_Nw.warmF hW h
  · exact va_Nw.warmM hW h
  · cases hn
theorem ab_Env.next {D : va_G} {aC : Nat → ClassId} {B : Nat} {g : Nat → Nat} {ext : Nat → Option (Nat × (Nat → Int32))} {s U : State} {H H1 : Heap} (hW : s.WarmedH U.vm) (hq : ∀ a : Nat, a < H.size → ¬ B ≤ a → H1[a]? = H[a]?) (h : ab_Env D aC B g ext s H) : ab_Env D aC B g ext U H1 := by
  obtain ⟨h1, h2, h3, h4, h5, h6, h7, h8⟩ := h
  exact ⟨va_K.moved hW.alike h1, fun w hw hn => ab_nest_warm hn hW (h2 w hw hn), fun t C hC => va_AO.moved hW.alike (h3 t C hC), fun q n f hf => va_T.moved hW.alike ((h4 q n f hf).kept hq), fun q bs hb => (h5 q bs hb).next hW.alike hq, h6.next hW.alike hq, fun z hz => vk_R.warm hW (h7 z hz), fun z hz => va_Z.moved hW.alike ((h8 z hz).kept hq)⟩
/-- what a heap instruction of method M links -/
def ab_hok (M : ab_M) (i : Instr) (a b c : Nat) : Prop := match i with
  | .getfield idx => ab_fl M.1.cls idx a b c
  | .putfield idx => ab_fl M.1.cls idx a b c ∧ ∀ z, vwCl[a]? = some z → (z.2.1 b).2.2.2 = false ∨ (c = 0 ∧ (z.2.1 b).2.2.2 = true ∧ M.1.name = "<init>" ∧ (z.2.1 b).1 = M.1.cls)
  | .newarray t => Cond.arrayClass (newarray.typeOf t) ∈ gw
  | .anewarray idx => ∃ C, ab_aty[a]? = some (FieldType.object C) ∧ Cond.classLink M.1.cls idx C ∈ gw
  | .new idx => ∃ z, vwCl[a]? = some z ∧ Cond.classLink M.1.cls idx z.1 ∈ gw ∧ Cond.instantiable z.1 z.2.2 ∈ gw ∧ Cond.initialized z.1 ∈ gw
  | .getstatic idx => ∃ z ∈ ab_sts, a = z.2.2.2 ∧ Cond.fieldLink M.1.cls idx z.1 z.2.1 z.2.2.1 ∈ gw
  | .ldc idx => if c = 0 then Cond.constant M.1.cls idx (Int32.ofNat a) ∈ gw else ∃ tx, (M.1.cls, idx, tx, a) ∈ ab_ldcs
  | .ldc_w idx => if c = 0 then Cond.constant M.1.cls idx (Int32.ofNat a) ∈ gw else ∃ tx, (M.1.cls, idx, tx, a) ∈ ab_ldcs
  | .ldc2_w idx => Cond.constantLong M.1.cls idx (Int64.ofNat a) ∈ gw
  | .invokestatic idx => if c = 2 then (Cond.methodLink M.1.cls idx Lib.Math.max.name ∈ gw ∧ Cond.static Lib.Math.max.name ∈ gw ∧ Cond.initialized "java/lang/Math" ∈ gw ∧ Cond.code Lib.Math.max.name Lib.Math.max.code 2 (some .int) ∈ gw) ∧ 1 ≤ M.2.2.2.2.1 ∧ 22 ≤ M.2.2.2.2.2.1
      else if c = 3 then (Cond.methodLink M.1.cls idx Lib.Math.min.name ∈ gw ∧ Cond.static Lib.Math.min.name ∈ gw ∧ Cond.initialized "java/lang/Math" ∈ gw ∧ Cond.code Lib.Math.min.name Lib.Math.min.code 2 (some .int) ∈ gw) ∧ 1 ≤ M.2.2.2.2.1 ∧ 22 ≤ M.2.2.2.2.2.1
      else if c = 4 then (Cond.methodLink M.1.cls idx arraycopyName ∈ gw ∧ Cond.native arraycopyName ∈ gw ∧ Cond.static arraycopyName ∈ gw ∧ Cond.initialized "java/lang/System" ∈ gw) ∧ 1 ≤ M.2.2.2.2.1 ∧ 9 + (nativeFrameWords "java/lang/System" "arraycopy" 5 + 11) ≤ M.2.2.2.2.2.1 else True
  | .invokevirtual idx => if c = 7 then Cond.methodLink M.1.cls idx sy_len ∈ gw ∧ 2 ≤ M.2.2.2.2.1 ∧ 40 ≤ M.2.2.2.2.2.1 else if c = 8 then Cond.methodLink M.1.cls idx sy_charAt ∈ gw ∧ 4 ≤ M.2.2.2.2.1 ∧ 85 ≤ M.2.2.2.2.2.1 else True
  | .invokespecial idx => if c = 9 then (Cond.methodLink M.1.cls idx Lib.objectInit ∈ gw ∧ Cond.instanceMethod Lib.objectInit ∈ gw ∧ Cond.code Lib.objectInit ⟨#[0xb1]⟩ 1 none ∈ gw) ∧ 1 ≤ M.2.2.2.2.1 ∧ 21 ≤ M.2.2.2.2.2.1 else True
  | _ => True
section AB6
variable {p : Program} {l : Launch} {e : Env} {R : Room} {s : State} {m : MethodId} {args : Array Value} {below : List Frame} {meth : Method} {c : Code} {H : Heap} {locs : List Loc} {cells slots : Nat} {Q : State → Prop}
variable {cc : ByteArray} {pc : Nat} {ls : Array Slot} {D : va_G} {aC : Nat → ClassId} {B : Nat} {g : Nat → Nat} {h h' : ab_H} {st st' : List Value} {o : String} {ext : Nat → Option (Nat × (Nat → Int32))}
theorem ab_ldcWS (hx : p.tables.exec = Jvm.exec) (hb : c.code = cc) {tx : String} {index q : Nat} {rest : List Value} (hown : s.vm.findClass o = some m.cls) (hZ : vk_R o index tx q s) (hd : decode cc pc = .ok (.ldc_w index, 3))
    (k : W p l e R s m args below meth c H locs cells slots Q (F0 m (pc + 3) ls (.ref q :: rest))) : W p l e R s m args below meth c H locs cells slots Q (F0 m pc ls rest) := by
  intro T hT X
  obtain ⟨t, a1, b1⟩ := k T hT X
  exact ⟨t, X.ldcStringW hx hown (text := tx) (a := q) hZ.1 hZ.2 (g := F0 m pc ls rest) rfl (by rw [hb]; exact hd) t a1, b1⟩
theorem ab_hslen_ok {idx nL : Nat} (hx : p.tables.exec = Jvm.exec) (hb : c.code = cc) (hml : c.maxLocals = nL) (hls : ls.size = nL) (hts : ∀ w ∈ gw, w.before args s = true) (hown : s.vm.findClass o = some m.cls) (hE : ab_Env D aC B g ext s s.heap) (hS : va_S (fun q => B ≤ q) s.heap H locs)
    (hlk : Cond.methodLink o idx sy_len ∈ gw) (hfr : 2 ≤ R.frames) (hlo : 40 ≤ R.locals) (hsum : (st'.map fun v => v.category).sum ≤ 9) (hcl : cells ≤ R.cells) (hsl : slots ≤ R.slots)
    (hs : ab_hslen ab_sbt st h = some (st', h')) (hd : decode cc pc = .ok (.invokevirtual idx, 3)) (hw : ab_Wd D aC B g h H) (hsz : s.heap.size + cells = B + h.length)
    (kk : ∀ (locs1 : List Loc), va_S (fun q => B ≤ q) s.heap H locs1 → h' = h → W p l e R s m args below meth c H locs1 cells slots Q (F0 m (pc + 3) ls (st'.map (ab_v g)))) : W p l e R s m args below meth c H locs cells slots Q (F0 m pc ls (st.map (ab_v g))) := by
  unfold ab_hslen at hs
  split at hs
  next q r =>
    split at hs
    next bs hbs =>
      cases hs
      obtain ⟨-, -, -, -, hstr, hst, -, -⟩ := hE
      have hstr := hstr q bs hbs
      have hO : ∃ cell : Cell, H[g q]? = some cell ∧ cell.vm.isStatics = false ∧ s.vm.findClass "java/lang/String" = some cell.cls := by
        obtain ⟨cell, g1, g2, g3, -⟩ := hstr.1.kept hS.2.1
        exact ⟨cell, g1, g2, g3⟩
      refine ab_run (va_runV (As := []) (rest := r.map (ab_v g)) ⟨hx, hb, hml, hown, hts⟩ (sc_len l B (g q) bs) (cwV 0 hts (ab_goodA (by
        intro w hw
        simp only [List.mem_cons, List.not_mem_nil, or_false] at hw
        rcases hw with rfl | rfl | rfl | rfl
        · exact hlk
        · exact sg_i_len
        · exact sg_s_len
        · exact sg_nS) (ab_goodC sg_c_len)) rfl rfl rfl (by decide +kernel) ⟨hfr, hlo⟩) ⟨fun _ _ _ _ q => q, hO, fun U hU hW => ⟨rfl, by rw [hU]; exact hst.next hW.alike hS.2.1, by rw [hU]; exact hstr.next hW.alike hS.2.1⟩⟩ rfl rfl hls rfl (lv_room (by rw [ab_catsum]; simp only [List.map_cons, List.sum_cons] at hsum; have e : (Value.int (nI bs.length)).category = 1 := rfl; omega)) hd ⟨hcl, hsl⟩) (fun w st₀ t H1 L h00 ht hq hL => ?_)
      obtain ⟨hw', hh⟩ := hq
      cases hw'
      have hH : H1 = H := by rw [← ht, hh, h00]
      subst hH
      exact kk (locs ++ L) ⟨hS.1, hS.2.1, fun z hz => by
        rcases List.mem_append.mp hz with hz | hz
        · exact hS.2.2 z hz
        · exact (hL z hz).elim⟩ rfl
    next => cases hs
  next => cases hs
theorem ab_inb_lt {i : Int32} {n : Nat} (h : ab_inb i n = true) (hn : n < 2 ^ 31) : ¬ i < 0 ∧ i.toNatClampNeg < n ∧ i < nI n := by
  have h1 := ab_inb_ok h
  have h0 : ¬ i < 0 := fun z => h1 (Or.inl z)
  have h2 : i.toNatClampNeg < n := Nat.not_le.mp fun z => h1 (Or.inr z)
  refine ⟨h0, h2, ?_⟩
  have hz0 : (0 : Int) ≤ i.toInt := by
    have := Int32.not_lt.mp h0
    simpa using Int32.le_iff_toInt_le.mp this
  apply Int32.lt_iff_toInt_lt.mpr
  rw [nI_toInt hn]
  have : i.toInt.toNat < n := h2
  omega
theorem ab_hsat_ok {idx nL : Nat} (hx : p.tables.exec = Jvm.exec) (hb : c.code = cc) (hml : c.maxLocals = nL) (hls : ls.size = nL) (hts : ∀ w ∈ gw, w.before args s = true) (hown : s.vm.findClass o = some m.cls) (hE : ab_Env D aC B g ext s s.heap) (hS : va_S (fun q => B ≤ q) s.heap H locs)
    (hlk : Cond.methodLink o idx sy_charAt ∈ gw) (hfr : 4 ≤ R.frames) (hlo : 85 ≤ R.locals) (hsum : (st'.map fun v => v.category).sum ≤ 9) (hcl : cells ≤ R.cells) (hsl : slots ≤ R.slots)
    (hs : ab_hsat ab_sbt st h = some (st', h')) (hd : decode cc pc = .ok (.invokevirtual idx, 3)) (hw : ab_Wd D aC B g h H) (hsz : s.heap.size + cells = B + h.length)
    (kk : ∀ (locs1 : List Loc), va_S (fun q => B ≤ q) s.heap H locs1 → h' = h → W p l e R s m args below meth c H locs1 cells slots Q (F0 m (pc + 3) ls (st'.map (ab_v g)))) : W p l e R s m args below meth c H locs cells slots Q (F0 m pc ls (st.map (ab_v g))) := by
  unfold ab_hsat at hs
  split at hs
  next i q r =>
    split at hs
    next bs hbs =>
      split at hs
      next hin =>
        cases hs
        obtain ⟨-, -, -, -, hstr, hst, -, -⟩ := hE
        have hstr := hstr q bs hbs
        obtain ⟨i0, i1, i2⟩ := ab_inb_lt hin hstr.2.2.2
        have hO : ∃ cell : Cell, H[g q]? = some cell ∧ cell.vm.isStatics = false ∧ s.vm.findClass "java/lang/String" = some cell.cls := by
          obtain ⟨cell, g1, g2, g3, -⟩ := hstr.1.kept hS.2.1
          exact ⟨cell, g1, g2, g3⟩
        refine ab_run (va_runV (As := [.int i]) (rest := r.map (ab_v g)) ⟨hx, hb, hml, hown, hts⟩ (sc_at l B (g q) bs i i0 i1 i2) (cwV 1 hts (ab_goodA (by
          intro w hw
          simp only [List.mem_cons, List.not_mem_nil, or_false] at hw
          rcases hw with rfl | rfl | rfl | rfl
          · exact hlk
          · exact sg_i_charAt
          · exact sg_s_charAt
          · exact sg_nS) (ab_goodC sg_c_charAt)) rfl rfl rfl (by decide +kernel) ⟨hfr, hlo⟩) ⟨fun _ _ _ _ q => q, hO, fun U hU hW => ⟨rfl, by rw [hU]; exact hst.next hW.alike hS.2.1, by rw [hU]; exact hstr.next hW.alike hS.2.1⟩⟩ rfl rfl hls rfl (lv_room (by rw [ab_catsum]; simp only [List.map_cons, List.sum_cons] at hsum; have e : (Value.int (bs.getD i.toNatClampNeg 0 &&& 255)).category = 1 := rfl; omega)) hd ⟨hcl, hsl⟩) (fun w st₀ t H1 L h00 ht hq hL => ?_)
        obtain ⟨hw', hh⟩ := hq
        cases hw'
        have hH : H1 = H := by rw [← ht, hh, h00]
        subst hH
        exact kk (locs ++ L) ⟨hS.1, hS.2.1, fun z hz => by
          rcases List.mem_append.mp hz with hz | hz
          · exact hS.2.2 z hz
          · exact (hL z hz).elim⟩ rfl
      next => cases hs
    next => cases hs
  next => cases hs
end AB6

