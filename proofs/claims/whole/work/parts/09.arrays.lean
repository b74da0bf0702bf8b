section AB5
variable {p : Program} {l : Launch} {e : Env} {R : Room} {s : State} {m : MethodId} {args : Array Value} {below : List Frame} {meth : Method} {c : Code} {H : Heap} {locs : List Loc} {cells slots : Nat} {Q : State → Prop}
variable {cc : ByteArray} {pc : Nat} {ls : Array Slot} {D : va_G} {aC : Nat → ClassId} {B : Nat} {g : Nat → Nat} {h h' : ab_H} {st st' : List Value} {o : String}
theorem ab_RA_eq {c1 c2 : ClassId} {ty : FieldType} (h1 : va_RA s c1 ty) (h2 : va_RA s c2 ty) : c1 = c2 := by
  cases ty with
  | object C =>
    obtain ⟨_, _, -, -, -, e1⟩ := h1
    obtain ⟨_, _, -, -, -, e2⟩ := h2
    exact Option.some.inj (e1.symm.trans e2)
  | _ => exact Option.some.inj (h1.symm.trans h2)
theorem ab_newcA {cA : ClassId} {t : Nat} {ty : FieldType} (hK : va_K D vwCl (ab_tys aC) s) (ht : (ab_tys aC)[t]? = some (aC t, ty)) (hK1 : va_K D vwCl (ab_tys aC ++ [(cA, ty)]) s) : cA = aC t := by
  have h1 := (hK1.2 (ab_tys aC).length (cA, ty) (by rw [List.getElem?_append_right (Nat.le_refl _), Nat.sub_self]; rfl)).2
  exact ab_RA_eq h1 (hK.2 t _ ht).2
theorem ab_lastE {x : va_E} {q : Nat} : (ab_ws B aC g h ++ [(q, x)])[h.length]? = some (q, x) := by
  rw [List.getElem?_append_right (by rw [ab_ws_len]; exact Nat.le_refl _), ab_ws_len, Nat.sub_self]; rfl
theorem ab_hnewa_ok {at0 : ArrayType} (hx : p.tables.exec = Jvm.exec) (hb : c.code = cc) (hts : ∀ w ∈ gw, w.before args s = true) (hK : va_K D vwCl (ab_tys aC) s) (hg : ∀ q, q < 1000000 → g q = B + q) (hB : B ≤ s.heap.size) (hsz : s.heap.size + cells = B + h.length) (hw : ab_Wd D aC B g h H) (hS : va_S (fun q => B ≤ q) s.heap H locs)
    (hlk : Cond.arrayClass (newarray.typeOf at0) ∈ gw)
    (hs : ab_hnewa at0 st h = some (st', h')) (hd : decode cc pc = .ok (.newarray at0, 2)) (hcells : cells + 1 ≤ R.cells) (hslots : slots + (ab_sz h' - ab_sz h) ≤ R.slots)
    (kk : ∀ (H1 : Heap), ab_Wd D aC B g h' H1 → va_S (fun q => B ≤ q) s.heap H1 locs → h'.length = h.length + 1 → ab_sz h ≤ ab_sz h' → W p l e R s m args below meth c H1 locs (cells + 1) (slots + (ab_sz h' - ab_sz h)) Q (F0 m (pc + 2) ls (st'.map (ab_v g)))) : W p l e R s m args below meth c H locs cells slots Q (F0 m pc ls (st.map (ab_v g))) := by
  unfold ab_hnewa at hs
  split at hs
  next n r =>
    split at hs
    next => cases hs
    next hn =>
      split at hs
      next hc =>
        obtain ⟨hz, hlt⟩ := hc
        have core : ∀ (t : Nat) (ty : FieldType) (x : (Nat → Int32) ⊕ (Nat → Int64) ⊕ (Nat → UInt32) ⊕ (Nat → UInt64) ⊕ (Nat → Option Nat)), newarray.typeOf at0 = ty → (ab_tys aC)[t]? = some (aC t, ty) → (∀ cA : ClassId, vp_cell cA (n.toNatClampNeg, x) = arrV cA n.toNatClampNeg (fun _ => defaultValue ty)) → componentBytes ty ≤ 8 → ab_cX g x = x → ab_fitE (.inl (t, n.toNatClampNeg, x)) → (.ref h.length :: r, h ++ [.inl (t, n.toNatClampNeg, x)]) = (st', h') → W p l e R s m args below meth c H locs cells slots Q (F0 m pc ls (.int n :: r.map (ab_v g))) := by
          intro t ty x hty htt hcell hcb hcx hfit he
          cases he
          have hdel : ab_sz (h ++ [.inl (t, n.toNatClampNeg, x)]) - ab_sz h = n.toNatClampNeg := by rw [ab_sz_app]; simp [ab_esz]
          rw [hdel] at hslots kk
          refine va_newa (D := D) (a0 := (n.toNatClampNeg, x)) hx hb (hts _ hlk) hty hK hw.1 (ab_ws_D B aC g h) hS (fun q hq => Nat.le_trans hB hq) hcell hn rfl (Nat.le_trans (Nat.mul_le_mul_left _ hcb) hz) hcells hslots hd (fun q cA H1 hK1 hP hD hS1 => ab_wsz (fun hu => ?_))
          have hcA := ab_newcA hK htt hK1
          subst hcA
          have hq := ab_next hsz hD ((hP _ _ ab_lastE).lt) hu
          have hgq : g h.length = q := by rw [hg _ hlt, hq]
          have hk := kk H1 (ab_Wd_app hw hlt hP hq (by show _ = ab_cE aC g (.inl (t, n.toNatClampNeg, x)); simp only [ab_cE, hcx]) hfit) hS1 (by simp) (by rw [ab_sz_app]; omega)
          rw [← hgq]
          exact hk
        split at hs
        · exact core 0 .int _ rfl ab_at0 (fun _ => rfl) (by decide) rfl trivial (Option.some.inj hs)
        · exact core 1 .byte (.inl (fun _ => 0)) rfl ab_at1 (fun _ => rfl) (by decide) rfl (fun _ => (by decide : fits .byte (.int 0) = true)) (Option.some.inj hs)
        · exact core 2 .boolean _ rfl ab_at2 (fun _ => rfl) (by decide) rfl trivial (Option.some.inj hs)
        · exact core 3 .long _ rfl ab_at3 (fun _ => rfl) (by decide) rfl trivial (Option.some.inj hs)
        · cases hs
      next => cases hs
  next => cases hs
theorem ab_hnewq_ok {t idx : Nat} (hx : p.tables.exec = Jvm.exec) (hb : c.code = cc) (hts : ∀ w ∈ gw, w.before args s = true) (hown : s.vm.findClass o = some m.cls) (hK : va_K D vwCl (ab_tys aC) s) (hAO : ∀ (t : Nat) (C : String), ab_aty[t]? = some (FieldType.object C) → va_AO C s) (hg : ∀ q, q < 1000000 → g q = B + q) (hB : B ≤ s.heap.size) (hsz : s.heap.size + cells = B + h.length) (hw : ab_Wd D aC B g h H) (hS : va_S (fun q => B ≤ q) s.heap H locs)
    (hlk : ∃ C, ab_aty[t]? = some (.object C) ∧ Cond.classLink o idx C ∈ gw)
    (hs : ab_hnewq t st h = some (st', h')) (hd : decode cc pc = .ok (.anewarray idx, 3)) (hcells : cells + 1 ≤ R.cells) (hslots : slots + (ab_sz h' - ab_sz h) ≤ R.slots)
    (kk : ∀ (H1 : Heap), ab_Wd D aC B g h' H1 → va_S (fun q => B ≤ q) s.heap H1 locs → h'.length = h.length + 1 → ab_sz h ≤ ab_sz h' → W p l e R s m args below meth c H1 locs (cells + 1) (slots + (ab_sz h' - ab_sz h)) Q (F0 m (pc + 3) ls (st'.map (ab_v g)))) : W p l e R s m args below meth c H locs cells slots Q (F0 m pc ls (st.map (ab_v g))) := by
  unfold ab_hnewq at hs
  split at hs
  next n r =>
    split at hs
    next => cases hs
    next hn =>
      split at hs
      next hc =>
        cases hs
        obtain ⟨hz, hlt⟩ := hc
        obtain ⟨C, hC, h1⟩ := hlk
        have htt := ab_tys_get (aC := aC) hC
        have hdel : ab_sz (h ++ [.inl (t, n.toNatClampNeg, .inr (.inr (.inr (.inr (fun _ => none)))))]) - ab_sz h = n.toNatClampNeg := by rw [ab_sz_app]; simp [ab_esz]
        rw [hdel] at hslots kk
        refine va_newq (D := D) hx hb hown (hts _ h1) (hAO t C hC) hK hw.1 (ab_ws_D B aC g h) hS (fun q hq => Nat.le_trans hB hq) hn rfl (by omega) hcells hslots hd (fun q cA H1 hK1 hP hD hS1 => ab_wsz (fun hu => ?_))
        have hcA := ab_newcA hK htt hK1
        subst hcA
        have hq := ab_next hsz hD ((hP _ _ ab_lastE).lt) hu
        have hgq : g h.length = q := by rw [hg _ hlt, hq]
        have hk := kk H1 (ab_Wd_app (en := .inl (t, n.toNatClampNeg, .inr (.inr (.inr (.inr (fun _ => none)))))) hw hlt hP hq rfl (by unfold ab_fitE; split <;> first | trivial | (next hz => cases hz))) hS1 (by simp) (by rw [ab_sz_app]; omega)
        rw [← hgq]
        exact hk
      next => cases hs
  next => cases hs
theorem ab_catsum (g : Nat → Nat) (r : List Value) : ((r.map (ab_v g)).map fun v => v.category).sum = (r.map fun v => v.category).sum := by
  rw [List.map_map]
  have : ((fun v => v.category) ∘ ab_v g) = fun v : Value => v.category := by funext v; exact ab_v_cat g v
  rw [this]
theorem ab_hmax_ok {idx : Nat} (hx : p.tables.exec = Jvm.exec) (hb : c.code = cc) (hml : c.maxLocals = ls.size) (hts : ∀ w ∈ gw, w.before args s = true) (hown : s.vm.findClass o = some m.cls)
    (hlk : Cond.methodLink o idx Lib.Math.max.name ∈ gw ∧ Cond.static Lib.Math.max.name ∈ gw ∧ Cond.initialized "java/lang/Math" ∈ gw ∧ Cond.code Lib.Math.max.name Lib.Math.max.code 2 (some .int) ∈ gw) (hfr : 1 ≤ R.frames) (hlo : (st'.map fun v => v.category).sum + 13 ≤ R.locals) (hc1 : cells ≤ R.cells) (hc2 : slots ≤ R.slots)
    (hs : ab_hmax st h = some (st', h')) (hd : decode cc pc = .ok (.invokestatic idx, 3)) (kk : h' = h → W p l e R s m args below meth c H locs cells slots Q (F0 m (pc + 3) ls (st'.map (ab_v g)))) : W p l e R s m args below meth c H locs cells slots Q (F0 m pc ls (st.map (ab_v g))) := by
  unfold ab_hmax at hs
  split at hs
  next y x r =>
    cases hs
    exact va_mmax hx hb hml hown (hts _ hlk.1) (hts _ hlk.2.1) (hts _ hlk.2.2.1) (hts _ hlk.2.2.2) hfr (by rw [ab_catsum]; simp only [List.map_cons, List.sum_cons] at hlo; omega) hc1 hc2 hd (kk rfl)
  next => cases hs
theorem ab_hmin_ok {idx : Nat} (hx : p.tables.exec = Jvm.exec) (hb : c.code = cc) (hml : c.maxLocals = ls.size) (hts : ∀ w ∈ gw, w.before args s = true) (hown : s.vm.findClass o = some m.cls)
    (hlk : Cond.methodLink o idx Lib.Math.min.name ∈ gw ∧ Cond.static Lib.Math.min.name ∈ gw ∧ Cond.initialized "java/lang/Math" ∈ gw ∧ Cond.code Lib.Math.min.name Lib.Math.min.code 2 (some .int) ∈ gw) (hfr : 1 ≤ R.frames) (hlo : (st'.map fun v => v.category).sum + 13 ≤ R.locals) (hc1 : cells ≤ R.cells) (hc2 : slots ≤ R.slots)
    (hs : ab_hmin st h = some (st', h')) (hd : decode cc pc = .ok (.invokestatic idx, 3)) (kk : h' = h → W p l e R s m args below meth c H locs cells slots Q (F0 m (pc + 3) ls (st'.map (ab_v g)))) : W p l e R s m args below meth c H locs cells slots Q (F0 m pc ls (st.map (ab_v g))) := by
  unfold ab_hmin at hs
  split at hs
  next y x r =>
    cases hs
    exact va_mmin hx hb hml hown (hts _ hlk.1) (hts _ hlk.2.1) (hts _ hlk.2.2.1) (hts _ hlk.2.2.2) hfr (by rw [ab_catsum]; simp only [List.map_cons, List.sum_cons] at hlo; omega) hc1 hc2 hd (kk rfl)
  next => cases hs
theorem ab_hobj_ok {idx : Nat} (hx : p.tables.exec = Jvm.exec) (hb : c.code = cc) (hml : c.maxLocals = ls.size) (hts : ∀ w ∈ gw, w.before args s = true) (hown : s.vm.findClass o = some m.cls)
    (hlk : Cond.methodLink o idx Lib.objectInit ∈ gw ∧ Cond.instanceMethod Lib.objectInit ∈ gw ∧ Cond.code Lib.objectInit ⟨#[0xb1]⟩ 1 none ∈ gw) (hfr : 1 ≤ R.frames) (hlo : (st'.map fun v => v.category).sum + 12 ≤ R.locals)
    (hs : ab_hobj st h = some (st', h')) (hd : decode cc pc = .ok (.invokespecial idx, 3)) (kk : h' = h → W p l e R s m args below meth c H locs cells slots Q (F0 m (pc + 3) ls (st'.map (ab_v g)))) : W p l e R s m args below meth c H locs cells slots Q (F0 m pc ls (st.map (ab_v g))) := by
  unfold ab_hobj at hs
  split at hs
  next a r =>
    cases hs
    refine W.objInit (g := F0 m pc ls (.ref (g a) :: st'.map (ab_v g))) hx hb hown (hts _ hlk.1) (hts _ hlk.2.1) (hts _ hlk.2.2) rfl hml.symm rfl hd hfr ?_ (kk rfl)
    show 2 * 0 + ((st'.map (ab_v g)).map fun v => v.category).sum + 12 ≤ R.locals
    rw [ab_catsum]; omega
  next => cases hs
end AB5
