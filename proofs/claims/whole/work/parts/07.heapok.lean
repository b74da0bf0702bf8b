/-! THE MACHINE DOES WHAT THE HEAP FUNCTIONS SAY -/
def ab_nest (w : Cond) : Bool := match w with
  | .fieldLinkNest _ _ _ _ _ _ => true
  | .methodLinkNest _ _ _ _ => true
  | _ => false
/-- what a getfield or putfield of index idx in a method of class o links: field b of class a -/
def ab_fl (o : String) (idx a b c : Nat) : Prop := ∃ q : vw_C, vwCl[a]? = some q ∧ b < q.2.2 ∧ ((c = 0 ∧ Cond.fieldLink o idx (q.2.1 b).1 (q.2.1 b).2.1 (q.2.1 b).2.2.1 ∈ gw) ∨ (c = 1 ∧ Cond.fieldLinkNest o idx (q.2.1 b).1 (q.2.1 b).2.1 (q.2.1 b).2.2.1 "BrowserHouse" ∈ lw_tbl))
theorem ab_ob_ok {h : ab_H} {q a : Nat} {fs : List Value} (hs : ab_ob h q a = some fs) : h[q]? = some (.inr (a, fs)) := by
  unfold ab_ob at hs
  split at hs
  next k fs' hq =>
    split at hs
    next hk => cases hs; subst hk; exact hq
    next => cases hs
  next => cases hs
theorem ab_ai_ok {h : ab_H} {q t n : Nat} {f : Nat → Int32} (hs : ab_ai h q = some (t, n, f)) : h[q]? = some (.inl (t, n, .inl f)) := by
  unfold ab_ai at hs
  split at hs
  next hq => cases hs; exact hq
  next => cases hs
theorem ab_al_ok {h : ab_H} {q n : Nat} {f : Nat → Int64} (hs : ab_al h q = some (n, f)) : h[q]? = some (.inl (3, n, .inr (.inl f))) := by
  unfold ab_al at hs
  split at hs
  next t n' f' hq =>
    split at hs
    next ht => cases hs; subst ht; exact hq
    next => cases hs
  next => cases hs
theorem ab_aq_ok {h : ab_H} {q t n : Nat} {f : Nat → Option Nat} (hs : ab_aq h q = some (t, n, f)) : h[q]? = some (.inl (t, n, .inr (.inr (.inr (.inr f))))) := by
  unfold ab_aq at hs
  split at hs
  next hq => cases hs; exact hq
  next => cases hs
theorem ab_ref {h : ab_H} {q B : Nat} {g : Nat → Nat} {e : ab_E} (hg : ∀ q, q < 1000000 → g q = B + q) (hl : h.length ≤ 1000000) (hq : h[q]? = some e) : g q = B + q :=
  hg q (Nat.lt_of_lt_of_le (List.getElem?_eq_some_iff.mp hq).1 hl)
theorem ab_sz_set {h : ab_H} {q : Nat} {e e' : ab_E} (hq : h[q]? = some e) (hz : ab_esz e' = ab_esz e) : ab_sz (h.set q e') = ab_sz h := by
  unfold ab_sz
  congr 1
  apply List.ext_getElem?
  intro k
  simp only [List.getElem?_map, List.getElem?_set]
  by_cases hk : q = k
  · subst hk
    have hl := (List.getElem?_eq_some_iff.mp hq).1
    rw [if_pos rfl, if_pos hl, hq, Option.map_some, Option.map_some, hz]
  · simp [hk]
theorem ab_sz_app (h : ab_H) (e : ab_E) : ab_sz (h ++ [e]) = ab_sz h + ab_esz e := by simp [ab_sz]
theorem ab_fit_set {h : ab_H} {q : Nat} {e : ab_E} (hf : ∀ (i : Nat) (e : ab_E), h[i]? = some e → ab_fitE e) (he : ab_fitE e) : ∀ (i : Nat) (e' : ab_E), (h.set q e)[i]? = some e' → ab_fitE e' := by
  intro i e' h1
  rw [List.getElem?_set] at h1
  split at h1
  · split at h1
    · cases h1; exact he
    · cases h1
  · exact hf i e' h1
theorem ab_fit_app {h : ab_H} {e : ab_E} (hf : ∀ (i : Nat) (e : ab_E), h[i]? = some e → ab_fitE e) (he : ab_fitE e) : ∀ (i : Nat) (e' : ab_E), (h ++ [e])[i]? = some e' → ab_fitE e' := by
  intro i e' h1
  by_cases hi : i < h.length
  · rw [List.getElem?_append_left hi] at h1
    exact hf i e' h1
  · rw [List.getElem?_append_right (by omega)] at h1
    have hz : i - h.length < 1 := (List.getElem?_eq_some_iff.mp h1).1
    rw [show i - h.length = 0 by omega] at h1
    cases h1
    exact he
theorem ab_Wd_set {D : va_G} {aC : Nat → ClassId} {B : Nat} {g : Nat → Nat} {h : ab_H} {H H1 : Heap} {q : Nat} {e : ab_E} {x : Nat × va_E} (hw : ab_Wd D aC B g h H) (hP : va_P D vwCl ((ab_ws B aC g h).set q x) H1) (hx : x = (B + q, ab_cE aC g e)) (he : ab_fitE e) : ab_Wd D aC B g (h.set q e) H1 := by
  refine ⟨?_, by rw [List.length_set]; exact hw.2.1, ab_fit_set hw.2.2 he⟩
  rw [ab_ws_set, ← hx]
  exact hP
theorem ab_nar_byte (x : Int32) : fits .byte (.int (vp_nar .byte x)) = true := by
  rw [vp_nar_byte]
  have h1 : (-128 : Int) ≤ x.toInt8.toInt := Int8.le_toInt _
  have h2 : x.toInt8.toInt ≤ 127 := Int8.toInt_le _
  have e : x.toInt8.toInt32.toInt = x.toInt8.toInt := Int8.toInt_toInt32 _
  have a : (-128 : Int32) ≤ x.toInt8.toInt32 := Int32.le_iff_toInt_le.mpr (by rw [e]; exact h1)
  have b : x.toInt8.toInt32 ≤ 127 := Int32.le_iff_toInt_le.mpr (by rw [e]; exact h2)
  simp [fits, a, b]
section AB3
variable {p : Program} {l : Launch} {e : Env} {R : Room} {s : State} {m : MethodId} {args : Array Value} {below : List Frame} {meth : Method} {c : Code} {H : Heap} {locs : List Loc} {cells slots : Nat} {Q : State → Prop}
variable {cc : ByteArray} {pc : Nat} {ls : Array Slot} {D : va_G} {aC : Nat → ClassId} {B : Nat} {g : Nat → Nat} {h h' : ab_H} {st st' : List Value} {o : String}
/-- the heap is no larger than what was made since the entry -/
theorem ab_wsz {f : JFrame} (k : H.size ≤ s.heap.size + cells → W p l e R s m args below meth c H locs cells slots Q f) : W p l e R s m args below meth c H locs cells slots Q f := by
  intro T hT X
  refine k ?_ T hT X
  have h1 := X.same.2.2.1
  rw [← hT]
  exact h1
theorem ab_hget_ok {a b cn idx : Nat} (hx : p.tables.exec = Jvm.exec) (hb : c.code = cc) (hts : ∀ w ∈ gw, w.before args s = true) (hown : s.vm.findClass o = some m.cls) (hK : va_K D vwCl (ab_tys aC) s) (hn : ∀ w ∈ lw_tbl, ab_nest w = true → va_Nw w s) (hg : ∀ q, q < 1000000 → g q = B + q) (hw : ab_Wd D aC B g h H)
    (hs : ab_hget a b st h = some (st', h')) (hd : decode cc pc = .ok (.getfield idx, 3)) (hl : ab_fl o idx a b cn) (kk : h' = h → W p l e R s m args below meth c H locs cells slots Q (F0 m (pc + 3) ls (st'.map (ab_v g)))) : W p l e R s m args below meth c H locs cells slots Q (F0 m pc ls (st.map (ab_v g))) := by
  unfold ab_hget at hs
  split at hs
  next q r =>
    split at hs
    next fs hfs =>
      split at hs
      next v hv =>
        cases hs
        have hq := ab_ob_ok hfs
        obtain ⟨⟨C, T, N⟩, hc, hk, hlk⟩ := hl
        show W p l e R s m args below meth c H locs cells slots Q (F0 m pc ls (.ref (g q) :: r.map (ab_v g)))
        rw [ab_ref hg hw.2.1 hq]
        have hv' : (fs.map (ab_v g))[b]? = some (ab_v g v) := by rw [List.getElem?_map, hv]; rfl
        rcases hlk with ⟨-, hlk⟩ | ⟨-, hlk⟩
        · exact va_get (D := D) hx hb hts (ab_clsOK a _ hc).1 hown hK hw.1 q (ab_ws_get hq) hc b hk (hts _ hlk) (fun _ z => z) hv' hd (kk rfl)
        · exact va_getN (D := D) hx hb hts (ab_clsOK a _ hc).1 hown hK hw.1 q (ab_ws_get hq) hc b hk (va_Nw.use rfl (hn _ hlk rfl)) (fun _ z => z) hv' hd (kk rfl)
      next => cases hs
    next => cases hs
  next => cases hs
theorem ab_narrow (g : Nat → Nat) {ty : FieldType} {v : Value} (h : narrow ty v = v) : narrow ty (ab_v g v) = ab_v g v := by
  cases v <;> first | exact h | (cases ty <;> rfl)
theorem ab_fits (g : Nat → Nat) {ty : FieldType} {v : Value} (h : fits ty v = true) : fits ty (ab_v g v) = true := by
  cases v <;> first | exact h | (cases ty <;> first | rfl | exact h)
theorem ab_hput_ok {a b cn idx : Nat} (hx : p.tables.exec = Jvm.exec) (hb : c.code = cc) (hts : ∀ w ∈ gw, w.before args s = true) (hown : s.vm.findClass o = some m.cls) (hK : va_K D vwCl (ab_tys aC) s) (hn : ∀ w ∈ lw_tbl, ab_nest w = true → va_Nw w s) (hg : ∀ q, q < 1000000 → g q = B + q) (hw : ab_Wd D aC B g h H) (hS : va_S (fun q => B ≤ q) s.heap H locs)
    (hs : ab_hput a b st h = some (st', h')) (hd : decode cc pc = .ok (.putfield idx, 3)) (hl : ab_fl o idx a b cn) (hf : ∀ q, vwCl[a]? = some q → (q.2.1 b).2.2.2 = false ∨ (cn = 0 ∧ (q.2.1 b).2.2.2 = true ∧ meth.name = "<init>" ∧ (q.2.1 b).1 = o))
    (kk : ∀ (H1 : Heap) (locs1 : List Loc), ab_Wd D aC B g h' H1 → va_S (fun q => B ≤ q) s.heap H1 locs1 → h'.length = h.length → ab_sz h' = ab_sz h → W p l e R s m args below meth c H1 locs1 cells slots Q (F0 m (pc + 3) ls (st'.map (ab_v g)))) : W p l e R s m args below meth c H locs cells slots Q (F0 m pc ls (st.map (ab_v g))) := by
  unfold ab_hput at hs
  split at hs
  next v q r =>
    split at hs
    next fs hfs =>
      split at hs
      next hcnd =>
        cases hs
        obtain ⟨hbl, hnv, hfv⟩ := hcnd
        have hq := ab_ob_ok hfs
        obtain ⟨⟨C, T, N⟩, hc, hk, hlk⟩ := hl
        show W p l e R s m args below meth c H locs cells slots Q (F0 m pc ls (ab_v g v :: .ref (g q) :: st'.map (ab_v g)))
        rw [ab_ref hg hw.2.1 hq]
        obtain ⟨hwd, hty, hnm⟩ := ab_clsOK a _ hc
        have hxe : ((B + q, .inr (a, (fs.map (ab_v g)).set b (ab_v g v))) : Nat × va_E) = (B + q, ab_cE aC g (.inr (a, fs.set b v))) := by
          simp only [ab_cE, List.map_set]
        have hln : b < (fs.map (ab_v g)).length := by simpa using hbl
        have k2 : ∀ (H1 : Heap) (locs1 : List Loc), va_P D vwCl ((ab_ws B aC g h).set q (B + q, .inr (a, (fs.map (ab_v g)).set b (ab_v g v)))) H1 → va_D (fun q => B ≤ q) ((ab_ws B aC g h).set q (B + q, .inr (a, (fs.map (ab_v g)).set b (ab_v g v)))) → va_S (fun q => B ≤ q) s.heap H1 locs1 → W p l e R s m args below meth c H1 locs1 cells slots Q (F0 m (pc + 3) ls (st'.map (ab_v g))) := fun H1 locs1 hP _ hS1 =>
          kk H1 locs1 (ab_Wd_set hw hP hxe trivial) hS1 List.length_set (ab_sz_set hq (by simp [ab_esz]))
        rcases hlk with ⟨hc0, hlk⟩ | ⟨hc0, hlk⟩
        · rcases hf _ hc with hf | ⟨-, hf, hin, hdc⟩
          · exact va_put (D := D) hx hb hts hwd (ab_cty a) hty hnm hown hK hw.1 (ab_ws_D B aC g h) hS q (ab_ws_get hq) hc b hk (hts _ hlk) (fun _ z => z) hf (hty b hk) (ab_narrow g hnv) (ab_fits g hfv) hln hd k2
          · exact va_putF (D := D) hx hb hts hwd (ab_cty a) hty hnm hown hK hw.1 (ab_ws_D B aC g h) hS q (ab_ws_get hq) hc b hk (hts _ hlk) (fun _ z => z) hf hin hdc (hty b hk) (ab_narrow g hnv) (ab_fits g hfv) hln hd k2
        · rcases hf _ hc with hf | ⟨hf, -⟩
          · exact va_putN (D := D) hx hb hts hwd (ab_cty a) hty hnm hown hK hw.1 (ab_ws_D B aC g h) hS q (ab_ws_get hq) hc b hk (va_Nw.use rfl (hn _ hlk rfl)) (fun _ z => z) hf (hty b hk) (ab_narrow g hnv) (ab_fits g hfv) hln hd k2
          · omega
      next => cases hs
    next => cases hs
  next => cases hs
theorem ab_at0 {aC : Nat → ClassId} : (ab_tys aC)[0]? = some (aC 0, .int) := rfl
theorem ab_at1 {aC : Nat → ClassId} : (ab_tys aC)[1]? = some (aC 1, .byte) := rfl
theorem ab_at2 {aC : Nat → ClassId} : (ab_tys aC)[2]? = some (aC 2, .boolean) := rfl
theorem ab_at3 {aC : Nat → ClassId} : (ab_tys aC)[3]? = some (aC 3, .long) := rfl
theorem ab_atq {aC : Nat → ClassId} {t : Nat} (h1 : 4 ≤ t) (h2 : t ≤ 8) : ∃ q : vw_C, vwCl[ab_aci t]? = some q ∧ (ab_tys aC)[t]? = some (aC t, .object q.1) := by
  rcases (by omega : t = 4 ∨ t = 5 ∨ t = 6 ∨ t = 7 ∨ t = 8) with rfl | rfl | rfl | rfl | rfl <;> exact ⟨_, rfl, rfl⟩
theorem ab_atl {aC : Nat → ClassId} {t : Nat} (h2 : t ≤ 8) : ∃ ty, (ab_tys aC)[t]? = some (aC t, ty) := by
  rcases (by omega : t = 0 ∨ t = 1 ∨ t = 2 ∨ t = 3 ∨ t = 4 ∨ t = 5 ∨ t = 6 ∨ t = 7 ∨ t = 8) with rfl | rfl | rfl | rfl | rfl | rfl | rfl | rfl | rfl <;> exact ⟨_, rfl⟩
theorem ab_extT {q n : Nat} {f : Nat → Int32} (hE : va_T .int q n (fun j => .int (f j)) (fun q => B ≤ q) s s.heap) (hS : va_S (fun q => B ≤ q) s.heap H locs) : ∃ cell : Cell, H[q]? = some cell ∧ s.isArrayOf cell .int ∧ cell.vm ≠ .unknown ∧ n ≤ cell.slots.size ∧ cell.slots.size.toInt32 = Int32.ofNat n ∧ ∀ j : Nat, j < n → cell.slots[j]? = some (.int (f j)) := by
  obtain ⟨cell, h1, h2, h3, h4, h5, h6, -⟩ := hE.kept hS.2.1
  exact ⟨cell, h1, h2, h3, h4, h5, h6⟩
theorem ab_hiald_ok {ext : Nat → Option (Nat × (Nat → Int32))} (hx : p.tables.exec = Jvm.exec) (hb : c.code = cc) (hK : va_K D vwCl (ab_tys aC) s) (hg : ∀ q, q < 1000000 → g q = B + q) (hE : ∀ q n f, ext q = some (n, f) → va_T .int (g q) n (fun j => .int (f j)) (fun q => B ≤ q) s s.heap) (hw : ab_Wd D aC B g h H) (hS : va_S (fun q => B ≤ q) s.heap H locs)
    (hs : ab_hiald ext st h = some (st', h')) (hd : decode cc pc = .ok (.iaload, 1)) (kk : h' = h → W p l e R s m args below meth c H locs cells slots Q (F0 m (pc + 1) ls (st'.map (ab_v g)))) : W p l e R s m args below meth c H locs cells slots Q (F0 m pc ls (st.map (ab_v g))) := by
  unfold ab_hiald at hs
  split at hs
  next i q r =>
    show W p l e R s m args below meth c H locs cells slots Q (F0 m pc ls (.int i :: .ref (g q) :: r.map (ab_v g)))
    split at hs
    next t n f ha =>
      split at hs
      next hc =>
        cases hs
        obtain ⟨rfl, hin⟩ := hc
        have hq := ab_ai_ok ha
        rw [ab_ref hg hw.2.1 hq]
        exact va_iald (D := D) hx hb hK hw.1 q 0 (ab_ws_get hq) ab_at0 (ab_inb_ok hin) hd (kk rfl)
      next => cases hs
    next =>
      split at hs
      next n f hex =>
        split at hs
        next hin =>
          cases hs
          obtain ⟨cell, h1, h2, h3, h4, h5, h6⟩ := ab_extT (hE q n f hex) hS
          have hin := ab_inb_ok hin
          have hlt : i.toNatClampNeg < n := Nat.not_le.mp fun z => hin (Or.inr z)
          exact W.iald hx hb h1 h2 h3 (fun z => hin (z.imp id (fun z => Nat.le_trans h4 z))) (h6 _ hlt) rfl rfl hd (kk rfl)
        next => cases hs
      next => cases hs
  next => cases hs
theorem ab_hbald_ok (hx : p.tables.exec = Jvm.exec) (hb : c.code = cc) (hK : va_K D vwCl (ab_tys aC) s) (hg : ∀ q, q < 1000000 → g q = B + q) (hw : ab_Wd D aC B g h H)
    (hs : ab_hbald st h = some (st', h')) (hd : decode cc pc = .ok (.baload, 1)) (kk : h' = h → W p l e R s m args below meth c H locs cells slots Q (F0 m (pc + 1) ls (st'.map (ab_v g)))) : W p l e R s m args below meth c H locs cells slots Q (F0 m pc ls (st.map (ab_v g))) := by
  unfold ab_hbald at hs
  split at hs
  next i q r =>
    show W p l e R s m args below meth c H locs cells slots Q (F0 m pc ls (.int i :: .ref (g q) :: r.map (ab_v g)))
    split at hs
    next t n f ha =>
      split at hs
      next hc =>
        cases hs
        obtain ⟨ht, hin⟩ := hc
        have hq := ab_ai_ok ha
        rw [ab_ref hg hw.2.1 hq]
        rcases ht with rfl | rfl
        · exact va_bald (D := D) hx hb hK hw.1 q 1 (ab_ws_get hq) ab_at1 (ab_inb_ok hin) hd (kk rfl)
        · exact va_zald (D := D) hx hb hK hw.1 q 2 (ab_ws_get hq) ab_at2 (ab_inb_ok hin) hd (kk rfl)
      next => cases hs
    next => cases hs
  next => cases hs
theorem ab_hlald_ok (hx : p.tables.exec = Jvm.exec) (hb : c.code = cc) (hK : va_K D vwCl (ab_tys aC) s) (hg : ∀ q, q < 1000000 → g q = B + q) (hw : ab_Wd D aC B g h H)
    (hs : ab_hlald st h = some (st', h')) (hd : decode cc pc = .ok (.laload, 1)) (kk : h' = h → W p l e R s m args below meth c H locs cells slots Q (F0 m (pc + 1) ls (st'.map (ab_v g)))) : W p l e R s m args below meth c H locs cells slots Q (F0 m pc ls (st.map (ab_v g))) := by
  unfold ab_hlald at hs
  split at hs
  next i q r =>
    show W p l e R s m args below meth c H locs cells slots Q (F0 m pc ls (.int i :: .ref (g q) :: r.map (ab_v g)))
    split at hs
    next n f ha =>
      split at hs
      next hin =>
        cases hs
        have hq := ab_al_ok ha
        rw [ab_ref hg hw.2.1 hq]
        exact va_lald (D := D) hx hb hK hw.1 q 3 (ab_ws_get hq) ab_at3 (ab_inb_ok hin) hd (kk rfl)
      next => cases hs
    next => cases hs
  next => cases hs
theorem ab_rf_v (g : Nat → Nat) (r : Option Nat) : va_rf (r.map g) = ab_v g (va_rf r) := by cases r <;> rfl
theorem ab_haald_ok (hx : p.tables.exec = Jvm.exec) (hb : c.code = cc) (hK : va_K D vwCl (ab_tys aC) s) (hg : ∀ q, q < 1000000 → g q = B + q) (hw : ab_Wd D aC B g h H)
    (hs : ab_haald st h = some (st', h')) (hd : decode cc pc = .ok (.aaload, 1)) (kk : h' = h → W p l e R s m args below meth c H locs cells slots Q (F0 m (pc + 1) ls (st'.map (ab_v g)))) : W p l e R s m args below meth c H locs cells slots Q (F0 m pc ls (st.map (ab_v g))) := by
  unfold ab_haald at hs
  split at hs
  next i q r =>
    show W p l e R s m args below meth c H locs cells slots Q (F0 m pc ls (.int i :: .ref (g q) :: r.map (ab_v g)))
    split at hs
    next t n f ha =>
      split at hs
      next hc =>
        cases hs
        obtain ⟨⟨ht1, ht2⟩, hin⟩ := hc
        have hq := ab_aq_ok ha
        rw [ab_ref hg hw.2.1 hq]
        obtain ⟨qc, -, hty⟩ := ab_atq (aC := aC) ht1 ht2
        refine va_aldq (D := D) (f := fun j => (f j).map g) hx hb hK hw.1 q t (ab_ws_get hq) hty (ab_inb_ok hin) hd ?_
        rw [ab_rf_v]
        exact kk rfl
      next => cases hs
    next => cases hs
  next => cases hs
theorem ab_hlen_ok {ext : Nat → Option (Nat × (Nat → Int32))} (hx : p.tables.exec = Jvm.exec) (hb : c.code = cc) (hK : va_K D vwCl (ab_tys aC) s) (hg : ∀ q, q < 1000000 → g q = B + q) (hE : ∀ q n f, ext q = some (n, f) → va_T .int (g q) n (fun j => .int (f j)) (fun q => B ≤ q) s s.heap) (hw : ab_Wd D aC B g h H) (hS : va_S (fun q => B ≤ q) s.heap H locs)
    (hs : ab_hlen ext st h = some (st', h')) (hd : decode cc pc = .ok (.arraylength, 1)) (kk : h' = h → W p l e R s m args below meth c H locs cells slots Q (F0 m (pc + 1) ls (st'.map (ab_v g)))) : W p l e R s m args below meth c H locs cells slots Q (F0 m pc ls (st.map (ab_v g))) := by
  unfold ab_hlen at hs
  split at hs
  next q r =>
    show W p l e R s m args below meth c H locs cells slots Q (F0 m pc ls (.ref (g q) :: r.map (ab_v g)))
    split at hs
    next t n x hq =>
      split at hs
      next ht =>
        cases hs
        rw [ab_ref hg hw.2.1 hq]
        obtain ⟨ty, hty⟩ := ab_atl (aC := aC) ht
        exact va_alen (D := D) hx hb hK hw.1 q t (ab_ws_get hq) hty rfl hd (kk rfl)
      next => cases hs
    next => cases hs
    next =>
      split at hs
      next n f hex =>
        cases hs
        obtain ⟨cell, h1, h2, h3, h4, h5, h6⟩ := ab_extT (hE q n f hex) hS
        exact W.alen hx hb h1 h2 h5 rfl rfl hd (kk rfl)
      next => cases hs
  next => cases hs
end AB3
