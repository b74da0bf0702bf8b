section AB4
variable {p : Program} {l : Launch} {e : Env} {R : Room} {s : State} {m : MethodId} {args : Array Value} {below : List Frame} {meth : Method} {c : Code} {H : Heap} {locs : List Loc} {cells slots : Nat} {Q : State → Prop}
variable {cc : ByteArray} {pc : Nat} {ls : Array Slot} {D : va_G} {aC : Nat → ClassId} {B : Nat} {g : Nat → Nat} {h h' : ab_H} {st st' : List Value} {o : String}
theorem ab_hiast_ok (hx : p.tables.exec = Jvm.exec) (hb : c.code = cc) (hK : va_K D vwCl (ab_tys aC) s) (hg : ∀ q, q < 1000000 → g q = B + q) (hw : ab_Wd D aC B g h H) (hS : va_S (fun q => B ≤ q) s.heap H locs)
    (hs : ab_hiast st h = some (st', h')) (hd : decode cc pc = .ok (.iastore, 1)) (kk : ∀ (H1 : Heap) (locs1 : List Loc), ab_Wd D aC B g h' H1 → va_S (fun q => B ≤ q) s.heap H1 locs1 → h'.length = h.length → ab_sz h' = ab_sz h → W p l e R s m args below meth c H1 locs1 cells slots Q (F0 m (pc + 1) ls (st'.map (ab_v g)))) : W p l e R s m args below meth c H locs cells slots Q (F0 m pc ls (st.map (ab_v g))) := by
  unfold ab_hiast at hs
  split at hs
  next x i q r =>
    show W p l e R s m args below meth c H locs cells slots Q (F0 m pc ls (.int x :: .int i :: .ref (g q) :: r.map (ab_v g)))
    split at hs
    next t n f ha =>
      split at hs
      next hc =>
        cases hs
        obtain ⟨rfl, hin⟩ := hc
        have hq := ab_ai_ok ha
        rw [ab_ref hg hw.2.1 hq]
        exact va_iast (D := D) hx hb hK hw.1 (ab_ws_D B aC g h) hS q 0 (ab_ws_get hq) ab_at0 (ab_inb_ok hin) hd (fun H1 locs1 hP _ hS1 => kk H1 locs1 (ab_Wd_set hw hP rfl trivial) hS1 List.length_set (ab_sz_set hq rfl))
      next => cases hs
    next => cases hs
  next => cases hs
theorem ab_hbast_ok (hx : p.tables.exec = Jvm.exec) (hb : c.code = cc) (hK : va_K D vwCl (ab_tys aC) s) (hg : ∀ q, q < 1000000 → g q = B + q) (hw : ab_Wd D aC B g h H) (hS : va_S (fun q => B ≤ q) s.heap H locs)
    (hs : ab_hbast st h = some (st', h')) (hd : decode cc pc = .ok (.bastore, 1)) (kk : ∀ (H1 : Heap) (locs1 : List Loc), ab_Wd D aC B g h' H1 → va_S (fun q => B ≤ q) s.heap H1 locs1 → h'.length = h.length → ab_sz h' = ab_sz h → W p l e R s m args below meth c H1 locs1 cells slots Q (F0 m (pc + 1) ls (st'.map (ab_v g)))) : W p l e R s m args below meth c H locs cells slots Q (F0 m pc ls (st.map (ab_v g))) := by
  unfold ab_hbast at hs
  split at hs
  next x i q r =>
    show W p l e R s m args below meth c H locs cells slots Q (F0 m pc ls (.int x :: .int i :: .ref (g q) :: r.map (ab_v g)))
    split at hs
    next t n f ha =>
      split at hs
      next hin =>
        have hq := ab_ai_ok ha
        rw [ab_ref hg hw.2.1 hq]
        split at hs
        next ht =>
          cases hs
          subst ht
          have hfit : ab_fitE (.inl (1, n, .inl (upd f i.toNatClampNeg (vp_nar .byte x)))) := by
            intro j
            unfold upd
            by_cases hj : j = i.toNatClampNeg
            · rw [if_pos hj]; exact ab_nar_byte x
            · rw [if_neg hj]; exact hw.2.2 q _ hq j
          exact va_bast (D := D) hx hb hK hw.1 (ab_ws_D B aC g h) hS q 1 (ab_ws_get hq) ab_at1 (ab_inb_ok hin) hd (fun H1 locs1 hP _ hS1 => kk H1 locs1 (ab_Wd_set hw hP rfl hfit) hS1 List.length_set (ab_sz_set hq rfl))
        next =>
          split at hs
          next ht =>
            cases hs
            subst ht
            exact va_zast (D := D) hx hb hK hw.1 (ab_ws_D B aC g h) hS q 2 (ab_ws_get hq) ab_at2 (ab_inb_ok hin) hd (fun H1 locs1 hP _ hS1 => kk H1 locs1 (ab_Wd_set hw hP rfl trivial) hS1 List.length_set (ab_sz_set hq rfl))
          next => cases hs
      next => cases hs
    next => cases hs
  next => cases hs
theorem ab_hlast_ok (hx : p.tables.exec = Jvm.exec) (hb : c.code = cc) (hK : va_K D vwCl (ab_tys aC) s) (hg : ∀ q, q < 1000000 → g q = B + q) (hw : ab_Wd D aC B g h H) (hS : va_S (fun q => B ≤ q) s.heap H locs)
    (hs : ab_hlast st h = some (st', h')) (hd : decode cc pc = .ok (.lastore, 1)) (kk : ∀ (H1 : Heap) (locs1 : List Loc), ab_Wd D aC B g h' H1 → va_S (fun q => B ≤ q) s.heap H1 locs1 → h'.length = h.length → ab_sz h' = ab_sz h → W p l e R s m args below meth c H1 locs1 cells slots Q (F0 m (pc + 1) ls (st'.map (ab_v g)))) : W p l e R s m args below meth c H locs cells slots Q (F0 m pc ls (st.map (ab_v g))) := by
  unfold ab_hlast at hs
  split at hs
  next x i q r =>
    show W p l e R s m args below meth c H locs cells slots Q (F0 m pc ls (.long x :: .int i :: .ref (g q) :: r.map (ab_v g)))
    split at hs
    next n f ha =>
      split at hs
      next hin =>
        cases hs
        have hq := ab_al_ok ha
        rw [ab_ref hg hw.2.1 hq]
        exact va_last (D := D) hx hb hK hw.1 (ab_ws_D B aC g h) hS q 3 (ab_ws_get hq) ab_at3 (ab_inb_ok hin) hd (fun H1 locs1 hP _ hS1 => kk H1 locs1 (ab_Wd_set hw hP rfl trivial) hS1 List.length_set (ab_sz_set hq rfl))
      next => cases hs
    next => cases hs
  next => cases hs
theorem ab_up_map (g : Nat → Nat) (f : Nat → Option Nat) (k w : Nat) : va_up (fun j => (f j).map g) k (some (g w)) = fun j => (va_up f k (some w) j).map g := by
  funext j
  unfold va_up
  by_cases hj : j = k <;> simp [hj]
theorem ab_haast_ok (hx : p.tables.exec = Jvm.exec) (hb : c.code = cc) (hK : va_K D vwCl (ab_tys aC) s) (hg : ∀ q, q < 1000000 → g q = B + q) (hw : ab_Wd D aC B g h H) (hS : va_S (fun q => B ≤ q) s.heap H locs)
    (hs : ab_haast st h = some (st', h')) (hd : decode cc pc = .ok (.aastore, 1)) (kk : ∀ (H1 : Heap) (locs1 : List Loc), ab_Wd D aC B g h' H1 → va_S (fun q => B ≤ q) s.heap H1 locs1 → h'.length = h.length → ab_sz h' = ab_sz h → W p l e R s m args below meth c H1 locs1 cells slots Q (F0 m (pc + 1) ls (st'.map (ab_v g)))) : W p l e R s m args below meth c H locs cells slots Q (F0 m pc ls (st.map (ab_v g))) := by
  unfold ab_haast at hs
  split at hs
  next w i q r =>
    show W p l e R s m args below meth c H locs cells slots Q (F0 m pc ls (.ref (g w) :: .int i :: .ref (g q) :: r.map (ab_v g)))
    split at hs
    next t n f ha =>
      split at hs
      next ci fs hv =>
        split at hs
        next hc =>
          cases hs
          obtain ⟨⟨ht1, ht2⟩, rfl, hin⟩ := hc
          have hq := ab_aq_ok ha
          obtain ⟨qc, hcl, hty⟩ := ab_atq (aC := aC) ht1 ht2
          have hgw := ab_ref hg hw.2.1 hv
          rw [ab_ref hg hw.2.1 hq, hgw]
          refine va_astq (D := D) (r := qc) (f := fun j => (f j).map g) hx hb hK hw.1 (ab_ws_D B aC g h) hS q t w (ab_aci t) (ab_ws_get hq) hty (ab_ws_get hv) hcl (ab_inb_ok hin) hd (fun H1 locs1 hP _ hS1 => kk H1 locs1 (ab_Wd_set hw hP ?_ ?_) hS1 List.length_set (ab_sz_set hq rfl))
          · rw [← hgw, ab_up_map]; rfl
          · unfold ab_fitE; split <;> first | trivial | (next hz => cases hz)
        next => cases hs
      next => cases hs
    next => cases hs
  next => cases hs
theorem ab_cpy_fit {f f1 : Nat → Int32} {sp dp n : Nat} (h0 : ∀ j, fits .byte (.int (f j)) = true) (h1 : ∀ j, fits .byte (.int (f1 j)) = true) : ∀ j, fits .byte (.int (va_cpy f f1 sp dp n j)) = true := by
  intro j
  unfold va_cpy
  split
  · exact h0 _
  · exact h1 _
theorem ab_hcopy_ok {idx : Nat} (hx : p.tables.exec = Jvm.exec) (hb : c.code = cc) (hml : c.maxLocals = ls.size) (hts : ∀ w ∈ gw, w.before args s = true) (hown : s.vm.findClass o = some m.cls) (hK : va_K D vwCl (ab_tys aC) s) (hg : ∀ q, q < 1000000 → g q = B + q) (hw : ab_Wd D aC B g h H) (hS : va_S (fun q => B ≤ q) s.heap H locs)
    (hlk : Cond.methodLink o idx arraycopyName ∈ gw ∧ Cond.native arraycopyName ∈ gw ∧ Cond.static arraycopyName ∈ gw ∧ Cond.initialized "java/lang/System" ∈ gw) (hfr : 1 ≤ R.frames) (hlo : (st'.map fun v => v.category).sum + (nativeFrameWords "java/lang/System" "arraycopy" 5 + 11) ≤ R.locals)
    (hs : ab_hcopy st h = some (st', h')) (hd : decode cc pc = .ok (.invokestatic idx, 3)) (kk : ∀ (H1 : Heap) (locs1 : List Loc), ab_Wd D aC B g h' H1 → va_S (fun q => B ≤ q) s.heap H1 locs1 → h'.length = h.length → ab_sz h' = ab_sz h → W p l e R s m args below meth c H1 locs1 cells slots Q (F0 m (pc + 3) ls (st'.map (ab_v g)))) : W p l e R s m args below meth c H locs cells slots Q (F0 m pc ls (st.map (ab_v g))) := by
  unfold ab_hcopy at hs
  split at hs
  next n dp q1 sp q0 r =>
    show W p l e R s m args below meth c H locs cells slots Q (F0 m pc ls (.int n :: .int dp :: .ref (g q1) :: .int sp :: .ref (g q0) :: r.map (ab_v g)))
    split at hs
    next t0 n0 f t1 n1 f1 ha0 ha1 =>
      split at hs
      next hc =>
        cases hs
        obtain ⟨ht, ⟨c1, c2, c3⟩, c4, c5⟩ := hc
        have hq0 := ab_ai_ok ha0
        have hq1 := ab_ai_ok ha1
        rw [ab_ref hg hw.2.1 hq0, ab_ref hg hw.2.1 hq1]
        have hlo' : (((st'.map (ab_v g)).map fun v => v.category).sum + (nativeFrameWords "java/lang/System" "arraycopy" 5 + 11)) ≤ R.locals := by
          rw [List.map_map]
          have : ((fun v => v.category) ∘ ab_v g) = fun v : Value => v.category := by funext v; exact ab_v_cat g v
          rw [this]; exact hlo
        rcases ht with ⟨rfl, rfl⟩ | ⟨rfl, rfl⟩
        · exact va_copyi (D := D) (ty := .int) hx hb hml hown (hts _ hlk.1) (hts _ hlk.2.1) (hts _ hlk.2.2.1) (hts _ hlk.2.2.2) hK hw.1 (ab_ws_D B aC g h) hS q0 q1 0 0 (ab_ws_get hq0) (ab_ws_get hq1) ab_at0 ab_at0 rfl c1 c2 c3 c4 c5 (fun _ _ => rfl) hfr hlo' hd (fun H1 locs1 hP _ hS1 => kk H1 locs1 (ab_Wd_set hw hP rfl trivial) hS1 List.length_set (ab_sz_set hq1 rfl))
        · exact va_copyi (D := D) (ty := .byte) hx hb hml hown (hts _ hlk.1) (hts _ hlk.2.1) (hts _ hlk.2.2.1) (hts _ hlk.2.2.2) hK hw.1 (ab_ws_D B aC g h) hS q0 q1 1 1 (ab_ws_get hq0) (ab_ws_get hq1) ab_at1 ab_at1 rfl c1 c2 c3 c4 c5 (fun i _ => hw.2.2 q0 _ hq0 _) hfr hlo' hd (fun H1 locs1 hP _ hS1 => kk H1 locs1 (ab_Wd_set hw hP rfl (ab_cpy_fit (hw.2.2 q0 _ hq0) (hw.2.2 q1 _ hq1))) hS1 List.length_set (ab_sz_set hq1 rfl))
      next => cases hs
    next => cases hs
  next => cases hs
/-! new cells: their address is the next one -/
theorem ab_next {x : va_E} {q : Nat} {H1 : Heap} (hsz : s.heap.size + cells = B + h.length) (hD : va_D (fun q => B ≤ q) (ab_ws B aC g h ++ [(q, x)])) (hq : q < H1.size) (hu : H1.size ≤ s.heap.size + (cells + 1)) : q = B + h.length := by
  have hA : B ≤ q := hD.2 h.length (q, x) (by rw [List.getElem?_append_right (by rw [ab_ws_len]; exact Nat.le_refl _), ab_ws_len, Nat.sub_self]; rfl)
  rcases Nat.lt_or_ge q (B + h.length) with hlt | hge
  · exfalso
    have hi : q - B < h.length := by omega
    have e1 : (ab_ws B aC g h ++ [(q, x)])[q - B]? = some (B + (q - B), ab_cE aC g (h[q - B])) := by
      rw [List.getElem?_append_left (by rw [ab_ws_len]; exact hi)]
      exact ab_ws_get (List.getElem?_eq_getElem hi)
    have e2 : (ab_ws B aC g h ++ [(q, x)])[h.length]? = some (q, x) := by
      rw [List.getElem?_append_right (by rw [ab_ws_len]; exact Nat.le_refl _), ab_ws_len, Nat.sub_self]; rfl
    have := hD.1 _ _ _ _ e1 e2 (by show B + (q - B) = q; omega)
    omega
  · omega
theorem ab_Wd_app {x : va_E} {q : Nat} {H1 : Heap} {en : ab_E} (hw : ab_Wd D aC B g h H) (hlt : h.length < 1000000) (hP : va_P D vwCl (ab_ws B aC g h ++ [(q, x)]) H1) (hq : q = B + h.length) (hxe : x = ab_cE aC g en) (hf : ab_fitE en) : ab_Wd D aC B g (h ++ [en]) H1 := by
  refine ⟨?_, by simp; omega, ab_fit_app hw.2.2 hf⟩
  rw [ab_ws_app, ← hq, ← hxe]
  exact hP
theorem ab_cdf_map (g : Nat → Nat) (a : Nat) : (ab_cdf a).map (ab_v g) = ab_cdf a := by
  unfold ab_cdf
  rw [List.map_map]
  apply List.map_congr_left
  intro k _
  show ab_v g (defaultValue (ab_cty a k)) = defaultValue (ab_cty a k)
  cases ab_cty a k <;> rfl
theorem ab_cdf_at {a k : Nat} {q : vw_C} (hc : vwCl[a]? = some q) (hk : k < q.2.2) : defaultValue (ab_cty a k) = vp_V (ab_cdf a) k := by
  have hN : ab_cN a = q.2.2 := by unfold ab_cN; rw [hc]
  unfold vp_V ab_cdf
  rw [hN]
  simp [hk]
theorem ab_hnew_ok {a idx : Nat} (hx : p.tables.exec = Jvm.exec) (hb : c.code = cc) (hts : ∀ w ∈ gw, w.before args s = true) (hown : s.vm.findClass o = some m.cls) (hK : va_K D vwCl (ab_tys aC) s) (hg : ∀ q, q < 1000000 → g q = B + q) (hB : B ≤ s.heap.size) (hsz : s.heap.size + cells = B + h.length) (hw : ab_Wd D aC B g h H) (hS : va_S (fun q => B ≤ q) s.heap H locs)
    (hlk : ∃ q, vwCl[a]? = some q ∧ Cond.classLink o idx q.1 ∈ gw ∧ Cond.instantiable q.1 q.2.2 ∈ gw ∧ Cond.initialized q.1 ∈ gw)
    (hs : ab_hnew a st h = some (st', h')) (hd : decode cc pc = .ok (.new idx, 3)) (hcells : cells + 1 ≤ R.cells) (hslots : slots + (ab_sz h' - ab_sz h) ≤ R.slots)
    (kk : ∀ (H1 : Heap), ab_Wd D aC B g h' H1 → va_S (fun q => B ≤ q) s.heap H1 locs → h'.length = h.length + 1 → ab_sz h ≤ ab_sz h' → W p l e R s m args below meth c H1 locs (cells + 1) (slots + (ab_sz h' - ab_sz h)) Q (F0 m (pc + 3) ls (st'.map (ab_v g)))) : W p l e R s m args below meth c H locs cells slots Q (F0 m pc ls (st.map (ab_v g))) := by
  unfold ab_hnew at hs
  split at hs
  next hlt =>
    cases hs
    obtain ⟨⟨C, T, N⟩, hc, h1, h2, h3⟩ := hlk
    obtain ⟨hwd, hty, hnm⟩ := ab_clsOK a _ hc
    have hN : ab_cN a = N := by unfold ab_cN; rw [hc]
    have hes : ab_esz (.inr (a, ab_cdf a)) = N := by simp [ab_esz, ab_cdf, hN]
    have hdel : ab_sz (h ++ [.inr (a, ab_cdf a)]) - ab_sz h = N := by rw [ab_sz_app, hes]; omega
    rw [hdel] at hslots kk
    refine va_new (D := D) hx hb hts hwd (ab_cty a) hty hown (hts _ h1) (hts _ h2) (hts _ h3) hK hw.1 (ab_ws_D B aC g h) hS (fun q hq => Nat.le_trans hB hq) hc (fun j hj => ab_cdf_at hc hj) hcells hslots hd (fun q H1 hP hD hS1 => ab_wsz (fun hu => ?_))
    have hlast : (ab_ws B aC g h ++ [(q, (.inr (a, ab_cdf a) : va_E))])[h.length]? = some (q, .inr (a, ab_cdf a)) := by
      rw [List.getElem?_append_right (by rw [ab_ws_len]; exact Nat.le_refl _), ab_ws_len, Nat.sub_self]; rfl
    have hq := ab_next hsz hD ((hP _ _ hlast).lt) hu
    have hgq : g h.length = q := by rw [hg _ hlt, hq]
    have hk := kk H1 (ab_Wd_app hw hlt hP hq (by show _ = ab_cE aC g (.inr (a, ab_cdf a)); simp only [ab_cE, ab_cdf_map]) trivial) hS1 (by simp) (by rw [ab_sz_app]; omega)
    rw [← hgq]
    exact hk
  next => cases hs
end AB4
