/-! THE MACHINE DOES WHAT THE EVALUATOR SAYS -/
def ab_mok (N : ab_M) (b : Nat) : Prop := Cond.code N.1 N.2.1 N.2.2.1 N.2.2.2.1 ∈ gw ∧ Cond.initialized N.1.cls ∈ gw ∧ plainName N.1.cls = true ∧ (N.1.cls ≠ "java/lang/invoke/MethodHandle" ∧ N.1.cls ≠ "java/lang/invoke/VarHandle" ∧ (parseMethodDescriptor N.1.desc).map (fun d => d.parameters.length) = some b)
def ab_lok (o : String) (idx c : Nat) (y : MethodName) : Prop := (c = 0 ∧ Cond.methodLink o idx y ∈ gw) ∨ (c = 1 ∧ Cond.methodLinkNest o idx y "BrowserHouse" ∈ lw_tbl)
def ab_rok (M N : ab_M) : Prop := N.2.2.2.2.1 + 1 ≤ M.2.2.2.2.1 ∧ 8 + (N.2.2.1 + 11) + N.2.2.2.2.2.1 ≤ M.2.2.2.2.2.1
/-- what a call in method M of method N links -/
def ab_cok (M N : ab_M) (i : Instr) (b c : Nat) : Prop := match i with
  | .invokestatic idx => c ≤ 1 → ab_lok M.1.cls idx c N.1 ∧ ab_mok N b ∧ ab_rok M N ∧ Cond.static N.1 ∈ gw
  | .invokevirtual idx => c ≤ 1 → ab_lok M.1.cls idx c N.1 ∧ ab_mok N b ∧ ab_rok M N ∧ Cond.instanceMethod N.1 ∈ gw ∧ Cond.selects N.1.cls N.1 N.1 ∈ gw ∧ ∃ z, vwCl[N.2.2.2.2.2.2]? = some z ∧ z.1 = N.1.cls
  | .invokespecial idx => c ≤ 1 → ab_lok M.1.cls idx c N.1 ∧ ab_mok N b ∧ ab_rok M N ∧ Cond.instanceMethod N.1 ∈ gw ∧ N.1.name = "<init>" ∧ N.2.2.2.1 = none
  | _ => True
def ab_OK (mt : Nat → ab_M) (j pc : Nat) (q : ab_I) : Prop := ab_dec (mt j).2.1 pc q.1 ∧ ab_bok q.1 q.2.1 pc ∧ ab_hok (mt j) q.1 q.2.1 q.2.2.1 q.2.2.2 ∧ ab_cok (mt j) (mt q.2.1) q.1 q.2.2.1 q.2.2.2
theorem ab_args (g : Nat → Nat) : ∀ (vs : List Value) (i : Nat), lv_args i (vs.map (ab_v g)) = (lv_args i vs).map (ab_q g) := by
  intro vs
  induction vs with
  | nil => intro i; rfl
  | cons v vs ih =>
    intro i
    simp only [List.map_cons, lv_args, ab_v_cat]
    rw [ih]
    rfl
theorem ab_sl (g : Nat → Nat) : ∀ vs : List Value, (lg_sl (vs.map (ab_v g))).length = (lg_sl vs).length := by
  intro vs
  induction vs with
  | nil => rfl
  | cons v vs ih =>
    unfold lg_sl at ih ⊢
    simp only [List.map_cons, List.flatMap_cons, List.length_append, ab_v_cat, ih]
    congr 1
    split <;> rfl
theorem ab_stk (g : Nat → Nat) {b : Nat} {st : List Value} : st.map (ab_v g) = (((st.take b).reverse).map (ab_v g)).reverse ++ (st.drop b).map (ab_v g) := by
  rw [List.map_reverse, List.reverse_reverse, ← List.map_append, List.take_append_drop]
theorem ab_tolist (g : Nat → Nat) (v : Option Value) (r : List Value) : (v.toList ++ r).map (ab_v g) = (v.map (ab_v g)).toList ++ r.map (ab_v g) := by cases v <;> rfl
/-- what a method's end is: the answer, the heap, nothing else changed -/
def ab_Qm (D : va_G) (aC : Nat → ClassId) (B : Nat) (g : Nat → Nat) (r : Option Value) (hE : ab_H) : Array Value → State → Outcome → State → Prop := fun _ st o t => o = .returned (r.map (ab_v g)) ∧ ab_Wd D aC B g hE t.heap ∧ va_F (fun q => B ≤ q) st t
def ab_Pm (D : va_G) (aC : Nat → ClassId) (B : Nat) (g : Nat → Nat) (ext : Nat → Option (Nat × (Nat → Int32))) (vs : List Value) (h : ab_H) : Array Value → State → Prop := va_Pc (vs.map (ab_v g)) (fun U => U.heap.size = B + h.length ∧ ab_Env D aC B g ext U U.heap ∧ ab_Wd D aC B g h U.heap)
theorem ab_Pm_blind {D : va_G} {aC : Nat → ClassId} {B : Nat} {g : Nat → Nat} {ext : Nat → Option (Nat × (Nat → Int32))} {vs : List Value} {h : ab_H} : FrameBlind (ab_Pm D aC B g ext vs h) := fun a U f mk q => by
  obtain ⟨q0, q1, q2, q3⟩ := q
  exact ⟨q0, q1, q2.next (U := U.calling f mk a) (State.WarmedH.refl U) (fun _ _ _ => rfl), q3⟩
abbrev ab_rm (N : ab_M) (h hE : ab_H) : Room := { frames := N.2.2.2.2.1, cells := hE.length - h.length, slots := ab_sz hE - ab_sz h, locals := N.2.2.2.2.2.1 }
abbrev ab_wn (N : ab_M) : List Cond := .code N.1 N.2.1 N.2.2.1 N.2.2.2.1 :: gw
section AB8
variable {p : Program} {l : Launch} {e : Env} {R : Room} {s : State} {m : MethodId} {args : Array Value} {below : List Frame} {meth : Method} {c : Code} {H : Heap} {locs : List Loc} {cells slots : Nat}
variable {pc : Nat} {ls : Array Slot} {D : va_G} {aC : Nat → ClassId} {B : Nat} {g : Nat → Nat} {h hE : ab_H} {st vs r : List Value} {ext : Nat → Option (Nat × (Nat → Int32))} {v : Option Value}
theorem ab_cc_ok {N : ab_M} {vs r : List Value} {q : List Value × List Value} (h : ab_cc N vs r = some q) : q = (vs, r) ∧ (lg_sl vs).length ≤ N.2.2.1 ∧ (r.map fun v => v.category).sum ≤ 8 := by
  unfold ab_cc at h
  split at h
  next hc => cases h; exact ⟨rfl, hc⟩
  next => cases h
theorem ab_H_size (hw : ab_Wd D aC B g h H) (hB : B ≤ H.size) (hu : H.size ≤ B + h.length) : H.size = B + h.length := by
  apply Nat.le_antisymm hu
  cases hl : h.length with
  | zero => omega
  | succ n =>
    have hi : n < h.length := by omega
    have := (hw.1 n _ (ab_ws_get (List.getElem?_eq_getElem hi))).lt
    dsimp only at this
    omega
set_option maxHeartbeats 4000000 in
theorem ab_callrun {mt : Nat → ab_M} {M : ab_M} {i : Instr} {a b cn : Nat} (hx : p.tables.exec = Jvm.exec) (hb : c.code = M.2.1) (hml : c.maxLocals = M.2.2.1) (hls : ls.size = M.2.2.1) (hts : ∀ w ∈ gw, w.before args s = true) (hown : s.vm.findClass M.1.cls = some m.cls) (hEn : ab_Env D aC B g ext s s.heap) (hg : ∀ q, q < 1000000 → g q = B + q) (hHs : H.size = B + h.length) (hw : ab_Wd D aC B g h H) (hS : va_S (fun q => B ≤ q) s.heap H locs)
    (hfr : M.2.2.2.2.1 ≤ R.frames) (hlo : M.2.2.2.2.2.1 ≤ R.locals) (hs : ab_c mt i a b cn st h = some (vs, r)) (hd : decode M.2.1 pc = .ok (i, ab_len i)) (hok : ab_cok M (mt a) i b cn)
    (hM : Met l (mt a).1 (ab_wn (mt a)) (ab_rm (mt a) h hE) (ab_Pm D aC B g ext vs h) (ab_Qm D aC B g v hE) (hE.length - h.length) (ab_sz hE - ab_sz h) (fun q => B ≤ q))
    (hf : cells + (hE.length - h.length) ≤ R.cells ∧ slots + (ab_sz hE - ab_sz h) ≤ R.slots) :
    ab_len i = 3 ∧ va_Run p l e R s m args below meth c H locs cells slots (hE.length - h.length) (ab_sz hE - ab_sz h) (F0 m pc ls (st.map (ab_v g))) (r.map (ab_v g)) (ab_Qm D aC B g v hE (vs.map (ab_v g)).toArray) (fun q => B ≤ q) := by
  have hP : ∀ U : State, U.heap = H → s.WarmedH U.vm → ab_Pm D aC B g ext vs h (vs.map (ab_v g)).toArray U := fun U hU hW => ⟨rfl, by rw [hU]; exact hHs, by rw [hU]; exact hEn.next hW hS.2.1, by rw [hU]; exact hw⟩
  unfold ab_c at hs
  split at hs
  next hc =>
    obtain ⟨hc1, hbl⟩ := hc
    have hln : (((st.take b).reverse).map (ab_v g)).length = b := by simp [hbl]
    split at hs
    next idx =>
      obtain ⟨hq, hsl, hsum⟩ := ab_cc_ok hs
      cases hq
      obtain ⟨hlk, ⟨h1, h2, h3, h4⟩, ⟨r1, r2⟩, h5⟩ := hok hc1
      refine ⟨rfl, ?_⟩
      rcases hlk with ⟨-, hlk⟩ | ⟨-, hlk⟩
      · exact va_runS ⟨hx, hb, hml, hown, hts⟩ hM (va_cwS b hts (ab_goodA (by
          intro w hw
          simp only [List.mem_cons, List.not_mem_nil, or_false] at hw
          rcases hw with rfl | rfl | rfl
          · exact hlk
          · exact h5
          · exact h2) (ab_goodC h1)) rfl rfl rfl h4 ⟨Nat.le_trans r1 hfr, Nat.le_trans r2 hlo⟩) ⟨ab_Pm_blind, hP⟩ rfl hln hls (ab_stk g) (lv_room (by rw [ab_catsum]; exact hsum)) hd hf
      · exact va_runSN ⟨hx, hb, hml, hown, hts⟩ hM ⟨va_cnB b hts (ab_goodC h1) rfl rfl rfl (hEn.2.1 _ hlk rfl) (hts _ h2) h4 ⟨Nat.le_trans r1 hfr, Nat.le_trans r2 hlo⟩, hts _ h5, trivial⟩ ⟨ab_Pm_blind, hP⟩ rfl hln hls (ab_stk g) (lv_room (by rw [ab_catsum]; exact hsum)) hd hf
    next idx =>
      split at hs
      next q r' hdrop =>
        split at hs
        next fs hob =>
          obtain ⟨hq, hsl, hsum⟩ := ab_cc_ok hs
          cases hq
          obtain ⟨hlk, ⟨h1, h2, h3, h4⟩, ⟨r1, r2⟩, h5, h6, ⟨z, hz, hzc⟩⟩ := hok hc1
          refine ⟨rfl, ?_⟩
          have hstk : st.map (ab_v g) = (((st.take b).reverse).map (ab_v g)).reverse ++ .ref (g q) :: r.map (ab_v g) := by
            rw [ab_stk g (b := b), hdrop]; rfl
          have hq := ab_ob_ok hob
          have hrc : ∃ cell : Cell, H[g q]? = some cell ∧ cell.vm.isStatics = false ∧ s.vm.findClass (mt a).1.cls = some cell.cls := by
            rw [ab_ref hg hw.2.1 hq, ← hzc]
            exact va_recv hEn.1 hw.1 hz (ab_ws_get hq)
          rcases hlk with ⟨-, hlk⟩ | ⟨-, hlk⟩
          · exact va_runV (C := (mt a).1.cls) ⟨hx, hb, hml, hown, hts⟩ hM (cwV b hts (ab_goodA (by
              intro w hw
              simp only [List.mem_cons, List.not_mem_nil, or_false] at hw
              rcases hw with rfl | rfl | rfl | rfl
              · exact hlk
              · exact h5
              · exact h6
              · exact h2) (ab_goodC h1)) rfl rfl rfl ⟨rfl, h4⟩ ⟨Nat.le_trans r1 hfr, Nat.le_trans r2 hlo⟩) ⟨ab_Pm_blind, hrc, hP⟩ rfl hln hls hstk (lv_room (by rw [ab_catsum]; exact hsum)) hd hf
          · exact va_runVN (C := (mt a).1.cls) ⟨hx, hb, hml, hown, hts⟩ hM ⟨va_cnB b hts (ab_goodC h1) rfl rfl rfl (hEn.2.1 _ hlk rfl) (hts _ h2) h4 ⟨Nat.le_trans r1 hfr, Nat.le_trans r2 hlo⟩, hts _ h5, hts _ h6⟩ ⟨ab_Pm_blind, hrc, hP⟩ rfl hln hls hstk (lv_room (by rw [ab_catsum]; exact hsum)) hd hf
        next => cases hs
      next => cases hs
    next idx =>
      split at hs
      next q r' hdrop =>
        obtain ⟨hq, hsl, hsum⟩ := ab_cc_ok hs
        cases hq
        obtain ⟨hlk, ⟨h1, h2, h3, h4⟩, ⟨r1, r2⟩, h5, h6, h7⟩ := hok hc1
        refine ⟨rfl, ?_⟩
        have hstk : st.map (ab_v g) = (((st.take b).reverse).map (ab_v g)).reverse ++ .ref (g q) :: r.map (ab_v g) := by
          rw [ab_stk g (b := b), hdrop]; rfl
        have h1' : Cond.code (mt a).1 (mt a).2.1 (mt a).2.2.1 none ∈ gw := by rw [← h7]; exact h1
        have hM' : Met l (mt a).1 (.code (mt a).1 (mt a).2.1 (mt a).2.2.1 none :: gw) (ab_rm (mt a) h hE) (ab_Pm D aC B g ext (.ref q :: (st.take b).reverse) h) (ab_Qm D aC B g v hE) (hE.length - h.length) (ab_sz hE - ab_sz h) (fun q => B ≤ q) := by
          have hM2 := hM
          unfold ab_wn at hM2
          rw [h7] at hM2
          exact hM2
        rcases hlk with ⟨-, hlk⟩ | ⟨-, hlk⟩
        · exact va_runI ⟨hx, hb, hml, hown, hts⟩ hM' (cwI b hts (ab_goodC h1') rfl rfl rfl (hts _ h2) (hts _ hlk) (hts _ h5) h6 h4 ⟨Nat.le_trans r1 hfr, Nat.le_trans r2 hlo⟩) ⟨ab_Pm_blind, hP⟩ rfl hln hls hstk (lv_room (by rw [ab_catsum]; exact hsum)) hd hf
        · exact va_runIN ⟨hx, hb, hml, hown, hts⟩ hM' ⟨va_cnB b hts (ab_goodC h1') rfl rfl rfl (hEn.2.1 _ hlk rfl) (hts _ h2) h4 ⟨Nat.le_trans r1 hfr, Nat.le_trans r2 hlo⟩, h6, hts _ h5⟩ ⟨ab_Pm_blind, hP⟩ rfl hln hls hstk (lv_room (by rw [ab_catsum]; exact hsum)) hd hf
      next => cases hs
    next => cases hs
  next => cases hs
theorem ab_c_args {mt : Nat → ab_M} {i : Instr} {a b cn : Nat} (hs : ab_c mt i a b cn st h = some (vs, r)) : (lg_sl vs).length ≤ (mt a).2.2.1 := by
  unfold ab_c at hs
  split at hs
  next =>
    split at hs
    next => obtain ⟨hq, hsl, -⟩ := ab_cc_ok hs; cases hq; exact hsl
    next =>
      split at hs
      next =>
        split at hs
        next => obtain ⟨hq, hsl, -⟩ := ab_cc_ok hs; cases hq; exact hsl
        next => cases hs
      next => cases hs
    next =>
      split at hs
      next => obtain ⟨hq, hsl, -⟩ := ab_cc_ok hs; cases hq; exact hsl
      next => cases hs
    next => cases hs
  next => cases hs
theorem ab_c_mok {mt : Nat → ab_M} {M : ab_M} {i : Instr} {a b cn : Nat} (hs : ab_c mt i a b cn st h = some (vs, r)) (hok : ab_cok M (mt a) i b cn) : ab_mok (mt a) b := by
  unfold ab_c at hs
  split at hs
  next hc =>
    split at hs
    next => exact (hok hc.1).2.1
    next => exact (hok hc.1).2.1
    next => exact (hok hc.1).2.1
    next => cases hs
  next => cases hs
end AB8
