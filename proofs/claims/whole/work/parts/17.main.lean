/-- what a frame of method M knows -/
def ab_Fx (M : ab_M) (p : Program) (s : State) (m : MethodId) (args : Array Value) (meth : Method) (c : Code) : Prop := p.tables.exec = Jvm.exec ∧ c.code = M.2.1 ∧ c.maxLocals = M.2.2.1 ∧ meth.sig.returnType = M.2.2.2.1 ∧ s.vm.findClass M.1.cls = some m.cls ∧ meth.locks = false ∧ (M.1.name = "<init>" → meth.name = "<init>") ∧ ∀ w ∈ gw, w.before args s = true
/-- what the evaluator says of method j from pc on is what the machine does; at its end stands a return of the answer -/
def ab_Sd (dc : Nat → Nat → Option ab_I) (mt : Nat → ab_M) (D : va_G) (aC : Nat → ClassId) (B : Nat) (g : Nat → Nat) (ext : Nat → Option (Nat × (Nat → Int32))) (l : Launch) (n : Nat) : Prop :=
  ∀ (j pc : Nat) (lv : ab_L) (st : List Value) (h : ab_H) (r : Option Value) (hE : ab_H), ab_go dc mt ext ab_sbt n j pc lv st h = some (r, hE) →
  ∀ (p : Program) (e : Env) (R : Room) (s : State) (m : MethodId) (args : Array Value) (below : List Frame) (meth : Method) (c : Code) (H : Heap) (locs : List Loc) (cells slots : Nat) (Q : State → Prop) (ls : Array Slot),
  ab_Fx (mt j) p s m args meth c → ab_Env D aC B g ext s s.heap → B ≤ s.heap.size → lv_has ls (mt j).2.2.1 (lv.map (ab_q g)) → ab_Wd D aC B g h H → va_S (fun q => B ≤ q) s.heap H locs → s.heap.size + cells = B + h.length →
  (mt j).2.2.2.2.1 ≤ R.frames → (mt j).2.2.2.2.2.1 ≤ R.locals → cells + (hE.length - h.length) ≤ R.cells → slots + (ab_sz hE - ab_sz h) ≤ R.slots →
  (∀ (pc' : Nat) (ls' : Array Slot) (H1 : Heap) (locs1 : List Loc) (ir : Instr), decode (mt j).2.1 pc' = .ok (ir, 1) → ab_r (mt j).2.2.2.1 ir r.toList = some r → ab_Wd D aC B g hE H1 → va_S (fun q => B ≤ q) s.heap H1 locs1 →
    W p l e R s m args below meth c H1 locs1 (cells + (hE.length - h.length)) (slots + (ab_sz hE - ab_sz h)) Q (F0 m pc' ls' ((r.map (ab_v g)).toList))) →
  W p l e R s m args below meth c H locs cells slots Q (F0 m pc ls (st.map (ab_v g)))
theorem ab_r_stack {rt : Option FieldType} {i : Instr} {st : List Value} {r : Option Value} (h : ab_r rt i st = some r) : st = r.toList ∧ ab_len i = 1 ∧ ab_isw i = false := by
  unfold ab_r at h
  split at h
  · split at h
    · split at h
      · cases h; exact ⟨rfl, rfl, rfl⟩
      · cases h
    · cases h
  · split at h
    · cases h; exact ⟨rfl, rfl, rfl⟩
    · cases h
  · split at h <;> first | (cases h; exact ⟨rfl, rfl, rfl⟩) | cases h
  · split at h
    · cases h; exact ⟨rfl, rfl, rfl⟩
    · cases h
  · cases h
theorem ab_s_sw {nL : Nat} {i : Instr} {lv : ab_L} {st : List Value} {x : ab_L × List Value} (h : ab_s nL i lv st = some x) : ab_isw i = false := by
  cases i <;> first | rfl | cases h
theorem ab_h_sw {ext : Nat → Option (Nat × (Nat → Int32))} {sbt : Nat → Option (List Int32)} {i : Instr} {a b c : Nat} {st : List Value} {h : ab_H} {x : List Value × ab_H} (hs : ab_h ext sbt i a b c st h = some x) : ab_isw i = false := by
  cases i <;> first | rfl | cases hs
theorem ab_c_sw {mt : Nat → ab_M} {i : Instr} {a b c : Nat} {st : List Value} {h : ab_H} {x : List Value × List Value} (hs : ab_c mt i a b c st h = some x) : ab_isw i = false := by
  unfold ab_c at hs
  split at hs
  · cases i <;> first | rfl | cases hs
  · cases hs
section AB9
variable {dc : Nat → Nat → Option ab_I} {mt : Nat → ab_M} {D : va_G} {aC : Nat → ClassId} {B : Nat} {g : Nat → Nat} {ext : Nat → Option (Nat × (Nat → Int32))} {l : Launch}
set_option maxHeartbeats 4000000 in
/-- a method's contract out of the evaluator -/
theorem ab_met {n a b : Nat} {vs : List Value} {h hE : ab_H} {v : Option Value} (ih : ab_Sd dc mt D aC B g ext l n) (hs : ab_go dc mt ext ab_sbt n a 0 (lv_args 0 vs) [] h = some (v, hE)) (hsl : (lg_sl vs).length ≤ (mt a).2.2.1) (hmk : ab_mok (mt a) b) :
    Met l (mt a).1 (ab_wn (mt a)) (ab_rm (mt a) h hE) (ab_Pm D aC B g ext vs h) (ab_Qm D aC B g v hE) (hE.length - h.length) (ab_sz hE - ab_sz h) (fun q => B ≤ q) := by
  refine Met.ofW (cc := (mt a).2.1) (maxL := (mt a).2.2.1) (ret := (mt a).2.2.2.1) hmk.2.2.1 rfl ?_
  intro p e s m args below meth c s₁ Bd hml hv
  obtain ⟨rfl, hsz, hEn, hw⟩ := hv
  have hts := atoms_spec (ws := ab_wn (mt a)) Bd.pre
  have hlocks := Bd.notSynchronized
  have hx := Bd.exec
  have hb := Bd.bytes
  have hr := Bd.returns
  have hFx : ab_Fx (mt a) p s m (vs.map (ab_v g)).toArray meth c := ⟨hx, hb, hml, hr, findClass_of_methodNamed Bd.named, hlocks, fun hi => by rw [(name_of_methodNamed Bd.named Bd.method).1]; exact hi, fun w hw => hts w (List.mem_cons_of_mem _ hw)⟩
  have hl := lv_entry (vs.map (ab_v g)) (n := (mt a).2.2.1) (by rw [ab_sl]; exact hsl)
  rw [lg_entry_eq]
  generalize (lg_sl (vs.map (ab_v g)) ++ List.replicate ((mt a).2.2.1 - (lg_sl (vs.map (ab_v g))).length) Slot.unset).toArray = ls at hl ⊢
  rw [ab_args] at hl
  have hmono := ab_go_mono _ _ _ _ _ _ _ _ hs
  refine ih a 0 (lv_args 0 vs) [] h v hE hs p e _ s m _ below meth c s.heap [] 0 0 _ ls hFx hEn (by omega) hl hw va_S.rf (by omega) (Nat.le_refl _) (Nat.le_refl _) (by rw [Nat.zero_add]; exact Nat.le_refl _) (by rw [Nat.zero_add]; exact Nat.le_refl _) ?_
  intro pc' ls' H1 locs1 ir hd hret hw1 hS1
  rw [Nat.zero_add, Nat.zero_add]
  have hq : ∀ t : State, t.heap = H1 → s.WarmedH t.vm → ab_Qm D aC B g v hE (vs.map (ab_v g)).toArray s (.returned (v.map (ab_v g))) t := fun t ht _ => ⟨rfl, by rw [ht]; exact hw1, by rw [← ht] at hS1; exact ⟨hS1.1, hS1.2.1⟩⟩
  unfold ab_r at hret
  split at hret
  · split at hret
    next x ty hst hrt =>
      split at hret
      next hnar =>
        cases hret
        exact W.zret hx hb (hr.trans hrt) hnar hq hS1.2.2 hd
      next => cases hret
    next => cases hret
  · split at hret
    next x hst hrt =>
      cases hret
      exact W.lret hx hb (hr.trans hrt) hq hS1.2.2 hd
    next => cases hret
  · split at hret
    next x o hst hrt => cases hret; exact W.aret hx hb (hr.trans hrt) (Or.inl ⟨_, rfl⟩) (Or.inr ⟨_, rfl⟩) hq hS1.2.2 hd
    next o hst hrt => cases hret; exact W.aret hx hb (hr.trans hrt) (Or.inl ⟨_, rfl⟩) (Or.inl rfl) hq hS1.2.2 hd
    next x o hst hrt => cases hret; exact W.aret hx hb (hr.trans hrt) (Or.inr ⟨_, rfl⟩) (Or.inr ⟨_, rfl⟩) hq hS1.2.2 hd
    next o hst hrt => cases hret; exact W.aret hx hb (hr.trans hrt) (Or.inr ⟨_, rfl⟩) (Or.inl rfl) hq hS1.2.2 hd
    next => cases hret
  · split at hret
    next hst hrt =>
      cases hret
      exact W.vret hx hb (hr.trans hrt) hq hS1.2.2 hd
    next => cases hret
  · cases hret
set_option maxHeartbeats 4000000 in
theorem ab_sound (ok : ∀ (j pc : Nat) (q : ab_I), dc j pc = some q → ab_OK mt j pc q) (hg : ∀ q, q < 1000000 → g q = B + q) : ∀ n, ab_Sd dc mt D aC B g ext l n := by
  intro n
  induction n with
  | zero => intro j pc lv st h r hE hs; cases hs
  | succ n ih =>
    intro j pc lv st h r hE hs p e R s m args below meth c H locs cells slots Q ls hFx hEn hB hl hw hS hsz hfr hlo hce hsls hend
    have hFx0 := hFx
    obtain ⟨hx, hb, hml, hr, hown, hlk, hin, hts⟩ := hFx
    have hs : ab_st dc mt ext ab_sbt (ab_go dc mt ext ab_sbt n) j pc lv st h = some (r, hE) := hs
    unfold ab_st at hs
    split at hs
    next => cases hs
    next i a b cn hdc =>
      obtain ⟨hdec, hbok, hhok, hcok⟩ := ok j pc _ hdc
      dsimp only at hdec hbok hhok hcok
      split at hs
      next lv' st' h1 =>
        exact ab_s_ok hx hb h1 (hdec.at (ab_s_sw h1)) hl (fun ls' hl' => ih j _ lv' st' h r hE hs p e R s m args below meth c H locs cells slots Q ls' hFx0 hEn hB hl' hw hS hsz hfr hlo hce hsls hend)
      next =>
        split at hs
        next pc' st' h2 =>
          exact ab_b_ok hx hb h2 hdec hbok (ih j pc' lv st' h r hE hs p e R s m args below meth c H locs cells slots Q ls hFx0 hEn hB hl hw hS hsz hfr hlo hce hsls hend)
        next =>
          split at hs
          next st' h' h3 =>
            split at hs
            next hsum =>
              have m1 := ab_h_mono h3
              have m2 := ab_go_mono _ _ _ _ _ _ _ _ hs
              have e1 : cells + (h'.length - h.length) + (hE.length - h'.length) = cells + (hE.length - h.length) := by have := m1.1; have := m2.1; omega
              have e2 : slots + (ab_sz h' - ab_sz h) + (ab_sz hE - ab_sz h') = slots + (ab_sz hE - ab_sz h) := by have := m1.2; have := m2.2; omega
              refine ab_h_ok hx hb hml hl.1 hts hown hin hEn hg hB hsz hw hS hfr hlo h3 hsum (hdec.at (ab_h_sw h3)) hhok (by omega) (by omega) (fun H1 locs1 hw1 hS1 => ?_)
              refine ih j _ lv st' h' r hE hs p e R s m args below meth c H1 locs1 _ _ Q ls hFx0 hEn hB hl hw1 hS1 (by have := m1.1; omega) hfr hlo (by rw [e1]; exact hce) (by rw [e2]; exact hsls) ?_
              rw [e1, e2]
              exact hend
            next => cases hs
          next =>
            split at hs
            next r' h4 =>
              cases hs
              obtain ⟨q1, q2, q3⟩ := ab_r_stack h4
              subst q1
              have hd := hdec.at q3
              rw [q2] at hd
              have k := hend pc ls H locs i hd h4 hw hS
              rw [Nat.sub_self, Nat.add_zero, Nat.sub_self, Nat.add_zero] at k
              have e0 : r.toList.map (ab_v g) = (r.map (ab_v g)).toList := by cases r <;> rfl
              rw [e0]
              exact k
            next =>
              split at hs
              next vs rest h5 =>
                split at hs
                next v h1 h6 =>
                  have m1 := ab_go_mono _ _ _ _ _ _ _ _ h6
                  have m2 := ab_go_mono _ _ _ _ _ _ _ _ hs
                  have e1 : cells + (h1.length - h.length) + (hE.length - h1.length) = cells + (hE.length - h.length) := by have := m1.1; have := m2.1; omega
                  have e2 : slots + (ab_sz h1 - ab_sz h) + (ab_sz hE - ab_sz h1) = slots + (ab_sz hE - ab_sz h) := by have := m1.2; have := m2.2; omega
                  refine ab_wsz (fun hu => ?_)
                  have hHs : H.size = B + h.length := ab_H_size hw (Nat.le_trans hB hS.1) (by omega)
                  have hM := ab_met ih h6 (ab_c_args h5) (ab_c_mok h5 hcok)
                  obtain ⟨h3, hrun⟩ := ab_callrun (p := p) (e := e) (below := below) (meth := meth) (cells := cells) (slots := slots) hx hb hml hl.1 hts hown hEn hg hHs hw hS hfr hlo h5 (hdec.at (ab_c_sw h5)) hcok hM ⟨by omega, by omega⟩
                  refine ab_run hrun (fun w st₀ t H1 L h00 ht hq hL => ?_)
                  obtain ⟨hq1, hq2, hq3⟩ := hq
                  cases hq1
                  rw [ht] at hq2
                  rw [← ab_tolist]
                  have hS1 : va_S (fun q => B ≤ q) s.heap H1 (locs ++ L) := by
                    refine ⟨?_, fun q g1 g2 => ?_, fun q hq => ?_⟩
                    · have := hq3.1
                      rw [h00, ht] at this
                      exact Nat.le_trans hS.1 this
                    · have := hq3.2 q (by rw [h00]; exact Nat.lt_of_lt_of_le g1 hS.1) g2
                      rw [ht, h00] at this
                      rw [this]
                      exact hS.2.1 q g1 g2
                    · rcases List.mem_append.mp hq with hq | hq
                      · exact hS.2.2 q hq
                      · exact hL q hq
                  refine ih j _ lv _ h1 r hE hs p e R s m args below meth c H1 _ _ _ Q ls hFx0 hEn hB hl hq2 hS1 (by have := m1.1; omega) hfr hlo (by rw [e1]; exact hce) (by rw [e2]; exact hsls) ?_
                  rw [e1, e2]
                  exact hend
                next => cases hs
              next => cases hs
end AB9
