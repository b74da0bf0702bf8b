/-! THE CLAIM OUT OF ONE WALK OF THE LAW'S BODY. Your part is whole_start (and what it stands on); all else here is the same for every law, but numbers. -/
def R_law : String := "BrowserHouseLaw"
def lw_P (b : Addr) (xs : List Int32) (args : Array Value) (s : State) : Prop := args = #[.ref b] ∧ s.IntsAt b xs ∧ xs.length ≤ 384 ∧ (Jvm.Cond.and given_1 narrow_1).before args s = true
def lw_Q (_ : Array Value) (s : State) (o : Outcome) (t : State) : Prop := o = .returned (some (.int 1)) ∧ Framed s o t [] 600000 7302249
def lw_Z (below : List Frame) (a : Array Value) (s : State) : State → Prop := fun t => ∃ o, t.status = .running ∧ Ended t below o ∧ lw_Q a s o t
/-- the law's own end, with 1 on the stack, nothing written that was there before, its room as the claim has it -/
theorem lw_ret {p : Program} {l : Launch} {e : Env} {s : State} {m : MethodId} {below : List Frame} {meth : Method} {c : Code} {b : Nat} (hx : p.tables.exec = Jvm.exec) (hb : c.code = code) (hr : meth.sig.returnType = ret) (hlocks : meth.locks = false) {pc : Nat} {H : Heap} {ls : Array Slot} (hdg : decode code pc = .ok (.ireturn, 1)) : W p l e room_1 s m #[Value.ref b] below meth c H [] 600000 7302249 (lw_Z below #[Value.ref b] s) (F0 m pc ls [.int 1]) := by
  intro T hT X
  obtain ⟨fs, hret, hrun, hended, hW, hframe⟩ := X.leave (v := some (.int 1)) (hlocks := hlocks) (fun h => by rw [hr] at h; cases h)
  have hmeth' : T.vm.method? m = some meth := X.method'
  refine ⟨T.setFrames fs, ?_, .returned (some (.int 1)), hrun, hended, rfl, ⟨_, rfl⟩, hW, hframe⟩
  jvm_step X.here [X.here.top, hx, hb, hdg, hmeth', hr, ret, narrow_b1]
  (try refine ⟨rfl, ?_⟩); (try refine ⟨rfl, ?_⟩)
  first | (intro acts; rw [hret _ acts rfl rfl rfl]) | rw [hret _ _ rfl rfl rfl]
  exact Steps.refl _
/-- what holds at the law's entry: the machine, the code, the tables' words (any of lw_tbl by 'hts w (by decide +kernel)'), the script of L ints xs at the cell b, what the Statement gives of the start (any of its parts by flat_of_before) -/
def lw_At (p : Program) (s : State) (m : MethodId) (meth : Method) (c : Code) (b L : Nat) (xs : Nat → Int32) : Prop :=
  p.tables.exec = Jvm.exec ∧ c.code = code ∧ meth.sig.returnType = ret ∧ c.maxLocals = 4 ∧ s.vm.findClass R_law = some m.cls ∧ (∀ w ∈ lw_tbl, w.before #[Value.ref b] s = true) ∧ va_X b L xs s s.heap ∧ b < s.heap.size ∧ meth.locks = false ∧ (Jvm.Cond.and given_1 narrow_1).before #[Value.ref b] s = true
/-- what is left to show: the evaluator ends with 1, in the claim's room -/
def ab_true (L : Nat) (xs : Nat → Int32) : Prop := ∃ (n : Nat) (hE : ab_H), ab_go ab_dc ab_mt (ab_ext L xs) ab_sbt n 1000 0 [(0, .ref 2000000)] [] [] = some (some (.int 1), hE) ∧ hE.length ≤ 600000 ∧ ab_sz hE ≤ 7302249
theorem ab_ir {ir : Instr} (h : ab_r ret ir [.int 1] = some (some (.int 1))) : ir = .ireturn := by
  unfold ab_r at h
  split at h
  · rfl
  · split at h
    next he _ => cases he
    next => cases h
  · split at h
    next he _ => cases he
    next he _ => cases he
    next he _ => cases he
    next he _ => cases he
    next => cases h
  · split at h
    next he _ => cases he
    next => cases h
  · cases h
set_option maxHeartbeats 4000000 in
set_option maxRecDepth 100000 in
theorem ab_whole {p : Program} {e : Env} {s : State} {m : MethodId} {below : List Frame} {meth : Method} {c : Code} (l : Launch) {b L : Nat} {xs : Nat → Int32} (hL : L ≤ 384) (C0 : lw_At p s m meth c b L xs) (ht : ab_true L xs) : W p l e room_1 s m #[Value.ref b] below meth c s.heap [] 0 0 (lw_Z below #[Value.ref b] s) (entryFrame m ([Value.ref b] : List Value).toArray 4) := by
  obtain ⟨hx, hb, hr, hml, hown, hts, hX, hbl, hlocks, hgv⟩ := C0
  obtain ⟨n, hE, hgo, hlen, hsz⟩ := ht
  obtain ⟨D, aC, g, hg, hgb, hEn⟩ := ab_entry hts (flat_of_before _ hgv) hX hbl (by omega)
  have hl := lv_entry ([.ref b]) (n := 4) (Nat.le_of_ble_eq_true rfl)
  rw [lg_entry_eq]
  generalize (lg_sl ([.ref b]) ++ List.replicate (4 - (lg_sl ([.ref b])).length) Slot.unset).toArray = ls at hl ⊢
  have hl : lv_has ls 4 (([(0, .ref 2000000)] : ab_L).map (ab_q g)) := by
    show lv_has ls 4 [(0, .ref (g 2000000))]
    rw [hgb]
    exact hl
  have hFx : ab_Fx (ab_mt 1000) p s m #[Value.ref b] meth c := ⟨hx, hb, hml, hr, hown, hlocks, fun h => absurd h (by decide), fun w hw => hts w (gw_in hw)⟩
  refine ab_sound (l := l) ab_ok hg n 1000 0 [(0, .ref 2000000)] [] [] (some (.int 1)) hE hgo p e room_1 s m #[Value.ref b] below meth c s.heap [] 0 0 _ ls hFx hEn (Nat.le_refl _) hl ⟨fun k q h => by simp [ab_ws] at h, Nat.zero_le _, fun i e h => by simp at h⟩ va_S.rf rfl (by decide) (by decide) (by show 0 + (hE.length - 0) ≤ 600000; omega) (by show 0 + (ab_sz hE - 0) ≤ 7302249; omega) ?_
  intro pc' ls' H1 locs1 ir hd hret hw1 hS1
  have hir := ab_ir hret
  subst hir
  refine va_forget (fun q hq => hS1.2.2 q hq) ?_
  refine W.widen (k := 600000) (n := 7302249) (by show 0 + (hE.length - 0) ≤ 600000; omega) (by show 0 + (ab_sz hE - 0) ≤ 7302249; omega) ?_
  exact lw_ret hx hb hr hlocks hd
