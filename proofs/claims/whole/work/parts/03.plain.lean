/-! THE MACHINE DOES WHAT ab_s AND ab_b SAY. g: where the abstract addresses lie. -/
def ab_v (g : Nat → Nat) (v : Value) : Value := match v with
  | .ref a => .ref (g a)
  | v => v
def ab_q (g : Nat → Nat) (q : Nat × Value) : Nat × Value := (q.1, ab_v g q.2)
theorem ab_v_cat (g : Nat → Nat) (v : Value) : (ab_v g v).category = v.category := by cases v <;> rfl
theorem ab_filter1 (g : Nat → Nat) (i : Nat) (lv : ab_L) : (lv.map (ab_q g)).filter (fun q => !(q.1 == i) && !(q.1 + 1 == i && q.2.category == 2)) = (lv.filter (fun q => !(q.1 == i) && !(q.1 + 1 == i && q.2.category == 2))).map (ab_q g) := by
  rw [List.filter_map]
  congr 1
  apply List.filter_congr
  intro q _
  simp [ab_q, ab_v_cat]
theorem ab_filter2 (g : Nat → Nat) (i : Nat) (lv : ab_L) : (lv.map (ab_q g)).filter (fun q => !(q.1 == i) && (!(q.1 == i + 1) && !(q.1 + 1 == i && q.2.category == 2))) = (lv.filter (fun q => !(q.1 == i) && (!(q.1 == i + 1) && !(q.1 + 1 == i && q.2.category == 2)))).map (ab_q g) := by
  rw [List.filter_map]
  congr 1
  apply List.filter_congr
  intro q _
  simp [ab_q, ab_v_cat]
theorem ab_put1_map (g : Nat → Nat) (lv : ab_L) (i : Nat) (v : Value) : (i, ab_v g v) :: (lv.map (ab_q g)).filter (fun q => !(q.1 == i) && !(q.1 + 1 == i && q.2.category == 2)) = (ab_put1 lv i v).map (ab_q g) := by
  rw [ab_filter1]; rfl
theorem ab_put2_map (g : Nat → Nat) (lv : ab_L) (i : Nat) (v : Value) : (i, ab_v g v) :: (lv.map (ab_q g)).filter (fun q => !(q.1 == i) && (!(q.1 == i + 1) && !(q.1 + 1 == i && q.2.category == 2))) = (ab_put2 lv i v).map (ab_q g) := by
  rw [ab_filter2]; rfl
theorem ab_lookup_mem {lv : ab_L} {i : Nat} {v : Value} (h : lv.lookup i = some v) : (i, v) ∈ lv := by
  induction lv with
  | nil => cases h
  | cons q r ih =>
    obtain ⟨k, w⟩ := q
    simp only [List.lookup] at h
    split at h
    next e => cases h; rw [beq_iff_eq] at e; subst e; exact List.mem_cons_self
    next => exact List.mem_cons_of_mem _ (ih h)
theorem ab_has {g : Nat → Nat} {ls : Array Slot} {nL : Nat} {lv : ab_L} (h : lv_has ls nL (lv.map (ab_q g))) {i : Nat} {v : Value} (hv : lv.lookup i = some v) : ls[i]? = some (.val (ab_v g v)) :=
  h.2.2 (i, ab_v g v) (List.mem_map.mpr ⟨(i, v), ab_lookup_mem hv, rfl⟩)
theorem ab_hasK {g : Nat → Nat} {lv : ab_L} {i : Nat} {v : Value} (hv : lv.lookup i = some v) : ∃ k : Nat, (lv.map (ab_q g))[k]? = some (i, ab_v g v) :=
  List.mem_iff_getElem?.mp (List.mem_map.mpr ⟨(i, v), ab_lookup_mem hv, rfl⟩)
section AB1
variable {p : Program} {l : Launch} {e : Env} {R : Room} {s : State} {m : MethodId} {args : Array Value} {below : List Frame} {meth : Method} {c : Code} {H : Heap} {locs : List Loc} {cells slots : Nat} {Q : State → Prop}
variable {cc : ByteArray} {pc : Nat} {ls : Array Slot} {g : Nat → Nat} {nL : Nat} {lv lv' : ab_L} {st st' : List Value}
theorem ab_wi {f : Int32 → Int32 → Int32} (hs : ab_ii f lv st = some (lv', st')) (row : ∀ (x y : Int32) (r : List Value), W p l e R s m args below meth c H locs cells slots Q (F0 m (pc + 1) ls (.int (f x y) :: r)) → W p l e R s m args below meth c H locs cells slots Q (F0 m pc ls (.int y :: .int x :: r)))
    (kk : lv' = lv → W p l e R s m args below meth c H locs cells slots Q (F0 m (pc + 1) ls (st'.map (ab_v g)))) : W p l e R s m args below meth c H locs cells slots Q (F0 m pc ls (st.map (ab_v g))) := by
  unfold ab_ii at hs
  split at hs
  · cases hs
    exact row _ _ _ (kk rfl)
  · cases hs
theorem ab_wz {f : Int32 → Int32 → Int32} (hs : ab_iz f lv st = some (lv', st')) (row : ∀ (x y : Int32) (r : List Value), ¬ y = 0 → W p l e R s m args below meth c H locs cells slots Q (F0 m (pc + 1) ls (.int (f x y) :: r)) → W p l e R s m args below meth c H locs cells slots Q (F0 m pc ls (.int y :: .int x :: r)))
    (kk : lv' = lv → W p l e R s m args below meth c H locs cells slots Q (F0 m (pc + 1) ls (st'.map (ab_v g)))) : W p l e R s m args below meth c H locs cells slots Q (F0 m pc ls (st.map (ab_v g))) := by
  unfold ab_iz at hs
  split at hs
  · split at hs
    · cases hs
    · cases hs
      exact row _ _ _ (by assumption) (kk rfl)
  · cases hs
theorem ab_wl {f : Int64 → Int64 → Int64} (hs : ab_ll f lv st = some (lv', st')) (row : ∀ (x y : Int64) (r : List Value), W p l e R s m args below meth c H locs cells slots Q (F0 m (pc + 1) ls (.long (f x y) :: r)) → W p l e R s m args below meth c H locs cells slots Q (F0 m pc ls (.long y :: .long x :: r)))
    (kk : lv' = lv → W p l e R s m args below meth c H locs cells slots Q (F0 m (pc + 1) ls (st'.map (ab_v g)))) : W p l e R s m args below meth c H locs cells slots Q (F0 m pc ls (st.map (ab_v g))) := by
  unfold ab_ll at hs
  split at hs
  · cases hs
    exact row _ _ _ (kk rfl)
  · cases hs
theorem ab_wli {f : Int64 → Int32 → Int64} (hs : ab_li f lv st = some (lv', st')) (row : ∀ (x : Int64) (y : Int32) (r : List Value), W p l e R s m args below meth c H locs cells slots Q (F0 m (pc + 1) ls (.long (f x y) :: r)) → W p l e R s m args below meth c H locs cells slots Q (F0 m pc ls (.int y :: .long x :: r)))
    (kk : lv' = lv → W p l e R s m args below meth c H locs cells slots Q (F0 m (pc + 1) ls (st'.map (ab_v g)))) : W p l e R s m args below meth c H locs cells slots Q (F0 m pc ls (st.map (ab_v g))) := by
  unfold ab_li at hs
  split at hs
  · cases hs
    exact row _ _ _ (kk rfl)
  · cases hs
theorem ab_w1 {f : Int32 → Int32} (hs : ab_i1 f lv st = some (lv', st')) (row : ∀ (x : Int32) (r : List Value), W p l e R s m args below meth c H locs cells slots Q (F0 m (pc + 1) ls (.int (f x) :: r)) → W p l e R s m args below meth c H locs cells slots Q (F0 m pc ls (.int x :: r)))
    (kk : lv' = lv → W p l e R s m args below meth c H locs cells slots Q (F0 m (pc + 1) ls (st'.map (ab_v g)))) : W p l e R s m args below meth c H locs cells slots Q (F0 m pc ls (st.map (ab_v g))) := by
  unfold ab_i1 at hs
  split at hs
  · cases hs
    exact row _ _ (kk rfl)
  · cases hs
set_option maxHeartbeats 4000000 in
theorem ab_s_ok (hx : p.tables.exec = Jvm.exec) (hb : c.code = cc) {i : Instr} (hs : ab_s nL i lv st = some (lv', st')) (hd : decode cc pc = .ok (i, ab_len i)) (hl : lv_has ls nL (lv.map (ab_q g)))
    (kk : ∀ ls' : Array Slot, lv_has ls' nL (lv'.map (ab_q g)) → W p l e R s m args below meth c H locs cells slots Q (F0 m (pc + ab_len i) ls' (st'.map (ab_v g)))) : W p l e R s m args below meth c H locs cells slots Q (F0 m pc ls (st.map (ab_v g))) := by
  have k0 : lv' = lv → ∀ n, ab_len i = n → W p l e R s m args below meth c H locs cells slots Q (F0 m (pc + n) ls (st'.map (ab_v g))) := fun e n hn => by
    subst e; subst hn; exact kk ls hl
  unfold ab_s at hs
  split at hs
  · cases hs; exact lv_null hx hb hd (k0 rfl 1 rfl)
  · cases hs; exact lv_iconst hx hb hd rfl (k0 rfl 1 rfl)
  · cases hs; exact lv_bipush hx hb hd rfl (k0 rfl 2 rfl)
  · cases hs; exact lv_sipush hx hb hd rfl (k0 rfl 3 rfl)
  · cases hs; exact lv_lconst hx hb hd rfl (k0 rfl 1 rfl)
  -- loads
  · unfold ab_ldI at hs; split at hs
    next x h => cases hs; exact lv_iload hx hb hd (ab_has hl h) (k0 rfl 2 rfl)
    next => cases hs
  · unfold ab_ldI at hs; split at hs
    next x h => cases hs; exact lv_iload_n hx hb hd rfl (ab_has hl h) (k0 rfl 1 rfl)
    next => cases hs
  · unfold ab_ldL at hs; split at hs
    next x h => cases hs; exact lv_lload hx hb hd (ab_has hl h) (k0 rfl 2 rfl)
    next => cases hs
  · unfold ab_ldL at hs; split at hs
    next x h => cases hs; exact lv_lload_n hx hb hd rfl (ab_has hl h) (k0 rfl 1 rfl)
    next => cases hs
  · unfold ab_ldA at hs; split at hs
    next x h => cases hs; exact lv_aload hx hb hd (ab_has hl h) (k0 rfl 2 rfl)
    next h => cases hs; exact lv_aloadN hx hb hd (ab_has hl h) (k0 rfl 2 rfl)
    next => cases hs
  · unfold ab_ldA at hs; split at hs
    next x h => cases hs; exact lv_aload_n hx hb hd rfl (ab_has hl h) (k0 rfl 1 rfl)
    next h => cases hs; exact lv_aload_nN hx hb hd rfl (ab_has hl h) (k0 rfl 1 rfl)
    next => cases hs
  -- stores
  · unfold ab_stI at hs; split at hs
    next x r => split at hs
                next hn => cases hs; exact lv_istore hx hb hd hl hn (ab_put1_map g lv _ (.int x)) (fun ls' h => kk ls' h)
                next => cases hs
    next => cases hs
  · unfold ab_stI at hs; split at hs
    next x r => split at hs
                next hn => cases hs; exact lv_istore_n hx hb hd rfl hl hn (ab_put1_map g lv _ (.int x)) (fun ls' h => kk ls' h)
                next => cases hs
    next => cases hs
  · unfold ab_stL at hs; split at hs
    next x r => split at hs
                next hn => cases hs; exact lv_lstore hx hb hd hl hn (ab_put2_map g lv _ (.long x)) (fun ls' h => kk ls' h)
                next => cases hs
    next => cases hs
  · unfold ab_stL at hs; split at hs
    next x r => split at hs
                next hn => cases hs; exact lv_lstore_n hx hb hd rfl hl hn (ab_put2_map g lv _ (.long x)) (fun ls' h => kk ls' h)
                next => cases hs
    next => cases hs
  · unfold ab_stA at hs; split at hs
    next x r => split at hs
                next hn => cases hs; exact lv_astore hx hb hd hl hn (ab_put1_map g lv _ (.ref x)) (fun ls' h => kk ls' h)
                next => cases hs
    next r => split at hs
              next hn => cases hs; exact lv_astoreN hx hb hd hl hn (ab_put1_map g lv _ .null) (fun ls' h => kk ls' h)
              next => cases hs
    next => cases hs
  · unfold ab_stA at hs; split at hs
    next x r => split at hs
                next hn => cases hs; exact lv_astore_n hx hb hd rfl hl hn (ab_put1_map g lv _ (.ref x)) (fun ls' h => kk ls' h)
                next => cases hs
    next r => split at hs
              next hn => cases hs; exact lv_astore_nN hx hb hd rfl hl hn (ab_put1_map g lv _ .null) (fun ls' h => kk ls' h)
              next => cases hs
    next => cases hs
  · unfold ab_inc at hs; split at hs
    next x h => split at hs
                next hn => cases hs; obtain ⟨k, hk⟩ := ab_hasK (g := g) h; exact lv_iinc hx hb hd hl hk rfl hn (ab_put1_map g lv _ (.int _)) (fun ls' h => kk ls' h)
                next => cases hs
    next => cases hs
  -- arithmetic
  · exact ab_wi hs (fun _ _ _ k => lv_iadd hx hb hd k) (fun e => k0 e 1 rfl)
  · exact ab_wi hs (fun _ _ _ k => lv_isub hx hb hd k) (fun e => k0 e 1 rfl)
  · exact ab_wi hs (fun _ _ _ k => lv_imul hx hb hd k) (fun e => k0 e 1 rfl)
  · exact ab_wi hs (fun _ _ _ k => lv_iand hx hb hd k) (fun e => k0 e 1 rfl)
  · exact ab_wi hs (fun _ _ _ k => lv_ior hx hb hd k) (fun e => k0 e 1 rfl)
  · exact ab_wi hs (fun _ _ _ k => lv_ishl hx hb hd k) (fun e => k0 e 1 rfl)
  · exact ab_wi hs (fun _ _ _ k => lv_ishr hx hb hd k) (fun e => k0 e 1 rfl)
  · exact ab_wz hs (fun _ _ _ h k => lv_idiv hx hb hd h k) (fun e => k0 e 1 rfl)
  · exact ab_wz hs (fun _ _ _ h k => lv_irem hx hb hd h k) (fun e => k0 e 1 rfl)
  · exact ab_wl hs (fun _ _ _ k => lv_ladd hx hb hd k) (fun e => k0 e 1 rfl)
  · exact ab_wl hs (fun _ _ _ k => lv_lsub hx hb hd k) (fun e => k0 e 1 rfl)
  · exact ab_wl hs (fun _ _ _ k => lv_lmul hx hb hd k) (fun e => k0 e 1 rfl)
  · exact ab_wl hs (fun _ _ _ k => lv_land hx hb hd k) (fun e => k0 e 1 rfl)
  · exact ab_wl hs (fun _ _ _ k => lv_lor hx hb hd k) (fun e => k0 e 1 rfl)
  · exact ab_wli hs (fun _ _ _ k => lv_lshl hx hb hd rfl k) (fun e => k0 e 1 rfl)
  · exact ab_wli hs (fun _ _ _ k => lv_lshr hx hb hd rfl k) (fun e => k0 e 1 rfl)
  · unfold ab_lc at hs; split at hs
    next => cases hs; exact W.lcmp hx hb hd (k0 rfl 1 rfl)
    next => cases hs
  · unfold ab_i2l at hs; split at hs
    next => cases hs; exact lv_i2l hx hb hd rfl (k0 rfl 1 rfl)
    next => cases hs
  · unfold ab_l2i at hs; split at hs
    next => cases hs; exact lv_l2i hx hb hd rfl (k0 rfl 1 rfl)
    next => cases hs
  · exact ab_w1 hs (fun _ _ k => lv_i2b hx hb hd rfl k) (fun e => k0 e 1 rfl)
  · exact ab_w1 hs (fun _ _ k => lv_i2c hx hb hd rfl k) (fun e => k0 e 1 rfl)
  · unfold ab_dup at hs; split at hs
    next => split at hs
            next h => cases hs; exact lv_dup hx hb hd ((ab_v_cat g _).trans h) (k0 rfl 1 rfl)
            next => cases hs
    next => cases hs
  · unfold ab_dup2 at hs; split at hs
    next => split at hs
            next h1 => split at hs
                       next h2 => cases hs; exact lv_dup2_11 hx hb hd ((ab_v_cat g _).trans h1) ((ab_v_cat g _).trans h2) (k0 rfl 1 rfl)
                       next => cases hs
            next => cases hs
    next => cases hs
  · unfold ab_pop at hs; split at hs
    next => split at hs
            next h => cases hs; exact lv_pop hx hb hd ((ab_v_cat g _).trans h) (k0 rfl 1 rfl)
            next => cases hs
    next => cases hs
  · cases hs
end AB1
