section AB7
variable {p : Program} {l : Launch} {e : Env} {R : Room} {s : State} {m : MethodId} {args : Array Value} {below : List Frame} {meth : Method} {c : Code} {H : Heap} {locs : List Loc} {cells slots : Nat} {Q : State → Prop}
variable {pc : Nat} {ls : Array Slot} {D : va_G} {aC : Nat → ClassId} {B : Nat} {g : Nat → Nat} {h h' : ab_H} {st st' : List Value} {ext : Nat → Option (Nat × (Nat → Int32))}
set_option maxHeartbeats 4000000 in
/-- THE MACHINE DOES WHAT ab_h SAYS -/
theorem ab_h_ok {M : ab_M} {i : Instr} {a b cn : Nat} (hx : p.tables.exec = Jvm.exec) (hb : c.code = M.2.1) (hml : c.maxLocals = M.2.2.1) (hls : ls.size = M.2.2.1) (hts : ∀ w ∈ gw, w.before args s = true) (hown : s.vm.findClass M.1.cls = some m.cls) (hin : M.1.name = "<init>" → meth.name = "<init>") (hE : ab_Env D aC B g ext s s.heap) (hg : ∀ q, q < 1000000 → g q = B + q) (hB : B ≤ s.heap.size) (hsz : s.heap.size + cells = B + h.length) (hw : ab_Wd D aC B g h H) (hS : va_S (fun q => B ≤ q) s.heap H locs)
    (hfr : M.2.2.2.2.1 ≤ R.frames) (hlo : M.2.2.2.2.2.1 ≤ R.locals) (hs : ab_h ext ab_sbt i a b cn st h = some (st', h')) (hsum : (st'.map fun v => v.category).sum ≤ 9) (hd : decode M.2.1 pc = .ok (i, ab_len i)) (hok : ab_hok M i a b cn) (hcells : cells + (h'.length - h.length) ≤ R.cells) (hslots : slots + (ab_sz h' - ab_sz h) ≤ R.slots)
    (kk : ∀ (H1 : Heap) (locs1 : List Loc), ab_Wd D aC B g h' H1 → va_S (fun q => B ≤ q) s.heap H1 locs1 → W p l e R s m args below meth c H1 locs1 (cells + (h'.length - h.length)) (slots + (ab_sz h' - ab_sz h)) Q (F0 m (pc + ab_len i) ls (st'.map (ab_v g)))) : W p l e R s m args below meth c H locs cells slots Q (F0 m pc ls (st.map (ab_v g))) := by
  have hE0 := hE
  obtain ⟨hK, hn, hAO, hT, -, -, hld, hst⟩ := hE
  have ksame : ∀ (n : Nat) (locs1 : List Loc), ab_len i = n → va_S (fun q => B ≤ q) s.heap H locs1 → h' = h → W p l e R s m args below meth c H locs1 cells slots Q (F0 m (pc + n) ls (st'.map (ab_v g))) := fun n locs1 hn hS1 he => by
    subst he; subst hn
    have k2 := kk H locs1 hw hS1
    rw [Nat.sub_self, Nat.add_zero, Nat.sub_self, Nat.add_zero] at k2
    exact k2
  have kset : ∀ (n : Nat) (H1 : Heap) (locs1 : List Loc), ab_len i = n → ab_Wd D aC B g h' H1 → va_S (fun q => B ≤ q) s.heap H1 locs1 → h'.length = h.length → ab_sz h' = ab_sz h → W p l e R s m args below meth c H1 locs1 cells slots Q (F0 m (pc + n) ls (st'.map (ab_v g))) := fun n H1 locs1 hn w1 s1 e1 e2 => by
    subst hn
    have k2 := kk H1 locs1 w1 s1
    rw [e1, e2, Nat.sub_self, Nat.add_zero, Nat.sub_self, Nat.add_zero] at k2
    exact k2
  have knew : ∀ (n : Nat) (H1 : Heap), ab_len i = n → ab_Wd D aC B g h' H1 → va_S (fun q => B ≤ q) s.heap H1 locs → h'.length = h.length + 1 → ab_sz h ≤ ab_sz h' → W p l e R s m args below meth c H1 locs (cells + 1) (slots + (ab_sz h' - ab_sz h)) Q (F0 m (pc + n) ls (st'.map (ab_v g))) := fun n H1 hn w1 s1 e1 _ => by
    subst hn
    have k2 := kk H1 locs w1 s1
    rw [e1, Nat.add_sub_cancel_left] at k2
    exact k2
  have hcl : cells ≤ R.cells := Nat.le_trans (Nat.le_add_right _ _) hcells
  have hsl : slots ≤ R.slots := Nat.le_trans (Nat.le_add_right _ _) hslots
  have c1 : h'.length = h.length + 1 → cells + 1 ≤ R.cells := fun e1 => by rw [e1, Nat.add_sub_cancel_left] at hcells; exact hcells
  unfold ab_h at hs
  split at hs
  · exact ab_hget_ok hx hb hts hown hK hn hg hw hs hd hok (ksame 3 locs rfl hS)
  · exact ab_hput_ok hx hb hts hown hK hn hg hw hS hs hd hok.1 (fun q hq => (hok.2 q hq).imp id (fun z => ⟨z.1, z.2.1, hin z.2.2.1, z.2.2.2⟩)) (fun H1 locs1 => kset 3 H1 locs1 rfl)
  · exact ab_hiald_ok hx hb hK hg hT hw hS hs hd (ksame 1 locs rfl hS)
  · exact ab_hbald_ok hx hb hK hg hw hs hd (ksame 1 locs rfl hS)
  · exact ab_hlald_ok hx hb hK hg hw hs hd (ksame 1 locs rfl hS)
  · exact ab_haald_ok hx hb hK hg hw hs hd (ksame 1 locs rfl hS)
  · exact ab_hlen_ok hx hb hK hg hT hw hS hs hd (ksame 1 locs rfl hS)
  · exact ab_hiast_ok hx hb hK hg hw hS hs hd (fun H1 locs1 => kset 1 H1 locs1 rfl)
  · exact ab_hbast_ok hx hb hK hg hw hS hs hd (fun H1 locs1 => kset 1 H1 locs1 rfl)
  · exact ab_hlast_ok hx hb hK hg hw hS hs hd (fun H1 locs1 => kset 1 H1 locs1 rfl)
  · exact ab_haast_ok hx hb hK hg hw hS hs hd (fun H1 locs1 => kset 1 H1 locs1 rfl)
  · next t =>
    have e1 : h'.length = h.length + 1 := by
      unfold ab_hnewa at hs
      repeat' split at hs
      all_goals first | (cases hs; simp; done) | cases hs
    exact ab_hnewa_ok hx hb hts hK hg hB hsz hw hS hok hs hd (c1 e1) hslots (fun H1 => knew 2 H1 rfl)
  · have e1 : h'.length = h.length + 1 := by
      unfold ab_hnewq at hs
      repeat' split at hs
      all_goals first | (cases hs; simp; done) | cases hs
    exact ab_hnewq_ok hx hb hts hown hK hAO hg hB hsz hw hS hok hs hd (c1 e1) hslots (fun H1 => knew 3 H1 rfl)
  · have e1 : h'.length = h.length + 1 := by
      unfold ab_hnew at hs
      repeat' split at hs
      all_goals first | (cases hs; simp; done) | cases hs
    exact ab_hnew_ok hx hb hts hown hK hg hB hsz hw hS hok hs hd (c1 e1) hslots (fun H1 => knew 3 H1 rfl)
  · cases hs
    obtain ⟨z, hz, rfl, hl⟩ := hok
    exact va_gets hx hb (hst z hz) hS hown (hts _ hl) (fun _ z => z) hd (ksame 3 locs rfl hS rfl)
  · split at hs
    next hc =>
      cases hs
      have hok : (if cn = 0 then Cond.constant M.1.cls _ (Int32.ofNat a) ∈ gw else _) := hok
      rw [if_pos hc] at hok
      exact lv_ldc hx hb hown (hts _ hok) hd (ksame 2 locs rfl hS rfl)
    next hc =>
      cases hs
      have hok : (if cn = 0 then _ else ∃ tx, (M.1.cls, _, tx, a) ∈ ab_ldcs) := hok
      rw [if_neg hc] at hok
      obtain ⟨tx, hok⟩ := hok
      exact va_ldcS hx hb hown (hld _ hok) hd (ksame 2 locs rfl hS rfl)
  · split at hs
    next hc =>
      cases hs
      have hok : (if cn = 0 then Cond.constant M.1.cls _ (Int32.ofNat a) ∈ gw else _) := hok
      rw [if_pos hc] at hok
      exact lv_ldcw hx hb hown (hts _ hok) hd (ksame 3 locs rfl hS rfl)
    next hc =>
      cases hs
      have hok : (if cn = 0 then _ else ∃ tx, (M.1.cls, _, tx, a) ∈ ab_ldcs) := hok
      rw [if_neg hc] at hok
      obtain ⟨tx, hok⟩ := hok
      exact ab_ldcWS hx hb hown (hld _ hok) hd (ksame 3 locs rfl hS rfl)
  · cases hs
    exact lv_ldc2 hx hb hown (hts _ hok) hd (ksame 3 locs rfl hS rfl)
  · next idx =>
    unfold ab_hok at hok
    dsimp only at hok
    split at hs
    next hc =>
      rw [if_pos hc] at hok
      exact ab_hmax_ok hx hb (hml.trans hls.symm) hts hown hok.1 (Nat.le_trans hok.2.1 hfr) (by omega) hcl hsl hs hd (ksame 3 locs rfl hS)
    next hc =>
      rw [if_neg hc] at hok
      split at hs
      next hc =>
        rw [if_pos hc] at hok
        exact ab_hmin_ok hx hb (hml.trans hls.symm) hts hown hok.1 (Nat.le_trans hok.2.1 hfr) (by omega) hcl hsl hs hd (ksame 3 locs rfl hS)
      next hc =>
        rw [if_neg hc] at hok
        split at hs
        next hc =>
          rw [if_pos hc] at hok
          exact ab_hcopy_ok hx hb (hml.trans hls.symm) hts hown hK hg hw hS hok.1 (Nat.le_trans hok.2.1 hfr) (by omega) hs hd (fun H1 locs1 => kset 3 H1 locs1 rfl)
        next => cases hs
  · next idx =>
    unfold ab_hok at hok
    dsimp only at hok
    split at hs
    next hc =>
      rw [if_pos hc] at hok
      exact ab_hslen_ok hx hb hml hls hts hown hE0 hS hok.1 (Nat.le_trans hok.2.1 hfr) (Nat.le_trans hok.2.2 hlo) hsum hcl hsl hs hd hw hsz (fun locs1 => ksame 3 locs1 rfl)
    next hc =>
      rw [if_neg hc] at hok
      split at hs
      next hc =>
        rw [if_pos hc] at hok
        exact ab_hsat_ok hx hb hml hls hts hown hE0 hS hok.1 (Nat.le_trans hok.2.1 hfr) (Nat.le_trans hok.2.2 hlo) hsum hcl hsl hs hd hw hsz (fun locs1 => ksame 3 locs1 rfl)
      next => cases hs
  · next idx =>
    unfold ab_hok at hok
    dsimp only at hok
    split at hs
    next hc =>
      rw [if_pos hc] at hok
      exact ab_hobj_ok hx hb (hml.trans hls.symm) hts hown hok.1 (Nat.le_trans hok.2.1 hfr) (by omega) hs hd (ksame 3 locs rfl hS)
    next => cases hs
  · cases hs
end AB7
