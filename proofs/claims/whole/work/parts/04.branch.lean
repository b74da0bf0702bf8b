/-- the target that stands beside a branch is its own -/
def ab_bok (i : Instr) (a pc : Nat) : Prop := match i with
  | .goto off => (pc : Int) + off = (a : Int)
  | .if_icmp _ off => (pc : Int) + off = (a : Int)
  | .ifCond _ off => (pc : Int) + off = (a : Int)
  | .ifnull off => (pc : Int) + off = (a : Int)
  | .ifnonnull off => (pc : Int) + off = (a : Int)
  | _ => True
def ab_isw (i : Instr) : Bool := match i with
  | .tableswitch _ _ _ _ => true
  | .lookupswitch _ _ => true
  | _ => false
/-- what stands at pc: the instruction; its length, but of a switch -/
def ab_dec (cc : ByteArray) (pc : Nat) (i : Instr) : Prop := ∃ len, decode cc pc = .ok (i, len) ∧ (ab_isw i = false → len = ab_len i)
theorem ab_dec.at {cc : ByteArray} {pc : Nat} {i : Instr} (h : ab_dec cc pc i) (hi : ab_isw i = false) : decode cc pc = .ok (i, ab_len i) := by
  obtain ⟨len, h1, h2⟩ := h
  rw [h1, h2 hi]
theorem ab_tgt_ok {pc : Nat} {off : Int} {r : List Value} {q : Nat × List Value} (h : ab_tgt pc off r = some q) : (pc : Int) + off = (q.1 : Int) ∧ q.2 = r := by
  unfold ab_tgt at h
  split at h
  next h0 => cases h; exact ⟨(Int.toNat_of_nonneg h0).symm, rfl⟩
  next => cases h
section AB2
variable {p : Program} {l : Launch} {e : Env} {R : Room} {s : State} {m : MethodId} {args : Array Value} {below : List Frame} {meth : Method} {c : Code} {H : Heap} {locs : List Loc} {cells slots : Nat} {Q : State → Prop}
variable {cc : ByteArray} {pc pc' : Nat} {ls : Array Slot} {g : Nat → Nat} {st st' : List Value}
set_option maxHeartbeats 4000000 in
theorem ab_b_ok (hx : p.tables.exec = Jvm.exec) (hb : c.code = cc) {i : Instr} {a : Nat} (hs : ab_b i a pc st = some (pc', st')) (hd : ab_dec cc pc i) (ho : ab_bok i a pc)
    (kk : W p l e R s m args below meth c H locs cells slots Q (F0 m pc' ls (st'.map (ab_v g)))) : W p l e R s m args below meth c H locs cells slots Q (F0 m pc ls (st.map (ab_v g))) := by
  unfold ab_b at hs
  split at hs
  · cases hs; exact lv_goto hx hb (hd.at rfl) ho kk
  · next cd off =>
    split at hs
    next y x r =>
      cases hs
      have hd := hd.at rfl
      have kt : ab_icmp cd x y = true → W p l e R s m args below meth c H locs cells slots Q (F0 m a ls (st'.map (ab_v g))) := fun h => by rw [h] at kk; exact kk
      have kf : ab_icmp cd x y = false → W p l e R s m args below meth c H locs cells slots Q (F0 m (pc + 3) ls (st'.map (ab_v g))) := fun h => by rw [h] at kk; exact kk
      cases cd
      · exact lv_icmp_eq hx hb hd ho (fun h => kt (decide_eq_true h)) (fun h => kf (decide_eq_false h))
      · exact lv_icmp_ne hx hb hd ho (fun h => kt (decide_eq_true h)) (fun h => kf (decide_eq_false (not_not_intro h)))
      · exact lv_icmp_lt hx hb hd ho (fun h => kt (decide_eq_true h)) (fun h => kf (decide_eq_false h))
      · exact lv_icmp_ge hx hb hd ho (fun h => kt (decide_eq_true h)) (fun h => kf (decide_eq_false h))
      · exact lv_icmp_gt hx hb hd ho (fun h => kt (decide_eq_true h)) (fun h => kf (decide_eq_false h))
      · exact lv_icmp_le hx hb hd ho (fun h => kt (decide_eq_true h)) (fun h => kf (decide_eq_false h))
    next => cases hs
  · next cd off =>
    split at hs
    next x r =>
      cases hs
      have hd := hd.at rfl
      have kt : ab_icmp cd x 0 = true → W p l e R s m args below meth c H locs cells slots Q (F0 m a ls (st'.map (ab_v g))) := fun h => by rw [h] at kk; exact kk
      have kf : ab_icmp cd x 0 = false → W p l e R s m args below meth c H locs cells slots Q (F0 m (pc + 3) ls (st'.map (ab_v g))) := fun h => by rw [h] at kk; exact kk
      cases cd
      · exact lv_if_eq hx hb hd ho (fun h => kt (decide_eq_true h)) (fun h => kf (decide_eq_false h))
      · exact lv_if_ne hx hb hd ho (fun h => kt (decide_eq_true h)) (fun h => kf (decide_eq_false (not_not_intro h)))
      · exact lv_if_lt hx hb hd ho (fun h => kt (decide_eq_true h)) (fun h => kf (decide_eq_false h))
      · exact lv_if_ge hx hb hd ho (fun h => kt (decide_eq_true h)) (fun h => kf (decide_eq_false h))
      · exact lv_if_gt hx hb hd ho (fun h => kt (decide_eq_true h)) (fun h => kf (decide_eq_false h))
      · exact lv_if_le hx hb hd ho (fun h => kt (decide_eq_true h)) (fun h => kf (decide_eq_false h))
    next => cases hs
  · split at hs
    next => cases hs; exact lv_ifnullN hx hb (hd.at rfl) ho kk
    next => cases hs; exact lv_ifnull hx hb (hd.at rfl) kk
    next => cases hs
  · split at hs
    next => cases hs; exact lv_ifnonnullN hx hb (hd.at rfl) kk
    next => cases hs; exact lv_ifnonnull hx hb (hd.at rfl) ho kk
    next => cases hs
  · obtain ⟨len, hd, -⟩ := hd
    split at hs
    next x r =>
      split at hs
      next h =>
        obtain ⟨h1, h2⟩ := ab_tgt_ok hs
        dsimp only at h1 h2
        subst h2
        exact lv_tableOut hx hb hd h h1 kk
      next h =>
        split at hs
        next off ho2 =>
          obtain ⟨h1, h2⟩ := ab_tgt_ok hs
          dsimp only at h1 h2
          subst h2
          exact lv_tableIn hx hb hd (fun z => h (Or.inl z)) (fun z => h (Or.inr z)) ho2 h1 kk
        next => cases hs
    next => cases hs
  · obtain ⟨len, hd, -⟩ := hd
    split at hs
    next x r =>
      split at hs
      next h =>
        obtain ⟨h1, h2⟩ := ab_tgt_ok hs
        dsimp only at h1 h2
        subst h2
        exact lv_lookup hx hb hd h rfl h1 kk
      next => cases hs
    next => cases hs
  · cases hs
end AB2
