/-! DECODING in one pass over the bytes -/
def ab_fd (b0 b1 b2 : Nat) : Option (Instr × Nat) := match b0 with
  | 1 => some (.aconst_null, 1)
  | 2 => some (.iconst (-1), 1)
  | 3 => some (.iconst (0), 1)
  | 4 => some (.iconst (1), 1)
  | 5 => some (.iconst (2), 1)
  | 6 => some (.iconst (3), 1)
  | 7 => some (.iconst (4), 1)
  | 8 => some (.iconst (5), 1)
  | 9 => some (.lconst 0, 1)
  | 10 => some (.lconst 1, 1)
  | 16 => some (.bipush (Reader.signed 8 b1), 2)
  | 17 => some (.sipush (Reader.signed 16 (b1 * 256 + b2)), 3)
  | 18 => some (.ldc b1, 2)
  | 19 => some (.ldc_w (b1 * 256 + b2), 3)
  | 20 => some (.ldc2_w (b1 * 256 + b2), 3)
  | 21 => some (.iload b1, 2)
  | 22 => some (.lload b1, 2)
  | 25 => some (.aload b1, 2)
  | 26 => some (.iload_n 0, 1)
  | 27 => some (.iload_n 1, 1)
  | 28 => some (.iload_n 2, 1)
  | 29 => some (.iload_n 3, 1)
  | 30 => some (.lload_n 0, 1)
  | 31 => some (.lload_n 1, 1)
  | 32 => some (.lload_n 2, 1)
  | 33 => some (.lload_n 3, 1)
  | 42 => some (.aload_n 0, 1)
  | 43 => some (.aload_n 1, 1)
  | 44 => some (.aload_n 2, 1)
  | 45 => some (.aload_n 3, 1)
  | 46 => some (.iaload, 1)
  | 47 => some (.laload, 1)
  | 50 => some (.aaload, 1)
  | 51 => some (.baload, 1)
  | 54 => some (.istore b1, 2)
  | 55 => some (.lstore b1, 2)
  | 58 => some (.astore b1, 2)
  | 59 => some (.istore_n 0, 1)
  | 60 => some (.istore_n 1, 1)
  | 61 => some (.istore_n 2, 1)
  | 62 => some (.istore_n 3, 1)
  | 63 => some (.lstore_n 0, 1)
  | 64 => some (.lstore_n 1, 1)
  | 65 => some (.lstore_n 2, 1)
  | 66 => some (.lstore_n 3, 1)
  | 75 => some (.astore_n 0, 1)
  | 76 => some (.astore_n 1, 1)
  | 77 => some (.astore_n 2, 1)
  | 78 => some (.astore_n 3, 1)
  | 79 => some (.iastore, 1)
  | 80 => some (.lastore, 1)
  | 83 => some (.aastore, 1)
  | 84 => some (.bastore, 1)
  | 87 => some (.pop, 1)
  | 89 => some (.dup, 1)
  | 92 => some (.dup2, 1)
  | 96 => some (.iadd, 1)
  | 97 => some (.ladd, 1)
  | 100 => some (.isub, 1)
  | 101 => some (.lsub, 1)
  | 104 => some (.imul, 1)
  | 105 => some (.lmul, 1)
  | 108 => some (.idiv, 1)
  | 112 => some (.irem, 1)
  | 120 => some (.ishl, 1)
  | 121 => some (.lshl, 1)
  | 122 => some (.ishr, 1)
  | 123 => some (.lshr, 1)
  | 126 => some (.iand, 1)
  | 127 => some (.land, 1)
  | 128 => some (.ior, 1)
  | 129 => some (.lor, 1)
  | 132 => some (.iinc b1 (Reader.signed 8 b2), 3)
  | 133 => some (.i2l, 1)
  | 136 => some (.l2i, 1)
  | 145 => some (.i2b, 1)
  | 146 => some (.i2c, 1)
  | 148 => some (.lcmp, 1)
  | 153 => some (.ifCond .eq (Reader.signed 16 (b1 * 256 + b2)), 3)
  | 154 => some (.ifCond .ne (Reader.signed 16 (b1 * 256 + b2)), 3)
  | 155 => some (.ifCond .lt (Reader.signed 16 (b1 * 256 + b2)), 3)
  | 156 => some (.ifCond .ge (Reader.signed 16 (b1 * 256 + b2)), 3)
  | 157 => some (.ifCond .gt (Reader.signed 16 (b1 * 256 + b2)), 3)
  | 158 => some (.ifCond .le (Reader.signed 16 (b1 * 256 + b2)), 3)
  | 159 => some (.if_icmp .eq (Reader.signed 16 (b1 * 256 + b2)), 3)
  | 160 => some (.if_icmp .ne (Reader.signed 16 (b1 * 256 + b2)), 3)
  | 161 => some (.if_icmp .lt (Reader.signed 16 (b1 * 256 + b2)), 3)
  | 162 => some (.if_icmp .ge (Reader.signed 16 (b1 * 256 + b2)), 3)
  | 163 => some (.if_icmp .gt (Reader.signed 16 (b1 * 256 + b2)), 3)
  | 164 => some (.if_icmp .le (Reader.signed 16 (b1 * 256 + b2)), 3)
  | 167 => some (.goto (Reader.signed 16 (b1 * 256 + b2)), 3)
  | 172 => some (.ireturn, 1)
  | 173 => some (.lreturn, 1)
  | 176 => some (.areturn, 1)
  | 177 => some (.return_, 1)
  | 178 => some (.getstatic (b1 * 256 + b2), 3)
  | 180 => some (.getfield (b1 * 256 + b2), 3)
  | 181 => some (.putfield (b1 * 256 + b2), 3)
  | 182 => some (.invokevirtual (b1 * 256 + b2), 3)
  | 183 => some (.invokespecial (b1 * 256 + b2), 3)
  | 184 => some (.invokestatic (b1 * 256 + b2), 3)
  | 187 => some (.new (b1 * 256 + b2), 3)
  | 189 => some (.anewarray (b1 * 256 + b2), 3)
  | 190 => some (.arraylength, 1)
  | 198 => some (.ifnull (Reader.signed 16 (b1 * 256 + b2)), 3)
  | 199 => some (.ifnonnull (Reader.signed 16 (b1 * 256 + b2)), 3)
  | 188 => (match b1 with
    | 4 => some (.newarray .boolean, 2)
    | 8 => some (.newarray .byte, 2)
    | 10 => some (.newarray .int, 2)
    | 11 => some (.newarray .long, 2)
    | _ => none)
  | _ => none
def ab_by (cc : ByteArray) (p b : Nat) : Prop := ∃ h : p < cc.size, (cc[p]'h).toNat = b
theorem ab_u1 {cc : ByteArray} {p b : Nat} (h : ab_by cc p b) : (Reader.u1 (ε := DecodeError)) cc p = .ok (b, p + 1) := by
  obtain ⟨h1, h2⟩ := h
  show (if h : p < cc.size then (do set (p + 1); Pure.pure (cc[p]'h).toNat : Reader DecodeError Nat) else throw (HasTruncated.truncated p)) cc p = _
  rw [dif_pos h1]
  show Except.ok ((cc[p]'h1).toNat, p + 1) = _
  rw [h2]
theorem ab_u2 {cc : ByteArray} {p b c : Nat} (h : ab_by cc p b) (h' : ab_by cc (p + 1) c) : (Reader.u2 (ε := DecodeError)) cc p = .ok (b * 256 + c, p + 1 + 1) := by
  show Except.bind ((Reader.u1 (ε := DecodeError)) cc p) (fun z => Except.bind ((Reader.u1 (ε := DecodeError)) cc z.2) (fun y => Except.ok (z.1 * 256 + y.1, y.2))) = _
  rw [ab_u1 h]
  show Except.bind ((Reader.u1 (ε := DecodeError)) cc (p + 1)) (fun y => Except.ok (b * 256 + y.1, y.2)) = _
  rw [ab_u1 h']
  rfl
theorem ab_s1 {cc : ByteArray} {p b : Nat} (h : ab_by cc p b) : (Reader.s1 (ε := DecodeError)) cc p = .ok (Reader.signed 8 b, p + 1) := by
  show Except.bind ((Reader.u1 (ε := DecodeError)) cc p) (fun z => Except.ok (Reader.signed 8 z.1, z.2)) = _
  rw [ab_u1 h]
  rfl
theorem ab_s2 {cc : ByteArray} {p b c : Nat} (h : ab_by cc p b) (h' : ab_by cc (p + 1) c) : (Reader.s2 (ε := DecodeError)) cc p = .ok (Reader.signed 16 (b * 256 + c), p + 1 + 1) := by
  show Except.bind ((Reader.u2 (ε := DecodeError)) cc p) (fun z => Except.ok (Reader.signed 16 z.1, z.2)) = _
  rw [ab_u2 h h']
  rfl
theorem ab_bindR {α β : Type} (x : Reader DecodeError α) (f : α → Reader DecodeError β) (cc : ByteArray) (p : Nat) : (x >>= f) cc p = Except.bind (x cc p) (fun z => f z.1 cc z.2) := rfl
theorem ab_pureR {α : Type} (x : α) (cc : ByteArray) (p : Nat) : (Pure.pure x : Reader DecodeError α) cc p = .ok (x, p) := rfl
theorem ab_bindO {α β : Type} (x : α) (f : α → Except DecodeError β) : Except.bind (.ok x) f = f x := rfl
theorem ab_decR (cc : ByteArray) (pc : Nat) : decode cc pc = Except.bind ((Decoder.instr pc) cc pc) (fun z => Except.ok (z.1, z.2 - pc)) := rfl

theorem ab_d_1 {cc : ByteArray} {pc b1 b2 : Nat} (h0 : ab_by cc pc 1) : decode cc pc = .ok (.aconst_null, 1) := by
  rw [ab_decR]
  unfold Decoder.instr
  rw [ab_bindR, ab_u1 h0, ab_bindO]
  show Except.bind (Except.ok ((.aconst_null : Instr), pc + 1)) (fun z => Except.ok (z.1, z.2 - pc)) = _
  rw [ab_bindO, Nat.add_sub_cancel_left]
theorem ab_d_2 {cc : ByteArray} {pc b1 b2 : Nat} (h0 : ab_by cc pc 2) : decode cc pc = .ok (.iconst (-1), 1) := by
  rw [ab_decR]
  unfold Decoder.instr
  rw [ab_bindR, ab_u1 h0, ab_bindO]
  show Except.bind (Except.ok ((.iconst (-1) : Instr), pc + 1)) (fun z => Except.ok (z.1, z.2 - pc)) = _
  rw [ab_bindO, Nat.add_sub_cancel_left]
theorem ab_d_3 {cc : ByteArray} {pc b1 b2 : Nat} (h0 : ab_by cc pc 3) : decode cc pc = .ok (.iconst (0), 1) := by
  rw [ab_decR]
  unfold Decoder.instr
  rw [ab_bindR, ab_u1 h0, ab_bindO]
  show Except.bind (Except.ok ((.iconst (0) : Instr), pc + 1)) (fun z => Except.ok (z.1, z.2 - pc)) = _
  rw [ab_bindO, Nat.add_sub_cancel_left]
theorem ab_d_4 {cc : ByteArray} {pc b1 b2 : Nat} (h0 : ab_by cc pc 4) : decode cc pc = .ok (.iconst (1), 1) := by
  rw [ab_decR]
  unfold Decoder.instr
  rw [ab_bindR, ab_u1 h0, ab_bindO]
  show Except.bind (Except.ok ((.iconst (1) : Instr), pc + 1)) (fun z => Except.ok (z.1, z.2 - pc)) = _
  rw [ab_bindO, Nat.add_sub_cancel_left]
theorem ab_d_5 {cc : ByteArray} {pc b1 b2 : Nat} (h0 : ab_by cc pc 5) : decode cc pc = .ok (.iconst (2), 1) := by
  rw [ab_decR]
  unfold Decoder.instr
  rw [ab_bindR, ab_u1 h0, ab_bindO]
  show Except.bind (Except.ok ((.iconst (2) : Instr), pc + 1)) (fun z => Except.ok (z.1, z.2 - pc)) = _
  rw [ab_bindO, Nat.add_sub_cancel_left]
theorem ab_d_6 {cc : ByteArray} {pc b1 b2 : Nat} (h0 : ab_by cc pc 6) : decode cc pc = .ok (.iconst (3), 1) := by
  rw [ab_decR]
  unfold Decoder.instr
  rw [ab_bindR, ab_u1 h0, ab_bindO]
  show Except.bind (Except.ok ((.iconst (3) : Instr), pc + 1)) (fun z => Except.ok (z.1, z.2 - pc)) = _
  rw [ab_bindO, Nat.add_sub_cancel_left]
theorem ab_d_7 {cc : ByteArray} {pc b1 b2 : Nat} (h0 : ab_by cc pc 7) : decode cc pc = .ok (.iconst (4), 1) := by
  rw [ab_decR]
  unfold Decoder.instr
  rw [ab_bindR, ab_u1 h0, ab_bindO]
  show Except.bind (Except.ok ((.iconst (4) : Instr), pc + 1)) (fun z => Except.ok (z.1, z.2 - pc)) = _
  rw [ab_bindO, Nat.add_sub_cancel_left]
theorem ab_d_8 {cc : ByteArray} {pc b1 b2 : Nat} (h0 : ab_by cc pc 8) : decode cc pc = .ok (.iconst (5), 1) := by
  rw [ab_decR]
  unfold Decoder.instr
  rw [ab_bindR, ab_u1 h0, ab_bindO]
  show Except.bind (Except.ok ((.iconst (5) : Instr), pc + 1)) (fun z => Except.ok (z.1, z.2 - pc)) = _
  rw [ab_bindO, Nat.add_sub_cancel_left]
theorem ab_d_9 {cc : ByteArray} {pc b1 b2 : Nat} (h0 : ab_by cc pc 9) : decode cc pc = .ok (.lconst 0, 1) := by
  rw [ab_decR]
  unfold Decoder.instr
  rw [ab_bindR, ab_u1 h0, ab_bindO]
  show Except.bind (Except.ok ((.lconst 0 : Instr), pc + 1)) (fun z => Except.ok (z.1, z.2 - pc)) = _
  rw [ab_bindO, Nat.add_sub_cancel_left]
theorem ab_d_10 {cc : ByteArray} {pc b1 b2 : Nat} (h0 : ab_by cc pc 10) : decode cc pc = .ok (.lconst 1, 1) := by
  rw [ab_decR]
  unfold Decoder.instr
  rw [ab_bindR, ab_u1 h0, ab_bindO]
  show Except.bind (Except.ok ((.lconst 1 : Instr), pc + 1)) (fun z => Except.ok (z.1, z.2 - pc)) = _
  rw [ab_bindO, Nat.add_sub_cancel_left]
theorem ab_d_16 {cc : ByteArray} {pc b1 b2 : Nat} (h0 : ab_by cc pc 16) (h1 : ab_by cc (pc + 1) b1) : decode cc pc = .ok (.bipush (Reader.signed 8 b1), 2) := by
  rw [ab_decR]
  unfold Decoder.instr
  rw [ab_bindR, ab_u1 h0, ab_bindO]
  show Except.bind (Except.bind ((Reader.s1 (ε := DecodeError)) cc (pc + 1)) (fun z => Except.ok ((.bipush z.1 : Instr), z.2))) (fun z => Except.ok (z.1, z.2 - pc)) = _
  rw [ab_s1 h1, ab_bindO, ab_bindO]
  show Except.ok ((.bipush (Reader.signed 8 b1) : Instr), pc + 2 - pc) = _
  rw [Nat.add_sub_cancel_left]
theorem ab_d_17 {cc : ByteArray} {pc b1 b2 : Nat} (h0 : ab_by cc pc 17) (h1 : ab_by cc (pc + 1) b1) (h2 : ab_by cc (pc + 1 + 1) b2) : decode cc pc = .ok (.sipush (Reader.signed 16 (b1 * 256 + b2)), 3) := by
  rw [ab_decR]
  unfold Decoder.instr
  rw [ab_bindR, ab_u1 h0, ab_bindO]
  show Except.bind (Except.bind ((Reader.s2 (ε := DecodeError)) cc (pc + 1)) (fun z => Except.ok ((.sipush z.1 : Instr), z.2))) (fun z => Except.ok (z.1, z.2 - pc)) = _
  rw [ab_s2 h1 h2, ab_bindO, ab_bindO]
  show Except.ok ((.sipush (Reader.signed 16 (b1 * 256 + b2)) : Instr), pc + 3 - pc) = _
  rw [Nat.add_sub_cancel_left]
theorem ab_d_18 {cc : ByteArray} {pc b1 b2 : Nat} (h0 : ab_by cc pc 18) (h1 : ab_by cc (pc + 1) b1) : decode cc pc = .ok (.ldc b1, 2) := by
  rw [ab_decR]
  unfold Decoder.instr
  rw [ab_bindR, ab_u1 h0, ab_bindO]
  show Except.bind (Except.bind ((Reader.u1 (ε := DecodeError)) cc (pc + 1)) (fun z => Except.ok ((.ldc z.1 : Instr), z.2))) (fun z => Except.ok (z.1, z.2 - pc)) = _
  rw [ab_u1 h1, ab_bindO, ab_bindO]
  show Except.ok ((.ldc b1 : Instr), pc + 2 - pc) = _
  rw [Nat.add_sub_cancel_left]
theorem ab_d_19 {cc : ByteArray} {pc b1 b2 : Nat} (h0 : ab_by cc pc 19) (h1 : ab_by cc (pc + 1) b1) (h2 : ab_by cc (pc + 1 + 1) b2) : decode cc pc = .ok (.ldc_w (b1 * 256 + b2), 3) := by
  rw [ab_decR]
  unfold Decoder.instr
  rw [ab_bindR, ab_u1 h0, ab_bindO]
  show Except.bind (Except.bind ((Reader.u2 (ε := DecodeError)) cc (pc + 1)) (fun z => Except.ok ((.ldc_w z.1 : Instr), z.2))) (fun z => Except.ok (z.1, z.2 - pc)) = _
  rw [ab_u2 h1 h2, ab_bindO, ab_bindO]
  show Except.ok ((.ldc_w (b1 * 256 + b2) : Instr), pc + 3 - pc) = _
  rw [Nat.add_sub_cancel_left]
theorem ab_d_20 {cc : ByteArray} {pc b1 b2 : Nat} (h0 : ab_by cc pc 20) (h1 : ab_by cc (pc + 1) b1) (h2 : ab_by cc (pc + 1 + 1) b2) : decode cc pc = .ok (.ldc2_w (b1 * 256 + b2), 3) := by
  rw [ab_decR]
  unfold Decoder.instr
  rw [ab_bindR, ab_u1 h0, ab_bindO]
  show Except.bind (Except.bind ((Reader.u2 (ε := DecodeError)) cc (pc + 1)) (fun z => Except.ok ((.ldc2_w z.1 : Instr), z.2))) (fun z => Except.ok (z.1, z.2 - pc)) = _
  rw [ab_u2 h1 h2, ab_bindO, ab_bindO]
  show Except.ok ((.ldc2_w (b1 * 256 + b2) : Instr), pc + 3 - pc) = _
  rw [Nat.add_sub_cancel_left]
theorem ab_d_21 {cc : ByteArray} {pc b1 b2 : Nat} (h0 : ab_by cc pc 21) (h1 : ab_by cc (pc + 1) b1) : decode cc pc = .ok (.iload b1, 2) := by
  rw [ab_decR]
  unfold Decoder.instr
  rw [ab_bindR, ab_u1 h0, ab_bindO]
  show Except.bind (Except.bind ((Reader.u1 (ε := DecodeError)) cc (pc + 1)) (fun z => Except.ok ((.iload z.1 : Instr), z.2))) (fun z => Except.ok (z.1, z.2 - pc)) = _
  rw [ab_u1 h1, ab_bindO, ab_bindO]
  show Except.ok ((.iload b1 : Instr), pc + 2 - pc) = _
  rw [Nat.add_sub_cancel_left]
theorem ab_d_22 {cc : ByteArray} {pc b1 b2 : Nat} (h0 : ab_by cc pc 22) (h1 : ab_by cc (pc + 1) b1) : decode cc pc = .ok (.lload b1, 2) := by
  rw [ab_decR]
  unfold Decoder.instr
  rw [ab_bindR, ab_u1 h0, ab_bindO]
  show Except.bind (Except.bind ((Reader.u1 (ε := DecodeError)) cc (pc + 1)) (fun z => Except.ok ((.lload z.1 : Instr), z.2))) (fun z => Except.ok (z.1, z.2 - pc)) = _
  rw [ab_u1 h1, ab_bindO, ab_bindO]
  show Except.ok ((.lload b1 : Instr), pc + 2 - pc) = _
  rw [Nat.add_sub_cancel_left]
theorem ab_d_25 {cc : ByteArray} {pc b1 b2 : Nat} (h0 : ab_by cc pc 25) (h1 : ab_by cc (pc + 1) b1) : decode cc pc = .ok (.aload b1, 2) := by
  rw [ab_decR]
  unfold Decoder.instr
  rw [ab_bindR, ab_u1 h0, ab_bindO]
  show Except.bind (Except.bind ((Reader.u1 (ε := DecodeError)) cc (pc + 1)) (fun z => Except.ok ((.aload z.1 : Instr), z.2))) (fun z => Except.ok (z.1, z.2 - pc)) = _
  rw [ab_u1 h1, ab_bindO, ab_bindO]
  show Except.ok ((.aload b1 : Instr), pc + 2 - pc) = _
  rw [Nat.add_sub_cancel_left]
theorem ab_d_26 {cc : ByteArray} {pc b1 b2 : Nat} (h0 : ab_by cc pc 26) : decode cc pc = .ok (.iload_n 0, 1) := by
  rw [ab_decR]
  unfold Decoder.instr
  rw [ab_bindR, ab_u1 h0, ab_bindO]
  show Except.bind (Except.ok ((.iload_n 0 : Instr), pc + 1)) (fun z => Except.ok (z.1, z.2 - pc)) = _
  rw [ab_bindO, Nat.add_sub_cancel_left]
theorem ab_d_27 {cc : ByteArray} {pc b1 b2 : Nat} (h0 : ab_by cc pc 27) : decode cc pc = .ok (.iload_n 1, 1) := by
  rw [ab_decR]
  unfold Decoder.instr
  rw [ab_bindR, ab_u1 h0, ab_bindO]
  show Except.bind (Except.ok ((.iload_n 1 : Instr), pc + 1)) (fun z => Except.ok (z.1, z.2 - pc)) = _
  rw [ab_bindO, Nat.add_sub_cancel_left]
theorem ab_d_28 {cc : ByteArray} {pc b1 b2 : Nat} (h0 : ab_by cc pc 28) : decode cc pc = .ok (.iload_n 2, 1) := by
  rw [ab_decR]
  unfold Decoder.instr
  rw [ab_bindR, ab_u1 h0, ab_bindO]
  show Except.bind (Except.ok ((.iload_n 2 : Instr), pc + 1)) (fun z => Except.ok (z.1, z.2 - pc)) = _
  rw [ab_bindO, Nat.add_sub_cancel_left]
theorem ab_d_29 {cc : ByteArray} {pc b1 b2 : Nat} (h0 : ab_by cc pc 29) : decode cc pc = .ok (.iload_n 3, 1) := by
  rw [ab_decR]
  unfold Decoder.instr
  rw [ab_bindR, ab_u1 h0, ab_bindO]
  show Except.bind (Except.ok ((.iload_n 3 : Instr), pc + 1)) (fun z => Except.ok (z.1, z.2 - pc)) = _
  rw [ab_bindO, Nat.add_sub_cancel_left]
theorem ab_d_30 {cc : ByteArray} {pc b1 b2 : Nat} (h0 : ab_by cc pc 30) : decode cc pc = .ok (.lload_n 0, 1) := by
  rw [ab_decR]
  unfold Decoder.instr
  rw [ab_bindR, ab_u1 h0, ab_bindO]
  show Except.bind (Except.ok ((.lload_n 0 : Instr), pc + 1)) (fun z => Except.ok (z.1, z.2 - pc)) = _
  rw [ab_bindO, Nat.add_sub_cancel_left]
theorem ab_d_31 {cc : ByteArray} {pc b1 b2 : Nat} (h0 : ab_by cc pc 31) : decode cc pc = .ok (.lload_n 1, 1) := by
  rw [ab_decR]
  unfold Decoder.instr
  rw [ab_bindR, ab_u1 h0, ab_bindO]
  show Except.bind (Except.ok ((.lload_n 1 : Instr), pc + 1)) (fun z => Except.ok (z.1, z.2 - pc)) = _
  rw [ab_bindO, Nat.add_sub_cancel_left]
theorem ab_d_32 {cc : ByteArray} {pc b1 b2 : Nat} (h0 : ab_by cc pc 32) : decode cc pc = .ok (.lload_n 2, 1) := by
  rw [ab_decR]
  unfold Decoder.instr
  rw [ab_bindR, ab_u1 h0, ab_bindO]
  show Except.bind (Except.ok ((.lload_n 2 : Instr), pc + 1)) (fun z => Except.ok (z.1, z.2 - pc)) = _
  rw [ab_bindO, Nat.add_sub_cancel_left]
theorem ab_d_33 {cc : ByteArray} {pc b1 b2 : Nat} (h0 : ab_by cc pc 33) : decode cc pc = .ok (.lload_n 3, 1) := by
  rw [ab_decR]
  unfold Decoder.instr
  rw [ab_bindR, ab_u1 h0, ab_bindO]
  show Except.bind (Except.ok ((.lload_n 3 : Instr), pc + 1)) (fun z => Except.ok (z.1, z.2 - pc)) = _
  rw [ab_bindO, Nat.add_sub_cancel_left]
theorem ab_d_42 {cc : ByteArray} {pc b1 b2 : Nat} (h0 : ab_by cc pc 42) : decode cc pc = .ok (.aload_n 0, 1) := by
  rw [ab_decR]
  unfold Decoder.instr
  rw [ab_bindR, ab_u1 h0, ab_bindO]
  show Except.bind (Except.ok ((.aload_n 0 : Instr), pc + 1)) (fun z => Except.ok (z.1, z.2 - pc)) = _
  rw [ab_bindO, Nat.add_sub_cancel_left]
theorem ab_d_43 {cc : ByteArray} {pc b1 b2 : Nat} (h0 : ab_by cc pc 43) : decode cc pc = .ok (.aload_n 1, 1) := by
  rw [ab_decR]
  unfold Decoder.instr
  rw [ab_bindR, ab_u1 h0, ab_bindO]
  show Except.bind (Except.ok ((.aload_n 1 : Instr), pc + 1)) (fun z => Except.ok (z.1, z.2 - pc)) = _
  rw [ab_bindO, Nat.add_sub_cancel_left]
theorem ab_d_44 {cc : ByteArray} {pc b1 b2 : Nat} (h0 : ab_by cc pc 44) : decode cc pc = .ok (.aload_n 2, 1) := by
  rw [ab_decR]
  unfold Decoder.instr
  rw [ab_bindR, ab_u1 h0, ab_bindO]
  show Except.bind (Except.ok ((.aload_n 2 : Instr), pc + 1)) (fun z => Except.ok (z.1, z.2 - pc)) = _
  rw [ab_bindO, Nat.add_sub_cancel_left]
theorem ab_d_45 {cc : ByteArray} {pc b1 b2 : Nat} (h0 : ab_by cc pc 45) : decode cc pc = .ok (.aload_n 3, 1) := by
  rw [ab_decR]
  unfold Decoder.instr
  rw [ab_bindR, ab_u1 h0, ab_bindO]
  show Except.bind (Except.ok ((.aload_n 3 : Instr), pc + 1)) (fun z => Except.ok (z.1, z.2 - pc)) = _
  rw [ab_bindO, Nat.add_sub_cancel_left]
theorem ab_d_46 {cc : ByteArray} {pc b1 b2 : Nat} (h0 : ab_by cc pc 46) : decode cc pc = .ok (.iaload, 1) := by
  rw [ab_decR]
  unfold Decoder.instr
  rw [ab_bindR, ab_u1 h0, ab_bindO]
  show Except.bind (Except.ok ((.iaload : Instr), pc + 1)) (fun z => Except.ok (z.1, z.2 - pc)) = _
  rw [ab_bindO, Nat.add_sub_cancel_left]
theorem ab_d_47 {cc : ByteArray} {pc b1 b2 : Nat} (h0 : ab_by cc pc 47) : decode cc pc = .ok (.laload, 1) := by
  rw [ab_decR]
  unfold Decoder.instr
  rw [ab_bindR, ab_u1 h0, ab_bindO]
  show Except.bind (Except.ok ((.laload : Instr), pc + 1)) (fun z => Except.ok (z.1, z.2 - pc)) = _
  rw [ab_bindO, Nat.add_sub_cancel_left]
theorem ab_d_50 {cc : ByteArray} {pc b1 b2 : Nat} (h0 : ab_by cc pc 50) : decode cc pc = .ok (.aaload, 1) := by
  rw [ab_decR]
  unfold Decoder.instr
  rw [ab_bindR, ab_u1 h0, ab_bindO]
  show Except.bind (Except.ok ((.aaload : Instr), pc + 1)) (fun z => Except.ok (z.1, z.2 - pc)) = _
  rw [ab_bindO, Nat.add_sub_cancel_left]
theorem ab_d_51 {cc : ByteArray} {pc b1 b2 : Nat} (h0 : ab_by cc pc 51) : decode cc pc = .ok (.baload, 1) := by
  rw [ab_decR]
  unfold Decoder.instr
  rw [ab_bindR, ab_u1 h0, ab_bindO]
  show Except.bind (Except.ok ((.baload : Instr), pc + 1)) (fun z => Except.ok (z.1, z.2 - pc)) = _
  rw [ab_bindO, Nat.add_sub_cancel_left]
theorem ab_d_54 {cc : ByteArray} {pc b1 b2 : Nat} (h0 : ab_by cc pc 54) (h1 : ab_by cc (pc + 1) b1) : decode cc pc = .ok (.istore b1, 2) := by
  rw [ab_decR]
  unfold Decoder.instr
  rw [ab_bindR, ab_u1 h0, ab_bindO]
  show Except.bind (Except.bind ((Reader.u1 (ε := DecodeError)) cc (pc + 1)) (fun z => Except.ok ((.istore z.1 : Instr), z.2))) (fun z => Except.ok (z.1, z.2 - pc)) = _
  rw [ab_u1 h1, ab_bindO, ab_bindO]
  show Except.ok ((.istore b1 : Instr), pc + 2 - pc) = _
  rw [Nat.add_sub_cancel_left]
theorem ab_d_55 {cc : ByteArray} {pc b1 b2 : Nat} (h0 : ab_by cc pc 55) (h1 : ab_by cc (pc + 1) b1) : decode cc pc = .ok (.lstore b1, 2) := by
  rw [ab_decR]
  unfold Decoder.instr
  rw [ab_bindR, ab_u1 h0, ab_bindO]
  show Except.bind (Except.bind ((Reader.u1 (ε := DecodeError)) cc (pc + 1)) (fun z => Except.ok ((.lstore z.1 : Instr), z.2))) (fun z => Except.ok (z.1, z.2 - pc)) = _
  rw [ab_u1 h1, ab_bindO, ab_bindO]
  show Except.ok ((.lstore b1 : Instr), pc + 2 - pc) = _
  rw [Nat.add_sub_cancel_left]
theorem ab_d_58 {cc : ByteArray} {pc b1 b2 : Nat} (h0 : ab_by cc pc 58) (h1 : ab_by cc (pc + 1) b1) : decode cc pc = .ok (.astore b1, 2) := by
  rw [ab_decR]
  unfold Decoder.instr
  rw [ab_bindR, ab_u1 h0, ab_bindO]
  show Except.bind (Except.bind ((Reader.u1 (ε := DecodeError)) cc (pc + 1)) (fun z => Except.ok ((.astore z.1 : Instr), z.2))) (fun z => Except.ok (z.1, z.2 - pc)) = _
  rw [ab_u1 h1, ab_bindO, ab_bindO]
  show Except.ok ((.astore b1 : Instr), pc + 2 - pc) = _
  rw [Nat.add_sub_cancel_left]
theorem ab_d_59 {cc : ByteArray} {pc b1 b2 : Nat} (h0 : ab_by cc pc 59) : decode cc pc = .ok (.istore_n 0, 1) := by
  rw [ab_decR]
  unfold Decoder.instr
  rw [ab_bindR, ab_u1 h0, ab_bindO]
  show Except.bind (Except.ok ((.istore_n 0 : Instr), pc + 1)) (fun z => Except.ok (z.1, z.2 - pc)) = _
  rw [ab_bindO, Nat.add_sub_cancel_left]
theorem ab_d_60 {cc : ByteArray} {pc b1 b2 : Nat} (h0 : ab_by cc pc 60) : decode cc pc = .ok (.istore_n 1, 1) := by
  rw [ab_decR]
  unfold Decoder.instr
  rw [ab_bindR, ab_u1 h0, ab_bindO]
  show Except.bind (Except.ok ((.istore_n 1 : Instr), pc + 1)) (fun z => Except.ok (z.1, z.2 - pc)) = _
  rw [ab_bindO, Nat.add_sub_cancel_left]
theorem ab_d_61 {cc : ByteArray} {pc b1 b2 : Nat} (h0 : ab_by cc pc 61) : decode cc pc = .ok (.istore_n 2, 1) := by
  rw [ab_decR]
  unfold Decoder.instr
  rw [ab_bindR, ab_u1 h0, ab_bindO]
  show Except.bind (Except.ok ((.istore_n 2 : Instr), pc + 1)) (fun z => Except.ok (z.1, z.2 - pc)) = _
  rw [ab_bindO, Nat.add_sub_cancel_left]
theorem ab_d_62 {cc : ByteArray} {pc b1 b2 : Nat} (h0 : ab_by cc pc 62) : decode cc pc = .ok (.istore_n 3, 1) := by
  rw [ab_decR]
  unfold Decoder.instr
  rw [ab_bindR, ab_u1 h0, ab_bindO]
  show Except.bind (Except.ok ((.istore_n 3 : Instr), pc + 1)) (fun z => Except.ok (z.1, z.2 - pc)) = _
  rw [ab_bindO, Nat.add_sub_cancel_left]
theorem ab_d_63 {cc : ByteArray} {pc b1 b2 : Nat} (h0 : ab_by cc pc 63) : decode cc pc = .ok (.lstore_n 0, 1) := by
  rw [ab_decR]
  unfold Decoder.instr
  rw [ab_bindR, ab_u1 h0, ab_bindO]
  show Except.bind (Except.ok ((.lstore_n 0 : Instr), pc + 1)) (fun z => Except.ok (z.1, z.2 - pc)) = _
  rw [ab_bindO, Nat.add_sub_cancel_left]
theorem ab_d_64 {cc : ByteArray} {pc b1 b2 : Nat} (h0 : ab_by cc pc 64) : decode cc pc = .ok (.lstore_n 1, 1) := by
  rw [ab_decR]
  unfold Decoder.instr
  rw [ab_bindR, ab_u1 h0, ab_bindO]
  show Except.bind (Except.ok ((.lstore_n 1 : Instr), pc + 1)) (fun z => Except.ok (z.1, z.2 - pc)) = _
  rw [ab_bindO, Nat.add_sub_cancel_left]
theorem ab_d_65 {cc : ByteArray} {pc b1 b2 : Nat} (h0 : ab_by cc pc 65) : decode cc pc = .ok (.lstore_n 2, 1) := by
  rw [ab_decR]
  unfold Decoder.instr
  rw [ab_bindR, ab_u1 h0, ab_bindO]
  show Except.bind (Except.ok ((.lstore_n 2 : Instr), pc + 1)) (fun z => Except.ok (z.1, z.2 - pc)) = _
  rw [ab_bindO, Nat.add_sub_cancel_left]
theorem ab_d_66 {cc : ByteArray} {pc b1 b2 : Nat} (h0 : ab_by cc pc 66) : decode cc pc = .ok (.lstore_n 3, 1) := by
  rw [ab_decR]
  unfold Decoder.instr
  rw [ab_bindR, ab_u1 h0, ab_bindO]
  show Except.bind (Except.ok ((.lstore_n 3 : Instr), pc + 1)) (fun z => Except.ok (z.1, z.2 - pc)) = _
  rw [ab_bindO, Nat.add_sub_cancel_left]
theorem ab_d_75 {cc : ByteArray} {pc b1 b2 : Nat} (h0 : ab_by cc pc 75) : decode cc pc = .ok (.astore_n 0, 1) := by
  rw [ab_decR]
  unfold Decoder.instr
  rw [ab_bindR, ab_u1 h0, ab_bindO]
  show Except.bind (Except.ok ((.astore_n 0 : Instr), pc + 1)) (fun z => Except.ok (z.1, z.2 - pc)) = _
  rw [ab_bindO, Nat.add_sub_cancel_left]
theorem ab_d_76 {cc : ByteArray} {pc b1 b2 : Nat} (h0 : ab_by cc pc 76) : decode cc pc = .ok (.astore_n 1, 1) := by
  rw [ab_decR]
  unfold Decoder.instr
  rw [ab_bindR, ab_u1 h0, ab_bindO]
  show Except.bind (Except.ok ((.astore_n 1 : Instr), pc + 1)) (fun z => Except.ok (z.1, z.2 - pc)) = _
  rw [ab_bindO, Nat.add_sub_cancel_left]
theorem ab_d_77 {cc : ByteArray} {pc b1 b2 : Nat} (h0 : ab_by cc pc 77) : decode cc pc = .ok (.astore_n 2, 1) := by
  rw [ab_decR]
  unfold Decoder.instr
  rw [ab_bindR, ab_u1 h0, ab_bindO]
  show Except.bind (Except.ok ((.astore_n 2 : Instr), pc + 1)) (fun z => Except.ok (z.1, z.2 - pc)) = _
  rw [ab_bindO, Nat.add_sub_cancel_left]
theorem ab_d_78 {cc : ByteArray} {pc b1 b2 : Nat} (h0 : ab_by cc pc 78) : decode cc pc = .ok (.astore_n 3, 1) := by
  rw [ab_decR]
  unfold Decoder.instr
  rw [ab_bindR, ab_u1 h0, ab_bindO]
  show Except.bind (Except.ok ((.astore_n 3 : Instr), pc + 1)) (fun z => Except.ok (z.1, z.2 - pc)) = _
  rw [ab_bindO, Nat.add_sub_cancel_left]
theorem ab_d_79 {cc : ByteArray} {pc b1 b2 : Nat} (h0 : ab_by cc pc 79) : decode cc pc = .ok (.iastore, 1) := by
  rw [ab_decR]
  unfold Decoder.instr
  rw [ab_bindR, ab_u1 h0, ab_bindO]
  show Except.bind (Except.ok ((.iastore : Instr), pc + 1)) (fun z => Except.ok (z.1, z.2 - pc)) = _
  rw [ab_bindO, Nat.add_sub_cancel_left]
theorem ab_d_80 {cc : ByteArray} {pc b1 b2 : Nat} (h0 : ab_by cc pc 80) : decode cc pc = .ok (.lastore, 1) := by
  rw [ab_decR]
  unfold Decoder.instr
  rw [ab_bindR, ab_u1 h0, ab_bindO]
  show Except.bind (Except.ok ((.lastore : Instr), pc + 1)) (fun z => Except.ok (z.1, z.2 - pc)) = _
  rw [ab_bindO, Nat.add_sub_cancel_left]
theorem ab_d_83 {cc : ByteArray} {pc b1 b2 : Nat} (h0 : ab_by cc pc 83) : decode cc pc = .ok (.aastore, 1) := by
  rw [ab_decR]
  unfold Decoder.instr
  rw [ab_bindR, ab_u1 h0, ab_bindO]
  show Except.bind (Except.ok ((.aastore : Instr), pc + 1)) (fun z => Except.ok (z.1, z.2 - pc)) = _
  rw [ab_bindO, Nat.add_sub_cancel_left]
theorem ab_d_84 {cc : ByteArray} {pc b1 b2 : Nat} (h0 : ab_by cc pc 84) : decode cc pc = .ok (.bastore, 1) := by
  rw [ab_decR]
  unfold Decoder.instr
  rw [ab_bindR, ab_u1 h0, ab_bindO]
  show Except.bind (Except.ok ((.bastore : Instr), pc + 1)) (fun z => Except.ok (z.1, z.2 - pc)) = _
  rw [ab_bindO, Nat.add_sub_cancel_left]
theorem ab_d_87 {cc : ByteArray} {pc b1 b2 : Nat} (h0 : ab_by cc pc 87) : decode cc pc = .ok (.pop, 1) := by
  rw [ab_decR]
  unfold Decoder.instr
  rw [ab_bindR, ab_u1 h0, ab_bindO]
  show Except.bind (Except.ok ((.pop : Instr), pc + 1)) (fun z => Except.ok (z.1, z.2 - pc)) = _
  rw [ab_bindO, Nat.add_sub_cancel_left]
theorem ab_d_89 {cc : ByteArray} {pc b1 b2 : Nat} (h0 : ab_by cc pc 89) : decode cc pc = .ok (.dup, 1) := by
  rw [ab_decR]
  unfold Decoder.instr
  rw [ab_bindR, ab_u1 h0, ab_bindO]
  show Except.bind (Except.ok ((.dup : Instr), pc + 1)) (fun z => Except.ok (z.1, z.2 - pc)) = _
  rw [ab_bindO, Nat.add_sub_cancel_left]
theorem ab_d_92 {cc : ByteArray} {pc b1 b2 : Nat} (h0 : ab_by cc pc 92) : decode cc pc = .ok (.dup2, 1) := by
  rw [ab_decR]
  unfold Decoder.instr
  rw [ab_bindR, ab_u1 h0, ab_bindO]
  show Except.bind (Except.ok ((.dup2 : Instr), pc + 1)) (fun z => Except.ok (z.1, z.2 - pc)) = _
  rw [ab_bindO, Nat.add_sub_cancel_left]
theorem ab_d_96 {cc : ByteArray} {pc b1 b2 : Nat} (h0 : ab_by cc pc 96) : decode cc pc = .ok (.iadd, 1) := by
  rw [ab_decR]
  unfold Decoder.instr
  rw [ab_bindR, ab_u1 h0, ab_bindO]
  show Except.bind (Except.ok ((.iadd : Instr), pc + 1)) (fun z => Except.ok (z.1, z.2 - pc)) = _
  rw [ab_bindO, Nat.add_sub_cancel_left]
theorem ab_d_97 {cc : ByteArray} {pc b1 b2 : Nat} (h0 : ab_by cc pc 97) : decode cc pc = .ok (.ladd, 1) := by
  rw [ab_decR]
  unfold Decoder.instr
  rw [ab_bindR, ab_u1 h0, ab_bindO]
  show Except.bind (Except.ok ((.ladd : Instr), pc + 1)) (fun z => Except.ok (z.1, z.2 - pc)) = _
  rw [ab_bindO, Nat.add_sub_cancel_left]
theorem ab_d_100 {cc : ByteArray} {pc b1 b2 : Nat} (h0 : ab_by cc pc 100) : decode cc pc = .ok (.isub, 1) := by
  rw [ab_decR]
  unfold Decoder.instr
  rw [ab_bindR, ab_u1 h0, ab_bindO]
  show Except.bind (Except.ok ((.isub : Instr), pc + 1)) (fun z => Except.ok (z.1, z.2 - pc)) = _
  rw [ab_bindO, Nat.add_sub_cancel_left]
theorem ab_d_101 {cc : ByteArray} {pc b1 b2 : Nat} (h0 : ab_by cc pc 101) : decode cc pc = .ok (.lsub, 1) := by
  rw [ab_decR]
  unfold Decoder.instr
  rw [ab_bindR, ab_u1 h0, ab_bindO]
  show Except.bind (Except.ok ((.lsub : Instr), pc + 1)) (fun z => Except.ok (z.1, z.2 - pc)) = _
  rw [ab_bindO, Nat.add_sub_cancel_left]
theorem ab_d_104 {cc : ByteArray} {pc b1 b2 : Nat} (h0 : ab_by cc pc 104) : decode cc pc = .ok (.imul, 1) := by
  rw [ab_decR]
  unfold Decoder.instr
  rw [ab_bindR, ab_u1 h0, ab_bindO]
  show Except.bind (Except.ok ((.imul : Instr), pc + 1)) (fun z => Except.ok (z.1, z.2 - pc)) = _
  rw [ab_bindO, Nat.add_sub_cancel_left]
theorem ab_d_105 {cc : ByteArray} {pc b1 b2 : Nat} (h0 : ab_by cc pc 105) : decode cc pc = .ok (.lmul, 1) := by
  rw [ab_decR]
  unfold Decoder.instr
  rw [ab_bindR, ab_u1 h0, ab_bindO]
  show Except.bind (Except.ok ((.lmul : Instr), pc + 1)) (fun z => Except.ok (z.1, z.2 - pc)) = _
  rw [ab_bindO, Nat.add_sub_cancel_left]
theorem ab_d_108 {cc : ByteArray} {pc b1 b2 : Nat} (h0 : ab_by cc pc 108) : decode cc pc = .ok (.idiv, 1) := by
  rw [ab_decR]
  unfold Decoder.instr
  rw [ab_bindR, ab_u1 h0, ab_bindO]
  show Except.bind (Except.ok ((.idiv : Instr), pc + 1)) (fun z => Except.ok (z.1, z.2 - pc)) = _
  rw [ab_bindO, Nat.add_sub_cancel_left]
theorem ab_d_112 {cc : ByteArray} {pc b1 b2 : Nat} (h0 : ab_by cc pc 112) : decode cc pc = .ok (.irem, 1) := by
  rw [ab_decR]
  unfold Decoder.instr
  rw [ab_bindR, ab_u1 h0, ab_bindO]
  show Except.bind (Except.ok ((.irem : Instr), pc + 1)) (fun z => Except.ok (z.1, z.2 - pc)) = _
  rw [ab_bindO, Nat.add_sub_cancel_left]
theorem ab_d_120 {cc : ByteArray} {pc b1 b2 : Nat} (h0 : ab_by cc pc 120) : decode cc pc = .ok (.ishl, 1) := by
  rw [ab_decR]
  unfold Decoder.instr
  rw [ab_bindR, ab_u1 h0, ab_bindO]
  show Except.bind (Except.ok ((.ishl : Instr), pc + 1)) (fun z => Except.ok (z.1, z.2 - pc)) = _
  rw [ab_bindO, Nat.add_sub_cancel_left]
theorem ab_d_121 {cc : ByteArray} {pc b1 b2 : Nat} (h0 : ab_by cc pc 121) : decode cc pc = .ok (.lshl, 1) := by
  rw [ab_decR]
  unfold Decoder.instr
  rw [ab_bindR, ab_u1 h0, ab_bindO]
  show Except.bind (Except.ok ((.lshl : Instr), pc + 1)) (fun z => Except.ok (z.1, z.2 - pc)) = _
  rw [ab_bindO, Nat.add_sub_cancel_left]
theorem ab_d_122 {cc : ByteArray} {pc b1 b2 : Nat} (h0 : ab_by cc pc 122) : decode cc pc = .ok (.ishr, 1) := by
  rw [ab_decR]
  unfold Decoder.instr
  rw [ab_bindR, ab_u1 h0, ab_bindO]
  show Except.bind (Except.ok ((.ishr : Instr), pc + 1)) (fun z => Except.ok (z.1, z.2 - pc)) = _
  rw [ab_bindO, Nat.add_sub_cancel_left]
theorem ab_d_123 {cc : ByteArray} {pc b1 b2 : Nat} (h0 : ab_by cc pc 123) : decode cc pc = .ok (.lshr, 1) := by
  rw [ab_decR]
  unfold Decoder.instr
  rw [ab_bindR, ab_u1 h0, ab_bindO]
  show Except.bind (Except.ok ((.lshr : Instr), pc + 1)) (fun z => Except.ok (z.1, z.2 - pc)) = _
  rw [ab_bindO, Nat.add_sub_cancel_left]
theorem ab_d_126 {cc : ByteArray} {pc b1 b2 : Nat} (h0 : ab_by cc pc 126) : decode cc pc = .ok (.iand, 1) := by
  rw [ab_decR]
  unfold Decoder.instr
  rw [ab_bindR, ab_u1 h0, ab_bindO]
  show Except.bind (Except.ok ((.iand : Instr), pc + 1)) (fun z => Except.ok (z.1, z.2 - pc)) = _
  rw [ab_bindO, Nat.add_sub_cancel_left]
theorem ab_d_127 {cc : ByteArray} {pc b1 b2 : Nat} (h0 : ab_by cc pc 127) : decode cc pc = .ok (.land, 1) := by
  rw [ab_decR]
  unfold Decoder.instr
  rw [ab_bindR, ab_u1 h0, ab_bindO]
  show Except.bind (Except.ok ((.land : Instr), pc + 1)) (fun z => Except.ok (z.1, z.2 - pc)) = _
  rw [ab_bindO, Nat.add_sub_cancel_left]
theorem ab_d_128 {cc : ByteArray} {pc b1 b2 : Nat} (h0 : ab_by cc pc 128) : decode cc pc = .ok (.ior, 1) := by
  rw [ab_decR]
  unfold Decoder.instr
  rw [ab_bindR, ab_u1 h0, ab_bindO]
  show Except.bind (Except.ok ((.ior : Instr), pc + 1)) (fun z => Except.ok (z.1, z.2 - pc)) = _
  rw [ab_bindO, Nat.add_sub_cancel_left]
theorem ab_d_129 {cc : ByteArray} {pc b1 b2 : Nat} (h0 : ab_by cc pc 129) : decode cc pc = .ok (.lor, 1) := by
  rw [ab_decR]
  unfold Decoder.instr
  rw [ab_bindR, ab_u1 h0, ab_bindO]
  show Except.bind (Except.ok ((.lor : Instr), pc + 1)) (fun z => Except.ok (z.1, z.2 - pc)) = _
  rw [ab_bindO, Nat.add_sub_cancel_left]
theorem ab_d_132 {cc : ByteArray} {pc b1 b2 : Nat} (h0 : ab_by cc pc 132) (h1 : ab_by cc (pc + 1) b1) (h2 : ab_by cc (pc + 1 + 1) b2) : decode cc pc = .ok (.iinc b1 (Reader.signed 8 b2), 3) := by
  rw [ab_decR]
  unfold Decoder.instr
  rw [ab_bindR, ab_u1 h0, ab_bindO]
  show Except.bind (Except.bind ((Reader.u1 (ε := DecodeError)) cc (pc + 1)) (fun z => Except.bind ((Reader.s1 (ε := DecodeError)) cc z.2) (fun y => Except.ok ((Instr.iinc z.1 y.1 : Instr), y.2)))) (fun z => Except.ok (z.1, z.2 - pc)) = _
  rw [ab_u1 h1, ab_bindO]
  show Except.bind (Except.bind ((Reader.s1 (ε := DecodeError)) cc (pc + 1 + 1)) (fun y => Except.ok ((Instr.iinc b1 y.1 : Instr), y.2))) (fun z => Except.ok (z.1, z.2 - pc)) = _
  rw [ab_s1 h2, ab_bindO, ab_bindO]
  show Except.ok ((.iinc b1 (Reader.signed 8 b2) : Instr), pc + 3 - pc) = _
  rw [Nat.add_sub_cancel_left]
theorem ab_d_133 {cc : ByteArray} {pc b1 b2 : Nat} (h0 : ab_by cc pc 133) : decode cc pc = .ok (.i2l, 1) := by
  rw [ab_decR]
  unfold Decoder.instr
  rw [ab_bindR, ab_u1 h0, ab_bindO]
  show Except.bind (Except.ok ((.i2l : Instr), pc + 1)) (fun z => Except.ok (z.1, z.2 - pc)) = _
  rw [ab_bindO, Nat.add_sub_cancel_left]
theorem ab_d_136 {cc : ByteArray} {pc b1 b2 : Nat} (h0 : ab_by cc pc 136) : decode cc pc = .ok (.l2i, 1) := by
  rw [ab_decR]
  unfold Decoder.instr
  rw [ab_bindR, ab_u1 h0, ab_bindO]
  show Except.bind (Except.ok ((.l2i : Instr), pc + 1)) (fun z => Except.ok (z.1, z.2 - pc)) = _
  rw [ab_bindO, Nat.add_sub_cancel_left]
theorem ab_d_145 {cc : ByteArray} {pc b1 b2 : Nat} (h0 : ab_by cc pc 145) : decode cc pc = .ok (.i2b, 1) := by
  rw [ab_decR]
  unfold Decoder.instr
  rw [ab_bindR, ab_u1 h0, ab_bindO]
  show Except.bind (Except.ok ((.i2b : Instr), pc + 1)) (fun z => Except.ok (z.1, z.2 - pc)) = _
  rw [ab_bindO, Nat.add_sub_cancel_left]
theorem ab_d_146 {cc : ByteArray} {pc b1 b2 : Nat} (h0 : ab_by cc pc 146) : decode cc pc = .ok (.i2c, 1) := by
  rw [ab_decR]
  unfold Decoder.instr
  rw [ab_bindR, ab_u1 h0, ab_bindO]
  show Except.bind (Except.ok ((.i2c : Instr), pc + 1)) (fun z => Except.ok (z.1, z.2 - pc)) = _
  rw [ab_bindO, Nat.add_sub_cancel_left]
theorem ab_d_148 {cc : ByteArray} {pc b1 b2 : Nat} (h0 : ab_by cc pc 148) : decode cc pc = .ok (.lcmp, 1) := by
  rw [ab_decR]
  unfold Decoder.instr
  rw [ab_bindR, ab_u1 h0, ab_bindO]
  show Except.bind (Except.ok ((.lcmp : Instr), pc + 1)) (fun z => Except.ok (z.1, z.2 - pc)) = _
  rw [ab_bindO, Nat.add_sub_cancel_left]
theorem ab_d_153 {cc : ByteArray} {pc b1 b2 : Nat} (h0 : ab_by cc pc 153) (h1 : ab_by cc (pc + 1) b1) (h2 : ab_by cc (pc + 1 + 1) b2) : decode cc pc = .ok (.ifCond .eq (Reader.signed 16 (b1 * 256 + b2)), 3) := by
  rw [ab_decR]
  unfold Decoder.instr
  rw [ab_bindR, ab_u1 h0, ab_bindO]
  show Except.bind (Except.bind ((Reader.s2 (ε := DecodeError)) cc (pc + 1)) (fun z => Except.ok ((.ifCond .eq z.1 : Instr), z.2))) (fun z => Except.ok (z.1, z.2 - pc)) = _
  rw [ab_s2 h1 h2, ab_bindO, ab_bindO]
  show Except.ok ((.ifCond .eq (Reader.signed 16 (b1 * 256 + b2)) : Instr), pc + 3 - pc) = _
  rw [Nat.add_sub_cancel_left]
theorem ab_d_154 {cc : ByteArray} {pc b1 b2 : Nat} (h0 : ab_by cc pc 154) (h1 : ab_by cc (pc + 1) b1) (h2 : ab_by cc (pc + 1 + 1) b2) : decode cc pc = .ok (.ifCond .ne (Reader.signed 16 (b1 * 256 + b2)), 3) := by
  rw [ab_decR]
  unfold Decoder.instr
  rw [ab_bindR, ab_u1 h0, ab_bindO]
  show Except.bind (Except.bind ((Reader.s2 (ε := DecodeError)) cc (pc + 1)) (fun z => Except.ok ((.ifCond .ne z.1 : Instr), z.2))) (fun z => Except.ok (z.1, z.2 - pc)) = _
  rw [ab_s2 h1 h2, ab_bindO, ab_bindO]
  show Except.ok ((.ifCond .ne (Reader.signed 16 (b1 * 256 + b2)) : Instr), pc + 3 - pc) = _
  rw [Nat.add_sub_cancel_left]
theorem ab_d_155 {cc : ByteArray} {pc b1 b2 : Nat} (h0 : ab_by cc pc 155) (h1 : ab_by cc (pc + 1) b1) (h2 : ab_by cc (pc + 1 + 1) b2) : decode cc pc = .ok (.ifCond .lt (Reader.signed 16 (b1 * 256 + b2)), 3) := by
  rw [ab_decR]
  unfold Decoder.instr
  rw [ab_bindR, ab_u1 h0, ab_bindO]
  show Except.bind (Except.bind ((Reader.s2 (ε := DecodeError)) cc (pc + 1)) (fun z => Except.ok ((.ifCond .lt z.1 : Instr), z.2))) (fun z => Except.ok (z.1, z.2 - pc)) = _
  rw [ab_s2 h1 h2, ab_bindO, ab_bindO]
  show Except.ok ((.ifCond .lt (Reader.signed 16 (b1 * 256 + b2)) : Instr), pc + 3 - pc) = _
  rw [Nat.add_sub_cancel_left]
theorem ab_d_156 {cc : ByteArray} {pc b1 b2 : Nat} (h0 : ab_by cc pc 156) (h1 : ab_by cc (pc + 1) b1) (h2 : ab_by cc (pc + 1 + 1) b2) : decode cc pc = .ok (.ifCond .ge (Reader.signed 16 (b1 * 256 + b2)), 3) := by
  rw [ab_decR]
  unfold Decoder.instr
  rw [ab_bindR, ab_u1 h0, ab_bindO]
  show Except.bind (Except.bind ((Reader.s2 (ε := DecodeError)) cc (pc + 1)) (fun z => Except.ok ((.ifCond .ge z.1 : Instr), z.2))) (fun z => Except.ok (z.1, z.2 - pc)) = _
  rw [ab_s2 h1 h2, ab_bindO, ab_bindO]
  show Except.ok ((.ifCond .ge (Reader.signed 16 (b1 * 256 + b2)) : Instr), pc + 3 - pc) = _
  rw [Nat.add_sub_cancel_left]
theorem ab_d_157 {cc : ByteArray} {pc b1 b2 : Nat} (h0 : ab_by cc pc 157) (h1 : ab_by cc (pc + 1) b1) (h2 : ab_by cc (pc + 1 + 1) b2) : decode cc pc = .ok (.ifCond .gt (Reader.signed 16 (b1 * 256 + b2)), 3) := by
  rw [ab_decR]
  unfold Decoder.instr
  rw [ab_bindR, ab_u1 h0, ab_bindO]
  show Except.bind (Except.bind ((Reader.s2 (ε := DecodeError)) cc (pc + 1)) (fun z => Except.ok ((.ifCond .gt z.1 : Instr), z.2))) (fun z => Except.ok (z.1, z.2 - pc)) = _
  rw [ab_s2 h1 h2, ab_bindO, ab_bindO]
  show Except.ok ((.ifCond .gt (Reader.signed 16 (b1 * 256 + b2)) : Instr), pc + 3 - pc) = _
  rw [Nat.add_sub_cancel_left]
theorem ab_d_158 {cc : ByteArray} {pc b1 b2 : Nat} (h0 : ab_by cc pc 158) (h1 : ab_by cc (pc + 1) b1) (h2 : ab_by cc (pc + 1 + 1) b2) : decode cc pc = .ok (.ifCond .le (Reader.signed 16 (b1 * 256 + b2)), 3) := by
  rw [ab_decR]
  unfold Decoder.instr
  rw [ab_bindR, ab_u1 h0, ab_bindO]
  show Except.bind (Except.bind ((Reader.s2 (ε := DecodeError)) cc (pc + 1)) (fun z => Except.ok ((.ifCond .le z.1 : Instr), z.2))) (fun z => Except.ok (z.1, z.2 - pc)) = _
  rw [ab_s2 h1 h2, ab_bindO, ab_bindO]
  show Except.ok ((.ifCond .le (Reader.signed 16 (b1 * 256 + b2)) : Instr), pc + 3 - pc) = _
  rw [Nat.add_sub_cancel_left]
theorem ab_d_159 {cc : ByteArray} {pc b1 b2 : Nat} (h0 : ab_by cc pc 159) (h1 : ab_by cc (pc + 1) b1) (h2 : ab_by cc (pc + 1 + 1) b2) : decode cc pc = .ok (.if_icmp .eq (Reader.signed 16 (b1 * 256 + b2)), 3) := by
  rw [ab_decR]
  unfold Decoder.instr
  rw [ab_bindR, ab_u1 h0, ab_bindO]
  show Except.bind (Except.bind ((Reader.s2 (ε := DecodeError)) cc (pc + 1)) (fun z => Except.ok ((.if_icmp .eq z.1 : Instr), z.2))) (fun z => Except.ok (z.1, z.2 - pc)) = _
  rw [ab_s2 h1 h2, ab_bindO, ab_bindO]
  show Except.ok ((.if_icmp .eq (Reader.signed 16 (b1 * 256 + b2)) : Instr), pc + 3 - pc) = _
  rw [Nat.add_sub_cancel_left]
theorem ab_d_160 {cc : ByteArray} {pc b1 b2 : Nat} (h0 : ab_by cc pc 160) (h1 : ab_by cc (pc + 1) b1) (h2 : ab_by cc (pc + 1 + 1) b2) : decode cc pc = .ok (.if_icmp .ne (Reader.signed 16 (b1 * 256 + b2)), 3) := by
  rw [ab_decR]
  unfold Decoder.instr
  rw [ab_bindR, ab_u1 h0, ab_bindO]
  show Except.bind (Except.bind ((Reader.s2 (ε := DecodeError)) cc (pc + 1)) (fun z => Except.ok ((.if_icmp .ne z.1 : Instr), z.2))) (fun z => Except.ok (z.1, z.2 - pc)) = _
  rw [ab_s2 h1 h2, ab_bindO, ab_bindO]
  show Except.ok ((.if_icmp .ne (Reader.signed 16 (b1 * 256 + b2)) : Instr), pc + 3 - pc) = _
  rw [Nat.add_sub_cancel_left]
theorem ab_d_161 {cc : ByteArray} {pc b1 b2 : Nat} (h0 : ab_by cc pc 161) (h1 : ab_by cc (pc + 1) b1) (h2 : ab_by cc (pc + 1 + 1) b2) : decode cc pc = .ok (.if_icmp .lt (Reader.signed 16 (b1 * 256 + b2)), 3) := by
  rw [ab_decR]
  unfold Decoder.instr
  rw [ab_bindR, ab_u1 h0, ab_bindO]
  show Except.bind (Except.bind ((Reader.s2 (ε := DecodeError)) cc (pc + 1)) (fun z => Except.ok ((.if_icmp .lt z.1 : Instr), z.2))) (fun z => Except.ok (z.1, z.2 - pc)) = _
  rw [ab_s2 h1 h2, ab_bindO, ab_bindO]
  show Except.ok ((.if_icmp .lt (Reader.signed 16 (b1 * 256 + b2)) : Instr), pc + 3 - pc) = _
  rw [Nat.add_sub_cancel_left]
theorem ab_d_162 {cc : ByteArray} {pc b1 b2 : Nat} (h0 : ab_by cc pc 162) (h1 : ab_by cc (pc + 1) b1) (h2 : ab_by cc (pc + 1 + 1) b2) : decode cc pc = .ok (.if_icmp .ge (Reader.signed 16 (b1 * 256 + b2)), 3) := by
  rw [ab_decR]
  unfold Decoder.instr
  rw [ab_bindR, ab_u1 h0, ab_bindO]
  show Except.bind (Except.bind ((Reader.s2 (ε := DecodeError)) cc (pc + 1)) (fun z => Except.ok ((.if_icmp .ge z.1 : Instr), z.2))) (fun z => Except.ok (z.1, z.2 - pc)) = _
  rw [ab_s2 h1 h2, ab_bindO, ab_bindO]
  show Except.ok ((.if_icmp .ge (Reader.signed 16 (b1 * 256 + b2)) : Instr), pc + 3 - pc) = _
  rw [Nat.add_sub_cancel_left]
theorem ab_d_163 {cc : ByteArray} {pc b1 b2 : Nat} (h0 : ab_by cc pc 163) (h1 : ab_by cc (pc + 1) b1) (h2 : ab_by cc (pc + 1 + 1) b2) : decode cc pc = .ok (.if_icmp .gt (Reader.signed 16 (b1 * 256 + b2)), 3) := by
  rw [ab_decR]
  unfold Decoder.instr
  rw [ab_bindR, ab_u1 h0, ab_bindO]
  show Except.bind (Except.bind ((Reader.s2 (ε := DecodeError)) cc (pc + 1)) (fun z => Except.ok ((.if_icmp .gt z.1 : Instr), z.2))) (fun z => Except.ok (z.1, z.2 - pc)) = _
  rw [ab_s2 h1 h2, ab_bindO, ab_bindO]
  show Except.ok ((.if_icmp .gt (Reader.signed 16 (b1 * 256 + b2)) : Instr), pc + 3 - pc) = _
  rw [Nat.add_sub_cancel_left]
theorem ab_d_164 {cc : ByteArray} {pc b1 b2 : Nat} (h0 : ab_by cc pc 164) (h1 : ab_by cc (pc + 1) b1) (h2 : ab_by cc (pc + 1 + 1) b2) : decode cc pc = .ok (.if_icmp .le (Reader.signed 16 (b1 * 256 + b2)), 3) := by
  rw [ab_decR]
  unfold Decoder.instr
  rw [ab_bindR, ab_u1 h0, ab_bindO]
  show Except.bind (Except.bind ((Reader.s2 (ε := DecodeError)) cc (pc + 1)) (fun z => Except.ok ((.if_icmp .le z.1 : Instr), z.2))) (fun z => Except.ok (z.1, z.2 - pc)) = _
  rw [ab_s2 h1 h2, ab_bindO, ab_bindO]
  show Except.ok ((.if_icmp .le (Reader.signed 16 (b1 * 256 + b2)) : Instr), pc + 3 - pc) = _
  rw [Nat.add_sub_cancel_left]
theorem ab_d_167 {cc : ByteArray} {pc b1 b2 : Nat} (h0 : ab_by cc pc 167) (h1 : ab_by cc (pc + 1) b1) (h2 : ab_by cc (pc + 1 + 1) b2) : decode cc pc = .ok (.goto (Reader.signed 16 (b1 * 256 + b2)), 3) := by
  rw [ab_decR]
  unfold Decoder.instr
  rw [ab_bindR, ab_u1 h0, ab_bindO]
  show Except.bind (Except.bind ((Reader.s2 (ε := DecodeError)) cc (pc + 1)) (fun z => Except.ok ((.goto z.1 : Instr), z.2))) (fun z => Except.ok (z.1, z.2 - pc)) = _
  rw [ab_s2 h1 h2, ab_bindO, ab_bindO]
  show Except.ok ((.goto (Reader.signed 16 (b1 * 256 + b2)) : Instr), pc + 3 - pc) = _
  rw [Nat.add_sub_cancel_left]
theorem ab_d_172 {cc : ByteArray} {pc b1 b2 : Nat} (h0 : ab_by cc pc 172) : decode cc pc = .ok (.ireturn, 1) := by
  rw [ab_decR]
  unfold Decoder.instr
  rw [ab_bindR, ab_u1 h0, ab_bindO]
  show Except.bind (Except.ok ((.ireturn : Instr), pc + 1)) (fun z => Except.ok (z.1, z.2 - pc)) = _
  rw [ab_bindO, Nat.add_sub_cancel_left]
theorem ab_d_173 {cc : ByteArray} {pc b1 b2 : Nat} (h0 : ab_by cc pc 173) : decode cc pc = .ok (.lreturn, 1) := by
  rw [ab_decR]
  unfold Decoder.instr
  rw [ab_bindR, ab_u1 h0, ab_bindO]
  show Except.bind (Except.ok ((.lreturn : Instr), pc + 1)) (fun z => Except.ok (z.1, z.2 - pc)) = _
  rw [ab_bindO, Nat.add_sub_cancel_left]
theorem ab_d_176 {cc : ByteArray} {pc b1 b2 : Nat} (h0 : ab_by cc pc 176) : decode cc pc = .ok (.areturn, 1) := by
  rw [ab_decR]
  unfold Decoder.instr
  rw [ab_bindR, ab_u1 h0, ab_bindO]
  show Except.bind (Except.ok ((.areturn : Instr), pc + 1)) (fun z => Except.ok (z.1, z.2 - pc)) = _
  rw [ab_bindO, Nat.add_sub_cancel_left]
theorem ab_d_177 {cc : ByteArray} {pc b1 b2 : Nat} (h0 : ab_by cc pc 177) : decode cc pc = .ok (.return_, 1) := by
  rw [ab_decR]
  unfold Decoder.instr
  rw [ab_bindR, ab_u1 h0, ab_bindO]
  show Except.bind (Except.ok ((.return_ : Instr), pc + 1)) (fun z => Except.ok (z.1, z.2 - pc)) = _
  rw [ab_bindO, Nat.add_sub_cancel_left]
theorem ab_d_178 {cc : ByteArray} {pc b1 b2 : Nat} (h0 : ab_by cc pc 178) (h1 : ab_by cc (pc + 1) b1) (h2 : ab_by cc (pc + 1 + 1) b2) : decode cc pc = .ok (.getstatic (b1 * 256 + b2), 3) := by
  rw [ab_decR]
  unfold Decoder.instr
  rw [ab_bindR, ab_u1 h0, ab_bindO]
  show Except.bind (Except.bind ((Reader.u2 (ε := DecodeError)) cc (pc + 1)) (fun z => Except.ok ((.getstatic z.1 : Instr), z.2))) (fun z => Except.ok (z.1, z.2 - pc)) = _
  rw [ab_u2 h1 h2, ab_bindO, ab_bindO]
  show Except.ok ((.getstatic (b1 * 256 + b2) : Instr), pc + 3 - pc) = _
  rw [Nat.add_sub_cancel_left]
theorem ab_d_180 {cc : ByteArray} {pc b1 b2 : Nat} (h0 : ab_by cc pc 180) (h1 : ab_by cc (pc + 1) b1) (h2 : ab_by cc (pc + 1 + 1) b2) : decode cc pc = .ok (.getfield (b1 * 256 + b2), 3) := by
  rw [ab_decR]
  unfold Decoder.instr
  rw [ab_bindR, ab_u1 h0, ab_bindO]
  show Except.bind (Except.bind ((Reader.u2 (ε := DecodeError)) cc (pc + 1)) (fun z => Except.ok ((.getfield z.1 : Instr), z.2))) (fun z => Except.ok (z.1, z.2 - pc)) = _
  rw [ab_u2 h1 h2, ab_bindO, ab_bindO]
  show Except.ok ((.getfield (b1 * 256 + b2) : Instr), pc + 3 - pc) = _
  rw [Nat.add_sub_cancel_left]
theorem ab_d_181 {cc : ByteArray} {pc b1 b2 : Nat} (h0 : ab_by cc pc 181) (h1 : ab_by cc (pc + 1) b1) (h2 : ab_by cc (pc + 1 + 1) b2) : decode cc pc = .ok (.putfield (b1 * 256 + b2), 3) := by
  rw [ab_decR]
  unfold Decoder.instr
  rw [ab_bindR, ab_u1 h0, ab_bindO]
  show Except.bind (Except.bind ((Reader.u2 (ε := DecodeError)) cc (pc + 1)) (fun z => Except.ok ((.putfield z.1 : Instr), z.2))) (fun z => Except.ok (z.1, z.2 - pc)) = _
  rw [ab_u2 h1 h2, ab_bindO, ab_bindO]
  show Except.ok ((.putfield (b1 * 256 + b2) : Instr), pc + 3 - pc) = _
  rw [Nat.add_sub_cancel_left]
theorem ab_d_182 {cc : ByteArray} {pc b1 b2 : Nat} (h0 : ab_by cc pc 182) (h1 : ab_by cc (pc + 1) b1) (h2 : ab_by cc (pc + 1 + 1) b2) : decode cc pc = .ok (.invokevirtual (b1 * 256 + b2), 3) := by
  rw [ab_decR]
  unfold Decoder.instr
  rw [ab_bindR, ab_u1 h0, ab_bindO]
  show Except.bind (Except.bind ((Reader.u2 (ε := DecodeError)) cc (pc + 1)) (fun z => Except.ok ((.invokevirtual z.1 : Instr), z.2))) (fun z => Except.ok (z.1, z.2 - pc)) = _
  rw [ab_u2 h1 h2, ab_bindO, ab_bindO]
  show Except.ok ((.invokevirtual (b1 * 256 + b2) : Instr), pc + 3 - pc) = _
  rw [Nat.add_sub_cancel_left]
theorem ab_d_183 {cc : ByteArray} {pc b1 b2 : Nat} (h0 : ab_by cc pc 183) (h1 : ab_by cc (pc + 1) b1) (h2 : ab_by cc (pc + 1 + 1) b2) : decode cc pc = .ok (.invokespecial (b1 * 256 + b2), 3) := by
  rw [ab_decR]
  unfold Decoder.instr
  rw [ab_bindR, ab_u1 h0, ab_bindO]
  show Except.bind (Except.bind ((Reader.u2 (ε := DecodeError)) cc (pc + 1)) (fun z => Except.ok ((.invokespecial z.1 : Instr), z.2))) (fun z => Except.ok (z.1, z.2 - pc)) = _
  rw [ab_u2 h1 h2, ab_bindO, ab_bindO]
  show Except.ok ((.invokespecial (b1 * 256 + b2) : Instr), pc + 3 - pc) = _
  rw [Nat.add_sub_cancel_left]
theorem ab_d_184 {cc : ByteArray} {pc b1 b2 : Nat} (h0 : ab_by cc pc 184) (h1 : ab_by cc (pc + 1) b1) (h2 : ab_by cc (pc + 1 + 1) b2) : decode cc pc = .ok (.invokestatic (b1 * 256 + b2), 3) := by
  rw [ab_decR]
  unfold Decoder.instr
  rw [ab_bindR, ab_u1 h0, ab_bindO]
  show Except.bind (Except.bind ((Reader.u2 (ε := DecodeError)) cc (pc + 1)) (fun z => Except.ok ((.invokestatic z.1 : Instr), z.2))) (fun z => Except.ok (z.1, z.2 - pc)) = _
  rw [ab_u2 h1 h2, ab_bindO, ab_bindO]
  show Except.ok ((.invokestatic (b1 * 256 + b2) : Instr), pc + 3 - pc) = _
  rw [Nat.add_sub_cancel_left]
theorem ab_d_187 {cc : ByteArray} {pc b1 b2 : Nat} (h0 : ab_by cc pc 187) (h1 : ab_by cc (pc + 1) b1) (h2 : ab_by cc (pc + 1 + 1) b2) : decode cc pc = .ok (.new (b1 * 256 + b2), 3) := by
  rw [ab_decR]
  unfold Decoder.instr
  rw [ab_bindR, ab_u1 h0, ab_bindO]
  show Except.bind (Except.bind ((Reader.u2 (ε := DecodeError)) cc (pc + 1)) (fun z => Except.ok ((.new z.1 : Instr), z.2))) (fun z => Except.ok (z.1, z.2 - pc)) = _
  rw [ab_u2 h1 h2, ab_bindO, ab_bindO]
  show Except.ok ((.new (b1 * 256 + b2) : Instr), pc + 3 - pc) = _
  rw [Nat.add_sub_cancel_left]
theorem ab_d_189 {cc : ByteArray} {pc b1 b2 : Nat} (h0 : ab_by cc pc 189) (h1 : ab_by cc (pc + 1) b1) (h2 : ab_by cc (pc + 1 + 1) b2) : decode cc pc = .ok (.anewarray (b1 * 256 + b2), 3) := by
  rw [ab_decR]
  unfold Decoder.instr
  rw [ab_bindR, ab_u1 h0, ab_bindO]
  show Except.bind (Except.bind ((Reader.u2 (ε := DecodeError)) cc (pc + 1)) (fun z => Except.ok ((.anewarray z.1 : Instr), z.2))) (fun z => Except.ok (z.1, z.2 - pc)) = _
  rw [ab_u2 h1 h2, ab_bindO, ab_bindO]
  show Except.ok ((.anewarray (b1 * 256 + b2) : Instr), pc + 3 - pc) = _
  rw [Nat.add_sub_cancel_left]
theorem ab_d_190 {cc : ByteArray} {pc b1 b2 : Nat} (h0 : ab_by cc pc 190) : decode cc pc = .ok (.arraylength, 1) := by
  rw [ab_decR]
  unfold Decoder.instr
  rw [ab_bindR, ab_u1 h0, ab_bindO]
  show Except.bind (Except.ok ((.arraylength : Instr), pc + 1)) (fun z => Except.ok (z.1, z.2 - pc)) = _
  rw [ab_bindO, Nat.add_sub_cancel_left]
theorem ab_d_198 {cc : ByteArray} {pc b1 b2 : Nat} (h0 : ab_by cc pc 198) (h1 : ab_by cc (pc + 1) b1) (h2 : ab_by cc (pc + 1 + 1) b2) : decode cc pc = .ok (.ifnull (Reader.signed 16 (b1 * 256 + b2)), 3) := by
  rw [ab_decR]
  unfold Decoder.instr
  rw [ab_bindR, ab_u1 h0, ab_bindO]
  show Except.bind (Except.bind ((Reader.s2 (ε := DecodeError)) cc (pc + 1)) (fun z => Except.ok ((.ifnull z.1 : Instr), z.2))) (fun z => Except.ok (z.1, z.2 - pc)) = _
  rw [ab_s2 h1 h2, ab_bindO, ab_bindO]
  show Except.ok ((.ifnull (Reader.signed 16 (b1 * 256 + b2)) : Instr), pc + 3 - pc) = _
  rw [Nat.add_sub_cancel_left]
theorem ab_d_199 {cc : ByteArray} {pc b1 b2 : Nat} (h0 : ab_by cc pc 199) (h1 : ab_by cc (pc + 1) b1) (h2 : ab_by cc (pc + 1 + 1) b2) : decode cc pc = .ok (.ifnonnull (Reader.signed 16 (b1 * 256 + b2)), 3) := by
  rw [ab_decR]
  unfold Decoder.instr
  rw [ab_bindR, ab_u1 h0, ab_bindO]
  show Except.bind (Except.bind ((Reader.s2 (ε := DecodeError)) cc (pc + 1)) (fun z => Except.ok ((.ifnonnull z.1 : Instr), z.2))) (fun z => Except.ok (z.1, z.2 - pc)) = _
  rw [ab_s2 h1 h2, ab_bindO, ab_bindO]
  show Except.ok ((.ifnonnull (Reader.signed 16 (b1 * 256 + b2)) : Instr), pc + 3 - pc) = _
  rw [Nat.add_sub_cancel_left]
theorem ab_d_188_4 {cc : ByteArray} {pc : Nat} (h0 : ab_by cc pc 188) (h1 : ab_by cc (pc + 1) 4) : decode cc pc = .ok (.newarray .boolean, 2) := by
  rw [ab_decR]
  unfold Decoder.instr
  rw [ab_bindR, ab_u1 h0, ab_bindO]
  show Except.bind ((Decoder.newarray pc) cc (pc + 1)) (fun z => Except.ok (z.1, z.2 - pc)) = _
  unfold Decoder.newarray
  rw [ab_bindR, ab_u1 h1, ab_bindO]
  show Except.bind (Except.ok ((Instr.newarray .boolean : Instr), pc + 1 + 1)) (fun z => Except.ok (z.1, z.2 - pc)) = _
  rw [ab_bindO]
  show Except.ok ((Instr.newarray .boolean : Instr), pc + 2 - pc) = _
  rw [Nat.add_sub_cancel_left]
theorem ab_d_188_8 {cc : ByteArray} {pc : Nat} (h0 : ab_by cc pc 188) (h1 : ab_by cc (pc + 1) 8) : decode cc pc = .ok (.newarray .byte, 2) := by
  rw [ab_decR]
  unfold Decoder.instr
  rw [ab_bindR, ab_u1 h0, ab_bindO]
  show Except.bind ((Decoder.newarray pc) cc (pc + 1)) (fun z => Except.ok (z.1, z.2 - pc)) = _
  unfold Decoder.newarray
  rw [ab_bindR, ab_u1 h1, ab_bindO]
  show Except.bind (Except.ok ((Instr.newarray .byte : Instr), pc + 1 + 1)) (fun z => Except.ok (z.1, z.2 - pc)) = _
  rw [ab_bindO]
  show Except.ok ((Instr.newarray .byte : Instr), pc + 2 - pc) = _
  rw [Nat.add_sub_cancel_left]
theorem ab_d_188_10 {cc : ByteArray} {pc : Nat} (h0 : ab_by cc pc 188) (h1 : ab_by cc (pc + 1) 10) : decode cc pc = .ok (.newarray .int, 2) := by
  rw [ab_decR]
  unfold Decoder.instr
  rw [ab_bindR, ab_u1 h0, ab_bindO]
  show Except.bind ((Decoder.newarray pc) cc (pc + 1)) (fun z => Except.ok (z.1, z.2 - pc)) = _
  unfold Decoder.newarray
  rw [ab_bindR, ab_u1 h1, ab_bindO]
  show Except.bind (Except.ok ((Instr.newarray .int : Instr), pc + 1 + 1)) (fun z => Except.ok (z.1, z.2 - pc)) = _
  rw [ab_bindO]
  show Except.ok ((Instr.newarray .int : Instr), pc + 2 - pc) = _
  rw [Nat.add_sub_cancel_left]
theorem ab_d_188_11 {cc : ByteArray} {pc : Nat} (h0 : ab_by cc pc 188) (h1 : ab_by cc (pc + 1) 11) : decode cc pc = .ok (.newarray .long, 2) := by
  rw [ab_decR]
  unfold Decoder.instr
  rw [ab_bindR, ab_u1 h0, ab_bindO]
  show Except.bind ((Decoder.newarray pc) cc (pc + 1)) (fun z => Except.ok (z.1, z.2 - pc)) = _
  unfold Decoder.newarray
  rw [ab_bindR, ab_u1 h1, ab_bindO]
  show Except.bind (Except.ok ((Instr.newarray .long : Instr), pc + 1 + 1)) (fun z => Except.ok (z.1, z.2 - pc)) = _
  rw [ab_bindO]
  show Except.ok ((Instr.newarray .long : Instr), pc + 2 - pc) = _
  rw [Nat.add_sub_cancel_left]
set_option maxHeartbeats 4000000 in
theorem ab_fd_ok {cc : ByteArray} {pc b0 b1 b2 n : Nat} {i : Instr} (hf : ab_fd b0 b1 b2 = some (i, n)) (h0 : ab_by cc pc b0) (h1 : 2 ≤ n → ab_by cc (pc + 1) b1) (h2 : 3 ≤ n → ab_by cc (pc + 1 + 1) b2) : decode cc pc = .ok (i, n) := by
  unfold ab_fd at hf
  split at hf
  · cases hf; exact ab_d_1 (b1 := b1) (b2 := b2) h0
  · cases hf; exact ab_d_2 (b1 := b1) (b2 := b2) h0
  · cases hf; exact ab_d_3 (b1 := b1) (b2 := b2) h0
  · cases hf; exact ab_d_4 (b1 := b1) (b2 := b2) h0
  · cases hf; exact ab_d_5 (b1 := b1) (b2 := b2) h0
  · cases hf; exact ab_d_6 (b1 := b1) (b2 := b2) h0
  · cases hf; exact ab_d_7 (b1 := b1) (b2 := b2) h0
  · cases hf; exact ab_d_8 (b1 := b1) (b2 := b2) h0
  · cases hf; exact ab_d_9 (b1 := b1) (b2 := b2) h0
  · cases hf; exact ab_d_10 (b1 := b1) (b2 := b2) h0
  · cases hf; exact ab_d_16 (b1 := b1) (b2 := b2) h0 (h1 (by decide))
  · cases hf; exact ab_d_17 (b1 := b1) (b2 := b2) h0 (h1 (by decide)) (h2 (by decide))
  · cases hf; exact ab_d_18 (b1 := b1) (b2 := b2) h0 (h1 (by decide))
  · cases hf; exact ab_d_19 (b1 := b1) (b2 := b2) h0 (h1 (by decide)) (h2 (by decide))
  · cases hf; exact ab_d_20 (b1 := b1) (b2 := b2) h0 (h1 (by decide)) (h2 (by decide))
  · cases hf; exact ab_d_21 (b1 := b1) (b2 := b2) h0 (h1 (by decide))
  · cases hf; exact ab_d_22 (b1 := b1) (b2 := b2) h0 (h1 (by decide))
  · cases hf; exact ab_d_25 (b1 := b1) (b2 := b2) h0 (h1 (by decide))
  · cases hf; exact ab_d_26 (b1 := b1) (b2 := b2) h0
  · cases hf; exact ab_d_27 (b1 := b1) (b2 := b2) h0
  · cases hf; exact ab_d_28 (b1 := b1) (b2 := b2) h0
  · cases hf; exact ab_d_29 (b1 := b1) (b2 := b2) h0
  · cases hf; exact ab_d_30 (b1 := b1) (b2 := b2) h0
  · cases hf; exact ab_d_31 (b1 := b1) (b2 := b2) h0
  · cases hf; exact ab_d_32 (b1 := b1) (b2 := b2) h0
  · cases hf; exact ab_d_33 (b1 := b1) (b2 := b2) h0
  · cases hf; exact ab_d_42 (b1 := b1) (b2 := b2) h0
  · cases hf; exact ab_d_43 (b1 := b1) (b2 := b2) h0
  · cases hf; exact ab_d_44 (b1 := b1) (b2 := b2) h0
  · cases hf; exact ab_d_45 (b1 := b1) (b2 := b2) h0
  · cases hf; exact ab_d_46 (b1 := b1) (b2 := b2) h0
  · cases hf; exact ab_d_47 (b1 := b1) (b2 := b2) h0
  · cases hf; exact ab_d_50 (b1 := b1) (b2 := b2) h0
  · cases hf; exact ab_d_51 (b1 := b1) (b2 := b2) h0
  · cases hf; exact ab_d_54 (b1 := b1) (b2 := b2) h0 (h1 (by decide))
  · cases hf; exact ab_d_55 (b1 := b1) (b2 := b2) h0 (h1 (by decide))
  · cases hf; exact ab_d_58 (b1 := b1) (b2 := b2) h0 (h1 (by decide))
  · cases hf; exact ab_d_59 (b1 := b1) (b2 := b2) h0
  · cases hf; exact ab_d_60 (b1 := b1) (b2 := b2) h0
  · cases hf; exact ab_d_61 (b1 := b1) (b2 := b2) h0
  · cases hf; exact ab_d_62 (b1 := b1) (b2 := b2) h0
  · cases hf; exact ab_d_63 (b1 := b1) (b2 := b2) h0
  · cases hf; exact ab_d_64 (b1 := b1) (b2 := b2) h0
  · cases hf; exact ab_d_65 (b1 := b1) (b2 := b2) h0
  · cases hf; exact ab_d_66 (b1 := b1) (b2 := b2) h0
  · cases hf; exact ab_d_75 (b1 := b1) (b2 := b2) h0
  · cases hf; exact ab_d_76 (b1 := b1) (b2 := b2) h0
  · cases hf; exact ab_d_77 (b1 := b1) (b2 := b2) h0
  · cases hf; exact ab_d_78 (b1 := b1) (b2 := b2) h0
  · cases hf; exact ab_d_79 (b1 := b1) (b2 := b2) h0
  · cases hf; exact ab_d_80 (b1 := b1) (b2 := b2) h0
  · cases hf; exact ab_d_83 (b1 := b1) (b2 := b2) h0
  · cases hf; exact ab_d_84 (b1 := b1) (b2 := b2) h0
  · cases hf; exact ab_d_87 (b1 := b1) (b2 := b2) h0
  · cases hf; exact ab_d_89 (b1 := b1) (b2 := b2) h0
  · cases hf; exact ab_d_92 (b1 := b1) (b2 := b2) h0
  · cases hf; exact ab_d_96 (b1 := b1) (b2 := b2) h0
  · cases hf; exact ab_d_97 (b1 := b1) (b2 := b2) h0
  · cases hf; exact ab_d_100 (b1 := b1) (b2 := b2) h0
  · cases hf; exact ab_d_101 (b1 := b1) (b2 := b2) h0
  · cases hf; exact ab_d_104 (b1 := b1) (b2 := b2) h0
  · cases hf; exact ab_d_105 (b1 := b1) (b2 := b2) h0
  · cases hf; exact ab_d_108 (b1 := b1) (b2 := b2) h0
  · cases hf; exact ab_d_112 (b1 := b1) (b2 := b2) h0
  · cases hf; exact ab_d_120 (b1 := b1) (b2 := b2) h0
  · cases hf; exact ab_d_121 (b1 := b1) (b2 := b2) h0
  · cases hf; exact ab_d_122 (b1 := b1) (b2 := b2) h0
  · cases hf; exact ab_d_123 (b1 := b1) (b2 := b2) h0
  · cases hf; exact ab_d_126 (b1 := b1) (b2 := b2) h0
  · cases hf; exact ab_d_127 (b1 := b1) (b2 := b2) h0
  · cases hf; exact ab_d_128 (b1 := b1) (b2 := b2) h0
  · cases hf; exact ab_d_129 (b1 := b1) (b2 := b2) h0
  · cases hf; exact ab_d_132 (b1 := b1) (b2 := b2) h0 (h1 (by decide)) (h2 (by decide))
  · cases hf; exact ab_d_133 (b1 := b1) (b2 := b2) h0
  · cases hf; exact ab_d_136 (b1 := b1) (b2 := b2) h0
  · cases hf; exact ab_d_145 (b1 := b1) (b2 := b2) h0
  · cases hf; exact ab_d_146 (b1 := b1) (b2 := b2) h0
  · cases hf; exact ab_d_148 (b1 := b1) (b2 := b2) h0
  · cases hf; exact ab_d_153 (b1 := b1) (b2 := b2) h0 (h1 (by decide)) (h2 (by decide))
  · cases hf; exact ab_d_154 (b1 := b1) (b2 := b2) h0 (h1 (by decide)) (h2 (by decide))
  · cases hf; exact ab_d_155 (b1 := b1) (b2 := b2) h0 (h1 (by decide)) (h2 (by decide))
  · cases hf; exact ab_d_156 (b1 := b1) (b2 := b2) h0 (h1 (by decide)) (h2 (by decide))
  · cases hf; exact ab_d_157 (b1 := b1) (b2 := b2) h0 (h1 (by decide)) (h2 (by decide))
  · cases hf; exact ab_d_158 (b1 := b1) (b2 := b2) h0 (h1 (by decide)) (h2 (by decide))
  · cases hf; exact ab_d_159 (b1 := b1) (b2 := b2) h0 (h1 (by decide)) (h2 (by decide))
  · cases hf; exact ab_d_160 (b1 := b1) (b2 := b2) h0 (h1 (by decide)) (h2 (by decide))
  · cases hf; exact ab_d_161 (b1 := b1) (b2 := b2) h0 (h1 (by decide)) (h2 (by decide))
  · cases hf; exact ab_d_162 (b1 := b1) (b2 := b2) h0 (h1 (by decide)) (h2 (by decide))
  · cases hf; exact ab_d_163 (b1 := b1) (b2 := b2) h0 (h1 (by decide)) (h2 (by decide))
  · cases hf; exact ab_d_164 (b1 := b1) (b2 := b2) h0 (h1 (by decide)) (h2 (by decide))
  · cases hf; exact ab_d_167 (b1 := b1) (b2 := b2) h0 (h1 (by decide)) (h2 (by decide))
  · cases hf; exact ab_d_172 (b1 := b1) (b2 := b2) h0
  · cases hf; exact ab_d_173 (b1 := b1) (b2 := b2) h0
  · cases hf; exact ab_d_176 (b1 := b1) (b2 := b2) h0
  · cases hf; exact ab_d_177 (b1 := b1) (b2 := b2) h0
  · cases hf; exact ab_d_178 (b1 := b1) (b2 := b2) h0 (h1 (by decide)) (h2 (by decide))
  · cases hf; exact ab_d_180 (b1 := b1) (b2 := b2) h0 (h1 (by decide)) (h2 (by decide))
  · cases hf; exact ab_d_181 (b1 := b1) (b2 := b2) h0 (h1 (by decide)) (h2 (by decide))
  · cases hf; exact ab_d_182 (b1 := b1) (b2 := b2) h0 (h1 (by decide)) (h2 (by decide))
  · cases hf; exact ab_d_183 (b1 := b1) (b2 := b2) h0 (h1 (by decide)) (h2 (by decide))
  · cases hf; exact ab_d_184 (b1 := b1) (b2 := b2) h0 (h1 (by decide)) (h2 (by decide))
  · cases hf; exact ab_d_187 (b1 := b1) (b2 := b2) h0 (h1 (by decide)) (h2 (by decide))
  · cases hf; exact ab_d_189 (b1 := b1) (b2 := b2) h0 (h1 (by decide)) (h2 (by decide))
  · cases hf; exact ab_d_190 (b1 := b1) (b2 := b2) h0
  · cases hf; exact ab_d_198 (b1 := b1) (b2 := b2) h0 (h1 (by decide)) (h2 (by decide))
  · cases hf; exact ab_d_199 (b1 := b1) (b2 := b2) h0 (h1 (by decide)) (h2 (by decide))
  · split at hf
    · cases hf; exact ab_d_188_4 h0 (h1 (by decide))
    · cases hf; exact ab_d_188_8 h0 (h1 (by decide))
    · cases hf; exact ab_d_188_10 h0 (h1 (by decide))
    · cases hf; exact ab_d_188_11 h0 (h1 (by decide))
    · cases hf
  · cases hf
theorem ab_by_of {cc : ByteArray} {p : Nat} {b : UInt8} (h : cc.data.toList[p]? = some b) : ab_by cc p b.toNat := by
  obtain ⟨h1, h2⟩ := List.getElem?_eq_some_iff.mp h
  refine ⟨by simpa using h1, ?_⟩
  rw [← h2]
  rfl
def ab_one (bs : List UInt8) (i : Instr) : Bool := match bs with
  | b0 :: b1 :: b2 :: _ => (match ab_fd b0.toNat b1.toNat b2.toNat with
    | some q => decide (q.1 = i) && Nat.beq q.2 (ab_len i) && Nat.ble q.2 3
    | none => false)
  | [b0, b1] => (match ab_fd b0.toNat b1.toNat 0 with
    | some q => decide (q.1 = i) && Nat.beq q.2 (ab_len i) && Nat.ble q.2 2
    | none => false)
  | [b0] => (match ab_fd b0.toNat 0 0 with
    | some q => decide (q.1 = i) && Nat.beq q.2 (ab_len i) && Nat.ble q.2 1
    | none => false)
  | [] => false
theorem ab_drop {cc : ByteArray} {pc k : Nat} {bs : List UInt8} {b : UInt8} (h : cc.data.toList.drop pc = bs) (hb : bs[k]? = some b) : cc.data.toList[pc + k]? = some b := by
  rw [← h, List.getElem?_drop] at hb
  exact hb
theorem ab_one_ok {cc : ByteArray} {pc : Nat} {bs : List UInt8} {i : Instr} (h : cc.data.toList.drop pc = bs) (hs : ab_one bs i = true) : decode cc pc = .ok (i, ab_len i) := by
  unfold ab_one at hs
  split at hs
  next b0 b1 b2 r =>
    split at hs
    next q hq =>
      simp only [Bool.and_eq_true, decide_eq_true_eq] at hs
      obtain ⟨⟨e1, e2⟩, e3⟩ := hs
      obtain ⟨i', n⟩ := q
      dsimp only at e1 e2
      subst e1
      rw [← Nat.eq_of_beq_eq_true e2]
      exact ab_fd_ok hq (ab_by_of (ab_drop (k := 0) h rfl)) (fun _ => ab_by_of (ab_drop (k := 1) h rfl)) (fun _ => ab_by_of (ab_drop (k := 2) h rfl))
    next => cases hs
  next b0 b1 =>
    split at hs
    next q hq =>
      simp only [Bool.and_eq_true, decide_eq_true_eq] at hs
      obtain ⟨⟨e1, e2⟩, e3⟩ := hs
      obtain ⟨i', n⟩ := q
      dsimp only at e1 e2 e3
      subst e1
      rw [← Nat.eq_of_beq_eq_true e2]
      exact ab_fd_ok hq (ab_by_of (ab_drop (k := 0) h rfl)) (fun _ => ab_by_of (ab_drop (k := 1) h rfl)) (fun z => absurd (Nat.le_of_ble_eq_true e3) (by omega))
    next => cases hs
  next b0 =>
    split at hs
    next q hq =>
      simp only [Bool.and_eq_true, decide_eq_true_eq] at hs
      obtain ⟨⟨e1, e2⟩, e3⟩ := hs
      obtain ⟨i', n⟩ := q
      dsimp only at e1 e2 e3
      subst e1
      rw [← Nat.eq_of_beq_eq_true e2]
      exact ab_fd_ok hq (ab_by_of (ab_drop (k := 0) h rfl)) (fun z => absurd (Nat.le_of_ble_eq_true e3) (by omega)) (fun z => absurd (Nat.le_of_ble_eq_true e3) (by omega))
    next => cases hs
  next => cases hs
/-- one pass over a method's bytes -/
def ab_ck (lk : Nat → ab_I → Bool) : List UInt8 → Nat → List (Nat × ab_I) → Bool
  | _, _, [] => true
  | [], _, _ :: _ => false
  | b :: bs, pc, z :: r => bif Nat.beq z.1 pc then ((ab_isw z.2.1 || ab_one (b :: bs) z.2.1) && lk z.1 z.2) && ab_ck lk bs (pc + 1) r else ab_ck lk bs (pc + 1) (z :: r)
theorem ab_ck_ok {lk : Nat → ab_I → Bool} {cc : ByteArray} : ∀ (bs : List UInt8) (pc : Nat) (T : List (Nat × ab_I)), cc.data.toList.drop pc = bs → ab_ck lk bs pc T = true → ∀ z ∈ T, (ab_isw z.2.1 = false → decode cc z.1 = .ok (z.2.1, ab_len z.2.1)) ∧ lk z.1 z.2 = true := by
  intro bs
  induction bs with
  | nil =>
    intro pc T h hc
    cases T with
    | nil => intro z hz; cases hz
    | cons z r => cases hc
  | cons b bs ih =>
    intro pc T h hc
    have hn : cc.data.toList.drop (pc + 1) = bs := by rw [← List.drop_drop, h]; rfl
    cases T with
    | nil => intro z hz; cases hz
    | cons z r =>
      simp only [ab_ck] at hc
      cases hk : Nat.beq z.1 pc with
      | true =>
        rw [hk, cond_true, Bool.and_eq_true, Bool.and_eq_true] at hc
        obtain ⟨⟨h1, h2⟩, h3⟩ := hc
        intro y hy
        rcases List.mem_cons.mp hy with rfl | hy
        · refine ⟨fun hw => ?_, h2⟩
          rw [hw, Bool.false_or] at h1
          rw [Nat.eq_of_beq_eq_true hk]
          exact ab_one_ok h h1
        · exact ih (pc + 1) r hn h3 y hy
      | false =>
        rw [hk, cond_false] at hc
        exact ih (pc + 1) (z :: r) hn hc
/-- a method's instructions in blocks: the last place of each -/
abbrev ab_T : Type := List (Nat × List (Nat × ab_I))
def ab_find (T : ab_T) (pc : Nat) : Option ab_I := match T.find? (fun b => Nat.ble pc b.1) with
  | some b => b.2.lookup pc
  | none => none
def ab_flat (T : ab_T) : List (Nat × ab_I) := T.flatMap (fun b => b.2)
theorem ab_lookup_mem2 {L : List (Nat × ab_I)} {i : Nat} {v : ab_I} (h : L.lookup i = some v) : (i, v) ∈ L := by
  induction L with
  | nil => cases h
  | cons q r ih =>
    obtain ⟨k, w⟩ := q
    simp only [List.lookup] at h
    split at h
    next e => cases h; rw [beq_iff_eq] at e; subst e; exact List.mem_cons_self
    next => exact List.mem_cons_of_mem _ (ih h)
theorem ab_find_mem {T : ab_T} {pc : Nat} {q : ab_I} (h : ab_find T pc = some q) : (pc, q) ∈ ab_flat T := by
  unfold ab_find at h
  split at h
  next b hb => exact List.mem_flatMap.mpr ⟨b, List.mem_of_find?_eq_some hb, ab_lookup_mem2 h⟩
  next => cases h
