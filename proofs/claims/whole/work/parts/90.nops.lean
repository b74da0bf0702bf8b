/-! WHOLE NUMBERS in place of words. Rf: where the program on numbers says something, the one on words says the same -/
abbrev inR (a : Int) : Prop := -2147483648 ≤ a ∧ a ≤ 2147483647
abbrev inL (a : Int) : Prop := -9223372036854775808 ≤ a ∧ a ≤ 9223372036854775807
abbrev inB (a : Int) : Prop := -128 ≤ a ∧ a ≤ 127
abbrev inZ (a : Int) : Prop := a = 0 ∨ a = 1
theorem inB.r {a : Int} (h : inB a) : inR a := ⟨by have := h.1; omega, by have := h.2; omega⟩
theorem inZ.r {a : Int} (h : inZ a) : inR a := by rcases h with h | h <;> subst h <;> decide
theorem inR.l {a : Int} (h : inR a) : inL a := ⟨by have := h.1; omega, by have := h.2; omega⟩
def ck {ρ : Type} (a : Int) (n : Option ρ) : Option ρ := if inR a then n else none
def ckL {ρ : Type} (a : Int) (n : Option ρ) : Option ρ := if inL a then n else none
def cz {ρ : Type} (a : Int) (n : Option ρ) : Option ρ := if inZ a then n else none
def ix {ρ : Type} (a L : Int) (n : Option ρ) : Option ρ := if 0 ≤ a ∧ a < L then n else none
def cd {ρ : Type} (a b : Int) (n : Option ρ) : Option ρ := if 0 ≤ a ∧ 0 < b then n else none
def sh5 {ρ : Type} (k : Int) (n : Option ρ) : Option ρ := if 0 ≤ k ∧ k < 32 then n else none
def sh6 {ρ : Type} (k : Int) (n : Option ρ) : Option ρ := if 0 ≤ k ∧ k < 64 then n else none
def st {σ ρ : Type} (s : σ) (F : σ → Option ρ) : Option ρ := F s
def Rf {α β : Type} (P : α → β → Prop) (m : Option α) (n : Option β) : Prop := ∀ b, n = some b → ∃ a, m = some a ∧ P a b
def RI (x : Int32) (a : Int) : Prop := x = Int32.ofInt a ∧ inR a
def RZ (x : Int32) (a : Int) : Prop := x = Int32.ofInt a ∧ inZ a
def RJ (x : Int64) (a : Int) : Prop := x = Int64.ofInt a ∧ inL a
def RP {α β γ δ : Type} (P : α → β → Prop) (Q : γ → δ → Prop) (a : α × γ) (b : β × δ) : Prop := P a.1 b.1 ∧ Q a.2 b.2
def RS {α β γ δ : Type} (P : α → β → Prop) (Q : γ → δ → Prop) (a : α ⊕ γ) (b : β ⊕ δ) : Prop := match a, b with
  | .inl x, .inl y => P x y
  | .inr x, .inr y => Q x y
  | _, _ => False
section NR
variable {α β α' β' ρ ρ' : Type} {P : α → β → Prop} {m : Option α} {n : Option β}
theorem rf_ok {a : α} {b : β} (h : P a b) : Rf P (some a) (some b) := fun _ e => ⟨a, rfl, (Option.some.inj e) ▸ h⟩
theorem rf_no : Rf P m none := fun _ e => by cases e
theorem rf_bind {Q : α' → β' → Prop} {F : α → Option α'} {G : β → Option β'} (h : Rf P m n) (k : ∀ a b, P a b → Rf Q (F a) (G b)) : Rf Q (m.bind F) (n.bind G) := by
  intro c e
  cases hn : n with
  | none => rw [hn] at e; cases e
  | some b =>
    obtain ⟨a, h1, h2⟩ := h b hn
    rw [hn] at e
    rw [h1]
    exact k a b h2 c e
theorem rf_mono {Q : α → β → Prop} (h : Rf P m n) (k : ∀ a b, P a b → Q a b) : Rf Q m n := fun b e => by
  obtain ⟨a, h1, h2⟩ := h b e
  exact ⟨a, h1, k a b h2⟩
theorem rf_if {p : Prop} [Decidable p] (k : p → Rf P m n) : Rf P m (if p then n else none) := by
  by_cases h : p
  · rw [if_pos h]; exact k h
  · rw [if_neg h]; exact rf_no
theorem rf_ck {a : Int} (k : inR a → Rf P m n) : Rf P m (ck a n) := rf_if k
theorem rf_ckL {a : Int} (k : inL a → Rf P m n) : Rf P m (ckL a n) := rf_if k
theorem rf_cz {a : Int} (k : inZ a → Rf P m n) : Rf P m (cz a n) := rf_if k
theorem rf_cd {a b : Int} (k : 0 ≤ a ∧ 0 < b → Rf P m n) : Rf P m (cd a b n) := rf_if k
theorem rf_sh5 {k0 : Int} (k : 0 ≤ k0 ∧ k0 < 32 → Rf P m n) : Rf P m (sh5 k0 n) := rf_if k
theorem rf_sh6 {k0 : Int} (k : 0 ≤ k0 ∧ k0 < 64 → Rf P m n) : Rf P m (sh6 k0 n) := rf_if k
end NR
/-! the numbers of words -/
theorem ti32 {a : Int} (h : inR a) : (Int32.ofInt a).toInt = a := Int32.toInt_ofInt_of_le (by have := h.1; omega) (by have := h.2; omega)
theorem ti64 {a : Int} (h : inL a) : (Int64.ofInt a).toInt = a := Int64.toInt_ofInt_of_le (by have := h.1; omega) (by have := h.2; omega)
theorem r32 (x : Int32) : inR x.toInt := ⟨by have := Int32.le_toInt x; omega, by have := Int32.toInt_lt x; omega⟩
theorem r64 (x : Int64) : inL x.toInt := ⟨by have := Int64.le_toInt x; omega, by have := Int64.toInt_lt x; omega⟩
theorem e_n (k : Nat) : (OfNat.ofNat k : Int32) = Int32.ofInt (OfNat.ofNat k : Int) := (Int32.ofInt_eq_ofNat).symm
theorem e_m (k : Nat) : (-(OfNat.ofNat k : Int32)) = Int32.ofInt (-(OfNat.ofNat k : Int)) := by rw [Int32.ofInt_neg, ← e_n]
theorem f_n (k : Nat) : (OfNat.ofNat k : Int64) = Int64.ofInt (OfNat.ofNat k : Int) := (Int64.ofInt_eq_ofNat).symm
theorem f_m (k : Nat) : (-(OfNat.ofNat k : Int64)) = Int64.ofInt (-(OfNat.ofNat k : Int)) := by rw [Int64.ofInt_neg, ← f_n]
section EQ
variable {x y : Int32} {a b : Int}
theorem e_add (hx : x = Int32.ofInt a) (hy : y = Int32.ofInt b) : x + y = Int32.ofInt (a + b) := by rw [hx, hy, Int32.ofInt_add]
theorem e_sub (hx : x = Int32.ofInt a) (hy : y = Int32.ofInt b) : x - y = Int32.ofInt (a - b) := by rw [hx, hy, Int32.ofInt_sub]
theorem e_mul (hx : x = Int32.ofInt a) (hy : y = Int32.ofInt b) : x * y = Int32.ofInt (a * b) := by rw [hx, hy, Int32.ofInt_mul]
theorem r_lt (hx : x = Int32.ofInt a) (hy : y = Int32.ofInt b) (ra : inR a) (rb : inR b) : x < y ↔ a < b := by
  rw [hx, hy, Int32.lt_iff_toInt_lt, ti32 ra, ti32 rb]
theorem r_eq (hx : x = Int32.ofInt a) (hy : y = Int32.ofInt b) (ra : inR a) (rb : inR b) : x = y ↔ a = b := by
  rw [hx, hy]
  constructor
  · intro h
    have := congrArg Int32.toInt h
    rwa [ti32 ra, ti32 rb] at this
  · intro h; rw [h]
theorem e_mx (hx : x = Int32.ofInt a) (hy : y = Int32.ofInt b) (ra : inR a) (rb : inR b) : mx x y = Int32.ofInt (max a b) := by
  unfold mx
  by_cases h : a < b
  · rw [if_pos ((r_lt hx hy ra rb).mpr h), hy, Int.max_eq_right (Int.le_of_lt h)]
  · rw [if_neg (fun z => h ((r_lt hx hy ra rb).mp z)), hx, Int.max_eq_left (Int.not_lt.mp h)]
theorem e_mn (hx : x = Int32.ofInt a) (hy : y = Int32.ofInt b) (ra : inR a) (rb : inR b) : mn x y = Int32.ofInt (min a b) := by
  unfold mn
  by_cases h : b < a
  · rw [if_pos ((r_lt hy hx rb ra).mpr h), hy, Int.min_eq_right (Int.le_of_lt h)]
  · rw [if_neg (fun z => h ((r_lt hy hx rb ra).mp z)), hx, Int.min_eq_left (Int.not_lt.mp h)]
theorem max_r (ra : inR a) (rb : inR b) : inR (max a b) := by
  by_cases h : a < b
  · rw [Int.max_eq_right (Int.le_of_lt h)]; exact rb
  · rw [Int.max_eq_left (Int.not_lt.mp h)]; exact ra
theorem min_r (ra : inR a) (rb : inR b) : inR (min a b) := by
  by_cases h : b < a
  · rw [Int.min_eq_right (Int.le_of_lt h)]; exact rb
  · rw [Int.min_eq_left (Int.not_lt.mp h)]; exact ra
theorem e_b (hx : x = Int32.ofInt a) : (Int32.toInt8 x).toInt32 = Int32.ofInt (Int.bmod a 256) := by
  rw [hx, Int32.toInt8_ofInt]
  apply Int32.toInt_inj.mp
  rw [Int8.toInt_toInt32, Int8.toInt_ofInt]
  have h1 := Int.bmod_lt (x := a) (m := 256) (by omega)
  have h2 := Int.le_bmod (x := a) (m := 256) (by omega)
  rw [ti32 ⟨by omega, by omega⟩]
theorem b_b : inB (Int.bmod a 256) := by
  have h1 := Int.bmod_lt (x := a) (m := 256) (by omega)
  have h2 := Int.le_bmod (x := a) (m := 256) (by omega)
  exact ⟨by omega, by omega⟩
theorem nb_id (h : inB a) : Int.bmod a 256 = a := Int.bmod_eq_of_le (by have := h.1; omega) (by have := h.2; omega)
theorem e_l2i {z : Int64} (hz : z = Int64.ofInt a) : Int64.toInt32 z = Int32.ofInt a := by rw [hz, Int64.toInt32_ofInt]
theorem f_i2l (hx : x = Int32.ofInt a) (ra : inR a) : Int32.toInt64 x = Int64.ofInt a := by
  apply Int64.toInt_inj.mp
  rw [Int32.toInt_toInt64, hx, ti32 ra, ti64 ra.l]
end EQ
section FQ
variable {x y : Int64} {a b : Int}
theorem f_add (hx : x = Int64.ofInt a) (hy : y = Int64.ofInt b) : x + y = Int64.ofInt (a + b) := by rw [hx, hy, Int64.ofInt_add]
theorem f_sub (hx : x = Int64.ofInt a) (hy : y = Int64.ofInt b) : x - y = Int64.ofInt (a - b) := by rw [hx, hy, Int64.ofInt_sub]
theorem f_mul (hx : x = Int64.ofInt a) (hy : y = Int64.ofInt b) : x * y = Int64.ofInt (a * b) := by rw [hx, hy, Int64.ofInt_mul]
theorem s_lt (hx : x = Int64.ofInt a) (hy : y = Int64.ofInt b) (ra : inL a) (rb : inL b) : x < y ↔ a < b := by
  rw [hx, hy, Int64.lt_iff_toInt_lt, ti64 ra, ti64 rb]
theorem s_eq (hx : x = Int64.ofInt a) (hy : y = Int64.ofInt b) (ra : inL a) (rb : inL b) : x = y ↔ a = b := by
  rw [hx, hy]
  constructor
  · intro h
    have := congrArg Int64.toInt h
    rwa [ti64 ra, ti64 rb] at this
  · intro h; rw [h]
theorem cmp_eq0 (u v : Int64) : lg_cmp u v = 0 ↔ u = v := by
  unfold lg_cmp
  simp only [gt_iff_lt, Int64.lt_iff_toInt_lt, ← Int64.toInt_inj]
  repeat' split
  all_goals (constructor <;> intro hh <;> first | omega | decide | exact absurd hh (by decide))
end FQ
/-! bits -/
theorem e_and1 {x : Int32} {a : Int} (hx : x = Int32.ofInt a) : x &&& 1 = Int32.ofInt (a % 2) := by
  rw [hx]
  apply Int32.toBitVec_inj.mp
  show BitVec.ofInt 32 a &&& 1#32 = BitVec.ofInt 32 (a % 2)
  apply BitVec.eq_of_toNat_eq
  rw [BitVec.toNat_and, show (1#32).toNat = 2 ^ 1 - 1 from rfl, Nat.and_two_pow_sub_one_eq_mod, BitVec.toNat_ofInt, BitVec.toNat_ofInt]
  omega
theorem f_and1 {x : Int64} {a : Int} (hx : x = Int64.ofInt a) : x &&& 1 = Int64.ofInt (a % 2) := by
  rw [hx]
  apply Int64.toBitVec_inj.mp
  show BitVec.ofInt 64 a &&& 1#64 = BitVec.ofInt 64 (a % 2)
  apply BitVec.eq_of_toNat_eq
  rw [BitVec.toNat_and, show (1#64).toNat = 2 ^ 1 - 1 from rfl, Nat.and_two_pow_sub_one_eq_mod, BitVec.toNat_ofInt, BitVec.toNat_ofInt]
  omega
theorem e_and31 {x : Int32} {a : Int} (hx : x = Int32.ofInt a) : x &&& 31 = Int32.ofInt (a % 32) := by
  rw [hx]
  apply Int32.toBitVec_inj.mp
  show BitVec.ofInt 32 a &&& 31#32 = BitVec.ofInt 32 (a % 32)
  apply BitVec.eq_of_toNat_eq
  rw [BitVec.toNat_and, show (31#32).toNat = 2 ^ 5 - 1 from rfl, Nat.and_two_pow_sub_one_eq_mod, BitVec.toNat_ofInt, BitVec.toNat_ofInt]
  omega
theorem f_and31 {x : Int64} {a : Int} (hx : x = Int64.ofInt a) : x &&& 31 = Int64.ofInt (a % 32) := by
  rw [hx]
  apply Int64.toBitVec_inj.mp
  show BitVec.ofInt 64 a &&& 31#64 = BitVec.ofInt 64 (a % 32)
  apply BitVec.eq_of_toNat_eq
  rw [BitVec.toNat_and, show (31#64).toNat = 2 ^ 5 - 1 from rfl, Nat.and_two_pow_sub_one_eq_mod, BitVec.toNat_ofInt, BitVec.toNat_ofInt]
  omega
theorem e_and127 {x : Int32} {a : Int} (hx : x = Int32.ofInt a) : x &&& 127 = Int32.ofInt (a % 128) := by
  rw [hx]
  apply Int32.toBitVec_inj.mp
  show BitVec.ofInt 32 a &&& 127#32 = BitVec.ofInt 32 (a % 128)
  apply BitVec.eq_of_toNat_eq
  rw [BitVec.toNat_and, show (127#32).toNat = 2 ^ 7 - 1 from rfl, Nat.and_two_pow_sub_one_eq_mod, BitVec.toNat_ofInt, BitVec.toNat_ofInt]
  omega
theorem f_and127 {x : Int64} {a : Int} (hx : x = Int64.ofInt a) : x &&& 127 = Int64.ofInt (a % 128) := by
  rw [hx]
  apply Int64.toBitVec_inj.mp
  show BitVec.ofInt 64 a &&& 127#64 = BitVec.ofInt 64 (a % 128)
  apply BitVec.eq_of_toNat_eq
  rw [BitVec.toNat_and, show (127#64).toNat = 2 ^ 7 - 1 from rfl, Nat.and_two_pow_sub_one_eq_mod, BitVec.toNat_ofInt, BitVec.toNat_ofInt]
  omega
theorem e_and255 {x : Int32} {a : Int} (hx : x = Int32.ofInt a) : x &&& 255 = Int32.ofInt (a % 256) := by
  rw [hx]
  apply Int32.toBitVec_inj.mp
  show BitVec.ofInt 32 a &&& 255#32 = BitVec.ofInt 32 (a % 256)
  apply BitVec.eq_of_toNat_eq
  rw [BitVec.toNat_and, show (255#32).toNat = 2 ^ 8 - 1 from rfl, Nat.and_two_pow_sub_one_eq_mod, BitVec.toNat_ofInt, BitVec.toNat_ofInt]
  omega
theorem f_and255 {x : Int64} {a : Int} (hx : x = Int64.ofInt a) : x &&& 255 = Int64.ofInt (a % 256) := by
  rw [hx]
  apply Int64.toBitVec_inj.mp
  show BitVec.ofInt 64 a &&& 255#64 = BitVec.ofInt 64 (a % 256)
  apply BitVec.eq_of_toNat_eq
  rw [BitVec.toNat_and, show (255#64).toNat = 2 ^ 8 - 1 from rfl, Nat.and_two_pow_sub_one_eq_mod, BitVec.toNat_ofInt, BitVec.toNat_ofInt]
  omega
theorem sh_k5 : ∀ n : Nat, n < 32 → (Int32.ofInt (n : Int) &&& 31).toBitVec.smod 32 = BitVec.ofNat 32 n := by decide +kernel
theorem sh_k6 : ∀ n : Nat, n < 64 → ((Int32.ofInt (n : Int)).toInt64 &&& 63).toBitVec.smod 64 = BitVec.ofNat 64 n := by decide +kernel
theorem e_shr {x y : Int32} {a k : Int} (hx : x = Int32.ofInt a) (ra : inR a) (hy : y = Int32.ofInt k) (hk : 0 ≤ k ∧ k < 32) : x >>> (y &&& 31) = Int32.ofInt (a / 2 ^ k.toNat) := by
  obtain ⟨n, rfl⟩ : ∃ n : Nat, k = n := ⟨k.toNat, by omega⟩
  subst hx hy
  have hn : n < 32 := by omega
  apply Int32.toInt_inj.mp
  have h1 : (Int32.ofInt a >>> (Int32.ofInt (n : Int) &&& 31)).toBitVec = (Int32.ofInt a).toBitVec.sshiftRight' ((Int32.ofInt (n : Int) &&& 31).toBitVec.smod 32) := rfl
  have h2 : (Int32.ofInt a >>> (Int32.ofInt (n : Int) &&& 31)).toInt = a / 2 ^ n := by
    show (Int32.ofInt a >>> (Int32.ofInt (n : Int) &&& 31)).toBitVec.toInt = _
    rw [h1, sh_k5 n hn, BitVec.sshiftRight_eq', BitVec.toInt_sshiftRight, show (BitVec.ofNat 32 n).toNat = n from by rw [BitVec.toNat_ofNat]; exact Nat.mod_eq_of_lt (by omega), Int.shiftRight_eq_div_pow]
    show (Int32.ofInt a).toInt / _ = _
    rw [ti32 ra]
    rfl
  rw [h2, Int.toNat_natCast]
  have hp : (0 : Int) < 2 ^ n := Int.pow_pos (by omega)
  have h3 : a / 2 ^ n ≤ 2147483647 := by
    rcases Int.le_total 0 a with h | h
    · exact Int.le_trans (Int.ediv_le_self _ h) ra.2
    · have := Int.ediv_le_ediv hp h
      rw [Int.zero_ediv] at this
      omega
  have h4 : -2147483648 ≤ a / 2 ^ n := by
    rw [Int.le_ediv_iff_mul_le hp]
    have h5 : (1 : Int) ≤ 2 ^ n := by omega
    have h6 : (-2147483648 : Int) * 2 ^ n ≤ -2147483648 * 1 := Int.mul_le_mul_of_nonpos_left (by omega) h5
    have := ra.1
    omega
  rw [ti32 ⟨h4, h3⟩]
theorem f_shr {x : Int64} {y : Int32} {a k : Int} (hx : x = Int64.ofInt a) (ra : inL a) (hy : y = Int32.ofInt k) (hk : 0 ≤ k ∧ k < 64) : x >>> (y.toInt64 &&& 63) = Int64.ofInt (a / 2 ^ k.toNat) := by
  obtain ⟨n, rfl⟩ : ∃ n : Nat, k = n := ⟨k.toNat, by omega⟩
  subst hx hy
  have hn : n < 64 := by omega
  apply Int64.toInt_inj.mp
  have h1 : (Int64.ofInt a >>> ((Int32.ofInt (n : Int)).toInt64 &&& 63)).toBitVec = (Int64.ofInt a).toBitVec.sshiftRight' (((Int32.ofInt (n : Int)).toInt64 &&& 63).toBitVec.smod 64) := rfl
  have h2 : (Int64.ofInt a >>> ((Int32.ofInt (n : Int)).toInt64 &&& 63)).toInt = a / 2 ^ n := by
    show (Int64.ofInt a >>> ((Int32.ofInt (n : Int)).toInt64 &&& 63)).toBitVec.toInt = _
    rw [h1, sh_k6 n hn, BitVec.sshiftRight_eq', BitVec.toInt_sshiftRight, show (BitVec.ofNat 64 n).toNat = n from by rw [BitVec.toNat_ofNat]; exact Nat.mod_eq_of_lt (by omega), Int.shiftRight_eq_div_pow]
    show (Int64.ofInt a).toInt / _ = _
    rw [ti64 ra]
    rfl
  rw [h2, Int.toNat_natCast]
  have hp : (0 : Int) < 2 ^ n := Int.pow_pos (by omega)
  have h3 : a / 2 ^ n ≤ 9223372036854775807 := by
    rcases Int.le_total 0 a with h | h
    · exact Int.le_trans (Int.ediv_le_self _ h) ra.2
    · have := Int.ediv_le_ediv hp h
      rw [Int.zero_ediv] at this
      omega
  have h4 : -9223372036854775808 ≤ a / 2 ^ n := by
    rw [Int.le_ediv_iff_mul_le hp]
    have h5 : (1 : Int) ≤ 2 ^ n := by omega
    have h6 : (-9223372036854775808 : Int) * 2 ^ n ≤ -9223372036854775808 * 1 := Int.mul_le_mul_of_nonpos_left (by omega) h5
    have := ra.1
    omega
  rw [ti64 ⟨h4, h3⟩]
theorem e_div {x y : Int32} {a b : Int} (hx : x = Int32.ofInt a) (hy : y = Int32.ofInt b) (ra : inR a) (rb : inR b) (h : 0 ≤ a ∧ 0 < b) : dv x y = some (Int32.ofInt (a / b)) := by
  unfold dv
  have hb : y ≠ 0 := fun z => by
    have : b = 0 := (r_eq hy (e_n 0) rb (by decide)).mp z
    omega
  rw [if_neg hb]
  congr 1
  apply Int32.toInt_inj.mp
  have h1 : a / b ≤ a := Int.ediv_le_self _ h.1
  have h0 : 0 ≤ a / b := Int.ediv_nonneg h.1 (by omega)
  have r1 : inR (a / b) := ⟨by omega, by have := ra.2; omega⟩
  rw [Int32.toInt_div, hx, hy, ti32 ra, ti32 rb, ti32 r1, Int.tdiv_eq_ediv_of_nonneg h.1]
  exact Int.bmod_eq_of_le (by have := r1.1; omega) (by have := r1.2; omega)
theorem e_rem {x y : Int32} {a b : Int} (hx : x = Int32.ofInt a) (hy : y = Int32.ofInt b) (ra : inR a) (rb : inR b) (h : 0 ≤ a ∧ 0 < b) : rm x y = some (Int32.ofInt (a % b)) := by
  have h1 := e_div hx hy ra rb h
  unfold dv at h1
  unfold rm
  by_cases hb : y = 0
  · rw [if_pos hb] at h1; cases h1
  · rw [if_neg hb] at h1 ⊢
    rw [Option.some.inj h1, hx, hy, ← Int32.ofInt_mul, ← Int32.ofInt_sub, Int.emod_def, Int.mul_comm b]
theorem div_r {a b : Int} (ra : inR a) (h : 0 ≤ a ∧ 0 < b) : inR (a / b) := by
  have h1 : a / b ≤ a := Int.ediv_le_self _ h.1
  have h0 : 0 ≤ a / b := Int.ediv_nonneg h.1 (by omega)
  exact ⟨by omega, by have := ra.2; omega⟩
theorem rem_r {a b : Int} (rb : inR b) (h : 0 ≤ a ∧ 0 < b) : inR (a % b) := by
  have h1 := Int.emod_nonneg a (show b ≠ 0 by omega)
  have h2 := Int.emod_lt_of_pos a h.2
  exact ⟨by omega, by have := rb.2; omega⟩
/-! rules -/
section NR2
variable {α β ρ : Type} {P : α → β → Prop} {A B : Option α} {A' B' : Option β}
theorem rf_lt {x y : Int32} {a b : Int} (hx : x = Int32.ofInt a) (hy : y = Int32.ofInt b) (ra : inR a) (rb : inR b) (hA : Rf P A A') (hB : Rf P B B') : Rf P (if x < y then A else B) (if a < b then A' else B') := by
  by_cases h : a < b
  · rw [if_pos h, if_pos ((r_lt hx hy ra rb).mpr h)]; exact hA
  · rw [if_neg h, if_neg (fun z => h ((r_lt hx hy ra rb).mp z))]; exact hB
theorem rf_eq {x y : Int32} {a b : Int} (hx : x = Int32.ofInt a) (hy : y = Int32.ofInt b) (ra : inR a) (rb : inR b) (hA : Rf P A A') (hB : Rf P B B') : Rf P (if x = y then A else B) (if a = b then A' else B') := by
  by_cases h : a = b
  · rw [if_pos h, if_pos ((r_eq hx hy ra rb).mpr h)]; exact hA
  · rw [if_neg h, if_neg (fun z => h ((r_eq hx hy ra rb).mp z))]; exact hB
theorem rf_llt {x y : Int64} {a b : Int} (hx : x = Int64.ofInt a) (hy : y = Int64.ofInt b) (ra : inL a) (rb : inL b) (hA : Rf P A A') (hB : Rf P B B') : Rf P (if lg_cmp x y < 0 then A else B) (if a < b then A' else B') := by
  by_cases h : a < b
  · rw [if_pos h, if_pos ((lg_cmp_lt x y).mpr ((s_lt hx hy ra rb).mpr h))]; exact hA
  · rw [if_neg h, if_neg (fun z => h ((s_lt hx hy ra rb).mp ((lg_cmp_lt x y).mp z)))]; exact hB
theorem rf_lgt {x y : Int64} {a b : Int} (hx : x = Int64.ofInt a) (hy : y = Int64.ofInt b) (ra : inL a) (rb : inL b) (hA : Rf P A A') (hB : Rf P B B') : Rf P (if 0 < lg_cmp x y then A else B) (if b < a then A' else B') := by
  by_cases h : b < a
  · rw [if_pos h, if_pos ((lg_cmp_gt x y).mpr ((s_lt hy hx rb ra).mpr h))]; exact hA
  · rw [if_neg h, if_neg (fun z => h ((s_lt hy hx rb ra).mp ((lg_cmp_gt x y).mp z)))]; exact hB
theorem rf_leq {x y : Int64} {a b : Int} (hx : x = Int64.ofInt a) (hy : y = Int64.ofInt b) (ra : inL a) (rb : inL b) (hA : Rf P A A') (hB : Rf P B B') : Rf P (if lg_cmp x y = 0 then A else B) (if a = b then A' else B') := by
  by_cases h : a = b
  · rw [if_pos h, if_pos ((cmp_eq0 x y).mpr ((s_eq hx hy ra rb).mpr h))]; exact hA
  · rw [if_neg h, if_neg (fun z => h ((s_eq hx hy ra rb).mp ((cmp_eq0 x y).mp z)))]; exact hB
theorem rf_dv {x y : Int32} {a b : Int} {F : Int32 → Option α} (hx : x = Int32.ofInt a) (hy : y = Int32.ofInt b) (ra : inR a) (rb : inR b) (k : inR (a / b) → Rf P (F (Int32.ofInt (a / b))) A') : Rf P ((dv x y).bind F) (cd a b A') :=
  rf_cd (fun h => by rw [e_div hx hy ra rb h]; exact k (div_r ra h))
theorem rf_rm {x y : Int32} {a b : Int} {F : Int32 → Option α} (hx : x = Int32.ofInt a) (hy : y = Int32.ofInt b) (ra : inR a) (rb : inR b) (k : inR (a % b) → Rf P (F (Int32.ofInt (a % b))) A') : Rf P ((rm x y).bind F) (cd a b A') :=
  rf_cd (fun h => by rw [e_rem hx hy ra rb h]; exact k (rem_r rb h))
theorem rf_tz {x : Int32} {a : Int} {F : Int32 → Option α} (hx : x = Int32.ofInt a) (hz : inZ a) (k : Rf P (F (Int32.ofInt a)) A') : Rf P ((tz x).bind F) A' := by
  have : tz x = some (Int32.ofInt a) := by
    unfold tz
    rw [hx]
    rcases hz with rfl | rfl
    · rfl
    · rfl
  rw [this]; exact k
theorem rf_c1 {m : Option Int32} {n : Option Int} {F : Int32 → Option α} {G : Int → Option β} (h : Rf RI m n) (k : ∀ r, inR r → Rf P (F (Int32.ofInt r)) (G r)) : Rf P (m.bind F) (n.bind G) :=
  rf_bind h (fun _ b hr => by rw [hr.1]; exact k b hr.2)
theorem rf_z1 {m : Option Int32} {n : Option Int} {F : Int32 → Option α} {G : Int → Option β} (h : Rf RZ m n) (k : ∀ r, inZ r → Rf P (F (Int32.ofInt r)) (G r)) : Rf P (m.bind F) (n.bind G) :=
  rf_bind h (fun _ b hr => by rw [hr.1]; exact k b hr.2)
theorem rf_j1 {m : Option Int64} {n : Option Int} {F : Int64 → Option α} {G : Int → Option β} (h : Rf RJ m n) (k : ∀ r, inL r → Rf P (F (Int64.ofInt r)) (G r)) : Rf P (m.bind F) (n.bind G) :=
  rf_bind h (fun _ b hr => by rw [hr.1]; exact k b hr.2)
theorem rf_it {σ σ' ρ ρ' : Type} {I : σ → σ' → Prop} {E : ρ → ρ' → Prop} {f : σ → Option (σ ⊕ ρ)} {f' : σ' → Option (σ' ⊕ ρ')} (hb : ∀ s s', I s s' → Rf (RS I E) (f s) (f' s')) {s : σ} {s' : σ'} (h : I s s') : Rf E (it f s) (it f' s') := by
  intro r' e
  obtain ⟨n, hn⟩ := it_some.mp e
  clear e
  induction n generalizing s s' with
  | zero => cases hn
  | succ n ih =>
    unfold itN at hn
    rw [it_eq]
    split at hn
    next s1' hs' =>
      obtain ⟨o, h1, h2⟩ := hb s s' h _ hs'
      rw [h1]
      cases o with
      | inl s1 => exact ih h2 hn
      | inr r => exact absurd h2 (by intro z; exact z)
    next r1' hs' =>
      obtain ⟨o, h1, h2⟩ := hb s s' h _ hs'
      rw [h1]
      cases o with
      | inl s1 => exact absurd h2 (by intro z; exact z)
      | inr r => cases hn; exact ⟨r, rfl, h2⟩
    next hs' => cases hn
end NR2
