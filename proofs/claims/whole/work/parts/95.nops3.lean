/-! RULES: new cells, copies, calls, bits, the reference -/
section NV
variable {w y : Prop} {g : g_S} {n : NS} {m : YS} {q k c K t : Nat} {i s a b u : Int} {α β : Type} {P : α → β → Prop} {G : Option β} {H : NS → Option β}
def al1 {ρ : Type} (n : NS) (x : Option ρ) : Option ρ := if 1953 ≤ n 90 0 0 ∧ n 90 0 0 < 1000000 then x else none
def al2 {ρ : Type} (n : NS) (l : Int) (x : Option ρ) : Option ρ := if (1953 ≤ n 90 0 0 ∧ n 90 0 0 < 1000000) ∧ 0 ≤ l ∧ l ≤ 67108864 then x else none
theorem n_O (hR : RC w y g n m) (hc : 99 < c) {z : Int} (hz : z = ab_cN (c - 100)) {F : Nat → g_S → Option α} (kk : (0 ≤ n 90 0 0 ∧ lc (n 90 0 0).toNat = (99, n 90 0 0)) → ∀ g' n', RC w y g' n' m → n' 92 0 (n 90 0 0) = c → Rf P (F (n 90 0 0).toNat g') (H n')) : Rf P (c2 (nO g c) F) (al1 n (st (nnew n c 0 z) H)) := by
  refine rf_if (fun h => ?_)
  have h1 := hR.new (t := c) (l := 0) h.1 (by omega) (z := z) (by rw [hz]; unfold cz1; rw [if_neg (by omega)])
  unfold c2 nO st
  rw [if_pos (by have := hR.1.1; omega)]
  show Rf P (F (gn g) (gnew g c 0)) _
  rw [← h1.2.2]
  refine kk ⟨by omega, by rw [h1.2.2]; exact h1.2.1.2.1⟩ _ _ h1.1 ?_
  have := (h1.1.2.2.1 (gn g)).1 h1.2.1.2.2
  rw [← h1.2.2, Int.toNat_of_nonneg (by omega), h1.2.2, h1.2.1.1] at this
  exact this.1
theorem n_A (hR : RC w y g n m) (ht : t ≤ 8) {x : Int32} (ex : x = Int32.ofInt a) (ra : inR a) {F : Nat → g_S → Option α} (kk : (0 ≤ n 90 0 0 ∧ lc (n 90 0 0).toNat = (99, n 90 0 0)) → ∀ g' n', RC w y g' n' m → n' 92 0 (n 90 0 0) = t → Rf P (F (n 90 0 0).toNat g') (H n')) : Rf P (c2 (nA g t x) F) (al2 n a (st (nnew n t a a) H)) := by
  refine rf_if (fun h => ?_)
  have h1 := hR.new (t := t) (l := a.toNat) h.1.1 (by omega) (z := a) (by unfold cz1; rw [if_pos (by omega)]; omega)
  rw [show ((a.toNat : Nat) : Int) = a from Int.toNat_of_nonneg h.2.1] at h1
  unfold c2 nA st
  rw [ex, tnc ra, if_pos ⟨fun z => by have := (lt0 ra).mp z; omega, by omega, by have := hR.1.1; omega⟩]
  show Rf P (F (gn g) (gnew g t a.toNat)) _
  rw [← h1.2.2]
  refine kk ⟨by omega, by rw [h1.2.2]; exact h1.2.1.2.1⟩ _ _ h1.1 ?_
  have := (h1.1.2.2.1 (gn g)).1 h1.2.1.2.2
  rw [← h1.2.2, Int.toNat_of_nonneg (by omega), h1.2.2, h1.2.1.1] at this
  exact this.1
def cpg {ρ : Type} (n : NS) (t u0 sp u1 dp c : Int) (x : Option ρ) : Option ρ := if n 92 0 u0 = t ∧ n 92 0 u1 = t ∧ (0 ≤ sp ∧ 0 ≤ dp ∧ 0 ≤ c) ∧ sp + c ≤ n 93 0 u0 ∧ dp + c ≤ n 93 0 u1 then x else none
theorem n_cp (hR : RC w y g n m) (ht : t ≤ 1) {u0 u1 sp dp cc : Int} (h0 : 0 ≤ u0 ∧ lc u0.toNat = (99, u0)) (h1 : 0 ≤ u1 ∧ lc u1.toNat = (99, u1)) {x0 x1 x2 : Int32} (e0 : x0 = Int32.ofInt sp) (r0 : inR sp) (e1 : x1 = Int32.ofInt dp) (r1 : inR dp) (e2 : x2 = Int32.ofInt cc) (r2 : inR cc) {F : g_S → Option α} (kk : ∀ g' n', RC w y g' n' m → Rf P (F g') (H n')) : Rf P ((cp g t u0.toNat x0 u1.toNat x1 x2).bind F) (cpg n t u0 sp u1 dp cc (st (nwA n 99 u1 (cpf (n 99 u0) (n 99 u1) sp dp cc)) H)) := by
  refine rf_if (fun h => ?_)
  have hC0 := ce_dy hR h0 (t := t) h.1 (by omega)
  have hC1 := ce_dy hR h1 (t := t) h.2.1 (by omega)
  have l0 := hR.ln h0.1 hC0.2.2
  have l1 := hR.ln h1.1 hC1.2.2
  obtain ⟨S, rfl⟩ : ∃ j : Nat, sp = j := ⟨sp.toNat, by omega⟩
  obtain ⟨D, rfl⟩ : ∃ j : Nat, dp = j := ⟨dp.toNat, by omega⟩
  obtain ⟨C, rfl⟩ : ∃ j : Nat, cc = j := ⟨cc.toNat, by omega⟩
  unfold cp st
  rw [e0, e1, e2, tnc r0, tnc r1, tnc r2, Int.toNat_natCast, Int.toNat_natCast, Int.toNat_natCast, if_pos ⟨hC0.1, hC1.1, ⟨fun z => by have := (lt0 r0).mp z; omega, fun z => by have := (lt0 r1).mp z; omega, fun z => by have := (lt0 r2).mp z; omega⟩, by omega, by omega⟩]
  have v0 : ∀ j : Nat, n 99 u0 j = (gi g u0.toNat j).toInt := fun j => by
    have := hR.val hC0 (k := j) rfl
    rw [vl_i (by rw [hC0.1]; exact sk_ar (by omega) _)] at this
    exact this
  have v1 : ∀ j : Nat, n 99 u1 j = (gi g u1.toNat j).toInt := fun j => by
    have := hR.val hC1 (k := j) rfl
    rw [vl_i (by rw [hC1.1]; exact sk_ar (by omega) _)] at this
    exact this
  refine kk _ _ (hR.wA hC1 ht (fun j => ?_) (fun z j => ?_))
  · unfold cpf va_cpy
    by_cases hj : D ≤ j ∧ j < D + C
    · rw [if_pos hj, if_pos (by omega), show (S : Int) + ((j : Int) - (D : Int)) = ((S + (j - D) : Nat) : Int) by omega, v0]
    · rw [if_neg hj, if_neg (by omega), v1]
  · unfold va_cpy
    split
    · exact hR.2.2.2.1.1 _ _ (by rw [hC0.1]; exact z)
    · exact hR.2.2.2.1.1 _ _ (by rw [hC1.1]; exact z)
/-- calls -/
theorem v_c {M : Option α} {F : α → Option β} {γ : Type} {Q : β → γ → Prop} {N : Option γ} (hT : gt g q = c) (h : Rf Q (M.bind F) N) : Rf Q ((vc g c q M).bind F) N := by
  unfold vc; rw [if_pos hT]; exact h
theorem v_c2 {M : Option (α × g_S)} {F : α → g_S → Option β} {γ : Type} {Q : β → γ → Prop} {N : Option γ} (hT : gt g q = c) (h : Rf Q (c2 M F) N) : Rf Q (c2 (vc g c q M) F) N := by
  unfold vc; rw [if_pos hT]; exact h
theorem rf_c2 {α' : Type} {M : Option (α' × g_S)} {N : Option β} {γ δ : Type} {Q : γ → δ → Prop} {F : α' → g_S → Option γ} {G : β → Option δ} {P : (α' × g_S) → β → Prop} (h : Rf P M N) (k : ∀ x g' b, P (x, g') b → Rf Q (F x g') (G b)) : Rf Q (c2 M F) (N.bind G) := by
  intro d e
  cases hn : N with
  | none => rw [hn] at e; cases e
  | some b =>
    obtain ⟨⟨x, g'⟩, h1, h2⟩ := h b hn
    rw [hn] at e
    rw [h1]
    exact k x g' b h2 d e
theorem rf_ty (hd : 0 ≤ u) {F : Option α} (hR : RC w y g n m) (h98 : t ≠ 98) (kk : gt g u.toNat = t → n 92 0 u = t → Rf P F G) : Rf P F (ty n u t G) := rf_if (fun h => kk (hR.typ hd h h98).1 h)
theorem rf_nn {F : Option α} (kk : 0 ≤ u → Rf P F G) : Rf P F (nn u G) := rf_if kk
theorem rf_ro {A : Nat → Option α} {B : Option α} {A' B' : Option β} (hA : 0 ≤ u → Rf P (A u.toNat) A') (hB : u < 0 → Rf P B B') : Rf P (oc (ro u) A B) (if u < 0 then B' else A') := by
  unfold ro
  by_cases h : u < 0
  · rw [if_pos h, if_pos h]; exact hB h
  · rw [if_neg h, if_neg h]; exact hA (by omega)
theorem rf_oy {A : Nat → Option α} {B : Option α} {A' B' : Option β} (hA : 0 ≤ u → Rf P (A (aBy u)) A') (hB : u < 0 → Rf P B B') : Rf P (oc (oBy u) A B) (if u < 0 then B' else A') := by
  unfold oBy
  by_cases h : u < 0
  · rw [if_pos h, if_pos h]; exact hB h
  · rw [if_neg h, if_neg h]; exact hA (by omega)
theorem rf_ox {A : Nat → Option α} {B : Option α} {A' B' : Option β} (hA : 0 ≤ u → Rf P (A (aBx u)) A') (hB : u < 0 → Rf P B B') : Rf P (oc (oBx u) A B) (if u < 0 then B' else A') := by
  unfold oBx
  by_cases h : u < 0
  · rw [if_pos h, if_pos h]; exact hB h
  · rw [if_neg h, if_neg h]; exact hA (by omega)
theorem ro_s (h : 0 ≤ u) : some u.toNat = ro u := by unfold ro; rw [if_neg (by omega)]
theorem oy_s (h : 0 ≤ u) : some (aBy u) = oBy u := by unfold oBy; rw [if_neg (by omega)]
theorem ox_s (h : 0 ≤ u) : some (aBx u) = oBx u := by unfold oBx; rw [if_neg (by omega)]
theorem ro_n : none = ro (-1) := rfl
theorem oy_n : none = oBy (-1) := rfl
theorem ox_n : none = oBx (-1) := rfl
end NV
/-! bits -/
theorem f_shl8 {x : Int64} {a : Int} (hx : x = Int64.ofInt a) : x <<< ((8 : Int32).toInt64 &&& 63) = Int64.ofInt (a * 256) := by
  have h1 : ((8 : Int32).toInt64 &&& 63) = 8 := by decide
  rw [h1, hx]
  apply Int64.toBitVec_inj.mp
  have h2 : (Int64.ofInt a <<< (8 : Int64)).toBitVec = (Int64.ofInt a).toBitVec <<< ((8 : Int64).toBitVec.smod 64) := rfl
  rw [h2, show ((8 : Int64).toBitVec.smod 64) = 8#64 from by decide]
  apply BitVec.eq_of_toInt_eq
  show ((BitVec.ofInt 64 a) <<< 8#64).toInt = (BitVec.ofInt 64 (a * 256)).toInt
  rw [BitVec.shiftLeft_eq', show (8#64).toNat = 8 from rfl, BitVec.toInt_shiftLeft, BitVec.toNat_ofInt, BitVec.toInt_ofInt]
  rw [Nat.shiftLeft_eq]
  show Int.bmod (((a % (2 ^ 64 : Nat)).toNat * 2 ^ 8 : Nat) : Int) (2 ^ 64) = Int.bmod (a * 256) (2 ^ 64)
  rw [← Int.emod_bmod (x := (((a % (2 ^ 64 : Nat)).toNat * 2 ^ 8 : Nat) : Int)), ← Int.emod_bmod (x := a * 256)]
  congr 1
  omega
theorem or8_nat (x y : Nat) (hx : x % 256 = 0) (hy : y < 256) : x ||| y = x + y := by
  have h : x = 2 ^ 8 * (x / 256) := by omega
  rw [h, ← Nat.two_pow_add_eq_or_of_lt (by omega)]
theorem f_or8 {x z : Int64} {a b : Int} (hx : x = Int64.ofInt a) (hz : z = Int64.ofInt b) (h : a % 256 = 0 ∧ 0 ≤ b ∧ b < 256) : x ||| z = Int64.ofInt (a + b) := by
  rw [hx, hz]
  apply Int64.toBitVec_inj.mp
  show BitVec.ofInt 64 a ||| BitVec.ofInt 64 b = BitVec.ofInt 64 (a + b)
  apply BitVec.eq_of_toNat_eq
  rw [BitVec.toNat_or, BitVec.toNat_ofInt, BitVec.toNat_ofInt, BitVec.toNat_ofInt, or8_nat _ _ (by omega) (by omega)]
  omega
theorem rf_or8 {α β : Type} {P : α → β → Prop} {a b : Int} {F : Option α} {G : Option β} (kk : (a % 256 = 0 ∧ 0 ≤ b ∧ b < 256) → Rf P F G) : Rf P F (or8 a b G) := rf_if kk
theorem rf_cb {α β : Type} {P : α → β → Prop} {a : Int} {F : Option α} {G : Option β} (kk : inB a → Rf P F G) : Rf P F (cb a G) := rf_if kk
theorem m31 {a : Int} : inR (a % 32) := ⟨by omega, by omega⟩
theorem m255 {a : Int} : inR (a % 256) := ⟨by omega, by omega⟩
theorem m1 {a : Int} : inR (a % 2) := ⟨by omega, by omega⟩
theorem n31 {a : Int} : inL (a % 32) := ⟨by omega, by omega⟩
theorem n127 {a : Int} : inL (a % 128) := ⟨by omega, by omega⟩
/-! strings and constant rows -/
def sN (a : Nat) : Option Int := (ab_sbt a).map (fun bs => (bs.length : Int))
def sC (a : Nat) (i : Int) : Option Int := (ab_sbt a).bind (fun bs => if 0 ≤ i ∧ i < bs.length then some (bs.getD i.toNat 0 &&& 255).toInt else none)
def sS (a : Nat) (i : Int) : Option Int := if 0 ≤ i ∧ i < 9 then (if a = 2000001 then some (ab_sv0.getD i.toNat 0).toInt else if a = 2000002 then some (ab_sv1.getD i.toNat 0).toInt else none) else none
theorem sbl_len : ∀ bs ∈ ab_sbl, bs.length ≤ 200 := by decide +kernel
section NW
variable {w y : Prop} {g : g_S} {n : NS} {m : YS} {q : Nat} {i : Int} {α β : Type} {P : α → β → Prop} {G : Int → Option β}
theorem t_N {F : Int32 → Option α} (kk : ∀ r, inR r → Rf P (F (Int32.ofInt r)) (G r)) : Rf P ((tN q).bind F) ((sN q).bind G) := by
  unfold tN sN
  cases h : ab_sbt q with
  | none => exact rf_no
  | some bs =>
    have hl : bs.length ≤ 200 := by
      unfold ab_sbt at h
      split at h
      · exact sbl_len bs (List.mem_of_getElem? h)
      · cases h
    show Rf P (F (nI bs.length)) (G (bs.length : Int))
    rw [show nI bs.length = Int32.ofInt (bs.length : Int) from (Int32.ofInt_eq_ofNat).symm]
    exact kk _ ⟨by omega, by omega⟩
theorem t_C {F : Int32 → Option α} {x : Int32} (ex : x = Int32.ofInt i) (ri : inR i) (kk : ∀ r, inR r → 0 ≤ r → r < 256 → Rf P (F (Int32.ofInt r)) (G r)) : Rf P ((tC q x).bind F) ((sC q i).bind G) := by
  unfold tC sC
  cases h : ab_sbt q with
  | none => exact rf_no
  | some bs =>
    show Rf P (Option.bind (if ab_inb x bs.length = true then _ else none) F) (Option.bind (if 0 ≤ i ∧ i < (bs.length : Int) then _ else none) G)
    by_cases hi : 0 ≤ i ∧ i < (bs.length : Int)
    · rw [if_pos hi, ex, if_pos (inb_ok ri hi), tnc ri]
      have hm : (bs.getD i.toNat 0 &&& 255).toInt = (bs.getD i.toNat 0).toInt % 256 := by
        rw [e_and255 (oi32 (bs.getD i.toNat 0)).symm, ti32 m255]
      have := kk _ (r32 (bs.getD i.toNat 0 &&& 255)) (by rw [hm]; omega) (by rw [hm]; omega)
      rw [oi32] at this
      exact this
    · rw [if_neg hi]; exact rf_no
theorem t_S (hR : RC w y g n m) (hg : gn g ≤ 1000000) {F : Int32 → Option α} {x : Int32} (ex : x = Int32.ofInt i) (ri : inR i) (kk : ∀ r, inR r → Rf P (F (Int32.ofInt r)) (G r)) : Rf P ((tS g q x).bind F) ((sS q i).bind G) := by
  unfold tS sS
  by_cases hi : 0 ≤ i ∧ i < 9
  · rw [if_pos hi, ex, if_pos ⟨hg, inb_ok ri hi⟩, tnc ri]
    by_cases h1 : q = 2000001
    · rw [if_pos h1, if_pos h1]
      have := kk _ (r32 (ab_sv0.getD i.toNat 0))
      rw [oi32] at this
      exact this
    · rw [if_neg h1, if_neg h1]
      by_cases h2 : q = 2000002
      · rw [if_pos h2, if_pos h2]
        have := kk _ (r32 (ab_sv1.getD i.toNat 0))
        rw [oi32] at this
        exact this
      · rw [if_neg h2, if_neg h2]; exact rf_no
  · rw [if_neg hi]; exact rf_no
end NW
