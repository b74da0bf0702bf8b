/-! THE RELATION, step by step -/
theorem yA_ar : ∀ k, k < 186 → yT k ≠ 9 → ar (yAd k) ∧ yAd k ≠ 1838 := by
  have : ∀ k : Fin 186, yT k.1 ≠ 9 → (1838 ≤ yAd k.1 ∧ yAd k.1 < 1953) ∧ yAd k.1 ≠ 1838 := by decide +kernel
  exact fun k hk => this ⟨k, hk⟩
theorem yA_inj : ∀ k k', k < 186 → k' < 186 → yT k ≠ 9 → yT k' ≠ 9 → yAd k = yAd k' → k = k' := by
  have : ∀ k k' : Fin 186, yT k.1 ≠ 9 → yT k'.1 ≠ 9 → yAd k.1 = yAd k'.1 → k.1 = k'.1 := by decide +kernel
  exact fun k k' hk hk' => this ⟨k, hk⟩ ⟨k', hk'⟩
theorem yt_le : ∀ k, k < 186 → yT k ≠ 9 → yT k ≤ 2 := by
  have : ∀ k : Fin 186, yT k.1 ≠ 9 → yT k.1 ≤ 2 := by decide +kernel
  exact fun k hk => this ⟨k, hk⟩
theorem sk_112 : ∀ k, k < 186 → yT k = 9 → sk 112 k = 0 := by
  have : ∀ k : Fin 186, yT k.1 = 9 → sk 112 k.1 = 0 := by decide +kernel
  exact fun k hk => this ⟨k, hk⟩
theorem ar_1838 : ar 1838 := ⟨by decide, by decide⟩
theorem SY.far {g g' : g_S} {m : YS} (h : SY g m) (h1 : g'.1 = g.1) (h2 : g'.2.1 = g.2.1) (h3 : g'.2.2.1 = g.2.2.1) (hi : ∀ q k, ar q → gi g' q k = gi g q k) (hr : ∀ q k, ar q → gr g' q k = gr g q k) : SY g' m := by
  refine ⟨by rw [gt_of h1 h2]; exact h.1, fun k hk hy => ?_, fun k hk hy => ?_⟩
  · rw [hi _ _ ar_1838]; exact h.2.1 k hk hy
  · have := h.2.2 k hk hy
    refine ⟨by rw [hr _ _ ar_1838]; exact this.1, by rw [gt_of h1 h2]; exact this.2.1, by unfold gl; rw [h3]; exact this.2.2.1, fun i => ?_⟩
    rw [hi _ _ (yA_ar k hk hy).1]; exact this.2.2.2 i
section RW
variable {w y : Prop} {g : g_S} {n : NS} {m : YS} {q k c K : Nat} {i s v : Int}
theorem ce_K (hC : Ce g q c K i) : K ≠ 90 ∧ K ≠ 91 ∧ K ≠ 92 ∧ K ≠ 93 := by
  have := lc_no q
  rw [hC.2.1] at this
  exact this
theorem nw_lc {q' k' : Nat} (hC : Ce g q c K i) (h : q' ≠ q) : nw n K i s v (lc q').1 (lc q').2 (k' : Int) = n (lc q').1 (lc q').2 (k' : Int) := by
  rcases lc_ne h with h1 | h1
  · rw [hC.2.1] at h1; rw [nw_nK h1]
  · rw [hC.2.1] at h1; rw [nw_ni h1]
theorem nwA_lc {q' k' : Nat} {f : Int → Int} (hC : Ce g q c K i) (h : q' ≠ q) : nwA n K i f (lc q').1 (lc q').2 (k' : Int) = n (lc q').1 (lc q').2 (k' : Int) := by
  rcases lc_ne h with h1 | h1
  · rw [hC.2.1] at h1; rw [nwA_nK h1]
  · rw [hC.2.1] at h1; rw [nwA_ni h1]
theorem ne_ar {q' : Nat} (hC : Ce g q c K i) (h : ar q') : q' ≠ q := fun z => hC.2.2 (z ▸ h)
/-- an int is written -/
theorem RC.wI (h : RC w y g n m) (hC : Ce g q c K i) (hs : s = (k : Int)) (hk : sk c k = 0) (hb : c = 1 → inB v) (hz : zs c k = 1 → inZ v) (rv : inR v) : RC w y (gwI g q k (Int32.ofInt v)) (nw n K i s v) m := by
  have hK := ce_K hC
  refine ⟨⟨?_, ?_⟩, fun q' k' ha => ?_, fun q' => ?_, ⟨fun q' k' ht => ?_, fun q' k' ht => ?_, h.2.2.2.1.2.2⟩, h.2.2.2.2.1, fun hy => ?_⟩
  · rw [nw_nK (Ne.symm hK.1)]; exact h.1.1
  · rw [nw_nK (Ne.symm hK.2.1)]; exact h.1.2
  · by_cases e : q' = q
    · subst e
      rw [hC.2.1]
      by_cases e2 : k' = k
      · subst e2
        rw [hs]
        show nw n K i (k' : Int) v K i (k' : Int) = _
        rw [nw_eq, vl_i (show sk (gt (gwI g q' k' (Int32.ofInt v)) q') k' = 0 by rw [show gt (gwI g q' k' (Int32.ofInt v)) q' = gt g q' from rfl, hC.1]; exact hk), gi_gwI1, ti32 rv]
      · show nw n K i s v K i (k' : Int) = _
        rw [nw_ns (by omega)]
        have := h.2.1 q' k' ha
        rw [hC.2.1] at this
        rw [show n K i (k' : Int) = vl g q' k' from this]
        unfold vl
        rw [gi_gwI2 (.inr e2)]
        rfl
    · rw [nw_lc hC e, h.2.1 q' k' ha]
      unfold vl
      rw [gi_gwI2 (.inl e)]
      rfl
  · rw [nw_nK (Ne.symm hK.2.2.1), nw_nK (Ne.symm hK.2.2.2)]; exact h.2.2.1 q'
  · by_cases e : q' = q ∧ k' = k
    · obtain ⟨rfl, rfl⟩ := e
      rw [gi_gwI1, ti32 rv]; exact hb (hC.1.symm.trans ht)
    · rw [gi_gwI2 (by by_cases e1 : q' = q; exact .inr (fun z => e ⟨e1, z⟩); exact .inl e1)]; exact h.2.2.2.1.1 q' k' ht
  · by_cases e : q' = q ∧ k' = k
    · obtain ⟨rfl, rfl⟩ := e
      rw [gi_gwI1, ti32 rv]; exact hz (hC.1 ▸ ht)
    · rw [gi_gwI2 (by by_cases e1 : q' = q; exact .inr (fun z => e ⟨e1, z⟩); exact .inl e1)]; exact h.2.2.2.1.2.1 q' k' ht
  · exact (h.2.2.2.2.2 hy).far rfl rfl rfl (fun q' k' ha => gi_gwI2 (.inl (ne_ar hC ha))) (fun _ _ _ => rfl)
/-- a long is written -/
theorem RC.wL (h : RC w y g n m) (hC : Ce g q c K i) (hs : s = (k : Int)) (hk : sk c k = 1) (rv : inL v) : RC w y (gwL g q k (Int64.ofInt v)) (nw n K i s v) m := by
  have hK := ce_K hC
  refine ⟨⟨?_, ?_⟩, fun q' k' ha => ?_, fun q' => ?_, h.2.2.2.1, h.2.2.2.2.1, fun hy => ?_⟩
  · rw [nw_nK (Ne.symm hK.1)]; exact h.1.1
  · rw [nw_nK (Ne.symm hK.2.1)]; exact h.1.2
  · by_cases e : q' = q
    · subst e
      rw [hC.2.1]
      by_cases e2 : k' = k
      · subst e2
        rw [hs]
        show nw n K i (k' : Int) v K i (k' : Int) = _
        rw [nw_eq, vl_j (show sk (gt (gwL g q' k' (Int64.ofInt v)) q') k' = 1 by rw [show gt (gwL g q' k' (Int64.ofInt v)) q' = gt g q' from rfl, hC.1]; exact hk), gj_gwL1, ti64 rv]
      · show nw n K i s v K i (k' : Int) = _
        rw [nw_ns (by omega)]
        have := h.2.1 q' k' ha
        rw [hC.2.1] at this
        rw [show n K i (k' : Int) = vl g q' k' from this]
        unfold vl
        rw [gj_gwL2 (.inr e2)]
        rfl
    · rw [nw_lc hC e, h.2.1 q' k' ha]
      unfold vl
      rw [gj_gwL2 (.inl e)]
      rfl
  · rw [nw_nK (Ne.symm hK.2.2.1), nw_nK (Ne.symm hK.2.2.2)]; exact h.2.2.1 q'
  · exact (h.2.2.2.2.2 hy).far rfl rfl rfl (fun _ _ _ => rfl) (fun _ _ _ => rfl)
/-- a reference is written -/
theorem RC.wR (h : RC w y g n m) (hC : Ce g q c K i) (hs : s = (k : Int)) (hk : sk c k = 2) (hn : srf K i k = none) {r : Option Nat} (hr : rcd r = v) (hq : ∀ p, r = some p → (lc p).1 = rk c k) : RC w y (gwR g q k r) (nw n K i s v) m := by
  have hK := ce_K hC
  refine ⟨⟨?_, ?_⟩, fun q' k' ha => ?_, fun q' => ?_, ⟨h.2.2.2.1.1, h.2.2.2.1.2.1, fun q' k' p ha ht hp => ?_⟩, fun hw => ⟨(h.2.2.2.2.1 hw).1, fun q' hl k' a hsr => ?_⟩, fun hy => ?_⟩
  · rw [nw_nK (Ne.symm hK.1)]; exact h.1.1
  · rw [nw_nK (Ne.symm hK.2.1)]; exact h.1.2
  · by_cases e : q' = q
    · subst e
      rw [hC.2.1]
      by_cases e2 : k' = k
      · subst e2
        rw [hs]
        show nw n K i (k' : Int) v K i (k' : Int) = _
        rw [nw_eq, vl_r (show sk (gt (gwR g q' k' r) q') k' = 2 by rw [show gt (gwR g q' k' r) q' = gt g q' from rfl, hC.1]; exact hk), gr_gwR1, hr]
      · show nw n K i s v K i (k' : Int) = _
        rw [nw_ns (by omega)]
        have := h.2.1 q' k' ha
        rw [hC.2.1] at this
        rw [show n K i (k' : Int) = vl g q' k' from this]
        unfold vl
        rw [gr_gwR2 (.inr e2)]
        rfl
    · rw [nw_lc hC e, h.2.1 q' k' ha]
      unfold vl
      rw [gr_gwR2 (.inl e)]
      rfl
  · rw [nw_nK (Ne.symm hK.2.2.1), nw_nK (Ne.symm hK.2.2.2)]; exact h.2.2.1 q'
  · by_cases e : q' = q ∧ k' = k
    · obtain ⟨rfl, rfl⟩ := e
      rw [gr_gwR1] at hp
      rw [show gt (gwR g q' k' r) q' = gt g q' from rfl, hC.1]; exact hq p hp
    · rw [gr_gwR2 (by by_cases e1 : q' = q; exact .inr (fun z => e ⟨e1, z⟩); exact .inl e1)] at hp
      exact h.2.2.2.1.2.2 q' k' p ha ht hp
  · by_cases e : q' = q ∧ k' = k
    · obtain ⟨rfl, rfl⟩ := e
      rw [hC.2.1] at hsr
      rw [hn] at hsr; cases hsr
    · rw [gr_gwR2 (by by_cases e1 : q' = q; exact .inr (fun z => e ⟨e1, z⟩); exact .inl e1)]
      exact (h.2.2.2.2.1 hw).2 q' hl k' a hsr
  · exact (h.2.2.2.2.2 hy).far rfl rfl rfl (fun _ _ _ => rfl) (fun q' k' ha => gr_gwR2 (.inl (ne_ar hC ha)))
theorem gi_gwA1 {f : Nat → Int32} {k : Nat} : gi (gwA g q f) q k = f k := by show va_up g.2.2.2.1 q f q k = _; rw [va_up_eq2]
theorem gi_gwA2 {f : Nat → Int32} {p j : Nat} (h : p ≠ q) : gi (gwA g q f) p j = gi g p j := by show va_up g.2.2.2.1 q f p j = _; rw [va_up_ne2 h]; rfl
/-- a row of ints is written -/
theorem RC.wA (h : RC w y g n m) (hC : Ce g q c K i) (hc : c ≤ 1) {f : Nat → Int32} {F : Int → Int} (hf : ∀ k : Nat, F k = (f k).toInt) (hb : c = 1 → ∀ k, inB (f k).toInt) : RC w y (gwA g q f) (nwA n K i F) m := by
  have hK := ce_K hC
  refine ⟨⟨?_, ?_⟩, fun q' k' ha => ?_, fun q' => ?_, ⟨fun q' k' ht => ?_, fun q' k' ht => ?_, h.2.2.2.1.2.2⟩, h.2.2.2.2.1, fun hy => ?_⟩
  · rw [nwA_nK (Ne.symm hK.1)]; exact h.1.1
  · rw [nwA_nK (Ne.symm hK.2.1)]; exact h.1.2
  · by_cases e : q' = q
    · subst e
      rw [hC.2.1]
      show nwA n K i F K i (k' : Int) = _
      rw [nwA_eq, vl_i (show sk (gt (gwA g q' f) q') k' = 0 by rw [show gt (gwA g q' f) q' = gt g q' from rfl, hC.1]; exact sk_ar (by omega) _), gi_gwA1, hf]
    · rw [nwA_lc hC e, h.2.1 q' k' ha]
      unfold vl
      rw [gi_gwA2 e]
      rfl
  · rw [nwA_nK (Ne.symm hK.2.2.1), nwA_nK (Ne.symm hK.2.2.2)]; exact h.2.2.1 q'
  · by_cases e : q' = q
    · subst e
      rw [gi_gwA1]; exact hb (hC.1.symm.trans ht) k'
    · rw [gi_gwA2 e]; exact h.2.2.2.1.1 q' k' ht
  · by_cases e : q' = q
    · subst e
      have : zs c k' = 1 := hC.1 ▸ ht
      unfold zs at this
      rw [if_neg (by omega), if_pos (by omega)] at this
      cases this
    · rw [gi_gwA2 e]; exact h.2.2.2.1.2.1 q' k' ht
  · exact (h.2.2.2.2.2 hy).far rfl rfl rfl (fun q' k' ha => gi_gwA2 (ne_ar hC ha)) (fun _ _ _ => rfl)
end RW
section RN
variable {w y : Prop} {g : g_S} {n : NS} {m : YS}
theorem gt_new {t l q : Nat} : gt (gnew g t l) q = if q = gn g then t else gt g q := by
  unfold gt gnew gn
  by_cases h : q = g.1
  · rw [if_pos h, h]
    show (bif Nat.blt g.1 (g.1 + 1) then va_up g.2.1 g.1 t g.1 else 99) = t
    rw [show Nat.blt g.1 (g.1 + 1) = true from Nat.ble_eq_true_of_le (Nat.le_refl _), va_up_eq2]; rfl
  · rw [if_neg h]
    show (bif Nat.blt q (g.1 + 1) then va_up g.2.1 g.1 t q else 99) = _
    rw [va_up_ne2 h]
    cases hb : Nat.blt q g.1 with
    | true =>
      have := Nat.le_of_ble_eq_true hb
      rw [show Nat.blt q (g.1 + 1) = true from Nat.ble_eq_true_of_le (by omega)]
    | false =>
      cases hb2 : Nat.blt q (g.1 + 1) with
      | false => rfl
      | true =>
        have h1 := Nat.le_of_ble_eq_true hb2
        rw [show Nat.blt q g.1 = true from Nat.ble_eq_true_of_le (by omega)] at hb
        cases hb
theorem gl_new {t l q : Nat} : gl (gnew g t l) q = if q = gn g then l else gl g q := by
  show va_up g.2.2.1 g.1 l q = _
  unfold va_up gn; rfl
theorem gi_new {t l q k : Nat} : gi (gnew g t l) q k = if q = gn g then 0 else gi g q k := by
  show va_up g.2.2.2.1 g.1 (fun _ => 0) q k = _
  unfold va_up gn; split <;> rfl
theorem gj_new {t l q k : Nat} : gj (gnew g t l) q k = if q = gn g then 0 else gj g q k := by
  show va_up g.2.2.2.2.1 g.1 (fun _ => 0) q k = _
  unfold va_up gn; split <;> rfl
theorem gr_nw {t l q k : Nat} : gr (gnew g t l) q k = if q = gn g then none else gr g q k := by
  show va_up g.2.2.2.2.2 g.1 (fun _ => none) q k = _
  unfold va_up gn; split <;> rfl
theorem gz_new {t l : Nat} : gz (gnew g t l) = gz g + cz1 t l := by
  unfold gz
  show ((List.range (g.1 + 1)).map _).sum = _
  rw [List.range_succ, List.map_append, List.sum_append]
  congr 1
  · unfold gn
    congr 1
    apply List.map_congr_left
    intro q hq
    have : q ≠ g.1 := by have := List.mem_range.mp hq; omega
    show cz1 (va_up g.2.1 g.1 t q) (va_up g.2.2.1 g.1 l q) = cz1 (g.2.1 q) (g.2.2.1 q)
    rw [va_up_ne2 this, va_up_ne2 this]
  · show List.sum [cz1 (va_up g.2.1 g.1 t g.1) (va_up g.2.2.1 g.1 l g.1)] = _
    rw [va_up_eq2, va_up_eq2, List.sum_singleton]
/-- a new cell -/
theorem RC.new (h : RC w y g n m) {t l : Nat} (hb : 1953 ≤ n 90 0 0) (ht : t ≠ 99) {z : Int} (hz : z = cz1 t l) : RC w y (gnew g t l) (nnew n t l z) m ∧ Ce (gnew g t l) (gn g) t 99 (n 90 0 0) ∧ (n 90 0 0).toNat = gn g := by
  have hN := h.1.1
  have hq : 1953 ≤ gn g := by omega
  have hl : lc (gn g) = (99, ((gn g : Nat) : Int)) := lc_hi (by omega)
  have hna : ¬ ar (gn g) := fun z => by have := z.2; omega
  have tl : ∀ q, q < 1953 → gt (gnew g t l) q = gt g q ∧ gl (gnew g t l) q = gl g q ∧ (∀ k, gi (gnew g t l) q k = gi g q k) ∧ (∀ k, gr (gnew g t l) q k = gr g q k) := fun q hq' => by
    have : q ≠ gn g := by omega
    exact ⟨by rw [gt_new, if_neg this], by rw [gl_new, if_neg this], fun k => by rw [gi_new, if_neg this], fun k => by rw [gr_nw, if_neg this]⟩
  refine ⟨⟨⟨?_, ?_⟩, fun q k ha => ?_, fun q => ?_, ⟨fun q k hq' => ?_, fun q k hq' => ?_, fun q k q' ha hs hr => ?_⟩, fun hw => ⟨fun q hq' => ?_, fun q hq' k a hs => ?_⟩, fun hy => ?_⟩, ?_, by omega⟩
  · unfold nnew
    rw [nw_eq, hN]; show ((gn g : Nat) : Int) + 1 = ((gn g + 1 : Nat) : Int); omega
  · unfold nnew
    rw [nw_nK (by decide), nw_eq, h.1.2, gz_new, hz]; omega
  · have hno := lc_no q
    have e1 : nnew n t l z (lc q).1 (lc q).2 (k : Int) = nwA n 99 (n 90 0 0) (dz t) (lc q).1 (lc q).2 (k : Int) := by
      unfold nnew
      rw [nw_nK hno.1, nw_nK hno.2.1, nw_nK hno.2.2.1, nw_nK hno.2.2.2]
    rw [e1]
    by_cases e : q = gn g
    · subst e
      rw [hl, hN]
      show nwA n 99 _ (dz t) 99 _ (k : Int) = _
      rw [nwA_eq]
      unfold dz vl
      rw [gt_new, if_pos rfl, gi_new, gj_new, gr_nw, if_pos rfl, if_pos rfl, if_pos rfl, Int.toNat_natCast]
      by_cases h0 : sk t k = 0
      · rw [if_pos h0, if_neg (by omega)]; rfl
      · rw [if_neg h0]
        by_cases h1 : sk t k = 1
        · rw [if_pos h1, if_neg (by omega)]; rfl
        · rw [if_neg h1]
          by_cases h2 : sk t k = 2
          · rw [if_pos h2]; rfl
          · exact absurd (sk_le t k) (by omega)
    · have e2 : nwA n 99 (n 90 0 0) (dz t) (lc q).1 (lc q).2 (k : Int) = n (lc q).1 (lc q).2 (k : Int) := by
        have := lc_ne e
        rw [hl, ← hN] at this
        rcases this with h1 | h1
        · rw [nwA_nK h1]
        · rw [nwA_ni h1]
      rw [e2, h.2.1 q k ha]
      unfold vl
      rw [gt_new, if_neg e, gi_new, gj_new, gr_nw, if_neg e, if_neg e, if_neg e]
  · have h1 := h.2.2.1 q
    have e1 : nnew n t l z 92 0 (q : Int) = if q = gn g then (t : Int) else n 92 0 (q : Int) := by
      unfold nnew
      rw [nw_nK (by decide), nw_nK (by decide)]
      by_cases e : q = gn g
      · rw [if_pos e, e, ← hN, nw_eq]
      · rw [if_neg e, nw_ns (by omega), nw_nK (by decide), nwA_nK (by decide)]
    have e2 : nnew n t l z 93 0 (q : Int) = if q = gn g then (l : Int) else n 93 0 (q : Int) := by
      unfold nnew
      rw [nw_nK (by decide), nw_nK (by decide), nw_nK (by decide)]
      by_cases e : q = gn g
      · rw [if_pos e, e, ← hN, nw_eq]
      · rw [if_neg e, nw_ns (by omega), nwA_nK (by decide)]
    rw [e1, e2, gt_new, gl_new]
    by_cases e : q = gn g
    · rw [if_pos e, if_pos e, if_pos e, if_pos e]
      exact ⟨fun _ => ⟨rfl, rfl⟩, fun ha => absurd (e ▸ ha) hna⟩
    · rw [if_neg e, if_neg e, if_neg e, if_neg e]; exact h1
  · rw [gi_new]
    by_cases e : q = gn g
    · rw [if_pos e]; decide
    · rw [if_neg e]; rw [gt_new, if_neg e] at hq'; exact h.2.2.2.1.1 q k hq'
  · rw [gi_new]
    by_cases e : q = gn g
    · rw [if_pos e]; exact .inl rfl
    · rw [if_neg e]; rw [gt_new, if_neg e] at hq'; exact h.2.2.2.1.2.1 q k hq'
  · rw [gr_nw] at hr
    rw [gt_new] at hs ⊢
    by_cases e : q = gn g
    · rw [if_pos e] at hr; cases hr
    · rw [if_neg e] at hr hs ⊢; exact h.2.2.2.1.2.2 q k q' ha hs hr
  · have := tl q (by omega)
    rw [this.1, this.2.1]; exact (h.2.2.2.2.1 hw).1 q hq'
  · rw [(tl q (by omega)).2.2.2]; exact (h.2.2.2.2.1 hw).2 q hq' k a hs
  · have hy := h.2.2.2.2.2 hy
    refine ⟨by rw [(tl 1838 (by decide)).1]; exact hy.1, fun k hk e => ?_, fun k hk e => ?_⟩
    · rw [(tl 1838 (by decide)).2.2.1]; exact hy.2.1 k hk e
    · have h1 := (yA_ar k hk e).1.2
      have := hy.2.2 k hk e
      refine ⟨by rw [(tl 1838 (by decide)).2.2.2]; exact this.1, by rw [(tl _ h1).1]; exact this.2.1, by rw [(tl _ h1).2.1]; exact this.2.2.1, fun j => ?_⟩
      rw [(tl _ h1).2.2.1]; exact this.2.2.2 j
  · exact ⟨by rw [gt_new, if_pos rfl], by rw [hl, hN], hna⟩
end RN
