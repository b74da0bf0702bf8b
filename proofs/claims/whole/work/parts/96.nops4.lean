/-! RULES for the reference -/
section NY
variable {w y : Prop} {g : g_S} {n : NS} {m : YS} {k f : Nat} {i a b : Int} {α β : Type} {P : α → β → Prop} {G : Option β} {H : YS → Option β}
theorem y_I (hR : RC w y g n m) (hy : y) (hk : k < 186) (ht : yT k = 9) {F : Int32 → Option α} (kk : inR (m k 0) → Rf P (F (Int32.ofInt (m k 0))) G) : Rf P ((rI g 112 1838 k).bind F) G := by
  have h := hR.2.2.2.2.2 hy
  have e := h.2.1 k hk ht
  unfold rI
  rw [if_pos h.1]
  have := kk (by rw [e]; exact r32 _)
  rw [e, oi32] at this
  exact this
theorem y_Z (hR : RC w y g n m) (hy : y) (hk : k < 186) (ht : yT k = 9) (hz : zs 112 k = 1) {F : Int32 → Option α} (kk : inZ (m k 0) → Rf P (F (Int32.ofInt (m k 0))) G) : Rf P ((rI g 112 1838 k).bind F) G := by
  refine y_I hR hy hk ht (fun _ => kk ?_)
  have h := hR.2.2.2.2.2 hy
  rw [h.2.1 k hk ht]
  exact hR.2.2.2.1.2.1 1838 k (by rw [h.1]; exact hz)
theorem y_Q (hR : RC w y g n m) (hy : y) (hk : k < 186) (ht : yT k ≠ 9) {F : Nat → Option α} (kk : Rf P (F (yAd k)) G) : Rf P ((rQ g 112 1838 k).bind F) G := by
  have h := hR.2.2.2.2.2 hy
  unfold rQ
  rw [if_pos h.1, (h.2.2 k hk ht).1]
  exact kk
theorem y_aI (hR : RC w y g n m) (hy : y) (hf : f < 186 ∧ yT f = 0) {L : Int} (hL : L = (yLn f : Int)) {x : Int32} (ex : x = Int32.ofInt i) (ri : inR i) {F : Int32 → Option α} (kk : (0 ≤ i ∧ i < L) → inR (m f i) → Rf P (F (Int32.ofInt (m f i))) G) : Rf P ((aI g 0 (yAd f) x).bind F) (ix i L G) := by
  refine rf_if (fun h => ?_)
  obtain ⟨j, rfl⟩ : ∃ j : Nat, i = j := ⟨i.toNat, by omega⟩
  have hs := (hR.2.2.2.2.2 hy).2.2 f hf.1 (by omega)
  have e := hs.2.2.2 j
  unfold aI
  rw [ex, if_pos ⟨by rw [hs.2.1]; exact hf.2, by rw [hs.2.2.1]; exact inb_ok ri (by omega)⟩, tnc ri, Int.toNat_natCast]
  have := kk h (by rw [e]; exact r32 _)
  rw [e, oi32] at this
  exact this
theorem y_aB (hR : RC w y g n m) (hy : y) (hf : f < 186 ∧ yT f = 1) {L : Int} (hL : L = (yLn f : Int)) {x : Int32} (ex : x = Int32.ofInt i) (ri : inR i) {F : Int32 → Option α} (kk : (0 ≤ i ∧ i < L) → inB (m f i) → Rf P (F (Int32.ofInt (m f i))) G) : Rf P ((aI g 1 (yAd f) x).bind F) (ix i L G) := by
  refine rf_if (fun h => ?_)
  obtain ⟨j, rfl⟩ : ∃ j : Nat, i = j := ⟨i.toNat, by omega⟩
  have hs := (hR.2.2.2.2.2 hy).2.2 f hf.1 (by omega)
  have e := hs.2.2.2 j
  unfold aI
  rw [ex, if_pos ⟨by rw [hs.2.1]; exact hf.2, by rw [hs.2.2.1]; exact inb_ok ri (by omega)⟩, tnc ri, Int.toNat_natCast]
  have := kk h (by rw [e]; exact hR.2.2.2.1.1 _ j (by rw [hs.2.1]; exact hf.2))
  rw [e, oi32] at this
  exact this
theorem y_aZ (hR : RC w y g n m) (hy : y) (hf : f < 186 ∧ yT f = 2) {L : Int} (hL : L = (yLn f : Int)) {x : Int32} (ex : x = Int32.ofInt i) (ri : inR i) {F : Int32 → Option α} (kk : (0 ≤ i ∧ i < L) → inZ (m f i) → Rf P (F (Int32.ofInt (m f i))) G) : Rf P ((aI g 2 (yAd f) x).bind F) (ix i L G) := by
  refine rf_if (fun h => ?_)
  obtain ⟨j, rfl⟩ : ∃ j : Nat, i = j := ⟨i.toNat, by omega⟩
  have hs := (hR.2.2.2.2.2 hy).2.2 f hf.1 (by omega)
  have e := hs.2.2.2 j
  unfold aI
  rw [ex, if_pos ⟨by rw [hs.2.1]; exact hf.2, by rw [hs.2.2.1]; exact inb_ok ri (by omega)⟩, tnc ri, Int.toNat_natCast]
  have := kk h (by rw [e]; exact hR.2.2.2.1.2.1 _ j (by rw [hs.2.1, hf.2]; rfl))
  rw [e, oi32] at this
  exact this
theorem vl_far {q p j : Nat} {v : Int32} (h : q ≠ p) : vl (gwI g p j v) q k = vl g q k := by
  unfold vl
  rw [gi_gwI2 (.inl h)]
  rfl
/-- a write in the reference's cells -/
theorem RC.yW (hR : RC w y g n m) (hy : y) {p j : Nat} (hp : ar p) {v : Int} (rv : inR v) (hb : gt g p = 1 → inB v) (hz : zs (gt g p) j = 1 → inZ v) {m' : YS} (hm : SY (gwI g p j (Int32.ofInt v)) m') : RC w y (gwI g p j (Int32.ofInt v)) n m' := by
  refine ⟨hR.1, fun q' k' ha => ?_, hR.2.2.1, ⟨fun q' k' ht => ?_, fun q' k' ht => ?_, hR.2.2.2.1.2.2⟩, hR.2.2.2.2.1, fun _ => hm⟩
  · rw [hR.2.1 q' k' ha, vl_far (show q' ≠ p from fun z => ha (z ▸ hp))]
  · by_cases e : q' = p ∧ k' = j
    · obtain ⟨rfl, rfl⟩ := e
      rw [gi_gwI1, ti32 rv]; exact hb ht
    · rw [gi_gwI2 (by by_cases e1 : q' = p; exact .inr (fun z => e ⟨e1, z⟩); exact .inl e1)]; exact hR.2.2.2.1.1 q' k' ht
  · by_cases e : q' = p ∧ k' = j
    · obtain ⟨rfl, rfl⟩ := e
      rw [gi_gwI1, ti32 rv]; exact hz ht
    · rw [gi_gwI2 (by by_cases e1 : q' = p; exact .inr (fun z => e ⟨e1, z⟩); exact .inl e1)]; exact hR.2.2.2.1.2.1 q' k' ht
theorem RC.yS (hR : RC w y g n m) (hy : y) (hk : k < 186) (ht : yT k = 9) (rv : inR a) (hz : zs 112 k = 1 → inZ a) : RC w y (gwI g 1838 k (Int32.ofInt a)) n (yw m k 0 a) := by
  have h := hR.2.2.2.2.2 hy
  refine hR.yW hy ar_1838 rv (fun z => by rw [h.1] at z; cases z) (fun z => hz (by rw [h.1] at z; exact z)) ⟨h.1, fun k' hk' hy' => ?_, fun k' hk' hy' => ?_⟩
  · by_cases e : k' = k
    · subst e; rw [yw_eq, gi_gwI1, ti32 rv]
    · rw [yw_nF e, gi_gwI2 (.inr e)]; exact h.2.1 k' hk' hy'
  · have e : k' ≠ k := fun z => hy' (z ▸ ht)
    have := h.2.2 k' hk' hy'
    refine ⟨this.1, this.2.1, this.2.2.1, fun j => ?_⟩
    rw [yw_nF e, gi_gwI2 (.inl (yA_ar k' hk' hy').2)]; exact this.2.2.2 j
theorem RC.yR (hR : RC w y g n m) (hy : y) (hf : f < 186 ∧ yT f ≠ 9) {j : Nat} (rv : inR a) (hb : yT f = 1 → inB a) (hz : yT f = 2 → inZ a) : RC w y (gwI g (yAd f) j (Int32.ofInt a)) n (yw m f j a) := by
  have h := hR.2.2.2.2.2 hy
  have hs := h.2.2 f hf.1 hf.2
  refine hR.yW hy (yA_ar f hf.1 hf.2).1 rv (fun z => hb (by rw [hs.2.1] at z; exact z)) (fun z => hz ?_) ⟨h.1, fun k' hk' hy' => ?_, fun k' hk' hy' => ?_⟩
  · rw [hs.2.1] at z
    have := yt_le f hf.1 hf.2
    unfold zs at z
    split at z
    · assumption
    · rw [if_pos (by omega)] at z; cases z
  · have e : k' ≠ f := fun z => hf.2 (z ▸ hy')
    rw [yw_nF e, gi_gwI2 (.inl (Ne.symm (yA_ar f hf.1 hf.2).2))]; exact h.2.1 k' hk' hy'
  · have := h.2.2 k' hk' hy'
    refine ⟨this.1, this.2.1, this.2.2.1, fun i => ?_⟩
    by_cases e : k' = f
    · subst e
      by_cases e2 : i = j
      · subst e2; rw [yw_eq, gi_gwI1, ti32 rv]
      · rw [yw_ni (by omega), gi_gwI2 (.inr e2)]; exact this.2.2.2 i
    · rw [yw_nF e, gi_gwI2 (.inl (fun z => e (yA_inj k' f hk' hf.1 hy' hf.2 z)))]; exact this.2.2.2 i
theorem y_pI (hR : RC w y g n m) (hy : y) (hk : k < 186) (ht : yT k = 9 ∧ zs 112 k = 0) {x : Int32} (ex : x = Int32.ofInt a) (ra : inR a) {F : g_S → Option α} (kk : ∀ g' m', RC w y g' n m' → Rf P (F g') (H m')) : Rf P ((wI g 112 1838 k x).bind F) (st (yw m k 0 a) H) := by
  have h := hR.2.2.2.2.2 hy
  unfold wI st
  rw [if_pos h.1, ex]
  exact kk _ _ (hR.yS hy hk ht.1 ra (fun z => by have := ht.2; omega))
theorem y_pZ (hR : RC w y g n m) (hy : y) (hk : k < 186) (ht : yT k = 9) {x : Int32} (ex : x = Int32.ofInt a) (ra : inZ a) {F : g_S → Option α} (kk : ∀ g' m', RC w y g' n m' → Rf P (F g') (H m')) : Rf P ((wZ g 112 1838 k x).bind F) (st (yw m k 0 a) H) := by
  have h := hR.2.2.2.2.2 hy
  unfold wZ st
  rw [if_pos ⟨h.1, by rcases ra with rfl | rfl; exact .inl ex; exact .inr ex⟩, ex]
  exact kk _ _ (hR.yS hy hk ht ra.r (fun _ => ra))
theorem y_sI (hR : RC w y g n m) (hy : y) (hf : f < 186 ∧ yT f = 0) {L : Int} (hL : L = (yLn f : Int)) {x v : Int32} (ex : x = Int32.ofInt i) (ri : inR i) (ev : v = Int32.ofInt b) (rb : inR b) {F : g_S → Option α} (kk : ∀ g' m', RC w y g' n m' → Rf P (F g') (H m')) : Rf P ((sI g (yAd f) x v).bind F) (ix i L (st (yw m f i b) H)) := by
  refine rf_if (fun h => ?_)
  obtain ⟨j, rfl⟩ : ∃ j : Nat, i = j := ⟨i.toNat, by omega⟩
  have hs := (hR.2.2.2.2.2 hy).2.2 f hf.1 (by omega)
  unfold sI st
  rw [ex, ev, if_pos ⟨by rw [hs.2.1]; exact hf.2, by rw [hs.2.2.1]; exact inb_ok ri (by omega)⟩, tnc ri, Int.toNat_natCast]
  exact kk _ _ (hR.yR hy ⟨hf.1, by omega⟩ rb (fun z => by omega) (fun z => by omega))
theorem y_sB (hR : RC w y g n m) (hy : y) (hf : f < 186 ∧ yT f = 1) {L : Int} (hL : L = (yLn f : Int)) {x v : Int32} (ex : x = Int32.ofInt i) (ri : inR i) (ev : v = Int32.ofInt b) (rb : inB b) {F : g_S → Option α} (kk : ∀ g' m', RC w y g' n m' → Rf P (F g') (H m')) : Rf P ((sB g (yAd f) x v).bind F) (ix i L (st (yw m f i b) H)) := by
  refine rf_if (fun h => ?_)
  obtain ⟨j, rfl⟩ : ∃ j : Nat, i = j := ⟨i.toNat, by omega⟩
  have hs := (hR.2.2.2.2.2 hy).2.2 f hf.1 (by omega)
  unfold sB st
  rw [ex, ev, if_pos ⟨by rw [hs.2.1]; exact hf.2, by rw [hs.2.2.1]; exact inb_ok ri (by omega)⟩, tnc ri, Int.toNat_natCast, nar_B rb]
  exact kk _ _ (hR.yR hy ⟨hf.1, by omega⟩ rb.r (fun _ => rb) (fun z => by omega))
theorem y_sZ (hR : RC w y g n m) (hy : y) (hf : f < 186 ∧ yT f = 2) {L : Int} (hL : L = (yLn f : Int)) {x v : Int32} (ex : x = Int32.ofInt i) (ri : inR i) (ev : v = Int32.ofInt b) (rb : inZ b) {F : g_S → Option α} (kk : ∀ g' m', RC w y g' n m' → Rf P (F g') (H m')) : Rf P ((sZ g (yAd f) x v).bind F) (ix i L (st (yw m f i b) H)) := by
  refine rf_if (fun h => ?_)
  obtain ⟨j, rfl⟩ : ∃ j : Nat, i = j := ⟨i.toNat, by omega⟩
  have hs := (hR.2.2.2.2.2 hy).2.2 f hf.1 (by omega)
  unfold sZ st
  rw [ex, ev, if_pos ⟨by rw [hs.2.1]; exact hf.2, by rw [hs.2.2.1]; exact inb_ok ri (by omega)⟩, tnc ri, Int.toNat_natCast, nar_Z rb]
  exact kk _ _ (hR.yR hy ⟨hf.1, by omega⟩ rb.r (fun z => by omega) (fun _ => rb))
theorem y_gt (hR : RC w y g n m) (hy : y) : gt g 1838 = 112 := (hR.2.2.2.2.2 hy).1
end NY
