/-! THE CONSTRUCTORS: what is made so far -/
def C4g (g : g_S) : Prop := (∀ q k, gt g q = 1 → inB (gi g q k).toInt) ∧ (∀ q k, zs (gt g q) k = 1 → inZ (gi g q k).toInt) ∧ (∀ q k q', ¬ ar q → sk (gt g q) k = 2 → gr g q k = some q' → (lc q').1 = rk (gt g q) k)
def blk (t k : Nat) : Int := if sk t k = 0 then 0 else if sk t k = 1 then 0 else -1
def upv (f : Nat → Int) (k : Nat) (v : Int) : Nat → Int := fun j => if j = k then v else f j
/-- K cells are made; those of L are not yet as V says -/
def BD (V : Nat → Nat → Int) (g : g_S) (K : Nat) (L : List (Nat × (Nat → Int))) : Prop :=
  (gn g = K ∧ K ≤ 1838 ∧ (∀ q, q < K → gt g q = sty q ∧ gl g q = sln q) ∧ C4g g) ∧ (∀ q, q < K → (∀ x ∈ L, x.1 ≠ q) → ∀ k, vl g q k = V q k) ∧ (∀ x ∈ L, x.1 < K ∧ ∀ k, vl g x.1 k = x.2 k)
def nOf (g : g_S) : NS := fun K i s => if K = 90 then (gn g : Int) else if K = 91 then (gz g : Int) else if K = 92 then (if 1838 ≤ s ∧ s < 1953 then 98 else (gt g s.toNat : Int)) else if K = 93 then (gl g s.toNat : Int) else vl g (al (K, i)) s.toNat
section YZG
variable {V : Nat → Nat → Int} {g g' : g_S} {K q k t l p j : Nat} {f : Nat → Int} {L : List (Nat × (Nat → Int))} {m : YS} {w : Prop} {α β : Type} {Q : α → Prop} {v : Int32} {z : Int64}
theorem nOf_lc : nOf g (lc q).1 (lc q).2 (k : Int) = vl g q k := by
  obtain ⟨h0, h1, h2, h3⟩ := lc_no q
  unfold nOf
  rw [if_neg h0, if_neg h1, if_neg h2, if_neg h3, show al ((lc q).1, (lc q).2) = q from al_lc q, Int.toNat_natCast]
theorem rc_of (h : C4g g) : RC False False g (nOf g) m := by
  refine ⟨⟨rfl, rfl⟩, fun q k _ => nOf_lc, fun q => ⟨fun hq => ⟨?_, ?_⟩, fun hq => ?_⟩, h, fun z => z.elim, fun z => z.elim⟩
  · show (if 1838 ≤ (q : Int) ∧ (q : Int) < 1953 then (98 : Int) else (gt g (q : Int).toNat : Int)) = _
    rw [if_neg (fun z => hq ⟨by omega, by omega⟩), Int.toNat_natCast]
  · show (gl g (q : Int).toNat : Int) = _
    rw [Int.toNat_natCast]
  · show (if 1838 ≤ (q : Int) ∧ (q : Int) < 1953 then (98 : Int) else (gt g (q : Int).toNat : Int)) = _
    rw [if_pos ⟨by have := hq.1; omega, by have := hq.2; omega⟩]
theorem gi_w : gi (gwI g q k v) p j = if p = q ∧ j = k then v else gi g p j := by
  by_cases h : p = q
  · rw [h, gi_gwI]
    by_cases h' : j = k
    · rw [h', va_up_eq2, if_pos ⟨rfl, rfl⟩]
    · rw [va_up_ne2 h', if_neg (fun z => h' z.2)]
  · rw [if_neg (fun z => h z.1)]
    show up2 g.2.2.2.1 q k v p j = _
    rw [up2_ne h]; rfl
theorem gj_w : gj (gwL g q k z) p j = if p = q ∧ j = k then z else gj g p j := by
  by_cases h : p = q
  · rw [h, gj_gwL]
    by_cases h' : j = k
    · rw [h', va_up_eq2, if_pos ⟨rfl, rfl⟩]
    · rw [va_up_ne2 h', if_neg (fun z => h' z.2)]
  · rw [if_neg (fun z => h z.1)]
    show up2 g.2.2.2.2.1 q k z p j = _
    rw [up2_ne h]; rfl
theorem gr_w {r : Option Nat} : gr (gwR g q k r) p j = if p = q ∧ j = k then r else gr g p j := by
  by_cases h : p = q
  · rw [h, gr_gwR]
    by_cases h' : j = k
    · rw [h', va_up_eq2, if_pos ⟨rfl, rfl⟩]
    · rw [va_up_ne2 h', if_neg (fun z => h' z.2)]
  · rw [if_neg (fun z => h z.1)]
    show up2 g.2.2.2.2.2 q k r p j = _
    rw [up2_ne h]; rfl
theorem BD.ty (h : BD V g K L) (hq : q < K) : gt g q = sty q ∧ gl g q = sln q := h.1.2.2.1 q hq
theorem BD.new (h : BD V g K L) (hK : K < 1838) (ht : sty K = t) (hl : sln K = l) : BD V (gnew g t l) (K + 1) ((K, blk t) :: L) := by
  obtain ⟨⟨h1, h2, h3, h4, h5, h6⟩, h7, h8⟩ := h
  have tn : ∀ q, gt (gnew g t l) q = if q = K then t else gt g q := fun q => by rw [gt_new, h1]
  have vn : ∀ q k, vl (gnew g t l) q k = if q = K then blk t k else vl g q k := fun q k => by
    unfold vl
    rw [tn, gi_new, gj_new, gr_nw, h1]
    by_cases z : q = K
    · rw [if_pos z, if_pos z, if_pos z, if_pos z, if_pos z]; rfl
    · rw [if_neg z, if_neg z, if_neg z, if_neg z, if_neg z]
  refine ⟨⟨by show gn g + 1 = K + 1; rw [h1], hK, fun q hq => ?_, fun q k hq => ?_, fun q k hq => ?_, fun q k q' hq hk hr => ?_⟩, fun q hq hx k => ?_, fun x hx => ?_⟩
  · rw [tn, gl_new, h1]
    by_cases z : q = K
    · rw [if_pos z, if_pos z, z, ht, hl]; exact ⟨rfl, rfl⟩
    · rw [if_neg z, if_neg z]; exact h3 q (by omega)
  · rw [gi_new, h1]
    rw [tn] at hq
    by_cases z : q = K
    · rw [if_pos z]; decide
    · rw [if_neg z] at hq ⊢; exact h4 q k hq
  · rw [gi_new, h1]
    rw [tn] at hq
    by_cases z : q = K
    · rw [if_pos z]; exact .inl rfl
    · rw [if_neg z] at hq ⊢; exact h5 q k hq
  · rw [gr_nw, h1] at hr
    rw [tn] at hk ⊢
    by_cases z : q = K
    · rw [if_pos z] at hr; cases hr
    · rw [if_neg z] at hr hk ⊢; exact h6 q k q' hq hk hr
  · have hne : q ≠ K := fun z => hx _ List.mem_cons_self z.symm
    rw [vn, if_neg hne]
    exact h7 q (by omega) (fun x hx' => hx x (List.mem_cons_of_mem _ hx')) k
  · rcases List.mem_cons.mp hx with z | z
    · rw [z]; exact ⟨by show K < K + 1; omega, fun k => by rw [vn, if_pos rfl]⟩
    · obtain ⟨x1, x2⟩ := h8 x z
      exact ⟨by omega, fun k => by rw [vn, if_neg (by omega)]; exact x2 k⟩
/-- a cell that isn't done is written -/
theorem BD.wr {u : Int} (h : BD V g K ((q, f) :: L)) (hn : ∀ x ∈ L, x.1 ≠ q) (h1 : gn g' = gn g) (ht : ∀ p, gt g' p = gt g p) (hl : ∀ p, gl g' p = gl g p) (h4 : C4g g') (hv : ∀ p j, vl g' p j = if p = q ∧ j = k then u else vl g p j) : BD V g' K ((q, upv f k u) :: L) := by
  obtain ⟨⟨a1, a2, a3, _⟩, a7, a8⟩ := h
  refine ⟨⟨h1.trans a1, a2, fun p hp => by rw [ht, hl]; exact a3 p hp, h4⟩, fun p hp hx j => ?_, fun x hx => ?_⟩
  · have hne : p ≠ q := fun z => hx _ List.mem_cons_self z.symm
    rw [hv, if_neg (fun z => hne z.1)]
    exact a7 p hp (fun x hx' => by
      rcases List.mem_cons.mp hx' with z | z
      · rw [z]; exact fun z => hne z.symm
      · exact hx x (List.mem_cons_of_mem _ z)) j
  · rcases List.mem_cons.mp hx with z | z
    · obtain ⟨x1, x2⟩ := a8 _ List.mem_cons_self
      rw [z]
      refine ⟨x1, fun j => ?_⟩
      show vl g' q j = upv f k u j
      rw [hv]
      unfold upv
      by_cases w : j = k
      · rw [if_pos ⟨rfl, w⟩, if_pos w]
      · rw [if_neg (fun y => w y.2), if_neg w]; exact x2 j
    · obtain ⟨x1, x2⟩ := a8 x (List.mem_cons_of_mem _ z)
      exact ⟨x1, fun j => by rw [hv, if_neg (fun y => hn x z y.1)]; exact x2 j⟩
theorem BD.hd (h : BD V g K ((q, f) :: L)) : q < K ∧ ∀ k, vl g q k = f k := h.2.2 _ List.mem_cons_self
theorem BD.wI (h : BD V g K ((q, f) :: L)) (hn : ∀ x ∈ L, x.1 ≠ q) (hs : sk (sty q) k = 0) (hb : sty q = 1 → inB v.toInt) (hz : zs (sty q) k = 1 → inZ v.toInt) : BD V (gwI g q k v) K ((q, upv f k v.toInt) :: L) := by
  have et : gt g q = sty q := (h.ty h.hd.1).1
  have h4 := h.1.2.2.2
  refine h.wr hn rfl (fun _ => rfl) (fun _ => rfl) ⟨fun p j hp => ?_, fun p j hp => ?_, fun p j q' a b c => h4.2.2 p j q' a b c⟩ (fun p j => ?_)
  · have hp : gt g p = 1 := hp
    rw [gi_w]
    by_cases z : p = q ∧ j = k
    · rw [if_pos z]; exact hb (by rw [← et, ← z.1]; exact hp)
    · rw [if_neg z]; exact h4.1 p j hp
  · have hp : zs (gt g p) j = 1 := hp
    rw [gi_w]
    by_cases z : p = q ∧ j = k
    · rw [if_pos z]; rw [z.1, z.2, et] at hp; exact hz hp
    · rw [if_neg z]; exact h4.2.1 p j hp
  · unfold vl
    show (if sk (gt g p) j = 0 then (gi (gwI g q k v) p j).toInt else if sk (gt g p) j = 1 then (gj g p j).toInt else rcd (gr g p j)) = _
    rw [gi_w]
    by_cases z : p = q ∧ j = k
    · rw [if_pos z, if_pos z, z.1, z.2, et, if_pos hs]
    · rw [if_neg z, if_neg z]
theorem BD.wL (h : BD V g K ((q, f) :: L)) (hn : ∀ x ∈ L, x.1 ≠ q) (hs : sk (sty q) k = 1) : BD V (gwL g q k z) K ((q, upv f k z.toInt) :: L) := by
  have et : gt g q = sty q := (h.ty h.hd.1).1
  have h4 := h.1.2.2.2
  refine h.wr hn rfl (fun _ => rfl) (fun _ => rfl) h4 (fun p j => ?_)
  unfold vl
  show (if sk (gt g p) j = 0 then (gi g p j).toInt else if sk (gt g p) j = 1 then (gj (gwL g q k z) p j).toInt else rcd (gr g p j)) = _
  rw [gj_w]
  by_cases y : p = q ∧ j = k
  · rw [if_pos y, if_pos y, y.1, y.2, et, if_neg (by omega), if_pos hs]
  · rw [if_neg y, if_neg y]
theorem BD.wR (h : BD V g K ((q, f) :: L)) (hn : ∀ x ∈ L, x.1 ≠ q) (hs : sk (sty q) k = 2) (hk : (lc p).1 = rk (sty q) k) : BD V (gwR g q k (some p)) K ((q, upv f k (lc p).2) :: L) := by
  have et : gt g q = sty q := (h.ty h.hd.1).1
  have h4 := h.1.2.2.2
  refine h.wr hn rfl (fun _ => rfl) (fun _ => rfl) ⟨h4.1, h4.2.1, fun a j q' b c d => ?_⟩ (fun a j => ?_)
  · have c : sk (gt g a) j = 2 := c
    show (lc q').1 = rk (gt g a) j
    rw [gr_w] at d
    by_cases y : a = q ∧ j = k
    · rw [if_pos y] at d
      rw [← Option.some.inj d, y.1, y.2, et]; exact hk
    · rw [if_neg y] at d; exact h4.2.2 a j q' b c d
  · unfold vl
    show (if sk (gt g a) j = 0 then (gi g a j).toInt else if sk (gt g a) j = 1 then (gj g a j).toInt else rcd (gr (gwR g q k (some p)) a j)) = _
    rw [gr_w]
    by_cases y : a = q ∧ j = k
    · rw [if_pos y, if_pos y, y.1, y.2, et, if_neg (by omega), if_neg (by omega)]; rfl
    · rw [if_neg y, if_neg y]
theorem BD.close (h : BD V g K ((q, f) :: L)) (hf : ∀ k, f k = V q k) : BD V g K L := by
  refine ⟨h.1, fun p hp hx k => ?_, fun x hx => h.2.2 x (List.mem_cons_of_mem _ hx)⟩
  by_cases y : p = q
  · rw [y, h.hd.2 k, hf]
  · exact h.2.1 p hp (fun x hx' => by
      rcases List.mem_cons.mp hx' with u | u
      · rw [u]; exact fun u => y u.symm
      · exact hx x u) k
theorem nnin (h : (L.map Prod.fst).contains q = false) : ∀ x ∈ L, x.1 ≠ q := fun x hx z => by
  have : (L.map Prod.fst).contains q = true := by rw [List.contains_iff_mem]; exact List.mem_map.mpr ⟨x, hx, z⟩
  rw [h] at this; cases this
theorem BD.sw {a b : Nat × (Nat → Int)} (h : BD V g K (a :: b :: L)) : BD V g K (b :: a :: L) := by
  have hm : ∀ x, x ∈ a :: b :: L ↔ x ∈ b :: a :: L := fun x => by simp only [List.mem_cons]; exact or_left_comm
  exact ⟨h.1, fun p hp hx k => h.2.1 p hp (fun x hx' => hx x ((hm x).mp hx')) k, fun x hx => h.2.2 x ((hm x).mpr hx)⟩
theorem BD.s2 {a b c : Nat × (Nat → Int)} (h : BD V g K (a :: b :: c :: L)) : BD V g K (a :: c :: b :: L) := by
  have hm : ∀ x, x ∈ a :: b :: c :: L ↔ x ∈ a :: c :: b :: L := fun x => by simp only [List.mem_cons]; rw [@or_left_comm (x = b)]
  exact ⟨h.1, fun p hp hx k => h.2.1 p hp (fun x hx' => hx x ((hm x).mp hx')) k, fun x hx => h.2.2 x ((hm x).mpr hx)⟩
theorem BD.sub (h : BD V g K L) {a : Nat × (Nat → Int)} (ha : a ∈ L) : a.1 < K ∧ ∀ k, vl g a.1 k = a.2 k := h.2.2 a ha
/-- whom a reference means -/
theorem BD.ref (h : BD V g K L) (hq : q < K) (hs : sk (sty q) k = 2) (hv : vl g q k = (lc p).2) (hk : (lc p).1 = rk (sty q) k) (h0 : 0 ≤ (lc p).2) : gr g q k = some p := by
  have et := (h.ty hq).1
  have har : ¬ ar q := fun z => by have := z.1; have := h.1.2.1; omega
  unfold vl at hv
  rw [et, if_neg (by omega), if_neg (by omega)] at hv
  cases hc : gr g q k with
  | none =>
    rw [hc] at hv
    have hv : (-1 : Int) = (lc p).2 := hv
    omega
  | some p' =>
    have h1 := h.1.2.2.2.2.2 q k p' har (by rw [et]; exact hs) hc
    rw [hc] at hv
    have hv : (lc p').2 = (lc p).2 := hv
    rw [et] at h1
    have e : lc p' = lc p := Prod.ext (h1.trans hk.symm) hv
    rw [lc_inj e]
theorem e_nO {F : Nat → g_S → Option α} (h : BD V g K L) (hK : K < 1838) (ht : sty K = t) (hl : sln K = 0) (c : ∀ g', BD V g' (K + 1) ((K, blk t) :: L) → ev (F K g') Q) : ev (c2 (nO g t) F) Q := by
  have e : nO g t = some (K, gnew g t 0) := by unfold nO; rw [h.1.1, if_pos (by omega)]
  rw [e]; exact c _ (h.new hK ht hl)
theorem e_nA {F : Nat → g_S → Option α} {x : Int32} (h : BD V g K L) (hK : K < 1838) (ht : sty K = t) (hl : sln K = x.toNatClampNeg) (hx : ¬ x < 0 ∧ x.toNatClampNeg * 8 ≤ 536870912) (c : ∀ g', BD V g' (K + 1) ((K, blk t) :: L) → ev (F K g') Q) : ev (c2 (nA g t x) F) Q := by
  have e : nA g t x = some (K, gnew g t x.toNatClampNeg) := by unfold nA; rw [h.1.1, if_pos ⟨hx.1, hx.2, by omega⟩]
  rw [e]; exact c _ (h.new hK ht hl)
theorem e_wI {F : g_S → Option α} {u : Int} (h : BD V g K ((q, f) :: L)) (hn : ∀ x ∈ L, x.1 ≠ q) (ht : sty q = t) (hs : sk t k = 0) (hb : t ≠ 1) (hz : zs t k = 0 ∨ v = 0 ∨ v = 1) (hu : v.toInt = u) (c : ∀ g', BD V g' K ((q, upv f k u) :: L) → ev (F g') Q) : ev ((wI g t q k v).bind F) Q := by
  have e : wI g t q k v = some (gwI g q k v) := by unfold wI; rw [(h.ty h.hd.1).1, if_pos ht]
  rw [e]
  rw [← hu] at c
  refine c _ (h.wI hn (by rw [ht]; exact hs) (fun y => absurd (ht.symm.trans y) hb) (fun y => ?_))
  rw [ht] at y
  rcases hz with z | z | z
  · omega
  · rw [z]; exact .inl rfl
  · rw [z]; exact .inr rfl
theorem e_wL {F : g_S → Option α} {u : Int} (h : BD V g K ((q, f) :: L)) (hn : ∀ x ∈ L, x.1 ≠ q) (ht : sty q = t) (hs : sk t k = 1) (hu : z.toInt = u) (c : ∀ g', BD V g' K ((q, upv f k u) :: L) → ev (F g') Q) : ev ((wL g t q k z).bind F) Q := by
  have e : wL g t q k z = some (gwL g q k z) := by unfold wL; rw [(h.ty h.hd.1).1, if_pos ht]
  rw [e]
  rw [← hu] at c
  exact c _ (h.wL hn (by rw [ht]; exact hs))
theorem e_wR {F : g_S → Option α} {u : Int} (h : BD V g K ((q, f) :: L)) (hn : ∀ x ∈ L, x.1 ≠ q) (ht : sty q = t) (hs : sk t k = 2) (hk : lc p = (rk t k, u)) (c : ∀ g', BD V g' K ((q, upv f k u) :: L) → ev (F g') Q) : ev ((wR g t q k (some p)).bind F) Q := by
  have e : wR g t q k (some p) = some (gwR g q k (some p)) := by unfold wR; rw [(h.ty h.hd.1).1, if_pos ht]
  rw [e]
  have hk1 : (lc p).1 = rk t k := by rw [hk]
  have hk2 : (lc p).2 = u := by rw [hk]
  rw [← hk2] at c
  exact c _ (h.wR hn (by rw [ht]; exact hs) (by rw [ht]; exact hk1))
theorem e_rQ {F : Nat → Option α} {u : Int} (h : BD V g K L) (hq : q < K) (ht : sty q = t) (hv : vl g q k = u) (hs : sk t k = 2) (hk : lc p = (rk t k, u)) (h0 : 0 ≤ u) (c : ev (F p) Q) : ev ((rQ g t q k).bind F) Q := by
  have e : rQ g t q k = some p := by unfold rQ; rw [(h.ty hq).1, if_pos ht]; exact h.ref hq (by rw [ht]; exact hs) (by rw [hk]; exact hv) (by rw [ht, hk]) (by rw [hk]; exact h0)
  rw [e]; exact c
theorem e_rI {F : Int32 → Option α} (h : BD V g K L) (hq : q < K) (ht : sty q = t) {u : Int} (hv : vl g q k = u) (hs : sk t k = 0) (c : ev (F (Int32.ofInt u)) Q) : ev ((rI g t q k).bind F) Q := by
  have e : rI g t q k = some (Int32.ofInt u) := by
    unfold rI
    rw [(h.ty hq).1, if_pos ht, ← hv]
    unfold vl
    rw [(h.ty hq).1, ht, if_pos hs, Int32.ofInt_toInt]
  rw [e]; exact c
theorem e_sQ {F : g_S → Option α} {i : Int32} {u : Int} (h : BD V g K ((q, f) :: L)) (hn : ∀ x ∈ L, x.1 ≠ q) (ht : sty q = t) (hp : p < K) (hpt : sty p = 100 + ab_aci t) (hi : ab_inb i (sln q) = true) (hj : i.toNatClampNeg = j) (hs : sk t j = 2) (hk : lc p = (rk t j, u)) (c : ∀ g', BD V g' K ((q, upv f j u) :: L) → ev (F g') Q) : ev ((sQ g t q i p).bind F) Q := by
  have e : sQ g t q i p = some (gwR g q j (some p)) := by unfold sQ; rw [(h.ty h.hd.1).1, (h.ty h.hd.1).2, (h.ty hp).1, if_pos ⟨ht, hpt, hi⟩, hj]
  rw [e]
  have hk1 : (lc p).1 = rk t j := by rw [hk]
  have hk2 : (lc p).2 = u := by rw [hk]
  rw [← hk2] at c
  exact c _ (h.wR hn (by rw [ht]; exact hs) (by rw [ht]; exact hk1))
theorem e_sB {F : g_S → Option α} {i x : Int32} (h : BD V g K ((q, f) :: L)) (hn : ∀ x ∈ L, x.1 ≠ q) (ht : sty q = 1) (hi : ab_inb i (sln q) = true) (hj : i.toNatClampNeg = j) (hx : vp_nar .byte x = v) {u : Int} (hu : v.toInt = u) (hb : inB u) (c : ∀ g', BD V g' K ((q, upv f j u) :: L) → ev (F g') Q) : ev ((sB g q i x).bind F) Q := by
  have e : sB g q i x = some (gwI g q j v) := by unfold sB; rw [(h.ty h.hd.1).1, (h.ty h.hd.1).2, if_pos ⟨ht, hi⟩, hj, hx]
  rw [e]
  rw [← hu] at c hb
  exact c _ (h.wI hn (by rw [ht]; rfl) (fun _ => hb) (fun y => by rw [ht] at y; exact absurd y (by show ¬ (0 = 1); decide)))
theorem e_vc {x : Option α} (h : BD V g K L) (hq : q < K) (ht : sty q = t) (c : ev x Q) : ev (vc g t q x) Q := by
  unfold vc
  rw [(h.ty hq).1, if_pos ht]; exact c
theorem e_vb {x : Option β} {F : β → Option α} (h : BD V g K L) (hq : q < K) (ht : sty q = t) (c : ev (x.bind F) Q) : ev ((vc g t q x).bind F) Q := by
  unfold vc
  rw [(h.ty hq).1, if_pos ht]; exact c
theorem e_it {σ : Type} {F : σ → Option (σ ⊕ α)} {s : σ} (h : ev (F s) (sp (fun s' => ev (it F s') Q) Q)) : ev (it F s) Q := by
  obtain ⟨c, hc, hq⟩ := h
  cases c with
  | inl s' => rw [it_inl hc]; exact hq
  | inr r => rw [it_inr hc]; exact ⟨r, rfl, hq⟩
/-- made otherwise -/
theorem BD.re {n' : NS} {L' : List (Nat × (Nat → Int))} (h : BD V g K L) (hR : RC False False g' n' m) (h90 : n' 90 0 0 = K) (h92 : n' 92 = nOf g 92) (h93 : n' 93 = nOf g 93) (hsm : ∀ q : Nat, q < K → (∀ x ∈ L', x.1 ≠ q) → (∀ x ∈ L, x.1 ≠ q) ∧ ∀ k : Nat, n' (lc q).1 (lc q).2 k = nOf g (lc q).1 (lc q).2 k) (hL : ∀ x ∈ L', x.1 < K ∧ ∀ k : Nat, n' (lc x.1).1 (lc x.1).2 k = x.2 k) : BD V g' K L' := by
  have hty := fun q hq => h.ty (q := q) hq
  obtain ⟨⟨h1, h2, h3, h4⟩, h7, h8⟩ := h
  obtain ⟨⟨r1, r2⟩, r3, r4, r5, _, _⟩ := hR
  have na : ∀ q, q < K → ¬ ar q := fun q hq z => by have := z.1; omega
  refine ⟨⟨by omega, h2, fun q hq => ?_, r5⟩, fun q hq hx k => ?_, fun x hx => ?_⟩
  · have a := (r4 q).1 (na q hq)
    have b := (((rc_of h4 : RC False False g (nOf g) m).2.2.1 q).1 (na q hq))
    rw [h92, h93] at a
    have c := hty q hq
    omega
  · obtain ⟨x1, x2⟩ := hsm q hq hx
    rw [← r3 q k (na q hq), x2 k, nOf_lc]
    exact h7 q hq x1 k
  · obtain ⟨y1, y2⟩ := hL x hx
    exact ⟨y1, fun k => by rw [← r3 x.1 k (na _ y1)]; exact y2 k⟩
theorem BD.again (h : BD V g K L) (hq : q < K) (hn : ∀ x ∈ L, x.1 ≠ q) : BD V g K ((q, V q) :: L) := by
  refine ⟨h.1, fun p hp hx k => h.2.1 p hp (fun x hx' => hx x (List.mem_cons_of_mem _ hx')) k, fun x hx => ?_⟩
  rcases List.mem_cons.mp hx with z | z
  · rw [z]; exact ⟨hq, fun k => h.2.1 q hq hn k⟩
  · exact h.2.2 x z
theorem BD.n92 (h : BD V g K L) (hq : q < K) : nOf g 92 0 q = sty q ∧ nOf g 93 0 q = sln q := by
  have na : ¬ ar q := fun z => by have := z.1; have := h.1.2.1; omega
  have b := (((rc_of (m := fun _ _ => 0) h.1.2.2.2).2.2.1 q).1 na)
  have c := h.ty hq
  omega
theorem BD.n99 (h : BD V g K L) (hq : lc q = (99, (q : Int))) {x : Nat × (Nat → Int)} (hx : x ∈ L) (hxq : x.1 = q) {s : Int} (hs : 0 ≤ s) : nOf g 99 q s = x.2 s.toNat := by
  have e := nOf_lc (g := g) (q := q) (k := s.toNat)
  rw [hq] at e
  rw [show ((s.toNat : Nat) : Int) = s by omega] at e
  rw [show nOf g 99 (q : Int) s = vl g q s.toNat from e, ← hxq]
  exact (h.2.2 x hx).2 s.toNat
theorem BD.c99 (h : BD V g K L) (hq : lc q = (99, (q : Int))) (hqK : q < K) (hx : ∀ x ∈ L, x.1 ≠ q) {s : Int} (hs : 0 ≤ s) : nOf g 99 q s = V q s.toNat := by
  have e := nOf_lc (g := g) (q := q) (k := s.toNat)
  rw [hq] at e
  rw [show ((s.toNat : Nat) : Int) = s by omega] at e
  rw [show nOf g 99 (q : Int) s = vl g q s.toNat from e]
  exact h.2.1 q hqK hx s.toNat
end YZG
