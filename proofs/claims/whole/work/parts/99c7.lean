/-! HOW MANY LIE IN ONE: when a node comes, when a node goes -/
section C7
variable {n n' n8 : NS} {m m' : YS} {N k b v t c J : Int} {o e p par fk nx : Int → Int}
theorem inK_iff {p p' : Int → Int} {K K' j j' : Int} (h : p j = K ↔ p' j' = K') : inK p K j = inK p' K' j' := by
  unfold inK
  by_cases z : p j = K
  · rw [if_pos z, if_pos (h.mp z)]
  · rw [if_neg z, if_neg (fun y => z (h.mpr y))]
theorem insP_gtS {E j : Int} (h : E ≤ j) : insP p k E (j + 1) = if p j < E then p j else p j + 1 := by
  unfold insP; rw [if_neg (by omega), if_neg (by omega), show j + 1 - 1 = j by omega]
theorem kct_ins0 (h : TG N o e p par fk nx) (h0 : 0 ≤ k) (h1 : k < N) : kct (insP p k (e k)) (N + 1) J = zsm (inK (insP p k (e k)) J) 1 (e k) + inK (insP p k (e k)) J (e k) + zsm (fun j => inK (insP p k (e k)) J (j + 1)) (e k) N := by
  have hk := h.eB h0 h1
  unfold kct
  rw [zsm_add (a := 1) (b := e k + 1) (c := N + 1) (by omega) (by omega), zsm_succ (by omega), zsm_sh]
theorem kct_ins1 (h : TG N o e p par fk nx) (h0 : 0 ≤ k) (h1 : k < N) (hJ : J < e k) : kct (insP p k (e k)) (N + 1) J = kct p N J + (if J = k then 1 else 0) := by
  have hk := h.eB h0 h1
  rw [kct_ins0 h h0 h1]
  have e1 : zsm (inK (insP p k (e k)) J) 1 (e k) = zsm (inK p J) 1 (e k) := zsm_cg (fun j a b => inK_iff (by rw [insP_lt b]))
  have e2 : zsm (fun j => inK (insP p k (e k)) J (j + 1)) (e k) N = zsm (inK p J) (e k) N := zsm_cg (fun j a b => inK_iff (by rw [insP_gtS a]; split <;> omega))
  have e3 : inK (insP p k (e k)) J (e k) = if J = k then 1 else 0 := by
    unfold inK; rw [insP_eq]
    by_cases z : J = k
    · rw [if_pos z, if_pos z.symm]
    · rw [if_neg z, if_neg (Ne.symm z)]
  rw [e1, e2, e3]
  unfold kct
  rw [zsm_add (g := inK p J) (a := 1) (b := e k) (c := N) (by omega) (by omega)]; omega
theorem kct_ins2 (h : TG N o e p par fk nx) (h0 : 0 ≤ k) (h1 : k < N) : kct (insP p k (e k)) (N + 1) (e k) = 0 := by
  have hk := h.eB h0 h1
  rw [kct_ins0 h h0 h1, zsm_z (fun j a b => inK_0 (by rw [insP_lt b]; have := h.pB (k := j) a (by omega); omega)), zsm_z (fun j a b => inK_0 (by rw [insP_gtS a]; split <;> omega)), inK_0 (by rw [insP_eq]; omega)]; rfl
theorem kct_ins3 (h : TG N o e p par fk nx) (h0 : 0 ≤ k) (h1 : k < N) (hJ : e k < J) : kct (insP p k (e k)) (N + 1) J = kct p N (J - 1) := by
  have hk := h.eB h0 h1
  rw [kct_ins0 h h0 h1, zsm_z (fun j a b => inK_0 (by rw [insP_lt b]; have := h.pB (k := j) a (by omega); omega)), inK_0 (by rw [insP_eq]; omega)]
  have e2 : zsm (fun j => inK (insP p k (e k)) J (j + 1)) (e k) N = zsm (inK p (J - 1)) (e k) N := zsm_cg (fun j a b => inK_iff (by rw [insP_gtS a]; split <;> omega))
  have e1 : zsm (inK p (J - 1)) 1 (e k) = 0 := zsm_z (fun j a b => inK_0 (by have := h.pB (k := j) a (by omega); omega))
  rw [e2]
  unfold kct
  rw [zsm_add (g := inK p (J - 1)) (a := 1) (b := e k) (c := N) (by omega) (by omega), e1]; omega
theorem kct_cut (h : TG N o e p par fk nx) (h1 : 1 ≤ k) (h2 : k < N) : kct p N J = zsm (inK p J) 1 k + inK p J k + zsm (inK p J) (k + 1) (e k) + zsm (fun j => inK p J (j + (e k - k))) k (N - (e k - k)) := by
  have hk := h.eB (k := k) (by omega) h2
  have := zsm_sh (g := inK p J) (a := k) (b := N - (e k - k)) (w := e k - k)
  rw [show k + (e k - k) = e k by omega, show N - (e k - k) + (e k - k) = N by omega] at this
  rw [← this]
  unfold kct
  rw [zsm_add (a := 1) (b := k) (c := N) (by omega) (by omega), zsm_add (a := k) (b := k + 1) (c := N) (by omega) (by omega), zsm_add (a := k + 1) (b := e k) (c := N) (by omega) (by omega), zsm_succ (Int.le_refl _), zsm_nil (Int.le_refl _)]
  omega
theorem kct_del1 (h : TG N o e p par fk nx) (h1 : 1 ≤ k) (h2 : k < N) (hJ : J < k) : kct (delP p k (e k - k)) (N - (e k - k)) J = kct p N J - (if J = p k then 1 else 0) := by
  have hk := h.eB (k := k) (by omega) h2
  rw [kct_cut h h1 h2]
  have e1 : zsm (inK (delP p k (e k - k)) J) 1 k = zsm (inK p J) 1 k := zsm_cg (fun j a b => inK_iff (by rw [delP_lt b]))
  have e2 : zsm (inK (delP p k (e k - k)) J) k (N - (e k - k)) = zsm (fun j => inK p J (j + (e k - k))) k (N - (e k - k)) := zsm_cg (fun j a b => inK_iff (by
    have := h.pout h1 h2 (j := j + (e k - k)) (by omega) (by omega)
    rw [delP_ge a]; split <;> omega))
  have e3 : zsm (inK p J) (k + 1) (e k) = 0 := zsm_z (fun j a b => inK_0 (by have := h.inP (t := k) (k := j) (by omega) h2 (by omega) b; omega))
  have e4 : inK p J k = if J = p k then 1 else 0 := by
    unfold inK
    by_cases z : J = p k
    · rw [if_pos z, if_pos z.symm]
    · rw [if_neg z, if_neg (Ne.symm z)]
  rw [e3, e4, ← e2, ← e1]
  unfold kct
  rw [zsm_add (a := 1) (b := k) (c := N - (e k - k)) (by omega) (by omega)]; omega
theorem kct_del2 (h : TG N o e p par fk nx) (h1 : 1 ≤ k) (h2 : k < N) (hJ : k ≤ J) : kct (delP p k (e k - k)) (N - (e k - k)) J = kct p N (J + (e k - k)) := by
  have hk := h.eB (k := k) (by omega) h2
  have hp := h.pB h1 h2
  rw [kct_cut h h1 h2]
  have e1 : zsm (inK (delP p k (e k - k)) J) 1 k = 0 := zsm_z (fun j a b => inK_0 (by rw [delP_lt b]; have := h.pB (k := j) a (by omega); omega))
  have e1' : zsm (inK p (J + (e k - k))) 1 k = 0 := zsm_z (fun j a b => inK_0 (by have := h.pB (k := j) a (by omega); omega))
  have e2 : zsm (inK (delP p k (e k - k)) J) k (N - (e k - k)) = zsm (fun j => inK p (J + (e k - k)) (j + (e k - k))) k (N - (e k - k)) := zsm_cg (fun j a b => inK_iff (by
    have := h.pout h1 h2 (j := j + (e k - k)) (by omega) (by omega)
    rw [delP_ge a]; split <;> omega))
  have e3 : zsm (inK p (J + (e k - k))) (k + 1) (e k) = 0 := zsm_z (fun j a b => inK_0 (by have := h.pB (k := j) (by omega) (by omega); omega))
  rw [e3, e1', inK_0 (by omega), ← e2]
  unfold kct
  rw [zsm_add (a := 1) (b := k) (c := N - (e k - k)) (by omega) (by omega), e1]; omega
/-- the class's count -/
def JK (n : NS) (N : Int) (o p : Int → Int) : Prop := ∀ k, 0 ≤ k → k < N → n 7 (o k) 6 = kct p N k
theorem JK.ge (h : JK n N o p) (hT : TG N o e p par fk nx) (h1 : 1 ≤ k) (h2 : k < N) : 1 ≤ n 7 (o (p k)) 6 ∧ n 7 (o (p k)) 6 ≤ 1000 := by
  have hp := hT.pB h1 h2
  have hN := hT.N1
  have hb := kct_b (p := p) (k := p k) hN.1
  have := kct_cut (J := p k) hT h1 h2
  have b1 := zsm_b (g := inK p (p k)) (a := 1) (b := k) (fun _ _ _ => inK_b) h1
  have hk := hT.eB (k := k) (by omega) h2
  have b2 := zsm_b (g := inK p (p k)) (a := k + 1) (b := e k) (fun _ _ _ => inK_b) (by omega)
  have b3 := zsm_b (g := fun j => inK p (p k) (j + (e k - k))) (a := k) (b := N - (e k - k)) (fun _ _ _ => inK_b) (by omega)
  rw [inK_1 rfl] at this
  rw [h (p k) (by omega) (by omega)]
  omega
theorem JK_new (h : JS n m N o e p) (hK : JK n N o p) (h0 : 0 ≤ k) (h1 : k < N) (hN : N < 120) : JK (newC n (frY m) (o k) t c) (N + 1) (insO o (e k) (frY m)) (insP p k (e k)) := by
  obtain ⟨hfr, hv0, hv1, hvm, hvn, hvo⟩ := h.fr hN
  have hT := h.1
  have hk := hT.eB h0 h1
  generalize hv : frY m = v at *
  have hlive := h.live h0 h1
  have hvq : v ≠ o k := fun z => hvo k h0 h1 z.symm
  have old : ∀ i, 0 ≤ i → i < N → newC n v (o k) t c 7 (o i) 6 = n 7 (o i) 6 + (if i = k then 1 else 0) := fun i a b => by
    rw [newC_7 hvq (hvo i a b), if_neg (by omega), if_neg (by omega), if_neg (by omega)]
    by_cases z : i = k
    · rw [if_pos ⟨by omega, rfl, by rw [z]⟩, if_pos z, z]
    · rw [if_neg (fun y => z (hT.inj a b h0 h1 y.2.2)), if_neg z]; omega
  intro j a b
  rcases ins_cases (o := o) (E := e k) (v := v) (j := j) with ⟨w, z⟩ | ⟨w, z⟩ | ⟨w, z⟩ <;> rw [z]
  · rw [old j a (by omega), kct_ins1 hT h0 h1 w, hK j a (by omega)]
  · rw [w, kct_ins2 hT h0 h1]; exact (newC_v (n := n) (t := t) (c := c) hvq).2.2.2.2.2.2.1
  · rw [old (j - 1) (by omega) (by omega), kct_ins3 hT h0 h1 w, hK (j - 1) (by omega) (by omega), if_neg (by omega)]; omega
theorem JK_del (h : JS n m N o e p) (hK : JK n N o p) (h1 : 1 ≤ k) (h2 : k < N) (c1 : FL n n8) (c2 : PV o e p (p k) k b) (c3 : ∀ u s, s ≠ 0 → n' 7 u s = cutC n8 (o k) (o (p k)) b 7 u s) : JK n' (N - (e k - k)) (delO o k (e k - k)) (delP p k (e k - k)) := by
  have hT := h.1
  have hp := hT.pB h1 h2
  have hk := hT.eB (k := k) (by omega) h2
  obtain ⟨q1, q2, q3, q4⟩ := c2.bf hT h.2.2.1 h1 h2
  have old : ∀ i, 0 ≤ i → i < N → n' 7 (o i) 6 = n 7 (o i) 6 - (if i = p k then 1 else 0) := fun i a b => by
    rw [c3 _ 6 (by decide), cutC_7 (Ne.symm q3), if_neg (by omega), if_neg (by omega), if_neg (by omega)]
    by_cases z : i = p k
    · rw [if_pos ⟨rfl, by rw [z]⟩, if_pos z, z, c1.2.1 _ 6 (by decide) (by decide)]
    · rw [if_neg (fun y => z (hT.inj a b (by omega) (by omega) y.2)), if_neg z, c1.2.1 _ 6 (by decide) (by decide)]; omega
  intro j a b
  rcases Int.lt_or_le j k with u | u
  · rw [delO_lt u, old j a (by omega), hK j a (by omega), kct_del1 hT h1 h2 u]
  · rw [delO_ge u, old _ (by omega) (by omega), hK _ (by omega) (by omega), kct_del2 hT h1 h2 u, if_neg (by omega)]; omega
end C7
