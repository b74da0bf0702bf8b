/-! A NODE COMES into both trees: the links stay alike -/
section C1
variable {n : NS} {m : YS} {N k t c : Int} {o e p : Int → Int}
theorem JS.last (h : JS n m N o e p) (h0 : 0 ≤ k) (h1 : k < N) : (e k = k + 1 ∧ m 51 (o k) = -1) ∨ (∃ j, k < j ∧ j < N ∧ p j = k ∧ e j = e k ∧ m 51 (o k) = o j) := by
  have hk := h.1.eB h0 h1
  by_cases hc : k + 1 < e k
  · obtain ⟨j, a, b, c, d⟩ := h.1.last h0 h1 hc
    exact .inr ⟨j, a, by omega, c, d, h.2.1.2 k j h0 a (by omega) c d⟩
  · exact .inl ⟨by omega, h.2.1.1 k h0 h1 (by omega)⟩
/-- the tree with a new node last in the one at place k -/
theorem JS_new (h : JS n m N o e p) (h0 : 0 ≤ k) (h1 : k < N) (hN : N < 120) (hd : m 54 (o k) < 20) (ht : t ≠ -1) : JS (newC n (frY m) (o k) t c) (newY m (frY m) (o k) (m 54 (o k) + 1)) (N + 1) (insO o (e k) (frY m)) (insE e k (e k)) (insP p k (e k)) := by
  obtain ⟨hfr, hv0, hv1, hvm, hvn, hvo⟩ := h.fr hN
  have hT := h.1
  have hk := hT.eB h0 h1
  generalize hv : frY m = v at *
  have hlive := h.live h0 h1
  have hvq : v ≠ o k := fun z => hvo k h0 h1 z.symm
  have hq1 : o k ≠ -1 := by omega
  have hlast := h.last h0 h1
  have hln : n 7 (o k) 4 = m 51 (o k) := (h.2.2.2.2.1 k h0 h1).1.2.2.1
  have hlv : m 51 (o k) ≠ v := by
    rcases hlast with ⟨_, z⟩ | ⟨j, a, b, _, _, z⟩
    · omega
    · rw [z]; exact hvo j (by omega) b
  have nv := newY_v (m := m) (d := m 54 (o k) + 1) hvq
  have cv := newC_v (n := n) (t := t) (c := c) hvq
  have TGn := TG_ins (v := v) (par' := newY m v (o k) (m 54 (o k) + 1) 49) (fk' := newY m v (o k) (m 54 (o k) + 1) 50) (nx' := newY m v (o k) (m 54 (o k) + 1) 52) hT h0 h1 hN ⟨hv0, hv1⟩ hvo
    (fun j a b => newY_o hvq (fun z => hvo j a b z.1) (by decide) (by decide)) nv.2.2.2.1
    (fun j a b cc => by
      rw [newY_50 hvq (hvo j a b), if_neg (fun z => cc (hT.inj a b h0 h1 z.1))])
    (by
      rw [newY_50 hvq (Ne.symm hvq)]
      rcases hlast with ⟨z1, z2⟩ | ⟨j, a, b, z1, z2, z3⟩
      · rw [if_pos ⟨rfl, hq1, z2⟩, if_pos z1]
      · have := h.live (k := j) (by omega) b
        have hj := hT.eB (k := j) (by omega) b
        rw [if_neg (fun z => by omega), if_neg (by omega)]) nv.2.2.2.2.1
    (fun j a b cc => by
      rw [newY_52 hvq (hvo j a b)]
      refine if_neg (fun z => ?_)
      rcases hlast with ⟨z1, z2⟩ | ⟨i, a', b', z1, z2, z3⟩
      · exact z.2.1 z2
      · rw [z3] at z
        have := hT.inj a b (by omega) b' z.2.2
        subst this
        exact cc ⟨a', z1, z2⟩)
    (fun j a b cc dd => by
      have hlk := h.2.1.2 k j h0 a b cc dd
      have := h.live (k := j) (by omega) b
      rw [newY_52 hvq (hvo j (by omega) b), if_pos ⟨hq1, by omega, hlk.symm⟩])
    (nv.2.2.2.2.2.2.1 hlv)
  have TLn := TL_ins (v := v) (lk' := newY m v (o k) (m 54 (o k) + 1) 51) hT h.2.1 h0 h1
    (fun j a b cc => by rw [newY_51 hvq (hvo j a b), if_neg (fun z => cc (hT.inj a b h0 h1 z.1))])
    (by rw [newY_51 hvq (Ne.symm hvq), if_pos ⟨rfl, hq1⟩]) nv.2.2.2.2.2.1
  have TBn := TB_ins (v := v) (bf' := newY m v (o k) (m 54 (o k) + 1) 53) hT h.2.1 h.2.2.1 h0 h1
    (fun j a b => newY_o hvq (fun z => hvo j a b z.1) (by decide) (by decide))
    (by rw [nv.2.2.2.2.2.2.2.1, if_neg hq1])
  refine ⟨TGn, TLn, TBn, fun u a b => ?_, fun j a b => ?_, ?_, ?_, ?_, ?_⟩
  · by_cases hu : u = v
    · subst hu
      rw [nv.1, cv.1]
      exact ⟨.inl rfl, ⟨fun _ => ⟨e k, by omega, by omega, insO_eq⟩, fun _ => rfl⟩, ⟨fun z => absurd z ht, fun z => by omega⟩⟩
    · have hx := h.2.2.2.1 u a b
      rw [newY_o hvq (fun z => hu z.1) (by decide) (by decide), newC_7 hvq hu, if_neg (by omega), if_neg (by omega), if_neg (by omega), if_neg (by omega)]
      refine ⟨hx.1, hx.2.1.trans ⟨fun ⟨j, a1, a2, a3⟩ => ?_, fun ⟨j, a1, a2, a3⟩ => ?_⟩, hx.2.2⟩
      · by_cases hj : j < e k
        · exact ⟨j, a1, by omega, by rw [insO_lt hj]; exact a3⟩
        · exact ⟨j + 1, by omega, by omega, by rw [insO_gt (by omega), show j + 1 - 1 = j by omega]; exact a3⟩
      · rcases ins_cases (o := o) (E := e k) (v := v) (j := j) with ⟨w, z⟩ | ⟨w, z⟩ | ⟨w, z⟩
        · exact ⟨j, a1, by omega, by rw [← z]; exact a3⟩
        · rw [z] at a3; exact absurd a3.symm hu
        · exact ⟨j - 1, by omega, by omega, by rw [← z]; exact a3⟩
  · have old : ∀ i, 0 ≤ i → i < N → lnk (newC n v (o k) t c) (newY m v (o k) (m 54 (o k) + 1)) (o i) := fun i a b => by
      have hi := h.2.2.2.2.1 i a b
      have hne := hvo i a b
      have e7 : ∀ s, s ≠ 3 → s ≠ 5 → s ≠ 4 → s ≠ 6 → newC n v (o k) t c 7 (o i) s = n 7 (o i) s := fun s s1 s2 s3 s4 => by
        rw [newC_7 hvq hne, if_neg (fun z => s1 z.2.1), if_neg (fun z => s2 z.2.1), if_neg (fun z => s3 z.2.1), if_neg (fun z => s4 z.2.1)]
      have em : ∀ f, f ≠ 68 → f ≠ 69 → f ≠ 50 → f ≠ 51 → f ≠ 52 → newY m v (o k) (m 54 (o k) + 1) f (o i) = m f (o i) := fun f f1 f2 f3 f4 f5 => newY_o hvq (fun z => hne z.1) ⟨f1, f2⟩ ⟨f3, f4, f5⟩
      have e69 : newY m v (o k) (m 54 (o k) + 1) 69 0 = m 69 0 + 1 := nv.2.2.2.2.2.2.2.2.2.2.2.2.2.2.2
      refine ⟨⟨?_, ?_, ?_, ?_, ?_, ?_⟩, ?_, ?_, ?_, ?_⟩
      · rw [e7 2 (by decide) (by decide) (by decide) (by decide), em 49 (by decide) (by decide) (by decide) (by decide) (by decide)]; exact hi.1.1
      · rw [newC_7 hvq hne, newY_50 hvq hne, hln]
        by_cases z : o i = o k ∧ o k ≠ -1 ∧ m 51 (o k) = -1
        · rw [if_pos ⟨z.2.1, rfl, z.1, z.2.2⟩, if_pos z]
        · rw [if_neg (fun y => z ⟨y.2.2.1, y.1, y.2.2.2⟩), if_neg (fun y => by omega), if_neg (fun y => by omega), if_neg (fun y => by omega), if_neg z]; exact hi.1.2.1
      · rw [newC_7 hvq hne, newY_51 hvq hne]
        by_cases z : o i = o k ∧ o k ≠ -1
        · rw [if_neg (fun y => by omega), if_neg (fun y => by omega), if_pos ⟨z.2, rfl, z.1⟩, if_pos z]
        · rw [if_neg (fun y => by omega), if_neg (fun y => by omega), if_neg (fun y => z ⟨y.2.2, y.1⟩), if_neg (fun y => by omega), if_neg z]; exact hi.1.2.2.1
      · rw [newC_7 hvq hne, newY_52 hvq hne, hln]
        by_cases z : o k ≠ -1 ∧ m 51 (o k) ≠ -1 ∧ o i = m 51 (o k)
        · rw [if_neg (fun y => by omega), if_pos ⟨z.1, rfl, z.2⟩, if_pos z]
        · rw [if_neg (fun y => by omega), if_neg (fun y => z ⟨y.1, y.2.2⟩), if_neg (fun y => by omega), if_neg (fun y => by omega), if_neg z]; exact hi.1.2.2.2.1
      · rw [e7 7 (by decide) (by decide) (by decide) (by decide), em 54 (by decide) (by decide) (by decide) (by decide) (by decide)]; exact hi.1.2.2.2.2.1
      · rw [e7 10 (by decide) (by decide) (by decide) (by decide), em 55 (by decide) (by decide) (by decide) (by decide) (by decide)]; exact hi.1.2.2.2.2.2
      · rw [em 54 (by decide) (by decide) (by decide) (by decide) (by decide)]; exact hi.2.1
      · rw [em 54 (by decide) (by decide) (by decide) (by decide) (by decide)]; exact hi.2.2.1
      · rw [em 55 (by decide) (by decide) (by decide) (by decide) (by decide)]; exact hi.2.2.2.1
      · rw [em 55 (by decide) (by decide) (by decide) (by decide) (by decide), e69]; have := hi.2.2.2.2; omega
    rcases ins_cases (o := o) (E := e k) (v := v) (j := j) with ⟨w, z⟩ | ⟨w, z⟩ | ⟨w, z⟩ <;> rw [z]
    · exact old j a (by omega)
    · have hp := h.2.2.2.2.1 k h0 h1
      unfold lnk
      rw [cv.2.2.1, cv.2.2.2.1, cv.2.2.2.2.1, cv.2.2.2.2.2.1 (by rw [hln]; exact hlv), cv.2.2.2.2.2.2.2.1, cv.2.2.2.2.2.2.2.2.1, nv.2.2.2.1, nv.2.2.2.2.1, nv.2.2.2.2.2.1, nv.2.2.2.2.2.2.1 hlv, nv.2.2.1, nv.2.1, if_neg hq1, nv.2.2.2.2.2.2.2.2.2.2.2.2.2.2.2]
      have hb := h.2.2.2.2.2
      exact ⟨⟨rfl, rfl, rfl, rfl, by rw [hp.1.2.2.2.2.1], by rw [hb.2.2.1]⟩, by have := hp.2.1; omega, by omega, by have := hb.2.2.2; omega, by omega⟩
    · exact old (j - 1) (by omega) (by omega)
  · rw [newC_10, if_pos rfl, h.2.2.2.2.2.1]
  · rw [nv.2.2.2.2.2.2.2.2.2.2.2.2.2.2.1, h.2.2.2.2.2.2.1]
  · rw [newC_10, if_neg (by decide), if_neg (by decide), if_pos rfl, nv.2.2.2.2.2.2.2.2.2.2.2.2.2.2.2, h.2.2.2.2.2.2.2.1]
  · rw [nv.2.2.2.2.2.2.2.2.2.2.2.2.2.2.2]; have := h.2.2.2.2.2.2.2.2; omega
end C1
