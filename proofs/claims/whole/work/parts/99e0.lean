/-! THE CALLS serialise, fault, found -/
/-- what the first j of those in a node say -/
def ouF (m : YS) (o e : Int → Int) (cf : Int → List Int) (t : Int) : Nat → List Int
  | 0 => []
  | j + 1 => ouF m o e cf t j ++ (SLv m (o (t + j)) ++ (if e (t + j) = t + j + 1 then ELv m (o (t + j)) ++ cf (t + j) else []))
/-- the class but for rows of bytes S, new cells, and its list -/
def FX (S : Int → Prop) (n n' : NS) : Prop :=
  (∀ K, K ≠ 4 → K ≠ 90 → K ≠ 91 → K ≠ 92 → K ≠ 93 → K ≠ 99 → K ≠ 7 → K ≠ 10 → K ≠ 22 → n' K = n K)
  ∧ (∀ v s, s ≠ 8 → s ≠ 9 → n' 7 v s = n 7 v s) ∧ (∀ s, s ≠ 3 → s ≠ 4 → n' 10 0 s = n 10 0 s)
  ∧ (∀ b, ¬ S b → n' 4 b = n 4 b) ∧ n 90 0 0 ≤ n' 90 0 0
  ∧ (∀ q, q < n 90 0 0 → n' 92 0 q = n 92 0 q ∧ n' 93 0 q = n 93 0 q)
  ∧ (∀ q, q < n 90 0 0 → (∀ b, S b → q ≠ n 4 b 1) → n' 99 q = n 99 q)
  ∧ (∀ b, S b → n' 4 b 1 = n 4 b 1 ∨ n 90 0 0 ≤ n' 4 b 1)
section E0a
variable {n n' n'' : NS} {S : Int → Prop} {A B b : Int}
theorem FX.fb (h : FB S n n') : FX S n n' := by
  have e7 := h.1 7 (by decide) (by decide) (by decide) (by decide) (by decide) (by decide)
  have e10 := h.1 10 (by decide) (by decide) (by decide) (by decide) (by decide) (by decide)
  exact ⟨fun K a1 a2 a3 a4 a5 a6 _ _ _ => h.1 K a1 a2 a3 a4 a5 a6, fun v s _ _ => by rw [e7], fun s _ _ => by rw [e10], h.2⟩
theorem FX.fl (h : FL n n') : FX S n n' := by
  have e := h.1
  refine ⟨fun K a1 a2 a3 a4 a5 a6 a7 a8 a9 => e K a7 a8 a9, h.2.1, h.2.2, ?_⟩
  rw [e 4 (by decide) (by decide) (by decide), e 90 (by decide) (by decide) (by decide), e 92 (by decide) (by decide) (by decide), e 93 (by decide) (by decide) (by decide), e 99 (by decide) (by decide) (by decide)]
  exact ⟨fun _ _ => rfl, Int.le_refl _, fun _ _ => ⟨rfl, rfl⟩, fun _ _ _ => rfl, fun _ _ => .inl rfl⟩
theorem FX.refl : FX S n n := FX.fb (FB.refl _ _)
theorem FX.trans (h : FX S n n') (h' : FX S n' n'') : FX S n n'' := by
  obtain ⟨k1, k2, k3, a2, a3, a4, a5, a6⟩ := h
  obtain ⟨l1, l2, l3, b2, b3, b4, b5, b6⟩ := h'
  refine ⟨fun K c1 c2 c3 c4 c5 c6 c7 c8 c9 => (l1 K c1 c2 c3 c4 c5 c6 c7 c8 c9).trans (k1 K c1 c2 c3 c4 c5 c6 c7 c8 c9), fun v s p q => (l2 v s p q).trans (k2 v s p q), fun s p q => (l3 s p q).trans (k3 s p q), fun b hb => (b2 b hb).trans (a2 b hb), Int.le_trans a3 b3, fun q hq => ?_, fun q hq hS => ?_, fun b hb => ?_⟩
  · have h1 := a4 q hq
    have h2 := b4 q (by omega)
    exact ⟨h2.1.trans h1.1, h2.2.trans h1.2⟩
  · rw [b5 q (by omega) (fun b hb => by have := a6 b hb; have := hS b hb; omega), a5 q hq hS]
  · have := a6 b hb
    have := b6 b hb
    omega
/-- a row that is not among them is as it was -/
theorem FX.bts (h : FX S n n') (hB : BI A B n) (hb : 0 ≤ b ∧ b ≤ 631) (hS : ¬ S b) (hv : ∀ x, S x → 0 ≤ x ∧ x ≤ 631) : n' 4 b = n 4 b ∧ n' 99 (n 4 b 1) = n 99 (n 4 b 1) ∧ bt n' b = bt n b := by
  have e1 := h.2.2.2.1 b hS
  have e2 : n' 99 (n 4 b 1) = n 99 (n 4 b 1) := h.2.2.2.2.2.2.1 _ (hB.1 b hb.1 hb.2).2.1.2 (fun x hx z => hS (by
    have := hv x hx
    rw [hB.2.1 b x hb.1 hb.2 this.1 this.2 z]; exact hx))
  refine ⟨e1, e2, ?_⟩
  unfold bt
  rw [e1, e2]
end E0a
section E0
variable {n n' : NS} {m m' : YS} {A B N t v x y kk : Int} {o e p : Int → Int} {l : List Int} {cf : Int → List Int} {yf : Int → Int}
theorem ouF_s {k : Int} (h : t ≤ k) : ouF m o e cf t (k + 1 - t).toNat = ouF m o e cf t (k - t).toNat ++ (SLv m (o k) ++ (if e k = k + 1 then ELv m (o k) ++ cf k else [])) := by
  rw [show (k + 1 - t).toNat = (k - t).toNat + 1 by omega]
  show ouF m o e cf t (k - t).toNat ++ (SLv m (o (t + ((k - t).toNat : Nat))) ++ (if e (t + ((k - t).toNat : Nat)) = t + ((k - t).toNat : Nat) + 1 then ELv m (o (t + ((k - t).toNat : Nat))) ++ cf (t + ((k - t).toNat : Nat)) else [])) = _
  rw [show t + (((k - t).toNat : Nat) : Int) = k by omega]
theorem c_print (hT : JT n m N o e p) (hL : LSt n N o e) (hB : BI A B n) (h0 : 0 ≤ t) (h1 : t < N) (hcf : ∀ x, t ≤ x → x < e t → CR (fun x => ELv m (o x)) e p t x (cf x) (yf x)) : ev (NL_Tree_print_25 (o t) 606 (e t) t n) (fun n' => AP A B 606 n n' (ouF m o e cf t (e t - t).toNat)) := by
  have hG := hT.1.1
  have hE := hG.eB h0 h1
  have hN := hG.N1
  unfold NL_Tree_print_25
  refine ev_it (fun s : Int × NS => t ≤ s.1 ∧ s.1 ≤ e t ∧ AP A B 606 n s.2 (ouF m o e cf t (s.1 - t).toNat)) (fun s => e t - s.1) (fun s hs => ?_) ⟨Int.le_refl _, by show t ≤ e t; omega, by show AP A B 606 n n (ouF m o e cf t (t - t).toNat); rw [show (t - t).toNat = 0 by omega]; exact AP.nil (by omega) hB⟩
  obtain ⟨k, n1⟩ := s
  obtain ⟨g1, g2, g3⟩ := hs
  simp only at g1 g2 g3
  show ev (nb_Tree_print_25 (o t) 606 (e t) k n1) _
  unfold nb_Tree_print_25
  refine ev_if (fun hlt => ?_) (fun hge => ?_)
  · have hok := hG.oB (k := k) (by omega) (by omega)
    have hek := hG.eB (k := k) (by omega) (by omega)
    have e7 := g3.2.1.1 7 (by decide) (by decide) (by decide) (by decide) (by decide) (by decide)
    have e22 := g3.2.1.1 22 (by decide) (by decide) (by decide) (by decide) (by decide) (by decide)
    have hd1 : ND n1 m (o k) := (hT.2.2.2 k (by omega) (by omega)).cg (YG.refl _ _) (NG.fb g3.2.1 hB (fun x hx => by omega) hok)
    have hlk := hT.1.2.2.2.2.1 k (by omega) (by omega)
    refine ev_ix (by omega) ?_
    rw [show n1 22 0 k = o k by rw [e22]; exact (hL.2 k (by omega) (by omega)).1]
    refine ev_bind (c_start g3.1 hd1 hok (by rw [e7]; exact hlk.1.1) ?_) (fun n2 a2 => ev_ix (by omega) ?_)
    · by_cases z : k = 0
      · left; rw [z]; exact hG.par0
      · right
        have q := hG.pB (k := k) (by omega) (by omega)
        have hop := hG.oB (k := p k) (by omega) (by omega)
        rw [hG.parE (k := k) (by omega) (by omega), e7]
        exact ⟨hop.1, hop.2, (hT.2.2.2 (p k) (by omega) (by omega)).1.1⟩
    · have hF2 := g3.2.1.trans a2.2.1
      have f7 := hF2.1 7 (by decide) (by decide) (by decide) (by decide) (by decide) (by decide)
      have f22 := hF2.1 22 (by decide) (by decide) (by decide) (by decide) (by decide) (by decide)
      rw [show n2 22 0 k = o k by rw [f22]; exact (hL.2 k (by omega) (by omega)).1]
      refine ev_bind (P := fun n3 => AP A B 606 n2 n3 (if e k = k + 1 then ELv m (o k) ++ cf k else [])) ?_ (fun n3 a3 => ev_ck (by omega) (ev_inl ⟨⟨by show t ≤ k + 1; omega, by show k + 1 ≤ e t; omega, ?_⟩, by show e t - (k + 1) < e t - k; omega, by show 0 ≤ e t - k; omega⟩))
      · by_cases hz : e k = k + 1
        · rw [if_pos hz]
          exact c_chain hT hL hB h0 h1 (hcf k g1 hlt) g1 hlt hz n2 a2.1 hF2
        · rw [if_neg hz]
          unfold NL_Tree_print_52
          refine ev_itu ?_
          show ev (nb_Tree_print_52 (o t) 606 (e t) k (o k) n2) _
          unfold nb_Tree_print_52
          rw [if_neg (by omega)]
          refine ev_ix hok (ev_ck (by omega) ?_)
          rw [show n2 7 (o k) 9 = e k by rw [f7]; exact (hL.2 k (by omega) (by omega)).2.2, if_neg hz]
          exact ev_ur (AP.nil (by omega) a2.1)
      · show AP A B 606 n n3 (ouF m o e cf t (k + 1 - t).toNat)
        rw [ouF_s g1]
        exact g3.trans (a2.trans a3)
  · refine ev_inr (show AP A B 606 n n1 (ouF m o e cf t (e t - t).toNat) from ?_)
    rw [show e t = k by omega]; exact g3
theorem y_print (hT : JT n m N o e p) (hP : JP m N o p) (h0 : 0 ≤ t) (h1 : t < N) (hb : 0 ≤ m 5 0 ∧ m 5 0 ≤ 8000) (hcf : ∀ x, t ≤ x → x < e t → CR (fun x => ELv m (o x)) e p t x (cf x) (yf x)) : ev (NL_Y_serialise_19 (o t) (o t) 1 m) (fun m' => SY1 m m' (ouF m o e cf t (e t - t).toNat)) := by
  have hG := hT.1.1
  have hE := hG.eB h0 h1
  have hN := hG.N1
  unfold NL_Y_serialise_19
  refine ev_itg (I := fun s z => (s.2.1 = 1 ∧ ∃ j, t ≤ j ∧ j < e t ∧ s.1 = o j ∧ z = e t - j ∧ SY1 m s.2.2 (ouF m o e cf t (j - t).toNat)) ∨ (s.2.1 = 0 ∧ z = 0 ∧ SY1 m s.2.2 (ouF m o e cf t (e t - t).toNat))) (fun s z hs => ?_) (x := e t - t) (.inl ⟨rfl, t, Int.le_refl _, by omega, rfl, rfl, by show SY1 m m (ouF m o e cf t (t - t).toNat); rw [show (t - t).toNat = 0 by omega]; exact SY1.nil hb⟩)
  obtain ⟨k, w, m1⟩ := s
  show ev (nb_Y_serialise_19 (o t) k w m1) _
  unfold nb_Y_serialise_19
  rcases hs with ⟨g0, j, g1, g2, g3, g4, g5⟩ | ⟨g0, g1, g2⟩
  · simp only at g0 g3 g5
    subst g0; subst g3
    have hok := hG.oB (k := j) (by omega) (by omega)
    have hek := hG.eB (k := j) (by omega) (by omega)
    have hF1 : FY [4, 5] m m1 := g5.1
    have hd := hT.2.2.2 j (by omega) (by omega)
    have hd1 : ND n m1 (o j) := hd.fy hF1
    -- behind its own beginning
    have rest : ∀ m2, SY1 m1 m2 (SLv m (o j)) → ev (nk_Y_serialise_92 (o t) (o j) 1 m2) (lg (fun (s : Int × Int × YS) z => (s.2.1 = 1 ∧ ∃ j, t ≤ j ∧ j < e t ∧ s.1 = o j ∧ z = e t - j ∧ SY1 m s.2.2 (ouF m o e cf t (j - t).toNat)) ∨ (s.2.1 = 0 ∧ z = 0 ∧ SY1 m s.2.2 (ouF m o e cf t (e t - t).toNat))) z (fun m' => SY1 m m' (ouF m o e cf t (e t - t).toNat))) := fun m2 a2 => by
      have hF2 : FY [4, 5] m m2 := hF1.trans a2.1
      have s2 := g5.trans a2
      unfold nk_Y_serialise_92
      refine ev_ix hok ?_
      rw [hF2 50 (by decide), hF2 46 (by decide), hG.fkE (k := j) (by omega) (by omega)]
      by_cases hz : j + 1 < e j
      · have hoj := hG.oB (k := j + 1) (by omega) (by omega)
        have hjt : e j ≤ e t := by
          by_cases zz : j = t
          · rw [zz]; exact Int.le_refl _
          · exact hG.nest h0 (by omega) g2 (by omega)
        rw [if_pos hz, if_neg (by omega)]
        refine ev_ix hok (ev_gl (.inl ⟨rfl, j + 1, by omega, by omega, rfl, rfl, ?_⟩) (by omega) (by omega))
        show SY1 m m2 (ouF m o e cf t (j + 1 - t).toNat)
        rw [ouF_s g1, if_neg (by omega), List.append_nil]; exact s2
      · have hz : e j = j + 1 := by omega
        have hcj := hcf j g1 g2
        obtain ⟨c1, c2, c3, c4⟩ := hcj.at hG h0 h1 g1 g2
        rw [if_neg (show ¬ j + 1 < e j by omega), if_pos rfl]
        -- behind all the ends
        have fin : ∀ m3, SY1 m2 m3 (ELv m (o j)) → ev ((NL_Y_serialise_128 (o t) (o j) m3).bind (u2 fun z9 m10 => nk_Y_serialise_158 (o t) z9 m10)) (lg (fun (s : Int × Int × YS) z => (s.2.1 = 1 ∧ ∃ j, t ≤ j ∧ j < e t ∧ s.1 = o j ∧ z = e t - j ∧ SY1 m s.2.2 (ouF m o e cf t (j - t).toNat)) ∨ (s.2.1 = 0 ∧ z = 0 ∧ SY1 m s.2.2 (ouF m o e cf t (e t - t).toNat))) z (fun m' => SY1 m m' (ouF m o e cf t (e t - t).toNat))) := fun m3 a3 => by
          refine ev_b2 (y_chain hT hP h0 h1 hcj g1 g2 m3 (hF2.trans a3.1) a3.2.1) (fun q m4 hq => ?_)
          obtain ⟨hq1, hq2⟩ := hq
          simp only at hq1 hq2
          have hF4 : FY [4, 5] m m4 := (hF2.trans a3.1).trans hq2.1
          have all : SY1 m m4 (ouF m o e cf t (j + 1 - t).toNat) := by
            rw [ouF_s g1, if_pos hz]
            exact g5.trans (a2.trans (a3.trans hq2))
          subst hq1
          unfold nk_Y_serialise_158 nk_Y_serialise_168
          by_cases hy : yf j = t
          · rw [if_pos (by rw [hy]), if_pos rfl]
            refine ev_gl (.inr ⟨rfl, rfl, ?_⟩) (by omega) (by omega)
            show SY1 m m4 (ouF m o e cf t (e t - t).toNat)
            rw [show e t = j + 1 by rw [← hy, c3, hz]]; exact all
          · have q0 := hG.pB (k := yf j) (by omega) (by omega)
            have q1 := hG.ep (k := yf j) (by omega) (by omega)
            have q2 := hG.inP (t := t) (k := yf j) h0 h1 (by omega) c2
            have q3 : e (p (yf j)) ≤ e t := by
              by_cases zz : p (yf j) = t
              · rw [zz]; exact Int.le_refl _
              · exact hG.nest h0 (by omega) (by omega) (by omega)
            have q4 := c4 hy
            rw [if_neg (fun z => hy (hG.inj (by omega) (by omega) h0 h1 z)), if_neg (by decide)]
            refine ev_ix (hG.oB (by omega) (by omega)) ?_
            rw [hF4 52 (by decide), hG.nxE (k := yf j) (by omega) (by omega), if_pos (by omega), c3, hz]
            exact ev_gl (.inl ⟨rfl, j + 1, by omega, by omega, rfl, rfl, all⟩) (by omega) (by omega)
        refine ev_ix hok ?_
        by_cases h17 : m 46 (o j) = 17
        · rw [if_pos h17]
          refine fin m2 ?_
          unfold ELv; rw [if_pos (.inl h17)]; exact SY1.nil a2.2.1
        · rw [if_neg h17]
          have hd2 : ND n m2 (o j) := hd.fy hF2
          refine ev_bind (y_end hd2 hok a2.2.1 (by rw [hF2 46 (by decide)]; exact h17)) (fun m3 a3 => fin m3 ?_)
          rw [(SLv_cg (v := o j) hF2).2] at a3; exact a3
    rw [if_neg (by decide)]
    refine ev_ix hok ?_
    rw [hF1 46 (by decide), hF1 49 (by decide), hF1 62 (by decide)]
    by_cases h17 : m 46 (o j) = 17
    · rw [if_pos h17]
      have ht := hd.2.2.2.2.1 h17
      have say : ∀ raw : Int, SLv m (o j) = (if raw = 0 then escL (txL m (o j)) else txL m (o j)) → ev (nk_Y_serialise_81 (o t) (o j) 1 raw (m 62 (o j)) (400 * o j) m1) (lg (fun (s : Int × Int × YS) z => (s.2.1 = 1 ∧ ∃ j, t ≤ j ∧ j < e t ∧ s.1 = o j ∧ z = e t - j ∧ SY1 m s.2.2 (ouF m o e cf t (j - t).toNat)) ∨ (s.2.1 = 0 ∧ z = 0 ∧ SY1 m s.2.2 (ouF m o e cf t (e t - t).toNat))) z (fun m' => SY1 m m' (ouF m o e cf t (e t - t).toNat))) := fun raw hr => by
        unfold nk_Y_serialise_81
        refine ev_bind (y_sayEsc (f := 61) (raw := raw) g5.2.1 (by decide) (by omega) (by omega) (by show _ ≤ (48000 : Int); omega) (by omega) (fun j a b => by
          rw [hF1 61 (by decide)]
          have := sg_all ht.2.1 a b
          omega)) (fun m2 a2 => rest m2 ?_)
        rw [hF1 61 (by decide)] at a2
        rw [hr]; exact a2
      unfold nk_Y_serialise_80
      refine ev_ck (by omega) (ev_ix hok (ev_ix hok ?_))
      by_cases hr : m 49 (o j) = -1
      · rw [if_pos hr]
        exact say 0 (by unfold SLv; rw [if_pos h17, if_neg (show ¬ (m 49 (o j) ≠ -1 ∧ m 46 (m 49 (o j)) = 15) from fun z => z.1 hr), if_pos rfl])
      · rw [if_neg hr]
        have hj0 : j ≠ 0 := fun z => hr (by rw [z]; exact hG.par0)
        have q0 := hG.pB (k := j) (by omega) (by omega)
        refine ev_ix hok (ev_ix (by rw [hG.parE (k := j) (by omega) (by omega)]; exact hG.oB (by omega) (by omega)) ?_)
        by_cases h15 : m 46 (m 49 (o j)) = 15
        · rw [if_pos h15]
          exact say 1 (by unfold SLv; rw [if_pos h17, if_pos ⟨hr, h15⟩, if_neg (by decide)])
        · rw [if_neg h15]
          exact say 0 (by unfold SLv; rw [if_pos h17, if_neg (show ¬ (m 49 (o j) ≠ -1 ∧ m 46 (m 49 (o j)) = 15) from fun z => h15 z.2), if_pos rfl])
    · rw [if_neg h17]
      refine ev_bind (y_begin hd1 hok g5.2.1 (by rw [hF1 46 (by decide)]; exact h17)) (fun m2 a2 => rest m2 ?_)
      rw [(SLv_cg (v := o j) hF1).1] at a2; exact a2
  · simp only at g0 g2
    rw [if_pos g0]
    exact ev_gr g2
theorem esc_in {c : Int} (h : 0 ≤ c ∧ c ≤ 127) : ∀ d ∈ esc c, 0 ≤ d ∧ d ≤ 127 := by
  unfold esc
  (repeat' split) <;> simp <;> omega
theorem escL_in (h : ∀ c ∈ l, 0 ≤ c ∧ c ≤ 127) : ∀ d ∈ escL l, 0 ≤ d ∧ d ≤ 127 := fun d hd => by
  unfold escL at hd
  obtain ⟨c, c1, c2⟩ := List.mem_flatMap.mp hd
  exact esc_in (h c c1) d c2
theorem atF_in (hd : ND n m v) : ∀ k : Nat, (k : Int) ≤ m 56 v → ∀ d ∈ atF m v k, 0 ≤ d ∧ d ≤ 127 := by
  intro k
  induction k with
  | zero => intro _ d hd; cases hd
  | succ k ih =>
    intro hk d h
    have ha := hd.2.2.2.1 k (by omega) (by omega)
    have h : d ∈ atF m v k ++ ([32] ++ (anL m v k ++ ([61] ++ ([34] ++ (escL (avL m v k) ++ [34]))))) := h
    simp only [List.mem_append, List.mem_singleton] at h
    rcases h with h | h | h | h | h | h | h
    · exact ih (by omega) d h
    · omega
    · have := ha.2.1 d h; omega
    · omega
    · omega
    · exact escL_in (fun c hc => by have := ha.2.2.2.2.1 c hc; omega) d h
    · omega
theorem SLv_in (hd : ND n m v) : (∀ d ∈ SLv m v, 0 ≤ d ∧ d ≤ 127) ∧ (∀ d ∈ ELv m v, 0 ≤ d ∧ d ≤ 127) := by
  unfold SLv ELv
  constructor
  · intro d h
    by_cases h17 : m 46 v = 17
    · rw [if_pos h17] at h
      have ht := hd.2.2.2.2.1 h17
      by_cases z : m 49 v ≠ -1 ∧ m 46 (m 49 v) = 15
      · rw [if_pos z] at h; have := ht.2.1 d h; omega
      · rw [if_neg z] at h
        exact escL_in (fun c hc => by have := ht.2.1 c hc; omega) d h
    · rw [if_neg h17] at h
      simp only [List.mem_append, List.mem_singleton] at h
      rcases h with h | h | h | h
      · omega
      · have := hd.2.1.2.2.1 d h; omega
      · exact atF_in hd _ (by have := hd.2.2.1; omega) d h
      · omega
  · intro d h
    by_cases z : m 46 v = 17 ∨ (10 ≤ m 46 v ∧ m 46 v ≤ 13)
    · rw [if_pos z] at h; cases h
    · rw [if_neg z] at h
      simp only [List.mem_append, List.mem_singleton] at h
      rcases h with h | h | h | h
      · omega
      · omega
      · have := hd.2.1.2.2.1 d h; omega
      · omega
theorem CR_in (hT : JT n m N o e p) (h0 : 0 ≤ t) (h1 : t < N) (hc : CR (fun x => ELv m (o x)) e p t x l y) : t ≤ x → x < e t → ∀ d ∈ l, 0 ≤ d ∧ d ≤ 127 := by
  have hG := hT.1.1
  have hE := hG.eB h0 h1
  refine CR.ind (M := fun x l y => t ≤ x → x < e t → ∀ d ∈ l, 0 ≤ d ∧ d ≤ 127) ?_ ?_ ?_ hc
  · intro _ _ d h; cases h
  · intro x z1 z2 _ _ d h; cases h
  · intro x y l z1 z2 z3 ih a b d h
    have q := hG.pB (k := x) (by omega) (by omega)
    have q2 := hG.inP (t := t) (k := x) h0 h1 (by omega) b
    rcases List.mem_append.mp h with h | h
    · exact (SLv_in (hT.2.2.2 (p x) (by omega) (by omega))).2 d h
    · exact ih q2 (by omega) d h
theorem ouF_in (hT : JT n m N o e p) (h0 : 0 ≤ t) (h1 : t < N) (hcf : ∀ x, t ≤ x → x < e t → CR (fun x => ELv m (o x)) e p t x (cf x) (yf x)) : ∀ k : Nat, t + (k : Int) ≤ e t → ∀ d ∈ ouF m o e cf t k, 0 ≤ d ∧ d ≤ 127 := by
  have hG := hT.1.1
  have hE := hG.eB h0 h1
  intro k
  induction k with
  | zero => intro _ d h; cases h
  | succ k ih =>
    intro hk d h
    have h : d ∈ ouF m o e cf t k ++ (SLv m (o (t + k)) ++ (if e (t + k) = t + k + 1 then ELv m (o (t + k)) ++ cf (t + k) else [])) := h
    have hs := SLv_in (hT.2.2.2 (t + k) (by omega) (by omega))
    rcases List.mem_append.mp h with h | h
    · exact ih (by omega) d h
    · rcases List.mem_append.mp h with h | h
      · exact hs.1 d h
      · by_cases z : e (t + k) = t + k + 1
        · rw [if_pos z] at h
          rcases List.mem_append.mp h with h | h
          · exact hs.2 d h
          · exact CR_in hT h0 h1 (hcf (t + k) (by omega) (by omega)) (by omega) (by omega) d h
        · rw [if_neg z] at h; cases h
/-- serialise: the class's list may be made anew -/
theorem call_serialise (hB : BI A B n) (hT : JT n m N o e p) (hP : JP m N o p) (hO : JOut n m) : ∃ r n' m', N_H_serialise v n = some (r, n') ∧ N_Y_serialise v m = some (r, m') ∧ BI A B n' ∧ JT n' m' N o e p ∧ JOut n' m' ∧ FX (fun x => x = 606) n n' ∧ FY [4, 5] m m' := by
  rcases hT.1.there v with ⟨a, b⟩ | ⟨a, b, t, k0, k1, kv⟩
  · refine ⟨-1, n, m, ?_, ?_, hB, hT, hO, FX.refl, FY.refl _ _⟩
    · unfold N_H_serialise; rw [b]; rfl
    · unfold N_Y_serialise; rw [a]; rfl
  · subst kv
    have hG := hT.1.1
    have hv := hG.oB k0 k1
    have hE := hG.eB k0 k1
    obtain ⟨n1, c1, c2, c3, c4⟩ := cs_clear (b := 606) (by omega) hB
    have hT1 : JT n1 m N o e p := hT.fb hB c3 (fun x hx => by omega) (fun f _ _ => rfl)
    obtain ⟨n2, l1, hT2, hL2, hF2, hB2⟩ := hT1.list c2
    have hex : ∀ x, ∃ q : List Int × Int, t ≤ x → x < e t → CR (fun x => ELv m (o x)) e p t x q.1 q.2 := fun x => by
      by_cases z : t ≤ x ∧ x < e t
      · obtain ⟨l, y, h⟩ := CR_ex (EL := fun x => ELv m (o x)) hG k0 k1 (x + 1).toNat x (by omega) z.1 z.2
        exact ⟨(l, y), fun _ _ => h⟩
      · exact ⟨([], 0), fun a b => absurd ⟨a, b⟩ z⟩
    obtain ⟨q, hq⟩ : ∃ q : Int → List Int × Int, ∀ x, t ≤ x → x < e t → CR (fun x => ELv m (o x)) e p t x (q x).1 (q x).2 := ⟨fun x => Classical.choose (hex x), fun x => Classical.choose_spec (hex x)⟩
    have hm8 : FY [4, 5] m (yw m 5 0 0) := fun f hf => yw_nF (fun z => hf (by simp [z]))
    have hT8 : JT n2 (yw m 5 0 0) N o e p := ⟨hT2.1.cg rfl rfl (fun f hf => hm8 f (by simp only [List.mem_cons, List.not_mem_nil, or_false]; omega)), hT2.2.1, hT2.2.2.1, fun k a b => (hT2.2.2.2 k a b).fy hm8⟩
    have hP8 : JP (yw m 5 0 0) N o p := by unfold JP; rw [hm8 46 (by decide)]; exact hP
    have hq8 : ∀ x, t ≤ x → x < e t → CR (fun x => ELv (yw m 5 0 0) (o x)) e p t x (q x).1 (q x).2 := by
      rw [show (fun x => ELv (yw m 5 0 0) (o x)) = (fun x => ELv m (o x)) from funext (fun x => (SLv_cg hm8).2)]; exact hq
    have eL : ouF (yw m 5 0 0) o e (fun x => (q x).1) t (e t - t).toNat = ouF m o e (fun x => (q x).1) t (e t - t).toNat := by
      have : ∀ k, ouF (yw m 5 0 0) o e (fun x => (q x).1) t k = ouF m o e (fun x => (q x).1) t k := by
        intro k
        induction k with
        | zero => rfl
        | succ k ih =>
          show ouF (yw m 5 0 0) o e (fun x => (q x).1) t k ++ (SLv (yw m 5 0 0) (o (t + k)) ++ (if e (t + k) = t + k + 1 then ELv (yw m 5 0 0) (o (t + k)) ++ (q (t + k)).1 else [])) = _
          rw [ih, (SLv_cg (v := o (t + k)) hm8).1, (SLv_cg (v := o (t + k)) hm8).2]; rfl
      exact this _
    have hC := c_print (cf := fun x => (q x).1) (yf := fun x => (q x).2) hT2 hL2 hB2 k0 k1 hq
    have hY := y_print (cf := fun x => (q x).1) (yf := fun x => (q x).2) hT8 hP8 k0 k1 (by rw [yw_eq]; omega) hq8
    rw [eL] at hY
    have hl := ouF_in (cf := fun x => (q x).1) (yf := fun x => (q x).2) hT k0 k1 hq (e t - t).toNat (by omega)
    have e4 := hF2.1 4 (by decide) (by decide) (by decide)
    have e99 := hF2.1 99 (by decide) (by decide) (by decide)
    have b2 : bt n2 606 = [] := by unfold bt at c4 ⊢; rw [e4, e99]; exact c4
    have hX : ev (N_H_serialise (o t) n) (fun r => ∃ n0, AP A B 606 n0 r.2 (ouF m o e (fun x => (q x).1) t (e t - t).toNat) ∧ bt n0 606 = [] ∧ FB (fun x => x = 606) n2 r.2 ∧ r.1 = r.2 4 606 2) := by
      unfold N_H_serialise N_Tree_print
      rw [b, c1]
      simp only [Option.bind_some]
      rw [if_neg (by decide), l1]
      simp only [Option.bind_some]
      unfold ix
      rw [if_pos hv, if_pos hv, bind_id, (hL2.2 t k0 k1).2.1, (hL2.2 t k0 k1).2.2]
      exact ev_bind hC (fun n3 h3 => ev_ok ⟨n2, h3, b2, h3.2.1, rfl⟩)
    have hYY : ev (N_Y_serialise (o t) m) (fun r => SY1 (yw m 5 0 0) r.2 (ouF m o e (fun x => (q x).1) t (e t - t).toNat) ∧ r.1 = r.2 5 0) := by
      unfold N_Y_serialise
      rw [a]
      simp only [Option.bind_some]
      rw [if_neg (by decide)]
      exact ev_st (ev_bind hY (fun m3 h3 => ev_ok ⟨h3, rfl⟩))
    obtain ⟨r, n', m', x1, x2, x3, x4, x5, x6⟩ := both_say hX hYY hl
    exact ⟨r, n', m', x1, x2, x3, hT2.fb hB2 x5 (fun x hx => by omega) (fun f _ _ => x6 f (by simp only [List.mem_cons, List.not_mem_nil, or_false]; omega)), x4, (FX.fb c3).trans ((FX.fl hF2).trans (FX.fb x5)), x6⟩
/-- faults, and what was found -/
def JF (n : NS) (m : YS) : Prop := n 8 0 3 = m 70 0 ∧ 0 ≤ m 70 0 ∧ m 70 0 ≤ 100000 ∧ ∀ j, 0 ≤ j → j < m 70 0 → j < 40 → n 28 0 j = m 71 j ∧ n 29 0 j = m 72 j
theorem call_fault (h : JF n m) : ∃ r, N_H_fault v x n = some r ∧ N_Y_fault v x m = some r := by
  unfold N_H_fault N_Y_fault ix
  rw [h.1]
  by_cases h0 : v < 0
  · rw [if_pos h0, if_pos h0]; exact ⟨_, rfl, rfl⟩
  · rw [if_neg h0, if_neg h0]
    by_cases h1 : v < m 70 0
    · by_cases h2 : v < 40
      · have := h.2.2.2 v (by omega) h1 h2
        rw [if_pos (show v < min (m 70 0) 40 by omega), if_pos h1, if_pos h2, if_pos (show 0 ≤ v ∧ v < 40 by omega), if_pos (show 0 ≤ v ∧ v < 40 by omega), this.1, this.2]
        by_cases h3 : x = 0
        · rw [if_pos h3, if_pos h3]
          first | exact ⟨_, rfl, rfl⟩ | exact ⟨_, rfl, if_pos (show 0 ≤ v ∧ v < 40 by omega)⟩
        · rw [if_neg h3, if_neg h3]
          by_cases h4 : x = 1
          · rw [if_pos h4, if_pos h4]
            first | exact ⟨_, rfl, rfl⟩ | exact ⟨_, rfl, if_pos (show 0 ≤ v ∧ v < 40 by omega)⟩
          · rw [if_neg h4, if_neg h4]; exact ⟨_, rfl, rfl⟩
      · rw [if_neg (show ¬ v < min (m 70 0) 40 by omega), if_pos h1, if_neg h2]; exact ⟨_, rfl, rfl⟩
    · rw [if_neg (show ¬ v < min (m 70 0) 40 by omega), if_neg h1]; exact ⟨_, rfl, rfl⟩
def JM (n : NS) (m : YS) : Prop := n 11 0 9 = m 185 0 ∧ 0 ≤ m 185 0 ∧ m 185 0 ≤ 120 ∧ ∀ j, 0 ≤ j → j < m 185 0 → n 47 0 j = m 184 j
theorem call_found (h : JM n m) : ∃ r, N_H_found v n = some r ∧ N_Y_found v m = some r := by
  unfold N_H_found N_Y_found ix
  rw [h.1]
  by_cases h0 : v < 0
  · rw [if_pos h0, if_pos h0]; exact ⟨_, rfl, rfl⟩
  · rw [if_neg h0, if_neg h0]
    by_cases h1 : v < m 185 0
    · have := h.2.2.2 v (by omega) h1
      have hq : 0 ≤ v ∧ v < 120 := ⟨by omega, by have := h.2.2.1; omega⟩
      rw [if_pos h1, if_pos h1, if_pos hq, if_pos hq, this]; exact ⟨_, rfl, rfl⟩
    · rw [if_neg h1, if_neg h1]; exact ⟨_, rfl, rfl⟩
end E0
