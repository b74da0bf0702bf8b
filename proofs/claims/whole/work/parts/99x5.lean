/-! THE KIDS of a block: the first that is laid, the last; MARGINS that join, in both -/
/-- the first kid of k that is laid, among those before j -/
def FKj (m : YS) (o p : Int → Int) (k f j : Int) : Prop := (f = -1 ∧ ∀ r, k < r → r < j → p r = k → m 107 (o r) = 0) ∨ (∃ q, (k < q ∧ q < j) ∧ p q = k ∧ o q = f ∧ m 107 (o q) ≠ 0 ∧ ∀ r, k < r → r < q → p r = k → m 107 (o r) = 0)
def LKj (m : YS) (o p : Int → Int) (k l j : Int) : Prop := (l = -1 ∧ ∀ r, k < r → r < j → p r = k → m 107 (o r) = 0) ∨ (∃ q, (k < q ∧ q < j) ∧ p q = k ∧ o q = l ∧ m 107 (o q) ≠ 0 ∧ ∀ r, q < r → r < j → p r = k → m 107 (o r) = 0)
/-- the class's links and looks -/
def PHC (n : NS) (m : YS) (N : Int) (o : Int → Int) : Prop := (∀ r, 0 ≤ r → r < N → n 7 (o r) 2 = m 49 (o r) ∧ n 7 (o r) 3 = m 50 (o r) ∧ n 7 (o r) 5 = m 52 (o r)) ∧ LKs n m N o
section X5
variable {n n' n'' nc : NS} {m m' m'' : YS} {A B N a b c x y q s E F F' v wd u w t k j r v3 v4 v5 v7 x1 x2 x3 x4 x5 x6 f l f' l' : Int} {o e p : Int → Int}
theorem FKj.un (h : FKj m o p k f j) (h' : FKj m o p k f' j) : f = f' := by
  rcases h with ⟨a1, a2⟩ | ⟨q, a1, a2, a3, a4, a5⟩ <;> rcases h' with ⟨b1, b2⟩ | ⟨q', b1, b2, b3, b4, b5⟩
  · omega
  · exact absurd (a2 q' b1.1 b1.2 b2) b4
  · exact absurd (b2 q a1.1 a1.2 a2) a4
  · have : q = q' := by
      rcases Int.lt_trichotomy q q' with z | z | z
      · exact absurd (b5 q a1.1 z a2) a4
      · exact z
      · exact absurd (a5 q' b1.1 z b2) b4
    rw [← a3, ← b3, this]
theorem LKj.un (h : LKj m o p k l j) (h' : LKj m o p k l' j) : l = l' := by
  rcases h with ⟨a1, a2⟩ | ⟨q, a1, a2, a3, a4, a5⟩ <;> rcases h' with ⟨b1, b2⟩ | ⟨q', b1, b2, b3, b4, b5⟩
  · omega
  · exact absurd (a2 q' b1.1 b1.2 b2) b4
  · exact absurd (b2 q a1.1 a1.2 a2) a4
  · have : q = q' := by
      rcases Int.lt_trichotomy q q' with z | z | z
      · exact absurd (a5 q' z b1.2 b2) b4
      · exact z
      · exact absurd (b5 q z a1.2 a2) a4
    rw [← a3, ← b3, this]
/-- one kid further -/
theorem kid_step (hG : TG N o e p (m 49) (m 50) (m 52)) (k0 : 0 ≤ k) (hkN : k < N) (hj : k < j ∧ j < e k) (hp : p j = k) (hr : j < r ∧ r < e j) : p r ≠ k := fun z => by
  have hE := hG.eB k0 hkN
  have := hG.inP (t := j) (k := r) (by omega) (by omega) hr.1 hr.2
  omega
theorem FKj.zero (hG : TG N o e p (m 49) (m 50) (m 52)) (k0 : 0 ≤ k) (hkN : k < N) (hj : k < j ∧ j < e k) (hp : p j = k) (h0 : m 107 (o j) = 0) (h : FKj m o p k f j) : FKj m o p k f (e j) := by
  have hEj := hG.eB (k := j) (by omega) (by have := hG.eB k0 hkN; omega)
  rcases h with ⟨a1, a2⟩ | ⟨q, a1, a2, a3, a4, a5⟩
  · refine .inl ⟨a1, fun r x y z => ?_⟩
    rcases Int.lt_trichotomy r j with w | w | w
    · exact a2 r x w z
    · rw [w]; exact h0
    · exact absurd z (kid_step hG k0 hkN hj hp ⟨w, y⟩)
  · exact .inr ⟨q, ⟨a1.1, by omega⟩, a2, a3, a4, a5⟩
theorem LKj.zero (hG : TG N o e p (m 49) (m 50) (m 52)) (k0 : 0 ≤ k) (hkN : k < N) (hj : k < j ∧ j < e k) (hp : p j = k) (h0 : m 107 (o j) = 0) (h : LKj m o p k l j) : LKj m o p k l (e j) := by
  have hEj := hG.eB (k := j) (by omega) (by have := hG.eB k0 hkN; omega)
  have key : ∀ r, j ≤ r → r < e j → p r = k → m 107 (o r) = 0 := fun r x y z => by
    by_cases w : r = j
    · rw [w]; exact h0
    · exact absurd z (kid_step hG k0 hkN hj hp ⟨by omega, y⟩)
  rcases h with ⟨a1, a2⟩ | ⟨q, a1, a2, a3, a4, a5⟩
  · refine .inl ⟨a1, fun r x y z => ?_⟩
    by_cases w : r < j
    · exact a2 r x w z
    · exact key r (by omega) y z
  · refine .inr ⟨q, ⟨a1.1, by omega⟩, a2, a3, a4, fun r x y z => ?_⟩
    by_cases w : r < j
    · exact a5 r x w z
    · exact key r (by omega) y z
theorem FKj.one (hG : TG N o e p (m 49) (m 50) (m 52)) (k0 : 0 ≤ k) (hkN : k < N) (hj : k < j ∧ j < e k) (hp : p j = k) (h0 : m 107 (o j) ≠ 0) (h : FKj m o p k f j) : FKj m o p k (if f = -1 then o j else f) (e j) := by
  have hEj := hG.eB (k := j) (by omega) (by have := hG.eB k0 hkN; omega)
  rcases h with ⟨a1, a2⟩ | ⟨q, a1, a2, a3, a4, a5⟩
  · rw [if_pos a1]
    exact .inr ⟨j, ⟨hj.1, by omega⟩, hp, rfl, h0, a2⟩
  · have := hG.oB (k := q) (by omega) (by have := hG.eB k0 hkN; omega)
    rw [if_neg (by omega)]
    exact .inr ⟨q, ⟨a1.1, by omega⟩, a2, a3, a4, a5⟩
theorem LKj.one (hG : TG N o e p (m 49) (m 50) (m 52)) (k0 : 0 ≤ k) (hkN : k < N) (hj : k < j ∧ j < e k) (hp : p j = k) (h0 : m 107 (o j) ≠ 0) : LKj m o p k (o j) (e j) := by
  have hEj := hG.eB (k := j) (by omega) (by have := hG.eB k0 hkN; omega)
  exact .inr ⟨j, ⟨hj.1, by omega⟩, hp, rfl, h0, fun r x y z => absurd z (kid_step hG k0 hkN hj hp ⟨x, y⟩)⟩
/-- the class's look -/
theorem c_look (hL : LKs n m N o) (r0 : 0 ≤ r) (r1 : r < N) (ho : 0 ≤ o r ∧ o r < 120) (h17 : m 46 (o r) ≠ 17) {pr : Int} (hp : 0 ≤ pr ∧ pr < 11) : N_Layout_look (o r) pr n = some (m 105 (11 * o r + pr)) := by
  have h := (hL r r0 r1 h17 pr hp.1 hp.2).1
  unfold N_Layout_look
  rw [ck_e _ (by omega), ck_e _ (by omega), ix_e _ (by omega), show o r * 11 + pr = 11 * o r + pr by omega, h]
/-- the class: the first and the last that is laid -/
theorem c_kids (hC : CTX n m N o e p k) (hP : PHC n m N o) (k0 : 0 ≤ k) (hkN : k < N) : ∀ (z : Nat) (j f l : Int), (e k - j).toNat ≤ z → k < j → j ≤ e k → (j < e k → p j = k) → FKj m o p k f j → LKj m o p k l j → ∃ f' l', NL_Layout_joinMargins_107 x1 x2 f l (if j < e k then o j else -1) n = some (f', l') ∧ FKj m o p k f' (e k) ∧ LKj m o p k l' (e k) := by
  have hG := hC.1
  have hE := hG.eB k0 hkN
  intro z
  induction z with
  | zero =>
    intro j f l h1 h2 h3 hp hf hl
    rw [if_neg (by omega), show e k = j by omega]
    refine ⟨f, l, ?_, hf, hl⟩
    unfold NL_Layout_joinMargins_107
    refine it_inr ?_
    show nb_Layout_joinMargins_107 x1 x2 f l (-1) n = _
    unfold nb_Layout_joinMargins_107
    rw [if_pos rfl]
  | succ z ih =>
    intro j f l h1 h2 h3 hp hf hl
    by_cases hlt : j < e k
    · have hpj := hp hlt
      have hjN : j < N := by omega
      have ho := hG.oB (k := j) (by omega) hjN
      have hEj := hG.eB (k := j) (by omega) hjN
      have hnest := hG.nest (k := k) (j := j) k0 h2 hlt hjN
      have hM := hC.2.2.2.2.1 j (by omega) hjN
      have hnx : n 7 (o j) 5 = if e j < e k then o (e j) else -1 := by rw [(hP.1 j (by omega) hjN).2.2, hG.nxE (by omega) hjN, hpj]
      rw [if_pos hlt]
      have hsib : e j < e k → p (e j) = k := fun w => hG.sib (by omega) hjN hpj w
      by_cases hm0 : m 107 (o j) = 0
      · obtain ⟨f', l', r1, r2⟩ := ih (e j) f l (by omega) (by omega) hnest hsib (hf.zero hG k0 hkN ⟨h2, hlt⟩ hpj hm0) (hl.zero hG k0 hkN ⟨h2, hlt⟩ hpj hm0)
        refine ⟨f', l', ?_, r2⟩
        rw [← r1]
        unfold NL_Layout_joinMargins_107
        refine it_inl ?_
        show nb_Layout_joinMargins_107 x1 x2 f l (o j) n = _
        unfold nb_Layout_joinMargins_107 nk_Layout_joinMargins_145
        rw [if_neg (by omega), ix_e _ ho, if_pos (hM.zero hm0), ix_e _ ho, hnx]
      · have hk0 : n 3 (o j) 0 ≠ 0 := by
          rcases hM with ⟨w, _⟩ | ⟨_, w | w | w | w | w⟩
          · exact absurd w hm0
          · have := w.2.1; omega
          · have := w.2.1; omega
          · omega
          · omega
          · omega
        obtain ⟨f', l', r1, r2⟩ := ih (e j) (if f = -1 then o j else f) (o j) (by omega) (by omega) hnest hsib (hf.one hG k0 hkN ⟨h2, hlt⟩ hpj hm0) (LKj.one hG k0 hkN ⟨h2, hlt⟩ hpj hm0)
        refine ⟨f', l', ?_, r2⟩
        rw [← r1]
        unfold NL_Layout_joinMargins_107
        refine it_inl ?_
        show nb_Layout_joinMargins_107 x1 x2 f l (o j) n = _
        unfold nb_Layout_joinMargins_107 nk_Layout_joinMargins_139 nk_Layout_joinMargins_145
        rw [if_neg (by omega), ix_e _ ho, if_neg hk0]
        by_cases w : f = -1
        · rw [if_pos w, if_pos w, ix_e _ ho, hnx]
        · rw [if_neg w, if_neg w, ix_e _ ho, hnx]
    · exact ih j f l (by omega) h2 h3 hp hf hl
/-- the reference: the last that is laid -/
theorem y_lastK (hG : TG N o e p (m 49) (m 50) (m 52)) (k0 : 0 ≤ k) (hkN : k < N) : ∀ (z : Nat) (j l : Int), (e k - j).toNat ≤ z → k < j → j ≤ e k → (j < e k → p j = k) → LKj m o p k l j → ∃ l', NL_Y_layBlock_49 x1 x2 x3 x4 x5 x6 l (if j < e k then o j else -1) m = some l' ∧ LKj m o p k l' (e k) := by
  have hE := hG.eB k0 hkN
  intro z
  induction z with
  | zero =>
    intro j l h1 h2 h3 hp hl
    rw [if_neg (by omega), show e k = j by omega]
    refine ⟨l, ?_, hl⟩
    unfold NL_Y_layBlock_49
    refine it_inr ?_
    show nb_Y_layBlock_49 x1 x2 x3 x4 x5 x6 l (-1) m = _
    unfold nb_Y_layBlock_49
    rw [if_pos rfl]
  | succ z ih =>
    intro j l h1 h2 h3 hp hl
    by_cases hlt : j < e k
    · have hpj := hp hlt
      have hjN : j < N := by omega
      have ho := hG.oB (k := j) (by omega) hjN
      have hEj := hG.eB (k := j) (by omega) hjN
      have hnest := hG.nest (k := k) (j := j) k0 h2 hlt hjN
      have hnx : m 52 (o j) = if e j < e k then o (e j) else -1 := by rw [hG.nxE (by omega) hjN, hpj]
      rw [if_pos hlt]
      have hsib : e j < e k → p (e j) = k := fun w => hG.sib (by omega) hjN hpj w
      by_cases hm0 : m 107 (o j) = 0
      · obtain ⟨l', r1, r2⟩ := ih (e j) l (by omega) (by omega) hnest hsib (hl.zero hG k0 hkN ⟨h2, hlt⟩ hpj hm0)
        refine ⟨l', ?_, r2⟩
        rw [← r1]
        unfold NL_Y_layBlock_49
        refine it_inl ?_
        show nb_Y_layBlock_49 x1 x2 x3 x4 x5 x6 l (o j) m = _
        unfold nb_Y_layBlock_49 nk_Y_layBlock_69
        rw [if_neg (by omega), ix_e _ ho, if_pos hm0, ix_e _ ho, hnx]
      · obtain ⟨l', r1, r2⟩ := ih (e j) (o j) (by omega) (by omega) hnest hsib (LKj.one hG k0 hkN ⟨h2, hlt⟩ hpj hm0)
        refine ⟨l', ?_, r2⟩
        rw [← r1]
        unfold NL_Y_layBlock_49
        refine it_inl ?_
        show nb_Y_layBlock_49 x1 x2 x3 x4 x5 x6 l (o j) m = _
        unfold nb_Y_layBlock_49 nk_Y_layBlock_69
        rw [if_neg (by omega), ix_e _ ho, if_neg hm0, ix_e _ ho, hnx]
    · exact ih j l (by omega) h2 h3 hp hl
/-- the reference: the first that is laid -/
theorem y_firstK (hG : TG N o e p (m 49) (m 50) (m 52)) (k0 : 0 ≤ k) (hkN : k < N) : ∀ (z : Nat) (j : Int), (e k - j).toNat ≤ z → k < j → j ≤ e k → (j < e k → p j = k) → (∀ r, k < r → r < j → p r = k → m 107 (o r) = 0) → ∃ f', NL_Y_layBlock_512 x1 x2 (if j < e k then o j else -1) m = some f' ∧ FKj m o p k f' (e k) := by
  have hE := hG.eB k0 hkN
  intro z
  induction z with
  | zero =>
    intro j h1 h2 h3 hp hl
    rw [if_neg (by omega), show e k = j by omega]
    refine ⟨-1, ?_, .inl ⟨rfl, hl⟩⟩
    unfold NL_Y_layBlock_512
    refine it_inr ?_
    show nb_Y_layBlock_512 x1 x2 (-1) m = _
    unfold nb_Y_layBlock_512
    rw [if_pos rfl]
  | succ z ih =>
    intro j h1 h2 h3 hp hl
    by_cases hlt : j < e k
    · have hpj := hp hlt
      have hjN : j < N := by omega
      have ho := hG.oB (k := j) (by omega) hjN
      have hEj := hG.eB (k := j) (by omega) hjN
      have hnest := hG.nest (k := k) (j := j) k0 h2 hlt hjN
      have hnx : m 52 (o j) = if e j < e k then o (e j) else -1 := by rw [hG.nxE (by omega) hjN, hpj]
      rw [if_pos hlt]
      have hsib : e j < e k → p (e j) = k := fun w => hG.sib (by omega) hjN hpj w
      by_cases hm0 : m 107 (o j) = 0
      · obtain ⟨f', r1, r2⟩ := ih (e j) (by omega) (by omega) hnest hsib (fun r x y w => by
          rcases Int.lt_trichotomy r j with u | u | u
          · exact hl r x u w
          · rw [u]; exact hm0
          · exact absurd w (kid_step hG k0 hkN ⟨h2, hlt⟩ hpj ⟨u, y⟩))
        refine ⟨f', ?_, r2⟩
        rw [← r1]
        unfold NL_Y_layBlock_512
        refine it_inl ?_
        show nb_Y_layBlock_512 x1 x2 (o j) m = _
        unfold nb_Y_layBlock_512
        rw [if_neg (by omega), ix_e _ ho, if_pos hm0, ix_e _ ho, hnx]
      · refine ⟨o j, ?_, .inr ⟨j, ⟨h2, hlt⟩, hpj, rfl, hm0, hl⟩⟩
        unfold NL_Y_layBlock_512
        refine it_inr ?_
        show nb_Y_layBlock_512 x1 x2 (o j) m = _
        unfold nb_Y_layBlock_512
        rw [if_neg (by omega), ix_e _ ho, if_neg hm0]
    · exact ih j (by omega) h2 h3 hp hl
end X5
