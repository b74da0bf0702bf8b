/-! A FIELD of a server's ANSWER, in both -/
def FYs (m m' : YS) : Prop := FY [6, 7, 8, 9, 10, 11, 12, 14, 15, 38, 39, 40, 41, 42, 43] m m' ∧ ∀ r, 1 ≤ r → r ≠ 3 → r ≠ 4 → RwE m m' r
def MD1 (n : NS) (m : YS) (w : Int) : Prop := n 92 0 w = 102 ∧ n 99 w 0 = w + 1 ∧ AC n (w + 1) (w + 2) ∧ n 99 (w + 1) 0 = w + 2 ∧ AdE n m (w + 1) 3 []
def MD2 (n : NS) (m : YS) (w : Int) : Prop := n 99 w 1 = m 38 0 ∧ -1 ≤ m 38 0 ∧ m 38 0 ≤ 9999
def MD3 (n : NS) (m : YS) (w : Int) : Prop := (m 39 0 = 0 ∧ n 99 w 2 = 0) ∨ ∃ u v, okN u ∧ okN v ∧ m 39 0 = (u.length : Int) ∧ m 40 0 = (v.length : Int) ∧ sg (m 43) 0 u.length = u ∧ sg (m 43) 8 v.length = v ∧ n 99 w 2 = pk u ∧ n 99 w 3 = pk v
def MD4 (n : NS) (m : YS) (w : Int) : Prop := (m 41 0 = 0 ∧ n 99 w 4 < 0 ∧ n 90 0 0 = w + 4) ∨ (m 41 0 = 1 ∧ n 99 w 4 = w + 4 ∧ n 90 0 0 = w + 6 ∧ AC n (w + 4) (w + 5) ∧ n 99 (w + 4) 0 = w + 5 ∧ AdT n m (w + 4) 4)
def MD5 (n : NS) (m : YS) (w : Int) : Prop := n 99 w 5 = m 42 0 ∧ (m 42 0 = 0 ∨ m 42 0 = 1)
def MDm (n : NS) (m : YS) (w : Int) : Prop := MD1 n m w ∧ MD2 n m w ∧ MD3 n m w ∧ MD4 n m w ∧ MD5 n m w
def MDf (n0 n : NS) (m0 m : YS) : Prop := FNw n0 n ∧ n 90 0 0 ≤ n0 90 0 0 + 6 ∧ n 91 0 0 ≤ n0 91 0 0 + 84 * (n 90 0 0 - n0 90 0 0) ∧ FYs m0 m
section R4
variable {n n' n0 : NS} {m m' m0 : YS} {A B i to d L w a r x : Int} {nm q mk : List Int} {ss : List (List Int)} {g : Int → Int}
theorem AdE.ce (h : AdE n m a r mk) (h1 : n' 99 a = n 99 a) (h2 : n' 99 (n 99 a 0) = n 99 (n 99 a 0)) (hr : RwE m m' r) : AdE n' m' a r mk := by
  obtain ⟨nm, ss, q, w, c, p⟩ := h
  exact ⟨nm, ss, q, w, by unfold CA at *; rw [h1, h2]; exact c, p.rw w hr⟩
theorem AdT.ce (h : AdT n m a r) (h1 : n' 99 a = n 99 a) (h2 : n' 99 (n 99 a 0) = n 99 (n 99 a 0)) (hr : RwE m m' r) : AdT n' m' a r := by
  obtain ⟨nm, ss, q, mk, w, c, p⟩ := h
  exact ⟨nm, ss, q, mk, w, by unfold CA at *; rw [h1, h2]; exact c, p.rw w.nomk hr⟩
theorem FYs.trans {m'' : YS} (h : FYs m m') (h' : FYs m' m'') : FYs m m'' := ⟨h.1.trans h'.1, fun r a b c => (h.2 r a b c).trans (h'.2 r a b c)⟩
theorem FYs.of (h : FY [38, 39, 40, 41, 42, 43] m m') : FYs m m' := ⟨h.mono (fun f hf => by simp only [List.mem_cons, List.not_mem_nil, or_false] at hf ⊢; omega), fun r _ _ _ => RwE.of (h 6 (by decide)) (h 7 (by decide)) (h 8 (by decide))⟩
theorem MD1.ce (h : MD1 n m w) (h92 : n' 92 = n 92) (h93 : n' 93 = n 93) (h90 : n' 90 = n 90) (hq : ∀ q, q ≠ w → n' 99 q = n 99 q) (h0 : n' 99 w 0 = n 99 w 0) (hr : RwE m m' 3) : MD1 n' m' w := by
  obtain ⟨a1, a2, a3, a4, a5⟩ := h
  refine ⟨by rw [h92]; exact a1, by rw [h0]; exact a2, by unfold AC at *; rw [h92, h93, h90]; exact a3, by rw [hq _ (by omega)]; exact a4, a5.ce (hq _ (by omega)) ?_ hr⟩
  rw [a4]; exact hq _ (by omega)
theorem MD4.ce (h : MD4 n m w) (h92 : n' 92 = n 92) (h93 : n' 93 = n 93) (h90 : n' 90 = n 90) (hq : ∀ q, q ≠ w → n' 99 q = n 99 q) (h4 : n' 99 w 4 = n 99 w 4) (h41 : m' 41 0 = m 41 0) (hr : RwE m m' 4) : MD4 n' m' w := by
  rcases h with ⟨a1, a2, a3⟩ | ⟨a1, a2, a3, a4, a5, a6⟩
  · exact .inl ⟨by rw [h41]; exact a1, by rw [h4]; exact a2, by rw [h90]; exact a3⟩
  · refine .inr ⟨by rw [h41]; exact a1, by rw [h4]; exact a2, by rw [h90]; exact a3, by unfold AC at *; rw [h92, h93, h90]; exact a4, by rw [hq _ (by omega)]; exact a5, a6.ce (hq _ (by omega)) ?_ hr⟩
    rw [a5]; exact hq _ (by omega)
/-- slots of the ANSWER that is made -/
theorem MDf.sl (h : MDf n0 n m0 m) (hy : FY [38, 39, 40, 41, 42, 43] m m') (hK : ∀ K, K ≠ 99 → n' K = n K) (hq : ∀ q, q ≠ n0 90 0 0 → n' 99 q = n 99 q) : MDf n0 n' m0 m' := by
  obtain ⟨⟨a1, a2, a3, a4, a5, a6⟩, b, c, e⟩ := h
  refine ⟨⟨fun K c1 c2 c3 c4 c5 c6 => by rw [hK K c6]; exact a1 K c1 c2 c3 c4 c5 c6, fun b hb => by rw [hK 4 (by decide)]; exact a2 b hb, by rw [hK 90 (by decide)]; exact a3, fun q hq' => by rw [hK 92 (by decide), hK 93 (by decide)]; exact a4 q hq', fun q hq' hS => ?_, fun b hb => absurd hb (fun z => z)⟩, by rw [hK 90 (by decide)]; exact b, by rw [hK 91 (by decide), hK 90 (by decide)]; exact c, e.trans (FYs.of hy)⟩
  rw [hq q (by omega)]; exact a5 q hq' hS
theorem field_both (h0 : 1953 ≤ n0 90 0 0 ∧ n0 90 0 0 < 600000) (hf : MDf n0 n m0 m) (hm : MDm n m (n0 90 0 0)) (ht : tx n0 d (m0 2) L) (hd : d < n0 90 0 0) (hi : 0 ≤ i ∧ i ≤ to ∧ to ≤ L ∧ L ≤ 2000) (htx : ∀ j, 0 ≤ j → j < L → isTx (m0 2 j)) : ∃ z n' m', N_Answer_readField (n0 90 0 0) d i to n = some (z, n') ∧ N_Y_field i to m = some (z, m') ∧ (z = 0 ∨ z = 1) ∧ MDf n0 n' m0 m' ∧ (z = 1 → MDm n' m' (n0 90 0 0)) := by
  have hf' := hf
  obtain ⟨f0, f90, f91, fy⟩ := hf
  have hm' := hm
  obtain ⟨p1, p2, p3, p4, p5⟩ := hm
  have e2 : m 2 = m0 2 := fy.1 2 (by decide)
  have ht' : tx n d (m 2) L := by rw [e2]; exact f0.txx ht hd
  have htx' : ∀ j, i ≤ j → j < to → isTx (m 2 j) := fun j a b => by rw [e2]; exact htx j (by omega) (by omega)
  have hw : n 92 0 (n0 90 0 0) = 102 := p1.1
  have hwn : n 90 0 0 < 600010 := by omega
  have hlow : n0 90 0 0 + 3 < n 90 0 0 := by rcases p4 with y | y <;> omega
  generalize hwe : n0 90 0 0 = w at *
  have s6 := cs_stands (i := i) (to := to) ht' okS6 hi.2.2.1 hi.1 ⟨by omega, by omega⟩ (by omega) (by decide)
  have s7 := cs_stands (i := i) (to := to) ht' okS7 hi.2.2.1 hi.1 ⟨by omega, by omega⟩ (by omega) (by decide)
  have s8 := cs_stands (i := i) (to := to) ht' okS8 hi.2.2.1 hi.1 ⟨by omega, by omega⟩ (by omega) (by decide)
  have s9 := cs_stands (i := i) (to := to) ht' okS9 hi.2.2.1 hi.1 ⟨by omega, by omega⟩ (by omega) (by decide)
  have m6 := mtE (g := m 2) (to := to) wAg i (by decide)
  have m7 := mtE (g := m 2) (to := to) wCk i (by decide)
  have m8 := mtE (g := m 2) (to := to) wTo i (by decide)
  have he0 : i ≤ eqA (m 2) i to := scx_ge (p := fun j => m 2 j ≠ 61) i to
  have hty : ∀ {α : Type} (y : Option α), ty n w 102 y = y := fun y => if_pos hw
  have hck : ∀ {α : Type} {a : Int} (y : Option α), -5000 ≤ a → a ≤ 5000 → ck a y = y := fun y a b => if_pos (by omega)
  -- the class goes on
  have k0 : (¬ mtR (wAg ++ [61]) (m 2) i to ∨ n 99 w 1 ≠ -1) → N_Answer_readField w d i to n = nk_Answer_readField_45 w d i to n := fun h => by
    unfold N_Answer_readField
    by_cases z : mtR (wAg ++ [61]) (m 2) i to
    · rw [bz_t s6 z]
      simp only [Option.bind_some]
      rw [if_neg (by decide), hty, if_neg (by rcases h with h | h; exact absurd z h; exact h)]
    · rw [bz_f s6 z]
      simp only [Option.bind_some]
      rw [if_pos trivial]
  have k1 : (¬ mtR (wCk ++ [61]) (m 2) i to ∨ n 99 w 2 ≠ 0) → nk_Answer_readField_45 w d i to n = nk_Answer_readField_76 w d i to n := fun h => by
    unfold nk_Answer_readField_45
    by_cases z : mtR (wCk ++ [61]) (m 2) i to
    · rw [bz_t s7 z]
      simp only [Option.bind_some]
      rw [if_neg (by decide), hty, if_neg (by rcases h with h | h; exact absurd z h; exact h)]
    · rw [bz_f s7 z]
      simp only [Option.bind_some]
      rw [if_pos trivial]
  have k2 : (¬ mtR (wTo ++ [61]) (m 2) i to ∨ ¬ n 99 w 4 < 0) → nk_Answer_readField_76 w d i to n = nk_Answer_readField_122 w d i to n := fun h => by
    unfold nk_Answer_readField_76
    by_cases z : mtR (wTo ++ [61]) (m 2) i to
    · rw [bz_t s8 z]
      simp only [Option.bind_some]
      rw [if_neg (by decide), hty, if_neg (by rcases h with h | h; exact absurd z h; exact h)]
    · rw [bz_f s8 z]
      simp only [Option.bind_some]
      rw [if_pos trivial]
  have k3 : ¬ (mtR wOp (m 2) i to ∧ to - i = 4 ∧ n 99 w 5 = 0) → nk_Answer_readField_122 w d i to n = some (0, n) := fun h => by
    unfold nk_Answer_readField_122
    by_cases z : mtR wOp (m 2) i to
    · rw [bz_t s9 z]
      simp only [Option.bind_some]
      rw [if_neg (by decide), hck _ (by omega) (by omega)]
      by_cases y : to - i = 4
      · rw [if_pos y, hty, if_neg (fun x => h ⟨z, y, x⟩)]
      · rw [if_neg y]
    · rw [bz_f s9 z]
      simp only [Option.bind_some]
      rw [if_pos trivial]
  have no : ∃ z n' m', (some (0, n) : Option (Int × NS)) = some (z, n') ∧ (some (0, m) : Option (Int × YS)) = some (z, m') ∧ (z = 0 ∨ z = 1) ∧ MDf n0 n' m0 m' ∧ (z = 1 → MDm n' m' w) := ⟨0, n, m, rfl, rfl, .inl rfl, hf', fun y => absurd y (by decide)⟩
  by_cases cA : mtR (wAg ++ [61]) (m 2) i to
  · -- an age
    have c1 : m 2 i = 97 := cA.2.1
    obtain ⟨q1, q2, q3⟩ := m6.mp cA
    have q2 : eqA (m 2) i to - i = 3 := q2
    have hO : ¬ mtR wOp (m 2) i to := fun y => by have : m 2 i = 111 := y.2.1; omega
    have hC : ¬ mtR (wCk ++ [61]) (m 2) i to := fun y => by have : m 2 i = 99 := y.2.1; omega
    have hT : ¬ mtR (wTo ++ [61]) (m 2) i to := fun y => by have : m 2 i = 116 := y.2.1; omega
    rw [y_fd_eq ⟨hi.1, hi.2.1⟩ (by omega) (fun y => hO y.2)]
    have ya := y_fd_age (m := m) ⟨hi.1, he0⟩ ⟨q1, by omega⟩ q2 q3 htx'
    generalize eqA (m 2) i to = e at *
    rw [show e + 1 = i + 4 by omega] at ya
    by_cases z : n 99 w 1 = -1
    · have z38 : m 38 0 < 0 := by have := p2.1; omega
      obtain ⟨r, er, hr⟩ := c_num ht' (fr := i + 4) (st := to) ⟨by omega, by omega, hi.2.2.1, hi.2.2.2⟩
      have ec : N_Answer_readField w d i to n = some (if r = -1 then 0 else 1, nw n 99 w 1 r) := by
        unfold N_Answer_readField
        rw [bz_t s6 cA]
        simp only [Option.bind_some]
        rw [if_neg (by decide), hty, if_pos z, hck _ (by omega) (by omega), er]
        simp only [Option.bind_some]
        rw [hty]
        unfold st ty
        dsimp only
        rw [if_pos (by rw [nw_nK (by decide)]; exact hw), nw_eq]
        by_cases y : r = -1
        · rw [if_pos y, if_pos y]
        · rw [if_neg y, if_neg y]
      rw [ec]
      rcases hr with ⟨v1, v2, v3⟩ | ⟨v1, v2⟩
      · rw [if_neg (by omega), ya.1 ⟨v1, z38⟩, ← v2]
        refine ⟨1, _, _, rfl, rfl, .inr rfl, hf'.sl (fun f hf => yw_nF (fun y => hf (by rw [y]; decide))) (fun K hK => nw_nK hK) (fun q hq => nw_ni (by omega)), fun _ => ⟨p1.ce (nw_nK (by decide)) (nw_nK (by decide)) (nw_nK (by decide)) (fun q hq => nw_ni hq) (nw_ns (by decide)) (RwE.of (yw_nF (by decide)) (yw_nF (by decide)) (yw_nF (by decide))), ?_, ?_, p4.ce (nw_nK (by decide)) (nw_nK (by decide)) (nw_nK (by decide)) (fun q hq => nw_ni hq) (nw_ns (by decide)) (by rw [yw_nF (by decide)]) (RwE.of (yw_nF (by decide)) (yw_nF (by decide)) (yw_nF (by decide))), ?_⟩⟩
        · unfold MD2; rw [nw_eq, yw_eq]; exact ⟨rfl, by omega, by omega⟩
        · unfold MD3 at *; rw [nw_ns (by decide), nw_ns (by decide), yw_nF (by decide), yw_nF (by decide), yw_nF (by decide)]; exact p3
        · unfold MD5 at *; rw [nw_ns (by decide), yw_nF (by decide)]; exact p5
      · rw [if_pos v2, ya.2 (fun y => v1 y.1), v2, nw_id z]
        exact no
    · rw [k0 (.inr z), k1 (.inl hC), k2 (.inl hT), k3 (fun y => hO y.1), ya.2 (fun y => z (by have := p2; unfold MD2 at this; omega))]
      exact no
  · rw [k0 (.inl cA)]
    by_cases cC : mtR (wCk ++ [61]) (m 2) i to
    · -- a cookie
      have c1 : m 2 i = 99 := cC.2.1
      obtain ⟨q1, q2, q3⟩ := m7.mp cC
      have q2 : eqA (m 2) i to - i = 6 := q2
      have hO : ¬ mtR wOp (m 2) i to := fun y => by have : m 2 i = 111 := y.2.1; omega
      have hT : ¬ mtR (wTo ++ [61]) (m 2) i to := fun y => by have : m 2 i = 116 := y.2.1; omega
      rw [y_fd_eq ⟨hi.1, hi.2.1⟩ (by omega) (fun y => hO y.2)]
      have h39 : 0 ≤ m 39 0 ∧ (m 39 0 = 0 ↔ n 99 w 2 = 0) := by
        rcases p3 with ⟨a1, a2⟩ | ⟨u, v, a1, a2, a3, a4, a5, a6, a7, a8⟩
        · exact ⟨by omega, fun _ => a2, fun _ => a1⟩
        · have hl := a1.1
          refine ⟨by omega, fun y => by omega, fun y => ?_⟩
          rw [a7] at y
          have := (pkq_0 a1.bt).mp y
          rw [this] at hl; exact absurd hl (by decide)
      have yc := y_fd_ck (m := m) ⟨hi.1, he0⟩ ⟨q1, by omega⟩ q2 q3 h39.1
      have cc := c_cookie (k := i + 7) (to := to) ht' hw ⟨by omega, by omega, hi.2.2.1, hi.2.2.2⟩
      generalize eqA (m 2) i to = e at *
      rw [show e + 1 = i + 7 by omega] at yc
      by_cases z : n 99 w 2 = 0
      · have ec : nk_Answer_readField_45 w d i to n = N_Answer_readCookie w d (i + 7) to n := by
          unfold nk_Answer_readField_45
          rw [bz_t s7 cC]
          simp only [Option.bind_some]
          rw [if_neg (by decide), hty, if_pos z, hck _ (by omega) (by omega), hty]
          cases N_Answer_readCookie w d (i + 7) to n with
          | none => rfl
          | some y => rfl
        rw [ec]
        by_cases ho : OKC (m 2) (i + 7) to
        · obtain ⟨m', y1, y2, y3, y4, y5, y6⟩ := yc.1 ⟨h39.2.mpr z, ho⟩
          rw [y1, cc.1 ho]
          obtain ⟨o1, o2, o3, o4, o5⟩ := ho
          have hb := (nm_iff (g := m 2) (k := i + 7) (to := to) (by omega)).2
          have hn1 := nmE_in (g := m 2) (k := i + 7) (to := to) (by omega) o1
          have hb2 := (nm_iff (g := m 2) (k := nmE (m 2) (i + 7) to + 1) (to := to) (by omega)).2
          have hn2 := nmE_in (g := m 2) (k := nmE (m 2) (i + 7) to + 1) (to := to) (by omega) o4
          rw [o5] at hn2 hb2
          generalize nmE (m 2) (i + 7) to = q at *
          have yf : FY [38, 39, 40, 41, 42, 43] m m' := y2.mono (fun f hf => by simp only [List.mem_cons, List.not_mem_nil, or_false] at hf ⊢; omega)
          have rE : ∀ r, RwE m m' r := fun r => RwE.of (y2 6 (by decide)) (y2 7 (by decide)) (y2 8 (by decide))
          generalize hU : sg (m 2) (i + 7) (q - (i + 7)).toNat = U at *
          generalize hV : sg (m 2) (q + 1) (to - (q + 1)).toNat = V at *
          have lU : (U.length : Int) = q - (i + 7) := by rw [← hU, sg_len]; omega
          have lV : (V.length : Int) = to - (q + 1) := by rw [← hV, sg_len]; omega
          refine ⟨1, _, _, rfl, rfl, .inr rfl, hf'.sl yf (fun K hK => by rw [nw_nK hK, nw_nK hK]) (fun q hq => by rw [nw_ni (by omega), nw_ni (by omega)]), fun _ => ⟨p1.ce (by rw [nw_nK (by decide), nw_nK (by decide)]) (by rw [nw_nK (by decide), nw_nK (by decide)]) (by rw [nw_nK (by decide), nw_nK (by decide)]) (fun q hq => by rw [nw_ni hq, nw_ni hq]) (by rw [nw_ns (by decide), nw_ns (by decide)]) (rE 3), ?_, ?_, p4.ce (by rw [nw_nK (by decide), nw_nK (by decide)]) (by rw [nw_nK (by decide), nw_nK (by decide)]) (by rw [nw_nK (by decide), nw_nK (by decide)]) (fun q hq => by rw [nw_ni hq, nw_ni hq]) (by rw [nw_ns (by decide), nw_ns (by decide)]) (by rw [y2 41 (by decide)]) (rE 4), ?_⟩⟩
          · unfold MD2 at *; rw [nw_ns (by decide), nw_ns (by decide), y2 38 (by decide)]; exact p2
          · refine .inr ⟨U, V, ⟨by omega, by omega, ?_⟩, ⟨by omega, by omega, ?_⟩, by omega, by omega, ?_, ?_, by rw [nw_ns (by decide), nw_eq], by rw [nw_eq]⟩
            · rw [← hU]; exact sg_mem _ _ (fun x hx => hn1.2.2.1 _ (by omega) (by omega))
            · rw [← hV]; exact sg_mem _ _ (fun x hx => hn2.2.2.1 _ (by omega) (by omega))
            · rw [← hU, sg_len]
              exact sg_cg _ _ _ (fun x hx => by rw [← y5 x (by omega) (by omega), Int.zero_add])
            · rw [← hV, sg_len]
              exact sg_cg _ _ _ (fun x hx => y6 x (by omega) (by omega))
          · unfold MD5 at *; rw [nw_ns (by decide), nw_ns (by decide), y2 42 (by decide)]; exact p5
        · rw [cc.2 ho, yc.2 (fun y => ho y.2)]
          exact no
      · rw [k1 (.inr z), k2 (.inl hT), k3 (fun y => hO y.1), yc.2 (fun y => z (h39.2.mp y.1))]
        exact no
    · rw [k1 (.inl cC)]
      by_cases cT : mtR (wTo ++ [61]) (m 2) i to
      · -- a redirect
        have c1 : m 2 i = 116 := cT.2.1
        obtain ⟨q1, q2, q3⟩ := m8.mp cT
        have q2 : eqA (m 2) i to - i = 2 := q2
        have hO : ¬ mtR wOp (m 2) i to := fun y => by have : m 2 i = 111 := y.2.1; omega
        rw [y_fd_eq ⟨hi.1, hi.2.1⟩ (by omega) (fun y => hO y.2)]
        by_cases z : n 99 w 4 < 0
        · have z41 : m 41 0 = 0 ∧ n 90 0 0 = w + 4 := by rcases p4 with y | y <;> omega
          obtain ⟨nm, ss, q, hW, hC, hR⟩ := p1.2.2.2.2
          have yt := y_fd_to (m := m) ⟨hi.1, he0⟩ ⟨q1, by omega⟩ q2 q3 z41.1 hR hW htx'
          generalize eqA (m 2) i to = e at *
          rw [show e + 1 = i + 3 by omega] at yt
          obtain ⟨n20, x1, x2, x3, x4, x5, x6⟩ := c_newAdr (n := n) (by omega)
          rw [z41.2] at x1 x3 x5 x6
          rw [show w + 4 + 1 = w + 5 by omega] at x5 x6
          have b92 : ∀ q, q < w + 4 → n20 92 0 q = n 92 0 q := fun q hq => (x2.2.2.2.1 q (by omega)).1
          have b93 : ∀ q, q < w + 4 → n20 93 0 q = n 93 0 q := fun q hq => (x2.2.2.2.1 q (by omega)).2
          have b99 : ∀ q, q < w + 4 → n20 99 q = n 99 q := fun q hq => x2.2.2.2.2.1 q (by omega) (fun _ y => absurd y (fun u => u))
          have g0 : FNw n0 n20 := f0.trans x2
          generalize hn26 : nw n20 99 w 4 (w + 4) = n26 at *
          have d92 : n26 92 = n20 92 := by rw [← hn26]; exact nw_nK (by decide)
          have d93 : n26 93 = n20 93 := by rw [← hn26]; exact nw_nK (by decide)
          have d90 : n26 90 = n20 90 := by rw [← hn26]; exact nw_nK (by decide)
          have d91 : n26 91 = n20 91 := by rw [← hn26]; exact nw_nK (by decide)
          have d99 : ∀ q, q ≠ w → n26 99 q = n20 99 q := fun q hq => by rw [← hn26]; exact nw_ni hq
          have d4 : n26 99 w 4 = w + 4 := by rw [← hn26]; exact nw_eq
          have ds : ∀ s, s ≠ 4 → n26 99 w s = n 99 w s := fun s hs => by rw [← hn26, nw_ns hs, b99 w (by omega)]
          have g1 : FNw n0 n26 := by rw [← hn26]; exact g0.nw99 (by omega)
          have w26 : n26 92 0 w = 102 := by rw [d92, b92 w (by omega)]; exact hw
          have ac4 : AC n26 (w + 4) (w + 5) := by unfold AC at *; rw [d92, d93, d90]; exact x5
          have ac1 : AC n26 (w + 1) (w + 2) := by
            have := p1.2.2.1
            unfold AC at *
            rw [d92, d93, d90, b92 _ (by omega), b92 _ (by omega), b93 _ (by omega)]
            exact ⟨⟨this.1.1, by omega⟩, this.2.1, ⟨this.2.2.1.1, by omega⟩, this.2.2.2⟩
          have a1 : n26 99 (w + 1) = n 99 (w + 1) := by rw [d99 _ (by omega), b99 _ (by omega)]
          have a2 : n26 99 (w + 2) = n 99 (w + 2) := by rw [d99 _ (by omega), b99 _ (by omega)]
          have bs : BS n26 (w + 4) (w + 5) (w + 1) (w + 2) (n26 99 (w + 1)) (n26 99 (w + 2)) nm ss q [] := ⟨ac1, by omega, rfl, rfl, by rw [a1]; exact p1.2.2.2.1, by unfold CA at hC; rw [p1.2.2.2.1] at hC; rw [a1, a2]; exact hC, hW⟩
          have t26 : tx n26 d (m 2) L := by rw [e2]; exact g1.txx ht (by omega)
          obtain ⟨⟨zc, nc⟩, ec, s', t', r1, r2, r3⟩ := c_read (i := i + 3) (to := to) ac4 (by rw [d99 _ (by omega)]; exact x6) t26 (by omega) (by omega) bs ⟨by omega, by omega, hi.2.2.1, by omega⟩
          simp only at r1 r3
          obtain ⟨⟨zy, my⟩, ey, v1, v2, v3⟩ := yt
          simp only at v1 v2 v3
          have ecl : nk_Answer_readField_76 w d i to n = some (zc, nc) := by
            unfold nk_Answer_readField_76
            rw [bz_t s8 cT]
            simp only [Option.bind_some]
            rw [if_neg (by decide), hty, if_pos z]
            unfold al1 st
            dsimp only
            rw [if_pos ⟨by omega, by omega⟩, z41.2, x1]
            simp only [Option.bind_some]
            unfold ty
            rw [if_pos (by rw [b92 w (by omega)]; exact hw), hn26, if_pos w26, d4, if_neg (by omega), hck _ (by omega) (by omega), if_pos w26]
            unfold nn
            rw [if_pos (by rw [ds 0 (by decide), p1.2.1]; omega), if_pos ac4.2.1, ds 0 (by decide), p1.2.1, ec]
            rfl
          rw [ecl, ey]
          have nK : ∀ K, K ≠ 99 → nc K = n26 K := fun K hK => by rw [r1]; exact aw_K hK
          have nq : ∀ q, q ≠ w + 4 → q ≠ w + 5 → nc 99 q = n26 99 q := fun q u v => by rw [r1]; exact aw_q u v
          have F : MDf n0 nc m0 my := ⟨by rw [r1]; exact g1.aw (by omega) (by omega), by rw [nK 90 (by decide), d90]; omega, by rw [nK 91 (by decide), d91, nK 90 (by decide), d90]; omega, fy.trans ⟨v1.mono (fun f hf => by simp only [List.mem_cons, List.not_mem_nil, or_false] at hf ⊢; omega), fun r u0 _ u4 => v2 r u0 u4⟩⟩
          rcases r3 with ⟨u1, u2⟩ | ⟨u1, nm', ss', q', mk', u2, u3, _⟩
          · rcases v3 with ⟨y1, _⟩ | ⟨_, _, _, _, _, _, y2, _⟩
            · rw [u1, y1]
              exact ⟨0, _, _, rfl, rfl, .inl rfl, F, fun y => absurd y (by decide)⟩
            · rw [u2] at y2; cases y2
          · rcases v3 with ⟨_, y2⟩ | ⟨y1, y3, nm2, ss2, q2, mk2, y2, y4, y5⟩
            · rw [u2] at y2; cases y2
            · rw [u2] at y2
              cases y2
              rw [u1, y1]
              refine ⟨1, _, _, rfl, rfl, .inr rfl, F, fun _ => ⟨?_, ?_, ?_, ?_, ?_⟩⟩
              · refine ⟨by rw [nK 92 (by decide)]; exact w26, by rw [nq w (by omega) (by omega), ds 0 (by decide)]; exact p1.2.1, by unfold AC at *; rw [nK 92 (by decide), nK 93 (by decide), nK 90 (by decide)]; exact ac1, by rw [nq _ (by omega) (by omega), a1]; exact p1.2.2.2.1, ⟨nm, ss, q, hW, ?_, hR.rw hW (v2 3 (by decide) (by decide))⟩⟩
                unfold CA at *
                rw [nq (w + 1) (by omega) (by omega), a1, p1.2.2.2.1, nq (w + 2) (by omega) (by omega), a2]
                rw [p1.2.2.2.1] at hC
                exact hC
              · unfold MD2 at *; rw [nq w (by omega) (by omega), ds 1 (by decide), v1 38 (by decide)]; exact p2
              · unfold MD3 at *; rw [nq w (by omega) (by omega), ds 2 (by decide), ds 3 (by decide), v1 39 (by decide), v1 40 (by decide), v1 43 (by decide)]; exact p3
              · have r5 : nc 99 (w + 4) = s' := by rw [r1]; exact aw_a (by omega)
                have r6 : nc 99 (w + 5) = t' := by rw [r1]; exact aw_T
                refine .inr ⟨y3, by rw [nq w (by omega) (by omega)]; exact d4, by rw [nK 90 (by decide), d90]; omega, by unfold AC at *; rw [nK 92 (by decide), nK 93 (by decide), nK 90 (by decide)]; exact ac4, by rw [r5]; exact r2, ⟨nm', ss', q', mk', y4, ?_, y5⟩⟩
                unfold CA
                rw [r5, r2, r6]; exact u3
              · unfold MD5 at *; rw [nq w (by omega) (by omega), ds 5 (by decide), v1 42 (by decide)]; exact p5
        · have z41 : 0 < m 41 0 := by rcases p4 with y | y <;> omega
          rw [k2 (.inr z), k3 (fun y => hO y.1), y_fd_to1 ⟨hi.1, he0⟩ ⟨q1, by omega⟩ q2 q3 z41]
          exact no
      · rw [k2 (.inl cT)]
        by_cases cO : to - i = 4 ∧ mtR wOp (m 2) i to
        · have h42 : 0 ≤ m 42 0 ∧ m 42 0 ≤ 1 := by have := p5.2; omega
          rw [y_fd_open ⟨hi.1, by omega⟩ (by omega) cO.1 cO.2 h42]
          have yf : FY [38, 39, 40, 41, 42, 43] m (yw m 42 0 (m 42 0 + 1)) := fun f hf => yw_nF (fun y => hf (by rw [y]; decide))
          by_cases z : n 99 w 5 = 0
          · have z42 : m 42 0 = 0 := by have := p5.1; omega
            have ec : nk_Answer_readField_122 w d i to n = some (1, nw n 99 w 5 1) := by
              unfold nk_Answer_readField_122
              rw [bz_t s9 cO.2]
              simp only [Option.bind_some]
              rw [if_neg (by decide), hck _ (by omega) (by omega), if_pos cO.1, hty, if_pos z, hty]
              rfl
            rw [ec, if_pos z42]
            refine ⟨1, _, _, rfl, rfl, .inr rfl, hf'.sl yf (fun K hK => nw_nK hK) (fun q hq => nw_ni (by omega)), fun _ => ⟨p1.ce (nw_nK (by decide)) (nw_nK (by decide)) (nw_nK (by decide)) (fun q hq => nw_ni hq) (nw_ns (by decide)) (RwE.of (yw_nF (by decide)) (yw_nF (by decide)) (yw_nF (by decide))), ?_, ?_, p4.ce (nw_nK (by decide)) (nw_nK (by decide)) (nw_nK (by decide)) (fun q hq => nw_ni hq) (nw_ns (by decide)) (by rw [yw_nF (by decide)]) (RwE.of (yw_nF (by decide)) (yw_nF (by decide)) (yw_nF (by decide))), ?_⟩⟩
            · unfold MD2 at *; rw [nw_ns (by decide), yw_nF (by decide)]; exact p2
            · unfold MD3 at *; rw [nw_ns (by decide), nw_ns (by decide), yw_nF (by decide), yw_nF (by decide), yw_nF (by decide)]; exact p3
            · unfold MD5 at *; rw [nw_eq, yw_eq]; omega
          · rw [k3 (fun y => z y.2.2), if_neg (by have := p5.1; omega)]
            exact ⟨0, n, _, rfl, rfl, .inl rfl, hf'.sl yf (fun _ _ => rfl) (fun _ _ => rfl), fun y => absurd y (by decide)⟩
        · rw [k3 (fun y => cO ⟨y.2.1, y.1⟩), y_fd_eq ⟨hi.1, hi.2.1⟩ (by omega) cO]
          have hz : nk_Y_field_70 i to (eqA (m 2) i to) m = some (0, m) := by
            by_cases ze : eqA (m 2) i to = to
            · unfold nk_Y_field_70
              rw [if_pos ze]
            · have hle : eqA (m 2) i to ≤ to := scx_le (p := fun j => m 2 j ≠ 61) hi.2.1
              rw [y_70n ⟨hi.1, he0⟩ ⟨by omega, by omega⟩ (fun y => cA (m6.mpr ⟨by omega, y.1, y.2⟩)), y_223n ⟨hi.1, he0⟩ (by omega) (fun y => cC (m7.mpr ⟨by omega, y.1, y.2⟩)), y_423n ⟨hi.1, he0⟩ (by omega) (fun y => cT (m8.mpr ⟨by omega, y.1, y.2⟩))]
          rw [hz]
          exact no
end R4
