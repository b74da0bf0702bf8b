/-! A BLOCK IS LAID, in both -/
/-- what laying a block leaves as it was, in the class -/
def FP2 (v : Int) (n n' : NS) : Prop := (∀ K, K ∉ [3, 5, 43, 90, 91, 92, 93, 99] → n' K = n K) ∧ (∀ a s, s ≠ 2 → s ≠ 3 → ¬ (a = v ∧ (s = 5 ∨ (14 ≤ s ∧ s ≤ 17))) → n' 3 a s = n 3 a s) ∧ (∀ a, 0 ≤ a → (n 3 a 1 ≠ v ∨ n 3 a 0 = 3) → n' 3 a 2 = n 3 a 2 ∧ n' 3 a 3 = n 3 a 3) ∧ (∀ s, s < 8 → n' 5 0 s = n 5 0 s)
  ∧ (n 90 0 0 ≤ n' 90 0 0 ∧ (∀ q, q < n 90 0 0 → n' 92 0 q = n 92 0 q ∧ n' 93 0 q = n 93 0 q) ∧ (∀ q, q < n 90 0 0 → q ≠ n 5 0 5 → q ≠ n 5 0 9 → n' 99 q = n 99 q) ∧ (n' 5 0 9 = n 5 0 9 ∨ n 90 0 0 ≤ n' 5 0 9))
  ∧ (∀ j, j % 6 ≠ 3 → j % 6 ≠ 4 → n' 99 (n 5 0 5) j = n 99 (n 5 0 5) j)
  ∧ (∀ i, 0 ≤ i → n 3 (n 99 (n 5 0 5) (6 * i)) 1 ≠ v → n' 99 (n 5 0 5) (6 * i + 3) = n 99 (n 5 0 5) (6 * i + 3) ∧ n' 99 (n 5 0 5) (6 * i + 4) = n 99 (n 5 0 5) (6 * i + 4))
def FYP (v : Int) (m m' : YS) : Prop := FY [110, 111, 113, 114, 115, 121, 122, 127, 128, 129, 130, 131, 132, 133, 134, 135, 136, 137, 138, 139, 140, 141, 142, 143, 144, 145] m m' ∧ (∀ a, a ≠ v → m' 113 a = m 113 a ∧ m' 114 a = m 114 a ∧ m' 115 a = m 115 a) ∧ (∀ a, 0 ≤ a → m 109 a ≠ v → m' 110 a = m 110 a ∧ m' 111 a = m 111 a) ∧ (∀ w, 0 ≤ w → m 109 (m 118 w) ≠ v → m' 121 w = m 121 w ∧ m' 122 w = m 122 w)
def BLR (A B : Int) (o e : Int → Int) (k : Int) (n : NS) (m : YS) (n' : NS) (m' : YS) : Prop := BI A B n' ∧ WLc n' ∧ FP2 (o k) n n' ∧ FYP (o k) m m' ∧ LDb n' m' o e k ∧ DNE n' m' o (o k) (n 3 (o k) 8) k (e k)
section X7
variable {n n' n'' nc : NS} {m m' m'' : YS} {A B N a b c x y q s E F F' v wd u w t k j r v3 v4 v5 v7 x1 x2 x3 x4 x5 x6 f l f' l' H : Int} {o e p : Int → Int}
/-- the height, in both -/
theorem c_setH (hL : LKs n m N o) (k0 : 0 ≤ k) (hkN : k < N) (ho : 0 ≤ o k ∧ o k < 120) (h17 : m 46 (o k) ≠ 17) (h8 : 0 ≤ n 3 (o k) 8 ∧ n 3 (o k) 8 ≤ 23) (hH : 0 ≤ H ∧ H ≤ 1000000) : N_Layout_setHeight (o k) (o k) H n = some (nw n 3 (o k) 5 (if m 105 (11 * o k + 7) = -1 then 2 * n 3 (o k) 8 + H else max (m 105 (11 * o k + 7)) (2 * n 3 (o k) 8))) := by
  unfold N_Layout_setHeight st
  dsimp only
  rw [c_look hL k0 hkN ho h17 (by decide)]
  simp only [Option.bind_some]
  rw [ck_e _ (by omega), ck_e _ (by omega)]
  by_cases z : m 105 (11 * o k + 7) = -1
  · rw [if_pos z, if_pos z]
  · rw [if_neg z, if_neg z, nw_ns (show (8 : Int) ≠ 5 by decide), ck_e _ (by omega), nw_nw]
theorem y_heightOf (ho : 0 ≤ v ∧ v < 120) (he : -100 ≤ m 105 (11 * v + 4) ∧ m 105 (11 * v + 4) ≤ 2000 ∧ -100 ≤ m 105 (11 * v + 5) ∧ m 105 (11 * v + 5) ≤ 2000) (hH : 0 ≤ H ∧ H ≤ 1000000) : N_Y_heightOf v H m = some (if m 105 (11 * v + 7) = -1 then H + 2 * (m 105 (11 * v + 4) + m 105 (11 * v + 5)) else max (m 105 (11 * v + 7)) (2 * (m 105 (11 * v + 4) + m 105 (11 * v + 5)))) := by
  unfold N_Y_heightOf
  rw [y_of ho (by decide)]
  simp only [Option.bind_some]
  rw [y_edges ho he]
  simp only [Option.bind_some]
  rw [ck_e _ (by omega), ck_e _ (by omega)]
  by_cases z : m 105 (11 * v + 7) = -1
  · rw [if_pos z, if_pos z]
  · rw [if_neg z, if_neg z, ck_e _ (by omega)]
theorem y_inner (ho : 0 ≤ v ∧ v < 120) (he : -100 ≤ m 105 (11 * v + 4) ∧ m 105 (11 * v + 4) ≤ 2000 ∧ -100 ≤ m 105 (11 * v + 5) ∧ m 105 (11 * v + 5) ≤ 2000) (hw : 0 ≤ m 112 v ∧ m 112 v ≤ 2000000) : N_Y_inner v m = some (max 0 (m 112 v - 2 * (m 105 (11 * v + 4) + m 105 (11 * v + 5)))) := by
  unfold N_Y_inner
  rw [ix_e _ ho, y_edges ho he]
  simp only [Option.bind_some]
  rw [ck_e _ (by omega), ck_e _ (by omega)]
/-- the margins of the reference -/
theorem y_540 (hC : CTX n m N o e p k) (k0 : 0 ≤ k) (hkN : k < N) (hb : m 107 (o k) = 1) (hf : FKj m o p k f (e k)) (hl : LKj m o p k l (e k)) :
    ∃ m', nk_Y_layBlock_540 (o k) l f m = some m' ∧ FY [114, 115] m m' ∧ (∀ a, a ≠ o k → m' 114 a = m 114 a ∧ m' 115 a = m 115 a)
      ∧ ((JOI m o p k ∧ IFk m f → m' 114 (o k) = max (m 105 (11 * o k + 3)) (m 114 f)) ∧ (¬ (JOI m o p k ∧ IFk m f) → m' 114 (o k) = m 105 (11 * o k + 3)))
      ∧ ((JOI m o p k ∧ IFk m l ∧ m 105 (11 * o k + 7) = -1 → m' 115 (o k) = max (m 105 (11 * o k + 3)) (m 115 l)) ∧ (¬ (JOI m o p k ∧ IFk m l ∧ m 105 (11 * o k + 7) = -1) → m' 115 (o k) = m 105 (11 * o k + 3))) := by
  have hG := hC.1
  have hE := hG.eB k0 hkN
  have ho := hG.oB k0 hkN
  obtain ⟨m16, hm16⟩ : ∃ m16, m16 = yw (yw m 114 (o k) (m 105 (11 * o k + 3))) 115 (o k) (m 105 (11 * o k + 3)) := ⟨_, rfl⟩
  have g : ∀ f, f ≠ 114 → f ≠ 115 → m16 f = m f := fun f x y => by rw [hm16, yw_nF y, yw_nF x]
  have g114 : m16 114 (o k) = m 105 (11 * o k + 3) := by rw [hm16, yw_nF (by decide), yw_eq]
  have g115 : m16 115 (o k) = m 105 (11 * o k + 3) := by rw [hm16, yw_eq]
  have go : ∀ a, a ≠ o k → m16 114 a = m 114 a ∧ m16 115 a = m 115 a := fun a x => by rw [hm16, yw_nF (show (114 : Nat) ≠ 115 by decide), yw_ni x, yw_ni x, yw_nF (show (115 : Nat) ≠ 114 by decide)]; exact ⟨rfl, rfl⟩
  have fy16 : FY [114, 115] m m16 := fun f hf => g f (fun z => hf (by rw [z]; decide)) (fun z => hf (by rw [z]; decide))
  have hjo : N_Y_joins (o k) m16 = some (if JOI m o p k then 1 else 0) := by
    rw [← y_joins hC k0 hkN (.inl hb)]
    unfold N_Y_joins N_Y_edges N_Y_of
    rw [g 107 (by decide) (by decide), g 108 (by decide) (by decide), g 49 (by decide) (by decide), g 105 (by decide) (by decide)]
  have h0 : nk_Y_layBlock_540 (o k) l f m = if JOI m o p k then (if f = -1 then some m16 else (N_Y_isBox f m16).bind fun z28 => if z28 = 0 then nk_Y_layBlock_620 (o k) l m16 else ix f 120 <| if (m16 108 f) = 0 then (ix (o k) 120 <| ix f 120 <| ix (o k) 120 <| st (yw m16 114 (o k) (max (m16 114 (o k)) (m16 114 f))) fun m45 => nk_Y_layBlock_620 (o k) l m45) else nk_Y_layBlock_620 (o k) l m16) else some m16 := by
    unfold nk_Y_layBlock_540
    rw [y_of ho (by decide)]
    simp only [Option.bind_some]
    unfold st
    dsimp only
    rw [ix_e _ ho, y_of ho (by decide), yw_nF (show (105 : Nat) ≠ 114 by decide)]
    simp only [Option.bind_some]
    rw [ix_e _ ho, ← hm16, hjo]
    simp only [Option.bind_some]
    by_cases z : JOI m o p k
    · rw [if_pos z, if_pos z, if_neg (by decide)]
    · rw [if_neg z, if_neg z, if_pos rfl]
  rw [h0]
  by_cases hJ : JOI m o p k
  · rw [if_pos hJ]
    -- below
    have h620 : ∀ m3 : YS, FY [114, 115] m m3 → (∀ a, a ≠ o k → m3 114 a = m 114 a ∧ m3 115 a = m 115 a) → m3 115 (o k) = m 105 (11 * o k + 3) → l ≠ -1 → ∃ m', nk_Y_layBlock_620 (o k) l m3 = some m' ∧ FY [114, 115] m m' ∧ (∀ a, a ≠ o k → m' 114 a = m 114 a ∧ m' 115 a = m 115 a) ∧ m' 114 (o k) = m3 114 (o k)
        ∧ ((JOI m o p k ∧ IFk m l ∧ m 105 (11 * o k + 7) = -1 → m' 115 (o k) = max (m 105 (11 * o k + 3)) (m 115 l)) ∧ (¬ (JOI m o p k ∧ IFk m l ∧ m 105 (11 * o k + 7) = -1) → m' 115 (o k) = m 105 (11 * o k + 3))) := fun m3 k1 k2 k3 hlne => by
      rcases hl with ⟨z, _⟩ | ⟨q, ⟨q1, q2⟩, q3, q4, q5, q6⟩
      · exact absurd z hlne
      · have hqo := hG.oB (k := q) (by omega) (by omega)
        have hqk : o q ≠ o k := fun z => by have := hG.inj (j := q) (k := k) (by omega) (by omega) k0 hkN z; omega
        rw [q4] at hqo hqk
        unfold nk_Y_layBlock_620 st
        rw [y_isBox hqo, k1 107 (by decide)]
        simp only [Option.bind_some]
        by_cases w1 : m 107 l = 1 ∨ m 107 l = 2
        · rw [if_pos w1, if_neg (by decide), ix_e _ hqo, k1 108 (by decide)]
          by_cases w2 : m 108 l = 0
          · rw [if_pos w2, y_of ho (by decide), k1 105 (by decide)]
            simp only [Option.bind_some]
            by_cases w3 : m 105 (11 * o k + 7) = -1
            · rw [if_pos w3, ix_e _ ho, ix_e _ hqo, ix_e _ ho]
              refine ⟨_, rfl, fun f hf => by rw [yw_nF (fun z => hf (by rw [z]; decide))]; exact k1 f hf, fun a x => ?_, by rw [yw_nF (show (114 : Nat) ≠ 115 by decide)], fun _ => ?_, fun g => absurd ⟨hJ, ⟨hlne, w1, w2⟩, w3⟩ g⟩
              · rw [yw_nF (show (114 : Nat) ≠ 115 by decide), yw_ni x]; exact k2 a x
              · rw [yw_eq, k3, (k2 l hqk).2]
            · rw [if_neg w3]
              exact ⟨m3, rfl, k1, k2, rfl, fun g => absurd g.2.2 w3, fun _ => k3⟩
          · rw [if_neg w2]
            exact ⟨m3, rfl, k1, k2, rfl, fun g => absurd g.2.1.2.2 w2, fun _ => k3⟩
        · rw [if_neg w1, if_pos rfl]
          exact ⟨m3, rfl, k1, k2, rfl, fun g => absurd g.2.1.2.1 w1, fun _ => k3⟩
    rcases hf with ⟨z, zz⟩ | ⟨q, ⟨q1, q2⟩, q3, q4, q5, q6⟩
    · rw [if_pos z]
      refine ⟨m16, rfl, fy16, go, ⟨fun g => absurd z g.2.1, fun _ => g114⟩, fun g => ?_, fun _ => g115⟩
      rcases hl with ⟨y, _⟩ | ⟨q', y1, y2, y3, y4, y5⟩
      · exact absurd y g.2.1.1
      · exact absurd (zz q' y1.1 y1.2 y2) y4
    · have hlne : l ≠ -1 := by
        rcases hl with ⟨y, yy⟩ | ⟨q', y1, y2, y3, y4, y5⟩
        · exact absurd (yy q q1 q2 q3) q5
        · have := hG.oB (k := q') (by omega) (by omega)
          omega
      have hqo := hG.oB (k := q) (by omega) (by omega)
      have hqk : o q ≠ o k := fun z => by have := hG.inj (j := q) (k := k) (by omega) (by omega) k0 hkN z; omega
      rw [q4] at hqo hqk
      rw [if_neg (by omega), y_isBox hqo, g 107 (by decide) (by decide), g 108 (by decide) (by decide)]
      simp only [Option.bind_some]
      by_cases w1 : m 107 f = 1 ∨ m 107 f = 2
      · rw [if_pos w1, if_neg (by decide), ix_e _ hqo]
        by_cases w2 : m 108 f = 0
        · unfold st
          dsimp only
          rw [if_pos w2, ix_e _ ho, ix_e _ hqo, ix_e _ ho]
          obtain ⟨m', r1, r2, r3, r4, r5⟩ := h620 (yw m16 114 (o k) (max (m16 114 (o k)) (m16 114 f))) (fun f hf => by rw [yw_nF (fun z => hf (by rw [z]; decide))]; exact fy16 f hf) (fun a x => by rw [yw_ni x, yw_nF (show (115 : Nat) ≠ 114 by decide)]; exact go a x) (by rw [yw_nF (by decide)]; exact g115) hlne
          refine ⟨m', r1, r2, r3, ⟨fun _ => ?_, fun g => absurd ⟨hJ, by omega, w1, w2⟩ g⟩, r5⟩
          rw [r4, yw_eq, g114, (go f hqk).1]
        · rw [if_neg w2]
          obtain ⟨m', r1, r2, r3, r4, r5⟩ := h620 m16 fy16 go g115 hlne
          exact ⟨m', r1, r2, r3, ⟨fun g => absurd g.2.2.2 w2, fun _ => by rw [r4]; exact g114⟩, r5⟩
      · rw [if_neg w1, if_pos rfl]
        obtain ⟨m', r1, r2, r3, r4, r5⟩ := h620 m16 fy16 go g115 hlne
        exact ⟨m', r1, r2, r3, ⟨fun g => absurd g.2.2.1 w1, fun _ => by rw [r4]; exact g114⟩, r5⟩
  · rw [if_neg hJ]
    exact ⟨m16, rfl, fy16, go, ⟨fun g => absurd g.1 hJ, fun _ => g114⟩, fun g => absurd g.1 hJ, fun _ => g115⟩
/-- a flow begins, in the class -/
theorem c_flow0 (hB : BK (nw n 5 0 8 v) m v E wd) : N_Layout_startFlow v n = some (wO (nw (nw (nw (nw (nw (nw (nw n 5 0 8 v) 5 0 17 0) 5 0 18 0) 5 0 19 E) 5 0 10 0) 5 0 11 E) 5 0 15 0) (leR m 0 0 + E) (riR m 0 0 + E) (nX E (neR m 0 0))) := by
  obtain ⟨n28, hn28⟩ : ∃ n28, n28 = nw (nw (nw (nw (nw (nw (nw n 5 0 8 v) 5 0 17 0) 5 0 18 0) 5 0 19 E) 5 0 10 0) 5 0 11 E) 5 0 15 0 := ⟨_, rfl⟩
  have hK : ∀ K, K ≠ 5 → n28 K = nw n 5 0 8 v K := fun K x => by rw [hn28, nw_nK x, nw_nK x, nw_nK x, nw_nK x, nw_nK x, nw_nK x]
  have hs : ∀ s, s ≠ 17 → s ≠ 18 → s ≠ 19 → s ≠ 10 → s ≠ 11 → s ≠ 15 → n28 5 0 s = nw n 5 0 8 v 5 0 s := fun s a b c d e f => by rw [hn28, nw_ns f, nw_ns e, nw_ns d, nw_ns c, nw_ns b, nw_ns a]
  have hB8 : BK n28 m v E wd := hB.cg (hs 8 (by decide) (by decide) (by decide) (by decide) (by decide) (by decide)) (fun a s _ _ => by rw [hK 3 (by decide)]) rfl rfl
  have hop := c_openAt (y := 0) (F := 0) hB8 (by rw [hn28, nw_ns (by decide), nw_ns (by decide), nw_ns (by decide), nw_ns (by decide), nw_ns (by decide), nw_eq]) (by decide) (fun f x y => by omega)
  rw [show (0 : Int) + E = E by omega] at hop
  have h38 : n 3 v 8 = E := by have := hB.2.2.1; rw [nw_nK (by decide)] at this; exact this
  unfold N_Layout_startFlow st
  dsimp only
  have e3 : ∀ (n1 : NS) (s x : Int), nw n1 5 0 s x 3 = n1 3 := fun n1 s x => nw_nK (by decide)
  simp only [e3, h38]
  rw [← hn28, show n28 5 0 11 = E by rw [hn28, nw_ns (by decide), nw_eq], hop]
  rfl
end X7
