/-! ENTITIES, and bytes that are taken over -/
abbrev e4A (g : Int → Int) (i to : Int) : Prop := i + 3 < to ∧ g (i + 2) = 116 ∧ g (i + 3) = 59 ∧ (g (i + 1) = 108 ∨ g (i + 1) = 103)
abbrev e5A (g : Int → Int) (i to : Int) : Prop := i + 4 < to ∧ g (i + 1) = 97 ∧ g (i + 2) = 109 ∧ g (i + 3) = 112 ∧ g (i + 4) = 59
abbrev e6A (g : Int → Int) (i to : Int) : Prop := i + 5 < to ∧ g (i + 1) = 113 ∧ g (i + 2) = 117 ∧ g (i + 3) = 111 ∧ g (i + 4) = 116 ∧ g (i + 5) = 59
def entL (g : Int → Int) (i to : Int) : Int := if g i = 38 then (if e4A g i to then 4 else if e5A g i to then 5 else if e6A g i to then 6 else 1) else 1
def entB (g : Int → Int) (i to : Int) : Int := if g i = 38 then (if e4A g i to then (if g (i + 1) = 108 then 60 else 62) else if e5A g i to then 38 else if e6A g i to then 34 else 38) else g i
theorem entL_b {g : Int → Int} {i to : Int} (h : i < to) : 1 ≤ entL g i to ∧ i + entL g i to ≤ to ∧ entL g i to ≤ 6 := by
  unfold entL
  (repeat' split) <;> omega
section G2
variable {n : NS} {m : YS} {f : Nat} {g : Int → Int} {L i to A B b r : Int}
def EQ (m : YS) (g : Int → Int) (i to : Int) (x : Int × YS) : Prop := x.1 = entB g i to ∧ FY [77] m x.2 ∧ x.2 77 0 = entL g i to
theorem y_ent (hf : f ≠ 77) (hg : m f = g) (hi : 0 ≤ i ∧ i < to ∧ to ≤ yLn f ∧ to ≤ 100000) : ev (N_Y_entity f i to m) (EQ m g i to) := by
  unfold N_Y_entity
  refine ev_st (ev_ix (by omega) ?_)
  generalize hm2 : yw m 77 0 1 = m2
  have f2 : FY [77] m m2 := fun x hx => by rw [← hm2]; exact yw_nF (fun y => hx (by simp [y]))
  have e77 : m2 77 0 = 1 := by rw [← hm2, yw_eq]
  have hg2 : m2 f = g := by rw [f2 f (by simp [hf])]; exact hg
  have fw : ∀ v : Int, FY [77] m (yw m2 77 0 v) := fun v x hx => by rw [yw_nF (fun y => hx (by simp [y]))]; exact f2 x hx
  rw [hg2]
  refine ev_if (fun h38 => ?_) (fun h38 => ev_ix (by omega) (ev_ok ⟨?_, f2, ?_⟩))
  · have fin68 : e4A g i to → ev (nk_Y_entity_68 f i m2) (EQ m g i to) := fun h4 => by
      unfold nk_Y_entity_68
      refine ev_st (ev_ck (by omega) (ev_ix (by omega) ?_))
      rw [show yw m2 77 0 4 f = g by rw [yw_nF hf]; exact hg2]
      refine ev_if (fun z => ev_ok ⟨?_, fw 4, ?_⟩) (fun z => ev_ok ⟨?_, fw 4, ?_⟩)
      · unfold entB; rw [if_pos h38, if_pos h4, if_pos z]
      · unfold entL; rw [if_pos h38, if_pos h4]; show yw m2 77 0 4 77 0 = 4; exact yw_eq
      · unfold entB; rw [if_pos h38, if_pos h4, if_neg z]
      · unfold entL; rw [if_pos h38, if_pos h4]; show yw m2 77 0 4 77 0 = 4; exact yw_eq
    have fin150 : ¬ e4A g i to → ¬ e5A g i to → ev (nk_Y_entity_150 f i to 38 m2) (EQ m g i to) := fun h4 h5 => by
      have no : ¬ e6A g i to → ev (some (38, m2)) (EQ m g i to) := fun h6 => ev_ok ⟨by unfold entB; rw [if_pos h38, if_neg h4, if_neg h5, if_neg h6], f2, by unfold entL; rw [if_pos h38, if_neg h4, if_neg h5, if_neg h6]; exact e77⟩
      unfold nk_Y_entity_150
      rw [hg2]
      refine ev_ck (by omega) (ev_if (fun z0 => ev_ck (by omega) (ev_ix (by omega) (ev_if (fun z1 => ev_ck (by omega) (ev_ix (by omega) (ev_if (fun z2 => ev_ck (by omega) (ev_ix (by omega) (ev_if (fun z3 => ev_ck (by omega) (ev_ix (by omega) (ev_if (fun z4 => ev_ck (by omega) (ev_ix (by omega) (ev_if (fun z5 => ev_st (ev_ok ⟨?_, fw 6, ?_⟩)) (fun z => no (fun y => z y.2.2.2.2.2))))) (fun z => no (fun y => z y.2.2.2.2.1))))) (fun z => no (fun y => z y.2.2.2.1))))) (fun z => no (fun y => z y.2.2.1))))) (fun z => no (fun y => z y.2.1))))) (fun z => no (fun y => z y.1)))
      · unfold entB; rw [if_pos h38, if_neg h4, if_neg h5, if_pos ⟨z0, z1, z2, z3, z4, z5⟩]
      · unfold entL; rw [if_pos h38, if_neg h4, if_neg h5, if_pos ⟨z0, z1, z2, z3, z4, z5⟩]; show yw m2 77 0 6 77 0 = 6; exact yw_eq
    have fin95 : ¬ e4A g i to → ev (nk_Y_entity_95 f i to 38 m2) (EQ m g i to) := fun h4 => by
      have no := fin150 h4
      unfold nk_Y_entity_95
      rw [hg2]
      refine ev_ck (by omega) (ev_if (fun z0 => ev_ck (by omega) (ev_ix (by omega) (ev_if (fun z1 => ev_ck (by omega) (ev_ix (by omega) (ev_if (fun z2 => ev_ck (by omega) (ev_ix (by omega) (ev_if (fun z3 => ev_ck (by omega) (ev_ix (by omega) (ev_if (fun z4 => ev_st (ev_ok ⟨?_, fw 5, ?_⟩)) (fun z => no (fun y => z y.2.2.2.2))))) (fun z => no (fun y => z y.2.2.2.1))))) (fun z => no (fun y => z y.2.2.1))))) (fun z => no (fun y => z y.2.1))))) (fun z => no (fun y => z y.1)))
      · unfold entB; rw [if_pos h38, if_neg h4, if_pos ⟨z0, z1, z2, z3, z4⟩]
      · unfold entL; rw [if_pos h38, if_neg h4, if_pos ⟨z0, z1, z2, z3, z4⟩]; show yw m2 77 0 5 77 0 = 5; exact yw_eq
    refine ev_ck (by omega) (ev_if (fun z0 => ev_ck (by omega) (ev_ix (by omega) (ev_if (fun z1 => ev_ck (by omega) (ev_ix (by omega) (ev_if (fun z2 => ev_ck (by omega) (ev_ix (by omega) (ev_if (fun z3 => fin68 ⟨z0, z1, z2, .inl z3⟩) (fun z3 => ev_ck (by omega) (ev_ix (by omega) (ev_if (fun z4 => fin68 ⟨z0, z1, z2, .inr z4⟩) (fun z4 => fin95 (fun y => ?_)))))))) (fun z => fin95 (fun y => z y.2.2.1))))) (fun z => fin95 (fun y => z y.2.1))))) (fun z => fin95 (fun y => z y.1)))
    rcases y.2.2.2 with w | w
    · exact z3 w
    · exact z4 w
  · unfold entB; rw [if_neg h38]
  · unfold entL; rw [if_neg h38]; exact e77
theorem c_entL (h : RDR n g L) (hi : 0 ≤ i ∧ i < to ∧ to ≤ L) (h38 : g i = 38) : ev (N_Reader_entityLength i to n) (fun x => x = entL g i to) := by
  obtain ⟨h1, h2, h3, h4, h5⟩ := h
  have m1 : ∀ c : Int, (mtR [38, c, 116, 59] g i to ↔ (i + 3 < to ∧ g (i + 1) = c ∧ g (i + 2) = 116 ∧ g (i + 3) = 59)) := fun c => by
    show (i < to ∧ g i = 38 ∧ i + 1 < to ∧ g (i + 1) = c ∧ i + 1 + 1 < to ∧ g (i + 1 + 1) = 116 ∧ i + 1 + 1 + 1 < to ∧ g (i + 1 + 1 + 1) = 59 ∧ True) ↔ _
    rw [show i + 1 + 1 + 1 = i + 3 by omega, show i + 1 + 1 = i + 2 by omega]
    constructor
    · intro z; obtain ⟨_, _, _, b, _, c, d, e, _⟩ := z; exact ⟨d, b, c, e⟩
    · intro z; obtain ⟨d, b, c, e⟩ := z; exact ⟨by omega, h38, by omega, b, by omega, c, d, e, trivial⟩
  have m2 : mtR [38, 97, 109, 112, 59] g i to ↔ e5A g i to := by
    show (i < to ∧ g i = 38 ∧ i + 1 < to ∧ g (i + 1) = 97 ∧ i + 1 + 1 < to ∧ g (i + 1 + 1) = 109 ∧ i + 1 + 1 + 1 < to ∧ g (i + 1 + 1 + 1) = 112 ∧ i + 1 + 1 + 1 + 1 < to ∧ g (i + 1 + 1 + 1 + 1) = 59 ∧ True) ↔ _
    rw [show i + 1 + 1 + 1 + 1 = i + 4 by omega, show i + 1 + 1 + 1 = i + 3 by omega, show i + 1 + 1 = i + 2 by omega]
    constructor
    · intro z; obtain ⟨_, _, _, b, _, c, _, d, e, f, _⟩ := z; exact ⟨e, b, c, d, f⟩
    · intro z; obtain ⟨e, b, c, d, f⟩ := z; exact ⟨by omega, h38, by omega, b, by omega, c, by omega, d, e, f, trivial⟩
  have m3 : mtR [38, 113, 117, 111, 116, 59] g i to ↔ e6A g i to := by
    show (i < to ∧ g i = 38 ∧ i + 1 < to ∧ g (i + 1) = 113 ∧ i + 1 + 1 < to ∧ g (i + 1 + 1) = 117 ∧ i + 1 + 1 + 1 < to ∧ g (i + 1 + 1 + 1) = 111 ∧ i + 1 + 1 + 1 + 1 < to ∧ g (i + 1 + 1 + 1 + 1) = 116 ∧ i + 1 + 1 + 1 + 1 + 1 < to ∧ g (i + 1 + 1 + 1 + 1 + 1) = 59 ∧ True) ↔ _
    rw [show i + 1 + 1 + 1 + 1 + 1 = i + 5 by omega, show i + 1 + 1 + 1 + 1 = i + 4 by omega, show i + 1 + 1 + 1 = i + 3 by omega, show i + 1 + 1 = i + 2 by omega]
    constructor
    · intro z; obtain ⟨_, _, _, b, _, c, _, d, _, e, f, k, _⟩ := z; exact ⟨f, b, c, d, e, k⟩
    · intro z; obtain ⟨f, b, c, d, e, k⟩ := z; exact ⟨by omega, h38, by omega, b, by omega, c, by omega, d, by omega, e, f, k, trivial⟩
  unfold N_Reader_entityLength entL
  rw [if_pos h38]
  refine ev_nn h3 (ev_bz (cs_stands h1 okS11 hi.2.2 hi.1 (by omega) (by omega) (by decide)) (fun p => ?_) (fun p => ?_))
  · rw [if_neg (by decide)]
    obtain ⟨a, b, c, d⟩ := (m1 108).mp p
    exact ev_ok (by rw [if_pos ⟨a, c, d, .inl b⟩])
  · rw [if_pos rfl]
    refine ev_nn h3 (ev_bz (cs_stands h1 okS12 hi.2.2 hi.1 (by omega) (by omega) (by decide)) (fun p2 => ?_) (fun p2 => ?_))
    · rw [if_neg (by decide)]
      obtain ⟨a, b, c, d⟩ := (m1 103).mp p2
      exact ev_ok (by rw [if_pos ⟨a, c, d, .inr b⟩])
    · have n4 : ¬ e4A g i to := fun y => by
        rcases y.2.2.2 with w | w
        · exact p ((m1 108).mpr ⟨y.1, w, y.2.1, y.2.2.1⟩)
        · exact p2 ((m1 103).mpr ⟨y.1, w, y.2.1, y.2.2.1⟩)
      rw [if_pos rfl, if_neg n4]
      refine ev_nn h3 (ev_bz (cs_stands h1 okS13 hi.2.2 hi.1 (by omega) (by omega) (by decide)) (fun p3 => ?_) (fun p3 => ?_))
      · rw [if_neg (by decide)]
        exact ev_ok (by rw [if_pos (m2.mp p3)])
      · rw [if_pos rfl, if_neg (fun y => p3 (m2.mpr y))]
        refine ev_nn h3 (ev_bz (cs_stands h1 okS14 hi.2.2 hi.1 (by omega) (by omega) (by decide)) (fun p4 => ?_) (fun p4 => ?_))
        · rw [if_neg (by decide)]
          exact ev_ok (by rw [if_pos (m3.mp p4)])
        · rw [if_pos rfl]
          exact ev_ok (by rw [if_neg (fun y => p4 (m3.mpr y))])
theorem c_entB (h : RDR n g L) (hi : 0 ≤ i ∧ i < to ∧ to ≤ L) (h38 : g i = 38) (hl : entL g i to ≠ 1) : ev (N_Reader_entityByte i n) (fun x => x = entB g i to) := by
  obtain ⟨h1, h2, h3, h4, h5⟩ := h
  have hcs : e4A g i to ∨ (¬ e4A g i to ∧ e5A g i to) ∨ (¬ e4A g i to ∧ ¬ e5A g i to ∧ e6A g i to) := by
    unfold entL at hl
    rw [if_pos h38] at hl
    by_cases a : e4A g i to
    · exact .inl a
    · by_cases b : e5A g i to
      · exact .inr (.inl ⟨a, b⟩)
      · by_cases c : e6A g i to
        · exact .inr (.inr ⟨a, b, c⟩)
        · rw [if_neg a, if_neg b, if_neg c] at hl; exact absurd rfl hl
  have hlt : i + 1 < to := by rcases hcs with y | y | y <;> omega
  unfold N_Reader_entityByte entB
  rw [if_pos h38]
  refine ev_nn h3 (ev_ck (by omega) (ev_tx h1 ⟨by omega, by omega⟩ (fun e => ?_)))
  rw [e]
  rcases hcs with y | ⟨y1, y2⟩ | ⟨y1, y2, y3⟩
  · rw [if_pos y]
    rcases y.2.2.2 with w | w
    · rw [if_neg (by omega), if_neg (by omega), if_pos w, if_pos w]; exact ev_ok rfl
    · rw [if_neg (by omega), if_pos w, if_neg (by omega)]; exact ev_ok rfl
  · rw [if_neg y1, if_pos y2, if_pos y2.2.1]; exact ev_ok rfl
  · rw [if_neg y1, if_neg y2, if_pos y3, if_neg (by omega), if_neg (by omega), if_neg (by omega)]; exact ev_ok rfl
end G2
/-- the bytes that come out of a text, each with its place; r is 0 where entities count -/
def stL (r : Int) (g : Int → Int) (i to : Int) : Int := if r = 0 then entL g i to else 1
def stB (r : Int) (g : Int → Int) (i to : Int) : Int := if r = 0 then entB g i to else g i
theorem stL_b {r : Int} {g : Int → Int} {i to : Int} (h : i < to) : 1 ≤ stL r g i to ∧ i + stL r g i to ≤ to ∧ stL r g i to ≤ 6 := by
  unfold stL
  split
  · exact entL_b h
  · omega
def dcP (r : Int) (g : Int → Int) (to : Int) : Nat → Int → List (Int × Int)
  | 0, _ => []
  | k + 1, i => if i < to then (i, stB r g i to) :: dcP r g to k (i + stL r g i to) else []
def dcl (r : Int) (g : Int → Int) (i to : Int) : List (Int × Int) := dcP r g to (to - i).toNat i
theorem dcP_more {r : Int} {g : Int → Int} {to : Int} : ∀ (k l : Nat) (i : Int), (to - i).toNat ≤ k → (to - i).toNat ≤ l → dcP r g to k i = dcP r g to l i := by
  intro k
  induction k with
  | zero =>
    intro l i h1 h2
    cases l with
    | zero => rfl
    | succ l => show [] = (if i < to then _ else []); rw [if_neg (by omega)]
  | succ k ih =>
    intro l i h1 h2
    cases l with
    | zero => show (if i < to then _ else []) = []; rw [if_neg (by omega)]
    | succ l =>
      show (if i < to then (i, stB r g i to) :: dcP r g to k (i + stL r g i to) else []) = (if i < to then (i, stB r g i to) :: dcP r g to l (i + stL r g i to) else [])
      by_cases z : i < to
      · have := stL_b (r := r) (g := g) z
        rw [if_pos z, if_pos z, ih l (i + stL r g i to) (by omega) (by omega)]
      · rw [if_neg z, if_neg z]
theorem dcl_1 {r : Int} {g : Int → Int} {i to : Int} (h : i < to) : dcl r g i to = (i, stB r g i to) :: dcl r g (i + stL r g i to) to := by
  have hb := stL_b (r := r) (g := g) h
  unfold dcl
  obtain ⟨k, hk⟩ : ∃ k, (to - i).toNat = k + 1 := ⟨(to - i).toNat - 1, by omega⟩
  rw [hk]
  show (if i < to then (i, stB r g i to) :: dcP r g to k (i + stL r g i to) else []) = _
  rw [if_pos h, dcP_more k (to - (i + stL r g i to)).toNat _ (by omega) (Nat.le_refl _)]
theorem dcl_0 {r : Int} {g : Int → Int} {i to : Int} (h : ¬ i < to) : dcl r g i to = [] := by
  unfold dcl; rw [show (to - i).toNat = 0 by omega]; rfl
