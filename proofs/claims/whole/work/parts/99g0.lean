/-! A NODE COMES, with all that the nodes hold -/
/-- the class but for what one node holds -/
def OnN (f : Int) (n n' : NS) : Prop := (∀ u, 0 ≤ u → u < 120 → u ≠ f → NG n n' u) ∧ (∀ u s, s ≠ 12 → s ≠ 15 → s ≠ 16 → n' 7 u s = n 7 u s) ∧ n' 10 = n 10 ∧ n' 22 = n 22
def OnY (f : Int) (m m' : YS) : Prop := (∀ u, u ≠ f → YG m m' u) ∧ (∀ g, g = 45 ∨ (49 ≤ g ∧ g ≤ 55) ∨ g = 68 ∨ g = 69 → m' g = m g)
section G0
variable {n n' : NS} {m m' : YS} {A B N k t c f : Int} {o e p : Int → Int}
theorem JS.cg2 (h : JS n m N o e p) (h7 : ∀ u s, s = 0 ∨ s = 2 ∨ s = 3 ∨ s = 4 ∨ s = 5 ∨ s = 7 ∨ s = 10 → n' 7 u s = n 7 u s) (h10 : n' 10 0 5 = n 10 0 5 ∧ n' 10 0 7 = n 10 0 7) (ey : ∀ g, g = 45 ∨ (49 ≤ g ∧ g ≤ 55) ∨ g = 68 ∨ g = 69 → m' g = m g) : JS n' m' N o e p := by
  have h1 : JS n' m N o e p := by
    refine ⟨h.1, h.2.1, h.2.2.1, fun v a b => ?_, fun k a b => ?_, ?_⟩
    · rw [h7 v 0 (by omega)]; exact h.2.2.2.1 v a b
    · unfold lnk
      rw [h7 _ 2 (by omega), h7 _ 3 (by omega), h7 _ 4 (by omega), h7 _ 5 (by omega), h7 _ 7 (by omega), h7 _ 10 (by omega)]
      exact h.2.2.2.2.1 k a b
    · rw [h10.1, h10.2]; exact h.2.2.2.2.2
  exact h1.cg rfl rfl ey
theorem newC_NG (hq : f ≠ k) (hf : 0 ≤ f ∧ f < 120) {u : Int} (hu : u ≠ f) : NG n (newC n f k t c) u := by
  refine ⟨fun s hs => ?_, by rw [newC_K (by decide)], fun b b0 b1 => ?_⟩
  · rw [newC_7 hq hu, if_neg (by omega), if_neg (by omega), if_neg (by omega), if_neg (by omega)]
  · have e4 : newC n f k t c 4 b = n 4 b := by
      funext s
      rw [newC_4, if_neg (by omega)]
    unfold bt
    rw [e4, newC_K (by decide)]
theorem newY_YG {d : Int} (hq : f ≠ k) {u : Int} (hu : u ≠ f) : YG m (newY m f k d) u := by
  have e : ∀ (g : Nat) (i : Int), (g = 46 ∨ g = 47 ∨ g = 57 ∨ g = 58 ∨ g = 59 ∨ g = 60 ∨ g = 61 ∨ g = 64) ∨ (i = u ∧ (g = 48 ∨ g = 56 ∨ g = 62 ∨ g = 65 ∨ g = 66)) → newY m f k d g i = m g i := fun g i hg => newY_o hq (by omega) (by omega) (by omega)
  exact ⟨⟨e 46 u (by omega), e 48 u (by omega), e 56 u (by omega), e 62 u (by omega), e 65 u (by omega), e 66 u (by omega)⟩, fun j _ _ => e 47 j (by omega), fun j _ _ => ⟨e 58 j (by omega), e 60 j (by omega)⟩, fun j _ _ => e 57 j (by omega), fun j _ _ => e 59 j (by omega), fun j _ _ => e 61 j (by omega), fun j _ _ => e 64 j (by omega)⟩
theorem YG.trans {m'' : YS} {u : Int} (h : YG m m' u) (h' : YG m' m'' u) : YG m m'' u := by
  obtain ⟨⟨a1, a2, a3, a4, a5, a6⟩, a7, a8, a9, a10, a11, a12⟩ := h
  obtain ⟨⟨b1, b2, b3, b4, b5, b6⟩, b7, b8, b9, b10, b11, b12⟩ := h'
  exact ⟨⟨b1.trans a1, b2.trans a2, b3.trans a3, b4.trans a4, b5.trans a5, b6.trans a6⟩, fun j x y => (b7 j x y).trans (a7 j x y), fun j x y => ⟨(b8 j x y).1.trans (a8 j x y).1, (b8 j x y).2.trans (a8 j x y).2⟩, fun j x y => (b9 j x y).trans (a9 j x y), fun j x y => (b10 j x y).trans (a10 j x y), fun j x y => (b11 j x y).trans (a11 j x y), fun j x y => (b12 j x y).trans (a12 j x y)⟩
theorem NG.trans {n'' : NS} {u : Int} (h : NG n n' u) (h' : NG n' n'' u) : NG n n'' u := ⟨fun s hs => (h'.1 s hs).trans (h.1 s hs), h'.2.1.trans h.2.1, fun b x y => (h'.2.2 b x y).trans (h.2.2 b x y)⟩
theorem newC_BI (hB : BI A B n) (hf : 0 ≤ f ∧ f < 120) : BI A B (newC n f k t c) ∧ bt (newC n f k t c) (5 * f) = [] := by
  have hcl : N_Bytes_clear (5 * f) n = some (nw n 4 (5 * f) 2 0) := rfl
  obtain ⟨n1, h1, h2, h3, h4⟩ := cs_clear (b := 5 * f) (by omega) hB
  rw [hcl] at h1
  cases h1
  have e4 : newC n f k t c 4 = nw n 4 (5 * f) 2 0 4 := by
    funext b s
    rw [newC_4, nw_app]
    by_cases z : b = 5 * f ∧ s = 2
    · rw [if_pos z, if_pos ⟨rfl, z⟩]
    · rw [if_neg z, if_neg (fun y => z y.2)]
  refine ⟨h2.cg e4 (by rw [newC_K (by decide), nw_nK (by decide)]; exact ⟨rfl, rfl⟩) (by rw [newC_K (by decide), nw_nK (by decide)]) (by rw [newC_K (by decide), nw_nK (by decide)]) (by rw [newC_K (by decide), nw_nK (by decide)]) (by rw [newC_K (by decide), nw_nK (by decide)]), ?_⟩
  unfold bt
  rw [show newC n f k t c 4 (5 * f) 2 = 0 by rw [newC_4, if_pos ⟨rfl, rfl⟩]]; rfl
/-- both programs make a node; what it holds is filled in then -/
theorem JT.grown (h : JT n m N o e p) (hP : JP m N o p) (h0 : 0 ≤ k) (h1 : k < N) (hN : N < 120) (hd : m 54 (o k) < 20) (ht : t ≠ -1) (h17 : opN (m 46 (o k))) (hc : 0 ≤ n 10 0 6 ∧ n 10 0 6 < 2000000000 ∧ m 69 0 < 2000000000) :
    N_Tree_grow (o k) t c n = some (frY m, newC n (frY m) (o k) t c) ∧ N_Y_fresh (o k) m = some (frY m, newY m (frY m) (o k) (m 54 (o k) + 1))
    ∧ (0 ≤ frY m ∧ frY m < 120 ∧ ∀ j, 0 ≤ j → j < N → o j ≠ frY m)
    ∧ ∀ n2 m2, OnN (frY m) (newC n (frY m) (o k) t c) n2 → OnY (frY m) (newY m (frY m) (o k) (m 54 (o k) + 1)) m2 → ND n2 m2 (frY m) →
      JT n2 m2 (N + 1) (insO o (e k) (frY m)) (insE e k (e k)) (insP p k (e k)) ∧ JP m2 (N + 1) (insO o (e k) (frY m)) (insP p k (e k)) := by
  obtain ⟨hS, hK, hL, hD⟩ := h
  have hG := hS.1
  have hE := hG.eB h0 h1
  obtain ⟨f1, f2, f3, f4, f5, f6⟩ := hS.fr hN
  obtain ⟨g1, g2, g3, g4⟩ := J_grow (t := t) (c := c) hS hK hL h0 h1 hN hd ht hc
  have gf := J_fresh hS h0 h1 hc.2.2
  rw [if_pos ⟨hN, hd⟩] at gf
  have hfk : frY m ≠ o k := fun z => f6 k h0 h1 z.symm
  refine ⟨g1, gf, ⟨f2, f3, f6⟩, fun n2 m2 hn hm hnd => ⟨⟨?_, ?_, ?_, fun j j0 j1 => ?_⟩, fun j j0 j1 => ?_⟩⟩
  · exact g2.cg2 (fun u s hs => hn.2.1 u s (by omega) (by omega) (by omega)) ⟨by rw [hn.2.2.1], by rw [hn.2.2.1]⟩ hm.2
  · intro j j0 j1
    rw [hn.2.1 _ 6 (by decide) (by decide) (by decide)]; exact g3 j j0 j1
  · refine ⟨by rw [hn.2.2.1]; exact g4.1, fun z => ?_⟩
    rw [hn.2.2.1] at z
    have hl := g4.2 z
    refine ⟨by rw [hn.2.2.1]; exact hl.1, fun j j0 j1 => ?_⟩
    have := hl.2 j j0 j1
    rw [hn.2.2.2, hn.2.1 _ 8 (by decide) (by decide) (by decide), hn.2.1 _ 9 (by decide) (by decide) (by decide)]
    exact this
  · have old : ∀ j', 0 ≤ j' → j' < N → ND n2 m2 (o j') := fun j' a b => (hD j' a b).cg ((newY_YG hfk (f6 j' a b)).trans (hm.1 _ (f6 j' a b))) ((newC_NG hfk ⟨f2, f3⟩ (f6 j' a b)).trans (hn.1 _ (hG.oB a b).1 (hG.oB a b).2 (f6 j' a b)))
    unfold insO
    by_cases z : j < e k
    · rw [if_pos z]; exact old j j0 (by omega)
    · rw [if_neg z]
      by_cases y : j = e k
      · rw [if_pos y]; exact hnd
      · rw [if_neg y]; exact old (j - 1) (by omega) (by omega)
  · have tag : ∀ j', 0 ≤ j' → j' < N → m2 46 (o j') = m 46 (o j') := fun j' a b => ((newY_YG (d := m 54 (o k) + 1) hfk (f6 j' a b)).trans (hm.1 _ (f6 j' a b))).1.1
    unfold insP insO
    by_cases z : j < e k
    · have q := hG.pB (k := j) j0 (by omega)
      rw [if_pos z, if_pos (by omega), tag _ (by omega) (by omega)]
      exact hP j j0 (by omega)
    · rw [if_neg z]
      by_cases y : j = e k
      · rw [if_pos y, if_pos (by omega), tag k h0 h1]; exact h17
      · have q := hG.pB (k := j - 1) (by omega) (by omega)
        rw [if_neg y]
        by_cases w : p (j - 1) < e k
        · rw [if_pos w, if_pos w, tag _ (by omega) (by omega)]; exact hP _ (by omega) (by omega)
        · rw [if_neg w, if_neg (by omega)]
          by_cases u : p (j - 1) + 1 = e k
          · omega
          · rw [if_neg u, show p (j - 1) + 1 - 1 = p (j - 1) by omega, tag _ (by omega) (by omega)]; exact hP _ (by omega) (by omega)
/-- a TEXT without bytes -/
theorem JT.newText (h : JT n m N o e p) (hP : JP m N o p) (hB : BI A B n) (h0 : 0 ≤ k) (h1 : k < N) (hN : N < 120) (hd : m 54 (o k) < 20) (h17 : m 46 (o k) ≠ 17) (hc : 0 ≤ n 10 0 6 ∧ n 10 0 6 < 2000000000 ∧ m 69 0 < 2000000000) :
    ND (newC n (frY m) (o k) 17 0) (yw (newY m (frY m) (o k) (m 54 (o k) + 1)) 46 (frY m) 17) (frY m) ∧ OnY (frY m) (newY m (frY m) (o k) (m 54 (o k) + 1)) (yw (newY m (frY m) (o k) (m 54 (o k) + 1)) 46 (frY m) 17) := by
  obtain ⟨f1, f2, f3, f4, f5, f6⟩ := h.1.fr hN
  have hfk : frY m ≠ o k := fun z => f6 k h0 h1 z.symm
  have hyv := newY_v (m := m) (v := frY m) (q := o k) (d := m 54 (o k) + 1) hfk
  have hcv := newC_v (n := n) (v := frY m) (q := o k) (t := 17) (c := 0) hfk
  have hb := (newC_BI (k := o k) (t := 17) (c := 0) hB ⟨f2, f3⟩).2
  obtain ⟨_, _, _, _, _, _, _, _, y56, y62, _, y48, _, _⟩ := hyv
  generalize newC n (frY m) (o k) 17 0 = n1 at *
  generalize newY m (frY m) (o k) (m 54 (o k) + 1) = m1 at *
  have e46 : yw m1 46 (frY m) 17 46 (frY m) = 17 := yw_eq
  have eo : ∀ g, g ≠ 46 → yw m1 46 (frY m) 17 g = m1 g := fun g hg => yw_nF hg
  refine ⟨⟨?_, ?_, ?_, ?_, ?_, ?_, ?_⟩, fun u hu => ⟨⟨yw_ni hu, ?_, ?_, ?_, ?_, ?_⟩, ?_, ?_, ?_, ?_, ?_, ?_⟩, fun g hg => eo g (by omega)⟩
  · rw [hcv.1, e46]; decide
  · rw [eo 48 (by decide), y48]
    refine ⟨by decide, by decide, ?_, ?_⟩
    · unfold nmL; rw [eo 48 (by decide), y48]; intro c hc; cases hc
    · unfold nmL; rw [eo 48 (by decide), y48, hcv.2.1]; rfl
  · rw [eo 56 (by decide), y56, hcv.2.2.2.2.2.2.2.2.2.1]; decide
  · rw [eo 56 (by decide), y56]; intro a a0 a1; omega
  · intro _
    rw [eo 62 (by decide), eo 48 (by decide), eo 56 (by decide), y62, y48, y56, hb]
    refine ⟨by decide, ?_, ?_, rfl, rfl⟩
    · unfold txL; rw [eo 62 (by decide), y62]; intro c hc; cases hc
    · unfold txL; rw [eo 62 (by decide), y62]; rfl
  · intro z; rw [e46] at z; exact absurd z (by decide)
  · intro z; exact absurd e46 z
  · rw [eo 48 (by decide)]
  · rw [eo 56 (by decide)]
  · rw [eo 62 (by decide)]
  · rw [eo 65 (by decide)]
  · rw [eo 66 (by decide)]
  · intro j _ _; rw [eo 47 (by decide)]
  · intro j _ _; rw [eo 58 (by decide), eo 60 (by decide)]; exact ⟨rfl, rfl⟩
  · intro j _ _; rw [eo 57 (by decide)]
  · intro j _ _; rw [eo 59 (by decide)]
  · intro j _ _; rw [eo 61 (by decide)]
  · intro j _ _; rw [eo 64 (by decide)]
end G0
