/-! SELECTORS, in both -/
def SL (n : NS) (m : YS) (s : Int) : Prop := n 32 0 s = m 90 s ∧ (1 ≤ m 90 s ∧ m 90 s ≤ 3) ∧ n 33 0 s = m 97 s ∧ (0 ≤ m 97 s ∧ m 97 s ≤ 2000) ∧ ∀ j, 0 ≤ j → j < m 90 s → PRT n m (3 * s + j)
def FSn (s : Int) (n n' : NS) : Prop := (∀ K, K ∉ [32, 33, 35, 36, 37, 38] → n' K = n K) ∧ (∀ k, k ≠ s → n' 32 0 k = n 32 0 k ∧ n' 33 0 k = n 33 0 k) ∧ (∀ k, ¬ (3 * s ≤ k ∧ k < 3 * s + 3) → n' 35 0 k = n 35 0 k ∧ n' 36 0 k = n 36 0 k) ∧ (∀ c, ¬ (12 * s ≤ c ∧ c < 12 * s + 12) → n' 37 0 c = n 37 0 c ∧ n' 38 0 c = n 38 0 c)
def FSy (s : Int) (m m' : YS) : Prop := FY [90, 91, 92, 93, 94, 95, 96, 97, 100] m m' ∧ (∀ k, k ≠ s → m' 90 k = m 90 k ∧ m' 97 k = m 97 k) ∧ (∀ k, ¬ (3 * s ≤ k ∧ k < 3 * s + 3) → m' 91 k = m 91 k ∧ m' 93 k = m 93 k) ∧ (∀ c, ¬ (12 * s ≤ c ∧ c < 12 * s + 12) → m' 94 c = m 94 c ∧ m' 95 c = m 95 c) ∧ (∀ j, ¬ (96 * s ≤ j ∧ j < 96 * s + 96) → m' 96 j = m 96 j) ∧ (∀ j, ¬ (24 * s ≤ j ∧ j < 24 * s + 24) → m' 92 j = m 92 j)
/-- how the text of a SELECTOR stands in what the reference reads -/
def okA (g : Int → Int) (a tc ty al : Int) : Prop := (al = 1 ∧ tc = ty) ∨ (al = 0 ∧ (a < tc → ¬ isBl (g (tc - 1))) ∧ (∀ j, a ≤ j → j < tc → g j ≠ 44) ∧ (sc (fun j => isBl (g j)) tc ty = ty ∨ g (sc (fun j => isBl (g j)) tc ty) = 44))
section S4
variable {n n' n'' : NS} {m m' m'' : YS} {g : Int → Int} {a at' tc ty to d L s p q al c B x : Int} {f : Nat}
theorem FSn.refl : FSn s n n := ⟨fun _ _ => rfl, fun _ _ => ⟨rfl, rfl⟩, fun _ _ => ⟨rfl, rfl⟩, fun _ _ => ⟨rfl, rfl⟩⟩
theorem FSy.refl : FSy s m m := ⟨fun _ _ => rfl, fun _ _ => ⟨rfl, rfl⟩, fun _ _ => ⟨rfl, rfl⟩, fun _ _ => ⟨rfl, rfl⟩, fun _ _ => rfl, fun _ _ => rfl⟩
theorem FSn.trans (h : FSn s n n') (h' : FSn s n' n'') : FSn s n n'' := ⟨fun K x => (h'.1 K x).trans (h.1 K x), fun k x => ⟨(h'.2.1 k x).1.trans (h.2.1 k x).1, (h'.2.1 k x).2.trans (h.2.1 k x).2⟩, fun k x => ⟨(h'.2.2.1 k x).1.trans (h.2.2.1 k x).1, (h'.2.2.1 k x).2.trans (h.2.2.1 k x).2⟩, fun c x => ⟨(h'.2.2.2 c x).1.trans (h.2.2.2 c x).1, (h'.2.2.2 c x).2.trans (h.2.2.2 c x).2⟩⟩
theorem FSy.trans (h : FSy s m m') (h' : FSy s m' m'') : FSy s m m'' := ⟨fun K x => (h'.1 K x).trans (h.1 K x), fun k x => ⟨(h'.2.1 k x).1.trans (h.2.1 k x).1, (h'.2.1 k x).2.trans (h.2.1 k x).2⟩, fun k x => ⟨(h'.2.2.1 k x).1.trans (h.2.2.1 k x).1, (h'.2.2.1 k x).2.trans (h.2.2.1 k x).2⟩, fun c x => ⟨(h'.2.2.2.1 c x).1.trans (h.2.2.2.1 c x).1, (h'.2.2.2.1 c x).2.trans (h.2.2.2.1 c x).2⟩, fun j x => (h'.2.2.2.2.1 j x).trans (h.2.2.2.2.1 j x), fun j x => (h'.2.2.2.2.2 j x).trans (h.2.2.2.2.2 j x)⟩
theorem FPn.fs (h : FPn s p n n') (hp : 3 * s ≤ p ∧ p < 3 * s + 3) : FSn s n n' := ⟨h.1, h.2.1, fun k hk => h.2.2.1 k (by omega), fun c hc => h.2.2.2 c (by omega)⟩
theorem FPy.fs (h : FPy s p m m') (hp : 3 * s ≤ p ∧ p < 3 * s + 3) : FSy s m m' := ⟨h.1.mono (fun x hx => by simp only [List.mem_cons, List.not_mem_nil, or_false] at hx ⊢; omega), fun k hk => ⟨by rw [h.1 90 (by decide)], h.2.1 k hk⟩, fun k hk => h.2.2.1 k (by omega), fun c hc => h.2.2.2.1 c (by omega), fun j hj => h.2.2.2.2.1 j (by omega), fun j hj => h.2.2.2.2.2 j (by omega)⟩
theorem FSn.txx (h : FSn s n n') (ht : tx n d g L) : tx n' d g L := by
  unfold tx at *
  rw [h.1 92 (by decide), h.1 93 (by decide), h.1 99 (by decide)]; exact ht
theorem PRT.cg (h : PRT n m q) (hq : n' 35 0 q = n 35 0 q ∧ n' 36 0 q = n 36 0 q) (hc : ∀ c, 4 * q ≤ c → c < 4 * q + 4 → (n' 37 0 c = n 37 0 c ∧ n' 38 0 c = n 38 0 c) ∧ m' 94 c = m 94 c ∧ m' 95 c = m 95 c) (hm : m' 91 q = m 91 q ∧ m' 93 q = m 93 q) (h92 : ∀ j, 8 * q ≤ j → j < 8 * q + 8 → m' 92 j = m 92 j) (h96 : ∀ j, 32 * q ≤ j → j < 32 * q + 32 → m' 96 j = m 96 j) : PRT n' m' q := by
  obtain ⟨⟨w, w1, w2, w3, w4, w5⟩, u1, u2, u3⟩ := h
  refine ⟨⟨w, w1, w2, by rw [hm.1]; exact w3, ?_, by rw [hq.1]; exact w5⟩, by rw [hq.2, hm.2]; exact u1, by rw [hm.2]; exact u2, fun j x y => ?_⟩
  · exact Eq.trans (sg_cg _ _ (8 * q) (fun x hx => h92 _ (by omega) (by omega))) w4
  · rw [hm.2] at y
    have := hc (4 * q + j) (by omega) (by omega)
    exact (u3 j x y).cg this.1 this.2 (fun i xa xb => h96 i (by omega) (by omega))
theorem PRT.fp (h : PRT n m q) (hn : FPn s p n n') (hm : FPy s p m m') (hne : q ≠ p) : PRT n' m' q := h.cg (hn.2.2.1 q hne) (fun c x y => ⟨hn.2.2.2 c (by omega), hm.2.2.2.1 c (by omega)⟩) (hm.2.2.1 q hne) (fun j x y => hm.2.2.2.2.2 j (by omega)) (fun j x y => hm.2.2.2.2.1 j (by omega))
/-- a SELECTOR is as it was where another one has been read -/
theorem SL.fs {s' : Int} (h : SL n m s') (hn : FSn s n n') (hm : FSy s m m') (hne : s' ≠ s) : SL n' m' s' := by
  obtain ⟨a1, a2, a3, a4, a5⟩ := h
  unfold SL
  rw [(hn.2.1 s' hne).1, (hn.2.1 s' hne).2, (hm.2.1 s' hne).1, (hm.2.1 s' hne).2]
  refine ⟨a1, a2, a3, a4, fun j x y => ?_⟩
  exact (a5 j x y).cg (hn.2.2.1 _ (by omega)) (fun c u v => ⟨hn.2.2.2 c (by omega), hm.2.2.2.1 c (by omega)⟩) (hm.2.2.1 _ (by omega)) (fun i u v => hm.2.2.2.2.2 i (by omega)) (fun i u v => hm.2.2.2.2.1 i (by omega))
theorem cs_skip (ht : tx n d g L) (h0 : 0 ≤ a ∧ to ≤ L ∧ L ≤ 2000) : N_Sheet_skipBlanks d a to n = some (sc (fun j => isBl (g j)) a to) := by
  unfold N_Sheet_skipBlanks NL_Sheet_skipBlanks_2
  have : it (fun t => nb_Sheet_skipBlanks_2 d to t n) a = some (sc (fun j => isBl (g j)) a to) := ev_scan (p := fun j => isBl (g j)) (fun t h1 h2 => by
    unfold nb_Sheet_skipBlanks_2
    refine ev_if (fun hlt => ev_tx ht ⟨by omega, by omega⟩ (fun e => ?_)) (fun hge => ev_ok (.inr ⟨rfl, fun z => hge z.1⟩))
    rw [e]
    refine ev_bz cs_blank (fun hp => ?_) (fun hp => ?_)
    · rw [if_neg (by decide)]; exact ev_ck (by omega) (ev_ok (.inl ⟨rfl, hlt, hp⟩))
    · rw [if_pos rfl]; exact ev_ok (.inr ⟨rfl, fun z => hp z.2⟩))
  rw [this]; rfl
theorem ys_skip (hty : ty ≤ yLn f ∧ ty ≤ 2000) (h0 : 0 ≤ a ∧ a ≤ 2000) : NL_Y_readSelector_65 f ty s al a m = some (sc (fun j => isBl (m f j)) a ty) := by
  unfold NL_Y_readSelector_65
  exact ev_scan (p := fun j => isBl (m f j)) (fun t h1 h2 => by
    unfold nb_Y_readSelector_65
    refine ev_if (fun hlt => ev_ix (by omega) (ev_bz ys_blank (fun hp => ?_) (fun hp => ?_))) (fun hge => ev_ok (.inr ⟨rfl, fun z => hge z.1⟩))
    · rw [if_neg (by decide)]; exact ev_ck (by omega) (ev_ok (.inl ⟨rfl, hlt, hp⟩))
    · rw [if_pos rfl]; exact ev_ok (.inr ⟨rfl, fun z => hp z.2⟩))
/-- blanks before another PART -/
theorem okA_skip (h : okA g a tc ty al) (hle : tc ≤ ty) (hk : a ≤ q ∧ q < tc) (hb : isBl (g q)) : sc (fun j => isBl (g j)) q ty = sc (fun j => isBl (g j)) q tc ∧ q < sc (fun j => isBl (g j)) q tc ∧ (al = 1 ∨ (al = 0 ∧ sc (fun j => isBl (g j)) q tc < ty ∧ g (sc (fun j => isBl (g j)) q tc) ≠ 44)) := by
  obtain ⟨s1, s2, s3, s4⟩ := scx_scn (p := fun j => isBl (g j)) q tc
  have hgt : q < sc (fun j => isBl (g j)) q tc := by
    by_cases u : q < sc (fun j => isBl (g j)) q tc
    · exact u
    · have e : sc (fun j => isBl (g j)) q tc = q := by omega
      have := s4 (by omega)
      rw [e] at this
      exact absurd hb this
  rcases h with ⟨h1, h2⟩ | ⟨h1, h2, h3, h4⟩
  · subst h2
    exact ⟨rfl, hgt, .inl h1⟩
  · have hlt : sc (fun j => isBl (g j)) q tc < tc := by
      by_cases u : sc (fun j => isBl (g j)) q tc < tc
      · exact u
      · exact absurd (s3 (tc - 1) (by omega) (by omega)) (h2 (by omega))
    refine ⟨(scx_eq (p := fun j => isBl (g j)) ⟨s1, by omega, s3, fun _ => s4 hlt⟩).symm, hgt, .inr ⟨h1, by omega, h3 _ (by omega) hlt⟩⟩
theorem okA_end (h : okA g a tc ty al) (hle : tc ≤ ty) : ¬ (tc < sc (fun j => isBl (g j)) tc ty ∧ (al ≠ 0 ∨ (sc (fun j => isBl (g j)) tc ty < ty ∧ g (sc (fun j => isBl (g j)) tc ty) ≠ 44))) := fun y => by
  have h2 := scx_le (p := fun j => isBl (g j)) hle
  rcases h with ⟨h1, h3⟩ | ⟨h1, _, _, h4⟩
  · rw [h3] at h2 y; omega
  · rcases y.2 with u | u
    · exact u h1
    · rcases h4 with v | v
      · omega
      · exact u.2 v
/-- more PARTS, or none -/
theorem y_more (hs : 0 ≤ s ∧ s < 41) (hal : al = 0 ∨ al = 1) (hty : ty ≤ yLn f ∧ ty ≤ 2000) (hx : 0 ≤ x) (hg : m f = g) : ((m 100 0 < x ∧ m 90 s < 3 ∧ (al ≠ 0 ∨ (x < ty ∧ g x ≠ 44))) → nk_Y_readSelector_87 f ty s al x m = some (.inl (1, yw m 100 0 x))) ∧ (¬ (m 100 0 < x ∧ m 90 s < 3 ∧ (al ≠ 0 ∨ (x < ty ∧ g x ≠ 44))) → nk_Y_readSelector_87 f ty s al x m = some (.inl (0, m))) := by
  have e0 : nk_Y_readSelector_130 f ty s al x m = some (.inl (0, m)) := by
    unfold nk_Y_readSelector_130 nk_Y_readSelector_131; rw [if_pos rfl]
  have e1 : nk_Y_readSelector_126 f ty s al x m = some (.inl (1, yw m 100 0 x)) := by
    unfold nk_Y_readSelector_126 nk_Y_readSelector_131 st; rw [if_neg (by decide)]
  unfold nk_Y_readSelector_87
  rw [e0, e1]
  by_cases z1 : m 100 0 < x
  · rw [if_pos z1, ix_e _ hs]
    by_cases z2 : m 90 s < 3
    · rw [if_pos z2]
      by_cases z3 : al = 0
      · rw [if_pos z3]
        by_cases z4 : x < ty
        · rw [if_pos z4, ix_e _ ⟨hx, by omega⟩, hg]
          by_cases z5 : g x = 44
          · rw [if_pos z5]
            exact ⟨fun y => by rcases y.2.2 with u | u; exact absurd z3 u; exact absurd z5 u.2, fun _ => rfl⟩
          · rw [if_neg z5]
            exact ⟨fun _ => rfl, fun y => absurd ⟨z1, z2, .inr ⟨z4, z5⟩⟩ y⟩
        · rw [if_neg z4]
          exact ⟨fun y => by rcases y.2.2 with u | u; exact absurd z3 u; exact absurd u.1 z4, fun _ => rfl⟩
      · rw [if_neg z3]
        exact ⟨fun _ => rfl, fun y => absurd ⟨z1, z2, .inl z3⟩ y⟩
    · rw [if_neg z2]
      exact ⟨fun y => absurd y.2.1 z2, fun _ => rfl⟩
  · rw [if_neg z1]
    exact ⟨fun y => absurd y.1 z1, fun _ => rfl⟩
end S4
