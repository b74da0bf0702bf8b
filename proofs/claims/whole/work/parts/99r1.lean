/-! NEW CELLS OF THE CLASS: ADDRESSES, an ANSWER, bodies -/
/-- nothing that was there has changed -/
abbrev FNw (n n' : NS) : Prop := FB (fun _ => False) n n'
section R1
variable {n n' n0 : NS} {A B a T w l z v i to d L : Int} {t : Nat} {s r g : Int → Int} {As Bs : Int → Prop}
theorem nnew_99e {t : Nat} {l z : Int} : nnew n t l z 99 (n 90 0 0) = dz t := by
  unfold nnew
  rw [nw_nK (by decide), nw_nK (by decide), nw_nK (by decide), nw_nK (by decide), nwA_eq]
theorem FNw.nnew (h : FNw n0 n) : FNw n0 (nnew n t l z) := by
  obtain ⟨a1, a2, a3, a4, a5, a6⟩ := h
  refine ⟨fun K c1 c2 c3 c4 c5 c6 => by rw [nnew_K ⟨c2, c3, c4, c5, c6⟩]; exact a1 K c1 c2 c3 c4 c5 c6, fun b hb => by rw [nnew_K (by decide)]; exact a2 b hb, by rw [nnew_90]; omega, fun q hq => ?_, fun q hq hS => ?_, fun b hb => absurd hb (fun z => z)⟩
  · rw [nnew_92, nnew_93, if_neg (by omega), if_neg (by omega)]; exact a4 q hq
  · rw [nnew_99 (by omega)]; exact a5 q hq hS
theorem FNw.nw99 (h : FNw n0 n) (ha : n0 90 0 0 ≤ a) : FNw n0 (nw n 99 a i v) := by
  obtain ⟨a1, a2, a3, a4, a5, a6⟩ := h
  refine ⟨fun K c1 c2 c3 c4 c5 c6 => by rw [nw_nK c6]; exact a1 K c1 c2 c3 c4 c5 c6, fun b hb => by rw [nw_nK (by decide)]; exact a2 b hb, by rw [nw_nK (by decide)]; exact a3, fun q hq => by rw [nw_nK (by decide), nw_nK (by decide)]; exact a4 q hq, fun q hq hS => ?_, fun b hb => absurd hb (fun z => z)⟩
  rw [nw_ni (by omega)]; exact a5 q hq hS
theorem FNw.nwA (h : FNw n0 n) (ha : n0 90 0 0 ≤ a) : FNw n0 (nwA n 99 a s) := by
  obtain ⟨a1, a2, a3, a4, a5, a6⟩ := h
  refine ⟨fun K c1 c2 c3 c4 c5 c6 => by rw [nwA_nK c6]; exact a1 K c1 c2 c3 c4 c5 c6, fun b hb => by rw [nwA_nK (by decide)]; exact a2 b hb, by rw [nwA_nK (by decide)]; exact a3, fun q hq => by rw [nwA_nK (by decide), nwA_nK (by decide)]; exact a4 q hq, fun q hq hS => ?_, fun b hb => absurd hb (fun z => z)⟩
  rw [nwA_ni (by omega)]; exact a5 q hq hS
theorem FNw.aw (h : FNw n0 n) (ha : n0 90 0 0 ≤ a) (hT : n0 90 0 0 ≤ T) : FNw n0 (aw n a T s r) := (h.nwA ha).nwA hT
theorem BI.f0 (h : BI A B n) (hF : FNw n n') (h90 : n' 90 0 0 ≤ n 90 0 0 + 7) (h91 : n' 91 0 0 ≤ n 91 0 0 + 2100) (hA : A + 112 ≤ 8000000) : BI (A + 112) (B + 2100) n' := by
  obtain ⟨a1, a2, a3, a4, a5, a6⟩ := hF
  obtain ⟨b1, b2, b3, b4, b5, b6⟩ := h
  have e4 : n' 4 = n 4 := funext (fun b => a2 b (fun z => z))
  have e5 : n' 5 = n 5 := a1 5 (by decide) (by decide) (by decide) (by decide) (by decide) (by decide)
  have c1 := (a4 _ b4.2.1).2
  have c2 := (a4 _ b4.2.2.2).2
  have hcap : capT n' = capT n := by
    unfold capT capS
    rw [e5, c1, c2]
    have : sumF (cap n') 632 = sumF (cap n) 632 := sumF_cg 632 (fun j j0 j1 => by
      unfold cap
      rw [e4]; exact (a4 _ (b1 j j0 (by omega)).2.1.2).2)
    rw [this]
  refine ⟨fun b x y => ?_, by rw [e4]; exact b2, ⟨by omega, by rw [hcap]; omega, by rw [hcap]; omega⟩, by rw [e5]; exact ⟨b4.1, by omega, b4.2.2.1, by omega⟩, by rw [e5, c1, c2]; exact b5, hA⟩
  have hb := b1 b x y
  unfold B1 at hb ⊢
  have := a4 _ hb.2.1.2
  rw [e4, this.1, this.2]
  exact ⟨hb.1, ⟨hb.2.1.1, by omega⟩, hb.2.2⟩
theorem FNw.txx (h : FNw n n') (ht : tx n d g L) (hd : d < n 90 0 0) : tx n' d g L := by
  have h4 := h.2.2.2.1 d hd
  have h5 := h.2.2.2.2.1 d hd (fun _ z => absurd z (fun y => y))
  unfold tx
  rw [h4.1, h4.2, h5]; exact ht
theorem al_ok {α : Type} {Q : α → Prop} {x : Option α} (h : 1953 ≤ n 90 0 0 ∧ n 90 0 0 < 900000) (k : ev x Q) : ev (al1 n x) Q := ev_g ⟨h.1, by omega⟩ k
theorem al2_ok' {α : Type} {Q : α → Prop} {x : Option α} (h : 1953 ≤ n 90 0 0 ∧ n 90 0 0 < 900000) (hl : 0 ≤ l ∧ l ≤ 67108864) (k : ev x Q) : ev (al2 n l x) Q := ev_g ⟨⟨h.1, by omega⟩, hl⟩ k
/-- a new ADDRESS -/
theorem c_newAdr (h : 1953 ≤ n 90 0 0 ∧ n 90 0 0 < 800000) : ev (N_Address_init (n 90 0 0) (nnew n 101 0 8)) (fun n' => FNw n n' ∧ n' 90 0 0 = n 90 0 0 + 2 ∧ n' 91 0 0 = n 91 0 0 + 168 ∧ AC n' (n 90 0 0) (n 90 0 0 + 1) ∧ n' 99 (n 90 0 0) 0 = n 90 0 0 + 1) := by
  unfold N_Address_init
  have h1 : nnew n 101 0 8 90 0 0 = n 90 0 0 + 1 := nnew_90
  have h2 : nnew n 101 0 8 91 0 0 = n 91 0 0 + 8 := nnew_91
  have h3 : nnew n 101 0 8 92 0 (n 90 0 0) = 101 := by rw [nnew_92, if_pos rfl]; rfl
  have f1 : FNw n (nnew n 101 0 8) := FNw.nnew (FB.refl _ n)
  generalize nnew n 101 0 8 = n1 at *
  refine al2_ok' (by omega) (by omega) (ev_st (ev_ty (by rw [nnew_92, if_neg (by omega)]; exact h3) (ev_st (ev_ok ?_))))
  have g1 : nnew n1 1 160 160 90 0 0 = n1 90 0 0 + 1 := nnew_90
  have g2 : nnew n1 1 160 160 91 0 0 = n1 91 0 0 + 160 := nnew_91
  have g3 : nnew n1 1 160 160 92 0 (n1 90 0 0) = 1 := by rw [nnew_92, if_pos rfl]; rfl
  have g4 : nnew n1 1 160 160 93 0 (n1 90 0 0) = 160 := by rw [nnew_93, if_pos rfl]
  have g5 : nnew n1 1 160 160 92 0 (n 90 0 0) = 101 := by rw [nnew_92, if_neg (by omega)]; exact h3
  have f2 : FNw n (nnew n1 1 160 160) := f1.nnew
  generalize nnew n1 1 160 160 = n2 at *
  refine ⟨f2.nw99 (Int.le_refl _), by rw [nw_nK (by decide)]; omega, by rw [nw_nK (by decide)]; omega, ?_, by rw [nw_eq]; exact h1⟩
  unfold AC
  rw [nw_nK (by decide), nw_nK (by decide), nw_nK (by decide)]
  rw [h1] at g3 g4
  exact ⟨by omega, g5, by omega, g3, g4⟩
/-- a new ANSWER -/
theorem c_newAns (h : 1953 ≤ n 90 0 0 ∧ n 90 0 0 < 700000) : ev (N_Answer_init (n 90 0 0) (nnew n 102 0 8)) (fun n' => FNw n n' ∧ n' 90 0 0 = n 90 0 0 + 4 ∧ n' 91 0 0 = n 91 0 0 + 176 ∧ (n' 92 0 (n 90 0 0) = 102 ∧ n' 99 (n 90 0 0) 0 = n 90 0 0 + 1 ∧ n' 99 (n 90 0 0) 1 = -1 ∧ n' 99 (n 90 0 0) 2 = 0 ∧ n' 99 (n 90 0 0) 4 = -1 ∧ n' 99 (n 90 0 0) 5 = 0) ∧ AC n' (n 90 0 0 + 1) (n 90 0 0 + 2) ∧ n' 99 (n 90 0 0 + 1) 0 = n 90 0 0 + 2) := by
  unfold N_Answer_init
  have h1 : nnew n 102 0 8 90 0 0 = n 90 0 0 + 1 := nnew_90
  have h2 : nnew n 102 0 8 91 0 0 = n 91 0 0 + 8 := nnew_91
  have h3 : nnew n 102 0 8 92 0 (n 90 0 0) = 102 := by rw [nnew_92, if_pos rfl]; rfl
  have h4 : nnew n 102 0 8 99 (n 90 0 0) = dz 102 := nnew_99e
  have f1 : FNw n (nnew n 102 0 8) := FNw.nnew (FB.refl _ n)
  generalize nnew n 102 0 8 = n1 at *
  refine al_ok (by omega) (ev_st (ev_bind (c_newAdr (n := n1) (by omega)) (fun n2 hn2 => ?_)))
  obtain ⟨f2, g1, g2, g3, g4⟩ := hn2
  have c92 : n2 92 0 (n 90 0 0) = 102 := by rw [(f2.2.2.2.1 _ (by omega)).1]; exact h3
  have c99 : n2 99 (n 90 0 0) = dz 102 := by rw [f2.2.2.2.2.1 _ (by omega) (fun _ z => absurd z (fun y => y))]; exact h4
  rw [h1] at g3 g4 ⊢
  have f3 : FNw n n2 := f1.trans f2
  refine ev_ty c92 (ev_st (ev_ty (by rw [nw_nK (by decide)]; exact c92) (ev_st (al2_ok' (by rw [nw_nK (by decide), nw_nK (by decide)]; omega) (by omega) (ev_st ?_)))))
  have f4 : FNw n (nw (nw n2 99 (n 90 0 0) 0 (n 90 0 0 + 1)) 99 (n 90 0 0) 1 (-1)) := (f3.nw99 (Int.le_refl _)).nw99 (Int.le_refl _)
  have k90 : (nw (nw n2 99 (n 90 0 0) 0 (n 90 0 0 + 1)) 99 (n 90 0 0) 1 (-1)) 90 0 0 = n 90 0 0 + 3 := by rw [nw_nK (by decide), nw_nK (by decide)]; omega
  have k91 : (nw (nw n2 99 (n 90 0 0) 0 (n 90 0 0 + 1)) 99 (n 90 0 0) 1 (-1)) 91 0 0 = n 91 0 0 + 176 := by rw [nw_nK (by decide), nw_nK (by decide)]; omega
  have k92 : (nw (nw n2 99 (n 90 0 0) 0 (n 90 0 0 + 1)) 99 (n 90 0 0) 1 (-1)) 92 = n2 92 := by rw [nw_nK (by decide), nw_nK (by decide)]
  have k93 : (nw (nw n2 99 (n 90 0 0) 0 (n 90 0 0 + 1)) 99 (n 90 0 0) 1 (-1)) 93 = n2 93 := by rw [nw_nK (by decide), nw_nK (by decide)]
  have ka : ∀ q, (nw (nw n2 99 (n 90 0 0) 0 (n 90 0 0 + 1)) 99 (n 90 0 0) 1 (-1)) 99 (n 90 0 0) q = if q = 1 then -1 else if q = 0 then n 90 0 0 + 1 else dz 102 q := fun q => by
    rw [nw_app, nw_app, c99]
    by_cases y1 : q = 1
    · rw [if_pos ⟨rfl, rfl, y1⟩, if_pos y1]
    · rw [if_neg (fun z => y1 z.2.2), if_neg y1]
      by_cases y0 : q = 0
      · rw [if_pos ⟨rfl, rfl, y0⟩, if_pos y0]
      · rw [if_neg (fun z => y0 z.2.2), if_neg y0]
  have kb : (nw (nw n2 99 (n 90 0 0) 0 (n 90 0 0 + 1)) 99 (n 90 0 0) 1 (-1)) 99 (n 90 0 0 + 1) 0 = n 90 0 0 + 2 := by
    rw [nw_ni (by omega), nw_ni (by omega), g4]; omega
  generalize nw (nw n2 99 (n 90 0 0) 0 (n 90 0 0 + 1)) 99 (n 90 0 0) 1 (-1) = n3 at *
  have l90 : nnew n3 1 0 0 90 0 0 = n 90 0 0 + 4 := by rw [nnew_90, k90]; omega
  have l91 : nnew n3 1 0 0 91 0 0 = n 91 0 0 + 176 := by rw [nnew_91, k91]; omega
  have l92 : ∀ q, q < n 90 0 0 + 3 → nnew n3 1 0 0 92 0 q = n2 92 0 q := fun q hq => by rw [nnew_92, if_neg (by omega), k92]
  have l93 : ∀ q, q < n 90 0 0 + 3 → nnew n3 1 0 0 93 0 q = n2 93 0 q := fun q hq => by rw [nnew_93, if_neg (by omega), k93]
  have l99 : ∀ q, q < n 90 0 0 + 3 → nnew n3 1 0 0 99 q = n3 99 q := fun q hq => by rw [nnew_99 (by omega)]
  have f5 : FNw n (nnew n3 1 0 0) := f4.nnew
  generalize nnew n3 1 0 0 = n4 at *
  refine ev_ty (by rw [l92 _ (by omega)]; exact c92) (ev_st (ev_ok ⟨f5.nw99 (Int.le_refl _), by rw [nw_nK (by decide)]; exact l90, by rw [nw_nK (by decide)]; exact l91, ⟨by rw [nw_nK (by decide), l92 _ (by omega)]; exact c92, ?_⟩, ?_, ?_⟩))
  · rw [nw_ns (by decide), nw_ns (by decide), nw_ns (by decide), nw_ns (by decide), nw_ns (by decide), l99 _ (by omega), ka, ka, ka, ka, ka]
    exact ⟨rfl, rfl, rfl, rfl, rfl⟩
  · unfold AC at g3 ⊢
    rw [nw_nK (by decide), nw_nK (by decide), nw_nK (by decide), l90, l92 _ (by omega), l92 _ (by omega), l93 _ (by omega)]
    rw [show n 90 0 0 + 1 + 1 = n 90 0 0 + 2 by omega] at g3
    exact ⟨by omega, g3.2.1, by omega, g3.2.2.2.1, g3.2.2.2.2⟩
  · rw [nw_ni (by omega), l99 _ (by omega)]; exact kb
end R1
