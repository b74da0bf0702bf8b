/-! THE CALL select: all of it -/
/-- what select leaves as it was -/
def FZq (n n' : NS) (m m' : YS) : Prop :=
  (∀ K, K ∉ [4, 7, 10, 11, 22, 32, 33, 35, 36, 37, 38, 47, 90, 91, 92, 93, 99] → n' K = n K) ∧ FS (fun x => x = 605) n n' ∧ (∀ s, s ≠ 9 → n' 11 0 s = n 11 0 s) ∧ (∀ s, s ≠ 3 → s ≠ 4 → n' 10 0 s = n 10 0 s) ∧ (∀ f, f ∉ [1, 2, 3, 90, 91, 92, 93, 94, 95, 96, 97, 100, 184, 185] → m' f = m f)
section S9
variable {n n' n1 : NS} {m m' : YS} {A B N G : Int} {o e p : Int → Int} {As Bs : Int → Prop}
theorem JM.cg (h : JM n m) (h1 : n' 11 0 9 = n 11 0 9) (h2 : n' 47 = n 47) (h3 : m' 184 = m 184) (h4 : m' 185 = m 185) : JM n' m' := by
  unfold JM at *
  rw [h1, h2, h3, h4]; exact h
theorem call_select (hC : CI As Bs A B G n m) (hJ : JTape n m) (hO : JOut n m) (hH : SHc n) (hM : JM n m) :
    ∃ r n' m', N_H_select n = some (r, n') ∧ N_Y_select m = some (r, m') ∧ CI As Bs A B G n' m' ∧ JTape n' m' ∧ JOut n' m' ∧ JM n' m' ∧ FZq n n' m m' := by
  have hB := hC.1.bi
  obtain ⟨m5, f5, m1, ht, hs, hsz, hc⟩ := take_both hB hJ
  have f5' : ∀ f, f ∉ [1, 2, 3] → m5 f = m f := f5
  have O5 : JOut n m5 := by unfold JOut ys at *; rw [f5' 4 (by decide), f5' 5 (by decide)]; exact hO
  have C5 : CI As Bs A B G n m5 := hC.rows hB (FB.refl (fun x => x = 605) n) (fun x hx => .inl hx) (fun f hf => f5' f (by simp only [List.mem_cons, List.not_mem_nil, or_false, not_or]; omega))
  have hb605 := hB.1 605 (by omega) (by omega)
  -- the end: the tape is cleared
  have fin : ∀ (r : Int) (n1 : NS) (m6 : YS), CI As Bs A B G n1 m6 → JM n1 m6 → (∀ K, K ∉ [7, 10, 11, 22, 32, 33, 35, 36, 37, 38, 47] → n1 K = n K) → (∀ s, s ≠ 9 → n1 11 0 s = n 11 0 s) → (∀ s, s ≠ 3 → s ≠ 4 → n1 10 0 s = n 10 0 s) → (∀ f, f ∉ [90, 91, 92, 93, 94, 95, 96, 97, 100, 184, 185] → m6 f = m5 f) → ∃ n3, nk_H_select_51 r n1 = some (r, n3) ∧ CI As Bs A B G n3 m6 ∧ JTape n3 m6 ∧ JOut n3 m6 ∧ JM n3 m6 ∧ FZq n n3 m m6 := fun r n1 m6 q1 q2 q3 q4 q5 q6 => by
    obtain ⟨n3, k1, k2, k3, k4⟩ := cs_clear (b := 605) (by omega) q1.1.bi
    have kK : ∀ K, K ≠ 4 → K ≠ 90 → K ≠ 91 → K ≠ 92 → K ≠ 93 → K ≠ 99 → n3 K = n1 K := k3.1
    have O1 : JOut n1 m6 := by
      unfold JOut ys bt at *
      rw [q3 99 (by decide), q3 4 (by decide), q6 4 (by decide), q6 5 (by decide)]; exact O5
    refine ⟨n3, by unfold nk_H_select_51; rw [k1]; rfl, q1.rows k2 k3 (fun x hx => .inl hx) (fun _ _ => rfl), JTape_clear k2 k4 (by rw [q6 1 (by decide)]; exact m1), O1.fb q1.1.bi k3 (fun x hx => by have hx : x = 605 := hx; omega) (by omega) rfl rfl, q2.cg (by rw [kK 11 (by decide) (by decide) (by decide) (by decide) (by decide) (by decide)]) (kK 47 (by decide) (by decide) (by decide) (by decide) (by decide) (by decide)) rfl rfl, fun K hK => ?_, fun b x y z => ?_, fun s x => ?_, fun s x y => ?_, fun f hf => ?_⟩
    · simp only [List.mem_cons, List.not_mem_nil, or_false, not_or] at hK
      rw [kK K (by omega) (by omega) (by omega) (by omega) (by omega) (by omega), q3 K (by simp only [List.mem_cons, List.not_mem_nil, or_false, not_or]; omega)]
    · have c2 := k3.bts q1.1.bi ⟨x, y⟩ z (fun u hu => by have hu : u = 605 := hu; omega)
      rw [q3 4 (by decide), q3 99 (by decide)] at c2
      exact ⟨c2.1, c2.2.1⟩
    · rw [kK 11 (by decide) (by decide) (by decide) (by decide) (by decide) (by decide)]; exact q4 s x
    · rw [kK 10 (by decide) (by decide) (by decide) (by decide) (by decide) (by decide)]; exact q5 s x y
    · simp only [List.mem_cons, List.not_mem_nil, or_false, not_or] at hf
      rw [q6 f (by simp only [List.mem_cons, List.not_mem_nil, or_false, not_or]; omega), f5' f (by simp only [List.mem_cons, List.not_mem_nil, or_false, not_or]; omega)]
  have M5 : JM n m5 := hM.cg rfl rfl (f5' 184 (by decide)) (f5' 185 (by decide))
  rcases hc with ⟨i, i0, i1, c1, c2⟩ | ⟨c1, c2, c3⟩
  · obtain ⟨n3, k⟩ := fin (-1000 - i) n m5 C5 M5 (fun _ _ => rfl) (fun _ _ => rfl) (fun _ _ _ => rfl) (fun _ _ => rfl)
    refine ⟨-1000 - i, n3, m5, ?_, ?_, k.2⟩
    · unfold N_H_select; rw [c1]
      simp only [Option.bind_some]
      rw [if_neg (by omega)]; exact k.1
    · unfold N_Y_select N_Y_wrong ck; rw [c2]
      show (if i < 0 then _ else _) = _
      rw [if_neg (by omega), if_pos (by omega)]; rfl
  · have e100 : FY [100] m5 (yw m5 100 0 0) := fun f hf => yw_nF (by simp only [List.mem_cons, List.not_mem_nil, or_false] at hf; exact hf)
    obtain ⟨n15, m19, w1, w2, w3⟩ := sel_both (d := n 4 605 1) (f := 2) (g := m5 2) (s := 40) (a := 0) (tc := m5 3 0) (ty := m5 3 0) (al := 1) (n := n) (m := yw m5 100 0 0) (by omega) (.inl rfl) ⟨Int.le_refl _, fun y => by omega⟩ (.inl ⟨rfl, rfl⟩) (.inr rfl) ⟨by show _ ≤ (2000 : Int); exact hs.2, hs.2⟩ ⟨Int.le_refl _, hs.1, yw_eq⟩ ht (e100 2 (by decide))
    have hY : N_Y_select m = (N_Y_readSelector 2 (m5 3 0) 40 1 (yw m5 100 0 0)).bind (u2 fun z16 m19 => if z16 < 0 then (if (m19 100 0) < (m19 3 0) then (N_Y_wrong (m19 100 0) m19).bind fun z28 => some (z28, m19) else st (yw m19 185 0 0) fun m33 => (NL_Y_select_70 0 m33).bind fun m36 => some ((m36 185 0), m36)) else (N_Y_wrong z16 m19).bind fun z42 => some (z42, m19)) := by
      unfold N_Y_select; rw [c2]
      simp only [Option.bind_some, u2]
      rw [if_pos (by decide)]
      unfold st
      dsimp only
      rw [e100 3 (by decide)]
    have hX : N_H_select n = (N_Sheet_readSelector (n 4 605 1) 0 (m5 3 0) 40 n).bind (u2 fun z12 n15 => if z12 < 0 then (N_H_listMatches n15).bind (u2 fun z20 n23 => nk_H_select_50 z20 n23) else ck ((-1000) - z12) <| nk_H_select_50 ((-1000) - z12) n15) := by
      unfold N_H_select nn; rw [c1]
      simp only [Option.bind_some]
      rw [if_pos trivial, if_pos hb605.2.1.1, hsz]
    have y19 : ∀ f, f ∉ [90, 91, 92, 93, 94, 95, 96, 97, 100] → m19 f = m5 f := fun f hf => by
      rw [w2.1 f hf, e100 f (fun z => hf (by simp only [List.mem_cons, List.not_mem_nil, or_false] at z; rw [z]; decide))]
    have B15 : BI A B n15 := hB.cg (w1.1 4 (by decide)) (by rw [w1.1 5 (by decide)]; exact ⟨rfl, rfl⟩) (w1.1 90 (by decide)) (w1.1 91 (by decide)) (w1.1 92 (by decide)) (w1.1 93 (by decide))
    have C15 : CI As Bs A B G n15 m19 := C5.ko B15 (fun K hK => w1.1 K (by simp only [List.mem_cons, List.not_mem_nil, or_false, not_or] at hK ⊢; omega)) (fun f hf => y19 f (by simp only [List.mem_cons, List.not_mem_nil, or_false, not_or]; omega))
    have M15 : JM n15 m19 := M5.cg (by rw [w1.1 11 (by decide)]) (w1.1 47 (by decide)) (y19 184 (by decide)) (y19 185 (by decide))
    have e3 : m19 3 0 = m5 3 0 := by rw [y19 3 (by decide)]
    have no : ∀ k, 0 ≤ k → k ≤ m5 3 0 → ∃ n3, nk_H_select_51 (-1000 - k) n15 = some (-1000 - k, n3) ∧ CI As Bs A B G n3 m19 ∧ JTape n3 m19 ∧ JOut n3 m19 ∧ JM n3 m19 ∧ FZq n n3 m m19 := fun k _ _ => fin (-1000 - k) n15 m19 C15 M15 (fun K hK => w1.1 K (fun z => hK (by simp only [List.mem_cons, List.not_mem_nil, or_false] at z ⊢; omega))) (fun s _ => by rw [w1.1 11 (by decide)]) (fun s _ _ => by rw [w1.1 10 (by decide)]) (fun f hf => y19 f (fun z => hf (by simp only [List.mem_cons, List.not_mem_nil, or_false] at z ⊢; omega)))
    rcases w3 with ⟨u1, u2', u3, u4⟩ | ⟨k, u1, u2', u3⟩
    · -- it is a SELECTOR
      obtain ⟨⟨κ, N, o, e, p, hN, hTr, hrest⟩, hz⟩ := C15
      have C15' : CI As Bs A B G n15 m19 := ⟨⟨κ, N, o, e, p, hN, hTr, hrest⟩, hz⟩
      have hH15 : SHc n15 := by unfold SHc at *; rw [w1.1 9 (by decide)]; exact hH
      obtain ⟨r, n9, m9, r1, r2, r3, r4, r5, r6, n1, r7, r8, r9⟩ := find_both B15 hTr.1 hH15 u3
      have B1 : BI A B n1 := r5.cg (r8 4 (by decide) (by decide)).symm (by rw [r8 5 (by decide) (by decide)]; exact ⟨rfl, rfl⟩) (r8 90 (by decide) (by decide)).symm (r8 91 (by decide) (by decide)).symm (r8 92 (by decide) (by decide)).symm (r8 93 (by decide) (by decide)).symm
      have T1 : JT n1 m19 N o e p := (r6.ks (n' := n1) (fun K hK => (r8 K (by omega) (by omega)).symm)).fb B1 (FB.refl (fun _ => False) n1) (fun x hx => hx.elim) (fun f a b => (r4 f (by simp only [List.mem_cons, List.not_mem_nil, or_false, not_or]; omega)).symm)
      have J1 := (C15'.1.fl T1 hTr.2.1 B1 r7).1
      have C1 : CI As Bs A B G n1 m19 := ⟨J1, by rw [r7.1 0 (by decide) (by decide) (by decide), r7.1 6 (by decide) (by decide) (by decide)]; exact C15'.2.1, C15'.2.2⟩
      have C9 : CI As Bs A B G n9 m9 := C1.ko r5 (fun K hK => r8 K (by intro z; rw [z] at hK; exact absurd hK (by decide)) (by intro z; rw [z] at hK; exact absurd hK (by decide))) (fun f hf => r4 f (by simp only [List.mem_cons, List.not_mem_nil, or_false, not_or]; omega))
      obtain ⟨n3, k⟩ := fin r n9 m9 C9 r3 (fun K hK => by
        simp only [List.mem_cons, List.not_mem_nil, or_false, not_or] at hK
        rw [r8 K (by omega) (by omega), r7.1 K (by omega) (by omega) (by omega), w1.1 K (by simp only [List.mem_cons, List.not_mem_nil, or_false, not_or]; omega)]) (fun s x => by rw [r9 s x, r7.1 11 (by decide) (by decide) (by decide), w1.1 11 (by decide)]) (fun s x y => by rw [r8 10 (by decide) (by decide), r7.2.2 s x y, w1.1 10 (by decide)]) (fun f hf => by
        simp only [List.mem_cons, List.not_mem_nil, or_false, not_or] at hf
        rw [r4 f (by simp only [List.mem_cons, List.not_mem_nil, or_false, not_or]; omega), y19 f (by simp only [List.mem_cons, List.not_mem_nil, or_false, not_or]; omega)])
      refine ⟨r, n3, m9, ?_, ?_, k.2⟩
      · rw [hX, u1]
        simp only [Option.bind_some, u2]
        rw [if_pos (by decide), r1]
        simp only [Option.bind_some]
        exact k.1
      · rw [hY, u2']
        simp only [Option.bind_some, u2]
        rw [if_pos (by decide), u4, e3, if_neg (by omega)]
        exact r2
    · obtain ⟨n3, kk⟩ := no k u1.1 u1.2
      refine ⟨-1000 - k, n3, m19, ?_, ?_, kk.2⟩
      · rw [hX, u2']
        simp only [Option.bind_some, u2]
        rw [if_neg (by omega), ck_e _ (by omega)]
        exact kk.1
      · rw [hY]
        rcases u3 with y | ⟨y1, y2, y3⟩
        · rw [y]
          simp only [Option.bind_some, u2]
          unfold N_Y_wrong
          rw [if_neg (by omega), ck_e _ (by omega)]; rfl
        · rw [y1]
          simp only [Option.bind_some, u2]
          unfold N_Y_wrong
          rw [if_pos (by decide), y2, e3, if_pos y3, ck_e _ (by omega)]; rfl
end S9
