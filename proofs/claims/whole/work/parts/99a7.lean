/-! THE TAPE, THE OUT, THE TEXT -/
def FY (fs : List Nat) (m m' : YS) : Prop := ∀ f, f ∉ fs → m' f = m f
theorem FY.refl (fs : List Nat) (m : YS) : FY fs m m := fun _ _ => rfl
theorem FY.trans {fs : List Nat} {m m' m'' : YS} (h : FY fs m m') (h' : FY fs m' m'') : FY fs m m'' := fun f hf => (h' f hf).trans (h f hf)
theorem FY.mono {fs gs : List Nat} {m m' : YS} (h : FY fs m m') (hs : ∀ f ∈ fs, f ∈ gs) : FY gs m m' := fun f hf => h f (fun z => hf (hs f z))
theorem yw_app {m : YS} {f f' : Nat} {i i' v : Int} : yw m f i v f' i' = if f' = f ∧ i' = i then v else m f' i' := rfl
theorem nw_app {n : NS} {K K' : Nat} {i i' s s' v : Int} : nw n K i s v K' i' s' = if K' = K ∧ i' = i ∧ s' = s then v else n K' i' s' := rfl
/-- bytes of a field of the reference -/
def ys (m : YS) (f h : Nat) : List Int := sg (m f) 0 (m h 0).toNat
/-- one more -/
theorem ys_push {m m' : YS} {f h : Nat} {c : Int} (h0 : 0 ≤ m h 0) (hs : m' h 0 = m h 0 + 1) (hc : m' f (m h 0) = c) (ho : ∀ j, j < m h 0 → m' f j = m f j) : ys m' f h = ys m f h ++ [c] := by
  unfold ys
  rw [hs, show (m h 0 + 1).toNat = (m h 0).toNat + 1 by omega, sg_app]
  congr 1
  · exact sg_cg _ _ _ (fun x hx => ho _ (by omega))
  · show [m' f (0 + ((m h 0).toNat : Int))] = _
    rw [show 0 + ((m h 0).toNat : Int) = m h 0 by omega, hc]
def four (v : Int) : List Int := [Int.bmod (v / 16777216) 256, Int.bmod (v / 65536) 256, Int.bmod (v / 256) 256, Int.bmod (v / 1) 256]
section A7
variable {n : NS} {m : YS} {A B v : Int}
theorem ys_putFour (h0 : 0 ≤ m 1 0 ∧ m 1 0 + 4 ≤ 2000) : ev (N_Y_putFour v m) (fun m' => FY [0, 1] m m' ∧ m' 1 0 = m 1 0 + 4 ∧ ys m' 0 1 = ys m 0 1 ++ four v) := by
  unfold N_Y_putFour NL_Y_putFour_3
  rw [bind_id]
  refine ev_it (fun t : Int × YS => FY [0, 1] m t.2 ∧ ((t.1 = 24 ∧ t.2 1 0 = m 1 0 ∧ ys t.2 0 1 = ys m 0 1) ∨ (t.1 = 16 ∧ t.2 1 0 = m 1 0 + 1 ∧ ys t.2 0 1 = ys m 0 1 ++ [Int.bmod (v / 16777216) 256]) ∨ (t.1 = 8 ∧ t.2 1 0 = m 1 0 + 2 ∧ ys t.2 0 1 = ys m 0 1 ++ [Int.bmod (v / 16777216) 256, Int.bmod (v / 65536) 256]) ∨ (t.1 = 0 ∧ t.2 1 0 = m 1 0 + 3 ∧ ys t.2 0 1 = ys m 0 1 ++ [Int.bmod (v / 16777216) 256, Int.bmod (v / 65536) 256, Int.bmod (v / 256) 256]) ∨ (t.1 = -8 ∧ t.2 1 0 = m 1 0 + 4 ∧ ys t.2 0 1 = ys m 0 1 ++ four v))) (fun t => t.1 + 8) (fun t ht => ?_) ⟨FY.refl _ _, .inl ⟨rfl, rfl, rfl⟩⟩
  obtain ⟨s, m1⟩ := t
  obtain ⟨hF, hc⟩ := ht
  simp only at hF hc
  show ev (nb_Y_putFour_3 v s m1) _
  unfold nb_Y_putFour_3
  refine ev_if (fun hneg => ?_) (fun hpos => ?_)
  · have h5 : m1 1 0 = m 1 0 + 4 ∧ ys m1 0 1 = ys m 0 1 ++ four v := by rcases hc with h | h | h | h | h <;> first | (have := h.1; omega) | exact h.2
    exact ev_inr ⟨hF, h5⟩
  · have hb : 0 ≤ m1 1 0 ∧ m1 1 0 < 2000 ∧ 0 ≤ s ∧ s < 32 := by rcases hc with h | h | h | h | h <;> (obtain ⟨h1, h2, _⟩ := h; omega)
    refine ev_sh5 (by omega) (ev_ix (by omega) (ev_st ?_))
    have e1 : yw m1 0 (m1 1 0) (Int.bmod (v / 2 ^ Int.toNat s) 256) 1 0 = m1 1 0 := by rw [yw_nF (by decide)]
    rw [e1]
    refine ev_ck (by omega) (ev_st (ev_ck (by omega) (ev_inl ⟨⟨?_, ?_⟩, by show s + -8 + 8 < s + 8; omega, by show 0 ≤ s + 8; omega⟩)))
    · intro f hf
      show yw (yw m1 0 _ _) 1 0 _ f = m f
      rw [yw_nF (fun z => hf (by simp [z])), yw_nF (fun z => hf (by simp [z]))]
      exact hF f hf
    · have hp : ys (yw (yw m1 0 (m1 1 0) (Int.bmod (v / 2 ^ Int.toNat s) 256)) 1 0 (m1 1 0 + 1)) 0 1 = ys m1 0 1 ++ [Int.bmod (v / 2 ^ Int.toNat s) 256] := by
        refine ys_push hb.1 (by rw [yw_eq]) (by rw [yw_nF (by decide), yw_eq]) (fun j hj => by rw [yw_nF (by decide), yw_ni (by omega)])
      have hq : yw (yw m1 0 (m1 1 0) (Int.bmod (v / 2 ^ Int.toNat s) 256)) 1 0 (m1 1 0 + 1) 1 0 = m1 1 0 + 1 := by rw [yw_eq]
      dsimp only
      rw [hp, hq]
      rcases hc with h | h | h | h | h
      · obtain ⟨h1, h2, h3⟩ := h
        subst h1
        exact .inr (.inl ⟨by omega, by omega, by rw [h3]; rfl⟩)
      · obtain ⟨h1, h2, h3⟩ := h
        subst h1
        exact .inr (.inr (.inl ⟨by omega, by omega, by rw [h3, List.append_assoc]; rfl⟩))
      · obtain ⟨h1, h2, h3⟩ := h
        subst h1
        exact .inr (.inr (.inr (.inl ⟨by omega, by omega, by rw [h3, List.append_assoc]; rfl⟩)))
      · obtain ⟨h1, h2, h3⟩ := h
        subst h1
        exact .inr (.inr (.inr (.inr ⟨by omega, by omega, by rw [h3, List.append_assoc]; rfl⟩)))
      · have := h.1; omega
theorem ys_feed {a b c d e : Int} (h0 : 0 ≤ m 1 0 ∧ m 1 0 ≤ 2000) : ev (N_Y_feed a b c d e m) (fun r => FY [0, 1] m r.2 ∧ ((m 1 0 + 20 > 2000 ∧ r = (-1, m)) ∨ (m 1 0 + 20 ≤ 2000 ∧ r.1 = m 1 0 + 20 ∧ r.2 1 0 = m 1 0 + 20 ∧ ys r.2 0 1 = ys m 0 1 ++ (four a ++ (four b ++ (four c ++ (four d ++ four e))))))) := by
  unfold N_Y_feed
  refine ev_ck (by omega) (ev_if (fun hgt => ev_ok ⟨FY.refl _ _, .inl ⟨by omega, rfl⟩⟩) (fun hle => ?_))
  refine ev_bind (ys_putFour (by omega)) (fun m1 h1 => ?_)
  refine ev_bind (ys_putFour (by omega)) (fun m2 h2 => ?_)
  refine ev_bind (ys_putFour (by omega)) (fun m3 h3 => ?_)
  refine ev_bind (ys_putFour (by omega)) (fun m4 h4 => ?_)
  refine ev_bind (ys_putFour (by omega)) (fun m5 h5 => ?_)
  refine ev_ok ⟨h1.1.trans (h2.1.trans (h3.1.trans (h4.1.trans h5.1))), .inr ⟨by omega, by show m5 1 0 = _; omega, by show m5 1 0 = _; omega, ?_⟩⟩
  show ys m5 0 1 = _
  rw [h5.2.2, h4.2.2, h3.2.2, h2.2.2, h1.2.2]
  simp [List.append_assoc]
theorem cs_addFour (hB : BI A B n) : ev (N_H_addFour v n) (fun n' => AP A B 605 n n' (four v)) := by
  have hb : (0 : Int) ≤ 605 ∧ (605 : Int) ≤ 631 := by omega
  unfold N_H_addFour NL_H_addFour_3
  rw [bind_id]
  refine ev_it (fun t : Int × NS => (t.1 = 24 ∧ AP A B 605 n t.2 []) ∨ (t.1 = 16 ∧ AP A B 605 n t.2 [Int.bmod (v / 16777216) 256]) ∨ (t.1 = 8 ∧ AP A B 605 n t.2 [Int.bmod (v / 16777216) 256, Int.bmod (v / 65536) 256]) ∨ (t.1 = 0 ∧ AP A B 605 n t.2 [Int.bmod (v / 16777216) 256, Int.bmod (v / 65536) 256, Int.bmod (v / 256) 256]) ∨ (t.1 = -8 ∧ AP A B 605 n t.2 (four v))) (fun t => t.1 + 8) (fun t ht => ?_) (.inl ⟨rfl, AP.nil hb hB⟩)
  obtain ⟨s, n1⟩ := t
  simp only at ht
  show ev (nb_H_addFour_3 v s n1) _
  unfold nb_H_addFour_3
  refine ev_if (fun hneg => ?_) (fun hpos => ?_)
  · refine ev_inr (show AP A B 605 n n1 (four v) from ?_)
    rcases ht with h | h | h | h | h <;> first | (have := h.1; omega) | exact h.2
  · have hs : 0 ≤ s ∧ s < 32 := by rcases ht with h | h | h | h | h <;> (have := h.1; omega)
    refine ev_sh5 hs ?_
    have hB1 : BI A B n1 := by rcases ht with h | h | h | h | h <;> exact h.2.1
    refine ev_bind (cs_add (c := v / 2 ^ Int.toNat s) hb hB1) (fun n2 h2 => ?_)
    have h2 : AP A B 605 n1 n2 [Int.bmod (v / 2 ^ Int.toNat s) 256] := h2
    refine ev_ck (by omega) (ev_inl ⟨?_, by show s + -8 + 8 < s + 8; omega, by show 0 ≤ s + 8; omega⟩)
    show (s + -8 = 24 ∧ _) ∨ (s + -8 = 16 ∧ _) ∨ (s + -8 = 8 ∧ _) ∨ (s + -8 = 0 ∧ _) ∨ (s + -8 = -8 ∧ _)
    rcases ht with h | h | h | h | h
    · obtain ⟨h1, h3⟩ := h
      subst h1
      exact .inr (.inl ⟨by omega, h3.trans h2⟩)
    · obtain ⟨h1, h3⟩ := h
      subst h1
      exact .inr (.inr (.inl ⟨by omega, h3.trans h2⟩))
    · obtain ⟨h1, h3⟩ := h
      subst h1
      exact .inr (.inr (.inr (.inl ⟨by omega, h3.trans h2⟩)))
    · obtain ⟨h1, h3⟩ := h
      subst h1
      exact .inr (.inr (.inr (.inr ⟨by omega, h3.trans h2⟩)))
    · have := h.1; omega
theorem cs_feed {a b c d e : Int} (hB : BI A B n) : ev (N_H_feed a b c d e n) (fun r => (n 4 605 2 + 20 > 2000 ∧ r = (-1, n)) ∨ (n 4 605 2 + 20 ≤ 2000 ∧ r.1 = r.2 4 605 2 ∧ AP A B 605 n r.2 (four a ++ (four b ++ (four c ++ (four d ++ four e)))))) := by
  have h1 := (hB.1 605 (by omega) (by omega)).2.2.2.1
  have hl : lim 605 = 2000 := by decide
  unfold N_H_feed
  refine ev_ck (by omega) (ev_if (fun hgt => ev_ok (.inl ⟨by omega, rfl⟩)) (fun hle => ?_))
  refine ev_bind (cs_addFour hB) (fun n1 h1 => ?_)
  refine ev_bind (cs_addFour h1.1) (fun n2 h2 => ?_)
  refine ev_bind (cs_addFour h2.1) (fun n3 h3 => ?_)
  refine ev_bind (cs_addFour h3.1) (fun n4 h4 => ?_)
  refine ev_bind (cs_addFour h4.1) (fun n5 h5 => ?_)
  exact ev_ok (.inr ⟨by omega, rfl, h1.trans (h2.trans (h3.trans (h4.trans h5)))⟩)
end A7
