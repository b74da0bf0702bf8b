/-! ROWS OF BYTES: texts and packed NAMES put behind -/
def AP (A B b : Int) (n n' : NS) (l : List Int) : Prop := BI A B n' ∧ FB (fun x => x = b) n n' ∧ bt n' b = (bt n b ++ l).take (lim b).toNat
theorem take_take_app {k : Nat} {x y z : List Int} : ((x ++ y).take k ++ z).take k = (x ++ (y ++ z)).take k := by
  rw [← List.append_assoc]
  by_cases h : k ≤ (x ++ y).length
  · rw [List.take_append_of_le_length (by rw [List.length_take]; omega), List.take_take, Nat.min_self, List.take_append_of_le_length h]
  · rw [List.take_of_length_le (l := x ++ y) (by omega)]
theorem AP.trans {A B b : Int} {n n' n'' : NS} {l l' : List Int} (h : AP A B b n n' l) (h' : AP A B b n' n'' l') : AP A B b n n'' (l ++ l') :=
  ⟨h'.1, h.2.1.trans h'.2.1, by rw [h'.2.2, h.2.2, take_take_app]⟩
theorem AP.nil {A B b : Int} {n : NS} (hb : 0 ≤ b ∧ b ≤ 631) (hB : BI A B n) : AP A B b n n [] :=
  ⟨hB, FB.refl _ _, by
    have := bt_len hb hB
    have := (hB.1 b hb.1 hb.2).2.2.2.1
    rw [List.append_nil, List.take_of_length_le (by omega)]⟩
def dgF (x : Int) : Nat → List Int
  | 0 => []
  | k + 1 => (if (x / 256 ^ k) % 256 = 0 then [] else [(x / 256 ^ k) % 256]) ++ dgF x k
theorem ediv_pow_step {x c : Int} (hc : 0 ≤ c ∧ c < 256) (k : Nat) : (x * 256 + c) / 256 ^ (k + 1) = x / 256 ^ k := by
  rw [Int.pow_succ, Int.mul_comm ((256 : Int) ^ k) 256, ← Int.ediv_ediv_of_nonneg (by omega), show (x * 256 + c) / 256 = x by omega]
theorem dg_step {x c : Int} (hc : 1 ≤ c ∧ c ≤ 127) : ∀ k : Nat, dgF (x * 256 + c) (k + 1) = dgF x k ++ [c] := by
  intro k
  induction k with
  | zero =>
    unfold dgF
    rw [show (x * 256 + c) / 256 ^ 0 = x * 256 + c from Int.ediv_one _, if_neg (by omega), show (x * 256 + c) % 256 = c by omega]
    rfl
  | succ k ih =>
    show (if ((x * 256 + c) / 256 ^ (k + 1)) % 256 = 0 then [] else [((x * 256 + c) / 256 ^ (k + 1)) % 256]) ++ dgF (x * 256 + c) (k + 1) = _
    rw [ih, ediv_pow_step (by omega), ← List.append_assoc]
    rfl
theorem dg_0 : ∀ k : Nat, dgF 0 k = [] := by
  intro k
  induction k with
  | zero => rfl
  | succ k ih =>
    show (if ((0 : Int) / 256 ^ k) % 256 = 0 then [] else _) ++ dgF 0 k = []
    rw [Int.zero_ediv, if_pos (by decide), ih]
    rfl
theorem pkq_snoc (l : List Int) (c : Int) : pk (l ++ [c]) = pk l * 256 + c := pkA_app l 0 [c]
theorem dg_pk : ∀ (k : Nat) (l : List Int), l.length ≤ k → (∀ c ∈ l, isBt c) → dgF (pk l) k = l := by
  intro k
  induction k with
  | zero => intro l h _; rw [List.length_eq_zero_iff.mp (show l.length = 0 by omega)]; rfl
  | succ k ih =>
    intro l h hc
    rcases List.eq_nil_or_concat l with e | ⟨l', c, e⟩
    · rw [e]; exact dg_0 _
    · rw [List.concat_eq_append] at e
      subst e
      rw [pkq_snoc, dg_step (hc c (by simp)), ih l' (by simp at h; omega) (fun x hx => hc x (by simp [hx]))]
theorem pow2_8 (k : Nat) : (2 : Int) ^ (8 * k) = 256 ^ k := by
  induction k with
  | zero => rfl
  | succ k ih => rw [show 8 * (k + 1) = 8 * k + 8 by omega, Int.pow_add, ih, Int.pow_succ]; rfl
theorem bmod_id {c : Int} (h : -128 ≤ c ∧ c ≤ 127) : Int.bmod c 256 = c := nb_id h
section A6
variable {n : NS} {A B b a i to c l : Int} {g : Int → Int}
theorem cs_addA (hb : 0 ≤ b ∧ b ≤ 631) (hB : BI A B n) (hc : -128 ≤ c ∧ c ≤ 127) : ev (N_Bytes_add b c n) (fun n' => AP A B b n n' [c]) := by
  have := cs_add (c := c) hb hB
  rw [bmod_id hc] at this
  exact this
theorem cs_addPacked {s : List Int} (hb : 0 ≤ b ∧ b ≤ 631) (hB : BI A B n) (hs : ∀ c ∈ s, isBt c) (h8 : s.length ≤ 8) : ev (N_Bytes_addPacked b (pk s) n) (fun n' => AP A B b n n' s) := by
  have hpk := pkq_inL hs h8
  unfold N_Bytes_addPacked NL_Bytes_addPacked_3
  rw [bind_id]
  refine ev_it (fun t : Int × NS => ∃ (k : Nat) (r : List Int), t.1 = 8 * (k : Int) - 8 ∧ k ≤ 8 ∧ AP A B b n t.2 r ∧ r ++ dgF (pk s) k = s) (fun t => t.1 + 8) (fun t ht => ?_) ⟨8, [], rfl, by decide, AP.nil hb hB, dg_pk 8 s h8 hs⟩
  obtain ⟨sh, n1⟩ := t
  obtain ⟨k, r, h1, h2, h3, h4⟩ := ht
  simp only at h1
  show ev (nb_Bytes_addPacked_3 b (pk s) sh n1) _
  unfold nb_Bytes_addPacked_3
  refine ev_if (fun hneg => ?_) (fun hpos => ?_)
  · have : k = 0 := by omega
    subst this
    refine ev_inr (show AP A B b n n1 s from ?_)
    rw [show dgF (pk s) 0 = [] from rfl, List.append_nil] at h4
    rw [← h4]; exact h3
  · obtain ⟨k, rfl⟩ : ∃ k', k = k' + 1 := ⟨k - 1, by omega⟩
    have e : Int.toNat sh = 8 * k := by omega
    show ev (sh6 sh _) _
    refine ev_sh6 (by omega) ?_
    show ev (if (pk s / 2 ^ Int.toNat sh) % 256 = 0 then _ else _) _
    rw [e, pow2_8]
    have hd : 0 ≤ (pk s / 256 ^ k) % 256 ∧ (pk s / 256 ^ k) % 256 < 256 := by omega
    have hstep : dgF (pk s) (k + 1) = (if (pk s / 256 ^ k) % 256 = 0 then [] else [(pk s / 256 ^ k) % 256]) ++ dgF (pk s) k := rfl
    rw [hstep] at h4
    generalize (pk s / 256 ^ k) % 256 = d at *
    refine ev_if (fun hz => ?_) (fun hz => ?_)
    · rw [if_pos hz] at h4
      refine ev_ck (by omega) (ev_inl ⟨⟨k, r, by show sh + -8 = _; omega, by omega, h3, h4⟩, by show sh + -8 + 8 < sh + 8; omega, by show 0 ≤ sh + 8; omega⟩)
    · rw [if_neg hz] at h4
      have hmem : isBt d := hs d (by rw [← h4]; simp)
      refine ev_bind (cs_addA hb h3.1 (by omega)) (fun n2 hn2 => ?_)
      refine ev_ck (by omega) (ev_inl ⟨⟨k, r ++ [d], by show sh + -8 = _; omega, by omega, h3.trans hn2, by rw [List.append_assoc]; exact h4⟩, by show sh + -8 + 8 < sh + 8; omega, by show 0 ≤ sh + 8; omega⟩)
theorem cs_addText {q : Nat} {s : List Int} (hb : 0 ≤ b ∧ b ≤ 631) (hB : BI A B n) (hs : okS q s) (hc : ∀ c ∈ s, 0 ≤ c ∧ c ≤ 127) : ev (N_Bytes_addText b q n) (fun n' => AP A B b n n' s) := by
  have hz := okS_le hs
  unfold N_Bytes_addText NL_Bytes_addText_2
  rw [bind_id]
  refine ev_it (fun t : Int × NS => 0 ≤ t.1 ∧ t.1 ≤ s.length ∧ AP A B b n t.2 (s.take t.1.toNat)) (fun t => (s.length : Int) - t.1) (fun t ht => ?_) ⟨Int.le_refl _, by show (0 : Int) ≤ _; omega, AP.nil hb hB⟩
  obtain ⟨k, n1⟩ := t
  obtain ⟨h1, h2, h3⟩ := ht
  simp only at h1 h2 h3
  show ev (nb_Bytes_addText_2 b q k n1) _
  unfold nb_Bytes_addText_2
  refine ev_eq (okS_N hs) (ev_if (fun hlt => ?_) (fun hge => ?_))
  · have hk : s.getD k.toNat 0 ∈ s := by
      rcases getD_mem (l := s) (k := k.toNat) (d := 0) with h | h
      · exact h
      · have e : s.getD k.toNat 0 = s[k.toNat]'(by omega) := by simp [show k.toNat < s.length by omega]
        rw [e]; exact List.getElem_mem _
    have hx := hc _ hk
    refine ev_eq (okS_C hs ⟨h1, hlt⟩) (ev_bind (cs_addA hb h3.1 (by omega)) (fun n2 hn2 => ?_))
    refine ev_ck (by omega) (ev_inl ⟨⟨by show 0 ≤ k + 1; omega, by show k + 1 ≤ _; omega, ?_⟩, by show (s.length : Int) - (k + 1) < s.length - k; omega, by show 0 ≤ (s.length : Int) - k; omega⟩)
    show AP A B b n n2 (s.take (k + 1).toNat)
    rw [show (k + 1).toNat = k.toNat + 1 by omega, List.take_succ, show s[k.toNat]? = some (s.getD k.toNat 0) from by simp [show k.toNat < s.length by omega]]
    exact h3.trans hn2
  · refine ev_inr (show AP A B b n n1 s from ?_)
    rw [List.take_of_length_le (by omega)] at h3; exact h3
theorem cs_addAllA (hb : 0 ≤ b ∧ b ≤ 631) (hB : BI A B n) (ht : tx n a g l) (ha : a < n 90 0 0) (hi : 0 ≤ i) (hil : to ≤ l) (hto : -1000000 ≤ to ∧ to ≤ 1000000 ∧ i ≤ 1000000) (hab : a ≠ n 4 b 1) : ev (N_Bytes_addAll b a i to n) (fun n' => AP A B b n n' (sg g i (to - i).toNat)) := cs_addAll hb hB ht ha hi hil hto hab
theorem cs_dropLast (hb : 0 ≤ b ∧ b ≤ 631) (hB : BI A B n) : ev (N_Bytes_dropLast b n) (fun n' => BI A B n' ∧ FB (fun x => x = b) n n' ∧ bt n' b = (bt n b).take ((bt n b).length - 1)) := by
  have hb1 := hB.1 b hb.1 hb.2
  have hz := lim_b b
  have hbl := bt_len hb hB
  have h2 := hb1.2.2.2.1
  unfold N_Bytes_dropLast
  refine ev_if (fun h0 => ?_) (fun h0 => ?_)
  · refine ev_ck (by omega) (ev_st (ev_ok ?_))
    have h := set_ok hb hB (f := n 99 (n 4 b 1)) (s := n 4 b 2 - 1) ⟨by omega, by omega, by unfold cap; omega⟩
    rw [show nwA n 99 (n 4 b 1) (n 99 (n 4 b 1)) = n from by
      funext K i s; unfold nwA; split
      · rename_i h; obtain ⟨rfl, rfl⟩ := h; rfl
      · rfl] at h
    refine ⟨h.1, h.2.1, h.2.2.1.trans ?_⟩
    have e : bt n b = sg (n 99 (n 4 b 1)) 0 ((n 4 b 2 - 1).toNat + 1) := by unfold bt; rw [show (n 4 b 2).toNat = (n 4 b 2 - 1).toNat + 1 by omega]
    rw [e, sg_app, List.length_append, sg_len, sg_len, show (n 4 b 2 - 1).toNat + 1 - 1 = (n 4 b 2 - 1).toNat by omega, List.take_append_of_le_length (by rw [sg_len]; exact Nat.le_refl _), List.take_of_length_le (by rw [sg_len]; exact Nat.le_refl _)]
  · refine ev_ok ⟨hB, FB.refl _ _, ?_⟩
    rw [List.length_eq_zero_iff.mp (show (bt n b).length = 0 by omega)]; rfl
end A6
