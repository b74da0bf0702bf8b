/-! ROWS OF BYTES: what is put behind -/
theorem nw_A {n : NS} {K : Nat} {i s v : Int} : nw n K i s v = nwA n K i (fun j => if j = s then v else n K i j) := by
  funext K' i' s'
  unfold nw nwA
  by_cases h : K' = K ∧ i' = i
  · obtain ⟨rfl, rfl⟩ := h
    rw [if_pos (show K' = K' ∧ i' = i' from ⟨rfl, rfl⟩)]
    by_cases e : s' = s
    · rw [if_pos ⟨rfl, rfl, e⟩]; exact (if_pos e).symm
    · rw [if_neg (fun z => e z.2.2)]; exact (if_neg e).symm
  · rw [if_neg h, if_neg (fun z => h ⟨z.1, z.2.1⟩)]
section A5
variable {n : NS} {A B b a i to c l : Int} {g : Int → Int}
/-- bytes are written, and the size -/
theorem set_ok (hb : 0 ≤ b ∧ b ≤ 631) (hB : BI A B n) {f : Int → Int} {s : Int} (hs : 0 ≤ s ∧ s ≤ lim b ∧ s ≤ cap n b) : BI A B (nw (nwA n 99 (n 4 b 1) f) 4 b 2 s) ∧ FB (fun x => x = b) n (nw (nwA n 99 (n 4 b 1) f) 4 b 2 s) ∧ bt (nw (nwA n 99 (n 4 b 1) f) 4 b 2 s) b = sg f 0 s.toNat ∧ (nw (nwA n 99 (n 4 b 1) f) 4 b 2 s) 4 b 2 = s := by
  have hb1 := hB.1 b hb.1 hb.2
  have p4 : ∀ x t, nw (nwA n 99 (n 4 b 1) f) 4 b 2 s 4 x t = if x = b ∧ t = 2 then s else n 4 x t := fun x t => by
    by_cases e : x = b ∧ t = 2
    · obtain ⟨rfl, rfl⟩ := e; rw [nw_eq, if_pos ⟨rfl, rfl⟩]
    · rw [if_neg e]
      by_cases e1 : x = b
      · rw [nw_ns (fun z => e ⟨e1, z⟩), nwA_nK (by decide)]
      · rw [nw_ni e1, nwA_nK (by decide)]
  have pK : ∀ K, K ≠ 4 → K ≠ 99 → nw (nwA n 99 (n 4 b 1) f) 4 b 2 s K = n K := fun K h1 h2 => by rw [nw_nK h1, nwA_nK h2]
  have p1 : ∀ x, nw (nwA n 99 (n 4 b 1) f) 4 b 2 s 4 x 1 = n 4 x 1 := fun x => by rw [p4, if_neg (fun z => by have := z.2; omega)]
  have hcS : capS (nw (nwA n 99 (n 4 b 1) f) 4 b 2 s) = capS n := sumF_cg 632 (fun j _ _ => by unfold cap; rw [p1, pK 93 (by decide) (by decide)])
  have hT : capT (nw (nwA n 99 (n 4 b 1) f) 4 b 2 s) = capT n := by
    unfold capT
    rw [hcS, pK 93 (by decide) (by decide), pK 5 (by decide) (by decide)]
  refine ⟨⟨fun x h0 h1 => ?_, fun x x' h0 h1 h0' h1' he => ?_, ?_, ?_, ?_, hB.2.2.2.2.2⟩, ⟨fun K k1 k2 k3 k4 k5 k6 => pK K k1 k6, fun x hx => ?_, ?_, fun q hq => ?_, fun q hq hS => ?_, fun x hx => ?_⟩, ?_, ?_⟩
  · have hx := hB.1 x h0 h1
    unfold B1
    rw [p4 x 0, p1, p4 x 2, pK 90 (by decide) (by decide), pK 92 (by decide) (by decide), pK 93 (by decide) (by decide), if_neg (fun z => by have := z.2; omega)]
    by_cases e : x = b
    · subst e
      rw [if_pos ⟨rfl, rfl⟩]
      exact ⟨hx.1, hx.2.1, hx.2.2.1, hs, hx.2.2.2.2⟩
    · rw [if_neg (fun z => e z.1)]; exact hx
  · rw [p1, p1] at he; exact hB.2.1 x x' h0 h1 h0' h1' he
  · rw [pK 90 (by decide) (by decide), pK 91 (by decide) (by decide), hT]; exact hB.2.2.1
  · rw [pK 90 (by decide) (by decide), pK 5 (by decide) (by decide)]; exact hB.2.2.2.1
  · rw [pK 93 (by decide) (by decide), pK 5 (by decide) (by decide)]; exact hB.2.2.2.2.1
  · funext t; rw [p4, if_neg (fun z => hx z.1)]
  · rw [pK 90 (by decide) (by decide)]; exact Int.le_refl _
  · rw [pK 92 (by decide) (by decide), pK 93 (by decide) (by decide)]; exact ⟨rfl, rfl⟩
  · rw [nw_nK (by decide), nwA_ni (hS b rfl)]
  · left; rw [p1]
  · unfold bt
    rw [p1, p4 b 2, if_pos ⟨rfl, rfl⟩, nw_nK (by decide), nwA_eq]
  · rw [p4, if_pos ⟨rfl, rfl⟩]
theorem bt_len (hb : 0 ≤ b ∧ b ≤ 631) (hB : BI A B n) : ((bt n b).length : Int) = n 4 b 2 := by
  have := (hB.1 b hb.1 hb.2).2.2.2.1
  unfold bt; rw [sg_len]; omega
theorem cs_clear (hb : 0 ≤ b ∧ b ≤ 631) (hB : BI A B n) : ev (N_Bytes_clear b n) (fun n' => BI A B n' ∧ FB (fun x => x = b) n n' ∧ bt n' b = []) := by
  unfold N_Bytes_clear
  refine ev_st (ev_ok ?_)
  have hb1 := hB.1 b hb.1 hb.2
  have h := set_ok hb hB (f := n 99 (n 4 b 1)) (s := 0) ⟨by omega, by have := lim_b b; omega, by have := hb1.2.2.2.2.1; unfold cap; omega⟩
  rw [show nwA n 99 (n 4 b 1) (n 99 (n 4 b 1)) = n from by
    funext K i s; unfold nwA; split
    · rename_i h; obtain ⟨rfl, rfl⟩ := h; rfl
    · rfl] at h
  exact ⟨h.1, h.2.1, h.2.2.1⟩
theorem cs_add44 (hb : 0 ≤ b ∧ b ≤ 631) (hB : BI A B n) (hl : n 4 b 2 < lim b) (hc : n 4 b 2 < cap n b) : ev (nk_Bytes_add_44 b c n) (fun n' => BI A B n' ∧ FB (fun x => x = b) n n' ∧ bt n' b = bt n b ++ [Int.bmod c 256]) := by
  have hb1 := hB.1 b hb.1 hb.2
  have hz := lim_b b
  have e4 : nw n 99 (n 4 b 1) (n 4 b 2) (Int.bmod c 256) 4 = n 4 := nw_nK (by decide)
  have h2 := hb1.2.2.2.1
  unfold nk_Bytes_add_44
  unfold cap at hc
  refine ev_nn hb1.2.1.1 (ev_dx ⟨hb1.2.2.1, hb1.2.2.2.1.1, hc⟩ (ev_st ?_))
  rw [e4]
  refine ev_ck (by omega) (ev_st (ev_ok ?_))
  rw [nw_A (K := 99)]
  have h := set_ok hb hB (f := fun j => if j = n 4 b 2 then Int.bmod c 256 else n 99 (n 4 b 1) j) (s := n 4 b 2 + 1) ⟨by omega, by omega, by unfold cap; omega⟩
  refine ⟨h.1, h.2.1, h.2.2.1.trans ?_⟩
  rw [show (n 4 b 2 + 1).toNat = (n 4 b 2).toNat + 1 by omega, sg_app]
  unfold bt
  congr 1
  · exact sg_cg _ _ _ (fun x hx => if_neg (by omega))
  · show [if 0 + ((n 4 b 2).toNat : Int) = n 4 b 2 then Int.bmod c 256 else _] = _
    rw [if_pos (by omega)]
theorem cs_add (hb : 0 ≤ b ∧ b ≤ 631) (hB : BI A B n) : ev (N_Bytes_add b c n) (fun n' => BI A B n' ∧ FB (fun x => x = b) n n' ∧ bt n' b = (bt n b ++ [Int.bmod c 256]).take (lim b).toNat) := by
  have hb1 := hB.1 b hb.1 hb.2
  have hz := lim_b b
  have hbl := bt_len hb hB
  unfold N_Bytes_add
  rw [hb1.1]
  refine ev_if (fun hlt => ?_) (fun hge => ?_)
  · have ht : (bt n b ++ [Int.bmod c 256]).take (lim b).toNat = bt n b ++ [Int.bmod c 256] := List.take_of_length_le (by rw [List.length_append]; simp; omega)
    rw [ht]
    have c1 := hb1.2.2.2.2
    refine ev_nn hb1.2.1.1 (ev_ty hb1.2.2.1 (ev_ck (by omega) (ev_if (fun he => ?_) (fun he => ?_))))
    · refine ev_nn hb1.2.1.1 (ev_ck (by omega) (ev_ck (by omega) (ev_b2 (cs_copyOf hB ⟨hb1.2.2.1, hb1.2.1.2⟩ (by omega)) (fun v w hvw => ev_st ?_))))
      have hg := grow_ok hb hB (l := 2 * n 4 b 2 + 16) (by unfold cap; omega) hvw
      refine ev_mono (cs_add44 (c := c) hb hg.1 (by rw [hg.2.2.2.2]; exact hlt) (by rw [hg.2.2.2.2, hg.2.2.2.1]; omega)) (fun n' hn => ⟨hn.1, hg.2.1.trans hn.2.1, by rw [hn.2.2, hg.2.2.1]⟩)
    · exact cs_add44 hb hB hlt (by have := hb1.2.2.2.1; unfold cap; omega)
  · refine ev_ok ⟨hB, FB.refl _ _, ?_⟩
    have := hb1.2.2.2.1
    rw [List.take_append_of_le_length (by omega), List.take_of_length_le (by omega)]
theorem FB.tx {S : Int → Prop} {n n' : NS} (h : FB S n n') (ht : tx n a g l) (ha : a < n 90 0 0) (hS : ∀ b, S b → a ≠ n 4 b 1) : tx n' a g l := by
  have h1 := h.2.2.2.1 a ha
  have h2 := h.2.2.2.2.1 a ha hS
  exact ⟨h1.1.trans ht.1, by rw [h1.2]; exact ht.2.1, fun j h0 hj => by rw [h2]; exact ht.2.2 j h0 hj⟩
theorem cs_addAll66 (hb : 0 ≤ b ∧ b ≤ 631) (hB : BI A B n) (ht : tx n a g l) (hi : 0 ≤ i) {k : Int} (hk : 0 ≤ k) (hil : i + k ≤ l) (hl : n 4 b 2 + k ≤ lim b) (hc : n 4 b 2 + k ≤ cap n b) : ev (nk_Bytes_addAll_66 b a i k n) (fun n' => BI A B n' ∧ FB (fun x => x = b) n n' ∧ bt n' b = bt n b ++ sg g i k.toNat) := by
  have hb1 := hB.1 b hb.1 hb.2
  have hz := lim_b b
  unfold nk_Bytes_addAll_66
  unfold cap at hc
  have e4 : ∀ f, nwA n 99 (n 4 b 1) f 4 = n 4 := fun f => nwA_nK (by decide)
  refine ev_nn hb1.2.1.1 (ev_g ⟨ht.1, hb1.2.2.1, ⟨hi, hb1.2.2.2.1.1, hk⟩, by have := ht.2.1; omega, hc⟩ (ev_st ?_))
  rw [e4]
  refine ev_ck (by have := hb1.2.2.2.1; omega) (ev_st (ev_ok ?_))
  have h := set_ok hb hB (f := cpf (n 99 a) (n 99 (n 4 b 1)) i (n 4 b 2) k) (s := n 4 b 2 + k) ⟨by have := hb1.2.2.2.1; omega, by omega, by unfold cap; omega⟩
  refine ⟨h.1, h.2.1, h.2.2.1.trans ?_⟩
  have h2 := hb1.2.2.2.1
  rw [show (n 4 b 2 + k).toNat = (n 4 b 2).toNat + k.toNat by omega, sg_app]
  unfold bt
  congr 1
  · exact sg_cg _ _ _ (fun x hx => by unfold cpf; rw [if_neg (by omega)])
  · exact sg_cg _ _ _ (fun x hx => by
      unfold cpf
      rw [if_pos (by omega), show i + (0 + ((n 4 b 2).toNat : Int) + (x : Int) - n 4 b 2) = i + x by omega]
      exact ht.2.2 _ (by omega) (by omega))
theorem cs_addAll (hb : 0 ≤ b ∧ b ≤ 631) (hB : BI A B n) (ht : tx n a g l) (ha : a < n 90 0 0) (hi : 0 ≤ i) (hil : to ≤ l) (hto : -1000000 ≤ to ∧ to ≤ 1000000 ∧ i ≤ 1000000) (hab : a ≠ n 4 b 1) : ev (N_Bytes_addAll b a i to n) (fun n' => BI A B n' ∧ FB (fun x => x = b) n n' ∧ bt n' b = (bt n b ++ sg g i (to - i).toNat).take (lim b).toNat) := by
  have hb1 := hB.1 b hb.1 hb.2
  have hz := lim_b b
  have hbl := bt_len hb hB
  have h2 := hb1.2.2.2.1
  have c1 := hb1.2.2.2.2
  unfold N_Bytes_addAll
  rw [hb1.1]
  have key : 0 < min (to - i) (lim b - n 4 b 2) → (bt n b ++ sg g i (to - i).toNat).take (lim b).toNat = bt n b ++ sg g i (min (to - i) (lim b - n 4 b 2)).toNat := fun h0 => by
    have hm : (min (to - i) (lim b - n 4 b 2)).toNat ≤ (to - i).toNat := by omega
    obtain ⟨d, hd⟩ := Nat.exists_eq_add_of_le hm
    rw [hd, sg_app, ← List.append_assoc]
    by_cases hq : to - i ≤ lim b - n 4 b 2
    · have : d = 0 := by omega
      subst this
      rw [show sg g (i + ((min (to - i) (lim b - n 4 b 2)).toNat : Int)) 0 = [] from rfl, List.append_nil]
      exact List.take_of_length_le (by rw [List.length_append, sg_len]; omega)
    · rw [List.take_append_of_le_length (by rw [List.length_append, sg_len]; omega)]
      exact List.take_of_length_le (by rw [List.length_append, sg_len]; omega)
  refine ev_ck (by omega) (ev_ck (by omega) (ev_if (fun h0 => ?_) (fun h0 => ?_)))
  · rw [key h0]
    generalize hk : min (to - i) (lim b - n 4 b 2) = k at *
    have hkb : 0 < k ∧ k ≤ to - i ∧ k ≤ lim b - n 4 b 2 := by omega
    refine ev_ck (by omega) (ev_nn hb1.2.1.1 (ev_ty hb1.2.2.1 (ev_ck (by omega) (ev_if (fun he => ?_) (fun he => ?_)))))
    · refine ev_nn hb1.2.1.1 (ev_nn hb1.2.1.1 (ev_ty hb1.2.2.1 (ev_ck (by omega) (ev_ck (by omega) (ev_ck (by omega) (ev_b2 (cs_copyOf hB ⟨hb1.2.2.1, hb1.2.1.2⟩ (by omega)) (fun v w hvw => ev_st ?_)))))))
      have hg := grow_ok hb hB (l := max (2 * n 93 0 (n 4 b 1)) (n 4 b 2 + k)) (by unfold cap; omega) hvw
      have ht' := hg.2.1.tx ht ha (fun x hx => by rw [hx]; exact hab)
      refine ev_mono (cs_addAll66 hb hg.1 ht' hi (k := k) (by omega) (by omega) (by rw [hg.2.2.2.2]; omega) (by rw [hg.2.2.2.2, hg.2.2.2.1]; omega)) (fun n' hn => ⟨hn.1, hg.2.1.trans hn.2.1, by rw [hn.2.2, hg.2.2.1]⟩)
    · exact cs_addAll66 hb hB ht hi (by omega) (by omega) (by omega) (by unfold cap; omega)
  · refine ev_ok ⟨hB, FB.refl _ _, ?_⟩
    by_cases hq : to - i ≤ 0
    · rw [show (to - i).toNat = 0 by omega, show sg g i 0 = [] from rfl, List.append_nil, List.take_of_length_le (by omega)]
    · rw [List.take_append_of_le_length (by omega), List.take_of_length_le (by omega)]
end A5
