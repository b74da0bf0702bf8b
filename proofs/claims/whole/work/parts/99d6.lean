/-! NAMES PACKED, what stays of a node; the call attribute -/
section D6a
variable {n : NS} {g : Int → Int} {a l i to b A B : Int} {q : Nat} {s : List Int}
theorem cs_pack (ht : tx n a g l) (hl : to ≤ l) (h0 : 0 ≤ i) (hto : to ≤ 100000 ∧ i ≤ 100000) (hc : ∀ j, i ≤ j → j < to → j < i + 8 → isBt (g j)) : N_Bytes_pack a i to n = some (pk (sg g i (min (to - i) 8).toNat)) := by
  apply eq_of_ev
  unfold N_Bytes_pack NL_Bytes_pack_5
  rw [bind_id]
  refine ev_it (fun t : Int × Int => i ≤ t.2 ∧ (t.2 ≤ to ∨ t.2 = i) ∧ t.2 ≤ i + 8 ∧ t.1 = pk (sg g i (t.2 - i).toNat)) (fun t => to - t.2) (fun t ht' => ?_) ⟨Int.le_refl _, .inr rfl, by show i ≤ i + 8; omega, by show 0 = pk (sg g i (i - i).toNat); rw [show (i - i).toNat = 0 by omega]; rfl⟩
  obtain ⟨s, k⟩ := t
  obtain ⟨h1, h2, h3, h4⟩ := ht'
  simp only at h1 h2 h3 h4
  show ev (nb_Bytes_pack_5 a i to s k n) _
  unfold nb_Bytes_pack_5
  have fin : (k - i).toNat = (min (to - i) 8).toNat → s = pk (sg g i (min (to - i) 8).toNat) := fun z => by rw [h4, z]
  refine ev_if (fun hlt => ev_ck (by omega) (ev_if (fun h8 => ?_) (fun h8 => ev_inr (fin (by omega))))) (fun hge => ev_inr (fin (by omega)))
  have e1 : sg g i (k + 1 - i).toNat = sg g i (k - i).toNat ++ [g k] := by
    rw [show (k + 1 - i).toNat = (k - i).toNat + 1 by omega, sg_app, show i + (((k - i).toNat : Nat) : Int) = k by omega]; rfl
  have e2 := pkq_snoc (sg g i (k - i).toNat) (g k)
  have hb := hc k h1 hlt h8
  have hin := pkq_inL (l := sg g i (k - i).toNat ++ [g k]) (by rw [← e1]; exact sg_mem _ _ (fun x hx => hc _ (by omega) (by omega) (by omega))) (by rw [← e1, sg_len]; omega)
  have h0' : 0 ≤ pk (sg g i (k - i).toNat) := (pkq_lt (sg_mem _ _ (fun x hx => hc _ (by omega) (by omega) (by omega)))).2
  rw [e2, ← h4] at hin
  rw [← h4] at h0'
  refine ev_ckL (by omega) (ev_tx ht ⟨by omega, by omega⟩ (fun he => ?_))
  rw [he]
  refine ev_or8 (by omega) (ev_ckL (by omega) (ev_ck (by omega) (ev_inl ⟨⟨by show i ≤ k + 1; omega, by show k + 1 ≤ to ∨ _; omega, by show k + 1 ≤ i + 8; omega, ?_⟩, by show to - (k + 1) < to - k; omega, by show 0 ≤ to - k; omega⟩)))
  show s * 256 + g k = pk (sg g i (k + 1 - i).toNat)
  rw [e1, e2, h4]
theorem toSm_bt {c : Int} (h : isBt c) : isBt (toSm c) := by unfold toSm; split <;> omega
theorem cs_packSmall (ht : tx n a g l) (hl : to ≤ l) (h0 : 0 ≤ i) (hto : to ≤ 100000 ∧ i ≤ 100000) (hc : ∀ j, i ≤ j → j < to → j < i + 8 → isBt (g j)) : N_Bytes_packSmall a i to n = some (pk (sg (fun j => toSm (g j)) i (min (to - i) 8).toNat)) := by
  apply eq_of_ev
  unfold N_Bytes_packSmall NL_Bytes_packSmall_5
  rw [bind_id]
  refine ev_it (fun t : Int × Int => i ≤ t.2 ∧ (t.2 ≤ to ∨ t.2 = i) ∧ t.2 ≤ i + 8 ∧ t.1 = pk (sg (fun j => toSm (g j)) i (t.2 - i).toNat)) (fun t => to - t.2) (fun t ht' => ?_) ⟨Int.le_refl _, .inr rfl, by show i ≤ i + 8; omega, by show 0 = pk (sg (fun j => toSm (g j)) i (i - i).toNat); rw [show (i - i).toNat = 0 by omega]; rfl⟩
  obtain ⟨s, k⟩ := t
  obtain ⟨h1, h2, h3, h4⟩ := ht'
  simp only at h1 h2 h3 h4
  show ev (nb_Bytes_packSmall_5 a i to s k n) _
  unfold nb_Bytes_packSmall_5
  have fin : (k - i).toNat = (min (to - i) 8).toNat → s = pk (sg (fun j => toSm (g j)) i (min (to - i) 8).toNat) := fun z => by rw [h4, z]
  refine ev_if (fun hlt => ev_ck (by omega) (ev_if (fun h8 => ?_) (fun h8 => ev_inr (fin (by omega))))) (fun hge => ev_inr (fin (by omega)))
  have e1 : sg (fun j => toSm (g j)) i (k + 1 - i).toNat = sg (fun j => toSm (g j)) i (k - i).toNat ++ [toSm (g k)] := by
    rw [show (k + 1 - i).toNat = (k - i).toNat + 1 by omega, sg_app, show i + (((k - i).toNat : Nat) : Int) = k by omega]; rfl
  have e2 := pkq_snoc (sg (fun j => toSm (g j)) i (k - i).toNat) (toSm (g k))
  have hb := hc k h1 hlt h8
  have hb' := toSm_bt hb
  have hin := pkq_inL (l := sg (fun j => toSm (g j)) i (k - i).toNat ++ [toSm (g k)]) (by rw [← e1]; exact sg_mem _ _ (fun x hx => toSm_bt (hc _ (by omega) (by omega) (by omega)))) (by rw [← e1, sg_len]; omega)
  have h0' : 0 ≤ pk (sg (fun j => toSm (g j)) i (k - i).toNat) := (pkq_lt (l := sg (fun j => toSm (g j)) i (k - i).toNat) (sg_mem (g := fun j => toSm (g j)) (P := isBt) (k - i).toNat i (fun x hx => toSm_bt (hc (i + x) (by omega) (by omega) (by omega))))).2
  rw [e2, ← h4] at hin
  rw [← h4] at h0'
  have nxt : s * 256 + toSm (g k) = pk (sg (fun j => toSm (g j)) i (k + 1 - i).toNat) := by rw [e1, e2, h4]
  refine ev_tx ht ⟨by omega, by omega⟩ (fun he => ?_)
  rw [he]
  unfold nk_Bytes_packSmall_42 nk_Bytes_packSmall_43 nk_Bytes_packSmall_68
  rw [he]
  have d1 : n 92 0 a = 1 ∧ 0 ≤ k ∧ k < n 93 0 a := ⟨ht.1, by omega, by have := ht.2.1; omega⟩
  have low : ¬ (65 ≤ g k ∧ g k ≤ 90) → ev (ckL (s * 256) <| if (0 : Int) = 0 then dx n a 1 k <| or8 (s * 256) (g k) <| ckL (s * 256 + g k) <| ck (k + 1) <| some (Sum.inl (s * 256 + g k, k + 1)) else dx n a 1 k <| ck (g k + 32) <| or8 (s * 256) (g k + 32) <| ckL (s * 256 + (g k + 32)) <| ck (k + 1) <| some (Sum.inl (s * 256 + (g k + 32), k + 1))) (lp (fun t : Int × Int => i ≤ t.2 ∧ (t.2 ≤ to ∨ t.2 = i) ∧ t.2 ≤ i + 8 ∧ t.1 = pk (sg (fun j => toSm (g j)) i (t.2 - i).toNat)) (fun t => to - t.2) (s, k) (fun r => r = pk (sg (fun j => toSm (g j)) i (min (to - i) 8).toNat))) := fun hz => by
    have e : toSm (g k) = g k := by unfold toSm; rw [if_neg hz]
    rw [e] at nxt hin
    refine ev_ckL (by omega) (ev_z1 (ev_dx d1 (ev_or8 (by omega) (ev_ckL (by omega) (ev_ck (by omega) (ev_inl ⟨⟨by show i ≤ k + 1; omega, by show k + 1 ≤ to ∨ _; omega, by show k + 1 ≤ i + 8; omega, nxt⟩, by show to - (k + 1) < to - k; omega, by show 0 ≤ to - k; omega⟩))))))
  refine ev_if (fun z => low (by omega)) (fun z => ev_dx d1 (ev_if (fun z' => low (by omega)) (fun z' => ?_)))
  have e : toSm (g k) = g k + 32 := by unfold toSm; rw [if_pos (by omega)]
  rw [e] at nxt hin hb'
  refine ev_ckL (by omega) (ev_z0 (ev_dx d1 (ev_ck (by omega) (ev_or8 (by omega) (ev_ckL (by omega) (ev_ck (by omega) (ev_inl ⟨⟨by show i ≤ k + 1; omega, by show k + 1 ≤ to ∨ _; omega, by show k + 1 ≤ i + 8; omega, nxt⟩, by show to - (k + 1) < to - k; omega, by show 0 ≤ to - k; omega⟩)))))))
theorem getD_in {k : Nat} (h : k < s.length) : s.getD k 0 ∈ s := by
  have e : s.getD k 0 = s[k]'h := by simp [h]
  rw [e]; exact List.getElem_mem _
theorem cs_packW (hs : okS q s) (hc : ∀ c ∈ s, isBt c) (h8 : s.length ≤ 8) : N_Bytes_pack_1 q n = some (pk s) := by
  apply eq_of_ev
  unfold N_Bytes_pack_1 NL_Bytes_pack_1_4
  rw [bind_id]
  refine ev_it (fun t : Int × Int => 0 ≤ t.2 ∧ t.2 ≤ s.length ∧ t.1 = pk (s.take t.2.toNat)) (fun t => (s.length : Int) - t.2) (fun t ht' => ?_) ⟨Int.le_refl _, by show (0 : Int) ≤ _; omega, rfl⟩
  obtain ⟨r, k⟩ := t
  obtain ⟨h1, h2, h3⟩ := ht'
  simp only at h1 h2 h3
  show ev (nb_Bytes_pack_1_4 q r k n) _
  unfold nb_Bytes_pack_1_4
  refine ev_eq (okS_N hs) (ev_if (fun hlt => ev_if (fun h => ?_) (fun h => by omega)) (fun hge => ev_inr ?_))
  · have hk := hc _ (getD_in (s := s) (k := k.toNat) (by omega))
    have e1 : s.take (k + 1).toNat = s.take k.toNat ++ [s.getD k.toNat 0] := by
      rw [show (k + 1).toNat = k.toNat + 1 by omega, List.take_succ, show s[k.toNat]? = some (s.getD k.toNat 0) from by simp [show k.toNat < s.length by omega]]; rfl
    have e2 := pkq_snoc (s.take k.toNat) (s.getD k.toNat 0)
    have hm : ∀ c ∈ s.take (k + 1).toNat, isBt c := fun c hx => hc c (List.mem_of_mem_take hx)
    have hin := pkq_inL hm (by rw [List.length_take]; omega)
    have h0' := (pkq_lt (l := s.take k.toNat) (fun c hx => hc c (List.mem_of_mem_take hx))).2
    rw [e1, e2, ← h3] at hin
    rw [← h3] at h0'
    refine ev_ckL (by omega) (ev_eq (okS_C hs ⟨h1, hlt⟩) (ev_or8 (by omega) (ev_ckL (by omega) (ev_ck (by omega) (ev_inl ⟨⟨by show 0 ≤ k + 1; omega, by show k + 1 ≤ _; omega, ?_⟩, by show (s.length : Int) - (k + 1) < s.length - k; omega, by show 0 ≤ (s.length : Int) - k; omega⟩)))))
    show r * 256 + s.getD k.toNat 0 = pk (s.take (k + 1).toNat)
    rw [e1, e2, h3]
  · show r = pk s
    rw [h3, List.take_of_length_le (by omega)]
theorem cs_packed (hb : 0 ≤ b ∧ b ≤ 631) (hB : BI A B n) (hc : ∀ c ∈ bt n b, isBt c) : N_Bytes_packed b n = some (if n 4 b 2 ≤ 8 then pk (bt n b) else 0) := by
  apply eq_of_ev
  have b1 := hB.1 b hb.1 hb.2
  have hz := b1.2.2.2.1
  have htx := hB.txb hb
  unfold N_Bytes_packed NL_Bytes_packed_4
  rw [bind_id]
  by_cases h8 : n 4 b 2 ≤ 8
  · rw [if_pos h8]
    refine ev_it (fun t : Int × Int => 0 ≤ t.2 ∧ t.2 ≤ n 4 b 2 ∧ t.1 = pk (sg (n 99 (n 4 b 1)) 0 t.2.toNat)) (fun t => n 4 b 2 - t.2) (fun t ht' => ?_) ⟨Int.le_refl _, hz.1, rfl⟩
    obtain ⟨r, k⟩ := t
    obtain ⟨h1, h2, h3⟩ := ht'
    simp only at h1 h2 h3
    show ev (nb_Bytes_packed_4 b r k n) _
    unfold nb_Bytes_packed_4
    have hcc : ∀ x : Nat, (x : Int) < n 4 b 2 → isBt (n 99 (n 4 b 1) (0 + x)) := fun x hx => hc _ (sg_at _ _ _ (by omega))
    refine ev_if (fun hlt => ev_if (fun h => by omega) (fun h => ?_)) (fun hge => ev_inr ?_)
    · have e1 : sg (n 99 (n 4 b 1)) 0 (k + 1).toNat = sg (n 99 (n 4 b 1)) 0 k.toNat ++ [n 99 (n 4 b 1) k] := by
        rw [show (k + 1).toNat = k.toNat + 1 by omega, sg_app, show (0 : Int) + ((k.toNat : Nat) : Int) = k by omega]; rfl
      have e2 := pkq_snoc (sg (n 99 (n 4 b 1)) 0 k.toNat) (n 99 (n 4 b 1) k)
      have hk := hcc k.toNat (by omega)
      rw [show (0 : Int) + ((k.toNat : Nat) : Int) = k by omega] at hk
      have hin := pkq_inL (l := sg (n 99 (n 4 b 1)) 0 (k + 1).toNat) (sg_mem _ _ (fun x hx => hcc x (by omega))) (by rw [sg_len]; omega)
      have h0' := (pkq_lt (l := sg (n 99 (n 4 b 1)) 0 k.toNat) (sg_mem _ _ (fun x hx => hcc x (by omega)))).2
      rw [e1, e2, ← h3] at hin
      rw [← h3] at h0'
      refine ev_ckL (by omega) (ev_nn b1.2.1.1 (ev_tx htx ⟨h1, hlt⟩ (fun _ => ev_or8 (by omega) (ev_ckL (by omega) (ev_ck (by omega) (ev_inl ⟨⟨by show 0 ≤ k + 1; omega, by show k + 1 ≤ _; omega, ?_⟩, by show n 4 b 2 - (k + 1) < n 4 b 2 - k; omega, by show 0 ≤ n 4 b 2 - k; omega⟩))))))
      show r * 256 + n 99 (n 4 b 1) k = pk (sg (n 99 (n 4 b 1)) 0 (k + 1).toNat)
      rw [e1, e2, h3]
    · show r = pk (bt n b)
      rw [h3, show k = n 4 b 2 by omega]; rfl
  · rw [if_neg h8]
    refine ev_it (fun t : Int × Int => t = (0, 0)) (fun t => 0) (fun t ht' => ?_) rfl
    subst ht'
    show ev (nb_Bytes_packed_4 b 0 0 n) _
    unfold nb_Bytes_packed_4
    exact ev_if (fun _ => ev_if (fun _ => ev_inr rfl) (fun h => by omega)) (fun h => by omega)
end D6a
/-- what counts of a node is as it was -/
def YG (m m' : YS) (v : Int) : Prop := (m' 46 v = m 46 v ∧ m' 48 v = m 48 v ∧ m' 56 v = m 56 v ∧ m' 62 v = m 62 v ∧ m' 65 v = m 65 v ∧ m' 66 v = m 66 v) ∧ (∀ j, 8 * v ≤ j → j < 8 * v + 8 → m' 47 j = m 47 j) ∧ (∀ j, 4 * v ≤ j → j < 4 * v + 4 → m' 58 j = m 58 j ∧ m' 60 j = m 60 j) ∧ (∀ j, 32 * v ≤ j → j < 32 * v + 32 → m' 57 j = m 57 j) ∧ (∀ j, 240 * v ≤ j → j < 240 * v + 240 → m' 59 j = m 59 j) ∧ (∀ j, 400 * v ≤ j → j < 400 * v + 400 → m' 61 j = m 61 j) ∧ (∀ j, 24 * v ≤ j → j < 24 * v + 24 → m' 64 j = m 64 j)
def NG (n n' : NS) (v : Int) : Prop := (∀ s, s = 0 ∨ s = 1 ∨ s = 12 ∨ s = 15 ∨ s = 16 → n' 7 v s = n 7 v s) ∧ n' 18 v = n 18 v ∧ (∀ b, 5 * v ≤ b → b ≤ 5 * v + 4 → bt n' b = bt n b)
theorem NG.refl (n : NS) (v : Int) : NG n n v := ⟨fun _ _ => rfl, rfl, fun _ _ _ => rfl⟩
theorem YG.of {m m' : YS} {v : Int} (h : ∀ f, f = 46 ∨ f = 47 ∨ f = 48 ∨ f = 56 ∨ f = 57 ∨ f = 58 ∨ f = 59 ∨ f = 60 ∨ f = 61 ∨ f = 62 ∨ f = 64 ∨ f = 65 ∨ f = 66 → m' f = m f) : YG m m' v := by
  have e46 := h 46 (by omega); have e47 := h 47 (by omega); have e48 := h 48 (by omega); have e56 := h 56 (by omega); have e57 := h 57 (by omega); have e58 := h 58 (by omega); have e59 := h 59 (by omega)
  have e60 := h 60 (by omega); have e61 := h 61 (by omega); have e62 := h 62 (by omega); have e64 := h 64 (by omega); have e65 := h 65 (by omega); have e66 := h 66 (by omega)
  unfold YG
  rw [e46, e47, e48, e56, e57, e58, e59, e60, e61, e62, e64, e65, e66]
  exact ⟨⟨rfl, rfl, rfl, rfl, rfl, rfl⟩, fun _ _ _ => rfl, fun _ _ _ => ⟨rfl, rfl⟩, fun _ _ _ => rfl, fun _ _ _ => rfl, fun _ _ _ => rfl, fun _ _ _ => rfl⟩
theorem YG.refl (m : YS) (v : Int) : YG m m v := YG.of (fun _ _ => rfl)
section D6b
variable {n n' : NS} {m m' : YS} {A B N v : Int} {o e p : Int → Int} {w : List Int}
theorem ND.cg (h : ND n m v) (hy : YG m m' v) (hn : NG n n' v) : ND n' m' v := by
  obtain ⟨⟨y1, y2, y3, y4, y5, y6⟩, y7, y8, y9, y10, y11, y12⟩ := hy
  obtain ⟨n1, n2, n3⟩ := hn
  obtain ⟨h1, h2, h3, h4, h5, h6, h7⟩ := h
  have eA : ∀ a, 0 ≤ a → a < m 56 v → anL m' v a = anL m v a := fun a a0 a1 => by
    have ha := (h4 a a0 a1).1
    unfold anL
    rw [(y8 (4 * v + a) (by omega) (by omega)).1]
    exact sg_cg _ _ _ (fun x hx => y9 _ (by omega) (by omega))
  have eV : ∀ a, 0 ≤ a → a < m 56 v → avL m' v a = avL m v a := fun a a0 a1 => by
    have ha := (h4 a a0 a1).2.2.2.1
    unfold avL
    rw [(y8 (4 * v + a) (by omega) (by omega)).2]
    exact sg_cg _ _ _ (fun x hx => y10 _ (by omega) (by omega))
  have eN : nmL m' v = nmL m v := by
    unfold nmL
    rw [y2]
    exact sg_cg _ _ _ (fun x hx => y7 _ (by omega) (by omega))
  have eF : ∀ w, fnd m' v w = fnd m v w := fun w => by
    unfold fnd
    rw [y3]
    exact scx_cg (fun j a b => by rw [eA j a b])
  have eC : chkL m' v ↔ chkL m v := by
    unfold chkL
    rw [eF, y3]
    constructor
    · intro z; exact ⟨z.1, (eV _ (scx_ge _ _) z.1).symm.trans z.2⟩
    · intro z; exact ⟨z.1, (eV _ (scx_ge _ _) z.1).trans z.2⟩
  unfold ND
  rw [n1 0 (by omega), n1 1 (by omega), n1 12 (by omega), n1 15 (by omega), n1 16 (by omega), y1, y2, y3, y4, y5, y6, eN]
  refine ⟨h1, h2, h3, fun a a0 a1 => ?_, fun z => ?_, fun z => ?_, h7⟩
  · obtain ⟨q1, q2, q3, q4, q5, q6⟩ := h4 a a0 a1
    have y8' := y8 (4 * v + a) (by omega) (by omega)
    unfold NA
    rw [y8'.1, y8'.2, n2, eA a a0 a1, eV a a0 a1, n3 _ (by omega) (by omega)]
    exact ⟨q1, q2, q3, q4, q5, q6⟩
  · have ht := h5 z
    have e : txL m' v = txL m v := by
      unfold txL
      rw [y4]
      exact sg_cg _ _ _ (fun x hx => y11 _ (by omega) (by omega))
    rw [e, n3 _ (by omega) (by omega)]
    exact ht
  · have ht := h6 z
    have e : vaL m' v = vaL m v := by
      unfold vaL
      rw [y5]
      exact sg_cg _ _ _ (fun x hx => y12 _ (by omega) (by omega))
    rw [e, n3 _ (by omega) (by omega)]
    refine ⟨ht.1, ht.2.1, ht.2.2.1, ht.2.2.2.1, ht.2.2.2.2.1, ?_⟩
    rcases ht.2.2.2.2.2 with c | c
    · exact .inl ⟨c.1, eC.mpr c.2⟩
    · exact .inr ⟨c.1, fun z => c.2 (eC.mp z)⟩
/-- rows of bytes that are no node's have changed -/
theorem NG.fb {S : Int → Prop} (h : FB S n n') (hB : BI A B n) (hS : ∀ x, S x → 605 ≤ x ∧ x ≤ 631) (hv : 0 ≤ v ∧ v < 120) : NG n n' v := by
  refine ⟨fun s _ => by rw [h.1 7 (by decide) (by decide) (by decide) (by decide) (by decide) (by decide)], by rw [h.1 18 (by decide) (by decide) (by decide) (by decide) (by decide) (by decide)], fun b b0 b1 => (h.bts hB (by omega) (fun z => by have := hS b z; omega) (fun x hx => by have := hS x hx; omega)).2.2⟩
end D6b
