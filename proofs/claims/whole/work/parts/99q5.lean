/-! DEFAULTS: a link -/
section Q5
variable {n n' n'' n2 : NS} {m m' m'' m0 m2 : YS} {A B N N' k b a δ δ' fr to d L r r' x f v c i M kf G G' c0 WW u0 : Int} {o e p o' e' p' κ g : Int → Int} {As Bs W S : Int → Prop}
theorem aim_off (h : JA As Bs A B 0 G n m) (hT : JTr n m N o e p) (k0 : 0 ≤ k) (k1 : k < N) (hk : o k = v) (ha : 0 ≤ a ∧ a < m 56 v) :
    DFR As Bs A B G n m ((N_Net_aim (n 4 (5 * v + 1 + a) 1) 0 (n 4 (5 * v + 1 + a) 2) n).bind (u2 fun _ n21 => some n21)) ((N_Y_refer 59 (60 * (4 * v + a)) (60 * (4 * v + a) + m 60 (4 * v + a)) 1 m).bind (u2 fun z24 m27 => if z24 = 0 then some m27 else N_Y_visitResult m27)) := by
  have hvb := hT.1.1.1.oB k0 k1
  rw [hk] at hvb
  have hd := hT.1.2.2.2 k k0 k1
  rw [hk] at hd
  have h4 := hd.2.2.1.2.2
  obtain ⟨x1, x2, x3, x4, x5⟩ := attr_tx h.bi hd hvb ha
  obtain ⟨κ, N0, o0, e0, p0, hJN, _⟩ := id h
  have hA := hJN.1.2.1.1
  have h84 := hJN.1.2.1.2.2.1.2.2.1
  have hty : n 92 0 1584 = 101 := (hA 1584 h84).1.2.1
  obtain ⟨z, n', m', w1, w2, w3, w4, ⟨s, t, w5, w6⟩, w7, w8⟩ := read_off (F := 59) (b := 60 * (4 * v + a)) (fr := 0) (to := m 60 (4 * v + a)) (L := m 60 (4 * v + a)) hJN x1 (fun w => (hA 1584 h84).2.1 (5 * v + 1 + a) (by omega) (by omega) w.symm) (by decide) ⟨Int.le_refl _, x3.1, Int.le_refl _, by omega⟩ ⟨by omega, by show _ ≤ (28800 : Int); omega, by omega⟩ (fun j j0 j1 => x4 j j0 j1)
  rw [show 60 * (4 * v + a) + 0 = 60 * (4 * v + a) by omega] at w2
  have kK : ∀ K, K ≠ 99 → n' K = n K := fun K hK => by rw [w6]; exact aw_K hK
  have hS : FS (fun x => x = 607) n n' := by rw [w6]; exact FS.aw hA h84 hJN.1.1
  have jA' : JA As Bs A B 0 (G + 6) n' m' := h.net w4 (fun K c => kK K (fun w => c (by rw [w]; decide))) (by rw [kK 6 (by decide)]) hS (fun f hf => w7 f (by omega)) (by rw [w7 35 (by decide)]; omega)
  have fA' : FA n n' m m' := FA.net (fun K c => kK K (fun w => c (by rw [w]; decide))) (by rw [kK 6 (by decide)]) hS (fun f a _ _ _ _ _ _ => w7 f a)
  have fD' : FD n n' m m' := fA'.fd (kK 0 (by decide)) (fun g a _ _ => w7 g (by omega))
  have eC : N_Net_aim (n 4 (5 * v + 1 + a) 1) 0 (n 4 (5 * v + 1 + a) 2) n = if z = 0 then some (0, n') else (N_Net_setOff n').bind fun n15 => some (1, n15) := by
    unfold N_Net_aim ty
    rw [if_pos hty, x2, w1]
    rfl
  rw [eC, w2]
  simp only [Option.bind_some, u2]
  rcases w3 with hz | ⟨hz, hAR⟩
  · rw [if_pos hz, if_pos hz]
    exact .inl ⟨n', m', rfl, rfl, jA'.mono (by omega), fD'.fe⟩
  · rw [if_neg (by omega), if_neg (by omega)]
    obtain ⟨κ2, N2, o2, e2, p2, h2, _⟩ := id jA'
    rcases setOff_both h2 hAR with ⟨n2, m2, y1, y2, y3, y4, y5, y6, y7, y8, y9⟩ | ⟨y1, y2⟩
    · refine .inl ⟨n2, m2, by rw [y1]; rfl, y2, ?_, (fD'.trans ?_).fe⟩
      · exact (jA'.net y3 (fun K c => y6 K (fun w => c (by rw [w]; decide)) (fun w => c (by rw [w]; decide)) (fun w => c (by rw [w]; decide))) (y7 8 (by decide) (by decide)) (y8.wid (fun _ h => h.elim)) (fun f hf => y9 f (by simp only [List.mem_cons, List.not_mem_nil, or_false, not_or]; omega)) (by rw [y9 35 (by decide)]; omega)).mono (by omega)
      · refine FA.fd (FA.net (fun K c => y6 K (fun w => c (by rw [w]; decide)) (fun w => c (by rw [w]; decide)) (fun w => c (by rw [w]; decide))) y4 (y8.wid (fun _ h => h.elim)) (fun f a _ _ _ _ b c => y9 f (by simp only [List.mem_cons, List.not_mem_nil, or_false, not_or]; omega))) (y6 0 (by decide) (by decide) (by decide)) (fun f a _ _ => y9 f (by simp only [List.mem_cons, List.not_mem_nil, or_false, not_or]; omega))
    · exact .inr ⟨n', m', by rw [y1]; rfl, y2, jA'.mono (by omega), fD'.fe, hAR⟩
end Q5
