/-! A PAGE IS LOADED, as a turn of settle -/
def PGS (n : NS) : Prop := n 0 0 12 = 0 ∧ n 0 0 15 = 0 ∧ n 0 0 18 = 0 ∧ n 4 609 2 = 0
section N7
variable {n n' n'' : NS} {m m' m'' : YS} {A B N N' k v b a δ δ' G G' fr to d L r r' q c : Int} {o e p o' e' p' : Int → Int} {As Bs W S : Int → Prop} {κ κ' : Int → Int}
theorem JNt.ks (h : JNt κ As Bs A B n m) (hK : ∀ K, K ≠ 0 → n' K = n K) : JNt κ As Bs A B n' m := by
  obtain ⟨hJ, hH, hP⟩ := h
  have fq : FQ As Bs (fun _ => False) n n' := FQ.ks (fun K hK' => hK K (by omega))
  have hB' : BI A B n' := hJ.1.cg (hK 4 (by decide)) (by rw [hK 5 (by decide)]; exact ⟨rfl, rfl⟩) (hK 90 (by decide)) (hK 91 (by decide)) (hK 92 (by decide)) (hK 93 (by decide))
  exact ⟨hJ.cg hB' fq (FQ7.ks (hK 99 (by decide))) (fun _ h => h.elim) (fun K hK' => hK K (by omega)) (fun s hs => by rw [hK 6 (by decide)]) ((FS.ks (S := fun _ => False) (hK 4 (by decide)) (hK 99 (by decide))).bt (by omega) (fun h => h)) (fun _ _ _ => rfl) (fun x _ => RwE.refl m x), hH.cg fq (fun _ h => h.elim) (by rw [hK 6 (by decide)]; exact ⟨rfl, rfl⟩) (hK 27 (by decide)) ⟨rfl, rfl⟩ (fun x _ _ => RwE.refl m x), hP.fq fq hJ.2.1.2.2.1.2.1 (fun h => h.elim) (RwE.refl m 1)⟩
theorem load_turn (h : JA As Bs A B δ G n m) (hG : G < 500000000) (hAR : AR n m 1584 0) (h16 : n 6 0 16 = 1 ∨ n 6 0 16 = 2) (hc : 0 ≤ c ∧ c < 1000000) :
    ∃ n' m' N o e p, nb_Acts_settle_2 c n = some (.inl (c + 1, n')) ∧ (if n 6 0 16 = 1 then (N_Y_goTo m).bind N_Y_remember else N_Y_goTo m) = some m' ∧ JA As Bs A B δ (G + 2100) n' m' ∧ JTr n' m' N o e p ∧ CWY n' m' N o ∧ PGS n' ∧ FC n n' m m' ∧ (∀ s, s ∉ [5, 6, 12, 15, 16, 18] → n' 0 0 s = n 0 0 s) ∧ n' 6 0 16 = 0 ∧ (m' 152 0 = 1 ∧ m' 153 0 = 1) ∧ FLy m m' ∧ wtS m' ≤ 1284 ∧ m' 46 0 ≠ 17 := by
  obtain ⟨κ, N, o, e, p, h1, h2, h3, ⟨h4, h4'⟩, h5, h6, h7, h8⟩ := h
  obtain ⟨a, n1, n2, m', κ', N', o', e', p', x1, x2, x3, x4, x5, x6, x7, x8, x9, x10, x11, x12⟩ := load_both h1 hAR h3 (by have := h8.2.2.1; omega) h16 ⟨h2.2.2.2, by have := h8.1; omega, h2.1.1.2.2.2.2.2.2.2.2, by have := h8.2.1; omega⟩ h2.1.1.2.2.2.2.2.2.2.1 h2.1.2.2.1.1
  have y : ∀ f, ¬ (6 ≤ f ∧ f ≤ 8) → ¬ (17 ≤ f ∧ f ≤ 18) → ¬ (23 ≤ f ∧ f ≤ 24) → ¬ (26 ≤ f ∧ f ≤ 37) → ¬ (44 ≤ f ∧ f ≤ 88) → f ≠ 126 → f ≠ 148 → f ≠ 149 → f ≠ 150 → f ≠ 152 → f ≠ 153 → f ≠ 166 → m' f = m f := x8
  have kn : ∀ K, K ∉ [4, 6, 7, 8, 10, 18, 22, 24, 25, 27, 28, 29, 30, 31, 90, 91, 92, 93, 99] → n2 K = n K := x7.1
  generalize hn7 : nw (nw n2 0 0 6 (-1)) 0 0 5 0 = n7
  have k7 : ∀ K, K ≠ 0 → n7 K = n2 K := fun K hK => by rw [← hn7, nw_nK hK, nw_nK hK]
  have s7 : ∀ s, s ≠ 5 → s ≠ 6 → n7 0 0 s = n 0 0 s := fun s u w => by rw [← hn7, nw_ns u, nw_ns w, kn 0 (by decide)]
  have jA : JA As Bs A B δ (G + 2100) n7 m' := by
    refine ⟨κ', N', o', e', p', x5.ks k7, x6.ks (fun K hK => k7 K (by omega)), fun k a b => by rw [k7 21 (by decide), kn 21 (by decide)]; exact h3 k a b, ⟨?_, fun i a b => by rw [x10.2.2.1] at b; omega⟩, ?_, ?_, .inl ⟨?_, x10.2.1⟩, ?_⟩
    · obtain ⟨t1, t2, t3, t4, t5, t6⟩ := h4
      refine ⟨⟨by rw [← hn7, nw_eq, x10.2.2.1], by rw [x10.2.2.1]; decide, by rw [x10.2.2.1]; decide⟩, ?_, ?_, fun i a b => by rw [x10.2.2.1] at b; omega, fun i j a b c => by rw [x10.2.2.1] at c; omega, ?_⟩
      · rw [k7 45 (by decide), kn 45 (by decide)]; exact t2
      · rw [k7 45 (by decide), kn 45 (by decide)]; exact t3
      · rw [y 167 (by decide) (by decide) (by decide) (by decide) (by decide) (by decide) (by decide) (by decide) (by decide) (by decide) (by decide) (by decide)]; exact t6
    · exact h5.cg (by rw [k7 26 (by decide), kn 26 (by decide)]) (by rw [k7 6 (by decide)]; exact x7.2.1 8 (by decide)) (fun f a b => y f (by omega) (by omega) (by omega) (by omega) (by omega) (by omega) (by omega) (by omega) (by omega) (by omega) (by omega) (by omega))
    · unfold JCt at *
      rw [s7 7 (by decide) (by decide), s7 8 (by decide) (by decide), s7 10 (by decide) (by decide), y 155 (by decide) (by decide) (by decide) (by decide) (by decide) (by decide) (by decide) (by decide) (by decide) (by decide) (by decide) (by decide), y 156 (by decide) (by decide) (by decide) (by decide) (by decide) (by decide) (by decide) (by decide) (by decide) (by decide) (by decide) (by decide), y 157 (by decide) (by decide) (by decide) (by decide) (by decide) (by decide) (by decide) (by decide) (by decide) (by decide) (by decide) (by decide)]; exact h6
    · rw [← hn7, nw_ns (by decide), nw_eq]
    · unfold gB at *
      rw [k7 10 (by decide), y 155 (by decide) (by decide) (by decide) (by decide) (by decide) (by decide) (by decide) (by decide) (by decide) (by decide) (by decide) (by decide), y 156 (by decide) (by decide) (by decide) (by decide) (by decide) (by decide) (by decide) (by decide) (by decide) (by decide) (by decide) (by decide), y 157 (by decide) (by decide) (by decide) (by decide) (by decide) (by decide) (by decide) (by decide) (by decide) (by decide) (by decide) (by decide), y 167 (by decide) (by decide) (by decide) (by decide) (by decide) (by decide) (by decide) (by decide) (by decide) (by decide) (by decide) (by decide)]
      omega
  have fc : FC n n2 m m' := by
    refine ⟨⟨fun K c => kn K (by simp only [List.mem_cons, List.not_mem_nil, or_false, not_or] at c ⊢; omega), x7.2.2.wid (fun x hx => by omega), fun s _ => by rw [kn 0 (by decide)]⟩, fun f hf => y f (by omega) (by omega) (by omega) (by omega) (by omega) (by omega) (by omega) (by omega) (by omega) (by omega) (by omega) (by omega), .inl x11.2.1, .inl x10.2.2.2.1⟩
  obtain ⟨n', N9, o9, e9, p9, z1, z2, z3, z4, z5, z6, z7, z8⟩ := startPage_c (n := n2) (m := m') (by rw [hn7]; exact jA) (by omega)
  refine ⟨n', m', N9, o9, e9, p9, ?_, x4, z2, z3, z4, ⟨z5.2.2.1, z5.2.2.2.1, z5.2.2.2.2.1, z5.2.2.2.2.2⟩, fc.trans z6, fun s hs => by rw [z7 s hs, kn 0 (by decide)], by rw [z8]; exact x10.1, ⟨x10.2.2.2.2.2, x10.2.2.2.2.1⟩, x8, x12⟩
  unfold nb_Acts_settle_2
  rw [if_pos hc.2, if_neg (by omega), x1]
  simp only [Option.bind_some, u2]
  unfold ty nn ck
  rw [if_pos x2.1, if_pos x2.2.1, if_pos x2.1, if_pos x2.2.1, if_pos x2.2.2.1, if_pos (by have := x2.2.2.2; omega), x3]
  simp only [Option.bind_some]
  rw [z1]
  simp only [Option.bind_some]
  rw [if_pos (by omega)]
end N7
