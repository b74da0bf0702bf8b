/-! A FORM IS SENT, in both: all of it -/
section P7
variable {n n' n'' n2 : NS} {m m' m'' m0 m6 mR : YS} {A B N N' k b a δ δ' fr to d L r r' x f v c i z M kf G G' : Int} {o e p o' e' p' κ g : Int → Int} {As Bs W S : Int → Prop} {l l' acc nm q mk : List Int} {ss : List (List Int)} {X : Option NS} {Y : Option YS}
theorem qF_cg (hm : ∀ f, f = 46 ∨ (56 ≤ f ∧ f ≤ 60) ∨ (64 ≤ f ∧ f ≤ 66) → m' f = m f) : ∀ i : Nat, qF m' o kf i = qF m o kf i := by
  have e46 := hm 46 (by omega); have e56 := hm 56 (by omega); have e57 := hm 57 (by omega); have e58 := hm 58 (by omega); have e59 := hm 59 (by omega); have e60 := hm 60 (by omega); have e64 := hm 64 (by omega); have e65 := hm 65 (by omega); have e66 := hm 66 (by omega)
  have ea : ∀ acc v, qAdd m' acc v = qAdd m acc v := fun acc v => by
    unfold qAdd sndQ pieceQ chkL avL vaL fnd anL
    rw [e46, e56, e57, e58, e59, e60, e64, e65, e66]
  intro i
  induction i with
  | zero => rfl
  | succ i ih => show qAdd m' (qF m' o kf i) _ = qAdd m (qF m o kf i) _; rw [ih, ea]
theorem SNR.pre (h : SNR As Bs A B δ G n' m' X Y) (hF : FD n n' m m') (hG : G ≤ G') : SNR As Bs A B δ G' n m X Y := by
  rcases h with ⟨a, b, x1, x2, x3, x4⟩ | ⟨a, b, x1, x2, x3, x4, x5⟩
  · exact .inl ⟨a, b, x1, x2, x3.mono (by omega), hF.trans x4⟩
  · exact .inr ⟨a, b, x1, x2, x3.mono (by omega), hF.trans x4, x5⟩
theorem send_both (h : JA As Bs A B δ G n m) (hT : JTr n m N o e p) (k0 : 0 ≤ kf) (k1 : kf < N) (hN : NIB m) : SNR As Bs A B δ G n m (N_Acts_send (o kf) n) (N_Y_sendForm (o kf) m) := by
  have hG := hT.1.1.1
  have hvf := hG.oB k0 k1
  have hEb := hG.eB k0 k1
  generalize hm2 : yw m 183 0 0 = m2
  have y2 : ∀ g, g ≠ 183 → m2 g = m g := fun g hg => by rw [← hm2, yw_nF hg]
  have e2 : m2 183 0 = 0 := by rw [← hm2, yw_eq]
  have hT2 : JTr n m2 N o e p := hT.cg (fun _ _ => rfl) (fun _ _ _ => rfl) (fun g a b => y2 g (by omega))
  have hN2 : NIB m2 := hN.fp h.born (FP.of (fun g a b => y2 g (by omega)))
  obtain ⟨m5, e5, q5⟩ := y_form7 hT2.1 hN2 k0 k1 e2
  have y5 : ∀ g, g ≠ 182 → g ≠ 183 → m5 g = m g := fun g u z => by rw [q5.1 g (by simp only [List.mem_cons, List.not_mem_nil, or_false, not_or]; exact ⟨u, z⟩), y2 g z]
  have hT5 : JTr n m5 N o e p := hT.cg (fun _ _ => rfl) (fun _ _ _ => rfl) (fun g a b => y5 g (by omega) (by omega))
  have hN5 : NIB m5 := hN.fp h.born (FP.of (fun g a b => y5 g (by omega) (by omega)))
  have hq5 : qF m2 o kf (e kf - kf).toNat = qF m5 o kf (e kf - kf).toNat := (qF_cg (fun f hf => by rw [y5 f (by omega) (by omega), y2 f (by omega)]) _).symm
  have hys : ys m5 182 183 = qF m5 o kf (e kf - kf).toNat := by
    rw [q5.2.1, hq5]
    have : ys m2 182 183 = [] := by unfold ys; rw [e2]; rfl
    rw [this, List.nil_append]
  have hlen := qF_len hT2.1 k0 (e kf - kf).toNat (by omega)
  have hqb := qF_b hT2.1 hN2 k0 (i := (e kf - kf).toNat) (by omega)
  have h183 : 0 ≤ m5 183 0 ∧ m5 183 0 ≤ 4000 := by rw [q5.2.2, e2]; omega
  have j5 : JA As Bs A B δ G n m5 := h.cg (fun _ _ _ _ => rfl) (fun _ _ => rfl) (fun _ _ => rfl) (fun g hg => y5 g (fun w => hg (by rw [w]; decide)) (fun w => hg (by rw [w]; decide)))
  have fd5 : FD n n m m5 := ⟨FC.k0 (fun _ _ _ _ => rfl) (fun _ _ => rfl) (fun g a b => y5 g (by omega) (by omega)) (fun g a => y5 g (by omega) (by omega)) (.inr (by rw [y5 126 (by decide) (by decide)])), FP.of (fun g a b => y5 g (by omega) (by omega)), rfl, rfl, rfl, rfl, fun g _ b c => y5 g b c⟩
  obtain ⟨κ, N0, o0, e0, p0, hJN, _⟩ := id j5
  obtain ⟨hJe, hH, hP⟩ := id hJN
  have hA := hJe.2.1.1
  have hbs := hJe.2.1.2.1
  have h84 := hJe.2.1.2.2.1.2.2.1
  have h82 := hJe.2.1.2.2.1.2.1
  have hty : n 92 0 1584 = 101 := (hA 1584 h84).1.2.1
  have hd := hT.1.2.2.2 kf k0 k1
  have hd5 := hT5.1.2.2.2 kf k0 k1
  have f0 := fnd_b (m := m5) (f := o kf) (w := wAct)
  have epk : N_Bytes_pack_1 1000028 n = some (pk wAct) := cs_packW okS28 (by decide) (by decide)
  have er : N_Node_read (o kf) 1000028 n = some (if fnd m5 (o kf) wAct < m5 56 (o kf) then 5 * o kf + 1 + fnd m5 (o kf) wAct else -1) := by
    unfold N_Node_read
    rw [epk]
    simp only [Option.bind_some]
    rw [c_find hd5 (by decide : ∀ c ∈ wAct, isBt c)]
    simp only [Option.bind_some]
    split
    · rw [if_neg (by omega)]
    · rw [if_pos (by decide)]
  have ea : N_Y_attributeOf (o kf) 485806177 m5 = some (if fnd m5 (o kf) wAct < m5 56 (o kf) then 4 * o kf + fnd m5 (o kf) wAct else -1) := by
    rw [y_find hd5 hvf (by decide), show wl 485806177 = wAct by decide]
  have hix : ∀ {α : Type} (x : Option α), ix (o kf) 120 x = x := fun x => by unfold ix; rw [if_pos hvf]
  have htyx : ∀ {α : Type} (x : Option α), ty n 1584 101 x = x := fun x => by unfold ty; rw [if_pos hty]
  have eC : N_Acts_send (o kf) n = if fnd m5 (o kf) wAct < m5 56 (o kf) then nn (n 4 (5 * o kf + 1 + fnd m5 (o kf) wAct) 1) ((N_Address_read 1584 (n 4 (5 * o kf + 1 + fnd m5 (o kf) wAct) 1) 0 (n 4 (5 * o kf + 1 + fnd m5 (o kf) wAct) 2) 1582 n).bind (u2 fun z21 n24 => if z21 = 0 then some n24 else nk_Acts_send_70 (o kf) n24)) else (N_Address_copy 1584 1582 n).bind fun n37 => nk_Acts_send_70 (o kf) n37 := by
    unfold N_Acts_send
    rw [hix, er]
    simp only [Option.bind_some, htyx]
    by_cases hf : fnd m5 (o kf) wAct < m5 56 (o kf)
    · rw [if_pos hf, if_pos hf, if_neg (by omega)]
    · rw [if_neg hf, if_neg hf, if_pos (by decide)]
  have eY : N_Y_sendForm (o kf) m = if fnd m5 (o kf) wAct < m5 56 (o kf) then (ck (60 * (4 * o kf + fnd m5 (o kf) wAct)) <| ck (60 * (4 * o kf + fnd m5 (o kf) wAct)) <| ix (4 * o kf + fnd m5 (o kf) wAct) 480 <| ck ((60 * (4 * o kf + fnd m5 (o kf) wAct)) + (m5 60 (4 * o kf + fnd m5 (o kf) wAct))) <| (N_Y_refer 59 (60 * (4 * o kf + fnd m5 (o kf) wAct)) ((60 * (4 * o kf + fnd m5 (o kf) wAct)) + (m5 60 (4 * o kf + fnd m5 (o kf) wAct))) 1 m5).bind <| u2 fun z26 m29 => if z26 = 0 then some m29 else nk_Y_sendForm_312 m29) else (N_Y_copyRow 0 1 m5).bind fun m15 => nk_Y_sendForm_312 m15 := by
    unfold N_Y_sendForm st
    dsimp only
    rw [hm2, e5]
    simp only [Option.bind_some]
    rw [ea]
    simp only [Option.bind_some]
    by_cases hf : fnd m5 (o kf) wAct < m5 56 (o kf)
    · rw [if_pos hf, if_pos hf, if_neg (by omega)]
    · rw [if_neg hf, if_neg hf, if_pos rfl]
  rw [eC, eY]
  -- from the ADDRESS on
  have tail : ∀ n24 m29, JA As Bs A B δ (G + 6) n24 m29 → AR n24 m29 1584 0 → (∀ K, K ≠ 99 → n24 K = n K) → FS (fun x => x = 607) n n24 → (∀ g, ¬ (6 ≤ g ∧ g ≤ 15) → m29 g = m5 g) → FD n n24 m5 m29 → SNR As Bs A B δ G n m (nk_Acts_send_70 (o kf) n24) (nk_Y_sendForm_312 m29) := fun n24 m29 t1 t2 t3 t4 t5 t6 => by
    have hT9 : JTr n24 m29 N o e p := hT5.cg (fun K c => t3 K (by omega)) (fun b x y => t4.bt (by omega) (by omega)) (fun g a b => t5 g (by omega))
    have hN9 : NIB m29 := hN5.fp j5.born (FP.of (fun g a b => t5 g (by omega)))
    have := send_tail (G := G + 10) (t1.mono (by omega)) t2 hT9 k0 k1 hN9 (by
      have e1 : ys m29 182 183 = ys m5 182 183 := by unfold ys; rw [t5 182 (by decide), t5 183 (by decide)]
      rw [e1, hys]
      exact (qF_cg (fun f hf => t5 f (by omega)) _).symm) (by rw [t5 183 (by decide)]; exact h183)
    exact this.pre (fd5.trans t6) (by omega)
  by_cases hf : fnd m5 (o kf) wAct < m5 56 (o kf)
  · rw [if_pos hf, if_pos hf]
    have h4 := hd5.2.2.1.2.2
    obtain ⟨x1, x2, x3, x4, x5⟩ := attr_tx h.bi hd5 hvf ⟨f0, hf⟩
    generalize hA4 : 4 * o kf + fnd m5 (o kf) wAct = a4 at *
    obtain ⟨z, n', m', w1, w2, w3, w4, ⟨s, t, w5, w6⟩, w7, w8⟩ := read_off (F := 59) (b := 60 * a4) (fr := 0) (to := m5 60 a4) (L := m5 60 a4) hJN x1 (fun w => (hA 1584 h84).2.1 (5 * o kf + 1 + fnd m5 (o kf) wAct) (by omega) (by omega) w.symm) (by decide) ⟨Int.le_refl _, x3.1, Int.le_refl _, by omega⟩ ⟨by omega, by show _ ≤ (28800 : Int); omega, by omega⟩ (fun j j0 j1 => x4 j j0 j1)
    rw [show 60 * a4 + 0 = 60 * a4 by omega] at w2
    have kK : ∀ K, K ≠ 99 → n' K = n K := fun K hK => by rw [w6]; exact aw_K hK
    have hS : FS (fun x => x = 607) n n' := by rw [w6]; exact FS.aw hA h84 hJe.1
    have jA' : JA As Bs A B δ (G + 6) n' m' := j5.net w4 (fun K c => kK K (fun w => c (by rw [w]; decide))) (by rw [kK 6 (by decide)]) hS (fun f hf => w7 f (by omega)) (by rw [w7 35 (by decide)]; omega)
    have fA' : FA n n' m5 m' := FA.net (fun K c => kK K (fun w => c (by rw [w]; decide))) (by rw [kK 6 (by decide)]) hS (fun f a _ _ _ _ _ _ => w7 f a)
    have fD' : FD n n' m5 m' := fA'.fd (kK 0 (by decide)) (fun g a _ _ => w7 g (by omega))
    unfold nn ck ix
    rw [if_pos x5, x2, w1, if_pos (by omega), if_pos (by omega), if_pos (by omega), if_pos (by omega), w2]
    simp only [Option.bind_some, u2]
    rcases w3 with hz | ⟨hz, hAR⟩
    · rw [if_pos hz, if_pos hz]
      exact .inl ⟨n', m', rfl, rfl, jA'.mono (by omega), fd5.trans fD'⟩
    · rw [if_neg (by omega), if_neg (by omega)]
      exact tail n' m' jA' hAR kK hS w7 fD'
  · rw [if_neg hf, if_neg hf]
    obtain ⟨nm, ss, q, mk, hW, hC, hR⟩ := id hP
    obtain ⟨n37, ec, s, t', hs0, en, hCs⟩ := c_copy hA h84 h82 (by decide) hC hW
    obtain ⟨m15, ey, y15⟩ := y_copyRow (m := m5) (to := 0) (fr := 1) (by decide) (by decide) (by decide)
    have hne := (hA 1584 h84).1.ne
    have fq : FQ As Bs (fun x => x = 1584) n n37 := by rw [en]; exact FQ.aw hA hbs h84 rfl hs0
    have kK : ∀ K, K ≠ 99 → n37 K = n K := fun K hK => by rw [en]; exact aw_K hK
    have hS : FS (fun x => x = 607) n n37 := by rw [en]; exact FS.aw hA h84 hJe.1
    have hB37 : BI A B n37 := by rw [en]; exact hJe.1.aw
    have f15 : ∀ g, ¬ (6 ≤ g ∧ g ≤ 15) → m15 g = m5 g := fun g a => y15.1 g (by simp only [List.mem_cons, List.not_mem_nil, or_false, not_or]; omega)
    have r15 : ∀ r, r ≠ 0 → RwE m5 m15 r := fun r hr => RwE.cp y15 hr
    have jN : JNt κ As Bs A B n37 m15 := ⟨hJe.cg hB37 fq (by rw [en]; exact FQ7.aw hA h84) (fun a ha => by omega) (fun K hK => kK K (by omega)) (fun s hs => by rw [kK 6 (by decide)]) (by rw [en, hA.bts hJe.1 h84 (b := 607) (by omega)]) (fun f a b => f15 f (by omega)) (fun r hr => r15 r (by omega)), hH.cg fq (fun x hx => by unfold hiA; omega) (by rw [kK 6 (by decide)]; exact ⟨rfl, rfl⟩) (kK 27 (by decide)) ⟨f15 148 (by decide), f15 149 (by decide)⟩ (fun r a b => r15 r (by omega)), hP.fq fq h82 (by decide) (r15 1 (by decide))⟩
    have jA' : JA As Bs A B δ (G + 6) n37 m15 := j5.net jN (fun K c => kK K (fun w => c (by rw [w]; decide))) (by rw [kK 6 (by decide)]) hS (fun f hf => f15 f (by omega)) (by rw [f15 35 (by decide)]; omega)
    have fA' : FA n n37 m5 m15 := FA.net (fun K c => kK K (fun w => c (by rw [w]; decide))) (by rw [kK 6 (by decide)]) hS (fun f a _ _ _ _ _ _ => f15 f a)
    rw [ec, ey]
    simp only [Option.bind_some]
    exact tail n37 m15 jA' ⟨nm, ss, q, mk, hW, by unfold CA; rw [en, aw_a hne, hs0, aw_T]; exact hCs, y15.made hR hW⟩ kK hS f15 (fA'.fd (kK 0 (by decide)) (fun g a _ _ => f15 g (by omega)))
end P7
