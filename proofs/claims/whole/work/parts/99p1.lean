/-! A FORM IS SENT: the query, in both -/
def sndQ (m : YS) (v : Int) : Prop := m 46 v = 13 ∧ fnd m v wNam < m 56 v ∧ nmQ (m 59) (60 * (4 * v + fnd m v wNam)) (m 60 (4 * v + fnd m v wNam)) ∧ (¬ chkL m v ∨ m 66 v = 1)
noncomputable def pieceQ (m : YS) (v : Int) : List Int := avL m v (fnd m v wNam) ++ ([61] ++ @ite _ (chkL m v) (Classical.propDecidable _) [111, 110] (vmp (vaL m v)))
noncomputable def qAdd (m : YS) (acc : List Int) (v : Int) : List Int := @ite _ (sndQ m v) (Classical.propDecidable _) (acc ++ ((if acc = [] then [] else [38]) ++ pieceQ m v)) acc
noncomputable def qF (m : YS) (o : Int → Int) (kf : Int) : Nat → List Int
  | 0 => []
  | i + 1 => qAdd m (qF m o kf i) (o (kf + i))
section P1
variable {n n' n'' n2 : NS} {m m' m'' m0 m6 mR : YS} {A B N N' k b a δ δ' fr to d L r r' q x f v c i z M kf : Int} {o e p o' e' p' κ g : Int → Int} {As Bs W S : Int → Prop} {l l' acc : List Int}
theorem piece_len (hd : ND n m v) (h : sndQ m v) : (pieceQ m v).length ≤ 33 ∧ 1 ≤ (pieceQ m v).length := by
  have f0 := fnd_b (m := m) (f := v) (w := wNam)
  obtain ⟨h13, h2, h3, _⟩ := h
  have ha := hd.2.2.2.1 _ f0 h2
  have h65 := (hd.2.2.2.2.2.1 h13).1
  have e1 : (avL m v (fnd m v wNam)).length = (m 60 (4 * v + fnd m v wNam)).toNat := by unfold avL; rw [sg_len]
  have e2 : (@ite _ (chkL m v) (Classical.propDecidable _) [111, 110] (vmp (vaL m v))).length ≤ 24 := by
    split
    · decide
    · have := vmp_len (vaL m v)
      have e3 : (vaL m v).length = (m 65 v).toNat := by unfold vaL; rw [sg_len]
      omega
  have := h3.1
  unfold pieceQ
  rw [List.length_append, List.length_append, e1]
  show _ + (1 + _) ≤ 33 ∧ _
  refine ⟨by omega, by show 1 ≤ _ + (1 + _); omega⟩
theorem qAdd_ne (hd : ND n m v) (h : sndQ m v) : qAdd m acc v = acc ++ ((if acc = [] then [] else [38]) ++ pieceQ m v) ∧ qAdd m acc v ≠ [] := by
  have := piece_len hd h
  have e : qAdd m acc v = acc ++ ((if acc = [] then [] else [38]) ++ pieceQ m v) := by unfold qAdd; rw [if_pos h]
  refine ⟨e, fun z => ?_⟩
  rw [e] at z
  have h0 : (acc ++ ((if acc = [] then [] else [38]) ++ pieceQ m v)).length = 0 := by rw [z]; rfl
  rw [List.length_append, List.length_append] at h0
  omega
theorem qF_len (hT : JT n m N o e p) (h0 : 0 ≤ kf) : ∀ i : Nat, kf + i ≤ N → ((qF m o kf i).length : Int) ≤ 34 * zsm (fun k => inN m (o k)) kf (kf + i) := by
  intro i
  induction i with
  | zero => intro _; show ((0 : Nat) : Int) ≤ _; rw [zsm_nil (by omega)]; decide
  | succ i ih =>
    intro hi
    have ih := ih (by omega)
    have hd := hT.2.2.2 (kf + i) (by omega) (by omega)
    have hv := hT.1.1.oB (k := kf + i) (by omega) (by omega)
    have h45 : m 45 (o (kf + i)) = 1 := (hT.1.2.2.2.1 _ hv.1 hv.2).2.1.mpr ⟨kf + i, by omega, by omega, rfl⟩
    have hb : 0 ≤ inN m (o (kf + i)) := by unfold inN; split <;> decide
    rw [show kf + ((i + 1 : Nat) : Int) = kf + i + 1 by omega, zsm_succ (by omega)]
    show ((qAdd m (qF m o kf i) (o (kf + i))).length : Int) ≤ _
    by_cases hs : sndQ m (o (kf + i))
    · have h1 : inN m (o (kf + i)) = 1 := by
        unfold inN
        have := hs.2.2.1.1
        rw [if_pos ⟨h45, hs.1, by unfold olS; rw [if_pos hs.2.1]; omega⟩]
      have hp := piece_len hd hs
      rw [(qAdd_ne hd hs).1, List.length_append, List.length_append, h1]
      have : (if qF m o kf i = [] then ([] : List Int) else [38]).length ≤ 1 := by split <;> decide
      omega
    · unfold qAdd
      rw [if_neg hs]; omega
theorem qF_b (hT : JT n m N o e p) (hN : NIB m) (h0 : 0 ≤ kf) {i : Nat} (hi : kf + i ≤ N) : zsm (fun k => inN m (o k)) kf (kf + i) ≤ 116 := by
  have hG := hT.1.1
  have hN1 := hG.N1
  have b : ∀ v, 0 ≤ inN m v := fun v => by unfold inN; split <;> decide
  have e1 : zsm (fun k => inN m (o k)) 0 N = zsm (fun k => inN m (o k)) 0 kf + (zsm (fun k => inN m (o k)) kf (kf + i) + zsm (fun k => inN m (o k)) (kf + i) N) := by
    rw [zsm_add (a := 0) (b := kf) (c := N) h0 (by omega), zsm_add (a := kf) (b := kf + i) (c := N) (by omega) hi]
  have e2 := zsm_ge0 (f := fun k => inN m (o k)) (a := 0) (b := kf) (fun _ _ _ => b _) h0
  have e3 := zsm_ge0 (f := fun k => inN m (o k)) (a := kf + i) (b := N) (fun _ _ _ => b _) hi
  have e4 := zsm_ord (N := N) (o := o) (g := inN m) (f := inN m) (by omega) (fun k a b => hG.oB a b) (fun j k a b c d z => hG.inj a b c d z) (fun k _ _ => b _) (fun u _ _ => b _) (fun k _ _ => Int.le_refl _)
  have := hN.1
  unfold nin at this
  omega
/-- one node, in the reference -/
theorem y_form7 (hT : JT n m N o e p) (hN : NIB m) (k0 : 0 ≤ kf) (k1 : kf < N) (h183 : m 183 0 = 0) : ev (NL_Y_sendForm_7 (o kf) (o kf) m) (fun m' => QA m m' (qF m o kf (e kf - kf).toNat)) := by
  have hG := hT.1.1
  have hE := hG.eB k0 k1
  unfold NL_Y_sendForm_7
  refine ev_itg (I := fun (s : Int × YS) x => ∃ j, kf ≤ j ∧ j ≤ e kf ∧ x = e kf - j ∧ s.1 = (if j < e kf then o j else -1) ∧ QA m s.2 (qF m o kf (j - kf).toNat)) (fun s x hs => ?_) (x := e kf - kf) ⟨kf, Int.le_refl _, by omega, rfl, by show o kf = _; rw [if_pos hE.1], by rw [show (kf - kf).toNat = 0 by omega]; exact QA.nil m⟩
  obtain ⟨w, m1⟩ := s
  obtain ⟨j, j0, j1, hx, g4, g5⟩ := hs
  simp only at g4 g5
  show ev (nb_Y_sendForm_7 (o kf) w m1) _
  unfold nb_Y_sendForm_7
  by_cases hlt : j < e kf
  · rw [if_pos hlt] at g4
    subst g4
    have hjN : j < N := by omega
    have hv := hG.oB (k := j) (by omega) hjN
    have hd := hT.2.2.2 j (by omega) hjN
    have y1 : ∀ g, g ≠ 182 → g ≠ 183 → m1 g = m g := fun g u z => g5.1 g (by simp only [List.mem_cons, List.not_mem_nil, or_false, not_or]; exact ⟨u, z⟩)
    have hT1 : JT n m1 N o e p := hT.rk (FRk.refl n) (fun f a b => y1 f (by omega) (by omega))
    have hd1 := hT1.2.2.2 j (by omega) hjN
    have ej : (j - kf).toNat + 1 = (j + 1 - kf).toNat := by omega
    have ej2 : kf + (((j - kf).toNat : Nat) : Int) = j := by omega
    have eq1 : qF m o kf (j + 1 - kf).toNat = qAdd m (qF m o kf (j - kf).toNat) (o j) := by
      rw [← ej]
      show qAdd m (qF m o kf (j - kf).toNat) (o (kf + (((j - kf).toNat : Nat) : Int))) = _
      rw [ej2]
    have hlen := qF_len hT k0 (j - kf).toNat (by omega)
    have hlen1 := qF_len hT k0 (j + 1 - kf).toNat (by omega)
    have hb := qF_b hT hN k0 (i := (j + 1 - kf).toNat) (by omega)
    have hb0 := qF_b hT hN k0 (i := (j - kf).toNat) (by omega)
    have hsz := g5.2.2
    rw [h183] at hsz
    rw [if_neg (show ¬ o j = -1 by omega)]
    have next : ∀ m2, FY [182, 183] m m2 → QA m m2 (qF m o kf (j + 1 - kf).toNat) → ev (nk_Y_sendForm_251 (o kf) (o j) m2) (lg (fun (s : Int × YS) x => ∃ j, kf ≤ j ∧ j ≤ e kf ∧ x = e kf - j ∧ s.1 = (if j < e kf then o j else -1) ∧ QA m s.2 (qF m o kf (j - kf).toNat)) x (fun m' => QA m m' (qF m o kf (e kf - kf).toNat))) := fun m2 t1 t2 => by
      unfold nk_Y_sendForm_251
      have hT2 : JT n m2 N o e p := hT.rk (FRk.refl n) (fun f a b => t1 f (by simp only [List.mem_cons, List.not_mem_nil, or_false, not_or]; omega))
      rw [y_after hT2.1.1 (t := kf) (k := j) k0 j0 hlt k1]
      simp only [Option.bind_some]
      exact ev_gl (x' := e kf - (j + 1)) ⟨j + 1, by omega, by omega, rfl, rfl, t2⟩ (by omega) (by omega)
    have skip : ¬ sndQ m (o j) → ev (nk_Y_sendForm_251 (o kf) (o j) m1) (lg (fun (s : Int × YS) x => ∃ j, kf ≤ j ∧ j ≤ e kf ∧ x = e kf - j ∧ s.1 = (if j < e kf then o j else -1) ∧ QA m s.2 (qF m o kf (j - kf).toNat)) x (fun m' => QA m m' (qF m o kf (e kf - kf).toNat))) := fun hs => by
      refine next m1 g5.1 ?_
      rw [eq1]
      unfold qAdd
      rw [if_neg hs]; exact g5
    refine ev_ix hv ?_
    rw [y1 46 (by decide) (by decide)]
    by_cases h13 : m 46 (o j) = 13
    · rw [if_pos h13, y_find hd1 hv (by decide)]
      simp only [Option.bind_some]
      have eF : fnd m1 (o j) (wl 177198) = fnd m (o j) wNam := by
        rw [show wl 177198 = wNam by decide]
        unfold fnd anL
        rw [y1 56 (by decide) (by decide), y1 57 (by decide) (by decide), y1 58 (by decide) (by decide)]
      rw [eF, y1 56 (by decide) (by decide)]
      have f0 := fnd_b (m := m) (f := o j) (w := wNam)
      by_cases hf : fnd m (o j) wNam < m 56 (o j)
      · have ha := hd.2.2.2.1 _ f0 hf
        have h4 := hd.2.2.1.2.2
        rw [if_pos hf, if_neg (by omega)]
        have h60 := ha.2.2.2.1
        generalize hA4 : 4 * o j + fnd m (o j) wNam = a4 at *
        refine ev_ix (by omega) ?_
        rw [y1 60 (by decide) (by decide)]
        refine ev_if (fun h0 => skip (fun hs => by have := hs.2.2.1.1; rw [hA4] at this; omega)) (fun h0 => ?_)
        refine ev_ck (by omega) (ev_ck (by omega) (ev_ix (by omega) (ev_ck (by omega) ?_)))
        rw [ys_nameEnd (f := 59) (by show _ ≤ (28800 : Int); omega) (by omega) (by omega) (by omega)]
        simp only [Option.bind_some]
        refine ev_ck (by omega) (ev_ix (by omega) (ev_ck (by omega) ?_))
        rw [y1 59 (by decide) (by decide)]
        have hq := nmQ_y (g := m 59) (b := 60 * a4) (L := m 60 a4) h60.1
        refine ev_if (fun hE2 => ?_) (fun hE2 => skip (fun hs => by have := hs.2.2.1; rw [hA4] at this; exact hE2 (hq.mpr this).2))
        have hnq := hq.mp ⟨h0, hE2⟩
        have hATs : ATs n m1 (o j) := ⟨hd1.2.2.1, hd1.2.2.2.1⟩
        obtain ⟨ck, eck, hck⟩ := y_isCheck hATs hv (by rw [y1 46 (by decide) (by decide)]; exact h13)
        have hchk : chkL m1 (o j) ↔ chkL m (o j) := by
          unfold chkL fnd anL avL
          rw [y1 56 (by decide) (by decide), y1 57 (by decide) (by decide), y1 58 (by decide) (by decide), y1 59 (by decide) (by decide), y1 60 (by decide) (by decide)]
        rw [eck]
        simp only [Option.bind_some]
        have hin := hd.2.2.2.2.2.1 h13
        have send : (¬ chkL m (o j) ∨ m 66 (o j) = 1) → ev (nk_Y_sendForm_112 (o kf) (o j) a4 ck m1) (lg (fun (s : Int × YS) x => ∃ j, kf ≤ j ∧ j ≤ e kf ∧ x = e kf - j ∧ s.1 = (if j < e kf then o j else -1) ∧ QA m s.2 (qF m o kf (j - kf).toNat)) x (fun m' => QA m m' (qF m o kf (e kf - kf).toNat))) := fun hch => by
          have hs : sndQ m (o j) := ⟨h13, hf, by rw [hA4]; exact hnq, hch⟩
          have hqa := qAdd_ne (acc := qF m o kf (j - kf).toNat) hd hs
          have hpl := piece_len hd hs
          rw [eq1, hqa.1, List.length_append, List.length_append] at hlen1
          have body : ∀ m2, QA m m2 (qF m o kf (j - kf).toNat ++ (if qF m o kf (j - kf).toNat = [] then [] else [38])) → ev (nk_Y_sendForm_125 (o kf) (o j) a4 ck m2) (lg (fun (s : Int × YS) x => ∃ j, kf ≤ j ∧ j ≤ e kf ∧ x = e kf - j ∧ s.1 = (if j < e kf then o j else -1) ∧ QA m s.2 (qF m o kf (j - kf).toNat)) x (fun m' => QA m m' (qF m o kf (e kf - kf).toNat))) := fun m2 q2 => by
            have y2 : ∀ g, g ≠ 182 → g ≠ 183 → m2 g = m g := fun g u z => q2.1 g (by simp only [List.mem_cons, List.not_mem_nil, or_false, not_or]; exact ⟨u, z⟩)
            have s2 := q2.2.2
            rw [h183, List.length_append] at s2
            have epl : (pieceQ m (o j)).length = (m 60 a4).toNat + (1 + (@ite _ (chkL m (o j)) (Classical.propDecidable _) [111, 110] (vmp (vaL m (o j)))).length) := by
              unfold pieceQ avL
              rw [List.length_append, List.length_append, sg_len, hA4]; rfl
            unfold nk_Y_sendForm_125
            refine ev_bind (y_ask128 (m := m2) (a := a4) ⟨by omega, by rw [y2 60 (by decide) (by decide)]; omega⟩ (by omega) (by rw [y2 60 (by decide) (by decide)]; exact h60) (fun i i0 i1 => by
              rw [y2 60 (by decide) (by decide)] at i1
              rw [y2 59 (by decide) (by decide)]
              have := hnq.2.2 i i0 i1
              unfold isNm at this; omega)) (fun m3 h3 => ?_)
            rw [y2 59 (by decide) (by decide), y2 60 (by decide) (by decide)] at h3
            have s3 := h3.2.2
            rw [sg_len] at s3
            obtain ⟨m5, e5, q5⟩ := y_ask (m := m3) (c := 61) ⟨by omega, by omega⟩ (by decide)
            rw [e5]
            simp only [Option.bind_some]
            have s5 := q5.2.2
            have q35 := (q2.trans h3).trans q5
            have y5 : ∀ g, g ≠ 182 → g ≠ 183 → m5 g = m g := fun g u z => q35.1 g (by simp only [List.mem_cons, List.not_mem_nil, or_false, not_or]; exact ⟨u, z⟩)
            have s5 : m5 183 0 = m3 183 0 + 1 := s5
            have fin : ∀ m9, QA m5 m9 (@ite _ (chkL m (o j)) (Classical.propDecidable _) [111, 110] (vmp (vaL m (o j)))) → ev (nk_Y_sendForm_251 (o kf) (o j) m9) (lg (fun (s : Int × YS) x => ∃ j, kf ≤ j ∧ j ≤ e kf ∧ x = e kf - j ∧ s.1 = (if j < e kf then o j else -1) ∧ QA m s.2 (qF m o kf (j - kf).toNat)) x (fun m' => QA m m' (qF m o kf (e kf - kf).toNat))) := fun m9 q9 => by
              have qq := q35.trans q9
              refine next m9 qq.1 ?_
              rw [eq1, hqa.1]
              have : pieceQ m (o j) = sg (m 59) (60 * a4) (m 60 a4).toNat ++ ([61] ++ @ite _ (chkL m (o j)) (Classical.propDecidable _) [111, 110] (vmp (vaL m (o j)))) := by
                unfold pieceQ avL
                rw [hA4]
              rw [this]
              simp only [List.append_assoc] at qq ⊢
              exact qq
            by_cases hcz : ck = 0
            · have hnc : ¬ chkL m (o j) := by
                rcases hck with ⟨y, _⟩ | ⟨_, y⟩
                · omega
                · exact fun w => y (hchk.mpr w)
              rw [if_pos hcz]
              have evl : vaL m5 (o j) = vaL m (o j) := by unfold vaL; rw [y5 64 (by decide) (by decide), y5 65 (by decide) (by decide)]
              have hvl := vmp_len (vaL m (o j))
              have e65 : (vaL m (o j)).length = (m 65 (o j)).toNat := by unfold vaL; rw [sg_len]
              refine ev_bind (y_ask190 (m := m5) (v := o j) ⟨by omega, ?_⟩ hv (by rw [y5 65 (by decide) (by decide)]; exact hin.1) (by rw [evl]; exact hin.2.1)) (fun m9 h9 => fin m9 ?_)
              · rw [y5 65 (by decide) (by decide)]
                omega
              · rw [if_neg hnc]
                rw [evl] at h9; exact h9
            · have hyc : chkL m (o j) := by
                rcases hck with ⟨_, y⟩ | ⟨y, _⟩
                · exact hchk.mp y
                · omega
              rw [if_neg hcz]
              rw [if_pos hyc] at epl
              have epl' : (pieceQ m (o j)).length = (m 60 a4).toNat + (1 + 2) := epl
              obtain ⟨m13, e13, q13⟩ := y_ask (m := m5) (c := 111) ⟨by omega, by omega⟩ (by decide)
              have s13 : m13 183 0 = m5 183 0 + 1 := q13.2.2
              obtain ⟨m17, e17, q17⟩ := y_ask (m := m13) (c := 110) ⟨by omega, by omega⟩ (by decide)
              rw [e13]
              simp only [Option.bind_some]
              rw [e17]
              simp only [Option.bind_some]
              refine fin m17 ?_
              rw [if_pos hyc]
              exact q13.trans q17
          unfold nk_Y_sendForm_112
          by_cases h0' : 0 < m1 183 0
          · rw [if_pos h0']
            have hne : qF m o kf (j - kf).toNat ≠ [] := fun w => by rw [w] at hsz; simp at hsz; omega
            rw [if_neg hne] at hlen1
            obtain ⟨m4, e4, q4⟩ := y_ask (m := m1) (c := 38) ⟨by omega, by omega⟩ (by decide)
            rw [e4]
            simp only [Option.bind_some]
            refine body m4 ?_
            rw [if_neg hne]; exact g5.trans q4
          · rw [if_neg h0']
            have hne : qF m o kf (j - kf).toNat = [] := by
              refine List.eq_nil_of_length_eq_zero ?_
              omega
            refine body m1 ?_
            rw [if_pos hne, List.append_nil]; exact g5
        by_cases hcz : ck = 0
        · rw [if_pos hcz]
          refine send (.inl ?_)
          rcases hck with ⟨y, _⟩ | ⟨_, y⟩
          · omega
          · exact fun w => y (hchk.mpr w)
        · rw [if_neg hcz]
          have hyc : chkL m (o j) := by
            rcases hck with ⟨_, y⟩ | ⟨y, _⟩
            · exact hchk.mp y
            · omega
          refine ev_ix hv ?_
          rw [y1 66 (by decide) (by decide)]
          refine ev_if (fun h66 => skip (fun hs => ?_)) (fun h66 => send (.inr (by have := hin.2.2.2.2.1; omega)))
          rcases hs.2.2.2 with y | y
          · exact y hyc
          · omega
      · rw [if_neg hf, if_pos rfl]
        exact skip (fun hs => hf hs.2.1)
    · rw [if_neg h13]
      exact skip (fun hs => h13 hs.1)
  · rw [if_neg hlt] at g4
    rw [if_pos g4]
    have : j = e kf := by omega
    rw [this] at g5
    exact ev_gr g5
end P1
