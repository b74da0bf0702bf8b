/-! A FORM IS SENT: the query in the class; the ADDRESS gets it -/
section P2
variable {n n' n'' n2 : NS} {m m' m'' m0 m6 mR : YS} {A B N N' k b a δ δ' fr to d L r r' x f v c i z M kf : Int} {o e p o' e' p' κ g : Int → Int} {As Bs W S : Int → Prop} {l l' acc nm q mk : List Int} {ss : List (List Int)}
theorem c_sent (hB : BI A B n) (hv : 0 ≤ v ∧ v < 120) (hd : ND n m v) (h13 : m 46 v = 13) : ev (N_Acts_addSent v n) (fun n' => AP A B 610 n n' (@ite _ (chkL m v) (Classical.propDecidable _) [111, 110] (vmp (vaL m v)))) := by
  have hin := hd.2.2.2.2.2.1 h13
  unfold N_Acts_addSent
  rcases hin.2.2.2.2.2 with ⟨y1, y2⟩ | ⟨y1, y2⟩
  · rw [if_neg (by omega), if_pos y2]
    exact ev_bind (cs_addText (b := 610) (by decide) hB okS30 (by decide)) (fun n2 h2 => ev_ok h2)
  · rw [if_pos y1, if_neg y2]
    refine ev_bind (c_sent20 hB hv) (fun n2 h2 => ev_ok ?_)
    rw [hin.2.2.1] at h2; exact h2
/-- a row goes into the scratch -/
theorem c_addR6 (hB : BI A B n) (hR : (0 ≤ r ∧ r ≤ 631) ∧ r ≠ 610) : ev (nn (n 4 r 1) (N_Bytes_addAll 610 (n 4 r 1) 0 (n 4 r 2) n)) (fun n' => AP A B 610 n n' (bt n r)) := by
  have b1 := hB.1 r hR.1.1 hR.1.2
  have hne : n 4 r 1 ≠ n 4 610 1 := fun z => hR.2 (hB.2.1 r 610 hR.1.1 hR.1.2 (by decide) (by decide) z)
  have hl := lim_b r
  have := cs_addAllA (b := 610) (a := n 4 r 1) (g := n 99 (n 4 r 1)) (l := n 4 r 2) (i := 0) (to := n 4 r 2) (by decide) hB ⟨b1.2.2.1, by have := b1.2.2.2.1.2.2; omega, fun _ _ _ => rfl⟩ b1.2.1.2 (Int.le_refl _) (Int.le_refl _) (by have := b1.2.2.2.1; omega) hne
  rw [show n 4 r 2 - 0 = n 4 r 2 by omega] at this
  exact ev_nn b1.2.1.1 this
theorem c_send100 (hT : JT n m N o e p) (hB : BI A B n) (hL : LSt n N o e) (k0 : 0 ≤ kf) (k1 : kf < N) : ev (NL_Acts_send_100 (o kf) 1 kf n) (fun n' => AP A B 610 n n' (qF m o kf (e kf - kf).toNat)) := by
  have hG := hT.1.1
  have hE := hG.eB k0 k1
  have hvf := hG.oB k0 k1
  unfold NL_Acts_send_100
  refine ev_it (fun s : Int × Int × NS => (kf ≤ s.2.1 ∧ s.2.1 ≤ e kf) ∧ s.1 = (if qF m o kf (s.2.1 - kf).toNat = [] then 1 else 0) ∧ AP A B 610 n s.2.2 (qF m o kf (s.2.1 - kf).toNat)) (fun s => e kf - s.2.1) (fun s hs => ?_) ⟨by show kf ≤ kf ∧ kf ≤ e kf; omega, by show (1 : Int) = if qF m o kf (kf - kf).toNat = [] then 1 else 0; rw [show (kf - kf).toNat = 0 by omega]; rfl, by show AP A B 610 n n (qF m o kf (kf - kf).toNat); rw [show (kf - kf).toNat = 0 by omega]; exact AP.nil (by decide) hB⟩
  obtain ⟨fl, j, n1⟩ := s
  obtain ⟨g1, g2, g3⟩ := hs
  simp only at g1 g2 g3
  show ev (nb_Acts_send_100 (o kf) fl j n1) _
  have kk := g3.2.1.1
  have e7 : n1 7 = n 7 := kk 7 (by decide) (by decide) (by decide) (by decide) (by decide) (by decide)
  have e22 : n1 22 = n 22 := kk 22 (by decide) (by decide) (by decide) (by decide) (by decide) (by decide)
  have hB1 := g3.1
  have hT1 : JT n1 m N o e p := hT.fb hB g3.2.1 (fun x hx => by omega) (fun _ _ _ => rfl)
  unfold nb_Acts_send_100
  refine ev_ix hvf ?_
  rw [e7, (hL.2 kf k0 k1).2.2]
  refine ev_if (fun hlt => ?_) (fun hge => ev_inr (by rw [show e kf = j by omega]; exact g3))
  have hjN : j < N := by omega
  have hv := hG.oB (k := j) (by omega) hjN
  have hd1 := hT1.2.2.2 j (by omega) hjN
  have hd := hT.2.2.2 j (by omega) hjN
  have ej : (j - kf).toNat + 1 = (j + 1 - kf).toNat := by omega
  have ej2 : kf + (((j - kf).toNat : Nat) : Int) = j := by omega
  have eq1 : qF m o kf (j + 1 - kf).toNat = qAdd m (qF m o kf (j - kf).toNat) (o j) := by
    rw [← ej]
    show qAdd m (qF m o kf (j - kf).toNat) (o (kf + (((j - kf).toNat : Nat) : Int))) = _
    rw [ej2]
  have skip : ¬ sndQ m (o j) → ev (ck (j + 1) (some (Sum.inl (fl, j + 1, n1)))) (lp (fun s : Int × Int × NS => (kf ≤ s.2.1 ∧ s.2.1 ≤ e kf) ∧ s.1 = (if qF m o kf (s.2.1 - kf).toNat = [] then 1 else 0) ∧ AP A B 610 n s.2.2 (qF m o kf (s.2.1 - kf).toNat)) (fun s => e kf - s.2.1) (fl, j, n1) (fun n' => AP A B 610 n n' (qF m o kf (e kf - kf).toNat))) := fun hs => by
    have e1 : qF m o kf (j + 1 - kf).toNat = qF m o kf (j - kf).toNat := by rw [eq1]; unfold qAdd; rw [if_neg hs]
    refine ev_ck (by have := hG.N1; omega) (ev_inl ⟨⟨by show kf ≤ j + 1 ∧ j + 1 ≤ e kf; omega, ?_, ?_⟩, by show e kf - (j + 1) < e kf - j; omega, by show 0 ≤ e kf - j; omega⟩)
    · show fl = if qF m o kf (j + 1 - kf).toNat = [] then 1 else 0
      rw [e1]; exact g2
    · show AP A B 610 n n1 (qF m o kf (j + 1 - kf).toNat)
      rw [e1]; exact g3
  refine ev_ix (by have := hG.N1; omega) ?_
  rw [e22, (hL.2 j (by omega) hjN).1]
  refine ev_ix hv ?_
  rw [← e7, hd1.1.1]
  by_cases h13 : m 46 (o j) = 13
  · rw [if_pos h13]
    have f0 := fnd_b (m := m) (f := o j) (w := wNam)
    have epk : N_Bytes_pack_1 1000029 n1 = some (pk wNam) := cs_packW okS29 (by decide) (by decide)
    have er : N_Node_read (o j) 1000029 n1 = some (if fnd m (o j) wNam < m 56 (o j) then 5 * o j + 1 + fnd m (o j) wNam else -1) := by
      unfold N_Node_read
      rw [epk]
      simp only [Option.bind_some]
      rw [c_find hd1 (by decide : ∀ c ∈ wNam, isBt c)]
      simp only [Option.bind_some]
      split
      · rw [if_neg (by omega)]
      · rw [if_pos (by decide)]
    rw [er]
    simp only [Option.bind_some]
    by_cases hf : fnd m (o j) wNam < m 56 (o j)
    · have ha := hd1.2.2.2.1 _ f0 hf
      have h4 := hd1.2.2.1.2.2
      have h60 := ha.2.2.2.1
      have hbt := ha.2.2.2.2.2
      rw [if_pos hf, if_neg (by omega)]
      generalize hrow : 5 * o j + 1 + fnd m (o j) wNam = rw0 at *
      have hrb : (0 ≤ rw0 ∧ rw0 ≤ 631) ∧ rw0 ≠ 610 := by omega
      have b1 := hB1.1 rw0 hrb.1.1 hrb.1.2
      have hsz : n1 4 rw0 2 = m 60 (4 * o j + fnd m (o j) wNam) := by
        have := bt_len hrb.1 hB1
        rw [hbt] at this
        unfold avL at this
        rw [sg_len] at this
        omega
      have htx : tx n1 (n1 4 rw0 1) (fun i => m 59 (60 * (4 * o j + fnd m (o j) wNam) + i)) (n1 4 rw0 2) := by
        refine ⟨b1.2.2.1, by have := b1.2.2.2.1.2.2; omega, fun i i0 i1 => ?_⟩
        unfold bt avL at hbt
        rw [hsz] at hbt i1
        have := sg_inj _ _ _ hbt i.toNat (by omega)
        rw [show ((i.toNat : Nat) : Int) = i by omega, show (0 : Int) + i = i by omega] at this
        exact this
      have eW : N_Bytes_isNameWhole rw0 n1 = some (if 0 < n1 4 rw0 2 ∧ nmC (fun i => m 59 (60 * (4 * o j + fnd m (o j) wNam) + i)) 0 (n1 4 rw0 2) = n1 4 rw0 2 then 1 else 0) := by
        unfold N_Bytes_isNameWhole nn
        rw [if_pos b1.2.1.1, c_isName htx ⟨Int.le_refl _, Int.le_refl _, by omega⟩]; rfl
      have hq := nmQ_c (g := m 59) (b := 60 * (4 * o j + fnd m (o j) wNam)) (L := n1 4 rw0 2) (by omega)
      unfold nk_Acts_send_159
      rw [if_neg (by omega), eW]
      simp only [Option.bind_some]
      by_cases hn : 0 < n1 4 rw0 2 ∧ nmC (fun i => m 59 (60 * (4 * o j + fnd m (o j) wNam) + i)) 0 (n1 4 rw0 2) = n1 4 rw0 2
      · have hnq := hq.mp hn
        rw [hsz] at hnq
        rw [if_pos hn, if_neg (by decide)]
        have hin := hd1.2.2.2.2.2.1 h13
        have send : (¬ chkL m (o j) ∨ m 66 (o j) = 1) → ev (nk_Acts_send_190 (o kf) fl j (o j) rw0 n1) (lp (fun s : Int × Int × NS => (kf ≤ s.2.1 ∧ s.2.1 ≤ e kf) ∧ s.1 = (if qF m o kf (s.2.1 - kf).toNat = [] then 1 else 0) ∧ AP A B 610 n s.2.2 (qF m o kf (s.2.1 - kf).toNat)) (fun s => e kf - s.2.1) (fl, j, n1) (fun n' => AP A B 610 n n' (qF m o kf (e kf - kf).toNat))) := fun hch => by
          have hs : sndQ m (o j) := ⟨h13, hf, hnq, hch⟩
          have hqa := qAdd_ne (acc := qF m o kf (j - kf).toNat) hd hs
          have body : ∀ n2, AP A B 610 n1 n2 (if qF m o kf (j - kf).toNat = [] then [] else [38]) → ev (nk_Acts_send_203 (o kf) j (o j) rw0 n2) (lp (fun s : Int × Int × NS => (kf ≤ s.2.1 ∧ s.2.1 ≤ e kf) ∧ s.1 = (if qF m o kf (s.2.1 - kf).toNat = [] then 1 else 0) ∧ AP A B 610 n s.2.2 (qF m o kf (s.2.1 - kf).toNat)) (fun s => e kf - s.2.1) (fl, j, n1) (fun n' => AP A B 610 n n' (qF m o kf (e kf - kf).toNat))) := fun n2 q2 => by
            have hT2 : JT n2 m N o e p := hT1.fb hB1 q2.2.1 (fun x hx => by omega) (fun _ _ _ => rfl)
            have b2 : bt n2 rw0 = avL m (o j) (fnd m (o j) wNam) := by
              rw [← hbt]; exact (q2.2.1.bts hB1 hrb.1 hrb.2 (fun x hx => by omega)).2.2
            unfold nk_Acts_send_203
            rw [if_neg (by omega)]
            have h6 := c_addR6 (r := rw0) q2.1 hrb
            rw [b2] at h6
            have : ∀ {β : Type} (F : NS → Option β), nn (n2 4 rw0 1) ((N_Bytes_addAll 610 (n2 4 rw0 1) 0 (n2 4 rw0 2) n2).bind F) = (nn (n2 4 rw0 1) (N_Bytes_addAll 610 (n2 4 rw0 1) 0 (n2 4 rw0 2) n2)).bind F := fun F => by
              unfold nn
              split <;> rfl
            rw [this]
            refine ev_bind h6 (fun n6 q6 => ev_bind (cs_add (b := 610) (c := 61) (by decide) q6.1) (fun n11 q11 => ?_))
            have q11' : AP A B 610 n6 n11 [61] := q11
            have qq := q6.trans q11'
            have hT11 : JT n11 m N o e p := hT2.fb q2.1 qq.2.1 (fun x hx => by omega) (fun _ _ _ => rfl)
            refine ev_bind (c_sent qq.1 hv (hT11.2.2.2 j (by omega) hjN) h13) (fun n15 q15 => ?_)
            have all := (g3.trans q2).trans (qq.trans q15)
            refine ev_ck (by have := hG.N1; omega) (ev_inl ⟨⟨by show kf ≤ j + 1 ∧ j + 1 ≤ e kf; omega, ?_, ?_⟩, by show e kf - (j + 1) < e kf - j; omega, by show 0 ≤ e kf - j; omega⟩)
            · show (0 : Int) = if qF m o kf (j + 1 - kf).toNat = [] then 1 else 0
              rw [eq1, if_neg hqa.2]
            · show AP A B 610 n n15 (qF m o kf (j + 1 - kf).toNat)
              rw [eq1, hqa.1]
              unfold pieceQ
              simp only [List.append_assoc] at all ⊢
              exact all
          unfold nk_Acts_send_190
          by_cases hfl : fl = 0
          · have hne : qF m o kf (j - kf).toNat ≠ [] := fun w => by rw [if_pos w] at g2; omega
            rw [if_pos hfl]
            refine ev_bind (cs_add (b := 610) (c := 38) (by decide) hB1) (fun n4 q4 => body n4 ?_)
            rw [if_neg hne]; exact q4
          · have hne : qF m o kf (j - kf).toNat = [] := Classical.byContradiction (fun w => by rw [if_neg w] at g2; omega)
            rw [if_neg hfl]
            refine body n1 ?_
            rw [if_pos hne]; exact AP.nil (by decide) hB1
        have e16 := hin.2.2.2.1
        have h66 := hin.2.2.2.2.1
        have hbz := hin.2.2.2.2.2
        refine ev_if (fun y => ev_if (fun y2 => send (.inl ?_)) (fun y2 => skip (fun hs => ?_))) (fun y => send (.inr (by omega)))
        · rcases hbz with ⟨w, _⟩ | ⟨_, w⟩
          · omega
          · exact w
        · rcases hbz with ⟨_, w⟩ | ⟨w, _⟩
          · rcases hs.2.2.2 with u | u
            · exact u w
            · omega
          · omega
      · rw [if_neg hn, if_pos rfl]
        refine skip (fun hs => hn (hq.mpr ?_))
        rw [hsz]; exact hs.2.2.1
    · rw [if_neg hf, if_pos (by decide)]
      unfold nk_Acts_send_159
      rw [if_pos (by decide)]
      exact skip (fun hs => hf hs.2.1)
  · rw [if_neg h13]
    unfold nk_Acts_send_159
    rw [if_pos (by decide)]
    exact skip (fun hs => h13 hs.1)
end P2
