/-! SERIALISE, a node's own bytes -/
def atF (m : YS) (v : Int) : Nat → List Int
  | 0 => []
  | k + 1 => atF m v k ++ ([32] ++ (anL m v k ++ ([61] ++ ([34] ++ (escL (avL m v k) ++ [34])))))
/-- what a node begins with -/
def SLv (m : YS) (v : Int) : List Int := if m 46 v = 17 then (if m 49 v ≠ -1 ∧ m 46 (m 49 v) = 15 then txL m v else escL (txL m v)) else [60] ++ (nmL m v ++ (atF m v (m 56 v).toNat ++ [62]))
/-- what it ends with -/
def ELv (m : YS) (v : Int) : List Int := if m 46 v = 17 ∨ (10 ≤ m 46 v ∧ m 46 v ≤ 13) then [] else [60] ++ ([47] ++ (nmL m v ++ [62]))
theorem atF_cg {m m' : YS} {v : Int} (h57 : m' 57 = m 57) (h58 : m' 58 = m 58) (h59 : m' 59 = m 59) (h60 : m' 60 = m 60) : ∀ k, atF m' v k = atF m v k := by
  intro k
  induction k with
  | zero => rfl
  | succ k ih =>
    show atF m' v k ++ ([32] ++ (anL m' v k ++ ([61] ++ ([34] ++ (escL (avL m' v k) ++ [34]))))) = _
    rw [ih]; unfold anL avL; rw [h57, h58, h59, h60]; rfl
section D8
variable {n n' : NS} {m m' : YS} {A B N v x : Int} {o e p : Int → Int}
theorem SLv_cg (h : FY [4, 5] m m') : SLv m' v = SLv m v ∧ ELv m' v = ELv m v := by
  have h' : ∀ f, f ∉ [4, 5] → m' f = m f := h
  unfold SLv ELv
  rw [atF_cg (h' 57 (by decide)) (h' 58 (by decide)) (h' 59 (by decide)) (h' 60 (by decide))]
  unfold txL nmL
  rw [h' 46 (by decide), h' 49 (by decide), h' 56 (by decide), h' 61 (by decide), h' 62 (by decide), h' 47 (by decide), h' 48 (by decide)]
  exact ⟨rfl, rfl⟩
theorem ND.fy (hd : ND n m v) (h : FY [4, 5] m m') : ND n m' v := hd.cg (YG.of (fun f hf => h f (by simp only [List.mem_cons, List.not_mem_nil, or_false]; omega))) (NG.refl _ _)
theorem y_begin (hd : ND n m v) (hv : 0 ≤ v ∧ v < 120) (h : 0 ≤ m 5 0 ∧ m 5 0 ≤ 8000) (h17 : m 46 v ≠ 17) : ev (N_Y_sayBegin v m) (fun m' => SY1 m m' (SLv m v)) := by
  have hl := hd.2.1
  have hc := hd.2.2.1
  unfold N_Y_sayBegin SLv
  rw [if_neg h17]
  refine ev_bind (y_say h (by omega)) (fun m1 a1 => ev_ck (by omega) (ev_ix hv ?_))
  rw [a1.1 48 (by decide)]
  refine ev_bind (y_sayAll (f := 47) a1.2.1 (by decide) (by omega) (by omega) (by show _ ≤ (960 : Int); omega) (by omega) (fun j a b => by
    rw [a1.1 47 (by decide)]
    have := sg_all hl.2.2.1 a b
    omega)) (fun m2 a2 => ev_ck (by omega) ?_)
  rw [a1.1 47 (by decide)] at a2
  refine ev_bind (P := fun m3 => SY1 m2 m3 (atF m v (m 56 v).toNat)) ?_ (fun m3 a3 => ev_bind (y_say a3.2.1 (by omega)) (fun m4 a4 => ev_ok (a1.trans (a2.trans (a3.trans a4)))))
  unfold NL_Y_sayBegin_28
  refine ev_it (fun t : Int × YS => 4 * v ≤ t.1 ∧ t.1 ≤ 4 * v + m 56 v ∧ SY1 m2 t.2 (atF m v (t.1 - 4 * v).toNat)) (fun t => 4 * v + m 56 v - t.1) (fun t ht => ?_) ⟨Int.le_refl _, by show 4 * v ≤ _; omega, by show SY1 m2 m2 (atF m v (4 * v - 4 * v).toNat); rw [show (4 * v - 4 * v).toNat = 0 by omega]; exact SY1.nil a2.2.1⟩
  obtain ⟨s, mm⟩ := t
  obtain ⟨g1, g2, g3⟩ := ht
  simp only at g1 g2 g3
  have hF : FY [4, 5] m mm := (a1.1.trans a2.1).trans g3.1
  show ev (nb_Y_sayBegin_28 v s mm) _
  unfold nb_Y_sayBegin_28
  rw [hF 56 (by decide)]
  refine ev_ck (by omega) (ev_ix hv (ev_ck (by omega) (ev_if (fun hlt => ?_) (fun hge => ?_))))
  · have ha := hd.2.2.2.1 (s - 4 * v) (by omega) (by omega)
    unfold NA anL avL at ha
    rw [show 4 * v + (s - 4 * v) = s by omega] at ha
    obtain ⟨q1, q2, q3, q4, q5, q6⟩ := ha
    refine ev_bind (y_say g3.2.1 (by omega)) (fun r1 b1 => ev_ck (by omega) (ev_ix (by omega) ?_))
    rw [b1.1 58 (by decide), hF 58 (by decide)]
    refine ev_bind (y_sayAll (f := 57) b1.2.1 (by decide) (by omega) (by omega) (by show _ ≤ (3840 : Int); omega) (by omega) (fun j a b => by
      rw [b1.1 57 (by decide), hF 57 (by decide)]
      have := sg_all q2 a b
      omega)) (fun r2 b2 => ev_bind (y_say b2.2.1 (by omega)) (fun r3 b3 => ev_bind (y_say b3.2.1 (by omega)) (fun r4 b4 => ev_ck (by omega) (ev_ix (by omega) ?_))))
    have hF4 : FY [4, 5] m r4 := (((hF.trans b1.1).trans b2.1).trans b3.1).trans b4.1
    rw [hF4 60 (by decide)]
    refine ev_bind (y_sayEsc (f := 59) (raw := 0) b4.2.1 (by decide) (by omega) (by omega) (by show _ ≤ (28800 : Int); omega) (by omega) (fun j a b => by
      rw [hF4 59 (by decide)]
      have := sg_all q5 a b
      omega)) (fun r5 b5 => ev_bind (y_say b5.2.1 (by omega)) (fun r6 b6 => ev_ck (by omega) (ev_inl ⟨⟨by show 4 * v ≤ s + 1; omega, by show s + 1 ≤ _; omega, ?_⟩, by show 4 * v + m 56 v - (s + 1) < 4 * v + m 56 v - s; omega, by show 0 ≤ 4 * v + m 56 v - s; omega⟩)))
    show SY1 m2 r6 (atF m v (s + 1 - 4 * v).toNat)
    rw [if_pos rfl, hF4 59 (by decide)] at b5
    rw [b1.1 57 (by decide), hF 57 (by decide)] at b2
    rw [show (s + 1 - 4 * v).toNat = (s - 4 * v).toNat + 1 by omega]
    have ec : (((s - 4 * v).toNat : Nat) : Int) = s - 4 * v := by omega
    show SY1 m2 r6 (atF m v (s - 4 * v).toNat ++ ([32] ++ (anL m v ((s - 4 * v).toNat : Nat) ++ ([61] ++ ([34] ++ (escL (avL m v ((s - 4 * v).toNat : Nat)) ++ [34]))))))
    unfold anL avL
    rw [ec, show 4 * v + (s - 4 * v) = s by omega]
    exact g3.trans (b1.trans (b2.trans (b3.trans (b4.trans (b5.trans b6)))))
  · refine ev_inr (show SY1 m2 mm (atF m v (m 56 v).toNat) from ?_)
    rw [show (m 56 v).toNat = (s - 4 * v).toNat by omega]; exact g3
theorem y_end (hd : ND n m v) (hv : 0 ≤ v ∧ v < 120) (h : 0 ≤ m 5 0 ∧ m 5 0 ≤ 8000) (h17 : m 46 v ≠ 17) : ev (N_Y_sayEnd v m) (fun m' => SY1 m m' (ELv m v)) := by
  have hl := hd.2.1
  unfold N_Y_sayEnd N_Y_isEmptyTag ELv
  refine ev_ix hv ?_
  have yes : ¬ (10 ≤ m 46 v ∧ m 46 v ≤ 13) → ev ((N_Y_say 60 m).bind fun m10 => (N_Y_say 47 m10).bind fun m14 => ck (8 * v) <| ix v 120 <| (N_Y_sayAll 47 (8 * v) (m14 48 v) m14).bind fun m23 => (N_Y_say 62 m23).bind fun m27 => some m27) (fun m' => SY1 m m' (if m 46 v = 17 ∨ (10 ≤ m 46 v ∧ m 46 v ≤ 13) then [] else [60] ++ ([47] ++ (nmL m v ++ [62])))) := fun hz => by
    rw [if_neg (by omega)]
    refine ev_bind (y_say h (by omega)) (fun m1 a1 => ev_bind (y_say a1.2.1 (by omega)) (fun m2 a2 => ev_ck (by omega) (ev_ix hv ?_)))
    have hF := a1.1.trans a2.1
    rw [hF 48 (by decide)]
    refine ev_bind (y_sayAll (f := 47) a2.2.1 (by decide) (by omega) (by omega) (by show _ ≤ (960 : Int); omega) (by omega) (fun j a b => by
      rw [hF 47 (by decide)]
      have := sg_all hl.2.2.1 a b
      omega)) (fun m3 a3 => ev_bind (y_say a3.2.1 (by omega)) (fun m4 a4 => ev_ok ?_))
    rw [hF 47 (by decide)] at a3
    exact a1.trans (a2.trans (a3.trans a4))
  by_cases c1 : m 46 v < 10
  · rw [if_pos c1]
    simp only [Option.bind_some]
    rw [if_pos trivial]
    exact yes (by omega)
  · rw [if_neg c1]
    by_cases c2 : 13 < m 46 v
    · rw [if_pos c2]
      simp only [Option.bind_some]
      rw [if_pos trivial]
      exact yes (by omega)
    · rw [if_neg c2]
      simp only [Option.bind_some]
      rw [if_neg (by decide), if_pos (by omega)]
      exact ev_ok (SY1.nil h)
theorem cs_masked {b : Int} (hB : BI A B n) (hb : 0 ≤ b ∧ b ≤ 631) (hne : b ≠ 606) (hr : ∀ c ∈ bt n b, 0 ≤ c ∧ c ≤ 127) : ev (N_Tree_printMasked b 606 n) (fun n' => AP A B 606 n n' (escL (bt n b))) := by
  have b1 := hB.1 b hb.1 hb.2
  have hz := b1.2.2.2.1
  have hlb := lim_b b
  unfold N_Tree_printMasked NL_Tree_printMasked_2
  rw [bind_id]
  refine ev_it (fun t : Int × NS => 0 ≤ t.1 ∧ t.1 ≤ n 4 b 2 ∧ AP A B 606 n t.2 (escL (sg (n 99 (n 4 b 1)) 0 t.1.toNat))) (fun t => n 4 b 2 - t.1) (fun t ht => ?_) ⟨Int.le_refl _, hz.1, AP.nil (by omega) hB⟩
  obtain ⟨k, n1⟩ := t
  obtain ⟨h1, h2, h3⟩ := ht
  simp only at h1 h2 h3
  obtain ⟨e1, e2, e3⟩ := h3.2.1.bts hB hb hne (fun x hx => by omega)
  have htx := h3.1.txb hb
  have q1 := h3.1.1 b hb.1 hb.2
  have ec : n1 99 (n1 4 b 1) k = n 99 (n 4 b 1) k := by rw [e1, e2]
  have es : n1 4 b 2 = n 4 b 2 := by rw [e1]
  show ev (nb_Tree_printMasked_2 b 606 k n1) _
  unfold nb_Tree_printMasked_2
  rw [es, ec]
  have next : k < n 4 b 2 → ∀ n2, AP A B 606 n1 n2 (esc (n 99 (n 4 b 1) k)) → ev (ck (k + 1) <| some (Sum.inl (k + 1, n2))) (lp (fun t : Int × NS => 0 ≤ t.1 ∧ t.1 ≤ n 4 b 2 ∧ AP A B 606 n t.2 (escL (sg (n 99 (n 4 b 1)) 0 t.1.toNat))) (fun t => n 4 b 2 - t.1) (k, n1) (fun n' => AP A B 606 n n' (escL (bt n b)))) := fun hlt n2 h4 => by
    refine ev_ck (by omega) (ev_inl ⟨⟨by show 0 ≤ k + 1; omega, by show k + 1 ≤ _; omega, ?_⟩, by show n 4 b 2 - (k + 1) < n 4 b 2 - k; omega, by show 0 ≤ n 4 b 2 - k; omega⟩)
    show AP A B 606 n n2 (escL (sg (n 99 (n 4 b 1)) 0 (k + 1).toNat))
    rw [show (k + 1).toNat = k.toNat + 1 by omega, sg_app, show (0 : Int) + ((k.toNat : Nat) : Int) = k by omega]
    unfold escL at h3 ⊢
    rw [List.flatMap_append]
    show AP A B 606 n n2 (_ ++ (esc (n 99 (n 4 b 1) k) ++ []))
    rw [List.append_nil]; exact h3.trans h4
  refine ev_if (fun hlt => ev_nn q1.2.1.1 (ev_tx htx ⟨h1, by omega⟩ (fun _ => ?_))) (fun hge => ev_inr ?_)
  · have hcr : 0 ≤ n 99 (n 4 b 1) k ∧ n 99 (n 4 b 1) k ≤ 127 := by
      have := sg_at (g := n 99 (n 4 b 1)) (n 4 b 2).toNat 0 k.toNat (by omega)
      rw [show (0 : Int) + ((k.toNat : Nat) : Int) = k by omega] at this
      exact hr _ this
    have nx := next hlt
    generalize n 99 (n 4 b 1) k = c at *
    refine ev_if (fun z => ev_bind (cs_addText (b := 606) (by omega) h3.1 okS35 (by decide)) (fun n2 h4 => nx n2 (by rw [z]; exact h4))) (fun z1 => ?_)
    refine ev_if (fun z => ev_bind (cs_addText (b := 606) (by omega) h3.1 okS34 (by decide)) (fun n2 h4 => nx n2 (by rw [z]; exact h4))) (fun z2 => ?_)
    refine ev_if (fun z => ev_bind (cs_addText (b := 606) (by omega) h3.1 okS32 (by decide)) (fun n2 h4 => nx n2 (by rw [z]; exact h4))) (fun z3 => ?_)
    refine ev_if (fun z => ev_bind (cs_addText (b := 606) (by omega) h3.1 okS33 (by decide)) (fun n2 h4 => nx n2 (by rw [z]; exact h4))) (fun z4 => ?_)
    refine ev_nn q1.2.1.1 (ev_tx htx ⟨h1, by omega⟩ (fun _ => ev_bind (cs_addA (b := 606) (by omega) h3.1 (by omega)) (fun n2 h4 => nx n2 ?_)))
    unfold esc; rw [if_neg z3, if_neg z4, if_neg z2, if_neg z1]; exact h4
  · show AP A B 606 n n1 (escL (bt n b))
    rw [show k = n 4 b 2 by omega] at h3; exact h3
theorem c_addRow {b : Int} (hB : BI A B n) (hb : 0 ≤ b ∧ b ≤ 631) (hne : b ≠ 606) : ev (nn (n 4 b 1) <| (N_Bytes_addAll 606 (n 4 b 1) 0 (n 4 b 2) n).bind fun n19 => some n19) (fun n' => AP A B 606 n n' (bt n b)) := by
  have b1 := hB.1 b hb.1 hb.2
  have hlb := lim_b b
  refine ev_nn b1.2.1.1 ?_
  rw [bind_id]
  have := cs_addAllA (b := 606) (by omega) hB (hB.txb hb) b1.2.1.2 (i := 0) (by omega) (Int.le_refl _) (by have := b1.2.2.2.1; omega) (fun z => hne (hB.2.1 b 606 hb.1 hb.2 (by omega) (by omega) z))
  rw [Int.sub_zero] at this
  exact this
theorem c_start (hB : BI A B n) (hd : ND n m v) (hv : 0 ≤ v ∧ v < 120) (hp : n 7 v 2 = m 49 v) (hpp : m 49 v = -1 ∨ (0 ≤ m 49 v ∧ m 49 v < 120 ∧ n 7 (m 49 v) 0 = m 46 (m 49 v))) : ev (N_Tree_printStart v 606 n) (fun n' => AP A B 606 n n' (SLv m v)) := by
  unfold N_Tree_printStart SLv
  refine ev_ix hv ?_
  rw [hd.1.1, hp]
  by_cases h17 : m 46 v = 17
  · rw [if_pos h17, if_pos h17]
    have ht := hd.2.2.2.2.1 h17
    have hmask : ev (nk_Tree_printStart_63 606 v n) (fun n' => AP A B 606 n n' (escL (txL m v))) := by
      unfold nk_Tree_printStart_63
      rw [bind_id, ← ht.2.2.1]
      exact cs_masked hB (by omega) (by omega) (fun c hc => by rw [ht.2.2.1] at hc; have := ht.2.1 c hc; omega)
    by_cases hr : m 49 v = -1
    · rw [if_pos hr, if_neg (show ¬ (m 49 v ≠ -1 ∧ m 46 (m 49 v) = 15) from fun z => z.1 hr)]
      exact hmask
    · have hp3 : 0 ≤ m 49 v ∧ m 49 v < 120 ∧ n 7 (m 49 v) 0 = m 46 (m 49 v) := by
        rcases hpp with z | z
        · exact absurd z hr
        · exact z
      rw [if_neg hr]
      refine ev_ix ⟨hp3.1, hp3.2.1⟩ ?_
      rw [hp3.2.2]
      by_cases h15 : m 46 (m 49 v) = 15
      · rw [if_pos h15, if_pos ⟨hr, h15⟩, ← ht.2.2.1]
        exact c_addRow hB (by omega) (by omega)
      · rw [if_neg h15, if_neg (show ¬ (m 49 v ≠ -1 ∧ m 46 (m 49 v) = 15) from fun z => h15 z.2)]
        exact hmask
  · rw [if_neg h17, if_neg h17]
    have hl := hd.2.1
    have hc := hd.2.2.1
    refine ev_bind (cs_addA (b := 606) (by omega) hB (by omega)) (fun n1 a1 => ?_)
    rw [a1.2.1.1 7 (by decide) (by decide) (by decide) (by decide) (by decide) (by decide), hl.2.2.2]
    refine ev_bind (cs_addPacked (b := 606) (by omega) a1.1 hl.2.2.1 (by unfold nmL; rw [sg_len]; omega)) (fun n2 a2 => ?_)
    refine ev_bind (P := fun n3 => AP A B 606 n2 n3 (atF m v (m 56 v).toNat)) ?_ (fun n3 a3 => ev_bind (cs_addA (b := 606) (by omega) a3.1 (by omega)) (fun n4 a4 => ev_ok (a1.trans (a2.trans (a3.trans a4)))))
    unfold NL_Tree_printStart_89
    refine ev_it (fun t : Int × NS => 0 ≤ t.1 ∧ t.1 ≤ m 56 v ∧ AP A B 606 n2 t.2 (atF m v t.1.toNat)) (fun t => m 56 v - t.1) (fun t ht => ?_) ⟨Int.le_refl _, hc.2.1, AP.nil (by omega) a2.1⟩
    obtain ⟨s, nn⟩ := t
    obtain ⟨g1, g2, g3⟩ := ht
    simp only at g1 g2 g3
    have hF : FB (fun x => x = 606) n nn := (a1.2.1.trans a2.2.1).trans g3.2.1
    have hdn : ND nn m v := hd.cg (YG.refl _ _) (NG.fb hF hB (fun x hx => by omega) hv)
    show ev (nb_Tree_printStart_89 606 v s nn) _
    unfold nb_Tree_printStart_89
    rw [hdn.2.2.1.1]
    refine ev_if (fun hlt => ?_) (fun hge => ?_)
    · refine ev_bind (cs_addA (b := 606) (by omega) g3.1 (by omega)) (fun r1 b1 => ev_ix (by omega) ?_)
      have hd1 : ND r1 m v := hdn.cg (YG.refl _ _) (NG.fb b1.2.1 g3.1 (fun x hx => by omega) hv)
      obtain ⟨q1, q2, q3, q4, q5, q6⟩ := hd1.2.2.2.1 s g1 hlt
      rw [q3]
      refine ev_bind (cs_addPacked (b := 606) (by omega) b1.1 q2 (by unfold anL; rw [sg_len]; omega)) (fun r2 b2 => ev_bind (cs_addText (b := 606) (by omega) b2.1 okS36 (by decide)) (fun r3 b3 => ev_ix (by omega) ?_))
      have hF3 := b2.2.1.trans b3.2.1
      have hd3 : ND r3 m v := hd1.cg (YG.refl _ _) (NG.fb hF3 b1.1 (fun x hx => by omega) hv)
      obtain ⟨u1, u2, u3, u4, u5, u6⟩ := hd3.2.2.2.1 s g1 hlt
      have hm := cs_masked (b := 5 * v + 1 + s) b3.1 (by omega) (by omega) (fun c hc => by rw [u6] at hc; have := u5 c hc; omega)
      rw [u6] at hm
      refine ev_bind hm (fun r4 b4 => ev_bind (cs_addA (b := 606) (by omega) b4.1 (by omega)) (fun r5 b5 => ev_ck (by omega) (ev_inl ⟨⟨by show 0 ≤ s + 1; omega, by show s + 1 ≤ _; omega, ?_⟩, by show m 56 v - (s + 1) < m 56 v - s; omega, by show 0 ≤ m 56 v - s; omega⟩)))
      show AP A B 606 n2 r5 (atF m v (s + 1).toNat)
      rw [show (s + 1).toNat = s.toNat + 1 by omega]
      have ec : ((s.toNat : Nat) : Int) = s := by omega
      show AP A B 606 n2 r5 (atF m v s.toNat ++ ([32] ++ (anL m v (s.toNat : Nat) ++ ([61] ++ ([34] ++ (escL (avL m v (s.toNat : Nat)) ++ [34]))))))
      rw [ec]
      exact g3.trans (b1.trans (b2.trans (b3.trans (b4.trans b5))))
    · refine ev_inr (show AP A B 606 n2 nn (atF m v (m 56 v).toNat) from ?_)
      rw [show m 56 v = s by omega]; exact g3
theorem c_end (hB : BI A B n) (hd : ND n m v) : ev (N_Tree_printEnd v 606 n) (fun n' => AP A B 606 n n' (ELv m v)) := by
  have hl := hd.2.1
  unfold N_Tree_printEnd N_Node_isEmptyTag ELv
  rw [hd.1.1]
  by_cases h17 : m 46 v = 17
  · rw [if_pos h17, if_pos (.inl h17)]; exact ev_ok (AP.nil (by omega) hB)
  · rw [if_neg h17]
    have yes : ¬ (10 ≤ m 46 v ∧ m 46 v ≤ 13) → ev ((N_Bytes_addText 606 1000037 n).bind fun n11 => (N_Bytes_addPacked 606 (n11 7 v 1) n11).bind fun n16 => (N_Bytes_add 606 62 n16).bind fun n20 => some n20) (fun n' => AP A B 606 n n' (if m 46 v = 17 ∨ (10 ≤ m 46 v ∧ m 46 v ≤ 13) then [] else [60] ++ ([47] ++ (nmL m v ++ [62])))) := fun hz => by
      rw [if_neg (by omega)]
      refine ev_bind (cs_addText (b := 606) (by omega) hB okS37 (by decide)) (fun n1 a1 => ?_)
      rw [a1.2.1.1 7 (by decide) (by decide) (by decide) (by decide) (by decide) (by decide), hl.2.2.2]
      refine ev_bind (cs_addPacked (b := 606) (by omega) a1.1 hl.2.2.1 (by unfold nmL; rw [sg_len]; omega)) (fun n2 a2 => ev_bind (cs_addA (b := 606) (by omega) a2.1 (by omega)) (fun n3 a3 => ev_ok ?_))
      exact a1.trans (a2.trans a3)
    by_cases c1 : m 46 v < 10
    · rw [if_pos c1]
      simp only [Option.bind_some]
      rw [if_pos trivial]
      exact yes (by omega)
    · rw [if_neg c1]
      by_cases c2 : 13 < m 46 v
      · rw [if_pos c2]
        simp only [Option.bind_some]
        rw [if_pos trivial]
        exact yes (by omega)
      · rw [if_neg c2]
        simp only [Option.bind_some]
        rw [if_neg (by decide), if_pos (by omega)]
        exact ev_ok (AP.nil (by omega) hB)
end D8
