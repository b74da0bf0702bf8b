/-! A PAGE IS LOADED, in both -/
section K3
variable {n n' n'' : NS} {m m' m'' : YS} {A B N a b i v1 v2 k l : Int} {nm q mk nm' q' mk' X Y : List Int} {ss ss' : List (List Int)} {As Bs W S : Int → Prop} {κ o e p : Int → Int}
theorem sg_suf {t : Int → Int} (h : sg t i (X ++ Y).length = X ++ Y) : sg t (i + (X.length : Int)) Y.length = Y := by
  have : sg t i (X ++ (Y ++ [])).length = X ++ (Y ++ []) := by rw [List.append_nil]; exact h
  exact sg_mid this
/-- a mark is taken over -/
theorem c_takeMark (hA : AdS n As) (ha : As a) (hb : As b) (hne : a ≠ b) (hC : CA n a nm ss q mk) (hW : WFA nm ss q mk) (hC' : CA n b nm' ss' q' mk') (hW' : WFA nm' ss' q' mk') : ev (N_Address_takeMark a b n) (fun n' => ∃ s t, s 0 = n 99 a 0 ∧ n' = aw n a (n 99 a 0) s t ∧ CAs s t nm ss q mk') := by
  have hAa := (hA a ha).1
  have hAb := (hA b hb).1
  have haT := hAa.ne
  have hTT : n 99 b 0 ≠ n 99 a 0 := fun z => hne ((hA a ha).2.2 b hb z.symm)
  obtain ⟨c1, c2, c3, c4, c5, c6⟩ := hC
  obtain ⟨d1, d2, d3, d4, d5, d6⟩ := hC'
  have hsz := hW.sz
  have hsz' := hW'.sz
  have l1 := adL_len (nm := nm) (ss := ss) (q := q)
  have l2 := adL_len (nm := nm') (ss := ss') (q := q')
  have g6 := sg_pre c6
  have h6 := sg_suf d6
  have e4 : n 99 a 4 = ((adL nm ss q).length : Int) := by omega
  have e4' : n 99 b 4 = ((adL nm' ss' q').length : Int) := by omega
  unfold N_Address_takeMark
  refine ev_ty hAb.2.1 (ev_ty hAb.2.1 (ev_ck (by omega) (ev_ty hAb.2.1 (ev_nn hAb.2.2.1.1 (ev_ty hAb.2.1 (ev_ty hAa.2.1 (ev_nn hAa.2.2.1.1 (ev_ty hAa.2.1 (ev_g ⟨hAb.2.2.2.1, hAa.2.2.2.1, by omega, by rw [hAb.2.2.2.2]; omega, by rw [hAa.2.2.2.2]; omega⟩ (ev_st ?_))))))))))
  generalize hT : cpf (n 99 (n 99 b 0)) (n 99 (n 99 a 0)) (n 99 b 4) (n 99 a 4) (n 99 b 5 - n 99 b 4) = T'
  have eaw : nwA n 99 (n 99 a 0) T' = aw n a (n 99 a 0) (n 99 a) T' := by
    rw [← aw_nT (f := T') (t := n 99 (n 99 a 0)), aw_id rfl rfl]
  rw [eaw]
  refine ev_tyA hAa ?_
  rw [aw_a haT]
  refine ev_ck (by omega) (ev_tyA hAa (ev_st ?_))
  rw [aw_nw haT]
  refine ev_ok ⟨_, _, udz_n (by decide), rfl, ?_, ?_, ?_, ?_, ?_, ?_⟩
  · rw [udz_n (by decide)]; exact c1
  · rw [udz_n (by decide)]; exact c2
  · rw [udz_n (by decide)]; exact c3
  · rw [udz_n (by decide), udz_n (by decide)]; exact c4
  · rw [udz_e, udz_n (by decide), d5]; omega
  · refine sg_ext e4 g6 (fun j a b => ?_) ?_
    · rw [← hT]; unfold cpf; rw [if_neg (by omega)]
    · refine Eq.trans (sg_cg _ _ (0 + ((adL nm' ss' q').length : Int)) (fun x hx => ?_)) h6
      rw [← hT]; unfold cpf
      rw [if_pos (by omega)]; congr 1; omega
/-- what lies beside fetching has changed -/
theorem JFe.cg (h : JFe κ As Bs A B n m) (hB' : BI A B n') (hF : FQ As Bs W n n') (h7 : FQ7 n n') (hW : ∀ a, W a → a < 1953 ∧ a ≠ 1578) (hK : ∀ K, K = 23 ∨ K = 24 ∨ K = 25 → n' K = n K) (h6 : ∀ s, s = 2 ∨ s = 4 ∨ s = 6 ∨ s = 9 ∨ s = 12 → n' 6 0 s = n 6 0 s) (hb : bt n' 607 = bt n 607) (hm : ∀ f, 16 ≤ f → f ≤ 37 → m' f = m f) (hr : ∀ r, r = 2 ∨ (6 ≤ r ∧ r < 26) ∨ (46 ≤ r ∧ r < 66) → RwE m m' r) : JFe κ As Bs A B n' m' := by
  obtain ⟨hB, hJ, hAs, hSn⟩ := h
  refine ⟨hB', hJ.cg hF h7 (fun a ha => (hW a ha).1) hK h6 (fun f a b => hm f a (by omega)) (fun r h => hr r (by omega)), ?_, ?_⟩
  · have h78 := hJ.2.2.1.1
    have hw78 : ¬ W 1578 := fun z => (hW _ z).2 rfl
    have e := (hF.2.2.1 1578 h78).2 hw78
    unfold JAs at *
    rw [hm 35 (by decide) (by decide)]
    rcases hAs with y | ⟨y0, y1⟩
    · exact .inl ⟨y.1, by rw [e.1]; exact y.2⟩
    · exact .inr ⟨y0, y1.fq hF h78 hw78 (hr 2 (by omega))⟩
  · unfold JSnt ys at *
    rw [hb, hm 36 (by decide) (by decide), hm 37 (by decide) (by decide)]; exact hSn
/-- the mark of the ADDRESS that was asked for -/
theorem y_goMark (h8 : 0 ≤ m 8 3 ∧ m 8 3 ≤ 8) : ev (NL_Y_goTo_91 0 m) (fun m' => FY [6] m m' ∧ (∀ j, 0 ≤ j → j < m 8 3 → m' 6 (285 + j) = m 6 (585 + j)) ∧ ∀ j, ¬ (285 ≤ j ∧ j < 285 + m 8 3) → m' 6 j = m 6 j) := by
  unfold NL_Y_goTo_91
  refine y_copyS (F := 6) (K := m 8 3) (a := 285) (b := 585) h8.1 (by omega) (fun k m1 f1 k0 k1 => ?_) (fun m1 f1 => ?_)
  · show nb_Y_goTo_91 k m1 = _
    unfold nb_Y_goTo_91 ck ix st
    dsimp only
    rw [f1 8 (by decide), if_pos (by decide), if_pos k1, if_pos (by omega), if_pos (by omega), if_pos (by omega), if_pos (by omega), if_pos (by omega)]
  · show nb_Y_goTo_91 (m 8 3) m1 = _
    unfold nb_Y_goTo_91 ix
    rw [f1 8 (by decide), if_pos (by decide), if_neg (by omega)]
/-- the page's text -/
theorem y_goText (h76 : 0 ≤ m 76 0 ∧ m 76 0 ≤ 1500) (h44 : 0 ≤ m 44 0 ∧ m 44 0 < 20) : ev (NL_Y_goTo_36 0 m) (fun m' => FY [75] m m' ∧ ∀ j, 0 ≤ j → j < m 76 0 → m' 75 j = m 17 (1500 * m 44 0 + j)) := by
  unfold NL_Y_goTo_36
  refine ev_mono (y_copy (m := m) (F := 75) (G := 17) (K := m 76 0) (a := 0) (b := 1500 * m 44 0) (by decide) h76.1 (fun k m1 f1 k0 k1 => ?_) (fun m1 f1 => ?_)) (fun m' h => ⟨h.1, fun j a b => by have := h.2.1 j a b; rw [show 0 + j = j by omega] at this; exact this⟩)
  · show nb_Y_goTo_36 k m1 = _
    unfold nb_Y_goTo_36 ck ix st
    dsimp only
    rw [f1 76 (by decide), f1 44 (by decide), if_pos k1, if_pos (by omega), if_pos (by omega), if_pos (by omega), if_pos (by omega), if_pos (by omega), show m 44 0 * 1500 + k = 1500 * m 44 0 + k by omega, show (0 : Int) + k = k by omega]
  · show nb_Y_goTo_36 (m 76 0) m1 = _
    unfold nb_Y_goTo_36
    rw [f1 76 (by decide), if_neg (by omega)]
theorem y_goText0 (h76 : m 76 0 = 0) : NL_Y_goTo_36 0 m = some m := by
  unfold NL_Y_goTo_36
  refine it_inr ?_
  show nb_Y_goTo_36 0 m = _
  unfold nb_Y_goTo_36
  rw [h76, if_neg (by decide)]
end K3
