/-! A REFERENCE is read in a page, and a VISIT set off, in both -/
section M5
variable {n n' : NS} {m m' : YS} {A B N k v d fr to L i c : Int} {g : Int → Int} {As Bs W : Int → Prop} {κ : Int → Int} {F : Nat}
theorem read_both (hJ : JNt κ As Bs A B n m) (hs : tx n d (m F) L) (hdT : n 99 1584 0 ≠ d) (hF : nfA F) (hf : 0 ≤ fr ∧ fr ≤ to ∧ to ≤ L ∧ to ≤ yLn F ∧ L ≤ 2000) (hg : ∀ j, fr ≤ j → j < to → isTx (m F j)) :
    ∃ z n' m', N_Address_read 1584 d fr to 1582 n = some (z, n') ∧ N_Y_refer F fr to 1 m = some (z, m') ∧ (z = 0 ∨ (z = 1 ∧ AR n' m' 1584 0)) ∧ JNt κ As Bs A B n' m' ∧ (∃ s t, s 0 = n 99 1584 0 ∧ n' = aw n 1584 (n 99 1584 0) s t) ∧ (∀ f, ¬ (6 ≤ f ∧ f ≤ 15) → m' f = m f) ∧ (∀ r, 1 ≤ r → RwE m m' r) := by
  obtain ⟨hJe, hH, hP⟩ := hJ
  have hJe' := hJe
  obtain ⟨hB, hJ, hAs, hSn⟩ := hJe'
  have hA := hJ.1
  have h2 := hJ.2.2.1.2.1
  have h4 := hJ.2.2.1.2.2.1
  have hP' := hP
  obtain ⟨bnm, bss, bq, bmk, hW, hC, hR⟩ := hP'
  have hT := hA 1584 h4
  have hHh := hA 1582 h2
  have hne : n 99 1582 0 ≠ n 99 1584 0 := fun z => absurd (hHh.2.2 1584 h4 z) (by decide)
  have hty : ∀ q : Int, n 92 0 q = 101 → q ≠ n 99 1584 0 ∧ q ≠ n 99 1582 0 := fun q hq => ⟨fun z => by rw [z, hT.1.2.2.2.1] at hq; exact absurd hq (by decide), fun z => by rw [z, hHh.1.2.2.2.1] at hq; exact absurd hq (by decide)⟩
  have hBS : BS n 1584 (n 99 1584 0) 1582 (n 99 1582 0) (n 99 1582) (n 99 (n 99 1582 0)) bnm bss bq bmk := ⟨hHh.1, ⟨by decide, (hty 1582 hHh.1.2.1).1, fun z => (hty 1584 hT.1.2.1).2 z.symm, hne⟩, rfl, rfl, rfl, hC, hW⟩
  have hd1 : d ≠ 1584 := fun z => by have := hs.1; rw [z, hT.1.2.1] at this; exact absurd this (by decide)
  have hcr := c_read (i := fr) (to := to) hT.1 rfl hs hd1 (Ne.symm hdT) hBS ⟨hf.1, hf.2.1, hf.2.2.1, by omega⟩
  have hyr := y_refer (f := F) (i := fr) (to := to) (r := 1) (m := m) (g := m F) hF rfl ⟨hf.1, hf.2.1, hf.2.2.2.1, by omega, by omega⟩ hg (by omega) hR hW
  obtain ⟨⟨x, n1⟩, ex, s', t', x1, x2, x3⟩ := hcr
  obtain ⟨⟨y, m6⟩, ey, y1, y2⟩ := hyr
  simp only at x1 x3 y1 y2
  have fq : FQ As Bs (fun x => x = 1584) n n1 := by rw [x1]; exact FQ.aw hA hJ.2.1 h4 rfl x2
  have f7 : FQ7 n n1 := by rw [x1]; exact FQ7.aw hA h4
  have kK : ∀ K, K ≠ 99 → n1 K = n K := fun K hK => by rw [x1]; exact aw_K hK
  have hB1 : BI A B n1 := by rw [x1]; exact hB.aw
  have fs : ∀ S : Int → Prop, FS S n n1 := fun S => by rw [x1]; exact FS.aw hA h4 hB
  have rw6 : ∀ r, 1 ≤ r → RwE m m6 r := fun r hr => ⟨(y1.2.2 r (by omega)).1, (y1.2.2 r (by omega)).2, fun j a b => y1.2.1 j (by omega)⟩
  have fy : ∀ f, ¬ (6 ≤ f ∧ f ≤ 15) → m6 f = m f := fun f hf => y1.1 f (by simp only [List.mem_cons, List.not_mem_nil, or_false, not_or]; omega)
  have hJ1 : JNt κ As Bs A B n1 m6 := ⟨hJe.cg hB1 fq f7 (fun a ha => by omega) (fun K hK => kK K (by omega)) (fun s _ => by rw [kK 6 (by decide)]) ((fs (fun _ => False)).bt (by omega) (fun h => h.elim)) (fun f a b => fy f (by omega)) (fun r hr => rw6 r (by omega)), hH.cg fq (fun x hx => by unfold hiA; omega) (by rw [kK 6 (by decide)]; exact ⟨rfl, rfl⟩) (kK 27 (by decide)) ⟨fy 148 (by decide), fy 149 (by decide)⟩ (fun r a b => rw6 r (by omega)), hP.fq fq h2 (by decide) (rw6 1 (by decide))⟩
  rcases x3 with ⟨z1, z2⟩ | ⟨z1, nm, ss, q, mk, z2, z3, z4⟩
  · rcases y2 with ⟨w1, w2⟩ | ⟨w1, nm, ss, q, mk, w2, w3⟩
    · exact ⟨0, n1, m6, by rw [ex, z1], by rw [ey, w1], .inl rfl, hJ1, ⟨s', t', x2, x1⟩, fy, rw6⟩
    · rw [z2] at w2; cases w2
  · rcases y2 with ⟨w1, w2⟩ | ⟨w1, nm', ss', q', mk', w2, w3⟩
    · rw [z2] at w2; cases w2
    · rw [z2] at w2
      cases w2
      have hW' := RF_wf z2 hf.2.1 hW hg
      have hC1 : CA n1 1584 nm ss q mk := by
        unfold CA
        rw [x1, aw_a hT.1.ne, x2, aw_T]; exact z3
      exact ⟨1, n1, m6, by rw [ex, z1], by rw [ey, w1], .inr ⟨rfl, nm, ss, q, mk, hW', hC1, w3⟩, hJ1, ⟨s', t', x2, x1⟩, fy, rw6⟩
/-- a VISIT is set off: within the page, or to another -/
theorem setOff_both (hJ : JNt κ As Bs A B n m) (hT : AR n m 1584 0) :
    (∃ n' m', N_Net_setOff n = some n' ∧ N_Y_visitResult m = some m' ∧ JNt κ As Bs A B n' m' ∧ n' 6 0 16 = n 6 0 16 ∧ FQ As Bs (fun x => x = 1582 ∨ hiA x) n n' ∧ (∀ K, K ≠ 6 → K ≠ 27 → K ≠ 99 → n' K = n K) ∧ (∀ s, s ≠ 18 → s ≠ 19 → n' 6 0 s = n 6 0 s) ∧ FS (fun _ => False) n n' ∧ FY [6, 7, 8, 148, 149] m m')
    ∨ (N_Net_setOff n = some (nw n 6 0 16 1) ∧ N_Y_visitResult m = (N_Y_goTo m).bind N_Y_remember) := by
  obtain ⟨hJe, hH, hP⟩ := hJ
  have hJe' := hJe
  obtain ⟨hB, hJ, hAs, hSn⟩ := hJe'
  have hA := hJ.1
  have hbs := hJ.2.1
  have h2 := hJ.2.2.1.2.1
  have h4 := hJ.2.2.1.2.2.1
  obtain ⟨nm, ss, q, mk, hW, hC, hR⟩ := hT
  obtain ⟨bnm, bss, bq, bmk, hW2, hC2, hR2⟩ := hP
  have hty4 := (hA 1584 h4).1.2.1
  have hty2 := (hA 1582 h2).1.2.1
  obtain ⟨x, ex, hx⟩ := c_hasMark hA h4 hC
  obtain ⟨y, ey, hy⟩ := c_isAt hA h4 h2 hC hW hC2 hW2
  obtain ⟨u, eu, hu⟩ := y_alike hR hW hR2 hW2 (by decide) (by decide)
  have huy : u = y := bz_un hu hy
  subst huy
  have h8 : m 8 0 = (mk.length : Int) := hR.2.2.1
  have eC : N_Net_setOff n = if x = 0 then some (nw n 6 0 16 1) else if u = 0 then some (nw n 6 0 16 1) else (N_Address_copy 1582 1584 n).bind fun n23 => (N_Net_pushHistory n23).bind fun n27 => some n27 := by
    unfold N_Net_setOff nk_Net_setOff_42 ty st
    dsimp only
    rw [if_pos hty4, ex]
    simp only [Option.bind_some]
    rw [if_pos hty4, ey, if_pos hty2]
    rfl
  have e29 : nk_Y_visitResult_29 m = (N_Y_goTo m).bind N_Y_remember := by
    unfold nk_Y_visitResult_29
    congr 1
    funext m2
    exact bind_id
  have eY : N_Y_visitResult m = if 0 < m 8 0 then (if u = 0 then (N_Y_goTo m).bind N_Y_remember else (N_Y_copyRow 1 0 m).bind fun m11 => (N_Y_remember m11).bind fun m15 => some m15) else (N_Y_goTo m).bind N_Y_remember := by
    unfold N_Y_visitResult ix
    rw [if_pos (by decide), eu, e29]
    rfl
  by_cases hm : mk = []
  · have hx0 : x = 0 := bz_un hx (.inr ⟨rfl, fun z => z hm⟩)
    refine .inr ⟨by rw [eC, if_pos hx0], ?_⟩
    rw [eY, if_neg (by rw [h8, hm]; decide)]
  · have hx1 : x = 1 := bz_un hx (.inl ⟨rfl, hm⟩)
    have hpos : 0 < m 8 0 := by
      rw [h8]
      cases mk with
      | nil => exact absurd rfl hm
      | cons c l => rw [List.length_cons]; omega
    by_cases hu0 : u = 0
    · refine .inr ⟨by rw [eC, if_neg (by omega), if_pos hu0], ?_⟩
      rw [eY, if_pos hpos, if_pos hu0]
    · refine .inl ?_
      obtain ⟨n1, ec, s, t, hs0, en1, hCs⟩ := c_copy hA h2 h4 (by decide) hC hW
      obtain ⟨m1, er, y1⟩ := y_copyRow (m := m) (to := 1) (fr := 0) (by decide) (by decide) (by decide)
      have fq : FQ As Bs (fun x => x = 1582 ∨ hiA x) n n1 := by rw [en1]; exact FQ.aw hA hbs h2 (.inl rfl) hs0
      have fq' : FQ As Bs (fun x => x = 1582) n n1 := by rw [en1]; exact FQ.aw hA hbs h2 rfl hs0
      have f7 : FQ7 n n1 := by rw [en1]; exact FQ7.aw hA h2
      have kK : ∀ K, K ≠ 99 → n1 K = n K := fun K hK => by rw [en1]; exact aw_K hK
      have hB1 : BI A B n1 := by rw [en1]; exact hB.aw
      have fs : ∀ S : Int → Prop, FS S n n1 := fun S => by rw [en1]; exact FS.aw hA h2 hB
      have hP1 : AR n1 m1 1582 1 := ⟨nm, ss, q, mk, hW, by unfold CA; rw [en1, aw_a (hA 1582 h2).1.ne, hs0, aw_T]; exact hCs, y1.made hR hW⟩
      have hH1 : JHs As n1 m1 := hH.cg fq' (fun x hx => by unfold hiA; omega) (by rw [kK 6 (by decide)]; exact ⟨rfl, rfl⟩) (kK 27 (by decide)) ⟨y1.1 148 (by decide), y1.1 149 (by decide)⟩ (fun r a b => RwE.cp y1 (by omega))
      have hJ1 : JFe κ As Bs A B n1 m1 := hJe.cg hB1 fq' f7 (fun a ha => by omega) (fun K hK => kK K (by omega)) (fun s _ => by rw [kK 6 (by decide)]) ((fs (fun _ => False)).bt (by omega) (fun h => h.elim)) (fun f a b => y1.1 f (by simp only [List.mem_cons, List.not_mem_nil, or_false, not_or]; omega)) (fun r hr => RwE.cp y1 (by omega))
      obtain ⟨n2, m2, b1, b2, b3, b4, b5⟩ := push_both hH1 hJ1.2.1.1 hJ1.2.1.2.1 hB1 h2 hP1
      have k2 : ∀ K, K ≠ 6 → K ≠ 27 → K ≠ 99 → n2 K = n K := fun K a b c => by rw [b4.2.1 K a b c, kK K c]
      have hB2 : BI A B n2 := hB.cg (k2 4 (by decide) (by decide) (by decide)) (by rw [k2 5 (by decide) (by decide) (by decide)]; exact ⟨rfl, rfl⟩) (k2 90 (by decide) (by decide) (by decide)) (k2 91 (by decide) (by decide) (by decide)) (k2 92 (by decide) (by decide) (by decide)) (k2 93 (by decide) (by decide) (by decide))
      have hJ2 : JFe κ As Bs A B n2 m2 := hJ1.cg hB2 b4.1 b4.2.2.2.2 (fun a ha => by unfold hiA at ha; omega) (fun K hK => b4.2.1 K (by omega) (by omega) (by omega)) (fun s hs => b4.2.2.1 s (by omega) (by omega)) (b4.2.2.2.1.bt (by omega) (fun h => h.elim)) (fun f a b => b5.1 f (by simp only [List.mem_cons, List.not_mem_nil, or_false, not_or]; omega)) (fun r hr => b5.2 r (by omega))
      refine ⟨n2, m2, ?_, ?_, ⟨hJ2, b3, hP1.fq b4.1 h2 (by unfold hiA; decide) (b5.2 1 (by decide))⟩, by rw [b4.2.2.1 16 (by decide) (by decide), kK 6 (by decide)], fq.trans (b4.1.wid (fun x hx => .inr hx)), k2, fun s a b => by rw [b4.2.2.1 s a b, kK 6 (by decide)], (fs _).trans b4.2.2.2.1, fun f hf => ?_⟩
      · rw [eC, if_neg (by omega), if_neg hu0, ec]
        simp only [Option.bind_some]
        rw [b1]; rfl
      · rw [eY, if_pos hpos, if_neg hu0, er]
        simp only [Option.bind_some]
        rw [b2]; rfl
      · rw [b5.1 f hf, y1.1 f (by simp only [List.mem_cons, List.not_mem_nil, or_false, not_or] at hf ⊢; exact ⟨hf.1, hf.2.1, hf.2.2.1⟩)]
end M5
