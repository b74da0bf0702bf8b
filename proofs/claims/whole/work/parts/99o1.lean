/-! A LISTENER: its script is taken, in both -/
section O1
variable {n n' n'' : NS} {m m' m'' : YS} {A B N N' k b a δ δ' fr to d L r r' q x f v c G i R M WW : Int} {o e p o' e' p' : Int → Int} {As Bs W S : Int → Prop} {κ κ' : Int → Int} {w : List Int} {wN : Nat}
theorem startScript_c (h : JA As Bs A B δ G n m) (hR : (0 ≤ R ∧ R ≤ 631) ∧ R ≠ 609) (hl : (bt n R).length ≤ 2000) :
    ∃ n', N_Acts_startScript R M n = some n' ∧ JA As Bs A B δ G n' m ∧ bt n' 609 = bt n R ∧ FC n n' m m ∧ (∀ s, s ≠ 12 → s ≠ 13 → n' 0 0 s = n 0 0 s) ∧ n' 0 0 12 = 0 ∧ n' 0 0 13 = M ∧ n' 6 = n 6 ∧ n' 46 = n 46 ∧ (∀ K, K ∉ [0, 4, 90, 91, 92, 93, 99] → n' K = n K) ∧ (∀ b, 0 ≤ b → b ≤ 631 → b ≠ 609 → bt n' b = bt n b) := by
  have hB := h.bi
  obtain ⟨n1, e1, a1, a2, a3⟩ := cs_clear (b := 609) (by decide) hB
  have hbR := a2.bts hB hR.1 hR.2 (fun x hx => by have hx : x = 609 := hx; omega)
  have b1 := a1.1 R hR.1.1 hR.1.2
  have hne : n1 4 R 1 ≠ n1 4 609 1 := fun z => hR.2 (a1.2.1 R 609 hR.1.1 hR.1.2 (by decide) (by decide) z)
  have hsz := bt_len hR.1 a1
  rw [hbR.2.2] at hsz
  obtain ⟨n2, e2, d1, d2, d3⟩ := cs_addAllA (b := 609) (a := n1 4 R 1) (g := n1 99 (n1 4 R 1)) (l := n1 4 R 2) (i := 0) (to := n1 4 R 2) (by decide) a1 ⟨b1.2.2.1, by have := b1.2.2.2.1.2.2; omega, fun _ _ _ => rfl⟩ b1.2.1.2 (Int.le_refl _) (Int.le_refl _) (by omega) hne
  have eb : sg (n1 99 (n1 4 R 1)) 0 (n1 4 R 2 - 0).toNat = bt n R := by
    rw [← hbR.2.2, show n1 4 R 2 - 0 = n1 4 R 2 by omega]; rfl
  rw [a3, List.nil_append, eb, show (lim 609).toNat = 2000 by decide, List.take_of_length_le hl] at d3
  have j2 := (h.rw9 a1 a2).rw9 d1 d2
  generalize hn3 : nw (nw n2 0 0 12 0) 0 0 13 M = n3
  have k3 : ∀ K, K ≠ 0 → n3 K = n2 K := fun K hK => by rw [← hn3, nw_nK hK, nw_nK hK]
  have s3 : ∀ s, s ≠ 12 → s ≠ 13 → n3 0 0 s = n2 0 0 s := fun s u z => by rw [← hn3, nw_ns z, nw_ns u]
  have f12 : FB (fun x => x = 609) n n2 := a2.trans d2
  have kk := f12.1
  refine ⟨n3, ?_, j2.cg (fun K a _ _ => k3 K a) (fun s hs => s3 s (by omega) (by omega)) (fun s _ => by rw [k3 6 (by decide)]) (fun _ _ => rfl), ?_, (FC.fb hB f12).trans (FC.k0 (fun K a _ _ => k3 K a) (fun s hs => s3 s (fun w => hs (by rw [w]; decide)) (fun w => hs (by rw [w]; decide))) (fun _ _ _ => rfl) (fun _ _ => rfl) (.inr rfl)), fun s u z => ?_, ?_, ?_, ?_, ?_, fun K c => ?_, fun b b0 b1 b2 => ?_⟩
  · unfold N_Acts_startScript
    rw [e1]
    simp only [Option.bind_some]
    unfold nn
    rw [if_pos b1.2.1.1, e2]
    simp only [Option.bind_some]
    unfold st
    dsimp only
    rw [hn3]
  · unfold bt at d3 ⊢
    rw [k3 4 (by decide), k3 99 (by decide)]; exact d3
  · rw [s3 s u z, kk 0 (by decide) (by decide) (by decide) (by decide) (by decide) (by decide)]
  · rw [← hn3, nw_ns (by decide), nw_eq]
  · rw [← hn3, nw_eq]
  · rw [k3 6 (by decide), kk 6 (by decide) (by decide) (by decide) (by decide) (by decide) (by decide)]
  · rw [k3 46 (by decide), kk 46 (by decide) (by decide) (by decide) (by decide) (by decide) (by decide)]
  · simp only [List.mem_cons, List.not_mem_nil, or_false, not_or] at c
    rw [k3 K (by omega), kk K (by omega) (by omega) (by omega) (by omega) (by omega) (by omega)]
  · have := (f12.bts hB ⟨b0, b1⟩ b2 (fun x hx => by have hx : x = 609 := hx; omega)).2.2
    rw [← this]
    unfold bt
    rw [k3 4 (by decide), k3 99 (by decide)]
/-- the script that has been laid, in both -/
theorem JRn.lay (hB : BI A B n) (hb : bt n 609 = sg (m 159) 0 (m 160 0).toNat) (hL : 0 ≤ m 160 0 ∧ m 160 0 ≤ 2000) (ht : ∀ c ∈ sg (m 159) 0 (m 160 0).toNat, isTx c) (hM : MkR (n 0 0 13) (m 161 0) (m 162 0)) (hE : ELm m (m 161 0) (m 162 0)) : JRn n m := by
  have hb9 := hB.1 609 (by decide) (by decide)
  have hsz : n 4 609 2 = m 160 0 := by
    have := bt_len (b := 609) (by decide) hB
    rw [hb, sg_len] at this; omega
  refine ⟨⟨hsz, hL⟩, ⟨hb9.2.2.1, by have := hb9.2.2.2.1.2.2; omega, fun j j0 j1 => ?_⟩, fun j j0 j1 => ?_, hM, hE⟩
  · unfold bt at hb
    rw [hsz] at hb
    have := sg_inj _ _ _ hb j.toNat (by omega)
    rw [show (0 : Int) + ((j.toNat : Nat) : Int) = j by omega] at this
    exact this
  · have := sg_at (g := m 159) (m 160 0).toNat 0 j.toNat (by omega)
    rw [show (0 : Int) + ((j.toNat : Nat) : Int) = j by omega] at this
    exact ht _ this
theorem listen_both (hA : JA As Bs A B 0 G n m) (hb : BUD n m) (hn : n 0 0 17 = -1 ∧ n 6 0 16 = 0) (hm : (m 163 0 = 0 ∨ m 163 0 = 1) ∧ m 152 0 = 0 ∧ m 153 0 = 0) (hi : n 0 0 15 = i ∧ 0 ≤ i ∧ i < 120) (hM : MkR (n 46 0 i) (m 179 i) (m 180 i)) (h69 : m 180 i ≤ m 69 0)
    (hcs : (if n 0 0 18 = 0 then 1000021 else if n 0 0 18 = -1 then 1000026 else 1000027) = wN) (hpk : ∀ n : NS, N_Bytes_pack_1 wN n = some (pk w)) (hw : ∀ c ∈ w, isBt c) (hWW : (0 ≤ WW ∧ WW < 36893488147419103232) ∧ wl WW = w) :
    ∃ n1, N_Acts_listenNext n = some n1 ∧ ((∃ z, N_Y_isThere i m = some z ∧ (z = 0 ∨ (z = 1 ∧ N_Y_listen i WW m = some m)) ∧ n1 = nw n 0 0 15 (i + 1))
      ∨ ∃ m1, N_Y_isThere i m = some 1 ∧ N_Y_listen i WW m = (N_Y_runScript m1).bind (fun m25 => some m25) ∧ RUN As Bs A B G n1 m1 ∧ n1 0 0 12 = 0 ∧ (m 45 (m 179 i) = 1 ∧ m 55 (m 179 i) = m 180 i ∧ m1 160 0 + 1 = olS w m (m 179 i)) ∧ FY [159, 160, 161, 162] m m1 ∧ FC n n1 m m1 ∧ n1 0 0 15 = i + 1 ∧ n1 46 = n 46 ∧ n1 0 0 16 = n 0 0 16 ∧ n1 0 0 18 = n 0 0 18) := by
  obtain ⟨hi15, hi0, hi1⟩ := hi
  have hg := hA
  obtain ⟨κ, N, o, e, p, _, hT, _⟩ := hg
  have hMv := hM.2.1
  have eal := c_alive hT.1.1 hM
  generalize hn13 : nw n 0 0 15 (i + 1) = n13
  have k13 : ∀ K, K ≠ 0 → n13 K = n K := fun K hK => by rw [← hn13, nw_nK hK]
  have s13 : ∀ s, s ≠ 15 → n13 0 0 s = n 0 0 s := fun s hs => by rw [← hn13, nw_ns hs]
  have hA13 : JA As Bs A B 0 G n13 m := hA.cg (fun K a _ _ => k13 K a) (fun s hs => s13 s (by omega)) (fun s _ => by rw [k13 6 (by decide)]) (fun _ _ => rfl)
  have f13 : FC n n13 m m := FC.k0 (fun K a _ _ => k13 K a) (fun s hs => s13 s (fun w => hs (by rw [w]; decide))) (fun _ _ _ => rfl) (fun _ _ => rfl) (.inr rfl)
  have h45 := (hT.1.1.2.2.2.1 _ hMv.1 hMv.2).1
  have eth : N_Y_isThere i m = some (if m 45 (m 179 i) = 1 ∧ m 55 (m 179 i) = m 180 i then 1 else 0) := by
    have ix1 : ∀ {α : Type} (x : Option α), ix i 120 x = x := fun x => by unfold ix; rw [if_pos ⟨hi0, hi1⟩]
    have ix2 : ∀ {α : Type} (x : Option α), ix (m 179 i) 120 x = x := fun x => by unfold ix; rw [if_pos hMv]
    unfold N_Y_isThere
    simp only [ix1, ix2]
    rcases h45 with y | y
    · rw [if_neg (by omega)]
      by_cases u : m 55 (m 179 i) = m 180 i
      · rw [if_pos u, if_pos ⟨y, u⟩]
      · rw [if_neg u, if_neg (fun z => u z.2)]
    · rw [if_pos y, if_neg (fun z => by omega)]
  have eC : N_Acts_listenNext n = if (if m 45 (m 179 i) = 1 ∧ m 55 (m 179 i) = m 180 i then m 179 i else -1) = -1 then some n13 else nk_Acts_listenNext_62 (n 46 0 i) (if m 45 (m 179 i) = 1 ∧ m 55 (m 179 i) = m 180 i then m 179 i else -1) wN n13 := by
    have e18 := s13 18 (by decide)
    unfold N_Acts_listenNext
    rw [hi15, eal]
    simp only [Option.bind_some]
    unfold ix ck st
    dsimp only
    rw [if_pos ⟨hi0, hi1⟩, if_pos (by omega), hn13, e18, ← hcs]
    congr 1
    split
    · rfl
    · split <;> rfl
  by_cases hal : m 45 (m 179 i) = 1 ∧ m 55 (m 179 i) = m 180 i
  · rw [if_pos hal] at eth
    rw [if_pos hal, if_neg (by omega)] at eC
    obtain ⟨k, k0, k1, hk⟩ := (hT.1.1.2.2.2.1 _ hMv.1 hMv.2).2.1.mp hal.1
    have hd := hT.1.2.2.2 k k0 k1
    rw [hk] at hd
    have hd13 : ND n13 m (m 179 i) := by
      have := (hT.1.ks (n' := n13) (fun K hK => k13 K (by omega))).2.2.2 k k0 k1
      rw [hk] at this; exact this
    generalize hv : m 179 i = v at *
    have f0 := fnd_b (m := m) (f := v) (w := w)
    have er : N_Node_read v wN n13 = some (if fnd m v w < m 56 v then 5 * v + 1 + fnd m v w else -1) := by
      unfold N_Node_read
      rw [hpk n13]
      simp only [Option.bind_some]
      rw [c_find hd13 hw]
      simp only [Option.bind_some]
      split
      · rw [if_neg (by omega)]
      · rw [if_pos (by decide)]
    have eL : N_Y_listen i WW m = nk_Y_listen_31 v (if fnd m v w < m 56 v then 4 * v + fnd m v w else -1) m := by
      have ix1 : ∀ {α : Type} (x : Option α), ix i 120 x = x := fun x => by unfold ix; rw [if_pos ⟨hi0, hi1⟩]
      have ix2 : ∀ {α : Type} (x : Option α), ix v 120 x = x := fun x => by unfold ix; rw [if_pos hMv]
      unfold N_Y_listen
      rw [ix1, hv, ix2]
      by_cases h17 : m 46 v = 17
      · have := (hd.2.2.2.2.1 h17).2.2.2.2
        rw [if_pos h17, if_neg (by omega)]
      · rw [if_neg h17, y_find hd hMv hWW.1, hWW.2]; rfl
    by_cases hf : fnd m v w < m 56 v
    · rw [if_pos hf] at er eL
      have ha := hd.2.2.2.1 _ f0 hf
      have h4 := hd.2.2.1.2.2
      have h17 : m 46 v ≠ 17 := fun y => by have := (hd.2.2.2.2.1 y).2.2.2.2; omega
      have hbt : bt n13 (5 * v + 1 + fnd m v w) = avL m v (fnd m v w) := by
        unfold bt
        rw [k13 4 (by decide), k13 99 (by decide)]; exact ha.2.2.2.2.2
      have hlen : ((avL m v (fnd m v w)).length : Int) = m 60 (4 * v + fnd m v w) := by unfold avL; rw [sg_len]; have := ha.2.2.2.1; omega
      have h60 := ha.2.2.2.1
      obtain ⟨n1, t1, t2, t3, t4, t5, t6, t7, t8, t9, _, _⟩ := startScript_c (R := 5 * v + 1 + fnd m v w) (M := n 46 0 i) hA13 ⟨by omega, by omega⟩ (by rw [hbt]; omega)
      rw [hbt] at t3
      generalize hA4 : 4 * v + fnd m v w = a4 at *
      have ha4 : 0 ≤ a4 ∧ a4 < 480 := by omega
      generalize hm7 : yw m 160 0 (m 60 a4) = m7
      have y7 : ∀ g, g ≠ 160 → m7 g = m g := fun g hg => by rw [← hm7, yw_nF hg]
      have e160 : m7 160 0 = m 60 a4 := by rw [← hm7, yw_eq]
      obtain ⟨m10, ec, c1, c2, c3⟩ : ev (NL_Y_listen_54 v a4 0 m7) (fun m' => FY [159] m7 m' ∧ (∀ j, 0 ≤ j → j < m 60 a4 → m' 159 (0 + j) = m7 59 (60 * a4 + j)) ∧ ∀ j, ¬ (0 ≤ j ∧ j < 0 + m 60 a4) → m' 159 j = m7 159 j) := by
        unfold NL_Y_listen_54
        refine y_copy (F := 159) (G := 59) (K := m 60 a4) (a := 0) (b := 60 * a4) (by decide) h60.1 (fun k m9 f9 k0 k1 => ?_) (fun m9 f9 => ?_)
        · show nb_Y_listen_54 v a4 k m9 = _
          unfold nb_Y_listen_54 ck ix st
          dsimp only
          rw [f9 160 (by decide), e160, if_pos k1, if_pos (by omega), if_pos (by omega), if_pos (by omega), if_pos (by omega), if_pos (by omega), show (0 : Int) + k = k by omega]
        · show nb_Y_listen_54 v a4 (m 60 a4) m9 = _
          unfold nb_Y_listen_54
          rw [f9 160 (by decide), e160, if_neg (by omega)]
      generalize hm21 : yw (yw m10 161 0 v) 162 0 (m 55 v) = m21
      have y21 : ∀ g, g ≠ 161 → g ≠ 162 → m21 g = m10 g := fun g u z => by rw [← hm21, yw_nF z, yw_nF u]
      have fy : FY [159, 160, 161, 162] m m21 := fun g hg => by
        simp only [List.mem_cons, List.not_mem_nil, or_false, not_or] at hg
        rw [y21 g hg.2.2.1 hg.2.2.2, c1 g (by simp only [List.mem_cons, List.not_mem_nil, or_false]; exact hg.1), y7 g hg.2.1]
      have e160' : m21 160 0 = m 60 a4 := by rw [y21 160 (by decide) (by decide), c1 160 (by decide)]; exact e160
      have esg : sg (m21 159) 0 (m21 160 0).toNat = avL m v (fnd m v w) := by
        rw [e160']
        unfold avL
        rw [hA4]
        refine sg_cg _ _ _ (fun x hx => ?_)
        rw [y21 159 (by decide) (by decide), c2 x (by omega) (by omega), y7 59 (by decide)]
      refine ⟨n1, ?_, .inr ⟨m21, eth, ?_, ⟨?_, ?_, ?_, ⟨?_, ?_⟩, ?_, ?_, ?_⟩, t6, ⟨hal.1, hal.2, ?_⟩, fy, (f13.trans t4).trans (FC.k0 (fun _ _ _ _ => rfl) (fun _ _ => rfl) (fun g a _ => fy g (by simp only [List.mem_cons, List.not_mem_nil, or_false, not_or]; omega)) (fun g a => fy g (by simp only [List.mem_cons, List.not_mem_nil, or_false, not_or]; omega)) (.inr (by rw [fy 126 (by decide)]))), ?_, ?_, ?_, ?_⟩⟩
      · rw [eC]
        unfold nk_Acts_listenNext_62 ix
        rw [if_pos hMv, er]
        simp only [Option.bind_some]
        rw [if_neg (by omega), t1]; rfl
      · rw [eL]
        unfold nk_Y_listen_31 ix st
        dsimp only
        rw [if_neg (by omega), if_pos ha4, hm7, ec]
        simp only [Option.bind_some]
        rw [if_pos hMv, yw_nF (show (55 : Nat) ≠ 161 by decide), c1 55 (by decide), y7 55 (by decide), hm21]
      · exact t2.cg (fun _ _ _ _ => rfl) (fun _ _ => rfl) (fun _ _ => rfl) (fun g hg => fy g (fun z => hg (by simp only [List.mem_cons, List.not_mem_nil, or_false] at z ⊢; omega)))
      · refine JRn.lay t2.bi (by rw [t3, esg]) (by rw [e160']; omega) (by rw [esg]; exact ha.2.2.2.2.1) ?_ ?_
        · rw [t7, ← hm21, yw_nF (show (161 : Nat) ≠ 162 by decide), yw_eq, yw_eq, hal.2]; exact hM
        · rw [← hm21, yw_nF (show (161 : Nat) ≠ 162 by decide), yw_eq, yw_eq, hm21]
          refine ⟨by rw [fy 69 (by decide), hal.2]; exact h69, fun _ _ => by rw [fy 46 (by decide)]; exact h17⟩
      · unfold BUD at *
        rw [t5 9 (by decide) (by decide), s13 9 (by decide), fy 158 (by decide), fy 154 (by decide)]; exact hb
      · rw [t5 17 (by decide) (by decide), s13 17 (by decide)]; exact hn.1
      · rw [t8, k13 6 (by decide)]; exact hn.2
      · rw [fy 163 (by decide)]; exact hm.1
      · rw [fy 152 (by decide)]; exact hm.2.1
      · rw [fy 153 (by decide)]; exact hm.2.2
      · rw [e160']
        unfold olS
        rw [if_pos hf, hA4]
      · rw [t5 15 (by decide) (by decide), ← hn13, nw_eq]
      · rw [t9, k13 46 (by decide)]
      · rw [t5 16 (by decide) (by decide), s13 16 (by decide)]
      · rw [t5 18 (by decide) (by decide), s13 18 (by decide)]
    · rw [if_neg hf] at er eL
      refine ⟨n13, ?_, .inl ⟨1, eth, .inr ⟨rfl, ?_⟩, rfl⟩⟩
      · rw [eC]
        unfold nk_Acts_listenNext_62 ix
        rw [if_pos hMv, er]
        simp only [Option.bind_some]
        rw [if_pos (by decide)]
      · rw [eL]
        unfold nk_Y_listen_31
        rw [if_pos rfl]
  · rw [if_neg hal] at eth
    rw [if_neg hal, if_pos rfl] at eC
    exact ⟨n13, eC, .inl ⟨0, eth, .inl rfl, rfl⟩⟩
end O1
