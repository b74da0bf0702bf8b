/-! A CLASS IS SET, in both: all of it -/
section L4
variable {n n' : NS} {m m' : YS} {A B N k v a d fr to L i c : Int} {o e p g : Int → Int} {w : List Int}
theorem setClass_both (hT : JT n m N o e p) (hP : JP m N o p) (hB : BI A B n) (h0 : 0 ≤ k) (h1 : k < N) (hv : o k = v) (h17 : m 46 v ≠ 17) (h164 : m 164 0 = v) (hc : 0 ≤ n 10 0 6 ∧ n 10 0 6 < 1000000000)
    (hs : tx n d g L) (hdb : 0 ≤ d ∧ d < n 90 0 0) (hdr : ∀ b, 0 ≤ b → b ≤ 604 → n 4 b 1 ≠ d) (hft : 0 ≤ fr ∧ fr ≤ to ∧ to ≤ L ∧ L ≤ 2000) (hg : ∀ j, fr ≤ j → j < to → m 159 j = g j ∧ isTx (g j)) :
    ∃ n' m', N_Tree_setClass v d fr to n = some n' ∧ N_Y_setClass fr to m = some m' ∧ JT n' m' N o e p ∧ JP m' N o p ∧ BI A B n' ∧ FRR n n' ∧ FY [56, 57, 58, 59, 60] m m' ∧ n' 10 0 6 ≤ n 10 0 6 + 1 ∧ OLV m m' ∧ LYc n n' m m' ∧ JFk n n' m m' := by
  have hG := hT.1.1
  have hvb := hG.oB h0 h1
  rw [hv] at hvb
  have hd := hT.2.2.2 k h0 h1
  rw [hv] at hd
  have hwb : ∀ c ∈ wClass, isBt c := by decide
  have eF := c_find hd hwb
  have eA := y_find (W := 20546947) hd hvb (by decide)
  have ewl : wl 20546947 = wClass := by decide
  rw [ewl] at eA
  have epk : N_Bytes_pack_1 1000025 n = some (pk wClass) := cs_packW okS25 hwb (by decide)
  have hc3 := hd.2.2.1
  have f0 := fnd_b (m := m) (f := v) (w := wClass)
  have fle := fnd_le (v := v) (w := wClass) hc3.2.1
  generalize hl : (sg g fr (to - fr).toNat).take 60 = l
  have hsg : (sg (m 159) fr (to - fr).toNat).take 60 = l := by
    rw [← hl]
    congr 1
    exact sg_cg _ _ _ (fun x hx => (hg _ (by omega) (by omega)).1)
  have hltx : ∀ c ∈ l, isTx c := fun c hc => by
    rw [← hl] at hc
    exact sg_mem (P := isTx) _ _ (fun x hx => (hg _ (by omega) (by omega)).2) c (List.mem_of_mem_take hc)
  -- a row is written
  have row : ∀ nx i, BI A B nx → 0 ≤ i ∧ i < 4 → tx nx d g L → d < nx 90 0 0 → (∀ b, 0 ≤ b → b ≤ 604 → nx 4 b 1 ≠ d) → nx 10 0 6 = n 10 0 6 → ∃ n', nk_Tree_setClass_38 d fr to (5 * v + 1 + i) nx = some n' ∧ BI A B n' ∧ FB (fun x => x = 5 * v + 1 + i) nx (nw n' 10 0 6 (n 10 0 6)) ∧ bt n' (5 * v + 1 + i) = l ∧ (∀ K, K ∉ [4, 10, 90, 91, 92, 93, 99] → n' K = nx K) ∧ (∀ s, s ≠ 6 → n' 10 0 s = nx 10 0 s) ∧ n' 10 0 6 = n 10 0 6 + 1 ∧ FRR nx n' ∧ (∀ b, 0 ≤ b → b ≤ 631 → b ≠ 5 * v + 1 + i → bt n' b = bt nx b) := fun nx i x1 x2 x3 x4 x5 x6 => by
    obtain ⟨n1, e1, a1, a2, a3⟩ := cs_clear (b := 5 * v + 1 + i) (by omega) x1
    have tx1 : tx n1 d g L := a2.tx x3 x4 (fun b hb => by subst hb; exact fun z => x5 (5 * v + 1 + i) (by omega) (by omega) z.symm)
    obtain ⟨n2, e2, b1, b2, b3⟩ := cs_addAllA (b := 5 * v + 1 + i) (a := d) (g := g) (l := L) (i := fr) (to := to) (by omega) a1 tx1 (by have := a2.2.2.1; omega) hft.1 hft.2.2.1 (by omega) (fun z => by
      rcases a2.2.2.2.2.2 (5 * v + 1 + i) rfl with y | y
      · rw [y] at z; exact x5 _ (by omega) (by omega) z.symm
      · omega)
    have fb := a2.trans b2
    have e10 : n2 10 = nx 10 := fb.1 10 (by decide) (by decide) (by decide) (by decide) (by decide) (by decide)
    have e6 : n2 10 0 6 = n 10 0 6 := by rw [e10]; exact x6
    have hlim : (lim (5 * v + 1 + i)).toNat = 60 := by
      unfold lim
      rw [if_pos (by omega), if_neg (by omega)]; rfl
    rw [a3, List.nil_append, hlim, hl] at b3
    have k3 : ∀ K, K ≠ 10 → nw n2 10 0 6 (n 10 0 6 + 1) K = n2 K := fun K hK => nw_nK hK
    refine ⟨nw n2 10 0 6 (n 10 0 6 + 1), ?_, b1.cg (k3 4 (by decide)) (by rw [k3 5 (by decide)]; exact ⟨rfl, rfl⟩) (k3 90 (by decide)) (k3 91 (by decide)) (k3 92 (by decide)) (k3 93 (by decide)), ?_, ?_, fun K c => ?_, fun s hs => ?_, nw_eq, ?_, fun b u v w => ?_⟩
    · unfold nk_Tree_setClass_38
      rw [if_neg (by omega), e1]
      simp only [Option.bind_some]
      rw [e2]
      simp only [Option.bind_some]
      unfold ck st
      rw [e6, if_pos (by omega)]
    · have : nw (nw n2 10 0 6 (n 10 0 6 + 1)) 10 0 6 (n 10 0 6) = n2 := by
        funext K i s
        simp only [nw_app]
        split
        · next y => rw [y.1, y.2.1, y.2.2]; exact e6.symm
        · rfl
      rw [this]; exact fb
    · unfold bt at b3 ⊢
      rw [k3 4 (by decide), k3 99 (by decide)]; exact b3
    · simp only [List.mem_cons, List.not_mem_nil, or_false, not_or] at c
      rw [k3 K (by omega)]
      exact fb.1 K (by omega) (by omega) (by omega) (by omega) (by omega) (by omega)
    · rw [nw_ns hs, e10]
    · refine (FRR.fb fb (fun x hx => by omega)).trans (FRR.ks (fun K c => nw_nK (fun z => c (by rw [z]; decide))) ?_)
      rw [nw_eq, e6]; omega
    · have := (fb.bts x1 ⟨u, v⟩ w (fun x hx => by omega)).2.2
      rw [← this]
      unfold bt
      rw [k3 4 (by decide), k3 99 (by decide)]
  unfold N_Tree_setClass N_Y_setClass
  rw [h164, epk]
  simp only [Option.bind_some]
  rw [eF, eA]
  simp only [Option.bind_some]
  have hix : ∀ {α : Type} (x : Option α), ix v 120 x = x := fun x => by unfold ix; rw [if_pos hvb]
  simp only [hix]
  by_cases hf : fnd m v wClass < m 56 v
  · rw [if_pos hf, if_pos hf, if_neg (show ¬ 5 * v + 1 + fnd m v wClass < 0 by omega), if_neg (show ¬ 4 * v + fnd m v wClass = -1 by omega)]
    generalize hii : fnd m v wClass = i at *
    have hat := fnd_at (m := m) (v := v) (w := wClass) (by rw [hii]; exact hf)
    rw [hii] at hat
    obtain ⟨n', r1, r2, r3, r4, r5, r6, r7, r8, r9⟩ := row n i hB ⟨f0, by omega⟩ hs hdb.2 hdr rfl
    obtain ⟨m', ey, y1, y2, y3, y4, y5⟩ := y_class116 (m := m) (a := 4 * v + i) (fr := fr) (to := to) (by omega) (by omega)
    have e56 : m' 56 = m 56 := y1 56 (by decide)
    have h58e : m 58 (4 * v + i) = 5 := by
      have := congrArg List.length hat
      unfold anL at this
      rw [sg_len] at this
      have h8 := (hd.2.2.2.1 i f0 hf).1
      have : (m 58 (4 * v + i)).toNat = 5 := this
      omega
    have hnd : ND n' m' v := hd.setA (i := i) (c := m 56 v) (w := l) h17 ⟨f0, hf, hc3.2.2⟩ (.inl ⟨hf, rfl, hat⟩) ⟨by rw [r5 7 (by decide)]; exact hc3.1, fun s _ => by rw [r5 7 (by decide)]⟩ ⟨by rw [r5 18 (by decide), (hd.2.2.2.1 i f0 hf).2.2.1, hat], fun a _ => by rw [r5 18 (by decide)]⟩ ⟨r4, fun b u w q => r9 b (by omega) (by omega) q⟩ (y1.sub (by decide)) (by rw [e56]) ⟨by rw [y1 58 (by decide)]; exact h58e, fun a _ => by rw [y1 58 (by decide)]⟩ ⟨by rw [y3]; omega, by rw [y3]; omega, fun a q => y2 _ (by omega)⟩ (by unfold anL at hat ⊢; rw [y1 57 (by decide), y1 58 (by decide)]; exact hat) (by unfold avL; rw [y4]; exact hsg) hltx (fun a _ _ _ j _ _ => by rw [y1 57 (by decide)]) (fun a _ _ q j u w => y5 j (by omega))
    have yg : ∀ u, u ≠ v → YG m m' u := fun u hu => ⟨⟨by rw [y1 46 (by decide)], by rw [y1 48 (by decide)], by rw [e56], by rw [y1 62 (by decide)], by rw [y1 65 (by decide)], by rw [y1 66 (by decide)]⟩, fun j _ _ => by rw [y1 47 (by decide)], fun j x y => ⟨by rw [y1 58 (by decide)], y2 j (by omega)⟩, fun j _ _ => by rw [y1 57 (by decide)], fun j x y => y5 j (by omega), fun j _ _ => by rw [y1 61 (by decide)], fun j _ _ => by rw [y1 64 (by decide)]⟩
    have olv : OLV m m' := fun ww hw u u0 u1 x => by
      rw [y1 45 (by decide)] at x
      refine .inl ⟨x, by rw [y1 55 (by decide)], ?_⟩
      by_cases hu : u = v
      · subst hu
        have eF : fnd m' u ww = fnd m u ww := by
          unfold fnd anL
          rw [y1 56 (by decide), y1 57 (by decide), y1 58 (by decide)]
        unfold olS
        rw [eF, e56]
        split
        · next z =>
          rw [y2 _ (fun w => by
            have h1 := fnd_at z
            have : fnd m u ww = i := by omega
            rw [this, hat] at h1; exact hw h1.symm)]
        · rfl
      · exact olS_cg (hT.nd u0 u1 x) (yg u hu)
    refine ⟨n', m', r1, ey, hT.data h0 h1 hv (fun u s _ _ _ => by rw [r5 7 (by decide)]) r6 (.inr (by omega)) (r5 22 (by decide)) (fun f hf => y1 f (by simp only [List.mem_cons, List.not_mem_nil, or_false, not_or]; omega)) yg (fun u u0 u1 hu => ⟨fun s _ => by rw [r5 7 (by decide)], by rw [r5 18 (by decide)], fun b x y => r9 b (by omega) (by omega) (by omega)⟩) hnd, by unfold JP; rw [y1 46 (by decide)]; exact hP, r2, r8, y1.sub (by decide), by omega, olv, .inl (by omega), ⟨r5 8 (by decide), r5 28 (by decide), r5 29 (by decide)⟩, fun f hf => y1 f (by simp only [List.mem_cons, List.not_mem_nil, or_false, not_or]; omega)⟩
  · rw [if_neg hf, if_neg hf, if_pos (show (-1 : Int) < 0 by decide), if_pos (show (-1 : Int) = -1 from rfl)]
    by_cases h4 : m 56 v = 4
    · rw [if_pos h4]
      refine ⟨n, m, ?_, rfl, hT, hP, hB, FRR.refl n, fun _ _ => rfl, by omega, OLV.refl m, LYc.refl n m, JFk.refl n m⟩
      unfold N_Node_addAttribute
      rw [hc3.1, if_pos h4]
      rfl
    · rw [if_neg h4]
      -- the class takes a new one
      generalize hna : nw n 18 v (m 56 v) (pk wClass) = na
      have ka : ∀ K, K ≠ 18 → na K = n K := fun K hK => by rw [← hna]; exact nw_nK hK
      have hBa : BI A B na := by rw [← hna]; exact hB.n18
      obtain ⟨nb, eb, b1, b2, b3⟩ := cs_clear (b := 5 * v + 1 + m 56 v) (by omega) hBa
      have e7b : nb 7 = n 7 := by rw [b2.1 7 (by decide) (by decide) (by decide) (by decide) (by decide) (by decide), ka 7 (by decide)]
      generalize hnc : nw nb 7 v 12 (m 56 v + 1) = nc
      have kc : ∀ K, K ≠ 7 → nc K = nb K := fun K hK => by rw [← hnc]; exact nw_nK hK
      have eAdd : N_Node_addAttribute v (pk wClass) n = some (5 * v + 1 + m 56 v, nc) := by
        unfold N_Node_addAttribute ix st ck
        dsimp only
        rw [hc3.1, if_neg h4, hna, ka 7 (by decide), hc3.1, eb]
        simp only [Option.bind_some]
        rw [e7b, hc3.1, hnc, if_pos (by omega), if_pos (by omega), if_pos (by omega)]
      rw [eAdd]
      have txa : tx na d g L := ⟨by rw [ka 92 (by decide)]; exact hs.1, by rw [ka 93 (by decide)]; exact hs.2.1, by rw [ka 99 (by decide)]; exact hs.2.2⟩
      have txb : tx nb d g L := b2.tx txa (by rw [ka 90 (by decide)]; exact hdb.2) (fun b hb => by subst hb; rw [ka 4 (by decide)]; exact fun z => hdr _ (by omega) (by omega) z.symm)
      have row4 : ∀ b, 0 ≤ b → b ≤ 604 → nb 4 b 1 ≠ d := fun b x y z => by
        by_cases q : b = 5 * v + 1 + m 56 v
        · rcases b2.2.2.2.2.2 b q with w | w
          · rw [w, ka 4 (by decide)] at z; exact hdr b x y z
          · rw [ka 90 (by decide)] at w; omega
        · rw [b2.2.1 b q, ka 4 (by decide)] at z; exact hdr b x y z
      have hBc : BI A B nc := by rw [← hnc]; exact b1.n7
      have e10b : nb 10 = n 10 := by rw [b2.1 10 (by decide) (by decide) (by decide) (by decide) (by decide) (by decide), ka 10 (by decide)]
      have e18b : nb 18 = na 18 := b2.1 18 (by decide) (by decide) (by decide) (by decide) (by decide) (by decide)
      obtain ⟨n', r1, r2, r3, r4, r5, r6, r7, r8, r9⟩ := row nc (m 56 v) hBc ⟨hc3.2.1, by omega⟩ ⟨by rw [kc 92 (by decide)]; exact txb.1, by rw [kc 93 (by decide)]; exact txb.2.1, by rw [kc 99 (by decide)]; exact txb.2.2⟩ (by rw [kc 90 (by decide)]; have := b2.2.2.1; rw [ka 90 (by decide)] at this; omega) (by rw [kc 4 (by decide)]; exact row4) (by rw [kc 10 (by decide), e10b])
      -- the reference
      have hvb4 : 0 ≤ 4 * v + m 56 v ∧ 4 * v + m 56 v < 480 := by omega
      generalize hma : yw m 56 v (m 56 v + 1) = ma
      have fa : FY [56] m ma := fun f hf => by rw [← hma]; exact yw_nF (by simp only [List.mem_cons, List.not_mem_nil, or_false] at hf; exact hf)
      generalize hmb : yw ma 58 (4 * v + m 56 v) 5 = mb
      have fb : FY [58] ma mb := fun f hf => by rw [← hmb]; exact yw_nF (by simp only [List.mem_cons, List.not_mem_nil, or_false] at hf; exact hf)
      obtain ⟨mc, ec, c1, c2, c3⟩ := y_class76 (m := mb) (v1 := fr) (v2 := to) (a := 4 * v + m 56 v) hvb4
      obtain ⟨m', ey, y1, y2, y3, y4, y5⟩ := y_class116 (m := mc) (a := 4 * v + m 56 v) (fr := fr) (to := to) hvb4 (by omega)
      have hFY : FY [56, 57, 58, 59, 60] m m' := fun f hf => by
        simp only [List.mem_cons, List.not_mem_nil, or_false, not_or] at hf
        rw [y1 f (by simp only [List.mem_cons, List.not_mem_nil, or_false, not_or]; omega), c1 f (by simp only [List.mem_cons, List.not_mem_nil, or_false]; omega), fb f (by simp only [List.mem_cons, List.not_mem_nil, or_false]; omega), fa f (by simp only [List.mem_cons, List.not_mem_nil, or_false]; omega)]
      have s56 : ∀ u, m' 56 u = if u = v then m 56 v + 1 else m 56 u := fun u => by
        rw [y1 56 (by decide), c1 56 (by decide), fb 56 (by decide), ← hma]
        split
        · next y => rw [y, yw_eq]
        · next y => rw [yw_ni y]
      have s58 : ∀ j, m' 58 j = if j = 4 * v + m 56 v then 5 else m 58 j := fun j => by
        rw [y1 58 (by decide), c1 58 (by decide), ← hmb]
        split
        · next y => rw [y, yw_eq]
        · next y => rw [yw_ni y, fa 58 (by decide)]
      have s57 : ∀ j, ¬ (8 * (4 * v + m 56 v) ≤ j ∧ j < 8 * (4 * v + m 56 v) + 8) → m' 57 j = m 57 j := fun j hj => by rw [y1 57 (by decide), c3 j hj, fb 57 (by decide), fa 57 (by decide)]
      have s59 : ∀ j, ¬ (60 * (4 * v + m 56 v) ≤ j ∧ j < 60 * (4 * v + m 56 v) + 60) → m' 59 j = m 59 j := fun j hj => by rw [y5 j hj, c1 59 (by decide), fb 59 (by decide), fa 59 (by decide)]
      have s60 : ∀ j, j ≠ 4 * v + m 56 v → m' 60 j = m 60 j := fun j hj => by rw [y2 j hj, c1 60 (by decide), fb 60 (by decide), fa 60 (by decide)]
      have e159 : mc 159 = m 159 := by rw [c1 159 (by decide), fb 159 (by decide), fa 159 (by decide)]
      rw [e159, hsg] at y4
      have n7 : ∀ u s, (u ≠ v ∨ s ≠ 12) → n' 7 u s = n 7 u s := fun u s h => by
        rw [r5 7 (by decide), ← hnc, nw_app, if_neg (by omega), e7b]
      have n18 : ∀ u s, (u ≠ v ∨ s ≠ m 56 v) → n' 18 u s = n 18 u s := fun u s h => by
        rw [r5 18 (by decide), kc 18 (by decide), e18b, ← hna, nw_app, if_neg (by omega)]
      have btn : ∀ b, 0 ≤ b → b ≤ 631 → b ≠ 5 * v + 1 + m 56 v → bt n' b = bt n b := fun b x y z => by
        rw [r9 b x y z]
        have q1 : bt nc b = bt nb b := by unfold bt; rw [kc 4 (by decide), kc 99 (by decide)]
        have q2 := (b2.bts hBa ⟨x, y⟩ z (fun x hx => by omega)).2.2
        have q3 : bt na b = bt n b := by unfold bt; rw [ka 4 (by decide), ka 99 (by decide)]
        rw [q1, q2, q3]
      have hnd : ND n' m' v := hd.setA (i := m 56 v) (c := m 56 v + 1) (w := l) h17 ⟨hc3.2.1, by omega, by omega⟩ (.inr ⟨rfl, rfl⟩) ⟨by rw [r5 7 (by decide), ← hnc, nw_eq], fun s hs => n7 v s (.inr hs)⟩ ⟨by rw [r5 18 (by decide), kc 18 (by decide), e18b, ← hna, nw_eq], fun a ha => n18 v a (.inr ha)⟩ ⟨r4, fun b u w q => btn b (by omega) (by omega) q⟩ hFY (by rw [s56, if_pos rfl]) ⟨by rw [s58, if_pos rfl], fun a ha => by rw [s58, if_neg (by omega)]⟩ ⟨by rw [y3]; omega, by rw [y3]; omega, fun a q => s60 _ (by omega)⟩ (by
          unfold anL
          rw [s58, if_pos rfl, y1 57 (by decide)]; exact c2) (by unfold avL; exact y4) hltx (fun a a0 a1 q j u w => s57 j (by omega)) (fun a a0 a1 q j u w => s59 j (by omega))
      have jk : ∀ K, K = 8 ∨ K = 28 ∨ K = 29 → n' K = n K := fun K hK => by rw [r5 K (by simp only [List.mem_cons, List.not_mem_nil, or_false, not_or]; omega), kc K (by omega), b2.1 K (by omega) (by omega) (by omega) (by omega) (by omega) (by omega), ka K (by omega)]
      have yg : ∀ u, u ≠ v → YG m m' u := fun u hu => ⟨⟨by rw [hFY 46 (by decide)], by rw [hFY 48 (by decide)], by rw [s56, if_neg hu], by rw [hFY 62 (by decide)], by rw [hFY 65 (by decide)], by rw [hFY 66 (by decide)]⟩, fun j _ _ => by rw [hFY 47 (by decide)], fun j x y => ⟨by rw [s58, if_neg (by omega)], s60 j (by omega)⟩, fun j x y => s57 j (by omega), fun j x y => s59 j (by omega), fun j _ _ => by rw [hFY 61 (by decide)], fun j _ _ => by rw [hFY 64 (by decide)]⟩
      have olv : OLV m m' := fun ww hw u u0 u1 x => by
        rw [hFY 45 (by decide)] at x
        refine .inl ⟨x, by rw [hFY 55 (by decide)], ?_⟩
        by_cases hu : u = v
        · subst hu
          have keep := fnd_keep (m := m) (m' := m') (v := u) (w := ww) ⟨hc3.2.1, by rw [s56, if_pos rfl]; omega⟩ (fun a a0 a1 => by
            have ha := (hd.2.2.2.1 a a0 a1).1
            unfold anL
            rw [s58, if_neg (by omega)]
            exact sg_cg _ _ _ (fun x hx => s57 _ (by omega))) (fun a a0 a1 => by
            rw [s56, if_pos rfl] at a1
            have : a = m 56 u := by omega
            subst this
            have : anL m' u (m 56 u) = wClass := by
              unfold anL
              rw [s58, if_pos rfl, y1 57 (by decide)]; exact c2
            rw [this]; exact fun q => hw q.symm)
          unfold olS
          by_cases z : fnd m u ww < m 56 u
          · obtain ⟨k1, k2⟩ := keep.1 z
            rw [if_pos z, if_pos k2, k1]
            rw [s60 _ (by omega)]
          · rw [if_neg z, if_neg (keep.2 z)]
        · exact olS_cg (hT.nd u0 u1 x) (yg u hu)
      refine ⟨n', m', ?_, ?_, hT.data h0 h1 hv (fun u s q _ _ => n7 u s (.inr q)) (fun s hs => by rw [r6 s hs, kc 10 (by decide), e10b]) (.inr (by omega)) (by rw [r5 22 (by decide), kc 22 (by decide), b2.1 22 (by decide) (by decide) (by decide) (by decide) (by decide) (by decide), ka 22 (by decide)]) (fun f hf => hFY f (by simp only [List.mem_cons, List.not_mem_nil, or_false, not_or]; omega)) yg (fun u u0 u1 hu => ⟨fun s _ => n7 u s (.inl hu), by funext s; exact n18 u s (.inl hu), fun b x y => btn b (by omega) (by omega) (by omega)⟩) hnd, by unfold JP; rw [hFY 46 (by decide)]; exact hP, r2, ?_, hFY, by omega, olv, .inl (by omega), ⟨jk 8 (by omega), jk 28 (by omega), jk 29 (by omega)⟩, fun f hf => hFY f (by simp only [List.mem_cons, List.not_mem_nil, or_false, not_or]; omega)⟩
      · show (if 5 * v + 1 + m 56 v < 0 then nk_Tree_setClass_38 d fr to (-1) nc else nk_Tree_setClass_38 d fr to (5 * v + 1 + m 56 v) nc) = _
        rw [if_neg (by omega)]; exact r1
      · unfold ck ix st
        dsimp only
        rw [if_pos (by omega), if_pos (by omega), if_pos (by omega), if_pos hvb4, hmb, ec]
        exact ey
      · have q1 : FRR n na := by rw [← hna]; exact FRR.ks (fun K c => nw_nK (fun z => c (by rw [z]; decide))) (by rw [nw_nK (by decide)]; exact Int.le_refl _)
        have q2 : FRR na nb := FRR.fb b2 (fun x hx => by omega)
        have q3 : FRR nb nc := by rw [← hnc]; exact FRR.ks (fun K c => nw_nK (fun z => c (by rw [z]; decide))) (by rw [nw_nK (by decide)]; exact Int.le_refl _)
        exact ((q1.trans q2).trans q3).trans r8
end L4
