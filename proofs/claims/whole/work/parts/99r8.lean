/-! THE CALL server -/
/-- a server's ANSWER, in both, from the text on -/
def SRV (As Bs : Int → Prop) (A B : Int) (n0 : NS) (m0 : YS) (X : Option (Int × NS)) (Y : Option (Int × YS)) : Prop :=
  ∃ r n' m' As' Bs', X = some (r, n') ∧ Y = some (r, m') ∧ (∀ κ, JNt κ As Bs A B n0 m0 → JNt κ As' Bs' A B n' m') ∧ (∀ K, K ∉ [6, 23, 90, 91, 92, 93, 99] → n' K = n0 K) ∧ (∀ s, s ≠ 2 → n' 6 0 s = n0 6 0 s) ∧ FS (fun _ => False) n0 n' ∧ (∀ f, f ≤ 5 ∨ 25 ≤ f → ¬ (38 ≤ f ∧ f ≤ 43) → m' f = m0 f)
section R8
variable {n n' n0 : NS} {m m' m0 : YS} {A B A0 B0 d L i v w k at' gd r : Int} {g : Int → Int} {As Bs : Int → Prop} {κ : Int → Int}
theorem FNw.fs (h : FNw n0 n) (hB : BI A B n0) : FS (fun _ => False) n0 n := fun b x y _ => by
  have := h.bts hB ⟨x, y⟩ (fun z => z) (fun _ z => z.elim)
  exact ⟨this.1, this.2.1⟩
theorem srv_no (hf : MDf n0 n' m0 m') (hB : BI A0 B0 n0) (hA : A = A0 + 112 ∧ A ≤ 8000000) (hBB : B = B0 + 2100) : SRV As Bs A B n0 m0 (some (r, n')) (some (r, m')) := by
  obtain ⟨f0, f90, f91, fy⟩ := hf
  have h90 := f0.2.2.1
  have hB' : BI A B n' := by rw [hA.1, hBB]; exact hB.f0 f0 (by omega) (by omega) (by omega)
  refine ⟨r, n', m', As, Bs, rfl, rfl, fun κ h => h.f0 hB' f0 fy, fun K hK => ?_, fun s _ => ?_, f0.fs hB, fun f hf hf' => fy.1 f (by simp only [List.mem_cons, List.not_mem_nil, or_false, not_or]; omega)⟩
  · simp only [List.mem_cons, List.not_mem_nil, or_false, not_or] at hK
    by_cases z : K = 4
    · rw [z]; exact funext (fun b => f0.2.1 b (fun y => y))
    · exact f0.1 K z (by omega) (by omega) (by omega) (by omega) (by omega)
  · rw [f0.1 6 (by decide) (by decide) (by decide) (by decide) (by decide) (by decide)]
/-- FIELD by FIELD -/
theorem srv_loop (h0 : 1953 ≤ n0 90 0 0 ∧ n0 90 0 0 < 600000) (ht : tx n0 d (m0 2) L) (hd : d < n0 90 0 0) (hL : L ≤ 2000 ∧ m0 3 0 = L) (htx : ∀ j, 0 ≤ j → j < L → isTx (m0 2 j)) : ∀ (z : Nat) (a gd : Int) (n : NS) (m : YS), (L - a).toNat ≤ z → (0 ≤ a ∧ a ≤ L) → (0 ≤ gd ∧ gd ≤ a) → MDf n0 n m0 m → MDm n m (n0 90 0 0) →
    (∃ b n2 m2, NL_Net_takeServer_63 d L (n0 90 0 0) a gd n = some (.inl (b + 1, n2)) ∧ NL_Y_server_101 a m = some (.inl (b, m2)) ∧ (0 ≤ b ∧ b < L) ∧ MDf n0 n2 m0 m2)
    ∨ (∃ b n2 m2, NL_Net_takeServer_63 d L (n0 90 0 0) a gd n = some (.inr (b, n2)) ∧ NL_Y_server_101 a m = some (.inr (b, m2)) ∧ (0 ≤ b ∧ b ≤ L) ∧ MDf n0 n2 m0 m2 ∧ MDm n2 m2 (n0 90 0 0)) := by
  intro z
  induction z with
  | zero =>
    intro a gd n m hz ha hg hf hm
    refine .inr ⟨a, n, m, ?_, ?_, ha, hf, hm⟩
    · unfold NL_Net_takeServer_63
      refine it_inr ?_
      show nb_Net_takeServer_63 d L _ a gd n = _
      unfold nb_Net_takeServer_63
      by_cases z : gd < L
      · rw [if_pos z, if_neg (by omega)]
      · rw [if_neg z]
    · unfold NL_Y_server_101
      refine it_inr ?_
      show nb_Y_server_101 a m = _
      unfold nb_Y_server_101
      rw [hf.2.2.2.1 3 (by decide), hL.2, if_neg (by omega)]
  | succ z ih =>
    intro a gd n m hz ha hg hf hm
    have e2 : m 2 = m0 2 := hf.2.2.2.1 2 (by decide)
    have e3 : m 3 0 = L := by rw [hf.2.2.2.1 3 (by decide)]; exact hL.2
    have t' : tx n d (m0 2) L := hf.1.txx ht hd
    by_cases hlt : a < L
    · by_cases h32 : m0 2 a = 32
      · have k1 := scx_ge (p := fun j => ¬ isBl (m0 2 j)) (a + 1) L
        have k2 := scx_le (p := fun j => ¬ isBl (m0 2 j)) (i := a + 1) (to := L) (by omega)
        have c1 := cs_fieldEnd (i := a + 1) t' ⟨by omega, by omega⟩ hL.1
        have y1 := ys_tokenEnd (m := m) (i := a + 1) ⟨by omega, by omega⟩ (by omega)
        rw [e2, e3] at y1
        obtain ⟨u, n2, m2, w1, w2, w3, w4, w5⟩ := field_both (i := a + 1) (to := tkE (m0 2) (a + 1) L) h0 hf hm ht hd ⟨by omega, k1, k2, hL.1⟩ htx
        have ec : nb_Net_takeServer_63 d L (n0 90 0 0) a gd n = if u = 0 then some (.inr (.inl (a + 1, n2))) else some (.inl (tkE (m0 2) (a + 1) L, gd + 1, n2)) := by
          unfold nb_Net_takeServer_63 dx ck ty
          rw [if_pos (by omega), if_pos hlt, if_pos ⟨t'.1, ha.1, by have := t'.2.1; omega⟩, t'.2.2 a ha.1 hlt, if_pos h32, if_pos (by omega), c1]
          simp only [Option.bind_some]
          rw [if_pos hm.1.1, w1]
          simp only [Option.bind_some, u2]
          rw [if_pos (show inR (gd + 1) by omega)]
        have ey : nb_Y_server_101 a m = if u = 0 then some (.inr (.inl (a, m2))) else some (.inl (tkE (m0 2) (a + 1) L, m2)) := by
          unfold nb_Y_server_101 ix ck
          rw [e3, if_pos hlt, if_pos (by omega), e2, if_pos h32, if_pos (by omega), y1]
          simp only [Option.bind_some]
          rw [if_pos (by omega), w2]
          simp only [Option.bind_some, u2]
        rcases w3 with u0 | u1
        · rw [if_pos u0] at ec ey
          refine .inl ⟨a, n2, m2, ?_, ?_, ⟨ha.1, hlt⟩, w4⟩
          · unfold NL_Net_takeServer_63
            exact it_inr ec
          · unfold NL_Y_server_101
            exact it_inr ey
        · rw [if_neg (by omega)] at ec ey
          have I := ih (tkE (m0 2) (a + 1) L) (gd + 1) n2 m2 (by unfold tkE; omega) ⟨by unfold tkE; omega, k2⟩ ⟨by omega, by unfold tkE; omega⟩ w4 (w5 u1)
          have E1 : NL_Net_takeServer_63 d L (n0 90 0 0) a gd n = NL_Net_takeServer_63 d L (n0 90 0 0) (tkE (m0 2) (a + 1) L) (gd + 1) n2 := by
            unfold NL_Net_takeServer_63
            exact it_inl (f := fun s : Int × Int × NS => nb_Net_takeServer_63 d L (n0 90 0 0) s.1 s.2.1 s.2.2) (s := (a, gd, n)) ec
          have E2 : NL_Y_server_101 a m = NL_Y_server_101 (tkE (m0 2) (a + 1) L) m2 := by
            unfold NL_Y_server_101
            exact it_inl (f := fun s : Int × YS => nb_Y_server_101 s.1 s.2) (s := (a, m)) ey
          rw [E1, E2]; exact I
      · refine .inr ⟨a, n, m, ?_, ?_, ha, hf, hm⟩
        · unfold NL_Net_takeServer_63
          refine it_inr ?_
          show nb_Net_takeServer_63 d L _ a gd n = _
          unfold nb_Net_takeServer_63 dx
          rw [if_pos (by omega), if_pos hlt, if_pos ⟨t'.1, ha.1, by have := t'.2.1; omega⟩, t'.2.2 a ha.1 hlt, if_neg h32]
        · unfold NL_Y_server_101
          refine it_inr ?_
          show nb_Y_server_101 a m = _
          unfold nb_Y_server_101 ix
          rw [e3, if_pos hlt, if_pos (by omega), e2, if_neg h32]
    · refine .inr ⟨a, n, m, ?_, ?_, ha, hf, hm⟩
      · unfold NL_Net_takeServer_63
        refine it_inr ?_
        show nb_Net_takeServer_63 d L _ a gd n = _
        unfold nb_Net_takeServer_63
        by_cases z : gd < L
        · rw [if_pos z, if_neg (by omega)]
        · rw [if_neg z]
      · unfold NL_Y_server_101
        refine it_inr ?_
        show nb_Y_server_101 a m = _
        unfold nb_Y_server_101
        rw [e3, if_neg (by omega)]
/-- behind the FIELDS -/
theorem srv_end (h : JNt κ As Bs A B n0 m0) (hB : BI A0 B0 n0) (hA : A = A0 + 112 ∧ A ≤ 8000000) (hBB : B = B0 + 2100) (hf : MDf n0 n m0 m) (hm : MDm n m (n0 90 0 0)) (ht : tx n0 d (m0 2) L) (hd : d < n0 90 0 0 ∧ n0 93 0 d ≤ 10000) (hL : L ≤ 1280 ∧ m0 3 0 = L) (htx : ∀ j, 0 ≤ j → j < L → isTx (m0 2 j)) (ha : 0 ≤ k ∧ k ≤ L) :
    SRV As Bs A B n0 m0 (nk_Net_takeServer_124 d L (n0 90 0 0) k n) (nk_Y_server_151 k m) := by
  have hcell := hB.cells
  have h1953 := hB.2.2.1.1
  have e2 : m 2 = m0 2 := hf.2.2.2.1 2 (by decide)
  have e3 : m 3 0 = L := by rw [hf.2.2.2.1 3 (by decide)]; exact hL.2
  have t' : tx n d (m0 2) L := hf.1.txx ht hd.1
  have hf0 := hf
  obtain ⟨f0, f90, f91, fy⟩ := hf
  have hlow : n0 90 0 0 + 4 ≤ n 90 0 0 := by rcases hm.2.2.2.1 with y | y <;> omega
  have hd93 : n 93 0 d ≤ 10000 := by rw [(f0.2.2.2.1 d hd.1).2]; exact hd.2
  by_cases zk : k = L
  · have ec : nk_Net_takeServer_124 d L (n0 90 0 0) k n = some (-1000 - L, n) := by
      unfold nk_Net_takeServer_124 ck
      rw [if_pos zk, if_pos (by omega)]
    have ey : nk_Y_server_151 k m = some (-1000 - L, m) := by
      unfold nk_Y_server_151 N_Y_wrong ck
      rw [e3, if_pos zk, if_pos (by omega)]; rfl
    rw [ec, ey]
    exact srv_no hf0 hB hA hBB
  obtain ⟨⟨b, n16⟩, eb, b1, b2, b3, b4, b5, b6, b7⟩ := c_body (i := k + 1) t' (by omega) ⟨by omega, by omega, by omega⟩ ⟨by omega, by omega⟩ hd93
  simp only at b1 b2 b3 b4 b5 b6 b7
  obtain ⟨p1, p2, p3, p4, p5⟩ := hm
  have q16 : ∀ q, q < n 90 0 0 → n16 92 0 q = n 92 0 q ∧ n16 93 0 q = n 93 0 q ∧ n16 99 q = n 99 q := fun q hq => ⟨(b2.2.2.2.1 q hq).1, (b2.2.2.2.1 q hq).2, b2.2.2.2.2.1 q hq (fun _ y => y.elim)⟩
  have F16 : FNw n0 n16 := f0.trans b2
  have hwe : ∃ w, w = n0 90 0 0 := ⟨_, rfl⟩
  obtain ⟨w, hw⟩ := hwe
  rw [← hw] at p1 p2 p3 p4 p5 hlow f90 f91 h1953 hcell ⊢
  have w16 : n16 92 0 w = 102 := by rw [(q16 w (by omega)).1]; exact p1.1
  generalize hn3 : nw n16 99 w 6 b = n3 at *
  have F3 : FNw n0 n3 := by rw [← hn3]; exact F16.nw99 (by omega)
  have K3 : ∀ K, K ≠ 99 → n3 K = n16 K := fun K hK => by rw [← hn3]; exact nw_nK hK
  have q3 : ∀ q, q < n 90 0 0 → q ≠ w → n3 99 q = n 99 q := fun q hq hq' => by rw [← hn3, nw_ni hq', (q16 q hq).2.2]
  have s3 : ∀ s, s ≠ 6 → n3 99 w s = n 99 w s := fun s hs => by rw [← hn3, nw_ns hs, (q16 w (by omega)).2.2]
  have s6 : n3 99 w 6 = b := by rw [← hn3]; exact nw_eq
  have qb : n3 99 b = n16 99 b := by rw [← hn3]; exact nw_ni (by omega)
  have t3 : ∀ q, q < n 90 0 0 → n3 92 0 q = n 92 0 q ∧ n3 93 0 q = n 93 0 q := fun q hq => by
    rw [K3 92 (by decide), K3 93 (by decide)]; exact ⟨(q16 q hq).1, (q16 q hq).2.1⟩
  have c90 : n3 90 0 0 = n 90 0 0 + 1 := by rw [K3 90 (by decide)]; exact b3
  have c91 : n3 91 0 0 = n 91 0 0 + (L - (k + 1)) := by rw [K3 91 (by decide)]; exact b4
  have hB3 : BI A B n3 := by rw [hA.1, hBB]; exact hB.f0 F3 (by omega) (by omega) (by omega)
  have J3 := h.f0 hB3 F3 fy
  have hbs0 := h.1.2.1.2.1
  have had0 := h.1.2.1.1
  have ad3 : AdS n3 As := J3.1.2.1.1
  have bs3 : BsI n3 As Bs := J3.1.2.1.2.1
  have rows : ∀ r, 0 ≤ r → r ≤ 631 → n3 4 r 1 < w := fun r x y => by
    rw [F3.2.1 r (fun z => z)]; have := (hB.1 r x y).2.1.2; omega
  have adc : ∀ a, As a → n3 99 a 0 < w := fun a ha' => by
    have h1 := (had0 a ha').1
    have : n3 99 a = n0 99 a := F3.2.2.2.2.1 a h1.1.2 (fun _ y => y.elim)
    rw [this, hw]; exact h1.2.2.1.2
  have bsc : ∀ x, Bs x → x < w := fun x hx => by rw [hw]; exact (hbs0 x hx).1.2
  have ac1 : AC n3 (w + 1) (w + 2) := by
    have := p1.2.2.1
    unfold AC at *
    rw [(t3 (w + 1) (by omega)).1, (t3 (w + 2) (by omega)).1, (t3 (w + 2) (by omega)).2, c90]
    exact ⟨⟨this.1.1, by omega⟩, this.2.1, ⟨this.2.2.1.1, by omega⟩, this.2.2.2⟩
  have z1 : n3 99 (w + 1) 0 = w + 2 := by rw [q3 _ (by omega) (by omega)]; exact p1.2.2.2.1
  have ade : AdE n3 m (w + 1) 3 [] := p1.2.2.2.2.ce (q3 _ (by omega) (by omega)) (by rw [p1.2.2.2.1]; exact q3 _ (by omega) (by omega)) (RwE.refl m 3)
  have ad1 : AdS n3 (fun x => As x ∨ x = w + 1) := ad3.add (by rw [z1]; exact ac1) (fun r x y => by have := rows r x y; rw [z1]; omega) (fun a ha' => by have := adc a ha'; rw [z1]; omega)
  have bs1 : BsI n3 (fun x => As x ∨ x = w + 1) Bs := bs3.addA (fun x hx => by have := bsc x hx; rw [z1]; omega)
  -- all is there: the class and the reference lay it down
  have core : ∀ As2 : Int → Prop, AdS n3 As2 → BsI n3 As2 Bs → (∀ x, As x → As2 x) → As2 (w + 1) → (∀ a, As2 a → n3 99 a 0 ≠ b) → (m 41 0 = 1 → As2 (w + 4)) → SRV As Bs A B n0 m0 (nk_Net_takeServer_124 d L w k n) (nk_Y_server_151 k m) := fun As2 g1 g2 g3 g4 g5 g6 => by
    have g7 : BsI n3 As2 (fun x => Bs x ∨ x = b) := g2.addB ⟨by omega, by rw [K3 92 (by decide)]; exact b5, fun r x y => by have := rows r x y; omega, g5⟩
    have J4 : JNt κ As2 (fun x => Bs x ∨ x = b) A B n3 m := J3.up g3 (fun x hx => .inl hx) g1 g7
    have hans := J4.1.2.1.2.2.2.1
    obtain ⟨i, i1, i2, i3, i4⟩ := srch_both (n := n3) (m := m) (As := As2) (w := w) (x := k + 1) (k := m 16 0) g1 (fun i x y => by
      have := (hans.2 i x y).1
      exact ⟨⟨this.1.1, this.1.2.2⟩, this.2.1.1, this.2.1.2.2⟩) ⟨by rw [(t3 w (by omega)).1]; exact p1.1, by rw [s3 0 (by decide), p1.2.1]; exact g4, by rw [s3 0 (by decide), p1.2.1]; exact ade⟩ ⟨hans.1.1, rfl, hans.1.2⟩
    have ec : nk_Net_takeServer_124 d L w k n = nk_Net_putAnswer_35 w i n3 := by
      unfold nk_Net_takeServer_124 ck ty st
      rw [if_neg zk, if_pos (by omega), if_pos (by omega), if_neg (by omega), if_pos (by omega), eb]
      simp only [Option.bind_some, u2]
      rw [if_pos w16, hn3]
      unfold N_Net_putAnswer
      rw [i1]
      simp only [Option.bind_some]
      cases nk_Net_putAnswer_35 w i n3 with
      | none => rfl
      | some y => rfl
    have ey : nk_Y_server_151 k m = nk_Y_server_219 (k + 1) i m := by
      unfold nk_Y_server_151 ck
      rw [e3, if_neg zk, if_pos (by omega), if_pos (by omega), if_neg (by omega), i2]; rfl
    have fK : ∀ K, K ∉ [6, 23, 90, 91, 92, 93, 99] → n3 K = n0 K := fun K hK => by
      simp only [List.mem_cons, List.not_mem_nil, or_false, not_or] at hK
      by_cases z : K = 4
      · rw [z]; exact funext (fun b => F3.2.1 b (fun y => y))
      · exact F3.1 K z (by omega) (by omega) (by omega) (by omega) (by omega)
    have f6 : n3 6 = n0 6 := F3.1 6 (by decide) (by decide) (by decide) (by decide) (by decide) (by decide)
    have fm : ∀ f, f ≤ 5 ∨ 25 ≤ f → ¬ (38 ≤ f ∧ f ≤ 43) → m f = m0 f := fun f x y => fy.1 f (by simp only [List.mem_cons, List.not_mem_nil, or_false, not_or]; omega)
    rw [ec, ey]
    by_cases z12 : i = 12
    · unfold nk_Net_putAnswer_35 nk_Y_server_219
      rw [if_pos z12, if_pos z12]
      exact ⟨-1, n3, m, As, Bs, rfl, rfl, fun κ h => h.f0 hB3 F3 fy, fK, fun s _ => by rw [f6], F3.fs hB, fm⟩
    · have hi : 0 ≤ i ∧ i < 12 := by have := hans.1.2.2; omega
      have ec2 : nk_Net_putAnswer_35 w i n3 = some (max (m 16 0) (i + 1), nw (nw n3 23 0 i w) 6 0 2 (max (m 16 0) (i + 1))) := by
        unfold nk_Net_putAnswer_35 ty ix ck st
        dsimp only
        rw [if_neg z12, if_pos (by rw [(t3 w (by omega)).1]; exact p1.1), if_pos hi, if_pos (by omega), nw_eq, nw_nK (show (6 : Nat) ≠ 23 by decide), hans.1.1]
      obtain ⟨nm, ss, q, hW, hC, hR⟩ := ade
      have h41 : m 41 0 = 0 ∨ m 41 0 = 1 := by rcases p4 with y | y <;> omega
      have tt : ∃ nt st' qt, (m 41 0 = 1 → (RA m 4 nt st' qt [] ∧ WFA nt st' qt []) ∧ ∃ mk, WFA nt st' qt mk ∧ CA n3 (w + 4) nt st' qt mk) := by
        rcases p4 with y | ⟨y1, y2, y3, y4, y5, nt, st', qt, mk, y6, y7, y8⟩
        · exact ⟨[], [], [], fun z => by omega⟩
        · refine ⟨nt, st', qt, fun _ => ⟨⟨y8, y6.nomk⟩, mk, y6, ?_⟩⟩
          unfold CA at *
          rw [q3 _ (by omega) (by omega), y5, q3 _ (by omega) (by omega)]
          rw [y5] at y7; exact y7
      obtain ⟨nt, st', qt, tt⟩ := tt
      obtain ⟨⟨r, m'⟩, er, v1, v2, v3, v4, v5⟩ := y_lay (m := m) (v := k + 1) (w0 := max (m 16 0) (i + 1)) hi ⟨by omega, by omega, by omega, by omega⟩ h41 p5.2 hR hW (fun z => (tt z).1)
      simp only at v1 v2 v3 v4 v5
      have ey2 : nk_Y_server_219 (k + 1) i m = some (max (m 16 0) (i + 1), m') := by
        unfold nk_Y_server_219 ck
        rw [if_neg z12]
        by_cases z : i = m 16 0
        · rw [if_pos z, if_pos (by have := hans.1.2; omega), show m 16 0 + 1 = max (m 16 0) (i + 1) by omega, er, v1]
        · rw [if_neg z]
          have : m 16 0 = max (m 16 0) (i + 1) := by omega
          rw [show nk_Y_server_249 (k + 1) i (m 16 0) m = nk_Y_server_249 (k + 1) i (max (m 16 0) (i + 1)) m by rw [← this], er, v1]
      rw [ec2, ey2]
      have v3' := v3
      obtain ⟨l1, l2, l3, l4, l5, l6, l7⟩ := v3'
      generalize hn4 : nw (nw n3 23 0 i w) 6 0 2 (max (m 16 0) (i + 1)) = n4
      have K4 : ∀ K, K ≠ 6 → K ≠ 23 → n4 K = n3 K := fun K x y => by rw [← hn4, nw_nK x, nw_nK y]
      have e99 : n4 99 = n3 99 := K4 99 (by decide) (by decide)
      have e93 : n4 93 = n3 93 := K4 93 (by decide) (by decide)
      have hS : AnS As2 (fun x => Bs x ∨ x = b) n4 m' w i (6 + i) (46 + i) := by
        unfold AnS
        rw [e99, e93, K4 90 (by decide) (by decide), K4 92 (by decide) (by decide), s3 0 (by decide), s3 4 (by decide), s3 5 (by decide), s6, p1.2.1, l5.2.2.2.1, l5.2.2.2.2, l3.1]
        refine ⟨⟨by omega, by omega, by rw [(t3 w (by omega)).1]; exact p1.1⟩, ⟨g4, by omega, ⟨nm, ss, q, hW, by unfold CA at *; rw [e99]; exact hC, v4⟩⟩, ?_, p5.1, .inr rfl, by omega, by rw [K3 93 (by decide), b6]; omega, fun j j0 j1 => ?_⟩
        · rcases p4 with y | y
          · exact .inl ⟨y.1, y.2.1⟩
          · obtain ⟨u1, mk, u2, u3⟩ := tt y.1
            refine .inr ⟨y.1, by rw [y.2.1]; exact g6 y.1, by rw [y.2.1]; omega, ?_⟩
            rw [y.2.1]
            exact ⟨nt, st', qt, mk, u2, by unfold CA at *; rw [e99]; exact u3, v5 y.1⟩
        · rw [e3] at j1
          rw [qb, b7 j j0 (by omega), l4.1 j j0 (by omega), e2]
          exact ⟨rfl, htx _ (by omega) (by omega)⟩
      have hKk : AnK n4 m' w i := by
        unfold AnK
        rw [e99, s3 1 (by decide), s3 2 (by decide), s3 3 (by decide), l5.1, l5.2.1, l5.2.2.1]
        refine ⟨p2, ?_⟩
        rcases p3 with y | ⟨u, u', y1, y2, y3, y4, y5, y6, y7⟩
        · exact .inl y
        · refine .inr ⟨u, u', y1, y2, y3, y4, ?_, ?_, y7⟩
          · have h8 := y1.2.1
            exact Eq.trans (sg_cg _ _ 0 (fun x hx => by rw [l7.1 x (by omega) (by omega), Int.zero_add])) y5
          · have h8 := y2.2.1
            refine Eq.trans (sg_cg _ _ 8 (fun x hx => ?_)) y6
            rw [show 16 * i + 8 + (x : Int) = 16 * i + (8 + x) by omega, l7.1 (8 + x) (by omega) (by omega)]
      refine ⟨_, n4, m', As2, (fun x => Bs x ∨ x = b), rfl, rfl, fun κ' h' => ?_, fun K hK => ?_, fun s hs => ?_, ?_, fun f x y => ?_⟩
      · exact ((h'.f0 hB3 F3 fy).up g3 (fun x hx => .inl hx) g1 g7).lay ⟨hi.1, hi.2, i4⟩ rfl v3 v2 hn4.symm hS hKk
      · rw [K4 K (fun y => hK (by rw [y]; decide)) (fun y => hK (by rw [y]; decide))]; exact fK K hK
      · rw [← hn4, nw_ns hs, nw_nK (by decide), f6]
      · intro b' x y z
        have := F3.fs hB b' x y z
        rw [e99, K4 4 (by decide) (by decide)]; exact this
      · rw [l1 f (by simp only [List.mem_cons, List.not_mem_nil, or_false, not_or]; omega)]; exact fm f x y
  by_cases z41 : m 41 0 = 1
  · obtain ⟨y1, y2, y3, y4, y5, y6⟩ : m 41 0 = 1 ∧ n 99 w 4 = w + 4 ∧ n 90 0 0 = w + 6 ∧ AC n (w + 4) (w + 5) ∧ n 99 (w + 4) 0 = w + 5 ∧ AdT n m (w + 4) 4 := by
      rcases p4 with y | y
      · omega
      · exact y
    have z4 : n3 99 (w + 4) 0 = w + 5 := by rw [q3 _ (by omega) (by omega)]; exact y5
    have ac4 : AC n3 (w + 4) (w + 5) := by
      unfold AC at *
      rw [(t3 (w + 4) (by omega)).1, (t3 (w + 5) (by omega)).1, (t3 (w + 5) (by omega)).2, c90]
      exact ⟨⟨y4.1.1, by omega⟩, y4.2.1, ⟨y4.2.2.1.1, by omega⟩, y4.2.2.2⟩
    refine core (fun x => (As x ∨ x = w + 1) ∨ x = w + 4) (ad1.add (by rw [z4]; exact ac4) (fun r x y => by have := rows r x y; rw [z4]; omega) (fun a ha' => ?_)) (bs1.addA (fun x hx => by have := bsc x hx; rw [z4]; omega)) (fun x hx => .inl (.inl hx)) (.inl (.inr rfl)) (fun a ha' => ?_) (fun _ => .inr rfl)
    · rcases ha' with u | u
      · have := adc a u; rw [z4]; omega
      · rw [u, z1, z4]; omega
    · rcases ha' with (u | u) | u
      · have := adc a u; omega
      · rw [u, z1]; omega
      · rw [u, z4]; omega
  · refine core (fun x => As x ∨ x = w + 1) ad1 bs1 (fun x hx => .inl hx) (.inr rfl) (fun a ha' => ?_) (fun z => absurd z z41)
    rcases ha' with u | u
    · have := adc a u; omega
    · rw [u, z1]; omega
end R8
