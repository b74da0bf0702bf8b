/-! A server's ANSWER: its body, its place, how the reference lays it down -/
section R6
variable {n n' : NS} {m m' : YS} {A B d i v L w x k w0 : Int} {g : Int → Int} {As Bs : Int → Prop} {nm q nt qt : List Int} {ss st' : List (List Int)}
theorem c_body (ht : tx n d g L) (hd : d < n 90 0 0) (hi : 1 ≤ i ∧ i ≤ L ∧ L ≤ 2000) (h90 : 1953 ≤ n 90 0 0 ∧ n 90 0 0 < 700000) (h93 : n 93 0 d ≤ 10000) : ev (N_Arrays_copyOfRange d i L n) (fun r => r.1 = n 90 0 0 ∧ FNw n r.2 ∧ r.2 90 0 0 = n 90 0 0 + 1 ∧ r.2 91 0 0 = n 91 0 0 + (L - i) ∧ r.2 92 0 r.1 = 1 ∧ r.2 93 0 r.1 = L - i ∧ (∀ j, 0 ≤ j → j < L - i → r.2 99 r.1 j = g (i + j))) := by
  have hl := ht.2.1
  unfold N_Arrays_copyOfRange nk_Arrays_copyOfRange_10 N_Arrays_copyOfRangeByte N_Arrays_checkLength
  rw [if_neg (by omega), if_neg (by omega)]
  simp only [Option.bind_some]
  suffices hs : ev (ck (L - i) (al2 n (L - i) (st (nnew n 1 (L - i) (L - i)) fun n7 => ty n7 d 1 (ck (n7 93 0 d) (ck (n7 93 0 d - i) (cpg n7 1 d i (n 90 0 0) 0 (min (n7 93 0 d - i) (L - i)) (st (nwA n7 99 (n 90 0 0) (cpf (n7 99 d) (n7 99 (n 90 0 0)) i 0 (min (n7 93 0 d - i) (L - i)))) fun n17 => some (n 90 0 0, n17)))))))) (fun r => r.1 = n 90 0 0 ∧ FNw n r.2 ∧ r.2 90 0 0 = n 90 0 0 + 1 ∧ r.2 91 0 0 = n 91 0 0 + (L - i) ∧ r.2 92 0 r.1 = 1 ∧ r.2 93 0 r.1 = L - i ∧ (∀ j, 0 ≤ j → j < L - i → r.2 99 r.1 j = g (i + j))) by
    refine ev_b2 hs (fun a b h => ev_ok h)
  refine ev_ck (by omega) (al2_ok' (by omega) (by omega) (ev_st ?_))
  have a92 : nnew n 1 (L - i) (L - i) 92 0 d = 1 := by rw [nnew_92, if_neg (by omega)]; exact ht.1
  have a93 : nnew n 1 (L - i) (L - i) 93 0 d = n 93 0 d := by rw [nnew_93, if_neg (by omega)]
  have b92 : nnew n 1 (L - i) (L - i) 92 0 (n 90 0 0) = 1 := by rw [nnew_92, if_pos rfl]; rfl
  have b93 : nnew n 1 (L - i) (L - i) 93 0 (n 90 0 0) = L - i := by rw [nnew_93, if_pos rfl]
  have a99 : nnew n 1 (L - i) (L - i) 99 d = n 99 d := nnew_99 (by omega)
  have c90 : nnew n 1 (L - i) (L - i) 90 0 0 = n 90 0 0 + 1 := nnew_90
  have c91 : nnew n 1 (L - i) (L - i) 91 0 0 = n 91 0 0 + (L - i) := nnew_91
  have f1 : FNw n (nnew n 1 (L - i) (L - i)) := FNw.nnew (FB.refl _ n)
  generalize nnew n 1 (L - i) (L - i) = n7 at *
  rw [a93, show min (n 93 0 d - i) (L - i) = L - i by omega]
  refine ev_ty a92 (ev_ck (by omega) (ev_ck (by omega) (ev_g ⟨a92, b92, ⟨by omega, by omega, by omega⟩, by rw [a93]; omega, by rw [b93]; omega⟩ (ev_st ?_))))
  generalize hF : cpf (n7 99 d) (n7 99 (n 90 0 0)) i 0 (L - i) = F
  refine ev_ok ⟨rfl, f1.nwA (Int.le_refl _), ?_, ?_, ?_, ?_, fun j j0 j1 => ?_⟩
  · show nwA n7 99 (n 90 0 0) F 90 0 0 = _
    rw [nwA_nK (by decide)]; exact c90
  · show nwA n7 99 (n 90 0 0) F 91 0 0 = _
    rw [nwA_nK (by decide)]; exact c91
  · show nwA n7 99 (n 90 0 0) F 92 0 (n 90 0 0) = _
    rw [nwA_nK (by decide)]; exact b92
  · show nwA n7 99 (n 90 0 0) F 93 0 (n 90 0 0) = _
    rw [nwA_nK (by decide)]; exact b93
  · show nwA n7 99 (n 90 0 0) F 99 (n 90 0 0) j = _
    rw [nwA_eq, ← hF]
    unfold cpf
    rw [if_pos (by omega), a99, ht.2.2 _ (by omega) (by omega)]
    congr 1; omega
/-- where the ANSWER comes -/
theorem srch_both (hA : AdS n As) (ha : ∀ i, 0 ≤ i → i < k → (0 ≤ n 23 0 i ∧ n 92 0 (n 23 0 i) = 102) ∧ As (n 99 (n 23 0 i) 0) ∧ AdE n m (n 99 (n 23 0 i) 0) (6 + i) []) (hw : n 92 0 w = 102 ∧ As (n 99 w 0) ∧ AdE n m (n 99 w 0) 3 []) (hk : n 6 0 2 = k ∧ m 16 0 = k ∧ 0 ≤ k ∧ k ≤ 12) : ∃ i, NL_Net_putAnswer_2 w 0 n = some i ∧ NL_Y_server_193 x 0 m = some i ∧ 0 ≤ i ∧ i ≤ k := by
  obtain ⟨nw', sw, qw, hWw, hCw, hRw⟩ := hw.2.2
  refine ⟨sc (fun i => rowL m (6 + i) ≠ rowL m 3) 0 k, ?_, ?_, scx_ge _ _, scx_le hk.2.2.1⟩
  · unfold NL_Net_putAnswer_2
    refine ev_scan (p := fun i => rowL m (6 + i) ≠ rowL m 3) (fun s h1 h2 => ?_)
    unfold nb_Net_putAnswer_2
    rw [hk.1]
    refine ev_if (fun hlt => ?_) (fun hge => ev_ok (.inr ⟨rfl, fun z => hge z.1⟩))
    obtain ⟨⟨c1, c2⟩, c3, nm1, s1, q1, hW1, hC1, hR1⟩ := ha s h1 hlt
    have ac1 := (hA _ c3).1
    have ac2 := (hA _ hw.2.1).1
    refine ev_ix (by omega) (ev_nn c1 (ev_ty c2 (ev_nn ac1.1.1 (ev_ty hw.1 (ev_nn ac2.1.1 (ev_ty ac1.2.1 (ev_bz (c_isAt hA c3 hw.2.1 hC1 hW1 hCw hWw) (fun hp => ?_) (fun hp => ?_))))))))
    · rw [if_neg (by decide)]
      exact ev_ok (.inr ⟨rfl, fun z => z.2 (by rw [hR1.rowL, hRw.rowL]; exact hp)⟩)
    · rw [if_pos rfl]
      exact ev_ck (by omega) (ev_ok (.inl ⟨rfl, hlt, by rw [hR1.rowL, hRw.rowL]; exact hp⟩))
  · unfold NL_Y_server_193
    refine ev_scan (p := fun i => rowL m (6 + i) ≠ rowL m 3) (fun s h1 h2 => ?_)
    unfold nb_Y_server_193
    rw [hk.2.1]
    refine ev_if (fun hlt => ?_) (fun hge => ev_ok (.inr ⟨rfl, fun z => hge z.1⟩))
    obtain ⟨_, c3, nm1, s1, q1, hW1, hC1, hR1⟩ := ha s h1 hlt
    refine ev_ck (by omega) (ev_bz (y_alike hR1 hW1 hRw hWw (by omega) (by omega)) (fun hp => ?_) (fun hp => ?_))
    · rw [if_neg (by decide)]
      exact ev_ok (.inr ⟨rfl, fun z => z.2 (by rw [hR1.rowL, hRw.rowL]; exact hp)⟩)
    · rw [if_pos rfl]
      exact ev_ck (by omega) (ev_ok (.inl ⟨rfl, hlt, by rw [hR1.rowL, hRw.rowL]; exact hp⟩))
/-- what the reference lays down -/
def LDN (i v : Int) (m m' : YS) : Prop :=
  FY [6, 7, 8, 16, 17, 18, 19, 20, 21, 22, 23, 24] m m' ∧ (∀ r, r ≠ 6 + i → r ≠ 46 + i → RwE m m' r)
  ∧ (m' 18 i = m 3 0 - v ∧ ∀ k, k ≠ i → m' 18 k = m 18 k)
  ∧ ((∀ j, 0 ≤ j → j < m 3 0 - v → m' 17 (1500 * i + j) = m 2 (v + j)) ∧ ∀ j, ¬ (1500 * i ≤ j ∧ j < 1500 * i + 1500) → m' 17 j = m 17 j)
  ∧ (m' 19 i = m 38 0 ∧ m' 21 i = m 39 0 ∧ m' 22 i = m 40 0 ∧ m' 23 i = m 41 0 ∧ m' 24 i = m 42 0)
  ∧ (∀ f k, (f = 19 ∨ f = 21 ∨ f = 22 ∨ f = 23 ∨ f = 24) → k ≠ i → m' f k = m f k)
  ∧ ((∀ k, 0 ≤ k → k < 16 → m' 20 (16 * i + k) = m 43 k) ∧ ∀ j, ¬ (16 * i ≤ j ∧ j < 16 * i + 16) → m' 20 j = m 20 j)
theorem y_lay (hi : 0 ≤ i ∧ i < 12) (hv : 0 ≤ v ∧ v ≤ m 3 0 ∧ m 3 0 ≤ 2000 ∧ m 3 0 - v ≤ 1500) (h41 : m 41 0 = 0 ∨ m 41 0 = 1) (h42 : m 42 0 = 0 ∨ m 42 0 = 1) (hR : RA m 3 nm ss q []) (hW : WFA nm ss q []) (hT : m 41 0 = 1 → RA m 4 nt st' qt [] ∧ WFA nt st' qt []) : ev (nk_Y_server_249 v i w0 m) (fun x => x.1 = w0 ∧ x.2 16 0 = w0 ∧ LDN i v m x.2 ∧ RA x.2 (6 + i) nm ss q [] ∧ (m 41 0 = 1 → RA x.2 (46 + i) nt st' qt [])) := by
  unfold nk_Y_server_249
  have R0 : ∀ r, RwE m (yw m 16 0 w0) r := fun r => RwE.of (yw_nF (by decide)) (yw_nF (by decide)) (yw_nF (by decide))
  refine ev_st (ev_ck (by omega) (ev_bind (y_copyRow (to := 6 + i) (fr := 3) (m := yw m 16 0 w0) (by omega) (by omega) (by omega)) (fun m7 h7 => ?_)))
  have A7 : RA m7 (6 + i) nm ss q [] := h7.made (hR.rw hW (R0 3)) hW
  have R7 : ∀ r, r ≠ 6 + i → RwE m m7 r := fun r hr => (R0 r).trans (RwE.cp h7 hr)
  have F7 : FY [6, 7, 8, 16] m m7 := fun f hf => by
    simp only [List.mem_cons, List.not_mem_nil, or_false, not_or] at hf
    rw [h7.1 f (by simp only [List.mem_cons, List.not_mem_nil, or_false, not_or]; omega), yw_nF (by omega)]
  have E7 : m7 16 0 = w0 := by rw [h7.1 16 (by decide), yw_eq]
  clear h7 R0
  rw [F7 3 (by decide)]
  refine ev_ck (by omega) (ev_ix (by omega) (ev_st ?_))
  have e18 : yw m7 18 i (m 3 0 - v) 18 i = m 3 0 - v := yw_eq
  refine ev_bind (P := fun mb => FY [17] (yw m7 18 i (m 3 0 - v)) mb ∧ (∀ j, 0 ≤ j → j < m 3 0 - v → mb 17 (i * 1500 + j) = (yw m7 18 i (m 3 0 - v)) 2 (v + j)) ∧ ∀ j, ¬ (i * 1500 ≤ j ∧ j < i * 1500 + (m 3 0 - v)) → mb 17 j = (yw m7 18 i (m 3 0 - v)) 17 j) ?_ (fun mb hb => ?_)
  · unfold NL_Y_server_276
    refine y_copy (F := 17) (G := 2) (a := i * 1500) (b := v) (K := m 3 0 - v) (by decide) (by omega) (fun k ma fa ka kb => ?_) (fun ma fa => ?_)
    · show nb_Y_server_276 v i k ma = _
      unfold nb_Y_server_276 st ck ix
      dsimp only
      rw [fa 18 (by decide), e18, if_pos (by omega), if_pos kb, if_pos (by omega), if_pos (by omega), if_pos (by omega), if_pos (by omega), if_pos (by omega), if_pos (by omega)]
    · show nb_Y_server_276 v i (m 3 0 - v) ma = _
      unfold nb_Y_server_276 ix
      rw [fa 18 (by decide), e18, if_pos (by omega), if_neg (by omega)]
  obtain ⟨b1, b2, b3⟩ := hb
  have Fb : FY [6, 7, 8, 16, 17, 18] m mb := fun f hf => by
    simp only [List.mem_cons, List.not_mem_nil, or_false, not_or] at hf
    rw [b1 f (by simp only [List.mem_cons, List.not_mem_nil, or_false, not_or]; omega), yw_nF (by omega), F7 f (by simp only [List.mem_cons, List.not_mem_nil, or_false, not_or]; omega)]
  have Rb : ∀ r, r ≠ 6 + i → RwE m mb r := fun r hr => (R7 r hr).trans (RwE.of (by rw [b1 6 (by decide), yw_nF (by decide)]) (by rw [b1 7 (by decide), yw_nF (by decide)]) (by rw [b1 8 (by decide), yw_nF (by decide)]))
  have Ab : RA mb (6 + i) nm ss q [] := A7.rw hW (RwE.of (by rw [b1 6 (by decide), yw_nF (by decide)]) (by rw [b1 7 (by decide), yw_nF (by decide)]) (by rw [b1 8 (by decide), yw_nF (by decide)]))
  have Eb : mb 16 0 = w0 := by rw [b1 16 (by decide), yw_nF (by decide)]; exact E7
  have B18 : mb 18 i = m 3 0 - v ∧ ∀ k, k ≠ i → mb 18 k = m 18 k := ⟨by rw [b1 18 (by decide), yw_eq], fun k hk => by rw [b1 18 (by decide), yw_ni hk, F7 18 (by decide)]⟩
  have B17 : (∀ j, 0 ≤ j → j < m 3 0 - v → mb 17 (1500 * i + j) = m 2 (v + j)) ∧ ∀ j, ¬ (1500 * i ≤ j ∧ j < 1500 * i + 1500) → mb 17 j = m 17 j := ⟨fun j j0 j1 => by
    have := b2 j j0 j1
    rw [yw_nF (by decide), F7 2 (by decide)] at this
    rw [← this]; congr 1; omega, fun j hj => by rw [b3 j (by omega), yw_nF (by decide), F7 17 (by decide)]⟩
  clear b1 b2 b3 F7 R7 A7 E7 e18
  refine ev_ix (by omega) (ev_st (ev_ix (by omega) (ev_st (ev_ix (by omega) (ev_st ?_)))))
  have c38 : mb 38 0 = m 38 0 := by rw [Fb 38 (by decide)]
  have c39 : (yw mb 19 i (mb 38 0)) 39 0 = m 39 0 := by rw [yw_nF (by decide), Fb 39 (by decide)]
  have c40 : (yw (yw mb 19 i (mb 38 0)) 21 i ((yw mb 19 i (mb 38 0)) 39 0)) 40 0 = m 40 0 := by rw [yw_nF (by decide), yw_nF (by decide), Fb 40 (by decide)]
  rw [c40, c39, c38]
  generalize hmc : yw (yw (yw mb 19 i (m 38 0)) 21 i (m 39 0)) 22 i (m 40 0) = mc
  have Fc : FY [19, 21, 22] mb mc := fun f hf => by
    simp only [List.mem_cons, List.not_mem_nil, or_false, not_or] at hf
    rw [← hmc, yw_nF (by omega), yw_nF (by omega), yw_nF (by omega)]
  have C1 : mc 19 i = m 38 0 ∧ mc 21 i = m 39 0 ∧ mc 22 i = m 40 0 := by
    rw [← hmc]
    exact ⟨by rw [yw_nF (by decide), yw_nF (by decide), yw_eq], by rw [yw_nF (by decide), yw_eq], yw_eq⟩
  have C2 : ∀ f k, (f = 19 ∨ f = 21 ∨ f = 22) → k ≠ i → mc f k = m f k := fun f k hf hk => by
    rw [← hmc]
    rcases hf with z | z | z <;> rw [z]
    · rw [yw_nF (by decide), yw_nF (by decide), yw_ni hk, Fb 19 (by decide)]
    · rw [yw_nF (by decide), yw_ni hk, yw_nF (by decide), Fb 21 (by decide)]
    · rw [yw_ni hk, yw_nF (by decide), yw_nF (by decide), Fb 22 (by decide)]
  clear hmc c38 c39 c40
  refine ev_bind (P := fun md => FY [20] mc md ∧ (∀ j, 0 ≤ j → j < 16 → md 20 (16 * i + j) = mc 43 (0 + j)) ∧ ∀ j, ¬ (16 * i ≤ j ∧ j < 16 * i + 16) → md 20 j = mc 20 j) ?_ (fun md hd => ?_)
  · unfold NL_Y_server_348
    refine y_copy (F := 20) (G := 43) (a := 16 * i) (b := 0) (K := 16) (by decide) (by omega) (fun k ma fa ka kb => ?_) (fun ma fa => ?_)
    · show nb_Y_server_348 i k ma = _
      unfold nb_Y_server_348 st ck ix
      dsimp only
      rw [if_pos kb, if_pos (by omega), if_pos (by omega), if_pos (by omega), if_pos (by omega), if_pos (by omega), Int.zero_add]
    · show nb_Y_server_348 i 16 ma = _
      unfold nb_Y_server_348
      rw [if_neg (by omega)]
  obtain ⟨d1, d2, d3⟩ := hd
  have Fd : FY [6, 7, 8, 16, 17, 18, 19, 20, 21, 22] m md := fun f hf => by
    simp only [List.mem_cons, List.not_mem_nil, or_false, not_or] at hf
    rw [d1 f (by simp only [List.mem_cons, List.not_mem_nil, or_false, not_or]; omega), Fc f (by simp only [List.mem_cons, List.not_mem_nil, or_false, not_or]; omega), Fb f (by simp only [List.mem_cons, List.not_mem_nil, or_false, not_or]; omega)]
  have e6 : md 6 = mb 6 := by rw [d1 6 (by decide), Fc 6 (by decide)]
  have e7 : md 7 = mb 7 := by rw [d1 7 (by decide), Fc 7 (by decide)]
  have e8 : md 8 = mb 8 := by rw [d1 8 (by decide), Fc 8 (by decide)]
  have Rd : ∀ r, r ≠ 6 + i → RwE m md r := fun r hr => (Rb r hr).trans (RwE.of e6 e7 e8)
  have Ad : RA md (6 + i) nm ss q [] := Ab.rw hW (RwE.of e6 e7 e8)
  have D16 : md 16 0 = w0 := by rw [d1 16 (by decide), Fc 16 (by decide)]; exact Eb
  have D18 : md 18 i = m 3 0 - v ∧ ∀ k, k ≠ i → md 18 k = m 18 k := by rw [d1 18 (by decide), Fc 18 (by decide)]; exact B18
  have D17 : (∀ j, 0 ≤ j → j < m 3 0 - v → md 17 (1500 * i + j) = m 2 (v + j)) ∧ ∀ j, ¬ (1500 * i ≤ j ∧ j < 1500 * i + 1500) → md 17 j = m 17 j := by rw [d1 17 (by decide), Fc 17 (by decide)]; exact B17
  have D1 : md 19 i = m 38 0 ∧ md 21 i = m 39 0 ∧ md 22 i = m 40 0 := by rw [d1 19 (by decide), d1 21 (by decide), d1 22 (by decide)]; exact C1
  have D2 : ∀ f k, (f = 19 ∨ f = 21 ∨ f = 22) → k ≠ i → md f k = m f k := fun f k hf hk => by
    rw [d1 f (by rcases hf with z | z | z <;> rw [z] <;> decide)]; exact C2 f k hf hk
  have D20 : (∀ k, 0 ≤ k → k < 16 → md 20 (16 * i + k) = m 43 k) ∧ ∀ j, ¬ (16 * i ≤ j ∧ j < 16 * i + 16) → md 20 j = m 20 j := ⟨fun k k0 k1 => by rw [d2 k k0 k1, Int.zero_add, Fc 43 (by decide), Fb 43 (by decide)], fun j hj => by rw [d3 j hj, Fc 20 (by decide), Fb 20 (by decide)]⟩
  clear d1 d2 d3 Fc C1 C2 Fb Rb Ab Eb B18 B17 e6 e7 e8
  -- the last two
  have last : ∀ (me : YS), FY [6, 7, 8, 23] md me → (∀ r, r ≠ 46 + i → RwE md me r) → (me 23 i = m 41 0 ∧ ∀ k, k ≠ i → me 23 k = m 23 k) → (m 41 0 = 1 → RA me (46 + i) nt st' qt []) → ev (nk_Y_server_416 i me) (fun x => x.1 = w0 ∧ x.2 16 0 = w0 ∧ LDN i v m x.2 ∧ RA x.2 (6 + i) nm ss q [] ∧ (m 41 0 = 1 → RA x.2 (46 + i) nt st' qt [])) := fun me Fe Re E23 Te => by
    have fin : ∀ c : Int, c = m 42 0 → (c = 0 ∨ c = 1) → ev (nk_Y_server_433 c i me) (fun x => x.1 = w0 ∧ x.2 16 0 = w0 ∧ LDN i v m x.2 ∧ RA x.2 (6 + i) nm ss q [] ∧ (m 41 0 = 1 → RA x.2 (46 + i) nt st' qt [])) := fun c hc hc' => by
      have z16 : yw me 24 i c 16 0 = w0 := by rw [yw_nF (by decide), Fe 16 (by decide)]; exact D16
      have er : ∀ r, RwE me (yw me 24 i c) r := fun r => RwE.of (yw_nF (by decide)) (yw_nF (by decide)) (yw_nF (by decide))
      unfold nk_Y_server_433
      refine ev_g (by rcases hc' with z | z <;> rw [z] <;> decide) (ev_ix (by omega) (ev_st (ev_ok ⟨z16, z16, ⟨fun f hf => ?_, fun r r1 r2 => (Rd r r1).trans ((Re r r2).trans (er r)), ?_, ?_, ?_, fun f k hf hk => ?_, ?_⟩, (Ad.rw hW (Re _ (by omega))).rw hW (er _), fun z => (Te z).rw (hT z).2 (er _)⟩)))
      · simp only [List.mem_cons, List.not_mem_nil, or_false, not_or] at hf
        show yw me 24 i c f = m f
        rw [yw_nF (by omega), Fe f (by simp only [List.mem_cons, List.not_mem_nil, or_false, not_or]; omega), Fd f (by simp only [List.mem_cons, List.not_mem_nil, or_false, not_or]; omega)]
      · show yw me 24 i c 18 i = _ ∧ ∀ k, k ≠ i → yw me 24 i c 18 k = _
        rw [yw_nF (by decide), Fe 18 (by decide)]; exact D18
      · show (∀ j, 0 ≤ j → j < m 3 0 - v → yw me 24 i c 17 (1500 * i + j) = _) ∧ ∀ j, _ → yw me 24 i c 17 j = _
        rw [yw_nF (by decide), Fe 17 (by decide)]; exact D17
      · show yw me 24 i c 19 i = _ ∧ yw me 24 i c 21 i = _ ∧ yw me 24 i c 22 i = _ ∧ yw me 24 i c 23 i = _ ∧ yw me 24 i c 24 i = _
        rw [yw_nF (by decide), yw_nF (by decide), yw_nF (by decide), yw_nF (by decide), yw_eq, Fe 19 (by decide), Fe 21 (by decide), Fe 22 (by decide)]
        exact ⟨D1.1, D1.2.1, D1.2.2, E23.1, hc⟩
      · show yw me 24 i c f k = m f k
        by_cases z : f = 24
        · rw [z, yw_ni hk, Fe 24 (by decide), Fd 24 (by decide)]
        · rw [yw_nF z]
          by_cases y : f = 23
          · rw [y]; exact E23.2 k hk
          · rw [Fe f (by simp only [List.mem_cons, List.not_mem_nil, or_false, not_or]; omega)]
            exact D2 f k (by omega) hk
      · show (∀ k, 0 ≤ k → k < 16 → yw me 24 i c 20 (16 * i + k) = _) ∧ ∀ j, _ → yw me 24 i c 20 j = _
        rw [yw_nF (by decide), Fe 20 (by decide)]; exact D20
    unfold nk_Y_server_416
    rw [Fe 42 (by decide), Fd 42 (by decide)]
    rcases h42 with z | z
    · rw [if_neg (by omega)]; exact fin 0 z.symm (.inl rfl)
    · rw [if_pos (by omega)]; exact fin 1 z.symm (.inr rfl)
  rw [Fd 41 (by decide)]
  unfold nk_Y_server_397
  rcases h41 with z | z
  · rw [if_neg (by omega)]
    refine ev_g (by decide) (ev_ix (by omega) (ev_st (ev_ix (by omega) ?_)))
    rw [yw_eq, if_pos rfl]
    exact last _ (fun f hf => yw_nF (fun y => hf (by rw [y]; decide))) (fun r _ => RwE.of (yw_nF (by decide)) (yw_nF (by decide)) (yw_nF (by decide))) ⟨by rw [yw_eq, z], fun k hk => by rw [yw_ni hk, Fd 23 (by decide)]⟩ (fun y => by omega)
  · rw [if_pos (by omega)]
    refine ev_g (by decide) (ev_ix (by omega) (ev_st (ev_ix (by omega) ?_)))
    rw [yw_eq, if_neg (by decide)]
    have Rz : ∀ r, RwE md (yw md 23 i 1) r := fun r => RwE.of (yw_nF (by decide)) (yw_nF (by decide)) (yw_nF (by decide))
    obtain ⟨t1, t2⟩ := hT z
    refine ev_ck (by omega) (ev_bind (y_copyRow (to := 46 + i) (fr := 4) (m := yw md 23 i 1) (by omega) (by omega) (by omega)) (fun me he => last me (fun f hf => ?_) (fun r hr => (Rz r).trans (RwE.cp he hr)) ⟨by rw [he.1 23 (by decide), yw_eq, z], fun k hk => by rw [he.1 23 (by decide), yw_ni hk, Fd 23 (by decide)]⟩ (fun _ => he.made ((t1.rw t2 (Rd 4 (by omega))).rw t2 (Rz 4)) t2)))
    simp only [List.mem_cons, List.not_mem_nil, or_false, not_or] at hf
    rw [he.1 f (by simp only [List.mem_cons, List.not_mem_nil, or_false, not_or]; omega), yw_nF (by omega)]
end R6
