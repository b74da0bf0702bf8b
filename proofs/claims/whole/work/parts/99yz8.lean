/-! BETWEEN CALLS: all that holds after k calls; calls that say something -/
def INV (k : Int) (n : NS) (m : YS) : Prop := ∃ As Bs A B G, CI As Bs A B G n m ∧ (A ≤ 7000000 + 112 * k ∧ B ≤ 4000000 + 2100 * k ∧ G ≤ 480000 * k) ∧ (JTape n m ∧ JOut n m ∧ JM n m) ∧ (SHc n ∧ LAYI n m ∧ CHK n) ∧ (m 25 0 ≤ 1000 * k ∧ m 1 0 ≤ 20 * k)
/-- a call that both programs answer alike -/
def CLS (k : Int) (X : Option (Int × NS)) (Y : Option (Int × YS)) : Prop := ∃ r n' m', X = some (r, n') ∧ Y = some (r, m') ∧ INV (k + 1) n' m'
section YZ8
variable {n n' : NS} {m m' : YS} {A B G k v x r : Int} {As Bs : Int → Prop} {X : Option (Int × NS)} {Y : Option (Int × YS)}
theorem INV.mono (h : INV k n m) : INV (k + 1) n m := by
  obtain ⟨As, Bs, A, B, G, h1, h2, h3, h4, h5⟩ := h
  exact ⟨As, Bs, A, B, G, h1, by omega, h3, h4, by omega⟩
theorem CLS.same (h : INV k n m) (hX : X = some (r, n)) (hY : Y = some (r, m)) : CLS k X Y := ⟨r, n, m, hX, hY, h.mono⟩
/-- only tape and answer have changed -/
theorem INV.fb (h : INV k n m) (run : ∀ As Bs A B G, CI As Bs A B G n m → JTape n m → JOut n m → ∃ r n' m', X = some (r, n') ∧ Y = some (r, m') ∧ BI A B n' ∧ JTape n' m' ∧ JOut n' m' ∧ FB (fun x => x = 605 ∨ x = 606) n n' ∧ (∀ f, 6 ≤ f → m' f = m f) ∧ m' 1 0 ≤ 20 * (k + 1)) (hk : kz (kI n) X) (hc : kz cI X) : CLS k X Y := by
  obtain ⟨As, Bs, A, B, G, h1, h2, ⟨h3, h3', h3''⟩, ⟨h4, h4', h4''⟩, h5⟩ := h
  obtain ⟨r, n', m', q1, q2, q3, q4, q5, q6, q7, q8⟩ := run As Bs A B G h1 h3 h3'
  have hC : CI As Bs A B G n' m' := h1.rows q3 q6 (fun x hx => hx) q7
  have kk : ∀ K, K ≠ 4 → K ≠ 90 → K ≠ 91 → K ≠ 92 → K ≠ 93 → K ≠ 99 → n' K = n K := q6.1
  refine ⟨r, n', m', q1, q2, As, Bs, A, B, G, hC, by omega, ⟨q4, q5, h3''.cg (by rw [kk 11 (by decide) (by decide) (by decide) (by decide) (by decide) (by decide)]) (kk 47 (by decide) (by decide) (by decide) (by decide) (by decide) (by decide)) (q7 184 (by decide)) (q7 185 (by decide))⟩, ⟨?_, h4'.keep h1 hC (hk _ q1) (kk 3 (by decide) (by decide) (by decide) (by decide) (by decide) (by decide)) (kk 5 (by decide) (by decide) (by decide) (by decide) (by decide) (by decide)) (kk 9 (by decide) (by decide) (by decide) (by decide) (by decide) (by decide)) (kk 41 (by decide) (by decide) (by decide) (by decide) (by decide) (by decide)) (fun f hf => q7 f (by omega)) (.inr ⟨?_, fun f x y => q7 f (by omega)⟩) (.inr ⟨by rw [q7 126 (by decide)], fun f x y => q7 f (by omega)⟩), hc _ q1⟩, ⟨by rw [q7 25 (by decide)]; omega, q8⟩⟩
  · unfold SHc at *
    rw [kk 9 (by decide) (by decide) (by decide) (by decide) (by decide) (by decide)]; exact h4
  · rw [kk 10 (by decide) (by decide) (by decide) (by decide) (by decide) (by decide)]
/-- acts -/
theorem INV.fz (h : INV k n m) {As' Bs' : Int → Prop} {A' B' G' : Int} (run : ∀ As Bs A B G, CI As Bs A B G n m → (A ≤ 7000000 + 112 * k ∧ B ≤ 4000000 + 2100 * k ∧ G ≤ 480000 * k) → JTape n m → JOut n m → ∃ r n' m', X = some (r, n') ∧ Y = some (r, m') ∧ CI As Bs A B (G + 480000) n' m' ∧ JTape n' m' ∧ JOut n' m' ∧ FZ n n' m m' ∧ m' 1 0 ≤ 20 * (k + 1) ∧ m' 25 0 ≤ 1000 * (k + 1)) (hk : kz (kI n) X) (hc : kz cI X) : CLS k X Y := by
  obtain ⟨As, Bs, A, B, G, h1, h2, ⟨h3, h3', h3''⟩, ⟨h4, h4', h4''⟩, h5⟩ := h
  obtain ⟨r, n', m', q1, q2, q3, q4, q5, q6, q7, q8⟩ := run As Bs A B G h1 h2 h3 h3'
  obtain ⟨z1, z2, z3, z4, z5, z6⟩ := q6
  refine ⟨r, n', m', q1, q2, As, Bs, A, B, G + 480000, q3, by omega, ⟨q4, q5, h3''.cg (by rw [z1 11 (by decide)]) (z1 47 (by decide)) (z4 184 (by omega)) (z4 185 (by omega))⟩, ⟨?_, h4'.keep h1 q3 (hk _ q1) (z1 3 (by decide)) (z1 5 (by decide)) (z1 9 (by decide)) (z1 41 (by decide)) (fun f hf => z4 f (by omega)) z5 z6, hc _ q1⟩, q8, q7⟩
  unfold SHc at *
  rw [z1 9 (by decide)]; exact h4
theorem CI.jt (h : CI As Bs A B G n m) : ∃ N o e p, JT n m N o e p ∧ JP m N o p ∧ JF n m := by
  obtain ⟨⟨κ, N, o, e, p, hN, hT, hr⟩, hz⟩ := h
  exact ⟨N, o, e, p, hT.1, hT.2.1, hT.2.2.1⟩
theorem FY.six (h : FY [4, 5] m m') : ∀ f, 6 ≤ f → m' f = m f := fun f x => h f (by simp only [List.mem_cons, List.not_mem_nil, or_false, not_or]; omega)
/-- a call that only says something -/
theorem INV.say (h : INV k n m) (run : ∀ As Bs A B G, CI As Bs A B G n m → JTape n m → JOut n m → SAY A B n m X Y) (hk : kz (kI n) X) (hc : kz cI X) : CLS k X Y := by
  have h25 : m 1 0 ≤ 20 * k := by obtain ⟨As, Bs, A, B, G, h1, h2, h3, h4, h5⟩ := h; exact h5.2
  refine h.fb (fun As Bs A B G hC hJ hO => ?_) hk hc
  obtain ⟨r, n', m', q1, q2, q3, q4, q5, q6⟩ := run As Bs A B G hC hJ hO
  have q6' : ∀ f, f ∉ [4, 5] → m' f = m f := q6
  refine ⟨r, n', m', q1, q2, q3, hJ.fb hC.1.bi q5 (fun x hx => by have hx : x = 606 := hx; omega) (by decide) (q6' 0 (by decide)) (q6' 1 (by decide)), q4, q5.up (fun b hb => .inr hb), FY.six q6, by rw [q6' 1 (by decide)]; omega⟩
theorem s_name (h : INV k n m) : CLS k (N_H_name v n) (N_Y_name v m) := h.say (fun As Bs A B G hC hJ hO => by
  obtain ⟨N, o, e, p, hT, _⟩ := hC.jt
  exact call_name hC.1.bi hT.1 hT.2.2.2 hO) (k_N_H_name KRw.refl) (c_N_H_name (by obtain ⟨_, _, _, _, _, _, _, _, h4, _⟩ := h; exact h4.2.2))
theorem s_value (h : INV k n m) : CLS k (N_H_value v n) (N_Y_value v m) := h.say (fun As Bs A B G hC hJ hO => by
  obtain ⟨N, o, e, p, hT, _⟩ := hC.jt
  exact call_value hC.1.bi hT.1 hT.2.2.2 hO) (k_N_H_value KRw.refl) (c_N_H_value (by obtain ⟨_, _, _, _, _, _, _, _, h4, _⟩ := h; exact h4.2.2))
theorem s_write (h : INV k n m) : CLS k (N_H_write v n) (N_Y_write v m) := h.say (fun As Bs A B G hC hJ hO => by
  obtain ⟨⟨κ, N, o, e, p, hN, hT, hr⟩, hz⟩ := hC
  exact call_write hN hO) (k_N_H_write KRw.refl) (c_N_H_write (by obtain ⟨_, _, _, _, _, _, _, _, h4, _⟩ := h; exact h4.2.2))
theorem s_attribute (h : INV k n m) : CLS k (N_H_attribute v n) (N_Y_attribute v m) := by
  have h25 : m 1 0 ≤ 20 * k := by obtain ⟨As, Bs, A, B, G, h1, h2, h3, h4, h5⟩ := h; exact h5.2
  have h0 : 0 ≤ m 1 0 := by obtain ⟨As, Bs, A, B, G, h1, h2, h3, h4, h5⟩ := h; exact h3.1.2.2.1
  refine h.fb (fun As Bs A B G hC hJ hO => ?_) (k_N_H_attribute KRw.refl) (c_N_H_attribute (by obtain ⟨_, _, _, _, _, _, _, _, h4, _⟩ := h; exact h4.2.2))
  obtain ⟨N, o, e, p, hT, _⟩ := hC.jt
  obtain ⟨r, n', m', q1, q2, q3, q4, q5, q6, q7⟩ := call_attribute (v := v) hC.1.bi hT.1 hT.2.2.2 hO hJ
  have g := (y_N_Y_attribute (v1 := v) KYt.refl _ q2).1
  refine ⟨r, n', m', q1, q2, q3, q5, q4, q6, fun f x => q7 f (by simp only [List.mem_cons, List.not_mem_nil, or_false, not_or]; omega), ?_⟩
  rcases g with g | g
  · have g : m' 1 0 = m 1 0 := g
    omega
  · have g : m' 1 0 = 0 := g
    omega
theorem s_feed {a b c d e : Int} (h : INV k n m) : CLS k (N_H_feed a b c d e n) (N_Y_feed a b c d e m) := by
  have h25 : m 1 0 ≤ 20 * k := by obtain ⟨As, Bs, A, B, G, h1, h2, h3, h4, h5⟩ := h; exact h5.2
  refine h.fb (fun As Bs A B G hC hJ hO => ?_) (k_N_H_feed KRw.refl) (c_N_H_feed (by obtain ⟨_, _, _, _, _, _, _, _, h4, _⟩ := h; exact h4.2.2))
  obtain ⟨r, n', m', q1, q2, q3, q4, q5, q6⟩ := feed_ok (a := a) (b := b) (c := c) (d := d) (e := e) hC.1.bi hJ
  have q6' : ∀ f, f ∉ [0, 1] → m' f = m f := q6
  obtain ⟨r2, u1, u2⟩ := cs_feed (a := a) (b := b) (c := c) (d := d) (e := e) hC.1.bi
  rw [q1] at u1
  have er : r2 = (r, n') := (Option.some.inj u1).symm
  refine ⟨r, n', m', q1, q2, q3, q4, hO.fb hC.1.bi q5 (fun x hx => by have hx : x = 605 := hx; omega) (by decide) (q6' 4 (by decide)) (q6' 5 (by decide)), q5.up (fun b hb => .inl hb), fun f x => q6' f (by simp only [List.mem_cons, List.not_mem_nil, or_false, not_or]; omega), ?_⟩
  rw [er] at u2
  have e1 := hJ.2.1
  have e2 := q4.2.1
  rcases u2 with ⟨_, u3⟩ | ⟨_, _, u4⟩
  · have : n' = n := congrArg Prod.snd u3
    rw [this] at e2
    omega
  · obtain ⟨_, _, b3⟩ := u4
    have l1 := bt_len (b := 605) (by decide) hC.1.bi
    have l2 := bt_len (b := 605) (by decide) q3
    have l3 : (bt n' 605).length ≤ (bt n 605).length + 20 := by
      have b3 : bt n' 605 = (bt n 605 ++ (four a ++ (four b ++ (four c ++ (four d ++ four e))))).take (lim 605).toNat := b3
      rw [b3]
      refine Nat.le_trans (List.length_take_le' _ _) ?_
      simp only [List.length_append]
      show _ + (4 + (4 + (4 + (4 + 4)))) ≤ _
      omega
    omega
theorem s_end (h : INV k n m) : CLS k (N_H_end v n) (N_Y_end v m) := by
  have h25 : m 1 0 ≤ 20 * k := by obtain ⟨As, Bs, A, B, G, h1, h2, h3, h4, h5⟩ := h; exact h5.2
  refine h.fb (fun As Bs A B G hC hJ hO => ?_) (k_N_H_end KRw.refl) (c_N_H_end (by obtain ⟨_, _, _, _, _, _, _, _, h4, _⟩ := h; exact h4.2.2))
  obtain ⟨r, n', m', q1, q2, q3, q4, q5, q6⟩ := end_ok (v := v) hC.1.bi hJ
  have q6' : ∀ f, f ∉ [0, 1] → m' f = m f := q6
  refine ⟨r, n', m', q1, q2, q3, q4, hO.fb hC.1.bi q5 (fun x hx => by have hx : x = 605 := hx; omega) (by decide) (q6' 4 (by decide)) (q6' 5 (by decide)), q5.up (fun b hb => .inl hb), fun f x => q6' f (by simp only [List.mem_cons, List.not_mem_nil, or_false, not_or]; omega), ?_⟩
  have g : m' 1 0 ≤ m 1 0 ∨ m' = m := by
    unfold N_Y_end st at q2
    by_cases z1 : v < 0
    · rw [if_pos z1] at q2
      exact .inr (congrArg Prod.snd (Option.some.inj q2)).symm
    · rw [if_neg z1] at q2
      by_cases z2 : m 1 0 < v
      · rw [if_pos z2] at q2
        exact .inr (congrArg Prod.snd (Option.some.inj q2)).symm
      · rw [if_neg z2] at q2
        have e : yw m 1 0 v = m' := congrArg Prod.snd (Option.some.inj q2)
        left
        rw [← e, yw_eq]; omega
  rcases g with g | g
  · omega
  · rw [g]; omega
theorem INV.chk (h : INV k n m) : CHK n := by obtain ⟨_, _, _, _, _, _, _, _, h4, _⟩ := h; exact h4.2.2
theorem s_out (h : INV k n m) : ∃ r, N_H_out v n = some r ∧ N_Y_out v m = some r := by
  obtain ⟨As, Bs, A, B, G, h1, h2, h3, h4, h5⟩ := h
  exact out_ok h1.1.bi h3.2.1
theorem s_kid (h : INV k n m) (hr : x ≤ 2147483647) : ∃ r, N_H_kid v x n = some r ∧ N_Y_kid v x m = some r := by
  obtain ⟨As, Bs, A, B, G, h1, h2, h3, h4, h5⟩ := h
  obtain ⟨N, o, e, p, hT, _⟩ := h1.jt
  obtain ⟨r, a, b⟩ := call_kid (v := v) hT.1 hr
  exact ⟨r, b, a⟩
theorem s_node (h : INV k n m) : ∃ r, N_H_node v x n = some r ∧ N_Y_node v x m = some r := by
  obtain ⟨As, Bs, A, B, G, h1, h2, h3, h4, h5⟩ := h
  obtain ⟨N, o, e, p, hT, _⟩ := h1.jt
  obtain ⟨r, a, b⟩ := call_node (v := v) (x := x) hT.1 hT.2.1 (hT.2.2.2.Q hT.1 h1.1.bi)
  exact ⟨r, b, a⟩
theorem s_checked (h : INV k n m) : ∃ r, N_H_checked v n = some r ∧ N_Y_checked v m = some r := by
  obtain ⟨As, Bs, A, B, G, h1, h2, h3, h4, h5⟩ := h
  obtain ⟨N, o, e, p, hT, _⟩ := h1.jt
  exact call_checked hT.1 hT.2.2.2
theorem s_fault (h : INV k n m) : ∃ r, N_H_fault v x n = some r ∧ N_Y_fault v x m = some r := by
  obtain ⟨As, Bs, A, B, G, h1, h2, h3, h4, h5⟩ := h
  obtain ⟨N, o, e, p, hT, _, hF⟩ := h1.jt
  exact call_fault hF
theorem s_found (h : INV k n m) : ∃ r, N_H_found v n = some r ∧ N_Y_found v m = some r := by
  obtain ⟨As, Bs, A, B, G, h1, h2, h3, h4, h5⟩ := h
  exact call_found h3.2.2
/-- acts -/
theorem tape_le {m0 : YS} (h : KYt m0 m') (h1 : m0 1 0 ≤ 20 * k ∧ 0 ≤ m0 1 0) : m' 1 0 ≤ 20 * (k + 1) := by
  rcases h.1 with g | g <;> omega
theorem s_script (h : INV k n m) (hk : k ≤ 64) : CLS k (N_H_script n) (N_Y_script m) := by
  have h5 : (m 25 0 ≤ 1000 * k ∧ m 1 0 ≤ 20 * k) ∧ 0 ≤ m 1 0 := by obtain ⟨As, Bs, A, B, G, h1, h2, h3, h4, h5⟩ := h; exact ⟨h5, h3.1.2.2.1⟩
  refine h.fz (As' := fun _ => True) (Bs' := fun _ => True) (A' := 0) (B' := 0) (G' := 0) (fun As Bs A B G hC hA hJ hO => ?_) (k_N_H_script KRw.refl) (c_N_H_script h.chk)
  obtain ⟨r, n', m', q1, q2, q3, q4, q5, q6⟩ := call_script hC hJ hO (by omega)
  have g := y_N_Y_script KYt.refl _ q2
  exact ⟨r, n', m', q1, q2, q3.mono (by omega), q4, q5, q6, tape_le g ⟨h5.1.2, h5.2⟩, by have e : m' 25 0 = m 25 0 := g.2; omega⟩
theorem s_page (h : INV k n m) (hk : k ≤ 64) : CLS k (N_H_page n) (N_Y_page m) := by
  have h5 : (m 25 0 ≤ 1000 * k ∧ m 1 0 ≤ 20 * k) ∧ 0 ≤ m 1 0 := by obtain ⟨As, Bs, A, B, G, h1, h2, h3, h4, h5⟩ := h; exact ⟨h5, h3.1.2.2.1⟩
  refine h.fz (As' := fun _ => True) (Bs' := fun _ => True) (A' := 0) (B' := 0) (G' := 0) (fun As Bs A B G hC hA hJ hO => ?_) (k_N_H_page KRw.refl) (c_N_H_page h.chk)
  obtain ⟨r, n', m', q1, q2, q3, q4, q5, q6⟩ := call_page hC hJ hO (by omega) (by omega)
  have g := y_N_Y_page KYt.refl _ q2
  exact ⟨r, n', m', q1, q2, q3.mono (by omega), q4, q5, q6, tape_le g ⟨h5.1.2, h5.2⟩, by have e : m' 25 0 = m 25 0 := g.2; omega⟩
theorem s_visit (h : INV k n m) (hk : k ≤ 64) : CLS k (N_H_visit n) (N_Y_visit m) := by
  have h5 : (m 25 0 ≤ 1000 * k ∧ m 1 0 ≤ 20 * k) ∧ 0 ≤ m 1 0 := by obtain ⟨As, Bs, A, B, G, h1, h2, h3, h4, h5⟩ := h; exact ⟨h5, h3.1.2.2.1⟩
  refine h.fz (As' := fun _ => True) (Bs' := fun _ => True) (A' := 0) (B' := 0) (G' := 0) (fun As Bs A B G hC hA hJ hO => ?_) (k_N_H_visit KRw.refl) (c_N_H_visit h.chk)
  obtain ⟨r, n', m', q1, q2, q3, q4, q5, q6⟩ := call_visit hC hJ hO (by omega)
  have g := y_N_Y_visit KYt.refl _ q2
  exact ⟨r, n', m', q1, q2, q3.mono (by omega), q4, q5, q6, tape_le g ⟨h5.1.2, h5.2⟩, by have e : m' 25 0 = m 25 0 := g.2; omega⟩
theorem JTape.fc (h : JTape n m) (hF : FC n n' m m') : JTape n' m' := by
  have g := hF.1.2.1 605 (by decide) (by decide) (by decide)
  have e : bt n' 605 = bt n 605 := FS.bt hF.1.2.1 (by decide) (by decide)
  unfold JTape ys at *
  rw [e, g.1, hF.2.1 0 (by omega), hF.2.1 1 (by omega)]; exact h
theorem s_history (h : INV k n m) (hk : k ≤ 64) (hv : -2147483648 ≤ v ∧ v ≤ 2147483647) : CLS k (N_H_history v n) (N_Y_history v m) := by
  have h5 : (m 25 0 ≤ 1000 * k ∧ m 1 0 ≤ 20 * k) ∧ 0 ≤ m 1 0 := by obtain ⟨As, Bs, A, B, G, h1, h2, h3, h4, h5⟩ := h; exact ⟨h5, h3.1.2.2.1⟩
  refine h.fz (As' := fun _ => True) (Bs' := fun _ => True) (A' := 0) (B' := 0) (G' := 0) (fun As Bs A B G hC hA hJ hO => ?_) (k_N_H_history KRw.refl) (c_N_H_history h.chk)
  obtain ⟨r, n', m', q1, q2, q3, q4, q5⟩ := call_history (v := v) hC hO (by omega) hv
  exact ⟨r, n', m', q1, q2, q3.mono (by omega), hJ.fc q5, q4, q5.fz, by rw [q5.2.1 1 (by omega)]; omega, by rw [q5.2.1 25 (by omega)]; omega⟩
theorem s_key {c : Int} (h : INV k n m) (hk : k ≤ 64) : CLS k (N_H_key c n) (N_Y_key c m) := by
  have h5 : (m 25 0 ≤ 1000 * k ∧ m 1 0 ≤ 20 * k) ∧ 0 ≤ m 1 0 := by obtain ⟨As, Bs, A, B, G, h1, h2, h3, h4, h5⟩ := h; exact ⟨h5, h3.1.2.2.1⟩
  refine h.fz (As' := fun _ => True) (Bs' := fun _ => True) (A' := 0) (B' := 0) (G' := 0) (fun As Bs A B G hC hA hJ hO => ?_) (k_N_H_key KRw.refl) (c_N_H_key h.chk)
  obtain ⟨r, n', m', q1, q2, q3, q4, q5⟩ := call_key (c := c) hC hO (by omega)
  exact ⟨r, n', m', q1, q2, q3, hJ.fc q5, q4, q5.fz, by rw [q5.2.1 1 (by omega)]; omega, by rw [q5.2.1 25 (by omega)]; omega⟩
theorem s_tick (h : INV k n m) (hk : k ≤ 64) : CLS k (N_H_tick v n) (N_Y_tick v m) := by
  have h5 : (m 25 0 ≤ 1000 * k ∧ m 1 0 ≤ 20 * k) ∧ 0 ≤ m 1 0 := by obtain ⟨As, Bs, A, B, G, h1, h2, h3, h4, h5⟩ := h; exact ⟨h5, h3.1.2.2.1⟩
  refine h.fz (As' := fun _ => True) (Bs' := fun _ => True) (A' := 0) (B' := 0) (G' := 0) (fun As Bs A B G hC hA hJ hO => ?_) (k_N_H_tick KRw.refl) (c_N_H_tick h.chk)
  obtain ⟨r, n', m', q1, q2, q3, q4, q5, q6, q7, q8⟩ := call_tick (v := v) hC hO (by omega) (by omega)
  have hJ' : JTape n' m' := by
    unfold JTape ys at *
    rw [q8.2, q8.1, q7 0 (by decide), q7 1 (by decide)]; exact hJ
  exact ⟨r, n', m', q1, q2, q3.mono (by omega), hJ', q4, q5, by rw [q7 1 (by decide)]; omega, by omega⟩
end YZ8
