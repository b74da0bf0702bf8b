/-! A STEP, in both -/
def GTS (m : YS) (v : Int) : Prop := (0 ≤ v ∧ v < 120) ∧ m 45 v = 1 ∧ m 46 v ≠ 17 ∧ m 164 0 = v ∧ m 126 0 = 0
/-- how a step ends: done; a get is under way; a visit is set off -/
def SND (As Bs : Int → Prop) (A B δ G : Int) (n : NS) (m : YS) (X : Option (Int × NS)) (Y : Option (Int × YS)) : Prop :=
  DON As Bs A B δ (G + 6) n m X Y
  ∨ (∃ v n1 m1, X = some (1, nw n1 0 0 17 v) ∧ Y = (getR m1).bind (fun m53 => some (1, m53)) ∧ JA As Bs A B δ (G + 6) n1 m1 ∧ FA n n1 m m1 ∧ AR n1 m1 1584 0 ∧ GTS m1 v)
  ∨ (∃ n1 m1, X = some (1, nw n1 6 0 16 1) ∧ Y = ((N_Y_goTo m1).bind N_Y_remember).bind (fun m29 => some (1, m29)) ∧ JA As Bs A B δ (G + 6) n1 m1 ∧ FA n n1 m m1 ∧ AR n1 m1 1584 0)
/-- or stop -/
def STP (As Bs : Int → Prop) (A B δ G : Int) (n : NS) (m : YS) (X : Option (Int × NS)) (Y : Option (Int × YS)) : Prop :=
  SND As Bs A B δ G n m X Y ∨ (X = some (1, if n 0 0 18 = 0 then n else nw (nw n 0 0 18 0) 0 0 16 (n 0 0 15)) ∧ Y = some (1, yw m 163 0 1))
/-- a step of the reference on a node, from its first NAME on -/
noncomputable def ndR (z1 q v2 : Int) (m : YS) : Option (Int × YS) :=
  (N_Y_nameEnd 159 q v2 m).bind fun z44 =>
    if z44 = q then some (0, m)
    else
      if z1 = 7 then (N_Y_putStep q z44 v2 m).bind <| u2 fun z51 m54 => some (z51, m54)
      else
        if z1 = 3 then
          if z44 = v2 then (N_Y_nodeOf q z44 m).bind fun z61 => nk_Y_step_246 z61 m
          else nk_Y_step_246 (-1) m
        else
          if z44 = v2 then some (0, m)
          else
            ix z44 2000 <|
            if (m 159 z44) = 32 then
              ck (z44 + 1) <|
              if z1 = 2 then nk_Y_step_319 v2 q z1 z44 (z44 + 1) m
              else if z1 = 8 then nk_Y_step_319 v2 q z1 z44 (z44 + 1) m
              else nk_Y_step_350 v2 q z1 z44 (z44 + 1) m
            else some (0, m)
noncomputable def opR (r q to : Int) (m : YS) : Option (Int × YS) :=
      (if r = 0 then ck (to - (q + 1)) ((N_Y_setText 159 (q + 1) (to - (q + 1)) m).bind fun m20 => some (1, m20))
        else if r = 1 then (N_Y_setClass (q + 1) to m).bind fun m25 => some (1, m25)
        else if r = 2 then (N_Y_addElement (q + 1) to m).bind fun m30 => some (1, m30)
        else if r = 3 then nk_Y_step_545 to (q + 1) m
        else if r = 4 then ix (m 164 0) 120 (if (m 46 (m 164 0)) = 13 then ck (to - (q + 1)) (ix (m 164 0) 120 (st (yw m 65 (m 164 0) (min 24 (to - (q + 1)))) fun m44 => (NL_Y_step_489 (q + 1) 0 m44).bind fun m47 => some (1, m47))) else some (1, m))
        else if r = 5 then nk_Y_step_545 to (q + 1) m
        else if r = 6 then (N_Y_getStep (q + 1) to m).bind fun m53 => some (1, m53)
        else nk_Y_step_545 to (q + 1) m)
section N4
variable {n n' n'' : NS} {m m' m'' : YS} {A B N N' k v b a δ δ' G G' fr to d L r r' q : Int} {o e p o' e' p' : Int → Int} {As Bs W S : Int → Prop} {κ κ' : Int → Int} {X : Option (Int × NS)} {Y : Option (Int × YS)}
theorem DON.pre (h : DON As Bs A B δ G n' m' X Y) (hF : FA n n' m m') : DON As Bs A B δ G n m X Y := by
  obtain ⟨r, a, b, x1, x2, x3, x4, x5⟩ := h
  exact ⟨r, a, b, x1, x2, x3, x4, hF.trans x5⟩
theorem DON.mono (h : DON As Bs A B δ G n m X Y) (hG : G ≤ G') : DON As Bs A B δ G' n m X Y := by
  obtain ⟨r, a, b, x1, x2, x3, x4, x5⟩ := h
  exact ⟨r, a, b, x1, x2, x3, x4.mono (by omega), x5⟩
theorem DON.mk (h : JA As Bs A B δ G n' m') (hF : FA n n' m m') (hr : r = 0 ∨ r = 1) (hX : X = some (r, n')) (hY : Y = some (r, m')) : DON As Bs A B δ G n m X Y := ⟨r, n', m', hX, hY, hr, h.mono (by omega), hF⟩
theorem FA.row (hF : FA n n' m m') : n' 4 609 = n 4 609 := (hF.1.2.1 609 (by decide) (by decide) (by decide)).1
theorem JTr.liv (hT : JTr n m N o e p) (k0 : 0 ≤ k) (k1 : k < N) : (0 ≤ o k ∧ o k < 120) ∧ m 45 (o k) = 1 := by
  have hb := hT.1.1.1.oB k0 k1
  exact ⟨hb, (hT.1.1.2.2.2.1 _ hb.1 hb.2).2.1.mpr ⟨k, k0, k1, rfl⟩⟩
theorem JA.at (h : JA As Bs A B δ G n m) (hv : 0 ≤ v ∧ v < 120) (h1 : m 45 v = 1) : ∃ N o e p k, JTr n m N o e p ∧ 0 ≤ k ∧ k < N ∧ o k = v := by
  obtain ⟨κ, N, o, e, p, _, hT, _⟩ := h
  obtain ⟨k, k0, k1, hk⟩ := (hT.1.1.2.2.2.1 v hv.1 hv.2).2.1.mp h1
  exact ⟨N, o, e, p, k, hT, k0, k1, hk⟩
/-- what both do to a node that is there -/
theorem step_op (h : JA As Bs A B δ G n m) (hG : G < 600000000) (hR : JRn n m) (hT : JTr n m N o e p) (k0 : 0 ≤ k) (k1 : k < N) (hk : o k = v) (h17 : m 46 v ≠ 17) (h164 : m 164 0 = v) (h126 : m 126 0 = 0) (hn17 : n 0 0 17 = -1) (hq : 0 ≤ q ∧ q < to ∧ to ≤ m 160 0) (hr : r = 0 ∨ r = 1 ∨ r = 2 ∨ r = 4 ∨ r = 6 ∨ r = 8) (hn : r = 2 ∨ r = 8 → q + 1 < to ∧ nmC (m 159) (q + 1) to = to) :
    SND As Bs A B δ G n m
      (if r = 0 then ck (q + 1) ((N_Tree_setText v (n 4 609 1) (q + 1) to n).bind fun n27 => some (1, n27))
        else if r = 1 then ck (q + 1) ((N_Tree_setClass v (n 4 609 1) (q + 1) to n).bind fun n34 => some (1, n34))
        else if r = 2 then ck (q + 1) ((N_Acts_runAdd v (n 4 609 1) (q + 1) to n).bind (u2 fun z40 n43 => some (z40, n43)))
        else if r = 3 then nk_Acts_runOnNode_241 (n 4 609 1) to q v n
        else if r = 4 then ix v 120 (if (n 7 v 0) = 13 then ix v 120 (ck (q + 1) ((N_Node_setValue v (n 4 609 1) (q + 1) to n).bind fun n59 => some (1, n59))) else some (1, n))
        else if r = 5 then nk_Acts_runOnNode_241 (n 4 609 1) to q v n
        else if r = 6 then ck (q + 1) (ty n 1584 101 ((N_Address_read 1584 (n 4 609 1) (q + 1) to 1582 n).bind (u2 fun z72 n75 => if z72 = 0 then nk_Acts_runOnNode_222 (-1) n75 else nk_Acts_runOnNode_222 v n75)))
        else nk_Acts_runOnNode_241 (n 4 609 1) to q v n)
      (opR r q to m) := by
  unfold opR
  have r1 := hR.1
  have hf : 0 ≤ q + 1 ∧ q + 1 ≤ to ∧ to ≤ m 160 0 := by omega
  have hv := hT.liv k0 k1
  rw [hk] at hv
  have ckq : ∀ {α : Type} (x : Option α), ck (q + 1) x = x := fun x => by unfold ck; rw [if_pos (by omega)]
  have ckt : ∀ {α : Type} (x : Option α), ck (to - (q + 1)) x = x := fun x => by unfold ck; rw [if_pos (by omega)]
  have ixv : ∀ {α : Type} (x : Option α), ix v 120 x = x := fun x => by unfold ix; rw [if_pos hv.1]
  simp only [ckq, ckt, h164, ixv]
  rcases hr with y | y | y | y | y | y <;> subst y
  · exact .inl ((opText h hG hR hT k0 k1 hk h17 h164 h126 hf).mono (by omega))
  · exact .inl ((opClass h hG hR hT k0 k1 hk h17 h164 h126 hf).mono (by omega))
  · exact .inl ((opAdd h hG hR hT k0 k1 hk h17 h164 h126 ⟨hf.1, hf.2.2⟩ (hn (.inl rfl))).mono (by omega))
  · exact .inl ((opVal h hG hR hT k0 k1 hk h164 h126 hf).mono (by omega))
  · have hty : n 92 0 1584 = 101 := by
      obtain ⟨_, _, _, _, _, h0, _⟩ := h
      exact (h0.1.2.1.1 1584 h0.1.2.1.2.2.1.2.2.1).1.2.1
    have et : ∀ {α : Type} (x : Option α), ty n 1584 101 x = x := fun x => by unfold ty; rw [if_pos hty]
    simp only [et]
    rcases opGet (v := v) h hR hf hn17 with y | ⟨n1, m1, y1, y2, y3, y4, y5, y6⟩
    · exact .inl y
    · refine .inr (.inl ⟨v, n1, m1, y1, y2, y3, y4, y5, hv.1, ?_, ?_, ?_, ?_⟩)
      · rw [y6 45 (by decide)]; exact hv.2
      · rw [y6 46 (by decide)]; exact h17
      · rw [y6 164 (by decide)]; exact h164
      · rw [y6 126 (by decide)]; exact h126
  · have := opRead h hG hR hT k0 k1 hk h17 h164 h126 ⟨hf.1, hf.2.2⟩ (hn (.inr rfl))
    refine .inl ?_
    have e1 : nk_Acts_runOnNode_241 (n 4 609 1) to q v n = (N_Acts_lookUp (n 4 609 1) (q + 1) to n).bind (u2 fun z3 n6 => if z3 = 0 then some (0, n6) else nn (n6 4 610 1) ((N_Tree_setText v (n6 4 610 1) 0 (n6 4 610 2) n6).bind fun n17 => some (1, n17))) := by
      unfold nk_Acts_runOnNode_241
      rw [ckq]
    show DON As Bs A B δ (G + 6) n m (nk_Acts_runOnNode_241 (n 4 609 1) to q v n) (nk_Y_step_545 to (q + 1) m)
    rw [e1]
    exact this.mono (by omega)
theorem nmE_b {g : Int → Int} (h : q ≤ to) : q ≤ nmE g q to ∧ nmE g q to ≤ to := by
  have h1 := scx_ge (p := fun j => isNm (g j)) q to
  have h2 := scx_le (p := fun j => isNm (g j)) (i := q) (to := to) h
  unfold nmE
  split
  · split
    · omega
    · exact ⟨h1, h2⟩
  · omega
theorem SND.pre (h : SND As Bs A B δ G n' m' X Y) (hF : FA n n' m m') : SND As Bs A B δ G n m X Y := by
  rcases h with h | ⟨v, n1, m1, x1, x2, x3, x4, x5⟩ | ⟨n1, m1, x1, x2, x3, x4, x5⟩
  · exact .inl (h.pre hF)
  · exact .inr (.inl ⟨v, n1, m1, x1, x2, x3, hF.trans x4, x5⟩)
  · exact .inr (.inr ⟨n1, m1, x1, x2, x3, hF.trans x4, x5⟩)
theorem SND.mk (h : JA As Bs A B δ G n' m') (hF : FA n n' m m') (hr : r = 0 ∨ r = 1) (hX : X = some (r, n')) (hY : Y = some (r, m')) : SND As Bs A B δ G n m X Y := .inl ((DON.mk h hF hr hX hY).mono (by omega))
/-- a step on a node -/
theorem step_node (h : JA As Bs A B δ G n m) (hG : G < 600000000) (hR : JRn n m) (hn17 : n 0 0 17 = -1) (hq : 0 ≤ q ∧ q ≤ to ∧ to ≤ m 160 0) (hr : r = 0 ∨ r = 1 ∨ r = 2 ∨ r = 3 ∨ r = 4 ∨ r = 6 ∨ r = 8) :
    SND As Bs A B δ G n m (N_Acts_runOnNode r (n 4 609 1) q to n) (ndR r q to m) := by
  have hr6' : ¬ r = 3 → r = 0 ∨ r = 1 ∨ r = 2 ∨ r = 4 ∨ r = 6 ∨ r = 8 := fun _ => by omega
  have hR0 := hR
  obtain ⟨r1, r2, r3, r4, r5⟩ := hR
  have eB := c_blankAt (fr := q) (to := to) r2 ⟨hq.1, hq.2.1, hq.2.2, r1.2.2⟩
  have eE := ys_nameEnd (f := 159) (i := q) (to := to) (m := m) (by show _ ≤ (2000 : Int); omega) hq.1 (by omega) (by omega)
  have hnh := nameHead (g := m 159) (q := q) (to := to) (st := bkA (m 159) q to) hq.2.1 rfl
  have hsb : q ≤ bkA (m 159) q to ∧ bkA (m 159) q to ≤ to := by unfold bkA; exact ⟨scx_ge _ _, scx_le (by omega)⟩
  unfold N_Acts_runOnNode ndR
  rw [eB, eE]
  simp only [Option.bind_some]
  generalize hst : bkA (m 159) q to = s at *
  generalize hE : nmE (m 159) q to = E at *
  have hr7 : ¬ r = 7 := by omega
  rcases hnh with ⟨a1, a2, a3, a4, a5⟩ | ⟨b1, b2⟩
  · subst a3
    obtain ⟨κ, N, o, e, p, _, hT, _⟩ := id h
    obtain ⟨z, n1, c1, c2, c3, c4, c5, c6⟩ := called_both hT.1 h.bi r2 r4 r5 ⟨hq.1, by omega, r1.2.2⟩ (fr := q) (st := E) ⟨a4, a5⟩
    obtain ⟨hA1, fA1⟩ := h.fl c3 hT.2.1 c5 c4
    have hT1 : JTr n1 m N o e p := by
      refine ⟨c3, hT.2.1, ?_, ?_⟩
      · have := hT.2.2.1
        unfold JF at *
        rw [c4.1 8 (by decide) (by decide) (by decide), c4.1 28 (by decide) (by decide) (by decide), c4.1 29 (by decide) (by decide) (by decide)]; exact this
      · rw [c4.2.2 6 (by decide) (by decide)]; exact hT.2.2.2
    rw [c1]
    simp only [Option.bind_some, u2, if_neg a1, if_neg hr7]
    have e609 := fA1.row
    by_cases h3 : r = 3
    · simp only [if_pos h3]
      by_cases hs : E = to
      · simp only [if_pos hs, c2, Option.bind_some]
        have e246 : nk_Y_step_246 z m = if z = -1 then some (0, yw m 164 0 z) else if 0 < z then (N_Y_remove z (yw m 164 0 z)).bind fun m12 => (N_Y_changed m12).bind fun m16 => some (1, m16) else some (1, yw m 164 0 z) := by
          unfold nk_Y_step_246 st
          dsimp only
          rw [yw_eq]
        by_cases hz : z = -1
        · rw [if_pos hz] at e246
          rw [if_pos hz, e246]
          exact SND.mk (r := 0) (n' := n1) (m' := yw m 164 0 z) hA1.tgt (fA1.trans FA.y164) (.inl rfl) rfl rfl
        · rw [if_neg hz] at e246
          rw [if_neg hz, e246]
          obtain ⟨k, k0, k1, hk, _⟩ := c6.resolve_left hz
          have e48 : ((N_Tree_remove z n1).bind fun n18 => nk_Acts_runOnNode_48 to E n18) = (N_Tree_remove z n1).bind fun n18 => some (1, n18) := by
            congr 1
            funext x
            unfold nk_Acts_runOnNode_48
            rw [if_pos hs]
          rw [e48]
          have hT2 : JTr n1 (yw m 164 0 z) N o e p := hT1.cg (fun _ _ => rfl) (fun _ _ _ => rfl) (fun f x y => yw_nF (by omega))
          exact .inl (((opDel hA1.tgt hG hT2 k0 k1 hk).mono (by omega)).pre (fA1.trans FA.y164))
      · simp only [if_neg hs]
        have e246 : nk_Y_step_246 (-1) m = some (0, yw m 164 0 (-1)) := by
          unfold nk_Y_step_246 st
          dsimp only
          rw [yw_eq, if_pos rfl]
        rw [e246]
        refine SND.mk (r := 0) (n' := n1) (m' := yw m 164 0 (-1)) hA1.tgt (fA1.trans FA.y164) (.inl rfl) ?_ rfl
        by_cases hz : z = -1
        · rw [if_pos hz]
        · rw [if_neg hz]
          unfold nk_Acts_runOnNode_48
          rw [if_neg hs]
    · simp only [if_neg h3]
      by_cases hs : E = to
      · simp only [if_pos hs]
        refine SND.mk (r := 0) (n' := n1) (m' := m) hA1 fA1 (.inl rfl) ?_ rfl
        split <;> rfl
      · have h32 : m 159 E = 32 := a2.resolve_left hs
        have hlt : E < to := by omega
        have hE0 : 0 ≤ E := by omega
        have hr6 := hr6' h3
        have ixE : ∀ {α : Type} (x : Option α), ix E 2000 x = x := fun x => by unfold ix; rw [if_pos (by omega)]
        have ckE : ∀ {α : Type} (x : Option α), ck (E + 1) x = x := fun x => by unfold ck; rw [if_pos (by omega)]
        simp only [if_neg hs, ixE, if_pos h32, ckE]
        have tx1 : tx n1 (n 4 609 1) (m 159) (m 160 0) := by
          have := (hR0.fa c5 fA1).2.1
          rw [e609] at this; exact this
        have eE2 := ys_nameEnd (f := 159) (i := E + 1) (to := to) (m := m) (by show _ ≤ (2000 : Int); omega) (by omega) (by omega) (by omega)
        have hna := nameAll (g := m 159) (fr := E + 1) (to := to) (by omega)
        have e319 : nk_Y_step_319 to q r E (E + 1) m = @ite _ (E + 1 < to ∧ nmC (m 159) (E + 1) to = to) (Classical.propDecidable _) (nk_Y_step_350 to q r E (E + 1) m) (some (0, m)) := by
          unfold nk_Y_step_319
          rw [eE2]
          simp only [Option.bind_some]
          by_cases u : E + 1 < to ∧ nmC (m 159) (E + 1) to = to
          · have := hna.mpr u
            rw [if_neg this.1, if_pos this.2, if_pos u]
          · rw [if_neg u]
            by_cases u1 : nmE (m 159) (E + 1) to = E + 1
            · rw [if_pos u1]
            · rw [if_neg u1, if_neg (fun u2 => u (hna.mp ⟨u1, u2⟩))]
        by_cases hok : r = 2 ∨ r = 8 → E + 1 < to ∧ nmC (m 159) (E + 1) to = to
        · have eY : (if r = 2 then nk_Y_step_319 to q r E (E + 1) m else if r = 8 then nk_Y_step_319 to q r E (E + 1) m else nk_Y_step_350 to q r E (E + 1) m) = nk_Y_step_350 to q r E (E + 1) m := by
            by_cases y : r = 2
            · rw [if_pos y, e319, if_pos (hok (.inl y))]
            · rw [if_neg y]
              by_cases y8 : r = 8
              · rw [if_pos y8, e319, if_pos (hok (.inr y8))]
              · rw [if_neg y8]
          rw [eY]
          have e350 : nk_Y_step_350 to q r E (E + 1) m = if z = -1 then some (0, yw m 164 0 z) else opR r E to (yw (yw m 164 0 z) 126 0 0) := by
            unfold nk_Y_step_350
            rw [c2]
            show (if yw m 164 0 z 164 0 = -1 then some (0, yw m 164 0 z) else _) = _
            rw [yw_eq]
            rfl
          rw [e350]
          by_cases hz : z = -1
          · rw [if_pos hz, if_pos hz]
            exact SND.mk (r := 0) (n' := n1) (m' := yw m 164 0 z) hA1.tgt (fA1.trans FA.y164) (.inl rfl) rfl rfl
          · rw [if_neg hz, if_neg hz]
            obtain ⟨k, k0, k1, hk, h17⟩ := c6.resolve_left hz
            have hA2 : JA As Bs A B δ G n1 (yw (yw m 164 0 z) 126 0 0) := hA1.tgt.chd
            have fA2 : FA n n1 m (yw (yw m 164 0 z) 126 0 0) := (fA1.trans FA.y164).trans FA.y126
            have hR2 := hR0.fa c5 fA2
            have hT2 : JTr n1 (yw (yw m 164 0 z) 126 0 0) N o e p := hT1.cg (fun _ _ => rfl) (fun _ _ _ => rfl) (fun f x y => by rw [yw_nF (by omega), yw_nF (by omega)])
            have y159 : yw (yw m 164 0 z) 126 0 0 159 = m 159 := by rw [yw_nF (by decide), yw_nF (by decide)]
            have := step_op hA2 hG hR2 hT2 k0 k1 hk (by rw [yw_nF (by decide), yw_nF (by decide)]; exact h17) (by rw [yw_nF (by decide), yw_eq]) yw_eq (by rw [fA1.1.2.2.1 17 (by decide)]; exact hn17) (q := E) (to := to) ⟨hE0, hlt, by rw [yw_nF (by decide), yw_nF (by decide)]; exact hq.2.2⟩ (r := r) hr6 (by rw [y159]; exact hok)
            rw [e609] at this
            simp only [if_neg h3, ckE] at this
            exact this.pre fA2
        · have hr2 : (r = 2 ∨ r = 8) ∧ ¬ (E + 1 < to ∧ nmC (m 159) (E + 1) to = to) := Classical.byContradiction (fun q => hok (fun a => Classical.byContradiction (fun b => q ⟨a, b⟩)))
          obtain ⟨hr2, hno⟩ := hr2
          have eY : (if r = 2 then nk_Y_step_319 to q r E (E + 1) m else if r = 8 then nk_Y_step_319 to q r E (E + 1) m else nk_Y_step_350 to q r E (E + 1) m) = some (0, m) := by
            rw [e319, if_neg hno]
            rcases hr2 with y | y
            · rw [if_pos y]
            · rw [if_neg (by omega), if_pos y]
          rw [eY]
          refine SND.mk (r := 0) (n' := n1) (m' := m) hA1 fA1 (.inl rfl) ?_ rfl
          have eN := c_isName tx1 (fr := E + 1) (to := to) ⟨by omega, by omega, r1.2.2⟩
          rw [if_neg hno] at eN
          by_cases hz : z = -1
          · rw [if_pos hz]
          · rw [if_neg hz]
            rcases hr2 with y | y
            · rw [if_neg (show ¬ r = 0 by omega), if_neg (show ¬ r = 1 by omega), if_pos y]
              unfold N_Acts_runAdd
              rw [eN]; rfl
            · rw [if_neg (show ¬ r = 0 by omega), if_neg (show ¬ r = 1 by omega), if_neg (show ¬ r = 2 by omega), if_neg (show ¬ r = 4 by omega), if_neg (show ¬ r = 5 by omega), if_neg (show ¬ r = 6 by omega)]
              unfold nk_Acts_runOnNode_241 N_Acts_lookUp
              rw [ckE, eN]; rfl
  · have eN := c_isName r2 (fr := q) (to := s) ⟨hq.1, by omega, r1.2.2⟩
    rw [if_neg b2] at eN
    have eC : N_Acts_nodeCalled (n 4 609 1) q s n = some (-1, n) := by
      unfold N_Acts_nodeCalled
      rw [eN]; rfl
    rw [eC]
    simp only [Option.bind_some, u2]
    by_cases h1 : E = q
    · simp only [if_pos h1]
      exact SND.mk (r := 0) (n' := n) (m' := m) h (FA.refl n m) (.inl rfl) rfl rfl
    · have hne : ¬ E = to := fun y => b1 ⟨h1, .inl y⟩
      simp only [if_neg h1, if_neg hr7, if_neg hne]
      by_cases h3 : r = 3
      · simp only [if_pos h3]
        refine SND.mk (r := 0) (n' := n) (m' := yw m 164 0 (-1)) h.tgt FA.y164 (.inl rfl) rfl ?_
        unfold nk_Y_step_246 st
        dsimp only
        rw [yw_eq, if_pos rfl]
      · simp only [if_neg h3]
        refine SND.mk (r := 0) (n' := n) (m' := m) h (FA.refl n m) (.inl rfl) rfl ?_
        have hE2 : q ≤ E ∧ E ≤ to := by rw [← hE]; exact nmE_b hq.2.1
        unfold ix
        rw [if_pos (by omega), if_neg (fun y => b1 ⟨h1, .inr y⟩)]
end N4
