/-! DEFAULTS: a key -/
def FE (n n' : NS) (m m' : YS) : Prop := FC n n' m m' ∧ FP m m' ∧ (∀ s, s ≠ 6 → n' 0 0 s = n 0 0 s) ∧ n' 6 0 16 = n 6 0 16 ∧ n' 46 = n 46 ∧ n' 4 609 = n 4 609 ∧ (∀ f, 152 ≤ f → f ≠ 182 → f ≠ 183 → m' f = m f)
/-- how a DEFAULT ends: done; or a visit is set off -/
def DFR (As Bs : Int → Prop) (A B G : Int) (n : NS) (m : YS) (X : Option NS) (Y : Option YS) : Prop :=
  (∃ n' m', X = some n' ∧ Y = some m' ∧ JA As Bs A B 0 (G + 40) n' m' ∧ FE n n' m m')
  ∨ (∃ n1 m1, X = some (nw n1 6 0 16 1) ∧ Y = (N_Y_goTo m1).bind N_Y_remember ∧ JA As Bs A B 0 (G + 40) n1 m1 ∧ FE n n1 m m1 ∧ AR n1 m1 1584 0)
section P9
variable {n n' n'' n2 : NS} {m m' m'' m0 m2 : YS} {A B N N' k b a δ δ' fr to d L r r' x f v c i z M kf G G' : Int} {o e p o' e' p' κ g : Int → Int} {As Bs W S : Int → Prop} {X : Option NS} {Y : Option YS}
theorem FE.refl (n : NS) (m : YS) : FE n n m m := ⟨FC.refl n m, FP.refl m, fun _ _ => rfl, rfl, rfl, rfl, fun _ _ _ _ => rfl⟩
theorem FE.trans (h : FE n n' m m') (h' : FE n' n'' m' m'') : FE n n'' m m'' := ⟨h.1.trans h'.1, h.2.1.trans h'.2.1, fun s hs => (h'.2.2.1 s hs).trans (h.2.2.1 s hs), h'.2.2.2.1.trans h.2.2.2.1, h'.2.2.2.2.1.trans h.2.2.2.2.1, h'.2.2.2.2.2.1.trans h.2.2.2.2.2.1, fun f a b c => (h'.2.2.2.2.2.2 f a b c).trans (h.2.2.2.2.2.2 f a b c)⟩
theorem FD.fe (h : FD n n' m m') : FE n n' m m' := ⟨h.1, h.2.1, fun s _ => by rw [h.2.2.1], h.2.2.2.1, h.2.2.2.2.1, h.2.2.2.2.2.1, fun f a b c => h.2.2.2.2.2.2 f (by omega) b c⟩
theorem SNR.dfr (h : SNR As Bs A B 0 G n m X Y) : DFR As Bs A B G n m X Y := by
  rcases h with ⟨a, b, x1, x2, x3, x4⟩ | ⟨a, b, x1, x2, x3, x4, x5⟩
  · exact .inl ⟨a, b, x1, x2, x3.mono (by omega), x4.fe⟩
  · exact .inr ⟨a, b, x1, x2, x3.mono (by omega), x4.fe, x5⟩
theorem DFR.pre (h : DFR As Bs A B G n' m' X Y) (hF : FE n n' m m') : DFR As Bs A B G n m X Y := by
  rcases h with ⟨a, b, x1, x2, x3, x4⟩ | ⟨a, b, x1, x2, x3, x4, x5⟩
  · exact .inl ⟨a, b, x1, x2, x3, hF.trans x4⟩
  · exact .inr ⟨a, b, x1, x2, x3, hF.trans x4, x5⟩
theorem type_both (h : JA As Bs A B 0 G n m) (hN : NIB m) (hM : MkR (n 0 0 6) v b) (hv : m 150 0 = v) (hal : m 45 v = 1 ∧ m 55 v = b) (h13 : m 46 v = 13) (hc : c = 8 ∨ c = 10 ∨ (32 ≤ c ∧ c ≤ 126)) :
    DFR As Bs A B G n m (N_Acts_typeKey c n) (N_Y_typed c m) := by
  have hvb := hM.2.1
  obtain ⟨N, o, e, p, k, hT, k0, k1, hk⟩ := h.at hvb hal.1
  have hd := hT.1.2.2.2 k k0 k1
  rw [hk] at hd
  have q := hd.2.2.2.2.2.1 h13
  have eal : N_Tree_alive (n 0 0 6) n = some v := by rw [c_alive hT.1.1 hM, if_pos hal]
  have hix : ∀ {α : Type} (x : Option α), ix v 120 x = x := fun x => by unfold ix; rw [if_pos hvb]
  have eC : N_Acts_typeKey c n = if c = 8 then (N_Bytes_dropLast (5 * v) n).bind fun n16 => some n16 else if c = 10 then (N_Tree_around v 5 n).bind fun z23 => if z23 = (-1) then some n else (N_Tree_around v 5 n).bind fun z30 => (N_Acts_send z30 n).bind fun n34 => some n34 else if (n 4 (5 * v) 2) < 24 then (N_Bytes_add (5 * v) c n).bind fun n41 => some n41 else some n := by
    unfold N_Acts_typeKey
    rw [eal]
    simp only [Option.bind_some]
    rw [if_neg (by omega), hix]
  rw [eC]
  unfold N_Y_typed
  rw [hv]
  simp only [hix]
  by_cases c8 : c = 8
  · rw [if_pos c8, if_pos c8]
    obtain ⟨n', e1, x1, x2, x3, x4, x5, x6, x7⟩ := key_drop h hT k0 k1 hk h13
    refine .inl ⟨n', _, by rw [e1]; rfl, ?_, x1.mono (by omega), x2, x3, fun s _ => by rw [x4], by rw [x5], x6, x7, fun f a _ _ => yw_nF (by omega)⟩
    unfold ck st
    rw [if_pos (by omega)]
  · rw [if_neg c8, if_neg c8]
    by_cases c10 : c = 10
    · rw [if_pos c10, if_pos c10]
      obtain ⟨r, e1, e2, e3⟩ := form_both hT.1 k0 k1 (by rw [hk]; omega)
      rw [hk] at e1 e2
      rw [e1, e2]
      simp only [Option.bind_some]
      rcases e3 with hr | ⟨j, j0, j1, hj, _⟩
      · rw [if_pos hr, if_pos hr]
        exact .inl ⟨n, m, rfl, rfl, h.mono (by omega), FE.refl n m⟩
      · have hjb := hT.1.1.1.oB j0 j1
        rw [if_neg (by omega), if_neg (by omega), ← hj]
        have := (send_both h hT j0 j1 hN).dfr
        have i1 : ∀ x : Option NS, x.bind (fun n34 => some n34) = x := fun x => by cases x <;> rfl
        have i2 : ∀ x : Option YS, x.bind (fun m22 => some m22) = x := fun x => by cases x <;> rfl
        rw [i1, i2]
        exact this
    · rw [if_neg c10, if_neg c10]
      have hsz : n 4 (5 * v) 2 = m 65 v := by
        have := bt_len (b := 5 * v) (by omega) h.bi
        rw [q.2.2.1] at this
        unfold vaL at this
        rw [sg_len] at this
        omega
      rw [hsz]
      by_cases hlt : m 65 v < 24
      · rw [if_pos hlt, if_pos hlt]
        obtain ⟨n', e1, x1, x2, x3, x4, x5, x6, x7⟩ := key_add (c := c) h hT k0 k1 hk h13 (by omega) hlt
        refine .inl ⟨n', _, by rw [e1]; rfl, ?_, x1.mono (by omega), x2, x3, fun s _ => by rw [x4], by rw [x5], x6, x7, fun f a _ _ => by rw [yw_nF (by omega), yw_nF (by omega)]⟩
        have hbm : Int.bmod c 256 = c := by rw [Int.bmod_def]; omega
        unfold ck ix st
        dsimp only
        rw [if_pos (by omega), if_pos (by omega), if_pos (by omega), hbm, yw_nF (show (65 : Nat) ≠ 64 by decide), if_pos (by omega)]
      · rw [if_neg hlt, if_neg hlt]
        exact .inl ⟨n, m, rfl, rfl, h.mono (by omega), FE.refl n m⟩
end P9
