/-! THE NODE THAT A STEP CALLS, in both -/
def wSelf : List Int := [115, 101, 108, 102]
section M7
variable {n n' : NS} {m m' : YS} {A B N k v d fr to st L : Int} {g : Int → Int} {o e p : Int → Int} {w : List Int}
theorem c_isName (hs : tx n d g L) (hf : 0 ≤ fr ∧ to ≤ L ∧ L ≤ 2000) : N_Bytes_isName d fr to n = some (if fr < to ∧ nmC g fr to = to then 1 else 0) := by
  unfold N_Bytes_isName
  by_cases h : fr < to
  · rw [if_pos h, cs_nameEnd hs hf.2.1 hf.1 (by omega) (by omega)]
    simp only [Option.bind_some]
    by_cases z : nmC g fr to = to
    · rw [if_pos z, if_pos ⟨h, z⟩]
    · rw [if_neg z, if_neg (fun y => z y.2)]
  · rw [if_neg h, if_neg (fun y => h y.1)]
theorem c_packN (hs : tx n d g L) (hf : 0 ≤ fr ∧ to ≤ L ∧ L ≤ 2000) (h : fr < to ∧ nmC g fr to = to) : N_Bytes_pack d fr to n = some (pk (sg g fr (to - fr).toNat)) := by
  have hn := nmC_in h
  rw [cs_pack hs hf.2.1 hf.1 (by omega) (fun j a b _ => by have := hn.2 j a b; unfold isNm at this; unfold isBt; omega)]
  rw [show min (to - fr) 8 = to - fr by omega]
theorem called_both (hT : JT n m N o e p) (hB : BI A B n) (hs : tx n d (m 159) L) (hself : MkR (n 0 0 13) (m 161 0) (m 162 0)) (hel : ELm m (m 161 0) (m 162 0)) (hf : 0 ≤ fr ∧ st ≤ L ∧ L ≤ 2000) (h : fr < st ∧ nmC (m 159) fr st = st) :
    ∃ z n', N_Acts_nodeCalled d fr st n = some (z, n') ∧ N_Y_nodeOf fr st m = some z ∧ JT n' m N o e p ∧ FL n n' ∧ BI A B n' ∧ (z = -1 ∨ ∃ k, 0 ≤ k ∧ k < N ∧ o k = z ∧ m 46 z ≠ 17) := by
  have hn := nmC_in h
  have eN := c_isName hs hf (fr := fr) (to := st)
  rw [if_pos h] at eN
  have eP := c_packN hs hf h
  generalize hw : sg (m 159) fr (st - fr).toNat = w at *
  have hwl : (w.length : Int) = st - fr := by rw [← hw, sg_len]; omega
  have hwb : ∀ c ∈ w, isBt c := fun c hc => by
    rw [← hw] at hc
    exact sg_mem (P := isBt) _ _ (fun x hx => by have := hn.2 (fr + x) (by omega) (by omega); unfold isNm at this; unfold isBt; omega) c hc
  have eS : N_Bytes_pack_1 1000023 n = some (pk wSelf) := cs_packW okS23 (by decide) (by decide)
  have eC : N_Acts_nodeCalled d fr st n = if pk w = pk wSelf then (N_Tree_alive (n 0 0 13) n).bind fun z20 => some (z20, n) else (N_Tree_findId (pk w) n).bind (u2 fun z26 n29 => some (z26, n29)) := by
    unfold N_Acts_nodeCalled
    rw [eN]
    simp only [Option.bind_some]
    rw [if_neg (by decide), eP]
    simp only [Option.bind_some]
    rw [eS]
    simp only [Option.bind_some]
  have ewl : wl 209075 = wSelf := by decide
  have hmt := mtR_sg (g := m 159) wSelf fr (to := st)
  by_cases hself' : w = wSelf
  · have h4 : st - fr = 4 := by rw [← hwl, hself']; rfl
    have hm := hmt (show fr + (wSelf.length : Int) = st by show fr + 4 = st; omega)
    rw [hw] at hm
    obtain ⟨x, ex, hx⟩ := ys_isWord (f := 159) (i := fr) (to := st) (m := m) (w := 209075) (by decide) (by show _ ≤ (2000 : Int); omega) hf.1 (by omega) (by omega)
    rw [ewl] at hx
    have hx1 : x = 1 := by
      rcases hx with y | y
      · exact y.1
      · exact absurd (hm.mpr hself') y.2
    have eA := c_alive hT.1 hself
    have eY := y_self hT.1 hself.2.1
    have hY : N_Y_nodeOf fr st m = some (if m 45 (m 161 0) = 1 ∧ m 55 (m 161 0) = m 162 0 then m 161 0 else -1) := by
      unfold N_Y_nodeOf ck
      rw [if_pos (by omega), if_pos h4, ex]
      simp only [Option.bind_some]
      rw [if_neg (by omega), eY]
      simp only [Option.bind_some]
      by_cases z : m 45 (m 161 0) = 1 ∧ m 55 (m 161 0) = m 162 0
      · rw [if_pos z, if_pos z, if_neg (by decide)]
      · rw [if_neg z, if_neg z, if_pos rfl]
    refine ⟨_, n, by rw [eC, if_pos (by rw [hself']), eA]; rfl, hY, hT, ⟨fun _ _ _ _ => rfl, fun _ _ _ _ => rfl, fun _ _ _ => rfl⟩, hB, ?_⟩
    by_cases z : m 45 (m 161 0) = 1 ∧ m 55 (m 161 0) = m 162 0
    · rw [if_pos z]
      obtain ⟨k, k0, k1, hk⟩ := (hT.1.2.2.2.1 _ hself.2.1.1 hself.2.1.2).2.1.mp z.1
      exact .inr ⟨k, k0, k1, hk, hel.2 z.1 z.2⟩
    · rw [if_neg z]; exact .inl rfl
  · have hpk : pk w ≠ pk wSelf := fun z => hself' (pkq_inj hwb (by decide) z)
    have eY := y_findId hT ⟨hf.1, h.1, by omega⟩ hw
    have hY : N_Y_nodeOf fr st m = nk_Y_nodeOf_38 fr st m := by
      unfold N_Y_nodeOf ck
      rw [if_pos (by omega)]
      by_cases h4 : st - fr = 4
      · have hm := hmt (show fr + (wSelf.length : Int) = st by show fr + 4 = st; omega)
        rw [hw] at hm
        obtain ⟨x, ex, hx⟩ := ys_isWord (f := 159) (i := fr) (to := st) (m := m) (w := 209075) (by decide) (by show _ ≤ (2000 : Int); omega) hf.1 (by omega) (by omega)
        rw [ewl] at hx
        have hx0 : x = 0 := by
          rcases hx with y | y
          · exact absurd (hm.mp y.2) hself'
          · exact y.1
        rw [if_pos h4, ex]
        simp only [Option.bind_some]
        rw [if_pos hx0]
      · rw [if_neg h4]
    obtain ⟨⟨z, n'⟩, ez, hz, hT', hF', hB'⟩ := c_findId hT hB hwb ⟨by omega, by omega⟩
    have hz : z = if idK m w N o < N then o (idK m w N o) else -1 := hz
    refine ⟨z, n', by rw [eC, if_neg hpk, ez]; rfl, by rw [hY, eY, hz], hT', hF', hB', ?_⟩
    by_cases y : idK m w N o < N
    · rw [if_pos y] at hz
      have k0 : 0 ≤ idK m w N o := @scx_ge (fun k => ¬ hasId m w (o k)) (fun _ => Classical.propDecidable _) 0 N
      have hid : hasId m w (o (idK m w N o)) := Classical.byContradiction (fun u => @scx_at (fun k => ¬ hasId m w (o k)) (fun _ => Classical.propDecidable _) 0 N y u)
      refine .inr ⟨_, k0, y, hz.symm, fun h17 => ?_⟩
      have hd := hT.2.2.2 _ k0 y
      rw [← hz] at hd hid
      have := (hd.2.2.2.2.1 h17).2.2.2.2
      have f0 := fnd_b (m := m) (f := z) (w := wId)
      have := hid.1
      omega
    · rw [if_neg y] at hz; exact .inl hz
end M7
