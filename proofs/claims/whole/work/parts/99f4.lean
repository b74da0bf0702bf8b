/-! THE REFERENCE reads an address -/
section F4
variable {m m' : YS} {f : Nat} {i k to a st pa r w : Int} {g : Int → Int} {ss pre bss : List (List Int)} {q l nm bnm mk bq bmk : List Int}
def RRQ (m : YS) (R : Option (List Int × List (List Int) × List Int × List Int)) (x : Int × YS) : Prop := FR0 m x.2 ∧ ((x.1 = 0 ∧ R = none) ∨ (x.1 = 1 ∧ ∃ nm ss q mk, R = some (nm, ss, q, mk) ∧ RA x.2 0 nm ss q mk))
theorem RRQ.fr {R : Option (List Int × List (List Int) × List Int × List Int)} {x : Int × YS} (h : FR0 m m') (hx : RRQ m' R x) : RRQ m R x := ⟨h.trans hx.1, hx.2⟩
theorem RA.fr (h : RA m r nm ss q mk) (hW : WFA nm ss q mk) (hr : 1 ≤ r) (hF : FR0 m m') : RA m' r nm ss q mk := by
  have hl := hW.len
  have hlen := adL_len (nm := nm) (ss := ss) (q := q)
  have w1 := hW.1
  have w5 := hW.2.2.1
  have w6 := hW.2.2.2
  refine ⟨?_, ?_, ?_, ?_⟩
  · rw [(hF.2.2 r (by omega)).1]; exact h.1
  · exact Eq.trans (sg_cg _ _ (150 * r) (fun x hx => hF.2.1 _ (by omega))) h.2.1
  · rw [(hF.2.2 r (by omega)).2]; exact h.2.2.1
  · exact Eq.trans (sg_cg _ _ (150 * r + 135) (fun x hx => hF.2.1 _ (by omega))) h.2.2.2
theorem fin_eq : finS (if wnt (ss.getLastD []) then 1 else 0) ((pre ++ ss).foldl psh []) = finP pre ss := by
  unfold finS finP eL
  generalize (pre ++ ss).foldl psh [] = F
  by_cases hw : wnt (ss.getLastD [])
  · rw [if_pos hw, if_pos hw, if_neg (fun z => absurd z.1 (by decide)), if_neg (by simp)]
  · rw [if_neg hw, if_neg hw, List.append_nil]
    by_cases hF : F = []
    · rw [if_neg (fun z => z.2 hF), if_pos hF, hF]; rfl
    · rw [if_pos ⟨rfl, hF⟩, if_neg hF]
theorem rend_st (ha : a ≤ st ∧ st ≤ to) (hno : ∀ j, a ≤ j → j < st → g j ≠ 63 ∧ g j ≠ 35) (hst : st < to → g st = 63 ∨ g st = 35) : a ≤ rndA g a to ∧ rndA g a to ≤ st ∧ (rndA g a to = st ↔ rgn g a st) ∧ (rndA g a to < st → RTl g (rndA g a to) to [] = none) := by
  have b1 : a ≤ rndA g a to := scx_ge (p := fun j => isSg (g j) ∨ g j = 47) a to
  have b2 : rndA g a to ≤ to := scx_le (p := fun j => isSg (g j) ∨ g j = 47) (by omega)
  have b3 : ∀ j, a ≤ j → j < rndA g a to → isSg (g j) ∨ g j = 47 := fun j x y => scx_in (p := fun j => isSg (g j) ∨ g j = 47) x y
  have b4 : rndA g a to < to → ¬ (isSg (g (rndA g a to)) ∨ g (rndA g a to) = 47) := fun z => scx_at (p := fun j => isSg (g j) ∨ g j = 47) z
  generalize rndA g a to = re at *
  have hle : re ≤ st := by
    by_cases z : re ≤ st
    · exact z
    · have z1 := b3 st ha.1 (by omega)
      have z2 := hst (by omega)
      omega
  refine ⟨b1, hle, ⟨fun z j x y => b3 j x (by omega), fun z => ?_⟩, fun z => ?_⟩
  · by_cases y : re = st
    · exact y
    · exact absurd (z re b1 (by omega)) (b4 (by omega))
  · have := hno re b1 z
    unfold RTl RMk
    rw [if_neg (fun y => this.1 y.2), if_neg (by omega), if_neg (fun y => this.2 y.1)]
theorem RFQ.conv {x : Int × YS} (ha : a ≤ st ∧ st ≤ to) (hno : ∀ j, a ≤ j → j < st → g j ≠ 63 ∧ g j ≠ 35) (hst : st < to → g st = 63 ∨ g st = 35) (hx : RFQ m nm (finP pre (sgs g a (rndA g a to - a).toNat)) (RTl g (rndA g a to) to []) x) (h12 : ∀ s ∈ sgs g a (rndA g a to - a).toNat, s.length ≤ 12) : RRQ m (RP1 g a st to nm pre) x := by
  obtain ⟨r1, r2, r3, r4⟩ := rend_st ha hno hst
  refine ⟨hx.1, ?_⟩
  by_cases hz : rndA g a to = st
  · rw [hz] at hx h12
    by_cases hc : (finP pre (sgs g a (st - a).toNat)).length ≤ 6
    · rw [RP1_yes ⟨r3.mp hz, fun s hs _ => h12 s hs, hc⟩]
      rcases hx.2 with ⟨x1, x2⟩ | ⟨x1, x2, q, mk, x3, x4⟩
      · rcases x2 with y | y
        · omega
        · exact .inl ⟨x1, by rw [y]; rfl⟩
      · exact .inr ⟨x1, nm, _, q, mk, by rw [x3]; rfl, x4⟩
    · rw [RP1_no (fun y => hc y.2.2)]
      rcases hx.2 with ⟨x1, x2⟩ | ⟨x1, x2, _⟩
      · exact .inl ⟨x1, rfl⟩
      · exact absurd x2 hc
  · rw [RP1_no (fun y => hz (r3.mpr y.1))]
    rcases hx.2 with ⟨x1, _⟩ | ⟨x1, x2, q, mk, x3, x4⟩
    · exact .inl ⟨x1, rfl⟩
    · rw [r4 (by omega)] at x3; cases x3
/-- a part that is too long -/
theorem RP1_long (ha : a ≤ st ∧ st ≤ to) (hno : ∀ j, a ≤ j → j < st → g j ≠ 63 ∧ g j ≠ 35) (hst : st < to → g st = 63 ∨ g st = 35) {s : List Int} (hs : s ∈ sgs g a (rndA g a to - a).toNat) (hl : 12 < s.length) : RP1 g a st to nm pre = none := by
  obtain ⟨r1, r2, r3, r4⟩ := rend_st ha hno hst
  by_cases hz : rndA g a to = st
  · rw [hz] at hs
    refine RP1_no (fun y => ?_)
    have := y.2.1 s hs (fun z => by
      rcases z with z | z <;> rw [z] at hl <;> exact absurd hl (by decide))
    omega
  · exact RP1_no (fun y => hz (r3.mpr y.1))
theorem sgs_abs (h : a < to) (h47 : g a = 47) : sgs g a (rndA g a to - a).toNat = (spl g a (rndA g a to - a).toNat).tail := by
  have b1 : a ≤ rndA g a to := scx_ge (p := fun j => isSg (g j) ∨ g j = 47) a to
  have b4 : rndA g a to < to → ¬ (isSg (g (rndA g a to)) ∨ g (rndA g a to) = 47) := fun z => scx_at (p := fun j => isSg (g j) ∨ g j = 47) z
  have : a < rndA g a to := by
    by_cases z : a < rndA g a to
    · exact z
    · have e : rndA g a to = a := by omega
      rw [e] at b4
      exact absurd (.inr h47) (b4 h)
  unfold sgs
  rw [show (rndA g a to - a).toNat = (rndA g a to - a - 1).toNat + 1 by omega, spl_sl h47]
  rfl
theorem sgs_in (ha : a ≤ to) : ∀ x ∈ sgs g a (rndA g a to - a).toNat, ∀ c ∈ x, isSg c := fun x hx c hc => by
  have b1 : a ≤ rndA g a to := scx_ge (p := fun j => isSg (g j) ∨ g j = 47) a to
  have hx' : x ∈ spl g a (rndA g a to - a).toNat := by
    unfold sgs at hx
    split at hx
    · exact List.mem_of_mem_tail hx
    · exact hx
  obtain ⟨z1, j, z2, z3, z4⟩ := spl_in _ _ x hx' c hc
  have := scx_in (p := fun j => isSg (g j) ∨ g j = 47) (i := a) (to := to) z2 (by show j < rndA g a to; omega)
  rw [z4] at this
  rcases this with y | y
  · exact y
  · exact absurd y z1
abbrev nfA (f : Nat) : Prop := f ≠ 6 ∧ f ≠ 7 ∧ f ≠ 8 ∧ f ≠ 9 ∧ f ≠ 10 ∧ f ≠ 11 ∧ f ≠ 12 ∧ f ≠ 14 ∧ f ≠ 15
/-- from a / on -/
theorem y_abs (hf : nfA f) (hg : m f = g) (hS : STK m []) (he : m 15 0 = a) (h8 : m 8 0 = 0) (hr : 0 ≤ a ∧ a < to ∧ to ≤ yLn f ∧ to ≤ 100000 ∧ to - a ≤ 2000) (hi : 0 ≤ i ∧ i ≤ to) (h47 : g a = 47) (ha : a ≤ st ∧ st ≤ to) (hno : ∀ j, a ≤ j → j < st → g j ≠ 63 ∧ g j ≠ 35) (hst : st < to → g st = 63 ∨ g st = 35) (hnm : 1 ≤ nm.length ∧ nm.length ≤ 8) (hsz : m 7 0 = 2 + (nm.length : Int)) (hrow : sg (m 6) 0 ([47, 47] ++ nm).length = [47, 47] ++ nm) (hgb : ∀ j, a ≤ j → j < to → isTx (g j)) {G : YS → Option (Int × YS)} (hG : ∀ m1, m1 15 0 ≠ a → G m1 = nk_Y_refer_256 f i to r 1 m1) : ev ((N_Y_segments f to m).bind (u2 fun z m1 => if z = 0 then some (0, m1) else G m1)) (RRQ m (RP1 g a st to nm [])) := by
  have hs := y_segs (f := f) (to := to) (i := a) (st := []) (m := m) ⟨hf.2.2.2.1, hf.2.2.2.2.1, hf.2.2.2.2.2.1, hf.2.2.2.2.2.2.1, hf.2.2.2.2.2.2.2.1, hf.2.2.2.2.2.2.2.2⟩ hS he ⟨hr.1, by omega, hr.2.2⟩ (.inr (by rw [hg]; exact h47)) (by decide) (by decide)
  rw [hg] at hs
  have hsg := sgs_abs (g := g) hr.2.1 h47
  obtain ⟨r1, r2, r3, r4⟩ := rend_st ha hno hst
  have hlt : a < rndA g a to := by
    have b4 : rndA g a to < to → ¬ (isSg (g (rndA g a to)) ∨ g (rndA g a to) = 47) := fun z => scx_at (p := fun j => isSg (g j) ∨ g j = 47) z
    by_cases z : a < rndA g a to
    · exact z
    · have e : rndA g a to = a := by omega
      rw [e] at b4
      exact absurd (.inr h47) (b4 hr.2.1)
  rw [← hsg] at hs
  have hin := sgs_in (g := g) (a := a) (to := to) (by omega)
  have hlen := sgs_len (g := g) (i := a) (k := (rndA g a to - a).toNat)
  have hfl : (sgs g a (rndA g a to - a).toNat).flatten.length ≤ (rndA g a to - a).toNat := by
    have h0 := spl_flat (g := g) (rndA g a to - a).toNat a
    rw [hsg]
    obtain ⟨w, t, e⟩ := spl_ne g (rndA g a to - a).toNat a
    rw [e] at h0 ⊢
    have h0 : (w ++ t.flatten).length ≤ _ := h0
    rw [List.length_append] at h0
    show t.flatten.length ≤ _
    omega
  have hne : sgs g a (rndA g a to - a).toNat ≠ [] := fun z => by
    rw [hsg, show (rndA g a to - a).toNat = (rndA g a to - a - 1).toNat + 1 by omega, spl_sl h47] at z
    obtain ⟨w, t, e⟩ := spl_ne g (rndA g a to - a - 1).toNat (a + 1)
    have z : spl g (a + 1) (rndA g a to - a - 1).toNat = [] := z
    rw [e] at z; cases z
  generalize hSS : sgs g a (rndA g a to - a).toNat = SS at *
  refine ev_b2 hs (fun z m1 hz => ?_)
  obtain ⟨f1, f2⟩ := hz
  have f1 : FY sgF m m1 := f1
  have fr : FR0 m m1 := f1.fr (fun x hx => by simp at hx; omega)
  rcases f2 with ⟨z0, s, hs1, hs2⟩ | ⟨z1, y1, y2, y3, y4, y5⟩
  · have z0 : z = 0 := z0
    rw [if_pos z0]
    exact ev_ok ⟨fr, .inl ⟨rfl, RP1_long ha hno hst (by rw [hSS]; exact hs1) hs2⟩⟩
  · have z1 : z = 1 := z1
    have y3 : m1 15 0 = rndA g a to := y3
    rw [if_neg (by omega), hG m1 (by omega)]
    have hpf := psh_foldb SS []
    have e14 : m1 14 0 = if wnt (SS.getLastD []) then 1 else 0 := y5 hne
    have hfin := y_fin (m := m1) (f := f) (g := g) (k := rndA g a to) (to := to) (i := i) (r := r) (pa := 1) (nm := nm) (st := SS.foldl psh []) (w := if wnt (SS.getLastD []) then 1 else 0) (bq := []) (bnm := []) (ss := []) (bmk := []) hf (by rw [f1 f (by simp [hf.2.2.2.1, hf.2.2.2.2.1, hf.2.2.2.2.2.1, hf.2.2.2.2.2.2.1, hf.2.2.2.2.2.2.2.1, hf.2.2.2.2.2.2.2.2])]; exact hg) y2 e14 y3 (by rw [f1 8 (by decide)]; exact h8) ⟨by omega, by omega, hr.2.2.1, hr.2.2.2.1⟩ hi hnm (by rw [f1 7 (by decide)]; exact hsz) (by rw [f1 6 (by decide)]; exact hrow) (fun x hx => by
      rcases psh_mem SS [] hx with u | u
      · cases u
      · exact ⟨y1 x u, hin x u⟩) (by have h1 : (SS.foldl psh []).length ≤ 0 + SS.length := hpf.1; omega) (by have h1 : (SS.foldl psh []).flatten.length ≤ 0 + SS.flatten.length := hpf.2; omega) (fun j ja jb => hgb j (by omega) jb) (.inl ⟨by decide, rfl⟩)
    have efin : finS (if wnt (SS.getLastD []) then 1 else 0) (SS.foldl psh []) = finP [] SS := fin_eq (pre := []) (ss := SS)
    rw [efin] at hfin
    refine ev_mono hfin (fun x hx => RRQ.fr fr (RFQ.conv (a := a) (st := st) (to := to) (g := g) ha hno hst (by rw [hSS]; exact hx) (by rw [hSS]; exact y1)))
end F4
