/-! WHAT IS READ is well -/
theorem psh_nw {y : List Int} : ∀ (tl st : List (List Int)), (∀ x ∈ st, ¬ wnt x) → y ∈ tl.foldl psh st → ¬ wnt y := by
  intro tl
  induction tl with
  | nil => intro st h hy; exact h y hy
  | cons x tl ih =>
    intro st h hy
    refine ih (psh st x) (fun u hu => ?_) hy
    by_cases h1 : x = [46]
    · rw [psh_1 h1] at hu; exact h u hu
    · by_cases h2 : x = [46, 46]
      · rw [psh_2 h1 h2] at hu; exact h u (List.dropLast_subset st hu)
      · rw [psh_3 h1 h2] at hu
        rcases List.mem_append.mp hu with w | w
        · exact h u w
        · rw [List.mem_singleton.mp w]
          intro z
          rcases z with z | z
          · exact h1 z
          · exact h2 z
section F6
variable {i k to a st : Int} {g : Int → Int} {ss pre bss : List (List Int)} {q nm bnm mk bq bmk : List Int}
abbrev qOK (q : List Int) : Prop := q.length ≤ 41 ∧ (q ≠ [] → q.head? = some 63) ∧ ∀ c ∈ q, isTx c
abbrev mOK (mk : List Int) : Prop := mk.length ≤ 8 ∧ ∀ c ∈ mk, isNm c
theorem RMk_wf {q' : List Int} (h : RMk g k to q = some (q', mk)) (hk : k ≤ to) : q' = q ∧ mOK mk := by
  unfold RMk at h
  by_cases z1 : k = to
  · rw [if_pos z1] at h
    cases h
    exact ⟨rfl, by decide, fun c hc => by cases hc⟩
  · rw [if_neg z1] at h
    by_cases z2 : g k = 35 ∧ k + 1 < to ∧ nmC g (k + 1) to = to
    · rw [if_pos z2] at h
      cases h
      have hb := nmC_b (g := g) (i := k + 1) (to := to) (by omega)
      refine ⟨rfl, by rw [sg_len]; omega, sg_mem _ _ (fun x hx => ?_)⟩
      have hn := z2.2.2
      unfold nmC at hn
      by_cases zz : k + 1 < to ∧ isSm (g (k + 1))
      · rw [if_pos zz] at hn
        exact scx_in (p := fun j => isNm (g j)) (i := k + 1) (to := to) (by omega) (by omega)
      · rw [if_neg zz] at hn; omega
    · rw [if_neg z2] at h; cases h
theorem RTl_wf (h : RTl g k to bq = some (q, mk)) (hk : k ≤ to) (hb : qOK bq) (hg : ∀ j, k ≤ j → j < to → isTx (g j)) : qOK q ∧ mOK mk := by
  unfold RTl at h
  by_cases z1 : k < to ∧ g k = 63
  · rw [if_pos z1] at h
    have y1 := scx_ge (p := fun j => isQr (g j)) (k + 1) to
    have y2 := scx_le (p := fun j => isQr (g j)) (i := k + 1) (to := to) (by omega)
    generalize sc (fun j => isQr (g j)) (k + 1) to = e at *
    by_cases z2 : 40 < e - k - 1
    · rw [if_pos z2] at h; cases h
    · rw [if_neg z2] at h
      obtain ⟨e1, e2⟩ := RMk_wf h (by omega)
      refine ⟨?_, e2⟩
      rw [e1]
      refine ⟨by rw [List.length_cons, sg_len]; omega, fun _ => rfl, fun c hc => ?_⟩
      rcases List.mem_cons.mp hc with u | u
      · omega
      · exact sg_mem (P := isTx) _ _ (fun x hx => hg _ (by omega) (by omega)) c u
  · rw [if_neg z1] at h
    obtain ⟨e1, e2⟩ := RMk_wf h hk
    rw [e1]
    exact ⟨hb, e2⟩
theorem RP1_wf (h : RP1 g a st to nm pre = some (bnm, ss, q, mk)) (ha : a ≤ st ∧ st ≤ to) (hg : ∀ j, a ≤ j → j < to → isTx (g j)) (hn : 1 ≤ nm.length ∧ nm.length ≤ 8 ∧ ∀ c ∈ nm, isNm c) (hp : ∀ x ∈ pre, x.length ≤ 12 ∧ ¬ wnt x ∧ ∀ c ∈ x, isSg c) : WFA bnm ss q mk := by
  by_cases hc : rgn g a st ∧ (∀ x ∈ sgs g a (st - a).toNat, ¬ wnt x → x.length ≤ 12) ∧ (finP pre (sgs g a (st - a).toNat)).length ≤ 6
  · rw [RP1_yes hc] at h
    obtain ⟨c1, c2, c3⟩ := hc
    cases hT : RTl g st to [] with
    | none => rw [hT] at h; cases h
    | some r =>
      obtain ⟨q', mk'⟩ := r
      rw [hT] at h
      have h : some (nm, finP pre (sgs g a (st - a).toNat), q', mk') = some (bnm, ss, q, mk) := h
      cases h
      obtain ⟨w1, w2⟩ := RTl_wf hT (by omega) ⟨by decide, fun z => absurd rfl z, fun c hc => by cases hc⟩ (fun j ja jb => hg j (by omega) jb)
      have good : ∀ x ∈ (pre ++ sgs g a (st - a).toNat).foldl psh [], x.length ≤ 12 ∧ ¬ wnt x ∧ ∀ c ∈ x, isSg c := fun x hx => by
        have nw := psh_nw _ _ (fun u hu => by cases hu) hx
        rcases psh_mem _ _ hx with u | u
        · cases u
        · rcases List.mem_append.mp u with v | v
          · exact hp x v
          · refine ⟨c2 x v nw, nw, fun c hc => ?_⟩
            have hx' : x ∈ spl g a (st - a).toNat := by
              unfold sgs at v
              split at v
              · exact List.mem_of_mem_tail v
              · exact v
            obtain ⟨z1, j, z2, z3, z4⟩ := spl_in _ _ x hx' c hc
            rcases c1 j z2 (by omega) with y | y
            · rw [z4] at y; exact y
            · rw [z4] at y; exact absurd y z1
      have emp : ([] : List Int).length ≤ 12 ∧ ¬ wnt ([] : List Int) ∧ ∀ c ∈ ([] : List Int), isSg c := ⟨by decide, by decide, fun c hc => by cases hc⟩
      refine ⟨hn, ⟨?_, c3, ?_⟩, w1, w2⟩
      · unfold finP
        split
        · simp
        · assumption
      · intro x hx
        unfold finP at hx
        split at hx
        · rw [List.mem_singleton.mp hx]; exact emp
        · rcases List.mem_append.mp hx with u | u
          · exact good x u
          · unfold eL at u
            split at u
            · rw [List.mem_singleton.mp u]; exact emp
            · cases u
  · rw [RP1_no hc] at h; cases h
theorem RF_wf (h : RF g i to bnm bss bq = some (nm, ss, q, mk)) (hi : i ≤ to) (hW : WFA bnm bss bq bmk) (hg : ∀ j, i ≤ j → j < to → isTx (g j)) : WFA nm ss q mk := by
  have y1 : i ≤ stpA g i to := scx_ge (p := fun j => g j ≠ 63 ∧ g j ≠ 35) i to
  have y2 : stpA g i to ≤ to := scx_le (p := fun j => g j ≠ 63 ∧ g j ≠ 35) hi
  unfold RF at h
  generalize stpA g i to = st at *
  by_cases z1 : i + 1 < st ∧ g i = 47 ∧ g (i + 1) = 47
  · rw [if_pos z1] at h
    have a1 := scx_ge (p := fun j => g j ≠ 47) (i + 2) st
    have a2 := scx_le (p := fun j => g j ≠ 47) (i := i + 2) (to := st) (by omega)
    generalize sc (fun j => g j ≠ 47) (i + 2) st = AT at *
    by_cases z2 : i + 2 < AT ∧ nmC g (i + 2) AT = AT
    · rw [if_pos z2] at h
      have hb := nmC_b (g := g) (i := i + 2) (to := AT) (by omega)
      refine RP1_wf h ⟨a2, y2⟩ (fun j ja jb => hg j (by omega) jb) ⟨by rw [sg_len]; omega, by rw [sg_len]; omega, sg_mem _ _ (fun x hx => ?_)⟩ (fun x hx => by cases hx)
      have hn := z2.2
      unfold nmC at hn
      by_cases zz : i + 2 < AT ∧ isSm (g (i + 2))
      · rw [if_pos zz] at hn
        exact scx_in (p := fun j => isNm (g j)) (i := i + 2) (to := AT) (by omega) (by omega)
      · rw [if_neg zz] at hn; omega
    · rw [if_neg z2] at h; cases h
  · rw [if_neg z1] at h
    by_cases z2 : i = st
    · rw [if_pos z2] at h
      cases hT : RTl g i to bq with
      | none => rw [hT] at h; cases h
      | some r =>
        obtain ⟨q', mk'⟩ := r
        rw [hT] at h
        have h : some (bnm, bss, q', mk') = some (nm, ss, q, mk) := h
        cases h
        obtain ⟨w1, w2⟩ := RTl_wf hT hi hW.2.2.1 hg
        exact ⟨hW.1, hW.2.1, w1, w2⟩
    · rw [if_neg z2] at h
      by_cases z3 : g i = 47
      · rw [if_pos z3] at h
        exact RP1_wf h ⟨y1, y2⟩ hg hW.1 (fun x hx => by cases hx)
      · rw [if_neg z3] at h
        exact RP1_wf h ⟨y1, y2⟩ hg hW.1 (fun x hx => hW.2.1.2.2 x (List.dropLast_subset bss hx))
end F6
/-- the class's cell q holds an ADDRESS -/
def CA (n : NS) (a : Int) (nm : List Int) (ss : List (List Int)) (q mk : List Int) : Prop := CAs (n 99 a) (n 99 (n 99 a 0)) nm ss q mk
/-- cells of ADDRESSES: each with a text of its own -/
def AdS (n : NS) (As : Int → Prop) : Prop := ∀ a, As a → AC n a (n 99 a 0) ∧ (∀ b, 0 ≤ b → b ≤ 631 → n 4 b 1 ≠ n 99 a 0) ∧ ∀ a', As a' → n 99 a 0 = n 99 a' 0 → a = a'
section F6b
variable {n n' : NS} {A B a : Int} {As S : Int → Prop} {nm q mk : List Int} {ss : List (List Int)}
/-- no cell of an ADDRESS is a row's -/
theorem AdS.nb (h : AdS n As) (hB : BI A B n) (ha : As a) {b : Int} (hb : 0 ≤ b ∧ b ≤ 631) : n 4 b 1 ≠ a := fun z => by
  have h1 := (hB.1 b hb.1 hb.2).2.2.1
  rw [z, (h a ha).1.2.1] at h1
  exact absurd h1 (by decide)
/-- rows of bytes have changed: ADDRESSES have not -/
theorem AdS.fx (h : AdS n As) (hB : BI A B n) (hF : FX S n n') (hS : ∀ x, S x → 0 ≤ x ∧ x ≤ 631) : AdS n' As ∧ ∀ a, As a → n' 99 a = n 99 a ∧ n' 99 (n 99 a 0) = n 99 (n 99 a 0) := by
  obtain ⟨f1, f2, f3, f4, f5, f6, f7, f8⟩ := hF
  have e1 : ∀ a, As a → n' 99 a = n 99 a := fun a ha => f7 a (h a ha).1.1.2 (fun b hb z => h.nb hB ha (hS b hb) z.symm)
  have e2 : ∀ a, As a → n' 99 (n 99 a 0) = n 99 (n 99 a 0) := fun a ha => f7 _ (h a ha).1.2.2.1.2 (fun b hb z => (h a ha).2.1 b (hS b hb).1 (hS b hb).2 z.symm)
  refine ⟨fun a ha => ?_, fun a ha => ⟨e1 a ha, e2 a ha⟩⟩
  obtain ⟨⟨a1, a2, a3, a4, a5⟩, b1, b2⟩ := h a ha
  rw [e1 a ha]
  refine ⟨⟨⟨a1.1, by omega⟩, by rw [(f6 a a1.2).1]; exact a2, ⟨a3.1, by omega⟩, by rw [(f6 _ a3.2).1]; exact a4, by rw [(f6 _ a3.2).2]; exact a5⟩, fun b hb0 hb1 => ?_, fun a' ha' => ?_⟩
  · by_cases z : S b
    · rcases f8 b z with y | y
      · rw [y]; exact b1 b hb0 hb1
      · intro w; omega
    · rw [f4 b z]; exact b1 b hb0 hb1
  · rw [e1 a' ha']; exact b2 a' ha'
/-- one ADDRESS has changed: the others have not -/
theorem AdS.chg {s t : Int → Int} (h : AdS n As) (ha : As a) (hs : s 0 = n 99 a 0) : AdS (aw n a (n 99 a 0) s t) As ∧ ∀ a', As a' → a' ≠ a → aw n a (n 99 a 0) s t 99 a' = n 99 a' ∧ aw n a (n 99 a 0) s t 99 (n 99 a' 0) = n 99 (n 99 a' 0) := by
  have hA := (h a ha).1
  have hne := hA.ne
  have ty1 : ∀ a', As a' → a' ≠ n 99 a 0 := fun a' ha' z => by
    have h1 := (h a' ha').1.2.1
    rw [z, hA.2.2.2.1] at h1; exact absurd h1 (by decide)
  have ty2 : ∀ a', As a' → n 99 a' 0 ≠ a := fun a' ha' z => by
    have h1 := (h a' ha').1.2.2.2.1
    rw [z, hA.2.1] at h1; exact absurd h1 (by decide)
  have e1 : ∀ a', As a' → a' ≠ a → aw n a (n 99 a 0) s t 99 a' = n 99 a' := fun a' ha' hne' => aw_q hne' (ty1 a' ha')
  have e0 : ∀ a', As a' → aw n a (n 99 a 0) s t 99 a' 0 = n 99 a' 0 := fun a' ha' => by
    by_cases z : a' = a
    · rw [z, aw_a hne]; exact hs
    · rw [e1 a' ha' z]
  refine ⟨fun a' ha' => ?_, fun a' ha' hne' => ⟨e1 a' ha' hne', aw_q (ty2 a' ha') (fun z => hne' ((h a' ha').2.2 a ha z))⟩⟩
  obtain ⟨hA', b1, b2⟩ := h a' ha'
  rw [e0 a' ha']
  refine ⟨?_, fun b hb0 hb1 => by rw [aw_K (by decide)]; exact b1 b hb0 hb1, fun a2 ha2 => by rw [e0 a2 ha2]; exact b2 a2 ha2⟩
  unfold AC
  rw [aw_K (by decide), aw_K (by decide), aw_K (by decide)]; exact hA'
end F6b
