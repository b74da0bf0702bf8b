/-! STYLE SHEETS: PROPERTIES and their values -/
abbrev prN : List (List Int) := [[100, 105, 115, 112, 108, 97, 121], [99, 111, 108, 111, 114], [98, 97, 99, 107, 103, 114, 111, 117, 110, 100], [109, 97, 114, 103, 105, 110], [112, 97, 100, 100, 105, 110, 103], [98, 111, 114, 100, 101, 114], [119, 105, 100, 116, 104], [104, 101, 105, 103, 104, 116], [115, 105, 122, 101], [97, 108, 105, 103, 110], [102, 108, 111, 97, 116]]
abbrev prW : List Int := [26890226980, 19378659, 156868923460642, 479447085, 7995527216, 609372642, 9048375, 679716008, 190771, 14919041, 21020038]
abbrev dsN : List (List Int) := [[98, 108, 111, 99, 107], [105, 110, 108, 105, 110, 101], [110, 111, 110, 101], [102, 108, 101, 120]]
abbrev alN : List (List Int) := [[108, 101, 102, 116], [99, 101, 110, 116, 101, 114], [114, 105, 103, 104, 116]]
abbrev flN : List (List Int) := [[110, 111, 110, 101], [108, 101, 102, 116], [114, 105, 103, 104, 116]]
abbrev dsW : List Int := [11648386, 182759881, 178670, 791942]
abbrev alW : List Int := [661676, 609892515, 21241138]
abbrev flW : List Int := [178670, 661676, 21241138]
def vwN (p : Int) : List (List Int) := if p = 0 then dsN else if p = 9 then alN else flN
def vwW (p : Int) : List Int := if p = 0 then dsW else if p = 9 then alW else flW
def isWp (p : Int) : Prop := p = 0 ∨ 8 < p
def leP (p : Int) : Int := if p = 8 then 1 else 0
def moP (p : Int) : Int := if p < 3 then 63 else if p = 5 then 3 else if p < 5 then 20 else if p < 8 then 96 else 3
def NUM (g : Int → Int) (b e v : Int) : Prop := (1 ≤ e - b ∧ e - b ≤ 4 ∧ ∀ j, b ≤ j → j < e → isDg (g j)) ∧ v = nvL g b (e - b).toNat
/-- a text is a value of a PROPERTY -/
def VW (p : Int) (g : Int → Int) (b e v : Int) : Prop := b < e ∧ ((isWp p ∧ 0 ≤ v ∧ v = wpF (vwN p) (sg g b (e - b).toNat) 0) ∨ (¬ isWp p ∧ ((NUM g b e v ∧ leP p ≤ v ∧ v ≤ moP p) ∨ (p = 6 ∧ g (e - 1) = 37 ∧ ∃ u, NUM g b (e - 1) u ∧ 1 ≤ u ∧ u ≤ 100 ∧ v = 1000 + u))))
/-- what a look may be -/
def okL (p x : Int) : Prop := (p = 0 → 0 ≤ x ∧ x ≤ 3) ∧ (p = 1 → 0 ≤ x ∧ x ≤ 63) ∧ (p = 2 → -1 ≤ x ∧ x ≤ 63) ∧ (p = 3 → 0 ≤ x ∧ x ≤ 20) ∧ (p = 4 → 0 ≤ x ∧ x ≤ 20) ∧ (p = 5 → 0 ≤ x ∧ x ≤ 3) ∧ (p = 6 → -1 ≤ x ∧ x ≤ 1100 ∧ (x ≤ 96 ∨ 1001 ≤ x)) ∧ (p = 7 → -1 ≤ x ∧ x ≤ 96) ∧ (p = 8 → 1 ≤ x ∧ x ≤ 3) ∧ (p = 9 → 0 ≤ x ∧ x ≤ 2) ∧ (p = 10 → 0 ≤ x ∧ x ≤ 2)
section T1
variable {n : NS} {m : YS} {g : Int → Int} {p a b c d i e to L x y r v k j : Int} {l : List Int}
theorem wpF_in : ∀ (ws : List (List Int)) (k : Int), wpF ws l k ≠ -1 → l ∈ ws := by
  intro ws
  induction ws with
  | nil => intro k h; exact absurd rfl h
  | cons w ws ih =>
    intro k h
    unfold wpF at h
    by_cases z : l = w
    · rw [z]; exact List.mem_cons_self
    · rw [if_neg z] at h; exact List.mem_cons_of_mem _ (ih (k + 1) h)
theorem wpF_b : ∀ (ws : List (List Int)) (k : Int), wpF ws l k = -1 ∨ (k ≤ wpF ws l k ∧ wpF ws l k < k + ws.length) := by
  intro ws
  induction ws with
  | nil => intro k; exact .inl rfl
  | cons w ws ih =>
    intro k
    unfold wpF
    rw [List.length_cons]
    by_cases z : l = w
    · rw [if_pos z]; exact .inr ⟨Int.le_refl _, by omega⟩
    · rw [if_neg z]
      rcases ih (k + 1) with y | y
      · exact .inl y
      · exact .inr ⟨by omega, by omega⟩
theorem vwN_s : ∀ w ∈ vwN p, w ≠ [] ∧ ∀ c ∈ w, isSm c := by
  unfold vwN
  by_cases z : p = 0
  · rw [if_pos z]; decide
  · rw [if_neg z]
    by_cases y : p = 9
    · rw [if_pos y]; decide
    · rw [if_neg y]; decide
theorem vwN_len : (vwN p).length ≤ 4 := by
  unfold vwN
  by_cases z : p = 0
  · rw [if_pos z]; decide
  · rw [if_neg z]
    by_cases y : p = 9
    · rw [if_pos y]; decide
    · rw [if_neg y]; decide
/-- its bytes -/
theorem VW.by (h : VW p g b e v) : b < e ∧ (0 ≤ v ∧ v ≤ 1100) ∧ ∀ j, b ≤ j → j < e → ¬ isBl (g j) ∧ g j ≠ 33 := by
  obtain ⟨h0, h1⟩ := h
  refine ⟨h0, ?_⟩
  rcases h1 with ⟨_, v0, hv⟩ | ⟨_, ⟨⟨⟨u1, u2, u3⟩, u4⟩, u5, u6⟩ | ⟨_, w1, u, ⟨⟨u1, u2, u3⟩, u4⟩, u5, u6, u7⟩⟩
  · have hin := wpF_in (l := sg g b (e - b).toNat) (vwN p) 0 (by omega)
    have hb := wpF_b (l := sg g b (e - b).toNat) (vwN p) 0
    have hl := vwN_len (p := p)
    refine ⟨by omega, fun j x y => ?_⟩
    have := (vwN_s _ hin).2 (g j) (by
      have := sg_at (g := g) (e - b).toNat b (j - b).toNat (by omega)
      rw [show b + (((j - b).toNat : Nat) : Int) = j by omega] at this; exact this)
    unfold isSm at this
    unfold isBl
    omega
  · refine ⟨⟨?_, ?_⟩, fun j x y => ?_⟩
    · unfold leP at u5; split at u5 <;> omega
    · unfold moP at u6; (repeat' split at u6) <;> omega
    · have := u3 j x y
      unfold isDg at this
      unfold isBl
      omega
  · refine ⟨by omega, fun j x y => ?_⟩
    by_cases z : j = e - 1
    · rw [z]; unfold isBl; omega
    · have := u3 j x (by omega)
      unfold isDg at this
      unfold isBl
      omega
theorem VW.ok (h : VW p g b e v) (hp : 0 ≤ p ∧ p < 11) : okL p v := by
  obtain ⟨h0, h1⟩ := h
  unfold okL
  rcases h1 with ⟨w0, v0, hv⟩ | ⟨w0, ⟨⟨⟨u1, u2, u3⟩, u4⟩, u5, u6⟩ | ⟨w2, w1, u, ⟨⟨u1, u2, u3⟩, u4⟩, u5, u6, u7⟩⟩
  · have hb := wpF_b (l := sg g b (e - b).toNat) (vwN p) 0
    unfold isWp at w0
    rcases (show p = 0 ∨ p = 9 ∨ p = 10 by omega) with z | z | z
    · rw [z] at hb hv
      have hl : ((vwN 0).length : Int) = 4 := by decide
      rw [← hv, hl] at hb
      omega
    · rw [z] at hb hv
      have hl : ((vwN 9).length : Int) = 3 := by decide
      rw [← hv, hl] at hb
      omega
    · rw [z] at hb hv
      have hl : ((vwN 10).length : Int) = 3 := by decide
      rw [← hv, hl] at hb
      omega
  · unfold isWp at w0
    unfold leP at u5
    unfold moP at u6
    rcases (show p = 1 ∨ p = 2 ∨ p = 3 ∨ p = 4 ∨ p = 5 ∨ p = 6 ∨ p = 7 ∨ p = 8 by omega) with z | z | z | z | z | z | z | z <;> subst z <;> simp at u5 u6 <;> omega
  · subst w2
    omega
theorem VW.un {v' : Int} (h : VW p g b e v) (h' : VW p g b e v') : v = v' := by
  obtain ⟨_, h1⟩ := h
  obtain ⟨_, k1⟩ := h'
  rcases h1 with ⟨a1, _, hv⟩ | ⟨a1, h2⟩
  · rcases k1 with ⟨_, _, kv⟩ | ⟨b1, _⟩
    · rw [hv, kv]
    · exact absurd a1 b1
  · rcases k1 with ⟨b1, _⟩ | ⟨_, k2⟩
    · exact absurd b1 a1
    · have last : ∀ {u u' : Int}, NUM g b e u → g (e - 1) = 37 → False := fun {u u'} q z => by
        have := q.1.2.2 (e - 1) (by have := q.1.1; omega) (by omega)
        unfold isDg at this; omega
      rcases h2 with ⟨u1, _⟩ | ⟨_, u2, w, u3, _, _, u4⟩
      · rcases k2 with ⟨v1, _⟩ | ⟨_, v2, _⟩
        · rw [u1.2, v1.2]
        · exact (last (u' := 0) u1 v2).elim
      · rcases k2 with ⟨v1, _⟩ | ⟨_, _, w', v3, _, _, v4⟩
        · exact (last (u' := 0) v1 u2).elim
        · rw [u4, v4, u3.2, v3.2]
theorem c_value (ht : tx n d g L) (hb : 0 ≤ b ∧ b ≤ e ∧ e ≤ L ∧ L ≤ 2000) (hp : 0 ≤ p ∧ p ≤ 10) (h90 : n 90 0 0 ≤ 1000000) : ∃ v, N_Sheet_readValue p d b e n = some v ∧ ((v = -1 ∧ ∀ u, ¬ VW p g b e u) ∨ VW p g b e v) := by
  -- a word
  have word : ∀ r, isWp p → r = wpF (vwN p) (sg g b (e - b).toNat) 0 → ((r = -1 ∧ ∀ u, ¬ VW p g b e u) ∨ VW p g b e r) := fun r hw hr => by
    have hbb := wpF_b (l := sg g b (e - b).toNat) (vwN p) 0
    by_cases z : r = -1
    · refine .inl ⟨z, fun u hu => ?_⟩
      rcases hu.2 with ⟨_, q2, q3⟩ | ⟨q1, _⟩
      · rw [q3, ← hr] at q2; omega
      · exact q1 hw
    · have hin := wpF_in (l := sg g b (e - b).toNat) (vwN p) 0 (by rw [← hr]; exact z)
      have hne := (vwN_s _ hin).1
      refine .inr ⟨?_, .inl ⟨hw, by omega, hr⟩⟩
      by_cases y : b < e
      · exact y
      · exact absurd (by rw [show (e - b).toNat = 0 by omega]; rfl) hne
  unfold N_Sheet_readValue
  by_cases p0 : p = 0
  · rw [if_pos p0, cs_wordPlace (ws := dsN) ht okS39 (by decide) (by decide) hb.2.2.1 hb.1 hb.2.1 (by omega)]
    exact ⟨_, rfl, word _ (.inl p0) (by unfold vwN; rw [if_pos p0])⟩
  rw [if_neg p0]
  by_cases p9 : p = 9
  · rw [if_pos p9, cs_wordPlace (ws := alN) ht okS40 (by decide) (by decide) hb.2.2.1 hb.1 hb.2.1 (by omega)]
    exact ⟨_, rfl, word _ (.inr (by omega)) (by unfold vwN; rw [if_neg p0, if_pos p9])⟩
  rw [if_neg p9]
  by_cases p10 : p = 10
  · rw [if_pos p10, cs_wordPlace (ws := flN) ht okS41 (by decide) (by decide) hb.2.2.1 hb.1 hb.2.1 (by omega)]
    exact ⟨_, rfl, word _ (.inr (by omega)) (by unfold vwN; rw [if_neg p0, if_neg p9])⟩
  rw [if_neg p10]
  have hwp : ¬ isWp p := by unfold isWp; omega
  have eL : sS 2000001 p = some (leP p) := by
    rcases (show p = 1 ∨ p = 2 ∨ p = 3 ∨ p = 4 ∨ p = 5 ∨ p = 6 ∨ p = 7 ∨ p = 8 by omega) with z | z | z | z | z | z | z | z <;> rw [z] <;> decide
  have eM : sS 2000002 p = some (moP p) := by
    rcases (show p = 1 ∨ p = 2 ∨ p = 3 ∨ p = 4 ∨ p = 5 ∨ p = 6 ∨ p = 7 ∨ p = 8 by omega) with z | z | z | z | z | z | z | z <;> rw [z] <;> decide
  have hle : 0 ≤ leP p := by unfold leP; split <;> omega
  have num : (p = 6 → b < e → g (e - 1) ≠ 37) → ∃ v, nk_Sheet_readValue_98 p d b e n = some v ∧ ((v = -1 ∧ ∀ u, ¬ VW p g b e u) ∨ VW p g b e v) := fun hno => by
    obtain ⟨r, er, hr⟩ := c_num ht (fr := b) (st := e) hb
    unfold nk_Sheet_readValue_98 gcn
    rw [er]
    simp only [Option.bind_some]
    rw [if_pos h90, eL]
    simp only [Option.bind_some]
    rw [if_pos h90, eM]
    simp only [Option.bind_some]
    have no : ¬ (∃ u, NUM g b e u ∧ leP p ≤ u ∧ u ≤ moP p) → ∀ u, ¬ VW p g b e u := fun q u hu => by
      rcases hu.2 with ⟨q1, _⟩ | ⟨_, q2 | ⟨q2, q3, _⟩⟩
      · exact hwp q1
      · exact q ⟨u, q2⟩
      · exact hno q2 hu.1 q3
    rcases hr with ⟨v1, v2, v3⟩ | ⟨v1, v2⟩
    · by_cases z1 : r < leP p
      · rw [if_pos z1]
        exact ⟨-1, rfl, .inl ⟨rfl, no (fun ⟨u, q1, q2, _⟩ => by rw [q1.2, ← v2] at q2; omega)⟩⟩
      · rw [if_neg z1]
        by_cases z2 : moP p < r
        · rw [if_pos z2]
          exact ⟨-1, rfl, .inl ⟨rfl, no (fun ⟨u, q1, _, q2⟩ => by rw [q1.2, ← v2] at q2; omega)⟩⟩
        · rw [if_neg z2]
          exact ⟨r, rfl, .inr ⟨by omega, .inr ⟨hwp, .inl ⟨⟨v1, v2⟩, by omega, by omega⟩⟩⟩⟩
    · rw [if_pos (by omega)]
      exact ⟨-1, rfl, .inl ⟨rfl, no (fun ⟨u, q1, _⟩ => v1 q1.1)⟩⟩
  by_cases p6 : p = 6
  · rw [if_pos p6]
    by_cases hlt : b < e
    · unfold dx
      rw [if_pos hlt, ck_e _ (by omega), if_pos ⟨ht.1, by omega, by have := ht.2.1; omega⟩, ht.2.2 (e - 1) (by omega) (by omega)]
      by_cases z : g (e - 1) = 37
      · rw [if_pos z, ck_e _ (by omega)]
        obtain ⟨r, er, hr⟩ := c_num ht (fr := b) (st := e - 1) ⟨hb.1, by omega, by omega, hb.2.2.2⟩
        rw [er]
        simp only [Option.bind_some]
        have no : ¬ (∃ u, NUM g b (e - 1) u ∧ 1 ≤ u ∧ u ≤ 100) → ∀ u, ¬ VW p g b e u := fun q u hu => by
          rcases hu.2 with ⟨q1, _⟩ | ⟨_, ⟨q2, _⟩ | ⟨_, _, w, q3, q4, q5, _⟩⟩
          · exact hwp q1
          · have := q2.1.2.2 (e - 1) (by omega) (by omega)
            unfold isDg at this; omega
          · exact q ⟨w, q3, q4, q5⟩
        by_cases z1 : r < 1
        · rw [if_pos z1]
          refine ⟨-1, rfl, .inl ⟨rfl, no (fun ⟨u, q1, q2, _⟩ => ?_)⟩⟩
          rcases hr with ⟨_, v2, _⟩ | ⟨v1, _⟩
          · rw [q1.2, ← v2] at q2; omega
          · exact v1 q1.1
        · rw [if_neg z1]
          rcases hr with ⟨v1, v2, v3⟩ | ⟨_, v2⟩
          · by_cases z2 : 100 < r
            · rw [if_pos z2]
              exact ⟨-1, rfl, .inl ⟨rfl, no (fun ⟨u, q1, _, q2⟩ => by rw [q1.2, ← v2] at q2; omega)⟩⟩
            · rw [if_neg z2, ck_e _ (by omega)]
              exact ⟨1000 + r, rfl, .inr ⟨hlt, .inr ⟨hwp, .inr ⟨p6, z, r, ⟨v1, v2⟩, by omega, by omega, rfl⟩⟩⟩⟩
          · omega
      · rw [if_neg z]
        exact num (fun _ _ => z)
    · rw [if_neg hlt]
      exact num (fun _ y => absurd y hlt)
  · rw [if_neg p6]
    exact num (fun y => absurd y p6)
end T1
