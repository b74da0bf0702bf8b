/-! TEXTS: what is read of them, by both -/
abbrev isSm (b : Int) : Prop := 97 ≤ b ∧ b ≤ 122
abbrev isDg (b : Int) : Prop := 48 ≤ b ∧ b ≤ 57
abbrev isNm (b : Int) : Prop := (97 ≤ b ∧ b ≤ 122) ∨ (48 ≤ b ∧ b ≤ 57)
abbrev isBl (b : Int) : Prop := b = 10 ∨ b = 32
abbrev isLt (b : Int) : Prop := (97 ≤ b ∧ b ≤ 122) ∨ (65 ≤ b ∧ b ≤ 90)
abbrev isSg (b : Int) : Prop := (97 ≤ b ∧ b ≤ 122) ∨ (48 ≤ b ∧ b ≤ 57) ∨ b = 46 ∨ b = 45 ∨ b = 95
abbrev isQr (b : Int) : Prop := (97 ≤ b ∧ b ≤ 122) ∨ (48 ≤ b ∧ b ≤ 57) ∨ b = 46 ∨ b = 45 ∨ b = 95 ∨ b = 61 ∨ b = 38 ∨ b = 43
def toSm (b : Int) : Int := if 65 ≤ b ∧ b ≤ 90 then b + 32 else b
/-- a truth -/
def bz (p : Prop) (r : Int) : Prop := (r = 1 ∧ p) ∨ (r = 0 ∧ ¬ p)
theorem ev_bz {α : Type} {Q : α → Prop} {p : Prop} {x : Option Int} {F : Int → Option α} (h : ev x (bz p)) (k1 : p → ev (F 1) Q) (k0 : ¬ p → ev (F 0) Q) : ev (x.bind F) Q := by
  obtain ⟨v, rfl, hv⟩ := h
  rcases hv with ⟨rfl, hp⟩ | ⟨rfl, hp⟩
  · exact k1 hp
  · exact k0 hp
theorem ev_1 {p : Prop} (h : p) : ev (some 1) (bz p) := ⟨1, rfl, .inl ⟨rfl, h⟩⟩
theorem ev_0 {p : Prop} (h : ¬ p) : ev (some 0) (bz p) := ⟨0, rfl, .inr ⟨rfl, h⟩⟩
theorem eq_of_ev {α : Type} {x : Option α} {v : α} (h : ev x (fun r => r = v)) : x = some v := by
  obtain ⟨a, e, rfl⟩ := h; exact e
theorem ev_is {α : Type} {x : Option α} {v : α} (h : x = some v) : ev x (fun r => r = v) := ⟨v, h, rfl⟩
theorem bind_id {α : Type} {x : Option α} : x.bind (fun z => some z) = x := by cases x <;> rfl
/-- scans -/
def scF (p : Int → Prop) [DecidablePred p] : Nat → Int → Int
  | 0, i => i
  | k + 1, i => if p i then scF p k (i + 1) else i
def sc (p : Int → Prop) [DecidablePred p] (i to : Int) : Int := scF p (to - i).toNat i
theorem scF_scn {p : Int → Prop} [DecidablePred p] : ∀ (k : Nat) (i : Int), scn p i (i + k) (scF p k i) := by
  intro k
  induction k with
  | zero => intro i; exact ⟨Int.le_refl _, .inr rfl, fun j h1 h2 => by unfold scF at h2; omega, fun h => by unfold scF at h; omega⟩
  | succ k ih =>
    intro i
    unfold scF
    by_cases h : p i
    · rw [if_pos h]
      obtain ⟨h1, h2, h3, h4⟩ := ih (i + 1)
      refine ⟨by omega, .inl (by omega), fun j hj1 hj2 => ?_, fun hl => h4 (by omega)⟩
      by_cases e : j = i
      · rw [e]; exact h
      · exact h3 j (by omega) hj2
    · rw [if_neg h]; exact ⟨Int.le_refl _, .inr rfl, fun j h1 h2 => by omega, fun _ => h⟩
theorem scx_scn {p : Int → Prop} [DecidablePred p] (i to : Int) : scn p i to (sc p i to) := by
  unfold sc
  obtain ⟨h1, h2, h3, h4⟩ := scF_scn (p := p) (to - i).toNat i
  refine ⟨h1, by omega, h3, fun h => h4 (by omega)⟩
theorem scx_eq {p : Int → Prop} [DecidablePred p] {i to r : Int} (h : scn p i to r) : r = sc p i to := scn_un h (scx_scn i to)
theorem scx_ge {p : Int → Prop} [DecidablePred p] (i to : Int) : i ≤ sc p i to := (scx_scn i to).1
theorem scx_le {p : Int → Prop} [DecidablePred p] {i to : Int} (h : i ≤ to) : sc p i to ≤ to := by have := (scx_scn (p := p) i to).2.1; omega
theorem scx_in {p : Int → Prop} [DecidablePred p] {i to j : Int} (h1 : i ≤ j) (h2 : j < sc p i to) : p j := (scx_scn i to).2.2.1 j h1 h2
theorem scx_at {p : Int → Prop} [DecidablePred p] {i to : Int} (h : sc p i to < to) : ¬ p (sc p i to) := (scx_scn i to).2.2.2 h
theorem scx_cg {p q : Int → Prop} [DecidablePred p] [DecidablePred q] {i to : Int} (h : ∀ j, i ≤ j → j < to → (p j ↔ q j)) : sc p i to = sc q i to := by
  apply scx_eq
  obtain ⟨h1, h2, h3, h4⟩ := scx_scn (p := p) i to
  refine ⟨h1, h2, fun j hj1 hj2 => (h j hj1 (by omega)).mp (h3 j hj1 hj2), fun hl hq => h4 hl ((h _ h1 hl).mpr hq)⟩
theorem ev_scan {p : Int → Prop} [DecidablePred p] {i to : Int} {f : Int → Option (Int ⊕ Int)} (hb : ∀ s, i ≤ s → (s ≤ to ∨ s = i) → ev (f s) (fun o => (o = .inl (s + 1) ∧ s < to ∧ p s) ∨ (o = .inr s ∧ ¬ (s < to ∧ p s)))) : it f i = some (sc p i to) := by
  apply eq_of_ev
  refine ev_mono (P := scn p i to) (ev_it (fun s => i ≤ s ∧ (s ≤ to ∨ s = i) ∧ ∀ j, i ≤ j → j < s → p j) (fun s => to - s) (fun s hs => ?_) ⟨Int.le_refl _, .inr rfl, fun j h1 h2 => by omega⟩) (fun v hv => scx_eq hv)
  obtain ⟨h1, h2, h3⟩ := hs
  obtain ⟨o, ho, hc⟩ := hb s h1 h2
  refine ⟨o, ho, ?_⟩
  rcases hc with ⟨rfl, hl, hp⟩ | ⟨rfl, hn⟩
  · refine ⟨⟨by omega, by omega, fun j hj1 hj2 => ?_⟩, (show to - (s + 1) < to - s by omega), (show 0 ≤ to - s by omega)⟩
    by_cases e : j = s
    · rw [e]; exact hp
    · exact h3 j hj1 (by omega)
  · exact ⟨h1, h2, h3, fun hl hp => hn ⟨hl, hp⟩⟩
section C1
variable {b : Int} {m : YS} {n : NS}
theorem ys_small : ev (N_Y_isSmall b m) (bz (isSm b)) := by
  unfold N_Y_isSmall
  (repeat' (first | (with_reducible apply ev_z0) | (with_reducible apply ev_z1) | (with_reducible apply ev_ck; focus omega) | (with_reducible apply ev_ckL; focus omega) | (with_reducible apply ev_ix; focus omega) | (with_reducible apply ev_cz; focus omega) | (with_reducible apply ev_cb; focus omega) | (with_reducible apply ev_dx; focus omega) | (with_reducible apply ev_nn; focus omega) | (with_reducible apply ev_ty; focus omega) | (with_reducible apply ev_cd; focus omega) | (with_reducible apply ev_or8; focus omega) | (with_reducible apply ev_sh5; focus omega) | (with_reducible apply ev_sh6; focus omega) | (with_reducible apply ev_st) | (with_reducible refine ev_if (fun _ => ?_) (fun _ => ?_))))
  all_goals first | exact ev_0 (by omega) | exact ev_1 (by omega)
theorem ys_digit : ev (N_Y_isDigit b m) (bz (isDg b)) := by
  unfold N_Y_isDigit
  (repeat' (first | (with_reducible apply ev_z0) | (with_reducible apply ev_z1) | (with_reducible apply ev_ck; focus omega) | (with_reducible apply ev_ckL; focus omega) | (with_reducible apply ev_ix; focus omega) | (with_reducible apply ev_cz; focus omega) | (with_reducible apply ev_cb; focus omega) | (with_reducible apply ev_dx; focus omega) | (with_reducible apply ev_nn; focus omega) | (with_reducible apply ev_ty; focus omega) | (with_reducible apply ev_cd; focus omega) | (with_reducible apply ev_or8; focus omega) | (with_reducible apply ev_sh5; focus omega) | (with_reducible apply ev_sh6; focus omega) | (with_reducible apply ev_st) | (with_reducible refine ev_if (fun _ => ?_) (fun _ => ?_))))
  all_goals first | exact ev_0 (by omega) | exact ev_1 (by omega)
theorem ys_blank : ev (N_Y_isBlank b m) (bz (isBl b)) := by
  unfold N_Y_isBlank
  (repeat' (first | (with_reducible apply ev_z0) | (with_reducible apply ev_z1) | (with_reducible apply ev_ck; focus omega) | (with_reducible apply ev_ckL; focus omega) | (with_reducible apply ev_ix; focus omega) | (with_reducible apply ev_cz; focus omega) | (with_reducible apply ev_cb; focus omega) | (with_reducible apply ev_dx; focus omega) | (with_reducible apply ev_nn; focus omega) | (with_reducible apply ev_ty; focus omega) | (with_reducible apply ev_cd; focus omega) | (with_reducible apply ev_or8; focus omega) | (with_reducible apply ev_sh5; focus omega) | (with_reducible apply ev_sh6; focus omega) | (with_reducible apply ev_st) | (with_reducible refine ev_if (fun _ => ?_) (fun _ => ?_))))
  all_goals first | exact ev_0 (by omega) | exact ev_1 (by omega)
theorem ys_letter : ev (N_Y_isLetter b m) (bz (isLt b)) := by
  unfold N_Y_isLetter
  (repeat' (first | (with_reducible apply ev_z0) | (with_reducible apply ev_z1) | (with_reducible refine ev_bz (ys_small) (fun _ => ?_) (fun _ => ?_)) | (with_reducible apply ev_ck; focus omega) | (with_reducible apply ev_ckL; focus omega) | (with_reducible apply ev_ix; focus omega) | (with_reducible apply ev_cz; focus omega) | (with_reducible apply ev_cb; focus omega) | (with_reducible apply ev_dx; focus omega) | (with_reducible apply ev_nn; focus omega) | (with_reducible apply ev_ty; focus omega) | (with_reducible apply ev_cd; focus omega) | (with_reducible apply ev_or8; focus omega) | (with_reducible apply ev_sh5; focus omega) | (with_reducible apply ev_sh6; focus omega) | (with_reducible apply ev_st) | (with_reducible refine ev_if (fun _ => ?_) (fun _ => ?_))))
  all_goals first | exact ev_0 (by omega) | exact ev_1 (by omega)
theorem ys_segment : ev (N_Y_isSegment b m) (bz (isSg b)) := by
  unfold N_Y_isSegment
  (repeat' (first | (with_reducible apply ev_z0) | (with_reducible apply ev_z1) | (with_reducible refine ev_bz (ys_small) (fun _ => ?_) (fun _ => ?_)) | (with_reducible refine ev_bz (ys_digit) (fun _ => ?_) (fun _ => ?_)) | (with_reducible apply ev_ck; focus omega) | (with_reducible apply ev_ckL; focus omega) | (with_reducible apply ev_ix; focus omega) | (with_reducible apply ev_cz; focus omega) | (with_reducible apply ev_cb; focus omega) | (with_reducible apply ev_dx; focus omega) | (with_reducible apply ev_nn; focus omega) | (with_reducible apply ev_ty; focus omega) | (with_reducible apply ev_cd; focus omega) | (with_reducible apply ev_or8; focus omega) | (with_reducible apply ev_sh5; focus omega) | (with_reducible apply ev_sh6; focus omega) | (with_reducible apply ev_st) | (with_reducible refine ev_if (fun _ => ?_) (fun _ => ?_))))
  all_goals first | exact ev_0 (by omega) | exact ev_1 (by omega)
theorem ys_query : ev (N_Y_isQuery b m) (bz (isQr b)) := by
  unfold N_Y_isQuery
  (repeat' (first | (with_reducible apply ev_z0) | (with_reducible apply ev_z1) | (with_reducible refine ev_bz (ys_segment) (fun _ => ?_) (fun _ => ?_)) | (with_reducible apply ev_ck; focus omega) | (with_reducible apply ev_ckL; focus omega) | (with_reducible apply ev_ix; focus omega) | (with_reducible apply ev_cz; focus omega) | (with_reducible apply ev_cb; focus omega) | (with_reducible apply ev_dx; focus omega) | (with_reducible apply ev_nn; focus omega) | (with_reducible apply ev_ty; focus omega) | (with_reducible apply ev_cd; focus omega) | (with_reducible apply ev_or8; focus omega) | (with_reducible apply ev_sh5; focus omega) | (with_reducible apply ev_sh6; focus omega) | (with_reducible apply ev_st) | (with_reducible refine ev_if (fun _ => ?_) (fun _ => ?_))))
  all_goals first | exact ev_0 (by omega) | exact ev_1 (by omega)
theorem ys_toSm (h : inB b) : N_Y_small b m = some (toSm b) := by
  apply eq_of_ev
  unfold N_Y_small toSm
  (repeat' (first | (with_reducible apply ev_z0) | (with_reducible apply ev_z1) | (with_reducible apply ev_ck; focus omega) | (with_reducible apply ev_ckL; focus omega) | (with_reducible apply ev_ix; focus omega) | (with_reducible apply ev_cz; focus omega) | (with_reducible apply ev_cb; focus omega) | (with_reducible apply ev_dx; focus omega) | (with_reducible apply ev_nn; focus omega) | (with_reducible apply ev_ty; focus omega) | (with_reducible apply ev_cd; focus omega) | (with_reducible apply ev_or8; focus omega) | (with_reducible apply ev_sh5; focus omega) | (with_reducible apply ev_sh6; focus omega) | (with_reducible apply ev_st) | (with_reducible refine ev_if (fun _ => ?_) (fun _ => ?_))))
  all_goals (refine ev_ok ?_; split <;> omega)
theorem cs_small : ev (N_Bytes_isSmall b n) (bz (isSm b)) := by
  unfold N_Bytes_isSmall
  (repeat' (first | (with_reducible apply ev_z0) | (with_reducible apply ev_z1) | (with_reducible apply ev_ck; focus omega) | (with_reducible apply ev_ckL; focus omega) | (with_reducible apply ev_ix; focus omega) | (with_reducible apply ev_cz; focus omega) | (with_reducible apply ev_cb; focus omega) | (with_reducible apply ev_dx; focus omega) | (with_reducible apply ev_nn; focus omega) | (with_reducible apply ev_ty; focus omega) | (with_reducible apply ev_cd; focus omega) | (with_reducible apply ev_or8; focus omega) | (with_reducible apply ev_sh5; focus omega) | (with_reducible apply ev_sh6; focus omega) | (with_reducible apply ev_st) | (with_reducible refine ev_if (fun _ => ?_) (fun _ => ?_))))
  all_goals first | exact ev_0 (by omega) | exact ev_1 (by omega)
theorem cs_digit : ev (N_Bytes_isDigit b n) (bz (isDg b)) := by
  unfold N_Bytes_isDigit
  (repeat' (first | (with_reducible apply ev_z0) | (with_reducible apply ev_z1) | (with_reducible apply ev_ck; focus omega) | (with_reducible apply ev_ckL; focus omega) | (with_reducible apply ev_ix; focus omega) | (with_reducible apply ev_cz; focus omega) | (with_reducible apply ev_cb; focus omega) | (with_reducible apply ev_dx; focus omega) | (with_reducible apply ev_nn; focus omega) | (with_reducible apply ev_ty; focus omega) | (with_reducible apply ev_cd; focus omega) | (with_reducible apply ev_or8; focus omega) | (with_reducible apply ev_sh5; focus omega) | (with_reducible apply ev_sh6; focus omega) | (with_reducible apply ev_st) | (with_reducible refine ev_if (fun _ => ?_) (fun _ => ?_))))
  all_goals first | exact ev_0 (by omega) | exact ev_1 (by omega)
theorem cs_blank : ev (N_Bytes_isBlank b n) (bz (isBl b)) := by
  unfold N_Bytes_isBlank
  (repeat' (first | (with_reducible apply ev_z0) | (with_reducible apply ev_z1) | (with_reducible apply ev_ck; focus omega) | (with_reducible apply ev_ckL; focus omega) | (with_reducible apply ev_ix; focus omega) | (with_reducible apply ev_cz; focus omega) | (with_reducible apply ev_cb; focus omega) | (with_reducible apply ev_dx; focus omega) | (with_reducible apply ev_nn; focus omega) | (with_reducible apply ev_ty; focus omega) | (with_reducible apply ev_cd; focus omega) | (with_reducible apply ev_or8; focus omega) | (with_reducible apply ev_sh5; focus omega) | (with_reducible apply ev_sh6; focus omega) | (with_reducible apply ev_st) | (with_reducible refine ev_if (fun _ => ?_) (fun _ => ?_))))
  all_goals first | exact ev_0 (by omega) | exact ev_1 (by omega)
theorem cs_letter : ev (N_Bytes_isLetter b n) (bz (isLt b)) := by
  unfold N_Bytes_isLetter
  (repeat' (first | (with_reducible apply ev_z0) | (with_reducible apply ev_z1) | (unfold nk_Bytes_isLetter_12) | (with_reducible apply ev_ck; focus omega) | (with_reducible apply ev_ckL; focus omega) | (with_reducible apply ev_ix; focus omega) | (with_reducible apply ev_cz; focus omega) | (with_reducible apply ev_cb; focus omega) | (with_reducible apply ev_dx; focus omega) | (with_reducible apply ev_nn; focus omega) | (with_reducible apply ev_ty; focus omega) | (with_reducible apply ev_cd; focus omega) | (with_reducible apply ev_or8; focus omega) | (with_reducible apply ev_sh5; focus omega) | (with_reducible apply ev_sh6; focus omega) | (with_reducible apply ev_st) | (with_reducible refine ev_if (fun _ => ?_) (fun _ => ?_))))
  all_goals first | exact ev_0 (by omega) | exact ev_1 (by omega)
theorem cs_segment : ev (N_Address_isSegmentByte b n) (bz (isSg b)) := by
  unfold N_Address_isSegmentByte
  (repeat' (first | (with_reducible apply ev_z0) | (with_reducible apply ev_z1) | (unfold nk_Address_isSegmentByte_12) | (unfold nk_Address_isSegmentByte_24) | (with_reducible apply ev_ck; focus omega) | (with_reducible apply ev_ckL; focus omega) | (with_reducible apply ev_ix; focus omega) | (with_reducible apply ev_cz; focus omega) | (with_reducible apply ev_cb; focus omega) | (with_reducible apply ev_dx; focus omega) | (with_reducible apply ev_nn; focus omega) | (with_reducible apply ev_ty; focus omega) | (with_reducible apply ev_cd; focus omega) | (with_reducible apply ev_or8; focus omega) | (with_reducible apply ev_sh5; focus omega) | (with_reducible apply ev_sh6; focus omega) | (with_reducible apply ev_st) | (with_reducible refine ev_if (fun _ => ?_) (fun _ => ?_))))
  all_goals first | exact ev_0 (by omega) | exact ev_1 (by omega)
def gly (b : Int) : Int := if b = 105 ∨ b = 108 ∨ b = 106 ∨ b = 46 ∨ b = 44 ∨ b = 39 ∨ b = 58 ∨ b = 59 ∨ b = 33 ∨ b = 124 then 2 else if b = 109 ∨ b = 119 ∨ b = 77 ∨ b = 87 ∨ b = 64 then 5 else 4
theorem ys_glyph : N_Y_glyph b m = some (gly b) := by
  apply eq_of_ev
  unfold N_Y_glyph gly
  (repeat' (first | (with_reducible apply ev_z0) | (with_reducible apply ev_z1) | (with_reducible apply ev_ck; focus omega) | (with_reducible apply ev_ckL; focus omega) | (with_reducible apply ev_ix; focus omega) | (with_reducible apply ev_cz; focus omega) | (with_reducible apply ev_cb; focus omega) | (with_reducible apply ev_dx; focus omega) | (with_reducible apply ev_nn; focus omega) | (with_reducible apply ev_ty; focus omega) | (with_reducible apply ev_cd; focus omega) | (with_reducible apply ev_or8; focus omega) | (with_reducible apply ev_sh5; focus omega) | (with_reducible apply ev_sh6; focus omega) | (with_reducible apply ev_st) | (with_reducible refine ev_if (fun _ => ?_) (fun _ => ?_))))
  all_goals (refine ev_ok ?_; (repeat' split) <;> omega)
theorem cs_glyph : N_Bytes_glyphWidth b n = some (gly b) := by
  apply eq_of_ev
  unfold N_Bytes_glyphWidth gly
  (repeat' (first | (with_reducible apply ev_z0) | (with_reducible apply ev_z1) | (with_reducible apply ev_ck; focus omega) | (with_reducible apply ev_ckL; focus omega) | (with_reducible apply ev_ix; focus omega) | (with_reducible apply ev_cz; focus omega) | (with_reducible apply ev_cb; focus omega) | (with_reducible apply ev_dx; focus omega) | (with_reducible apply ev_nn; focus omega) | (with_reducible apply ev_ty; focus omega) | (with_reducible apply ev_cd; focus omega) | (with_reducible apply ev_or8; focus omega) | (with_reducible apply ev_sh5; focus omega) | (with_reducible apply ev_sh6; focus omega) | (with_reducible apply ev_st) | (with_reducible refine ev_if (fun _ => ?_) (fun _ => ?_))))
  all_goals (refine ev_ok ?_; (repeat' split) <;> omega)
theorem gly_b : 2 ≤ gly b ∧ gly b ≤ 5 := by unfold gly; (repeat' split) <;> omega
end C1
/-- a text lies in a row of bytes -/
def tx (n : NS) (a : Int) (g : Int → Int) (l : Int) : Prop := n 92 0 a = 1 ∧ l ≤ n 93 0 a ∧ ∀ j, 0 ≤ j → j < l → n 99 a j = g j
theorem ev_tx {α : Type} {Q : α → Prop} {n : NS} {a l i : Int} {g : Int → Int} {x : Option α} (h : tx n a g l) (hi : 0 ≤ i ∧ i < l) (k : n 99 a i = g i → ev x Q) : ev (dx n a 1 i x) Q := ev_dx ⟨h.1, hi.1, by have := h.2.1; omega⟩ (k (h.2.2 i hi.1 hi.2))
section T1
variable {m : YS} {n : NS} {g : Int → Int} {f : Nat} {a l i to : Int}
/-- where a NAME that begins at i can't go on: up to eight -/
def nmC (g : Int → Int) (i to : Int) : Int := if i < to ∧ isSm (g i) then min (sc (fun j => isNm (g j)) i to) (i + 8) else i
def nmE (g : Int → Int) (i to : Int) : Int := if i < to ∧ isSm (g i) then (if 8 < sc (fun j => isNm (g j)) i to - i then i else sc (fun j => isNm (g j)) i to) else i
theorem ys_nameEnd (hl : to ≤ yLn f) (h0 : 0 ≤ i) (hto : to ≤ 100000) (hi : i ≤ 100000) : N_Y_nameEnd f i to m = some (nmE (m f) i to) := by
  apply eq_of_ev
  unfold N_Y_nameEnd nmE
  have e : i < to → NL_Y_nameEnd_18 f i to i m = some (sc (fun j => isNm (m f j)) i to) := fun hlt => by
    unfold NL_Y_nameEnd_18
    refine ev_scan (fun s h1 h2 => ?_)
    unfold nb_Y_nameEnd_18
    (repeat' (first | (with_reducible apply ev_z0) | (with_reducible apply ev_z1) | (with_reducible refine ev_bz (ys_small) (fun _ => ?_) (fun _ => ?_)) | (with_reducible refine ev_bz (ys_digit) (fun _ => ?_) (fun _ => ?_)) | (with_reducible apply ev_ck; focus omega) | (with_reducible apply ev_ckL; focus omega) | (with_reducible apply ev_ix; focus omega) | (with_reducible apply ev_cz; focus omega) | (with_reducible apply ev_cb; focus omega) | (with_reducible apply ev_dx; focus omega) | (with_reducible apply ev_nn; focus omega) | (with_reducible apply ev_ty; focus omega) | (with_reducible apply ev_cd; focus omega) | (with_reducible apply ev_or8; focus omega) | (with_reducible apply ev_sh5; focus omega) | (with_reducible apply ev_sh6; focus omega) | (with_reducible apply ev_st) | (with_reducible refine ev_if (fun _ => ?_) (fun _ => ?_))))
    all_goals first | exact ev_ok (.inl ⟨rfl, by omega, by omega⟩) | exact ev_ok (.inr ⟨rfl, by omega⟩)
  (repeat' (first | (with_reducible apply ev_z0) | (with_reducible apply ev_z1) | (with_reducible refine ev_bz (ys_small) (fun _ => ?_) (fun _ => ?_)) | (with_reducible apply ev_ck; focus omega) | (with_reducible apply ev_ckL; focus omega) | (with_reducible apply ev_ix; focus omega) | (with_reducible apply ev_cz; focus omega) | (with_reducible apply ev_cb; focus omega) | (with_reducible apply ev_dx; focus omega) | (with_reducible apply ev_nn; focus omega) | (with_reducible apply ev_ty; focus omega) | (with_reducible apply ev_cd; focus omega) | (with_reducible apply ev_or8; focus omega) | (with_reducible apply ev_sh5; focus omega) | (with_reducible apply ev_sh6; focus omega) | (with_reducible apply ev_st) | (with_reducible refine ev_if (fun _ => ?_) (fun _ => ?_))))
  · have h1 := scx_le (p := fun j => isNm (m f j)) (i := i) (to := to) (by omega)
    have h2 := scx_ge (p := fun j => isNm (m f j)) i to
    rw [if_pos (by omega), e (by omega)]
    unfold nk_Y_nameEnd_47
    refine ev_eq rfl ?_
    generalize sc (fun j => isNm (m f j)) i to = k at *
    (repeat' (first | (with_reducible apply ev_z0) | (with_reducible apply ev_z1) | (with_reducible apply ev_ck; focus omega) | (with_reducible apply ev_ckL; focus omega) | (with_reducible apply ev_ix; focus omega) | (with_reducible apply ev_cz; focus omega) | (with_reducible apply ev_cb; focus omega) | (with_reducible apply ev_dx; focus omega) | (with_reducible apply ev_nn; focus omega) | (with_reducible apply ev_ty; focus omega) | (with_reducible apply ev_cd; focus omega) | (with_reducible apply ev_or8; focus omega) | (with_reducible apply ev_sh5; focus omega) | (with_reducible apply ev_sh6; focus omega) | (with_reducible apply ev_st) | (with_reducible refine ev_if (fun _ => ?_) (fun _ => ?_))))
    all_goals (refine ev_ok ?_; split <;> omega)
  · refine ev_ok ?_; rw [if_neg (by omega)]
  · refine ev_ok ?_; rw [if_neg (by omega)]
theorem cs_nameEnd (ht : tx n a g l) (hl : to ≤ l) (h0 : 0 ≤ i) (hto : to ≤ 100000) (hi : i ≤ 100000) : N_Bytes_nameEnd a i to n = some (nmC g i to) := by
  apply eq_of_ev
  unfold N_Bytes_nameEnd NL_Bytes_nameEnd_2
  refine ev_bs (P := fun r => r = nmC g i to) (R := fun r => r = nmC g i to) ?_ (fun v h => ev_ok h) (fun v h => ev_ok h)
  have h1 := scx_ge (p := fun j => isNm (g j)) i to
  refine ev_it (fun s => i ≤ s ∧ (s ≤ to ∨ s = i) ∧ s ≤ i + 8 ∧ (i < s → isSm (g i)) ∧ s ≤ sc (fun j => isNm (g j)) i to) (fun s => to - s) (fun s hs => ?_) ⟨Int.le_refl _, .inr rfl, by omega, fun h => by omega, h1⟩
  obtain ⟨h2, h3, h4, h5, h6⟩ := hs
  have h7 : s < to → ((isNm (g s)) ↔ s < sc (fun j => isNm (g j)) i to) := fun hlt => by
    constructor
    · intro hp
      rcases Int.lt_or_eq_of_le h6 with h | h
      · exact h
      · have hx := scx_at (p := fun j => isNm (g j)) (i := i) (to := to) (by omega)
        rw [← h] at hx
        exact absurd hp hx
    · intro h; exact scx_in (p := fun j => isNm (g j)) h2 h
  have h8 := scx_le (p := fun j => isNm (g j)) (i := i) (to := to)
  unfold nb_Bytes_nameEnd_2 nmC
  generalize sc (fun j => isNm (g j)) i to = k at *
  (repeat' (first | (with_reducible apply ev_z0) | (with_reducible apply ev_z1) | (unfold nk_Bytes_nameEnd_35) | (unfold nk_Bytes_nameEnd_36) | (unfold nk_Bytes_nameEnd_58) | (unfold nk_Bytes_nameEnd_59) | (with_reducible refine ev_tx ht ⟨by omega, by omega⟩ (fun _ => ?_)) | (with_reducible apply ev_ck; focus omega) | (with_reducible apply ev_ckL; focus omega) | (with_reducible apply ev_ix; focus omega) | (with_reducible apply ev_cz; focus omega) | (with_reducible apply ev_cb; focus omega) | (with_reducible apply ev_dx; focus omega) | (with_reducible apply ev_nn; focus omega) | (with_reducible apply ev_ty; focus omega) | (with_reducible apply ev_cd; focus omega) | (with_reducible apply ev_or8; focus omega) | (with_reducible apply ev_sh5; focus omega) | (with_reducible apply ev_sh6; focus omega) | (with_reducible apply ev_st) | (with_reducible refine ev_if (fun _ => ?_) (fun _ => ?_))))
  all_goals first
    | refine ev_inl ⟨⟨by omega, by omega, by omega, fun _ => ?_, by omega⟩, by omega, by omega⟩
      by_cases e : s = i
      · subst e; omega
      · exact h5 (by omega)
    | refine ev_inr (show _ = _ from ?_)
      by_cases e : s = i
      · subst e; split <;> omega
      · have := h5 (by omega)
        split <;> omega
end T1
