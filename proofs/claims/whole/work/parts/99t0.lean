/-! STYLE SHEETS: scans -/
/-- the next byte of a kind -/
def nxA (g : Int → Int) (c i to : Int) : Int := sc (fun j => g j ≠ c) i to
def blA (g : Int → Int) (i to : Int) : Int := sc (fun j => isBl (g j)) i to
/-- where a text ends without the blanks at its end -/
def TRM (g : Int → Int) (a to r : Int) : Prop := (a ≤ r ∧ r ≤ to) ∧ (∀ j, r ≤ j → j < to → isBl (g j)) ∧ (a < r → ¬ isBl (g (r - 1)))
section T0
variable {n : NS} {m : YS} {g : Int → Int} {a b c d i to L x y r r' : Int}
theorem TRM.un (h : TRM g a to r) (h' : TRM g a to r') : r = r' := by
  obtain ⟨h1, h2, h3⟩ := h
  obtain ⟨k1, k2, k3⟩ := h'
  by_cases z : r < r'
  · exact absurd (h2 (r' - 1) (by omega) (by omega)) (k3 (by omega))
  · by_cases z' : r' < r
    · exact absurd (k2 (r - 1) (by omega) (by omega)) (h3 (by omega))
    · omega
theorem cs_index (ht : tx n d g L) (h0 : 0 ≤ i ∧ to ≤ L ∧ L ≤ 2000) : N_Sheet_indexOf d i to c n = some (nxA g c i to) := by
  unfold N_Sheet_indexOf NL_Sheet_indexOf_3
  have : it (fun t => nb_Sheet_indexOf_3 d to c t n) i = some (nxA g c i to) := ev_scan (p := fun j => g j ≠ c) (fun t h1 h2 => by
    unfold nb_Sheet_indexOf_3
    refine ev_if (fun hlt => ev_tx ht ⟨by omega, by omega⟩ (fun e => ?_)) (fun hge => ev_ok (.inr ⟨rfl, fun z => hge z.1⟩))
    rw [e]
    exact ev_if (fun hp => ev_ok (.inr ⟨rfl, fun z => z.2 hp⟩)) (fun hp => ev_ck (by omega) (ev_ok (.inl ⟨rfl, hlt, hp⟩))))
  rw [this]; rfl
theorem cs_trim (ht : tx n d g L) (h0 : 0 ≤ a ∧ a ≤ to ∧ to ≤ L ∧ L ≤ 2000) : ∃ r, N_Sheet_trimBlanks d a to n = some r ∧ TRM g a to r := by
  have : ev (NL_Sheet_trimBlanks_2 d a to n) (fun r => TRM g a to r) := by
    unfold NL_Sheet_trimBlanks_2
    refine ev_it (fun t : Int => (a ≤ t ∧ t ≤ to) ∧ ∀ j, t ≤ j → j < to → isBl (g j)) (fun t => t - a) (fun t ht' => ?_) ⟨⟨h0.2.1, Int.le_refl _⟩, fun j x y => by omega⟩
    obtain ⟨t1, t2⟩ := ht'
    show ev (nb_Sheet_trimBlanks_2 d a t n) _
    unfold nb_Sheet_trimBlanks_2
    refine ev_if (fun hlt => ev_ck (by omega) (ev_tx ht ⟨by omega, by omega⟩ (fun e => ?_))) (fun hge => ev_inr ⟨t1, t2, fun y => by omega⟩)
    rw [e]
    refine ev_bz cs_blank (fun hp => ?_) (fun hp => ?_)
    · rw [if_neg (by decide)]
      refine ev_ck (by omega) (ev_inl ⟨⟨by omega, fun j x y => ?_⟩, by omega, by omega⟩)
      by_cases z : j = t - 1
      · rw [z]; exact hp
      · exact t2 j (by omega) y
    · rw [if_pos rfl]
      exact ev_inr ⟨t1, t2, fun _ => hp⟩
  obtain ⟨r, e, h⟩ := this
  exact ⟨r, by unfold N_Sheet_trimBlanks; rw [e]; rfl, h⟩
theorem ys_blanks (h0 : 0 ≤ i ∧ i ≤ 2000) (hto : to ≤ 400) : N_Y_blanks i to m = some (blA (m 101) i to) := by
  unfold N_Y_blanks NL_Y_blanks_2
  have : it (fun t => nb_Y_blanks_2 to t m) i = some (blA (m 101) i to) := ev_scan (p := fun j => isBl (m 101 j)) (fun t h1 h2 => by
    unfold nb_Y_blanks_2
    refine ev_if (fun hlt => ev_ix (by omega) (ev_bz ys_blank (fun hp => ?_) (fun hp => ?_))) (fun hge => ev_ok (.inr ⟨rfl, fun z => hge z.1⟩))
    · rw [if_neg (by decide)]; exact ev_ck (by omega) (ev_ok (.inl ⟨rfl, hlt, hp⟩))
    · rw [if_pos rfl]; exact ev_ok (.inr ⟨rfl, fun z => hp z.2⟩))
  rw [this]; rfl
theorem ys_brace (h0 : 0 ≤ i ∧ i ≤ 2000) (hto : to ≤ 400) : NL_Y_readSheet_14 to x i m = some (nxA (m 101) 125 i to) := by
  unfold NL_Y_readSheet_14
  exact ev_scan (p := fun j => m 101 j ≠ 125) (fun t h1 h2 => by
    unfold nb_Y_readSheet_14
    exact ev_if (fun hlt => ev_ix (by omega) (ev_if (fun hp => ev_ok (.inr ⟨rfl, fun z => z.2 hp⟩)) (fun hp => ev_ck (by omega) (ev_ok (.inl ⟨rfl, hlt, hp⟩))))) (fun hge => ev_ok (.inr ⟨rfl, fun z => hge z.1⟩)))
theorem ys_obrace (h0 : 0 ≤ i ∧ i ≤ 2000) (hto : to ≤ 400) : NL_Y_readSheet_45 x y to i m = some (nxA (m 101) 123 i to) := by
  unfold NL_Y_readSheet_45
  exact ev_scan (p := fun j => m 101 j ≠ 123) (fun t h1 h2 => by
    unfold nb_Y_readSheet_45
    exact ev_if (fun hlt => ev_ix (by omega) (ev_if (fun hp => ev_ok (.inr ⟨rfl, fun z => z.2 hp⟩)) (fun hp => ev_ck (by omega) (ev_ok (.inl ⟨rfl, hlt, hp⟩))))) (fun hge => ev_ok (.inr ⟨rfl, fun z => hge z.1⟩)))
theorem ys_semi (h0 : 0 ≤ i ∧ i ≤ 2000) (hto : to ≤ 400) : NL_Y_readDeclarations_31 to x i m = some (nxA (m 101) 59 i to) := by
  unfold NL_Y_readDeclarations_31
  exact ev_scan (p := fun j => m 101 j ≠ 59) (fun t h1 h2 => by
    unfold nb_Y_readDeclarations_31
    exact ev_if (fun hlt => ev_ix (by omega) (ev_if (fun hp => ev_ok (.inr ⟨rfl, fun z => z.2 hp⟩)) (fun hp => ev_ck (by omega) (ev_ok (.inl ⟨rfl, hlt, hp⟩))))) (fun hge => ev_ok (.inr ⟨rfl, fun z => hge z.1⟩)))
theorem cs_smalls (ht : tx n d g L) (h0 : 0 ≤ i ∧ to ≤ L ∧ L ≤ 2000) : NL_Sheet_readDeclaration_12 d to x y i n = some (sc (fun j => isSm (g j)) i to) := by
  unfold NL_Sheet_readDeclaration_12
  exact ev_scan (p := fun j => isSm (g j)) (fun t h1 h2 => by
    unfold nb_Sheet_readDeclaration_12
    refine ev_if (fun hlt => ev_tx ht ⟨by omega, by omega⟩ (fun e => ?_)) (fun hge => ev_ok (.inr ⟨rfl, fun z => hge z.1⟩))
    rw [e]
    refine ev_bz cs_small (fun hp => ?_) (fun hp => ?_)
    · rw [if_neg (by decide)]; exact ev_ck (by omega) (ev_ok (.inl ⟨rfl, hlt, hp⟩))
    · rw [if_pos rfl]; exact ev_ok (.inr ⟨rfl, fun z => hp z.2⟩))
theorem ys_smalls (h0 : 0 ≤ i ∧ i ≤ 2000) (hto : to ≤ 400) : NL_Y_readDeclaration_2 x to i m = some (sc (fun j => isSm (m 101 j)) i to) := by
  unfold NL_Y_readDeclaration_2
  exact ev_scan (p := fun j => isSm (m 101 j)) (fun t h1 h2 => by
    unfold nb_Y_readDeclaration_2
    refine ev_if (fun hlt => ev_ix (by omega) (ev_bz ys_small (fun hp => ?_) (fun hp => ?_))) (fun hge => ev_ok (.inr ⟨rfl, fun z => hge z.1⟩))
    · rw [if_neg (by decide)]; exact ev_ck (by omega) (ev_ok (.inl ⟨rfl, hlt, hp⟩))
    · rw [if_pos rfl]; exact ev_ok (.inr ⟨rfl, fun z => hp z.2⟩))
theorem ys_smalls2 (h0 : 0 ≤ i ∧ i ≤ 2000) (hto : to ≤ 400) : NL_Y_readValue_13 x y to i m = some (sc (fun j => isSm (m 101 j)) i to) := by
  unfold NL_Y_readValue_13
  exact ev_scan (p := fun j => isSm (m 101 j)) (fun t h1 h2 => by
    unfold nb_Y_readValue_13
    refine ev_if (fun hlt => ev_ix (by omega) (ev_bz ys_small (fun hp => ?_) (fun hp => ?_))) (fun hge => ev_ok (.inr ⟨rfl, fun z => hge z.1⟩))
    · rw [if_neg (by decide)]; exact ev_ck (by omega) (ev_ok (.inl ⟨rfl, hlt, hp⟩))
    · rw [if_pos rfl]; exact ev_ok (.inr ⟨rfl, fun z => hp z.2⟩))
/-- a word of the reference that is just this text -/
theorem y_wordIs {W : Int} {w : List Int} (hW : 0 ≤ W ∧ W < 36893488147419103232) (hw : wl W = w) (h0 : 0 ≤ a ∧ a ≤ b ∧ b ≤ 400) {α : Type} {X Y : Option α} : ((N_Y_lengthOf W m).bind fun z => ck (b - a) <| if z = b - a then (N_Y_isWord 101 a b W m).bind fun z18 => if z18 = 0 then X else Y else X) = if sg (m 101) a (b - a).toNat = w then Y else X := by
  have hi := ys_isWord (f := 101) (m := m) (i := a) (to := b) hW (by show b ≤ (400 : Int); omega) h0.1 (by omega) (by omega)
  rw [ys_lengthOf hW, hw] at *
  simp only [Option.bind_some]
  rw [ck_e _ (by omega)]
  by_cases z : (w.length : Int) = b - a
  · have hm := mtR_sg (g := m 101) (to := b) w a (by omega)
    rw [if_pos z]
    by_cases y : sg (m 101) a (b - a).toNat = w
    · rw [bz_t hi (hm.mpr y), if_pos y]
      simp only [Option.bind_some]
      rw [if_neg (by decide)]
    · rw [bz_f hi (fun u => y (hm.mp u)), if_neg y]
      simp only [Option.bind_some]
      rw [if_pos trivial]
  · rw [if_neg z, if_neg (fun y => z ?_)]
    have := sg_len (m 101) (b - a).toNat a
    rw [y] at this; omega
end T0
