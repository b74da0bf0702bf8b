/-! A SERVER'S ANSWER: the words of its FIELDS, in both; with // no base counts -/
def eqA (g : Int → Int) (i to : Int) : Int := sc (fun j => g j ≠ 61) i to
def tkE (g : Int → Int) (i to : Int) : Int := sc (fun j => ¬ isBl (g j)) i to
section R0
variable {n : NS} {m : YS} {g : Int → Int} {d i to L x : Int} {w : List Int}
theorem refer_any (h : i + 1 < to ∧ m 2 i = 47 ∧ m 2 (i + 1) = 47) : N_Y_refer 2 i to 5 m = N_Y_refer 2 i to 1 m := by
  have hq : ∀ m1, N_Y_query 2 to 5 1 m1 = N_Y_query 2 to 1 1 m1 := fun m1 => by
    unfold N_Y_query nk_Y_query_102
    rw [if_neg (show ¬ ((1 : Int) = 0) by decide)]
    rfl
  have h277 : ∀ m1, nk_Y_refer_277 2 to 5 1 m1 = nk_Y_refer_277 2 to 1 1 m1 := fun m1 => by
    unfold nk_Y_refer_277
    simp only [hq]
    rfl
  have h270 : ∀ m1, nk_Y_refer_270 2 i to 5 1 m1 = nk_Y_refer_270 2 i to 1 1 m1 := fun m1 => by
    unfold nk_Y_refer_270
    simp only [h277]
  have h256 : ∀ m1, nk_Y_refer_135 2 i to 5 1 m1 = nk_Y_refer_135 2 i to 1 1 m1 := fun m1 => by
    unfold nk_Y_refer_135 nk_Y_refer_256
    simp only [h277, h270]
  have h80 : ∀ z m1, NL_Y_refer_80 2 i to 5 1 z i m1 = NL_Y_refer_80 2 i to 1 1 z i m1 := fun _ _ => rfl
  unfold N_Y_refer st
  dsimp only
  have e2 : (yw (yw (yw (yw (yw m 12 0 0) 14 0 0) 15 0 i) 7 0 0) 8 0 0) 2 = m 2 := by
    rw [yw_nF (by decide), yw_nF (by decide), yw_nF (by decide), yw_nF (by decide), yw_nF (by decide)]
  rw [e2, if_pos h.1, if_pos h.1, if_pos h.2.1, if_pos h.2.1, if_pos h.2.2, if_pos h.2.2]
  simp only [h80, h256]
theorem ys_tokenEnd (h0 : 0 ≤ i ∧ i ≤ 2000) (hL : m 3 0 ≤ 2000) : N_Y_tokenEnd i m = some (tkE (m 2) i (m 3 0)) := by
  unfold N_Y_tokenEnd NL_Y_tokenEnd_2
  have : it (fun s => nb_Y_tokenEnd_2 s m) i = some (tkE (m 2) i (m 3 0)) := ev_scan (p := fun j => ¬ isBl (m 2 j)) (fun s h1 h2 => by
    unfold nb_Y_tokenEnd_2
    refine ev_if (fun hlt => ev_ix (by omega) (ev_bz ys_blank (fun hp => ?_) (fun hp => ?_))) (fun hge => ev_ok (.inr ⟨rfl, fun z => hge z.1⟩))
    · rw [if_neg (by decide)]; exact ev_ok (.inr ⟨rfl, fun z => z.2 hp⟩)
    · rw [if_pos rfl]; exact ev_ck (by omega) (ev_ok (.inl ⟨rfl, hlt, hp⟩)))
  rw [this]; rfl
theorem cs_fieldEnd (ht : tx n d g L) (h0 : 0 ≤ i ∧ i ≤ 2000) (hL : L ≤ 2000) : N_Net_fieldEnd d i L n = some (tkE g i L) := by
  unfold N_Net_fieldEnd NL_Net_fieldEnd_2
  have : it (fun s => nb_Net_fieldEnd_2 d L s n) i = some (tkE g i L) := ev_scan (p := fun j => ¬ isBl (g j)) (fun s h1 h2 => by
    unfold nb_Net_fieldEnd_2
    refine ev_if (fun hlt => ev_tx ht ⟨by omega, by omega⟩ (fun e => ?_)) (fun hge => ev_ok (.inr ⟨rfl, fun z => hge z.1⟩))
    rw [e]
    refine ev_bz cs_blank (fun hp => ?_) (fun hp => ?_)
    · rw [if_neg (by decide)]; exact ev_ok (.inr ⟨rfl, fun z => z.2 hp⟩)
    · rw [if_pos rfl]; exact ev_ck (by omega) (ev_ok (.inl ⟨rfl, hlt, hp⟩)))
  rw [this]; rfl
theorem y_eqA (h0 : 0 ≤ i ∧ i ≤ 2000) (hL : to ≤ 2000) : NL_Y_field_48 x to i m = some (eqA (m 2) i to) := by
  unfold NL_Y_field_48
  exact ev_scan (p := fun j => m 2 j ≠ 61) (fun s h1 h2 => by
    unfold nb_Y_field_48
    refine ev_if (fun hlt => ev_ix (by omega) (ev_if (fun hp => ev_ok (.inr ⟨rfl, fun z => z.2 hp⟩)) (fun hp => ev_ck (by omega) (ev_ok (.inl ⟨rfl, hlt, hp⟩))))) (fun hge => ev_ok (.inr ⟨rfl, fun z => hge z.1⟩)))
/-- a word with = behind it -/
theorem mtE : ∀ (w : List Int) (i : Int), (∀ c ∈ w, c ≠ 61) → (mtR (w ++ [61]) g i to ↔ (eqA g i to < to ∧ eqA g i to - i = (w.length : Int) ∧ mtR w g i (eqA g i to))) := by
  intro w
  induction w with
  | nil =>
    intro i _
    show (i < to ∧ g i = 61 ∧ True) ↔ (eqA g i to < to ∧ eqA g i to - i = 0 ∧ True)
    have h1 := scx_ge (p := fun j => g j ≠ 61) i to
    constructor
    · rintro ⟨a, b, _⟩
      have : eqA g i to = i := by
        by_cases z : i < sc (fun j => g j ≠ 61) i to
        · exact absurd b (scx_in (p := fun j => g j ≠ 61) (Int.le_refl i) z)
        · unfold eqA; omega
      exact ⟨by omega, by omega, trivial⟩
    · rintro ⟨a, b, _⟩
      have e : eqA g i to = i := by omega
      have h2 := scx_at (p := fun j => g j ≠ 61) (i := i) (to := to) a
      have h2 : ¬ g (eqA g i to) ≠ 61 := h2
      rw [e] at h2 a
      exact ⟨a, Decidable.not_not.mp h2, trivial⟩
  | cons c w ih =>
    intro i hc
    have hc0 := hc c List.mem_cons_self
    have ih := ih (i + 1) (fun x hx => hc x (List.mem_cons_of_mem _ hx))
    show (i < to ∧ g i = c ∧ mtR (w ++ [61]) g (i + 1) to) ↔ (eqA g i to < to ∧ eqA g i to - i = ((w.length + 1 : Nat) : Int) ∧ (i < eqA g i to ∧ g i = c ∧ mtR w g (i + 1) (eqA g i to)))
    have step : i < to → g i ≠ 61 → eqA g i to = eqA g (i + 1) to := fun a b => by
      unfold eqA
      refine (scx_eq (p := fun j => g j ≠ 61) (i := i) (to := to) ?_).symm
      obtain ⟨s1, s2, s3, s4⟩ := scx_scn (p := fun j => g j ≠ 61) (i + 1) to
      refine ⟨by omega, by omega, fun j ja jb => ?_, s4⟩
      by_cases z : j = i
      · rw [z]; exact b
      · exact s3 j (by omega) jb
    constructor
    · rintro ⟨a, b, e⟩
      have st := step a (by rw [b]; exact hc0)
      obtain ⟨q1, q2, q3⟩ := ih.mp e
      rw [st]
      exact ⟨q1, by omega, by omega, b, q3⟩
    · rintro ⟨a, b, u, v, e⟩
      have st := step (by omega) (by rw [v]; exact hc0)
      rw [st] at a b u e
      exact ⟨by omega, v, ih.mpr ⟨a, by omega, e⟩⟩
end R0
