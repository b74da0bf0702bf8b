/-! WHAT IS SAID: the reference's out -/
/-- bytes are said: to the out, cut at 8000 -/
def SY1 (m m' : YS) (l : List Int) : Prop := FY [4, 5] m m' ∧ (0 ≤ m' 5 0 ∧ m' 5 0 ≤ 8000) ∧ ys m' 4 5 = (ys m 4 5 ++ l).take 8000
theorem SY1.trans {m m' m'' : YS} {l l' : List Int} (h : SY1 m m' l) (h' : SY1 m' m'' l') : SY1 m m'' (l ++ l') := ⟨h.1.trans h'.1, h'.2.1, by rw [h'.2.2, h.2.2, take_take_app]⟩
theorem SY1.nil {m : YS} (h : 0 ≤ m 5 0 ∧ m 5 0 ≤ 8000) : SY1 m m [] := ⟨FY.refl _ _, h, by rw [List.append_nil, List.take_of_length_le]; have := ys_len (m := m) (f := 4) h.1; omega⟩
section A9
variable {m : YS} {c i : Int} {f : Nat}
theorem y_say (h : 0 ≤ m 5 0 ∧ m 5 0 ≤ 8000) (hc : -128 ≤ c ∧ c ≤ 127) : ev (N_Y_say c m) (fun m' => SY1 m m' [c]) := by
  unfold N_Y_say
  have hl := ys_len (m := m) (f := 4) h.1
  refine ev_if (fun hlt => ?_) (fun hge => ?_)
  · refine ev_ix (by omega) (ev_st ?_)
    rw [show yw m 4 (m 5 0) (Int.bmod c 256) 5 0 = m 5 0 from by rw [yw_nF (by decide)]]
    refine ev_ck (by omega) (ev_st (ev_ok ⟨fun g hg => ?_, ?_, ?_⟩))
    · rw [yw_nF (fun z => hg (by simp [z])), yw_nF (fun z => hg (by simp [z]))]
    · rw [yw_eq]; omega
    · rw [List.take_of_length_le (by rw [List.length_append]; simp; omega)]
      refine ys_push h.1 yw_eq ?_ (fun j hj => ?_)
      · rw [yw_nF (by decide), yw_eq, bmod_id hc]
      · rw [yw_nF (by decide), yw_ni (by omega)]
  · refine ev_ok ⟨FY.refl _ _, h, ?_⟩
    rw [List.take_append_of_le_length (by omega), List.take_of_length_le (by omega)]
theorem y_sayAll {k : Int} (h : 0 ≤ m 5 0 ∧ m 5 0 ≤ 8000) (hf : f ≠ 4 ∧ f ≠ 5) (hi : 0 ≤ i) (hk : 0 ≤ k) (hl : i + k ≤ yLn f) (hb : i + k ≤ 100000) (hr : ∀ j, i ≤ j → j < i + k → -128 ≤ m f j ∧ m f j ≤ 127) : ev (N_Y_sayAll f i k m) (fun m' => SY1 m m' (sg (m f) i k.toNat)) := by
  unfold N_Y_sayAll NL_Y_sayAll_3
  rw [bind_id]
  refine ev_it (fun t : Int × YS => 0 ≤ t.1 ∧ t.1 ≤ k ∧ SY1 m t.2 (sg (m f) i t.1.toNat)) (fun t => k - t.1) (fun t ht => ?_) ⟨Int.le_refl _, hk, SY1.nil h⟩
  obtain ⟨s, m1⟩ := t
  obtain ⟨h1, h2, h3⟩ := ht
  simp only at h1 h2 h3
  show ev (nb_Y_sayAll_3 f i k s m1) _
  unfold nb_Y_sayAll_3
  have e : ∀ j, m1 f j = m f j := fun j => by rw [h3.1 f (by simp [hf.1, hf.2])]
  refine ev_if (fun hlt => ?_) (fun hge => ?_)
  · refine ev_ck (by omega) (ev_ix (by omega) ?_)
    rw [e]
    refine ev_bind (y_say h3.2.1 (hr _ (by omega) (by omega))) (fun m2 h4 => ev_ck (by omega) (ev_inl ⟨⟨by show 0 ≤ s + 1; omega, by show s + 1 ≤ k; omega, ?_⟩, by show k - (s + 1) < k - s; omega, by show 0 ≤ k - s; omega⟩))
    show SY1 m m2 (sg (m f) i (s + 1).toNat)
    rw [show (s + 1).toNat = s.toNat + 1 by omega, sg_app, show i + ((s.toNat : Nat) : Int) = i + s by omega]
    exact h3.trans h4
  · have : s = k := by omega
    subst this
    exact ev_inr h3
/-- &lt; and so on -/
def esc (c : Int) : List Int := if c = 60 then [38, 108, 116, 59] else if c = 62 then [38, 103, 116, 59] else if c = 38 then [38, 97, 109, 112, 59] else if c = 34 then [38, 113, 117, 111, 116, 59] else [c]
def escL (l : List Int) : List Int := l.flatMap esc
theorem y_sayEsc {k raw : Int} (h : 0 ≤ m 5 0 ∧ m 5 0 ≤ 8000) (hf : f ≠ 4 ∧ f ≠ 5) (hi : 0 ≤ i) (hk : 0 ≤ k) (hl : i + k ≤ yLn f) (hb : i + k ≤ 100000) (hr : ∀ j, i ≤ j → j < i + k → -128 ≤ m f j ∧ m f j ≤ 127) : ev (N_Y_sayEscaped f i k raw m) (fun m' => SY1 m m' (if raw = 0 then escL (sg (m f) i k.toNat) else sg (m f) i k.toNat)) := by
  unfold N_Y_sayEscaped NL_Y_sayEscaped_3
  rw [bind_id]
  refine ev_it (fun t : Int × YS => 0 ≤ t.1 ∧ t.1 ≤ k ∧ SY1 m t.2 (if raw = 0 then escL (sg (m f) i t.1.toNat) else sg (m f) i t.1.toNat)) (fun t => k - t.1) (fun t ht => ?_) ⟨Int.le_refl _, hk, by show SY1 m m (if raw = 0 then [] else []); split <;> exact SY1.nil h⟩
  obtain ⟨s, m1⟩ := t
  obtain ⟨h1, h2, h3⟩ := ht
  simp only at h1 h2 h3
  show ev (nb_Y_sayEscaped_3 f i k raw s m1) _
  unfold nb_Y_sayEscaped_3
  have e : ∀ j, m1 f j = m f j := fun j => by rw [h3.1 f (by simp [hf.1, hf.2])]
  refine ev_if (fun hlt => ?_) (fun hge => ?_)
  · have hc := hr (i + s) (by omega) (by omega)
    have next : ∀ m2, SY1 m1 m2 (if raw = 0 then esc (m f (i + s)) else [m f (i + s)]) → ev (ck (s + 1) <| some (Sum.inl (s + 1, m2))) (lp (fun t : Int × YS => 0 ≤ t.1 ∧ t.1 ≤ k ∧ SY1 m t.2 (if raw = 0 then escL (sg (m f) i t.1.toNat) else sg (m f) i t.1.toNat)) (fun t => k - t.1) (s, m1) (fun m' => SY1 m m' (if raw = 0 then escL (sg (m f) i k.toNat) else sg (m f) i k.toNat))) := fun m2 h4 => by
      refine ev_ck (by omega) (ev_inl ⟨⟨by show 0 ≤ s + 1; omega, by show s + 1 ≤ k; omega, ?_⟩, by show k - (s + 1) < k - s; omega, by show 0 ≤ k - s; omega⟩)
      show SY1 m m2 (if raw = 0 then escL (sg (m f) i (s + 1).toNat) else sg (m f) i (s + 1).toNat)
      rw [show (s + 1).toNat = s.toNat + 1 by omega, sg_app, show i + ((s.toNat : Nat) : Int) = i + s by omega]
      have h5 := h3.trans h4
      by_cases hz : raw = 0
      · rw [if_pos hz] at h5 ⊢
        rw [if_pos hz] at h5
        unfold escL at h5 ⊢
        rw [List.flatMap_append]
        show SY1 m m2 (_ ++ (esc (m f (i + s)) ++ []))
        rw [List.append_nil]; exact h5
      · rw [if_neg hz] at h5 ⊢
        rw [if_neg hz] at h5
        exact h5
    refine ev_ck (by omega) (ev_ix (by omega) ?_)
    rw [e]
    have plain : (raw = 0 → esc (m f (i + s)) = [m f (i + s)]) → ev (nk_Y_sayEscaped_50 f i k raw s (m f (i + s)) m1) (lp (fun t : Int × YS => 0 ≤ t.1 ∧ t.1 ≤ k ∧ SY1 m t.2 (if raw = 0 then escL (sg (m f) i t.1.toNat) else sg (m f) i t.1.toNat)) (fun t => k - t.1) (s, m1) (fun m' => SY1 m m' (if raw = 0 then escL (sg (m f) i k.toNat) else sg (m f) i k.toNat))) := fun hx => by
      unfold nk_Y_sayEscaped_50
      refine ev_bind (y_say h3.2.1 hc) (fun m2 h4 => next m2 ?_)
      by_cases hz : raw = 0
      · rw [if_pos hz, hx hz]; exact h4
      · rw [if_neg hz]; exact h4
    have masked : raw = 0 → (m f (i + s) = 60 ∨ m f (i + s) = 62 ∨ m f (i + s) = 38 ∨ m f (i + s) = 34) → ev (nk_Y_sayEscaped_59 f i k raw s (m f (i + s)) m1) (lp (fun t : Int × YS => 0 ≤ t.1 ∧ t.1 ≤ k ∧ SY1 m t.2 (if raw = 0 then escL (sg (m f) i t.1.toNat) else sg (m f) i t.1.toNat)) (fun t => k - t.1) (s, m1) (fun m' => SY1 m m' (if raw = 0 then escL (sg (m f) i k.toNat) else sg (m f) i k.toNat))) := fun hz hx => by
      rw [if_pos hz] at next
      unfold nk_Y_sayEscaped_59
      refine ev_bind (y_say h3.2.1 (by omega)) (fun m2 a2 => ?_)
      rcases hx with hx | hx | hx | hx <;> rw [hx] at next ⊢
      · rw [if_neg (by decide), if_neg (by decide), if_pos rfl]
        unfold nk_Y_sayEscaped_164 nk_Y_sayEscaped_173
        refine ev_bind (y_say a2.2.1 (by omega)) (fun m3 a3 => ev_bind (y_say a3.2.1 (by omega)) (fun m4 a4 => ev_bind (y_say a4.2.1 (by omega)) (fun m5 a5 => next m5 (a2.trans (a3.trans (a4.trans a5))))))
      · rw [if_neg (by decide), if_neg (by decide), if_neg (by decide)]
        unfold nk_Y_sayEscaped_164 nk_Y_sayEscaped_173
        refine ev_bind (y_say a2.2.1 (by omega)) (fun m3 a3 => ev_bind (y_say a3.2.1 (by omega)) (fun m4 a4 => ev_bind (y_say a4.2.1 (by omega)) (fun m5 a5 => next m5 (a2.trans (a3.trans (a4.trans a5))))))
      · rw [if_pos rfl]
        unfold nk_Y_sayEscaped_79
        rw [if_pos rfl]
        unfold nk_Y_sayEscaped_94
        refine ev_bind (y_say a2.2.1 (by omega)) (fun m3 a3 => ?_)
        rw [if_pos rfl]
        unfold nk_Y_sayEscaped_112
        refine ev_bind (y_say a3.2.1 (by omega)) (fun m4 a4 => ?_)
        rw [if_pos rfl]
        unfold nk_Y_sayEscaped_130
        refine ev_bind (y_say a4.2.1 (by omega)) (fun m5 a5 => ?_)
        rw [if_neg (by decide)]
        unfold nk_Y_sayEscaped_173
        exact ev_bind (y_say a5.2.1 (by omega)) (fun m6 a6 => next m6 (a2.trans (a3.trans (a4.trans (a5.trans a6)))))
      · rw [if_neg (by decide), if_pos rfl]
        unfold nk_Y_sayEscaped_79
        rw [if_neg (by decide)]
        unfold nk_Y_sayEscaped_94
        refine ev_bind (y_say a2.2.1 (by omega)) (fun m3 a3 => ?_)
        rw [if_neg (by decide)]
        unfold nk_Y_sayEscaped_112
        refine ev_bind (y_say a3.2.1 (by omega)) (fun m4 a4 => ?_)
        rw [if_neg (by decide)]
        unfold nk_Y_sayEscaped_130
        refine ev_bind (y_say a4.2.1 (by omega)) (fun m5 a5 => ?_)
        rw [if_pos rfl]
        refine ev_bind (y_say a5.2.1 (by omega)) (fun m6 a6 => ?_)
        unfold nk_Y_sayEscaped_173
        exact ev_bind (y_say a6.2.1 (by omega)) (fun m7 a7 => next m7 (a2.trans (a3.trans (a4.trans (a5.trans (a6.trans a7))))))
    refine ev_if (fun hz => ?_) (fun hz => plain (fun z => absurd z hz))
    refine ev_if (fun h60 => masked hz (.inl h60)) (fun h60 => ev_if (fun h62 => masked hz (.inr (.inl h62))) (fun h62 => ev_if (fun h38 => masked hz (.inr (.inr (.inl h38)))) (fun h38 => ev_if (fun h34 => masked hz (.inr (.inr (.inr h34)))) (fun h34 => plain (fun _ => ?_)))))
    unfold esc
    rw [if_neg h60, if_neg h62, if_neg h38, if_neg h34]
  · have : s = k := by omega
    subst this
    exact ev_inr h3
end A9
