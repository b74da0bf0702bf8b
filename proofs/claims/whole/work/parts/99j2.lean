/-! COOKIES ARE TOLD, in both -/
/-- the cookies of a site, of the first rows -/
def ckA (m : YS) (s : List Int) : Nat → List Int
  | 0 => []
  | c + 1 => if tbS 31 32 m c = s then (if ckA m s c = [] then [] else ckA m s c ++ [59]) ++ (tbM 31 33 m c ++ ([61] ++ tbV 31 34 m c)) else ckA m s c
def JSnt (n : NS) (m : YS) : Prop := bt n 607 = ys m 36 37 ∧ 0 ≤ m 37 0 ∧ m 37 0 ≤ 400 ∧ ∀ c ∈ ys m 36 37, 0 ≤ c ∧ c ≤ 127
section J2
variable {n n' : NS} {m m' : YS} {A B k i x v1 v2 : Int} {s w v q mk l : List Int} {ss : List (List Int)} {As : Int → Prop}
theorem ckA_len (h : TRs 25 31 32 33 34 n m k) : ∀ c : Nat, (c : Int) ≤ k → (ckA m s c).length ≤ 18 * c ∧ ∀ x ∈ ckA m s c, 0 ≤ x ∧ x ≤ 127 := by
  intro c
  induction c with
  | zero => intro _; exact ⟨Nat.le_refl 0, fun x hx => by cases hx⟩
  | succ c ih =>
    intro hc
    obtain ⟨i1, i2⟩ := ih (by omega)
    obtain ⟨_, ⟨q1, q2, q3⟩, _⟩ := h.2.2 c (by omega) (by omega)
    show (if tbS 31 32 m c = s then (if ckA m s c = [] then [] else ckA m s c ++ [59]) ++ (tbM 31 33 m c ++ ([61] ++ tbV 31 34 m c)) else ckA m s c).length ≤ _ ∧ ∀ x ∈ (if tbS 31 32 m c = s then (if ckA m s c = [] then [] else ckA m s c ++ [59]) ++ (tbM 31 33 m c ++ ([61] ++ tbV 31 34 m c)) else ckA m s c), _
    have a2 := q2.2.1
    have a3 := q3.2.1
    split
    · refine ⟨?_, fun x hx => ?_⟩
      · simp only [List.length_append, List.length_singleton]
        split <;> simp only [List.length_nil, List.length_append, List.length_singleton] <;> omega
      · rcases List.mem_append.mp hx with y | y
        · split at y
          · cases y
          · rcases List.mem_append.mp y with z | z
            · exact i2 x z
            · rw [List.mem_singleton] at z; omega
        · rcases List.mem_append.mp y with z | z
          · have := q2.bt x z; unfold isBt at this; omega
          · rcases List.mem_append.mp z with u | u
            · rw [List.mem_singleton] at u; omega
            · have := q3.bt x u; unfold isBt at this; omega
    · exact ⟨by omega, i2⟩
theorem y_send {c : Int} (h : 0 ≤ m 37 0 ∧ m 37 0 < 400) (hc : 0 ≤ c ∧ c ≤ 127) : ev (N_Y_send c m) (fun m' => FY [36, 37] m m' ∧ m' 37 0 = m 37 0 + 1 ∧ ys m' 36 37 = ys m 36 37 ++ [c]) := by
  unfold N_Y_send
  refine ev_ix h (ev_st ?_)
  have e37 : yw m 36 (m 37 0) (Int.bmod c 256) 37 0 = m 37 0 := by rw [yw_nF (by decide)]
  rw [e37]
  refine ev_ck (by omega) (ev_st (ev_ok ?_))
  have hb : Int.bmod c 256 = c := bmod_id (by omega)
  rw [hb]
  refine ⟨fun f hf => ?_, yw_eq, ys_push h.1 yw_eq ?_ (fun j hj => ?_)⟩
  · simp only [List.mem_cons, List.not_mem_nil, or_false, not_or] at hf
    rw [yw_nF hf.2, yw_nF hf.1]
  · rw [yw_nF (by decide), yw_eq]
  · rw [yw_nF (by decide), yw_ni (by omega)]
/-- a row of bytes is sent -/
theorem y_sends {D : Nat} {a K : Int} {fn : Int × YS → Option ((Int × YS) ⊕ YS)} (hD : D ≠ 36 ∧ D ≠ 37) (hK : 0 ≤ K) (h : 0 ≤ m 37 0 ∧ m 37 0 + K ≤ 400) (hc : ∀ c ∈ sg (m D) a K.toNat, 0 ≤ c ∧ c ≤ 127) (hb : ∀ j m1, FY [36, 37] m m1 → 0 ≤ j → j < K → fn (j, m1) = (N_Y_send (m1 D (a + j)) m1).bind (fun m12 => some (.inl (j + 1, m12)))) (he : ∀ m1, FY [36, 37] m m1 → fn (K, m1) = some (.inr m1)) : ev (it fn (0, m)) (fun m' => FY [36, 37] m m' ∧ m' 37 0 = m 37 0 + K ∧ ys m' 36 37 = ys m 36 37 ++ sg (m D) a K.toNat) := by
  refine ev_it (fun t : Int × YS => (0 ≤ t.1 ∧ t.1 ≤ K) ∧ FY [36, 37] m t.2 ∧ t.2 37 0 = m 37 0 + t.1 ∧ ys t.2 36 37 = ys m 36 37 ++ sg (m D) a t.1.toNat) (fun t => K - t.1) (fun t ht => ?_) ⟨⟨Int.le_refl _, hK⟩, fun _ _ => rfl, by show m 37 0 = m 37 0 + 0; omega, by show ys m 36 37 = ys m 36 37 ++ []; rw [List.append_nil]⟩
  obtain ⟨j, m1⟩ := t
  obtain ⟨g1, g2, g3, g4⟩ := ht
  simp only at g1 g2 g3 g4
  by_cases hlt : j < K
  · rw [hb j m1 g2 g1.1 hlt]
    have eD : m1 D = m D := g2 D (by simp only [List.mem_cons, List.not_mem_nil, or_false, not_or]; exact hD)
    rw [eD]
    refine ev_bind (y_send (m := m1) (by omega) (sg_all hc (by omega) (by omega))) (fun m2 h2 => ev_inl ⟨⟨by show 0 ≤ j + 1 ∧ j + 1 ≤ K; omega, g2.trans h2.1, by show m2 37 0 = m 37 0 + (j + 1); have := h2.2.1; omega, ?_⟩, by show K - (j + 1) < K - j; omega, by show 0 ≤ K - j; omega⟩)
    show ys m2 36 37 = ys m 36 37 ++ sg (m D) a (j + 1).toNat
    rw [h2.2.2, g4, show (j + 1).toNat = j.toNat + 1 by omega, sg_app, List.append_assoc, show a + ((j.toNat : Nat) : Int) = a + j by omega]
    rfl
  · have : j = K := by omega
    subst this
    rw [he m1 g2]
    exact ev_inr ⟨g2, g3, g4⟩
theorem ys_nil (h : 0 ≤ m 37 0) : ys m 36 37 = [] ↔ m 37 0 = 0 := by
  constructor
  · intro z
    have := congrArg List.length z
    unfold ys at this
    rw [sg_len] at this
    have : (m 37 0).toNat = 0 := this
    omega
  · intro z; unfold ys; rw [z]; rfl
theorem y_tell71 (h : TRs 25 31 32 33 34 n m k) (hk : 0 ≤ v2 ∧ v2 < k) (h37 : 0 ≤ m 37 0 ∧ m 37 0 + 17 ≤ 400) : ev (nk_Y_tellCookies_71 v1 v2 m) (fun x => ∃ m', x = .inl (v2 + 1, m') ∧ FY [36, 37] m m' ∧ 0 ≤ m' 37 0 ∧ m' 37 0 ≤ m 37 0 + 17 ∧ ys m' 36 37 = ys m 36 37 ++ (tbM 31 33 m v2 ++ ([61] ++ tbV 31 34 m v2))) := by
  obtain ⟨⟨p1, p2, p3⟩, ⟨q1, q2, q3⟩, _⟩ := h.2.2 v2 hk.1 hk.2
  have hk2 := h.2.1
  have l2 : ((tbM 31 33 m v2).length : Int) = m 33 v2 := sg_lenI p2
  have l3 : ((tbV 31 34 m v2).length : Int) = m 34 v2 := sg_lenI p3
  have a2 := q2.2.1
  have a3 := q3.2.1
  unfold nk_Y_tellCookies_71
  refine ev_bind (P := fun m' => FY [36, 37] m m' ∧ m' 37 0 = m 37 0 + m 33 v2 ∧ ys m' 36 37 = ys m 36 37 ++ tbM 31 33 m v2) ?_ (fun m3 h3 => ?_)
  · unfold NL_Y_tellCookies_73
    refine y_sends (D := 31) (a := 24 * v2 + 8) (K := m 33 v2) (by decide) p2 (by omega) (fun c hc => by have := q2.bt c hc; unfold isBt at this; omega) (fun j m1 f1 j0 j1 => ?_) (fun m1 f1 => ?_)
    · show nb_Y_tellCookies_73 v1 v2 j m1 = _
      unfold nb_Y_tellCookies_73 ix ck
      rw [if_pos (by omega), f1 33 (by decide), if_pos j1, if_pos (by omega), if_pos (by omega), if_pos (by omega), if_pos (by omega)]
      congr 1
      funext m12
      rw [if_pos (by omega)]
    · show nb_Y_tellCookies_73 v1 v2 (m 33 v2) m1 = _
      unfold nb_Y_tellCookies_73 ix
      rw [if_pos (by omega), f1 33 (by decide), if_neg (by omega)]
  obtain ⟨f3, g3, s3⟩ := h3
  refine ev_bind (y_send (m := m3) (c := 61) (by omega) (by omega)) (fun m4 h4 => ?_)
  obtain ⟨f4, g4, s4⟩ := h4
  have f34 := f3.trans f4
  refine ev_bind (P := fun m' => FY [36, 37] m4 m' ∧ m' 37 0 = m4 37 0 + m 34 v2 ∧ ys m' 36 37 = ys m4 36 37 ++ tbV 31 34 m v2) ?_ (fun m5 h5 => ?_)
  · unfold NL_Y_tellCookies_115
    have e31 : sg (m4 31) (24 * v2 + 16) (m 34 v2).toNat = tbV 31 34 m v2 := by unfold tbV; rw [f34 31 (by decide)]
    rw [← e31]
    refine y_sends (D := 31) (a := 24 * v2 + 16) (K := m 34 v2) (by decide) p3 (by omega) (fun c hc => by rw [e31] at hc; have := q3.bt c hc; unfold isBt at this; omega) (fun j m1 f1 j0 j1 => ?_) (fun m1 f1 => ?_)
    · show nb_Y_tellCookies_115 v1 v2 j m1 = _
      unfold nb_Y_tellCookies_115 ix ck
      rw [if_pos (by omega), f1 34 (by decide), f34 34 (by decide), if_pos j1, if_pos (by omega), if_pos (by omega), if_pos (by omega), if_pos (by omega)]
      congr 1
      funext m12
      rw [if_pos (by omega)]
    · show nb_Y_tellCookies_115 v1 v2 (m 34 v2) m1 = _
      unfold nb_Y_tellCookies_115 ix
      rw [if_pos (by omega), f1 34 (by decide), f34 34 (by decide), if_neg (by omega)]
  obtain ⟨f5, g5, s5⟩ := h5
  refine ev_ck (by omega) (ev_ok ⟨m5, rfl, f34.trans f5, by omega, by omega, ?_⟩)
  rw [s5, s4, s3, List.append_assoc, List.append_assoc]
theorem y_tellC (h : TRs 25 31 32 33 34 n m (m 30 0)) (hR : RA m 4 s ss q mk) (hW : WFA s ss q mk) : ev (N_Y_tellCookies m) (fun m' => FY [36, 37] m m' ∧ (0 ≤ m' 37 0 ∧ m' 37 0 ≤ 400) ∧ ys m' 36 37 = ckA m s (m 30 0).toNat) := by
  have hs := hW.nm
  have hk := h.2.1
  have hk0 := h.1
  unfold N_Y_tellCookies
  refine ev_st ?_
  generalize hm1 : yw m 37 0 0 = m1
  have f1 : FY [36, 37] m m1 := fun g hg => by
    simp only [List.mem_cons, List.not_mem_nil, or_false, not_or] at hg
    rw [← hm1]; exact yw_nF hg.2
  have hR1 : RA m1 4 s ss q mk := by unfold RA at *; rw [f1 6 (by decide), f1 7 (by decide), f1 8 (by decide)]; exact hR
  have hsite : sg (m 6) 602 s.length = s := hR.site
  rw [y_siteEnd hR1 hW ⟨by decide, by decide⟩]
  simp only [Option.bind_some]
  have c1 := hs.2.1
  refine ev_ck (by omega) ?_
  rw [show 2 + (s.length : Int) - 2 = (s.length : Int) by omega]
  refine ev_bind (P := fun m' => FY [36, 37] m m' ∧ (0 ≤ m' 37 0 ∧ m' 37 0 ≤ 400) ∧ ys m' 36 37 = ckA m s (m 30 0).toNat) ?_ (fun m' hm' => ev_ok hm')
  unfold NL_Y_tellCookies_15
  have c1 := hs.2.1
  refine ev_it (fun t : Int × YS => (0 ≤ t.1 ∧ t.1 ≤ m 30 0) ∧ FY [36, 37] m t.2 ∧ 0 ≤ t.2 37 0 ∧ ys t.2 36 37 = ckA m s t.1.toNat) (fun t => m 30 0 - t.1) (fun t ht => ?_) ⟨⟨Int.le_refl _, hk0⟩, f1, by show 0 ≤ m1 37 0; rw [← hm1, yw_eq]; decide, by show ys m1 36 37 = []; rw [← hm1]; unfold ys; rw [yw_eq]; rfl⟩
  obtain ⟨c, m2⟩ := t
  obtain ⟨g1, g2, g3, g4⟩ := ht
  simp only at g1 g2 g3 g4
  show ev (nb_Y_tellCookies_15 (s.length : Int) c m2) _
  have hlen := (ckA_len (s := s) h c.toNat (by omega)).1
  have h37 : m2 37 0 = ((ckA m s c.toNat).length : Int) := by rw [← g4]; unfold ys; rw [sg_len]; omega
  unfold nb_Y_tellCookies_15
  rw [g2 30 (by decide), g2 32 (by decide)]
  refine ev_if (fun hlt => ?_) (fun hge => ev_inr ⟨g2, ⟨g3, by omega⟩, by rw [g4, show c = m 30 0 by omega]⟩)
  obtain ⟨⟨p1, p2, p3⟩, ⟨q1, q2, q3⟩, _⟩ := h.2.2 c g1.1 hlt
  have l1 : ((tbS 31 32 m c).length : Int) = m 32 c := sg_lenI p1
  have eS : ckA m s (c + 1).toNat = if tbS 31 32 m c = s then (if ckA m s c.toNat = [] then [] else ckA m s c.toNat ++ [59]) ++ (tbM 31 33 m c ++ ([61] ++ tbV 31 34 m c)) else ckA m s c.toNat := by
    rw [show (c + 1).toNat = c.toNat + 1 by omega]
    show (if tbS 31 32 m (c.toNat : Int) = s then (if ckA m s c.toNat = [] then [] else ckA m s c.toNat ++ [59]) ++ (tbM 31 33 m (c.toNat : Int) ++ ([61] ++ tbV 31 34 m (c.toNat : Int))) else ckA m s c.toNat) = _
    rw [show ((c.toNat : Nat) : Int) = c by omega]
  have skip : tbS 31 32 m c ≠ s → ev (ck (c + 1) (some (Sum.inl (c + 1, m2)))) (lp (fun t : Int × YS => (0 ≤ t.1 ∧ t.1 ≤ m 30 0) ∧ FY [36, 37] m t.2 ∧ 0 ≤ t.2 37 0 ∧ ys t.2 36 37 = ckA m s t.1.toNat) (fun t => m 30 0 - t.1) (c, m2) (fun m' => FY [36, 37] m m' ∧ (0 ≤ m' 37 0 ∧ m' 37 0 ≤ 400) ∧ ys m' 36 37 = ckA m s (m 30 0).toNat)) := fun hne => ev_ck (by omega) (ev_inl ⟨⟨by show 0 ≤ c + 1 ∧ c + 1 ≤ m 30 0; omega, g2, g3, by show ys m2 36 37 = ckA m s (c + 1).toNat; rw [eS, if_neg hne]; exact g4⟩, by show m 30 0 - (c + 1) < m 30 0 - c; omega, by show 0 ≤ m 30 0 - c; omega⟩)
  refine ev_ix (by omega) (ev_if (fun he => ?_) (fun hne => skip (fun z => hne (by rw [← l1, z]))))
  refine ev_ck (by omega) (ev_bz (ys_same (m := m2) (f := 31) (f2 := 6) (i := 24 * c) (j := 602) (k := (s.length : Int)) (by omega) (by omega) (by show _ ≤ (480 : Int); omega) (by show _ ≤ (9900 : Int); omega) (by omega) (by omega)) (fun hp => ?_) (fun hp => ?_))
  · rw [if_neg (by decide)]
    rw [g2 31 (by decide), g2 6 (by decide), Int.toNat_natCast, hsite] at hp
    have hp1 : tbS 31 32 m c = s := by unfold tbS; rw [he, Int.toNat_natCast]; exact hp
    rw [if_pos hp1] at eS
    have fin : ∀ m3, FY [36, 37] m m3 → 0 ≤ m3 37 0 → m3 37 0 ≤ m2 37 0 + 1 → ys m3 36 37 = (if ckA m s c.toNat = [] then [] else ckA m s c.toNat ++ [59]) → ev (nk_Y_tellCookies_71 (s.length : Int) c m3) (lp (fun t : Int × YS => (0 ≤ t.1 ∧ t.1 ≤ m 30 0) ∧ FY [36, 37] m t.2 ∧ 0 ≤ t.2 37 0 ∧ ys t.2 36 37 = ckA m s t.1.toNat) (fun t => m 30 0 - t.1) (c, m2) (fun m' => FY [36, 37] m m' ∧ (0 ≤ m' 37 0 ∧ m' 37 0 ≤ 400) ∧ ys m' 36 37 = ckA m s (m 30 0).toNat)) := fun m3 x1 x2 x3 x4 => by
      have hT3 : TRs 25 31 32 33 34 n m3 (m 30 0) := h.cg rfl (x1 31 (by decide)) (x1 32 (by decide)) (x1 33 (by decide)) (x1 34 (by decide))
      obtain ⟨r, er, m4, rfl, y1, y2, y3, y4⟩ := y_tell71 (v1 := (s.length : Int)) hT3 ⟨g1.1, hlt⟩ (by omega)
      rw [er]
      refine ev_inl ⟨⟨by show 0 ≤ c + 1 ∧ c + 1 ≤ m 30 0; omega, x1.trans y1, y2, ?_⟩, by show m 30 0 - (c + 1) < m 30 0 - c; omega, by show 0 ≤ m 30 0 - c; omega⟩
      show ys m4 36 37 = ckA m s (c + 1).toNat
      rw [eS, y4, x4]
      unfold tbM tbV
      rw [x1 31 (by decide), x1 33 (by decide), x1 34 (by decide)]
    refine ev_if (fun hpos => ev_bind (y_send (m := m2) (c := 59) (by omega) (by omega)) (fun m3 h3 => ?_)) (fun hz => ?_)
    · refine fin m3 (g2.trans h3.1) (by have := h3.2.1; omega) (by have := h3.2.1; omega) ?_
      rw [h3.2.2, g4, if_neg (fun z => by rw [z] at h37; have : m2 37 0 = 0 := h37; omega)]
    · have : ckA m s c.toNat = [] := by rw [← g4]; exact (ys_nil g3).mpr (by omega)
      refine fin m2 g2 g3 (by omega) ?_
      rw [g4, this, if_pos rfl]
  · rw [if_pos rfl]
    refine skip (fun z => hp ?_)
    rw [g2 31 (by decide), g2 6 (by decide), Int.toNat_natCast, hsite]
    have := z; unfold tbS at this; rw [he, Int.toNat_natCast] at this
    exact this
end J2
