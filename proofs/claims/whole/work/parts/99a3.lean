/-! TEXTS: the class's readers -/
def okS (q : Nat) (s : List Int) : Prop := ∃ bs, ab_sbt q = some bs ∧ bs.map (fun b => (b &&& 255).toInt) = s
theorem okS_N {q : Nat} {s : List Int} (h : okS q s) : sN q = some (s.length : Int) := by
  obtain ⟨bs, h1, h2⟩ := h
  unfold sN; rw [h1, ← h2, List.length_map]; rfl
theorem okS_C {q : Nat} {s : List Int} (h : okS q s) {i : Int} (hi : 0 ≤ i ∧ i < s.length) : sC q i = some (s.getD i.toNat 0) := by
  obtain ⟨bs, h1, h2⟩ := h
  have hl : bs.length = s.length := by rw [← h2, List.length_map]
  unfold sC; rw [h1]
  show (if 0 ≤ i ∧ i < (bs.length : Int) then _ else none) = _
  rw [if_pos (by omega), ← h2]
  simp [show i.toNat < bs.length by omega]
theorem okS_le {q : Nat} {s : List Int} (h : okS q s) : s.length ≤ 200 := by
  obtain ⟨bs, h1, h2⟩ := h
  rw [← h2, List.length_map]
  unfold ab_sbt at h1
  split at h1
  · exact sbl_len bs (List.mem_of_getElem? h1)
  · cases h1
theorem drop_at {s : List Int} {i : Int} (h : 0 ≤ i ∧ i < s.length) : s.drop i.toNat = s.getD i.toNat 0 :: s.drop (i + 1).toNat := by
  rw [show (i + 1).toNat = i.toNat + 1 by omega, List.drop_eq_getElem_cons (show i.toNat < s.length by omega)]
  simp [show i.toNat < s.length by omega]
theorem drop_end {s : List Int} {i : Int} (h : ¬ i < s.length) : s.drop i.toNat = [] := List.drop_eq_nil_of_le (by omega)
theorem mtR_sg {g : Int → Int} {to : Int} : ∀ (s : List Int) (i : Int), i + s.length = to → (mtR s g i to ↔ sg g i (to - i).toNat = s) := by
  intro s
  induction s with
  | nil => intro i h; rw [show (to - i).toNat = 0 by simp at h; omega]; exact ⟨fun _ => rfl, fun _ => trivial⟩
  | cons c s ih =>
    intro i h
    rw [List.length_cons] at h
    rw [show (to - i).toNat = (to - (i + 1)).toNat + 1 by omega]
    have := ih (i + 1) (by omega)
    show (i < to ∧ g i = c ∧ mtR s g (i + 1) to) ↔ (g i :: sg g (i + 1) _ = c :: s)
    rw [this]
    constructor
    · intro h1; rw [h1.2.1, h1.2.2]
    · intro h1; have := List.cons.inj h1; exact ⟨by omega, this.1, this.2⟩
/-- which of a row of words the text is -/
def wpF : List (List Int) → List Int → Int → Int
  | [], _, _ => -1
  | w :: r, t, k => if t = w then k else wpF r t (k + 1)
def wpS (g : Int → Int) (fr to : Int) : List Int → Int → Int → Int → Int
  | [], r, z, a => if z ≠ 0 ∧ a = to then r else -1
  | c :: s, r, z, a => if c = 32 then (if z ≠ 0 ∧ a = to then r else wpS g fr to s (r + 1) 1 fr) else wpS g fr to s r (if z ≠ 0 ∧ a < to ∧ g a = c then 1 else 0) (a + 1)
def joinW : List (List Int) → List Int
  | [] => []
  | [w] => w
  | w :: r => w ++ 32 :: joinW r
theorem wpS_n {g : Int → Int} {fr to r z a : Int} : wpS g fr to [] r z a = if z ≠ 0 ∧ a = to then r else -1 := rfl
theorem wpS_c {g : Int → Int} {fr to c r z a : Int} {s : List Int} : wpS g fr to (c :: s) r z a = if c = 32 then (if z ≠ 0 ∧ a = to then r else wpS g fr to s (r + 1) 1 fr) else wpS g fr to s r (if z ≠ 0 ∧ a < to ∧ g a = c then 1 else 0) (a + 1) := rfl
theorem wpS_0 {g : Int → Int} {fr to : Int} : ∀ (w s : List Int) (r a : Int), (∀ c ∈ w, c ≠ 32) → wpS g fr to (w ++ s) r 0 a = wpS g fr to s r 0 (a + w.length) := by
  intro w
  induction w with
  | nil => intro s r a _; simp
  | cons c w ih =>
    intro s r a h
    show wpS g fr to (c :: (w ++ s)) r 0 a = _
    rw [wpS_c, if_neg (h c List.mem_cons_self), if_neg (by simp), ih s r (a + 1) (fun x hx => h x (List.mem_cons_of_mem _ hx)), List.length_cons, show a + 1 + (w.length : Int) = a + ((w.length + 1 : Nat) : Int) by omega]
theorem wpS_1 {g : Int → Int} {fr to : Int} : ∀ (w s : List Int) (r a : Int), (∀ c ∈ w, c ≠ 32) → (mtR w g a to → wpS g fr to (w ++ s) r 1 a = wpS g fr to s r 1 (a + w.length)) ∧ (¬ mtR w g a to → wpS g fr to (w ++ s) r 1 a = wpS g fr to s r 0 (a + w.length)) := by
  intro w
  induction w with
  | nil => intro s r a _; exact ⟨fun _ => by simp, fun h => absurd trivial h⟩
  | cons c w ih =>
    intro s r a h
    have h1 := ih s r (a + 1) (fun x hx => h x (List.mem_cons_of_mem _ hx))
    have e : a + 1 + (w.length : Int) = a + (((c :: w).length : Nat) : Int) := by rw [List.length_cons]; omega
    rw [e] at h1
    have u : ∀ z, wpS g fr to ((c :: w) ++ s) r z a = wpS g fr to (w ++ s) r (if z ≠ 0 ∧ a < to ∧ g a = c then 1 else 0) (a + 1) := fun z => by
      show wpS g fr to (c :: (w ++ s)) r z a = _
      rw [wpS_c, if_neg (h c List.mem_cons_self)]
    refine ⟨fun hm => ?_, fun hm => ?_⟩
    · rw [u, if_pos ⟨by decide, hm.1, hm.2.1⟩]; exact h1.1 hm.2.2
    · rw [u]
      by_cases hc : a < to ∧ g a = c
      · rw [if_pos ⟨by decide, hc⟩]; exact h1.2 (fun z => hm ⟨hc.1, hc.2, z⟩)
      · rw [if_neg (fun z => hc z.2), wpS_0 _ _ _ _ (fun x hx => h x (List.mem_cons_of_mem _ hx)), e]
theorem wpS_F {g : Int → Int} {fr to : Int} (hf : fr ≤ to) : ∀ (ws : List (List Int)) (r : Int), ws ≠ [] → (∀ w ∈ ws, ∀ c ∈ w, c ≠ 32) → wpS g fr to (joinW ws) r 1 fr = wpF ws (sg g fr (to - fr).toNat) r := by
  intro ws
  have fin : ∀ (w : List Int), sg g fr (to - fr).toNat = w ↔ (mtR w g fr to ∧ fr + w.length = to) := fun w => by
    constructor
    · intro h
      have hl : fr + w.length = to := by rw [← h, sg_len]; omega
      exact ⟨(mtR_sg w fr hl).mpr h, hl⟩
    · intro z; exact (mtR_sg w fr z.2).mp z.1
  induction ws with
  | nil => intro r h; exact absurd rfl h
  | cons w ws ih =>
    intro r _ hw
    have hw1 := hw w List.mem_cons_self
    unfold wpF
    cases ws with
    | nil =>
      show wpS g fr to w r 1 fr = _
      have h1 := wpS_1 (g := g) (fr := fr) (to := to) w [] r fr hw1
      rw [List.append_nil] at h1
      by_cases hm : mtR w g fr to
      · rw [h1.1 hm, wpS_n]
        by_cases he : fr + (w.length : Int) = to
        · rw [if_pos ⟨by decide, he⟩, if_pos ((fin w).mpr ⟨hm, he⟩)]
        · rw [if_neg (fun z => he z.2), if_neg (fun z => he ((fin w).mp z).2)]; rfl
      · rw [h1.2 hm, if_neg (fun z => hm ((fin w).mp z).1), wpS_n, if_neg (by simp)]; rfl
    | cons w2 ws2 =>
      have h2 := ih (r + 1) (by simp) (fun x hx => hw x (List.mem_cons_of_mem _ hx))
      show wpS g fr to (w ++ 32 :: joinW (w2 :: ws2)) r 1 fr = _
      have h1 := wpS_1 (g := g) (fr := fr) (to := to) w (32 :: joinW (w2 :: ws2)) r fr hw1
      by_cases hm : mtR w g fr to
      · rw [h1.1 hm, wpS_c, if_pos rfl]
        by_cases he : fr + (w.length : Int) = to
        · rw [if_pos ⟨by decide, he⟩, if_pos ((fin w).mpr ⟨hm, he⟩)]
        · rw [if_neg (fun z => he z.2), if_neg (fun z => he ((fin w).mp z).2)]; exact h2
      · rw [h1.2 hm, if_neg (fun z => hm ((fin w).mp z).1), wpS_c, if_pos rfl, if_neg (by simp)]; exact h2
section T3
variable {m : YS} {n : NS} {g : Int → Int} {a l i to c : Int} {q : Nat} {s : List Int}
theorem cs_stands (ht : tx n a g l) (hs : okS q s) (hl : to ≤ l) (h0 : 0 ≤ i) (hto : 0 ≤ to ∧ to ≤ 100000) (hi : i ≤ 100000) (hne : s ≠ []) : ev (N_Bytes_stands q a i to n) (bz (mtR s g i to)) := by
  have hz := okS_le hs
  have hlen : mtR s g i to → i + s.length ≤ to := by
    have : ∀ (s : List Int) (i : Int), s ≠ [] → mtR s g i to → i + s.length ≤ to := by
      intro s
      induction s with
      | nil => intro i h; exact absurd rfl h
      | cons c s ih =>
        intro i _ hm
        rw [List.length_cons]
        cases s with
        | nil => have := hm.1; simp; omega
        | cons d s => have := ih (i + 1) (by simp) hm.2.2; omega
    exact this s i hne
  unfold N_Bytes_stands
  refine ev_eq (okS_N hs) ?_
  (repeat' (first | (with_reducible apply ev_z0) | (with_reducible apply ev_z1) | (with_reducible apply ev_ck; focus omega) | (with_reducible apply ev_ckL; focus omega) | (with_reducible apply ev_ix; focus omega) | (with_reducible apply ev_cz; focus omega) | (with_reducible apply ev_cb; focus omega) | (with_reducible apply ev_dx; focus omega) | (with_reducible apply ev_nn; focus omega) | (with_reducible apply ev_ty; focus omega) | (with_reducible apply ev_cd; focus omega) | (with_reducible apply ev_or8; focus omega) | (with_reducible apply ev_sh5; focus omega) | (with_reducible apply ev_sh6; focus omega) | (with_reducible apply ev_st) | (with_reducible refine ev_if (fun _ => ?_) (fun _ => ?_))))
  · exact ev_0 (fun z => by have := hlen z; omega)
  · unfold NL_Bytes_stands_15
    refine ev_bs (P := fun _ => ¬ mtR s g i to) (R := fun _ => mtR s g i to) ?_ (fun v h => ev_0 h) (fun v h => ev_1 h)
    refine ev_it (fun k : Int => 0 ≤ k ∧ k ≤ s.length ∧ (mtR s g i to ↔ mtR (s.drop k.toNat) g (i + k) to)) (fun k => s.length - k) (fun k hk => ?_) ⟨Int.le_refl _, by omega, by rw [show i + (0 : Int) = i by omega]; exact Iff.rfl⟩
    obtain ⟨h1, h2, h3⟩ := hk
    unfold nb_Bytes_stands_15
    refine ev_eq (okS_N hs) ?_
    refine ev_if (fun hlt => ?_) (fun hge => ?_)
    · rw [drop_at ⟨h1, hlt⟩] at h3
      (repeat' (first | (with_reducible apply ev_z0) | (with_reducible apply ev_z1) | (with_reducible refine ev_tx ht ⟨by omega, by omega⟩ (fun _ => ?_)) | (with_reducible refine ev_eq (okS_C hs ⟨h1, hlt⟩) ?_) | (with_reducible apply ev_ck; focus omega) | (with_reducible apply ev_ckL; focus omega) | (with_reducible apply ev_ix; focus omega) | (with_reducible apply ev_cz; focus omega) | (with_reducible apply ev_cb; focus omega) | (with_reducible apply ev_dx; focus omega) | (with_reducible apply ev_nn; focus omega) | (with_reducible apply ev_ty; focus omega) | (with_reducible apply ev_cd; focus omega) | (with_reducible apply ev_or8; focus omega) | (with_reducible apply ev_sh5; focus omega) | (with_reducible apply ev_sh6; focus omega) | (with_reducible apply ev_st) | (with_reducible refine ev_if (fun _ => ?_) (fun _ => ?_))))
      · rename_i hg he
        exact ev_inl ⟨⟨by omega, by omega, h3.trans ⟨fun z => by rw [show i + (k + 1) = i + k + 1 by omega]; exact z.2.2, fun z => ⟨by omega, by rw [← he, hg], by rw [show i + (k + 1) = i + k + 1 by omega] at z; exact z⟩⟩⟩, by omega, by omega⟩
      · rename_i hg he
        exact ev_inr (fun z => he (by rw [hg]; exact (h3.mp z).2.1))
    · rw [drop_end hge] at h3
      exact ev_inr (h3.mpr trivial)
theorem cs_wordPlace {ws : List (List Int)} (ht : tx n a g l) (hs : okS q (joinW ws)) (hws : ws ≠ []) (hw : ∀ w ∈ ws, ∀ c ∈ w, c ≠ 32) (hl : to ≤ l) (h0 : 0 ≤ i) (hit : i ≤ to) (hto : to ≤ 100000) : N_Bytes_wordPlace q a i to n = some (wpF ws (sg g i (to - i).toNat) 0) := by
  have hz := okS_le hs
  rw [← wpS_F hit ws 0 hws hw]
  generalize joinW ws = s at *
  apply eq_of_ev
  unfold N_Bytes_wordPlace NL_Bytes_wordPlace_12
  refine ev_bs (P := fun r : Int => r = wpS g i to s 0 1 i) (R := fun r : Int × Int × Int => (if r.2.1 ≠ 0 ∧ r.2.2 = to then r.1 else -1) = wpS g i to s 0 1 i) ?_ (fun v h => ev_ok h) (fun v h => ?_)
  · refine ev_it (fun z : Int × Int × Int × Int => 0 ≤ z.2.2.2 ∧ z.2.2.2 ≤ s.length ∧ 0 ≤ z.1 ∧ z.1 ≤ z.2.2.2 ∧ i ≤ z.2.2.1 ∧ z.2.2.1 ≤ i + z.2.2.2 ∧ wpS g i to (s.drop z.2.2.2.toNat) z.1 z.2.1 z.2.2.1 = wpS g i to s 0 1 i) (fun z => s.length - z.2.2.2) (fun z hz => ?_) ⟨Int.le_refl _, by show (0 : Int) ≤ _; omega, Int.le_refl _, Int.le_refl _, Int.le_refl _, by show i ≤ i + 0; omega, rfl⟩
    obtain ⟨r, e, t, k⟩ := z
    obtain ⟨h1, h2, h3, h4, h5, h6, h7⟩ := hz
    simp only at h1 h2 h3 h4 h5 h6 h7
    show ev (nb_Bytes_wordPlace_12 q a i to r e t k n) _
    unfold nb_Bytes_wordPlace_12
    refine ev_eq (okS_N hs) ?_
    refine ev_if (fun hlt => ?_) (fun hge => ?_)
    · have hlt : k < s.length := hlt
      rw [drop_at ⟨h1, hlt⟩, wpS_c] at h7
      refine ev_eq (okS_C hs ⟨h1, hlt⟩) ?_
      generalize s.getD k.toNat 0 = d at *
      have next : ∀ r' z' t', 0 ≤ r' → r' ≤ k + 1 → i ≤ t' → t' ≤ i + (k + 1) → wpS g i to (s.drop (k + 1).toNat) r' z' t' = wpS g i to s 0 1 i → ev (some (Sum.inl (r', z', t', k + 1))) (lp (fun z : Int × Int × Int × Int => 0 ≤ z.2.2.2 ∧ z.2.2.2 ≤ s.length ∧ 0 ≤ z.1 ∧ z.1 ≤ z.2.2.2 ∧ i ≤ z.2.2.1 ∧ z.2.2.1 ≤ i + z.2.2.2 ∧ wpS g i to (s.drop z.2.2.2.toNat) z.1 z.2.1 z.2.2.1 = wpS g i to s 0 1 i) (fun z => (s.length : Int) - z.2.2.2) (r, e, t, k) (sp (fun r : Int => r = wpS g i to s 0 1 i) (fun r : Int × Int × Int => (if r.2.1 ≠ 0 ∧ r.2.2 = to then r.1 else -1) = wpS g i to s 0 1 i))) := fun r' z' t' a1 a2 a3 a4 a5 =>
        ev_inl ⟨⟨by show 0 ≤ k + 1; omega, by show k + 1 ≤ _; omega, a1, a2, a3, a4, a5⟩, by show (s.length : Int) - (k + 1) < s.length - k; omega, by show 0 ≤ (s.length : Int) - k; omega⟩
      refine ev_if (fun hd => ?_) (fun hd => ?_)
      · rw [if_pos hd] at h7
        refine ev_if (fun he => ?_) (fun he => ?_)
        · rw [if_neg (fun z => z.1 he)] at h7
          unfold nk_Bytes_wordPlace_83
          exact ev_ck (by omega) (ev_ck (by omega) (next _ _ _ (by omega) (by omega) (by omega) (by omega) h7))
        · refine ev_if (fun hx => ?_) (fun hx => ?_)
          · rw [if_pos ⟨he, hx⟩] at h7; exact ev_inr h7
          · rw [if_neg (fun z => hx z.2)] at h7
            unfold nk_Bytes_wordPlace_83
            exact ev_ck (by omega) (ev_ck (by omega) (next _ _ _ (by omega) (by omega) (by omega) (by omega) h7))
      · rw [if_neg hd] at h7
        refine ev_if (fun he => ?_) (fun he => ?_)
        · rw [if_neg (fun z => z.1 he)] at h7
          unfold nk_Bytes_wordPlace_60 nk_Bytes_wordPlace_61
          exact ev_ck (by omega) (ev_ck (by omega) (next _ _ _ (by omega) (by omega) (by omega) (by omega) h7))
        · refine ev_if (fun hx => ?_) (fun hx => ?_)
          · refine ev_tx ht ⟨by omega, by omega⟩ (fun hg => ?_)
            refine ev_if (fun hy => ?_) (fun hy => ?_)
            · rw [if_pos ⟨he, hx, by rw [← hg]; exact hy⟩] at h7
              unfold nk_Bytes_wordPlace_61
              exact ev_ck (by omega) (ev_ck (by omega) (next _ _ _ (by omega) (by omega) (by omega) (by omega) h7))
            · rw [if_neg (fun z => hy (by rw [hg]; exact z.2.2))] at h7
              unfold nk_Bytes_wordPlace_60 nk_Bytes_wordPlace_61
              exact ev_ck (by omega) (ev_ck (by omega) (next _ _ _ (by omega) (by omega) (by omega) (by omega) h7))
          · rw [if_neg (fun z => hx z.2.1)] at h7
            unfold nk_Bytes_wordPlace_60 nk_Bytes_wordPlace_61
            exact ev_ck (by omega) (ev_ck (by omega) (next _ _ _ (by omega) (by omega) (by omega) (by omega) h7))
    · have hge : ¬ k < s.length := hge
      rw [drop_end hge, wpS_n] at h7
      exact ev_inr h7
  · obtain ⟨r, e, t⟩ := v
    simp only at h
    show ev (u3 _ (r, e, t)) _
    show ev (if e = 0 then some (-1) else if t = to then some r else some (-1)) _
    (repeat' (first | (with_reducible apply ev_z0) | (with_reducible apply ev_z1) | (with_reducible apply ev_ck; focus omega) | (with_reducible apply ev_ckL; focus omega) | (with_reducible apply ev_ix; focus omega) | (with_reducible apply ev_cz; focus omega) | (with_reducible apply ev_cb; focus omega) | (with_reducible apply ev_dx; focus omega) | (with_reducible apply ev_nn; focus omega) | (with_reducible apply ev_ty; focus omega) | (with_reducible apply ev_cd; focus omega) | (with_reducible apply ev_or8; focus omega) | (with_reducible apply ev_sh5; focus omega) | (with_reducible apply ev_sh6; focus omega) | (with_reducible apply ev_st) | (with_reducible refine ev_if (fun _ => ?_) (fun _ => ?_))))
    · rename_i he
      rw [if_neg (fun z => z.1 he)] at h; exact ev_ok h
    · rename_i he hx
      rw [if_pos ⟨he, hx⟩] at h; exact ev_ok h
    · rename_i he hx
      rw [if_neg (fun z => hx z.2)] at h; exact ev_ok h
end T3
