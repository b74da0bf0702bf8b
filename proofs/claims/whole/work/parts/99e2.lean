/-! AN ADDRESS OF THE CLASS: its slots and its text -/
def aw (n : NS) (a T : Int) (s t : Int → Int) : NS := nwA (nwA n 99 a s) 99 T t
def udz (s : Int → Int) (k v : Int) : Int → Int := fun j => if j = k then v else s j
theorem udz_e {s : Int → Int} {k v : Int} : udz s k v k = v := if_pos rfl
theorem udz_n {s : Int → Int} {k v j : Int} (h : j ≠ k) : udz s k v j = s j := if_neg h
section E2a
variable {n : NS} {a T : Int} {s t : Int → Int}
theorem aw_K {K : Nat} (h : K ≠ 99) : aw n a T s t K = n K := by unfold aw; rw [nwA_nK h, nwA_nK h]
theorem aw_a (h : a ≠ T) : aw n a T s t 99 a = s := by unfold aw; rw [nwA_ni h, nwA_eq]
theorem aw_T : aw n a T s t 99 T = t := by unfold aw; rw [nwA_eq]
theorem aw_q {q : Int} (h1 : q ≠ a) (h2 : q ≠ T) : aw n a T s t 99 q = n 99 q := by unfold aw; rw [nwA_ni h2, nwA_ni h1]
theorem nwA_nwA {K : Nat} {i : Int} {f h : Int → Int} : nwA (nwA n K i f) K i h = nwA n K i h := by
  funext K' i' j
  simp only [nwA]
  split <;> rfl
theorem nwA_sw {i i' : Int} {f h : Int → Int} (hne : i ≠ i') : nwA (nwA n 99 i f) 99 i' h = nwA (nwA n 99 i' h) 99 i f := by
  funext K j k
  simp only [nwA]
  by_cases h1 : K = 99 ∧ j = i'
  · have : ¬ (K = 99 ∧ j = i) := fun z => hne (by rw [← z.2, h1.2])
    rw [if_pos h1, if_neg this, if_pos h1]
  · rw [if_neg h1, if_neg h1]
theorem aw_nw {k v : Int} (h : a ≠ T) : nw (aw n a T s t) 99 a k v = aw n a T (udz s k v) t := by
  rw [nw_A]
  have : (fun j => if j = k then v else aw n a T s t 99 a j) = udz s k v := by rw [aw_a h]; rfl
  rw [this]
  unfold aw
  rw [nwA_sw (i := T) (i' := a) (Ne.symm h), nwA_nwA]
theorem aw_nT {f : Int → Int} : nwA (aw n a T s t) 99 T f = aw n a T s f := by unfold aw; rw [nwA_nwA]
theorem aw_nt {k v : Int} : nw (aw n a T s t) 99 T k v = aw n a T s (udz t k v) := by
  rw [nw_A]
  have : (fun j => if j = k then v else aw n a T s t 99 T j) = udz t k v := by rw [aw_T]; rfl
  rw [this, aw_nT]
theorem aw_id (hs : n 99 a = s) (ht : n 99 T = t) : aw n a T s t = n := by
  funext K j k
  unfold aw nwA
  try simp only
  by_cases h1 : K = 99 ∧ j = T
  · rw [if_pos h1, ← ht, h1.1, h1.2]
  · rw [if_neg h1]
    by_cases h2 : K = 99 ∧ j = a
    · rw [if_pos h2, ← hs, h2.1, h2.2]
    · rw [if_neg h2]
end E2a
/-- an address's cells are right -/
def AC (n : NS) (a T : Int) : Prop := (0 ≤ a ∧ a < n 90 0 0) ∧ n 92 0 a = 101 ∧ (0 ≤ T ∧ T < n 90 0 0) ∧ n 92 0 T = 1 ∧ n 93 0 T = 160
theorem AC.ne {n : NS} {a T : Int} (h : AC n a T) : a ≠ T := fun z => by
  have h1 := h.2.1
  have h2 := h.2.2.2.1
  rw [z, h2] at h1
  exact absurd h1 (by decide)
section E2
variable {α : Type} {Q : α → Prop} {n : NS} {a T d i to l lst c L : Int} {s t g : Int → Int} {K : List (List Int)}
theorem ev_tyA {x : Option α} (h : AC n a T) (k : ev x Q) : ev (ty (aw n a T s t) a 101 x) Q := ev_ty (by rw [aw_K (by decide)]; exact h.2.1) k
/-- a text that is not this address's own -/
theorem aw_tx (hd : tx n d g l) (h1 : d ≠ a) (h2 : d ≠ T) : tx (aw n a T s t) d g l := by
  refine ⟨by rw [aw_K (by decide)]; exact hd.1, by rw [aw_K (by decide)]; exact hd.2.1, fun j a b => by rw [aw_q h1 h2]; exact hd.2.2 j a b⟩
/-- what has been kept stands at the far end -/
def SGS (s t : Int → Int) (K : List (List Int)) (c : Int) : Prop := s 6 = (K.length : Int) ∧ s 7 = c ∧ s 5 = 160 - ((pth K).length : Int) ∧ K.length ≤ 6 ∧ (∀ x ∈ K, x.length ≤ 12) ∧ sg t (160 - ((pth K).length : Int)) (pth K).length = pth K
def KP (s s' t t' : Int → Int) : Prop := (s' 0 = s 0 ∧ s' 1 = s 1 ∧ s' 2 = s 2 ∧ s' 3 = s 3 ∧ s' 4 = s 4) ∧ ∀ j, j < 82 → t' j = t j
theorem KP.refl (s t : Int → Int) : KP s s t t := ⟨⟨rfl, rfl, rfl, rfl, rfl⟩, fun _ _ => rfl⟩
theorem KP.trans {s s' s'' t t' t'' : Int → Int} (h : KP s s' t t') (h' : KP s' s'' t' t'') : KP s s'' t t'' := ⟨⟨h'.1.1.trans h.1.1, h'.1.2.1.trans h.1.2.1, h'.1.2.2.1.trans h.1.2.2.1, h'.1.2.2.2.1.trans h.1.2.2.2.1, h'.1.2.2.2.2.trans h.1.2.2.2.2⟩, fun j hj => (h'.2 j hj).trans (h.2 j hj)⟩
theorem c_push (hA : AC n a T) (hd : tx n d g l) (h1 : d ≠ a) (h2 : d ≠ T) (hi : 0 ≤ i) (hL : 0 ≤ L ∧ L ≤ 12) (hl : i + L ≤ l) (hb : i ≤ 100000) (hS : SGS s t K c) (hs0 : s 0 = T) : ev (nk_Address_takeSegment_143 a d i L (aw n a T s t)) (fun r => ∃ s' t', r.2 = aw n a T s' t' ∧ KP s s' t t' ∧ ((r.1 = 0 ∧ K.length = 6) ∨ (r.1 = 1 ∧ K.length < 6 ∧ SGS s' t' (sg g i L.toNat :: K) c))) := by
  have hne := hA.ne
  obtain ⟨q1, q2, q3, q4, q5, q6⟩ := hS
  have hpl := pth_len K q5
  unfold nk_Address_takeSegment_143
  refine ev_tyA hA ?_
  rw [aw_a hne, q1]
  refine ev_if (fun h6 => ev_ok ⟨s, t, rfl, KP.refl _ _, .inl ⟨rfl, by omega⟩⟩) (fun h6 => ?_)
  refine ev_tyA hA (ev_ck (by omega) (ev_tyA hA (ev_st ?_)))
  rw [aw_nw hne]
  refine ev_tyA hA (ev_ck (by omega) ?_)
  rw [aw_a hne, udz_n (show (5 : Int) ≠ 6 by decide), q3]
  refine ev_ck (by omega) (ev_tyA hA (ev_st ?_))
  rw [aw_nw hne]
  generalize hs2 : udz (udz s 6 ((K.length : Int) + 1)) 5 (160 - ((pth K).length : Int) - (L + 1)) = s2
  have e0 : s2 0 = T := by rw [← hs2, udz_n (by decide), udz_n (by decide)]; exact hs0
  have e5 : s2 5 = 160 - ((pth K).length : Int) - (L + 1) := by rw [← hs2, udz_e]
  have e6 : s2 6 = (K.length : Int) + 1 := by rw [← hs2, udz_n (by decide), udz_e]
  have eo : ∀ j, j ≠ 5 → j ≠ 6 → s2 j = s j := fun j a b => by rw [← hs2, udz_n a, udz_n b]
  refine ev_tyA hA ?_
  rw [aw_a hne, e0, e5]
  refine ev_nn hA.2.2.1.1 (ev_tyA hA (ev_dx ⟨by rw [aw_K (by decide)]; exact hA.2.2.2.1, by omega, by rw [aw_K (by decide), hA.2.2.2.2]; omega⟩ (ev_st ?_)))
  rw [aw_nt]
  refine ev_tyA hA ?_
  rw [aw_a hne, e0, e5]
  have ht2 := aw_tx (s := s2) (t := udz t (160 - ((pth K).length : Int) - (L + 1)) 47) hd h1 h2
  refine ev_nn hA.2.2.1.1 (ev_tyA hA (ev_ck (by omega) (ev_g ⟨ht2.1, by rw [aw_K (by decide)]; exact hA.2.2.2.1, by omega, by have := ht2.2.1; omega, by rw [aw_K (by decide), hA.2.2.2.2]; omega⟩ (ev_st ?_))))
  rw [aw_T, aw_q h1 h2, aw_nT]
  refine ev_ok ⟨_, _, rfl, ⟨⟨eo 0 (by decide) (by decide), eo 1 (by decide) (by decide), eo 2 (by decide) (by decide), eo 3 (by decide) (by decide), eo 4 (by decide) (by decide)⟩, fun j hj => ?_⟩, .inr ⟨rfl, by omega, ?_, ?_, ?_, ?_, ?_, ?_⟩⟩
  · unfold cpf
    rw [if_neg (by omega), udz_n (by omega)]
  · rw [e6, List.length_cons]; omega
  · rw [eo 7 (by decide) (by decide)]; exact q2
  · rw [e5]
    show _ = 160 - (((47 :: sg g i L.toNat) ++ pth K).length : Int)
    rw [List.length_append, List.length_cons, sg_len]; omega
  · rw [List.length_cons]; omega
  · intro x hx
    rcases List.mem_cons.mp hx with z | z
    · rw [z, sg_len]; omega
    · exact q5 x z
  · have ep : pth (sg g i L.toNat :: K) = [47] ++ (sg g i L.toNat ++ pth K) := rfl
    have el : (pth (sg g i L.toNat :: K)).length = 1 + (L.toNat + (pth K).length) := by
      rw [ep, List.length_append, List.length_append, sg_len]; rfl
    rw [el, sg_app, sg_app, ep]
    have z0 : (160 : Int) - ((1 + (L.toNat + (pth K).length) : Nat) : Int) = 160 - ((pth K).length : Int) - (L + 1) := by omega
    rw [z0]
    congr 1
    · show [cpf _ _ _ _ _ _] = _
      unfold cpf
      rw [if_neg (by omega), udz_e]
    · congr 1
      · exact sg_cg _ _ _ (fun x hx => by
          unfold cpf
          rw [if_pos (by omega)]
          rw [show i + (160 - ((pth K).length : Int) - (L + 1) + ((1 : Nat) : Int) + (x : Int) - (160 - ((pth K).length : Int) - (L + 1) + 1)) = i + x by omega]
          exact hd.2.2 _ (by omega) (by omega))
      · rw [← q6]
        rw [show (sg t (160 - ((pth K).length : Int)) (pth K).length).length = (pth K).length from sg_len _ _ _]
        exact sg_cg _ _ _ (fun x hx => by
          unfold cpf
          rw [if_neg (by omega), udz_n (by omega)]
          congr 1; omega)
/-- one part is taken, the last one may stay though it is . or .. -/
def tkl (lst : Int) (x : List Int) (y : List (List Int) × Nat) : List (List Int) × Nat := if lst = 0 then tk x y else if x = [46] then ([] :: y.1, y.2) else if x = [46, 46] then ([] :: y.1, y.2 + 1) else tk x y
theorem sg_1 {g : Int → Int} {i : Int} {k : Nat} {c : Int} : sg g i k = [c] ↔ k = 1 ∧ g i = c := by
  constructor
  · intro h
    have hl := congrArg List.length h
    rw [sg_len] at hl
    have hl : k = 1 := hl
    subst hl
    exact ⟨rfl, by simpa [sg] using h⟩
  · intro h; obtain ⟨rfl, rfl⟩ := h; rfl
theorem sg_2 {g : Int → Int} {i : Int} {k : Nat} {c e : Int} : sg g i k = [c, e] ↔ k = 2 ∧ g i = c ∧ g (i + 1) = e := by
  constructor
  · intro h
    have hl := congrArg List.length h
    rw [sg_len] at hl
    have hl : k = 2 := hl
    subst hl
    exact ⟨rfl, by simpa [sg] using h⟩
  · intro h; obtain ⟨rfl, rfl, rfl⟩ := h; rfl
def TSQ (n : NS) (a T : Int) (s t : Int → Int) (x : List Int) (L lst : Int) (K : List (List Int)) (c : Nat) (r : Int × NS) : Prop := ∃ s' t', r.2 = aw n a T s' t' ∧ KP s s' t t' ∧ ((r.1 = 0 ∧ ((¬ wnt x ∧ 12 < L) ∨ 6 < (tkl lst x (K, c)).1.length)) ∨ (r.1 = 1 ∧ (¬ wnt x → L ≤ 12) ∧ SGS s' t' (tkl lst x (K, c)).1 (tkl lst x (K, c)).2))
theorem c_takeSeg {c : Nat} (hA : AC n a T) (hd : tx n d g l) (h1 : d ≠ a) (h2 : d ≠ T) (hi : 0 ≤ i) (hto : i ≤ to ∧ to ≤ l ∧ to ≤ 100000) (hS : SGS s t K c) (hcb : c ≤ 100000) (hs0 : s 0 = T) : ev (N_Address_takeSegment a d i to lst (aw n a T s t)) (TSQ n a T s t (sg g i (to - i).toNat) (to - i) lst K c) := by
  have hne := hA.ne
  have ht := aw_tx (s := s) (t := t) hd h1 h2
  generalize hx : sg g i (to - i).toNat = x
  have w1 : x = [46] ↔ to - i = 1 ∧ g i = 46 := by rw [← hx, sg_1]; constructor <;> intro z <;> exact ⟨by omega, z.2⟩
  have w2 : x = [46, 46] ↔ to - i = 2 ∧ g i = 46 ∧ g (i + 1) = 46 := by rw [← hx, sg_2]; constructor <;> intro z <;> exact ⟨by omega, z.2⟩
  -- a new one
  have push : ∀ (L : Int) (s1 : Int → Int) (c1 : Nat), 0 ≤ L → L ≤ 12 → i + L ≤ l → SGS s1 t K c1 → s1 0 = T → KP s s1 t t → ∀ y, sg g i L.toNat = y → tkl lst x (K, c) = (y :: K, c1) → (¬ wnt x → to - i ≤ 12) → ev (nk_Address_takeSegment_143 a d i L (aw n a T s1 t)) (TSQ n a T s t x (to - i) lst K c) := fun L s1 c1 b1 b2 b3 b4 b5 b6 y hy hk hw => by
    refine ev_mono (c_push hA hd h1 h2 hi ⟨b1, b2⟩ b3 (by omega) b4 b5) (fun r hr => ?_)
    obtain ⟨s', t', r1, r2, r3⟩ := hr
    rw [hy] at r3
    refine ⟨s', t', r1, b6.trans r2, ?_⟩
    rw [hk]
    rcases r3 with ⟨z1, z2⟩ | ⟨z1, z2, z3⟩
    · exact .inl ⟨z1, .inr (by rw [List.length_cons]; omega)⟩
    · exact .inr ⟨z1, hw, z3⟩
  have hS' := hS
  obtain ⟨q1, q2, q3, q4, q5, q6⟩ := hS'
  by_cases hH : x = [46]
  · obtain ⟨z1, z2⟩ := w1.mp hH
    unfold N_Address_takeSegment
    refine ev_ck (by omega) ?_
    rw [if_pos z1]
    refine ev_tx ht ⟨hi, by omega⟩ (fun he => ?_)
    rw [he, if_pos z2]
    unfold nk_Address_takeSegment_20
    refine ev_ck (by omega) ?_
    rw [if_neg (show ¬ to - i = 2 by omega)]
    unfold nk_Address_takeSegment_51 nk_Address_takeSegment_52
    rw [if_pos rfl]
    unfold nk_Address_takeSegment_69
    rw [if_neg (by decide)]
    unfold nk_Address_takeSegment_79
    refine ev_if (fun hl => ev_ok ⟨s, t, rfl, KP.refl _ _, .inr ⟨rfl, fun z => absurd (.inl hH) z, ?_⟩⟩) (fun hl => ?_)
    · unfold tkl tk; rw [if_pos hl, if_pos hH]; exact hS
    · unfold nk_Address_takeSegment_86
      rw [if_neg (by decide)]
      unfold nk_Address_takeSegment_96 nk_Address_takeSegment_103
      rw [if_neg (by decide), if_neg (by decide)]
      exact push 0 s c (by omega) (by omega) (by omega) hS hs0 (KP.refl _ _) [] rfl (by unfold tkl; rw [if_neg hl, if_pos hH]) (fun z => absurd (.inl hH) z)
  · by_cases hU : x = [46, 46]
    · obtain ⟨z1, z2, z3⟩ := w2.mp hU
      unfold N_Address_takeSegment
      refine ev_ck (by omega) ?_
      rw [if_neg (show ¬ to - i = 1 by omega)]
      unfold nk_Address_takeSegment_19 nk_Address_takeSegment_20
      refine ev_ck (by omega) ?_
      rw [if_pos z1]
      refine ev_tx ht ⟨hi, by omega⟩ (fun he => ?_)
      rw [he, if_pos z2]
      refine ev_ck (by omega) (ev_tx ht ⟨by omega, by omega⟩ (fun he => ?_))
      rw [he, if_pos z3]
      unfold nk_Address_takeSegment_52
      rw [if_neg (by decide)]
      refine ev_tyA hA ?_
      rw [aw_a hne, q2]
      refine ev_ck (by omega) (ev_tyA hA (ev_st ?_))
      rw [aw_nw hne]
      have hS1 : SGS (udz s 7 ((c : Int) + 1)) t K ((c + 1 : Nat) : Int) := ⟨by rw [udz_n (by decide)]; exact q1, by rw [udz_e]; omega, by rw [udz_n (by decide)]; exact q3, q4, q5, q6⟩
      have hK1 : KP s (udz s 7 ((c : Int) + 1)) t t := ⟨⟨udz_n (by decide), udz_n (by decide), udz_n (by decide), udz_n (by decide), udz_n (by decide)⟩, fun _ _ => rfl⟩
      unfold nk_Address_takeSegment_69
      rw [if_pos rfl, if_neg (by decide)]
      unfold nk_Address_takeSegment_79
      refine ev_if (fun hl => ev_ok ⟨_, t, rfl, hK1, .inr ⟨rfl, fun z => absurd (.inr hU) z, ?_⟩⟩) (fun hl => ?_)
      · unfold tkl tk; rw [if_pos hl, if_neg hH, if_pos hU]; exact hS1
      · unfold nk_Address_takeSegment_86
        rw [if_pos rfl, if_neg (by decide)]
        unfold nk_Address_takeSegment_96 nk_Address_takeSegment_103
        rw [if_neg (by decide), if_pos rfl, if_neg (by decide)]
        exact push 0 _ (c + 1) (by omega) (by omega) (by omega) hS1 (by rw [udz_n (by decide)]; exact hs0) hK1 [] rfl (by unfold tkl; rw [if_neg hl, if_neg hH, if_pos hU]) (fun z => absurd (.inr hU) z)
    · have hw : ¬ wnt x := fun z => by
        rcases z with z | z
        · exact hH z
        · exact hU z
      have htk : tkl lst x (K, c) = tk x (K, c) := by
        unfold tkl
        by_cases hl : lst = 0
        · rw [if_pos hl]
        · rw [if_neg hl, if_neg hH, if_neg hU]
      have core : ev (nk_Address_takeSegment_20 a d i to lst 0 (aw n a T s t)) (TSQ n a T s t x (to - i) lst K c) := by
        have core2 : ev (nk_Address_takeSegment_51 a d i to lst 0 (aw n a T s t)) (TSQ n a T s t x (to - i) lst K c) := by
          unfold nk_Address_takeSegment_51 nk_Address_takeSegment_52
          rw [if_pos rfl]
          unfold nk_Address_takeSegment_69
          rw [if_pos rfl, if_pos rfl]
          unfold nk_Address_takeSegment_86
          rw [if_pos rfl, if_pos rfl]
          refine ev_ck (by omega) ?_
          unfold nk_Address_takeSegment_103
          refine ev_if (fun h12 => ev_ok ⟨s, t, rfl, KP.refl _ _, .inl ⟨rfl, .inl ⟨hw, h12⟩⟩⟩) (fun h12 => ?_)
          rw [if_pos rfl, if_pos rfl]
          refine ev_tyA hA ?_
          rw [aw_a hne, q2]
          refine ev_if (fun hc => ev_tyA hA (ev_ck (by omega) (ev_tyA hA (ev_st ?_)))) (fun hc => ?_)
          · rw [aw_nw hne]
            refine ev_ok ⟨_, t, rfl, ⟨⟨udz_n (by decide), udz_n (by decide), udz_n (by decide), udz_n (by decide), udz_n (by decide)⟩, fun _ _ => rfl⟩, .inr ⟨rfl, fun _ => by omega, ?_⟩⟩
            rw [htk]
            unfold tk
            rw [if_neg hH, if_neg hU, if_pos (show 0 < c by omega)]
            exact ⟨by rw [udz_n (by decide)]; exact q1, by rw [udz_e]; show (c : Int) - 1 = ((c - 1 : Nat) : Int); omega, by rw [udz_n (by decide)]; exact q3, q4, q5, q6⟩
          · refine push (to - i) s c (by omega) (by omega) (by omega) hS hs0 (KP.refl _ _) x hx ?_ (fun _ => by omega)
            rw [htk]
            unfold tk
            rw [if_neg hH, if_neg hU, if_neg (show ¬ 0 < c by omega)]
        unfold nk_Address_takeSegment_20
        refine ev_ck (by omega) (ev_if (fun z1 => ev_tx ht ⟨hi, by omega⟩ (fun he => ?_)) (fun _ => core2))
        rw [he]
        refine ev_if (fun z2 => ev_ck (by omega) (ev_tx ht ⟨by omega, by omega⟩ (fun he' => ?_))) (fun _ => core2)
        rw [he']
        exact ev_if (fun z3 => absurd (w2.mpr ⟨z1, z2, z3⟩) hU) (fun _ => core2)
      unfold N_Address_takeSegment nk_Address_takeSegment_19
      refine ev_ck (by omega) (ev_if (fun z1 => ev_tx ht ⟨hi, by omega⟩ (fun he => ?_)) (fun _ => core))
      rw [he]
      exact ev_if (fun z2 => absurd (w1.mpr ⟨z1, z2⟩) hH) (fun _ => core)
end E2
