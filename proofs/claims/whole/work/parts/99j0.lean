/-! TABLES OF THREE NAMES (cookies, stores), in both -/
def tbS (D S : Nat) (m : YS) (c : Int) : List Int := sg (m D) (24 * c) (m S c).toNat
def tbM (D M : Nat) (m : YS) (c : Int) : List Int := sg (m D) (24 * c + 8) (m M c).toNat
def tbV (D V : Nat) (m : YS) (c : Int) : List Int := sg (m D) (24 * c + 16) (m V c).toNat
/-- a NAME -/
def okN (l : List Int) : Prop := 1 ≤ l.length ∧ l.length ≤ 8 ∧ ∀ c ∈ l, isNm c
theorem okN.bt {l : List Int} (h : okN l) : ∀ c ∈ l, isBt c := fun c hc => by have := h.2.2 c hc; unfold isNm at this; unfold isBt; omega
theorem WFA.nm {nm q mk : List Int} {ss : List (List Int)} (h : WFA nm ss q mk) : okN nm := h.1
def TR1 (K D S M V : Nat) (n : NS) (m : YS) (c : Int) : Prop :=
  (0 ≤ m S c ∧ 0 ≤ m M c ∧ 0 ≤ m V c) ∧ (okN (tbS D S m c) ∧ okN (tbM D M m c) ∧ okN (tbV D V m c)) ∧ n K 0 (3 * c) = pk (tbS D S m c) ∧ n K 0 (3 * c + 1) = pk (tbM D M m c) ∧ n K 0 (3 * c + 2) = pk (tbV D V m c)
def TRs (K D S M V : Nat) (n : NS) (m : YS) (k : Int) : Prop := 0 ≤ k ∧ k ≤ 20 ∧ ∀ c, 0 ≤ c → c < k → TR1 K D S M V n m c
/-- where a site's NAME stands; the end if nowhere -/
noncomputable def tbF (D S M : Nat) (m : YS) (k : Int) (s w : List Int) : Int := sc (fun c => ¬ (tbS D S m c = s ∧ tbM D M m c = w)) 0 k
section J0
variable {K D S M V : Nat} {n n' : NS} {m m' : YS} {k i x : Int} {s w v : List Int}
theorem tbF_b (h : 0 ≤ k) : 0 ≤ tbF D S M m k s w ∧ tbF D S M m k s w ≤ k := ⟨scx_ge _ _, scx_le h⟩
theorem sg_lenI {g : Int → Int} {i k : Int} (h : 0 ≤ k) : ((sg g i k.toNat).length : Int) = k := by rw [sg_len]; omega
theorem c_rowOf (h : TRs K D S M V n m k) (hs : okN s) (hw : okN w) : N_Net_rowOf K k (pk s) (pk w) n = some (tbF D S M m k s w) := by
  apply eq_of_ev
  unfold N_Net_rowOf NL_Net_rowOf_3
  refine ev_bs (P := fun r => r = tbF D S M m k s w) (R := fun _ => tbF D S M m k s w = k) ?_ (fun r hr => ev_ok hr) (fun r hr => ev_ok hr.symm)
  refine ev_it (fun j => 0 ≤ j ∧ j ≤ k ∧ ∀ c, 0 ≤ c → c < j → ¬ (tbS D S m c = s ∧ tbM D M m c = w)) (fun j => k - j) (fun j hj => ?_) ⟨Int.le_refl _, h.1, fun c a b => by omega⟩
  obtain ⟨g1, g2, g3⟩ := hj
  have hk := h.2.1
  show ev (nb_Net_rowOf_3 K k (pk s) (pk w) j n) _
  unfold nb_Net_rowOf_3
  refine ev_if (fun hlt => ?_) (fun hge => ev_inr (show tbF D S M m k s w = k from (scx_eq ⟨h.1, .inl (Int.le_refl _), fun c a b => g3 c a (by omega), fun z => by omega⟩).symm))
  obtain ⟨_, ⟨q1, q2, q3⟩, e1, e2, e3⟩ := h.2.2 j g1 hlt
  have next : ¬ (tbS D S m j = s ∧ tbM D M m j = w) → ev (ck (j + 1) (some (Sum.inl (j + 1)))) (lp (fun j => 0 ≤ j ∧ j ≤ k ∧ ∀ c, 0 ≤ c → c < j → ¬ (tbS D S m c = s ∧ tbM D M m c = w)) (fun j => k - j) j (sp (fun r => r = tbF D S M m k s w) (fun _ : Unit => tbF D S M m k s w = k))) := fun hne => by
    refine ev_ck (by omega) (ev_inl ⟨⟨by omega, by omega, fun c a b => ?_⟩, by omega, by omega⟩)
    by_cases z : c = j
    · rw [z]; exact hne
    · exact g3 c a (by omega)
  refine ev_ck (by omega) (ev_ix (by omega) ?_)
  rw [e1]
  refine ev_if (fun he => ?_) (fun hne => next (fun z => hne (by rw [z.1])))
  refine ev_ck (by omega) (ev_ck (by omega) (ev_ix (by omega) ?_))
  rw [e2]
  refine ev_if (fun he2 => ev_inr ?_) (fun hne => next (fun z => hne (by rw [z.2])))
  exact (scx_eq ⟨g1, .inl g2, g3, fun _ z => z ⟨pkq_inj q1.bt hs.bt he, pkq_inj q2.bt hw.bt he2⟩⟩)
/-- three names are put -/
def n3w (K : Nat) (n : NS) (i a b c : Int) : NS := nw (nw (nw n K 0 (3 * i) a) K 0 (3 * i + 1) b) K 0 (3 * i + 2) c
theorem n3w_K {K' : Nat} {a b c : Int} (h : K' ≠ K) : n3w K n i a b c K' = n K' := by unfold n3w; rw [nw_nK h, nw_nK h, nw_nK h]
theorem n3w_v {a b c : Int} : n3w K n i a b c K 0 (3 * i) = a ∧ n3w K n i a b c K 0 (3 * i + 1) = b ∧ n3w K n i a b c K 0 (3 * i + 2) = c ∧ ∀ j, j ≠ 3 * i → j ≠ 3 * i + 1 → j ≠ 3 * i + 2 → n3w K n i a b c K 0 j = n K 0 j := by
  unfold n3w
  refine ⟨?_, ?_, nw_eq, fun j a b c => ?_⟩
  · rw [nw_ns (by omega), nw_ns (by omega), nw_eq]
  · rw [nw_ns (by omega), nw_eq]
  · rw [nw_ns c, nw_ns b, nw_ns a]
theorem c_putRow (h : TRs K D S M V n m k) (hs : okN s) (hw : okN w) : N_Net_putRow K k (pk s) (pk w) x n = some (if tbF D S M m k s w = 20 then (k, n) else (max k (tbF D S M m k s w + 1), n3w K n (tbF D S M m k s w) (pk s) (pk w) x)) := by
  have hb := tbF_b (D := D) (S := S) (M := M) (m := m) (s := s) (w := w) h.1
  have hk := h.2.1
  unfold N_Net_putRow
  rw [c_rowOf h hs hw]
  simp only [Option.bind_some]
  by_cases z : tbF D S M m k s w = 20
  · rw [if_pos z, if_pos z]
  · rw [if_neg z, if_neg z]
    unfold ck ix st
    dsimp only
    rw [if_pos (by omega), if_pos (by omega), if_pos (by omega), if_pos (by omega), if_pos (by omega), if_pos (by omega), if_pos (by omega), if_pos (by omega), if_pos (by omega)]
    rfl
theorem TRs.put {k' : Int} (h : TRs K D S M V n m k) (hi : 0 ≤ i ∧ i ≤ k ∧ i < 20) (hk' : k' = max k (i + 1)) (hm : (0 ≤ m' S i ∧ 0 ≤ m' M i ∧ 0 ≤ m' V i) ∧ tbS D S m' i = s ∧ tbM D M m' i = w ∧ tbV D V m' i = v) (hs : okN s) (hw : okN w) (hv : okN v) (ho : ∀ c, c ≠ i → m' S c = m S c ∧ m' M c = m M c ∧ m' V c = m V c) (hD : ∀ j, ¬ (24 * i ≤ j ∧ j < 24 * i + 24) → m' D j = m D j) (hn : n' K 0 (3 * i) = pk s ∧ n' K 0 (3 * i + 1) = pk w ∧ n' K 0 (3 * i + 2) = pk v ∧ ∀ j, j ≠ 3 * i → j ≠ 3 * i + 1 → j ≠ 3 * i + 2 → n' K 0 j = n K 0 j) : TRs K D S M V n' m' k' := by
  refine ⟨by have := h.1; omega, by have := h.2.1; omega, fun c c0 c1 => ?_⟩
  by_cases z : c = i
  · subst z
    unfold TR1
    rw [hm.2.1, hm.2.2.1, hm.2.2.2]
    exact ⟨hm.1, ⟨hs, hw, hv⟩, hn.1, hn.2.1, hn.2.2.1⟩
  · obtain ⟨q0, ⟨q1, q2, q3⟩, e1, e2, e3⟩ := h.2.2 c c0 (by omega)
    have o := ho c z
    have l1 : m S c ≤ 8 := by have := q1.2.1; unfold tbS at this; rw [sg_len] at this; omega
    have l2 : m M c ≤ 8 := by have := q2.2.1; unfold tbM at this; rw [sg_len] at this; omega
    have l3 : m V c ≤ 8 := by have := q3.2.1; unfold tbV at this; rw [sg_len] at this; omega
    have d1 : tbS D S m' c = tbS D S m c := by
      unfold tbS; rw [o.1]; exact sg_cg _ _ _ (fun x hx => hD _ (by omega))
    have d2 : tbM D M m' c = tbM D M m c := by
      unfold tbM; rw [o.2.1]; exact sg_cg _ _ _ (fun x hx => hD _ (by omega))
    have d3 : tbV D V m' c = tbV D V m c := by
      unfold tbV; rw [o.2.2]; exact sg_cg _ _ _ (fun x hx => hD _ (by omega))
    unfold TR1
    rw [d1, d2, d3, o.1, o.2.1, o.2.2, hn.2.2.2 _ (by omega) (by omega) (by omega), hn.2.2.2 _ (by omega) (by omega) (by omega), hn.2.2.2 _ (by omega) (by omega) (by omega)]
    exact ⟨q0, ⟨q1, q2, q3⟩, e1, e2, e3⟩
theorem TRs.cg (h : TRs K D S M V n m k) (hn : n' K 0 = n K 0) (hD : m' D = m D) (hS : m' S = m S) (hM : m' M = m M) (hV : m' V = m V) : TRs K D S M V n' m' k := by
  unfold TRs TR1 tbS tbM tbV at *
  rw [hn, hD, hS, hM, hV]; exact h
/-- the reference's searches -/
theorem y_drop10 {v1 : Int} {ss : List (List Int)} {q mk : List Int} (h : TRs 25 31 32 33 34 n m (m 30 0)) (hR : RA m 4 s ss q mk) (hW : WFA s ss q mk) (h1 : 0 ≤ v1 ∧ v1 < 12) (h21 : m 21 v1 = (w.length : Int)) (hw : sg (m 20) (16 * v1) w.length = w) (hw8 : okN w) : NL_Y_dropCookie_10 v1 (s.length : Int) 0 m = some (tbF 31 32 33 m (m 30 0) s w) := by
  unfold NL_Y_dropCookie_10
  have hs := hW.nm
  have hsite : sg (m 6) 602 s.length = s := by
    have h2 := hR.2.1
    have e : adL s ss q = [47, 47] ++ (s ++ (pth ss ++ q)) := rfl
    rw [e] at h2
    have h3 := sg_mid (X := [47, 47]) (Y := s) (Z := pth ss ++ q) h2
    have e0 : 150 * 4 + (([47, 47] : List Int).length : Int) = 602 := by decide
    rw [e0] at h3
    exact h3
  refine ev_scan (fun x x1 x2 => ?_)
  show ev (nb_Y_dropCookie_10 v1 (s.length : Int) x m) _
  unfold nb_Y_dropCookie_10
  have hk := h.2.1
  refine ev_if (fun hlt => ?_) (fun hge => ev_ok (.inr ⟨rfl, fun z => hge z.1⟩))
  obtain ⟨⟨p1, p2, p3⟩, ⟨q1, q2, q3⟩, _⟩ := h.2.2 x x1 hlt
  have l1 : ((tbS 31 32 m x).length : Int) = m 32 x := sg_lenI p1
  have l2 : ((tbM 31 33 m x).length : Int) = m 33 x := sg_lenI p2
  have b1 := q1.2.1
  have b2 := q2.2.1
  have c1 := hs.2.1
  have c2 := hw8.2.1
  have next : ¬ (tbS 31 32 m x = s ∧ tbM 31 33 m x = w) → ev (ck (x + 1) (some (Sum.inl (x + 1)))) (fun r => (r = Sum.inl (x + 1) ∧ x < m 30 0 ∧ ¬ (tbS 31 32 m x = s ∧ tbM 31 33 m x = w)) ∨ (r = Sum.inr x ∧ ¬ (x < m 30 0 ∧ ¬ (tbS 31 32 m x = s ∧ tbM 31 33 m x = w)))) := fun hne => ev_ck (by omega) (ev_ok (.inl ⟨rfl, hlt, hne⟩))
  refine ev_ix (by omega) (ev_if (fun he => ?_) (fun hne => next (fun z => hne (by rw [← l1, z.1]))))
  refine ev_ck (by omega) (ev_bz (ys_same (f := 31) (f2 := 6) (i := 24 * x) (j := 602) (k := (s.length : Int)) (by omega) (by omega) (by show _ ≤ (480 : Int); omega) (by show _ ≤ (9900 : Int); omega) (by omega) (by omega)) (fun hp => ?_) (fun hp => ?_))
  · rw [if_neg (by decide)]
    have hp1 : tbS 31 32 m x = s := by
      unfold tbS; rw [he]
      rw [hp, Int.toNat_natCast]; exact hsite
    refine ev_ix (by omega) (ev_ix h1 (ev_if (fun he2 => ?_) (fun hne => next (fun z => hne (by rw [← l2, z.2, h21])))))
    refine ev_ck (by omega) (ev_ck (by omega) (ev_ck (by omega) (ev_ix h1 ?_)))
    rw [h21]
    rw [h21] at he2
    refine ev_bz (ys_same (f := 31) (f2 := 20) (i := 24 * x + 8) (j := 16 * v1) (k := (w.length : Int)) (by omega) (by omega) (by show _ ≤ (480 : Int); omega) (by show _ ≤ (192 : Int); omega) (by omega) (by omega)) (fun hp2 => ?_) (fun hp2 => ?_)
    · rw [if_neg (by decide)]
      refine ev_ok (.inr ⟨rfl, fun z => z.2 ⟨hp1, ?_⟩⟩)
      unfold tbM; rw [he2, hp2, Int.toNat_natCast]; exact hw
    · rw [if_pos rfl]
      refine next (fun z => hp2 ?_)
      rw [Int.toNat_natCast, hw]
      have := z.2; unfold tbM at this; rw [he2, Int.toNat_natCast] at this; exact this
  · rw [if_pos rfl]
    refine next (fun z => hp ?_)
    rw [Int.toNat_natCast, hsite]
    have := z.1; unfold tbS at this; rw [he, Int.toNat_natCast] at this; exact this
end J0
