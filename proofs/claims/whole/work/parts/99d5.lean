/-! WHAT A NODE HOLDS: name, attributes, text, value; the calls name, value, checked -/
theorem sg_at {g : Int → Int} : ∀ (k : Nat) (i : Int) (x : Nat), x < k → g (i + x) ∈ sg g i k := by
  intro k
  induction k with
  | zero => intro i x h; omega
  | succ k ih =>
    intro i x h
    show _ ∈ g i :: sg g (i + 1) k
    by_cases z : x = 0
    · subst z
      rw [show i + ((0 : Nat) : Int) = i by omega]; exact List.mem_cons_self ..
    · have := ih (i + 1) (x - 1) (by omega)
      rw [show i + 1 + ((x - 1 : Nat) : Int) = i + (x : Int) by omega] at this
      exact List.mem_cons_of_mem _ this
theorem sg_all {g : Int → Int} {P : Int → Prop} {i k : Int} (h : ∀ c ∈ sg g i k.toNat, P c) {j : Int} (h0 : i ≤ j) (h1 : j < i + k) : P (g j) := by
  have := sg_at (g := g) k.toNat i (j - i).toNat (by omega)
  rw [show i + (((j - i).toNat : Nat) : Int) = j by omega] at this
  exact h _ this
def anL (m : YS) (v a : Int) : List Int := sg (m 57) (8 * (4 * v + a)) (m 58 (4 * v + a)).toNat
def avL (m : YS) (v a : Int) : List Int := sg (m 59) (60 * (4 * v + a)) (m 60 (4 * v + a)).toNat
def nmL (m : YS) (v : Int) : List Int := sg (m 47) (8 * v) (m 48 v).toNat
def txL (m : YS) (v : Int) : List Int := sg (m 61) (400 * v) (m 62 v).toNat
def vaL (m : YS) (v : Int) : List Int := sg (m 64) (24 * v) (m 65 v).toNat
/-- which attribute has a name; their number, if none -/
def fnd (m : YS) (v : Int) (w : List Int) : Int := sc (fun a => anL m v a ≠ w) 0 (m 56 v)
def wType : List Int := [116, 121, 112, 101]
def wCheck : List Int := [99, 104, 101, 99, 107]
def chkL (m : YS) (v : Int) : Prop := fnd m v wType < m 56 v ∧ avL m v (fnd m v wType) = wCheck
def tgF : List (List Int) → List Int → Int → Int
  | [], _, k => k
  | w :: ws, l, k => if w = l then k else tgF ws l (k + 1)
def tgW : List (List Int) := [[100, 105, 118], [112], [104, 49], [117, 108], [108, 105], [102, 111, 114, 109], [115, 112, 97, 110], [97], [98], [105], [98, 114], [104, 114], [105, 109, 103], [105, 110, 112, 117, 116], [98, 117, 116, 116, 111, 110], [115, 116, 121, 108, 101]]
/-- the TAG of a name -/
def tgL (l : List Int) : Int := tgF tgW l 0
def NA (n : NS) (m : YS) (v a : Int) : Prop := (1 ≤ m 58 (4 * v + a) ∧ m 58 (4 * v + a) ≤ 8) ∧ (∀ c ∈ anL m v a, isBt c) ∧ n 18 v a = pk (anL m v a) ∧ (0 ≤ m 60 (4 * v + a) ∧ m 60 (4 * v + a) ≤ 60) ∧ (∀ c ∈ avL m v a, isTx c) ∧ bt n (5 * v + 1 + a) = avL m v a
def ND (n : NS) (m : YS) (v : Int) : Prop :=
  (n 7 v 0 = m 46 v ∧ 0 ≤ m 46 v ∧ m 46 v ≤ 17)
  ∧ (0 ≤ m 48 v ∧ m 48 v ≤ 8 ∧ (∀ c ∈ nmL m v, isBt c) ∧ n 7 v 1 = pk (nmL m v))
  ∧ (n 7 v 12 = m 56 v ∧ 0 ≤ m 56 v ∧ m 56 v ≤ 4)
  ∧ (∀ a, 0 ≤ a → a < m 56 v → NA n m v a)
  ∧ (m 46 v = 17 → (0 ≤ m 62 v ∧ m 62 v ≤ 400) ∧ (∀ c ∈ txL m v, isTx c) ∧ bt n (5 * v) = txL m v ∧ m 48 v = 0 ∧ m 56 v = 0)
  ∧ (m 46 v = 13 → (0 ≤ m 65 v ∧ m 65 v ≤ 24) ∧ (∀ c ∈ vaL m v, isTx c) ∧ bt n (5 * v) = vaL m v ∧ n 7 v 16 = m 66 v ∧ (m 66 v = 0 ∨ m 66 v = 1) ∧ bz (chkL m v) (n 7 v 15))
  ∧ (m 46 v ≠ 17 → m 46 v = tgL (nmL m v))
def JD (n : NS) (m : YS) (N : Int) (o : Int → Int) : Prop := ∀ k, 0 ≤ k → k < N → ND n m (o k)
theorem JD.Q {n : NS} {m : YS} {A B N : Int} {o e p : Int → Int} (h : JD n m N o) (hJ : JS n m N o e p) (hB : BI A B n) : JQ n m N o := fun k h0 h1 => by
  have hd := h k h0 h1
  have hv := hJ.1.oB h0 h1
  refine ⟨hd.1.1, hd.2.2.1.1, fun z => ?_⟩
  have ht := hd.2.2.2.2.1 z
  have := bt_len (b := 5 * o k) (by omega) hB
  rw [ht.2.2.1] at this
  unfold txL at this
  rw [sg_len] at this
  omega
section D5
variable {n : NS} {m : YS} {A B N v : Int} {o e p : Int → Int} {w l : List Int}
theorem BI.txb {b : Int} (hB : BI A B n) (hb : 0 ≤ b ∧ b ≤ 631) : tx n (n 4 b 1) (n 99 (n 4 b 1)) (n 4 b 2) := by
  have h := hB.1 b hb.1 hb.2
  exact ⟨h.2.2.1, h.2.2.2.1.2.2, fun _ _ _ => rfl⟩
theorem c_find (hd : ND n m v) (hw : ∀ c ∈ w, isBt c) : N_Node_find v (pk w) n = some (if fnd m v w < m 56 v then 5 * v + 1 + fnd m v w else -1) := by
  apply eq_of_ev
  have hc := hd.2.2.1
  unfold N_Node_find NL_Node_find_2
  refine ev_bs (P := fun r => r = fnd m v w ∧ r < m 56 v ∧ 0 ≤ r) (R := fun _ => ¬ fnd m v w < m 56 v) ?_ (fun r hr => ev_ix (by omega) (ev_ok ?_)) (fun r hr => ev_ok ?_)
  · refine ev_it (fun s => 0 ≤ s ∧ s ≤ m 56 v ∧ ∀ j, 0 ≤ j → j < s → anL m v j ≠ w) (fun s => m 56 v - s) (fun s hs => ?_) ⟨Int.le_refl _, hc.2.1, fun j a b => by omega⟩
    obtain ⟨g1, g2, g3⟩ := hs
    unfold nb_Node_find_2
    rw [hc.1]
    refine ev_if (fun hlt => ev_ix (by omega) ?_) (fun hge => ev_inr (show ¬ _ from fun hx => ?_))
    · have ha := hd.2.2.2.1 s g1 hlt
      rw [ha.2.2.1]
      refine ev_if (fun he => ev_inr ⟨scx_eq ⟨g1, .inl g2, g3, fun _ z => z (pkq_inj ha.2.1 hw he)⟩, hlt, g1⟩) (fun hne => ev_ck (by omega) (ev_inl ⟨⟨by omega, by omega, fun j a b => ?_⟩, by omega, by omega⟩))
      by_cases e : j = s
      · rw [e]; exact fun z => hne (by rw [z])
      · exact g3 j a (by omega)
    · have := scx_at (p := fun a => anL m v a ≠ w) hx
      exact this (g3 _ (scx_ge _ _) (by unfold fnd at hx; omega))
  · rw [if_pos (by rw [← hr.1]; exact hr.2.1), hr.1]
  · rw [if_neg hr]
theorem y_find {W : Int} (hd : ND n m v) (hv : 0 ≤ v ∧ v < 120) (h : 0 ≤ W ∧ W < 36893488147419103232) : N_Y_attributeOf v W m = some (if fnd m v (wl W) < m 56 v then 4 * v + fnd m v (wl W) else -1) := by
  apply eq_of_ev
  have hc := hd.2.2.1
  unfold N_Y_attributeOf NL_Y_attributeOf_3
  refine ev_bs (P := fun r => r = 4 * v + fnd m v (wl W) ∧ fnd m v (wl W) < m 56 v) (R := fun _ => ¬ fnd m v (wl W) < m 56 v) ?_ (fun r hr => ev_ok ?_) (fun r hr => ev_ok ?_)
  · refine ev_it (fun s => 0 ≤ s ∧ s ≤ m 56 v ∧ ∀ j, 0 ≤ j → j < s → anL m v j ≠ wl W) (fun s => m 56 v - s) (fun s hs => ?_) ⟨Int.le_refl _, hc.2.1, fun j a b => by omega⟩
    obtain ⟨g1, g2, g3⟩ := hs
    unfold nb_Y_attributeOf_3
    refine ev_ix hv (ev_if (fun hlt => ?_) (fun hge => ev_inr (show ¬ _ from fun hx => ?_)))
    · have ha := hd.2.2.2.1 s g1 hlt
      have hn1 := ha.1
      have next : anL m v s ≠ wl W → ev (ck (s + 1) <| some (Sum.inl (s + 1))) (lp (fun s => 0 ≤ s ∧ s ≤ m 56 v ∧ ∀ j, 0 ≤ j → j < s → anL m v j ≠ wl W) (fun s => m 56 v - s) s (sp (fun r => r = 4 * v + fnd m v (wl W) ∧ fnd m v (wl W) < m 56 v) (fun _ : Unit => ¬ fnd m v (wl W) < m 56 v))) := fun hne => by
        refine ev_ck (by omega) (ev_inl ⟨⟨by omega, by omega, fun j a b => ?_⟩, by omega, by omega⟩)
        by_cases e : j = s
        · rw [e]; exact hne
        · exact g3 j a (by omega)
      refine ev_ck (by omega) (ev_ck (by omega) (ev_ix (by omega) ?_))
      rw [ys_lengthOf h]
      simp only [Option.bind_some]
      refine ev_if (fun he => ?_) (fun hne => next (fun z => hne ?_))
      · refine ev_ck (by omega) (ev_ck (by omega) (ev_ix (by omega) (ev_ck (by omega) ?_)))
        have hm := mtR_sg (g := m 57) (wl W) (8 * (4 * v + s)) (to := 8 * (4 * v + s) + m 58 (4 * v + s)) (by omega)
        have e1 : anL m v s = sg (m 57) (8 * (4 * v + s)) (8 * (4 * v + s) + m 58 (4 * v + s) - 8 * (4 * v + s)).toNat := by
          unfold anL; rw [show 8 * (4 * v + s) + m 58 (4 * v + s) - 8 * (4 * v + s) = m 58 (4 * v + s) by omega]
        refine ev_bz (ys_isWord (f := 57) h (by show _ ≤ (3840 : Int); omega) (by omega) (by omega) (by omega)) (fun hp => ?_) (fun hp => ?_)
        · rw [if_neg (by decide)]
          have ee : anL m v s = wl W := by rw [e1]; exact hm.mp hp
          have es : s = fnd m v (wl W) := scx_eq ⟨g1, .inl g2, g3, fun _ z => z ee⟩
          exact ev_inr ⟨by omega, by omega⟩
        · rw [if_pos rfl]
          exact next (fun z => hp (hm.mpr (by rw [← e1]; exact z)))
      · rw [← z]; unfold anL; rw [sg_len]; omega
    · have := scx_at (p := fun a => anL m v a ≠ wl W) hx
      exact this (g3 _ (scx_ge _ _) (by unfold fnd at hx; omega))
  · rw [if_pos hr.2, hr.1]
  · rw [if_neg hr]
theorem cs_showBytes {b : Int} (hB : BI A B n) (hb : 0 ≤ b ∧ b ≤ 631) (hne : b ≠ 606) : ev (N_H_showBytes b n) (fun r => ∃ n0, AP A B 606 n0 r.2 (bt n b) ∧ bt n0 606 = [] ∧ FB (fun x => x = 606) n r.2 ∧ r.1 = r.2 4 606 2) := by
  unfold N_H_showBytes
  refine ev_bind (cs_clear (b := 606) (by omega) hB) (fun n3 h3 => ?_)
  obtain ⟨hB3, hF3, h0⟩ := h3
  obtain ⟨e1, e2, e3⟩ := hF3.bts hB hb hne (fun x hx => by omega)
  have b1 := hB3.1 b hb.1 hb.2
  have hlb := lim_b b
  refine ev_nn b1.2.1.1 (ev_bind (cs_addAllA (b := 606) (by omega) hB3 (hB3.txb hb) b1.2.1.2 (by omega) (Int.le_refl _) (by have := b1.2.2.2.1; omega) (fun z => hne (hB3.2.1 b 606 hb.1 hb.2 (by omega) (by omega) z))) (fun n4 h4 => ev_ok ⟨n3, ?_, h0, hF3.trans h4.2.1, rfl⟩))
  rw [Int.sub_zero] at h4
  rw [← e3]
  exact h4
/-- both calls put the same into the out -/
def SAY (A B : Int) (n : NS) (m : YS) (X : Option (Int × NS)) (Y : Option (Int × YS)) : Prop := ∃ r n' m', X = some (r, n') ∧ Y = some (r, m') ∧ BI A B n' ∧ JOut n' m' ∧ FB (fun x => x = 606) n n' ∧ FY [4, 5] m m'
theorem SAY.same {r : Int} {X : Option (Int × NS)} {Y : Option (Int × YS)} (hX : X = some (r, n)) (hY : Y = some (r, m)) (hB : BI A B n) (hO : JOut n m) : SAY A B n m X Y := ⟨r, n, m, hX, hY, hB, hO, FB.refl _ _, FY.refl _ _⟩
theorem both_say {X : Option (Int × NS)} {Y : Option (Int × YS)} (hx : ev X (fun r => ∃ n0, AP A B 606 n0 r.2 l ∧ bt n0 606 = [] ∧ FB (fun x => x = 606) n r.2 ∧ r.1 = r.2 4 606 2)) (hy : ev Y (fun r => SY1 (yw m 5 0 0) r.2 l ∧ r.1 = r.2 5 0)) (hl : ∀ c ∈ l, 0 ≤ c ∧ c ≤ 127) : SAY A B n m X Y := by
  obtain ⟨⟨r, n1⟩, ex, n0, a1, a2, a3, a4⟩ := hx
  obtain ⟨⟨s, m1⟩, ey, b1, b2⟩ := hy
  simp only at a1 a3 a4 b1 b2
  have e1 : bt n1 606 = l.take 8000 := by rw [a1.2.2, a2, List.nil_append, lim_606]; rfl
  have e0 : ys (yw m 5 0 0) 4 5 = [] := by unfold ys; rw [yw_eq]; rfl
  have e2 : ys m1 4 5 = l.take 8000 := by rw [b1.2.2, e0, List.nil_append]
  have hsz : n1 4 606 2 = m1 5 0 := by
    have q := bt_len (b := 606) (by omega) a1.1
    rw [e1, ← e2, ys_len b1.2.1.1] at q
    exact q.symm
  refine ⟨r, n1, m1, ex, by rw [ey, b2, a4, hsz], a1.1, ⟨by rw [e1, e2], hsz, b1.2.1.1, b1.2.1.2, fun j h0 hj => ?_⟩, a3, fun f hf => by rw [b1.1 f hf]; exact yw_nF (fun z => hf (by simp [z]))⟩
  have hm : m1 4 j ∈ ys m1 4 5 := by
    unfold ys
    have := sg_at (g := m1 4) (m1 5 0).toNat 0 j.toNat (by omega)
    rwa [show 0 + ((j.toNat : Nat) : Int) = j by omega] at this
  rw [e2] at hm
  exact hl _ (List.mem_of_mem_take hm)
theorem y_sayRow {f : Nat} {i k : Int} (hf : f ≠ 4 ∧ f ≠ 5) (hi : 0 ≤ i) (hk : 0 ≤ k) (hl : i + k ≤ yLn f) (hb : i + k ≤ 100000) (hr : ∀ c ∈ sg (m f) i k.toNat, 0 ≤ c ∧ c ≤ 127) : ev ((N_Y_sayAll f i k (yw m 5 0 0)).bind (fun m1 => some (m1 5 0, m1))) (fun r => SY1 (yw m 5 0 0) r.2 (sg (m f) i k.toNat) ∧ r.1 = r.2 5 0) := by
  have eF : yw m 5 0 0 f = m f := yw_nF hf.2
  refine ev_bind (y_sayAll (m := yw m 5 0 0) (by rw [yw_eq]; omega) hf hi hk hl hb (fun j a b => by
    rw [eF]
    have := sg_all hr a b
    omega)) (fun m1 h1 => ev_ok ⟨?_, rfl⟩)
  rw [eF] at h1
  exact h1
theorem call_name (hB : BI A B n) (h : JS n m N o e p) (hD : JD n m N o) (hO : JOut n m) : SAY A B n m (N_H_name v n) (N_Y_name v m) := by
  rcases h.there v with ⟨a, b⟩ | ⟨a, b, k, k0, k1, kv⟩
  · refine SAY.same (r := -1) ?_ ?_ hB hO
    · unfold N_H_name; rw [b]; rfl
    · unfold N_Y_name; rw [a]; rfl
  · have hv := h.1.oB k0 k1
    have hd := hD k k0 k1
    rw [kv] at hv hd
    unfold N_H_name N_Y_name nk_Y_name_66
    rw [a, b]
    simp only [Option.bind_some]
    rw [if_neg (show ¬ (1 : Int) = 0 by decide), if_neg (show ¬ (1 : Int) = 0 by decide)]
    by_cases h17 : m 46 v = 17
    · have ht := hd.2.2.2.2.1 h17
      refine both_say (l := txL m v) ?_ ?_ (fun c hc => by have := ht.2.1 c hc; omega)
      · refine ev_ix hv ?_
        rw [if_pos (show n 7 v 0 = 17 by rw [hd.1.1]; exact h17), ← ht.2.2.1]
        exact ev_b2 (cs_showBytes hB (by omega) (by omega)) (fun z n1 hz => ev_ok hz)
      · refine ev_st (ev_ix hv ?_)
        rw [yw_nF (show (46 : Nat) ≠ 5 by decide), yw_nF (show (62 : Nat) ≠ 5 by decide), if_pos h17]
        exact ev_ck (by omega) (ev_ix hv (y_sayRow (f := 61) (by decide) (by omega) (by omega) (by show _ ≤ (48000 : Int); omega) (by omega) (fun c hc => by have := ht.2.1 c hc; omega)))
    · refine both_say (l := nmL m v) ?_ ?_ (fun c hc => by have := hd.2.1.2.2.1 c hc; omega)
      · refine ev_ix hv ?_
        rw [if_neg (show ¬ n 7 v 0 = 17 by rw [hd.1.1]; exact h17)]
        refine ev_bind (cs_clear (b := 606) (by omega) hB) (fun n3 h3 => ?_)
        have hl := hd.2.1
        rw [h3.2.1.1 7 (by decide) (by decide) (by decide) (by decide) (by decide) (by decide), hl.2.2.2]
        refine ev_bind (cs_addPacked (b := 606) (by omega) h3.1 hl.2.2.1 (by unfold nmL; rw [sg_len]; omega)) (fun n4 h4 => ev_ok ⟨n3, h4, h3.2.2, h3.2.1.trans h4.2.1, rfl⟩)
      · refine ev_st (ev_ix hv ?_)
        have hl := hd.2.1
        rw [yw_nF (show (46 : Nat) ≠ 5 by decide), yw_nF (show (48 : Nat) ≠ 5 by decide), if_neg h17]
        exact ev_ck (by omega) (ev_ix hv (y_sayRow (f := 47) (by decide) (by omega) (by omega) (by show _ ≤ (960 : Int); omega) (by omega) (fun c hc => by have := hl.2.2.1 c hc; omega)))
theorem JS.isIn (h : JS n m N o e p) (hD : JD n m N o) {k : Int} (k0 : 0 ≤ k) (k1 : k < N) (b : N_H_isNode (o k) n = some 1) : N_H_isInput (o k) n = some (if m 46 (o k) = 13 then 1 else 0) := by
  have hv := h.1.oB k0 k1
  have hd := hD k k0 k1
  unfold N_H_isInput ix
  rw [b]
  simp only [Option.bind_some]
  rw [if_neg (show ¬ (1 : Int) = 0 by decide), if_pos hv, hd.1.1]
  split <;> rfl
theorem call_value (hB : BI A B n) (h : JS n m N o e p) (hD : JD n m N o) (hO : JOut n m) : SAY A B n m (N_H_value v n) (N_Y_value v m) := by
  rcases h.there v with ⟨a, b⟩ | ⟨a, b, k, k0, k1, kv⟩
  · refine SAY.same (r := -1) ?_ ?_ hB hO
    · unfold N_H_value N_H_isInput; rw [b]; rfl
    · unfold N_Y_value; rw [a]; rfl
  · subst kv
    have hv := h.1.oB k0 k1
    have hd := hD k k0 k1
    have eI := h.isIn hD k0 k1 b
    by_cases h13 : m 46 (o k) = 13
    · rw [if_pos h13] at eI
      have ht := hd.2.2.2.2.2.1 h13
      refine both_say (l := vaL m (o k)) ?_ ?_ (fun c hc => by have := ht.2.1 c hc; omega)
      · unfold N_H_value
        rw [eI]
        simp only [Option.bind_some]
        rw [if_neg (show ¬ (1 : Int) = 0 by decide)]
        refine ev_ix hv ?_
        rw [← ht.2.2.1]
        exact ev_b2 (cs_showBytes hB (by omega) (by omega)) (fun z n1 hz => ev_ok hz)
      · unfold N_Y_value
        rw [a]
        simp only [Option.bind_some]
        rw [if_neg (show ¬ (1 : Int) = 0 by decide)]
        refine ev_ix hv ?_
        rw [if_pos h13]
        refine ev_st ?_
        rw [yw_nF (show (65 : Nat) ≠ 5 by decide)]
        exact ev_ck (by omega) (ev_ix hv (y_sayRow (f := 64) (by decide) (by omega) (by omega) (by show _ ≤ (2880 : Int); omega) (by omega) (fun c hc => by have := ht.2.1 c hc; omega)))
    · rw [if_neg h13] at eI
      refine SAY.same (r := -1) ?_ ?_ hB hO
      · unfold N_H_value; rw [eI]; rfl
      · unfold N_Y_value ix
        rw [a]
        simp only [Option.bind_some]
        rw [if_neg (show ¬ (1 : Int) = 0 by decide), if_pos hv, if_neg h13]
theorem call_checked (h : JS n m N o e p) (hD : JD n m N o) : ∃ r, N_H_checked v n = some r ∧ N_Y_checked v m = some r := by
  rcases h.there v with ⟨a, b⟩ | ⟨a, b, k, k0, k1, kv⟩
  · refine ⟨-1, ?_, ?_⟩
    · unfold N_H_checked N_H_isInput; rw [b]; rfl
    · unfold N_Y_checked; rw [a]; rfl
  · subst kv
    have hv := h.1.oB k0 k1
    have hd := hD k k0 k1
    have eI := h.isIn hD k0 k1 b
    by_cases h13 : m 46 (o k) = 13
    · rw [if_pos h13] at eI
      have ht := hd.2.2.2.2.2.1 h13
      refine ⟨if m 66 (o k) = 0 then 0 else 1, ?_, ?_⟩
      · unfold N_H_checked ix
        rw [eI]
        simp only [Option.bind_some]
        rw [if_neg (show ¬ (1 : Int) = 0 by decide), if_pos hv, ht.2.2.2.1]
        split <;> rfl
      · unfold N_Y_checked ix
        rw [a]
        simp only [Option.bind_some]
        rw [if_neg (show ¬ (1 : Int) = 0 by decide), if_pos hv, if_pos h13, if_pos hv]
        split <;> rfl
    · rw [if_neg h13] at eI
      refine ⟨-1, ?_, ?_⟩
      · unfold N_H_checked; rw [eI]; rfl
      · unfold N_Y_checked ix
        rw [a]
        simp only [Option.bind_some]
        rw [if_neg (show ¬ (1 : Int) = 0 by decide), if_pos hv, if_neg h13]
end D5
