/-! THE PARTS OF A PATH, from the right -/
/-- the parts that count -/
def sgs (g : Int → Int) (i : Int) (k : Nat) : List (List Int) := if (spl g i k).headD [] = [] then (spl g i k).tail else spl g i k
def eL (ss : List (List Int)) : List (List Int) := if wnt (ss.getLastD []) then [[]] else []
def pr (q : Int) (K0 : List (List Int)) (c0 : Nat) (ss : List (List Int)) : List (List Int) × Nat := ss.foldr tk (if q = 1 then (eL ss, 0) else (K0, c0))
theorem getLastD_app {x : List Int} {zs : List (List Int)} : ∀ ys : List (List Int), (ys ++ x :: zs).getLastD [] = (x :: zs).getLastD [] := by
  intro ys
  induction ys with
  | nil => rfl
  | cons y ys ih =>
    show (y :: (ys ++ x :: zs)).getLastD [] = _
    cases hw : ys ++ x :: zs with
    | nil => simp at hw
    | cons u v => rw [hw] at ih; exact ih
section E3a
variable {q : Int} {K0 : List (List Int)} {c0 : Nat} {x : List Int} {ys zs : List (List Int)} {g : Int → Int}
theorem pr_app : pr q K0 c0 (ys ++ x :: zs) = ys.foldr tk (pr q K0 c0 (x :: zs)) := by
  unfold pr eL
  rw [List.foldr_append, getLastD_app]
theorem pr_cons : pr q K0 c0 (x :: zs) = tkl (if q = 1 ∧ zs = [] then 1 else 0) x (pr q K0 c0 zs) := by
  by_cases hz : zs = []
  · subst hz
    by_cases hq : q = 1
    · rw [if_pos ⟨hq, rfl⟩]
      have e1 : pr q K0 c0 [] = ([], 0) := by unfold pr eL; rw [if_pos hq]; rfl
      have e2 : pr q K0 c0 [x] = tk x (if wnt x then [[]] else [], 0) := by unfold pr eL; rw [if_pos hq]; rfl
      rw [e1, e2]
      unfold tkl
      rw [if_neg (show ¬ (1 : Int) = 0 by decide)]
      by_cases h1 : x = [46]
      · rw [if_pos h1, if_pos (.inl h1), tk_1 h1]
      · rw [if_neg h1]
        by_cases h2 : x = [46, 46]
        · rw [if_pos h2, if_pos (.inr h2), tk_2 h1 h2]
        · rw [if_neg h2, if_neg (fun z => by
            rcases z with z | z
            · exact h1 z
            · exact h2 z)]
    · rw [if_neg (fun z => hq z.1)]
      have e1 : pr q K0 c0 [] = (K0, c0) := by unfold pr; rw [if_neg hq]; rfl
      have e2 : pr q K0 c0 [x] = tk x (K0, c0) := by unfold pr; rw [if_neg hq]; rfl
      rw [e1, e2]
      unfold tkl
      rw [if_pos rfl]
  · rw [if_neg (fun z => hz z.2)]
    obtain ⟨z, w, rfl⟩ : ∃ z w, zs = z :: w := by
      cases zs with
      | nil => exact absurd rfl hz
      | cons z w => exact ⟨z, w, rfl⟩
    have := pr_app (q := q) (K0 := K0) (c0 := c0) (ys := [x]) (x := z) (zs := w)
    unfold tkl
    rw [if_pos rfl]; exact this
theorem tk_cnt (x : List Int) (y : List (List Int) × Nat) : (tk x y).2 ≤ y.2 + 1 := by
  unfold tk; (repeat' split) <;> (try simp only) <;> omega
theorem tkl_cnt (l : Int) (x : List Int) (y : List (List Int) × Nat) : (tkl l x y).2 ≤ y.2 + 1 := by
  unfold tkl
  split
  · exact tk_cnt x y
  · split
    · show y.2 ≤ y.2 + 1; omega
    · split
      · show y.2 + 1 ≤ y.2 + 1; omega
      · exact tk_cnt x y
/-- what lies to the right stays -/
theorem spl_suf {h : List Int} {t : List (List Int)} : ∀ (d : Nat) (i : Int) (k : Nat), spl g (i + d) k = h :: t → ∃ h' pre, spl g i (k + d) = h' :: (pre ++ t) := by
  intro d
  induction d with
  | zero => intro i k e; rw [show i + ((0 : Nat) : Int) = i by omega] at e; exact ⟨h, [], e⟩
  | succ d ih =>
    intro i k e
    obtain ⟨h', pre, e'⟩ := ih (i + 1) k (by rw [show i + 1 + (d : Int) = i + ((d + 1 : Nat) : Int) by omega]; exact e)
    rw [show k + (d + 1) = k + d + 1 by omega]
    by_cases hz : g i = 47
    · exact ⟨[], h' :: pre, by rw [spl_sl hz, e']; rfl⟩
    · exact ⟨g i :: h', pre, by rw [spl_no hz e']⟩
end E3a
section E3
variable {n : NS} {a T d l fr to en : Int} {s t g : Int → Int} {K0 : List (List Int)} {c0 : Nat}
/-- what may stand in a path -/
def rgn (g : Int → Int) (i to : Int) : Prop := ∀ j, i ≤ j → j < to → isSg (g j) ∨ g j = 47
def TGQ (n : NS) (a T : Int) (s t g : Int → Int) (fr to q : Int) (K0 : List (List Int)) (c0 : Nat) (r : Int × NS) : Prop := ∃ s' t', r.2 = aw n a T s' t' ∧ KP s s' t t' ∧ ((r.1 = 0 ∧ ¬ (rgn g fr to ∧ (∀ x ∈ sgs g fr (to - fr).toNat, ¬ wnt x → x.length ≤ 12) ∧ (pr q K0 c0 (sgs g fr (to - fr).toNat)).1.length ≤ 6)) ∨ (r.1 = 1 ∧ rgn g fr to ∧ (∀ x ∈ sgs g fr (to - fr).toNat, ¬ wnt x → x.length ≤ 12) ∧ (pr q K0 c0 (sgs g fr (to - fr).toNat)).1.length ≤ 6 ∧ SGS s' t' (pr q K0 c0 (sgs g fr (to - fr).toNat)).1 (pr q K0 c0 (sgs g fr (to - fr).toNat)).2))
theorem c_takeSegs (hA : AC n a T) (hd : tx n d g l) (h1 : d ≠ a) (h2 : d ≠ T) (hfr : 0 ≤ fr) (hto : fr ≤ to ∧ to ≤ l ∧ to ≤ 50000) (hen : to ≤ en) (hS : SGS s t K0 c0) (hq : en = to → K0 = [] ∧ c0 = 0) (hcb : c0 ≤ 40000) (hs0 : s 0 = T) : ev (N_Address_takeSegments a d fr to en (aw n a T s t)) (TGQ n a T s t g fr to (if en = to then 1 else 0) K0 c0) := by
  have hne := hA.ne
  generalize hqq : (if en = to then (1 : Int) else 0) = q
  have hq0 : SGS s t (pr q K0 c0 []).1 (pr q K0 c0 []).2 := by
    by_cases z : en = to
    · rw [if_pos z] at hqq
      obtain ⟨rfl, rfl⟩ := hq z
      unfold pr eL; rw [if_pos hqq.symm]; exact hS
    · rw [if_neg z] at hqq
      unfold pr; rw [if_neg (by omega)]; exact hS
  have hc00 : (pr q K0 c0 []).2 ≤ c0 := by
    unfold pr; split
    · show (0 : Nat) ≤ c0; omega
    · exact Nat.le_refl _
  unfold N_Address_takeSegments
  refine ev_ck (by omega) ?_
  -- what is known behind the loop
  refine ev_bind (P := sp (fun n1 => TGQ n a T s t g fr to q K0 c0 (0, n1)) (sp (fun n1 => TGQ n a T s t g fr to q K0 c0 (0, n1)) (fun z => ∃ s1 t1 dn, z.2 = aw n a T s1 t1 ∧ KP s s1 t t1 ∧ rgn g fr to ∧ fr ≤ z.1 ∧ z.1 ≤ to ∧ spl g fr (to - fr).toNat = sg g fr (z.1 - fr).toNat :: dn ∧ (∀ x ∈ dn, ¬ wnt x → x.length ≤ 12) ∧ (dn = [] ↔ z.1 = to) ∧ SGS s1 t1 (pr q K0 c0 dn).1 (pr q K0 c0 dn).2 ∧ ((pr q K0 c0 dn).2 : Int) ≤ c0 + (to - z.1)))) ?_ (fun z hz => ?_)
  · unfold NL_Address_takeSegments_8
    refine ev_it (fun z : Int × Int × NS => ∃ s1 t1 dn, z.2.2 = aw n a T s1 t1 ∧ KP s s1 t t1 ∧ rgn g (z.2.1 + 1) to ∧ fr ≤ z.2.1 + 1 ∧ z.2.1 + 1 ≤ z.1 ∧ z.1 ≤ to ∧ spl g (z.2.1 + 1) (to - (z.2.1 + 1)).toNat = sg g (z.2.1 + 1) (z.1 - (z.2.1 + 1)).toNat :: dn ∧ (∀ x ∈ dn, ¬ wnt x → x.length ≤ 12) ∧ (dn = [] ↔ z.1 = to) ∧ SGS s1 t1 (pr q K0 c0 dn).1 (pr q K0 c0 dn).2 ∧ ((pr q K0 c0 dn).2 : Int) ≤ c0 + (to - z.1)) (fun z => z.2.1 + 1) (fun z hz => ?_) ⟨s, t, [], rfl, KP.refl _ _, fun j a b => by simp only at a; omega, by show fr ≤ to - 1 + 1; omega, by show to - 1 + 1 ≤ to; omega, Int.le_refl _, ?_, fun x hx => (by cases hx), ⟨fun _ => rfl, fun _ => rfl⟩, hq0, by show ((pr q K0 c0 []).2 : Int) ≤ _; omega⟩
    · obtain ⟨stp, i, n1⟩ := z
      obtain ⟨s1, t1, dn, g1, g2, g3, g4, g5, g6, g7, g8, g9, g10, g11⟩ := hz
      simp only at g1 g3 g4 g5 g6 g7 g8 g9 g10 g11
      subst g1
      show ev (nb_Address_takeSegments_8 a d fr en stp i (aw n a T s1 t1)) _
      unfold nb_Address_takeSegments_8
      have ht := aw_tx (s := s1) (t := t1) hd h1 h2
      refine ev_if (fun hlt => ev_inr ?_) (fun hge => ev_tx ht ⟨by omega, by omega⟩ (fun he => ?_))
      · have ei : i + 1 = fr := by omega
        rw [ei] at g3 g5 g7
        exact ⟨s1, t1, dn, rfl, g2, g3, g5, g6, g7, g8, g9, g10, g11⟩
      · rw [he]
        have ek : (to - i).toNat = (to - (i + 1)).toNat + 1 := by omega
        refine ev_if (fun hsl => ev_ck (by omega) ?_) (fun hsl => ?_)
        · have hspl : spl g i (to - i).toNat = [] :: sg g (i + 1) (stp - (i + 1)).toNat :: dn := by rw [ek, spl_sl hsl, g7]
          obtain ⟨h', pre, hsuf⟩ := spl_suf (g := g) (i - fr).toNat fr (to - i).toNat (by rw [show fr + (((i - fr).toNat : Nat) : Int) = i by omega]; exact hspl)
          rw [show (to - i).toNat + (i - fr).toNat = (to - fr).toNat by omega] at hsuf
          have hsgs : ∃ pre', sgs g fr (to - fr).toNat = pre' ++ sg g (i + 1) (stp - (i + 1)).toNat :: dn := by
            unfold sgs
            rw [hsuf]
            show ∃ pre', (if h' = [] then pre ++ sg g (i + 1) (stp - (i + 1)).toNat :: dn else h' :: (pre ++ sg g (i + 1) (stp - (i + 1)).toNat :: dn)) = pre' ++ sg g (i + 1) (stp - (i + 1)).toNat :: dn
            by_cases hz : h' = []
            · rw [if_pos hz]; exact ⟨pre, rfl⟩
            · rw [if_neg hz]; exact ⟨h' :: pre, rfl⟩
          obtain ⟨pre', hsgs⟩ := hsgs
          have key : ∀ lst : Int, (lst = 1 ∨ lst = 0) → (lst = 1 ↔ stp = en) → ev (nk_Address_takeSegments_43 a d fr en i lst stp (i + 1) d a (aw n a T s1 t1)) (lp (fun z : Int × Int × NS => ∃ s1 t1 dn, z.2.2 = aw n a T s1 t1 ∧ KP s s1 t t1 ∧ rgn g (z.2.1 + 1) to ∧ fr ≤ z.2.1 + 1 ∧ z.2.1 + 1 ≤ z.1 ∧ z.1 ≤ to ∧ spl g (z.2.1 + 1) (to - (z.2.1 + 1)).toNat = sg g (z.2.1 + 1) (z.1 - (z.2.1 + 1)).toNat :: dn ∧ (∀ x ∈ dn, ¬ wnt x → x.length ≤ 12) ∧ (dn = [] ↔ z.1 = to) ∧ SGS s1 t1 (pr q K0 c0 dn).1 (pr q K0 c0 dn).2 ∧ ((pr q K0 c0 dn).2 : Int) ≤ c0 + (to - z.1)) (fun z => z.2.1 + 1) (stp, i, aw n a T s1 t1) (sp (fun n1 => TGQ n a T s t g fr to q K0 c0 (0, n1)) (sp (fun n1 => TGQ n a T s t g fr to q K0 c0 (0, n1)) (fun z => ∃ s1 t1 dn, z.2 = aw n a T s1 t1 ∧ KP s s1 t t1 ∧ rgn g fr to ∧ fr ≤ z.1 ∧ z.1 ≤ to ∧ spl g fr (to - fr).toNat = sg g fr (z.1 - fr).toNat :: dn ∧ (∀ x ∈ dn, ¬ wnt x → x.length ≤ 12) ∧ (dn = [] ↔ z.1 = to) ∧ SGS s1 t1 (pr q K0 c0 dn).1 (pr q K0 c0 dn).2 ∧ ((pr q K0 c0 dn).2 : Int) ≤ c0 + (to - z.1))))) := fun lst hl01 hl => by
            unfold nk_Address_takeSegments_43
            have hpc : pr q K0 c0 (sg g (i + 1) (stp - (i + 1)).toNat :: dn) = tkl lst (sg g (i + 1) (stp - (i + 1)).toNat) (pr q K0 c0 dn) := by
              rw [pr_cons]
              congr 1
              by_cases hz : en = to
              · rw [if_pos hz] at hqq
                by_cases hs : stp = to
                · rw [if_pos ⟨hqq.symm, g9.mpr hs⟩]; exact (hl.mpr (by omega)).symm
                · rw [if_neg (fun z => hs (g9.mp z.2))]
                  rcases hl01 with z | z
                  · have := hl.mp z; omega
                  · exact z.symm
              · rw [if_neg hz] at hqq
                rw [if_neg (fun z => by have := z.1; omega)]
                rcases hl01 with z | z
                · have := hl.mp z; omega
                · exact z.symm
            refine ev_tyA hA (ev_b2 (c_takeSeg (lst := lst) hA hd h1 h2 (by omega) ⟨g5, by omega, by omega⟩ g10 (by omega) (by rw [g2.1.1]; exact hs0)) (fun r n2 hr => ?_))
            obtain ⟨s2, t2, r1, r2, r3⟩ := hr
            simp only at r1 r3
            subst r1
            rcases r3 with ⟨z0, zb⟩ | ⟨z1, zc, zs⟩
            · rw [if_pos z0]
              refine ev_inr (show TGQ n a T s t g fr to q K0 c0 (0, aw n a T s2 t2) from ⟨s2, t2, rfl, g2.trans r2, .inl ⟨rfl, fun hh => ?_⟩⟩)
              obtain ⟨_, y2, y3⟩ := hh
              rw [hsgs] at y2 y3
              rcases zb with ⟨zw, zl⟩ | zl
              · have := y2 _ (List.mem_append_right _ List.mem_cons_self) zw
                rw [sg_len] at this; omega
              · rw [pr_app, hpc] at y3
                have := tk_len pre' (tkl lst (sg g (i + 1) (stp - (i + 1)).toNat) (pr q K0 c0 dn))
                have zl : 6 < (tkl lst (sg g (i + 1) (stp - (i + 1)).toNat) (pr q K0 c0 dn)).1.length := zl
                omega
            · rw [if_neg (by omega)]
              rw [← hpc] at zs
              refine ev_ck (by omega) (ev_inl ⟨⟨s2, t2, sg g (i + 1) (stp - (i + 1)).toNat :: dn, rfl, g2.trans r2, fun j ja jb => ?_, ?_, ?_, by show i ≤ to; omega, ?_, fun x hx => ?_, ⟨fun z => (by cases z), fun z => (by have z : i = to := z; omega)⟩, zs, ?_⟩, ?_, ?_⟩)
              · have ja : i + -1 + 1 ≤ j := ja
                by_cases e : j = i
                · rw [e]; exact .inr hsl
                · exact g3 j (by omega) jb
              · show fr ≤ i + -1 + 1; omega
              · show i + -1 + 1 ≤ i; omega
              · show spl g (i + -1 + 1) (to - (i + -1 + 1)).toNat = sg g (i + -1 + 1) (i - (i + -1 + 1)).toNat :: sg g (i + 1) (stp - (i + 1)).toNat :: dn
                rw [show i + -1 + 1 = i by omega, show (i - i).toNat = 0 by omega]; exact hspl
              · rcases List.mem_cons.mp hx with z | z
                · rw [z]; intro w; rw [sg_len]; have := zc w; omega
                · exact g8 x z
              · show ((pr q K0 c0 (sg g (i + 1) (stp - (i + 1)).toNat :: dn)).2 : Int) ≤ c0 + (to - i)
                rw [hpc]
                have := tkl_cnt lst (sg g (i + 1) (stp - (i + 1)).toNat) (pr q K0 c0 dn)
                omega
              · show i + -1 + 1 < i + 1; omega
              · show 0 ≤ i + 1; omega
          exact ev_if (fun z => key 1 (.inl rfl) ⟨fun _ => z, fun _ => rfl⟩) (fun z => key 0 (.inr rfl) ⟨fun y => absurd y (by decide), fun y => absurd y z⟩)
        · refine ev_tx ht ⟨by omega, by omega⟩ (fun he' => ?_)
          refine ev_bz cs_segment (fun hp => ?_) (fun hp => ?_)
          · rw [if_neg (by decide)]
            refine ev_ck (by omega) (ev_inl ⟨⟨s1, t1, dn, rfl, g2, fun j ja jb => ?_, ?_, ?_, g6, ?_, g8, g9, g10, g11⟩, ?_, ?_⟩)
            · have ja : i + -1 + 1 ≤ j := ja
              by_cases e : j = i
              · rw [e]; exact .inl hp
              · exact g3 j (by omega) jb
            · show fr ≤ i + -1 + 1; omega
            · show i + -1 + 1 ≤ stp; omega
            · show spl g (i + -1 + 1) (to - (i + -1 + 1)).toNat = sg g (i + -1 + 1) (stp - (i + -1 + 1)).toNat :: dn
              rw [show i + -1 + 1 = i by omega, ek, spl_no hsl g7, show (stp - i).toNat = (stp - (i + 1)).toNat + 1 by omega]; rfl
            · show i + -1 + 1 < i + 1; omega
            · show 0 ≤ i + 1; omega
          · rw [if_pos rfl]
            refine ev_inr (show TGQ n a T s t g fr to q K0 c0 (0, aw n a T s1 t1) from ⟨s1, t1, rfl, g2, .inl ⟨rfl, fun hh => ?_⟩⟩)
            rcases hh.1 i (by omega) (by omega) with z | z
            · exact hp z
            · exact hsl z
    · show spl g (to - 1 + 1) (to - (to - 1 + 1)).toNat = sg g (to - 1 + 1) (to - (to - 1 + 1)).toNat :: []
      rw [show (to - (to - 1 + 1)).toNat = 0 by omega]; rfl
  · cases z with
    | inl n1 => exact ev_ok hz
    | inr z =>
      cases z with
      | inl n1 => exact ev_ok hz
      | inr z =>
        obtain ⟨stp, n1⟩ := z
        obtain ⟨s1, t1, dn, g1, g2, g3, g5, g6, g7, g8, g9, g10, g11⟩ := hz
        simp only at g1 g5 g6 g7 g9 g11
        subst g1
        show ev (if stp = fr then some (1, aw n a T s1 t1) else if stp = en then nk_Address_takeSegments_99 1 stp fr d a (aw n a T s1 t1) else nk_Address_takeSegments_99 0 stp fr d a (aw n a T s1 t1)) _
        by_cases hz : stp = fr
        · rw [if_pos hz]
          have hs : sgs g fr (to - fr).toNat = dn := by
            unfold sgs; rw [g7, show (stp - fr).toNat = 0 by omega]; rfl
          have h6 := g10.2.2.2.1
          exact ev_ok ⟨s1, t1, rfl, g2, .inr ⟨rfl, g3, by rw [hs]; exact g8, by rw [hs]; exact h6, by rw [hs]; exact g10⟩⟩
        · rw [if_neg hz]
          have hs : sgs g fr (to - fr).toNat = sg g fr (stp - fr).toNat :: dn := by
            unfold sgs
            rw [g7, if_neg (fun z => by
              have := congrArg List.length z
              rw [show ((sg g fr (stp - fr).toNat :: dn).headD []) = sg g fr (stp - fr).toNat from rfl, sg_len] at this
              have : (stp - fr).toNat = 0 := this
              omega)]
          have key : ∀ lst : Int, (lst = 1 ∨ lst = 0) → (lst = 1 ↔ stp = en) → ev (nk_Address_takeSegments_99 lst stp fr d a (aw n a T s1 t1)) (TGQ n a T s t g fr to q K0 c0) := fun lst hl01 hl => by
            unfold nk_Address_takeSegments_99
            have hpc : pr q K0 c0 (sg g fr (stp - fr).toNat :: dn) = tkl lst (sg g fr (stp - fr).toNat) (pr q K0 c0 dn) := by
              rw [pr_cons]
              congr 1
              by_cases hz : en = to
              · rw [if_pos hz] at hqq
                by_cases hs : stp = to
                · rw [if_pos ⟨hqq.symm, g9.mpr hs⟩]; exact (hl.mpr (by omega)).symm
                · rw [if_neg (fun z => hs (g9.mp z.2))]
                  rcases hl01 with z | z
                  · have := hl.mp z; omega
                  · exact z.symm
              · rw [if_neg hz] at hqq
                rw [if_neg (fun z => by have := z.1; omega)]
                rcases hl01 with z | z
                · have := hl.mp z; omega
                · exact z.symm
            refine ev_tyA hA (ev_b2 (c_takeSeg (lst := lst) hA hd h1 h2 (by omega) ⟨g5, by omega, by omega⟩ g10 (by omega) (by rw [g2.1.1]; exact hs0)) (fun r n2 hr => ?_))
            obtain ⟨s2, t2, r1, r2, r3⟩ := hr
            simp only at r1 r3
            subst r1
            rcases r3 with ⟨z0, zb⟩ | ⟨z1, zc, zs⟩
            · rw [if_pos z0]
              refine ev_ok ⟨s2, t2, rfl, g2.trans r2, .inl ⟨rfl, fun hh => ?_⟩⟩
              obtain ⟨_, y2, y3⟩ := hh
              rw [hs] at y2 y3
              rcases zb with ⟨zw, zl⟩ | zl
              · have := y2 _ List.mem_cons_self zw
                rw [sg_len] at this; omega
              · rw [hpc] at y3
                have zl : 6 < (tkl lst (sg g fr (stp - fr).toNat) (pr q K0 c0 dn)).1.length := zl
                omega
            · rw [if_neg (by omega)]
              rw [← hpc] at zs
              refine ev_ok ⟨s2, t2, rfl, g2.trans r2, .inr ⟨rfl, g3, fun x hx => ?_, by rw [hs]; exact zs.2.2.2.1, by rw [hs]; exact zs⟩⟩
              rw [hs] at hx
              rcases List.mem_cons.mp hx with z | z
              · rw [z]; intro w; rw [sg_len]; have := zc w; omega
              · exact g8 x z
          exact ev_if (fun z => key 1 (.inl rfl) ⟨fun _ => z, fun _ => rfl⟩) (fun z => key 0 (.inr rfl) ⟨fun y => absurd y (by decide), fun y => absurd y z⟩)
end E3
