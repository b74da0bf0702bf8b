/-! A RUN of text, in both: where it goes -/
/-- the elements that are begun and not ended: the last ones, each in the one before -/
def JO (n : NS) (m : YS) (N : Int) (o e p qs : Int → Int) (oc : Int) : Prop :=
  (n 8 0 6 = oc ∧ m 74 0 = oc ∧ 1 ≤ oc ∧ oc ≤ 21) ∧ qs 0 = 0
  ∧ (∀ j, 0 ≤ j → j < oc → (0 ≤ qs j ∧ qs j < N) ∧ e (qs j) = N ∧ n 30 0 j = o (qs j) ∧ m 73 j = o (qs j) ∧ opN (m 46 (o (qs j))) ∧ m 54 (o (qs j)) = j)
  ∧ (∀ j, 1 ≤ j → j < oc → p (qs j) = qs (j - 1) ∧ n 31 0 j = m 67 (o (qs j)))
/-- what is left of the state before -/
def J6 (Z : NS × YS) (n : NS) (m : YS) : Prop := (0 ≤ n 10 0 6 ∧ Z.1 10 0 6 < 1000000000 ∧ Z.2 69 0 < 1000000000) ∧ FRR Z.1 n ∧ FYR Z.2 m
theorem J6.cg {Z : NS × YS} {n n' : NS} {m m' : YS} (h : J6 Z n m) (h1 : FRR n n') (h2 : FYR m m') : J6 Z n' m' := ⟨⟨by have := h.1.1; have := h1.2.2.2.2.2.2; omega, h.1.2⟩, h.2.1.trans h1, h.2.2.trans h2⟩
def JR (Z : NS × YS) (A B : Int) (n : NS) (m : YS) (N : Int) (o e p qs : Int → Int) (oc : Int) : Prop :=
  BI A B n ∧ JT n m N o e p ∧ JP m N o p ∧ JF n m ∧ JSrc n m ∧ JO n m N o e p qs oc ∧ JCut n m N o (o (qs (oc - 1))) ∧ J6 Z n m
/-- what a node has cost in bytes of its tag -/
def at1 (m : YS) (v a : Int) : Int := if a < m 56 v then m 58 (4 * v + a) + m 60 (4 * v + a) else 0
def wt (m : YS) (v : Int) : Int := if m 46 v = 17 then 0 else 1 + m 48 v + (at1 m v 0 + at1 m v 1 + at1 m v 2 + at1 m v 3)
def wtS (m : YS) : Int := zsm (fun v => if m 45 v = 1 then wt m v else 0) 0 120
theorem wt_cg {m m' : YS} {v : Int} (h : YG m m' v) : wt m' v = wt m v := by
  obtain ⟨⟨a1, a2, a3, a4, a5, a6⟩, a7, a8, a9⟩ := h
  have b0 := a8 (4 * v + 0) (by omega) (by omega)
  have b1 := a8 (4 * v + 1) (by omega) (by omega)
  have b2 := a8 (4 * v + 2) (by omega) (by omega)
  have b3 := a8 (4 * v + 3) (by omega) (by omega)
  unfold wt at1
  rw [a1, a2, a3, b0.1, b0.2, b1.1, b1.2, b2.1, b2.2, b3.1, b3.2]
theorem wtS_cg {m m' : YS} (h45 : m' 45 = m 45) (h : ∀ f, f = 46 ∨ f = 48 ∨ f = 56 ∨ f = 58 ∨ f = 60 → m' f = m f) : wtS m' = wtS m := by
  unfold wtS
  refine zsm_cg (fun v _ _ => ?_)
  unfold wt at1
  rw [h45, h 46 (by omega), h 48 (by omega), h 56 (by omega), h 58 (by omega), h 60 (by omega)]
theorem wtS_fy {l : List Nat} {m m' : YS} (h : FY l m m') (hl : ∀ f ∈ l, f ≠ 45 ∧ f ≠ 46 ∧ f ≠ 48 ∧ f ≠ 56 ∧ f ≠ 58 ∧ f ≠ 60) : wtS m' = wtS m := wtS_cg (h 45 (fun z => (hl 45 z).1 rfl)) (fun f hf => h f (fun z => by have := hl f z; omega))
/-- a node has come -/
theorem wtS_new {m m' : YS} {f : Int} (hf : 0 ≤ f ∧ f < 120) (h0 : m 45 f = 0) (h1 : m' 45 f = 1) (ho : ∀ u, u ≠ f → m' 45 u = m 45 u) (hy : ∀ u, u ≠ f → YG m m' u) : wtS m' = wtS m + wt m' f := by
  unfold wtS
  rw [zsm_add (a := 0) (b := f) (c := 120) hf.1 (by omega), zsm_add (g := fun v => if m 45 v = 1 then wt m v else 0) (a := 0) (b := f) (c := 120) hf.1 (by omega), zsm_add (a := f) (b := f + 1) (c := 120) (by omega) (by omega), zsm_add (g := fun v => if m 45 v = 1 then wt m v else 0) (a := f) (b := f + 1) (c := 120) (by omega) (by omega), zsm_succ (Int.le_refl f), zsm_succ (g := fun v => if m 45 v = 1 then wt m v else 0) (Int.le_refl f), zsm_nil (Int.le_refl f), zsm_nil (g := fun v => if m 45 v = 1 then wt m v else 0) (Int.le_refl f)]
  have e1 : zsm (fun v => if m' 45 v = 1 then wt m' v else 0) 0 f = zsm (fun v => if m 45 v = 1 then wt m v else 0) 0 f := zsm_cg (fun v a b => by
    show (if m' 45 v = 1 then wt m' v else 0) = if m 45 v = 1 then wt m v else 0
    rw [ho v (by omega), wt_cg (hy v (by omega))])
  have e2 : zsm (fun v => if m' 45 v = 1 then wt m' v else 0) (f + 1) 120 = zsm (fun v => if m 45 v = 1 then wt m v else 0) (f + 1) 120 := zsm_cg (fun v a b => by
    show (if m' 45 v = 1 then wt m' v else 0) = if m 45 v = 1 then wt m v else 0
    rw [ho v (by omega), wt_cg (hy v (by omega))])
  rw [e1, e2, h0, h1, if_pos rfl, if_neg (show ¬ (0 : Int) = 1 by decide)]
  omega
/-- the counts have room for the rest -/
def JCn (Z : NS × YS) (n : NS) (m : YS) (a : Int) : Prop := n 10 0 6 + (m 76 0 - a) ≤ Z.1 10 0 6 + 2001 ∧ m 69 0 + (m 76 0 - a) ≤ Z.2 69 0 + 2001 ∧ m 70 0 ≤ 30 * a ∧ wtS m ≤ a + 4
section G7
variable {Z : NS × YS} {n n' : NS} {m m' : YS} {A B N i to r bl oc f : Int} {o e p qs : Int → Int}
theorem JO.cg (h : JO n m N o e p qs oc) (h8 : n' 8 0 6 = n 8 0 6) (h30 : n' 30 = n 30) (h31 : n' 31 = n 31) (h74 : m' 74 = m 74) (h73 : m' 73 = m 73) (h46 : ∀ j, 0 ≤ j → j < N → m' 46 (o j) = m 46 (o j) ∧ m' 54 (o j) = m 54 (o j) ∧ m' 67 (o j) = m 67 (o j)) : JO n' m' N o e p qs oc := by
  obtain ⟨a1, a2, a3, a4⟩ := h
  refine ⟨by rw [h8, h74]; exact a1, a2, fun j j0 j1 => ?_, fun j j0 j1 => ?_⟩
  · obtain ⟨b1, b2, b3, b4, b5, b6⟩ := a3 j j0 j1
    have := h46 (qs j) b1.1 b1.2
    rw [h30, h73, this.1, this.2.1]; exact ⟨b1, b2, b3, b4, b5, b6⟩
  · have b1 := (a3 j (by omega) j1).1
    have := h46 (qs j) b1.1 b1.2
    rw [h31, this.2.2]; exact a4 j j0 j1
theorem JO.up (h : JO n m N o e p qs oc) (hG : JS n m N o e p) : ∀ d : Nat, ∀ j, 0 ≤ j → j + d < oc → qs j ≤ qs (j + d) := by
  intro d
  induction d with
  | zero => intro j _ _; rw [show j + ((0 : Nat) : Int) = j by omega]; exact Int.le_refl _
  | succ d ih =>
    intro j j0 j1
    have h1 := ih j j0 (by omega)
    have h2 := h.2.2.2 (j + ((d + 1 : Nat) : Int)) (by omega) j1
    have h3 := (h.2.2.1 (j + ((d + 1 : Nat) : Int)) (by omega) j1).1
    have h5 : qs (j + ((d + 1 : Nat) : Int)) ≠ 0 := fun z => by
      have h6 := (h.2.2.1 (j + ((d + 1 : Nat) : Int)) (by omega) j1).2.2.2.2.2
      have h7 := (h.2.2.1 0 (by omega) (by omega)).2.2.2.2.2
      rw [h.2.1] at h7
      rw [z] at h6
      omega
    have h4 := hG.1.pB (k := qs (j + ((d + 1 : Nat) : Int))) (by omega) h3.2
    rw [show j + ((d + 1 : Nat) : Int) - 1 = j + (d : Int) by omega] at h2
    omega
/-- a node has come at the end -/
theorem JO.new (h : JO n m N o e p qs oc) (hG : JS n m N o e p) (hf : ∀ j, 0 ≤ j → j < N → o j ≠ f) (h8 : n' 8 0 6 = n 8 0 6) (h30 : n' 30 = n 30) (h31 : n' 31 = n 31) (h74 : m' 74 = m 74) (h73 : m' 73 = m 73) (h46 : ∀ u, u ≠ f → m' 46 u = m 46 u ∧ m' 54 u = m 54 u ∧ m' 67 u = m 67 u) : JO n' m' (N + 1) (insO o N f) (insE e (qs (oc - 1)) N) (insP p (qs (oc - 1)) N) qs oc := by
  have hup := h.up hG
  obtain ⟨a1, a2, a3, a4⟩ := h
  have io : ∀ x, x < N → insO o N f x = o x := fun x hx => by unfold insO; rw [if_pos hx]
  refine ⟨by rw [h8, h74]; exact a1, a2, fun j j0 j1 => ?_, fun j j0 j1 => ?_⟩
  · obtain ⟨b1, b2, b3, b4, b5, b6⟩ := a3 j j0 j1
    have hu := h46 (o (qs j)) (hf _ b1.1 b1.2)
    have hle := hup (oc - 1 - j).toNat j j0 (by omega)
    rw [show j + (((oc - 1 - j).toNat : Nat) : Int) = oc - 1 by omega] at hle
    rw [io _ b1.2, h30, h73, hu.1, hu.2.1]
    refine ⟨by omega, ?_, b3, b4, b5, b6⟩
    unfold insE
    rw [if_pos b1.2, if_pos ⟨hle, by omega⟩, b2]
  · have b1 := (a3 j (by omega) j1).1
    have hu := h46 (o (qs j)) (hf _ b1.1 b1.2)
    rw [io _ b1.2, h31, hu.2.2]
    have := a4 j j0 j1
    refine ⟨?_, this.2⟩
    unfold insP
    rw [if_pos b1.2]; exact this.1
theorem c_isBlankRun {g : Int → Int} {L : Int} (h : RDR n g L) (hi : 0 ≤ i ∧ i ≤ to ∧ to ≤ L) : ev (N_Reader_isBlankRun i to n) (bz (∀ j, i ≤ j → j < to → isBl (g j))) := by
  obtain ⟨h1, h2, h3, h4, h5⟩ := h
  unfold N_Reader_isBlankRun
  refine ev_bs (P := fun _ => ¬ ∀ j, i ≤ j → j < to → isBl (g j)) (R := fun _ => ∀ j, i ≤ j → j < to → isBl (g j)) ?_ (fun v h => ev_0 h) (fun v h => ev_1 h)
  unfold NL_Reader_isBlankRun_2
  refine ev_it (fun s : Int => i ≤ s ∧ s ≤ to ∧ ∀ j, i ≤ j → j < s → isBl (g j)) (fun s => to - s) (fun s hs => ?_) ⟨Int.le_refl _, hi.2.1, fun j a b => by omega⟩
  obtain ⟨q1, q2, q3⟩ := hs
  show ev (nb_Reader_isBlankRun_2 to s n) _
  unfold nb_Reader_isBlankRun_2
  refine ev_if (fun hlt => ev_nn h3 (ev_tx h1 ⟨by omega, by omega⟩ (fun e => ?_))) (fun hge => ev_inr (fun j a b => q3 j a (by omega)))
  rw [e]
  refine ev_bz cs_blank (fun hp => ?_) (fun hp => ?_)
  · rw [if_neg (by decide)]
    refine ev_ck (by omega) (ev_inl ⟨⟨by omega, by omega, fun j a b => ?_⟩, by omega, by omega⟩)
    by_cases z : j = s
    · rw [z]; exact hp
    · exact q3 j a (by omega)
  · rw [if_pos rfl]
    exact ev_inr (fun z => hp (z s q1 hlt))
/-- behind the reference's search for a run's end -/
noncomputable def runT (i r to bl : Int) (m : YS) : Option (Int × YS) :=
  ck ((m 74 0) - 1) <|
  ix ((m 74 0) - 1) 22 <|
  ix (m 73 ((m 74 0) - 1)) 120 <|
  if (m 51 (m 73 ((m 74 0) - 1))) = (-1) then
    nk_Y_run_133 i r to bl (m 73 ((m 74 0) - 1)) (m 51 (m 73 ((m 74 0) - 1))) m
  else
    ix (m 51 (m 73 ((m 74 0) - 1))) 120 <|
    if (m 46 (m 51 (m 73 ((m 74 0) - 1)))) = 17 then
      nk_Y_run_134 i r to bl (m 73 ((m 74 0) - 1)) (m 51 (m 73 ((m 74 0) - 1))) 1 m
    else
      nk_Y_run_133 i r to bl (m 73 ((m 74 0) - 1)) (m 51 (m 73 ((m 74 0) - 1))) m
end G7
