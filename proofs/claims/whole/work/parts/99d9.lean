/-! SERIALISE: the walk -/
theorem ev_itu {σ ρ : Type} {f : σ → Option (σ ⊕ ρ)} {R : ρ → Prop} {s : σ} (h : ev (f s) (sp (fun s' => ev (it f s') R) R)) : ev (it f s) R := by
  obtain ⟨o, ho, hl⟩ := h
  rw [ev, it_eq, ho]
  cases o with
  | inl s' => exact hl
  | inr r => exact ⟨r, rfl, hl⟩
theorem ev_ul {σ ρ : Type} {f : σ → Option (σ ⊕ ρ)} {R : ρ → Prop} {s' : σ} (h : ev (it f s') R) : ev (some (Sum.inl s')) (sp (fun s' => ev (it f s') R) R) := ⟨_, rfl, h⟩
theorem ev_ur {σ ρ : Type} {f : σ → Option (σ ⊕ ρ)} {R : ρ → Prop} {r : ρ} (h : R r) : ev (some (Sum.inr r)) (sp (fun s' => ev (it f s') R) R) := ⟨_, rfl, h⟩
/-- what an element may be that can be begun and not ended -/
abbrev opN (t : Int) : Prop := t ≠ 17 ∧ ¬ (10 ≤ t ∧ t ≤ 13)
/-- nothing lies in a TEXT or in an element that is always empty -/
def JP (m : YS) (N : Int) (o p : Int → Int) : Prop := ∀ k, 1 ≤ k → k < N → opN (m 46 (o (p k)))
/-- which ends come behind a node's own one, and at which node that stops -/
def CRn (EL : Int → List Int) (e p : Int → Int) (t : Int) : Nat → Int → List Int → Int → Prop
  | 0, _, _, _ => False
  | k + 1, x, l, y => (x = t ∧ l = [] ∧ y = t) ∨ (x ≠ t ∧ e (p x) ≠ e x ∧ l = [] ∧ y = x) ∨ (x ≠ t ∧ e (p x) = e x ∧ ∃ l', CRn EL e p t k (p x) l' y ∧ l = EL (p x) ++ l')
def CR (EL : Int → List Int) (e p : Int → Int) (t x : Int) (l : List Int) (y : Int) : Prop := ∃ k, CRn EL e p t k x l y
section CRs
variable {EL : Int → List Int} {e p : Int → Int} {t : Int}
theorem CR.top : CR EL e p t t [] t := ⟨1, .inl ⟨rfl, rfl, rfl⟩⟩
theorem CR.stop (x : Int) (h1 : x ≠ t) (h2 : e (p x) ≠ e x) : CR EL e p t x [] x := ⟨1, .inr (.inl ⟨h1, h2, rfl, rfl⟩)⟩
theorem CR.up (x y : Int) (l : List Int) (h1 : x ≠ t) (h2 : e (p x) = e x) (h3 : CR EL e p t (p x) l y) : CR EL e p t x (EL (p x) ++ l) y := by
  obtain ⟨k, hk⟩ := h3
  exact ⟨k + 1, .inr (.inr ⟨h1, h2, l, hk, rfl⟩)⟩
theorem CR.ind {M : Int → List Int → Int → Prop} (h1 : M t [] t) (h2 : ∀ x, x ≠ t → e (p x) ≠ e x → M x [] x) (h3 : ∀ x y l, x ≠ t → e (p x) = e x → CR EL e p t (p x) l y → M (p x) l y → M x (EL (p x) ++ l) y) {x y : Int} {l : List Int} (hc : CR EL e p t x l y) : M x l y := by
  obtain ⟨k, hk⟩ := hc
  induction k generalizing x l with
  | zero => exact absurd hk id
  | succ k ih =>
    rcases hk with ⟨a, b, c⟩ | ⟨a, b, c, d⟩ | ⟨a, b, l', c, d⟩
    · subst a; subst b; rw [c]; exact h1
    · subst c; subst d; exact h2 _ a b
    · subst d; exact h3 x y l' a b ⟨k, c⟩ (ih c)
end CRs
section D9
variable {n n' : NS} {m m' : YS} {A B N t v x y kk : Int} {o e p par fk nx : Int → Int} {l : List Int} {EL : Int → List Int}
theorem CR_ex (h : TG N o e p par fk nx) (h0 : 0 ≤ t) (h1 : t < N) : ∀ (k : Nat) (x : Int), x < k → t ≤ x → x < e t → ∃ l y, CR EL e p t x l y := by
  intro k
  induction k with
  | zero => intro x a b c; omega
  | succ k ih =>
    intro x a b c
    have hE := h.eB h0 h1
    by_cases z : x = t
    · subst z; exact ⟨_, _, CR.top⟩
    · have q := h.pB (k := x) (by omega) (by omega)
      have q2 := h.inP (t := t) (k := x) h0 h1 (by omega) c
      by_cases z2 : e (p x) = e x
      · obtain ⟨l, y, hl⟩ := ih (p x) (by omega) q2 (by omega)
        exact ⟨_, _, CR.up x y l z z2 hl⟩
      · exact ⟨_, _, CR.stop x z z2⟩
theorem CR.at (hc : CR EL e p t x l y) (h : TG N o e p par fk nx) (h0 : 0 ≤ t) (h1 : t < N) (h2 : t ≤ x) (h3 : x < e t) : t ≤ y ∧ y < e t ∧ e y = e x ∧ (y ≠ t → e (p y) ≠ e y) := by
  have hE := h.eB h0 h1
  revert h2 h3
  refine CR.ind (M := fun x l y => t ≤ x → x < e t → t ≤ y ∧ y < e t ∧ e y = e x ∧ (y ≠ t → e (p y) ≠ e y)) ?_ ?_ ?_ hc
  · intro h2 h3; exact ⟨h2, h3, rfl, fun z => absurd rfl z⟩
  · intro x a b h2 h3; exact ⟨h2, h3, rfl, fun _ => b⟩
  · intro x y l a b c ih h2 h3
    have q := h.pB (k := x) (by omega) (by omega)
    have q2 := h.inP (t := t) (k := x) h0 h1 (by omega) h3
    obtain ⟨i1, i2, i3, i4⟩ := ih q2 (by omega)
    exact ⟨i1, i2, i3.trans b, i4⟩
theorem BI.fl (h : BI A B n) (he : ∀ K, K ≠ 7 → K ≠ 10 → K ≠ 22 → n' K = n K) : BI A B n' := by
  unfold BI B1 capT capS cap at *
  rw [he 4 (by decide) (by decide) (by decide), he 5 (by decide) (by decide) (by decide), he 90 (by decide) (by decide) (by decide), he 91 (by decide) (by decide) (by decide), he 92 (by decide) (by decide) (by decide), he 93 (by decide) (by decide) (by decide)]
  exact h
theorem NG.fl (hF : FL n n') (v : Int) : NG n n' v := by
  refine ⟨fun s hs => hF.2.1 v s (by omega) (by omega), by rw [hF.1 18 (by decide) (by decide) (by decide)], fun b _ _ => ?_⟩
  unfold bt
  rw [hF.1 4 (by decide) (by decide) (by decide), hF.1 99 (by decide) (by decide) (by decide)]
theorem JS.fl (h : JS n m N o e p) (hF : FL n n') : JS n' m N o e p := by
  refine ⟨h.1, h.2.1, h.2.2.1, fun v a b => ?_, fun k a b => ?_, ?_⟩
  · rw [hF.2.1 v 0 (by decide) (by decide)]; exact h.2.2.2.1 v a b
  · unfold lnk
    rw [hF.2.1 _ 2 (by decide) (by decide), hF.2.1 _ 3 (by decide) (by decide), hF.2.1 _ 4 (by decide) (by decide), hF.2.1 _ 5 (by decide) (by decide), hF.2.1 _ 7 (by decide) (by decide), hF.2.1 _ 10 (by decide) (by decide)]
    exact h.2.2.2.2.1 k a b
  · rw [hF.2.2 5 (by decide) (by decide), hF.2.2 7 (by decide) (by decide)]; exact h.2.2.2.2.2
/-- the class's list is made, all else stays -/
theorem JT.list (h : JT n m N o e p) (hB : BI A B n) : ev (N_Tree_list n) (fun n' => JT n' m N o e p ∧ LSt n' N o e ∧ FL n n' ∧ BI A B n') := by
  refine ev_mono (c_list h.1.TC h.2.2.1.2) (fun n' h' => ?_)
  obtain ⟨hF, h4, hL⟩ := h'
  refine ⟨⟨h.1.fl hF, fun k a b => ?_, ⟨by omega, fun _ => hL⟩, fun k a b => (h.2.2.2 k a b).cg (YG.refl _ _) (NG.fl hF _)⟩, hL, hF, hB.fl hF.1⟩
  rw [hF.2.1 _ 6 (by decide) (by decide)]; exact h.2.1 k a b
theorem c_chain (hT : JT n m N o e p) (hL : LSt n N o e) (hB : BI A B n) (h0 : 0 ≤ t) (h1 : t < N) {v3 : Int} (hc : CR (fun x => ELv m (o x)) e p t x l y) : t ≤ x → x < e t → e x = kk + 1 → ∀ n1, BI A B n1 → FB (fun x => x = 606) n n1 → ev (NL_Tree_print_52 (o t) 606 v3 kk (o x) n1) (fun n' => AP A B 606 n1 n' (ELv m (o x) ++ l)) := by
  have hG := hT.1.1
  have hE := hG.eB h0 h1
  have hN := hG.N1
  have head : ∀ x, t ≤ x → x < e t → e x = kk + 1 → ∀ n1, BI A B n1 → FB (fun x => x = 606) n n1 → ∀ (W : Sum (Int × NS) NS → Prop), (∀ n2, AP A B 606 n1 n2 (ELv m (o x)) → ev (if o x = o t then some (Sum.inl ((-1 : Int), n2)) else ix (o x) 120 (some (Sum.inl (n2 7 (o x) 2, n2)))) W) → ev (nb_Tree_print_52 (o t) 606 v3 kk (o x) n1) W := fun x a b c n1 hB1 hF1 W hW => by
    have hox := hG.oB (k := x) (by omega) (by omega)
    have hxe := hG.eB (k := x) (by omega) (by omega)
    have hd1 : ND n1 m (o x) := (hT.2.2.2 x (by omega) (by omega)).cg (YG.refl _ _) (NG.fb hF1 hB (fun x hx => by omega) hox)
    have e7 := hF1.1 7 (by decide) (by decide) (by decide) (by decide) (by decide) (by decide)
    unfold nb_Tree_print_52
    rw [if_neg (by omega)]
    refine ev_ix hox (ev_ck (by omega) ?_)
    rw [show n1 7 (o x) 9 = e x by rw [e7]; exact (hL.2 x (by omega) (by omega)).2.2, if_pos c]
    exact ev_ix hox (ev_bind (c_end hB1 hd1) hW)
  refine CR.ind (M := fun x l y => t ≤ x → x < e t → e x = kk + 1 → ∀ n1, BI A B n1 → FB (fun x => x = 606) n n1 → ev (NL_Tree_print_52 (o t) 606 v3 kk (o x) n1) (fun n' => AP A B 606 n1 n' (ELv m (o x) ++ l))) ?_ ?_ ?_ hc
  · intro a b c n1 hB1 hF1
    unfold NL_Tree_print_52
    refine ev_itu (head t a b c n1 hB1 hF1 _ (fun n2 a2 => ?_))
    rw [if_pos rfl]
    refine ev_ul (ev_itu ?_)
    show ev (nb_Tree_print_52 (o t) 606 v3 kk (-1) n2) _
    unfold nb_Tree_print_52
    rw [if_pos rfl]
    exact ev_ur (by rw [List.append_nil]; exact a2)
  · intro x z1 z2 a b c n1 hB1 hF1
    unfold NL_Tree_print_52
    refine ev_itu (head x a b c n1 hB1 hF1 _ (fun n2 a2 => ?_))
    have q := hG.pB (k := x) (by omega) (by omega)
    have q2 := hG.inP (t := t) (k := x) h0 h1 (by omega) b
    have hop := hG.oB (k := p x) (by omega) (by omega)
    have hF2 := hF1.trans a2.2.1
    have e7 := hF2.1 7 (by decide) (by decide) (by decide) (by decide) (by decide) (by decide)
    rw [if_neg (fun z => z1 (hG.inj (by omega) (by omega) h0 h1 z))]
    refine ev_ix (hG.oB (by omega) (by omega)) ?_
    rw [show n2 7 (o x) 2 = o (p x) by rw [e7]; exact hT.1.TC.1.parE (by omega) (by omega)]
    refine ev_ul (ev_itu ?_)
    show ev (nb_Tree_print_52 (o t) 606 v3 kk (o (p x)) n2) _
    unfold nb_Tree_print_52
    rw [if_neg (by omega)]
    refine ev_ix hop (ev_ck (by have := hG.eB (k := x) (by omega) (by omega); omega) ?_)
    rw [show n2 7 (o (p x)) 9 = e (p x) by rw [e7]; exact (hL.2 (p x) (by omega) (by omega)).2.2, if_neg (by omega)]
    exact ev_ur (by rw [List.append_nil]; exact a2)
  · intro x y l z1 z2 z3 ih a b c n1 hB1 hF1
    have q := hG.pB (k := x) (by omega) (by omega)
    have q2 := hG.inP (t := t) (k := x) h0 h1 (by omega) b
    unfold NL_Tree_print_52
    refine ev_itu (head x a b c n1 hB1 hF1 _ (fun n2 a2 => ?_))
    have hF2 := hF1.trans a2.2.1
    have e7 := hF2.1 7 (by decide) (by decide) (by decide) (by decide) (by decide) (by decide)
    rw [if_neg (fun z => z1 (hG.inj (by omega) (by omega) h0 h1 z))]
    refine ev_ix (hG.oB (by omega) (by omega)) ?_
    rw [show n2 7 (o x) 2 = o (p x) by rw [e7]; exact hT.1.TC.1.parE (by omega) (by omega)]
    refine ev_ul ?_
    have := ih q2 (by omega) (by omega) n2 a2.1 hF2
    unfold NL_Tree_print_52 at this
    exact ev_mono this (fun n3 a3 => a2.trans a3)
theorem y_chain (hT : JT n m N o e p) (hP : JP m N o p) (h0 : 0 ≤ t) (h1 : t < N) (hc : CR (fun x => ELv m (o x)) e p t x l y) : t ≤ x → x < e t → ∀ m1, FY [4, 5] m m1 → (0 ≤ m1 5 0 ∧ m1 5 0 ≤ 8000) → ev (NL_Y_serialise_128 (o t) (o x) m1) (fun r => r.1 = o y ∧ SY1 m1 r.2 l) := by
  have hG := hT.1.1
  have hE := hG.eB h0 h1
  have hN := hG.N1
  refine CR.ind (M := fun x l y => t ≤ x → x < e t → ∀ m1, FY [4, 5] m m1 → (0 ≤ m1 5 0 ∧ m1 5 0 ≤ 8000) → ev (NL_Y_serialise_128 (o t) (o x) m1) (fun r => r.1 = o y ∧ SY1 m1 r.2 l)) ?_ ?_ ?_ hc
  · intro a b m1 hF1 hb
    unfold NL_Y_serialise_128
    refine ev_itu ?_
    show ev (nb_Y_serialise_128 (o t) (o t) m1) _
    unfold nb_Y_serialise_128
    rw [if_pos rfl]
    exact ev_ur ⟨rfl, SY1.nil hb⟩
  · intro x z1 z2 a b m1 hF1 hb
    unfold NL_Y_serialise_128
    refine ev_itu ?_
    show ev (nb_Y_serialise_128 (o t) (o x) m1) _
    unfold nb_Y_serialise_128
    have q := hG.pB (k := x) (by omega) (by omega)
    have q3 := hG.ep (k := x) (by omega) (by omega)
    have q4 := hG.eB (k := p x) (by omega) (by omega)
    have q5 := hG.eB (k := x) (by omega) (by omega)
    have hoe := hG.oB (k := e x) (by omega) (by omega)
    rw [if_neg (fun z => z1 (hG.inj (by omega) (by omega) h0 h1 z))]
    refine ev_ix (hG.oB (by omega) (by omega)) ?_
    rw [hF1 52 (by decide), hG.nxE (k := x) (by omega) (by omega), if_pos (show e x < e (p x) by omega), if_neg (by omega)]
    exact ev_ur ⟨rfl, SY1.nil hb⟩
  · intro x y l z1 z2 z3 ih a b m1 hF1 hb
    have q := hG.pB (k := x) (by omega) (by omega)
    have q2 := hG.inP (t := t) (k := x) h0 h1 (by omega) b
    have hop := hG.oB (k := p x) (by omega) (by omega)
    unfold NL_Y_serialise_128
    refine ev_itu ?_
    show ev (nb_Y_serialise_128 (o t) (o x) m1) _
    unfold nb_Y_serialise_128
    rw [if_neg (fun z => z1 (hG.inj (by omega) (by omega) h0 h1 z))]
    refine ev_ix (hG.oB (by omega) (by omega)) ?_
    rw [hF1 52 (by decide), hF1 49 (by decide), hG.nxE (k := x) (by omega) (by omega), if_neg (show ¬ e x < e (p x) by omega), if_pos rfl, hG.parE (k := x) (by omega) (by omega)]
    refine ev_ix (hG.oB (by omega) (by omega)) ?_
    have hd1 : ND n m1 (o (p x)) := (hT.2.2.2 (p x) (by omega) (by omega)).fy hF1
    refine ev_bind (y_end hd1 hop hb (by rw [hF1 46 (by decide)]; exact (hP x (by omega) (by omega)).1)) (fun m2 a2 => ev_ul ?_)
    rw [(SLv_cg (v := o (p x)) hF1).2] at a2
    have := ih q2 (by omega) m2 (hF1.trans a2.1) a2.2.1
    unfold NL_Y_serialise_128 at this
    exact ev_mono this (fun r hr => ⟨hr.1, a2.trans hr.2⟩)
end D9
