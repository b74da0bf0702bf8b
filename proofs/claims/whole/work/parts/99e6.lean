/-! AN ADDRESS OF THE CLASS is read: all of it -/
theorem spl_len {g : Int → Int} : ∀ (k : Nat) (i : Int), (spl g i k).length ≤ k + 1 := by
  intro k
  induction k with
  | zero => intro i; exact Nat.le_refl _
  | succ k ih =>
    intro i
    have := ih (i + 1)
    show (if g i = 47 then [] :: spl g (i + 1) k else (g i :: (spl g (i + 1) k).headD []) :: (spl g (i + 1) k).tail).length ≤ _
    split
    · rw [List.length_cons]; omega
    · rw [List.length_cons, List.length_tail]; omega
theorem sgs_len {g : Int → Int} {i : Int} {k : Nat} : (sgs g i k).length ≤ k + 1 := by
  have := spl_len (g := g) k i
  unfold sgs
  split
  · rw [List.length_tail]; omega
  · exact this
theorem tk_cntF : ∀ (ss : List (List Int)) (x : List (List Int) × Nat), (ss.foldr tk x).2 ≤ x.2 + ss.length := by
  intro ss
  induction ss with
  | nil => intro x; exact Nat.le_refl _
  | cons s ss ih =>
    intro x
    show (tk s (ss.foldr tk x)).2 ≤ _
    have h1 := tk_cnt s (ss.foldr tk x)
    have h2 := ih x
    rw [List.length_cons]; omega
theorem pr_fold {pre ss : List (List Int)} : (pre.foldr tk (pr 1 [] 0 ss)).1 = (pre ++ ss).foldl psh [] ++ eL ss := by
  unfold pr
  rw [if_pos rfl, ← List.foldr_append, tk_psh _ _ rfl (eL ss) 0, Nat.sub_zero, List.take_length]
/-- a written path, its parts that count -/
theorem sgs_pth {g : Int → Int} {ss : List (List Int)} {i : Int} (hc : ∀ s ∈ ss, ∀ c ∈ s, c ≠ 47) (hg : sg g i (pth ss).length = pth ss) : sgs g i (pth ss).length = ss := by
  by_cases hz : ss = []
  · subst hz; rfl
  · unfold sgs
    rw [spl_pth ss i hz hc hg]; rfl
theorem pth_app (x y : List (List Int)) : pth (x ++ y) = pth x ++ pth y := by unfold pth; exact List.flatMap_append
theorem sg_mid {t : Int → Int} {i : Int} {X Y Z : List Int} (h : sg t i (X ++ (Y ++ Z)).length = X ++ (Y ++ Z)) : sg t (i + (X.length : Int)) Y.length = Y := by
  rw [List.length_append, sg_app] at h
  have h1 := (List.append_inj h (sg_len _ _ _)).2
  rw [List.length_append, sg_app] at h1
  exact (List.append_inj h1 (sg_len _ _ _)).1
theorem sg_pre {t : Int → Int} {i : Int} {X Z : List Int} (h : sg t i (X ++ Z).length = X ++ Z) : sg t i X.length = X := by
  rw [List.length_append, sg_app] at h
  exact (List.append_inj h (sg_len _ _ _)).1
section E6
variable {n : NS} {a T d l i to at' st b Tb : Int} {s t g sb tb : Int → Int} {X q mk nm bnm bq bmk : List Int} {K bss pre : List (List Int)}
theorem c_fin221 (hA : AC n a T) (hd : tx n d g l) (h1 : d ≠ a) (h2 : d ≠ T) (ha : 0 ≤ at' ∧ at' ≤ st) (hto : st ≤ to ∧ to ≤ l ∧ to ≤ 100000) (hs0 : s 0 = T) (h35 : st < to → g st = 63 ∨ g st = 35) {c : Nat} (hS : SGS s t K c) (hcb : c ≤ 100000) (hc : K = [] → c = 0) (hn : 1 ≤ nm.length ∧ nm.length ≤ 8) (e1 : s 1 = pk nm) (e2 : s 2 = 2 + (nm.length : Int)) (hX : sg t 0 ([47, 47] ++ nm).length = [47, 47] ++ nm) : ev (nk_Address_read_221 a d to st at' (aw n a T s t)) (RDQ n a T ((RTl g st to []).map (fun r => (nm, (if K = [] then [[]] else K), r.1, r.2)))) := by
  have hne := hA.ne
  have hq1 := hS.1
  unfold nk_Address_read_221
  refine ev_tyA hA ?_
  rw [aw_a hne, hq1]
  refine ev_if (fun h0 => ?_) (fun h0 => ?_)
  · have hK : K = [] := List.length_eq_zero_iff.mp (by omega)
    subst hK
    have hc0 := hc rfl
    subst hc0
    rw [if_pos rfl]
    refine ev_tyA hA (ev_b2 (c_takeSeg (lst := 0) (i := at') (to := at') hA hd h1 h2 ha.1 ⟨Int.le_refl _, by omega, by omega⟩ hS hcb hs0) (fun r n1 hr => ?_))
    rw [show (at' - at').toNat = 0 by omega] at hr
    obtain ⟨s1, t1, r1, r2, r3⟩ := hr
    simp only at r1 r3
    subst r1
    have hk : tkl 0 (sg g at' 0) ([], 0) = ([[]], 0) := rfl
    rw [hk] at r3
    rcases r3 with ⟨y1, y2⟩ | ⟨y1, y2, y3⟩
    · rcases y2 with ⟨_, y⟩ | y
      · omega
      · exact absurd y (by decide)
    · exact c_fin239 hA hd h1 h2 (by omega) hto (by rw [r2.1.1]; exact hs0) h35 y3 hn (by rw [r2.1.2.1]; exact e1) (by rw [r2.1.2.2.1]; exact e2) (by
        refine Eq.trans (sg_cg _ _ 0 (fun x hx => r2.2 _ ?_)) hX
        rw [List.length_append] at hx
        have hx : x < 2 + nm.length := hx
        omega)
  · rw [if_neg (fun z => h0 (by rw [z]; rfl))]
    exact c_fin239 hA hd h1 h2 (by omega) hto hs0 h35 hS hn e1 e2 hX
theorem c_lastSlash (hB : BS n a T b Tb sb tb bnm bss bq bmk) : N_Address_lastSlash b (aw n a T s t) = some (sb 2 + ((pth bss.dropLast).length : Int)) := by
  obtain ⟨hAb, ⟨b2, b3, b4, b5⟩, b7, b12, b8, hC, hW⟩ := hB
  obtain ⟨c1, c2, c3, c4, c5, c6⟩ := hC
  obtain ⟨w1, ⟨w2, w3, w4⟩, w5, w6⟩ := hW
  have tyb : ∀ {α : Type} {Q : α → Prop} {x : Option α}, ev x Q → ev (ty (aw n a T s t) b 101 x) Q := fun {α Q x} z => ev_ty (by rw [aw_K (by decide)]; exact hAb.2.1) z
  have rb : aw n a T s t 99 b = sb := by rw [aw_q b2 b3]; exact b7
  have rT : aw n a T s t 99 Tb = tb := by rw [aw_q b4 b5]; exact b12
  have es : bss = bss.dropLast ++ [bss.getLast w2] := (List.dropLast_concat_getLast w2).symm
  generalize hD : bss.dropLast = D at *
  generalize hE : bss.getLast w2 = E at *
  have hEm : E ∈ bss := by rw [es]; simp
  have hE4 := w4 E hEm
  have hp : pth bss = pth D ++ (47 :: E) := by
    rw [es, pth_app]
    show pth D ++ ((47 :: E) ++ []) = _
    rw [List.append_nil]
  have hpl : (pth bss).length = (pth D).length + 1 + E.length := by rw [hp, List.length_append, List.length_cons]; omega
  have hp6 := pth_len bss (fun x hx => (w4 x hx).1)
  -- the bytes of the path
  have hpath : sg tb (sb 2) (pth bss).length = pth bss := by
    have ea : adL bnm bss bq ++ mkL bmk = ([47, 47] ++ bnm) ++ (pth bss ++ (bq ++ mkL bmk)) := by unfold adL; simp only [List.append_assoc]
    rw [ea] at c6
    have z2 := sg_mid c6
    rw [show (0 : Int) + ((([47, 47] ++ bnm : List Int).length : Nat) : Int) = sb 2 by rw [List.length_append, c2]; show (0 : Int) + ((2 + bnm.length : Nat) : Int) = _; omega] at z2
    exact z2
  rw [hpl, show (pth D).length + 1 + E.length = (pth D).length + (1 + E.length) by omega, sg_app, sg_app, hp] at hpath
  have y1 := List.append_inj hpath (by rw [sg_len])
  have y2 : sg tb (sb 2 + ((pth D).length : Int)) 1 ++ sg tb (sb 2 + ((pth D).length : Int) + ((1 : Nat) : Int)) E.length = [47] ++ E := y1.2
  have y3 := List.append_inj y2 (by rw [sg_len]; rfl)
  have z47 : tb (sb 2 + ((pth D).length : Int)) = 47 := by have := y3.1; simpa [sg] using this
  have zno : ∀ j, sb 2 + ((pth D).length : Int) < j → j < sb 3 → tb j ≠ 47 := fun j ja jb hz => by
    have := sg_at (g := tb) E.length (sb 2 + ((pth D).length : Int) + ((1 : Nat) : Int)) (j - (sb 2 + ((pth D).length : Int) + 1)).toNat (by omega)
    rw [show sb 2 + ((pth D).length : Int) + ((1 : Nat) : Int) + (((j - (sb 2 + ((pth D).length : Int) + 1)).toNat : Nat) : Int) = j by omega, y3.2, hz] at this
    have := hE4.2.2 47 this
    omega
  apply eq_of_ev
  unfold N_Address_lastSlash
  refine tyb ?_
  rw [rb]
  refine ev_ck (by omega) ?_
  rw [bind_id]
  unfold NL_Address_lastSlash_7
  refine ev_it (fun j : Int => sb 2 + ((pth D).length : Int) ≤ j ∧ j < sb 3) (fun j => j) (fun j hj => ?_) ⟨by omega, by omega⟩
  show ev (nb_Address_lastSlash_7 b j (aw n a T s t)) _
  unfold nb_Address_lastSlash_7
  refine tyb ?_
  rw [rb, b8, rT]
  refine ev_if (fun hlt => tyb (ev_nn hAb.2.2.1.1 (ev_dx ⟨by rw [aw_K (by decide)]; exact hAb.2.2.2.1, by omega, by rw [aw_K (by decide), hAb.2.2.2.2]; omega⟩ ?_))) (fun hge => ev_inr (show j = _ by omega))
  by_cases hz : j = sb 2 + ((pth D).length : Int)
  · rw [hz, z47, if_pos rfl]; exact ev_inr rfl
  · rw [if_neg (zno j (by omega) hj.2)]
    exact ev_ck (by omega) (ev_inl ⟨⟨by omega, by omega⟩, by omega, by omega⟩)
end E6
