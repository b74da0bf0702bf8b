/-! AN ADDRESS OF THE CLASS is read -/
def adL (nm : List Int) (ss : List (List Int)) (q : List Int) : List Int := [47, 47] ++ (nm ++ (pth ss ++ q))
/-- slots and text hold an ADDRESS -/
def CAs (s t : Int → Int) (nm : List Int) (ss : List (List Int)) (q mk : List Int) : Prop := s 1 = pk nm ∧ s 2 = 2 + (nm.length : Int) ∧ s 3 = 2 + (nm.length : Int) + ((pth ss).length : Int) ∧ s 4 = s 3 + (q.length : Int) ∧ s 5 = s 4 + ((mkL mk).length : Int) ∧ sg t 0 (adL nm ss q ++ mkL mk).length = adL nm ss q ++ mkL mk
def WFA (nm : List Int) (ss : List (List Int)) (q mk : List Int) : Prop := (1 ≤ nm.length ∧ nm.length ≤ 8 ∧ ∀ c ∈ nm, isNm c) ∧ (ss ≠ [] ∧ ss.length ≤ 6 ∧ ∀ x ∈ ss, x.length ≤ 12 ∧ ¬ wnt x ∧ ∀ c ∈ x, isSg c) ∧ (q.length ≤ 41 ∧ (q ≠ [] → q.head? = some 63) ∧ ∀ c ∈ q, isTx c) ∧ (mk.length ≤ 8 ∧ ∀ c ∈ mk, isNm c)
def stpA (g : Int → Int) (i to : Int) : Int := sc (fun j => g j ≠ 63 ∧ g j ≠ 35) i to
def finP (pre ss : List (List Int)) : List (List Int) := if (pre ++ ss).foldl psh [] ++ eL ss = [] then [[]] else (pre ++ ss).foldl psh [] ++ eL ss
noncomputable def RP1 (g : Int → Int) (i st to : Int) (nm : List Int) (pre : List (List Int)) : Option (List Int × List (List Int) × List Int × List Int) :=
  @ite _ (rgn g i st ∧ (∀ x ∈ sgs g i (st - i).toNat, ¬ wnt x → x.length ≤ 12) ∧ (finP pre (sgs g i (st - i).toNat)).length ≤ 6) (Classical.propDecidable _) ((RTl g st to []).map (fun r => (nm, finP pre (sgs g i (st - i).toNat), r.1, r.2))) none
/-- TO READ a REFERENCE -/
noncomputable def RF (g : Int → Int) (i to : Int) (nm : List Int) (ss : List (List Int)) (q : List Int) : Option (List Int × List (List Int) × List Int × List Int) :=
  if i + 1 < stpA g i to ∧ g i = 47 ∧ g (i + 1) = 47 then
    (if i + 2 < sc (fun j => g j ≠ 47) (i + 2) (stpA g i to) ∧ nmC g (i + 2) (sc (fun j => g j ≠ 47) (i + 2) (stpA g i to)) = sc (fun j => g j ≠ 47) (i + 2) (stpA g i to) then RP1 g (sc (fun j => g j ≠ 47) (i + 2) (stpA g i to)) (stpA g i to) to (sg g (i + 2) (sc (fun j => g j ≠ 47) (i + 2) (stpA g i to) - i - 2).toNat) [] else none)
  else if i = stpA g i to then (RTl g i to q).map (fun r => (nm, ss, r.1, r.2))
  else if g i = 47 then RP1 g i (stpA g i to) to nm []
  else RP1 g i (stpA g i to) to nm ss.dropLast
section E5
variable {n : NS} {a T d l i to at' st b Tb : Int} {s t g sb tb : Int → Int} {X q mk nm bnm bq bmk : List Int} {K bss pre : List (List Int)}
/-- a base beside it -/
def BS (n : NS) (a T b Tb : Int) (sb tb : Int → Int) (nm : List Int) (ss : List (List Int)) (q mk : List Int) : Prop := AC n b Tb ∧ (b ≠ a ∧ b ≠ T ∧ Tb ≠ a ∧ Tb ≠ T) ∧ n 99 b = sb ∧ n 99 Tb = tb ∧ sb 0 = Tb ∧ CAs sb tb nm ss q mk ∧ WFA nm ss q mk
def RDQ (n : NS) (a T : Int) (R : Option (List Int × List (List Int) × List Int × List Int)) (r : Int × NS) : Prop := ∃ s' t', r.2 = aw n a T s' t' ∧ s' 0 = T ∧ ((r.1 = 0 ∧ R = none) ∨ (r.1 = 1 ∧ ∃ nm ss q mk, R = some (nm, ss, q, mk) ∧ CAs s' t' nm ss q mk ∧ mk.length ≤ 8 ∧ (∀ c ∈ mk, isNm c) ∧ q.length ≤ 41))
/-- the path has been gathered -/
theorem c_fin239 (hA : AC n a T) (hd : tx n d g l) (h1 : d ≠ a) (h2 : d ≠ T) (hk : 0 ≤ st) (hto : st ≤ to ∧ to ≤ l ∧ to ≤ 100000) (hs0 : s 0 = T) (h35 : st < to → g st = 63 ∨ g st = 35) {c : Int} (hS : SGS s t K c) (hn : 1 ≤ nm.length ∧ nm.length ≤ 8) (e1 : s 1 = pk nm) (e2 : s 2 = 2 + (nm.length : Int)) (hX : sg t 0 ([47, 47] ++ nm).length = [47, 47] ++ nm) : ev (nk_Address_read_239 a d to st (aw n a T s t)) (RDQ n a T ((RTl g st to []).map (fun r => (nm, K, r.1, r.2)))) := by
  have hne := hA.ne
  obtain ⟨q1, q2, q3, q4, q5, q6⟩ := hS
  have hpl := pth_len K q5
  have hXl : (([47, 47] ++ nm : List Int).length : Int) = s 2 := by rw [List.length_append, e2]; show ((2 + nm.length : Nat) : Int) = _; omega
  unfold nk_Address_read_239
  refine ev_tyA hA ?_
  rw [aw_a hne, hs0]
  refine ev_nn hA.2.2.1.1 (ev_tyA hA (ev_tyA hA (ev_bind (c_takePath hA (Ne.symm hne) hA.2.2.2.1 ⟨by omega, by omega, by rw [hA.2.2.2.2]; omega, by omega⟩ hs0 ⟨by omega, by omega⟩) (fun n1 hn1 => ?_))))
  obtain ⟨s1, t1, r1, r2, r3, r4, r5, r6⟩ := hn1
  subst r1
  rw [aw_T] at r5
  have hX1 : sg t1 0 (([47, 47] ++ nm) ++ pth K).length = ([47, 47] ++ nm) ++ pth K := by
    refine sg_ext hXl.symm hX (fun j j0 j1 => r6 j j1) ?_
    refine Eq.trans (sg_cg _ _ (160 - ((pth K).length : Int)) (fun x hx => ?_)) q6
    rw [r5 x (by omega) (by omega), q3]
  refine ev_tyA hA (ev_b2 (c_tail (X := ([47, 47] ++ nm) ++ pth K) (bq := []) (Tb := 0) (sb := s) (tb := t) hA hd h1 h2 hk hto (by rw [r4 0 (by decide) (by decide)]; exact hs0) h35 (by rw [r3, List.length_append]; omega) (by rw [r3]; omega) hX1 (.inl ⟨by decide, rfl, rfl⟩)) (fun r n2 hr => ev_ok ?_))
  obtain ⟨s2, t2, w1, w2, w3⟩ := hr
  refine ⟨s2, t2, w1, w2, ?_⟩
  rcases w3 with ⟨y1, y2⟩ | ⟨y1, q, mk, y2, y3, y4, y5, y6, y7, y8, y9⟩
  · exact .inl ⟨y1, by rw [y2]; rfl⟩
  · refine .inr ⟨y1, nm, K, q, mk, by rw [y2]; rfl, ⟨?_, ?_, ?_, ?_, ?_, ?_⟩, y4, y5, y3⟩
    · rw [y8 1 (by decide) (by decide), r4 1 (by decide) (by decide)]; exact e1
    · rw [y8 2 (by decide) (by decide), r4 2 (by decide) (by decide)]; exact e2
    · rw [y8 3 (by decide) (by decide), r2, e2, q3]; omega
    · rw [y8 3 (by decide) (by decide), r2, y6, r3]
    · rw [y7, y6]
    · have ea : adL nm K q ++ mkL mk = ([47, 47] ++ nm) ++ pth K ++ (q ++ mkL mk) := by unfold adL; simp only [List.append_assoc]
      rw [ea]; exact y9
theorem foldl_psh : ∀ (ss st : List (List Int)), (∀ x ∈ ss, ¬ wnt x) → ss.foldl psh st = st ++ ss := by
  intro ss
  induction ss with
  | nil => intro st _; rw [List.append_nil]; rfl
  | cons x ss ih =>
    intro st h
    have hx := h x List.mem_cons_self
    show ss.foldl psh (psh st x) = _
    rw [ih _ (fun y hy => h y (List.mem_cons_of_mem _ hy))]
    unfold psh
    rw [if_neg (fun z => hx (.inl z)), if_neg (fun z => hx (.inr z)), List.append_assoc]; rfl
/-- the last one stays, if there is one -/
theorem fold_nil {ss : List (List Int)} (h : (pre ++ ss).foldl psh [] ++ eL ss = []) : ss = [] := by
  by_cases hz : ss = []
  · exact hz
  · exfalso
    have h1 := (List.append_eq_nil_iff.mp h).1
    have h2 := (List.append_eq_nil_iff.mp h).2
    obtain ⟨ys, x, rfl⟩ : ∃ ys x, ss = ys ++ [x] := ⟨ss.dropLast, ss.getLast hz, (List.dropLast_concat_getLast hz).symm⟩
    have hx : ¬ wnt x := fun z => by
      unfold eL at h2
      rw [getLastD_app, if_pos (show wnt ([x].getLastD []) from z)] at h2
      cases h2
    rw [← List.append_assoc, List.foldl_append] at h1
    have h1 : psh ((pre ++ ys).foldl psh []) x = [] := h1
    unfold psh at h1
    rw [if_neg (fun z => hx (.inl z)), if_neg (fun z => hx (.inr z))] at h1
    exact absurd (List.append_eq_nil_iff.mp h1).2 (by simp)
end E5
