/-! A FORM IS SENT: the ADDRESS with its query -/
section P3
variable {n n' n'' n2 : NS} {m m' m'' m0 m6 mR : YS} {A B N N' k b a δ δ' fr to d L r r' x f v c i z M kf : Int} {o e p o' e' p' κ g : Int → Int} {As Bs W S : Int → Prop} {l l' acc nm q mk : List Int} {ss : List (List Int)}
theorem ev_cpg {α : Type} {Q : α → Prop} {y : Option α} {t u0 sp u1 dp cc : Int} (h : n 92 0 u0 = t ∧ n 92 0 u1 = t ∧ (0 ≤ sp ∧ 0 ≤ dp ∧ 0 ≤ cc) ∧ sp + cc ≤ n 93 0 u0 ∧ dp + cc ≤ n 93 0 u1) (k : ev y Q) : ev (cpg n t u0 sp u1 dp cc y) Q := ev_g h k
theorem c_replaceQuery (hA : AdS n As) (hB : BI A B n) (ha : As a) (hC : CA n a nm ss q mk) (hW : WFA nm ss q mk) (hl : bt n 610 = l) (h40 : l.length ≤ 40) : ev (N_Address_replaceQuery a 610 n) (fun n' => ∃ s t, s 0 = n 99 a 0 ∧ n' = aw n a (n 99 a 0) s t ∧ CAs s t nm ss (63 :: l) mk) := by
  have hAa := (hA a ha).1
  have haT := hAa.ne
  have hb6 := hB.1 610 (by decide) (by decide)
  have hDT : n 4 610 1 ≠ n 99 a 0 := (hA a ha).2.1 610 (by decide) (by decide)
  have hDa : n 4 610 1 ≠ a := fun z => by have h1 := hb6.2.2.1; rw [z, hAa.2.1] at h1; exact absurd h1 (by decide)
  have hsz : n 4 610 2 = (l.length : Int) := by
    have := bt_len (b := 610) (by decide) hB
    rw [hl] at this; omega
  obtain ⟨c1, c2, c3, c4, c5, c6⟩ := hC
  have hsz2 := hW.sz
  have hlen := hW.len
  have w1 := hW.1
  have w5 := hW.2.2.1.1
  have hadl := adL_len (nm := nm) (ss := ss) (q := q)
  generalize hT : n 99 a 0 = T at *
  generalize hP : n 99 a 3 = P at *
  generalize hE : n 99 a 4 = E at *
  generalize hF : n 99 a 5 = F at *
  generalize hmk : (mkL mk).length = ml at *
  have hLL : (l.length : Int) ≤ 40 := by omega
  have hmin : min (n 4 610 2) 40 = (l.length : Int) := by rw [hsz]; omega
  have hPb : 4 ≤ P ∧ P ≤ 88 := by omega
  have hFE : F - E = (ml : Int) := by omega
  have tyA : ∀ {α : Type} {Q : α → Prop} {x : Option α} {s' t' : Int → Int}, ev x Q → ev (ty (aw n a T s' t') a 101 x) Q := fun z => ev_tyA hAa z
  suffices key : ev (N_Address_replaceQuery a 610 (aw n a T (n 99 a) (n 99 T))) (fun n' => ∃ s t, s 0 = T ∧ n' = aw n a T s t ∧ CAs s t nm ss (63 :: l) mk) by
    rw [aw_id rfl rfl] at key; exact key
  unfold N_Address_replaceQuery
  have k4 : ∀ {s' t' : Int → Int}, aw n a T s' t' 4 = n 4 := fun {s' t'} => aw_K (by decide)
  have aA : ∀ {s' t' : Int → Int}, aw n a T s' t' 99 a = s' := fun {s' t'} => aw_a haT
  have t92 : ∀ {s' t' : Int → Int}, aw n a T s' t' 92 0 T = 1 := fun {s' t'} => by rw [aw_K (by decide)]; exact hAa.2.2.2.1
  have t93 : ∀ {s' t' : Int → Int}, aw n a T s' t' 93 0 T = 160 := fun {s' t'} => by rw [aw_K (by decide)]; exact hAa.2.2.2.2
  rw [k4, aA, hmin, hP, hE, hF, hT, hFE]
  refine tyA (ev_ck (by omega) (ev_ck (by omega) (tyA (tyA (ev_ck (by omega) (tyA (ev_nn hAa.2.2.1.1 (tyA (tyA (ev_nn hAa.2.2.1.1 (ev_cpg ⟨t92, t92, by omega, by rw [t93]; omega, by rw [t93]; omega⟩ (ev_st ?_))))))))))))
  rw [aw_T, aw_nT, aA, hT, hP]
  refine tyA (ev_nn hAa.2.2.1.1 (tyA (ev_dx ⟨t92, by omega, by rw [t93]; omega⟩ (ev_st ?_))))
  rw [aw_nt, k4, aA, hT, hP]
  have rD : ∀ {s' t' : Int → Int}, aw n a T s' t' 99 (n 4 610 1) = n 99 (n 4 610 1) := fun {s' t'} => aw_q hDa hDT
  refine ev_nn hb6.2.1.1 (tyA (ev_nn hAa.2.2.1.1 (tyA (ev_ck (by omega) (ev_cpg ⟨by rw [aw_K (by decide)]; exact hb6.2.2.1, t92, by omega, by rw [aw_K (by decide)]; have := hb6.2.2.2.1.2.2; omega, by rw [t93]; omega⟩ (ev_st ?_))))))
  rw [rD, aw_T, aw_nT]
  refine tyA (ev_st ?_)
  rw [aw_nw haT]
  refine ev_ck (by omega) (tyA (ev_st ?_))
  rw [aw_nw haT]
  refine ev_ok ⟨_, _, ?_, rfl, ?_, ?_, ?_, ?_, ?_, ?_⟩
  · rw [udz_n (by decide), udz_n (by decide)]; exact hT
  · rw [udz_n (by decide), udz_n (by decide)]; exact c1
  · rw [udz_n (by decide), udz_n (by decide)]; exact c2
  · rw [udz_n (by decide), udz_n (by decide), hP]; exact c3
  · rw [udz_n (by decide), udz_e, udz_n (by decide), udz_n (by decide), hP]
    show P + 1 + (l.length : Int) = P + (((l.length + 1 : Nat)) : Int)
    omega
  · rw [udz_e, udz_n (by decide), udz_e]
    show P + 1 + (l.length : Int) + (ml : Int) = P + 1 + (l.length : Int) + (((mkL mk).length : Nat) : Int)
    rw [hmk]
  · have hX : ([47, 47] ++ (nm ++ pth ss)).length = P.toNat := by
      rw [List.length_append, List.length_append]
      show 2 + (nm.length + (pth ss).length) = _
      omega
    have eA : ∀ q' : List Int, adL nm ss q' ++ mkL mk = ([47, 47] ++ (nm ++ pth ss)) ++ (q' ++ mkL mk) := fun q' => by unfold adL; simp only [List.append_assoc]
    rw [eA] at c6 ⊢
    refine sg_ext (t := n 99 T) (P := P) (by rw [hX]; omega) (sg_pre c6) (fun j j0 j1 => ?_) ?_
    · show cpf (n 99 (n 4 610 1)) (udz (cpf (n 99 T) (n 99 T) E (P + 1 + (l.length : Int)) (ml : Int)) P 63) 0 (P + 1) (l.length : Int) j = n 99 T j
      unfold cpf
      rw [if_neg (by omega), udz_n (by omega), if_neg (by omega)]
    · show sg (cpf (n 99 (n 4 610 1)) (udz (cpf (n 99 T) (n 99 T) E (P + 1 + (l.length : Int)) (ml : Int)) P 63) 0 (P + 1) (l.length : Int)) P ((63 :: l) ++ mkL mk).length = (63 :: l) ++ mkL mk
      have e1 : ((63 :: l) ++ mkL mk).length = 1 + (l.length + ml) := by rw [List.length_append, hmk, List.length_cons]; omega
      rw [e1, sg_app, sg_app]
      have p1 : sg (cpf (n 99 (n 4 610 1)) (udz (cpf (n 99 T) (n 99 T) E (P + 1 + (l.length : Int)) (ml : Int)) P 63) 0 (P + 1) (l.length : Int)) P 1 = [63] := by
        refine sg_1.mpr ⟨rfl, ?_⟩
        unfold cpf
        rw [if_neg (by omega), udz_e]
      have p2 : sg (cpf (n 99 (n 4 610 1)) (udz (cpf (n 99 T) (n 99 T) E (P + 1 + (l.length : Int)) (ml : Int)) P 63) 0 (P + 1) (l.length : Int)) (P + ((1 : Nat) : Int)) l.length = l := by
        have hl2 : sg (n 99 (n 4 610 1)) 0 l.length = l := by
          unfold bt at hl
          rw [hsz, Int.toNat_natCast] at hl; exact hl
        refine Eq.trans (sg_cg _ _ 0 (fun x hx => ?_)) hl2
        unfold cpf
        rw [if_pos (by omega)]
        congr 1
        omega
      have p3 : sg (cpf (n 99 (n 4 610 1)) (udz (cpf (n 99 T) (n 99 T) E (P + 1 + (l.length : Int)) (ml : Int)) P 63) 0 (P + 1) (l.length : Int)) (P + ((1 : Nat) : Int) + (l.length : Int)) ml = mkL mk := by
        have hm2 : sg (n 99 T) E ml = mkL mk := by
          have h2 := sg_mid (X := [47, 47] ++ (nm ++ pth ss)) (Y := q) (Z := mkL mk) (i := 0) (t := n 99 T) c6
          have h3 : sg (n 99 T) 0 ((([47, 47] ++ (nm ++ pth ss)) ++ q) ++ (mkL mk ++ [])).length = (([47, 47] ++ (nm ++ pth ss)) ++ q) ++ (mkL mk ++ []) := by
            rw [List.append_nil]
            simp only [List.append_assoc] at c6 ⊢
            exact c6
          have h4 := sg_mid (X := ([47, 47] ++ (nm ++ pth ss)) ++ q) (Y := mkL mk) (Z := []) (i := 0) (t := n 99 T) h3
          rw [hmk, List.length_append, hX] at h4
          rw [show (0 : Int) + ((P.toNat + q.length : Nat) : Int) = E by omega] at h4
          exact h4
        refine Eq.trans (sg_cg _ _ E (fun x hx => ?_)) hm2
        unfold cpf
        rw [if_neg (by omega), udz_n (by omega), if_pos (by omega)]
        congr 1
        omega
      rw [p1, p2, p3]; rfl
end P3
