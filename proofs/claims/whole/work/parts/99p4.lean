/-! A REFERENCE that stands elsewhere: both read the same -/
section P4
variable {n n' : NS} {m m' : YS} {A B N k v d fr to L i c b st : Int} {g : Int → Int} {As Bs W : Int → Prop} {κ : Int → Int} {F : Nat} {nm q mk bq : List Int} {ss pre : List (List Int)}
theorem sc_sh {p p' : Int → Prop} [DecidablePred p] [DecidablePred p'] (h : ∀ j, p (b + j) ↔ p' j) : sc p (b + i) (b + to) = b + sc p' i to := by
  obtain ⟨h1, h2, h3, h4⟩ := scx_scn (p := p') i to
  refine (scx_eq ⟨by omega, by omega, fun j j0 j1 => ?_, fun y z => h4 (by omega) ((h _).mp z)⟩).symm
  have := (h (j - b)).mpr (h3 (j - b) (by omega) (by omega))
  rw [show b + (j - b) = j by omega] at this; exact this
theorem sg_sh {k : Nat} : sg g (b + i) k = sg (fun j => g (b + j)) i k := sg_cg _ _ _ (fun x _ => by show g (b + i + x) = g (b + (i + x)); rw [show b + i + (x : Int) = b + (i + x) by omega])
theorem nmC_sh : nmC g (b + i) (b + to) = b + nmC (fun j => g (b + j)) i to := by
  have e : sc (fun j => isNm (g j)) (b + i) (b + to) = b + sc (fun j => isNm (g (b + j))) i to := sc_sh (fun _ => Iff.rfl)
  unfold nmC
  rw [e]
  show _ = b + (if i < to ∧ isSm (g (b + i)) then min (sc (fun j => isNm (g (b + j))) i to) (i + 8) else i)
  by_cases h : i < to ∧ isSm (g (b + i))
  · rw [if_pos ⟨by omega, h.2⟩, if_pos h]; omega
  · rw [if_neg (fun z => h ⟨by omega, z.2⟩), if_neg h]
theorem spl_sh : ∀ (k : Nat) (i : Int), spl g (b + i) k = spl (fun j => g (b + j)) i k := by
  intro k
  induction k with
  | zero => intro i; rfl
  | succ k ih =>
    intro i
    show (if g (b + i) = 47 then [] :: spl g (b + i + 1) k else (g (b + i) :: (spl g (b + i + 1) k).headD []) :: (spl g (b + i + 1) k).tail) = (if g (b + i) = 47 then [] :: spl (fun j => g (b + j)) (i + 1) k else (g (b + i) :: (spl (fun j => g (b + j)) (i + 1) k).headD []) :: (spl (fun j => g (b + j)) (i + 1) k).tail)
    rw [show b + i + 1 = b + (i + 1) by omega, ih]
theorem RMk_sh : RMk g (b + k) (b + to) q = RMk (fun j => g (b + j)) k to q := by
  have e1 : nmC g (b + k + 1) (b + to) = b + nmC (fun j => g (b + j)) (k + 1) to := by rw [show b + k + 1 = b + (k + 1) by omega]; exact nmC_sh
  have e2 : sg g (b + k + 1) (b + to - (b + k) - 1).toNat = sg (fun j => g (b + j)) (k + 1) (to - k - 1).toNat := by rw [show b + k + 1 = b + (k + 1) by omega, show b + to - (b + k) - 1 = to - k - 1 by omega]; exact sg_sh
  unfold RMk
  rw [e1, e2]
  by_cases h : k = to
  · rw [if_pos (by omega), if_pos h]
  · rw [if_neg (by omega), if_neg h]
    by_cases h2 : g (b + k) = 35 ∧ k + 1 < to ∧ nmC (fun j => g (b + j)) (k + 1) to = to
    · rw [if_pos ⟨h2.1, by omega, by omega⟩, if_pos h2]
    · rw [if_neg (fun z => h2 ⟨z.1, by omega, by omega⟩), if_neg h2]
theorem RTl_sh : RTl g (b + k) (b + to) bq = RTl (fun j => g (b + j)) k to bq := by
  have e1 : sc (fun j => isQr (g j)) (b + k + 1) (b + to) = b + sc (fun j => isQr (g (b + j))) (k + 1) to := by rw [show b + k + 1 = b + (k + 1) by omega]; exact sc_sh (fun _ => Iff.rfl)
  unfold RTl
  rw [e1]
  generalize sc (fun j => isQr (g (b + j))) (k + 1) to = D
  have e2 : sg g (b + k + 1) (b + D - (b + k) - 1).toNat = sg (fun j => g (b + j)) (k + 1) (D - k - 1).toNat := by rw [show b + k + 1 = b + (k + 1) by omega, show b + D - (b + k) - 1 = D - k - 1 by omega]; exact sg_sh
  rw [e2, RMk_sh, RMk_sh]
  by_cases h : k < to ∧ g (b + k) = 63
  · rw [if_pos ⟨by omega, h.2⟩, if_pos h]
    by_cases h2 : 40 < D - k - 1
    · rw [if_pos (by omega), if_pos h2]
    · rw [if_neg (by omega), if_neg h2]
  · rw [if_neg (fun z => h ⟨by omega, z.2⟩), if_neg h]
theorem RP1_sh : RP1 g (b + i) (b + st) (b + to) nm pre = RP1 (fun j => g (b + j)) i st to nm pre := by
  have r1 : rgn g (b + i) (b + st) ↔ rgn (fun j => g (b + j)) i st := by
    constructor
    · exact fun h j j0 j1 => h (b + j) (by omega) (by omega)
    · intro h j j0 j1
      have : isSg (g (b + (j - b))) ∨ g (b + (j - b)) = 47 := h (j - b) (by omega) (by omega)
      rw [show b + (j - b) = j by omega] at this; exact this
  have s1 : sgs g (b + i) (b + st - (b + i)).toNat = sgs (fun j => g (b + j)) i (st - i).toNat := by
    unfold sgs
    rw [show b + st - (b + i) = st - i by omega, spl_sh]
  unfold RP1
  rw [s1, RTl_sh]
  by_cases h : rgn (fun j => g (b + j)) i st ∧ (∀ x ∈ sgs (fun j => g (b + j)) i (st - i).toNat, ¬ wnt x → x.length ≤ 12) ∧ (finP pre (sgs (fun j => g (b + j)) i (st - i).toNat)).length ≤ 6
  · rw [if_pos ⟨r1.mpr h.1, h.2⟩, if_pos h]
  · rw [if_neg (fun z => h ⟨r1.mp z.1, z.2⟩), if_neg h]
theorem RF_sh : RF g (b + i) (b + to) nm ss q = RF (fun j => g (b + j)) i to nm ss q := by
  have e1 : stpA g (b + i) (b + to) = b + stpA (fun j => g (b + j)) i to := sc_sh (fun _ => Iff.rfl)
  have e2 : sc (fun j => g j ≠ 47) (b + i + 2) (b + stpA (fun j => g (b + j)) i to) = b + sc (fun j => g (b + j) ≠ 47) (i + 2) (stpA (fun j => g (b + j)) i to) := by rw [show b + i + 2 = b + (i + 2) by omega]; exact sc_sh (fun _ => Iff.rfl)
  unfold RF
  rw [e1, e2]
  generalize stpA (fun j => g (b + j)) i to = S
  generalize hD : sc (fun j => g (b + j) ≠ 47) (i + 2) S = D
  have e3 : nmC g (b + i + 2) (b + D) = b + nmC (fun j => g (b + j)) (i + 2) D := by rw [show b + i + 2 = b + (i + 2) by omega]; exact nmC_sh
  have e4 : sg g (b + i + 2) (b + D - (b + i) - 2).toNat = sg (fun j => g (b + j)) (i + 2) (D - i - 2).toNat := by rw [show b + i + 2 = b + (i + 2) by omega, show b + D - (b + i) - 2 = D - i - 2 by omega]; exact sg_sh
  rw [e3, e4, RP1_sh, RP1_sh, RP1_sh, RTl_sh]
  have e5 : g (b + i + 1) = g (b + (i + 1)) := by rw [show b + i + 1 = b + (i + 1) by omega]
  rw [e5]
  by_cases h : i + 1 < S ∧ g (b + i) = 47 ∧ g (b + (i + 1)) = 47
  · rw [if_pos (show b + i + 1 < b + S ∧ g (b + i) = 47 ∧ g (b + (i + 1)) = 47 from ⟨by omega, h.2⟩), if_pos h]
    by_cases h2 : i + 2 < D ∧ nmC (fun j => g (b + j)) (i + 2) D = D
    · rw [if_pos (show b + i + 2 < b + D ∧ b + nmC (fun j => g (b + j)) (i + 2) D = b + D from ⟨by omega, by omega⟩), if_pos h2]
    · rw [if_neg (fun z : b + i + 2 < b + D ∧ b + nmC (fun j => g (b + j)) (i + 2) D = b + D => h2 ⟨by omega, by omega⟩), if_neg h2]
  · rw [if_neg (fun z : b + i + 1 < b + S ∧ g (b + i) = 47 ∧ g (b + (i + 1)) = 47 => h ⟨by omega, z.2⟩), if_neg h]
    by_cases h2 : i = S
    · rw [if_pos (show b + i = b + S by omega), if_pos h2]
    · rw [if_neg (show ¬ b + i = b + S by omega), if_neg h2]
theorem read_off (hJ : JNt κ As Bs A B n m) (hs : tx n d (fun j => m F (b + j)) L) (hdT : n 99 1584 0 ≠ d) (hF : nfA F) (hf : 0 ≤ fr ∧ fr ≤ to ∧ to ≤ L ∧ L ≤ 2000) (hb : 0 ≤ b ∧ b + to ≤ yLn F ∧ b + to ≤ 99990) (hg : ∀ j, fr ≤ j → j < to → isTx (m F (b + j))) :
    ∃ z n' m', N_Address_read 1584 d fr to 1582 n = some (z, n') ∧ N_Y_refer F (b + fr) (b + to) 1 m = some (z, m') ∧ (z = 0 ∨ (z = 1 ∧ AR n' m' 1584 0)) ∧ JNt κ As Bs A B n' m' ∧ (∃ s t, s 0 = n 99 1584 0 ∧ n' = aw n 1584 (n 99 1584 0) s t) ∧ (∀ f, ¬ (6 ≤ f ∧ f ≤ 15) → m' f = m f) ∧ (∀ r, 1 ≤ r → RwE m m' r) := by
  obtain ⟨hJe, hH, hP⟩ := hJ
  have hJe' := hJe
  obtain ⟨hB, hJ, hAs, hSn⟩ := hJe'
  have hA := hJ.1
  have h2 := hJ.2.2.1.2.1
  have h4 := hJ.2.2.1.2.2.1
  have hP' := hP
  obtain ⟨bnm, bss, bq, bmk, hW, hC, hR⟩ := hP'
  have hT := hA 1584 h4
  have hHh := hA 1582 h2
  have hne : n 99 1582 0 ≠ n 99 1584 0 := fun z => absurd (hHh.2.2 1584 h4 z) (by decide)
  have hty : ∀ q : Int, n 92 0 q = 101 → q ≠ n 99 1584 0 ∧ q ≠ n 99 1582 0 := fun q hq => ⟨fun z => by rw [z, hT.1.2.2.2.1] at hq; exact absurd hq (by decide), fun z => by rw [z, hHh.1.2.2.2.1] at hq; exact absurd hq (by decide)⟩
  have hBS : BS n 1584 (n 99 1584 0) 1582 (n 99 1582 0) (n 99 1582) (n 99 (n 99 1582 0)) bnm bss bq bmk := ⟨hHh.1, ⟨by decide, (hty 1582 hHh.1.2.1).1, fun z => (hty 1584 hT.1.2.1).2 z.symm, hne⟩, rfl, rfl, rfl, hC, hW⟩
  have hd1 : d ≠ 1584 := fun z => by have := hs.1; rw [z, hT.1.2.1] at this; exact absurd this (by decide)
  have hcr := c_read (i := fr) (to := to) hT.1 rfl hs hd1 (Ne.symm hdT) hBS ⟨hf.1, hf.2.1, hf.2.2.1, by omega⟩
  have hyr := y_refer (f := F) (i := b + fr) (to := b + to) (r := 1) (m := m) (g := m F) hF rfl ⟨by omega, by omega, hb.2.1, hb.2.2, by omega⟩ (fun j j0 j1 => by have := hg (j - b) (by omega) (by omega); rw [show b + (j - b) = j by omega] at this; exact this) (by omega) hR hW
  rw [RF_sh] at hyr
  obtain ⟨⟨x, n1⟩, ex, s', t', x1, x2, x3⟩ := hcr
  obtain ⟨⟨y, m6⟩, ey, y1, y2⟩ := hyr
  simp only at x1 x3 y1 y2
  have fq : FQ As Bs (fun x => x = 1584) n n1 := by rw [x1]; exact FQ.aw hA hJ.2.1 h4 rfl x2
  have f7 : FQ7 n n1 := by rw [x1]; exact FQ7.aw hA h4
  have kK : ∀ K, K ≠ 99 → n1 K = n K := fun K hK => by rw [x1]; exact aw_K hK
  have hB1 : BI A B n1 := by rw [x1]; exact hB.aw
  have fs : ∀ S : Int → Prop, FS S n n1 := fun S => by rw [x1]; exact FS.aw hA h4 hB
  have rw6 : ∀ r, 1 ≤ r → RwE m m6 r := fun r hr => ⟨(y1.2.2 r (by omega)).1, (y1.2.2 r (by omega)).2, fun j a b => y1.2.1 j (by omega)⟩
  have fy : ∀ f, ¬ (6 ≤ f ∧ f ≤ 15) → m6 f = m f := fun f hf => y1.1 f (by simp only [List.mem_cons, List.not_mem_nil, or_false, not_or]; omega)
  have hJ1 : JNt κ As Bs A B n1 m6 := ⟨hJe.cg hB1 fq f7 (fun a ha => by omega) (fun K hK => kK K (by omega)) (fun s _ => by rw [kK 6 (by decide)]) ((fs (fun _ => False)).bt (by omega) (fun h => h.elim)) (fun f a b => fy f (by omega)) (fun r hr => rw6 r (by omega)), hH.cg fq (fun x hx => by unfold hiA; omega) (by rw [kK 6 (by decide)]; exact ⟨rfl, rfl⟩) (kK 27 (by decide)) ⟨fy 148 (by decide), fy 149 (by decide)⟩ (fun r a b => rw6 r (by omega)), hP.fq fq h2 (by decide) (rw6 1 (by decide))⟩
  rcases x3 with ⟨z1, z2⟩ | ⟨z1, nm, ss, q, mk, z2, z3, z4⟩
  · rcases y2 with ⟨w1, w2⟩ | ⟨w1, nm, ss, q, mk, w2, w3⟩
    · exact ⟨0, n1, m6, by rw [ex, z1], by rw [ey, w1], .inl rfl, hJ1, ⟨s', t', x2, x1⟩, fy, rw6⟩
    · rw [z2] at w2; cases w2
  · rcases y2 with ⟨w1, w2⟩ | ⟨w1, nm', ss', q', mk', w2, w3⟩
    · rw [z2] at w2; cases w2
    · rw [z2] at w2
      cases w2
      have hW' := RF_wf z2 hf.2.1 hW hg
      have hC1 : CA n1 1584 nm ss q mk := by
        unfold CA
        rw [x1, aw_a hT.1.ne, x2, aw_T]; exact z3
      exact ⟨1, n1, m6, by rw [ex, z1], by rw [ey, w1], .inr ⟨rfl, nm, ss, q, mk, hW', hC1, w3⟩, hJ1, ⟨s', t', x2, x1⟩, fy, rw6⟩
end P4
