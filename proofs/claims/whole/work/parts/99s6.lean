/-! SELECTORS: words of a class -/
def hwF (g : Int → Int) (w : List Int) (L : Int) : Nat → Int → Prop
  | 0, _ => False
  | k + 1, i => i < L ∧ (sg g i (sc (fun j => ¬ isBl (g j)) i L - i).toNat = w ∨ hwF g w L k (sc (fun j => ¬ isBl (g j)) i L + 1))
section S6
variable {n n' : NS} {m m' : YS} {g h : Int → Int} {A B v a b d L c i k : Int} {w : List Int}
theorem sg_pw : ∀ (k : Nat) (i j : Int), sg g i k = sg h j k → ∀ x : Nat, x < k → g (i + x) = h (j + x) := by
  intro k
  induction k with
  | zero => intro i j _ x hx; omega
  | succ k ih =>
    intro i j he x hx
    have he : g i :: sg g (i + 1) k = h j :: sg h (j + 1) k := he
    have h1 := List.cons.inj he
    cases x with
    | zero => rw [show i + ((0 : Nat) : Int) = i by omega, show j + ((0 : Nat) : Int) = j by omega]; exact h1.1
    | succ x =>
      have := ih (i + 1) (j + 1) h1.2 x (by omega)
      rw [show i + ((x + 1 : Nat) : Int) = i + 1 + x by omega, show j + ((x + 1 : Nat) : Int) = j + 1 + x by omega]; exact this
/-- a value of an attribute, in both -/
theorem av_tx (hB : BI A B n) (hd : ND n m v) (hv : 0 ≤ v ∧ v < 120) (ha : 0 ≤ a ∧ a < m 56 v) : n 4 (5 * v + 1 + a) 2 = m 60 (4 * v + a) ∧ tx n (n 4 (5 * v + 1 + a) 1) (fun j => m 59 (60 * (4 * v + a) + j)) (m 60 (4 * v + a)) ∧ (∀ j, 0 ≤ j → j < m 60 (4 * v + a) → isTx (m 59 (60 * (4 * v + a) + j))) := by
  have h4 := hd.2.2.1.2.2
  have hN := hd.2.2.2.1 a ha.1 ha.2
  have hl := bt_len (b := 5 * v + 1 + a) (by omega) hB
  have hb := hB.1 (5 * v + 1 + a) (by omega) (by omega)
  have hbt := hN.2.2.2.2.2
  have h60 := hN.2.2.2.1
  have hs : n 4 (5 * v + 1 + a) 2 = m 60 (4 * v + a) := by
    rw [hbt] at hl
    unfold avL at hl
    rw [sg_len] at hl
    omega
  refine ⟨hs, ⟨hb.2.2.1, by rw [← hs]; exact hb.2.2.2.1.2.2, fun j j0 j1 => ?_⟩, fun j j0 j1 => ?_⟩
  · unfold bt avL at hbt
    rw [hs] at hbt
    have := sg_pw (g := n 99 (n 4 (5 * v + 1 + a) 1)) (h := m 59) _ 0 (60 * (4 * v + a)) hbt j.toNat (by omega)
    rw [show (0 : Int) + ((j.toNat : Nat) : Int) = j by omega, show 60 * (4 * v + a) + ((j.toNat : Nat) : Int) = 60 * (4 * v + a) + j by omega] at this
    exact this
  · exact sg_all (P := isTx) (g := m 59) (i := 60 * (4 * v + a)) (k := m 60 (4 * v + a)) hN.2.2.2.2.1 (by omega) (by omega)
theorem c_hasWord (hs : n 4 b 2 = L) (ht : tx n (n 4 b 1) g L) (h0 : 0 ≤ n 4 b 1) (hL : 0 ≤ L ∧ L ≤ 2000) (hg : ∀ j, 0 ≤ j → j < L → isTx (g j)) (hw : okN w) : N_Sheet_hasWord b (pk w) n = some (@ite _ (hwF g w L (L.toNat + 1) 0) (Classical.propDecidable _) 1 0) := by
  have key : ∀ (z : Nat) (i : Int), 0 ≤ i → (L - i).toNat < z → NL_Sheet_hasWord_2 b (pk w) i n = @ite _ (hwF g w L z i) (Classical.propDecidable _) (some (.inl ())) (some (.inr ())) := by
    intro z
    induction z with
    | zero => intro i _ hz; omega
    | succ z ih =>
      intro i hi hz
      by_cases hlt : i < L
      · have k1 := scx_ge (p := fun j => ¬ isBl (g j)) i L
        have k2 := scx_le (p := fun j => ¬ isBl (g j)) (i := i) (to := L) (by omega)
        have e13 : NL_Sheet_hasWord_13 b (pk w) i i n = some (sc (fun j => ¬ isBl (g j)) i L) := by
          unfold NL_Sheet_hasWord_13
          refine ev_scan (p := fun j => ¬ isBl (g j)) (fun s h1 h2 => ?_)
          unfold nb_Sheet_hasWord_13
          rw [hs]
          refine ev_if (fun hl' => ev_nn h0 (ev_tx ht ⟨by omega, by omega⟩ (fun e => ?_))) (fun hge => ev_ok (.inr ⟨rfl, fun z => hge z.1⟩))
          rw [e]
          refine ev_bz cs_blank (fun hp => ?_) (fun hp => ?_)
          · rw [if_neg (by decide)]; exact ev_ok (.inr ⟨rfl, fun z => z.2 hp⟩)
          · rw [if_pos rfl]; exact ev_ck (by omega) (ev_ok (.inl ⟨rfl, hl', hp⟩))
        have hin : ∀ j, i ≤ j → j < sc (fun j => ¬ isBl (g j)) i L → isBt (g j) := fun j x y => by
          have := hg j (by omega) (by omega); unfold isTx at this; unfold isBt; omega
        have hF : hwF g w L (z + 1) i ↔ (sg g i (sc (fun j => ¬ isBl (g j)) i L - i).toNat = w ∨ hwF g w L z (sc (fun j => ¬ isBl (g j)) i L + 1)) := ⟨fun y => y.2, fun y => ⟨hlt, y⟩⟩
        generalize sc (fun j => ¬ isBl (g j)) i L = k at *
        have eb : nb_Sheet_hasWord_2 b (pk w) i n = if sg g i (k - i).toNat = w then some (.inr (.inl ())) else some (.inl (k + 1)) := by
          unfold nb_Sheet_hasWord_2
          rw [hs, if_pos hlt, e13]
          simp only [Option.bind_some]
          unfold nk_Sheet_hasWord_41 nk_Sheet_hasWord_67
          rw [ck_e _ (by omega), ck_e _ (by omega)]
          have hlen := sg_len g (k - i).toNat i
          by_cases z8 : 8 < k - i
          · rw [if_pos z8, if_neg (fun y => by rw [y] at hlen; have := hw.2.1; omega)]
          · rw [if_neg z8]
            unfold nn
            rw [if_pos h0, cs_pack ht (by omega) hi ⟨by omega, by omega⟩ (fun j x y _ => hin j x y)]
            simp only [Option.bind_some]
            rw [show min (k - i) 8 = k - i by omega]
            have hbt : ∀ c ∈ sg g i (k - i).toNat, isBt c := sg_mem _ _ (fun x hx => hin _ (by omega) (by omega))
            by_cases y : sg g i (k - i).toNat = w
            · rw [if_pos (by rw [y]), if_pos y]
            · rw [if_neg (fun u => y (pkq_inj hbt hw.bt u)), if_neg y]
        by_cases y : sg g i (k - i).toNat = w
        · rw [if_pos y] at eb
          rw [@if_pos _ (Classical.propDecidable _) (hF.mpr (.inl y))]
          unfold NL_Sheet_hasWord_2
          exact it_inr eb
        · rw [if_neg y] at eb
          have E : NL_Sheet_hasWord_2 b (pk w) i n = NL_Sheet_hasWord_2 b (pk w) (k + 1) n := by
            unfold NL_Sheet_hasWord_2
            exact it_inl (f := fun t : Int => nb_Sheet_hasWord_2 b (pk w) t n) (s := i) eb
          rw [E, ih (k + 1) (by omega) (by omega)]
          by_cases u : hwF g w L z (k + 1)
          · rw [@if_pos _ (Classical.propDecidable _) u, @if_pos _ (Classical.propDecidable _) (hF.mpr (.inr u))]
          · rw [@if_neg _ (Classical.propDecidable _) u, @if_neg _ (Classical.propDecidable _) (fun x => by rcases hF.mp x with y' | y'; exact y y'; exact u y')]
      · rw [@if_neg _ (Classical.propDecidable _) (fun y => hlt y.1)]
        unfold NL_Sheet_hasWord_2
        refine it_inr ?_
        show nb_Sheet_hasWord_2 b (pk w) i n = _
        unfold nb_Sheet_hasWord_2
        rw [hs, if_neg hlt]
  unfold N_Sheet_hasWord
  rw [key (L.toNat + 1) 0 (by omega) (by omega)]
  by_cases u : hwF g w L (L.toNat + 1) 0
  · rw [@if_pos _ (Classical.propDecidable _) u, @if_pos _ (Classical.propDecidable _) u]; rfl
  · rw [@if_neg _ (Classical.propDecidable _) u, @if_neg _ (Classical.propDecidable _) u]; rfl
theorem y_hasClass (ha : 0 ≤ a ∧ a < 480) (hL : m 60 a = L ∧ 0 ≤ L ∧ L ≤ 60) (hc : 0 ≤ c ∧ c < 492) (hw : okN w ∧ m 95 c = (w.length : Int) ∧ sg (m 96) (8 * c) w.length = w) : N_Y_hasClass a c m = some (@ite _ (hwF (fun j => m 59 (60 * a + j)) w L (L.toNat + 1) 0) (Classical.propDecidable _) 1 0) := by
  generalize hg : (fun j => m 59 (60 * a + j)) = g
  have gj : ∀ j, m 59 (60 * a + j) = g j := fun j => by rw [← hg]
  have h1 := hw.1.1
  have h8 := hw.1.2.1
  have scan : ∀ i h, 0 ≤ i → i ≤ L → NL_Y_hasClass_18 a c h i i m = some (sc (fun j => ¬ isBl (g j)) i L) := fun i h i0 i1 => by
    unfold NL_Y_hasClass_18
    refine ev_scan (p := fun j => ¬ isBl (g j)) (fun s h1 h2 => ?_)
    unfold nb_Y_hasClass_18
    rw [hL.1, gj]
    refine ev_ix ha (ev_if (fun hl' => ev_ck (by omega) (ev_ck (by omega) (ev_ix (by omega) (ev_bz ys_blank (fun hp => ?_) (fun hp => ?_))))) (fun hge => ev_ok (.inr ⟨rfl, fun z => hge z.1⟩)))
    · rw [if_neg (by decide)]; exact ev_ok (.inr ⟨rfl, fun z => z.2 hp⟩)
    · rw [if_pos rfl]; exact ev_ck (by omega) (ev_ok (.inl ⟨rfl, hl', hp⟩))
  have fin : ∀ i h, L ≤ i → NL_Y_hasClass_5 a c i h m = some h := fun i h hi => by
    unfold NL_Y_hasClass_5
    refine it_inr ?_
    show nb_Y_hasClass_5 a c i h m = _
    unfold nb_Y_hasClass_5
    rw [ix_e _ ha, hL.1, if_neg (by omega)]
  have body : ∀ i h, 0 ≤ i → i < L → nb_Y_hasClass_5 a c i h m = if h = 0 ∧ sg g i (sc (fun j => ¬ isBl (g j)) i L - i).toNat ≠ w then some (.inl (sc (fun j => ¬ isBl (g j)) i L + 1, 0)) else some (.inl (sc (fun j => ¬ isBl (g j)) i L + 1, 1)) := fun i h i0 i1 => by
    have k1 := scx_ge (p := fun j => ¬ isBl (g j)) i L
    have k2 := scx_le (p := fun j => ¬ isBl (g j)) (i := i) (to := L) (by omega)
    unfold nb_Y_hasClass_5
    rw [ix_e _ ha, hL.1, if_pos i1, scan i h i0 (by omega)]
    simp only [Option.bind_some]
    generalize sc (fun j => ¬ isBl (g j)) i L = k at *
    unfold nk_Y_hasClass_51 nk_Y_hasClass_106
    rw [ck_e (a := k + 1) _ (by omega)]
    by_cases zh : h = 0
    · rw [if_pos zh, ck_e _ (by omega), ix_e _ hc, hw.2.1]
      have hlen := sg_len g (k - i).toNat i
      by_cases zl : k - i = (w.length : Int)
      · rw [if_pos zl, if_pos (by omega), ck_e _ (by omega), ck_e _ (by omega), ck_e _ (by omega), ix_e _ hc]
        have hs := ys_same (f := 59) (f2 := 96) (m := m) (i := 60 * a + i) (j := 8 * c) (k := (w.length : Int)) (by omega) (by omega) (by show _ ≤ (28800 : Int); omega) (by show _ ≤ (3936 : Int); omega) (by omega) ⟨by omega, by omega⟩
        rw [show ((w.length : Int)).toNat = w.length by omega, hw.2.2] at hs
        have hsg : sg (m 59) (60 * a + i) w.length = sg g i (k - i).toNat := by
          rw [show (k - i).toNat = w.length by omega]
          exact sg_cg _ _ _ (fun x hx => by rw [← gj, show 60 * a + (i + (x : Int)) = 60 * a + i + x by omega])
        rw [hsg] at hs
        by_cases y : sg g i (k - i).toNat = w
        · rw [bz_t hs y]
          simp only [Option.bind_some]
          rw [if_neg (by decide), if_neg (fun u => u.2 y), ck_e _ (by omega)]
        · rw [bz_f hs y]
          simp only [Option.bind_some]
          rw [if_pos trivial, if_pos ⟨zh, y⟩]
      · rw [if_neg zl, if_pos ⟨zh, fun y => zl (by rw [y] at hlen; omega)⟩]
    · rw [if_neg zh, if_neg (fun u => zh u.1), ck_e _ (by omega)]
  have one : ∀ (z : Nat) (i : Int), 0 ≤ i → (L - i).toNat < z → NL_Y_hasClass_5 a c i 1 m = some 1 := by
    intro z
    induction z with
    | zero => intro i _ hz; omega
    | succ z ih =>
      intro i hi hz
      by_cases hlt : i < L
      · have k1 := scx_ge (p := fun j => ¬ isBl (g j)) i L
        have eb := body i 1 hi hlt
        rw [if_neg (fun y => absurd y.1 (by decide))] at eb
        have E : NL_Y_hasClass_5 a c i 1 m = NL_Y_hasClass_5 a c (sc (fun j => ¬ isBl (g j)) i L + 1) 1 m := by
          unfold NL_Y_hasClass_5
          exact it_inl (f := fun t : Int × Int => nb_Y_hasClass_5 a c t.1 t.2 m) (s := (i, 1)) eb
        rw [E]
        exact ih _ (by omega) (by omega)
      · exact fin i 1 (by omega)
  have key : ∀ (z : Nat) (i : Int), 0 ≤ i → (L - i).toNat < z → NL_Y_hasClass_5 a c i 0 m = some (@ite _ (hwF g w L z i) (Classical.propDecidable _) 1 0) := by
    intro z
    induction z with
    | zero => intro i _ hz; omega
    | succ z ih =>
      intro i hi hz
      by_cases hlt : i < L
      · have k1 := scx_ge (p := fun j => ¬ isBl (g j)) i L
        have eb := body i 0 hi hlt
        have hF : hwF g w L (z + 1) i ↔ (sg g i (sc (fun j => ¬ isBl (g j)) i L - i).toNat = w ∨ hwF g w L z (sc (fun j => ¬ isBl (g j)) i L + 1)) := ⟨fun y => y.2, fun y => ⟨hlt, y⟩⟩
        generalize sc (fun j => ¬ isBl (g j)) i L = k at *
        by_cases y : sg g i (k - i).toNat = w
        · rw [if_neg (fun u => u.2 y)] at eb
          have E : NL_Y_hasClass_5 a c i 0 m = NL_Y_hasClass_5 a c (k + 1) 1 m := by
            unfold NL_Y_hasClass_5
            exact it_inl (f := fun t : Int × Int => nb_Y_hasClass_5 a c t.1 t.2 m) (s := (i, 0)) eb
          rw [E, one z (k + 1) (by omega) (by omega), @if_pos _ (Classical.propDecidable _) (hF.mpr (.inl y))]
        · rw [if_pos ⟨rfl, y⟩] at eb
          have E : NL_Y_hasClass_5 a c i 0 m = NL_Y_hasClass_5 a c (k + 1) 0 m := by
            unfold NL_Y_hasClass_5
            exact it_inl (f := fun t : Int × Int => nb_Y_hasClass_5 a c t.1 t.2 m) (s := (i, 0)) eb
          rw [E, ih (k + 1) (by omega) (by omega)]
          by_cases u : hwF g w L z (k + 1)
          · rw [@if_pos _ (Classical.propDecidable _) u, @if_pos _ (Classical.propDecidable _) (hF.mpr (.inr u))]
          · rw [@if_neg _ (Classical.propDecidable _) u, @if_neg _ (Classical.propDecidable _) (fun x => by rcases hF.mp x with y' | y'; exact y y'; exact u y')]
      · rw [fin i 0 (by omega), @if_neg _ (Classical.propDecidable _) (fun y => hlt y.1)]
  unfold N_Y_hasClass
  rw [key (L.toNat + 1) 0 (by omega) (by omega)]
  simp only [Option.bind_some]
  unfold cz
  by_cases u : hwF g w L (L.toNat + 1) 0
  · rw [@if_pos _ (Classical.propDecidable _) u, if_pos (by decide)]
  · rw [@if_neg _ (Classical.propDecidable _) u, if_pos (by decide)]
end S6
