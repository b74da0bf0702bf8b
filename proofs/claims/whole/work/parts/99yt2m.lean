/-! ONLY INPUTS ARE MARKED: a node grows -/
section YT2M
variable {n n0 n' : NS} {v1 v2 v3 v5 w0 w1 : Int}
theorem c_nk_Tree_grow_30 (h : CHK n) : kz (fun r : Int × NS => CHK r.2 ∧ r.2 7 r.1 0 = v2) (nk_Tree_grow_30 v1 v2 v3 v5 n) := by
  unfold nk_Tree_grow_30
  refine kz_ix ?_
  have h0 : KTg (nw n 7 v5 0 v2) (nw n 7 v5 0 v2) := KTg.refl
  refine kz_stt h0 (fun n5 h5 => ?_)
  refine kz_stt (KTg.n7 (by decide) (by decide) h5) (fun n9 h9 => ?_)
  refine kz_stt (KTg.n7 (by decide) (by decide) h9) (fun n13 h13 => ?_)
  refine kz_stt (KTg.n7 (by decide) (by decide) h13) (fun n17 h17 => ?_)
  refine kz_stt (KTg.n7 (by decide) (by decide) h17) (fun n21 h21 => ?_)
  refine kz_stt (KTg.n7 (by decide) (by decide) h21) (fun n25 h25 => ?_)
  refine kz_stt (KTg.n7 (by decide) (by decide) h25) (fun n29 h29 => ?_)
  refine kz_stt (KTg.n7 (by decide) (by decide) h29) (fun n33 h33 => ?_)
  refine kz_stt (KTg.n7 (by decide) (by decide) h33) (fun n37 h37 => ?_)
  refine kz_b (t_N_Bytes_clear h37) (fun n42 h42 => ?_)
  refine kz_stt (KTg.n7 (by decide) (by decide) h42) (fun n46 h46 => ?_)
  refine kz_ste (fun n50 e50 => ?_)
  have g1 : CHK n50 := fun w x y => by
    rw [e50, nw_ns (show (0 : Int) ≠ 16 by decide)]
    by_cases z : w = v5
    · rw [z, nw_eq]; exact .inl rfl
    · have g := h46 w
      rw [nw_ni z] at g
      rw [nw_ni z, g.1, g.2]; exact h w x y
  have g2 : n50 7 v5 0 = v2 := by
    rw [e50, nw_ns (show (0 : Int) ≠ 16 by decide), (h46 v5).1, nw_eq]
  have fin : ∀ n', KTg n50 n' → CHK n' ∧ n' 7 v5 0 = v2 := fun n' hk => ⟨g1.kt hk, (hk v5).1.trans g2⟩
  have h50 : KTg n50 n50 := KTg.refl
  refine kz_ckL ?_
  refine kz_stt (KTg.nwr (by decide) h50) (fun n56 h56 => ?_)
  refine kz_stt (KTg.n7 (by decide) (by decide) h56) (fun n61 h61 => ?_)
  refine kz_ck ?_
  refine kz_stt (KTg.nwr (by decide) h61) (fun n67 h67 => ?_)
  refine kz_ck ?_
  refine kz_stt (KTg.nwr (by decide) h67) (fun n73 h73 => ?_)
  refine kz_if (kz_some (fin _ h73)) ?_
  refine kz_ix ?_
  refine kz_ck ?_
  refine kz_stt (KTg.n7 (by decide) (by decide) h73) (fun n84 h84 => ?_)
  have last : ∀ n', KTg n50 n' → kz (fun r : Int × NS => CHK r.2 ∧ r.2 7 r.1 0 = v2) (nk_Tree_grow_214 v5 v1 n') := fun n' hk => by
    unfold nk_Tree_grow_214
    repeat' (first | (with_reducible refine kz_ck ?_) | (with_reducible refine kz_ix ?_) | (with_reducible refine kz_stt (n0 := n50) ?_ (fun _ _ => ?_)) | (with_reducible refine KTg.n7 (by decide) (by decide) ?_) | (with_reducible refine KTg.nwr (by decide) ?_) | (with_reducible assumption) | (with_reducible refine kz_some (fin _ ?_)))
  refine kz_if ?_ ?_
  · exact kz_stt (KTg.n7 (by decide) (by decide) h84) (fun n90 h90 => last n90 h90)
  · exact kz_ix (kz_stt (KTg.n7 (by decide) (by decide) h84) (fun n98 h98 => last n98 h98))
theorem c_N_Tree_grow2 (h : CHK n) : kz (fun r : Int × NS => CHK r.2 ∧ r.2 7 r.1 0 = v2) (N_Tree_grow v1 v2 v3 n) := by
  unfold N_Tree_grow
  exact kz_bt (fun _ => c_nk_Tree_grow_30 h)
theorem c_N_Tree_grow (h : CHK n) : kz cI (N_Tree_grow v1 v2 v3 n) := fun r hr => (c_N_Tree_grow2 h r hr).1
theorem c_nk_Acts_pressOn_87 (h13 : n 7 w1 0 = 13) (h : CHK n) : kz cI (nk_Acts_pressOn_87 w0 w1 n) := by
  unfold nk_Acts_pressOn_87
  exact kz_cz (kz_stc (CHK.stt h13 h) (fun n3 h3 => kz_some (kq_ic h3)))
end YT2M
