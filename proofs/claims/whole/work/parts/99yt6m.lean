/-! ONLY INPUTS ARE MARKED: a tag begins -/
section YT6M
variable {n n0 n' : NS} {v1 v3 v4 : Int}
theorem c_nk_Reader_startTag_76 (h : CHK n) : kz CHK (nk_Reader_startTag_76 v1 v3 v4 n) := by
  unfold nk_Reader_startTag_76
  refine kz_ck (kz_ix (kz_bt (fun _ => kz_if (kz_b (c_N_Reader_tell h) (fun n13 h13 => kz_some h13)) ?_)))
  refine kz_b (c_N_Tree_grow2 (v2 := v4) h) (fun c hc => ?_)
  obtain ⟨z19, n22⟩ := c
  obtain ⟨g1, g2⟩ := hc
  show kz CHK (ix z19 120 _)
  refine kz_ix (kz_b (t_N_Node_copyAttributes KTg.refl) (fun n31 h31 => ?_))
  have g3 : CHK n31 := g1.kt h31
  have g4 : n31 7 z19 0 = v4 := (h31 z19).1.trans g2
  exact kz_ifc (fun z => kz_b (c_N_Node_startInput (by rw [g4]; exact z) g3) (fun n36 h36 => c_nk_Reader_startTag_156 h36)) (fun _ => c_nk_Reader_startTag_156 g3)
end YT6M
