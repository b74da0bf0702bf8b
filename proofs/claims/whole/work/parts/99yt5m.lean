/-! ONLY INPUTS ARE MARKED: an input begins -/
section YT5M
variable {n n0 n' : NS} {v0 w0 w1 : Int}
theorem c_nk_Node_startInput_84 (h13 : n 7 w1 0 = 13) (h : CHK n) : kz CHK (nk_Node_startInput_84 w0 w1 n) := by
  unfold nk_Node_startInput_84
  exact kz_cz (kz_stc (CHK.stt h13 h) (fun n3 h3 => kz_some h3))
theorem c_nk_Node_startInput_83 (h13 : n 7 w0 0 = 13) (h : CHK n) : kz CHK (nk_Node_startInput_83 w0 n) := by
  unfold nk_Node_startInput_83
  exact c_nk_Node_startInput_84 h13 h
theorem c_nk_Node_startInput_56 (h13 : n 7 v0 0 = 13) (h : CHK n) : kz CHK (nk_Node_startInput_56 v0 w0 w1 n) := by
  unfold nk_Node_startInput_56
  refine kz_cz (kz_ste (fun n3 e3 => ?_))
  have g1 : CHK n3 := by rw [e3]; exact CHK.n7 (by decide) (by decide) h
  have g2 : n3 7 v0 0 = 13 := by rw [e3, nw_ns (by decide)]; exact h13
  refine kz_if (c_nk_Node_startInput_83 g2 g1) (kz_bt (fun _ => kz_bt (fun _ => kz_if (c_nk_Node_startInput_83 g2 g1) (c_nk_Node_startInput_84 g2 g1))))
theorem c_nk_Node_startInput_27 (h13 : n 7 v0 0 = 13) (h : CHK n) : kz CHK (nk_Node_startInput_27 v0 n) := by
  unfold nk_Node_startInput_27 nk_Node_startInput_55
  exact kz_bt (fun _ => kz_bt (fun _ => kz_if (c_nk_Node_startInput_56 h13 h) (kz_bt (fun _ => kz_if (c_nk_Node_startInput_56 h13 h) (c_nk_Node_startInput_56 h13 h)))))
theorem c_N_Node_startInput (h13 : n 7 v0 0 = 13) (h : CHK n) : kz CHK (N_Node_startInput v0 n) := by
  unfold N_Node_startInput
  refine kz_bt (fun _ => kz_bt (fun _ => kz_if (c_nk_Node_startInput_27 h13 h) (kz_nn (kz_b (t_N_Node_setValue KTg.refl) (fun n15 h15 => c_nk_Node_startInput_27 ((h15 v0).1.trans h13) (h.kt h15))))))
end YT5M
