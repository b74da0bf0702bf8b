/-! ONLY INPUTS ARE MARKED: what a press does -/
section YT4M
variable {n n0 n' : NS} {v1 : Int}
theorem c_N_Acts_pressOn (h : CHK n) : kz cI (N_Acts_pressOn v1 n) := by
  unfold N_Acts_pressOn
  repeat' (first | (with_reducible refine kz_ix ?_) | (with_reducible refine kz_nn ?_) | (with_reducible refine kz_ifc (fun _ => ?_) (fun _ => ?_)) | (with_reducible exact c_nk_Acts_pressOn_48 (by assumption)) | (with_reducible exact c_nk_Acts_pressOn_129 (by assumption)) | (with_reducible exact c_nk_Acts_pressOn_87 (by assumption) (by assumption)) | (with_reducible refine kz_b (c_N_Net_aim (by assumption)) ?_) | (with_reducible refine kz_bt (fun _ => ?_)) | (with_reducible refine kz_u2ic (fun _ _ _ => ?_)) | (with_reducible refine kz_stc ?_ (fun _ _ => ?_)) | (with_reducible refine CHK.nwr (by decide) ?_) | (with_reducible assumption) | (with_reducible refine kz_some ?_) | (with_reducible refine kq_ic ?_))
end YT4M
