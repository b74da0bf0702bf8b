/-! WHATEVER THE CLASS SAYS: only inputs are marked (made by genK.py) -/
section YYT6
variable {n n0 : NS}
theorem c_nk_Reader_startTag_156 {v3 : Int} {v6 : Int} {v7 : Int} (h : CHK n) : kz (CHK) (nk_Reader_startTag_156 v3 v6 v7 n) := by
  unfold nk_Reader_startTag_156
  repeat' (first | (exact kz_none) | (with_reducible refine kz_ck ?_) | (with_reducible refine kz_ix ?_) | (with_reducible refine kz_if ?_ ?_) | (with_reducible refine kz_stc ?_ (fun _ _ => ?_)) | (with_reducible assumption) | (with_reducible refine CHK.nwr (by decide) ?_) | (with_reducible refine kz_bt (fun _ => ?_)) | (with_reducible refine kz_some ?_) | (with_reducible exact kq_t) | (with_reducible refine kq_l ?_) | (with_reducible refine kq_r ?_) | (with_reducible refine kq_ic ?_) | (with_reducible refine kq_jc ?_) | (with_reducible assumption) | (with_reducible refine fun _ _ => ?_))
end YYT6
