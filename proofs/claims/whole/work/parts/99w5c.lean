/-! WHATEVER THE REFERENCE SAYS: words and the line stay (made by genY.py) -/
section YYZC
variable {m m0 : YS}
theorem f_nb_Y_edgesAt_15 {v1 : Int} {v2 : Int} (h : KYf m0 m) : kz (sp (fI m0) (KYf m0)) (nb_Y_edgesAt_15 v1 v2 m) := by
  unfold nb_Y_edgesAt_15
  repeat' (first | (exact kz_none) | (with_reducible refine kz_ck ?_) | (with_reducible refine kz_ix ?_) | (with_reducible refine kz_if ?_ ?_) | (with_reducible refine kz_stf (m0 := m0) ?_ (fun _ _ => ?_)) | (with_reducible assumption) | (with_reducible refine KYf.wr (by decide) ?_) | (with_reducible refine kz_bt (fun _ => ?_)) | (with_reducible refine kz_some ?_) | (with_reducible exact kq_t) | (with_reducible refine kq_l ?_) | (with_reducible refine kq_r ?_) | (with_reducible refine kq_if ?_) | (with_reducible refine kq_jf ?_) | (with_reducible assumption) | (with_reducible refine fun _ _ => ?_))
theorem f_NL_Y_edgesAt_15 {v1 : Int} {v2 : Int} (h : KYf m0 m) : kz (KYf m0) (NL_Y_edgesAt_15 v1 v2 m) := by
  unfold NL_Y_edgesAt_15
  exact kz_it (fI m0) (fun s hs => f_nb_Y_edgesAt_15 hs) h
theorem f_N_Y_edgesAt {v1 : Int} (h : KYf m0 m) : kz (KYf m0) (N_Y_edgesAt v1 m) := by
  unfold N_Y_edgesAt
  repeat' (first | (exact kz_none) | (with_reducible refine kz_if ?_ ?_) | (with_reducible refine kz_stf (m0 := m0) ?_ (fun _ _ => ?_)) | (with_reducible assumption) | (with_reducible refine KYf.wr (by decide) ?_) | (with_reducible refine kz_b (f_NL_Y_edgesAt_15 (by assumption)) ?_) | (with_reducible exact f_NL_Y_edgesAt_15 (by assumption)) | (with_reducible refine kz_bt (fun _ => ?_)) | (with_reducible refine kz_some ?_) | (with_reducible exact kq_t) | (with_reducible refine kq_l ?_) | (with_reducible refine kq_r ?_) | (with_reducible refine kq_if ?_) | (with_reducible refine kq_jf ?_) | (with_reducible assumption) | (with_reducible refine fun _ _ => ?_))
theorem f_nb_Y_putFloat_70 {v1 : Int} {v2 : Int} {v3 : Int} {v4 : Int} {v5 : Int} (h : KYf m0 m) : kz (sp (fJ m0) (fI m0)) (nb_Y_putFloat_70 v1 v2 v3 v4 v5 m) := by
  unfold nb_Y_putFloat_70
  repeat' (first | (exact kz_none) | (with_reducible refine kz_ck ?_) | (with_reducible refine kz_if ?_ ?_) | (with_reducible refine kz_b (f_N_Y_edgesAt (by assumption)) ?_) | (with_reducible exact f_N_Y_edgesAt (by assumption)) | (with_reducible refine kz_bt (fun _ => ?_)) | (with_reducible refine kz_some ?_) | (with_reducible exact kq_t) | (with_reducible refine kq_l ?_) | (with_reducible refine kq_r ?_) | (with_reducible refine kq_if ?_) | (with_reducible refine kq_jf ?_) | (with_reducible assumption) | (with_reducible refine fun _ _ => ?_))
theorem f_NL_Y_putFloat_70 {v1 : Int} {v2 : Int} {v3 : Int} {v4 : Int} {v5 : Int} (h : KYf m0 m) : kz (fI m0) (NL_Y_putFloat_70 v1 v2 v3 v4 v5 m) := by
  unfold NL_Y_putFloat_70
  exact kz_it (fJ m0) (fun s hs => f_nb_Y_putFloat_70 hs) h
theorem f_nk_Y_putFloat_134 {v1 : Int} {v2 : Int} {v3 : Int} {v4 : Int} {w0 : Int} (h : KYf m0 m) : kz (KYf m0) (nk_Y_putFloat_134 v1 v2 v3 v4 w0 m) := by
  unfold nk_Y_putFloat_134
  repeat' (first | (exact kz_none) | (with_reducible refine kz_ck ?_) | (with_reducible refine kz_ix ?_) | (with_reducible refine kz_if ?_ ?_) | (with_reducible refine kz_stf (m0 := m0) ?_ (fun _ _ => ?_)) | (with_reducible assumption) | (with_reducible refine KYf.wr (by decide) ?_) | (with_reducible refine kz_bt (fun _ => ?_)) | (with_reducible refine kz_some ?_) | (with_reducible exact kq_t) | (with_reducible refine kq_l ?_) | (with_reducible refine kq_r ?_) | (with_reducible refine kq_if ?_) | (with_reducible refine kq_jf ?_) | (with_reducible assumption) | (with_reducible refine fun _ _ => ?_))
theorem f_nk_Y_putFloat_110 {v1 : Int} {v2 : Int} {v3 : Int} {v4 : Int} (h : KYf m0 m) : kz (KYf m0) (nk_Y_putFloat_110 v1 v2 v3 v4 m) := by
  unfold nk_Y_putFloat_110
  repeat' (first | (exact kz_none) | (with_reducible refine kz_ck ?_) | (with_reducible refine kz_if ?_ ?_) | (with_reducible refine kz_b (f_nk_Y_putFloat_134 (by assumption)) ?_) | (with_reducible exact f_nk_Y_putFloat_134 (by assumption)) | (with_reducible refine kz_bt (fun _ => ?_)) | (with_reducible refine kz_some ?_) | (with_reducible exact kq_t) | (with_reducible refine kq_l ?_) | (with_reducible refine kq_r ?_) | (with_reducible refine kq_if ?_) | (with_reducible refine kq_jf ?_) | (with_reducible assumption) | (with_reducible refine fun _ _ => ?_))
theorem f_N_Y_putFloat {v1 : Int} (h : KYf m0 m) : kz (KYf m0) (N_Y_putFloat v1 m) := by
  unfold N_Y_putFloat
  repeat' (first | (exact kz_none) | (with_reducible refine kz_ck ?_) | (with_reducible refine kz_ix ?_) | (with_reducible refine kz_if ?_ ?_) | (with_reducible refine kz_b (f_N_Y_edgesAt (by assumption)) ?_) | (with_reducible exact f_N_Y_edgesAt (by assumption)) | (with_reducible refine kz_b (f_NL_Y_putFloat_70 (by assumption)) ?_) | (with_reducible exact f_NL_Y_putFloat_70 (by assumption)) | (with_reducible refine kz_b (f_nk_Y_putFloat_110 (by assumption)) ?_) | (with_reducible exact f_nk_Y_putFloat_110 (by assumption)) | (with_reducible refine kz_bt (fun _ => ?_)) | (with_reducible refine kz_u2if (fun _ _ _ => ?_)) | (with_reducible refine kz_u2 (fun _ _ => ?_)) | (with_reducible refine kz_some ?_) | (with_reducible exact kq_t) | (with_reducible refine kq_l ?_) | (with_reducible refine kq_r ?_) | (with_reducible refine kq_if ?_) | (with_reducible refine kq_jf ?_) | (with_reducible assumption) | (with_reducible refine fun _ _ => ?_))
end YYZC
