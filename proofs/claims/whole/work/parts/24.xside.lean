theorem zz_sids_ok : zz_sids zz_P zz_N = true := by decide +kernel
