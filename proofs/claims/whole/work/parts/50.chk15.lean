theorem zk_W_law_1_c3_3 : zz_dec zn_W_law_1.2.1 ((zm_W_law_1_c3.drop 120).take 40) = true := by decide +kernel
