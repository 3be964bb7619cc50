theorem zk_W_law_1_c3_1 : zz_dec zn_W_law_1.2.1 ((zm_W_law_1_c3.drop 40).take 40) = true := by decide +kernel
