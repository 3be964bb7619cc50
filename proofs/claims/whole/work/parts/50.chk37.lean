theorem zk_W_law_1_c8_0 : zz_dec zn_W_law_1.2.1 ((zm_W_law_1_c8.drop 0).take 40) = true := by decide +kernel
