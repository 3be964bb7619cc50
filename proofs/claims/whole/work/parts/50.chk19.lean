theorem zk_W_law_1_c4_2 : zz_dec zn_W_law_1.2.1 ((zm_W_law_1_c4.drop 80).take 40) = true := by decide +kernel
