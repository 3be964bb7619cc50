def zh_N_law : List Nat := [9999, 306, 543, 9999, 306, 9999, 312, 765, 9999, 9999, 306, 668, 307, 9999, 307, 9999, 9999, 672, 9999, 311, 9999, 312, 496, 9999, 315, 505, 9999, 311, 252, 9999]
theorem zk_N_law : zz_dec zn_N_law.2.1 zm_N_law.1 = true := by decide +kernel
theorem zl_N_law : zz_lks zn_N_law.1.cls zm_N_law.1 zh_N_law = true := by decide +kernel
def zh_N_fault : List Nat := [9999, 307, 9999]
theorem zk_N_fault : zz_dec zn_N_fault.2.1 zm_N_fault.1 = true := by decide +kernel
theorem zl_N_fault : zz_lks zn_N_fault.1.cls zm_N_fault.1 zh_N_fault = true := by decide +kernel
def zh_N_kind : List Nat := [9999, 840, 9999, 308, 158, 9999, 9999, 9999, 9999, 9999, 9999, 9999, 9999, 308, 163, 9999, 9999, 9999, 9999, 308, 168, 9999, 9999, 9999, 9999, 316, 9999, 308, 9999, 859, 9999, 9999, 308, 9999, 871, 872, 9999, 9999, 876, 9999, 9999, 887, 9999, 9999, 892, 9999, 9999, 308, 9999, 896, 9999, 9999, 308, 9999, 897, 9999, 9999, 308, 9999, 900, 9999, 904]
theorem zk_N_kind : zz_dec zn_N_kind.2.1 zm_N_kind.1 = true := by decide +kernel
theorem zl_N_kind : zz_lks zn_N_kind.1.cls zm_N_kind.1 zh_N_kind = true := by decide +kernel
def zh_N_person : List Nat := [9999, 9999, 927, 9999, 9999, 9999, 308, 171, 9999, 9999, 9999, 9999, 308, 174, 9999, 9999, 9999, 9999, 308, 177, 9999, 9999, 9999, 9999, 308, 180, 9999, 9999, 9999, 9999, 308, 183, 9999, 9999, 9999, 9999, 308, 185, 9999, 9999, 9999, 9999, 311, 9999, 308, 9999, 932, 9999, 9999, 308, 9999, 960, 9999, 9999, 308, 9999, 965, 9999, 9999, 9999, 972, 9999, 9999, 308, 9999, 999, 9999, 9999, 308, 9999, 1004, 9999, 904]
theorem zk_N_person : zz_dec zn_N_person.2.1 zm_N_person.1 = true := by decide +kernel
theorem zl_N_person : zz_lks zn_N_person.1.cls zm_N_person.1 zh_N_person = true := by decide +kernel
def zh_N_mark : List Nat := [9999, 9999, 927, 9999, 1016, 9999, 308, 174, 9999, 9999, 9999, 308, 9999, 1020, 9999, 9999, 9999, 9999, 9999, 9999, 9999, 9999, 9999, 9999]
theorem zk_N_mark : zz_dec zn_N_mark.2.1 zm_N_mark.1 = true := by decide +kernel
theorem zl_N_mark : zz_lks zn_N_mark.1.cls zm_N_mark.1 zh_N_mark = true := by decide +kernel
def zh_N_years : List Nat := [9999, 9999, 9999, 672, 9999, 9999, 1029, 9999, 315, 9999, 308, 1033, 9999, 9999, 9999, 9999, 9999, 9999, 9999, 9999, 9999, 308, 9999, 311, 1038, 9999, 9999, 9999, 9999, 9999, 9999]
theorem zk_N_years : zz_dec zn_N_years.2.1 zm_N_years.1 = true := by decide +kernel
theorem zl_N_years : zz_lks zn_N_years.1.cls zm_N_years.1 zh_N_years = true := by decide +kernel
def zh_N_rub : List Nat := [9999, 9999, 927, 9999, 1016, 9999, 9999, 9999, 9999, 9999, 308, 174, 9999, 9999, 9999, 9999, 9999, 1071, 9999, 315, 9999, 308, 1033, 9999, 308, 174, 9999, 9999, 9999, 9999, 9999, 9999, 9999, 308, 9999, 9999, 9999, 1087, 9999, 308, 9999, 1020, 9999, 9999, 9999, 9999, 9999, 9999, 9999]
theorem zk_N_rub : zz_dec zn_N_rub.2.1 zm_N_rub.1 = true := by decide +kernel
theorem zl_N_rub : zz_lks zn_N_rub.1.cls zm_N_rub.1 zh_N_rub = true := by decide +kernel
def zh_N_ink : List Nat := [9999, 9999, 927, 9999, 840, 9999, 308, 9999, 447, 9999, 9999, 308, 200, 9999, 9999, 1071, 9999, 315, 9999, 308, 1033, 9999, 308, 171, 9999, 9999, 9999, 9999, 308, 9999, 200, 9999, 9999, 200, 9999, 308, 9999, 9999, 9999, 1087, 9999, 308, 200, 9999]
theorem zk_N_ink : zz_dec zn_N_ink.2.1 zm_N_ink.1 = true := by decide +kernel
theorem zl_N_ink : zz_lks zn_N_ink.1.cls zm_N_ink.1 zh_N_ink = true := by decide +kernel
def zh_N_wash : List Nat := [9999, 9999, 927, 9999, 315, 9999, 308, 1033, 9999, 308, 174, 9999, 9999, 9999, 9999, 308, 174, 9999, 9999, 9999, 9999, 9999]
theorem zk_N_wash : zz_dec zn_N_wash.2.1 zm_N_wash.1 = true := by decide +kernel
theorem zl_N_wash : zz_lks zn_N_wash.1.cls zm_N_wash.1 zh_N_wash = true := by decide +kernel
def zh_N_told : List Nat := [9999, 840, 9999, 1110, 9999, 315, 9999, 308, 1033, 9999, 308, 163, 9999, 9999, 9999, 9999, 308, 163, 9999, 9999, 9999, 9999, 9999]
theorem zk_N_told : zz_dec zn_N_told.2.1 zm_N_told.1 = true := by decide +kernel
theorem zl_N_told : zz_lks zn_N_told.1.cls zm_N_told.1 zh_N_told = true := by decide +kernel
def zh_N_hold : List Nat := [9999, 840, 9999, 9999, 9999, 9999, 840, 9999, 315, 9999, 308, 1033, 9999, 308, 168, 9999, 9999, 9999, 9999, 308, 168, 9999, 9999, 9999, 9999, 9999]
theorem zk_N_hold : zz_dec zn_N_hold.2.1 zm_N_hold.1 = true := by decide +kernel
theorem zl_N_hold : zz_lks zn_N_hold.1.cls zm_N_hold.1 zh_N_hold = true := by decide +kernel
def zh_N_does : List Nat := [9999, 9999, 927, 9999, 1110, 9999, 9999, 9999, 9999, 9999, 308, 183, 9999, 9999, 9999, 9999, 9999, 1071, 9999, 315, 9999, 308, 1033, 9999, 308, 183, 9999, 9999, 9999, 9999, 9999, 9999, 9999, 308, 183, 9999, 9999, 9999]
theorem zk_N_does : zz_dec zn_N_does.2.1 zm_N_does.1 = true := by decide +kernel
theorem zl_N_does : zz_lks zn_N_does.1.cls zm_N_does.1 zh_N_does = true := by decide +kernel
def zh_N_luck : List Nat := [9999, 9999, 927, 9999, 9999, 9999, 9999, 9999, 672, 9999, 315, 9999, 308, 1033, 9999, 308, 180, 9999, 9999, 9999, 9999, 308, 180, 9999, 9999, 9999, 9999, 9999]
theorem zk_N_luck : zz_dec zn_N_luck.2.1 zm_N_luck.1 = true := by decide +kernel
theorem zl_N_luck : zz_lks zn_N_luck.1.cls zm_N_luck.1 zh_N_luck = true := by decide +kernel
def zh_N_fill : List Nat := [9999, 9999, 9999, 9999, 9999, 9999, 672, 9999, 315, 9999, 308, 1033, 9999, 308, 9999, 308, 200, 9999, 9999, 9999, 1145, 200, 9999, 308, 200, 9999]
theorem zk_N_fill : zz_dec zn_N_fill.2.1 zm_N_fill.1 = true := by decide +kernel
theorem zl_N_fill : zz_lks zn_N_fill.1.cls zm_N_fill.1 zh_N_fill = true := by decide +kernel
def zh_N_blank : List Nat := [9999, 9999, 927, 9999, 308, 174, 9999, 9999, 9999, 308, 9999, 1020, 9999, 9999, 9999, 9999, 9999, 9999]
theorem zk_N_blank : zz_dec zn_N_blank.2.1 zm_N_blank.1 = true := by decide +kernel
theorem zl_N_blank : zz_lks zn_N_blank.1.cls zm_N_blank.1 zh_N_blank = true := by decide +kernel
def zh_N_reach : List Nat := [9999, 840, 9999, 1016, 9999, 1016, 9999, 308, 158, 9999, 9999, 9999, 9999, 1160, 9999]
theorem zk_N_reach : zz_dec zn_N_reach.2.1 zm_N_reach.1 = true := by decide +kernel
theorem zl_N_reach : zz_lks zn_N_reach.1.cls zm_N_reach.1 zh_N_reach = true := by decide +kernel
def zh_N_turned : List Nat := [9999, 840, 9999, 840, 9999, 308, 158, 9999, 9999, 9999, 308, 158, 9999, 9999, 1170, 9999]
theorem zk_N_turned : zz_dec zn_N_turned.2.1 zm_N_turned.1 = true := by decide +kernel
theorem zl_N_turned : zz_lks zn_N_turned.1.cls zm_N_turned.1 zh_N_turned = true := by decide +kernel
def zh_N_shifts : List Nat := [9999, 840, 9999, 840, 9999, 308, 158, 9999, 9999, 9999, 308, 158, 9999, 9999, 1183, 9999, 9999, 9999, 9999, 308, 158, 9999, 9999, 9999, 308, 158, 9999, 9999, 9999, 1189, 9999, 9999, 9999]
theorem zk_N_shifts : zz_dec zn_N_shifts.2.1 zm_N_shifts.1 = true := by decide +kernel
theorem zl_N_shifts : zz_lks zn_N_shifts.1.cls zm_N_shifts.1 zh_N_shifts = true := by decide +kernel
def zh_N_ring : List Nat := [9999, 840, 9999, 308, 9999, 1197, 9999]
theorem zk_N_ring : zz_dec zn_N_ring.2.1 zm_N_ring.1 = true := by decide +kernel
theorem zl_N_ring : zz_lks zn_N_ring.1.cls zm_N_ring.1 zh_N_ring = true := by decide +kernel
def zh_N_deepest : List Nat := [9999, 308, 374, 9999]
theorem zk_N_deepest : zz_dec zn_N_deepest.2.1 zm_N_deepest.1 = true := by decide +kernel
theorem zl_N_deepest : zz_lks zn_N_deepest.1.cls zm_N_deepest.1 zh_N_deepest = true := by decide +kernel
def zh_N_rules : List Nat := [9999, 306, 1208, 9999, 9999, 9999, 9999, 9999, 1209, 9999, 306, 9999, 1219, 9999, 9999, 9999, 9999, 391, 9999, 9999, 1223, 9999]
theorem zk_N_rules : zz_dec zn_N_rules.2.1 zm_N_rules.1 = true := by decide +kernel
theorem zl_N_rules : zz_lks zn_N_rules.1.cls zm_N_rules.1 zh_N_rules = true := by decide +kernel
def zh_N_ask : List Nat := [9999, 306, 1208, 9999, 9999, 9999, 9999, 9999, 1209, 9999, 306, 9999, 1219, 1236, 9999]
theorem zk_N_ask : zz_dec zn_N_ask.2.1 zm_N_ask.1 = true := by decide +kernel
theorem zl_N_ask : zz_lks zn_N_ask.1.cls zm_N_ask.1 zh_N_ask = true := by decide +kernel
def zh_N_now : List Nat := [9999, 308, 384, 391, 9999]
theorem zk_N_now : zz_dec zn_N_now.2.1 zm_N_now.1 = true := by decide +kernel
theorem zl_N_now : zz_lks zn_N_now.1.cls zm_N_now.1 zh_N_now = true := by decide +kernel
def zh_N_crew : List Nat := [9999, 316, 9999, 308, 9999, 9999, 9999, 398, 9999]
theorem zk_N_crew : zz_dec zn_N_crew.2.1 zm_N_crew.1 = true := by decide +kernel
theorem zl_N_crew : zz_lks zn_N_crew.1.cls zm_N_crew.1 zh_N_crew = true := by decide +kernel
def zh_N_berths : List Nat := [9999, 306, 1208, 9999, 9999, 9999, 1251, 9999, 316, 9999, 308, 9999, 306, 9999, 1256, 9999, 9999, 9999, 9999, 316, 1270, 9999, 9999, 316, 9999, 308, 9999, 306, 9999, 9999, 1274, 9999]
theorem zk_N_berths : zz_dec zn_N_berths.2.1 zm_N_berths.1 = true := by decide +kernel
theorem zl_N_berths : zz_lks zn_N_berths.1.cls zm_N_berths.1 zh_N_berths = true := by decide +kernel
def zh_N_inks : List Nat := [9999, 9999, 9999, 9999, 308, 9999, 308, 428, 429, 9999, 9999, 9999, 9999, 9999, 9999, 308, 9999, 430, 9999, 9999, 9999, 9999, 9999, 9999, 9999, 434, 9999, 9999, 9999, 308, 435, 434, 9999, 9999, 9999, 9999, 9999]
theorem zk_N_inks : zz_dec zn_N_inks.2.1 zm_N_inks.1 = true := by decide +kernel
theorem zl_N_inks : zz_lks zn_N_inks.1.cls zm_N_inks.1 zh_N_inks = true := by decide +kernel
def zh_N_old : List Nat := [9999, 9999, 9999, 9999, 9999, 672, 9999, 9999, 9999, 9999, 9999, 9999, 308, 190, 9999, 9999, 9999, 9999, 308, 177, 9999, 9999, 9999, 1290, 9999, 9999, 9999, 9999, 9999, 9999, 9999, 9999, 9999, 9999]
theorem zk_N_old : zz_dec zn_N_old.2.1 zm_N_old.1 = true := by decide +kernel
theorem zl_N_old : zz_lks zn_N_old.1.cls zm_N_old.1 zh_N_old = true := by decide +kernel
def zh_N_clash : List Nat := [9999, 306, 1208, 9999, 9999, 9999, 9999, 308, 190, 9999, 1209, 9999, 9999, 9999, 9999, 9999, 9999, 9999, 9999, 9999, 9999, 306, 9999, 1214, 9999, 9999, 308, 9999, 976, 9999, 306, 9999, 9999, 9999, 1214, 9999, 9999, 9999, 9999, 9999, 9999, 9999, 9999, 9999, 9999, 9999, 9999, 9999, 9999, 9999, 9999]
theorem zk_N_clash : zz_dec zn_N_clash.2.1 zm_N_clash.1 = true := by decide +kernel
theorem zl_N_clash : zz_lks zn_N_clash.1.cls zm_N_clash.1 zh_N_clash = true := by decide +kernel
def zh_N_pairs : List Nat := [9999, 9999, 9999, 9999, 9999, 927, 9999, 316, 9999, 308, 1305, 9999, 9999, 9999, 9999, 316, 1316, 9999, 9999, 316, 9999, 308, 9999, 1320, 9999]
theorem zk_N_pairs : zz_dec zn_N_pairs.2.1 zm_N_pairs.1 = true := by decide +kernel
theorem zl_N_pairs : zz_lks zn_N_pairs.1.cls zm_N_pairs.1 zh_N_pairs = true := by decide +kernel
def zh_N_kin : List Nat := [9999, 9999, 927, 9999, 9999, 927, 9999, 9999, 9999, 672, 9999, 308, 9999, 1020, 9999, 308, 9999, 1020, 9999, 434, 9999]
theorem zk_N_kin : zz_dec zn_N_kin.2.1 zm_N_kin.1 = true := by decide +kernel
theorem zl_N_kin : zz_lks zn_N_kin.1.cls zm_N_kin.1 zh_N_kin = true := by decide +kernel
def zh_N_rests : List Nat := [9999, 9999, 927, 9999, 9999, 9999, 9999, 9999, 9999, 9999, 9999, 308, 9999, 9999, 1343, 9999, 308, 9999, 9999, 9999, 9999, 1343, 9999, 9999, 308, 9999, 9999, 1347, 9999, 308, 9999, 9999, 9999, 9999, 1347, 9999, 9999, 9999, 9999, 9999, 9999, 9999, 9999, 9999, 9999, 9999, 9999, 9999, 9999, 9999, 9999, 9999]
theorem zk_N_rests : zz_dec zn_N_rests.2.1 zm_N_rests.1 = true := by decide +kernel
theorem zl_N_rests : zz_lks zn_N_rests.1.cls zm_N_rests.1 zh_N_rests = true := by decide +kernel
def zh_N_odds : List Nat := [9999, 9999, 927, 9999, 9999, 1029, 9999, 9999, 9999, 308, 9999, 1358, 9999, 9999, 9999, 9999, 9999, 311, 9999, 308, 9999, 932, 9999, 9999, 9999, 9999, 9999, 9999, 9999, 9999, 9999, 9999, 9999, 9999, 9999, 9999, 9999, 9999, 9999]
theorem zk_N_odds : zz_dec zn_N_odds.2.1 zm_N_odds.1 = true := by decide +kernel
theorem zl_N_odds : zz_lks zn_N_odds.1.cls zm_N_odds.1 zh_N_odds = true := by decide +kernel
def zh_N_plain : List Nat := [9999, 308, 435, 9999]
theorem zk_N_plain : zz_dec zn_N_plain.2.1 zm_N_plain.1 = true := by decide +kernel
theorem zl_N_plain : zz_lks zn_N_plain.1.cls zm_N_plain.1 zh_N_plain = true := by decide +kernel
def zh_N_found : List Nat := [9999, 9999, 9999, 9999, 9999, 9999, 308, 190, 9999, 9999, 308, 9999, 447, 9999, 9999, 308, 9999, 448, 9999, 9999, 9999, 9999, 9999, 9999, 9999, 9999, 9999, 9999, 9999]
theorem zk_N_found : zz_dec zn_N_found.2.1 zm_N_found.1 = true := by decide +kernel
theorem zl_N_found : zz_lks zn_N_found.1.cls zm_N_found.1 zh_N_found = true := by decide +kernel
def zh_N_soFar : List Nat := [9999, 9999, 9999, 9999, 9999, 9999, 308, 190, 9999, 9999, 9999, 308, 183, 9999, 9999, 9999, 9999, 9999, 9999, 9999, 9999]
theorem zk_N_soFar : zz_dec zn_N_soFar.2.1 zm_N_soFar.1 = true := by decide +kernel
theorem zl_N_soFar : zz_lks zn_N_soFar.1.cls zm_N_soFar.1 zh_N_soFar = true := by decide +kernel
def zh_N_eldest : List Nat := [9999, 9999, 9999, 9999, 9999, 9999, 308, 190, 9999, 9999, 9999, 9999, 9999, 308, 177, 9999, 9999, 9999, 308, 177, 9999, 9999, 9999, 9999, 9999, 9999, 9999, 9999, 9999]
theorem zk_N_eldest : zz_dec zn_N_eldest.2.1 zm_N_eldest.1 = true := by decide +kernel
theorem zl_N_eldest : zz_lks zn_N_eldest.1.cls zm_N_eldest.1 zh_N_eldest = true := by decide +kernel
def zh_N_famous : List Nat := [9999, 9999, 9999, 9999, 9999, 9999, 9999, 9999, 308, 190, 9999, 9999, 308, 185, 9999, 9999, 9999, 9999, 9999, 9999, 9999, 308, 185, 9999, 9999, 9999, 9999, 9999, 9999, 9999]
theorem zk_N_famous : zz_dec zn_N_famous.2.1 zm_N_famous.1 = true := by decide +kernel
theorem zl_N_famous : zz_lks zn_N_famous.1.cls zm_N_famous.1 zh_N_famous = true := by decide +kernel
def zh_N_twins : List Nat := [9999, 9999, 9999, 9999, 9999, 9999, 308, 190, 9999, 9999, 9999, 9999, 9999, 9999, 9999, 308, 171, 9999, 9999, 9999, 308, 171, 9999, 9999, 9999, 9999, 9999, 9999, 9999, 9999, 9999, 9999]
theorem zk_N_twins : zz_dec zn_N_twins.2.1 zm_N_twins.1 = true := by decide +kernel
theorem zl_N_twins : zz_lks zn_N_twins.1.cls zm_N_twins.1 zh_N_twins = true := by decide +kernel
def zh_N_tellers : List Nat := [9999, 1110, 9999, 9999, 9999, 9999, 9999, 9999, 9999, 9999, 308, 163, 9999, 9999, 9999, 9999, 9999, 9999, 9999, 9999, 9999, 9999, 9999, 9999, 9999, 9999]
theorem zk_N_tellers : zz_dec zn_N_tellers.2.1 zm_N_tellers.1 = true := by decide +kernel
theorem zl_N_tellers : zz_lks zn_N_tellers.1.cls zm_N_tellers.1 zh_N_tellers = true := by decide +kernel
def zh_N_ahead : List Nat := [9999, 9999, 927, 9999, 9999, 1029, 9999, 9999, 9999, 9999, 9999, 904, 9999, 309, 9999, 308, 495, 9999, 9999, 9999, 9999, 9999, 9999, 309, 9999, 311, 980, 9999, 9999, 9999, 9999, 9999, 309, 177, 9999, 9999, 9999, 9999, 309, 183, 9999, 9999, 9999]
theorem zk_N_ahead : zz_dec zn_N_ahead.2.1 zm_N_ahead.1 = true := by decide +kernel
theorem zl_N_ahead : zz_lks zn_N_ahead.1.cls zm_N_ahead.1 zh_N_ahead = true := by decide +kernel
def zh_N_trial : List Nat := [9999, 9999, 1029, 9999, 9999, 9999, 308, 202, 1380, 9999, 9999, 9999, 309, 522, 9999, 9999, 309, 513, 9999]
theorem zk_N_trial : zz_dec zn_N_trial.2.1 zm_N_trial.1 = true := by decide +kernel
theorem zl_N_trial : zz_lks zn_N_trial.1.cls zm_N_trial.1 zh_N_trial = true := by decide +kernel
def zh_N_span : List Nat := [9999, 9999, 1029, 9999, 9999, 9999, 9999, 9999, 9999, 9999, 9999, 9999, 9999, 1380, 9999, 309, 513, 9999, 9999, 9999, 9999, 9999, 9999, 9999, 9999, 9999, 9999, 9999, 9999, 9999, 9999, 9999, 9999, 9999, 9999, 9999]
theorem zk_N_span : zz_dec zn_N_span.2.1 zm_N_span.1 = true := by decide +kernel
theorem zl_N_span : zz_lks zn_N_span.1.cls zm_N_span.1 zh_N_span = true := by decide +kernel
def zh_N_led : List Nat := [9999, 9999, 927, 9999, 9999, 9999, 9999, 9999, 308, 206, 9999, 9999, 9999, 9999, 9999, 9999, 308, 9999, 9999, 1398, 9999, 9999, 9999, 9999, 308, 9999, 9999, 1398, 9999, 9999, 9999, 9999, 9999, 9999, 9999, 9999, 9999]
theorem zk_N_led : zz_dec zn_N_led.2.1 zm_N_led.1 = true := by decide +kernel
theorem zl_N_led : zz_lks zn_N_led.1.cls zm_N_led.1 zh_N_led = true := by decide +kernel
