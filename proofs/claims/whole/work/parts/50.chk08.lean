def zh_D_itHas : List Nat := [9999, 9999, 9999, 9999, 9999, 9999, 9999, 1702, 9999, 9999, 9999, 9999, 9999, 9999, 9999, 9999, 9999]
theorem zk_D_itHas : zz_dec zn_D_itHas.2.1 zm_D_itHas.1 = true := by decide +kernel
theorem zl_D_itHas : zz_lks zn_D_itHas.1.cls zm_D_itHas.1 zh_D_itHas = true := by decide +kernel
def zh_D_needleHas : List Nat := [9999, 9999, 9999, 9999, 9999, 9999, 9999, 9999, 9999, 1702, 9999, 9999, 9999, 9999, 9999, 9999, 9999, 9999, 9999, 9999]
theorem zk_D_needleHas : zz_dec zn_D_needleHas.2.1 zm_D_needleHas.1 = true := by decide +kernel
theorem zl_D_needleHas : zz_lks zn_D_needleHas.1.cls zm_D_needleHas.1 zh_D_needleHas = true := by decide +kernel
def zh_D_rests : List Nat := [9999, 9999, 9999, 1710, 9999, 9999, 9999, 9999, 1415, 9999, 1415, 9999, 9999, 9999, 9999, 9999, 9999, 9999, 9999, 9999, 9999, 9999, 9999, 9999, 9999, 9999, 9999, 9999, 9999, 9999, 9999, 9999, 9999, 9999, 9999, 1960, 9999, 9999, 9999, 9999, 1960, 9999, 9999, 9999, 9999, 9999, 9999, 9999, 1964, 9999, 9999, 9999, 9999, 1964, 9999, 9999, 9999, 9999, 9999, 9999, 9999, 9999, 9999, 9999, 9999]
theorem zk_D_rests : zz_dec zn_D_rests.2.1 zm_D_rests.1 = true := by decide +kernel
theorem zl_D_rests : zz_lks zn_D_rests.1.cls zm_D_rests.1 zh_D_rests = true := by decide +kernel
def zh_D_odds : List Nat := [9999, 9999, 9999, 1710, 9999, 9999, 9999, 9999, 9999, 9999, 1495, 9999, 9999, 9999, 9999, 1415, 9999, 1415, 9999, 9999, 9999, 9999, 9999, 9999, 9999, 1722, 9999, 9999, 9999, 9999, 1702, 9999, 9999, 1726, 1674, 9999, 9999, 9999, 9999, 9999, 9999, 9999, 9999, 9999, 9999, 9999, 9999, 9999, 9999, 9999, 9999, 1714, 9999, 9999, 9999, 9999, 9999, 9999, 9999, 9999, 9999]
theorem zk_D_odds : zz_dec zn_D_odds.2.1 zm_D_odds.1 = true := by decide +kernel
theorem zl_D_odds : zz_lks zn_D_odds.1.cls zm_D_odds.1 zh_D_odds = true := by decide +kernel
def zh_D_plain : List Nat := [9999, 9999, 1415, 9999, 1917, 9999]
theorem zk_D_plain : zz_dec zn_D_plain.2.1 zm_D_plain.1 = true := by decide +kernel
theorem zl_D_plain : zz_lks zn_D_plain.1.cls zm_D_plain.1 zh_D_plain = true := by decide +kernel
def zh_D_found : List Nat := [9999, 9999, 1415, 9999, 9999, 9999, 9999, 9999, 9999, 1416, 9999, 9999, 9999, 9999, 9999, 9999, 1722, 9999, 9999, 9999, 1730, 9999, 9999, 9999, 1702, 9999, 9999, 9999, 9999, 9999, 9999, 9999, 9999, 9999, 9999, 9999, 9999, 9999, 9999, 9999]
theorem zk_D_found : zz_dec zn_D_found.2.1 zm_D_found.1 = true := by decide +kernel
theorem zl_D_found : zz_lks zn_D_found.1.cls zm_D_found.1 zh_D_found = true := by decide +kernel
def zh_D_soFar : List Nat := [9999, 9999, 1415, 9999, 9999, 9999, 9999, 9999, 9999, 1416, 9999, 9999, 9999, 9999, 9999, 9999, 9999, 1702, 9999, 9999, 9999, 9999, 9999, 9999]
theorem zk_D_soFar : zz_dec zn_D_soFar.2.1 zm_D_soFar.1 = true := by decide +kernel
theorem zl_D_soFar : zz_lks zn_D_soFar.1.cls zm_D_soFar.1 zh_D_soFar = true := by decide +kernel
def zh_D_eldest : List Nat := [9999, 9999, 1415, 9999, 9999, 9999, 9999, 9999, 9999, 1416, 9999, 9999, 9999, 9999, 9999, 9999, 9999, 9999, 9999, 1702, 9999, 9999, 9999, 1702, 9999, 9999, 9999, 9999, 9999, 9999, 9999]
theorem zk_D_eldest : zz_dec zn_D_eldest.2.1 zm_D_eldest.1 = true := by decide +kernel
theorem zl_D_eldest : zz_lks zn_D_eldest.1.cls zm_D_eldest.1 zh_D_eldest = true := by decide +kernel
def zh_D_famous : List Nat := [9999, 9999, 1415, 9999, 9999, 9999, 9999, 9999, 9999, 1416, 9999, 9999, 9999, 9999, 9999, 9999, 1702, 9999, 9999, 9999, 9999, 9999, 9999, 9999, 9999, 1702, 9999, 9999, 9999, 9999, 9999, 9999, 9999]
theorem zk_D_famous : zz_dec zn_D_famous.2.1 zm_D_famous.1 = true := by decide +kernel
theorem zl_D_famous : zz_lks zn_D_famous.1.cls zm_D_famous.1 zh_D_famous = true := by decide +kernel
def zh_D_twins : List Nat := [9999, 9999, 1415, 9999, 9999, 9999, 9999, 9999, 9999, 1416, 9999, 9999, 9999, 9999, 9999, 9999, 9999, 9999, 9999, 1416, 9999, 9999, 9999, 9999, 9999, 9999, 9999, 1702, 9999, 9999, 9999, 1702, 9999, 9999, 9999, 9999, 9999, 9999, 9999, 9999, 9999, 9999, 9999, 9999]
theorem zk_D_twins : zz_dec zn_D_twins.2.1 zm_D_twins.1 = true := by decide +kernel
theorem zl_D_twins : zz_lks zn_D_twins.1.cls zm_D_twins.1 zh_D_twins = true := by decide +kernel
def zh_D_tellers : List Nat := [9999, 9999, 9999, 9999, 1495, 9999, 9999, 9999, 9999, 1415, 9999, 1415, 9999, 9999, 9999, 9999, 9999, 1921, 9999]
theorem zk_D_tellers : zz_dec zn_D_tellers.2.1 zm_D_tellers.1 = true := by decide +kernel
theorem zl_D_tellers : zz_lks zn_D_tellers.1.cls zm_D_tellers.1 zh_D_tellers = true := by decide +kernel
def zh_D_ahead : List Nat := [9999, 9999, 9999, 1710, 9999, 9999, 9999, 9999, 9999, 9999, 1495, 9999, 9999, 9999, 9999, 9999, 9999, 1495, 9999, 9999, 9999, 9999, 1415, 9999, 1415, 9999, 9999, 9999, 9999, 1502, 9999, 9999, 9999, 1795, 9999, 9999, 9999, 9999, 9999, 9999, 9999, 9999, 1702, 9999, 9999, 1631, 9999, 9999]
theorem zk_D_ahead : zz_dec zn_D_ahead.2.1 zm_D_ahead.1 = true := by decide +kernel
theorem zl_D_ahead : zz_lks zn_D_ahead.1.cls zm_D_ahead.1 zh_D_ahead = true := by decide +kernel
def zh_D_trial : List Nat := [9999, 9999, 9999, 9999, 1495, 9999, 9999, 9999, 9999, 1415, 9999, 1415, 9999, 9999, 9999, 9999, 1502, 9999, 9999, 9999, 1795, 9999, 9999, 9999, 9999, 1775, 9999, 9999, 9999, 2008, 9999, 9999, 1631, 9999, 9999]
theorem zk_D_trial : zz_dec zn_D_trial.2.1 zm_D_trial.1 = true := by decide +kernel
theorem zl_D_trial : zz_lks zn_D_trial.1.cls zm_D_trial.1 zh_D_trial = true := by decide +kernel
def zh_D_span : List Nat := [9999, 9999, 9999, 9999, 1495, 9999, 9999, 9999, 9999, 1415, 9999, 1415, 9999, 9999, 9999, 9999, 1502, 9999, 9999, 9999, 9999, 9999, 9999, 9999, 9999, 1416, 9999, 9999, 9999, 9999, 9999, 9999, 1795, 9999, 9999, 9999, 2008, 9999, 9999, 1631, 9999, 9999, 9999, 9999, 9999, 9999, 9999, 9999, 9999, 1683, 9999, 9999, 9999, 1738, 9999, 9999, 9999, 9999, 9999]
theorem zk_D_span : zz_dec zn_D_span.2.1 zm_D_span.1 = true := by decide +kernel
theorem zl_D_span : zz_lks zn_D_span.1.cls zm_D_span.1 zh_D_span = true := by decide +kernel
def zh_D_logged : List Nat := [9999, 1416, 9999, 9999, 9999, 9999, 9999, 9999, 9999, 9999, 9999]
theorem zk_D_logged : zz_dec zn_D_logged.2.1 zm_D_logged.1 = true := by decide +kernel
theorem zl_D_logged : zz_lks zn_D_logged.1.cls zm_D_logged.1 zh_D_logged = true := by decide +kernel
def zh_D_led : List Nat := [9999, 9999, 9999, 1710, 9999, 9999, 9999, 9999, 1415, 9999, 1415, 9999, 9999, 9999, 9999, 9999, 9999, 9999, 9999, 1416, 9999, 9999, 9999, 9999, 9999, 9999, 9999, 9999, 9999, 9999, 2020, 9999, 9999, 9999, 9999, 9999, 9999, 9999, 2020, 9999, 9999, 9999, 9999, 9999, 9999, 9999, 9999, 9999]
theorem zk_D_led : zz_dec zn_D_led.2.1 zm_D_led.1 = true := by decide +kernel
theorem zl_D_led : zz_lks zn_D_led.1.cls zm_D_led.1 zh_D_led = true := by decide +kernel
def zh_D_log : List Nat := [9999, 9999, 9999, 9999, 1495, 9999, 9999, 9999, 9999, 1415, 9999, 1415, 9999, 9999, 9999, 9999, 9999, 9999, 1416, 9999, 9999, 9999, 9999, 1495, 9999, 9999, 9999, 9999, 2020, 9999, 9999, 9999]
theorem zk_D_log : zz_dec zn_D_log.2.1 zm_D_log.1 = true := by decide +kernel
theorem zl_D_log : zz_lks zn_D_log.1.cls zm_D_log.1 zh_D_log = true := by decide +kernel
def zh_D_seed : List Nat := [9999, 9999, 1415, 9999, 1416, 9999, 9999, 9999, 9999, 1416, 9999, 9999, 9999, 9999, 9999]
theorem zk_D_seed : zz_dec zn_D_seed.2.1 zm_D_seed.1 = true := by decide +kernel
theorem zl_D_seed : zz_lks zn_D_seed.1.cls zm_D_seed.1 zh_D_seed = true := by decide +kernel
def zh_D_undo : List Nat := [9999, 9999, 1415, 9999, 1421, 9999, 9999, 9999, 9999, 9999, 1421, 9999, 9999, 1421, 9999, 9999, 9999, 9999, 9999, 9999, 1416, 9999, 9999, 1420, 9999, 9999, 1421, 9999, 9999, 9999, 9999, 9999, 9999, 9999, 9999, 9999]
theorem zk_D_undo : zz_dec zn_D_undo.2.1 zm_D_undo.1 = true := by decide +kernel
theorem zl_D_undo : zz_lks zn_D_undo.1.cls zm_D_undo.1 zh_D_undo = true := by decide +kernel
def zh_D_image : List Nat := [9999, 9999, 1415, 9999, 9999, 9999, 9999, 9999, 9999, 1417, 9999, 9999, 1416, 9999, 9999, 9999, 9999, 9999, 9999, 9999, 1418, 9999]
theorem zk_D_image : zz_dec zn_D_image.2.1 zm_D_image.1 = true := by decide +kernel
theorem zl_D_image : zz_lks zn_D_image.1.cls zm_D_image.1 zh_D_image = true := by decide +kernel
def zh_D_back : List Nat := [9999, 9999, 1415, 9999, 1418, 9999, 9999, 9999, 9999, 9999, 9999, 9999, 9999, 9999, 1416, 9999, 9999, 1417, 9999, 9999, 9999, 9999, 9999, 9999, 9999, 1421, 9999, 9999]
theorem zk_D_back : zz_dec zn_D_back.2.1 zm_D_back.1 = true := by decide +kernel
theorem zl_D_back : zz_lks zn_D_back.1.cls zm_D_back.1 zh_D_back = true := by decide +kernel
def zh_D_count : List Nat := [9999, 9999, 1415, 9999, 9999, 9999, 1416, 9999, 9999, 9999, 9999, 9999, 9999, 9999, 1416, 9999, 9999, 9999, 9999, 9999, 9999, 9999, 1416, 9999, 9999, 9999, 9999, 9999, 9999, 1495, 9999, 9999, 1416, 9999, 9999, 9999, 9999, 9999, 9999, 9999, 9999, 9999, 9999, 9999, 9999, 2008, 9999, 9999, 9999, 9999, 9999, 1775, 9999, 9999, 9999, 9999, 9999, 9999, 2008, 9999, 9999, 9999, 9999, 9999, 1416, 9999, 9999, 9999, 9999, 9999, 9999, 9999, 1421, 9999, 9999, 9999]
theorem zk_D_count : zz_dec zn_D_count.2.1 zm_D_count.1 = true := by decide +kernel
theorem zl_D_count : zz_lks zn_D_count.1.cls zm_D_count.1 zh_D_count = true := by decide +kernel
def zh_W_shop : List Nat := [9999, 9999, 9999, 539, 9999, 9999, 9999, 9999, 9999, 9999, 9999, 9999, 9999, 9999, 9999]
theorem zk_W_shop : zz_dec zn_W_shop.2.1 zm_W_shop.1 = true := by decide +kernel
theorem zl_W_shop : zz_lks zn_W_shop.1.cls zm_W_shop.1 zh_W_shop = true := by decide +kernel
def zh_W_law_0 : List Nat := [9999, 9999, 9999, 761, 9999, 9999, 9999, 9999, 9999, 9999, 9999, 9999]
theorem zk_W_law_0 : zz_dec zn_W_law_0.2.1 zm_W_law_0.1 = true := by decide +kernel
theorem zl_W_law_0 : zz_lks zn_W_law_0.1.cls zm_W_law_0.1 zh_W_law_0 = true := by decide +kernel
def zh_W_kind : List Nat := [9999, 9999, 9999, 9999, 9999, 836, 9999, 9999, 9999, 9999, 9999, 9999, 9999, 9999, 9999, 9999, 9999]
theorem zk_W_kind : zz_dec zn_W_kind.2.1 zm_W_kind.1 = true := by decide +kernel
theorem zl_W_kind : zz_lks zn_W_kind.1.cls zm_W_kind.1 zh_W_kind = true := by decide +kernel
def zh_W_person : List Nat := [9999, 9999, 9999, 9999, 9999, 923, 9999, 9999, 9999, 9999, 9999, 9999, 9999, 9999, 9999, 9999, 9999]
theorem zk_W_person : zz_dec zn_W_person.2.1 zm_W_person.1 = true := by decide +kernel
theorem zl_W_person : zz_lks zn_W_person.1.cls zm_W_person.1 zh_W_person = true := by decide +kernel
def zh_W_mark : List Nat := [9999, 9999, 9999, 9999, 9999, 1012, 9999, 9999, 9999, 9999, 9999, 9999, 9999, 9999, 9999, 9999, 9999]
theorem zk_W_mark : zz_dec zn_W_mark.2.1 zm_W_mark.1 = true := by decide +kernel
theorem zl_W_mark : zz_lks zn_W_mark.1.cls zm_W_mark.1 zh_W_mark = true := by decide +kernel
def zh_W_years : List Nat := [9999, 9999, 9999, 9999, 1024, 9999, 9999, 9999, 9999, 9999, 9999, 9999, 9999]
theorem zk_W_years : zz_dec zn_W_years.2.1 zm_W_years.1 = true := by decide +kernel
theorem zl_W_years : zz_lks zn_W_years.1.cls zm_W_years.1 zh_W_years = true := by decide +kernel
def zh_W_rub : List Nat := [9999, 9999, 9999, 9999, 9999, 1067, 9999, 9999, 9999, 9999, 9999, 9999, 9999, 9999, 9999, 9999, 9999, 9999, 9999, 9999]
theorem zk_W_rub : zz_dec zn_W_rub.2.1 zm_W_rub.1 = true := by decide +kernel
theorem zl_W_rub : zz_lks zn_W_rub.1.cls zm_W_rub.1 zh_W_rub = true := by decide +kernel
def zh_W_ink : List Nat := [9999, 9999, 9999, 9999, 9999, 1091, 9999, 9999, 9999, 9999, 9999, 9999, 9999, 9999, 9999, 9999, 9999]
theorem zk_W_ink : zz_dec zn_W_ink.2.1 zm_W_ink.1 = true := by decide +kernel
theorem zl_W_ink : zz_lks zn_W_ink.1.cls zm_W_ink.1 zh_W_ink = true := by decide +kernel
def zh_W_wash : List Nat := [9999, 9999, 9999, 9999, 1099, 9999, 9999, 9999, 9999, 9999, 9999, 9999, 9999]
theorem zk_W_wash : zz_dec zn_W_wash.2.1 zm_W_wash.1 = true := by decide +kernel
theorem zl_W_wash : zz_lks zn_W_wash.1.cls zm_W_wash.1 zh_W_wash = true := by decide +kernel
def zh_W_told : List Nat := [9999, 9999, 9999, 9999, 9999, 1106, 9999, 9999, 9999, 9999, 9999, 9999, 9999, 9999]
theorem zk_W_told : zz_dec zn_W_told.2.1 zm_W_told.1 = true := by decide +kernel
theorem zl_W_told : zz_lks zn_W_told.1.cls zm_W_told.1 zh_W_told = true := by decide +kernel
def zh_W_hold : List Nat := [9999, 9999, 9999, 9999, 9999, 1117, 9999, 9999, 9999, 9999, 9999, 9999, 9999, 9999]
theorem zk_W_hold : zz_dec zn_W_hold.2.1 zm_W_hold.1 = true := by decide +kernel
theorem zl_W_hold : zz_lks zn_W_hold.1.cls zm_W_hold.1 zh_W_hold = true := by decide +kernel
def zh_W_does : List Nat := [9999, 9999, 9999, 9999, 9999, 1124, 9999, 9999, 9999, 9999, 9999, 9999, 9999, 9999, 9999, 9999, 9999]
theorem zk_W_does : zz_dec zn_W_does.2.1 zm_W_does.1 = true := by decide +kernel
theorem zl_W_does : zz_lks zn_W_does.1.cls zm_W_does.1 zh_W_does = true := by decide +kernel
def zh_W_luck : List Nat := [9999, 9999, 9999, 9999, 9999, 1132, 9999, 9999, 9999, 9999, 9999, 9999, 9999, 9999, 9999, 9999, 9999]
theorem zk_W_luck : zz_dec zn_W_luck.2.1 zm_W_luck.1 = true := by decide +kernel
theorem zl_W_luck : zz_lks zn_W_luck.1.cls zm_W_luck.1 zh_W_luck = true := by decide +kernel
def zh_W_fill : List Nat := [9999, 9999, 9999, 9999, 1140, 9999, 9999, 9999, 9999, 9999, 9999, 9999, 9999]
theorem zk_W_fill : zz_dec zn_W_fill.2.1 zm_W_fill.1 = true := by decide +kernel
theorem zl_W_fill : zz_lks zn_W_fill.1.cls zm_W_fill.1 zh_W_fill = true := by decide +kernel
def zh_W_blank : List Nat := [9999, 9999, 9999, 9999, 1149, 9999, 9999, 9999, 9999, 9999, 9999, 9999, 9999, 9999, 9999, 9999]
theorem zk_W_blank : zz_dec zn_W_blank.2.1 zm_W_blank.1 = true := by decide +kernel
theorem zl_W_blank : zz_lks zn_W_blank.1.cls zm_W_blank.1 zh_W_blank = true := by decide +kernel
def zh_W_reach : List Nat := [9999, 9999, 9999, 9999, 9999, 9999, 1156, 9999, 9999, 9999, 9999, 9999, 9999, 9999, 9999]
theorem zk_W_reach : zz_dec zn_W_reach.2.1 zm_W_reach.1 = true := by decide +kernel
theorem zl_W_reach : zz_lks zn_W_reach.1.cls zm_W_reach.1 zh_W_reach = true := by decide +kernel
def zh_W_turned : List Nat := [9999, 9999, 9999, 9999, 9999, 1166, 9999, 9999, 9999, 9999, 9999, 9999, 9999, 9999]
theorem zk_W_turned : zz_dec zn_W_turned.2.1 zm_W_turned.1 = true := by decide +kernel
theorem zl_W_turned : zz_lks zn_W_turned.1.cls zm_W_turned.1 zh_W_turned = true := by decide +kernel
def zh_W_shifts : List Nat := [9999, 9999, 9999, 9999, 9999, 9999, 1179, 9999, 9999, 9999, 9999, 9999, 9999, 9999, 9999]
theorem zk_W_shifts : zz_dec zn_W_shifts.2.1 zm_W_shifts.1 = true := by decide +kernel
theorem zl_W_shifts : zz_lks zn_W_shifts.1.cls zm_W_shifts.1 zh_W_shifts = true := by decide +kernel
def zh_W_ring : List Nat := [9999, 9999, 9999, 9999, 1193, 9999, 9999, 9999, 9999, 9999, 9999, 9999, 9999, 9999, 9999, 9999]
theorem zk_W_ring : zz_dec zn_W_ring.2.1 zm_W_ring.1 = true := by decide +kernel
theorem zl_W_ring : zz_lks zn_W_ring.1.cls zm_W_ring.1 zh_W_ring = true := by decide +kernel
def zh_W_rules : List Nat := [9999, 9999, 9999, 9999, 1204, 9999, 9999, 9999, 9999, 9999, 9999, 9999, 9999]
theorem zk_W_rules : zz_dec zn_W_rules.2.1 zm_W_rules.1 = true := by decide +kernel
theorem zl_W_rules : zz_lks zn_W_rules.1.cls zm_W_rules.1 zh_W_rules = true := by decide +kernel
def zh_W_ask : List Nat := [9999, 9999, 9999, 1232, 9999, 9999, 9999, 9999, 9999, 9999, 9999, 9999]
theorem zk_W_ask : zz_dec zn_W_ask.2.1 zm_W_ask.1 = true := by decide +kernel
theorem zl_W_ask : zz_lks zn_W_ask.1.cls zm_W_ask.1 zh_W_ask = true := by decide +kernel
def zh_W_berths : List Nat := [9999, 9999, 9999, 9999, 1247, 9999, 9999, 9999, 9999, 9999, 9999, 9999, 9999]
theorem zk_W_berths : zz_dec zn_W_berths.2.1 zm_W_berths.1 = true := by decide +kernel
theorem zl_W_berths : zz_lks zn_W_berths.1.cls zm_W_berths.1 zh_W_berths = true := by decide +kernel
def zh_W_old : List Nat := [9999, 9999, 9999, 9999, 1285, 9999, 9999, 9999, 9999, 9999, 9999, 9999, 9999]
theorem zk_W_old : zz_dec zn_W_old.2.1 zm_W_old.1 = true := by decide +kernel
theorem zl_W_old : zz_lks zn_W_old.1.cls zm_W_old.1 zh_W_old = true := by decide +kernel
def zh_W_clash : List Nat := [9999, 9999, 9999, 1294, 9999, 9999, 9999, 9999, 9999, 9999, 9999, 9999]
theorem zk_W_clash : zz_dec zn_W_clash.2.1 zm_W_clash.1 = true := by decide +kernel
theorem zl_W_clash : zz_lks zn_W_clash.1.cls zm_W_clash.1 zh_W_clash = true := by decide +kernel
def zh_W_pairs : List Nat := [9999, 9999, 9999, 9999, 1301, 9999, 9999, 9999, 9999, 9999, 9999, 9999, 9999]
theorem zk_W_pairs : zz_dec zn_W_pairs.2.1 zm_W_pairs.1 = true := by decide +kernel
theorem zl_W_pairs : zz_lks zn_W_pairs.1.cls zm_W_pairs.1 zh_W_pairs = true := by decide +kernel
def zh_W_kin : List Nat := [9999, 9999, 9999, 9999, 9999, 1331, 9999, 9999, 9999, 9999, 9999, 9999, 9999, 9999, 9999, 9999, 9999]
theorem zk_W_kin : zz_dec zn_W_kin.2.1 zm_W_kin.1 = true := by decide +kernel
theorem zl_W_kin : zz_lks zn_W_kin.1.cls zm_W_kin.1 zh_W_kin = true := by decide +kernel
def zh_W_rests : List Nat := [9999, 9999, 9999, 9999, 1339, 9999, 9999, 9999, 9999, 9999, 9999, 9999, 9999]
theorem zk_W_rests : zz_dec zn_W_rests.2.1 zm_W_rests.1 = true := by decide +kernel
theorem zl_W_rests : zz_lks zn_W_rests.1.cls zm_W_rests.1 zh_W_rests = true := by decide +kernel
def zh_W_odds : List Nat := [9999, 9999, 9999, 9999, 9999, 1354, 9999, 9999, 9999, 9999, 9999, 9999, 9999, 9999, 9999, 9999, 9999]
theorem zk_W_odds : zz_dec zn_W_odds.2.1 zm_W_odds.1 = true := by decide +kernel
theorem zl_W_odds : zz_lks zn_W_odds.1.cls zm_W_odds.1 zh_W_odds = true := by decide +kernel
def zh_W_tellers : List Nat := [9999, 9999, 9999, 9999, 1362, 9999, 9999, 9999, 9999, 9999, 9999, 9999, 9999]
theorem zk_W_tellers : zz_dec zn_W_tellers.2.1 zm_W_tellers.1 = true := by decide +kernel
theorem zl_W_tellers : zz_lks zn_W_tellers.1.cls zm_W_tellers.1 zh_W_tellers = true := by decide +kernel
def zh_W_ahead : List Nat := [9999, 9999, 9999, 9999, 9999, 9999, 1369, 9999, 9999, 9999, 9999, 9999, 9999, 9999, 9999, 9999, 9999, 9999, 9999, 9999, 9999]
theorem zk_W_ahead : zz_dec zn_W_ahead.2.1 zm_W_ahead.1 = true := by decide +kernel
theorem zl_W_ahead : zz_lks zn_W_ahead.1.cls zm_W_ahead.1 zh_W_ahead = true := by decide +kernel
