def zh_D_ring : List Nat := [9999, 9999, 1647, 9999, 9999, 9999, 9999, 1415, 9999, 1415, 9999, 9999, 9999, 9999, 9999, 9999, 1650, 9999, 9999, 9999, 9999, 9999, 9999, 9999, 9999, 9999, 9999, 9999, 9999, 9999, 9999, 9999, 1650, 9999, 9999, 9999, 9999, 9999, 9999, 9999, 9999, 9999, 9999]
theorem zk_D_ring : zz_dec zn_D_ring.2.1 zm_D_ring.1 = true := by decide +kernel
theorem zl_D_ring : zz_lks zn_D_ring.1.cls zm_D_ring.1 zh_D_ring = true := by decide +kernel
def zh_D_deepest : List Nat := [9999, 9999, 1415, 9999, 9999, 9999, 9999, 9999, 9999, 9999, 9999, 9999, 1690, 9999, 9999, 9999, 9999, 9999, 9999, 9999, 1690, 9999, 9999, 9999, 9999, 9999, 9999, 9999]
theorem zk_D_deepest : zz_dec zn_D_deepest.2.1 zm_D_deepest.1 = true := by decide +kernel
theorem zl_D_deepest : zz_lks zn_D_deepest.1.cls zm_D_deepest.1 zh_D_deepest = true := by decide +kernel
def zh_D_ruled : List Nat := [9999, 9999, 9999, 9999, 9999, 9999, 9999, 9999, 9999, 9999, 9999, 9999]
theorem zk_D_ruled : zz_dec zn_D_ruled.2.1 zm_D_ruled.1 = true := by decide +kernel
theorem zl_D_ruled : zz_lks zn_D_ruled.1.cls zm_D_ruled.1 zh_D_ruled = true := by decide +kernel
def zh_D_heard : List Nat := [9999, 1423, 9999, 9999, 9999, 1423, 9999, 9999, 9999, 9999, 9999, 9999, 9999, 9999, 9999, 9999, 9999, 9999, 9999, 9999, 9999, 9999, 9999, 9999, 9999, 1422, 9999, 9999, 9999, 9999, 1495, 9999, 9999, 9999, 9999, 9999, 9999, 9999, 9999, 9999, 9999, 9999, 1434, 9999, 9999, 9999, 9999, 9999, 9999, 9999, 9999, 9999, 1434, 9999, 9999, 1434, 9999, 9999, 9999, 9999, 9999, 1422, 9999, 9999, 1878, 9999, 1422, 9999, 9999, 9999, 9999, 9999, 9999, 9999, 9999, 9999, 9999, 9999, 9999, 9999, 9999, 9999]
theorem zk_D_heard : zz_dec zn_D_heard.2.1 zm_D_heard.1 = true := by decide +kernel
theorem zl_D_heard : zz_lks zn_D_heard.1.cls zm_D_heard.1 zh_D_heard = true := by decide +kernel
def zh_D_fitMany : List Nat := [9999, 9999, 9999, 9999, 9999, 9999, 9999, 9999, 9999, 1434, 9999, 9999, 9999, 9999, 9999, 9999, 9999, 9999, 9999, 9999, 9999, 9999]
theorem zk_D_fitMany : zz_dec zn_D_fitMany.2.1 zm_D_fitMany.1 = true := by decide +kernel
theorem zl_D_fitMany : zz_lks zn_D_fitMany.1.cls zm_D_fitMany.1 zh_D_fitMany = true := by decide +kernel
def zh_D_firstFit : List Nat := [9999, 9999, 9999, 9999, 9999, 9999, 1434, 9999, 9999, 9999, 9999, 9999, 9999, 9999, 9999, 9999]
theorem zk_D_firstFit : zz_dec zn_D_firstFit.2.1 zm_D_firstFit.1 = true := by decide +kernel
theorem zl_D_firstFit : zz_lks zn_D_firstFit.1.cls zm_D_firstFit.1 zh_D_firstFit = true := by decide +kernel
def zh_D_rules : List Nat := [9999, 9999, 1874, 9999, 9999, 9999, 9999, 1415, 9999, 1415, 9999, 9999, 9999, 9999, 9999, 9999, 1881, 9999, 9999, 1885, 9999]
theorem zk_D_rules : zz_dec zn_D_rules.2.1 zm_D_rules.1 = true := by decide +kernel
theorem zl_D_rules : zz_lks zn_D_rules.1.cls zm_D_rules.1 zh_D_rules = true := by decide +kernel
def zh_D_ask : List Nat := [9999, 9999, 1874, 9999, 9999, 9999, 9999, 1415, 9999, 1415, 9999, 9999, 9999, 9999, 9999, 1745, 9999, 9999, 9999, 9999, 9999, 9999, 9999, 1885, 9999, 9999, 9999, 9999, 9999, 9999, 9999, 9999, 9999, 9999, 9999, 9999, 9999, 9999, 9999, 9999, 9999, 9999, 1434, 9999, 9999, 9999, 9999, 9999, 1878, 9999, 9999, 9999, 9999, 9999, 9999, 9999, 9999, 9999, 9999, 9999, 1683, 9999, 9999, 9999, 9999, 9999, 9999, 9999, 9999, 9999, 9999, 9999, 9999, 9999, 9999, 9999]
theorem zk_D_ask : zz_dec zn_D_ask.2.1 zm_D_ask.1 = true := by decide +kernel
theorem zl_D_ask : zz_lks zn_D_ask.1.cls zm_D_ask.1 zh_D_ask = true := by decide +kernel
def zh_D_now : List Nat := [9999, 9999, 1415, 9999, 9999, 9999, 9999, 9999, 9999, 9999, 9999, 9999, 9999, 9999, 9999, 9999, 9999, 9999, 9999, 1878, 9999, 9999, 9999, 1650, 9999, 9999, 9999, 9999, 9999, 9999, 9999, 9999, 9999, 9999, 9999, 9999, 9999, 9999, 9999]
theorem zk_D_now : zz_dec zn_D_now.2.1 zm_D_now.1 = true := by decide +kernel
theorem zl_D_now : zz_lks zn_D_now.1.cls zm_D_now.1 zh_D_now = true := by decide +kernel
def zh_D_toldBy : List Nat := [9999, 9999, 9999, 9999, 9999, 9999, 1416, 9999, 9999, 9999, 9999, 9999, 9999, 1674, 9999, 9999, 9999, 1722, 9999, 9999, 9999, 9999, 1726, 9999, 9999, 9999, 9999, 9999, 9999, 9999, 9999, 9999]
theorem zk_D_toldBy : zz_dec zn_D_toldBy.2.1 zm_D_toldBy.1 = true := by decide +kernel
theorem zl_D_toldBy : zz_lks zn_D_toldBy.1.cls zm_D_toldBy.1 zh_D_toldBy = true := by decide +kernel
def zh_D_crew : List Nat := [9999, 9999, 1415, 9999, 9999, 9999, 9999, 9999, 9999, 9999, 9999, 9999, 9999, 9999, 1416, 9999, 9999, 9999, 9999, 9999, 9999, 9999, 9999, 1663, 9999, 1663, 9999, 9999, 9999, 9999, 1901, 9999, 9999, 9999, 9999, 9999, 9999, 9999, 9999, 9999, 9999]
theorem zk_D_crew : zz_dec zn_D_crew.2.1 zm_D_crew.1 = true := by decide +kernel
theorem zl_D_crew : zz_lks zn_D_crew.1.cls zm_D_crew.1 zh_D_crew = true := by decide +kernel
def zh_D_canBerth : List Nat := [9999, 9999, 1726, 9999, 9999, 9999, 9999, 9999, 1702, 9999, 1674, 9999, 9999, 9999, 9999, 9999]
theorem zk_D_canBerth : zz_dec zn_D_canBerth.2.1 zm_D_canBerth.1 = true := by decide +kernel
theorem zl_D_canBerth : zz_lks zn_D_canBerth.1.cls zm_D_canBerth.1 zh_D_canBerth = true := by decide +kernel
def zh_D_berths : List Nat := [9999, 1423, 9999, 9999, 9999, 1423, 9999, 9999, 9999, 9999, 9999, 9999, 9999, 9999, 9999, 9999, 9999, 9999, 9999, 9999, 9999, 1422, 9999, 9999, 9999, 9999, 1495, 9999, 9999, 9999, 9999, 9999, 9999, 9999, 9999, 9999, 1415, 9999, 1415, 9999, 9999, 9999, 9999, 9999, 9999, 9999, 9999, 9999, 1435, 9999, 9999, 9999, 9999, 9999, 9999, 9999, 9999, 9999, 9999, 9999, 9999, 9999, 9999, 9999, 9999, 9999, 9999, 9999, 9999, 9999, 1435, 9999, 9999, 9999, 9999, 9999, 9999, 9999, 9999, 9999, 9999, 9999, 9999, 9999, 1416, 9999, 9999, 9999, 9999, 9999, 1674, 9999, 9999, 9999, 9999, 1422, 9999, 9999, 1909, 9999, 9999, 9999, 9999, 1435, 9999, 9999, 9999, 9999, 9999, 9999, 9999, 9999, 9999, 9999, 9999, 9999, 9999, 1683, 9999, 9999, 9999, 9999, 1435, 9999, 9999, 9999, 9999, 9999, 9999, 9999, 9999, 9999, 9999, 9999, 9999, 9999, 9999, 9999, 1435, 9999, 9999, 9999, 9999, 9999, 9999, 9999, 9999, 9999, 9999, 9999, 9999, 9999, 9999, 9999, 9999, 9999, 9999, 1435, 9999, 9999, 9999, 9999, 9999, 9999, 9999, 9999, 1435, 9999, 9999, 9999, 9999, 9999, 9999, 9999, 9999, 9999, 9999, 9999, 9999, 1416, 9999, 9999, 9999, 9999, 9999, 9999, 9999, 9999, 9999, 1674, 9999, 9999, 9999, 9999, 1422, 9999, 9999, 1909, 9999, 9999, 9999, 1435, 9999, 9999, 9999, 9999, 9999, 9999, 9999, 9999, 9999, 9999, 9999, 9999, 9999, 9999, 9999, 9999, 9999, 9999, 9999, 9999, 9999, 9999, 9999, 9999, 9999, 9999, 9999, 9999, 9999, 9999, 9999, 9999, 1495, 9999, 9999, 9999, 9999, 9999]
theorem zk_D_berths : zz_dec zn_D_berths.2.1 zm_D_berths.1 = true := by decide +kernel
theorem zl_D_berths : zz_lks zn_D_berths.1.cls zm_D_berths.1 zh_D_berths = true := by decide +kernel
def zh_D_tellersOf : List Nat := [9999, 9999, 9999, 9999, 9999, 9999, 9999, 9999, 9999, 9999, 9999, 1650, 9999, 9999, 9999, 9999, 9999, 9999, 9999, 9999, 9999, 9999, 9999, 9999, 9999]
theorem zk_D_tellersOf : zz_dec zn_D_tellersOf.2.1 zm_D_tellersOf.1 = true := by decide +kernel
theorem zl_D_tellersOf : zz_lks zn_D_tellersOf.1.cls zm_D_tellersOf.1 zh_D_tellersOf = true := by decide +kernel
def zh_D_plainOnes : List Nat := [9999, 9999, 9999, 9999, 9999, 9999, 1416, 9999, 9999, 9999, 9999, 9999, 9999, 1722, 9999, 9999, 9999, 9999, 9999, 9999, 9999, 9999, 9999, 9999, 9999, 9999]
theorem zk_D_plainOnes : zz_dec zn_D_plainOnes.2.1 zm_D_plainOnes.1 = true := by decide +kernel
theorem zl_D_plainOnes : zz_lks zn_D_plainOnes.1.cls zm_D_plainOnes.1 zh_D_plainOnes = true := by decide +kernel
def zh_D_inks : List Nat := [9999, 9999, 1415, 9999, 9999, 9999, 9999, 9999, 9999, 1416, 9999, 9999, 9999, 9999, 9999, 1901, 9999, 9999, 9999, 9999, 9999, 1663, 9999, 1917, 1663, 9999, 9999, 9999, 9999, 9999, 9999, 9999, 9999, 9999, 9999, 9999, 9999, 9999, 9999, 1674, 9999, 9999, 9999, 1921, 9999, 9999, 9999, 9999, 9999, 9999, 9999, 9999, 9999, 9999, 1663, 9999, 9999, 9999]
theorem zk_D_inks : zz_dec zn_D_inks.2.1 zm_D_inks.1 = true := by decide +kernel
theorem zl_D_inks : zz_lks zn_D_inks.1.cls zm_D_inks.1 zh_D_inks = true := by decide +kernel
def zh_D_old : List Nat := [9999, 9999, 9999, 9999, 1495, 9999, 9999, 9999, 9999, 1415, 9999, 1415, 9999, 9999, 9999, 9999, 9999, 9999, 9999, 9999, 9999, 1416, 9999, 9999, 9999, 9999, 9999, 9999, 9999, 1702, 1738, 9999, 9999, 9999, 9999, 1416, 9999, 9999, 9999, 9999, 9999, 9999, 9999, 9999, 9999, 9999, 9999, 9999, 9999, 9999, 9999, 9999, 9999, 9999, 9999]
theorem zk_D_old : zz_dec zn_D_old.2.1 zm_D_old.1 = true := by decide +kernel
theorem zl_D_old : zz_lks zn_D_old.1.cls zm_D_old.1 zh_D_old = true := by decide +kernel
def zh_D_clash : List Nat := [9999, 1423, 9999, 9999, 9999, 1423, 9999, 9999, 9999, 9999, 9999, 9999, 9999, 9999, 9999, 9999, 9999, 9999, 9999, 9999, 9999, 9999, 9999, 9999, 9999, 1422, 9999, 9999, 9999, 1416, 9999, 9999, 9999, 9999, 1422, 9999, 9999, 9999, 9999, 9999, 9999, 9999, 9999, 9999, 9999, 9999, 9999, 9999, 9999, 9999, 9999, 9999, 9999, 1415, 9999, 1415, 9999, 9999, 9999, 9999, 9999, 9999, 9999, 9999, 9999, 9999, 9999, 1422, 9999, 9999, 9999, 9999, 9999, 1722, 9999, 9999, 9999, 9999, 1702, 9999, 9999, 1726, 1674, 9999, 9999, 9999, 9999, 9999, 9999, 9999, 1422, 9999, 9999, 9999, 9999, 9999, 9999, 9999, 9999, 9999, 9999, 9999, 9999, 9999, 9999, 9999, 9999, 9999, 9999, 9999, 9999]
theorem zk_D_clash : zz_dec zn_D_clash.2.1 zm_D_clash.1 = true := by decide +kernel
theorem zl_D_clash : zz_lks zn_D_clash.1.cls zm_D_clash.1 zh_D_clash = true := by decide +kernel
def zh_D_allOf : List Nat := [9999, 9999, 9999, 1702, 9999, 9999, 1722, 9999, 9999, 9999, 9999, 9999, 9999, 1726, 9999, 9999, 9999]
theorem zk_D_allOf : zz_dec zn_D_allOf.2.1 zm_D_allOf.1 = true := by decide +kernel
theorem zl_D_allOf : zz_lks zn_D_allOf.1.cls zm_D_allOf.1 zh_D_allOf = true := by decide +kernel
def zh_D_lowest : List Nat := [9999, 9999, 9999, 9999, 1674, 9999, 9999, 9999, 9999, 9999]
theorem zk_D_lowest : zz_dec zn_D_lowest.2.1 zm_D_lowest.1 = true := by decide +kernel
theorem zl_D_lowest : zz_lks zn_D_lowest.1.cls zm_D_lowest.1 zh_D_lowest = true := by decide +kernel
def zh_D_apart : List Nat := [9999, 9999, 1948, 9999, 9999, 1948, 9999, 1663, 9999]
theorem zk_D_apart : zz_dec zn_D_apart.2.1 zm_D_apart.1 = true := by decide +kernel
theorem zl_D_apart : zz_lks zn_D_apart.1.cls zm_D_apart.1 zh_D_apart = true := by decide +kernel
def zh_D_allBest : List Nat := [9999, 1436, 9999, 9999, 9999, 9999, 9999, 9999, 9999, 9999, 1416, 9999, 9999, 9999, 9999, 9999, 1941, 9999, 9999, 9999, 9999, 9999, 9999, 9999, 9999, 9999, 9999, 1436, 9999, 9999, 1436, 9999, 9999, 9999, 9999, 9999, 9999, 9999, 9999, 9999, 1416, 9999, 9999, 9999, 9999, 9999, 1674, 9999, 9999, 1436, 9999, 9999, 1436, 9999, 9999, 9999, 9999, 9999, 1944, 9999, 1436, 9999, 9999, 9999, 9999, 9999, 9999, 9999, 9999, 9999, 1683, 9999, 9999, 9999, 9999, 9999, 9999]
theorem zk_D_allBest : zz_dec zn_D_allBest.2.1 zm_D_allBest.1 = true := by decide +kernel
theorem zl_D_allBest : zz_lks zn_D_allBest.1.cls zm_D_allBest.1 zh_D_allBest = true := by decide +kernel
def zh_D_pairs : List Nat := [9999, 9999, 9999, 9999, 9999, 9999, 1710, 9999, 9999, 9999, 9999, 1415, 9999, 1415, 9999, 9999, 9999, 9999, 1937, 9999, 9999, 1416, 9999, 9999, 9999, 9999, 9999, 9999, 9999, 9999, 9999, 9999, 1436, 9999, 9999, 9999, 9999, 9999, 9999, 1941, 9999, 9999, 9999, 9999, 9999, 9999, 9999, 9999, 9999, 9999, 9999, 9999, 1416, 9999, 9999, 9999, 9999, 9999, 9999, 9999, 9999, 9999, 1436, 9999, 9999, 9999, 1436, 9999, 9999, 9999, 9999, 9999, 1674, 9999, 9999, 9999, 9999, 1944, 9999, 1436, 9999, 9999, 9999, 9999, 9999, 9999, 9999, 9999, 9999, 9999, 1436, 9999, 9999, 9999, 9999, 9999, 9999, 9999, 9999, 9999, 9999, 9999, 9999, 9999, 9999, 9999, 9999, 9999, 9999, 9999, 9999, 9999, 9999, 9999, 9999, 9999, 9999, 9999, 9999, 9999, 9999, 9999, 9999, 9999]
theorem zk_D_pairs : zz_dec zn_D_pairs.2.1 zm_D_pairs.1 = true := by decide +kernel
theorem zl_D_pairs : zz_lks zn_D_pairs.1.cls zm_D_pairs.1 zh_D_pairs = true := by decide +kernel
def zh_D_kin : List Nat := [9999, 9999, 9999, 1710, 9999, 9999, 9999, 1710, 9999, 9999, 9999, 9999, 9999, 9999, 9999, 9999, 9999, 1415, 9999, 1415, 9999, 9999, 9999, 9999, 9999, 1730, 9999, 9999, 1730, 9999, 1663, 9999]
theorem zk_D_kin : zz_dec zn_D_kin.2.1 zm_D_kin.1 = true := by decide +kernel
theorem zl_D_kin : zz_lks zn_D_kin.1.cls zm_D_kin.1 zh_D_kin = true := by decide +kernel
