def zh_D_putsAside : List Nat := [9999, 9999, 9999, 9999, 9999, 9999, 1419, 9999, 9999, 1416, 9999, 9999, 9999, 9999, 9999, 9999]
theorem zk_D_putsAside : zz_dec zn_D_putsAside.2.1 zm_D_putsAside.1 = true := by decide +kernel
theorem zl_D_putsAside : zz_lks zn_D_putsAside.1.cls zm_D_putsAside.1 zh_D_putsAside = true := by decide +kernel
def zh_D_comesBack : List Nat := [9999, 9999, 9999, 9999, 9999, 9999, 1416, 9999, 9999, 1419, 9999, 9999, 9999, 9999, 9999, 9999]
theorem zk_D_comesBack : zz_dec zn_D_comesBack.2.1 zm_D_comesBack.1 = true := by decide +kernel
theorem zl_D_comesBack : zz_lks zn_D_comesBack.1.cls zm_D_comesBack.1 zh_D_comesBack = true := by decide +kernel
def zh_D_shop : List Nat := [9999, 1502, 9999, 1506, 9999, 9999, 1510, 9999, 9999, 9999, 1427, 9999, 9999, 9999, 9999, 9999, 1416, 9999, 9999, 9999, 9999, 9999, 9999, 9999, 1415, 9999, 1415, 9999, 9999, 1631, 9999, 9999, 9999, 1416, 9999, 9999, 9999, 9999, 9999, 9999, 9999, 9999, 1421, 9999, 1416, 9999, 9999, 9999]
theorem zk_D_shop : zz_dec zn_D_shop.2.1 zm_D_shop.1 = true := by decide +kernel
theorem zl_D_shop : zz_lks zn_D_shop.1.cls zm_D_shop.1 zh_D_shop = true := by decide +kernel
def zh_D_part : List Nat := [9999, 1427, 9999, 9999, 9999, 9999, 9999, 1514, 9999, 1426, 9999, 1425, 9999, 9999, 9999, 1426, 1518, 9999, 9999, 1495, 9999, 9999, 9999, 9999, 1539, 9999, 9999, 1579, 1531, 9999, 9999, 9999, 9999, 1580, 1531, 9999, 9999, 9999, 9999, 1581, 1531, 9999, 9999, 9999, 9999, 1582, 1531, 9999, 9999, 9999, 9999, 1583, 1531, 9999, 9999, 9999, 9999, 1584, 1531, 9999, 9999, 9999, 9999, 1585, 1531, 9999, 9999, 9999, 9999, 1586, 1531, 9999, 9999, 9999, 9999, 9999, 9999, 9999, 9999, 9999, 9999, 1426, 1522, 9999, 9999, 9999, 1429, 9999, 9999, 9999]
theorem zk_D_part : zz_dec zn_D_part.2.1 zm_D_part.1 = true := by decide +kernel
theorem zl_D_part : zz_lks zn_D_part.1.cls zm_D_part.1 zh_D_part = true := by decide +kernel
def zh_D_sum : List Nat := [9999, 1575, 9999, 9999, 1427, 9999, 9999, 9999, 9999, 1561, 9999, 9999, 9999, 1426, 9999, 9999, 1426, 9999, 9999, 1575, 9999, 9999, 9999, 9999, 9999]
theorem zk_D_sum : zz_dec zn_D_sum.2.1 zm_D_sum.1 = true := by decide +kernel
theorem zl_D_sum : zz_lks zn_D_sum.1.cls zm_D_sum.1 zh_D_sum = true := by decide +kernel
def zh_D_plainly : List Nat := [9999, 1569, 1531, 9999, 9999, 1430, 9999, 9999, 1570, 1531, 9999, 9999, 1431, 9999, 9999, 1571, 9999, 9999, 1427, 9999, 9999, 9999, 9999, 9999, 9999, 1561, 9999, 9999, 9999, 9999, 9999, 1561, 9999, 9999, 9999, 1426, 1522, 9999, 9999, 9999, 9999, 1426, 9999, 9999, 1426, 9999, 1571, 9999, 9999, 9999, 9999, 9999, 9999, 9999, 9999, 9999, 9999, 9999, 9999, 9999, 9999, 9999, 9999, 9999]
theorem zk_D_plainly : zz_dec zn_D_plainly.2.1 zm_D_plainly.1 = true := by decide +kernel
theorem zl_D_plainly : zz_lks zn_D_plainly.1.cls zm_D_plainly.1 zh_D_plainly = true := by decide +kernel
def zh_D_atom : List Nat := [9999, 1427, 9999, 9999, 9999, 9999, 9999, 1543, 9999, 9999, 1560, 1531, 9999, 9999, 9999, 9999, 9999, 1561, 9999, 9999, 1565, 9999, 9999, 1428, 9999, 9999, 9999, 9999, 1522, 9999, 9999, 9999, 9999, 1428, 9999, 9999, 1428, 9999, 9999, 9999, 9999, 9999, 1556, 9999, 9999, 9999, 9999, 9999, 9999, 9999, 9999, 1426, 9999, 9999, 1426, 9999, 1548, 9999, 9999, 1427, 9999, 9999, 9999, 9999, 1561, 9999, 9999, 9999, 1426, 1522, 9999, 9999, 1426, 9999, 9999, 1426, 9999, 9999, 1428, 9999, 9999, 1428, 9999, 9999]
theorem zk_D_atom : zz_dec zn_D_atom.2.1 zm_D_atom.1 = true := by decide +kernel
theorem zl_D_atom : zz_lks zn_D_atom.1.cls zm_D_atom.1 zh_D_atom = true := by decide +kernel
def zh_D_every : List Nat := [9999, 1556, 9999, 9999, 1427, 9999, 9999, 9999, 1587, 1531, 9999, 9999, 1556, 9999, 9999, 9999, 9999, 9999, 9999, 9999, 9999, 9999, 9999, 9999, 9999]
theorem zk_D_every : zz_dec zn_D_every.2.1 zm_D_every.1 = true := by decide +kernel
theorem zl_D_every : zz_lks zn_D_every.1.cls zm_D_every.1 zh_D_every = true := by decide +kernel
def zh_D_some : List Nat := [9999, 1552, 9999, 9999, 1427, 9999, 9999, 9999, 1588, 1531, 9999, 9999, 1552, 9999, 9999, 9999, 9999, 9999, 9999, 9999, 9999, 9999, 9999, 9999, 9999]
theorem zk_D_some : zz_dec zn_D_some.2.1 zm_D_some.1 = true := by decide +kernel
theorem zl_D_some : zz_lks zn_D_some.1.cls zm_D_some.1 zh_D_some = true := by decide +kernel
def zh_D_lawLine : List Nat := [9999, 1530, 1531, 9999, 9999, 9999, 9999, 1537, 1531, 9999, 9999, 9999, 9999, 1538, 1531, 9999, 9999, 9999, 9999, 9999, 9999, 9999, 9999, 9999, 9999, 1426, 1522, 9999, 9999, 9999, 9999, 1539, 9999, 9999, 1427, 9999, 9999, 9999, 9999, 1547, 1531, 9999, 9999, 1548, 9999, 9999, 9999, 9999, 9999, 9999, 1427, 9999, 9999, 9999, 9999, 9999, 9999, 9999, 1432, 9999, 9999, 9999, 9999, 9999, 9999, 9999, 9999, 9999, 9999, 9999, 9999, 1432, 9999, 9999, 1433, 9999, 9999, 9999, 9999, 9999, 9999, 9999, 1433, 9999]
theorem zk_D_lawLine : zz_dec zn_D_lawLine.2.1 zm_D_lawLine.1 = true := by decide +kernel
theorem zl_D_lawLine : zz_lks zn_D_lawLine.1.cls zm_D_lawLine.1 zh_D_lawLine = true := by decide +kernel
def zh_D_law : List Nat := [9999, 1506, 9999, 9999, 1510, 9999, 9999, 9999, 1427, 9999, 9999, 9999, 9999, 9999, 1415, 9999, 1415, 9999, 9999, 9999, 9999, 1416, 9999, 9999, 9999, 9999, 1416, 9999, 9999, 1425, 9999, 9999, 9999, 9999, 9999, 1425, 9999, 9999, 1416, 9999, 9999, 9999, 9999, 1422, 9999, 9999, 9999, 9999, 9999, 9999, 9999, 1421, 9999, 9999]
theorem zk_D_law : zz_dec zn_D_law.2.1 zm_D_law.1 = true := by decide +kernel
theorem zl_D_law : zz_lks zn_D_law.1.cls zm_D_law.1 zh_D_law = true := by decide +kernel
def zh_D_fault : List Nat := [9999, 9999, 1415, 9999, 1427, 9999]
theorem zk_D_fault : zz_dec zn_D_fault.2.1 zm_D_fault.1 = true := by decide +kernel
theorem zl_D_fault : zz_lks zn_D_fault.1.cls zm_D_fault.1 zh_D_fault = true := by decide +kernel
def zh_D_fitting : List Nat := [9999, 9999, 1722, 9999, 9999, 9999, 9999, 9999, 9999, 9999, 9999, 9999, 9999, 9999, 9999, 9999, 9999, 1650, 9999, 9999, 1730, 9999, 9999, 9999, 9999, 1702, 9999, 9999, 9999, 9999, 9999, 9999, 9999, 9999, 9999, 9999, 9999, 9999, 9999]
theorem zk_D_fitting : zz_dec zn_D_fitting.2.1 zm_D_fitting.1 = true := by decide +kernel
theorem zl_D_fitting : zz_lks zn_D_fitting.1.cls zm_D_fitting.1 zh_D_fitting = true := by decide +kernel
def zh_D_asks : List Nat := [9999, 9999, 9999, 9999, 1702, 9999, 9999, 9999, 9999, 9999, 1702, 9999, 1432, 9999, 9999, 1433, 9999, 9999, 1722, 9999, 9999, 9999, 1432, 9999, 9999, 1429, 9999, 9999, 9999, 9999, 1429, 9999, 9999, 9999, 9999, 1702, 9999, 9999, 1429, 9999, 9999, 9999, 9999, 1702, 9999, 9999, 1429, 9999, 9999, 9999, 9999, 1702, 9999, 9999, 1429, 9999, 9999, 9999, 9999, 1702, 1663, 9999, 9999, 1429, 9999, 9999, 9999, 9999, 1702, 1663, 9999, 9999, 1429, 9999, 9999, 9999, 1726, 9999, 9999, 1429, 9999, 9999, 1416, 9999, 9999, 9999, 9999, 9999, 9999, 9999, 9999, 1730, 9999, 9999, 9999, 1702, 9999, 9999, 9999, 9999, 9999, 9999, 9999, 1430, 9999, 9999, 9999, 1734, 1663, 9999, 9999, 9999, 9999, 9999, 1431, 9999, 1427, 9999, 9999, 9999, 1427, 9999, 9999, 1424, 9999, 9999, 1416, 9999, 9999, 9999, 9999, 9999, 9999, 9999, 1416, 9999, 9999, 1425, 9999, 9999, 1426, 9999, 9999, 1428, 9999, 9999, 1510, 9999, 9999, 9999, 1427, 9999, 9999, 9999, 9999, 1432, 1738, 1683, 1432, 9999]
theorem zk_D_asks : zz_dec zn_D_asks.2.1 zm_D_asks.1 = true := by decide +kernel
theorem zl_D_asks : zz_lks zn_D_asks.1.cls zm_D_asks.1 zh_D_asks = true := by decide +kernel
def zh_D_comesOf : List Nat := [9999, 9999, 1718, 9999, 1432, 9999]
theorem zk_D_comesOf : zz_dec zn_D_comesOf.2.1 zm_D_comesOf.1 = true := by decide +kernel
theorem zl_D_comesOf : zz_lks zn_D_comesOf.1.cls zm_D_comesOf.1 zh_D_comesOf = true := by decide +kernel
def zh_D_draw : List Nat := [9999, 1416, 9999, 1762, 9999, 1416, 9999, 9999, 9999, 9999, 9999, 9999, 9999, 1416, 9999, 9999, 9999, 9999, 9999, 9999, 9999, 9999, 9999]
theorem zk_D_draw : zz_dec zn_D_draw.2.1 zm_D_draw.1 = true := by decide +kernel
theorem zl_D_draw : zz_lks zn_D_draw.1.cls zm_D_draw.1 zh_D_draw = true := by decide +kernel
def zh_D_logs : List Nat := [9999, 9999, 9999, 9999, 9999, 9999, 1416, 9999, 9999, 9999, 9999, 1416, 9999, 9999, 9999, 9999, 9999, 9999, 9999, 9999, 9999, 9999, 1416, 9999, 9999, 1416, 9999, 9999, 9999, 9999, 1416, 9999, 9999, 9999, 9999, 1416, 9999, 9999, 9999, 9999, 1416, 9999, 9999, 9999, 9999, 1416, 9999, 9999, 9999, 1416, 9999, 9999, 9999, 9999, 1738, 9999, 9999]
theorem zk_D_logs : zz_dec zn_D_logs.2.1 zm_D_logs.1 = true := by decide +kernel
theorem zl_D_logs : zz_lks zn_D_logs.1.cls zm_D_logs.1 zh_D_logs = true := by decide +kernel
def zh_D_deeds : List Nat := [9999, 9999, 1726, 9999, 9999, 9999, 9999, 9999, 9999, 9999, 1702, 9999, 1674, 9999, 9999, 9999, 9999, 9999, 1718, 9999, 9999, 9999, 9999, 1758, 9999, 1432, 9999, 9999, 9999, 9999, 9999, 9999, 1432, 9999, 9999, 9999, 9999, 9999, 9999, 9999, 9999, 9999, 9999, 9999, 9999, 9999, 9999, 9999, 9999, 9999, 9999, 9999, 1702, 9999, 1433, 9999, 1738, 1621, 9999, 9999, 9999, 9999, 9999, 9999, 1702, 9999, 9999, 9999, 9999, 1621, 9999, 9999, 9999, 9999, 1763, 9999, 9999]
theorem zk_D_deeds : zz_dec zn_D_deeds.2.1 zm_D_deeds.1 = true := by decide +kernel
theorem zl_D_deeds : zz_lks zn_D_deeds.1.cls zm_D_deeds.1 zh_D_deeds = true := by decide +kernel
def zh_D_thumbs : List Nat := [9999, 9999, 1758, 9999, 1416, 9999, 9999, 9999, 9999, 9999, 9999, 1758, 9999, 9999, 9999, 9999, 1702, 9999, 1674, 9999, 9999, 9999, 9999, 9999, 9999, 9999, 9999, 1702, 9999, 9999, 9999, 9999, 1621, 9999, 9999, 9999, 9999, 1763, 9999]
theorem zk_D_thumbs : zz_dec zn_D_thumbs.2.1 zm_D_thumbs.1 = true := by decide +kernel
theorem zl_D_thumbs : zz_lks zn_D_thumbs.1.cls zm_D_thumbs.1 zh_D_thumbs = true := by decide +kernel
def zh_D_passes : List Nat := [9999, 9999, 9999, 9999, 1416, 9999, 9999, 9999, 9999, 9999, 9999, 9999, 9999, 9999, 9999, 1702, 9999, 9999, 1738, 1621, 9999, 9999, 9999, 9999, 9999, 9999, 9999, 9999, 1416, 9999, 9999, 9999, 9999, 9999, 9999, 9999, 1754, 9999, 9999, 9999, 9999, 9999, 9999, 9999, 9999, 1416, 9999, 9999, 9999, 9999, 9999, 9999, 9999, 1767, 9999, 9999, 9999, 1416, 9999, 9999, 9999, 1416, 9999, 9999, 9999, 9999, 1738, 9999, 9999, 9999]
theorem zk_D_passes : zz_dec zn_D_passes.2.1 zm_D_passes.1 = true := by decide +kernel
theorem zl_D_passes : zz_lks zn_D_passes.1.cls zm_D_passes.1 zh_D_passes = true := by decide +kernel
def zh_D_goes : List Nat := [9999, 9999, 9999, 9999, 9999, 9999, 9999, 9999, 9999, 9999, 1750, 9999, 9999, 9999, 9999, 9999, 9999]
theorem zk_D_goes : zz_dec zn_D_goes.2.1 zm_D_goes.1 = true := by decide +kernel
theorem zl_D_goes : zz_lks zn_D_goes.1.cls zm_D_goes.1 zh_D_goes = true := by decide +kernel
def zh_D_bitsOfAll : List Nat := [9999, 9999, 9999, 9999, 9999, 9999, 1416, 9999, 9999, 9999, 9999, 9999, 9999, 9999, 1702, 1663, 9999, 9999, 9999, 9999, 9999, 9999]
theorem zk_D_bitsOfAll : zz_dec zn_D_bitsOfAll.2.1 zm_D_bitsOfAll.1 = true := by decide +kernel
theorem zl_D_bitsOfAll : zz_lks zn_D_bitsOfAll.1.cls zm_D_bitsOfAll.1 zh_D_bitsOfAll = true := by decide +kernel
def zh_D_fameOfAll : List Nat := [9999, 9999, 9999, 9999, 9999, 9999, 1416, 9999, 9999, 9999, 9999, 9999, 9999, 9999, 1702, 9999, 9999, 9999, 9999, 9999, 9999]
theorem zk_D_fameOfAll : zz_dec zn_D_fameOfAll.2.1 zm_D_fameOfAll.1 = true := by decide +kernel
theorem zl_D_fameOfAll : zz_lks zn_D_fameOfAll.1.cls zm_D_fameOfAll.1 zh_D_fameOfAll = true := by decide +kernel
def zh_D_tellsApart : List Nat := [9999, 9999, 9999, 9999, 9999, 9999, 9999, 9999, 9999, 9999, 9999, 9999, 9999, 9999, 9999, 1650, 9999, 9999, 9999, 1650, 9999, 9999, 9999, 9999, 9999, 9999, 9999, 9999, 9999, 9999, 9999, 9999]
theorem zk_D_tellsApart : zz_dec zn_D_tellsApart.2.1 zm_D_tellsApart.1 = true := by decide +kernel
theorem zl_D_tellsApart : zz_lks zn_D_tellsApart.1.cls zm_D_tellsApart.1 zh_D_tellsApart = true := by decide +kernel
def zh_D_few : List Nat := [9999, 9999, 1658, 1659, 9999, 9999, 9999, 1658, 9999, 9999, 9999, 9999, 1658, 9999, 9999, 1663, 9999, 1663, 9999, 9999, 9999, 9999, 1659, 9999, 9999, 9999, 9999, 9999, 9999, 9999]
theorem zk_D_few : zz_dec zn_D_few.2.1 zm_D_few.1 = true := by decide +kernel
theorem zl_D_few : zz_lks zn_D_few.1.cls zm_D_few.1 zh_D_few = true := by decide +kernel
def zh_D_same : List Nat := [9999, 9999, 9999, 9999, 9999, 9999, 9999, 9999, 9999, 9999, 9999, 1650, 9999, 9999, 9999, 1650, 9999, 9999, 9999, 9999, 9999, 9999, 9999, 9999, 9999, 9999, 9999, 9999]
theorem zk_D_same : zz_dec zn_D_same.2.1 zm_D_same.1 = true := by decide +kernel
theorem zl_D_same : zz_lks zn_D_same.1.cls zm_D_same.1 zh_D_same = true := by decide +kernel
def zh_D_beside : List Nat := [9999, 9999, 9999, 9999, 9999, 9999, 9999, 9999, 9999, 1674, 9999, 9999, 9999, 9999, 9999, 9999, 9999, 9999, 9999, 9999, 9999, 9999, 9999, 9999, 9999, 9999, 9999, 9999, 9999, 9999, 9999, 9999, 9999, 9999, 9999, 9999, 9999, 9999, 9999, 9999, 9999, 9999, 9999, 9999, 9999, 9999, 9999, 9999, 9999, 9999, 9999, 9999, 9999, 9999, 9999, 9999, 9999, 9999, 9999, 9999, 9999, 9999, 9999, 9999, 9999]
theorem zk_D_beside : zz_dec zn_D_beside.2.1 zm_D_beside.1 = true := by decide +kernel
theorem zl_D_beside : zz_lks zn_D_beside.1.cls zm_D_beside.1 zh_D_beside = true := by decide +kernel
