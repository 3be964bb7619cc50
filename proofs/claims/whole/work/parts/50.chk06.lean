def zh_D_floods : List Nat := [9999, 9999, 9999, 9999, 9999, 9999, 9999, 9999, 9999, 9999, 9999, 1680, 9999, 9999, 9999, 9999, 9999, 9999, 9999, 9999]
theorem zk_D_floods : zz_dec zn_D_floods.2.1 zm_D_floods.1 = true := by decide +kernel
theorem zl_D_floods : zz_lks zn_D_floods.1.cls zm_D_floods.1 zh_D_floods = true := by decide +kernel
def zh_D_pieces : List Nat := [9999, 9999, 9999, 1650, 9999, 9999, 9999, 9999, 9999, 9999, 9999, 9999, 9999, 9999, 9999, 9999, 1674, 9999, 9999, 9999, 9999, 9999, 9999, 1677, 9999, 9999, 9999, 9999, 9999, 9999, 9999, 9999, 9999, 9999, 1663, 1683, 9999, 9999, 9999, 9999, 9999, 9999, 9999, 9999, 9999]
theorem zk_D_pieces : zz_dec zn_D_pieces.2.1 zm_D_pieces.1 = true := by decide +kernel
theorem zl_D_pieces : zz_lks zn_D_pieces.1.cls zm_D_pieces.1 zh_D_pieces = true := by decide +kernel
def zh_D_holes : List Nat := [1658, 9999, 9999, 9999, 1650, 9999, 9999, 9999, 9999, 9999, 9999, 9999, 9999, 9999, 9999, 9999, 9999, 9999, 9999, 9999, 9999, 9999, 9999, 9999, 9999, 9999, 9999, 9999, 9999, 9999, 9999, 9999, 9999, 9999, 9999, 9999, 9999, 9999, 9999, 9999, 9999, 9999, 9999, 9999, 1677, 9999, 9999, 9999, 9999]
theorem zk_D_holes : zz_dec zn_D_holes.2.1 zm_D_holes.1 = true := by decide +kernel
theorem zl_D_holes : zz_lks zn_D_holes.1.cls zm_D_holes.1 zh_D_holes = true := by decide +kernel
def zh_D_deepOf : List Nat := [9999, 9999, 9999, 9999, 9999, 9999, 9999, 9999, 9999, 9999, 1650, 9999, 9999, 9999, 9999, 9999, 9999, 9999, 9999, 9999, 9999]
theorem zk_D_deepOf : zz_dec zn_D_deepOf.2.1 zm_D_deepOf.1 = true := by decide +kernel
theorem zl_D_deepOf : zz_lks zn_D_deepOf.1.cls zm_D_deepOf.1 zh_D_deepOf = true := by decide +kernel
def zh_D_within : List Nat := [9999, 9999, 9999, 9999, 9999, 9999, 9999, 9999, 9999, 1674, 9999, 9999, 9999, 9999, 9999, 9999, 9999, 9999, 9999, 9999, 1650, 9999, 9999, 9999, 9999]
theorem zk_D_within : zz_dec zn_D_within.2.1 zm_D_within.1 = true := by decide +kernel
theorem zl_D_within : zz_lks zn_D_within.1.cls zm_D_within.1 zh_D_within = true := by decide +kernel
def zh_D_bearers : List Nat := [9999, 9999, 9999, 9999, 9999, 9999, 1416, 9999, 9999, 9999, 9999, 9999, 9999, 9999, 1702, 9999, 9999, 9999, 9999, 9999, 9999, 9999, 9999, 9999, 9999, 9999, 9999, 9999]
theorem zk_D_bearers : zz_dec zn_D_bearers.2.1 zm_D_bearers.1 = true := by decide +kernel
theorem zl_D_bearers : zz_lks zn_D_bearers.1.cls zm_D_bearers.1 zh_D_bearers = true := by decide +kernel
def zh_D_kind : List Nat := [9999, 9999, 1647, 9999, 9999, 9999, 9999, 9999, 9999, 1495, 9999, 9999, 9999, 9999, 1415, 9999, 1415, 9999, 9999, 9999, 9999, 9999, 9999, 9999, 9999, 9999, 1650, 9999, 9999, 9999, 9999, 9999, 9999, 1654, 9999, 9999, 9999, 9999, 9999, 9999, 1666, 9999, 9999, 9999, 9999, 9999, 9999, 9999, 9999, 9999, 9999, 9999, 9999, 1670, 9999, 9999, 9999, 9999, 9999, 9999, 1686, 9999, 9999, 9999, 9999, 9999, 9999, 1690, 9999, 9999, 9999, 9999, 9999, 9999, 1694, 9999, 9999, 9999, 1698, 9999]
theorem zk_D_kind : zz_dec zn_D_kind.2.1 zm_D_kind.1 = true := by decide +kernel
theorem zl_D_kind : zz_lks zn_D_kind.1.cls zm_D_kind.1 zh_D_kind = true := by decide +kernel
def zh_D_thumb : List Nat := [9999, 9999, 1734, 9999, 9999, 9999, 1745, 9999, 9999, 9999, 9999, 9999, 9999, 9999, 1663, 9999, 9999, 9999, 9999, 9999, 1702, 9999, 1674, 9999, 9999, 9999, 9999, 9999, 9999, 9999, 9999, 9999, 9999, 9999, 9999, 1674, 9999, 9999, 9999, 9999, 1650, 9999, 1674, 9999, 9999, 9999, 9999, 9999, 9999, 9999, 9999, 9999, 9999, 1663, 9999, 9999, 1683, 9999, 9999, 9999, 9999, 9999, 9999, 9999, 9999, 9999, 9999, 9999, 9999, 9999]
theorem zk_D_thumb : zz_dec zn_D_thumb.2.1 zm_D_thumb.1 = true := by decide +kernel
theorem zl_D_thumb : zz_lks zn_D_thumb.1.cls zm_D_thumb.1 zh_D_thumb = true := by decide +kernel
def zh_D_sureOf : List Nat := [9999, 9999, 1722, 9999, 9999, 9999, 9999, 1502, 9999, 9999, 9999, 9999, 9999, 9999, 9999, 9999, 9999, 9999, 9999, 9999, 9999, 1702, 9999, 9999, 1726, 1674, 9999, 9999, 9999, 9999, 9999, 1750, 9999, 9999, 9999, 9999, 1631, 9999, 9999]
theorem zk_D_sureOf : zz_dec zn_D_sureOf.2.1 zm_D_sureOf.1 = true := by decide +kernel
theorem zl_D_sureOf : zz_lks zn_D_sureOf.1.cls zm_D_sureOf.1 zh_D_sureOf = true := by decide +kernel
def zh_D_fates : List Nat := [9999, 9999, 9999, 9999, 9999, 9999, 9999, 9999, 9999, 9999, 1734, 9999, 1674, 9999, 9999, 9999, 9999, 9999, 1650, 9999, 9999, 9999, 9999, 9999, 9999, 9999, 9999, 9999]
theorem zk_D_fates : zz_dec zn_D_fates.2.1 zm_D_fates.1 = true := by decide +kernel
theorem zl_D_fates : zz_lks zn_D_fates.1.cls zm_D_fates.1 zh_D_fates = true := by decide +kernel
def zh_D_person : List Nat := [9999, 9999, 9999, 1710, 9999, 9999, 9999, 9999, 9999, 9999, 1495, 9999, 9999, 9999, 9999, 1415, 9999, 1415, 9999, 9999, 9999, 9999, 9999, 9999, 9999, 9999, 9999, 1702, 9999, 9999, 9999, 9999, 9999, 9999, 1714, 9999, 9999, 9999, 9999, 9999, 9999, 1734, 9999, 9999, 9999, 9999, 9999, 9999, 1741, 9999, 9999, 9999, 9999, 9999, 9999, 1746, 9999, 9999, 9999, 9999, 9999, 9999, 1771, 9999, 9999, 1775, 9999, 9999, 9999, 9999, 9999, 9999, 9999, 1702, 9999, 9999, 1775, 9999, 9999]
theorem zk_D_person : zz_dec zn_D_person.2.1 zm_D_person.1 = true := by decide +kernel
theorem zl_D_person : zz_lks zn_D_person.1.cls zm_D_person.1 zh_D_person = true := by decide +kernel
def zh_D_isPlace : List Nat := [9999, 9999, 9999, 1710, 9999, 9999, 9999, 9999, 1495, 9999, 9999, 9999, 9999, 1415, 9999]
theorem zk_D_isPlace : zz_dec zn_D_isPlace.2.1 zm_D_isPlace.1 = true := by decide +kernel
theorem zl_D_isPlace : zz_lks zn_D_isPlace.1.cls zm_D_isPlace.1 zh_D_isPlace = true := by decide +kernel
def zh_D_mark : List Nat := [9999, 9999, 9999, 1783, 9999, 1415, 9999, 9999, 9999, 9999, 1702, 9999, 9999, 1730, 9999, 9999, 1674, 9999, 9999, 9999, 9999, 9999]
theorem zk_D_mark : zz_dec zn_D_mark.2.1 zm_D_mark.1 = true := by decide +kernel
theorem zl_D_mark : zz_lks zn_D_mark.1.cls zm_D_mark.1 zh_D_mark = true := by decide +kernel
def zh_D_remembers : List Nat := [9999, 1421, 9999, 9999, 9999, 9999, 9999, 9999, 9999, 9999, 1420, 9999, 9999, 1420, 9999, 9999, 9999, 9999, 9999, 9999, 9999, 9999, 9999, 1421, 9999, 9999, 1421, 9999, 9999, 9999, 9999, 9999, 9999, 1420, 9999, 9999, 1421, 9999, 9999, 9999, 9999, 1416, 9999, 9999, 9999, 9999, 9999, 9999, 9999, 1421, 9999, 9999, 1421, 9999]
theorem zk_D_remembers : zz_dec zn_D_remembers.2.1 zm_D_remembers.1 = true := by decide +kernel
theorem zl_D_remembers : zz_lks zn_D_remembers.1.cls zm_D_remembers.1 zh_D_remembers = true := by decide +kernel
def zh_D_sets : List Nat := [9999, 1791, 9999, 1416, 9999, 9999, 9999, 9999, 1416, 9999, 9999, 9999, 9999, 9999]
theorem zk_D_sets : zz_dec zn_D_sets.2.1 zm_D_sets.1 = true := by decide +kernel
theorem zl_D_sets : zz_lks zn_D_sets.1.cls zm_D_sets.1 zh_D_sets = true := by decide +kernel
def zh_D_years : List Nat := [9999, 9999, 9999, 9999, 1495, 9999, 9999, 9999, 9999, 1415, 9999, 1415, 9999, 9999, 9999, 9999, 1791, 9999, 9999, 9999, 1795, 9999]
theorem zk_D_years : zz_dec zn_D_years.2.1 zm_D_years.1 = true := by decide +kernel
theorem zl_D_years : zz_lks zn_D_years.1.cls zm_D_years.1 zh_D_years = true := by decide +kernel
def zh_D_rub : List Nat := [9999, 9999, 9999, 1783, 9999, 1415, 9999, 9999, 9999, 9999, 9999, 9999, 9999, 1702, 9999, 1674, 9999, 9999, 9999, 9999, 1415, 9999, 1415, 9999, 9999, 9999, 9999, 9999, 9999, 9999, 9999, 9999, 9999, 9999, 9999, 9999, 9999, 1702, 9999, 9999, 9999, 9999, 1803, 9999, 9999, 9999, 9999, 9999, 1763, 9999, 9999, 1730, 9999, 1674, 9999]
theorem zk_D_rub : zz_dec zn_D_rub.2.1 zm_D_rub.1 = true := by decide +kernel
theorem zl_D_rub : zz_lks zn_D_rub.1.cls zm_D_rub.1 zh_D_rub = true := by decide +kernel
def zh_D_ink : List Nat := [9999, 9999, 9999, 1710, 9999, 9999, 1647, 9999, 9999, 9999, 9999, 1415, 9999, 1415, 9999, 9999, 9999, 9999, 9999, 9999, 1722, 9999, 9999, 1416, 9999, 9999, 9999, 9999, 9999, 9999, 9999, 1415, 9999, 1415, 9999, 9999, 9999, 9999, 9999, 9999, 1416, 9999, 9999, 9999, 9999, 1803, 9999, 9999, 9999, 9999, 9999, 1621, 9999, 9999, 9999, 9999, 1763, 9999, 1416, 9999, 9999, 9999]
theorem zk_D_ink : zz_dec zn_D_ink.2.1 zm_D_ink.1 = true := by decide +kernel
theorem zl_D_ink : zz_lks zn_D_ink.1.cls zm_D_ink.1 zh_D_ink = true := by decide +kernel
def zh_D_wash : List Nat := [9999, 9999, 9999, 1710, 9999, 9999, 9999, 9999, 1415, 9999, 1415, 9999, 9999, 9999, 9999, 9999, 9999, 9999, 9999, 9999, 9999, 9999, 9999, 1803, 9999]
theorem zk_D_wash : zz_dec zn_D_wash.2.1 zm_D_wash.1 = true := by decide +kernel
theorem zl_D_wash : zz_lks zn_D_wash.1.cls zm_D_wash.1 zh_D_wash = true := by decide +kernel
def zh_D_told : List Nat := [9999, 9999, 1647, 9999, 9999, 9999, 9999, 1495, 9999, 9999, 9999, 9999, 1415, 9999, 1415, 9999, 9999, 9999, 9999, 9999, 9999, 9999, 9999, 9999, 9999, 9999, 9999, 1803, 9999]
theorem zk_D_told : zz_dec zn_D_told.2.1 zm_D_told.1 = true := by decide +kernel
theorem zl_D_told : zz_lks zn_D_told.1.cls zm_D_told.1 zh_D_told = true := by decide +kernel
def zh_D_hold : List Nat := [9999, 9999, 1647, 9999, 9999, 9999, 9999, 9999, 1647, 9999, 9999, 9999, 9999, 1415, 9999, 1415, 9999, 9999, 9999, 9999, 9999, 9999, 9999, 9999, 9999, 9999, 9999, 9999, 1803, 9999]
theorem zk_D_hold : zz_dec zn_D_hold.2.1 zm_D_hold.1 = true := by decide +kernel
theorem zl_D_hold : zz_lks zn_D_hold.1.cls zm_D_hold.1 zh_D_hold = true := by decide +kernel
def zh_D_does : List Nat := [9999, 9999, 9999, 1710, 9999, 9999, 9999, 9999, 1495, 9999, 9999, 9999, 9999, 1415, 9999, 1415, 9999, 9999, 9999, 9999, 9999, 9999, 9999, 1702, 9999, 1674, 9999, 9999, 9999, 9999, 1415, 9999, 1415, 9999, 9999, 9999, 9999, 9999, 9999, 9999, 9999, 9999, 9999, 9999, 9999, 9999, 9999, 1702, 9999, 9999, 9999, 9999, 1803, 9999, 9999, 9999, 9999, 1702, 9999]
theorem zk_D_does : zz_dec zn_D_does.2.1 zm_D_does.1 = true := by decide +kernel
theorem zl_D_does : zz_lks zn_D_does.1.cls zm_D_does.1 zh_D_does = true := by decide +kernel
def zh_D_luck : List Nat := [9999, 9999, 9999, 1710, 9999, 9999, 9999, 9999, 9999, 9999, 1495, 9999, 9999, 9999, 9999, 1415, 9999, 1415, 9999, 9999, 9999, 9999, 9999, 9999, 9999, 9999, 9999, 9999, 9999, 9999, 1803, 9999]
theorem zk_D_luck : zz_dec zn_D_luck.2.1 zm_D_luck.1 = true := by decide +kernel
theorem zl_D_luck : zz_lks zn_D_luck.1.cls zm_D_luck.1 zh_D_luck = true := by decide +kernel
def zh_D_fill : List Nat := [9999, 9999, 9999, 9999, 1495, 9999, 9999, 9999, 9999, 1415, 9999, 1415, 9999, 9999, 9999, 9999, 9999, 9999, 9999, 1416, 9999, 9999, 9999, 9999, 1738, 1803, 9999, 9999, 1416, 9999, 9999, 9999]
theorem zk_D_fill : zz_dec zn_D_fill.2.1 zm_D_fill.1 = true := by decide +kernel
theorem zl_D_fill : zz_lks zn_D_fill.1.cls zm_D_fill.1 zh_D_fill = true := by decide +kernel
def zh_D_blank : List Nat := [9999, 9999, 9999, 1710, 9999, 9999, 9999, 9999, 1415, 9999, 1415, 9999, 9999, 9999, 9999, 1702, 9999, 9999, 1730, 9999, 9999, 9999, 9999, 9999, 9999]
theorem zk_D_blank : zz_dec zn_D_blank.2.1 zm_D_blank.1 = true := by decide +kernel
theorem zl_D_blank : zz_lks zn_D_blank.1.cls zm_D_blank.1 zh_D_blank = true := by decide +kernel
def zh_D_reach : List Nat := [9999, 9999, 1647, 9999, 9999, 9999, 9999, 1495, 9999, 9999, 9999, 9999, 1495, 9999, 9999, 9999, 9999, 1415, 9999, 1415, 9999, 9999, 9999, 9999, 9999, 9999, 1650, 9999, 9999, 9999, 9999, 9999, 9999, 9999, 9999, 9999, 9999, 9999, 9999, 9999, 9999, 1674, 9999, 9999, 9999, 9999, 9999, 1680, 9999, 9999, 9999, 9999, 9999, 9999, 9999, 9999]
theorem zk_D_reach : zz_dec zn_D_reach.2.1 zm_D_reach.1 = true := by decide +kernel
theorem zl_D_reach : zz_lks zn_D_reach.1.cls zm_D_reach.1 zh_D_reach = true := by decide +kernel
def zh_D_turns : List Nat := [9999, 9999, 9999, 9999, 9999, 9999, 9999, 9999, 9999, 9999, 1674, 9999, 9999, 9999, 9999, 9999, 9999, 9999, 9999, 9999, 9999, 9999, 9999, 9999, 9999, 9999, 9999, 9999, 9999, 9999, 9999, 9999, 9999]
theorem zk_D_turns : zz_dec zn_D_turns.2.1 zm_D_turns.1 = true := by decide +kernel
theorem zl_D_turns : zz_lks zn_D_turns.1.cls zm_D_turns.1 zh_D_turns = true := by decide +kernel
def zh_D_areKinds : List Nat := [9999, 9999, 1647, 9999, 9999, 1647, 9999, 9999, 9999, 9999, 1415, 9999]
theorem zk_D_areKinds : zz_dec zn_D_areKinds.2.1 zm_D_areKinds.1 = true := by decide +kernel
theorem zl_D_areKinds : zz_lks zn_D_areKinds.1.cls zm_D_areKinds.1 zh_D_areKinds = true := by decide +kernel
def zh_D_turned : List Nat := [9999, 9999, 9999, 1847, 9999, 1415, 9999, 9999, 9999, 9999, 9999, 9999, 1650, 9999, 9999, 9999, 9999, 9999, 9999, 9999, 9999, 9999, 9999, 1650, 9999, 9999, 9999, 9999, 1851, 9999, 9999, 9999, 9999, 9999]
theorem zk_D_turned : zz_dec zn_D_turned.2.1 zm_D_turned.1 = true := by decide +kernel
theorem zl_D_turned : zz_lks zn_D_turned.1.cls zm_D_turned.1 zh_D_turned = true := by decide +kernel
def zh_D_lie : List Nat := [9999, 9999, 9999, 9999, 9999, 9999, 9999, 9999, 9999, 9999, 9999, 9999, 9999, 9999, 9999, 9999, 9999, 9999, 9999, 9999, 9999, 9999, 9999, 1650, 9999, 1674, 9999, 9999, 9999, 9999, 1495, 9999, 9999, 9999, 9999, 1495, 9999, 9999, 9999, 9999, 1650, 9999, 9999, 9999, 9999, 9999, 1674, 9999, 9999, 9999, 9999, 9999, 9999, 9999, 9999, 9999, 9999]
theorem zk_D_lie : zz_dec zn_D_lie.2.1 zm_D_lie.1 = true := by decide +kernel
theorem zl_D_lie : zz_lks zn_D_lie.1.cls zm_D_lie.1 zh_D_lie = true := by decide +kernel
def zh_D_shifts : List Nat := [9999, 9999, 9999, 1847, 9999, 1415, 9999, 9999, 9999, 9999, 9999, 9999, 9999, 9999, 9999, 9999, 9999, 9999, 9999, 9999, 9999, 9999, 9999, 9999, 9999, 9999, 9999, 9999, 9999, 9999, 9999, 1858, 9999, 9999, 9999, 9999, 9999, 9999, 9999, 9999, 9999, 9999, 9999, 9999, 9999, 9999, 9999, 9999, 9999]
theorem zk_D_shifts : zz_dec zn_D_shifts.2.1 zm_D_shifts.1 = true := by decide +kernel
theorem zl_D_shifts : zz_lks zn_D_shifts.1.cls zm_D_shifts.1 zh_D_shifts = true := by decide +kernel
