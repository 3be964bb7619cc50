def zh_N_log : List Nat := [9999, 9999, 9999, 9999, 9999, 904, 9999, 308, 9999, 9999, 1398, 9999]
theorem zk_N_log : zz_dec zn_N_log.2.1 zm_N_log.1 = true := by decide +kernel
theorem zl_N_log : zz_lks zn_N_log.1.cls zm_N_log.1 zh_N_log = true := by decide +kernel
def zh_N_seed : List Nat := [9999, 308, 202, 9999, 9999, 308, 9999, 202, 9999, 9999]
theorem zk_N_seed : zz_dec zn_N_seed.2.1 zm_N_seed.1 = true := by decide +kernel
theorem zl_N_seed : zz_lks zn_N_seed.1.cls zm_N_seed.1 zh_N_seed = true := by decide +kernel
def zh_N_undo : List Nat := [9999, 315, 9999, 308, 480, 9999]
theorem zk_N_undo : zz_dec zn_N_undo.2.1 zm_N_undo.1 = true := by decide +kernel
theorem zl_N_undo : zz_lks zn_N_undo.1.cls zm_N_undo.1 zh_N_undo = true := by decide +kernel
def zh_N_image : List Nat := [9999, 310, 9999, 308, 495, 9999, 313, 9999, 311, 496, 9999, 9999, 314, 9999]
theorem zk_N_image : zz_dec zn_N_image.2.1 zm_N_image.1 = true := by decide +kernel
theorem zl_N_image : zz_lks zn_N_image.1.cls zm_N_image.1 zh_N_image = true := by decide +kernel
def zh_N_back : List Nat := [9999, 314, 9999, 9999, 9999, 9999, 308, 9999, 310, 495, 9999, 311, 9999, 313, 496, 9999, 315, 505, 9999, 9999]
theorem zk_N_back : zz_dec zn_N_back.2.1 zm_N_back.1 = true := by decide +kernel
theorem zl_N_back : zz_lks zn_N_back.1.cls zm_N_back.1 zh_N_back = true := by decide +kernel
def zh_N_count : List Nat := [9999, 9999, 9999, 308, 190, 9999, 9999, 308, 204, 9999, 9999, 311, 252, 9999, 9999, 308, 197, 9999, 9999, 308, 193, 9999, 9999, 308, 200, 9999, 9999, 308, 513, 9999, 9999, 308, 522, 9999, 9999, 308, 526, 9999, 9999, 308, 206, 9999, 9999, 315, 530, 9999, 9999, 9999]
theorem zk_N_count : zz_dec zn_N_count.2.1 zm_N_count.1 = true := by decide +kernel
theorem zl_N_count : zz_lks zn_N_count.1.cls zm_N_count.1 zh_N_count = true := by decide +kernel
def zh_N_needPerson : List Nat := [9999, 9999, 9999, 9999, 308, 190, 9999, 843, 9999]
theorem zk_N_needPerson : zz_dec zn_N_needPerson.2.1 zm_N_needPerson.1 = true := by decide +kernel
theorem zl_N_needPerson : zz_lks zn_N_needPerson.1.cls zm_N_needPerson.1 zh_N_needPerson = true := by decide +kernel
def zh_N_needKind : List Nat := [9999, 9999, 9999, 9999, 9999, 843, 9999]
theorem zk_N_needKind : zz_dec zn_N_needKind.2.1 zm_N_needKind.1 = true := by decide +kernel
theorem zl_N_needKind : zz_lks zn_N_needKind.1.cls zm_N_needKind.1 zh_N_needKind = true := by decide +kernel
def zh_N_needDeed : List Nat := [9999, 9999, 9999, 9999, 9999, 843, 9999]
theorem zk_N_needDeed : zz_dec zn_N_needDeed.2.1 zm_N_needDeed.1 = true := by decide +kernel
theorem zl_N_needDeed : zz_lks zn_N_needDeed.1.cls zm_N_needDeed.1 zh_N_needDeed = true := by decide +kernel
def zh_N_needPlace : List Nat := [9999, 9999, 9999, 9999, 9999, 843, 9999]
theorem zk_N_needPlace : zz_dec zn_N_needPlace.2.1 zm_N_needPlace.1 = true := by decide +kernel
theorem zl_N_needPlace : zz_lks zn_N_needPlace.1.cls zm_N_needPlace.1 zh_N_needPlace = true := by decide +kernel
def zh_N_needYears : List Nat := [9999, 9999, 9999, 9999, 9999, 672, 9999]
theorem zk_N_needYears : zz_dec zn_N_needYears.2.1 zm_N_needYears.1 = true := by decide +kernel
theorem zl_N_needYears : zz_lks zn_N_needYears.1.cls zm_N_needYears.1 zh_N_needYears = true := by decide +kernel
def zh_N_needRows : List Nat := [9999, 9999, 9999, 9999, 9999, 9999, 9999, 672, 9999, 9999, 9999, 9999, 9999, 9999, 9999, 9999, 306, 9999, 1214, 9999, 9999, 9999, 306, 9999, 9999, 9999, 1214, 9999, 9999, 672, 9999, 9999, 9999]
theorem zk_N_needRows : zz_dec zn_N_needRows.2.1 zm_N_needRows.1 = true := by decide +kernel
theorem zl_N_needRows : zz_lks zn_N_needRows.1.cls zm_N_needRows.1 zh_N_needRows = true := by decide +kernel
def zh_N_needBerths : List Nat := [9999, 9999, 9999, 672, 9999, 9999, 9999, 9999, 9999, 9999, 306, 9999, 1214, 9999, 9999, 672, 9999, 9999, 9999]
theorem zk_N_needBerths : zz_dec zn_N_needBerths.2.1 zm_N_needBerths.1 = true := by decide +kernel
theorem zl_N_needBerths : zz_lks zn_N_needBerths.1.cls zm_N_needBerths.1 zh_N_needBerths = true := by decide +kernel
def zh_N_sureYear : List Nat := [9999, 308, 9999, 447, 9999, 9999, 9999, 9999, 309, 9999, 308, 495, 9999, 9999, 9999, 9999, 9999, 9999, 309, 9999, 976, 9999, 9999, 9999, 9999, 309, 9999, 311, 980, 9999, 9999, 9999, 9999]
theorem zk_N_sureYear : zz_dec zn_N_sureYear.2.1 zm_N_sureYear.1 = true := by decide +kernel
theorem zl_N_sureYear : zz_lks zn_N_sureYear.1.cls zm_N_sureYear.1 zh_N_sureYear = true := by decide +kernel
def zh_N_tryYears : List Nat := [9999, 309, 9999, 308, 495, 9999, 309, 9999, 202, 9999, 9999, 9999, 9999, 9999, 9999, 309, 9999, 311, 1038, 9999, 9999, 9999, 9999]
theorem zk_N_tryYears : zz_dec zn_N_tryYears.2.1 zm_N_tryYears.1 = true := by decide +kernel
theorem zl_N_tryYears : zz_lks zn_N_tryYears.1.cls zm_N_tryYears.1 zh_N_tryYears = true := by decide +kernel
def zh_D_init : List Nat := [9999, 1414, 9999, 9999, 9999, 1416, 9999, 9999, 9999, 1417, 9999, 9999, 9999, 1419, 9999, 9999, 9999, 1420, 9999, 9999, 9999, 1422, 9999, 9999, 1427, 9999, 9999, 9999, 1429, 9999, 9999, 9999, 1434, 9999, 9999, 9999, 1435, 9999, 9999, 9999, 1436, 9999, 1416, 9999, 9999, 9999, 9999, 1416, 9999, 9999, 9999, 9999, 1416, 9999, 9999, 9999, 9999, 9999, 9999, 9999, 9999, 9999, 1416, 9999, 9999, 9999, 9999, 9999, 9999, 9999, 9999, 9999, 9999, 1416, 9999, 9999, 9999, 9999, 9999, 9999, 9999, 9999, 9999, 9999, 9999, 9999]
theorem zk_D_init : zz_dec zn_D_init.2.1 zm_D_init.1 = true := by decide +kernel
theorem zl_D_init : zz_lks zn_D_init.1.cls zm_D_init.1 zh_D_init = true := by decide +kernel
def zh_D_thrown : List Nat := [9999, 1415, 9999]
theorem zk_D_thrown : zz_dec zn_D_thrown.2.1 zm_D_thrown.1 = true := by decide +kernel
theorem zl_D_thrown : zz_lks zn_D_thrown.1.cls zm_D_thrown.1 zh_D_thrown = true := by decide +kernel
def zh_D_isIn : List Nat := [9999, 9999, 9999, 9999, 9999, 9999, 9999, 9999, 9999, 9999]
theorem zk_D_isIn : zz_dec zn_D_isIn.2.1 zm_D_isIn.1 = true := by decide +kernel
theorem zl_D_isIn : zz_lks zn_D_isIn.1.cls zm_D_isIn.1 zh_D_isIn = true := by decide +kernel
def zh_D_lesser : List Nat := [9999, 9999, 9999, 9999, 9999, 9999, 9999]
theorem zk_D_lesser : zz_dec zn_D_lesser.2.1 zm_D_lesser.1 = true := by decide +kernel
theorem zl_D_lesser : zz_lks zn_D_lesser.1.cls zm_D_lesser.1 zh_D_lesser = true := by decide +kernel
def zh_D_greater : List Nat := [9999, 9999, 9999, 9999, 9999, 9999, 9999]
theorem zk_D_greater : zz_dec zn_D_greater.2.1 zm_D_greater.1 = true := by decide +kernel
theorem zl_D_greater : zz_lks zn_D_greater.1.cls zm_D_greater.1 zh_D_greater = true := by decide +kernel
def zh_D_isOf : List Nat := [9999, 9999, 9999, 9999, 9999, 9999, 9999, 9999, 9999, 9999, 9999]
theorem zk_D_isOf : zz_dec zn_D_isOf.2.1 zm_D_isOf.1 = true := by decide +kernel
theorem zl_D_isOf : zz_lks zn_D_isOf.1.cls zm_D_isOf.1 zh_D_isOf = true := by decide +kernel
def zh_D_bits : List Nat := [9999, 9999, 9999, 9999, 9999, 9999, 9999, 9999, 9999, 9999, 9999, 9999, 9999, 9999, 9999, 9999, 9999, 9999, 9999]
theorem zk_D_bits : zz_dec zn_D_bits.2.1 zm_D_bits.1 = true := by decide +kernel
theorem zl_D_bits : zz_lks zn_D_bits.1.cls zm_D_bits.1 zh_D_bits = true := by decide +kernel
def zh_D_ofKind : List Nat := [9999, 1416, 9999, 9999, 9999, 9999, 9999, 9999, 9999, 9999, 9999]
theorem zk_D_ofKind : zz_dec zn_D_ofKind.2.1 zm_D_ofKind.1 = true := by decide +kernel
theorem zl_D_ofKind : zz_lks zn_D_ofKind.1.cls zm_D_ofKind.1 zh_D_ofKind = true := by decide +kernel
def zh_D_of : List Nat := [9999, 1416, 9999, 9999, 9999, 9999, 9999, 9999, 9999, 9999, 9999]
theorem zk_D_of : zz_dec zn_D_of.2.1 zm_D_of.1 = true := by decide +kernel
theorem zl_D_of : zz_lks zn_D_of.1.cls zm_D_of.1 zh_D_of = true := by decide +kernel
def zh_D_lays : List Nat := [9999, 1416, 9999, 9999, 9999, 9999, 9999, 9999, 9999, 9999, 9999, 9999]
theorem zk_D_lays : zz_dec zn_D_lays.2.1 zm_D_lays.1 = true := by decide +kernel
theorem zl_D_lays : zz_lks zn_D_lays.1.cls zm_D_lays.1 zh_D_lays = true := by decide +kernel
def zh_D_isOne : List Nat := [9999, 9999, 9999, 1416, 9999, 9999, 9999, 9999, 1495, 9999]
theorem zk_D_isOne : zz_dec zn_D_isOne.2.1 zm_D_isOne.1 = true := by decide +kernel
theorem zl_D_isOne : zz_lks zn_D_isOne.1.cls zm_D_isOne.1 zh_D_isOne = true := by decide +kernel
def zh_D_isKind : List Nat := [9999, 9999, 9999, 1495, 9999]
theorem zk_D_isKind : zz_dec zn_D_isKind.2.1 zm_D_isKind.1 = true := by decide +kernel
theorem zl_D_isKind : zz_lks zn_D_isKind.1.cls zm_D_isKind.1 zh_D_isKind = true := by decide +kernel
def zh_D_isPlain : List Nat := [9999, 9999, 9999, 1702, 9999, 9999, 9999, 9999, 9999, 9999]
theorem zk_D_isPlain : zz_dec zn_D_isPlain.2.1 zm_D_isPlain.1 = true := by decide +kernel
theorem zl_D_isPlain : zz_lks zn_D_isPlain.1.cls zm_D_isPlain.1 zh_D_isPlain = true := by decide +kernel
def zh_D_deedOf : List Nat := [9999, 9999, 1722, 9999, 9999, 9999, 9999, 9999, 9999, 9999, 1702, 9999, 1650, 9999]
theorem zk_D_deedOf : zz_dec zn_D_deedOf.2.1 zm_D_deedOf.1 = true := by decide +kernel
theorem zl_D_deedOf : zz_lks zn_D_deedOf.1.cls zm_D_deedOf.1 zh_D_deedOf = true := by decide +kernel
def zh_D_marksOf : List Nat := [9999, 9999, 1722, 9999, 9999, 9999, 9999, 9999, 9999, 9999, 1702, 9999, 1650, 9999]
theorem zk_D_marksOf : zz_dec zn_D_marksOf.2.1 zm_D_marksOf.1 = true := by decide +kernel
theorem zl_D_marksOf : zz_lks zn_D_marksOf.1.cls zm_D_marksOf.1 zh_D_marksOf = true := by decide +kernel
def zh_D_feed : List Nat := [9999, 9999, 1415, 9999, 1423, 9999, 9999, 9999, 9999, 9999, 9999, 9999, 9999, 9999, 9999, 9999, 9999, 9999, 9999, 9999, 9999, 9999, 9999, 9999, 9999, 9999, 9999, 9999, 9999, 9999, 9999, 9999, 9999, 9999, 9999, 9999, 9999, 9999, 9999, 1422, 9999, 1423, 9999, 9999, 9999, 9999, 9999, 9999, 9999, 9999, 9999, 9999, 9999, 9999, 9999, 9999, 1423, 9999, 9999, 1423, 9999, 9999, 9999, 1423, 9999]
theorem zk_D_feed : zz_dec zn_D_feed.2.1 zm_D_feed.1 = true := by decide +kernel
theorem zl_D_feed : zz_lks zn_D_feed.1.cls zm_D_feed.1 zh_D_feed = true := by decide +kernel
def zh_D_end : List Nat := [9999, 9999, 1415, 9999, 9999, 9999, 1423, 1495, 9999, 9999, 9999, 9999, 9999, 1423, 9999, 9999]
theorem zk_D_end : zz_dec zn_D_end.2.1 zm_D_end.1 = true := by decide +kernel
theorem zl_D_end : zz_lks zn_D_end.1.cls zm_D_end.1 zh_D_end = true := by decide +kernel
def zh_D_letter : List Nat := [9999, 1424, 9999, 9999, 9999, 1422, 9999, 9999, 9999, 9999, 1416, 9999, 1424, 9999, 9999, 9999, 9999]
theorem zk_D_letter : zz_dec zn_D_letter.2.1 zm_D_letter.1 = true := by decide +kernel
theorem zl_D_letter : zz_lks zn_D_letter.1.cls zm_D_letter.1 zh_D_letter = true := by decide +kernel
def zh_D_skip : List Nat := [9999, 1426, 9999, 1425, 9999, 9999, 9999, 1426, 1518, 9999, 9999, 9999, 9999, 1426, 9999, 9999, 1426, 9999, 9999]
theorem zk_D_skip : zz_dec zn_D_skip.2.1 zm_D_skip.1 = true := by decide +kernel
theorem zl_D_skip : zz_lks zn_D_skip.1.cls zm_D_skip.1 zh_D_skip = true := by decide +kernel
def zh_D_isSign : List Nat := [9999, 1514, 9999, 1426, 9999, 1425, 9999, 9999, 9999, 1426, 1518, 9999, 9999, 9999, 9999, 9999, 9999]
theorem zk_D_isSign : zz_dec zn_D_isSign.2.1 zm_D_isSign.1 = true := by decide +kernel
theorem zl_D_isSign : zz_lks zn_D_isSign.1.cls zm_D_isSign.1 zh_D_isSign = true := by decide +kernel
def zh_D_has : List Nat := [9999, 1514, 9999, 1426, 9999, 9999, 9999, 1425, 9999, 9999, 9999, 1518, 9999, 9999, 1495, 9999, 9999, 9999, 9999, 9999, 1426, 9999, 9999, 1535, 9999, 9999, 9999, 9999, 9999, 9999, 9999, 1535, 9999, 9999, 9999, 1426, 9999, 9999, 1518, 9999, 9999, 1536, 9999, 9999, 9999, 9999, 9999, 9999, 9999, 1426, 9999, 9999]
theorem zk_D_has : zz_dec zn_D_has.2.1 zm_D_has.1 = true := by decide +kernel
theorem zl_D_has : zz_lks zn_D_has.1.cls zm_D_has.1 zh_D_has = true := by decide +kernel
def zh_D_wrong : List Nat := [9999, 1427, 9999, 9999, 9999, 9999, 1427, 9999]
theorem zk_D_wrong : zz_dec zn_D_wrong.2.1 zm_D_wrong.1 = true := by decide +kernel
theorem zl_D_wrong : zz_lks zn_D_wrong.1.cls zm_D_wrong.1 zh_D_wrong = true := by decide +kernel
def zh_D_here : List Nat := [9999, 1514, 9999, 1426, 9999]
theorem zk_D_here : zz_dec zn_D_here.2.1 zm_D_here.1 = true := by decide +kernel
theorem zl_D_here : zz_lks zn_D_here.1.cls zm_D_here.1 zh_D_here = true := by decide +kernel
def zh_D_figures : List Nat := [9999, 1427, 9999, 9999, 9999, 9999, 9999, 1543, 9999, 9999, 9999, 9999, 1426, 9999, 1425, 9999, 9999, 9999, 1426, 1518, 9999, 9999, 1495, 9999, 9999, 1426, 9999, 9999, 9999, 9999, 9999, 9999, 9999, 9999, 9999, 1426, 1518, 9999, 9999, 9999, 9999, 9999, 9999, 1426, 9999, 9999, 1426, 9999, 9999, 1426, 9999, 9999, 9999, 1426, 9999, 9999, 9999, 9999, 9999, 9999, 9999, 9999, 9999, 9999, 9999, 9999, 1522, 9999, 9999]
theorem zk_D_figures : zz_dec zn_D_figures.2.1 zm_D_figures.1 = true := by decide +kernel
theorem zl_D_figures : zz_lks zn_D_figures.1.cls zm_D_figures.1 zh_D_figures = true := by decide +kernel
def zh_D_after : List Nat := [9999, 1427, 9999, 9999, 9999, 9999, 1531, 9999, 9999, 9999, 1426, 1522, 9999, 9999, 9999, 1539, 9999]
theorem zk_D_after : zz_dec zn_D_after.2.1 zm_D_after.1 = true := by decide +kernel
theorem zl_D_after : zz_lks zn_D_after.1.cls zm_D_after.1 zh_D_after = true := by decide +kernel
def zh_D_kindLetter : List Nat := [9999, 1427, 9999, 9999, 9999, 9999, 9999, 1543, 9999, 9999, 9999, 1425, 9999, 9999, 9999, 1518, 9999, 9999, 1495, 9999, 9999, 9999, 9999, 9999, 1425, 9999, 9999, 9999, 9999, 9999, 1518, 9999, 9999, 1495, 9999, 9999, 9999, 9999, 9999, 9999, 9999, 9999, 9999, 1522, 9999, 9999, 9999, 9999, 9999, 9999, 1426, 9999, 9999, 1518, 9999, 9999, 9999]
theorem zk_D_kindLetter : zz_dec zn_D_kindLetter.2.1 zm_D_kindLetter.1 = true := by decide +kernel
theorem zl_D_kindLetter : zz_lks zn_D_kindLetter.1.cls zm_D_kindLetter.1 zh_D_kindLetter = true := by decide +kernel
def zh_D_fourMarks : List Nat := [9999, 1427, 9999, 9999, 9999, 9999, 9999, 1543, 9999, 9999, 9999, 9999, 9999, 9999, 9999, 9999, 9999, 9999, 9999, 1425, 9999, 9999, 9999, 9999, 9999, 1518, 9999, 9999, 1495, 9999, 9999, 9999, 9999, 9999, 1518, 9999, 9999, 9999, 9999, 9999, 9999, 9999, 9999, 9999, 9999, 9999, 9999, 9999, 9999, 9999, 9999, 9999, 9999, 9999, 9999, 9999, 9999, 9999, 9999, 9999, 9999, 9999, 9999, 9999, 9999, 9999, 9999, 9999, 9999, 9999, 9999, 1522, 9999, 9999, 9999, 9999, 9999, 9999, 1426, 9999, 9999]
theorem zk_D_fourMarks : zz_dec zn_D_fourMarks.2.1 zm_D_fourMarks.1 = true := by decide +kernel
theorem zl_D_fourMarks : zz_lks zn_D_fourMarks.1.cls zm_D_fourMarks.1 zh_D_fourMarks = true := by decide +kernel
def zh_D_expects : List Nat := [9999, 1427, 9999, 9999, 9999, 9999, 9999, 9999, 1531, 9999, 9999, 9999, 9999, 9999, 1426, 1522, 9999, 9999]
theorem zk_D_expects : zz_dec zn_D_expects.2.1 zm_D_expects.1 = true := by decide +kernel
theorem zl_D_expects : zz_lks zn_D_expects.1.cls zm_D_expects.1 zh_D_expects = true := by decide +kernel
def zh_D_kindLine : List Nat := [9999, 1597, 9999, 9999, 9999, 9999, 1601, 1602, 9999, 9999, 9999, 9999, 9999, 9999, 9999, 9999, 1606, 9999, 9999, 9999, 9999, 9999, 9999, 9999, 9999, 9999, 1427, 9999, 9999, 9999, 1610, 1531, 9999, 9999, 9999, 9999, 1539, 9999, 9999, 9999, 9999, 1427, 9999, 9999, 9999, 1611, 1531, 9999, 9999, 1597, 9999, 9999, 9999, 9999, 1427, 9999, 9999, 9999, 9999, 1416, 9999, 9999, 9999, 9999, 9999, 9999, 9999, 9999, 9999, 9999, 9999, 9999, 9999, 1416, 9999, 9999, 9999, 9999, 9999, 9999, 9999, 9999, 9999, 9999, 9999, 9999, 9999, 1416, 9999, 9999, 9999, 9999, 9999, 9999, 9999, 9999, 9999, 9999]
theorem zk_D_kindLine : zz_dec zn_D_kindLine.2.1 zm_D_kindLine.1 = true := by decide +kernel
theorem zl_D_kindLine : zz_lks zn_D_kindLine.1.cls zm_D_kindLine.1 zh_D_kindLine = true := by decide +kernel
def zh_D_personLine : List Nat := [9999, 1416, 9999, 9999, 9999, 9999, 9999, 9999, 1522, 9999, 1581, 9999, 9999, 1616, 9999, 9999, 1582, 9999, 9999, 1616, 9999, 9999, 1427, 9999, 9999, 9999, 1620, 1531, 9999, 9999, 1597, 9999, 9999, 9999, 9999, 1427, 9999, 9999, 9999, 9999, 1416, 9999, 9999, 9999, 9999, 9999, 9999, 9999, 9999, 9999, 9999, 9999, 9999, 1621, 9999, 9999, 9999, 9999, 9999, 9999, 1621, 9999, 9999, 9999, 9999, 1621, 9999, 9999, 9999, 9999, 1621, 9999, 1416, 9999, 9999, 9999, 9999, 9999, 9999, 9999]
theorem zk_D_personLine : zz_dec zn_D_personLine.2.1 zm_D_personLine.1 = true := by decide +kernel
theorem zl_D_personLine : zz_lks zn_D_personLine.1.cls zm_D_personLine.1 zh_D_personLine = true := by decide +kernel
def zh_D_tells : List Nat := [9999, 9999, 9999, 1539, 9999, 9999, 1427, 9999, 9999, 9999, 1416, 9999, 9999, 9999, 9999]
theorem zk_D_tells : zz_dec zn_D_tells.2.1 zm_D_tells.1 = true := by decide +kernel
theorem zl_D_tells : zz_lks zn_D_tells.1.cls zm_D_tells.1 zh_D_tells = true := by decide +kernel
def zh_D_shopLine : List Nat := [9999, 1543, 9999, 9999, 1580, 1531, 9999, 9999, 1593, 9999, 9999, 1579, 1531, 9999, 9999, 9999, 1612, 9999, 9999, 1625, 1531, 9999, 9999, 9999, 9999, 9999, 1626, 9999, 9999, 1630, 1531, 9999, 9999, 9999, 9999, 9999, 1626, 9999, 9999, 1586, 1531, 9999, 9999, 9999, 9999, 9999, 1626, 9999, 9999, 9999, 1426, 1522, 9999]
theorem zk_D_shopLine : zz_dec zn_D_shopLine.2.1 zm_D_shopLine.1 = true := by decide +kernel
theorem zl_D_shopLine : zz_lks zn_D_shopLine.1.cls zm_D_shopLine.1 zh_D_shopLine = true := by decide +kernel
def zh_D_begins : List Nat := [9999, 9999, 1427, 9999, 9999, 1424, 9999, 9999, 1423, 1425, 9999, 9999, 1423, 9999, 9999, 1426, 9999, 9999, 1428, 9999]
theorem zk_D_begins : zz_dec zn_D_begins.2.1 zm_D_begins.1 = true := by decide +kernel
theorem zl_D_begins : zz_lks zn_D_begins.1.cls zm_D_begins.1 zh_D_begins = true := by decide +kernel
def zh_D_read : List Nat := [9999, 1514, 9999, 1426, 9999, 1425, 9999, 9999, 9999, 9999, 9999, 9999, 9999, 9999, 9999, 9999, 1427, 9999, 9999, 9999, 1514, 9999, 9999, 9999, 9999, 9999, 9999, 9999, 9999, 9999, 1426, 1522, 9999, 9999, 9999, 9999, 1526, 9999, 9999, 1589, 9999, 9999, 1514, 9999, 1427, 9999, 9999, 9999, 1426, 9999, 1425, 9999, 9999, 9999, 9999, 9999, 9999, 1561, 9999, 9999, 9999, 1426, 9999, 9999, 1426, 9999, 9999, 9999, 1426, 1522, 9999, 9999, 9999]
theorem zk_D_read : zz_dec zn_D_read.2.1 zm_D_read.1 = true := by decide +kernel
theorem zl_D_read : zz_lks zn_D_read.1.cls zm_D_read.1 zh_D_read = true := by decide +kernel
