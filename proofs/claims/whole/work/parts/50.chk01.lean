def zh_S_addPerson : List Nat := [9999, 187, 9999, 9999, 9999, 9999, 169, 9999, 187, 9999, 9999, 9999, 172, 9999, 187, 9999, 9999, 9999, 175, 9999, 187, 9999, 9999, 9999, 178, 9999, 187, 9999, 9999, 9999, 181, 9999, 187, 9999, 9999, 9999, 184, 9999, 187, 9999, 9999, 9999, 9999, 187, 9999, 9999, 187, 9999]
theorem zk_S_addPerson : zz_dec zn_S_addPerson.2.1 zm_S_addPerson.1 = true := by decide +kernel
theorem zl_S_addPerson : zz_lks zn_S_addPerson.1.cls zm_S_addPerson.1 zh_S_addPerson = true := by decide +kernel
def zh_S_isPlain : List Nat := [9999, 169, 9999, 9999, 9999, 9999, 169, 9999, 9999, 9999, 9999, 9999, 9999, 9999, 9999]
theorem zk_S_isPlain : zz_dec zn_S_isPlain.2.1 zm_S_isPlain.1 = true := by decide +kernel
theorem zl_S_isPlain : zz_lks zn_S_isPlain.1.cls zm_S_isPlain.1 zh_S_isPlain = true := by decide +kernel
def zh_S_marksOf : List Nat := [9999, 9999, 420, 9999, 9999, 9999, 9999, 156, 9999, 169, 9999, 9999, 9999, 9999]
theorem zk_S_marksOf : zz_dec zn_S_marksOf.2.1 zm_S_marksOf.1 = true := by decide +kernel
theorem zl_S_marksOf : zz_lks zn_S_marksOf.1.cls zm_S_marksOf.1 zh_S_marksOf = true := by decide +kernel
def zh_S_deedBitOf : List Nat := [9999, 9999, 420, 9999, 9999, 9999, 9999, 9999, 160, 9999, 169, 9999, 9999, 9999, 9999, 9999]
theorem zk_S_deedBitOf : zz_dec zn_S_deedBitOf.2.1 zm_S_deedBitOf.1 = true := by decide +kernel
theorem zl_S_deedBitOf : zz_lks zn_S_deedBitOf.1.cls zm_S_deedBitOf.1 zh_S_deedBitOf = true := by decide +kernel
def zh_S_hasDoneItsDeed : List Nat := [9999, 181, 9999, 9999, 9999, 9999, 416, 9999, 9999, 9999, 9999, 9999, 9999]
theorem zk_S_hasDoneItsDeed : zz_dec zn_S_hasDoneItsDeed.2.1 zm_S_hasDoneItsDeed.1 = true := by decide +kernel
theorem zl_S_hasDoneItsDeed : zz_lks zn_S_hasDoneItsDeed.1.cls zm_S_hasDoneItsDeed.1 zh_S_hasDoneItsDeed = true := by decide +kernel
def zh_S_awaitsDeed : List Nat := [9999, 9999, 420, 9999, 9999, 9999, 993, 9999, 9999, 9999, 9999, 9999]
theorem zk_S_awaitsDeed : zz_dec zn_S_awaitsDeed.2.1 zm_S_awaitsDeed.1 = true := by decide +kernel
theorem zl_S_awaitsDeed : zz_lks zn_S_awaitsDeed.1.cls zm_S_awaitsDeed.1 zh_S_awaitsDeed = true := by decide +kernel
def zh_S_deedsHad : List Nat := [9999, 181, 9999, 9999, 9999, 9999, 416, 9999, 9999]
theorem zk_S_deedsHad : zz_dec zn_S_deedsHad.2.1 zm_S_deedsHad.1 = true := by decide +kernel
theorem zl_S_deedsHad : zz_lks zn_S_deedsHad.1.cls zm_S_deedsHad.1 zh_S_deedsHad = true := by decide +kernel
def zh_S_isFound : List Nat := [9999, 9999, 452, 9999, 172, 9999, 9999, 9999, 9999, 9999, 9999, 9999, 9999, 9999, 9999]
theorem zk_S_isFound : zz_dec zn_S_isFound.2.1 zm_S_isFound.1 = true := by decide +kernel
theorem zl_S_isFound : zz_lks zn_S_isFound.1.cls zm_S_isFound.1 zh_S_isFound = true := by decide +kernel
def zh_S_everybody : List Nat := [9999, 9999, 187, 9999, 9999, 9999, 9999]
theorem zk_S_everybody : zz_dec zn_S_everybody.2.1 zm_S_everybody.1 = true := by decide +kernel
theorem zl_S_everybody : zz_lks zn_S_everybody.1.cls zm_S_everybody.1 zh_S_everybody = true := by decide +kernel
def zh_S_plainOnes : List Nat := [9999, 9999, 9999, 9999, 9999, 9999, 187, 9999, 9999, 9999, 420, 9999, 9999, 9999, 9999, 9999, 9999, 9999, 9999, 9999, 9999, 9999]
theorem zk_S_plainOnes : zz_dec zn_S_plainOnes.2.1 zm_S_plainOnes.1 = true := by decide +kernel
theorem zl_S_plainOnes : zz_lks zn_S_plainOnes.1.cls zm_S_plainOnes.1 zh_S_plainOnes = true := by decide +kernel
def zh_S_bearers : List Nat := [9999, 9999, 9999, 9999, 9999, 9999, 187, 9999, 9999, 169, 9999, 9999, 9999, 9999, 9999, 9999, 9999, 9999, 9999, 9999, 9999, 9999, 9999, 9999]
theorem zk_S_bearers : zz_dec zn_S_bearers.2.1 zm_S_bearers.1 = true := by decide +kernel
theorem zl_S_bearers : zz_lks zn_S_bearers.1.cls zm_S_bearers.1 zh_S_bearers = true := by decide +kernel
def zh_S_toldByGroup : List Nat := [9999, 9999, 9999, 9999, 9999, 9999, 187, 9999, 9999, 9999, 9999, 9999, 9999, 9999, 9999, 9999, 9999, 416, 9999, 9999, 9999, 9999, 9999, 9999]
theorem zk_S_toldByGroup : zz_dec zn_S_toldByGroup.2.1 zm_S_toldByGroup.1 = true := by decide +kernel
theorem zl_S_toldByGroup : zz_lks zn_S_toldByGroup.1.cls zm_S_toldByGroup.1 zh_S_toldByGroup = true := by decide +kernel
def zh_S_deedsOfKinds : List Nat := [9999, 9999, 9999, 9999, 9999, 9999, 9999, 9999, 9999, 9999, 9999, 9999, 9999, 9999, 9999, 9999, 160, 9999, 9999, 9999, 9999, 9999, 9999, 9999, 9999, 9999]
theorem zk_S_deedsOfKinds : zz_dec zn_S_deedsOfKinds.2.1 zm_S_deedsOfKinds.1 = true := by decide +kernel
theorem zl_S_deedsOfKinds : zz_lks zn_S_deedsOfKinds.1.cls zm_S_deedsOfKinds.1 zh_S_deedsOfKinds = true := by decide +kernel
def zh_S_kindsLike : List Nat := [9999, 9999, 9999, 9999, 9999, 9999, 9999, 9999, 156, 9999, 9999, 9999, 156, 9999, 9999, 9999, 9999, 9999, 9999, 9999, 9999, 9999, 9999, 9999, 9999, 9999, 9999, 9999, 9999]
theorem zk_S_kindsLike : zz_dec zn_S_kindsLike.2.1 zm_S_kindsLike.1 = true := by decide +kernel
theorem zl_S_kindsLike : zz_lks zn_S_kindsLike.1.cls zm_S_kindsLike.1 zh_S_kindsLike = true := by decide +kernel
def zh_S_fits : List Nat := [9999, 9999, 420, 9999, 9999, 9999, 9999, 9999, 169, 9999, 9999, 9999, 172, 9999, 9999, 964, 9999]
theorem zk_S_fits : zz_dec zn_S_fits.2.1 zm_S_fits.1 = true := by decide +kernel
theorem zl_S_fits : zz_lks zn_S_fits.1.cls zm_S_fits.1 zh_S_fits = true := by decide +kernel
def zh_S_fates : List Nat := [9999, 9999, 9999, 969, 1003, 9999]
theorem zk_S_fates : zz_dec zn_S_fates.2.1 zm_S_fates.1 = true := by decide +kernel
theorem zl_S_fates : zz_lks zn_S_fates.1.cls zm_S_fates.1 zh_S_fates = true := by decide +kernel
def zh_S_thumb : List Nat := [9999, 9999, 969, 9999, 9999, 521, 9999, 9999, 9999, 9999, 9999, 9999, 9999, 9999, 9999, 9999, 9999, 9999, 9999, 9999, 9999, 9999, 9999, 9999, 9999, 9999, 970, 9999, 521, 9999, 9999, 9999, 9999, 9999, 971, 9999, 9999, 172, 9999, 9999, 9999, 9999, 9999, 9999, 9999, 9999, 9999, 9999, 9999, 9999, 9999, 9999, 9999, 9999, 9999, 9999]
theorem zk_S_thumb : zz_dec zn_S_thumb.2.1 zm_S_thumb.1 = true := by decide +kernel
theorem zl_S_thumb : zz_lks zn_S_thumb.1.cls zm_S_thumb.1 zh_S_thumb = true := by decide +kernel
def zh_S_kindsMarkedAt : List Nat := [9999, 9999, 9999, 9999, 9999, 9999, 9999, 9999, 9999, 156, 9999, 9999, 9999, 9999, 9999, 9999, 9999, 9999, 9999, 9999, 9999, 9999, 9999, 9999]
theorem zk_S_kindsMarkedAt : zz_dec zn_S_kindsMarkedAt.2.1 zm_S_kindsMarkedAt.1 = true := by decide +kernel
theorem zl_S_kindsMarkedAt : zz_lks zn_S_kindsMarkedAt.1.cls zm_S_kindsMarkedAt.1 zh_S_kindsMarkedAt = true := by decide +kernel
def zh_S_share : List Nat := [9999, 1008, 9999, 9999, 9999, 9999, 9999, 9999, 184, 9999, 9999, 9999, 9999, 9999, 9999, 9999]
theorem zk_S_share : zz_dec zn_S_share.2.1 zm_S_share.1 = true := by decide +kernel
theorem zl_S_share : zz_lks zn_S_share.1.cls zm_S_share.1 zh_S_share = true := by decide +kernel
def zh_S_fameOfAll : List Nat := [9999, 9999, 9999, 9999, 9999, 9999, 187, 9999, 9999, 9999, 184, 9999, 9999, 9999, 9999, 9999, 9999, 9999, 9999]
theorem zk_S_fameOfAll : zz_dec zn_S_fameOfAll.2.1 zm_S_fameOfAll.1 = true := by decide +kernel
theorem zl_S_fameOfAll : zz_lks zn_S_fameOfAll.1.cls zm_S_fameOfAll.1 zh_S_fameOfAll = true := by decide +kernel
def zh_S_deedsOfAll : List Nat := [9999, 9999, 181, 517, 9999]
theorem zk_S_deedsOfAll : zz_dec zn_S_deedsOfAll.2.1 zm_S_deedsOfAll.1 = true := by decide +kernel
theorem zl_S_deedsOfAll : zz_lks zn_S_deedsOfAll.1.cls zm_S_deedsOfAll.1 zh_S_deedsOfAll = true := by decide +kernel
def zh_S_rubbedOfAll : List Nat := [9999, 9999, 172, 517, 9999]
theorem zk_S_rubbedOfAll : zz_dec zn_S_rubbedOfAll.2.1 zm_S_rubbedOfAll.1 = true := by decide +kernel
theorem zl_S_rubbedOfAll : zz_lks zn_S_rubbedOfAll.1.cls zm_S_rubbedOfAll.1 zh_S_rubbedOfAll = true := by decide +kernel
def zh_S_membersOfAll : List Nat := [9999, 9999, 9999, 9999, 9999, 9999, 187, 9999, 9999, 9999, 9999, 9999, 9999, 9999, 9999, 9999, 521, 9999, 9999, 9999, 9999, 9999, 9999]
theorem zk_S_membersOfAll : zz_dec zn_S_membersOfAll.2.1 zm_S_membersOfAll.1 = true := by decide +kernel
theorem zl_S_membersOfAll : zz_lks zn_S_membersOfAll.1.cls zm_S_membersOfAll.1 zh_S_membersOfAll = true := by decide +kernel
def zh_S_dockerGain : List Nat := [9999, 9999, 9999, 178, 9999, 9999, 9999, 9999, 9999, 9999, 9999, 9999, 9999]
theorem zk_S_dockerGain : zz_dec zn_S_dockerGain.2.1 zm_S_dockerGain.1 = true := by decide +kernel
theorem zl_S_dockerGain : zz_lks zn_S_dockerGain.1.cls zm_S_dockerGain.1 zh_S_dockerGain = true := by decide +kernel
def zh_S_needleGain : List Nat := [9999, 9999, 9999, 9999, 9999, 184, 9999, 9999, 9999, 9999, 9999, 9999, 9999, 9999, 9999, 9999]
theorem zk_S_needleGain : zz_dec zn_S_needleGain.2.1 zm_S_needleGain.1 = true := by decide +kernel
theorem zl_S_needleGain : zz_lks zn_S_needleGain.1.cls zm_S_needleGain.1 zh_S_needleGain = true := by decide +kernel
def zh_S_addRow : List Nat := [9999, 207, 9999, 9999, 207, 9999, 9999, 9999, 9999, 186, 9999, 207, 9999, 194, 9999, 9999, 9999, 9999, 9999, 9999, 9999, 9999, 9999, 9999, 9999, 9999, 9999, 9999, 9999, 207, 9999, 9999, 9999, 9999, 207, 9999, 9999, 205, 9999, 9999, 9999, 988, 205, 9999]
theorem zk_S_addRow : zz_dec zn_S_addRow.2.1 zm_S_addRow.1 = true := by decide +kernel
theorem zl_S_addRow : zz_lks zn_S_addRow.1.cls zm_S_addRow.1 zh_S_addRow = true := by decide +kernel
def zh_S_rowPart : List Nat := [9999, 9999, 9999, 9999, 205, 9999, 9999, 9999, 9999, 207, 9999, 9999, 9999, 9999, 9999, 9999, 9999, 9999, 9999, 9999, 9999, 9999, 9999, 9999, 9999, 9999, 186, 9999, 9999, 9999, 9999, 9999, 9999, 186, 9999, 9999, 9999, 9999, 9999, 9999, 9999, 9999, 186, 9999, 9999, 9999, 9999, 9999, 9999, 9999, 9999, 186, 9999, 9999, 9999, 9999, 9999]
theorem zk_S_rowPart : zz_dec zn_S_rowPart.2.1 zm_S_rowPart.1 = true := by decide +kernel
theorem zl_S_rowPart : zz_lks zn_S_rowPart.1.cls zm_S_rowPart.1 zh_S_rowPart = true := by decide +kernel
def zh_S_draw : List Nat := [9999, 1046, 9999, 201, 9999, 9999, 9999, 201, 9999, 201, 9999, 9999, 9999, 9999, 9999]
theorem zk_S_draw : zz_dec zn_S_draw.2.1 zm_S_draw.1 = true := by decide +kernel
theorem zl_S_draw : zz_lks zn_S_draw.1.cls zm_S_draw.1 zh_S_draw = true := by decide +kernel
def zh_S_passYear : List Nat := [9999, 984, 9999, 9999, 9999, 9999, 9999, 9999, 187, 9999, 9999, 9999, 989, 9999, 9999, 1042, 9999, 9999, 9999, 9999, 9999, 994, 9999, 9999, 9999, 9999, 9999, 9999, 1047, 1051, 9999, 9999, 9999, 9999, 9999, 9999, 9999, 187, 9999, 9999, 1042, 9999, 9999, 9999, 191, 9999, 9999, 9999, 9999, 1042, 9999, 9999, 1059, 9999, 9999, 9999, 995, 9999, 9999]
theorem zk_S_passYear : zz_dec zn_S_passYear.2.1 zm_S_passYear.1 = true := by decide +kernel
theorem zl_S_passYear : zz_lks zn_S_passYear.1.cls zm_S_passYear.1 zh_S_passYear = true := by decide +kernel
def zh_S_passYearAhead : List Nat := [9999, 984, 9999, 9999, 9999, 9999, 187, 9999, 9999, 9999, 989, 9999, 9999, 9999, 9999, 994, 9999, 9999, 9999, 181, 9999, 9999, 9999, 9999, 9999, 416, 9999, 9999, 9999, 9999, 9999, 995, 9999]
theorem zk_S_passYearAhead : zz_dec zn_S_passYearAhead.2.1 zm_S_passYearAhead.1 = true := by decide +kernel
theorem zl_S_passYearAhead : zz_lks zn_S_passYearAhead.1.cls zm_S_passYearAhead.1 zh_S_passYearAhead = true := by decide +kernel
def zh_S_growOld : List Nat := [9999, 9999, 9999, 9999, 187, 9999, 9999, 175, 9999, 9999, 175, 9999, 9999, 9999, 9999, 9999, 988, 9999, 9999, 9999, 9999]
theorem zk_S_growOld : zz_dec zn_S_growOld.2.1 zm_S_growOld.1 = true := by decide +kernel
theorem zl_S_growOld : zz_lks zn_S_growOld.1.cls zm_S_growOld.1 zh_S_growOld = true := by decide +kernel
def zh_S_endYear : List Nat := [9999, 9999, 194, 9999, 9999, 9999, 988, 194, 9999]
theorem zk_S_endYear : zz_dec zn_S_endYear.2.1 zm_S_endYear.1 = true := by decide +kernel
theorem zl_S_endYear : zz_lks zn_S_endYear.1.cls zm_S_endYear.1 zh_S_endYear = true := by decide +kernel
def zh_S_bringDeed : List Nat := [9999, 9999, 420, 9999, 9999, 9999, 160, 9999, 169, 9999, 9999, 9999, 9999, 9999, 184, 9999, 9999, 184, 9999, 9999, 9999, 9999, 9999, 988, 9999, 9999, 181, 9999, 9999, 9999, 9999, 9999, 9999, 9999, 9999, 9999, 9999, 9999, 9999, 1055, 9999]
theorem zk_S_bringDeed : zz_dec zn_S_bringDeed.2.1 zm_S_bringDeed.1 = true := by decide +kernel
theorem zl_S_bringDeed : zz_lks zn_S_bringDeed.1.cls zm_S_bringDeed.1 zh_S_bringDeed = true := by decide +kernel
def zh_S_shakeOver : List Nat := [9999, 9999, 9999, 9999, 9999, 172, 9999, 9999, 9999, 9999, 9999, 9999, 172, 9999, 9999, 9999, 9999, 9999, 9999, 9999, 9999, 9999, 9999, 1055, 9999]
theorem zk_S_shakeOver : zz_dec zn_S_shakeOver.2.1 zm_S_shakeOver.1 = true := by decide +kernel
theorem zl_S_shakeOver : zz_lks zn_S_shakeOver.1.cls zm_S_shakeOver.1 zh_S_shakeOver = true := by decide +kernel
def zh_L_init : List Nat := [9999, 250, 9999, 9999, 251, 9999, 9999, 9999, 254, 9999, 9999, 9999, 255, 9999, 9999, 9999, 256, 9999, 9999, 9999, 257, 9999, 9999, 9999, 258, 9999, 9999, 9999, 259, 9999]
theorem zk_L_init : zz_dec zn_L_init.2.1 zm_L_init.1 = true := by decide +kernel
theorem zl_L_init : zz_lks zn_L_init.1.cls zm_L_init.1 zh_L_init = true := by decide +kernel
def zh_L_copyFrom : List Nat := [9999, 9999, 251, 251, 9999, 9999, 253, 253, 9999, 254, 9999, 9999, 254, 9999, 9999, 500, 9999, 255, 9999, 9999, 255, 9999, 9999, 500, 9999, 256, 9999, 9999, 256, 9999, 9999, 500, 9999, 257, 9999, 9999, 257, 9999, 9999, 500, 9999]
theorem zk_L_copyFrom : zz_dec zn_L_copyFrom.2.1 zm_L_copyFrom.1 = true := by decide +kernel
theorem zl_L_copyFrom : zz_lks zn_L_copyFrom.1.cls zm_L_copyFrom.1 zh_L_copyFrom = true := by decide +kernel
def zh_L_clear : List Nat := [9999, 9999, 251, 9999, 9999, 253, 9999]
theorem zk_L_clear : zz_dec zn_L_clear.2.1 zm_L_clear.1 = true := by decide +kernel
theorem zl_L_clear : zz_lks zn_L_clear.1.cls zm_L_clear.1 zh_L_clear = true := by decide +kernel
def zh_L_addStep : List Nat := [9999, 253, 9999, 9999, 9999, 257, 9999, 253, 9999, 9999, 9999, 9999, 253, 9999, 9999, 253, 9999]
theorem zk_L_addStep : zz_dec zn_L_addStep.2.1 zm_L_addStep.1 = true := by decide +kernel
theorem zl_L_addStep : zz_lks zn_L_addStep.1.cls zm_L_addStep.1 zh_L_addStep = true := by decide +kernel
def zh_L_addLine : List Nat := [9999, 251, 9999, 9999, 251, 9999, 9999, 9999, 254, 9999, 251, 9999, 9999, 9999, 255, 9999, 251, 9999, 9999, 9999, 256, 9999, 251, 9999, 253, 9999, 9999, 9999, 251, 9999, 9999, 251, 9999]
theorem zk_L_addLine : zz_dec zn_L_addLine.2.1 zm_L_addLine.1 = true := by decide +kernel
theorem zl_L_addLine : zz_lks zn_L_addLine.1.cls zm_L_addLine.1 zh_L_addLine = true := by decide +kernel
def zh_L_comes : List Nat := [9999, 9999, 936, 9999, 9999, 9999, 9999, 9999, 9999, 937, 9999, 176, 9999, 9999, 9999, 9999, 9999, 179, 9999, 9999, 9999, 9999, 9999, 943, 9999, 9999, 9999, 943, 9999, 9999, 9999, 9999, 9999, 958, 959, 9999]
theorem zk_L_comes : zz_dec zn_L_comes.2.1 zm_L_comes.1 = true := by decide +kernel
theorem zl_L_comes : zz_lks zn_L_comes.1.cls zm_L_comes.1 zh_L_comes = true := by decide +kernel
def zh_L_makesKnown : List Nat := [9999, 9999, 9999, 937, 9999, 9999, 9999, 943, 9999, 9999]
theorem zk_L_makesKnown : zz_dec zn_L_makesKnown.2.1 zm_L_makesKnown.1 = true := by decide +kernel
theorem zl_L_makesKnown : zz_lks zn_L_makesKnown.1.cls zm_L_makesKnown.1 zh_L_makesKnown = true := by decide +kernel
def zh_L_learn : List Nat := [9999, 170, 9999, 9999, 9999, 9999, 173, 9999, 9999, 9999, 9999, 9999, 9999, 9999, 9999, 9999, 9999, 258, 9999, 9999, 9999, 9999, 258, 9999, 9999, 9999, 9999, 258, 9999, 9999, 176, 9999, 9999, 9999, 9999, 258, 9999, 9999, 179, 9999, 9999, 9999, 9999, 258, 9999, 9999, 182, 9999, 9999, 941, 9999, 9999, 258, 9999, 9999, 941, 9999, 9999, 258, 9999, 9999, 164, 9999, 9999, 9999, 9999, 258, 9999, 9999, 196, 9999, 9999, 9999, 9999, 258, 9999, 9999, 159, 9999, 9999, 9999, 9999, 9999, 9999, 9999, 9999, 9999, 9999, 9999, 9999, 258, 9999, 9999, 9999, 9999, 942, 9999, 9999, 9999, 9999, 9999, 9999, 9999, 9999, 9999]
theorem zk_L_learn : zz_dec zn_L_learn.2.1 zm_L_learn.1 = true := by decide +kernel
theorem zl_L_learn : zz_lks zn_L_learn.1.cls zm_L_learn.1 zh_L_learn = true := by decide +kernel
def zh_L_total : List Nat := [9999, 9999, 9999, 9999, 9999, 9999, 9999, 9999, 251, 9999, 9999, 254, 9999, 9999, 9999, 9999, 9999, 9999, 9999, 256, 9999, 9999, 947, 9999, 9999, 9999, 255, 9999, 9999, 9999, 9999, 9999, 256, 9999, 9999, 9999, 9999, 9999, 9999, 9999]
theorem zk_L_total : zz_dec zn_L_total.2.1 zm_L_total.1 = true := by decide +kernel
theorem zl_L_total : zz_lks zn_L_total.1.cls zm_L_total.1 zh_L_total = true := by decide +kernel
def zh_L_applies : List Nat := [9999, 9999, 9999, 9999, 9999, 9999, 9999, 9999, 9999, 257, 9999, 9999, 9999, 951, 9999, 9999, 9999, 9999, 9999, 9999, 259, 9999, 9999, 9999, 9999, 9999, 9999, 9999]
theorem zk_L_applies : zz_dec zn_L_applies.2.1 zm_L_applies.1 = true := by decide +kernel
theorem zl_L_applies : zz_lks zn_L_applies.1.cls zm_L_applies.1 zh_L_applies = true := by decide +kernel
def zh_L_take : List Nat := [9999, 9999, 9999, 9999, 9999, 9999, 9999, 9999, 9999, 9999, 9999, 9999, 9999, 9999, 259, 9999, 9999, 9999, 9999, 9999, 9999, 9999, 9999, 9999, 258, 9999, 9999, 9999, 9999, 9999, 9999, 9999, 9999, 9999, 9999, 9999, 9999, 9999, 9999, 259, 9999, 9999, 9999, 9999, 9999, 259, 9999, 9999, 9999, 9999, 9999, 9999, 9999, 9999, 9999, 9999, 9999, 9999, 9999, 9999, 259, 9999, 9999, 9999, 9999, 9999, 259, 9999, 9999, 9999, 9999, 9999, 259, 9999, 9999, 9999, 9999, 955, 9999, 9999, 9999, 9999, 9999]
theorem zk_L_take : zz_dec zn_L_take.2.1 zm_L_take.1 = true := by decide +kernel
theorem zl_L_take : zz_lks zn_L_take.1.cls zm_L_take.1 zh_L_take = true := by decide +kernel
