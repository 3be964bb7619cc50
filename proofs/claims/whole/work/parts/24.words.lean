set_option maxRecDepth 100000 in
theorem zw_jm_max : [365, 98, 364].map zz_lk = zz_mw zn_jm_max := rfl
set_option maxRecDepth 100000 in
theorem zw_jm_min : [362, 98, 361].map zz_lk = zz_mw zn_jm_min := rfl
set_option maxRecDepth 100000 in
theorem zw_ji_bitCount : [408, 113, 407].map zz_lk = zz_mw zn_ji_bitCount := rfl
set_option maxRecDepth 100000 in
theorem zw_jl_bitCount : [1225, 118, 1224].map zz_lk = zz_mw zn_jl_bitCount := rfl
set_option maxRecDepth 100000 in
theorem zw_F_pieces : [878, 112, 877].map zz_lk = zz_mw zn_F_pieces := rfl
set_option maxRecDepth 100000 in
theorem zw_F_largestPiece : [889, 112, 888].map zz_lk = zz_mw zn_F_largestPiece := rfl
set_option maxRecDepth 100000 in
theorem zw_F_holes : [894, 112, 893].map zz_lk = zz_mw zn_F_holes := rfl
set_option maxRecDepth 100000 in
theorem zw_F_steps : [1162, 112, 1161].map zz_lk = zz_mw zn_F_steps := rfl
set_option maxRecDepth 100000 in
theorem zw_F_quarterTurns : [1172, 112, 1171].map zz_lk = zz_mw zn_F_quarterTurns := rfl
set_option maxRecDepth 100000 in
theorem zw_F_bestShift : [1185, 112, 1184].map zz_lk = zz_mw zn_F_bestShift := rfl
set_option maxRecDepth 100000 in
theorem zw_F_lyingOn : [1188, 112, 1187].map zz_lk = zz_mw zn_F_lyingOn := rfl
set_option maxRecDepth 100000 in
theorem zw_F_turnedOnce : [1175, 112, 1174].map zz_lk = zz_mw zn_F_turnedOnce := rfl
set_option maxRecDepth 100000 in
theorem zw_F_spread : [881, 112, 880].map zz_lk = zz_mw zn_F_spread := rfl
set_option maxRecDepth 100000 in
theorem zw_F_grown : [884, 112, 883].map zz_lk = zz_mw zn_F_grown := rfl
set_option maxRecDepth 100000 in
theorem zw_E_allWithin : [899, 114, 898].map zz_lk = zz_mw zn_E_allWithin := rfl
set_option maxRecDepth 100000 in
theorem zw_E_depth : [379, 114, 378].map zz_lk = zz_mw zn_E_depth := rfl
set_option maxRecDepth 100000 in
theorem zw_E_comesBack : [1199, 114, 1198].map zz_lk = zz_mw zn_E_comesBack := rfl
set_option maxRecDepth 100000 in
theorem zw_E_deepestKind : [376, 114, 375].map zz_lk = zz_mw zn_E_deepestKind := rfl
set_option maxRecDepth 100000 in
theorem zw_T_init : [131, 92, 130].map zz_lk = zz_mw zn_T_init := rfl
set_option maxRecDepth 100000 in
theorem zw_T_size : [347, 92, 345, 346].map zz_lk = zz_mw zn_T_size := rfl
set_option maxRecDepth 100000 in
theorem zw_T_put : [351, 92, 349, 350].map zz_lk = zz_mw zn_T_put := rfl
set_option maxRecDepth 100000 in
theorem zw_T_cut : [359, 92, 357, 358].map zz_lk = zz_mw zn_T_cut := rfl
set_option maxRecDepth 100000 in
theorem zw_T_useUp : [550, 92, 548, 549].map zz_lk = zz_mw zn_T_useUp := rfl
set_option maxRecDepth 100000 in
theorem zw_T_byteAt : [1217, 92, 1215, 1216].map zz_lk = zz_mw zn_T_byteAt := rfl
set_option maxRecDepth 100000 in
theorem zw_T_open : [546, 92, 544, 545].map zz_lk = zz_mw zn_T_open := rfl
set_option maxRecDepth 100000 in
theorem zw_T_wrongByte : [671, 92, 669, 670].map zz_lk = zz_mw zn_T_wrongByte := rfl
set_option maxRecDepth 100000 in
theorem zw_T_fail : [569, 92, 567, 568].map zz_lk = zz_mw zn_T_fail := rfl
set_option maxRecDepth 100000 in
theorem zw_T_takeSign : [565, 92, 563, 564].map zz_lk = zz_mw zn_T_takeSign := rfl
set_option maxRecDepth 100000 in
theorem zw_T_needSign : [801, 92, 799, 800].map zz_lk = zz_mw zn_T_needSign := rfl
set_option maxRecDepth 100000 in
theorem zw_T_takeLine : [561, 92, 559, 560].map zz_lk = zz_mw zn_T_takeLine := rfl
set_option maxRecDepth 100000 in
theorem zw_T_takeWord : [577, 92, 575, 576].map zz_lk = zz_mw zn_T_takeWord := rfl
set_option maxRecDepth 100000 in
theorem zw_T_needWord : [641, 92, 639, 640].map zz_lk = zz_mw zn_T_needWord := rfl
set_option maxRecDepth 100000 in
theorem zw_T_atNumber : [813, 92, 811, 812].map zz_lk = zz_mw zn_T_atNumber := rfl
set_option maxRecDepth 100000 in
theorem zw_T_takeNumber : [651, 92, 649, 650].map zz_lk = zz_mw zn_T_takeNumber := rfl
set_option maxRecDepth 100000 in
theorem zw_T_takeKind : [636, 92, 634, 635].map zz_lk = zz_mw zn_T_takeKind := rfl
set_option maxRecDepth 100000 in
theorem zw_T_takeFigures : [646, 92, 644, 645].map zz_lk = zz_mw zn_T_takeFigures := rfl
set_option maxRecDepth 100000 in
theorem zw_T_runEnd : [581, 92, 580, 2].map zz_lk = zz_mw zn_T_runEnd := rfl
set_option maxRecDepth 100000 in
theorem zw_T_moveTo : [554, 92, 553, 1].map zz_lk = zz_mw zn_T_moveTo := rfl
set_option maxRecDepth 100000 in
theorem zw_U_narrowed : [390, 117, 389].map zz_lk = zz_mw zn_U_narrowed := rfl
set_option maxRecDepth 100000 in
theorem zw_U_fittingRows : [1221, 117, 1220].map zz_lk = zz_mw zn_U_fittingRows := rfl
set_option maxRecDepth 100000 in
theorem zw_U_fittingKinds : [386, 117, 385].map zz_lk = zz_mw zn_U_fittingKinds := rfl
set_option maxRecDepth 100000 in
theorem zw_U_first : [393, 117, 392].map zz_lk = zz_mw zn_U_first := rfl
set_option maxRecDepth 100000 in
theorem zw_U_bestQuestion : [1238, 117, 1237].map zz_lk = zz_mw zn_U_bestQuestion := rfl
set_option maxRecDepth 100000 in
theorem zw_U_greatestPart : [1242, 117, 1241].map zz_lk = zz_mw zn_U_greatestPart := rfl
set_option maxRecDepth 100000 in
theorem zw_S_init : [154, 93, 153].map zz_lk = zz_mw zn_S_init := rfl
set_option maxRecDepth 100000 in
theorem zw_S_copyFrom : [487, 93, 485, 486].map zz_lk = zz_mw zn_S_copyFrom := rfl
set_option maxRecDepth 100000 in
theorem zw_S_addPerson : [663, 93, 661, 662].map zz_lk = zz_mw zn_S_addPerson := rfl
set_option maxRecDepth 100000 in
theorem zw_S_isPlain : [423, 93, 421, 422].map zz_lk = zz_mw zn_S_isPlain := rfl
set_option maxRecDepth 100000 in
theorem zw_S_marksOf : [455, 93, 453, 454].map zz_lk = zz_mw zn_S_marksOf := rfl
set_option maxRecDepth 100000 in
theorem zw_S_deedBitOf : [419, 93, 417, 418].map zz_lk = zz_mw zn_S_deedBitOf := rfl
set_option maxRecDepth 100000 in
theorem zw_S_hasDoneItsDeed : [979, 93, 977, 978].map zz_lk = zz_mw zn_S_hasDoneItsDeed := rfl
set_option maxRecDepth 100000 in
theorem zw_S_awaitsDeed : [992, 93, 990, 991].map zz_lk = zz_mw zn_S_awaitsDeed := rfl
set_option maxRecDepth 100000 in
theorem zw_S_deedsHad : [1268, 93, 1266, 1267].map zz_lk = zz_mw zn_S_deedsHad := rfl
set_option maxRecDepth 100000 in
theorem zw_S_isFound : [451, 93, 449, 450].map zz_lk = zz_mw zn_S_isFound := rfl
set_option maxRecDepth 100000 in
theorem zw_S_everybody : [405, 93, 403, 404].map zz_lk = zz_mw zn_S_everybody := rfl
set_option maxRecDepth 100000 in
theorem zw_S_plainOnes : [438, 93, 436, 437].map zz_lk = zz_mw zn_S_plainOnes := rfl
set_option maxRecDepth 100000 in
theorem zw_S_bearers : [903, 93, 901, 902].map zz_lk = zz_mw zn_S_bearers := rfl
set_option maxRecDepth 100000 in
theorem zw_S_toldByGroup : [415, 93, 413, 414].map zz_lk = zz_mw zn_S_toldByGroup := rfl
set_option maxRecDepth 100000 in
theorem zw_S_deedsOfKinds : [433, 93, 431, 432].map zz_lk = zz_mw zn_S_deedsOfKinds := rfl
set_option maxRecDepth 100000 in
theorem zw_S_kindsLike : [875, 93, 873, 874].map zz_lk = zz_mw zn_S_kindsLike := rfl
set_option maxRecDepth 100000 in
theorem zw_S_fits : [963, 93, 961, 962].map zz_lk = zz_mw zn_S_fits := rfl
set_option maxRecDepth 100000 in
theorem zw_S_fates : [1002, 93, 1000, 1001].map zz_lk = zz_mw zn_S_fates := rfl
set_option maxRecDepth 100000 in
theorem zw_S_thumb : [968, 93, 966, 967].map zz_lk = zz_mw zn_S_thumb := rfl
set_option maxRecDepth 100000 in
theorem zw_S_kindsMarkedAt : [867, 93, 865, 866].map zz_lk = zz_mw zn_S_kindsMarkedAt := rfl
set_option maxRecDepth 100000 in
theorem zw_S_share : [1007, 93, 1005, 1006].map zz_lk = zz_mw zn_S_share := rfl
set_option maxRecDepth 100000 in
theorem zw_S_fameOfAll : [525, 93, 523, 524].map zz_lk = zz_mw zn_S_fameOfAll := rfl
set_option maxRecDepth 100000 in
theorem zw_S_deedsOfAll : [516, 93, 514, 515].map zz_lk = zz_mw zn_S_deedsOfAll := rfl
set_option maxRecDepth 100000 in
theorem zw_S_rubbedOfAll : [529, 93, 527, 528].map zz_lk = zz_mw zn_S_rubbedOfAll := rfl
set_option maxRecDepth 100000 in
theorem zw_S_membersOfAll : [520, 93, 519, 0].map zz_lk = zz_mw zn_S_membersOfAll := rfl
set_option maxRecDepth 100000 in
theorem zw_S_dockerGain : [1346, 93, 1344, 1345].map zz_lk = zz_mw zn_S_dockerGain := rfl
set_option maxRecDepth 100000 in
theorem zw_S_needleGain : [1350, 93, 1348, 1349].map zz_lk = zz_mw zn_S_needleGain := rfl
set_option maxRecDepth 100000 in
theorem zw_S_addRow : [1058, 93, 1056, 1057].map zz_lk = zz_mw zn_S_addRow := rfl
set_option maxRecDepth 100000 in
theorem zw_S_rowPart : [1401, 93, 1399, 1400].map zz_lk = zz_mw zn_S_rowPart := rfl
set_option maxRecDepth 100000 in
theorem zw_S_draw : [1045, 93, 1043, 1044].map zz_lk = zz_mw zn_S_draw := rfl
set_option maxRecDepth 100000 in
theorem zw_S_passYear : [1041, 93, 1039, 1040].map zz_lk = zz_mw zn_S_passYear := rfl
set_option maxRecDepth 100000 in
theorem zw_S_passYearAhead : [983, 93, 981, 982].map zz_lk = zz_mw zn_S_passYearAhead := rfl
set_option maxRecDepth 100000 in
theorem zw_S_growOld : [987, 93, 985, 986].map zz_lk = zz_mw zn_S_growOld := rfl
set_option maxRecDepth 100000 in
theorem zw_S_endYear : [998, 93, 996, 997].map zz_lk = zz_mw zn_S_endYear := rfl
set_option maxRecDepth 100000 in
theorem zw_S_bringDeed : [1054, 93, 1052, 1053].map zz_lk = zz_mw zn_S_bringDeed := rfl
set_option maxRecDepth 100000 in
theorem zw_S_shakeOver : [1062, 93, 1060, 1061].map zz_lk = zz_mw zn_S_shakeOver := rfl
set_option maxRecDepth 100000 in
theorem zw_L_init : [249, 94, 248].map zz_lk = zz_mw zn_L_init := rfl
set_option maxRecDepth 100000 in
theorem zw_L_copyFrom : [499, 94, 497, 498].map zz_lk = zz_mw zn_L_copyFrom := rfl
set_option maxRecDepth 100000 in
theorem zw_L_clear : [771, 94, 769, 770].map zz_lk = zz_mw zn_L_clear := rfl
set_option maxRecDepth 100000 in
theorem zw_L_addStep : [796, 94, 794, 795].map zz_lk = zz_mw zn_L_addStep := rfl
set_option maxRecDepth 100000 in
theorem zw_L_addLine : [830, 94, 828, 829].map zz_lk = zz_mw zn_L_addLine := rfl
set_option maxRecDepth 100000 in
theorem zw_L_comes : [935, 94, 933, 934].map zz_lk = zz_mw zn_L_comes := rfl
set_option maxRecDepth 100000 in
theorem zw_L_makesKnown : [1050, 94, 1048, 1049].map zz_lk = zz_mw zn_L_makesKnown := rfl
set_option maxRecDepth 100000 in
theorem zw_L_learn : [940, 94, 939, 5].map zz_lk = zz_mw zn_L_learn := rfl
set_option maxRecDepth 100000 in
theorem zw_L_total : [946, 94, 945, 6].map zz_lk = zz_mw zn_L_total := rfl
set_option maxRecDepth 100000 in
theorem zw_L_applies : [950, 94, 949, 7].map zz_lk = zz_mw zn_L_applies := rfl
set_option maxRecDepth 100000 in
theorem zw_L_take : [954, 94, 953, 8].map zz_lk = zz_mw zn_L_take := rfl
set_option maxRecDepth 100000 in
theorem zw_L_joined : [957, 94, 956].map zz_lk = zz_mw zn_L_joined := rfl
set_option maxRecDepth 100000 in
theorem zw_A_init : [281, 95, 280].map zz_lk = zz_mw zn_A_init := rfl
set_option maxRecDepth 100000 in
theorem zw_A_size : [533, 95, 531, 532].map zz_lk = zz_mw zn_A_size := rfl
set_option maxRecDepth 100000 in
theorem zw_A_forget : [508, 95, 506, 507].map zz_lk = zz_mw zn_A_forget := rfl
set_option maxRecDepth 100000 in
theorem zw_A_remember : [1036, 95, 1034, 1035].map zz_lk = zz_mw zn_A_remember := rfl
set_option maxRecDepth 100000 in
theorem zw_A_goBack : [483, 95, 481, 482].map zz_lk = zz_mw zn_A_goBack := rfl
set_option maxRecDepth 100000 in
theorem zw_G_init : [300, 96, 299].map zz_lk = zz_mw zn_G_init := rfl
set_option maxRecDepth 100000 in
theorem zw_G_fewestPlaces : [862, 96, 860, 861].map zz_lk = zz_mw zn_G_fewestPlaces := rfl
set_option maxRecDepth 100000 in
theorem zw_G_fewestTellers : [401, 96, 399, 400].map zz_lk = zz_mw zn_G_fewestTellers := rfl
set_option maxRecDepth 100000 in
theorem zw_G_fillBerths : [1259, 96, 1257, 1258].map zz_lk = zz_mw zn_G_fillBerths := rfl
set_option maxRecDepth 100000 in
theorem zw_G_berthsFilled : [1273, 96, 1271, 1272].map zz_lk = zz_mw zn_G_berthsFilled := rfl
set_option maxRecDepth 100000 in
theorem zw_G_berthPerson : [1277, 96, 1275, 1276].map zz_lk = zz_mw zn_G_berthPerson := rfl
set_option maxRecDepth 100000 in
theorem zw_G_firstForBerth : [1281, 96, 1280, 13].map zz_lk = zz_mw zn_G_firstForBerth := rfl
set_option maxRecDepth 100000 in
theorem zw_G_filledWith : [1264, 96, 1263, 12].map zz_lk = zz_mw zn_G_filledWith := rfl
set_option maxRecDepth 100000 in
theorem zw_G_pairPeople : [1308, 96, 1306, 1307].map zz_lk = zz_mw zn_G_pairPeople := rfl
set_option maxRecDepth 100000 in
theorem zw_G_pairedDeeds : [1319, 96, 1317, 1318].map zz_lk = zz_mw zn_G_pairedDeeds := rfl
set_option maxRecDepth 100000 in
theorem zw_G_partner : [1323, 96, 1321, 1322].map zz_lk = zz_mw zn_G_partner := rfl
set_option maxRecDepth 100000 in
theorem zw_G_firstPartner : [1327, 96, 1326, 15].map zz_lk = zz_mw zn_G_firstPartner := rfl
set_option maxRecDepth 100000 in
theorem zw_G_gainedWith : [1315, 96, 1314, 14].map zz_lk = zz_mw zn_G_gainedWith := rfl
set_option maxRecDepth 100000 in
theorem zw_G_firstUnsettled : [1311, 96, 1310].map zz_lk = zz_mw zn_G_firstUnsettled := rfl
set_option maxRecDepth 100000 in
theorem zw_H_readAll : [557, 100, 556].map zz_lk = zz_mw zn_H_readAll := rfl
set_option maxRecDepth 100000 in
theorem zw_H_readLine : [572, 100, 571].map zz_lk = zz_mw zn_H_readLine := rfl
set_option maxRecDepth 100000 in
theorem zw_H_readKind : [632, 100, 631].map zz_lk = zz_mw zn_H_readKind := rfl
set_option maxRecDepth 100000 in
theorem zw_H_readPerson : [656, 100, 655].map zz_lk = zz_mw zn_H_readPerson := rfl
set_option maxRecDepth 100000 in
theorem zw_J_readAll : [767, 110, 766].map zz_lk = zz_mw zn_J_readAll := rfl
set_option maxRecDepth 100000 in
theorem zw_J_readLine : [775, 110, 774].map zz_lk = zz_mw zn_J_readLine := rfl
set_option maxRecDepth 100000 in
theorem zw_J_readAnyOf : [785, 110, 784].map zz_lk = zz_mw zn_J_readAnyOf := rfl
set_option maxRecDepth 100000 in
theorem zw_J_readAllOf : [788, 110, 787].map zz_lk = zz_mw zn_J_readAllOf := rfl
set_option maxRecDepth 100000 in
theorem zw_J_readAtom : [791, 110, 790].map zz_lk = zz_mw zn_J_readAtom := rfl
set_option maxRecDepth 100000 in
theorem zw_J_readSum : [806, 110, 805].map zz_lk = zz_mw zn_J_readSum := rfl
set_option maxRecDepth 100000 in
theorem zw_J_readPart : [809, 110, 808].map zz_lk = zz_mw zn_J_readPart := rfl
set_option maxRecDepth 100000 in
theorem zw_J_partWord : [816, 110, 815].map zz_lk = zz_mw zn_J_partWord := rfl
set_option maxRecDepth 100000 in
theorem zw_N_init : [123, 91, 122].map zz_lk = zz_mw zn_N_init := rfl
set_option maxRecDepth 100000 in
theorem zw_N_feed : [343, 91, 341, 342].map zz_lk = zz_mw zn_N_feed := rfl
set_option maxRecDepth 100000 in
theorem zw_N_end : [355, 91, 353, 354].map zz_lk = zz_mw zn_N_end := rfl
set_option maxRecDepth 100000 in
theorem zw_N_shop : [542, 91, 540, 541].map zz_lk = zz_mw zn_N_shop := rfl
set_option maxRecDepth 100000 in
theorem zw_N_law : [764, 91, 762, 763].map zz_lk = zz_mw zn_N_law := rfl
set_option maxRecDepth 100000 in
theorem zw_N_fault : [369, 91, 367, 368].map zz_lk = zz_mw zn_N_fault := rfl
set_option maxRecDepth 100000 in
theorem zw_N_kind : [839, 91, 837, 838].map zz_lk = zz_mw zn_N_kind := rfl
set_option maxRecDepth 100000 in
theorem zw_N_person : [926, 91, 924, 925].map zz_lk = zz_mw zn_N_person := rfl
set_option maxRecDepth 100000 in
theorem zw_N_mark : [1015, 91, 1013, 1014].map zz_lk = zz_mw zn_N_mark := rfl
set_option maxRecDepth 100000 in
theorem zw_N_years : [1027, 91, 1025, 1026].map zz_lk = zz_mw zn_N_years := rfl
set_option maxRecDepth 100000 in
theorem zw_N_rub : [1070, 91, 1068, 1069].map zz_lk = zz_mw zn_N_rub := rfl
set_option maxRecDepth 100000 in
theorem zw_N_ink : [1094, 91, 1092, 1093].map zz_lk = zz_mw zn_N_ink := rfl
set_option maxRecDepth 100000 in
theorem zw_N_wash : [1102, 91, 1100, 1101].map zz_lk = zz_mw zn_N_wash := rfl
set_option maxRecDepth 100000 in
theorem zw_N_told : [1109, 91, 1107, 1108].map zz_lk = zz_mw zn_N_told := rfl
set_option maxRecDepth 100000 in
theorem zw_N_hold : [1120, 91, 1118, 1119].map zz_lk = zz_mw zn_N_hold := rfl
set_option maxRecDepth 100000 in
theorem zw_N_does : [1127, 91, 1125, 1126].map zz_lk = zz_mw zn_N_does := rfl
set_option maxRecDepth 100000 in
theorem zw_N_luck : [1135, 91, 1133, 1134].map zz_lk = zz_mw zn_N_luck := rfl
set_option maxRecDepth 100000 in
theorem zw_N_fill : [1143, 91, 1141, 1142].map zz_lk = zz_mw zn_N_fill := rfl
set_option maxRecDepth 100000 in
theorem zw_N_blank : [1152, 91, 1150, 1151].map zz_lk = zz_mw zn_N_blank := rfl
set_option maxRecDepth 100000 in
theorem zw_N_reach : [1159, 91, 1157, 1158].map zz_lk = zz_mw zn_N_reach := rfl
set_option maxRecDepth 100000 in
theorem zw_N_turned : [1169, 91, 1167, 1168].map zz_lk = zz_mw zn_N_turned := rfl
set_option maxRecDepth 100000 in
theorem zw_N_shifts : [1182, 91, 1180, 1181].map zz_lk = zz_mw zn_N_shifts := rfl
set_option maxRecDepth 100000 in
theorem zw_N_ring : [1196, 91, 1194, 1195].map zz_lk = zz_mw zn_N_ring := rfl
set_option maxRecDepth 100000 in
theorem zw_N_deepest : [373, 91, 371, 372].map zz_lk = zz_mw zn_N_deepest := rfl
set_option maxRecDepth 100000 in
theorem zw_N_rules : [1207, 91, 1205, 1206].map zz_lk = zz_mw zn_N_rules := rfl
set_option maxRecDepth 100000 in
theorem zw_N_ask : [1235, 91, 1233, 1234].map zz_lk = zz_mw zn_N_ask := rfl
set_option maxRecDepth 100000 in
theorem zw_N_now : [383, 91, 381, 382].map zz_lk = zz_mw zn_N_now := rfl
set_option maxRecDepth 100000 in
theorem zw_N_crew : [397, 91, 395, 396].map zz_lk = zz_mw zn_N_crew := rfl
set_option maxRecDepth 100000 in
theorem zw_N_berths : [1250, 91, 1248, 1249].map zz_lk = zz_mw zn_N_berths := rfl
set_option maxRecDepth 100000 in
theorem zw_N_inks : [427, 91, 425, 426].map zz_lk = zz_mw zn_N_inks := rfl
set_option maxRecDepth 100000 in
theorem zw_N_old : [1288, 91, 1286, 1287].map zz_lk = zz_mw zn_N_old := rfl
set_option maxRecDepth 100000 in
theorem zw_N_clash : [1297, 91, 1295, 1296].map zz_lk = zz_mw zn_N_clash := rfl
set_option maxRecDepth 100000 in
theorem zw_N_pairs : [1304, 91, 1302, 1303].map zz_lk = zz_mw zn_N_pairs := rfl
set_option maxRecDepth 100000 in
theorem zw_N_kin : [1334, 91, 1332, 1333].map zz_lk = zz_mw zn_N_kin := rfl
set_option maxRecDepth 100000 in
theorem zw_N_rests : [1342, 91, 1340, 1341].map zz_lk = zz_mw zn_N_rests := rfl
set_option maxRecDepth 100000 in
theorem zw_N_odds : [1357, 91, 1355, 1356].map zz_lk = zz_mw zn_N_odds := rfl
set_option maxRecDepth 100000 in
theorem zw_N_plain : [442, 91, 440, 441].map zz_lk = zz_mw zn_N_plain := rfl
set_option maxRecDepth 100000 in
theorem zw_N_found : [446, 91, 444, 445].map zz_lk = zz_mw zn_N_found := rfl
set_option maxRecDepth 100000 in
theorem zw_N_soFar : [459, 91, 457, 458].map zz_lk = zz_mw zn_N_soFar := rfl
set_option maxRecDepth 100000 in
theorem zw_N_eldest : [463, 91, 461, 462].map zz_lk = zz_mw zn_N_eldest := rfl
set_option maxRecDepth 100000 in
theorem zw_N_famous : [467, 91, 465, 466].map zz_lk = zz_mw zn_N_famous := rfl
set_option maxRecDepth 100000 in
theorem zw_N_twins : [471, 91, 469, 470].map zz_lk = zz_mw zn_N_twins := rfl
set_option maxRecDepth 100000 in
theorem zw_N_tellers : [1365, 91, 1363, 1364].map zz_lk = zz_mw zn_N_tellers := rfl
set_option maxRecDepth 100000 in
theorem zw_N_ahead : [1372, 91, 1370, 1371].map zz_lk = zz_mw zn_N_ahead := rfl
set_option maxRecDepth 100000 in
theorem zw_N_trial : [1379, 91, 1377, 1378].map zz_lk = zz_mw zn_N_trial := rfl
set_option maxRecDepth 100000 in
theorem zw_N_span : [1390, 91, 1388, 1389].map zz_lk = zz_mw zn_N_span := rfl
set_option maxRecDepth 100000 in
theorem zw_N_led : [1397, 91, 1395, 1396].map zz_lk = zz_mw zn_N_led := rfl
set_option maxRecDepth 100000 in
theorem zw_N_log : [1408, 91, 1406, 1407].map zz_lk = zz_mw zn_N_log := rfl
set_option maxRecDepth 100000 in
theorem zw_N_seed : [475, 91, 473, 474].map zz_lk = zz_mw zn_N_seed := rfl
set_option maxRecDepth 100000 in
theorem zw_N_undo : [479, 91, 477, 478].map zz_lk = zz_mw zn_N_undo := rfl
set_option maxRecDepth 100000 in
theorem zw_N_image : [494, 91, 492, 493].map zz_lk = zz_mw zn_N_image := rfl
set_option maxRecDepth 100000 in
theorem zw_N_back : [504, 91, 502, 503].map zz_lk = zz_mw zn_N_back := rfl
set_option maxRecDepth 100000 in
theorem zw_N_count : [512, 91, 510, 511].map zz_lk = zz_mw zn_N_count := rfl
set_option maxRecDepth 100000 in
theorem zw_N_needPerson : [930, 91, 929, 4].map zz_lk = zz_mw zn_N_needPerson := rfl
set_option maxRecDepth 100000 in
theorem zw_N_needKind : [842, 91, 841].map zz_lk = zz_mw zn_N_needKind := rfl
set_option maxRecDepth 100000 in
theorem zw_N_needDeed : [1112, 91, 1111].map zz_lk = zz_mw zn_N_needDeed := rfl
set_option maxRecDepth 100000 in
theorem zw_N_needPlace : [1018, 91, 1017].map zz_lk = zz_mw zn_N_needPlace := rfl
set_option maxRecDepth 100000 in
theorem zw_N_needYears : [1031, 91, 1030].map zz_lk = zz_mw zn_N_needYears := rfl
set_option maxRecDepth 100000 in
theorem zw_N_needRows : [1212, 91, 1211, 10].map zz_lk = zz_mw zn_N_needRows := rfl
set_option maxRecDepth 100000 in
theorem zw_N_needBerths : [1254, 91, 1253, 11].map zz_lk = zz_mw zn_N_needBerths := rfl
set_option maxRecDepth 100000 in
theorem zw_N_sureYear : [975, 91, 974, 9].map zz_lk = zz_mw zn_N_sureYear := rfl
set_option maxRecDepth 100000 in
theorem zw_N_tryYears : [1383, 91, 1382, 16].map zz_lk = zz_mw zn_N_tryYears := rfl
set_option maxRecDepth 100000 in
theorem zw_D_init : [1413, 97, 1412].map zz_lk = zz_mw zn_D_init := rfl
set_option maxRecDepth 100000 in
theorem zw_D_thrown : [1486, 97, 1484, 1485].map zz_lk = zz_mw zn_D_thrown := rfl
set_option maxRecDepth 100000 in
theorem zw_D_isIn : [1497, 97, 1496].map zz_lk = zz_mw zn_D_isIn := rfl
set_option maxRecDepth 100000 in
theorem zw_D_lesser : [1740, 97, 1739].map zz_lk = zz_mw zn_D_lesser := rfl
set_option maxRecDepth 100000 in
theorem zw_D_greater : [1685, 97, 1684].map zz_lk = zz_mw zn_D_greater := rfl
set_option maxRecDepth 100000 in
theorem zw_D_isOf : [1676, 97, 1675].map zz_lk = zz_mw zn_D_isOf := rfl
set_option maxRecDepth 100000 in
theorem zw_D_bits : [1665, 97, 1664].map zz_lk = zz_mw zn_D_bits := rfl
set_option maxRecDepth 100000 in
theorem zw_D_ofKind : [1653, 97, 1652, 44].map zz_lk = zz_mw zn_D_ofKind := rfl
set_option maxRecDepth 100000 in
theorem zw_D_of : [1705, 97, 1704, 53].map zz_lk = zz_mw zn_D_of := rfl
set_option maxRecDepth 100000 in
theorem zw_D_lays : [1624, 97, 1623, 41].map zz_lk = zz_mw zn_D_lays := rfl
set_option maxRecDepth 100000 in
theorem zw_D_isOne : [1713, 97, 1712, 54].map zz_lk = zz_mw zn_D_isOne := rfl
set_option maxRecDepth 100000 in
theorem zw_D_isKind : [1649, 97, 1648].map zz_lk = zz_mw zn_D_isKind := rfl
set_option maxRecDepth 100000 in
theorem zw_D_isPlain : [1725, 97, 1724, 57].map zz_lk = zz_mw zn_D_isPlain := rfl
set_option maxRecDepth 100000 in
theorem zw_D_deedOf : [1729, 97, 1728, 58].map zz_lk = zz_mw zn_D_deedOf := rfl
set_option maxRecDepth 100000 in
theorem zw_D_marksOf : [1733, 97, 1732, 59].map zz_lk = zz_mw zn_D_marksOf := rfl
set_option maxRecDepth 100000 in
theorem zw_D_feed : [1490, 97, 1488, 1489].map zz_lk = zz_mw zn_D_feed := rfl
set_option maxRecDepth 100000 in
theorem zw_D_end : [1494, 97, 1492, 1493].map zz_lk = zz_mw zn_D_end := rfl
set_option maxRecDepth 100000 in
theorem zw_D_letter : [1521, 97, 1520, 21].map zz_lk = zz_mw zn_D_letter := rfl
set_option maxRecDepth 100000 in
theorem zw_D_skip : [1517, 97, 1516, 20].map zz_lk = zz_mw zn_D_skip := rfl
set_option maxRecDepth 100000 in
theorem zw_D_isSign : [1564, 97, 1563, 30].map zz_lk = zz_mw zn_D_isSign := rfl
set_option maxRecDepth 100000 in
theorem zw_D_has : [1534, 97, 1533, 24].map zz_lk = zz_mw zn_D_has := rfl
set_option maxRecDepth 100000 in
theorem zw_D_wrong : [1525, 97, 1524, 22].map zz_lk = zz_mw zn_D_wrong := rfl
set_option maxRecDepth 100000 in
theorem zw_D_here : [1546, 97, 1545, 26].map zz_lk = zz_mw zn_D_here := rfl
set_option maxRecDepth 100000 in
theorem zw_D_figures : [1542, 97, 1541, 25].map zz_lk = zz_mw zn_D_figures := rfl
set_option maxRecDepth 100000 in
theorem zw_D_after : [1619, 97, 1618, 40].map zz_lk = zz_mw zn_D_after := rfl
set_option maxRecDepth 100000 in
theorem zw_D_kindLetter : [1600, 97, 1599, 36].map zz_lk = zz_mw zn_D_kindLetter := rfl
set_option maxRecDepth 100000 in
theorem zw_D_fourMarks : [1609, 97, 1608, 38].map zz_lk = zz_mw zn_D_fourMarks := rfl
set_option maxRecDepth 100000 in
theorem zw_D_expects : [1605, 97, 1604, 37].map zz_lk = zz_mw zn_D_expects := rfl
set_option maxRecDepth 100000 in
theorem zw_D_kindLine : [1596, 97, 1595, 35].map zz_lk = zz_mw zn_D_kindLine := rfl
set_option maxRecDepth 100000 in
theorem zw_D_personLine : [1615, 97, 1614, 39].map zz_lk = zz_mw zn_D_personLine := rfl
set_option maxRecDepth 100000 in
theorem zw_D_tells : [1629, 97, 1628, 42].map zz_lk = zz_mw zn_D_tells := rfl
set_option maxRecDepth 100000 in
theorem zw_D_shopLine : [1592, 97, 1591, 34].map zz_lk = zz_mw zn_D_shopLine := rfl
set_option maxRecDepth 100000 in
theorem zw_D_begins : [1509, 97, 1508, 18].map zz_lk = zz_mw zn_D_begins := rfl
set_option maxRecDepth 100000 in
theorem zw_D_read : [1513, 97, 1512, 19].map zz_lk = zz_mw zn_D_read := rfl
set_option maxRecDepth 100000 in
theorem zw_D_putsAside : [1505, 97, 1504, 17].map zz_lk = zz_mw zn_D_putsAside := rfl
set_option maxRecDepth 100000 in
theorem zw_D_comesBack : [1634, 97, 1633, 43].map zz_lk = zz_mw zn_D_comesBack := rfl
set_option maxRecDepth 100000 in
theorem zw_D_shop : [1501, 97, 1499, 1500].map zz_lk = zz_mw zn_D_shop := rfl
set_option maxRecDepth 100000 in
theorem zw_D_part : [1578, 97, 1577, 33].map zz_lk = zz_mw zn_D_part := rfl
set_option maxRecDepth 100000 in
theorem zw_D_sum : [1574, 97, 1573, 32].map zz_lk = zz_mw zn_D_sum := rfl
set_option maxRecDepth 100000 in
theorem zw_D_plainly : [1568, 97, 1567, 31].map zz_lk = zz_mw zn_D_plainly := rfl
set_option maxRecDepth 100000 in
theorem zw_D_atom : [1559, 97, 1558, 29].map zz_lk = zz_mw zn_D_atom := rfl
set_option maxRecDepth 100000 in
theorem zw_D_every : [1555, 97, 1554, 28].map zz_lk = zz_mw zn_D_every := rfl
set_option maxRecDepth 100000 in
theorem zw_D_some : [1551, 97, 1550, 27].map zz_lk = zz_mw zn_D_some := rfl
set_option maxRecDepth 100000 in
theorem zw_D_lawLine : [1529, 97, 1528, 23].map zz_lk = zz_mw zn_D_lawLine := rfl
set_option maxRecDepth 100000 in
theorem zw_D_law : [1638, 97, 1636, 1637].map zz_lk = zz_mw zn_D_law := rfl
set_option maxRecDepth 100000 in
theorem zw_D_fault : [1642, 97, 1640, 1641].map zz_lk = zz_mw zn_D_fault := rfl
set_option maxRecDepth 100000 in
theorem zw_D_fitting : [1737, 97, 1736, 60].map zz_lk = zz_mw zn_D_fitting := rfl
set_option maxRecDepth 100000 in
theorem zw_D_asks : [1721, 97, 1720, 56].map zz_lk = zz_mw zn_D_asks := rfl
set_option maxRecDepth 100000 in
theorem zw_D_comesOf : [1717, 97, 1716, 55].map zz_lk = zz_mw zn_D_comesOf := rfl
set_option maxRecDepth 100000 in
theorem zw_D_draw : [1761, 97, 1760, 65].map zz_lk = zz_mw zn_D_draw := rfl
set_option maxRecDepth 100000 in
theorem zw_D_logs : [1766, 97, 1765, 66].map zz_lk = zz_mw zn_D_logs := rfl
set_option maxRecDepth 100000 in
theorem zw_D_deeds : [1757, 97, 1756, 64].map zz_lk = zz_mw zn_D_deeds := rfl
set_option maxRecDepth 100000 in
theorem zw_D_thumbs : [1770, 97, 1769, 67].map zz_lk = zz_mw zn_D_thumbs := rfl
set_option maxRecDepth 100000 in
theorem zw_D_passes : [1753, 97, 1752, 63].map zz_lk = zz_mw zn_D_passes := rfl
set_option maxRecDepth 100000 in
theorem zw_D_goes : [1798, 97, 1797, 72].map zz_lk = zz_mw zn_D_goes := rfl
set_option maxRecDepth 100000 in
theorem zw_D_bitsOfAll : [2011, 97, 2010, 88].map zz_lk = zz_mw zn_D_bitsOfAll := rfl
set_option maxRecDepth 100000 in
theorem zw_D_fameOfAll : [1778, 97, 1777, 69].map zz_lk = zz_mw zn_D_fameOfAll := rfl
set_option maxRecDepth 100000 in
theorem zw_D_tellsApart : [1662, 97, 1661, 46].map zz_lk = zz_mw zn_D_tellsApart := rfl
set_option maxRecDepth 100000 in
theorem zw_D_few : [1657, 97, 1656, 45].map zz_lk = zz_mw zn_D_few := rfl
set_option maxRecDepth 100000 in
theorem zw_D_same : [1669, 97, 1668, 47].map zz_lk = zz_mw zn_D_same := rfl
set_option maxRecDepth 100000 in
theorem zw_D_beside : [1682, 97, 1681].map zz_lk = zz_mw zn_D_beside := rfl
set_option maxRecDepth 100000 in
theorem zw_D_floods : [1679, 97, 1678].map zz_lk = zz_mw zn_D_floods := rfl
set_option maxRecDepth 100000 in
theorem zw_D_pieces : [1673, 97, 1672, 48].map zz_lk = zz_mw zn_D_pieces := rfl
set_option maxRecDepth 100000 in
theorem zw_D_holes : [1689, 97, 1688, 49].map zz_lk = zz_mw zn_D_holes := rfl
set_option maxRecDepth 100000 in
theorem zw_D_deepOf : [1693, 97, 1692, 50].map zz_lk = zz_mw zn_D_deepOf := rfl
set_option maxRecDepth 100000 in
theorem zw_D_within : [1697, 97, 1696, 51].map zz_lk = zz_mw zn_D_within := rfl
set_option maxRecDepth 100000 in
theorem zw_D_bearers : [1701, 97, 1700, 52].map zz_lk = zz_mw zn_D_bearers := rfl
set_option maxRecDepth 100000 in
theorem zw_D_kind : [1646, 97, 1644, 1645].map zz_lk = zz_mw zn_D_kind := rfl
set_option maxRecDepth 100000 in
theorem zw_D_thumb : [1744, 97, 1743, 61].map zz_lk = zz_mw zn_D_thumb := rfl
set_option maxRecDepth 100000 in
theorem zw_D_sureOf : [1749, 97, 1748, 62].map zz_lk = zz_mw zn_D_sureOf := rfl
set_option maxRecDepth 100000 in
theorem zw_D_fates : [1774, 97, 1773, 68].map zz_lk = zz_mw zn_D_fates := rfl
set_option maxRecDepth 100000 in
theorem zw_D_person : [1709, 97, 1707, 1708].map zz_lk = zz_mw zn_D_person := rfl
set_option maxRecDepth 100000 in
theorem zw_D_isPlace : [1786, 97, 1785, 70].map zz_lk = zz_mw zn_D_isPlace := rfl
set_option maxRecDepth 100000 in
theorem zw_D_mark : [1782, 97, 1780, 1781].map zz_lk = zz_mw zn_D_mark := rfl
set_option maxRecDepth 100000 in
theorem zw_D_remembers : [1794, 97, 1793, 71].map zz_lk = zz_mw zn_D_remembers := rfl
set_option maxRecDepth 100000 in
theorem zw_D_sets : [1806, 97, 1805, 73].map zz_lk = zz_mw zn_D_sets := rfl
set_option maxRecDepth 100000 in
theorem zw_D_years : [1790, 97, 1788, 1789].map zz_lk = zz_mw zn_D_years := rfl
set_option maxRecDepth 100000 in
theorem zw_D_rub : [1802, 97, 1800, 1801].map zz_lk = zz_mw zn_D_rub := rfl
set_option maxRecDepth 100000 in
theorem zw_D_ink : [1810, 97, 1808, 1809].map zz_lk = zz_mw zn_D_ink := rfl
set_option maxRecDepth 100000 in
theorem zw_D_wash : [1814, 97, 1812, 1813].map zz_lk = zz_mw zn_D_wash := rfl
set_option maxRecDepth 100000 in
theorem zw_D_told : [1818, 97, 1816, 1817].map zz_lk = zz_mw zn_D_told := rfl
set_option maxRecDepth 100000 in
theorem zw_D_hold : [1822, 97, 1820, 1821].map zz_lk = zz_mw zn_D_hold := rfl
set_option maxRecDepth 100000 in
theorem zw_D_does : [1826, 97, 1824, 1825].map zz_lk = zz_mw zn_D_does := rfl
set_option maxRecDepth 100000 in
theorem zw_D_luck : [1830, 97, 1828, 1829].map zz_lk = zz_mw zn_D_luck := rfl
set_option maxRecDepth 100000 in
theorem zw_D_fill : [1834, 97, 1832, 1833].map zz_lk = zz_mw zn_D_fill := rfl
set_option maxRecDepth 100000 in
theorem zw_D_blank : [1838, 97, 1836, 1837].map zz_lk = zz_mw zn_D_blank := rfl
set_option maxRecDepth 100000 in
theorem zw_D_reach : [1842, 97, 1840, 1841].map zz_lk = zz_mw zn_D_reach := rfl
set_option maxRecDepth 100000 in
theorem zw_D_turns : [1853, 97, 1852].map zz_lk = zz_mw zn_D_turns := rfl
set_option maxRecDepth 100000 in
theorem zw_D_areKinds : [1850, 97, 1849, 74].map zz_lk = zz_mw zn_D_areKinds := rfl
set_option maxRecDepth 100000 in
theorem zw_D_turned : [1846, 97, 1844, 1845].map zz_lk = zz_mw zn_D_turned := rfl
set_option maxRecDepth 100000 in
theorem zw_D_lie : [1861, 97, 1860, 75].map zz_lk = zz_mw zn_D_lie := rfl
set_option maxRecDepth 100000 in
theorem zw_D_shifts : [1857, 97, 1855, 1856].map zz_lk = zz_mw zn_D_shifts := rfl
set_option maxRecDepth 100000 in
theorem zw_D_ring : [1865, 97, 1863, 1864].map zz_lk = zz_mw zn_D_ring := rfl
set_option maxRecDepth 100000 in
theorem zw_D_deepest : [1869, 97, 1867, 1868].map zz_lk = zz_mw zn_D_deepest := rfl
set_option maxRecDepth 100000 in
theorem zw_D_ruled : [1880, 97, 1879].map zz_lk = zz_mw zn_D_ruled := rfl
set_option maxRecDepth 100000 in
theorem zw_D_heard : [1877, 97, 1876, 76].map zz_lk = zz_mw zn_D_heard := rfl
set_option maxRecDepth 100000 in
theorem zw_D_fitMany : [1888, 97, 1887, 78].map zz_lk = zz_mw zn_D_fitMany := rfl
set_option maxRecDepth 100000 in
theorem zw_D_firstFit : [1884, 97, 1883, 77].map zz_lk = zz_mw zn_D_firstFit := rfl
set_option maxRecDepth 100000 in
theorem zw_D_rules : [1873, 97, 1871, 1872].map zz_lk = zz_mw zn_D_rules := rfl
set_option maxRecDepth 100000 in
theorem zw_D_ask : [1892, 97, 1890, 1891].map zz_lk = zz_mw zn_D_ask := rfl
set_option maxRecDepth 100000 in
theorem zw_D_now : [1896, 97, 1894, 1895].map zz_lk = zz_mw zn_D_now := rfl
set_option maxRecDepth 100000 in
theorem zw_D_toldBy : [1904, 97, 1903, 79].map zz_lk = zz_mw zn_D_toldBy := rfl
set_option maxRecDepth 100000 in
theorem zw_D_crew : [1900, 97, 1898, 1899].map zz_lk = zz_mw zn_D_crew := rfl
set_option maxRecDepth 100000 in
theorem zw_D_canBerth : [1912, 97, 1911, 80].map zz_lk = zz_mw zn_D_canBerth := rfl
set_option maxRecDepth 100000 in
theorem zw_D_berths : [1908, 97, 1906, 1907].map zz_lk = zz_mw zn_D_berths := rfl
set_option maxRecDepth 100000 in
theorem zw_D_tellersOf : [1924, 97, 1923, 82].map zz_lk = zz_mw zn_D_tellersOf := rfl
set_option maxRecDepth 100000 in
theorem zw_D_plainOnes : [1920, 97, 1919, 81].map zz_lk = zz_mw zn_D_plainOnes := rfl
set_option maxRecDepth 100000 in
theorem zw_D_inks : [1916, 97, 1914, 1915].map zz_lk = zz_mw zn_D_inks := rfl
set_option maxRecDepth 100000 in
theorem zw_D_old : [1928, 97, 1926, 1927].map zz_lk = zz_mw zn_D_old := rfl
set_option maxRecDepth 100000 in
theorem zw_D_clash : [1932, 97, 1930, 1931].map zz_lk = zz_mw zn_D_clash := rfl
set_option maxRecDepth 100000 in
theorem zw_D_allOf : [1951, 97, 1950, 85].map zz_lk = zz_mw zn_D_allOf := rfl
set_option maxRecDepth 100000 in
theorem zw_D_lowest : [1943, 97, 1942].map zz_lk = zz_mw zn_D_lowest := rfl
set_option maxRecDepth 100000 in
theorem zw_D_apart : [1947, 97, 1946, 84].map zz_lk = zz_mw zn_D_apart := rfl
set_option maxRecDepth 100000 in
theorem zw_D_allBest : [1940, 97, 1939, 83].map zz_lk = zz_mw zn_D_allBest := rfl
set_option maxRecDepth 100000 in
theorem zw_D_pairs : [1936, 97, 1934, 1935].map zz_lk = zz_mw zn_D_pairs := rfl
set_option maxRecDepth 100000 in
theorem zw_D_kin : [1955, 97, 1953, 1954].map zz_lk = zz_mw zn_D_kin := rfl
set_option maxRecDepth 100000 in
theorem zw_D_itHas : [1963, 97, 1962, 86].map zz_lk = zz_mw zn_D_itHas := rfl
set_option maxRecDepth 100000 in
theorem zw_D_needleHas : [1967, 97, 1966, 87].map zz_lk = zz_mw zn_D_needleHas := rfl
set_option maxRecDepth 100000 in
theorem zw_D_rests : [1959, 97, 1957, 1958].map zz_lk = zz_mw zn_D_rests := rfl
set_option maxRecDepth 100000 in
theorem zw_D_odds : [1971, 97, 1969, 1970].map zz_lk = zz_mw zn_D_odds := rfl
set_option maxRecDepth 100000 in
theorem zw_D_plain : [1975, 97, 1973, 1974].map zz_lk = zz_mw zn_D_plain := rfl
set_option maxRecDepth 100000 in
theorem zw_D_found : [1979, 97, 1977, 1978].map zz_lk = zz_mw zn_D_found := rfl
set_option maxRecDepth 100000 in
theorem zw_D_soFar : [1983, 97, 1981, 1982].map zz_lk = zz_mw zn_D_soFar := rfl
set_option maxRecDepth 100000 in
theorem zw_D_eldest : [1987, 97, 1985, 1986].map zz_lk = zz_mw zn_D_eldest := rfl
set_option maxRecDepth 100000 in
theorem zw_D_famous : [1991, 97, 1989, 1990].map zz_lk = zz_mw zn_D_famous := rfl
set_option maxRecDepth 100000 in
theorem zw_D_twins : [1995, 97, 1993, 1994].map zz_lk = zz_mw zn_D_twins := rfl
set_option maxRecDepth 100000 in
theorem zw_D_tellers : [1999, 97, 1997, 1998].map zz_lk = zz_mw zn_D_tellers := rfl
set_option maxRecDepth 100000 in
theorem zw_D_ahead : [2003, 97, 2001, 2002].map zz_lk = zz_mw zn_D_ahead := rfl
set_option maxRecDepth 100000 in
theorem zw_D_trial : [2007, 97, 2005, 2006].map zz_lk = zz_mw zn_D_trial := rfl
set_option maxRecDepth 100000 in
theorem zw_D_span : [2015, 97, 2013, 2014].map zz_lk = zz_mw zn_D_span := rfl
set_option maxRecDepth 100000 in
theorem zw_D_logged : [2023, 97, 2022, 89].map zz_lk = zz_mw zn_D_logged := rfl
set_option maxRecDepth 100000 in
theorem zw_D_led : [2019, 97, 2017, 2018].map zz_lk = zz_mw zn_D_led := rfl
set_option maxRecDepth 100000 in
theorem zw_D_log : [2027, 97, 2025, 2026].map zz_lk = zz_mw zn_D_log := rfl
set_option maxRecDepth 100000 in
theorem zw_D_seed : [2031, 97, 2029, 2030].map zz_lk = zz_mw zn_D_seed := rfl
set_option maxRecDepth 100000 in
theorem zw_D_undo : [2035, 97, 2033, 2034].map zz_lk = zz_mw zn_D_undo := rfl
set_option maxRecDepth 100000 in
theorem zw_D_image : [2039, 97, 2037, 2038].map zz_lk = zz_mw zn_D_image := rfl
set_option maxRecDepth 100000 in
theorem zw_D_back : [2043, 97, 2041, 2042].map zz_lk = zz_mw zn_D_back := rfl
set_option maxRecDepth 100000 in
theorem zw_D_count : [2047, 97, 2045, 2046].map zz_lk = zz_mw zn_D_count := rfl
set_option maxRecDepth 100000 in
theorem zw_W_shop : [536, 90, 535].map zz_lk = zz_mw zn_W_shop := rfl
set_option maxRecDepth 100000 in
theorem zw_W_law_0 : [760, 90, 759].map zz_lk = zz_mw zn_W_law_0 := rfl
set_option maxRecDepth 100000 in
theorem zw_W_kind : [833, 90, 832].map zz_lk = zz_mw zn_W_kind := rfl
set_option maxRecDepth 100000 in
theorem zw_W_person : [922, 90, 921].map zz_lk = zz_mw zn_W_person := rfl
set_option maxRecDepth 100000 in
theorem zw_W_mark : [1011, 90, 1010].map zz_lk = zz_mw zn_W_mark := rfl
set_option maxRecDepth 100000 in
theorem zw_W_years : [1023, 90, 1022].map zz_lk = zz_mw zn_W_years := rfl
set_option maxRecDepth 100000 in
theorem zw_W_rub : [1065, 90, 1064].map zz_lk = zz_mw zn_W_rub := rfl
set_option maxRecDepth 100000 in
theorem zw_W_ink : [1090, 90, 1089].map zz_lk = zz_mw zn_W_ink := rfl
set_option maxRecDepth 100000 in
theorem zw_W_wash : [1098, 90, 1097].map zz_lk = zz_mw zn_W_wash := rfl
set_option maxRecDepth 100000 in
theorem zw_W_told : [1105, 90, 1104].map zz_lk = zz_mw zn_W_told := rfl
set_option maxRecDepth 100000 in
theorem zw_W_hold : [1116, 90, 1115].map zz_lk = zz_mw zn_W_hold := rfl
set_option maxRecDepth 100000 in
theorem zw_W_does : [1123, 90, 1122].map zz_lk = zz_mw zn_W_does := rfl
set_option maxRecDepth 100000 in
theorem zw_W_luck : [1131, 90, 1130].map zz_lk = zz_mw zn_W_luck := rfl
set_option maxRecDepth 100000 in
theorem zw_W_fill : [1139, 90, 1138].map zz_lk = zz_mw zn_W_fill := rfl
set_option maxRecDepth 100000 in
theorem zw_W_blank : [1148, 90, 1147].map zz_lk = zz_mw zn_W_blank := rfl
set_option maxRecDepth 100000 in
theorem zw_W_reach : [1155, 90, 1154].map zz_lk = zz_mw zn_W_reach := rfl
set_option maxRecDepth 100000 in
theorem zw_W_turned : [1165, 90, 1164].map zz_lk = zz_mw zn_W_turned := rfl
set_option maxRecDepth 100000 in
theorem zw_W_shifts : [1178, 90, 1177].map zz_lk = zz_mw zn_W_shifts := rfl
set_option maxRecDepth 100000 in
theorem zw_W_ring : [1192, 90, 1191].map zz_lk = zz_mw zn_W_ring := rfl
set_option maxRecDepth 100000 in
theorem zw_W_rules : [1203, 90, 1202].map zz_lk = zz_mw zn_W_rules := rfl
set_option maxRecDepth 100000 in
theorem zw_W_ask : [1231, 90, 1230].map zz_lk = zz_mw zn_W_ask := rfl
set_option maxRecDepth 100000 in
theorem zw_W_berths : [1246, 90, 1245].map zz_lk = zz_mw zn_W_berths := rfl
set_option maxRecDepth 100000 in
theorem zw_W_old : [1284, 90, 1283].map zz_lk = zz_mw zn_W_old := rfl
set_option maxRecDepth 100000 in
theorem zw_W_clash : [1293, 90, 1292].map zz_lk = zz_mw zn_W_clash := rfl
set_option maxRecDepth 100000 in
theorem zw_W_pairs : [1300, 90, 1299].map zz_lk = zz_mw zn_W_pairs := rfl
set_option maxRecDepth 100000 in
theorem zw_W_kin : [1330, 90, 1329].map zz_lk = zz_mw zn_W_kin := rfl
set_option maxRecDepth 100000 in
theorem zw_W_rests : [1338, 90, 1337].map zz_lk = zz_mw zn_W_rests := rfl
set_option maxRecDepth 100000 in
theorem zw_W_odds : [1353, 90, 1352].map zz_lk = zz_mw zn_W_odds := rfl
set_option maxRecDepth 100000 in
theorem zw_W_tellers : [1361, 90, 1360].map zz_lk = zz_mw zn_W_tellers := rfl
set_option maxRecDepth 100000 in
theorem zw_W_ahead : [1368, 90, 1367].map zz_lk = zz_mw zn_W_ahead := rfl
set_option maxRecDepth 100000 in
theorem zw_W_trial : [1375, 90, 1374].map zz_lk = zz_mw zn_W_trial := rfl
set_option maxRecDepth 100000 in
theorem zw_W_span : [1386, 90, 1385].map zz_lk = zz_mw zn_W_span := rfl
set_option maxRecDepth 100000 in
theorem zw_W_led : [1393, 90, 1392].map zz_lk = zz_mw zn_W_led := rfl
set_option maxRecDepth 100000 in
theorem zw_W_log : [1404, 90, 1403].map zz_lk = zz_mw zn_W_log := rfl
