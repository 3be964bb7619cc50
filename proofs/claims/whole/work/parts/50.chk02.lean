def zh_L_joined : List Nat := [9999, 9999, 9999, 9999, 9999, 9999, 9999, 9999, 9999, 9999, 9999, 9999, 9999, 9999, 9999, 9999, 9999, 9999, 9999, 9999, 9999, 9999, 9999, 9999, 9999, 9999, 9999, 9999]
theorem zk_L_joined : zz_dec zn_L_joined.2.1 zm_L_joined.1 = true := by decide +kernel
theorem zl_L_joined : zz_lks zn_L_joined.1.cls zm_L_joined.1 zh_L_joined = true := by decide +kernel
def zh_A_init : List Nat := [9999, 282, 9999, 9999, 283, 286, 9999, 9999, 9999, 9999, 9999, 9999, 286, 9999, 283, 9999, 285, 9999, 9999, 9999, 9999]
theorem zk_A_init : zz_dec zn_A_init.2.1 zm_A_init.1 = true := by decide +kernel
theorem zl_A_init : zz_lks zn_A_init.1.cls zm_A_init.1 zh_A_init = true := by decide +kernel
def zh_A_size : List Nat := [9999, 288, 9999]
theorem zk_A_size : zz_dec zn_A_size.2.1 zm_A_size.1 = true := by decide +kernel
theorem zl_A_size : zz_lks zn_A_size.1.cls zm_A_size.1 zh_A_size = true := by decide +kernel
def zh_A_forget : List Nat := [9999, 9999, 288, 9999]
theorem zk_A_forget : zz_dec zn_A_forget.2.1 zm_A_forget.1 = true := by decide +kernel
theorem zl_A_forget : zz_lks zn_A_forget.1.cls zm_A_forget.1 zh_A_forget = true := by decide +kernel
def zh_A_remember : List Nat := [9999, 287, 9999, 9999, 287, 9999, 9999, 9999, 9999, 286, 9999, 287, 9999, 9999, 484, 9999, 9999, 287, 9999, 9999, 9999, 9999, 287, 9999, 9999, 288, 9999, 9999, 9999, 1037, 288, 9999]
theorem zk_A_remember : zz_dec zn_A_remember.2.1 zm_A_remember.1 = true := by decide +kernel
theorem zl_A_remember : zz_lks zn_A_remember.1.cls zm_A_remember.1 zh_A_remember = true := by decide +kernel
def zh_A_goBack : List Nat := [9999, 288, 9999, 9999, 9999, 9999, 9999, 287, 9999, 9999, 9999, 9999, 9999, 9999, 287, 9999, 9999, 288, 9999, 9999, 288, 9999, 9999, 286, 9999, 287, 9999, 484, 9999, 9999]
theorem zk_A_goBack : zz_dec zn_A_goBack.2.1 zm_A_goBack.1 = true := by decide +kernel
theorem zl_A_goBack : zz_lks zn_A_goBack.1.cls zm_A_goBack.1 zh_A_goBack = true := by decide +kernel
def zh_G_init : List Nat := [9999, 301, 9999, 9999, 9999, 302, 9999]
theorem zk_G_init : zz_dec zn_G_init.2.1 zm_G_init.1 = true := by decide +kernel
theorem zl_G_init : zz_lks zn_G_init.1.cls zm_G_init.1 zh_G_init = true := by decide +kernel
def zh_G_fewestPlaces : List Nat := [9999, 9999, 9999, 9999, 9999, 9999, 302, 9999, 863, 9999, 9999, 9999, 9999, 302, 9999, 9999, 9999, 9999, 9999, 9999, 9999, 9999, 9999, 9999, 9999, 9999, 864, 9999, 9999, 9999, 9999, 9999, 9999, 9999, 9999, 9999, 9999, 9999, 9999, 9999, 9999, 9999, 868, 9999, 9999, 9999, 9999, 9999, 9999, 9999, 9999, 9999, 9999, 9999, 302, 9999, 9999, 9999, 9999, 302, 9999, 9999, 9999, 9999, 9999, 302, 9999, 9999, 9999, 9999, 869, 9999, 9999, 9999, 9999, 9999, 9999, 302, 9999, 9999, 863, 9999, 9999, 9999, 9999, 302, 9999, 9999, 870, 9999, 9999]
theorem zk_G_fewestPlaces : zz_dec zn_G_fewestPlaces.2.1 zm_G_fewestPlaces.1 = true := by decide +kernel
theorem zl_G_fewestPlaces : zz_lks zn_G_fewestPlaces.1.cls zm_G_fewestPlaces.1 zh_G_fewestPlaces = true := by decide +kernel
def zh_G_fewestTellers : List Nat := [9999, 9999, 9999, 9999, 9999, 9999, 402, 9999, 9999, 9999, 9999, 9999, 406, 9999, 406, 9999, 9999, 9999, 9999, 9999, 9999, 9999, 9999, 9999, 9999, 412, 9999, 9999, 9999, 9999, 9999, 9999, 9999, 9999, 9999, 9999]
theorem zk_G_fewestTellers : zz_dec zn_G_fewestTellers.2.1 zm_G_fewestTellers.1 = true := by decide +kernel
theorem zl_G_fewestTellers : zz_lks zn_G_fewestTellers.1.cls zm_G_fewestTellers.1 zh_G_fewestTellers = true := by decide +kernel
def zh_G_fillBerths : List Nat := [9999, 9999, 9999, 9999, 9999, 9999, 302, 9999, 9999, 9999, 9999, 9999, 9999, 9999, 9999, 9999, 9999, 9999, 9999, 9999, 9999, 9999, 9999, 9999, 9999, 9999, 402, 9999, 9999, 302, 9999, 9999, 9999, 9999, 9999, 9999, 9999, 9999, 9999, 9999, 9999, 9999, 9999, 189, 9999, 9999, 9999, 9999, 9999, 9999, 1260, 9999, 9999, 9999, 1261, 1269, 9999, 9999, 9999, 9999, 302, 9999, 9999, 9999, 9999, 9999, 9999, 9999, 9999, 9999, 9999, 9999, 9999]
theorem zk_G_fillBerths : zz_dec zn_G_fillBerths.2.1 zm_G_fillBerths.1 = true := by decide +kernel
theorem zl_G_fillBerths : zz_lks zn_G_fillBerths.1.cls zm_G_fillBerths.1 zh_G_fillBerths = true := by decide +kernel
def zh_G_berthsFilled : List Nat := [9999, 302, 9999, 9999, 9999]
theorem zk_G_berthsFilled : zz_dec zn_G_berthsFilled.2.1 zm_G_berthsFilled.1 = true := by decide +kernel
theorem zl_G_berthsFilled : zz_lks zn_G_berthsFilled.1.cls zm_G_berthsFilled.1 zh_G_berthsFilled = true := by decide +kernel
def zh_G_berthPerson : List Nat := [9999, 9999, 9999, 9999, 9999, 9999, 9999, 9999, 9999, 9999, 9999, 1260, 9999, 9999, 1278, 9999, 9999, 9999, 9999, 9999, 9999, 9999, 9999, 9999, 9999, 9999, 9999, 9999, 9999, 9999, 9999, 9999, 9999, 9999]
theorem zk_G_berthPerson : zz_dec zn_G_berthPerson.2.1 zm_G_berthPerson.1 = true := by decide +kernel
theorem zl_G_berthPerson : zz_lks zn_G_berthPerson.1.cls zm_G_berthPerson.1 zh_G_berthPerson = true := by decide +kernel
def zh_G_firstForBerth : List Nat := [9999, 302, 9999, 9999, 9999, 9999, 9999, 9999, 9999, 9999, 302, 9999, 9999, 9999, 9999, 9999, 9999, 9999, 9999, 9999, 9999, 9999, 9999, 9999, 9999, 9999, 9999, 189, 9999, 9999, 9999, 9999, 9999, 9999, 9999, 1261, 9999, 9999, 9999, 9999, 9999, 9999, 9999, 9999]
theorem zk_G_firstForBerth : zz_dec zn_G_firstForBerth.2.1 zm_G_firstForBerth.1 = true := by decide +kernel
theorem zl_G_firstForBerth : zz_lks zn_G_firstForBerth.1.cls zm_G_firstForBerth.1 zh_G_firstForBerth = true := by decide +kernel
def zh_G_filledWith : List Nat := [9999, 9999, 9999, 9999, 9999, 9999, 9999, 9999, 9999, 9999, 9999, 9999, 1265, 9999, 9999, 9999, 9999, 9999, 9999, 9999, 9999, 9999, 9999, 9999, 9999, 9999, 9999, 9999, 302, 9999, 9999, 9999, 9999, 9999, 9999, 9999, 9999, 9999, 9999, 9999, 9999, 9999, 9999, 9999, 9999]
theorem zk_G_filledWith : zz_dec zn_G_filledWith.2.1 zm_G_filledWith.1 = true := by decide +kernel
theorem zl_G_filledWith : zz_lks zn_G_filledWith.1.cls zm_G_filledWith.1 zh_G_filledWith = true := by decide +kernel
def zh_G_pairPeople : List Nat := [9999, 402, 9999, 9999, 302, 9999, 9999, 9999, 9999, 9999, 9999, 9999, 9999, 9999, 9999, 1309, 9999, 9999, 302, 9999, 9999, 9999, 9999, 9999, 9999, 9999, 9999, 9999, 9999, 9999, 9999, 9999, 189, 9999, 9999, 9999, 9999, 9999, 9999, 9999, 1312, 1269, 9999, 9999, 9999, 9999, 302, 9999, 9999, 9999, 9999, 9999, 9999]
theorem zk_G_pairPeople : zz_dec zn_G_pairPeople.2.1 zm_G_pairPeople.1 = true := by decide +kernel
theorem zl_G_pairPeople : zz_lks zn_G_pairPeople.1.cls zm_G_pairPeople.1 zh_G_pairPeople = true := by decide +kernel
def zh_G_pairedDeeds : List Nat := [9999, 302, 9999, 9999, 9999]
theorem zk_G_pairedDeeds : zz_dec zn_G_pairedDeeds.2.1 zm_G_pairedDeeds.1 = true := by decide +kernel
theorem zl_G_pairedDeeds : zz_lks zn_G_pairedDeeds.1.cls zm_G_pairedDeeds.1 zh_G_pairedDeeds = true := by decide +kernel
def zh_G_partner : List Nat := [9999, 9999, 9999, 9999, 9999, 9999, 189, 9999, 9999, 9999, 9999, 9999, 9999, 9999, 9999, 9999, 9999, 9999, 1324, 9999, 9999, 9999, 9999, 9999, 9999, 9999, 9999, 9999, 9999, 9999, 9999, 9999, 9999, 9999, 9999, 9999, 9999, 9999, 9999, 9999, 9999, 9999, 9999, 9999, 9999, 9999, 9999, 9999, 9999]
theorem zk_G_partner : zz_dec zn_G_partner.2.1 zm_G_partner.1 = true := by decide +kernel
theorem zl_G_partner : zz_lks zn_G_partner.1.cls zm_G_partner.1 zh_G_partner = true := by decide +kernel
def zh_G_firstPartner : List Nat := [9999, 302, 9999, 9999, 9999, 9999, 9999, 9999, 9999, 302, 9999, 9999, 9999, 9999, 9999, 9999, 9999, 9999, 9999, 9999, 9999, 189, 9999, 9999, 9999, 9999, 9999, 9999, 1312, 9999, 302, 9999, 9999, 9999, 9999, 9999, 9999, 9999, 9999, 9999]
theorem zk_G_firstPartner : zz_dec zn_G_firstPartner.2.1 zm_G_firstPartner.1 = true := by decide +kernel
theorem zl_G_firstPartner : zz_lks zn_G_firstPartner.1.cls zm_G_firstPartner.1 zh_G_firstPartner = true := by decide +kernel
def zh_G_gainedWith : List Nat := [9999, 9999, 9999, 9999, 9999, 9999, 9999, 9999, 9999, 9999, 9999, 9999, 9999, 9999, 9999, 9999, 1265, 9999, 9999, 1265, 9999, 9999, 9999, 406, 9999, 302, 9999, 9999, 9999, 9999, 9999, 9999]
theorem zk_G_gainedWith : zz_dec zn_G_gainedWith.2.1 zm_G_gainedWith.1 = true := by decide +kernel
theorem zl_G_gainedWith : zz_lks zn_G_gainedWith.1.cls zm_G_gainedWith.1 zh_G_gainedWith = true := by decide +kernel
def zh_G_firstUnsettled : List Nat := [9999, 9999, 9999, 9999, 9999, 9999, 9999, 9999, 9999, 9999, 9999, 9999, 9999, 9999, 9999]
theorem zk_G_firstUnsettled : zz_dec zn_G_firstUnsettled.2.1 zm_G_firstUnsettled.1 = true := by decide +kernel
theorem zl_G_firstUnsettled : zz_lks zn_G_firstUnsettled.1.cls zm_G_firstUnsettled.1 zh_G_firstUnsettled = true := by decide +kernel
def zh_H_readAll : List Nat := [9999, 9999, 9999, 9999, 9999, 9999, 9999, 9999, 558, 9999, 9999, 9999, 570, 9999, 9999, 9999]
theorem zk_H_readAll : zz_dec zn_H_readAll.2.1 zm_H_readAll.1 = true := by decide +kernel
theorem zl_H_readAll : zz_lks zn_H_readAll.1.cls zm_H_readAll.1 zh_H_readAll = true := by decide +kernel
def zh_H_readLine : List Nat := [9999, 573, 574, 9999, 9999, 9999, 630, 9999, 9999, 188, 9999, 9999, 9999, 653, 574, 9999, 9999, 9999, 654, 9999, 9999, 664, 574, 9999, 9999, 9999, 9999, 648, 192, 9999, 9999, 665, 574, 9999, 9999, 9999, 9999, 648, 199, 9999, 9999, 666, 574, 9999, 9999, 9999, 9999, 648, 195, 9999, 9999, 667, 9999]
theorem zk_H_readLine : zz_dec zn_H_readLine.2.1 zm_H_readLine.1 = true := by decide +kernel
theorem zl_H_readLine : zz_lks zn_H_readLine.1.cls zm_H_readLine.1 zh_H_readLine = true := by decide +kernel
def zh_H_readKind : List Nat := [9999, 633, 9999, 9999, 637, 638, 9999, 9999, 9999, 9999, 9999, 9999, 9999, 9999, 9999, 643, 9999, 9999, 9999, 9999, 9999, 9999, 9999, 9999, 9999, 647, 574, 9999, 9999, 9999, 648, 9999, 9999, 9999, 9999, 652, 574, 9999, 9999, 633, 9999, 9999, 9999, 9999, 9999, 9999, 9999, 9999, 9999, 9999, 157, 9999, 9999, 9999, 9999, 9999, 9999, 9999, 162, 9999, 9999, 9999, 9999, 9999, 9999, 9999, 167, 9999, 9999, 9999, 9999]
theorem zk_H_readKind : zz_dec zn_H_readKind.2.1 zm_H_readKind.1 = true := by decide +kernel
theorem zl_H_readKind : zz_lks zn_H_readKind.1.cls zm_H_readKind.1 zh_H_readKind = true := by decide +kernel
def zh_H_readPerson : List Nat := [9999, 657, 638, 9999, 9999, 648, 9999, 9999, 658, 638, 9999, 9999, 648, 9999, 9999, 659, 574, 9999, 9999, 633, 9999, 9999, 9999, 9999, 9999, 9999, 9999, 660, 9999]
theorem zk_H_readPerson : zz_dec zn_H_readPerson.2.1 zm_H_readPerson.1 = true := by decide +kernel
theorem zl_H_readPerson : zz_lks zn_H_readPerson.1.cls zm_H_readPerson.1 zh_H_readPerson = true := by decide +kernel
def zh_J_readAll : List Nat := [9999, 768, 9999, 9999, 9999, 9999, 9999, 9999, 9999, 9999, 772, 9999, 9999, 9999, 773, 9999, 9999, 9999]
theorem zk_J_readAll : zz_dec zn_J_readAll.2.1 zm_J_readAll.1 = true := by decide +kernel
theorem zl_J_readAll : zz_lks zn_J_readAll.1.cls zm_J_readAll.1 zh_J_readAll = true := by decide +kernel
def zh_J_readLine : List Nat := [9999, 9999, 9999, 776, 777, 9999, 9999, 9999, 9999, 9999, 778, 777, 9999, 9999, 9999, 9999, 9999, 779, 777, 9999, 9999, 9999, 9999, 9999, 780, 9999, 9999, 781, 9999, 9999, 782, 777, 9999, 9999, 9999, 9999, 783, 9999, 9999, 9999, 827, 9999]
theorem zk_J_readLine : zz_dec zn_J_readLine.2.1 zm_J_readLine.1 = true := by decide +kernel
theorem zl_J_readLine : zz_lks zn_J_readLine.1.cls zm_J_readLine.1 zh_J_readLine = true := by decide +kernel
def zh_J_readAnyOf : List Nat := [9999, 9999, 9999, 786, 9999, 9999, 9999, 9999, 9999, 9999, 826, 777, 9999, 9999, 9999, 9999, 786, 9999, 9999, 793, 9999, 9999, 9999]
theorem zk_J_readAnyOf : zz_dec zn_J_readAnyOf.2.1 zm_J_readAnyOf.1 = true := by decide +kernel
theorem zl_J_readAnyOf : zz_lks zn_J_readAnyOf.1.cls zm_J_readAnyOf.1 zh_J_readAnyOf = true := by decide +kernel
def zh_J_readAllOf : List Nat := [9999, 9999, 9999, 789, 9999, 9999, 9999, 9999, 9999, 9999, 825, 777, 9999, 9999, 9999, 9999, 789, 9999, 9999, 793, 9999, 9999, 9999]
theorem zk_J_readAllOf : zz_dec zn_J_readAllOf.2.1 zm_J_readAllOf.1 = true := by decide +kernel
theorem zl_J_readAllOf : zz_lks zn_J_readAllOf.1.cls zm_J_readAllOf.1 zh_J_readAllOf = true := by decide +kernel
def zh_J_readAtom : List Nat := [9999, 9999, 9999, 9999, 792, 777, 9999, 9999, 9999, 9999, 9999, 9999, 789, 9999, 9999, 793, 9999, 9999, 9999, 9999, 9999, 9999, 797, 9999, 9999, 9999, 9999, 9999, 9999, 783, 9999, 9999, 798, 9999, 9999, 802, 777, 9999, 9999, 9999, 793, 9999, 9999, 803, 777, 9999, 9999, 9999, 793, 9999, 9999, 9999, 804, 9999, 9999, 797, 9999, 9999, 9999, 9999, 9999, 798, 9999, 9999, 804, 9999, 9999, 9999, 9999, 9999, 9999, 793, 9999]
theorem zk_J_readAtom : zz_dec zn_J_readAtom.2.1 zm_J_readAtom.1 = true := by decide +kernel
theorem zl_J_readAtom : zz_lks zn_J_readAtom.1.cls zm_J_readAtom.1 zh_J_readAtom = true := by decide +kernel
def zh_J_readSum : List Nat := [9999, 9999, 807, 793, 9999, 9999, 9999, 9999, 9999, 9999, 9999, 797, 9999, 9999, 9999, 807, 793, 9999, 9999, 793, 9999, 9999, 9999]
theorem zk_J_readSum : zz_dec zn_J_readSum.2.1 zm_J_readSum.1 = true := by decide +kernel
theorem zl_J_readSum : zz_lks zn_J_readSum.1.cls zm_J_readSum.1 zh_J_readSum = true := by decide +kernel
def zh_J_readPart : List Nat := [9999, 810, 9999, 9999, 9999, 9999, 781, 9999, 9999, 9999, 9999, 9999, 9999, 9999, 9999, 9999, 814, 777, 9999, 9999, 9999, 9999, 9999, 9999, 780, 9999, 9999]
theorem zk_J_readPart : zz_dec zn_J_readPart.2.1 zm_J_readPart.1 = true := by decide +kernel
theorem zl_J_readPart : zz_lks zn_J_readPart.1.cls zm_J_readPart.1 zh_J_readPart = true := by decide +kernel
def zh_J_partWord : List Nat := [9999, 9999, 817, 9999, 818, 9999, 819, 9999, 820, 9999, 821, 9999, 822, 9999, 823, 9999, 824, 9999]
theorem zk_J_partWord : zz_dec zn_J_partWord.2.1 zm_J_partWord.1 = true := by decide +kernel
theorem zl_J_partWord : zz_lks zn_J_partWord.1.cls zm_J_partWord.1 zh_J_partWord = true := by decide +kernel
def zh_N_init : List Nat := [9999, 124, 9999, 127, 9999, 129, 306, 9999, 9999, 307, 9999, 150, 9999, 152, 308, 9999, 150, 9999, 152, 309, 9999, 150, 9999, 152, 310, 9999, 245, 9999, 247, 311, 9999, 245, 9999, 247, 312, 9999, 245, 9999, 247, 313, 9999, 9999, 314, 9999, 277, 9999, 279, 315, 9999, 296, 9999, 298, 316, 9999]
theorem zk_N_init : zz_dec zn_N_init.2.1 zm_N_init.1 = true := by decide +kernel
theorem zl_N_init : zz_lks zn_N_init.1.cls zm_N_init.1 zh_N_init = true := by decide +kernel
def zh_N_feed : List Nat := [9999, 306, 344, 9999, 9999, 9999, 9999, 9999, 9999, 9999, 306, 9999, 348, 9999, 306, 9999, 348, 9999, 306, 9999, 348, 9999, 306, 9999, 348, 9999, 306, 9999, 348, 9999, 306, 344, 9999]
theorem zk_N_feed : zz_dec zn_N_feed.2.1 zm_N_feed.1 = true := by decide +kernel
theorem zl_N_feed : zz_lks zn_N_feed.1.cls zm_N_feed.1 zh_N_feed = true := by decide +kernel
def zh_N_end : List Nat := [9999, 9999, 9999, 9999, 306, 344, 9999, 9999, 9999, 9999, 306, 9999, 356, 9999, 9999]
theorem zk_N_end : zz_dec zn_N_end.2.1 zm_N_end.1 = true := by decide +kernel
theorem zl_N_end : zz_lks zn_N_end.1.cls zm_N_end.1 zh_N_end = true := by decide +kernel
def zh_N_shop : List Nat := [9999, 306, 543, 9999, 309, 9999, 308, 495, 9999, 306, 9999, 309, 555, 9999, 9999, 306, 668, 307, 9999, 307, 9999, 9999, 672, 9999, 308, 204, 9999, 9999, 742, 9999, 309, 9999, 204, 9999, 9999, 204, 9999, 308, 9999, 309, 495, 9999, 315, 505, 9999, 308, 204, 9999]
theorem zk_N_shop : zz_dec zn_N_shop.2.1 zm_N_shop.1 = true := by decide +kernel
theorem zl_N_shop : zz_lks zn_N_shop.1.cls zm_N_shop.1 zh_N_shop = true := by decide +kernel
