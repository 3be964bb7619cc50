def zh_jm_max : List Nat := [9999, 9999, 9999, 9999, 9999, 9999, 9999]
theorem zk_jm_max : zz_dec zn_jm_max.2.1 zm_jm_max.1 = true := by decide +kernel
theorem zl_jm_max : zz_lks zn_jm_max.1.cls zm_jm_max.1 zh_jm_max = true := by decide +kernel
def zh_jm_min : List Nat := [9999, 9999, 9999, 9999, 9999, 9999, 9999]
theorem zk_jm_min : zz_dec zn_jm_min.2.1 zm_jm_min.1 = true := by decide +kernel
theorem zl_jm_min : zz_lks zn_jm_min.1.cls zm_jm_min.1 zh_jm_min = true := by decide +kernel
def zh_ji_bitCount : List Nat := [9999, 9999, 9999, 9999, 409, 9999, 9999, 9999, 9999, 410, 9999, 9999, 9999, 9999, 410, 9999, 9999, 9999, 9999, 9999, 9999, 9999, 9999, 411, 9999, 9999, 9999, 9999, 9999, 9999, 9999, 9999, 9999, 9999, 9999, 9999, 9999, 9999, 9999, 9999, 9999, 9999]
theorem zk_ji_bitCount : zz_dec zn_ji_bitCount.2.1 zm_ji_bitCount.1 = true := by decide +kernel
theorem zl_ji_bitCount : zz_lks zn_ji_bitCount.1.cls zm_ji_bitCount.1 zh_ji_bitCount = true := by decide +kernel
def zh_jl_bitCount : List Nat := [9999, 9999, 9999, 9999, 1226, 9999, 9999, 9999, 9999, 1227, 9999, 9999, 9999, 9999, 1227, 9999, 9999, 9999, 9999, 9999, 9999, 9999, 9999, 1228, 9999, 9999, 9999, 9999, 9999, 9999, 9999, 9999, 9999, 9999, 9999, 9999, 9999, 9999, 9999, 9999, 9999, 9999, 9999, 9999, 9999, 9999, 9999, 9999, 9999]
theorem zk_jl_bitCount : zz_dec zn_jl_bitCount.2.1 zm_jl_bitCount.1 = true := by decide +kernel
theorem zl_jl_bitCount : zz_lks zn_jl_bitCount.1.cls zm_jl_bitCount.1 zh_jl_bitCount = true := by decide +kernel
def zh_F_pieces : List Nat := [9999, 9999, 9999, 9999, 9999, 9999, 9999, 9999, 9999, 9999, 9999, 9999, 9999, 9999, 9999, 9999, 9999, 879, 9999, 9999, 9999, 9999, 9999, 9999, 9999, 9999, 9999]
theorem zk_F_pieces : zz_dec zn_F_pieces.2.1 zm_F_pieces.1 = true := by decide +kernel
theorem zl_F_pieces : zz_lks zn_F_pieces.1.cls zm_F_pieces.1 zh_F_pieces = true := by decide +kernel
def zh_F_largestPiece : List Nat := [9999, 9999, 9999, 9999, 9999, 9999, 9999, 9999, 9999, 9999, 9999, 9999, 9999, 9999, 9999, 9999, 879, 9999, 9999, 9999, 9999, 9999, 9999, 9999, 9999, 9999, 890, 891, 9999, 9999, 9999, 9999, 9999]
theorem zk_F_largestPiece : zz_dec zn_F_largestPiece.2.1 zm_F_largestPiece.1 = true := by decide +kernel
theorem zl_F_largestPiece : zz_lks zn_F_largestPiece.1.cls zm_F_largestPiece.1 zh_F_largestPiece = true := by decide +kernel
def zh_F_holes : List Nat := [886, 9999, 9999, 9999, 9999, 9999, 9999, 9999, 895, 9999, 9999, 879, 9999, 9999, 9999, 9999]
theorem zk_F_holes : zz_dec zn_F_holes.2.1 zm_F_holes.1 = true := by decide +kernel
theorem zl_F_holes : zz_lks zn_F_holes.1.cls zm_F_holes.1 zh_F_holes = true := by decide +kernel
def zh_F_steps : List Nat := [9999, 9999, 9999, 9999, 9999, 9999, 9999, 9999, 9999, 9999, 9999, 9999, 9999, 9999, 9999, 9999, 9999, 9999, 9999, 9999, 882, 9999, 9999, 9999, 9999, 9999, 9999, 9999]
theorem zk_F_steps : zz_dec zn_F_steps.2.1 zm_F_steps.1 = true := by decide +kernel
theorem zl_F_steps : zz_lks zn_F_steps.1.cls zm_F_steps.1 zh_F_steps = true := by decide +kernel
def zh_F_quarterTurns : List Nat := [9999, 9999, 9999, 9999, 9999, 9999, 9999, 9999, 9999, 9999, 9999, 9999, 9999, 1173, 9999, 9999, 9999, 9999, 9999]
theorem zk_F_quarterTurns : zz_dec zn_F_quarterTurns.2.1 zm_F_quarterTurns.1 = true := by decide +kernel
theorem zl_F_quarterTurns : zz_lks zn_F_quarterTurns.1.cls zm_F_quarterTurns.1 zh_F_quarterTurns = true := by decide +kernel
def zh_F_bestShift : List Nat := [9999, 9999, 9999, 9999, 9999, 9999, 9999, 9999, 9999, 9999, 9999, 9999, 1186, 9999, 9999, 9999, 9999, 9999, 9999, 9999, 9999, 9999, 9999, 9999, 9999]
theorem zk_F_bestShift : zz_dec zn_F_bestShift.2.1 zm_F_bestShift.1 = true := by decide +kernel
theorem zl_F_bestShift : zz_lks zn_F_bestShift.1.cls zm_F_bestShift.1 zh_F_bestShift = true := by decide +kernel
def zh_F_lyingOn : List Nat := [9999, 9999, 9999, 9999, 9999, 9999, 9999, 9999, 9999, 9999, 9999, 9999, 9999, 9999, 9999, 9999, 9999, 9999, 9999, 9999, 885, 9999, 9999, 9999, 9999, 9999, 9999, 9999, 9999, 9999, 9999, 9999, 9999, 9999, 9999, 9999, 9999, 9999, 9999, 9999, 9999, 9999, 9999, 9999, 9999, 9999, 9999, 9999, 9999, 9999, 9999, 9999, 9999, 9999, 9999, 9999, 9999, 9999, 890, 9999]
theorem zk_F_lyingOn : zz_dec zn_F_lyingOn.2.1 zm_F_lyingOn.1 = true := by decide +kernel
theorem zl_F_lyingOn : zz_lks zn_F_lyingOn.1.cls zm_F_lyingOn.1 zh_F_lyingOn = true := by decide +kernel
def zh_F_turnedOnce : List Nat := [9999, 9999, 9999, 9999, 9999, 9999, 9999, 9999, 9999, 9999, 9999, 9999, 9999, 9999, 9999, 9999, 9999, 9999, 9999, 9999, 9999, 9999, 9999, 9999, 9999, 9999, 9999, 9999, 9999, 9999, 9999, 9999, 9999, 9999, 9999, 9999, 9999]
theorem zk_F_turnedOnce : zz_dec zn_F_turnedOnce.2.1 zm_F_turnedOnce.1 = true := by decide +kernel
theorem zl_F_turnedOnce : zz_lks zn_F_turnedOnce.1.cls zm_F_turnedOnce.1 zh_F_turnedOnce = true := by decide +kernel
def zh_F_spread : List Nat := [9999, 9999, 9999, 9999, 9999, 9999, 9999, 9999, 882, 9999, 9999, 9999, 9999, 9999, 9999, 9999]
theorem zk_F_spread : zz_dec zn_F_spread.2.1 zm_F_spread.1 = true := by decide +kernel
theorem zl_F_spread : zz_lks zn_F_spread.1.cls zm_F_spread.1 zh_F_spread = true := by decide +kernel
def zh_F_grown : List Nat := [9999, 885, 9999, 9999, 9999, 9999, 9999, 9999, 9999, 9999, 9999, 9999, 9999, 9999, 9999, 886, 9999, 9999, 9999, 9999, 9999, 9999, 9999, 9999, 9999, 9999, 9999, 9999]
theorem zk_F_grown : zz_dec zn_F_grown.2.1 zm_F_grown.1 = true := by decide +kernel
theorem zl_F_grown : zz_lks zn_F_grown.1.cls zm_F_grown.1 zh_F_grown = true := by decide +kernel
def zh_E_allWithin : List Nat := [9999, 9999, 9999, 9999, 9999, 9999, 9999, 9999, 9999, 9999, 9999, 9999, 9999, 9999, 9999, 9999, 9999, 9999, 9999, 9999, 9999, 166, 9999, 9999, 9999, 9999, 9999, 9999, 9999]
theorem zk_E_allWithin : zz_dec zn_E_allWithin.2.1 zm_E_allWithin.1 = true := by decide +kernel
theorem zl_E_allWithin : zz_lks zn_E_allWithin.1.cls zm_E_allWithin.1 zh_E_allWithin = true := by decide +kernel
def zh_E_depth : List Nat := [9999, 9999, 9999, 9999, 9999, 9999, 9999, 9999, 9999, 9999, 9999, 9999, 9999, 9999, 9999, 166, 9999, 9999, 9999, 9999, 9999, 9999, 9999]
theorem zk_E_depth : zz_dec zn_E_depth.2.1 zm_E_depth.1 = true := by decide +kernel
theorem zl_E_depth : zz_lks zn_E_depth.1.cls zm_E_depth.1 zh_E_depth = true := by decide +kernel
def zh_E_comesBack : List Nat := [9999, 166, 9999, 9999, 9999, 9999, 9999, 9999, 9999, 9999, 1200, 9999, 9999, 9999, 9999, 9999, 9999, 9999, 9999, 9999]
theorem zk_E_comesBack : zz_dec zn_E_comesBack.2.1 zm_E_comesBack.1 = true := by decide +kernel
theorem zl_E_comesBack : zz_lks zn_E_comesBack.1.cls zm_E_comesBack.1 zh_E_comesBack = true := by decide +kernel
def zh_E_deepestKind : List Nat := [9999, 9999, 9999, 9999, 9999, 9999, 9999, 9999, 9999, 9999, 9999, 377, 9999, 9999, 9999, 9999, 9999, 9999, 9999, 9999, 9999, 9999, 9999, 9999]
theorem zk_E_deepestKind : zz_dec zn_E_deepestKind.2.1 zm_E_deepestKind.1 = true := by decide +kernel
theorem zl_E_deepestKind : zz_lks zn_E_deepestKind.1.cls zm_E_deepestKind.1 zh_E_deepestKind = true := by decide +kernel
def zh_T_init : List Nat := [9999, 132, 9999, 9999, 9999, 133, 9999, 9999, 137, 9999]
theorem zk_T_init : zz_dec zn_T_init.2.1 zm_T_init.1 = true := by decide +kernel
theorem zl_T_init : zz_lks zn_T_init.1.cls zm_T_init.1 zh_T_init = true := by decide +kernel
def zh_T_size : List Nat := [9999, 134, 9999]
theorem zk_T_size : zz_dec zn_T_size.2.1 zm_T_size.1 = true := by decide +kernel
theorem zl_T_size : zz_lks zn_T_size.1.cls zm_T_size.1 zh_T_size = true := by decide +kernel
def zh_T_put : List Nat := [9999, 9999, 9999, 9999, 9999, 134, 9999, 9999, 9999, 133, 9999, 134, 9999, 9999, 9999, 9999, 9999, 9999, 9999, 9999, 134, 9999, 9999, 134, 9999, 9999, 9999]
theorem zk_T_put : zz_dec zn_T_put.2.1 zm_T_put.1 = true := by decide +kernel
theorem zl_T_put : zz_lks zn_T_put.1.cls zm_T_put.1 zh_T_put = true := by decide +kernel
def zh_T_cut : List Nat := [9999, 9999, 9999, 9999, 134, 360, 363, 134, 9999]
theorem zk_T_cut : zz_dec zn_T_cut.2.1 zm_T_cut.1 = true := by decide +kernel
theorem zl_T_cut : zz_lks zn_T_cut.1.cls zm_T_cut.1 zh_T_cut = true := by decide +kernel
def zh_T_useUp : List Nat := [9999, 134, 9999, 9999, 9999, 134, 9999, 9999]
theorem zk_T_useUp : zz_dec zn_T_useUp.2.1 zm_T_useUp.1 = true := by decide +kernel
theorem zl_T_useUp : zz_lks zn_T_useUp.1.cls zm_T_useUp.1 zh_T_useUp = true := by decide +kernel
def zh_T_byteAt : List Nat := [9999, 9999, 9999, 9999, 9999, 9999, 9999, 9999, 133, 9999, 9999, 9999]
theorem zk_T_byteAt : zz_dec zn_T_byteAt.2.1 zm_T_byteAt.1 = true := by decide +kernel
theorem zl_T_byteAt : zz_lks zn_T_byteAt.1.cls zm_T_byteAt.1 zh_T_byteAt = true := by decide +kernel
def zh_T_open : List Nat := [9999, 9999, 547, 135, 9999, 9999, 137, 9999, 9999, 551, 9999]
theorem zk_T_open : zz_dec zn_T_open.2.1 zm_T_open.1 = true := by decide +kernel
theorem zl_T_open : zz_lks zn_T_open.1.cls zm_T_open.1 zh_T_open = true := by decide +kernel
def zh_T_wrongByte : List Nat := [9999, 137, 9999]
theorem zk_T_wrongByte : zz_dec zn_T_wrongByte.2.1 zm_T_wrongByte.1 = true := by decide +kernel
theorem zl_T_wrongByte : zz_lks zn_T_wrongByte.1.cls zm_T_wrongByte.1 zh_T_wrongByte = true := by decide +kernel
def zh_T_fail : List Nat := [9999, 137, 9999, 9999, 9999, 9999, 136, 137, 9999, 9999, 135, 136, 9999]
theorem zk_T_fail : zz_dec zn_T_fail.2.1 zm_T_fail.1 = true := by decide +kernel
theorem zl_T_fail : zz_lks zn_T_fail.1.cls zm_T_fail.1 zh_T_fail = true := by decide +kernel
def zh_T_takeSign : List Nat := [9999, 136, 9999, 135, 9999, 9999, 133, 9999, 136, 9999, 9999, 9999, 9999, 9999, 9999, 9999, 136, 9999, 9999, 551, 9999, 9999]
theorem zk_T_takeSign : zz_dec zn_T_takeSign.2.1 zm_T_takeSign.1 = true := by decide +kernel
theorem zl_T_takeSign : zz_lks zn_T_takeSign.1.cls zm_T_takeSign.1 zh_T_takeSign = true := by decide +kernel
def zh_T_needSign : List Nat := [9999, 9999, 562, 9999, 9999, 566, 9999]
theorem zk_T_needSign : zz_dec zn_T_needSign.2.1 zm_T_needSign.1 = true := by decide +kernel
theorem zl_T_needSign : zz_lks zn_T_needSign.1.cls zm_T_needSign.1 zh_T_needSign = true := by decide +kernel
def zh_T_takeLine : List Nat := [9999, 9999, 9999, 136, 9999, 135, 9999, 9999, 9999, 9999, 9999, 9999, 9999, 562, 9999, 9999, 9999, 9999, 9999, 9999, 9999, 9999, 136, 9999, 135, 9999, 9999, 566, 9999, 9999, 9999, 9999]
theorem zk_T_takeLine : zz_dec zn_T_takeLine.2.1 zm_T_takeLine.1 = true := by decide +kernel
theorem zl_T_takeLine : zz_lks zn_T_takeLine.1.cls zm_T_takeLine.1 zh_T_takeLine = true := by decide +kernel
def zh_T_takeWord : List Nat := [9999, 9999, 9999, 578, 9999, 9999, 9999, 136, 9999, 9999, 582, 9999, 9999, 9999, 9999, 136, 9999, 9999, 9999, 9999, 9999, 133, 9999, 9999, 9999, 9999, 9999, 136, 9999, 592, 9999, 9999, 9999, 9999, 9999, 9999, 9999, 551, 9999, 9999]
theorem zk_T_takeWord : zz_dec zn_T_takeWord.2.1 zm_T_takeWord.1 = true := by decide +kernel
theorem zl_T_takeWord : zz_lks zn_T_takeWord.1.cls zm_T_takeWord.1 zh_T_takeWord = true := by decide +kernel
def zh_T_needWord : List Nat := [9999, 9999, 642, 9999, 9999, 566, 9999]
theorem zk_T_needWord : zz_dec zn_T_needWord.2.1 zm_T_needWord.1 = true := by decide +kernel
theorem zl_T_needWord : zz_lks zn_T_needWord.1.cls zm_T_needWord.1 zh_T_needWord = true := by decide +kernel
def zh_T_atNumber : List Nat := [9999, 9999, 9999, 578, 9999, 136, 9999, 9999, 9999, 9999, 9999]
theorem zk_T_atNumber : zz_dec zn_T_atNumber.2.1 zm_T_atNumber.1 = true := by decide +kernel
theorem zl_T_atNumber : zz_lks zn_T_atNumber.1.cls zm_T_atNumber.1 zh_T_atNumber = true := by decide +kernel
def zh_T_takeNumber : List Nat := [9999, 9999, 9999, 578, 9999, 9999, 9999, 9999, 136, 9999, 9999, 9999, 9999, 9999, 9999, 136, 9999, 9999, 9999, 9999, 9999, 9999, 9999, 133, 9999, 9999, 9999, 9999, 9999, 9999, 9999, 9999, 9999, 9999, 136, 9999, 9999, 9999, 136, 9999, 9999, 9999, 9999, 9999, 9999, 9999, 566, 9999, 9999, 9999, 9999, 551, 9999, 9999]
theorem zk_T_takeNumber : zz_dec zn_T_takeNumber.2.1 zm_T_takeNumber.1 = true := by decide +kernel
theorem zl_T_takeNumber : zz_lks zn_T_takeNumber.1.cls zm_T_takeNumber.1 zh_T_takeNumber = true := by decide +kernel
def zh_T_takeKind : List Nat := [9999, 9999, 9999, 578, 9999, 9999, 9999, 136, 9999, 9999, 9999, 9999, 133, 9999, 136, 9999, 9999, 9999, 9999, 566, 9999, 9999, 9999, 133, 9999, 136, 9999, 9999, 9999, 9999, 9999, 9999, 551, 9999, 9999]
theorem zk_T_takeKind : zz_dec zn_T_takeKind.2.1 zm_T_takeKind.1 = true := by decide +kernel
theorem zl_T_takeKind : zz_lks zn_T_takeKind.1.cls zm_T_takeKind.1 zh_T_takeKind = true := by decide +kernel
def zh_T_takeFigures : List Nat := [9999, 9999, 9999, 578, 9999, 9999, 9999, 9999, 9999, 136, 9999, 9999, 9999, 9999, 9999, 9999, 9999, 9999, 136, 9999, 9999, 9999, 9999, 9999, 9999, 9999, 133, 9999, 9999, 9999, 9999, 9999, 9999, 9999, 9999, 9999, 9999, 133, 9999, 9999, 9999, 9999, 9999, 9999, 136, 9999, 9999, 9999, 9999, 9999, 9999, 9999, 9999, 9999, 566, 9999, 9999, 9999, 9999, 551, 9999, 9999]
theorem zk_T_takeFigures : zz_dec zn_T_takeFigures.2.1 zm_T_takeFigures.1 = true := by decide +kernel
theorem zl_T_takeFigures : zz_lks zn_T_takeFigures.1.cls zm_T_takeFigures.1 zh_T_takeFigures = true := by decide +kernel
def zh_T_runEnd : List Nat := [9999, 136, 9999, 9999, 9999, 135, 9999, 9999, 133, 9999, 9999, 9999, 9999, 9999, 133, 9999, 9999, 9999, 9999, 9999, 9999, 9999, 9999]
theorem zk_T_runEnd : zz_dec zn_T_runEnd.2.1 zm_T_runEnd.1 = true := by decide +kernel
theorem zl_T_runEnd : zz_lks zn_T_runEnd.1.cls zm_T_runEnd.1 zh_T_runEnd = true := by decide +kernel
def zh_T_moveTo : List Nat := [9999, 9999, 136, 9999, 136, 9999, 135, 9999, 9999, 133, 9999, 136, 9999, 9999, 9999, 9999, 9999, 136, 9999, 9999, 136, 9999, 9999]
theorem zk_T_moveTo : zz_dec zn_T_moveTo.2.1 zm_T_moveTo.1 = true := by decide +kernel
theorem zl_T_moveTo : zz_lks zn_T_moveTo.1.cls zm_T_moveTo.1 zh_T_moveTo = true := by decide +kernel
def zh_U_narrowed : List Nat := [9999, 9999, 9999, 9999, 9999, 9999, 9999, 9999, 9999, 9999, 9999, 9999, 9999, 9999, 9999, 9999, 9999, 9999, 9999, 9999, 9999, 9999, 9999, 9999, 9999, 9999, 9999, 9999, 9999]
theorem zk_U_narrowed : zz_dec zn_U_narrowed.2.1 zm_U_narrowed.1 = true := by decide +kernel
theorem zl_U_narrowed : zz_lks zn_U_narrowed.1.cls zm_U_narrowed.1 zh_U_narrowed = true := by decide +kernel
def zh_U_fittingRows : List Nat := [387, 9999, 9999, 9999, 9999, 9999, 9999, 9999, 9999, 9999, 9999, 9999, 1222, 9999, 9999, 9999, 9999, 1222, 388, 9999, 9999, 9999, 9999, 9999]
theorem zk_U_fittingRows : zz_dec zn_U_fittingRows.2.1 zm_U_fittingRows.1 = true := by decide +kernel
theorem zl_U_fittingRows : zz_lks zn_U_fittingRows.1.cls zm_U_fittingRows.1 zh_U_fittingRows = true := by decide +kernel
def zh_U_fittingKinds : List Nat := [387, 9999, 9999, 9999, 9999, 9999, 9999, 9999, 9999, 9999, 161, 9999, 9999, 388, 9999, 9999, 9999, 9999, 9999]
theorem zk_U_fittingKinds : zz_dec zn_U_fittingKinds.2.1 zm_U_fittingKinds.1 = true := by decide +kernel
theorem zl_U_fittingKinds : zz_lks zn_U_fittingKinds.1.cls zm_U_fittingKinds.1 zh_U_fittingKinds = true := by decide +kernel
def zh_U_first : List Nat := [9999, 9999, 9999, 9999, 9999, 9999, 9999, 9999, 9999, 9999, 9999, 9999, 9999, 9999, 9999, 9999, 9999, 9999, 9999]
theorem zk_U_first : zz_dec zn_U_first.2.1 zm_U_first.1 = true := by decide +kernel
theorem zl_U_first : zz_lks zn_U_first.1.cls zm_U_first.1 zh_U_first = true := by decide +kernel
def zh_U_bestQuestion : List Nat := [9999, 1239, 9999, 9999, 9999, 9999, 9999, 9999, 9999, 9999, 9999, 9999, 9999, 9999, 9999, 9999, 9999, 1240, 9999, 9999, 9999, 9999, 9999, 9999, 9999, 9999, 9999, 9999, 9999, 9999]
theorem zk_U_bestQuestion : zz_dec zn_U_bestQuestion.2.1 zm_U_bestQuestion.1 = true := by decide +kernel
theorem zl_U_bestQuestion : zz_lks zn_U_bestQuestion.1.cls zm_U_bestQuestion.1 zh_U_bestQuestion = true := by decide +kernel
def zh_U_greatestPart : List Nat := [9999, 9999, 9999, 9999, 9999, 9999, 9999, 9999, 9999, 9999, 9999, 388, 1239, 1243, 9999, 9999, 9999, 9999, 9999]
theorem zk_U_greatestPart : zz_dec zn_U_greatestPart.2.1 zm_U_greatestPart.1 = true := by decide +kernel
theorem zl_U_greatestPart : zz_lks zn_U_greatestPart.1.cls zm_U_greatestPart.1 zh_U_greatestPart = true := by decide +kernel
def zh_S_init : List Nat := [9999, 155, 9999, 9999, 9999, 156, 9999, 9999, 9999, 160, 9999, 9999, 9999, 165, 9999, 9999, 9999, 169, 9999, 9999, 9999, 172, 9999, 9999, 9999, 175, 9999, 9999, 9999, 178, 9999, 9999, 9999, 181, 9999, 9999, 9999, 184, 9999, 9999, 9999, 186, 9999, 9999, 9999, 9999, 9999, 9999, 160, 9999, 9999, 9999, 9999, 165, 9999, 9999, 9999, 9999, 9999, 9999, 9999, 198, 9999, 9999, 201, 9999]
theorem zk_S_init : zz_dec zn_S_init.2.1 zm_S_init.1 = true := by decide +kernel
theorem zl_S_init : zz_lks zn_S_init.1.cls zm_S_init.1 zh_S_init = true := by decide +kernel
def zh_S_copyFrom : List Nat := [9999, 156, 9999, 9999, 156, 9999, 9999, 488, 9999, 160, 9999, 9999, 160, 9999, 9999, 488, 9999, 165, 9999, 9999, 165, 9999, 9999, 488, 9999, 169, 9999, 9999, 169, 9999, 9999, 488, 9999, 172, 9999, 9999, 172, 9999, 9999, 488, 9999, 175, 9999, 9999, 175, 9999, 9999, 488, 9999, 178, 9999, 9999, 178, 9999, 9999, 488, 9999, 181, 9999, 9999, 181, 9999, 9999, 488, 9999, 184, 9999, 9999, 184, 9999, 9999, 488, 9999, 186, 9999, 9999, 186, 9999, 9999, 488, 9999, 9999, 187, 187, 9999, 9999, 191, 191, 9999, 9999, 194, 194, 9999, 9999, 198, 198, 9999, 9999, 201, 201, 9999, 9999, 203, 203, 9999, 9999, 205, 205, 9999, 9999, 207, 207, 9999]
theorem zk_S_copyFrom : zz_dec zn_S_copyFrom.2.1 zm_S_copyFrom.1 = true := by decide +kernel
theorem zl_S_copyFrom : zz_lks zn_S_copyFrom.1.cls zm_S_copyFrom.1 zh_S_copyFrom = true := by decide +kernel
