/-! ALL ROWS: the checks of the methods, together. -/
def zz_okM (m : zz_M) (nm : zz_NM) : Prop := ∀ r ∈ m.1, decode nm.2.1 r.1 = .ok (r.2.1, zz_len r.1 r.2.1 r.2.2.1) ∧ ∃ n, zz_lk n = zz_word nm.1.cls r
def zz_okL (l : List (Nat × zz_I)) (nm : zz_NM) : Prop := ∀ r ∈ l, decode nm.2.1 r.1 = .ok (r.2.1, zz_len r.1 r.2.1 r.2.2.1) ∧ ∃ n, zz_lk n = zz_word nm.1.cls r
theorem zz_lks_mem : ∀ {own : String} {l : List (Nat × zz_I)} {ns : List Nat}, zz_lks own l ns = true → ∀ r ∈ l, ∃ n, zz_lk n = zz_word own r
  | own, [], ns, h, r, hr => by cases hr
  | own, q :: l, [], h, r, hr => by cases h
  | own, q :: l, n :: ns, h, r, hr => by
    have h2 := Bool.and_eq_true_iff.mp h
    rcases List.mem_cons.mp hr with e | hr
    · subst e
      exact ⟨n, of_decide_eq_true h2.1⟩
    · exact zz_lks_mem h2.2 r hr
theorem zz_okL_of {l : List (Nat × zz_I)} {nm : zz_NM} {ns : List Nat} (h : zz_dec nm.2.1 l = true) (k : zz_lks nm.1.cls l ns = true) : zz_okL l nm := fun r hr => ⟨of_decide_eq_true (List.all_eq_true.mp h r hr), zz_lks_mem k r hr⟩
theorem zz_okL_app {l l' : List (Nat × zz_I)} {nm : zz_NM} (h : zz_okL l nm) (k : zz_okL l' nm) : zz_okL (l ++ l') nm := fun r hr => (List.mem_append.mp hr).elim (h r) (k r)
/-- the decoded rows of a list from place q on -/
def zz_okD (cc : ByteArray) (l : List (Nat × zz_I)) (q : Nat) : Prop := zz_dec cc (l.drop q) = true
theorem zz_okD_last {cc : ByteArray} {l : List (Nat × zz_I)} {q : Nat} (h : zz_dec cc ((l.drop q).take 40) = true) (k : l.length ≤ q + 40 := by decide +kernel) : zz_okD cc l q := by
  unfold zz_okD
  rw [List.take_of_length_le (by rw [List.length_drop]; omega)] at h
  exact h
theorem zz_okD_cons {cc : ByteArray} {l : List (Nat × zz_I)} {q : Nat} (h : zz_dec cc ((l.drop q).take 40) = true) (k : zz_okD cc l (q + 40)) : zz_okD cc l q := by
  unfold zz_okD at k ⊢
  unfold zz_dec at h k ⊢
  rw [← List.take_append_drop 40 (l.drop q), List.all_append, h, List.drop_drop, k]
  rfl
theorem zz_okD_all {cc : ByteArray} {l : List (Nat × zz_I)} (h : zz_okD cc l 0) : zz_dec cc l = true := h
theorem zz_okL_of2 {l : List (Nat × zz_I)} {nm : zz_NM} {ns : List Nat} (h : zz_dec nm.2.1 l = true) (k : zz_lks nm.1.cls l ns = true) : zz_okL l nm := zz_okL_of h k
def zz_all : List zz_M → List zz_NM → Prop
  | m :: ms, n :: ns => zz_okL m.1 n ∧ zz_all ms ns
  | _, _ => True
theorem zz_all_get : ∀ {ms : List zz_M} {ns : List zz_NM}, zz_all ms ns → ∀ (k : Nat) (m : zz_M) (n : zz_NM), ms[k]? = some m → ns[k]? = some n → zz_okL m.1 n
  | [], ns, h, k, m, n, hm, hn => by simp at hm
  | m0 :: ms, [], h, k, m, n, hm, hn => by simp at hn
  | m0 :: ms, n0 :: ns, h, 0, m, n, hm, hn => by
    rw [List.getElem?_cons_zero] at hm hn
    cases hm; cases hn
    exact h.1
  | m0 :: ms, n0 :: ns, h, k + 1, m, n, hm, hn => by
    rw [List.getElem?_cons_succ] at hm hn
    exact zz_all_get h.2 k m n hm hn
theorem zo_jm_max : zz_okL zm_jm_max.1 zn_jm_max := zz_okL_of zk_jm_max zl_jm_max
theorem zo_jm_min : zz_okL zm_jm_min.1 zn_jm_min := zz_okL_of zk_jm_min zl_jm_min
theorem zo_ji_bitCount : zz_okL zm_ji_bitCount.1 zn_ji_bitCount := zz_okL_of zk_ji_bitCount zl_ji_bitCount
theorem zo_jl_bitCount : zz_okL zm_jl_bitCount.1 zn_jl_bitCount := zz_okL_of zk_jl_bitCount zl_jl_bitCount
theorem zo_F_pieces : zz_okL zm_F_pieces.1 zn_F_pieces := zz_okL_of zk_F_pieces zl_F_pieces
theorem zo_F_largestPiece : zz_okL zm_F_largestPiece.1 zn_F_largestPiece := zz_okL_of zk_F_largestPiece zl_F_largestPiece
theorem zo_F_holes : zz_okL zm_F_holes.1 zn_F_holes := zz_okL_of zk_F_holes zl_F_holes
theorem zo_F_steps : zz_okL zm_F_steps.1 zn_F_steps := zz_okL_of zk_F_steps zl_F_steps
theorem zo_F_quarterTurns : zz_okL zm_F_quarterTurns.1 zn_F_quarterTurns := zz_okL_of zk_F_quarterTurns zl_F_quarterTurns
theorem zo_F_bestShift : zz_okL zm_F_bestShift.1 zn_F_bestShift := zz_okL_of zk_F_bestShift zl_F_bestShift
theorem zo_F_lyingOn : zz_okL zm_F_lyingOn.1 zn_F_lyingOn := zz_okL_of zk_F_lyingOn zl_F_lyingOn
theorem zo_F_turnedOnce : zz_okL zm_F_turnedOnce.1 zn_F_turnedOnce := zz_okL_of zk_F_turnedOnce zl_F_turnedOnce
theorem zo_F_spread : zz_okL zm_F_spread.1 zn_F_spread := zz_okL_of zk_F_spread zl_F_spread
theorem zo_F_grown : zz_okL zm_F_grown.1 zn_F_grown := zz_okL_of zk_F_grown zl_F_grown
theorem zo_E_allWithin : zz_okL zm_E_allWithin.1 zn_E_allWithin := zz_okL_of zk_E_allWithin zl_E_allWithin
theorem zo_E_depth : zz_okL zm_E_depth.1 zn_E_depth := zz_okL_of zk_E_depth zl_E_depth
theorem zo_E_comesBack : zz_okL zm_E_comesBack.1 zn_E_comesBack := zz_okL_of zk_E_comesBack zl_E_comesBack
theorem zo_E_deepestKind : zz_okL zm_E_deepestKind.1 zn_E_deepestKind := zz_okL_of zk_E_deepestKind zl_E_deepestKind
theorem zo_T_init : zz_okL zm_T_init.1 zn_T_init := zz_okL_of zk_T_init zl_T_init
theorem zo_T_size : zz_okL zm_T_size.1 zn_T_size := zz_okL_of zk_T_size zl_T_size
theorem zo_T_put : zz_okL zm_T_put.1 zn_T_put := zz_okL_of zk_T_put zl_T_put
theorem zo_T_cut : zz_okL zm_T_cut.1 zn_T_cut := zz_okL_of zk_T_cut zl_T_cut
theorem zo_T_useUp : zz_okL zm_T_useUp.1 zn_T_useUp := zz_okL_of zk_T_useUp zl_T_useUp
theorem zo_T_byteAt : zz_okL zm_T_byteAt.1 zn_T_byteAt := zz_okL_of zk_T_byteAt zl_T_byteAt
theorem zo_T_open : zz_okL zm_T_open.1 zn_T_open := zz_okL_of zk_T_open zl_T_open
theorem zo_T_wrongByte : zz_okL zm_T_wrongByte.1 zn_T_wrongByte := zz_okL_of zk_T_wrongByte zl_T_wrongByte
theorem zo_T_fail : zz_okL zm_T_fail.1 zn_T_fail := zz_okL_of zk_T_fail zl_T_fail
theorem zo_T_takeSign : zz_okL zm_T_takeSign.1 zn_T_takeSign := zz_okL_of zk_T_takeSign zl_T_takeSign
theorem zo_T_needSign : zz_okL zm_T_needSign.1 zn_T_needSign := zz_okL_of zk_T_needSign zl_T_needSign
theorem zo_T_takeLine : zz_okL zm_T_takeLine.1 zn_T_takeLine := zz_okL_of zk_T_takeLine zl_T_takeLine
theorem zo_T_takeWord : zz_okL zm_T_takeWord.1 zn_T_takeWord := zz_okL_of zk_T_takeWord zl_T_takeWord
theorem zo_T_needWord : zz_okL zm_T_needWord.1 zn_T_needWord := zz_okL_of zk_T_needWord zl_T_needWord
theorem zo_T_atNumber : zz_okL zm_T_atNumber.1 zn_T_atNumber := zz_okL_of zk_T_atNumber zl_T_atNumber
theorem zo_T_takeNumber : zz_okL zm_T_takeNumber.1 zn_T_takeNumber := zz_okL_of zk_T_takeNumber zl_T_takeNumber
theorem zo_T_takeKind : zz_okL zm_T_takeKind.1 zn_T_takeKind := zz_okL_of zk_T_takeKind zl_T_takeKind
theorem zo_T_takeFigures : zz_okL zm_T_takeFigures.1 zn_T_takeFigures := zz_okL_of zk_T_takeFigures zl_T_takeFigures
theorem zo_T_runEnd : zz_okL zm_T_runEnd.1 zn_T_runEnd := zz_okL_of zk_T_runEnd zl_T_runEnd
theorem zo_T_moveTo : zz_okL zm_T_moveTo.1 zn_T_moveTo := zz_okL_of zk_T_moveTo zl_T_moveTo
theorem zo_U_narrowed : zz_okL zm_U_narrowed.1 zn_U_narrowed := zz_okL_of zk_U_narrowed zl_U_narrowed
theorem zo_U_fittingRows : zz_okL zm_U_fittingRows.1 zn_U_fittingRows := zz_okL_of zk_U_fittingRows zl_U_fittingRows
theorem zo_U_fittingKinds : zz_okL zm_U_fittingKinds.1 zn_U_fittingKinds := zz_okL_of zk_U_fittingKinds zl_U_fittingKinds
theorem zo_U_first : zz_okL zm_U_first.1 zn_U_first := zz_okL_of zk_U_first zl_U_first
theorem zo_U_bestQuestion : zz_okL zm_U_bestQuestion.1 zn_U_bestQuestion := zz_okL_of zk_U_bestQuestion zl_U_bestQuestion
theorem zo_U_greatestPart : zz_okL zm_U_greatestPart.1 zn_U_greatestPart := zz_okL_of zk_U_greatestPart zl_U_greatestPart
theorem zo_S_init : zz_okL zm_S_init.1 zn_S_init := zz_okL_of zk_S_init zl_S_init
theorem zo_S_copyFrom : zz_okL zm_S_copyFrom.1 zn_S_copyFrom := zz_okL_of zk_S_copyFrom zl_S_copyFrom
theorem zo_S_addPerson : zz_okL zm_S_addPerson.1 zn_S_addPerson := zz_okL_of zk_S_addPerson zl_S_addPerson
theorem zo_S_isPlain : zz_okL zm_S_isPlain.1 zn_S_isPlain := zz_okL_of zk_S_isPlain zl_S_isPlain
theorem zo_S_marksOf : zz_okL zm_S_marksOf.1 zn_S_marksOf := zz_okL_of zk_S_marksOf zl_S_marksOf
theorem zo_S_deedBitOf : zz_okL zm_S_deedBitOf.1 zn_S_deedBitOf := zz_okL_of zk_S_deedBitOf zl_S_deedBitOf
theorem zo_S_hasDoneItsDeed : zz_okL zm_S_hasDoneItsDeed.1 zn_S_hasDoneItsDeed := zz_okL_of zk_S_hasDoneItsDeed zl_S_hasDoneItsDeed
theorem zo_S_awaitsDeed : zz_okL zm_S_awaitsDeed.1 zn_S_awaitsDeed := zz_okL_of zk_S_awaitsDeed zl_S_awaitsDeed
theorem zo_S_deedsHad : zz_okL zm_S_deedsHad.1 zn_S_deedsHad := zz_okL_of zk_S_deedsHad zl_S_deedsHad
theorem zo_S_isFound : zz_okL zm_S_isFound.1 zn_S_isFound := zz_okL_of zk_S_isFound zl_S_isFound
theorem zo_S_everybody : zz_okL zm_S_everybody.1 zn_S_everybody := zz_okL_of zk_S_everybody zl_S_everybody
theorem zo_S_plainOnes : zz_okL zm_S_plainOnes.1 zn_S_plainOnes := zz_okL_of zk_S_plainOnes zl_S_plainOnes
theorem zo_S_bearers : zz_okL zm_S_bearers.1 zn_S_bearers := zz_okL_of zk_S_bearers zl_S_bearers
theorem zo_S_toldByGroup : zz_okL zm_S_toldByGroup.1 zn_S_toldByGroup := zz_okL_of zk_S_toldByGroup zl_S_toldByGroup
theorem zo_S_deedsOfKinds : zz_okL zm_S_deedsOfKinds.1 zn_S_deedsOfKinds := zz_okL_of zk_S_deedsOfKinds zl_S_deedsOfKinds
theorem zo_S_kindsLike : zz_okL zm_S_kindsLike.1 zn_S_kindsLike := zz_okL_of zk_S_kindsLike zl_S_kindsLike
theorem zo_S_fits : zz_okL zm_S_fits.1 zn_S_fits := zz_okL_of zk_S_fits zl_S_fits
theorem zo_S_fates : zz_okL zm_S_fates.1 zn_S_fates := zz_okL_of zk_S_fates zl_S_fates
theorem zo_S_thumb : zz_okL zm_S_thumb.1 zn_S_thumb := zz_okL_of zk_S_thumb zl_S_thumb
theorem zo_S_kindsMarkedAt : zz_okL zm_S_kindsMarkedAt.1 zn_S_kindsMarkedAt := zz_okL_of zk_S_kindsMarkedAt zl_S_kindsMarkedAt
theorem zo_S_share : zz_okL zm_S_share.1 zn_S_share := zz_okL_of zk_S_share zl_S_share
theorem zo_S_fameOfAll : zz_okL zm_S_fameOfAll.1 zn_S_fameOfAll := zz_okL_of zk_S_fameOfAll zl_S_fameOfAll
theorem zo_S_deedsOfAll : zz_okL zm_S_deedsOfAll.1 zn_S_deedsOfAll := zz_okL_of zk_S_deedsOfAll zl_S_deedsOfAll
theorem zo_S_rubbedOfAll : zz_okL zm_S_rubbedOfAll.1 zn_S_rubbedOfAll := zz_okL_of zk_S_rubbedOfAll zl_S_rubbedOfAll
theorem zo_S_membersOfAll : zz_okL zm_S_membersOfAll.1 zn_S_membersOfAll := zz_okL_of zk_S_membersOfAll zl_S_membersOfAll
theorem zo_S_dockerGain : zz_okL zm_S_dockerGain.1 zn_S_dockerGain := zz_okL_of zk_S_dockerGain zl_S_dockerGain
theorem zo_S_needleGain : zz_okL zm_S_needleGain.1 zn_S_needleGain := zz_okL_of zk_S_needleGain zl_S_needleGain
theorem zo_S_addRow : zz_okL zm_S_addRow.1 zn_S_addRow := zz_okL_of zk_S_addRow zl_S_addRow
theorem zo_S_rowPart : zz_okL zm_S_rowPart.1 zn_S_rowPart := zz_okL_of zk_S_rowPart zl_S_rowPart
theorem zo_S_draw : zz_okL zm_S_draw.1 zn_S_draw := zz_okL_of zk_S_draw zl_S_draw
theorem zo_S_passYear : zz_okL zm_S_passYear.1 zn_S_passYear := zz_okL_of zk_S_passYear zl_S_passYear
theorem zo_S_passYearAhead : zz_okL zm_S_passYearAhead.1 zn_S_passYearAhead := zz_okL_of zk_S_passYearAhead zl_S_passYearAhead
theorem zo_S_growOld : zz_okL zm_S_growOld.1 zn_S_growOld := zz_okL_of zk_S_growOld zl_S_growOld
theorem zo_S_endYear : zz_okL zm_S_endYear.1 zn_S_endYear := zz_okL_of zk_S_endYear zl_S_endYear
theorem zo_S_bringDeed : zz_okL zm_S_bringDeed.1 zn_S_bringDeed := zz_okL_of zk_S_bringDeed zl_S_bringDeed
theorem zo_S_shakeOver : zz_okL zm_S_shakeOver.1 zn_S_shakeOver := zz_okL_of zk_S_shakeOver zl_S_shakeOver
theorem zo_L_init : zz_okL zm_L_init.1 zn_L_init := zz_okL_of zk_L_init zl_L_init
theorem zo_L_copyFrom : zz_okL zm_L_copyFrom.1 zn_L_copyFrom := zz_okL_of zk_L_copyFrom zl_L_copyFrom
theorem zo_L_clear : zz_okL zm_L_clear.1 zn_L_clear := zz_okL_of zk_L_clear zl_L_clear
theorem zo_L_addStep : zz_okL zm_L_addStep.1 zn_L_addStep := zz_okL_of zk_L_addStep zl_L_addStep
theorem zo_L_addLine : zz_okL zm_L_addLine.1 zn_L_addLine := zz_okL_of zk_L_addLine zl_L_addLine
theorem zo_L_comes : zz_okL zm_L_comes.1 zn_L_comes := zz_okL_of zk_L_comes zl_L_comes
theorem zo_L_makesKnown : zz_okL zm_L_makesKnown.1 zn_L_makesKnown := zz_okL_of zk_L_makesKnown zl_L_makesKnown
theorem zo_L_learn : zz_okL zm_L_learn.1 zn_L_learn := zz_okL_of zk_L_learn zl_L_learn
theorem zo_L_total : zz_okL zm_L_total.1 zn_L_total := zz_okL_of zk_L_total zl_L_total
theorem zo_L_applies : zz_okL zm_L_applies.1 zn_L_applies := zz_okL_of zk_L_applies zl_L_applies
theorem zo_L_take : zz_okL zm_L_take.1 zn_L_take := zz_okL_of zk_L_take zl_L_take
theorem zo_L_joined : zz_okL zm_L_joined.1 zn_L_joined := zz_okL_of zk_L_joined zl_L_joined
theorem zo_A_init : zz_okL zm_A_init.1 zn_A_init := zz_okL_of zk_A_init zl_A_init
theorem zo_A_size : zz_okL zm_A_size.1 zn_A_size := zz_okL_of zk_A_size zl_A_size
theorem zo_A_forget : zz_okL zm_A_forget.1 zn_A_forget := zz_okL_of zk_A_forget zl_A_forget
theorem zo_A_remember : zz_okL zm_A_remember.1 zn_A_remember := zz_okL_of zk_A_remember zl_A_remember
theorem zo_A_goBack : zz_okL zm_A_goBack.1 zn_A_goBack := zz_okL_of zk_A_goBack zl_A_goBack
theorem zo_G_init : zz_okL zm_G_init.1 zn_G_init := zz_okL_of zk_G_init zl_G_init
theorem zo_G_fewestPlaces : zz_okL zm_G_fewestPlaces.1 zn_G_fewestPlaces := zz_okL_of zk_G_fewestPlaces zl_G_fewestPlaces
theorem zo_G_fewestTellers : zz_okL zm_G_fewestTellers.1 zn_G_fewestTellers := zz_okL_of zk_G_fewestTellers zl_G_fewestTellers
theorem zo_G_fillBerths : zz_okL zm_G_fillBerths.1 zn_G_fillBerths := zz_okL_of zk_G_fillBerths zl_G_fillBerths
theorem zo_G_berthsFilled : zz_okL zm_G_berthsFilled.1 zn_G_berthsFilled := zz_okL_of zk_G_berthsFilled zl_G_berthsFilled
theorem zo_G_berthPerson : zz_okL zm_G_berthPerson.1 zn_G_berthPerson := zz_okL_of zk_G_berthPerson zl_G_berthPerson
theorem zo_G_firstForBerth : zz_okL zm_G_firstForBerth.1 zn_G_firstForBerth := zz_okL_of zk_G_firstForBerth zl_G_firstForBerth
theorem zo_G_filledWith : zz_okL zm_G_filledWith.1 zn_G_filledWith := zz_okL_of zk_G_filledWith zl_G_filledWith
theorem zo_G_pairPeople : zz_okL zm_G_pairPeople.1 zn_G_pairPeople := zz_okL_of zk_G_pairPeople zl_G_pairPeople
theorem zo_G_pairedDeeds : zz_okL zm_G_pairedDeeds.1 zn_G_pairedDeeds := zz_okL_of zk_G_pairedDeeds zl_G_pairedDeeds
theorem zo_G_partner : zz_okL zm_G_partner.1 zn_G_partner := zz_okL_of zk_G_partner zl_G_partner
theorem zo_G_firstPartner : zz_okL zm_G_firstPartner.1 zn_G_firstPartner := zz_okL_of zk_G_firstPartner zl_G_firstPartner
theorem zo_G_gainedWith : zz_okL zm_G_gainedWith.1 zn_G_gainedWith := zz_okL_of zk_G_gainedWith zl_G_gainedWith
theorem zo_G_firstUnsettled : zz_okL zm_G_firstUnsettled.1 zn_G_firstUnsettled := zz_okL_of zk_G_firstUnsettled zl_G_firstUnsettled
theorem zo_H_readAll : zz_okL zm_H_readAll.1 zn_H_readAll := zz_okL_of zk_H_readAll zl_H_readAll
theorem zo_H_readLine : zz_okL zm_H_readLine.1 zn_H_readLine := zz_okL_of zk_H_readLine zl_H_readLine
theorem zo_H_readKind : zz_okL zm_H_readKind.1 zn_H_readKind := zz_okL_of zk_H_readKind zl_H_readKind
theorem zo_H_readPerson : zz_okL zm_H_readPerson.1 zn_H_readPerson := zz_okL_of zk_H_readPerson zl_H_readPerson
theorem zo_J_readAll : zz_okL zm_J_readAll.1 zn_J_readAll := zz_okL_of zk_J_readAll zl_J_readAll
theorem zo_J_readLine : zz_okL zm_J_readLine.1 zn_J_readLine := zz_okL_of zk_J_readLine zl_J_readLine
theorem zo_J_readAnyOf : zz_okL zm_J_readAnyOf.1 zn_J_readAnyOf := zz_okL_of zk_J_readAnyOf zl_J_readAnyOf
theorem zo_J_readAllOf : zz_okL zm_J_readAllOf.1 zn_J_readAllOf := zz_okL_of zk_J_readAllOf zl_J_readAllOf
theorem zo_J_readAtom : zz_okL zm_J_readAtom.1 zn_J_readAtom := zz_okL_of zk_J_readAtom zl_J_readAtom
theorem zo_J_readSum : zz_okL zm_J_readSum.1 zn_J_readSum := zz_okL_of zk_J_readSum zl_J_readSum
theorem zo_J_readPart : zz_okL zm_J_readPart.1 zn_J_readPart := zz_okL_of zk_J_readPart zl_J_readPart
theorem zo_J_partWord : zz_okL zm_J_partWord.1 zn_J_partWord := zz_okL_of zk_J_partWord zl_J_partWord
theorem zo_N_init : zz_okL zm_N_init.1 zn_N_init := zz_okL_of zk_N_init zl_N_init
theorem zo_N_feed : zz_okL zm_N_feed.1 zn_N_feed := zz_okL_of zk_N_feed zl_N_feed
theorem zo_N_end : zz_okL zm_N_end.1 zn_N_end := zz_okL_of zk_N_end zl_N_end
theorem zo_N_shop : zz_okL zm_N_shop.1 zn_N_shop := zz_okL_of zk_N_shop zl_N_shop
theorem zo_N_law : zz_okL zm_N_law.1 zn_N_law := zz_okL_of zk_N_law zl_N_law
theorem zo_N_fault : zz_okL zm_N_fault.1 zn_N_fault := zz_okL_of zk_N_fault zl_N_fault
theorem zo_N_kind : zz_okL zm_N_kind.1 zn_N_kind := zz_okL_of zk_N_kind zl_N_kind
theorem zo_N_person : zz_okL zm_N_person.1 zn_N_person := zz_okL_of zk_N_person zl_N_person
theorem zo_N_mark : zz_okL zm_N_mark.1 zn_N_mark := zz_okL_of zk_N_mark zl_N_mark
theorem zo_N_years : zz_okL zm_N_years.1 zn_N_years := zz_okL_of zk_N_years zl_N_years
theorem zo_N_rub : zz_okL zm_N_rub.1 zn_N_rub := zz_okL_of zk_N_rub zl_N_rub
theorem zo_N_ink : zz_okL zm_N_ink.1 zn_N_ink := zz_okL_of zk_N_ink zl_N_ink
theorem zo_N_wash : zz_okL zm_N_wash.1 zn_N_wash := zz_okL_of zk_N_wash zl_N_wash
theorem zo_N_told : zz_okL zm_N_told.1 zn_N_told := zz_okL_of zk_N_told zl_N_told
theorem zo_N_hold : zz_okL zm_N_hold.1 zn_N_hold := zz_okL_of zk_N_hold zl_N_hold
theorem zo_N_does : zz_okL zm_N_does.1 zn_N_does := zz_okL_of zk_N_does zl_N_does
theorem zo_N_luck : zz_okL zm_N_luck.1 zn_N_luck := zz_okL_of zk_N_luck zl_N_luck
theorem zo_N_fill : zz_okL zm_N_fill.1 zn_N_fill := zz_okL_of zk_N_fill zl_N_fill
theorem zo_N_blank : zz_okL zm_N_blank.1 zn_N_blank := zz_okL_of zk_N_blank zl_N_blank
theorem zo_N_reach : zz_okL zm_N_reach.1 zn_N_reach := zz_okL_of zk_N_reach zl_N_reach
theorem zo_N_turned : zz_okL zm_N_turned.1 zn_N_turned := zz_okL_of zk_N_turned zl_N_turned
theorem zo_N_shifts : zz_okL zm_N_shifts.1 zn_N_shifts := zz_okL_of zk_N_shifts zl_N_shifts
theorem zo_N_ring : zz_okL zm_N_ring.1 zn_N_ring := zz_okL_of zk_N_ring zl_N_ring
theorem zo_N_deepest : zz_okL zm_N_deepest.1 zn_N_deepest := zz_okL_of zk_N_deepest zl_N_deepest
theorem zo_N_rules : zz_okL zm_N_rules.1 zn_N_rules := zz_okL_of zk_N_rules zl_N_rules
theorem zo_N_ask : zz_okL zm_N_ask.1 zn_N_ask := zz_okL_of zk_N_ask zl_N_ask
theorem zo_N_now : zz_okL zm_N_now.1 zn_N_now := zz_okL_of zk_N_now zl_N_now
theorem zo_N_crew : zz_okL zm_N_crew.1 zn_N_crew := zz_okL_of zk_N_crew zl_N_crew
theorem zo_N_berths : zz_okL zm_N_berths.1 zn_N_berths := zz_okL_of zk_N_berths zl_N_berths
theorem zo_N_inks : zz_okL zm_N_inks.1 zn_N_inks := zz_okL_of zk_N_inks zl_N_inks
theorem zo_N_old : zz_okL zm_N_old.1 zn_N_old := zz_okL_of zk_N_old zl_N_old
theorem zo_N_clash : zz_okL zm_N_clash.1 zn_N_clash := zz_okL_of zk_N_clash zl_N_clash
theorem zo_N_pairs : zz_okL zm_N_pairs.1 zn_N_pairs := zz_okL_of zk_N_pairs zl_N_pairs
theorem zo_N_kin : zz_okL zm_N_kin.1 zn_N_kin := zz_okL_of zk_N_kin zl_N_kin
theorem zo_N_rests : zz_okL zm_N_rests.1 zn_N_rests := zz_okL_of zk_N_rests zl_N_rests
theorem zo_N_odds : zz_okL zm_N_odds.1 zn_N_odds := zz_okL_of zk_N_odds zl_N_odds
theorem zo_N_plain : zz_okL zm_N_plain.1 zn_N_plain := zz_okL_of zk_N_plain zl_N_plain
theorem zo_N_found : zz_okL zm_N_found.1 zn_N_found := zz_okL_of zk_N_found zl_N_found
theorem zo_N_soFar : zz_okL zm_N_soFar.1 zn_N_soFar := zz_okL_of zk_N_soFar zl_N_soFar
theorem zo_N_eldest : zz_okL zm_N_eldest.1 zn_N_eldest := zz_okL_of zk_N_eldest zl_N_eldest
theorem zo_N_famous : zz_okL zm_N_famous.1 zn_N_famous := zz_okL_of zk_N_famous zl_N_famous
theorem zo_N_twins : zz_okL zm_N_twins.1 zn_N_twins := zz_okL_of zk_N_twins zl_N_twins
theorem zo_N_tellers : zz_okL zm_N_tellers.1 zn_N_tellers := zz_okL_of zk_N_tellers zl_N_tellers
theorem zo_N_ahead : zz_okL zm_N_ahead.1 zn_N_ahead := zz_okL_of zk_N_ahead zl_N_ahead
theorem zo_N_trial : zz_okL zm_N_trial.1 zn_N_trial := zz_okL_of zk_N_trial zl_N_trial
theorem zo_N_span : zz_okL zm_N_span.1 zn_N_span := zz_okL_of zk_N_span zl_N_span
theorem zo_N_led : zz_okL zm_N_led.1 zn_N_led := zz_okL_of zk_N_led zl_N_led
theorem zo_N_log : zz_okL zm_N_log.1 zn_N_log := zz_okL_of zk_N_log zl_N_log
theorem zo_N_seed : zz_okL zm_N_seed.1 zn_N_seed := zz_okL_of zk_N_seed zl_N_seed
theorem zo_N_undo : zz_okL zm_N_undo.1 zn_N_undo := zz_okL_of zk_N_undo zl_N_undo
theorem zo_N_image : zz_okL zm_N_image.1 zn_N_image := zz_okL_of zk_N_image zl_N_image
theorem zo_N_back : zz_okL zm_N_back.1 zn_N_back := zz_okL_of zk_N_back zl_N_back
theorem zo_N_count : zz_okL zm_N_count.1 zn_N_count := zz_okL_of zk_N_count zl_N_count
theorem zo_N_needPerson : zz_okL zm_N_needPerson.1 zn_N_needPerson := zz_okL_of zk_N_needPerson zl_N_needPerson
theorem zo_N_needKind : zz_okL zm_N_needKind.1 zn_N_needKind := zz_okL_of zk_N_needKind zl_N_needKind
theorem zo_N_needDeed : zz_okL zm_N_needDeed.1 zn_N_needDeed := zz_okL_of zk_N_needDeed zl_N_needDeed
theorem zo_N_needPlace : zz_okL zm_N_needPlace.1 zn_N_needPlace := zz_okL_of zk_N_needPlace zl_N_needPlace
theorem zo_N_needYears : zz_okL zm_N_needYears.1 zn_N_needYears := zz_okL_of zk_N_needYears zl_N_needYears
theorem zo_N_needRows : zz_okL zm_N_needRows.1 zn_N_needRows := zz_okL_of zk_N_needRows zl_N_needRows
theorem zo_N_needBerths : zz_okL zm_N_needBerths.1 zn_N_needBerths := zz_okL_of zk_N_needBerths zl_N_needBerths
theorem zo_N_sureYear : zz_okL zm_N_sureYear.1 zn_N_sureYear := zz_okL_of zk_N_sureYear zl_N_sureYear
theorem zo_N_tryYears : zz_okL zm_N_tryYears.1 zn_N_tryYears := zz_okL_of zk_N_tryYears zl_N_tryYears
theorem zo_D_init : zz_okL zm_D_init.1 zn_D_init := zz_okL_of zk_D_init zl_D_init
theorem zo_D_thrown : zz_okL zm_D_thrown.1 zn_D_thrown := zz_okL_of zk_D_thrown zl_D_thrown
theorem zo_D_isIn : zz_okL zm_D_isIn.1 zn_D_isIn := zz_okL_of zk_D_isIn zl_D_isIn
theorem zo_D_lesser : zz_okL zm_D_lesser.1 zn_D_lesser := zz_okL_of zk_D_lesser zl_D_lesser
theorem zo_D_greater : zz_okL zm_D_greater.1 zn_D_greater := zz_okL_of zk_D_greater zl_D_greater
theorem zo_D_isOf : zz_okL zm_D_isOf.1 zn_D_isOf := zz_okL_of zk_D_isOf zl_D_isOf
theorem zo_D_bits : zz_okL zm_D_bits.1 zn_D_bits := zz_okL_of zk_D_bits zl_D_bits
theorem zo_D_ofKind : zz_okL zm_D_ofKind.1 zn_D_ofKind := zz_okL_of zk_D_ofKind zl_D_ofKind
theorem zo_D_of : zz_okL zm_D_of.1 zn_D_of := zz_okL_of zk_D_of zl_D_of
theorem zo_D_lays : zz_okL zm_D_lays.1 zn_D_lays := zz_okL_of zk_D_lays zl_D_lays
theorem zo_D_isOne : zz_okL zm_D_isOne.1 zn_D_isOne := zz_okL_of zk_D_isOne zl_D_isOne
theorem zo_D_isKind : zz_okL zm_D_isKind.1 zn_D_isKind := zz_okL_of zk_D_isKind zl_D_isKind
theorem zo_D_isPlain : zz_okL zm_D_isPlain.1 zn_D_isPlain := zz_okL_of zk_D_isPlain zl_D_isPlain
theorem zo_D_deedOf : zz_okL zm_D_deedOf.1 zn_D_deedOf := zz_okL_of zk_D_deedOf zl_D_deedOf
theorem zo_D_marksOf : zz_okL zm_D_marksOf.1 zn_D_marksOf := zz_okL_of zk_D_marksOf zl_D_marksOf
theorem zo_D_feed : zz_okL zm_D_feed.1 zn_D_feed := zz_okL_of zk_D_feed zl_D_feed
theorem zo_D_end : zz_okL zm_D_end.1 zn_D_end := zz_okL_of zk_D_end zl_D_end
theorem zo_D_letter : zz_okL zm_D_letter.1 zn_D_letter := zz_okL_of zk_D_letter zl_D_letter
theorem zo_D_skip : zz_okL zm_D_skip.1 zn_D_skip := zz_okL_of zk_D_skip zl_D_skip
theorem zo_D_isSign : zz_okL zm_D_isSign.1 zn_D_isSign := zz_okL_of zk_D_isSign zl_D_isSign
theorem zo_D_has : zz_okL zm_D_has.1 zn_D_has := zz_okL_of zk_D_has zl_D_has
theorem zo_D_wrong : zz_okL zm_D_wrong.1 zn_D_wrong := zz_okL_of zk_D_wrong zl_D_wrong
theorem zo_D_here : zz_okL zm_D_here.1 zn_D_here := zz_okL_of zk_D_here zl_D_here
theorem zo_D_figures : zz_okL zm_D_figures.1 zn_D_figures := zz_okL_of zk_D_figures zl_D_figures
theorem zo_D_after : zz_okL zm_D_after.1 zn_D_after := zz_okL_of zk_D_after zl_D_after
theorem zo_D_kindLetter : zz_okL zm_D_kindLetter.1 zn_D_kindLetter := zz_okL_of zk_D_kindLetter zl_D_kindLetter
theorem zo_D_fourMarks : zz_okL zm_D_fourMarks.1 zn_D_fourMarks := zz_okL_of zk_D_fourMarks zl_D_fourMarks
theorem zo_D_expects : zz_okL zm_D_expects.1 zn_D_expects := zz_okL_of zk_D_expects zl_D_expects
theorem zo_D_kindLine : zz_okL zm_D_kindLine.1 zn_D_kindLine := zz_okL_of zk_D_kindLine zl_D_kindLine
theorem zo_D_personLine : zz_okL zm_D_personLine.1 zn_D_personLine := zz_okL_of zk_D_personLine zl_D_personLine
theorem zo_D_tells : zz_okL zm_D_tells.1 zn_D_tells := zz_okL_of zk_D_tells zl_D_tells
theorem zo_D_shopLine : zz_okL zm_D_shopLine.1 zn_D_shopLine := zz_okL_of zk_D_shopLine zl_D_shopLine
theorem zo_D_begins : zz_okL zm_D_begins.1 zn_D_begins := zz_okL_of zk_D_begins zl_D_begins
theorem zo_D_read : zz_okL zm_D_read.1 zn_D_read := zz_okL_of zk_D_read zl_D_read
theorem zo_D_putsAside : zz_okL zm_D_putsAside.1 zn_D_putsAside := zz_okL_of zk_D_putsAside zl_D_putsAside
theorem zo_D_comesBack : zz_okL zm_D_comesBack.1 zn_D_comesBack := zz_okL_of zk_D_comesBack zl_D_comesBack
theorem zo_D_shop : zz_okL zm_D_shop.1 zn_D_shop := zz_okL_of zk_D_shop zl_D_shop
theorem zo_D_part : zz_okL zm_D_part.1 zn_D_part := zz_okL_of zk_D_part zl_D_part
theorem zo_D_sum : zz_okL zm_D_sum.1 zn_D_sum := zz_okL_of zk_D_sum zl_D_sum
theorem zo_D_plainly : zz_okL zm_D_plainly.1 zn_D_plainly := zz_okL_of zk_D_plainly zl_D_plainly
theorem zo_D_atom : zz_okL zm_D_atom.1 zn_D_atom := zz_okL_of zk_D_atom zl_D_atom
theorem zo_D_every : zz_okL zm_D_every.1 zn_D_every := zz_okL_of zk_D_every zl_D_every
theorem zo_D_some : zz_okL zm_D_some.1 zn_D_some := zz_okL_of zk_D_some zl_D_some
theorem zo_D_lawLine : zz_okL zm_D_lawLine.1 zn_D_lawLine := zz_okL_of zk_D_lawLine zl_D_lawLine
theorem zo_D_law : zz_okL zm_D_law.1 zn_D_law := zz_okL_of zk_D_law zl_D_law
theorem zo_D_fault : zz_okL zm_D_fault.1 zn_D_fault := zz_okL_of zk_D_fault zl_D_fault
theorem zo_D_fitting : zz_okL zm_D_fitting.1 zn_D_fitting := zz_okL_of zk_D_fitting zl_D_fitting
theorem zo_D_asks : zz_okL zm_D_asks.1 zn_D_asks := zz_okL_of zk_D_asks zl_D_asks
theorem zo_D_comesOf : zz_okL zm_D_comesOf.1 zn_D_comesOf := zz_okL_of zk_D_comesOf zl_D_comesOf
theorem zo_D_draw : zz_okL zm_D_draw.1 zn_D_draw := zz_okL_of zk_D_draw zl_D_draw
theorem zo_D_logs : zz_okL zm_D_logs.1 zn_D_logs := zz_okL_of zk_D_logs zl_D_logs
theorem zo_D_deeds : zz_okL zm_D_deeds.1 zn_D_deeds := zz_okL_of zk_D_deeds zl_D_deeds
theorem zo_D_thumbs : zz_okL zm_D_thumbs.1 zn_D_thumbs := zz_okL_of zk_D_thumbs zl_D_thumbs
theorem zo_D_passes : zz_okL zm_D_passes.1 zn_D_passes := zz_okL_of zk_D_passes zl_D_passes
theorem zo_D_goes : zz_okL zm_D_goes.1 zn_D_goes := zz_okL_of zk_D_goes zl_D_goes
theorem zo_D_bitsOfAll : zz_okL zm_D_bitsOfAll.1 zn_D_bitsOfAll := zz_okL_of zk_D_bitsOfAll zl_D_bitsOfAll
theorem zo_D_fameOfAll : zz_okL zm_D_fameOfAll.1 zn_D_fameOfAll := zz_okL_of zk_D_fameOfAll zl_D_fameOfAll
theorem zo_D_tellsApart : zz_okL zm_D_tellsApart.1 zn_D_tellsApart := zz_okL_of zk_D_tellsApart zl_D_tellsApart
theorem zo_D_few : zz_okL zm_D_few.1 zn_D_few := zz_okL_of zk_D_few zl_D_few
theorem zo_D_same : zz_okL zm_D_same.1 zn_D_same := zz_okL_of zk_D_same zl_D_same
theorem zo_D_beside : zz_okL zm_D_beside.1 zn_D_beside := zz_okL_of zk_D_beside zl_D_beside
theorem zo_D_floods : zz_okL zm_D_floods.1 zn_D_floods := zz_okL_of zk_D_floods zl_D_floods
theorem zo_D_pieces : zz_okL zm_D_pieces.1 zn_D_pieces := zz_okL_of zk_D_pieces zl_D_pieces
theorem zo_D_holes : zz_okL zm_D_holes.1 zn_D_holes := zz_okL_of zk_D_holes zl_D_holes
theorem zo_D_deepOf : zz_okL zm_D_deepOf.1 zn_D_deepOf := zz_okL_of zk_D_deepOf zl_D_deepOf
theorem zo_D_within : zz_okL zm_D_within.1 zn_D_within := zz_okL_of zk_D_within zl_D_within
theorem zo_D_bearers : zz_okL zm_D_bearers.1 zn_D_bearers := zz_okL_of zk_D_bearers zl_D_bearers
theorem zo_D_kind : zz_okL zm_D_kind.1 zn_D_kind := zz_okL_of zk_D_kind zl_D_kind
theorem zo_D_thumb : zz_okL zm_D_thumb.1 zn_D_thumb := zz_okL_of zk_D_thumb zl_D_thumb
theorem zo_D_sureOf : zz_okL zm_D_sureOf.1 zn_D_sureOf := zz_okL_of zk_D_sureOf zl_D_sureOf
theorem zo_D_fates : zz_okL zm_D_fates.1 zn_D_fates := zz_okL_of zk_D_fates zl_D_fates
theorem zo_D_person : zz_okL zm_D_person.1 zn_D_person := zz_okL_of zk_D_person zl_D_person
theorem zo_D_isPlace : zz_okL zm_D_isPlace.1 zn_D_isPlace := zz_okL_of zk_D_isPlace zl_D_isPlace
theorem zo_D_mark : zz_okL zm_D_mark.1 zn_D_mark := zz_okL_of zk_D_mark zl_D_mark
theorem zo_D_remembers : zz_okL zm_D_remembers.1 zn_D_remembers := zz_okL_of zk_D_remembers zl_D_remembers
theorem zo_D_sets : zz_okL zm_D_sets.1 zn_D_sets := zz_okL_of zk_D_sets zl_D_sets
theorem zo_D_years : zz_okL zm_D_years.1 zn_D_years := zz_okL_of zk_D_years zl_D_years
theorem zo_D_rub : zz_okL zm_D_rub.1 zn_D_rub := zz_okL_of zk_D_rub zl_D_rub
theorem zo_D_ink : zz_okL zm_D_ink.1 zn_D_ink := zz_okL_of zk_D_ink zl_D_ink
theorem zo_D_wash : zz_okL zm_D_wash.1 zn_D_wash := zz_okL_of zk_D_wash zl_D_wash
theorem zo_D_told : zz_okL zm_D_told.1 zn_D_told := zz_okL_of zk_D_told zl_D_told
theorem zo_D_hold : zz_okL zm_D_hold.1 zn_D_hold := zz_okL_of zk_D_hold zl_D_hold
theorem zo_D_does : zz_okL zm_D_does.1 zn_D_does := zz_okL_of zk_D_does zl_D_does
theorem zo_D_luck : zz_okL zm_D_luck.1 zn_D_luck := zz_okL_of zk_D_luck zl_D_luck
theorem zo_D_fill : zz_okL zm_D_fill.1 zn_D_fill := zz_okL_of zk_D_fill zl_D_fill
theorem zo_D_blank : zz_okL zm_D_blank.1 zn_D_blank := zz_okL_of zk_D_blank zl_D_blank
theorem zo_D_reach : zz_okL zm_D_reach.1 zn_D_reach := zz_okL_of zk_D_reach zl_D_reach
theorem zo_D_turns : zz_okL zm_D_turns.1 zn_D_turns := zz_okL_of zk_D_turns zl_D_turns
theorem zo_D_areKinds : zz_okL zm_D_areKinds.1 zn_D_areKinds := zz_okL_of zk_D_areKinds zl_D_areKinds
theorem zo_D_turned : zz_okL zm_D_turned.1 zn_D_turned := zz_okL_of zk_D_turned zl_D_turned
theorem zo_D_lie : zz_okL zm_D_lie.1 zn_D_lie := zz_okL_of zk_D_lie zl_D_lie
theorem zo_D_shifts : zz_okL zm_D_shifts.1 zn_D_shifts := zz_okL_of zk_D_shifts zl_D_shifts
theorem zo_D_ring : zz_okL zm_D_ring.1 zn_D_ring := zz_okL_of zk_D_ring zl_D_ring
theorem zo_D_deepest : zz_okL zm_D_deepest.1 zn_D_deepest := zz_okL_of zk_D_deepest zl_D_deepest
theorem zo_D_ruled : zz_okL zm_D_ruled.1 zn_D_ruled := zz_okL_of zk_D_ruled zl_D_ruled
theorem zo_D_heard : zz_okL zm_D_heard.1 zn_D_heard := zz_okL_of zk_D_heard zl_D_heard
theorem zo_D_fitMany : zz_okL zm_D_fitMany.1 zn_D_fitMany := zz_okL_of zk_D_fitMany zl_D_fitMany
theorem zo_D_firstFit : zz_okL zm_D_firstFit.1 zn_D_firstFit := zz_okL_of zk_D_firstFit zl_D_firstFit
theorem zo_D_rules : zz_okL zm_D_rules.1 zn_D_rules := zz_okL_of zk_D_rules zl_D_rules
theorem zo_D_ask : zz_okL zm_D_ask.1 zn_D_ask := zz_okL_of zk_D_ask zl_D_ask
theorem zo_D_now : zz_okL zm_D_now.1 zn_D_now := zz_okL_of zk_D_now zl_D_now
theorem zo_D_toldBy : zz_okL zm_D_toldBy.1 zn_D_toldBy := zz_okL_of zk_D_toldBy zl_D_toldBy
theorem zo_D_crew : zz_okL zm_D_crew.1 zn_D_crew := zz_okL_of zk_D_crew zl_D_crew
theorem zo_D_canBerth : zz_okL zm_D_canBerth.1 zn_D_canBerth := zz_okL_of zk_D_canBerth zl_D_canBerth
theorem zo_D_berths : zz_okL zm_D_berths.1 zn_D_berths := zz_okL_of zk_D_berths zl_D_berths
theorem zo_D_tellersOf : zz_okL zm_D_tellersOf.1 zn_D_tellersOf := zz_okL_of zk_D_tellersOf zl_D_tellersOf
theorem zo_D_plainOnes : zz_okL zm_D_plainOnes.1 zn_D_plainOnes := zz_okL_of zk_D_plainOnes zl_D_plainOnes
theorem zo_D_inks : zz_okL zm_D_inks.1 zn_D_inks := zz_okL_of zk_D_inks zl_D_inks
theorem zo_D_old : zz_okL zm_D_old.1 zn_D_old := zz_okL_of zk_D_old zl_D_old
theorem zo_D_clash : zz_okL zm_D_clash.1 zn_D_clash := zz_okL_of zk_D_clash zl_D_clash
theorem zo_D_allOf : zz_okL zm_D_allOf.1 zn_D_allOf := zz_okL_of zk_D_allOf zl_D_allOf
theorem zo_D_lowest : zz_okL zm_D_lowest.1 zn_D_lowest := zz_okL_of zk_D_lowest zl_D_lowest
theorem zo_D_apart : zz_okL zm_D_apart.1 zn_D_apart := zz_okL_of zk_D_apart zl_D_apart
theorem zo_D_allBest : zz_okL zm_D_allBest.1 zn_D_allBest := zz_okL_of zk_D_allBest zl_D_allBest
theorem zo_D_pairs : zz_okL zm_D_pairs.1 zn_D_pairs := zz_okL_of zk_D_pairs zl_D_pairs
theorem zo_D_kin : zz_okL zm_D_kin.1 zn_D_kin := zz_okL_of zk_D_kin zl_D_kin
theorem zo_D_itHas : zz_okL zm_D_itHas.1 zn_D_itHas := zz_okL_of zk_D_itHas zl_D_itHas
theorem zo_D_needleHas : zz_okL zm_D_needleHas.1 zn_D_needleHas := zz_okL_of zk_D_needleHas zl_D_needleHas
theorem zo_D_rests : zz_okL zm_D_rests.1 zn_D_rests := zz_okL_of zk_D_rests zl_D_rests
theorem zo_D_odds : zz_okL zm_D_odds.1 zn_D_odds := zz_okL_of zk_D_odds zl_D_odds
theorem zo_D_plain : zz_okL zm_D_plain.1 zn_D_plain := zz_okL_of zk_D_plain zl_D_plain
theorem zo_D_found : zz_okL zm_D_found.1 zn_D_found := zz_okL_of zk_D_found zl_D_found
theorem zo_D_soFar : zz_okL zm_D_soFar.1 zn_D_soFar := zz_okL_of zk_D_soFar zl_D_soFar
theorem zo_D_eldest : zz_okL zm_D_eldest.1 zn_D_eldest := zz_okL_of zk_D_eldest zl_D_eldest
theorem zo_D_famous : zz_okL zm_D_famous.1 zn_D_famous := zz_okL_of zk_D_famous zl_D_famous
theorem zo_D_twins : zz_okL zm_D_twins.1 zn_D_twins := zz_okL_of zk_D_twins zl_D_twins
theorem zo_D_tellers : zz_okL zm_D_tellers.1 zn_D_tellers := zz_okL_of zk_D_tellers zl_D_tellers
theorem zo_D_ahead : zz_okL zm_D_ahead.1 zn_D_ahead := zz_okL_of zk_D_ahead zl_D_ahead
theorem zo_D_trial : zz_okL zm_D_trial.1 zn_D_trial := zz_okL_of zk_D_trial zl_D_trial
theorem zo_D_span : zz_okL zm_D_span.1 zn_D_span := zz_okL_of zk_D_span zl_D_span
theorem zo_D_logged : zz_okL zm_D_logged.1 zn_D_logged := zz_okL_of zk_D_logged zl_D_logged
theorem zo_D_led : zz_okL zm_D_led.1 zn_D_led := zz_okL_of zk_D_led zl_D_led
theorem zo_D_log : zz_okL zm_D_log.1 zn_D_log := zz_okL_of zk_D_log zl_D_log
theorem zo_D_seed : zz_okL zm_D_seed.1 zn_D_seed := zz_okL_of zk_D_seed zl_D_seed
theorem zo_D_undo : zz_okL zm_D_undo.1 zn_D_undo := zz_okL_of zk_D_undo zl_D_undo
theorem zo_D_image : zz_okL zm_D_image.1 zn_D_image := zz_okL_of zk_D_image zl_D_image
theorem zo_D_back : zz_okL zm_D_back.1 zn_D_back := zz_okL_of zk_D_back zl_D_back
theorem zo_D_count : zz_okL zm_D_count.1 zn_D_count := zz_okL_of zk_D_count zl_D_count
theorem zo_W_shop : zz_okL zm_W_shop.1 zn_W_shop := zz_okL_of zk_W_shop zl_W_shop
theorem zo_W_law_0 : zz_okL zm_W_law_0.1 zn_W_law_0 := zz_okL_of zk_W_law_0 zl_W_law_0
theorem zo_W_kind : zz_okL zm_W_kind.1 zn_W_kind := zz_okL_of zk_W_kind zl_W_kind
theorem zo_W_person : zz_okL zm_W_person.1 zn_W_person := zz_okL_of zk_W_person zl_W_person
theorem zo_W_mark : zz_okL zm_W_mark.1 zn_W_mark := zz_okL_of zk_W_mark zl_W_mark
theorem zo_W_years : zz_okL zm_W_years.1 zn_W_years := zz_okL_of zk_W_years zl_W_years
theorem zo_W_rub : zz_okL zm_W_rub.1 zn_W_rub := zz_okL_of zk_W_rub zl_W_rub
theorem zo_W_ink : zz_okL zm_W_ink.1 zn_W_ink := zz_okL_of zk_W_ink zl_W_ink
theorem zo_W_wash : zz_okL zm_W_wash.1 zn_W_wash := zz_okL_of zk_W_wash zl_W_wash
theorem zo_W_told : zz_okL zm_W_told.1 zn_W_told := zz_okL_of zk_W_told zl_W_told
theorem zo_W_hold : zz_okL zm_W_hold.1 zn_W_hold := zz_okL_of zk_W_hold zl_W_hold
theorem zo_W_does : zz_okL zm_W_does.1 zn_W_does := zz_okL_of zk_W_does zl_W_does
theorem zo_W_luck : zz_okL zm_W_luck.1 zn_W_luck := zz_okL_of zk_W_luck zl_W_luck
theorem zo_W_fill : zz_okL zm_W_fill.1 zn_W_fill := zz_okL_of zk_W_fill zl_W_fill
theorem zo_W_blank : zz_okL zm_W_blank.1 zn_W_blank := zz_okL_of zk_W_blank zl_W_blank
theorem zo_W_reach : zz_okL zm_W_reach.1 zn_W_reach := zz_okL_of zk_W_reach zl_W_reach
theorem zo_W_turned : zz_okL zm_W_turned.1 zn_W_turned := zz_okL_of zk_W_turned zl_W_turned
theorem zo_W_shifts : zz_okL zm_W_shifts.1 zn_W_shifts := zz_okL_of zk_W_shifts zl_W_shifts
theorem zo_W_ring : zz_okL zm_W_ring.1 zn_W_ring := zz_okL_of zk_W_ring zl_W_ring
theorem zo_W_rules : zz_okL zm_W_rules.1 zn_W_rules := zz_okL_of zk_W_rules zl_W_rules
theorem zo_W_ask : zz_okL zm_W_ask.1 zn_W_ask := zz_okL_of zk_W_ask zl_W_ask
theorem zo_W_berths : zz_okL zm_W_berths.1 zn_W_berths := zz_okL_of zk_W_berths zl_W_berths
theorem zo_W_old : zz_okL zm_W_old.1 zn_W_old := zz_okL_of zk_W_old zl_W_old
theorem zo_W_clash : zz_okL zm_W_clash.1 zn_W_clash := zz_okL_of zk_W_clash zl_W_clash
theorem zo_W_pairs : zz_okL zm_W_pairs.1 zn_W_pairs := zz_okL_of zk_W_pairs zl_W_pairs
theorem zo_W_kin : zz_okL zm_W_kin.1 zn_W_kin := zz_okL_of zk_W_kin zl_W_kin
theorem zo_W_rests : zz_okL zm_W_rests.1 zn_W_rests := zz_okL_of zk_W_rests zl_W_rests
theorem zo_W_odds : zz_okL zm_W_odds.1 zn_W_odds := zz_okL_of zk_W_odds zl_W_odds
theorem zo_W_tellers : zz_okL zm_W_tellers.1 zn_W_tellers := zz_okL_of zk_W_tellers zl_W_tellers
theorem zo_W_ahead : zz_okL zm_W_ahead.1 zn_W_ahead := zz_okL_of zk_W_ahead zl_W_ahead
theorem zo_W_trial : zz_okL zm_W_trial.1 zn_W_trial := zz_okL_of zk_W_trial zl_W_trial
theorem zo_W_span : zz_okL zm_W_span.1 zn_W_span := zz_okL_of zk_W_span zl_W_span
theorem zo_W_led : zz_okL zm_W_led.1 zn_W_led := zz_okL_of zk_W_led zl_W_led
theorem zo_W_log : zz_okL zm_W_log.1 zn_W_log := zz_okL_of zk_W_log zl_W_log
theorem zo_W_law_1 : zz_okL zm_W_law_1.1 zn_W_law_1 := zz_okL_app (zz_okL_app (zz_okL_app (zz_okL_app (zz_okL_app (zz_okL_app (zz_okL_app (zz_okL_app ((zz_okL_of zk_W_law_1_c0 zl_W_law_1_c0)) (zz_okL_of zk_W_law_1_c1 zl_W_law_1_c1)) (zz_okL_of zk_W_law_1_c2 zl_W_law_1_c2)) (zz_okL_of2 (zz_okD_all (zz_okD_cons zk_W_law_1_c3_0 (zz_okD_cons zk_W_law_1_c3_1 (zz_okD_cons zk_W_law_1_c3_2 (zz_okD_cons zk_W_law_1_c3_3 (zz_okD_last zk_W_law_1_c3_4)))))) zl_W_law_1_c3)) (zz_okL_of2 (zz_okD_all (zz_okD_cons zk_W_law_1_c4_0 (zz_okD_cons zk_W_law_1_c4_1 (zz_okD_cons zk_W_law_1_c4_2 (zz_okD_cons zk_W_law_1_c4_3 (zz_okD_last zk_W_law_1_c4_4)))))) zl_W_law_1_c4)) (zz_okL_of2 (zz_okD_all (zz_okD_cons zk_W_law_1_c5_0 (zz_okD_cons zk_W_law_1_c5_1 (zz_okD_cons zk_W_law_1_c5_2 (zz_okD_cons zk_W_law_1_c5_3 (zz_okD_last zk_W_law_1_c5_4)))))) zl_W_law_1_c5)) (zz_okL_of2 (zz_okD_all (zz_okD_cons zk_W_law_1_c6_0 (zz_okD_cons zk_W_law_1_c6_1 (zz_okD_cons zk_W_law_1_c6_2 (zz_okD_cons zk_W_law_1_c6_3 (zz_okD_last zk_W_law_1_c6_4)))))) zl_W_law_1_c6)) (zz_okL_of2 (zz_okD_all (zz_okD_cons zk_W_law_1_c7_0 (zz_okD_cons zk_W_law_1_c7_1 (zz_okD_cons zk_W_law_1_c7_2 (zz_okD_cons zk_W_law_1_c7_3 (zz_okD_last zk_W_law_1_c7_4)))))) zl_W_law_1_c7)) (zz_okL_of2 (zz_okD_all (zz_okD_cons zk_W_law_1_c8_0 (zz_okD_last zk_W_law_1_c8_1))) zl_W_law_1_c8)
theorem zo__0 : ∀ {ms : List zz_M} {ns : List zz_NM}, zz_all ms ns → zz_all (zm_jm_max :: zm_jm_min :: zm_ji_bitCount :: zm_jl_bitCount :: zm_F_pieces :: zm_F_largestPiece :: zm_F_holes :: zm_F_steps :: zm_F_quarterTurns :: zm_F_bestShift :: zm_F_lyingOn :: zm_F_turnedOnce :: zm_F_spread :: zm_F_grown :: zm_E_allWithin :: zm_E_depth :: zm_E_comesBack :: zm_E_deepestKind :: zm_T_init :: zm_T_size :: zm_T_put :: zm_T_cut :: zm_T_useUp :: zm_T_byteAt :: zm_T_open :: zm_T_wrongByte :: zm_T_fail :: zm_T_takeSign :: zm_T_needSign :: zm_T_takeLine :: zm_T_takeWord :: zm_T_needWord :: zm_T_atNumber :: zm_T_takeNumber :: zm_T_takeKind :: zm_T_takeFigures :: zm_T_runEnd :: zm_T_moveTo :: zm_U_narrowed :: zm_U_fittingRows :: ms) (zn_jm_max :: zn_jm_min :: zn_ji_bitCount :: zn_jl_bitCount :: zn_F_pieces :: zn_F_largestPiece :: zn_F_holes :: zn_F_steps :: zn_F_quarterTurns :: zn_F_bestShift :: zn_F_lyingOn :: zn_F_turnedOnce :: zn_F_spread :: zn_F_grown :: zn_E_allWithin :: zn_E_depth :: zn_E_comesBack :: zn_E_deepestKind :: zn_T_init :: zn_T_size :: zn_T_put :: zn_T_cut :: zn_T_useUp :: zn_T_byteAt :: zn_T_open :: zn_T_wrongByte :: zn_T_fail :: zn_T_takeSign :: zn_T_needSign :: zn_T_takeLine :: zn_T_takeWord :: zn_T_needWord :: zn_T_atNumber :: zn_T_takeNumber :: zn_T_takeKind :: zn_T_takeFigures :: zn_T_runEnd :: zn_T_moveTo :: zn_U_narrowed :: zn_U_fittingRows :: ns) := fun h => And.intro zo_jm_max (And.intro zo_jm_min (And.intro zo_ji_bitCount (And.intro zo_jl_bitCount (And.intro zo_F_pieces (And.intro zo_F_largestPiece (And.intro zo_F_holes (And.intro zo_F_steps (And.intro zo_F_quarterTurns (And.intro zo_F_bestShift (And.intro zo_F_lyingOn (And.intro zo_F_turnedOnce (And.intro zo_F_spread (And.intro zo_F_grown (And.intro zo_E_allWithin (And.intro zo_E_depth (And.intro zo_E_comesBack (And.intro zo_E_deepestKind (And.intro zo_T_init (And.intro zo_T_size (And.intro zo_T_put (And.intro zo_T_cut (And.intro zo_T_useUp (And.intro zo_T_byteAt (And.intro zo_T_open (And.intro zo_T_wrongByte (And.intro zo_T_fail (And.intro zo_T_takeSign (And.intro zo_T_needSign (And.intro zo_T_takeLine (And.intro zo_T_takeWord (And.intro zo_T_needWord (And.intro zo_T_atNumber (And.intro zo_T_takeNumber (And.intro zo_T_takeKind (And.intro zo_T_takeFigures (And.intro zo_T_runEnd (And.intro zo_T_moveTo (And.intro zo_U_narrowed (And.intro zo_U_fittingRows (h))))))))))))))))))))))))))))))))))))))))
theorem zo__1 : ∀ {ms : List zz_M} {ns : List zz_NM}, zz_all ms ns → zz_all (zm_U_fittingKinds :: zm_U_first :: zm_U_bestQuestion :: zm_U_greatestPart :: zm_S_init :: zm_S_copyFrom :: zm_S_addPerson :: zm_S_isPlain :: zm_S_marksOf :: zm_S_deedBitOf :: zm_S_hasDoneItsDeed :: zm_S_awaitsDeed :: zm_S_deedsHad :: zm_S_isFound :: zm_S_everybody :: zm_S_plainOnes :: zm_S_bearers :: zm_S_toldByGroup :: zm_S_deedsOfKinds :: zm_S_kindsLike :: zm_S_fits :: zm_S_fates :: zm_S_thumb :: zm_S_kindsMarkedAt :: zm_S_share :: zm_S_fameOfAll :: zm_S_deedsOfAll :: zm_S_rubbedOfAll :: zm_S_membersOfAll :: zm_S_dockerGain :: zm_S_needleGain :: zm_S_addRow :: zm_S_rowPart :: zm_S_draw :: zm_S_passYear :: zm_S_passYearAhead :: zm_S_growOld :: zm_S_endYear :: zm_S_bringDeed :: zm_S_shakeOver :: ms) (zn_U_fittingKinds :: zn_U_first :: zn_U_bestQuestion :: zn_U_greatestPart :: zn_S_init :: zn_S_copyFrom :: zn_S_addPerson :: zn_S_isPlain :: zn_S_marksOf :: zn_S_deedBitOf :: zn_S_hasDoneItsDeed :: zn_S_awaitsDeed :: zn_S_deedsHad :: zn_S_isFound :: zn_S_everybody :: zn_S_plainOnes :: zn_S_bearers :: zn_S_toldByGroup :: zn_S_deedsOfKinds :: zn_S_kindsLike :: zn_S_fits :: zn_S_fates :: zn_S_thumb :: zn_S_kindsMarkedAt :: zn_S_share :: zn_S_fameOfAll :: zn_S_deedsOfAll :: zn_S_rubbedOfAll :: zn_S_membersOfAll :: zn_S_dockerGain :: zn_S_needleGain :: zn_S_addRow :: zn_S_rowPart :: zn_S_draw :: zn_S_passYear :: zn_S_passYearAhead :: zn_S_growOld :: zn_S_endYear :: zn_S_bringDeed :: zn_S_shakeOver :: ns) := fun h => And.intro zo_U_fittingKinds (And.intro zo_U_first (And.intro zo_U_bestQuestion (And.intro zo_U_greatestPart (And.intro zo_S_init (And.intro zo_S_copyFrom (And.intro zo_S_addPerson (And.intro zo_S_isPlain (And.intro zo_S_marksOf (And.intro zo_S_deedBitOf (And.intro zo_S_hasDoneItsDeed (And.intro zo_S_awaitsDeed (And.intro zo_S_deedsHad (And.intro zo_S_isFound (And.intro zo_S_everybody (And.intro zo_S_plainOnes (And.intro zo_S_bearers (And.intro zo_S_toldByGroup (And.intro zo_S_deedsOfKinds (And.intro zo_S_kindsLike (And.intro zo_S_fits (And.intro zo_S_fates (And.intro zo_S_thumb (And.intro zo_S_kindsMarkedAt (And.intro zo_S_share (And.intro zo_S_fameOfAll (And.intro zo_S_deedsOfAll (And.intro zo_S_rubbedOfAll (And.intro zo_S_membersOfAll (And.intro zo_S_dockerGain (And.intro zo_S_needleGain (And.intro zo_S_addRow (And.intro zo_S_rowPart (And.intro zo_S_draw (And.intro zo_S_passYear (And.intro zo_S_passYearAhead (And.intro zo_S_growOld (And.intro zo_S_endYear (And.intro zo_S_bringDeed (And.intro zo_S_shakeOver (h))))))))))))))))))))))))))))))))))))))))
theorem zo__2 : ∀ {ms : List zz_M} {ns : List zz_NM}, zz_all ms ns → zz_all (zm_L_init :: zm_L_copyFrom :: zm_L_clear :: zm_L_addStep :: zm_L_addLine :: zm_L_comes :: zm_L_makesKnown :: zm_L_learn :: zm_L_total :: zm_L_applies :: zm_L_take :: zm_L_joined :: zm_A_init :: zm_A_size :: zm_A_forget :: zm_A_remember :: zm_A_goBack :: zm_G_init :: zm_G_fewestPlaces :: zm_G_fewestTellers :: zm_G_fillBerths :: zm_G_berthsFilled :: zm_G_berthPerson :: zm_G_firstForBerth :: zm_G_filledWith :: zm_G_pairPeople :: zm_G_pairedDeeds :: zm_G_partner :: zm_G_firstPartner :: zm_G_gainedWith :: zm_G_firstUnsettled :: zm_H_readAll :: zm_H_readLine :: zm_H_readKind :: zm_H_readPerson :: zm_J_readAll :: zm_J_readLine :: zm_J_readAnyOf :: zm_J_readAllOf :: zm_J_readAtom :: ms) (zn_L_init :: zn_L_copyFrom :: zn_L_clear :: zn_L_addStep :: zn_L_addLine :: zn_L_comes :: zn_L_makesKnown :: zn_L_learn :: zn_L_total :: zn_L_applies :: zn_L_take :: zn_L_joined :: zn_A_init :: zn_A_size :: zn_A_forget :: zn_A_remember :: zn_A_goBack :: zn_G_init :: zn_G_fewestPlaces :: zn_G_fewestTellers :: zn_G_fillBerths :: zn_G_berthsFilled :: zn_G_berthPerson :: zn_G_firstForBerth :: zn_G_filledWith :: zn_G_pairPeople :: zn_G_pairedDeeds :: zn_G_partner :: zn_G_firstPartner :: zn_G_gainedWith :: zn_G_firstUnsettled :: zn_H_readAll :: zn_H_readLine :: zn_H_readKind :: zn_H_readPerson :: zn_J_readAll :: zn_J_readLine :: zn_J_readAnyOf :: zn_J_readAllOf :: zn_J_readAtom :: ns) := fun h => And.intro zo_L_init (And.intro zo_L_copyFrom (And.intro zo_L_clear (And.intro zo_L_addStep (And.intro zo_L_addLine (And.intro zo_L_comes (And.intro zo_L_makesKnown (And.intro zo_L_learn (And.intro zo_L_total (And.intro zo_L_applies (And.intro zo_L_take (And.intro zo_L_joined (And.intro zo_A_init (And.intro zo_A_size (And.intro zo_A_forget (And.intro zo_A_remember (And.intro zo_A_goBack (And.intro zo_G_init (And.intro zo_G_fewestPlaces (And.intro zo_G_fewestTellers (And.intro zo_G_fillBerths (And.intro zo_G_berthsFilled (And.intro zo_G_berthPerson (And.intro zo_G_firstForBerth (And.intro zo_G_filledWith (And.intro zo_G_pairPeople (And.intro zo_G_pairedDeeds (And.intro zo_G_partner (And.intro zo_G_firstPartner (And.intro zo_G_gainedWith (And.intro zo_G_firstUnsettled (And.intro zo_H_readAll (And.intro zo_H_readLine (And.intro zo_H_readKind (And.intro zo_H_readPerson (And.intro zo_J_readAll (And.intro zo_J_readLine (And.intro zo_J_readAnyOf (And.intro zo_J_readAllOf (And.intro zo_J_readAtom (h))))))))))))))))))))))))))))))))))))))))
theorem zo__3 : ∀ {ms : List zz_M} {ns : List zz_NM}, zz_all ms ns → zz_all (zm_J_readSum :: zm_J_readPart :: zm_J_partWord :: zm_N_init :: zm_N_feed :: zm_N_end :: zm_N_shop :: zm_N_law :: zm_N_fault :: zm_N_kind :: zm_N_person :: zm_N_mark :: zm_N_years :: zm_N_rub :: zm_N_ink :: zm_N_wash :: zm_N_told :: zm_N_hold :: zm_N_does :: zm_N_luck :: zm_N_fill :: zm_N_blank :: zm_N_reach :: zm_N_turned :: zm_N_shifts :: zm_N_ring :: zm_N_deepest :: zm_N_rules :: zm_N_ask :: zm_N_now :: zm_N_crew :: zm_N_berths :: zm_N_inks :: zm_N_old :: zm_N_clash :: zm_N_pairs :: zm_N_kin :: zm_N_rests :: zm_N_odds :: zm_N_plain :: ms) (zn_J_readSum :: zn_J_readPart :: zn_J_partWord :: zn_N_init :: zn_N_feed :: zn_N_end :: zn_N_shop :: zn_N_law :: zn_N_fault :: zn_N_kind :: zn_N_person :: zn_N_mark :: zn_N_years :: zn_N_rub :: zn_N_ink :: zn_N_wash :: zn_N_told :: zn_N_hold :: zn_N_does :: zn_N_luck :: zn_N_fill :: zn_N_blank :: zn_N_reach :: zn_N_turned :: zn_N_shifts :: zn_N_ring :: zn_N_deepest :: zn_N_rules :: zn_N_ask :: zn_N_now :: zn_N_crew :: zn_N_berths :: zn_N_inks :: zn_N_old :: zn_N_clash :: zn_N_pairs :: zn_N_kin :: zn_N_rests :: zn_N_odds :: zn_N_plain :: ns) := fun h => And.intro zo_J_readSum (And.intro zo_J_readPart (And.intro zo_J_partWord (And.intro zo_N_init (And.intro zo_N_feed (And.intro zo_N_end (And.intro zo_N_shop (And.intro zo_N_law (And.intro zo_N_fault (And.intro zo_N_kind (And.intro zo_N_person (And.intro zo_N_mark (And.intro zo_N_years (And.intro zo_N_rub (And.intro zo_N_ink (And.intro zo_N_wash (And.intro zo_N_told (And.intro zo_N_hold (And.intro zo_N_does (And.intro zo_N_luck (And.intro zo_N_fill (And.intro zo_N_blank (And.intro zo_N_reach (And.intro zo_N_turned (And.intro zo_N_shifts (And.intro zo_N_ring (And.intro zo_N_deepest (And.intro zo_N_rules (And.intro zo_N_ask (And.intro zo_N_now (And.intro zo_N_crew (And.intro zo_N_berths (And.intro zo_N_inks (And.intro zo_N_old (And.intro zo_N_clash (And.intro zo_N_pairs (And.intro zo_N_kin (And.intro zo_N_rests (And.intro zo_N_odds (And.intro zo_N_plain (h))))))))))))))))))))))))))))))))))))))))
theorem zo__4 : ∀ {ms : List zz_M} {ns : List zz_NM}, zz_all ms ns → zz_all (zm_N_found :: zm_N_soFar :: zm_N_eldest :: zm_N_famous :: zm_N_twins :: zm_N_tellers :: zm_N_ahead :: zm_N_trial :: zm_N_span :: zm_N_led :: zm_N_log :: zm_N_seed :: zm_N_undo :: zm_N_image :: zm_N_back :: zm_N_count :: zm_N_needPerson :: zm_N_needKind :: zm_N_needDeed :: zm_N_needPlace :: zm_N_needYears :: zm_N_needRows :: zm_N_needBerths :: zm_N_sureYear :: zm_N_tryYears :: zm_D_init :: zm_D_thrown :: zm_D_isIn :: zm_D_lesser :: zm_D_greater :: zm_D_isOf :: zm_D_bits :: zm_D_ofKind :: zm_D_of :: zm_D_lays :: zm_D_isOne :: zm_D_isKind :: zm_D_isPlain :: zm_D_deedOf :: zm_D_marksOf :: ms) (zn_N_found :: zn_N_soFar :: zn_N_eldest :: zn_N_famous :: zn_N_twins :: zn_N_tellers :: zn_N_ahead :: zn_N_trial :: zn_N_span :: zn_N_led :: zn_N_log :: zn_N_seed :: zn_N_undo :: zn_N_image :: zn_N_back :: zn_N_count :: zn_N_needPerson :: zn_N_needKind :: zn_N_needDeed :: zn_N_needPlace :: zn_N_needYears :: zn_N_needRows :: zn_N_needBerths :: zn_N_sureYear :: zn_N_tryYears :: zn_D_init :: zn_D_thrown :: zn_D_isIn :: zn_D_lesser :: zn_D_greater :: zn_D_isOf :: zn_D_bits :: zn_D_ofKind :: zn_D_of :: zn_D_lays :: zn_D_isOne :: zn_D_isKind :: zn_D_isPlain :: zn_D_deedOf :: zn_D_marksOf :: ns) := fun h => And.intro zo_N_found (And.intro zo_N_soFar (And.intro zo_N_eldest (And.intro zo_N_famous (And.intro zo_N_twins (And.intro zo_N_tellers (And.intro zo_N_ahead (And.intro zo_N_trial (And.intro zo_N_span (And.intro zo_N_led (And.intro zo_N_log (And.intro zo_N_seed (And.intro zo_N_undo (And.intro zo_N_image (And.intro zo_N_back (And.intro zo_N_count (And.intro zo_N_needPerson (And.intro zo_N_needKind (And.intro zo_N_needDeed (And.intro zo_N_needPlace (And.intro zo_N_needYears (And.intro zo_N_needRows (And.intro zo_N_needBerths (And.intro zo_N_sureYear (And.intro zo_N_tryYears (And.intro zo_D_init (And.intro zo_D_thrown (And.intro zo_D_isIn (And.intro zo_D_lesser (And.intro zo_D_greater (And.intro zo_D_isOf (And.intro zo_D_bits (And.intro zo_D_ofKind (And.intro zo_D_of (And.intro zo_D_lays (And.intro zo_D_isOne (And.intro zo_D_isKind (And.intro zo_D_isPlain (And.intro zo_D_deedOf (And.intro zo_D_marksOf (h))))))))))))))))))))))))))))))))))))))))
theorem zo__5 : ∀ {ms : List zz_M} {ns : List zz_NM}, zz_all ms ns → zz_all (zm_D_feed :: zm_D_end :: zm_D_letter :: zm_D_skip :: zm_D_isSign :: zm_D_has :: zm_D_wrong :: zm_D_here :: zm_D_figures :: zm_D_after :: zm_D_kindLetter :: zm_D_fourMarks :: zm_D_expects :: zm_D_kindLine :: zm_D_personLine :: zm_D_tells :: zm_D_shopLine :: zm_D_begins :: zm_D_read :: zm_D_putsAside :: zm_D_comesBack :: zm_D_shop :: zm_D_part :: zm_D_sum :: zm_D_plainly :: zm_D_atom :: zm_D_every :: zm_D_some :: zm_D_lawLine :: zm_D_law :: zm_D_fault :: zm_D_fitting :: zm_D_asks :: zm_D_comesOf :: zm_D_draw :: zm_D_logs :: zm_D_deeds :: zm_D_thumbs :: zm_D_passes :: zm_D_goes :: ms) (zn_D_feed :: zn_D_end :: zn_D_letter :: zn_D_skip :: zn_D_isSign :: zn_D_has :: zn_D_wrong :: zn_D_here :: zn_D_figures :: zn_D_after :: zn_D_kindLetter :: zn_D_fourMarks :: zn_D_expects :: zn_D_kindLine :: zn_D_personLine :: zn_D_tells :: zn_D_shopLine :: zn_D_begins :: zn_D_read :: zn_D_putsAside :: zn_D_comesBack :: zn_D_shop :: zn_D_part :: zn_D_sum :: zn_D_plainly :: zn_D_atom :: zn_D_every :: zn_D_some :: zn_D_lawLine :: zn_D_law :: zn_D_fault :: zn_D_fitting :: zn_D_asks :: zn_D_comesOf :: zn_D_draw :: zn_D_logs :: zn_D_deeds :: zn_D_thumbs :: zn_D_passes :: zn_D_goes :: ns) := fun h => And.intro zo_D_feed (And.intro zo_D_end (And.intro zo_D_letter (And.intro zo_D_skip (And.intro zo_D_isSign (And.intro zo_D_has (And.intro zo_D_wrong (And.intro zo_D_here (And.intro zo_D_figures (And.intro zo_D_after (And.intro zo_D_kindLetter (And.intro zo_D_fourMarks (And.intro zo_D_expects (And.intro zo_D_kindLine (And.intro zo_D_personLine (And.intro zo_D_tells (And.intro zo_D_shopLine (And.intro zo_D_begins (And.intro zo_D_read (And.intro zo_D_putsAside (And.intro zo_D_comesBack (And.intro zo_D_shop (And.intro zo_D_part (And.intro zo_D_sum (And.intro zo_D_plainly (And.intro zo_D_atom (And.intro zo_D_every (And.intro zo_D_some (And.intro zo_D_lawLine (And.intro zo_D_law (And.intro zo_D_fault (And.intro zo_D_fitting (And.intro zo_D_asks (And.intro zo_D_comesOf (And.intro zo_D_draw (And.intro zo_D_logs (And.intro zo_D_deeds (And.intro zo_D_thumbs (And.intro zo_D_passes (And.intro zo_D_goes (h))))))))))))))))))))))))))))))))))))))))
theorem zo__6 : ∀ {ms : List zz_M} {ns : List zz_NM}, zz_all ms ns → zz_all (zm_D_bitsOfAll :: zm_D_fameOfAll :: zm_D_tellsApart :: zm_D_few :: zm_D_same :: zm_D_beside :: zm_D_floods :: zm_D_pieces :: zm_D_holes :: zm_D_deepOf :: zm_D_within :: zm_D_bearers :: zm_D_kind :: zm_D_thumb :: zm_D_sureOf :: zm_D_fates :: zm_D_person :: zm_D_isPlace :: zm_D_mark :: zm_D_remembers :: zm_D_sets :: zm_D_years :: zm_D_rub :: zm_D_ink :: zm_D_wash :: zm_D_told :: zm_D_hold :: zm_D_does :: zm_D_luck :: zm_D_fill :: zm_D_blank :: zm_D_reach :: zm_D_turns :: zm_D_areKinds :: zm_D_turned :: zm_D_lie :: zm_D_shifts :: zm_D_ring :: zm_D_deepest :: zm_D_ruled :: ms) (zn_D_bitsOfAll :: zn_D_fameOfAll :: zn_D_tellsApart :: zn_D_few :: zn_D_same :: zn_D_beside :: zn_D_floods :: zn_D_pieces :: zn_D_holes :: zn_D_deepOf :: zn_D_within :: zn_D_bearers :: zn_D_kind :: zn_D_thumb :: zn_D_sureOf :: zn_D_fates :: zn_D_person :: zn_D_isPlace :: zn_D_mark :: zn_D_remembers :: zn_D_sets :: zn_D_years :: zn_D_rub :: zn_D_ink :: zn_D_wash :: zn_D_told :: zn_D_hold :: zn_D_does :: zn_D_luck :: zn_D_fill :: zn_D_blank :: zn_D_reach :: zn_D_turns :: zn_D_areKinds :: zn_D_turned :: zn_D_lie :: zn_D_shifts :: zn_D_ring :: zn_D_deepest :: zn_D_ruled :: ns) := fun h => And.intro zo_D_bitsOfAll (And.intro zo_D_fameOfAll (And.intro zo_D_tellsApart (And.intro zo_D_few (And.intro zo_D_same (And.intro zo_D_beside (And.intro zo_D_floods (And.intro zo_D_pieces (And.intro zo_D_holes (And.intro zo_D_deepOf (And.intro zo_D_within (And.intro zo_D_bearers (And.intro zo_D_kind (And.intro zo_D_thumb (And.intro zo_D_sureOf (And.intro zo_D_fates (And.intro zo_D_person (And.intro zo_D_isPlace (And.intro zo_D_mark (And.intro zo_D_remembers (And.intro zo_D_sets (And.intro zo_D_years (And.intro zo_D_rub (And.intro zo_D_ink (And.intro zo_D_wash (And.intro zo_D_told (And.intro zo_D_hold (And.intro zo_D_does (And.intro zo_D_luck (And.intro zo_D_fill (And.intro zo_D_blank (And.intro zo_D_reach (And.intro zo_D_turns (And.intro zo_D_areKinds (And.intro zo_D_turned (And.intro zo_D_lie (And.intro zo_D_shifts (And.intro zo_D_ring (And.intro zo_D_deepest (And.intro zo_D_ruled (h))))))))))))))))))))))))))))))))))))))))
theorem zo__7 : ∀ {ms : List zz_M} {ns : List zz_NM}, zz_all ms ns → zz_all (zm_D_heard :: zm_D_fitMany :: zm_D_firstFit :: zm_D_rules :: zm_D_ask :: zm_D_now :: zm_D_toldBy :: zm_D_crew :: zm_D_canBerth :: zm_D_berths :: zm_D_tellersOf :: zm_D_plainOnes :: zm_D_inks :: zm_D_old :: zm_D_clash :: zm_D_allOf :: zm_D_lowest :: zm_D_apart :: zm_D_allBest :: zm_D_pairs :: zm_D_kin :: zm_D_itHas :: zm_D_needleHas :: zm_D_rests :: zm_D_odds :: zm_D_plain :: zm_D_found :: zm_D_soFar :: zm_D_eldest :: zm_D_famous :: zm_D_twins :: zm_D_tellers :: zm_D_ahead :: zm_D_trial :: zm_D_span :: zm_D_logged :: zm_D_led :: zm_D_log :: zm_D_seed :: zm_D_undo :: ms) (zn_D_heard :: zn_D_fitMany :: zn_D_firstFit :: zn_D_rules :: zn_D_ask :: zn_D_now :: zn_D_toldBy :: zn_D_crew :: zn_D_canBerth :: zn_D_berths :: zn_D_tellersOf :: zn_D_plainOnes :: zn_D_inks :: zn_D_old :: zn_D_clash :: zn_D_allOf :: zn_D_lowest :: zn_D_apart :: zn_D_allBest :: zn_D_pairs :: zn_D_kin :: zn_D_itHas :: zn_D_needleHas :: zn_D_rests :: zn_D_odds :: zn_D_plain :: zn_D_found :: zn_D_soFar :: zn_D_eldest :: zn_D_famous :: zn_D_twins :: zn_D_tellers :: zn_D_ahead :: zn_D_trial :: zn_D_span :: zn_D_logged :: zn_D_led :: zn_D_log :: zn_D_seed :: zn_D_undo :: ns) := fun h => And.intro zo_D_heard (And.intro zo_D_fitMany (And.intro zo_D_firstFit (And.intro zo_D_rules (And.intro zo_D_ask (And.intro zo_D_now (And.intro zo_D_toldBy (And.intro zo_D_crew (And.intro zo_D_canBerth (And.intro zo_D_berths (And.intro zo_D_tellersOf (And.intro zo_D_plainOnes (And.intro zo_D_inks (And.intro zo_D_old (And.intro zo_D_clash (And.intro zo_D_allOf (And.intro zo_D_lowest (And.intro zo_D_apart (And.intro zo_D_allBest (And.intro zo_D_pairs (And.intro zo_D_kin (And.intro zo_D_itHas (And.intro zo_D_needleHas (And.intro zo_D_rests (And.intro zo_D_odds (And.intro zo_D_plain (And.intro zo_D_found (And.intro zo_D_soFar (And.intro zo_D_eldest (And.intro zo_D_famous (And.intro zo_D_twins (And.intro zo_D_tellers (And.intro zo_D_ahead (And.intro zo_D_trial (And.intro zo_D_span (And.intro zo_D_logged (And.intro zo_D_led (And.intro zo_D_log (And.intro zo_D_seed (And.intro zo_D_undo (h))))))))))))))))))))))))))))))))))))))))
theorem zo__8 : ∀ {ms : List zz_M} {ns : List zz_NM}, zz_all ms ns → zz_all (zm_D_image :: zm_D_back :: zm_D_count :: zm_W_shop :: zm_W_law_0 :: zm_W_kind :: zm_W_person :: zm_W_mark :: zm_W_years :: zm_W_rub :: zm_W_ink :: zm_W_wash :: zm_W_told :: zm_W_hold :: zm_W_does :: zm_W_luck :: zm_W_fill :: zm_W_blank :: zm_W_reach :: zm_W_turned :: zm_W_shifts :: zm_W_ring :: zm_W_rules :: zm_W_ask :: zm_W_berths :: zm_W_old :: zm_W_clash :: zm_W_pairs :: zm_W_kin :: zm_W_rests :: zm_W_odds :: zm_W_tellers :: zm_W_ahead :: zm_W_trial :: zm_W_span :: zm_W_led :: zm_W_log :: zm_W_law_1 :: ms) (zn_D_image :: zn_D_back :: zn_D_count :: zn_W_shop :: zn_W_law_0 :: zn_W_kind :: zn_W_person :: zn_W_mark :: zn_W_years :: zn_W_rub :: zn_W_ink :: zn_W_wash :: zn_W_told :: zn_W_hold :: zn_W_does :: zn_W_luck :: zn_W_fill :: zn_W_blank :: zn_W_reach :: zn_W_turned :: zn_W_shifts :: zn_W_ring :: zn_W_rules :: zn_W_ask :: zn_W_berths :: zn_W_old :: zn_W_clash :: zn_W_pairs :: zn_W_kin :: zn_W_rests :: zn_W_odds :: zn_W_tellers :: zn_W_ahead :: zn_W_trial :: zn_W_span :: zn_W_led :: zn_W_log :: zn_W_law_1 :: ns) := fun h => And.intro zo_D_image (And.intro zo_D_back (And.intro zo_D_count (And.intro zo_W_shop (And.intro zo_W_law_0 (And.intro zo_W_kind (And.intro zo_W_person (And.intro zo_W_mark (And.intro zo_W_years (And.intro zo_W_rub (And.intro zo_W_ink (And.intro zo_W_wash (And.intro zo_W_told (And.intro zo_W_hold (And.intro zo_W_does (And.intro zo_W_luck (And.intro zo_W_fill (And.intro zo_W_blank (And.intro zo_W_reach (And.intro zo_W_turned (And.intro zo_W_shifts (And.intro zo_W_ring (And.intro zo_W_rules (And.intro zo_W_ask (And.intro zo_W_berths (And.intro zo_W_old (And.intro zo_W_clash (And.intro zo_W_pairs (And.intro zo_W_kin (And.intro zo_W_rests (And.intro zo_W_odds (And.intro zo_W_tellers (And.intro zo_W_ahead (And.intro zo_W_trial (And.intro zo_W_span (And.intro zo_W_led (And.intro zo_W_log (And.intro zo_W_law_1 (h))))))))))))))))))))))))))))))))))))))
set_option maxRecDepth 100000 in
theorem zz_allOk : zz_all zz_P zz_N := by
  have h : zz_all ([] : List zz_M) ([] : List zz_NM) := True.intro
  exact (zo__0 (zo__1 (zo__2 (zo__3 (zo__4 (zo__5 (zo__6 (zo__7 (zo__8 h)))))))))
theorem zz_rows_ok : zz_rowsOk := fun k m0 nm hm hn => zz_all_get zz_allOk k m0 nm hm hn
