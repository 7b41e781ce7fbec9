/-! ===== the code words ===== -/
set_option maxRecDepth 100000 in
theorem cw_X0_init : Jvm.Cond.code mX0_init.1 mX0_init.2.1 mX0_init.2.2.1 mX0_init.2.2.2.1 ∈ xTb := List.mem_filter.mpr ⟨List.mem_of_getElem? (i := 152) rfl, rfl⟩
set_option maxRecDepth 100000 in
theorem cw_X0_copy : Jvm.Cond.code mX0_copy.1 mX0_copy.2.1 mX0_copy.2.2.1 mX0_copy.2.2.2.1 ∈ xTb := List.mem_filter.mpr ⟨List.mem_of_getElem? (i := 1445) rfl, rfl⟩
set_option maxRecDepth 100000 in
theorem cw_X0_addBird : Jvm.Cond.code mX0_addBird.1 mX0_addBird.2.1 mX0_addBird.2.2.1 mX0_addBird.2.2.2.1 ∈ xTb := List.mem_filter.mpr ⟨List.mem_of_getElem? (i := 525) rfl, rfl⟩
set_option maxRecDepth 100000 in
theorem cw_X0_addText : Jvm.Cond.code mX0_addText.1 mX0_addText.2.1 mX0_addText.2.2.1 mX0_addText.2.2.2.1 ∈ xTb := List.mem_filter.mpr ⟨List.mem_of_getElem? (i := 842) rfl, rfl⟩
set_option maxRecDepth 100000 in
theorem cw_X0_addTold : Jvm.Cond.code mX0_addTold.1 mX0_addTold.2.1 mX0_addTold.2.2.1 mX0_addTold.2.2.2.1 ∈ xTb := List.mem_filter.mpr ⟨List.mem_of_getElem? (i := 1412) rfl, rfl⟩
set_option maxRecDepth 100000 in
theorem cw_X0_hasBird : Jvm.Cond.code mX0_hasBird.1 mX0_hasBird.2.1 mX0_hasBird.2.2.1 mX0_hasBird.2.2.2.1 ∈ xTb := List.mem_filter.mpr ⟨List.mem_of_getElem? (i := 866) rfl, rfl⟩
set_option maxRecDepth 100000 in
theorem cw_X0_hasText : Jvm.Cond.code mX0_hasText.1 mX0_hasText.2.1 mX0_hasText.2.2.1 mX0_hasText.2.2.2.1 ∈ xTb := List.mem_filter.mpr ⟨List.mem_of_getElem? (i := 854) rfl, rfl⟩
set_option maxRecDepth 100000 in
theorem cw_X0_textAt : Jvm.Cond.code mX0_textAt.1 mX0_textAt.2.1 mX0_textAt.2.2.1 mX0_textAt.2.2.2.1 ∈ xTb := List.mem_filter.mpr ⟨List.mem_of_getElem? (i := 940) rfl, rfl⟩
set_option maxRecDepth 100000 in
theorem cw_X0_rulingText : Jvm.Cond.code mX0_rulingText.1 mX0_rulingText.2.1 mX0_rulingText.2.2.1 mX0_rulingText.2.2.2.1 ∈ xTb := List.mem_filter.mpr ⟨List.mem_of_getElem? (i := 936) rfl, rfl⟩
set_option maxRecDepth 100000 in
theorem cw_X0_isDue : Jvm.Cond.code mX0_isDue.1 mX0_isDue.2.1 mX0_isDue.2.2.1 mX0_isDue.2.2.2.1 ∈ xTb := List.mem_filter.mpr ⟨List.mem_of_getElem? (i := 923) rfl, rfl⟩
set_option maxRecDepth 100000 in
theorem cw_X0_dueOn : Jvm.Cond.code mX0_dueOn.1 mX0_dueOn.2.1 mX0_dueOn.2.2.1 mX0_dueOn.2.2.2.1 ∈ xTb := List.mem_filter.mpr ⟨List.mem_of_getElem? (i := 1078) rfl, rfl⟩
set_option maxRecDepth 100000 in
theorem cw_X0_canThin : Jvm.Cond.code mX0_canThin.1 mX0_canThin.2.1 mX0_canThin.2.2.1 mX0_canThin.2.2.2.1 ∈ xTb := List.mem_filter.mpr ⟨List.mem_of_getElem? (i := 862) rfl, rfl⟩
set_option maxRecDepth 100000 in
theorem cw_X0_canCall : Jvm.Cond.code mX0_canCall.1 mX0_canCall.2.1 mX0_canCall.2.2.1 mX0_canCall.2.2.2.1 ∈ xTb := List.mem_filter.mpr ⟨List.mem_of_getElem? (i := 894) rfl, rfl⟩
set_option maxRecDepth 100000 in
theorem cw_X0_canGrant : Jvm.Cond.code mX0_canGrant.1 mX0_canGrant.2.1 mX0_canGrant.2.2.1 mX0_canGrant.2.2.2.1 ∈ xTb := List.mem_filter.mpr ⟨List.mem_of_getElem? (i := 906) rfl, rfl⟩
set_option maxRecDepth 100000 in
theorem cw_X0_canPass : Jvm.Cond.code mX0_canPass.1 mX0_canPass.2.1 mX0_canPass.2.2.1 mX0_canPass.2.2.2.1 ∈ xTb := List.mem_filter.mpr ⟨List.mem_of_getElem? (i := 1029) rfl, rfl⟩
set_option maxRecDepth 100000 in
theorem cw_X1_init : Jvm.Cond.code mX1_init.1 mX1_init.2.1 mX1_init.2.2.1 mX1_init.2.2.2.1 ∈ xTb := List.mem_filter.mpr ⟨List.mem_of_getElem? (i := 146) rfl, rfl⟩
set_option maxRecDepth 100000 in
theorem cw_X1_chanceOf : Jvm.Cond.code mX1_chanceOf.1 mX1_chanceOf.2.1 mX1_chanceOf.2.2.1 mX1_chanceOf.2.2.2.1 ∈ xTb := List.mem_filter.mpr ⟨List.mem_of_getElem? (i := 931) rfl, rfl⟩
set_option maxRecDepth 100000 in
theorem cw_X1_broughtBy : Jvm.Cond.code mX1_broughtBy.1 mX1_broughtBy.2.1 mX1_broughtBy.2.2.1 mX1_broughtBy.2.2.2.1 ∈ xTb := List.mem_filter.mpr ⟨List.mem_of_getElem? (i := 997) rfl, rfl⟩
set_option maxRecDepth 100000 in
theorem cw_X1_run : Jvm.Cond.code mX1_run.1 mX1_run.2.1 mX1_run.2.2.1 mX1_run.2.2.2.1 ∈ xTb := List.mem_filter.mpr ⟨List.mem_of_getElem? (i := 945) rfl, rfl⟩
set_option maxRecDepth 100000 in
theorem cw_X1_isOfOne : Jvm.Cond.code mX1_isOfOne.1 mX1_isOfOne.2.1 mX1_isOfOne.2.2.1 mX1_isOfOne.2.2.2.1 ∈ xTb := List.mem_filter.mpr ⟨List.mem_of_getElem? (i := 950) rfl, rfl⟩
set_option maxRecDepth 100000 in
theorem cw_X1_isOfTwo : Jvm.Cond.code mX1_isOfTwo.1 mX1_isOfTwo.2.1 mX1_isOfTwo.2.2.1 mX1_isOfTwo.2.2.2.1 ∈ xTb := List.mem_filter.mpr ⟨List.mem_of_getElem? (i := 959) rfl, rfl⟩
set_option maxRecDepth 100000 in
theorem cw_X1_named : Jvm.Cond.code mX1_named.1 mX1_named.2.1 mX1_named.2.2.1 mX1_named.2.2.2.1 ∈ xTb := List.mem_filter.mpr ⟨List.mem_of_getElem? (i := 982) rfl, rfl⟩
set_option maxRecDepth 100000 in
theorem cw_X1_ofOne : Jvm.Cond.code mX1_ofOne.1 mX1_ofOne.2.1 mX1_ofOne.2.2.1 mX1_ofOne.2.2.2.1 ∈ xTb := List.mem_filter.mpr ⟨List.mem_of_getElem? (i := 955) rfl, rfl⟩
set_option maxRecDepth 100000 in
theorem cw_X1_ofTwo : Jvm.Cond.code mX1_ofTwo.1 mX1_ofTwo.2.1 mX1_ofTwo.2.2.1 mX1_ofTwo.2.2.2.1 ∈ xTb := List.mem_filter.mpr ⟨List.mem_of_getElem? (i := 962) rfl, rfl⟩
set_option maxRecDepth 100000 in
theorem cw_X1_isSo : Jvm.Cond.code mX1_isSo.1 mX1_isSo.2.1 mX1_isSo.2.2.1 mX1_isSo.2.2.2.1 ∈ xTb := List.mem_filter.mpr ⟨List.mem_of_getElem? (i := 978) rfl, rfl⟩
set_option maxRecDepth 100000 in
theorem cw_X2_init : Jvm.Cond.code mX2_init.1 mX2_init.2.1 mX2_init.2.2.1 mX2_init.2.2.2.1 ∈ xTb := List.mem_filter.mpr ⟨List.mem_of_getElem? (i := 158) rfl, rfl⟩
set_option maxRecDepth 100000 in
theorem cw_X2_copy : Jvm.Cond.code mX2_copy.1 mX2_copy.2.1 mX2_copy.2.2.1 mX2_copy.2.2.2.1 ∈ xTb := List.mem_filter.mpr ⟨List.mem_of_getElem? (i := 881) rfl, rfl⟩
set_option maxRecDepth 100000 in
theorem cw_X2_isGone : Jvm.Cond.code mX2_isGone.1 mX2_isGone.2.1 mX2_isGone.2.2.1 mX2_isGone.2.2.2.1 ∈ xTb := List.mem_filter.mpr ⟨List.mem_of_getElem? (i := 870) rfl, rfl⟩
set_option maxRecDepth 100000 in
theorem cw_X2_markGone : Jvm.Cond.code mX2_markGone.1 mX2_markGone.2.1 mX2_markGone.2.2.1 mX2_markGone.2.2.2.1 ∈ xTb := List.mem_filter.mpr ⟨List.mem_of_getElem? (i := 886) rfl, rfl⟩
set_option maxRecDepth 100000 in
theorem cw_X2_markBack : Jvm.Cond.code mX2_markBack.1 mX2_markBack.2.1 mX2_markBack.2.2.1 mX2_markBack.2.2.2.1 ∈ xTb := List.mem_filter.mpr ⟨List.mem_of_getElem? (i := 898) rfl, rfl⟩
set_option maxRecDepth 100000 in
theorem cw_X2_noteCame : Jvm.Cond.code mX2_noteCame.1 mX2_noteCame.2.1 mX2_noteCame.2.2.1 mX2_noteCame.2.2.2.1 ∈ xTb := List.mem_filter.mpr ⟨List.mem_of_getElem? (i := 992) rfl, rfl⟩
set_option maxRecDepth 100000 in
theorem cw_X2_draw : Jvm.Cond.code mX2_draw.1 mX2_draw.2.1 mX2_draw.2.2.1 mX2_draw.2.2.2.1 ∈ xTb := List.mem_filter.mpr ⟨List.mem_of_getElem? (i := 927) rfl, rfl⟩
set_option maxRecDepth 100000 in
theorem cw_X2_write : Jvm.Cond.code mX2_write.1 mX2_write.2.1 mX2_write.2.2.1 mX2_write.2.2.2.1 ∈ xTb := List.mem_filter.mpr ⟨List.mem_of_getElem? (i := 1002) rfl, rfl⟩
set_option maxRecDepth 100000 in
theorem cw_X2_onPage : Jvm.Cond.code mX2_onPage.1 mX2_onPage.2.1 mX2_onPage.2.2.1 mX2_onPage.2.2.2.1 ∈ xTb := List.mem_filter.mpr ⟨List.mem_of_getElem? (i := 1064) rfl, rfl⟩
set_option maxRecDepth 100000 in
theorem cw_X2_countWritten : Jvm.Cond.code mX2_countWritten.1 mX2_countWritten.2.1 mX2_countWritten.2.2.1 mX2_countWritten.2.2.2.1 ∈ xTb := List.mem_filter.mpr ⟨List.mem_of_getElem? (i := 1436) rfl, rfl⟩
set_option maxRecDepth 100000 in
theorem cw_X3_init : Jvm.Cond.code mX3_init.1 mX3_init.2.1 mX3_init.2.2.1 mX3_init.2.2.2.1 ∈ xTb := List.mem_filter.mpr ⟨List.mem_of_getElem? (i := 229) rfl, rfl⟩
set_option maxRecDepth 100000 in
theorem cw_X3_copy : Jvm.Cond.code mX3_copy.1 mX3_copy.2.1 mX3_copy.2.2.1 mX3_copy.2.2.2.1 ∈ xTb := List.mem_filter.mpr ⟨List.mem_of_getElem? (i := 1455) rfl, rfl⟩
set_option maxRecDepth 100000 in
theorem cw_X3_add : Jvm.Cond.code mX3_add.1 mX3_add.2.1 mX3_add.2.2.1 mX3_add.2.2.2.1 ∈ xTb := List.mem_filter.mpr ⟨List.mem_of_getElem? (i := 1133) rfl, rfl⟩
set_option maxRecDepth 100000 in
theorem cw_X3_fits : Jvm.Cond.code mX3_fits.1 mX3_fits.2.1 mX3_fits.2.2.1 mX3_fits.2.2.2.1 ∈ xTb := List.mem_filter.mpr ⟨List.mem_of_getElem? (i := 1145) rfl, rfl⟩
set_option maxRecDepth 100000 in
theorem cw_X3_countFitting : Jvm.Cond.code mX3_countFitting.1 mX3_countFitting.2.1 mX3_countFitting.2.2.1 mX3_countFitting.2.2.2.1 ∈ xTb := List.mem_filter.mpr ⟨List.mem_of_getElem? (i := 1141) rfl, rfl⟩
set_option maxRecDepth 100000 in
theorem cw_X3_leastPeriod : Jvm.Cond.code mX3_leastPeriod.1 mX3_leastPeriod.2.1 mX3_leastPeriod.2.2.1 mX3_leastPeriod.2.2.2.1 ∈ xTb := List.mem_filter.mpr ⟨List.mem_of_getElem? (i := 1153) rfl, rfl⟩
set_option maxRecDepth 100000 in
theorem cw_X3_leastPhase : Jvm.Cond.code mX3_leastPhase.1 mX3_leastPhase.2.1 mX3_leastPhase.2.2.1 mX3_leastPhase.2.2.2.1 ∈ xTb := List.mem_filter.mpr ⟨List.mem_of_getElem? (i := 1157) rfl, rfl⟩
set_option maxRecDepth 100000 in
theorem cw_X3_nextDay : Jvm.Cond.code mX3_nextDay.1 mX3_nextDay.2.1 mX3_nextDay.2.2.1 mX3_nextDay.2.2.2.1 ∈ xTb := List.mem_filter.mpr ⟨List.mem_of_getElem? (i := 1162) rfl, rfl⟩
set_option maxRecDepth 100000 in
theorem cw_X4_init : Jvm.Cond.code mX4_init.1 mX4_init.2.1 mX4_init.2.2.1 mX4_init.2.2.2.1 ∈ xTb := List.mem_filter.mpr ⟨List.mem_of_getElem? (i := 258) rfl, rfl⟩
set_option maxRecDepth 100000 in
theorem cw_X4_copy : Jvm.Cond.code mX4_copy.1 mX4_copy.2.1 mX4_copy.2.2.1 mX4_copy.2.2.2.1 ∈ xTb := List.mem_filter.mpr ⟨List.mem_of_getElem? (i := 1464) rfl, rfl⟩
set_option maxRecDepth 100000 in
theorem cw_X4_allVotes : Jvm.Cond.code mX4_allVotes.1 mX4_allVotes.2.1 mX4_allVotes.2.2.1 mX4_allVotes.2.2.2.1 ∈ xTb := List.mem_filter.mpr ⟨List.mem_of_getElem? (i := 1281) rfl, rfl⟩
set_option maxRecDepth 100000 in
theorem cw_X4_seatsByShares : Jvm.Cond.code mX4_seatsByShares.1 mX4_seatsByShares.2.1 mX4_seatsByShares.2.2.1 mX4_seatsByShares.2.2.2.1 ∈ xTb := List.mem_filter.mpr ⟨List.mem_of_getElem? (i := 1290) rfl, rfl⟩
set_option maxRecDepth 100000 in
theorem cw_X4_seatsByRests : Jvm.Cond.code mX4_seatsByRests.1 mX4_seatsByRests.2.1 mX4_seatsByRests.2.2.1 mX4_seatsByRests.2.2.2.1 ∈ xTb := List.mem_filter.mpr ⟨List.mem_of_getElem? (i := 1285) rfl, rfl⟩
set_option maxRecDepth 100000 in
theorem cw_X4_differing : Jvm.Cond.code mX4_differing.1 mX4_differing.2.1 mX4_differing.2.2.1 mX4_differing.2.2.2.1 ∈ xTb := List.mem_filter.mpr ⟨List.mem_of_getElem? (i := 1301) rfl, rfl⟩
set_option maxRecDepth 100000 in
theorem cw_X4_causeAt : Jvm.Cond.code mX4_causeAt.1 mX4_causeAt.2.1 mX4_causeAt.2.2.1 mX4_causeAt.2.2.2.1 ∈ xTb := List.mem_filter.mpr ⟨List.mem_of_getElem? (i := 1326) rfl, rfl⟩
set_option maxRecDepth 100000 in
theorem cw_X4_placeOf : Jvm.Cond.code mX4_placeOf.1 mX4_placeOf.2.1 mX4_placeOf.2.2.1 mX4_placeOf.2.2.2.1 ∈ xTb := List.mem_filter.mpr ⟨List.mem_of_getElem? (i := 1322) rfl, rfl⟩
set_option maxRecDepth 100000 in
theorem cw_X4_isAhead : Jvm.Cond.code mX4_isAhead.1 mX4_isAhead.2.1 mX4_isAhead.2.2.1 mX4_isAhead.2.2.2.1 ∈ xTb := List.mem_filter.mpr ⟨List.mem_of_getElem? (i := 1318) rfl, rfl⟩
set_option maxRecDepth 100000 in
theorem cw_X4_aheadOfAll : Jvm.Cond.code mX4_aheadOfAll.1 mX4_aheadOfAll.2.1 mX4_aheadOfAll.2.2.1 mX4_aheadOfAll.2.2.2.1 ∈ xTb := List.mem_filter.mpr ⟨List.mem_of_getElem? (i := 1338) rfl, rfl⟩
set_option maxRecDepth 100000 in
theorem cw_X4_pointsFor : Jvm.Cond.code mX4_pointsFor.1 mX4_pointsFor.2.1 mX4_pointsFor.2.2.1 mX4_pointsFor.2.2.2.1 ∈ xTb := List.mem_filter.mpr ⟨List.mem_of_getElem? (i := 1347) rfl, rfl⟩
set_option maxRecDepth 100000 in
theorem cw_X4_lastLeft : Jvm.Cond.code mX4_lastLeft.1 mX4_lastLeft.2.1 mX4_lastLeft.2.2.1 mX4_lastLeft.2.2.2.1 ∈ xTb := List.mem_filter.mpr ⟨List.mem_of_getElem? (i := 1355) rfl, rfl⟩
set_option maxRecDepth 100000 in
theorem cw_X4_weakest : Jvm.Cond.code mX4_weakest.1 mX4_weakest.2.1 mX4_weakest.2.2.1 mX4_weakest.2.2.2.1 ∈ xTb := List.mem_filter.mpr ⟨List.mem_of_getElem? (i := 1359) rfl, rfl⟩
set_option maxRecDepth 100000 in
theorem cw_X4_firstVotes : Jvm.Cond.code mX4_firstVotes.1 mX4_firstVotes.2.1 mX4_firstVotes.2.2.1 mX4_firstVotes.2.2.2.1 ∈ xTb := List.mem_filter.mpr ⟨List.mem_of_getElem? (i := 1364) rfl, rfl⟩
set_option maxRecDepth 100000 in
theorem cw_X5_init : Jvm.Cond.code mX5_init.1 mX5_init.2.1 mX5_init.2.2.1 mX5_init.2.2.2.1 ∈ xTb := List.mem_filter.mpr ⟨List.mem_of_getElem? (i := 368) rfl, rfl⟩
set_option maxRecDepth 100000 in
theorem cw_X5_readTape : Jvm.Cond.code mX5_readTape.1 mX5_readTape.2.1 mX5_readTape.2.2.1 mX5_readTape.2.2.2.1 ∈ xTb := List.mem_filter.mpr ⟨List.mem_of_getElem? (i := 552) rfl, rfl⟩
set_option maxRecDepth 100000 in
theorem cw_X5_kind : Jvm.Cond.code mX5_kind.1 mX5_kind.2.1 mX5_kind.2.2.1 mX5_kind.2.2.2.1 ∈ xTb := List.mem_filter.mpr ⟨List.mem_of_getElem? (i := 701) rfl, rfl⟩
set_option maxRecDepth 100000 in
theorem cw_X5_fail : Jvm.Cond.code mX5_fail.1 mX5_fail.2.1 mX5_fail.2.2.1 mX5_fail.2.2.2.1 ∈ xTb := List.mem_filter.mpr ⟨List.mem_of_getElem? (i := 713) rfl, rfl⟩
set_option maxRecDepth 100000 in
theorem cw_X5_expect : Jvm.Cond.code mX5_expect.1 mX5_expect.2.1 mX5_expect.2.2.1 mX5_expect.2.2.2.1 ∈ xTb := List.mem_filter.mpr ⟨List.mem_of_getElem? (i := 752) rfl, rfl⟩
set_option maxRecDepth 100000 in
theorem cw_X5_readNumber : Jvm.Cond.code mX5_readNumber.1 mX5_readNumber.2.1 mX5_readNumber.2.2.1 mX5_readNumber.2.2.2.1 ∈ xTb := List.mem_filter.mpr ⟨List.mem_of_getElem? (i := 733) rfl, rfl⟩
set_option maxRecDepth 100000 in
theorem cw_X5_readClause : Jvm.Cond.code mX5_readClause.1 mX5_readClause.2.1 mX5_readClause.2.2.1 mX5_readClause.2.2.2.1 ∈ xTb := List.mem_filter.mpr ⟨List.mem_of_getElem? (i := 705) rfl, rfl⟩
set_option maxRecDepth 100000 in
theorem cw_X5_isVerb : Jvm.Cond.code mX5_isVerb.1 mX5_isVerb.2.1 mX5_isVerb.2.2.1 mX5_isVerb.2.2.2.1 ∈ xTb := List.mem_filter.mpr ⟨List.mem_of_getElem? (i := 708) rfl, rfl⟩
set_option maxRecDepth 100000 in
theorem cw_X5_readNumbers : Jvm.Cond.code mX5_readNumbers.1 mX5_readNumbers.2.1 mX5_readNumbers.2.2.1 mX5_readNumbers.2.2.2.1 ∈ xTb := List.mem_filter.mpr ⟨List.mem_of_getElem? (i := 780) rfl, rfl⟩
set_option maxRecDepth 100000 in
theorem cw_X5_readLaw : Jvm.Cond.code mX5_readLaw.1 mX5_readLaw.2.1 mX5_readLaw.2.2.1 mX5_readLaw.2.2.2.1 ∈ xTb := List.mem_filter.mpr ⟨List.mem_of_getElem? (i := 717) rfl, rfl⟩
set_option maxRecDepth 100000 in
theorem cw_X5_emit : Jvm.Cond.code mX5_emit.1 mX5_emit.2.1 mX5_emit.2.2.1 mX5_emit.2.2.2.1 ∈ xTb := List.mem_filter.mpr ⟨List.mem_of_getElem? (i := 737) rfl, rfl⟩
set_option maxRecDepth 100000 in
theorem cw_X5_readSum : Jvm.Cond.code mX5_readSum.1 mX5_readSum.2.1 mX5_readSum.2.2.1 mX5_readSum.2.2.2.1 ∈ xTb := List.mem_filter.mpr ⟨List.mem_of_getElem? (i := 721) rfl, rfl⟩
set_option maxRecDepth 100000 in
theorem cw_X5_readProduct : Jvm.Cond.code mX5_readProduct.1 mX5_readProduct.2.1 mX5_readProduct.2.2.1 mX5_readProduct.2.2.2.1 ∈ xTb := List.mem_filter.mpr ⟨List.mem_of_getElem? (i := 725) rfl, rfl⟩
set_option maxRecDepth 100000 in
theorem cw_X5_readOne : Jvm.Cond.code mX5_readOne.1 mX5_readOne.2.1 mX5_readOne.2.2.1 mX5_readOne.2.2.2.1 ∈ xTb := List.mem_filter.mpr ⟨List.mem_of_getElem? (i := 729) rfl, rfl⟩
set_option maxRecDepth 100000 in
theorem cw_X5_opensOne : Jvm.Cond.code mX5_opensOne.1 mX5_opensOne.2.1 mX5_opensOne.2.2.1 mX5_opensOne.2.2.2.1 ∈ xTb := List.mem_filter.mpr ⟨List.mem_of_getElem? (i := 744) rfl, rfl⟩
set_option maxRecDepth 100000 in
theorem cw_X5_readName : Jvm.Cond.code mX5_readName.1 mX5_readName.2.1 mX5_readName.2.2.1 mX5_readName.2.2.2.1 ∈ xTb := List.mem_filter.mpr ⟨List.mem_of_getElem? (i := 741) rfl, rfl⟩
set_option maxRecDepth 100000 in
theorem cw_X5_readOpened : Jvm.Cond.code mX5_readOpened.1 mX5_readOpened.2.1 mX5_readOpened.2.2.1 mX5_readOpened.2.2.2.1 ∈ xTb := List.mem_filter.mpr ⟨List.mem_of_getElem? (i := 748) rfl, rfl⟩
set_option maxRecDepth 100000 in
theorem cw_X5_readChoice : Jvm.Cond.code mX5_readChoice.1 mX5_readChoice.2.1 mX5_readChoice.2.2.1 mX5_readChoice.2.2.2.1 ∈ xTb := List.mem_filter.mpr ⟨List.mem_of_getElem? (i := 756) rfl, rfl⟩
set_option maxRecDepth 100000 in
theorem cw_X5_aim : Jvm.Cond.code mX5_aim.1 mX5_aim.2.1 mX5_aim.2.2.1 mX5_aim.2.2.2.1 ∈ xTb := List.mem_filter.mpr ⟨List.mem_of_getElem? (i := 776) rfl, rfl⟩
set_option maxRecDepth 100000 in
theorem cw_X5_readEither : Jvm.Cond.code mX5_readEither.1 mX5_readEither.2.1 mX5_readEither.2.2.1 mX5_readEither.2.2.2.1 ∈ xTb := List.mem_filter.mpr ⟨List.mem_of_getElem? (i := 760) rfl, rfl⟩
set_option maxRecDepth 100000 in
theorem cw_X5_readBoth : Jvm.Cond.code mX5_readBoth.1 mX5_readBoth.2.1 mX5_readBoth.2.2.1 mX5_readBoth.2.2.2.1 ∈ xTb := List.mem_filter.mpr ⟨List.mem_of_getElem? (i := 764) rfl, rfl⟩
set_option maxRecDepth 100000 in
theorem cw_X5_readAsk : Jvm.Cond.code mX5_readAsk.1 mX5_readAsk.2.1 mX5_readAsk.2.2.1 mX5_readAsk.2.2.2.1 ∈ xTb := List.mem_filter.mpr ⟨List.mem_of_getElem? (i := 768) rfl, rfl⟩
set_option maxRecDepth 100000 in
theorem cw_X5_readCompared : Jvm.Cond.code mX5_readCompared.1 mX5_readCompared.2.1 mX5_readCompared.2.2.1 mX5_readCompared.2.2.2.1 ∈ xTb := List.mem_filter.mpr ⟨List.mem_of_getElem? (i := 772) rfl, rfl⟩
set_option maxRecDepth 100000 in
theorem cw_X6_init : Jvm.Cond.code mX6_init.1 mX6_init.2.1 mX6_init.2.2.1 mX6_init.2.2.2.1 ∈ xTb := List.mem_filter.mpr ⟨List.mem_of_getElem? (i := 247) rfl, rfl⟩
set_option maxRecDepth 100000 in
theorem cw_X6_copy : Jvm.Cond.code mX6_copy.1 mX6_copy.2.1 mX6_copy.2.2.1 mX6_copy.2.2.2.1 ∈ xTb := List.mem_filter.mpr ⟨List.mem_of_getElem? (i := 1459) rfl, rfl⟩
set_option maxRecDepth 100000 in
theorem cw_X6_selfFollowing : Jvm.Cond.code mX6_selfFollowing.1 mX6_selfFollowing.2.1 mX6_selfFollowing.2.2.1 mX6_selfFollowing.2.2.2.1 ∈ xTb := List.mem_filter.mpr ⟨List.mem_of_getElem? (i := 1203) rfl, rfl⟩
set_option maxRecDepth 100000 in
theorem cw_X6_sizeAt : Jvm.Cond.code mX6_sizeAt.1 mX6_sizeAt.2.1 mX6_sizeAt.2.2.1 mX6_sizeAt.2.2.2.1 ∈ xTb := List.mem_filter.mpr ⟨List.mem_of_getElem? (i := 1215) rfl, rfl⟩
set_option maxRecDepth 100000 in
theorem cw_X6_smallest : Jvm.Cond.code mX6_smallest.1 mX6_smallest.2.1 mX6_smallest.2.2.1 mX6_smallest.2.2.2.1 ∈ xTb := List.mem_filter.mpr ⟨List.mem_of_getElem? (i := 1211) rfl, rfl⟩
set_option maxRecDepth 100000 in
theorem cw_X6_stepsToRing : Jvm.Cond.code mX6_stepsToRing.1 mX6_stepsToRing.2.1 mX6_stepsToRing.2.2.1 mX6_stepsToRing.2.2.2.1 ∈ xTb := List.mem_filter.mpr ⟨List.mem_of_getElem? (i := 1224) rfl, rfl⟩
set_option maxRecDepth 100000 in
theorem cw_X6_behind : Jvm.Cond.code mX6_behind.1 mX6_behind.2.1 mX6_behind.2.2.1 mX6_behind.2.2.2.1 ∈ xTb := List.mem_filter.mpr ⟨List.mem_of_getElem? (i := 1233) rfl, rfl⟩
set_option maxRecDepth 100000 in
theorem cw_X6_walked : Jvm.Cond.code mX6_walked.1 mX6_walked.2.1 mX6_walked.2.2.1 mX6_walked.2.2.2.1 ∈ xTb := List.mem_filter.mpr ⟨List.mem_of_getElem? (i := 1238) rfl, rfl⟩
set_option maxRecDepth 100000 in
theorem cw_X7_init : Jvm.Cond.code mX7_init.1 mX7_init.2.1 mX7_init.2.2.1 mX7_init.2.2.2.1 ∈ xTb := List.mem_filter.mpr ⟨List.mem_of_getElem? (i := 467) rfl, rfl⟩
set_option maxRecDepth 100000 in
theorem cw_X7_begin : Jvm.Cond.code mX7_begin.1 mX7_begin.2.1 mX7_begin.2.2.1 mX7_begin.2.2.2.1 ∈ xTb := List.mem_filter.mpr ⟨List.mem_of_getElem? (i := 1091) rfl, rfl⟩
set_option maxRecDepth 100000 in
theorem cw_X7_addOne : Jvm.Cond.code mX7_addOne.1 mX7_addOne.2.1 mX7_addOne.2.2.1 mX7_addOne.2.2.2.1 ∈ xTb := List.mem_filter.mpr ⟨List.mem_of_getElem? (i := 1099) rfl, rfl⟩
set_option maxRecDepth 100000 in
theorem cw_X7_ofTrials : Jvm.Cond.code mX7_ofTrials.1 mX7_ofTrials.2.1 mX7_ofTrials.2.2.1 mX7_ofTrials.2.2.2.1 ∈ xTb := List.mem_filter.mpr ⟨List.mem_of_getElem? (i := 1246) rfl, rfl⟩
set_option maxRecDepth 100000 in
theorem cw_X7_just : Jvm.Cond.code mX7_just.1 mX7_just.2.1 mX7_just.2.2.1 mX7_just.2.2.2.1 ∈ xTb := List.mem_filter.mpr ⟨List.mem_of_getElem? (i := 1104) rfl, rfl⟩
set_option maxRecDepth 100000 in
theorem cw_X7_orMore : Jvm.Cond.code mX7_orMore.1 mX7_orMore.2.1 mX7_orMore.2.2.1 mX7_orMore.2.2.2.1 ∈ xTb := List.mem_filter.mpr ⟨List.mem_of_getElem? (i := 1252) rfl, rfl⟩
set_option maxRecDepth 100000 in
theorem cw_X8_init : Jvm.Cond.code mX8_init.1 mX8_init.2.1 mX8_init.2.2.1 mX8_init.2.2.2.1 ∈ xTb := List.mem_filter.mpr ⟨List.mem_of_getElem? (i := 207) rfl, rfl⟩
set_option maxRecDepth 100000 in
theorem cw_X8_copy : Jvm.Cond.code mX8_copy.1 mX8_copy.2.1 mX8_copy.2.2.1 mX8_copy.2.2.2.1 ∈ xTb := List.mem_filter.mpr ⟨List.mem_of_getElem? (i := 1450) rfl, rfl⟩
set_option maxRecDepth 100000 in
theorem cw_X8_keep : Jvm.Cond.code mX8_keep.1 mX8_keep.2.1 mX8_keep.2.2.1 mX8_keep.2.2.2.1 ∈ xTb := List.mem_filter.mpr ⟨List.mem_of_getElem? (i := 877) rfl, rfl⟩
set_option maxRecDepth 100000 in
theorem cw_X8_takeBack : Jvm.Cond.code mX8_takeBack.1 mX8_takeBack.2.1 mX8_takeBack.2.2.1 mX8_takeBack.2.2.2.1 ∈ xTb := List.mem_filter.mpr ⟨List.mem_of_getElem? (i := 1037) rfl, rfl⟩
set_option maxRecDepth 100000 in
theorem cw_X9_init : Jvm.Cond.code mX9_init.1 mX9_init.2.1 mX9_init.2.2.1 mX9_init.2.2.2.1 ∈ xTb := List.mem_filter.mpr ⟨List.mem_of_getElem? (i := 374) rfl, rfl⟩
set_option maxRecDepth 100000 in
theorem cw_X9_add : Jvm.Cond.code mX9_add.1 mX9_add.2.1 mX9_add.2.2.1 mX9_add.2.2.2.1 ∈ xTb := List.mem_filter.mpr ⟨List.mem_of_getElem? (i := 540) rfl, rfl⟩
set_option maxRecDepth 100000 in
theorem cw_X9_scan : Jvm.Cond.code mX9_scan.1 mX9_scan.2.1 mX9_scan.2.2.1 mX9_scan.2.2.2.1 ∈ xTb := List.mem_filter.mpr ⟨List.mem_of_getElem? (i := 556) rfl, rfl⟩
set_option maxRecDepth 100000 in
theorem cw_X9_put : Jvm.Cond.code mX9_put.1 mX9_put.2.1 mX9_put.2.2.1 mX9_put.2.2.2.1 ∈ xTb := List.mem_filter.mpr ⟨List.mem_of_getElem? (i := 617) rfl, rfl⟩
set_option maxRecDepth 100000 in
theorem cw_X9_scanToken : Jvm.Cond.code mX9_scanToken.1 mX9_scanToken.2.1 mX9_scanToken.2.2.1 mX9_scanToken.2.2.2.1 ∈ xTb := List.mem_filter.mpr ⟨List.mem_of_getElem? (i := 560) rfl, rfl⟩
set_option maxRecDepth 100000 in
theorem cw_X9_scanWord : Jvm.Cond.code mX9_scanWord.1 mX9_scanWord.2.1 mX9_scanWord.2.2.1 mX9_scanWord.2.2.2.1 ∈ xTb := List.mem_filter.mpr ⟨List.mem_of_getElem? (i := 568) rfl, rfl⟩
set_option maxRecDepth 100000 in
theorem cw_X9_scanNumber : Jvm.Cond.code mX9_scanNumber.1 mX9_scanNumber.2.1 mX9_scanNumber.2.2.1 mX9_scanNumber.2.2.2.1 ∈ xTb := List.mem_filter.mpr ⟨List.mem_of_getElem? (i := 624) rfl, rfl⟩
set_option maxRecDepth 100000 in
theorem cw_X9_scanSign : Jvm.Cond.code mX9_scanSign.1 mX9_scanSign.2.1 mX9_scanSign.2.2.1 mX9_scanSign.2.2.2.1 ∈ xTb := List.mem_filter.mpr ⟨List.mem_of_getElem? (i := 631) rfl, rfl⟩
set_option maxRecDepth 100000 in
theorem cw_X9_kindOfWord : Jvm.Cond.code mX9_kindOfWord.1 mX9_kindOfWord.2.1 mX9_kindOfWord.2.2.1 mX9_kindOfWord.2.2.2.1 ∈ xTb := List.mem_filter.mpr ⟨List.mem_of_getElem? (i := 572) rfl, rfl⟩
set_option maxRecDepth 100000 in
theorem cw_X9_isLetter : Jvm.Cond.code mX9_isLetter.1 mX9_isLetter.2.1 mX9_isLetter.2.2.1 mX9_isLetter.2.2.2.1 ∈ xTb := List.mem_filter.mpr ⟨List.mem_of_getElem? (i := 563) rfl, rfl⟩
set_option maxRecDepth 100000 in
theorem cw_X9_isDigit : Jvm.Cond.code mX9_isDigit.1 mX9_isDigit.2.1 mX9_isDigit.2.2.1 mX9_isDigit.2.2.2.1 ∈ xTb := List.mem_filter.mpr ⟨List.mem_of_getElem? (i := 620) rfl, rfl⟩
set_option maxRecDepth 100000 in
theorem cw_X10_init : Jvm.Cond.code mX10_init.1 mX10_init.2.1 mX10_init.2.2.1 mX10_init.2.2.2.1 ∈ xTb := List.mem_filter.mpr ⟨List.mem_of_getElem? (i := 785) rfl, rfl⟩
set_option maxRecDepth 100000 in
theorem cw_X11_init : Jvm.Cond.code mX11_init.1 mX11_init.2.1 mX11_init.2.2.1 mX11_init.2.2.2.1 ∈ xTb := List.mem_filter.mpr ⟨List.mem_of_getElem? (i := 138) rfl, rfl⟩
set_option maxRecDepth 100000 in
theorem cw_X11_bird : Jvm.Cond.code mX11_bird.1 mX11_bird.2.1 mX11_bird.2.2.1 mX11_bird.2.2.2.1 ∈ xTb := List.mem_filter.mpr ⟨List.mem_of_getElem? (i := 518) rfl, rfl⟩
set_option maxRecDepth 100000 in
theorem cw_X11_rhyme : Jvm.Cond.code mX11_rhyme.1 mX11_rhyme.2.1 mX11_rhyme.2.2.1 mX11_rhyme.2.2.2.1 ∈ xTb := List.mem_filter.mpr ⟨List.mem_of_getElem? (i := 529) rfl, rfl⟩
set_option maxRecDepth 100000 in
theorem cw_X11_feed : Jvm.Cond.code mX11_feed.1 mX11_feed.2.1 mX11_feed.2.2.1 mX11_feed.2.2.2.1 ∈ xTb := List.mem_filter.mpr ⟨List.mem_of_getElem? (i := 536) rfl, rfl⟩
set_option maxRecDepth 100000 in
theorem cw_X11_end : Jvm.Cond.code mX11_end.1 mX11_end.2.1 mX11_end.2.2.1 mX11_end.2.2.2.1 ∈ xTb := List.mem_filter.mpr ⟨List.mem_of_getElem? (i := 544) rfl, rfl⟩
set_option maxRecDepth 100000 in
theorem cw_X11_text : Jvm.Cond.code mX11_text.1 mX11_text.2.1 mX11_text.2.2.1 mX11_text.2.2.2.1 ∈ xTb := List.mem_filter.mpr ⟨List.mem_of_getElem? (i := 548) rfl, rfl⟩
set_option maxRecDepth 100000 in
theorem cw_X11_fault : Jvm.Cond.code mX11_fault.1 mX11_fault.2.1 mX11_fault.2.2.1 mX11_fault.2.2.2.1 ∈ xTb := List.mem_filter.mpr ⟨List.mem_of_getElem? (i := 846) rfl, rfl⟩
set_option maxRecDepth 100000 in
theorem cw_X11_by : Jvm.Cond.code mX11_by.1 mX11_by.2.1 mX11_by.2.2.1 mX11_by.2.2.2.1 ∈ xTb := List.mem_filter.mpr ⟨List.mem_of_getElem? (i := 850) rfl, rfl⟩
set_option maxRecDepth 100000 in
theorem cw_X11_thin : Jvm.Cond.code mX11_thin.1 mX11_thin.2.1 mX11_thin.2.2.1 mX11_thin.2.2.2.1 ∈ xTb := List.mem_filter.mpr ⟨List.mem_of_getElem? (i := 858) rfl, rfl⟩
set_option maxRecDepth 100000 in
theorem cw_X11_call : Jvm.Cond.code mX11_call.1 mX11_call.2.1 mX11_call.2.2.1 mX11_call.2.2.2.1 ∈ xTb := List.mem_filter.mpr ⟨List.mem_of_getElem? (i := 890) rfl, rfl⟩
set_option maxRecDepth 100000 in
theorem cw_X11_grant : Jvm.Cond.code mX11_grant.1 mX11_grant.2.1 mX11_grant.2.2.1 mX11_grant.2.2.2.1 ∈ xTb := List.mem_filter.mpr ⟨List.mem_of_getElem? (i := 902) rfl, rfl⟩
set_option maxRecDepth 100000 in
theorem cw_X11_day : Jvm.Cond.code mX11_day.1 mX11_day.2.1 mX11_day.2.2.1 mX11_day.2.2.2.1 ∈ xTb := List.mem_filter.mpr ⟨List.mem_of_getElem? (i := 911) rfl, rfl⟩
set_option maxRecDepth 100000 in
theorem cw_X11_played : Jvm.Cond.code mX11_played.1 mX11_played.2.1 mX11_played.2.2.1 mX11_played.2.2.2.1 ∈ xTb := List.mem_filter.mpr ⟨List.mem_of_getElem? (i := 1006) rfl, rfl⟩
set_option maxRecDepth 100000 in
theorem cw_X11_years : Jvm.Cond.code mX11_years.1 mX11_years.2.1 mX11_years.2.2.1 mX11_years.2.2.2.1 ∈ xTb := List.mem_filter.mpr ⟨List.mem_of_getElem? (i := 1021) rfl, rfl⟩
set_option maxRecDepth 100000 in
theorem cw_X11_undo : Jvm.Cond.code mX11_undo.1 mX11_undo.2.1 mX11_undo.2.2.1 mX11_undo.2.2.2.1 ∈ xTb := List.mem_filter.mpr ⟨List.mem_of_getElem? (i := 1033) rfl, rfl⟩
set_option maxRecDepth 100000 in
theorem cw_X11_of : Jvm.Cond.code mX11_of.1 mX11_of.2.1 mX11_of.2.2.1 mX11_of.2.2.2.1 ∈ xTb := List.mem_filter.mpr ⟨List.mem_of_getElem? (i := 1041) rfl, rfl⟩
set_option maxRecDepth 100000 in
theorem cw_X11_is : Jvm.Cond.code mX11_is.1 mX11_is.2.1 mX11_is.2.2.1 mX11_is.2.2.2.1 ∈ xTb := List.mem_filter.mpr ⟨List.mem_of_getElem? (i := 1047) rfl, rfl⟩
set_option maxRecDepth 100000 in
theorem cw_X11_things : Jvm.Cond.code mX11_things.1 mX11_things.2.1 mX11_things.2.2.1 mX11_things.2.2.2.1 ∈ xTb := List.mem_filter.mpr ⟨List.mem_of_getElem? (i := 1052) rfl, rfl⟩
set_option maxRecDepth 100000 in
theorem cw_X11_brings : Jvm.Cond.code mX11_brings.1 mX11_brings.2.1 mX11_brings.2.2.1 mX11_brings.2.2.2.1 ∈ xTb := List.mem_filter.mpr ⟨List.mem_of_getElem? (i := 1056) rfl, rfl⟩
set_option maxRecDepth 100000 in
theorem cw_X11_book : Jvm.Cond.code mX11_book.1 mX11_book.2.1 mX11_book.2.2.1 mX11_book.2.2.2.1 ∈ xTb := List.mem_filter.mpr ⟨List.mem_of_getElem? (i := 1060) rfl, rfl⟩
set_option maxRecDepth 100000 in
theorem cw_X11_foretold : Jvm.Cond.code mX11_foretold.1 mX11_foretold.2.1 mX11_foretold.2.2.1 mX11_foretold.2.2.2.1 ∈ xTb := List.mem_filter.mpr ⟨List.mem_of_getElem? (i := 1068) rfl, rfl⟩
set_option maxRecDepth 100000 in
theorem cw_X11_likely : Jvm.Cond.code mX11_likely.1 mX11_likely.2.1 mX11_likely.2.2.1 mX11_likely.2.2.2.1 ∈ xTb := List.mem_filter.mpr ⟨List.mem_of_getElem? (i := 1073) rfl, rfl⟩
set_option maxRecDepth 100000 in
theorem cw_X11_mean : Jvm.Cond.code mX11_mean.1 mX11_mean.2.1 mX11_mean.2.2.1 mX11_mean.2.2.2.1 ∈ xTb := List.mem_filter.mpr ⟨List.mem_of_getElem? (i := 1115) rfl, rfl⟩
set_option maxRecDepth 100000 in
theorem cw_X11_best : Jvm.Cond.code mX11_best.1 mX11_best.2.1 mX11_best.2.2.1 mX11_best.2.2.2.1 ∈ xTb := List.mem_filter.mpr ⟨List.mem_of_getElem? (i := 1120) rfl, rfl⟩
set_option maxRecDepth 100000 in
theorem cw_X11_morning : Jvm.Cond.code mX11_morning.1 mX11_morning.2.1 mX11_morning.2.2.1 mX11_morning.2.2.2.1 ∈ xTb := List.mem_filter.mpr ⟨List.mem_of_getElem? (i := 1129) rfl, rfl⟩
set_option maxRecDepth 100000 in
theorem cw_X11_habits : Jvm.Cond.code mX11_habits.1 mX11_habits.2.1 mX11_habits.2.2.1 mX11_habits.2.2.2.1 ∈ xTb := List.mem_filter.mpr ⟨List.mem_of_getElem? (i := 1137) rfl, rfl⟩
set_option maxRecDepth 100000 in
theorem cw_X11_habit : Jvm.Cond.code mX11_habit.1 mX11_habit.2.1 mX11_habit.2.2.1 mX11_habit.2.2.2.1 ∈ xTb := List.mem_filter.mpr ⟨List.mem_of_getElem? (i := 1149) rfl, rfl⟩
set_option maxRecDepth 100000 in
theorem cw_X11_whom : Jvm.Cond.code mX11_whom.1 mX11_whom.2.1 mX11_whom.2.2.1 mX11_whom.2.2.2.1 ∈ xTb := List.mem_filter.mpr ⟨List.mem_of_getElem? (i := 1170) rfl, rfl⟩
set_option maxRecDepth 100000 in
theorem cw_X11_rota : Jvm.Cond.code mX11_rota.1 mX11_rota.2.1 mX11_rota.2.2.1 mX11_rota.2.2.2.1 ∈ xTb := List.mem_filter.mpr ⟨List.mem_of_getElem? (i := 1175) rfl, rfl⟩
set_option maxRecDepth 100000 in
theorem cw_X11_gather : Jvm.Cond.code mX11_gather.1 mX11_gather.2.1 mX11_gather.2.2.1 mX11_gather.2.2.2.1 ∈ xTb := List.mem_filter.mpr ⟨List.mem_of_getElem? (i := 1179) rfl, rfl⟩
set_option maxRecDepth 100000 in
theorem cw_X11_comes : Jvm.Cond.code mX11_comes.1 mX11_comes.2.1 mX11_comes.2.2.1 mX11_comes.2.2.2.1 ∈ xTb := List.mem_filter.mpr ⟨List.mem_of_getElem? (i := 1187) rfl, rfl⟩
set_option maxRecDepth 100000 in
theorem cw_X11_follows : Jvm.Cond.code mX11_follows.1 mX11_follows.2.1 mX11_follows.2.2.1 mX11_follows.2.2.2.1 ∈ xTb := List.mem_filter.mpr ⟨List.mem_of_getElem? (i := 1195) rfl, rfl⟩
set_option maxRecDepth 100000 in
theorem cw_X11_agree : Jvm.Cond.code mX11_agree.1 mX11_agree.2.1 mX11_agree.2.2.1 mX11_agree.2.2.2.1 ∈ xTb := List.mem_filter.mpr ⟨List.mem_of_getElem? (i := 1199) rfl, rfl⟩
set_option maxRecDepth 100000 in
theorem cw_X11_ring : Jvm.Cond.code mX11_ring.1 mX11_ring.2.1 mX11_ring.2.2.1 mX11_ring.2.2.2.1 ∈ xTb := List.mem_filter.mpr ⟨List.mem_of_getElem? (i := 1207) rfl, rfl⟩
set_option maxRecDepth 100000 in
theorem cw_X11_till : Jvm.Cond.code mX11_till.1 mX11_till.2.1 mX11_till.2.2.1 mX11_till.2.2.2.1 ∈ xTb := List.mem_filter.mpr ⟨List.mem_of_getElem? (i := 1220) rfl, rfl⟩
set_option maxRecDepth 100000 in
theorem cw_X11_after : Jvm.Cond.code mX11_after.1 mX11_after.2.1 mX11_after.2.2.1 mX11_after.2.2.2.1 ∈ xTb := List.mem_filter.mpr ⟨List.mem_of_getElem? (i := 1228) rfl, rfl⟩
set_option maxRecDepth 100000 in
theorem cw_X11_test : Jvm.Cond.code mX11_test.1 mX11_test.2.1 mX11_test.2.2.1 mX11_test.2.2.2.1 ∈ xTb := List.mem_filter.mpr ⟨List.mem_of_getElem? (i := 1242) rfl, rfl⟩
set_option maxRecDepth 100000 in
theorem cw_X11_bound : Jvm.Cond.code mX11_bound.1 mX11_bound.2.1 mX11_bound.2.2.1 mX11_bound.2.2.2.1 ∈ xTb := List.mem_filter.mpr ⟨List.mem_of_getElem? (i := 1257) rfl, rfl⟩
set_option maxRecDepth 100000 in
theorem cw_X11_sure : Jvm.Cond.code mX11_sure.1 mX11_sure.2.1 mX11_sure.2.2.1 mX11_sure.2.2.2.1 ∈ xTb := List.mem_filter.mpr ⟨List.mem_of_getElem? (i := 1266) rfl, rfl⟩
set_option maxRecDepth 100000 in
theorem cw_X11_votes : Jvm.Cond.code mX11_votes.1 mX11_votes.2.1 mX11_votes.2.2.1 mX11_votes.2.2.2.1 ∈ xTb := List.mem_filter.mpr ⟨List.mem_of_getElem? (i := 1270) rfl, rfl⟩
set_option maxRecDepth 100000 in
theorem cw_X11_seats : Jvm.Cond.code mX11_seats.1 mX11_seats.2.1 mX11_seats.2.2.1 mX11_seats.2.2.2.1 ∈ xTb := List.mem_filter.mpr ⟨List.mem_of_getElem? (i := 1277) rfl, rfl⟩
set_option maxRecDepth 100000 in
theorem cw_X11_unlike : Jvm.Cond.code mX11_unlike.1 mX11_unlike.2.1 mX11_unlike.2.2.1 mX11_unlike.2.2.2.1 ∈ xTb := List.mem_filter.mpr ⟨List.mem_of_getElem? (i := 1297) rfl, rfl⟩
set_option maxRecDepth 100000 in
theorem cw_X11_ranks : Jvm.Cond.code mX11_ranks.1 mX11_ranks.2.1 mX11_ranks.2.2.1 mX11_ranks.2.2.2.1 ∈ xTb := List.mem_filter.mpr ⟨List.mem_of_getElem? (i := 1307) rfl, rfl⟩
set_option maxRecDepth 100000 in
theorem cw_X11_beats : Jvm.Cond.code mX11_beats.1 mX11_beats.2.1 mX11_beats.2.2.1 mX11_beats.2.2.2.1 ∈ xTb := List.mem_filter.mpr ⟨List.mem_of_getElem? (i := 1311) rfl, rfl⟩
set_option maxRecDepth 100000 in
theorem cw_X11_winner : Jvm.Cond.code mX11_winner.1 mX11_winner.2.1 mX11_winner.2.2.1 mX11_winner.2.2.2.1 ∈ xTb := List.mem_filter.mpr ⟨List.mem_of_getElem? (i := 1334) rfl, rfl⟩
set_option maxRecDepth 100000 in
theorem cw_X11_points : Jvm.Cond.code mX11_points.1 mX11_points.2.1 mX11_points.2.2.1 mX11_points.2.2.2.1 ∈ xTb := List.mem_filter.mpr ⟨List.mem_of_getElem? (i := 1343) rfl, rfl⟩
set_option maxRecDepth 100000 in
theorem cw_X11_runoff : Jvm.Cond.code mX11_runoff.1 mX11_runoff.2.1 mX11_runoff.2.2.1 mX11_runoff.2.2.2.1 ∈ xTb := List.mem_filter.mpr ⟨List.mem_of_getElem? (i := 1351) rfl, rfl⟩
set_option maxRecDepth 100000 in
theorem cw_X11_digits : Jvm.Cond.code mX11_digits.1 mX11_digits.2.1 mX11_digits.2.2.1 mX11_digits.2.2.2.1 ∈ xTb := List.mem_filter.mpr ⟨List.mem_of_getElem? (i := 1368) rfl, rfl⟩
set_option maxRecDepth 100000 in
theorem cw_X11_digit : Jvm.Cond.code mX11_digit.1 mX11_digit.2.1 mX11_digit.2.2.1 mX11_digit.2.2.2.1 ∈ xTb := List.mem_filter.mpr ⟨List.mem_of_getElem? (i := 1380) rfl, rfl⟩
set_option maxRecDepth 100000 in
theorem cw_X11_depth : Jvm.Cond.code mX11_depth.1 mX11_depth.2.1 mX11_depth.2.2.1 mX11_depth.2.2.2.1 ∈ xTb := List.mem_filter.mpr ⟨List.mem_of_getElem? (i := 1384) rfl, rfl⟩
set_option maxRecDepth 100000 in
theorem cw_X11_rests : Jvm.Cond.code mX11_rests.1 mX11_rests.2.1 mX11_rests.2.2.1 mX11_rests.2.2.2.1 ∈ xTb := List.mem_filter.mpr ⟨List.mem_of_getElem? (i := 1391) rfl, rfl⟩
set_option maxRecDepth 100000 in
theorem cw_X11_game : Jvm.Cond.code mX11_game.1 mX11_game.2.1 mX11_game.2.2.1 mX11_game.2.2.2.1 ∈ xTb := List.mem_filter.mpr ⟨List.mem_of_getElem? (i := 1395) rfl, rfl⟩
set_option maxRecDepth 100000 in
theorem cw_X11_take : Jvm.Cond.code mX11_take.1 mX11_take.2.1 mX11_take.2.2.1 mX11_take.2.2.2.1 ∈ xTb := List.mem_filter.mpr ⟨List.mem_of_getElem? (i := 1404) rfl, rfl⟩
set_option maxRecDepth 100000 in
theorem cw_X11_told : Jvm.Cond.code mX11_told.1 mX11_told.2.1 mX11_told.2.2.1 mX11_told.2.2.2.1 ∈ xTb := List.mem_filter.mpr ⟨List.mem_of_getElem? (i := 1408) rfl, rfl⟩
set_option maxRecDepth 100000 in
theorem cw_X11_whose : Jvm.Cond.code mX11_whose.1 mX11_whose.2.1 mX11_whose.2.2.1 mX11_whose.2.2.2.1 ∈ xTb := List.mem_filter.mpr ⟨List.mem_of_getElem? (i := 1416) rfl, rfl⟩
set_option maxRecDepth 100000 in
theorem cw_X11_eldest : Jvm.Cond.code mX11_eldest.1 mX11_eldest.2.1 mX11_eldest.2.2.1 mX11_eldest.2.2.2.1 ∈ xTb := List.mem_filter.mpr ⟨List.mem_of_getElem? (i := 1424) rfl, rfl⟩
set_option maxRecDepth 100000 in
theorem cw_X11_due : Jvm.Cond.code mX11_due.1 mX11_due.2.1 mX11_due.2.2.1 mX11_due.2.2.2.1 ∈ xTb := List.mem_filter.mpr ⟨List.mem_of_getElem? (i := 1428) rfl, rfl⟩
set_option maxRecDepth 100000 in
theorem cw_X11_ledger : Jvm.Cond.code mX11_ledger.1 mX11_ledger.2.1 mX11_ledger.2.2.1 mX11_ledger.2.2.2.1 ∈ xTb := List.mem_filter.mpr ⟨List.mem_of_getElem? (i := 1432) rfl, rfl⟩
set_option maxRecDepth 100000 in
theorem cw_X11_image : Jvm.Cond.code mX11_image.1 mX11_image.2.1 mX11_image.2.2.1 mX11_image.2.2.2.1 ∈ xTb := List.mem_filter.mpr ⟨List.mem_of_getElem? (i := 1441) rfl, rfl⟩
set_option maxRecDepth 100000 in
theorem cw_X11_back : Jvm.Cond.code mX11_back.1 mX11_back.2.1 mX11_back.2.2.1 mX11_back.2.2.2.1 ∈ xTb := List.mem_filter.mpr ⟨List.mem_of_getElem? (i := 1469) rfl, rfl⟩
set_option maxRecDepth 100000 in
theorem cw_X11_about : Jvm.Cond.code mX11_about.1 mX11_about.2.1 mX11_about.2.2.1 mX11_about.2.2.2.1 ∈ xTb := List.mem_filter.mpr ⟨List.mem_of_getElem? (i := 1473) rfl, rfl⟩
set_option maxRecDepth 100000 in
theorem cw_X11_passSteps : Jvm.Cond.code mX11_passSteps.1 mX11_passSteps.2.1 mX11_passSteps.2.2.1 mX11_passSteps.2.2.2.1 ∈ xTb := List.mem_filter.mpr ⟨List.mem_of_getElem? (i := 915) rfl, rfl⟩
set_option maxRecDepth 100000 in
theorem cw_X11_passDay : Jvm.Cond.code mX11_passDay.1 mX11_passDay.2.1 mX11_passDay.2.2.1 mX11_passDay.2.2.2.1 ∈ xTb := List.mem_filter.mpr ⟨List.mem_of_getElem? (i := 919) rfl, rfl⟩
set_option maxRecDepth 100000 in
theorem cw_X11_playClause : Jvm.Cond.code mX11_playClause.1 mX11_playClause.2.1 mX11_playClause.2.2.1 mX11_playClause.2.2.2.1 ∈ xTb := List.mem_filter.mpr ⟨List.mem_of_getElem? (i := 1011) rfl, rfl⟩
set_option maxRecDepth 100000 in
theorem cw_X11_drawYear : Jvm.Cond.code mX11_drawYear.1 mX11_drawYear.2.1 mX11_drawYear.2.2.1 mX11_drawYear.2.2.2.1 ∈ xTb := List.mem_filter.mpr ⟨List.mem_of_getElem? (i := 1025) rfl, rfl⟩
set_option maxRecDepth 100000 in
theorem cw_X11_noteChances : Jvm.Cond.code mX11_noteChances.1 mX11_noteChances.2.1 mX11_noteChances.2.2.1 mX11_noteChances.2.2.2.1 ∈ xTb := List.mem_filter.mpr ⟨List.mem_of_getElem? (i := 1083) rfl, rfl⟩
set_option maxRecDepth 100000 in
theorem cw_X11_spreadOver : Jvm.Cond.code mX11_spreadOver.1 mX11_spreadOver.2.1 mX11_spreadOver.2.2.1 mX11_spreadOver.2.2.2.1 ∈ xTb := List.mem_filter.mpr ⟨List.mem_of_getElem? (i := 1087) rfl, rfl⟩
set_option maxRecDepth 100000 in
theorem cw_X11_bestThinned : Jvm.Cond.code mX11_bestThinned.1 mX11_bestThinned.2.1 mX11_bestThinned.2.2.1 mX11_bestThinned.2.2.2.1 ∈ xTb := List.mem_filter.mpr ⟨List.mem_of_getElem? (i := 1124) rfl, rfl⟩
set_option maxRecDepth 100000 in
theorem cw_X11_canCome : Jvm.Cond.code mX11_canCome.1 mX11_canCome.2.1 mX11_canCome.2.2.1 mX11_canCome.2.2.2.1 ∈ xTb := List.mem_filter.mpr ⟨List.mem_of_getElem? (i := 1191) rfl, rfl⟩
set_option maxRecDepth 100000 in
theorem cw_X11_leastBound : Jvm.Cond.code mX11_leastBound.1 mX11_leastBound.2.1 mX11_leastBound.2.2.1 mX11_leastBound.2.2.2.1 ∈ xTb := List.mem_filter.mpr ⟨List.mem_of_getElem? (i := 1261) rfl, rfl⟩
set_option maxRecDepth 100000 in
theorem cw_X11_bringsAllTold : Jvm.Cond.code mX11_bringsAllTold.1 mX11_bringsAllTold.2.1 mX11_bringsAllTold.2.2.1 mX11_bringsAllTold.2.2.2.1 ∈ xTb := List.mem_filter.mpr ⟨List.mem_of_getElem? (i := 1420) rfl, rfl⟩
set_option maxRecDepth 100000 in
theorem cw_X11_raise : Jvm.Cond.code mX11_raise.1 mX11_raise.2.1 mX11_raise.2.2.1 mX11_raise.2.2.2.1 ∈ xTb := List.mem_filter.mpr ⟨List.mem_of_getElem? (i := 1372) rfl, rfl⟩
set_option maxRecDepth 100000 in
theorem cw_X11_multiply : Jvm.Cond.code mX11_multiply.1 mX11_multiply.2.1 mX11_multiply.2.2.1 mX11_multiply.2.2.2.1 ∈ xTb := List.mem_filter.mpr ⟨List.mem_of_getElem? (i := 1376) rfl, rfl⟩
set_option maxRecDepth 100000 in
theorem cw_X11_deeper : Jvm.Cond.code mX11_deeper.1 mX11_deeper.2.1 mX11_deeper.2.2.1 mX11_deeper.2.2.2.1 ∈ xTb := List.mem_filter.mpr ⟨List.mem_of_getElem? (i := 1387) rfl, rfl⟩
set_option maxRecDepth 100000 in
theorem cw_X11_leastPart : Jvm.Cond.code mX11_leastPart.1 mX11_leastPart.2.1 mX11_leastPart.2.2.1 mX11_leastPart.2.2.2.1 ∈ xTb := List.mem_filter.mpr ⟨List.mem_of_getElem? (i := 1398) rfl, rfl⟩
set_option maxRecDepth 100000 in
theorem cw_X11_firstOfHabit : Jvm.Cond.code mX11_firstOfHabit.1 mX11_firstOfHabit.2.1 mX11_firstOfHabit.2.2.1 mX11_firstOfHabit.2.2.2.1 ∈ xTb := List.mem_filter.mpr ⟨List.mem_of_getElem? (i := 1166) rfl, rfl⟩
set_option maxRecDepth 100000 in
theorem cw_X11_leastCommon : Jvm.Cond.code mX11_leastCommon.1 mX11_leastCommon.2.1 mX11_leastCommon.2.2.1 mX11_leastCommon.2.2.2.1 ∈ xTb := List.mem_filter.mpr ⟨List.mem_of_getElem? (i := 1183) rfl, rfl⟩
set_option maxRecDepth 100000 in
theorem cw_X11_greatestCommon : Jvm.Cond.code mX11_greatestCommon.1 mX11_greatestCommon.2.1 mX11_greatestCommon.2.2.1 mX11_greatestCommon.2.2.2.1 ∈ xTb := List.mem_filter.mpr ⟨List.mem_of_getElem? (i := 1111) rfl, rfl⟩
set_option maxRecDepth 100000 in
theorem cw_X11_lowest : Jvm.Cond.code mX11_lowest.1 mX11_lowest.2.1 mX11_lowest.2.2.1 mX11_lowest.2.2.2.1 ∈ xTb := List.mem_filter.mpr ⟨List.mem_of_getElem? (i := 1108) rfl, rfl⟩
set_option maxRecDepth 100000 in
theorem cw_X11_within : Jvm.Cond.code mX11_within.1 mX11_within.2.1 mX11_within.2.2.1 mX11_within.2.2.2.1 ∈ xTb := List.mem_filter.mpr ⟨List.mem_of_getElem? (i := 521) rfl, rfl⟩
set_option maxRecDepth 100000 in
theorem cw_X11_held : Jvm.Cond.code mX11_held.1 mX11_held.2.1 mX11_held.2.2.1 mX11_held.2.2.2.1 ∈ xTb := List.mem_filter.mpr ⟨List.mem_of_getElem? (i := 967) rfl, rfl⟩
set_option maxRecDepth 100000 in
theorem cw_X11_isCount : Jvm.Cond.code mX11_isCount.1 mX11_isCount.2.1 mX11_isCount.2.2.1 mX11_isCount.2.2.2.1 ∈ xTb := List.mem_filter.mpr ⟨List.mem_of_getElem? (i := 532) rfl, rfl⟩
set_option maxRecDepth 100000 in
theorem cw_X11_isParish : Jvm.Cond.code mX11_isParish.1 mX11_isParish.2.1 mX11_isParish.2.2.1 mX11_isParish.2.2.2.1 ∈ xTb := List.mem_filter.mpr ⟨List.mem_of_getElem? (i := 1273) rfl, rfl⟩
set_option maxRecDepth 100000 in
theorem cw_X11_isCause : Jvm.Cond.code mX11_isCause.1 mX11_isCause.2.1 mX11_isCause.2.2.1 mX11_isCause.2.2.2.1 ∈ xTb := List.mem_filter.mpr ⟨List.mem_of_getElem? (i := 1314) rfl, rfl⟩
set_option maxRecDepth 100000 in
theorem cw_X11_isIn : Jvm.Cond.code mX11_isIn.1 mX11_isIn.2.1 mX11_isIn.2.2.1 mX11_isIn.2.2.2.1 ∈ xTb := List.mem_filter.mpr ⟨List.mem_of_getElem? (i := 873) rfl, rfl⟩
set_option maxRecDepth 100000 in
theorem cw_X12_init : Jvm.Cond.code mX12_init.1 mX12_init.2.1 mX12_init.2.2.1 mX12_init.2.2.2.1 ∈ xTb := List.mem_filter.mpr ⟨List.mem_of_getElem? (i := 1478) rfl, rfl⟩
set_option maxRecDepth 100000 in
theorem cw_X12_copy : Jvm.Cond.code mX12_copy.1 mX12_copy.2.1 mX12_copy.2.2.1 mX12_copy.2.2.2.1 ∈ xTb := List.mem_filter.mpr ⟨List.mem_of_getElem? (i := 1482) rfl, rfl⟩
set_option maxRecDepth 100000 in
theorem cw_X12_isIn : Jvm.Cond.code mX12_isIn.1 mX12_isIn.2.1 mX12_isIn.2.2.1 mX12_isIn.2.2.2.1 ∈ xTb := List.mem_filter.mpr ⟨List.mem_of_getElem? (i := 1586) rfl, rfl⟩
set_option maxRecDepth 100000 in
theorem cw_X12_held : Jvm.Cond.code mX12_held.1 mX12_held.2.1 mX12_held.2.2.1 mX12_held.2.2.2.1 ∈ xTb := List.mem_filter.mpr ⟨List.mem_of_getElem? (i := 1857) rfl, rfl⟩
set_option maxRecDepth 100000 in
theorem cw_X12_has : Jvm.Cond.code mX12_has.1 mX12_has.2.1 mX12_has.2.2.1 mX12_has.2.2.2.1 ∈ xTb := List.mem_filter.mpr ⟨List.mem_of_getElem? (i := 1662) rfl, rfl⟩
set_option maxRecDepth 100000 in
theorem cw_X12_bits : Jvm.Cond.code mX12_bits.1 mX12_bits.2.1 mX12_bits.2.2.1 mX12_bits.2.2.2.1 ∈ xTb := List.mem_filter.mpr ⟨List.mem_of_getElem? (i := 1827) rfl, rfl⟩
set_option maxRecDepth 100000 in
theorem cw_X12_isBird : Jvm.Cond.code mX12_isBird.1 mX12_isBird.2.1 mX12_isBird.2.2.1 mX12_isBird.2.2.2.1 ∈ xTb := List.mem_filter.mpr ⟨List.mem_of_getElem? (i := 1761) rfl, rfl⟩
set_option maxRecDepth 100000 in
theorem cw_X12_isCount : Jvm.Cond.code mX12_isCount.1 mX12_isCount.2.1 mX12_isCount.2.2.1 mX12_isCount.2.2.2.1 ∈ xTb := List.mem_filter.mpr ⟨List.mem_of_getElem? (i := 1593) rfl, rfl⟩
set_option maxRecDepth 100000 in
theorem cw_X12_isGone : Jvm.Cond.code mX12_isGone.1 mX12_isGone.2.1 mX12_isGone.2.2.1 mX12_isGone.2.2.2.1 ∈ xTb := List.mem_filter.mpr ⟨List.mem_of_getElem? (i := 1765) rfl, rfl⟩
set_option maxRecDepth 100000 in
theorem cw_X12_isDue : Jvm.Cond.code mX12_isDue.1 mX12_isDue.2.1 mX12_isDue.2.2.1 mX12_isDue.2.2.2.1 ∈ xTb := List.mem_filter.mpr ⟨List.mem_of_getElem? (i := 1805) rfl, rfl⟩
set_option maxRecDepth 100000 in
theorem cw_X12_dueBy : Jvm.Cond.code mX12_dueBy.1 mX12_dueBy.2.1 mX12_dueBy.2.2.1 mX12_dueBy.2.2.2.1 ∈ xTb := List.mem_filter.mpr ⟨List.mem_of_getElem? (i := 1801) rfl, rfl⟩
set_option maxRecDepth 100000 in
theorem cw_X12_dueNow : Jvm.Cond.code mX12_dueNow.1 mX12_dueNow.2.1 mX12_dueNow.2.2.1 mX12_dueNow.2.2.2.1 ∈ xTb := List.mem_filter.mpr ⟨List.mem_of_getElem? (i := 1797) rfl, rfl⟩
set_option maxRecDepth 100000 in
theorem cw_X12_bird : Jvm.Cond.code mX12_bird.1 mX12_bird.2.1 mX12_bird.2.2.1 mX12_bird.2.2.2.1 ∈ xTb := List.mem_filter.mpr ⟨List.mem_of_getElem? (i := 1583) rfl, rfl⟩
set_option maxRecDepth 100000 in
theorem cw_X12_rhyme : Jvm.Cond.code mX12_rhyme.1 mX12_rhyme.2.1 mX12_rhyme.2.2.1 mX12_rhyme.2.2.2.1 ∈ xTb := List.mem_filter.mpr ⟨List.mem_of_getElem? (i := 1590) rfl, rfl⟩
set_option maxRecDepth 100000 in
theorem cw_X12_four : Jvm.Cond.code mX12_four.1 mX12_four.2.1 mX12_four.2.2.1 mX12_four.2.2.2.1 ∈ xTb := List.mem_filter.mpr ⟨List.mem_of_getElem? (i := 1601) rfl, rfl⟩
set_option maxRecDepth 100000 in
theorem cw_X12_feed : Jvm.Cond.code mX12_feed.1 mX12_feed.2.1 mX12_feed.2.2.1 mX12_feed.2.2.2.1 ∈ xTb := List.mem_filter.mpr ⟨List.mem_of_getElem? (i := 1597) rfl, rfl⟩
set_option maxRecDepth 100000 in
theorem cw_X12_end : Jvm.Cond.code mX12_end.1 mX12_end.2.1 mX12_end.2.2.1 mX12_end.2.2.2.1 ∈ xTb := List.mem_filter.mpr ⟨List.mem_of_getElem? (i := 1605) rfl, rfl⟩
set_option maxRecDepth 100000 in
theorem cw_X12_byteAt : Jvm.Cond.code mX12_byteAt.1 mX12_byteAt.2.1 mX12_byteAt.2.2.1 mX12_byteAt.2.2.2.1 ∈ xTb := List.mem_filter.mpr ⟨List.mem_of_getElem? (i := 1621) rfl, rfl⟩
set_option maxRecDepth 100000 in
theorem cw_X12_isLetterByte : Jvm.Cond.code mX12_isLetterByte.1 mX12_isLetterByte.2.1 mX12_isLetterByte.2.2.1 mX12_isLetterByte.2.2.2.1 ∈ xTb := List.mem_filter.mpr ⟨List.mem_of_getElem? (i := 1628) rfl, rfl⟩
set_option maxRecDepth 100000 in
theorem cw_X12_isFigure : Jvm.Cond.code mX12_isFigure.1 mX12_isFigure.2.1 mX12_isFigure.2.2.1 mX12_isFigure.2.2.2.1 ∈ xTb := List.mem_filter.mpr ⟨List.mem_of_getElem? (i := 1624) rfl, rfl⟩
set_option maxRecDepth 100000 in
theorem cw_X12_isSign : Jvm.Cond.code mX12_isSign.1 mX12_isSign.2.1 mX12_isSign.2.2.1 mX12_isSign.2.2.2.1 ∈ xTb := List.mem_filter.mpr ⟨List.mem_of_getElem? (i := 1632) rfl, rfl⟩
set_option maxRecDepth 100000 in
theorem cw_X12_nextToken : Jvm.Cond.code mX12_nextToken.1 mX12_nextToken.2.1 mX12_nextToken.2.2.1 mX12_nextToken.2.2.2.1 ∈ xTb := List.mem_filter.mpr ⟨List.mem_of_getElem? (i := 1617) rfl, rfl⟩
set_option maxRecDepth 100000 in
theorem cw_X12_w2 : Jvm.Cond.code mX12_w2.1 mX12_w2.2.1 mX12_w2.2.2.1 mX12_w2.2.2.2.1 ∈ xTb := List.mem_filter.mpr ⟨List.mem_of_getElem? (i := 1655) rfl, rfl⟩
set_option maxRecDepth 100000 in
theorem cw_X12_w3 : Jvm.Cond.code mX12_w3.1 mX12_w3.2.1 mX12_w3.2.2.1 mX12_w3.2.2.2.1 ∈ xTb := List.mem_filter.mpr ⟨List.mem_of_getElem? (i := 1652) rfl, rfl⟩
set_option maxRecDepth 100000 in
theorem cw_X12_w4 : Jvm.Cond.code mX12_w4.1 mX12_w4.2.1 mX12_w4.2.2.1 mX12_w4.2.2.2.1 ∈ xTb := List.mem_filter.mpr ⟨List.mem_of_getElem? (i := 1649) rfl, rfl⟩
set_option maxRecDepth 100000 in
theorem cw_X12_w5 : Jvm.Cond.code mX12_w5.1 mX12_w5.2.1 mX12_w5.2.2.1 mX12_w5.2.2.2.1 ∈ xTb := List.mem_filter.mpr ⟨List.mem_of_getElem? (i := 1646) rfl, rfl⟩
set_option maxRecDepth 100000 in
theorem cw_X12_w6 : Jvm.Cond.code mX12_w6.1 mX12_w6.2.1 mX12_w6.2.2.1 mX12_w6.2.2.2.1 ∈ xTb := List.mem_filter.mpr ⟨List.mem_of_getElem? (i := 1643) rfl, rfl⟩
set_option maxRecDepth 100000 in
theorem cw_X12_isWord : Jvm.Cond.code mX12_isWord.1 mX12_isWord.2.1 mX12_isWord.2.2.1 mX12_isWord.2.2.2.1 ∈ xTb := List.mem_filter.mpr ⟨List.mem_of_getElem? (i := 1659) rfl, rfl⟩
set_option maxRecDepth 100000 in
theorem cw_X12_emit : Jvm.Cond.code mX12_emit.1 mX12_emit.2.1 mX12_emit.2.2.1 mX12_emit.2.2.2.1 ∈ xTb := List.mem_filter.mpr ⟨List.mem_of_getElem? (i := 1717) rfl, rfl⟩
set_option maxRecDepth 100000 in
theorem cw_X12_nameOf : Jvm.Cond.code mX12_nameOf.1 mX12_nameOf.2.1 mX12_nameOf.2.2.1 mX12_nameOf.2.2.2.1 ∈ xTb := List.mem_filter.mpr ⟨List.mem_of_getElem? (i := 1729) rfl, rfl⟩
set_option maxRecDepth 100000 in
theorem cw_X12_isOf : Jvm.Cond.code mX12_isOf.1 mX12_isOf.2.1 mX12_isOf.2.2.1 mX12_isOf.2.2.2.1 ∈ xTb := List.mem_filter.mpr ⟨List.mem_of_getElem? (i := 1733) rfl, rfl⟩
set_option maxRecDepth 100000 in
theorem cw_X12_rank : Jvm.Cond.code mX12_rank.1 mX12_rank.2.1 mX12_rank.2.2.1 mX12_rank.2.2.2.1 ∈ xTb := List.mem_filter.mpr ⟨List.mem_of_getElem? (i := 1705) rfl, rfl⟩
set_option maxRecDepth 100000 in
theorem cw_X12_settle : Jvm.Cond.code mX12_settle.1 mX12_settle.2.1 mX12_settle.2.2.1 mX12_settle.2.2.2.1 ∈ xTb := List.mem_filter.mpr ⟨List.mem_of_getElem? (i := 1713) rfl, rfl⟩
set_option maxRecDepth 100000 in
theorem cw_X12_openAt : Jvm.Cond.code mX12_openAt.1 mX12_openAt.2.1 mX12_openAt.2.2.1 mX12_openAt.2.2.2.1 ∈ xTb := List.mem_filter.mpr ⟨List.mem_of_getElem? (i := 1698) rfl, rfl⟩
set_option maxRecDepth 100000 in
theorem cw_X12_openNow : Jvm.Cond.code mX12_openNow.1 mX12_openNow.2.1 mX12_openNow.2.2.1 mX12_openNow.2.2.2.1 ∈ xTb := List.mem_filter.mpr ⟨List.mem_of_getElem? (i := 1694) rfl, rfl⟩
set_option maxRecDepth 100000 in
theorem cw_X12_isCompared : Jvm.Cond.code mX12_isCompared.1 mX12_isCompared.2.1 mX12_isCompared.2.2.1 mX12_isCompared.2.2.2.1 ∈ xTb := List.mem_filter.mpr ⟨List.mem_of_getElem? (i := 1702) rfl, rfl⟩
set_option maxRecDepth 100000 in
theorem cw_X12_isAskAhead : Jvm.Cond.code mX12_isAskAhead.1 mX12_isAskAhead.2.1 mX12_isAskAhead.2.2.1 mX12_isAskAhead.2.2.2.1 ∈ xTb := List.mem_filter.mpr ⟨List.mem_of_getElem? (i := 1741) rfl, rfl⟩
set_option maxRecDepth 100000 in
theorem cw_X12_opened : Jvm.Cond.code mX12_opened.1 mX12_opened.2.1 mX12_opened.2.2.1 mX12_opened.2.2.2.1 ∈ xTb := List.mem_filter.mpr ⟨List.mem_of_getElem? (i := 1737) rfl, rfl⟩
set_option maxRecDepth 100000 in
theorem cw_X12_beginOne : Jvm.Cond.code mX12_beginOne.1 mX12_beginOne.2.1 mX12_beginOne.2.2.1 mX12_beginOne.2.2.2.1 ∈ xTb := List.mem_filter.mpr ⟨List.mem_of_getElem? (i := 1725) rfl, rfl⟩
set_option maxRecDepth 100000 in
theorem cw_X12_compareOf : Jvm.Cond.code mX12_compareOf.1 mX12_compareOf.2.1 mX12_compareOf.2.2.1 mX12_compareOf.2.2.2.1 ∈ xTb := List.mem_filter.mpr ⟨List.mem_of_getElem? (i := 1709) rfl, rfl⟩
set_option maxRecDepth 100000 in
theorem cw_X12_betweenOf : Jvm.Cond.code mX12_betweenOf.1 mX12_betweenOf.2.1 mX12_betweenOf.2.2.1 mX12_betweenOf.2.2.2.1 ∈ xTb := List.mem_filter.mpr ⟨List.mem_of_getElem? (i := 1690) rfl, rfl⟩
set_option maxRecDepth 100000 in
theorem cw_X12_partOf : Jvm.Cond.code mX12_partOf.1 mX12_partOf.2.1 mX12_partOf.2.2.1 mX12_partOf.2.2.2.1 ∈ xTb := List.mem_filter.mpr ⟨List.mem_of_getElem? (i := 1721) rfl, rfl⟩
set_option maxRecDepth 100000 in
theorem cw_X12_behindOne : Jvm.Cond.code mX12_behindOne.1 mX12_behindOne.2.1 mX12_behindOne.2.2.1 mX12_behindOne.2.2.2.1 ∈ xTb := List.mem_filter.mpr ⟨List.mem_of_getElem? (i := 1686) rfl, rfl⟩
set_option maxRecDepth 100000 in
theorem cw_X12_summed : Jvm.Cond.code mX12_summed.1 mX12_summed.2.1 mX12_summed.2.2.1 mX12_summed.2.2.2.1 ∈ xTb := List.mem_filter.mpr ⟨List.mem_of_getElem? (i := 1682) rfl, rfl⟩
set_option maxRecDepth 100000 in
theorem cw_X12_figure : Jvm.Cond.code mX12_figure.1 mX12_figure.2.1 mX12_figure.2.2.1 mX12_figure.2.2.2.1 ∈ xTb := List.mem_filter.mpr ⟨List.mem_of_getElem? (i := 1674) rfl, rfl⟩
set_option maxRecDepth 100000 in
theorem cw_X12_lawClause : Jvm.Cond.code mX12_lawClause.1 mX12_lawClause.2.1 mX12_lawClause.2.2.1 mX12_lawClause.2.2.2.1 ∈ xTb := List.mem_filter.mpr ⟨List.mem_of_getElem? (i := 1678) rfl, rfl⟩
set_option maxRecDepth 100000 in
theorem cw_X12_pair : Jvm.Cond.code mX12_pair.1 mX12_pair.2.1 mX12_pair.2.2.1 mX12_pair.2.2.2.1 ∈ xTb := List.mem_filter.mpr ⟨List.mem_of_getElem? (i := 1670) rfl, rfl⟩
set_option maxRecDepth 100000 in
theorem cw_X12_body : Jvm.Cond.code mX12_body.1 mX12_body.2.1 mX12_body.2.2.1 mX12_body.2.2.2.1 ∈ xTb := List.mem_filter.mpr ⟨List.mem_of_getElem? (i := 1666) rfl, rfl⟩
set_option maxRecDepth 100000 in
theorem cw_X12_sortOf : Jvm.Cond.code mX12_sortOf.1 mX12_sortOf.2.1 mX12_sortOf.2.2.1 mX12_sortOf.2.2.2.1 ∈ xTb := List.mem_filter.mpr ⟨List.mem_of_getElem? (i := 1640) rfl, rfl⟩
set_option maxRecDepth 100000 in
theorem cw_X12_clause : Jvm.Cond.code mX12_clause.1 mX12_clause.2.1 mX12_clause.2.2.1 mX12_clause.2.2.2.1 ∈ xTb := List.mem_filter.mpr ⟨List.mem_of_getElem? (i := 1636) rfl, rfl⟩
set_option maxRecDepth 100000 in
theorem cw_X12_readText : Jvm.Cond.code mX12_readText.1 mX12_readText.2.1 mX12_readText.2.2.1 mX12_readText.2.2.2.1 ∈ xTb := List.mem_filter.mpr ⟨List.mem_of_getElem? (i := 1613) rfl, rfl⟩
set_option maxRecDepth 100000 in
theorem cw_X12_text : Jvm.Cond.code mX12_text.1 mX12_text.2.1 mX12_text.2.2.1 mX12_text.2.2.2.1 ∈ xTb := List.mem_filter.mpr ⟨List.mem_of_getElem? (i := 1609) rfl, rfl⟩
set_option maxRecDepth 100000 in
theorem cw_X12_fault : Jvm.Cond.code mX12_fault.1 mX12_fault.2.1 mX12_fault.2.2.1 mX12_fault.2.2.2.1 ∈ xTb := List.mem_filter.mpr ⟨List.mem_of_getElem? (i := 1745) rfl, rfl⟩
set_option maxRecDepth 100000 in
theorem cw_X12_by : Jvm.Cond.code mX12_by.1 mX12_by.2.1 mX12_by.2.2.1 mX12_by.2.2.2.1 ∈ xTb := List.mem_filter.mpr ⟨List.mem_of_getElem? (i := 1749) rfl, rfl⟩
set_option maxRecDepth 100000 in
theorem cw_X12_clip : Jvm.Cond.code mX12_clip.1 mX12_clip.2.1 mX12_clip.2.2.1 mX12_clip.2.2.2.1 ∈ xTb := List.mem_filter.mpr ⟨List.mem_of_getElem? (i := 1846) rfl, rfl⟩
set_option maxRecDepth 100000 in
theorem cw_X12_two : Jvm.Cond.code mX12_two.1 mX12_two.2.1 mX12_two.2.2.1 mX12_two.2.2.2.1 ∈ xTb := List.mem_filter.mpr ⟨List.mem_of_getElem? (i := 1843) rfl, rfl⟩
set_option maxRecDepth 100000 in
theorem cw_X12_isAsked : Jvm.Cond.code mX12_isAsked.1 mX12_isAsked.2.1 mX12_isAsked.2.2.1 mX12_isAsked.2.2.2.1 ∈ xTb := List.mem_filter.mpr ⟨List.mem_of_getElem? (i := 1851) rfl, rfl⟩
set_option maxRecDepth 100000 in
theorem cw_X12_ofOne : Jvm.Cond.code mX12_ofOne.1 mX12_ofOne.2.1 mX12_ofOne.2.2.1 mX12_ofOne.2.2.2.1 ∈ xTb := List.mem_filter.mpr ⟨List.mem_of_getElem? (i := 1839) rfl, rfl⟩
set_option maxRecDepth 100000 in
theorem cw_X12_joined : Jvm.Cond.code mX12_joined.1 mX12_joined.2.1 mX12_joined.2.2.1 mX12_joined.2.2.2.1 ∈ xTb := List.mem_filter.mpr ⟨List.mem_of_getElem? (i := 1854) rfl, rfl⟩
set_option maxRecDepth 100000 in
theorem cw_X12_summedUp : Jvm.Cond.code mX12_summedUp.1 mX12_summedUp.2.1 mX12_summedUp.2.2.1 mX12_summedUp.2.2.2.1 ∈ xTb := List.mem_filter.mpr ⟨List.mem_of_getElem? (i := 1835) rfl, rfl⟩
set_option maxRecDepth 100000 in
theorem cw_X12_says : Jvm.Cond.code mX12_says.1 mX12_says.2.1 mX12_says.2.2.1 mX12_says.2.2.2.1 ∈ xTb := List.mem_filter.mpr ⟨List.mem_of_getElem? (i := 1831) rfl, rfl⟩
set_option maxRecDepth 100000 in
theorem cw_X12_name : Jvm.Cond.code mX12_name.1 mX12_name.2.1 mX12_name.2.2.1 mX12_name.2.2.2.1 ∈ xTb := List.mem_filter.mpr ⟨List.mem_of_getElem? (i := 1824) rfl, rfl⟩
set_option maxRecDepth 100000 in
theorem cw_X12_chanceOf : Jvm.Cond.code mX12_chanceOf.1 mX12_chanceOf.2.1 mX12_chanceOf.2.2.1 mX12_chanceOf.2.2.2.1 ∈ xTb := List.mem_filter.mpr ⟨List.mem_of_getElem? (i := 1820) rfl, rfl⟩
set_option maxRecDepth 100000 in
theorem cw_X12_bringsOf : Jvm.Cond.code mX12_bringsOf.1 mX12_bringsOf.2.1 mX12_bringsOf.2.2.1 mX12_bringsOf.2.2.2.1 ∈ xTb := List.mem_filter.mpr ⟨List.mem_of_getElem? (i := 1861) rfl, rfl⟩
set_option maxRecDepth 100000 in
theorem cw_X12_write : Jvm.Cond.code mX12_write.1 mX12_write.2.1 mX12_write.2.2.1 mX12_write.2.2.2.1 ∈ xTb := List.mem_filter.mpr ⟨List.mem_of_getElem? (i := 1865) rfl, rfl⟩
set_option maxRecDepth 100000 in
theorem cw_X12_drawnBy : Jvm.Cond.code mX12_drawnBy.1 mX12_drawnBy.2.1 mX12_drawnBy.2.2.1 mX12_drawnBy.2.2.2.1 ∈ xTb := List.mem_filter.mpr ⟨List.mem_of_getElem? (i := 1809) rfl, rfl⟩
set_option maxRecDepth 100000 in
theorem cw_X12_anew : Jvm.Cond.code mX12_anew.1 mX12_anew.2.1 mX12_anew.2.2.1 mX12_anew.2.2.2.1 ∈ xTb := List.mem_filter.mpr ⟨List.mem_of_getElem? (i := 1813) rfl, rfl⟩
set_option maxRecDepth 100000 in
theorem cw_X12_canGrant : Jvm.Cond.code mX12_canGrant.1 mX12_canGrant.2.1 mX12_canGrant.2.2.1 mX12_canGrant.2.2.2.1 ∈ xTb := List.mem_filter.mpr ⟨List.mem_of_getElem? (i := 1781) rfl, rfl⟩
set_option maxRecDepth 100000 in
theorem cw_X12_pass : Jvm.Cond.code mX12_pass.1 mX12_pass.2.1 mX12_pass.2.2.1 mX12_pass.2.2.2.1 ∈ xTb := List.mem_filter.mpr ⟨List.mem_of_getElem? (i := 1793) rfl, rfl⟩
set_option maxRecDepth 100000 in
theorem cw_X12_keep : Jvm.Cond.code mX12_keep.1 mX12_keep.2.1 mX12_keep.2.2.1 mX12_keep.2.2.2.1 ∈ xTb := List.mem_filter.mpr ⟨List.mem_of_getElem? (i := 1769) rfl, rfl⟩
set_option maxRecDepth 100000 in
theorem cw_X12_undo : Jvm.Cond.code mX12_undo.1 mX12_undo.2.1 mX12_undo.2.2.1 mX12_undo.2.2.2.1 ∈ xTb := List.mem_filter.mpr ⟨List.mem_of_getElem? (i := 1753) rfl, rfl⟩
set_option maxRecDepth 100000 in
theorem cw_X12_thin : Jvm.Cond.code mX12_thin.1 mX12_thin.2.1 mX12_thin.2.2.1 mX12_thin.2.2.2.1 ∈ xTb := List.mem_filter.mpr ⟨List.mem_of_getElem? (i := 1757) rfl, rfl⟩
set_option maxRecDepth 100000 in
theorem cw_X12_call : Jvm.Cond.code mX12_call.1 mX12_call.2.1 mX12_call.2.2.1 mX12_call.2.2.2.1 ∈ xTb := List.mem_filter.mpr ⟨List.mem_of_getElem? (i := 1773) rfl, rfl⟩
set_option maxRecDepth 100000 in
theorem cw_X12_grant : Jvm.Cond.code mX12_grant.1 mX12_grant.2.1 mX12_grant.2.2.1 mX12_grant.2.2.2.1 ∈ xTb := List.mem_filter.mpr ⟨List.mem_of_getElem? (i := 1777) rfl, rfl⟩
set_option maxRecDepth 100000 in
theorem cw_X12_arePassed : Jvm.Cond.code mX12_arePassed.1 mX12_arePassed.2.1 mX12_arePassed.2.2.1 mX12_arePassed.2.2.2.1 ∈ xTb := List.mem_filter.mpr ⟨List.mem_of_getElem? (i := 1789) rfl, rfl⟩
set_option maxRecDepth 100000 in
theorem cw_X12_day : Jvm.Cond.code mX12_day.1 mX12_day.2.1 mX12_day.2.2.1 mX12_day.2.2.2.1 ∈ xTb := List.mem_filter.mpr ⟨List.mem_of_getElem? (i := 1785) rfl, rfl⟩
set_option maxRecDepth 100000 in
theorem cw_X12_isPlayed : Jvm.Cond.code mX12_isPlayed.1 mX12_isPlayed.2.1 mX12_isPlayed.2.2.1 mX12_isPlayed.2.2.2.1 ∈ xTb := List.mem_filter.mpr ⟨List.mem_of_getElem? (i := 1873) rfl, rfl⟩
set_option maxRecDepth 100000 in
theorem cw_X12_played : Jvm.Cond.code mX12_played.1 mX12_played.2.1 mX12_played.2.2.1 mX12_played.2.2.2.1 ∈ xTb := List.mem_filter.mpr ⟨List.mem_of_getElem? (i := 1869) rfl, rfl⟩
set_option maxRecDepth 100000 in
theorem cw_X12_happens : Jvm.Cond.code mX12_happens.1 mX12_happens.2.1 mX12_happens.2.2.1 mX12_happens.2.2.2.1 ∈ xTb := List.mem_filter.mpr ⟨List.mem_of_getElem? (i := 1886) rfl, rfl⟩
set_option maxRecDepth 100000 in
theorem cw_X12_years : Jvm.Cond.code mX12_years.1 mX12_years.2.1 mX12_years.2.2.1 mX12_years.2.2.2.1 ∈ xTb := List.mem_filter.mpr ⟨List.mem_of_getElem? (i := 1882) rfl, rfl⟩
set_option maxRecDepth 100000 in
theorem cw_X12_of : Jvm.Cond.code mX12_of.1 mX12_of.2.1 mX12_of.2.2.1 mX12_of.2.2.2.1 ∈ xTb := List.mem_filter.mpr ⟨List.mem_of_getElem? (i := 1890) rfl, rfl⟩
set_option maxRecDepth 100000 in
theorem cw_X12_is : Jvm.Cond.code mX12_is.1 mX12_is.2.1 mX12_is.2.2.1 mX12_is.2.2.2.1 ∈ xTb := List.mem_filter.mpr ⟨List.mem_of_getElem? (i := 1894) rfl, rfl⟩
set_option maxRecDepth 100000 in
theorem cw_X12_things : Jvm.Cond.code mX12_things.1 mX12_things.2.1 mX12_things.2.2.1 mX12_things.2.2.2.1 ∈ xTb := List.mem_filter.mpr ⟨List.mem_of_getElem? (i := 1899) rfl, rfl⟩
set_option maxRecDepth 100000 in
theorem cw_X12_brings : Jvm.Cond.code mX12_brings.1 mX12_brings.2.1 mX12_brings.2.2.1 mX12_brings.2.2.2.1 ∈ xTb := List.mem_filter.mpr ⟨List.mem_of_getElem? (i := 1903) rfl, rfl⟩
set_option maxRecDepth 100000 in
theorem cw_X12_lineOf : Jvm.Cond.code mX12_lineOf.1 mX12_lineOf.2.1 mX12_lineOf.2.2.1 mX12_lineOf.2.2.2.1 ∈ xTb := List.mem_filter.mpr ⟨List.mem_of_getElem? (i := 1911) rfl, rfl⟩
set_option maxRecDepth 100000 in
theorem cw_X12_book : Jvm.Cond.code mX12_book.1 mX12_book.2.1 mX12_book.2.2.1 mX12_book.2.2.2.1 ∈ xTb := List.mem_filter.mpr ⟨List.mem_of_getElem? (i := 1907) rfl, rfl⟩
set_option maxRecDepth 100000 in
theorem cw_X12_ledger : Jvm.Cond.code mX12_ledger.1 mX12_ledger.2.1 mX12_ledger.2.2.1 mX12_ledger.2.2.2.1 ∈ xTb := List.mem_filter.mpr ⟨List.mem_of_getElem? (i := 1915) rfl, rfl⟩
set_option maxRecDepth 100000 in
theorem cw_X12_eldest : Jvm.Cond.code mX12_eldest.1 mX12_eldest.2.1 mX12_eldest.2.2.1 mX12_eldest.2.2.2.1 ∈ xTb := List.mem_filter.mpr ⟨List.mem_of_getElem? (i := 1919) rfl, rfl⟩
set_option maxRecDepth 100000 in
theorem cw_X12_due : Jvm.Cond.code mX12_due.1 mX12_due.2.1 mX12_due.2.2.1 mX12_due.2.2.2.1 ∈ xTb := List.mem_filter.mpr ⟨List.mem_of_getElem? (i := 1923) rfl, rfl⟩
set_option maxRecDepth 100000 in
theorem cw_X12_foretold : Jvm.Cond.code mX12_foretold.1 mX12_foretold.2.1 mX12_foretold.2.2.1 mX12_foretold.2.2.2.1 ∈ xTb := List.mem_filter.mpr ⟨List.mem_of_getElem? (i := 1927) rfl, rfl⟩
set_option maxRecDepth 100000 in
theorem cw_X12_divisor : Jvm.Cond.code mX12_divisor.1 mX12_divisor.2.1 mX12_divisor.2.2.1 mX12_divisor.2.2.2.1 ∈ xTb := List.mem_filter.mpr ⟨List.mem_of_getElem? (i := 1951) rfl, rfl⟩
set_option maxRecDepth 100000 in
theorem cw_X12_part : Jvm.Cond.code mX12_part.1 mX12_part.2.1 mX12_part.2.2.1 mX12_part.2.2.2.1 ∈ xTb := List.mem_filter.mpr ⟨List.mem_of_getElem? (i := 1948) rfl, rfl⟩
set_option maxRecDepth 100000 in
theorem cw_X12_noRows : Jvm.Cond.code mX12_noRows.1 mX12_noRows.2.1 mX12_noRows.2.2.1 mX12_noRows.2.2.2.1 ∈ xTb := List.mem_filter.mpr ⟨List.mem_of_getElem? (i := 1940) rfl, rfl⟩
set_option maxRecDepth 100000 in
theorem cw_X12_oneMore : Jvm.Cond.code mX12_oneMore.1 mX12_oneMore.2.1 mX12_oneMore.2.2.1 mX12_oneMore.2.2.2.1 ∈ xTb := List.mem_filter.mpr ⟨List.mem_of_getElem? (i := 1944) rfl, rfl⟩
set_option maxRecDepth 100000 in
theorem cw_X12_layRows : Jvm.Cond.code mX12_layRows.1 mX12_layRows.2.1 mX12_layRows.2.2.1 mX12_layRows.2.2.2.1 ∈ xTb := List.mem_filter.mpr ⟨List.mem_of_getElem? (i := 1936) rfl, rfl⟩
set_option maxRecDepth 100000 in
theorem cw_X12_likely : Jvm.Cond.code mX12_likely.1 mX12_likely.2.1 mX12_likely.2.2.1 mX12_likely.2.2.2.1 ∈ xTb := List.mem_filter.mpr ⟨List.mem_of_getElem? (i := 1931) rfl, rfl⟩
set_option maxRecDepth 100000 in
theorem cw_X12_mean : Jvm.Cond.code mX12_mean.1 mX12_mean.2.1 mX12_mean.2.2.1 mX12_mean.2.2.2.1 ∈ xTb := List.mem_filter.mpr ⟨List.mem_of_getElem? (i := 1955) rfl, rfl⟩
set_option maxRecDepth 100000 in
theorem cw_X12_best : Jvm.Cond.code mX12_best.1 mX12_best.2.1 mX12_best.2.2.1 mX12_best.2.2.2.1 ∈ xTb := List.mem_filter.mpr ⟨List.mem_of_getElem? (i := 1959) rfl, rfl⟩
set_option maxRecDepth 100000 in
theorem cw_X12_morning : Jvm.Cond.code mX12_morning.1 mX12_morning.2.1 mX12_morning.2.2.1 mX12_morning.2.2.2.1 ∈ xTb := List.mem_filter.mpr ⟨List.mem_of_getElem? (i := 1964) rfl, rfl⟩
set_option maxRecDepth 100000 in
theorem cw_X12_isHabit : Jvm.Cond.code mX12_isHabit.1 mX12_isHabit.2.1 mX12_isHabit.2.2.1 mX12_isHabit.2.2.2.1 ∈ xTb := List.mem_filter.mpr ⟨List.mem_of_getElem? (i := 1972) rfl, rfl⟩
set_option maxRecDepth 100000 in
theorem cw_X12_habits : Jvm.Cond.code mX12_habits.1 mX12_habits.2.1 mX12_habits.2.2.1 mX12_habits.2.2.2.1 ∈ xTb := List.mem_filter.mpr ⟨List.mem_of_getElem? (i := 1968) rfl, rfl⟩
set_option maxRecDepth 100000 in
theorem cw_X12_firstHabit : Jvm.Cond.code mX12_firstHabit.1 mX12_firstHabit.2.1 mX12_firstHabit.2.2.1 mX12_firstHabit.2.2.2.1 ∈ xTb := List.mem_filter.mpr ⟨List.mem_of_getElem? (i := 1980) rfl, rfl⟩
set_option maxRecDepth 100000 in
theorem cw_X12_habit : Jvm.Cond.code mX12_habit.1 mX12_habit.2.1 mX12_habit.2.2.1 mX12_habit.2.2.2.1 ∈ xTb := List.mem_filter.mpr ⟨List.mem_of_getElem? (i := 1976) rfl, rfl⟩
set_option maxRecDepth 100000 in
theorem cw_X12_whom : Jvm.Cond.code mX12_whom.1 mX12_whom.2.1 mX12_whom.2.2.1 mX12_whom.2.2.2.1 ∈ xTb := List.mem_filter.mpr ⟨List.mem_of_getElem? (i := 1984) rfl, rfl⟩
set_option maxRecDepth 100000 in
theorem cw_X12_rota : Jvm.Cond.code mX12_rota.1 mX12_rota.2.1 mX12_rota.2.2.1 mX12_rota.2.2.2.1 ∈ xTb := List.mem_filter.mpr ⟨List.mem_of_getElem? (i := 1988) rfl, rfl⟩
set_option maxRecDepth 100000 in
theorem cw_X12_gather : Jvm.Cond.code mX12_gather.1 mX12_gather.2.1 mX12_gather.2.2.1 mX12_gather.2.2.2.1 ∈ xTb := List.mem_filter.mpr ⟨List.mem_of_getElem? (i := 1992) rfl, rfl⟩
set_option maxRecDepth 100000 in
theorem cw_X12_comes : Jvm.Cond.code mX12_comes.1 mX12_comes.2.1 mX12_comes.2.2.1 mX12_comes.2.2.2.1 ∈ xTb := List.mem_filter.mpr ⟨List.mem_of_getElem? (i := 1996) rfl, rfl⟩
set_option maxRecDepth 100000 in
theorem cw_X12_follows : Jvm.Cond.code mX12_follows.1 mX12_follows.2.1 mX12_follows.2.2.1 mX12_follows.2.2.2.1 ∈ xTb := List.mem_filter.mpr ⟨List.mem_of_getElem? (i := 2000) rfl, rfl⟩
set_option maxRecDepth 100000 in
theorem cw_X12_afterOf : Jvm.Cond.code mX12_afterOf.1 mX12_afterOf.2.1 mX12_afterOf.2.2.1 mX12_afterOf.2.2.2.1 ∈ xTb := List.mem_filter.mpr ⟨List.mem_of_getElem? (i := 2016) rfl, rfl⟩
set_option maxRecDepth 100000 in
theorem cw_X12_agree : Jvm.Cond.code mX12_agree.1 mX12_agree.2.1 mX12_agree.2.2.1 mX12_agree.2.2.2.1 ∈ xTb := List.mem_filter.mpr ⟨List.mem_of_getElem? (i := 2004) rfl, rfl⟩
set_option maxRecDepth 100000 in
theorem cw_X12_ringOf : Jvm.Cond.code mX12_ringOf.1 mX12_ringOf.2.1 mX12_ringOf.2.2.1 mX12_ringOf.2.2.2.1 ∈ xTb := List.mem_filter.mpr ⟨List.mem_of_getElem? (i := 2012) rfl, rfl⟩
set_option maxRecDepth 100000 in
theorem cw_X12_ring : Jvm.Cond.code mX12_ring.1 mX12_ring.2.1 mX12_ring.2.2.1 mX12_ring.2.2.2.1 ∈ xTb := List.mem_filter.mpr ⟨List.mem_of_getElem? (i := 2008) rfl, rfl⟩
set_option maxRecDepth 100000 in
theorem cw_X12_till : Jvm.Cond.code mX12_till.1 mX12_till.2.1 mX12_till.2.2.1 mX12_till.2.2.2.1 ∈ xTb := List.mem_filter.mpr ⟨List.mem_of_getElem? (i := 2020) rfl, rfl⟩
set_option maxRecDepth 100000 in
theorem cw_X12_after : Jvm.Cond.code mX12_after.1 mX12_after.2.1 mX12_after.2.2.1 mX12_after.2.2.2.1 ∈ xTb := List.mem_filter.mpr ⟨List.mem_of_getElem? (i := 2024) rfl, rfl⟩
set_option maxRecDepth 100000 in
theorem cw_X12_areOdds : Jvm.Cond.code mX12_areOdds.1 mX12_areOdds.2.1 mX12_areOdds.2.2.1 mX12_areOdds.2.2.2.1 ∈ xTb := List.mem_filter.mpr ⟨List.mem_of_getElem? (i := 2032) rfl, rfl⟩
set_option maxRecDepth 100000 in
theorem cw_X12_layTest : Jvm.Cond.code mX12_layTest.1 mX12_layTest.2.1 mX12_layTest.2.2.1 mX12_layTest.2.2.2.1 ∈ xTb := List.mem_filter.mpr ⟨List.mem_of_getElem? (i := 2036) rfl, rfl⟩
set_option maxRecDepth 100000 in
theorem cw_X12_rowsFrom : Jvm.Cond.code mX12_rowsFrom.1 mX12_rowsFrom.2.1 mX12_rowsFrom.2.2.1 mX12_rowsFrom.2.2.2.1 ∈ xTb := List.mem_filter.mpr ⟨List.mem_of_getElem? (i := 2040) rfl, rfl⟩
set_option maxRecDepth 100000 in
theorem cw_X12_test : Jvm.Cond.code mX12_test.1 mX12_test.2.1 mX12_test.2.2.1 mX12_test.2.2.2.1 ∈ xTb := List.mem_filter.mpr ⟨List.mem_of_getElem? (i := 2029) rfl, rfl⟩
set_option maxRecDepth 100000 in
theorem cw_X12_bound : Jvm.Cond.code mX12_bound.1 mX12_bound.2.1 mX12_bound.2.2.1 mX12_bound.2.2.2.1 ∈ xTb := List.mem_filter.mpr ⟨List.mem_of_getElem? (i := 2044) rfl, rfl⟩
set_option maxRecDepth 100000 in
theorem cw_X12_sure : Jvm.Cond.code mX12_sure.1 mX12_sure.2.1 mX12_sure.2.2.1 mX12_sure.2.2.2.1 ∈ xTb := List.mem_filter.mpr ⟨List.mem_of_getElem? (i := 2049) rfl, rfl⟩
set_option maxRecDepth 100000 in
theorem cw_X12_votes : Jvm.Cond.code mX12_votes.1 mX12_votes.2.1 mX12_votes.2.2.1 mX12_votes.2.2.2.1 ∈ xTb := List.mem_filter.mpr ⟨List.mem_of_getElem? (i := 2055) rfl, rfl⟩
set_option maxRecDepth 100000 in
theorem cw_X12_allVotes : Jvm.Cond.code mX12_allVotes.1 mX12_allVotes.2.1 mX12_allVotes.2.2.1 mX12_allVotes.2.2.2.1 ∈ xTb := List.mem_filter.mpr ⟨List.mem_of_getElem? (i := 2067) rfl, rfl⟩
set_option maxRecDepth 100000 in
theorem cw_X12_isAhead : Jvm.Cond.code mX12_isAhead.1 mX12_isAhead.2.1 mX12_isAhead.2.2.1 mX12_isAhead.2.2.2.1 ∈ xTb := List.mem_filter.mpr ⟨List.mem_of_getElem? (i := 2075) rfl, rfl⟩
set_option maxRecDepth 100000 in
theorem cw_X12_laySeats : Jvm.Cond.code mX12_laySeats.1 mX12_laySeats.2.1 mX12_laySeats.2.2.1 mX12_laySeats.2.2.2.1 ∈ xTb := List.mem_filter.mpr ⟨List.mem_of_getElem? (i := 2071) rfl, rfl⟩
set_option maxRecDepth 100000 in
theorem cw_X12_areSeats : Jvm.Cond.code mX12_areSeats.1 mX12_areSeats.2.1 mX12_areSeats.2.2.1 mX12_areSeats.2.2.2.1 ∈ xTb := List.mem_filter.mpr ⟨List.mem_of_getElem? (i := 2063) rfl, rfl⟩
set_option maxRecDepth 100000 in
theorem cw_X12_seats : Jvm.Cond.code mX12_seats.1 mX12_seats.2.1 mX12_seats.2.2.1 mX12_seats.2.2.2.1 ∈ xTb := List.mem_filter.mpr ⟨List.mem_of_getElem? (i := 2059) rfl, rfl⟩
set_option maxRecDepth 100000 in
theorem cw_X12_unlike : Jvm.Cond.code mX12_unlike.1 mX12_unlike.2.1 mX12_unlike.2.2.1 mX12_unlike.2.2.2.1 ∈ xTb := List.mem_filter.mpr ⟨List.mem_of_getElem? (i := 2079) rfl, rfl⟩
set_option maxRecDepth 100000 in
theorem cw_X12_ranks : Jvm.Cond.code mX12_ranks.1 mX12_ranks.2.1 mX12_ranks.2.2.1 mX12_ranks.2.2.2.1 ∈ xTb := List.mem_filter.mpr ⟨List.mem_of_getElem? (i := 2083) rfl, rfl⟩
set_option maxRecDepth 100000 in
theorem cw_X12_isCause : Jvm.Cond.code mX12_isCause.1 mX12_isCause.2.1 mX12_isCause.2.2.1 mX12_isCause.2.2.2.1 ∈ xTb := List.mem_filter.mpr ⟨List.mem_of_getElem? (i := 2090) rfl, rfl⟩
set_option maxRecDepth 100000 in
theorem cw_X12_factorial : Jvm.Cond.code mX12_factorial.1 mX12_factorial.2.1 mX12_factorial.2.2.1 mX12_factorial.2.2.2.1 ∈ xTb := List.mem_filter.mpr ⟨List.mem_of_getElem? (i := 2104) rfl, rfl⟩
set_option maxRecDepth 100000 in
theorem cw_X12_causeAt : Jvm.Cond.code mX12_causeAt.1 mX12_causeAt.2.1 mX12_causeAt.2.2.1 mX12_causeAt.2.2.2.1 ∈ xTb := List.mem_filter.mpr ⟨List.mem_of_getElem? (i := 2101) rfl, rfl⟩
set_option maxRecDepth 100000 in
theorem cw_X12_placeBy : Jvm.Cond.code mX12_placeBy.1 mX12_placeBy.2.1 mX12_placeBy.2.2.1 mX12_placeBy.2.2.2.1 ∈ xTb := List.mem_filter.mpr ⟨List.mem_of_getElem? (i := 2098) rfl, rfl⟩
set_option maxRecDepth 100000 in
theorem cw_X12_doesBeat : Jvm.Cond.code mX12_doesBeat.1 mX12_doesBeat.2.1 mX12_doesBeat.2.2.1 mX12_doesBeat.2.2.2.1 ∈ xTb := List.mem_filter.mpr ⟨List.mem_of_getElem? (i := 2094) rfl, rfl⟩
set_option maxRecDepth 100000 in
theorem cw_X12_beats : Jvm.Cond.code mX12_beats.1 mX12_beats.2.1 mX12_beats.2.2.1 mX12_beats.2.2.2.1 ∈ xTb := List.mem_filter.mpr ⟨List.mem_of_getElem? (i := 2087) rfl, rfl⟩
set_option maxRecDepth 100000 in
theorem cw_X12_winner : Jvm.Cond.code mX12_winner.1 mX12_winner.2.1 mX12_winner.2.2.1 mX12_winner.2.2.2.1 ∈ xTb := List.mem_filter.mpr ⟨List.mem_of_getElem? (i := 2108) rfl, rfl⟩
set_option maxRecDepth 100000 in
theorem cw_X12_points : Jvm.Cond.code mX12_points.1 mX12_points.2.1 mX12_points.2.2.1 mX12_points.2.2.2.1 ∈ xTb := List.mem_filter.mpr ⟨List.mem_of_getElem? (i := 2112) rfl, rfl⟩
set_option maxRecDepth 100000 in
theorem cw_X12_firstVotes : Jvm.Cond.code mX12_firstVotes.1 mX12_firstVotes.2.1 mX12_firstVotes.2.2.1 mX12_firstVotes.2.2.2.1 ∈ xTb := List.mem_filter.mpr ⟨List.mem_of_getElem? (i := 2120) rfl, rfl⟩
set_option maxRecDepth 100000 in
theorem cw_X12_runoff : Jvm.Cond.code mX12_runoff.1 mX12_runoff.2.1 mX12_runoff.2.2.1 mX12_runoff.2.2.2.1 ∈ xTb := List.mem_filter.mpr ⟨List.mem_of_getElem? (i := 2116) rfl, rfl⟩
set_option maxRecDepth 100000 in
theorem cw_X12_layFigures : Jvm.Cond.code mX12_layFigures.1 mX12_layFigures.2.1 mX12_layFigures.2.2.1 mX12_layFigures.2.2.2.1 ∈ xTb := List.mem_filter.mpr ⟨List.mem_of_getElem? (i := 2131) rfl, rfl⟩
set_option maxRecDepth 100000 in
theorem cw_X12_areTimes : Jvm.Cond.code mX12_areTimes.1 mX12_areTimes.2.1 mX12_areTimes.2.2.1 mX12_areTimes.2.2.2.1 ∈ xTb := List.mem_filter.mpr ⟨List.mem_of_getElem? (i := 2127) rfl, rfl⟩
set_option maxRecDepth 100000 in
theorem cw_X12_digits : Jvm.Cond.code mX12_digits.1 mX12_digits.2.1 mX12_digits.2.2.1 mX12_digits.2.2.2.1 ∈ xTb := List.mem_filter.mpr ⟨List.mem_of_getElem? (i := 2124) rfl, rfl⟩
set_option maxRecDepth 100000 in
theorem cw_X12_digit : Jvm.Cond.code mX12_digit.1 mX12_digit.2.1 mX12_digit.2.2.1 mX12_digit.2.2.2.1 ∈ xTb := List.mem_filter.mpr ⟨List.mem_of_getElem? (i := 2135) rfl, rfl⟩
set_option maxRecDepth 100000 in
theorem cw_X12_isGuess : Jvm.Cond.code mX12_isGuess.1 mX12_isGuess.2.1 mX12_isGuess.2.2.1 mX12_isGuess.2.2.2.1 ∈ xTb := List.mem_filter.mpr ⟨List.mem_of_getElem? (i := 2142) rfl, rfl⟩
set_option maxRecDepth 100000 in
theorem cw_X12_depth : Jvm.Cond.code mX12_depth.1 mX12_depth.2.1 mX12_depth.2.2.1 mX12_depth.2.2.2.1 ∈ xTb := List.mem_filter.mpr ⟨List.mem_of_getElem? (i := 2139) rfl, rfl⟩
set_option maxRecDepth 100000 in
theorem cw_X12_rests : Jvm.Cond.code mX12_rests.1 mX12_rests.2.1 mX12_rests.2.2.1 mX12_rests.2.2.2.1 ∈ xTb := List.mem_filter.mpr ⟨List.mem_of_getElem? (i := 2146) rfl, rfl⟩
set_option maxRecDepth 100000 in
theorem cw_X12_winAt : Jvm.Cond.code mX12_winAt.1 mX12_winAt.2.1 mX12_winAt.2.2.1 mX12_winAt.2.2.2.1 ∈ xTb := List.mem_filter.mpr ⟨List.mem_of_getElem? (i := 2158) rfl, rfl⟩
set_option maxRecDepth 100000 in
theorem cw_X12_takeOf : Jvm.Cond.code mX12_takeOf.1 mX12_takeOf.2.1 mX12_takeOf.2.2.1 mX12_takeOf.2.2.2.1 ∈ xTb := List.mem_filter.mpr ⟨List.mem_of_getElem? (i := 2162) rfl, rfl⟩
set_option maxRecDepth 100000 in
theorem cw_X12_layWins : Jvm.Cond.code mX12_layWins.1 mX12_layWins.2.1 mX12_layWins.2.2.1 mX12_layWins.2.2.2.1 ∈ xTb := List.mem_filter.mpr ⟨List.mem_of_getElem? (i := 2155) rfl, rfl⟩
set_option maxRecDepth 100000 in
theorem cw_X12_game : Jvm.Cond.code mX12_game.1 mX12_game.2.1 mX12_game.2.2.1 mX12_game.2.2.2.1 ∈ xTb := List.mem_filter.mpr ⟨List.mem_of_getElem? (i := 2151) rfl, rfl⟩
set_option maxRecDepth 100000 in
theorem cw_X12_take : Jvm.Cond.code mX12_take.1 mX12_take.2.1 mX12_take.2.2.1 mX12_take.2.2.2.1 ∈ xTb := List.mem_filter.mpr ⟨List.mem_of_getElem? (i := 2166) rfl, rfl⟩
set_option maxRecDepth 100000 in
theorem cw_X12_told : Jvm.Cond.code mX12_told.1 mX12_told.2.1 mX12_told.2.2.1 mX12_told.2.2.2.1 ∈ xTb := List.mem_filter.mpr ⟨List.mem_of_getElem? (i := 2170) rfl, rfl⟩
set_option maxRecDepth 100000 in
theorem cw_X12_whose : Jvm.Cond.code mX12_whose.1 mX12_whose.2.1 mX12_whose.2.2.1 mX12_whose.2.2.2.1 ∈ xTb := List.mem_filter.mpr ⟨List.mem_of_getElem? (i := 2174) rfl, rfl⟩
set_option maxRecDepth 100000 in
theorem cw_X12_image : Jvm.Cond.code mX12_image.1 mX12_image.2.1 mX12_image.2.2.1 mX12_image.2.2.2.1 ∈ xTb := List.mem_filter.mpr ⟨List.mem_of_getElem? (i := 2178) rfl, rfl⟩
set_option maxRecDepth 100000 in
theorem cw_X12_back : Jvm.Cond.code mX12_back.1 mX12_back.2.1 mX12_back.2.2.1 mX12_back.2.2.2.1 ∈ xTb := List.mem_filter.mpr ⟨List.mem_of_getElem? (i := 2182) rfl, rfl⟩
set_option maxRecDepth 100000 in
theorem cw_X12_about : Jvm.Cond.code mX12_about.1 mX12_about.2.1 mX12_about.2.2.1 mX12_about.2.2.2.1 ∈ xTb := List.mem_filter.mpr ⟨List.mem_of_getElem? (i := 2186) rfl, rfl⟩
set_option maxRecDepth 100000 in
theorem cw_J6_bitCount_0f7a4 : Jvm.Cond.code mJ6_bitCount_0f7a4.1 mJ6_bitCount_0f7a4.2.1 mJ6_bitCount_0f7a4.2.2.1 mJ6_bitCount_0f7a4.2.2.2.1 ∈ xTb := List.mem_filter.mpr ⟨List.mem_of_getElem? (i := 985) rfl, rfl⟩
set_option maxRecDepth 100000 in
theorem cw_J7_fill_d0a16 : Jvm.Cond.code mJ7_fill_d0a16.1 mJ7_fill_d0a16.2.1 mJ7_fill_d0a16.2.2.1 mJ7_fill_d0a16.2.2.2.1 ∈ xTb := List.mem_filter.mpr ⟨List.mem_of_getElem? (i := 1094) rfl, rfl⟩
set_option maxRecDepth 100000 in
theorem cw_J7_fill_53178 : Jvm.Cond.code mJ7_fill_53178.1 mJ7_fill_53178.2.1 mJ7_fill_53178.2.2.1 mJ7_fill_53178.2.2.2.1 ∈ xTb := List.mem_filter.mpr ⟨List.mem_of_getElem? (i := 1293) rfl, rfl⟩
set_option maxRecDepth 100000 in
theorem cw_J7_copyOf_59c91 : Jvm.Cond.code mJ7_copyOf_59c91.1 mJ7_copyOf_59c91.2.1 mJ7_copyOf_59c91.2.2.1 mJ7_copyOf_59c91.2.2.2.1 ∈ xTb := List.mem_filter.mpr ⟨List.mem_of_getElem? (i := 789) rfl, rfl⟩
set_option maxRecDepth 100000 in
theorem cw_J0_charAt_5068e : Jvm.Cond.code mJ0_charAt_5068e.1 mJ0_charAt_5068e.2.1 mJ0_charAt_5068e.2.2.1 mJ0_charAt_5068e.2.2.2.1 ∈ xTb := List.mem_filter.mpr ⟨List.mem_of_getElem? (i := 577) rfl, rfl⟩
set_option maxRecDepth 100000 in
theorem cw_J0_length_8abf5 : Jvm.Cond.code mJ0_length_8abf5.1 mJ0_length_8abf5.2.1 mJ0_length_8abf5.2.2.1 mJ0_length_8abf5.2.2.2.1 ∈ xTb := List.mem_filter.mpr ⟨List.mem_of_getElem? (i := 644) rfl, rfl⟩
set_option maxRecDepth 100000 in
theorem cw_J0_indexOf_0f7a4 : Jvm.Cond.code mJ0_indexOf_0f7a4.1 mJ0_indexOf_0f7a4.2.1 mJ0_indexOf_0f7a4.2.2.1 mJ0_indexOf_0f7a4.2.2.2.1 ∈ xTb := List.mem_filter.mpr ⟨List.mem_of_getElem? (i := 636) rfl, rfl⟩
set_option maxRecDepth 100000 in
theorem cw_J0_indexOf_7cf53 : Jvm.Cond.code mJ0_indexOf_7cf53.1 mJ0_indexOf_7cf53.2.1 mJ0_indexOf_7cf53.2.2.1 mJ0_indexOf_7cf53.2.2.2.1 ∈ xTb := List.mem_filter.mpr ⟨List.mem_of_getElem? (i := 640) rfl, rfl⟩
set_option maxRecDepth 100000 in
theorem cw_J0_coder_7d493 : Jvm.Cond.code mJ0_coder_7d493.1 mJ0_coder_7d493.2.1 mJ0_coder_7d493.2.2.1 mJ0_coder_7d493.2.2.2.1 ∈ xTb := List.mem_filter.mpr ⟨List.mem_of_getElem? (i := 648) rfl, rfl⟩
set_option maxRecDepth 100000 in
theorem cw_J0_isLatin1_aae02 : Jvm.Cond.code mJ0_isLatin1_aae02.1 mJ0_isLatin1_aae02.2.1 mJ0_isLatin1_aae02.2.2.1 mJ0_isLatin1_aae02.2.2.2.1 ∈ xTb := List.mem_filter.mpr ⟨List.mem_of_getElem? (i := 581) rfl, rfl⟩
set_option maxRecDepth 100000 in
theorem cw_J1_charAt_3b067 : Jvm.Cond.code mJ1_charAt_3b067.1 mJ1_charAt_3b067.2.1 mJ1_charAt_3b067.2.2.1 mJ1_charAt_3b067.2.2.2.1 ∈ xTb := List.mem_filter.mpr ⟨List.mem_of_getElem? (i := 586) rfl, rfl⟩
set_option maxRecDepth 100000 in
theorem cw_J1_canEncode_9a6ad : Jvm.Cond.code mJ1_canEncode_9a6ad.1 mJ1_canEncode_9a6ad.2.1 mJ1_canEncode_9a6ad.2.2.1 mJ1_canEncode_9a6ad.2.2.2.1 ∈ xTb := List.mem_filter.mpr ⟨List.mem_of_getElem? (i := 654) rfl, rfl⟩
set_option maxRecDepth 100000 in
theorem cw_J1_indexOf_4cfef : Jvm.Cond.code mJ1_indexOf_4cfef.1 mJ1_indexOf_4cfef.2.1 mJ1_indexOf_4cfef.2.2.1 mJ1_indexOf_4cfef.2.2.2.1 ∈ xTb := List.mem_filter.mpr ⟨List.mem_of_getElem? (i := 651) rfl, rfl⟩
set_option maxRecDepth 100000 in
theorem cw_J1_indexOfChar_4cfef : Jvm.Cond.code mJ1_indexOfChar_4cfef.1 mJ1_indexOfChar_4cfef.2.1 mJ1_indexOfChar_4cfef.2.2.1 mJ1_indexOfChar_4cfef.2.2.2.1 ∈ xTb := List.mem_filter.mpr ⟨List.mem_of_getElem? (i := 661) rfl, rfl⟩
set_option maxRecDepth 100000 in
theorem cw_J0_checkIndex_df160 : Jvm.Cond.code mJ0_checkIndex_df160.1 mJ0_checkIndex_df160.2.1 mJ0_checkIndex_df160.2.2.1 mJ0_checkIndex_df160.2.2.2.1 ∈ xTb := List.mem_filter.mpr ⟨List.mem_of_getElem? (i := 589) rfl, rfl⟩
set_option maxRecDepth 100000 in
theorem cw_J3_checkIndex_8e157 : Jvm.Cond.code mJ3_checkIndex_8e157.1 mJ3_checkIndex_8e157.2.1 mJ3_checkIndex_8e157.2.2.1 mJ3_checkIndex_8e157.2.2.2.1 ∈ xTb := List.mem_filter.mpr ⟨List.mem_of_getElem? (i := 594) rfl, rfl⟩
theorem xOk_all : ∀ l ∈ xPl, ∀ M ∈ l, xOkM M = true := by
  intro l hl
  rcases List.mem_cons.mp hl with rfl | hl
  · exact List.forall_mem_cons.mpr ⟨ck_X0_init, List.forall_mem_cons.mpr ⟨ck_X0_copy, List.forall_mem_cons.mpr ⟨ck_X0_addBird, List.forall_mem_cons.mpr ⟨ck_X0_addText, List.forall_mem_cons.mpr ⟨ck_X0_addTold, List.forall_mem_cons.mpr ⟨ck_X0_hasBird, List.forall_mem_cons.mpr ⟨ck_X0_hasText, List.forall_mem_cons.mpr ⟨ck_X0_textAt, List.forall_mem_cons.mpr ⟨ck_X0_rulingText, List.forall_mem_cons.mpr ⟨ck_X0_isDue, List.forall_mem_cons.mpr ⟨ck_X0_dueOn, List.forall_mem_cons.mpr ⟨ck_X0_canThin, List.forall_mem_cons.mpr ⟨ck_X0_canCall, List.forall_mem_cons.mpr ⟨ck_X0_canGrant, List.forall_mem_cons.mpr ⟨ck_X0_canPass, List.forall_mem_cons.mpr ⟨ck_X1_init, fun _ h => absurd h List.not_mem_nil⟩⟩⟩⟩⟩⟩⟩⟩⟩⟩⟩⟩⟩⟩⟩⟩
  rcases List.mem_cons.mp hl with rfl | hl
  · exact List.forall_mem_cons.mpr ⟨ck_X1_chanceOf, List.forall_mem_cons.mpr ⟨ck_X1_broughtBy, List.forall_mem_cons.mpr ⟨ck_X1_run, List.forall_mem_cons.mpr ⟨ck_X1_isOfOne, List.forall_mem_cons.mpr ⟨ck_X1_isOfTwo, List.forall_mem_cons.mpr ⟨ck_X1_named, List.forall_mem_cons.mpr ⟨ck_X1_ofOne, List.forall_mem_cons.mpr ⟨ck_X1_ofTwo, List.forall_mem_cons.mpr ⟨ck_X1_isSo, List.forall_mem_cons.mpr ⟨ck_X2_init, List.forall_mem_cons.mpr ⟨ck_X2_copy, List.forall_mem_cons.mpr ⟨ck_X2_isGone, List.forall_mem_cons.mpr ⟨ck_X2_markGone, List.forall_mem_cons.mpr ⟨ck_X2_markBack, List.forall_mem_cons.mpr ⟨ck_X2_noteCame, List.forall_mem_cons.mpr ⟨ck_X2_draw, fun _ h => absurd h List.not_mem_nil⟩⟩⟩⟩⟩⟩⟩⟩⟩⟩⟩⟩⟩⟩⟩⟩
  rcases List.mem_cons.mp hl with rfl | hl
  · exact List.forall_mem_cons.mpr ⟨ck_X2_write, List.forall_mem_cons.mpr ⟨ck_X2_onPage, List.forall_mem_cons.mpr ⟨ck_X2_countWritten, List.forall_mem_cons.mpr ⟨ck_X3_init, List.forall_mem_cons.mpr ⟨ck_X3_copy, List.forall_mem_cons.mpr ⟨ck_X3_add, List.forall_mem_cons.mpr ⟨ck_X3_fits, List.forall_mem_cons.mpr ⟨ck_X3_countFitting, List.forall_mem_cons.mpr ⟨ck_X3_leastPeriod, List.forall_mem_cons.mpr ⟨ck_X3_leastPhase, List.forall_mem_cons.mpr ⟨ck_X3_nextDay, List.forall_mem_cons.mpr ⟨ck_X4_init, List.forall_mem_cons.mpr ⟨ck_X4_copy, List.forall_mem_cons.mpr ⟨ck_X4_allVotes, List.forall_mem_cons.mpr ⟨ck_X4_seatsByShares, List.forall_mem_cons.mpr ⟨ck_X4_seatsByRests, fun _ h => absurd h List.not_mem_nil⟩⟩⟩⟩⟩⟩⟩⟩⟩⟩⟩⟩⟩⟩⟩⟩
  rcases List.mem_cons.mp hl with rfl | hl
  · exact List.forall_mem_cons.mpr ⟨ck_X4_differing, List.forall_mem_cons.mpr ⟨ck_X4_causeAt, List.forall_mem_cons.mpr ⟨ck_X4_placeOf, List.forall_mem_cons.mpr ⟨ck_X4_isAhead, List.forall_mem_cons.mpr ⟨ck_X4_aheadOfAll, List.forall_mem_cons.mpr ⟨ck_X4_pointsFor, List.forall_mem_cons.mpr ⟨ck_X4_lastLeft, List.forall_mem_cons.mpr ⟨ck_X4_weakest, List.forall_mem_cons.mpr ⟨ck_X4_firstVotes, List.forall_mem_cons.mpr ⟨ck_X5_init, List.forall_mem_cons.mpr ⟨ck_X5_readTape, List.forall_mem_cons.mpr ⟨ck_X5_kind, List.forall_mem_cons.mpr ⟨ck_X5_fail, List.forall_mem_cons.mpr ⟨ck_X5_expect, List.forall_mem_cons.mpr ⟨ck_X5_readNumber, List.forall_mem_cons.mpr ⟨ck_X5_readClause, fun _ h => absurd h List.not_mem_nil⟩⟩⟩⟩⟩⟩⟩⟩⟩⟩⟩⟩⟩⟩⟩⟩
  rcases List.mem_cons.mp hl with rfl | hl
  · exact List.forall_mem_cons.mpr ⟨ck_X5_isVerb, List.forall_mem_cons.mpr ⟨ck_X5_readNumbers, List.forall_mem_cons.mpr ⟨ck_X5_readLaw, List.forall_mem_cons.mpr ⟨ck_X5_emit, List.forall_mem_cons.mpr ⟨ck_X5_readSum, List.forall_mem_cons.mpr ⟨ck_X5_readProduct, List.forall_mem_cons.mpr ⟨ck_X5_readOne, List.forall_mem_cons.mpr ⟨ck_X5_opensOne, List.forall_mem_cons.mpr ⟨ck_X5_readName, List.forall_mem_cons.mpr ⟨ck_X5_readOpened, List.forall_mem_cons.mpr ⟨ck_X5_readChoice, List.forall_mem_cons.mpr ⟨ck_X5_aim, List.forall_mem_cons.mpr ⟨ck_X5_readEither, List.forall_mem_cons.mpr ⟨ck_X5_readBoth, List.forall_mem_cons.mpr ⟨ck_X5_readAsk, List.forall_mem_cons.mpr ⟨ck_X5_readCompared, fun _ h => absurd h List.not_mem_nil⟩⟩⟩⟩⟩⟩⟩⟩⟩⟩⟩⟩⟩⟩⟩⟩
  rcases List.mem_cons.mp hl with rfl | hl
  · exact List.forall_mem_cons.mpr ⟨ck_X6_init, List.forall_mem_cons.mpr ⟨ck_X6_copy, List.forall_mem_cons.mpr ⟨ck_X6_selfFollowing, List.forall_mem_cons.mpr ⟨ck_X6_sizeAt, List.forall_mem_cons.mpr ⟨ck_X6_smallest, List.forall_mem_cons.mpr ⟨ck_X6_stepsToRing, List.forall_mem_cons.mpr ⟨ck_X6_behind, List.forall_mem_cons.mpr ⟨ck_X6_walked, List.forall_mem_cons.mpr ⟨ck_X7_init, List.forall_mem_cons.mpr ⟨ck_X7_begin, List.forall_mem_cons.mpr ⟨ck_X7_addOne, List.forall_mem_cons.mpr ⟨ck_X7_ofTrials, List.forall_mem_cons.mpr ⟨ck_X7_just, List.forall_mem_cons.mpr ⟨ck_X7_orMore, List.forall_mem_cons.mpr ⟨ck_X8_init, List.forall_mem_cons.mpr ⟨ck_X8_copy, fun _ h => absurd h List.not_mem_nil⟩⟩⟩⟩⟩⟩⟩⟩⟩⟩⟩⟩⟩⟩⟩⟩
  rcases List.mem_cons.mp hl with rfl | hl
  · exact List.forall_mem_cons.mpr ⟨ck_X8_keep, List.forall_mem_cons.mpr ⟨ck_X8_takeBack, List.forall_mem_cons.mpr ⟨ck_X9_init, List.forall_mem_cons.mpr ⟨ck_X9_add, List.forall_mem_cons.mpr ⟨ck_X9_scan, List.forall_mem_cons.mpr ⟨ck_X9_put, List.forall_mem_cons.mpr ⟨ck_X9_scanToken, List.forall_mem_cons.mpr ⟨ck_X9_scanWord, List.forall_mem_cons.mpr ⟨ck_X9_scanNumber, List.forall_mem_cons.mpr ⟨ck_X9_scanSign, List.forall_mem_cons.mpr ⟨ck_X9_kindOfWord, List.forall_mem_cons.mpr ⟨ck_X9_isLetter, List.forall_mem_cons.mpr ⟨ck_X9_isDigit, List.forall_mem_cons.mpr ⟨ck_X10_init, List.forall_mem_cons.mpr ⟨ck_X11_init, List.forall_mem_cons.mpr ⟨ck_X11_bird, fun _ h => absurd h List.not_mem_nil⟩⟩⟩⟩⟩⟩⟩⟩⟩⟩⟩⟩⟩⟩⟩⟩
  rcases List.mem_cons.mp hl with rfl | hl
  · exact List.forall_mem_cons.mpr ⟨ck_X11_rhyme, List.forall_mem_cons.mpr ⟨ck_X11_feed, List.forall_mem_cons.mpr ⟨ck_X11_end, List.forall_mem_cons.mpr ⟨ck_X11_text, List.forall_mem_cons.mpr ⟨ck_X11_fault, List.forall_mem_cons.mpr ⟨ck_X11_by, List.forall_mem_cons.mpr ⟨ck_X11_thin, List.forall_mem_cons.mpr ⟨ck_X11_call, List.forall_mem_cons.mpr ⟨ck_X11_grant, List.forall_mem_cons.mpr ⟨ck_X11_day, List.forall_mem_cons.mpr ⟨ck_X11_played, List.forall_mem_cons.mpr ⟨ck_X11_years, List.forall_mem_cons.mpr ⟨ck_X11_undo, List.forall_mem_cons.mpr ⟨ck_X11_of, List.forall_mem_cons.mpr ⟨ck_X11_is, List.forall_mem_cons.mpr ⟨ck_X11_things, fun _ h => absurd h List.not_mem_nil⟩⟩⟩⟩⟩⟩⟩⟩⟩⟩⟩⟩⟩⟩⟩⟩
  rcases List.mem_cons.mp hl with rfl | hl
  · exact List.forall_mem_cons.mpr ⟨ck_X11_brings, List.forall_mem_cons.mpr ⟨ck_X11_book, List.forall_mem_cons.mpr ⟨ck_X11_foretold, List.forall_mem_cons.mpr ⟨ck_X11_likely, List.forall_mem_cons.mpr ⟨ck_X11_mean, List.forall_mem_cons.mpr ⟨ck_X11_best, List.forall_mem_cons.mpr ⟨ck_X11_morning, List.forall_mem_cons.mpr ⟨ck_X11_habits, List.forall_mem_cons.mpr ⟨ck_X11_habit, List.forall_mem_cons.mpr ⟨ck_X11_whom, List.forall_mem_cons.mpr ⟨ck_X11_rota, List.forall_mem_cons.mpr ⟨ck_X11_gather, List.forall_mem_cons.mpr ⟨ck_X11_comes, List.forall_mem_cons.mpr ⟨ck_X11_follows, List.forall_mem_cons.mpr ⟨ck_X11_agree, List.forall_mem_cons.mpr ⟨ck_X11_ring, fun _ h => absurd h List.not_mem_nil⟩⟩⟩⟩⟩⟩⟩⟩⟩⟩⟩⟩⟩⟩⟩⟩
  rcases List.mem_cons.mp hl with rfl | hl
  · exact List.forall_mem_cons.mpr ⟨ck_X11_till, List.forall_mem_cons.mpr ⟨ck_X11_after, List.forall_mem_cons.mpr ⟨ck_X11_test, List.forall_mem_cons.mpr ⟨ck_X11_bound, List.forall_mem_cons.mpr ⟨ck_X11_sure, List.forall_mem_cons.mpr ⟨ck_X11_votes, List.forall_mem_cons.mpr ⟨ck_X11_seats, List.forall_mem_cons.mpr ⟨ck_X11_unlike, List.forall_mem_cons.mpr ⟨ck_X11_ranks, List.forall_mem_cons.mpr ⟨ck_X11_beats, List.forall_mem_cons.mpr ⟨ck_X11_winner, List.forall_mem_cons.mpr ⟨ck_X11_points, List.forall_mem_cons.mpr ⟨ck_X11_runoff, List.forall_mem_cons.mpr ⟨ck_X11_digits, List.forall_mem_cons.mpr ⟨ck_X11_digit, List.forall_mem_cons.mpr ⟨ck_X11_depth, fun _ h => absurd h List.not_mem_nil⟩⟩⟩⟩⟩⟩⟩⟩⟩⟩⟩⟩⟩⟩⟩⟩
  rcases List.mem_cons.mp hl with rfl | hl
  · exact List.forall_mem_cons.mpr ⟨ck_X11_rests, List.forall_mem_cons.mpr ⟨ck_X11_game, List.forall_mem_cons.mpr ⟨ck_X11_take, List.forall_mem_cons.mpr ⟨ck_X11_told, List.forall_mem_cons.mpr ⟨ck_X11_whose, List.forall_mem_cons.mpr ⟨ck_X11_eldest, List.forall_mem_cons.mpr ⟨ck_X11_due, List.forall_mem_cons.mpr ⟨ck_X11_ledger, List.forall_mem_cons.mpr ⟨ck_X11_image, List.forall_mem_cons.mpr ⟨ck_X11_back, List.forall_mem_cons.mpr ⟨ck_X11_about, List.forall_mem_cons.mpr ⟨ck_X11_passSteps, List.forall_mem_cons.mpr ⟨ck_X11_passDay, List.forall_mem_cons.mpr ⟨ck_X11_playClause, List.forall_mem_cons.mpr ⟨ck_X11_drawYear, List.forall_mem_cons.mpr ⟨ck_X11_noteChances, fun _ h => absurd h List.not_mem_nil⟩⟩⟩⟩⟩⟩⟩⟩⟩⟩⟩⟩⟩⟩⟩⟩
  rcases List.mem_cons.mp hl with rfl | hl
  · exact List.forall_mem_cons.mpr ⟨ck_X11_spreadOver, List.forall_mem_cons.mpr ⟨ck_X11_bestThinned, List.forall_mem_cons.mpr ⟨ck_X11_canCome, List.forall_mem_cons.mpr ⟨ck_X11_leastBound, List.forall_mem_cons.mpr ⟨ck_X11_bringsAllTold, List.forall_mem_cons.mpr ⟨ck_X11_raise, List.forall_mem_cons.mpr ⟨ck_X11_multiply, List.forall_mem_cons.mpr ⟨ck_X11_deeper, List.forall_mem_cons.mpr ⟨ck_X11_leastPart, List.forall_mem_cons.mpr ⟨ck_X11_firstOfHabit, List.forall_mem_cons.mpr ⟨ck_X11_leastCommon, List.forall_mem_cons.mpr ⟨ck_X11_greatestCommon, List.forall_mem_cons.mpr ⟨ck_X11_lowest, List.forall_mem_cons.mpr ⟨ck_X11_within, List.forall_mem_cons.mpr ⟨ck_X11_held, List.forall_mem_cons.mpr ⟨ck_X11_isCount, fun _ h => absurd h List.not_mem_nil⟩⟩⟩⟩⟩⟩⟩⟩⟩⟩⟩⟩⟩⟩⟩⟩
  rcases List.mem_cons.mp hl with rfl | hl
  · exact List.forall_mem_cons.mpr ⟨ck_X11_isParish, List.forall_mem_cons.mpr ⟨ck_X11_isCause, List.forall_mem_cons.mpr ⟨ck_X11_isIn, List.forall_mem_cons.mpr ⟨ck_X12_init, List.forall_mem_cons.mpr ⟨ck_X12_copy, List.forall_mem_cons.mpr ⟨ck_X12_isIn, List.forall_mem_cons.mpr ⟨ck_X12_held, List.forall_mem_cons.mpr ⟨ck_X12_has, List.forall_mem_cons.mpr ⟨ck_X12_bits, List.forall_mem_cons.mpr ⟨ck_X12_isBird, List.forall_mem_cons.mpr ⟨ck_X12_isCount, List.forall_mem_cons.mpr ⟨ck_X12_isGone, List.forall_mem_cons.mpr ⟨ck_X12_isDue, List.forall_mem_cons.mpr ⟨ck_X12_dueBy, List.forall_mem_cons.mpr ⟨ck_X12_dueNow, List.forall_mem_cons.mpr ⟨ck_X12_bird, fun _ h => absurd h List.not_mem_nil⟩⟩⟩⟩⟩⟩⟩⟩⟩⟩⟩⟩⟩⟩⟩⟩
  rcases List.mem_cons.mp hl with rfl | hl
  · exact List.forall_mem_cons.mpr ⟨ck_X12_rhyme, List.forall_mem_cons.mpr ⟨ck_X12_four, List.forall_mem_cons.mpr ⟨ck_X12_feed, List.forall_mem_cons.mpr ⟨ck_X12_end, List.forall_mem_cons.mpr ⟨ck_X12_byteAt, List.forall_mem_cons.mpr ⟨ck_X12_isLetterByte, List.forall_mem_cons.mpr ⟨ck_X12_isFigure, List.forall_mem_cons.mpr ⟨ck_X12_isSign, List.forall_mem_cons.mpr ⟨ck_X12_nextToken, List.forall_mem_cons.mpr ⟨ck_X12_w2, List.forall_mem_cons.mpr ⟨ck_X12_w3, List.forall_mem_cons.mpr ⟨ck_X12_w4, List.forall_mem_cons.mpr ⟨ck_X12_w5, List.forall_mem_cons.mpr ⟨ck_X12_w6, List.forall_mem_cons.mpr ⟨ck_X12_isWord, List.forall_mem_cons.mpr ⟨ck_X12_emit, fun _ h => absurd h List.not_mem_nil⟩⟩⟩⟩⟩⟩⟩⟩⟩⟩⟩⟩⟩⟩⟩⟩
  rcases List.mem_cons.mp hl with rfl | hl
  · exact List.forall_mem_cons.mpr ⟨ck_X12_nameOf, List.forall_mem_cons.mpr ⟨ck_X12_isOf, List.forall_mem_cons.mpr ⟨ck_X12_rank, List.forall_mem_cons.mpr ⟨ck_X12_settle, List.forall_mem_cons.mpr ⟨ck_X12_openAt, List.forall_mem_cons.mpr ⟨ck_X12_openNow, List.forall_mem_cons.mpr ⟨ck_X12_isCompared, List.forall_mem_cons.mpr ⟨ck_X12_isAskAhead, List.forall_mem_cons.mpr ⟨ck_X12_opened, List.forall_mem_cons.mpr ⟨ck_X12_beginOne, List.forall_mem_cons.mpr ⟨ck_X12_compareOf, List.forall_mem_cons.mpr ⟨ck_X12_betweenOf, List.forall_mem_cons.mpr ⟨ck_X12_partOf, List.forall_mem_cons.mpr ⟨ck_X12_behindOne, List.forall_mem_cons.mpr ⟨ck_X12_summed, List.forall_mem_cons.mpr ⟨ck_X12_figure, fun _ h => absurd h List.not_mem_nil⟩⟩⟩⟩⟩⟩⟩⟩⟩⟩⟩⟩⟩⟩⟩⟩
  rcases List.mem_cons.mp hl with rfl | hl
  · exact List.forall_mem_cons.mpr ⟨ck_X12_lawClause, List.forall_mem_cons.mpr ⟨ck_X12_pair, List.forall_mem_cons.mpr ⟨ck_X12_body, List.forall_mem_cons.mpr ⟨ck_X12_sortOf, List.forall_mem_cons.mpr ⟨ck_X12_clause, List.forall_mem_cons.mpr ⟨ck_X12_readText, List.forall_mem_cons.mpr ⟨ck_X12_text, List.forall_mem_cons.mpr ⟨ck_X12_fault, List.forall_mem_cons.mpr ⟨ck_X12_by, List.forall_mem_cons.mpr ⟨ck_X12_clip, List.forall_mem_cons.mpr ⟨ck_X12_two, List.forall_mem_cons.mpr ⟨ck_X12_isAsked, List.forall_mem_cons.mpr ⟨ck_X12_ofOne, List.forall_mem_cons.mpr ⟨ck_X12_joined, List.forall_mem_cons.mpr ⟨ck_X12_summedUp, List.forall_mem_cons.mpr ⟨ck_X12_says, fun _ h => absurd h List.not_mem_nil⟩⟩⟩⟩⟩⟩⟩⟩⟩⟩⟩⟩⟩⟩⟩⟩
  rcases List.mem_cons.mp hl with rfl | hl
  · exact List.forall_mem_cons.mpr ⟨ck_X12_name, List.forall_mem_cons.mpr ⟨ck_X12_chanceOf, List.forall_mem_cons.mpr ⟨ck_X12_bringsOf, List.forall_mem_cons.mpr ⟨ck_X12_write, List.forall_mem_cons.mpr ⟨ck_X12_drawnBy, List.forall_mem_cons.mpr ⟨ck_X12_anew, List.forall_mem_cons.mpr ⟨ck_X12_canGrant, List.forall_mem_cons.mpr ⟨ck_X12_pass, List.forall_mem_cons.mpr ⟨ck_X12_keep, List.forall_mem_cons.mpr ⟨ck_X12_undo, List.forall_mem_cons.mpr ⟨ck_X12_thin, List.forall_mem_cons.mpr ⟨ck_X12_call, List.forall_mem_cons.mpr ⟨ck_X12_grant, List.forall_mem_cons.mpr ⟨ck_X12_arePassed, List.forall_mem_cons.mpr ⟨ck_X12_day, List.forall_mem_cons.mpr ⟨ck_X12_isPlayed, fun _ h => absurd h List.not_mem_nil⟩⟩⟩⟩⟩⟩⟩⟩⟩⟩⟩⟩⟩⟩⟩⟩
  rcases List.mem_cons.mp hl with rfl | hl
  · exact List.forall_mem_cons.mpr ⟨ck_X12_played, List.forall_mem_cons.mpr ⟨ck_X12_happens, List.forall_mem_cons.mpr ⟨ck_X12_years, List.forall_mem_cons.mpr ⟨ck_X12_of, List.forall_mem_cons.mpr ⟨ck_X12_is, List.forall_mem_cons.mpr ⟨ck_X12_things, List.forall_mem_cons.mpr ⟨ck_X12_brings, List.forall_mem_cons.mpr ⟨ck_X12_lineOf, List.forall_mem_cons.mpr ⟨ck_X12_book, List.forall_mem_cons.mpr ⟨ck_X12_ledger, List.forall_mem_cons.mpr ⟨ck_X12_eldest, List.forall_mem_cons.mpr ⟨ck_X12_due, List.forall_mem_cons.mpr ⟨ck_X12_foretold, List.forall_mem_cons.mpr ⟨ck_X12_divisor, List.forall_mem_cons.mpr ⟨ck_X12_part, List.forall_mem_cons.mpr ⟨ck_X12_noRows, fun _ h => absurd h List.not_mem_nil⟩⟩⟩⟩⟩⟩⟩⟩⟩⟩⟩⟩⟩⟩⟩⟩
  rcases List.mem_cons.mp hl with rfl | hl
  · exact List.forall_mem_cons.mpr ⟨ck_X12_oneMore, List.forall_mem_cons.mpr ⟨ck_X12_layRows, List.forall_mem_cons.mpr ⟨ck_X12_likely, List.forall_mem_cons.mpr ⟨ck_X12_mean, List.forall_mem_cons.mpr ⟨ck_X12_best, List.forall_mem_cons.mpr ⟨ck_X12_morning, List.forall_mem_cons.mpr ⟨ck_X12_isHabit, List.forall_mem_cons.mpr ⟨ck_X12_habits, List.forall_mem_cons.mpr ⟨ck_X12_firstHabit, List.forall_mem_cons.mpr ⟨ck_X12_habit, List.forall_mem_cons.mpr ⟨ck_X12_whom, List.forall_mem_cons.mpr ⟨ck_X12_rota, List.forall_mem_cons.mpr ⟨ck_X12_gather, List.forall_mem_cons.mpr ⟨ck_X12_comes, List.forall_mem_cons.mpr ⟨ck_X12_follows, List.forall_mem_cons.mpr ⟨ck_X12_afterOf, fun _ h => absurd h List.not_mem_nil⟩⟩⟩⟩⟩⟩⟩⟩⟩⟩⟩⟩⟩⟩⟩⟩
  rcases List.mem_cons.mp hl with rfl | hl
  · exact List.forall_mem_cons.mpr ⟨ck_X12_agree, List.forall_mem_cons.mpr ⟨ck_X12_ringOf, List.forall_mem_cons.mpr ⟨ck_X12_ring, List.forall_mem_cons.mpr ⟨ck_X12_till, List.forall_mem_cons.mpr ⟨ck_X12_after, List.forall_mem_cons.mpr ⟨ck_X12_areOdds, List.forall_mem_cons.mpr ⟨ck_X12_layTest, List.forall_mem_cons.mpr ⟨ck_X12_rowsFrom, List.forall_mem_cons.mpr ⟨ck_X12_test, List.forall_mem_cons.mpr ⟨ck_X12_bound, List.forall_mem_cons.mpr ⟨ck_X12_sure, List.forall_mem_cons.mpr ⟨ck_X12_votes, List.forall_mem_cons.mpr ⟨ck_X12_allVotes, List.forall_mem_cons.mpr ⟨ck_X12_isAhead, List.forall_mem_cons.mpr ⟨ck_X12_laySeats, List.forall_mem_cons.mpr ⟨ck_X12_areSeats, fun _ h => absurd h List.not_mem_nil⟩⟩⟩⟩⟩⟩⟩⟩⟩⟩⟩⟩⟩⟩⟩⟩
  rcases List.mem_cons.mp hl with rfl | hl
  · exact List.forall_mem_cons.mpr ⟨ck_X12_seats, List.forall_mem_cons.mpr ⟨ck_X12_unlike, List.forall_mem_cons.mpr ⟨ck_X12_ranks, List.forall_mem_cons.mpr ⟨ck_X12_isCause, List.forall_mem_cons.mpr ⟨ck_X12_factorial, List.forall_mem_cons.mpr ⟨ck_X12_causeAt, List.forall_mem_cons.mpr ⟨ck_X12_placeBy, List.forall_mem_cons.mpr ⟨ck_X12_doesBeat, List.forall_mem_cons.mpr ⟨ck_X12_beats, List.forall_mem_cons.mpr ⟨ck_X12_winner, List.forall_mem_cons.mpr ⟨ck_X12_points, List.forall_mem_cons.mpr ⟨ck_X12_firstVotes, List.forall_mem_cons.mpr ⟨ck_X12_runoff, List.forall_mem_cons.mpr ⟨ck_X12_layFigures, List.forall_mem_cons.mpr ⟨ck_X12_areTimes, List.forall_mem_cons.mpr ⟨ck_X12_digits, fun _ h => absurd h List.not_mem_nil⟩⟩⟩⟩⟩⟩⟩⟩⟩⟩⟩⟩⟩⟩⟩⟩
  rcases List.mem_cons.mp hl with rfl | hl
  · exact List.forall_mem_cons.mpr ⟨ck_X12_digit, List.forall_mem_cons.mpr ⟨ck_X12_isGuess, List.forall_mem_cons.mpr ⟨ck_X12_depth, List.forall_mem_cons.mpr ⟨ck_X12_rests, List.forall_mem_cons.mpr ⟨ck_X12_winAt, List.forall_mem_cons.mpr ⟨ck_X12_takeOf, List.forall_mem_cons.mpr ⟨ck_X12_layWins, List.forall_mem_cons.mpr ⟨ck_X12_game, List.forall_mem_cons.mpr ⟨ck_X12_take, List.forall_mem_cons.mpr ⟨ck_X12_told, List.forall_mem_cons.mpr ⟨ck_X12_whose, List.forall_mem_cons.mpr ⟨ck_X12_image, List.forall_mem_cons.mpr ⟨ck_X12_back, List.forall_mem_cons.mpr ⟨ck_X12_about, List.forall_mem_cons.mpr ⟨ck_J6_bitCount_0f7a4, List.forall_mem_cons.mpr ⟨ck_J7_fill_d0a16, fun _ h => absurd h List.not_mem_nil⟩⟩⟩⟩⟩⟩⟩⟩⟩⟩⟩⟩⟩⟩⟩⟩
  rcases List.mem_cons.mp hl with rfl | hl
  · exact List.forall_mem_cons.mpr ⟨ck_J7_fill_53178, List.forall_mem_cons.mpr ⟨ck_J7_copyOf_59c91, List.forall_mem_cons.mpr ⟨ck_J0_charAt_5068e, List.forall_mem_cons.mpr ⟨ck_J0_length_8abf5, List.forall_mem_cons.mpr ⟨ck_J0_indexOf_0f7a4, List.forall_mem_cons.mpr ⟨ck_J0_indexOf_7cf53, List.forall_mem_cons.mpr ⟨ck_J0_coder_7d493, List.forall_mem_cons.mpr ⟨ck_J0_isLatin1_aae02, List.forall_mem_cons.mpr ⟨ck_J1_charAt_3b067, List.forall_mem_cons.mpr ⟨ck_J1_canEncode_9a6ad, List.forall_mem_cons.mpr ⟨ck_J1_indexOf_4cfef, List.forall_mem_cons.mpr ⟨ck_J1_indexOfChar_4cfef, List.forall_mem_cons.mpr ⟨ck_J0_checkIndex_df160, List.forall_mem_cons.mpr ⟨ck_J3_checkIndex_8e157, fun _ h => absurd h List.not_mem_nil⟩⟩⟩⟩⟩⟩⟩⟩⟩⟩⟩⟩⟩⟩
  cases hl
theorem xCw_all : ∀ l ∈ xPl, ∀ M ∈ l, Jvm.Cond.code M.1 M.2.1 M.2.2.1 M.2.2.2.1 ∈ xTb := by
  intro l hl
  rcases List.mem_cons.mp hl with rfl | hl
  · exact List.forall_mem_cons.mpr ⟨cw_X0_init, List.forall_mem_cons.mpr ⟨cw_X0_copy, List.forall_mem_cons.mpr ⟨cw_X0_addBird, List.forall_mem_cons.mpr ⟨cw_X0_addText, List.forall_mem_cons.mpr ⟨cw_X0_addTold, List.forall_mem_cons.mpr ⟨cw_X0_hasBird, List.forall_mem_cons.mpr ⟨cw_X0_hasText, List.forall_mem_cons.mpr ⟨cw_X0_textAt, List.forall_mem_cons.mpr ⟨cw_X0_rulingText, List.forall_mem_cons.mpr ⟨cw_X0_isDue, List.forall_mem_cons.mpr ⟨cw_X0_dueOn, List.forall_mem_cons.mpr ⟨cw_X0_canThin, List.forall_mem_cons.mpr ⟨cw_X0_canCall, List.forall_mem_cons.mpr ⟨cw_X0_canGrant, List.forall_mem_cons.mpr ⟨cw_X0_canPass, List.forall_mem_cons.mpr ⟨cw_X1_init, fun _ h => absurd h List.not_mem_nil⟩⟩⟩⟩⟩⟩⟩⟩⟩⟩⟩⟩⟩⟩⟩⟩
  rcases List.mem_cons.mp hl with rfl | hl
  · exact List.forall_mem_cons.mpr ⟨cw_X1_chanceOf, List.forall_mem_cons.mpr ⟨cw_X1_broughtBy, List.forall_mem_cons.mpr ⟨cw_X1_run, List.forall_mem_cons.mpr ⟨cw_X1_isOfOne, List.forall_mem_cons.mpr ⟨cw_X1_isOfTwo, List.forall_mem_cons.mpr ⟨cw_X1_named, List.forall_mem_cons.mpr ⟨cw_X1_ofOne, List.forall_mem_cons.mpr ⟨cw_X1_ofTwo, List.forall_mem_cons.mpr ⟨cw_X1_isSo, List.forall_mem_cons.mpr ⟨cw_X2_init, List.forall_mem_cons.mpr ⟨cw_X2_copy, List.forall_mem_cons.mpr ⟨cw_X2_isGone, List.forall_mem_cons.mpr ⟨cw_X2_markGone, List.forall_mem_cons.mpr ⟨cw_X2_markBack, List.forall_mem_cons.mpr ⟨cw_X2_noteCame, List.forall_mem_cons.mpr ⟨cw_X2_draw, fun _ h => absurd h List.not_mem_nil⟩⟩⟩⟩⟩⟩⟩⟩⟩⟩⟩⟩⟩⟩⟩⟩
  rcases List.mem_cons.mp hl with rfl | hl
  · exact List.forall_mem_cons.mpr ⟨cw_X2_write, List.forall_mem_cons.mpr ⟨cw_X2_onPage, List.forall_mem_cons.mpr ⟨cw_X2_countWritten, List.forall_mem_cons.mpr ⟨cw_X3_init, List.forall_mem_cons.mpr ⟨cw_X3_copy, List.forall_mem_cons.mpr ⟨cw_X3_add, List.forall_mem_cons.mpr ⟨cw_X3_fits, List.forall_mem_cons.mpr ⟨cw_X3_countFitting, List.forall_mem_cons.mpr ⟨cw_X3_leastPeriod, List.forall_mem_cons.mpr ⟨cw_X3_leastPhase, List.forall_mem_cons.mpr ⟨cw_X3_nextDay, List.forall_mem_cons.mpr ⟨cw_X4_init, List.forall_mem_cons.mpr ⟨cw_X4_copy, List.forall_mem_cons.mpr ⟨cw_X4_allVotes, List.forall_mem_cons.mpr ⟨cw_X4_seatsByShares, List.forall_mem_cons.mpr ⟨cw_X4_seatsByRests, fun _ h => absurd h List.not_mem_nil⟩⟩⟩⟩⟩⟩⟩⟩⟩⟩⟩⟩⟩⟩⟩⟩
  rcases List.mem_cons.mp hl with rfl | hl
  · exact List.forall_mem_cons.mpr ⟨cw_X4_differing, List.forall_mem_cons.mpr ⟨cw_X4_causeAt, List.forall_mem_cons.mpr ⟨cw_X4_placeOf, List.forall_mem_cons.mpr ⟨cw_X4_isAhead, List.forall_mem_cons.mpr ⟨cw_X4_aheadOfAll, List.forall_mem_cons.mpr ⟨cw_X4_pointsFor, List.forall_mem_cons.mpr ⟨cw_X4_lastLeft, List.forall_mem_cons.mpr ⟨cw_X4_weakest, List.forall_mem_cons.mpr ⟨cw_X4_firstVotes, List.forall_mem_cons.mpr ⟨cw_X5_init, List.forall_mem_cons.mpr ⟨cw_X5_readTape, List.forall_mem_cons.mpr ⟨cw_X5_kind, List.forall_mem_cons.mpr ⟨cw_X5_fail, List.forall_mem_cons.mpr ⟨cw_X5_expect, List.forall_mem_cons.mpr ⟨cw_X5_readNumber, List.forall_mem_cons.mpr ⟨cw_X5_readClause, fun _ h => absurd h List.not_mem_nil⟩⟩⟩⟩⟩⟩⟩⟩⟩⟩⟩⟩⟩⟩⟩⟩
  rcases List.mem_cons.mp hl with rfl | hl
  · exact List.forall_mem_cons.mpr ⟨cw_X5_isVerb, List.forall_mem_cons.mpr ⟨cw_X5_readNumbers, List.forall_mem_cons.mpr ⟨cw_X5_readLaw, List.forall_mem_cons.mpr ⟨cw_X5_emit, List.forall_mem_cons.mpr ⟨cw_X5_readSum, List.forall_mem_cons.mpr ⟨cw_X5_readProduct, List.forall_mem_cons.mpr ⟨cw_X5_readOne, List.forall_mem_cons.mpr ⟨cw_X5_opensOne, List.forall_mem_cons.mpr ⟨cw_X5_readName, List.forall_mem_cons.mpr ⟨cw_X5_readOpened, List.forall_mem_cons.mpr ⟨cw_X5_readChoice, List.forall_mem_cons.mpr ⟨cw_X5_aim, List.forall_mem_cons.mpr ⟨cw_X5_readEither, List.forall_mem_cons.mpr ⟨cw_X5_readBoth, List.forall_mem_cons.mpr ⟨cw_X5_readAsk, List.forall_mem_cons.mpr ⟨cw_X5_readCompared, fun _ h => absurd h List.not_mem_nil⟩⟩⟩⟩⟩⟩⟩⟩⟩⟩⟩⟩⟩⟩⟩⟩
  rcases List.mem_cons.mp hl with rfl | hl
  · exact List.forall_mem_cons.mpr ⟨cw_X6_init, List.forall_mem_cons.mpr ⟨cw_X6_copy, List.forall_mem_cons.mpr ⟨cw_X6_selfFollowing, List.forall_mem_cons.mpr ⟨cw_X6_sizeAt, List.forall_mem_cons.mpr ⟨cw_X6_smallest, List.forall_mem_cons.mpr ⟨cw_X6_stepsToRing, List.forall_mem_cons.mpr ⟨cw_X6_behind, List.forall_mem_cons.mpr ⟨cw_X6_walked, List.forall_mem_cons.mpr ⟨cw_X7_init, List.forall_mem_cons.mpr ⟨cw_X7_begin, List.forall_mem_cons.mpr ⟨cw_X7_addOne, List.forall_mem_cons.mpr ⟨cw_X7_ofTrials, List.forall_mem_cons.mpr ⟨cw_X7_just, List.forall_mem_cons.mpr ⟨cw_X7_orMore, List.forall_mem_cons.mpr ⟨cw_X8_init, List.forall_mem_cons.mpr ⟨cw_X8_copy, fun _ h => absurd h List.not_mem_nil⟩⟩⟩⟩⟩⟩⟩⟩⟩⟩⟩⟩⟩⟩⟩⟩
  rcases List.mem_cons.mp hl with rfl | hl
  · exact List.forall_mem_cons.mpr ⟨cw_X8_keep, List.forall_mem_cons.mpr ⟨cw_X8_takeBack, List.forall_mem_cons.mpr ⟨cw_X9_init, List.forall_mem_cons.mpr ⟨cw_X9_add, List.forall_mem_cons.mpr ⟨cw_X9_scan, List.forall_mem_cons.mpr ⟨cw_X9_put, List.forall_mem_cons.mpr ⟨cw_X9_scanToken, List.forall_mem_cons.mpr ⟨cw_X9_scanWord, List.forall_mem_cons.mpr ⟨cw_X9_scanNumber, List.forall_mem_cons.mpr ⟨cw_X9_scanSign, List.forall_mem_cons.mpr ⟨cw_X9_kindOfWord, List.forall_mem_cons.mpr ⟨cw_X9_isLetter, List.forall_mem_cons.mpr ⟨cw_X9_isDigit, List.forall_mem_cons.mpr ⟨cw_X10_init, List.forall_mem_cons.mpr ⟨cw_X11_init, List.forall_mem_cons.mpr ⟨cw_X11_bird, fun _ h => absurd h List.not_mem_nil⟩⟩⟩⟩⟩⟩⟩⟩⟩⟩⟩⟩⟩⟩⟩⟩
  rcases List.mem_cons.mp hl with rfl | hl
  · exact List.forall_mem_cons.mpr ⟨cw_X11_rhyme, List.forall_mem_cons.mpr ⟨cw_X11_feed, List.forall_mem_cons.mpr ⟨cw_X11_end, List.forall_mem_cons.mpr ⟨cw_X11_text, List.forall_mem_cons.mpr ⟨cw_X11_fault, List.forall_mem_cons.mpr ⟨cw_X11_by, List.forall_mem_cons.mpr ⟨cw_X11_thin, List.forall_mem_cons.mpr ⟨cw_X11_call, List.forall_mem_cons.mpr ⟨cw_X11_grant, List.forall_mem_cons.mpr ⟨cw_X11_day, List.forall_mem_cons.mpr ⟨cw_X11_played, List.forall_mem_cons.mpr ⟨cw_X11_years, List.forall_mem_cons.mpr ⟨cw_X11_undo, List.forall_mem_cons.mpr ⟨cw_X11_of, List.forall_mem_cons.mpr ⟨cw_X11_is, List.forall_mem_cons.mpr ⟨cw_X11_things, fun _ h => absurd h List.not_mem_nil⟩⟩⟩⟩⟩⟩⟩⟩⟩⟩⟩⟩⟩⟩⟩⟩
  rcases List.mem_cons.mp hl with rfl | hl
  · exact List.forall_mem_cons.mpr ⟨cw_X11_brings, List.forall_mem_cons.mpr ⟨cw_X11_book, List.forall_mem_cons.mpr ⟨cw_X11_foretold, List.forall_mem_cons.mpr ⟨cw_X11_likely, List.forall_mem_cons.mpr ⟨cw_X11_mean, List.forall_mem_cons.mpr ⟨cw_X11_best, List.forall_mem_cons.mpr ⟨cw_X11_morning, List.forall_mem_cons.mpr ⟨cw_X11_habits, List.forall_mem_cons.mpr ⟨cw_X11_habit, List.forall_mem_cons.mpr ⟨cw_X11_whom, List.forall_mem_cons.mpr ⟨cw_X11_rota, List.forall_mem_cons.mpr ⟨cw_X11_gather, List.forall_mem_cons.mpr ⟨cw_X11_comes, List.forall_mem_cons.mpr ⟨cw_X11_follows, List.forall_mem_cons.mpr ⟨cw_X11_agree, List.forall_mem_cons.mpr ⟨cw_X11_ring, fun _ h => absurd h List.not_mem_nil⟩⟩⟩⟩⟩⟩⟩⟩⟩⟩⟩⟩⟩⟩⟩⟩
  rcases List.mem_cons.mp hl with rfl | hl
  · exact List.forall_mem_cons.mpr ⟨cw_X11_till, List.forall_mem_cons.mpr ⟨cw_X11_after, List.forall_mem_cons.mpr ⟨cw_X11_test, List.forall_mem_cons.mpr ⟨cw_X11_bound, List.forall_mem_cons.mpr ⟨cw_X11_sure, List.forall_mem_cons.mpr ⟨cw_X11_votes, List.forall_mem_cons.mpr ⟨cw_X11_seats, List.forall_mem_cons.mpr ⟨cw_X11_unlike, List.forall_mem_cons.mpr ⟨cw_X11_ranks, List.forall_mem_cons.mpr ⟨cw_X11_beats, List.forall_mem_cons.mpr ⟨cw_X11_winner, List.forall_mem_cons.mpr ⟨cw_X11_points, List.forall_mem_cons.mpr ⟨cw_X11_runoff, List.forall_mem_cons.mpr ⟨cw_X11_digits, List.forall_mem_cons.mpr ⟨cw_X11_digit, List.forall_mem_cons.mpr ⟨cw_X11_depth, fun _ h => absurd h List.not_mem_nil⟩⟩⟩⟩⟩⟩⟩⟩⟩⟩⟩⟩⟩⟩⟩⟩
  rcases List.mem_cons.mp hl with rfl | hl
  · exact List.forall_mem_cons.mpr ⟨cw_X11_rests, List.forall_mem_cons.mpr ⟨cw_X11_game, List.forall_mem_cons.mpr ⟨cw_X11_take, List.forall_mem_cons.mpr ⟨cw_X11_told, List.forall_mem_cons.mpr ⟨cw_X11_whose, List.forall_mem_cons.mpr ⟨cw_X11_eldest, List.forall_mem_cons.mpr ⟨cw_X11_due, List.forall_mem_cons.mpr ⟨cw_X11_ledger, List.forall_mem_cons.mpr ⟨cw_X11_image, List.forall_mem_cons.mpr ⟨cw_X11_back, List.forall_mem_cons.mpr ⟨cw_X11_about, List.forall_mem_cons.mpr ⟨cw_X11_passSteps, List.forall_mem_cons.mpr ⟨cw_X11_passDay, List.forall_mem_cons.mpr ⟨cw_X11_playClause, List.forall_mem_cons.mpr ⟨cw_X11_drawYear, List.forall_mem_cons.mpr ⟨cw_X11_noteChances, fun _ h => absurd h List.not_mem_nil⟩⟩⟩⟩⟩⟩⟩⟩⟩⟩⟩⟩⟩⟩⟩⟩
  rcases List.mem_cons.mp hl with rfl | hl
  · exact List.forall_mem_cons.mpr ⟨cw_X11_spreadOver, List.forall_mem_cons.mpr ⟨cw_X11_bestThinned, List.forall_mem_cons.mpr ⟨cw_X11_canCome, List.forall_mem_cons.mpr ⟨cw_X11_leastBound, List.forall_mem_cons.mpr ⟨cw_X11_bringsAllTold, List.forall_mem_cons.mpr ⟨cw_X11_raise, List.forall_mem_cons.mpr ⟨cw_X11_multiply, List.forall_mem_cons.mpr ⟨cw_X11_deeper, List.forall_mem_cons.mpr ⟨cw_X11_leastPart, List.forall_mem_cons.mpr ⟨cw_X11_firstOfHabit, List.forall_mem_cons.mpr ⟨cw_X11_leastCommon, List.forall_mem_cons.mpr ⟨cw_X11_greatestCommon, List.forall_mem_cons.mpr ⟨cw_X11_lowest, List.forall_mem_cons.mpr ⟨cw_X11_within, List.forall_mem_cons.mpr ⟨cw_X11_held, List.forall_mem_cons.mpr ⟨cw_X11_isCount, fun _ h => absurd h List.not_mem_nil⟩⟩⟩⟩⟩⟩⟩⟩⟩⟩⟩⟩⟩⟩⟩⟩
  rcases List.mem_cons.mp hl with rfl | hl
  · exact List.forall_mem_cons.mpr ⟨cw_X11_isParish, List.forall_mem_cons.mpr ⟨cw_X11_isCause, List.forall_mem_cons.mpr ⟨cw_X11_isIn, List.forall_mem_cons.mpr ⟨cw_X12_init, List.forall_mem_cons.mpr ⟨cw_X12_copy, List.forall_mem_cons.mpr ⟨cw_X12_isIn, List.forall_mem_cons.mpr ⟨cw_X12_held, List.forall_mem_cons.mpr ⟨cw_X12_has, List.forall_mem_cons.mpr ⟨cw_X12_bits, List.forall_mem_cons.mpr ⟨cw_X12_isBird, List.forall_mem_cons.mpr ⟨cw_X12_isCount, List.forall_mem_cons.mpr ⟨cw_X12_isGone, List.forall_mem_cons.mpr ⟨cw_X12_isDue, List.forall_mem_cons.mpr ⟨cw_X12_dueBy, List.forall_mem_cons.mpr ⟨cw_X12_dueNow, List.forall_mem_cons.mpr ⟨cw_X12_bird, fun _ h => absurd h List.not_mem_nil⟩⟩⟩⟩⟩⟩⟩⟩⟩⟩⟩⟩⟩⟩⟩⟩
  rcases List.mem_cons.mp hl with rfl | hl
  · exact List.forall_mem_cons.mpr ⟨cw_X12_rhyme, List.forall_mem_cons.mpr ⟨cw_X12_four, List.forall_mem_cons.mpr ⟨cw_X12_feed, List.forall_mem_cons.mpr ⟨cw_X12_end, List.forall_mem_cons.mpr ⟨cw_X12_byteAt, List.forall_mem_cons.mpr ⟨cw_X12_isLetterByte, List.forall_mem_cons.mpr ⟨cw_X12_isFigure, List.forall_mem_cons.mpr ⟨cw_X12_isSign, List.forall_mem_cons.mpr ⟨cw_X12_nextToken, List.forall_mem_cons.mpr ⟨cw_X12_w2, List.forall_mem_cons.mpr ⟨cw_X12_w3, List.forall_mem_cons.mpr ⟨cw_X12_w4, List.forall_mem_cons.mpr ⟨cw_X12_w5, List.forall_mem_cons.mpr ⟨cw_X12_w6, List.forall_mem_cons.mpr ⟨cw_X12_isWord, List.forall_mem_cons.mpr ⟨cw_X12_emit, fun _ h => absurd h List.not_mem_nil⟩⟩⟩⟩⟩⟩⟩⟩⟩⟩⟩⟩⟩⟩⟩⟩
  rcases List.mem_cons.mp hl with rfl | hl
  · exact List.forall_mem_cons.mpr ⟨cw_X12_nameOf, List.forall_mem_cons.mpr ⟨cw_X12_isOf, List.forall_mem_cons.mpr ⟨cw_X12_rank, List.forall_mem_cons.mpr ⟨cw_X12_settle, List.forall_mem_cons.mpr ⟨cw_X12_openAt, List.forall_mem_cons.mpr ⟨cw_X12_openNow, List.forall_mem_cons.mpr ⟨cw_X12_isCompared, List.forall_mem_cons.mpr ⟨cw_X12_isAskAhead, List.forall_mem_cons.mpr ⟨cw_X12_opened, List.forall_mem_cons.mpr ⟨cw_X12_beginOne, List.forall_mem_cons.mpr ⟨cw_X12_compareOf, List.forall_mem_cons.mpr ⟨cw_X12_betweenOf, List.forall_mem_cons.mpr ⟨cw_X12_partOf, List.forall_mem_cons.mpr ⟨cw_X12_behindOne, List.forall_mem_cons.mpr ⟨cw_X12_summed, List.forall_mem_cons.mpr ⟨cw_X12_figure, fun _ h => absurd h List.not_mem_nil⟩⟩⟩⟩⟩⟩⟩⟩⟩⟩⟩⟩⟩⟩⟩⟩
  rcases List.mem_cons.mp hl with rfl | hl
  · exact List.forall_mem_cons.mpr ⟨cw_X12_lawClause, List.forall_mem_cons.mpr ⟨cw_X12_pair, List.forall_mem_cons.mpr ⟨cw_X12_body, List.forall_mem_cons.mpr ⟨cw_X12_sortOf, List.forall_mem_cons.mpr ⟨cw_X12_clause, List.forall_mem_cons.mpr ⟨cw_X12_readText, List.forall_mem_cons.mpr ⟨cw_X12_text, List.forall_mem_cons.mpr ⟨cw_X12_fault, List.forall_mem_cons.mpr ⟨cw_X12_by, List.forall_mem_cons.mpr ⟨cw_X12_clip, List.forall_mem_cons.mpr ⟨cw_X12_two, List.forall_mem_cons.mpr ⟨cw_X12_isAsked, List.forall_mem_cons.mpr ⟨cw_X12_ofOne, List.forall_mem_cons.mpr ⟨cw_X12_joined, List.forall_mem_cons.mpr ⟨cw_X12_summedUp, List.forall_mem_cons.mpr ⟨cw_X12_says, fun _ h => absurd h List.not_mem_nil⟩⟩⟩⟩⟩⟩⟩⟩⟩⟩⟩⟩⟩⟩⟩⟩
  rcases List.mem_cons.mp hl with rfl | hl
  · exact List.forall_mem_cons.mpr ⟨cw_X12_name, List.forall_mem_cons.mpr ⟨cw_X12_chanceOf, List.forall_mem_cons.mpr ⟨cw_X12_bringsOf, List.forall_mem_cons.mpr ⟨cw_X12_write, List.forall_mem_cons.mpr ⟨cw_X12_drawnBy, List.forall_mem_cons.mpr ⟨cw_X12_anew, List.forall_mem_cons.mpr ⟨cw_X12_canGrant, List.forall_mem_cons.mpr ⟨cw_X12_pass, List.forall_mem_cons.mpr ⟨cw_X12_keep, List.forall_mem_cons.mpr ⟨cw_X12_undo, List.forall_mem_cons.mpr ⟨cw_X12_thin, List.forall_mem_cons.mpr ⟨cw_X12_call, List.forall_mem_cons.mpr ⟨cw_X12_grant, List.forall_mem_cons.mpr ⟨cw_X12_arePassed, List.forall_mem_cons.mpr ⟨cw_X12_day, List.forall_mem_cons.mpr ⟨cw_X12_isPlayed, fun _ h => absurd h List.not_mem_nil⟩⟩⟩⟩⟩⟩⟩⟩⟩⟩⟩⟩⟩⟩⟩⟩
  rcases List.mem_cons.mp hl with rfl | hl
  · exact List.forall_mem_cons.mpr ⟨cw_X12_played, List.forall_mem_cons.mpr ⟨cw_X12_happens, List.forall_mem_cons.mpr ⟨cw_X12_years, List.forall_mem_cons.mpr ⟨cw_X12_of, List.forall_mem_cons.mpr ⟨cw_X12_is, List.forall_mem_cons.mpr ⟨cw_X12_things, List.forall_mem_cons.mpr ⟨cw_X12_brings, List.forall_mem_cons.mpr ⟨cw_X12_lineOf, List.forall_mem_cons.mpr ⟨cw_X12_book, List.forall_mem_cons.mpr ⟨cw_X12_ledger, List.forall_mem_cons.mpr ⟨cw_X12_eldest, List.forall_mem_cons.mpr ⟨cw_X12_due, List.forall_mem_cons.mpr ⟨cw_X12_foretold, List.forall_mem_cons.mpr ⟨cw_X12_divisor, List.forall_mem_cons.mpr ⟨cw_X12_part, List.forall_mem_cons.mpr ⟨cw_X12_noRows, fun _ h => absurd h List.not_mem_nil⟩⟩⟩⟩⟩⟩⟩⟩⟩⟩⟩⟩⟩⟩⟩⟩
  rcases List.mem_cons.mp hl with rfl | hl
  · exact List.forall_mem_cons.mpr ⟨cw_X12_oneMore, List.forall_mem_cons.mpr ⟨cw_X12_layRows, List.forall_mem_cons.mpr ⟨cw_X12_likely, List.forall_mem_cons.mpr ⟨cw_X12_mean, List.forall_mem_cons.mpr ⟨cw_X12_best, List.forall_mem_cons.mpr ⟨cw_X12_morning, List.forall_mem_cons.mpr ⟨cw_X12_isHabit, List.forall_mem_cons.mpr ⟨cw_X12_habits, List.forall_mem_cons.mpr ⟨cw_X12_firstHabit, List.forall_mem_cons.mpr ⟨cw_X12_habit, List.forall_mem_cons.mpr ⟨cw_X12_whom, List.forall_mem_cons.mpr ⟨cw_X12_rota, List.forall_mem_cons.mpr ⟨cw_X12_gather, List.forall_mem_cons.mpr ⟨cw_X12_comes, List.forall_mem_cons.mpr ⟨cw_X12_follows, List.forall_mem_cons.mpr ⟨cw_X12_afterOf, fun _ h => absurd h List.not_mem_nil⟩⟩⟩⟩⟩⟩⟩⟩⟩⟩⟩⟩⟩⟩⟩⟩
  rcases List.mem_cons.mp hl with rfl | hl
  · exact List.forall_mem_cons.mpr ⟨cw_X12_agree, List.forall_mem_cons.mpr ⟨cw_X12_ringOf, List.forall_mem_cons.mpr ⟨cw_X12_ring, List.forall_mem_cons.mpr ⟨cw_X12_till, List.forall_mem_cons.mpr ⟨cw_X12_after, List.forall_mem_cons.mpr ⟨cw_X12_areOdds, List.forall_mem_cons.mpr ⟨cw_X12_layTest, List.forall_mem_cons.mpr ⟨cw_X12_rowsFrom, List.forall_mem_cons.mpr ⟨cw_X12_test, List.forall_mem_cons.mpr ⟨cw_X12_bound, List.forall_mem_cons.mpr ⟨cw_X12_sure, List.forall_mem_cons.mpr ⟨cw_X12_votes, List.forall_mem_cons.mpr ⟨cw_X12_allVotes, List.forall_mem_cons.mpr ⟨cw_X12_isAhead, List.forall_mem_cons.mpr ⟨cw_X12_laySeats, List.forall_mem_cons.mpr ⟨cw_X12_areSeats, fun _ h => absurd h List.not_mem_nil⟩⟩⟩⟩⟩⟩⟩⟩⟩⟩⟩⟩⟩⟩⟩⟩
  rcases List.mem_cons.mp hl with rfl | hl
  · exact List.forall_mem_cons.mpr ⟨cw_X12_seats, List.forall_mem_cons.mpr ⟨cw_X12_unlike, List.forall_mem_cons.mpr ⟨cw_X12_ranks, List.forall_mem_cons.mpr ⟨cw_X12_isCause, List.forall_mem_cons.mpr ⟨cw_X12_factorial, List.forall_mem_cons.mpr ⟨cw_X12_causeAt, List.forall_mem_cons.mpr ⟨cw_X12_placeBy, List.forall_mem_cons.mpr ⟨cw_X12_doesBeat, List.forall_mem_cons.mpr ⟨cw_X12_beats, List.forall_mem_cons.mpr ⟨cw_X12_winner, List.forall_mem_cons.mpr ⟨cw_X12_points, List.forall_mem_cons.mpr ⟨cw_X12_firstVotes, List.forall_mem_cons.mpr ⟨cw_X12_runoff, List.forall_mem_cons.mpr ⟨cw_X12_layFigures, List.forall_mem_cons.mpr ⟨cw_X12_areTimes, List.forall_mem_cons.mpr ⟨cw_X12_digits, fun _ h => absurd h List.not_mem_nil⟩⟩⟩⟩⟩⟩⟩⟩⟩⟩⟩⟩⟩⟩⟩⟩
  rcases List.mem_cons.mp hl with rfl | hl
  · exact List.forall_mem_cons.mpr ⟨cw_X12_digit, List.forall_mem_cons.mpr ⟨cw_X12_isGuess, List.forall_mem_cons.mpr ⟨cw_X12_depth, List.forall_mem_cons.mpr ⟨cw_X12_rests, List.forall_mem_cons.mpr ⟨cw_X12_winAt, List.forall_mem_cons.mpr ⟨cw_X12_takeOf, List.forall_mem_cons.mpr ⟨cw_X12_layWins, List.forall_mem_cons.mpr ⟨cw_X12_game, List.forall_mem_cons.mpr ⟨cw_X12_take, List.forall_mem_cons.mpr ⟨cw_X12_told, List.forall_mem_cons.mpr ⟨cw_X12_whose, List.forall_mem_cons.mpr ⟨cw_X12_image, List.forall_mem_cons.mpr ⟨cw_X12_back, List.forall_mem_cons.mpr ⟨cw_X12_about, List.forall_mem_cons.mpr ⟨cw_J6_bitCount_0f7a4, List.forall_mem_cons.mpr ⟨cw_J7_fill_d0a16, fun _ h => absurd h List.not_mem_nil⟩⟩⟩⟩⟩⟩⟩⟩⟩⟩⟩⟩⟩⟩⟩⟩
  rcases List.mem_cons.mp hl with rfl | hl
  · exact List.forall_mem_cons.mpr ⟨cw_J7_fill_53178, List.forall_mem_cons.mpr ⟨cw_J7_copyOf_59c91, List.forall_mem_cons.mpr ⟨cw_J0_charAt_5068e, List.forall_mem_cons.mpr ⟨cw_J0_length_8abf5, List.forall_mem_cons.mpr ⟨cw_J0_indexOf_0f7a4, List.forall_mem_cons.mpr ⟨cw_J0_indexOf_7cf53, List.forall_mem_cons.mpr ⟨cw_J0_coder_7d493, List.forall_mem_cons.mpr ⟨cw_J0_isLatin1_aae02, List.forall_mem_cons.mpr ⟨cw_J1_charAt_3b067, List.forall_mem_cons.mpr ⟨cw_J1_canEncode_9a6ad, List.forall_mem_cons.mpr ⟨cw_J1_indexOf_4cfef, List.forall_mem_cons.mpr ⟨cw_J1_indexOfChar_4cfef, List.forall_mem_cons.mpr ⟨cw_J0_checkIndex_df160, List.forall_mem_cons.mpr ⟨cw_J3_checkIndex_8e157, fun _ h => absurd h List.not_mem_nil⟩⟩⟩⟩⟩⟩⟩⟩⟩⟩⟩⟩⟩⟩
  cases hl
theorem xP_mem {j : Nat} {M : xMeth} (h : xP j = some M) : ∃ l ∈ xPl, M ∈ l := by
  unfold xP at h
  split at h
  · cases h
  · rename_i l hl
    exact ⟨l, List.mem_of_getElem? hl, List.mem_of_getElem? h⟩
theorem xP_ok : ∀ j M, xP j = some M → M.2.2.2.2 ≠ [] → xChkM xP M = true := by
  intro j M h hne
  obtain ⟨l, h1, h2⟩ := xP_mem h
  have h3 := xOk_all l h1 M h2
  unfold xOkM at h3
  rcases Bool.or_eq_true_iff.mp h3 with h4 | h4
  · exact absurd (List.isEmpty_iff.mp h4) hne
  · exact h4
theorem xP_cw : ∀ j M, xP j = some M → Jvm.Cond.code M.1 M.2.1 M.2.2.1 M.2.2.2.1 ∈ xTb := by
  intro j M h
  obtain ⟨l, h1, h2⟩ := xP_mem h
  exact xCw_all l h1 M h2
theorem ck_law : ∀ l ∈ kL_law, ∀ q ∈ l, (xChk RL "law" cL_law 4 q.1 q.2 && xChkC xP RL q.2) = true := List.forall_mem_cons.mpr ⟨ckL_0, List.forall_mem_cons.mpr ⟨ckL_1, List.forall_mem_cons.mpr ⟨ckL_2, List.forall_mem_cons.mpr ⟨ckL_3, List.forall_mem_cons.mpr ⟨ckL_4, List.forall_mem_cons.mpr ⟨ckL_5, List.forall_mem_cons.mpr ⟨ckL_6, List.forall_mem_cons.mpr ⟨ckL_7, List.forall_mem_cons.mpr ⟨ckL_8, List.forall_mem_cons.mpr ⟨ckL_9, List.forall_mem_cons.mpr ⟨ckL_10, List.forall_mem_cons.mpr ⟨ckL_11, List.forall_mem_cons.mpr ⟨ckL_12, List.forall_mem_cons.mpr ⟨ckL_13, List.forall_mem_cons.mpr ⟨ckL_14, List.forall_mem_cons.mpr ⟨ckL_15, List.forall_mem_cons.mpr ⟨ckL_16, List.forall_mem_cons.mpr ⟨ckL_17, List.forall_mem_cons.mpr ⟨ckL_18, List.forall_mem_cons.mpr ⟨ckL_19, List.forall_mem_cons.mpr ⟨ckL_20, List.forall_mem_cons.mpr ⟨ckL_21, List.forall_mem_cons.mpr ⟨ckL_22, List.forall_mem_cons.mpr ⟨ckL_23, List.forall_mem_cons.mpr ⟨ckL_24, List.forall_mem_cons.mpr ⟨ckL_25, List.forall_mem_cons.mpr ⟨ckL_26, List.forall_mem_cons.mpr ⟨ckL_27, List.forall_mem_cons.mpr ⟨ckL_28, List.forall_mem_cons.mpr ⟨ckL_29, List.forall_mem_cons.mpr ⟨ckL_30, List.forall_mem_cons.mpr ⟨ckL_31, List.forall_mem_cons.mpr ⟨ckL_32, List.forall_mem_cons.mpr ⟨ckL_33, List.forall_mem_cons.mpr ⟨ckL_34, List.forall_mem_cons.mpr ⟨ckL_35, List.forall_mem_cons.mpr ⟨ckL_36, List.forall_mem_cons.mpr ⟨ckL_37, List.forall_mem_cons.mpr ⟨ckL_38, List.forall_mem_cons.mpr ⟨ckL_39, List.forall_mem_cons.mpr ⟨ckL_40, List.forall_mem_cons.mpr ⟨ckL_41, List.forall_mem_cons.mpr ⟨ckL_42, List.forall_mem_cons.mpr ⟨ckL_43, List.forall_mem_cons.mpr ⟨ckL_44, List.forall_mem_cons.mpr ⟨ckL_45, List.forall_mem_cons.mpr ⟨ckL_46, List.forall_mem_cons.mpr ⟨ckL_47, List.forall_mem_cons.mpr ⟨ckL_48, List.forall_mem_cons.mpr ⟨ckL_49, List.forall_mem_cons.mpr ⟨ckL_50, List.forall_mem_cons.mpr ⟨ckL_51, List.forall_mem_cons.mpr ⟨ckL_52, List.forall_mem_cons.mpr ⟨ckL_53, List.forall_mem_cons.mpr ⟨ckL_54, List.forall_mem_cons.mpr ⟨ckL_55, List.forall_mem_cons.mpr ⟨ckL_56, List.forall_mem_cons.mpr ⟨ckL_57, List.forall_mem_cons.mpr ⟨ckL_58, List.forall_mem_cons.mpr ⟨ckL_59, List.forall_mem_cons.mpr ⟨ckL_60, List.forall_mem_cons.mpr ⟨ckL_61, List.forall_mem_cons.mpr ⟨ckL_62, List.forall_mem_cons.mpr ⟨ckL_63, fun _ h => absurd h List.not_mem_nil⟩⟩⟩⟩⟩⟩⟩⟩⟩⟩⟩⟩⟩⟩⟩⟩⟩⟩⟩⟩⟩⟩⟩⟩⟩⟩⟩⟩⟩⟩⟩⟩⟩⟩⟩⟩⟩⟩⟩⟩⟩⟩⟩⟩⟩⟩⟩⟩⟩⟩⟩⟩⟩⟩⟩⟩⟩⟩⟩⟩⟩⟩⟩⟩
