/-- the good words: they go along with every call -/
def lw_gd : List Cond := lw_tbl.filter goodWord
theorem gd_t {w : Cond} {i : Nat} (h : tables_1[i]? = some w) (hg : goodWord w = true) : w ∈ lw_gd := List.mem_filter.mpr ⟨List.mem_append_right _ (List.mem_of_getElem? h), hg⟩
theorem gd_p {w : Cond} {i : Nat} (h : (k2_sels lw_privs)[i]? = some w) (hg : goodWord w = true) : w ∈ lw_gd := List.mem_filter.mpr ⟨List.mem_append_left _ (List.mem_of_getElem? h), hg⟩
theorem gd_u {w : Cond} {i : Nat} (h : tables_1[i]? = some w) : w ∈ lw_tbl := List.mem_append_right _ (List.mem_of_getElem? h)
theorem wv_X5_setAsAtFirst : Cond.selects yX5_setAsAtFirst.cls yX5_setAsAtFirst yX5_setAsAtFirst ∈ lw_gd := gd_p (i := 0) (by decide +kernel) rfl
theorem wv_X6_startAnew : Cond.selects yX6_startAnew.cls yX6_startAnew yX6_startAnew ∈ lw_gd := gd_p (i := 1) (by decide +kernel) rfl
theorem wv_X6_forgetPast : Cond.selects yX6_forgetPast.cls yX6_forgetPast yX6_forgetPast ∈ lw_gd := gd_p (i := 2) (by decide +kernel) rfl
theorem wv_X4_letterAt : Cond.selects yX4_letterAt.cls yX4_letterAt yX4_letterAt ∈ lw_gd := gd_p (i := 3) (by decide +kernel) rfl
theorem wv_X4_isDigit : Cond.selects yX4_isDigit.cls yX4_isDigit yX4_isDigit ∈ lw_gd := gd_p (i := 4) (by decide +kernel) rfl
theorem wv_X4_readNumber : Cond.selects yX4_readNumber.cls yX4_readNumber yX4_readNumber ∈ lw_gd := gd_p (i := 5) (by decide +kernel) rfl
theorem wv_X5_readItem : Cond.selects yX5_readItem.cls yX5_readItem yX5_readItem ∈ lw_gd := gd_p (i := 6) (by decide +kernel) rfl
theorem wv_X5_take : Cond.selects yX5_take.cls yX5_take yX5_take ∈ lw_gd := gd_p (i := 7) (by decide +kernel) rfl
theorem wv_X6_isPart : Cond.selects yX6_isPart.cls yX6_isPart yX6_isPart ∈ lw_gd := gd_p (i := 8) (by decide +kernel) rfl
theorem wv_X6_giftOf : Cond.selects yX6_giftOf.cls yX6_giftOf yX6_giftOf ∈ lw_gd := gd_p (i := 9) (by decide +kernel) rfl
theorem wv_X6_isOrder : Cond.selects yX6_isOrder.cls yX6_isOrder yX6_isOrder ∈ lw_gd := gd_p (i := 10) (by decide +kernel) rfl
theorem wv_X6_remember : Cond.selects yX6_remember.cls yX6_remember yX6_remember ∈ lw_gd := gd_p (i := 11) (by decide +kernel) rfl
theorem wv_X3_placeAt : Cond.selects yX3_placeAt.cls yX3_placeAt yX3_placeAt ∈ lw_gd := gd_p (i := 12) (by decide +kernel) rfl
theorem wv_X6_isLate : Cond.selects yX6_isLate.cls yX6_isLate yX6_isLate ∈ lw_gd := gd_p (i := 13) (by decide +kernel) rfl
theorem wv_X0_shorten : Cond.selects yX0_shorten.cls yX0_shorten yX0_shorten ∈ lw_gd := gd_p (i := 14) (by decide +kernel) rfl
theorem wv_X6_bestTurn : Cond.selects yX6_bestTurn.cls yX6_bestTurn yX6_bestTurn ∈ lw_gd := gd_p (i := 15) (by decide +kernel) rfl
theorem wv_X2_gotIn : Cond.selects yX2_gotIn.cls yX2_gotIn yX2_gotIn ∈ lw_gd := gd_p (i := 16) (by decide +kernel) rfl
theorem wv_X2_compare : Cond.selects yX2_compare.cls yX2_compare yX2_compare ∈ lw_gd := gd_p (i := 17) (by decide +kernel) rfl
theorem wv_X2_goToNextRow : Cond.selects yX2_goToNextRow.cls yX2_goToNextRow yX2_goToNextRow ∈ lw_gd := gd_p (i := 18) (by decide +kernel) rfl
theorem wv_X6_coinsOf : Cond.selects yX6_coinsOf.cls yX6_coinsOf yX6_coinsOf ∈ lw_gd := gd_p (i := 19) (by decide +kernel) rfl
theorem wv_X6_canBeKept : Cond.selects yX6_canBeKept.cls yX6_canBeKept yX6_canBeKept ∈ lw_gd := gd_p (i := 20) (by decide +kernel) rfl
theorem wv_X6_besomsDueBy : Cond.selects yX6_besomsDueBy.cls yX6_besomsDueBy yX6_besomsDueBy ∈ lw_gd := gd_p (i := 21) (by decide +kernel) rfl
theorem wv_X6_goesAhead : Cond.selects yX6_goesAhead.cls yX6_goesAhead yX6_goesAhead ∈ lw_gd := gd_p (i := 22) (by decide +kernel) rfl
theorem wv_X6_lackingTwigs : Cond.selects yX6_lackingTwigs.cls yX6_lackingTwigs yX6_lackingTwigs ∈ lw_gd := gd_p (i := 23) (by decide +kernel) rfl
theorem wv_X6_besomsToBind : Cond.selects yX6_besomsToBind.cls yX6_besomsToBind yX6_besomsToBind ∈ lw_gd := gd_p (i := 24) (by decide +kernel) rfl
theorem wv_X6_giftsOf : Cond.selects yX6_giftsOf.cls yX6_giftsOf yX6_giftsOf ∈ lw_gd := gd_p (i := 25) (by decide +kernel) rfl
theorem wv_X6_sweepingsBy : Cond.selects yX6_sweepingsBy.cls yX6_sweepingsBy yX6_sweepingsBy ∈ lw_gd := gd_p (i := 26) (by decide +kernel) rfl
theorem wv_X6_allSeenIsSoBy : Cond.selects yX6_allSeenIsSoBy.cls yX6_allSeenIsSoBy yX6_allSeenIsSoBy ∈ lw_gd := gd_p (i := 27) (by decide +kernel) rfl
theorem wv_X6_seenFits : Cond.selects yX6_seenFits.cls yX6_seenFits yX6_seenFits ∈ lw_gd := gd_p (i := 28) (by decide +kernel) rfl
theorem wv_X6_rateAsPart : Cond.selects yX6_rateAsPart.cls yX6_rateAsPart yX6_rateAsPart ∈ lw_gd := gd_p (i := 29) (by decide +kernel) rfl
theorem wv_X6_rateAsBirch : Cond.selects yX6_rateAsBirch.cls yX6_rateAsBirch yX6_rateAsBirch ∈ lw_gd := gd_p (i := 30) (by decide +kernel) rfl
theorem wv_X6_rateAsHeather : Cond.selects yX6_rateAsHeather.cls yX6_rateAsHeather yX6_rateAsHeather ∈ lw_gd := gd_p (i := 31) (by decide +kernel) rfl
theorem wv_X6_rateAsStake : Cond.selects yX6_rateAsStake.cls yX6_rateAsStake yX6_rateAsStake ∈ lw_gd := gd_p (i := 32) (by decide +kernel) rfl
theorem wv_X6_rateAsKnot : Cond.selects yX6_rateAsKnot.cls yX6_rateAsKnot yX6_rateAsKnot ∈ lw_gd := gd_p (i := 33) (by decide +kernel) rfl
theorem wv_X6_rateAsBramble : Cond.selects yX6_rateAsBramble.cls yX6_rateAsBramble yX6_rateAsBramble ∈ lw_gd := gd_p (i := 34) (by decide +kernel) rfl
theorem wv_X7_begins : Cond.selects yX7_begins.cls yX7_begins yX7_begins ∈ lw_gd := gd_p (i := 35) (by decide +kernel) rfl
theorem wv_X7_settles : Cond.selects yX7_settles.cls yX7_settles yX7_settles ∈ lw_gd := gd_p (i := 36) (by decide +kernel) rfl
theorem wv_X7_advances : Cond.selects yX7_advances.cls yX7_advances yX7_advances ∈ lw_gd := gd_p (i := 37) (by decide +kernel) rfl
theorem wv_X7_letterAt : Cond.selects yX7_letterAt.cls yX7_letterAt yX7_letterAt ∈ lw_gd := gd_p (i := 38) (by decide +kernel) rfl
theorem wv_X7_isWell : Cond.selects yX7_isWell.cls yX7_isWell yX7_isWell ∈ lw_gd := gd_p (i := 39) (by decide +kernel) rfl
theorem wv_X7_mayBegin : Cond.selects yX7_mayBegin.cls yX7_mayBegin yX7_mayBegin ∈ lw_gd := gd_p (i := 40) (by decide +kernel) rfl
theorem wv_X7_takes : Cond.selects yX7_takes.cls yX7_takes yX7_takes ∈ lw_gd := gd_p (i := 41) (by decide +kernel) rfl
theorem wv_X7_readsItem : Cond.selects yX7_readsItem.cls yX7_readsItem yX7_readsItem ∈ lw_gd := gd_p (i := 42) (by decide +kernel) rfl
theorem wv_X7_number : Cond.selects yX7_number.cls yX7_number yX7_number ∈ lw_gd := gd_p (i := 43) (by decide +kernel) rfl
theorem wv_X7_isPart : Cond.selects yX7_isPart.cls yX7_isPart yX7_isPart ∈ lw_gd := gd_p (i := 44) (by decide +kernel) rfl
theorem wv_X7_gives : Cond.selects yX7_gives.cls yX7_gives yX7_gives ∈ lw_gd := gd_p (i := 45) (by decide +kernel) rfl
theorem wv_X7_givesAt : Cond.selects yX7_givesAt.cls yX7_givesAt yX7_givesAt ∈ lw_gd := gd_p (i := 46) (by decide +kernel) rfl
theorem wv_X7_isOrder : Cond.selects yX7_isOrder.cls yX7_isOrder yX7_isOrder ∈ lw_gd := gd_p (i := 47) (by decide +kernel) rfl
theorem wv_X7_isSent : Cond.selects yX7_isSent.cls yX7_isSent yX7_isSent ∈ lw_gd := gd_p (i := 48) (by decide +kernel) rfl
theorem wv_X7_notes : Cond.selects yX7_notes.cls yX7_notes yX7_notes ∈ lw_gd := gd_p (i := 49) (by decide +kernel) rfl
theorem wv_X7_fells : Cond.selects yX7_fells.cls yX7_fells yX7_fells ∈ lw_gd := gd_p (i := 50) (by decide +kernel) rfl
theorem wv_X7_grows : Cond.selects yX7_grows.cls yX7_grows yX7_grows ∈ lw_gd := gd_p (i := 51) (by decide +kernel) rfl
theorem wv_X7_days : Cond.selects yX7_days.cls yX7_days yX7_days ∈ lw_gd := gd_p (i := 52) (by decide +kernel) rfl
theorem wv_X7_twigsBy : Cond.selects yX7_twigsBy.cls yX7_twigsBy yX7_twigsBy ∈ lw_gd := gd_p (i := 53) (by decide +kernel) rfl
theorem wv_X7_asNow : Cond.selects yX7_asNow.cls yX7_asNow yX7_asNow ∈ lw_gd := gd_p (i := 54) (by decide +kernel) rfl
theorem wv_X7_coinsOf : Cond.selects yX7_coinsOf.cls yX7_coinsOf yX7_coinsOf ∈ lw_gd := gd_p (i := 55) (by decide +kernel) rfl
theorem wv_X7_canBeKept : Cond.selects yX7_canBeKept.cls yX7_canBeKept yX7_canBeKept ∈ lw_gd := gd_p (i := 56) (by decide +kernel) rfl
theorem wv_X7_besomsBy : Cond.selects yX7_besomsBy.cls yX7_besomsBy yX7_besomsBy ∈ lw_gd := gd_p (i := 57) (by decide +kernel) rfl
theorem wv_X7_lacks : Cond.selects yX7_lacks.cls yX7_lacks yX7_lacks ∈ lw_gd := gd_p (i := 58) (by decide +kernel) rfl
theorem wv_X7_wanted : Cond.selects yX7_wanted.cls yX7_wanted yX7_wanted ∈ lw_gd := gd_p (i := 59) (by decide +kernel) rfl
theorem wv_X7_lastsBy : Cond.selects yX7_lastsBy.cls yX7_lastsBy yX7_lastsBy ∈ lw_gd := gd_p (i := 60) (by decide +kernel) rfl
theorem wv_X7_goes : Cond.selects yX7_goes.cls yX7_goes yX7_goes ∈ lw_gd := gd_p (i := 61) (by decide +kernel) rfl
theorem wn_L : Cond.initialized RL ∈ lw_gd := gd_t (i := 0) (by decide +kernel) rfl
theorem wn_X6 : Cond.initialized RX6 ∈ lw_gd := gd_t (i := 1) (by decide +kernel) rfl
theorem wn_X4 : Cond.initialized RX4 ∈ lw_gd := gd_t (i := 2) (by decide +kernel) rfl
theorem wn_X5 : Cond.initialized RX5 ∈ lw_gd := gd_t (i := 3) (by decide +kernel) rfl
theorem wn_X1 : Cond.initialized RX1 ∈ lw_gd := gd_t (i := 4) (by decide +kernel) rfl
theorem wn_X0 : Cond.initialized RX0 ∈ lw_gd := gd_t (i := 5) (by decide +kernel) rfl
theorem wn_X3 : Cond.initialized RX3 ∈ lw_gd := gd_t (i := 6) (by decide +kernel) rfl
theorem wn_J9 : Cond.initialized RJ9 ∈ lw_gd := gd_t (i := 7) (by decide +kernel) rfl
theorem wn_X2 : Cond.initialized RX2 ∈ lw_gd := gd_t (i := 8) (by decide +kernel) rfl
theorem wn_X7 : Cond.initialized RX7 ∈ lw_gd := gd_t (i := 9) (by decide +kernel) rfl
theorem wn_J0 : Cond.initialized RJ0 ∈ lw_gd := gd_t (i := 10) (by decide +kernel) rfl
theorem wn_J1 : Cond.initialized RJ1 ∈ lw_gd := gd_t (i := 11) (by decide +kernel) rfl
theorem wn_J2 : Cond.initialized RJ2 ∈ lw_gd := gd_t (i := 12) (by decide +kernel) rfl
theorem wn_J3 : Cond.initialized RJ3 ∈ lw_gd := gd_t (i := 13) (by decide +kernel) rfl
theorem wn_J11 : Cond.initialized RJ11 ∈ lw_gd := gd_t (i := 14) (by decide +kernel) rfl
theorem wn_J6 : Cond.initialized RJ6 ∈ lw_gd := gd_t (i := 15) (by decide +kernel) rfl
theorem wcl_L_7 : Cond.classLink RL 7 "BesomYard" ∈ lw_gd := gd_t (i := 16) (by decide +kernel) rfl
theorem win_X6 : Cond.instantiable RX6 16 ∈ lw_gd := gd_t (i := 17) (by decide +kernel) rfl
theorem wl_L_9 : Cond.methodLink RL 9 yX6_init ∈ lw_gd := gd_t (i := 18) (by decide +kernel) rfl
theorem wi_X6_init : Cond.instanceMethod yX6_init ∈ lw_gd := gd_t (i := 19) (by decide +kernel) rfl
theorem wc_X6_init : Cond.code yX6_init cX6_init 1 none ∈ lw_gd := gd_t (i := 20) (by decide +kernel) rfl
theorem wl_X6_1 : Cond.methodLink RX6 1 ⟨"java/lang/Object", "<init>", "()V"⟩ ∈ lw_gd := gd_t (i := 21) (by decide +kernel) rfl
theorem wcl_X6_7 : Cond.classLink RX6 7 "BesomYard$Text" ∈ lw_gd := gd_t (i := 24) (by decide +kernel) rfl
theorem win_X4 : Cond.instantiable RX4 6 ∈ lw_gd := gd_t (i := 25) (by decide +kernel) rfl
theorem wmn_X6_9 : Cond.methodLinkNest RX6 9 yX4_init "BesomYard" ∈ lw_tbl := gd_u (i := 26) (by decide +kernel)
theorem wi_X4_init : Cond.instanceMethod yX4_init ∈ lw_gd := gd_t (i := 27) (by decide +kernel) rfl
theorem wc_X4_init : Cond.code yX4_init cX4_init 1 none ∈ lw_gd := gd_t (i := 28) (by decide +kernel) rfl
theorem wl_X4_1 : Cond.methodLink RX4 1 ⟨"java/lang/Object", "<init>", "()V"⟩ ∈ lw_gd := gd_t (i := 29) (by decide +kernel) rfl
theorem wf_X4_9 : Cond.fieldLink RX4 9 "BesomYard$Text" "letters" "[C" ∈ lw_gd := gd_t (i := 30) (by decide +kernel) rfl
theorem wf_X4_13 : Cond.fieldLink RX4 13 "BesomYard$Text" "many" "I" ∈ lw_gd := gd_t (i := 31) (by decide +kernel) rfl
theorem wf_X4_20 : Cond.fieldLink RX4 20 "BesomYard$Text" "start" "I" ∈ lw_gd := gd_t (i := 32) (by decide +kernel) rfl
theorem wf_X4_17 : Cond.fieldLink RX4 17 "BesomYard$Text" "behind" "I" ∈ lw_gd := gd_t (i := 33) (by decide +kernel) rfl
theorem wf_X4_30 : Cond.fieldLink RX4 30 "BesomYard$Text" "token" "I" ∈ lw_gd := gd_t (i := 34) (by decide +kernel) rfl
theorem wf_X4_23 : Cond.fieldLink RX4 23 "BesomYard$Text" "number" "I" ∈ lw_gd := gd_t (i := 35) (by decide +kernel) rfl
theorem war_char : Cond.arrayClass Jvm.ClassFile.FieldType.char ∈ lw_gd := gd_t (i := 49) (by decide +kernel) rfl
theorem wcl_X6_16 : Cond.classLink RX6 16 "BesomYard$Told" ∈ lw_gd := gd_t (i := 50) (by decide +kernel) rfl
theorem win_X5 : Cond.instantiable RX5 2 ∈ lw_gd := gd_t (i := 51) (by decide +kernel) rfl
theorem wl_X6_18 : Cond.methodLink RX6 18 yX5_init ∈ lw_gd := gd_t (i := 52) (by decide +kernel) rfl
theorem wi_X5_init : Cond.instanceMethod yX5_init ∈ lw_gd := gd_t (i := 53) (by decide +kernel) rfl
theorem wc_X5_init : Cond.code yX5_init cX5_init 1 none ∈ lw_gd := gd_t (i := 54) (by decide +kernel) rfl
theorem wl_X5_1 : Cond.methodLink RX5 1 ⟨"java/lang/Object", "<init>", "()V"⟩ ∈ lw_gd := gd_t (i := 55) (by decide +kernel) rfl
theorem wl_X5_16 : Cond.methodLink RX5 16 yX5_setAsAtFirst ∈ lw_gd := gd_t (i := 56) (by decide +kernel) rfl
theorem wi_X5_setAsAtFirst : Cond.instanceMethod yX5_setAsAtFirst ∈ lw_gd := gd_t (i := 58) (by decide +kernel) rfl
theorem wc_X5_setAsAtFirst : Cond.code yX5_setAsAtFirst cX5_setAsAtFirst 3 none ∈ lw_gd := gd_t (i := 59) (by decide +kernel) rfl
theorem wf_X5_73 : Cond.fieldLink RX5 73 "BesomYard$Told" "AT_FIRST" "[I" ∈ lw_gd := gd_t (i := 60) (by decide +kernel) rfl
theorem wls_61 : Cond.laysStatic RX5 "AT_FIRST" "[I" ∈ lw_tbl := gd_u (i := 61) (by decide +kernel)
theorem wf_X5_9 : Cond.fieldLink RX5 9 "BesomYard$Told" "many" "[I" ∈ lw_gd := gd_t (i := 62) (by decide +kernel) rfl
theorem wf_X5_13 : Cond.fieldLink RX5 13 "BesomYard$Told" "values" "[I" ∈ lw_gd := gd_t (i := 63) (by decide +kernel) rfl
theorem war_int : Cond.arrayClass Jvm.ClassFile.FieldType.int ∈ lw_gd := gd_t (i := 69) (by decide +kernel) rfl
theorem wcl_X6_26 : Cond.classLink RX6 26 "BesomYard$Moment" ∈ lw_gd := gd_t (i := 70) (by decide +kernel) rfl
theorem win_X1 : Cond.instantiable RX1 8 ∈ lw_gd := gd_t (i := 71) (by decide +kernel) rfl
theorem wmn_X6_28 : Cond.methodLinkNest RX6 28 yX1_init "BesomYard" ∈ lw_tbl := gd_u (i := 72) (by decide +kernel)
theorem wi_X1_init : Cond.instanceMethod yX1_init ∈ lw_gd := gd_t (i := 73) (by decide +kernel) rfl
theorem wc_X1_init : Cond.code yX1_init cX1_init 1 none ∈ lw_gd := gd_t (i := 74) (by decide +kernel) rfl
theorem wl_X1_1 : Cond.methodLink RX1 1 ⟨"java/lang/Object", "<init>", "()V"⟩ ∈ lw_gd := gd_t (i := 75) (by decide +kernel) rfl
theorem wcl_X1_15 : Cond.classLink RX1 15 "BesomYard$Besom" ∈ lw_gd := gd_t (i := 76) (by decide +kernel) rfl
theorem win_X0 : Cond.instantiable RX0 2 ∈ lw_gd := gd_t (i := 77) (by decide +kernel) rfl
theorem wmn_X1_17 : Cond.methodLinkNest RX1 17 yX0_init "BesomYard" ∈ lw_tbl := gd_u (i := 78) (by decide +kernel)
theorem wi_X0_init : Cond.instanceMethod yX0_init ∈ lw_gd := gd_t (i := 79) (by decide +kernel) rfl
theorem wc_X0_init : Cond.code yX0_init cX0_init 1 none ∈ lw_gd := gd_t (i := 80) (by decide +kernel) rfl
theorem wl_X0_1 : Cond.methodLink RX0 1 ⟨"java/lang/Object", "<init>", "()V"⟩ ∈ lw_gd := gd_t (i := 81) (by decide +kernel) rfl
theorem wf_X0_9 : Cond.fieldLink RX0 9 "BesomYard$Besom" "lengths" "[I" ∈ lw_gd := gd_t (i := 82) (by decide +kernel) rfl
theorem wf_X0_13 : Cond.fieldLink RX0 13 "BesomYard$Besom" "front" "I" ∈ lw_gd := gd_t (i := 83) (by decide +kernel) rfl
theorem wfn_X6_140 : Cond.fieldLinkNest RX6 140 "BesomYard$Besom" "front" "I" "BesomYard" ∈ lw_tbl := gd_u (i := 84) (by decide +kernel)
theorem wf_X1_9 : Cond.fieldLink RX1 9 "BesomYard$Moment" "ages" "[I" ∈ lw_gd := gd_t (i := 90) (by decide +kernel) rfl
theorem wf_X1_18 : Cond.fieldLink RX1 18 "BesomYard$Moment" "door" "LBesomYard$Besom;" ∈ lw_gd := gd_t (i := 91) (by decide +kernel) rfl
theorem wfn_X6_115 : Cond.fieldLinkNest RX6 115 "BesomYard$Moment" "door" "LBesomYard$Besom;" "BesomYard" ∈ lw_tbl := gd_u (i := 92) (by decide +kernel)
theorem wf_X1_43 : Cond.fieldLink RX1 43 "BesomYard$Moment" "stack" "I" ∈ lw_gd := gd_t (i := 93) (by decide +kernel) rfl
theorem wfn_X6_128 : Cond.fieldLinkNest RX6 128 "BesomYard$Moment" "stack" "I" "BesomYard" ∈ lw_tbl := gd_u (i := 94) (by decide +kernel)
theorem wf_X1_46 : Cond.fieldLink RX1 46 "BesomYard$Moment" "bound" "I" ∈ lw_gd := gd_t (i := 95) (by decide +kernel) rfl
theorem wfn_X6_131 : Cond.fieldLinkNest RX6 131 "BesomYard$Moment" "bound" "I" "BesomYard" ∈ lw_tbl := gd_u (i := 96) (by decide +kernel)
theorem wf_X1_49 : Cond.fieldLink RX1 49 "BesomYard$Moment" "day" "I" ∈ lw_gd := gd_t (i := 97) (by decide +kernel) rfl
theorem wfn_X6_121 : Cond.fieldLinkNest RX6 121 "BesomYard$Moment" "day" "I" "BesomYard" ∈ lw_tbl := gd_u (i := 98) (by decide +kernel)
theorem wf_X1_52 : Cond.fieldLink RX1 52 "BesomYard$Moment" "earned" "I" ∈ lw_gd := gd_t (i := 99) (by decide +kernel) rfl
theorem wfn_X6_134 : Cond.fieldLinkNest RX6 134 "BesomYard$Moment" "earned" "I" "BesomYard" ∈ lw_tbl := gd_u (i := 100) (by decide +kernel)
theorem wf_X1_22 : Cond.fieldLink RX1 22 "BesomYard$Moment" "sent" "I" ∈ lw_gd := gd_t (i := 101) (by decide +kernel) rfl
theorem wfn_X6_137 : Cond.fieldLinkNest RX6 137 "BesomYard$Moment" "sent" "I" "BesomYard" ∈ lw_tbl := gd_u (i := 102) (by decide +kernel)
theorem wf_X1_55 : Cond.fieldLink RX1 55 "BesomYard$Moment" "year" "I" ∈ lw_gd := gd_t (i := 103) (by decide +kernel) rfl
theorem wfn_X6_125 : Cond.fieldLinkNest RX6 125 "BesomYard$Moment" "year" "I" "BesomYard" ∈ lw_tbl := gd_u (i := 104) (by decide +kernel)
theorem wcl_X6_33 : Cond.classLink RX6 33 "BesomYard$Shelf" ∈ lw_gd := gd_t (i := 122) (by decide +kernel) rfl
theorem win_X3 : Cond.instantiable RX3 1 ∈ lw_gd := gd_t (i := 123) (by decide +kernel) rfl
theorem wl_X6_35 : Cond.methodLink RX6 35 yX3_init ∈ lw_gd := gd_t (i := 124) (by decide +kernel) rfl
theorem wi_X3_init : Cond.instanceMethod yX3_init ∈ lw_gd := gd_t (i := 125) (by decide +kernel) rfl
theorem wc_X3_init : Cond.code yX3_init cX3_init 3 none ∈ lw_gd := gd_t (i := 126) (by decide +kernel) rfl
theorem wl_X3_1 : Cond.methodLink RX3 1 ⟨"java/lang/Object", "<init>", "()V"⟩ ∈ lw_gd := gd_t (i := 127) (by decide +kernel) rfl
theorem wl_X3_7 : Cond.methodLink RX3 7 yJ9_max_7cf53 ∈ lw_gd := gd_t (i := 128) (by decide +kernel) rfl
theorem wt_J9_max_7cf53 : Cond.static yJ9_max_7cf53 ∈ lw_gd := gd_t (i := 129) (by decide +kernel) rfl
theorem wc_J9_max_7cf53 : Cond.code yJ9_max_7cf53 cJ9_max_7cf53 2 (some .int) ∈ lw_gd := gd_t (i := 130) (by decide +kernel) rfl
theorem wcl_X3_13 : Cond.classLink RX3 13 "BesomYard$Moment" ∈ lw_gd := gd_t (i := 131) (by decide +kernel) rfl
theorem wao_132 : Cond.arrayOver (Jvm.ClassFile.FieldType.object "BesomYard$Moment") ∈ lw_tbl := gd_u (i := 132) (by decide +kernel)
theorem wmn_X3_21 : Cond.methodLinkNest RX3 21 yX1_init "BesomYard" ∈ lw_tbl := gd_u (i := 133) (by decide +kernel)
theorem wf_X3_15 : Cond.fieldLink RX3 15 "BesomYard$Shelf" "places" "[LBesomYard$Moment;" ∈ lw_gd := gd_t (i := 134) (by decide +kernel) rfl
theorem wcl_X6_59 : Cond.classLink RX6 59 "BesomYard$Besom" ∈ lw_gd := gd_t (i := 138) (by decide +kernel) rfl
theorem wmn_X6_61 : Cond.methodLinkNest RX6 61 yX0_init "BesomYard" ∈ lw_tbl := gd_u (i := 139) (by decide +kernel)
theorem wcl_X6_66 : Cond.classLink RX6 66 "BesomYard$Planner" ∈ lw_gd := gd_t (i := 140) (by decide +kernel) rfl
theorem win_X2 : Cond.instantiable RX2 4 ∈ lw_gd := gd_t (i := 141) (by decide +kernel) rfl
theorem wmn_X6_68 : Cond.methodLinkNest RX6 68 yX2_init "BesomYard" ∈ lw_tbl := gd_u (i := 142) (by decide +kernel)
theorem wi_X2_init : Cond.instanceMethod yX2_init ∈ lw_gd := gd_t (i := 143) (by decide +kernel) rfl
theorem wc_X2_init : Cond.code yX2_init cX2_init 1 none ∈ lw_gd := gd_t (i := 144) (by decide +kernel) rfl
theorem wl_X2_3 : Cond.methodLink RX2 3 ⟨"java/lang/Object", "<init>", "()V"⟩ ∈ lw_gd := gd_t (i := 145) (by decide +kernel) rfl
theorem wf_X2_21 : Cond.fieldLink RX2 21 "BesomYard$Planner" "most" "I" ∈ lw_gd := gd_t (i := 146) (by decide +kernel) rfl
theorem wf_X2_11 : Cond.fieldLink RX2 11 "BesomYard$Planner" "row" "[I" ∈ lw_gd := gd_t (i := 147) (by decide +kernel) rfl
theorem wf_X2_15 : Cond.fieldLink RX2 15 "BesomYard$Planner" "best" "[I" ∈ lw_gd := gd_t (i := 148) (by decide +kernel) rfl
theorem wf_X2_18 : Cond.fieldLink RX2 18 "BesomYard$Planner" "got" "[I" ∈ lw_gd := gd_t (i := 149) (by decide +kernel) rfl
theorem war_boolean : Cond.arrayClass Jvm.ClassFile.FieldType.boolean ∈ lw_gd := gd_t (i := 159) (by decide +kernel) rfl
theorem wl_X6_73 : Cond.methodLink RX6 73 yX6_startAnew ∈ lw_gd := gd_t (i := 160) (by decide +kernel) rfl
theorem wi_X6_startAnew : Cond.instanceMethod yX6_startAnew ∈ lw_gd := gd_t (i := 162) (by decide +kernel) rfl
theorem wc_X6_startAnew : Cond.code yX6_startAnew cX6_startAnew 2 none ∈ lw_gd := gd_t (i := 163) (by decide +kernel) rfl
theorem wl_X6_283 : Cond.methodLink RX6 283 yX1_begin ∈ lw_gd := gd_t (i := 164) (by decide +kernel) rfl
theorem wi_X1_begin : Cond.instanceMethod yX1_begin ∈ lw_gd := gd_t (i := 165) (by decide +kernel) rfl
theorem wv_X1_begin : Cond.selects yX1_begin.cls yX1_begin yX1_begin ∈ lw_gd := gd_t (i := 166) (by decide +kernel) rfl
theorem wc_X1_begin : Cond.code yX1_begin cX1_begin 3 none ∈ lw_gd := gd_t (i := 167) (by decide +kernel) rfl
theorem wl_X1_32 : Cond.methodLink RX1 32 yX5_value ∈ lw_gd := gd_t (i := 168) (by decide +kernel) rfl
theorem wi_X5_value : Cond.instanceMethod yX5_value ∈ lw_gd := gd_t (i := 169) (by decide +kernel) rfl
theorem wv_X5_value : Cond.selects yX5_value.cls yX5_value yX5_value ∈ lw_gd := gd_t (i := 170) (by decide +kernel) rfl
theorem wc_X5_value : Cond.code yX5_value cX5_value 3 (some .int) ∈ lw_gd := gd_t (i := 171) (by decide +kernel) rfl
theorem wl_X5_23 : Cond.methodLink RX5 23 yX5_isPlace ∈ lw_gd := gd_t (i := 172) (by decide +kernel) rfl
theorem wt_X5_isPlace : Cond.static yX5_isPlace ∈ lw_gd := gd_t (i := 173) (by decide +kernel) rfl
theorem wc_X5_isPlace : Cond.code yX5_isPlace cX5_isPlace 2 (some .boolean) ∈ lw_gd := gd_t (i := 174) (by decide +kernel) rfl
theorem wl_X1_35 : Cond.methodLink RX1 35 yX5_lengthAtFirst ∈ lw_gd := gd_t (i := 175) (by decide +kernel) rfl
theorem wi_X5_lengthAtFirst : Cond.instanceMethod yX5_lengthAtFirst ∈ lw_gd := gd_t (i := 176) (by decide +kernel) rfl
theorem wv_X5_lengthAtFirst : Cond.selects yX5_lengthAtFirst.cls yX5_lengthAtFirst yX5_lengthAtFirst ∈ lw_gd := gd_t (i := 177) (by decide +kernel) rfl
theorem wc_X5_lengthAtFirst : Cond.code yX5_lengthAtFirst cX5_lengthAtFirst 1 (some .int) ∈ lw_gd := gd_t (i := 178) (by decide +kernel) rfl
theorem wl_X5_19 : Cond.methodLink RX5 19 yX5_value ∈ lw_gd := gd_t (i := 179) (by decide +kernel) rfl
theorem wl_X1_39 : Cond.methodLink RX1 39 yX0_renew ∈ lw_gd := gd_t (i := 180) (by decide +kernel) rfl
theorem wi_X0_renew : Cond.instanceMethod yX0_renew ∈ lw_gd := gd_t (i := 181) (by decide +kernel) rfl
theorem wv_X0_renew : Cond.selects yX0_renew.cls yX0_renew yX0_renew ∈ lw_gd := gd_t (i := 182) (by decide +kernel) rfl
theorem wc_X0_renew : Cond.code yX0_renew cX0_renew 3 none ∈ lw_gd := gd_t (i := 183) (by decide +kernel) rfl
theorem wl_X6_273 : Cond.methodLink RX6 273 yX6_forgetPast ∈ lw_gd := gd_t (i := 184) (by decide +kernel) rfl
theorem wi_X6_forgetPast : Cond.instanceMethod yX6_forgetPast ∈ lw_gd := gd_t (i := 186) (by decide +kernel) rfl
theorem wc_X6_forgetPast : Cond.code yX6_forgetPast cX6_forgetPast 1 none ∈ lw_gd := gd_t (i := 187) (by decide +kernel) rfl
theorem wf_X6_10 : Cond.fieldLink RX6 10 "BesomYard" "text" "LBesomYard$Text;" ∈ lw_gd := gd_t (i := 188) (by decide +kernel) rfl
theorem wf_X6_19 : Cond.fieldLink RX6 19 "BesomYard" "told" "LBesomYard$Told;" ∈ lw_gd := gd_t (i := 189) (by decide +kernel) rfl
theorem wf_X6_23 : Cond.fieldLink RX6 23 "BesomYard" "draft" "LBesomYard$Told;" ∈ lw_gd := gd_t (i := 190) (by decide +kernel) rfl
theorem wf_X6_29 : Cond.fieldLink RX6 29 "BesomYard" "here" "LBesomYard$Moment;" ∈ lw_gd := gd_t (i := 191) (by decide +kernel) rfl
theorem wf_X6_38 : Cond.fieldLink RX6 38 "BesomYard" "past" "LBesomYard$Shelf;" ∈ lw_gd := gd_t (i := 192) (by decide +kernel) rfl
theorem wf_X6_143 : Cond.fieldLink RX6 143 "BesomYard" "pastMany" "I" ∈ lw_gd := gd_t (i := 193) (by decide +kernel) rfl
theorem wf_X6_173 : Cond.fieldLink RX6 173 "BesomYard" "pastNext" "I" ∈ lw_gd := gd_t (i := 194) (by decide +kernel) rfl
theorem wf_X6_42 : Cond.fieldLink RX6 42 "BesomYard" "images" "LBesomYard$Shelf;" ∈ lw_gd := gd_t (i := 195) (by decide +kernel) rfl
theorem wf_X6_45 : Cond.fieldLink RX6 45 "BesomYard" "imageKept" "[Z" ∈ lw_gd := gd_t (i := 196) (by decide +kernel) rfl
theorem wf_X6_49 : Cond.fieldLink RX6 49 "BesomYard" "seenBehind" "[I" ∈ lw_gd := gd_t (i := 197) (by decide +kernel) rfl
theorem wf_X6_53 : Cond.fieldLink RX6 53 "BesomYard" "seenSide" "[I" ∈ lw_gd := gd_t (i := 198) (by decide +kernel) rfl
theorem wf_X6_56 : Cond.fieldLink RX6 56 "BesomYard" "seenLength" "[I" ∈ lw_gd := gd_t (i := 199) (by decide +kernel) rfl
theorem wf_X6_236 : Cond.fieldLink RX6 236 "BesomYard" "seenMany" "I" ∈ lw_gd := gd_t (i := 200) (by decide +kernel) rfl
theorem wf_X6_62 : Cond.fieldLink RX6 62 "BesomYard" "trial" "LBesomYard$Besom;" ∈ lw_gd := gd_t (i := 201) (by decide +kernel) rfl
theorem wf_X6_69 : Cond.fieldLink RX6 69 "BesomYard" "planner" "LBesomYard$Planner;" ∈ lw_gd := gd_t (i := 202) (by decide +kernel) rfl
theorem wf_X6_279 : Cond.fieldLink RX6 279 "BesomYard" "traced" "J" ∈ lw_gd := gd_t (i := 203) (by decide +kernel) rfl
theorem wl_L_13 : Cond.methodLink RL 13 yX6_type ∈ lw_gd := gd_t (i := 237) (by decide +kernel) rfl
theorem wi_X6_type : Cond.instanceMethod yX6_type ∈ lw_gd := gd_t (i := 238) (by decide +kernel) rfl
theorem wv_X6_type : Cond.selects yX6_type.cls yX6_type yX6_type ∈ lw_gd := gd_t (i := 239) (by decide +kernel) rfl
theorem wc_X6_type : Cond.code yX6_type cX6_type 2 (some .int) ∈ lw_gd := gd_t (i := 240) (by decide +kernel) rfl
theorem wl_X6_76 : Cond.methodLink RX6 76 yX4_add ∈ lw_gd := gd_t (i := 241) (by decide +kernel) rfl
theorem wi_X4_add : Cond.instanceMethod yX4_add ∈ lw_gd := gd_t (i := 242) (by decide +kernel) rfl
theorem wv_X4_add : Cond.selects yX4_add.cls yX4_add yX4_add ∈ lw_gd := gd_t (i := 243) (by decide +kernel) rfl
theorem wc_X4_add : Cond.code yX4_add cX4_add 2 (some .boolean) ∈ lw_gd := gd_t (i := 244) (by decide +kernel) rfl
theorem wl_X6_80 : Cond.methodLink RX6 80 yX4_size ∈ lw_gd := gd_t (i := 245) (by decide +kernel) rfl
theorem wi_X4_size : Cond.instanceMethod yX4_size ∈ lw_gd := gd_t (i := 246) (by decide +kernel) rfl
theorem wv_X4_size : Cond.selects yX4_size.cls yX4_size yX4_size ∈ lw_gd := gd_t (i := 247) (by decide +kernel) rfl
theorem wc_X4_size : Cond.code yX4_size cX4_size 1 (some .int) ∈ lw_gd := gd_t (i := 248) (by decide +kernel) rfl
theorem wl_L_18 : Cond.methodLink RL 18 yX6_clear ∈ lw_gd := gd_t (i := 249) (by decide +kernel) rfl
theorem wi_X6_clear : Cond.instanceMethod yX6_clear ∈ lw_gd := gd_t (i := 250) (by decide +kernel) rfl
theorem wv_X6_clear : Cond.selects yX6_clear.cls yX6_clear yX6_clear ∈ lw_gd := gd_t (i := 251) (by decide +kernel) rfl
theorem wc_X6_clear : Cond.code yX6_clear cX6_clear 2 (some .int) ∈ lw_gd := gd_t (i := 252) (by decide +kernel) rfl
theorem wl_X6_84 : Cond.methodLink RX6 84 yX4_empty ∈ lw_gd := gd_t (i := 253) (by decide +kernel) rfl
theorem wi_X4_empty : Cond.instanceMethod yX4_empty ∈ lw_gd := gd_t (i := 254) (by decide +kernel) rfl
theorem wv_X4_empty : Cond.selects yX4_empty.cls yX4_empty yX4_empty ∈ lw_gd := gd_t (i := 255) (by decide +kernel) rfl
theorem wc_X4_empty : Cond.code yX4_empty cX4_empty 1 none ∈ lw_gd := gd_t (i := 256) (by decide +kernel) rfl
theorem wl_L_23 : Cond.methodLink RL 23 yX6_yard ∈ lw_gd := gd_t (i := 257) (by decide +kernel) rfl
theorem wi_X6_yard : Cond.instanceMethod yX6_yard ∈ lw_gd := gd_t (i := 258) (by decide +kernel) rfl
theorem wv_X6_yard : Cond.selects yX6_yard.cls yX6_yard yX6_yard ∈ lw_gd := gd_t (i := 259) (by decide +kernel) rfl
theorem wc_X6_yard : Cond.code yX6_yard cX6_yard 3 (some .int) ∈ lw_gd := gd_t (i := 260) (by decide +kernel) rfl
theorem wl_X6_87 : Cond.methodLink RX6 87 yX5_readFrom ∈ lw_gd := gd_t (i := 261) (by decide +kernel) rfl
theorem wi_X5_readFrom : Cond.instanceMethod yX5_readFrom ∈ lw_gd := gd_t (i := 262) (by decide +kernel) rfl
theorem wv_X5_readFrom : Cond.selects yX5_readFrom.cls yX5_readFrom yX5_readFrom ∈ lw_gd := gd_t (i := 263) (by decide +kernel) rfl
theorem wc_X5_readFrom : Cond.code yX5_readFrom cX5_readFrom 4 (some .int) ∈ lw_gd := gd_t (i := 264) (by decide +kernel) rfl
theorem wl_X5_27 : Cond.methodLink RX5 27 yX4_rewind ∈ lw_gd := gd_t (i := 265) (by decide +kernel) rfl
theorem wi_X4_rewind : Cond.instanceMethod yX4_rewind ∈ lw_gd := gd_t (i := 266) (by decide +kernel) rfl
theorem wv_X4_rewind : Cond.selects yX4_rewind.cls yX4_rewind yX4_rewind ∈ lw_gd := gd_t (i := 267) (by decide +kernel) rfl
theorem wc_X4_rewind : Cond.code yX4_rewind cX4_rewind 1 none ∈ lw_gd := gd_t (i := 268) (by decide +kernel) rfl
theorem wl_X5_32 : Cond.methodLink RX5 32 yX4_goOn ∈ lw_gd := gd_t (i := 269) (by decide +kernel) rfl
theorem wi_X4_goOn : Cond.instanceMethod yX4_goOn ∈ lw_gd := gd_t (i := 270) (by decide +kernel) rfl
theorem wv_X4_goOn : Cond.selects yX4_goOn.cls yX4_goOn yX4_goOn ∈ lw_gd := gd_t (i := 271) (by decide +kernel) rfl
theorem wc_X4_goOn : Cond.code yX4_goOn cX4_goOn 1 (some .int) ∈ lw_gd := gd_t (i := 272) (by decide +kernel) rfl
theorem wl_X4_26 : Cond.methodLink RX4 26 yX4_letterAt ∈ lw_gd := gd_t (i := 273) (by decide +kernel) rfl
theorem wi_X4_letterAt : Cond.instanceMethod yX4_letterAt ∈ lw_gd := gd_t (i := 275) (by decide +kernel) rfl
theorem wc_X4_letterAt : Cond.code yX4_letterAt cX4_letterAt 2 (some .int) ∈ lw_gd := gd_t (i := 276) (by decide +kernel) rfl
theorem wl_X4_33 : Cond.methodLink RX4 33 yX4_isDigit ∈ lw_gd := gd_t (i := 277) (by decide +kernel) rfl
theorem wi_X4_isDigit : Cond.instanceMethod yX4_isDigit ∈ lw_gd := gd_t (i := 279) (by decide +kernel) rfl
theorem wc_X4_isDigit : Cond.code yX4_isDigit cX4_isDigit 3 (some .boolean) ∈ lw_gd := gd_t (i := 280) (by decide +kernel) rfl
theorem wl_X4_37 : Cond.methodLink RX4 37 yX4_readNumber ∈ lw_gd := gd_t (i := 281) (by decide +kernel) rfl
theorem wi_X4_readNumber : Cond.instanceMethod yX4_readNumber ∈ lw_gd := gd_t (i := 283) (by decide +kernel) rfl
theorem wc_X4_readNumber : Cond.code yX4_readNumber cX4_readNumber 2 none ∈ lw_gd := gd_t (i := 284) (by decide +kernel) rfl
theorem wl_X4_40 : Cond.methodLink RX4 40 yJ9_min_7cf53 ∈ lw_gd := gd_t (i := 285) (by decide +kernel) rfl
theorem wt_J9_min_7cf53 : Cond.static yJ9_min_7cf53 ∈ lw_gd := gd_t (i := 286) (by decide +kernel) rfl
theorem wc_J9_min_7cf53 : Cond.code yJ9_min_7cf53 cJ9_min_7cf53 2 (some .int) ∈ lw_gd := gd_t (i := 287) (by decide +kernel) rfl
theorem wl_X5_36 : Cond.methodLink RX5 36 yX5_readItem ∈ lw_gd := gd_t (i := 288) (by decide +kernel) rfl
theorem wi_X5_readItem : Cond.instanceMethod yX5_readItem ∈ lw_gd := gd_t (i := 290) (by decide +kernel) rfl
theorem wc_X5_readItem : Cond.code yX5_readItem cX5_readItem 6 (some .boolean) ∈ lw_gd := gd_t (i := 291) (by decide +kernel) rfl
theorem wsr_292 : Cond.stringRef RX5 43 "wortpl" ∈ lw_tbl := gd_u (i := 292) (by decide +kernel)
theorem wl_X5_45 : Cond.methodLink RX5 45 yJ0_indexOf_0f7a4 ∈ lw_gd := gd_t (i := 293) (by decide +kernel) rfl
theorem wi_J0_indexOf_0f7a4 : Cond.instanceMethod yJ0_indexOf_0f7a4 ∈ lw_gd := gd_t (i := 294) (by decide +kernel) rfl
theorem wv_J0_indexOf_0f7a4 : Cond.selects yJ0_indexOf_0f7a4.cls yJ0_indexOf_0f7a4 yJ0_indexOf_0f7a4 ∈ lw_gd := gd_t (i := 295) (by decide +kernel) rfl
theorem wc_J0_indexOf_0f7a4 : Cond.code yJ0_indexOf_0f7a4 cJ0_indexOf_0f7a4 2 (some .int) ∈ lw_gd := gd_t (i := 296) (by decide +kernel) rfl
theorem wl_J0_633 : Cond.methodLink RJ0 633 yJ0_indexOf_7cf53 ∈ lw_gd := gd_t (i := 297) (by decide +kernel) rfl
theorem wi_J0_indexOf_7cf53 : Cond.instanceMethod yJ0_indexOf_7cf53 ∈ lw_gd := gd_t (i := 298) (by decide +kernel) rfl
theorem wv_J0_indexOf_7cf53 : Cond.selects yJ0_indexOf_7cf53.cls yJ0_indexOf_7cf53 yJ0_indexOf_7cf53 ∈ lw_gd := gd_t (i := 299) (by decide +kernel) rfl
theorem wc_J0_indexOf_7cf53 : Cond.code yJ0_indexOf_7cf53 cJ0_indexOf_7cf53 3 (some .int) ∈ lw_gd := gd_t (i := 300) (by decide +kernel) rfl
theorem wl_J0_492 : Cond.methodLink RJ0 492 yJ0_isLatin1_aae02 ∈ lw_gd := gd_t (i := 301) (by decide +kernel) rfl
theorem wi_J0_isLatin1_aae02 : Cond.instanceMethod yJ0_isLatin1_aae02 ∈ lw_gd := gd_t (i := 302) (by decide +kernel) rfl
theorem wv_J0_isLatin1_aae02 : Cond.selects yJ0_isLatin1_aae02.cls yJ0_isLatin1_aae02 yJ0_isLatin1_aae02 ∈ lw_gd := gd_t (i := 303) (by decide +kernel) rfl
theorem wc_J0_isLatin1_aae02 : Cond.code yJ0_isLatin1_aae02 cJ0_isLatin1_aae02 1 (some .boolean) ∈ lw_gd := gd_t (i := 304) (by decide +kernel) rfl
theorem wf_J0_38 : Cond.fieldLink RJ0 38 "java/lang/String" "COMPACT_STRINGS" "Z" ∈ lw_gd := gd_t (i := 305) (by decide +kernel) rfl
theorem wls_306 : Cond.laysStatic RJ0 "COMPACT_STRINGS" "Z" ∈ lw_tbl := gd_u (i := 306) (by decide +kernel)
theorem wl_J0_505 : Cond.methodLink RJ0 505 yJ0_length_8abf5 ∈ lw_gd := gd_t (i := 307) (by decide +kernel) rfl
theorem wi_J0_length_8abf5 : Cond.instanceMethod yJ0_length_8abf5 ∈ lw_gd := gd_t (i := 308) (by decide +kernel) rfl
theorem wv_J0_length_8abf5 : Cond.selects yJ0_length_8abf5.cls yJ0_length_8abf5 yJ0_length_8abf5 ∈ lw_gd := gd_t (i := 309) (by decide +kernel) rfl
theorem wc_J0_length_8abf5 : Cond.code yJ0_length_8abf5 cJ0_length_8abf5 1 (some .int) ∈ lw_gd := gd_t (i := 310) (by decide +kernel) rfl
theorem wl_J0_335 : Cond.methodLink RJ0 335 yJ0_coder_7d493 ∈ lw_gd := gd_t (i := 311) (by decide +kernel) rfl
theorem wi_J0_coder_7d493 : Cond.instanceMethod yJ0_coder_7d493 ∈ lw_gd := gd_t (i := 312) (by decide +kernel) rfl
theorem wv_J0_coder_7d493 : Cond.selects yJ0_coder_7d493.cls yJ0_coder_7d493 yJ0_coder_7d493 ∈ lw_gd := gd_t (i := 313) (by decide +kernel) rfl
theorem wc_J0_coder_7d493 : Cond.code yJ0_coder_7d493 cJ0_coder_7d493 1 (some .byte) ∈ lw_gd := gd_t (i := 314) (by decide +kernel) rfl
theorem wl_J0_637 : Cond.methodLink RJ0 637 yJ1_indexOf_4cfef ∈ lw_gd := gd_t (i := 315) (by decide +kernel) rfl
theorem wt_J1_indexOf_4cfef : Cond.static yJ1_indexOf_4cfef ∈ lw_gd := gd_t (i := 316) (by decide +kernel) rfl
theorem wc_J1_indexOf_4cfef : Cond.code yJ1_indexOf_4cfef cJ1_indexOf_4cfef 4 (some .int) ∈ lw_gd := gd_t (i := 317) (by decide +kernel) rfl
theorem wl_J1_88 : Cond.methodLink RJ1 88 yJ1_canEncode_9a6ad ∈ lw_gd := gd_t (i := 318) (by decide +kernel) rfl
theorem wt_J1_canEncode_9a6ad : Cond.static yJ1_canEncode_9a6ad ∈ lw_gd := gd_t (i := 319) (by decide +kernel) rfl
theorem wc_J1_canEncode_9a6ad : Cond.code yJ1_canEncode_9a6ad cJ1_canEncode_9a6ad 1 (some .boolean) ∈ lw_gd := gd_t (i := 320) (by decide +kernel) rfl
theorem wl_J1_92 : Cond.methodLink RJ1 92 yJ9_max_7cf53 ∈ lw_gd := gd_t (i := 321) (by decide +kernel) rfl
theorem wl_J1_38 : Cond.methodLink RJ1 38 yJ9_min_7cf53 ∈ lw_gd := gd_t (i := 322) (by decide +kernel) rfl
theorem wl_J1_95 : Cond.methodLink RJ1 95 yJ1_indexOfChar_4cfef ∈ lw_gd := gd_t (i := 323) (by decide +kernel) rfl
theorem wt_J1_indexOfChar_4cfef : Cond.static yJ1_indexOfChar_4cfef ∈ lw_gd := gd_t (i := 324) (by decide +kernel) rfl
theorem wc_J1_indexOfChar_4cfef : Cond.code yJ1_indexOfChar_4cfef cJ1_indexOfChar_4cfef 6 (some .int) ∈ lw_gd := gd_t (i := 325) (by decide +kernel) rfl
theorem wl_J0_640 : Cond.methodLink RJ0 640 yJ2_indexOf_4cfef ∈ lw_gd := gd_t (i := 326) (by decide +kernel) rfl
theorem wt_J2_indexOf_4cfef : Cond.static yJ2_indexOf_4cfef ∈ lw_gd := gd_t (i := 327) (by decide +kernel) rfl
theorem wc_J2_indexOf_4cfef : Cond.code yJ2_indexOf_4cfef cJ2_indexOf_4cfef 4 (some .int) ∈ lw_gd := gd_t (i := 328) (by decide +kernel) rfl
theorem wl_J2_224 : Cond.methodLink RJ2 224 yJ9_max_7cf53 ∈ lw_gd := gd_t (i := 329) (by decide +kernel) rfl
theorem wl_J2_183 : Cond.methodLink RJ2 183 yJ9_min_7cf53 ∈ lw_gd := gd_t (i := 330) (by decide +kernel) rfl
theorem wk_J2_227 : Cond.constant RJ2 227 65536 ∈ lw_gd := gd_t (i := 331) (by decide +kernel) rfl
theorem wl_J2_228 : Cond.methodLink RJ2 228 yJ2_indexOfChar_4cfef ∈ lw_gd := gd_t (i := 332) (by decide +kernel) rfl
theorem wt_J2_indexOfChar_4cfef : Cond.static yJ2_indexOfChar_4cfef ∈ lw_gd := gd_t (i := 333) (by decide +kernel) rfl
theorem wc_J2_indexOfChar_4cfef : Cond.code yJ2_indexOfChar_4cfef cJ2_indexOfChar_4cfef 4 (some .int) ∈ lw_gd := gd_t (i := 334) (by decide +kernel) rfl
theorem wl_J2_96 : Cond.methodLink RJ2 96 yJ2_checkBoundsBeginEnd_d044e ∈ lw_gd := gd_t (i := 335) (by decide +kernel) rfl
theorem wt_J2_checkBoundsBeginEnd_d044e : Cond.static yJ2_checkBoundsBeginEnd_d044e ∈ lw_gd := gd_t (i := 336) (by decide +kernel) rfl
theorem wc_J2_checkBoundsBeginEnd_d044e : Cond.code yJ2_checkBoundsBeginEnd_d044e cJ2_checkBoundsBeginEnd_d044e 3 none ∈ lw_gd := gd_t (i := 337) (by decide +kernel) rfl
theorem wl_J2_48 : Cond.methodLink RJ2 48 yJ2_length_9d52b ∈ lw_gd := gd_t (i := 338) (by decide +kernel) rfl
theorem wt_J2_length_9d52b : Cond.static yJ2_length_9d52b ∈ lw_gd := gd_t (i := 339) (by decide +kernel) rfl
theorem wc_J2_length_9d52b : Cond.code yJ2_length_9d52b cJ2_length_9d52b 1 (some .int) ∈ lw_gd := gd_t (i := 340) (by decide +kernel) rfl
theorem wl_J2_241 : Cond.methodLink RJ2 241 yJ0_checkBoundsBeginEnd_23922 ∈ lw_gd := gd_t (i := 341) (by decide +kernel) rfl
theorem wt_J0_checkBoundsBeginEnd_23922 : Cond.static yJ0_checkBoundsBeginEnd_23922 ∈ lw_gd := gd_t (i := 342) (by decide +kernel) rfl
theorem wc_J0_checkBoundsBeginEnd_23922 : Cond.code yJ0_checkBoundsBeginEnd_23922 cJ0_checkBoundsBeginEnd_23922 3 none ∈ lw_gd := gd_t (i := 343) (by decide +kernel) rfl
theorem wf_J0_1053 : Cond.fieldLink RJ0 1053 "jdk/internal/util/Preconditions" "SIOOBE_FORMATTER" "Ljava/util/function/BiFunction;" ∈ lw_gd := gd_t (i := 344) (by decide +kernel) rfl
theorem wls_345 : Cond.laysStatic RJ3 "SIOOBE_FORMATTER" "Ljava/util/function/BiFunction;" ∈ lw_tbl := gd_u (i := 345) (by decide +kernel)
theorem wl_J0_1062 : Cond.methodLink RJ0 1062 yJ3_checkFromToIndex_8c36e ∈ lw_gd := gd_t (i := 346) (by decide +kernel) rfl
theorem wt_J3_checkFromToIndex_8c36e : Cond.static yJ3_checkFromToIndex_8c36e ∈ lw_gd := gd_t (i := 347) (by decide +kernel) rfl
theorem wc_J3_checkFromToIndex_8c36e : Cond.code yJ3_checkFromToIndex_8c36e cJ3_checkFromToIndex_8c36e 4 (some .int) ∈ lw_gd := gd_t (i := 348) (by decide +kernel) rfl
theorem wl_J2_244 : Cond.methodLink RJ2 244 yJ2_indexOfCharUnsafe_4cfef ∈ lw_gd := gd_t (i := 349) (by decide +kernel) rfl
theorem wt_J2_indexOfCharUnsafe_4cfef : Cond.static yJ2_indexOfCharUnsafe_4cfef ∈ lw_gd := gd_t (i := 350) (by decide +kernel) rfl
theorem wc_J2_indexOfCharUnsafe_4cfef : Cond.code yJ2_indexOfCharUnsafe_4cfef cJ2_indexOfCharUnsafe_4cfef 5 (some .int) ∈ lw_gd := gd_t (i := 351) (by decide +kernel) rfl
theorem wl_J2_71 : Cond.methodLink RJ2 71 yJ2_getChar_3b067 ∈ lw_gd := gd_t (i := 352) (by decide +kernel) rfl
theorem wt_J2_getChar_3b067 : Cond.static yJ2_getChar_3b067 ∈ lw_gd := gd_t (i := 353) (by decide +kernel) rfl
theorem wc_J2_getChar_3b067 : Cond.code yJ2_getChar_3b067 cJ2_getChar_3b067 2 (some .char) ∈ lw_gd := gd_t (i := 354) (by decide +kernel) rfl
theorem wf_J2_44 : Cond.fieldLink RJ2 44 "java/lang/StringUTF16" "$assertionsDisabled" "Z" ∈ lw_gd := gd_t (i := 355) (by decide +kernel) rfl
theorem wls_356 : Cond.laysStatic RJ2 "$assertionsDisabled" "Z" ∈ lw_tbl := gd_u (i := 356) (by decide +kernel)
theorem wf_J2_59 : Cond.fieldLink RJ2 59 "java/lang/StringUTF16" "HI_BYTE_SHIFT" "I" ∈ lw_gd := gd_t (i := 357) (by decide +kernel) rfl
theorem wls_358 : Cond.laysStatic RJ2 "HI_BYTE_SHIFT" "I" ∈ lw_tbl := gd_u (i := 358) (by decide +kernel)
theorem wf_J2_63 : Cond.fieldLink RJ2 63 "java/lang/StringUTF16" "LO_BYTE_SHIFT" "I" ∈ lw_gd := gd_t (i := 359) (by decide +kernel) rfl
theorem wls_360 : Cond.laysStatic RJ2 "LO_BYTE_SHIFT" "I" ∈ lw_tbl := gd_u (i := 360) (by decide +kernel)
theorem wl_J2_232 : Cond.methodLink RJ2 232 yJ2_indexOfSupplementary_4cfef ∈ lw_gd := gd_t (i := 361) (by decide +kernel) rfl
theorem wt_J2_indexOfSupplementary_4cfef : Cond.static yJ2_indexOfSupplementary_4cfef ∈ lw_gd := gd_t (i := 362) (by decide +kernel) rfl
theorem wc_J2_indexOfSupplementary_4cfef : Cond.code yJ2_indexOfSupplementary_4cfef cJ2_indexOfSupplementary_4cfef 7 (some .int) ∈ lw_gd := gd_t (i := 363) (by decide +kernel) rfl
theorem wl_J2_164 : Cond.methodLink RJ2 164 yJ11_isValidCodePoint_9a6ad ∈ lw_gd := gd_t (i := 364) (by decide +kernel) rfl
theorem wt_J11_isValidCodePoint_9a6ad : Cond.static yJ11_isValidCodePoint_9a6ad ∈ lw_gd := gd_t (i := 365) (by decide +kernel) rfl
theorem wc_J11_isValidCodePoint_9a6ad : Cond.code yJ11_isValidCodePoint_9a6ad cJ11_isValidCodePoint_9a6ad 2 (some .boolean) ∈ lw_gd := gd_t (i := 366) (by decide +kernel) rfl
theorem wl_J2_157 : Cond.methodLink RJ2 157 yJ11_highSurrogate_5068e ∈ lw_gd := gd_t (i := 367) (by decide +kernel) rfl
theorem wt_J11_highSurrogate_5068e : Cond.static yJ11_highSurrogate_5068e ∈ lw_gd := gd_t (i := 368) (by decide +kernel) rfl
theorem wc_J11_highSurrogate_5068e : Cond.code yJ11_highSurrogate_5068e cJ11_highSurrogate_5068e 1 (some .char) ∈ lw_gd := gd_t (i := 369) (by decide +kernel) rfl
theorem wk_J11_110 : Cond.constant RJ11 110 55232 ∈ lw_gd := gd_t (i := 370) (by decide +kernel) rfl
theorem wl_J2_161 : Cond.methodLink RJ2 161 yJ11_lowSurrogate_5068e ∈ lw_gd := gd_t (i := 371) (by decide +kernel) rfl
theorem wt_J11_lowSurrogate_5068e : Cond.static yJ11_lowSurrogate_5068e ∈ lw_gd := gd_t (i := 372) (by decide +kernel) rfl
theorem wc_J11_lowSurrogate_5068e : Cond.code yJ11_lowSurrogate_5068e cJ11_lowSurrogate_5068e 1 (some .char) ∈ lw_gd := gd_t (i := 373) (by decide +kernel) rfl
theorem wk_J11_76 : Cond.constant RJ11 76 56320 ∈ lw_gd := gd_t (i := 374) (by decide +kernel) rfl
theorem wf_X5_51 : Cond.fieldLink RX5 51 "BesomYard$Told" "ITEMS_MOST" "[I" ∈ lw_gd := gd_t (i := 375) (by decide +kernel) rfl
theorem wls_376 : Cond.laysStatic RX5 "ITEMS_MOST" "[I" ∈ lw_tbl := gd_u (i := 376) (by decide +kernel)
theorem wf_X5_54 : Cond.fieldLink RX5 54 "BesomYard$Told" "NUMBERS" "[I" ∈ lw_gd := gd_t (i := 377) (by decide +kernel) rfl
theorem wls_378 : Cond.laysStatic RX5 "NUMBERS" "[I" ∈ lw_tbl := gd_u (i := 378) (by decide +kernel)
theorem wf_X5_57 : Cond.fieldLink RX5 57 "BesomYard$Told" "FIRST_ROW" "[I" ∈ lw_gd := gd_t (i := 379) (by decide +kernel) rfl
theorem wls_380 : Cond.laysStatic RX5 "FIRST_ROW" "[I" ∈ lw_tbl := gd_u (i := 380) (by decide +kernel)
theorem wl_X5_60 : Cond.methodLink RX5 60 yX4_tokenNumber ∈ lw_gd := gd_t (i := 381) (by decide +kernel) rfl
theorem wi_X4_tokenNumber : Cond.instanceMethod yX4_tokenNumber ∈ lw_gd := gd_t (i := 382) (by decide +kernel) rfl
theorem wv_X4_tokenNumber : Cond.selects yX4_tokenNumber.cls yX4_tokenNumber yX4_tokenNumber ∈ lw_gd := gd_t (i := 383) (by decide +kernel) rfl
theorem wc_X4_tokenNumber : Cond.code yX4_tokenNumber cX4_tokenNumber 1 (some .int) ∈ lw_gd := gd_t (i := 384) (by decide +kernel) rfl
theorem wl_X5_63 : Cond.methodLink RX5 63 yX5_take ∈ lw_gd := gd_t (i := 385) (by decide +kernel) rfl
theorem wi_X5_take : Cond.instanceMethod yX5_take ∈ lw_gd := gd_t (i := 387) (by decide +kernel) rfl
theorem wc_X5_take : Cond.code yX5_take cX5_take 4 (some .boolean) ∈ lw_gd := gd_t (i := 388) (by decide +kernel) rfl
theorem wf_X5_67 : Cond.fieldLink RX5 67 "BesomYard$Told" "LEAST" "[I" ∈ lw_gd := gd_t (i := 389) (by decide +kernel) rfl
theorem wls_390 : Cond.laysStatic RX5 "LEAST" "[I" ∈ lw_tbl := gd_u (i := 390) (by decide +kernel)
theorem wf_X5_70 : Cond.fieldLink RX5 70 "BesomYard$Told" "MOST" "[I" ∈ lw_gd := gd_t (i := 391) (by decide +kernel) rfl
theorem wls_392 : Cond.laysStatic RX5 "MOST" "[I" ∈ lw_tbl := gd_u (i := 392) (by decide +kernel)
theorem wl_X5_40 : Cond.methodLink RX5 40 yX4_tokenStart ∈ lw_gd := gd_t (i := 393) (by decide +kernel) rfl
theorem wi_X4_tokenStart : Cond.instanceMethod yX4_tokenStart ∈ lw_gd := gd_t (i := 394) (by decide +kernel) rfl
theorem wv_X4_tokenStart : Cond.selects yX4_tokenStart.cls yX4_tokenStart yX4_tokenStart ∈ lw_gd := gd_t (i := 395) (by decide +kernel) rfl
theorem wc_X4_tokenStart : Cond.code yX4_tokenStart cX4_tokenStart 1 (some .int) ∈ lw_gd := gd_t (i := 396) (by decide +kernel) rfl
theorem war_byte : Cond.arrayClass Jvm.ClassFile.FieldType.byte ∈ lw_gd := gd_t (i := 397) (by decide +kernel) rfl
theorem wl_L_27 : Cond.methodLink RL 27 yX6_part ∈ lw_gd := gd_t (i := 398) (by decide +kernel) rfl
theorem wi_X6_part : Cond.instanceMethod yX6_part ∈ lw_gd := gd_t (i := 399) (by decide +kernel) rfl
theorem wv_X6_part : Cond.selects yX6_part.cls yX6_part yX6_part ∈ lw_gd := gd_t (i := 400) (by decide +kernel) rfl
theorem wc_X6_part : Cond.code yX6_part cX6_part 3 (some .int) ∈ lw_gd := gd_t (i := 401) (by decide +kernel) rfl
theorem wl_X6_91 : Cond.methodLink RX6 91 yX6_isPart ∈ lw_gd := gd_t (i := 402) (by decide +kernel) rfl
theorem wi_X6_isPart : Cond.instanceMethod yX6_isPart ∈ lw_gd := gd_t (i := 404) (by decide +kernel) rfl
theorem wc_X6_isPart : Cond.code yX6_isPart cX6_isPart 2 (some .boolean) ∈ lw_gd := gd_t (i := 405) (by decide +kernel) rfl
theorem wl_X6_219 : Cond.methodLink RX6 219 yX5_parts ∈ lw_gd := gd_t (i := 406) (by decide +kernel) rfl
theorem wi_X5_parts : Cond.instanceMethod yX5_parts ∈ lw_gd := gd_t (i := 407) (by decide +kernel) rfl
theorem wv_X5_parts : Cond.selects yX5_parts.cls yX5_parts yX5_parts ∈ lw_gd := gd_t (i := 408) (by decide +kernel) rfl
theorem wc_X5_parts : Cond.code yX5_parts cX5_parts 1 (some .int) ∈ lw_gd := gd_t (i := 409) (by decide +kernel) rfl
theorem wl_X6_95 : Cond.methodLink RX6 95 yX5_value ∈ lw_gd := gd_t (i := 410) (by decide +kernel) rfl
theorem wl_X6_99 : Cond.methodLink RX6 99 yX1_age ∈ lw_gd := gd_t (i := 411) (by decide +kernel) rfl
theorem wi_X1_age : Cond.instanceMethod yX1_age ∈ lw_gd := gd_t (i := 412) (by decide +kernel) rfl
theorem wv_X1_age : Cond.selects yX1_age.cls yX1_age yX1_age ∈ lw_gd := gd_t (i := 413) (by decide +kernel) rfl
theorem wc_X1_age : Cond.code yX1_age cX1_age 2 (some .int) ∈ lw_gd := gd_t (i := 414) (by decide +kernel) rfl
theorem wl_X6_103 : Cond.methodLink RX6 103 yX6_giftOf ∈ lw_gd := gd_t (i := 415) (by decide +kernel) rfl
theorem wi_X6_giftOf : Cond.instanceMethod yX6_giftOf ∈ lw_gd := gd_t (i := 417) (by decide +kernel) rfl
theorem wc_X6_giftOf : Cond.code yX6_giftOf cX6_giftOf 2 (some .int) ∈ lw_gd := gd_t (i := 418) (by decide +kernel) rfl
theorem wl_X6_180 : Cond.methodLink RX6 180 yX5_ripe ∈ lw_gd := gd_t (i := 419) (by decide +kernel) rfl
theorem wi_X5_ripe : Cond.instanceMethod yX5_ripe ∈ lw_gd := gd_t (i := 420) (by decide +kernel) rfl
theorem wv_X5_ripe : Cond.selects yX5_ripe.cls yX5_ripe yX5_ripe ∈ lw_gd := gd_t (i := 421) (by decide +kernel) rfl
theorem wc_X5_ripe : Cond.code yX5_ripe cX5_ripe 1 (some .int) ∈ lw_gd := gd_t (i := 422) (by decide +kernel) rfl
theorem wl_X6_183 : Cond.methodLink RX6 183 yX6_gift ∈ lw_gd := gd_t (i := 423) (by decide +kernel) rfl
theorem wt_X6_gift : Cond.static yX6_gift ∈ lw_gd := gd_t (i := 424) (by decide +kernel) rfl
theorem wc_X6_gift : Cond.code yX6_gift cX6_gift 4 (some .int) ∈ lw_gd := gd_t (i := 425) (by decide +kernel) rfl
theorem wl_L_32 : Cond.methodLink RL 32 yX6_order ∈ lw_gd := gd_t (i := 426) (by decide +kernel) rfl
theorem wi_X6_order : Cond.instanceMethod yX6_order ∈ lw_gd := gd_t (i := 427) (by decide +kernel) rfl
theorem wv_X6_order : Cond.selects yX6_order.cls yX6_order yX6_order ∈ lw_gd := gd_t (i := 428) (by decide +kernel) rfl
theorem wc_X6_order : Cond.code yX6_order cX6_order 3 (some .int) ∈ lw_gd := gd_t (i := 429) (by decide +kernel) rfl
theorem wl_X6_106 : Cond.methodLink RX6 106 yX6_isOrder ∈ lw_gd := gd_t (i := 430) (by decide +kernel) rfl
theorem wi_X6_isOrder : Cond.instanceMethod yX6_isOrder ∈ lw_gd := gd_t (i := 432) (by decide +kernel) rfl
theorem wc_X6_isOrder : Cond.code yX6_isOrder cX6_isOrder 2 (some .boolean) ∈ lw_gd := gd_t (i := 433) (by decide +kernel) rfl
theorem wl_X6_203 : Cond.methodLink RX6 203 yX5_orders ∈ lw_gd := gd_t (i := 434) (by decide +kernel) rfl
theorem wi_X5_orders : Cond.instanceMethod yX5_orders ∈ lw_gd := gd_t (i := 435) (by decide +kernel) rfl
theorem wv_X5_orders : Cond.selects yX5_orders.cls yX5_orders yX5_orders ∈ lw_gd := gd_t (i := 436) (by decide +kernel) rfl
theorem wc_X5_orders : Cond.code yX5_orders cX5_orders 1 (some .int) ∈ lw_gd := gd_t (i := 437) (by decide +kernel) rfl
theorem wl_X6_109 : Cond.methodLink RX6 109 yX1_wasSent ∈ lw_gd := gd_t (i := 438) (by decide +kernel) rfl
theorem wi_X1_wasSent : Cond.instanceMethod yX1_wasSent ∈ lw_gd := gd_t (i := 439) (by decide +kernel) rfl
theorem wv_X1_wasSent : Cond.selects yX1_wasSent.cls yX1_wasSent yX1_wasSent ∈ lw_gd := gd_t (i := 440) (by decide +kernel) rfl
theorem wc_X1_wasSent : Cond.code yX1_wasSent cX1_wasSent 2 (some .boolean) ∈ lw_gd := gd_t (i := 441) (by decide +kernel) rfl
theorem wl_L_36 : Cond.methodLink RL 36 yX6_side ∈ lw_gd := gd_t (i := 442) (by decide +kernel) rfl
theorem wi_X6_side : Cond.instanceMethod yX6_side ∈ lw_gd := gd_t (i := 443) (by decide +kernel) rfl
theorem wv_X6_side : Cond.selects yX6_side.cls yX6_side yX6_side ∈ lw_gd := gd_t (i := 444) (by decide +kernel) rfl
theorem wc_X6_side : Cond.code yX6_side cX6_side 2 (some .int) ∈ lw_gd := gd_t (i := 445) (by decide +kernel) rfl
theorem wl_X6_112 : Cond.methodLink RX6 112 yX6_isSide ∈ lw_gd := gd_t (i := 446) (by decide +kernel) rfl
theorem wt_X6_isSide : Cond.static yX6_isSide ∈ lw_gd := gd_t (i := 447) (by decide +kernel) rfl
theorem wc_X6_isSide : Cond.code yX6_isSide cX6_isSide 1 (some .boolean) ∈ lw_gd := gd_t (i := 448) (by decide +kernel) rfl
theorem wl_X6_118 : Cond.methodLink RX6 118 yX0_lengthOf ∈ lw_gd := gd_t (i := 449) (by decide +kernel) rfl
theorem wi_X0_lengthOf : Cond.instanceMethod yX0_lengthOf ∈ lw_gd := gd_t (i := 450) (by decide +kernel) rfl
theorem wv_X0_lengthOf : Cond.selects yX0_lengthOf.cls yX0_lengthOf yX0_lengthOf ∈ lw_gd := gd_t (i := 451) (by decide +kernel) rfl
theorem wc_X0_lengthOf : Cond.code yX0_lengthOf cX0_lengthOf 2 (some .int) ∈ lw_gd := gd_t (i := 452) (by decide +kernel) rfl
theorem wl_L_40 : Cond.methodLink RL 40 yX6_now ∈ lw_gd := gd_t (i := 453) (by decide +kernel) rfl
theorem wi_X6_now : Cond.instanceMethod yX6_now ∈ lw_gd := gd_t (i := 454) (by decide +kernel) rfl
theorem wv_X6_now : Cond.selects yX6_now.cls yX6_now yX6_now ∈ lw_gd := gd_t (i := 455) (by decide +kernel) rfl
theorem wc_X6_now : Cond.code yX6_now cX6_now 2 (some .int) ∈ lw_gd := gd_t (i := 456) (by decide +kernel) rfl
theorem wl_L_44 : Cond.methodLink RL 44 yX6_cuts ∈ lw_gd := gd_t (i := 457) (by decide +kernel) rfl
theorem wi_X6_cuts : Cond.instanceMethod yX6_cuts ∈ lw_gd := gd_t (i := 458) (by decide +kernel) rfl
theorem wv_X6_cuts : Cond.selects yX6_cuts.cls yX6_cuts yX6_cuts ∈ lw_gd := gd_t (i := 459) (by decide +kernel) rfl
theorem wc_X6_cuts : Cond.code yX6_cuts cX6_cuts 3 (some .int) ∈ lw_gd := gd_t (i := 460) (by decide +kernel) rfl
theorem wl_X6_146 : Cond.methodLink RX6 146 yX6_remember ∈ lw_gd := gd_t (i := 461) (by decide +kernel) rfl
theorem wi_X6_remember : Cond.instanceMethod yX6_remember ∈ lw_gd := gd_t (i := 463) (by decide +kernel) rfl
theorem wc_X6_remember : Cond.code yX6_remember cX6_remember 1 none ∈ lw_gd := gd_t (i := 464) (by decide +kernel) rfl
theorem wl_X6_270 : Cond.methodLink RX6 270 yX3_put ∈ lw_gd := gd_t (i := 465) (by decide +kernel) rfl
theorem wi_X3_put : Cond.instanceMethod yX3_put ∈ lw_gd := gd_t (i := 466) (by decide +kernel) rfl
theorem wv_X3_put : Cond.selects yX3_put.cls yX3_put yX3_put ∈ lw_gd := gd_t (i := 467) (by decide +kernel) rfl
theorem wc_X3_put : Cond.code yX3_put cX3_put 4 none ∈ lw_gd := gd_t (i := 468) (by decide +kernel) rfl
theorem wl_X3_22 : Cond.methodLink RX3 22 yX3_placeAt ∈ lw_gd := gd_t (i := 469) (by decide +kernel) rfl
theorem wi_X3_placeAt : Cond.instanceMethod yX3_placeAt ∈ lw_gd := gd_t (i := 471) (by decide +kernel) rfl
theorem wc_X3_placeAt : Cond.code yX3_placeAt cX3_placeAt 2 (some (.object "BesomYard$Moment")) ∈ lw_gd := gd_t (i := 472) (by decide +kernel) rfl
theorem wl_X3_26 : Cond.methodLink RX3 26 yX1_setAs ∈ lw_gd := gd_t (i := 473) (by decide +kernel) rfl
theorem wi_X1_setAs : Cond.instanceMethod yX1_setAs ∈ lw_gd := gd_t (i := 474) (by decide +kernel) rfl
theorem wv_X1_setAs : Cond.selects yX1_setAs.cls yX1_setAs yX1_setAs ∈ lw_gd := gd_t (i := 475) (by decide +kernel) rfl
theorem wc_X1_setAs : Cond.code yX1_setAs cX1_setAs 3 none ∈ lw_gd := gd_t (i := 476) (by decide +kernel) rfl
theorem wl_X1_58 : Cond.methodLink RX1 58 yX1_age ∈ lw_gd := gd_t (i := 477) (by decide +kernel) rfl
theorem wl_X1_62 : Cond.methodLink RX1 62 yX0_setAs ∈ lw_gd := gd_t (i := 478) (by decide +kernel) rfl
theorem wi_X0_setAs : Cond.instanceMethod yX0_setAs ∈ lw_gd := gd_t (i := 479) (by decide +kernel) rfl
theorem wv_X0_setAs : Cond.selects yX0_setAs.cls yX0_setAs yX0_setAs ∈ lw_gd := gd_t (i := 480) (by decide +kernel) rfl
theorem wc_X0_setAs : Cond.code yX0_setAs cX0_setAs 3 none ∈ lw_gd := gd_t (i := 481) (by decide +kernel) rfl
theorem wl_X0_17 : Cond.methodLink RX0 17 yX0_lengthOf ∈ lw_gd := gd_t (i := 482) (by decide +kernel) rfl
theorem wl_X6_287 : Cond.methodLink RX6 287 yJ9_min_7cf53 ∈ lw_gd := gd_t (i := 483) (by decide +kernel) rfl
theorem wl_X6_149 : Cond.methodLink RX6 149 yX1_beCut ∈ lw_gd := gd_t (i := 484) (by decide +kernel) rfl
theorem wi_X1_beCut : Cond.instanceMethod yX1_beCut ∈ lw_gd := gd_t (i := 485) (by decide +kernel) rfl
theorem wv_X1_beCut : Cond.selects yX1_beCut.cls yX1_beCut yX1_beCut ∈ lw_gd := gd_t (i := 486) (by decide +kernel) rfl
theorem wc_X1_beCut : Cond.code yX1_beCut cX1_beCut 2 none ∈ lw_gd := gd_t (i := 487) (by decide +kernel) rfl
theorem wl_L_48 : Cond.methodLink RL 48 yX6_year ∈ lw_gd := gd_t (i := 488) (by decide +kernel) rfl
theorem wi_X6_year : Cond.instanceMethod yX6_year ∈ lw_gd := gd_t (i := 489) (by decide +kernel) rfl
theorem wv_X6_year : Cond.selects yX6_year.cls yX6_year yX6_year ∈ lw_gd := gd_t (i := 490) (by decide +kernel) rfl
theorem wc_X6_year : Cond.code yX6_year cX6_year 1 (some .int) ∈ lw_gd := gd_t (i := 491) (by decide +kernel) rfl
theorem wl_X6_152 : Cond.methodLink RX6 152 yX1_growOlder ∈ lw_gd := gd_t (i := 492) (by decide +kernel) rfl
theorem wi_X1_growOlder : Cond.instanceMethod yX1_growOlder ∈ lw_gd := gd_t (i := 493) (by decide +kernel) rfl
theorem wv_X1_growOlder : Cond.selects yX1_growOlder.cls yX1_growOlder yX1_growOlder ∈ lw_gd := gd_t (i := 494) (by decide +kernel) rfl
theorem wc_X1_growOlder : Cond.code yX1_growOlder cX1_growOlder 2 none ∈ lw_gd := gd_t (i := 495) (by decide +kernel) rfl
theorem wl_X1_26 : Cond.methodLink RX1 26 yJ9_min_7cf53 ∈ lw_gd := gd_t (i := 496) (by decide +kernel) rfl
theorem wl_L_52 : Cond.methodLink RL 52 yX6_binds ∈ lw_gd := gd_t (i := 497) (by decide +kernel) rfl
theorem wi_X6_binds : Cond.instanceMethod yX6_binds ∈ lw_gd := gd_t (i := 498) (by decide +kernel) rfl
theorem wv_X6_binds : Cond.selects yX6_binds.cls yX6_binds yX6_binds ∈ lw_gd := gd_t (i := 499) (by decide +kernel) rfl
theorem wc_X6_binds : Cond.code yX6_binds cX6_binds 4 (some .int) ∈ lw_gd := gd_t (i := 500) (by decide +kernel) rfl
theorem wl_X6_155 : Cond.methodLink RX6 155 yX5_twigs ∈ lw_gd := gd_t (i := 501) (by decide +kernel) rfl
theorem wi_X5_twigs : Cond.instanceMethod yX5_twigs ∈ lw_gd := gd_t (i := 502) (by decide +kernel) rfl
theorem wv_X5_twigs : Cond.selects yX5_twigs.cls yX5_twigs yX5_twigs ∈ lw_gd := gd_t (i := 503) (by decide +kernel) rfl
theorem wc_X5_twigs : Cond.code yX5_twigs cX5_twigs 1 (some .int) ∈ lw_gd := gd_t (i := 504) (by decide +kernel) rfl
theorem wl_X6_158 : Cond.methodLink RX6 158 yX5_pace ∈ lw_gd := gd_t (i := 505) (by decide +kernel) rfl
theorem wi_X5_pace : Cond.instanceMethod yX5_pace ∈ lw_gd := gd_t (i := 506) (by decide +kernel) rfl
theorem wv_X5_pace : Cond.selects yX5_pace.cls yX5_pace yX5_pace ∈ lw_gd := gd_t (i := 507) (by decide +kernel) rfl
theorem wc_X5_pace : Cond.code yX5_pace cX5_pace 1 (some .int) ∈ lw_gd := gd_t (i := 508) (by decide +kernel) rfl
theorem wl_X6_161 : Cond.methodLink RX6 161 yX6_cutUpwards ∈ lw_gd := gd_t (i := 509) (by decide +kernel) rfl
theorem wt_X6_cutUpwards : Cond.static yX6_cutUpwards ∈ lw_gd := gd_t (i := 510) (by decide +kernel) rfl
theorem wc_X6_cutUpwards : Cond.code yX6_cutUpwards cX6_cutUpwards 2 (some .int) ∈ lw_gd := gd_t (i := 511) (by decide +kernel) rfl
theorem wl_L_56 : Cond.methodLink RL 56 yX6_sends ∈ lw_gd := gd_t (i := 512) (by decide +kernel) rfl
theorem wi_X6_sends : Cond.instanceMethod yX6_sends ∈ lw_gd := gd_t (i := 513) (by decide +kernel) rfl
theorem wv_X6_sends : Cond.selects yX6_sends.cls yX6_sends yX6_sends ∈ lw_gd := gd_t (i := 514) (by decide +kernel) rfl
theorem wc_X6_sends : Cond.code yX6_sends cX6_sends 3 (some .int) ∈ lw_gd := gd_t (i := 515) (by decide +kernel) rfl
theorem wl_X6_164 : Cond.methodLink RX6 164 yX6_isLate ∈ lw_gd := gd_t (i := 516) (by decide +kernel) rfl
theorem wi_X6_isLate : Cond.instanceMethod yX6_isLate ∈ lw_gd := gd_t (i := 518) (by decide +kernel) rfl
theorem wc_X6_isLate : Cond.code yX6_isLate cX6_isLate 2 (some .boolean) ∈ lw_gd := gd_t (i := 519) (by decide +kernel) rfl
theorem wl_L_60 : Cond.methodLink RL 60 yX6_sweeps ∈ lw_gd := gd_t (i := 520) (by decide +kernel) rfl
theorem wi_X6_sweeps : Cond.instanceMethod yX6_sweeps ∈ lw_gd := gd_t (i := 521) (by decide +kernel) rfl
theorem wv_X6_sweeps : Cond.selects yX6_sweeps.cls yX6_sweeps yX6_sweeps ∈ lw_gd := gd_t (i := 522) (by decide +kernel) rfl
theorem wc_X6_sweeps : Cond.code yX6_sweeps cX6_sweeps 1 (some .int) ∈ lw_gd := gd_t (i := 523) (by decide +kernel) rfl
theorem wl_X6_167 : Cond.methodLink RX6 167 yX0_sweep ∈ lw_gd := gd_t (i := 524) (by decide +kernel) rfl
theorem wi_X0_sweep : Cond.instanceMethod yX0_sweep ∈ lw_gd := gd_t (i := 525) (by decide +kernel) rfl
theorem wv_X0_sweep : Cond.selects yX0_sweep.cls yX0_sweep yX0_sweep ∈ lw_gd := gd_t (i := 526) (by decide +kernel) rfl
theorem wc_X0_sweep : Cond.code yX0_sweep cX0_sweep 1 none ∈ lw_gd := gd_t (i := 527) (by decide +kernel) rfl
theorem wl_X0_21 : Cond.methodLink RX0 21 yX0_shorten ∈ lw_gd := gd_t (i := 528) (by decide +kernel) rfl
theorem wi_X0_shorten : Cond.instanceMethod yX0_shorten ∈ lw_gd := gd_t (i := 530) (by decide +kernel) rfl
theorem wc_X0_shorten : Cond.code yX0_shorten cX0_shorten 4 none ∈ lw_gd := gd_t (i := 531) (by decide +kernel) rfl
theorem wl_X0_25 : Cond.methodLink RX0 25 yJ9_floorMod_7cf53 ∈ lw_gd := gd_t (i := 532) (by decide +kernel) rfl
theorem wt_J9_floorMod_7cf53 : Cond.static yJ9_floorMod_7cf53 ∈ lw_gd := gd_t (i := 533) (by decide +kernel) rfl
theorem wc_J9_floorMod_7cf53 : Cond.code yJ9_floorMod_7cf53 cJ9_floorMod_7cf53 3 (some .int) ∈ lw_gd := gd_t (i := 534) (by decide +kernel) rfl
theorem wl_X0_31 : Cond.methodLink RX0 31 yJ9_max_7cf53 ∈ lw_gd := gd_t (i := 535) (by decide +kernel) rfl
theorem wl_L_64 : Cond.methodLink RL 64 yX6_spins ∈ lw_gd := gd_t (i := 536) (by decide +kernel) rfl
theorem wi_X6_spins : Cond.instanceMethod yX6_spins ∈ lw_gd := gd_t (i := 537) (by decide +kernel) rfl
theorem wv_X6_spins : Cond.selects yX6_spins.cls yX6_spins yX6_spins ∈ lw_gd := gd_t (i := 538) (by decide +kernel) rfl
theorem wc_X6_spins : Cond.code yX6_spins cX6_spins 2 (some .int) ∈ lw_gd := gd_t (i := 539) (by decide +kernel) rfl
theorem wl_X6_170 : Cond.methodLink RX6 170 yX0_turnBy ∈ lw_gd := gd_t (i := 540) (by decide +kernel) rfl
theorem wi_X0_turnBy : Cond.instanceMethod yX0_turnBy ∈ lw_gd := gd_t (i := 541) (by decide +kernel) rfl
theorem wv_X0_turnBy : Cond.selects yX0_turnBy.cls yX0_turnBy yX0_turnBy ∈ lw_gd := gd_t (i := 542) (by decide +kernel) rfl
theorem wc_X0_turnBy : Cond.code yX0_turnBy cX0_turnBy 2 none ∈ lw_gd := gd_t (i := 543) (by decide +kernel) rfl
theorem wl_L_68 : Cond.methodLink RL 68 yX6_undo ∈ lw_gd := gd_t (i := 544) (by decide +kernel) rfl
theorem wi_X6_undo : Cond.instanceMethod yX6_undo ∈ lw_gd := gd_t (i := 545) (by decide +kernel) rfl
theorem wv_X6_undo : Cond.selects yX6_undo.cls yX6_undo yX6_undo ∈ lw_gd := gd_t (i := 546) (by decide +kernel) rfl
theorem wc_X6_undo : Cond.code yX6_undo cX6_undo 1 (some .int) ∈ lw_gd := gd_t (i := 547) (by decide +kernel) rfl
theorem wl_X6_176 : Cond.methodLink RX6 176 yX3_take ∈ lw_gd := gd_t (i := 548) (by decide +kernel) rfl
theorem wi_X3_take : Cond.instanceMethod yX3_take ∈ lw_gd := gd_t (i := 549) (by decide +kernel) rfl
theorem wv_X3_take : Cond.selects yX3_take.cls yX3_take yX3_take ∈ lw_gd := gd_t (i := 550) (by decide +kernel) rfl
theorem wc_X3_take : Cond.code yX3_take cX3_take 4 none ∈ lw_gd := gd_t (i := 551) (by decide +kernel) rfl
theorem wl_L_72 : Cond.methodLink RL 72 yX6_inYears ∈ lw_gd := gd_t (i := 552) (by decide +kernel) rfl
theorem wi_X6_inYears : Cond.instanceMethod yX6_inYears ∈ lw_gd := gd_t (i := 553) (by decide +kernel) rfl
theorem wv_X6_inYears : Cond.selects yX6_inYears.cls yX6_inYears yX6_inYears ∈ lw_gd := gd_t (i := 554) (by decide +kernel) rfl
theorem wc_X6_inYears : Cond.code yX6_inYears cX6_inYears 3 (some .int) ∈ lw_gd := gd_t (i := 555) (by decide +kernel) rfl
theorem wl_L_76 : Cond.methodLink RL 76 yX6_turn ∈ lw_gd := gd_t (i := 556) (by decide +kernel) rfl
theorem wi_X6_turn : Cond.instanceMethod yX6_turn ∈ lw_gd := gd_t (i := 557) (by decide +kernel) rfl
theorem wv_X6_turn : Cond.selects yX6_turn.cls yX6_turn yX6_turn ∈ lw_gd := gd_t (i := 558) (by decide +kernel) rfl
theorem wc_X6_turn : Cond.code yX6_turn cX6_turn 4 (some .int) ∈ lw_gd := gd_t (i := 559) (by decide +kernel) rfl
theorem wl_X6_187 : Cond.methodLink RX6 187 yX6_bestTurn ∈ lw_gd := gd_t (i := 560) (by decide +kernel) rfl
theorem wi_X6_bestTurn : Cond.instanceMethod yX6_bestTurn ∈ lw_gd := gd_t (i := 562) (by decide +kernel) rfl
theorem wc_X6_bestTurn : Cond.code yX6_bestTurn cX6_bestTurn 5 (some .int) ∈ lw_gd := gd_t (i := 563) (by decide +kernel) rfl
theorem wl_X6_190 : Cond.methodLink RX6 190 yX6_inLeastTerms ∈ lw_gd := gd_t (i := 564) (by decide +kernel) rfl
theorem wt_X6_inLeastTerms : Cond.static yX6_inLeastTerms ∈ lw_gd := gd_t (i := 565) (by decide +kernel) rfl
theorem wc_X6_inLeastTerms : Cond.code yX6_inLeastTerms cX6_inLeastTerms 5 (some .int) ∈ lw_gd := gd_t (i := 566) (by decide +kernel) rfl
theorem wl_X6_322 : Cond.methodLink RX6 322 yX6_commonDivisor ∈ lw_gd := gd_t (i := 567) (by decide +kernel) rfl
theorem wt_X6_commonDivisor : Cond.static yX6_commonDivisor ∈ lw_gd := gd_t (i := 568) (by decide +kernel) rfl
theorem wc_X6_commonDivisor : Cond.code yX6_commonDivisor cX6_commonDivisor 6 (some .int) ∈ lw_gd := gd_t (i := 569) (by decide +kernel) rfl
theorem wl_L_80 : Cond.methodLink RL 80 yX6_plan ∈ lw_gd := gd_t (i := 570) (by decide +kernel) rfl
theorem wi_X6_plan : Cond.instanceMethod yX6_plan ∈ lw_gd := gd_t (i := 571) (by decide +kernel) rfl
theorem wv_X6_plan : Cond.selects yX6_plan.cls yX6_plan yX6_plan ∈ lw_gd := gd_t (i := 572) (by decide +kernel) rfl
theorem wc_X6_plan : Cond.code yX6_plan cX6_plan 3 (some .int) ∈ lw_gd := gd_t (i := 573) (by decide +kernel) rfl
theorem wl_X6_193 : Cond.methodLink RX6 193 yX2_find ∈ lw_gd := gd_t (i := 574) (by decide +kernel) rfl
theorem wi_X2_find : Cond.instanceMethod yX2_find ∈ lw_gd := gd_t (i := 575) (by decide +kernel) rfl
theorem wv_X2_find : Cond.selects yX2_find.cls yX2_find yX2_find ∈ lw_gd := gd_t (i := 576) (by decide +kernel) rfl
theorem wc_X2_find : Cond.code yX2_find cX2_find 8 none ∈ lw_gd := gd_t (i := 577) (by decide +kernel) rfl
theorem wl_X2_25 : Cond.methodLink RX2 25 yJ9_min_7cf53 ∈ lw_gd := gd_t (i := 578) (by decide +kernel) rfl
theorem wl_X2_31 : Cond.methodLink RX2 31 yJ9_max_7cf53 ∈ lw_gd := gd_t (i := 579) (by decide +kernel) rfl
theorem wl_X2_34 : Cond.methodLink RX2 34 yX2_gotIn ∈ lw_gd := gd_t (i := 580) (by decide +kernel) rfl
theorem wi_X2_gotIn : Cond.instanceMethod yX2_gotIn ∈ lw_gd := gd_t (i := 582) (by decide +kernel) rfl
theorem wc_X2_gotIn : Cond.code yX2_gotIn cX2_gotIn 7 (some .int) ∈ lw_gd := gd_t (i := 583) (by decide +kernel) rfl
theorem wl_X2_51 : Cond.methodLink RX2 51 yX1_age ∈ lw_gd := gd_t (i := 584) (by decide +kernel) rfl
theorem wl_X2_57 : Cond.methodLink RX2 57 yX5_value ∈ lw_gd := gd_t (i := 585) (by decide +kernel) rfl
theorem wl_X2_60 : Cond.methodLink RX2 60 yX5_ripe ∈ lw_gd := gd_t (i := 586) (by decide +kernel) rfl
theorem wmn_X2_63 : Cond.methodLinkNest RX2 63 yX6_gift "BesomYard" ∈ lw_tbl := gd_u (i := 587) (by decide +kernel)
theorem wl_X2_38 : Cond.methodLink RX2 38 yX2_compare ∈ lw_gd := gd_t (i := 588) (by decide +kernel) rfl
theorem wi_X2_compare : Cond.instanceMethod yX2_compare ∈ lw_gd := gd_t (i := 590) (by decide +kernel) rfl
theorem wc_X2_compare : Cond.code yX2_compare cX2_compare 3 none ∈ lw_gd := gd_t (i := 591) (by decide +kernel) rfl
theorem wl_X2_42 : Cond.methodLink RX2 42 yX5_parts ∈ lw_gd := gd_t (i := 592) (by decide +kernel) rfl
theorem wl_X2_48 : Cond.methodLink RX2 48 yX2_goToNextRow ∈ lw_gd := gd_t (i := 593) (by decide +kernel) rfl
theorem wi_X2_goToNextRow : Cond.instanceMethod yX2_goToNextRow ∈ lw_gd := gd_t (i := 595) (by decide +kernel) rfl
theorem wc_X2_goToNextRow : Cond.code yX2_goToNextRow cX2_goToNextRow 4 (some .int) ∈ lw_gd := gd_t (i := 596) (by decide +kernel) rfl
theorem wl_X6_197 : Cond.methodLink RX6 197 yX2_mostTwigs ∈ lw_gd := gd_t (i := 597) (by decide +kernel) rfl
theorem wi_X2_mostTwigs : Cond.instanceMethod yX2_mostTwigs ∈ lw_gd := gd_t (i := 598) (by decide +kernel) rfl
theorem wv_X2_mostTwigs : Cond.selects yX2_mostTwigs.cls yX2_mostTwigs yX2_mostTwigs ∈ lw_gd := gd_t (i := 599) (by decide +kernel) rfl
theorem wc_X2_mostTwigs : Cond.code yX2_mostTwigs cX2_mostTwigs 1 (some .int) ∈ lw_gd := gd_t (i := 600) (by decide +kernel) rfl
theorem wl_X6_200 : Cond.methodLink RX6 200 yX2_chosenIn ∈ lw_gd := gd_t (i := 601) (by decide +kernel) rfl
theorem wi_X2_chosenIn : Cond.instanceMethod yX2_chosenIn ∈ lw_gd := gd_t (i := 602) (by decide +kernel) rfl
theorem wv_X2_chosenIn : Cond.selects yX2_chosenIn.cls yX2_chosenIn yX2_chosenIn ∈ lw_gd := gd_t (i := 603) (by decide +kernel) rfl
theorem wc_X2_chosenIn : Cond.code yX2_chosenIn cX2_chosenIn 2 (some .int) ∈ lw_gd := gd_t (i := 604) (by decide +kernel) rfl
theorem wl_L_84 : Cond.methodLink RL 84 yX6_kept ∈ lw_gd := gd_t (i := 605) (by decide +kernel) rfl
theorem wi_X6_kept : Cond.instanceMethod yX6_kept ∈ lw_gd := gd_t (i := 606) (by decide +kernel) rfl
theorem wv_X6_kept : Cond.selects yX6_kept.cls yX6_kept yX6_kept ∈ lw_gd := gd_t (i := 607) (by decide +kernel) rfl
theorem wc_X6_kept : Cond.code yX6_kept cX6_kept 7 (some .int) ∈ lw_gd := gd_t (i := 608) (by decide +kernel) rfl
theorem wl_X6_206 : Cond.methodLink RX6 206 yX6_coinsOf ∈ lw_gd := gd_t (i := 609) (by decide +kernel) rfl
theorem wi_X6_coinsOf : Cond.instanceMethod yX6_coinsOf ∈ lw_gd := gd_t (i := 611) (by decide +kernel) rfl
theorem wc_X6_coinsOf : Cond.code yX6_coinsOf cX6_coinsOf 4 (some .int) ∈ lw_gd := gd_t (i := 612) (by decide +kernel) rfl
theorem wl_X6_209 : Cond.methodLink RX6 209 yX6_canBeKept ∈ lw_gd := gd_t (i := 613) (by decide +kernel) rfl
theorem wi_X6_canBeKept : Cond.instanceMethod yX6_canBeKept ∈ lw_gd := gd_t (i := 615) (by decide +kernel) rfl
theorem wc_X6_canBeKept : Cond.code yX6_canBeKept cX6_canBeKept 6 (some .boolean) ∈ lw_gd := gd_t (i := 616) (by decide +kernel) rfl
theorem wl_X6_292 : Cond.methodLink RX6 292 yX6_cutDownwards ∈ lw_gd := gd_t (i := 617) (by decide +kernel) rfl
theorem wt_X6_cutDownwards : Cond.static yX6_cutDownwards ∈ lw_gd := gd_t (i := 618) (by decide +kernel) rfl
theorem wc_X6_cutDownwards : Cond.code yX6_cutDownwards cX6_cutDownwards 2 (some .int) ∈ lw_gd := gd_t (i := 619) (by decide +kernel) rfl
theorem wl_X6_295 : Cond.methodLink RX6 295 yJ9_max_7cf53 ∈ lw_gd := gd_t (i := 620) (by decide +kernel) rfl
theorem wl_X6_298 : Cond.methodLink RX6 298 yX6_besomsDueBy ∈ lw_gd := gd_t (i := 621) (by decide +kernel) rfl
theorem wi_X6_besomsDueBy : Cond.instanceMethod yX6_besomsDueBy ∈ lw_gd := gd_t (i := 623) (by decide +kernel) rfl
theorem wc_X6_besomsDueBy : Cond.code yX6_besomsDueBy cX6_besomsDueBy 5 (some .int) ∈ lw_gd := gd_t (i := 624) (by decide +kernel) rfl
theorem wl_L_88 : Cond.methodLink RL 88 yX6_next ∈ lw_gd := gd_t (i := 625) (by decide +kernel) rfl
theorem wi_X6_next : Cond.instanceMethod yX6_next ∈ lw_gd := gd_t (i := 626) (by decide +kernel) rfl
theorem wv_X6_next : Cond.selects yX6_next.cls yX6_next yX6_next ∈ lw_gd := gd_t (i := 627) (by decide +kernel) rfl
theorem wc_X6_next : Cond.code yX6_next cX6_next 4 (some .int) ∈ lw_gd := gd_t (i := 628) (by decide +kernel) rfl
theorem wl_X6_212 : Cond.methodLink RX6 212 yX6_goesAhead ∈ lw_gd := gd_t (i := 629) (by decide +kernel) rfl
theorem wi_X6_goesAhead : Cond.instanceMethod yX6_goesAhead ∈ lw_gd := gd_t (i := 631) (by decide +kernel) rfl
theorem wc_X6_goesAhead : Cond.code yX6_goesAhead cX6_goesAhead 4 (some .boolean) ∈ lw_gd := gd_t (i := 632) (by decide +kernel) rfl
theorem wl_L_92 : Cond.methodLink RL 92 yX6_lack ∈ lw_gd := gd_t (i := 633) (by decide +kernel) rfl
theorem wi_X6_lack : Cond.instanceMethod yX6_lack ∈ lw_gd := gd_t (i := 634) (by decide +kernel) rfl
theorem wv_X6_lack : Cond.selects yX6_lack.cls yX6_lack yX6_lack ∈ lw_gd := gd_t (i := 635) (by decide +kernel) rfl
theorem wc_X6_lack : Cond.code yX6_lack cX6_lack 1 (some .int) ∈ lw_gd := gd_t (i := 636) (by decide +kernel) rfl
theorem wl_X6_216 : Cond.methodLink RX6 216 yX6_lackingTwigs ∈ lw_gd := gd_t (i := 637) (by decide +kernel) rfl
theorem wi_X6_lackingTwigs : Cond.instanceMethod yX6_lackingTwigs ∈ lw_gd := gd_t (i := 639) (by decide +kernel) rfl
theorem wc_X6_lackingTwigs : Cond.code yX6_lackingTwigs cX6_lackingTwigs 1 (some .int) ∈ lw_gd := gd_t (i := 640) (by decide +kernel) rfl
theorem wl_X6_230 : Cond.methodLink RX6 230 yX6_besomsToBind ∈ lw_gd := gd_t (i := 641) (by decide +kernel) rfl
theorem wi_X6_besomsToBind : Cond.instanceMethod yX6_besomsToBind ∈ lw_gd := gd_t (i := 643) (by decide +kernel) rfl
theorem wc_X6_besomsToBind : Cond.code yX6_besomsToBind cX6_besomsToBind 3 (some .int) ∈ lw_gd := gd_t (i := 644) (by decide +kernel) rfl
theorem wl_L_96 : Cond.methodLink RL 96 yX6_cutFor ∈ lw_gd := gd_t (i := 645) (by decide +kernel) rfl
theorem wi_X6_cutFor : Cond.instanceMethod yX6_cutFor ∈ lw_gd := gd_t (i := 646) (by decide +kernel) rfl
theorem wv_X6_cutFor : Cond.selects yX6_cutFor.cls yX6_cutFor yX6_cutFor ∈ lw_gd := gd_t (i := 647) (by decide +kernel) rfl
theorem wc_X6_cutFor : Cond.code yX6_cutFor cX6_cutFor 7 (some .int) ∈ lw_gd := gd_t (i := 648) (by decide +kernel) rfl
theorem wl_X6_222 : Cond.methodLink RX6 222 yJ6_bitCount_0f7a4 ∈ lw_gd := gd_t (i := 649) (by decide +kernel) rfl
theorem wt_J6_bitCount_0f7a4 : Cond.static yJ6_bitCount_0f7a4 ∈ lw_gd := gd_t (i := 650) (by decide +kernel) rfl
theorem wc_J6_bitCount_0f7a4 : Cond.code yJ6_bitCount_0f7a4 cJ6_bitCount_0f7a4 1 (some .int) ∈ lw_gd := gd_t (i := 651) (by decide +kernel) rfl
theorem wk_J6_265 : Cond.constant RJ6 265 1431655765 ∈ lw_gd := gd_t (i := 652) (by decide +kernel) rfl
theorem wk_J6_266 : Cond.constant RJ6 266 858993459 ∈ lw_gd := gd_t (i := 653) (by decide +kernel) rfl
theorem wk_J6_267 : Cond.constant RJ6 267 252645135 ∈ lw_gd := gd_t (i := 654) (by decide +kernel) rfl
theorem wl_X6_227 : Cond.methodLink RX6 227 yX6_giftsOf ∈ lw_gd := gd_t (i := 655) (by decide +kernel) rfl
theorem wi_X6_giftsOf : Cond.instanceMethod yX6_giftsOf ∈ lw_gd := gd_t (i := 657) (by decide +kernel) rfl
theorem wc_X6_giftsOf : Cond.code yX6_giftsOf cX6_giftsOf 4 (some .int) ∈ lw_gd := gd_t (i := 658) (by decide +kernel) rfl
theorem wl_L_100 : Cond.methodLink RL 100 yX6_allBy ∈ lw_gd := gd_t (i := 659) (by decide +kernel) rfl
theorem wi_X6_allBy : Cond.instanceMethod yX6_allBy ∈ lw_gd := gd_t (i := 660) (by decide +kernel) rfl
theorem wv_X6_allBy : Cond.selects yX6_allBy.cls yX6_allBy yX6_allBy ∈ lw_gd := gd_t (i := 661) (by decide +kernel) rfl
theorem wc_X6_allBy : Cond.code yX6_allBy cX6_allBy 1 (some .int) ∈ lw_gd := gd_t (i := 662) (by decide +kernel) rfl
theorem wl_L_104 : Cond.methodLink RL 104 yX6_lasts ∈ lw_gd := gd_t (i := 663) (by decide +kernel) rfl
theorem wi_X6_lasts : Cond.instanceMethod yX6_lasts ∈ lw_gd := gd_t (i := 664) (by decide +kernel) rfl
theorem wv_X6_lasts : Cond.selects yX6_lasts.cls yX6_lasts yX6_lasts ∈ lw_gd := gd_t (i := 665) (by decide +kernel) rfl
theorem wc_X6_lasts : Cond.code yX6_lasts cX6_lasts 2 (some .int) ∈ lw_gd := gd_t (i := 666) (by decide +kernel) rfl
theorem wl_X6_233 : Cond.methodLink RX6 233 yX6_sweepingsBy ∈ lw_gd := gd_t (i := 667) (by decide +kernel) rfl
theorem wi_X6_sweepingsBy : Cond.instanceMethod yX6_sweepingsBy ∈ lw_gd := gd_t (i := 669) (by decide +kernel) rfl
theorem wc_X6_sweepingsBy : Cond.code yX6_sweepingsBy cX6_sweepingsBy 3 (some .int) ∈ lw_gd := gd_t (i := 670) (by decide +kernel) rfl
theorem wl_X6_301 : Cond.methodLink RX6 301 yX0_setAs ∈ lw_gd := gd_t (i := 671) (by decide +kernel) rfl
theorem wl_X6_305 : Cond.methodLink RX6 305 yX0_isWornOut ∈ lw_gd := gd_t (i := 672) (by decide +kernel) rfl
theorem wi_X0_isWornOut : Cond.instanceMethod yX0_isWornOut ∈ lw_gd := gd_t (i := 673) (by decide +kernel) rfl
theorem wv_X0_isWornOut : Cond.selects yX0_isWornOut.cls yX0_isWornOut yX0_isWornOut ∈ lw_gd := gd_t (i := 674) (by decide +kernel) rfl
theorem wc_X0_isWornOut : Cond.code yX0_isWornOut cX0_isWornOut 2 (some .boolean) ∈ lw_gd := gd_t (i := 675) (by decide +kernel) rfl
theorem wl_L_108 : Cond.methodLink RL 108 yX6_latest ∈ lw_gd := gd_t (i := 676) (by decide +kernel) rfl
theorem wi_X6_latest : Cond.instanceMethod yX6_latest ∈ lw_gd := gd_t (i := 677) (by decide +kernel) rfl
theorem wv_X6_latest : Cond.selects yX6_latest.cls yX6_latest yX6_latest ∈ lw_gd := gd_t (i := 678) (by decide +kernel) rfl
theorem wc_X6_latest : Cond.code yX6_latest cX6_latest 5 (some .int) ∈ lw_gd := gd_t (i := 679) (by decide +kernel) rfl
theorem wl_L_112 : Cond.methodLink RL 112 yX6_saw ∈ lw_gd := gd_t (i := 680) (by decide +kernel) rfl
theorem wi_X6_saw : Cond.instanceMethod yX6_saw ∈ lw_gd := gd_t (i := 681) (by decide +kernel) rfl
theorem wv_X6_saw : Cond.selects yX6_saw.cls yX6_saw yX6_saw ∈ lw_gd := gd_t (i := 682) (by decide +kernel) rfl
theorem wc_X6_saw : Cond.code yX6_saw cX6_saw 4 (some .int) ∈ lw_gd := gd_t (i := 683) (by decide +kernel) rfl
theorem wl_L_117 : Cond.methodLink RL 117 yX6_forget ∈ lw_gd := gd_t (i := 684) (by decide +kernel) rfl
theorem wi_X6_forget : Cond.instanceMethod yX6_forget ∈ lw_gd := gd_t (i := 685) (by decide +kernel) rfl
theorem wv_X6_forget : Cond.selects yX6_forget.cls yX6_forget yX6_forget ∈ lw_gd := gd_t (i := 686) (by decide +kernel) rfl
theorem wc_X6_forget : Cond.code yX6_forget cX6_forget 2 (some .int) ∈ lw_gd := gd_t (i := 687) (by decide +kernel) rfl
theorem wl_L_121 : Cond.methodLink RL 121 yX6_which ∈ lw_gd := gd_t (i := 688) (by decide +kernel) rfl
theorem wi_X6_which : Cond.instanceMethod yX6_which ∈ lw_gd := gd_t (i := 689) (by decide +kernel) rfl
theorem wv_X6_which : Cond.selects yX6_which.cls yX6_which yX6_which ∈ lw_gd := gd_t (i := 690) (by decide +kernel) rfl
theorem wc_X6_which : Cond.code yX6_which cX6_which 3 (some .int) ∈ lw_gd := gd_t (i := 691) (by decide +kernel) rfl
theorem wl_X6_239 : Cond.methodLink RX6 239 yX6_allSeenIsSoBy ∈ lw_gd := gd_t (i := 692) (by decide +kernel) rfl
theorem wi_X6_allSeenIsSoBy : Cond.instanceMethod yX6_allSeenIsSoBy ∈ lw_gd := gd_t (i := 694) (by decide +kernel) rfl
theorem wc_X6_allSeenIsSoBy : Cond.code yX6_allSeenIsSoBy cX6_allSeenIsSoBy 3 (some .boolean) ∈ lw_gd := gd_t (i := 695) (by decide +kernel) rfl
theorem wl_X6_309 : Cond.methodLink RX6 309 yX6_seenFits ∈ lw_gd := gd_t (i := 696) (by decide +kernel) rfl
theorem wi_X6_seenFits : Cond.instanceMethod yX6_seenFits ∈ lw_gd := gd_t (i := 698) (by decide +kernel) rfl
theorem wc_X6_seenFits : Cond.code yX6_seenFits cX6_seenFits 3 (some .boolean) ∈ lw_gd := gd_t (i := 699) (by decide +kernel) rfl
theorem wl_L_125 : Cond.methodLink RL 125 yX6_odds ∈ lw_gd := gd_t (i := 700) (by decide +kernel) rfl
theorem wi_X6_odds : Cond.instanceMethod yX6_odds ∈ lw_gd := gd_t (i := 701) (by decide +kernel) rfl
theorem wv_X6_odds : Cond.selects yX6_odds.cls yX6_odds yX6_odds ∈ lw_gd := gd_t (i := 702) (by decide +kernel) rfl
theorem wc_X6_odds : Cond.code yX6_odds cX6_odds 7 (some .int) ∈ lw_gd := gd_t (i := 703) (by decide +kernel) rfl
theorem wl_X6_242 : Cond.methodLink RX6 242 yX6_waysToChoose ∈ lw_gd := gd_t (i := 704) (by decide +kernel) rfl
theorem wt_X6_waysToChoose : Cond.static yX6_waysToChoose ∈ lw_gd := gd_t (i := 705) (by decide +kernel) rfl
theorem wc_X6_waysToChoose : Cond.code yX6_waysToChoose cX6_waysToChoose 4 (some .int) ∈ lw_gd := gd_t (i := 706) (by decide +kernel) rfl
theorem wl_X6_245 : Cond.methodLink RX6 245 yX6_power ∈ lw_gd := gd_t (i := 707) (by decide +kernel) rfl
theorem wt_X6_power : Cond.static yX6_power ∈ lw_gd := gd_t (i := 708) (by decide +kernel) rfl
theorem wc_X6_power : Cond.code yX6_power cX6_power 4 (some .int) ∈ lw_gd := gd_t (i := 709) (by decide +kernel) rfl
theorem wl_L_130 : Cond.methodLink RL 130 yX6_rate ∈ lw_gd := gd_t (i := 710) (by decide +kernel) rfl
theorem wi_X6_rate : Cond.instanceMethod yX6_rate ∈ lw_gd := gd_t (i := 711) (by decide +kernel) rfl
theorem wv_X6_rate : Cond.selects yX6_rate.cls yX6_rate yX6_rate ∈ lw_gd := gd_t (i := 712) (by decide +kernel) rfl
theorem wc_X6_rate : Cond.code yX6_rate cX6_rate 3 (some .int) ∈ lw_gd := gd_t (i := 713) (by decide +kernel) rfl
theorem wk_X6_248 : Cond.constant RX6 248 (-1000000) ∈ lw_gd := gd_t (i := 714) (by decide +kernel) rfl
theorem wl_X6_249 : Cond.methodLink RX6 249 yX6_rateAsPart ∈ lw_gd := gd_t (i := 715) (by decide +kernel) rfl
theorem wi_X6_rateAsPart : Cond.instanceMethod yX6_rateAsPart ∈ lw_gd := gd_t (i := 717) (by decide +kernel) rfl
theorem wc_X6_rateAsPart : Cond.code yX6_rateAsPart cX6_rateAsPart 2 (some .int) ∈ lw_gd := gd_t (i := 718) (by decide +kernel) rfl
theorem wl_X6_252 : Cond.methodLink RX6 252 yX6_rateAsBirch ∈ lw_gd := gd_t (i := 719) (by decide +kernel) rfl
theorem wi_X6_rateAsBirch : Cond.instanceMethod yX6_rateAsBirch ∈ lw_gd := gd_t (i := 721) (by decide +kernel) rfl
theorem wc_X6_rateAsBirch : Cond.code yX6_rateAsBirch cX6_rateAsBirch 2 (some .int) ∈ lw_gd := gd_t (i := 722) (by decide +kernel) rfl
theorem wq_X6_312 : Cond.constantLong RX6 312 10 ∈ lw_gd := gd_t (i := 723) (by decide +kernel) rfl
theorem wl_X6_255 : Cond.methodLink RX6 255 yX6_rateAsHeather ∈ lw_gd := gd_t (i := 724) (by decide +kernel) rfl
theorem wi_X6_rateAsHeather : Cond.instanceMethod yX6_rateAsHeather ∈ lw_gd := gd_t (i := 726) (by decide +kernel) rfl
theorem wc_X6_rateAsHeather : Cond.code yX6_rateAsHeather cX6_rateAsHeather 2 (some .int) ∈ lw_gd := gd_t (i := 727) (by decide +kernel) rfl
theorem wq_X6_314 : Cond.constantLong RX6 314 100 ∈ lw_gd := gd_t (i := 728) (by decide +kernel) rfl
theorem wl_X6_258 : Cond.methodLink RX6 258 yX6_rateAsStake ∈ lw_gd := gd_t (i := 729) (by decide +kernel) rfl
theorem wi_X6_rateAsStake : Cond.instanceMethod yX6_rateAsStake ∈ lw_gd := gd_t (i := 731) (by decide +kernel) rfl
theorem wc_X6_rateAsStake : Cond.code yX6_rateAsStake cX6_rateAsStake 2 (some .int) ∈ lw_gd := gd_t (i := 732) (by decide +kernel) rfl
theorem wq_X6_316 : Cond.constantLong RX6 316 1000 ∈ lw_gd := gd_t (i := 733) (by decide +kernel) rfl
theorem wl_X6_261 : Cond.methodLink RX6 261 yX6_rateAsKnot ∈ lw_gd := gd_t (i := 734) (by decide +kernel) rfl
theorem wi_X6_rateAsKnot : Cond.instanceMethod yX6_rateAsKnot ∈ lw_gd := gd_t (i := 736) (by decide +kernel) rfl
theorem wc_X6_rateAsKnot : Cond.code yX6_rateAsKnot cX6_rateAsKnot 2 (some .int) ∈ lw_gd := gd_t (i := 737) (by decide +kernel) rfl
theorem wq_X6_318 : Cond.constantLong RX6 318 10000 ∈ lw_gd := gd_t (i := 738) (by decide +kernel) rfl
theorem wl_X6_264 : Cond.methodLink RX6 264 yX6_rateAsBramble ∈ lw_gd := gd_t (i := 739) (by decide +kernel) rfl
theorem wi_X6_rateAsBramble : Cond.instanceMethod yX6_rateAsBramble ∈ lw_gd := gd_t (i := 741) (by decide +kernel) rfl
theorem wc_X6_rateAsBramble : Cond.code yX6_rateAsBramble cX6_rateAsBramble 2 (some .int) ∈ lw_gd := gd_t (i := 742) (by decide +kernel) rfl
theorem wq_X6_320 : Cond.constantLong RX6 320 100000 ∈ lw_gd := gd_t (i := 743) (by decide +kernel) rfl
theorem wl_L_134 : Cond.methodLink RL 134 yX6_keep ∈ lw_gd := gd_t (i := 744) (by decide +kernel) rfl
theorem wi_X6_keep : Cond.instanceMethod yX6_keep ∈ lw_gd := gd_t (i := 745) (by decide +kernel) rfl
theorem wv_X6_keep : Cond.selects yX6_keep.cls yX6_keep yX6_keep ∈ lw_gd := gd_t (i := 746) (by decide +kernel) rfl
theorem wc_X6_keep : Cond.code yX6_keep cX6_keep 2 (some .int) ∈ lw_gd := gd_t (i := 747) (by decide +kernel) rfl
theorem wl_X6_267 : Cond.methodLink RX6 267 yX6_isImage ∈ lw_gd := gd_t (i := 748) (by decide +kernel) rfl
theorem wt_X6_isImage : Cond.static yX6_isImage ∈ lw_gd := gd_t (i := 749) (by decide +kernel) rfl
theorem wc_X6_isImage : Cond.code yX6_isImage cX6_isImage 1 (some .boolean) ∈ lw_gd := gd_t (i := 750) (by decide +kernel) rfl
theorem wl_L_138 : Cond.methodLink RL 138 yX6_back ∈ lw_gd := gd_t (i := 751) (by decide +kernel) rfl
theorem wi_X6_back : Cond.instanceMethod yX6_back ∈ lw_gd := gd_t (i := 752) (by decide +kernel) rfl
theorem wv_X6_back : Cond.selects yX6_back.cls yX6_back yX6_back ∈ lw_gd := gd_t (i := 753) (by decide +kernel) rfl
theorem wc_X6_back : Cond.code yX6_back cX6_back 2 (some .int) ∈ lw_gd := gd_t (i := 754) (by decide +kernel) rfl
theorem wl_L_142 : Cond.methodLink RL 142 yX6_count ∈ lw_gd := gd_t (i := 755) (by decide +kernel) rfl
theorem wi_X6_count : Cond.instanceMethod yX6_count ∈ lw_gd := gd_t (i := 756) (by decide +kernel) rfl
theorem wv_X6_count : Cond.selects yX6_count.cls yX6_count yX6_count ∈ lw_gd := gd_t (i := 757) (by decide +kernel) rfl
theorem wc_X6_count : Cond.code yX6_count cX6_count 2 (some .int) ∈ lw_gd := gd_t (i := 758) (by decide +kernel) rfl
theorem wl_X6_276 : Cond.methodLink RX6 276 yX5_lengthAtFirst ∈ lw_gd := gd_t (i := 759) (by decide +kernel) rfl
theorem wl_L_146 : Cond.methodLink RL 146 yX6_trace ∈ lw_gd := gd_t (i := 760) (by decide +kernel) rfl
theorem wi_X6_trace : Cond.instanceMethod yX6_trace ∈ lw_gd := gd_t (i := 761) (by decide +kernel) rfl
theorem wv_X6_trace : Cond.selects yX6_trace.cls yX6_trace yX6_trace ∈ lw_gd := gd_t (i := 762) (by decide +kernel) rfl
theorem wc_X6_trace : Cond.code yX6_trace cX6_trace 1 (some .long) ∈ lw_gd := gd_t (i := 763) (by decide +kernel) rfl
theorem wcl_L_10 : Cond.classLink RL 10 "BesomYardModel" ∈ lw_gd := gd_t (i := 764) (by decide +kernel) rfl
theorem win_X7 : Cond.instantiable RX7 28 ∈ lw_gd := gd_t (i := 765) (by decide +kernel) rfl
theorem wl_L_12 : Cond.methodLink RL 12 yX7_init ∈ lw_gd := gd_t (i := 766) (by decide +kernel) rfl
theorem wi_X7_init : Cond.instanceMethod yX7_init ∈ lw_gd := gd_t (i := 767) (by decide +kernel) rfl
theorem wc_X7_init : Cond.code yX7_init cX7_init 1 none ∈ lw_gd := gd_t (i := 768) (by decide +kernel) rfl
theorem wl_X7_1 : Cond.methodLink RX7 1 ⟨"java/lang/Object", "<init>", "()V"⟩ ∈ lw_gd := gd_t (i := 769) (by decide +kernel) rfl
theorem wl_X7_62 : Cond.methodLink RX7 62 yX7_begins ∈ lw_gd := gd_t (i := 770) (by decide +kernel) rfl
theorem wi_X7_begins : Cond.instanceMethod yX7_begins ∈ lw_gd := gd_t (i := 772) (by decide +kernel) rfl
theorem wc_X7_begins : Cond.code yX7_begins cX7_begins 1 none ∈ lw_gd := gd_t (i := 773) (by decide +kernel) rfl
theorem wl_X7_65 : Cond.methodLink RX7 65 yX7_settles ∈ lw_gd := gd_t (i := 774) (by decide +kernel) rfl
theorem wi_X7_settles : Cond.instanceMethod yX7_settles ∈ lw_gd := gd_t (i := 776) (by decide +kernel) rfl
theorem wc_X7_settles : Cond.code yX7_settles cX7_settles 2 none ∈ lw_gd := gd_t (i := 777) (by decide +kernel) rfl
theorem wf_X7_68 : Cond.fieldLink RX7 68 "BesomYardModel" "thrown" "I" ∈ lw_gd := gd_t (i := 778) (by decide +kernel) rfl
theorem wf_X7_214 : Cond.fieldLink RX7 214 "BesomYardModel" "trace" "J" ∈ lw_gd := gd_t (i := 779) (by decide +kernel) rfl
theorem wf_X7_7 : Cond.fieldLink RX7 7 "BesomYardModel" "text" "[I" ∈ lw_gd := gd_t (i := 780) (by decide +kernel) rfl
theorem wf_X7_76 : Cond.fieldLink RX7 76 "BesomYardModel" "typed" "I" ∈ lw_gd := gd_t (i := 781) (by decide +kernel) rfl
theorem wf_X7_79 : Cond.fieldLink RX7 79 "BesomYardModel" "next" "I" ∈ lw_gd := gd_t (i := 782) (by decide +kernel) rfl
theorem wf_X7_89 : Cond.fieldLink RX7 89 "BesomYardModel" "token" "I" ∈ lw_gd := gd_t (i := 783) (by decide +kernel) rfl
theorem wf_X7_86 : Cond.fieldLink RX7 86 "BesomYardModel" "place" "I" ∈ lw_gd := gd_t (i := 784) (by decide +kernel) rfl
theorem wf_X7_92 : Cond.fieldLink RX7 92 "BesomYardModel" "value" "I" ∈ lw_gd := gd_t (i := 785) (by decide +kernel) rfl
theorem wf_X7_99 : Cond.fieldLink RX7 99 "BesomYardModel" "fault" "I" ∈ lw_gd := gd_t (i := 786) (by decide +kernel) rfl
theorem wf_X7_13 : Cond.fieldLink RX7 13 "BesomYardModel" "many" "[I" ∈ lw_gd := gd_t (i := 787) (by decide +kernel) rfl
theorem wf_X7_113 : Cond.fieldLink RX7 113 "BesomYardModel" "told" "I" ∈ lw_gd := gd_t (i := 788) (by decide +kernel) rfl
theorem wf_X7_16 : Cond.fieldLink RX7 16 "BesomYardModel" "size" "[I" ∈ lw_gd := gd_t (i := 789) (by decide +kernel) rfl
theorem wf_X7_19 : Cond.fieldLink RX7 19 "BesomYardModel" "age" "[I" ∈ lw_gd := gd_t (i := 790) (by decide +kernel) rfl
theorem wf_X7_22 : Cond.fieldLink RX7 22 "BesomYardModel" "dayOf" "[I" ∈ lw_gd := gd_t (i := 791) (by decide +kernel) rfl
theorem wf_X7_25 : Cond.fieldLink RX7 25 "BesomYardModel" "besoms" "[I" ∈ lw_gd := gd_t (i := 792) (by decide +kernel) rfl
theorem wf_X7_28 : Cond.fieldLink RX7 28 "BesomYardModel" "coins" "[I" ∈ lw_gd := gd_t (i := 793) (by decide +kernel) rfl
theorem wf_X7_31 : Cond.fieldLink RX7 31 "BesomYardModel" "s" "[I" ∈ lw_gd := gd_t (i := 794) (by decide +kernel) rfl
theorem wf_X7_34 : Cond.fieldLink RX7 34 "BesomYardModel" "w" "[I" ∈ lw_gd := gd_t (i := 795) (by decide +kernel) rfl
theorem wf_X7_37 : Cond.fieldLink RX7 37 "BesomYardModel" "kept" "[I" ∈ lw_gd := gd_t (i := 796) (by decide +kernel) rfl
theorem wf_X7_40 : Cond.fieldLink RX7 40 "BesomYardModel" "isKept" "[Z" ∈ lw_gd := gd_t (i := 797) (by decide +kernel) rfl
theorem wf_X7_44 : Cond.fieldLink RX7 44 "BesomYardModel" "undos" "[I" ∈ lw_gd := gd_t (i := 798) (by decide +kernel) rfl
theorem wf_X7_133 : Cond.fieldLink RX7 133 "BesomYardModel" "undoMany" "I" ∈ lw_gd := gd_t (i := 799) (by decide +kernel) rfl
theorem wf_X7_47 : Cond.fieldLink RX7 47 "BesomYardModel" "sawBehind" "[I" ∈ lw_gd := gd_t (i := 800) (by decide +kernel) rfl
theorem wf_X7_50 : Cond.fieldLink RX7 50 "BesomYardModel" "sawSide" "[I" ∈ lw_gd := gd_t (i := 801) (by decide +kernel) rfl
theorem wf_X7_53 : Cond.fieldLink RX7 53 "BesomYardModel" "sawLong" "[I" ∈ lw_gd := gd_t (i := 802) (by decide +kernel) rfl
theorem wf_X7_130 : Cond.fieldLink RX7 130 "BesomYardModel" "sawMany" "I" ∈ lw_gd := gd_t (i := 803) (by decide +kernel) rfl
theorem wf_X7_56 : Cond.fieldLink RX7 56 "BesomYardModel" "row" "[I" ∈ lw_gd := gd_t (i := 804) (by decide +kernel) rfl
theorem wf_X7_59 : Cond.fieldLink RX7 59 "BesomYardModel" "best" "[I" ∈ lw_gd := gd_t (i := 805) (by decide +kernel) rfl
theorem wl_L_17 : Cond.methodLink RL 17 yX7_type ∈ lw_gd := gd_t (i := 863) (by decide +kernel) rfl
theorem wi_X7_type : Cond.instanceMethod yX7_type ∈ lw_gd := gd_t (i := 864) (by decide +kernel) rfl
theorem wv_X7_type : Cond.selects yX7_type.cls yX7_type yX7_type ∈ lw_gd := gd_t (i := 865) (by decide +kernel) rfl
theorem wc_X7_type : Cond.code yX7_type cX7_type 2 (some .int) ∈ lw_gd := gd_t (i := 866) (by decide +kernel) rfl
theorem wl_X7_72 : Cond.methodLink RX7 72 yX7_in ∈ lw_gd := gd_t (i := 867) (by decide +kernel) rfl
theorem wt_X7_in : Cond.static yX7_in ∈ lw_gd := gd_t (i := 868) (by decide +kernel) rfl
theorem wc_X7_in : Cond.code yX7_in cX7_in 3 (some .boolean) ∈ lw_gd := gd_t (i := 869) (by decide +kernel) rfl
theorem wl_L_22 : Cond.methodLink RL 22 yX7_clear ∈ lw_gd := gd_t (i := 870) (by decide +kernel) rfl
theorem wi_X7_clear : Cond.instanceMethod yX7_clear ∈ lw_gd := gd_t (i := 871) (by decide +kernel) rfl
theorem wv_X7_clear : Cond.selects yX7_clear.cls yX7_clear yX7_clear ∈ lw_gd := gd_t (i := 872) (by decide +kernel) rfl
theorem wc_X7_clear : Cond.code yX7_clear cX7_clear 2 (some .int) ∈ lw_gd := gd_t (i := 873) (by decide +kernel) rfl
theorem wl_L_26 : Cond.methodLink RL 26 yX7_yard ∈ lw_gd := gd_t (i := 874) (by decide +kernel) rfl
theorem wi_X7_yard : Cond.instanceMethod yX7_yard ∈ lw_gd := gd_t (i := 875) (by decide +kernel) rfl
theorem wv_X7_yard : Cond.selects yX7_yard.cls yX7_yard yX7_yard ∈ lw_gd := gd_t (i := 876) (by decide +kernel) rfl
theorem wc_X7_yard : Cond.code yX7_yard cX7_yard 3 (some .int) ∈ lw_gd := gd_t (i := 877) (by decide +kernel) rfl
theorem wl_X7_106 : Cond.methodLink RX7 106 yX7_advances ∈ lw_gd := gd_t (i := 878) (by decide +kernel) rfl
theorem wi_X7_advances : Cond.instanceMethod yX7_advances ∈ lw_gd := gd_t (i := 880) (by decide +kernel) rfl
theorem wc_X7_advances : Cond.code yX7_advances cX7_advances 2 none ∈ lw_gd := gd_t (i := 881) (by decide +kernel) rfl
theorem wl_X7_82 : Cond.methodLink RX7 82 yX7_letterAt ∈ lw_gd := gd_t (i := 882) (by decide +kernel) rfl
theorem wi_X7_letterAt : Cond.instanceMethod yX7_letterAt ∈ lw_gd := gd_t (i := 884) (by decide +kernel) rfl
theorem wc_X7_letterAt : Cond.code yX7_letterAt cX7_letterAt 2 (some .int) ∈ lw_gd := gd_t (i := 885) (by decide +kernel) rfl
theorem wl_X7_95 : Cond.methodLink RX7 95 yX7_isLetter ∈ lw_gd := gd_t (i := 886) (by decide +kernel) rfl
theorem wt_X7_isLetter : Cond.static yX7_isLetter ∈ lw_gd := gd_t (i := 887) (by decide +kernel) rfl
theorem wc_X7_isLetter : Cond.code yX7_isLetter cX7_isLetter 1 (some .boolean) ∈ lw_gd := gd_t (i := 888) (by decide +kernel) rfl
theorem wl_X7_102 : Cond.methodLink RX7 102 yX7_isWell ∈ lw_gd := gd_t (i := 889) (by decide +kernel) rfl
theorem wi_X7_isWell : Cond.instanceMethod yX7_isWell ∈ lw_gd := gd_t (i := 891) (by decide +kernel) rfl
theorem wc_X7_isWell : Cond.code yX7_isWell cX7_isWell 1 (some .boolean) ∈ lw_gd := gd_t (i := 892) (by decide +kernel) rfl
theorem wl_X7_123 : Cond.methodLink RX7 123 yX7_mayBegin ∈ lw_gd := gd_t (i := 893) (by decide +kernel) rfl
theorem wi_X7_mayBegin : Cond.instanceMethod yX7_mayBegin ∈ lw_gd := gd_t (i := 895) (by decide +kernel) rfl
theorem wc_X7_mayBegin : Cond.code yX7_mayBegin cX7_mayBegin 1 (some .boolean) ∈ lw_gd := gd_t (i := 896) (by decide +kernel) rfl
theorem wl_X7_116 : Cond.methodLink RX7 116 yX7_fixed ∈ lw_gd := gd_t (i := 897) (by decide +kernel) rfl
theorem wt_X7_fixed : Cond.static yX7_fixed ∈ lw_gd := gd_t (i := 898) (by decide +kernel) rfl
theorem wc_X7_fixed : Cond.code yX7_fixed cX7_fixed 1 (some .int) ∈ lw_gd := gd_t (i := 899) (by decide +kernel) rfl
theorem wl_X7_109 : Cond.methodLink RX7 109 yX7_takes ∈ lw_gd := gd_t (i := 900) (by decide +kernel) rfl
theorem wi_X7_takes : Cond.instanceMethod yX7_takes ∈ lw_gd := gd_t (i := 902) (by decide +kernel) rfl
theorem wc_X7_takes : Cond.code yX7_takes cX7_takes 3 (some .int) ∈ lw_gd := gd_t (i := 903) (by decide +kernel) rfl
theorem wl_X7_126 : Cond.methodLink RX7 126 yX7_readsItem ∈ lw_gd := gd_t (i := 904) (by decide +kernel) rfl
theorem wi_X7_readsItem : Cond.instanceMethod yX7_readsItem ∈ lw_gd := gd_t (i := 906) (by decide +kernel) rfl
theorem wc_X7_readsItem : Cond.code yX7_readsItem cX7_readsItem 3 none ∈ lw_gd := gd_t (i := 907) (by decide +kernel) rfl
theorem wl_X7_119 : Cond.methodLink RX7 119 yX7_number ∈ lw_gd := gd_t (i := 908) (by decide +kernel) rfl
theorem wi_X7_number : Cond.instanceMethod yX7_number ∈ lw_gd := gd_t (i := 910) (by decide +kernel) rfl
theorem wc_X7_number : Cond.code yX7_number cX7_number 3 (some .int) ∈ lw_gd := gd_t (i := 911) (by decide +kernel) rfl
theorem wl_L_31 : Cond.methodLink RL 31 yX7_part ∈ lw_gd := gd_t (i := 912) (by decide +kernel) rfl
theorem wi_X7_part : Cond.instanceMethod yX7_part ∈ lw_gd := gd_t (i := 913) (by decide +kernel) rfl
theorem wv_X7_part : Cond.selects yX7_part.cls yX7_part yX7_part ∈ lw_gd := gd_t (i := 914) (by decide +kernel) rfl
theorem wc_X7_part : Cond.code yX7_part cX7_part 3 (some .int) ∈ lw_gd := gd_t (i := 915) (by decide +kernel) rfl
theorem wl_X7_139 : Cond.methodLink RX7 139 yX7_isPart ∈ lw_gd := gd_t (i := 916) (by decide +kernel) rfl
theorem wi_X7_isPart : Cond.instanceMethod yX7_isPart ∈ lw_gd := gd_t (i := 918) (by decide +kernel) rfl
theorem wc_X7_isPart : Cond.code yX7_isPart cX7_isPart 2 (some .boolean) ∈ lw_gd := gd_t (i := 919) (by decide +kernel) rfl
theorem wl_X7_142 : Cond.methodLink RX7 142 yX7_gives ∈ lw_gd := gd_t (i := 920) (by decide +kernel) rfl
theorem wi_X7_gives : Cond.instanceMethod yX7_gives ∈ lw_gd := gd_t (i := 922) (by decide +kernel) rfl
theorem wc_X7_gives : Cond.code yX7_gives cX7_gives 3 (some .int) ∈ lw_gd := gd_t (i := 923) (by decide +kernel) rfl
theorem wl_X7_136 : Cond.methodLink RX7 136 yX7_givesAt ∈ lw_gd := gd_t (i := 924) (by decide +kernel) rfl
theorem wi_X7_givesAt : Cond.instanceMethod yX7_givesAt ∈ lw_gd := gd_t (i := 926) (by decide +kernel) rfl
theorem wc_X7_givesAt : Cond.code yX7_givesAt cX7_givesAt 4 (some .int) ∈ lw_gd := gd_t (i := 927) (by decide +kernel) rfl
theorem wl_L_35 : Cond.methodLink RL 35 yX7_order ∈ lw_gd := gd_t (i := 928) (by decide +kernel) rfl
theorem wi_X7_order : Cond.instanceMethod yX7_order ∈ lw_gd := gd_t (i := 929) (by decide +kernel) rfl
theorem wv_X7_order : Cond.selects yX7_order.cls yX7_order yX7_order ∈ lw_gd := gd_t (i := 930) (by decide +kernel) rfl
theorem wc_X7_order : Cond.code yX7_order cX7_order 3 (some .int) ∈ lw_gd := gd_t (i := 931) (by decide +kernel) rfl
theorem wl_X7_146 : Cond.methodLink RX7 146 yX7_isOrder ∈ lw_gd := gd_t (i := 932) (by decide +kernel) rfl
theorem wi_X7_isOrder : Cond.instanceMethod yX7_isOrder ∈ lw_gd := gd_t (i := 934) (by decide +kernel) rfl
theorem wc_X7_isOrder : Cond.code yX7_isOrder cX7_isOrder 2 (some .boolean) ∈ lw_gd := gd_t (i := 935) (by decide +kernel) rfl
theorem wl_X7_149 : Cond.methodLink RX7 149 yX7_isSent ∈ lw_gd := gd_t (i := 936) (by decide +kernel) rfl
theorem wi_X7_isSent : Cond.instanceMethod yX7_isSent ∈ lw_gd := gd_t (i := 938) (by decide +kernel) rfl
theorem wc_X7_isSent : Cond.code yX7_isSent cX7_isSent 2 (some .boolean) ∈ lw_gd := gd_t (i := 939) (by decide +kernel) rfl
theorem wl_L_39 : Cond.methodLink RL 39 yX7_side ∈ lw_gd := gd_t (i := 940) (by decide +kernel) rfl
theorem wi_X7_side : Cond.instanceMethod yX7_side ∈ lw_gd := gd_t (i := 941) (by decide +kernel) rfl
theorem wv_X7_side : Cond.selects yX7_side.cls yX7_side yX7_side ∈ lw_gd := gd_t (i := 942) (by decide +kernel) rfl
theorem wc_X7_side : Cond.code yX7_side cX7_side 2 (some .int) ∈ lw_gd := gd_t (i := 943) (by decide +kernel) rfl
theorem wl_L_43 : Cond.methodLink RL 43 yX7_now ∈ lw_gd := gd_t (i := 944) (by decide +kernel) rfl
theorem wi_X7_now : Cond.instanceMethod yX7_now ∈ lw_gd := gd_t (i := 945) (by decide +kernel) rfl
theorem wv_X7_now : Cond.selects yX7_now.cls yX7_now yX7_now ∈ lw_gd := gd_t (i := 946) (by decide +kernel) rfl
theorem wc_X7_now : Cond.code yX7_now cX7_now 2 (some .int) ∈ lw_gd := gd_t (i := 947) (by decide +kernel) rfl
theorem wl_L_47 : Cond.methodLink RL 47 yX7_cuts ∈ lw_gd := gd_t (i := 948) (by decide +kernel) rfl
theorem wi_X7_cuts : Cond.instanceMethod yX7_cuts ∈ lw_gd := gd_t (i := 949) (by decide +kernel) rfl
theorem wv_X7_cuts : Cond.selects yX7_cuts.cls yX7_cuts yX7_cuts ∈ lw_gd := gd_t (i := 950) (by decide +kernel) rfl
theorem wc_X7_cuts : Cond.code yX7_cuts cX7_cuts 2 (some .int) ∈ lw_gd := gd_t (i := 951) (by decide +kernel) rfl
theorem wl_X7_152 : Cond.methodLink RX7 152 yX7_notes ∈ lw_gd := gd_t (i := 952) (by decide +kernel) rfl
theorem wi_X7_notes : Cond.instanceMethod yX7_notes ∈ lw_gd := gd_t (i := 954) (by decide +kernel) rfl
theorem wc_X7_notes : Cond.code yX7_notes cX7_notes 2 none ∈ lw_gd := gd_t (i := 955) (by decide +kernel) rfl
theorem wl_X7_155 : Cond.methodLink RX7 155 yX7_fells ∈ lw_gd := gd_t (i := 956) (by decide +kernel) rfl
theorem wi_X7_fells : Cond.instanceMethod yX7_fells ∈ lw_gd := gd_t (i := 958) (by decide +kernel) rfl
theorem wc_X7_fells : Cond.code yX7_fells cX7_fells 4 (some .int) ∈ lw_gd := gd_t (i := 959) (by decide +kernel) rfl
theorem wl_L_51 : Cond.methodLink RL 51 yX7_year ∈ lw_gd := gd_t (i := 960) (by decide +kernel) rfl
theorem wi_X7_year : Cond.instanceMethod yX7_year ∈ lw_gd := gd_t (i := 961) (by decide +kernel) rfl
theorem wv_X7_year : Cond.selects yX7_year.cls yX7_year yX7_year ∈ lw_gd := gd_t (i := 962) (by decide +kernel) rfl
theorem wc_X7_year : Cond.code yX7_year cX7_year 1 (some .int) ∈ lw_gd := gd_t (i := 963) (by decide +kernel) rfl
theorem wl_X7_158 : Cond.methodLink RX7 158 yX7_grows ∈ lw_gd := gd_t (i := 964) (by decide +kernel) rfl
theorem wi_X7_grows : Cond.instanceMethod yX7_grows ∈ lw_gd := gd_t (i := 966) (by decide +kernel) rfl
theorem wc_X7_grows : Cond.code yX7_grows cX7_grows 3 none ∈ lw_gd := gd_t (i := 967) (by decide +kernel) rfl
theorem wl_L_55 : Cond.methodLink RL 55 yX7_binds ∈ lw_gd := gd_t (i := 968) (by decide +kernel) rfl
theorem wi_X7_binds : Cond.instanceMethod yX7_binds ∈ lw_gd := gd_t (i := 969) (by decide +kernel) rfl
theorem wv_X7_binds : Cond.selects yX7_binds.cls yX7_binds yX7_binds ∈ lw_gd := gd_t (i := 970) (by decide +kernel) rfl
theorem wc_X7_binds : Cond.code yX7_binds cX7_binds 2 (some .int) ∈ lw_gd := gd_t (i := 971) (by decide +kernel) rfl
theorem wl_X7_162 : Cond.methodLink RX7 162 yX7_days ∈ lw_gd := gd_t (i := 972) (by decide +kernel) rfl
theorem wi_X7_days : Cond.instanceMethod yX7_days ∈ lw_gd := gd_t (i := 974) (by decide +kernel) rfl
theorem wc_X7_days : Cond.code yX7_days cX7_days 2 (some .int) ∈ lw_gd := gd_t (i := 975) (by decide +kernel) rfl
theorem wl_L_59 : Cond.methodLink RL 59 yX7_sends ∈ lw_gd := gd_t (i := 976) (by decide +kernel) rfl
theorem wi_X7_sends : Cond.instanceMethod yX7_sends ∈ lw_gd := gd_t (i := 977) (by decide +kernel) rfl
theorem wv_X7_sends : Cond.selects yX7_sends.cls yX7_sends yX7_sends ∈ lw_gd := gd_t (i := 978) (by decide +kernel) rfl
theorem wc_X7_sends : Cond.code yX7_sends cX7_sends 2 (some .int) ∈ lw_gd := gd_t (i := 979) (by decide +kernel) rfl
theorem wl_L_63 : Cond.methodLink RL 63 yX7_sweeps ∈ lw_gd := gd_t (i := 980) (by decide +kernel) rfl
theorem wi_X7_sweeps : Cond.instanceMethod yX7_sweeps ∈ lw_gd := gd_t (i := 981) (by decide +kernel) rfl
theorem wv_X7_sweeps : Cond.selects yX7_sweeps.cls yX7_sweeps yX7_sweeps ∈ lw_gd := gd_t (i := 982) (by decide +kernel) rfl
theorem wc_X7_sweeps : Cond.code yX7_sweeps cX7_sweeps 1 (some .int) ∈ lw_gd := gd_t (i := 983) (by decide +kernel) rfl
theorem wl_X7_169 : Cond.methodLink RX7 169 yX7_sweep ∈ lw_gd := gd_t (i := 984) (by decide +kernel) rfl
theorem wt_X7_sweep : Cond.static yX7_sweep ∈ lw_gd := gd_t (i := 985) (by decide +kernel) rfl
theorem wc_X7_sweep : Cond.code yX7_sweep cX7_sweep 1 none ∈ lw_gd := gd_t (i := 986) (by decide +kernel) rfl
theorem wl_X7_165 : Cond.methodLink RX7 165 yX7_shortens ∈ lw_gd := gd_t (i := 987) (by decide +kernel) rfl
theorem wt_X7_shortens : Cond.static yX7_shortens ∈ lw_gd := gd_t (i := 988) (by decide +kernel) rfl
theorem wc_X7_shortens : Cond.code yX7_shortens cX7_shortens 4 none ∈ lw_gd := gd_t (i := 989) (by decide +kernel) rfl
theorem wl_L_67 : Cond.methodLink RL 67 yX7_spins ∈ lw_gd := gd_t (i := 990) (by decide +kernel) rfl
theorem wi_X7_spins : Cond.instanceMethod yX7_spins ∈ lw_gd := gd_t (i := 991) (by decide +kernel) rfl
theorem wv_X7_spins : Cond.selects yX7_spins.cls yX7_spins yX7_spins ∈ lw_gd := gd_t (i := 992) (by decide +kernel) rfl
theorem wc_X7_spins : Cond.code yX7_spins cX7_spins 2 (some .int) ∈ lw_gd := gd_t (i := 993) (by decide +kernel) rfl
theorem wl_L_71 : Cond.methodLink RL 71 yX7_undo ∈ lw_gd := gd_t (i := 994) (by decide +kernel) rfl
theorem wi_X7_undo : Cond.instanceMethod yX7_undo ∈ lw_gd := gd_t (i := 995) (by decide +kernel) rfl
theorem wv_X7_undo : Cond.selects yX7_undo.cls yX7_undo yX7_undo ∈ lw_gd := gd_t (i := 996) (by decide +kernel) rfl
theorem wc_X7_undo : Cond.code yX7_undo cX7_undo 2 (some .int) ∈ lw_gd := gd_t (i := 997) (by decide +kernel) rfl
theorem wl_L_75 : Cond.methodLink RL 75 yX7_inYears ∈ lw_gd := gd_t (i := 998) (by decide +kernel) rfl
theorem wi_X7_inYears : Cond.instanceMethod yX7_inYears ∈ lw_gd := gd_t (i := 999) (by decide +kernel) rfl
theorem wv_X7_inYears : Cond.selects yX7_inYears.cls yX7_inYears yX7_inYears ∈ lw_gd := gd_t (i := 1000) (by decide +kernel) rfl
theorem wc_X7_inYears : Cond.code yX7_inYears cX7_inYears 4 (some .int) ∈ lw_gd := gd_t (i := 1001) (by decide +kernel) rfl
theorem wl_L_79 : Cond.methodLink RL 79 yX7_turn ∈ lw_gd := gd_t (i := 1002) (by decide +kernel) rfl
theorem wi_X7_turn : Cond.instanceMethod yX7_turn ∈ lw_gd := gd_t (i := 1003) (by decide +kernel) rfl
theorem wv_X7_turn : Cond.selects yX7_turn.cls yX7_turn yX7_turn ∈ lw_gd := gd_t (i := 1004) (by decide +kernel) rfl
theorem wc_X7_turn : Cond.code yX7_turn cX7_turn 5 (some .int) ∈ lw_gd := gd_t (i := 1005) (by decide +kernel) rfl
theorem wl_X7_172 : Cond.methodLink RX7 172 yX7_gcd ∈ lw_gd := gd_t (i := 1006) (by decide +kernel) rfl
theorem wt_X7_gcd : Cond.static yX7_gcd ∈ lw_gd := gd_t (i := 1007) (by decide +kernel) rfl
theorem wc_X7_gcd : Cond.code yX7_gcd cX7_gcd 5 (some .int) ∈ lw_gd := gd_t (i := 1008) (by decide +kernel) rfl
theorem wl_L_83 : Cond.methodLink RL 83 yX7_plan ∈ lw_gd := gd_t (i := 1009) (by decide +kernel) rfl
theorem wi_X7_plan : Cond.instanceMethod yX7_plan ∈ lw_gd := gd_t (i := 1010) (by decide +kernel) rfl
theorem wv_X7_plan : Cond.selects yX7_plan.cls yX7_plan yX7_plan ∈ lw_gd := gd_t (i := 1011) (by decide +kernel) rfl
theorem wc_X7_plan : Cond.code yX7_plan cX7_plan 9 (some .int) ∈ lw_gd := gd_t (i := 1012) (by decide +kernel) rfl
theorem wl_X7_178 : Cond.methodLink RX7 178 yX7_twigsBy ∈ lw_gd := gd_t (i := 1013) (by decide +kernel) rfl
theorem wi_X7_twigsBy : Cond.instanceMethod yX7_twigsBy ∈ lw_gd := gd_t (i := 1015) (by decide +kernel) rfl
theorem wc_X7_twigsBy : Cond.code yX7_twigsBy cX7_twigsBy 4 (some .int) ∈ lw_gd := gd_t (i := 1016) (by decide +kernel) rfl
theorem wl_X7_175 : Cond.methodLink RX7 175 yX7_asNow ∈ lw_gd := gd_t (i := 1017) (by decide +kernel) rfl
theorem wi_X7_asNow : Cond.instanceMethod yX7_asNow ∈ lw_gd := gd_t (i := 1019) (by decide +kernel) rfl
theorem wc_X7_asNow : Cond.code yX7_asNow cX7_asNow 2 none ∈ lw_gd := gd_t (i := 1020) (by decide +kernel) rfl
theorem wl_L_87 : Cond.methodLink RL 87 yX7_kept ∈ lw_gd := gd_t (i := 1021) (by decide +kernel) rfl
theorem wi_X7_kept : Cond.instanceMethod yX7_kept ∈ lw_gd := gd_t (i := 1022) (by decide +kernel) rfl
theorem wv_X7_kept : Cond.selects yX7_kept.cls yX7_kept yX7_kept ∈ lw_gd := gd_t (i := 1023) (by decide +kernel) rfl
theorem wc_X7_kept : Cond.code yX7_kept cX7_kept 4 (some .int) ∈ lw_gd := gd_t (i := 1024) (by decide +kernel) rfl
theorem wl_X7_184 : Cond.methodLink RX7 184 yX7_coinsOf ∈ lw_gd := gd_t (i := 1025) (by decide +kernel) rfl
theorem wi_X7_coinsOf : Cond.instanceMethod yX7_coinsOf ∈ lw_gd := gd_t (i := 1027) (by decide +kernel) rfl
theorem wc_X7_coinsOf : Cond.code yX7_coinsOf cX7_coinsOf 4 (some .int) ∈ lw_gd := gd_t (i := 1028) (by decide +kernel) rfl
theorem wl_X7_187 : Cond.methodLink RX7 187 yX7_canBeKept ∈ lw_gd := gd_t (i := 1029) (by decide +kernel) rfl
theorem wi_X7_canBeKept : Cond.instanceMethod yX7_canBeKept ∈ lw_gd := gd_t (i := 1031) (by decide +kernel) rfl
theorem wc_X7_canBeKept : Cond.code yX7_canBeKept cX7_canBeKept 6 (some .boolean) ∈ lw_gd := gd_t (i := 1032) (by decide +kernel) rfl
theorem wl_X7_181 : Cond.methodLink RX7 181 yX7_besomsBy ∈ lw_gd := gd_t (i := 1033) (by decide +kernel) rfl
theorem wi_X7_besomsBy : Cond.instanceMethod yX7_besomsBy ∈ lw_gd := gd_t (i := 1035) (by decide +kernel) rfl
theorem wc_X7_besomsBy : Cond.code yX7_besomsBy cX7_besomsBy 5 (some .int) ∈ lw_gd := gd_t (i := 1036) (by decide +kernel) rfl
theorem wl_L_91 : Cond.methodLink RL 91 yX7_next ∈ lw_gd := gd_t (i := 1037) (by decide +kernel) rfl
theorem wi_X7_next : Cond.instanceMethod yX7_next ∈ lw_gd := gd_t (i := 1038) (by decide +kernel) rfl
theorem wv_X7_next : Cond.selects yX7_next.cls yX7_next yX7_next ∈ lw_gd := gd_t (i := 1039) (by decide +kernel) rfl
theorem wc_X7_next : Cond.code yX7_next cX7_next 5 (some .int) ∈ lw_gd := gd_t (i := 1040) (by decide +kernel) rfl
theorem wl_L_95 : Cond.methodLink RL 95 yX7_lack ∈ lw_gd := gd_t (i := 1041) (by decide +kernel) rfl
theorem wi_X7_lack : Cond.instanceMethod yX7_lack ∈ lw_gd := gd_t (i := 1042) (by decide +kernel) rfl
theorem wv_X7_lack : Cond.selects yX7_lack.cls yX7_lack yX7_lack ∈ lw_gd := gd_t (i := 1043) (by decide +kernel) rfl
theorem wc_X7_lack : Cond.code yX7_lack cX7_lack 1 (some .int) ∈ lw_gd := gd_t (i := 1044) (by decide +kernel) rfl
theorem wl_X7_194 : Cond.methodLink RX7 194 yX7_lacks ∈ lw_gd := gd_t (i := 1045) (by decide +kernel) rfl
theorem wi_X7_lacks : Cond.instanceMethod yX7_lacks ∈ lw_gd := gd_t (i := 1047) (by decide +kernel) rfl
theorem wc_X7_lacks : Cond.code yX7_lacks cX7_lacks 2 (some .int) ∈ lw_gd := gd_t (i := 1048) (by decide +kernel) rfl
theorem wl_X7_190 : Cond.methodLink RX7 190 yX7_wanted ∈ lw_gd := gd_t (i := 1049) (by decide +kernel) rfl
theorem wi_X7_wanted : Cond.instanceMethod yX7_wanted ∈ lw_gd := gd_t (i := 1051) (by decide +kernel) rfl
theorem wc_X7_wanted : Cond.code yX7_wanted cX7_wanted 2 (some .int) ∈ lw_gd := gd_t (i := 1052) (by decide +kernel) rfl
theorem wl_L_99 : Cond.methodLink RL 99 yX7_cutFor ∈ lw_gd := gd_t (i := 1053) (by decide +kernel) rfl
theorem wi_X7_cutFor : Cond.instanceMethod yX7_cutFor ∈ lw_gd := gd_t (i := 1054) (by decide +kernel) rfl
theorem wv_X7_cutFor : Cond.selects yX7_cutFor.cls yX7_cutFor yX7_cutFor ∈ lw_gd := gd_t (i := 1055) (by decide +kernel) rfl
theorem wc_X7_cutFor : Cond.code yX7_cutFor cX7_cutFor 5 (some .int) ∈ lw_gd := gd_t (i := 1056) (by decide +kernel) rfl
theorem wl_X7_197 : Cond.methodLink RX7 197 yX7_ones ∈ lw_gd := gd_t (i := 1057) (by decide +kernel) rfl
theorem wt_X7_ones : Cond.static yX7_ones ∈ lw_gd := gd_t (i := 1058) (by decide +kernel) rfl
theorem wc_X7_ones : Cond.code yX7_ones cX7_ones 3 (some .int) ∈ lw_gd := gd_t (i := 1059) (by decide +kernel) rfl
theorem wl_L_103 : Cond.methodLink RL 103 yX7_allBy ∈ lw_gd := gd_t (i := 1060) (by decide +kernel) rfl
theorem wi_X7_allBy : Cond.instanceMethod yX7_allBy ∈ lw_gd := gd_t (i := 1061) (by decide +kernel) rfl
theorem wv_X7_allBy : Cond.selects yX7_allBy.cls yX7_allBy yX7_allBy ∈ lw_gd := gd_t (i := 1062) (by decide +kernel) rfl
theorem wc_X7_allBy : Cond.code yX7_allBy cX7_allBy 1 (some .int) ∈ lw_gd := gd_t (i := 1063) (by decide +kernel) rfl
theorem wl_L_107 : Cond.methodLink RL 107 yX7_lasts ∈ lw_gd := gd_t (i := 1064) (by decide +kernel) rfl
theorem wi_X7_lasts : Cond.instanceMethod yX7_lasts ∈ lw_gd := gd_t (i := 1065) (by decide +kernel) rfl
theorem wv_X7_lasts : Cond.selects yX7_lasts.cls yX7_lasts yX7_lasts ∈ lw_gd := gd_t (i := 1066) (by decide +kernel) rfl
theorem wc_X7_lasts : Cond.code yX7_lasts cX7_lasts 2 (some .int) ∈ lw_gd := gd_t (i := 1067) (by decide +kernel) rfl
theorem wl_X7_207 : Cond.methodLink RX7 207 yX7_lastsBy ∈ lw_gd := gd_t (i := 1068) (by decide +kernel) rfl
theorem wi_X7_lastsBy : Cond.instanceMethod yX7_lastsBy ∈ lw_gd := gd_t (i := 1070) (by decide +kernel) rfl
theorem wc_X7_lastsBy : Cond.code yX7_lastsBy cX7_lastsBy 3 (some .int) ∈ lw_gd := gd_t (i := 1071) (by decide +kernel) rfl
theorem wl_X7_200 : Cond.methodLink RX7 200 yX7_isWornOut ∈ lw_gd := gd_t (i := 1072) (by decide +kernel) rfl
theorem wt_X7_isWornOut : Cond.static yX7_isWornOut ∈ lw_gd := gd_t (i := 1073) (by decide +kernel) rfl
theorem wc_X7_isWornOut : Cond.code yX7_isWornOut cX7_isWornOut 3 (some .boolean) ∈ lw_gd := gd_t (i := 1074) (by decide +kernel) rfl
theorem wl_X7_204 : Cond.methodLink RX7 204 yX7_goes ∈ lw_gd := gd_t (i := 1075) (by decide +kernel) rfl
theorem wi_X7_goes : Cond.instanceMethod yX7_goes ∈ lw_gd := gd_t (i := 1077) (by decide +kernel) rfl
theorem wc_X7_goes : Cond.code yX7_goes cX7_goes 2 none ∈ lw_gd := gd_t (i := 1078) (by decide +kernel) rfl
theorem wl_L_111 : Cond.methodLink RL 111 yX7_latest ∈ lw_gd := gd_t (i := 1079) (by decide +kernel) rfl
theorem wi_X7_latest : Cond.instanceMethod yX7_latest ∈ lw_gd := gd_t (i := 1080) (by decide +kernel) rfl
theorem wv_X7_latest : Cond.selects yX7_latest.cls yX7_latest yX7_latest ∈ lw_gd := gd_t (i := 1081) (by decide +kernel) rfl
theorem wc_X7_latest : Cond.code yX7_latest cX7_latest 3 (some .int) ∈ lw_gd := gd_t (i := 1082) (by decide +kernel) rfl
theorem wl_L_116 : Cond.methodLink RL 116 yX7_saw ∈ lw_gd := gd_t (i := 1083) (by decide +kernel) rfl
theorem wi_X7_saw : Cond.instanceMethod yX7_saw ∈ lw_gd := gd_t (i := 1084) (by decide +kernel) rfl
theorem wv_X7_saw : Cond.selects yX7_saw.cls yX7_saw yX7_saw ∈ lw_gd := gd_t (i := 1085) (by decide +kernel) rfl
theorem wc_X7_saw : Cond.code yX7_saw cX7_saw 4 (some .int) ∈ lw_gd := gd_t (i := 1086) (by decide +kernel) rfl
theorem wl_L_120 : Cond.methodLink RL 120 yX7_forget ∈ lw_gd := gd_t (i := 1087) (by decide +kernel) rfl
theorem wi_X7_forget : Cond.instanceMethod yX7_forget ∈ lw_gd := gd_t (i := 1088) (by decide +kernel) rfl
theorem wv_X7_forget : Cond.selects yX7_forget.cls yX7_forget yX7_forget ∈ lw_gd := gd_t (i := 1089) (by decide +kernel) rfl
theorem wc_X7_forget : Cond.code yX7_forget cX7_forget 2 (some .int) ∈ lw_gd := gd_t (i := 1090) (by decide +kernel) rfl
theorem wl_L_124 : Cond.methodLink RL 124 yX7_which ∈ lw_gd := gd_t (i := 1091) (by decide +kernel) rfl
theorem wi_X7_which : Cond.instanceMethod yX7_which ∈ lw_gd := gd_t (i := 1092) (by decide +kernel) rfl
theorem wv_X7_which : Cond.selects yX7_which.cls yX7_which yX7_which ∈ lw_gd := gd_t (i := 1093) (by decide +kernel) rfl
theorem wc_X7_which : Cond.code yX7_which cX7_which 6 (some .int) ∈ lw_gd := gd_t (i := 1094) (by decide +kernel) rfl
theorem wl_L_129 : Cond.methodLink RL 129 yX7_odds ∈ lw_gd := gd_t (i := 1095) (by decide +kernel) rfl
theorem wi_X7_odds : Cond.instanceMethod yX7_odds ∈ lw_gd := gd_t (i := 1096) (by decide +kernel) rfl
theorem wv_X7_odds : Cond.selects yX7_odds.cls yX7_odds yX7_odds ∈ lw_gd := gd_t (i := 1097) (by decide +kernel) rfl
theorem wc_X7_odds : Cond.code yX7_odds cX7_odds 8 (some .int) ∈ lw_gd := gd_t (i := 1098) (by decide +kernel) rfl
theorem wl_X7_210 : Cond.methodLink RX7 210 yX7_power ∈ lw_gd := gd_t (i := 1099) (by decide +kernel) rfl
theorem wt_X7_power : Cond.static yX7_power ∈ lw_gd := gd_t (i := 1100) (by decide +kernel) rfl
theorem wc_X7_power : Cond.code yX7_power cX7_power 4 (some .int) ∈ lw_gd := gd_t (i := 1101) (by decide +kernel) rfl
theorem wl_L_133 : Cond.methodLink RL 133 yX7_rate ∈ lw_gd := gd_t (i := 1102) (by decide +kernel) rfl
theorem wi_X7_rate : Cond.instanceMethod yX7_rate ∈ lw_gd := gd_t (i := 1103) (by decide +kernel) rfl
theorem wv_X7_rate : Cond.selects yX7_rate.cls yX7_rate yX7_rate ∈ lw_gd := gd_t (i := 1104) (by decide +kernel) rfl
theorem wc_X7_rate : Cond.code yX7_rate cX7_rate 5 (some .int) ∈ lw_gd := gd_t (i := 1105) (by decide +kernel) rfl
theorem wk_X7_213 : Cond.constant RX7 213 (-1000000) ∈ lw_gd := gd_t (i := 1106) (by decide +kernel) rfl
theorem wq_X7_218 : Cond.constantLong RX7 218 11 ∈ lw_gd := gd_t (i := 1107) (by decide +kernel) rfl
theorem wq_X7_220 : Cond.constantLong RX7 220 101 ∈ lw_gd := gd_t (i := 1108) (by decide +kernel) rfl
theorem wq_X7_222 : Cond.constantLong RX7 222 1011 ∈ lw_gd := gd_t (i := 1109) (by decide +kernel) rfl
theorem wq_X7_224 : Cond.constantLong RX7 224 10101 ∈ lw_gd := gd_t (i := 1110) (by decide +kernel) rfl
theorem wq_X7_226 : Cond.constantLong RX7 226 100001 ∈ lw_gd := gd_t (i := 1111) (by decide +kernel) rfl
theorem wl_L_137 : Cond.methodLink RL 137 yX7_keep ∈ lw_gd := gd_t (i := 1112) (by decide +kernel) rfl
theorem wi_X7_keep : Cond.instanceMethod yX7_keep ∈ lw_gd := gd_t (i := 1113) (by decide +kernel) rfl
theorem wv_X7_keep : Cond.selects yX7_keep.cls yX7_keep yX7_keep ∈ lw_gd := gd_t (i := 1114) (by decide +kernel) rfl
theorem wc_X7_keep : Cond.code yX7_keep cX7_keep 3 (some .int) ∈ lw_gd := gd_t (i := 1115) (by decide +kernel) rfl
theorem wl_L_141 : Cond.methodLink RL 141 yX7_back ∈ lw_gd := gd_t (i := 1116) (by decide +kernel) rfl
theorem wi_X7_back : Cond.instanceMethod yX7_back ∈ lw_gd := gd_t (i := 1117) (by decide +kernel) rfl
theorem wv_X7_back : Cond.selects yX7_back.cls yX7_back yX7_back ∈ lw_gd := gd_t (i := 1118) (by decide +kernel) rfl
theorem wc_X7_back : Cond.code yX7_back cX7_back 3 (some .int) ∈ lw_gd := gd_t (i := 1119) (by decide +kernel) rfl
theorem wl_L_145 : Cond.methodLink RL 145 yX7_count ∈ lw_gd := gd_t (i := 1120) (by decide +kernel) rfl
theorem wi_X7_count : Cond.instanceMethod yX7_count ∈ lw_gd := gd_t (i := 1121) (by decide +kernel) rfl
theorem wv_X7_count : Cond.selects yX7_count.cls yX7_count yX7_count ∈ lw_gd := gd_t (i := 1122) (by decide +kernel) rfl
theorem wc_X7_count : Cond.code yX7_count cX7_count 2 (some .int) ∈ lw_gd := gd_t (i := 1123) (by decide +kernel) rfl
theorem wl_L_150 : Cond.methodLink RL 150 yX7_trace ∈ lw_gd := gd_t (i := 1124) (by decide +kernel) rfl
theorem wi_X7_trace : Cond.instanceMethod yX7_trace ∈ lw_gd := gd_t (i := 1125) (by decide +kernel) rfl
theorem wv_X7_trace : Cond.selects yX7_trace.cls yX7_trace yX7_trace ∈ lw_gd := gd_t (i := 1126) (by decide +kernel) rfl
theorem wc_X7_trace : Cond.code yX7_trace cX7_trace 1 (some .long) ∈ lw_gd := gd_t (i := 1127) (by decide +kernel) rfl
theorem wf_J0_15 : Cond.fieldLink RJ0 15 "java/lang/String" "coder" "B" ∈ lw_gd := gd_t (i := 1128) (by decide +kernel) rfl
theorem wf_J0_9 : Cond.fieldLink RJ0 9 "java/lang/String" "value" "[B" ∈ lw_gd := gd_t (i := 1129) (by decide +kernel) rfl
theorem inX0 : ∀ w ∈ u_ws RX0 TX0 2, w ∈ lw_gd := by decide +kernel
theorem inX1 : ∀ w ∈ u_ws RX1 TX1 8, w ∈ lw_gd := by decide +kernel
theorem inX2 : ∀ w ∈ u_ws RX2 TX2 4, w ∈ lw_gd := by decide +kernel
theorem inX3 : ∀ w ∈ u_ws RX3 TX3 1, w ∈ lw_gd := by decide +kernel
theorem inX4 : ∀ w ∈ u_ws RX4 TX4 6, w ∈ lw_gd := by decide +kernel
theorem inX5 : ∀ w ∈ u_ws RX5 TX5 2, w ∈ lw_gd := by decide +kernel
theorem inX6 : ∀ w ∈ u_ws RX6 TX6 16, w ∈ lw_gd := by decide +kernel
theorem inX7 : ∀ w ∈ u_ws RX7 TX7 28, w ∈ lw_gd := by decide +kernel
theorem gd_good {w : Cond} (h : w ∈ lw_gd) : (w.onTables && w.keeps) = true ∨ ∃ ty, w = .arrayClass ty := good_of_word (List.mem_filter.mp h).2
theorem gd_V {own C : String} {idx n : Nat} {y : MethodName} {b : ByteArray} {r : Option FieldType} (h1 : Cond.methodLink own idx y ∈ lw_gd) (h2 : Cond.instanceMethod y ∈ lw_gd) (h3 : Cond.selects C y y ∈ lw_gd) (h4 : Cond.initialized C ∈ lw_gd) (h5 : Cond.code y b n r ∈ lw_gd) : GoodIn lw_gd (wsV own idx C y (Cond.code y b n r :: lw_gd)) := by
  intro w hw
  have hm : w ∈ lw_gd := by
    rcases List.mem_append.mp hw with h | h
    · simp only [List.mem_cons, List.not_mem_nil, or_false] at h
      rcases h with rfl | rfl | rfl | rfl <;> assumption
    · rcases List.mem_cons.mp h with rfl | h
      · exact h5
      · exact h
  exact ⟨hm, gd_good hm⟩
theorem gd_S {own : String} {idx n : Nat} {y : MethodName} {b : ByteArray} {r : Option FieldType} (h1 : Cond.methodLink own idx y ∈ lw_gd) (h2 : Cond.static y ∈ lw_gd) (h4 : Cond.initialized y.cls ∈ lw_gd) (h5 : Cond.code y b n r ∈ lw_gd) : GoodIn lw_gd (va_wsS own idx y (Cond.code y b n r :: lw_gd)) := by
  intro w hw
  have hm : w ∈ lw_gd := by
    rcases List.mem_append.mp hw with h | h
    · simp only [List.mem_cons, List.not_mem_nil, or_false] at h
      rcases h with rfl | rfl | rfl <;> assumption
    · rcases List.mem_cons.mp h with rfl | h
      · exact h5
      · exact h
  exact ⟨hm, gd_good hm⟩
theorem gd_I {n : Nat} {y : MethodName} {b : ByteArray} {r : Option FieldType} (h5 : Cond.code y b n r ∈ lw_gd) : GoodIn lw_gd (Cond.code y b n r :: lw_gd) := by
  intro w hw
  have hm : w ∈ lw_gd := by
    rcases List.mem_cons.mp hw with rfl | h
    · exact h5
    · exact h
  exact ⟨hm, gd_good hm⟩
theorem hd_X6_init : yX6_init.cls ≠ "java/lang/invoke/MethodHandle" ∧ yX6_init.cls ≠ "java/lang/invoke/VarHandle" ∧ (parseMethodDescriptor yX6_init.desc).map (fun d => d.parameters.length) = some 0 := by decide +kernel
theorem hd_X4_init : yX4_init.cls ≠ "java/lang/invoke/MethodHandle" ∧ yX4_init.cls ≠ "java/lang/invoke/VarHandle" ∧ (parseMethodDescriptor yX4_init.desc).map (fun d => d.parameters.length) = some 0 := by decide +kernel
theorem hd_X5_init : yX5_init.cls ≠ "java/lang/invoke/MethodHandle" ∧ yX5_init.cls ≠ "java/lang/invoke/VarHandle" ∧ (parseMethodDescriptor yX5_init.desc).map (fun d => d.parameters.length) = some 0 := by decide +kernel
theorem hd_X5_setAsAtFirst : yX5_setAsAtFirst.cls ≠ "java/lang/invoke/MethodHandle" ∧ yX5_setAsAtFirst.cls ≠ "java/lang/invoke/VarHandle" ∧ (parseMethodDescriptor yX5_setAsAtFirst.desc).map (fun d => d.parameters.length) = some 0 := by decide +kernel
theorem hd_X1_init : yX1_init.cls ≠ "java/lang/invoke/MethodHandle" ∧ yX1_init.cls ≠ "java/lang/invoke/VarHandle" ∧ (parseMethodDescriptor yX1_init.desc).map (fun d => d.parameters.length) = some 0 := by decide +kernel
theorem hd_X0_init : yX0_init.cls ≠ "java/lang/invoke/MethodHandle" ∧ yX0_init.cls ≠ "java/lang/invoke/VarHandle" ∧ (parseMethodDescriptor yX0_init.desc).map (fun d => d.parameters.length) = some 0 := by decide +kernel
theorem hd_X3_init : yX3_init.cls ≠ "java/lang/invoke/MethodHandle" ∧ yX3_init.cls ≠ "java/lang/invoke/VarHandle" ∧ (parseMethodDescriptor yX3_init.desc).map (fun d => d.parameters.length) = some 1 := by decide +kernel
theorem hd_X2_init : yX2_init.cls ≠ "java/lang/invoke/MethodHandle" ∧ yX2_init.cls ≠ "java/lang/invoke/VarHandle" ∧ (parseMethodDescriptor yX2_init.desc).map (fun d => d.parameters.length) = some 0 := by decide +kernel
theorem hd_X6_startAnew : yX6_startAnew.cls ≠ "java/lang/invoke/MethodHandle" ∧ yX6_startAnew.cls ≠ "java/lang/invoke/VarHandle" ∧ (parseMethodDescriptor yX6_startAnew.desc).map (fun d => d.parameters.length) = some 0 := by decide +kernel
theorem hd_X1_begin : yX1_begin.cls ≠ "java/lang/invoke/MethodHandle" ∧ yX1_begin.cls ≠ "java/lang/invoke/VarHandle" ∧ (parseMethodDescriptor yX1_begin.desc).map (fun d => d.parameters.length) = some 1 := by decide +kernel
theorem hd_X5_value : yX5_value.cls ≠ "java/lang/invoke/MethodHandle" ∧ yX5_value.cls ≠ "java/lang/invoke/VarHandle" ∧ (parseMethodDescriptor yX5_value.desc).map (fun d => d.parameters.length) = some 2 := by decide +kernel
theorem hd_X5_isPlace : yX5_isPlace.cls ≠ "java/lang/invoke/MethodHandle" ∧ yX5_isPlace.cls ≠ "java/lang/invoke/VarHandle" ∧ (parseMethodDescriptor yX5_isPlace.desc).map (fun d => d.parameters.length) = some 2 := by decide +kernel
theorem hd_X5_lengthAtFirst : yX5_lengthAtFirst.cls ≠ "java/lang/invoke/MethodHandle" ∧ yX5_lengthAtFirst.cls ≠ "java/lang/invoke/VarHandle" ∧ (parseMethodDescriptor yX5_lengthAtFirst.desc).map (fun d => d.parameters.length) = some 0 := by decide +kernel
theorem hd_X0_renew : yX0_renew.cls ≠ "java/lang/invoke/MethodHandle" ∧ yX0_renew.cls ≠ "java/lang/invoke/VarHandle" ∧ (parseMethodDescriptor yX0_renew.desc).map (fun d => d.parameters.length) = some 1 := by decide +kernel
theorem hd_X6_forgetPast : yX6_forgetPast.cls ≠ "java/lang/invoke/MethodHandle" ∧ yX6_forgetPast.cls ≠ "java/lang/invoke/VarHandle" ∧ (parseMethodDescriptor yX6_forgetPast.desc).map (fun d => d.parameters.length) = some 0 := by decide +kernel
theorem hd_X6_type : yX6_type.cls ≠ "java/lang/invoke/MethodHandle" ∧ yX6_type.cls ≠ "java/lang/invoke/VarHandle" ∧ (parseMethodDescriptor yX6_type.desc).map (fun d => d.parameters.length) = some 1 := by decide +kernel
theorem hd_X4_add : yX4_add.cls ≠ "java/lang/invoke/MethodHandle" ∧ yX4_add.cls ≠ "java/lang/invoke/VarHandle" ∧ (parseMethodDescriptor yX4_add.desc).map (fun d => d.parameters.length) = some 1 := by decide +kernel
theorem hd_X4_size : yX4_size.cls ≠ "java/lang/invoke/MethodHandle" ∧ yX4_size.cls ≠ "java/lang/invoke/VarHandle" ∧ (parseMethodDescriptor yX4_size.desc).map (fun d => d.parameters.length) = some 0 := by decide +kernel
theorem hd_X6_clear : yX6_clear.cls ≠ "java/lang/invoke/MethodHandle" ∧ yX6_clear.cls ≠ "java/lang/invoke/VarHandle" ∧ (parseMethodDescriptor yX6_clear.desc).map (fun d => d.parameters.length) = some 0 := by decide +kernel
theorem hd_X4_empty : yX4_empty.cls ≠ "java/lang/invoke/MethodHandle" ∧ yX4_empty.cls ≠ "java/lang/invoke/VarHandle" ∧ (parseMethodDescriptor yX4_empty.desc).map (fun d => d.parameters.length) = some 0 := by decide +kernel
theorem hd_X6_yard : yX6_yard.cls ≠ "java/lang/invoke/MethodHandle" ∧ yX6_yard.cls ≠ "java/lang/invoke/VarHandle" ∧ (parseMethodDescriptor yX6_yard.desc).map (fun d => d.parameters.length) = some 0 := by decide +kernel
theorem hd_X5_readFrom : yX5_readFrom.cls ≠ "java/lang/invoke/MethodHandle" ∧ yX5_readFrom.cls ≠ "java/lang/invoke/VarHandle" ∧ (parseMethodDescriptor yX5_readFrom.desc).map (fun d => d.parameters.length) = some 1 := by decide +kernel
theorem hd_X4_rewind : yX4_rewind.cls ≠ "java/lang/invoke/MethodHandle" ∧ yX4_rewind.cls ≠ "java/lang/invoke/VarHandle" ∧ (parseMethodDescriptor yX4_rewind.desc).map (fun d => d.parameters.length) = some 0 := by decide +kernel
theorem hd_X4_goOn : yX4_goOn.cls ≠ "java/lang/invoke/MethodHandle" ∧ yX4_goOn.cls ≠ "java/lang/invoke/VarHandle" ∧ (parseMethodDescriptor yX4_goOn.desc).map (fun d => d.parameters.length) = some 0 := by decide +kernel
theorem hd_X4_letterAt : yX4_letterAt.cls ≠ "java/lang/invoke/MethodHandle" ∧ yX4_letterAt.cls ≠ "java/lang/invoke/VarHandle" ∧ (parseMethodDescriptor yX4_letterAt.desc).map (fun d => d.parameters.length) = some 1 := by decide +kernel
theorem hd_X4_isDigit : yX4_isDigit.cls ≠ "java/lang/invoke/MethodHandle" ∧ yX4_isDigit.cls ≠ "java/lang/invoke/VarHandle" ∧ (parseMethodDescriptor yX4_isDigit.desc).map (fun d => d.parameters.length) = some 1 := by decide +kernel
theorem hd_X4_readNumber : yX4_readNumber.cls ≠ "java/lang/invoke/MethodHandle" ∧ yX4_readNumber.cls ≠ "java/lang/invoke/VarHandle" ∧ (parseMethodDescriptor yX4_readNumber.desc).map (fun d => d.parameters.length) = some 0 := by decide +kernel
theorem hd_X5_readItem : yX5_readItem.cls ≠ "java/lang/invoke/MethodHandle" ∧ yX5_readItem.cls ≠ "java/lang/invoke/VarHandle" ∧ (parseMethodDescriptor yX5_readItem.desc).map (fun d => d.parameters.length) = some 2 := by decide +kernel
theorem hd_X4_tokenNumber : yX4_tokenNumber.cls ≠ "java/lang/invoke/MethodHandle" ∧ yX4_tokenNumber.cls ≠ "java/lang/invoke/VarHandle" ∧ (parseMethodDescriptor yX4_tokenNumber.desc).map (fun d => d.parameters.length) = some 0 := by decide +kernel
theorem hd_X5_take : yX5_take.cls ≠ "java/lang/invoke/MethodHandle" ∧ yX5_take.cls ≠ "java/lang/invoke/VarHandle" ∧ (parseMethodDescriptor yX5_take.desc).map (fun d => d.parameters.length) = some 3 := by decide +kernel
theorem hd_X4_tokenStart : yX4_tokenStart.cls ≠ "java/lang/invoke/MethodHandle" ∧ yX4_tokenStart.cls ≠ "java/lang/invoke/VarHandle" ∧ (parseMethodDescriptor yX4_tokenStart.desc).map (fun d => d.parameters.length) = some 0 := by decide +kernel
theorem hd_X6_part : yX6_part.cls ≠ "java/lang/invoke/MethodHandle" ∧ yX6_part.cls ≠ "java/lang/invoke/VarHandle" ∧ (parseMethodDescriptor yX6_part.desc).map (fun d => d.parameters.length) = some 2 := by decide +kernel
theorem hd_X6_isPart : yX6_isPart.cls ≠ "java/lang/invoke/MethodHandle" ∧ yX6_isPart.cls ≠ "java/lang/invoke/VarHandle" ∧ (parseMethodDescriptor yX6_isPart.desc).map (fun d => d.parameters.length) = some 1 := by decide +kernel
theorem hd_X5_parts : yX5_parts.cls ≠ "java/lang/invoke/MethodHandle" ∧ yX5_parts.cls ≠ "java/lang/invoke/VarHandle" ∧ (parseMethodDescriptor yX5_parts.desc).map (fun d => d.parameters.length) = some 0 := by decide +kernel
theorem hd_X1_age : yX1_age.cls ≠ "java/lang/invoke/MethodHandle" ∧ yX1_age.cls ≠ "java/lang/invoke/VarHandle" ∧ (parseMethodDescriptor yX1_age.desc).map (fun d => d.parameters.length) = some 1 := by decide +kernel
theorem hd_X6_giftOf : yX6_giftOf.cls ≠ "java/lang/invoke/MethodHandle" ∧ yX6_giftOf.cls ≠ "java/lang/invoke/VarHandle" ∧ (parseMethodDescriptor yX6_giftOf.desc).map (fun d => d.parameters.length) = some 1 := by decide +kernel
theorem hd_X5_ripe : yX5_ripe.cls ≠ "java/lang/invoke/MethodHandle" ∧ yX5_ripe.cls ≠ "java/lang/invoke/VarHandle" ∧ (parseMethodDescriptor yX5_ripe.desc).map (fun d => d.parameters.length) = some 0 := by decide +kernel
theorem hd_X6_gift : yX6_gift.cls ≠ "java/lang/invoke/MethodHandle" ∧ yX6_gift.cls ≠ "java/lang/invoke/VarHandle" ∧ (parseMethodDescriptor yX6_gift.desc).map (fun d => d.parameters.length) = some 3 := by decide +kernel
theorem hd_X6_order : yX6_order.cls ≠ "java/lang/invoke/MethodHandle" ∧ yX6_order.cls ≠ "java/lang/invoke/VarHandle" ∧ (parseMethodDescriptor yX6_order.desc).map (fun d => d.parameters.length) = some 2 := by decide +kernel
theorem hd_X6_isOrder : yX6_isOrder.cls ≠ "java/lang/invoke/MethodHandle" ∧ yX6_isOrder.cls ≠ "java/lang/invoke/VarHandle" ∧ (parseMethodDescriptor yX6_isOrder.desc).map (fun d => d.parameters.length) = some 1 := by decide +kernel
theorem hd_X5_orders : yX5_orders.cls ≠ "java/lang/invoke/MethodHandle" ∧ yX5_orders.cls ≠ "java/lang/invoke/VarHandle" ∧ (parseMethodDescriptor yX5_orders.desc).map (fun d => d.parameters.length) = some 0 := by decide +kernel
theorem hd_X1_wasSent : yX1_wasSent.cls ≠ "java/lang/invoke/MethodHandle" ∧ yX1_wasSent.cls ≠ "java/lang/invoke/VarHandle" ∧ (parseMethodDescriptor yX1_wasSent.desc).map (fun d => d.parameters.length) = some 1 := by decide +kernel
theorem hd_X6_side : yX6_side.cls ≠ "java/lang/invoke/MethodHandle" ∧ yX6_side.cls ≠ "java/lang/invoke/VarHandle" ∧ (parseMethodDescriptor yX6_side.desc).map (fun d => d.parameters.length) = some 1 := by decide +kernel
theorem hd_X6_isSide : yX6_isSide.cls ≠ "java/lang/invoke/MethodHandle" ∧ yX6_isSide.cls ≠ "java/lang/invoke/VarHandle" ∧ (parseMethodDescriptor yX6_isSide.desc).map (fun d => d.parameters.length) = some 1 := by decide +kernel
theorem hd_X0_lengthOf : yX0_lengthOf.cls ≠ "java/lang/invoke/MethodHandle" ∧ yX0_lengthOf.cls ≠ "java/lang/invoke/VarHandle" ∧ (parseMethodDescriptor yX0_lengthOf.desc).map (fun d => d.parameters.length) = some 1 := by decide +kernel
theorem hd_X6_now : yX6_now.cls ≠ "java/lang/invoke/MethodHandle" ∧ yX6_now.cls ≠ "java/lang/invoke/VarHandle" ∧ (parseMethodDescriptor yX6_now.desc).map (fun d => d.parameters.length) = some 1 := by decide +kernel
theorem hd_X6_cuts : yX6_cuts.cls ≠ "java/lang/invoke/MethodHandle" ∧ yX6_cuts.cls ≠ "java/lang/invoke/VarHandle" ∧ (parseMethodDescriptor yX6_cuts.desc).map (fun d => d.parameters.length) = some 1 := by decide +kernel
theorem hd_X6_remember : yX6_remember.cls ≠ "java/lang/invoke/MethodHandle" ∧ yX6_remember.cls ≠ "java/lang/invoke/VarHandle" ∧ (parseMethodDescriptor yX6_remember.desc).map (fun d => d.parameters.length) = some 0 := by decide +kernel
theorem hd_X3_put : yX3_put.cls ≠ "java/lang/invoke/MethodHandle" ∧ yX3_put.cls ≠ "java/lang/invoke/VarHandle" ∧ (parseMethodDescriptor yX3_put.desc).map (fun d => d.parameters.length) = some 2 := by decide +kernel
theorem hd_X3_placeAt : yX3_placeAt.cls ≠ "java/lang/invoke/MethodHandle" ∧ yX3_placeAt.cls ≠ "java/lang/invoke/VarHandle" ∧ (parseMethodDescriptor yX3_placeAt.desc).map (fun d => d.parameters.length) = some 1 := by decide +kernel
theorem hd_X1_setAs : yX1_setAs.cls ≠ "java/lang/invoke/MethodHandle" ∧ yX1_setAs.cls ≠ "java/lang/invoke/VarHandle" ∧ (parseMethodDescriptor yX1_setAs.desc).map (fun d => d.parameters.length) = some 1 := by decide +kernel
theorem hd_X0_setAs : yX0_setAs.cls ≠ "java/lang/invoke/MethodHandle" ∧ yX0_setAs.cls ≠ "java/lang/invoke/VarHandle" ∧ (parseMethodDescriptor yX0_setAs.desc).map (fun d => d.parameters.length) = some 1 := by decide +kernel
theorem hd_X1_beCut : yX1_beCut.cls ≠ "java/lang/invoke/MethodHandle" ∧ yX1_beCut.cls ≠ "java/lang/invoke/VarHandle" ∧ (parseMethodDescriptor yX1_beCut.desc).map (fun d => d.parameters.length) = some 1 := by decide +kernel
theorem hd_X6_year : yX6_year.cls ≠ "java/lang/invoke/MethodHandle" ∧ yX6_year.cls ≠ "java/lang/invoke/VarHandle" ∧ (parseMethodDescriptor yX6_year.desc).map (fun d => d.parameters.length) = some 0 := by decide +kernel
theorem hd_X1_growOlder : yX1_growOlder.cls ≠ "java/lang/invoke/MethodHandle" ∧ yX1_growOlder.cls ≠ "java/lang/invoke/VarHandle" ∧ (parseMethodDescriptor yX1_growOlder.desc).map (fun d => d.parameters.length) = some 0 := by decide +kernel
theorem hd_X6_binds : yX6_binds.cls ≠ "java/lang/invoke/MethodHandle" ∧ yX6_binds.cls ≠ "java/lang/invoke/VarHandle" ∧ (parseMethodDescriptor yX6_binds.desc).map (fun d => d.parameters.length) = some 1 := by decide +kernel
theorem hd_X5_twigs : yX5_twigs.cls ≠ "java/lang/invoke/MethodHandle" ∧ yX5_twigs.cls ≠ "java/lang/invoke/VarHandle" ∧ (parseMethodDescriptor yX5_twigs.desc).map (fun d => d.parameters.length) = some 0 := by decide +kernel
theorem hd_X5_pace : yX5_pace.cls ≠ "java/lang/invoke/MethodHandle" ∧ yX5_pace.cls ≠ "java/lang/invoke/VarHandle" ∧ (parseMethodDescriptor yX5_pace.desc).map (fun d => d.parameters.length) = some 0 := by decide +kernel
theorem hd_X6_cutUpwards : yX6_cutUpwards.cls ≠ "java/lang/invoke/MethodHandle" ∧ yX6_cutUpwards.cls ≠ "java/lang/invoke/VarHandle" ∧ (parseMethodDescriptor yX6_cutUpwards.desc).map (fun d => d.parameters.length) = some 2 := by decide +kernel
theorem hd_X6_sends : yX6_sends.cls ≠ "java/lang/invoke/MethodHandle" ∧ yX6_sends.cls ≠ "java/lang/invoke/VarHandle" ∧ (parseMethodDescriptor yX6_sends.desc).map (fun d => d.parameters.length) = some 1 := by decide +kernel
theorem hd_X6_isLate : yX6_isLate.cls ≠ "java/lang/invoke/MethodHandle" ∧ yX6_isLate.cls ≠ "java/lang/invoke/VarHandle" ∧ (parseMethodDescriptor yX6_isLate.desc).map (fun d => d.parameters.length) = some 1 := by decide +kernel
theorem hd_X6_sweeps : yX6_sweeps.cls ≠ "java/lang/invoke/MethodHandle" ∧ yX6_sweeps.cls ≠ "java/lang/invoke/VarHandle" ∧ (parseMethodDescriptor yX6_sweeps.desc).map (fun d => d.parameters.length) = some 0 := by decide +kernel
theorem hd_X0_sweep : yX0_sweep.cls ≠ "java/lang/invoke/MethodHandle" ∧ yX0_sweep.cls ≠ "java/lang/invoke/VarHandle" ∧ (parseMethodDescriptor yX0_sweep.desc).map (fun d => d.parameters.length) = some 0 := by decide +kernel
theorem hd_X0_shorten : yX0_shorten.cls ≠ "java/lang/invoke/MethodHandle" ∧ yX0_shorten.cls ≠ "java/lang/invoke/VarHandle" ∧ (parseMethodDescriptor yX0_shorten.desc).map (fun d => d.parameters.length) = some 2 := by decide +kernel
theorem hd_X6_spins : yX6_spins.cls ≠ "java/lang/invoke/MethodHandle" ∧ yX6_spins.cls ≠ "java/lang/invoke/VarHandle" ∧ (parseMethodDescriptor yX6_spins.desc).map (fun d => d.parameters.length) = some 1 := by decide +kernel
theorem hd_X0_turnBy : yX0_turnBy.cls ≠ "java/lang/invoke/MethodHandle" ∧ yX0_turnBy.cls ≠ "java/lang/invoke/VarHandle" ∧ (parseMethodDescriptor yX0_turnBy.desc).map (fun d => d.parameters.length) = some 1 := by decide +kernel
theorem hd_X6_undo : yX6_undo.cls ≠ "java/lang/invoke/MethodHandle" ∧ yX6_undo.cls ≠ "java/lang/invoke/VarHandle" ∧ (parseMethodDescriptor yX6_undo.desc).map (fun d => d.parameters.length) = some 0 := by decide +kernel
theorem hd_X3_take : yX3_take.cls ≠ "java/lang/invoke/MethodHandle" ∧ yX3_take.cls ≠ "java/lang/invoke/VarHandle" ∧ (parseMethodDescriptor yX3_take.desc).map (fun d => d.parameters.length) = some 2 := by decide +kernel
theorem hd_X6_inYears : yX6_inYears.cls ≠ "java/lang/invoke/MethodHandle" ∧ yX6_inYears.cls ≠ "java/lang/invoke/VarHandle" ∧ (parseMethodDescriptor yX6_inYears.desc).map (fun d => d.parameters.length) = some 2 := by decide +kernel
theorem hd_X6_turn : yX6_turn.cls ≠ "java/lang/invoke/MethodHandle" ∧ yX6_turn.cls ≠ "java/lang/invoke/VarHandle" ∧ (parseMethodDescriptor yX6_turn.desc).map (fun d => d.parameters.length) = some 2 := by decide +kernel
theorem hd_X6_bestTurn : yX6_bestTurn.cls ≠ "java/lang/invoke/MethodHandle" ∧ yX6_bestTurn.cls ≠ "java/lang/invoke/VarHandle" ∧ (parseMethodDescriptor yX6_bestTurn.desc).map (fun d => d.parameters.length) = some 0 := by decide +kernel
theorem hd_X6_inLeastTerms : yX6_inLeastTerms.cls ≠ "java/lang/invoke/MethodHandle" ∧ yX6_inLeastTerms.cls ≠ "java/lang/invoke/VarHandle" ∧ (parseMethodDescriptor yX6_inLeastTerms.desc).map (fun d => d.parameters.length) = some 3 := by decide +kernel
theorem hd_X6_commonDivisor : yX6_commonDivisor.cls ≠ "java/lang/invoke/MethodHandle" ∧ yX6_commonDivisor.cls ≠ "java/lang/invoke/VarHandle" ∧ (parseMethodDescriptor yX6_commonDivisor.desc).map (fun d => d.parameters.length) = some 2 := by decide +kernel
theorem hd_X6_plan : yX6_plan.cls ≠ "java/lang/invoke/MethodHandle" ∧ yX6_plan.cls ≠ "java/lang/invoke/VarHandle" ∧ (parseMethodDescriptor yX6_plan.desc).map (fun d => d.parameters.length) = some 2 := by decide +kernel
theorem hd_X2_find : yX2_find.cls ≠ "java/lang/invoke/MethodHandle" ∧ yX2_find.cls ≠ "java/lang/invoke/VarHandle" ∧ (parseMethodDescriptor yX2_find.desc).map (fun d => d.parameters.length) = some 3 := by decide +kernel
theorem hd_X2_gotIn : yX2_gotIn.cls ≠ "java/lang/invoke/MethodHandle" ∧ yX2_gotIn.cls ≠ "java/lang/invoke/VarHandle" ∧ (parseMethodDescriptor yX2_gotIn.desc).map (fun d => d.parameters.length) = some 3 := by decide +kernel
theorem hd_X2_compare : yX2_compare.cls ≠ "java/lang/invoke/MethodHandle" ∧ yX2_compare.cls ≠ "java/lang/invoke/VarHandle" ∧ (parseMethodDescriptor yX2_compare.desc).map (fun d => d.parameters.length) = some 1 := by decide +kernel
theorem hd_X2_goToNextRow : yX2_goToNextRow.cls ≠ "java/lang/invoke/MethodHandle" ∧ yX2_goToNextRow.cls ≠ "java/lang/invoke/VarHandle" ∧ (parseMethodDescriptor yX2_goToNextRow.desc).map (fun d => d.parameters.length) = some 2 := by decide +kernel
theorem hd_X2_mostTwigs : yX2_mostTwigs.cls ≠ "java/lang/invoke/MethodHandle" ∧ yX2_mostTwigs.cls ≠ "java/lang/invoke/VarHandle" ∧ (parseMethodDescriptor yX2_mostTwigs.desc).map (fun d => d.parameters.length) = some 0 := by decide +kernel
theorem hd_X2_chosenIn : yX2_chosenIn.cls ≠ "java/lang/invoke/MethodHandle" ∧ yX2_chosenIn.cls ≠ "java/lang/invoke/VarHandle" ∧ (parseMethodDescriptor yX2_chosenIn.desc).map (fun d => d.parameters.length) = some 1 := by decide +kernel
theorem hd_X6_kept : yX6_kept.cls ≠ "java/lang/invoke/MethodHandle" ∧ yX6_kept.cls ≠ "java/lang/invoke/VarHandle" ∧ (parseMethodDescriptor yX6_kept.desc).map (fun d => d.parameters.length) = some 1 := by decide +kernel
theorem hd_X6_coinsOf : yX6_coinsOf.cls ≠ "java/lang/invoke/MethodHandle" ∧ yX6_coinsOf.cls ≠ "java/lang/invoke/VarHandle" ∧ (parseMethodDescriptor yX6_coinsOf.desc).map (fun d => d.parameters.length) = some 1 := by decide +kernel
theorem hd_X6_canBeKept : yX6_canBeKept.cls ≠ "java/lang/invoke/MethodHandle" ∧ yX6_canBeKept.cls ≠ "java/lang/invoke/VarHandle" ∧ (parseMethodDescriptor yX6_canBeKept.desc).map (fun d => d.parameters.length) = some 1 := by decide +kernel
theorem hd_X6_cutDownwards : yX6_cutDownwards.cls ≠ "java/lang/invoke/MethodHandle" ∧ yX6_cutDownwards.cls ≠ "java/lang/invoke/VarHandle" ∧ (parseMethodDescriptor yX6_cutDownwards.desc).map (fun d => d.parameters.length) = some 2 := by decide +kernel
theorem hd_X6_besomsDueBy : yX6_besomsDueBy.cls ≠ "java/lang/invoke/MethodHandle" ∧ yX6_besomsDueBy.cls ≠ "java/lang/invoke/VarHandle" ∧ (parseMethodDescriptor yX6_besomsDueBy.desc).map (fun d => d.parameters.length) = some 2 := by decide +kernel
theorem hd_X6_next : yX6_next.cls ≠ "java/lang/invoke/MethodHandle" ∧ yX6_next.cls ≠ "java/lang/invoke/VarHandle" ∧ (parseMethodDescriptor yX6_next.desc).map (fun d => d.parameters.length) = some 1 := by decide +kernel
theorem hd_X6_goesAhead : yX6_goesAhead.cls ≠ "java/lang/invoke/MethodHandle" ∧ yX6_goesAhead.cls ≠ "java/lang/invoke/VarHandle" ∧ (parseMethodDescriptor yX6_goesAhead.desc).map (fun d => d.parameters.length) = some 3 := by decide +kernel
theorem hd_X6_lack : yX6_lack.cls ≠ "java/lang/invoke/MethodHandle" ∧ yX6_lack.cls ≠ "java/lang/invoke/VarHandle" ∧ (parseMethodDescriptor yX6_lack.desc).map (fun d => d.parameters.length) = some 0 := by decide +kernel
theorem hd_X6_lackingTwigs : yX6_lackingTwigs.cls ≠ "java/lang/invoke/MethodHandle" ∧ yX6_lackingTwigs.cls ≠ "java/lang/invoke/VarHandle" ∧ (parseMethodDescriptor yX6_lackingTwigs.desc).map (fun d => d.parameters.length) = some 0 := by decide +kernel
theorem hd_X6_besomsToBind : yX6_besomsToBind.cls ≠ "java/lang/invoke/MethodHandle" ∧ yX6_besomsToBind.cls ≠ "java/lang/invoke/VarHandle" ∧ (parseMethodDescriptor yX6_besomsToBind.desc).map (fun d => d.parameters.length) = some 0 := by decide +kernel
theorem hd_X6_cutFor : yX6_cutFor.cls ≠ "java/lang/invoke/MethodHandle" ∧ yX6_cutFor.cls ≠ "java/lang/invoke/VarHandle" ∧ (parseMethodDescriptor yX6_cutFor.desc).map (fun d => d.parameters.length) = some 0 := by decide +kernel
theorem hd_X6_giftsOf : yX6_giftsOf.cls ≠ "java/lang/invoke/MethodHandle" ∧ yX6_giftsOf.cls ≠ "java/lang/invoke/VarHandle" ∧ (parseMethodDescriptor yX6_giftsOf.desc).map (fun d => d.parameters.length) = some 1 := by decide +kernel
theorem hd_X6_allBy : yX6_allBy.cls ≠ "java/lang/invoke/MethodHandle" ∧ yX6_allBy.cls ≠ "java/lang/invoke/VarHandle" ∧ (parseMethodDescriptor yX6_allBy.desc).map (fun d => d.parameters.length) = some 0 := by decide +kernel
theorem hd_X6_lasts : yX6_lasts.cls ≠ "java/lang/invoke/MethodHandle" ∧ yX6_lasts.cls ≠ "java/lang/invoke/VarHandle" ∧ (parseMethodDescriptor yX6_lasts.desc).map (fun d => d.parameters.length) = some 1 := by decide +kernel
theorem hd_X6_sweepingsBy : yX6_sweepingsBy.cls ≠ "java/lang/invoke/MethodHandle" ∧ yX6_sweepingsBy.cls ≠ "java/lang/invoke/VarHandle" ∧ (parseMethodDescriptor yX6_sweepingsBy.desc).map (fun d => d.parameters.length) = some 1 := by decide +kernel
theorem hd_X0_isWornOut : yX0_isWornOut.cls ≠ "java/lang/invoke/MethodHandle" ∧ yX0_isWornOut.cls ≠ "java/lang/invoke/VarHandle" ∧ (parseMethodDescriptor yX0_isWornOut.desc).map (fun d => d.parameters.length) = some 0 := by decide +kernel
theorem hd_X6_latest : yX6_latest.cls ≠ "java/lang/invoke/MethodHandle" ∧ yX6_latest.cls ≠ "java/lang/invoke/VarHandle" ∧ (parseMethodDescriptor yX6_latest.desc).map (fun d => d.parameters.length) = some 0 := by decide +kernel
theorem hd_X6_saw : yX6_saw.cls ≠ "java/lang/invoke/MethodHandle" ∧ yX6_saw.cls ≠ "java/lang/invoke/VarHandle" ∧ (parseMethodDescriptor yX6_saw.desc).map (fun d => d.parameters.length) = some 3 := by decide +kernel
theorem hd_X6_forget : yX6_forget.cls ≠ "java/lang/invoke/MethodHandle" ∧ yX6_forget.cls ≠ "java/lang/invoke/VarHandle" ∧ (parseMethodDescriptor yX6_forget.desc).map (fun d => d.parameters.length) = some 0 := by decide +kernel
theorem hd_X6_which : yX6_which.cls ≠ "java/lang/invoke/MethodHandle" ∧ yX6_which.cls ≠ "java/lang/invoke/VarHandle" ∧ (parseMethodDescriptor yX6_which.desc).map (fun d => d.parameters.length) = some 0 := by decide +kernel
theorem hd_X6_allSeenIsSoBy : yX6_allSeenIsSoBy.cls ≠ "java/lang/invoke/MethodHandle" ∧ yX6_allSeenIsSoBy.cls ≠ "java/lang/invoke/VarHandle" ∧ (parseMethodDescriptor yX6_allSeenIsSoBy.desc).map (fun d => d.parameters.length) = some 1 := by decide +kernel
theorem hd_X6_seenFits : yX6_seenFits.cls ≠ "java/lang/invoke/MethodHandle" ∧ yX6_seenFits.cls ≠ "java/lang/invoke/VarHandle" ∧ (parseMethodDescriptor yX6_seenFits.desc).map (fun d => d.parameters.length) = some 1 := by decide +kernel
theorem hd_X6_odds : yX6_odds.cls ≠ "java/lang/invoke/MethodHandle" ∧ yX6_odds.cls ≠ "java/lang/invoke/VarHandle" ∧ (parseMethodDescriptor yX6_odds.desc).map (fun d => d.parameters.length) = some 4 := by decide +kernel
theorem hd_X6_waysToChoose : yX6_waysToChoose.cls ≠ "java/lang/invoke/MethodHandle" ∧ yX6_waysToChoose.cls ≠ "java/lang/invoke/VarHandle" ∧ (parseMethodDescriptor yX6_waysToChoose.desc).map (fun d => d.parameters.length) = some 2 := by decide +kernel
theorem hd_X6_power : yX6_power.cls ≠ "java/lang/invoke/MethodHandle" ∧ yX6_power.cls ≠ "java/lang/invoke/VarHandle" ∧ (parseMethodDescriptor yX6_power.desc).map (fun d => d.parameters.length) = some 2 := by decide +kernel
theorem hd_X6_rate : yX6_rate.cls ≠ "java/lang/invoke/MethodHandle" ∧ yX6_rate.cls ≠ "java/lang/invoke/VarHandle" ∧ (parseMethodDescriptor yX6_rate.desc).map (fun d => d.parameters.length) = some 2 := by decide +kernel
theorem hd_X6_rateAsPart : yX6_rateAsPart.cls ≠ "java/lang/invoke/MethodHandle" ∧ yX6_rateAsPart.cls ≠ "java/lang/invoke/VarHandle" ∧ (parseMethodDescriptor yX6_rateAsPart.desc).map (fun d => d.parameters.length) = some 1 := by decide +kernel
theorem hd_X6_rateAsBirch : yX6_rateAsBirch.cls ≠ "java/lang/invoke/MethodHandle" ∧ yX6_rateAsBirch.cls ≠ "java/lang/invoke/VarHandle" ∧ (parseMethodDescriptor yX6_rateAsBirch.desc).map (fun d => d.parameters.length) = some 1 := by decide +kernel
theorem hd_X6_rateAsHeather : yX6_rateAsHeather.cls ≠ "java/lang/invoke/MethodHandle" ∧ yX6_rateAsHeather.cls ≠ "java/lang/invoke/VarHandle" ∧ (parseMethodDescriptor yX6_rateAsHeather.desc).map (fun d => d.parameters.length) = some 1 := by decide +kernel
theorem hd_X6_rateAsStake : yX6_rateAsStake.cls ≠ "java/lang/invoke/MethodHandle" ∧ yX6_rateAsStake.cls ≠ "java/lang/invoke/VarHandle" ∧ (parseMethodDescriptor yX6_rateAsStake.desc).map (fun d => d.parameters.length) = some 1 := by decide +kernel
theorem hd_X6_rateAsKnot : yX6_rateAsKnot.cls ≠ "java/lang/invoke/MethodHandle" ∧ yX6_rateAsKnot.cls ≠ "java/lang/invoke/VarHandle" ∧ (parseMethodDescriptor yX6_rateAsKnot.desc).map (fun d => d.parameters.length) = some 1 := by decide +kernel
theorem hd_X6_rateAsBramble : yX6_rateAsBramble.cls ≠ "java/lang/invoke/MethodHandle" ∧ yX6_rateAsBramble.cls ≠ "java/lang/invoke/VarHandle" ∧ (parseMethodDescriptor yX6_rateAsBramble.desc).map (fun d => d.parameters.length) = some 1 := by decide +kernel
theorem hd_X6_keep : yX6_keep.cls ≠ "java/lang/invoke/MethodHandle" ∧ yX6_keep.cls ≠ "java/lang/invoke/VarHandle" ∧ (parseMethodDescriptor yX6_keep.desc).map (fun d => d.parameters.length) = some 1 := by decide +kernel
theorem hd_X6_isImage : yX6_isImage.cls ≠ "java/lang/invoke/MethodHandle" ∧ yX6_isImage.cls ≠ "java/lang/invoke/VarHandle" ∧ (parseMethodDescriptor yX6_isImage.desc).map (fun d => d.parameters.length) = some 1 := by decide +kernel
theorem hd_X6_back : yX6_back.cls ≠ "java/lang/invoke/MethodHandle" ∧ yX6_back.cls ≠ "java/lang/invoke/VarHandle" ∧ (parseMethodDescriptor yX6_back.desc).map (fun d => d.parameters.length) = some 1 := by decide +kernel
theorem hd_X6_count : yX6_count.cls ≠ "java/lang/invoke/MethodHandle" ∧ yX6_count.cls ≠ "java/lang/invoke/VarHandle" ∧ (parseMethodDescriptor yX6_count.desc).map (fun d => d.parameters.length) = some 1 := by decide +kernel
theorem hd_X6_trace : yX6_trace.cls ≠ "java/lang/invoke/MethodHandle" ∧ yX6_trace.cls ≠ "java/lang/invoke/VarHandle" ∧ (parseMethodDescriptor yX6_trace.desc).map (fun d => d.parameters.length) = some 0 := by decide +kernel
theorem hd_X7_init : yX7_init.cls ≠ "java/lang/invoke/MethodHandle" ∧ yX7_init.cls ≠ "java/lang/invoke/VarHandle" ∧ (parseMethodDescriptor yX7_init.desc).map (fun d => d.parameters.length) = some 0 := by decide +kernel
theorem hd_X7_begins : yX7_begins.cls ≠ "java/lang/invoke/MethodHandle" ∧ yX7_begins.cls ≠ "java/lang/invoke/VarHandle" ∧ (parseMethodDescriptor yX7_begins.desc).map (fun d => d.parameters.length) = some 0 := by decide +kernel
theorem hd_X7_settles : yX7_settles.cls ≠ "java/lang/invoke/MethodHandle" ∧ yX7_settles.cls ≠ "java/lang/invoke/VarHandle" ∧ (parseMethodDescriptor yX7_settles.desc).map (fun d => d.parameters.length) = some 0 := by decide +kernel
theorem hd_X7_type : yX7_type.cls ≠ "java/lang/invoke/MethodHandle" ∧ yX7_type.cls ≠ "java/lang/invoke/VarHandle" ∧ (parseMethodDescriptor yX7_type.desc).map (fun d => d.parameters.length) = some 1 := by decide +kernel
theorem hd_X7_in : yX7_in.cls ≠ "java/lang/invoke/MethodHandle" ∧ yX7_in.cls ≠ "java/lang/invoke/VarHandle" ∧ (parseMethodDescriptor yX7_in.desc).map (fun d => d.parameters.length) = some 3 := by decide +kernel
theorem hd_X7_clear : yX7_clear.cls ≠ "java/lang/invoke/MethodHandle" ∧ yX7_clear.cls ≠ "java/lang/invoke/VarHandle" ∧ (parseMethodDescriptor yX7_clear.desc).map (fun d => d.parameters.length) = some 0 := by decide +kernel
theorem hd_X7_yard : yX7_yard.cls ≠ "java/lang/invoke/MethodHandle" ∧ yX7_yard.cls ≠ "java/lang/invoke/VarHandle" ∧ (parseMethodDescriptor yX7_yard.desc).map (fun d => d.parameters.length) = some 0 := by decide +kernel
theorem hd_X7_advances : yX7_advances.cls ≠ "java/lang/invoke/MethodHandle" ∧ yX7_advances.cls ≠ "java/lang/invoke/VarHandle" ∧ (parseMethodDescriptor yX7_advances.desc).map (fun d => d.parameters.length) = some 0 := by decide +kernel
theorem hd_X7_letterAt : yX7_letterAt.cls ≠ "java/lang/invoke/MethodHandle" ∧ yX7_letterAt.cls ≠ "java/lang/invoke/VarHandle" ∧ (parseMethodDescriptor yX7_letterAt.desc).map (fun d => d.parameters.length) = some 1 := by decide +kernel
theorem hd_X7_isLetter : yX7_isLetter.cls ≠ "java/lang/invoke/MethodHandle" ∧ yX7_isLetter.cls ≠ "java/lang/invoke/VarHandle" ∧ (parseMethodDescriptor yX7_isLetter.desc).map (fun d => d.parameters.length) = some 1 := by decide +kernel
theorem hd_X7_isWell : yX7_isWell.cls ≠ "java/lang/invoke/MethodHandle" ∧ yX7_isWell.cls ≠ "java/lang/invoke/VarHandle" ∧ (parseMethodDescriptor yX7_isWell.desc).map (fun d => d.parameters.length) = some 0 := by decide +kernel
theorem hd_X7_mayBegin : yX7_mayBegin.cls ≠ "java/lang/invoke/MethodHandle" ∧ yX7_mayBegin.cls ≠ "java/lang/invoke/VarHandle" ∧ (parseMethodDescriptor yX7_mayBegin.desc).map (fun d => d.parameters.length) = some 0 := by decide +kernel
theorem hd_X7_fixed : yX7_fixed.cls ≠ "java/lang/invoke/MethodHandle" ∧ yX7_fixed.cls ≠ "java/lang/invoke/VarHandle" ∧ (parseMethodDescriptor yX7_fixed.desc).map (fun d => d.parameters.length) = some 1 := by decide +kernel
theorem hd_X7_takes : yX7_takes.cls ≠ "java/lang/invoke/MethodHandle" ∧ yX7_takes.cls ≠ "java/lang/invoke/VarHandle" ∧ (parseMethodDescriptor yX7_takes.desc).map (fun d => d.parameters.length) = some 1 := by decide +kernel
theorem hd_X7_readsItem : yX7_readsItem.cls ≠ "java/lang/invoke/MethodHandle" ∧ yX7_readsItem.cls ≠ "java/lang/invoke/VarHandle" ∧ (parseMethodDescriptor yX7_readsItem.desc).map (fun d => d.parameters.length) = some 1 := by decide +kernel
theorem hd_X7_number : yX7_number.cls ≠ "java/lang/invoke/MethodHandle" ∧ yX7_number.cls ≠ "java/lang/invoke/VarHandle" ∧ (parseMethodDescriptor yX7_number.desc).map (fun d => d.parameters.length) = some 2 := by decide +kernel
theorem hd_X7_part : yX7_part.cls ≠ "java/lang/invoke/MethodHandle" ∧ yX7_part.cls ≠ "java/lang/invoke/VarHandle" ∧ (parseMethodDescriptor yX7_part.desc).map (fun d => d.parameters.length) = some 2 := by decide +kernel
theorem hd_X7_isPart : yX7_isPart.cls ≠ "java/lang/invoke/MethodHandle" ∧ yX7_isPart.cls ≠ "java/lang/invoke/VarHandle" ∧ (parseMethodDescriptor yX7_isPart.desc).map (fun d => d.parameters.length) = some 1 := by decide +kernel
theorem hd_X7_gives : yX7_gives.cls ≠ "java/lang/invoke/MethodHandle" ∧ yX7_gives.cls ≠ "java/lang/invoke/VarHandle" ∧ (parseMethodDescriptor yX7_gives.desc).map (fun d => d.parameters.length) = some 2 := by decide +kernel
theorem hd_X7_givesAt : yX7_givesAt.cls ≠ "java/lang/invoke/MethodHandle" ∧ yX7_givesAt.cls ≠ "java/lang/invoke/VarHandle" ∧ (parseMethodDescriptor yX7_givesAt.desc).map (fun d => d.parameters.length) = some 2 := by decide +kernel
theorem hd_X7_order : yX7_order.cls ≠ "java/lang/invoke/MethodHandle" ∧ yX7_order.cls ≠ "java/lang/invoke/VarHandle" ∧ (parseMethodDescriptor yX7_order.desc).map (fun d => d.parameters.length) = some 2 := by decide +kernel
theorem hd_X7_isOrder : yX7_isOrder.cls ≠ "java/lang/invoke/MethodHandle" ∧ yX7_isOrder.cls ≠ "java/lang/invoke/VarHandle" ∧ (parseMethodDescriptor yX7_isOrder.desc).map (fun d => d.parameters.length) = some 1 := by decide +kernel
theorem hd_X7_isSent : yX7_isSent.cls ≠ "java/lang/invoke/MethodHandle" ∧ yX7_isSent.cls ≠ "java/lang/invoke/VarHandle" ∧ (parseMethodDescriptor yX7_isSent.desc).map (fun d => d.parameters.length) = some 1 := by decide +kernel
theorem hd_X7_side : yX7_side.cls ≠ "java/lang/invoke/MethodHandle" ∧ yX7_side.cls ≠ "java/lang/invoke/VarHandle" ∧ (parseMethodDescriptor yX7_side.desc).map (fun d => d.parameters.length) = some 1 := by decide +kernel
theorem hd_X7_now : yX7_now.cls ≠ "java/lang/invoke/MethodHandle" ∧ yX7_now.cls ≠ "java/lang/invoke/VarHandle" ∧ (parseMethodDescriptor yX7_now.desc).map (fun d => d.parameters.length) = some 1 := by decide +kernel
theorem hd_X7_cuts : yX7_cuts.cls ≠ "java/lang/invoke/MethodHandle" ∧ yX7_cuts.cls ≠ "java/lang/invoke/VarHandle" ∧ (parseMethodDescriptor yX7_cuts.desc).map (fun d => d.parameters.length) = some 1 := by decide +kernel
theorem hd_X7_notes : yX7_notes.cls ≠ "java/lang/invoke/MethodHandle" ∧ yX7_notes.cls ≠ "java/lang/invoke/VarHandle" ∧ (parseMethodDescriptor yX7_notes.desc).map (fun d => d.parameters.length) = some 0 := by decide +kernel
theorem hd_X7_fells : yX7_fells.cls ≠ "java/lang/invoke/MethodHandle" ∧ yX7_fells.cls ≠ "java/lang/invoke/VarHandle" ∧ (parseMethodDescriptor yX7_fells.desc).map (fun d => d.parameters.length) = some 2 := by decide +kernel
theorem hd_X7_year : yX7_year.cls ≠ "java/lang/invoke/MethodHandle" ∧ yX7_year.cls ≠ "java/lang/invoke/VarHandle" ∧ (parseMethodDescriptor yX7_year.desc).map (fun d => d.parameters.length) = some 0 := by decide +kernel
theorem hd_X7_grows : yX7_grows.cls ≠ "java/lang/invoke/MethodHandle" ∧ yX7_grows.cls ≠ "java/lang/invoke/VarHandle" ∧ (parseMethodDescriptor yX7_grows.desc).map (fun d => d.parameters.length) = some 1 := by decide +kernel
theorem hd_X7_binds : yX7_binds.cls ≠ "java/lang/invoke/MethodHandle" ∧ yX7_binds.cls ≠ "java/lang/invoke/VarHandle" ∧ (parseMethodDescriptor yX7_binds.desc).map (fun d => d.parameters.length) = some 1 := by decide +kernel
theorem hd_X7_days : yX7_days.cls ≠ "java/lang/invoke/MethodHandle" ∧ yX7_days.cls ≠ "java/lang/invoke/VarHandle" ∧ (parseMethodDescriptor yX7_days.desc).map (fun d => d.parameters.length) = some 1 := by decide +kernel
theorem hd_X7_sends : yX7_sends.cls ≠ "java/lang/invoke/MethodHandle" ∧ yX7_sends.cls ≠ "java/lang/invoke/VarHandle" ∧ (parseMethodDescriptor yX7_sends.desc).map (fun d => d.parameters.length) = some 1 := by decide +kernel
theorem hd_X7_sweeps : yX7_sweeps.cls ≠ "java/lang/invoke/MethodHandle" ∧ yX7_sweeps.cls ≠ "java/lang/invoke/VarHandle" ∧ (parseMethodDescriptor yX7_sweeps.desc).map (fun d => d.parameters.length) = some 0 := by decide +kernel
theorem hd_X7_sweep : yX7_sweep.cls ≠ "java/lang/invoke/MethodHandle" ∧ yX7_sweep.cls ≠ "java/lang/invoke/VarHandle" ∧ (parseMethodDescriptor yX7_sweep.desc).map (fun d => d.parameters.length) = some 1 := by decide +kernel
theorem hd_X7_shortens : yX7_shortens.cls ≠ "java/lang/invoke/MethodHandle" ∧ yX7_shortens.cls ≠ "java/lang/invoke/VarHandle" ∧ (parseMethodDescriptor yX7_shortens.desc).map (fun d => d.parameters.length) = some 3 := by decide +kernel
theorem hd_X7_spins : yX7_spins.cls ≠ "java/lang/invoke/MethodHandle" ∧ yX7_spins.cls ≠ "java/lang/invoke/VarHandle" ∧ (parseMethodDescriptor yX7_spins.desc).map (fun d => d.parameters.length) = some 1 := by decide +kernel
theorem hd_X7_undo : yX7_undo.cls ≠ "java/lang/invoke/MethodHandle" ∧ yX7_undo.cls ≠ "java/lang/invoke/VarHandle" ∧ (parseMethodDescriptor yX7_undo.desc).map (fun d => d.parameters.length) = some 0 := by decide +kernel
theorem hd_X7_inYears : yX7_inYears.cls ≠ "java/lang/invoke/MethodHandle" ∧ yX7_inYears.cls ≠ "java/lang/invoke/VarHandle" ∧ (parseMethodDescriptor yX7_inYears.desc).map (fun d => d.parameters.length) = some 2 := by decide +kernel
theorem hd_X7_turn : yX7_turn.cls ≠ "java/lang/invoke/MethodHandle" ∧ yX7_turn.cls ≠ "java/lang/invoke/VarHandle" ∧ (parseMethodDescriptor yX7_turn.desc).map (fun d => d.parameters.length) = some 2 := by decide +kernel
theorem hd_X7_gcd : yX7_gcd.cls ≠ "java/lang/invoke/MethodHandle" ∧ yX7_gcd.cls ≠ "java/lang/invoke/VarHandle" ∧ (parseMethodDescriptor yX7_gcd.desc).map (fun d => d.parameters.length) = some 2 := by decide +kernel
theorem hd_X7_plan : yX7_plan.cls ≠ "java/lang/invoke/MethodHandle" ∧ yX7_plan.cls ≠ "java/lang/invoke/VarHandle" ∧ (parseMethodDescriptor yX7_plan.desc).map (fun d => d.parameters.length) = some 2 := by decide +kernel
theorem hd_X7_twigsBy : yX7_twigsBy.cls ≠ "java/lang/invoke/MethodHandle" ∧ yX7_twigsBy.cls ≠ "java/lang/invoke/VarHandle" ∧ (parseMethodDescriptor yX7_twigsBy.desc).map (fun d => d.parameters.length) = some 1 := by decide +kernel
theorem hd_X7_asNow : yX7_asNow.cls ≠ "java/lang/invoke/MethodHandle" ∧ yX7_asNow.cls ≠ "java/lang/invoke/VarHandle" ∧ (parseMethodDescriptor yX7_asNow.desc).map (fun d => d.parameters.length) = some 0 := by decide +kernel
theorem hd_X7_kept : yX7_kept.cls ≠ "java/lang/invoke/MethodHandle" ∧ yX7_kept.cls ≠ "java/lang/invoke/VarHandle" ∧ (parseMethodDescriptor yX7_kept.desc).map (fun d => d.parameters.length) = some 1 := by decide +kernel
theorem hd_X7_coinsOf : yX7_coinsOf.cls ≠ "java/lang/invoke/MethodHandle" ∧ yX7_coinsOf.cls ≠ "java/lang/invoke/VarHandle" ∧ (parseMethodDescriptor yX7_coinsOf.desc).map (fun d => d.parameters.length) = some 1 := by decide +kernel
theorem hd_X7_canBeKept : yX7_canBeKept.cls ≠ "java/lang/invoke/MethodHandle" ∧ yX7_canBeKept.cls ≠ "java/lang/invoke/VarHandle" ∧ (parseMethodDescriptor yX7_canBeKept.desc).map (fun d => d.parameters.length) = some 1 := by decide +kernel
theorem hd_X7_besomsBy : yX7_besomsBy.cls ≠ "java/lang/invoke/MethodHandle" ∧ yX7_besomsBy.cls ≠ "java/lang/invoke/VarHandle" ∧ (parseMethodDescriptor yX7_besomsBy.desc).map (fun d => d.parameters.length) = some 2 := by decide +kernel
theorem hd_X7_next : yX7_next.cls ≠ "java/lang/invoke/MethodHandle" ∧ yX7_next.cls ≠ "java/lang/invoke/VarHandle" ∧ (parseMethodDescriptor yX7_next.desc).map (fun d => d.parameters.length) = some 1 := by decide +kernel
theorem hd_X7_lack : yX7_lack.cls ≠ "java/lang/invoke/MethodHandle" ∧ yX7_lack.cls ≠ "java/lang/invoke/VarHandle" ∧ (parseMethodDescriptor yX7_lack.desc).map (fun d => d.parameters.length) = some 0 := by decide +kernel
theorem hd_X7_lacks : yX7_lacks.cls ≠ "java/lang/invoke/MethodHandle" ∧ yX7_lacks.cls ≠ "java/lang/invoke/VarHandle" ∧ (parseMethodDescriptor yX7_lacks.desc).map (fun d => d.parameters.length) = some 0 := by decide +kernel
theorem hd_X7_wanted : yX7_wanted.cls ≠ "java/lang/invoke/MethodHandle" ∧ yX7_wanted.cls ≠ "java/lang/invoke/VarHandle" ∧ (parseMethodDescriptor yX7_wanted.desc).map (fun d => d.parameters.length) = some 0 := by decide +kernel
theorem hd_X7_cutFor : yX7_cutFor.cls ≠ "java/lang/invoke/MethodHandle" ∧ yX7_cutFor.cls ≠ "java/lang/invoke/VarHandle" ∧ (parseMethodDescriptor yX7_cutFor.desc).map (fun d => d.parameters.length) = some 0 := by decide +kernel
theorem hd_X7_ones : yX7_ones.cls ≠ "java/lang/invoke/MethodHandle" ∧ yX7_ones.cls ≠ "java/lang/invoke/VarHandle" ∧ (parseMethodDescriptor yX7_ones.desc).map (fun d => d.parameters.length) = some 1 := by decide +kernel
theorem hd_X7_allBy : yX7_allBy.cls ≠ "java/lang/invoke/MethodHandle" ∧ yX7_allBy.cls ≠ "java/lang/invoke/VarHandle" ∧ (parseMethodDescriptor yX7_allBy.desc).map (fun d => d.parameters.length) = some 0 := by decide +kernel
theorem hd_X7_lasts : yX7_lasts.cls ≠ "java/lang/invoke/MethodHandle" ∧ yX7_lasts.cls ≠ "java/lang/invoke/VarHandle" ∧ (parseMethodDescriptor yX7_lasts.desc).map (fun d => d.parameters.length) = some 1 := by decide +kernel
theorem hd_X7_lastsBy : yX7_lastsBy.cls ≠ "java/lang/invoke/MethodHandle" ∧ yX7_lastsBy.cls ≠ "java/lang/invoke/VarHandle" ∧ (parseMethodDescriptor yX7_lastsBy.desc).map (fun d => d.parameters.length) = some 1 := by decide +kernel
theorem hd_X7_isWornOut : yX7_isWornOut.cls ≠ "java/lang/invoke/MethodHandle" ∧ yX7_isWornOut.cls ≠ "java/lang/invoke/VarHandle" ∧ (parseMethodDescriptor yX7_isWornOut.desc).map (fun d => d.parameters.length) = some 1 := by decide +kernel
theorem hd_X7_goes : yX7_goes.cls ≠ "java/lang/invoke/MethodHandle" ∧ yX7_goes.cls ≠ "java/lang/invoke/VarHandle" ∧ (parseMethodDescriptor yX7_goes.desc).map (fun d => d.parameters.length) = some 1 := by decide +kernel
theorem hd_X7_latest : yX7_latest.cls ≠ "java/lang/invoke/MethodHandle" ∧ yX7_latest.cls ≠ "java/lang/invoke/VarHandle" ∧ (parseMethodDescriptor yX7_latest.desc).map (fun d => d.parameters.length) = some 0 := by decide +kernel
theorem hd_X7_saw : yX7_saw.cls ≠ "java/lang/invoke/MethodHandle" ∧ yX7_saw.cls ≠ "java/lang/invoke/VarHandle" ∧ (parseMethodDescriptor yX7_saw.desc).map (fun d => d.parameters.length) = some 3 := by decide +kernel
theorem hd_X7_forget : yX7_forget.cls ≠ "java/lang/invoke/MethodHandle" ∧ yX7_forget.cls ≠ "java/lang/invoke/VarHandle" ∧ (parseMethodDescriptor yX7_forget.desc).map (fun d => d.parameters.length) = some 0 := by decide +kernel
theorem hd_X7_which : yX7_which.cls ≠ "java/lang/invoke/MethodHandle" ∧ yX7_which.cls ≠ "java/lang/invoke/VarHandle" ∧ (parseMethodDescriptor yX7_which.desc).map (fun d => d.parameters.length) = some 0 := by decide +kernel
theorem hd_X7_odds : yX7_odds.cls ≠ "java/lang/invoke/MethodHandle" ∧ yX7_odds.cls ≠ "java/lang/invoke/VarHandle" ∧ (parseMethodDescriptor yX7_odds.desc).map (fun d => d.parameters.length) = some 4 := by decide +kernel
theorem hd_X7_power : yX7_power.cls ≠ "java/lang/invoke/MethodHandle" ∧ yX7_power.cls ≠ "java/lang/invoke/VarHandle" ∧ (parseMethodDescriptor yX7_power.desc).map (fun d => d.parameters.length) = some 2 := by decide +kernel
theorem hd_X7_rate : yX7_rate.cls ≠ "java/lang/invoke/MethodHandle" ∧ yX7_rate.cls ≠ "java/lang/invoke/VarHandle" ∧ (parseMethodDescriptor yX7_rate.desc).map (fun d => d.parameters.length) = some 2 := by decide +kernel
theorem hd_X7_keep : yX7_keep.cls ≠ "java/lang/invoke/MethodHandle" ∧ yX7_keep.cls ≠ "java/lang/invoke/VarHandle" ∧ (parseMethodDescriptor yX7_keep.desc).map (fun d => d.parameters.length) = some 1 := by decide +kernel
theorem hd_X7_back : yX7_back.cls ≠ "java/lang/invoke/MethodHandle" ∧ yX7_back.cls ≠ "java/lang/invoke/VarHandle" ∧ (parseMethodDescriptor yX7_back.desc).map (fun d => d.parameters.length) = some 1 := by decide +kernel
theorem hd_X7_count : yX7_count.cls ≠ "java/lang/invoke/MethodHandle" ∧ yX7_count.cls ≠ "java/lang/invoke/VarHandle" ∧ (parseMethodDescriptor yX7_count.desc).map (fun d => d.parameters.length) = some 1 := by decide +kernel
theorem hd_X7_trace : yX7_trace.cls ≠ "java/lang/invoke/MethodHandle" ∧ yX7_trace.cls ≠ "java/lang/invoke/VarHandle" ∧ (parseMethodDescriptor yX7_trace.desc).map (fun d => d.parameters.length) = some 0 := by decide +kernel
