theorem cb_m4 : (Int8.ofInt (-4)).toInt32 = (-4 : Int32) := by decide
theorem cb_m3 : (Int8.ofInt (-3)).toInt32 = (-3 : Int32) := by decide
theorem cb_m2 : (Int8.ofInt (-2)).toInt32 = (-2 : Int32) := by decide
theorem cb_6 : (Int8.ofInt (6)).toInt32 = (6 : Int32) := by decide
theorem cb_7 : (Int8.ofInt (7)).toInt32 = (7 : Int32) := by decide
theorem cb_8 : (Int8.ofInt (8)).toInt32 = (8 : Int32) := by decide
theorem cb_10 : (Int8.ofInt (10)).toInt32 = (10 : Int32) := by decide
theorem cb_15 : (Int8.ofInt (15)).toInt32 = (15 : Int32) := by decide
theorem cb_16 : (Int8.ofInt (16)).toInt32 = (16 : Int32) := by decide
theorem cb_20 : (Int8.ofInt (20)).toInt32 = (20 : Int32) := by decide
theorem cb_24 : (Int8.ofInt (24)).toInt32 = (24 : Int32) := by decide
theorem cb_30 : (Int8.ofInt (30)).toInt32 = (30 : Int32) := by decide
theorem cb_32 : (Int8.ofInt (32)).toInt32 = (32 : Int32) := by decide
theorem cb_33 : (Int8.ofInt (33)).toInt32 = (33 : Int32) := by decide
theorem cb_44 : (Int8.ofInt (44)).toInt32 = (44 : Int32) := by decide
theorem cb_48 : (Int8.ofInt (48)).toInt32 = (48 : Int32) := by decide
theorem cb_50 : (Int8.ofInt (50)).toInt32 = (50 : Int32) := by decide
theorem cb_57 : (Int8.ofInt (57)).toInt32 = (57 : Int32) := by decide
theorem cb_58 : (Int8.ofInt (58)).toInt32 = (58 : Int32) := by decide
theorem cb_59 : (Int8.ofInt (59)).toInt32 = (59 : Int32) := by decide
theorem cb_65 : (Int8.ofInt (65)).toInt32 = (65 : Int32) := by decide
theorem cb_90 : (Int8.ofInt (90)).toInt32 = (90 : Int32) := by decide
theorem cb_96 : (Int8.ofInt (96)).toInt32 = (96 : Int32) := by decide
theorem cb_97 : (Int8.ofInt (97)).toInt32 = (97 : Int32) := by decide
theorem cb_99 : (Int8.ofInt (99)).toInt32 = (99 : Int32) := by decide
theorem cb_100 : (Int8.ofInt (100)).toInt32 = (100 : Int32) := by decide
theorem cb_110 : (Int8.ofInt (110)).toInt32 = (110 : Int32) := by decide
theorem cb_111 : (Int8.ofInt (111)).toInt32 = (111 : Int32) := by decide
theorem cb_116 : (Int8.ofInt (116)).toInt32 = (116 : Int32) := by decide
theorem cb_119 : (Int8.ofInt (119)).toInt32 = (119 : Int32) := by decide
theorem cb_122 : (Int8.ofInt (122)).toInt32 = (122 : Int32) := by decide
theorem ci_m8 : Int32.ofInt (-8) = (-8 : Int32) := by decide
theorem ci_m1 : Int32.ofInt (-1) = (-1 : Int32) := by decide
theorem ci_0 : Int32.ofInt (0) = (0 : Int32) := by decide
theorem ci_1 : Int32.ofInt (1) = (1 : Int32) := by decide
theorem ci_2 : Int32.ofInt (2) = (2 : Int32) := by decide
theorem ci_3 : Int32.ofInt (3) = (3 : Int32) := by decide
theorem ci_4 : Int32.ofInt (4) = (4 : Int32) := by decide
theorem ci_5 : Int32.ofInt (5) = (5 : Int32) := by decide
theorem cs_255 : (Int16.ofInt (255)).toInt32 = (255 : Int32) := by decide
theorem cs_256 : (Int16.ofInt (256)).toInt32 = (256 : Int32) := by decide
theorem cs_280 : (Int16.ofInt (280)).toInt32 = (280 : Int32) := by decide
theorem cs_300 : (Int16.ofInt (300)).toInt32 = (300 : Int32) := by decide
theorem cs_480 : (Int16.ofInt (480)).toInt32 = (480 : Int32) := by decide
theorem cs_3000 : (Int16.ofInt (3000)).toInt32 = (3000 : Int32) := by decide
theorem cs_9999 : (Int16.ofInt (9999)).toInt32 = (9999 : Int32) := by decide
theorem cs_10000 : (Int16.ofInt (10000)).toInt32 = (10000 : Int32) := by decide
abbrev yTL_init : MethodName := ⟨"TributeLists", "<init>", "()V"⟩
abbrev yTL_road : MethodName := ⟨"TributeLists", "road", "(III)Z"⟩
abbrev yTL_way : MethodName := ⟨"TributeLists", "way", "(II)I"⟩
abbrev yTL_weight : MethodName := ⟨"TributeLists", "weight", "(II)Z"⟩
abbrev yTL_carriers : MethodName := ⟨"TributeLists", "carriers", "(II)I"⟩
abbrev yTL_feed : MethodName := ⟨"TributeLists", "feed", "(IIIII)I"⟩
abbrev yTL_end : MethodName := ⟨"TributeLists", "end", "(I)I"⟩
abbrev yTL_copy : MethodName := ⟨"TributeLists", "copy", "(I)I"⟩
abbrev yTL_fault : MethodName := ⟨"TributeLists", "fault", "(I)I"⟩
abbrev yTL_tells : MethodName := ⟨"TributeLists", "tells", "(III)I"⟩
abbrev yTL_owed : MethodName := ⟨"TributeLists", "owed", "(II)I"⟩
abbrev yTL_quarrel : MethodName := ⟨"TributeLists", "quarrel", "(II)I"⟩
abbrev yTL_quarrels : MethodName := ⟨"TributeLists", "quarrels", "()I"⟩
abbrev yTL_send : MethodName := ⟨"TributeLists", "send", "(III)I"⟩
abbrev yTL_sending : MethodName := ⟨"TributeLists", "sending", "(II)I"⟩
abbrev yTL_days : MethodName := ⟨"TributeLists", "days", "(I)I"⟩
abbrev yTL_account : MethodName := ⟨"TributeLists", "account", "(III)I"⟩
abbrev yTL_late : MethodName := ⟨"TributeLists", "late", "(I)J"⟩
abbrev yTL_piece : MethodName := ⟨"TributeLists", "piece", "(I)I"⟩
abbrev yTL_market : MethodName := ⟨"TributeLists", "market", "(IIII)I"⟩
abbrev yTL_barter : MethodName := ⟨"TributeLists", "barter", "(III)I"⟩
abbrev yTL_bartered : MethodName := ⟨"TributeLists", "bartered", "(I)I"⟩
abbrev yTL_yields : MethodName := ⟨"TributeLists", "yields", "(II)Z"⟩
abbrev yTL_parted : MethodName := ⟨"TributeLists", "parted", "(II)I"⟩
abbrev yTL_about : MethodName := ⟨"TributeLists", "about", "(I)I"⟩
abbrev yTL_storeArrivals : MethodName := ⟨"TributeLists", "storeArrivals", "()V"⟩
abbrev yTL_bringDebts : MethodName := ⟨"TributeLists", "bringDebts", "()V"⟩
abbrev yTL_within : MethodName := ⟨"TributeLists", "within", "(III)Z"⟩
abbrev yTL_isPlace : MethodName := ⟨"TributeLists", "isPlace", "(I)Z"⟩
abbrev yTL_isTown : MethodName := ⟨"TributeLists", "isTown", "(I)Z"⟩
abbrev yTL_isGood : MethodName := ⟨"TributeLists", "isGood", "(I)Z"⟩
abbrev yTL_isCopy : MethodName := ⟨"TributeLists", "isCopy", "(I)Z"⟩
abbrev yTL_slot : MethodName := ⟨"TributeLists", "slot", "(II)I"⟩
abbrev yRo_init : MethodName := ⟨"TributeLists$Roads", "<init>", "()V"⟩
abbrev yRo_lay : MethodName := ⟨"TributeLists$Roads", "lay", "(III)V"⟩
abbrev yRo_leastDays : MethodName := ⟨"TributeLists$Roads", "leastDays", "(II)I"⟩
abbrev yRo_nearestOpen : MethodName := ⟨"TributeLists$Roads", "nearestOpen", "()I"⟩
abbrev yRo_reachOnFrom : MethodName := ⟨"TributeLists$Roads", "reachOnFrom", "(I)V"⟩
abbrev yPo_init : MethodName := ⟨"TributeLists$Porters", "<init>", "()V"⟩
abbrev yPo_setLoad : MethodName := ⟨"TributeLists$Porters", "setLoad", "(I)Z"⟩
abbrev yPo_setWeight : MethodName := ⟨"TributeLists$Porters", "setWeight", "(II)Z"⟩
abbrev yPo_load : MethodName := ⟨"TributeLists$Porters", "load", "()I"⟩
abbrev yPo_weightOf : MethodName := ⟨"TributeLists$Porters", "weightOf", "(I)I"⟩
abbrev yPo_needed : MethodName := ⟨"TributeLists$Porters", "needed", "(II)I"⟩
abbrev yPo_piecesEach : MethodName := ⟨"TributeLists$Porters", "piecesEach", "(I)I"⟩
abbrev yTa_init : MethodName := ⟨"TributeLists$Tape", "<init>", "()V"⟩
abbrev yTa_hasRoomForFive : MethodName := ⟨"TributeLists$Tape", "hasRoomForFive", "()Z"⟩
abbrev yTa_append : MethodName := ⟨"TributeLists$Tape", "append", "(I)V"⟩
abbrev yTa_cut : MethodName := ⟨"TributeLists$Tape", "cut", "(I)V"⟩
abbrev yTa_size : MethodName := ⟨"TributeLists$Tape", "size", "()I"⟩
abbrev yTa_at : MethodName := ⟨"TributeLists$Tape", "at", "(I)I"⟩
abbrev yLi_init : MethodName := ⟨"TributeLists$ListReader", "<init>", "()V"⟩
abbrev yLi_row : MethodName := ⟨"TributeLists$ListReader", "row", "()[I"⟩
abbrev yLi_hasRead : MethodName := ⟨"TributeLists$ListReader", "hasRead", "()Z"⟩
abbrev yLi_faultKind : MethodName := ⟨"TributeLists$ListReader", "faultKind", "()I"⟩
abbrev yLi_faultPlace : MethodName := ⟨"TributeLists$ListReader", "faultPlace", "()I"⟩
abbrev yLi_read : MethodName := ⟨"TributeLists$ListReader", "read", "(LTributeLists$Tape;)I"⟩
abbrev yLi_startAnew : MethodName := ⟨"TributeLists$ListReader", "startAnew", "()V"⟩
abbrev yLi_nextToken : MethodName := ⟨"TributeLists$ListReader", "nextToken", "(LTributeLists$Tape;)V"⟩
abbrev yLi_takeLetters : MethodName := ⟨"TributeLists$ListReader", "takeLetters", "(LTributeLists$Tape;)V"⟩
abbrev yLi_takeDigits : MethodName := ⟨"TributeLists$ListReader", "takeDigits", "(LTributeLists$Tape;)V"⟩
abbrev yLi_takeToken : MethodName := ⟨"TributeLists$ListReader", "takeToken", "()I"⟩
abbrev yLi_takeLineStart : MethodName := ⟨"TributeLists$ListReader", "takeLineStart", "()I"⟩
abbrev yLi_takeTown : MethodName := ⟨"TributeLists$ListReader", "takeTown", "()I"⟩
abbrev yLi_takeColon : MethodName := ⟨"TributeLists$ListReader", "takeColon", "()I"⟩
abbrev yLi_takeGood : MethodName := ⟨"TributeLists$ListReader", "takeGood", "()I"⟩
abbrev yLi_takePieces : MethodName := ⟨"TributeLists$ListReader", "takePieces", "()I"⟩
abbrev yLi_takeBehindPart : MethodName := ⟨"TributeLists$ListReader", "takeBehindPart", "()I"⟩
abbrev yLi_isBlank : MethodName := ⟨"TributeLists$ListReader", "isBlank", "(I)Z"⟩
abbrev yLi_isLetter : MethodName := ⟨"TributeLists$ListReader", "isLetter", "(I)Z"⟩
abbrev yLi_isDigit : MethodName := ⟨"TributeLists$ListReader", "isDigit", "(I)Z"⟩
abbrev yLi_isSign : MethodName := ⟨"TributeLists$ListReader", "isSign", "(I)Z"⟩
abbrev yCo_init : MethodName := ⟨"TributeLists$Copies", "<init>", "()V"⟩
abbrev yCo_replace : MethodName := ⟨"TributeLists$Copies", "replace", "(I[I)V"⟩
abbrev yCo_countRead : MethodName := ⟨"TributeLists$Copies", "countRead", "()I"⟩
abbrev yCo_toldBy : MethodName := ⟨"TributeLists$Copies", "toldBy", "(II)I"⟩
abbrev yCo_mostTold : MethodName := ⟨"TributeLists$Copies", "mostTold", "(I)I"⟩
abbrev yCo_votesFor : MethodName := ⟨"TributeLists$Copies", "votesFor", "(II)I"⟩
abbrev yCo_differ : MethodName := ⟨"TributeLists$Copies", "differ", "(I)Z"⟩
abbrev yAc_init : MethodName := ⟨"TributeLists$Accounts", "<init>", "()V"⟩
abbrev yAc_store : MethodName := ⟨"TributeLists$Accounts", "store", "(III)I"⟩
abbrev yAc_bringDebt : MethodName := ⟨"TributeLists$Accounts", "bringDebt", "(III)V"⟩
abbrev yAc_pay : MethodName := ⟨"TributeLists$Accounts", "pay", "(IIII)I"⟩
abbrev yAc_comingDay : MethodName := ⟨"TributeLists$Accounts", "comingDay", "(I)I"⟩
abbrev yAc_owing : MethodName := ⟨"TributeLists$Accounts", "owing", "(I)I"⟩
abbrev yAc_gift : MethodName := ⟨"TributeLists$Accounts", "gift", "(I)I"⟩
abbrev yAc_paid : MethodName := ⟨"TributeLists$Accounts", "paid", "(I)I"⟩
abbrev yAc_oldestQuarter : MethodName := ⟨"TributeLists$Accounts", "oldestQuarter", "(I)I"⟩
abbrev yAc_lateness : MethodName := ⟨"TributeLists$Accounts", "lateness", "(II)J"⟩
abbrev ySe_init : MethodName := ⟨"TributeLists$Sendings", "<init>", "()V"⟩
abbrev ySe_isFull : MethodName := ⟨"TributeLists$Sendings", "isFull", "()Z"⟩
abbrev ySe_count : MethodName := ⟨"TributeLists$Sendings", "count", "()I"⟩
abbrev ySe_storedPieces : MethodName := ⟨"TributeLists$Sendings", "storedPieces", "()I"⟩
abbrev ySe_add : MethodName := ⟨"TributeLists$Sendings", "add", "(IIIIII)I"⟩
abbrev ySe_entry : MethodName := ⟨"TributeLists$Sendings", "entry", "(II)I"⟩
abbrev ySe_comesOn : MethodName := ⟨"TributeLists$Sendings", "comesOn", "(II)Z"⟩
abbrev ySe_markStored : MethodName := ⟨"TributeLists$Sendings", "markStored", "(II)V"⟩
abbrev ySe_ofPiece : MethodName := ⟨"TributeLists$Sendings", "ofPiece", "(I)I"⟩
abbrev yMa_init : MethodName := ⟨"TributeLists$Markets", "<init>", "()V"⟩
abbrev yMa_isFull : MethodName := ⟨"TributeLists$Markets", "isFull", "()Z"⟩
abbrev yMa_count : MethodName := ⟨"TributeLists$Markets", "count", "()I"⟩
abbrev yMa_add : MethodName := ⟨"TributeLists$Markets", "add", "(IIII)I"⟩
abbrev yMa_bestLength : MethodName := ⟨"TributeLists$Markets", "bestLength", "()I"⟩
abbrev yMa_bestStep : MethodName := ⟨"TributeLists$Markets", "bestStep", "(I)I"⟩
abbrev yMa_findBest : MethodName := ⟨"TributeLists$Markets", "findBest", "(III)J"⟩
abbrev yMa_search : MethodName := ⟨"TributeLists$Markets", "search", "(IJI)V"⟩
abbrev yMa_exchanged : MethodName := ⟨"TributeLists$Markets", "exchanged", "(JI)J"⟩
abbrev yMa_keepIfBetter : MethodName := ⟨"TributeLists$Markets", "keepIfBetter", "(JI)V"⟩
abbrev ySh_init : MethodName := ⟨"TributeLists$Shares", "<init>", "()V"⟩
abbrev ySh_setYield : MethodName := ⟨"TributeLists$Shares", "setYield", "(II)V"⟩
abbrev ySh_shareOf : MethodName := ⟨"TributeLists$Shares", "shareOf", "(II)I"⟩
abbrev ySh_allYields : MethodName := ⟨"TributeLists$Shares", "allYields", "()I"⟩
abbrev yMM_init : MethodName := ⟨"TributeListsModel", "<init>", "()V"⟩
abbrev yMM_isIn : MethodName := ⟨"TributeListsModel", "isIn", "(III)Z"⟩
abbrev yMM_isPlace : MethodName := ⟨"TributeListsModel", "isPlace", "(I)Z"⟩
abbrev yMM_isTown : MethodName := ⟨"TributeListsModel", "isTown", "(I)Z"⟩
abbrev yMM_isGood : MethodName := ⟨"TributeListsModel", "isGood", "(I)Z"⟩
abbrev yMM_road : MethodName := ⟨"TributeListsModel", "road", "(III)Z"⟩
abbrev yMM_wayOf : MethodName := ⟨"TributeListsModel", "wayOf", "(II)I"⟩
abbrev yMM_way : MethodName := ⟨"TributeListsModel", "way", "(II)I"⟩
abbrev yMM_weight : MethodName := ⟨"TributeListsModel", "weight", "(II)Z"⟩
abbrev yMM_carriersOf : MethodName := ⟨"TributeListsModel", "carriersOf", "(II)I"⟩
abbrev yMM_carriers : MethodName := ⟨"TributeListsModel", "carriers", "(II)I"⟩
abbrev yMM_four : MethodName := ⟨"TributeListsModel", "four", "(I)V"⟩
abbrev yMM_feed : MethodName := ⟨"TributeListsModel", "feed", "(IIIII)I"⟩
abbrev yMM_end : MethodName := ⟨"TributeListsModel", "end", "(I)I"⟩
abbrev yMM_see : MethodName := ⟨"TributeListsModel", "see", "(I)I"⟩
abbrev yMM_isLetter : MethodName := ⟨"TributeListsModel", "isLetter", "(I)Z"⟩
abbrev yMM_isDigit : MethodName := ⟨"TributeListsModel", "isDigit", "(I)Z"⟩
abbrev yMM_nextToken : MethodName := ⟨"TributeListsModel", "nextToken", "()V"⟩
abbrev yMM_line : MethodName := ⟨"TributeListsModel", "line", "()I"⟩
abbrev yMM_part : MethodName := ⟨"TributeListsModel", "part", "(I)I"⟩
abbrev yMM_read : MethodName := ⟨"TributeListsModel", "read", "()I"⟩
abbrev yMM_copy : MethodName := ⟨"TributeListsModel", "copy", "(I)I"⟩
abbrev yMM_fault : MethodName := ⟨"TributeListsModel", "fault", "(I)I"⟩
abbrev yMM_tellsOf : MethodName := ⟨"TributeListsModel", "tellsOf", "(III)I"⟩
abbrev yMM_tells : MethodName := ⟨"TributeListsModel", "tells", "(III)I"⟩
abbrev yMM_votes : MethodName := ⟨"TributeListsModel", "votes", "(III)I"⟩
abbrev yMM_owedOf : MethodName := ⟨"TributeListsModel", "owedOf", "(II)I"⟩
abbrev yMM_owed : MethodName := ⟨"TributeListsModel", "owed", "(II)I"⟩
abbrev yMM_isQuarrel : MethodName := ⟨"TributeListsModel", "isQuarrel", "(II)Z"⟩
abbrev yMM_quarrel : MethodName := ⟨"TributeListsModel", "quarrel", "(II)I"⟩
abbrev yMM_quarrels : MethodName := ⟨"TributeListsModel", "quarrels", "()I"⟩
abbrev yMM_send : MethodName := ⟨"TributeListsModel", "send", "(III)I"⟩
abbrev yMM_sending : MethodName := ⟨"TributeListsModel", "sending", "(II)I"⟩
abbrev yMM_store : MethodName := ⟨"TributeListsModel", "store", "(I)V"⟩
abbrev yMM_quarter : MethodName := ⟨"TributeListsModel", "quarter", "()V"⟩
abbrev yMM_days : MethodName := ⟨"TributeListsModel", "days", "(I)I"⟩
abbrev yMM_account : MethodName := ⟨"TributeListsModel", "account", "(III)I"⟩
abbrev yMM_late : MethodName := ⟨"TributeListsModel", "late", "(I)J"⟩
abbrev yMM_piece : MethodName := ⟨"TributeListsModel", "piece", "(I)I"⟩
abbrev yMM_market : MethodName := ⟨"TributeListsModel", "market", "(IIII)I"⟩
abbrev yMM_isAhead : MethodName := ⟨"TributeListsModel", "isAhead", "(I)Z"⟩
abbrev yMM_found : MethodName := ⟨"TributeListsModel", "found", "(I)V"⟩
abbrev yMM_wasThrough : MethodName := ⟨"TributeListsModel", "wasThrough", "(III)Z"⟩
abbrev yMM_search : MethodName := ⟨"TributeListsModel", "search", "(III)V"⟩
abbrev yMM_barter : MethodName := ⟨"TributeListsModel", "barter", "(III)I"⟩
abbrev yMM_bartered : MethodName := ⟨"TributeListsModel", "bartered", "(I)I"⟩
abbrev yMM_yields : MethodName := ⟨"TributeListsModel", "yields", "(II)Z"⟩
abbrev yMM_parted : MethodName := ⟨"TributeListsModel", "parted", "(II)I"⟩
abbrev yMM_about : MethodName := ⟨"TributeListsModel", "about", "(I)I"⟩
theorem qTL_195 : Cond.constantLong RcTL 195 (-1) ∈ gw := mg (i := 685) (by decide +kernel) rfl
theorem qTL_208 : Cond.constantLong RcTL 208 (1000000000) ∈ gw := mg (i := 730) (by decide +kernel) rfl
theorem qTL_226 : Cond.constant RcTL 226 (100000) ∈ gw := mg (i := 758) (by decide +kernel) rfl
theorem qRo_21 : Cond.constant RcRo 21 (1000000) ∈ gw := mg (i := 333) (by decide +kernel) rfl
theorem qLi_103 : Cond.constant RcLi 103 (100000) ∈ gw := mg (i := 493) (by decide +kernel) rfl
theorem qMa_52 : Cond.constantLong RcMa 52 (-1) ∈ gw := mg (i := 715) (by decide +kernel) rfl
theorem qMM_117 : Cond.constant RcMM 117 (100000) ∈ gw := mg (i := 967) (by decide +kernel) rfl
theorem qMM_220 : Cond.constantLong RcMM 220 (-1) ∈ gw := mg (i := 1092) (by decide +kernel) rfl
theorem qMM_248 : Cond.constantLong RcMM 248 (1000000000) ∈ gw := mg (i := 1121) (by decide +kernel) rfl
theorem qMM_250 : Cond.constant RcMM 250 (1000000000) ∈ gw := mg (i := 1122) (by decide +kernel) rfl
theorem kTL_76 : kS RcTL 76 yTL_isPlace prog_1_method_29_code 1 (some .boolean) 1 := ⟨(mg (i := 315) (by decide +kernel) rfl), (mg (i := 316) (by decide +kernel) rfl), (mg (i := 41) (by decide +kernel) rfl), (mg (i := 317) (by decide +kernel) rfl), ⟨by decide, by decide, by decide +kernel⟩, by decide⟩
theorem kTL_80 : kS RcTL 80 yTL_within prog_1_method_28_code 3 (some .boolean) 3 := ⟨(mg (i := 318) (by decide +kernel) rfl), (mg (i := 319) (by decide +kernel) rfl), (mg (i := 41) (by decide +kernel) rfl), (mg (i := 320) (by decide +kernel) rfl), ⟨by decide, by decide, by decide +kernel⟩, by decide⟩
theorem kTL_84 : kV RcTL 84 RcRo yRo_lay prog_7_method_2_code 4 none 3 := ⟨(mg (i := 321) (by decide +kernel) rfl), (mg (i := 322) (by decide +kernel) rfl), (mg (i := 323) (by decide +kernel) rfl), (mg (i := 42) (by decide +kernel) rfl), (mg (i := 324) (by decide +kernel) rfl), ⟨by decide, by decide, by decide +kernel⟩, by decide⟩
theorem kTL_88 : kV RcTL 88 RcRo yRo_leastDays prog_7_method_3_code 5 (some .int) 2 := ⟨(mg (i := 329) (by decide +kernel) rfl), (mg (i := 330) (by decide +kernel) rfl), (mg (i := 331) (by decide +kernel) rfl), (mg (i := 42) (by decide +kernel) rfl), (mg (i := 332) (by decide +kernel) rfl), ⟨by decide, by decide, by decide +kernel⟩, by decide⟩
theorem kTL_92 : kV RcTL 92 RcPo yPo_setLoad prog_6_method_2_code 2 (some .boolean) 1 := ⟨(mg (i := 350) (by decide +kernel) rfl), (mg (i := 351) (by decide +kernel) rfl), (mg (i := 352) (by decide +kernel) rfl), (mg (i := 43) (by decide +kernel) rfl), (mg (i := 353) (by decide +kernel) rfl), ⟨by decide, by decide, by decide +kernel⟩, by decide⟩
theorem kTL_95 : kS RcTL 95 yTL_isGood prog_1_method_31_code 1 (some .boolean) 1 := ⟨(mg (i := 355) (by decide +kernel) rfl), (mg (i := 356) (by decide +kernel) rfl), (mg (i := 41) (by decide +kernel) rfl), (mg (i := 357) (by decide +kernel) rfl), ⟨by decide, by decide, by decide +kernel⟩, by decide⟩
theorem kTL_98 : kV RcTL 98 RcPo yPo_setWeight prog_6_method_3_code 3 (some .boolean) 2 := ⟨(mg (i := 358) (by decide +kernel) rfl), (mg (i := 359) (by decide +kernel) rfl), (mg (i := 360) (by decide +kernel) rfl), (mg (i := 43) (by decide +kernel) rfl), (mg (i := 361) (by decide +kernel) rfl), ⟨by decide, by decide, by decide +kernel⟩, by decide⟩
theorem kTL_102 : kV RcTL 102 RcPo yPo_needed prog_6_method_6_code 4 (some .int) 2 := ⟨(mg (i := 366) (by decide +kernel) rfl), (mg (i := 367) (by decide +kernel) rfl), (mg (i := 368) (by decide +kernel) rfl), (mg (i := 43) (by decide +kernel) rfl), (mg (i := 369) (by decide +kernel) rfl), ⟨by decide, by decide, by decide +kernel⟩, by decide⟩
theorem kTL_105 : kV RcTL 105 RcTa yTa_hasRoomForFive prog_10_method_2_code 1 (some .boolean) 0 := ⟨(mg (i := 381) (by decide +kernel) rfl), (mg (i := 382) (by decide +kernel) rfl), (mg (i := 383) (by decide +kernel) rfl), (mg (i := 45) (by decide +kernel) rfl), (mg (i := 384) (by decide +kernel) rfl), ⟨by decide, by decide, by decide +kernel⟩, by decide⟩
theorem kTL_109 : kV RcTL 109 RcTa yTa_append prog_10_method_3_code 3 none 1 := ⟨(mg (i := 385) (by decide +kernel) rfl), (mg (i := 386) (by decide +kernel) rfl), (mg (i := 387) (by decide +kernel) rfl), (mg (i := 45) (by decide +kernel) rfl), (mg (i := 388) (by decide +kernel) rfl), ⟨by decide, by decide, by decide +kernel⟩, by decide⟩
theorem kTL_113 : kV RcTL 113 RcTa yTa_size prog_10_method_5_code 1 (some .int) 0 := ⟨(mg (i := 389) (by decide +kernel) rfl), (mg (i := 390) (by decide +kernel) rfl), (mg (i := 391) (by decide +kernel) rfl), (mg (i := 45) (by decide +kernel) rfl), (mg (i := 392) (by decide +kernel) rfl), ⟨by decide, by decide, by decide +kernel⟩, by decide⟩
theorem kTL_117 : kV RcTL 117 RcTa yTa_cut prog_10_method_4_code 2 none 1 := ⟨(mg (i := 397) (by decide +kernel) rfl), (mg (i := 398) (by decide +kernel) rfl), (mg (i := 399) (by decide +kernel) rfl), (mg (i := 45) (by decide +kernel) rfl), (mg (i := 400) (by decide +kernel) rfl), ⟨by decide, by decide, by decide +kernel⟩, by decide⟩
theorem kTL_120 : kS RcTL 120 yTL_isCopy prog_1_method_32_code 1 (some .boolean) 1 := ⟨(mg (i := 405) (by decide +kernel) rfl), (mg (i := 406) (by decide +kernel) rfl), (mg (i := 41) (by decide +kernel) rfl), (mg (i := 407) (by decide +kernel) rfl), ⟨by decide, by decide, by decide +kernel⟩, by decide⟩
theorem kTL_123 : kV RcTL 123 RcLi yLi_read prog_4_method_6_code 3 (some .int) 1 := ⟨(mg (i := 408) (by decide +kernel) rfl), (mg (i := 409) (by decide +kernel) rfl), (mg (i := 410) (by decide +kernel) rfl), (mg (i := 46) (by decide +kernel) rfl), (mg (i := 411) (by decide +kernel) rfl), ⟨by decide, by decide, by decide +kernel⟩, by decide⟩
theorem kTL_127 : kV RcTL 127 RcLi yLi_row prog_4_method_2_code 1 (some (.array .int)) 0 := ⟨(mg (i := 533) (by decide +kernel) rfl), (mg (i := 534) (by decide +kernel) rfl), (mg (i := 535) (by decide +kernel) rfl), (mg (i := 46) (by decide +kernel) rfl), (mg (i := 536) (by decide +kernel) rfl), ⟨by decide, by decide, by decide +kernel⟩, by decide⟩
theorem kTL_131 : kV RcTL 131 RcCo yCo_replace prog_3_method_2_code 3 none 2 := ⟨(mg (i := 537) (by decide +kernel) rfl), (mg (i := 538) (by decide +kernel) rfl), (mg (i := 539) (by decide +kernel) rfl), (mg (i := 47) (by decide +kernel) rfl), (mg (i := 540) (by decide +kernel) rfl), ⟨by decide, by decide, by decide +kernel⟩, by decide⟩
theorem kTL_135 : kV RcTL 135 RcLi yLi_hasRead prog_4_method_3_code 1 (some .boolean) 0 := ⟨(mg (i := 548) (by decide +kernel) rfl), (mg (i := 549) (by decide +kernel) rfl), (mg (i := 550) (by decide +kernel) rfl), (mg (i := 46) (by decide +kernel) rfl), (mg (i := 551) (by decide +kernel) rfl), ⟨by decide, by decide, by decide +kernel⟩, by decide⟩
theorem kTL_138 : kV RcTL 138 RcLi yLi_faultKind prog_4_method_4_code 1 (some .int) 0 := ⟨(mg (i := 552) (by decide +kernel) rfl), (mg (i := 553) (by decide +kernel) rfl), (mg (i := 554) (by decide +kernel) rfl), (mg (i := 46) (by decide +kernel) rfl), (mg (i := 555) (by decide +kernel) rfl), ⟨by decide, by decide, by decide +kernel⟩, by decide⟩
theorem kTL_141 : kV RcTL 141 RcLi yLi_faultPlace prog_4_method_5_code 1 (some .int) 0 := ⟨(mg (i := 556) (by decide +kernel) rfl), (mg (i := 557) (by decide +kernel) rfl), (mg (i := 558) (by decide +kernel) rfl), (mg (i := 46) (by decide +kernel) rfl), (mg (i := 559) (by decide +kernel) rfl), ⟨by decide, by decide, by decide +kernel⟩, by decide⟩
theorem kTL_144 : kS RcTL 144 yTL_isTown prog_1_method_30_code 1 (some .boolean) 1 := ⟨(mg (i := 564) (by decide +kernel) rfl), (mg (i := 511) (by decide +kernel) rfl), (mg (i := 41) (by decide +kernel) rfl), (mg (i := 512) (by decide +kernel) rfl), ⟨by decide, by decide, by decide +kernel⟩, by decide⟩
theorem kTL_147 : kS RcTL 147 yTL_slot prog_1_method_33_code 2 (some .int) 2 := ⟨(mg (i := 565) (by decide +kernel) rfl), (mg (i := 523) (by decide +kernel) rfl), (mg (i := 41) (by decide +kernel) rfl), (mg (i := 524) (by decide +kernel) rfl), ⟨by decide, by decide, by decide +kernel⟩, by decide⟩
theorem kTL_150 : kV RcTL 150 RcCo yCo_toldBy prog_3_method_4_code 3 (some .int) 2 := ⟨(mg (i := 566) (by decide +kernel) rfl), (mg (i := 567) (by decide +kernel) rfl), (mg (i := 568) (by decide +kernel) rfl), (mg (i := 47) (by decide +kernel) rfl), (mg (i := 569) (by decide +kernel) rfl), ⟨by decide, by decide, by decide +kernel⟩, by decide⟩
theorem kTL_153 : kV RcTL 153 RcCo yCo_mostTold prog_3_method_5_code 7 (some .int) 1 := ⟨(mg (i := 574) (by decide +kernel) rfl), (mg (i := 575) (by decide +kernel) rfl), (mg (i := 576) (by decide +kernel) rfl), (mg (i := 47) (by decide +kernel) rfl), (mg (i := 577) (by decide +kernel) rfl), ⟨by decide, by decide, by decide +kernel⟩, by decide⟩
theorem kTL_157 : kV RcTL 157 RcCo yCo_differ prog_3_method_7_code 5 (some .boolean) 1 := ⟨(mg (i := 586) (by decide +kernel) rfl), (mg (i := 587) (by decide +kernel) rfl), (mg (i := 588) (by decide +kernel) rfl), (mg (i := 47) (by decide +kernel) rfl), (mg (i := 589) (by decide +kernel) rfl), ⟨by decide, by decide, by decide +kernel⟩, by decide⟩
theorem kTL_160 : kV RcTL 160 RcSe ySe_isFull prog_8_method_2_code 1 (some .boolean) 0 := ⟨(mg (i := 598) (by decide +kernel) rfl), (mg (i := 599) (by decide +kernel) rfl), (mg (i := 600) (by decide +kernel) rfl), (mg (i := 49) (by decide +kernel) rfl), (mg (i := 601) (by decide +kernel) rfl), ⟨by decide, by decide, by decide +kernel⟩, by decide⟩
theorem kTL_163 : kV RcTL 163 RcSe ySe_add prog_8_method_5_code 8 (some .int) 6 := ⟨(mg (i := 602) (by decide +kernel) rfl), (mg (i := 603) (by decide +kernel) rfl), (mg (i := 604) (by decide +kernel) rfl), (mg (i := 49) (by decide +kernel) rfl), (mg (i := 605) (by decide +kernel) rfl), ⟨by decide, by decide, by decide +kernel⟩, by decide⟩
theorem kTL_167 : kV RcTL 167 RcSe ySe_count prog_8_method_3_code 1 (some .int) 0 := ⟨(mg (i := 610) (by decide +kernel) rfl), (mg (i := 611) (by decide +kernel) rfl), (mg (i := 612) (by decide +kernel) rfl), (mg (i := 49) (by decide +kernel) rfl), (mg (i := 613) (by decide +kernel) rfl), ⟨by decide, by decide, by decide +kernel⟩, by decide⟩
theorem kTL_170 : kV RcTL 170 RcSe ySe_entry prog_8_method_6_code 3 (some .int) 2 := ⟨(mg (i := 614) (by decide +kernel) rfl), (mg (i := 615) (by decide +kernel) rfl), (mg (i := 616) (by decide +kernel) rfl), (mg (i := 49) (by decide +kernel) rfl), (mg (i := 617) (by decide +kernel) rfl), ⟨by decide, by decide, by decide +kernel⟩, by decide⟩
theorem kTL_173 : kV RcTL 173 RcTL yTL_storeArrivals prog_1_method_26_code 4 none 0 := ⟨(mg (i := 622) (by decide +kernel) rfl), (mg (i := 624) (by decide +kernel) rfl), (mg (i := 15) (by decide +kernel) rfl), (mg (i := 41) (by decide +kernel) rfl), (mg (i := 625) (by decide +kernel) rfl), ⟨by decide, by decide, by decide +kernel⟩, by decide⟩
theorem kTL_176 : kV RcTL 176 RcTL yTL_bringDebts prog_1_method_27_code 3 none 0 := ⟨(mg (i := 647) (by decide +kernel) rfl), (mg (i := 649) (by decide +kernel) rfl), (mg (i := 17) (by decide +kernel) rfl), (mg (i := 41) (by decide +kernel) rfl), (mg (i := 650) (by decide +kernel) rfl), ⟨by decide, by decide, by decide +kernel⟩, by decide⟩
theorem kTL_179 : kV RcTL 179 RcAc yAc_owing prog_2_method_6_code 2 (some .int) 1 := ⟨(mg (i := 660) (by decide +kernel) rfl), (mg (i := 661) (by decide +kernel) rfl), (mg (i := 662) (by decide +kernel) rfl), (mg (i := 48) (by decide +kernel) rfl), (mg (i := 663) (by decide +kernel) rfl), ⟨by decide, by decide, by decide +kernel⟩, by decide⟩
theorem kTL_182 : kV RcTL 182 RcAc yAc_gift prog_2_method_7_code 2 (some .int) 1 := ⟨(mg (i := 664) (by decide +kernel) rfl), (mg (i := 665) (by decide +kernel) rfl), (mg (i := 666) (by decide +kernel) rfl), (mg (i := 48) (by decide +kernel) rfl), (mg (i := 667) (by decide +kernel) rfl), ⟨by decide, by decide, by decide +kernel⟩, by decide⟩
theorem kTL_185 : kV RcTL 185 RcAc yAc_oldestQuarter prog_2_method_9_code 3 (some .int) 1 := ⟨(mg (i := 668) (by decide +kernel) rfl), (mg (i := 669) (by decide +kernel) rfl), (mg (i := 670) (by decide +kernel) rfl), (mg (i := 48) (by decide +kernel) rfl), (mg (i := 671) (by decide +kernel) rfl), ⟨by decide, by decide, by decide +kernel⟩, by decide⟩
theorem kTL_188 : kV RcTL 188 RcAc yAc_paid prog_2_method_8_code 2 (some .int) 1 := ⟨(mg (i := 672) (by decide +kernel) rfl), (mg (i := 673) (by decide +kernel) rfl), (mg (i := 674) (by decide +kernel) rfl), (mg (i := 48) (by decide +kernel) rfl), (mg (i := 675) (by decide +kernel) rfl), ⟨by decide, by decide, by decide +kernel⟩, by decide⟩
theorem kTL_191 : kV RcTL 191 RcAc yAc_lateness prog_2_method_10_code 7 (some .long) 2 := ⟨(mg (i := 680) (by decide +kernel) rfl), (mg (i := 681) (by decide +kernel) rfl), (mg (i := 682) (by decide +kernel) rfl), (mg (i := 48) (by decide +kernel) rfl), (mg (i := 683) (by decide +kernel) rfl), ⟨by decide, by decide, by decide +kernel⟩, by decide⟩
theorem kTL_197 : kV RcTL 197 RcSe ySe_ofPiece prog_8_method_9_code 5 (some .int) 1 := ⟨(mg (i := 690) (by decide +kernel) rfl), (mg (i := 691) (by decide +kernel) rfl), (mg (i := 692) (by decide +kernel) rfl), (mg (i := 49) (by decide +kernel) rfl), (mg (i := 693) (by decide +kernel) rfl), ⟨by decide, by decide, by decide +kernel⟩, by decide⟩
theorem kTL_200 : kV RcTL 200 RcMa yMa_isFull prog_5_method_2_code 1 (some .boolean) 0 := ⟨(mg (i := 698) (by decide +kernel) rfl), (mg (i := 699) (by decide +kernel) rfl), (mg (i := 700) (by decide +kernel) rfl), (mg (i := 50) (by decide +kernel) rfl), (mg (i := 701) (by decide +kernel) rfl), ⟨by decide, by decide, by decide +kernel⟩, by decide⟩
theorem kTL_201 : kV RcTL 201 RcMa yMa_add prog_5_method_4_code 5 (some .int) 4 := ⟨(mg (i := 702) (by decide +kernel) rfl), (mg (i := 703) (by decide +kernel) rfl), (mg (i := 704) (by decide +kernel) rfl), (mg (i := 50) (by decide +kernel) rfl), (mg (i := 705) (by decide +kernel) rfl), ⟨by decide, by decide, by decide +kernel⟩, by decide⟩
theorem kTL_204 : kV RcTL 204 RcMa yMa_findBest prog_5_method_7_code 4 (some .long) 3 := ⟨(mg (i := 710) (by decide +kernel) rfl), (mg (i := 711) (by decide +kernel) rfl), (mg (i := 712) (by decide +kernel) rfl), (mg (i := 50) (by decide +kernel) rfl), (mg (i := 713) (by decide +kernel) rfl), ⟨by decide, by decide, by decide +kernel⟩, by decide⟩
theorem jTL_210 : Cond.methodLink RcTL 210 Lib.MathLoose.min_long.x ∈ gw ∧ Cond.static Lib.MathLoose.min_long.x ∈ gw ∧ Cond.initialized "java/lang/Math" ∈ gw ∧ Cond.code Lib.MathLoose.min_long.x Lib.MathLoose.min_long.code 4 (some .long) ∈ gw := ⟨(mg (i := 731) (by decide +kernel) rfl), (mg (i := 732) (by decide +kernel) rfl), (mg (i := 53) (by decide +kernel) rfl), (mg (i := 733) (by decide +kernel) rfl)⟩
theorem kTL_216 : kV RcTL 216 RcMa yMa_bestLength prog_5_method_5_code 1 (some .int) 0 := ⟨(mg (i := 738) (by decide +kernel) rfl), (mg (i := 739) (by decide +kernel) rfl), (mg (i := 740) (by decide +kernel) rfl), (mg (i := 50) (by decide +kernel) rfl), (mg (i := 741) (by decide +kernel) rfl), ⟨by decide, by decide, by decide +kernel⟩, by decide⟩
theorem kTL_219 : kV RcTL 219 RcMa yMa_bestStep prog_5_method_6_code 2 (some .int) 1 := ⟨(mg (i := 742) (by decide +kernel) rfl), (mg (i := 743) (by decide +kernel) rfl), (mg (i := 744) (by decide +kernel) rfl), (mg (i := 50) (by decide +kernel) rfl), (mg (i := 745) (by decide +kernel) rfl), ⟨by decide, by decide, by decide +kernel⟩, by decide⟩
theorem kTL_222 : kV RcTL 222 RcSh ySh_setYield prog_9_method_2_code 3 none 2 := ⟨(mg (i := 750) (by decide +kernel) rfl), (mg (i := 751) (by decide +kernel) rfl), (mg (i := 752) (by decide +kernel) rfl), (mg (i := 51) (by decide +kernel) rfl), (mg (i := 753) (by decide +kernel) rfl), ⟨by decide, by decide, by decide +kernel⟩, by decide⟩
theorem kTL_227 : kV RcTL 227 RcSh ySh_shareOf prog_9_method_3_code 13 (some .int) 2 := ⟨(mg (i := 759) (by decide +kernel) rfl), (mg (i := 760) (by decide +kernel) rfl), (mg (i := 761) (by decide +kernel) rfl), (mg (i := 51) (by decide +kernel) rfl), (mg (i := 762) (by decide +kernel) rfl), ⟨by decide, by decide, by decide +kernel⟩, by decide⟩
theorem kTL_230 : kV RcTL 230 RcPo yPo_weightOf prog_6_method_5_code 2 (some .int) 1 := ⟨(mg (i := 771) (by decide +kernel) rfl), (mg (i := 772) (by decide +kernel) rfl), (mg (i := 773) (by decide +kernel) rfl), (mg (i := 43) (by decide +kernel) rfl), (mg (i := 774) (by decide +kernel) rfl), ⟨by decide, by decide, by decide +kernel⟩, by decide⟩
theorem kTL_233 : kV RcTL 233 RcSe ySe_storedPieces prog_8_method_4_code 1 (some .int) 0 := ⟨(mg (i := 775) (by decide +kernel) rfl), (mg (i := 776) (by decide +kernel) rfl), (mg (i := 777) (by decide +kernel) rfl), (mg (i := 49) (by decide +kernel) rfl), (mg (i := 778) (by decide +kernel) rfl), ⟨by decide, by decide, by decide +kernel⟩, by decide⟩
theorem kTL_236 : kV RcTL 236 RcMa yMa_count prog_5_method_3_code 1 (some .int) 0 := ⟨(mg (i := 779) (by decide +kernel) rfl), (mg (i := 780) (by decide +kernel) rfl), (mg (i := 781) (by decide +kernel) rfl), (mg (i := 50) (by decide +kernel) rfl), (mg (i := 782) (by decide +kernel) rfl), ⟨by decide, by decide, by decide +kernel⟩, by decide⟩
theorem kTL_237 : kV RcTL 237 RcPo yPo_load prog_6_method_4_code 1 (some .int) 0 := ⟨(mg (i := 783) (by decide +kernel) rfl), (mg (i := 784) (by decide +kernel) rfl), (mg (i := 785) (by decide +kernel) rfl), (mg (i := 43) (by decide +kernel) rfl), (mg (i := 786) (by decide +kernel) rfl), ⟨by decide, by decide, by decide +kernel⟩, by decide⟩
theorem kTL_240 : kV RcTL 240 RcCo yCo_countRead prog_3_method_3_code 3 (some .int) 0 := ⟨(mg (i := 787) (by decide +kernel) rfl), (mg (i := 788) (by decide +kernel) rfl), (mg (i := 789) (by decide +kernel) rfl), (mg (i := 47) (by decide +kernel) rfl), (mg (i := 790) (by decide +kernel) rfl), ⟨by decide, by decide, by decide +kernel⟩, by decide⟩
theorem kTL_243 : kV RcTL 243 RcSe ySe_comesOn prog_8_method_7_code 3 (some .boolean) 2 := ⟨(mg (i := 626) (by decide +kernel) rfl), (mg (i := 627) (by decide +kernel) rfl), (mg (i := 628) (by decide +kernel) rfl), (mg (i := 49) (by decide +kernel) rfl), (mg (i := 629) (by decide +kernel) rfl), ⟨by decide, by decide, by decide +kernel⟩, by decide⟩
theorem kTL_246 : kV RcTL 246 RcAc yAc_store prog_2_method_2_code 6 (some .int) 3 := ⟨(mg (i := 631) (by decide +kernel) rfl), (mg (i := 632) (by decide +kernel) rfl), (mg (i := 633) (by decide +kernel) rfl), (mg (i := 48) (by decide +kernel) rfl), (mg (i := 634) (by decide +kernel) rfl), ⟨by decide, by decide, by decide +kernel⟩, by decide⟩
theorem kTL_250 : kV RcTL 250 RcSe ySe_markStored prog_8_method_8_code 3 none 2 := ⟨(mg (i := 643) (by decide +kernel) rfl), (mg (i := 644) (by decide +kernel) rfl), (mg (i := 645) (by decide +kernel) rfl), (mg (i := 49) (by decide +kernel) rfl), (mg (i := 646) (by decide +kernel) rfl), ⟨by decide, by decide, by decide +kernel⟩, by decide⟩
theorem kTL_253 : kV RcTL 253 RcAc yAc_bringDebt prog_2_method_3_code 4 none 3 := ⟨(mg (i := 651) (by decide +kernel) rfl), (mg (i := 652) (by decide +kernel) rfl), (mg (i := 653) (by decide +kernel) rfl), (mg (i := 48) (by decide +kernel) rfl), (mg (i := 654) (by decide +kernel) rfl), ⟨by decide, by decide, by decide +kernel⟩, by decide⟩
theorem jRo_22 : kS RcRo 22 yfill prog_18_method_103_code 4 none 2 := ⟨(mg (i := 334) (by decide +kernel) rfl), (mg (i := 91) (by decide +kernel) rfl), (mg (i := 44) (by decide +kernel) rfl), (mg (i := 92) (by decide +kernel) rfl), ⟨by decide, by decide, by decide +kernel⟩, by decide⟩
theorem kRo_28 : kV RcRo 28 RcRo yRo_nearestOpen prog_7_method_4_code 4 (some .int) 0 := ⟨(mg (i := 335) (by decide +kernel) rfl), (mg (i := 337) (by decide +kernel) rfl), (mg (i := 0) (by decide +kernel) rfl), (mg (i := 42) (by decide +kernel) rfl), (mg (i := 338) (by decide +kernel) rfl), ⟨by decide, by decide, by decide +kernel⟩, by decide⟩
theorem kRo_32 : kV RcRo 32 RcRo yRo_reachOnFrom prog_7_method_5_code 4 none 1 := ⟨(mg (i := 339) (by decide +kernel) rfl), (mg (i := 341) (by decide +kernel) rfl), (mg (i := 1) (by decide +kernel) rfl), (mg (i := 42) (by decide +kernel) rfl), (mg (i := 342) (by decide +kernel) rfl), ⟨by decide, by decide, by decide +kernel⟩, by decide⟩
theorem jRo_36 : Cond.methodLink RcRo 36 Lib.Math.min.name ∈ gw ∧ Cond.static Lib.Math.min.name ∈ gw ∧ Cond.initialized "java/lang/Math" ∈ gw ∧ Cond.code Lib.Math.min.name Lib.Math.min.code 2 (some .int) ∈ gw := ⟨(mg (i := 343) (by decide +kernel) rfl), (mg (i := 344) (by decide +kernel) rfl), (mg (i := 53) (by decide +kernel) rfl), (mg (i := 345) (by decide +kernel) rfl)⟩
theorem kPo_25 : kN RcPo 25 yTL_within RcTL prog_1_method_28_code 3 (some .boolean) 3 := ⟨by decide +kernel, (mg (i := 319) (by decide +kernel) rfl), (mg (i := 41) (by decide +kernel) rfl), (mg (i := 320) (by decide +kernel) rfl), ⟨by decide, by decide, by decide +kernel⟩, by decide⟩
theorem kPo_29 : kV RcPo 29 RcPo yPo_piecesEach prog_6_method_7_code 3 (some .int) 1 := ⟨(mg (i := 370) (by decide +kernel) rfl), (mg (i := 372) (by decide +kernel) rfl), (mg (i := 2) (by decide +kernel) rfl), (mg (i := 43) (by decide +kernel) rfl), (mg (i := 373) (by decide +kernel) rfl), ⟨by decide, by decide, by decide +kernel⟩, by decide⟩
theorem jPo_33 : Cond.methodLink RcPo 33 Lib.Math.max.name ∈ gw ∧ Cond.static Lib.Math.max.name ∈ gw ∧ Cond.initialized "java/lang/Math" ∈ gw ∧ Cond.code Lib.Math.max.name Lib.Math.max.code 2 (some .int) ∈ gw := ⟨(mg (i := 374) (by decide +kernel) rfl), (mg (i := 375) (by decide +kernel) rfl), (mg (i := 53) (by decide +kernel) rfl), (mg (i := 376) (by decide +kernel) rfl)⟩
theorem kLi_29 : kV RcLi 29 RcLi yLi_startAnew prog_4_method_7_code 1 none 0 := ⟨(mg (i := 412) (by decide +kernel) rfl), (mg (i := 414) (by decide +kernel) rfl), (mg (i := 3) (by decide +kernel) rfl), (mg (i := 46) (by decide +kernel) rfl), (mg (i := 415) (by decide +kernel) rfl), ⟨by decide, by decide, by decide +kernel⟩, by decide⟩
theorem kLi_34 : kV RcLi 34 RcLi yLi_nextToken prog_4_method_8_code 3 none 1 := ⟨(mg (i := 417) (by decide +kernel) rfl), (mg (i := 419) (by decide +kernel) rfl), (mg (i := 4) (by decide +kernel) rfl), (mg (i := 46) (by decide +kernel) rfl), (mg (i := 420) (by decide +kernel) rfl), ⟨by decide, by decide, by decide +kernel⟩, by decide⟩
theorem kLi_38 : kV RcLi 38 RcLi yLi_takeToken prog_4_method_11_code 1 (some .int) 0 := ⟨(mg (i := 498) (by decide +kernel) rfl), (mg (i := 500) (by decide +kernel) rfl), (mg (i := 7) (by decide +kernel) rfl), (mg (i := 46) (by decide +kernel) rfl), (mg (i := 501) (by decide +kernel) rfl), ⟨by decide, by decide, by decide +kernel⟩, by decide⟩
theorem jLi_51 : kS RcLi 51 yfill prog_18_method_103_code 4 none 2 := ⟨(mg (i := 416) (by decide +kernel) rfl), (mg (i := 91) (by decide +kernel) rfl), (mg (i := 44) (by decide +kernel) rfl), (mg (i := 92) (by decide +kernel) rfl), ⟨by decide, by decide, by decide +kernel⟩, by decide⟩
theorem kLi_63 : kV RcLi 63 RcTa yTa_size prog_10_method_5_code 1 (some .int) 0 := ⟨(mg (i := 421) (by decide +kernel) rfl), (mg (i := 390) (by decide +kernel) rfl), (mg (i := 391) (by decide +kernel) rfl), (mg (i := 45) (by decide +kernel) rfl), (mg (i := 392) (by decide +kernel) rfl), ⟨by decide, by decide, by decide +kernel⟩, by decide⟩
theorem kLi_66 : kV RcLi 66 RcTa yTa_at prog_10_method_6_code 2 (some .int) 1 := ⟨(mg (i := 422) (by decide +kernel) rfl), (mg (i := 423) (by decide +kernel) rfl), (mg (i := 424) (by decide +kernel) rfl), (mg (i := 45) (by decide +kernel) rfl), (mg (i := 425) (by decide +kernel) rfl), ⟨by decide, by decide, by decide +kernel⟩, by decide⟩
theorem kLi_70 : kS RcLi 70 yLi_isBlank prog_4_method_18_code 1 (some .boolean) 1 := ⟨(mg (i := 426) (by decide +kernel) rfl), (mg (i := 427) (by decide +kernel) rfl), (mg (i := 46) (by decide +kernel) rfl), (mg (i := 428) (by decide +kernel) rfl), ⟨by decide, by decide, by decide +kernel⟩, by decide⟩
theorem kLi_74 : kS RcLi 74 yLi_isLetter prog_4_method_19_code 1 (some .boolean) 1 := ⟨(mg (i := 429) (by decide +kernel) rfl), (mg (i := 430) (by decide +kernel) rfl), (mg (i := 46) (by decide +kernel) rfl), (mg (i := 431) (by decide +kernel) rfl), ⟨by decide, by decide, by decide +kernel⟩, by decide⟩
theorem kLi_77 : kV RcLi 77 RcLi yLi_takeLetters prog_4_method_9_code 4 none 1 := ⟨(mg (i := 433) (by decide +kernel) rfl), (mg (i := 435) (by decide +kernel) rfl), (mg (i := 5) (by decide +kernel) rfl), (mg (i := 46) (by decide +kernel) rfl), (mg (i := 436) (by decide +kernel) rfl), ⟨by decide, by decide, by decide +kernel⟩, by decide⟩
theorem kLi_80 : kS RcLi 80 yLi_isDigit prog_4_method_20_code 1 (some .boolean) 1 := ⟨(mg (i := 486) (by decide +kernel) rfl), (mg (i := 487) (by decide +kernel) rfl), (mg (i := 46) (by decide +kernel) rfl), (mg (i := 488) (by decide +kernel) rfl), ⟨by decide, by decide, by decide +kernel⟩, by decide⟩
theorem kLi_83 : kV RcLi 83 RcLi yLi_takeDigits prog_4_method_10_code 2 none 1 := ⟨(mg (i := 489) (by decide +kernel) rfl), (mg (i := 491) (by decide +kernel) rfl), (mg (i := 6) (by decide +kernel) rfl), (mg (i := 46) (by decide +kernel) rfl), (mg (i := 492) (by decide +kernel) rfl), ⟨by decide, by decide, by decide +kernel⟩, by decide⟩
theorem kLi_86 : kS RcLi 86 yLi_isSign prog_4_method_21_code 1 (some .boolean) 1 := ⟨(mg (i := 495) (by decide +kernel) rfl), (mg (i := 496) (by decide +kernel) rfl), (mg (i := 46) (by decide +kernel) rfl), (mg (i := 497) (by decide +kernel) rfl), ⟨by decide, by decide, by decide +kernel⟩, by decide⟩
theorem jLi_91 : kV RcLi 91 "java/lang/String" yslen prog_14_method_54_code 1 (some .int) 0 := ⟨(mg (i := 438) (by decide +kernel) rfl), (mg (i := 439) (by decide +kernel) rfl), (mg (i := 440) (by decide +kernel) rfl), (mg (i := 54) (by decide +kernel) rfl), (mg (i := 441) (by decide +kernel) rfl), ⟨by decide, by decide, by decide +kernel⟩, by decide⟩
theorem jLi_96 : kV RcLi 96 "java/lang/String" yschar prog_14_method_56_code 2 (some .char) 1 := ⟨(mg (i := 448) (by decide +kernel) rfl), (mg (i := 449) (by decide +kernel) rfl), (mg (i := 450) (by decide +kernel) rfl), (mg (i := 54) (by decide +kernel) rfl), (mg (i := 451) (by decide +kernel) rfl), ⟨by decide, by decide, by decide +kernel⟩, by decide⟩
theorem jLi_104 : Cond.methodLink RcLi 104 Lib.Math.min.name ∈ gw ∧ Cond.static Lib.Math.min.name ∈ gw ∧ Cond.initialized "java/lang/Math" ∈ gw ∧ Cond.code Lib.Math.min.name Lib.Math.min.code 2 (some .int) ∈ gw := ⟨(mg (i := 494) (by decide +kernel) rfl), (mg (i := 344) (by decide +kernel) rfl), (mg (i := 53) (by decide +kernel) rfl), (mg (i := 345) (by decide +kernel) rfl)⟩
theorem kLi_110 : kV RcLi 110 RcLi yLi_takeLineStart prog_4_method_12_code 1 (some .int) 0 := ⟨(mg (i := 502) (by decide +kernel) rfl), (mg (i := 504) (by decide +kernel) rfl), (mg (i := 8) (by decide +kernel) rfl), (mg (i := 46) (by decide +kernel) rfl), (mg (i := 505) (by decide +kernel) rfl), ⟨by decide, by decide, by decide +kernel⟩, by decide⟩
theorem kLi_113 : kV RcLi 113 RcLi yLi_takeTown prog_4_method_13_code 1 (some .int) 0 := ⟨(mg (i := 506) (by decide +kernel) rfl), (mg (i := 508) (by decide +kernel) rfl), (mg (i := 9) (by decide +kernel) rfl), (mg (i := 46) (by decide +kernel) rfl), (mg (i := 509) (by decide +kernel) rfl), ⟨by decide, by decide, by decide +kernel⟩, by decide⟩
theorem kLi_116 : kV RcLi 116 RcLi yLi_takeColon prog_4_method_14_code 1 (some .int) 0 := ⟨(mg (i := 513) (by decide +kernel) rfl), (mg (i := 515) (by decide +kernel) rfl), (mg (i := 10) (by decide +kernel) rfl), (mg (i := 46) (by decide +kernel) rfl), (mg (i := 516) (by decide +kernel) rfl), ⟨by decide, by decide, by decide +kernel⟩, by decide⟩
theorem kLi_119 : kV RcLi 119 RcLi yLi_takeGood prog_4_method_15_code 1 (some .int) 0 := ⟨(mg (i := 517) (by decide +kernel) rfl), (mg (i := 519) (by decide +kernel) rfl), (mg (i := 11) (by decide +kernel) rfl), (mg (i := 46) (by decide +kernel) rfl), (mg (i := 520) (by decide +kernel) rfl), ⟨by decide, by decide, by decide +kernel⟩, by decide⟩
theorem kLi_122 : kV RcLi 122 RcLi yLi_takePieces prog_4_method_16_code 1 (some .int) 0 := ⟨(mg (i := 525) (by decide +kernel) rfl), (mg (i := 527) (by decide +kernel) rfl), (mg (i := 12) (by decide +kernel) rfl), (mg (i := 46) (by decide +kernel) rfl), (mg (i := 528) (by decide +kernel) rfl), ⟨by decide, by decide, by decide +kernel⟩, by decide⟩
theorem kLi_125 : kV RcLi 125 RcLi yLi_takeBehindPart prog_4_method_17_code 1 (some .int) 0 := ⟨(mg (i := 529) (by decide +kernel) rfl), (mg (i := 531) (by decide +kernel) rfl), (mg (i := 13) (by decide +kernel) rfl), (mg (i := 46) (by decide +kernel) rfl), (mg (i := 532) (by decide +kernel) rfl), ⟨by decide, by decide, by decide +kernel⟩, by decide⟩
theorem kLi_128 : kN RcLi 128 yTL_isTown RcTL prog_1_method_30_code 1 (some .boolean) 1 := ⟨by decide +kernel, (mg (i := 511) (by decide +kernel) rfl), (mg (i := 41) (by decide +kernel) rfl), (mg (i := 512) (by decide +kernel) rfl), ⟨by decide, by decide, by decide +kernel⟩, by decide⟩
theorem kLi_133 : kN RcLi 133 yTL_isGood RcTL prog_1_method_31_code 1 (some .boolean) 1 := ⟨by decide +kernel, (mg (i := 356) (by decide +kernel) rfl), (mg (i := 41) (by decide +kernel) rfl), (mg (i := 357) (by decide +kernel) rfl), ⟨by decide, by decide, by decide +kernel⟩, by decide⟩
theorem kLi_136 : kN RcLi 136 yTL_slot RcTL prog_1_method_33_code 2 (some .int) 2 := ⟨by decide +kernel, (mg (i := 523) (by decide +kernel) rfl), (mg (i := 41) (by decide +kernel) rfl), (mg (i := 524) (by decide +kernel) rfl), ⟨by decide, by decide, by decide +kernel⟩, by decide⟩
theorem kLi_142 : kN RcLi 142 yTL_within RcTL prog_1_method_28_code 3 (some .boolean) 3 := ⟨by decide +kernel, (mg (i := 319) (by decide +kernel) rfl), (mg (i := 41) (by decide +kernel) rfl), (mg (i := 320) (by decide +kernel) rfl), ⟨by decide, by decide, by decide +kernel⟩, by decide⟩
theorem jCo_30 : Cond.methodLink RcCo 30 arraycopyName ∈ gw ∧ Cond.native arraycopyName ∈ gw ∧ Cond.static arraycopyName ∈ gw ∧ Cond.initialized "java/lang/System" ∈ gw := ⟨(mg (i := 541) (by decide +kernel) rfl), (mg (i := 543) (by decide +kernel) rfl), (mg (i := 542) (by decide +kernel) rfl), (mg (i := 58) (by decide +kernel) rfl)⟩
theorem kCo_36 : kV RcCo 36 RcCo yCo_votesFor prog_3_method_6_code 5 (some .int) 2 := ⟨(mg (i := 578) (by decide +kernel) rfl), (mg (i := 580) (by decide +kernel) rfl), (mg (i := 14) (by decide +kernel) rfl), (mg (i := 47) (by decide +kernel) rfl), (mg (i := 581) (by decide +kernel) rfl), ⟨by decide, by decide, by decide +kernel⟩, by decide⟩
theorem kAc_28 : kV RcAc 28 RcAc yAc_pay prog_2_method_4_code 6 (some .int) 4 := ⟨(mg (i := 635) (by decide +kernel) rfl), (mg (i := 637) (by decide +kernel) rfl), (mg (i := 16) (by decide +kernel) rfl), (mg (i := 48) (by decide +kernel) rfl), (mg (i := 638) (by decide +kernel) rfl), ⟨by decide, by decide, by decide +kernel⟩, by decide⟩
theorem kAc_32 : kN RcAc 32 yTL_within RcTL prog_1_method_28_code 3 (some .boolean) 3 := ⟨by decide +kernel, (mg (i := 319) (by decide +kernel) rfl), (mg (i := 41) (by decide +kernel) rfl), (mg (i := 320) (by decide +kernel) rfl), ⟨by decide, by decide, by decide +kernel⟩, by decide⟩
theorem kAc_36 : kS RcAc 36 yAc_comingDay prog_2_method_5_code 1 (some .int) 1 := ⟨(mg (i := 640) (by decide +kernel) rfl), (mg (i := 641) (by decide +kernel) rfl), (mg (i := 48) (by decide +kernel) rfl), (mg (i := 642) (by decide +kernel) rfl), ⟨by decide, by decide, by decide +kernel⟩, by decide⟩
theorem jAc_40 : Cond.methodLink RcAc 40 Lib.Math.min.name ∈ gw ∧ Cond.static Lib.Math.min.name ∈ gw ∧ Cond.initialized "java/lang/Math" ∈ gw ∧ Cond.code Lib.Math.min.name Lib.Math.min.code 2 (some .int) ∈ gw := ⟨(mg (i := 639) (by decide +kernel) rfl), (mg (i := 344) (by decide +kernel) rfl), (mg (i := 53) (by decide +kernel) rfl), (mg (i := 345) (by decide +kernel) rfl)⟩
theorem kAc_46 : kN RcAc 46 yTL_slot RcTL prog_1_method_33_code 2 (some .int) 2 := ⟨by decide +kernel, (mg (i := 523) (by decide +kernel) rfl), (mg (i := 41) (by decide +kernel) rfl), (mg (i := 524) (by decide +kernel) rfl), ⟨by decide, by decide, by decide +kernel⟩, by decide⟩
theorem kSe_28 : kV RcSe 28 RcSe ySe_entry prog_8_method_6_code 3 (some .int) 2 := ⟨(mg (i := 630) (by decide +kernel) rfl), (mg (i := 615) (by decide +kernel) rfl), (mg (i := 616) (by decide +kernel) rfl), (mg (i := 49) (by decide +kernel) rfl), (mg (i := 617) (by decide +kernel) rfl), ⟨by decide, by decide, by decide +kernel⟩, by decide⟩
theorem jMa_43 : kS RcMa 43 yfill prog_18_method_103_code 4 none 2 := ⟨(mg (i := 714) (by decide +kernel) rfl), (mg (i := 91) (by decide +kernel) rfl), (mg (i := 44) (by decide +kernel) rfl), (mg (i := 92) (by decide +kernel) rfl), ⟨by decide, by decide, by decide +kernel⟩, by decide⟩
theorem kMa_61 : kV RcMa 61 RcMa yMa_search prog_5_method_8_code 7 none 3 := ⟨(mg (i := 716) (by decide +kernel) rfl), (mg (i := 718) (by decide +kernel) rfl), (mg (i := 18) (by decide +kernel) rfl), (mg (i := 50) (by decide +kernel) rfl), (mg (i := 719) (by decide +kernel) rfl), ⟨by decide, by decide, by decide +kernel⟩, by decide⟩
theorem jMa_65 : Cond.methodLink RcMa 65 arraycopyName ∈ gw ∧ Cond.native arraycopyName ∈ gw ∧ Cond.static arraycopyName ∈ gw ∧ Cond.initialized "java/lang/System" ∈ gw := ⟨(mg (i := 724) (by decide +kernel) rfl), (mg (i := 543) (by decide +kernel) rfl), (mg (i := 542) (by decide +kernel) rfl), (mg (i := 58) (by decide +kernel) rfl)⟩
theorem kMa_71 : kV RcMa 71 RcMa yMa_keepIfBetter prog_5_method_10_code 4 none 2 := ⟨(mg (i := 720) (by decide +kernel) rfl), (mg (i := 722) (by decide +kernel) rfl), (mg (i := 19) (by decide +kernel) rfl), (mg (i := 50) (by decide +kernel) rfl), (mg (i := 723) (by decide +kernel) rfl), ⟨by decide, by decide, by decide +kernel⟩, by decide⟩
theorem kMa_75 : kV RcMa 75 RcMa yMa_exchanged prog_5_method_9_code 5 (some .long) 2 := ⟨(mg (i := 725) (by decide +kernel) rfl), (mg (i := 727) (by decide +kernel) rfl), (mg (i := 20) (by decide +kernel) rfl), (mg (i := 50) (by decide +kernel) rfl), (mg (i := 728) (by decide +kernel) rfl), ⟨by decide, by decide, by decide +kernel⟩, by decide⟩
theorem jMa_79 : Cond.methodLink RcMa 79 Lib.Math.max.name ∈ gw ∧ Cond.static Lib.Math.max.name ∈ gw ∧ Cond.initialized "java/lang/Math" ∈ gw ∧ Cond.code Lib.Math.max.name Lib.Math.max.code 2 (some .int) ∈ gw := ⟨(mg (i := 729) (by decide +kernel) rfl), (mg (i := 375) (by decide +kernel) rfl), (mg (i := 53) (by decide +kernel) rfl), (mg (i := 376) (by decide +kernel) rfl)⟩
theorem kSh_15 : kV RcSh 15 RcSh ySh_allYields prog_9_method_4_code 3 (some .int) 0 := ⟨(mg (i := 763) (by decide +kernel) rfl), (mg (i := 765) (by decide +kernel) rfl), (mg (i := 21) (by decide +kernel) rfl), (mg (i := 51) (by decide +kernel) rfl), (mg (i := 766) (by decide +kernel) rfl), ⟨by decide, by decide, by decide +kernel⟩, by decide⟩
theorem kMM_109 : kS RcMM 109 yMM_isIn prog_12_method_2_code 3 (some .boolean) 3 := ⟨(mg (i := 956) (by decide +kernel) rfl), (mg (i := 957) (by decide +kernel) rfl), (mg (i := 52) (by decide +kernel) rfl), (mg (i := 958) (by decide +kernel) rfl), ⟨by decide, by decide, by decide +kernel⟩, by decide⟩
theorem kMM_113 : kS RcMM 113 yMM_isPlace prog_12_method_3_code 1 (some .boolean) 1 := ⟨(mg (i := 953) (by decide +kernel) rfl), (mg (i := 954) (by decide +kernel) rfl), (mg (i := 52) (by decide +kernel) rfl), (mg (i := 955) (by decide +kernel) rfl), ⟨by decide, by decide, by decide +kernel⟩, by decide⟩
theorem kMM_118 : kV RcMM 118 RcMM yMM_wayOf prog_12_method_7_code 6 (some .int) 2 := ⟨(mg (i := 963) (by decide +kernel) rfl), (mg (i := 965) (by decide +kernel) rfl), (mg (i := 22) (by decide +kernel) rfl), (mg (i := 52) (by decide +kernel) rfl), (mg (i := 966) (by decide +kernel) rfl), ⟨by decide, by decide, by decide +kernel⟩, by decide⟩
theorem kMM_122 : kS RcMM 122 yMM_isGood prog_12_method_5_code 1 (some .boolean) 1 := ⟨(mg (i := 972) (by decide +kernel) rfl), (mg (i := 973) (by decide +kernel) rfl), (mg (i := 52) (by decide +kernel) rfl), (mg (i := 974) (by decide +kernel) rfl), ⟨by decide, by decide, by decide +kernel⟩, by decide⟩
theorem kMM_125 : kV RcMM 125 RcMM yMM_carriersOf prog_12_method_10_code 4 (some .int) 2 := ⟨(mg (i := 979) (by decide +kernel) rfl), (mg (i := 981) (by decide +kernel) rfl), (mg (i := 23) (by decide +kernel) rfl), (mg (i := 52) (by decide +kernel) rfl), (mg (i := 982) (by decide +kernel) rfl), ⟨by decide, by decide, by decide +kernel⟩, by decide⟩
theorem kMM_131 : kV RcMM 131 RcMM yMM_four prog_12_method_12_code 3 none 1 := ⟨(mg (i := 987) (by decide +kernel) rfl), (mg (i := 989) (by decide +kernel) rfl), (mg (i := 24) (by decide +kernel) rfl), (mg (i := 52) (by decide +kernel) rfl), (mg (i := 990) (by decide +kernel) rfl), ⟨by decide, by decide, by decide +kernel⟩, by decide⟩
theorem kMM_138 : kV RcMM 138 RcMM yMM_see prog_12_method_15_code 2 (some .int) 1 := ⟨(mg (i := 1007) (by decide +kernel) rfl), (mg (i := 1009) (by decide +kernel) rfl), (mg (i := 27) (by decide +kernel) rfl), (mg (i := 52) (by decide +kernel) rfl), (mg (i := 1010) (by decide +kernel) rfl), ⟨by decide, by decide, by decide +kernel⟩, by decide⟩
theorem kMM_148 : kS RcMM 148 yMM_isDigit prog_12_method_17_code 1 (some .boolean) 1 := ⟨(mg (i := 1011) (by decide +kernel) rfl), (mg (i := 1012) (by decide +kernel) rfl), (mg (i := 52) (by decide +kernel) rfl), (mg (i := 1013) (by decide +kernel) rfl), ⟨by decide, by decide, by decide +kernel⟩, by decide⟩
theorem kMM_154 : kS RcMM 154 yMM_isLetter prog_12_method_16_code 1 (some .boolean) 1 := ⟨(mg (i := 1014) (by decide +kernel) rfl), (mg (i := 1015) (by decide +kernel) rfl), (mg (i := 52) (by decide +kernel) rfl), (mg (i := 1016) (by decide +kernel) rfl), ⟨by decide, by decide, by decide +kernel⟩, by decide⟩
theorem kMM_157 : kV RcMM 157 RcMM yMM_nextToken prog_12_method_18_code 2 none 0 := ⟨(mg (i := 1003) (by decide +kernel) rfl), (mg (i := 1005) (by decide +kernel) rfl), (mg (i := 26) (by decide +kernel) rfl), (mg (i := 52) (by decide +kernel) rfl), (mg (i := 1006) (by decide +kernel) rfl), ⟨by decide, by decide, by decide +kernel⟩, by decide⟩
theorem kMM_160 : kS RcMM 160 yMM_isTown prog_12_method_4_code 1 (some .boolean) 1 := ⟨(mg (i := 1021) (by decide +kernel) rfl), (mg (i := 1022) (by decide +kernel) rfl), (mg (i := 52) (by decide +kernel) rfl), (mg (i := 1023) (by decide +kernel) rfl), ⟨by decide, by decide, by decide +kernel⟩, by decide⟩
theorem kMM_169 : kV RcMM 169 RcMM yMM_part prog_12_method_20_code 3 (some .int) 1 := ⟨(mg (i := 1024) (by decide +kernel) rfl), (mg (i := 1026) (by decide +kernel) rfl), (mg (i := 29) (by decide +kernel) rfl), (mg (i := 52) (by decide +kernel) rfl), (mg (i := 1027) (by decide +kernel) rfl), ⟨by decide, by decide, by decide +kernel⟩, by decide⟩
theorem kMM_175 : kV RcMM 175 RcMM yMM_line prog_12_method_19_code 4 (some .int) 0 := ⟨(mg (i := 1017) (by decide +kernel) rfl), (mg (i := 1019) (by decide +kernel) rfl), (mg (i := 28) (by decide +kernel) rfl), (mg (i := 52) (by decide +kernel) rfl), (mg (i := 1020) (by decide +kernel) rfl), ⟨by decide, by decide, by decide +kernel⟩, by decide⟩
theorem kMM_179 : kV RcMM 179 RcMM yMM_read prog_12_method_21_code 2 (some .int) 0 := ⟨(mg (i := 999) (by decide +kernel) rfl), (mg (i := 1001) (by decide +kernel) rfl), (mg (i := 25) (by decide +kernel) rfl), (mg (i := 52) (by decide +kernel) rfl), (mg (i := 1002) (by decide +kernel) rfl), ⟨by decide, by decide, by decide +kernel⟩, by decide⟩
theorem kMM_185 : kV RcMM 185 RcMM yMM_tellsOf prog_12_method_24_code 4 (some .int) 3 := ⟨(mg (i := 1036) (by decide +kernel) rfl), (mg (i := 1038) (by decide +kernel) rfl), (mg (i := 30) (by decide +kernel) rfl), (mg (i := 52) (by decide +kernel) rfl), (mg (i := 1039) (by decide +kernel) rfl), ⟨by decide, by decide, by decide +kernel⟩, by decide⟩
theorem kMM_189 : kV RcMM 189 RcMM yMM_votes prog_12_method_26_code 6 (some .int) 3 := ⟨(mg (i := 1048) (by decide +kernel) rfl), (mg (i := 1050) (by decide +kernel) rfl), (mg (i := 32) (by decide +kernel) rfl), (mg (i := 52) (by decide +kernel) rfl), (mg (i := 1051) (by decide +kernel) rfl), ⟨by decide, by decide, by decide +kernel⟩, by decide⟩
theorem kMM_192 : kV RcMM 192 RcMM yMM_owedOf prog_12_method_27_code 7 (some .int) 2 := ⟨(mg (i := 1044) (by decide +kernel) rfl), (mg (i := 1046) (by decide +kernel) rfl), (mg (i := 31) (by decide +kernel) rfl), (mg (i := 52) (by decide +kernel) rfl), (mg (i := 1047) (by decide +kernel) rfl), ⟨by decide, by decide, by decide +kernel⟩, by decide⟩
theorem kMM_195 : kV RcMM 195 RcMM yMM_isQuarrel prog_12_method_29_code 6 (some .boolean) 2 := ⟨(mg (i := 1056) (by decide +kernel) rfl), (mg (i := 1058) (by decide +kernel) rfl), (mg (i := 33) (by decide +kernel) rfl), (mg (i := 52) (by decide +kernel) rfl), (mg (i := 1059) (by decide +kernel) rfl), ⟨by decide, by decide, by decide +kernel⟩, by decide⟩
theorem kMM_214 : kV RcMM 214 RcMM yMM_store prog_12_method_34_code 6 none 1 := ⟨(mg (i := 1076) (by decide +kernel) rfl), (mg (i := 1078) (by decide +kernel) rfl), (mg (i := 34) (by decide +kernel) rfl), (mg (i := 52) (by decide +kernel) rfl), (mg (i := 1079) (by decide +kernel) rfl), ⟨by decide, by decide, by decide +kernel⟩, by decide⟩
theorem kMM_217 : kV RcMM 217 RcMM yMM_quarter prog_12_method_35_code 6 none 0 := ⟨(mg (i := 1080) (by decide +kernel) rfl), (mg (i := 1082) (by decide +kernel) rfl), (mg (i := 35) (by decide +kernel) rfl), (mg (i := 52) (by decide +kernel) rfl), (mg (i := 1083) (by decide +kernel) rfl), ⟨by decide, by decide, by decide +kernel⟩, by decide⟩
theorem kMM_232 : kV RcMM 232 RcMM yMM_isAhead prog_12_method_41_code 3 (some .boolean) 1 := ⟨(mg (i := 1117) (by decide +kernel) rfl), (mg (i := 1119) (by decide +kernel) rfl), (mg (i := 39) (by decide +kernel) rfl), (mg (i := 52) (by decide +kernel) rfl), (mg (i := 1120) (by decide +kernel) rfl), ⟨by decide, by decide, by decide +kernel⟩, by decide⟩
theorem kMM_235 : kV RcMM 235 RcMM yMM_wasThrough prog_12_method_43_code 5 (some .boolean) 3 := ⟨(mg (i := 1109) (by decide +kernel) rfl), (mg (i := 1111) (by decide +kernel) rfl), (mg (i := 37) (by decide +kernel) rfl), (mg (i := 52) (by decide +kernel) rfl), (mg (i := 1112) (by decide +kernel) rfl), ⟨by decide, by decide, by decide +kernel⟩, by decide⟩
theorem kMM_238 : kV RcMM 238 RcMM yMM_found prog_12_method_42_code 5 none 1 := ⟨(mg (i := 1113) (by decide +kernel) rfl), (mg (i := 1115) (by decide +kernel) rfl), (mg (i := 38) (by decide +kernel) rfl), (mg (i := 52) (by decide +kernel) rfl), (mg (i := 1116) (by decide +kernel) rfl), ⟨by decide, by decide, by decide +kernel⟩, by decide⟩
theorem kMM_241 : kV RcMM 241 RcMM yMM_search prog_12_method_44_code 7 none 3 := ⟨(mg (i := 1105) (by decide +kernel) rfl), (mg (i := 1107) (by decide +kernel) rfl), (mg (i := 36) (by decide +kernel) rfl), (mg (i := 52) (by decide +kernel) rfl), (mg (i := 1108) (by decide +kernel) rfl), ⟨by decide, by decide, by decide +kernel⟩, by decide⟩
