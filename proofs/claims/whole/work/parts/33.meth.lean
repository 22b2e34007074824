/-! ===== methods by number (by program) ===== -/
def iX0_init : QI := (⟨"ScanBench$Board", "<init>", "()V"⟩, prog_2_method_1_code, 1, none, 13, 403)
def iX0_clear : QI := (⟨"ScanBench$Board", "clear", "()V"⟩, prog_2_method_2_code, 1, none, 0, 0)
def iX0_hasDevice : QI := (⟨"ScanBench$Board", "hasDevice", "(I)Z"⟩, prog_2_method_3_code, 2, some .boolean, 0, 0)
def iX0_hasNet : QI := (⟨"ScanBench$Board", "hasNet", "(I)Z"⟩, prog_2_method_4_code, 2, some .boolean, 0, 0)
def iX0_hasCell : QI := (⟨"ScanBench$Board", "hasCell", "(II)Z"⟩, prog_2_method_5_code, 3, some .boolean, 0, 0)
def iX0_hasReceiver : QI := (⟨"ScanBench$Board", "hasReceiver", "(II)Z"⟩, prog_2_method_6_code, 3, some .boolean, 0, 0)
def iX0_isReceiver : QI := (⟨"ScanBench$Board", "isReceiver", "(I)Z"⟩, prog_2_method_7_code, 2, some .boolean, 0, 0)
def iX0_keptSafe : QI := (⟨"ScanBench$Board", "keptSafe", "(I)I"⟩, prog_2_method_8_code, 4, some .int, 0, 0)
def iX0_unsafeAt : QI := (⟨"ScanBench$Board", "unsafeAt", "(I)I"⟩, prog_2_method_9_code, 2, some .int, 0, 0)
def iX0_readsAt : QI := (⟨"ScanBench$Board", "readsAt", "(III)I"⟩, prog_2_method_10_code, 6, some .int, 0, 0)
def iX0_receiversAt : QI := (⟨"ScanBench$Board", "receiversAt", "(I)I"⟩, prog_2_method_11_code, 2, some .int, 0, 0)
def iX0_floatingAt : QI := (⟨"ScanBench$Board", "floatingAt", "(II)I"⟩, prog_2_method_12_code, 5, some .int, 0, 0)
def iX0_singleCount : QI := (⟨"ScanBench$Board", "singleCount", "()I"⟩, prog_2_method_13_code, 1, some .int, 0, 0)
def iX0_firstOpen : QI := (⟨"ScanBench$Board", "firstOpen", "()I"⟩, prog_2_method_14_code, 1, some .int, 0, 0)
def iX0_firstShort : QI := (⟨"ScanBench$Board", "firstShort", "()I"⟩, prog_2_method_15_code, 1, some .int, 0, 0)
def iX0_hasSingle : QI := (⟨"ScanBench$Board", "hasSingle", "(I)Z"⟩, prog_2_method_16_code, 2, some .boolean, 0, 0)
def iX0_sortOf : QI := (⟨"ScanBench$Board", "sortOf", "(I)I"⟩, prog_2_method_17_code, 2, some .int, 0, 0)
def iX0_isHigh : QI := (⟨"ScanBench$Board", "isHigh", "(I)Z"⟩, prog_2_method_18_code, 3, some .boolean, 0, 0)
def iX0_placeOfOpen : QI := (⟨"ScanBench$Board", "placeOfOpen", "(I)I"⟩, prog_2_method_19_code, 4, some .int, 0, 0)
def iX0_pairOfShort : QI := (⟨"ScanBench$Board", "pairOfShort", "(I)I"⟩, prog_2_method_20_code, 4, some .int, 0, 0)
def iX0_targetOf : QI := (⟨"ScanBench$Board", "targetOf", "(I)I"⟩, prog_2_method_21_code, 3, some .int, 0, 0)
def iX0_firstOf : QI := (⟨"ScanBench$Board", "firstOf", "(I)I"⟩, prog_2_method_22_code, 4, some .int, 0, 0)
def iX0_secondOf : QI := (⟨"ScanBench$Board", "secondOf", "(I)I"⟩, prog_2_method_23_code, 4, some .int, 0, 0)
def iX0_isThere : QI := (⟨"ScanBench$Board", "isThere", "(LScanBench$Faults;I)Z"⟩, prog_2_method_24_code, 5, some .boolean, 0, 0)
def iX0_isBarred : QI := (⟨"ScanBench$Board", "isBarred", "(LScanBench$Faults;I)Z"⟩, prog_2_method_25_code, 5, some .boolean, 0, 0)
def iX0_turnSingle : QI := (⟨"ScanBench$Board", "turnSingle", "(LScanBench$Faults;I)V"⟩, prog_2_method_26_code, 5, none, 0, 0)
def iX1_init : QI := (⟨"ScanBench$Chain", "<init>", "()V"⟩, prog_3_method_1_code, 1, none, 6, 37)
def iX1_begin : QI := (⟨"ScanBench$Chain", "begin", "(LScanBench$Board;)V"⟩, prog_3_method_2_code, 3, none, 0, 0)
def iX1_restingOrder : QI := (⟨"ScanBench$Chain", "restingOrder", "(LScanBench$Board;I)I"⟩, prog_3_method_3_code, 2, some .int, 0, 0)
def iX1_hasCellsAsData : QI := (⟨"ScanBench$Chain", "hasCellsAsData", "(I)Z"⟩, prog_3_method_4_code, 2, some .boolean, 0, 0)
def iX1_tellsWho : QI := (⟨"ScanBench$Chain", "tellsWho", "(LScanBench$Board;I)Z"⟩, prog_3_method_5_code, 3, some .boolean, 0, 0)
def iX1_dataBits : QI := (⟨"ScanBench$Chain", "dataBits", "(LScanBench$Board;I)I"⟩, prog_3_method_6_code, 3, some .int, 0, 0)
def iX1_driversUp : QI := (⟨"ScanBench$Chain", "driversUp", "(LScanBench$Board;)I"⟩, prog_3_method_7_code, 5, some .int, 0, 0)
def iX1_driven : QI := (⟨"ScanBench$Chain", "driven", "(LScanBench$Board;)I"⟩, prog_3_method_8_code, 5, some .int, 0, 0)
def iX1_fighting : QI := (⟨"ScanBench$Chain", "fighting", "(LScanBench$Board;)I"⟩, prog_3_method_9_code, 5, some .int, 0, 0)
def iX1_floating : QI := (⟨"ScanBench$Chain", "floating", "(LScanBench$Board;)I"⟩, prog_3_method_10_code, 2, some .int, 0, 0)
def iX1_reads : QI := (⟨"ScanBench$Chain", "reads", "(LScanBench$Board;)I"⟩, prog_3_method_11_code, 2, some .int, 0, 0)
def iX1_tick : QI := (⟨"ScanBench$Chain", "tick", "(LScanBench$Board;II)I"⟩, prog_3_method_12_code, 5, some .int, 0, 0)
def iX1_rest : QI := (⟨"ScanBench$Chain", "rest", "(LScanBench$Board;)V"⟩, prog_3_method_13_code, 3, none, 0, 0)
def iX1_setOrder : QI := (⟨"ScanBench$Chain", "setOrder", "(II)V"⟩, prog_3_method_14_code, 3, none, 0, 0)
def iX1_capture : QI := (⟨"ScanBench$Chain", "capture", "(LScanBench$Board;)V"⟩, prog_3_method_15_code, 4, none, 0, 0)
def iX1_captureOrders : QI := (⟨"ScanBench$Chain", "captureOrders", "(LScanBench$Board;)V"⟩, prog_3_method_16_code, 3, none, 0, 0)
def iX1_shiftData : QI := (⟨"ScanBench$Chain", "shiftData", "(LScanBench$Board;I)I"⟩, prog_3_method_17_code, 7, some .int, 0, 0)
def iX1_shiftOrders : QI := (⟨"ScanBench$Chain", "shiftOrders", "(LScanBench$Board;I)I"⟩, prog_3_method_18_code, 6, some .int, 0, 0)
def iX1_giveData : QI := (⟨"ScanBench$Chain", "giveData", "(LScanBench$Board;)V"⟩, prog_3_method_19_code, 3, none, 0, 0)
def iX1_giveOrders : QI := (⟨"ScanBench$Chain", "giveOrders", "(LScanBench$Board;)V"⟩, prog_3_method_20_code, 3, none, 0, 0)
def iX1_sweep : QI := (⟨"ScanBench$Chain", "sweep", "(LScanBench$Board;LScanBench$Ways;III)I"⟩, prog_3_method_21_code, 10, some .int, 0, 0)
def iX1_save : QI := (⟨"ScanBench$Chain", "save", "([II)V"⟩, prog_3_method_22_code, 3, none, 0, 0)
def iX1_load : QI := (⟨"ScanBench$Chain", "load", "([II)V"⟩, prog_3_method_23_code, 3, none, 0, 0)
def iX2_countSteps : QI := (⟨"ScanBench$Codes", "countSteps", "(I)I"⟩, prog_4_method_2_code, 1, some .int, 0, 0)
def iX2_stepCount : QI := (⟨"ScanBench$Codes", "stepCount", "(LScanBench$Board;I)I"⟩, prog_4_method_3_code, 3, some .int, 0, 0)
def iX2_counted : QI := (⟨"ScanBench$Codes", "counted", "(II)I"⟩, prog_4_method_4_code, 4, some .int, 0, 0)
def iX2_pattern : QI := (⟨"ScanBench$Codes", "pattern", "(LScanBench$Board;II)I"⟩, prog_4_method_5_code, 5, some .int, 0, 0)
def iX2_stepsOf : QI := (⟨"ScanBench$Codes", "stepsOf", "(LScanBench$Board;II)I"⟩, prog_4_method_6_code, 6, some .int, 0, 0)
def iX3_init : QI := (⟨"ScanBench$Faults", "<init>", "()V"⟩, prog_5_method_1_code, 1, none, 0, 0)
def iX3_mendAll : QI := (⟨"ScanBench$Faults", "mendAll", "()V"⟩, prog_5_method_2_code, 1, none, 0, 0)
def iX3_takeOver : QI := (⟨"ScanBench$Faults", "takeOver", "(LScanBench$Faults;)V"⟩, prog_5_method_3_code, 2, none, 0, 0)
def iX3_count : QI := (⟨"ScanBench$Faults", "count", "()I"⟩, prog_5_method_4_code, 1, some .int, 0, 0)
def iX3_pairOf : QI := (⟨"ScanBench$Faults", "pairOf", "(II)I"⟩, prog_5_method_5_code, 5, some .int, 0, 0)
def iX3_netsOf : QI := (⟨"ScanBench$Faults", "netsOf", "(I)I"⟩, prog_5_method_6_code, 1, some .int, 0, 0)
def iX3_hanging : QI := (⟨"ScanBench$Faults", "hanging", "(I)I"⟩, prog_5_method_7_code, 7, some .int, 0, 0)
def iX3_pullsLow : QI := (⟨"ScanBench$Faults", "pullsLow", "(I)Z"⟩, prog_5_method_8_code, 3, some .boolean, 0, 0)
def iX3_drives : QI := (⟨"ScanBench$Faults", "drives", "(I)I"⟩, prog_5_method_9_code, 2, some .int, 0, 0)
def iX3_levels : QI := (⟨"ScanBench$Faults", "levels", "(I)I"⟩, prog_5_method_10_code, 8, some .int, 0, 0)
def iX3_save : QI := (⟨"ScanBench$Faults", "save", "([II)V"⟩, prog_5_method_11_code, 3, none, 0, 0)
def iX3_load : QI := (⟨"ScanBench$Faults", "load", "([II)V"⟩, prog_5_method_12_code, 3, none, 0, 0)
def iX4_init : QI := (⟨"ScanBench$Formula", "<init>", "()V"⟩, prog_6_method_1_code, 1, none, 2, 330)
def iX4_clear : QI := (⟨"ScanBench$Formula", "clear", "()V"⟩, prog_6_method_2_code, 1, none, 0, 0)
def iX4_put : QI := (⟨"ScanBench$Formula", "put", "(I)V"⟩, prog_6_method_3_code, 2, none, 0, 0)
def iX4_value : QI := (⟨"ScanBench$Formula", "value", "(III)I"⟩, prog_6_method_4_code, 7, some .int, 0, 0)
def iX4_named : QI := (⟨"ScanBench$Formula", "named", "(IIII)I"⟩, prog_6_method_5_code, 4, some .int, 0, 0)
def iX4_joined : QI := (⟨"ScanBench$Formula", "joined", "(III)I"⟩, prog_6_method_6_code, 3, some .int, 0, 0)
def iX5_init : QI := (⟨"ScanBench$Judge", "<init>", "()V"⟩, prog_7_method_1_code, 1, none, 3, 17)
def iX5_look : QI := (⟨"ScanBench$Judge", "look", "(LScanBench$Board;LScanBench$Faults;II)V"⟩, prog_7_method_2_code, 6, none, 0, 0)
def iX5_goodCount : QI := (⟨"ScanBench$Judge", "goodCount", "()I"⟩, prog_7_method_3_code, 1, some .int, 0, 0)
def iX5_answerAt : QI := (⟨"ScanBench$Judge", "answerAt", "(I)I"⟩, prog_7_method_4_code, 2, some .int, 0, 0)
def iX5_across : QI := (⟨"ScanBench$Judge", "across", "([II)I"⟩, prog_7_method_5_code, 5, some .int, 0, 0)
def iX5_aliasedNets : QI := (⟨"ScanBench$Judge", "aliasedNets", "(LScanBench$Board;LScanBench$Faults;)I"⟩, prog_7_method_6_code, 6, some .int, 0, 0)
def iX5_isToldToSome : QI := (⟨"ScanBench$Judge", "isToldToSome", "(LScanBench$Board;I)Z"⟩, prog_7_method_7_code, 4, some .boolean, 0, 0)
def iX5_isAnswerAmong : QI := (⟨"ScanBench$Judge", "isAnswerAmong", "(II)Z"⟩, prog_7_method_8_code, 4, some .boolean, 0, 0)
def iX5_confoundedWith : QI := (⟨"ScanBench$Judge", "confoundedWith", "(LScanBench$Board;LScanBench$Faults;I)I"⟩, prog_7_method_9_code, 8, some .int, 0, 0)
def iX5_shareAnswer : QI := (⟨"ScanBench$Judge", "shareAnswer", "(II)Z"⟩, prog_7_method_10_code, 4, some .boolean, 0, 0)
def iX5_verdictOf : QI := (⟨"ScanBench$Judge", "verdictOf", "(LScanBench$Board;I)I"⟩, prog_7_method_11_code, 5, some .int, 0, 0)
def iX5_commonAnswer : QI := (⟨"ScanBench$Judge", "commonAnswer", "(I)I"⟩, prog_7_method_12_code, 5, some .int, 0, 0)
def iX5_worstNet : QI := (⟨"ScanBench$Judge", "worstNet", "(LScanBench$Board;)I"⟩, prog_7_method_13_code, 6, some .int, 0, 0)
def iX5_bestMended : QI := (⟨"ScanBench$Judge", "bestMended", "(LScanBench$Board;LScanBench$Faults;I)I"⟩, prog_7_method_14_code, 7, some .int, 0, 0)
def iX5_safestPattern : QI := (⟨"ScanBench$Judge", "safestPattern", "(LScanBench$Board;LScanBench$Faults;I)I"⟩, prog_7_method_15_code, 9, some .int, 0, 0)
def iX6_init : QI := (⟨"ScanBench$Lab", "<init>", "()V"⟩, prog_8_method_1_code, 1, none, 3, 935)
def iX6_forget : QI := (⟨"ScanBench$Lab", "forget", "()V"⟩, prog_8_method_2_code, 1, none, 0, 0)
def iX6_prepare : QI := (⟨"ScanBench$Lab", "prepare", "(LScanBench$Board;)V"⟩, prog_8_method_3_code, 9, none, 0, 0)
def iX6_tellPatterns : QI := (⟨"ScanBench$Lab", "tellPatterns", "(LScanBench$Board;)I"⟩, prog_8_method_4_code, 6, some .int, 0, 0)
def iX6_columnOf : QI := (⟨"ScanBench$Lab", "columnOf", "(LScanBench$Board;II)I"⟩, prog_8_method_5_code, 6, some .int, 0, 0)
def iX6_readsIn : QI := (⟨"ScanBench$Lab", "readsIn", "(II)I"⟩, prog_8_method_6_code, 3, some .int, 0, 0)
def iX6_parts : QI := (⟨"ScanBench$Lab", "parts", "(LScanBench$Board;III)Z"⟩, prog_8_method_7_code, 8, some .boolean, 0, 0)
def iX6_countFromNone : QI := (⟨"ScanBench$Lab", "countFromNone", "(LScanBench$Board;I)I"⟩, prog_8_method_8_code, 6, some .int, 0, 0)
def iX6_countFromAll : QI := (⟨"ScanBench$Lab", "countFromAll", "(LScanBench$Board;I)I"⟩, prog_8_method_9_code, 6, some .int, 0, 0)
def iX6_partsFromAll : QI := (⟨"ScanBench$Lab", "partsFromAll", "(LScanBench$Board;III)Z"⟩, prog_8_method_10_code, 6, some .boolean, 0, 0)
def iX6_leastKind : QI := (⟨"ScanBench$Lab", "leastKind", "(LScanBench$Board;)I"⟩, prog_8_method_11_code, 7, some .int, 0, 0)
def iX7_init : QI := (⟨"ScanBench$Notes", "<init>", "()V"⟩, prog_9_method_1_code, 1, none, 6, 180)
def iX7_forget : QI := (⟨"ScanBench$Notes", "forget", "()V"⟩, prog_9_method_2_code, 1, none, 0, 0)
def iX7_write : QI := (⟨"ScanBench$Notes", "write", "(IIIZI)I"⟩, prog_9_method_3_code, 6, some .int, 0, 0)
def iX7_strike : QI := (⟨"ScanBench$Notes", "strike", "(II)Z"⟩, prog_9_method_4_code, 3, some .boolean, 0, 0)
def iX7_countsAt : QI := (⟨"ScanBench$Notes", "countsAt", "(II)Z"⟩, prog_9_method_5_code, 3, some .boolean, 0, 0)
def iX7_fitting : QI := (⟨"ScanBench$Notes", "fitting", "(LScanBench$Board;LScanBench$Lab;I)J"⟩, prog_9_method_6_code, 7, some .long, 0, 0)
def iX7_fittingOne : QI := (⟨"ScanBench$Notes", "fittingOne", "(LScanBench$Board;LScanBench$Lab;I)J"⟩, prog_9_method_7_code, 9, some .long, 0, 0)
def iX7_fittingAt : QI := (⟨"ScanBench$Notes", "fittingAt", "(LScanBench$Board;LScanBench$Lab;II)I"⟩, prog_9_method_8_code, 10, some .int, 0, 0)
def iX7_bestStep : QI := (⟨"ScanBench$Notes", "bestStep", "(LScanBench$Board;LScanBench$Lab;II)I"⟩, prog_9_method_9_code, 11, some .int, 0, 0)
def iX7_mostAlike : QI := (⟨"ScanBench$Notes", "mostAlike", "(LScanBench$Lab;IIJ)I"⟩, prog_9_method_10_code, 10, some .int, 0, 0)
def iX8_init : QI := (⟨"ScanBench$Past", "<init>", "()V"⟩, prog_10_method_1_code, 1, none, 3, 1059)
def iX8_rowAt : QI := (⟨"ScanBench$Past", "rowAt", "(I)I"⟩, prog_10_method_2_code, 2, some .int, 0, 0)
def iX8_forget : QI := (⟨"ScanBench$Past", "forget", "(LScanBench$Chain;)V"⟩, prog_10_method_3_code, 2, none, 0, 0)
def iX8_keep : QI := (⟨"ScanBench$Past", "keep", "(LScanBench$Chain;)V"⟩, prog_10_method_4_code, 2, none, 0, 0)
def iX8_goBack : QI := (⟨"ScanBench$Past", "goBack", "(LScanBench$Chain;)Z"⟩, prog_10_method_5_code, 2, some .boolean, 0, 0)
def iX8_goOn : QI := (⟨"ScanBench$Past", "goOn", "(LScanBench$Chain;)Z"⟩, prog_10_method_6_code, 2, some .boolean, 0, 0)
def iX8_undoable : QI := (⟨"ScanBench$Past", "undoable", "()I"⟩, prog_10_method_7_code, 1, some .int, 0, 0)
def iX8_redoable : QI := (⟨"ScanBench$Past", "redoable", "()I"⟩, prog_10_method_8_code, 1, some .int, 0, 0)
def iX8_emptyBoxes : QI := (⟨"ScanBench$Past", "emptyBoxes", "()V"⟩, prog_10_method_9_code, 2, none, 0, 0)
def iX8_putInBox : QI := (⟨"ScanBench$Past", "putInBox", "(LScanBench$Chain;I)Z"⟩, prog_10_method_10_code, 3, some .boolean, 0, 0)
def iX8_takeFromBox : QI := (⟨"ScanBench$Past", "takeFromBox", "(LScanBench$Chain;I)Z"⟩, prog_10_method_11_code, 3, some .boolean, 0, 0)
def iX9_init : QI := (⟨"ScanBench$Reader", "<init>", "(LScanBench$Board;)V"⟩, prog_11_method_1_code, 7, none, 2, 21)
def iX9_readBoard : QI := (⟨"ScanBench$Reader", "readBoard", "([BILScanBench$Board;)I"⟩, prog_11_method_2_code, 6, some .int, 0, 0)
def iX9_refuse : QI := (⟨"ScanBench$Reader", "refuse", "(I)Z"⟩, prog_11_method_3_code, 2, some .boolean, 0, 0)
def iX9_isSignByte : QI := (⟨"ScanBench$Reader", "isSignByte", "(I)Z"⟩, prog_11_method_4_code, 1, some .boolean, 0, 0)
def iX9_advance : QI := (⟨"ScanBench$Reader", "advance", "()V"⟩, prog_11_method_5_code, 2, none, 0, 0)
def iX9_takeWord : QI := (⟨"ScanBench$Reader", "takeWord", "()V"⟩, prog_11_method_6_code, 2, none, 0, 0)
def iX9_takeNumber : QI := (⟨"ScanBench$Reader", "takeNumber", "()V"⟩, prog_11_method_7_code, 3, none, 0, 0)
def iX9_atKey : QI := (⟨"ScanBench$Reader", "atKey", "(I)Z"⟩, prog_11_method_8_code, 2, some .boolean, 0, 0)
def iX9_atSign : QI := (⟨"ScanBench$Reader", "atSign", "(I)Z"⟩, prog_11_method_9_code, 2, some .boolean, 0, 0)
def iX9_takeKey : QI := (⟨"ScanBench$Reader", "takeKey", "(I)Z"⟩, prog_11_method_10_code, 2, some .boolean, 0, 0)
def iX9_takeSign : QI := (⟨"ScanBench$Reader", "takeSign", "(I)Z"⟩, prog_11_method_11_code, 2, some .boolean, 0, 0)
def iX9_atNumber : QI := (⟨"ScanBench$Reader", "atNumber", "(II)Z"⟩, prog_11_method_12_code, 3, some .boolean, 0, 0)
def iX9_line : QI := (⟨"ScanBench$Reader", "line", "()Z"⟩, prog_11_method_13_code, 1, some .boolean, 0, 0)
def iX9_indexOf : QI := (⟨"ScanBench$Reader", "indexOf", "(J[JI)I"⟩, prog_11_method_14_code, 5, some .int, 0, 0)
def iX9_atNewName : QI := (⟨"ScanBench$Reader", "atNewName", "([JI)Z"⟩, prog_11_method_15_code, 3, some .boolean, 0, 0)
def iX9_atOldName : QI := (⟨"ScanBench$Reader", "atOldName", "([JI)I"⟩, prog_11_method_16_code, 4, some .int, 0, 0)
def iX9_deviceLine : QI := (⟨"ScanBench$Reader", "deviceLine", "()Z"⟩, prog_11_method_17_code, 2, some .boolean, 0, 0)
def iX9_netLine : QI := (⟨"ScanBench$Reader", "netLine", "()Z"⟩, prog_11_method_18_code, 3, some .boolean, 0, 0)
def iX9_atCell : QI := (⟨"ScanBench$Reader", "atCell", "()I"⟩, prog_11_method_19_code, 2, some .int, 0, 0)
def iX9_cellOfNet : QI := (⟨"ScanBench$Reader", "cellOfNet", "(I[I)Z"⟩, prog_11_method_20_code, 4, some .boolean, 0, 0)
def iX9_shortLine : QI := (⟨"ScanBench$Reader", "shortLine", "()Z"⟩, prog_11_method_21_code, 4, some .boolean, 0, 0)
def iX9_openLine : QI := (⟨"ScanBench$Reader", "openLine", "()Z"⟩, prog_11_method_22_code, 2, some .boolean, 0, 0)
def iX9_stuckLine : QI := (⟨"ScanBench$Reader", "stuckLine", "()Z"⟩, prog_11_method_23_code, 2, some .boolean, 0, 0)
def iX9_noiseLine : QI := (⟨"ScanBench$Reader", "noiseLine", "()Z"⟩, prog_11_method_24_code, 1, some .boolean, 0, 0)
def iX9_drawLine : QI := (⟨"ScanBench$Reader", "drawLine", "()Z"⟩, prog_11_method_25_code, 1, some .boolean, 0, 0)
def iX9_floatsLine : QI := (⟨"ScanBench$Reader", "floatsLine", "()Z"⟩, prog_11_method_26_code, 1, some .boolean, 0, 0)
def iX9_either : QI := (⟨"ScanBench$Reader", "either", "(I)Z"⟩, prog_11_method_27_code, 3, some .boolean, 0, 0)
def iX9_both : QI := (⟨"ScanBench$Reader", "both", "(I)Z"⟩, prog_11_method_28_code, 3, some .boolean, 0, 0)
def iX9_one : QI := (⟨"ScanBench$Reader", "one", "(I)Z"⟩, prog_11_method_29_code, 2, some .boolean, 0, 0)
def iX9_relation : QI := (⟨"ScanBench$Reader", "relation", "(I)Z"⟩, prog_11_method_30_code, 3, some .boolean, 0, 0)
def iX9_sum : QI := (⟨"ScanBench$Reader", "sum", "(I)Z"⟩, prog_11_method_31_code, 4, some .boolean, 0, 0)
def iX9_term : QI := (⟨"ScanBench$Reader", "term", "(I)Z"⟩, prog_11_method_32_code, 4, some .boolean, 0, 0)
def iX9_unit : QI := (⟨"ScanBench$Reader", "unit", "(I)Z"⟩, prog_11_method_33_code, 3, some .boolean, 0, 0)
def iX10_init : QI := (⟨"ScanBench$Ways", "<init>", "()V"⟩, prog_12_method_1_code, 1, none, 2, 32)
def iX10_next : QI := (⟨"ScanBench$Ways", "next", "(II)I"⟩, prog_12_method_2_code, 2, some .int, 0, 0)
def iX10_measure : QI := (⟨"ScanBench$Ways", "measure", "(IZ)V"⟩, prog_12_method_3_code, 8, none, 0, 0)
def iX10_lead : QI := (⟨"ScanBench$Ways", "lead", "(II[I)I"⟩, prog_12_method_4_code, 8, some .int, 0, 0)
def iX10_countWays : QI := (⟨"ScanBench$Ways", "countWays", "(II)I"⟩, prog_12_method_5_code, 5, some .int, 0, 0)
def iX10_waysThrough : QI := (⟨"ScanBench$Ways", "waysThrough", "(II)I"⟩, prog_12_method_6_code, 3, some .int, 0, 0)
def iX10_farthestFrom : QI := (⟨"ScanBench$Ways", "farthestFrom", "(I)I"⟩, prog_12_method_7_code, 4, some .int, 0, 0)
def iX11_init : QI := (⟨"ScanBench", "<init>", "()V"⟩, prog_1_method_1_code, 1, none, 62, 4784)
def iX11_feed : QI := (⟨"ScanBench", "feed", "(IIIII)I"⟩, prog_1_method_2_code, 6, some .int, 0, 0)
def iX11_putFour : QI := (⟨"ScanBench", "putFour", "(I)V"⟩, prog_1_method_3_code, 3, none, 0, 0)
def iX11_end : QI := (⟨"ScanBench", "end", "(I)I"⟩, prog_1_method_4_code, 2, some .int, 0, 0)
def iX11_board : QI := (⟨"ScanBench", "board", "()I"⟩, prog_1_method_5_code, 2, some .int, 0, 0)
def iX11_fault : QI := (⟨"ScanBench", "fault", "(I)I"⟩, prog_1_method_6_code, 2, some .int, 0, 0)
def iX11_device : QI := (⟨"ScanBench", "device", "(II)I"⟩, prog_1_method_7_code, 3, some .int, 0, 0)
def iX11_net : QI := (⟨"ScanBench", "net", "(II)I"⟩, prog_1_method_8_code, 5, some .int, 0, 0)
def iX11_cell : QI := (⟨"ScanBench", "cell", "(III)I"⟩, prog_1_method_9_code, 5, some .int, 0, 0)
def iX11_placeOf : QI := (⟨"ScanBench", "placeOf", "(II)I"⟩, prog_1_method_10_code, 2, some .int, 0, 0)
def iX11_clock : QI := (⟨"ScanBench", "clock", "(II)I"⟩, prog_1_method_11_code, 4, some .int, 0, 0)
def iX11_isBit : QI := (⟨"ScanBench", "isBit", "(I)Z"⟩, prog_1_method_12_code, 1, some .boolean, 0, 0)
def iX11_scan : QI := (⟨"ScanBench", "scan", "(III)I"⟩, prog_1_method_13_code, 5, some .int, 0, 0)
def iX11_harm : QI := (⟨"ScanBench", "harm", "(I)I"⟩, prog_1_method_14_code, 2, some .int, 0, 0)
def iX11_undo : QI := (⟨"ScanBench", "undo", "()Z"⟩, prog_1_method_15_code, 1, some .boolean, 0, 0)
def iX11_redo : QI := (⟨"ScanBench", "redo", "()Z"⟩, prog_1_method_16_code, 1, some .boolean, 0, 0)
def iX11_goes : QI := (⟨"ScanBench", "goes", "(II)I"⟩, prog_1_method_17_code, 5, some .int, 0, 0)
def iX11_walk : QI := (⟨"ScanBench", "walk", "(II)I"⟩, prog_1_method_18_code, 3, some .int, 0, 0)
def iX11_isState : QI := (⟨"ScanBench", "isState", "(I)Z"⟩, prog_1_method_19_code, 1, some .boolean, 0, 0)
def iX11_walks : QI := (⟨"ScanBench", "walks", "(II)I"⟩, prog_1_method_20_code, 3, some .int, 0, 0)
def iX11_farthest : QI := (⟨"ScanBench", "farthest", "(I)I"⟩, prog_1_method_21_code, 2, some .int, 0, 0)
def iX11_length : QI := (⟨"ScanBench", "length", "(I)I"⟩, prog_1_method_22_code, 4, some .int, 0, 0)
def iX11_found : QI := (⟨"ScanBench", "found", "(I)I"⟩, prog_1_method_23_code, 3, some .int, 0, 0)
def iX11_fights : QI := (⟨"ScanBench", "fights", "()I"⟩, prog_1_method_24_code, 1, some .int, 0, 0)
def iX11_unsafe : QI := (⟨"ScanBench", "\x75nsafe", "()I"⟩, prog_1_method_25_code, 1, some .int, 0, 0)
def iX11_isKind : QI := (⟨"ScanBench", "isKind", "(I)Z"⟩, prog_1_method_26_code, 1, some .boolean, 0, 0)
def iX11_steps : QI := (⟨"ScanBench", "steps", "(I)I"⟩, prog_1_method_27_code, 2, some .int, 0, 0)
def iX11_tells : QI := (⟨"ScanBench", "tells", "(II)I"⟩, prog_1_method_28_code, 3, some .int, 0, 0)
def iX11_judged : QI := (⟨"ScanBench", "judged", "(I)LScanBench$Judge;"⟩, prog_1_method_29_code, 2, some (.object "ScanBench$Judge"), 0, 0)
def iX11_answer : QI := (⟨"ScanBench", "answer", "(III)I"⟩, prog_1_method_30_code, 4, some .int, 0, 0)
def iX11_good : QI := (⟨"ScanBench", "good", "(I)I"⟩, prog_1_method_31_code, 2, some .int, 0, 0)
def iX11_aliased : QI := (⟨"ScanBench", "aliased", "(I)I"⟩, prog_1_method_32_code, 2, some .int, 0, 0)
def iX11_confounded : QI := (⟨"ScanBench", "confounded", "(II)I"⟩, prog_1_method_33_code, 3, some .int, 0, 0)
def iX11_verdict : QI := (⟨"ScanBench", "verdict", "(II)I"⟩, prog_1_method_34_code, 3, some .int, 0, 0)
def iX11_singles : QI := (⟨"ScanBench", "singles", "()I"⟩, prog_1_method_35_code, 1, some .int, 0, 0)
def iX11_single : QI := (⟨"ScanBench", "single", "(II)I"⟩, prog_1_method_36_code, 3, some .int, 0, 0)
def iX11_apart : QI := (⟨"ScanBench", "apart", "(III)I"⟩, prog_1_method_37_code, 4, some .int, 0, 0)
def iX11_prepared : QI := (⟨"ScanBench", "prepared", "()LScanBench$Lab;"⟩, prog_1_method_38_code, 1, some (.object "ScanBench$Lab"), 0, 0)
def iX11_isSingleOrNone : QI := (⟨"ScanBench", "isSingleOrNone", "(I)Z"⟩, prog_1_method_39_code, 2, some .boolean, 0, 0)
def iX11_told : QI := (⟨"ScanBench", "told", "(II)I"⟩, prog_1_method_40_code, 3, some .int, 0, 0)
def iX11_least : QI := (⟨"ScanBench", "least", "()I"⟩, prog_1_method_41_code, 1, some .int, 0, 0)
def iX11_mendFirst : QI := (⟨"ScanBench", "mendFirst", "(I)I"⟩, prog_1_method_42_code, 3, some .int, 0, 0)
def iX11_safest : QI := (⟨"ScanBench", "safest", "(I)I"⟩, prog_1_method_43_code, 3, some .int, 0, 0)
def iX11_cost : QI := (⟨"ScanBench", "cost", "(I)I"⟩, prog_1_method_44_code, 5, some .int, 0, 0)
def iX11_worst : QI := (⟨"ScanBench", "worst", "()I"⟩, prog_1_method_45_code, 1, some .int, 0, 0)
def iX11_law : QI := (⟨"ScanBench", "law", "(I)I"⟩, prog_1_method_46_code, 2, some .int, 0, 0)
def iX11_odds : QI := (⟨"ScanBench", "odds", "(II)I"⟩, prog_1_method_47_code, 6, some .int, 0, 0)
def iX11_commonDivisor : QI := (⟨"ScanBench", "commonDivisor", "(II)I"⟩, prog_1_method_48_code, 4, some .int, 0, 0)
def iX11_lies : QI := (⟨"ScanBench", "lies", "(I)I"⟩, prog_1_method_49_code, 2, some .int, 0, 0)
def iX11_seen : QI := (⟨"ScanBench", "seen", "(IIIIZ)I"⟩, prog_1_method_50_code, 6, some .int, 0, 0)
def iX11_untell : QI := (⟨"ScanBench", "untell", "(I)Z"⟩, prog_1_method_51_code, 2, some .boolean, 0, 0)
def iX11_later : QI := (⟨"ScanBench", "later", "(I)I"⟩, prog_1_method_52_code, 2, some .int, 0, 0)
def iX11_fits : QI := (⟨"ScanBench", "fits", "(I)I"⟩, prog_1_method_53_code, 2, some .int, 0, 0)
def iX11_culprit : QI := (⟨"ScanBench", "culprit", "(II)I"⟩, prog_1_method_54_code, 3, some .int, 0, 0)
def iX11_ask : QI := (⟨"ScanBench", "ask", "(III)I"⟩, prog_1_method_55_code, 5, some .int, 0, 0)
def iX11_image : QI := (⟨"ScanBench", "image", "(I)I"⟩, prog_1_method_56_code, 2, some .int, 0, 0)
def iX11_back : QI := (⟨"ScanBench", "back", "(I)I"⟩, prog_1_method_57_code, 2, some .int, 0, 0)
def iX11_about : QI := (⟨"ScanBench", "about", "(I)I"⟩, prog_1_method_58_code, 2, some .int, 0, 0)
def iX12_init : QI := (⟨"ScanBenchModel", "<init>", "()V"⟩, prog_14_method_1_code, 1, none, 49, 8345)
def iX12_feed : QI := (⟨"ScanBenchModel", "feed", "(IIIII)I"⟩, prog_14_method_2_code, 6, some .int, 0, 0)
def iX12_four : QI := (⟨"ScanBenchModel", "four", "(I)V"⟩, prog_14_method_3_code, 3, none, 0, 0)
def iX12_end : QI := (⟨"ScanBenchModel", "end", "(I)I"⟩, prog_14_method_4_code, 2, some .int, 0, 0)
def iX12_here : QI := (⟨"ScanBenchModel", "here", "(I)I"⟩, prog_14_method_5_code, 2, some .int, 0, 0)
def iX12_isLetter : QI := (⟨"ScanBenchModel", "isLetter", "(I)Z"⟩, prog_14_method_6_code, 1, some .boolean, 0, 0)
def iX12_isDigit : QI := (⟨"ScanBenchModel", "isDigit", "(I)Z"⟩, prog_14_method_7_code, 1, some .boolean, 0, 0)
def iX12_isSign : QI := (⟨"ScanBenchModel", "isSign", "(I)Z"⟩, prog_14_method_8_code, 1, some .boolean, 0, 0)
def iX12_token : QI := (⟨"ScanBenchModel", "token", "()V"⟩, prog_14_method_9_code, 3, none, 0, 0)
def iX12_wrong : QI := (⟨"ScanBenchModel", "wrong", "(I)V"⟩, prog_14_method_10_code, 2, none, 0, 0)
def iX12_isWord : QI := (⟨"ScanBenchModel", "isWord", "(J)Z"⟩, prog_14_method_11_code, 3, some .boolean, 0, 0)
def iX12_isOwn : QI := (⟨"ScanBenchModel", "isOwn", "()Z"⟩, prog_14_method_12_code, 1, some .boolean, 0, 0)
def iX12_isName : QI := (⟨"ScanBenchModel", "isName", "()Z"⟩, prog_14_method_13_code, 1, some .boolean, 0, 0)
def iX12_want : QI := (⟨"ScanBenchModel", "want", "(J)V"⟩, prog_14_method_14_code, 3, none, 0, 0)
def iX12_numberHere : QI := (⟨"ScanBenchModel", "numberHere", "(II)I"⟩, prog_14_method_15_code, 3, some .int, 0, 0)
def iX12_toldNumber : QI := (⟨"ScanBenchModel", "toldNumber", "(II)I"⟩, prog_14_method_16_code, 4, some .int, 0, 0)
def iX12_toldBy : QI := (⟨"ScanBenchModel", "toldBy", "(JII)I"⟩, prog_14_method_17_code, 5, some .int, 0, 0)
def iX12_find : QI := (⟨"ScanBenchModel", "find", "(II)I"⟩, prog_14_method_18_code, 5, some .int, 0, 0)
def iX12_newName : QI := (⟨"ScanBenchModel", "newName", "(II)V"⟩, prog_14_method_19_code, 3, none, 0, 0)
def iX12_oldName : QI := (⟨"ScanBenchModel", "oldName", "(II)I"⟩, prog_14_method_20_code, 3, some .int, 0, 0)
def iX12_add : QI := (⟨"ScanBenchModel", "add", "(II)V"⟩, prog_14_method_21_code, 3, none, 0, 0)
def iX12_tight : QI := (⟨"ScanBenchModel", "tight", "(I)I"⟩, prog_14_method_22_code, 1, some .int, 0, 0)
def iX12_close : QI := (⟨"ScanBenchModel", "close", "(I)V"⟩, prog_14_method_23_code, 2, none, 0, 0)
def iX12_hasRelation : QI := (⟨"ScanBenchModel", "hasRelation", "()Z"⟩, prog_14_method_24_code, 2, some .boolean, 0, 0)
def iX12_mayNot : QI := (⟨"ScanBenchModel", "mayNot", "()Z"⟩, prog_14_method_25_code, 1, some .boolean, 0, 0)
def iX12_asked : QI := (⟨"ScanBenchModel", "asked", "()I"⟩, prog_14_method_26_code, 1, some .int, 0, 0)
def iX12_isFull : QI := (⟨"ScanBenchModel", "isFull", "()Z"⟩, prog_14_method_27_code, 1, some .boolean, 0, 0)
def iX12_countUnit : QI := (⟨"ScanBenchModel", "countUnit", "()V"⟩, prog_14_method_28_code, 1, none, 0, 0)
def iX12_openUp : QI := (⟨"ScanBenchModel", "openUp", "(I)V"⟩, prog_14_method_29_code, 2, none, 0, 0)
def iX12_unit : QI := (⟨"ScanBenchModel", "unit", "()V"⟩, prog_14_method_30_code, 3, none, 0, 0)
def iX12_sign : QI := (⟨"ScanBenchModel", "sign", "()I"⟩, prog_14_method_31_code, 1, some .int, 0, 0)
def iX12_hasBracket : QI := (⟨"ScanBenchModel", "hasBracket", "()Z"⟩, prog_14_method_32_code, 3, some .boolean, 0, 0)
def iX12_formula : QI := (⟨"ScanBenchModel", "formula", "()V"⟩, prog_14_method_33_code, 3, none, 0, 0)
def iX12_truth : QI := (⟨"ScanBenchModel", "truth", "(Z)I"⟩, prog_14_method_34_code, 1, some .int, 0, 0)
def iX12_done : QI := (⟨"ScanBenchModel", "done", "(III)I"⟩, prog_14_method_35_code, 3, some .int, 0, 0)
def iX12_greater : QI := (⟨"ScanBenchModel", "greater", "(II)I"⟩, prog_14_method_36_code, 2, some .int, 0, 0)
def iX12_has : QI := (⟨"ScanBenchModel", "has", "(II)Z"⟩, prog_14_method_37_code, 2, some .boolean, 0, 0)
def iX12_isIn : QI := (⟨"ScanBenchModel", "isIn", "(III)Z"⟩, prog_14_method_38_code, 3, some .boolean, 0, 0)
def iX12_floatsAt : QI := (⟨"ScanBenchModel", "floatsAt", "(III)I"⟩, prog_14_method_39_code, 6, some .int, 0, 0)
def iX12_readDevice : QI := (⟨"ScanBenchModel", "readDevice", "()V"⟩, prog_14_method_40_code, 2, none, 0, 0)
def iX12_readCell : QI := (⟨"ScanBenchModel", "readCell", "()I"⟩, prog_14_method_41_code, 3, some .int, 0, 0)
def iX12_readOwnCell : QI := (⟨"ScanBenchModel", "readOwnCell", "(I)V"⟩, prog_14_method_42_code, 3, none, 0, 0)
def iX12_readNet : QI := (⟨"ScanBenchModel", "readNet", "()V"⟩, prog_14_method_43_code, 2, none, 0, 0)
def iX12_readShort : QI := (⟨"ScanBenchModel", "readShort", "()V"⟩, prog_14_method_44_code, 4, none, 0, 0)
def iX12_readOpen : QI := (⟨"ScanBenchModel", "readOpen", "()V"⟩, prog_14_method_45_code, 4, none, 0, 0)
def iX12_readStuck : QI := (⟨"ScanBenchModel", "readStuck", "()V"⟩, prog_14_method_46_code, 3, none, 0, 0)
def iX12_readLine : QI := (⟨"ScanBenchModel", "readLine", "()V"⟩, prog_14_method_47_code, 1, none, 0, 0)
def iX12_readAll : QI := (⟨"ScanBenchModel", "readAll", "()V"⟩, prog_14_method_48_code, 2, none, 0, 0)
def iX12_board : QI := (⟨"ScanBenchModel", "board", "()I"⟩, prog_14_method_49_code, 2, some .int, 0, 0)
def iX12_fault : QI := (⟨"ScanBenchModel", "fault", "(I)I"⟩, prog_14_method_50_code, 2, some .int, 0, 0)
def iX12_isDevice : QI := (⟨"ScanBenchModel", "isDevice", "(I)Z"⟩, prog_14_method_51_code, 2, some .boolean, 0, 0)
def iX12_isNet : QI := (⟨"ScanBenchModel", "isNet", "(I)Z"⟩, prog_14_method_52_code, 2, some .boolean, 0, 0)
def iX12_isCell : QI := (⟨"ScanBenchModel", "isCell", "(II)Z"⟩, prog_14_method_53_code, 3, some .boolean, 0, 0)
def iX12_layReceivers : QI := (⟨"ScanBenchModel", "layReceivers", "()V"⟩, prog_14_method_54_code, 4, none, 0, 0)
def iX12_placeOf : QI := (⟨"ScanBenchModel", "placeOf", "(I)I"⟩, prog_14_method_55_code, 4, some .int, 0, 0)
def iX12_restOrder : QI := (⟨"ScanBenchModel", "restOrder", "(I)I"⟩, prog_14_method_56_code, 2, some .int, 0, 0)
def iX12_layTold : QI := (⟨"ScanBenchModel", "layTold", "()V"⟩, prog_14_method_57_code, 2, none, 0, 0)
def iX12_fill : QI := (⟨"ScanBenchModel", "fill", "()V"⟩, prog_14_method_58_code, 2, none, 0, 0)
def iX12_keepAir : QI := (⟨"ScanBenchModel", "keepAir", "()V"⟩, prog_14_method_59_code, 2, none, 0, 0)
def iX12_nextState : QI := (⟨"ScanBenchModel", "nextState", "(II)I"⟩, prog_14_method_60_code, 3, some .int, 0, 0)
def iX12_layWalks : QI := (⟨"ScanBenchModel", "layWalks", "()V"⟩, prog_14_method_61_code, 7, none, 0, 0)
def iX12_isState : QI := (⟨"ScanBenchModel", "isState", "(I)Z"⟩, prog_14_method_62_code, 1, some .boolean, 0, 0)
def iX12_stepTo : QI := (⟨"ScanBenchModel", "stepTo", "(II)I"⟩, prog_14_method_63_code, 3, some .int, 0, 0)
def iX12_walk : QI := (⟨"ScanBenchModel", "walk", "(II)I"⟩, prog_14_method_64_code, 4, some .int, 0, 0)
def iX12_walks : QI := (⟨"ScanBenchModel", "walks", "(II)I"⟩, prog_14_method_65_code, 6, some .int, 0, 0)
def iX12_farthest : QI := (⟨"ScanBenchModel", "farthest", "(I)I"⟩, prog_14_method_66_code, 4, some .int, 0, 0)
def iX12_goes : QI := (⟨"ScanBenchModel", "goes", "(II)I"⟩, prog_14_method_67_code, 5, some .int, 0, 0)
def iX12_two : QI := (⟨"ScanBenchModel", "two", "(II)I"⟩, prog_14_method_68_code, 2, some .int, 0, 0)
def iX12_shortOf : QI := (⟨"ScanBenchModel", "shortOf", "(II)I"⟩, prog_14_method_69_code, 3, some .int, 0, 0)
def iX12_togetherWith : QI := (⟨"ScanBenchModel", "togetherWith", "(I)I"⟩, prog_14_method_70_code, 6, some .int, 0, 0)
def iX12_isLow : QI := (⟨"ScanBenchModel", "isLow", "(I)Z"⟩, prog_14_method_71_code, 5, some .boolean, 0, 0)
def iX12_layLevels : QI := (⟨"ScanBenchModel", "layLevels", "()V"⟩, prog_14_method_72_code, 6, none, 0, 0)
def iX12_driverHas : QI := (⟨"ScanBenchModel", "driverHas", "(I)I"⟩, prog_14_method_73_code, 3, some .int, 0, 0)
def iX12_isDriverOf : QI := (⟨"ScanBenchModel", "isDriverOf", "(II)Z"⟩, prog_14_method_74_code, 3, some .boolean, 0, 0)
def iX12_layDriven : QI := (⟨"ScanBenchModel", "layDriven", "()V"⟩, prog_14_method_75_code, 3, none, 0, 0)
def iX12_readsAt : QI := (⟨"ScanBenchModel", "readsAt", "(II)I"⟩, prog_14_method_76_code, 3, some .int, 0, 0)
def iX12_isFighting : QI := (⟨"ScanBenchModel", "isFighting", "(I)Z"⟩, prog_14_method_77_code, 4, some .boolean, 0, 0)
def iX12_dataBits : QI := (⟨"ScanBenchModel", "dataBits", "(I)I"⟩, prog_14_method_78_code, 3, some .int, 0, 0)
def iX12_setOrder : QI := (⟨"ScanBenchModel", "setOrder", "(II)V"⟩, prog_14_method_79_code, 3, none, 0, 0)
def iX12_captured : QI := (⟨"ScanBenchModel", "captured", "(I)I"⟩, prog_14_method_80_code, 5, some .int, 0, 0)
def iX12_captures : QI := (⟨"ScanBenchModel", "captures", "()V"⟩, prog_14_method_81_code, 2, none, 0, 0)
def iX12_shifts : QI := (⟨"ScanBenchModel", "shifts", "(ZI)I"⟩, prog_14_method_82_code, 8, some .int, 0, 0)
def iX12_goClock : QI := (⟨"ScanBenchModel", "goClock", "(II)I"⟩, prog_14_method_83_code, 6, some .int, 0, 0)
def iX12_walkTo : QI := (⟨"ScanBenchModel", "walkTo", "(I)V"⟩, prog_14_method_84_code, 2, none, 0, 0)
def iX12_act : QI := (⟨"ScanBenchModel", "act", "()V"⟩, prog_14_method_85_code, 2, none, 0, 0)
def iX12_exchangeAt : QI := (⟨"ScanBenchModel", "exchangeAt", "(I)V"⟩, prog_14_method_86_code, 4, none, 0, 0)
def iX12_clock : QI := (⟨"ScanBenchModel", "clock", "(II)I"⟩, prog_14_method_87_code, 4, some .int, 0, 0)
def iX12_scan : QI := (⟨"ScanBenchModel", "scan", "(III)I"⟩, prog_14_method_88_code, 6, some .int, 0, 0)
def iX12_undo : QI := (⟨"ScanBenchModel", "undo", "()Z"⟩, prog_14_method_89_code, 1, some .boolean, 0, 0)
def iX12_redo : QI := (⟨"ScanBenchModel", "redo", "()Z"⟩, prog_14_method_90_code, 1, some .boolean, 0, 0)
def iX12_device : QI := (⟨"ScanBenchModel", "device", "(II)I"⟩, prog_14_method_91_code, 3, some .int, 0, 0)
def iX12_manyOf : QI := (⟨"ScanBenchModel", "manyOf", "(II)I"⟩, prog_14_method_92_code, 5, some .int, 0, 0)
def iX12_net : QI := (⟨"ScanBenchModel", "net", "(II)I"⟩, prog_14_method_93_code, 3, some .int, 0, 0)
def iX12_cell : QI := (⟨"ScanBenchModel", "cell", "(III)I"⟩, prog_14_method_94_code, 5, some .int, 0, 0)
def iX12_length : QI := (⟨"ScanBenchModel", "length", "(I)I"⟩, prog_14_method_95_code, 4, some .int, 0, 0)
def iX12_found : QI := (⟨"ScanBenchModel", "found", "(I)I"⟩, prog_14_method_96_code, 2, some .int, 0, 0)
def iX12_fights : QI := (⟨"ScanBenchModel", "fights", "()I"⟩, prog_14_method_97_code, 3, some .int, 0, 0)
def iX12_unsafe : QI := (⟨"ScanBenchModel", "\x75nsafe", "()I"⟩, prog_14_method_98_code, 3, some .int, 0, 0)
def iX12_countSteps : QI := (⟨"ScanBenchModel", "countSteps", "()I"⟩, prog_14_method_99_code, 2, some .int, 0, 0)
def iX12_hasAllOnes : QI := (⟨"ScanBenchModel", "hasAllOnes", "(I)Z"⟩, prog_14_method_100_code, 5, some .boolean, 0, 0)
def iX12_isKind : QI := (⟨"ScanBenchModel", "isKind", "(I)Z"⟩, prog_14_method_101_code, 1, some .boolean, 0, 0)
def iX12_stepsOf : QI := (⟨"ScanBenchModel", "stepsOf", "(I)I"⟩, prog_14_method_102_code, 2, some .int, 0, 0)
def iX12_steps : QI := (⟨"ScanBenchModel", "steps", "(I)I"⟩, prog_14_method_103_code, 2, some .int, 0, 0)
def iX12_bitOf : QI := (⟨"ScanBenchModel", "bitOf", "(III)I"⟩, prog_14_method_104_code, 5, some .int, 0, 0)
def iX12_wanted : QI := (⟨"ScanBenchModel", "wanted", "(II)I"⟩, prog_14_method_105_code, 5, some .int, 0, 0)
def iX12_tells : QI := (⟨"ScanBenchModel", "tells", "(II)I"⟩, prog_14_method_106_code, 3, some .int, 0, 0)
def iX12_layAnswers : QI := (⟨"ScanBenchModel", "layAnswers", "(II)V"⟩, prog_14_method_107_code, 6, none, 0, 0)
def iX12_layNow : QI := (⟨"ScanBenchModel", "layNow", "(I)V"⟩, prog_14_method_108_code, 2, none, 0, 0)
def iX12_netAt : QI := (⟨"ScanBenchModel", "netAt", "(I)I"⟩, prog_14_method_109_code, 2, some .int, 0, 0)
def iX12_isGood : QI := (⟨"ScanBenchModel", "isGood", "(I)Z"⟩, prog_14_method_110_code, 2, some .boolean, 0, 0)
def iX12_isOpen : QI := (⟨"ScanBenchModel", "isOpen", "(I)Z"⟩, prog_14_method_111_code, 2, some .boolean, 0, 0)
def iX12_goodMany : QI := (⟨"ScanBenchModel", "goodMany", "()I"⟩, prog_14_method_112_code, 3, some .int, 0, 0)
def iX12_answer : QI := (⟨"ScanBenchModel", "answer", "(III)I"⟩, prog_14_method_113_code, 5, some .int, 0, 0)
def iX12_good : QI := (⟨"ScanBenchModel", "good", "(I)I"⟩, prog_14_method_114_code, 2, some .int, 0, 0)
def iX12_aliased : QI := (⟨"ScanBenchModel", "aliased", "(I)I"⟩, prog_14_method_115_code, 5, some .int, 0, 0)
def iX12_confounded : QI := (⟨"ScanBenchModel", "confounded", "(II)I"⟩, prog_14_method_116_code, 6, some .int, 0, 0)
def iX12_verdict : QI := (⟨"ScanBenchModel", "verdict", "(II)I"⟩, prog_14_method_117_code, 11, some .int, 0, 0)
def iX12_openFrom : QI := (⟨"ScanBenchModel", "openFrom", "()I"⟩, prog_14_method_118_code, 1, some .int, 0, 0)
def iX12_shortFrom : QI := (⟨"ScanBenchModel", "shortFrom", "()I"⟩, prog_14_method_119_code, 1, some .int, 0, 0)
def iX12_singleMany : QI := (⟨"ScanBenchModel", "singleMany", "()I"⟩, prog_14_method_120_code, 1, some .int, 0, 0)
def iX12_singles : QI := (⟨"ScanBenchModel", "singles", "()I"⟩, prog_14_method_121_code, 1, some .int, 0, 0)
def iX12_isSingle : QI := (⟨"ScanBenchModel", "isSingle", "(I)Z"⟩, prog_14_method_122_code, 2, some .boolean, 0, 0)
def iX12_pairOf : QI := (⟨"ScanBenchModel", "pairOf", "(I)I"⟩, prog_14_method_123_code, 4, some .int, 0, 0)
def iX12_shortKind : QI := (⟨"ScanBenchModel", "shortKind", "(I)I"⟩, prog_14_method_124_code, 2, some .int, 0, 0)
def iX12_receiverOf : QI := (⟨"ScanBenchModel", "receiverOf", "(I)I"⟩, prog_14_method_125_code, 2, some .int, 0, 0)
def iX12_isThere : QI := (⟨"ScanBenchModel", "isThere", "(I)Z"⟩, prog_14_method_126_code, 2, some .boolean, 0, 0)
def iX12_turn : QI := (⟨"ScanBenchModel", "turn", "(I)V"⟩, prog_14_method_127_code, 3, none, 0, 0)
def iX12_isBarred : QI := (⟨"ScanBenchModel", "isBarred", "(I)Z"⟩, prog_14_method_128_code, 2, some .boolean, 0, 0)
def iX12_faultMany : QI := (⟨"ScanBenchModel", "faultMany", "()I"⟩, prog_14_method_129_code, 3, some .int, 0, 0)
def iX12_harm : QI := (⟨"ScanBenchModel", "harm", "(I)I"⟩, prog_14_method_130_code, 2, some .int, 0, 0)
def iX12_single : QI := (⟨"ScanBenchModel", "single", "(II)I"⟩, prog_14_method_131_code, 4, some .int, 0, 0)
def iX12_layWhole : QI := (⟨"ScanBenchModel", "layWhole", "(II)V"⟩, prog_14_method_132_code, 4, none, 0, 0)
def iX12_layTable : QI := (⟨"ScanBenchModel", "layTable", "(I)V"⟩, prog_14_method_133_code, 4, none, 0, 0)
def iX12_areApart : QI := (⟨"ScanBenchModel", "areApart", "(II)Z"⟩, prog_14_method_134_code, 5, some .boolean, 0, 0)
def iX12_apart : QI := (⟨"ScanBenchModel", "apart", "(III)I"⟩, prog_14_method_135_code, 4, some .int, 0, 0)
def iX12_told : QI := (⟨"ScanBenchModel", "told", "(II)I"⟩, prog_14_method_136_code, 7, some .int, 0, 0)
def iX12_least : QI := (⟨"ScanBenchModel", "least", "()I"⟩, prog_14_method_137_code, 3, some .int, 0, 0)
def iX12_mendFirst : QI := (⟨"ScanBenchModel", "mendFirst", "(I)I"⟩, prog_14_method_138_code, 5, some .int, 0, 0)
def iX12_readBy : QI := (⟨"ScanBenchModel", "readBy", "(I)I"⟩, prog_14_method_139_code, 4, some .int, 0, 0)
def iX12_safest : QI := (⟨"ScanBenchModel", "safest", "(I)I"⟩, prog_14_method_140_code, 6, some .int, 0, 0)
def iX12_cost : QI := (⟨"ScanBenchModel", "cost", "(I)I"⟩, prog_14_method_141_code, 5, some .int, 0, 0)
def iX12_worst : QI := (⟨"ScanBenchModel", "worst", "()I"⟩, prog_14_method_142_code, 6, some .int, 0, 0)
def iX12_law : QI := (⟨"ScanBenchModel", "law", "(I)I"⟩, prog_14_method_143_code, 2, some .int, 0, 0)
def iX12_power : QI := (⟨"ScanBenchModel", "power", "(II)I"⟩, prog_14_method_144_code, 4, some .int, 0, 0)
def iX12_divisor : QI := (⟨"ScanBenchModel", "divisor", "(II)I"⟩, prog_14_method_145_code, 5, some .int, 0, 0)
def iX12_odds : QI := (⟨"ScanBenchModel", "odds", "(II)I"⟩, prog_14_method_146_code, 6, some .int, 0, 0)
def iX12_lies : QI := (⟨"ScanBenchModel", "lies", "(I)I"⟩, prog_14_method_147_code, 2, some .int, 0, 0)
def iX12_seen : QI := (⟨"ScanBenchModel", "seen", "(IIIIZ)I"⟩, prog_14_method_148_code, 6, some .int, 0, 0)
def iX12_untell : QI := (⟨"ScanBenchModel", "untell", "(I)Z"⟩, prog_14_method_149_code, 2, some .boolean, 0, 0)
def iX12_later : QI := (⟨"ScanBenchModel", "later", "(I)I"⟩, prog_14_method_150_code, 2, some .int, 0, 0)
def iX12_doesCount : QI := (⟨"ScanBenchModel", "doesCount", "(II)Z"⟩, prog_14_method_151_code, 3, some .boolean, 0, 0)
def iX12_layFits : QI := (⟨"ScanBenchModel", "layFits", "(I)I"⟩, prog_14_method_152_code, 5, some .int, 0, 0)
def iX12_fits : QI := (⟨"ScanBenchModel", "fits", "(I)I"⟩, prog_14_method_153_code, 2, some .int, 0, 0)
def iX12_culprit : QI := (⟨"ScanBenchModel", "culprit", "(II)I"⟩, prog_14_method_154_code, 5, some .int, 0, 0)
def iX12_readAlike : QI := (⟨"ScanBenchModel", "readAlike", "(III)Z"⟩, prog_14_method_155_code, 6, some .boolean, 0, 0)
def iX12_leftBy : QI := (⟨"ScanBenchModel", "leftBy", "(I)I"⟩, prog_14_method_156_code, 6, some .int, 0, 0)
def iX12_ask : QI := (⟨"ScanBenchModel", "ask", "(III)I"⟩, prog_14_method_157_code, 8, some .int, 0, 0)
def iX12_isBox : QI := (⟨"ScanBenchModel", "isBox", "(I)Z"⟩, prog_14_method_158_code, 1, some .boolean, 0, 0)
def iX12_image : QI := (⟨"ScanBenchModel", "image", "(I)I"⟩, prog_14_method_159_code, 3, some .int, 0, 0)
def iX12_back : QI := (⟨"ScanBenchModel", "back", "(I)I"⟩, prog_14_method_160_code, 3, some .int, 0, 0)
def iX12_faultsNow : QI := (⟨"ScanBenchModel", "faultsNow", "()I"⟩, prog_14_method_161_code, 1, some .int, 0, 0)
def iX12_about : QI := (⟨"ScanBenchModel", "about", "(I)I"⟩, prog_14_method_162_code, 2, some .int, 0, 0)
def iJ6_bitCount_0f7a4 : QI := (⟨"java/lang/Integer", "bitCount", "(I)I"⟩, prog_15_method_49_code, 1, some .int, 0, 0)
def iJ13_bitCount_95d88 : QI := (⟨"java/lang/Long", "bitCount", "(J)I"⟩, prog_16_method_50_code, 2, some .int, 0, 0)
def iJ7_fill_53178 : QI := (⟨"java/util/Arrays", "fill", "([II)V"⟩, prog_22_method_103_code, 4, none, 0, 0)
def iT4 : QI := (⟨"java/lang/String", "length", "()I"⟩, prog_18_method_54_code, 1, some .int, 0, 0)
def iT5 : QI := (⟨"java/lang/String", "charAt", "(I)C"⟩, prog_18_method_56_code, 2, some .char, 0, 0)
def q_MI (y : Nat) : Option QI := (cond (Nat.blt y 200) (cond (Nat.blt y 104) (cond (Nat.blt y 56) (cond (Nat.blt y 32) (cond (Nat.blt y 20) (cond (Nat.blt y 14) (cond (Nat.blt y 11) (cond (Nat.blt y 5) (cond (Nat.beq y 4) (some iT4) none) (cond (Nat.blt y 10) (cond (Nat.beq y 5) (some iT5) none) (cond (Nat.beq y 10) (some iX0_init) none))) (cond (Nat.blt y 12) (cond (Nat.beq y 11) (some iX0_clear) none) (cond (Nat.blt y 13) (cond (Nat.beq y 12) (some iX0_hasDevice) none) (cond (Nat.beq y 13) (some iX0_hasNet) none)))) (cond (Nat.blt y 17) (cond (Nat.blt y 15) (cond (Nat.beq y 14) (some iX0_hasCell) none) (cond (Nat.blt y 16) (cond (Nat.beq y 15) (some iX0_hasReceiver) none) (cond (Nat.beq y 16) (some iX0_isReceiver) none))) (cond (Nat.blt y 18) (cond (Nat.beq y 17) (some iX0_keptSafe) none) (cond (Nat.blt y 19) (cond (Nat.beq y 18) (some iX0_unsafeAt) none) (cond (Nat.beq y 19) (some iX0_readsAt) none))))) (cond (Nat.blt y 26) (cond (Nat.blt y 23) (cond (Nat.blt y 21) (cond (Nat.beq y 20) (some iX0_receiversAt) none) (cond (Nat.blt y 22) (cond (Nat.beq y 21) (some iX0_floatingAt) none) (cond (Nat.beq y 22) (some iX0_singleCount) none))) (cond (Nat.blt y 24) (cond (Nat.beq y 23) (some iX0_firstOpen) none) (cond (Nat.blt y 25) (cond (Nat.beq y 24) (some iX0_firstShort) none) (cond (Nat.beq y 25) (some iX0_hasSingle) none)))) (cond (Nat.blt y 29) (cond (Nat.blt y 27) (cond (Nat.beq y 26) (some iX0_sortOf) none) (cond (Nat.blt y 28) (cond (Nat.beq y 27) (some iX0_isHigh) none) (cond (Nat.beq y 28) (some iX0_placeOfOpen) none))) (cond (Nat.blt y 30) (cond (Nat.beq y 29) (some iX0_pairOfShort) none) (cond (Nat.blt y 31) (cond (Nat.beq y 30) (some iX0_targetOf) none) (cond (Nat.beq y 31) (some iX0_firstOf) none)))))) (cond (Nat.blt y 44) (cond (Nat.blt y 38) (cond (Nat.blt y 35) (cond (Nat.blt y 33) (cond (Nat.beq y 32) (some iX0_secondOf) none) (cond (Nat.blt y 34) (cond (Nat.beq y 33) (some iX0_isThere) none) (cond (Nat.beq y 34) (some iX0_isBarred) none))) (cond (Nat.blt y 36) (cond (Nat.beq y 35) (some iX0_turnSingle) none) (cond (Nat.blt y 37) (cond (Nat.beq y 36) (some iX1_init) none) (cond (Nat.beq y 37) (some iX1_begin) none)))) (cond (Nat.blt y 41) (cond (Nat.blt y 39) (cond (Nat.beq y 38) (some iX1_restingOrder) none) (cond (Nat.blt y 40) (cond (Nat.beq y 39) (some iX1_hasCellsAsData) none) (cond (Nat.beq y 40) (some iX1_tellsWho) none))) (cond (Nat.blt y 42) (cond (Nat.beq y 41) (some iX1_dataBits) none) (cond (Nat.blt y 43) (cond (Nat.beq y 42) (some iX1_driversUp) none) (cond (Nat.beq y 43) (some iX1_driven) none))))) (cond (Nat.blt y 50) (cond (Nat.blt y 47) (cond (Nat.blt y 45) (cond (Nat.beq y 44) (some iX1_fighting) none) (cond (Nat.blt y 46) (cond (Nat.beq y 45) (some iX1_floating) none) (cond (Nat.beq y 46) (some iX1_reads) none))) (cond (Nat.blt y 48) (cond (Nat.beq y 47) (some iX1_tick) none) (cond (Nat.blt y 49) (cond (Nat.beq y 48) (some iX1_rest) none) (cond (Nat.beq y 49) (some iX1_setOrder) none)))) (cond (Nat.blt y 53) (cond (Nat.blt y 51) (cond (Nat.beq y 50) (some iX1_capture) none) (cond (Nat.blt y 52) (cond (Nat.beq y 51) (some iX1_captureOrders) none) (cond (Nat.beq y 52) (some iX1_shiftData) none))) (cond (Nat.blt y 54) (cond (Nat.beq y 53) (some iX1_shiftOrders) none) (cond (Nat.blt y 55) (cond (Nat.beq y 54) (some iX1_giveData) none) (cond (Nat.beq y 55) (some iX1_giveOrders) none))))))) (cond (Nat.blt y 80) (cond (Nat.blt y 68) (cond (Nat.blt y 62) (cond (Nat.blt y 59) (cond (Nat.blt y 57) (cond (Nat.beq y 56) (some iX1_sweep) none) (cond (Nat.blt y 58) (cond (Nat.beq y 57) (some iX1_save) none) (cond (Nat.beq y 58) (some iX1_load) none))) (cond (Nat.blt y 60) (cond (Nat.beq y 59) (some iX2_countSteps) none) (cond (Nat.blt y 61) (cond (Nat.beq y 60) (some iX2_stepCount) none) (cond (Nat.beq y 61) (some iX2_counted) none)))) (cond (Nat.blt y 65) (cond (Nat.blt y 63) (cond (Nat.beq y 62) (some iX2_pattern) none) (cond (Nat.blt y 64) (cond (Nat.beq y 63) (some iX2_stepsOf) none) (cond (Nat.beq y 64) (some iX3_init) none))) (cond (Nat.blt y 66) (cond (Nat.beq y 65) (some iX3_mendAll) none) (cond (Nat.blt y 67) (cond (Nat.beq y 66) (some iX3_takeOver) none) (cond (Nat.beq y 67) (some iX3_count) none))))) (cond (Nat.blt y 74) (cond (Nat.blt y 71) (cond (Nat.blt y 69) (cond (Nat.beq y 68) (some iX3_pairOf) none) (cond (Nat.blt y 70) (cond (Nat.beq y 69) (some iX3_netsOf) none) (cond (Nat.beq y 70) (some iX3_hanging) none))) (cond (Nat.blt y 72) (cond (Nat.beq y 71) (some iX3_pullsLow) none) (cond (Nat.blt y 73) (cond (Nat.beq y 72) (some iX3_drives) none) (cond (Nat.beq y 73) (some iX3_levels) none)))) (cond (Nat.blt y 77) (cond (Nat.blt y 75) (cond (Nat.beq y 74) (some iX3_save) none) (cond (Nat.blt y 76) (cond (Nat.beq y 75) (some iX3_load) none) (cond (Nat.beq y 76) (some iX4_init) none))) (cond (Nat.blt y 78) (cond (Nat.beq y 77) (some iX4_clear) none) (cond (Nat.blt y 79) (cond (Nat.beq y 78) (some iX4_put) none) (cond (Nat.beq y 79) (some iX4_value) none)))))) (cond (Nat.blt y 92) (cond (Nat.blt y 86) (cond (Nat.blt y 83) (cond (Nat.blt y 81) (cond (Nat.beq y 80) (some iX4_named) none) (cond (Nat.blt y 82) (cond (Nat.beq y 81) (some iX4_joined) none) (cond (Nat.beq y 82) (some iX5_init) none))) (cond (Nat.blt y 84) (cond (Nat.beq y 83) (some iX5_look) none) (cond (Nat.blt y 85) (cond (Nat.beq y 84) (some iX5_goodCount) none) (cond (Nat.beq y 85) (some iX5_answerAt) none)))) (cond (Nat.blt y 89) (cond (Nat.blt y 87) (cond (Nat.beq y 86) (some iX5_across) none) (cond (Nat.blt y 88) (cond (Nat.beq y 87) (some iX5_aliasedNets) none) (cond (Nat.beq y 88) (some iX5_isToldToSome) none))) (cond (Nat.blt y 90) (cond (Nat.beq y 89) (some iX5_isAnswerAmong) none) (cond (Nat.blt y 91) (cond (Nat.beq y 90) (some iX5_confoundedWith) none) (cond (Nat.beq y 91) (some iX5_shareAnswer) none))))) (cond (Nat.blt y 98) (cond (Nat.blt y 95) (cond (Nat.blt y 93) (cond (Nat.beq y 92) (some iX5_verdictOf) none) (cond (Nat.blt y 94) (cond (Nat.beq y 93) (some iX5_commonAnswer) none) (cond (Nat.beq y 94) (some iX5_worstNet) none))) (cond (Nat.blt y 96) (cond (Nat.beq y 95) (some iX5_bestMended) none) (cond (Nat.blt y 97) (cond (Nat.beq y 96) (some iX5_safestPattern) none) (cond (Nat.beq y 97) (some iX6_init) none)))) (cond (Nat.blt y 101) (cond (Nat.blt y 99) (cond (Nat.beq y 98) (some iX6_forget) none) (cond (Nat.blt y 100) (cond (Nat.beq y 99) (some iX6_prepare) none) (cond (Nat.beq y 100) (some iX6_tellPatterns) none))) (cond (Nat.blt y 102) (cond (Nat.beq y 101) (some iX6_columnOf) none) (cond (Nat.blt y 103) (cond (Nat.beq y 102) (some iX6_readsIn) none) (cond (Nat.beq y 103) (some iX6_parts) none)))))))) (cond (Nat.blt y 152) (cond (Nat.blt y 128) (cond (Nat.blt y 116) (cond (Nat.blt y 110) (cond (Nat.blt y 107) (cond (Nat.blt y 105) (cond (Nat.beq y 104) (some iX6_countFromNone) none) (cond (Nat.blt y 106) (cond (Nat.beq y 105) (some iX6_countFromAll) none) (cond (Nat.beq y 106) (some iX6_partsFromAll) none))) (cond (Nat.blt y 108) (cond (Nat.beq y 107) (some iX6_leastKind) none) (cond (Nat.blt y 109) (cond (Nat.beq y 108) (some iX7_init) none) (cond (Nat.beq y 109) (some iX7_forget) none)))) (cond (Nat.blt y 113) (cond (Nat.blt y 111) (cond (Nat.beq y 110) (some iX7_write) none) (cond (Nat.blt y 112) (cond (Nat.beq y 111) (some iX7_strike) none) (cond (Nat.beq y 112) (some iX7_countsAt) none))) (cond (Nat.blt y 114) (cond (Nat.beq y 113) (some iX7_fitting) none) (cond (Nat.blt y 115) (cond (Nat.beq y 114) (some iX7_fittingOne) none) (cond (Nat.beq y 115) (some iX7_fittingAt) none))))) (cond (Nat.blt y 122) (cond (Nat.blt y 119) (cond (Nat.blt y 117) (cond (Nat.beq y 116) (some iX7_bestStep) none) (cond (Nat.blt y 118) (cond (Nat.beq y 117) (some iX7_mostAlike) none) (cond (Nat.beq y 118) (some iX8_init) none))) (cond (Nat.blt y 120) (cond (Nat.beq y 119) (some iX8_rowAt) none) (cond (Nat.blt y 121) (cond (Nat.beq y 120) (some iX8_forget) none) (cond (Nat.beq y 121) (some iX8_keep) none)))) (cond (Nat.blt y 125) (cond (Nat.blt y 123) (cond (Nat.beq y 122) (some iX8_goBack) none) (cond (Nat.blt y 124) (cond (Nat.beq y 123) (some iX8_goOn) none) (cond (Nat.beq y 124) (some iX8_undoable) none))) (cond (Nat.blt y 126) (cond (Nat.beq y 125) (some iX8_redoable) none) (cond (Nat.blt y 127) (cond (Nat.beq y 126) (some iX8_emptyBoxes) none) (cond (Nat.beq y 127) (some iX8_putInBox) none)))))) (cond (Nat.blt y 140) (cond (Nat.blt y 134) (cond (Nat.blt y 131) (cond (Nat.blt y 129) (cond (Nat.beq y 128) (some iX8_takeFromBox) none) (cond (Nat.blt y 130) (cond (Nat.beq y 129) (some iX9_init) none) (cond (Nat.beq y 130) (some iX9_readBoard) none))) (cond (Nat.blt y 132) (cond (Nat.beq y 131) (some iX9_refuse) none) (cond (Nat.blt y 133) (cond (Nat.beq y 132) (some iX9_isSignByte) none) (cond (Nat.beq y 133) (some iX9_advance) none)))) (cond (Nat.blt y 137) (cond (Nat.blt y 135) (cond (Nat.beq y 134) (some iX9_takeWord) none) (cond (Nat.blt y 136) (cond (Nat.beq y 135) (some iX9_takeNumber) none) (cond (Nat.beq y 136) (some iX9_atKey) none))) (cond (Nat.blt y 138) (cond (Nat.beq y 137) (some iX9_atSign) none) (cond (Nat.blt y 139) (cond (Nat.beq y 138) (some iX9_takeKey) none) (cond (Nat.beq y 139) (some iX9_takeSign) none))))) (cond (Nat.blt y 146) (cond (Nat.blt y 143) (cond (Nat.blt y 141) (cond (Nat.beq y 140) (some iX9_atNumber) none) (cond (Nat.blt y 142) (cond (Nat.beq y 141) (some iX9_line) none) (cond (Nat.beq y 142) (some iX9_indexOf) none))) (cond (Nat.blt y 144) (cond (Nat.beq y 143) (some iX9_atNewName) none) (cond (Nat.blt y 145) (cond (Nat.beq y 144) (some iX9_atOldName) none) (cond (Nat.beq y 145) (some iX9_deviceLine) none)))) (cond (Nat.blt y 149) (cond (Nat.blt y 147) (cond (Nat.beq y 146) (some iX9_netLine) none) (cond (Nat.blt y 148) (cond (Nat.beq y 147) (some iX9_atCell) none) (cond (Nat.beq y 148) (some iX9_cellOfNet) none))) (cond (Nat.blt y 150) (cond (Nat.beq y 149) (some iX9_shortLine) none) (cond (Nat.blt y 151) (cond (Nat.beq y 150) (some iX9_openLine) none) (cond (Nat.beq y 151) (some iX9_stuckLine) none))))))) (cond (Nat.blt y 176) (cond (Nat.blt y 164) (cond (Nat.blt y 158) (cond (Nat.blt y 155) (cond (Nat.blt y 153) (cond (Nat.beq y 152) (some iX9_noiseLine) none) (cond (Nat.blt y 154) (cond (Nat.beq y 153) (some iX9_drawLine) none) (cond (Nat.beq y 154) (some iX9_floatsLine) none))) (cond (Nat.blt y 156) (cond (Nat.beq y 155) (some iX9_either) none) (cond (Nat.blt y 157) (cond (Nat.beq y 156) (some iX9_both) none) (cond (Nat.beq y 157) (some iX9_one) none)))) (cond (Nat.blt y 161) (cond (Nat.blt y 159) (cond (Nat.beq y 158) (some iX9_relation) none) (cond (Nat.blt y 160) (cond (Nat.beq y 159) (some iX9_sum) none) (cond (Nat.beq y 160) (some iX9_term) none))) (cond (Nat.blt y 162) (cond (Nat.beq y 161) (some iX9_unit) none) (cond (Nat.blt y 163) (cond (Nat.beq y 162) (some iX10_init) none) (cond (Nat.beq y 163) (some iX10_next) none))))) (cond (Nat.blt y 170) (cond (Nat.blt y 167) (cond (Nat.blt y 165) (cond (Nat.beq y 164) (some iX10_measure) none) (cond (Nat.blt y 166) (cond (Nat.beq y 165) (some iX10_lead) none) (cond (Nat.beq y 166) (some iX10_countWays) none))) (cond (Nat.blt y 168) (cond (Nat.beq y 167) (some iX10_waysThrough) none) (cond (Nat.blt y 169) (cond (Nat.beq y 168) (some iX10_farthestFrom) none) (cond (Nat.beq y 169) (some iX11_init) none)))) (cond (Nat.blt y 173) (cond (Nat.blt y 171) (cond (Nat.beq y 170) (some iX11_feed) none) (cond (Nat.blt y 172) (cond (Nat.beq y 171) (some iX11_putFour) none) (cond (Nat.beq y 172) (some iX11_end) none))) (cond (Nat.blt y 174) (cond (Nat.beq y 173) (some iX11_board) none) (cond (Nat.blt y 175) (cond (Nat.beq y 174) (some iX11_fault) none) (cond (Nat.beq y 175) (some iX11_device) none)))))) (cond (Nat.blt y 188) (cond (Nat.blt y 182) (cond (Nat.blt y 179) (cond (Nat.blt y 177) (cond (Nat.beq y 176) (some iX11_net) none) (cond (Nat.blt y 178) (cond (Nat.beq y 177) (some iX11_cell) none) (cond (Nat.beq y 178) (some iX11_placeOf) none))) (cond (Nat.blt y 180) (cond (Nat.beq y 179) (some iX11_clock) none) (cond (Nat.blt y 181) (cond (Nat.beq y 180) (some iX11_isBit) none) (cond (Nat.beq y 181) (some iX11_scan) none)))) (cond (Nat.blt y 185) (cond (Nat.blt y 183) (cond (Nat.beq y 182) (some iX11_harm) none) (cond (Nat.blt y 184) (cond (Nat.beq y 183) (some iX11_undo) none) (cond (Nat.beq y 184) (some iX11_redo) none))) (cond (Nat.blt y 186) (cond (Nat.beq y 185) (some iX11_goes) none) (cond (Nat.blt y 187) (cond (Nat.beq y 186) (some iX11_walk) none) (cond (Nat.beq y 187) (some iX11_isState) none))))) (cond (Nat.blt y 194) (cond (Nat.blt y 191) (cond (Nat.blt y 189) (cond (Nat.beq y 188) (some iX11_walks) none) (cond (Nat.blt y 190) (cond (Nat.beq y 189) (some iX11_farthest) none) (cond (Nat.beq y 190) (some iX11_length) none))) (cond (Nat.blt y 192) (cond (Nat.beq y 191) (some iX11_found) none) (cond (Nat.blt y 193) (cond (Nat.beq y 192) (some iX11_fights) none) (cond (Nat.beq y 193) (some iX11_unsafe) none)))) (cond (Nat.blt y 197) (cond (Nat.blt y 195) (cond (Nat.beq y 194) (some iX11_isKind) none) (cond (Nat.blt y 196) (cond (Nat.beq y 195) (some iX11_steps) none) (cond (Nat.beq y 196) (some iX11_tells) none))) (cond (Nat.blt y 198) (cond (Nat.beq y 197) (some iX11_judged) none) (cond (Nat.blt y 199) (cond (Nat.beq y 198) (some iX11_answer) none) (cond (Nat.beq y 199) (some iX11_good) none))))))))) (cond (Nat.blt y 296) (cond (Nat.blt y 248) (cond (Nat.blt y 224) (cond (Nat.blt y 212) (cond (Nat.blt y 206) (cond (Nat.blt y 203) (cond (Nat.blt y 201) (cond (Nat.beq y 200) (some iX11_aliased) none) (cond (Nat.blt y 202) (cond (Nat.beq y 201) (some iX11_confounded) none) (cond (Nat.beq y 202) (some iX11_verdict) none))) (cond (Nat.blt y 204) (cond (Nat.beq y 203) (some iX11_singles) none) (cond (Nat.blt y 205) (cond (Nat.beq y 204) (some iX11_single) none) (cond (Nat.beq y 205) (some iX11_apart) none)))) (cond (Nat.blt y 209) (cond (Nat.blt y 207) (cond (Nat.beq y 206) (some iX11_prepared) none) (cond (Nat.blt y 208) (cond (Nat.beq y 207) (some iX11_isSingleOrNone) none) (cond (Nat.beq y 208) (some iX11_told) none))) (cond (Nat.blt y 210) (cond (Nat.beq y 209) (some iX11_least) none) (cond (Nat.blt y 211) (cond (Nat.beq y 210) (some iX11_mendFirst) none) (cond (Nat.beq y 211) (some iX11_safest) none))))) (cond (Nat.blt y 218) (cond (Nat.blt y 215) (cond (Nat.blt y 213) (cond (Nat.beq y 212) (some iX11_cost) none) (cond (Nat.blt y 214) (cond (Nat.beq y 213) (some iX11_worst) none) (cond (Nat.beq y 214) (some iX11_law) none))) (cond (Nat.blt y 216) (cond (Nat.beq y 215) (some iX11_odds) none) (cond (Nat.blt y 217) (cond (Nat.beq y 216) (some iX11_commonDivisor) none) (cond (Nat.beq y 217) (some iX11_lies) none)))) (cond (Nat.blt y 221) (cond (Nat.blt y 219) (cond (Nat.beq y 218) (some iX11_seen) none) (cond (Nat.blt y 220) (cond (Nat.beq y 219) (some iX11_untell) none) (cond (Nat.beq y 220) (some iX11_later) none))) (cond (Nat.blt y 222) (cond (Nat.beq y 221) (some iX11_fits) none) (cond (Nat.blt y 223) (cond (Nat.beq y 222) (some iX11_culprit) none) (cond (Nat.beq y 223) (some iX11_ask) none)))))) (cond (Nat.blt y 236) (cond (Nat.blt y 230) (cond (Nat.blt y 227) (cond (Nat.blt y 225) (cond (Nat.beq y 224) (some iX11_image) none) (cond (Nat.blt y 226) (cond (Nat.beq y 225) (some iX11_back) none) (cond (Nat.beq y 226) (some iX11_about) none))) (cond (Nat.blt y 228) (cond (Nat.beq y 227) (some iX12_init) none) (cond (Nat.blt y 229) (cond (Nat.beq y 228) (some iX12_feed) none) (cond (Nat.beq y 229) (some iX12_four) none)))) (cond (Nat.blt y 233) (cond (Nat.blt y 231) (cond (Nat.beq y 230) (some iX12_end) none) (cond (Nat.blt y 232) (cond (Nat.beq y 231) (some iX12_here) none) (cond (Nat.beq y 232) (some iX12_isLetter) none))) (cond (Nat.blt y 234) (cond (Nat.beq y 233) (some iX12_isDigit) none) (cond (Nat.blt y 235) (cond (Nat.beq y 234) (some iX12_isSign) none) (cond (Nat.beq y 235) (some iX12_token) none))))) (cond (Nat.blt y 242) (cond (Nat.blt y 239) (cond (Nat.blt y 237) (cond (Nat.beq y 236) (some iX12_wrong) none) (cond (Nat.blt y 238) (cond (Nat.beq y 237) (some iX12_isWord) none) (cond (Nat.beq y 238) (some iX12_isOwn) none))) (cond (Nat.blt y 240) (cond (Nat.beq y 239) (some iX12_isName) none) (cond (Nat.blt y 241) (cond (Nat.beq y 240) (some iX12_want) none) (cond (Nat.beq y 241) (some iX12_numberHere) none)))) (cond (Nat.blt y 245) (cond (Nat.blt y 243) (cond (Nat.beq y 242) (some iX12_toldNumber) none) (cond (Nat.blt y 244) (cond (Nat.beq y 243) (some iX12_toldBy) none) (cond (Nat.beq y 244) (some iX12_find) none))) (cond (Nat.blt y 246) (cond (Nat.beq y 245) (some iX12_newName) none) (cond (Nat.blt y 247) (cond (Nat.beq y 246) (some iX12_oldName) none) (cond (Nat.beq y 247) (some iX12_add) none))))))) (cond (Nat.blt y 272) (cond (Nat.blt y 260) (cond (Nat.blt y 254) (cond (Nat.blt y 251) (cond (Nat.blt y 249) (cond (Nat.beq y 248) (some iX12_tight) none) (cond (Nat.blt y 250) (cond (Nat.beq y 249) (some iX12_close) none) (cond (Nat.beq y 250) (some iX12_hasRelation) none))) (cond (Nat.blt y 252) (cond (Nat.beq y 251) (some iX12_mayNot) none) (cond (Nat.blt y 253) (cond (Nat.beq y 252) (some iX12_asked) none) (cond (Nat.beq y 253) (some iX12_isFull) none)))) (cond (Nat.blt y 257) (cond (Nat.blt y 255) (cond (Nat.beq y 254) (some iX12_countUnit) none) (cond (Nat.blt y 256) (cond (Nat.beq y 255) (some iX12_openUp) none) (cond (Nat.beq y 256) (some iX12_unit) none))) (cond (Nat.blt y 258) (cond (Nat.beq y 257) (some iX12_sign) none) (cond (Nat.blt y 259) (cond (Nat.beq y 258) (some iX12_hasBracket) none) (cond (Nat.beq y 259) (some iX12_formula) none))))) (cond (Nat.blt y 266) (cond (Nat.blt y 263) (cond (Nat.blt y 261) (cond (Nat.beq y 260) (some iX12_truth) none) (cond (Nat.blt y 262) (cond (Nat.beq y 261) (some iX12_done) none) (cond (Nat.beq y 262) (some iX12_greater) none))) (cond (Nat.blt y 264) (cond (Nat.beq y 263) (some iX12_has) none) (cond (Nat.blt y 265) (cond (Nat.beq y 264) (some iX12_isIn) none) (cond (Nat.beq y 265) (some iX12_floatsAt) none)))) (cond (Nat.blt y 269) (cond (Nat.blt y 267) (cond (Nat.beq y 266) (some iX12_readDevice) none) (cond (Nat.blt y 268) (cond (Nat.beq y 267) (some iX12_readCell) none) (cond (Nat.beq y 268) (some iX12_readOwnCell) none))) (cond (Nat.blt y 270) (cond (Nat.beq y 269) (some iX12_readNet) none) (cond (Nat.blt y 271) (cond (Nat.beq y 270) (some iX12_readShort) none) (cond (Nat.beq y 271) (some iX12_readOpen) none)))))) (cond (Nat.blt y 284) (cond (Nat.blt y 278) (cond (Nat.blt y 275) (cond (Nat.blt y 273) (cond (Nat.beq y 272) (some iX12_readStuck) none) (cond (Nat.blt y 274) (cond (Nat.beq y 273) (some iX12_readLine) none) (cond (Nat.beq y 274) (some iX12_readAll) none))) (cond (Nat.blt y 276) (cond (Nat.beq y 275) (some iX12_board) none) (cond (Nat.blt y 277) (cond (Nat.beq y 276) (some iX12_fault) none) (cond (Nat.beq y 277) (some iX12_isDevice) none)))) (cond (Nat.blt y 281) (cond (Nat.blt y 279) (cond (Nat.beq y 278) (some iX12_isNet) none) (cond (Nat.blt y 280) (cond (Nat.beq y 279) (some iX12_isCell) none) (cond (Nat.beq y 280) (some iX12_layReceivers) none))) (cond (Nat.blt y 282) (cond (Nat.beq y 281) (some iX12_placeOf) none) (cond (Nat.blt y 283) (cond (Nat.beq y 282) (some iX12_restOrder) none) (cond (Nat.beq y 283) (some iX12_layTold) none))))) (cond (Nat.blt y 290) (cond (Nat.blt y 287) (cond (Nat.blt y 285) (cond (Nat.beq y 284) (some iX12_fill) none) (cond (Nat.blt y 286) (cond (Nat.beq y 285) (some iX12_keepAir) none) (cond (Nat.beq y 286) (some iX12_nextState) none))) (cond (Nat.blt y 288) (cond (Nat.beq y 287) (some iX12_layWalks) none) (cond (Nat.blt y 289) (cond (Nat.beq y 288) (some iX12_isState) none) (cond (Nat.beq y 289) (some iX12_stepTo) none)))) (cond (Nat.blt y 293) (cond (Nat.blt y 291) (cond (Nat.beq y 290) (some iX12_walk) none) (cond (Nat.blt y 292) (cond (Nat.beq y 291) (some iX12_walks) none) (cond (Nat.beq y 292) (some iX12_farthest) none))) (cond (Nat.blt y 294) (cond (Nat.beq y 293) (some iX12_goes) none) (cond (Nat.blt y 295) (cond (Nat.beq y 294) (some iX12_two) none) (cond (Nat.beq y 295) (some iX12_shortOf) none)))))))) (cond (Nat.blt y 344) (cond (Nat.blt y 320) (cond (Nat.blt y 308) (cond (Nat.blt y 302) (cond (Nat.blt y 299) (cond (Nat.blt y 297) (cond (Nat.beq y 296) (some iX12_togetherWith) none) (cond (Nat.blt y 298) (cond (Nat.beq y 297) (some iX12_isLow) none) (cond (Nat.beq y 298) (some iX12_layLevels) none))) (cond (Nat.blt y 300) (cond (Nat.beq y 299) (some iX12_driverHas) none) (cond (Nat.blt y 301) (cond (Nat.beq y 300) (some iX12_isDriverOf) none) (cond (Nat.beq y 301) (some iX12_layDriven) none)))) (cond (Nat.blt y 305) (cond (Nat.blt y 303) (cond (Nat.beq y 302) (some iX12_readsAt) none) (cond (Nat.blt y 304) (cond (Nat.beq y 303) (some iX12_isFighting) none) (cond (Nat.beq y 304) (some iX12_dataBits) none))) (cond (Nat.blt y 306) (cond (Nat.beq y 305) (some iX12_setOrder) none) (cond (Nat.blt y 307) (cond (Nat.beq y 306) (some iX12_captured) none) (cond (Nat.beq y 307) (some iX12_captures) none))))) (cond (Nat.blt y 314) (cond (Nat.blt y 311) (cond (Nat.blt y 309) (cond (Nat.beq y 308) (some iX12_shifts) none) (cond (Nat.blt y 310) (cond (Nat.beq y 309) (some iX12_goClock) none) (cond (Nat.beq y 310) (some iX12_walkTo) none))) (cond (Nat.blt y 312) (cond (Nat.beq y 311) (some iX12_act) none) (cond (Nat.blt y 313) (cond (Nat.beq y 312) (some iX12_exchangeAt) none) (cond (Nat.beq y 313) (some iX12_clock) none)))) (cond (Nat.blt y 317) (cond (Nat.blt y 315) (cond (Nat.beq y 314) (some iX12_scan) none) (cond (Nat.blt y 316) (cond (Nat.beq y 315) (some iX12_undo) none) (cond (Nat.beq y 316) (some iX12_redo) none))) (cond (Nat.blt y 318) (cond (Nat.beq y 317) (some iX12_device) none) (cond (Nat.blt y 319) (cond (Nat.beq y 318) (some iX12_manyOf) none) (cond (Nat.beq y 319) (some iX12_net) none)))))) (cond (Nat.blt y 332) (cond (Nat.blt y 326) (cond (Nat.blt y 323) (cond (Nat.blt y 321) (cond (Nat.beq y 320) (some iX12_cell) none) (cond (Nat.blt y 322) (cond (Nat.beq y 321) (some iX12_length) none) (cond (Nat.beq y 322) (some iX12_found) none))) (cond (Nat.blt y 324) (cond (Nat.beq y 323) (some iX12_fights) none) (cond (Nat.blt y 325) (cond (Nat.beq y 324) (some iX12_unsafe) none) (cond (Nat.beq y 325) (some iX12_countSteps) none)))) (cond (Nat.blt y 329) (cond (Nat.blt y 327) (cond (Nat.beq y 326) (some iX12_hasAllOnes) none) (cond (Nat.blt y 328) (cond (Nat.beq y 327) (some iX12_isKind) none) (cond (Nat.beq y 328) (some iX12_stepsOf) none))) (cond (Nat.blt y 330) (cond (Nat.beq y 329) (some iX12_steps) none) (cond (Nat.blt y 331) (cond (Nat.beq y 330) (some iX12_bitOf) none) (cond (Nat.beq y 331) (some iX12_wanted) none))))) (cond (Nat.blt y 338) (cond (Nat.blt y 335) (cond (Nat.blt y 333) (cond (Nat.beq y 332) (some iX12_tells) none) (cond (Nat.blt y 334) (cond (Nat.beq y 333) (some iX12_layAnswers) none) (cond (Nat.beq y 334) (some iX12_layNow) none))) (cond (Nat.blt y 336) (cond (Nat.beq y 335) (some iX12_netAt) none) (cond (Nat.blt y 337) (cond (Nat.beq y 336) (some iX12_isGood) none) (cond (Nat.beq y 337) (some iX12_isOpen) none)))) (cond (Nat.blt y 341) (cond (Nat.blt y 339) (cond (Nat.beq y 338) (some iX12_goodMany) none) (cond (Nat.blt y 340) (cond (Nat.beq y 339) (some iX12_answer) none) (cond (Nat.beq y 340) (some iX12_good) none))) (cond (Nat.blt y 342) (cond (Nat.beq y 341) (some iX12_aliased) none) (cond (Nat.blt y 343) (cond (Nat.beq y 342) (some iX12_confounded) none) (cond (Nat.beq y 343) (some iX12_verdict) none))))))) (cond (Nat.blt y 368) (cond (Nat.blt y 356) (cond (Nat.blt y 350) (cond (Nat.blt y 347) (cond (Nat.blt y 345) (cond (Nat.beq y 344) (some iX12_openFrom) none) (cond (Nat.blt y 346) (cond (Nat.beq y 345) (some iX12_shortFrom) none) (cond (Nat.beq y 346) (some iX12_singleMany) none))) (cond (Nat.blt y 348) (cond (Nat.beq y 347) (some iX12_singles) none) (cond (Nat.blt y 349) (cond (Nat.beq y 348) (some iX12_isSingle) none) (cond (Nat.beq y 349) (some iX12_pairOf) none)))) (cond (Nat.blt y 353) (cond (Nat.blt y 351) (cond (Nat.beq y 350) (some iX12_shortKind) none) (cond (Nat.blt y 352) (cond (Nat.beq y 351) (some iX12_receiverOf) none) (cond (Nat.beq y 352) (some iX12_isThere) none))) (cond (Nat.blt y 354) (cond (Nat.beq y 353) (some iX12_turn) none) (cond (Nat.blt y 355) (cond (Nat.beq y 354) (some iX12_isBarred) none) (cond (Nat.beq y 355) (some iX12_faultMany) none))))) (cond (Nat.blt y 362) (cond (Nat.blt y 359) (cond (Nat.blt y 357) (cond (Nat.beq y 356) (some iX12_harm) none) (cond (Nat.blt y 358) (cond (Nat.beq y 357) (some iX12_single) none) (cond (Nat.beq y 358) (some iX12_layWhole) none))) (cond (Nat.blt y 360) (cond (Nat.beq y 359) (some iX12_layTable) none) (cond (Nat.blt y 361) (cond (Nat.beq y 360) (some iX12_areApart) none) (cond (Nat.beq y 361) (some iX12_apart) none)))) (cond (Nat.blt y 365) (cond (Nat.blt y 363) (cond (Nat.beq y 362) (some iX12_told) none) (cond (Nat.blt y 364) (cond (Nat.beq y 363) (some iX12_least) none) (cond (Nat.beq y 364) (some iX12_mendFirst) none))) (cond (Nat.blt y 366) (cond (Nat.beq y 365) (some iX12_readBy) none) (cond (Nat.blt y 367) (cond (Nat.beq y 366) (some iX12_safest) none) (cond (Nat.beq y 367) (some iX12_cost) none)))))) (cond (Nat.blt y 380) (cond (Nat.blt y 374) (cond (Nat.blt y 371) (cond (Nat.blt y 369) (cond (Nat.beq y 368) (some iX12_worst) none) (cond (Nat.blt y 370) (cond (Nat.beq y 369) (some iX12_law) none) (cond (Nat.beq y 370) (some iX12_power) none))) (cond (Nat.blt y 372) (cond (Nat.beq y 371) (some iX12_divisor) none) (cond (Nat.blt y 373) (cond (Nat.beq y 372) (some iX12_odds) none) (cond (Nat.beq y 373) (some iX12_lies) none)))) (cond (Nat.blt y 377) (cond (Nat.blt y 375) (cond (Nat.beq y 374) (some iX12_seen) none) (cond (Nat.blt y 376) (cond (Nat.beq y 375) (some iX12_untell) none) (cond (Nat.beq y 376) (some iX12_later) none))) (cond (Nat.blt y 378) (cond (Nat.beq y 377) (some iX12_doesCount) none) (cond (Nat.blt y 379) (cond (Nat.beq y 378) (some iX12_layFits) none) (cond (Nat.beq y 379) (some iX12_fits) none))))) (cond (Nat.blt y 386) (cond (Nat.blt y 383) (cond (Nat.blt y 381) (cond (Nat.beq y 380) (some iX12_culprit) none) (cond (Nat.blt y 382) (cond (Nat.beq y 381) (some iX12_readAlike) none) (cond (Nat.beq y 382) (some iX12_leftBy) none))) (cond (Nat.blt y 384) (cond (Nat.beq y 383) (some iX12_ask) none) (cond (Nat.blt y 385) (cond (Nat.beq y 384) (some iX12_isBox) none) (cond (Nat.beq y 385) (some iX12_image) none)))) (cond (Nat.blt y 389) (cond (Nat.blt y 387) (cond (Nat.beq y 386) (some iX12_back) none) (cond (Nat.blt y 388) (cond (Nat.beq y 387) (some iX12_faultsNow) none) (cond (Nat.beq y 388) (some iX12_about) none))) (cond (Nat.blt y 390) (cond (Nat.beq y 389) (some iJ6_bitCount_0f7a4) none) (cond (Nat.blt y 391) (cond (Nat.beq y 390) (some iJ13_bitCount_95d88) none) (cond (Nat.beq y 391) (some iJ7_fill_53178) none))))))))))
def q_on (o : Nat) : String := (cond (Nat.blt o 8) (cond (Nat.blt o 4) (cond (Nat.blt o 2) (cond (Nat.blt o 1) (cond (Nat.beq o 0) "ScanBench" "") (cond (Nat.beq o 1) "ScanBench$Board" "")) (cond (Nat.blt o 3) (cond (Nat.beq o 2) "ScanBench$Chain" "") (cond (Nat.beq o 3) "ScanBench$Codes" ""))) (cond (Nat.blt o 6) (cond (Nat.blt o 5) (cond (Nat.beq o 4) "ScanBench$Faults" "") (cond (Nat.beq o 5) "ScanBench$Formula" "")) (cond (Nat.blt o 7) (cond (Nat.beq o 6) "ScanBench$Judge" "") (cond (Nat.beq o 7) "ScanBench$Lab" "")))) (cond (Nat.blt o 12) (cond (Nat.blt o 10) (cond (Nat.blt o 9) (cond (Nat.beq o 8) "ScanBench$Notes" "") (cond (Nat.beq o 9) "ScanBench$Past" "")) (cond (Nat.blt o 11) (cond (Nat.beq o 10) "ScanBench$Reader" "") (cond (Nat.beq o 11) "ScanBench$Ways" ""))) (cond (Nat.blt o 14) (cond (Nat.blt o 13) (cond (Nat.beq o 12) "ScanBenchLaw" "") (cond (Nat.beq o 13) "ScanBenchModel" "")) (cond (Nat.blt o 15) (cond (Nat.beq o 14) "java/lang/Integer" "") (cond (Nat.blt o 16) (cond (Nat.beq o 15) "java/lang/Long" "") (cond (Nat.beq o 16) "java/util/Arrays" ""))))))
set_option maxRecDepth 20000 in
theorem k_T4 : q_Mok iT4 := ⟨(tb_1 202 rfl rfl), (tb_1 6 rfl rfl), by decide, by decide⟩
set_option maxRecDepth 20000 in
theorem k_T5 : q_Mok iT5 := ⟨(tb_1 212 rfl rfl), (tb_1 6 rfl rfl), by decide, by decide⟩
set_option maxRecDepth 20000 in
theorem k_X0_init : q_Mok iX0_init := ⟨(tb_1 35 rfl rfl), (tb_1 2 rfl rfl), by decide, by decide⟩
set_option maxRecDepth 20000 in
theorem k_X0_clear : q_Mok iX0_clear := ⟨(tb_3 71 rfl rfl), (tb_1 2 rfl rfl), by decide, by decide⟩
set_option maxRecDepth 20000 in
theorem k_X0_hasDevice : q_Mok iX0_hasDevice := ⟨(tb_4 22 rfl rfl), (tb_1 2 rfl rfl), by decide, by decide⟩
set_option maxRecDepth 20000 in
theorem k_X0_hasNet : q_Mok iX0_hasNet := ⟨(tb_4 42 rfl rfl), (tb_1 2 rfl rfl), by decide, by decide⟩
set_option maxRecDepth 20000 in
theorem k_X0_hasCell : q_Mok iX0_hasCell := ⟨(tb_4 90 rfl rfl), (tb_1 2 rfl rfl), by decide, by decide⟩
set_option maxRecDepth 20000 in
theorem k_X0_hasReceiver : q_Mok iX0_hasReceiver := ⟨(tb_5 129 rfl rfl), (tb_1 2 rfl rfl), by decide, by decide⟩
set_option maxRecDepth 20000 in
theorem k_X0_isReceiver : q_Mok iX0_isReceiver := ⟨(tb_3 178 rfl rfl), (tb_1 2 rfl rfl), by decide, by decide⟩
set_option maxRecDepth 20000 in
theorem k_X0_keptSafe : q_Mok iX0_keptSafe := ⟨(tb_5 91 rfl rfl), (tb_1 2 rfl rfl), by decide, by decide⟩
set_option maxRecDepth 20000 in
theorem k_X0_unsafeAt : q_Mok iX0_unsafeAt := ⟨(tb_5 87 rfl rfl), (tb_1 2 rfl rfl), by decide, by decide⟩
set_option maxRecDepth 20000 in
theorem k_X0_readsAt : q_Mok iX0_readsAt := ⟨(tb_4 116 rfl rfl), (tb_1 2 rfl rfl), by decide, by decide⟩
set_option maxRecDepth 20000 in
theorem k_X0_receiversAt : q_Mok iX0_receiversAt := ⟨(tb_5 152 rfl rfl), (tb_1 2 rfl rfl), by decide, by decide⟩
set_option maxRecDepth 20000 in
theorem k_X0_floatingAt : q_Mok iX0_floatingAt := ⟨(tb_4 102 rfl rfl), (tb_1 2 rfl rfl), by decide, by decide⟩
set_option maxRecDepth 20000 in
theorem k_X0_singleCount : q_Mok iX0_singleCount := ⟨(tb_4 202 rfl rfl), (tb_1 2 rfl rfl), by decide, by decide⟩
set_option maxRecDepth 20000 in
theorem k_X0_firstOpen : q_Mok iX0_firstOpen := ⟨(tb_4 210 rfl rfl), (tb_1 2 rfl rfl), by decide, by decide⟩
set_option maxRecDepth 20000 in
theorem k_X0_firstShort : q_Mok iX0_firstShort := ⟨(tb_4 206 rfl rfl), (tb_1 2 rfl rfl), by decide, by decide⟩
set_option maxRecDepth 20000 in
theorem k_X0_hasSingle : q_Mok iX0_hasSingle := ⟨(tb_4 198 rfl rfl), (tb_1 2 rfl rfl), by decide, by decide⟩
set_option maxRecDepth 20000 in
theorem k_X0_sortOf : q_Mok iX0_sortOf := ⟨(tb_4 219 rfl rfl), (tb_1 2 rfl rfl), by decide, by decide⟩
set_option maxRecDepth 20000 in
theorem k_X0_isHigh : q_Mok iX0_isHigh := ⟨(tb_5 1 rfl rfl), (tb_1 2 rfl rfl), by decide, by decide⟩
set_option maxRecDepth 20000 in
theorem k_X0_placeOfOpen : q_Mok iX0_placeOfOpen := ⟨(tb_4 227 rfl rfl), (tb_1 2 rfl rfl), by decide, by decide⟩
set_option maxRecDepth 20000 in
theorem k_X0_pairOfShort : q_Mok iX0_pairOfShort := ⟨(tb_4 232 rfl rfl), (tb_1 2 rfl rfl), by decide, by decide⟩
set_option maxRecDepth 20000 in
theorem k_X0_targetOf : q_Mok iX0_targetOf := ⟨(tb_4 223 rfl rfl), (tb_1 2 rfl rfl), by decide, by decide⟩
set_option maxRecDepth 20000 in
theorem k_X0_firstOf : q_Mok iX0_firstOf := ⟨(tb_5 226 rfl rfl), (tb_1 2 rfl rfl), by decide, by decide⟩
set_option maxRecDepth 20000 in
theorem k_X0_secondOf : q_Mok iX0_secondOf := ⟨(tb_5 231 rfl rfl), (tb_1 2 rfl rfl), by decide, by decide⟩
set_option maxRecDepth 20000 in
theorem k_X0_isThere : q_Mok iX0_isThere := ⟨(tb_4 237 rfl rfl), (tb_1 2 rfl rfl), by decide, by decide⟩
set_option maxRecDepth 20000 in
theorem k_X0_isBarred : q_Mok iX0_isBarred := ⟨(tb_4 215 rfl rfl), (tb_1 2 rfl rfl), by decide, by decide⟩
set_option maxRecDepth 20000 in
theorem k_X0_turnSingle : q_Mok iX0_turnSingle := ⟨(tb_5 5 rfl rfl), (tb_1 2 rfl rfl), by decide, by decide⟩
set_option maxRecDepth 20000 in
theorem k_X1_init : q_Mok iX1_init := ⟨(tb_2 69 rfl rfl), (tb_1 11 rfl rfl), by decide, by decide⟩
set_option maxRecDepth 20000 in
theorem k_X1_begin : q_Mok iX1_begin := ⟨(tb_3 230 rfl rfl), (tb_1 11 rfl rfl), by decide, by decide⟩
set_option maxRecDepth 20000 in
theorem k_X1_restingOrder : q_Mok iX1_restingOrder := ⟨(tb_3 234 rfl rfl), (tb_1 11 rfl rfl), by decide, by decide⟩
set_option maxRecDepth 20000 in
theorem k_X1_hasCellsAsData : q_Mok iX1_hasCellsAsData := ⟨(tb_4 30 rfl rfl), (tb_1 11 rfl rfl), by decide, by decide⟩
set_option maxRecDepth 20000 in
theorem k_X1_tellsWho : q_Mok iX1_tellsWho := ⟨(tb_4 34 rfl rfl), (tb_1 11 rfl rfl), by decide, by decide⟩
set_option maxRecDepth 20000 in
theorem k_X1_dataBits : q_Mok iX1_dataBits := ⟨(tb_4 26 rfl rfl), (tb_1 11 rfl rfl), by decide, by decide⟩
set_option maxRecDepth 20000 in
theorem k_X1_driversUp : q_Mok iX1_driversUp := ⟨(tb_4 56 rfl rfl), (tb_1 11 rfl rfl), by decide, by decide⟩
set_option maxRecDepth 20000 in
theorem k_X1_driven : q_Mok iX1_driven := ⟨(tb_4 52 rfl rfl), (tb_1 11 rfl rfl), by decide, by decide⟩
set_option maxRecDepth 20000 in
theorem k_X1_fighting : q_Mok iX1_fighting := ⟨(tb_4 81 rfl rfl), (tb_1 11 rfl rfl), by decide, by decide⟩
set_option maxRecDepth 20000 in
theorem k_X1_floating : q_Mok iX1_floating := ⟨(tb_5 139 rfl rfl), (tb_1 11 rfl rfl), by decide, by decide⟩
set_option maxRecDepth 20000 in
theorem k_X1_reads : q_Mok iX1_reads := ⟨(tb_4 96 rfl rfl), (tb_1 11 rfl rfl), by decide, by decide⟩
set_option maxRecDepth 20000 in
theorem k_X1_tick : q_Mok iX1_tick := ⟨(tb_4 127 rfl rfl), (tb_1 11 rfl rfl), by decide, by decide⟩
set_option maxRecDepth 20000 in
theorem k_X1_rest : q_Mok iX1_rest := ⟨(tb_4 131 rfl rfl), (tb_1 11 rfl rfl), by decide, by decide⟩
set_option maxRecDepth 20000 in
theorem k_X1_setOrder : q_Mok iX1_setOrder := ⟨(tb_4 135 rfl rfl), (tb_1 11 rfl rfl), by decide, by decide⟩
set_option maxRecDepth 20000 in
theorem k_X1_capture : q_Mok iX1_capture := ⟨(tb_4 139 rfl rfl), (tb_1 11 rfl rfl), by decide, by decide⟩
set_option maxRecDepth 20000 in
theorem k_X1_captureOrders : q_Mok iX1_captureOrders := ⟨(tb_4 153 rfl rfl), (tb_1 11 rfl rfl), by decide, by decide⟩
set_option maxRecDepth 20000 in
theorem k_X1_shiftData : q_Mok iX1_shiftData := ⟨(tb_4 145 rfl rfl), (tb_1 11 rfl rfl), by decide, by decide⟩
set_option maxRecDepth 20000 in
theorem k_X1_shiftOrders : q_Mok iX1_shiftOrders := ⟨(tb_4 157 rfl rfl), (tb_1 11 rfl rfl), by decide, by decide⟩
set_option maxRecDepth 20000 in
theorem k_X1_giveData : q_Mok iX1_giveData := ⟨(tb_4 149 rfl rfl), (tb_1 11 rfl rfl), by decide, by decide⟩
set_option maxRecDepth 20000 in
theorem k_X1_giveOrders : q_Mok iX1_giveOrders := ⟨(tb_4 161 rfl rfl), (tb_1 11 rfl rfl), by decide, by decide⟩
set_option maxRecDepth 20000 in
theorem k_X1_sweep : q_Mok iX1_sweep := ⟨(tb_4 178 rfl rfl), (tb_1 11 rfl rfl), by decide, by decide⟩
set_option maxRecDepth 20000 in
theorem k_X1_save : q_Mok iX1_save := ⟨(tb_2 228 rfl rfl), (tb_1 11 rfl rfl), by decide, by decide⟩
set_option maxRecDepth 20000 in
theorem k_X1_load : q_Mok iX1_load := ⟨(tb_5 22 rfl rfl), (tb_1 11 rfl rfl), by decide, by decide⟩
set_option maxRecDepth 20000 in
theorem k_X2_countSteps : q_Mok iX2_countSteps := ⟨(tb_5 104 rfl rfl), (tb_1 21 rfl rfl), by decide, by decide⟩
set_option maxRecDepth 20000 in
theorem k_X2_stepCount : q_Mok iX2_stepCount := ⟨(tb_5 101 rfl rfl), (tb_1 21 rfl rfl), by decide, by decide⟩
set_option maxRecDepth 20000 in
theorem k_X2_counted : q_Mok iX2_counted := ⟨(tb_5 120 rfl rfl), (tb_1 21 rfl rfl), by decide, by decide⟩
set_option maxRecDepth 20000 in
theorem k_X2_pattern : q_Mok iX2_pattern := ⟨(tb_5 117 rfl rfl), (tb_1 21 rfl rfl), by decide, by decide⟩
set_option maxRecDepth 20000 in
theorem k_X2_stepsOf : q_Mok iX2_stepsOf := ⟨(tb_5 113 rfl rfl), (tb_1 21 rfl rfl), by decide, by decide⟩
set_option maxRecDepth 20000 in
theorem k_X3_init : q_Mok iX3_init := ⟨(tb_1 41 rfl rfl), (tb_1 3 rfl rfl), by decide, by decide⟩
set_option maxRecDepth 20000 in
theorem k_X3_mendAll : q_Mok iX3_mendAll := ⟨(tb_3 78 rfl rfl), (tb_1 3 rfl rfl), by decide, by decide⟩
set_option maxRecDepth 20000 in
theorem k_X3_takeOver : q_Mok iX3_takeOver := ⟨(tb_3 238 rfl rfl), (tb_1 3 rfl rfl), by decide, by decide⟩
set_option maxRecDepth 20000 in
theorem k_X3_count : q_Mok iX3_count := ⟨(tb_5 9 rfl rfl), (tb_1 3 rfl rfl), by decide, by decide⟩
set_option maxRecDepth 20000 in
theorem k_X3_pairOf : q_Mok iX3_pairOf := ⟨(tb_3 162 rfl rfl), (tb_1 3 rfl rfl), by decide, by decide⟩
set_option maxRecDepth 20000 in
theorem k_X3_netsOf : q_Mok iX3_netsOf := ⟨(tb_4 73 rfl rfl), (tb_1 3 rfl rfl), by decide, by decide⟩
set_option maxRecDepth 20000 in
theorem k_X3_hanging : q_Mok iX3_hanging := ⟨(tb_4 70 rfl rfl), (tb_1 3 rfl rfl), by decide, by decide⟩
set_option maxRecDepth 20000 in
theorem k_X3_pullsLow : q_Mok iX3_pullsLow := ⟨(tb_4 77 rfl rfl), (tb_1 3 rfl rfl), by decide, by decide⟩
set_option maxRecDepth 20000 in
theorem k_X3_drives : q_Mok iX3_drives := ⟨(tb_4 61 rfl rfl), (tb_1 3 rfl rfl), by decide, by decide⟩
set_option maxRecDepth 20000 in
theorem k_X3_levels : q_Mok iX3_levels := ⟨(tb_4 65 rfl rfl), (tb_1 3 rfl rfl), by decide, by decide⟩
set_option maxRecDepth 20000 in
theorem k_X3_save : q_Mok iX3_save := ⟨(tb_2 235 rfl rfl), (tb_1 3 rfl rfl), by decide, by decide⟩
set_option maxRecDepth 20000 in
theorem k_X3_load : q_Mok iX3_load := ⟨(tb_5 26 rfl rfl), (tb_1 3 rfl rfl), by decide, by decide⟩
set_option maxRecDepth 20000 in
theorem k_X4_init : q_Mok iX4_init := ⟨(tb_1 82 rfl rfl), (tb_1 4 rfl rfl), by decide, by decide⟩
set_option maxRecDepth 20000 in
theorem k_X4_clear : q_Mok iX4_clear := ⟨(tb_3 82 rfl rfl), (tb_1 4 rfl rfl), by decide, by decide⟩
set_option maxRecDepth 20000 in
theorem k_X4_put : q_Mok iX4_put := ⟨(tb_3 218 rfl rfl), (tb_1 4 rfl rfl), by decide, by decide⟩
set_option maxRecDepth 20000 in
theorem k_X4_value : q_Mok iX4_value := ⟨(tb_4 106 rfl rfl), (tb_1 4 rfl rfl), by decide, by decide⟩
set_option maxRecDepth 20000 in
theorem k_X4_named : q_Mok iX4_named := ⟨(tb_4 109 rfl rfl), (tb_1 4 rfl rfl), by decide, by decide⟩
set_option maxRecDepth 20000 in
theorem k_X4_joined : q_Mok iX4_joined := ⟨(tb_4 112 rfl rfl), (tb_1 4 rfl rfl), by decide, by decide⟩
set_option maxRecDepth 20000 in
theorem k_X5_init : q_Mok iX5_init := ⟨(tb_2 139 rfl rfl), (tb_1 13 rfl rfl), by decide, by decide⟩
set_option maxRecDepth 20000 in
theorem k_X5_look : q_Mok iX5_look := ⟨(tb_5 143 rfl rfl), (tb_1 13 rfl rfl), by decide, by decide⟩
set_option maxRecDepth 20000 in
theorem k_X5_goodCount : q_Mok iX5_goodCount := ⟨(tb_5 169 rfl rfl), (tb_1 13 rfl rfl), by decide, by decide⟩
set_option maxRecDepth 20000 in
theorem k_X5_answerAt : q_Mok iX5_answerAt := ⟨(tb_5 157 rfl rfl), (tb_1 13 rfl rfl), by decide, by decide⟩
set_option maxRecDepth 20000 in
theorem k_X5_across : q_Mok iX5_across := ⟨(tb_5 161 rfl rfl), (tb_1 13 rfl rfl), by decide, by decide⟩
set_option maxRecDepth 20000 in
theorem k_X5_aliasedNets : q_Mok iX5_aliasedNets := ⟨(tb_5 178 rfl rfl), (tb_1 13 rfl rfl), by decide, by decide⟩
set_option maxRecDepth 20000 in
theorem k_X5_isToldToSome : q_Mok iX5_isToldToSome := ⟨(tb_5 183 rfl rfl), (tb_1 13 rfl rfl), by decide, by decide⟩
set_option maxRecDepth 20000 in
theorem k_X5_isAnswerAmong : q_Mok iX5_isAnswerAmong := ⟨(tb_5 200 rfl rfl), (tb_1 13 rfl rfl), by decide, by decide⟩
set_option maxRecDepth 20000 in
theorem k_X5_confoundedWith : q_Mok iX5_confoundedWith := ⟨(tb_5 191 rfl rfl), (tb_1 13 rfl rfl), by decide, by decide⟩
set_option maxRecDepth 20000 in
theorem k_X5_shareAnswer : q_Mok iX5_shareAnswer := ⟨(tb_5 196 rfl rfl), (tb_1 13 rfl rfl), by decide, by decide⟩
set_option maxRecDepth 20000 in
theorem k_X5_verdictOf : q_Mok iX5_verdictOf := ⟨(tb_5 208 rfl rfl), (tb_1 13 rfl rfl), by decide, by decide⟩
set_option maxRecDepth 20000 in
theorem k_X5_commonAnswer : q_Mok iX5_commonAnswer := ⟨(tb_5 212 rfl rfl), (tb_1 13 rfl rfl), by decide, by decide⟩
set_option maxRecDepth 20000 in
theorem k_X5_worstNet : q_Mok iX5_worstNet := ⟨(tb_6 94 rfl rfl), (tb_1 13 rfl rfl), by decide, by decide⟩
set_option maxRecDepth 20000 in
theorem k_X5_bestMended : q_Mok iX5_bestMended := ⟨(tb_6 67 rfl rfl), (tb_1 13 rfl rfl), by decide, by decide⟩
set_option maxRecDepth 20000 in
theorem k_X5_safestPattern : q_Mok iX5_safestPattern := ⟨(tb_6 81 rfl rfl), (tb_1 13 rfl rfl), by decide, by decide⟩
set_option maxRecDepth 20000 in
theorem k_X6_init : q_Mok iX6_init := ⟨(tb_2 167 rfl rfl), (tb_1 14 rfl rfl), by decide, by decide⟩
set_option maxRecDepth 20000 in
theorem k_X6_forget : q_Mok iX6_forget := ⟨(tb_4 10 rfl rfl), (tb_1 14 rfl rfl), by decide, by decide⟩
set_option maxRecDepth 20000 in
theorem k_X6_prepare : q_Mok iX6_prepare := ⟨(tb_6 8 rfl rfl), (tb_1 14 rfl rfl), by decide, by decide⟩
set_option maxRecDepth 20000 in
theorem k_X6_tellPatterns : q_Mok iX6_tellPatterns := ⟨(tb_6 15 rfl rfl), (tb_1 14 rfl rfl), by decide, by decide⟩
set_option maxRecDepth 20000 in
theorem k_X6_columnOf : q_Mok iX6_columnOf := ⟨(tb_6 29 rfl rfl), (tb_1 14 rfl rfl), by decide, by decide⟩
set_option maxRecDepth 20000 in
theorem k_X6_readsIn : q_Mok iX6_readsIn := ⟨(tb_6 33 rfl rfl), (tb_1 14 rfl rfl), by decide, by decide⟩
set_option maxRecDepth 20000 in
theorem k_X6_parts : q_Mok iX6_parts := ⟨(tb_6 25 rfl rfl), (tb_1 14 rfl rfl), by decide, by decide⟩
set_option maxRecDepth 20000 in
theorem k_X6_countFromNone : q_Mok iX6_countFromNone := ⟨(tb_6 41 rfl rfl), (tb_1 14 rfl rfl), by decide, by decide⟩
set_option maxRecDepth 20000 in
theorem k_X6_countFromAll : q_Mok iX6_countFromAll := ⟨(tb_6 46 rfl rfl), (tb_1 14 rfl rfl), by decide, by decide⟩
set_option maxRecDepth 20000 in
theorem k_X6_partsFromAll : q_Mok iX6_partsFromAll := ⟨(tb_6 50 rfl rfl), (tb_1 14 rfl rfl), by decide, by decide⟩
set_option maxRecDepth 20000 in
theorem k_X6_leastKind : q_Mok iX6_leastKind := ⟨(tb_6 58 rfl rfl), (tb_1 14 rfl rfl), by decide, by decide⟩
set_option maxRecDepth 20000 in
theorem k_X7_init : q_Mok iX7_init := ⟨(tb_2 188 rfl rfl), (tb_1 15 rfl rfl), by decide, by decide⟩
set_option maxRecDepth 20000 in
theorem k_X7_forget : q_Mok iX7_forget := ⟨(tb_4 6 rfl rfl), (tb_1 15 rfl rfl), by decide, by decide⟩
set_option maxRecDepth 20000 in
theorem k_X7_write : q_Mok iX7_write := ⟨(tb_6 118 rfl rfl), (tb_1 15 rfl rfl), by decide, by decide⟩
set_option maxRecDepth 20000 in
theorem k_X7_strike : q_Mok iX7_strike := ⟨(tb_6 126 rfl rfl), (tb_1 15 rfl rfl), by decide, by decide⟩
set_option maxRecDepth 20000 in
theorem k_X7_countsAt : q_Mok iX7_countsAt := ⟨(tb_6 144 rfl rfl), (tb_1 15 rfl rfl), by decide, by decide⟩
set_option maxRecDepth 20000 in
theorem k_X7_fitting : q_Mok iX7_fitting := ⟨(tb_6 139 rfl rfl), (tb_1 15 rfl rfl), by decide, by decide⟩
set_option maxRecDepth 20000 in
theorem k_X7_fittingOne : q_Mok iX7_fittingOne := ⟨(tb_6 148 rfl rfl), (tb_1 15 rfl rfl), by decide, by decide⟩
set_option maxRecDepth 20000 in
theorem k_X7_fittingAt : q_Mok iX7_fittingAt := ⟨(tb_6 164 rfl rfl), (tb_1 15 rfl rfl), by decide, by decide⟩
set_option maxRecDepth 20000 in
theorem k_X7_bestStep : q_Mok iX7_bestStep := ⟨(tb_6 173 rfl rfl), (tb_1 15 rfl rfl), by decide, by decide⟩
set_option maxRecDepth 20000 in
theorem k_X7_mostAlike : q_Mok iX7_mostAlike := ⟨(tb_6 177 rfl rfl), (tb_1 15 rfl rfl), by decide, by decide⟩
set_option maxRecDepth 20000 in
theorem k_X8_init : q_Mok iX8_init := ⟨(tb_2 113 rfl rfl), (tb_1 12 rfl rfl), by decide, by decide⟩
set_option maxRecDepth 20000 in
theorem k_X8_rowAt : q_Mok iX8_rowAt := ⟨(tb_2 224 rfl rfl), (tb_1 12 rfl rfl), by decide, by decide⟩
set_option maxRecDepth 20000 in
theorem k_X8_forget : q_Mok iX8_forget := ⟨(tb_2 220 rfl rfl), (tb_1 12 rfl rfl), by decide, by decide⟩
set_option maxRecDepth 20000 in
theorem k_X8_keep : q_Mok iX8_keep := ⟨(tb_4 170 rfl rfl), (tb_1 12 rfl rfl), by decide, by decide⟩
set_option maxRecDepth 20000 in
theorem k_X8_goBack : q_Mok iX8_goBack := ⟨(tb_5 18 rfl rfl), (tb_1 12 rfl rfl), by decide, by decide⟩
set_option maxRecDepth 20000 in
theorem k_X8_goOn : q_Mok iX8_goOn := ⟨(tb_5 34 rfl rfl), (tb_1 12 rfl rfl), by decide, by decide⟩
set_option maxRecDepth 20000 in
theorem k_X8_undoable : q_Mok iX8_undoable := ⟨(tb_6 202 rfl rfl), (tb_1 12 rfl rfl), by decide, by decide⟩
set_option maxRecDepth 20000 in
theorem k_X8_redoable : q_Mok iX8_redoable := ⟨(tb_6 206 rfl rfl), (tb_1 12 rfl rfl), by decide, by decide⟩
set_option maxRecDepth 20000 in
theorem k_X8_emptyBoxes : q_Mok iX8_emptyBoxes := ⟨(tb_4 2 rfl rfl), (tb_1 12 rfl rfl), by decide, by decide⟩
set_option maxRecDepth 20000 in
theorem k_X8_putInBox : q_Mok iX8_putInBox := ⟨(tb_6 186 rfl rfl), (tb_1 12 rfl rfl), by decide, by decide⟩
set_option maxRecDepth 20000 in
theorem k_X8_takeFromBox : q_Mok iX8_takeFromBox := ⟨(tb_6 194 rfl rfl), (tb_1 12 rfl rfl), by decide, by decide⟩
set_option maxRecDepth 20000 in
theorem k_X9_init : q_Mok iX9_init := ⟨(tb_1 196 rfl rfl), (tb_1 5 rfl rfl), by decide, by decide⟩
set_option maxRecDepth 20000 in
theorem k_X9_readBoard : q_Mok iX9_readBoard := ⟨(tb_3 64 rfl rfl), (tb_1 5 rfl rfl), by decide, by decide⟩
set_option maxRecDepth 20000 in
theorem k_X9_refuse : q_Mok iX9_refuse := ⟨(tb_3 105 rfl rfl), (tb_1 5 rfl rfl), by decide, by decide⟩
set_option maxRecDepth 20000 in
theorem k_X9_isSignByte : q_Mok iX9_isSignByte := ⟨(tb_3 97 rfl rfl), (tb_1 5 rfl rfl), by decide, by decide⟩
set_option maxRecDepth 20000 in
theorem k_X9_advance : q_Mok iX9_advance := ⟨(tb_3 86 rfl rfl), (tb_1 5 rfl rfl), by decide, by decide⟩
set_option maxRecDepth 20000 in
theorem k_X9_takeWord : q_Mok iX9_takeWord := ⟨(tb_3 90 rfl rfl), (tb_1 5 rfl rfl), by decide, by decide⟩
set_option maxRecDepth 20000 in
theorem k_X9_takeNumber : q_Mok iX9_takeNumber := ⟨(tb_3 94 rfl rfl), (tb_1 5 rfl rfl), by decide, by decide⟩
set_option maxRecDepth 20000 in
theorem k_X9_atKey : q_Mok iX9_atKey := ⟨(tb_3 124 rfl rfl), (tb_1 5 rfl rfl), by decide, by decide⟩
set_option maxRecDepth 20000 in
theorem k_X9_atSign : q_Mok iX9_atSign := ⟨(tb_3 136 rfl rfl), (tb_1 5 rfl rfl), by decide, by decide⟩
set_option maxRecDepth 20000 in
theorem k_X9_takeKey : q_Mok iX9_takeKey := ⟨(tb_3 120 rfl rfl), (tb_1 5 rfl rfl), by decide, by decide⟩
set_option maxRecDepth 20000 in
theorem k_X9_takeSign : q_Mok iX9_takeSign := ⟨(tb_3 132 rfl rfl), (tb_1 5 rfl rfl), by decide, by decide⟩
set_option maxRecDepth 20000 in
theorem k_X9_atNumber : q_Mok iX9_atNumber := ⟨(tb_3 128 rfl rfl), (tb_1 5 rfl rfl), by decide, by decide⟩
set_option maxRecDepth 20000 in
theorem k_X9_line : q_Mok iX9_line := ⟨(tb_3 101 rfl rfl), (tb_1 5 rfl rfl), by decide, by decide⟩
set_option maxRecDepth 20000 in
theorem k_X9_indexOf : q_Mok iX9_indexOf := ⟨(tb_3 116 rfl rfl), (tb_1 5 rfl rfl), by decide, by decide⟩
set_option maxRecDepth 20000 in
theorem k_X9_atNewName : q_Mok iX9_atNewName := ⟨(tb_3 113 rfl rfl), (tb_1 5 rfl rfl), by decide, by decide⟩
set_option maxRecDepth 20000 in
theorem k_X9_atOldName : q_Mok iX9_atOldName := ⟨(tb_3 152 rfl rfl), (tb_1 5 rfl rfl), by decide, by decide⟩
set_option maxRecDepth 20000 in
theorem k_X9_deviceLine : q_Mok iX9_deviceLine := ⟨(tb_3 109 rfl rfl), (tb_1 5 rfl rfl), by decide, by decide⟩
set_option maxRecDepth 20000 in
theorem k_X9_netLine : q_Mok iX9_netLine := ⟨(tb_3 140 rfl rfl), (tb_1 5 rfl rfl), by decide, by decide⟩
set_option maxRecDepth 20000 in
theorem k_X9_atCell : q_Mok iX9_atCell := ⟨(tb_3 148 rfl rfl), (tb_1 5 rfl rfl), by decide, by decide⟩
set_option maxRecDepth 20000 in
theorem k_X9_cellOfNet : q_Mok iX9_cellOfNet := ⟨(tb_3 144 rfl rfl), (tb_1 5 rfl rfl), by decide, by decide⟩
set_option maxRecDepth 20000 in
theorem k_X9_shortLine : q_Mok iX9_shortLine := ⟨(tb_3 159 rfl rfl), (tb_1 5 rfl rfl), by decide, by decide⟩
set_option maxRecDepth 20000 in
theorem k_X9_openLine : q_Mok iX9_openLine := ⟨(tb_3 174 rfl rfl), (tb_1 5 rfl rfl), by decide, by decide⟩
set_option maxRecDepth 20000 in
theorem k_X9_stuckLine : q_Mok iX9_stuckLine := ⟨(tb_3 182 rfl rfl), (tb_1 5 rfl rfl), by decide, by decide⟩
set_option maxRecDepth 20000 in
theorem k_X9_noiseLine : q_Mok iX9_noiseLine := ⟨(tb_3 222 rfl rfl), (tb_1 5 rfl rfl), by decide, by decide⟩
set_option maxRecDepth 20000 in
theorem k_X9_drawLine : q_Mok iX9_drawLine := ⟨(tb_3 226 rfl rfl), (tb_1 5 rfl rfl), by decide, by decide⟩
set_option maxRecDepth 20000 in
theorem k_X9_floatsLine : q_Mok iX9_floatsLine := ⟨(tb_3 186 rfl rfl), (tb_1 5 rfl rfl), by decide, by decide⟩
set_option maxRecDepth 20000 in
theorem k_X9_either : q_Mok iX9_either := ⟨(tb_3 190 rfl rfl), (tb_1 5 rfl rfl), by decide, by decide⟩
set_option maxRecDepth 20000 in
theorem k_X9_both : q_Mok iX9_both := ⟨(tb_3 194 rfl rfl), (tb_1 5 rfl rfl), by decide, by decide⟩
set_option maxRecDepth 20000 in
theorem k_X9_one : q_Mok iX9_one := ⟨(tb_3 198 rfl rfl), (tb_1 5 rfl rfl), by decide, by decide⟩
set_option maxRecDepth 20000 in
theorem k_X9_relation : q_Mok iX9_relation := ⟨(tb_3 202 rfl rfl), (tb_1 5 rfl rfl), by decide, by decide⟩
set_option maxRecDepth 20000 in
theorem k_X9_sum : q_Mok iX9_sum := ⟨(tb_3 206 rfl rfl), (tb_1 5 rfl rfl), by decide, by decide⟩
set_option maxRecDepth 20000 in
theorem k_X9_term : q_Mok iX9_term := ⟨(tb_3 210 rfl rfl), (tb_1 5 rfl rfl), by decide, by decide⟩
set_option maxRecDepth 20000 in
theorem k_X9_unit : q_Mok iX9_unit := ⟨(tb_3 214 rfl rfl), (tb_1 5 rfl rfl), by decide, by decide⟩
set_option maxRecDepth 20000 in
theorem k_X10_init : q_Mok iX10_init := ⟨(tb_2 56 rfl rfl), (tb_1 10 rfl rfl), by decide, by decide⟩
set_option maxRecDepth 20000 in
theorem k_X10_next : q_Mok iX10_next := ⟨(tb_4 164 rfl rfl), (tb_1 10 rfl rfl), by decide, by decide⟩
set_option maxRecDepth 20000 in
theorem k_X10_measure : q_Mok iX10_measure := ⟨(tb_4 186 rfl rfl), (tb_1 10 rfl rfl), by decide, by decide⟩
set_option maxRecDepth 20000 in
theorem k_X10_lead : q_Mok iX10_lead := ⟨(tb_4 182 rfl rfl), (tb_1 10 rfl rfl), by decide, by decide⟩
set_option maxRecDepth 20000 in
theorem k_X10_countWays : q_Mok iX10_countWays := ⟨(tb_5 55 rfl rfl), (tb_1 10 rfl rfl), by decide, by decide⟩
set_option maxRecDepth 20000 in
theorem k_X10_waysThrough : q_Mok iX10_waysThrough := ⟨(tb_5 59 rfl rfl), (tb_1 10 rfl rfl), by decide, by decide⟩
set_option maxRecDepth 20000 in
theorem k_X10_farthestFrom : q_Mok iX10_farthestFrom := ⟨(tb_5 67 rfl rfl), (tb_1 10 rfl rfl), by decide, by decide⟩
set_option maxRecDepth 20000 in
theorem k_X11_init : q_Mok iX11_init := ⟨(tb_1 27 rfl rfl), (tb_1 1 rfl rfl), by decide, by decide⟩
set_option maxRecDepth 20000 in
theorem k_X11_feed : q_Mok iX11_feed := ⟨(tb_3 48 rfl rfl), (tb_1 1 rfl rfl), by decide, by decide⟩
set_option maxRecDepth 20000 in
theorem k_X11_putFour : q_Mok iX11_putFour := ⟨(tb_3 52 rfl rfl), (tb_1 1 rfl rfl), by decide, by decide⟩
set_option maxRecDepth 20000 in
theorem k_X11_end : q_Mok iX11_end := ⟨(tb_3 56 rfl rfl), (tb_1 1 rfl rfl), by decide, by decide⟩
set_option maxRecDepth 20000 in
theorem k_X11_board : q_Mok iX11_board := ⟨(tb_3 60 rfl rfl), (tb_1 1 rfl rfl), by decide, by decide⟩
set_option maxRecDepth 20000 in
theorem k_X11_fault : q_Mok iX11_fault := ⟨(tb_4 14 rfl rfl), (tb_1 1 rfl rfl), by decide, by decide⟩
set_option maxRecDepth 20000 in
theorem k_X11_device : q_Mok iX11_device := ⟨(tb_4 18 rfl rfl), (tb_1 1 rfl rfl), by decide, by decide⟩
set_option maxRecDepth 20000 in
theorem k_X11_net : q_Mok iX11_net := ⟨(tb_4 38 rfl rfl), (tb_1 1 rfl rfl), by decide, by decide⟩
set_option maxRecDepth 20000 in
theorem k_X11_cell : q_Mok iX11_cell := ⟨(tb_4 86 rfl rfl), (tb_1 1 rfl rfl), by decide, by decide⟩
set_option maxRecDepth 20000 in
theorem k_X11_placeOf : q_Mok iX11_placeOf := ⟨(tb_3 155 rfl rfl), (tb_1 1 rfl rfl), by decide, by decide⟩
set_option maxRecDepth 20000 in
theorem k_X11_clock : q_Mok iX11_clock := ⟨(tb_4 120 rfl rfl), (tb_1 1 rfl rfl), by decide, by decide⟩
set_option maxRecDepth 20000 in
theorem k_X11_isBit : q_Mok iX11_isBit := ⟨(tb_4 123 rfl rfl), (tb_1 1 rfl rfl), by decide, by decide⟩
set_option maxRecDepth 20000 in
theorem k_X11_scan : q_Mok iX11_scan := ⟨(tb_4 174 rfl rfl), (tb_1 1 rfl rfl), by decide, by decide⟩
set_option maxRecDepth 20000 in
theorem k_X11_harm : q_Mok iX11_harm := ⟨(tb_4 194 rfl rfl), (tb_1 1 rfl rfl), by decide, by decide⟩
set_option maxRecDepth 20000 in
theorem k_X11_undo : q_Mok iX11_undo := ⟨(tb_5 14 rfl rfl), (tb_1 1 rfl rfl), by decide, by decide⟩
set_option maxRecDepth 20000 in
theorem k_X11_redo : q_Mok iX11_redo := ⟨(tb_5 30 rfl rfl), (tb_1 1 rfl rfl), by decide, by decide⟩
set_option maxRecDepth 20000 in
theorem k_X11_goes : q_Mok iX11_goes := ⟨(tb_5 38 rfl rfl), (tb_1 1 rfl rfl), by decide, by decide⟩
set_option maxRecDepth 20000 in
theorem k_X11_walk : q_Mok iX11_walk := ⟨(tb_5 43 rfl rfl), (tb_1 1 rfl rfl), by decide, by decide⟩
set_option maxRecDepth 20000 in
theorem k_X11_isState : q_Mok iX11_isState := ⟨(tb_5 46 rfl rfl), (tb_1 1 rfl rfl), by decide, by decide⟩
set_option maxRecDepth 20000 in
theorem k_X11_walks : q_Mok iX11_walks := ⟨(tb_5 51 rfl rfl), (tb_1 1 rfl rfl), by decide, by decide⟩
set_option maxRecDepth 20000 in
theorem k_X11_farthest : q_Mok iX11_farthest := ⟨(tb_5 63 rfl rfl), (tb_1 1 rfl rfl), by decide, by decide⟩
set_option maxRecDepth 20000 in
theorem k_X11_length : q_Mok iX11_length := ⟨(tb_5 71 rfl rfl), (tb_1 1 rfl rfl), by decide, by decide⟩
set_option maxRecDepth 20000 in
theorem k_X11_found : q_Mok iX11_found := ⟨(tb_5 75 rfl rfl), (tb_1 1 rfl rfl), by decide, by decide⟩
set_option maxRecDepth 20000 in
theorem k_X11_fights : q_Mok iX11_fights := ⟨(tb_5 79 rfl rfl), (tb_1 1 rfl rfl), by decide, by decide⟩
set_option maxRecDepth 20000 in
theorem k_X11_unsafe : q_Mok iX11_unsafe := ⟨(tb_5 83 rfl rfl), (tb_1 1 rfl rfl), by decide, by decide⟩
set_option maxRecDepth 20000 in
theorem k_X11_isKind : q_Mok iX11_isKind := ⟨(tb_5 98 rfl rfl), (tb_1 1 rfl rfl), by decide, by decide⟩
set_option maxRecDepth 20000 in
theorem k_X11_steps : q_Mok iX11_steps := ⟨(tb_5 95 rfl rfl), (tb_1 1 rfl rfl), by decide, by decide⟩
set_option maxRecDepth 20000 in
theorem k_X11_tells : q_Mok iX11_tells := ⟨(tb_5 110 rfl rfl), (tb_1 1 rfl rfl), by decide, by decide⟩
set_option maxRecDepth 20000 in
theorem k_X11_judged : q_Mok iX11_judged := ⟨(tb_5 135 rfl rfl), (tb_1 1 rfl rfl), by decide, by decide⟩
set_option maxRecDepth 20000 in
theorem k_X11_answer : q_Mok iX11_answer := ⟨(tb_5 125 rfl rfl), (tb_1 1 rfl rfl), by decide, by decide⟩
set_option maxRecDepth 20000 in
theorem k_X11_good : q_Mok iX11_good := ⟨(tb_5 165 rfl rfl), (tb_1 1 rfl rfl), by decide, by decide⟩
set_option maxRecDepth 20000 in
theorem k_X11_aliased : q_Mok iX11_aliased := ⟨(tb_5 174 rfl rfl), (tb_1 1 rfl rfl), by decide, by decide⟩
set_option maxRecDepth 20000 in
theorem k_X11_confounded : q_Mok iX11_confounded := ⟨(tb_5 187 rfl rfl), (tb_1 1 rfl rfl), by decide, by decide⟩
set_option maxRecDepth 20000 in
theorem k_X11_verdict : q_Mok iX11_verdict := ⟨(tb_5 204 rfl rfl), (tb_1 1 rfl rfl), by decide, by decide⟩
set_option maxRecDepth 20000 in
theorem k_X11_singles : q_Mok iX11_singles := ⟨(tb_5 216 rfl rfl), (tb_1 1 rfl rfl), by decide, by decide⟩
set_option maxRecDepth 20000 in
theorem k_X11_single : q_Mok iX11_single := ⟨(tb_5 221 rfl rfl), (tb_1 1 rfl rfl), by decide, by decide⟩
set_option maxRecDepth 20000 in
theorem k_X11_apart : q_Mok iX11_apart := ⟨(tb_5 236 rfl rfl), (tb_1 1 rfl rfl), by decide, by decide⟩
set_option maxRecDepth 20000 in
theorem k_X11_prepared : q_Mok iX11_prepared := ⟨(tb_6 4 rfl rfl), (tb_1 1 rfl rfl), by decide, by decide⟩
set_option maxRecDepth 20000 in
theorem k_X11_isSingleOrNone : q_Mok iX11_isSingleOrNone := ⟨(tb_6 0 rfl rfl), (tb_1 1 rfl rfl), by decide, by decide⟩
set_option maxRecDepth 20000 in
theorem k_X11_told : q_Mok iX11_told := ⟨(tb_6 37 rfl rfl), (tb_1 1 rfl rfl), by decide, by decide⟩
set_option maxRecDepth 20000 in
theorem k_X11_least : q_Mok iX11_least := ⟨(tb_6 54 rfl rfl), (tb_1 1 rfl rfl), by decide, by decide⟩
set_option maxRecDepth 20000 in
theorem k_X11_mendFirst : q_Mok iX11_mendFirst := ⟨(tb_6 63 rfl rfl), (tb_1 1 rfl rfl), by decide, by decide⟩
set_option maxRecDepth 20000 in
theorem k_X11_safest : q_Mok iX11_safest := ⟨(tb_6 77 rfl rfl), (tb_1 1 rfl rfl), by decide, by decide⟩
set_option maxRecDepth 20000 in
theorem k_X11_cost : q_Mok iX11_cost := ⟨(tb_6 86 rfl rfl), (tb_1 1 rfl rfl), by decide, by decide⟩
set_option maxRecDepth 20000 in
theorem k_X11_worst : q_Mok iX11_worst := ⟨(tb_6 90 rfl rfl), (tb_1 1 rfl rfl), by decide, by decide⟩
set_option maxRecDepth 20000 in
theorem k_X11_law : q_Mok iX11_law := ⟨(tb_6 98 rfl rfl), (tb_1 1 rfl rfl), by decide, by decide⟩
set_option maxRecDepth 20000 in
theorem k_X11_odds : q_Mok iX11_odds := ⟨(tb_6 102 rfl rfl), (tb_1 1 rfl rfl), by decide, by decide⟩
set_option maxRecDepth 20000 in
theorem k_X11_commonDivisor : q_Mok iX11_commonDivisor := ⟨(tb_6 105 rfl rfl), (tb_1 1 rfl rfl), by decide, by decide⟩
set_option maxRecDepth 20000 in
theorem k_X11_lies : q_Mok iX11_lies := ⟨(tb_6 110 rfl rfl), (tb_1 1 rfl rfl), by decide, by decide⟩
set_option maxRecDepth 20000 in
theorem k_X11_seen : q_Mok iX11_seen := ⟨(tb_6 114 rfl rfl), (tb_1 1 rfl rfl), by decide, by decide⟩
set_option maxRecDepth 20000 in
theorem k_X11_untell : q_Mok iX11_untell := ⟨(tb_6 122 rfl rfl), (tb_1 1 rfl rfl), by decide, by decide⟩
set_option maxRecDepth 20000 in
theorem k_X11_later : q_Mok iX11_later := ⟨(tb_6 130 rfl rfl), (tb_1 1 rfl rfl), by decide, by decide⟩
set_option maxRecDepth 20000 in
theorem k_X11_fits : q_Mok iX11_fits := ⟨(tb_6 135 rfl rfl), (tb_1 1 rfl rfl), by decide, by decide⟩
set_option maxRecDepth 20000 in
theorem k_X11_culprit : q_Mok iX11_culprit := ⟨(tb_6 160 rfl rfl), (tb_1 1 rfl rfl), by decide, by decide⟩
set_option maxRecDepth 20000 in
theorem k_X11_ask : q_Mok iX11_ask := ⟨(tb_6 169 rfl rfl), (tb_1 1 rfl rfl), by decide, by decide⟩
set_option maxRecDepth 20000 in
theorem k_X11_image : q_Mok iX11_image := ⟨(tb_6 182 rfl rfl), (tb_1 1 rfl rfl), by decide, by decide⟩
set_option maxRecDepth 20000 in
theorem k_X11_back : q_Mok iX11_back := ⟨(tb_6 190 rfl rfl), (tb_1 1 rfl rfl), by decide, by decide⟩
set_option maxRecDepth 20000 in
theorem k_X11_about : q_Mok iX11_about := ⟨(tb_6 198 rfl rfl), (tb_1 1 rfl rfl), by decide, by decide⟩
set_option maxRecDepth 20000 in
theorem k_X12_init : q_Mok iX12_init := ⟨(tb_6 211 rfl rfl), (tb_1 17 rfl rfl), by decide, by decide⟩
set_option maxRecDepth 20000 in
theorem k_X12_feed : q_Mok iX12_feed := ⟨(tb_8 4 rfl rfl), (tb_1 17 rfl rfl), by decide, by decide⟩
set_option maxRecDepth 20000 in
theorem k_X12_four : q_Mok iX12_four := ⟨(tb_8 8 rfl rfl), (tb_1 17 rfl rfl), by decide, by decide⟩
set_option maxRecDepth 20000 in
theorem k_X12_end : q_Mok iX12_end := ⟨(tb_8 12 rfl rfl), (tb_1 17 rfl rfl), by decide, by decide⟩
set_option maxRecDepth 20000 in
theorem k_X12_here : q_Mok iX12_here := ⟨(tb_8 28 rfl rfl), (tb_1 17 rfl rfl), by decide, by decide⟩
set_option maxRecDepth 20000 in
theorem k_X12_isLetter : q_Mok iX12_isLetter := ⟨(tb_8 31 rfl rfl), (tb_1 17 rfl rfl), by decide, by decide⟩
set_option maxRecDepth 20000 in
theorem k_X12_isDigit : q_Mok iX12_isDigit := ⟨(tb_8 34 rfl rfl), (tb_1 17 rfl rfl), by decide, by decide⟩
set_option maxRecDepth 20000 in
theorem k_X12_isSign : q_Mok iX12_isSign := ⟨(tb_8 37 rfl rfl), (tb_1 17 rfl rfl), by decide, by decide⟩
set_option maxRecDepth 20000 in
theorem k_X12_token : q_Mok iX12_token := ⟨(tb_8 24 rfl rfl), (tb_1 17 rfl rfl), by decide, by decide⟩
set_option maxRecDepth 20000 in
theorem k_X12_wrong : q_Mok iX12_wrong := ⟨(tb_8 86 rfl rfl), (tb_1 17 rfl rfl), by decide, by decide⟩
set_option maxRecDepth 20000 in
theorem k_X12_isWord : q_Mok iX12_isWord := ⟨(tb_8 46 rfl rfl), (tb_1 17 rfl rfl), by decide, by decide⟩
set_option maxRecDepth 20000 in
theorem k_X12_isOwn : q_Mok iX12_isOwn := ⟨(tb_8 62 rfl rfl), (tb_1 17 rfl rfl), by decide, by decide⟩
set_option maxRecDepth 20000 in
theorem k_X12_isName : q_Mok iX12_isName := ⟨(tb_8 58 rfl rfl), (tb_1 17 rfl rfl), by decide, by decide⟩
set_option maxRecDepth 20000 in
theorem k_X12_want : q_Mok iX12_want := ⟨(tb_8 98 rfl rfl), (tb_1 17 rfl rfl), by decide, by decide⟩
set_option maxRecDepth 20000 in
theorem k_X12_numberHere : q_Mok iX12_numberHere := ⟨(tb_8 106 rfl rfl), (tb_1 17 rfl rfl), by decide, by decide⟩
set_option maxRecDepth 20000 in
theorem k_X12_toldNumber : q_Mok iX12_toldNumber := ⟨(tb_8 102 rfl rfl), (tb_1 17 rfl rfl), by decide, by decide⟩
set_option maxRecDepth 20000 in
theorem k_X12_toldBy : q_Mok iX12_toldBy := ⟨(tb_8 94 rfl rfl), (tb_1 17 rfl rfl), by decide, by decide⟩
set_option maxRecDepth 20000 in
theorem k_X12_find : q_Mok iX12_find := ⟨(tb_8 90 rfl rfl), (tb_1 17 rfl rfl), by decide, by decide⟩
set_option maxRecDepth 20000 in
theorem k_X12_newName : q_Mok iX12_newName := ⟨(tb_8 54 rfl rfl), (tb_1 17 rfl rfl), by decide, by decide⟩
set_option maxRecDepth 20000 in
theorem k_X12_oldName : q_Mok iX12_oldName := ⟨(tb_8 122 rfl rfl), (tb_1 17 rfl rfl), by decide, by decide⟩
set_option maxRecDepth 20000 in
theorem k_X12_add : q_Mok iX12_add := ⟨(tb_8 172 rfl rfl), (tb_1 17 rfl rfl), by decide, by decide⟩
set_option maxRecDepth 20000 in
theorem k_X12_tight : q_Mok iX12_tight := ⟨(tb_8 152 rfl rfl), (tb_1 17 rfl rfl), by decide, by decide⟩
set_option maxRecDepth 20000 in
theorem k_X12_close : q_Mok iX12_close := ⟨(tb_8 184 rfl rfl), (tb_1 17 rfl rfl), by decide, by decide⟩
set_option maxRecDepth 20000 in
theorem k_X12_hasRelation : q_Mok iX12_hasRelation := ⟨(tb_8 188 rfl rfl), (tb_1 17 rfl rfl), by decide, by decide⟩
set_option maxRecDepth 20000 in
theorem k_X12_mayNot : q_Mok iX12_mayNot := ⟨(tb_8 149 rfl rfl), (tb_1 17 rfl rfl), by decide, by decide⟩
set_option maxRecDepth 20000 in
theorem k_X12_asked : q_Mok iX12_asked := ⟨(tb_8 168 rfl rfl), (tb_1 17 rfl rfl), by decide, by decide⟩
set_option maxRecDepth 20000 in
theorem k_X12_isFull : q_Mok iX12_isFull := ⟨(tb_8 160 rfl rfl), (tb_1 17 rfl rfl), by decide, by decide⟩
set_option maxRecDepth 20000 in
theorem k_X12_countUnit : q_Mok iX12_countUnit := ⟨(tb_8 164 rfl rfl), (tb_1 17 rfl rfl), by decide, by decide⟩
set_option maxRecDepth 20000 in
theorem k_X12_openUp : q_Mok iX12_openUp := ⟨(tb_8 156 rfl rfl), (tb_1 17 rfl rfl), by decide, by decide⟩
set_option maxRecDepth 20000 in
theorem k_X12_unit : q_Mok iX12_unit := ⟨(tb_8 145 rfl rfl), (tb_1 17 rfl rfl), by decide, by decide⟩
set_option maxRecDepth 20000 in
theorem k_X12_sign : q_Mok iX12_sign := ⟨(tb_8 176 rfl rfl), (tb_1 17 rfl rfl), by decide, by decide⟩
set_option maxRecDepth 20000 in
theorem k_X12_hasBracket : q_Mok iX12_hasBracket := ⟨(tb_8 180 rfl rfl), (tb_1 17 rfl rfl), by decide, by decide⟩
set_option maxRecDepth 20000 in
theorem k_X12_formula : q_Mok iX12_formula := ⟨(tb_8 141 rfl rfl), (tb_1 17 rfl rfl), by decide, by decide⟩
set_option maxRecDepth 20000 in
theorem k_X12_truth : q_Mok iX12_truth := ⟨(tb_8 217 rfl rfl), (tb_1 17 rfl rfl), by decide, by decide⟩
set_option maxRecDepth 20000 in
theorem k_X12_done : q_Mok iX12_done := ⟨(tb_9 54 rfl rfl), (tb_1 17 rfl rfl), by decide, by decide⟩
set_option maxRecDepth 20000 in
theorem k_X12_greater : q_Mok iX12_greater := ⟨(tb_9 20 rfl rfl), (tb_1 17 rfl rfl), by decide, by decide⟩
set_option maxRecDepth 20000 in
theorem k_X12_has : q_Mok iX12_has := ⟨(tb_8 133 rfl rfl), (tb_1 17 rfl rfl), by decide, by decide⟩
set_option maxRecDepth 20000 in
theorem k_X12_isIn : q_Mok iX12_isIn := ⟨(tb_8 206 rfl rfl), (tb_1 17 rfl rfl), by decide, by decide⟩
set_option maxRecDepth 20000 in
theorem k_X12_floatsAt : q_Mok iX12_floatsAt := ⟨(tb_9 51 rfl rfl), (tb_1 17 rfl rfl), by decide, by decide⟩
set_option maxRecDepth 20000 in
theorem k_X12_readDevice : q_Mok iX12_readDevice := ⟨(tb_8 50 rfl rfl), (tb_1 17 rfl rfl), by decide, by decide⟩
set_option maxRecDepth 20000 in
theorem k_X12_readCell : q_Mok iX12_readCell := ⟨(tb_8 118 rfl rfl), (tb_1 17 rfl rfl), by decide, by decide⟩
set_option maxRecDepth 20000 in
theorem k_X12_readOwnCell : q_Mok iX12_readOwnCell := ⟨(tb_8 114 rfl rfl), (tb_1 17 rfl rfl), by decide, by decide⟩
set_option maxRecDepth 20000 in
theorem k_X12_readNet : q_Mok iX12_readNet := ⟨(tb_8 110 rfl rfl), (tb_1 17 rfl rfl), by decide, by decide⟩
set_option maxRecDepth 20000 in
theorem k_X12_readShort : q_Mok iX12_readShort := ⟨(tb_8 126 rfl rfl), (tb_1 17 rfl rfl), by decide, by decide⟩
set_option maxRecDepth 20000 in
theorem k_X12_readOpen : q_Mok iX12_readOpen := ⟨(tb_8 130 rfl rfl), (tb_1 17 rfl rfl), by decide, by decide⟩
set_option maxRecDepth 20000 in
theorem k_X12_readStuck : q_Mok iX12_readStuck := ⟨(tb_8 137 rfl rfl), (tb_1 17 rfl rfl), by decide, by decide⟩
set_option maxRecDepth 20000 in
theorem k_X12_readLine : q_Mok iX12_readLine := ⟨(tb_8 41 rfl rfl), (tb_1 17 rfl rfl), by decide, by decide⟩
set_option maxRecDepth 20000 in
theorem k_X12_readAll : q_Mok iX12_readAll := ⟨(tb_8 20 rfl rfl), (tb_1 17 rfl rfl), by decide, by decide⟩
set_option maxRecDepth 20000 in
theorem k_X12_board : q_Mok iX12_board := ⟨(tb_8 16 rfl rfl), (tb_1 17 rfl rfl), by decide, by decide⟩
set_option maxRecDepth 20000 in
theorem k_X12_fault : q_Mok iX12_fault := ⟨(tb_8 196 rfl rfl), (tb_1 17 rfl rfl), by decide, by decide⟩
set_option maxRecDepth 20000 in
theorem k_X12_isDevice : q_Mok iX12_isDevice := ⟨(tb_9 98 rfl rfl), (tb_1 17 rfl rfl), by decide, by decide⟩
set_option maxRecDepth 20000 in
theorem k_X12_isNet : q_Mok iX12_isNet := ⟨(tb_9 106 rfl rfl), (tb_1 17 rfl rfl), by decide, by decide⟩
set_option maxRecDepth 20000 in
theorem k_X12_isCell : q_Mok iX12_isCell := ⟨(tb_9 122 rfl rfl), (tb_1 17 rfl rfl), by decide, by decide⟩
set_option maxRecDepth 20000 in
theorem k_X12_layReceivers : q_Mok iX12_layReceivers := ⟨(tb_8 192 rfl rfl), (tb_1 17 rfl rfl), by decide, by decide⟩
set_option maxRecDepth 20000 in
theorem k_X12_placeOf : q_Mok iX12_placeOf := ⟨(tb_9 177 rfl rfl), (tb_1 17 rfl rfl), by decide, by decide⟩
set_option maxRecDepth 20000 in
theorem k_X12_restOrder : q_Mok iX12_restOrder := ⟨(tb_6 227 rfl rfl), (tb_1 17 rfl rfl), by decide, by decide⟩
set_option maxRecDepth 20000 in
theorem k_X12_layTold : q_Mok iX12_layTold := ⟨(tb_6 223 rfl rfl), (tb_1 17 rfl rfl), by decide, by decide⟩
set_option maxRecDepth 20000 in
theorem k_X12_fill : q_Mok iX12_fill := ⟨(tb_8 237 rfl rfl), (tb_1 17 rfl rfl), by decide, by decide⟩
set_option maxRecDepth 20000 in
theorem k_X12_keepAir : q_Mok iX12_keepAir := ⟨(tb_9 70 rfl rfl), (tb_1 17 rfl rfl), by decide, by decide⟩
set_option maxRecDepth 20000 in
theorem k_X12_nextState : q_Mok iX12_nextState := ⟨(tb_6 219 rfl rfl), (tb_1 17 rfl rfl), by decide, by decide⟩
set_option maxRecDepth 20000 in
theorem k_X12_layWalks : q_Mok iX12_layWalks := ⟨(tb_6 216 rfl rfl), (tb_1 17 rfl rfl), by decide, by decide⟩
set_option maxRecDepth 20000 in
theorem k_X12_isState : q_Mok iX12_isState := ⟨(tb_8 203 rfl rfl), (tb_1 17 rfl rfl), by decide, by decide⟩
set_option maxRecDepth 20000 in
theorem k_X12_stepTo : q_Mok iX12_stepTo := ⟨(tb_8 210 rfl rfl), (tb_1 17 rfl rfl), by decide, by decide⟩
set_option maxRecDepth 20000 in
theorem k_X12_walk : q_Mok iX12_walk := ⟨(tb_8 200 rfl rfl), (tb_1 17 rfl rfl), by decide, by decide⟩
set_option maxRecDepth 20000 in
theorem k_X12_walks : q_Mok iX12_walks := ⟨(tb_8 214 rfl rfl), (tb_1 17 rfl rfl), by decide, by decide⟩
set_option maxRecDepth 20000 in
theorem k_X12_farthest : q_Mok iX12_farthest := ⟨(tb_8 221 rfl rfl), (tb_1 17 rfl rfl), by decide, by decide⟩
set_option maxRecDepth 20000 in
theorem k_X12_goes : q_Mok iX12_goes := ⟨(tb_8 225 rfl rfl), (tb_1 17 rfl rfl), by decide, by decide⟩
set_option maxRecDepth 20000 in
theorem k_X12_two : q_Mok iX12_two := ⟨(tb_9 35 rfl rfl), (tb_1 17 rfl rfl), by decide, by decide⟩
set_option maxRecDepth 20000 in
theorem k_X12_shortOf : q_Mok iX12_shortOf := ⟨(tb_9 32 rfl rfl), (tb_1 17 rfl rfl), by decide, by decide⟩
set_option maxRecDepth 20000 in
theorem k_X12_togetherWith : q_Mok iX12_togetherWith := ⟨(tb_9 28 rfl rfl), (tb_1 17 rfl rfl), by decide, by decide⟩
set_option maxRecDepth 20000 in
theorem k_X12_isLow : q_Mok iX12_isLow := ⟨(tb_9 39 rfl rfl), (tb_1 17 rfl rfl), by decide, by decide⟩
set_option maxRecDepth 20000 in
theorem k_X12_layLevels : q_Mok iX12_layLevels := ⟨(tb_9 24 rfl rfl), (tb_1 17 rfl rfl), by decide, by decide⟩
set_option maxRecDepth 20000 in
theorem k_X12_driverHas : q_Mok iX12_driverHas := ⟨(tb_9 17 rfl rfl), (tb_1 17 rfl rfl), by decide, by decide⟩
set_option maxRecDepth 20000 in
theorem k_X12_isDriverOf : q_Mok iX12_isDriverOf := ⟨(tb_9 13 rfl rfl), (tb_1 17 rfl rfl), by decide, by decide⟩
set_option maxRecDepth 20000 in
theorem k_X12_layDriven : q_Mok iX12_layDriven := ⟨(tb_9 9 rfl rfl), (tb_1 17 rfl rfl), by decide, by decide⟩
set_option maxRecDepth 20000 in
theorem k_X12_readsAt : q_Mok iX12_readsAt := ⟨(tb_9 47 rfl rfl), (tb_1 17 rfl rfl), by decide, by decide⟩
set_option maxRecDepth 20000 in
theorem k_X12_isFighting : q_Mok iX12_isFighting := ⟨(tb_9 114 rfl rfl), (tb_1 17 rfl rfl), by decide, by decide⟩
set_option maxRecDepth 20000 in
theorem k_X12_dataBits : q_Mok iX12_dataBits := ⟨(tb_9 58 rfl rfl), (tb_1 17 rfl rfl), by decide, by decide⟩
set_option maxRecDepth 20000 in
theorem k_X12_setOrder : q_Mok iX12_setOrder := ⟨(tb_9 66 rfl rfl), (tb_1 17 rfl rfl), by decide, by decide⟩
set_option maxRecDepth 20000 in
theorem k_X12_captured : q_Mok iX12_captured := ⟨(tb_9 43 rfl rfl), (tb_1 17 rfl rfl), by decide, by decide⟩
set_option maxRecDepth 20000 in
theorem k_X12_captures : q_Mok iX12_captures := ⟨(tb_9 5 rfl rfl), (tb_1 17 rfl rfl), by decide, by decide⟩
set_option maxRecDepth 20000 in
theorem k_X12_shifts : q_Mok iX12_shifts := ⟨(tb_9 62 rfl rfl), (tb_1 17 rfl rfl), by decide, by decide⟩
set_option maxRecDepth 20000 in
theorem k_X12_goClock : q_Mok iX12_goClock := ⟨(tb_9 1 rfl rfl), (tb_1 17 rfl rfl), by decide, by decide⟩
set_option maxRecDepth 20000 in
theorem k_X12_walkTo : q_Mok iX12_walkTo := ⟨(tb_9 78 rfl rfl), (tb_1 17 rfl rfl), by decide, by decide⟩
set_option maxRecDepth 20000 in
theorem k_X12_act : q_Mok iX12_act := ⟨(tb_8 233 rfl rfl), (tb_1 17 rfl rfl), by decide, by decide⟩
set_option maxRecDepth 20000 in
theorem k_X12_exchangeAt : q_Mok iX12_exchangeAt := ⟨(tb_9 86 rfl rfl), (tb_1 17 rfl rfl), by decide, by decide⟩
set_option maxRecDepth 20000 in
theorem k_X12_clock : q_Mok iX12_clock := ⟨(tb_8 229 rfl rfl), (tb_1 17 rfl rfl), by decide, by decide⟩
set_option maxRecDepth 20000 in
theorem k_X12_scan : q_Mok iX12_scan := ⟨(tb_9 74 rfl rfl), (tb_1 17 rfl rfl), by decide, by decide⟩
set_option maxRecDepth 20000 in
theorem k_X12_undo : q_Mok iX12_undo := ⟨(tb_9 82 rfl rfl), (tb_1 17 rfl rfl), by decide, by decide⟩
set_option maxRecDepth 20000 in
theorem k_X12_redo : q_Mok iX12_redo := ⟨(tb_9 90 rfl rfl), (tb_1 17 rfl rfl), by decide, by decide⟩
set_option maxRecDepth 20000 in
theorem k_X12_device : q_Mok iX12_device := ⟨(tb_9 94 rfl rfl), (tb_1 17 rfl rfl), by decide, by decide⟩
set_option maxRecDepth 20000 in
theorem k_X12_manyOf : q_Mok iX12_manyOf := ⟨(tb_9 110 rfl rfl), (tb_1 17 rfl rfl), by decide, by decide⟩
set_option maxRecDepth 20000 in
theorem k_X12_net : q_Mok iX12_net := ⟨(tb_9 102 rfl rfl), (tb_1 17 rfl rfl), by decide, by decide⟩
set_option maxRecDepth 20000 in
theorem k_X12_cell : q_Mok iX12_cell := ⟨(tb_9 118 rfl rfl), (tb_1 17 rfl rfl), by decide, by decide⟩
set_option maxRecDepth 20000 in
theorem k_X12_length : q_Mok iX12_length := ⟨(tb_9 126 rfl rfl), (tb_1 17 rfl rfl), by decide, by decide⟩
set_option maxRecDepth 20000 in
theorem k_X12_found : q_Mok iX12_found := ⟨(tb_9 130 rfl rfl), (tb_1 17 rfl rfl), by decide, by decide⟩
set_option maxRecDepth 20000 in
theorem k_X12_fights : q_Mok iX12_fights := ⟨(tb_9 134 rfl rfl), (tb_1 17 rfl rfl), by decide, by decide⟩
set_option maxRecDepth 20000 in
theorem k_X12_unsafe : q_Mok iX12_unsafe := ⟨(tb_9 138 rfl rfl), (tb_1 17 rfl rfl), by decide, by decide⟩
set_option maxRecDepth 20000 in
theorem k_X12_countSteps : q_Mok iX12_countSteps := ⟨(tb_9 153 rfl rfl), (tb_1 17 rfl rfl), by decide, by decide⟩
set_option maxRecDepth 20000 in
theorem k_X12_hasAllOnes : q_Mok iX12_hasAllOnes := ⟨(tb_9 157 rfl rfl), (tb_1 17 rfl rfl), by decide, by decide⟩
set_option maxRecDepth 20000 in
theorem k_X12_isKind : q_Mok iX12_isKind := ⟨(tb_9 145 rfl rfl), (tb_1 17 rfl rfl), by decide, by decide⟩
set_option maxRecDepth 20000 in
theorem k_X12_stepsOf : q_Mok iX12_stepsOf := ⟨(tb_9 149 rfl rfl), (tb_1 17 rfl rfl), by decide, by decide⟩
set_option maxRecDepth 20000 in
theorem k_X12_steps : q_Mok iX12_steps := ⟨(tb_9 142 rfl rfl), (tb_1 17 rfl rfl), by decide, by decide⟩
set_option maxRecDepth 20000 in
theorem k_X12_bitOf : q_Mok iX12_bitOf := ⟨(tb_9 169 rfl rfl), (tb_1 17 rfl rfl), by decide, by decide⟩
set_option maxRecDepth 20000 in
theorem k_X12_wanted : q_Mok iX12_wanted := ⟨(tb_9 165 rfl rfl), (tb_1 17 rfl rfl), by decide, by decide⟩
set_option maxRecDepth 20000 in
theorem k_X12_tells : q_Mok iX12_tells := ⟨(tb_9 161 rfl rfl), (tb_1 17 rfl rfl), by decide, by decide⟩
set_option maxRecDepth 20000 in
theorem k_X12_layAnswers : q_Mok iX12_layAnswers := ⟨(tb_9 185 rfl rfl), (tb_1 17 rfl rfl), by decide, by decide⟩
set_option maxRecDepth 20000 in
theorem k_X12_layNow : q_Mok iX12_layNow := ⟨(tb_9 181 rfl rfl), (tb_1 17 rfl rfl), by decide, by decide⟩
set_option maxRecDepth 20000 in
theorem k_X12_netAt : q_Mok iX12_netAt := ⟨(tb_9 201 rfl rfl), (tb_1 17 rfl rfl), by decide, by decide⟩
set_option maxRecDepth 20000 in
theorem k_X12_isGood : q_Mok iX12_isGood := ⟨(tb_9 197 rfl rfl), (tb_1 17 rfl rfl), by decide, by decide⟩
set_option maxRecDepth 20000 in
theorem k_X12_isOpen : q_Mok iX12_isOpen := ⟨(tb_9 209 rfl rfl), (tb_1 17 rfl rfl), by decide, by decide⟩
set_option maxRecDepth 20000 in
theorem k_X12_goodMany : q_Mok iX12_goodMany := ⟨(tb_9 193 rfl rfl), (tb_1 17 rfl rfl), by decide, by decide⟩
set_option maxRecDepth 20000 in
theorem k_X12_answer : q_Mok iX12_answer := ⟨(tb_9 173 rfl rfl), (tb_1 17 rfl rfl), by decide, by decide⟩
set_option maxRecDepth 20000 in
theorem k_X12_good : q_Mok iX12_good := ⟨(tb_9 189 rfl rfl), (tb_1 17 rfl rfl), by decide, by decide⟩
set_option maxRecDepth 20000 in
theorem k_X12_aliased : q_Mok iX12_aliased := ⟨(tb_9 205 rfl rfl), (tb_1 17 rfl rfl), by decide, by decide⟩
set_option maxRecDepth 20000 in
theorem k_X12_confounded : q_Mok iX12_confounded := ⟨(tb_9 213 rfl rfl), (tb_1 17 rfl rfl), by decide, by decide⟩
set_option maxRecDepth 20000 in
theorem k_X12_verdict : q_Mok iX12_verdict := ⟨(tb_9 217 rfl rfl), (tb_1 17 rfl rfl), by decide, by decide⟩
set_option maxRecDepth 20000 in
theorem k_X12_openFrom : q_Mok iX12_openFrom := ⟨(tb_10 9 rfl rfl), (tb_1 17 rfl rfl), by decide, by decide⟩
set_option maxRecDepth 20000 in
theorem k_X12_shortFrom : q_Mok iX12_shortFrom := ⟨(tb_9 229 rfl rfl), (tb_1 17 rfl rfl), by decide, by decide⟩
set_option maxRecDepth 20000 in
theorem k_X12_singleMany : q_Mok iX12_singleMany := ⟨(tb_9 225 rfl rfl), (tb_1 17 rfl rfl), by decide, by decide⟩
set_option maxRecDepth 20000 in
theorem k_X12_singles : q_Mok iX12_singles := ⟨(tb_9 221 rfl rfl), (tb_1 17 rfl rfl), by decide, by decide⟩
set_option maxRecDepth 20000 in
theorem k_X12_isSingle : q_Mok iX12_isSingle := ⟨(tb_9 237 rfl rfl), (tb_1 17 rfl rfl), by decide, by decide⟩
set_option maxRecDepth 20000 in
theorem k_X12_pairOf : q_Mok iX12_pairOf := ⟨(tb_10 17 rfl rfl), (tb_1 17 rfl rfl), by decide, by decide⟩
set_option maxRecDepth 20000 in
theorem k_X12_shortKind : q_Mok iX12_shortKind := ⟨(tb_10 21 rfl rfl), (tb_1 17 rfl rfl), by decide, by decide⟩
set_option maxRecDepth 20000 in
theorem k_X12_receiverOf : q_Mok iX12_receiverOf := ⟨(tb_10 13 rfl rfl), (tb_1 17 rfl rfl), by decide, by decide⟩
set_option maxRecDepth 20000 in
theorem k_X12_isThere : q_Mok iX12_isThere := ⟨(tb_10 5 rfl rfl), (tb_1 17 rfl rfl), by decide, by decide⟩
set_option maxRecDepth 20000 in
theorem k_X12_turn : q_Mok iX12_turn := ⟨(tb_10 25 rfl rfl), (tb_1 17 rfl rfl), by decide, by decide⟩
set_option maxRecDepth 20000 in
theorem k_X12_isBarred : q_Mok iX12_isBarred := ⟨(tb_10 1 rfl rfl), (tb_1 17 rfl rfl), by decide, by decide⟩
set_option maxRecDepth 20000 in
theorem k_X12_faultMany : q_Mok iX12_faultMany := ⟨(tb_10 29 rfl rfl), (tb_1 17 rfl rfl), by decide, by decide⟩
set_option maxRecDepth 20000 in
theorem k_X12_harm : q_Mok iX12_harm := ⟨(tb_9 233 rfl rfl), (tb_1 17 rfl rfl), by decide, by decide⟩
set_option maxRecDepth 20000 in
theorem k_X12_single : q_Mok iX12_single := ⟨(tb_10 33 rfl rfl), (tb_1 17 rfl rfl), by decide, by decide⟩
set_option maxRecDepth 20000 in
theorem k_X12_layWhole : q_Mok iX12_layWhole := ⟨(tb_10 45 rfl rfl), (tb_1 17 rfl rfl), by decide, by decide⟩
set_option maxRecDepth 20000 in
theorem k_X12_layTable : q_Mok iX12_layTable := ⟨(tb_10 41 rfl rfl), (tb_1 17 rfl rfl), by decide, by decide⟩
set_option maxRecDepth 20000 in
theorem k_X12_areApart : q_Mok iX12_areApart := ⟨(tb_10 49 rfl rfl), (tb_1 17 rfl rfl), by decide, by decide⟩
set_option maxRecDepth 20000 in
theorem k_X12_apart : q_Mok iX12_apart := ⟨(tb_10 37 rfl rfl), (tb_1 17 rfl rfl), by decide, by decide⟩
set_option maxRecDepth 20000 in
theorem k_X12_told : q_Mok iX12_told := ⟨(tb_10 53 rfl rfl), (tb_1 17 rfl rfl), by decide, by decide⟩
set_option maxRecDepth 20000 in
theorem k_X12_least : q_Mok iX12_least := ⟨(tb_10 57 rfl rfl), (tb_1 17 rfl rfl), by decide, by decide⟩
set_option maxRecDepth 20000 in
theorem k_X12_mendFirst : q_Mok iX12_mendFirst := ⟨(tb_10 62 rfl rfl), (tb_1 17 rfl rfl), by decide, by decide⟩
set_option maxRecDepth 20000 in
theorem k_X12_readBy : q_Mok iX12_readBy := ⟨(tb_10 70 rfl rfl), (tb_1 17 rfl rfl), by decide, by decide⟩
set_option maxRecDepth 20000 in
theorem k_X12_safest : q_Mok iX12_safest := ⟨(tb_10 66 rfl rfl), (tb_1 17 rfl rfl), by decide, by decide⟩
set_option maxRecDepth 20000 in
theorem k_X12_cost : q_Mok iX12_cost := ⟨(tb_10 74 rfl rfl), (tb_1 17 rfl rfl), by decide, by decide⟩
set_option maxRecDepth 20000 in
theorem k_X12_worst : q_Mok iX12_worst := ⟨(tb_10 78 rfl rfl), (tb_1 17 rfl rfl), by decide, by decide⟩
set_option maxRecDepth 20000 in
theorem k_X12_law : q_Mok iX12_law := ⟨(tb_10 82 rfl rfl), (tb_1 17 rfl rfl), by decide, by decide⟩
set_option maxRecDepth 20000 in
theorem k_X12_power : q_Mok iX12_power := ⟨(tb_10 89 rfl rfl), (tb_1 17 rfl rfl), by decide, by decide⟩
set_option maxRecDepth 20000 in
theorem k_X12_divisor : q_Mok iX12_divisor := ⟨(tb_10 92 rfl rfl), (tb_1 17 rfl rfl), by decide, by decide⟩
set_option maxRecDepth 20000 in
theorem k_X12_odds : q_Mok iX12_odds := ⟨(tb_10 86 rfl rfl), (tb_1 17 rfl rfl), by decide, by decide⟩
set_option maxRecDepth 20000 in
theorem k_X12_lies : q_Mok iX12_lies := ⟨(tb_10 96 rfl rfl), (tb_1 17 rfl rfl), by decide, by decide⟩
set_option maxRecDepth 20000 in
theorem k_X12_seen : q_Mok iX12_seen := ⟨(tb_10 100 rfl rfl), (tb_1 17 rfl rfl), by decide, by decide⟩
set_option maxRecDepth 20000 in
theorem k_X12_untell : q_Mok iX12_untell := ⟨(tb_10 104 rfl rfl), (tb_1 17 rfl rfl), by decide, by decide⟩
set_option maxRecDepth 20000 in
theorem k_X12_later : q_Mok iX12_later := ⟨(tb_10 108 rfl rfl), (tb_1 17 rfl rfl), by decide, by decide⟩
set_option maxRecDepth 20000 in
theorem k_X12_doesCount : q_Mok iX12_doesCount := ⟨(tb_10 121 rfl rfl), (tb_1 17 rfl rfl), by decide, by decide⟩
set_option maxRecDepth 20000 in
theorem k_X12_layFits : q_Mok iX12_layFits := ⟨(tb_10 117 rfl rfl), (tb_1 17 rfl rfl), by decide, by decide⟩
set_option maxRecDepth 20000 in
theorem k_X12_fits : q_Mok iX12_fits := ⟨(tb_10 113 rfl rfl), (tb_1 17 rfl rfl), by decide, by decide⟩
set_option maxRecDepth 20000 in
theorem k_X12_culprit : q_Mok iX12_culprit := ⟨(tb_10 125 rfl rfl), (tb_1 17 rfl rfl), by decide, by decide⟩
set_option maxRecDepth 20000 in
theorem k_X12_readAlike : q_Mok iX12_readAlike := ⟨(tb_10 137 rfl rfl), (tb_1 17 rfl rfl), by decide, by decide⟩
set_option maxRecDepth 20000 in
theorem k_X12_leftBy : q_Mok iX12_leftBy := ⟨(tb_10 133 rfl rfl), (tb_1 17 rfl rfl), by decide, by decide⟩
set_option maxRecDepth 20000 in
theorem k_X12_ask : q_Mok iX12_ask := ⟨(tb_10 129 rfl rfl), (tb_1 17 rfl rfl), by decide, by decide⟩
set_option maxRecDepth 20000 in
theorem k_X12_isBox : q_Mok iX12_isBox := ⟨(tb_10 144 rfl rfl), (tb_1 17 rfl rfl), by decide, by decide⟩
set_option maxRecDepth 20000 in
theorem k_X12_image : q_Mok iX12_image := ⟨(tb_10 141 rfl rfl), (tb_1 17 rfl rfl), by decide, by decide⟩
set_option maxRecDepth 20000 in
theorem k_X12_back : q_Mok iX12_back := ⟨(tb_10 148 rfl rfl), (tb_1 17 rfl rfl), by decide, by decide⟩
set_option maxRecDepth 20000 in
theorem k_X12_faultsNow : q_Mok iX12_faultsNow := ⟨(tb_10 156 rfl rfl), (tb_1 17 rfl rfl), by decide, by decide⟩
set_option maxRecDepth 20000 in
theorem k_X12_about : q_Mok iX12_about := ⟨(tb_10 152 rfl rfl), (tb_1 17 rfl rfl), by decide, by decide⟩
set_option maxRecDepth 20000 in
theorem k_J6_bitCount_0f7a4 : q_Mok iJ6_bitCount_0f7a4 := ⟨(tb_4 45 rfl rfl), (tb_1 20 rfl rfl), by decide, by decide⟩
set_option maxRecDepth 20000 in
theorem k_J13_bitCount_95d88 : q_Mok iJ13_bitCount_95d88 := ⟨(tb_6 153 rfl rfl), (tb_1 22 rfl rfl), by decide, by decide⟩
set_option maxRecDepth 20000 in
theorem k_J7_fill_53178 : q_Mok iJ7_fill_53178 := ⟨(tb_3 74 rfl rfl), (tb_1 19 rfl rfl), by decide, by decide⟩
