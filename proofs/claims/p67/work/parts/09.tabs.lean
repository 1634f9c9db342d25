abbrev mX0_init : MD := (yX0_init, cX0_init, 2, none, [])
theorem mok_X0_init : MOK mX0_init 0 := ⟨by decide +kernel, tw_335, tw_9, ⟨by decide +kernel, by decide +kernel⟩, by decide +kernel, Nat.le_of_ble_eq_true rfl⟩
abbrev mX0_remember : MD := (yX0_remember, cX0_remember, 2, none, [])
theorem mok_X0_remember : MOK mX0_remember 1 := ⟨by decide +kernel, tw_1126, tw_9, ⟨by decide +kernel, by decide +kernel⟩, by decide +kernel, Nat.le_of_ble_eq_true rfl⟩
abbrev mX1_init : MD := (yX1_init, cX1_init, 1, none, [])
theorem mok_X1_init : MOK mX1_init 0 := ⟨by decide +kernel, tw_354, tw_10, ⟨by decide +kernel, by decide +kernel⟩, by decide +kernel, Nat.le_of_ble_eq_true rfl⟩
abbrev mX2_init : MD := (yX2_init, cX2_init, 2, none, [])
theorem mok_X2_init : MOK mX2_init 1 := ⟨by decide +kernel, tw_158, tw_6, ⟨by decide +kernel, by decide +kernel⟩, by decide +kernel, Nat.le_of_ble_eq_true rfl⟩
abbrev mX2_copyFrom : MD := (yX2_copyFrom, cX2_copyFrom, 2, none, [])
theorem mok_X2_copyFrom : MOK mX2_copyFrom 1 := ⟨by decide +kernel, tw_659, tw_6, ⟨by decide +kernel, by decide +kernel⟩, by decide +kernel, Nat.le_of_ble_eq_true rfl⟩
abbrev mX2_isDelivered : MD := (yX2_isDelivered, cX2_isDelivered, 1, (some .boolean), [])
theorem mok_X2_isDelivered : MOK mX2_isDelivered 0 := ⟨by decide +kernel, tw_702, tw_6, ⟨by decide +kernel, by decide +kernel⟩, by decide +kernel, Nat.le_of_ble_eq_true rfl⟩
abbrev mX2_isHeldAt : MD := (yX2_isHeldAt, cX2_isHeldAt, 2, (some .boolean), [])
theorem mok_X2_isHeldAt : MOK mX2_isHeldAt 1 := ⟨by decide +kernel, tw_1055, tw_6, ⟨by decide +kernel, by decide +kernel⟩, by decide +kernel, Nat.le_of_ble_eq_true rfl⟩
abbrev mX2_isReadyAt : MD := (yX2_isReadyAt, cX2_isReadyAt, 3, (some .boolean), [])
theorem mok_X2_isReadyAt : MOK mX2_isReadyAt 2 := ⟨by decide +kernel, tw_593, tw_6, ⟨by decide +kernel, by decide +kernel⟩, by decide +kernel, Nat.le_of_ble_eq_true rfl⟩
abbrev mX2_isConsideredBefore : MD := (yX2_isConsideredBefore, cX2_isConsideredBefore, 2, (some .boolean), [])
theorem mok_X2_isConsideredBefore : MOK mX2_isConsideredBefore 1 := ⟨by decide +kernel, tw_597, tw_6, ⟨by decide +kernel, by decide +kernel⟩, by decide +kernel, Nat.le_of_ble_eq_true rfl⟩
abbrev mX2_board : MD := (yX2_board, cX2_board, 3, none, [])
theorem mok_X2_board : MOK mX2_board 2 := ⟨by decide +kernel, tw_605, tw_6, ⟨by decide +kernel, by decide +kernel⟩, by decide +kernel, Nat.le_of_ble_eq_true rfl⟩
abbrev mX2_deliver : MD := (yX2_deliver, cX2_deliver, 2, none, [])
theorem mok_X2_deliver : MOK mX2_deliver 1 := ⟨by decide +kernel, tw_635, tw_6, ⟨by decide +kernel, by decide +kernel⟩, by decide +kernel, Nat.le_of_ble_eq_true rfl⟩
abbrev mX2_transferTo : MD := (yX2_transferTo, cX2_transferTo, 3, none, [])
theorem mok_X2_transferTo : MOK mX2_transferTo 2 := ⟨by decide +kernel, tw_639, tw_6, ⟨by decide +kernel, by decide +kernel⟩, by decide +kernel, Nat.le_of_ble_eq_true rfl⟩
abbrev mX2_returnToSender : MD := (yX2_returnToSender, cX2_returnToSender, 2, none, [])
theorem mok_X2_returnToSender : MOK mX2_returnToSender 1 := ⟨by decide +kernel, tw_1406, tw_6, ⟨by decide +kernel, by decide +kernel⟩, by decide +kernel, Nat.le_of_ble_eq_true rfl⟩
abbrev mX3_init : MD := (yX3_init, cX3_init, 1, none, [])
theorem mok_X3_init : MOK mX3_init 0 := ⟨by decide +kernel, tw_263, tw_7, ⟨by decide +kernel, by decide +kernel⟩, by decide +kernel, Nat.le_of_ble_eq_true rfl⟩
abbrev mX3_parse : MD := (yX3_parse, cX3_parse, 4, none, [])
theorem mok_X3_parse : MOK mX3_parse 0 := ⟨by decide +kernel, tw_422, tw_7, ⟨by decide +kernel, by decide +kernel⟩, by decide +kernel, Nat.le_of_ble_eq_true rfl⟩
abbrev mX3_fail : MD := (yX3_fail, cX3_fail, 2, none, [])
theorem mok_X3_fail : MOK mX3_fail 1 := ⟨by decide +kernel, tw_485, tw_7, ⟨by decide +kernel, by decide +kernel⟩, by decide +kernel, Nat.le_of_ble_eq_true rfl⟩
abbrev mX3_readStatement : MD := (yX3_readStatement, cX3_readStatement, 1, none, [])
theorem mok_X3_readStatement : MOK mX3_readStatement 0 := ⟨by decide +kernel, tw_461, tw_7, ⟨by decide +kernel, by decide +kernel⟩, by decide +kernel, Nat.le_of_ble_eq_true rfl⟩
abbrev mX3_execute : MD := (yX3_execute, cX3_execute, 1, (some .int), [])
theorem mok_X3_execute : MOK mX3_execute 0 := ⟨by decide +kernel, tw_541, tw_7, ⟨by decide +kernel, by decide +kernel⟩, by decide +kernel, Nat.le_of_ble_eq_true rfl⟩
abbrev mX3_takeKeyword : MD := (yX3_takeKeyword, cX3_takeKeyword, 2, (some .int), [])
theorem mok_X3_takeKeyword : MOK mX3_takeKeyword 0 := ⟨by decide +kernel, tw_465, tw_7, ⟨by decide +kernel, by decide +kernel⟩, by decide +kernel, Nat.le_of_ble_eq_true rfl⟩
abbrev mX3_findKeyword : MD := (yX3_findKeyword, cX3_findKeyword, 1, (some .int), [])
theorem mok_X3_findKeyword : MOK mX3_findKeyword 0 := ⟨by decide +kernel, tw_469, tw_7, ⟨by decide +kernel, by decide +kernel⟩, by decide +kernel, Nat.le_of_ble_eq_true rfl⟩
abbrev mX3_isFull : MD := (yX3_isFull, cX3_isFull, 2, (some .boolean), [])
theorem mok_X3_isFull : MOK mX3_isFull 1 := ⟨by decide +kernel, tw_489, tw_7, ⟨by decide +kernel, by decide +kernel⟩, by decide +kernel, Nat.le_of_ble_eq_true rfl⟩
abbrev mX3_takeNewName : MD := (yX3_takeNewName, cX3_takeNewName, 2, (some .int), [])
theorem mok_X3_takeNewName : MOK mX3_takeNewName 0 := ⟨by decide +kernel, tw_494, tw_7, ⟨by decide +kernel, by decide +kernel⟩, by decide +kernel, Nat.le_of_ble_eq_true rfl⟩
abbrev mX3_takeNumber : MD := (yX3_takeNumber, cX3_takeNumber, 4, (some .int), [])
theorem mok_X3_takeNumber : MOK mX3_takeNumber 2 := ⟨by decide +kernel, tw_526, tw_7, ⟨by decide +kernel, by decide +kernel⟩, by decide +kernel, Nat.le_of_ble_eq_true rfl⟩
abbrev mX3_takeStation : MD := (yX3_takeStation, cX3_takeStation, 2, (some .int), [])
theorem mok_X3_takeStation : MOK mX3_takeStation 0 := ⟨by decide +kernel, tw_506, tw_7, ⟨by decide +kernel, by decide +kernel⟩, by decide +kernel, Nat.le_of_ble_eq_true rfl⟩
abbrev mX3_takeSecondStation : MD := (yX3_takeSecondStation, cX3_takeSecondStation, 3, (some .int), [])
theorem mok_X3_takeSecondStation : MOK mX3_takeSecondStation 0 := ⟨by decide +kernel, tw_514, tw_7, ⟨by decide +kernel, by decide +kernel⟩, by decide +kernel, Nat.le_of_ble_eq_true rfl⟩
abbrev mX3_findNamedStation : MD := (yX3_findNamedStation, cX3_findNamedStation, 2, (some .int), [])
theorem mok_X3_findNamedStation : MOK mX3_findNamedStation 0 := ⟨by decide +kernel, tw_510, tw_7, ⟨by decide +kernel, by decide +kernel⟩, by decide +kernel, Nat.le_of_ble_eq_true rfl⟩
abbrev mX3_takeRoute : MD := (yX3_takeRoute, cX3_takeRoute, 3, none, [])
theorem mok_X3_takeRoute : MOK mX3_takeRoute 0 := ⟨by decide +kernel, tw_537, tw_7, ⟨by decide +kernel, by decide +kernel⟩, by decide +kernel, Nat.le_of_ble_eq_true rfl⟩
abbrev mX4_init : MD := (yX4_init, cX4_init, 2, none, [])
theorem mok_X4_init : MOK mX4_init 0 := ⟨by decide +kernel, tw_43, tw_2, ⟨by decide +kernel, by decide +kernel⟩, by decide +kernel, Nat.le_of_ble_eq_true rfl⟩
abbrev mX4_copyFrom : MD := (yX4_copyFrom, cX4_copyFrom, 3, none, [])
theorem mok_X4_copyFrom : MOK mX4_copyFrom 1 := ⟨by decide +kernel, tw_643, tw_2, ⟨by decide +kernel, by decide +kernel⟩, by decide +kernel, Nat.le_of_ble_eq_true rfl⟩
abbrev mX4_clear : MD := (yX4_clear, cX4_clear, 1, none, [])
theorem mok_X4_clear : MOK mX4_clear 0 := ⟨by decide +kernel, tw_426, tw_2, ⟨by decide +kernel, by decide +kernel⟩, by decide +kernel, Nat.le_of_ble_eq_true rfl⟩
abbrev mX4_makeStation : MD := (yX4_makeStation, cX4_makeStation, 4, none, [])
theorem mok_X4_makeStation : MOK mX4_makeStation 2 := ⟨by decide +kernel, tw_545, tw_2, ⟨by decide +kernel, by decide +kernel⟩, by decide +kernel, Nat.le_of_ble_eq_true rfl⟩
abbrev mX4_makeTrack : MD := (yX4_makeTrack, cX4_makeTrack, 5, none, [])
theorem mok_X4_makeTrack : MOK mX4_makeTrack 3 := ⟨by decide +kernel, tw_549, tw_2, ⟨by decide +kernel, by decide +kernel⟩, by decide +kernel, Nat.le_of_ble_eq_true rfl⟩
abbrev mX4_makeTrain : MD := (yX4_makeTrain, cX4_makeTrain, 6, none, [])
theorem mok_X4_makeTrain : MOK mX4_makeTrain 3 := ⟨by decide +kernel, tw_553, tw_2, ⟨by decide +kernel, by decide +kernel⟩, by decide +kernel, Nat.le_of_ble_eq_true rfl⟩
abbrev mX4_makeParcel : MD := (yX4_makeParcel, cX4_makeParcel, 5, none, [])
theorem mok_X4_makeParcel : MOK mX4_makeParcel 3 := ⟨by decide +kernel, tw_557, tw_2, ⟨by decide +kernel, by decide +kernel⟩, by decide +kernel, Nat.le_of_ble_eq_true rfl⟩
abbrev mX4_openTrack : MD := (yX4_openTrack, cX4_openTrack, 3, none, [])
theorem mok_X4_openTrack : MOK mX4_openTrack 2 := ⟨by decide +kernel, tw_565, tw_2, ⟨by decide +kernel, by decide +kernel⟩, by decide +kernel, Nat.le_of_ble_eq_true rfl⟩
abbrev mX4_setInspectionOf : MD := (yX4_setInspectionOf, cX4_setInspectionOf, 3, none, [])
theorem mok_X4_setInspectionOf : MOK mX4_setInspectionOf 2 := ⟨by decide +kernel, tw_561, tw_2, ⟨by decide +kernel, by decide +kernel⟩, by decide +kernel, Nat.le_of_ble_eq_true rfl⟩
abbrev mX4_findStation : MD := (yX4_findStation, cX4_findStation, 3, (some .int), [])
theorem mok_X4_findStation : MOK mX4_findStation 1 := ⟨by decide +kernel, tw_502, tw_2, ⟨by decide +kernel, by decide +kernel⟩, by decide +kernel, Nat.le_of_ble_eq_true rfl⟩
abbrev mX4_findTrack : MD := (yX4_findTrack, cX4_findTrack, 4, (some .int), [])
theorem mok_X4_findTrack : MOK mX4_findTrack 2 := ⟨by decide +kernel, tw_518, tw_2, ⟨by decide +kernel, by decide +kernel⟩, by decide +kernel, Nat.le_of_ble_eq_true rfl⟩
abbrev mX4_distanceBetween : MD := (yX4_distanceBetween, cX4_distanceBetween, 3, (some .int), [])
theorem mok_X4_distanceBetween : MOK mX4_distanceBetween 2 := ⟨by decide +kernel, tw_438, tw_2, ⟨by decide +kernel, by decide +kernel⟩, by decide +kernel, Nat.le_of_ble_eq_true rfl⟩
abbrev mX4_measureDistances : MD := (yX4_measureDistances, cX4_measureDistances, 4, none, [])
theorem mok_X4_measureDistances : MOK mX4_measureDistances 0 := ⟨by decide +kernel, tw_430, tw_2, ⟨by decide +kernel, by decide +kernel⟩, by decide +kernel, Nat.le_of_ble_eq_true rfl⟩
abbrev mX4_shorten : MD := (yX4_shorten, cX4_shorten, 5, none, [])
theorem mok_X4_shorten : MOK mX4_shorten 3 := ⟨by decide +kernel, tw_434, tw_2, ⟨by decide +kernel, by decide +kernel⟩, by decide +kernel, Nat.le_of_ble_eq_true rfl⟩
abbrev mX4_countWaitingAt : MD := (yX4_countWaitingAt, cX4_countWaitingAt, 4, (some .int), [])
theorem mok_X4_countWaitingAt : MOK mX4_countWaitingAt 1 := ⟨by decide +kernel, tw_706, tw_2, ⟨by decide +kernel, by decide +kernel⟩, by decide +kernel, Nat.le_of_ble_eq_true rfl⟩
abbrev mX4_countCarriedBy : MD := (yX4_countCarriedBy, cX4_countCarriedBy, 4, (some .int), [])
theorem mok_X4_countCarriedBy : MOK mX4_countCarriedBy 1 := ⟨by decide +kernel, tw_585, tw_2, ⟨by decide +kernel, by decide +kernel⟩, by decide +kernel, Nat.le_of_ble_eq_true rfl⟩
abbrev mX4_countCarried : MD := (yX4_countCarried, cX4_countCarried, 3, (some .int), [])
theorem mok_X4_countCarried : MOK mX4_countCarried 0 := ⟨by decide +kernel, tw_710, tw_2, ⟨by decide +kernel, by decide +kernel⟩, by decide +kernel, Nat.le_of_ble_eq_true rfl⟩
abbrev mX4_countDelivered : MD := (yX4_countDelivered, cX4_countDelivered, 3, (some .int), [])
theorem mok_X4_countDelivered : MOK mX4_countDelivered 0 := ⟨by decide +kernel, tw_698, tw_2, ⟨by decide +kernel, by decide +kernel⟩, by decide +kernel, Nat.le_of_ble_eq_true rfl⟩
abbrev mX4_findDrop : MD := (yX4_findDrop, cX4_findDrop, 8, (some .int), [])
theorem mok_X4_findDrop : MOK mX4_findDrop 2 := ⟨by decide +kernel, tw_601, tw_2, ⟨by decide +kernel, by decide +kernel⟩, by decide +kernel, Nat.le_of_ble_eq_true rfl⟩
abbrev mX4_findNextToLoad : MD := (yX4_findNextToLoad, cX4_findNextToLoad, 6, (some (.object "ParcelRailway$Parcel")), [])
theorem mok_X4_findNextToLoad : MOK mX4_findNextToLoad 1 := ⟨by decide +kernel, tw_581, tw_2, ⟨by decide +kernel, by decide +kernel⟩, by decide +kernel, Nat.le_of_ble_eq_true rfl⟩
abbrev mX4_passMinutes : MD := (yX4_passMinutes, cX4_passMinutes, 3, none, [])
theorem mok_X4_passMinutes : MOK mX4_passMinutes 1 := ⟨by decide +kernel, tw_1427, tw_2, ⟨by decide +kernel, by decide +kernel⟩, by decide +kernel, Nat.le_of_ble_eq_true rfl⟩
abbrev mX4_passMinute : MD := (yX4_passMinute, cX4_passMinute, 3, none, [])
theorem mok_X4_passMinute : MOK mX4_passMinute 0 := ⟨by decide +kernel, tw_569, tw_2, ⟨by decide +kernel, by decide +kernel⟩, by decide +kernel, Nat.le_of_ble_eq_true rfl⟩
abbrev mX4_loadTrain : MD := (yX4_loadTrain, cX4_loadTrain, 4, none, [])
theorem mok_X4_loadTrain : MOK mX4_loadTrain 1 := ⟨by decide +kernel, tw_577, tw_2, ⟨by decide +kernel, by decide +kernel⟩, by decide +kernel, Nat.le_of_ble_eq_true rfl⟩
abbrev mX4_depart : MD := (yX4_depart, cX4_depart, 3, none, [])
theorem mok_X4_depart : MOK mX4_depart 1 := ⟨by decide +kernel, tw_609, tw_2, ⟨by decide +kernel, by decide +kernel⟩, by decide +kernel, Nat.le_of_ble_eq_true rfl⟩
abbrev mX4_arrive : MD := (yX4_arrive, cX4_arrive, 3, none, [])
theorem mok_X4_arrive : MOK mX4_arrive 1 := ⟨by decide +kernel, tw_614, tw_2, ⟨by decide +kernel, by decide +kernel⟩, by decide +kernel, Nat.le_of_ble_eq_true rfl⟩
abbrev mX4_isDropOf : MD := (yX4_isDropOf, cX4_isDropOf, 4, (some .boolean), [])
theorem mok_X4_isDropOf : MOK mX4_isDropOf 2 := ⟨by decide +kernel, tw_627, tw_2, ⟨by decide +kernel, by decide +kernel⟩, by decide +kernel, Nat.le_of_ble_eq_true rfl⟩
abbrev mX4_unload : MD := (yX4_unload, cX4_unload, 6, none, [])
theorem mok_X4_unload : MOK mX4_unload 2 := ⟨by decide +kernel, tw_631, tw_2, ⟨by decide +kernel, by decide +kernel⟩, by decide +kernel, Nat.le_of_ble_eq_true rfl⟩
abbrev mX5_init : MD := (yX5_init, cX5_init, 1, none, [])
theorem mok_X5_init : MOK mX5_init 0 := ⟨by decide +kernel, tw_56, tw_3, ⟨by decide +kernel, by decide +kernel⟩, by decide +kernel, Nat.le_of_ble_eq_true rfl⟩
abbrev mX5_copyFrom : MD := (yX5_copyFrom, cX5_copyFrom, 2, none, [])
theorem mok_X5_copyFrom : MOK mX5_copyFrom 1 := ⟨by decide +kernel, tw_647, tw_3, ⟨by decide +kernel, by decide +kernel⟩, by decide +kernel, Nat.le_of_ble_eq_true rfl⟩
abbrev mX6_init : MD := (yX6_init, cX6_init, 1, none, [])
theorem mok_X6_init : MOK mX6_init 0 := ⟨by decide +kernel, tw_269, tw_8, ⟨by decide +kernel, by decide +kernel⟩, by decide +kernel, Nat.le_of_ble_eq_true rfl⟩
abbrev mX6_appendByte : MD := (yX6_appendByte, cX6_appendByte, 2, none, [])
theorem mok_X6_appendByte : MOK mX6_appendByte 1 := ⟨by decide +kernel, tw_418, tw_8, ⟨by decide +kernel, by decide +kernel⟩, by decide +kernel, Nat.le_of_ble_eq_true rfl⟩
abbrev mX6_appendFourBytes : MD := (yX6_appendFourBytes, cX6_appendFourBytes, 2, none, [])
theorem mok_X6_appendFourBytes : MOK mX6_appendFourBytes 1 := ⟨by decide +kernel, tw_1093, tw_8, ⟨by decide +kernel, by decide +kernel⟩, by decide +kernel, Nat.le_of_ble_eq_true rfl⟩
abbrev mX6_appendText : MD := (yX6_appendText, cX6_appendText, 3, none, [])
theorem mok_X6_appendText : MOK mX6_appendText 1 := ⟨by decide +kernel, tw_366, tw_8, ⟨by decide +kernel, by decide +kernel⟩, by decide +kernel, Nat.le_of_ble_eq_true rfl⟩
abbrev mX6_begin : MD := (yX6_begin, cX6_begin, 1, none, [])
theorem mok_X6_begin : MOK mX6_begin 0 := ⟨by decide +kernel, tw_442, tw_8, ⟨by decide +kernel, by decide +kernel⟩, by decide +kernel, Nat.le_of_ble_eq_true rfl⟩
abbrev mX6_advance : MD := (yX6_advance, cX6_advance, 2, none, [])
theorem mok_X6_advance : MOK mX6_advance 0 := ⟨by decide +kernel, tw_446, tw_8, ⟨by decide +kernel, by decide +kernel⟩, by decide +kernel, Nat.le_of_ble_eq_true rfl⟩
abbrev mX6_isBlank : MD := (yX6_isBlank, cX6_isBlank, 1, (some .boolean), [])
theorem mok_X6_isBlank : MOK mX6_isBlank 1 := ⟨by decide +kernel, tw_453, tw_8, ⟨by decide +kernel, by decide +kernel⟩, by decide +kernel, Nat.le_of_ble_eq_true rfl⟩
abbrev mX6_byteAt : MD := (yX6_byteAt, cX6_byteAt, 2, (some .int), [])
theorem mok_X6_byteAt : MOK mX6_byteAt 1 := ⟨by decide +kernel, tw_450, tw_8, ⟨by decide +kernel, by decide +kernel⟩, by decide +kernel, Nat.le_of_ble_eq_true rfl⟩
abbrev mX6_findRunEnd : MD := (yX6_findRunEnd, cX6_findRunEnd, 4, (some .int), [])
theorem mok_X6_findRunEnd : MOK mX6_findRunEnd 2 := ⟨by decide +kernel, tw_457, tw_8, ⟨by decide +kernel, by decide +kernel⟩, by decide +kernel, Nat.le_of_ble_eq_true rfl⟩
abbrev mX6_isText : MD := (yX6_isText, cX6_isText, 3, (some .boolean), [])
theorem mok_X6_isText : MOK mX6_isText 1 := ⟨by decide +kernel, tw_474, tw_8, ⟨by decide +kernel, by decide +kernel⟩, by decide +kernel, Nat.le_of_ble_eq_true rfl⟩
abbrev mX6_packName : MD := (yX6_packName, cX6_packName, 3, (some .int), [])
theorem mok_X6_packName : MOK mX6_packName 0 := ⟨by decide +kernel, tw_498, tw_8, ⟨by decide +kernel, by decide +kernel⟩, by decide +kernel, Nat.le_of_ble_eq_true rfl⟩
abbrev mX6_readNumber : MD := (yX6_readNumber, cX6_readNumber, 3, (some .int), [])
theorem mok_X6_readNumber : MOK mX6_readNumber 0 := ⟨by decide +kernel, tw_530, tw_8, ⟨by decide +kernel, by decide +kernel⟩, by decide +kernel, Nat.le_of_ble_eq_true rfl⟩
abbrev mX7_init : MD := (yX7_init, cX7_init, 1, none, [])
theorem mok_X7_init : MOK mX7_init 0 := ⟨by decide +kernel, tw_81, tw_4, ⟨by decide +kernel, by decide +kernel⟩, by decide +kernel, Nat.le_of_ble_eq_true rfl⟩
abbrev mX7_copyFrom : MD := (yX7_copyFrom, cX7_copyFrom, 2, none, [])
theorem mok_X7_copyFrom : MOK mX7_copyFrom 1 := ⟨by decide +kernel, tw_651, tw_4, ⟨by decide +kernel, by decide +kernel⟩, by decide +kernel, Nat.le_of_ble_eq_true rfl⟩
abbrev mX7_connects : MD := (yX7_connects, cX7_connects, 3, (some .boolean), [])
theorem mok_X7_connects : MOK mX7_connects 2 := ⟨by decide +kernel, tw_522, tw_4, ⟨by decide +kernel, by decide +kernel⟩, by decide +kernel, Nat.le_of_ble_eq_true rfl⟩
abbrev mX8_init : MD := (yX8_init, cX8_init, 2, none, [])
theorem mok_X8_init : MOK mX8_init 1 := ⟨by decide +kernel, tw_105, tw_5, ⟨by decide +kernel, by decide +kernel⟩, by decide +kernel, Nat.le_of_ble_eq_true rfl⟩
abbrev mX8_copyFrom : MD := (yX8_copyFrom, cX8_copyFrom, 3, none, [])
theorem mok_X8_copyFrom : MOK mX8_copyFrom 1 := ⟨by decide +kernel, tw_655, tw_5, ⟨by decide +kernel, by decide +kernel⟩, by decide +kernel, Nat.le_of_ble_eq_true rfl⟩
abbrev mX8_isStanding : MD := (yX8_isStanding, cX8_isStanding, 1, (some .boolean), [])
theorem mok_X8_isStanding : MOK mX8_isStanding 0 := ⟨by decide +kernel, tw_573, tw_5, ⟨by decide +kernel, by decide +kernel⟩, by decide +kernel, Nat.le_of_ble_eq_true rfl⟩
abbrev mX8_stationAt : MD := (yX8_stationAt, cX8_stationAt, 2, (some .int), [])
theorem mok_X8_stationAt : MOK mX8_stationAt 1 := ⟨by decide +kernel, tw_836, tw_5, ⟨by decide +kernel, by decide +kernel⟩, by decide +kernel, Nat.le_of_ble_eq_true rfl⟩
abbrev mX8_stationAhead : MD := (yX8_stationAhead, cX8_stationAhead, 3, (some .int), [])
theorem mok_X8_stationAhead : MOK mX8_stationAhead 1 := ⟨by decide +kernel, tw_589, tw_5, ⟨by decide +kernel, by decide +kernel⟩, by decide +kernel, Nat.le_of_ble_eq_true rfl⟩
abbrev mX8_standsAt : MD := (yX8_standsAt, cX8_standsAt, 1, (some .int), [])
theorem mok_X8_standsAt : MOK mX8_standsAt 0 := ⟨by decide +kernel, tw_995, tw_5, ⟨by decide +kernel, by decide +kernel⟩, by decide +kernel, Nat.le_of_ble_eq_true rfl⟩
abbrev mX8_isAtEnd : MD := (yX8_isAtEnd, cX8_isAtEnd, 1, (some .boolean), [])
theorem mok_X8_isAtEnd : MOK mX8_isAtEnd 0 := ⟨by decide +kernel, tw_622, tw_5, ⟨by decide +kernel, by decide +kernel⟩, by decide +kernel, Nat.le_of_ble_eq_true rfl⟩
abbrev mX8_reachNextStop : MD := (yX8_reachNextStop, cX8_reachNextStop, 1, none, [])
theorem mok_X8_reachNextStop : MOK mX8_reachNextStop 0 := ⟨by decide +kernel, tw_618, tw_5, ⟨by decide +kernel, by decide +kernel⟩, by decide +kernel, Nat.le_of_ble_eq_true rfl⟩
abbrev mX9_init : MD := (yX9_init, cX9_init, 2, none, [])
theorem mok_X9_init : MOK mX9_init 0 := ⟨by decide +kernel, tw_35, tw_1, ⟨by decide +kernel, by decide +kernel⟩, by decide +kernel, Nat.le_of_ble_eq_true rfl⟩
abbrev mX9_appendInput : MD := (yX9_appendInput, cX9_appendInput, 7, (some .int), [])
theorem mok_X9_appendInput : MOK mX9_appendInput 5 := ⟨by decide +kernel, tw_1073, tw_1, ⟨by decide +kernel, by decide +kernel⟩, by decide +kernel, Nat.le_of_ble_eq_true rfl⟩
abbrev mX9_truncateInput : MD := (yX9_truncateInput, cX9_truncateInput, 2, (some .int), [])
theorem mok_X9_truncateInput : MOK mX9_truncateInput 1 := ⟨by decide +kernel, tw_1097, tw_1, ⟨by decide +kernel, by decide +kernel⟩, by decide +kernel, Nat.le_of_ble_eq_true rfl⟩
abbrev mX9_load : MD := (yX9_load, cX9_load, 1, (some .int), [])
theorem mok_X9_load : MOK mX9_load 0 := ⟨by decide +kernel, tw_1121, tw_1, ⟨by decide +kernel, by decide +kernel⟩, by decide +kernel, Nat.le_of_ble_eq_true rfl⟩
abbrev mX9_errorCode : MD := (yX9_errorCode, cX9_errorCode, 1, (some .int), [])
theorem mok_X9_errorCode : MOK mX9_errorCode 0 := ⟨by decide +kernel, tw_686, tw_1, ⟨by decide +kernel, by decide +kernel⟩, by decide +kernel, Nat.le_of_ble_eq_true rfl⟩
abbrev mX9_clock : MD := (yX9_clock, cX9_clock, 1, (some .int), [])
theorem mok_X9_clock : MOK mX9_clock 0 := ⟨by decide +kernel, tw_982, tw_1, ⟨by decide +kernel, by decide +kernel⟩, by decide +kernel, Nat.le_of_ble_eq_true rfl⟩
abbrev mX9_stationCount : MD := (yX9_stationCount, cX9_stationCount, 1, (some .int), [])
theorem mok_X9_stationCount : MOK mX9_stationCount 0 := ⟨by decide +kernel, tw_690, tw_1, ⟨by decide +kernel, by decide +kernel⟩, by decide +kernel, Nat.le_of_ble_eq_true rfl⟩
abbrev mX9_trainCount : MD := (yX9_trainCount, cX9_trainCount, 1, (some .int), [])
theorem mok_X9_trainCount : MOK mX9_trainCount 0 := ⟨by decide +kernel, tw_727, tw_1, ⟨by decide +kernel, by decide +kernel⟩, by decide +kernel, Nat.le_of_ble_eq_true rfl⟩
abbrev mX9_parcelCount : MD := (yX9_parcelCount, cX9_parcelCount, 1, (some .int), [])
theorem mok_X9_parcelCount : MOK mX9_parcelCount 0 := ⟨by decide +kernel, tw_860, tw_1, ⟨by decide +kernel, by decide +kernel⟩, by decide +kernel, Nat.le_of_ble_eq_true rfl⟩
abbrev mX9_isRequestStop : MD := (yX9_isRequestStop, cX9_isRequestStop, 2, (some .boolean), [])
theorem mok_X9_isRequestStop : MOK mX9_isRequestStop 1 := ⟨by decide +kernel, tw_733, tw_1, ⟨by decide +kernel, by decide +kernel⟩, by decide +kernel, Nat.le_of_ble_eq_true rfl⟩
abbrev mX9_inspectionTime : MD := (yX9_inspectionTime, cX9_inspectionTime, 2, (some .int), [])
theorem mok_X9_inspectionTime : MOK mX9_inspectionTime 1 := ⟨by decide +kernel, tw_809, tw_1, ⟨by decide +kernel, by decide +kernel⟩, by decide +kernel, Nat.le_of_ble_eq_true rfl⟩
abbrev mX9_travelTime : MD := (yX9_travelTime, cX9_travelTime, 4, (some .int), [])
theorem mok_X9_travelTime : MOK mX9_travelTime 2 := ⟨by decide +kernel, tw_813, tw_1, ⟨by decide +kernel, by decide +kernel⟩, by decide +kernel, Nat.le_of_ble_eq_true rfl⟩
abbrev mX9_isTrackOpen : MD := (yX9_isTrackOpen, cX9_isTrackOpen, 4, (some .boolean), [])
theorem mok_X9_isTrackOpen : MOK mX9_isTrackOpen 2 := ⟨by decide +kernel, tw_818, tw_1, ⟨by decide +kernel, by decide +kernel⟩, by decide +kernel, Nat.le_of_ble_eq_true rfl⟩
abbrev mX9_distance : MD := (yX9_distance, cX9_distance, 4, (some .int), [])
theorem mok_X9_distance : MOK mX9_distance 2 := ⟨by decide +kernel, tw_1059, tw_1, ⟨by decide +kernel, by decide +kernel⟩, by decide +kernel, Nat.le_of_ble_eq_true rfl⟩
abbrev mX9_capacity : MD := (yX9_capacity, cX9_capacity, 2, (some .int), [])
theorem mok_X9_capacity : MOK mX9_capacity 1 := ⟨by decide +kernel, tw_856, tw_1, ⟨by decide +kernel, by decide +kernel⟩, by decide +kernel, Nat.le_of_ble_eq_true rfl⟩
abbrev mX9_routeLength : MD := (yX9_routeLength, cX9_routeLength, 2, (some .int), [])
theorem mok_X9_routeLength : MOK mX9_routeLength 1 := ⟨by decide +kernel, tw_823, tw_1, ⟨by decide +kernel, by decide +kernel⟩, by decide +kernel, Nat.le_of_ble_eq_true rfl⟩
abbrev mX9_routeStation : MD := (yX9_routeStation, cX9_routeStation, 4, (some .int), [])
theorem mok_X9_routeStation : MOK mX9_routeStation 2 := ⟨by decide +kernel, tw_832, tw_1, ⟨by decide +kernel, by decide +kernel⟩, by decide +kernel, Nat.le_of_ble_eq_true rfl⟩
abbrev mX9_carriedCount : MD := (yX9_carriedCount, cX9_carriedCount, 2, (some .int), [])
theorem mok_X9_carriedCount : MOK mX9_carriedCount 1 := ⟨by decide +kernel, tw_1026, tw_1, ⟨by decide +kernel, by decide +kernel⟩, by decide +kernel, Nat.le_of_ble_eq_true rfl⟩
abbrev mX9_trainStation : MD := (yX9_trainStation, cX9_trainStation, 2, (some .int), [])
theorem mok_X9_trainStation : MOK mX9_trainStation 1 := ⟨by decide +kernel, tw_991, tw_1, ⟨by decide +kernel, by decide +kernel⟩, by decide +kernel, Nat.le_of_ble_eq_true rfl⟩
abbrev mX9_nextStation : MD := (yX9_nextStation, cX9_nextStation, 2, (some .int), [])
theorem mok_X9_nextStation : MOK mX9_nextStation 1 := ⟨by decide +kernel, tw_1001, tw_1, ⟨by decide +kernel, by decide +kernel⟩, by decide +kernel, Nat.le_of_ble_eq_true rfl⟩
abbrev mX9_isForward : MD := (yX9_isForward, cX9_isForward, 2, (some .boolean), [])
theorem mok_X9_isForward : MOK mX9_isForward 1 := ⟨by decide +kernel, tw_1006, tw_1, ⟨by decide +kernel, by decide +kernel⟩, by decide +kernel, Nat.le_of_ble_eq_true rfl⟩
abbrev mX9_minutesToNext : MD := (yX9_minutesToNext, cX9_minutesToNext, 3, (some .int), [])
theorem mok_X9_minutesToNext : MOK mX9_minutesToNext 1 := ⟨by decide +kernel, tw_1010, tw_1, ⟨by decide +kernel, by decide +kernel⟩, by decide +kernel, Nat.le_of_ble_eq_true rfl⟩
abbrev mX9_delay : MD := (yX9_delay, cX9_delay, 2, (some .int), [])
theorem mok_X9_delay : MOK mX9_delay 1 := ⟨by decide +kernel, tw_1014, tw_1, ⟨by decide +kernel, by decide +kernel⟩, by decide +kernel, Nat.le_of_ble_eq_true rfl⟩
abbrev mX9_stopsMade : MD := (yX9_stopsMade, cX9_stopsMade, 2, (some .int), [])
theorem mok_X9_stopsMade : MOK mX9_stopsMade 1 := ⟨by decide +kernel, tw_1018, tw_1, ⟨by decide +kernel, by decide +kernel⟩, by decide +kernel, Nat.le_of_ble_eq_true rfl⟩
abbrev mX9_stopsPassed : MD := (yX9_stopsPassed, cX9_stopsPassed, 2, (some .int), [])
theorem mok_X9_stopsPassed : MOK mX9_stopsPassed 1 := ⟨by decide +kernel, tw_1022, tw_1, ⟨by decide +kernel, by decide +kernel⟩, by decide +kernel, Nat.le_of_ble_eq_true rfl⟩
abbrev mX9_origin : MD := (yX9_origin, cX9_origin, 2, (some .int), [])
theorem mok_X9_origin : MOK mX9_origin 1 := ⟨by decide +kernel, tw_864, tw_1, ⟨by decide +kernel, by decide +kernel⟩, by decide +kernel, Nat.le_of_ble_eq_true rfl⟩
abbrev mX9_destination : MD := (yX9_destination, cX9_destination, 2, (some .int), [])
theorem mok_X9_destination : MOK mX9_destination 1 := ⟨by decide +kernel, tw_873, tw_1, ⟨by decide +kernel, by decide +kernel⟩, by decide +kernel, Nat.le_of_ble_eq_true rfl⟩
abbrev mX9_priority : MD := (yX9_priority, cX9_priority, 2, (some .int), [])
theorem mok_X9_priority : MOK mX9_priority 1 := ⟨by decide +kernel, tw_877, tw_1, ⟨by decide +kernel, by decide +kernel⟩, by decide +kernel, Nat.le_of_ble_eq_true rfl⟩
abbrev mX9_parcelStation : MD := (yX9_parcelStation, cX9_parcelStation, 2, (some .int), [])
theorem mok_X9_parcelStation : MOK mX9_parcelStation 1 := ⟨by decide +kernel, tw_1031, tw_1, ⟨by decide +kernel, by decide +kernel⟩, by decide +kernel, Nat.le_of_ble_eq_true rfl⟩
abbrev mX9_parcelTrain : MD := (yX9_parcelTrain, cX9_parcelTrain, 2, (some .int), [])
theorem mok_X9_parcelTrain : MOK mX9_parcelTrain 1 := ⟨by decide +kernel, tw_1035, tw_1, ⟨by decide +kernel, by decide +kernel⟩, by decide +kernel, Nat.le_of_ble_eq_true rfl⟩
abbrev mX9_dropStation : MD := (yX9_dropStation, cX9_dropStation, 2, (some .int), [])
theorem mok_X9_dropStation : MOK mX9_dropStation 1 := ⟨by decide +kernel, tw_1039, tw_1, ⟨by decide +kernel, by decide +kernel⟩, by decide +kernel, Nat.le_of_ble_eq_true rfl⟩
abbrev mX9_transfers : MD := (yX9_transfers, cX9_transfers, 2, (some .int), [])
theorem mok_X9_transfers : MOK mX9_transfers 1 := ⟨by decide +kernel, tw_1043, tw_1, ⟨by decide +kernel, by decide +kernel⟩, by decide +kernel, Nat.le_of_ble_eq_true rfl⟩
abbrev mX9_isHeld : MD := (yX9_isHeld, cX9_isHeld, 2, (some .boolean), [])
theorem mok_X9_isHeld : MOK mX9_isHeld 1 := ⟨by decide +kernel, tw_1051, tw_1, ⟨by decide +kernel, by decide +kernel⟩, by decide +kernel, Nat.le_of_ble_eq_true rfl⟩
abbrev mX9_deliveryClock : MD := (yX9_deliveryClock, cX9_deliveryClock, 2, (some .int), [])
theorem mok_X9_deliveryClock : MOK mX9_deliveryClock 1 := ⟨by decide +kernel, tw_1047, tw_1, ⟨by decide +kernel, by decide +kernel⟩, by decide +kernel, Nat.le_of_ble_eq_true rfl⟩
abbrev mX9_deliveredCount : MD := (yX9_deliveredCount, cX9_deliveredCount, 1, (some .int), [])
theorem mok_X9_deliveredCount : MOK mX9_deliveredCount 0 := ⟨by decide +kernel, tw_986, tw_1, ⟨by decide +kernel, by decide +kernel⟩, by decide +kernel, Nat.le_of_ble_eq_true rfl⟩
abbrev mX9_parcelBalance : MD := (yX9_parcelBalance, cX9_parcelBalance, 3, (some .int), [])
theorem mok_X9_parcelBalance : MOK mX9_parcelBalance 0 := ⟨by decide +kernel, tw_694, tw_1, ⟨by decide +kernel, by decide +kernel⟩, by decide +kernel, Nat.le_of_ble_eq_true rfl⟩
abbrev mX9_loadingBalance : MD := (yX9_loadingBalance, cX9_loadingBalance, 1, (some .int), [])
theorem mok_X9_loadingBalance : MOK mX9_loadingBalance 0 := ⟨by decide +kernel, tw_714, tw_1, ⟨by decide +kernel, by decide +kernel⟩, by decide +kernel, Nat.le_of_ble_eq_true rfl⟩
abbrev mX9_pass : MD := (yX9_pass, cX9_pass, 3, (some .int), [])
theorem mok_X9_pass : MOK mX9_pass 1 := ⟨by decide +kernel, tw_1423, tw_1, ⟨by decide +kernel, by decide +kernel⟩, by decide +kernel, Nat.le_of_ble_eq_true rfl⟩
abbrev mX9_addParcel : MD := (yX9_addParcel, cX9_addParcel, 4, (some .int), [])
theorem mok_X9_addParcel : MOK mX9_addParcel 3 := ⟨by decide +kernel, tw_1381, tw_1, ⟨by decide +kernel, by decide +kernel⟩, by decide +kernel, Nat.le_of_ble_eq_true rfl⟩
abbrev mX9_setTrackOpen : MD := (yX9_setTrackOpen, cX9_setTrackOpen, 6, (some .boolean), [])
theorem mok_X9_setTrackOpen : MOK mX9_setTrackOpen 3 := ⟨by decide +kernel, tw_1413, tw_1, ⟨by decide +kernel, by decide +kernel⟩, by decide +kernel, Nat.le_of_ble_eq_true rfl⟩
abbrev mX9_setPriority : MD := (yX9_setPriority, cX9_setPriority, 4, (some .int), [])
theorem mok_X9_setPriority : MOK mX9_setPriority 2 := ⟨by decide +kernel, tw_1393, tw_1, ⟨by decide +kernel, by decide +kernel⟩, by decide +kernel, Nat.le_of_ble_eq_true rfl⟩
abbrev mX9_setInspection : MD := (yX9_setInspection, cX9_setInspection, 4, (some .int), [])
theorem mok_X9_setInspection : MOK mX9_setInspection 2 := ⟨by decide +kernel, tw_1397, tw_1, ⟨by decide +kernel, by decide +kernel⟩, by decide +kernel, Nat.le_of_ble_eq_true rfl⟩
abbrev mX9_withdraw : MD := (yX9_withdraw, cX9_withdraw, 3, (some .int), [])
theorem mok_X9_withdraw : MOK mX9_withdraw 1 := ⟨by decide +kernel, tw_1401, tw_1, ⟨by decide +kernel, by decide +kernel⟩, by decide +kernel, Nat.le_of_ble_eq_true rfl⟩
abbrev mX9_checkStation : MD := (yX9_checkStation, cX9_checkStation, 2, none, [])
theorem mok_X9_checkStation : MOK mX9_checkStation 1 := ⟨by decide +kernel, tw_737, tw_1, ⟨by decide +kernel, by decide +kernel⟩, by decide +kernel, Nat.le_of_ble_eq_true rfl⟩
abbrev mX9_checkTrain : MD := (yX9_checkTrain, cX9_checkTrain, 2, none, [])
theorem mok_X9_checkTrain : MOK mX9_checkTrain 1 := ⟨by decide +kernel, tw_827, tw_1, ⟨by decide +kernel, by decide +kernel⟩, by decide +kernel, Nat.le_of_ble_eq_true rfl⟩
abbrev mX9_checkParcel : MD := (yX9_checkParcel, cX9_checkParcel, 2, none, [])
theorem mok_X9_checkParcel : MOK mX9_checkParcel 1 := ⟨by decide +kernel, tw_868, tw_1, ⟨by decide +kernel, by decide +kernel⟩, by decide +kernel, Nat.le_of_ble_eq_true rfl⟩
abbrev mX9_checkRange : MD := (yX9_checkRange, cX9_checkRange, 3, none, [])
theorem mok_X9_checkRange : MOK mX9_checkRange 3 := ⟨by decide +kernel, tw_1385, tw_1, ⟨by decide +kernel, by decide +kernel⟩, by decide +kernel, Nat.le_of_ble_eq_true rfl⟩
abbrev mX9_requireTrack : MD := (yX9_requireTrack, cX9_requireTrack, 4, (some .int), [])
theorem mok_X9_requireTrack : MOK mX9_requireTrack 2 := ⟨by decide +kernel, tw_1417, tw_1, ⟨by decide +kernel, by decide +kernel⟩, by decide +kernel, Nat.le_of_ble_eq_true rfl⟩
abbrev mX10_init : MD := (yX10_init, cX10_init, 4, none, [])
theorem mok_X10_init : MOK mX10_init 1 := ⟨by decide +kernel, tw_719, tw_28, ⟨by decide +kernel, by decide +kernel⟩, by decide +kernel, Nat.le_of_ble_eq_true rfl⟩
abbrev mX10_add : MD := (yX10_add, cX10_add, 4, none, [])
theorem mok_X10_add : MOK mX10_add 3 := ⟨by decide +kernel, tw_881, tw_28, ⟨by decide +kernel, by decide +kernel⟩, by decide +kernel, Nat.le_of_ble_eq_true rfl⟩
abbrev mX10_follow : MD := (yX10_follow, cX10_follow, 8, none, [])
theorem mok_X10_follow : MOK mX10_follow 2 := ⟨by decide +kernel, tw_937, tw_28, ⟨by decide +kernel, by decide +kernel⟩, by decide +kernel, Nat.le_of_ble_eq_true rfl⟩
abbrev mX10_delivered : MD := (yX10_delivered, cX10_delivered, 3, (some .int), [])
theorem mok_X10_delivered : MOK mX10_delivered 0 := ⟨by decide +kernel, tw_941, tw_28, ⟨by decide +kernel, by decide +kernel⟩, by decide +kernel, Nat.le_of_ble_eq_true rfl⟩
abbrev mX10_far : MD := (yX10_far, cX10_far, 7, (some .int), [])
theorem mok_X10_far : MOK mX10_far 2 := ⟨by decide +kernel, tw_965, tw_28, ⟨by decide +kernel, by decide +kernel⟩, by decide +kernel, Nat.le_of_ble_eq_true rfl⟩
abbrev mX10_carried : MD := (yX10_carried, cX10_carried, 4, (some .int), [])
theorem mok_X10_carried : MOK mX10_carried 1 := ⟨by decide +kernel, tw_957, tw_28, ⟨by decide +kernel, by decide +kernel⟩, by decide +kernel, Nat.le_of_ble_eq_true rfl⟩
abbrev mX10_drop : MD := (yX10_drop, cX10_drop, 7, (some .int), [])
theorem mok_X10_drop : MOK mX10_drop 2 := ⟨by decide +kernel, tw_961, tw_28, ⟨by decide +kernel, by decide +kernel⟩, by decide +kernel, Nat.le_of_ble_eq_true rfl⟩
abbrev mX10_fits : MD := (yX10_fits, cX10_fits, 3, (some .boolean), [])
theorem mok_X10_fits : MOK mX10_fits 2 := ⟨by decide +kernel, tw_953, tw_28, ⟨by decide +kernel, by decide +kernel⟩, by decide +kernel, Nat.le_of_ble_eq_true rfl⟩
abbrev mX10_loads : MD := (yX10_loads, cX10_loads, 4, none, [])
theorem mok_X10_loads : MOK mX10_loads 1 := ⟨by decide +kernel, tw_949, tw_28, ⟨by decide +kernel, by decide +kernel⟩, by decide +kernel, Nat.le_of_ble_eq_true rfl⟩
abbrev mX10_departs : MD := (yX10_departs, cX10_departs, 4, none, [])
theorem mok_X10_departs : MOK mX10_departs 1 := ⟨by decide +kernel, tw_970, tw_28, ⟨by decide +kernel, by decide +kernel⟩, by decide +kernel, Nat.le_of_ble_eq_true rfl⟩
abbrev mX10_arrives : MD := (yX10_arrives, cX10_arrives, 6, none, [])
theorem mok_X10_arrives : MOK mX10_arrives 1 := ⟨by decide +kernel, tw_974, tw_28, ⟨by decide +kernel, by decide +kernel⟩, by decide +kernel, Nat.le_of_ble_eq_true rfl⟩
abbrev mX10_minute : MD := (yX10_minute, cX10_minute, 2, none, [])
theorem mok_X10_minute : MOK mX10_minute 0 := ⟨by decide +kernel, tw_945, tw_28, ⟨by decide +kernel, by decide +kernel⟩, by decide +kernel, Nat.le_of_ble_eq_true rfl⟩
abbrev mX10_agrees : MD := (yX10_agrees, cX10_agrees, 5, (some .boolean), [])
theorem mok_X10_agrees : MOK mX10_agrees 1 := ⟨by decide +kernel, tw_978, tw_28, ⟨by decide +kernel, by decide +kernel⟩, by decide +kernel, Nat.le_of_ble_eq_true rfl⟩
abbrev mJ5_init_d00df : MD := (yJ5_init_d00df, cJ5_init_d00df, 2, none, [])
theorem mok_J5_init_d00df : MOK mJ5_init_d00df 1 := ⟨by decide +kernel, tw_1138, tw_16, ⟨by decide +kernel, by decide +kernel⟩, by decide +kernel, Nat.le_of_ble_eq_true rfl⟩
abbrev mJ5_length_8abf5 : MD := (yJ5_length_8abf5, cJ5_length_8abf5, 1, (some .int), [])
theorem mok_J5_length_8abf5 : MOK mJ5_length_8abf5 0 := ⟨by decide +kernel, tw_1334, tw_16, ⟨by decide +kernel, by decide +kernel⟩, by decide +kernel, Nat.le_of_ble_eq_true rfl⟩
abbrev mJ5_ensureCapacityInternal_d00df : MD := (yJ5_ensureCapacityInternal_d00df, cJ5_ensureCapacityInternal_d00df, 3, none, [])
theorem mok_J5_ensureCapacityInternal_d00df : MOK mJ5_ensureCapacityInternal_d00df 1 := ⟨by decide +kernel, tw_1177, tw_16, ⟨by decide +kernel, by decide +kernel⟩, by decide +kernel, Nat.le_of_ble_eq_true rfl⟩
abbrev mJ5_newCapacity_0f7a4 : MD := (yJ5_newCapacity_0f7a4, cJ5_newCapacity_0f7a4, 6, (some .int), [])
theorem mok_J5_newCapacity_0f7a4 : MOK mJ5_newCapacity_0f7a4 1 := ⟨by decide +kernel, tw_1181, tw_16, ⟨by decide +kernel, by decide +kernel⟩, by decide +kernel, Nat.le_of_ble_eq_true rfl⟩
abbrev mJ5_append_cf1ce : MD := (yJ5_append_cf1ce, cJ5_append_cf1ce, 3, (some (.object "java/lang/AbstractStringBuilder")), [])
theorem mok_J5_append_cf1ce : MOK mJ5_append_cf1ce 1 := ⟨by decide +kernel, tw_1169, tw_16, ⟨by decide +kernel, by decide +kernel⟩, by decide +kernel, Nat.le_of_ble_eq_true rfl⟩
abbrev mJ5_append_3fe6f : MD := (yJ5_append_3fe6f, cJ5_append_3fe6f, 2, (some (.object "java/lang/AbstractStringBuilder")), [])
theorem mok_J5_append_3fe6f : MOK mJ5_append_3fe6f 1 := ⟨by decide +kernel, tw_1269, tw_16, ⟨by decide +kernel, by decide +kernel⟩, by decide +kernel, Nat.le_of_ble_eq_true rfl⟩
abbrev mJ5_append_c97b9 : MD := (yJ5_append_c97b9, cJ5_append_c97b9, 4, (some (.object "java/lang/AbstractStringBuilder")), [])
theorem mok_J5_append_c97b9 : MOK mJ5_append_c97b9 1 := ⟨by decide +kernel, tw_1283, tw_16, ⟨by decide +kernel, by decide +kernel⟩, by decide +kernel, Nat.le_of_ble_eq_true rfl⟩
abbrev mJ5_getValue_6d5f1 : MD := (yJ5_getValue_6d5f1, cJ5_getValue_6d5f1, 1, (some (.array .byte)), [])
theorem mok_J5_getValue_6d5f1 : MOK mJ5_getValue_6d5f1 0 := ⟨by decide +kernel, tw_1326, tw_16, ⟨by decide +kernel, by decide +kernel⟩, by decide +kernel, Nat.le_of_ble_eq_true rfl⟩
abbrev mJ5_isLatin1_aae02 : MD := (yJ5_isLatin1_aae02, cJ5_isLatin1_aae02, 1, (some .boolean), [])
theorem mok_J5_isLatin1_aae02 : MOK mJ5_isLatin1_aae02 0 := ⟨by decide +kernel, tw_1211, tw_16, ⟨by decide +kernel, by decide +kernel⟩, by decide +kernel, Nat.le_of_ble_eq_true rfl⟩
abbrev mJ5_inflateIfNeededFor_a7421 : MD := (yJ5_inflateIfNeededFor_a7421, cJ5_inflateIfNeededFor_a7421, 2, none, [])
theorem mok_J5_inflateIfNeededFor_a7421 : MOK mJ5_inflateIfNeededFor_a7421 1 := ⟨by decide +kernel, tw_1235, tw_16, ⟨by decide +kernel, by decide +kernel⟩, by decide +kernel, Nat.le_of_ble_eq_true rfl⟩
abbrev mJ5_putStringAt_47b60 : MD := (yJ5_putStringAt_47b60, cJ5_putStringAt_47b60, 3, none, [])
theorem mok_J5_putStringAt_47b60 : MOK mJ5_putStringAt_47b60 2 := ⟨by decide +kernel, tw_1231, tw_16, ⟨by decide +kernel, by decide +kernel⟩, by decide +kernel, Nat.le_of_ble_eq_true rfl⟩
abbrev mJ6_getChars_ba4f3 : MD := (yJ6_getChars_ba4f3, cJ6_getChars_ba4f3, 7, (some .int), [])
theorem mok_J6_getChars_ba4f3 : MOK mJ6_getChars_ba4f3 3 := ⟨by decide +kernel, tw_1289, tw_22, ⟨by decide +kernel, by decide +kernel⟩, by decide +kernel, Nat.le_of_ble_eq_true rfl⟩
abbrev mJ6_stringSize_0f7a4 : MD := (yJ6_stringSize_0f7a4, cJ6_stringSize_0f7a4, 4, (some .int), [])
theorem mok_J6_stringSize_0f7a4 : MOK mJ6_stringSize_0f7a4 1 := ⟨by decide +kernel, tw_1286, tw_22, ⟨by decide +kernel, by decide +kernel⟩, by decide +kernel, Nat.le_of_ble_eq_true rfl⟩
abbrev mJ0_init_81219 : MD := (yJ0_init_81219, cJ0_init_81219, 2, none, [])
theorem mok_J0_init_81219 : MOK mJ0_init_81219 1 := ⟨by decide +kernel, tw_1317, tw_11, ⟨by decide +kernel, by decide +kernel⟩, by decide +kernel, Nat.le_of_ble_eq_true rfl⟩
abbrev mJ0_length_8abf5 : MD := (yJ0_length_8abf5, cJ0_length_8abf5, 1, (some .int), [])
theorem mok_J0_length_8abf5 : MOK mJ0_length_8abf5 0 := ⟨by decide +kernel, tw_370, tw_11, ⟨by decide +kernel, by decide +kernel⟩, by decide +kernel, Nat.le_of_ble_eq_true rfl⟩
abbrev mJ0_charAt_5068e : MD := (yJ0_charAt_5068e, cJ0_charAt_5068e, 2, (some .char), [])
theorem mok_J0_charAt_5068e : MOK mJ0_charAt_5068e 1 := ⟨by decide +kernel, tw_380, tw_11, ⟨by decide +kernel, by decide +kernel⟩, by decide +kernel, Nat.le_of_ble_eq_true rfl⟩
abbrev mJ0_getBytes_840e7 : MD := (yJ0_getBytes_840e7, cJ0_getBytes_840e7, 4, none, [])
theorem mok_J0_getBytes_840e7 : MOK mJ0_getBytes_840e7 3 := ⟨by decide +kernel, tw_1259, tw_11, ⟨by decide +kernel, by decide +kernel⟩, by decide +kernel, Nat.le_of_ble_eq_true rfl⟩
abbrev mJ0_init_db425 : MD := (yJ0_init_db425, cJ0_init_db425, 5, none, [])
theorem mok_J0_init_db425 : MOK mJ0_init_db425 2 := ⟨by decide +kernel, tw_1320, tw_11, ⟨by decide +kernel, by decide +kernel⟩, by decide +kernel, Nat.le_of_ble_eq_true rfl⟩
abbrev mJ0_coder_7d493 : MD := (yJ0_coder_7d493, cJ0_coder_7d493, 1, (some .byte), [])
theorem mok_J0_coder_7d493 : MOK mJ0_coder_7d493 0 := ⟨by decide +kernel, tw_374, tw_11, ⟨by decide +kernel, by decide +kernel⟩, by decide +kernel, Nat.le_of_ble_eq_true rfl⟩
abbrev mJ0_isLatin1_aae02 : MD := (yJ0_isLatin1_aae02, cJ0_isLatin1_aae02, 1, (some .boolean), [])
theorem mok_J0_isLatin1_aae02 : MOK mJ0_isLatin1_aae02 0 := ⟨by decide +kernel, tw_384, tw_11, ⟨by decide +kernel, by decide +kernel⟩, by decide +kernel, Nat.le_of_ble_eq_true rfl⟩
abbrev mJ0_checkIndex_df160 : MD := (yJ0_checkIndex_df160, cJ0_checkIndex_df160, 2, none, [])
theorem mok_J0_checkIndex_df160 : MOK mJ0_checkIndex_df160 2 := ⟨by decide +kernel, tw_390, tw_11, ⟨by decide +kernel, by decide +kernel⟩, by decide +kernel, Nat.le_of_ble_eq_true rfl⟩
abbrev mJ4_init_da8c8 : MD := (yJ4_init_da8c8, cJ4_init_da8c8, 1, none, [])
theorem mok_J4_init_da8c8 : MOK mJ4_init_da8c8 0 := ⟨by decide +kernel, tw_1135, tw_17, ⟨by decide +kernel, by decide +kernel⟩, by decide +kernel, Nat.le_of_ble_eq_true rfl⟩
abbrev mJ4_append_15ec4 : MD := (yJ4_append_15ec4, cJ4_append_15ec4, 2, (some (.object "java/lang/StringBuilder")), [])
theorem mok_J4_append_15ec4 : MOK mJ4_append_15ec4 1 := ⟨by decide +kernel, tw_1166, tw_17, ⟨by decide +kernel, by decide +kernel⟩, by decide +kernel, Nat.le_of_ble_eq_true rfl⟩
abbrev mJ4_append_cf468 : MD := (yJ4_append_cf468, cJ4_append_cf468, 2, (some (.object "java/lang/StringBuilder")), [])
theorem mok_J4_append_cf468 : MOK mJ4_append_cf468 1 := ⟨by decide +kernel, tw_1266, tw_17, ⟨by decide +kernel, by decide +kernel⟩, by decide +kernel, Nat.le_of_ble_eq_true rfl⟩
abbrev mJ4_append_bf812 : MD := (yJ4_append_bf812, cJ4_append_bf812, 2, (some (.object "java/lang/StringBuilder")), [])
theorem mok_J4_append_bf812 : MOK mJ4_append_bf812 1 := ⟨by decide +kernel, tw_1280, tw_17, ⟨by decide +kernel, by decide +kernel⟩, by decide +kernel, Nat.le_of_ble_eq_true rfl⟩
abbrev mJ4_toString_0e30d : MD := (yJ4_toString_0e30d, cJ4_toString_0e30d, 1, (some (.object "java/lang/String")), [])
theorem mok_J4_toString_0e30d : MOK mJ4_toString_0e30d 0 := ⟨by decide +kernel, tw_1312, tw_17, ⟨by decide +kernel, by decide +kernel⟩, by decide +kernel, Nat.le_of_ble_eq_true rfl⟩
abbrev mJ4_length_8abf5 : MD := (yJ4_length_8abf5, cJ4_length_8abf5, 1, (some .int), [])
theorem mok_J4_length_8abf5 : MOK mJ4_length_8abf5 0 := ⟨by decide +kernel, tw_1332, tw_17, ⟨by decide +kernel, by decide +kernel⟩, by decide +kernel, Nat.le_of_ble_eq_true rfl⟩
abbrev mJ1_charAt_3b067 : MD := (yJ1_charAt_3b067, cJ1_charAt_3b067, 2, (some .char), [])
theorem mok_J1_charAt_3b067 : MOK mJ1_charAt_3b067 2 := ⟨by decide +kernel, tw_387, tw_12, ⟨by decide +kernel, by decide +kernel⟩, by decide +kernel, Nat.le_of_ble_eq_true rfl⟩
abbrev mJ1_canEncode_fc78d : MD := (yJ1_canEncode_fc78d, cJ1_canEncode_fc78d, 1, (some .boolean), [])
theorem mok_J1_canEncode_fc78d : MOK mJ1_canEncode_fc78d 1 := ⟨by decide +kernel, tw_1272, tw_12, ⟨by decide +kernel, by decide +kernel⟩, by decide +kernel, Nat.le_of_ble_eq_true rfl⟩
abbrev mJ7_copyOf_9075b : MD := (yJ7_copyOf_9075b, cJ7_copyOf_9075b, 3, (some (.array .byte)), [])
theorem mok_J7_copyOf_9075b : MOK mJ7_copyOf_9075b 2 := ⟨by decide +kernel, tw_1195, tw_19, ⟨by decide +kernel, by decide +kernel⟩, by decide +kernel, Nat.le_of_ble_eq_true rfl⟩
abbrev mJ7_checkLength_df160 : MD := (yJ7_checkLength_df160, cJ7_checkLength_df160, 2, none, [])
theorem mok_J7_checkLength_df160 : MOK mJ7_checkLength_df160 2 := ⟨by decide +kernel, tw_1344, tw_19, ⟨by decide +kernel, by decide +kernel⟩, by decide +kernel, Nat.le_of_ble_eq_true rfl⟩
abbrev mJ7_copyOfRange_39247 : MD := (yJ7_copyOfRange_39247, cJ7_copyOfRange_39247, 3, (some (.array .byte)), [])
theorem mok_J7_copyOfRange_39247 : MOK mJ7_copyOfRange_39247 3 := ⟨by decide +kernel, tw_1338, tw_19, ⟨by decide +kernel, by decide +kernel⟩, by decide +kernel, Nat.le_of_ble_eq_true rfl⟩
abbrev mJ7_copyOfRangeByte_39247 : MD := (yJ7_copyOfRangeByte_39247, cJ7_copyOfRangeByte_39247, 5, (some (.array .byte)), [])
theorem mok_J7_copyOfRangeByte_39247 : MOK mJ7_copyOfRangeByte_39247 3 := ⟨by decide +kernel, tw_1341, tw_19, ⟨by decide +kernel, by decide +kernel⟩, by decide +kernel, Nat.le_of_ble_eq_true rfl⟩
abbrev mJ8_newLength_cabcc : MD := (yJ8_newLength_cabcc, cJ8_newLength_cabcc, 4, (some .int), [])
theorem mok_J8_newLength_cabcc : MOK mJ8_newLength_cabcc 3 := ⟨by decide +kernel, tw_1184, tw_18, ⟨by decide +kernel, by decide +kernel⟩, by decide +kernel, Nat.le_of_ble_eq_true rfl⟩
abbrev mJ3_checkIndex_8e157 : MD := (yJ3_checkIndex_8e157, cJ3_checkIndex_8e157, 3, (some .int), [])
theorem mok_J3_checkIndex_8e157 : MOK mJ3_checkIndex_8e157 3 := ⟨by decide +kernel, tw_395, tw_13, ⟨by decide +kernel, by decide +kernel⟩, by decide +kernel, Nat.le_of_ble_eq_true rfl⟩
abbrev mL_cell : MD := (yL_cell, cL_cell, 2, (some .int), [])
theorem mok_L_cell : MOK mL_cell 2 := ⟨by decide +kernel, tw_1063, tw_0, ⟨by decide +kernel, by decide +kernel⟩, by decide +kernel, Nat.le_of_ble_eq_true rfl⟩
abbrev mL_says : MD := (yL_says, cL_says, 5, none, [])
theorem mok_L_says : MOK mL_says 2 := ⟨by decide +kernel, tw_1067, tw_0, ⟨by decide +kernel, by decide +kernel⟩, by decide +kernel, Nat.le_of_ble_eq_true rfl⟩
abbrev mL_loaded : MD := (yL_loaded, cL_loaded, 2, (some .int), [(0, 4, 5, 31)])
theorem mok_L_loaded : MOK mL_loaded 1 := ⟨by decide +kernel, tw_1116, tw_0, ⟨by decide +kernel, by decide +kernel⟩, by decide +kernel, Nat.le_of_ble_eq_true rfl⟩
abbrev mL_text : MD := (yL_text, cL_text, 11, (some (.object "java/lang/String")), [])
theorem mok_L_text : MOK mL_text 1 := ⟨by decide +kernel, tw_1130, tw_0, ⟨by decide +kernel, by decide +kernel⟩, by decide +kernel, Nat.le_of_ble_eq_true rfl⟩
abbrev mL_acts : MD := (yL_acts, cL_acts, 8, (some .int), [(38, 99, 235, 105), (100, 129, 235, 105), (130, 141, 235, 105), (142, 171, 235, 105), (172, 224, 235, 105), (225, 234, 235, 105)])
theorem mok_L_acts : MOK mL_acts 2 := ⟨by decide +kernel, tw_1376, tw_0, ⟨by decide +kernel, by decide +kernel⟩, by decide +kernel, Nat.le_of_ble_eq_true rfl⟩
abbrev mL_law : MD := (yL_law, cL_law, 8, (some .boolean), [])
theorem fl_X5_7 : FLD RX5 7 5 0 := ⟨_, _, _, rfl, Nat.le_of_ble_eq_true rfl, tw_58⟩
theorem fp_X5_7 {md : MD} (h : md.1.cls = RX5) : FPT md 7 5 0 .int := ⟨_, _, _, rfl, Nat.le_of_ble_eq_true rfl, by rw [h]; exact tw_58, by decide +kernel, Or.inl rfl⟩
theorem fl_X4_83 : FLD RX4 83 5 0 := ⟨_, _, _, rfl, Nat.le_of_ble_eq_true rfl, tw_59⟩
theorem fp_X4_83 {md : MD} (h : md.1.cls = RX4) : FPT md 83 5 0 .int := ⟨_, _, _, rfl, Nat.le_of_ble_eq_true rfl, by rw [h]; exact tw_59, by decide +kernel, Or.inl rfl⟩
theorem fl_X5_13 : FLD RX5 13 5 1 := ⟨_, _, _, rfl, Nat.le_of_ble_eq_true rfl, tw_60⟩
theorem fp_X5_13 {md : MD} (h : md.1.cls = RX5) : FPT md 13 5 1 .boolean := ⟨_, _, _, rfl, Nat.le_of_ble_eq_true rfl, by rw [h]; exact tw_60, by decide +kernel, Or.inl rfl⟩
theorem fl_X4_86 : FLD RX4 86 5 1 := ⟨_, _, _, rfl, Nat.le_of_ble_eq_true rfl, tw_61⟩
theorem fp_X4_86 {md : MD} (h : md.1.cls = RX4) : FPT md 86 5 1 .boolean := ⟨_, _, _, rfl, Nat.le_of_ble_eq_true rfl, by rw [h]; exact tw_61, by decide +kernel, Or.inl rfl⟩
theorem fl_X9_122 : FLD RX9 122 5 1 := ⟨_, _, _, rfl, Nat.le_of_ble_eq_true rfl, tw_62⟩
theorem fp_X9_122 {md : MD} (h : md.1.cls = RX9) : FPT md 122 5 1 .boolean := ⟨_, _, _, rfl, Nat.le_of_ble_eq_true rfl, by rw [h]; exact tw_62, by decide +kernel, Or.inl rfl⟩
theorem fl_X5_17 : FLD RX5 17 5 2 := ⟨_, _, _, rfl, Nat.le_of_ble_eq_true rfl, tw_63⟩
theorem fp_X5_17 {md : MD} (h : md.1.cls = RX5) : FPT md 17 5 2 .int := ⟨_, _, _, rfl, Nat.le_of_ble_eq_true rfl, by rw [h]; exact tw_63, by decide +kernel, Or.inl rfl⟩
theorem fl_X4_90 : FLD RX4 90 5 2 := ⟨_, _, _, rfl, Nat.le_of_ble_eq_true rfl, tw_64⟩
theorem fp_X4_90 {md : MD} (h : md.1.cls = RX4) : FPT md 90 5 2 .int := ⟨_, _, _, rfl, Nat.le_of_ble_eq_true rfl, by rw [h]; exact tw_64, by decide +kernel, Or.inl rfl⟩
theorem fl_X9_128 : FLD RX9 128 5 2 := ⟨_, _, _, rfl, Nat.le_of_ble_eq_true rfl, tw_65⟩
theorem fp_X9_128 {md : MD} (h : md.1.cls = RX9) : FPT md 128 5 2 .int := ⟨_, _, _, rfl, Nat.le_of_ble_eq_true rfl, by rw [h]; exact tw_65, by decide +kernel, Or.inl rfl⟩
theorem fl_X5_20 : FLD RX5 20 5 3 := ⟨_, _, _, rfl, Nat.le_of_ble_eq_true rfl, tw_66⟩
theorem fp_X5_20 {md : MD} (h : md.1.cls = RX5) : FPT md 20 5 3 .int := ⟨_, _, _, rfl, Nat.le_of_ble_eq_true rfl, by rw [h]; exact tw_66, by decide +kernel, Or.inl rfl⟩
theorem fl_X4_93 : FLD RX4 93 5 3 := ⟨_, _, _, rfl, Nat.le_of_ble_eq_true rfl, tw_67⟩
theorem fp_X4_93 {md : MD} (h : md.1.cls = RX4) : FPT md 93 5 3 .int := ⟨_, _, _, rfl, Nat.le_of_ble_eq_true rfl, by rw [h]; exact tw_67, by decide +kernel, Or.inl rfl⟩
theorem fl_X7_7 : FLD RX7 7 7 0 := ⟨_, _, _, rfl, Nat.le_of_ble_eq_true rfl, tw_83⟩
theorem fp_X7_7 {md : MD} (h : md.1.cls = RX7) : FPT md 7 7 0 .int := ⟨_, _, _, rfl, Nat.le_of_ble_eq_true rfl, by rw [h]; exact tw_83, by decide +kernel, Or.inl rfl⟩
theorem fl_X4_96 : FLD RX4 96 7 0 := ⟨_, _, _, rfl, Nat.le_of_ble_eq_true rfl, tw_84⟩
theorem fp_X4_96 {md : MD} (h : md.1.cls = RX4) : FPT md 96 7 0 .int := ⟨_, _, _, rfl, Nat.le_of_ble_eq_true rfl, by rw [h]; exact tw_84, by decide +kernel, Or.inl rfl⟩
theorem fl_X7_13 : FLD RX7 13 7 1 := ⟨_, _, _, rfl, Nat.le_of_ble_eq_true rfl, tw_85⟩
theorem fp_X7_13 {md : MD} (h : md.1.cls = RX7) : FPT md 13 7 1 .int := ⟨_, _, _, rfl, Nat.le_of_ble_eq_true rfl, by rw [h]; exact tw_85, by decide +kernel, Or.inl rfl⟩
theorem fl_X4_99 : FLD RX4 99 7 1 := ⟨_, _, _, rfl, Nat.le_of_ble_eq_true rfl, tw_86⟩
theorem fp_X4_99 {md : MD} (h : md.1.cls = RX4) : FPT md 99 7 1 .int := ⟨_, _, _, rfl, Nat.le_of_ble_eq_true rfl, by rw [h]; exact tw_86, by decide +kernel, Or.inl rfl⟩
theorem fl_X7_16 : FLD RX7 16 7 2 := ⟨_, _, _, rfl, Nat.le_of_ble_eq_true rfl, tw_87⟩
theorem fp_X7_16 {md : MD} (h : md.1.cls = RX7) : FPT md 16 7 2 .int := ⟨_, _, _, rfl, Nat.le_of_ble_eq_true rfl, by rw [h]; exact tw_87, by decide +kernel, Or.inl rfl⟩
theorem fl_X4_102 : FLD RX4 102 7 2 := ⟨_, _, _, rfl, Nat.le_of_ble_eq_true rfl, tw_88⟩
theorem fp_X4_102 {md : MD} (h : md.1.cls = RX4) : FPT md 102 7 2 .int := ⟨_, _, _, rfl, Nat.le_of_ble_eq_true rfl, by rw [h]; exact tw_88, by decide +kernel, Or.inl rfl⟩
theorem fl_X9_151 : FLD RX9 151 7 2 := ⟨_, _, _, rfl, Nat.le_of_ble_eq_true rfl, tw_89⟩
theorem fp_X9_151 {md : MD} (h : md.1.cls = RX9) : FPT md 151 7 2 .int := ⟨_, _, _, rfl, Nat.le_of_ble_eq_true rfl, by rw [h]; exact tw_89, by decide +kernel, Or.inl rfl⟩
theorem fl_X7_19 : FLD RX7 19 7 3 := ⟨_, _, _, rfl, Nat.le_of_ble_eq_true rfl, tw_90⟩
theorem fp_X7_19 {md : MD} (h : md.1.cls = RX7) : FPT md 19 7 3 .boolean := ⟨_, _, _, rfl, Nat.le_of_ble_eq_true rfl, by rw [h]; exact tw_90, by decide +kernel, Or.inl rfl⟩
theorem fl_X4_105 : FLD RX4 105 7 3 := ⟨_, _, _, rfl, Nat.le_of_ble_eq_true rfl, tw_91⟩
theorem fp_X4_105 {md : MD} (h : md.1.cls = RX4) : FPT md 105 7 3 .boolean := ⟨_, _, _, rfl, Nat.le_of_ble_eq_true rfl, by rw [h]; exact tw_91, by decide +kernel, Or.inl rfl⟩
theorem fl_X9_156 : FLD RX9 156 7 3 := ⟨_, _, _, rfl, Nat.le_of_ble_eq_true rfl, tw_92⟩
theorem fp_X9_156 {md : MD} (h : md.1.cls = RX9) : FPT md 156 7 3 .boolean := ⟨_, _, _, rfl, Nat.le_of_ble_eq_true rfl, by rw [h]; exact tw_92, by decide +kernel, Or.inl rfl⟩
theorem fl_X8_15 : FLD RX8 15 8 0 := ⟨_, _, _, rfl, Nat.le_of_ble_eq_true rfl, tw_107⟩
theorem fp_X8_15 {md : MD} (h : md.1.cls = RX8) (hi : md.1.name = "<init>") : FPT md 15 8 0 .int := ⟨_, _, _, rfl, Nat.le_of_ble_eq_true rfl, by rw [h]; exact tw_107, by decide +kernel, Or.inr ⟨hi, rfl, h.symm⟩⟩
theorem fl_X4_189 : FLD RX4 189 8 0 := ⟨_, _, _, rfl, Nat.le_of_ble_eq_true rfl, tw_108⟩
theorem fl_X8_19 : FLD RX8 19 8 1 := ⟨_, _, _, rfl, Nat.le_of_ble_eq_true rfl, tw_109⟩
theorem fp_X8_19 {md : MD} (h : md.1.cls = RX8) : FPT md 19 8 1 .int := ⟨_, _, _, rfl, Nat.le_of_ble_eq_true rfl, by rw [h]; exact tw_109, by decide +kernel, Or.inl rfl⟩
theorem fl_X4_108 : FLD RX4 108 8 1 := ⟨_, _, _, rfl, Nat.le_of_ble_eq_true rfl, tw_110⟩
theorem fp_X4_108 {md : MD} (h : md.1.cls = RX4) : FPT md 108 8 1 .int := ⟨_, _, _, rfl, Nat.le_of_ble_eq_true rfl, by rw [h]; exact tw_110, by decide +kernel, Or.inl rfl⟩
theorem fl_X9_169 : FLD RX9 169 8 1 := ⟨_, _, _, rfl, Nat.le_of_ble_eq_true rfl, tw_111⟩
theorem fp_X9_169 {md : MD} (h : md.1.cls = RX9) : FPT md 169 8 1 .int := ⟨_, _, _, rfl, Nat.le_of_ble_eq_true rfl, by rw [h]; exact tw_111, by decide +kernel, Or.inl rfl⟩
theorem fl_X8_9 : FLD RX8 9 8 2 := ⟨_, _, _, rfl, Nat.le_of_ble_eq_true rfl, tw_112⟩
theorem fp_X8_9 {md : MD} (h : md.1.cls = RX8) (hi : md.1.name = "<init>") : FPT md 9 8 2 (.array .int) := ⟨_, _, _, rfl, Nat.le_of_ble_eq_true rfl, by rw [h]; exact tw_112, by decide +kernel, Or.inr ⟨hi, rfl, h.symm⟩⟩
theorem fl_X4_114 : FLD RX4 114 8 2 := ⟨_, _, _, rfl, Nat.le_of_ble_eq_true rfl, tw_113⟩
theorem fl_X8_22 : FLD RX8 22 8 3 := ⟨_, _, _, rfl, Nat.le_of_ble_eq_true rfl, tw_114⟩
theorem fp_X8_22 {md : MD} (h : md.1.cls = RX8) : FPT md 22 8 3 .int := ⟨_, _, _, rfl, Nat.le_of_ble_eq_true rfl, by rw [h]; exact tw_114, by decide +kernel, Or.inl rfl⟩
theorem fl_X4_111 : FLD RX4 111 8 3 := ⟨_, _, _, rfl, Nat.le_of_ble_eq_true rfl, tw_115⟩
theorem fp_X4_111 {md : MD} (h : md.1.cls = RX4) : FPT md 111 8 3 .int := ⟨_, _, _, rfl, Nat.le_of_ble_eq_true rfl, by rw [h]; exact tw_115, by decide +kernel, Or.inl rfl⟩
theorem fl_X9_174 : FLD RX9 174 8 3 := ⟨_, _, _, rfl, Nat.le_of_ble_eq_true rfl, tw_116⟩
theorem fp_X9_174 {md : MD} (h : md.1.cls = RX9) : FPT md 174 8 3 .int := ⟨_, _, _, rfl, Nat.le_of_ble_eq_true rfl, by rw [h]; exact tw_116, by decide +kernel, Or.inl rfl⟩
theorem fl_X8_25 : FLD RX8 25 8 4 := ⟨_, _, _, rfl, Nat.le_of_ble_eq_true rfl, tw_117⟩
theorem fp_X8_25 {md : MD} (h : md.1.cls = RX8) : FPT md 25 8 4 .int := ⟨_, _, _, rfl, Nat.le_of_ble_eq_true rfl, by rw [h]; exact tw_117, by decide +kernel, Or.inl rfl⟩
theorem fl_X4_117 : FLD RX4 117 8 4 := ⟨_, _, _, rfl, Nat.le_of_ble_eq_true rfl, tw_118⟩
theorem fp_X4_117 {md : MD} (h : md.1.cls = RX4) : FPT md 117 8 4 .int := ⟨_, _, _, rfl, Nat.le_of_ble_eq_true rfl, by rw [h]; exact tw_118, by decide +kernel, Or.inl rfl⟩
theorem fl_X8_28 : FLD RX8 28 8 5 := ⟨_, _, _, rfl, Nat.le_of_ble_eq_true rfl, tw_119⟩
theorem fp_X8_28 {md : MD} (h : md.1.cls = RX8) : FPT md 28 8 5 .boolean := ⟨_, _, _, rfl, Nat.le_of_ble_eq_true rfl, by rw [h]; exact tw_119, by decide +kernel, Or.inl rfl⟩
theorem fl_X4_120 : FLD RX4 120 8 5 := ⟨_, _, _, rfl, Nat.le_of_ble_eq_true rfl, tw_120⟩
theorem fp_X4_120 {md : MD} (h : md.1.cls = RX4) : FPT md 120 8 5 .boolean := ⟨_, _, _, rfl, Nat.le_of_ble_eq_true rfl, by rw [h]; exact tw_120, by decide +kernel, Or.inl rfl⟩
theorem fl_X9_193 : FLD RX9 193 8 5 := ⟨_, _, _, rfl, Nat.le_of_ble_eq_true rfl, tw_121⟩
theorem fp_X9_193 {md : MD} (h : md.1.cls = RX9) : FPT md 193 8 5 .boolean := ⟨_, _, _, rfl, Nat.le_of_ble_eq_true rfl, by rw [h]; exact tw_121, by decide +kernel, Or.inl rfl⟩
theorem fl_X8_32 : FLD RX8 32 8 6 := ⟨_, _, _, rfl, Nat.le_of_ble_eq_true rfl, tw_122⟩
theorem fp_X8_32 {md : MD} (h : md.1.cls = RX8) : FPT md 32 8 6 .int := ⟨_, _, _, rfl, Nat.le_of_ble_eq_true rfl, by rw [h]; exact tw_122, by decide +kernel, Or.inl rfl⟩
theorem fl_X4_123 : FLD RX4 123 8 6 := ⟨_, _, _, rfl, Nat.le_of_ble_eq_true rfl, tw_123⟩
theorem fp_X4_123 {md : MD} (h : md.1.cls = RX4) : FPT md 123 8 6 .int := ⟨_, _, _, rfl, Nat.le_of_ble_eq_true rfl, by rw [h]; exact tw_123, by decide +kernel, Or.inl rfl⟩
theorem fl_X9_196 : FLD RX9 196 8 6 := ⟨_, _, _, rfl, Nat.le_of_ble_eq_true rfl, tw_124⟩
theorem fp_X9_196 {md : MD} (h : md.1.cls = RX9) : FPT md 196 8 6 .int := ⟨_, _, _, rfl, Nat.le_of_ble_eq_true rfl, by rw [h]; exact tw_124, by decide +kernel, Or.inl rfl⟩
theorem fl_X8_35 : FLD RX8 35 8 7 := ⟨_, _, _, rfl, Nat.le_of_ble_eq_true rfl, tw_125⟩
theorem fp_X8_35 {md : MD} (h : md.1.cls = RX8) : FPT md 35 8 7 .int := ⟨_, _, _, rfl, Nat.le_of_ble_eq_true rfl, by rw [h]; exact tw_125, by decide +kernel, Or.inl rfl⟩
theorem fl_X4_126 : FLD RX4 126 8 7 := ⟨_, _, _, rfl, Nat.le_of_ble_eq_true rfl, tw_126⟩
theorem fp_X4_126 {md : MD} (h : md.1.cls = RX4) : FPT md 126 8 7 .int := ⟨_, _, _, rfl, Nat.le_of_ble_eq_true rfl, by rw [h]; exact tw_126, by decide +kernel, Or.inl rfl⟩
theorem fl_X9_199 : FLD RX9 199 8 7 := ⟨_, _, _, rfl, Nat.le_of_ble_eq_true rfl, tw_127⟩
theorem fp_X9_199 {md : MD} (h : md.1.cls = RX9) : FPT md 199 8 7 .int := ⟨_, _, _, rfl, Nat.le_of_ble_eq_true rfl, by rw [h]; exact tw_127, by decide +kernel, Or.inl rfl⟩
theorem fl_X8_38 : FLD RX8 38 8 8 := ⟨_, _, _, rfl, Nat.le_of_ble_eq_true rfl, tw_128⟩
theorem fp_X8_38 {md : MD} (h : md.1.cls = RX8) : FPT md 38 8 8 .int := ⟨_, _, _, rfl, Nat.le_of_ble_eq_true rfl, by rw [h]; exact tw_128, by decide +kernel, Or.inl rfl⟩
theorem fl_X4_129 : FLD RX4 129 8 8 := ⟨_, _, _, rfl, Nat.le_of_ble_eq_true rfl, tw_129⟩
theorem fp_X4_129 {md : MD} (h : md.1.cls = RX4) : FPT md 129 8 8 .int := ⟨_, _, _, rfl, Nat.le_of_ble_eq_true rfl, by rw [h]; exact tw_129, by decide +kernel, Or.inl rfl⟩
theorem fl_X9_202 : FLD RX9 202 8 8 := ⟨_, _, _, rfl, Nat.le_of_ble_eq_true rfl, tw_130⟩
theorem fp_X9_202 {md : MD} (h : md.1.cls = RX9) : FPT md 202 8 8 .int := ⟨_, _, _, rfl, Nat.le_of_ble_eq_true rfl, by rw [h]; exact tw_130, by decide +kernel, Or.inl rfl⟩
theorem fl_X8_41 : FLD RX8 41 8 9 := ⟨_, _, _, rfl, Nat.le_of_ble_eq_true rfl, tw_131⟩
theorem fp_X8_41 {md : MD} (h : md.1.cls = RX8) : FPT md 41 8 9 .int := ⟨_, _, _, rfl, Nat.le_of_ble_eq_true rfl, by rw [h]; exact tw_131, by decide +kernel, Or.inl rfl⟩
theorem fl_X4_132 : FLD RX4 132 8 9 := ⟨_, _, _, rfl, Nat.le_of_ble_eq_true rfl, tw_132⟩
theorem fp_X4_132 {md : MD} (h : md.1.cls = RX4) : FPT md 132 8 9 .int := ⟨_, _, _, rfl, Nat.le_of_ble_eq_true rfl, by rw [h]; exact tw_132, by decide +kernel, Or.inl rfl⟩
theorem fl_X9_205 : FLD RX9 205 8 9 := ⟨_, _, _, rfl, Nat.le_of_ble_eq_true rfl, tw_133⟩
theorem fp_X9_205 {md : MD} (h : md.1.cls = RX9) : FPT md 205 8 9 .int := ⟨_, _, _, rfl, Nat.le_of_ble_eq_true rfl, by rw [h]; exact tw_133, by decide +kernel, Or.inl rfl⟩
theorem fl_X2_9 : FLD RX2 9 2 0 := ⟨_, _, _, rfl, Nat.le_of_ble_eq_true rfl, tw_160⟩
theorem fp_X2_9 {md : MD} (h : md.1.cls = RX2) (hi : md.1.name = "<init>") : FPT md 9 2 0 .int := ⟨_, _, _, rfl, Nat.le_of_ble_eq_true rfl, by rw [h]; exact tw_160, by decide +kernel, Or.inr ⟨hi, rfl, h.symm⟩⟩
theorem fl_X2_15 : FLD RX2 15 2 1 := ⟨_, _, _, rfl, Nat.le_of_ble_eq_true rfl, tw_161⟩
theorem fp_X2_15 {md : MD} (h : md.1.cls = RX2) : FPT md 15 2 1 .int := ⟨_, _, _, rfl, Nat.le_of_ble_eq_true rfl, by rw [h]; exact tw_161, by decide +kernel, Or.inl rfl⟩
theorem fl_X4_135 : FLD RX4 135 2 1 := ⟨_, _, _, rfl, Nat.le_of_ble_eq_true rfl, tw_162⟩
theorem fp_X4_135 {md : MD} (h : md.1.cls = RX4) : FPT md 135 2 1 .int := ⟨_, _, _, rfl, Nat.le_of_ble_eq_true rfl, by rw [h]; exact tw_162, by decide +kernel, Or.inl rfl⟩
theorem fl_X9_215 : FLD RX9 215 2 1 := ⟨_, _, _, rfl, Nat.le_of_ble_eq_true rfl, tw_163⟩
theorem fp_X9_215 {md : MD} (h : md.1.cls = RX9) : FPT md 215 2 1 .int := ⟨_, _, _, rfl, Nat.le_of_ble_eq_true rfl, by rw [h]; exact tw_163, by decide +kernel, Or.inl rfl⟩
theorem fl_X2_18 : FLD RX2 18 2 2 := ⟨_, _, _, rfl, Nat.le_of_ble_eq_true rfl, tw_164⟩
theorem fp_X2_18 {md : MD} (h : md.1.cls = RX2) : FPT md 18 2 2 .int := ⟨_, _, _, rfl, Nat.le_of_ble_eq_true rfl, by rw [h]; exact tw_164, by decide +kernel, Or.inl rfl⟩
theorem fl_X4_136 : FLD RX4 136 2 2 := ⟨_, _, _, rfl, Nat.le_of_ble_eq_true rfl, tw_165⟩
theorem fp_X4_136 {md : MD} (h : md.1.cls = RX4) : FPT md 136 2 2 .int := ⟨_, _, _, rfl, Nat.le_of_ble_eq_true rfl, by rw [h]; exact tw_165, by decide +kernel, Or.inl rfl⟩
theorem fl_X9_220 : FLD RX9 220 2 2 := ⟨_, _, _, rfl, Nat.le_of_ble_eq_true rfl, tw_166⟩
theorem fp_X9_220 {md : MD} (h : md.1.cls = RX9) : FPT md 220 2 2 .int := ⟨_, _, _, rfl, Nat.le_of_ble_eq_true rfl, by rw [h]; exact tw_166, by decide +kernel, Or.inl rfl⟩
theorem fl_X2_21 : FLD RX2 21 2 3 := ⟨_, _, _, rfl, Nat.le_of_ble_eq_true rfl, tw_167⟩
theorem fp_X2_21 {md : MD} (h : md.1.cls = RX2) : FPT md 21 2 3 .int := ⟨_, _, _, rfl, Nat.le_of_ble_eq_true rfl, by rw [h]; exact tw_167, by decide +kernel, Or.inl rfl⟩
theorem fl_X4_137 : FLD RX4 137 2 3 := ⟨_, _, _, rfl, Nat.le_of_ble_eq_true rfl, tw_168⟩
theorem fp_X4_137 {md : MD} (h : md.1.cls = RX4) : FPT md 137 2 3 .int := ⟨_, _, _, rfl, Nat.le_of_ble_eq_true rfl, by rw [h]; exact tw_168, by decide +kernel, Or.inl rfl⟩
theorem fl_X9_223 : FLD RX9 223 2 3 := ⟨_, _, _, rfl, Nat.le_of_ble_eq_true rfl, tw_169⟩
theorem fp_X9_223 {md : MD} (h : md.1.cls = RX9) : FPT md 223 2 3 .int := ⟨_, _, _, rfl, Nat.le_of_ble_eq_true rfl, by rw [h]; exact tw_169, by decide +kernel, Or.inl rfl⟩
theorem fl_X2_24 : FLD RX2 24 2 4 := ⟨_, _, _, rfl, Nat.le_of_ble_eq_true rfl, tw_170⟩
theorem fp_X2_24 {md : MD} (h : md.1.cls = RX2) : FPT md 24 2 4 .int := ⟨_, _, _, rfl, Nat.le_of_ble_eq_true rfl, by rw [h]; exact tw_170, by decide +kernel, Or.inl rfl⟩
theorem fl_X4_140 : FLD RX4 140 2 4 := ⟨_, _, _, rfl, Nat.le_of_ble_eq_true rfl, tw_171⟩
theorem fp_X4_140 {md : MD} (h : md.1.cls = RX4) : FPT md 140 2 4 .int := ⟨_, _, _, rfl, Nat.le_of_ble_eq_true rfl, by rw [h]; exact tw_171, by decide +kernel, Or.inl rfl⟩
theorem fl_X9_226 : FLD RX9 226 2 4 := ⟨_, _, _, rfl, Nat.le_of_ble_eq_true rfl, tw_172⟩
theorem fp_X9_226 {md : MD} (h : md.1.cls = RX9) : FPT md 226 2 4 .int := ⟨_, _, _, rfl, Nat.le_of_ble_eq_true rfl, by rw [h]; exact tw_172, by decide +kernel, Or.inl rfl⟩
theorem fl_X2_27 : FLD RX2 27 2 5 := ⟨_, _, _, rfl, Nat.le_of_ble_eq_true rfl, tw_173⟩
theorem fp_X2_27 {md : MD} (h : md.1.cls = RX2) : FPT md 27 2 5 .int := ⟨_, _, _, rfl, Nat.le_of_ble_eq_true rfl, by rw [h]; exact tw_173, by decide +kernel, Or.inl rfl⟩
theorem fl_X4_143 : FLD RX4 143 2 5 := ⟨_, _, _, rfl, Nat.le_of_ble_eq_true rfl, tw_174⟩
theorem fp_X4_143 {md : MD} (h : md.1.cls = RX4) : FPT md 143 2 5 .int := ⟨_, _, _, rfl, Nat.le_of_ble_eq_true rfl, by rw [h]; exact tw_174, by decide +kernel, Or.inl rfl⟩
theorem fl_X9_229 : FLD RX9 229 2 5 := ⟨_, _, _, rfl, Nat.le_of_ble_eq_true rfl, tw_175⟩
theorem fp_X9_229 {md : MD} (h : md.1.cls = RX9) : FPT md 229 2 5 .int := ⟨_, _, _, rfl, Nat.le_of_ble_eq_true rfl, by rw [h]; exact tw_175, by decide +kernel, Or.inl rfl⟩
theorem fl_X2_30 : FLD RX2 30 2 6 := ⟨_, _, _, rfl, Nat.le_of_ble_eq_true rfl, tw_176⟩
theorem fp_X2_30 {md : MD} (h : md.1.cls = RX2) : FPT md 30 2 6 .int := ⟨_, _, _, rfl, Nat.le_of_ble_eq_true rfl, by rw [h]; exact tw_176, by decide +kernel, Or.inl rfl⟩
theorem fl_X4_146 : FLD RX4 146 2 6 := ⟨_, _, _, rfl, Nat.le_of_ble_eq_true rfl, tw_177⟩
theorem fp_X4_146 {md : MD} (h : md.1.cls = RX4) : FPT md 146 2 6 .int := ⟨_, _, _, rfl, Nat.le_of_ble_eq_true rfl, by rw [h]; exact tw_177, by decide +kernel, Or.inl rfl⟩
theorem fl_X9_242 : FLD RX9 242 2 6 := ⟨_, _, _, rfl, Nat.le_of_ble_eq_true rfl, tw_178⟩
theorem fp_X9_242 {md : MD} (h : md.1.cls = RX9) : FPT md 242 2 6 .int := ⟨_, _, _, rfl, Nat.le_of_ble_eq_true rfl, by rw [h]; exact tw_178, by decide +kernel, Or.inl rfl⟩
theorem fl_X2_33 : FLD RX2 33 2 7 := ⟨_, _, _, rfl, Nat.le_of_ble_eq_true rfl, tw_179⟩
theorem fp_X2_33 {md : MD} (h : md.1.cls = RX2) : FPT md 33 2 7 .int := ⟨_, _, _, rfl, Nat.le_of_ble_eq_true rfl, by rw [h]; exact tw_179, by decide +kernel, Or.inl rfl⟩
theorem fl_X4_149 : FLD RX4 149 2 7 := ⟨_, _, _, rfl, Nat.le_of_ble_eq_true rfl, tw_180⟩
theorem fp_X4_149 {md : MD} (h : md.1.cls = RX4) : FPT md 149 2 7 .int := ⟨_, _, _, rfl, Nat.le_of_ble_eq_true rfl, by rw [h]; exact tw_180, by decide +kernel, Or.inl rfl⟩
theorem fl_X9_232 : FLD RX9 232 2 7 := ⟨_, _, _, rfl, Nat.le_of_ble_eq_true rfl, tw_181⟩
theorem fp_X9_232 {md : MD} (h : md.1.cls = RX9) : FPT md 232 2 7 .int := ⟨_, _, _, rfl, Nat.le_of_ble_eq_true rfl, by rw [h]; exact tw_181, by decide +kernel, Or.inl rfl⟩
theorem fl_X2_36 : FLD RX2 36 2 8 := ⟨_, _, _, rfl, Nat.le_of_ble_eq_true rfl, tw_182⟩
theorem fp_X2_36 {md : MD} (h : md.1.cls = RX2) : FPT md 36 2 8 .int := ⟨_, _, _, rfl, Nat.le_of_ble_eq_true rfl, by rw [h]; exact tw_182, by decide +kernel, Or.inl rfl⟩
theorem fl_X4_152 : FLD RX4 152 2 8 := ⟨_, _, _, rfl, Nat.le_of_ble_eq_true rfl, tw_183⟩
theorem fp_X4_152 {md : MD} (h : md.1.cls = RX4) : FPT md 152 2 8 .int := ⟨_, _, _, rfl, Nat.le_of_ble_eq_true rfl, by rw [h]; exact tw_183, by decide +kernel, Or.inl rfl⟩
theorem fl_X9_235 : FLD RX9 235 2 8 := ⟨_, _, _, rfl, Nat.le_of_ble_eq_true rfl, tw_184⟩
theorem fp_X9_235 {md : MD} (h : md.1.cls = RX9) : FPT md 235 2 8 .int := ⟨_, _, _, rfl, Nat.le_of_ble_eq_true rfl, by rw [h]; exact tw_184, by decide +kernel, Or.inl rfl⟩
theorem fl_X2_39 : FLD RX2 39 2 9 := ⟨_, _, _, rfl, Nat.le_of_ble_eq_true rfl, tw_185⟩
theorem fp_X2_39 {md : MD} (h : md.1.cls = RX2) : FPT md 39 2 9 .int := ⟨_, _, _, rfl, Nat.le_of_ble_eq_true rfl, by rw [h]; exact tw_185, by decide +kernel, Or.inl rfl⟩
theorem fl_X4_155 : FLD RX4 155 2 9 := ⟨_, _, _, rfl, Nat.le_of_ble_eq_true rfl, tw_186⟩
theorem fp_X4_155 {md : MD} (h : md.1.cls = RX4) : FPT md 155 2 9 .int := ⟨_, _, _, rfl, Nat.le_of_ble_eq_true rfl, by rw [h]; exact tw_186, by decide +kernel, Or.inl rfl⟩
theorem fl_X4_11 : FLD RX4 11 4 0 := ⟨_, _, _, rfl, Nat.le_of_ble_eq_true rfl, tw_208⟩
theorem fp_X4_11 {md : MD} (h : md.1.cls = RX4) (hi : md.1.name = "<init>") : FPT md 11 4 0 (.array (.object "ParcelRailway$Station")) := ⟨_, _, _, rfl, Nat.le_of_ble_eq_true rfl, by rw [h]; exact tw_208, by decide +kernel, Or.inr ⟨hi, rfl, h.symm⟩⟩
theorem fl_X9_118 : FLD RX9 118 4 0 := ⟨_, _, _, rfl, Nat.le_of_ble_eq_true rfl, tw_209⟩
theorem fl_X4_19 : FLD RX4 19 4 1 := ⟨_, _, _, rfl, Nat.le_of_ble_eq_true rfl, tw_210⟩
theorem fp_X4_19 {md : MD} (h : md.1.cls = RX4) (hi : md.1.name = "<init>") : FPT md 19 4 1 (.array (.object "ParcelRailway$Track")) := ⟨_, _, _, rfl, Nat.le_of_ble_eq_true rfl, by rw [h]; exact tw_210, by decide +kernel, Or.inr ⟨hi, rfl, h.symm⟩⟩
theorem fl_X9_147 : FLD RX9 147 4 1 := ⟨_, _, _, rfl, Nat.le_of_ble_eq_true rfl, tw_211⟩
theorem fl_X4_25 : FLD RX4 25 4 2 := ⟨_, _, _, rfl, Nat.le_of_ble_eq_true rfl, tw_212⟩
theorem fp_X4_25 {md : MD} (h : md.1.cls = RX4) (hi : md.1.name = "<init>") : FPT md 25 4 2 (.array (.object "ParcelRailway$Train")) := ⟨_, _, _, rfl, Nat.le_of_ble_eq_true rfl, by rw [h]; exact tw_212, by decide +kernel, Or.inr ⟨hi, rfl, h.symm⟩⟩
theorem fl_X9_165 : FLD RX9 165 4 2 := ⟨_, _, _, rfl, Nat.le_of_ble_eq_true rfl, tw_213⟩
theorem fl_X4_31 : FLD RX4 31 4 3 := ⟨_, _, _, rfl, Nat.le_of_ble_eq_true rfl, tw_214⟩
theorem fp_X4_31 {md : MD} (h : md.1.cls = RX4) (hi : md.1.name = "<init>") : FPT md 31 4 3 (.array (.object "ParcelRailway$Parcel")) := ⟨_, _, _, rfl, Nat.le_of_ble_eq_true rfl, by rw [h]; exact tw_214, by decide +kernel, Or.inr ⟨hi, rfl, h.symm⟩⟩
theorem fl_X9_211 : FLD RX9 211 4 3 := ⟨_, _, _, rfl, Nat.le_of_ble_eq_true rfl, tw_215⟩
theorem fl_X4_35 : FLD RX4 35 4 4 := ⟨_, _, _, rfl, Nat.le_of_ble_eq_true rfl, tw_216⟩
theorem fp_X4_35 {md : MD} (h : md.1.cls = RX4) (hi : md.1.name = "<init>") : FPT md 35 4 4 (.array .int) := ⟨_, _, _, rfl, Nat.le_of_ble_eq_true rfl, by rw [h]; exact tw_216, by decide +kernel, Or.inr ⟨hi, rfl, h.symm⟩⟩
theorem fl_X4_58 : FLD RX4 58 4 5 := ⟨_, _, _, rfl, Nat.le_of_ble_eq_true rfl, tw_217⟩
theorem fp_X4_58 {md : MD} (h : md.1.cls = RX4) : FPT md 58 4 5 .int := ⟨_, _, _, rfl, Nat.le_of_ble_eq_true rfl, by rw [h]; exact tw_217, by decide +kernel, Or.inl rfl⟩
theorem fl_X9_97 : FLD RX9 97 4 5 := ⟨_, _, _, rfl, Nat.le_of_ble_eq_true rfl, tw_218⟩
theorem fp_X9_97 {md : MD} (h : md.1.cls = RX9) : FPT md 97 4 5 .int := ⟨_, _, _, rfl, Nat.le_of_ble_eq_true rfl, by rw [h]; exact tw_218, by decide +kernel, Or.inl rfl⟩
theorem fl_X3_157 : FLD RX3 157 4 5 := ⟨_, _, _, rfl, Nat.le_of_ble_eq_true rfl, tw_219⟩
theorem fp_X3_157 {md : MD} (h : md.1.cls = RX3) : FPT md 157 4 5 .int := ⟨_, _, _, rfl, Nat.le_of_ble_eq_true rfl, by rw [h]; exact tw_219, by decide +kernel, Or.inl rfl⟩
theorem fl_X4_62 : FLD RX4 62 4 6 := ⟨_, _, _, rfl, Nat.le_of_ble_eq_true rfl, tw_220⟩
theorem fp_X4_62 {md : MD} (h : md.1.cls = RX4) : FPT md 62 4 6 .int := ⟨_, _, _, rfl, Nat.le_of_ble_eq_true rfl, by rw [h]; exact tw_220, by decide +kernel, Or.inl rfl⟩
theorem fl_X3_160 : FLD RX3 160 4 6 := ⟨_, _, _, rfl, Nat.le_of_ble_eq_true rfl, tw_221⟩
theorem fp_X3_160 {md : MD} (h : md.1.cls = RX3) : FPT md 160 4 6 .int := ⟨_, _, _, rfl, Nat.le_of_ble_eq_true rfl, by rw [h]; exact tw_221, by decide +kernel, Or.inl rfl⟩
theorem fl_X4_65 : FLD RX4 65 4 7 := ⟨_, _, _, rfl, Nat.le_of_ble_eq_true rfl, tw_222⟩
theorem fp_X4_65 {md : MD} (h : md.1.cls = RX4) : FPT md 65 4 7 .int := ⟨_, _, _, rfl, Nat.le_of_ble_eq_true rfl, by rw [h]; exact tw_222, by decide +kernel, Or.inl rfl⟩
theorem fl_X3_163 : FLD RX3 163 4 7 := ⟨_, _, _, rfl, Nat.le_of_ble_eq_true rfl, tw_223⟩
theorem fp_X3_163 {md : MD} (h : md.1.cls = RX3) : FPT md 163 4 7 .int := ⟨_, _, _, rfl, Nat.le_of_ble_eq_true rfl, by rw [h]; exact tw_223, by decide +kernel, Or.inl rfl⟩
theorem fl_X9_109 : FLD RX9 109 4 7 := ⟨_, _, _, rfl, Nat.le_of_ble_eq_true rfl, tw_224⟩
theorem fp_X9_109 {md : MD} (h : md.1.cls = RX9) : FPT md 109 4 7 .int := ⟨_, _, _, rfl, Nat.le_of_ble_eq_true rfl, by rw [h]; exact tw_224, by decide +kernel, Or.inl rfl⟩
theorem fl_X4_68 : FLD RX4 68 4 8 := ⟨_, _, _, rfl, Nat.le_of_ble_eq_true rfl, tw_225⟩
theorem fp_X4_68 {md : MD} (h : md.1.cls = RX4) : FPT md 68 4 8 .int := ⟨_, _, _, rfl, Nat.le_of_ble_eq_true rfl, by rw [h]; exact tw_225, by decide +kernel, Or.inl rfl⟩
theorem fl_X3_166 : FLD RX3 166 4 8 := ⟨_, _, _, rfl, Nat.le_of_ble_eq_true rfl, tw_226⟩
theorem fp_X3_166 {md : MD} (h : md.1.cls = RX3) : FPT md 166 4 8 .int := ⟨_, _, _, rfl, Nat.le_of_ble_eq_true rfl, by rw [h]; exact tw_226, by decide +kernel, Or.inl rfl⟩
theorem fl_X9_112 : FLD RX9 112 4 8 := ⟨_, _, _, rfl, Nat.le_of_ble_eq_true rfl, tw_227⟩
theorem fp_X9_112 {md : MD} (h : md.1.cls = RX9) : FPT md 112 4 8 .int := ⟨_, _, _, rfl, Nat.le_of_ble_eq_true rfl, by rw [h]; exact tw_227, by decide +kernel, Or.inl rfl⟩
theorem fl_X4_71 : FLD RX4 71 4 9 := ⟨_, _, _, rfl, Nat.le_of_ble_eq_true rfl, tw_228⟩
theorem fp_X4_71 {md : MD} (h : md.1.cls = RX4) : FPT md 71 4 9 .int := ⟨_, _, _, rfl, Nat.le_of_ble_eq_true rfl, by rw [h]; exact tw_228, by decide +kernel, Or.inl rfl⟩
theorem fl_X9_103 : FLD RX9 103 4 9 := ⟨_, _, _, rfl, Nat.le_of_ble_eq_true rfl, tw_229⟩
theorem fp_X9_103 {md : MD} (h : md.1.cls = RX9) : FPT md 103 4 9 .int := ⟨_, _, _, rfl, Nat.le_of_ble_eq_true rfl, by rw [h]; exact tw_229, by decide +kernel, Or.inl rfl⟩
theorem fl_X4_74 : FLD RX4 74 4 10 := ⟨_, _, _, rfl, Nat.le_of_ble_eq_true rfl, tw_230⟩
theorem fp_X4_74 {md : MD} (h : md.1.cls = RX4) : FPT md 74 4 10 .int := ⟨_, _, _, rfl, Nat.le_of_ble_eq_true rfl, by rw [h]; exact tw_230, by decide +kernel, Or.inl rfl⟩
theorem fl_X9_255 : FLD RX9 255 4 10 := ⟨_, _, _, rfl, Nat.le_of_ble_eq_true rfl, tw_231⟩
theorem fp_X9_255 {md : MD} (h : md.1.cls = RX9) : FPT md 255 4 10 .int := ⟨_, _, _, rfl, Nat.le_of_ble_eq_true rfl, by rw [h]; exact tw_231, by decide +kernel, Or.inl rfl⟩
theorem fl_X4_77 : FLD RX4 77 4 11 := ⟨_, _, _, rfl, Nat.le_of_ble_eq_true rfl, tw_232⟩
theorem fp_X4_77 {md : MD} (h : md.1.cls = RX4) : FPT md 77 4 11 .int := ⟨_, _, _, rfl, Nat.le_of_ble_eq_true rfl, by rw [h]; exact tw_232, by decide +kernel, Or.inl rfl⟩
theorem fl_X9_258 : FLD RX9 258 4 11 := ⟨_, _, _, rfl, Nat.le_of_ble_eq_true rfl, tw_233⟩
theorem fp_X9_258 {md : MD} (h : md.1.cls = RX9) : FPT md 258 4 11 .int := ⟨_, _, _, rfl, Nat.le_of_ble_eq_true rfl, by rw [h]; exact tw_233, by decide +kernel, Or.inl rfl⟩
theorem fl_X6_9 : FLD RX6 9 6 0 := ⟨_, _, _, rfl, Nat.le_of_ble_eq_true rfl, tw_271⟩
theorem fp_X6_9 {md : MD} (h : md.1.cls = RX6) (hi : md.1.name = "<init>") : FPT md 9 6 0 (.array .byte) := ⟨_, _, _, rfl, Nat.le_of_ble_eq_true rfl, by rw [h]; exact tw_271, by decide +kernel, Or.inr ⟨hi, rfl, h.symm⟩⟩
theorem fl_X6_15 : FLD RX6 15 6 1 := ⟨_, _, _, rfl, Nat.le_of_ble_eq_true rfl, tw_272⟩
theorem fp_X6_15 {md : MD} (h : md.1.cls = RX6) : FPT md 15 6 1 .int := ⟨_, _, _, rfl, Nat.le_of_ble_eq_true rfl, by rw [h]; exact tw_272, by decide +kernel, Or.inl rfl⟩
theorem fl_X9_70 : FLD RX9 70 6 1 := ⟨_, _, _, rfl, Nat.le_of_ble_eq_true rfl, tw_273⟩
theorem fp_X9_70 {md : MD} (h : md.1.cls = RX9) : FPT md 70 6 1 .int := ⟨_, _, _, rfl, Nat.le_of_ble_eq_true rfl, by rw [h]; exact tw_273, by decide +kernel, Or.inl rfl⟩
theorem fl_X3_55 : FLD RX3 55 6 1 := ⟨_, _, _, rfl, Nat.le_of_ble_eq_true rfl, tw_274⟩
theorem fp_X3_55 {md : MD} (h : md.1.cls = RX3) : FPT md 55 6 1 .int := ⟨_, _, _, rfl, Nat.le_of_ble_eq_true rfl, by rw [h]; exact tw_274, by decide +kernel, Or.inl rfl⟩
theorem fl_X3_42 : FLD RX3 42 6 2 := ⟨_, _, _, rfl, Nat.le_of_ble_eq_true rfl, tw_275⟩
theorem fp_X3_42 {md : MD} (h : md.1.cls = RX3) : FPT md 42 6 2 .int := ⟨_, _, _, rfl, Nat.le_of_ble_eq_true rfl, by rw [h]; exact tw_275, by decide +kernel, Or.inl rfl⟩
theorem fl_X6_49 : FLD RX6 49 6 2 := ⟨_, _, _, rfl, Nat.le_of_ble_eq_true rfl, tw_276⟩
theorem fp_X6_49 {md : MD} (h : md.1.cls = RX6) : FPT md 49 6 2 .int := ⟨_, _, _, rfl, Nat.le_of_ble_eq_true rfl, by rw [h]; exact tw_276, by decide +kernel, Or.inl rfl⟩
theorem fl_X3_58 : FLD RX3 58 6 3 := ⟨_, _, _, rfl, Nat.le_of_ble_eq_true rfl, tw_277⟩
theorem fp_X3_58 {md : MD} (h : md.1.cls = RX3) : FPT md 58 6 3 .int := ⟨_, _, _, rfl, Nat.le_of_ble_eq_true rfl, by rw [h]; exact tw_277, by decide +kernel, Or.inl rfl⟩
theorem fl_X6_38 : FLD RX6 38 6 3 := ⟨_, _, _, rfl, Nat.le_of_ble_eq_true rfl, tw_278⟩
theorem fp_X6_38 {md : MD} (h : md.1.cls = RX6) : FPT md 38 6 3 .int := ⟨_, _, _, rfl, Nat.le_of_ble_eq_true rfl, by rw [h]; exact tw_278, by decide +kernel, Or.inl rfl⟩
theorem fl_X6_32 : FLD RX6 32 6 4 := ⟨_, _, _, rfl, Nat.le_of_ble_eq_true rfl, tw_279⟩
theorem fp_X6_32 {md : MD} (h : md.1.cls = RX6) : FPT md 32 6 4 .int := ⟨_, _, _, rfl, Nat.le_of_ble_eq_true rfl, by rw [h]; exact tw_279, by decide +kernel, Or.inl rfl⟩
theorem fl_X3_12 : FLD RX3 12 3 0 := ⟨_, _, _, rfl, Nat.le_of_ble_eq_true rfl, tw_294⟩
theorem fp_X3_12 {md : MD} (h : md.1.cls = RX3) (hi : md.1.name = "<init>") : FPT md 12 3 0 (.object "ParcelRailway$Tokens") := ⟨_, _, _, rfl, Nat.le_of_ble_eq_true rfl, by rw [h]; exact tw_294, by decide +kernel, Or.inr ⟨hi, rfl, h.symm⟩⟩
theorem fl_X9_48 : FLD RX9 48 3 0 := ⟨_, _, _, rfl, Nat.le_of_ble_eq_true rfl, tw_295⟩
theorem fl_X3_21 : FLD RX3 21 3 1 := ⟨_, _, _, rfl, Nat.le_of_ble_eq_true rfl, tw_296⟩
theorem fp_X3_21 {md : MD} (h : md.1.cls = RX3) (hi : md.1.name = "<init>") : FPT md 21 3 1 (.object "ParcelRailway$State") := ⟨_, _, _, rfl, Nat.le_of_ble_eq_true rfl, by rw [h]; exact tw_296, by decide +kernel, Or.inr ⟨hi, rfl, h.symm⟩⟩
theorem fl_X9_63 : FLD RX9 63 3 1 := ⟨_, _, _, rfl, Nat.le_of_ble_eq_true rfl, tw_297⟩
theorem fl_X3_36 : FLD RX3 36 3 2 := ⟨_, _, _, rfl, Nat.le_of_ble_eq_true rfl, tw_298⟩
theorem fp_X3_36 {md : MD} (h : md.1.cls = RX3) : FPT md 36 3 2 .int := ⟨_, _, _, rfl, Nat.le_of_ble_eq_true rfl, by rw [h]; exact tw_298, by decide +kernel, Or.inl rfl⟩
theorem fl_X9_89 : FLD RX9 89 3 2 := ⟨_, _, _, rfl, Nat.le_of_ble_eq_true rfl, tw_299⟩
theorem fp_X9_89 {md : MD} (h : md.1.cls = RX9) : FPT md 89 3 2 .int := ⟨_, _, _, rfl, Nat.le_of_ble_eq_true rfl, by rw [h]; exact tw_299, by decide +kernel, Or.inl rfl⟩
theorem fl_X3_25 : FLD RX3 25 3 3 := ⟨_, _, _, rfl, Nat.le_of_ble_eq_true rfl, tw_300⟩
theorem fp_X3_25 {md : MD} (h : md.1.cls = RX3) : FPT md 25 3 3 .int := ⟨_, _, _, rfl, Nat.le_of_ble_eq_true rfl, by rw [h]; exact tw_300, by decide +kernel, Or.inl rfl⟩
theorem fl_X3_64 : FLD RX3 64 3 4 := ⟨_, _, _, rfl, Nat.le_of_ble_eq_true rfl, tw_301⟩
theorem fp_X3_64 {md : MD} (h : md.1.cls = RX3) : FPT md 64 3 4 .int := ⟨_, _, _, rfl, Nat.le_of_ble_eq_true rfl, by rw [h]; exact tw_301, by decide +kernel, Or.inl rfl⟩
theorem fl_X3_70 : FLD RX3 70 3 5 := ⟨_, _, _, rfl, Nat.le_of_ble_eq_true rfl, tw_302⟩
theorem fp_X3_70 {md : MD} (h : md.1.cls = RX3) : FPT md 70 3 5 .int := ⟨_, _, _, rfl, Nat.le_of_ble_eq_true rfl, by rw [h]; exact tw_302, by decide +kernel, Or.inl rfl⟩
theorem fl_X3_76 : FLD RX3 76 3 6 := ⟨_, _, _, rfl, Nat.le_of_ble_eq_true rfl, tw_303⟩
theorem fp_X3_76 {md : MD} (h : md.1.cls = RX3) : FPT md 76 3 6 .int := ⟨_, _, _, rfl, Nat.le_of_ble_eq_true rfl, by rw [h]; exact tw_303, by decide +kernel, Or.inl rfl⟩
theorem fl_X3_82 : FLD RX3 82 3 7 := ⟨_, _, _, rfl, Nat.le_of_ble_eq_true rfl, tw_304⟩
theorem fp_X3_82 {md : MD} (h : md.1.cls = RX3) : FPT md 82 3 7 .int := ⟨_, _, _, rfl, Nat.le_of_ble_eq_true rfl, by rw [h]; exact tw_304, by decide +kernel, Or.inl rfl⟩
theorem fl_X3_89 : FLD RX3 89 3 8 := ⟨_, _, _, rfl, Nat.le_of_ble_eq_true rfl, tw_305⟩
theorem fp_X3_89 {md : MD} (h : md.1.cls = RX3) : FPT md 89 3 8 .int := ⟨_, _, _, rfl, Nat.le_of_ble_eq_true rfl, by rw [h]; exact tw_305, by decide +kernel, Or.inl rfl⟩
theorem fl_X3_29 : FLD RX3 29 3 9 := ⟨_, _, _, rfl, Nat.le_of_ble_eq_true rfl, tw_306⟩
theorem fp_X3_29 {md : MD} (h : md.1.cls = RX3) (hi : md.1.name = "<init>") : FPT md 29 3 9 (.array .int) := ⟨_, _, _, rfl, Nat.le_of_ble_eq_true rfl, by rw [h]; exact tw_306, by decide +kernel, Or.inr ⟨hi, rfl, h.symm⟩⟩
theorem fl_X3_110 : FLD RX3 110 3 10 := ⟨_, _, _, rfl, Nat.le_of_ble_eq_true rfl, tw_307⟩
theorem fp_X3_110 {md : MD} (h : md.1.cls = RX3) : FPT md 110 3 10 .int := ⟨_, _, _, rfl, Nat.le_of_ble_eq_true rfl, by rw [h]; exact tw_307, by decide +kernel, Or.inl rfl⟩
theorem fl_X0_11 : FLD RX0 11 0 0 := ⟨_, _, _, rfl, Nat.le_of_ble_eq_true rfl, tw_340⟩
theorem fp_X0_11 {md : MD} (h : md.1.cls = RX0) (hi : md.1.name = "<init>") : FPT md 11 0 0 (.array (.object "ParcelRailway$State")) := ⟨_, _, _, rfl, Nat.le_of_ble_eq_true rfl, by rw [h]; exact tw_340, by decide +kernel, Or.inr ⟨hi, rfl, h.symm⟩⟩
theorem fl_X0_18 : FLD RX0 18 0 1 := ⟨_, _, _, rfl, Nat.le_of_ble_eq_true rfl, tw_341⟩
theorem fp_X0_18 {md : MD} (h : md.1.cls = RX0) : FPT md 18 0 1 .int := ⟨_, _, _, rfl, Nat.le_of_ble_eq_true rfl, by rw [h]; exact tw_341, by decide +kernel, Or.inl rfl⟩
theorem fl_X0_26 : FLD RX0 26 0 2 := ⟨_, _, _, rfl, Nat.le_of_ble_eq_true rfl, tw_342⟩
theorem fp_X0_26 {md : MD} (h : md.1.cls = RX0) : FPT md 26 0 2 .int := ⟨_, _, _, rfl, Nat.le_of_ble_eq_true rfl, by rw [h]; exact tw_342, by decide +kernel, Or.inl rfl⟩
theorem fl_X1_9 : FLD RX1 9 1 0 := ⟨_, _, _, rfl, Nat.le_of_ble_eq_true rfl, tw_356⟩
theorem fp_X1_9 {md : MD} (h : md.1.cls = RX1) (hi : md.1.name = "<init>") : FPT md 9 1 0 (.array .byte) := ⟨_, _, _, rfl, Nat.le_of_ble_eq_true rfl, by rw [h]; exact tw_356, by decide +kernel, Or.inr ⟨hi, rfl, h.symm⟩⟩
theorem fl_X9_10 : FLD RX9 10 9 0 := ⟨_, _, _, rfl, Nat.le_of_ble_eq_true rfl, tw_660⟩
theorem fp_X9_10 {md : MD} (h : md.1.cls = RX9) (hi : md.1.name = "<init>") : FPT md 10 9 0 (.object "ParcelRailway$State") := ⟨_, _, _, rfl, Nat.le_of_ble_eq_true rfl, by rw [h]; exact tw_660, by decide +kernel, Or.inr ⟨hi, rfl, h.symm⟩⟩
theorem fl_X9_16 : FLD RX9 16 9 1 := ⟨_, _, _, rfl, Nat.le_of_ble_eq_true rfl, tw_661⟩
theorem fp_X9_16 {md : MD} (h : md.1.cls = RX9) (hi : md.1.name = "<init>") : FPT md 16 9 1 (.object "ParcelRailway$State") := ⟨_, _, _, rfl, Nat.le_of_ble_eq_true rfl, by rw [h]; exact tw_661, by decide +kernel, Or.inr ⟨hi, rfl, h.symm⟩⟩
theorem fl_X9_22 : FLD RX9 22 9 2 := ⟨_, _, _, rfl, Nat.le_of_ble_eq_true rfl, tw_662⟩
theorem fp_X9_22 {md : MD} (h : md.1.cls = RX9) (hi : md.1.name = "<init>") : FPT md 22 9 2 (.object "ParcelRailway$Parser") := ⟨_, _, _, rfl, Nat.le_of_ble_eq_true rfl, by rw [h]; exact tw_662, by decide +kernel, Or.inr ⟨hi, rfl, h.symm⟩⟩
theorem fl_X9_29 : FLD RX9 29 9 3 := ⟨_, _, _, rfl, Nat.le_of_ble_eq_true rfl, tw_663⟩
theorem fp_X9_29 {md : MD} (h : md.1.cls = RX9) (hi : md.1.name = "<init>") : FPT md 29 9 3 (.object "ParcelRailway$History") := ⟨_, _, _, rfl, Nat.le_of_ble_eq_true rfl, by rw [h]; exact tw_663, by decide +kernel, Or.inr ⟨hi, rfl, h.symm⟩⟩
theorem fl_X9_36 : FLD RX9 36 9 4 := ⟨_, _, _, rfl, Nat.le_of_ble_eq_true rfl, tw_664⟩
theorem fp_X9_36 {md : MD} (h : md.1.cls = RX9) (hi : md.1.name = "<init>") : FPT md 36 9 4 (.object "ParcelRailway$Output") := ⟨_, _, _, rfl, Nat.le_of_ble_eq_true rfl, by rw [h]; exact tw_664, by decide +kernel, Or.inr ⟨hi, rfl, h.symm⟩⟩
theorem fl_X9_40 : FLD RX9 40 9 5 := ⟨_, _, _, rfl, Nat.le_of_ble_eq_true rfl, tw_665⟩
theorem fp_X9_40 {md : MD} (h : md.1.cls = RX9) (hi : md.1.name = "<init>") : FPT md 40 9 5 (.array (.object "ParcelRailway$State")) := ⟨_, _, _, rfl, Nat.le_of_ble_eq_true rfl, by rw [h]; exact tw_665, by decide +kernel, Or.inr ⟨hi, rfl, h.symm⟩⟩
theorem fl_X9_44 : FLD RX9 44 9 6 := ⟨_, _, _, rfl, Nat.le_of_ble_eq_true rfl, tw_666⟩
theorem fp_X9_44 {md : MD} (h : md.1.cls = RX9) (hi : md.1.name = "<init>") : FPT md 44 9 6 (.array .boolean) := ⟨_, _, _, rfl, Nat.le_of_ble_eq_true rfl, by rw [h]; exact tw_666, by decide +kernel, Or.inr ⟨hi, rfl, h.symm⟩⟩
theorem fl_X10_20 : FLD RX10 20 10 0 := ⟨_, _, _, rfl, Nat.le_of_ble_eq_true rfl, tw_882⟩
theorem fp_X10_20 {md : MD} (h : md.1.cls = RX10) (hi : md.1.name = "<init>") : FPT md 20 10 0 .int := ⟨_, _, _, rfl, Nat.le_of_ble_eq_true rfl, by rw [h]; exact tw_882, by decide +kernel, Or.inr ⟨hi, rfl, h.symm⟩⟩
theorem fl_X10_27 : FLD RX10 27 10 1 := ⟨_, _, _, rfl, Nat.le_of_ble_eq_true rfl, tw_883⟩
theorem fp_X10_27 {md : MD} (h : md.1.cls = RX10) (hi : md.1.name = "<init>") : FPT md 27 10 1 .int := ⟨_, _, _, rfl, Nat.le_of_ble_eq_true rfl, by rw [h]; exact tw_883, by decide +kernel, Or.inr ⟨hi, rfl, h.symm⟩⟩
theorem fl_X10_30 : FLD RX10 30 10 2 := ⟨_, _, _, rfl, Nat.le_of_ble_eq_true rfl, tw_884⟩
theorem fp_X10_30 {md : MD} (h : md.1.cls = RX10) (hi : md.1.name = "<init>") : FPT md 30 10 2 (.array (.array .int)) := ⟨_, _, _, rfl, Nat.le_of_ble_eq_true rfl, by rw [h]; exact tw_884, by decide +kernel, Or.inr ⟨hi, rfl, h.symm⟩⟩
theorem fl_X10_35 : FLD RX10 35 10 3 := ⟨_, _, _, rfl, Nat.le_of_ble_eq_true rfl, tw_885⟩
theorem fp_X10_35 {md : MD} (h : md.1.cls = RX10) (hi : md.1.name = "<init>") : FPT md 35 10 3 (.array (.array .boolean)) := ⟨_, _, _, rfl, Nat.le_of_ble_eq_true rfl, by rw [h]; exact tw_885, by decide +kernel, Or.inr ⟨hi, rfl, h.symm⟩⟩
theorem fl_X10_38 : FLD RX10 38 10 4 := ⟨_, _, _, rfl, Nat.le_of_ble_eq_true rfl, tw_886⟩
theorem fp_X10_38 {md : MD} (h : md.1.cls = RX10) (hi : md.1.name = "<init>") : FPT md 38 10 4 (.array .boolean) := ⟨_, _, _, rfl, Nat.le_of_ble_eq_true rfl, by rw [h]; exact tw_886, by decide +kernel, Or.inr ⟨hi, rfl, h.symm⟩⟩
theorem fl_X10_42 : FLD RX10 42 10 5 := ⟨_, _, _, rfl, Nat.le_of_ble_eq_true rfl, tw_887⟩
theorem fp_X10_42 {md : MD} (h : md.1.cls = RX10) (hi : md.1.name = "<init>") : FPT md 42 10 5 (.array .int) := ⟨_, _, _, rfl, Nat.le_of_ble_eq_true rfl, by rw [h]; exact tw_887, by decide +kernel, Or.inr ⟨hi, rfl, h.symm⟩⟩
theorem fl_X10_63 : FLD RX10 63 10 6 := ⟨_, _, _, rfl, Nat.le_of_ble_eq_true rfl, tw_888⟩
theorem fp_X10_63 {md : MD} (h : md.1.cls = RX10) (hi : md.1.name = "<init>") : FPT md 63 10 6 (.array (.array .int)) := ⟨_, _, _, rfl, Nat.le_of_ble_eq_true rfl, by rw [h]; exact tw_888, by decide +kernel, Or.inr ⟨hi, rfl, h.symm⟩⟩
theorem fl_X10_66 : FLD RX10 66 10 7 := ⟨_, _, _, rfl, Nat.le_of_ble_eq_true rfl, tw_889⟩
theorem fp_X10_66 {md : MD} (h : md.1.cls = RX10) (hi : md.1.name = "<init>") : FPT md 66 10 7 (.array .int) := ⟨_, _, _, rfl, Nat.le_of_ble_eq_true rfl, by rw [h]; exact tw_889, by decide +kernel, Or.inr ⟨hi, rfl, h.symm⟩⟩
theorem fl_X10_69 : FLD RX10 69 10 8 := ⟨_, _, _, rfl, Nat.le_of_ble_eq_true rfl, tw_890⟩
theorem fp_X10_69 {md : MD} (h : md.1.cls = RX10) (hi : md.1.name = "<init>") : FPT md 69 10 8 (.array .int) := ⟨_, _, _, rfl, Nat.le_of_ble_eq_true rfl, by rw [h]; exact tw_890, by decide +kernel, Or.inr ⟨hi, rfl, h.symm⟩⟩
theorem fl_X10_72 : FLD RX10 72 10 9 := ⟨_, _, _, rfl, Nat.le_of_ble_eq_true rfl, tw_891⟩
theorem fp_X10_72 {md : MD} (h : md.1.cls = RX10) (hi : md.1.name = "<init>") : FPT md 72 10 9 (.array .int) := ⟨_, _, _, rfl, Nat.le_of_ble_eq_true rfl, by rw [h]; exact tw_891, by decide +kernel, Or.inr ⟨hi, rfl, h.symm⟩⟩
theorem fl_X10_75 : FLD RX10 75 10 10 := ⟨_, _, _, rfl, Nat.le_of_ble_eq_true rfl, tw_892⟩
theorem fp_X10_75 {md : MD} (h : md.1.cls = RX10) (hi : md.1.name = "<init>") : FPT md 75 10 10 (.array .int) := ⟨_, _, _, rfl, Nat.le_of_ble_eq_true rfl, by rw [h]; exact tw_892, by decide +kernel, Or.inr ⟨hi, rfl, h.symm⟩⟩
theorem fl_X10_78 : FLD RX10 78 10 11 := ⟨_, _, _, rfl, Nat.le_of_ble_eq_true rfl, tw_893⟩
theorem fp_X10_78 {md : MD} (h : md.1.cls = RX10) (hi : md.1.name = "<init>") : FPT md 78 10 11 (.array .int) := ⟨_, _, _, rfl, Nat.le_of_ble_eq_true rfl, by rw [h]; exact tw_893, by decide +kernel, Or.inr ⟨hi, rfl, h.symm⟩⟩
theorem fl_X10_81 : FLD RX10 81 10 12 := ⟨_, _, _, rfl, Nat.le_of_ble_eq_true rfl, tw_894⟩
theorem fp_X10_81 {md : MD} (h : md.1.cls = RX10) (hi : md.1.name = "<init>") : FPT md 81 10 12 (.array .int) := ⟨_, _, _, rfl, Nat.le_of_ble_eq_true rfl, by rw [h]; exact tw_894, by decide +kernel, Or.inr ⟨hi, rfl, h.symm⟩⟩
theorem fl_X10_84 : FLD RX10 84 10 13 := ⟨_, _, _, rfl, Nat.le_of_ble_eq_true rfl, tw_895⟩
theorem fp_X10_84 {md : MD} (h : md.1.cls = RX10) (hi : md.1.name = "<init>") : FPT md 84 10 13 (.array .int) := ⟨_, _, _, rfl, Nat.le_of_ble_eq_true rfl, by rw [h]; exact tw_895, by decide +kernel, Or.inr ⟨hi, rfl, h.symm⟩⟩
theorem fl_X10_9 : FLD RX10 9 10 14 := ⟨_, _, _, rfl, Nat.le_of_ble_eq_true rfl, tw_896⟩
theorem fp_X10_9 {md : MD} (h : md.1.cls = RX10) (hi : md.1.name = "<init>") : FPT md 9 10 14 (.array (.array .int)) := ⟨_, _, _, rfl, Nat.le_of_ble_eq_true rfl, by rw [h]; exact tw_896, by decide +kernel, Or.inr ⟨hi, rfl, h.symm⟩⟩
theorem fl_X10_111 : FLD RX10 111 10 15 := ⟨_, _, _, rfl, Nat.le_of_ble_eq_true rfl, tw_897⟩
theorem fp_X10_111 {md : MD} (h : md.1.cls = RX10) : FPT md 111 10 15 .int := ⟨_, _, _, rfl, Nat.le_of_ble_eq_true rfl, by rw [h]; exact tw_897, by decide +kernel, Or.inl rfl⟩
theorem fl_X10_114 : FLD RX10 114 10 16 := ⟨_, _, _, rfl, Nat.le_of_ble_eq_true rfl, tw_898⟩
theorem fp_X10_114 {md : MD} (h : md.1.cls = RX10) : FPT md 114 10 16 .int := ⟨_, _, _, rfl, Nat.le_of_ble_eq_true rfl, by rw [h]; exact tw_898, by decide +kernel, Or.inl rfl⟩
theorem fl_J5_15 : FLD RJ5 15 12 0 := ⟨_, _, _, rfl, Nat.le_of_ble_eq_true rfl, tw_1148⟩
theorem fp_J5_15 {md : MD} (h : md.1.cls = RJ5) : FPT md 15 12 0 (.array .byte) := ⟨_, _, _, rfl, Nat.le_of_ble_eq_true rfl, by rw [h]; exact tw_1148, by decide +kernel, Or.inl rfl⟩
theorem fl_J5_22 : FLD RJ5 22 12 1 := ⟨_, _, _, rfl, Nat.le_of_ble_eq_true rfl, tw_1149⟩
theorem fp_J5_22 {md : MD} (h : md.1.cls = RJ5) : FPT md 22 12 1 .byte := ⟨_, _, _, rfl, Nat.le_of_ble_eq_true rfl, by rw [h]; exact tw_1149, by decide +kernel, Or.inl rfl⟩
theorem fl_J0_1048 : FLD RJ0 1048 12 2 := ⟨_, _, _, rfl, Nat.le_of_ble_eq_true rfl, tw_1150⟩
theorem fp_J0_1048 {md : MD} (h : md.1.cls = RJ0) : FPT md 1048 12 2 .boolean := ⟨_, _, _, rfl, Nat.le_of_ble_eq_true rfl, by rw [h]; exact tw_1150, by decide +kernel, Or.inl rfl⟩
theorem fl_J5_79 : FLD RJ5 79 12 3 := ⟨_, _, _, rfl, Nat.le_of_ble_eq_true rfl, tw_1151⟩
theorem fp_J5_79 {md : MD} (h : md.1.cls = RJ5) : FPT md 79 12 3 .int := ⟨_, _, _, rfl, Nat.le_of_ble_eq_true rfl, by rw [h]; exact tw_1151, by decide +kernel, Or.inl rfl⟩
theorem fl_J0_9 : FLD RJ0 9 11 0 := ⟨_, _, _, rfl, Nat.le_of_ble_eq_true rfl, tw_1363⟩
theorem fp_J0_9 {md : MD} (h : md.1.cls = RJ0) (hi : md.1.name = "<init>") : FPT md 9 11 0 (.array .byte) := ⟨_, _, _, rfl, Nat.le_of_ble_eq_true rfl, by rw [h]; exact tw_1363, by decide +kernel, Or.inr ⟨hi, rfl, h.symm⟩⟩
theorem fl_J0_15 : FLD RJ0 15 11 1 := ⟨_, _, _, rfl, Nat.le_of_ble_eq_true rfl, tw_1364⟩
theorem fp_J0_15 {md : MD} (h : md.1.cls = RJ0) (hi : md.1.name = "<init>") : FPT md 15 11 1 .byte := ⟨_, _, _, rfl, Nat.le_of_ble_eq_true rfl, by rw [h]; exact tw_1364, by decide +kernel, Or.inr ⟨hi, rfl, h.symm⟩⟩
theorem ci_L_107 : CIr RL 107 mX9_init 0 := ⟨mok_X9_init, rfl, rfl, tw_33, tw_34, rfl⟩
theorem ci_X9_9 : CIr RX9 9 mX4_init 0 := ⟨mok_X4_init, rfl, rfl, tw_41, tw_42, rfl⟩
theorem ci_X4_41 : CIr RX4 41 mX8_init 1 := ⟨mok_X8_init, rfl, rfl, tw_103, tw_104, rfl⟩
theorem ci_X4_44 : CIr RX4 44 mX2_init 1 := ⟨mok_X2_init, rfl, rfl, tw_156, tw_157, rfl⟩
theorem ci_X3_20 : CIr RX3 20 mX4_init 0 := ⟨mok_X4_init, rfl, rfl, tw_293, tw_42, rfl⟩
theorem ci_X9_28 : CIr RX9 28 mX0_init 0 := ⟨mok_X0_init, rfl, rfl, tw_333, tw_334, rfl⟩
theorem ci_X0_17 : CIr RX0 17 mX4_init 0 := ⟨mok_X4_init, rfl, rfl, tw_339, tw_42, rfl⟩
theorem cv_X9_54 : CVr RX9 54 mX6_appendText 1 := ⟨mok_X6_appendText, rfl, tw_363, tw_364, tw_365⟩
theorem cv_X6_23 : CVr RX6 23 mJ0_length_8abf5 0 := ⟨mok_J0_length_8abf5, rfl, tw_367, tw_368, tw_369⟩
theorem cv_J0_335 : CVr RJ0 335 mJ0_coder_7d493 0 := ⟨mok_J0_coder_7d493, rfl, tw_371, tw_372, tw_373⟩
theorem cv_X6_28 : CVr RX6 28 mJ0_charAt_5068e 1 := ⟨mok_J0_charAt_5068e, rfl, tw_377, tw_378, tw_379⟩
theorem cv_J0_492 : CVr RJ0 492 mJ0_isLatin1_aae02 0 := ⟨mok_J0_isLatin1_aae02, rfl, tw_381, tw_382, tw_383⟩
theorem cs_J0_495 : CSr RJ0 495 mJ1_charAt_3b067 2 := ⟨mok_J1_charAt_3b067, rfl, tw_385, tw_386⟩
theorem cs_J1_9 : CSr RJ1 9 mJ0_checkIndex_df160 2 := ⟨mok_J0_checkIndex_df160, rfl, tw_388, tw_389⟩
theorem cs_J0_1059 : CSr RJ0 1059 mJ3_checkIndex_8e157 3 := ⟨mok_J3_checkIndex_8e157, rfl, tw_393, tw_394⟩
theorem cs_J2_414 : CSr RJ2 414 mJ0_checkIndex_df160 2 := ⟨mok_J0_checkIndex_df160, rfl, tw_405, tw_389⟩
theorem cv_X6_19 : CVr RX6 19 mX6_appendByte 1 := ⟨mok_X6_appendByte, rfl, tw_415, tw_416, tw_417⟩
theorem cv_X9_60 : CVr RX9 60 mX3_parse 0 := ⟨mok_X3_parse, rfl, tw_419, tw_420, tw_421⟩
theorem cv_X3_33 : CVr RX3 33 mX4_clear 0 := ⟨mok_X4_clear, rfl, tw_423, tw_424, tw_425⟩
theorem cv_X4_80 : CVr RX4 80 mX4_measureDistances 0 := ⟨mok_X4_measureDistances, rfl, tw_427, tw_428, tw_429⟩
theorem cv_X4_162 : CVr RX4 162 mX4_shorten 3 := ⟨mok_X4_shorten, rfl, tw_431, tw_433, tsel_0⟩
theorem cv_X4_166 : CVr RX4 166 mX4_distanceBetween 2 := ⟨mok_X4_distanceBetween, rfl, tw_435, tw_436, tw_437⟩
theorem cv_X3_39 : CVr RX3 39 mX6_begin 0 := ⟨mok_X6_begin, rfl, tw_439, tw_440, tw_441⟩
theorem cv_X6_35 : CVr RX6 35 mX6_advance 0 := ⟨mok_X6_advance, rfl, tw_443, tw_444, tw_445⟩
theorem cv_X6_41 : CVr RX6 41 mX6_byteAt 1 := ⟨mok_X6_byteAt, rfl, tw_447, tw_449, tsel_1⟩
theorem cs_X6_45 : CSr RX6 45 mX6_isBlank 1 := ⟨mok_X6_isBlank, rfl, tw_451, tw_452⟩
theorem cv_X6_52 : CVr RX6 52 mX6_findRunEnd 2 := ⟨mok_X6_findRunEnd, rfl, tw_454, tw_456, tsel_2⟩
theorem cv_X3_45 : CVr RX3 45 mX3_readStatement 0 := ⟨mok_X3_readStatement, rfl, tw_458, tw_460, tsel_3⟩
theorem cv_X3_61 : CVr RX3 61 mX3_takeKeyword 0 := ⟨mok_X3_takeKeyword, rfl, tw_462, tw_464, tsel_4⟩
theorem cv_X3_130 : CVr RX3 130 mX3_findKeyword 0 := ⟨mok_X3_findKeyword, rfl, tw_466, tw_468, tsel_5⟩
theorem cv_X3_139 : CVr RX3 139 mX6_isText 1 := ⟨mok_X6_isText, rfl, tw_471, tw_472, tw_473⟩
theorem cv_X3_95 : CVr RX3 95 mX3_fail 1 := ⟨mok_X3_fail, rfl, tw_482, tw_484, tsel_6⟩
theorem cv_X3_133 : CVr RX3 133 mX3_isFull 1 := ⟨mok_X3_isFull, rfl, tw_486, tw_488, tsel_7⟩
theorem cv_X3_99 : CVr RX3 99 mX6_advance 0 := ⟨mok_X6_advance, rfl, tw_490, tw_444, tw_445⟩
theorem cv_X3_67 : CVr RX3 67 mX3_takeNewName 0 := ⟨mok_X3_takeNewName, rfl, tw_491, tw_493, tsel_8⟩
theorem cv_X3_169 : CVr RX3 169 mX6_packName 0 := ⟨mok_X6_packName, rfl, tw_495, tw_496, tw_497⟩
theorem cv_X3_172 : CVr RX3 172 mX4_findStation 1 := ⟨mok_X4_findStation, rfl, tw_499, tw_500, tw_501⟩
theorem cv_X3_73 : CVr RX3 73 mX3_takeStation 0 := ⟨mok_X3_takeStation, rfl, tw_503, tw_505, tsel_9⟩
theorem cv_X3_179 : CVr RX3 179 mX3_findNamedStation 0 := ⟨mok_X3_findNamedStation, rfl, tw_507, tw_509, tsel_10⟩
theorem cv_X3_79 : CVr RX3 79 mX3_takeSecondStation 0 := ⟨mok_X3_takeSecondStation, rfl, tw_511, tw_513, tsel_11⟩
theorem cv_X3_124 : CVr RX3 124 mX4_findTrack 2 := ⟨mok_X4_findTrack, rfl, tw_515, tw_516, tw_517⟩
theorem cv_X4_158 : CVr RX4 158 mX7_connects 2 := ⟨mok_X7_connects, rfl, tw_519, tw_520, tw_521⟩
theorem cv_X3_85 : CVr RX3 85 mX3_takeNumber 2 := ⟨mok_X3_takeNumber, rfl, tw_523, tw_525, tsel_12⟩
theorem cv_X3_176 : CVr RX3 176 mX6_readNumber 0 := ⟨mok_X6_readNumber, rfl, tw_527, tw_528, tw_529⟩
theorem cv_X3_92 : CVr RX3 92 mX3_takeRoute 0 := ⟨mok_X3_takeRoute, rfl, tw_534, tw_536, tsel_13⟩
theorem cv_X3_48 : CVr RX3 48 mX3_execute 0 := ⟨mok_X3_execute, rfl, tw_538, tw_540, tsel_14⟩
theorem cv_X3_102 : CVr RX3 102 mX4_makeStation 2 := ⟨mok_X4_makeStation, rfl, tw_542, tw_543, tw_544⟩
theorem cv_X3_106 : CVr RX3 106 mX4_makeTrack 3 := ⟨mok_X4_makeTrack, rfl, tw_546, tw_547, tw_548⟩
theorem cv_X3_113 : CVr RX3 113 mX4_makeTrain 3 := ⟨mok_X4_makeTrain, rfl, tw_550, tw_551, tw_552⟩
theorem cv_X3_117 : CVr RX3 117 mX4_makeParcel 3 := ⟨mok_X4_makeParcel, rfl, tw_554, tw_555, tw_556⟩
theorem cv_X3_120 : CVr RX3 120 mX4_setInspectionOf 2 := ⟨mok_X4_setInspectionOf, rfl, tw_558, tw_559, tw_560⟩
theorem cv_X3_127 : CVr RX3 127 mX4_openTrack 2 := ⟨mok_X4_openTrack, rfl, tw_562, tw_563, tw_564⟩
theorem cv_X3_52 : CVr RX3 52 mX4_passMinute 0 := ⟨mok_X4_passMinute, rfl, tw_566, tw_567, tw_568⟩
theorem cv_X4_210 : CVr RX4 210 mX8_isStanding 0 := ⟨mok_X8_isStanding, rfl, tw_570, tw_571, tw_572⟩
theorem cv_X4_213 : CVr RX4 213 mX4_loadTrain 1 := ⟨mok_X4_loadTrain, rfl, tw_574, tw_576, tsel_15⟩
theorem cv_X4_222 : CVr RX4 222 mX4_findNextToLoad 1 := ⟨mok_X4_findNextToLoad, rfl, tw_578, tw_580, tsel_16⟩
theorem cv_X4_170 : CVr RX4 170 mX4_countCarriedBy 1 := ⟨mok_X4_countCarriedBy, rfl, tw_582, tw_583, tw_584⟩
theorem cv_X4_186 : CVr RX4 186 mX8_stationAhead 1 := ⟨mok_X8_stationAhead, rfl, tw_586, tw_587, tw_588⟩
theorem cv_X4_192 : CVr RX4 192 mX2_isReadyAt 2 := ⟨mok_X2_isReadyAt, rfl, tw_590, tw_591, tw_592⟩
theorem cv_X4_182 : CVr RX4 182 mX2_isConsideredBefore 1 := ⟨mok_X2_isConsideredBefore, rfl, tw_594, tw_595, tw_596⟩
theorem cv_X4_195 : CVr RX4 195 mX4_findDrop 2 := ⟨mok_X4_findDrop, rfl, tw_598, tw_599, tw_600⟩
theorem cv_X4_226 : CVr RX4 226 mX2_board 2 := ⟨mok_X2_board, rfl, tw_602, tw_603, tw_604⟩
theorem cv_X4_216 : CVr RX4 216 mX4_depart 1 := ⟨mok_X4_depart, rfl, tw_606, tw_608, tsel_17⟩
theorem cv_X4_230 : CVr RX4 230 mX4_findTrack 2 := ⟨mok_X4_findTrack, rfl, tw_610, tw_516, tw_517⟩
theorem cv_X4_219 : CVr RX4 219 mX4_arrive 1 := ⟨mok_X4_arrive, rfl, tw_611, tw_613, tsel_18⟩
theorem cv_X4_233 : CVr RX4 233 mX8_reachNextStop 0 := ⟨mok_X8_reachNextStop, rfl, tw_615, tw_616, tw_617⟩
theorem cv_X8_52 : CVr RX8 52 mX8_isAtEnd 0 := ⟨mok_X8_isAtEnd, rfl, tw_619, tw_620, tw_621⟩
theorem cv_X4_236 : CVr RX4 236 mX8_isAtEnd 0 := ⟨mok_X8_isAtEnd, rfl, tw_623, tw_620, tw_621⟩
theorem cv_X4_239 : CVr RX4 239 mX4_isDropOf 2 := ⟨mok_X4_isDropOf, rfl, tw_624, tw_626, tsel_19⟩
theorem cv_X4_243 : CVr RX4 243 mX4_unload 2 := ⟨mok_X4_unload, rfl, tw_628, tw_630, tsel_20⟩
theorem cv_X4_247 : CVr RX4 247 mX2_deliver 1 := ⟨mok_X2_deliver, rfl, tw_632, tw_633, tw_634⟩
theorem cv_X4_250 : CVr RX4 250 mX2_transferTo 2 := ⟨mok_X2_transferTo, rfl, tw_636, tw_637, tw_638⟩
theorem cv_X9_66 : CVr RX9 66 mX4_copyFrom 1 := ⟨mok_X4_copyFrom, rfl, tw_640, tw_641, tw_642⟩
theorem cv_X4_45 : CVr RX4 45 mX5_copyFrom 1 := ⟨mok_X5_copyFrom, rfl, tw_644, tw_645, tw_646⟩
theorem cv_X4_49 : CVr RX4 49 mX7_copyFrom 1 := ⟨mok_X7_copyFrom, rfl, tw_648, tw_649, tw_650⟩
theorem cv_X4_52 : CVr RX4 52 mX8_copyFrom 1 := ⟨mok_X8_copyFrom, rfl, tw_652, tw_653, tw_654⟩
theorem cv_X4_55 : CVr RX4 55 mX2_copyFrom 1 := ⟨mok_X2_copyFrom, rfl, tw_656, tw_657, tw_658⟩
theorem cv_L_120 : CVr RL 120 mX9_errorCode 0 := ⟨mok_X9_errorCode, rfl, tw_683, tw_684, tw_685⟩
theorem cv_L_75 : CVr RL 75 mX9_stationCount 0 := ⟨mok_X9_stationCount, rfl, tw_687, tw_688, tw_689⟩
theorem cv_L_146 : CVr RL 146 mX9_parcelBalance 0 := ⟨mok_X9_parcelBalance, rfl, tw_691, tw_692, tw_693⟩
theorem cv_X9_249 : CVr RX9 249 mX4_countDelivered 0 := ⟨mok_X4_countDelivered, rfl, tw_695, tw_696, tw_697⟩
theorem cv_X4_174 : CVr RX4 174 mX2_isDelivered 0 := ⟨mok_X2_isDelivered, rfl, tw_699, tw_700, tw_701⟩
theorem cv_X9_131 : CVr RX9 131 mX4_countWaitingAt 1 := ⟨mok_X4_countWaitingAt, rfl, tw_703, tw_704, tw_705⟩
theorem cv_X9_252 : CVr RX9 252 mX4_countCarried 0 := ⟨mok_X4_countCarried, rfl, tw_707, tw_708, tw_709⟩
theorem cv_L_149 : CVr RL 149 mX9_loadingBalance 0 := ⟨mok_X9_loadingBalance, rfl, tw_711, tw_712, tw_713⟩
theorem ci_L_125 : CIr RL 125 mX10_init 1 := ⟨mok_X10_init, rfl, rfl, tw_717, tw_718, rfl⟩
theorem cv_X10_14 : CVr RX10 14 mX9_stationCount 0 := ⟨mok_X9_stationCount, rfl, tw_723, tw_688, tw_689⟩
theorem cv_X10_24 : CVr RX10 24 mX9_trainCount 0 := ⟨mok_X9_trainCount, rfl, tw_724, tw_725, tw_726⟩
theorem cv_X10_46 : CVr RX10 46 mX9_isRequestStop 1 := ⟨mok_X9_isRequestStop, rfl, tw_730, tw_731, tw_732⟩
theorem cv_X9_115 : CVr RX9 115 mX9_checkStation 1 := ⟨mok_X9_checkStation, rfl, tw_734, tw_736, tsel_21⟩
theorem cv_X10_50 : CVr RX10 50 mX9_inspectionTime 1 := ⟨mok_X9_inspectionTime, rfl, tw_806, tw_807, tw_808⟩
theorem cv_X10_54 : CVr RX10 54 mX9_travelTime 2 := ⟨mok_X9_travelTime, rfl, tw_810, tw_811, tw_812⟩
theorem cv_X9_144 : CVr RX9 144 mX4_findTrack 2 := ⟨mok_X4_findTrack, rfl, tw_814, tw_516, tw_517⟩
theorem cv_X10_58 : CVr RX10 58 mX9_isTrackOpen 2 := ⟨mok_X9_isTrackOpen, rfl, tw_815, tw_816, tw_817⟩
theorem cv_X10_87 : CVr RX10 87 mX9_routeLength 1 := ⟨mok_X9_routeLength, rfl, tw_820, tw_821, tw_822⟩
theorem cv_X9_162 : CVr RX9 162 mX9_checkTrain 1 := ⟨mok_X9_checkTrain, rfl, tw_824, tw_826, tsel_23⟩
theorem cv_X10_90 : CVr RX10 90 mX9_routeStation 2 := ⟨mok_X9_routeStation, rfl, tw_829, tw_830, tw_831⟩
theorem cv_X9_177 : CVr RX9 177 mX8_stationAt 1 := ⟨mok_X8_stationAt, rfl, tw_833, tw_834, tw_835⟩
theorem cv_X10_93 : CVr RX10 93 mX9_capacity 1 := ⟨mok_X9_capacity, rfl, tw_853, tw_854, tw_855⟩
theorem cv_X10_95 : CVr RX10 95 mX9_parcelCount 0 := ⟨mok_X9_parcelCount, rfl, tw_857, tw_858, tw_859⟩
theorem cv_X10_98 : CVr RX10 98 mX9_origin 1 := ⟨mok_X9_origin, rfl, tw_861, tw_862, tw_863⟩
theorem cv_X9_208 : CVr RX9 208 mX9_checkParcel 1 := ⟨mok_X9_checkParcel, rfl, tw_865, tw_867, tsel_24⟩
theorem cv_X10_101 : CVr RX10 101 mX9_destination 1 := ⟨mok_X9_destination, rfl, tw_870, tw_871, tw_872⟩
theorem cv_X10_104 : CVr RX10 104 mX9_priority 1 := ⟨mok_X9_priority, rfl, tw_874, tw_875, tw_876⟩
theorem cv_X10_107 : CVr RX10 107 mX10_add 3 := ⟨mok_X10_add, rfl, tw_878, tw_880, tsel_25⟩
theorem cv_L_138 : CVr RL 138 mX10_follow 2 := ⟨mok_X10_follow, rfl, tw_934, tw_935, tw_936⟩
theorem cv_L_132 : CVr RL 132 mX10_delivered 0 := ⟨mok_X10_delivered, rfl, tw_938, tw_939, tw_940⟩
theorem cv_L_135 : CVr RL 135 mX10_minute 0 := ⟨mok_X10_minute, rfl, tw_942, tw_943, tw_944⟩
theorem cv_X10_138 : CVr RX10 138 mX10_loads 1 := ⟨mok_X10_loads, rfl, tw_946, tw_948, tsel_26⟩
theorem cv_X10_131 : CVr RX10 131 mX10_fits 2 := ⟨mok_X10_fits, rfl, tw_950, tw_952, tsel_27⟩
theorem cv_X10_125 : CVr RX10 125 mX10_carried 1 := ⟨mok_X10_carried, rfl, tw_954, tw_956, tsel_28⟩
theorem cv_X10_128 : CVr RX10 128 mX10_drop 2 := ⟨mok_X10_drop, rfl, tw_958, tw_960, tsel_29⟩
theorem cv_X10_122 : CVr RX10 122 mX10_far 2 := ⟨mok_X10_far, rfl, tw_962, tw_964, tsel_30⟩
theorem cv_X10_134 : CVr RX10 134 mX10_departs 1 := ⟨mok_X10_departs, rfl, tw_967, tw_969, tsel_31⟩
theorem cv_X10_141 : CVr RX10 141 mX10_arrives 1 := ⟨mok_X10_arrives, rfl, tw_971, tw_973, tsel_32⟩
theorem cv_L_142 : CVr RL 142 mX10_agrees 1 := ⟨mok_X10_agrees, rfl, tw_975, tw_976, tw_977⟩
theorem cv_X10_144 : CVr RX10 144 mX9_clock 0 := ⟨mok_X9_clock, rfl, tw_979, tw_980, tw_981⟩
theorem cv_X10_146 : CVr RX10 146 mX9_deliveredCount 0 := ⟨mok_X9_deliveredCount, rfl, tw_983, tw_984, tw_985⟩
theorem cv_X10_149 : CVr RX10 149 mX10_delivered 0 := ⟨mok_X10_delivered, rfl, tw_987, tw_939, tw_940⟩
theorem cv_X10_152 : CVr RX10 152 mX9_trainStation 1 := ⟨mok_X9_trainStation, rfl, tw_988, tw_989, tw_990⟩
theorem cv_X9_186 : CVr RX9 186 mX8_standsAt 0 := ⟨mok_X8_standsAt, rfl, tw_992, tw_993, tw_994⟩
theorem cv_X8_44 : CVr RX8 44 mX8_isStanding 0 := ⟨mok_X8_isStanding, rfl, tw_996, tw_571, tw_572⟩
theorem cv_X8_48 : CVr RX8 48 mX8_stationAhead 1 := ⟨mok_X8_stationAhead, rfl, tw_997, tw_587, tw_588⟩
theorem cv_X10_155 : CVr RX10 155 mX9_nextStation 1 := ⟨mok_X9_nextStation, rfl, tw_998, tw_999, tw_1000⟩
theorem cv_X9_190 : CVr RX9 190 mX8_stationAhead 1 := ⟨mok_X8_stationAhead, rfl, tw_1002, tw_587, tw_588⟩
theorem cv_X10_158 : CVr RX10 158 mX9_isForward 1 := ⟨mok_X9_isForward, rfl, tw_1003, tw_1004, tw_1005⟩
theorem cv_X10_161 : CVr RX10 161 mX9_minutesToNext 1 := ⟨mok_X9_minutesToNext, rfl, tw_1007, tw_1008, tw_1009⟩
theorem cv_X10_164 : CVr RX10 164 mX9_delay 1 := ⟨mok_X9_delay, rfl, tw_1011, tw_1012, tw_1013⟩
theorem cv_X10_166 : CVr RX10 166 mX9_stopsMade 1 := ⟨mok_X9_stopsMade, rfl, tw_1015, tw_1016, tw_1017⟩
theorem cv_X10_169 : CVr RX10 169 mX9_stopsPassed 1 := ⟨mok_X9_stopsPassed, rfl, tw_1019, tw_1020, tw_1021⟩
theorem cv_X10_172 : CVr RX10 172 mX9_carriedCount 1 := ⟨mok_X9_carriedCount, rfl, tw_1023, tw_1024, tw_1025⟩
theorem cv_X9_180 : CVr RX9 180 mX4_countCarriedBy 1 := ⟨mok_X4_countCarriedBy, rfl, tw_1027, tw_583, tw_584⟩
theorem cv_X10_175 : CVr RX10 175 mX9_parcelStation 1 := ⟨mok_X9_parcelStation, rfl, tw_1028, tw_1029, tw_1030⟩
theorem cv_X10_178 : CVr RX10 178 mX9_parcelTrain 1 := ⟨mok_X9_parcelTrain, rfl, tw_1032, tw_1033, tw_1034⟩
theorem cv_X10_181 : CVr RX10 181 mX9_dropStation 1 := ⟨mok_X9_dropStation, rfl, tw_1036, tw_1037, tw_1038⟩
theorem cv_X10_184 : CVr RX10 184 mX9_transfers 1 := ⟨mok_X9_transfers, rfl, tw_1040, tw_1041, tw_1042⟩
theorem cv_X10_187 : CVr RX10 187 mX9_deliveryClock 1 := ⟨mok_X9_deliveryClock, rfl, tw_1044, tw_1045, tw_1046⟩
theorem cv_X10_190 : CVr RX10 190 mX9_isHeld 1 := ⟨mok_X9_isHeld, rfl, tw_1048, tw_1049, tw_1050⟩
theorem cv_X9_238 : CVr RX9 238 mX2_isHeldAt 1 := ⟨mok_X2_isHeldAt, rfl, tw_1052, tw_1053, tw_1054⟩
theorem cv_X10_193 : CVr RX10 193 mX9_distance 2 := ⟨mok_X9_distance, rfl, tw_1056, tw_1057, tw_1058⟩
theorem cv_X9_159 : CVr RX9 159 mX4_distanceBetween 2 := ⟨mok_X4_distanceBetween, rfl, tw_1060, tw_436, tw_437⟩
theorem cs_L_33 : CSr RL 33 mL_cell 2 := ⟨mok_L_cell, rfl, tw_1061, tw_1062⟩
theorem cs_L_112 : CSr RL 112 mL_says 2 := ⟨mok_L_says, rfl, tw_1065, tw_1066⟩
theorem cv_L_8 : CVr RL 8 mJ0_length_8abf5 0 := ⟨mok_J0_length_8abf5, rfl, tw_1068, tw_368, tw_369⟩
theorem cv_L_14 : CVr RL 14 mJ0_charAt_5068e 1 := ⟨mok_J0_charAt_5068e, rfl, tw_1069, tw_378, tw_379⟩
theorem cv_L_18 : CVr RL 18 mX9_appendInput 5 := ⟨mok_X9_appendInput, rfl, tw_1070, tw_1071, tw_1072⟩
theorem cv_X9_80 : CVr RX9 80 mX6_appendFourBytes 1 := ⟨mok_X6_appendFourBytes, rfl, tw_1090, tw_1091, tw_1092⟩
theorem cv_L_24 : CVr RL 24 mX9_truncateInput 1 := ⟨mok_X9_truncateInput, rfl, tw_1094, tw_1095, tw_1096⟩
theorem cx_L_116 : CSXr RL 116 mL_loaded 1 := ⟨mok_L_loaded, (fun h => by cases h), tw_1114, tw_1115⟩
theorem cv_L_28 : CVr RL 28 mX9_load 0 := ⟨mok_X9_load, rfl, tw_1118, tw_1119, tw_1120⟩
theorem cv_X9_94 : CVr RX9 94 mX0_remember 1 := ⟨mok_X0_remember, rfl, tw_1123, tw_1124, tw_1125⟩
theorem cv_X0_22 : CVr RX0 22 mX4_copyFrom 1 := ⟨mok_X4_copyFrom, rfl, tw_1127, tw_641, tw_642⟩
theorem cs_L_108 : CSr RL 108 mL_text 1 := ⟨mok_L_text, rfl, tw_1128, tw_1129⟩
theorem ci_L_41 : CIr RL 41 mJ4_init_da8c8 0 := ⟨mok_J4_init_da8c8, rfl, rfl, tw_1133, tw_1134, rfl⟩
theorem ci_J4_1 : CIr RJ4 1 mJ5_init_d00df 1 := ⟨mok_J5_init_d00df, rfl, rfl, tw_1136, tw_1137, rfl⟩
theorem cv_L_46 : CVr RL 46 mJ4_append_15ec4 1 := ⟨mok_J4_append_15ec4, rfl, tw_1163, tw_1164, tw_1165⟩
theorem cw_J4_29 : CSUr RJ4 29 mJ5_append_cf1ce 1 RJ4 := ⟨mok_J5_append_cf1ce, rfl, tw_1167, tw_1430, tw_1160, tw_1168, by decide +kernel⟩
theorem cu_J5_100 : CUr RJ5 100 mJ5_ensureCapacityInternal_d00df 1 RJ4 := ⟨mok_J5_ensureCapacityInternal_d00df, rfl, tw_1174, tw_1432, tlx_0, tw_1176⟩
theorem cu_J5_104 : CUr RJ5 104 mJ5_newCapacity_0f7a4 1 RJ4 := ⟨mok_J5_newCapacity_0f7a4, rfl, tw_1178, tw_1433, tlx_1, tw_1180⟩
theorem cs_J5_114 : CSr RJ5 114 mJ8_newLength_cabcc 3 := ⟨mok_J8_newLength_cabcc, rfl, tw_1182, tw_1183⟩
theorem cs_J5_108 : CSr RJ5 108 mJ7_copyOf_9075b 2 := ⟨mok_J7_copyOf_9075b, rfl, tw_1193, tw_1194⟩
theorem cu_J5_83 : CUr RJ5 83 mJ5_isLatin1_aae02 0 RJ4 := ⟨mok_J5_isLatin1_aae02, rfl, tw_1207, tw_1209, tw_1210, tw_1208⟩
theorem cv_J5_32 : CVr RJ5 32 mJ0_length_8abf5 0 := ⟨mok_J0_length_8abf5, rfl, tw_1227, tw_368, tw_369⟩
theorem cu_J5_208 : CUr RJ5 208 mJ5_putStringAt_47b60 2 RJ4 := ⟨mok_J5_putStringAt_47b60, rfl, tw_1228, tw_1434, tlx_2, tw_1230⟩
theorem cu_J5_397 : CUr RJ5 397 mJ5_inflateIfNeededFor_a7421 1 RJ4 := ⟨mok_J5_inflateIfNeededFor_a7421, rfl, tw_1232, tw_1435, tlx_3, tw_1234⟩
theorem cv_J5_40 : CVr RJ5 40 mJ0_coder_7d493 0 := ⟨mok_J0_coder_7d493, rfl, tw_1236, tw_372, tw_373⟩
theorem cv_J5_399 : CVr RJ5 399 mJ0_getBytes_840e7 3 := ⟨mok_J0_getBytes_840e7, rfl, tw_1256, tw_1257, tw_1258⟩
theorem cv_L_52 : CVr RL 52 mJ4_append_cf468 1 := ⟨mok_J4_append_cf468, rfl, tw_1263, tw_1264, tw_1265⟩
theorem cw_J4_50 : CSUr RJ4 50 mJ5_append_3fe6f 1 RJ4 := ⟨mok_J5_append_3fe6f, rfl, tw_1267, tw_1437, tw_1160, tw_1268, by decide +kernel⟩
theorem cs_J5_191 : CSr RJ5 191 mJ1_canEncode_fc78d 1 := ⟨mok_J1_canEncode_fc78d, rfl, tw_1270, tw_1271⟩
theorem cv_L_57 : CVr RL 57 mJ4_append_bf812 1 := ⟨mok_J4_append_bf812, rfl, tw_1277, tw_1278, tw_1279⟩
theorem cw_J4_53 : CSUr RJ4 53 mJ5_append_c97b9 1 RJ4 := ⟨mok_J5_append_c97b9, rfl, tw_1281, tw_1438, tw_1160, tw_1282, by decide +kernel⟩
theorem cs_J5_245 : CSr RJ5 245 mJ6_stringSize_0f7a4 1 := ⟨mok_J6_stringSize_0f7a4, rfl, tw_1284, tw_1285⟩
theorem cs_J5_248 : CSr RJ5 248 mJ6_getChars_ba4f3 3 := ⟨mok_J6_getChars_ba4f3, rfl, tw_1287, tw_1288⟩
theorem cv_L_71 : CVr RL 71 mJ4_toString_0e30d 0 := ⟨mok_J4_toString_0e30d, rfl, tw_1309, tw_1310, tw_1311⟩
theorem ci_J4_137 : CIr RJ4 137 mJ0_init_81219 1 := ⟨mok_J0_init_81219, rfl, rfl, tw_1315, tw_1316, rfl⟩
theorem ci_J0_489 : CIr RJ0 489 mJ0_init_db425 2 := ⟨mok_J0_init_db425, rfl, rfl, tw_1318, tw_1319, rfl⟩
theorem cu_J0_552 : CUr RJ0 552 mJ5_getValue_6d5f1 0 RJ4 := ⟨mok_J5_getValue_6d5f1, rfl, tw_1322, tw_1324, tw_1325, tw_1323⟩
theorem co_J0_549 : COr RJ0 549 mJ4_length_8abf5 0 RJ4 yJ5_length_8abf5 := ⟨mok_J4_length_8abf5, rfl, tw_1327, tw_1329, tw_1328, tw_1330, tw_1331, _, _, _, tw_1334, by decide +kernel, by decide +kernel, by decide +kernel⟩
theorem cw_J4_343 : CSUr RJ4 343 mJ5_length_8abf5 0 RJ4 := ⟨mok_J5_length_8abf5, rfl, tw_1333, tw_1329, tw_1160, tw_1328, by decide +kernel⟩
theorem cu_J0_1047 : CUr RJ0 1047 mJ5_isLatin1_aae02 0 RJ4 := ⟨mok_J5_isLatin1_aae02, rfl, tw_1335, tw_1209, tw_1210, tw_1208⟩
theorem cs_J0_54 : CSr RJ0 54 mJ7_copyOfRange_39247 3 := ⟨mok_J7_copyOfRange_39247, rfl, tw_1336, tw_1337⟩
theorem cs_J7_339 : CSr RJ7 339 mJ7_copyOfRangeByte_39247 3 := ⟨mok_J7_copyOfRangeByte_39247, rfl, tw_1339, tw_1340⟩
theorem cs_J7_343 : CSr RJ7 343 mJ7_checkLength_df160 2 := ⟨mok_J7_checkLength_df160, rfl, tw_1342, tw_1343⟩
theorem ci_J7_47 : CIr RJ7 47 mJ4_init_da8c8 0 := ⟨mok_J4_init_da8c8, rfl, rfl, tw_1347, tw_1134, rfl⟩
theorem cv_J7_54 : CVr RJ7 54 mJ4_append_bf812 1 := ⟨mok_J4_append_bf812, rfl, tw_1348, tw_1278, tw_1279⟩
theorem cv_J7_50 : CVr RJ7 50 mJ4_append_15ec4 1 := ⟨mok_J4_append_15ec4, rfl, tw_1350, tw_1164, tw_1165⟩
theorem cv_J7_61 : CVr RJ7 61 mJ4_toString_0e30d 0 := ⟨mok_J4_toString_0e30d, rfl, tw_1351, tw_1310, tw_1311⟩
theorem cs_J2_126 : CSr RJ2 126 mJ7_copyOfRange_39247 3 := ⟨mok_J7_copyOfRange_39247, rfl, tw_1359, tw_1337⟩
theorem cx_L_128 : CSXr RL 128 mL_acts 2 := ⟨mok_L_acts, (fun h => by cases h), tw_1374, tw_1375⟩
theorem cv_L_78 : CVr RL 78 mX9_addParcel 3 := ⟨mok_X9_addParcel, rfl, tw_1378, tw_1379, tw_1380⟩
theorem cs_X9_274 : CSr RX9 274 mX9_checkRange 3 := ⟨mok_X9_checkRange, rfl, tw_1383, tw_1384⟩
theorem cv_X9_291 : CVr RX9 291 mX4_makeParcel 3 := ⟨mok_X4_makeParcel, rfl, tw_1388, tw_555, tw_556⟩
theorem cv_L_82 : CVr RL 82 mX9_parcelCount 0 := ⟨mok_X9_parcelCount, rfl, tw_1389, tw_858, tw_859⟩
theorem cv_L_85 : CVr RL 85 mX9_setPriority 2 := ⟨mok_X9_setPriority, rfl, tw_1390, tw_1391, tw_1392⟩
theorem cv_L_89 : CVr RL 89 mX9_setInspection 2 := ⟨mok_X9_setInspection, rfl, tw_1394, tw_1395, tw_1396⟩
theorem cv_L_92 : CVr RL 92 mX9_withdraw 1 := ⟨mok_X9_withdraw, rfl, tw_1398, tw_1399, tw_1400⟩
theorem cv_X9_300 : CVr RX9 300 mX2_returnToSender 1 := ⟨mok_X2_returnToSender, rfl, tw_1403, tw_1404, tw_1405⟩
theorem cv_X2_42 : CVr RX2 42 mX2_deliver 1 := ⟨mok_X2_deliver, rfl, tw_1407, tw_633, tw_634⟩
theorem cv_X9_264 : CVr RX9 264 mX2_isDelivered 0 := ⟨mok_X2_isDelivered, rfl, tw_1408, tw_700, tw_701⟩
theorem cv_L_95 : CVr RL 95 mX9_travelTime 2 := ⟨mok_X9_travelTime, rfl, tw_1409, tw_811, tw_812⟩
theorem cv_L_98 : CVr RL 98 mX9_setTrackOpen 3 := ⟨mok_X9_setTrackOpen, rfl, tw_1410, tw_1411, tw_1412⟩
theorem cv_X9_281 : CVr RX9 281 mX9_requireTrack 2 := ⟨mok_X9_requireTrack, rfl, tw_1414, tw_1416, tsel_33⟩
theorem cv_X9_294 : CVr RX9 294 mX4_openTrack 2 := ⟨mok_X4_openTrack, rfl, tw_1419, tw_563, tw_564⟩
theorem cv_L_102 : CVr RL 102 mX9_pass 1 := ⟨mok_X9_pass, rfl, tw_1420, tw_1421, tw_1422⟩
theorem cv_X9_278 : CVr RX9 278 mX4_passMinutes 1 := ⟨mok_X4_passMinutes, rfl, tw_1424, tw_1425, tw_1426⟩
theorem cv_X4_207 : CVr RX4 207 mX4_passMinute 0 := ⟨mok_X4_passMinute, rfl, tw_1428, tw_567, tw_568⟩
theorem cn_X4_39 : CNr RX4 39 mX5_init 0 := ⟨mok_X5_init, rfl, rfl, ⟨"ParcelRailway", by decide +kernel⟩, tw_55, rfl⟩
theorem cn_X4_40 : CNr RX4 40 mX7_init 0 := ⟨mok_X7_init, rfl, rfl, ⟨"ParcelRailway", by decide +kernel⟩, tw_80, rfl⟩
theorem cn_X9_21 : CNr RX9 21 mX3_init 0 := ⟨mok_X3_init, rfl, rfl, ⟨"ParcelRailway", by decide +kernel⟩, tw_262, rfl⟩
theorem cn_X3_11 : CNr RX3 11 mX6_init 0 := ⟨mok_X6_init, rfl, rfl, ⟨"ParcelRailway", by decide +kernel⟩, tw_268, rfl⟩
theorem cn_X9_35 : CNr RX9 35 mX1_init 0 := ⟨mok_X1_init, rfl, rfl, ⟨"ParcelRailway", by decide +kernel⟩, tw_353, rfl⟩
theorem nw_L_19 : NEW RL 19 9 7 [.null, .null, .null, .null, .null, .null, .null] := ⟨_, _, rfl, tw_31, tw_32, tw_1, fun j hj ty hty => by
  have h := hty.symm.trans (tyX9_ok j hj)
  cases h
  match j, hj with
  | 0, _ => rfl
  | 1, _ => rfl
  | 2, _ => rfl
  | 3, _ => rfl
  | 4, _ => rfl
  | 5, _ => rfl
  | 6, _ => rfl
  | n + 7, h => exact absurd h (by omega)⟩
theorem nw_X9_7 : NEW RX9 7 4 12 [.null, .null, .null, .null, .null, .int 0, .int 0, .int 0, .int 0, .int 0, .int 0, .int 0] := ⟨_, _, rfl, tw_39, tw_40, tw_2, fun j hj ty hty => by
  have h := hty.symm.trans (tyX4_ok j hj)
  cases h
  match j, hj with
  | 0, _ => rfl
  | 1, _ => rfl
  | 2, _ => rfl
  | 3, _ => rfl
  | 4, _ => rfl
  | 5, _ => rfl
  | 6, _ => rfl
  | 7, _ => rfl
  | 8, _ => rfl
  | 9, _ => rfl
  | 10, _ => rfl
  | 11, _ => rfl
  | n + 12, h => exact absurd h (by omega)⟩
theorem nw_X4_9 : NEW RX4 9 5 4 [.int 0, .int 0, .int 0, .int 0] := ⟨_, _, rfl, tw_45, tw_53, tw_3, fun j hj ty hty => by
  have h := hty.symm.trans (tyX5_ok j hj)
  cases h
  match j, hj with
  | 0, _ => rfl
  | 1, _ => rfl
  | 2, _ => rfl
  | 3, _ => rfl
  | n + 4, h => exact absurd h (by omega)⟩
theorem nw_X4_17 : NEW RX4 17 7 4 [.int 0, .int 0, .int 0, .int 0] := ⟨_, _, rfl, tw_47, tw_78, tw_4, fun j hj ty hty => by
  have h := hty.symm.trans (tyX7_ok j hj)
  cases h
  match j, hj with
  | 0, _ => rfl
  | 1, _ => rfl
  | 2, _ => rfl
  | 3, _ => rfl
  | n + 4, h => exact absurd h (by omega)⟩
theorem nw_X4_23 : NEW RX4 23 8 10 [.int 0, .int 0, .null, .int 0, .int 0, .int 0, .int 0, .int 0, .int 0, .int 0] := ⟨_, _, rfl, tw_49, tw_102, tw_5, fun j hj ty hty => by
  have h := hty.symm.trans (tyX8_ok j hj)
  cases h
  match j, hj with
  | 0, _ => rfl
  | 1, _ => rfl
  | 2, _ => rfl
  | 3, _ => rfl
  | 4, _ => rfl
  | 5, _ => rfl
  | 6, _ => rfl
  | 7, _ => rfl
  | 8, _ => rfl
  | 9, _ => rfl
  | n + 10, h => exact absurd h (by omega)⟩
theorem nw_X4_29 : NEW RX4 29 2 10 [.int 0, .int 0, .int 0, .int 0, .int 0, .int 0, .int 0, .int 0, .int 0, .int 0] := ⟨_, _, rfl, tw_51, tw_155, tw_6, fun j hj ty hty => by
  have h := hty.symm.trans (tyX2_ok j hj)
  cases h
  match j, hj with
  | 0, _ => rfl
  | 1, _ => rfl
  | 2, _ => rfl
  | 3, _ => rfl
  | 4, _ => rfl
  | 5, _ => rfl
  | 6, _ => rfl
  | 7, _ => rfl
  | 8, _ => rfl
  | 9, _ => rfl
  | n + 10, h => exact absurd h (by omega)⟩
theorem nw_X9_19 : NEW RX9 19 3 11 [.null, .null, .int 0, .int 0, .int 0, .int 0, .int 0, .int 0, .int 0, .null, .int 0] := ⟨_, _, rfl, tw_259, tw_260, tw_7, fun j hj ty hty => by
  have h := hty.symm.trans (tyX3_ok j hj)
  cases h
  match j, hj with
  | 0, _ => rfl
  | 1, _ => rfl
  | 2, _ => rfl
  | 3, _ => rfl
  | 4, _ => rfl
  | 5, _ => rfl
  | 6, _ => rfl
  | 7, _ => rfl
  | 8, _ => rfl
  | 9, _ => rfl
  | 10, _ => rfl
  | n + 11, h => exact absurd h (by omega)⟩
theorem nw_X3_9 : NEW RX3 9 6 5 [.null, .int 0, .int 0, .int 0, .int 0] := ⟨_, _, rfl, tw_265, tw_266, tw_8, fun j hj ty hty => by
  have h := hty.symm.trans (tyX6_ok j hj)
  cases h
  match j, hj with
  | 0, _ => rfl
  | 1, _ => rfl
  | 2, _ => rfl
  | 3, _ => rfl
  | 4, _ => rfl
  | n + 5, h => exact absurd h (by omega)⟩
theorem nw_X3_18 : NEW RX3 18 4 12 [.null, .null, .null, .null, .null, .int 0, .int 0, .int 0, .int 0, .int 0, .int 0, .int 0] := ⟨_, _, rfl, tw_292, tw_40, tw_2, fun j hj ty hty => by
  have h := hty.symm.trans (tyX4_ok j hj)
  cases h
  match j, hj with
  | 0, _ => rfl
  | 1, _ => rfl
  | 2, _ => rfl
  | 3, _ => rfl
  | 4, _ => rfl
  | 5, _ => rfl
  | 6, _ => rfl
  | 7, _ => rfl
  | 8, _ => rfl
  | 9, _ => rfl
  | 10, _ => rfl
  | 11, _ => rfl
  | n + 12, h => exact absurd h (by omega)⟩
theorem nw_X9_26 : NEW RX9 26 0 3 [.null, .int 0, .int 0] := ⟨_, _, rfl, tw_331, tw_332, tw_9, fun j hj ty hty => by
  have h := hty.symm.trans (tyX0_ok j hj)
  cases h
  match j, hj with
  | 0, _ => rfl
  | 1, _ => rfl
  | 2, _ => rfl
  | n + 3, h => exact absurd h (by omega)⟩
theorem nw_X0_9 : NEW RX0 9 4 12 [.null, .null, .null, .null, .null, .int 0, .int 0, .int 0, .int 0, .int 0, .int 0, .int 0] := ⟨_, _, rfl, tw_337, tw_40, tw_2, fun j hj ty hty => by
  have h := hty.symm.trans (tyX4_ok j hj)
  cases h
  match j, hj with
  | 0, _ => rfl
  | 1, _ => rfl
  | 2, _ => rfl
  | 3, _ => rfl
  | 4, _ => rfl
  | 5, _ => rfl
  | 6, _ => rfl
  | 7, _ => rfl
  | 8, _ => rfl
  | 9, _ => rfl
  | 10, _ => rfl
  | 11, _ => rfl
  | n + 12, h => exact absurd h (by omega)⟩
theorem nw_X9_33 : NEW RX9 33 1 2 [.null, .int 0] := ⟨_, _, rfl, tw_350, tw_351, tw_10, fun j hj ty hty => by
  have h := hty.symm.trans (tyX1_ok j hj)
  cases h
  match j, hj with
  | 0, _ => rfl
  | 1, _ => rfl
  | n + 2, h => exact absurd h (by omega)⟩
theorem nw_L_123 : NEW RL 123 10 17 [.int 0, .int 0, .null, .null, .null, .null, .null, .null, .null, .null, .null, .null, .null, .null, .null, .int 0, .int 0] := ⟨_, _, rfl, tw_715, tw_716, tw_28, fun j hj ty hty => by
  have h := hty.symm.trans (tyX10_ok j hj)
  cases h
  match j, hj with
  | 0, _ => rfl
  | 1, _ => rfl
  | 2, _ => rfl
  | 3, _ => rfl
  | 4, _ => rfl
  | 5, _ => rfl
  | 6, _ => rfl
  | 7, _ => rfl
  | 8, _ => rfl
  | 9, _ => rfl
  | 10, _ => rfl
  | 11, _ => rfl
  | 12, _ => rfl
  | 13, _ => rfl
  | 14, _ => rfl
  | 15, _ => rfl
  | 16, _ => rfl
  | n + 17, h => exact absurd h (by omega)⟩
theorem nw_L_39 : NEW RL 39 12 4 [.null, .int 0, .int 0, .int 0] := ⟨_, _, rfl, tw_1131, tw_1132, tw_17, fun j hj ty hty => by
  have h := hty.symm.trans (tyJ4_ok j hj)
  cases h
  match j, hj with
  | 0, _ => rfl
  | 1, _ => rfl
  | 2, _ => rfl
  | 3, _ => rfl
  | n + 4, h => exact absurd h (by omega)⟩
theorem nw_J4_18 : NEW RJ4 18 11 4 [.null, .int 0, .int 0, .int 0] := ⟨_, _, rfl, tw_1313, tw_1314, tw_11, fun j hj ty hty => by
  have h := hty.symm.trans (tyJ0_ok j hj)
  cases h
  match j, hj with
  | 0, _ => rfl
  | 1, _ => rfl
  | 2, _ => rfl
  | 3, _ => rfl
  | n + 4, h => exact absurd h (by omega)⟩
theorem nw_J7_45 : NEW RJ7 45 12 4 [.null, .int 0, .int 0, .int 0] := ⟨_, _, rfl, tw_1346, tw_1132, tw_17, fun j hj ty hty => by
  have h := hty.symm.trans (tyJ4_ok j hj)
  cases h
  match j, hj with
  | 0, _ => rfl
  | 1, _ => rfl
  | 2, _ => rfl
  | 3, _ => rfl
  | n + 4, h => exact absurd h (by omega)⟩
