abbrev mX0_init : MD := (yX0_init, cX0_init, 2, none, [])
theorem mok_X0_init : MOK mX0_init 0 := ⟨by decide +kernel, tw_331, tw_9, ⟨by decide +kernel, by decide +kernel⟩, by decide +kernel, Nat.le_of_ble_eq_true rfl⟩
abbrev mX0_remember : MD := (yX0_remember, cX0_remember, 2, none, [])
theorem mok_X0_remember : MOK mX0_remember 1 := ⟨by decide +kernel, tw_917, tw_9, ⟨by decide +kernel, by decide +kernel⟩, by decide +kernel, Nat.le_of_ble_eq_true rfl⟩
abbrev mX0_takeBack : MD := (yX0_takeBack, cX0_takeBack, 3, none, [])
theorem mok_X0_takeBack : MOK mX0_takeBack 1 := ⟨by decide +kernel, tw_1342, tw_9, ⟨by decide +kernel, by decide +kernel⟩, by decide +kernel, Nat.le_of_ble_eq_true rfl⟩
abbrev mX1_init : MD := (yX1_init, cX1_init, 1, none, [])
theorem mok_X1_init : MOK mX1_init 0 := ⟨by decide +kernel, tw_351, tw_10, ⟨by decide +kernel, by decide +kernel⟩, by decide +kernel, Nat.le_of_ble_eq_true rfl⟩
abbrev mX1_put : MD := (yX1_put, cX1_put, 2, none, [])
theorem mok_X1_put : MOK mX1_put 1 := ⟨by decide +kernel, tw_772, tw_10, ⟨by decide +kernel, by decide +kernel⟩, by decide +kernel, Nat.le_of_ble_eq_true rfl⟩
abbrev mX1_putName : MD := (yX1_putName, cX1_putName, 4, none, [])
theorem mok_X1_putName : MOK mX1_putName 1 := ⟨by decide +kernel, tw_785, tw_10, ⟨by decide +kernel, by decide +kernel⟩, by decide +kernel, Nat.le_of_ble_eq_true rfl⟩
abbrev mX2_init : MD := (yX2_init, cX2_init, 2, none, [])
theorem mok_X2_init : MOK mX2_init 1 := ⟨by decide +kernel, tw_152, tw_6, ⟨by decide +kernel, by decide +kernel⟩, by decide +kernel, Nat.le_of_ble_eq_true rfl⟩
abbrev mX2_copyFrom : MD := (yX2_copyFrom, cX2_copyFrom, 2, none, [])
theorem mok_X2_copyFrom : MOK mX2_copyFrom 1 := ⟨by decide +kernel, tw_659, tw_6, ⟨by decide +kernel, by decide +kernel⟩, by decide +kernel, Nat.le_of_ble_eq_true rfl⟩
abbrev mX2_isDelivered : MD := (yX2_isDelivered, cX2_isDelivered, 1, (some .boolean), [])
theorem mok_X2_isDelivered : MOK mX2_isDelivered 0 := ⟨by decide +kernel, tw_722, tw_6, ⟨by decide +kernel, by decide +kernel⟩, by decide +kernel, Nat.le_of_ble_eq_true rfl⟩
abbrev mX2_isHeldAt : MD := (yX2_isHeldAt, cX2_isHeldAt, 2, (some .boolean), [])
theorem mok_X2_isHeldAt : MOK mX2_isHeldAt 1 := ⟨by decide +kernel, tw_1183, tw_6, ⟨by decide +kernel, by decide +kernel⟩, by decide +kernel, Nat.le_of_ble_eq_true rfl⟩
abbrev mX2_isReadyAt : MD := (yX2_isReadyAt, cX2_isReadyAt, 3, (some .boolean), [])
theorem mok_X2_isReadyAt : MOK mX2_isReadyAt 2 := ⟨by decide +kernel, tw_593, tw_6, ⟨by decide +kernel, by decide +kernel⟩, by decide +kernel, Nat.le_of_ble_eq_true rfl⟩
abbrev mX2_isConsideredBefore : MD := (yX2_isConsideredBefore, cX2_isConsideredBefore, 2, (some .boolean), [])
theorem mok_X2_isConsideredBefore : MOK mX2_isConsideredBefore 1 := ⟨by decide +kernel, tw_597, tw_6, ⟨by decide +kernel, by decide +kernel⟩, by decide +kernel, Nat.le_of_ble_eq_true rfl⟩
abbrev mX2_board : MD := (yX2_board, cX2_board, 3, none, [])
theorem mok_X2_board : MOK mX2_board 2 := ⟨by decide +kernel, tw_605, tw_6, ⟨by decide +kernel, by decide +kernel⟩, by decide +kernel, Nat.le_of_ble_eq_true rfl⟩
abbrev mX2_deliver : MD := (yX2_deliver, cX2_deliver, 2, none, [])
theorem mok_X2_deliver : MOK mX2_deliver 1 := ⟨by decide +kernel, tw_635, tw_6, ⟨by decide +kernel, by decide +kernel⟩, by decide +kernel, Nat.le_of_ble_eq_true rfl⟩
abbrev mX2_transferTo : MD := (yX2_transferTo, cX2_transferTo, 3, none, [])
theorem mok_X2_transferTo : MOK mX2_transferTo 2 := ⟨by decide +kernel, tw_639, tw_6, ⟨by decide +kernel, by decide +kernel⟩, by decide +kernel, Nat.le_of_ble_eq_true rfl⟩
abbrev mX2_returnToSender : MD := (yX2_returnToSender, cX2_returnToSender, 2, none, [])
theorem mok_X2_returnToSender : MOK mX2_returnToSender 1 := ⟨by decide +kernel, tw_1302, tw_6, ⟨by decide +kernel, by decide +kernel⟩, by decide +kernel, Nat.le_of_ble_eq_true rfl⟩
abbrev mX3_init : MD := (yX3_init, cX3_init, 1, none, [])
theorem mok_X3_init : MOK mX3_init 0 := ⟨by decide +kernel, tw_258, tw_7, ⟨by decide +kernel, by decide +kernel⟩, by decide +kernel, Nat.le_of_ble_eq_true rfl⟩
abbrev mX3_parse : MD := (yX3_parse, cX3_parse, 4, none, [])
theorem mok_X3_parse : MOK mX3_parse 0 := ⟨by decide +kernel, tw_422, tw_7, ⟨by decide +kernel, by decide +kernel⟩, by decide +kernel, Nat.le_of_ble_eq_true rfl⟩
abbrev mX3_fail : MD := (yX3_fail, cX3_fail, 2, none, [])
theorem mok_X3_fail : MOK mX3_fail 1 := ⟨by decide +kernel, tw_485, tw_7, ⟨by decide +kernel, by decide +kernel⟩, by decide +kernel, Nat.le_of_ble_eq_true rfl⟩
abbrev mX3_readStatement : MD := (yX3_readStatement, cX3_readStatement, 1, none, [])
theorem mok_X3_readStatement : MOK mX3_readStatement 0 := ⟨by decide +kernel, tw_461, tw_7, ⟨by decide +kernel, by decide +kernel⟩, by decide +kernel, Nat.le_of_ble_eq_true rfl⟩
abbrev mX3_execute : MD := (yX3_execute, cX3_execute, 1, (some .int), [])
theorem mok_X3_execute : MOK mX3_execute 0 := ⟨by decide +kernel, tw_541, tw_7, ⟨by decide +kernel, by decide +kernel⟩, by decide +kernel, Nat.le_of_ble_eq_true rfl⟩
abbrev mX3_takeKeyword : MD := (yX3_takeKeyword, cX3_takeKeyword, 2, (some .int), [])
theorem mok_X3_takeKeyword : MOK mX3_takeKeyword 0 := ⟨by decide +kernel, tw_465, tw_7, ⟨by decide +kernel, by decide +kernel⟩, by decide +kernel, Nat.le_of_ble_eq_true rfl⟩
abbrev mX3_findKeyword : MD := (yX3_findKeyword, cX3_findKeyword, 1, (some .int), [])
theorem mok_X3_findKeyword : MOK mX3_findKeyword 0 := ⟨by decide +kernel, tw_469, tw_7, ⟨by decide +kernel, by decide +kernel⟩, by decide +kernel, Nat.le_of_ble_eq_true rfl⟩
abbrev mX3_isFull : MD := (yX3_isFull, cX3_isFull, 2, (some .boolean), [])
theorem mok_X3_isFull : MOK mX3_isFull 1 := ⟨by decide +kernel, tw_489, tw_7, ⟨by decide +kernel, by decide +kernel⟩, by decide +kernel, Nat.le_of_ble_eq_true rfl⟩
abbrev mX3_takeNewName : MD := (yX3_takeNewName, cX3_takeNewName, 2, (some .int), [])
theorem mok_X3_takeNewName : MOK mX3_takeNewName 0 := ⟨by decide +kernel, tw_494, tw_7, ⟨by decide +kernel, by decide +kernel⟩, by decide +kernel, Nat.le_of_ble_eq_true rfl⟩
abbrev mX3_takeNumber : MD := (yX3_takeNumber, cX3_takeNumber, 4, (some .int), [])
theorem mok_X3_takeNumber : MOK mX3_takeNumber 2 := ⟨by decide +kernel, tw_526, tw_7, ⟨by decide +kernel, by decide +kernel⟩, by decide +kernel, Nat.le_of_ble_eq_true rfl⟩
abbrev mX3_takeStation : MD := (yX3_takeStation, cX3_takeStation, 2, (some .int), [])
theorem mok_X3_takeStation : MOK mX3_takeStation 0 := ⟨by decide +kernel, tw_506, tw_7, ⟨by decide +kernel, by decide +kernel⟩, by decide +kernel, Nat.le_of_ble_eq_true rfl⟩
abbrev mX3_takeSecondStation : MD := (yX3_takeSecondStation, cX3_takeSecondStation, 3, (some .int), [])
theorem mok_X3_takeSecondStation : MOK mX3_takeSecondStation 0 := ⟨by decide +kernel, tw_514, tw_7, ⟨by decide +kernel, by decide +kernel⟩, by decide +kernel, Nat.le_of_ble_eq_true rfl⟩
abbrev mX3_findNamedStation : MD := (yX3_findNamedStation, cX3_findNamedStation, 2, (some .int), [])
theorem mok_X3_findNamedStation : MOK mX3_findNamedStation 0 := ⟨by decide +kernel, tw_510, tw_7, ⟨by decide +kernel, by decide +kernel⟩, by decide +kernel, Nat.le_of_ble_eq_true rfl⟩
abbrev mX3_takeRoute : MD := (yX3_takeRoute, cX3_takeRoute, 3, none, [])
theorem mok_X3_takeRoute : MOK mX3_takeRoute 0 := ⟨by decide +kernel, tw_537, tw_7, ⟨by decide +kernel, by decide +kernel⟩, by decide +kernel, Nat.le_of_ble_eq_true rfl⟩
abbrev mX4_init : MD := (yX4_init, cX4_init, 2, none, [])
theorem mok_X4_init : MOK mX4_init 0 := ⟨by decide +kernel, tw_36, tw_2, ⟨by decide +kernel, by decide +kernel⟩, by decide +kernel, Nat.le_of_ble_eq_true rfl⟩
abbrev mX4_copyFrom : MD := (yX4_copyFrom, cX4_copyFrom, 3, none, [])
theorem mok_X4_copyFrom : MOK mX4_copyFrom 1 := ⟨by decide +kernel, tw_643, tw_2, ⟨by decide +kernel, by decide +kernel⟩, by decide +kernel, Nat.le_of_ble_eq_true rfl⟩
abbrev mX4_clear : MD := (yX4_clear, cX4_clear, 1, none, [])
theorem mok_X4_clear : MOK mX4_clear 0 := ⟨by decide +kernel, tw_426, tw_2, ⟨by decide +kernel, by decide +kernel⟩, by decide +kernel, Nat.le_of_ble_eq_true rfl⟩
abbrev mX4_makeStation : MD := (yX4_makeStation, cX4_makeStation, 4, none, [])
theorem mok_X4_makeStation : MOK mX4_makeStation 2 := ⟨by decide +kernel, tw_545, tw_2, ⟨by decide +kernel, by decide +kernel⟩, by decide +kernel, Nat.le_of_ble_eq_true rfl⟩
abbrev mX4_makeTrack : MD := (yX4_makeTrack, cX4_makeTrack, 5, none, [])
theorem mok_X4_makeTrack : MOK mX4_makeTrack 3 := ⟨by decide +kernel, tw_549, tw_2, ⟨by decide +kernel, by decide +kernel⟩, by decide +kernel, Nat.le_of_ble_eq_true rfl⟩
abbrev mX4_makeTrain : MD := (yX4_makeTrain, cX4_makeTrain, 6, none, [])
theorem mok_X4_makeTrain : MOK mX4_makeTrain 3 := ⟨by decide +kernel, tw_553, tw_2, ⟨by decide +kernel, by decide +kernel⟩, by decide +kernel, Nat.le_of_ble_eq_true rfl⟩
abbrev mX4_makeParcel : MD := (yX4_makeParcel, cX4_makeParcel, 5, none, [])
theorem mok_X4_makeParcel : MOK mX4_makeParcel 3 := ⟨by decide +kernel, tw_557, tw_2, ⟨by decide +kernel, by decide +kernel⟩, by decide +kernel, Nat.le_of_ble_eq_true rfl⟩
abbrev mX4_openTrack : MD := (yX4_openTrack, cX4_openTrack, 3, none, [])
theorem mok_X4_openTrack : MOK mX4_openTrack 2 := ⟨by decide +kernel, tw_565, tw_2, ⟨by decide +kernel, by decide +kernel⟩, by decide +kernel, Nat.le_of_ble_eq_true rfl⟩
abbrev mX4_setInspectionOf : MD := (yX4_setInspectionOf, cX4_setInspectionOf, 3, none, [])
theorem mok_X4_setInspectionOf : MOK mX4_setInspectionOf 2 := ⟨by decide +kernel, tw_561, tw_2, ⟨by decide +kernel, by decide +kernel⟩, by decide +kernel, Nat.le_of_ble_eq_true rfl⟩
abbrev mX4_findStation : MD := (yX4_findStation, cX4_findStation, 3, (some .int), [])
theorem mok_X4_findStation : MOK mX4_findStation 1 := ⟨by decide +kernel, tw_502, tw_2, ⟨by decide +kernel, by decide +kernel⟩, by decide +kernel, Nat.le_of_ble_eq_true rfl⟩
abbrev mX4_nameOf : MD := (yX4_nameOf, cX4_nameOf, 2, (some .int), [])
theorem mok_X4_nameOf : MOK mX4_nameOf 1 := ⟨by decide +kernel, tw_781, tw_2, ⟨by decide +kernel, by decide +kernel⟩, by decide +kernel, Nat.le_of_ble_eq_true rfl⟩
abbrev mX4_findTrack : MD := (yX4_findTrack, cX4_findTrack, 4, (some .int), [])
theorem mok_X4_findTrack : MOK mX4_findTrack 2 := ⟨by decide +kernel, tw_518, tw_2, ⟨by decide +kernel, by decide +kernel⟩, by decide +kernel, Nat.le_of_ble_eq_true rfl⟩
abbrev mX4_distanceBetween : MD := (yX4_distanceBetween, cX4_distanceBetween, 3, (some .int), [])
theorem mok_X4_distanceBetween : MOK mX4_distanceBetween 2 := ⟨by decide +kernel, tw_438, tw_2, ⟨by decide +kernel, by decide +kernel⟩, by decide +kernel, Nat.le_of_ble_eq_true rfl⟩
abbrev mX4_measureDistances : MD := (yX4_measureDistances, cX4_measureDistances, 4, none, [])
theorem mok_X4_measureDistances : MOK mX4_measureDistances 0 := ⟨by decide +kernel, tw_430, tw_2, ⟨by decide +kernel, by decide +kernel⟩, by decide +kernel, Nat.le_of_ble_eq_true rfl⟩
abbrev mX4_shorten : MD := (yX4_shorten, cX4_shorten, 5, none, [])
theorem mok_X4_shorten : MOK mX4_shorten 3 := ⟨by decide +kernel, tw_434, tw_2, ⟨by decide +kernel, by decide +kernel⟩, by decide +kernel, Nat.le_of_ble_eq_true rfl⟩
abbrev mX4_countWaitingAt : MD := (yX4_countWaitingAt, cX4_countWaitingAt, 4, (some .int), [])
theorem mok_X4_countWaitingAt : MOK mX4_countWaitingAt 1 := ⟨by decide +kernel, tw_730, tw_2, ⟨by decide +kernel, by decide +kernel⟩, by decide +kernel, Nat.le_of_ble_eq_true rfl⟩
abbrev mX4_countCarriedBy : MD := (yX4_countCarriedBy, cX4_countCarriedBy, 4, (some .int), [])
theorem mok_X4_countCarriedBy : MOK mX4_countCarriedBy 1 := ⟨by decide +kernel, tw_585, tw_2, ⟨by decide +kernel, by decide +kernel⟩, by decide +kernel, Nat.le_of_ble_eq_true rfl⟩
abbrev mX4_countCarried : MD := (yX4_countCarried, cX4_countCarried, 3, (some .int), [])
theorem mok_X4_countCarried : MOK mX4_countCarried 0 := ⟨by decide +kernel, tw_734, tw_2, ⟨by decide +kernel, by decide +kernel⟩, by decide +kernel, Nat.le_of_ble_eq_true rfl⟩
abbrev mX4_countDelivered : MD := (yX4_countDelivered, cX4_countDelivered, 3, (some .int), [])
theorem mok_X4_countDelivered : MOK mX4_countDelivered 0 := ⟨by decide +kernel, tw_718, tw_2, ⟨by decide +kernel, by decide +kernel⟩, by decide +kernel, Nat.le_of_ble_eq_true rfl⟩
abbrev mX4_sumDeliveryClocks : MD := (yX4_sumDeliveryClocks, cX4_sumDeliveryClocks, 3, (some .int), [])
theorem mok_X4_sumDeliveryClocks : MOK mX4_sumDeliveryClocks 0 := ⟨by decide +kernel, tw_746, tw_2, ⟨by decide +kernel, by decide +kernel⟩, by decide +kernel, Nat.le_of_ble_eq_true rfl⟩
abbrev mX4_findWaiting : MD := (yX4_findWaiting, cX4_findWaiting, 4, (some .int), [])
theorem mok_X4_findWaiting : MOK mX4_findWaiting 2 := ⟨by decide +kernel, tw_972, tw_2, ⟨by decide +kernel, by decide +kernel⟩, by decide +kernel, Nat.le_of_ble_eq_true rfl⟩
abbrev mX4_countWaitingBefore : MD := (yX4_countWaitingBefore, cX4_countWaitingBefore, 4, (some .int), [])
theorem mok_X4_countWaitingBefore : MOK mX4_countWaitingBefore 1 := ⟨by decide +kernel, tw_976, tw_2, ⟨by decide +kernel, by decide +kernel⟩, by decide +kernel, Nat.le_of_ble_eq_true rfl⟩
abbrev mX4_findCarried : MD := (yX4_findCarried, cX4_findCarried, 5, (some .int), [])
theorem mok_X4_findCarried : MOK mX4_findCarried 2 := ⟨by decide +kernel, tw_1063, tw_2, ⟨by decide +kernel, by decide +kernel⟩, by decide +kernel, Nat.le_of_ble_eq_true rfl⟩
abbrev mX4_findDrop : MD := (yX4_findDrop, cX4_findDrop, 8, (some .int), [])
theorem mok_X4_findDrop : MOK mX4_findDrop 2 := ⟨by decide +kernel, tw_601, tw_2, ⟨by decide +kernel, by decide +kernel⟩, by decide +kernel, Nat.le_of_ble_eq_true rfl⟩
abbrev mX4_findNextToLoad : MD := (yX4_findNextToLoad, cX4_findNextToLoad, 6, (some (.object "ParcelRailway$Parcel")), [])
theorem mok_X4_findNextToLoad : MOK mX4_findNextToLoad 1 := ⟨by decide +kernel, tw_581, tw_2, ⟨by decide +kernel, by decide +kernel⟩, by decide +kernel, Nat.le_of_ble_eq_true rfl⟩
abbrev mX4_findObstacle : MD := (yX4_findObstacle, cX4_findObstacle, 7, (some .int), [])
theorem mok_X4_findObstacle : MOK mX4_findObstacle 2 := ⟨by decide +kernel, tw_1201, tw_2, ⟨by decide +kernel, by decide +kernel⟩, by decide +kernel, Nat.le_of_ble_eq_true rfl⟩
abbrev mX4_passMinutes : MD := (yX4_passMinutes, cX4_passMinutes, 3, none, [])
theorem mok_X4_passMinutes : MOK mX4_passMinutes 1 := ⟨by decide +kernel, tw_1232, tw_2, ⟨by decide +kernel, by decide +kernel⟩, by decide +kernel, Nat.le_of_ble_eq_true rfl⟩
abbrev mX4_passMinute : MD := (yX4_passMinute, cX4_passMinute, 3, none, [])
theorem mok_X4_passMinute : MOK mX4_passMinute 0 := ⟨by decide +kernel, tw_569, tw_2, ⟨by decide +kernel, by decide +kernel⟩, by decide +kernel, Nat.le_of_ble_eq_true rfl⟩
abbrev mX4_loadTrain : MD := (yX4_loadTrain, cX4_loadTrain, 4, none, [])
theorem mok_X4_loadTrain : MOK mX4_loadTrain 1 := ⟨by decide +kernel, tw_577, tw_2, ⟨by decide +kernel, by decide +kernel⟩, by decide +kernel, Nat.le_of_ble_eq_true rfl⟩
abbrev mX4_depart : MD := (yX4_depart, cX4_depart, 3, none, [])
theorem mok_X4_depart : MOK mX4_depart 1 := ⟨by decide +kernel, tw_609, tw_2, ⟨by decide +kernel, by decide +kernel⟩, by decide +kernel, Nat.le_of_ble_eq_true rfl⟩
abbrev mX4_arrive : MD := (yX4_arrive, cX4_arrive, 3, none, [])
theorem mok_X4_arrive : MOK mX4_arrive 1 := ⟨by decide +kernel, tw_614, tw_2, ⟨by decide +kernel, by decide +kernel⟩, by decide +kernel, Nat.le_of_ble_eq_true rfl⟩
abbrev mX4_isDropOf : MD := (yX4_isDropOf, cX4_isDropOf, 4, (some .boolean), [])
theorem mok_X4_isDropOf : MOK mX4_isDropOf 2 := ⟨by decide +kernel, tw_627, tw_2, ⟨by decide +kernel, by decide +kernel⟩, by decide +kernel, Nat.le_of_ble_eq_true rfl⟩
abbrev mX4_unload : MD := (yX4_unload, cX4_unload, 6, none, [])
theorem mok_X4_unload : MOK mX4_unload 2 := ⟨by decide +kernel, tw_631, tw_2, ⟨by decide +kernel, by decide +kernel⟩, by decide +kernel, Nat.le_of_ble_eq_true rfl⟩
abbrev mX5_init : MD := (yX5_init, cX5_init, 1, none, [])
theorem mok_X5_init : MOK mX5_init 0 := ⟨by decide +kernel, tw_49, tw_3, ⟨by decide +kernel, by decide +kernel⟩, by decide +kernel, Nat.le_of_ble_eq_true rfl⟩
abbrev mX5_copyFrom : MD := (yX5_copyFrom, cX5_copyFrom, 2, none, [])
theorem mok_X5_copyFrom : MOK mX5_copyFrom 1 := ⟨by decide +kernel, tw_647, tw_3, ⟨by decide +kernel, by decide +kernel⟩, by decide +kernel, Nat.le_of_ble_eq_true rfl⟩
abbrev mX6_init : MD := (yX6_init, cX6_init, 1, none, [])
theorem mok_X6_init : MOK mX6_init 0 := ⟨by decide +kernel, tw_264, tw_8, ⟨by decide +kernel, by decide +kernel⟩, by decide +kernel, Nat.le_of_ble_eq_true rfl⟩
abbrev mX6_appendByte : MD := (yX6_appendByte, cX6_appendByte, 2, none, [])
theorem mok_X6_appendByte : MOK mX6_appendByte 1 := ⟨by decide +kernel, tw_418, tw_8, ⟨by decide +kernel, by decide +kernel⟩, by decide +kernel, Nat.le_of_ble_eq_true rfl⟩
abbrev mX6_appendFourBytes : MD := (yX6_appendFourBytes, cX6_appendFourBytes, 2, none, [])
theorem mok_X6_appendFourBytes : MOK mX6_appendFourBytes 1 := ⟨by decide +kernel, tw_881, tw_8, ⟨by decide +kernel, by decide +kernel⟩, by decide +kernel, Nat.le_of_ble_eq_true rfl⟩
abbrev mX6_appendText : MD := (yX6_appendText, cX6_appendText, 3, none, [])
theorem mok_X6_appendText : MOK mX6_appendText 1 := ⟨by decide +kernel, tw_366, tw_8, ⟨by decide +kernel, by decide +kernel⟩, by decide +kernel, Nat.le_of_ble_eq_true rfl⟩
abbrev mX6_begin : MD := (yX6_begin, cX6_begin, 1, none, [])
theorem mok_X6_begin : MOK mX6_begin 0 := ⟨by decide +kernel, tw_442, tw_8, ⟨by decide +kernel, by decide +kernel⟩, by decide +kernel, Nat.le_of_ble_eq_true rfl⟩
abbrev mX6_advance : MD := (yX6_advance, cX6_advance, 2, none, [])
theorem mok_X6_advance : MOK mX6_advance 0 := ⟨by decide +kernel, tw_446, tw_8, ⟨by decide +kernel, by decide +kernel⟩, by decide +kernel, Nat.le_of_ble_eq_true rfl⟩
abbrev mX6_isBlank : MD := (yX6_isBlank, cX6_isBlank, 1, (some .boolean), [])
theorem mok_X6_isBlank : MOK mX6_isBlank 1 := ⟨by decide +kernel, tw_453, tw_8, ⟨by decide +kernel, by decide +kernel⟩, by decide +kernel, Nat.le_of_ble_eq_true rfl⟩
abbrev mX6_byteAt : MD := (yX6_byteAt, cX6_byteAt, 2, (some .int), [])
theorem mok_X6_byteAt : MOK mX6_byteAt 1 := ⟨by decide +kernel, tw_450, tw_8, ⟨by decide +kernel, by decide +kernel⟩, by decide +kernel, Nat.le_of_ble_eq_true rfl⟩
abbrev mX6_findRunEnd : MD := (yX6_findRunEnd, cX6_findRunEnd, 4, (some .int), [])
theorem mok_X6_findRunEnd : MOK mX6_findRunEnd 2 := ⟨by decide +kernel, tw_457, tw_8, ⟨by decide +kernel, by decide +kernel⟩, by decide +kernel, Nat.le_of_ble_eq_true rfl⟩
abbrev mX6_isText : MD := (yX6_isText, cX6_isText, 3, (some .boolean), [])
theorem mok_X6_isText : MOK mX6_isText 1 := ⟨by decide +kernel, tw_474, tw_8, ⟨by decide +kernel, by decide +kernel⟩, by decide +kernel, Nat.le_of_ble_eq_true rfl⟩
abbrev mX6_packName : MD := (yX6_packName, cX6_packName, 3, (some .int), [])
theorem mok_X6_packName : MOK mX6_packName 0 := ⟨by decide +kernel, tw_498, tw_8, ⟨by decide +kernel, by decide +kernel⟩, by decide +kernel, Nat.le_of_ble_eq_true rfl⟩
abbrev mX6_readNumber : MD := (yX6_readNumber, cX6_readNumber, 3, (some .int), [])
theorem mok_X6_readNumber : MOK mX6_readNumber 0 := ⟨by decide +kernel, tw_530, tw_8, ⟨by decide +kernel, by decide +kernel⟩, by decide +kernel, Nat.le_of_ble_eq_true rfl⟩
abbrev mX7_init : MD := (yX7_init, cX7_init, 1, none, [])
theorem mok_X7_init : MOK mX7_init 0 := ⟨by decide +kernel, tw_75, tw_4, ⟨by decide +kernel, by decide +kernel⟩, by decide +kernel, Nat.le_of_ble_eq_true rfl⟩
abbrev mX7_copyFrom : MD := (yX7_copyFrom, cX7_copyFrom, 2, none, [])
theorem mok_X7_copyFrom : MOK mX7_copyFrom 1 := ⟨by decide +kernel, tw_651, tw_4, ⟨by decide +kernel, by decide +kernel⟩, by decide +kernel, Nat.le_of_ble_eq_true rfl⟩
abbrev mX7_connects : MD := (yX7_connects, cX7_connects, 3, (some .boolean), [])
theorem mok_X7_connects : MOK mX7_connects 2 := ⟨by decide +kernel, tw_522, tw_4, ⟨by decide +kernel, by decide +kernel⟩, by decide +kernel, Nat.le_of_ble_eq_true rfl⟩
abbrev mX8_init : MD := (yX8_init, cX8_init, 2, none, [])
theorem mok_X8_init : MOK mX8_init 1 := ⟨by decide +kernel, tw_99, tw_5, ⟨by decide +kernel, by decide +kernel⟩, by decide +kernel, Nat.le_of_ble_eq_true rfl⟩
abbrev mX8_copyFrom : MD := (yX8_copyFrom, cX8_copyFrom, 3, none, [])
theorem mok_X8_copyFrom : MOK mX8_copyFrom 1 := ⟨by decide +kernel, tw_655, tw_5, ⟨by decide +kernel, by decide +kernel⟩, by decide +kernel, Nat.le_of_ble_eq_true rfl⟩
abbrev mX8_isStanding : MD := (yX8_isStanding, cX8_isStanding, 1, (some .boolean), [])
theorem mok_X8_isStanding : MOK mX8_isStanding 0 := ⟨by decide +kernel, tw_573, tw_5, ⟨by decide +kernel, by decide +kernel⟩, by decide +kernel, Nat.le_of_ble_eq_true rfl⟩
abbrev mX8_stationAt : MD := (yX8_stationAt, cX8_stationAt, 2, (some .int), [])
theorem mok_X8_stationAt : MOK mX8_stationAt 1 := ⟨by decide +kernel, tw_1045, tw_5, ⟨by decide +kernel, by decide +kernel⟩, by decide +kernel, Nat.le_of_ble_eq_true rfl⟩
abbrev mX8_stationAhead : MD := (yX8_stationAhead, cX8_stationAhead, 3, (some .int), [])
theorem mok_X8_stationAhead : MOK mX8_stationAhead 1 := ⟨by decide +kernel, tw_589, tw_5, ⟨by decide +kernel, by decide +kernel⟩, by decide +kernel, Nat.le_of_ble_eq_true rfl⟩
abbrev mX8_standsAt : MD := (yX8_standsAt, cX8_standsAt, 1, (some .int), [])
theorem mok_X8_standsAt : MOK mX8_standsAt 0 := ⟨by decide +kernel, tw_1074, tw_5, ⟨by decide +kernel, by decide +kernel⟩, by decide +kernel, Nat.le_of_ble_eq_true rfl⟩
abbrev mX8_isAtEnd : MD := (yX8_isAtEnd, cX8_isAtEnd, 1, (some .boolean), [])
theorem mok_X8_isAtEnd : MOK mX8_isAtEnd 0 := ⟨by decide +kernel, tw_622, tw_5, ⟨by decide +kernel, by decide +kernel⟩, by decide +kernel, Nat.le_of_ble_eq_true rfl⟩
abbrev mX8_reachNextStop : MD := (yX8_reachNextStop, cX8_reachNextStop, 1, none, [])
theorem mok_X8_reachNextStop : MOK mX8_reachNextStop 0 := ⟨by decide +kernel, tw_618, tw_5, ⟨by decide +kernel, by decide +kernel⟩, by decide +kernel, Nat.le_of_ble_eq_true rfl⟩
abbrev mX9_init : MD := (yX9_init, cX9_init, 2, none, [])
theorem mok_X9_init : MOK mX9_init 0 := ⟨by decide +kernel, tw_28, tw_1, ⟨by decide +kernel, by decide +kernel⟩, by decide +kernel, Nat.le_of_ble_eq_true rfl⟩
abbrev mX9_appendInput : MD := (yX9_appendInput, cX9_appendInput, 7, (some .int), [])
theorem mok_X9_appendInput : MOK mX9_appendInput 5 := ⟨by decide +kernel, tw_809, tw_1, ⟨by decide +kernel, by decide +kernel⟩, by decide +kernel, Nat.le_of_ble_eq_true rfl⟩
abbrev mX9_truncateInput : MD := (yX9_truncateInput, cX9_truncateInput, 2, (some .int), [])
theorem mok_X9_truncateInput : MOK mX9_truncateInput 1 := ⟨by decide +kernel, tw_889, tw_1, ⟨by decide +kernel, by decide +kernel⟩, by decide +kernel, Nat.le_of_ble_eq_true rfl⟩
abbrev mX9_load : MD := (yX9_load, cX9_load, 1, (some .int), [])
theorem mok_X9_load : MOK mX9_load 0 := ⟨by decide +kernel, tw_912, tw_1, ⟨by decide +kernel, by decide +kernel⟩, by decide +kernel, Nat.le_of_ble_eq_true rfl⟩
abbrev mX9_errorCode : MD := (yX9_errorCode, cX9_errorCode, 1, (some .int), [])
theorem mok_X9_errorCode : MOK mX9_errorCode 0 := ⟨by decide +kernel, tw_686, tw_1, ⟨by decide +kernel, by decide +kernel⟩, by decide +kernel, Nat.le_of_ble_eq_true rfl⟩
abbrev mX9_errorPosition : MD := (yX9_errorPosition, cX9_errorPosition, 1, (some .int), [])
theorem mok_X9_errorPosition : MOK mX9_errorPosition 0 := ⟨by decide +kernel, tw_690, tw_1, ⟨by decide +kernel, by decide +kernel⟩, by decide +kernel, Nat.le_of_ble_eq_true rfl⟩
abbrev mX9_clock : MD := (yX9_clock, cX9_clock, 1, (some .int), [])
theorem mok_X9_clock : MOK mX9_clock 0 := ⟨by decide +kernel, tw_694, tw_1, ⟨by decide +kernel, by decide +kernel⟩, by decide +kernel, Nat.le_of_ble_eq_true rfl⟩
abbrev mX9_stationCount : MD := (yX9_stationCount, cX9_stationCount, 1, (some .int), [])
theorem mok_X9_stationCount : MOK mX9_stationCount 0 := ⟨by decide +kernel, tw_698, tw_1, ⟨by decide +kernel, by decide +kernel⟩, by decide +kernel, Nat.le_of_ble_eq_true rfl⟩
abbrev mX9_trackCount : MD := (yX9_trackCount, cX9_trackCount, 1, (some .int), [])
theorem mok_X9_trackCount : MOK mX9_trackCount 0 := ⟨by decide +kernel, tw_702, tw_1, ⟨by decide +kernel, by decide +kernel⟩, by decide +kernel, Nat.le_of_ble_eq_true rfl⟩
abbrev mX9_trainCount : MD := (yX9_trainCount, cX9_trainCount, 1, (some .int), [])
theorem mok_X9_trainCount : MOK mX9_trainCount 0 := ⟨by decide +kernel, tw_706, tw_1, ⟨by decide +kernel, by decide +kernel⟩, by decide +kernel, Nat.le_of_ble_eq_true rfl⟩
abbrev mX9_parcelCount : MD := (yX9_parcelCount, cX9_parcelCount, 1, (some .int), [])
theorem mok_X9_parcelCount : MOK mX9_parcelCount 0 := ⟨by decide +kernel, tw_710, tw_1, ⟨by decide +kernel, by decide +kernel⟩, by decide +kernel, Nat.le_of_ble_eq_true rfl⟩
abbrev mX9_isRequestStop : MD := (yX9_isRequestStop, cX9_isRequestStop, 2, (some .boolean), [])
theorem mok_X9_isRequestStop : MOK mX9_isRequestStop 1 := ⟨by decide +kernel, tw_926, tw_1, ⟨by decide +kernel, by decide +kernel⟩, by decide +kernel, Nat.le_of_ble_eq_true rfl⟩
abbrev mX9_inspectionTime : MD := (yX9_inspectionTime, cX9_inspectionTime, 2, (some .int), [])
theorem mok_X9_inspectionTime : MOK mX9_inspectionTime 1 := ⟨by decide +kernel, tw_953, tw_1, ⟨by decide +kernel, by decide +kernel⟩, by decide +kernel, Nat.le_of_ble_eq_true rfl⟩
abbrev mX9_waitingCount : MD := (yX9_waitingCount, cX9_waitingCount, 2, (some .int), [])
theorem mok_X9_waitingCount : MOK mX9_waitingCount 1 := ⟨by decide +kernel, tw_960, tw_1, ⟨by decide +kernel, by decide +kernel⟩, by decide +kernel, Nat.le_of_ble_eq_true rfl⟩
abbrev mX9_waitingParcel : MD := (yX9_waitingParcel, cX9_waitingParcel, 4, (some .int), [])
theorem mok_X9_waitingParcel : MOK mX9_waitingParcel 2 := ⟨by decide +kernel, tw_968, tw_1, ⟨by decide +kernel, by decide +kernel⟩, by decide +kernel, Nat.le_of_ble_eq_true rfl⟩
abbrev mX9_travelTime : MD := (yX9_travelTime, cX9_travelTime, 4, (some .int), [])
theorem mok_X9_travelTime : MOK mX9_travelTime 2 := ⟨by decide +kernel, tw_999, tw_1, ⟨by decide +kernel, by decide +kernel⟩, by decide +kernel, Nat.le_of_ble_eq_true rfl⟩
abbrev mX9_isTrackOpen : MD := (yX9_isTrackOpen, cX9_isTrackOpen, 4, (some .boolean), [])
theorem mok_X9_isTrackOpen : MOK mX9_isTrackOpen 2 := ⟨by decide +kernel, tw_1007, tw_1, ⟨by decide +kernel, by decide +kernel⟩, by decide +kernel, Nat.le_of_ble_eq_true rfl⟩
abbrev mX9_distance : MD := (yX9_distance, cX9_distance, 4, (some .int), [])
theorem mok_X9_distance : MOK mX9_distance 2 := ⟨by decide +kernel, tw_1014, tw_1, ⟨by decide +kernel, by decide +kernel⟩, by decide +kernel, Nat.le_of_ble_eq_true rfl⟩
abbrev mX9_capacity : MD := (yX9_capacity, cX9_capacity, 2, (some .int), [])
theorem mok_X9_capacity : MOK mX9_capacity 1 := ⟨by decide +kernel, tw_1022, tw_1, ⟨by decide +kernel, by decide +kernel⟩, by decide +kernel, Nat.le_of_ble_eq_true rfl⟩
abbrev mX9_routeLength : MD := (yX9_routeLength, cX9_routeLength, 2, (some .int), [])
theorem mok_X9_routeLength : MOK mX9_routeLength 1 := ⟨by decide +kernel, tw_1034, tw_1, ⟨by decide +kernel, by decide +kernel⟩, by decide +kernel, Nat.le_of_ble_eq_true rfl⟩
abbrev mX9_routeStation : MD := (yX9_routeStation, cX9_routeStation, 4, (some .int), [])
theorem mok_X9_routeStation : MOK mX9_routeStation 2 := ⟨by decide +kernel, tw_1041, tw_1, ⟨by decide +kernel, by decide +kernel⟩, by decide +kernel, Nat.le_of_ble_eq_true rfl⟩
abbrev mX9_carriedCount : MD := (yX9_carriedCount, cX9_carriedCount, 2, (some .int), [])
theorem mok_X9_carriedCount : MOK mX9_carriedCount 1 := ⟨by decide +kernel, tw_1052, tw_1, ⟨by decide +kernel, by decide +kernel⟩, by decide +kernel, Nat.le_of_ble_eq_true rfl⟩
abbrev mX9_carriedParcel : MD := (yX9_carriedParcel, cX9_carriedParcel, 4, (some .int), [])
theorem mok_X9_carriedParcel : MOK mX9_carriedParcel 2 := ⟨by decide +kernel, tw_1059, tw_1, ⟨by decide +kernel, by decide +kernel⟩, by decide +kernel, Nat.le_of_ble_eq_true rfl⟩
abbrev mX9_trainStation : MD := (yX9_trainStation, cX9_trainStation, 2, (some .int), [])
theorem mok_X9_trainStation : MOK mX9_trainStation 1 := ⟨by decide +kernel, tw_1070, tw_1, ⟨by decide +kernel, by decide +kernel⟩, by decide +kernel, Nat.le_of_ble_eq_true rfl⟩
abbrev mX9_nextStation : MD := (yX9_nextStation, cX9_nextStation, 2, (some .int), [])
theorem mok_X9_nextStation : MOK mX9_nextStation 1 := ⟨by decide +kernel, tw_1083, tw_1, ⟨by decide +kernel, by decide +kernel⟩, by decide +kernel, Nat.le_of_ble_eq_true rfl⟩
abbrev mX9_isForward : MD := (yX9_isForward, cX9_isForward, 2, (some .boolean), [])
theorem mok_X9_isForward : MOK mX9_isForward 1 := ⟨by decide +kernel, tw_1090, tw_1, ⟨by decide +kernel, by decide +kernel⟩, by decide +kernel, Nat.le_of_ble_eq_true rfl⟩
abbrev mX9_minutesToNext : MD := (yX9_minutesToNext, cX9_minutesToNext, 3, (some .int), [])
theorem mok_X9_minutesToNext : MOK mX9_minutesToNext 1 := ⟨by decide +kernel, tw_1097, tw_1, ⟨by decide +kernel, by decide +kernel⟩, by decide +kernel, Nat.le_of_ble_eq_true rfl⟩
abbrev mX9_delay : MD := (yX9_delay, cX9_delay, 2, (some .int), [])
theorem mok_X9_delay : MOK mX9_delay 1 := ⟨by decide +kernel, tw_1104, tw_1, ⟨by decide +kernel, by decide +kernel⟩, by decide +kernel, Nat.le_of_ble_eq_true rfl⟩
abbrev mX9_stopsMade : MD := (yX9_stopsMade, cX9_stopsMade, 2, (some .int), [])
theorem mok_X9_stopsMade : MOK mX9_stopsMade 1 := ⟨by decide +kernel, tw_1111, tw_1, ⟨by decide +kernel, by decide +kernel⟩, by decide +kernel, Nat.le_of_ble_eq_true rfl⟩
abbrev mX9_stopsPassed : MD := (yX9_stopsPassed, cX9_stopsPassed, 2, (some .int), [])
theorem mok_X9_stopsPassed : MOK mX9_stopsPassed 1 := ⟨by decide +kernel, tw_1118, tw_1, ⟨by decide +kernel, by decide +kernel⟩, by decide +kernel, Nat.le_of_ble_eq_true rfl⟩
abbrev mX9_origin : MD := (yX9_origin, cX9_origin, 2, (some .int), [])
theorem mok_X9_origin : MOK mX9_origin 1 := ⟨by decide +kernel, tw_1125, tw_1, ⟨by decide +kernel, by decide +kernel⟩, by decide +kernel, Nat.le_of_ble_eq_true rfl⟩
abbrev mX9_destination : MD := (yX9_destination, cX9_destination, 2, (some .int), [])
theorem mok_X9_destination : MOK mX9_destination 1 := ⟨by decide +kernel, tw_1137, tw_1, ⟨by decide +kernel, by decide +kernel⟩, by decide +kernel, Nat.le_of_ble_eq_true rfl⟩
abbrev mX9_priority : MD := (yX9_priority, cX9_priority, 2, (some .int), [])
theorem mok_X9_priority : MOK mX9_priority 1 := ⟨by decide +kernel, tw_1144, tw_1, ⟨by decide +kernel, by decide +kernel⟩, by decide +kernel, Nat.le_of_ble_eq_true rfl⟩
abbrev mX9_parcelStation : MD := (yX9_parcelStation, cX9_parcelStation, 2, (some .int), [])
theorem mok_X9_parcelStation : MOK mX9_parcelStation 1 := ⟨by decide +kernel, tw_1151, tw_1, ⟨by decide +kernel, by decide +kernel⟩, by decide +kernel, Nat.le_of_ble_eq_true rfl⟩
abbrev mX9_parcelTrain : MD := (yX9_parcelTrain, cX9_parcelTrain, 2, (some .int), [])
theorem mok_X9_parcelTrain : MOK mX9_parcelTrain 1 := ⟨by decide +kernel, tw_1158, tw_1, ⟨by decide +kernel, by decide +kernel⟩, by decide +kernel, Nat.le_of_ble_eq_true rfl⟩
abbrev mX9_dropStation : MD := (yX9_dropStation, cX9_dropStation, 2, (some .int), [])
theorem mok_X9_dropStation : MOK mX9_dropStation 1 := ⟨by decide +kernel, tw_1165, tw_1, ⟨by decide +kernel, by decide +kernel⟩, by decide +kernel, Nat.le_of_ble_eq_true rfl⟩
abbrev mX9_transfers : MD := (yX9_transfers, cX9_transfers, 2, (some .int), [])
theorem mok_X9_transfers : MOK mX9_transfers 1 := ⟨by decide +kernel, tw_1172, tw_1, ⟨by decide +kernel, by decide +kernel⟩, by decide +kernel, Nat.le_of_ble_eq_true rfl⟩
abbrev mX9_isHeld : MD := (yX9_isHeld, cX9_isHeld, 2, (some .boolean), [])
theorem mok_X9_isHeld : MOK mX9_isHeld 1 := ⟨by decide +kernel, tw_1179, tw_1, ⟨by decide +kernel, by decide +kernel⟩, by decide +kernel, Nat.le_of_ble_eq_true rfl⟩
abbrev mX9_deliveryClock : MD := (yX9_deliveryClock, cX9_deliveryClock, 2, (some .int), [])
theorem mok_X9_deliveryClock : MOK mX9_deliveryClock 1 := ⟨by decide +kernel, tw_1190, tw_1, ⟨by decide +kernel, by decide +kernel⟩, by decide +kernel, Nat.le_of_ble_eq_true rfl⟩
abbrev mX9_loadingObstacle : MD := (yX9_loadingObstacle, cX9_loadingObstacle, 3, (some .int), [])
theorem mok_X9_loadingObstacle : MOK mX9_loadingObstacle 2 := ⟨by decide +kernel, tw_1197, tw_1, ⟨by decide +kernel, by decide +kernel⟩, by decide +kernel, Nat.le_of_ble_eq_true rfl⟩
abbrev mX9_deliveredCount : MD := (yX9_deliveredCount, cX9_deliveredCount, 1, (some .int), [])
theorem mok_X9_deliveredCount : MOK mX9_deliveredCount 0 := ⟨by decide +kernel, tw_714, tw_1, ⟨by decide +kernel, by decide +kernel⟩, by decide +kernel, Nat.le_of_ble_eq_true rfl⟩
abbrev mX9_parcelBalance : MD := (yX9_parcelBalance, cX9_parcelBalance, 3, (some .int), [])
theorem mok_X9_parcelBalance : MOK mX9_parcelBalance 0 := ⟨by decide +kernel, tw_726, tw_1, ⟨by decide +kernel, by decide +kernel⟩, by decide +kernel, Nat.le_of_ble_eq_true rfl⟩
abbrev mX9_loadingBalance : MD := (yX9_loadingBalance, cX9_loadingBalance, 1, (some .int), [])
theorem mok_X9_loadingBalance : MOK mX9_loadingBalance 0 := ⟨by decide +kernel, tw_738, tw_1, ⟨by decide +kernel, by decide +kernel⟩, by decide +kernel, Nat.le_of_ble_eq_true rfl⟩
abbrev mX9_meanDeliveryClock : MD := (yX9_meanDeliveryClock, cX9_meanDeliveryClock, 2, (some .double), [])
theorem mok_X9_meanDeliveryClock : MOK mX9_meanDeliveryClock 0 := ⟨by decide +kernel, tw_742, tw_1, ⟨by decide +kernel, by decide +kernel⟩, by decide +kernel, Nat.le_of_ble_eq_true rfl⟩
abbrev mX9_deliveredShare : MD := (yX9_deliveredShare, cX9_deliveredShare, 1, (some .float), [])
theorem mok_X9_deliveredShare : MOK mX9_deliveredShare 0 := ⟨by decide +kernel, tw_750, tw_1, ⟨by decide +kernel, by decide +kernel⟩, by decide +kernel, Nat.le_of_ble_eq_true rfl⟩
abbrev mX9_minutesToDelivery : MD := (yX9_minutesToDelivery, cX9_minutesToDelivery, 3, (some .int), [])
theorem mok_X9_minutesToDelivery : MOK mX9_minutesToDelivery 1 := ⟨by decide +kernel, tw_1210, tw_1, ⟨by decide +kernel, by decide +kernel⟩, by decide +kernel, Nat.le_of_ble_eq_true rfl⟩
abbrev mX9_minutesToFinish : MD := (yX9_minutesToFinish, cX9_minutesToFinish, 2, (some .int), [])
theorem mok_X9_minutesToFinish : MOK mX9_minutesToFinish 0 := ⟨by decide +kernel, tw_754, tw_1, ⟨by decide +kernel, by decide +kernel⟩, by decide +kernel, Nat.le_of_ble_eq_true rfl⟩
abbrev mX9_minutesToStop : MD := (yX9_minutesToStop, cX9_minutesToStop, 3, (some .int), [])
theorem mok_X9_minutesToStop : MOK mX9_minutesToStop 1 := ⟨by decide +kernel, tw_1217, tw_1, ⟨by decide +kernel, by decide +kernel⟩, by decide +kernel, Nat.le_of_ble_eq_true rfl⟩
abbrev mX9_trainStationAfter : MD := (yX9_trainStationAfter, cX9_trainStationAfter, 3, (some .int), [])
theorem mok_X9_trainStationAfter : MOK mX9_trainStationAfter 2 := ⟨by decide +kernel, tw_1224, tw_1, ⟨by decide +kernel, by decide +kernel⟩, by decide +kernel, Nat.le_of_ble_eq_true rfl⟩
abbrev mX9_deliveredAfter : MD := (yX9_deliveredAfter, cX9_deliveredAfter, 2, (some .int), [])
theorem mok_X9_deliveredAfter : MOK mX9_deliveredAfter 1 := ⟨by decide +kernel, tw_1240, tw_1, ⟨by decide +kernel, by decide +kernel⟩, by decide +kernel, Nat.le_of_ble_eq_true rfl⟩
abbrev mX9_deliveredIfClosed : MD := (yX9_deliveredIfClosed, cX9_deliveredIfClosed, 5, (some .int), [])
theorem mok_X9_deliveredIfClosed : MOK mX9_deliveredIfClosed 3 := ⟨by decide +kernel, tw_1247, tw_1, ⟨by decide +kernel, by decide +kernel⟩, by decide +kernel, Nat.le_of_ble_eq_true rfl⟩
abbrev mX9_worstClosure : MD := (yX9_worstClosure, cX9_worstClosure, 5, (some .int), [])
theorem mok_X9_worstClosure : MOK mX9_worstClosure 0 := ⟨by decide +kernel, tw_759, tw_1, ⟨by decide +kernel, by decide +kernel⟩, by decide +kernel, Nat.le_of_ble_eq_true rfl⟩
abbrev mX9_pass : MD := (yX9_pass, cX9_pass, 3, (some .int), [])
theorem mok_X9_pass : MOK mX9_pass 1 := ⟨by decide +kernel, tw_1259, tw_1, ⟨by decide +kernel, by decide +kernel⟩, by decide +kernel, Nat.le_of_ble_eq_true rfl⟩
abbrev mX9_addParcel : MD := (yX9_addParcel, cX9_addParcel, 4, (some .int), [])
theorem mok_X9_addParcel : MOK mX9_addParcel 3 := ⟨by decide +kernel, tw_1266, tw_1, ⟨by decide +kernel, by decide +kernel⟩, by decide +kernel, Nat.le_of_ble_eq_true rfl⟩
abbrev mX9_setTrackOpen : MD := (yX9_setTrackOpen, cX9_setTrackOpen, 6, (some .boolean), [])
theorem mok_X9_setTrackOpen : MOK mX9_setTrackOpen 3 := ⟨by decide +kernel, tw_1276, tw_1, ⟨by decide +kernel, by decide +kernel⟩, by decide +kernel, Nat.le_of_ble_eq_true rfl⟩
abbrev mX9_setPriority : MD := (yX9_setPriority, cX9_setPriority, 4, (some .int), [])
theorem mok_X9_setPriority : MOK mX9_setPriority 2 := ⟨by decide +kernel, tw_1283, tw_1, ⟨by decide +kernel, by decide +kernel⟩, by decide +kernel, Nat.le_of_ble_eq_true rfl⟩
abbrev mX9_setInspection : MD := (yX9_setInspection, cX9_setInspection, 4, (some .int), [])
theorem mok_X9_setInspection : MOK mX9_setInspection 2 := ⟨by decide +kernel, tw_1290, tw_1, ⟨by decide +kernel, by decide +kernel⟩, by decide +kernel, Nat.le_of_ble_eq_true rfl⟩
abbrev mX9_withdraw : MD := (yX9_withdraw, cX9_withdraw, 3, (some .int), [])
theorem mok_X9_withdraw : MOK mX9_withdraw 1 := ⟨by decide +kernel, tw_1297, tw_1, ⟨by decide +kernel, by decide +kernel⟩, by decide +kernel, Nat.le_of_ble_eq_true rfl⟩
abbrev mX9_writeTrains : MD := (yX9_writeTrains, cX9_writeTrains, 2, (some .int), [])
theorem mok_X9_writeTrains : MOK mX9_writeTrains 0 := ⟨by decide +kernel, tw_768, tw_1, ⟨by decide +kernel, by decide +kernel⟩, by decide +kernel, Nat.le_of_ble_eq_true rfl⟩
abbrev mX9_writeParcels : MD := (yX9_writeParcels, cX9_writeParcels, 2, (some .int), [])
theorem mok_X9_writeParcels : MOK mX9_writeParcels 0 := ⟨by decide +kernel, tw_792, tw_1, ⟨by decide +kernel, by decide +kernel⟩, by decide +kernel, Nat.le_of_ble_eq_true rfl⟩
abbrev mX9_outputByte : MD := (yX9_outputByte, cX9_outputByte, 2, (some .int), [])
theorem mok_X9_outputByte : MOK mX9_outputByte 1 := ⟨by decide +kernel, tw_1310, tw_1, ⟨by decide +kernel, by decide +kernel⟩, by decide +kernel, Nat.le_of_ble_eq_true rfl⟩
abbrev mX9_save : MD := (yX9_save, cX9_save, 2, (some .int), [])
theorem mok_X9_save : MOK mX9_save 1 := ⟨by decide +kernel, tw_1318, tw_1, ⟨by decide +kernel, by decide +kernel⟩, by decide +kernel, Nat.le_of_ble_eq_true rfl⟩
abbrev mX9_restore : MD := (yX9_restore, cX9_restore, 2, (some .int), [])
theorem mok_X9_restore : MOK mX9_restore 1 := ⟨by decide +kernel, tw_1329, tw_1, ⟨by decide +kernel, by decide +kernel⟩, by decide +kernel, Nat.le_of_ble_eq_true rfl⟩
abbrev mX9_undo : MD := (yX9_undo, cX9_undo, 1, (some .int), [])
theorem mok_X9_undo : MOK mX9_undo 0 := ⟨by decide +kernel, tw_1337, tw_1, ⟨by decide +kernel, by decide +kernel⟩, by decide +kernel, Nat.le_of_ble_eq_true rfl⟩
abbrev mX9_undoDepth : MD := (yX9_undoDepth, cX9_undoDepth, 1, (some .int), [])
theorem mok_X9_undoDepth : MOK mX9_undoDepth 0 := ⟨by decide +kernel, tw_801, tw_1, ⟨by decide +kernel, by decide +kernel⟩, by decide +kernel, Nat.le_of_ble_eq_true rfl⟩
abbrev mX9_checkStation : MD := (yX9_checkStation, cX9_checkStation, 2, none, [])
theorem mok_X9_checkStation : MOK mX9_checkStation 1 := ⟨by decide +kernel, tw_930, tw_1, ⟨by decide +kernel, by decide +kernel⟩, by decide +kernel, Nat.le_of_ble_eq_true rfl⟩
abbrev mX9_checkTrain : MD := (yX9_checkTrain, cX9_checkTrain, 2, none, [])
theorem mok_X9_checkTrain : MOK mX9_checkTrain 1 := ⟨by decide +kernel, tw_1026, tw_1, ⟨by decide +kernel, by decide +kernel⟩, by decide +kernel, Nat.le_of_ble_eq_true rfl⟩
abbrev mX9_checkParcel : MD := (yX9_checkParcel, cX9_checkParcel, 2, none, [])
theorem mok_X9_checkParcel : MOK mX9_checkParcel 1 := ⟨by decide +kernel, tw_1129, tw_1, ⟨by decide +kernel, by decide +kernel⟩, by decide +kernel, Nat.le_of_ble_eq_true rfl⟩
abbrev mX9_checkSlot : MD := (yX9_checkSlot, cX9_checkSlot, 1, none, [])
theorem mok_X9_checkSlot : MOK mX9_checkSlot 1 := ⟨by decide +kernel, tw_1321, tw_1, ⟨by decide +kernel, by decide +kernel⟩, by decide +kernel, Nat.le_of_ble_eq_true rfl⟩
abbrev mX9_checkRange : MD := (yX9_checkRange, cX9_checkRange, 3, none, [])
theorem mok_X9_checkRange : MOK mX9_checkRange 3 := ⟨by decide +kernel, tw_1227, tw_1, ⟨by decide +kernel, by decide +kernel⟩, by decide +kernel, Nat.le_of_ble_eq_true rfl⟩
abbrev mX9_requireTrack : MD := (yX9_requireTrack, cX9_requireTrack, 4, (some .int), [])
theorem mok_X9_requireTrack : MOK mX9_requireTrack 2 := ⟨by decide +kernel, tw_1251, tw_1, ⟨by decide +kernel, by decide +kernel⟩, by decide +kernel, Nat.le_of_ble_eq_true rfl⟩
abbrev mX9_countDeliveredWithout : MD := (yX9_countDeliveredWithout, cX9_countDeliveredWithout, 4, (some .int), [])
theorem mok_X9_countDeliveredWithout : MOK mX9_countDeliveredWithout 2 := ⟨by decide +kernel, tw_763, tw_1, ⟨by decide +kernel, by decide +kernel⟩, by decide +kernel, Nat.le_of_ble_eq_true rfl⟩
abbrev mX9_putTrain : MD := (yX9_putTrain, cX9_putTrain, 2, none, [])
theorem mok_X9_putTrain : MOK mX9_putTrain 1 := ⟨by decide +kernel, tw_776, tw_1, ⟨by decide +kernel, by decide +kernel⟩, by decide +kernel, Nat.le_of_ble_eq_true rfl⟩
abbrev mX9_putParcel : MD := (yX9_putParcel, cX9_putParcel, 2, none, [])
theorem mok_X9_putParcel : MOK mX9_putParcel 1 := ⟨by decide +kernel, tw_796, tw_1, ⟨by decide +kernel, by decide +kernel⟩, by decide +kernel, Nat.le_of_ble_eq_true rfl⟩
abbrev mX10_init : MD := (yX10_init, cX10_init, 1, none, [])
theorem mok_X10_init : MOK mX10_init 0 := ⟨by decide +kernel, tw_1347, tw_16, ⟨by decide +kernel, by decide +kernel⟩, by decide +kernel, Nat.le_of_ble_eq_true rfl⟩
abbrev mX10_layInput : MD := (yX10_layInput, cX10_layInput, 3, none, [])
theorem mok_X10_layInput : MOK mX10_layInput 1 := ⟨by decide +kernel, tw_1353, tw_16, ⟨by decide +kernel, by decide +kernel⟩, by decide +kernel, Nat.le_of_ble_eq_true rfl⟩
abbrev mX10_thrown : MD := (yX10_thrown, cX10_thrown, 1, (some .int), [])
theorem mok_X10_thrown : MOK mX10_thrown 0 := ⟨by decide +kernel, tw_1616, tw_16, ⟨by decide +kernel, by decide +kernel⟩, by decide +kernel, Nat.le_of_ble_eq_true rfl⟩
abbrev mX10_refuses : MD := (yX10_refuses, cX10_refuses, 3, (some .boolean), [])
theorem mok_X10_refuses : MOK mX10_refuses 2 := ⟨by decide +kernel, tw_1624, tw_16, ⟨by decide +kernel, by decide +kernel⟩, by decide +kernel, Nat.le_of_ble_eq_true rfl⟩
abbrev mX10_isBetween : MD := (yX10_isBetween, cX10_isBetween, 3, (some .boolean), [])
theorem mok_X10_isBetween : MOK mX10_isBetween 3 := ⟨by decide +kernel, tw_1370, tw_16, ⟨by decide +kernel, by decide +kernel⟩, by decide +kernel, Nat.le_of_ble_eq_true rfl⟩
abbrev mX10_copyRow : MD := (yX10_copyRow, cX10_copyRow, 5, none, [])
theorem mok_X10_copyRow : MOK mX10_copyRow 4 := ⟨by decide +kernel, tw_1548, tw_16, ⟨by decide +kernel, by decide +kernel⟩, by decide +kernel, Nat.le_of_ble_eq_true rfl⟩
abbrev mX10_ofStation : MD := (yX10_ofStation, cX10_ofStation, 1, (some .int), [])
theorem mok_X10_ofStation : MOK mX10_ofStation 1 := ⟨by decide +kernel, tw_1404, tw_16, ⟨by decide +kernel, by decide +kernel⟩, by decide +kernel, Nat.le_of_ble_eq_true rfl⟩
abbrev mX10_ofTrack : MD := (yX10_ofTrack, cX10_ofTrack, 1, (some .int), [])
theorem mok_X10_ofTrack : MOK mX10_ofTrack 1 := ⟨by decide +kernel, tw_1427, tw_16, ⟨by decide +kernel, by decide +kernel⟩, by decide +kernel, Nat.le_of_ble_eq_true rfl⟩
abbrev mX10_ofTrain : MD := (yX10_ofTrain, cX10_ofTrain, 1, (some .int), [])
theorem mok_X10_ofTrain : MOK mX10_ofTrain 1 := ⟨by decide +kernel, tw_1439, tw_16, ⟨by decide +kernel, by decide +kernel⟩, by decide +kernel, Nat.le_of_ble_eq_true rfl⟩
abbrev mX10_ofParcel : MD := (yX10_ofParcel, cX10_ofParcel, 1, (some .int), [])
theorem mok_X10_ofParcel : MOK mX10_ofParcel 1 := ⟨by decide +kernel, tw_1450, tw_16, ⟨by decide +kernel, by decide +kernel⟩, by decide +kernel, Nat.le_of_ble_eq_true rfl⟩
abbrev mX10_between : MD := (yX10_between, cX10_between, 6, (some .int), [])
theorem mok_X10_between : MOK mX10_between 3 := ⟨by decide +kernel, tw_1424, tw_16, ⟨by decide +kernel, by decide +kernel⟩, by decide +kernel, Nat.le_of_ble_eq_true rfl⟩
abbrev mX10_isOpen : MD := (yX10_isOpen, cX10_isOpen, 2, (some .boolean), [])
theorem mok_X10_isOpen : MOK mX10_isOpen 2 := ⟨by decide +kernel, tw_1531, tw_16, ⟨by decide +kernel, by decide +kernel⟩, by decide +kernel, Nat.le_of_ble_eq_true rfl⟩
abbrev mX10_shorten : MD := (yX10_shorten, cX10_shorten, 5, (some .boolean), [])
theorem mok_X10_shorten : MOK mX10_shorten 3 := ⟨by decide +kernel, tw_1522, tw_16, ⟨by decide +kernel, by decide +kernel⟩, by decide +kernel, Nat.le_of_ble_eq_true rfl⟩
abbrev mX10_measure : MD := (yX10_measure, cX10_measure, 8, none, [])
theorem mok_X10_measure : MOK mX10_measure 2 := ⟨by decide +kernel, tw_1517, tw_16, ⟨by decide +kernel, by decide +kernel⟩, by decide +kernel, Nat.le_of_ble_eq_true rfl⟩
abbrev mX10_routeAt : MD := (yX10_routeAt, cX10_routeAt, 3, (some .int), [])
theorem mok_X10_routeAt : MOK mX10_routeAt 3 := ⟨by decide +kernel, tw_1490, tw_16, ⟨by decide +kernel, by decide +kernel⟩, by decide +kernel, Nat.le_of_ble_eq_true rfl⟩
abbrev mX10_stationOf : MD := (yX10_stationOf, cX10_stationOf, 2, (some .int), [])
theorem mok_X10_stationOf : MOK mX10_stationOf 2 := ⟨by decide +kernel, tw_1487, tw_16, ⟨by decide +kernel, by decide +kernel⟩, by decide +kernel, Nat.le_of_ble_eq_true rfl⟩
abbrev mX10_stands : MD := (yX10_stands, cX10_stands, 2, (some .boolean), [])
theorem mok_X10_stands : MOK mX10_stands 2 := ⟨by decide +kernel, tw_1480, tw_16, ⟨by decide +kernel, by decide +kernel⟩, by decide +kernel, Nat.le_of_ble_eq_true rfl⟩
abbrev mX10_nextOf : MD := (yX10_nextOf, cX10_nextOf, 3, (some .int), [])
theorem mok_X10_nextOf : MOK mX10_nextOf 2 := ⟨by decide +kernel, tw_1528, tw_16, ⟨by decide +kernel, by decide +kernel⟩, by decide +kernel, Nat.le_of_ble_eq_true rfl⟩
abbrev mX10_carried : MD := (yX10_carried, cX10_carried, 4, (some .int), [])
theorem mok_X10_carried : MOK mX10_carried 2 := ⟨by decide +kernel, tw_1493, tw_16, ⟨by decide +kernel, by decide +kernel⟩, by decide +kernel, Nat.le_of_ble_eq_true rfl⟩
abbrev mX10_dropOf : MD := (yX10_dropOf, cX10_dropOf, 9, (some .int), [])
theorem mok_X10_dropOf : MOK mX10_dropOf 3 := ⟨by decide +kernel, tw_1513, tw_16, ⟨by decide +kernel, by decide +kernel⟩, by decide +kernel, Nat.le_of_ble_eq_true rfl⟩
abbrev mX10_isHeldNow : MD := (yX10_isHeldNow, cX10_isHeldNow, 2, (some .boolean), [])
theorem mok_X10_isHeldNow : MOK mX10_isHeldNow 2 := ⟨by decide +kernel, tw_1509, tw_16, ⟨by decide +kernel, by decide +kernel⟩, by decide +kernel, Nat.le_of_ble_eq_true rfl⟩
abbrev mX10_waitsAt : MD := (yX10_waitsAt, cX10_waitsAt, 3, (some .boolean), [])
theorem mok_X10_waitsAt : MOK mX10_waitsAt 3 := ⟨by decide +kernel, tw_1499, tw_16, ⟨by decide +kernel, by decide +kernel⟩, by decide +kernel, Nat.le_of_ble_eq_true rfl⟩
abbrev mX10_isAhead : MD := (yX10_isAhead, cX10_isAhead, 4, (some .boolean), [])
theorem mok_X10_isAhead : MOK mX10_isAhead 3 := ⟨by decide +kernel, tw_1502, tw_16, ⟨by decide +kernel, by decide +kernel⟩, by decide +kernel, Nat.le_of_ble_eq_true rfl⟩
abbrev mX10_considered : MD := (yX10_considered, cX10_considered, 6, (some .int), [])
theorem mok_X10_considered : MOK mX10_considered 3 := ⟨by decide +kernel, tw_1496, tw_16, ⟨by decide +kernel, by decide +kernel⟩, by decide +kernel, Nat.le_of_ble_eq_true rfl⟩
abbrev mX10_waitingAt : MD := (yX10_waitingAt, cX10_waitingAt, 4, (some .int), [])
theorem mok_X10_waitingAt : MOK mX10_waitingAt 2 := ⟨by decide +kernel, tw_1699, tw_16, ⟨by decide +kernel, by decide +kernel⟩, by decide +kernel, Nat.le_of_ble_eq_true rfl⟩
abbrev mX10_canLoad : MD := (yX10_canLoad, cX10_canLoad, 4, (some .boolean), [])
theorem mok_X10_canLoad : MOK mX10_canLoad 3 := ⟨by decide +kernel, tw_1506, tw_16, ⟨by decide +kernel, by decide +kernel⟩, by decide +kernel, Nat.le_of_ble_eq_true rfl⟩
abbrev mX10_wouldLoad : MD := (yX10_wouldLoad, cX10_wouldLoad, 6, (some .boolean), [])
theorem mok_X10_wouldLoad : MOK mX10_wouldLoad 2 := ⟨by decide +kernel, tw_1542, tw_16, ⟨by decide +kernel, by decide +kernel⟩, by decide +kernel, Nat.le_of_ble_eq_true rfl⟩
abbrev mX10_loadAll : MD := (yX10_loadAll, cX10_loadAll, 8, none, [])
theorem mok_X10_loadAll : MOK mX10_loadAll 2 := ⟨by decide +kernel, tw_1484, tw_16, ⟨by decide +kernel, by decide +kernel⟩, by decide +kernel, Nat.le_of_ble_eq_true rfl⟩
abbrev mX10_depart : MD := (yX10_depart, cX10_depart, 4, none, [])
theorem mok_X10_depart : MOK mX10_depart 2 := ⟨by decide +kernel, tw_1525, tw_16, ⟨by decide +kernel, by decide +kernel⟩, by decide +kernel, Nat.le_of_ble_eq_true rfl⟩
abbrev mX10_unload : MD := (yX10_unload, cX10_unload, 5, none, [])
theorem mok_X10_unload : MOK mX10_unload 2 := ⟨by decide +kernel, tw_1545, tw_16, ⟨by decide +kernel, by decide +kernel⟩, by decide +kernel, Nat.le_of_ble_eq_true rfl⟩
abbrev mX10_hasDropHere : MD := (yX10_hasDropHere, cX10_hasDropHere, 4, (some .boolean), [])
theorem mok_X10_hasDropHere : MOK mX10_hasDropHere 2 := ⟨by decide +kernel, tw_1538, tw_16, ⟨by decide +kernel, by decide +kernel⟩, by decide +kernel, Nat.le_of_ble_eq_true rfl⟩
abbrev mX10_arrive : MD := (yX10_arrive, cX10_arrive, 6, none, [])
theorem mok_X10_arrive : MOK mX10_arrive 2 := ⟨by decide +kernel, tw_1535, tw_16, ⟨by decide +kernel, by decide +kernel⟩, by decide +kernel, Nat.le_of_ble_eq_true rfl⟩
abbrev mX10_act : MD := (yX10_act, cX10_act, 5, none, [])
theorem mok_X10_act : MOK mX10_act 2 := ⟨by decide +kernel, tw_1477, tw_16, ⟨by decide +kernel, by decide +kernel⟩, by decide +kernel, Nat.le_of_ble_eq_true rfl⟩
abbrev mX10_minute : MD := (yX10_minute, cX10_minute, 3, none, [])
theorem mok_X10_minute : MOK mX10_minute 1 := ⟨by decide +kernel, tw_1473, tw_16, ⟨by decide +kernel, by decide +kernel⟩, by decide +kernel, Nat.le_of_ble_eq_true rfl⟩
abbrev mX10_minutes : MD := (yX10_minutes, cX10_minutes, 4, none, [])
theorem mok_X10_minutes : MOK mX10_minutes 2 := ⟨by decide +kernel, tw_1469, tw_16, ⟨by decide +kernel, by decide +kernel⟩, by decide +kernel, Nat.le_of_ble_eq_true rfl⟩
abbrev mX10_deliveredIn : MD := (yX10_deliveredIn, cX10_deliveredIn, 3, (some .int), [])
theorem mok_X10_deliveredIn : MOK mX10_deliveredIn 1 := ⟨by decide +kernel, tw_1830, tw_16, ⟨by decide +kernel, by decide +kernel⟩, by decide +kernel, Nat.le_of_ble_eq_true rfl⟩
abbrev mX10_layParcel : MD := (yX10_layParcel, cX10_layParcel, 5, (some .int), [])
theorem mok_X10_layParcel : MOK mX10_layParcel 4 := ⟨by decide +kernel, tw_1447, tw_16, ⟨by decide +kernel, by decide +kernel⟩, by decide +kernel, Nat.le_of_ble_eq_true rfl⟩
abbrev mX10_appendWord : MD := (yX10_appendWord, cX10_appendWord, 3, none, [])
theorem mok_X10_appendWord : MOK mX10_appendWord 1 := ⟨by decide +kernel, tw_1628, tw_16, ⟨by decide +kernel, by decide +kernel⟩, by decide +kernel, Nat.le_of_ble_eq_true rfl⟩
abbrev mX10_appendInput : MD := (yX10_appendInput, cX10_appendInput, 6, (some .int), [])
theorem mok_X10_appendInput : MOK mX10_appendInput 5 := ⟨by decide +kernel, tw_1620, tw_16, ⟨by decide +kernel, by decide +kernel⟩, by decide +kernel, Nat.le_of_ble_eq_true rfl⟩
abbrev mX10_truncateInput : MD := (yX10_truncateInput, cX10_truncateInput, 2, (some .int), [])
theorem mok_X10_truncateInput : MOK mX10_truncateInput 1 := ⟨by decide +kernel, tw_1632, tw_16, ⟨by decide +kernel, by decide +kernel⟩, by decide +kernel, Nat.le_of_ble_eq_true rfl⟩
abbrev mX10_errorCode : MD := (yX10_errorCode, cX10_errorCode, 1, (some .int), [])
theorem mok_X10_errorCode : MOK mX10_errorCode 0 := ⟨by decide +kernel, tw_1640, tw_16, ⟨by decide +kernel, by decide +kernel⟩, by decide +kernel, Nat.le_of_ble_eq_true rfl⟩
abbrev mX10_errorPosition : MD := (yX10_errorPosition, cX10_errorPosition, 1, (some .int), [])
theorem mok_X10_errorPosition : MOK mX10_errorPosition 0 := ⟨by decide +kernel, tw_1644, tw_16, ⟨by decide +kernel, by decide +kernel⟩, by decide +kernel, Nat.le_of_ble_eq_true rfl⟩
abbrev mX10_byteAt : MD := (yX10_byteAt, cX10_byteAt, 2, (some .int), [])
theorem mok_X10_byteAt : MOK mX10_byteAt 1 := ⟨by decide +kernel, tw_1367, tw_16, ⟨by decide +kernel, by decide +kernel⟩, by decide +kernel, Nat.le_of_ble_eq_true rfl⟩
abbrev mX10_advance : MD := (yX10_advance, cX10_advance, 2, none, [])
theorem mok_X10_advance : MOK mX10_advance 0 := ⟨by decide +kernel, tw_1363, tw_16, ⟨by decide +kernel, by decide +kernel⟩, by decide +kernel, Nat.le_of_ble_eq_true rfl⟩
abbrev mX10_is : MD := (yX10_is, cX10_is, 3, (some .boolean), [])
theorem mok_X10_is : MOK mX10_is 1 := ⟨by decide +kernel, tw_1380, tw_16, ⟨by decide +kernel, by decide +kernel⟩, by decide +kernel, Nat.le_of_ble_eq_true rfl⟩
abbrev mX10_check : MD := (yX10_check, cX10_check, 3, (some .boolean), [])
theorem mok_X10_check : MOK mX10_check 2 := ⟨by decide +kernel, tw_1389, tw_16, ⟨by decide +kernel, by decide +kernel⟩, by decide +kernel, Nat.le_of_ble_eq_true rfl⟩
abbrev mX10_next : MD := (yX10_next, cX10_next, 1, none, [])
theorem mok_X10_next : MOK mX10_next 0 := ⟨by decide +kernel, tw_1393, tw_16, ⟨by decide +kernel, by decide +kernel⟩, by decide +kernel, Nat.le_of_ble_eq_true rfl⟩
abbrev mX10_number : MD := (yX10_number, cX10_number, 4, (some .int), [])
theorem mok_X10_number : MOK mX10_number 2 := ⟨by decide +kernel, tw_1431, tw_16, ⟨by decide +kernel, by decide +kernel⟩, by decide +kernel, Nat.le_of_ble_eq_true rfl⟩
abbrev mX10_finish : MD := (yX10_finish, cX10_finish, 1, none, [])
theorem mok_X10_finish : MOK mX10_finish 0 := ⟨by decide +kernel, tw_1408, tw_16, ⟨by decide +kernel, by decide +kernel⟩, by decide +kernel, Nat.le_of_ble_eq_true rfl⟩
abbrev mX10_nameHere : MD := (yX10_nameHere, cX10_nameHere, 3, (some .int), [])
theorem mok_X10_nameHere : MOK mX10_nameHere 0 := ⟨by decide +kernel, tw_1401, tw_16, ⟨by decide +kernel, by decide +kernel⟩, by decide +kernel, Nat.le_of_ble_eq_true rfl⟩
abbrev mX10_named : MD := (yX10_named, cX10_named, 3, (some .int), [])
theorem mok_X10_named : MOK mX10_named 0 := ⟨by decide +kernel, tw_1397, tw_16, ⟨by decide +kernel, by decide +kernel⟩, by decide +kernel, Nat.le_of_ble_eq_true rfl⟩
abbrev mX10_look : MD := (yX10_look, cX10_look, 2, (some .int), [])
theorem mok_X10_look : MOK mX10_look 0 := ⟨by decide +kernel, tw_1421, tw_16, ⟨by decide +kernel, by decide +kernel⟩, by decide +kernel, Nat.le_of_ble_eq_true rfl⟩
abbrev mX10_station : MD := (yX10_station, cX10_station, 2, (some .int), [])
theorem mok_X10_station : MOK mX10_station 0 := ⟨by decide +kernel, tw_1417, tw_16, ⟨by decide +kernel, by decide +kernel⟩, by decide +kernel, Nat.le_of_ble_eq_true rfl⟩
abbrev mX10_readStation : MD := (yX10_readStation, cX10_readStation, 4, none, [])
theorem mok_X10_readStation : MOK mX10_readStation 1 := ⟨by decide +kernel, tw_1385, tw_16, ⟨by decide +kernel, by decide +kernel⟩, by decide +kernel, Nat.le_of_ble_eq_true rfl⟩
abbrev mX10_readTrack : MD := (yX10_readTrack, cX10_readTrack, 5, none, [])
theorem mok_X10_readTrack : MOK mX10_readTrack 0 := ⟨by decide +kernel, tw_1413, tw_16, ⟨by decide +kernel, by decide +kernel⟩, by decide +kernel, Nat.le_of_ble_eq_true rfl⟩
abbrev mX10_readTrain : MD := (yX10_readTrain, cX10_readTrain, 5, none, [])
theorem mok_X10_readTrain : MOK mX10_readTrain 0 := ⟨by decide +kernel, tw_1436, tw_16, ⟨by decide +kernel, by decide +kernel⟩, by decide +kernel, Nat.le_of_ble_eq_true rfl⟩
abbrev mX10_readParcel : MD := (yX10_readParcel, cX10_readParcel, 4, none, [])
theorem mok_X10_readParcel : MOK mX10_readParcel 0 := ⟨by decide +kernel, tw_1444, tw_16, ⟨by decide +kernel, by decide +kernel⟩, by decide +kernel, Nat.le_of_ble_eq_true rfl⟩
abbrev mX10_readInspect : MD := (yX10_readInspect, cX10_readInspect, 3, none, [])
theorem mok_X10_readInspect : MOK mX10_readInspect 0 := ⟨by decide +kernel, tw_1455, tw_16, ⟨by decide +kernel, by decide +kernel⟩, by decide +kernel, Nat.le_of_ble_eq_true rfl⟩
abbrev mX10_readClose : MD := (yX10_readClose, cX10_readClose, 4, none, [])
theorem mok_X10_readClose : MOK mX10_readClose 0 := ⟨by decide +kernel, tw_1460, tw_16, ⟨by decide +kernel, by decide +kernel⟩, by decide +kernel, Nat.le_of_ble_eq_true rfl⟩
abbrev mX10_readRun : MD := (yX10_readRun, cX10_readRun, 2, none, [])
theorem mok_X10_readRun : MOK mX10_readRun 0 := ⟨by decide +kernel, tw_1465, tw_16, ⟨by decide +kernel, by decide +kernel⟩, by decide +kernel, Nat.le_of_ble_eq_true rfl⟩
abbrev mX10_readStatement : MD := (yX10_readStatement, cX10_readStatement, 1, none, [])
theorem mok_X10_readStatement : MOK mX10_readStatement 0 := ⟨by decide +kernel, tw_1375, tw_16, ⟨by decide +kernel, by decide +kernel⟩, by decide +kernel, Nat.le_of_ble_eq_true rfl⟩
abbrev mX10_read : MD := (yX10_read, cX10_read, 2, none, [])
theorem mok_X10_read : MOK mX10_read 0 := ⟨by decide +kernel, tw_1359, tw_16, ⟨by decide +kernel, by decide +kernel⟩, by decide +kernel, Nat.le_of_ble_eq_true rfl⟩
abbrev mX10_load : MD := (yX10_load, cX10_load, 1, (some .int), [])
theorem mok_X10_load : MOK mX10_load 0 := ⟨by decide +kernel, tw_1648, tw_16, ⟨by decide +kernel, by decide +kernel⟩, by decide +kernel, Nat.le_of_ble_eq_true rfl⟩
abbrev mX10_remember : MD := (yX10_remember, cX10_remember, 1, none, [])
theorem mok_X10_remember : MOK mX10_remember 0 := ⟨by decide +kernel, tw_1652, tw_16, ⟨by decide +kernel, by decide +kernel⟩, by decide +kernel, Nat.le_of_ble_eq_true rfl⟩
abbrev mX10_undo : MD := (yX10_undo, cX10_undo, 1, (some .int), [])
theorem mok_X10_undo : MOK mX10_undo 0 := ⟨by decide +kernel, tw_1656, tw_16, ⟨by decide +kernel, by decide +kernel⟩, by decide +kernel, Nat.le_of_ble_eq_true rfl⟩
abbrev mX10_undoDepth : MD := (yX10_undoDepth, cX10_undoDepth, 1, (some .int), [])
theorem mok_X10_undoDepth : MOK mX10_undoDepth 0 := ⟨by decide +kernel, tw_1660, tw_16, ⟨by decide +kernel, by decide +kernel⟩, by decide +kernel, Nat.le_of_ble_eq_true rfl⟩
abbrev mX10_noNumber : MD := (yX10_noNumber, cX10_noNumber, 4, (some .boolean), [])
theorem mok_X10_noNumber : MOK mX10_noNumber 3 := ⟨by decide +kernel, tw_1636, tw_16, ⟨by decide +kernel, by decide +kernel⟩, by decide +kernel, Nat.le_of_ble_eq_true rfl⟩
abbrev mX10_noStation : MD := (yX10_noStation, cX10_noStation, 2, (some .boolean), [])
theorem mok_X10_noStation : MOK mX10_noStation 1 := ⟨by decide +kernel, tw_1688, tw_16, ⟨by decide +kernel, by decide +kernel⟩, by decide +kernel, Nat.le_of_ble_eq_true rfl⟩
abbrev mX10_noStations : MD := (yX10_noStations, cX10_noStations, 3, (some .boolean), [])
theorem mok_X10_noStations : MOK mX10_noStations 2 := ⟨by decide +kernel, tw_1715, tw_16, ⟨by decide +kernel, by decide +kernel⟩, by decide +kernel, Nat.le_of_ble_eq_true rfl⟩
abbrev mX10_noTrain : MD := (yX10_noTrain, cX10_noTrain, 2, (some .boolean), [])
theorem mok_X10_noTrain : MOK mX10_noTrain 1 := ⟨by decide +kernel, tw_1731, tw_16, ⟨by decide +kernel, by decide +kernel⟩, by decide +kernel, Nat.le_of_ble_eq_true rfl⟩
abbrev mX10_noParcel : MD := (yX10_noParcel, cX10_noParcel, 2, (some .boolean), [])
theorem mok_X10_noParcel : MOK mX10_noParcel 1 := ⟨by decide +kernel, tw_1787, tw_16, ⟨by decide +kernel, by decide +kernel⟩, by decide +kernel, Nat.le_of_ble_eq_true rfl⟩
abbrev mX10_out : MD := (yX10_out, cX10_out, 4, (some .boolean), [])
theorem mok_X10_out : MOK mX10_out 3 := ⟨by decide +kernel, tw_1707, tw_16, ⟨by decide +kernel, by decide +kernel⟩, by decide +kernel, Nat.le_of_ble_eq_true rfl⟩
abbrev mX10_clock : MD := (yX10_clock, cX10_clock, 1, (some .int), [])
theorem mok_X10_clock : MOK mX10_clock 0 := ⟨by decide +kernel, tw_1664, tw_16, ⟨by decide +kernel, by decide +kernel⟩, by decide +kernel, Nat.le_of_ble_eq_true rfl⟩
abbrev mX10_stationCount : MD := (yX10_stationCount, cX10_stationCount, 1, (some .int), [])
theorem mok_X10_stationCount : MOK mX10_stationCount 0 := ⟨by decide +kernel, tw_1668, tw_16, ⟨by decide +kernel, by decide +kernel⟩, by decide +kernel, Nat.le_of_ble_eq_true rfl⟩
abbrev mX10_trackCount : MD := (yX10_trackCount, cX10_trackCount, 1, (some .int), [])
theorem mok_X10_trackCount : MOK mX10_trackCount 0 := ⟨by decide +kernel, tw_1672, tw_16, ⟨by decide +kernel, by decide +kernel⟩, by decide +kernel, Nat.le_of_ble_eq_true rfl⟩
abbrev mX10_trainCount : MD := (yX10_trainCount, cX10_trainCount, 1, (some .int), [])
theorem mok_X10_trainCount : MOK mX10_trainCount 0 := ⟨by decide +kernel, tw_1676, tw_16, ⟨by decide +kernel, by decide +kernel⟩, by decide +kernel, Nat.le_of_ble_eq_true rfl⟩
abbrev mX10_parcelCount : MD := (yX10_parcelCount, cX10_parcelCount, 1, (some .int), [])
theorem mok_X10_parcelCount : MOK mX10_parcelCount 0 := ⟨by decide +kernel, tw_1680, tw_16, ⟨by decide +kernel, by decide +kernel⟩, by decide +kernel, Nat.le_of_ble_eq_true rfl⟩
abbrev mX10_isRequestStop : MD := (yX10_isRequestStop, cX10_isRequestStop, 2, (some .boolean), [])
theorem mok_X10_isRequestStop : MOK mX10_isRequestStop 1 := ⟨by decide +kernel, tw_1684, tw_16, ⟨by decide +kernel, by decide +kernel⟩, by decide +kernel, Nat.le_of_ble_eq_true rfl⟩
abbrev mX10_inspectionTime : MD := (yX10_inspectionTime, cX10_inspectionTime, 2, (some .int), [])
theorem mok_X10_inspectionTime : MOK mX10_inspectionTime 1 := ⟨by decide +kernel, tw_1692, tw_16, ⟨by decide +kernel, by decide +kernel⟩, by decide +kernel, Nat.le_of_ble_eq_true rfl⟩
abbrev mX10_waitingCount : MD := (yX10_waitingCount, cX10_waitingCount, 2, (some .int), [])
theorem mok_X10_waitingCount : MOK mX10_waitingCount 1 := ⟨by decide +kernel, tw_1696, tw_16, ⟨by decide +kernel, by decide +kernel⟩, by decide +kernel, Nat.le_of_ble_eq_true rfl⟩
abbrev mX10_waitingParcel : MD := (yX10_waitingParcel, cX10_waitingParcel, 3, (some .int), [])
theorem mok_X10_waitingParcel : MOK mX10_waitingParcel 2 := ⟨by decide +kernel, tw_1703, tw_16, ⟨by decide +kernel, by decide +kernel⟩, by decide +kernel, Nat.le_of_ble_eq_true rfl⟩
abbrev mX10_travelTime : MD := (yX10_travelTime, cX10_travelTime, 4, (some .int), [])
theorem mok_X10_travelTime : MOK mX10_travelTime 2 := ⟨by decide +kernel, tw_1711, tw_16, ⟨by decide +kernel, by decide +kernel⟩, by decide +kernel, Nat.le_of_ble_eq_true rfl⟩
abbrev mX10_isTrackOpen : MD := (yX10_isTrackOpen, cX10_isTrackOpen, 3, (some .boolean), [])
theorem mok_X10_isTrackOpen : MOK mX10_isTrackOpen 2 := ⟨by decide +kernel, tw_1719, tw_16, ⟨by decide +kernel, by decide +kernel⟩, by decide +kernel, Nat.le_of_ble_eq_true rfl⟩
abbrev mX10_distance : MD := (yX10_distance, cX10_distance, 3, (some .int), [])
theorem mok_X10_distance : MOK mX10_distance 2 := ⟨by decide +kernel, tw_1723, tw_16, ⟨by decide +kernel, by decide +kernel⟩, by decide +kernel, Nat.le_of_ble_eq_true rfl⟩
abbrev mX10_capacity : MD := (yX10_capacity, cX10_capacity, 2, (some .int), [])
theorem mok_X10_capacity : MOK mX10_capacity 1 := ⟨by decide +kernel, tw_1727, tw_16, ⟨by decide +kernel, by decide +kernel⟩, by decide +kernel, Nat.le_of_ble_eq_true rfl⟩
abbrev mX10_routeLength : MD := (yX10_routeLength, cX10_routeLength, 2, (some .int), [])
theorem mok_X10_routeLength : MOK mX10_routeLength 1 := ⟨by decide +kernel, tw_1735, tw_16, ⟨by decide +kernel, by decide +kernel⟩, by decide +kernel, Nat.le_of_ble_eq_true rfl⟩
abbrev mX10_routeStation : MD := (yX10_routeStation, cX10_routeStation, 3, (some .int), [])
theorem mok_X10_routeStation : MOK mX10_routeStation 2 := ⟨by decide +kernel, tw_1739, tw_16, ⟨by decide +kernel, by decide +kernel⟩, by decide +kernel, Nat.le_of_ble_eq_true rfl⟩
abbrev mX10_carriedCount : MD := (yX10_carriedCount, cX10_carriedCount, 2, (some .int), [])
theorem mok_X10_carriedCount : MOK mX10_carriedCount 1 := ⟨by decide +kernel, tw_1743, tw_16, ⟨by decide +kernel, by decide +kernel⟩, by decide +kernel, Nat.le_of_ble_eq_true rfl⟩
abbrev mX10_carriedParcel : MD := (yX10_carriedParcel, cX10_carriedParcel, 5, (some .int), [])
theorem mok_X10_carriedParcel : MOK mX10_carriedParcel 2 := ⟨by decide +kernel, tw_1747, tw_16, ⟨by decide +kernel, by decide +kernel⟩, by decide +kernel, Nat.le_of_ble_eq_true rfl⟩
abbrev mX10_trainStation : MD := (yX10_trainStation, cX10_trainStation, 2, (some .int), [])
theorem mok_X10_trainStation : MOK mX10_trainStation 1 := ⟨by decide +kernel, tw_1751, tw_16, ⟨by decide +kernel, by decide +kernel⟩, by decide +kernel, Nat.le_of_ble_eq_true rfl⟩
abbrev mX10_nextStation : MD := (yX10_nextStation, cX10_nextStation, 2, (some .int), [])
theorem mok_X10_nextStation : MOK mX10_nextStation 1 := ⟨by decide +kernel, tw_1755, tw_16, ⟨by decide +kernel, by decide +kernel⟩, by decide +kernel, Nat.le_of_ble_eq_true rfl⟩
abbrev mX10_isForward : MD := (yX10_isForward, cX10_isForward, 2, (some .boolean), [])
theorem mok_X10_isForward : MOK mX10_isForward 1 := ⟨by decide +kernel, tw_1759, tw_16, ⟨by decide +kernel, by decide +kernel⟩, by decide +kernel, Nat.le_of_ble_eq_true rfl⟩
abbrev mX10_minutesToNext : MD := (yX10_minutesToNext, cX10_minutesToNext, 3, (some .int), [])
theorem mok_X10_minutesToNext : MOK mX10_minutesToNext 1 := ⟨by decide +kernel, tw_1763, tw_16, ⟨by decide +kernel, by decide +kernel⟩, by decide +kernel, Nat.le_of_ble_eq_true rfl⟩
abbrev mX10_delay : MD := (yX10_delay, cX10_delay, 2, (some .int), [])
theorem mok_X10_delay : MOK mX10_delay 1 := ⟨by decide +kernel, tw_1767, tw_16, ⟨by decide +kernel, by decide +kernel⟩, by decide +kernel, Nat.le_of_ble_eq_true rfl⟩
abbrev mX10_stopsMade : MD := (yX10_stopsMade, cX10_stopsMade, 2, (some .int), [])
theorem mok_X10_stopsMade : MOK mX10_stopsMade 1 := ⟨by decide +kernel, tw_1771, tw_16, ⟨by decide +kernel, by decide +kernel⟩, by decide +kernel, Nat.le_of_ble_eq_true rfl⟩
abbrev mX10_stopsPassed : MD := (yX10_stopsPassed, cX10_stopsPassed, 2, (some .int), [])
theorem mok_X10_stopsPassed : MOK mX10_stopsPassed 1 := ⟨by decide +kernel, tw_1775, tw_16, ⟨by decide +kernel, by decide +kernel⟩, by decide +kernel, Nat.le_of_ble_eq_true rfl⟩
abbrev mX10_ofIt : MD := (yX10_ofIt, cX10_ofIt, 3, (some .int), [])
theorem mok_X10_ofIt : MOK mX10_ofIt 2 := ⟨by decide +kernel, tw_1783, tw_16, ⟨by decide +kernel, by decide +kernel⟩, by decide +kernel, Nat.le_of_ble_eq_true rfl⟩
abbrev mX10_origin : MD := (yX10_origin, cX10_origin, 2, (some .int), [])
theorem mok_X10_origin : MOK mX10_origin 1 := ⟨by decide +kernel, tw_1779, tw_16, ⟨by decide +kernel, by decide +kernel⟩, by decide +kernel, Nat.le_of_ble_eq_true rfl⟩
abbrev mX10_destination : MD := (yX10_destination, cX10_destination, 2, (some .int), [])
theorem mok_X10_destination : MOK mX10_destination 1 := ⟨by decide +kernel, tw_1791, tw_16, ⟨by decide +kernel, by decide +kernel⟩, by decide +kernel, Nat.le_of_ble_eq_true rfl⟩
abbrev mX10_priority : MD := (yX10_priority, cX10_priority, 2, (some .int), [])
theorem mok_X10_priority : MOK mX10_priority 1 := ⟨by decide +kernel, tw_1795, tw_16, ⟨by decide +kernel, by decide +kernel⟩, by decide +kernel, Nat.le_of_ble_eq_true rfl⟩
abbrev mX10_parcelStation : MD := (yX10_parcelStation, cX10_parcelStation, 2, (some .int), [])
theorem mok_X10_parcelStation : MOK mX10_parcelStation 1 := ⟨by decide +kernel, tw_1799, tw_16, ⟨by decide +kernel, by decide +kernel⟩, by decide +kernel, Nat.le_of_ble_eq_true rfl⟩
abbrev mX10_parcelTrain : MD := (yX10_parcelTrain, cX10_parcelTrain, 2, (some .int), [])
theorem mok_X10_parcelTrain : MOK mX10_parcelTrain 1 := ⟨by decide +kernel, tw_1803, tw_16, ⟨by decide +kernel, by decide +kernel⟩, by decide +kernel, Nat.le_of_ble_eq_true rfl⟩
abbrev mX10_dropStation : MD := (yX10_dropStation, cX10_dropStation, 2, (some .int), [])
theorem mok_X10_dropStation : MOK mX10_dropStation 1 := ⟨by decide +kernel, tw_1807, tw_16, ⟨by decide +kernel, by decide +kernel⟩, by decide +kernel, Nat.le_of_ble_eq_true rfl⟩
abbrev mX10_transfers : MD := (yX10_transfers, cX10_transfers, 2, (some .int), [])
theorem mok_X10_transfers : MOK mX10_transfers 1 := ⟨by decide +kernel, tw_1811, tw_16, ⟨by decide +kernel, by decide +kernel⟩, by decide +kernel, Nat.le_of_ble_eq_true rfl⟩
abbrev mX10_isHeld : MD := (yX10_isHeld, cX10_isHeld, 2, (some .boolean), [])
theorem mok_X10_isHeld : MOK mX10_isHeld 1 := ⟨by decide +kernel, tw_1815, tw_16, ⟨by decide +kernel, by decide +kernel⟩, by decide +kernel, Nat.le_of_ble_eq_true rfl⟩
abbrev mX10_deliveryClock : MD := (yX10_deliveryClock, cX10_deliveryClock, 2, (some .int), [])
theorem mok_X10_deliveryClock : MOK mX10_deliveryClock 1 := ⟨by decide +kernel, tw_1819, tw_16, ⟨by decide +kernel, by decide +kernel⟩, by decide +kernel, Nat.le_of_ble_eq_true rfl⟩
abbrev mX10_loadingObstacle : MD := (yX10_loadingObstacle, cX10_loadingObstacle, 6, (some .int), [])
theorem mok_X10_loadingObstacle : MOK mX10_loadingObstacle 2 := ⟨by decide +kernel, tw_1823, tw_16, ⟨by decide +kernel, by decide +kernel⟩, by decide +kernel, Nat.le_of_ble_eq_true rfl⟩
abbrev mX10_deliveredCount : MD := (yX10_deliveredCount, cX10_deliveredCount, 1, (some .int), [])
theorem mok_X10_deliveredCount : MOK mX10_deliveredCount 0 := ⟨by decide +kernel, tw_1827, tw_16, ⟨by decide +kernel, by decide +kernel⟩, by decide +kernel, Nat.le_of_ble_eq_true rfl⟩
abbrev mX10_parcelBalance : MD := (yX10_parcelBalance, cX10_parcelBalance, 3, (some .int), [])
theorem mok_X10_parcelBalance : MOK mX10_parcelBalance 0 := ⟨by decide +kernel, tw_1834, tw_16, ⟨by decide +kernel, by decide +kernel⟩, by decide +kernel, Nat.le_of_ble_eq_true rfl⟩
abbrev mX10_loadingBalance : MD := (yX10_loadingBalance, cX10_loadingBalance, 3, (some .int), [])
theorem mok_X10_loadingBalance : MOK mX10_loadingBalance 0 := ⟨by decide +kernel, tw_1838, tw_16, ⟨by decide +kernel, by decide +kernel⟩, by decide +kernel, Nat.le_of_ble_eq_true rfl⟩
abbrev mX10_meanDeliveryClock : MD := (yX10_meanDeliveryClock, cX10_meanDeliveryClock, 4, (some .double), [])
theorem mok_X10_meanDeliveryClock : MOK mX10_meanDeliveryClock 0 := ⟨by decide +kernel, tw_1842, tw_16, ⟨by decide +kernel, by decide +kernel⟩, by decide +kernel, Nat.le_of_ble_eq_true rfl⟩
abbrev mX10_deliveredShare : MD := (yX10_deliveredShare, cX10_deliveredShare, 1, (some .float), [])
theorem mok_X10_deliveredShare : MOK mX10_deliveredShare 0 := ⟨by decide +kernel, tw_1846, tw_16, ⟨by decide +kernel, by decide +kernel⟩, by decide +kernel, Nat.le_of_ble_eq_true rfl⟩
abbrev mX10_tries : MD := (yX10_tries, cX10_tries, 1, none, [])
theorem mok_X10_tries : MOK mX10_tries 0 := ⟨by decide +kernel, tw_1854, tw_16, ⟨by decide +kernel, by decide +kernel⟩, by decide +kernel, Nat.le_of_ble_eq_true rfl⟩
abbrev mX10_minutesToDelivery : MD := (yX10_minutesToDelivery, cX10_minutesToDelivery, 3, (some .int), [])
theorem mok_X10_minutesToDelivery : MOK mX10_minutesToDelivery 1 := ⟨by decide +kernel, tw_1850, tw_16, ⟨by decide +kernel, by decide +kernel⟩, by decide +kernel, Nat.le_of_ble_eq_true rfl⟩
abbrev mX10_minutesToFinish : MD := (yX10_minutesToFinish, cX10_minutesToFinish, 2, (some .int), [])
theorem mok_X10_minutesToFinish : MOK mX10_minutesToFinish 0 := ⟨by decide +kernel, tw_1858, tw_16, ⟨by decide +kernel, by decide +kernel⟩, by decide +kernel, Nat.le_of_ble_eq_true rfl⟩
abbrev mX10_minutesToStop : MD := (yX10_minutesToStop, cX10_minutesToStop, 3, (some .int), [])
theorem mok_X10_minutesToStop : MOK mX10_minutesToStop 1 := ⟨by decide +kernel, tw_1862, tw_16, ⟨by decide +kernel, by decide +kernel⟩, by decide +kernel, Nat.le_of_ble_eq_true rfl⟩
abbrev mX10_trainStationAfter : MD := (yX10_trainStationAfter, cX10_trainStationAfter, 3, (some .int), [])
theorem mok_X10_trainStationAfter : MOK mX10_trainStationAfter 2 := ⟨by decide +kernel, tw_1866, tw_16, ⟨by decide +kernel, by decide +kernel⟩, by decide +kernel, Nat.le_of_ble_eq_true rfl⟩
abbrev mX10_deliveredAfter : MD := (yX10_deliveredAfter, cX10_deliveredAfter, 2, (some .int), [])
theorem mok_X10_deliveredAfter : MOK mX10_deliveredAfter 1 := ⟨by decide +kernel, tw_1870, tw_16, ⟨by decide +kernel, by decide +kernel⟩, by decide +kernel, Nat.le_of_ble_eq_true rfl⟩
abbrev mX10_deliveredWithout : MD := (yX10_deliveredWithout, cX10_deliveredWithout, 3, (some .int), [])
theorem mok_X10_deliveredWithout : MOK mX10_deliveredWithout 2 := ⟨by decide +kernel, tw_1878, tw_16, ⟨by decide +kernel, by decide +kernel⟩, by decide +kernel, Nat.le_of_ble_eq_true rfl⟩
abbrev mX10_deliveredIfClosed : MD := (yX10_deliveredIfClosed, cX10_deliveredIfClosed, 5, (some .int), [])
theorem mok_X10_deliveredIfClosed : MOK mX10_deliveredIfClosed 3 := ⟨by decide +kernel, tw_1874, tw_16, ⟨by decide +kernel, by decide +kernel⟩, by decide +kernel, Nat.le_of_ble_eq_true rfl⟩
abbrev mX10_worstClosure : MD := (yX10_worstClosure, cX10_worstClosure, 5, (some .int), [])
theorem mok_X10_worstClosure : MOK mX10_worstClosure 0 := ⟨by decide +kernel, tw_1882, tw_16, ⟨by decide +kernel, by decide +kernel⟩, by decide +kernel, Nat.le_of_ble_eq_true rfl⟩
abbrev mX10_pass : MD := (yX10_pass, cX10_pass, 3, (some .int), [])
theorem mok_X10_pass : MOK mX10_pass 1 := ⟨by decide +kernel, tw_1886, tw_16, ⟨by decide +kernel, by decide +kernel⟩, by decide +kernel, Nat.le_of_ble_eq_true rfl⟩
abbrev mX10_addParcel : MD := (yX10_addParcel, cX10_addParcel, 4, (some .int), [])
theorem mok_X10_addParcel : MOK mX10_addParcel 3 := ⟨by decide +kernel, tw_1890, tw_16, ⟨by decide +kernel, by decide +kernel⟩, by decide +kernel, Nat.le_of_ble_eq_true rfl⟩
abbrev mX10_setTrackOpen : MD := (yX10_setTrackOpen, cX10_setTrackOpen, 6, (some .boolean), [])
theorem mok_X10_setTrackOpen : MOK mX10_setTrackOpen 3 := ⟨by decide +kernel, tw_1894, tw_16, ⟨by decide +kernel, by decide +kernel⟩, by decide +kernel, Nat.le_of_ble_eq_true rfl⟩
abbrev mX10_lay : MD := (yX10_lay, cX10_lay, 4, (some .int), [])
theorem mok_X10_lay : MOK mX10_lay 2 := ⟨by decide +kernel, tw_1902, tw_16, ⟨by decide +kernel, by decide +kernel⟩, by decide +kernel, Nat.le_of_ble_eq_true rfl⟩
abbrev mX10_setPriority : MD := (yX10_setPriority, cX10_setPriority, 3, (some .int), [])
theorem mok_X10_setPriority : MOK mX10_setPriority 2 := ⟨by decide +kernel, tw_1898, tw_16, ⟨by decide +kernel, by decide +kernel⟩, by decide +kernel, Nat.le_of_ble_eq_true rfl⟩
abbrev mX10_setInspection : MD := (yX10_setInspection, cX10_setInspection, 3, (some .int), [])
theorem mok_X10_setInspection : MOK mX10_setInspection 2 := ⟨by decide +kernel, tw_1906, tw_16, ⟨by decide +kernel, by decide +kernel⟩, by decide +kernel, Nat.le_of_ble_eq_true rfl⟩
abbrev mX10_withdraw : MD := (yX10_withdraw, cX10_withdraw, 4, (some .int), [])
theorem mok_X10_withdraw : MOK mX10_withdraw 1 := ⟨by decide +kernel, tw_1910, tw_16, ⟨by decide +kernel, by decide +kernel⟩, by decide +kernel, Nat.le_of_ble_eq_true rfl⟩
abbrev mX10_save : MD := (yX10_save, cX10_save, 2, (some .int), [])
theorem mok_X10_save : MOK mX10_save 1 := ⟨by decide +kernel, tw_1914, tw_16, ⟨by decide +kernel, by decide +kernel⟩, by decide +kernel, Nat.le_of_ble_eq_true rfl⟩
abbrev mX10_restore : MD := (yX10_restore, cX10_restore, 2, (some .int), [])
theorem mok_X10_restore : MOK mX10_restore 1 := ⟨by decide +kernel, tw_1918, tw_16, ⟨by decide +kernel, by decide +kernel⟩, by decide +kernel, Nat.le_of_ble_eq_true rfl⟩
abbrev mX10_print : MD := (yX10_print, cX10_print, 2, none, [])
theorem mok_X10_print : MOK mX10_print 1 := ⟨by decide +kernel, tw_1930, tw_16, ⟨by decide +kernel, by decide +kernel⟩, by decide +kernel, Nat.le_of_ble_eq_true rfl⟩
abbrev mX10_letterOf : MD := (yX10_letterOf, cX10_letterOf, 4, (some .int), [])
theorem mok_X10_letterOf : MOK mX10_letterOf 2 := ⟨by decide +kernel, tw_1937, tw_16, ⟨by decide +kernel, by decide +kernel⟩, by decide +kernel, Nat.le_of_ble_eq_true rfl⟩
abbrev mX10_printName : MD := (yX10_printName, cX10_printName, 4, none, [])
theorem mok_X10_printName : MOK mX10_printName 1 := ⟨by decide +kernel, tw_1934, tw_16, ⟨by decide +kernel, by decide +kernel⟩, by decide +kernel, Nat.le_of_ble_eq_true rfl⟩
abbrev mX10_space : MD := (yX10_space, cX10_space, 1, none, [])
theorem mok_X10_space : MOK mX10_space 0 := ⟨by decide +kernel, tw_1926, tw_16, ⟨by decide +kernel, by decide +kernel⟩, by decide +kernel, Nat.le_of_ble_eq_true rfl⟩
abbrev mX10_writeTrains : MD := (yX10_writeTrains, cX10_writeTrains, 2, (some .int), [])
theorem mok_X10_writeTrains : MOK mX10_writeTrains 0 := ⟨by decide +kernel, tw_1922, tw_16, ⟨by decide +kernel, by decide +kernel⟩, by decide +kernel, Nat.le_of_ble_eq_true rfl⟩
abbrev mX10_writeParcels : MD := (yX10_writeParcels, cX10_writeParcels, 3, (some .int), [])
theorem mok_X10_writeParcels : MOK mX10_writeParcels 0 := ⟨by decide +kernel, tw_1941, tw_16, ⟨by decide +kernel, by decide +kernel⟩, by decide +kernel, Nat.le_of_ble_eq_true rfl⟩
abbrev mX10_outputByte : MD := (yX10_outputByte, cX10_outputByte, 2, (some .int), [])
theorem mok_X10_outputByte : MOK mX10_outputByte 1 := ⟨by decide +kernel, tw_1945, tw_16, ⟨by decide +kernel, by decide +kernel⟩, by decide +kernel, Nat.le_of_ble_eq_true rfl⟩
abbrev mL_appendInput : MD := (yL_appendInput, cL_appendInput, 8, (some .int), [(0, 16, 19, 13)])
theorem mok_L_appendInput : MOK mL_appendInput 7 := ⟨by decide +kernel, tw_804, tw_0, ⟨by decide +kernel, by decide +kernel⟩, by decide +kernel, Nat.le_of_ble_eq_true rfl⟩
abbrev mL_truncateInput : MD := (yL_truncateInput, cL_truncateInput, 4, (some .int), [(0, 9, 12, 19)])
theorem mok_L_truncateInput : MOK mL_truncateInput 3 := ⟨by decide +kernel, tw_884, tw_0, ⟨by decide +kernel, by decide +kernel⟩, by decide +kernel, Nat.le_of_ble_eq_true rfl⟩
abbrev mL_load : MD := (yL_load, cL_load, 3, (some .int), [(0, 8, 11, 19)])
theorem mok_L_load : MOK mL_load 2 := ⟨by decide +kernel, tw_908, tw_0, ⟨by decide +kernel, by decide +kernel⟩, by decide +kernel, Nat.le_of_ble_eq_true rfl⟩
abbrev mL_isRequestStop : MD := (yL_isRequestStop, cL_isRequestStop, 4, (some .int), [(0, 16, 19, 29)])
theorem mok_L_isRequestStop : MOK mL_isRequestStop 3 := ⟨by decide +kernel, tw_921, tw_0, ⟨by decide +kernel, by decide +kernel⟩, by decide +kernel, Nat.le_of_ble_eq_true rfl⟩
abbrev mL_inspectionTime : MD := (yL_inspectionTime, cL_inspectionTime, 4, (some .int), [(0, 9, 12, 29)])
theorem mok_L_inspectionTime : MOK mL_inspectionTime 3 := ⟨by decide +kernel, tw_949, tw_0, ⟨by decide +kernel, by decide +kernel⟩, by decide +kernel, Nat.le_of_ble_eq_true rfl⟩
abbrev mL_waitingCount : MD := (yL_waitingCount, cL_waitingCount, 4, (some .int), [(0, 9, 12, 29)])
theorem mok_L_waitingCount : MOK mL_waitingCount 3 := ⟨by decide +kernel, tw_956, tw_0, ⟨by decide +kernel, by decide +kernel⟩, by decide +kernel, Nat.le_of_ble_eq_true rfl⟩
abbrev mL_waitingParcel : MD := (yL_waitingParcel, cL_waitingParcel, 5, (some .int), [(0, 10, 13, 29), (0, 10, 17, 41)])
theorem mok_L_waitingParcel : MOK mL_waitingParcel 4 := ⟨by decide +kernel, tw_963, tw_0, ⟨by decide +kernel, by decide +kernel⟩, by decide +kernel, Nat.le_of_ble_eq_true rfl⟩
abbrev mL_travelTime : MD := (yL_travelTime, cL_travelTime, 5, (some .int), [(0, 10, 13, 29)])
theorem mok_L_travelTime : MOK mL_travelTime 4 := ⟨by decide +kernel, tw_995, tw_0, ⟨by decide +kernel, by decide +kernel⟩, by decide +kernel, Nat.le_of_ble_eq_true rfl⟩
abbrev mL_isTrackOpen : MD := (yL_isTrackOpen, cL_isTrackOpen, 5, (some .int), [(0, 17, 20, 29)])
theorem mok_L_isTrackOpen : MOK mL_isTrackOpen 4 := ⟨by decide +kernel, tw_1003, tw_0, ⟨by decide +kernel, by decide +kernel⟩, by decide +kernel, Nat.le_of_ble_eq_true rfl⟩
abbrev mL_distance : MD := (yL_distance, cL_distance, 5, (some .int), [(0, 10, 13, 29)])
theorem mok_L_distance : MOK mL_distance 4 := ⟨by decide +kernel, tw_1010, tw_0, ⟨by decide +kernel, by decide +kernel⟩, by decide +kernel, Nat.le_of_ble_eq_true rfl⟩
abbrev mL_capacity : MD := (yL_capacity, cL_capacity, 4, (some .int), [(0, 9, 12, 29)])
theorem mok_L_capacity : MOK mL_capacity 3 := ⟨by decide +kernel, tw_1018, tw_0, ⟨by decide +kernel, by decide +kernel⟩, by decide +kernel, Nat.le_of_ble_eq_true rfl⟩
abbrev mL_routeLength : MD := (yL_routeLength, cL_routeLength, 4, (some .int), [(0, 9, 12, 29)])
theorem mok_L_routeLength : MOK mL_routeLength 3 := ⟨by decide +kernel, tw_1030, tw_0, ⟨by decide +kernel, by decide +kernel⟩, by decide +kernel, Nat.le_of_ble_eq_true rfl⟩
abbrev mL_routeStation : MD := (yL_routeStation, cL_routeStation, 5, (some .int), [(0, 10, 13, 29), (0, 10, 17, 41)])
theorem mok_L_routeStation : MOK mL_routeStation 4 := ⟨by decide +kernel, tw_1037, tw_0, ⟨by decide +kernel, by decide +kernel⟩, by decide +kernel, Nat.le_of_ble_eq_true rfl⟩
abbrev mL_carriedCount : MD := (yL_carriedCount, cL_carriedCount, 4, (some .int), [(0, 9, 12, 29)])
theorem mok_L_carriedCount : MOK mL_carriedCount 3 := ⟨by decide +kernel, tw_1048, tw_0, ⟨by decide +kernel, by decide +kernel⟩, by decide +kernel, Nat.le_of_ble_eq_true rfl⟩
abbrev mL_carriedParcel : MD := (yL_carriedParcel, cL_carriedParcel, 5, (some .int), [(0, 10, 13, 29), (0, 10, 17, 41)])
theorem mok_L_carriedParcel : MOK mL_carriedParcel 4 := ⟨by decide +kernel, tw_1055, tw_0, ⟨by decide +kernel, by decide +kernel⟩, by decide +kernel, Nat.le_of_ble_eq_true rfl⟩
abbrev mL_trainStation : MD := (yL_trainStation, cL_trainStation, 4, (some .int), [(0, 9, 12, 29)])
theorem mok_L_trainStation : MOK mL_trainStation 3 := ⟨by decide +kernel, tw_1066, tw_0, ⟨by decide +kernel, by decide +kernel⟩, by decide +kernel, Nat.le_of_ble_eq_true rfl⟩
abbrev mL_nextStation : MD := (yL_nextStation, cL_nextStation, 4, (some .int), [(0, 9, 12, 29)])
theorem mok_L_nextStation : MOK mL_nextStation 3 := ⟨by decide +kernel, tw_1079, tw_0, ⟨by decide +kernel, by decide +kernel⟩, by decide +kernel, Nat.le_of_ble_eq_true rfl⟩
abbrev mL_isForward : MD := (yL_isForward, cL_isForward, 4, (some .int), [(0, 16, 19, 29)])
theorem mok_L_isForward : MOK mL_isForward 3 := ⟨by decide +kernel, tw_1086, tw_0, ⟨by decide +kernel, by decide +kernel⟩, by decide +kernel, Nat.le_of_ble_eq_true rfl⟩
abbrev mL_minutesToNext : MD := (yL_minutesToNext, cL_minutesToNext, 4, (some .int), [(0, 9, 12, 29)])
theorem mok_L_minutesToNext : MOK mL_minutesToNext 3 := ⟨by decide +kernel, tw_1093, tw_0, ⟨by decide +kernel, by decide +kernel⟩, by decide +kernel, Nat.le_of_ble_eq_true rfl⟩
abbrev mL_delay : MD := (yL_delay, cL_delay, 4, (some .int), [(0, 9, 12, 29)])
theorem mok_L_delay : MOK mL_delay 3 := ⟨by decide +kernel, tw_1100, tw_0, ⟨by decide +kernel, by decide +kernel⟩, by decide +kernel, Nat.le_of_ble_eq_true rfl⟩
abbrev mL_stopsMade : MD := (yL_stopsMade, cL_stopsMade, 4, (some .int), [(0, 9, 12, 29)])
theorem mok_L_stopsMade : MOK mL_stopsMade 3 := ⟨by decide +kernel, tw_1107, tw_0, ⟨by decide +kernel, by decide +kernel⟩, by decide +kernel, Nat.le_of_ble_eq_true rfl⟩
abbrev mL_stopsPassed : MD := (yL_stopsPassed, cL_stopsPassed, 4, (some .int), [(0, 9, 12, 29)])
theorem mok_L_stopsPassed : MOK mL_stopsPassed 3 := ⟨by decide +kernel, tw_1114, tw_0, ⟨by decide +kernel, by decide +kernel⟩, by decide +kernel, Nat.le_of_ble_eq_true rfl⟩
abbrev mL_origin : MD := (yL_origin, cL_origin, 4, (some .int), [(0, 9, 12, 29)])
theorem mok_L_origin : MOK mL_origin 3 := ⟨by decide +kernel, tw_1121, tw_0, ⟨by decide +kernel, by decide +kernel⟩, by decide +kernel, Nat.le_of_ble_eq_true rfl⟩
abbrev mL_destination : MD := (yL_destination, cL_destination, 4, (some .int), [(0, 9, 12, 29)])
theorem mok_L_destination : MOK mL_destination 3 := ⟨by decide +kernel, tw_1133, tw_0, ⟨by decide +kernel, by decide +kernel⟩, by decide +kernel, Nat.le_of_ble_eq_true rfl⟩
abbrev mL_priority : MD := (yL_priority, cL_priority, 4, (some .int), [(0, 9, 12, 29)])
theorem mok_L_priority : MOK mL_priority 3 := ⟨by decide +kernel, tw_1140, tw_0, ⟨by decide +kernel, by decide +kernel⟩, by decide +kernel, Nat.le_of_ble_eq_true rfl⟩
abbrev mL_parcelStation : MD := (yL_parcelStation, cL_parcelStation, 4, (some .int), [(0, 9, 12, 29)])
theorem mok_L_parcelStation : MOK mL_parcelStation 3 := ⟨by decide +kernel, tw_1147, tw_0, ⟨by decide +kernel, by decide +kernel⟩, by decide +kernel, Nat.le_of_ble_eq_true rfl⟩
abbrev mL_parcelTrain : MD := (yL_parcelTrain, cL_parcelTrain, 4, (some .int), [(0, 9, 12, 29)])
theorem mok_L_parcelTrain : MOK mL_parcelTrain 3 := ⟨by decide +kernel, tw_1154, tw_0, ⟨by decide +kernel, by decide +kernel⟩, by decide +kernel, Nat.le_of_ble_eq_true rfl⟩
abbrev mL_dropStation : MD := (yL_dropStation, cL_dropStation, 4, (some .int), [(0, 9, 12, 29)])
theorem mok_L_dropStation : MOK mL_dropStation 3 := ⟨by decide +kernel, tw_1161, tw_0, ⟨by decide +kernel, by decide +kernel⟩, by decide +kernel, Nat.le_of_ble_eq_true rfl⟩
abbrev mL_transfers : MD := (yL_transfers, cL_transfers, 4, (some .int), [(0, 9, 12, 29)])
theorem mok_L_transfers : MOK mL_transfers 3 := ⟨by decide +kernel, tw_1168, tw_0, ⟨by decide +kernel, by decide +kernel⟩, by decide +kernel, Nat.le_of_ble_eq_true rfl⟩
abbrev mL_isHeld : MD := (yL_isHeld, cL_isHeld, 4, (some .int), [(0, 16, 19, 29)])
theorem mok_L_isHeld : MOK mL_isHeld 3 := ⟨by decide +kernel, tw_1175, tw_0, ⟨by decide +kernel, by decide +kernel⟩, by decide +kernel, Nat.le_of_ble_eq_true rfl⟩
abbrev mL_deliveryClock : MD := (yL_deliveryClock, cL_deliveryClock, 4, (some .int), [(0, 9, 12, 29)])
theorem mok_L_deliveryClock : MOK mL_deliveryClock 3 := ⟨by decide +kernel, tw_1186, tw_0, ⟨by decide +kernel, by decide +kernel⟩, by decide +kernel, Nat.le_of_ble_eq_true rfl⟩
abbrev mL_loadingObstacle : MD := (yL_loadingObstacle, cL_loadingObstacle, 5, (some .int), [(0, 10, 13, 29)])
theorem mok_L_loadingObstacle : MOK mL_loadingObstacle 4 := ⟨by decide +kernel, tw_1193, tw_0, ⟨by decide +kernel, by decide +kernel⟩, by decide +kernel, Nat.le_of_ble_eq_true rfl⟩
abbrev mL_minutesToDelivery : MD := (yL_minutesToDelivery, cL_minutesToDelivery, 4, (some .int), [(0, 9, 12, 29)])
theorem mok_L_minutesToDelivery : MOK mL_minutesToDelivery 3 := ⟨by decide +kernel, tw_1206, tw_0, ⟨by decide +kernel, by decide +kernel⟩, by decide +kernel, Nat.le_of_ble_eq_true rfl⟩
abbrev mL_minutesToStop : MD := (yL_minutesToStop, cL_minutesToStop, 4, (some .int), [(0, 9, 12, 29)])
theorem mok_L_minutesToStop : MOK mL_minutesToStop 3 := ⟨by decide +kernel, tw_1213, tw_0, ⟨by decide +kernel, by decide +kernel⟩, by decide +kernel, Nat.le_of_ble_eq_true rfl⟩
abbrev mL_trainStationAfter : MD := (yL_trainStationAfter, cL_trainStationAfter, 5, (some .int), [(0, 10, 13, 29), (0, 10, 17, 19)])
theorem mok_L_trainStationAfter : MOK mL_trainStationAfter 4 := ⟨by decide +kernel, tw_1220, tw_0, ⟨by decide +kernel, by decide +kernel⟩, by decide +kernel, Nat.le_of_ble_eq_true rfl⟩
abbrev mL_deliveredAfter : MD := (yL_deliveredAfter, cL_deliveredAfter, 4, (some .int), [(0, 9, 12, 19)])
theorem mok_L_deliveredAfter : MOK mL_deliveredAfter 3 := ⟨by decide +kernel, tw_1236, tw_0, ⟨by decide +kernel, by decide +kernel⟩, by decide +kernel, Nat.le_of_ble_eq_true rfl⟩
abbrev mL_deliveredIfClosed : MD := (yL_deliveredIfClosed, cL_deliveredIfClosed, 6, (some .int), [(0, 12, 15, 29), (0, 12, 19, 19)])
theorem mok_L_deliveredIfClosed : MOK mL_deliveredIfClosed 5 := ⟨by decide +kernel, tw_1243, tw_0, ⟨by decide +kernel, by decide +kernel⟩, by decide +kernel, Nat.le_of_ble_eq_true rfl⟩
abbrev mL_pass : MD := (yL_pass, cL_pass, 4, (some .int), [(0, 9, 12, 19)])
theorem mok_L_pass : MOK mL_pass 3 := ⟨by decide +kernel, tw_1255, tw_0, ⟨by decide +kernel, by decide +kernel⟩, by decide +kernel, Nat.le_of_ble_eq_true rfl⟩
abbrev mL_addParcel : MD := (yL_addParcel, cL_addParcel, 6, (some .int), [(0, 12, 15, 29), (0, 12, 19, 19), (0, 12, 23, 13)])
theorem mok_L_addParcel : MOK mL_addParcel 5 := ⟨by decide +kernel, tw_1262, tw_0, ⟨by decide +kernel, by decide +kernel⟩, by decide +kernel, Nat.le_of_ble_eq_true rfl⟩
abbrev mL_setTrackOpen : MD := (yL_setTrackOpen, cL_setTrackOpen, 6, (some .int), [(0, 19, 22, 29), (0, 19, 26, 19)])
theorem mok_L_setTrackOpen : MOK mL_setTrackOpen 5 := ⟨by decide +kernel, tw_1272, tw_0, ⟨by decide +kernel, by decide +kernel⟩, by decide +kernel, Nat.le_of_ble_eq_true rfl⟩
abbrev mL_setPriority : MD := (yL_setPriority, cL_setPriority, 5, (some .int), [(0, 10, 13, 29), (0, 10, 17, 19)])
theorem mok_L_setPriority : MOK mL_setPriority 4 := ⟨by decide +kernel, tw_1279, tw_0, ⟨by decide +kernel, by decide +kernel⟩, by decide +kernel, Nat.le_of_ble_eq_true rfl⟩
abbrev mL_setInspection : MD := (yL_setInspection, cL_setInspection, 5, (some .int), [(0, 10, 13, 29), (0, 10, 17, 19)])
theorem mok_L_setInspection : MOK mL_setInspection 4 := ⟨by decide +kernel, tw_1286, tw_0, ⟨by decide +kernel, by decide +kernel⟩, by decide +kernel, Nat.le_of_ble_eq_true rfl⟩
abbrev mL_withdraw : MD := (yL_withdraw, cL_withdraw, 4, (some .int), [(0, 9, 12, 29), (0, 9, 15, 13)])
theorem mok_L_withdraw : MOK mL_withdraw 3 := ⟨by decide +kernel, tw_1293, tw_0, ⟨by decide +kernel, by decide +kernel⟩, by decide +kernel, Nat.le_of_ble_eq_true rfl⟩
abbrev mL_outputByte : MD := (yL_outputByte, cL_outputByte, 4, (some .int), [(0, 9, 12, 41)])
theorem mok_L_outputByte : MOK mL_outputByte 3 := ⟨by decide +kernel, tw_1306, tw_0, ⟨by decide +kernel, by decide +kernel⟩, by decide +kernel, Nat.le_of_ble_eq_true rfl⟩
abbrev mL_save : MD := (yL_save, cL_save, 4, (some .int), [(0, 9, 12, 29)])
theorem mok_L_save : MOK mL_save 3 := ⟨by decide +kernel, tw_1314, tw_0, ⟨by decide +kernel, by decide +kernel⟩, by decide +kernel, Nat.le_of_ble_eq_true rfl⟩
abbrev mL_restore : MD := (yL_restore, cL_restore, 4, (some .int), [(0, 9, 12, 29), (0, 9, 15, 13)])
theorem mok_L_restore : MOK mL_restore 3 := ⟨by decide +kernel, tw_1325, tw_0, ⟨by decide +kernel, by decide +kernel⟩, by decide +kernel, Nat.le_of_ble_eq_true rfl⟩
abbrev mL_undo : MD := (yL_undo, cL_undo, 3, (some .int), [(0, 8, 11, 13)])
theorem mok_L_undo : MOK mL_undo 2 := ⟨by decide +kernel, tw_1333, tw_0, ⟨by decide +kernel, by decide +kernel⟩, by decide +kernel, Nat.le_of_ble_eq_true rfl⟩
abbrev mL_law : MD := (yL_law, cL_law, 9, (some .boolean), [])
theorem fl_X5_7 : FLD RX5 7 5 0 := ⟨_, _, _, rfl, Nat.le_of_ble_eq_true rfl, tw_51⟩
theorem fp_X5_7 {md : MD} (h : md.1.cls = RX5) : FPT md 7 5 0 .int := ⟨_, _, _, rfl, Nat.le_of_ble_eq_true rfl, by rw [h]; exact tw_51, by decide +kernel, Or.inl rfl⟩
theorem fl_X4_83 : FLD RX4 83 5 0 := ⟨_, _, _, rfl, Nat.le_of_ble_eq_true rfl, tw_52⟩
theorem fp_X4_83 {md : MD} (h : md.1.cls = RX4) : FPT md 83 5 0 .int := ⟨_, _, _, rfl, Nat.le_of_ble_eq_true rfl, by rw [h]; exact tw_52, by decide +kernel, Or.inl rfl⟩
theorem fl_X5_13 : FLD RX5 13 5 1 := ⟨_, _, _, rfl, Nat.le_of_ble_eq_true rfl, tw_53⟩
theorem fp_X5_13 {md : MD} (h : md.1.cls = RX5) : FPT md 13 5 1 .boolean := ⟨_, _, _, rfl, Nat.le_of_ble_eq_true rfl, by rw [h]; exact tw_53, by decide +kernel, Or.inl rfl⟩
theorem fl_X4_86 : FLD RX4 86 5 1 := ⟨_, _, _, rfl, Nat.le_of_ble_eq_true rfl, tw_54⟩
theorem fp_X4_86 {md : MD} (h : md.1.cls = RX4) : FPT md 86 5 1 .boolean := ⟨_, _, _, rfl, Nat.le_of_ble_eq_true rfl, by rw [h]; exact tw_54, by decide +kernel, Or.inl rfl⟩
theorem fl_X9_122 : FLD RX9 122 5 1 := ⟨_, _, _, rfl, Nat.le_of_ble_eq_true rfl, tw_55⟩
theorem fp_X9_122 {md : MD} (h : md.1.cls = RX9) : FPT md 122 5 1 .boolean := ⟨_, _, _, rfl, Nat.le_of_ble_eq_true rfl, by rw [h]; exact tw_55, by decide +kernel, Or.inl rfl⟩
theorem fl_X5_17 : FLD RX5 17 5 2 := ⟨_, _, _, rfl, Nat.le_of_ble_eq_true rfl, tw_56⟩
theorem fp_X5_17 {md : MD} (h : md.1.cls = RX5) : FPT md 17 5 2 .int := ⟨_, _, _, rfl, Nat.le_of_ble_eq_true rfl, by rw [h]; exact tw_56, by decide +kernel, Or.inl rfl⟩
theorem fl_X4_90 : FLD RX4 90 5 2 := ⟨_, _, _, rfl, Nat.le_of_ble_eq_true rfl, tw_57⟩
theorem fp_X4_90 {md : MD} (h : md.1.cls = RX4) : FPT md 90 5 2 .int := ⟨_, _, _, rfl, Nat.le_of_ble_eq_true rfl, by rw [h]; exact tw_57, by decide +kernel, Or.inl rfl⟩
theorem fl_X9_128 : FLD RX9 128 5 2 := ⟨_, _, _, rfl, Nat.le_of_ble_eq_true rfl, tw_58⟩
theorem fp_X9_128 {md : MD} (h : md.1.cls = RX9) : FPT md 128 5 2 .int := ⟨_, _, _, rfl, Nat.le_of_ble_eq_true rfl, by rw [h]; exact tw_58, by decide +kernel, Or.inl rfl⟩
theorem fl_X5_20 : FLD RX5 20 5 3 := ⟨_, _, _, rfl, Nat.le_of_ble_eq_true rfl, tw_59⟩
theorem fp_X5_20 {md : MD} (h : md.1.cls = RX5) : FPT md 20 5 3 .int := ⟨_, _, _, rfl, Nat.le_of_ble_eq_true rfl, by rw [h]; exact tw_59, by decide +kernel, Or.inl rfl⟩
theorem fl_X4_93 : FLD RX4 93 5 3 := ⟨_, _, _, rfl, Nat.le_of_ble_eq_true rfl, tw_60⟩
theorem fp_X4_93 {md : MD} (h : md.1.cls = RX4) : FPT md 93 5 3 .int := ⟨_, _, _, rfl, Nat.le_of_ble_eq_true rfl, by rw [h]; exact tw_60, by decide +kernel, Or.inl rfl⟩
theorem fl_X9_271 : FLD RX9 271 5 3 := ⟨_, _, _, rfl, Nat.le_of_ble_eq_true rfl, tw_61⟩
theorem fp_X9_271 {md : MD} (h : md.1.cls = RX9) : FPT md 271 5 3 .int := ⟨_, _, _, rfl, Nat.le_of_ble_eq_true rfl, by rw [h]; exact tw_61, by decide +kernel, Or.inl rfl⟩
theorem fl_X7_7 : FLD RX7 7 7 0 := ⟨_, _, _, rfl, Nat.le_of_ble_eq_true rfl, tw_77⟩
theorem fp_X7_7 {md : MD} (h : md.1.cls = RX7) : FPT md 7 7 0 .int := ⟨_, _, _, rfl, Nat.le_of_ble_eq_true rfl, by rw [h]; exact tw_77, by decide +kernel, Or.inl rfl⟩
theorem fl_X4_96 : FLD RX4 96 7 0 := ⟨_, _, _, rfl, Nat.le_of_ble_eq_true rfl, tw_78⟩
theorem fp_X4_96 {md : MD} (h : md.1.cls = RX4) : FPT md 96 7 0 .int := ⟨_, _, _, rfl, Nat.le_of_ble_eq_true rfl, by rw [h]; exact tw_78, by decide +kernel, Or.inl rfl⟩
theorem fl_X7_13 : FLD RX7 13 7 1 := ⟨_, _, _, rfl, Nat.le_of_ble_eq_true rfl, tw_79⟩
theorem fp_X7_13 {md : MD} (h : md.1.cls = RX7) : FPT md 13 7 1 .int := ⟨_, _, _, rfl, Nat.le_of_ble_eq_true rfl, by rw [h]; exact tw_79, by decide +kernel, Or.inl rfl⟩
theorem fl_X4_99 : FLD RX4 99 7 1 := ⟨_, _, _, rfl, Nat.le_of_ble_eq_true rfl, tw_80⟩
theorem fp_X4_99 {md : MD} (h : md.1.cls = RX4) : FPT md 99 7 1 .int := ⟨_, _, _, rfl, Nat.le_of_ble_eq_true rfl, by rw [h]; exact tw_80, by decide +kernel, Or.inl rfl⟩
theorem fl_X7_16 : FLD RX7 16 7 2 := ⟨_, _, _, rfl, Nat.le_of_ble_eq_true rfl, tw_81⟩
theorem fp_X7_16 {md : MD} (h : md.1.cls = RX7) : FPT md 16 7 2 .int := ⟨_, _, _, rfl, Nat.le_of_ble_eq_true rfl, by rw [h]; exact tw_81, by decide +kernel, Or.inl rfl⟩
theorem fl_X4_102 : FLD RX4 102 7 2 := ⟨_, _, _, rfl, Nat.le_of_ble_eq_true rfl, tw_82⟩
theorem fp_X4_102 {md : MD} (h : md.1.cls = RX4) : FPT md 102 7 2 .int := ⟨_, _, _, rfl, Nat.le_of_ble_eq_true rfl, by rw [h]; exact tw_82, by decide +kernel, Or.inl rfl⟩
theorem fl_X9_151 : FLD RX9 151 7 2 := ⟨_, _, _, rfl, Nat.le_of_ble_eq_true rfl, tw_83⟩
theorem fp_X9_151 {md : MD} (h : md.1.cls = RX9) : FPT md 151 7 2 .int := ⟨_, _, _, rfl, Nat.le_of_ble_eq_true rfl, by rw [h]; exact tw_83, by decide +kernel, Or.inl rfl⟩
theorem fl_X7_19 : FLD RX7 19 7 3 := ⟨_, _, _, rfl, Nat.le_of_ble_eq_true rfl, tw_84⟩
theorem fp_X7_19 {md : MD} (h : md.1.cls = RX7) : FPT md 19 7 3 .boolean := ⟨_, _, _, rfl, Nat.le_of_ble_eq_true rfl, by rw [h]; exact tw_84, by decide +kernel, Or.inl rfl⟩
theorem fl_X4_105 : FLD RX4 105 7 3 := ⟨_, _, _, rfl, Nat.le_of_ble_eq_true rfl, tw_85⟩
theorem fp_X4_105 {md : MD} (h : md.1.cls = RX4) : FPT md 105 7 3 .boolean := ⟨_, _, _, rfl, Nat.le_of_ble_eq_true rfl, by rw [h]; exact tw_85, by decide +kernel, Or.inl rfl⟩
theorem fl_X9_156 : FLD RX9 156 7 3 := ⟨_, _, _, rfl, Nat.le_of_ble_eq_true rfl, tw_86⟩
theorem fp_X9_156 {md : MD} (h : md.1.cls = RX9) : FPT md 156 7 3 .boolean := ⟨_, _, _, rfl, Nat.le_of_ble_eq_true rfl, by rw [h]; exact tw_86, by decide +kernel, Or.inl rfl⟩
theorem fl_X8_15 : FLD RX8 15 8 0 := ⟨_, _, _, rfl, Nat.le_of_ble_eq_true rfl, tw_101⟩
theorem fp_X8_15 {md : MD} (h : md.1.cls = RX8) (hi : md.1.name = "<init>") : FPT md 15 8 0 .int := ⟨_, _, _, rfl, Nat.le_of_ble_eq_true rfl, by rw [h]; exact tw_101, by decide +kernel, Or.inr ⟨hi, rfl, h.symm⟩⟩
theorem fl_X4_189 : FLD RX4 189 8 0 := ⟨_, _, _, rfl, Nat.le_of_ble_eq_true rfl, tw_102⟩
theorem fl_X8_19 : FLD RX8 19 8 1 := ⟨_, _, _, rfl, Nat.le_of_ble_eq_true rfl, tw_103⟩
theorem fp_X8_19 {md : MD} (h : md.1.cls = RX8) : FPT md 19 8 1 .int := ⟨_, _, _, rfl, Nat.le_of_ble_eq_true rfl, by rw [h]; exact tw_103, by decide +kernel, Or.inl rfl⟩
theorem fl_X4_108 : FLD RX4 108 8 1 := ⟨_, _, _, rfl, Nat.le_of_ble_eq_true rfl, tw_104⟩
theorem fp_X4_108 {md : MD} (h : md.1.cls = RX4) : FPT md 108 8 1 .int := ⟨_, _, _, rfl, Nat.le_of_ble_eq_true rfl, by rw [h]; exact tw_104, by decide +kernel, Or.inl rfl⟩
theorem fl_X9_169 : FLD RX9 169 8 1 := ⟨_, _, _, rfl, Nat.le_of_ble_eq_true rfl, tw_105⟩
theorem fp_X9_169 {md : MD} (h : md.1.cls = RX9) : FPT md 169 8 1 .int := ⟨_, _, _, rfl, Nat.le_of_ble_eq_true rfl, by rw [h]; exact tw_105, by decide +kernel, Or.inl rfl⟩
theorem fl_X8_9 : FLD RX8 9 8 2 := ⟨_, _, _, rfl, Nat.le_of_ble_eq_true rfl, tw_106⟩
theorem fp_X8_9 {md : MD} (h : md.1.cls = RX8) (hi : md.1.name = "<init>") : FPT md 9 8 2 (.array .int) := ⟨_, _, _, rfl, Nat.le_of_ble_eq_true rfl, by rw [h]; exact tw_106, by decide +kernel, Or.inr ⟨hi, rfl, h.symm⟩⟩
theorem fl_X4_114 : FLD RX4 114 8 2 := ⟨_, _, _, rfl, Nat.le_of_ble_eq_true rfl, tw_107⟩
theorem fl_X8_22 : FLD RX8 22 8 3 := ⟨_, _, _, rfl, Nat.le_of_ble_eq_true rfl, tw_108⟩
theorem fp_X8_22 {md : MD} (h : md.1.cls = RX8) : FPT md 22 8 3 .int := ⟨_, _, _, rfl, Nat.le_of_ble_eq_true rfl, by rw [h]; exact tw_108, by decide +kernel, Or.inl rfl⟩
theorem fl_X4_111 : FLD RX4 111 8 3 := ⟨_, _, _, rfl, Nat.le_of_ble_eq_true rfl, tw_109⟩
theorem fp_X4_111 {md : MD} (h : md.1.cls = RX4) : FPT md 111 8 3 .int := ⟨_, _, _, rfl, Nat.le_of_ble_eq_true rfl, by rw [h]; exact tw_109, by decide +kernel, Or.inl rfl⟩
theorem fl_X9_174 : FLD RX9 174 8 3 := ⟨_, _, _, rfl, Nat.le_of_ble_eq_true rfl, tw_110⟩
theorem fp_X9_174 {md : MD} (h : md.1.cls = RX9) : FPT md 174 8 3 .int := ⟨_, _, _, rfl, Nat.le_of_ble_eq_true rfl, by rw [h]; exact tw_110, by decide +kernel, Or.inl rfl⟩
theorem fl_X8_25 : FLD RX8 25 8 4 := ⟨_, _, _, rfl, Nat.le_of_ble_eq_true rfl, tw_111⟩
theorem fp_X8_25 {md : MD} (h : md.1.cls = RX8) : FPT md 25 8 4 .int := ⟨_, _, _, rfl, Nat.le_of_ble_eq_true rfl, by rw [h]; exact tw_111, by decide +kernel, Or.inl rfl⟩
theorem fl_X4_117 : FLD RX4 117 8 4 := ⟨_, _, _, rfl, Nat.le_of_ble_eq_true rfl, tw_112⟩
theorem fp_X4_117 {md : MD} (h : md.1.cls = RX4) : FPT md 117 8 4 .int := ⟨_, _, _, rfl, Nat.le_of_ble_eq_true rfl, by rw [h]; exact tw_112, by decide +kernel, Or.inl rfl⟩
theorem fl_X8_28 : FLD RX8 28 8 5 := ⟨_, _, _, rfl, Nat.le_of_ble_eq_true rfl, tw_113⟩
theorem fp_X8_28 {md : MD} (h : md.1.cls = RX8) : FPT md 28 8 5 .boolean := ⟨_, _, _, rfl, Nat.le_of_ble_eq_true rfl, by rw [h]; exact tw_113, by decide +kernel, Or.inl rfl⟩
theorem fl_X4_120 : FLD RX4 120 8 5 := ⟨_, _, _, rfl, Nat.le_of_ble_eq_true rfl, tw_114⟩
theorem fp_X4_120 {md : MD} (h : md.1.cls = RX4) : FPT md 120 8 5 .boolean := ⟨_, _, _, rfl, Nat.le_of_ble_eq_true rfl, by rw [h]; exact tw_114, by decide +kernel, Or.inl rfl⟩
theorem fl_X9_193 : FLD RX9 193 8 5 := ⟨_, _, _, rfl, Nat.le_of_ble_eq_true rfl, tw_115⟩
theorem fp_X9_193 {md : MD} (h : md.1.cls = RX9) : FPT md 193 8 5 .boolean := ⟨_, _, _, rfl, Nat.le_of_ble_eq_true rfl, by rw [h]; exact tw_115, by decide +kernel, Or.inl rfl⟩
theorem fl_X8_32 : FLD RX8 32 8 6 := ⟨_, _, _, rfl, Nat.le_of_ble_eq_true rfl, tw_116⟩
theorem fp_X8_32 {md : MD} (h : md.1.cls = RX8) : FPT md 32 8 6 .int := ⟨_, _, _, rfl, Nat.le_of_ble_eq_true rfl, by rw [h]; exact tw_116, by decide +kernel, Or.inl rfl⟩
theorem fl_X4_123 : FLD RX4 123 8 6 := ⟨_, _, _, rfl, Nat.le_of_ble_eq_true rfl, tw_117⟩
theorem fp_X4_123 {md : MD} (h : md.1.cls = RX4) : FPT md 123 8 6 .int := ⟨_, _, _, rfl, Nat.le_of_ble_eq_true rfl, by rw [h]; exact tw_117, by decide +kernel, Or.inl rfl⟩
theorem fl_X9_196 : FLD RX9 196 8 6 := ⟨_, _, _, rfl, Nat.le_of_ble_eq_true rfl, tw_118⟩
theorem fp_X9_196 {md : MD} (h : md.1.cls = RX9) : FPT md 196 8 6 .int := ⟨_, _, _, rfl, Nat.le_of_ble_eq_true rfl, by rw [h]; exact tw_118, by decide +kernel, Or.inl rfl⟩
theorem fl_X8_35 : FLD RX8 35 8 7 := ⟨_, _, _, rfl, Nat.le_of_ble_eq_true rfl, tw_119⟩
theorem fp_X8_35 {md : MD} (h : md.1.cls = RX8) : FPT md 35 8 7 .int := ⟨_, _, _, rfl, Nat.le_of_ble_eq_true rfl, by rw [h]; exact tw_119, by decide +kernel, Or.inl rfl⟩
theorem fl_X4_126 : FLD RX4 126 8 7 := ⟨_, _, _, rfl, Nat.le_of_ble_eq_true rfl, tw_120⟩
theorem fp_X4_126 {md : MD} (h : md.1.cls = RX4) : FPT md 126 8 7 .int := ⟨_, _, _, rfl, Nat.le_of_ble_eq_true rfl, by rw [h]; exact tw_120, by decide +kernel, Or.inl rfl⟩
theorem fl_X9_199 : FLD RX9 199 8 7 := ⟨_, _, _, rfl, Nat.le_of_ble_eq_true rfl, tw_121⟩
theorem fp_X9_199 {md : MD} (h : md.1.cls = RX9) : FPT md 199 8 7 .int := ⟨_, _, _, rfl, Nat.le_of_ble_eq_true rfl, by rw [h]; exact tw_121, by decide +kernel, Or.inl rfl⟩
theorem fl_X8_38 : FLD RX8 38 8 8 := ⟨_, _, _, rfl, Nat.le_of_ble_eq_true rfl, tw_122⟩
theorem fp_X8_38 {md : MD} (h : md.1.cls = RX8) : FPT md 38 8 8 .int := ⟨_, _, _, rfl, Nat.le_of_ble_eq_true rfl, by rw [h]; exact tw_122, by decide +kernel, Or.inl rfl⟩
theorem fl_X4_129 : FLD RX4 129 8 8 := ⟨_, _, _, rfl, Nat.le_of_ble_eq_true rfl, tw_123⟩
theorem fp_X4_129 {md : MD} (h : md.1.cls = RX4) : FPT md 129 8 8 .int := ⟨_, _, _, rfl, Nat.le_of_ble_eq_true rfl, by rw [h]; exact tw_123, by decide +kernel, Or.inl rfl⟩
theorem fl_X9_202 : FLD RX9 202 8 8 := ⟨_, _, _, rfl, Nat.le_of_ble_eq_true rfl, tw_124⟩
theorem fp_X9_202 {md : MD} (h : md.1.cls = RX9) : FPT md 202 8 8 .int := ⟨_, _, _, rfl, Nat.le_of_ble_eq_true rfl, by rw [h]; exact tw_124, by decide +kernel, Or.inl rfl⟩
theorem fl_X8_41 : FLD RX8 41 8 9 := ⟨_, _, _, rfl, Nat.le_of_ble_eq_true rfl, tw_125⟩
theorem fp_X8_41 {md : MD} (h : md.1.cls = RX8) : FPT md 41 8 9 .int := ⟨_, _, _, rfl, Nat.le_of_ble_eq_true rfl, by rw [h]; exact tw_125, by decide +kernel, Or.inl rfl⟩
theorem fl_X4_132 : FLD RX4 132 8 9 := ⟨_, _, _, rfl, Nat.le_of_ble_eq_true rfl, tw_126⟩
theorem fp_X4_132 {md : MD} (h : md.1.cls = RX4) : FPT md 132 8 9 .int := ⟨_, _, _, rfl, Nat.le_of_ble_eq_true rfl, by rw [h]; exact tw_126, by decide +kernel, Or.inl rfl⟩
theorem fl_X9_205 : FLD RX9 205 8 9 := ⟨_, _, _, rfl, Nat.le_of_ble_eq_true rfl, tw_127⟩
theorem fp_X9_205 {md : MD} (h : md.1.cls = RX9) : FPT md 205 8 9 .int := ⟨_, _, _, rfl, Nat.le_of_ble_eq_true rfl, by rw [h]; exact tw_127, by decide +kernel, Or.inl rfl⟩
theorem fl_X2_9 : FLD RX2 9 2 0 := ⟨_, _, _, rfl, Nat.le_of_ble_eq_true rfl, tw_154⟩
theorem fp_X2_9 {md : MD} (h : md.1.cls = RX2) (hi : md.1.name = "<init>") : FPT md 9 2 0 .int := ⟨_, _, _, rfl, Nat.le_of_ble_eq_true rfl, by rw [h]; exact tw_154, by decide +kernel, Or.inr ⟨hi, rfl, h.symm⟩⟩
theorem fl_X2_15 : FLD RX2 15 2 1 := ⟨_, _, _, rfl, Nat.le_of_ble_eq_true rfl, tw_155⟩
theorem fp_X2_15 {md : MD} (h : md.1.cls = RX2) : FPT md 15 2 1 .int := ⟨_, _, _, rfl, Nat.le_of_ble_eq_true rfl, by rw [h]; exact tw_155, by decide +kernel, Or.inl rfl⟩
theorem fl_X4_135 : FLD RX4 135 2 1 := ⟨_, _, _, rfl, Nat.le_of_ble_eq_true rfl, tw_156⟩
theorem fp_X4_135 {md : MD} (h : md.1.cls = RX4) : FPT md 135 2 1 .int := ⟨_, _, _, rfl, Nat.le_of_ble_eq_true rfl, by rw [h]; exact tw_156, by decide +kernel, Or.inl rfl⟩
theorem fl_X9_215 : FLD RX9 215 2 1 := ⟨_, _, _, rfl, Nat.le_of_ble_eq_true rfl, tw_157⟩
theorem fp_X9_215 {md : MD} (h : md.1.cls = RX9) : FPT md 215 2 1 .int := ⟨_, _, _, rfl, Nat.le_of_ble_eq_true rfl, by rw [h]; exact tw_157, by decide +kernel, Or.inl rfl⟩
theorem fl_X2_18 : FLD RX2 18 2 2 := ⟨_, _, _, rfl, Nat.le_of_ble_eq_true rfl, tw_158⟩
theorem fp_X2_18 {md : MD} (h : md.1.cls = RX2) : FPT md 18 2 2 .int := ⟨_, _, _, rfl, Nat.le_of_ble_eq_true rfl, by rw [h]; exact tw_158, by decide +kernel, Or.inl rfl⟩
theorem fl_X4_136 : FLD RX4 136 2 2 := ⟨_, _, _, rfl, Nat.le_of_ble_eq_true rfl, tw_159⟩
theorem fp_X4_136 {md : MD} (h : md.1.cls = RX4) : FPT md 136 2 2 .int := ⟨_, _, _, rfl, Nat.le_of_ble_eq_true rfl, by rw [h]; exact tw_159, by decide +kernel, Or.inl rfl⟩
theorem fl_X9_220 : FLD RX9 220 2 2 := ⟨_, _, _, rfl, Nat.le_of_ble_eq_true rfl, tw_160⟩
theorem fp_X9_220 {md : MD} (h : md.1.cls = RX9) : FPT md 220 2 2 .int := ⟨_, _, _, rfl, Nat.le_of_ble_eq_true rfl, by rw [h]; exact tw_160, by decide +kernel, Or.inl rfl⟩
theorem fl_X2_21 : FLD RX2 21 2 3 := ⟨_, _, _, rfl, Nat.le_of_ble_eq_true rfl, tw_161⟩
theorem fp_X2_21 {md : MD} (h : md.1.cls = RX2) : FPT md 21 2 3 .int := ⟨_, _, _, rfl, Nat.le_of_ble_eq_true rfl, by rw [h]; exact tw_161, by decide +kernel, Or.inl rfl⟩
theorem fl_X4_137 : FLD RX4 137 2 3 := ⟨_, _, _, rfl, Nat.le_of_ble_eq_true rfl, tw_162⟩
theorem fp_X4_137 {md : MD} (h : md.1.cls = RX4) : FPT md 137 2 3 .int := ⟨_, _, _, rfl, Nat.le_of_ble_eq_true rfl, by rw [h]; exact tw_162, by decide +kernel, Or.inl rfl⟩
theorem fl_X9_223 : FLD RX9 223 2 3 := ⟨_, _, _, rfl, Nat.le_of_ble_eq_true rfl, tw_163⟩
theorem fp_X9_223 {md : MD} (h : md.1.cls = RX9) : FPT md 223 2 3 .int := ⟨_, _, _, rfl, Nat.le_of_ble_eq_true rfl, by rw [h]; exact tw_163, by decide +kernel, Or.inl rfl⟩
theorem fl_X2_24 : FLD RX2 24 2 4 := ⟨_, _, _, rfl, Nat.le_of_ble_eq_true rfl, tw_164⟩
theorem fp_X2_24 {md : MD} (h : md.1.cls = RX2) : FPT md 24 2 4 .int := ⟨_, _, _, rfl, Nat.le_of_ble_eq_true rfl, by rw [h]; exact tw_164, by decide +kernel, Or.inl rfl⟩
theorem fl_X4_140 : FLD RX4 140 2 4 := ⟨_, _, _, rfl, Nat.le_of_ble_eq_true rfl, tw_165⟩
theorem fp_X4_140 {md : MD} (h : md.1.cls = RX4) : FPT md 140 2 4 .int := ⟨_, _, _, rfl, Nat.le_of_ble_eq_true rfl, by rw [h]; exact tw_165, by decide +kernel, Or.inl rfl⟩
theorem fl_X9_226 : FLD RX9 226 2 4 := ⟨_, _, _, rfl, Nat.le_of_ble_eq_true rfl, tw_166⟩
theorem fp_X9_226 {md : MD} (h : md.1.cls = RX9) : FPT md 226 2 4 .int := ⟨_, _, _, rfl, Nat.le_of_ble_eq_true rfl, by rw [h]; exact tw_166, by decide +kernel, Or.inl rfl⟩
theorem fl_X2_27 : FLD RX2 27 2 5 := ⟨_, _, _, rfl, Nat.le_of_ble_eq_true rfl, tw_167⟩
theorem fp_X2_27 {md : MD} (h : md.1.cls = RX2) : FPT md 27 2 5 .int := ⟨_, _, _, rfl, Nat.le_of_ble_eq_true rfl, by rw [h]; exact tw_167, by decide +kernel, Or.inl rfl⟩
theorem fl_X4_143 : FLD RX4 143 2 5 := ⟨_, _, _, rfl, Nat.le_of_ble_eq_true rfl, tw_168⟩
theorem fp_X4_143 {md : MD} (h : md.1.cls = RX4) : FPT md 143 2 5 .int := ⟨_, _, _, rfl, Nat.le_of_ble_eq_true rfl, by rw [h]; exact tw_168, by decide +kernel, Or.inl rfl⟩
theorem fl_X9_229 : FLD RX9 229 2 5 := ⟨_, _, _, rfl, Nat.le_of_ble_eq_true rfl, tw_169⟩
theorem fp_X9_229 {md : MD} (h : md.1.cls = RX9) : FPT md 229 2 5 .int := ⟨_, _, _, rfl, Nat.le_of_ble_eq_true rfl, by rw [h]; exact tw_169, by decide +kernel, Or.inl rfl⟩
theorem fl_X2_30 : FLD RX2 30 2 6 := ⟨_, _, _, rfl, Nat.le_of_ble_eq_true rfl, tw_170⟩
theorem fp_X2_30 {md : MD} (h : md.1.cls = RX2) : FPT md 30 2 6 .int := ⟨_, _, _, rfl, Nat.le_of_ble_eq_true rfl, by rw [h]; exact tw_170, by decide +kernel, Or.inl rfl⟩
theorem fl_X4_146 : FLD RX4 146 2 6 := ⟨_, _, _, rfl, Nat.le_of_ble_eq_true rfl, tw_171⟩
theorem fp_X4_146 {md : MD} (h : md.1.cls = RX4) : FPT md 146 2 6 .int := ⟨_, _, _, rfl, Nat.le_of_ble_eq_true rfl, by rw [h]; exact tw_171, by decide +kernel, Or.inl rfl⟩
theorem fl_X9_242 : FLD RX9 242 2 6 := ⟨_, _, _, rfl, Nat.le_of_ble_eq_true rfl, tw_172⟩
theorem fp_X9_242 {md : MD} (h : md.1.cls = RX9) : FPT md 242 2 6 .int := ⟨_, _, _, rfl, Nat.le_of_ble_eq_true rfl, by rw [h]; exact tw_172, by decide +kernel, Or.inl rfl⟩
theorem fl_X2_33 : FLD RX2 33 2 7 := ⟨_, _, _, rfl, Nat.le_of_ble_eq_true rfl, tw_173⟩
theorem fp_X2_33 {md : MD} (h : md.1.cls = RX2) : FPT md 33 2 7 .int := ⟨_, _, _, rfl, Nat.le_of_ble_eq_true rfl, by rw [h]; exact tw_173, by decide +kernel, Or.inl rfl⟩
theorem fl_X4_149 : FLD RX4 149 2 7 := ⟨_, _, _, rfl, Nat.le_of_ble_eq_true rfl, tw_174⟩
theorem fp_X4_149 {md : MD} (h : md.1.cls = RX4) : FPT md 149 2 7 .int := ⟨_, _, _, rfl, Nat.le_of_ble_eq_true rfl, by rw [h]; exact tw_174, by decide +kernel, Or.inl rfl⟩
theorem fl_X9_232 : FLD RX9 232 2 7 := ⟨_, _, _, rfl, Nat.le_of_ble_eq_true rfl, tw_175⟩
theorem fp_X9_232 {md : MD} (h : md.1.cls = RX9) : FPT md 232 2 7 .int := ⟨_, _, _, rfl, Nat.le_of_ble_eq_true rfl, by rw [h]; exact tw_175, by decide +kernel, Or.inl rfl⟩
theorem fl_X2_36 : FLD RX2 36 2 8 := ⟨_, _, _, rfl, Nat.le_of_ble_eq_true rfl, tw_176⟩
theorem fp_X2_36 {md : MD} (h : md.1.cls = RX2) : FPT md 36 2 8 .int := ⟨_, _, _, rfl, Nat.le_of_ble_eq_true rfl, by rw [h]; exact tw_176, by decide +kernel, Or.inl rfl⟩
theorem fl_X4_152 : FLD RX4 152 2 8 := ⟨_, _, _, rfl, Nat.le_of_ble_eq_true rfl, tw_177⟩
theorem fp_X4_152 {md : MD} (h : md.1.cls = RX4) : FPT md 152 2 8 .int := ⟨_, _, _, rfl, Nat.le_of_ble_eq_true rfl, by rw [h]; exact tw_177, by decide +kernel, Or.inl rfl⟩
theorem fl_X9_235 : FLD RX9 235 2 8 := ⟨_, _, _, rfl, Nat.le_of_ble_eq_true rfl, tw_178⟩
theorem fp_X9_235 {md : MD} (h : md.1.cls = RX9) : FPT md 235 2 8 .int := ⟨_, _, _, rfl, Nat.le_of_ble_eq_true rfl, by rw [h]; exact tw_178, by decide +kernel, Or.inl rfl⟩
theorem fl_X2_39 : FLD RX2 39 2 9 := ⟨_, _, _, rfl, Nat.le_of_ble_eq_true rfl, tw_179⟩
theorem fp_X2_39 {md : MD} (h : md.1.cls = RX2) : FPT md 39 2 9 .int := ⟨_, _, _, rfl, Nat.le_of_ble_eq_true rfl, by rw [h]; exact tw_179, by decide +kernel, Or.inl rfl⟩
theorem fl_X4_155 : FLD RX4 155 2 9 := ⟨_, _, _, rfl, Nat.le_of_ble_eq_true rfl, tw_180⟩
theorem fp_X4_155 {md : MD} (h : md.1.cls = RX4) : FPT md 155 2 9 .int := ⟨_, _, _, rfl, Nat.le_of_ble_eq_true rfl, by rw [h]; exact tw_180, by decide +kernel, Or.inl rfl⟩
theorem fl_X4_11 : FLD RX4 11 4 0 := ⟨_, _, _, rfl, Nat.le_of_ble_eq_true rfl, tw_202⟩
theorem fp_X4_11 {md : MD} (h : md.1.cls = RX4) (hi : md.1.name = "<init>") : FPT md 11 4 0 (.array (.object "ParcelRailway$Station")) := ⟨_, _, _, rfl, Nat.le_of_ble_eq_true rfl, by rw [h]; exact tw_202, by decide +kernel, Or.inr ⟨hi, rfl, h.symm⟩⟩
theorem fl_X9_118 : FLD RX9 118 4 0 := ⟨_, _, _, rfl, Nat.le_of_ble_eq_true rfl, tw_203⟩
theorem fl_X4_19 : FLD RX4 19 4 1 := ⟨_, _, _, rfl, Nat.le_of_ble_eq_true rfl, tw_204⟩
theorem fp_X4_19 {md : MD} (h : md.1.cls = RX4) (hi : md.1.name = "<init>") : FPT md 19 4 1 (.array (.object "ParcelRailway$Track")) := ⟨_, _, _, rfl, Nat.le_of_ble_eq_true rfl, by rw [h]; exact tw_204, by decide +kernel, Or.inr ⟨hi, rfl, h.symm⟩⟩
theorem fl_X9_147 : FLD RX9 147 4 1 := ⟨_, _, _, rfl, Nat.le_of_ble_eq_true rfl, tw_205⟩
theorem fl_X4_25 : FLD RX4 25 4 2 := ⟨_, _, _, rfl, Nat.le_of_ble_eq_true rfl, tw_206⟩
theorem fp_X4_25 {md : MD} (h : md.1.cls = RX4) (hi : md.1.name = "<init>") : FPT md 25 4 2 (.array (.object "ParcelRailway$Train")) := ⟨_, _, _, rfl, Nat.le_of_ble_eq_true rfl, by rw [h]; exact tw_206, by decide +kernel, Or.inr ⟨hi, rfl, h.symm⟩⟩
theorem fl_X9_165 : FLD RX9 165 4 2 := ⟨_, _, _, rfl, Nat.le_of_ble_eq_true rfl, tw_207⟩
theorem fl_X4_31 : FLD RX4 31 4 3 := ⟨_, _, _, rfl, Nat.le_of_ble_eq_true rfl, tw_208⟩
theorem fp_X4_31 {md : MD} (h : md.1.cls = RX4) (hi : md.1.name = "<init>") : FPT md 31 4 3 (.array (.object "ParcelRailway$Parcel")) := ⟨_, _, _, rfl, Nat.le_of_ble_eq_true rfl, by rw [h]; exact tw_208, by decide +kernel, Or.inr ⟨hi, rfl, h.symm⟩⟩
theorem fl_X9_211 : FLD RX9 211 4 3 := ⟨_, _, _, rfl, Nat.le_of_ble_eq_true rfl, tw_209⟩
theorem fl_X4_35 : FLD RX4 35 4 4 := ⟨_, _, _, rfl, Nat.le_of_ble_eq_true rfl, tw_210⟩
theorem fp_X4_35 {md : MD} (h : md.1.cls = RX4) (hi : md.1.name = "<init>") : FPT md 35 4 4 (.array .int) := ⟨_, _, _, rfl, Nat.le_of_ble_eq_true rfl, by rw [h]; exact tw_210, by decide +kernel, Or.inr ⟨hi, rfl, h.symm⟩⟩
theorem fl_X4_58 : FLD RX4 58 4 5 := ⟨_, _, _, rfl, Nat.le_of_ble_eq_true rfl, tw_211⟩
theorem fp_X4_58 {md : MD} (h : md.1.cls = RX4) : FPT md 58 4 5 .int := ⟨_, _, _, rfl, Nat.le_of_ble_eq_true rfl, by rw [h]; exact tw_211, by decide +kernel, Or.inl rfl⟩
theorem fl_X9_97 : FLD RX9 97 4 5 := ⟨_, _, _, rfl, Nat.le_of_ble_eq_true rfl, tw_212⟩
theorem fp_X9_97 {md : MD} (h : md.1.cls = RX9) : FPT md 97 4 5 .int := ⟨_, _, _, rfl, Nat.le_of_ble_eq_true rfl, by rw [h]; exact tw_212, by decide +kernel, Or.inl rfl⟩
theorem fl_X3_157 : FLD RX3 157 4 5 := ⟨_, _, _, rfl, Nat.le_of_ble_eq_true rfl, tw_213⟩
theorem fp_X3_157 {md : MD} (h : md.1.cls = RX3) : FPT md 157 4 5 .int := ⟨_, _, _, rfl, Nat.le_of_ble_eq_true rfl, by rw [h]; exact tw_213, by decide +kernel, Or.inl rfl⟩
theorem fl_X4_62 : FLD RX4 62 4 6 := ⟨_, _, _, rfl, Nat.le_of_ble_eq_true rfl, tw_214⟩
theorem fp_X4_62 {md : MD} (h : md.1.cls = RX4) : FPT md 62 4 6 .int := ⟨_, _, _, rfl, Nat.le_of_ble_eq_true rfl, by rw [h]; exact tw_214, by decide +kernel, Or.inl rfl⟩
theorem fl_X3_160 : FLD RX3 160 4 6 := ⟨_, _, _, rfl, Nat.le_of_ble_eq_true rfl, tw_215⟩
theorem fp_X3_160 {md : MD} (h : md.1.cls = RX3) : FPT md 160 4 6 .int := ⟨_, _, _, rfl, Nat.le_of_ble_eq_true rfl, by rw [h]; exact tw_215, by decide +kernel, Or.inl rfl⟩
theorem fl_X9_106 : FLD RX9 106 4 6 := ⟨_, _, _, rfl, Nat.le_of_ble_eq_true rfl, tw_216⟩
theorem fp_X9_106 {md : MD} (h : md.1.cls = RX9) : FPT md 106 4 6 .int := ⟨_, _, _, rfl, Nat.le_of_ble_eq_true rfl, by rw [h]; exact tw_216, by decide +kernel, Or.inl rfl⟩
theorem fl_X4_65 : FLD RX4 65 4 7 := ⟨_, _, _, rfl, Nat.le_of_ble_eq_true rfl, tw_217⟩
theorem fp_X4_65 {md : MD} (h : md.1.cls = RX4) : FPT md 65 4 7 .int := ⟨_, _, _, rfl, Nat.le_of_ble_eq_true rfl, by rw [h]; exact tw_217, by decide +kernel, Or.inl rfl⟩
theorem fl_X3_163 : FLD RX3 163 4 7 := ⟨_, _, _, rfl, Nat.le_of_ble_eq_true rfl, tw_218⟩
theorem fp_X3_163 {md : MD} (h : md.1.cls = RX3) : FPT md 163 4 7 .int := ⟨_, _, _, rfl, Nat.le_of_ble_eq_true rfl, by rw [h]; exact tw_218, by decide +kernel, Or.inl rfl⟩
theorem fl_X9_109 : FLD RX9 109 4 7 := ⟨_, _, _, rfl, Nat.le_of_ble_eq_true rfl, tw_219⟩
theorem fp_X9_109 {md : MD} (h : md.1.cls = RX9) : FPT md 109 4 7 .int := ⟨_, _, _, rfl, Nat.le_of_ble_eq_true rfl, by rw [h]; exact tw_219, by decide +kernel, Or.inl rfl⟩
theorem fl_X4_68 : FLD RX4 68 4 8 := ⟨_, _, _, rfl, Nat.le_of_ble_eq_true rfl, tw_220⟩
theorem fp_X4_68 {md : MD} (h : md.1.cls = RX4) : FPT md 68 4 8 .int := ⟨_, _, _, rfl, Nat.le_of_ble_eq_true rfl, by rw [h]; exact tw_220, by decide +kernel, Or.inl rfl⟩
theorem fl_X3_166 : FLD RX3 166 4 8 := ⟨_, _, _, rfl, Nat.le_of_ble_eq_true rfl, tw_221⟩
theorem fp_X3_166 {md : MD} (h : md.1.cls = RX3) : FPT md 166 4 8 .int := ⟨_, _, _, rfl, Nat.le_of_ble_eq_true rfl, by rw [h]; exact tw_221, by decide +kernel, Or.inl rfl⟩
theorem fl_X9_112 : FLD RX9 112 4 8 := ⟨_, _, _, rfl, Nat.le_of_ble_eq_true rfl, tw_222⟩
theorem fp_X9_112 {md : MD} (h : md.1.cls = RX9) : FPT md 112 4 8 .int := ⟨_, _, _, rfl, Nat.le_of_ble_eq_true rfl, by rw [h]; exact tw_222, by decide +kernel, Or.inl rfl⟩
theorem fl_X4_71 : FLD RX4 71 4 9 := ⟨_, _, _, rfl, Nat.le_of_ble_eq_true rfl, tw_223⟩
theorem fp_X4_71 {md : MD} (h : md.1.cls = RX4) : FPT md 71 4 9 .int := ⟨_, _, _, rfl, Nat.le_of_ble_eq_true rfl, by rw [h]; exact tw_223, by decide +kernel, Or.inl rfl⟩
theorem fl_X9_103 : FLD RX9 103 4 9 := ⟨_, _, _, rfl, Nat.le_of_ble_eq_true rfl, tw_224⟩
theorem fp_X9_103 {md : MD} (h : md.1.cls = RX9) : FPT md 103 4 9 .int := ⟨_, _, _, rfl, Nat.le_of_ble_eq_true rfl, by rw [h]; exact tw_224, by decide +kernel, Or.inl rfl⟩
theorem fl_X4_74 : FLD RX4 74 4 10 := ⟨_, _, _, rfl, Nat.le_of_ble_eq_true rfl, tw_225⟩
theorem fp_X4_74 {md : MD} (h : md.1.cls = RX4) : FPT md 74 4 10 .int := ⟨_, _, _, rfl, Nat.le_of_ble_eq_true rfl, by rw [h]; exact tw_225, by decide +kernel, Or.inl rfl⟩
theorem fl_X9_255 : FLD RX9 255 4 10 := ⟨_, _, _, rfl, Nat.le_of_ble_eq_true rfl, tw_226⟩
theorem fp_X9_255 {md : MD} (h : md.1.cls = RX9) : FPT md 255 4 10 .int := ⟨_, _, _, rfl, Nat.le_of_ble_eq_true rfl, by rw [h]; exact tw_226, by decide +kernel, Or.inl rfl⟩
theorem fl_X4_77 : FLD RX4 77 4 11 := ⟨_, _, _, rfl, Nat.le_of_ble_eq_true rfl, tw_227⟩
theorem fp_X4_77 {md : MD} (h : md.1.cls = RX4) : FPT md 77 4 11 .int := ⟨_, _, _, rfl, Nat.le_of_ble_eq_true rfl, by rw [h]; exact tw_227, by decide +kernel, Or.inl rfl⟩
theorem fl_X9_258 : FLD RX9 258 4 11 := ⟨_, _, _, rfl, Nat.le_of_ble_eq_true rfl, tw_228⟩
theorem fp_X9_258 {md : MD} (h : md.1.cls = RX9) : FPT md 258 4 11 .int := ⟨_, _, _, rfl, Nat.le_of_ble_eq_true rfl, by rw [h]; exact tw_228, by decide +kernel, Or.inl rfl⟩
theorem fl_X6_9 : FLD RX6 9 6 0 := ⟨_, _, _, rfl, Nat.le_of_ble_eq_true rfl, tw_266⟩
theorem fp_X6_9 {md : MD} (h : md.1.cls = RX6) (hi : md.1.name = "<init>") : FPT md 9 6 0 (.array .byte) := ⟨_, _, _, rfl, Nat.le_of_ble_eq_true rfl, by rw [h]; exact tw_266, by decide +kernel, Or.inr ⟨hi, rfl, h.symm⟩⟩
theorem fl_X6_15 : FLD RX6 15 6 1 := ⟨_, _, _, rfl, Nat.le_of_ble_eq_true rfl, tw_267⟩
theorem fp_X6_15 {md : MD} (h : md.1.cls = RX6) : FPT md 15 6 1 .int := ⟨_, _, _, rfl, Nat.le_of_ble_eq_true rfl, by rw [h]; exact tw_267, by decide +kernel, Or.inl rfl⟩
theorem fl_X9_70 : FLD RX9 70 6 1 := ⟨_, _, _, rfl, Nat.le_of_ble_eq_true rfl, tw_268⟩
theorem fp_X9_70 {md : MD} (h : md.1.cls = RX9) : FPT md 70 6 1 .int := ⟨_, _, _, rfl, Nat.le_of_ble_eq_true rfl, by rw [h]; exact tw_268, by decide +kernel, Or.inl rfl⟩
theorem fl_X3_55 : FLD RX3 55 6 1 := ⟨_, _, _, rfl, Nat.le_of_ble_eq_true rfl, tw_269⟩
theorem fp_X3_55 {md : MD} (h : md.1.cls = RX3) : FPT md 55 6 1 .int := ⟨_, _, _, rfl, Nat.le_of_ble_eq_true rfl, by rw [h]; exact tw_269, by decide +kernel, Or.inl rfl⟩
theorem fl_X3_42 : FLD RX3 42 6 2 := ⟨_, _, _, rfl, Nat.le_of_ble_eq_true rfl, tw_270⟩
theorem fp_X3_42 {md : MD} (h : md.1.cls = RX3) : FPT md 42 6 2 .int := ⟨_, _, _, rfl, Nat.le_of_ble_eq_true rfl, by rw [h]; exact tw_270, by decide +kernel, Or.inl rfl⟩
theorem fl_X6_49 : FLD RX6 49 6 2 := ⟨_, _, _, rfl, Nat.le_of_ble_eq_true rfl, tw_271⟩
theorem fp_X6_49 {md : MD} (h : md.1.cls = RX6) : FPT md 49 6 2 .int := ⟨_, _, _, rfl, Nat.le_of_ble_eq_true rfl, by rw [h]; exact tw_271, by decide +kernel, Or.inl rfl⟩
theorem fl_X3_58 : FLD RX3 58 6 3 := ⟨_, _, _, rfl, Nat.le_of_ble_eq_true rfl, tw_272⟩
theorem fp_X3_58 {md : MD} (h : md.1.cls = RX3) : FPT md 58 6 3 .int := ⟨_, _, _, rfl, Nat.le_of_ble_eq_true rfl, by rw [h]; exact tw_272, by decide +kernel, Or.inl rfl⟩
theorem fl_X6_38 : FLD RX6 38 6 3 := ⟨_, _, _, rfl, Nat.le_of_ble_eq_true rfl, tw_273⟩
theorem fp_X6_38 {md : MD} (h : md.1.cls = RX6) : FPT md 38 6 3 .int := ⟨_, _, _, rfl, Nat.le_of_ble_eq_true rfl, by rw [h]; exact tw_273, by decide +kernel, Or.inl rfl⟩
theorem fl_X6_32 : FLD RX6 32 6 4 := ⟨_, _, _, rfl, Nat.le_of_ble_eq_true rfl, tw_274⟩
theorem fp_X6_32 {md : MD} (h : md.1.cls = RX6) : FPT md 32 6 4 .int := ⟨_, _, _, rfl, Nat.le_of_ble_eq_true rfl, by rw [h]; exact tw_274, by decide +kernel, Or.inl rfl⟩
theorem fl_X3_12 : FLD RX3 12 3 0 := ⟨_, _, _, rfl, Nat.le_of_ble_eq_true rfl, tw_289⟩
theorem fp_X3_12 {md : MD} (h : md.1.cls = RX3) (hi : md.1.name = "<init>") : FPT md 12 3 0 (.object "ParcelRailway$Tokens") := ⟨_, _, _, rfl, Nat.le_of_ble_eq_true rfl, by rw [h]; exact tw_289, by decide +kernel, Or.inr ⟨hi, rfl, h.symm⟩⟩
theorem fl_X9_48 : FLD RX9 48 3 0 := ⟨_, _, _, rfl, Nat.le_of_ble_eq_true rfl, tw_290⟩
theorem fl_X3_21 : FLD RX3 21 3 1 := ⟨_, _, _, rfl, Nat.le_of_ble_eq_true rfl, tw_291⟩
theorem fp_X3_21 {md : MD} (h : md.1.cls = RX3) (hi : md.1.name = "<init>") : FPT md 21 3 1 (.object "ParcelRailway$State") := ⟨_, _, _, rfl, Nat.le_of_ble_eq_true rfl, by rw [h]; exact tw_291, by decide +kernel, Or.inr ⟨hi, rfl, h.symm⟩⟩
theorem fl_X9_63 : FLD RX9 63 3 1 := ⟨_, _, _, rfl, Nat.le_of_ble_eq_true rfl, tw_292⟩
theorem fl_X3_36 : FLD RX3 36 3 2 := ⟨_, _, _, rfl, Nat.le_of_ble_eq_true rfl, tw_293⟩
theorem fp_X3_36 {md : MD} (h : md.1.cls = RX3) : FPT md 36 3 2 .int := ⟨_, _, _, rfl, Nat.le_of_ble_eq_true rfl, by rw [h]; exact tw_293, by decide +kernel, Or.inl rfl⟩
theorem fl_X9_89 : FLD RX9 89 3 2 := ⟨_, _, _, rfl, Nat.le_of_ble_eq_true rfl, tw_294⟩
theorem fp_X9_89 {md : MD} (h : md.1.cls = RX9) : FPT md 89 3 2 .int := ⟨_, _, _, rfl, Nat.le_of_ble_eq_true rfl, by rw [h]; exact tw_294, by decide +kernel, Or.inl rfl⟩
theorem fl_X3_25 : FLD RX3 25 3 3 := ⟨_, _, _, rfl, Nat.le_of_ble_eq_true rfl, tw_295⟩
theorem fp_X3_25 {md : MD} (h : md.1.cls = RX3) : FPT md 25 3 3 .int := ⟨_, _, _, rfl, Nat.le_of_ble_eq_true rfl, by rw [h]; exact tw_295, by decide +kernel, Or.inl rfl⟩
theorem fl_X9_100 : FLD RX9 100 3 3 := ⟨_, _, _, rfl, Nat.le_of_ble_eq_true rfl, tw_296⟩
theorem fp_X9_100 {md : MD} (h : md.1.cls = RX9) : FPT md 100 3 3 .int := ⟨_, _, _, rfl, Nat.le_of_ble_eq_true rfl, by rw [h]; exact tw_296, by decide +kernel, Or.inl rfl⟩
theorem fl_X3_64 : FLD RX3 64 3 4 := ⟨_, _, _, rfl, Nat.le_of_ble_eq_true rfl, tw_297⟩
theorem fp_X3_64 {md : MD} (h : md.1.cls = RX3) : FPT md 64 3 4 .int := ⟨_, _, _, rfl, Nat.le_of_ble_eq_true rfl, by rw [h]; exact tw_297, by decide +kernel, Or.inl rfl⟩
theorem fl_X3_70 : FLD RX3 70 3 5 := ⟨_, _, _, rfl, Nat.le_of_ble_eq_true rfl, tw_298⟩
theorem fp_X3_70 {md : MD} (h : md.1.cls = RX3) : FPT md 70 3 5 .int := ⟨_, _, _, rfl, Nat.le_of_ble_eq_true rfl, by rw [h]; exact tw_298, by decide +kernel, Or.inl rfl⟩
theorem fl_X3_76 : FLD RX3 76 3 6 := ⟨_, _, _, rfl, Nat.le_of_ble_eq_true rfl, tw_299⟩
theorem fp_X3_76 {md : MD} (h : md.1.cls = RX3) : FPT md 76 3 6 .int := ⟨_, _, _, rfl, Nat.le_of_ble_eq_true rfl, by rw [h]; exact tw_299, by decide +kernel, Or.inl rfl⟩
theorem fl_X3_82 : FLD RX3 82 3 7 := ⟨_, _, _, rfl, Nat.le_of_ble_eq_true rfl, tw_300⟩
theorem fp_X3_82 {md : MD} (h : md.1.cls = RX3) : FPT md 82 3 7 .int := ⟨_, _, _, rfl, Nat.le_of_ble_eq_true rfl, by rw [h]; exact tw_300, by decide +kernel, Or.inl rfl⟩
theorem fl_X3_89 : FLD RX3 89 3 8 := ⟨_, _, _, rfl, Nat.le_of_ble_eq_true rfl, tw_301⟩
theorem fp_X3_89 {md : MD} (h : md.1.cls = RX3) : FPT md 89 3 8 .int := ⟨_, _, _, rfl, Nat.le_of_ble_eq_true rfl, by rw [h]; exact tw_301, by decide +kernel, Or.inl rfl⟩
theorem fl_X3_29 : FLD RX3 29 3 9 := ⟨_, _, _, rfl, Nat.le_of_ble_eq_true rfl, tw_302⟩
theorem fp_X3_29 {md : MD} (h : md.1.cls = RX3) (hi : md.1.name = "<init>") : FPT md 29 3 9 (.array .int) := ⟨_, _, _, rfl, Nat.le_of_ble_eq_true rfl, by rw [h]; exact tw_302, by decide +kernel, Or.inr ⟨hi, rfl, h.symm⟩⟩
theorem fl_X3_110 : FLD RX3 110 3 10 := ⟨_, _, _, rfl, Nat.le_of_ble_eq_true rfl, tw_303⟩
theorem fp_X3_110 {md : MD} (h : md.1.cls = RX3) : FPT md 110 3 10 .int := ⟨_, _, _, rfl, Nat.le_of_ble_eq_true rfl, by rw [h]; exact tw_303, by decide +kernel, Or.inl rfl⟩
theorem fl_X0_11 : FLD RX0 11 0 0 := ⟨_, _, _, rfl, Nat.le_of_ble_eq_true rfl, tw_336⟩
theorem fp_X0_11 {md : MD} (h : md.1.cls = RX0) (hi : md.1.name = "<init>") : FPT md 11 0 0 (.array (.object "ParcelRailway$State")) := ⟨_, _, _, rfl, Nat.le_of_ble_eq_true rfl, by rw [h]; exact tw_336, by decide +kernel, Or.inr ⟨hi, rfl, h.symm⟩⟩
theorem fl_X0_18 : FLD RX0 18 0 1 := ⟨_, _, _, rfl, Nat.le_of_ble_eq_true rfl, tw_337⟩
theorem fp_X0_18 {md : MD} (h : md.1.cls = RX0) : FPT md 18 0 1 .int := ⟨_, _, _, rfl, Nat.le_of_ble_eq_true rfl, by rw [h]; exact tw_337, by decide +kernel, Or.inl rfl⟩
theorem fl_X0_26 : FLD RX0 26 0 2 := ⟨_, _, _, rfl, Nat.le_of_ble_eq_true rfl, tw_338⟩
theorem fp_X0_26 {md : MD} (h : md.1.cls = RX0) : FPT md 26 0 2 .int := ⟨_, _, _, rfl, Nat.le_of_ble_eq_true rfl, by rw [h]; exact tw_338, by decide +kernel, Or.inl rfl⟩
theorem fl_X9_326 : FLD RX9 326 0 2 := ⟨_, _, _, rfl, Nat.le_of_ble_eq_true rfl, tw_339⟩
theorem fp_X9_326 {md : MD} (h : md.1.cls = RX9) : FPT md 326 0 2 .int := ⟨_, _, _, rfl, Nat.le_of_ble_eq_true rfl, by rw [h]; exact tw_339, by decide +kernel, Or.inl rfl⟩
theorem fl_X1_9 : FLD RX1 9 1 0 := ⟨_, _, _, rfl, Nat.le_of_ble_eq_true rfl, tw_353⟩
theorem fp_X1_9 {md : MD} (h : md.1.cls = RX1) (hi : md.1.name = "<init>") : FPT md 9 1 0 (.array .byte) := ⟨_, _, _, rfl, Nat.le_of_ble_eq_true rfl, by rw [h]; exact tw_353, by decide +kernel, Or.inr ⟨hi, rfl, h.symm⟩⟩
theorem fl_X9_317 : FLD RX9 317 1 0 := ⟨_, _, _, rfl, Nat.le_of_ble_eq_true rfl, tw_354⟩
theorem fl_X1_15 : FLD RX1 15 1 1 := ⟨_, _, _, rfl, Nat.le_of_ble_eq_true rfl, tw_355⟩
theorem fp_X1_15 {md : MD} (h : md.1.cls = RX1) : FPT md 15 1 1 .int := ⟨_, _, _, rfl, Nat.le_of_ble_eq_true rfl, by rw [h]; exact tw_355, by decide +kernel, Or.inl rfl⟩
theorem fl_X9_303 : FLD RX9 303 1 1 := ⟨_, _, _, rfl, Nat.le_of_ble_eq_true rfl, tw_356⟩
theorem fp_X9_303 {md : MD} (h : md.1.cls = RX9) : FPT md 303 1 1 .int := ⟨_, _, _, rfl, Nat.le_of_ble_eq_true rfl, by rw [h]; exact tw_356, by decide +kernel, Or.inl rfl⟩
theorem fl_X9_10 : FLD RX9 10 9 0 := ⟨_, _, _, rfl, Nat.le_of_ble_eq_true rfl, tw_660⟩
theorem fp_X9_10 {md : MD} (h : md.1.cls = RX9) (hi : md.1.name = "<init>") : FPT md 10 9 0 (.object "ParcelRailway$State") := ⟨_, _, _, rfl, Nat.le_of_ble_eq_true rfl, by rw [h]; exact tw_660, by decide +kernel, Or.inr ⟨hi, rfl, h.symm⟩⟩
theorem fl_X9_16 : FLD RX9 16 9 1 := ⟨_, _, _, rfl, Nat.le_of_ble_eq_true rfl, tw_661⟩
theorem fp_X9_16 {md : MD} (h : md.1.cls = RX9) (hi : md.1.name = "<init>") : FPT md 16 9 1 (.object "ParcelRailway$State") := ⟨_, _, _, rfl, Nat.le_of_ble_eq_true rfl, by rw [h]; exact tw_661, by decide +kernel, Or.inr ⟨hi, rfl, h.symm⟩⟩
theorem fl_X9_22 : FLD RX9 22 9 2 := ⟨_, _, _, rfl, Nat.le_of_ble_eq_true rfl, tw_662⟩
theorem fp_X9_22 {md : MD} (h : md.1.cls = RX9) (hi : md.1.name = "<init>") : FPT md 22 9 2 (.object "ParcelRailway$Parser") := ⟨_, _, _, rfl, Nat.le_of_ble_eq_true rfl, by rw [h]; exact tw_662, by decide +kernel, Or.inr ⟨hi, rfl, h.symm⟩⟩
theorem fl_X9_29 : FLD RX9 29 9 3 := ⟨_, _, _, rfl, Nat.le_of_ble_eq_true rfl, tw_663⟩
theorem fp_X9_29 {md : MD} (h : md.1.cls = RX9) (hi : md.1.name = "<init>") : FPT md 29 9 3 (.object "ParcelRailway$History") := ⟨_, _, _, rfl, Nat.le_of_ble_eq_true rfl, by rw [h]; exact tw_663, by decide +kernel, Or.inr ⟨hi, rfl, h.symm⟩⟩
theorem fl_X9_36 : FLD RX9 36 9 4 := ⟨_, _, _, rfl, Nat.le_of_ble_eq_true rfl, tw_664⟩
theorem fp_X9_36 {md : MD} (h : md.1.cls = RX9) (hi : md.1.name = "<init>") : FPT md 36 9 4 (.object "ParcelRailway$Output") := ⟨_, _, _, rfl, Nat.le_of_ble_eq_true rfl, by rw [h]; exact tw_664, by decide +kernel, Or.inr ⟨hi, rfl, h.symm⟩⟩
theorem fl_X9_40 : FLD RX9 40 9 5 := ⟨_, _, _, rfl, Nat.le_of_ble_eq_true rfl, tw_665⟩
theorem fp_X9_40 {md : MD} (h : md.1.cls = RX9) (hi : md.1.name = "<init>") : FPT md 40 9 5 (.array (.object "ParcelRailway$State")) := ⟨_, _, _, rfl, Nat.le_of_ble_eq_true rfl, by rw [h]; exact tw_665, by decide +kernel, Or.inr ⟨hi, rfl, h.symm⟩⟩
theorem fl_X9_44 : FLD RX9 44 9 6 := ⟨_, _, _, rfl, Nat.le_of_ble_eq_true rfl, tw_666⟩
theorem fp_X9_44 {md : MD} (h : md.1.cls = RX9) (hi : md.1.name = "<init>") : FPT md 44 9 6 (.array .boolean) := ⟨_, _, _, rfl, Nat.le_of_ble_eq_true rfl, by rw [h]; exact tw_666, by decide +kernel, Or.inr ⟨hi, rfl, h.symm⟩⟩
theorem fl_X10_7 : FLD RX10 7 10 0 := ⟨_, _, _, rfl, Nat.le_of_ble_eq_true rfl, tw_1549⟩
theorem fp_X10_7 {md : MD} (h : md.1.cls = RX10) (hi : md.1.name = "<init>") : FPT md 7 10 0 (.array .int) := ⟨_, _, _, rfl, Nat.le_of_ble_eq_true rfl, by rw [h]; exact tw_1549, by decide +kernel, Or.inr ⟨hi, rfl, h.symm⟩⟩
theorem fl_X10_13 : FLD RX10 13 10 1 := ⟨_, _, _, rfl, Nat.le_of_ble_eq_true rfl, tw_1550⟩
theorem fp_X10_13 {md : MD} (h : md.1.cls = RX10) (hi : md.1.name = "<init>") : FPT md 13 10 1 (.array .int) := ⟨_, _, _, rfl, Nat.le_of_ble_eq_true rfl, by rw [h]; exact tw_1550, by decide +kernel, Or.inr ⟨hi, rfl, h.symm⟩⟩
theorem fl_X10_16 : FLD RX10 16 10 2 := ⟨_, _, _, rfl, Nat.le_of_ble_eq_true rfl, tw_1551⟩
theorem fp_X10_16 {md : MD} (h : md.1.cls = RX10) (hi : md.1.name = "<init>") : FPT md 16 10 2 (.array .int) := ⟨_, _, _, rfl, Nat.le_of_ble_eq_true rfl, by rw [h]; exact tw_1551, by decide +kernel, Or.inr ⟨hi, rfl, h.symm⟩⟩
theorem fl_X10_19 : FLD RX10 19 10 3 := ⟨_, _, _, rfl, Nat.le_of_ble_eq_true rfl, tw_1552⟩
theorem fp_X10_19 {md : MD} (h : md.1.cls = RX10) (hi : md.1.name = "<init>") : FPT md 19 10 3 (.array .int) := ⟨_, _, _, rfl, Nat.le_of_ble_eq_true rfl, by rw [h]; exact tw_1552, by decide +kernel, Or.inr ⟨hi, rfl, h.symm⟩⟩
theorem fl_X10_22 : FLD RX10 22 10 4 := ⟨_, _, _, rfl, Nat.le_of_ble_eq_true rfl, tw_1553⟩
theorem fp_X10_22 {md : MD} (h : md.1.cls = RX10) (hi : md.1.name = "<init>") : FPT md 22 10 4 (.array .int) := ⟨_, _, _, rfl, Nat.le_of_ble_eq_true rfl, by rw [h]; exact tw_1553, by decide +kernel, Or.inr ⟨hi, rfl, h.symm⟩⟩
theorem fl_X10_25 : FLD RX10 25 10 5 := ⟨_, _, _, rfl, Nat.le_of_ble_eq_true rfl, tw_1554⟩
theorem fp_X10_25 {md : MD} (h : md.1.cls = RX10) (hi : md.1.name = "<init>") : FPT md 25 10 5 (.array .boolean) := ⟨_, _, _, rfl, Nat.le_of_ble_eq_true rfl, by rw [h]; exact tw_1554, by decide +kernel, Or.inr ⟨hi, rfl, h.symm⟩⟩
theorem fl_X10_280 : FLD RX10 280 10 6 := ⟨_, _, _, rfl, Nat.le_of_ble_eq_true rfl, tw_1555⟩
theorem fp_X10_280 {md : MD} (h : md.1.cls = RX10) : FPT md 280 10 6 .int := ⟨_, _, _, rfl, Nat.le_of_ble_eq_true rfl, by rw [h]; exact tw_1555, by decide +kernel, Or.inl rfl⟩
theorem fl_X10_283 : FLD RX10 283 10 7 := ⟨_, _, _, rfl, Nat.le_of_ble_eq_true rfl, tw_1556⟩
theorem fp_X10_283 {md : MD} (h : md.1.cls = RX10) : FPT md 283 10 7 .int := ⟨_, _, _, rfl, Nat.le_of_ble_eq_true rfl, by rw [h]; exact tw_1556, by decide +kernel, Or.inl rfl⟩
theorem fl_X10_69 : FLD RX10 69 10 8 := ⟨_, _, _, rfl, Nat.le_of_ble_eq_true rfl, tw_1557⟩
theorem fp_X10_69 {md : MD} (h : md.1.cls = RX10) : FPT md 69 10 8 .int := ⟨_, _, _, rfl, Nat.le_of_ble_eq_true rfl, by rw [h]; exact tw_1557, by decide +kernel, Or.inl rfl⟩
theorem fl_X10_29 : FLD RX10 29 10 9 := ⟨_, _, _, rfl, Nat.le_of_ble_eq_true rfl, tw_1558⟩
theorem fp_X10_29 {md : MD} (h : md.1.cls = RX10) (hi : md.1.name = "<init>") : FPT md 29 10 9 (.array .int) := ⟨_, _, _, rfl, Nat.le_of_ble_eq_true rfl, by rw [h]; exact tw_1558, by decide +kernel, Or.inr ⟨hi, rfl, h.symm⟩⟩
theorem fl_X10_32 : FLD RX10 32 10 10 := ⟨_, _, _, rfl, Nat.le_of_ble_eq_true rfl, tw_1559⟩
theorem fp_X10_32 {md : MD} (h : md.1.cls = RX10) (hi : md.1.name = "<init>") : FPT md 32 10 10 (.array .int) := ⟨_, _, _, rfl, Nat.le_of_ble_eq_true rfl, by rw [h]; exact tw_1559, by decide +kernel, Or.inr ⟨hi, rfl, h.symm⟩⟩
theorem fl_X10_52 : FLD RX10 52 10 11 := ⟨_, _, _, rfl, Nat.le_of_ble_eq_true rfl, tw_1560⟩
theorem fp_X10_52 {md : MD} (h : md.1.cls = RX10) : FPT md 52 10 11 .int := ⟨_, _, _, rfl, Nat.le_of_ble_eq_true rfl, by rw [h]; exact tw_1560, by decide +kernel, Or.inl rfl⟩
theorem fl_X10_179 : FLD RX10 179 10 12 := ⟨_, _, _, rfl, Nat.le_of_ble_eq_true rfl, tw_1561⟩
theorem fp_X10_179 {md : MD} (h : md.1.cls = RX10) : FPT md 179 10 12 .int := ⟨_, _, _, rfl, Nat.le_of_ble_eq_true rfl, by rw [h]; exact tw_1561, by decide +kernel, Or.inl rfl⟩
theorem fl_X10_185 : FLD RX10 185 10 13 := ⟨_, _, _, rfl, Nat.le_of_ble_eq_true rfl, tw_1562⟩
theorem fp_X10_185 {md : MD} (h : md.1.cls = RX10) : FPT md 185 10 13 .int := ⟨_, _, _, rfl, Nat.le_of_ble_eq_true rfl, by rw [h]; exact tw_1562, by decide +kernel, Or.inl rfl⟩
theorem fl_X10_194 : FLD RX10 194 10 14 := ⟨_, _, _, rfl, Nat.le_of_ble_eq_true rfl, tw_1563⟩
theorem fp_X10_194 {md : MD} (h : md.1.cls = RX10) : FPT md 194 10 14 .int := ⟨_, _, _, rfl, Nat.le_of_ble_eq_true rfl, by rw [h]; exact tw_1563, by decide +kernel, Or.inl rfl⟩
theorem fl_X10_191 : FLD RX10 191 10 15 := ⟨_, _, _, rfl, Nat.le_of_ble_eq_true rfl, tw_1564⟩
theorem fp_X10_191 {md : MD} (h : md.1.cls = RX10) : FPT md 191 10 15 .int := ⟨_, _, _, rfl, Nat.le_of_ble_eq_true rfl, by rw [h]; exact tw_1564, by decide +kernel, Or.inl rfl⟩
theorem fl_X10_188 : FLD RX10 188 10 16 := ⟨_, _, _, rfl, Nat.le_of_ble_eq_true rfl, tw_1565⟩
theorem fp_X10_188 {md : MD} (h : md.1.cls = RX10) : FPT md 188 10 16 .int := ⟨_, _, _, rfl, Nat.le_of_ble_eq_true rfl, by rw [h]; exact tw_1565, by decide +kernel, Or.inl rfl⟩
theorem fl_X10_176 : FLD RX10 176 10 17 := ⟨_, _, _, rfl, Nat.le_of_ble_eq_true rfl, tw_1566⟩
theorem fp_X10_176 {md : MD} (h : md.1.cls = RX10) : FPT md 176 10 17 .int := ⟨_, _, _, rfl, Nat.le_of_ble_eq_true rfl, by rw [h]; exact tw_1566, by decide +kernel, Or.inl rfl⟩
theorem fl_X10_35 : FLD RX10 35 10 18 := ⟨_, _, _, rfl, Nat.le_of_ble_eq_true rfl, tw_1567⟩
theorem fp_X10_35 {md : MD} (h : md.1.cls = RX10) : FPT md 35 10 18 .int := ⟨_, _, _, rfl, Nat.le_of_ble_eq_true rfl, by rw [h]; exact tw_1567, by decide +kernel, Or.inl rfl⟩
theorem fl_X10_39 : FLD RX10 39 10 19 := ⟨_, _, _, rfl, Nat.le_of_ble_eq_true rfl, tw_1568⟩
theorem fp_X10_39 {md : MD} (h : md.1.cls = RX10) (hi : md.1.name = "<init>") : FPT md 39 10 19 (.array .byte) := ⟨_, _, _, rfl, Nat.le_of_ble_eq_true rfl, by rw [h]; exact tw_1568, by decide +kernel, Or.inr ⟨hi, rfl, h.symm⟩⟩
theorem fl_X10_322 : FLD RX10 322 10 20 := ⟨_, _, _, rfl, Nat.le_of_ble_eq_true rfl, tw_1569⟩
theorem fp_X10_322 {md : MD} (h : md.1.cls = RX10) : FPT md 322 10 20 .int := ⟨_, _, _, rfl, Nat.le_of_ble_eq_true rfl, by rw [h]; exact tw_1569, by decide +kernel, Or.inl rfl⟩
theorem ci_L_166 : CIr RL 166 mX9_init 0 := ⟨mok_X9_init, rfl, rfl, tw_26, tw_27, rfl⟩
theorem ci_X9_9 : CIr RX9 9 mX4_init 0 := ⟨mok_X4_init, rfl, rfl, tw_34, tw_35, rfl⟩
theorem ci_X4_41 : CIr RX4 41 mX8_init 1 := ⟨mok_X8_init, rfl, rfl, tw_97, tw_98, rfl⟩
theorem ci_X4_44 : CIr RX4 44 mX2_init 1 := ⟨mok_X2_init, rfl, rfl, tw_150, tw_151, rfl⟩
theorem ci_X3_20 : CIr RX3 20 mX4_init 0 := ⟨mok_X4_init, rfl, rfl, tw_288, tw_35, rfl⟩
theorem ci_X9_28 : CIr RX9 28 mX0_init 0 := ⟨mok_X0_init, rfl, rfl, tw_329, tw_330, rfl⟩
theorem ci_X0_17 : CIr RX0 17 mX4_init 0 := ⟨mok_X4_init, rfl, rfl, tw_335, tw_35, rfl⟩
theorem cv_X9_54 : CVr RX9 54 mX6_appendText 1 := ⟨mok_X6_appendText, rfl, tw_363, tw_364, tw_365⟩
theorem cv_X6_19 : CVr RX6 19 mX6_appendByte 1 := ⟨mok_X6_appendByte, rfl, tw_415, tw_416, tw_417⟩
theorem cv_X9_60 : CVr RX9 60 mX3_parse 0 := ⟨mok_X3_parse, rfl, tw_419, tw_420, tw_421⟩
theorem cv_X3_33 : CVr RX3 33 mX4_clear 0 := ⟨mok_X4_clear, rfl, tw_423, tw_424, tw_425⟩
theorem cv_X4_80 : CVr RX4 80 mX4_measureDistances 0 := ⟨mok_X4_measureDistances, rfl, tw_427, tw_428, tw_429⟩
theorem cv_X4_162 : CVr RX4 162 mX4_shorten 3 := ⟨mok_X4_shorten, rfl, tw_431, tw_433, tsel_0⟩
theorem cv_X4_166 : CVr RX4 166 mX4_distanceBetween 2 := ⟨mok_X4_distanceBetween, rfl, tw_435, tw_436, tw_437⟩
theorem cv_X3_39 : CVr RX3 39 mX6_begin 0 := ⟨mok_X6_begin, rfl, tw_439, tw_440, tw_441⟩
theorem cv_X6_35 : CVr RX6 35 mX6_advance 0 := ⟨mok_X6_advance, rfl, tw_443, tw_444, tw_445⟩
theorem cv_X6_41 : CVr RX6 41 mX6_byteAt 1 := ⟨mok_X6_byteAt, rfl, tw_447, tw_449, tsel_1⟩
theorem cs_X6_45 : CSr RX6 45 mX6_isBlank 1 := ⟨mok_X6_isBlank, rfl, tw_451, tw_452⟩
theorem cv_X6_52 : CVr RX6 52 mX6_findRunEnd 2 := ⟨mok_X6_findRunEnd, rfl, tw_454, tw_456, tsel_2⟩
theorem cv_X3_45 : CVr RX3 45 mX3_readStatement 0 := ⟨mok_X3_readStatement, rfl, tw_458, tw_460, tsel_3⟩
theorem cv_X3_61 : CVr RX3 61 mX3_takeKeyword 0 := ⟨mok_X3_takeKeyword, rfl, tw_462, tw_464, tsel_4⟩
theorem cv_X3_130 : CVr RX3 130 mX3_findKeyword 0 := ⟨mok_X3_findKeyword, rfl, tw_466, tw_468, tsel_5⟩
theorem cv_X3_139 : CVr RX3 139 mX6_isText 1 := ⟨mok_X6_isText, rfl, tw_471, tw_472, tw_473⟩
theorem cv_X3_95 : CVr RX3 95 mX3_fail 1 := ⟨mok_X3_fail, rfl, tw_482, tw_484, tsel_6⟩
theorem cv_X3_133 : CVr RX3 133 mX3_isFull 1 := ⟨mok_X3_isFull, rfl, tw_486, tw_488, tsel_7⟩
theorem cv_X3_99 : CVr RX3 99 mX6_advance 0 := ⟨mok_X6_advance, rfl, tw_490, tw_444, tw_445⟩
theorem cv_X3_67 : CVr RX3 67 mX3_takeNewName 0 := ⟨mok_X3_takeNewName, rfl, tw_491, tw_493, tsel_8⟩
theorem cv_X3_169 : CVr RX3 169 mX6_packName 0 := ⟨mok_X6_packName, rfl, tw_495, tw_496, tw_497⟩
theorem cv_X3_172 : CVr RX3 172 mX4_findStation 1 := ⟨mok_X4_findStation, rfl, tw_499, tw_500, tw_501⟩
theorem cv_X3_73 : CVr RX3 73 mX3_takeStation 0 := ⟨mok_X3_takeStation, rfl, tw_503, tw_505, tsel_9⟩
theorem cv_X3_179 : CVr RX3 179 mX3_findNamedStation 0 := ⟨mok_X3_findNamedStation, rfl, tw_507, tw_509, tsel_10⟩
theorem cv_X3_79 : CVr RX3 79 mX3_takeSecondStation 0 := ⟨mok_X3_takeSecondStation, rfl, tw_511, tw_513, tsel_11⟩
theorem cv_X3_124 : CVr RX3 124 mX4_findTrack 2 := ⟨mok_X4_findTrack, rfl, tw_515, tw_516, tw_517⟩
theorem cv_X4_158 : CVr RX4 158 mX7_connects 2 := ⟨mok_X7_connects, rfl, tw_519, tw_520, tw_521⟩
theorem cv_X3_85 : CVr RX3 85 mX3_takeNumber 2 := ⟨mok_X3_takeNumber, rfl, tw_523, tw_525, tsel_12⟩
theorem cv_X3_176 : CVr RX3 176 mX6_readNumber 0 := ⟨mok_X6_readNumber, rfl, tw_527, tw_528, tw_529⟩
theorem cv_X3_92 : CVr RX3 92 mX3_takeRoute 0 := ⟨mok_X3_takeRoute, rfl, tw_534, tw_536, tsel_13⟩
theorem cv_X3_48 : CVr RX3 48 mX3_execute 0 := ⟨mok_X3_execute, rfl, tw_538, tw_540, tsel_14⟩
theorem cv_X3_102 : CVr RX3 102 mX4_makeStation 2 := ⟨mok_X4_makeStation, rfl, tw_542, tw_543, tw_544⟩
theorem cv_X3_106 : CVr RX3 106 mX4_makeTrack 3 := ⟨mok_X4_makeTrack, rfl, tw_546, tw_547, tw_548⟩
theorem cv_X3_113 : CVr RX3 113 mX4_makeTrain 3 := ⟨mok_X4_makeTrain, rfl, tw_550, tw_551, tw_552⟩
theorem cv_X3_117 : CVr RX3 117 mX4_makeParcel 3 := ⟨mok_X4_makeParcel, rfl, tw_554, tw_555, tw_556⟩
theorem cv_X3_120 : CVr RX3 120 mX4_setInspectionOf 2 := ⟨mok_X4_setInspectionOf, rfl, tw_558, tw_559, tw_560⟩
theorem cv_X3_127 : CVr RX3 127 mX4_openTrack 2 := ⟨mok_X4_openTrack, rfl, tw_562, tw_563, tw_564⟩
theorem cv_X3_52 : CVr RX3 52 mX4_passMinute 0 := ⟨mok_X4_passMinute, rfl, tw_566, tw_567, tw_568⟩
theorem cv_X4_210 : CVr RX4 210 mX8_isStanding 0 := ⟨mok_X8_isStanding, rfl, tw_570, tw_571, tw_572⟩
theorem cv_X4_213 : CVr RX4 213 mX4_loadTrain 1 := ⟨mok_X4_loadTrain, rfl, tw_574, tw_576, tsel_15⟩
theorem cv_X4_222 : CVr RX4 222 mX4_findNextToLoad 1 := ⟨mok_X4_findNextToLoad, rfl, tw_578, tw_580, tsel_16⟩
theorem cv_X4_170 : CVr RX4 170 mX4_countCarriedBy 1 := ⟨mok_X4_countCarriedBy, rfl, tw_582, tw_583, tw_584⟩
theorem cv_X4_186 : CVr RX4 186 mX8_stationAhead 1 := ⟨mok_X8_stationAhead, rfl, tw_586, tw_587, tw_588⟩
theorem cv_X4_192 : CVr RX4 192 mX2_isReadyAt 2 := ⟨mok_X2_isReadyAt, rfl, tw_590, tw_591, tw_592⟩
theorem cv_X4_182 : CVr RX4 182 mX2_isConsideredBefore 1 := ⟨mok_X2_isConsideredBefore, rfl, tw_594, tw_595, tw_596⟩
theorem cv_X4_195 : CVr RX4 195 mX4_findDrop 2 := ⟨mok_X4_findDrop, rfl, tw_598, tw_599, tw_600⟩
theorem cv_X4_226 : CVr RX4 226 mX2_board 2 := ⟨mok_X2_board, rfl, tw_602, tw_603, tw_604⟩
theorem cv_X4_216 : CVr RX4 216 mX4_depart 1 := ⟨mok_X4_depart, rfl, tw_606, tw_608, tsel_17⟩
theorem cv_X4_230 : CVr RX4 230 mX4_findTrack 2 := ⟨mok_X4_findTrack, rfl, tw_610, tw_516, tw_517⟩
theorem cv_X4_219 : CVr RX4 219 mX4_arrive 1 := ⟨mok_X4_arrive, rfl, tw_611, tw_613, tsel_18⟩
theorem cv_X4_233 : CVr RX4 233 mX8_reachNextStop 0 := ⟨mok_X8_reachNextStop, rfl, tw_615, tw_616, tw_617⟩
theorem cv_X8_52 : CVr RX8 52 mX8_isAtEnd 0 := ⟨mok_X8_isAtEnd, rfl, tw_619, tw_620, tw_621⟩
theorem cv_X4_236 : CVr RX4 236 mX8_isAtEnd 0 := ⟨mok_X8_isAtEnd, rfl, tw_623, tw_620, tw_621⟩
theorem cv_X4_239 : CVr RX4 239 mX4_isDropOf 2 := ⟨mok_X4_isDropOf, rfl, tw_624, tw_626, tsel_19⟩
theorem cv_X4_243 : CVr RX4 243 mX4_unload 2 := ⟨mok_X4_unload, rfl, tw_628, tw_630, tsel_20⟩
theorem cv_X4_247 : CVr RX4 247 mX2_deliver 1 := ⟨mok_X2_deliver, rfl, tw_632, tw_633, tw_634⟩
theorem cv_X4_250 : CVr RX4 250 mX2_transferTo 2 := ⟨mok_X2_transferTo, rfl, tw_636, tw_637, tw_638⟩
theorem cv_X9_66 : CVr RX9 66 mX4_copyFrom 1 := ⟨mok_X4_copyFrom, rfl, tw_640, tw_641, tw_642⟩
theorem cv_X4_45 : CVr RX4 45 mX5_copyFrom 1 := ⟨mok_X5_copyFrom, rfl, tw_644, tw_645, tw_646⟩
theorem cv_X4_49 : CVr RX4 49 mX7_copyFrom 1 := ⟨mok_X7_copyFrom, rfl, tw_648, tw_649, tw_650⟩
theorem cv_X4_52 : CVr RX4 52 mX8_copyFrom 1 := ⟨mok_X8_copyFrom, rfl, tw_652, tw_653, tw_654⟩
theorem cv_X4_55 : CVr RX4 55 mX2_copyFrom 1 := ⟨mok_X2_copyFrom, rfl, tw_656, tw_657, tw_658⟩
theorem cv_L_187 : CVr RL 187 mX9_errorCode 0 := ⟨mok_X9_errorCode, rfl, tw_683, tw_684, tw_685⟩
theorem cv_L_191 : CVr RL 191 mX9_errorPosition 0 := ⟨mok_X9_errorPosition, rfl, tw_687, tw_688, tw_689⟩
theorem cv_L_195 : CVr RL 195 mX9_clock 0 := ⟨mok_X9_clock, rfl, tw_691, tw_692, tw_693⟩
theorem cv_L_199 : CVr RL 199 mX9_stationCount 0 := ⟨mok_X9_stationCount, rfl, tw_695, tw_696, tw_697⟩
theorem cv_L_203 : CVr RL 203 mX9_trackCount 0 := ⟨mok_X9_trackCount, rfl, tw_699, tw_700, tw_701⟩
theorem cv_L_207 : CVr RL 207 mX9_trainCount 0 := ⟨mok_X9_trainCount, rfl, tw_703, tw_704, tw_705⟩
theorem cv_L_211 : CVr RL 211 mX9_parcelCount 0 := ⟨mok_X9_parcelCount, rfl, tw_707, tw_708, tw_709⟩
theorem cv_L_303 : CVr RL 303 mX9_deliveredCount 0 := ⟨mok_X9_deliveredCount, rfl, tw_711, tw_712, tw_713⟩
theorem cv_X9_249 : CVr RX9 249 mX4_countDelivered 0 := ⟨mok_X4_countDelivered, rfl, tw_715, tw_716, tw_717⟩
theorem cv_X4_174 : CVr RX4 174 mX2_isDelivered 0 := ⟨mok_X2_isDelivered, rfl, tw_719, tw_720, tw_721⟩
theorem cv_L_307 : CVr RL 307 mX9_parcelBalance 0 := ⟨mok_X9_parcelBalance, rfl, tw_723, tw_724, tw_725⟩
theorem cv_X9_131 : CVr RX9 131 mX4_countWaitingAt 1 := ⟨mok_X4_countWaitingAt, rfl, tw_727, tw_728, tw_729⟩
theorem cv_X9_252 : CVr RX9 252 mX4_countCarried 0 := ⟨mok_X4_countCarried, rfl, tw_731, tw_732, tw_733⟩
theorem cv_L_311 : CVr RL 311 mX9_loadingBalance 0 := ⟨mok_X9_loadingBalance, rfl, tw_735, tw_736, tw_737⟩
theorem cv_L_315 : CVr RL 315 mX9_meanDeliveryClock 0 := ⟨mok_X9_meanDeliveryClock, rfl, tw_739, tw_740, tw_741⟩
theorem cv_X9_261 : CVr RX9 261 mX4_sumDeliveryClocks 0 := ⟨mok_X4_sumDeliveryClocks, rfl, tw_743, tw_744, tw_745⟩
theorem cv_L_320 : CVr RL 320 mX9_deliveredShare 0 := ⟨mok_X9_deliveredShare, rfl, tw_747, tw_748, tw_749⟩
theorem cv_L_328 : CVr RL 328 mX9_minutesToFinish 0 := ⟨mok_X9_minutesToFinish, rfl, tw_751, tw_752, tw_753⟩
theorem cv_X9_268 : CVr RX9 268 mX4_passMinute 0 := ⟨mok_X4_passMinute, rfl, tw_755, tw_567, tw_568⟩
theorem cv_L_345 : CVr RL 345 mX9_worstClosure 0 := ⟨mok_X9_worstClosure, rfl, tw_756, tw_757, tw_758⟩
theorem cv_X9_284 : CVr RX9 284 mX9_countDeliveredWithout 2 := ⟨mok_X9_countDeliveredWithout, rfl, tw_760, tw_762, tsel_21⟩
theorem cv_X9_294 : CVr RX9 294 mX4_openTrack 2 := ⟨mok_X4_openTrack, rfl, tw_764, tw_563, tw_564⟩
theorem cv_L_368 : CVr RL 368 mX9_writeTrains 0 := ⟨mok_X9_writeTrains, rfl, tw_765, tw_766, tw_767⟩
theorem cv_X9_304 : CVr RX9 304 mX1_put 1 := ⟨mok_X1_put, rfl, tw_769, tw_770, tw_771⟩
theorem cv_X9_307 : CVr RX9 307 mX9_putTrain 1 := ⟨mok_X9_putTrain, rfl, tw_773, tw_775, tsel_22⟩
theorem cv_X9_190 : CVr RX9 190 mX8_stationAhead 1 := ⟨mok_X8_stationAhead, rfl, tw_777, tw_587, tw_588⟩
theorem cv_X9_349 : CVr RX9 349 mX4_nameOf 1 := ⟨mok_X4_nameOf, rfl, tw_778, tw_779, tw_780⟩
theorem cv_X9_352 : CVr RX9 352 mX1_putName 1 := ⟨mok_X1_putName, rfl, tw_782, tw_783, tw_784⟩
theorem cv_X1_19 : CVr RX1 19 mX1_put 1 := ⟨mok_X1_put, rfl, tw_786, tw_770, tw_771⟩
theorem cv_X9_355 : CVr RX9 355 mX8_isStanding 0 := ⟨mok_X8_isStanding, rfl, tw_787, tw_571, tw_572⟩
theorem cv_X9_180 : CVr RX9 180 mX4_countCarriedBy 1 := ⟨mok_X4_countCarriedBy, rfl, tw_788, tw_583, tw_584⟩
theorem cv_L_372 : CVr RL 372 mX9_writeParcels 0 := ⟨mok_X9_writeParcels, rfl, tw_789, tw_790, tw_791⟩
theorem cv_X9_311 : CVr RX9 311 mX9_putParcel 1 := ⟨mok_X9_putParcel, rfl, tw_793, tw_795, tsel_23⟩
theorem cv_X9_264 : CVr RX9 264 mX2_isDelivered 0 := ⟨mok_X2_isDelivered, rfl, tw_797, tw_720, tw_721⟩
theorem cv_L_388 : CVr RL 388 mX9_undoDepth 0 := ⟨mok_X9_undoDepth, rfl, tw_798, tw_799, tw_800⟩
theorem cx_L_170 : CSXr RL 170 mL_appendInput 7 := ⟨mok_L_appendInput, (fun h => by cases h), tw_802, tw_803⟩
theorem cv_L_7 : CVr RL 7 mX9_appendInput 5 := ⟨mok_X9_appendInput, rfl, tw_806, tw_807, tw_808⟩
theorem cv_X9_80 : CVr RX9 80 mX6_appendFourBytes 1 := ⟨mok_X6_appendFourBytes, rfl, tw_878, tw_879, tw_880⟩
theorem cx_L_179 : CSXr RL 179 mL_truncateInput 3 := ⟨mok_L_truncateInput, (fun h => by cases h), tw_882, tw_883⟩
theorem cv_L_15 : CVr RL 15 mX9_truncateInput 1 := ⟨mok_X9_truncateInput, rfl, tw_886, tw_887, tw_888⟩
theorem cx_L_183 : CSXr RL 183 mL_load 2 := ⟨mok_L_load, (fun h => by cases h), tw_906, tw_907⟩
theorem cv_L_21 : CVr RL 21 mX9_load 0 := ⟨mok_X9_load, rfl, tw_909, tw_910, tw_911⟩
theorem cv_X9_94 : CVr RX9 94 mX0_remember 1 := ⟨mok_X0_remember, rfl, tw_914, tw_915, tw_916⟩
theorem cv_X0_22 : CVr RX0 22 mX4_copyFrom 1 := ⟨mok_X4_copyFrom, rfl, tw_918, tw_641, tw_642⟩
theorem cx_L_215 : CSXr RL 215 mL_isRequestStop 3 := ⟨mok_L_isRequestStop, (fun h => by cases h), tw_919, tw_920⟩
theorem cv_L_25 : CVr RL 25 mX9_isRequestStop 1 := ⟨mok_X9_isRequestStop, rfl, tw_923, tw_924, tw_925⟩
theorem cv_X9_115 : CVr RX9 115 mX9_checkStation 1 := ⟨mok_X9_checkStation, rfl, tw_927, tw_929, tsel_25⟩
theorem cx_L_218 : CSXr RL 218 mL_inspectionTime 3 := ⟨mok_L_inspectionTime, (fun h => by cases h), tw_947, tw_948⟩
theorem cv_L_31 : CVr RL 31 mX9_inspectionTime 1 := ⟨mok_X9_inspectionTime, rfl, tw_950, tw_951, tw_952⟩
theorem cx_L_221 : CSXr RL 221 mL_waitingCount 3 := ⟨mok_L_waitingCount, (fun h => by cases h), tw_954, tw_955⟩
theorem cv_L_34 : CVr RL 34 mX9_waitingCount 1 := ⟨mok_X9_waitingCount, rfl, tw_957, tw_958, tw_959⟩
theorem cx_L_224 : CSXr RL 224 mL_waitingParcel 4 := ⟨mok_L_waitingParcel, (fun h => by cases h), tw_961, tw_962⟩
theorem cv_L_37 : CVr RL 37 mX9_waitingParcel 2 := ⟨mok_X9_waitingParcel, rfl, tw_965, tw_966, tw_967⟩
theorem cv_X9_135 : CVr RX9 135 mX4_findWaiting 2 := ⟨mok_X4_findWaiting, rfl, tw_969, tw_970, tw_971⟩
theorem cv_X4_178 : CVr RX4 178 mX4_countWaitingBefore 1 := ⟨mok_X4_countWaitingBefore, rfl, tw_973, tw_975, tsel_26⟩
theorem cx_L_228 : CSXr RL 228 mL_travelTime 4 := ⟨mok_L_travelTime, (fun h => by cases h), tw_993, tw_994⟩
theorem cv_L_43 : CVr RL 43 mX9_travelTime 2 := ⟨mok_X9_travelTime, rfl, tw_996, tw_997, tw_998⟩
theorem cv_X9_144 : CVr RX9 144 mX4_findTrack 2 := ⟨mok_X4_findTrack, rfl, tw_1000, tw_516, tw_517⟩
theorem cx_L_231 : CSXr RL 231 mL_isTrackOpen 4 := ⟨mok_L_isTrackOpen, (fun h => by cases h), tw_1001, tw_1002⟩
theorem cv_L_46 : CVr RL 46 mX9_isTrackOpen 2 := ⟨mok_X9_isTrackOpen, rfl, tw_1004, tw_1005, tw_1006⟩
theorem cx_L_234 : CSXr RL 234 mL_distance 4 := ⟨mok_L_distance, (fun h => by cases h), tw_1008, tw_1009⟩
theorem cv_L_50 : CVr RL 50 mX9_distance 2 := ⟨mok_X9_distance, rfl, tw_1011, tw_1012, tw_1013⟩
theorem cv_X9_159 : CVr RX9 159 mX4_distanceBetween 2 := ⟨mok_X4_distanceBetween, rfl, tw_1015, tw_436, tw_437⟩
theorem cx_L_237 : CSXr RL 237 mL_capacity 3 := ⟨mok_L_capacity, (fun h => by cases h), tw_1016, tw_1017⟩
theorem cv_L_53 : CVr RL 53 mX9_capacity 1 := ⟨mok_X9_capacity, rfl, tw_1019, tw_1020, tw_1021⟩
theorem cv_X9_162 : CVr RX9 162 mX9_checkTrain 1 := ⟨mok_X9_checkTrain, rfl, tw_1023, tw_1025, tsel_27⟩
theorem cx_L_240 : CSXr RL 240 mL_routeLength 3 := ⟨mok_L_routeLength, (fun h => by cases h), tw_1028, tw_1029⟩
theorem cv_L_56 : CVr RL 56 mX9_routeLength 1 := ⟨mok_X9_routeLength, rfl, tw_1031, tw_1032, tw_1033⟩
theorem cx_L_243 : CSXr RL 243 mL_routeStation 4 := ⟨mok_L_routeStation, (fun h => by cases h), tw_1035, tw_1036⟩
theorem cv_L_59 : CVr RL 59 mX9_routeStation 2 := ⟨mok_X9_routeStation, rfl, tw_1038, tw_1039, tw_1040⟩
theorem cv_X9_177 : CVr RX9 177 mX8_stationAt 1 := ⟨mok_X8_stationAt, rfl, tw_1042, tw_1043, tw_1044⟩
theorem cx_L_246 : CSXr RL 246 mL_carriedCount 3 := ⟨mok_L_carriedCount, (fun h => by cases h), tw_1046, tw_1047⟩
theorem cv_L_62 : CVr RL 62 mX9_carriedCount 1 := ⟨mok_X9_carriedCount, rfl, tw_1049, tw_1050, tw_1051⟩
theorem cx_L_249 : CSXr RL 249 mL_carriedParcel 4 := ⟨mok_L_carriedParcel, (fun h => by cases h), tw_1053, tw_1054⟩
theorem cv_L_65 : CVr RL 65 mX9_carriedParcel 2 := ⟨mok_X9_carriedParcel, rfl, tw_1056, tw_1057, tw_1058⟩
theorem cv_X9_183 : CVr RX9 183 mX4_findCarried 2 := ⟨mok_X4_findCarried, rfl, tw_1060, tw_1061, tw_1062⟩
theorem cx_L_252 : CSXr RL 252 mL_trainStation 3 := ⟨mok_L_trainStation, (fun h => by cases h), tw_1064, tw_1065⟩
theorem cv_L_68 : CVr RL 68 mX9_trainStation 1 := ⟨mok_X9_trainStation, rfl, tw_1067, tw_1068, tw_1069⟩
theorem cv_X9_186 : CVr RX9 186 mX8_standsAt 0 := ⟨mok_X8_standsAt, rfl, tw_1071, tw_1072, tw_1073⟩
theorem cv_X8_44 : CVr RX8 44 mX8_isStanding 0 := ⟨mok_X8_isStanding, rfl, tw_1075, tw_571, tw_572⟩
theorem cv_X8_48 : CVr RX8 48 mX8_stationAhead 1 := ⟨mok_X8_stationAhead, rfl, tw_1076, tw_587, tw_588⟩
theorem cx_L_255 : CSXr RL 255 mL_nextStation 3 := ⟨mok_L_nextStation, (fun h => by cases h), tw_1077, tw_1078⟩
theorem cv_L_71 : CVr RL 71 mX9_nextStation 1 := ⟨mok_X9_nextStation, rfl, tw_1080, tw_1081, tw_1082⟩
theorem cx_L_258 : CSXr RL 258 mL_isForward 3 := ⟨mok_L_isForward, (fun h => by cases h), tw_1084, tw_1085⟩
theorem cv_L_74 : CVr RL 74 mX9_isForward 1 := ⟨mok_X9_isForward, rfl, tw_1087, tw_1088, tw_1089⟩
theorem cx_L_261 : CSXr RL 261 mL_minutesToNext 3 := ⟨mok_L_minutesToNext, (fun h => by cases h), tw_1091, tw_1092⟩
theorem cv_L_77 : CVr RL 77 mX9_minutesToNext 1 := ⟨mok_X9_minutesToNext, rfl, tw_1094, tw_1095, tw_1096⟩
theorem cx_L_264 : CSXr RL 264 mL_delay 3 := ⟨mok_L_delay, (fun h => by cases h), tw_1098, tw_1099⟩
theorem cv_L_80 : CVr RL 80 mX9_delay 1 := ⟨mok_X9_delay, rfl, tw_1101, tw_1102, tw_1103⟩
theorem cx_L_267 : CSXr RL 267 mL_stopsMade 3 := ⟨mok_L_stopsMade, (fun h => by cases h), tw_1105, tw_1106⟩
theorem cv_L_83 : CVr RL 83 mX9_stopsMade 1 := ⟨mok_X9_stopsMade, rfl, tw_1108, tw_1109, tw_1110⟩
theorem cx_L_270 : CSXr RL 270 mL_stopsPassed 3 := ⟨mok_L_stopsPassed, (fun h => by cases h), tw_1112, tw_1113⟩
theorem cv_L_86 : CVr RL 86 mX9_stopsPassed 1 := ⟨mok_X9_stopsPassed, rfl, tw_1115, tw_1116, tw_1117⟩
theorem cx_L_273 : CSXr RL 273 mL_origin 3 := ⟨mok_L_origin, (fun h => by cases h), tw_1119, tw_1120⟩
theorem cv_L_89 : CVr RL 89 mX9_origin 1 := ⟨mok_X9_origin, rfl, tw_1122, tw_1123, tw_1124⟩
theorem cv_X9_208 : CVr RX9 208 mX9_checkParcel 1 := ⟨mok_X9_checkParcel, rfl, tw_1126, tw_1128, tsel_28⟩
theorem cx_L_276 : CSXr RL 276 mL_destination 3 := ⟨mok_L_destination, (fun h => by cases h), tw_1131, tw_1132⟩
theorem cv_L_92 : CVr RL 92 mX9_destination 1 := ⟨mok_X9_destination, rfl, tw_1134, tw_1135, tw_1136⟩
theorem cx_L_279 : CSXr RL 279 mL_priority 3 := ⟨mok_L_priority, (fun h => by cases h), tw_1138, tw_1139⟩
theorem cv_L_95 : CVr RL 95 mX9_priority 1 := ⟨mok_X9_priority, rfl, tw_1141, tw_1142, tw_1143⟩
theorem cx_L_282 : CSXr RL 282 mL_parcelStation 3 := ⟨mok_L_parcelStation, (fun h => by cases h), tw_1145, tw_1146⟩
theorem cv_L_98 : CVr RL 98 mX9_parcelStation 1 := ⟨mok_X9_parcelStation, rfl, tw_1148, tw_1149, tw_1150⟩
theorem cx_L_285 : CSXr RL 285 mL_parcelTrain 3 := ⟨mok_L_parcelTrain, (fun h => by cases h), tw_1152, tw_1153⟩
theorem cv_L_101 : CVr RL 101 mX9_parcelTrain 1 := ⟨mok_X9_parcelTrain, rfl, tw_1155, tw_1156, tw_1157⟩
theorem cx_L_288 : CSXr RL 288 mL_dropStation 3 := ⟨mok_L_dropStation, (fun h => by cases h), tw_1159, tw_1160⟩
theorem cv_L_104 : CVr RL 104 mX9_dropStation 1 := ⟨mok_X9_dropStation, rfl, tw_1162, tw_1163, tw_1164⟩
theorem cx_L_291 : CSXr RL 291 mL_transfers 3 := ⟨mok_L_transfers, (fun h => by cases h), tw_1166, tw_1167⟩
theorem cv_L_107 : CVr RL 107 mX9_transfers 1 := ⟨mok_X9_transfers, rfl, tw_1169, tw_1170, tw_1171⟩
theorem cx_L_294 : CSXr RL 294 mL_isHeld 3 := ⟨mok_L_isHeld, (fun h => by cases h), tw_1173, tw_1174⟩
theorem cv_L_110 : CVr RL 110 mX9_isHeld 1 := ⟨mok_X9_isHeld, rfl, tw_1176, tw_1177, tw_1178⟩
theorem cv_X9_238 : CVr RX9 238 mX2_isHeldAt 1 := ⟨mok_X2_isHeldAt, rfl, tw_1180, tw_1181, tw_1182⟩
theorem cx_L_297 : CSXr RL 297 mL_deliveryClock 3 := ⟨mok_L_deliveryClock, (fun h => by cases h), tw_1184, tw_1185⟩
theorem cv_L_113 : CVr RL 113 mX9_deliveryClock 1 := ⟨mok_X9_deliveryClock, rfl, tw_1187, tw_1188, tw_1189⟩
theorem cx_L_300 : CSXr RL 300 mL_loadingObstacle 4 := ⟨mok_L_loadingObstacle, (fun h => by cases h), tw_1191, tw_1192⟩
theorem cv_L_116 : CVr RL 116 mX9_loadingObstacle 2 := ⟨mok_X9_loadingObstacle, rfl, tw_1194, tw_1195, tw_1196⟩
theorem cv_X9_245 : CVr RX9 245 mX4_findObstacle 2 := ⟨mok_X4_findObstacle, rfl, tw_1198, tw_1199, tw_1200⟩
theorem cv_X4_199 : CVr RX4 199 mX8_standsAt 0 := ⟨mok_X8_standsAt, rfl, tw_1202, tw_1072, tw_1073⟩
theorem cv_X4_203 : CVr RX4 203 mX2_isHeldAt 1 := ⟨mok_X2_isHeldAt, rfl, tw_1203, tw_1181, tw_1182⟩
theorem cx_L_325 : CSXr RL 325 mL_minutesToDelivery 3 := ⟨mok_L_minutesToDelivery, (fun h => by cases h), tw_1204, tw_1205⟩
theorem cv_L_119 : CVr RL 119 mX9_minutesToDelivery 1 := ⟨mok_X9_minutesToDelivery, rfl, tw_1207, tw_1208, tw_1209⟩
theorem cx_L_332 : CSXr RL 332 mL_minutesToStop 3 := ⟨mok_L_minutesToStop, (fun h => by cases h), tw_1211, tw_1212⟩
theorem cv_L_122 : CVr RL 122 mX9_minutesToStop 1 := ⟨mok_X9_minutesToStop, rfl, tw_1214, tw_1215, tw_1216⟩
theorem cx_L_335 : CSXr RL 335 mL_trainStationAfter 4 := ⟨mok_L_trainStationAfter, (fun h => by cases h), tw_1218, tw_1219⟩
theorem cv_L_125 : CVr RL 125 mX9_trainStationAfter 2 := ⟨mok_X9_trainStationAfter, rfl, tw_1221, tw_1222, tw_1223⟩
theorem cs_X9_274 : CSr RX9 274 mX9_checkRange 3 := ⟨mok_X9_checkRange, rfl, tw_1225, tw_1226⟩
theorem cv_X9_278 : CVr RX9 278 mX4_passMinutes 1 := ⟨mok_X4_passMinutes, rfl, tw_1229, tw_1230, tw_1231⟩
theorem cv_X4_207 : CVr RX4 207 mX4_passMinute 0 := ⟨mok_X4_passMinute, rfl, tw_1233, tw_567, tw_568⟩
theorem cx_L_338 : CSXr RL 338 mL_deliveredAfter 3 := ⟨mok_L_deliveredAfter, (fun h => by cases h), tw_1234, tw_1235⟩
theorem cv_L_128 : CVr RL 128 mX9_deliveredAfter 1 := ⟨mok_X9_deliveredAfter, rfl, tw_1237, tw_1238, tw_1239⟩
theorem cx_L_341 : CSXr RL 341 mL_deliveredIfClosed 5 := ⟨mok_L_deliveredIfClosed, (fun h => by cases h), tw_1241, tw_1242⟩
theorem cv_L_131 : CVr RL 131 mX9_deliveredIfClosed 3 := ⟨mok_X9_deliveredIfClosed, rfl, tw_1244, tw_1245, tw_1246⟩
theorem cv_X9_281 : CVr RX9 281 mX9_requireTrack 2 := ⟨mok_X9_requireTrack, rfl, tw_1248, tw_1250, tsel_29⟩
theorem cx_L_349 : CSXr RL 349 mL_pass 3 := ⟨mok_L_pass, (fun h => by cases h), tw_1253, tw_1254⟩
theorem cv_L_135 : CVr RL 135 mX9_pass 1 := ⟨mok_X9_pass, rfl, tw_1256, tw_1257, tw_1258⟩
theorem cx_L_352 : CSXr RL 352 mL_addParcel 5 := ⟨mok_L_addParcel, (fun h => by cases h), tw_1260, tw_1261⟩
theorem cv_L_138 : CVr RL 138 mX9_addParcel 3 := ⟨mok_X9_addParcel, rfl, tw_1263, tw_1264, tw_1265⟩
theorem cv_X9_291 : CVr RX9 291 mX4_makeParcel 3 := ⟨mok_X4_makeParcel, rfl, tw_1269, tw_555, tw_556⟩
theorem cx_L_355 : CSXr RL 355 mL_setTrackOpen 5 := ⟨mok_L_setTrackOpen, (fun h => by cases h), tw_1270, tw_1271⟩
theorem cv_L_141 : CVr RL 141 mX9_setTrackOpen 3 := ⟨mok_X9_setTrackOpen, rfl, tw_1273, tw_1274, tw_1275⟩
theorem cx_L_359 : CSXr RL 359 mL_setPriority 4 := ⟨mok_L_setPriority, (fun h => by cases h), tw_1277, tw_1278⟩
theorem cv_L_145 : CVr RL 145 mX9_setPriority 2 := ⟨mok_X9_setPriority, rfl, tw_1280, tw_1281, tw_1282⟩
theorem cx_L_362 : CSXr RL 362 mL_setInspection 4 := ⟨mok_L_setInspection, (fun h => by cases h), tw_1284, tw_1285⟩
theorem cv_L_148 : CVr RL 148 mX9_setInspection 2 := ⟨mok_X9_setInspection, rfl, tw_1287, tw_1288, tw_1289⟩
theorem cx_L_365 : CSXr RL 365 mL_withdraw 3 := ⟨mok_L_withdraw, (fun h => by cases h), tw_1291, tw_1292⟩
theorem cv_L_151 : CVr RL 151 mX9_withdraw 1 := ⟨mok_X9_withdraw, rfl, tw_1294, tw_1295, tw_1296⟩
theorem cv_X9_300 : CVr RX9 300 mX2_returnToSender 1 := ⟨mok_X2_returnToSender, rfl, tw_1299, tw_1300, tw_1301⟩
theorem cv_X2_42 : CVr RX2 42 mX2_deliver 1 := ⟨mok_X2_deliver, rfl, tw_1303, tw_633, tw_634⟩
theorem cx_L_376 : CSXr RL 376 mL_outputByte 3 := ⟨mok_L_outputByte, (fun h => by cases h), tw_1304, tw_1305⟩
theorem cv_L_154 : CVr RL 154 mX9_outputByte 1 := ⟨mok_X9_outputByte, rfl, tw_1307, tw_1308, tw_1309⟩
theorem cx_L_379 : CSXr RL 379 mL_save 3 := ⟨mok_L_save, (fun h => by cases h), tw_1312, tw_1313⟩
theorem cv_L_157 : CVr RL 157 mX9_save 1 := ⟨mok_X9_save, rfl, tw_1315, tw_1316, tw_1317⟩
theorem cs_X9_321 : CSr RX9 321 mX9_checkSlot 1 := ⟨mok_X9_checkSlot, rfl, tw_1319, tw_1320⟩
theorem cx_L_382 : CSXr RL 382 mL_restore 3 := ⟨mok_L_restore, (fun h => by cases h), tw_1323, tw_1324⟩
theorem cv_L_160 : CVr RL 160 mX9_restore 1 := ⟨mok_X9_restore, rfl, tw_1326, tw_1327, tw_1328⟩
theorem cx_L_385 : CSXr RL 385 mL_undo 2 := ⟨mok_L_undo, (fun h => by cases h), tw_1331, tw_1332⟩
theorem cv_L_163 : CVr RL 163 mX9_undo 0 := ⟨mok_X9_undo, rfl, tw_1334, tw_1335, tw_1336⟩
theorem cv_X9_331 : CVr RX9 331 mX0_takeBack 1 := ⟨mok_X0_takeBack, rfl, tw_1339, tw_1340, tw_1341⟩
theorem ci_L_169 : CIr RL 169 mX10_init 0 := ⟨mok_X10_init, rfl, rfl, tw_1345, tw_1346, rfl⟩
theorem cv_X10_45 : CVr RX10 45 mX10_layInput 1 := ⟨mok_X10_layInput, rfl, tw_1350, tw_1352, tsel_30⟩
theorem cv_X10_49 : CVr RX10 49 mX10_read 0 := ⟨mok_X10_read, rfl, tw_1356, tw_1358, tsel_31⟩
theorem cv_X10_198 : CVr RX10 198 mX10_advance 0 := ⟨mok_X10_advance, rfl, tw_1360, tw_1362, tsel_32⟩
theorem cv_X10_182 : CVr RX10 182 mX10_byteAt 1 := ⟨mok_X10_byteAt, rfl, tw_1364, tw_1366, tsel_33⟩
theorem cs_X10_99 : CSr RX10 99 mX10_isBetween 3 := ⟨mok_X10_isBetween, rfl, tw_1368, tw_1369⟩
theorem cv_X10_274 : CVr RX10 274 mX10_readStatement 0 := ⟨mok_X10_readStatement, rfl, tw_1372, tw_1374, tsel_34⟩
theorem cv_X10_235 : CVr RX10 235 mX10_is 1 := ⟨mok_X10_is, rfl, tw_1377, tw_1379, tsel_35⟩
theorem cv_X10_241 : CVr RX10 241 mX10_readStation 1 := ⟨mok_X10_readStation, rfl, tw_1382, tw_1384, tsel_36⟩
theorem cv_X10_201 : CVr RX10 201 mX10_check 2 := ⟨mok_X10_check, rfl, tw_1386, tw_1388, tsel_37⟩
theorem cv_X10_204 : CVr RX10 204 mX10_next 0 := ⟨mok_X10_next, rfl, tw_1390, tw_1392, tsel_38⟩
theorem cv_X10_210 : CVr RX10 210 mX10_named 0 := ⟨mok_X10_named, rfl, tw_1394, tw_1396, tsel_39⟩
theorem cv_X10_207 : CVr RX10 207 mX10_nameHere 0 := ⟨mok_X10_nameHere, rfl, tw_1398, tw_1400, tsel_40⟩
theorem cs_X10_134 : CSr RX10 134 mX10_ofStation 1 := ⟨mok_X10_ofStation, rfl, tw_1402, tw_1403⟩
theorem cv_X10_216 : CVr RX10 216 mX10_finish 0 := ⟨mok_X10_finish, rfl, tw_1405, tw_1407, tsel_41⟩
theorem cv_X10_246 : CVr RX10 246 mX10_readTrack 0 := ⟨mok_X10_readTrack, rfl, tw_1410, tw_1412, tsel_42⟩
theorem cv_X10_219 : CVr RX10 219 mX10_station 0 := ⟨mok_X10_station, rfl, tw_1414, tw_1416, tsel_43⟩
theorem cv_X10_213 : CVr RX10 213 mX10_look 0 := ⟨mok_X10_look, rfl, tw_1418, tw_1420, tsel_44⟩
theorem cs_X10_128 : CSr RX10 128 mX10_between 3 := ⟨mok_X10_between, rfl, tw_1422, tw_1423⟩
theorem cs_X10_72 : CSr RX10 72 mX10_ofTrack 1 := ⟨mok_X10_ofTrack, rfl, tw_1425, tw_1426⟩
theorem cv_X10_222 : CVr RX10 222 mX10_number 2 := ⟨mok_X10_number, rfl, tw_1428, tw_1430, tsel_45⟩
theorem cv_X10_251 : CVr RX10 251 mX10_readTrain 0 := ⟨mok_X10_readTrain, rfl, tw_1433, tw_1435, tsel_46⟩
theorem cs_X10_81 : CSr RX10 81 mX10_ofTrain 1 := ⟨mok_X10_ofTrain, rfl, tw_1437, tw_1438⟩
theorem cv_X10_256 : CVr RX10 256 mX10_readParcel 0 := ⟨mok_X10_readParcel, rfl, tw_1441, tw_1443, tsel_47⟩
theorem cs_X10_226 : CSr RX10 226 mX10_layParcel 4 := ⟨mok_X10_layParcel, rfl, tw_1445, tw_1446⟩
theorem cs_X10_88 : CSr RX10 88 mX10_ofParcel 1 := ⟨mok_X10_ofParcel, rfl, tw_1448, tw_1449⟩
theorem cv_X10_261 : CVr RX10 261 mX10_readInspect 0 := ⟨mok_X10_readInspect, rfl, tw_1452, tw_1454, tsel_48⟩
theorem cv_X10_266 : CVr RX10 266 mX10_readClose 0 := ⟨mok_X10_readClose, rfl, tw_1457, tw_1459, tsel_49⟩
theorem cv_X10_271 : CVr RX10 271 mX10_readRun 0 := ⟨mok_X10_readRun, rfl, tw_1462, tw_1464, tsel_50⟩
theorem cv_X10_230 : CVr RX10 230 mX10_minutes 2 := ⟨mok_X10_minutes, rfl, tw_1466, tw_1468, tsel_51⟩
theorem cv_X10_161 : CVr RX10 161 mX10_minute 1 := ⟨mok_X10_minute, rfl, tw_1470, tw_1472, tsel_52⟩
theorem cv_X10_158 : CVr RX10 158 mX10_act 2 := ⟨mok_X10_act, rfl, tw_1474, tw_1476, tsel_53⟩
theorem cs_X10_149 : CSr RX10 149 mX10_stands 2 := ⟨mok_X10_stands, rfl, tw_1478, tw_1479⟩
theorem cv_X10_152 : CVr RX10 152 mX10_loadAll 2 := ⟨mok_X10_loadAll, rfl, tw_1481, tw_1483, tsel_54⟩
theorem cs_X10_95 : CSr RX10 95 mX10_stationOf 2 := ⟨mok_X10_stationOf, rfl, tw_1485, tw_1486⟩
theorem cs_X10_84 : CSr RX10 84 mX10_routeAt 3 := ⟨mok_X10_routeAt, rfl, tw_1488, tw_1489⟩
theorem cs_X10_116 : CSr RX10 116 mX10_carried 2 := ⟨mok_X10_carried, rfl, tw_1491, tw_1492⟩
theorem cs_X10_122 : CSr RX10 122 mX10_considered 3 := ⟨mok_X10_considered, rfl, tw_1494, tw_1495⟩
theorem cs_X10_102 : CSr RX10 102 mX10_waitsAt 3 := ⟨mok_X10_waitsAt, rfl, tw_1497, tw_1498⟩
theorem cs_X10_106 : CSr RX10 106 mX10_isAhead 3 := ⟨mok_X10_isAhead, rfl, tw_1500, tw_1501⟩
theorem cv_X10_119 : CVr RX10 119 mX10_canLoad 3 := ⟨mok_X10_canLoad, rfl, tw_1503, tw_1505, tsel_55⟩
theorem cs_X10_109 : CSr RX10 109 mX10_isHeldNow 2 := ⟨mok_X10_isHeldNow, rfl, tw_1507, tw_1508⟩
theorem cv_X10_113 : CVr RX10 113 mX10_dropOf 3 := ⟨mok_X10_dropOf, rfl, tw_1510, tw_1512, tsel_56⟩
theorem cv_X10_91 : CVr RX10 91 mX10_measure 2 := ⟨mok_X10_measure, rfl, tw_1514, tw_1516, tsel_57⟩
theorem cv_X10_77 : CVr RX10 77 mX10_shorten 3 := ⟨mok_X10_shorten, rfl, tw_1519, tw_1521, tsel_58⟩
theorem cs_X10_146 : CSr RX10 146 mX10_depart 2 := ⟨mok_X10_depart, rfl, tw_1523, tw_1524⟩
theorem cs_X10_125 : CSr RX10 125 mX10_nextOf 2 := ⟨mok_X10_nextOf, rfl, tw_1526, tw_1527⟩
theorem cs_X10_131 : CSr RX10 131 mX10_isOpen 2 := ⟨mok_X10_isOpen, rfl, tw_1529, tw_1530⟩
theorem cv_X10_155 : CVr RX10 155 mX10_arrive 2 := ⟨mok_X10_arrive, rfl, tw_1532, tw_1534, tsel_59⟩
theorem cs_X10_137 : CSr RX10 137 mX10_hasDropHere 2 := ⟨mok_X10_hasDropHere, rfl, tw_1536, tw_1537⟩
theorem cv_X10_140 : CVr RX10 140 mX10_wouldLoad 2 := ⟨mok_X10_wouldLoad, rfl, tw_1539, tw_1541, tsel_60⟩
theorem cs_X10_143 : CSr RX10 143 mX10_unload 2 := ⟨mok_X10_unload, rfl, tw_1543, tw_1544⟩
theorem cs_X10_55 : CSr RX10 55 mX10_copyRow 4 := ⟨mok_X10_copyRow, rfl, tw_1546, tw_1547⟩
theorem cv_L_176 : CVr RL 176 mX10_thrown 0 := ⟨mok_X10_thrown, rfl, tw_1613, tw_1614, tw_1615⟩
theorem cv_L_175 : CVr RL 175 mX10_appendInput 5 := ⟨mok_X10_appendInput, rfl, tw_1617, tw_1618, tw_1619⟩
theorem cv_X10_165 : CVr RX10 165 mX10_refuses 2 := ⟨mok_X10_refuses, rfl, tw_1621, tw_1623, tsel_61⟩
theorem cv_X10_169 : CVr RX10 169 mX10_appendWord 1 := ⟨mok_X10_appendWord, rfl, tw_1625, tw_1627, tsel_62⟩
theorem cv_L_182 : CVr RL 182 mX10_truncateInput 1 := ⟨mok_X10_truncateInput, rfl, tw_1629, tw_1630, tw_1631⟩
theorem cv_X10_173 : CVr RX10 173 mX10_noNumber 3 := ⟨mok_X10_noNumber, rfl, tw_1633, tw_1635, tsel_63⟩
theorem cv_L_190 : CVr RL 190 mX10_errorCode 0 := ⟨mok_X10_errorCode, rfl, tw_1637, tw_1638, tw_1639⟩
theorem cv_L_194 : CVr RL 194 mX10_errorPosition 0 := ⟨mok_X10_errorPosition, rfl, tw_1641, tw_1642, tw_1643⟩
theorem cv_L_186 : CVr RL 186 mX10_load 0 := ⟨mok_X10_load, rfl, tw_1645, tw_1646, tw_1647⟩
theorem cv_X10_277 : CVr RX10 277 mX10_remember 0 := ⟨mok_X10_remember, rfl, tw_1649, tw_1651, tsel_64⟩
theorem cv_L_387 : CVr RL 387 mX10_undo 0 := ⟨mok_X10_undo, rfl, tw_1653, tw_1654, tw_1655⟩
theorem cv_L_391 : CVr RL 391 mX10_undoDepth 0 := ⟨mok_X10_undoDepth, rfl, tw_1657, tw_1658, tw_1659⟩
theorem cv_L_198 : CVr RL 198 mX10_clock 0 := ⟨mok_X10_clock, rfl, tw_1661, tw_1662, tw_1663⟩
theorem cv_L_202 : CVr RL 202 mX10_stationCount 0 := ⟨mok_X10_stationCount, rfl, tw_1665, tw_1666, tw_1667⟩
theorem cv_L_206 : CVr RL 206 mX10_trackCount 0 := ⟨mok_X10_trackCount, rfl, tw_1669, tw_1670, tw_1671⟩
theorem cv_L_210 : CVr RL 210 mX10_trainCount 0 := ⟨mok_X10_trainCount, rfl, tw_1673, tw_1674, tw_1675⟩
theorem cv_L_214 : CVr RL 214 mX10_parcelCount 0 := ⟨mok_X10_parcelCount, rfl, tw_1677, tw_1678, tw_1679⟩
theorem cv_L_217 : CVr RL 217 mX10_isRequestStop 1 := ⟨mok_X10_isRequestStop, rfl, tw_1681, tw_1682, tw_1683⟩
theorem cv_X10_286 : CVr RX10 286 mX10_noStation 1 := ⟨mok_X10_noStation, rfl, tw_1685, tw_1687, tsel_65⟩
theorem cv_L_220 : CVr RL 220 mX10_inspectionTime 1 := ⟨mok_X10_inspectionTime, rfl, tw_1689, tw_1690, tw_1691⟩
theorem cv_L_223 : CVr RL 223 mX10_waitingCount 1 := ⟨mok_X10_waitingCount, rfl, tw_1693, tw_1694, tw_1695⟩
theorem cs_X10_290 : CSr RX10 290 mX10_waitingAt 2 := ⟨mok_X10_waitingAt, rfl, tw_1697, tw_1698⟩
theorem cv_L_227 : CVr RL 227 mX10_waitingParcel 2 := ⟨mok_X10_waitingParcel, rfl, tw_1700, tw_1701, tw_1702⟩
theorem cv_X10_293 : CVr RX10 293 mX10_out 3 := ⟨mok_X10_out, rfl, tw_1704, tw_1706, tsel_66⟩
theorem cv_L_230 : CVr RL 230 mX10_travelTime 2 := ⟨mok_X10_travelTime, rfl, tw_1708, tw_1709, tw_1710⟩
theorem cv_X10_296 : CVr RX10 296 mX10_noStations 2 := ⟨mok_X10_noStations, rfl, tw_1712, tw_1714, tsel_67⟩
theorem cv_L_233 : CVr RL 233 mX10_isTrackOpen 2 := ⟨mok_X10_isTrackOpen, rfl, tw_1716, tw_1717, tw_1718⟩
theorem cv_L_236 : CVr RL 236 mX10_distance 2 := ⟨mok_X10_distance, rfl, tw_1720, tw_1721, tw_1722⟩
theorem cv_L_239 : CVr RL 239 mX10_capacity 1 := ⟨mok_X10_capacity, rfl, tw_1724, tw_1725, tw_1726⟩
theorem cv_X10_300 : CVr RX10 300 mX10_noTrain 1 := ⟨mok_X10_noTrain, rfl, tw_1728, tw_1730, tsel_68⟩
theorem cv_L_242 : CVr RL 242 mX10_routeLength 1 := ⟨mok_X10_routeLength, rfl, tw_1732, tw_1733, tw_1734⟩
theorem cv_L_245 : CVr RL 245 mX10_routeStation 2 := ⟨mok_X10_routeStation, rfl, tw_1736, tw_1737, tw_1738⟩
theorem cv_L_248 : CVr RL 248 mX10_carriedCount 1 := ⟨mok_X10_carriedCount, rfl, tw_1740, tw_1741, tw_1742⟩
theorem cv_L_251 : CVr RL 251 mX10_carriedParcel 2 := ⟨mok_X10_carriedParcel, rfl, tw_1744, tw_1745, tw_1746⟩
theorem cv_L_254 : CVr RL 254 mX10_trainStation 1 := ⟨mok_X10_trainStation, rfl, tw_1748, tw_1749, tw_1750⟩
theorem cv_L_257 : CVr RL 257 mX10_nextStation 1 := ⟨mok_X10_nextStation, rfl, tw_1752, tw_1753, tw_1754⟩
theorem cv_L_260 : CVr RL 260 mX10_isForward 1 := ⟨mok_X10_isForward, rfl, tw_1756, tw_1757, tw_1758⟩
theorem cv_L_263 : CVr RL 263 mX10_minutesToNext 1 := ⟨mok_X10_minutesToNext, rfl, tw_1760, tw_1761, tw_1762⟩
theorem cv_L_266 : CVr RL 266 mX10_delay 1 := ⟨mok_X10_delay, rfl, tw_1764, tw_1765, tw_1766⟩
theorem cv_L_269 : CVr RL 269 mX10_stopsMade 1 := ⟨mok_X10_stopsMade, rfl, tw_1768, tw_1769, tw_1770⟩
theorem cv_L_272 : CVr RL 272 mX10_stopsPassed 1 := ⟨mok_X10_stopsPassed, rfl, tw_1772, tw_1773, tw_1774⟩
theorem cv_L_275 : CVr RL 275 mX10_origin 1 := ⟨mok_X10_origin, rfl, tw_1776, tw_1777, tw_1778⟩
theorem cv_X10_306 : CVr RX10 306 mX10_ofIt 2 := ⟨mok_X10_ofIt, rfl, tw_1780, tw_1782, tsel_69⟩
theorem cv_X10_303 : CVr RX10 303 mX10_noParcel 1 := ⟨mok_X10_noParcel, rfl, tw_1784, tw_1786, tsel_70⟩
theorem cv_L_278 : CVr RL 278 mX10_destination 1 := ⟨mok_X10_destination, rfl, tw_1788, tw_1789, tw_1790⟩
theorem cv_L_281 : CVr RL 281 mX10_priority 1 := ⟨mok_X10_priority, rfl, tw_1792, tw_1793, tw_1794⟩
theorem cv_L_284 : CVr RL 284 mX10_parcelStation 1 := ⟨mok_X10_parcelStation, rfl, tw_1796, tw_1797, tw_1798⟩
theorem cv_L_287 : CVr RL 287 mX10_parcelTrain 1 := ⟨mok_X10_parcelTrain, rfl, tw_1800, tw_1801, tw_1802⟩
theorem cv_L_290 : CVr RL 290 mX10_dropStation 1 := ⟨mok_X10_dropStation, rfl, tw_1804, tw_1805, tw_1806⟩
theorem cv_L_293 : CVr RL 293 mX10_transfers 1 := ⟨mok_X10_transfers, rfl, tw_1808, tw_1809, tw_1810⟩
theorem cv_L_296 : CVr RL 296 mX10_isHeld 1 := ⟨mok_X10_isHeld, rfl, tw_1812, tw_1813, tw_1814⟩
theorem cv_L_299 : CVr RL 299 mX10_deliveryClock 1 := ⟨mok_X10_deliveryClock, rfl, tw_1816, tw_1817, tw_1818⟩
theorem cv_L_302 : CVr RL 302 mX10_loadingObstacle 2 := ⟨mok_X10_loadingObstacle, rfl, tw_1820, tw_1821, tw_1822⟩
theorem cv_L_306 : CVr RL 306 mX10_deliveredCount 0 := ⟨mok_X10_deliveredCount, rfl, tw_1824, tw_1825, tw_1826⟩
theorem cs_X10_309 : CSr RX10 309 mX10_deliveredIn 1 := ⟨mok_X10_deliveredIn, rfl, tw_1828, tw_1829⟩
theorem cv_L_310 : CVr RL 310 mX10_parcelBalance 0 := ⟨mok_X10_parcelBalance, rfl, tw_1831, tw_1832, tw_1833⟩
theorem cv_L_314 : CVr RL 314 mX10_loadingBalance 0 := ⟨mok_X10_loadingBalance, rfl, tw_1835, tw_1836, tw_1837⟩
theorem cv_L_319 : CVr RL 319 mX10_meanDeliveryClock 0 := ⟨mok_X10_meanDeliveryClock, rfl, tw_1839, tw_1840, tw_1841⟩
theorem cv_L_324 : CVr RL 324 mX10_deliveredShare 0 := ⟨mok_X10_deliveredShare, rfl, tw_1843, tw_1844, tw_1845⟩
theorem cv_L_327 : CVr RL 327 mX10_minutesToDelivery 1 := ⟨mok_X10_minutesToDelivery, rfl, tw_1847, tw_1848, tw_1849⟩
theorem cv_X10_313 : CVr RX10 313 mX10_tries 0 := ⟨mok_X10_tries, rfl, tw_1851, tw_1853, tsel_71⟩
theorem cv_L_331 : CVr RL 331 mX10_minutesToFinish 0 := ⟨mok_X10_minutesToFinish, rfl, tw_1855, tw_1856, tw_1857⟩
theorem cv_L_334 : CVr RL 334 mX10_minutesToStop 1 := ⟨mok_X10_minutesToStop, rfl, tw_1859, tw_1860, tw_1861⟩
theorem cv_L_337 : CVr RL 337 mX10_trainStationAfter 2 := ⟨mok_X10_trainStationAfter, rfl, tw_1863, tw_1864, tw_1865⟩
theorem cv_L_340 : CVr RL 340 mX10_deliveredAfter 1 := ⟨mok_X10_deliveredAfter, rfl, tw_1867, tw_1868, tw_1869⟩
theorem cv_L_344 : CVr RL 344 mX10_deliveredIfClosed 3 := ⟨mok_X10_deliveredIfClosed, rfl, tw_1871, tw_1872, tw_1873⟩
theorem cv_X10_316 : CVr RX10 316 mX10_deliveredWithout 2 := ⟨mok_X10_deliveredWithout, rfl, tw_1875, tw_1877, tsel_72⟩
theorem cv_L_348 : CVr RL 348 mX10_worstClosure 0 := ⟨mok_X10_worstClosure, rfl, tw_1879, tw_1880, tw_1881⟩
theorem cv_L_351 : CVr RL 351 mX10_pass 1 := ⟨mok_X10_pass, rfl, tw_1883, tw_1884, tw_1885⟩
theorem cv_L_354 : CVr RL 354 mX10_addParcel 3 := ⟨mok_X10_addParcel, rfl, tw_1887, tw_1888, tw_1889⟩
theorem cv_L_358 : CVr RL 358 mX10_setTrackOpen 3 := ⟨mok_X10_setTrackOpen, rfl, tw_1891, tw_1892, tw_1893⟩
theorem cv_L_361 : CVr RL 361 mX10_setPriority 2 := ⟨mok_X10_setPriority, rfl, tw_1895, tw_1896, tw_1897⟩
theorem cv_X10_319 : CVr RX10 319 mX10_lay 2 := ⟨mok_X10_lay, rfl, tw_1899, tw_1901, tsel_73⟩
theorem cv_L_364 : CVr RL 364 mX10_setInspection 2 := ⟨mok_X10_setInspection, rfl, tw_1903, tw_1904, tw_1905⟩
theorem cv_L_367 : CVr RL 367 mX10_withdraw 1 := ⟨mok_X10_withdraw, rfl, tw_1907, tw_1908, tw_1909⟩
theorem cv_L_381 : CVr RL 381 mX10_save 1 := ⟨mok_X10_save, rfl, tw_1911, tw_1912, tw_1913⟩
theorem cv_L_384 : CVr RL 384 mX10_restore 1 := ⟨mok_X10_restore, rfl, tw_1915, tw_1916, tw_1917⟩
theorem cv_L_371 : CVr RL 371 mX10_writeTrains 0 := ⟨mok_X10_writeTrains, rfl, tw_1919, tw_1920, tw_1921⟩
theorem cv_X10_331 : CVr RX10 331 mX10_space 0 := ⟨mok_X10_space, rfl, tw_1923, tw_1925, tsel_74⟩
theorem cv_X10_328 : CVr RX10 328 mX10_print 1 := ⟨mok_X10_print, rfl, tw_1927, tw_1929, tsel_75⟩
theorem cv_X10_334 : CVr RX10 334 mX10_printName 1 := ⟨mok_X10_printName, rfl, tw_1931, tw_1933, tsel_76⟩
theorem cs_X10_325 : CSr RX10 325 mX10_letterOf 2 := ⟨mok_X10_letterOf, rfl, tw_1935, tw_1936⟩
theorem cv_L_375 : CVr RL 375 mX10_writeParcels 0 := ⟨mok_X10_writeParcels, rfl, tw_1938, tw_1939, tw_1940⟩
theorem cv_L_378 : CVr RL 378 mX10_outputByte 1 := ⟨mok_X10_outputByte, rfl, tw_1942, tw_1943, tw_1944⟩
theorem cn_X4_39 : CNr RX4 39 mX5_init 0 := ⟨mok_X5_init, rfl, rfl, ⟨"ParcelRailway", by decide +kernel⟩, tw_48, rfl⟩
theorem cn_X4_40 : CNr RX4 40 mX7_init 0 := ⟨mok_X7_init, rfl, rfl, ⟨"ParcelRailway", by decide +kernel⟩, tw_74, rfl⟩
theorem cn_X9_21 : CNr RX9 21 mX3_init 0 := ⟨mok_X3_init, rfl, rfl, ⟨"ParcelRailway", by decide +kernel⟩, tw_257, rfl⟩
theorem cn_X3_11 : CNr RX3 11 mX6_init 0 := ⟨mok_X6_init, rfl, rfl, ⟨"ParcelRailway", by decide +kernel⟩, tw_263, rfl⟩
theorem cn_X9_35 : CNr RX9 35 mX1_init 0 := ⟨mok_X1_init, rfl, rfl, ⟨"ParcelRailway", by decide +kernel⟩, tw_350, rfl⟩
theorem nw_L_8 : NEW RL 8 9 7 [.null, .null, .null, .null, .null, .null, .null] := ⟨_, _, rfl, tw_24, tw_25, tw_1, fun j hj ty hty => by
  have h := hty.symm.trans (tyX9_ok j hj)
  cases h
  match j, hj with
  | 0, _ => rfl
  | 1, _ => rfl
  | 2, _ => rfl
  | 3, _ => rfl
  | 4, _ => rfl
  | 5, _ => rfl
  | 6, _ => rfl
  | n + 7, h => exact absurd h (by omega)⟩
theorem nw_X9_7 : NEW RX9 7 4 12 [.null, .null, .null, .null, .null, .int 0, .int 0, .int 0, .int 0, .int 0, .int 0, .int 0] := ⟨_, _, rfl, tw_32, tw_33, tw_2, fun j hj ty hty => by
  have h := hty.symm.trans (tyX4_ok j hj)
  cases h
  match j, hj with
  | 0, _ => rfl
  | 1, _ => rfl
  | 2, _ => rfl
  | 3, _ => rfl
  | 4, _ => rfl
  | 5, _ => rfl
  | 6, _ => rfl
  | 7, _ => rfl
  | 8, _ => rfl
  | 9, _ => rfl
  | 10, _ => rfl
  | 11, _ => rfl
  | n + 12, h => exact absurd h (by omega)⟩
theorem nw_X4_9 : NEW RX4 9 5 4 [.int 0, .int 0, .int 0, .int 0] := ⟨_, _, rfl, tw_38, tw_46, tw_3, fun j hj ty hty => by
  have h := hty.symm.trans (tyX5_ok j hj)
  cases h
  match j, hj with
  | 0, _ => rfl
  | 1, _ => rfl
  | 2, _ => rfl
  | 3, _ => rfl
  | n + 4, h => exact absurd h (by omega)⟩
theorem nw_X4_17 : NEW RX4 17 7 4 [.int 0, .int 0, .int 0, .int 0] := ⟨_, _, rfl, tw_40, tw_72, tw_4, fun j hj ty hty => by
  have h := hty.symm.trans (tyX7_ok j hj)
  cases h
  match j, hj with
  | 0, _ => rfl
  | 1, _ => rfl
  | 2, _ => rfl
  | 3, _ => rfl
  | n + 4, h => exact absurd h (by omega)⟩
theorem nw_X4_23 : NEW RX4 23 8 10 [.int 0, .int 0, .null, .int 0, .int 0, .int 0, .int 0, .int 0, .int 0, .int 0] := ⟨_, _, rfl, tw_42, tw_96, tw_5, fun j hj ty hty => by
  have h := hty.symm.trans (tyX8_ok j hj)
  cases h
  match j, hj with
  | 0, _ => rfl
  | 1, _ => rfl
  | 2, _ => rfl
  | 3, _ => rfl
  | 4, _ => rfl
  | 5, _ => rfl
  | 6, _ => rfl
  | 7, _ => rfl
  | 8, _ => rfl
  | 9, _ => rfl
  | n + 10, h => exact absurd h (by omega)⟩
theorem nw_X4_29 : NEW RX4 29 2 10 [.int 0, .int 0, .int 0, .int 0, .int 0, .int 0, .int 0, .int 0, .int 0, .int 0] := ⟨_, _, rfl, tw_44, tw_149, tw_6, fun j hj ty hty => by
  have h := hty.symm.trans (tyX2_ok j hj)
  cases h
  match j, hj with
  | 0, _ => rfl
  | 1, _ => rfl
  | 2, _ => rfl
  | 3, _ => rfl
  | 4, _ => rfl
  | 5, _ => rfl
  | 6, _ => rfl
  | 7, _ => rfl
  | 8, _ => rfl
  | 9, _ => rfl
  | n + 10, h => exact absurd h (by omega)⟩
theorem nw_X9_19 : NEW RX9 19 3 11 [.null, .null, .int 0, .int 0, .int 0, .int 0, .int 0, .int 0, .int 0, .null, .int 0] := ⟨_, _, rfl, tw_254, tw_255, tw_7, fun j hj ty hty => by
  have h := hty.symm.trans (tyX3_ok j hj)
  cases h
  match j, hj with
  | 0, _ => rfl
  | 1, _ => rfl
  | 2, _ => rfl
  | 3, _ => rfl
  | 4, _ => rfl
  | 5, _ => rfl
  | 6, _ => rfl
  | 7, _ => rfl
  | 8, _ => rfl
  | 9, _ => rfl
  | 10, _ => rfl
  | n + 11, h => exact absurd h (by omega)⟩
theorem nw_X3_9 : NEW RX3 9 6 5 [.null, .int 0, .int 0, .int 0, .int 0] := ⟨_, _, rfl, tw_260, tw_261, tw_8, fun j hj ty hty => by
  have h := hty.symm.trans (tyX6_ok j hj)
  cases h
  match j, hj with
  | 0, _ => rfl
  | 1, _ => rfl
  | 2, _ => rfl
  | 3, _ => rfl
  | 4, _ => rfl
  | n + 5, h => exact absurd h (by omega)⟩
theorem nw_X3_18 : NEW RX3 18 4 12 [.null, .null, .null, .null, .null, .int 0, .int 0, .int 0, .int 0, .int 0, .int 0, .int 0] := ⟨_, _, rfl, tw_287, tw_33, tw_2, fun j hj ty hty => by
  have h := hty.symm.trans (tyX4_ok j hj)
  cases h
  match j, hj with
  | 0, _ => rfl
  | 1, _ => rfl
  | 2, _ => rfl
  | 3, _ => rfl
  | 4, _ => rfl
  | 5, _ => rfl
  | 6, _ => rfl
  | 7, _ => rfl
  | 8, _ => rfl
  | 9, _ => rfl
  | 10, _ => rfl
  | 11, _ => rfl
  | n + 12, h => exact absurd h (by omega)⟩
theorem nw_X9_26 : NEW RX9 26 0 3 [.null, .int 0, .int 0] := ⟨_, _, rfl, tw_327, tw_328, tw_9, fun j hj ty hty => by
  have h := hty.symm.trans (tyX0_ok j hj)
  cases h
  match j, hj with
  | 0, _ => rfl
  | 1, _ => rfl
  | 2, _ => rfl
  | n + 3, h => exact absurd h (by omega)⟩
theorem nw_X0_9 : NEW RX0 9 4 12 [.null, .null, .null, .null, .null, .int 0, .int 0, .int 0, .int 0, .int 0, .int 0, .int 0] := ⟨_, _, rfl, tw_333, tw_33, tw_2, fun j hj ty hty => by
  have h := hty.symm.trans (tyX4_ok j hj)
  cases h
  match j, hj with
  | 0, _ => rfl
  | 1, _ => rfl
  | 2, _ => rfl
  | 3, _ => rfl
  | 4, _ => rfl
  | 5, _ => rfl
  | 6, _ => rfl
  | 7, _ => rfl
  | 8, _ => rfl
  | 9, _ => rfl
  | 10, _ => rfl
  | 11, _ => rfl
  | n + 12, h => exact absurd h (by omega)⟩
theorem nw_X9_33 : NEW RX9 33 1 2 [.null, .int 0] := ⟨_, _, rfl, tw_347, tw_348, tw_10, fun j hj ty hty => by
  have h := hty.symm.trans (tyX1_ok j hj)
  cases h
  match j, hj with
  | 0, _ => rfl
  | 1, _ => rfl
  | n + 2, h => exact absurd h (by omega)⟩
theorem nw_L_167 : NEW RL 167 10 21 [.null, .null, .null, .null, .null, .null, .int 0, .int 0, .int 0, .null, .null, .int 0, .int 0, .int 0, .int 0, .int 0, .int 0, .int 0, .int 0, .null, .int 0] := ⟨_, _, rfl, tw_1343, tw_1344, tw_16, fun j hj ty hty => by
  have h := hty.symm.trans (tyX10_ok j hj)
  cases h
  match j, hj with
  | 0, _ => rfl
  | 1, _ => rfl
  | 2, _ => rfl
  | 3, _ => rfl
  | 4, _ => rfl
  | 5, _ => rfl
  | 6, _ => rfl
  | 7, _ => rfl
  | 8, _ => rfl
  | 9, _ => rfl
  | 10, _ => rfl
  | 11, _ => rfl
  | 12, _ => rfl
  | 13, _ => rfl
  | 14, _ => rfl
  | 15, _ => rfl
  | 16, _ => rfl
  | 17, _ => rfl
  | 18, _ => rfl
  | 19, _ => rfl
  | 20, _ => rfl
  | n + 21, h => exact absurd h (by omega)⟩
