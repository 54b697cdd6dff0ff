abbrev MX0_size : Mi := (yX0_size, wsX0_size, cX0_size, RX0, 1, some .int, { frames := 0, cells := 0, slots := 0, locals := 0 })
theorem hdX0_size : (yX0_size).cls = RX0 ∧ (yX0_size).cls ≠ "java/lang/invoke/MethodHandle" ∧ (yX0_size).cls ≠ "java/lang/invoke/VarHandle" ∧ (parseMethodDescriptor (yX0_size).desc).map (fun d => d.parameters.length) = some 0 := by decide +kernel
theorem inX0_size : ∀ w ∈ u_ws RX0 TX0 2, w ∈ wsX0_size := by decide +kernel
theorem lkX0_size_17 : Cond.fieldLink RX0 17 "MudBoards$Acts" "size" "I" ∈ wsX0_size := by decide +kernel
abbrev MX0_forgetAll : Mi := (yX0_forgetAll, wsX0_forgetAll, cX0_forgetAll, RX0, 1, none, { frames := 0, cells := 0, slots := 0, locals := 0 })
theorem hdX0_forgetAll : (yX0_forgetAll).cls = RX0 ∧ (yX0_forgetAll).cls ≠ "java/lang/invoke/MethodHandle" ∧ (yX0_forgetAll).cls ≠ "java/lang/invoke/VarHandle" ∧ (parseMethodDescriptor (yX0_forgetAll).desc).map (fun d => d.parameters.length) = some 0 := by decide +kernel
theorem inX0_forgetAll : ∀ w ∈ u_ws RX0 TX0 2, w ∈ wsX0_forgetAll := by decide +kernel
theorem lkX0_forgetAll_17 : Cond.fieldLink RX0 17 "MudBoards$Acts" "size" "I" ∈ wsX0_forgetAll := by decide +kernel
abbrev MX0_remember : Mi := (yX0_remember, wsX0_remember, cX0_remember, RX0, 2, none, { frames := 2, cells := 0, slots := 0, locals := 44 })
theorem hdX0_remember : (yX0_remember).cls = RX0 ∧ (yX0_remember).cls ≠ "java/lang/invoke/MethodHandle" ∧ (yX0_remember).cls ≠ "java/lang/invoke/VarHandle" ∧ (parseMethodDescriptor (yX0_remember).desc).map (fun d => d.parameters.length) = some 1 := by decide +kernel
theorem inX0_remember : ∀ w ∈ u_ws RX0 TX0 2, w ∈ wsX0_remember := by decide +kernel
theorem lkX0_remember_11 : Cond.fieldLink RX0 11 "MudBoards$Acts" "rows" "[I" ∈ wsX0_remember := by decide +kernel
theorem lkX0_remember_17 : Cond.fieldLink RX0 17 "MudBoards$Acts" "size" "I" ∈ wsX0_remember := by decide +kernel
abbrev MX0_takeBack : Mi := (yX0_takeBack, wsX0_takeBack, cX0_takeBack, RX0, 2, none, { frames := 2, cells := 0, slots := 0, locals := 44 })
theorem hdX0_takeBack : (yX0_takeBack).cls = RX0 ∧ (yX0_takeBack).cls ≠ "java/lang/invoke/MethodHandle" ∧ (yX0_takeBack).cls ≠ "java/lang/invoke/VarHandle" ∧ (parseMethodDescriptor (yX0_takeBack).desc).map (fun d => d.parameters.length) = some 1 := by decide +kernel
theorem inX0_takeBack : ∀ w ∈ u_ws RX0 TX0 2, w ∈ wsX0_takeBack := by decide +kernel
theorem lkX0_takeBack_11 : Cond.fieldLink RX0 11 "MudBoards$Acts" "rows" "[I" ∈ wsX0_takeBack := by decide +kernel
theorem lkX0_takeBack_17 : Cond.fieldLink RX0 17 "MudBoards$Acts" "size" "I" ∈ wsX0_takeBack := by decide +kernel
abbrev MX1_readFrom : Mi := (yX1_readFrom, wsX1_readFrom, cX1_readFrom, RX1, 4, none, { frames := 3, cells := 0, slots := 0, locals := 65 })
theorem hdX1_readFrom : (yX1_readFrom).cls = RX1 ∧ (yX1_readFrom).cls ≠ "java/lang/invoke/MethodHandle" ∧ (yX1_readFrom).cls ≠ "java/lang/invoke/VarHandle" ∧ (parseMethodDescriptor (yX1_readFrom).desc).map (fun d => d.parameters.length) = some 1 := by decide +kernel
theorem inX1_readFrom : ∀ w ∈ u_ws RX1 TX1 10, w ∈ wsX1_readFrom := by decide +kernel
theorem lkX1_readFrom_9 : Cond.fieldLink RX1 9 "MudBoards$Flat" "heights" "[I" ∈ wsX1_readFrom := by decide +kernel
theorem lkX1_readFrom_33 : Cond.fieldLink RX1 33 "MudBoards$Flat" "tideCount" "I" ∈ wsX1_readFrom := by decide +kernel
theorem lkX1_readFrom_37 : Cond.fieldLink RX1 37 "MudBoards$Flat" "findCount" "I" ∈ wsX1_readFrom := by decide +kernel
theorem lkX1_readFrom_40 : Cond.fieldLink RX1 40 "MudBoards$Flat" "larkCount" "I" ∈ wsX1_readFrom := by decide +kernel
abbrev MX1_addTide : Mi := (yX1_addTide, wsX1_addTide, cX1_addTide, RX1, 3, none, { frames := 2, cells := 0, slots := 0, locals := 43 })
theorem hdX1_addTide : (yX1_addTide).cls = RX1 ∧ (yX1_addTide).cls ≠ "java/lang/invoke/MethodHandle" ∧ (yX1_addTide).cls ≠ "java/lang/invoke/VarHandle" ∧ (parseMethodDescriptor (yX1_addTide).desc).map (fun d => d.parameters.length) = some 2 := by decide +kernel
theorem inX1_addTide : ∀ w ∈ u_ws RX1 TX1 10, w ∈ wsX1_addTide := by decide +kernel
theorem lkX1_addTide_15 : Cond.fieldLink RX1 15 "MudBoards$Flat" "tides" "[I" ∈ wsX1_addTide := by decide +kernel
theorem lkX1_addTide_33 : Cond.fieldLink RX1 33 "MudBoards$Flat" "tideCount" "I" ∈ wsX1_addTide := by decide +kernel
theorem stX1_addTide_X8_within : Cond.static yX8_within ∈ wsX1_addTide := by decide +kernel
theorem iniX1_addTide_X8_within : Cond.initialized RX8 ∈ wsX1_addTide := by decide +kernel
abbrev MX1_addFind : Mi := (yX1_addFind, wsX1_addFind, cX1_addFind, RX1, 3, none, { frames := 2, cells := 0, slots := 0, locals := 43 })
theorem hdX1_addFind : (yX1_addFind).cls = RX1 ∧ (yX1_addFind).cls ≠ "java/lang/invoke/MethodHandle" ∧ (yX1_addFind).cls ≠ "java/lang/invoke/VarHandle" ∧ (parseMethodDescriptor (yX1_addFind).desc).map (fun d => d.parameters.length) = some 2 := by decide +kernel
theorem inX1_addFind : ∀ w ∈ u_ws RX1 TX1 10, w ∈ wsX1_addFind := by decide +kernel
theorem lkX1_addFind_18 : Cond.fieldLink RX1 18 "MudBoards$Flat" "findCells" "[I" ∈ wsX1_addFind := by decide +kernel
theorem lkX1_addFind_21 : Cond.fieldLink RX1 21 "MudBoards$Flat" "ages" "[I" ∈ wsX1_addFind := by decide +kernel
theorem lkX1_addFind_24 : Cond.fieldLink RX1 24 "MudBoards$Flat" "kinds" "[I" ∈ wsX1_addFind := by decide +kernel
theorem lkX1_addFind_37 : Cond.fieldLink RX1 37 "MudBoards$Flat" "findCount" "I" ∈ wsX1_addFind := by decide +kernel
theorem stX1_addFind_X8_within : Cond.static yX8_within ∈ wsX1_addFind := by decide +kernel
theorem iniX1_addFind_X8_within : Cond.initialized RX8 ∈ wsX1_addFind := by decide +kernel
abbrev MX1_addLark : Mi := (yX1_addLark, wsX1_addLark, cX1_addLark, RX1, 3, none, { frames := 2, cells := 0, slots := 0, locals := 43 })
theorem hdX1_addLark : (yX1_addLark).cls = RX1 ∧ (yX1_addLark).cls ≠ "java/lang/invoke/MethodHandle" ∧ (yX1_addLark).cls ≠ "java/lang/invoke/VarHandle" ∧ (parseMethodDescriptor (yX1_addLark).desc).map (fun d => d.parameters.length) = some 2 := by decide +kernel
theorem inX1_addLark : ∀ w ∈ u_ws RX1 TX1 10, w ∈ wsX1_addLark := by decide +kernel
theorem lkX1_addLark_27 : Cond.fieldLink RX1 27 "MudBoards$Flat" "larkCells" "[I" ∈ wsX1_addLark := by decide +kernel
theorem lkX1_addLark_30 : Cond.fieldLink RX1 30 "MudBoards$Flat" "boards" "[I" ∈ wsX1_addLark := by decide +kernel
theorem lkX1_addLark_40 : Cond.fieldLink RX1 40 "MudBoards$Flat" "larkCount" "I" ∈ wsX1_addLark := by decide +kernel
theorem stX1_addLark_X8_within : Cond.static yX8_within ∈ wsX1_addLark := by decide +kernel
theorem iniX1_addLark_X8_within : Cond.initialized RX8 ∈ wsX1_addLark := by decide +kernel
abbrev MX1_tideCount : Mi := (yX1_tideCount, wsX1_tideCount, cX1_tideCount, RX1, 1, some .int, { frames := 0, cells := 0, slots := 0, locals := 0 })
theorem hdX1_tideCount : (yX1_tideCount).cls = RX1 ∧ (yX1_tideCount).cls ≠ "java/lang/invoke/MethodHandle" ∧ (yX1_tideCount).cls ≠ "java/lang/invoke/VarHandle" ∧ (parseMethodDescriptor (yX1_tideCount).desc).map (fun d => d.parameters.length) = some 0 := by decide +kernel
theorem inX1_tideCount : ∀ w ∈ u_ws RX1 TX1 10, w ∈ wsX1_tideCount := by decide +kernel
theorem lkX1_tideCount_33 : Cond.fieldLink RX1 33 "MudBoards$Flat" "tideCount" "I" ∈ wsX1_tideCount := by decide +kernel
abbrev MX1_findCount : Mi := (yX1_findCount, wsX1_findCount, cX1_findCount, RX1, 1, some .int, { frames := 0, cells := 0, slots := 0, locals := 0 })
theorem hdX1_findCount : (yX1_findCount).cls = RX1 ∧ (yX1_findCount).cls ≠ "java/lang/invoke/MethodHandle" ∧ (yX1_findCount).cls ≠ "java/lang/invoke/VarHandle" ∧ (parseMethodDescriptor (yX1_findCount).desc).map (fun d => d.parameters.length) = some 0 := by decide +kernel
theorem inX1_findCount : ∀ w ∈ u_ws RX1 TX1 10, w ∈ wsX1_findCount := by decide +kernel
theorem lkX1_findCount_37 : Cond.fieldLink RX1 37 "MudBoards$Flat" "findCount" "I" ∈ wsX1_findCount := by decide +kernel
abbrev MX1_larkCount : Mi := (yX1_larkCount, wsX1_larkCount, cX1_larkCount, RX1, 1, some .int, { frames := 0, cells := 0, slots := 0, locals := 0 })
theorem hdX1_larkCount : (yX1_larkCount).cls = RX1 ∧ (yX1_larkCount).cls ≠ "java/lang/invoke/MethodHandle" ∧ (yX1_larkCount).cls ≠ "java/lang/invoke/VarHandle" ∧ (parseMethodDescriptor (yX1_larkCount).desc).map (fun d => d.parameters.length) = some 0 := by decide +kernel
theorem inX1_larkCount : ∀ w ∈ u_ws RX1 TX1 10, w ∈ wsX1_larkCount := by decide +kernel
theorem lkX1_larkCount_40 : Cond.fieldLink RX1 40 "MudBoards$Flat" "larkCount" "I" ∈ wsX1_larkCount := by decide +kernel
abbrev MX1_isFind : Mi := (yX1_isFind, wsX1_isFind, cX1_isFind, RX1, 2, some .boolean, { frames := 0, cells := 0, slots := 0, locals := 0 })
theorem hdX1_isFind : (yX1_isFind).cls = RX1 ∧ (yX1_isFind).cls ≠ "java/lang/invoke/MethodHandle" ∧ (yX1_isFind).cls ≠ "java/lang/invoke/VarHandle" ∧ (parseMethodDescriptor (yX1_isFind).desc).map (fun d => d.parameters.length) = some 1 := by decide +kernel
theorem inX1_isFind : ∀ w ∈ u_ws RX1 TX1 10, w ∈ wsX1_isFind := by decide +kernel
theorem lkX1_isFind_37 : Cond.fieldLink RX1 37 "MudBoards$Flat" "findCount" "I" ∈ wsX1_isFind := by decide +kernel
abbrev MX1_isLark : Mi := (yX1_isLark, wsX1_isLark, cX1_isLark, RX1, 2, some .boolean, { frames := 0, cells := 0, slots := 0, locals := 0 })
theorem hdX1_isLark : (yX1_isLark).cls = RX1 ∧ (yX1_isLark).cls ≠ "java/lang/invoke/MethodHandle" ∧ (yX1_isLark).cls ≠ "java/lang/invoke/VarHandle" ∧ (parseMethodDescriptor (yX1_isLark).desc).map (fun d => d.parameters.length) = some 1 := by decide +kernel
theorem inX1_isLark : ∀ w ∈ u_ws RX1 TX1 10, w ∈ wsX1_isLark := by decide +kernel
theorem lkX1_isLark_40 : Cond.fieldLink RX1 40 "MudBoards$Flat" "larkCount" "I" ∈ wsX1_isLark := by decide +kernel
abbrev MX1_height : Mi := (yX1_height, wsX1_height, cX1_height, RX1, 2, some .int, { frames := 0, cells := 0, slots := 0, locals := 0 })
theorem hdX1_height : (yX1_height).cls = RX1 ∧ (yX1_height).cls ≠ "java/lang/invoke/MethodHandle" ∧ (yX1_height).cls ≠ "java/lang/invoke/VarHandle" ∧ (parseMethodDescriptor (yX1_height).desc).map (fun d => d.parameters.length) = some 1 := by decide +kernel
theorem inX1_height : ∀ w ∈ u_ws RX1 TX1 10, w ∈ wsX1_height := by decide +kernel
theorem lkX1_height_9 : Cond.fieldLink RX1 9 "MudBoards$Flat" "heights" "[I" ∈ wsX1_height := by decide +kernel
abbrev MX1_toldCellOfFind : Mi := (yX1_toldCellOfFind, wsX1_toldCellOfFind, cX1_toldCellOfFind, RX1, 2, some .int, { frames := 1, cells := 0, slots := 0, locals := 21 })
theorem hdX1_toldCellOfFind : (yX1_toldCellOfFind).cls = RX1 ∧ (yX1_toldCellOfFind).cls ≠ "java/lang/invoke/MethodHandle" ∧ (yX1_toldCellOfFind).cls ≠ "java/lang/invoke/VarHandle" ∧ (parseMethodDescriptor (yX1_toldCellOfFind).desc).map (fun d => d.parameters.length) = some 1 := by decide +kernel
theorem inX1_toldCellOfFind : ∀ w ∈ u_ws RX1 TX1 10, w ∈ wsX1_toldCellOfFind := by decide +kernel
theorem lkX1_toldCellOfFind_18 : Cond.fieldLink RX1 18 "MudBoards$Flat" "findCells" "[I" ∈ wsX1_toldCellOfFind := by decide +kernel
abbrev MX1_toldCellOfLark : Mi := (yX1_toldCellOfLark, wsX1_toldCellOfLark, cX1_toldCellOfLark, RX1, 2, some .int, { frames := 1, cells := 0, slots := 0, locals := 21 })
theorem hdX1_toldCellOfLark : (yX1_toldCellOfLark).cls = RX1 ∧ (yX1_toldCellOfLark).cls ≠ "java/lang/invoke/MethodHandle" ∧ (yX1_toldCellOfLark).cls ≠ "java/lang/invoke/VarHandle" ∧ (parseMethodDescriptor (yX1_toldCellOfLark).desc).map (fun d => d.parameters.length) = some 1 := by decide +kernel
theorem inX1_toldCellOfLark : ∀ w ∈ u_ws RX1 TX1 10, w ∈ wsX1_toldCellOfLark := by decide +kernel
theorem lkX1_toldCellOfLark_27 : Cond.fieldLink RX1 27 "MudBoards$Flat" "larkCells" "[I" ∈ wsX1_toldCellOfLark := by decide +kernel
abbrev MX1_age : Mi := (yX1_age, wsX1_age, cX1_age, RX1, 2, some .int, { frames := 1, cells := 0, slots := 0, locals := 21 })
theorem hdX1_age : (yX1_age).cls = RX1 ∧ (yX1_age).cls ≠ "java/lang/invoke/MethodHandle" ∧ (yX1_age).cls ≠ "java/lang/invoke/VarHandle" ∧ (parseMethodDescriptor (yX1_age).desc).map (fun d => d.parameters.length) = some 1 := by decide +kernel
theorem inX1_age : ∀ w ∈ u_ws RX1 TX1 10, w ∈ wsX1_age := by decide +kernel
theorem lkX1_age_21 : Cond.fieldLink RX1 21 "MudBoards$Flat" "ages" "[I" ∈ wsX1_age := by decide +kernel
abbrev MX1_kind : Mi := (yX1_kind, wsX1_kind, cX1_kind, RX1, 2, some .int, { frames := 1, cells := 0, slots := 0, locals := 21 })
theorem hdX1_kind : (yX1_kind).cls = RX1 ∧ (yX1_kind).cls ≠ "java/lang/invoke/MethodHandle" ∧ (yX1_kind).cls ≠ "java/lang/invoke/VarHandle" ∧ (parseMethodDescriptor (yX1_kind).desc).map (fun d => d.parameters.length) = some 1 := by decide +kernel
theorem inX1_kind : ∀ w ∈ u_ws RX1 TX1 10, w ∈ wsX1_kind := by decide +kernel
theorem lkX1_kind_24 : Cond.fieldLink RX1 24 "MudBoards$Flat" "kinds" "[I" ∈ wsX1_kind := by decide +kernel
abbrev MX1_board : Mi := (yX1_board, wsX1_board, cX1_board, RX1, 2, some .int, { frames := 1, cells := 0, slots := 0, locals := 21 })
theorem hdX1_board : (yX1_board).cls = RX1 ∧ (yX1_board).cls ≠ "java/lang/invoke/MethodHandle" ∧ (yX1_board).cls ≠ "java/lang/invoke/VarHandle" ∧ (parseMethodDescriptor (yX1_board).desc).map (fun d => d.parameters.length) = some 1 := by decide +kernel
theorem inX1_board : ∀ w ∈ u_ws RX1 TX1 10, w ∈ wsX1_board := by decide +kernel
theorem lkX1_board_30 : Cond.fieldLink RX1 30 "MudBoards$Flat" "boards" "[I" ∈ wsX1_board := by decide +kernel
abbrev MX1_waterIn : Mi := (yX1_waterIn, wsX1_waterIn, cX1_waterIn, RX1, 2, some .int, { frames := 0, cells := 0, slots := 0, locals := 0 })
theorem hdX1_waterIn : (yX1_waterIn).cls = RX1 ∧ (yX1_waterIn).cls ≠ "java/lang/invoke/MethodHandle" ∧ (yX1_waterIn).cls ≠ "java/lang/invoke/VarHandle" ∧ (parseMethodDescriptor (yX1_waterIn).desc).map (fun d => d.parameters.length) = some 1 := by decide +kernel
theorem inX1_waterIn : ∀ w ∈ u_ws RX1 TX1 10, w ∈ wsX1_waterIn := by decide +kernel
theorem lkX1_waterIn_15 : Cond.fieldLink RX1 15 "MudBoards$Flat" "tides" "[I" ∈ wsX1_waterIn := by decide +kernel
theorem lkX1_waterIn_33 : Cond.fieldLink RX1 33 "MudBoards$Flat" "tideCount" "I" ∈ wsX1_waterIn := by decide +kernel
abbrev MX1_isBared : Mi := (yX1_isBared, wsX1_isBared, cX1_isBared, RX1, 3, some .boolean, { frames := 1, cells := 0, slots := 0, locals := 21 })
theorem hdX1_isBared : (yX1_isBared).cls = RX1 ∧ (yX1_isBared).cls ≠ "java/lang/invoke/MethodHandle" ∧ (yX1_isBared).cls ≠ "java/lang/invoke/VarHandle" ∧ (parseMethodDescriptor (yX1_isBared).desc).map (fun d => d.parameters.length) = some 2 := by decide +kernel
abbrev MX1_baredCells : Mi := (yX1_baredCells, wsX1_baredCells, cX1_baredCells, RX1, 4, some .int, { frames := 2, cells := 0, slots := 0, locals := 43 })
theorem hdX1_baredCells : (yX1_baredCells).cls = RX1 ∧ (yX1_baredCells).cls ≠ "java/lang/invoke/MethodHandle" ∧ (yX1_baredCells).cls ≠ "java/lang/invoke/VarHandle" ∧ (parseMethodDescriptor (yX1_baredCells).desc).map (fun d => d.parameters.length) = some 1 := by decide +kernel
theorem stX1_baredCells_X8_bit : Cond.static yX8_bit ∈ wsX1_baredCells := by decide +kernel
theorem iniX1_baredCells_X8_bit : Cond.initialized RX8 ∈ wsX1_baredCells := by decide +kernel
abbrev MX1_stands : Mi := (yX1_stands, wsX1_stands, cX1_stands, RX1, 4, some .boolean, { frames := 2, cells := 0, slots := 0, locals := 42 })
theorem hdX1_stands : (yX1_stands).cls = RX1 ∧ (yX1_stands).cls ≠ "java/lang/invoke/MethodHandle" ∧ (yX1_stands).cls ≠ "java/lang/invoke/VarHandle" ∧ (parseMethodDescriptor (yX1_stands).desc).map (fun d => d.parameters.length) = some 3 := by decide +kernel
abbrev MX1_cellsToStandOn : Mi := (yX1_cellsToStandOn, wsX1_cellsToStandOn, cX1_cellsToStandOn, RX1, 6, some .int, { frames := 1, cells := 0, slots := 0, locals := 21 })
theorem hdX1_cellsToStandOn : (yX1_cellsToStandOn).cls = RX1 ∧ (yX1_cellsToStandOn).cls ≠ "java/lang/invoke/MethodHandle" ∧ (yX1_cellsToStandOn).cls ≠ "java/lang/invoke/VarHandle" ∧ (parseMethodDescriptor (yX1_cellsToStandOn).desc).map (fun d => d.parameters.length) = some 2 := by decide +kernel
theorem inX1_cellsToStandOn : ∀ w ∈ u_ws RX1 TX1 10, w ∈ wsX1_cellsToStandOn := by decide +kernel
theorem lkX1_cellsToStandOn_9 : Cond.fieldLink RX1 9 "MudBoards$Flat" "heights" "[I" ∈ wsX1_cellsToStandOn := by decide +kernel
theorem lkX1_cellsToStandOn_30 : Cond.fieldLink RX1 30 "MudBoards$Flat" "boards" "[I" ∈ wsX1_cellsToStandOn := by decide +kernel
theorem stX1_cellsToStandOn_X8_bit : Cond.static yX8_bit ∈ wsX1_cellsToStandOn := by decide +kernel
theorem iniX1_cellsToStandOn_X8_bit : Cond.initialized RX8 ∈ wsX1_cellsToStandOn := by decide +kernel
abbrev MX1_worth : Mi := (yX1_worth, wsX1_worth, cX1_worth, RX1, 4, some .int, { frames := 2, cells := 0, slots := 0, locals := 42 })
theorem hdX1_worth : (yX1_worth).cls = RX1 ∧ (yX1_worth).cls ≠ "java/lang/invoke/MethodHandle" ∧ (yX1_worth).cls ≠ "java/lang/invoke/VarHandle" ∧ (parseMethodDescriptor (yX1_worth).desc).map (fun d => d.parameters.length) = some 2 := by decide +kernel
abbrev MX2_playAll : Mi := (yX2_playAll, wsX2_playAll, cX2_playAll, RX2, 4, none, { frames := 5, cells := 0, slots := 0, locals := 113 })
theorem hdX2_playAll : (yX2_playAll).cls = RX2 ∧ (yX2_playAll).cls ≠ "java/lang/invoke/MethodHandle" ∧ (yX2_playAll).cls ≠ "java/lang/invoke/VarHandle" ∧ (parseMethodDescriptor (yX2_playAll).desc).map (fun d => d.parameters.length) = some 2 := by decide +kernel
theorem inX2_playAll : ∀ w ∈ u_ws RX2 TX2 5, w ∈ wsX2_playAll := by decide +kernel
theorem lkX2_playAll_11 : Cond.fieldLink RX2 11 "MudBoards$Outing" "oneHas" "[I" ∈ wsX2_playAll := by decide +kernel
theorem lkX2_playAll_15 : Cond.fieldLink RX2 15 "MudBoards$Outing" "otherHas" "[I" ∈ wsX2_playAll := by decide +kernel
theorem lkX2_playAll_22 : Cond.fieldLink RX2 22 "MudBoards$Outing" "shore" "LMudBoards$Shore;" ∈ wsX2_playAll := by decide +kernel
theorem lkX2_playAll_26 : Cond.fieldLink RX2 26 "MudBoards$Outing" "trial" "LMudBoards$Shore;" ∈ wsX2_playAll := by decide +kernel
abbrev MX2_gain : Mi := (yX2_gain, wsX2_gain, cX2_gain, RX2, 5, some .int, { frames := 4, cells := 0, slots := 0, locals := 89 })
theorem hdX2_gain : (yX2_gain).cls = RX2 ∧ (yX2_gain).cls ≠ "java/lang/invoke/MethodHandle" ∧ (yX2_gain).cls ≠ "java/lang/invoke/VarHandle" ∧ (parseMethodDescriptor (yX2_gain).desc).map (fun d => d.parameters.length) = some 2 := by decide +kernel
theorem inX2_gain : ∀ w ∈ u_ws RX2 TX2 5, w ∈ wsX2_gain := by decide +kernel
theorem lkX2_gain_18 : Cond.fieldLink RX2 18 "MudBoards$Outing" "ground" "LMudBoards$Flat;" ∈ wsX2_gain := by decide +kernel
theorem lkX2_gain_26 : Cond.fieldLink RX2 26 "MudBoards$Outing" "trial" "LMudBoards$Shore;" ∈ wsX2_gain := by decide +kernel
abbrev MX2_greatestAge : Mi := (yX2_greatestAge, wsX2_greatestAge, cX2_greatestAge, RX2, 5, some .int, { frames := 3, cells := 0, slots := 0, locals := 65 })
theorem hdX2_greatestAge : (yX2_greatestAge).cls = RX2 ∧ (yX2_greatestAge).cls ≠ "java/lang/invoke/MethodHandle" ∧ (yX2_greatestAge).cls ≠ "java/lang/invoke/VarHandle" ∧ (parseMethodDescriptor (yX2_greatestAge).desc).map (fun d => d.parameters.length) = some 1 := by decide +kernel
theorem inX2_greatestAge : ∀ w ∈ u_ws RX2 TX2 5, w ∈ wsX2_greatestAge := by decide +kernel
theorem lkX2_greatestAge_18 : Cond.fieldLink RX2 18 "MudBoards$Outing" "ground" "LMudBoards$Flat;" ∈ wsX2_greatestAge := by decide +kernel
theorem lkX2_greatestAge_26 : Cond.fieldLink RX2 26 "MudBoards$Outing" "trial" "LMudBoards$Shore;" ∈ wsX2_greatestAge := by decide +kernel
theorem stX2_greatestAge_X8_has : Cond.static yX8_has ∈ wsX2_greatestAge := by decide +kernel
theorem iniX2_greatestAge_X8_has : Cond.initialized RX8 ∈ wsX2_greatestAge := by decide +kernel
abbrev MX2_restCount : Mi := (yX2_restCount, wsX2_restCount, cX2_restCount, RX2, 3, some .int, { frames := 2, cells := 0, slots := 0, locals := 46 })
theorem hdX2_restCount : (yX2_restCount).cls = RX2 ∧ (yX2_restCount).cls ≠ "java/lang/invoke/MethodHandle" ∧ (yX2_restCount).cls ≠ "java/lang/invoke/VarHandle" ∧ (parseMethodDescriptor (yX2_restCount).desc).map (fun d => d.parameters.length) = some 0 := by decide +kernel
abbrev MX2_firstRest : Mi := (yX2_firstRest, wsX2_firstRest, cX2_firstRest, RX2, 2, some .int, { frames := 2, cells := 0, slots := 0, locals := 46 })
theorem hdX2_firstRest : (yX2_firstRest).cls = RX2 ∧ (yX2_firstRest).cls ≠ "java/lang/invoke/MethodHandle" ∧ (yX2_firstRest).cls ≠ "java/lang/invoke/VarHandle" ∧ (parseMethodDescriptor (yX2_firstRest).desc).map (fun d => d.parameters.length) = some 0 := by decide +kernel
abbrev MX2_isRest : Mi := (yX2_isRest, wsX2_isRest, cX2_isRest, RX2, 5, some .boolean, { frames := 1, cells := 0, slots := 0, locals := 22 })
theorem hdX2_isRest : (yX2_isRest).cls = RX2 ∧ (yX2_isRest).cls ≠ "java/lang/invoke/MethodHandle" ∧ (yX2_isRest).cls ≠ "java/lang/invoke/VarHandle" ∧ (parseMethodDescriptor (yX2_isRest).desc).map (fun d => d.parameters.length) = some 1 := by decide +kernel
theorem inX2_isRest : ∀ w ∈ u_ws RX2 TX2 5, w ∈ wsX2_isRest := by decide +kernel
theorem lkX2_isRest_11 : Cond.fieldLink RX2 11 "MudBoards$Outing" "oneHas" "[I" ∈ wsX2_isRest := by decide +kernel
theorem lkX2_isRest_15 : Cond.fieldLink RX2 15 "MudBoards$Outing" "otherHas" "[I" ∈ wsX2_isRest := by decide +kernel
theorem stX2_isRest_X8_within : Cond.static yX8_within ∈ wsX2_isRest := by decide +kernel
theorem iniX2_isRest_X8_within : Cond.initialized RX8 ∈ wsX2_isRest := by decide +kernel
abbrev MX3_cellsIn : Mi := (yX3_cellsIn, wsX3_cellsIn, cX3_cellsIn, RX3, 5, some .int, { frames := 4, cells := 0, slots := 0, locals := 93 })
theorem hdX3_cellsIn : (yX3_cellsIn).cls = RX3 ∧ (yX3_cellsIn).cls ≠ "java/lang/invoke/MethodHandle" ∧ (yX3_cellsIn).cls ≠ "java/lang/invoke/VarHandle" ∧ (parseMethodDescriptor (yX3_cellsIn).desc).map (fun d => d.parameters.length) = some 2 := by decide +kernel
theorem inX3_cellsIn : ∀ w ∈ u_ws RX3 TX3 4, w ∈ wsX3_cellsIn := by decide +kernel
theorem lkX3_cellsIn_22 : Cond.fieldLink RX3 22 "MudBoards$Outlook" "shore" "LMudBoards$Shore;" ∈ wsX3_cellsIn := by decide +kernel
theorem stX3_cellsIn_X8_bit : Cond.static yX8_bit ∈ wsX3_cellsIn := by decide +kernel
theorem iniX3_cellsIn_X8_bit : Cond.initialized RX8 ∈ wsX3_cellsIn := by decide +kernel
abbrev MX3_hoursHome : Mi := (yX3_hoursHome, wsX3_hoursHome, cX3_hoursHome, RX3, 4, some .int, { frames := 4, cells := 0, slots := 0, locals := 93 })
theorem hdX3_hoursHome : (yX3_hoursHome).cls = RX3 ∧ (yX3_hoursHome).cls ≠ "java/lang/invoke/MethodHandle" ∧ (yX3_hoursHome).cls ≠ "java/lang/invoke/VarHandle" ∧ (parseMethodDescriptor (yX3_hoursHome).desc).map (fun d => d.parameters.length) = some 1 := by decide +kernel
theorem inX3_hoursHome : ∀ w ∈ u_ws RX3 TX3 4, w ∈ wsX3_hoursHome := by decide +kernel
theorem lkX3_hoursHome_22 : Cond.fieldLink RX3 22 "MudBoards$Outlook" "shore" "LMudBoards$Shore;" ∈ wsX3_hoursHome := by decide +kernel
theorem stX3_hoursHome_X8_bit : Cond.static yX8_bit ∈ wsX3_hoursHome := by decide +kernel
theorem iniX3_hoursHome_X8_bit : Cond.initialized RX8 ∈ wsX3_hoursHome := by decide +kernel
abbrev MX3_cellsBehindHour : Mi := (yX3_cellsBehindHour, wsX3_cellsBehindHour, cX3_cellsBehindHour, RX3, 5, some .int, { frames := 3, cells := 0, slots := 0, locals := 69 })
theorem hdX3_cellsBehindHour : (yX3_cellsBehindHour).cls = RX3 ∧ (yX3_cellsBehindHour).cls ≠ "java/lang/invoke/MethodHandle" ∧ (yX3_cellsBehindHour).cls ≠ "java/lang/invoke/VarHandle" ∧ (parseMethodDescriptor (yX3_cellsBehindHour).desc).map (fun d => d.parameters.length) = some 3 := by decide +kernel
theorem inX3_cellsBehindHour : ∀ w ∈ u_ws RX3 TX3 4, w ∈ wsX3_cellsBehindHour := by decide +kernel
theorem lkX3_cellsBehindHour_18 : Cond.fieldLink RX3 18 "MudBoards$Outlook" "ground" "LMudBoards$Flat;" ∈ wsX3_cellsBehindHour := by decide +kernel
theorem lkX3_cellsBehindHour_22 : Cond.fieldLink RX3 22 "MudBoards$Outlook" "shore" "LMudBoards$Shore;" ∈ wsX3_cellsBehindHour := by decide +kernel
abbrev MX3_cellsAheadOfHour : Mi := (yX3_cellsAheadOfHour, wsX3_cellsAheadOfHour, cX3_cellsAheadOfHour, RX3, 5, some .int, { frames := 3, cells := 0, slots := 0, locals := 69 })
theorem hdX3_cellsAheadOfHour : (yX3_cellsAheadOfHour).cls = RX3 ∧ (yX3_cellsAheadOfHour).cls ≠ "java/lang/invoke/MethodHandle" ∧ (yX3_cellsAheadOfHour).cls ≠ "java/lang/invoke/VarHandle" ∧ (parseMethodDescriptor (yX3_cellsAheadOfHour).desc).map (fun d => d.parameters.length) = some 3 := by decide +kernel
theorem inX3_cellsAheadOfHour : ∀ w ∈ u_ws RX3 TX3 4, w ∈ wsX3_cellsAheadOfHour := by decide +kernel
theorem lkX3_cellsAheadOfHour_18 : Cond.fieldLink RX3 18 "MudBoards$Outlook" "ground" "LMudBoards$Flat;" ∈ wsX3_cellsAheadOfHour := by decide +kernel
theorem lkX3_cellsAheadOfHour_22 : Cond.fieldLink RX3 22 "MudBoards$Outlook" "shore" "LMudBoards$Shore;" ∈ wsX3_cellsAheadOfHour := by decide +kernel
abbrev MX3_goals : Mi := (yX3_goals, wsX3_goals, cX3_goals, RX3, 4, some .int, { frames := 2, cells := 0, slots := 0, locals := 46 })
theorem hdX3_goals : (yX3_goals).cls = RX3 ∧ (yX3_goals).cls ≠ "java/lang/invoke/MethodHandle" ∧ (yX3_goals).cls ≠ "java/lang/invoke/VarHandle" ∧ (parseMethodDescriptor (yX3_goals).desc).map (fun d => d.parameters.length) = some 2 := by decide +kernel
theorem inX3_goals : ∀ w ∈ u_ws RX3 TX3 4, w ∈ wsX3_goals := by decide +kernel
theorem lkX3_goals_18 : Cond.fieldLink RX3 18 "MudBoards$Outlook" "ground" "LMudBoards$Flat;" ∈ wsX3_goals := by decide +kernel
theorem lkX3_goals_22 : Cond.fieldLink RX3 22 "MudBoards$Outlook" "shore" "LMudBoards$Shore;" ∈ wsX3_goals := by decide +kernel
abbrev MX3_neighbours : Mi := (yX3_neighbours, wsX3_neighbours, cX3_neighbours, RX3, 5, some .int, { frames := 0, cells := 0, slots := 0, locals := 0 })
theorem hdX3_neighbours : (yX3_neighbours).cls ≠ "java/lang/invoke/MethodHandle" ∧ (yX3_neighbours).cls ≠ "java/lang/invoke/VarHandle" ∧ (parseMethodDescriptor (yX3_neighbours).desc).map (fun d => d.parameters.length) = some 1 := by decide +kernel
abbrev MX3_findsToGet : Mi := (yX3_findsToGet, wsX3_findsToGet, cX3_findsToGet, RX3, 6, some .int, { frames := 4, cells := 0, slots := 0, locals := 93 })
theorem hdX3_findsToGet : (yX3_findsToGet).cls = RX3 ∧ (yX3_findsToGet).cls ≠ "java/lang/invoke/MethodHandle" ∧ (yX3_findsToGet).cls ≠ "java/lang/invoke/VarHandle" ∧ (parseMethodDescriptor (yX3_findsToGet).desc).map (fun d => d.parameters.length) = some 2 := by decide +kernel
theorem inX3_findsToGet : ∀ w ∈ u_ws RX3 TX3 4, w ∈ wsX3_findsToGet := by decide +kernel
theorem lkX3_findsToGet_9 : Cond.fieldLink RX3 9 "MudBoards$Outlook" "homeward" "[I" ∈ wsX3_findsToGet := by decide +kernel
theorem lkX3_findsToGet_18 : Cond.fieldLink RX3 18 "MudBoards$Outlook" "ground" "LMudBoards$Flat;" ∈ wsX3_findsToGet := by decide +kernel
theorem lkX3_findsToGet_22 : Cond.fieldLink RX3 22 "MudBoards$Outlook" "shore" "LMudBoards$Shore;" ∈ wsX3_findsToGet := by decide +kernel
theorem stX3_findsToGet_X8_bit : Cond.static yX8_bit ∈ wsX3_findsToGet := by decide +kernel
theorem iniX3_findsToGet_X8_bit : Cond.initialized RX8 ∈ wsX3_findsToGet := by decide +kernel
theorem stX3_findsToGet_X8_within : Cond.static yX8_within ∈ wsX3_findsToGet := by decide +kernel
theorem iniX3_findsToGet_X8_within : Cond.initialized RX8 ∈ wsX3_findsToGet := by decide +kernel
abbrev MX3_findsOn : Mi := (yX3_findsOn, wsX3_findsOn, cX3_findsOn, RX3, 4, some .int, { frames := 3, cells := 0, slots := 0, locals := 65 })
theorem hdX3_findsOn : (yX3_findsOn).cls = RX3 ∧ (yX3_findsOn).cls ≠ "java/lang/invoke/MethodHandle" ∧ (yX3_findsOn).cls ≠ "java/lang/invoke/VarHandle" ∧ (parseMethodDescriptor (yX3_findsOn).desc).map (fun d => d.parameters.length) = some 1 := by decide +kernel
theorem inX3_findsOn : ∀ w ∈ u_ws RX3 TX3 4, w ∈ wsX3_findsOn := by decide +kernel
theorem lkX3_findsOn_22 : Cond.fieldLink RX3 22 "MudBoards$Outlook" "shore" "LMudBoards$Shore;" ∈ wsX3_findsOn := by decide +kernel
theorem stX3_findsOn_X8_has : Cond.static yX8_has ∈ wsX3_findsOn := by decide +kernel
theorem iniX3_findsOn_X8_has : Cond.initialized RX8 ∈ wsX3_findsOn := by decide +kernel
abbrev MX3_bestFind : Mi := (yX3_bestFind, wsX3_bestFind, cX3_bestFind, RX3, 6, some .int, { frames := 5, cells := 0, slots := 0, locals := 118 })
theorem hdX3_bestFind : (yX3_bestFind).cls = RX3 ∧ (yX3_bestFind).cls ≠ "java/lang/invoke/MethodHandle" ∧ (yX3_bestFind).cls ≠ "java/lang/invoke/VarHandle" ∧ (parseMethodDescriptor (yX3_bestFind).desc).map (fun d => d.parameters.length) = some 2 := by decide +kernel
theorem inX3_bestFind : ∀ w ∈ u_ws RX3 TX3 4, w ∈ wsX3_bestFind := by decide +kernel
theorem lkX3_bestFind_18 : Cond.fieldLink RX3 18 "MudBoards$Outlook" "ground" "LMudBoards$Flat;" ∈ wsX3_bestFind := by decide +kernel
theorem stX3_bestFind_X8_has : Cond.static yX8_has ∈ wsX3_bestFind := by decide +kernel
theorem iniX3_bestFind_X8_has : Cond.initialized RX8 ∈ wsX3_bestFind := by decide +kernel
abbrev MX3_worthToGet : Mi := (yX3_worthToGet, wsX3_worthToGet, cX3_worthToGet, RX3, 2, some .int, { frames := 3, cells := 0, slots := 0, locals := 65 })
theorem hdX3_worthToGet : (yX3_worthToGet).cls = RX3 ∧ (yX3_worthToGet).cls ≠ "java/lang/invoke/MethodHandle" ∧ (yX3_worthToGet).cls ≠ "java/lang/invoke/VarHandle" ∧ (parseMethodDescriptor (yX3_worthToGet).desc).map (fun d => d.parameters.length) = some 1 := by decide +kernel
theorem inX3_worthToGet : ∀ w ∈ u_ws RX3 TX3 4, w ∈ wsX3_worthToGet := by decide +kernel
theorem lkX3_worthToGet_18 : Cond.fieldLink RX3 18 "MudBoards$Outlook" "ground" "LMudBoards$Flat;" ∈ wsX3_worthToGet := by decide +kernel
theorem lkX3_worthToGet_22 : Cond.fieldLink RX3 22 "MudBoards$Outlook" "shore" "LMudBoards$Shore;" ∈ wsX3_worthToGet := by decide +kernel
theorem stX3_worthToGet_X8_within : Cond.static yX8_within ∈ wsX3_worthToGet := by decide +kernel
theorem iniX3_worthToGet_X8_within : Cond.initialized RX8 ∈ wsX3_worthToGet := by decide +kernel
abbrev MX3_shareInTwelfths : Mi := (yX3_shareInTwelfths, wsX3_shareInTwelfths, cX3_shareInTwelfths, RX3, 4, some .int, { frames := 5, cells := 0, slots := 0, locals := 118 })
theorem hdX3_shareInTwelfths : (yX3_shareInTwelfths).cls = RX3 ∧ (yX3_shareInTwelfths).cls ≠ "java/lang/invoke/MethodHandle" ∧ (yX3_shareInTwelfths).cls ≠ "java/lang/invoke/VarHandle" ∧ (parseMethodDescriptor (yX3_shareInTwelfths).desc).map (fun d => d.parameters.length) = some 1 := by decide +kernel
theorem inX3_shareInTwelfths : ∀ w ∈ u_ws RX3 TX3 4, w ∈ wsX3_shareInTwelfths := by decide +kernel
theorem lkX3_shareInTwelfths_15 : Cond.fieldLink RX3 15 "MudBoards$Outlook" "toGet" "[I" ∈ wsX3_shareInTwelfths := by decide +kernel
theorem lkX3_shareInTwelfths_18 : Cond.fieldLink RX3 18 "MudBoards$Outlook" "ground" "LMudBoards$Flat;" ∈ wsX3_shareInTwelfths := by decide +kernel
theorem stX3_shareInTwelfths_X8_has : Cond.static yX8_has ∈ wsX3_shareInTwelfths := by decide +kernel
theorem iniX3_shareInTwelfths_X8_has : Cond.initialized RX8 ∈ wsX3_shareInTwelfths := by decide +kernel
abbrev MX3_gettersOf : Mi := (yX3_gettersOf, wsX3_gettersOf, cX3_gettersOf, RX3, 7, some .int, { frames := 1, cells := 0, slots := 0, locals := 21 })
theorem hdX3_gettersOf : (yX3_gettersOf).cls = RX3 ∧ (yX3_gettersOf).cls ≠ "java/lang/invoke/MethodHandle" ∧ (yX3_gettersOf).cls ≠ "java/lang/invoke/VarHandle" ∧ (parseMethodDescriptor (yX3_gettersOf).desc).map (fun d => d.parameters.length) = some 1 := by decide +kernel
theorem inX3_gettersOf : ∀ w ∈ u_ws RX3 TX3 4, w ∈ wsX3_gettersOf := by decide +kernel
theorem lkX3_gettersOf_15 : Cond.fieldLink RX3 15 "MudBoards$Outlook" "toGet" "[I" ∈ wsX3_gettersOf := by decide +kernel
theorem stX3_gettersOf_X8_has : Cond.static yX8_has ∈ wsX3_gettersOf := by decide +kernel
theorem iniX3_gettersOf_X8_has : Cond.initialized RX8 ∈ wsX3_gettersOf := by decide +kernel
abbrev MX3_tenthsToStand : Mi := (yX3_tenthsToStand, wsX3_tenthsToStand, cX3_tenthsToStand, RX3, 6, some .int, { frames := 2, cells := 0, slots := 0, locals := 42 })
theorem hdX3_tenthsToStand : (yX3_tenthsToStand).cls = RX3 ∧ (yX3_tenthsToStand).cls ≠ "java/lang/invoke/MethodHandle" ∧ (yX3_tenthsToStand).cls ≠ "java/lang/invoke/VarHandle" ∧ (parseMethodDescriptor (yX3_tenthsToStand).desc).map (fun d => d.parameters.length) = some 3 := by decide +kernel
theorem inX3_tenthsToStand : ∀ w ∈ u_ws RX3 TX3 4, w ∈ wsX3_tenthsToStand := by decide +kernel
theorem lkX3_tenthsToStand_18 : Cond.fieldLink RX3 18 "MudBoards$Outlook" "ground" "LMudBoards$Flat;" ∈ wsX3_tenthsToStand := by decide +kernel
theorem lkX3_tenthsToStand_22 : Cond.fieldLink RX3 22 "MudBoards$Outlook" "shore" "LMudBoards$Shore;" ∈ wsX3_tenthsToStand := by decide +kernel
abbrev MX4_startAnew : Mi := (yX4_startAnew, wsX4_startAnew, cX4_startAnew, RX4, 2, none, { frames := 2, cells := 0, slots := 0, locals := 42 })
theorem hdX4_startAnew : (yX4_startAnew).cls = RX4 ∧ (yX4_startAnew).cls ≠ "java/lang/invoke/MethodHandle" ∧ (yX4_startAnew).cls ≠ "java/lang/invoke/VarHandle" ∧ (parseMethodDescriptor (yX4_startAnew).desc).map (fun d => d.parameters.length) = some 0 := by decide +kernel
theorem inX4_startAnew : ∀ w ∈ u_ws RX4 TX4 2, w ∈ wsX4_startAnew := by decide +kernel
theorem lkX4_startAnew_11 : Cond.fieldLink RX4 11 "MudBoards$Shore" "row" "[I" ∈ wsX4_startAnew := by decide +kernel
theorem lkX4_startAnew_15 : Cond.fieldLink RX4 15 "MudBoards$Shore" "ground" "LMudBoards$Flat;" ∈ wsX4_startAnew := by decide +kernel
abbrev MX4_copyFrom : Mi := (yX4_copyFrom, wsX4_copyFrom, cX4_copyFrom, RX4, 2, none, { frames := 1, cells := 0, slots := 0, locals := 18 })
theorem hdX4_copyFrom : (yX4_copyFrom).cls = RX4 ∧ (yX4_copyFrom).cls ≠ "java/lang/invoke/MethodHandle" ∧ (yX4_copyFrom).cls ≠ "java/lang/invoke/VarHandle" ∧ (parseMethodDescriptor (yX4_copyFrom).desc).map (fun d => d.parameters.length) = some 1 := by decide +kernel
theorem inX4_copyFrom : ∀ w ∈ u_ws RX4 TX4 2, w ∈ wsX4_copyFrom := by decide +kernel
theorem lkX4_copyFrom_11 : Cond.fieldLink RX4 11 "MudBoards$Shore" "row" "[I" ∈ wsX4_copyFrom := by decide +kernel
abbrev MX4_saveTo : Mi := (yX4_saveTo, wsX4_saveTo, cX4_saveTo, RX4, 3, none, { frames := 1, cells := 0, slots := 0, locals := 22 })
theorem hdX4_saveTo : (yX4_saveTo).cls = RX4 ∧ (yX4_saveTo).cls ≠ "java/lang/invoke/MethodHandle" ∧ (yX4_saveTo).cls ≠ "java/lang/invoke/VarHandle" ∧ (parseMethodDescriptor (yX4_saveTo).desc).map (fun d => d.parameters.length) = some 2 := by decide +kernel
theorem inX4_saveTo : ∀ w ∈ u_ws RX4 TX4 2, w ∈ wsX4_saveTo := by decide +kernel
theorem lkX4_saveTo_11 : Cond.fieldLink RX4 11 "MudBoards$Shore" "row" "[I" ∈ wsX4_saveTo := by decide +kernel
theorem stX4_saveTo_X8_within : Cond.static yX8_within ∈ wsX4_saveTo := by decide +kernel
theorem iniX4_saveTo_X8_within : Cond.initialized RX8 ∈ wsX4_saveTo := by decide +kernel
abbrev MX4_loadFrom : Mi := (yX4_loadFrom, wsX4_loadFrom, cX4_loadFrom, RX4, 3, none, { frames := 1, cells := 0, slots := 0, locals := 22 })
theorem hdX4_loadFrom : (yX4_loadFrom).cls = RX4 ∧ (yX4_loadFrom).cls ≠ "java/lang/invoke/MethodHandle" ∧ (yX4_loadFrom).cls ≠ "java/lang/invoke/VarHandle" ∧ (parseMethodDescriptor (yX4_loadFrom).desc).map (fun d => d.parameters.length) = some 2 := by decide +kernel
theorem inX4_loadFrom : ∀ w ∈ u_ws RX4 TX4 2, w ∈ wsX4_loadFrom := by decide +kernel
theorem lkX4_loadFrom_11 : Cond.fieldLink RX4 11 "MudBoards$Shore" "row" "[I" ∈ wsX4_loadFrom := by decide +kernel
theorem stX4_loadFrom_X8_within : Cond.static yX8_within ∈ wsX4_loadFrom := by decide +kernel
theorem iniX4_loadFrom_X8_within : Cond.initialized RX8 ∈ wsX4_loadFrom := by decide +kernel
abbrev MX4_now : Mi := (yX4_now, wsX4_now, cX4_now, RX4, 1, some .int, { frames := 0, cells := 0, slots := 0, locals := 0 })
theorem hdX4_now : (yX4_now).cls = RX4 ∧ (yX4_now).cls ≠ "java/lang/invoke/MethodHandle" ∧ (yX4_now).cls ≠ "java/lang/invoke/VarHandle" ∧ (parseMethodDescriptor (yX4_now).desc).map (fun d => d.parameters.length) = some 0 := by decide +kernel
theorem inX4_now : ∀ w ∈ u_ws RX4 TX4 2, w ∈ wsX4_now := by decide +kernel
theorem lkX4_now_11 : Cond.fieldLink RX4 11 "MudBoards$Shore" "row" "[I" ∈ wsX4_now := by decide +kernel
abbrev MX4_drowned : Mi := (yX4_drowned, wsX4_drowned, cX4_drowned, RX4, 1, some .int, { frames := 0, cells := 0, slots := 0, locals := 0 })
theorem hdX4_drowned : (yX4_drowned).cls = RX4 ∧ (yX4_drowned).cls ≠ "java/lang/invoke/MethodHandle" ∧ (yX4_drowned).cls ≠ "java/lang/invoke/VarHandle" ∧ (parseMethodDescriptor (yX4_drowned).desc).map (fun d => d.parameters.length) = some 0 := by decide +kernel
theorem inX4_drowned : ∀ w ∈ u_ws RX4 TX4 2, w ∈ wsX4_drowned := by decide +kernel
theorem lkX4_drowned_11 : Cond.fieldLink RX4 11 "MudBoards$Shore" "row" "[I" ∈ wsX4_drowned := by decide +kernel
abbrev MX4_cellOfLark : Mi := (yX4_cellOfLark, wsX4_cellOfLark, cX4_cellOfLark, RX4, 2, some .int, { frames := 1, cells := 0, slots := 0, locals := 21 })
theorem hdX4_cellOfLark : (yX4_cellOfLark).cls = RX4 ∧ (yX4_cellOfLark).cls ≠ "java/lang/invoke/MethodHandle" ∧ (yX4_cellOfLark).cls ≠ "java/lang/invoke/VarHandle" ∧ (parseMethodDescriptor (yX4_cellOfLark).desc).map (fun d => d.parameters.length) = some 1 := by decide +kernel
theorem inX4_cellOfLark : ∀ w ∈ u_ws RX4 TX4 2, w ∈ wsX4_cellOfLark := by decide +kernel
theorem lkX4_cellOfLark_11 : Cond.fieldLink RX4 11 "MudBoards$Shore" "row" "[I" ∈ wsX4_cellOfLark := by decide +kernel
theorem lkX4_cellOfLark_15 : Cond.fieldLink RX4 15 "MudBoards$Shore" "ground" "LMudBoards$Flat;" ∈ wsX4_cellOfLark := by decide +kernel
abbrev MX4_coins : Mi := (yX4_coins, wsX4_coins, cX4_coins, RX4, 2, some .int, { frames := 1, cells := 0, slots := 0, locals := 21 })
theorem hdX4_coins : (yX4_coins).cls = RX4 ∧ (yX4_coins).cls ≠ "java/lang/invoke/MethodHandle" ∧ (yX4_coins).cls ≠ "java/lang/invoke/VarHandle" ∧ (parseMethodDescriptor (yX4_coins).desc).map (fun d => d.parameters.length) = some 1 := by decide +kernel
theorem inX4_coins : ∀ w ∈ u_ws RX4 TX4 2, w ∈ wsX4_coins := by decide +kernel
theorem lkX4_coins_11 : Cond.fieldLink RX4 11 "MudBoards$Shore" "row" "[I" ∈ wsX4_coins := by decide +kernel
theorem lkX4_coins_15 : Cond.fieldLink RX4 15 "MudBoards$Shore" "ground" "LMudBoards$Flat;" ∈ wsX4_coins := by decide +kernel
abbrev MX4_cellOfFind : Mi := (yX4_cellOfFind, wsX4_cellOfFind, cX4_cellOfFind, RX4, 2, some .int, { frames := 1, cells := 0, slots := 0, locals := 21 })
theorem hdX4_cellOfFind : (yX4_cellOfFind).cls = RX4 ∧ (yX4_cellOfFind).cls ≠ "java/lang/invoke/MethodHandle" ∧ (yX4_cellOfFind).cls ≠ "java/lang/invoke/VarHandle" ∧ (parseMethodDescriptor (yX4_cellOfFind).desc).map (fun d => d.parameters.length) = some 1 := by decide +kernel
theorem inX4_cellOfFind : ∀ w ∈ u_ws RX4 TX4 2, w ∈ wsX4_cellOfFind := by decide +kernel
theorem lkX4_cellOfFind_11 : Cond.fieldLink RX4 11 "MudBoards$Shore" "row" "[I" ∈ wsX4_cellOfFind := by decide +kernel
theorem lkX4_cellOfFind_15 : Cond.fieldLink RX4 15 "MudBoards$Shore" "ground" "LMudBoards$Flat;" ∈ wsX4_cellOfFind := by decide +kernel
abbrev MX4_holder : Mi := (yX4_holder, wsX4_holder, cX4_holder, RX4, 2, some .int, { frames := 1, cells := 0, slots := 0, locals := 21 })
theorem hdX4_holder : (yX4_holder).cls = RX4 ∧ (yX4_holder).cls ≠ "java/lang/invoke/MethodHandle" ∧ (yX4_holder).cls ≠ "java/lang/invoke/VarHandle" ∧ (parseMethodDescriptor (yX4_holder).desc).map (fun d => d.parameters.length) = some 1 := by decide +kernel
theorem inX4_holder : ∀ w ∈ u_ws RX4 TX4 2, w ∈ wsX4_holder := by decide +kernel
theorem lkX4_holder_11 : Cond.fieldLink RX4 11 "MudBoards$Shore" "row" "[I" ∈ wsX4_holder := by decide +kernel
theorem lkX4_holder_15 : Cond.fieldLink RX4 15 "MudBoards$Shore" "ground" "LMudBoards$Flat;" ∈ wsX4_holder := by decide +kernel
abbrev MX4_stateOfFind : Mi := (yX4_stateOfFind, wsX4_stateOfFind, cX4_stateOfFind, RX4, 2, some .int, { frames := 2, cells := 0, slots := 0, locals := 42 })
theorem hdX4_stateOfFind : (yX4_stateOfFind).cls = RX4 ∧ (yX4_stateOfFind).cls ≠ "java/lang/invoke/MethodHandle" ∧ (yX4_stateOfFind).cls ≠ "java/lang/invoke/VarHandle" ∧ (parseMethodDescriptor (yX4_stateOfFind).desc).map (fun d => d.parameters.length) = some 1 := by decide +kernel
theorem inX4_stateOfFind : ∀ w ∈ u_ws RX4 TX4 2, w ∈ wsX4_stateOfFind := by decide +kernel
theorem lkX4_stateOfFind_11 : Cond.fieldLink RX4 11 "MudBoards$Shore" "row" "[I" ∈ wsX4_stateOfFind := by decide +kernel
theorem stX4_stateOfFind_X8_has : Cond.static yX8_has ∈ wsX4_stateOfFind := by decide +kernel
theorem iniX4_stateOfFind_X8_has : Cond.initialized RX8 ∈ wsX4_stateOfFind := by decide +kernel
abbrev MX4_isDrowned : Mi := (yX4_isDrowned, wsX4_isDrowned, cX4_isDrowned, RX4, 2, some .boolean, { frames := 1, cells := 0, slots := 0, locals := 21 })
theorem hdX4_isDrowned : (yX4_isDrowned).cls = RX4 ∧ (yX4_isDrowned).cls ≠ "java/lang/invoke/MethodHandle" ∧ (yX4_isDrowned).cls ≠ "java/lang/invoke/VarHandle" ∧ (parseMethodDescriptor (yX4_isDrowned).desc).map (fun d => d.parameters.length) = some 1 := by decide +kernel
theorem inX4_isDrowned : ∀ w ∈ u_ws RX4 TX4 2, w ∈ wsX4_isDrowned := by decide +kernel
theorem lkX4_isDrowned_11 : Cond.fieldLink RX4 11 "MudBoards$Shore" "row" "[I" ∈ wsX4_isDrowned := by decide +kernel
theorem lkX4_isDrowned_15 : Cond.fieldLink RX4 15 "MudBoards$Shore" "ground" "LMudBoards$Flat;" ∈ wsX4_isDrowned := by decide +kernel
theorem stX4_isDrowned_X8_has : Cond.static yX8_has ∈ wsX4_isDrowned := by decide +kernel
theorem iniX4_isDrowned_X8_has : Cond.initialized RX8 ∈ wsX4_isDrowned := by decide +kernel
abbrev MX4_hasWalked : Mi := (yX4_hasWalked, wsX4_hasWalked, cX4_hasWalked, RX4, 2, some .boolean, { frames := 1, cells := 0, slots := 0, locals := 21 })
theorem hdX4_hasWalked : (yX4_hasWalked).cls = RX4 ∧ (yX4_hasWalked).cls ≠ "java/lang/invoke/MethodHandle" ∧ (yX4_hasWalked).cls ≠ "java/lang/invoke/VarHandle" ∧ (parseMethodDescriptor (yX4_hasWalked).desc).map (fun d => d.parameters.length) = some 1 := by decide +kernel
theorem inX4_hasWalked : ∀ w ∈ u_ws RX4 TX4 2, w ∈ wsX4_hasWalked := by decide +kernel
theorem lkX4_hasWalked_11 : Cond.fieldLink RX4 11 "MudBoards$Shore" "row" "[I" ∈ wsX4_hasWalked := by decide +kernel
theorem lkX4_hasWalked_15 : Cond.fieldLink RX4 15 "MudBoards$Shore" "ground" "LMudBoards$Flat;" ∈ wsX4_hasWalked := by decide +kernel
theorem stX4_hasWalked_X8_has : Cond.static yX8_has ∈ wsX4_hasWalked := by decide +kernel
theorem iniX4_hasWalked_X8_has : Cond.initialized RX8 ∈ wsX4_hasWalked := by decide +kernel
abbrev MX4_findsThat : Mi := (yX4_findsThat, wsX4_findsThat, cX4_findsThat, RX4, 4, some .int, { frames := 3, cells := 0, slots := 0, locals := 63 })
theorem hdX4_findsThat : (yX4_findsThat).cls = RX4 ∧ (yX4_findsThat).cls ≠ "java/lang/invoke/MethodHandle" ∧ (yX4_findsThat).cls ≠ "java/lang/invoke/VarHandle" ∧ (parseMethodDescriptor (yX4_findsThat).desc).map (fun d => d.parameters.length) = some 1 := by decide +kernel
theorem inX4_findsThat : ∀ w ∈ u_ws RX4 TX4 2, w ∈ wsX4_findsThat := by decide +kernel
theorem lkX4_findsThat_15 : Cond.fieldLink RX4 15 "MudBoards$Shore" "ground" "LMudBoards$Flat;" ∈ wsX4_findsThat := by decide +kernel
theorem stX4_findsThat_X8_bit : Cond.static yX8_bit ∈ wsX4_findsThat := by decide +kernel
theorem iniX4_findsThat_X8_bit : Cond.initialized RX8 ∈ wsX4_findsThat := by decide +kernel
abbrev MX4_findsLyingAt : Mi := (yX4_findsLyingAt, wsX4_findsLyingAt, cX4_findsLyingAt, RX4, 4, some .int, { frames := 2, cells := 0, slots := 0, locals := 42 })
theorem hdX4_findsLyingAt : (yX4_findsLyingAt).cls = RX4 ∧ (yX4_findsLyingAt).cls ≠ "java/lang/invoke/MethodHandle" ∧ (yX4_findsLyingAt).cls ≠ "java/lang/invoke/VarHandle" ∧ (parseMethodDescriptor (yX4_findsLyingAt).desc).map (fun d => d.parameters.length) = some 1 := by decide +kernel
theorem inX4_findsLyingAt : ∀ w ∈ u_ws RX4 TX4 2, w ∈ wsX4_findsLyingAt := by decide +kernel
theorem lkX4_findsLyingAt_15 : Cond.fieldLink RX4 15 "MudBoards$Shore" "ground" "LMudBoards$Flat;" ∈ wsX4_findsLyingAt := by decide +kernel
theorem stX4_findsLyingAt_X8_bit : Cond.static yX8_bit ∈ wsX4_findsLyingAt := by decide +kernel
theorem iniX4_findsLyingAt_X8_bit : Cond.initialized RX8 ∈ wsX4_findsLyingAt := by decide +kernel
abbrev MX4_carriedBy : Mi := (yX4_carriedBy, wsX4_carriedBy, cX4_carriedBy, RX4, 4, some .int, { frames := 1, cells := 0, slots := 0, locals := 21 })
theorem hdX4_carriedBy : (yX4_carriedBy).cls = RX4 ∧ (yX4_carriedBy).cls ≠ "java/lang/invoke/MethodHandle" ∧ (yX4_carriedBy).cls ≠ "java/lang/invoke/VarHandle" ∧ (parseMethodDescriptor (yX4_carriedBy).desc).map (fun d => d.parameters.length) = some 1 := by decide +kernel
theorem inX4_carriedBy : ∀ w ∈ u_ws RX4 TX4 2, w ∈ wsX4_carriedBy := by decide +kernel
theorem lkX4_carriedBy_11 : Cond.fieldLink RX4 11 "MudBoards$Shore" "row" "[I" ∈ wsX4_carriedBy := by decide +kernel
theorem stX4_carriedBy_X8_bit : Cond.static yX8_bit ∈ wsX4_carriedBy := by decide +kernel
theorem iniX4_carriedBy_X8_bit : Cond.initialized RX8 ∈ wsX4_carriedBy := by decide +kernel
theorem stX4_carriedBy_X8_has : Cond.static yX8_has ∈ wsX4_carriedBy := by decide +kernel
theorem iniX4_carriedBy_X8_has : Cond.initialized RX8 ∈ wsX4_carriedBy := by decide +kernel
abbrev MX4_larksAt : Mi := (yX4_larksAt, wsX4_larksAt, cX4_larksAt, RX4, 4, some .int, { frames := 2, cells := 0, slots := 0, locals := 42 })
theorem hdX4_larksAt : (yX4_larksAt).cls = RX4 ∧ (yX4_larksAt).cls ≠ "java/lang/invoke/MethodHandle" ∧ (yX4_larksAt).cls ≠ "java/lang/invoke/VarHandle" ∧ (parseMethodDescriptor (yX4_larksAt).desc).map (fun d => d.parameters.length) = some 1 := by decide +kernel
theorem inX4_larksAt : ∀ w ∈ u_ws RX4 TX4 2, w ∈ wsX4_larksAt := by decide +kernel
theorem lkX4_larksAt_15 : Cond.fieldLink RX4 15 "MudBoards$Shore" "ground" "LMudBoards$Flat;" ∈ wsX4_larksAt := by decide +kernel
theorem stX4_larksAt_X8_bit : Cond.static yX8_bit ∈ wsX4_larksAt := by decide +kernel
theorem iniX4_larksAt_X8_bit : Cond.initialized RX8 ∈ wsX4_larksAt := by decide +kernel
abbrev MX4_larksAlive : Mi := (yX4_larksAlive, wsX4_larksAlive, cX4_larksAlive, RX4, 1, some .int, { frames := 1, cells := 0, slots := 0, locals := 20 })
theorem hdX4_larksAlive : (yX4_larksAlive).cls = RX4 ∧ (yX4_larksAlive).cls ≠ "java/lang/invoke/MethodHandle" ∧ (yX4_larksAlive).cls ≠ "java/lang/invoke/VarHandle" ∧ (parseMethodDescriptor (yX4_larksAlive).desc).map (fun d => d.parameters.length) = some 0 := by decide +kernel
theorem inX4_larksAlive : ∀ w ∈ u_ws RX4 TX4 2, w ∈ wsX4_larksAlive := by decide +kernel
theorem lkX4_larksAlive_11 : Cond.fieldLink RX4 11 "MudBoards$Shore" "row" "[I" ∈ wsX4_larksAlive := by decide +kernel
theorem lkX4_larksAlive_15 : Cond.fieldLink RX4 15 "MudBoards$Shore" "ground" "LMudBoards$Flat;" ∈ wsX4_larksAlive := by decide +kernel
abbrev MX4_coinsOfAll : Mi := (yX4_coinsOfAll, wsX4_coinsOfAll, cX4_coinsOfAll, RX4, 3, some .int, { frames := 2, cells := 0, slots := 0, locals := 42 })
theorem hdX4_coinsOfAll : (yX4_coinsOfAll).cls = RX4 ∧ (yX4_coinsOfAll).cls ≠ "java/lang/invoke/MethodHandle" ∧ (yX4_coinsOfAll).cls ≠ "java/lang/invoke/VarHandle" ∧ (parseMethodDescriptor (yX4_coinsOfAll).desc).map (fun d => d.parameters.length) = some 0 := by decide +kernel
theorem inX4_coinsOfAll : ∀ w ∈ u_ws RX4 TX4 2, w ∈ wsX4_coinsOfAll := by decide +kernel
theorem lkX4_coinsOfAll_15 : Cond.fieldLink RX4 15 "MudBoards$Shore" "ground" "LMudBoards$Flat;" ∈ wsX4_coinsOfAll := by decide +kernel
abbrev MX4_isInRowByTheWall : Mi := (yX4_isInRowByTheWall, wsX4_isInRowByTheWall, cX4_isInRowByTheWall, RX4, 2, some .boolean, { frames := 2, cells := 0, slots := 0, locals := 42 })
theorem hdX4_isInRowByTheWall : (yX4_isInRowByTheWall).cls = RX4 ∧ (yX4_isInRowByTheWall).cls ≠ "java/lang/invoke/MethodHandle" ∧ (yX4_isInRowByTheWall).cls ≠ "java/lang/invoke/VarHandle" ∧ (parseMethodDescriptor (yX4_isInRowByTheWall).desc).map (fun d => d.parameters.length) = some 1 := by decide +kernel
theorem stX4_isInRowByTheWall_X8_within : Cond.static yX8_within ∈ wsX4_isInRowByTheWall := by decide +kernel
theorem iniX4_isInRowByTheWall_X8_within : Cond.initialized RX8 ∈ wsX4_isInRowByTheWall := by decide +kernel
abbrev MX4_canWalk : Mi := (yX4_canWalk, wsX4_canWalk, cX4_canWalk, RX4, 4, some .boolean, { frames := 3, cells := 0, slots := 0, locals := 65 })
theorem hdX4_canWalk : (yX4_canWalk).cls = RX4 ∧ (yX4_canWalk).cls ≠ "java/lang/invoke/MethodHandle" ∧ (yX4_canWalk).cls ≠ "java/lang/invoke/VarHandle" ∧ (parseMethodDescriptor (yX4_canWalk).desc).map (fun d => d.parameters.length) = some 2 := by decide +kernel
theorem inX4_canWalk : ∀ w ∈ u_ws RX4 TX4 2, w ∈ wsX4_canWalk := by decide +kernel
theorem lkX4_canWalk_15 : Cond.fieldLink RX4 15 "MudBoards$Shore" "ground" "LMudBoards$Flat;" ∈ wsX4_canWalk := by decide +kernel
theorem stX4_canWalk_X8_cellBehind : Cond.static yX8_cellBehind ∈ wsX4_canWalk := by decide +kernel
theorem iniX4_canWalk_X8_cellBehind : Cond.initialized RX8 ∈ wsX4_canWalk := by decide +kernel
theorem stX4_canWalk_X8_within : Cond.static yX8_within ∈ wsX4_canWalk := by decide +kernel
theorem iniX4_canWalk_X8_within : Cond.initialized RX8 ∈ wsX4_canWalk := by decide +kernel
abbrev MX4_tryWalk : Mi := (yX4_tryWalk, wsX4_tryWalk, cX4_tryWalk, RX4, 3, some .boolean, { frames := 4, cells := 0, slots := 0, locals := 88 })
theorem hdX4_tryWalk : (yX4_tryWalk).cls = RX4 ∧ (yX4_tryWalk).cls ≠ "java/lang/invoke/MethodHandle" ∧ (yX4_tryWalk).cls ≠ "java/lang/invoke/VarHandle" ∧ (parseMethodDescriptor (yX4_tryWalk).desc).map (fun d => d.parameters.length) = some 2 := by decide +kernel
theorem inX4_tryWalk : ∀ w ∈ u_ws RX4 TX4 2, w ∈ wsX4_tryWalk := by decide +kernel
theorem lkX4_tryWalk_11 : Cond.fieldLink RX4 11 "MudBoards$Shore" "row" "[I" ∈ wsX4_tryWalk := by decide +kernel
theorem stX4_tryWalk_X8_bit : Cond.static yX8_bit ∈ wsX4_tryWalk := by decide +kernel
theorem iniX4_tryWalk_X8_bit : Cond.initialized RX8 ∈ wsX4_tryWalk := by decide +kernel
theorem stX4_tryWalk_X8_cellBehind : Cond.static yX8_cellBehind ∈ wsX4_tryWalk := by decide +kernel
theorem iniX4_tryWalk_X8_cellBehind : Cond.initialized RX8 ∈ wsX4_tryWalk := by decide +kernel
abbrev MX4_passHour : Mi := (yX4_passHour, wsX4_passHour, cX4_passHour, RX4, 3, some .int, { frames := 3, cells := 0, slots := 0, locals := 67 })
theorem hdX4_passHour : (yX4_passHour).cls = RX4 ∧ (yX4_passHour).cls ≠ "java/lang/invoke/MethodHandle" ∧ (yX4_passHour).cls ≠ "java/lang/invoke/VarHandle" ∧ (parseMethodDescriptor (yX4_passHour).desc).map (fun d => d.parameters.length) = some 0 := by decide +kernel
theorem inX4_passHour : ∀ w ∈ u_ws RX4 TX4 2, w ∈ wsX4_passHour := by decide +kernel
theorem lkX4_passHour_11 : Cond.fieldLink RX4 11 "MudBoards$Shore" "row" "[I" ∈ wsX4_passHour := by decide +kernel
theorem lkX4_passHour_15 : Cond.fieldLink RX4 15 "MudBoards$Shore" "ground" "LMudBoards$Flat;" ∈ wsX4_passHour := by decide +kernel
theorem stX4_passHour_X8_bit : Cond.static yX8_bit ∈ wsX4_passHour := by decide +kernel
theorem iniX4_passHour_X8_bit : Cond.initialized RX8 ∈ wsX4_passHour := by decide +kernel
abbrev MX4_canDig : Mi := (yX4_canDig, wsX4_canDig, cX4_canDig, RX4, 4, some .boolean, { frames := 2, cells := 0, slots := 0, locals := 44 })
theorem hdX4_canDig : (yX4_canDig).cls = RX4 ∧ (yX4_canDig).cls ≠ "java/lang/invoke/MethodHandle" ∧ (yX4_canDig).cls ≠ "java/lang/invoke/VarHandle" ∧ (parseMethodDescriptor (yX4_canDig).desc).map (fun d => d.parameters.length) = some 2 := by decide +kernel
theorem inX4_canDig : ∀ w ∈ u_ws RX4 TX4 2, w ∈ wsX4_canDig := by decide +kernel
theorem lkX4_canDig_15 : Cond.fieldLink RX4 15 "MudBoards$Shore" "ground" "LMudBoards$Flat;" ∈ wsX4_canDig := by decide +kernel
abbrev MX4_tryDig : Mi := (yX4_tryDig, wsX4_tryDig, cX4_tryDig, RX4, 3, some .boolean, { frames := 3, cells := 0, slots := 0, locals := 67 })
theorem hdX4_tryDig : (yX4_tryDig).cls = RX4 ∧ (yX4_tryDig).cls ≠ "java/lang/invoke/MethodHandle" ∧ (yX4_tryDig).cls ≠ "java/lang/invoke/VarHandle" ∧ (parseMethodDescriptor (yX4_tryDig).desc).map (fun d => d.parameters.length) = some 2 := by decide +kernel
theorem inX4_tryDig : ∀ w ∈ u_ws RX4 TX4 2, w ∈ wsX4_tryDig := by decide +kernel
theorem lkX4_tryDig_11 : Cond.fieldLink RX4 11 "MudBoards$Shore" "row" "[I" ∈ wsX4_tryDig := by decide +kernel
abbrev MX4_digLeast : Mi := (yX4_digLeast, wsX4_digLeast, cX4_digLeast, RX4, 3, none, { frames := 4, cells := 0, slots := 0, locals := 89 })
theorem hdX4_digLeast : (yX4_digLeast).cls = RX4 ∧ (yX4_digLeast).cls ≠ "java/lang/invoke/MethodHandle" ∧ (yX4_digLeast).cls ≠ "java/lang/invoke/VarHandle" ∧ (parseMethodDescriptor (yX4_digLeast).desc).map (fun d => d.parameters.length) = some 1 := by decide +kernel
theorem inX4_digLeast : ∀ w ∈ u_ws RX4 TX4 2, w ∈ wsX4_digLeast := by decide +kernel
theorem lkX4_digLeast_15 : Cond.fieldLink RX4 15 "MudBoards$Shore" "ground" "LMudBoards$Flat;" ∈ wsX4_digLeast := by decide +kernel
abbrev MX4_layDown : Mi := (yX4_layDown, wsX4_layDown, cX4_layDown, RX4, 4, none, { frames := 2, cells := 0, slots := 0, locals := 44 })
theorem hdX4_layDown : (yX4_layDown).cls = RX4 ∧ (yX4_layDown).cls ≠ "java/lang/invoke/MethodHandle" ∧ (yX4_layDown).cls ≠ "java/lang/invoke/VarHandle" ∧ (parseMethodDescriptor (yX4_layDown).desc).map (fun d => d.parameters.length) = some 1 := by decide +kernel
theorem inX4_layDown : ∀ w ∈ u_ws RX4 TX4 2, w ∈ wsX4_layDown := by decide +kernel
theorem lkX4_layDown_11 : Cond.fieldLink RX4 11 "MudBoards$Shore" "row" "[I" ∈ wsX4_layDown := by decide +kernel
theorem stX4_layDown_X8_has : Cond.static yX8_has ∈ wsX4_layDown := by decide +kernel
theorem iniX4_layDown_X8_has : Cond.initialized RX8 ∈ wsX4_layDown := by decide +kernel
abbrev MX4_canSell : Mi := (yX4_canSell, wsX4_canSell, cX4_canSell, RX4, 2, some .boolean, { frames := 3, cells := 0, slots := 0, locals := 63 })
theorem hdX4_canSell : (yX4_canSell).cls = RX4 ∧ (yX4_canSell).cls ≠ "java/lang/invoke/MethodHandle" ∧ (yX4_canSell).cls ≠ "java/lang/invoke/VarHandle" ∧ (parseMethodDescriptor (yX4_canSell).desc).map (fun d => d.parameters.length) = some 1 := by decide +kernel
abbrev MX4_trySell : Mi := (yX4_trySell, wsX4_trySell, cX4_trySell, RX4, 4, some .boolean, { frames := 4, cells := 0, slots := 0, locals := 84 })
theorem hdX4_trySell : (yX4_trySell).cls = RX4 ∧ (yX4_trySell).cls ≠ "java/lang/invoke/MethodHandle" ∧ (yX4_trySell).cls ≠ "java/lang/invoke/VarHandle" ∧ (parseMethodDescriptor (yX4_trySell).desc).map (fun d => d.parameters.length) = some 1 := by decide +kernel
theorem inX4_trySell : ∀ w ∈ u_ws RX4 TX4 2, w ∈ wsX4_trySell := by decide +kernel
theorem lkX4_trySell_11 : Cond.fieldLink RX4 11 "MudBoards$Shore" "row" "[I" ∈ wsX4_trySell := by decide +kernel
theorem lkX4_trySell_15 : Cond.fieldLink RX4 15 "MudBoards$Shore" "ground" "LMudBoards$Flat;" ∈ wsX4_trySell := by decide +kernel
theorem stX4_trySell_X8_bit : Cond.static yX8_bit ∈ wsX4_trySell := by decide +kernel
theorem iniX4_trySell_X8_bit : Cond.initialized RX8 ∈ wsX4_trySell := by decide +kernel
theorem stX4_trySell_X8_has : Cond.static yX8_has ∈ wsX4_trySell := by decide +kernel
theorem iniX4_trySell_X8_has : Cond.initialized RX8 ∈ wsX4_trySell := by decide +kernel
abbrev MX5_size : Mi := (yX5_size, wsX5_size, cX5_size, RX5, 1, some .int, { frames := 0, cells := 0, slots := 0, locals := 0 })
theorem hdX5_size : (yX5_size).cls = RX5 ∧ (yX5_size).cls ≠ "java/lang/invoke/MethodHandle" ∧ (yX5_size).cls ≠ "java/lang/invoke/VarHandle" ∧ (parseMethodDescriptor (yX5_size).desc).map (fun d => d.parameters.length) = some 0 := by decide +kernel
theorem inX5_size : ∀ w ∈ u_ws RX5 TX5 4, w ∈ wsX5_size := by decide +kernel
theorem lkX5_size_22 : Cond.fieldLink RX5 22 "MudBoards$Sights" "size" "I" ∈ wsX5_size := by decide +kernel
abbrev MX5_clear : Mi := (yX5_clear, wsX5_clear, cX5_clear, RX5, 1, none, { frames := 0, cells := 0, slots := 0, locals := 0 })
theorem hdX5_clear : (yX5_clear).cls = RX5 ∧ (yX5_clear).cls ≠ "java/lang/invoke/MethodHandle" ∧ (yX5_clear).cls ≠ "java/lang/invoke/VarHandle" ∧ (parseMethodDescriptor (yX5_clear).desc).map (fun d => d.parameters.length) = some 0 := by decide +kernel
theorem inX5_clear : ∀ w ∈ u_ws RX5 TX5 4, w ∈ wsX5_clear := by decide +kernel
theorem lkX5_clear_22 : Cond.fieldLink RX5 22 "MudBoards$Sights" "size" "I" ∈ wsX5_clear := by decide +kernel
abbrev MX5_add : Mi := (yX5_add, wsX5_add, cX5_add, RX5, 4, some .boolean, { frames := 1, cells := 0, slots := 0, locals := 22 })
theorem hdX5_add : (yX5_add).cls = RX5 ∧ (yX5_add).cls ≠ "java/lang/invoke/MethodHandle" ∧ (yX5_add).cls ≠ "java/lang/invoke/VarHandle" ∧ (parseMethodDescriptor (yX5_add).desc).map (fun d => d.parameters.length) = some 3 := by decide +kernel
theorem inX5_add : ∀ w ∈ u_ws RX5 TX5 4, w ∈ wsX5_add := by decide +kernel
theorem lkX5_add_9 : Cond.fieldLink RX5 9 "MudBoards$Sights" "cells" "[I" ∈ wsX5_add := by decide +kernel
theorem lkX5_add_15 : Cond.fieldLink RX5 15 "MudBoards$Sights" "hours" "[I" ∈ wsX5_add := by decide +kernel
theorem lkX5_add_18 : Cond.fieldLink RX5 18 "MudBoards$Sights" "bare" "[Z" ∈ wsX5_add := by decide +kernel
theorem lkX5_add_22 : Cond.fieldLink RX5 22 "MudBoards$Sights" "size" "I" ∈ wsX5_add := by decide +kernel
theorem stX5_add_X8_within : Cond.static yX8_within ∈ wsX5_add := by decide +kernel
theorem iniX5_add_X8_within : Cond.initialized RX8 ∈ wsX5_add := by decide +kernel
abbrev MX5_fitHour : Mi := (yX5_fitHour, wsX5_fitHour, cX5_fitHour, RX5, 4, some .boolean, { frames := 2, cells := 0, slots := 0, locals := 43 })
theorem hdX5_fitHour : (yX5_fitHour).cls = RX5 ∧ (yX5_fitHour).cls ≠ "java/lang/invoke/MethodHandle" ∧ (yX5_fitHour).cls ≠ "java/lang/invoke/VarHandle" ∧ (parseMethodDescriptor (yX5_fitHour).desc).map (fun d => d.parameters.length) = some 2 := by decide +kernel
theorem inX5_fitHour : ∀ w ∈ u_ws RX5 TX5 4, w ∈ wsX5_fitHour := by decide +kernel
theorem lkX5_fitHour_9 : Cond.fieldLink RX5 9 "MudBoards$Sights" "cells" "[I" ∈ wsX5_fitHour := by decide +kernel
theorem lkX5_fitHour_15 : Cond.fieldLink RX5 15 "MudBoards$Sights" "hours" "[I" ∈ wsX5_fitHour := by decide +kernel
theorem lkX5_fitHour_18 : Cond.fieldLink RX5 18 "MudBoards$Sights" "bare" "[Z" ∈ wsX5_fitHour := by decide +kernel
theorem lkX5_fitHour_22 : Cond.fieldLink RX5 22 "MudBoards$Sights" "size" "I" ∈ wsX5_fitHour := by decide +kernel
abbrev MX6_forgetAll : Mi := (yX6_forgetAll, wsX6_forgetAll, cX6_forgetAll, RX6, 1, none, { frames := 0, cells := 0, slots := 0, locals := 0 })
theorem hdX6_forgetAll : (yX6_forgetAll).cls = RX6 ∧ (yX6_forgetAll).cls ≠ "java/lang/invoke/MethodHandle" ∧ (yX6_forgetAll).cls ≠ "java/lang/invoke/VarHandle" ∧ (parseMethodDescriptor (yX6_forgetAll).desc).map (fun d => d.parameters.length) = some 0 := by decide +kernel
theorem inX6_forgetAll : ∀ w ∈ u_ws RX6 TX6 2, w ∈ wsX6_forgetAll := by decide +kernel
theorem lkX6_forgetAll_17 : Cond.fieldLink RX6 17 "MudBoards$Slots" "filled" "I" ∈ wsX6_forgetAll := by decide +kernel
abbrev MX6_isFilled : Mi := (yX6_isFilled, wsX6_isFilled, cX6_isFilled, RX6, 2, some .boolean, { frames := 1, cells := 0, slots := 0, locals := 22 })
theorem hdX6_isFilled : (yX6_isFilled).cls = RX6 ∧ (yX6_isFilled).cls ≠ "java/lang/invoke/MethodHandle" ∧ (yX6_isFilled).cls ≠ "java/lang/invoke/VarHandle" ∧ (parseMethodDescriptor (yX6_isFilled).desc).map (fun d => d.parameters.length) = some 1 := by decide +kernel
theorem inX6_isFilled : ∀ w ∈ u_ws RX6 TX6 2, w ∈ wsX6_isFilled := by decide +kernel
theorem lkX6_isFilled_17 : Cond.fieldLink RX6 17 "MudBoards$Slots" "filled" "I" ∈ wsX6_isFilled := by decide +kernel
theorem stX6_isFilled_X8_has : Cond.static yX8_has ∈ wsX6_isFilled := by decide +kernel
theorem iniX6_isFilled_X8_has : Cond.initialized RX8 ∈ wsX6_isFilled := by decide +kernel
theorem stX6_isFilled_X8_within : Cond.static yX8_within ∈ wsX6_isFilled := by decide +kernel
theorem iniX6_isFilled_X8_within : Cond.initialized RX8 ∈ wsX6_isFilled := by decide +kernel
abbrev MX6_store : Mi := (yX6_store, wsX6_store, cX6_store, RX6, 3, none, { frames := 2, cells := 0, slots := 0, locals := 44 })
theorem hdX6_store : (yX6_store).cls = RX6 ∧ (yX6_store).cls ≠ "java/lang/invoke/MethodHandle" ∧ (yX6_store).cls ≠ "java/lang/invoke/VarHandle" ∧ (parseMethodDescriptor (yX6_store).desc).map (fun d => d.parameters.length) = some 2 := by decide +kernel
theorem inX6_store : ∀ w ∈ u_ws RX6 TX6 2, w ∈ wsX6_store := by decide +kernel
theorem lkX6_store_11 : Cond.fieldLink RX6 11 "MudBoards$Slots" "rows" "[I" ∈ wsX6_store := by decide +kernel
theorem lkX6_store_17 : Cond.fieldLink RX6 17 "MudBoards$Slots" "filled" "I" ∈ wsX6_store := by decide +kernel
theorem stX6_store_X8_bit : Cond.static yX8_bit ∈ wsX6_store := by decide +kernel
theorem iniX6_store_X8_bit : Cond.initialized RX8 ∈ wsX6_store := by decide +kernel
theorem stX6_store_X8_within : Cond.static yX8_within ∈ wsX6_store := by decide +kernel
theorem iniX6_store_X8_within : Cond.initialized RX8 ∈ wsX6_store := by decide +kernel
abbrev MX6_bringBack : Mi := (yX6_bringBack, wsX6_bringBack, cX6_bringBack, RX6, 3, none, { frames := 2, cells := 0, slots := 0, locals := 44 })
theorem hdX6_bringBack : (yX6_bringBack).cls = RX6 ∧ (yX6_bringBack).cls ≠ "java/lang/invoke/MethodHandle" ∧ (yX6_bringBack).cls ≠ "java/lang/invoke/VarHandle" ∧ (parseMethodDescriptor (yX6_bringBack).desc).map (fun d => d.parameters.length) = some 2 := by decide +kernel
theorem inX6_bringBack : ∀ w ∈ u_ws RX6 TX6 2, w ∈ wsX6_bringBack := by decide +kernel
theorem lkX6_bringBack_11 : Cond.fieldLink RX6 11 "MudBoards$Slots" "rows" "[I" ∈ wsX6_bringBack := by decide +kernel
abbrev MX7_length : Mi := (yX7_length, wsX7_length, cX7_length, RX7, 1, some .int, { frames := 0, cells := 0, slots := 0, locals := 0 })
theorem hdX7_length : (yX7_length).cls = RX7 ∧ (yX7_length).cls ≠ "java/lang/invoke/MethodHandle" ∧ (yX7_length).cls ≠ "java/lang/invoke/VarHandle" ∧ (parseMethodDescriptor (yX7_length).desc).map (fun d => d.parameters.length) = some 0 := by decide +kernel
theorem inX7_length : ∀ w ∈ u_ws RX7 TX7 5, w ∈ wsX7_length := by decide +kernel
theorem lkX7_length_15 : Cond.fieldLink RX7 15 "MudBoards$Text" "length" "I" ∈ wsX7_length := by decide +kernel
abbrev MX7_add : Mi := (yX7_add, wsX7_add, cX7_add, RX7, 2, some .boolean, { frames := 1, cells := 0, slots := 0, locals := 22 })
theorem hdX7_add : (yX7_add).cls = RX7 ∧ (yX7_add).cls ≠ "java/lang/invoke/MethodHandle" ∧ (yX7_add).cls ≠ "java/lang/invoke/VarHandle" ∧ (parseMethodDescriptor (yX7_add).desc).map (fun d => d.parameters.length) = some 1 := by decide +kernel
theorem inX7_add : ∀ w ∈ u_ws RX7 TX7 5, w ∈ wsX7_add := by decide +kernel
theorem lkX7_add_9 : Cond.fieldLink RX7 9 "MudBoards$Text" "letters" "[I" ∈ wsX7_add := by decide +kernel
theorem lkX7_add_15 : Cond.fieldLink RX7 15 "MudBoards$Text" "length" "I" ∈ wsX7_add := by decide +kernel
theorem stX7_add_X8_within : Cond.static yX8_within ∈ wsX7_add := by decide +kernel
theorem iniX7_add_X8_within : Cond.initialized RX8 ∈ wsX7_add := by decide +kernel
abbrev MX7_clear : Mi := (yX7_clear, wsX7_clear, cX7_clear, RX7, 1, none, { frames := 0, cells := 0, slots := 0, locals := 0 })
theorem hdX7_clear : (yX7_clear).cls = RX7 ∧ (yX7_clear).cls ≠ "java/lang/invoke/MethodHandle" ∧ (yX7_clear).cls ≠ "java/lang/invoke/VarHandle" ∧ (parseMethodDescriptor (yX7_clear).desc).map (fun d => d.parameters.length) = some 0 := by decide +kernel
theorem inX7_clear : ∀ w ∈ u_ws RX7 TX7 5, w ∈ wsX7_clear := by decide +kernel
theorem lkX7_clear_15 : Cond.fieldLink RX7 15 "MudBoards$Text" "length" "I" ∈ wsX7_clear := by decide +kernel
abbrev MX7_letterAt : Mi := (yX7_letterAt, wsX7_letterAt, cX7_letterAt, RX7, 2, some .int, { frames := 1, cells := 0, slots := 0, locals := 22 })
theorem hdX7_letterAt : (yX7_letterAt).cls = RX7 ∧ (yX7_letterAt).cls ≠ "java/lang/invoke/MethodHandle" ∧ (yX7_letterAt).cls ≠ "java/lang/invoke/VarHandle" ∧ (parseMethodDescriptor (yX7_letterAt).desc).map (fun d => d.parameters.length) = some 1 := by decide +kernel
theorem inX7_letterAt : ∀ w ∈ u_ws RX7 TX7 5, w ∈ wsX7_letterAt := by decide +kernel
theorem lkX7_letterAt_9 : Cond.fieldLink RX7 9 "MudBoards$Text" "letters" "[I" ∈ wsX7_letterAt := by decide +kernel
theorem lkX7_letterAt_15 : Cond.fieldLink RX7 15 "MudBoards$Text" "length" "I" ∈ wsX7_letterAt := by decide +kernel
theorem stX7_letterAt_X8_within : Cond.static yX8_within ∈ wsX7_letterAt := by decide +kernel
theorem iniX7_letterAt_X8_within : Cond.initialized RX8 ∈ wsX7_letterAt := by decide +kernel
abbrev MX7_firstFault : Mi := (yX7_firstFault, wsX7_firstFault, cX7_firstFault, RX7, 3, some .int, { frames := 3, cells := 0, slots := 0, locals := 66 })
theorem hdX7_firstFault : (yX7_firstFault).cls = RX7 ∧ (yX7_firstFault).cls ≠ "java/lang/invoke/MethodHandle" ∧ (yX7_firstFault).cls ≠ "java/lang/invoke/VarHandle" ∧ (parseMethodDescriptor (yX7_firstFault).desc).map (fun d => d.parameters.length) = some 0 := by decide +kernel
theorem inX7_firstFault : ∀ w ∈ u_ws RX7 TX7 5, w ∈ wsX7_firstFault := by decide +kernel
theorem lkX7_firstFault_15 : Cond.fieldLink RX7 15 "MudBoards$Text" "length" "I" ∈ wsX7_firstFault := by decide +kernel
theorem lkX7_firstFault_23 : Cond.fieldLink RX7 23 "MudBoards$Text" "tidesTold" "I" ∈ wsX7_firstFault := by decide +kernel
theorem lkX7_firstFault_26 : Cond.fieldLink RX7 26 "MudBoards$Text" "findsTold" "I" ∈ wsX7_firstFault := by decide +kernel
theorem lkX7_firstFault_29 : Cond.fieldLink RX7 29 "MudBoards$Text" "larksTold" "I" ∈ wsX7_firstFault := by decide +kernel
abbrev MX7_askedBehind : Mi := (yX7_askedBehind, wsX7_askedBehind, cX7_askedBehind, RX7, 4, some .int, { frames := 2, cells := 0, slots := 0, locals := 43 })
theorem hdX7_askedBehind : (yX7_askedBehind).cls = RX7 ∧ (yX7_askedBehind).cls ≠ "java/lang/invoke/MethodHandle" ∧ (yX7_askedBehind).cls ≠ "java/lang/invoke/VarHandle" ∧ (parseMethodDescriptor (yX7_askedBehind).desc).map (fun d => d.parameters.length) = some 2 := by decide +kernel
abbrev MX7_askedInPart : Mi := (yX7_askedInPart, wsX7_askedInPart, cX7_askedInPart, RX7, 2, some .int, { frames := 0, cells := 0, slots := 0, locals := 0 })
theorem hdX7_askedInPart : (yX7_askedInPart).cls = RX7 ∧ (yX7_askedInPart).cls ≠ "java/lang/invoke/MethodHandle" ∧ (yX7_askedInPart).cls ≠ "java/lang/invoke/VarHandle" ∧ (parseMethodDescriptor (yX7_askedInPart).desc).map (fun d => d.parameters.length) = some 1 := by decide +kernel
theorem inX7_askedInPart : ∀ w ∈ u_ws RX7 TX7 5, w ∈ wsX7_askedInPart := by decide +kernel
theorem lkX7_askedInPart_23 : Cond.fieldLink RX7 23 "MudBoards$Text" "tidesTold" "I" ∈ wsX7_askedInPart := by decide +kernel
theorem lkX7_askedInPart_26 : Cond.fieldLink RX7 26 "MudBoards$Text" "findsTold" "I" ∈ wsX7_askedInPart := by decide +kernel
theorem lkX7_askedInPart_29 : Cond.fieldLink RX7 29 "MudBoards$Text" "larksTold" "I" ∈ wsX7_askedInPart := by decide +kernel
abbrev MX7_fits : Mi := (yX7_fits, wsX7_fits, cX7_fits, RX7, 2, some .boolean, { frames := 1, cells := 0, slots := 0, locals := 22 })
theorem hdX7_fits : (yX7_fits).cls ≠ "java/lang/invoke/MethodHandle" ∧ (yX7_fits).cls ≠ "java/lang/invoke/VarHandle" ∧ (parseMethodDescriptor (yX7_fits).desc).map (fun d => d.parameters.length) = some 2 := by decide +kernel
theorem stX7_fits_X8_within : Cond.static yX8_within ∈ wsX7_fits := by decide +kernel
theorem iniX7_fits_X8_within : Cond.initialized RX8 ∈ wsX7_fits := by decide +kernel
abbrev MJ6_bitCount_0f7a4 : Mi := (yJ6_bitCount_0f7a4, wsJ6_bitCount_0f7a4, cJ6_bitCount_0f7a4, RJ6, 1, some .int, { frames := 0, cells := 0, slots := 0, locals := 0 })
theorem hdJ6_bitCount_0f7a4 : (yJ6_bitCount_0f7a4).cls ≠ "java/lang/invoke/MethodHandle" ∧ (yJ6_bitCount_0f7a4).cls ≠ "java/lang/invoke/VarHandle" ∧ (parseMethodDescriptor (yJ6_bitCount_0f7a4).desc).map (fun d => d.parameters.length) = some 1 := by decide +kernel
