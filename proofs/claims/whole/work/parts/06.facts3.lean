abbrev MX9_in : Mi := (yX9_in, wsX9_in, cX9_in, RX9, 6, some .boolean, { frames := 0, cells := 0, slots := 0, locals := 0 })
theorem hdX9_in : (yX9_in).cls ≠ "java/lang/invoke/MethodHandle" ∧ (yX9_in).cls ≠ "java/lang/invoke/VarHandle" ∧ (parseMethodDescriptor (yX9_in).desc).map (fun d => d.parameters.length) = some 3 := by decide +kernel
abbrev MX9_has : Mi := (yX9_has, wsX9_has, cX9_has, RX9, 2, some .boolean, { frames := 0, cells := 0, slots := 0, locals := 0 })
theorem hdX9_has : (yX9_has).cls ≠ "java/lang/invoke/MethodHandle" ∧ (yX9_has).cls ≠ "java/lang/invoke/VarHandle" ∧ (parseMethodDescriptor (yX9_has).desc).map (fun d => d.parameters.length) = some 2 := by decide +kernel
abbrev MX9_ones : Mi := (yX9_ones, wsX9_ones, cX9_ones, RX9, 3, some .int, { frames := 0, cells := 0, slots := 0, locals := 0 })
theorem hdX9_ones : (yX9_ones).cls ≠ "java/lang/invoke/MethodHandle" ∧ (yX9_ones).cls ≠ "java/lang/invoke/VarHandle" ∧ (parseMethodDescriptor (yX9_ones).desc).map (fun d => d.parameters.length) = some 1 := by decide +kernel
abbrev MX9_write : Mi := (yX9_write, wsX9_write, cX9_write, RX9, 2, some .int, { frames := 1, cells := 0, slots := 0, locals := 25 })
theorem hdX9_write : (yX9_write).cls = RX9 ∧ (yX9_write).cls ≠ "java/lang/invoke/MethodHandle" ∧ (yX9_write).cls ≠ "java/lang/invoke/VarHandle" ∧ (parseMethodDescriptor (yX9_write).desc).map (fun d => d.parameters.length) = some 1 := by decide +kernel
theorem inX9_write : ∀ w ∈ u_ws RX9 TX9 31, w ∈ wsX9_write := by decide +kernel
theorem lkX9_write_40 : Cond.fieldLink RX9 40 "MudBoardsModel" "text" "[I" ∈ wsX9_write := by decide +kernel
theorem lkX9_write_71 : Cond.fieldLink RX9 71 "MudBoardsModel" "length" "I" ∈ wsX9_write := by decide +kernel
abbrev MX9_wipe : Mi := (yX9_wipe, wsX9_wipe, cX9_wipe, RX9, 2, some .int, { frames := 0, cells := 0, slots := 0, locals := 0 })
theorem hdX9_wipe : (yX9_wipe).cls = RX9 ∧ (yX9_wipe).cls ≠ "java/lang/invoke/MethodHandle" ∧ (yX9_wipe).cls ≠ "java/lang/invoke/VarHandle" ∧ (parseMethodDescriptor (yX9_wipe).desc).map (fun d => d.parameters.length) = some 0 := by decide +kernel
theorem inX9_wipe : ∀ w ∈ u_ws RX9 TX9 31, w ∈ wsX9_wipe := by decide +kernel
theorem lkX9_wipe_71 : Cond.fieldLink RX9 71 "MudBoardsModel" "length" "I" ∈ wsX9_wipe := by decide +kernel
abbrev MX9_nextOf : Mi := (yX9_nextOf, wsX9_nextOf, cX9_nextOf, RX9, 6, some .int, { frames := 1, cells := 0, slots := 0, locals := 25 })
theorem hdX9_nextOf : (yX9_nextOf).cls = RX9 ∧ (yX9_nextOf).cls ≠ "java/lang/invoke/MethodHandle" ∧ (yX9_nextOf).cls ≠ "java/lang/invoke/VarHandle" ∧ (parseMethodDescriptor (yX9_nextOf).desc).map (fun d => d.parameters.length) = some 3 := by decide +kernel
theorem inX9_nextOf : ∀ w ∈ u_ws RX9 TX9 31, w ∈ wsX9_nextOf := by decide +kernel
theorem lkX9_nextOf_40 : Cond.fieldLink RX9 40 "MudBoardsModel" "text" "[I" ∈ wsX9_nextOf := by decide +kernel
theorem lkX9_nextOf_71 : Cond.fieldLink RX9 71 "MudBoardsModel" "length" "I" ∈ wsX9_nextOf := by decide +kernel
theorem lkX9_nextOf_75 : Cond.fieldLink RX9 75 "MudBoardsModel" "faultAt" "I" ∈ wsX9_nextOf := by decide +kernel
theorem lkX9_nextOf_78 : Cond.fieldLink RX9 78 "MudBoardsModel" "at" "I" ∈ wsX9_nextOf := by decide +kernel
abbrev MX9_readText : Mi := (yX9_readText, wsX9_readText, cX9_readText, RX9, 2, some .int, { frames := 3, cells := 0, slots := 0, locals := 71 })
theorem hdX9_readText : (yX9_readText).cls = RX9 ∧ (yX9_readText).cls ≠ "java/lang/invoke/MethodHandle" ∧ (yX9_readText).cls ≠ "java/lang/invoke/VarHandle" ∧ (parseMethodDescriptor (yX9_readText).desc).map (fun d => d.parameters.length) = some 0 := by decide +kernel
theorem inX9_readText : ∀ w ∈ u_ws RX9 TX9 31, w ∈ wsX9_readText := by decide +kernel
theorem lkX9_readText_28 : Cond.fieldLink RX9 28 "MudBoardsModel" "readHeight" "[I" ∈ wsX9_readText := by decide +kernel
theorem lkX9_readText_40 : Cond.fieldLink RX9 40 "MudBoardsModel" "text" "[I" ∈ wsX9_readText := by decide +kernel
theorem lkX9_readText_71 : Cond.fieldLink RX9 71 "MudBoardsModel" "length" "I" ∈ wsX9_readText := by decide +kernel
theorem lkX9_readText_75 : Cond.fieldLink RX9 75 "MudBoardsModel" "faultAt" "I" ∈ wsX9_readText := by decide +kernel
theorem lkX9_readText_78 : Cond.fieldLink RX9 78 "MudBoardsModel" "at" "I" ∈ wsX9_readText := by decide +kernel
theorem lkX9_readText_81 : Cond.fieldLink RX9 81 "MudBoardsModel" "readTides" "I" ∈ wsX9_readText := by decide +kernel
theorem lkX9_readText_84 : Cond.fieldLink RX9 84 "MudBoardsModel" "readFinds" "I" ∈ wsX9_readText := by decide +kernel
theorem lkX9_readText_87 : Cond.fieldLink RX9 87 "MudBoardsModel" "readLarks" "I" ∈ wsX9_readText := by decide +kernel
abbrev MX9_readPart : Mi := (yX9_readPart, wsX9_readPart, cX9_readPart, RX9, 2, none, { frames := 2, cells := 0, slots := 0, locals := 50 })
theorem hdX9_readPart : (yX9_readPart).cls = RX9 ∧ (yX9_readPart).cls ≠ "java/lang/invoke/MethodHandle" ∧ (yX9_readPart).cls ≠ "java/lang/invoke/VarHandle" ∧ (parseMethodDescriptor (yX9_readPart).desc).map (fun d => d.parameters.length) = some 1 := by decide +kernel
theorem inX9_readPart : ∀ w ∈ u_ws RX9 TX9 31, w ∈ wsX9_readPart := by decide +kernel
theorem lkX9_readPart_31 : Cond.fieldLink RX9 31 "MudBoardsModel" "readTide" "[I" ∈ wsX9_readPart := by decide +kernel
theorem lkX9_readPart_34 : Cond.fieldLink RX9 34 "MudBoardsModel" "readFind" "[I" ∈ wsX9_readPart := by decide +kernel
theorem lkX9_readPart_37 : Cond.fieldLink RX9 37 "MudBoardsModel" "readLark" "[I" ∈ wsX9_readPart := by decide +kernel
theorem lkX9_readPart_75 : Cond.fieldLink RX9 75 "MudBoardsModel" "faultAt" "I" ∈ wsX9_readPart := by decide +kernel
theorem lkX9_readPart_78 : Cond.fieldLink RX9 78 "MudBoardsModel" "at" "I" ∈ wsX9_readPart := by decide +kernel
theorem lkX9_readPart_81 : Cond.fieldLink RX9 81 "MudBoardsModel" "readTides" "I" ∈ wsX9_readPart := by decide +kernel
theorem lkX9_readPart_84 : Cond.fieldLink RX9 84 "MudBoardsModel" "readFinds" "I" ∈ wsX9_readPart := by decide +kernel
theorem lkX9_readPart_87 : Cond.fieldLink RX9 87 "MudBoardsModel" "readLarks" "I" ∈ wsX9_readPart := by decide +kernel
abbrev MX9_fault : Mi := (yX9_fault, wsX9_fault, cX9_fault, RX9, 1, some .int, { frames := 4, cells := 0, slots := 0, locals := 92 })
theorem hdX9_fault : (yX9_fault).cls = RX9 ∧ (yX9_fault).cls ≠ "java/lang/invoke/MethodHandle" ∧ (yX9_fault).cls ≠ "java/lang/invoke/VarHandle" ∧ (parseMethodDescriptor (yX9_fault).desc).map (fun d => d.parameters.length) = some 0 := by decide +kernel
abbrev MX9_flat : Mi := (yX9_flat, wsX9_flat, cX9_flat, RX9, 2, some .int, { frames := 4, cells := 0, slots := 0, locals := 92 })
theorem hdX9_flat : (yX9_flat).cls = RX9 ∧ (yX9_flat).cls ≠ "java/lang/invoke/MethodHandle" ∧ (yX9_flat).cls ≠ "java/lang/invoke/VarHandle" ∧ (parseMethodDescriptor (yX9_flat).desc).map (fun d => d.parameters.length) = some 0 := by decide +kernel
theorem inX9_flat : ∀ w ∈ u_ws RX9 TX9 31, w ∈ wsX9_flat := by decide +kernel
theorem lkX9_flat_7 : Cond.fieldLink RX9 7 "MudBoardsModel" "height" "[I" ∈ wsX9_flat := by decide +kernel
theorem lkX9_flat_13 : Cond.fieldLink RX9 13 "MudBoardsModel" "tide" "[I" ∈ wsX9_flat := by decide +kernel
theorem lkX9_flat_16 : Cond.fieldLink RX9 16 "MudBoardsModel" "age" "[I" ∈ wsX9_flat := by decide +kernel
theorem lkX9_flat_19 : Cond.fieldLink RX9 19 "MudBoardsModel" "kind" "[I" ∈ wsX9_flat := by decide +kernel
theorem lkX9_flat_22 : Cond.fieldLink RX9 22 "MudBoardsModel" "board" "[I" ∈ wsX9_flat := by decide +kernel
theorem lkX9_flat_25 : Cond.fieldLink RX9 25 "MudBoardsModel" "now" "[I" ∈ wsX9_flat := by decide +kernel
theorem lkX9_flat_28 : Cond.fieldLink RX9 28 "MudBoardsModel" "readHeight" "[I" ∈ wsX9_flat := by decide +kernel
theorem lkX9_flat_31 : Cond.fieldLink RX9 31 "MudBoardsModel" "readTide" "[I" ∈ wsX9_flat := by decide +kernel
theorem lkX9_flat_34 : Cond.fieldLink RX9 34 "MudBoardsModel" "readFind" "[I" ∈ wsX9_flat := by decide +kernel
theorem lkX9_flat_37 : Cond.fieldLink RX9 37 "MudBoardsModel" "readLark" "[I" ∈ wsX9_flat := by decide +kernel
theorem lkX9_flat_58 : Cond.fieldLink RX9 58 "MudBoardsModel" "isKept" "[Z" ∈ wsX9_flat := by decide +kernel
theorem lkX9_flat_81 : Cond.fieldLink RX9 81 "MudBoardsModel" "readTides" "I" ∈ wsX9_flat := by decide +kernel
theorem lkX9_flat_84 : Cond.fieldLink RX9 84 "MudBoardsModel" "readFinds" "I" ∈ wsX9_flat := by decide +kernel
theorem lkX9_flat_87 : Cond.fieldLink RX9 87 "MudBoardsModel" "readLarks" "I" ∈ wsX9_flat := by decide +kernel
theorem lkX9_flat_102 : Cond.fieldLink RX9 102 "MudBoardsModel" "tides" "I" ∈ wsX9_flat := by decide +kernel
theorem lkX9_flat_105 : Cond.fieldLink RX9 105 "MudBoardsModel" "finds" "I" ∈ wsX9_flat := by decide +kernel
theorem lkX9_flat_108 : Cond.fieldLink RX9 108 "MudBoardsModel" "larks" "I" ∈ wsX9_flat := by decide +kernel
theorem lkX9_flat_111 : Cond.fieldLink RX9 111 "MudBoardsModel" "acts" "I" ∈ wsX9_flat := by decide +kernel
abbrev MX9_isCell : Mi := (yX9_isCell, wsX9_isCell, cX9_isCell, RX9, 1, some .boolean, { frames := 1, cells := 0, slots := 0, locals := 25 })
theorem hdX9_isCell : (yX9_isCell).cls ≠ "java/lang/invoke/MethodHandle" ∧ (yX9_isCell).cls ≠ "java/lang/invoke/VarHandle" ∧ (parseMethodDescriptor (yX9_isCell).desc).map (fun d => d.parameters.length) = some 1 := by decide +kernel
abbrev MX9_isFind : Mi := (yX9_isFind, wsX9_isFind, cX9_isFind, RX9, 2, some .boolean, { frames := 1, cells := 0, slots := 0, locals := 25 })
theorem hdX9_isFind : (yX9_isFind).cls = RX9 ∧ (yX9_isFind).cls ≠ "java/lang/invoke/MethodHandle" ∧ (yX9_isFind).cls ≠ "java/lang/invoke/VarHandle" ∧ (parseMethodDescriptor (yX9_isFind).desc).map (fun d => d.parameters.length) = some 1 := by decide +kernel
theorem inX9_isFind : ∀ w ∈ u_ws RX9 TX9 31, w ∈ wsX9_isFind := by decide +kernel
theorem lkX9_isFind_105 : Cond.fieldLink RX9 105 "MudBoardsModel" "finds" "I" ∈ wsX9_isFind := by decide +kernel
abbrev MX9_isLark : Mi := (yX9_isLark, wsX9_isLark, cX9_isLark, RX9, 2, some .boolean, { frames := 1, cells := 0, slots := 0, locals := 25 })
theorem hdX9_isLark : (yX9_isLark).cls = RX9 ∧ (yX9_isLark).cls ≠ "java/lang/invoke/MethodHandle" ∧ (yX9_isLark).cls ≠ "java/lang/invoke/VarHandle" ∧ (parseMethodDescriptor (yX9_isLark).desc).map (fun d => d.parameters.length) = some 1 := by decide +kernel
theorem inX9_isLark : ∀ w ∈ u_ws RX9 TX9 31, w ∈ wsX9_isLark := by decide +kernel
theorem lkX9_isLark_108 : Cond.fieldLink RX9 108 "MudBoardsModel" "larks" "I" ∈ wsX9_isLark := by decide +kernel
abbrev MX9_waterOf : Mi := (yX9_waterOf, wsX9_waterOf, cX9_waterOf, RX9, 2, some .int, { frames := 0, cells := 0, slots := 0, locals := 0 })
theorem hdX9_waterOf : (yX9_waterOf).cls = RX9 ∧ (yX9_waterOf).cls ≠ "java/lang/invoke/MethodHandle" ∧ (yX9_waterOf).cls ≠ "java/lang/invoke/VarHandle" ∧ (parseMethodDescriptor (yX9_waterOf).desc).map (fun d => d.parameters.length) = some 1 := by decide +kernel
theorem inX9_waterOf : ∀ w ∈ u_ws RX9 TX9 31, w ∈ wsX9_waterOf := by decide +kernel
theorem lkX9_waterOf_13 : Cond.fieldLink RX9 13 "MudBoardsModel" "tide" "[I" ∈ wsX9_waterOf := by decide +kernel
theorem lkX9_waterOf_102 : Cond.fieldLink RX9 102 "MudBoardsModel" "tides" "I" ∈ wsX9_waterOf := by decide +kernel
abbrev MX9_isBare : Mi := (yX9_isBare, wsX9_isBare, cX9_isBare, RX9, 3, some .boolean, { frames := 1, cells := 0, slots := 0, locals := 21 })
theorem hdX9_isBare : (yX9_isBare).cls = RX9 ∧ (yX9_isBare).cls ≠ "java/lang/invoke/MethodHandle" ∧ (yX9_isBare).cls ≠ "java/lang/invoke/VarHandle" ∧ (parseMethodDescriptor (yX9_isBare).desc).map (fun d => d.parameters.length) = some 2 := by decide +kernel
theorem inX9_isBare : ∀ w ∈ u_ws RX9 TX9 31, w ∈ wsX9_isBare := by decide +kernel
theorem lkX9_isBare_7 : Cond.fieldLink RX9 7 "MudBoardsModel" "height" "[I" ∈ wsX9_isBare := by decide +kernel
abbrev MX9_stands : Mi := (yX9_stands, wsX9_stands, cX9_stands, RX9, 4, some .boolean, { frames := 1, cells := 0, slots := 0, locals := 21 })
theorem hdX9_stands : (yX9_stands).cls = RX9 ∧ (yX9_stands).cls ≠ "java/lang/invoke/MethodHandle" ∧ (yX9_stands).cls ≠ "java/lang/invoke/VarHandle" ∧ (parseMethodDescriptor (yX9_stands).desc).map (fun d => d.parameters.length) = some 3 := by decide +kernel
theorem inX9_stands : ∀ w ∈ u_ws RX9 TX9 31, w ∈ wsX9_stands := by decide +kernel
theorem lkX9_stands_7 : Cond.fieldLink RX9 7 "MudBoardsModel" "height" "[I" ∈ wsX9_stands := by decide +kernel
theorem lkX9_stands_22 : Cond.fieldLink RX9 22 "MudBoardsModel" "board" "[I" ∈ wsX9_stands := by decide +kernel
abbrev MX9_goneTo : Mi := (yX9_goneTo, wsX9_goneTo, cX9_goneTo, RX9, 2, some .int, { frames := 0, cells := 0, slots := 0, locals := 0 })
theorem hdX9_goneTo : (yX9_goneTo).cls ≠ "java/lang/invoke/MethodHandle" ∧ (yX9_goneTo).cls ≠ "java/lang/invoke/VarHandle" ∧ (parseMethodDescriptor (yX9_goneTo).desc).map (fun d => d.parameters.length) = some 2 := by decide +kernel
abbrev MX9_canWalk : Mi := (yX9_canWalk, wsX9_canWalk, cX9_canWalk, RX9, 6, some .boolean, { frames := 2, cells := 0, slots := 0, locals := 46 })
theorem hdX9_canWalk : (yX9_canWalk).cls = RX9 ∧ (yX9_canWalk).cls ≠ "java/lang/invoke/MethodHandle" ∧ (yX9_canWalk).cls ≠ "java/lang/invoke/VarHandle" ∧ (parseMethodDescriptor (yX9_canWalk).desc).map (fun d => d.parameters.length) = some 3 := by decide +kernel
theorem inX9_canWalk : ∀ w ∈ u_ws RX9 TX9 31, w ∈ wsX9_canWalk := by decide +kernel
theorem lkX9_canWalk_25 : Cond.fieldLink RX9 25 "MudBoardsModel" "now" "[I" ∈ wsX9_canWalk := by decide +kernel
abbrev MX9_walkOn : Mi := (yX9_walkOn, wsX9_walkOn, cX9_walkOn, RX9, 4, none, { frames := 1, cells := 0, slots := 0, locals := 21 })
theorem hdX9_walkOn : (yX9_walkOn).cls = RX9 ∧ (yX9_walkOn).cls ≠ "java/lang/invoke/MethodHandle" ∧ (yX9_walkOn).cls ≠ "java/lang/invoke/VarHandle" ∧ (parseMethodDescriptor (yX9_walkOn).desc).map (fun d => d.parameters.length) = some 3 := by decide +kernel
theorem inX9_walkOn : ∀ w ∈ u_ws RX9 TX9 31, w ∈ wsX9_walkOn := by decide +kernel
theorem lkX9_walkOn_25 : Cond.fieldLink RX9 25 "MudBoardsModel" "now" "[I" ∈ wsX9_walkOn := by decide +kernel
abbrev MX9_carriedBy : Mi := (yX9_carriedBy, wsX9_carriedBy, cX9_carriedBy, RX9, 5, some .int, { frames := 0, cells := 0, slots := 0, locals := 0 })
theorem hdX9_carriedBy : (yX9_carriedBy).cls = RX9 ∧ (yX9_carriedBy).cls ≠ "java/lang/invoke/MethodHandle" ∧ (yX9_carriedBy).cls ≠ "java/lang/invoke/VarHandle" ∧ (parseMethodDescriptor (yX9_carriedBy).desc).map (fun d => d.parameters.length) = some 2 := by decide +kernel
theorem inX9_carriedBy : ∀ w ∈ u_ws RX9 TX9 31, w ∈ wsX9_carriedBy := by decide +kernel
theorem lkX9_carriedBy_25 : Cond.fieldLink RX9 25 "MudBoardsModel" "now" "[I" ∈ wsX9_carriedBy := by decide +kernel
theorem lkX9_carriedBy_105 : Cond.fieldLink RX9 105 "MudBoardsModel" "finds" "I" ∈ wsX9_carriedBy := by decide +kernel
abbrev MX9_putOn : Mi := (yX9_putOn, wsX9_putOn, cX9_putOn, RX9, 6, none, { frames := 1, cells := 0, slots := 0, locals := 24 })
theorem hdX9_putOn : (yX9_putOn).cls = RX9 ∧ (yX9_putOn).cls ≠ "java/lang/invoke/MethodHandle" ∧ (yX9_putOn).cls ≠ "java/lang/invoke/VarHandle" ∧ (parseMethodDescriptor (yX9_putOn).desc).map (fun d => d.parameters.length) = some 2 := by decide +kernel
theorem inX9_putOn : ∀ w ∈ u_ws RX9 TX9 31, w ∈ wsX9_putOn := by decide +kernel
theorem lkX9_putOn_25 : Cond.fieldLink RX9 25 "MudBoardsModel" "now" "[I" ∈ wsX9_putOn := by decide +kernel
theorem lkX9_putOn_105 : Cond.fieldLink RX9 105 "MudBoardsModel" "finds" "I" ∈ wsX9_putOn := by decide +kernel
abbrev MX9_passOn : Mi := (yX9_passOn, wsX9_passOn, cX9_passOn, RX9, 5, some .int, { frames := 2, cells := 0, slots := 0, locals := 49 })
theorem hdX9_passOn : (yX9_passOn).cls = RX9 ∧ (yX9_passOn).cls ≠ "java/lang/invoke/MethodHandle" ∧ (yX9_passOn).cls ≠ "java/lang/invoke/VarHandle" ∧ (parseMethodDescriptor (yX9_passOn).desc).map (fun d => d.parameters.length) = some 1 := by decide +kernel
theorem inX9_passOn : ∀ w ∈ u_ws RX9 TX9 31, w ∈ wsX9_passOn := by decide +kernel
theorem lkX9_passOn_25 : Cond.fieldLink RX9 25 "MudBoardsModel" "now" "[I" ∈ wsX9_passOn := by decide +kernel
theorem lkX9_passOn_108 : Cond.fieldLink RX9 108 "MudBoardsModel" "larks" "I" ∈ wsX9_passOn := by decide +kernel
abbrev MX9_canDig : Mi := (yX9_canDig, wsX9_canDig, cX9_canDig, RX9, 5, some .boolean, { frames := 2, cells := 0, slots := 0, locals := 46 })
theorem hdX9_canDig : (yX9_canDig).cls = RX9 ∧ (yX9_canDig).cls ≠ "java/lang/invoke/MethodHandle" ∧ (yX9_canDig).cls ≠ "java/lang/invoke/VarHandle" ∧ (parseMethodDescriptor (yX9_canDig).desc).map (fun d => d.parameters.length) = some 3 := by decide +kernel
theorem inX9_canDig : ∀ w ∈ u_ws RX9 TX9 31, w ∈ wsX9_canDig := by decide +kernel
theorem lkX9_canDig_25 : Cond.fieldLink RX9 25 "MudBoardsModel" "now" "[I" ∈ wsX9_canDig := by decide +kernel
abbrev MX9_digOn : Mi := (yX9_digOn, wsX9_digOn, cX9_digOn, RX9, 5, none, { frames := 0, cells := 0, slots := 0, locals := 0 })
theorem hdX9_digOn : (yX9_digOn).cls = RX9 ∧ (yX9_digOn).cls ≠ "java/lang/invoke/MethodHandle" ∧ (yX9_digOn).cls ≠ "java/lang/invoke/VarHandle" ∧ (parseMethodDescriptor (yX9_digOn).desc).map (fun d => d.parameters.length) = some 3 := by decide +kernel
theorem inX9_digOn : ∀ w ∈ u_ws RX9 TX9 31, w ∈ wsX9_digOn := by decide +kernel
theorem lkX9_digOn_25 : Cond.fieldLink RX9 25 "MudBoardsModel" "now" "[I" ∈ wsX9_digOn := by decide +kernel
abbrev MX9_canSell : Mi := (yX9_canSell, wsX9_canSell, cX9_canSell, RX9, 3, some .boolean, { frames := 2, cells := 0, slots := 0, locals := 46 })
theorem hdX9_canSell : (yX9_canSell).cls = RX9 ∧ (yX9_canSell).cls ≠ "java/lang/invoke/MethodHandle" ∧ (yX9_canSell).cls ≠ "java/lang/invoke/VarHandle" ∧ (parseMethodDescriptor (yX9_canSell).desc).map (fun d => d.parameters.length) = some 2 := by decide +kernel
theorem inX9_canSell : ∀ w ∈ u_ws RX9 TX9 31, w ∈ wsX9_canSell := by decide +kernel
theorem lkX9_canSell_25 : Cond.fieldLink RX9 25 "MudBoardsModel" "now" "[I" ∈ wsX9_canSell := by decide +kernel
abbrev MX9_priceOf : Mi := (yX9_priceOf, wsX9_priceOf, cX9_priceOf, RX9, 3, some .int, { frames := 0, cells := 0, slots := 0, locals := 0 })
theorem hdX9_priceOf : (yX9_priceOf).cls ≠ "java/lang/invoke/MethodHandle" ∧ (yX9_priceOf).cls ≠ "java/lang/invoke/VarHandle" ∧ (parseMethodDescriptor (yX9_priceOf).desc).map (fun d => d.parameters.length) = some 3 := by decide +kernel
abbrev MX9_sellOn : Mi := (yX9_sellOn, wsX9_sellOn, cX9_sellOn, RX9, 6, none, { frames := 1, cells := 0, slots := 0, locals := 24 })
theorem hdX9_sellOn : (yX9_sellOn).cls = RX9 ∧ (yX9_sellOn).cls ≠ "java/lang/invoke/MethodHandle" ∧ (yX9_sellOn).cls ≠ "java/lang/invoke/VarHandle" ∧ (parseMethodDescriptor (yX9_sellOn).desc).map (fun d => d.parameters.length) = some 2 := by decide +kernel
theorem inX9_sellOn : ∀ w ∈ u_ws RX9 TX9 31, w ∈ wsX9_sellOn := by decide +kernel
theorem lkX9_sellOn_16 : Cond.fieldLink RX9 16 "MudBoardsModel" "age" "[I" ∈ wsX9_sellOn := by decide +kernel
theorem lkX9_sellOn_19 : Cond.fieldLink RX9 19 "MudBoardsModel" "kind" "[I" ∈ wsX9_sellOn := by decide +kernel
theorem lkX9_sellOn_25 : Cond.fieldLink RX9 25 "MudBoardsModel" "now" "[I" ∈ wsX9_sellOn := by decide +kernel
theorem lkX9_sellOn_105 : Cond.fieldLink RX9 105 "MudBoardsModel" "finds" "I" ∈ wsX9_sellOn := by decide +kernel
abbrev MX9_lieAt : Mi := (yX9_lieAt, wsX9_lieAt, cX9_lieAt, RX9, 5, some .int, { frames := 0, cells := 0, slots := 0, locals := 0 })
theorem hdX9_lieAt : (yX9_lieAt).cls = RX9 ∧ (yX9_lieAt).cls ≠ "java/lang/invoke/MethodHandle" ∧ (yX9_lieAt).cls ≠ "java/lang/invoke/VarHandle" ∧ (parseMethodDescriptor (yX9_lieAt).desc).map (fun d => d.parameters.length) = some 2 := by decide +kernel
theorem inX9_lieAt : ∀ w ∈ u_ws RX9 TX9 31, w ∈ wsX9_lieAt := by decide +kernel
theorem lkX9_lieAt_25 : Cond.fieldLink RX9 25 "MudBoardsModel" "now" "[I" ∈ wsX9_lieAt := by decide +kernel
theorem lkX9_lieAt_105 : Cond.fieldLink RX9 105 "MudBoardsModel" "finds" "I" ∈ wsX9_lieAt := by decide +kernel
abbrev MX9_larksAt : Mi := (yX9_larksAt, wsX9_larksAt, cX9_larksAt, RX9, 4, some .int, { frames := 0, cells := 0, slots := 0, locals := 0 })
theorem hdX9_larksAt : (yX9_larksAt).cls = RX9 ∧ (yX9_larksAt).cls ≠ "java/lang/invoke/MethodHandle" ∧ (yX9_larksAt).cls ≠ "java/lang/invoke/VarHandle" ∧ (parseMethodDescriptor (yX9_larksAt).desc).map (fun d => d.parameters.length) = some 1 := by decide +kernel
theorem inX9_larksAt : ∀ w ∈ u_ws RX9 TX9 31, w ∈ wsX9_larksAt := by decide +kernel
theorem lkX9_larksAt_25 : Cond.fieldLink RX9 25 "MudBoardsModel" "now" "[I" ∈ wsX9_larksAt := by decide +kernel
theorem lkX9_larksAt_108 : Cond.fieldLink RX9 108 "MudBoardsModel" "larks" "I" ∈ wsX9_larksAt := by decide +kernel
abbrev MX9_cell : Mi := (yX9_cell, wsX9_cell, cX9_cell, RX9, 3, some .int, { frames := 2, cells := 0, slots := 0, locals := 45 })
theorem hdX9_cell : (yX9_cell).cls = RX9 ∧ (yX9_cell).cls ≠ "java/lang/invoke/MethodHandle" ∧ (yX9_cell).cls ≠ "java/lang/invoke/VarHandle" ∧ (parseMethodDescriptor (yX9_cell).desc).map (fun d => d.parameters.length) = some 2 := by decide +kernel
theorem inX9_cell : ∀ w ∈ u_ws RX9 TX9 31, w ∈ wsX9_cell := by decide +kernel
theorem lkX9_cell_7 : Cond.fieldLink RX9 7 "MudBoardsModel" "height" "[I" ∈ wsX9_cell := by decide +kernel
theorem lkX9_cell_25 : Cond.fieldLink RX9 25 "MudBoardsModel" "now" "[I" ∈ wsX9_cell := by decide +kernel
abbrev MX9_find : Mi := (yX9_find, wsX9_find, cX9_find, RX9, 3, some .int, { frames := 2, cells := 0, slots := 0, locals := 46 })
theorem hdX9_find : (yX9_find).cls = RX9 ∧ (yX9_find).cls ≠ "java/lang/invoke/MethodHandle" ∧ (yX9_find).cls ≠ "java/lang/invoke/VarHandle" ∧ (parseMethodDescriptor (yX9_find).desc).map (fun d => d.parameters.length) = some 2 := by decide +kernel
theorem inX9_find : ∀ w ∈ u_ws RX9 TX9 31, w ∈ wsX9_find := by decide +kernel
theorem lkX9_find_16 : Cond.fieldLink RX9 16 "MudBoardsModel" "age" "[I" ∈ wsX9_find := by decide +kernel
theorem lkX9_find_19 : Cond.fieldLink RX9 19 "MudBoardsModel" "kind" "[I" ∈ wsX9_find := by decide +kernel
theorem lkX9_find_25 : Cond.fieldLink RX9 25 "MudBoardsModel" "now" "[I" ∈ wsX9_find := by decide +kernel
abbrev MX9_lark : Mi := (yX9_lark, wsX9_lark, cX9_lark, RX9, 3, some .int, { frames := 2, cells := 0, slots := 0, locals := 46 })
theorem hdX9_lark : (yX9_lark).cls = RX9 ∧ (yX9_lark).cls ≠ "java/lang/invoke/MethodHandle" ∧ (yX9_lark).cls ≠ "java/lang/invoke/VarHandle" ∧ (parseMethodDescriptor (yX9_lark).desc).map (fun d => d.parameters.length) = some 2 := by decide +kernel
theorem inX9_lark : ∀ w ∈ u_ws RX9 TX9 31, w ∈ wsX9_lark := by decide +kernel
theorem lkX9_lark_22 : Cond.fieldLink RX9 22 "MudBoardsModel" "board" "[I" ∈ wsX9_lark := by decide +kernel
theorem lkX9_lark_25 : Cond.fieldLink RX9 25 "MudBoardsModel" "now" "[I" ∈ wsX9_lark := by decide +kernel
abbrev MX9_keepAct : Mi := (yX9_keepAct, wsX9_keepAct, cX9_keepAct, RX9, 2, none, { frames := 0, cells := 0, slots := 0, locals := 0 })
theorem hdX9_keepAct : (yX9_keepAct).cls = RX9 ∧ (yX9_keepAct).cls ≠ "java/lang/invoke/MethodHandle" ∧ (yX9_keepAct).cls ≠ "java/lang/invoke/VarHandle" ∧ (parseMethodDescriptor (yX9_keepAct).desc).map (fun d => d.parameters.length) = some 0 := by decide +kernel
theorem inX9_keepAct : ∀ w ∈ u_ws RX9 TX9 31, w ∈ wsX9_keepAct := by decide +kernel
theorem lkX9_keepAct_25 : Cond.fieldLink RX9 25 "MudBoardsModel" "now" "[I" ∈ wsX9_keepAct := by decide +kernel
theorem lkX9_keepAct_43 : Cond.fieldLink RX9 43 "MudBoardsModel" "row" "[I" ∈ wsX9_keepAct := by decide +kernel
theorem lkX9_keepAct_111 : Cond.fieldLink RX9 111 "MudBoardsModel" "acts" "I" ∈ wsX9_keepAct := by decide +kernel
theorem lkX9_keepAct_167 : Cond.fieldLink RX9 167 "MudBoardsModel" "next" "I" ∈ wsX9_keepAct := by decide +kernel
abbrev MX9_walk : Mi := (yX9_walk, wsX9_walk, cX9_walk, RX9, 3, some .int, { frames := 3, cells := 0, slots := 0, locals := 71 })
theorem hdX9_walk : (yX9_walk).cls = RX9 ∧ (yX9_walk).cls ≠ "java/lang/invoke/MethodHandle" ∧ (yX9_walk).cls ≠ "java/lang/invoke/VarHandle" ∧ (parseMethodDescriptor (yX9_walk).desc).map (fun d => d.parameters.length) = some 2 := by decide +kernel
theorem inX9_walk : ∀ w ∈ u_ws RX9 TX9 31, w ∈ wsX9_walk := by decide +kernel
theorem lkX9_walk_25 : Cond.fieldLink RX9 25 "MudBoardsModel" "now" "[I" ∈ wsX9_walk := by decide +kernel
abbrev MX9_hour : Mi := (yX9_hour, wsX9_hour, cX9_hour, RX9, 1, some .int, { frames := 3, cells := 0, slots := 0, locals := 73 })
theorem hdX9_hour : (yX9_hour).cls = RX9 ∧ (yX9_hour).cls ≠ "java/lang/invoke/MethodHandle" ∧ (yX9_hour).cls ≠ "java/lang/invoke/VarHandle" ∧ (parseMethodDescriptor (yX9_hour).desc).map (fun d => d.parameters.length) = some 0 := by decide +kernel
abbrev MX9_dig : Mi := (yX9_dig, wsX9_dig, cX9_dig, RX9, 3, some .int, { frames := 3, cells := 0, slots := 0, locals := 70 })
theorem hdX9_dig : (yX9_dig).cls = RX9 ∧ (yX9_dig).cls ≠ "java/lang/invoke/MethodHandle" ∧ (yX9_dig).cls ≠ "java/lang/invoke/VarHandle" ∧ (parseMethodDescriptor (yX9_dig).desc).map (fun d => d.parameters.length) = some 2 := by decide +kernel
abbrev MX9_put : Mi := (yX9_put, wsX9_put, cX9_put, RX9, 3, some .int, { frames := 2, cells := 0, slots := 0, locals := 49 })
theorem hdX9_put : (yX9_put).cls = RX9 ∧ (yX9_put).cls ≠ "java/lang/invoke/MethodHandle" ∧ (yX9_put).cls ≠ "java/lang/invoke/VarHandle" ∧ (parseMethodDescriptor (yX9_put).desc).map (fun d => d.parameters.length) = some 1 := by decide +kernel
abbrev MX9_sell : Mi := (yX9_sell, wsX9_sell, cX9_sell, RX9, 2, some .int, { frames := 3, cells := 0, slots := 0, locals := 68 })
theorem hdX9_sell : (yX9_sell).cls = RX9 ∧ (yX9_sell).cls ≠ "java/lang/invoke/MethodHandle" ∧ (yX9_sell).cls ≠ "java/lang/invoke/VarHandle" ∧ (parseMethodDescriptor (yX9_sell).desc).map (fun d => d.parameters.length) = some 1 := by decide +kernel
theorem inX9_sell : ∀ w ∈ u_ws RX9 TX9 31, w ∈ wsX9_sell := by decide +kernel
theorem lkX9_sell_25 : Cond.fieldLink RX9 25 "MudBoardsModel" "now" "[I" ∈ wsX9_sell := by decide +kernel
abbrev MX9_undo : Mi := (yX9_undo, wsX9_undo, cX9_undo, RX9, 2, some .int, { frames := 0, cells := 0, slots := 0, locals := 0 })
theorem hdX9_undo : (yX9_undo).cls = RX9 ∧ (yX9_undo).cls ≠ "java/lang/invoke/MethodHandle" ∧ (yX9_undo).cls ≠ "java/lang/invoke/VarHandle" ∧ (parseMethodDescriptor (yX9_undo).desc).map (fun d => d.parameters.length) = some 0 := by decide +kernel
theorem inX9_undo : ∀ w ∈ u_ws RX9 TX9 31, w ∈ wsX9_undo := by decide +kernel
theorem lkX9_undo_25 : Cond.fieldLink RX9 25 "MudBoardsModel" "now" "[I" ∈ wsX9_undo := by decide +kernel
theorem lkX9_undo_43 : Cond.fieldLink RX9 43 "MudBoardsModel" "row" "[I" ∈ wsX9_undo := by decide +kernel
theorem lkX9_undo_111 : Cond.fieldLink RX9 111 "MudBoardsModel" "acts" "I" ∈ wsX9_undo := by decide +kernel
theorem lkX9_undo_167 : Cond.fieldLink RX9 167 "MudBoardsModel" "next" "I" ∈ wsX9_undo := by decide +kernel
abbrev MX9_baredIn : Mi := (yX9_baredIn, wsX9_baredIn, cX9_baredIn, RX9, 4, some .int, { frames := 2, cells := 0, slots := 0, locals := 43 })
theorem hdX9_baredIn : (yX9_baredIn).cls = RX9 ∧ (yX9_baredIn).cls ≠ "java/lang/invoke/MethodHandle" ∧ (yX9_baredIn).cls ≠ "java/lang/invoke/VarHandle" ∧ (parseMethodDescriptor (yX9_baredIn).desc).map (fun d => d.parameters.length) = some 1 := by decide +kernel
abbrev MX9_bared : Mi := (yX9_bared, wsX9_bared, cX9_bared, RX9, 2, some .int, { frames := 3, cells := 0, slots := 0, locals := 66 })
theorem hdX9_bared : (yX9_bared).cls = RX9 ∧ (yX9_bared).cls ≠ "java/lang/invoke/MethodHandle" ∧ (yX9_bared).cls ≠ "java/lang/invoke/VarHandle" ∧ (parseMethodDescriptor (yX9_bared).desc).map (fun d => d.parameters.length) = some 1 := by decide +kernel
theorem inX9_bared : ∀ w ∈ u_ws RX9 TX9 31, w ∈ wsX9_bared := by decide +kernel
theorem lkX9_bared_25 : Cond.fieldLink RX9 25 "MudBoardsModel" "now" "[I" ∈ wsX9_bared := by decide +kernel
abbrev MX9_flooded : Mi := (yX9_flooded, wsX9_flooded, cX9_flooded, RX9, 3, some .int, { frames := 2, cells := 0, slots := 0, locals := 45 })
theorem hdX9_flooded : (yX9_flooded).cls = RX9 ∧ (yX9_flooded).cls ≠ "java/lang/invoke/MethodHandle" ∧ (yX9_flooded).cls ≠ "java/lang/invoke/VarHandle" ∧ (parseMethodDescriptor (yX9_flooded).desc).map (fun d => d.parameters.length) = some 1 := by decide +kernel
theorem inX9_flooded : ∀ w ∈ u_ws RX9 TX9 31, w ∈ wsX9_flooded := by decide +kernel
theorem lkX9_flooded_25 : Cond.fieldLink RX9 25 "MudBoardsModel" "now" "[I" ∈ wsX9_flooded := by decide +kernel
abbrev MX9_onward : Mi := (yX9_onward, wsX9_onward, cX9_onward, RX9, 10, some .int, { frames := 2, cells := 0, slots := 0, locals := 44 })
theorem hdX9_onward : (yX9_onward).cls = RX9 ∧ (yX9_onward).cls ≠ "java/lang/invoke/MethodHandle" ∧ (yX9_onward).cls ≠ "java/lang/invoke/VarHandle" ∧ (parseMethodDescriptor (yX9_onward).desc).map (fun d => d.parameters.length) = some 4 := by decide +kernel
abbrev MX9_reachFrom : Mi := (yX9_reachFrom, wsX9_reachFrom, cX9_reachFrom, RX9, 7, some .int, { frames := 3, cells := 0, slots := 0, locals := 73 })
theorem hdX9_reachFrom : (yX9_reachFrom).cls = RX9 ∧ (yX9_reachFrom).cls ≠ "java/lang/invoke/MethodHandle" ∧ (yX9_reachFrom).cls ≠ "java/lang/invoke/VarHandle" ∧ (parseMethodDescriptor (yX9_reachFrom).desc).map (fun d => d.parameters.length) = some 4 := by decide +kernel
theorem inX9_reachFrom : ∀ w ∈ u_ws RX9 TX9 31, w ∈ wsX9_reachFrom := by decide +kernel
theorem lkX9_reachFrom_25 : Cond.fieldLink RX9 25 "MudBoardsModel" "now" "[I" ∈ wsX9_reachFrom := by decide +kernel
abbrev MX9_reach : Mi := (yX9_reach, wsX9_reach, cX9_reach, RX9, 3, some .int, { frames := 4, cells := 0, slots := 0, locals := 99 })
theorem hdX9_reach : (yX9_reach).cls = RX9 ∧ (yX9_reach).cls ≠ "java/lang/invoke/MethodHandle" ∧ (yX9_reach).cls ≠ "java/lang/invoke/VarHandle" ∧ (parseMethodDescriptor (yX9_reach).desc).map (fun d => d.parameters.length) = some 2 := by decide +kernel
theorem inX9_reach : ∀ w ∈ u_ws RX9 TX9 31, w ∈ wsX9_reach := by decide +kernel
theorem lkX9_reach_25 : Cond.fieldLink RX9 25 "MudBoardsModel" "now" "[I" ∈ wsX9_reach := by decide +kernel
abbrev MX9_home : Mi := (yX9_home, wsX9_home, cX9_home, RX9, 4, some .int, { frames := 3, cells := 0, slots := 0, locals := 73 })
theorem hdX9_home : (yX9_home).cls = RX9 ∧ (yX9_home).cls ≠ "java/lang/invoke/MethodHandle" ∧ (yX9_home).cls ≠ "java/lang/invoke/VarHandle" ∧ (parseMethodDescriptor (yX9_home).desc).map (fun d => d.parameters.length) = some 1 := by decide +kernel
theorem inX9_home : ∀ w ∈ u_ws RX9 TX9 31, w ∈ wsX9_home := by decide +kernel
theorem lkX9_home_25 : Cond.fieldLink RX9 25 "MudBoardsModel" "now" "[I" ∈ wsX9_home := by decide +kernel
abbrev MX9_mayGet : Mi := (yX9_mayGet, wsX9_mayGet, cX9_mayGet, RX9, 6, some .boolean, { frames := 4, cells := 0, slots := 0, locals := 99 })
theorem hdX9_mayGet : (yX9_mayGet).cls = RX9 ∧ (yX9_mayGet).cls ≠ "java/lang/invoke/MethodHandle" ∧ (yX9_mayGet).cls ≠ "java/lang/invoke/VarHandle" ∧ (parseMethodDescriptor (yX9_mayGet).desc).map (fun d => d.parameters.length) = some 3 := by decide +kernel
theorem inX9_mayGet : ∀ w ∈ u_ws RX9 TX9 31, w ∈ wsX9_mayGet := by decide +kernel
theorem lkX9_mayGet_25 : Cond.fieldLink RX9 25 "MudBoardsModel" "now" "[I" ∈ wsX9_mayGet := by decide +kernel
abbrev MX9_comesHome : Mi := (yX9_comesHome, wsX9_comesHome, cX9_comesHome, RX9, 7, some .boolean, { frames := 3, cells := 0, slots := 0, locals := 73 })
theorem hdX9_comesHome : (yX9_comesHome).cls = RX9 ∧ (yX9_comesHome).cls ≠ "java/lang/invoke/MethodHandle" ∧ (yX9_comesHome).cls ≠ "java/lang/invoke/VarHandle" ∧ (parseMethodDescriptor (yX9_comesHome).desc).map (fun d => d.parameters.length) = some 4 := by decide +kernel
theorem inX9_comesHome : ∀ w ∈ u_ws RX9 TX9 31, w ∈ wsX9_comesHome := by decide +kernel
theorem lkX9_comesHome_25 : Cond.fieldLink RX9 25 "MudBoardsModel" "now" "[I" ∈ wsX9_comesHome := by decide +kernel
abbrev MX9_getsOf : Mi := (yX9_getsOf, wsX9_getsOf, cX9_getsOf, RX9, 5, some .int, { frames := 5, cells := 0, slots := 0, locals := 124 })
theorem hdX9_getsOf : (yX9_getsOf).cls = RX9 ∧ (yX9_getsOf).cls ≠ "java/lang/invoke/MethodHandle" ∧ (yX9_getsOf).cls ≠ "java/lang/invoke/VarHandle" ∧ (parseMethodDescriptor (yX9_getsOf).desc).map (fun d => d.parameters.length) = some 2 := by decide +kernel
theorem inX9_getsOf : ∀ w ∈ u_ws RX9 TX9 31, w ∈ wsX9_getsOf := by decide +kernel
theorem lkX9_getsOf_25 : Cond.fieldLink RX9 25 "MudBoardsModel" "now" "[I" ∈ wsX9_getsOf := by decide +kernel
theorem lkX9_getsOf_105 : Cond.fieldLink RX9 105 "MudBoardsModel" "finds" "I" ∈ wsX9_getsOf := by decide +kernel
abbrev MX9_gets : Mi := (yX9_gets, wsX9_gets, cX9_gets, RX9, 9, some .int, { frames := 6, cells := 0, slots := 0, locals := 148 })
theorem hdX9_gets : (yX9_gets).cls = RX9 ∧ (yX9_gets).cls ≠ "java/lang/invoke/MethodHandle" ∧ (yX9_gets).cls ≠ "java/lang/invoke/VarHandle" ∧ (parseMethodDescriptor (yX9_gets).desc).map (fun d => d.parameters.length) = some 3 := by decide +kernel
theorem inX9_gets : ∀ w ∈ u_ws RX9 TX9 31, w ∈ wsX9_gets := by decide +kernel
theorem lkX9_gets_16 : Cond.fieldLink RX9 16 "MudBoardsModel" "age" "[I" ∈ wsX9_gets := by decide +kernel
theorem lkX9_gets_19 : Cond.fieldLink RX9 19 "MudBoardsModel" "kind" "[I" ∈ wsX9_gets := by decide +kernel
theorem lkX9_gets_25 : Cond.fieldLink RX9 25 "MudBoardsModel" "now" "[I" ∈ wsX9_gets := by decide +kernel
theorem lkX9_gets_105 : Cond.fieldLink RX9 105 "MudBoardsModel" "finds" "I" ∈ wsX9_gets := by decide +kernel
abbrev MX9_layTrial : Mi := (yX9_layTrial, wsX9_layTrial, cX9_layTrial, RX9, 2, none, { frames := 0, cells := 0, slots := 0, locals := 0 })
theorem hdX9_layTrial : (yX9_layTrial).cls = RX9 ∧ (yX9_layTrial).cls ≠ "java/lang/invoke/MethodHandle" ∧ (yX9_layTrial).cls ≠ "java/lang/invoke/VarHandle" ∧ (parseMethodDescriptor (yX9_layTrial).desc).map (fun d => d.parameters.length) = some 0 := by decide +kernel
theorem inX9_layTrial : ∀ w ∈ u_ws RX9 TX9 31, w ∈ wsX9_layTrial := by decide +kernel
theorem lkX9_layTrial_25 : Cond.fieldLink RX9 25 "MudBoardsModel" "now" "[I" ∈ wsX9_layTrial := by decide +kernel
abbrev MX9_tryThing : Mi := (yX9_tryThing, wsX9_tryThing, cX9_tryThing, RX9, 7, some .boolean, { frames := 3, cells := 0, slots := 0, locals := 73 })
theorem hdX9_tryThing : (yX9_tryThing).cls = RX9 ∧ (yX9_tryThing).cls ≠ "java/lang/invoke/MethodHandle" ∧ (yX9_tryThing).cls ≠ "java/lang/invoke/VarHandle" ∧ (parseMethodDescriptor (yX9_tryThing).desc).map (fun d => d.parameters.length) = some 3 := by decide +kernel
theorem inX9_tryThing : ∀ w ∈ u_ws RX9 TX9 31, w ∈ wsX9_tryThing := by decide +kernel
theorem lkX9_tryThing_25 : Cond.fieldLink RX9 25 "MudBoardsModel" "now" "[I" ∈ wsX9_tryThing := by decide +kernel
abbrev MX9_thousandTo : Mi := (yX9_thousandTo, wsX9_thousandTo, cX9_thousandTo, RX9, 4, some .long, { frames := 0, cells := 0, slots := 0, locals := 0 })
theorem hdX9_thousandTo : (yX9_thousandTo).cls ≠ "java/lang/invoke/MethodHandle" ∧ (yX9_thousandTo).cls ≠ "java/lang/invoke/VarHandle" ∧ (parseMethodDescriptor (yX9_thousandTo).desc).map (fun d => d.parameters.length) = some 1 := by decide +kernel
abbrev MX9_judge : Mi := (yX9_judge, wsX9_judge, cX9_judge, RX9, 6, some .int, { frames := 4, cells := 0, slots := 0, locals := 99 })
theorem hdX9_judge : (yX9_judge).cls = RX9 ∧ (yX9_judge).cls ≠ "java/lang/invoke/MethodHandle" ∧ (yX9_judge).cls ≠ "java/lang/invoke/VarHandle" ∧ (parseMethodDescriptor (yX9_judge).desc).map (fun d => d.parameters.length) = some 2 := by decide +kernel
abbrev MX9_see : Mi := (yX9_see, wsX9_see, cX9_see, RX9, 4, some .int, { frames := 2, cells := 0, slots := 0, locals := 45 })
theorem hdX9_see : (yX9_see).cls = RX9 ∧ (yX9_see).cls ≠ "java/lang/invoke/MethodHandle" ∧ (yX9_see).cls ≠ "java/lang/invoke/VarHandle" ∧ (parseMethodDescriptor (yX9_see).desc).map (fun d => d.parameters.length) = some 3 := by decide +kernel
theorem inX9_see : ∀ w ∈ u_ws RX9 TX9 31, w ∈ wsX9_see := by decide +kernel
theorem lkX9_see_46 : Cond.fieldLink RX9 46 "MudBoardsModel" "seenCell" "[I" ∈ wsX9_see := by decide +kernel
theorem lkX9_see_49 : Cond.fieldLink RX9 49 "MudBoardsModel" "seenHours" "[I" ∈ wsX9_see := by decide +kernel
theorem lkX9_see_52 : Cond.fieldLink RX9 52 "MudBoardsModel" "seenBare" "[I" ∈ wsX9_see := by decide +kernel
theorem lkX9_see_232 : Cond.fieldLink RX9 232 "MudBoardsModel" "seen" "I" ∈ wsX9_see := by decide +kernel
abbrev MX9_unsee : Mi := (yX9_unsee, wsX9_unsee, cX9_unsee, RX9, 2, some .int, { frames := 0, cells := 0, slots := 0, locals := 0 })
theorem hdX9_unsee : (yX9_unsee).cls = RX9 ∧ (yX9_unsee).cls ≠ "java/lang/invoke/MethodHandle" ∧ (yX9_unsee).cls ≠ "java/lang/invoke/VarHandle" ∧ (parseMethodDescriptor (yX9_unsee).desc).map (fun d => d.parameters.length) = some 0 := by decide +kernel
theorem inX9_unsee : ∀ w ∈ u_ws RX9 TX9 31, w ∈ wsX9_unsee := by decide +kernel
theorem lkX9_unsee_232 : Cond.fieldLink RX9 232 "MudBoardsModel" "seen" "I" ∈ wsX9_unsee := by decide +kernel
abbrev MX9_phases : Mi := (yX9_phases, wsX9_phases, cX9_phases, RX9, 5, some .int, { frames := 2, cells := 0, slots := 0, locals := 43 })
theorem hdX9_phases : (yX9_phases).cls = RX9 ∧ (yX9_phases).cls ≠ "java/lang/invoke/MethodHandle" ∧ (yX9_phases).cls ≠ "java/lang/invoke/VarHandle" ∧ (parseMethodDescriptor (yX9_phases).desc).map (fun d => d.parameters.length) = some 0 := by decide +kernel
theorem inX9_phases : ∀ w ∈ u_ws RX9 TX9 31, w ∈ wsX9_phases := by decide +kernel
theorem lkX9_phases_46 : Cond.fieldLink RX9 46 "MudBoardsModel" "seenCell" "[I" ∈ wsX9_phases := by decide +kernel
theorem lkX9_phases_49 : Cond.fieldLink RX9 49 "MudBoardsModel" "seenHours" "[I" ∈ wsX9_phases := by decide +kernel
theorem lkX9_phases_52 : Cond.fieldLink RX9 52 "MudBoardsModel" "seenBare" "[I" ∈ wsX9_phases := by decide +kernel
theorem lkX9_phases_102 : Cond.fieldLink RX9 102 "MudBoardsModel" "tides" "I" ∈ wsX9_phases := by decide +kernel
theorem lkX9_phases_232 : Cond.fieldLink RX9 232 "MudBoardsModel" "seen" "I" ∈ wsX9_phases := by decide +kernel
abbrev MX9_factorial : Mi := (yX9_factorial, wsX9_factorial, cX9_factorial, RX9, 3, some .int, { frames := 0, cells := 0, slots := 0, locals := 0 })
theorem hdX9_factorial : (yX9_factorial).cls ≠ "java/lang/invoke/MethodHandle" ∧ (yX9_factorial).cls ≠ "java/lang/invoke/VarHandle" ∧ (parseMethodDescriptor (yX9_factorial).desc).map (fun d => d.parameters.length) = some 1 := by decide +kernel
abbrev MX9_common : Mi := (yX9_common, wsX9_common, cX9_common, RX9, 5, some .int, { frames := 0, cells := 0, slots := 0, locals := 0 })
theorem hdX9_common : (yX9_common).cls ≠ "java/lang/invoke/MethodHandle" ∧ (yX9_common).cls ≠ "java/lang/invoke/VarHandle" ∧ (parseMethodDescriptor (yX9_common).desc).map (fun d => d.parameters.length) = some 2 := by decide +kernel
abbrev MX9_gotBy : Mi := (yX9_gotBy, wsX9_gotBy, cX9_gotBy, RX9, 4, some .int, { frames := 1, cells := 0, slots := 0, locals := 22 })
theorem hdX9_gotBy : (yX9_gotBy).cls = RX9 ∧ (yX9_gotBy).cls ≠ "java/lang/invoke/MethodHandle" ∧ (yX9_gotBy).cls ≠ "java/lang/invoke/VarHandle" ∧ (parseMethodDescriptor (yX9_gotBy).desc).map (fun d => d.parameters.length) = some 1 := by decide +kernel
theorem inX9_gotBy : ∀ w ∈ u_ws RX9 TX9 31, w ∈ wsX9_gotBy := by decide +kernel
theorem lkX9_gotBy_55 : Cond.fieldLink RX9 55 "MudBoardsModel" "getSets" "[I" ∈ wsX9_gotBy := by decide +kernel
theorem lkX9_gotBy_108 : Cond.fieldLink RX9 108 "MudBoardsModel" "larks" "I" ∈ wsX9_gotBy := by decide +kernel
abbrev MX9_share : Mi := (yX9_share, wsX9_share, cX9_share, RX9, 6, some .int, { frames := 6, cells := 0, slots := 0, locals := 148 })
theorem hdX9_share : (yX9_share).cls = RX9 ∧ (yX9_share).cls ≠ "java/lang/invoke/MethodHandle" ∧ (yX9_share).cls ≠ "java/lang/invoke/VarHandle" ∧ (parseMethodDescriptor (yX9_share).desc).map (fun d => d.parameters.length) = some 2 := by decide +kernel
theorem inX9_share : ∀ w ∈ u_ws RX9 TX9 31, w ∈ wsX9_share := by decide +kernel
theorem lkX9_share_55 : Cond.fieldLink RX9 55 "MudBoardsModel" "getSets" "[I" ∈ wsX9_share := by decide +kernel
theorem lkX9_share_108 : Cond.fieldLink RX9 108 "MudBoardsModel" "larks" "I" ∈ wsX9_share := by decide +kernel
abbrev MX9_eldestAt : Mi := (yX9_eldestAt, wsX9_eldestAt, cX9_eldestAt, RX9, 5, some .int, { frames := 2, cells := 0, slots := 0, locals := 43 })
theorem hdX9_eldestAt : (yX9_eldestAt).cls = RX9 ∧ (yX9_eldestAt).cls ≠ "java/lang/invoke/MethodHandle" ∧ (yX9_eldestAt).cls ≠ "java/lang/invoke/VarHandle" ∧ (parseMethodDescriptor (yX9_eldestAt).desc).map (fun d => d.parameters.length) = some 1 := by decide +kernel
theorem inX9_eldestAt : ∀ w ∈ u_ws RX9 TX9 31, w ∈ wsX9_eldestAt := by decide +kernel
theorem lkX9_eldestAt_16 : Cond.fieldLink RX9 16 "MudBoardsModel" "age" "[I" ∈ wsX9_eldestAt := by decide +kernel
theorem lkX9_eldestAt_25 : Cond.fieldLink RX9 25 "MudBoardsModel" "now" "[I" ∈ wsX9_eldestAt := by decide +kernel
theorem lkX9_eldestAt_105 : Cond.fieldLink RX9 105 "MudBoardsModel" "finds" "I" ∈ wsX9_eldestAt := by decide +kernel
abbrev MX9_gain : Mi := (yX9_gain, wsX9_gain, cX9_gain, RX9, 9, some .int, { frames := 3, cells := 0, slots := 0, locals := 73 })
theorem hdX9_gain : (yX9_gain).cls = RX9 ∧ (yX9_gain).cls ≠ "java/lang/invoke/MethodHandle" ∧ (yX9_gain).cls ≠ "java/lang/invoke/VarHandle" ∧ (parseMethodDescriptor (yX9_gain).desc).map (fun d => d.parameters.length) = some 5 := by decide +kernel
theorem inX9_gain : ∀ w ∈ u_ws RX9 TX9 31, w ∈ wsX9_gain := by decide +kernel
theorem lkX9_gain_25 : Cond.fieldLink RX9 25 "MudBoardsModel" "now" "[I" ∈ wsX9_gain := by decide +kernel
abbrev MX9_isRest : Mi := (yX9_isRest, wsX9_isRest, cX9_isRest, RX9, 7, some .boolean, { frames := 4, cells := 0, slots := 0, locals := 101 })
theorem hdX9_isRest : (yX9_isRest).cls = RX9 ∧ (yX9_isRest).cls ≠ "java/lang/invoke/MethodHandle" ∧ (yX9_isRest).cls ≠ "java/lang/invoke/VarHandle" ∧ (parseMethodDescriptor (yX9_isRest).desc).map (fun d => d.parameters.length) = some 4 := by decide +kernel
abbrev MX9_rests : Mi := (yX9_rests, wsX9_rests, cX9_rests, RX9, 7, some .int, { frames := 5, cells := 0, slots := 0, locals := 127 })
theorem hdX9_rests : (yX9_rests).cls = RX9 ∧ (yX9_rests).cls ≠ "java/lang/invoke/MethodHandle" ∧ (yX9_rests).cls ≠ "java/lang/invoke/VarHandle" ∧ (parseMethodDescriptor (yX9_rests).desc).map (fun d => d.parameters.length) = some 3 := by decide +kernel
theorem inX9_rests : ∀ w ∈ u_ws RX9 TX9 31, w ∈ wsX9_rests := by decide +kernel
theorem lkX9_rests_25 : Cond.fieldLink RX9 25 "MudBoardsModel" "now" "[I" ∈ wsX9_rests := by decide +kernel
abbrev MX9_storms : Mi := (yX9_storms, wsX9_storms, cX9_storms, RX9, 9, some .int, { frames := 2, cells := 0, slots := 0, locals := 46 })
theorem hdX9_storms : (yX9_storms).cls = RX9 ∧ (yX9_storms).cls ≠ "java/lang/invoke/MethodHandle" ∧ (yX9_storms).cls ≠ "java/lang/invoke/VarHandle" ∧ (parseMethodDescriptor (yX9_storms).desc).map (fun d => d.parameters.length) = some 4 := by decide +kernel
theorem inX9_storms : ∀ w ∈ u_ws RX9 TX9 31, w ∈ wsX9_storms := by decide +kernel
theorem lkX9_storms_7 : Cond.fieldLink RX9 7 "MudBoardsModel" "height" "[I" ∈ wsX9_storms := by decide +kernel
theorem lkX9_storms_22 : Cond.fieldLink RX9 22 "MudBoardsModel" "board" "[I" ∈ wsX9_storms := by decide +kernel
theorem lkX9_storms_25 : Cond.fieldLink RX9 25 "MudBoardsModel" "now" "[I" ∈ wsX9_storms := by decide +kernel
abbrev MX9_seed : Mi := (yX9_seed, wsX9_seed, cX9_seed, RX9, 5, some .long, { frames := 0, cells := 0, slots := 0, locals := 0 })
theorem hdX9_seed : (yX9_seed).cls = RX9 ∧ (yX9_seed).cls ≠ "java/lang/invoke/MethodHandle" ∧ (yX9_seed).cls ≠ "java/lang/invoke/VarHandle" ∧ (parseMethodDescriptor (yX9_seed).desc).map (fun d => d.parameters.length) = some 1 := by decide +kernel
theorem inX9_seed : ∀ w ∈ u_ws RX9 TX9 31, w ∈ wsX9_seed := by decide +kernel
theorem lkX9_seed_258 : Cond.fieldLink RX9 258 "MudBoardsModel" "seed" "J" ∈ wsX9_seed := by decide +kernel
abbrev MX9_digAny : Mi := (yX9_digAny, wsX9_digAny, cX9_digAny, RX9, 3, none, { frames := 3, cells := 0, slots := 0, locals := 70 })
theorem hdX9_digAny : (yX9_digAny).cls = RX9 ∧ (yX9_digAny).cls ≠ "java/lang/invoke/MethodHandle" ∧ (yX9_digAny).cls ≠ "java/lang/invoke/VarHandle" ∧ (parseMethodDescriptor (yX9_digAny).desc).map (fun d => d.parameters.length) = some 1 := by decide +kernel
theorem inX9_digAny : ∀ w ∈ u_ws RX9 TX9 31, w ∈ wsX9_digAny := by decide +kernel
theorem lkX9_digAny_105 : Cond.fieldLink RX9 105 "MudBoardsModel" "finds" "I" ∈ wsX9_digAny := by decide +kernel
abbrev MX9_carriedOn : Mi := (yX9_carriedOn, wsX9_carriedOn, cX9_carriedOn, RX9, 4, some .int, { frames := 0, cells := 0, slots := 0, locals := 0 })
theorem hdX9_carriedOn : (yX9_carriedOn).cls = RX9 ∧ (yX9_carriedOn).cls ≠ "java/lang/invoke/MethodHandle" ∧ (yX9_carriedOn).cls ≠ "java/lang/invoke/VarHandle" ∧ (parseMethodDescriptor (yX9_carriedOn).desc).map (fun d => d.parameters.length) = some 1 := by decide +kernel
theorem inX9_carriedOn : ∀ w ∈ u_ws RX9 TX9 31, w ∈ wsX9_carriedOn := by decide +kernel
theorem lkX9_carriedOn_25 : Cond.fieldLink RX9 25 "MudBoardsModel" "now" "[I" ∈ wsX9_carriedOn := by decide +kernel
theorem lkX9_carriedOn_105 : Cond.fieldLink RX9 105 "MudBoardsModel" "finds" "I" ∈ wsX9_carriedOn := by decide +kernel
abbrev MX9_springs : Mi := (yX9_springs, wsX9_springs, cX9_springs, RX9, 5, some .int, { frames := 4, cells := 0, slots := 0, locals := 99 })
theorem hdX9_springs : (yX9_springs).cls = RX9 ∧ (yX9_springs).cls ≠ "java/lang/invoke/MethodHandle" ∧ (yX9_springs).cls ≠ "java/lang/invoke/VarHandle" ∧ (parseMethodDescriptor (yX9_springs).desc).map (fun d => d.parameters.length) = some 1 := by decide +kernel
theorem inX9_springs : ∀ w ∈ u_ws RX9 TX9 31, w ∈ wsX9_springs := by decide +kernel
theorem lkX9_springs_25 : Cond.fieldLink RX9 25 "MudBoardsModel" "now" "[I" ∈ wsX9_springs := by decide +kernel
theorem lkX9_springs_108 : Cond.fieldLink RX9 108 "MudBoardsModel" "larks" "I" ∈ wsX9_springs := by decide +kernel
theorem lkX9_springs_258 : Cond.fieldLink RX9 258 "MudBoardsModel" "seed" "J" ∈ wsX9_springs := by decide +kernel
abbrev MX9_keep : Mi := (yX9_keep, wsX9_keep, cX9_keep, RX9, 3, some .int, { frames := 1, cells := 0, slots := 0, locals := 25 })
theorem hdX9_keep : (yX9_keep).cls = RX9 ∧ (yX9_keep).cls ≠ "java/lang/invoke/MethodHandle" ∧ (yX9_keep).cls ≠ "java/lang/invoke/VarHandle" ∧ (parseMethodDescriptor (yX9_keep).desc).map (fun d => d.parameters.length) = some 1 := by decide +kernel
theorem inX9_keep : ∀ w ∈ u_ws RX9 TX9 31, w ∈ wsX9_keep := by decide +kernel
theorem lkX9_keep_25 : Cond.fieldLink RX9 25 "MudBoardsModel" "now" "[I" ∈ wsX9_keep := by decide +kernel
theorem lkX9_keep_58 : Cond.fieldLink RX9 58 "MudBoardsModel" "isKept" "[Z" ∈ wsX9_keep := by decide +kernel
theorem lkX9_keep_62 : Cond.fieldLink RX9 62 "MudBoardsModel" "kept" "[I" ∈ wsX9_keep := by decide +kernel
abbrev MX9_again : Mi := (yX9_again, wsX9_again, cX9_again, RX9, 3, some .int, { frames := 1, cells := 0, slots := 0, locals := 25 })
theorem hdX9_again : (yX9_again).cls = RX9 ∧ (yX9_again).cls ≠ "java/lang/invoke/MethodHandle" ∧ (yX9_again).cls ≠ "java/lang/invoke/VarHandle" ∧ (parseMethodDescriptor (yX9_again).desc).map (fun d => d.parameters.length) = some 1 := by decide +kernel
theorem inX9_again : ∀ w ∈ u_ws RX9 TX9 31, w ∈ wsX9_again := by decide +kernel
theorem lkX9_again_25 : Cond.fieldLink RX9 25 "MudBoardsModel" "now" "[I" ∈ wsX9_again := by decide +kernel
theorem lkX9_again_58 : Cond.fieldLink RX9 58 "MudBoardsModel" "isKept" "[Z" ∈ wsX9_again := by decide +kernel
theorem lkX9_again_62 : Cond.fieldLink RX9 62 "MudBoardsModel" "kept" "[I" ∈ wsX9_again := by decide +kernel
theorem lkX9_again_111 : Cond.fieldLink RX9 111 "MudBoardsModel" "acts" "I" ∈ wsX9_again := by decide +kernel
abbrev MX9_findsThat : Mi := (yX9_findsThat, wsX9_findsThat, cX9_findsThat, RX9, 4, some .int, { frames := 0, cells := 0, slots := 0, locals := 0 })
theorem hdX9_findsThat : (yX9_findsThat).cls = RX9 ∧ (yX9_findsThat).cls ≠ "java/lang/invoke/MethodHandle" ∧ (yX9_findsThat).cls ≠ "java/lang/invoke/VarHandle" ∧ (parseMethodDescriptor (yX9_findsThat).desc).map (fun d => d.parameters.length) = some 1 := by decide +kernel
theorem inX9_findsThat : ∀ w ∈ u_ws RX9 TX9 31, w ∈ wsX9_findsThat := by decide +kernel
theorem lkX9_findsThat_25 : Cond.fieldLink RX9 25 "MudBoardsModel" "now" "[I" ∈ wsX9_findsThat := by decide +kernel
theorem lkX9_findsThat_105 : Cond.fieldLink RX9 105 "MudBoardsModel" "finds" "I" ∈ wsX9_findsThat := by decide +kernel
abbrev MX9_coinsOfAll : Mi := (yX9_coinsOfAll, wsX9_coinsOfAll, cX9_coinsOfAll, RX9, 3, some .int, { frames := 0, cells := 0, slots := 0, locals := 0 })
theorem hdX9_coinsOfAll : (yX9_coinsOfAll).cls = RX9 ∧ (yX9_coinsOfAll).cls ≠ "java/lang/invoke/MethodHandle" ∧ (yX9_coinsOfAll).cls ≠ "java/lang/invoke/VarHandle" ∧ (parseMethodDescriptor (yX9_coinsOfAll).desc).map (fun d => d.parameters.length) = some 0 := by decide +kernel
theorem inX9_coinsOfAll : ∀ w ∈ u_ws RX9 TX9 31, w ∈ wsX9_coinsOfAll := by decide +kernel
theorem lkX9_coinsOfAll_25 : Cond.fieldLink RX9 25 "MudBoardsModel" "now" "[I" ∈ wsX9_coinsOfAll := by decide +kernel
theorem lkX9_coinsOfAll_108 : Cond.fieldLink RX9 108 "MudBoardsModel" "larks" "I" ∈ wsX9_coinsOfAll := by decide +kernel
abbrev MX9_count : Mi := (yX9_count, wsX9_count, cX9_count, RX9, 2, some .int, { frames := 1, cells := 0, slots := 0, locals := 23 })
theorem hdX9_count : (yX9_count).cls = RX9 ∧ (yX9_count).cls ≠ "java/lang/invoke/MethodHandle" ∧ (yX9_count).cls ≠ "java/lang/invoke/VarHandle" ∧ (parseMethodDescriptor (yX9_count).desc).map (fun d => d.parameters.length) = some 1 := by decide +kernel
theorem inX9_count : ∀ w ∈ u_ws RX9 TX9 31, w ∈ wsX9_count := by decide +kernel
theorem lkX9_count_25 : Cond.fieldLink RX9 25 "MudBoardsModel" "now" "[I" ∈ wsX9_count := by decide +kernel
theorem lkX9_count_71 : Cond.fieldLink RX9 71 "MudBoardsModel" "length" "I" ∈ wsX9_count := by decide +kernel
theorem lkX9_count_102 : Cond.fieldLink RX9 102 "MudBoardsModel" "tides" "I" ∈ wsX9_count := by decide +kernel
theorem lkX9_count_105 : Cond.fieldLink RX9 105 "MudBoardsModel" "finds" "I" ∈ wsX9_count := by decide +kernel
theorem lkX9_count_108 : Cond.fieldLink RX9 108 "MudBoardsModel" "larks" "I" ∈ wsX9_count := by decide +kernel
theorem lkX9_count_111 : Cond.fieldLink RX9 111 "MudBoardsModel" "acts" "I" ∈ wsX9_count := by decide +kernel
theorem lkX9_count_232 : Cond.fieldLink RX9 232 "MudBoardsModel" "seen" "I" ∈ wsX9_count := by decide +kernel
