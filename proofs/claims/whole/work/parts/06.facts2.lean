abbrev MX8_write : Mi := (yX8_write, wsX8_write, cX8_write, RX8, 2, some .int, { frames := 2, cells := 0, slots := 0, locals := 43 })
theorem hdX8_write : (yX8_write).cls = RX8 ∧ (yX8_write).cls ≠ "java/lang/invoke/MethodHandle" ∧ (yX8_write).cls ≠ "java/lang/invoke/VarHandle" ∧ (parseMethodDescriptor (yX8_write).desc).map (fun d => d.parameters.length) = some 1 := by decide +kernel
theorem inX8_write : ∀ w ∈ u_ws RX8 TX8 10, w ∈ wsX8_write := by decide +kernel
theorem lkX8_write_10 : Cond.fieldLink RX8 10 "MudBoards" "text" "LMudBoards$Text;" ∈ wsX8_write := by decide +kernel
abbrev MX8_wipe : Mi := (yX8_wipe, wsX8_wipe, cX8_wipe, RX8, 2, some .int, { frames := 1, cells := 0, slots := 0, locals := 20 })
theorem hdX8_wipe : (yX8_wipe).cls = RX8 ∧ (yX8_wipe).cls ≠ "java/lang/invoke/MethodHandle" ∧ (yX8_wipe).cls ≠ "java/lang/invoke/VarHandle" ∧ (parseMethodDescriptor (yX8_wipe).desc).map (fun d => d.parameters.length) = some 0 := by decide +kernel
theorem inX8_wipe : ∀ w ∈ u_ws RX8 TX8 10, w ∈ wsX8_wipe := by decide +kernel
theorem lkX8_wipe_10 : Cond.fieldLink RX8 10 "MudBoards" "text" "LMudBoards$Text;" ∈ wsX8_wipe := by decide +kernel
abbrev MX8_fault : Mi := (yX8_fault, wsX8_fault, cX8_fault, RX8, 1, some .int, { frames := 4, cells := 0, slots := 0, locals := 88 })
theorem hdX8_fault : (yX8_fault).cls = RX8 ∧ (yX8_fault).cls ≠ "java/lang/invoke/MethodHandle" ∧ (yX8_fault).cls ≠ "java/lang/invoke/VarHandle" ∧ (parseMethodDescriptor (yX8_fault).desc).map (fun d => d.parameters.length) = some 0 := by decide +kernel
theorem inX8_fault : ∀ w ∈ u_ws RX8 TX8 10, w ∈ wsX8_fault := by decide +kernel
theorem lkX8_fault_10 : Cond.fieldLink RX8 10 "MudBoards" "text" "LMudBoards$Text;" ∈ wsX8_fault := by decide +kernel
abbrev MX8_flat : Mi := (yX8_flat, wsX8_flat, cX8_flat, RX8, 1, some .int, { frames := 4, cells := 0, slots := 0, locals := 88 })
theorem hdX8_flat : (yX8_flat).cls = RX8 ∧ (yX8_flat).cls ≠ "java/lang/invoke/MethodHandle" ∧ (yX8_flat).cls ≠ "java/lang/invoke/VarHandle" ∧ (parseMethodDescriptor (yX8_flat).desc).map (fun d => d.parameters.length) = some 0 := by decide +kernel
theorem inX8_flat : ∀ w ∈ u_ws RX8 TX8 10, w ∈ wsX8_flat := by decide +kernel
theorem lkX8_flat_10 : Cond.fieldLink RX8 10 "MudBoards" "text" "LMudBoards$Text;" ∈ wsX8_flat := by decide +kernel
theorem lkX8_flat_19 : Cond.fieldLink RX8 19 "MudBoards" "ground" "LMudBoards$Flat;" ∈ wsX8_flat := by decide +kernel
theorem lkX8_flat_28 : Cond.fieldLink RX8 28 "MudBoards" "shore" "LMudBoards$Shore;" ∈ wsX8_flat := by decide +kernel
theorem lkX8_flat_38 : Cond.fieldLink RX8 38 "MudBoards" "acts" "LMudBoards$Acts;" ∈ wsX8_flat := by decide +kernel
theorem lkX8_flat_45 : Cond.fieldLink RX8 45 "MudBoards" "slots" "LMudBoards$Slots;" ∈ wsX8_flat := by decide +kernel
abbrev MX8_cell : Mi := (yX8_cell, wsX8_cell, cX8_cell, RX8, 3, some .int, { frames := 3, cells := 0, slots := 0, locals := 65 })
theorem hdX8_cell : (yX8_cell).cls = RX8 ∧ (yX8_cell).cls ≠ "java/lang/invoke/MethodHandle" ∧ (yX8_cell).cls ≠ "java/lang/invoke/VarHandle" ∧ (parseMethodDescriptor (yX8_cell).desc).map (fun d => d.parameters.length) = some 2 := by decide +kernel
theorem inX8_cell : ∀ w ∈ u_ws RX8 TX8 10, w ∈ wsX8_cell := by decide +kernel
theorem lkX8_cell_19 : Cond.fieldLink RX8 19 "MudBoards" "ground" "LMudBoards$Flat;" ∈ wsX8_cell := by decide +kernel
theorem lkX8_cell_28 : Cond.fieldLink RX8 28 "MudBoards" "shore" "LMudBoards$Shore;" ∈ wsX8_cell := by decide +kernel
abbrev MX8_find : Mi := (yX8_find, wsX8_find, cX8_find, RX8, 3, some .int, { frames := 3, cells := 0, slots := 0, locals := 63 })
theorem hdX8_find : (yX8_find).cls = RX8 ∧ (yX8_find).cls ≠ "java/lang/invoke/MethodHandle" ∧ (yX8_find).cls ≠ "java/lang/invoke/VarHandle" ∧ (parseMethodDescriptor (yX8_find).desc).map (fun d => d.parameters.length) = some 2 := by decide +kernel
theorem inX8_find : ∀ w ∈ u_ws RX8 TX8 10, w ∈ wsX8_find := by decide +kernel
theorem lkX8_find_19 : Cond.fieldLink RX8 19 "MudBoards" "ground" "LMudBoards$Flat;" ∈ wsX8_find := by decide +kernel
theorem lkX8_find_28 : Cond.fieldLink RX8 28 "MudBoards" "shore" "LMudBoards$Shore;" ∈ wsX8_find := by decide +kernel
abbrev MX8_lark : Mi := (yX8_lark, wsX8_lark, cX8_lark, RX8, 3, some .int, { frames := 2, cells := 0, slots := 0, locals := 44 })
theorem hdX8_lark : (yX8_lark).cls = RX8 ∧ (yX8_lark).cls ≠ "java/lang/invoke/MethodHandle" ∧ (yX8_lark).cls ≠ "java/lang/invoke/VarHandle" ∧ (parseMethodDescriptor (yX8_lark).desc).map (fun d => d.parameters.length) = some 2 := by decide +kernel
theorem inX8_lark : ∀ w ∈ u_ws RX8 TX8 10, w ∈ wsX8_lark := by decide +kernel
theorem lkX8_lark_19 : Cond.fieldLink RX8 19 "MudBoards" "ground" "LMudBoards$Flat;" ∈ wsX8_lark := by decide +kernel
theorem lkX8_lark_28 : Cond.fieldLink RX8 28 "MudBoards" "shore" "LMudBoards$Shore;" ∈ wsX8_lark := by decide +kernel
abbrev MX8_walk : Mi := (yX8_walk, wsX8_walk, cX8_walk, RX8, 3, some .int, { frames := 5, cells := 0, slots := 0, locals := 110 })
theorem hdX8_walk : (yX8_walk).cls = RX8 ∧ (yX8_walk).cls ≠ "java/lang/invoke/MethodHandle" ∧ (yX8_walk).cls ≠ "java/lang/invoke/VarHandle" ∧ (parseMethodDescriptor (yX8_walk).desc).map (fun d => d.parameters.length) = some 2 := by decide +kernel
theorem inX8_walk : ∀ w ∈ u_ws RX8 TX8 10, w ∈ wsX8_walk := by decide +kernel
theorem lkX8_walk_19 : Cond.fieldLink RX8 19 "MudBoards" "ground" "LMudBoards$Flat;" ∈ wsX8_walk := by decide +kernel
theorem lkX8_walk_28 : Cond.fieldLink RX8 28 "MudBoards" "shore" "LMudBoards$Shore;" ∈ wsX8_walk := by decide +kernel
theorem lkX8_walk_38 : Cond.fieldLink RX8 38 "MudBoards" "acts" "LMudBoards$Acts;" ∈ wsX8_walk := by decide +kernel
abbrev MX8_hour : Mi := (yX8_hour, wsX8_hour, cX8_hour, RX8, 1, some .int, { frames := 4, cells := 0, slots := 0, locals := 89 })
theorem hdX8_hour : (yX8_hour).cls = RX8 ∧ (yX8_hour).cls ≠ "java/lang/invoke/MethodHandle" ∧ (yX8_hour).cls ≠ "java/lang/invoke/VarHandle" ∧ (parseMethodDescriptor (yX8_hour).desc).map (fun d => d.parameters.length) = some 0 := by decide +kernel
theorem inX8_hour : ∀ w ∈ u_ws RX8 TX8 10, w ∈ wsX8_hour := by decide +kernel
theorem lkX8_hour_28 : Cond.fieldLink RX8 28 "MudBoards" "shore" "LMudBoards$Shore;" ∈ wsX8_hour := by decide +kernel
theorem lkX8_hour_38 : Cond.fieldLink RX8 38 "MudBoards" "acts" "LMudBoards$Acts;" ∈ wsX8_hour := by decide +kernel
abbrev MX8_dig : Mi := (yX8_dig, wsX8_dig, cX8_dig, RX8, 3, some .int, { frames := 4, cells := 0, slots := 0, locals := 89 })
theorem hdX8_dig : (yX8_dig).cls = RX8 ∧ (yX8_dig).cls ≠ "java/lang/invoke/MethodHandle" ∧ (yX8_dig).cls ≠ "java/lang/invoke/VarHandle" ∧ (parseMethodDescriptor (yX8_dig).desc).map (fun d => d.parameters.length) = some 2 := by decide +kernel
theorem inX8_dig : ∀ w ∈ u_ws RX8 TX8 10, w ∈ wsX8_dig := by decide +kernel
theorem lkX8_dig_19 : Cond.fieldLink RX8 19 "MudBoards" "ground" "LMudBoards$Flat;" ∈ wsX8_dig := by decide +kernel
theorem lkX8_dig_28 : Cond.fieldLink RX8 28 "MudBoards" "shore" "LMudBoards$Shore;" ∈ wsX8_dig := by decide +kernel
theorem lkX8_dig_38 : Cond.fieldLink RX8 38 "MudBoards" "acts" "LMudBoards$Acts;" ∈ wsX8_dig := by decide +kernel
abbrev MX8_put : Mi := (yX8_put, wsX8_put, cX8_put, RX8, 3, some .int, { frames := 3, cells := 0, slots := 0, locals := 67 })
theorem hdX8_put : (yX8_put).cls = RX8 ∧ (yX8_put).cls ≠ "java/lang/invoke/MethodHandle" ∧ (yX8_put).cls ≠ "java/lang/invoke/VarHandle" ∧ (parseMethodDescriptor (yX8_put).desc).map (fun d => d.parameters.length) = some 1 := by decide +kernel
theorem inX8_put : ∀ w ∈ u_ws RX8 TX8 10, w ∈ wsX8_put := by decide +kernel
theorem lkX8_put_19 : Cond.fieldLink RX8 19 "MudBoards" "ground" "LMudBoards$Flat;" ∈ wsX8_put := by decide +kernel
theorem lkX8_put_28 : Cond.fieldLink RX8 28 "MudBoards" "shore" "LMudBoards$Shore;" ∈ wsX8_put := by decide +kernel
theorem lkX8_put_38 : Cond.fieldLink RX8 38 "MudBoards" "acts" "LMudBoards$Acts;" ∈ wsX8_put := by decide +kernel
abbrev MX8_sell : Mi := (yX8_sell, wsX8_sell, cX8_sell, RX8, 2, some .int, { frames := 5, cells := 0, slots := 0, locals := 107 })
theorem hdX8_sell : (yX8_sell).cls = RX8 ∧ (yX8_sell).cls ≠ "java/lang/invoke/MethodHandle" ∧ (yX8_sell).cls ≠ "java/lang/invoke/VarHandle" ∧ (parseMethodDescriptor (yX8_sell).desc).map (fun d => d.parameters.length) = some 1 := by decide +kernel
theorem inX8_sell : ∀ w ∈ u_ws RX8 TX8 10, w ∈ wsX8_sell := by decide +kernel
theorem lkX8_sell_19 : Cond.fieldLink RX8 19 "MudBoards" "ground" "LMudBoards$Flat;" ∈ wsX8_sell := by decide +kernel
theorem lkX8_sell_28 : Cond.fieldLink RX8 28 "MudBoards" "shore" "LMudBoards$Shore;" ∈ wsX8_sell := by decide +kernel
theorem lkX8_sell_38 : Cond.fieldLink RX8 38 "MudBoards" "acts" "LMudBoards$Acts;" ∈ wsX8_sell := by decide +kernel
abbrev MX8_undo : Mi := (yX8_undo, wsX8_undo, cX8_undo, RX8, 1, some .int, { frames := 3, cells := 0, slots := 0, locals := 65 })
theorem hdX8_undo : (yX8_undo).cls = RX8 ∧ (yX8_undo).cls ≠ "java/lang/invoke/MethodHandle" ∧ (yX8_undo).cls ≠ "java/lang/invoke/VarHandle" ∧ (parseMethodDescriptor (yX8_undo).desc).map (fun d => d.parameters.length) = some 0 := by decide +kernel
theorem inX8_undo : ∀ w ∈ u_ws RX8 TX8 10, w ∈ wsX8_undo := by decide +kernel
theorem lkX8_undo_28 : Cond.fieldLink RX8 28 "MudBoards" "shore" "LMudBoards$Shore;" ∈ wsX8_undo := by decide +kernel
theorem lkX8_undo_38 : Cond.fieldLink RX8 38 "MudBoards" "acts" "LMudBoards$Acts;" ∈ wsX8_undo := by decide +kernel
abbrev MX8_bared : Mi := (yX8_bared, wsX8_bared, cX8_bared, RX8, 2, some .int, { frames := 3, cells := 0, slots := 0, locals := 66 })
theorem hdX8_bared : (yX8_bared).cls = RX8 ∧ (yX8_bared).cls ≠ "java/lang/invoke/MethodHandle" ∧ (yX8_bared).cls ≠ "java/lang/invoke/VarHandle" ∧ (parseMethodDescriptor (yX8_bared).desc).map (fun d => d.parameters.length) = some 1 := by decide +kernel
theorem inX8_bared : ∀ w ∈ u_ws RX8 TX8 10, w ∈ wsX8_bared := by decide +kernel
theorem lkX8_bared_19 : Cond.fieldLink RX8 19 "MudBoards" "ground" "LMudBoards$Flat;" ∈ wsX8_bared := by decide +kernel
theorem lkX8_bared_28 : Cond.fieldLink RX8 28 "MudBoards" "shore" "LMudBoards$Shore;" ∈ wsX8_bared := by decide +kernel
abbrev MX8_flooded : Mi := (yX8_flooded, wsX8_flooded, cX8_flooded, RX8, 3, some .int, { frames := 2, cells := 0, slots := 0, locals := 43 })
theorem hdX8_flooded : (yX8_flooded).cls = RX8 ∧ (yX8_flooded).cls ≠ "java/lang/invoke/MethodHandle" ∧ (yX8_flooded).cls ≠ "java/lang/invoke/VarHandle" ∧ (parseMethodDescriptor (yX8_flooded).desc).map (fun d => d.parameters.length) = some 1 := by decide +kernel
theorem inX8_flooded : ∀ w ∈ u_ws RX8 TX8 10, w ∈ wsX8_flooded := by decide +kernel
theorem lkX8_flooded_19 : Cond.fieldLink RX8 19 "MudBoards" "ground" "LMudBoards$Flat;" ∈ wsX8_flooded := by decide +kernel
theorem lkX8_flooded_28 : Cond.fieldLink RX8 28 "MudBoards" "shore" "LMudBoards$Shore;" ∈ wsX8_flooded := by decide +kernel
abbrev MX8_reach : Mi := (yX8_reach, wsX8_reach, cX8_reach, RX8, 3, some .int, { frames := 5, cells := 0, slots := 0, locals := 117 })
theorem hdX8_reach : (yX8_reach).cls = RX8 ∧ (yX8_reach).cls ≠ "java/lang/invoke/MethodHandle" ∧ (yX8_reach).cls ≠ "java/lang/invoke/VarHandle" ∧ (parseMethodDescriptor (yX8_reach).desc).map (fun d => d.parameters.length) = some 2 := by decide +kernel
theorem inX8_reach : ∀ w ∈ u_ws RX8 TX8 10, w ∈ wsX8_reach := by decide +kernel
theorem lkX8_reach_19 : Cond.fieldLink RX8 19 "MudBoards" "ground" "LMudBoards$Flat;" ∈ wsX8_reach := by decide +kernel
theorem lkX8_reach_28 : Cond.fieldLink RX8 28 "MudBoards" "shore" "LMudBoards$Shore;" ∈ wsX8_reach := by decide +kernel
theorem lkX8_reach_61 : Cond.fieldLink RX8 61 "MudBoards" "outlook" "LMudBoards$Outlook;" ∈ wsX8_reach := by decide +kernel
abbrev MX8_home : Mi := (yX8_home, wsX8_home, cX8_home, RX8, 2, some .int, { frames := 5, cells := 0, slots := 0, locals := 116 })
theorem hdX8_home : (yX8_home).cls = RX8 ∧ (yX8_home).cls ≠ "java/lang/invoke/MethodHandle" ∧ (yX8_home).cls ≠ "java/lang/invoke/VarHandle" ∧ (parseMethodDescriptor (yX8_home).desc).map (fun d => d.parameters.length) = some 1 := by decide +kernel
theorem inX8_home : ∀ w ∈ u_ws RX8 TX8 10, w ∈ wsX8_home := by decide +kernel
theorem lkX8_home_19 : Cond.fieldLink RX8 19 "MudBoards" "ground" "LMudBoards$Flat;" ∈ wsX8_home := by decide +kernel
theorem lkX8_home_28 : Cond.fieldLink RX8 28 "MudBoards" "shore" "LMudBoards$Shore;" ∈ wsX8_home := by decide +kernel
theorem lkX8_home_61 : Cond.fieldLink RX8 61 "MudBoards" "outlook" "LMudBoards$Outlook;" ∈ wsX8_home := by decide +kernel
abbrev MX8_gets : Mi := (yX8_gets, wsX8_gets, cX8_gets, RX8, 5, some .int, { frames := 6, cells := 0, slots := 0, locals := 143 })
theorem hdX8_gets : (yX8_gets).cls = RX8 ∧ (yX8_gets).cls ≠ "java/lang/invoke/MethodHandle" ∧ (yX8_gets).cls ≠ "java/lang/invoke/VarHandle" ∧ (parseMethodDescriptor (yX8_gets).desc).map (fun d => d.parameters.length) = some 3 := by decide +kernel
theorem inX8_gets : ∀ w ∈ u_ws RX8 TX8 10, w ∈ wsX8_gets := by decide +kernel
theorem lkX8_gets_19 : Cond.fieldLink RX8 19 "MudBoards" "ground" "LMudBoards$Flat;" ∈ wsX8_gets := by decide +kernel
theorem lkX8_gets_28 : Cond.fieldLink RX8 28 "MudBoards" "shore" "LMudBoards$Shore;" ∈ wsX8_gets := by decide +kernel
theorem lkX8_gets_61 : Cond.fieldLink RX8 61 "MudBoards" "outlook" "LMudBoards$Outlook;" ∈ wsX8_gets := by decide +kernel
abbrev MX8_judge : Mi := (yX8_judge, wsX8_judge, cX8_judge, RX8, 8, some .int, { frames := 6, cells := 0, slots := 0, locals := 133 })
theorem hdX8_judge : (yX8_judge).cls = RX8 ∧ (yX8_judge).cls ≠ "java/lang/invoke/MethodHandle" ∧ (yX8_judge).cls ≠ "java/lang/invoke/VarHandle" ∧ (parseMethodDescriptor (yX8_judge).desc).map (fun d => d.parameters.length) = some 2 := by decide +kernel
theorem inX8_judge : ∀ w ∈ u_ws RX8 TX8 10, w ∈ wsX8_judge := by decide +kernel
theorem lkX8_judge_28 : Cond.fieldLink RX8 28 "MudBoards" "shore" "LMudBoards$Shore;" ∈ wsX8_judge := by decide +kernel
theorem lkX8_judge_32 : Cond.fieldLink RX8 32 "MudBoards" "trial" "LMudBoards$Shore;" ∈ wsX8_judge := by decide +kernel
abbrev MX8_see : Mi := (yX8_see, wsX8_see, cX8_see, RX8, 4, some .int, { frames := 2, cells := 0, slots := 0, locals := 45 })
theorem hdX8_see : (yX8_see).cls = RX8 ∧ (yX8_see).cls ≠ "java/lang/invoke/MethodHandle" ∧ (yX8_see).cls ≠ "java/lang/invoke/VarHandle" ∧ (parseMethodDescriptor (yX8_see).desc).map (fun d => d.parameters.length) = some 3 := by decide +kernel
theorem inX8_see : ∀ w ∈ u_ws RX8 TX8 10, w ∈ wsX8_see := by decide +kernel
theorem lkX8_see_52 : Cond.fieldLink RX8 52 "MudBoards" "sights" "LMudBoards$Sights;" ∈ wsX8_see := by decide +kernel
abbrev MX8_unsee : Mi := (yX8_unsee, wsX8_unsee, cX8_unsee, RX8, 2, some .int, { frames := 1, cells := 0, slots := 0, locals := 20 })
theorem hdX8_unsee : (yX8_unsee).cls = RX8 ∧ (yX8_unsee).cls ≠ "java/lang/invoke/MethodHandle" ∧ (yX8_unsee).cls ≠ "java/lang/invoke/VarHandle" ∧ (parseMethodDescriptor (yX8_unsee).desc).map (fun d => d.parameters.length) = some 0 := by decide +kernel
theorem inX8_unsee : ∀ w ∈ u_ws RX8 TX8 10, w ∈ wsX8_unsee := by decide +kernel
theorem lkX8_unsee_52 : Cond.fieldLink RX8 52 "MudBoards" "sights" "LMudBoards$Sights;" ∈ wsX8_unsee := by decide +kernel
abbrev MX8_phases : Mi := (yX8_phases, wsX8_phases, cX8_phases, RX8, 3, some .int, { frames := 3, cells := 0, slots := 0, locals := 66 })
theorem hdX8_phases : (yX8_phases).cls = RX8 ∧ (yX8_phases).cls ≠ "java/lang/invoke/MethodHandle" ∧ (yX8_phases).cls ≠ "java/lang/invoke/VarHandle" ∧ (parseMethodDescriptor (yX8_phases).desc).map (fun d => d.parameters.length) = some 0 := by decide +kernel
theorem inX8_phases : ∀ w ∈ u_ws RX8 TX8 10, w ∈ wsX8_phases := by decide +kernel
theorem lkX8_phases_19 : Cond.fieldLink RX8 19 "MudBoards" "ground" "LMudBoards$Flat;" ∈ wsX8_phases := by decide +kernel
theorem lkX8_phases_52 : Cond.fieldLink RX8 52 "MudBoards" "sights" "LMudBoards$Sights;" ∈ wsX8_phases := by decide +kernel
abbrev MX8_share : Mi := (yX8_share, wsX8_share, cX8_share, RX8, 3, some .int, { frames := 6, cells := 0, slots := 0, locals := 141 })
theorem hdX8_share : (yX8_share).cls = RX8 ∧ (yX8_share).cls ≠ "java/lang/invoke/MethodHandle" ∧ (yX8_share).cls ≠ "java/lang/invoke/VarHandle" ∧ (parseMethodDescriptor (yX8_share).desc).map (fun d => d.parameters.length) = some 2 := by decide +kernel
theorem inX8_share : ∀ w ∈ u_ws RX8 TX8 10, w ∈ wsX8_share := by decide +kernel
theorem lkX8_share_19 : Cond.fieldLink RX8 19 "MudBoards" "ground" "LMudBoards$Flat;" ∈ wsX8_share := by decide +kernel
theorem lkX8_share_61 : Cond.fieldLink RX8 61 "MudBoards" "outlook" "LMudBoards$Outlook;" ∈ wsX8_share := by decide +kernel
abbrev MX8_rests : Mi := (yX8_rests, wsX8_rests, cX8_rests, RX8, 4, some .int, { frames := 6, cells := 0, slots := 0, locals := 136 })
theorem hdX8_rests : (yX8_rests).cls = RX8 ∧ (yX8_rests).cls ≠ "java/lang/invoke/MethodHandle" ∧ (yX8_rests).cls ≠ "java/lang/invoke/VarHandle" ∧ (parseMethodDescriptor (yX8_rests).desc).map (fun d => d.parameters.length) = some 3 := by decide +kernel
theorem inX8_rests : ∀ w ∈ u_ws RX8 TX8 10, w ∈ wsX8_rests := by decide +kernel
theorem lkX8_rests_19 : Cond.fieldLink RX8 19 "MudBoards" "ground" "LMudBoards$Flat;" ∈ wsX8_rests := by decide +kernel
theorem lkX8_rests_28 : Cond.fieldLink RX8 28 "MudBoards" "shore" "LMudBoards$Shore;" ∈ wsX8_rests := by decide +kernel
theorem lkX8_rests_70 : Cond.fieldLink RX8 70 "MudBoards" "outing" "LMudBoards$Outing;" ∈ wsX8_rests := by decide +kernel
abbrev MX8_storms : Mi := (yX8_storms, wsX8_storms, cX8_storms, RX8, 8, some .int, { frames := 3, cells := 0, slots := 0, locals := 67 })
theorem hdX8_storms : (yX8_storms).cls = RX8 ∧ (yX8_storms).cls ≠ "java/lang/invoke/MethodHandle" ∧ (yX8_storms).cls ≠ "java/lang/invoke/VarHandle" ∧ (parseMethodDescriptor (yX8_storms).desc).map (fun d => d.parameters.length) = some 4 := by decide +kernel
theorem inX8_storms : ∀ w ∈ u_ws RX8 TX8 10, w ∈ wsX8_storms := by decide +kernel
theorem lkX8_storms_19 : Cond.fieldLink RX8 19 "MudBoards" "ground" "LMudBoards$Flat;" ∈ wsX8_storms := by decide +kernel
theorem lkX8_storms_28 : Cond.fieldLink RX8 28 "MudBoards" "shore" "LMudBoards$Shore;" ∈ wsX8_storms := by decide +kernel
theorem lkX8_storms_61 : Cond.fieldLink RX8 61 "MudBoards" "outlook" "LMudBoards$Outlook;" ∈ wsX8_storms := by decide +kernel
abbrev MX8_seed : Mi := (yX8_seed, wsX8_seed, cX8_seed, RX8, 5, some .long, { frames := 0, cells := 0, slots := 0, locals := 0 })
theorem hdX8_seed : (yX8_seed).cls = RX8 ∧ (yX8_seed).cls ≠ "java/lang/invoke/MethodHandle" ∧ (yX8_seed).cls ≠ "java/lang/invoke/VarHandle" ∧ (parseMethodDescriptor (yX8_seed).desc).map (fun d => d.parameters.length) = some 1 := by decide +kernel
theorem inX8_seed : ∀ w ∈ u_ws RX8 TX8 10, w ∈ wsX8_seed := by decide +kernel
theorem lkX8_seed_74 : Cond.fieldLink RX8 74 "MudBoards" "springSeed" "J" ∈ wsX8_seed := by decide +kernel
abbrev MX8_springs : Mi := (yX8_springs, wsX8_springs, cX8_springs, RX8, 4, some .int, { frames := 6, cells := 0, slots := 0, locals := 132 })
theorem hdX8_springs : (yX8_springs).cls = RX8 ∧ (yX8_springs).cls ≠ "java/lang/invoke/MethodHandle" ∧ (yX8_springs).cls ≠ "java/lang/invoke/VarHandle" ∧ (parseMethodDescriptor (yX8_springs).desc).map (fun d => d.parameters.length) = some 1 := by decide +kernel
theorem inX8_springs : ∀ w ∈ u_ws RX8 TX8 10, w ∈ wsX8_springs := by decide +kernel
theorem lkX8_springs_28 : Cond.fieldLink RX8 28 "MudBoards" "shore" "LMudBoards$Shore;" ∈ wsX8_springs := by decide +kernel
theorem lkX8_springs_32 : Cond.fieldLink RX8 32 "MudBoards" "trial" "LMudBoards$Shore;" ∈ wsX8_springs := by decide +kernel
theorem lkX8_springs_74 : Cond.fieldLink RX8 74 "MudBoards" "springSeed" "J" ∈ wsX8_springs := by decide +kernel
abbrev MX8_keep : Mi := (yX8_keep, wsX8_keep, cX8_keep, RX8, 2, some .int, { frames := 3, cells := 0, slots := 0, locals := 66 })
theorem hdX8_keep : (yX8_keep).cls = RX8 ∧ (yX8_keep).cls ≠ "java/lang/invoke/MethodHandle" ∧ (yX8_keep).cls ≠ "java/lang/invoke/VarHandle" ∧ (parseMethodDescriptor (yX8_keep).desc).map (fun d => d.parameters.length) = some 1 := by decide +kernel
theorem inX8_keep : ∀ w ∈ u_ws RX8 TX8 10, w ∈ wsX8_keep := by decide +kernel
theorem lkX8_keep_28 : Cond.fieldLink RX8 28 "MudBoards" "shore" "LMudBoards$Shore;" ∈ wsX8_keep := by decide +kernel
theorem lkX8_keep_45 : Cond.fieldLink RX8 45 "MudBoards" "slots" "LMudBoards$Slots;" ∈ wsX8_keep := by decide +kernel
abbrev MX8_again : Mi := (yX8_again, wsX8_again, cX8_again, RX8, 2, some .int, { frames := 3, cells := 0, slots := 0, locals := 66 })
theorem hdX8_again : (yX8_again).cls = RX8 ∧ (yX8_again).cls ≠ "java/lang/invoke/MethodHandle" ∧ (yX8_again).cls ≠ "java/lang/invoke/VarHandle" ∧ (parseMethodDescriptor (yX8_again).desc).map (fun d => d.parameters.length) = some 1 := by decide +kernel
theorem inX8_again : ∀ w ∈ u_ws RX8 TX8 10, w ∈ wsX8_again := by decide +kernel
theorem lkX8_again_28 : Cond.fieldLink RX8 28 "MudBoards" "shore" "LMudBoards$Shore;" ∈ wsX8_again := by decide +kernel
theorem lkX8_again_38 : Cond.fieldLink RX8 38 "MudBoards" "acts" "LMudBoards$Acts;" ∈ wsX8_again := by decide +kernel
theorem lkX8_again_45 : Cond.fieldLink RX8 45 "MudBoards" "slots" "LMudBoards$Slots;" ∈ wsX8_again := by decide +kernel
abbrev MX8_count : Mi := (yX8_count, wsX8_count, cX8_count, RX8, 2, some .int, { frames := 4, cells := 0, slots := 0, locals := 86 })
theorem hdX8_count : (yX8_count).cls = RX8 ∧ (yX8_count).cls ≠ "java/lang/invoke/MethodHandle" ∧ (yX8_count).cls ≠ "java/lang/invoke/VarHandle" ∧ (parseMethodDescriptor (yX8_count).desc).map (fun d => d.parameters.length) = some 1 := by decide +kernel
theorem inX8_count : ∀ w ∈ u_ws RX8 TX8 10, w ∈ wsX8_count := by decide +kernel
theorem lkX8_count_10 : Cond.fieldLink RX8 10 "MudBoards" "text" "LMudBoards$Text;" ∈ wsX8_count := by decide +kernel
theorem lkX8_count_19 : Cond.fieldLink RX8 19 "MudBoards" "ground" "LMudBoards$Flat;" ∈ wsX8_count := by decide +kernel
theorem lkX8_count_28 : Cond.fieldLink RX8 28 "MudBoards" "shore" "LMudBoards$Shore;" ∈ wsX8_count := by decide +kernel
theorem lkX8_count_38 : Cond.fieldLink RX8 38 "MudBoards" "acts" "LMudBoards$Acts;" ∈ wsX8_count := by decide +kernel
theorem lkX8_count_52 : Cond.fieldLink RX8 52 "MudBoards" "sights" "LMudBoards$Sights;" ∈ wsX8_count := by decide +kernel
abbrev MX8_isSo : Mi := (yX8_isSo, wsX8_isSo, cX8_isSo, RX8, 4, some .boolean, { frames := 5, cells := 0, slots := 0, locals := 110 })
theorem hdX8_isSo : (yX8_isSo).cls = RX8 ∧ (yX8_isSo).cls ≠ "java/lang/invoke/MethodHandle" ∧ (yX8_isSo).cls ≠ "java/lang/invoke/VarHandle" ∧ (parseMethodDescriptor (yX8_isSo).desc).map (fun d => d.parameters.length) = some 3 := by decide +kernel
theorem inX8_isSo : ∀ w ∈ u_ws RX8 TX8 10, w ∈ wsX8_isSo := by decide +kernel
theorem lkX8_isSo_19 : Cond.fieldLink RX8 19 "MudBoards" "ground" "LMudBoards$Flat;" ∈ wsX8_isSo := by decide +kernel
theorem lkX8_isSo_32 : Cond.fieldLink RX8 32 "MudBoards" "trial" "LMudBoards$Shore;" ∈ wsX8_isSo := by decide +kernel
abbrev MX8_doByChance : Mi := (yX8_doByChance, wsX8_doByChance, cX8_doByChance, RX8, 2, none, { frames := 5, cells := 0, slots := 0, locals := 111 })
theorem hdX8_doByChance : (yX8_doByChance).cls = RX8 ∧ (yX8_doByChance).cls ≠ "java/lang/invoke/MethodHandle" ∧ (yX8_doByChance).cls ≠ "java/lang/invoke/VarHandle" ∧ (parseMethodDescriptor (yX8_doByChance).desc).map (fun d => d.parameters.length) = some 1 := by decide +kernel
theorem inX8_doByChance : ∀ w ∈ u_ws RX8 TX8 10, w ∈ wsX8_doByChance := by decide +kernel
theorem lkX8_doByChance_32 : Cond.fieldLink RX8 32 "MudBoards" "trial" "LMudBoards$Shore;" ∈ wsX8_doByChance := by decide +kernel
abbrev MX8_within : Mi := (yX8_within, wsX8_within, cX8_within, RX8, 3, some .boolean, { frames := 0, cells := 0, slots := 0, locals := 0 })
theorem hdX8_within : (yX8_within).cls ≠ "java/lang/invoke/MethodHandle" ∧ (yX8_within).cls ≠ "java/lang/invoke/VarHandle" ∧ (parseMethodDescriptor (yX8_within).desc).map (fun d => d.parameters.length) = some 3 := by decide +kernel
abbrev MX8_bit : Mi := (yX8_bit, wsX8_bit, cX8_bit, RX8, 1, some .int, { frames := 0, cells := 0, slots := 0, locals := 0 })
theorem hdX8_bit : (yX8_bit).cls ≠ "java/lang/invoke/MethodHandle" ∧ (yX8_bit).cls ≠ "java/lang/invoke/VarHandle" ∧ (parseMethodDescriptor (yX8_bit).desc).map (fun d => d.parameters.length) = some 1 := by decide +kernel
abbrev MX8_has : Mi := (yX8_has, wsX8_has, cX8_has, RX8, 2, some .boolean, { frames := 0, cells := 0, slots := 0, locals := 0 })
theorem hdX8_has : (yX8_has).cls ≠ "java/lang/invoke/MethodHandle" ∧ (yX8_has).cls ≠ "java/lang/invoke/VarHandle" ∧ (parseMethodDescriptor (yX8_has).desc).map (fun d => d.parameters.length) = some 2 := by decide +kernel
abbrev MX8_thousands : Mi := (yX8_thousands, wsX8_thousands, cX8_thousands, RX8, 4, some .long, { frames := 0, cells := 0, slots := 0, locals := 0 })
theorem hdX8_thousands : (yX8_thousands).cls ≠ "java/lang/invoke/MethodHandle" ∧ (yX8_thousands).cls ≠ "java/lang/invoke/VarHandle" ∧ (parseMethodDescriptor (yX8_thousands).desc).map (fun d => d.parameters.length) = some 1 := by decide +kernel
abbrev MX8_partOfFraction : Mi := (yX8_partOfFraction, wsX8_partOfFraction, cX8_partOfFraction, RX8, 4, some .int, { frames := 1, cells := 0, slots := 0, locals := 25 })
theorem hdX8_partOfFraction : (yX8_partOfFraction).cls ≠ "java/lang/invoke/MethodHandle" ∧ (yX8_partOfFraction).cls ≠ "java/lang/invoke/VarHandle" ∧ (parseMethodDescriptor (yX8_partOfFraction).desc).map (fun d => d.parameters.length) = some 3 := by decide +kernel
abbrev MX8_greatestDivisor : Mi := (yX8_greatestDivisor, wsX8_greatestDivisor, cX8_greatestDivisor, RX8, 6, some .int, { frames := 0, cells := 0, slots := 0, locals := 0 })
theorem hdX8_greatestDivisor : (yX8_greatestDivisor).cls ≠ "java/lang/invoke/MethodHandle" ∧ (yX8_greatestDivisor).cls ≠ "java/lang/invoke/VarHandle" ∧ (parseMethodDescriptor (yX8_greatestDivisor).desc).map (fun d => d.parameters.length) = some 2 := by decide +kernel
abbrev MX8_cellBehind : Mi := (yX8_cellBehind, wsX8_cellBehind, cX8_cellBehind, RX8, 3, some .int, { frames := 0, cells := 0, slots := 0, locals := 0 })
theorem hdX8_cellBehind : (yX8_cellBehind).cls ≠ "java/lang/invoke/MethodHandle" ∧ (yX8_cellBehind).cls ≠ "java/lang/invoke/VarHandle" ∧ (parseMethodDescriptor (yX8_cellBehind).desc).map (fun d => d.parameters.length) = some 2 := by decide +kernel
