/-! the methods' words: by gen.py -/
set_option maxRecDepth 100000 in
theorem tb_cwi1 : (.code ⟨"LoadRoom", "<init>", "(III)V"⟩ prog_1_method_1_code 4 none : Cond) ∈ lw_tbl := List.mem_append_right _ (List.mem_append_left _ (List.mem_of_getElem? (i := 24) rfl))
set_option maxRecDepth 100000 in
theorem tb_cwi2 : (.code ⟨"LoadRoom", "nearestLength", "(I)I"⟩ prog_1_method_18_code 1 (Option.some FieldType.int) : Cond) ∈ lw_tbl := List.mem_append_right _ (List.mem_append_left _ (List.mem_of_getElem? (i := 32) rfl))
set_option maxRecDepth 100000 in
theorem tb_cwi3 : (.code ⟨"java/lang/Math", "min", "(II)I"⟩ prog_18_method_69_code 2 (Option.some FieldType.int) : Cond) ∈ lw_tbl := List.mem_append_right _ (List.mem_append_left _ (List.mem_of_getElem? (i := 35) rfl))
set_option maxRecDepth 100000 in
theorem tb_cwi4 : (.code ⟨"java/lang/Math", "max", "(II)I"⟩ prog_18_method_65_code 2 (Option.some FieldType.int) : Cond) ∈ lw_tbl := List.mem_append_right _ (List.mem_append_left _ (List.mem_of_getElem? (i := 38) rfl))
set_option maxRecDepth 100000 in
theorem tb_cwi5 : (.code ⟨"LoadRoom$Box", "<init>", "(III)V"⟩ prog_3_method_1_code 4 none : Cond) ∈ lw_tbl := List.mem_append_right _ (List.mem_append_left _ (List.mem_of_getElem? (i := 41) rfl))
set_option maxRecDepth 100000 in
theorem tb_cwi6 : (.code ⟨"LoadRoom$Cargo", "<init>", "(LLoadRoom$Box;)V"⟩ prog_4_method_1_code 3 none : Cond) ∈ lw_tbl := List.mem_append_right _ (List.mem_append_left _ (List.mem_of_getElem? (i := 63) rfl))
set_option maxRecDepth 100000 in
theorem tb_cwi7 : (.code ⟨"LoadRoom$Piece", "<init>", "(LLoadRoom$Box;)V"⟩ prog_7_method_1_code 2 none : Cond) ∈ lw_tbl := List.mem_append_right _ (List.mem_append_left _ (List.mem_of_getElem? (i := 70) rfl))
set_option maxRecDepth 100000 in
theorem tb_cwi8 : (.code ⟨"LoadRoom$Search", "<init>", "(LLoadRoom$Box;LLoadRoom$Cargo;)V"⟩ prog_10_method_1_code 4 none : Cond) ∈ lw_tbl := List.mem_append_right _ (List.mem_append_left _ (List.mem_of_getElem? (i := 126) rfl))
set_option maxRecDepth 100000 in
theorem tb_cwi9 : (.code ⟨"LoadRoom$Row", "<init>", "()V"⟩ prog_9_method_1_code 2 none : Cond) ∈ lw_tbl := List.mem_append_right _ (List.mem_append_left _ (List.mem_of_getElem? (i := 132) rfl))
set_option maxRecDepth 100000 in
theorem tb_cwi10 : (.code ⟨"LoadRoom$Placed", "<init>", "(I)V"⟩ prog_8_method_1_code 2 none : Cond) ∈ lw_tbl := List.mem_append_right _ (List.mem_append_left _ (List.mem_of_getElem? (i := 139) rfl))
set_option maxRecDepth 100000 in
theorem tb_cwi11 : (.code ⟨"LoadRoom$Ends", "<init>", "()V"⟩ prog_5_method_1_code 1 none : Cond) ∈ lw_tbl := List.mem_append_right _ (List.mem_append_right _ (List.mem_append_left _ (List.mem_of_getElem? (i := 2) rfl)))
set_option maxRecDepth 100000 in
theorem tb_cwi12 : (.code ⟨"LoadRoom$Floor", "<init>", "()V"⟩ prog_6_method_1_code 1 none : Cond) ∈ lw_tbl := List.mem_append_right _ (List.mem_append_right _ (List.mem_append_left _ (List.mem_of_getElem? (i := 19) rfl)))
set_option maxRecDepth 100000 in
theorem tb_cwi13 : (.code ⟨"LoadRoom$Axles", "<init>", "()V"⟩ prog_2_method_1_code 1 none : Cond) ∈ lw_tbl := List.mem_append_right _ (List.mem_append_right _ (List.mem_append_left _ (List.mem_of_getElem? (i := 87) rfl)))
set_option maxRecDepth 100000 in
theorem tb_cwi14 : (.code ⟨"LoadRoom", "exact", "()Z"⟩ prog_1_method_8_code 1 (Option.some FieldType.boolean) : Cond) ∈ lw_tbl := List.mem_append_right _ (List.mem_append_right _ (List.mem_append_left _ (List.mem_of_getElem? (i := 113) rfl)))
set_option maxRecDepth 100000 in
theorem tb_cwi15 : (.code ⟨"LoadRoom", "steps", "()I"⟩ prog_1_method_9_code 1 (Option.some FieldType.int) : Cond) ∈ lw_tbl := List.mem_append_right _ (List.mem_append_right _ (List.mem_append_left _ (List.mem_of_getElem? (i := 117) rfl)))
set_option maxRecDepth 100000 in
theorem tb_cwi16 : (.code ⟨"LoadRoom", "bound", "()I"⟩ prog_1_method_10_code 1 (Option.some FieldType.int) : Cond) ∈ lw_tbl := List.mem_append_right _ (List.mem_append_right _ (List.mem_append_left _ (List.mem_of_getElem? (i := 121) rfl)))
set_option maxRecDepth 100000 in
theorem tb_cwi17 : (.code ⟨"LoadRoom$Box", "volume", "()I"⟩ prog_3_method_2_code 1 (Option.some FieldType.int) : Cond) ∈ lw_tbl := List.mem_append_right _ (List.mem_append_right _ (List.mem_append_left _ (List.mem_of_getElem? (i := 125) rfl)))
set_option maxRecDepth 100000 in
theorem tb_cwi18 : (.code ⟨"LoadRoom$Cargo", "volume", "()I"⟩ prog_4_method_6_code 3 (Option.some FieldType.int) : Cond) ∈ lw_tbl := List.mem_append_right _ (List.mem_append_right _ (List.mem_append_left _ (List.mem_of_getElem? (i := 129) rfl)))
set_option maxRecDepth 100000 in
theorem tb_cwi19 : (.code ⟨"LoadRoom$Piece", "volume", "()I"⟩ prog_7_method_4_code 1 (Option.some FieldType.int) : Cond) ∈ lw_tbl := List.mem_append_right _ (List.mem_append_right _ (List.mem_append_left _ (List.mem_of_getElem? (i := 133) rfl)))
set_option maxRecDepth 100000 in
theorem tb_cwi20 : (.code ⟨"LoadRoom", "moment", "()J"⟩ prog_1_method_12_code 1 (Option.some FieldType.long) : Cond) ∈ lw_tbl := List.mem_append_right _ (List.mem_append_right _ (List.mem_append_left _ (List.mem_of_getElem? (i := 137) rfl)))
set_option maxRecDepth 100000 in
theorem tb_cwi21 : (.code ⟨"LoadRoomLaw", "cell", "([II)I"⟩ method_2_code 2 (Option.some FieldType.int) : Cond) ∈ lw_tbl := List.mem_append_right _ (List.mem_append_right _ (List.mem_append_left _ (List.mem_of_getElem? (i := 140) rfl)))
set_option maxRecDepth 100000 in
theorem tb_cwi22 : (.codeWith ⟨"LoadRoomLaw", "piece", "(LLoadRoom;IIII[J)I"⟩ method_3_code 7 (Option.some FieldType.int) [(0, 14, 17, 13), (0, 14, 21, 15)] : Cond) ∈ lw_tbl := List.mem_append_right _ (List.mem_append_right _ (List.mem_append_left _ (List.mem_of_getElem? (i := 143) rfl)))
set_option maxRecDepth 100000 in
theorem tb_cwi23 : (.code ⟨"LoadRoom", "piece", "(IIII)I"⟩ prog_1_method_2_code 5 (Option.some FieldType.int) : Cond) ∈ lw_tbl := List.mem_append_right _ (List.mem_append_right _ (List.mem_append_left _ (List.mem_of_getElem? (i := 149) rfl)))
set_option maxRecDepth 100000 in
theorem tb_cwi24 : (.code ⟨"LoadRoom", "isLength", "(I)Z"⟩ prog_1_method_17_code 1 (Option.some FieldType.boolean) : Cond) ∈ lw_tbl := List.mem_append_right _ (List.mem_append_right _ (List.mem_append_left _ (List.mem_of_getElem? (i := 152) rfl)))
set_option maxRecDepth 100000 in
theorem tb_cwi25 : (.code ⟨"LoadRoom", "isWithin", "(III)Z"⟩ prog_1_method_16_code 3 (Option.some FieldType.boolean) : Cond) ∈ lw_tbl := List.mem_append_right _ (List.mem_append_right _ (List.mem_append_left _ (List.mem_of_getElem? (i := 155) rfl)))
set_option maxRecDepth 100000 in
theorem tb_cwi26 : (.code ⟨"LoadRoom$Cargo", "isFull", "()Z"⟩ prog_4_method_2_code 1 (Option.some FieldType.boolean) : Cond) ∈ lw_tbl := List.mem_append_right _ (List.mem_append_right _ (List.mem_append_left _ (List.mem_of_getElem? (i := 229) rfl)))
set_option maxRecDepth 100000 in
theorem tb_cwi27 : (.code ⟨"LoadRoom$Search", "forget", "()V"⟩ prog_10_method_2_code 1 none : Cond) ∈ lw_tbl := List.mem_append_right _ (List.mem_append_right _ (List.mem_append_right _ (List.mem_append_left _ (List.mem_of_getElem? (i := 9) rfl))))
set_option maxRecDepth 100000 in
theorem tb_cwi28 : (.code ⟨"LoadRoom$Row", "clear", "()V"⟩ prog_9_method_2_code 1 none : Cond) ∈ lw_tbl := List.mem_append_right _ (List.mem_append_right _ (List.mem_append_right _ (List.mem_append_left _ (List.mem_of_getElem? (i := 13) rfl))))
set_option maxRecDepth 100000 in
theorem tb_cwi29 : (.code ⟨"LoadRoom$Cargo", "add", "(IIII)I"⟩ prog_4_method_3_code 5 (Option.some FieldType.int) : Cond) ∈ lw_tbl := List.mem_append_right _ (List.mem_append_right _ (List.mem_append_right _ (List.mem_append_left _ (List.mem_of_getElem? (i := 17) rfl))))
set_option maxRecDepth 100000 in
theorem tb_cwi30 : (.code ⟨"LoadRoom$Piece", "become", "(IIII)V"⟩ prog_7_method_2_code 5 none : Cond) ∈ lw_tbl := List.mem_append_right _ (List.mem_append_right _ (List.mem_append_right _ (List.mem_append_left _ (List.mem_of_getElem? (i := 22) rfl))))
set_option maxRecDepth 100000 in
theorem tb_cwi31 : (.code ⟨"LoadRoom$Piece", "mark", "(I)V"⟩ prog_7_method_3_code 3 none : Cond) ∈ lw_tbl := List.mem_append_right _ (List.mem_append_right _ (List.mem_append_right _ (List.mem_append_left _ (List.mem_of_getElem? (i := 27) rfl))))
set_option maxRecDepth 100000 in
theorem tb_cwi32 : (.code ⟨"LoadRoom$Piece", "counts", "(I)Z"⟩ prog_7_method_10_code 3 (Option.some FieldType.boolean) : Cond) ∈ lw_tbl := List.mem_append_right _ (List.mem_append_right _ (List.mem_append_right _ (List.mem_append_left _ (List.mem_of_getElem? (i := 31) rfl))))
set_option maxRecDepth 100000 in
theorem tb_cwi33 : (.code ⟨"LoadRoom$Piece", "allows", "(I)Z"⟩ prog_7_method_8_code 2 (Option.some FieldType.boolean) : Cond) ∈ lw_tbl := List.mem_append_right _ (List.mem_append_right _ (List.mem_append_right _ (List.mem_append_left _ (List.mem_of_getElem? (i := 35) rfl))))
set_option maxRecDepth 100000 in
theorem tb_cwi34 : (.code ⟨"LoadRoom$Piece", "looksAlike", "(II)Z"⟩ prog_7_method_9_code 3 (Option.some FieldType.boolean) : Cond) ∈ lw_tbl := List.mem_append_right _ (List.mem_append_right _ (List.mem_append_right _ (List.mem_append_left _ (List.mem_of_getElem? (i := 39) rfl))))
set_option maxRecDepth 100000 in
theorem tb_cwi35 : (.code ⟨"LoadRoom$Piece", "widthIn", "(I)I"⟩ prog_7_method_5_code 2 (Option.some FieldType.int) : Cond) ∈ lw_tbl := List.mem_append_right _ (List.mem_append_right _ (List.mem_append_right _ (List.mem_append_left _ (List.mem_of_getElem? (i := 43) rfl))))
set_option maxRecDepth 100000 in
theorem tb_cwi36 : (.code ⟨"LoadRoom$Piece", "heightIn", "(I)I"⟩ prog_7_method_6_code 2 (Option.some FieldType.int) : Cond) ∈ lw_tbl := List.mem_append_right _ (List.mem_append_right _ (List.mem_append_right _ (List.mem_append_left _ (List.mem_of_getElem? (i := 47) rfl))))
set_option maxRecDepth 100000 in
theorem tb_cwi37 : (.code ⟨"LoadRoom$Piece", "depthIn", "(I)I"⟩ prog_7_method_7_code 2 (Option.some FieldType.int) : Cond) ∈ lw_tbl := List.mem_append_right _ (List.mem_append_right _ (List.mem_append_right _ (List.mem_append_left _ (List.mem_of_getElem? (i := 51) rfl))))
set_option maxRecDepth 100000 in
theorem tb_cwi38 : (.code ⟨"LoadRoom$Piece", "goesIn", "(I)Z"⟩ prog_7_method_11_code 2 (Option.some FieldType.boolean) : Cond) ∈ lw_tbl := List.mem_append_right _ (List.mem_append_right _ (List.mem_append_right _ (List.mem_append_left _ (List.mem_of_getElem? (i := 55) rfl))))
set_option maxRecDepth 100000 in
theorem tb_cwi39 : (.codeWith ⟨"LoadRoomLaw", "turn", "(LLoadRoom;II[J)I"⟩ method_4_code 5 (Option.some FieldType.int) [(0, 10, 13, 21), (0, 10, 17, 13)] : Cond) ∈ lw_tbl := List.mem_append_right _ (List.mem_append_right _ (List.mem_append_right _ (List.mem_append_left _ (List.mem_of_getElem? (i := 58) rfl))))
set_option maxRecDepth 100000 in
theorem tb_cwi40 : (.code ⟨"LoadRoom", "turn", "(II)I"⟩ prog_1_method_3_code 5 (Option.some FieldType.int) : Cond) ∈ lw_tbl := List.mem_append_right _ (List.mem_append_right _ (List.mem_append_right _ (List.mem_append_left _ (List.mem_of_getElem? (i := 63) rfl))))
set_option maxRecDepth 100000 in
theorem tb_cwi41 : (.code ⟨"LoadRoom$Cargo", "get", "(I)LLoadRoom$Piece;"⟩ prog_4_method_5_code 2 (Option.some (FieldType.object "LoadRoom$Piece")) : Cond) ∈ lw_tbl := List.mem_append_right _ (List.mem_append_right _ (List.mem_append_right _ (List.mem_append_left _ (List.mem_of_getElem? (i := 67) rfl))))
set_option maxRecDepth 100000 in
theorem tb_cwi42 : (.code ⟨"LoadRoom$Cargo", "demand", "(I)V"⟩ prog_4_method_4_code 2 none : Cond) ∈ lw_tbl := List.mem_append_right _ (List.mem_append_right _ (List.mem_append_right _ (List.mem_append_left _ (List.mem_of_getElem? (i := 71) rfl))))
set_option maxRecDepth 100000 in
theorem tb_cwi43 : (.codeWith ⟨"LoadRoomLaw", "order", "(LLoadRoom;II[J)I"⟩ method_5_code 5 (Option.some FieldType.int) [(0, 10, 13, 21), (0, 10, 17, 13)] : Cond) ∈ lw_tbl := List.mem_append_right _ (List.mem_append_right _ (List.mem_append_right _ (List.mem_append_left _ (List.mem_of_getElem? (i := 92) rfl))))
set_option maxRecDepth 100000 in
theorem tb_cwi44 : (.code ⟨"LoadRoom", "order", "(II)I"⟩ prog_1_method_4_code 5 (Option.some FieldType.int) : Cond) ∈ lw_tbl := List.mem_append_right _ (List.mem_append_right _ (List.mem_append_right _ (List.mem_append_left _ (List.mem_of_getElem? (i := 96) rfl))))
set_option maxRecDepth 100000 in
theorem tb_cwi45 : (.codeWith ⟨"LoadRoomLaw", "limit", "(LLoadRoom;II[J)I"⟩ method_6_code 5 (Option.some FieldType.int) [(0, 10, 13, 21), (0, 10, 17, 13)] : Cond) ∈ lw_tbl := List.mem_append_right _ (List.mem_append_right _ (List.mem_append_right _ (List.mem_append_left _ (List.mem_of_getElem? (i := 100) rfl))))
set_option maxRecDepth 100000 in
theorem tb_cwi46 : (.code ⟨"LoadRoom", "limit", "(II)I"⟩ prog_1_method_5_code 5 (Option.some FieldType.int) : Cond) ∈ lw_tbl := List.mem_append_right _ (List.mem_append_right _ (List.mem_append_right _ (List.mem_append_left _ (List.mem_of_getElem? (i := 104) rfl))))
set_option maxRecDepth 100000 in
theorem tb_cwi47 : (.codeWith ⟨"LoadRoomLaw", "fits", "(LLoadRoom;I[J)I"⟩ method_7_code 4 (Option.some FieldType.int) [(0, 9, 12, 21)] : Cond) ∈ lw_tbl := List.mem_append_right _ (List.mem_append_right _ (List.mem_append_right _ (List.mem_append_left _ (List.mem_of_getElem? (i := 109) rfl))))
set_option maxRecDepth 100000 in
theorem tb_cwi48 : (.code ⟨"LoadRoom", "fits", "(I)I"⟩ prog_1_method_6_code 2 (Option.some FieldType.int) : Cond) ∈ lw_tbl := List.mem_append_right _ (List.mem_append_right _ (List.mem_append_right _ (List.mem_append_left _ (List.mem_of_getElem? (i := 113) rfl))))
set_option maxRecDepth 100000 in
theorem tb_cwi49 : (.codeWith ⟨"LoadRoomLaw", "pack", "(LLoadRoom;I[J)I"⟩ method_8_code 4 (Option.some FieldType.int) [(0, 9, 12, 13)] : Cond) ∈ lw_tbl := List.mem_append_right _ (List.mem_append_right _ (List.mem_append_right _ (List.mem_append_left _ (List.mem_of_getElem? (i := 116) rfl))))
set_option maxRecDepth 100000 in
theorem tb_cwi50 : (.code ⟨"LoadRoom", "pack", "(I)I"⟩ prog_1_method_7_code 2 (Option.some FieldType.int) : Cond) ∈ lw_tbl := List.mem_append_right _ (List.mem_append_right _ (List.mem_append_right _ (List.mem_append_left _ (List.mem_of_getElem? (i := 120) rfl))))
set_option maxRecDepth 100000 in
theorem tb_cwi51 : (.code ⟨"LoadRoom$Search", "start", "(I)V"⟩ prog_10_method_3_code 2 none : Cond) ∈ lw_tbl := List.mem_append_right _ (List.mem_append_right _ (List.mem_append_right _ (List.mem_append_left _ (List.mem_of_getElem? (i := 125) rfl))))
set_option maxRecDepth 100000 in
theorem tb_cwi52 : (.code ⟨"LoadRoom$Search", "goBehind", "(I)V"⟩ prog_10_method_4_code 7 none : Cond) ∈ lw_tbl := List.mem_append_right _ (List.mem_append_right _ (List.mem_append_right _ (List.mem_append_left _ (List.mem_of_getElem? (i := 129) rfl))))
set_option maxRecDepth 100000 in
theorem tb_cwi53 : (.code ⟨"LoadRoom$Search", "layFloors", "(I)V"⟩ prog_10_method_5_code 3 none : Cond) ∈ lw_tbl := List.mem_append_right _ (List.mem_append_right _ (List.mem_append_right _ (List.mem_append_left _ (List.mem_of_getElem? (i := 133) rfl))))
set_option maxRecDepth 100000 in
theorem tb_cwi54 : (.code ⟨"LoadRoom$Floor", "lay", "(LLoadRoom$Box;)V"⟩ prog_6_method_2_code 2 none : Cond) ∈ lw_tbl := List.mem_append_right _ (List.mem_append_right _ (List.mem_append_right _ (List.mem_append_left _ (List.mem_of_getElem? (i := 137) rfl))))
set_option maxRecDepth 100000 in
theorem tb_cwi55 : (.code ⟨"LoadRoom$Ends", "count", "(I)I"⟩ prog_5_method_2_code 2 (Option.some FieldType.int) : Cond) ∈ lw_tbl := List.mem_append_right _ (List.mem_append_right _ (List.mem_append_right _ (List.mem_append_left _ (List.mem_of_getElem? (i := 141) rfl))))
set_option maxRecDepth 100000 in
theorem tb_cwi56 : (.code ⟨"LoadRoom$Ends", "get", "(II)I"⟩ prog_5_method_3_code 3 (Option.some FieldType.int) : Cond) ∈ lw_tbl := List.mem_append_right _ (List.mem_append_right _ (List.mem_append_right _ (List.mem_append_left _ (List.mem_of_getElem? (i := 145) rfl))))
set_option maxRecDepth 100000 in
theorem tb_cwi57 : (.code ⟨"LoadRoom$Floor", "lay", "(ILLoadRoom$Row;)V"⟩ prog_6_method_3_code 4 none : Cond) ∈ lw_tbl := List.mem_append_right _ (List.mem_append_right _ (List.mem_append_right _ (List.mem_append_left _ (List.mem_of_getElem? (i := 150) rfl))))
set_option maxRecDepth 100000 in
theorem tb_cwi58 : (.code ⟨"LoadRoom$Floor", "widen", "(LLoadRoom$Placed;)V"⟩ prog_6_method_4_code 3 none : Cond) ∈ lw_tbl := List.mem_append_right _ (List.mem_append_right _ (List.mem_append_right _ (List.mem_append_left _ (List.mem_of_getElem? (i := 154) rfl))))
set_option maxRecDepth 100000 in
theorem tb_cwi59 : (.code ⟨"LoadRoom$Row", "find", "(I)LLoadRoom$Placed;"⟩ prog_9_method_4_code 3 (Option.some (FieldType.object "LoadRoom$Placed")) : Cond) ∈ lw_tbl := List.mem_append_right _ (List.mem_append_right _ (List.mem_append_right _ (List.mem_append_left _ (List.mem_of_getElem? (i := 160) rfl))))
set_option maxRecDepth 100000 in
theorem tb_cwi60 : (.code ⟨"LoadRoom$Placed", "take", "(ILLoadRoom$Piece;I)V"⟩ prog_8_method_2_code 4 none : Cond) ∈ lw_tbl := List.mem_append_right _ (List.mem_append_right _ (List.mem_append_right _ (List.mem_append_left _ (List.mem_of_getElem? (i := 164) rfl))))
set_option maxRecDepth 100000 in
theorem tb_cwi61 : (.code ⟨"LoadRoom$Search", "tryFloors", "(LLoadRoom$Placed;)V"⟩ prog_10_method_6_code 5 none : Cond) ∈ lw_tbl := List.mem_append_right _ (List.mem_append_right _ (List.mem_append_right _ (List.mem_append_left _ (List.mem_of_getElem? (i := 171) rfl))))
set_option maxRecDepth 100000 in
theorem tb_cwi62 : (.code ⟨"LoadRoom$Placed", "moveToY", "(I)V"⟩ prog_8_method_5_code 2 none : Cond) ∈ lw_tbl := List.mem_append_right _ (List.mem_append_right _ (List.mem_append_right _ (List.mem_append_left _ (List.mem_of_getElem? (i := 175) rfl))))
set_option maxRecDepth 100000 in
theorem tb_cwi63 : (.code ⟨"LoadRoom$Row", "leastHeight", "()I"⟩ prog_9_method_6_code 1 (Option.some FieldType.int) : Cond) ∈ lw_tbl := List.mem_append_right _ (List.mem_append_right _ (List.mem_append_right _ (List.mem_append_left _ (List.mem_of_getElem? (i := 179) rfl))))
set_option maxRecDepth 100000 in
theorem tb_cwi64 : (.code ⟨"LoadRoom$Search", "tryPlaces", "(LLoadRoom$Placed;LLoadRoom$Floor;)V"⟩ prog_10_method_7_code 7 none : Cond) ∈ lw_tbl := List.mem_append_right _ (List.mem_append_right _ (List.mem_append_right _ (List.mem_append_left _ (List.mem_of_getElem? (i := 183) rfl))))
set_option maxRecDepth 100000 in
theorem tb_cwi65 : (.code ⟨"LoadRoom$Row", "leastDepth", "(I)I"⟩ prog_9_method_7_code 2 (Option.some FieldType.int) : Cond) ∈ lw_tbl := List.mem_append_right _ (List.mem_append_right _ (List.mem_append_right _ (List.mem_append_left _ (List.mem_of_getElem? (i := 187) rfl))))
set_option maxRecDepth 100000 in
theorem tb_cwi66 : (.code ⟨"LoadRoom$Placed", "moveToZ", "(I)V"⟩ prog_8_method_6_code 2 none : Cond) ∈ lw_tbl := List.mem_append_right _ (List.mem_append_right _ (List.mem_append_right _ (List.mem_append_left _ (List.mem_of_getElem? (i := 192) rfl))))
set_option maxRecDepth 100000 in
theorem tb_cwi67 : (.code ⟨"LoadRoom$Placed", "moveToX", "(I)V"⟩ prog_8_method_4_code 2 none : Cond) ∈ lw_tbl := List.mem_append_right _ (List.mem_append_right _ (List.mem_append_right _ (List.mem_append_left _ (List.mem_of_getElem? (i := 196) rfl))))
set_option maxRecDepth 100000 in
theorem tb_cwi68 : (.code ⟨"LoadRoom$Row", "admits", "(LLoadRoom$Placed;)Z"⟩ prog_9_method_8_code 2 (Option.some FieldType.boolean) : Cond) ∈ lw_tbl := List.mem_append_right _ (List.mem_append_right _ (List.mem_append_right _ (List.mem_append_left _ (List.mem_of_getElem? (i := 200) rfl))))
set_option maxRecDepth 100000 in
theorem tb_cwi69 : (.code ⟨"LoadRoom$Row", "isRising", "(LLoadRoom$Placed;)Z"⟩ prog_9_method_9_code 2 (Option.some FieldType.boolean) : Cond) ∈ lw_tbl := List.mem_append_right _ (List.mem_append_right _ (List.mem_append_right _ (List.mem_append_left _ (List.mem_of_getElem? (i := 204) rfl))))
set_option maxRecDepth 100000 in
theorem tb_cwi70 : (.code ⟨"LoadRoom$Placed", "isPast", "(LLoadRoom$Placed;)Z"⟩ prog_8_method_7_code 2 (Option.some FieldType.boolean) : Cond) ∈ lw_tbl := List.mem_append_right _ (List.mem_append_right _ (List.mem_append_right _ (List.mem_append_left _ (List.mem_of_getElem? (i := 208) rfl))))
set_option maxRecDepth 100000 in
theorem tb_cwi71 : (.code ⟨"LoadRoom$Row", "letsStand", "(LLoadRoom$Placed;)Z"⟩ prog_9_method_11_code 4 (Option.some FieldType.boolean) : Cond) ∈ lw_tbl := List.mem_append_right _ (List.mem_append_right _ (List.mem_append_right _ (List.mem_append_left _ (List.mem_of_getElem? (i := 212) rfl))))
set_option maxRecDepth 100000 in
theorem tb_cwi72 : (.code ⟨"LoadRoom$Placed", "restsOn", "(LLoadRoom$Placed;)I"⟩ prog_8_method_11_code 4 (Option.some FieldType.int) : Cond) ∈ lw_tbl := List.mem_append_right _ (List.mem_append_right _ (List.mem_append_right _ (List.mem_append_left _ (List.mem_of_getElem? (i := 216) rfl))))
set_option maxRecDepth 100000 in
theorem tb_cwi73 : (.code ⟨"LoadRoom$Row", "hasRoom", "(LLoadRoom$Placed;)Z"⟩ prog_9_method_10_code 3 (Option.some FieldType.boolean) : Cond) ∈ lw_tbl := List.mem_append_right _ (List.mem_append_right _ (List.mem_append_right _ (List.mem_append_left _ (List.mem_of_getElem? (i := 222) rfl))))
set_option maxRecDepth 100000 in
theorem tb_cwi74 : (.code ⟨"LoadRoom$Placed", "sharesRoom", "(LLoadRoom$Placed;)Z"⟩ prog_8_method_8_code 2 (Option.some FieldType.boolean) : Cond) ∈ lw_tbl := List.mem_append_right _ (List.mem_append_right _ (List.mem_append_right _ (List.mem_append_left _ (List.mem_of_getElem? (i := 226) rfl))))
set_option maxRecDepth 100000 in
theorem tb_cwi75 : (.code ⟨"LoadRoom$Row", "carries", "(LLoadRoom$Placed;)Z"⟩ prog_9_method_12_code 4 (Option.some FieldType.boolean) : Cond) ∈ lw_tbl := List.mem_append_right _ (List.mem_append_right _ (List.mem_append_right _ (List.mem_append_left _ (List.mem_of_getElem? (i := 230) rfl))))
set_option maxRecDepth 100000 in
theorem tb_cwi76 : (.code ⟨"LoadRoom$Placed", "isOver", "(LLoadRoom$Placed;)Z"⟩ prog_8_method_9_code 2 (Option.some FieldType.boolean) : Cond) ∈ lw_tbl := List.mem_append_right _ (List.mem_append_right _ (List.mem_append_right _ (List.mem_append_left _ (List.mem_of_getElem? (i := 234) rfl))))
set_option maxRecDepth 100000 in
theorem tb_cwi77 : (.code ⟨"LoadRoom$Row", "letsOut", "(LLoadRoom$Placed;)Z"⟩ prog_9_method_13_code 3 (Option.some FieldType.boolean) : Cond) ∈ lw_tbl := List.mem_append_right _ (List.mem_append_right _ (List.mem_append_right _ (List.mem_append_left _ (List.mem_of_getElem? (i := 238) rfl))))
set_option maxRecDepth 100000 in
theorem tb_cwi78 : (.code ⟨"LoadRoom$Placed", "shutsIn", "(LLoadRoom$Placed;)Z"⟩ prog_8_method_10_code 2 (Option.some FieldType.boolean) : Cond) ∈ lw_tbl := List.mem_append_right _ (List.mem_append_right _ (List.mem_append_right _ (List.mem_append_right _ (List.mem_append_left _ (List.mem_of_getElem? (i := 2) rfl)))))
set_option maxRecDepth 100000 in
theorem tb_cwi79 : (.code ⟨"LoadRoom$Search", "meet", "(LLoadRoom$Placed;)V"⟩ prog_10_method_8_code 2 none : Cond) ∈ lw_tbl := List.mem_append_right _ (List.mem_append_right _ (List.mem_append_right _ (List.mem_append_right _ (List.mem_append_left _ (List.mem_of_getElem? (i := 6) rfl)))))
set_option maxRecDepth 100000 in
theorem tb_cwi80 : (.code ⟨"LoadRoom$Row", "lengthen", "()V"⟩ prog_9_method_14_code 1 none : Cond) ∈ lw_tbl := List.mem_append_right _ (List.mem_append_right _ (List.mem_append_right _ (List.mem_append_right _ (List.mem_append_left _ (List.mem_of_getElem? (i := 10) rfl)))))
set_option maxRecDepth 100000 in
theorem tb_cwi81 : (.code ⟨"LoadRoom$Row", "reckon", "(LLoadRoom$Placed;I)V"⟩ prog_9_method_16_code 4 none : Cond) ∈ lw_tbl := List.mem_append_right _ (List.mem_append_right _ (List.mem_append_right _ (List.mem_append_right _ (List.mem_append_left _ (List.mem_of_getElem? (i := 14) rfl)))))
set_option maxRecDepth 100000 in
theorem tb_cwi82 : (.code ⟨"LoadRoom$Ends", "grow", "(II)V"⟩ prog_5_method_4_code 9 none : Cond) ∈ lw_tbl := List.mem_append_right _ (List.mem_append_right _ (List.mem_append_right _ (List.mem_append_right _ (List.mem_append_left _ (List.mem_of_getElem? (i := 18) rfl)))))
set_option maxRecDepth 100000 in
theorem tb_cwi83 : (.code ⟨"LoadRoom$Row", "isBetterThan", "(LLoadRoom$Row;)Z"⟩ prog_9_method_5_code 2 (Option.some FieldType.boolean) : Cond) ∈ lw_tbl := List.mem_append_right _ (List.mem_append_right _ (List.mem_append_right _ (List.mem_append_right _ (List.mem_append_left _ (List.mem_of_getElem? (i := 23) rfl)))))
set_option maxRecDepth 100000 in
theorem tb_cwi84 : (.code ⟨"LoadRoom$Row", "copy", "(LLoadRoom$Row;)V"⟩ prog_9_method_3_code 3 none : Cond) ∈ lw_tbl := List.mem_append_right _ (List.mem_append_right _ (List.mem_append_right _ (List.mem_append_right _ (List.mem_append_left _ (List.mem_of_getElem? (i := 27) rfl)))))
set_option maxRecDepth 100000 in
theorem tb_cwi85 : (.code ⟨"LoadRoom$Placed", "copy", "(LLoadRoom$Placed;)V"⟩ prog_8_method_3_code 2 none : Cond) ∈ lw_tbl := List.mem_append_right _ (List.mem_append_right _ (List.mem_append_right _ (List.mem_append_right _ (List.mem_append_left _ (List.mem_of_getElem? (i := 31) rfl)))))
set_option maxRecDepth 100000 in
theorem tb_cwi86 : (.code ⟨"LoadRoom$Row", "shorten", "()V"⟩ prog_9_method_15_code 1 none : Cond) ∈ lw_tbl := List.mem_append_right _ (List.mem_append_right _ (List.mem_append_right _ (List.mem_append_right _ (List.mem_append_left _ (List.mem_of_getElem? (i := 36) rfl)))))
set_option maxRecDepth 100000 in
theorem tb_cwi87 : (.codeWith ⟨"LoadRoomLaw", "at", "(LLoadRoom;II[J)I"⟩ method_9_code 5 (Option.some FieldType.int) [(0, 10, 13, 21), (0, 10, 17, 13)] : Cond) ∈ lw_tbl := List.mem_append_right _ (List.mem_append_right _ (List.mem_append_right _ (List.mem_append_right _ (List.mem_append_left _ (List.mem_of_getElem? (i := 39) rfl)))))
set_option maxRecDepth 100000 in
theorem tb_cwi88 : (.code ⟨"LoadRoom", "at", "(II)I"⟩ prog_1_method_11_code 4 (Option.some FieldType.int) : Cond) ∈ lw_tbl := List.mem_append_right _ (List.mem_append_right _ (List.mem_append_right _ (List.mem_append_right _ (List.mem_append_left _ (List.mem_of_getElem? (i := 43) rfl)))))
set_option maxRecDepth 100000 in
theorem tb_cwi89 : (.code ⟨"LoadRoom$Placed", "tell", "(I)I"⟩ prog_8_method_12_code 2 (Option.some FieldType.int) : Cond) ∈ lw_tbl := List.mem_append_right _ (List.mem_append_right _ (List.mem_append_right _ (List.mem_append_right _ (List.mem_append_left _ (List.mem_of_getElem? (i := 50) rfl)))))
set_option maxRecDepth 100000 in
theorem tb_cwi90 : (.codeWith ⟨"LoadRoomLaw", "touch", "(LLoadRoom;II[J)I"⟩ method_10_code 5 (Option.some FieldType.int) [(0, 10, 13, 21)] : Cond) ∈ lw_tbl := List.mem_append_right _ (List.mem_append_right _ (List.mem_append_right _ (List.mem_append_right _ (List.mem_append_left _ (List.mem_of_getElem? (i := 53) rfl)))))
set_option maxRecDepth 100000 in
theorem tb_cwi91 : (.code ⟨"LoadRoom", "touch", "(II)I"⟩ prog_1_method_13_code 5 (Option.some FieldType.int) : Cond) ∈ lw_tbl := List.mem_append_right _ (List.mem_append_right _ (List.mem_append_right _ (List.mem_append_right _ (List.mem_append_left _ (List.mem_of_getElem? (i := 57) rfl)))))
set_option maxRecDepth 100000 in
theorem tb_cwi92 : (.codeWith ⟨"LoadRoomLaw", "axle", "(LLoadRoom;I[J)I"⟩ method_11_code 4 (Option.some FieldType.int) [(0, 9, 12, 13), (0, 9, 15, 15)] : Cond) ∈ lw_tbl := List.mem_append_right _ (List.mem_append_right _ (List.mem_append_right _ (List.mem_append_right _ (List.mem_append_left _ (List.mem_of_getElem? (i := 61) rfl)))))
set_option maxRecDepth 100000 in
theorem tb_cwi93 : (.code ⟨"LoadRoom", "axle", "(I)I"⟩ prog_1_method_14_code 2 (Option.some FieldType.int) : Cond) ∈ lw_tbl := List.mem_append_right _ (List.mem_append_right _ (List.mem_append_right _ (List.mem_append_right _ (List.mem_append_left _ (List.mem_of_getElem? (i := 65) rfl)))))
set_option maxRecDepth 100000 in
theorem tb_cwi94 : (.code ⟨"LoadRoom$Axles", "lastPlace", "()I"⟩ prog_2_method_4_code 1 (Option.some FieldType.int) : Cond) ∈ lw_tbl := List.mem_append_right _ (List.mem_append_right _ (List.mem_append_right _ (List.mem_append_right _ (List.mem_append_left _ (List.mem_of_getElem? (i := 70) rfl)))))
set_option maxRecDepth 100000 in
theorem tb_cwi95 : (.code ⟨"LoadRoom$Axles", "isFull", "()Z"⟩ prog_2_method_2_code 1 (Option.some FieldType.boolean) : Cond) ∈ lw_tbl := List.mem_append_right _ (List.mem_append_right _ (List.mem_append_right _ (List.mem_append_right _ (List.mem_append_left _ (List.mem_of_getElem? (i := 75) rfl)))))
set_option maxRecDepth 100000 in
theorem tb_cwi96 : (.code ⟨"LoadRoom$Axles", "add", "(I)I"⟩ prog_2_method_5_code 2 (Option.some FieldType.int) : Cond) ∈ lw_tbl := List.mem_append_right _ (List.mem_append_right _ (List.mem_append_right _ (List.mem_append_right _ (List.mem_append_left _ (List.mem_of_getElem? (i := 80) rfl)))))
set_option maxRecDepth 100000 in
theorem tb_cwi97 : (.codeWith ⟨"LoadRoomLaw", "load", "(LLoadRoom;II[J)I"⟩ method_12_code 5 (Option.some FieldType.int) [(0, 9, 12, 49), (0, 9, 16, 21), (0, 9, 20, 13)] : Cond) ∈ lw_tbl := List.mem_append_right _ (List.mem_append_right _ (List.mem_append_right _ (List.mem_append_right _ (List.mem_append_left _ (List.mem_of_getElem? (i := 84) rfl)))))
set_option maxRecDepth 100000 in
theorem tb_cwi98 : (.code ⟨"LoadRoom", "load", "(II)J"⟩ prog_1_method_15_code 3 (Option.some FieldType.long) : Cond) ∈ lw_tbl := List.mem_append_right _ (List.mem_append_right _ (List.mem_append_right _ (List.mem_append_right _ (List.mem_append_left _ (List.mem_of_getElem? (i := 89) rfl)))))
set_option maxRecDepth 100000 in
theorem tb_cwi99 : (.code ⟨"LoadRoom$Axles", "has", "(I)Z"⟩ prog_2_method_3_code 2 (Option.some FieldType.boolean) : Cond) ∈ lw_tbl := List.mem_append_right _ (List.mem_append_right _ (List.mem_append_right _ (List.mem_append_right _ (List.mem_append_left _ (List.mem_of_getElem? (i := 109) rfl)))))
set_option maxRecDepth 100000 in
theorem tb_cwi100 : (.code ⟨"LoadRoom$Axles", "share", "(IILLoadRoom$Row;)J"⟩ prog_2_method_6_code 10 (Option.some FieldType.long) : Cond) ∈ lw_tbl := List.mem_append_right _ (List.mem_append_right _ (List.mem_append_right _ (List.mem_append_right _ (List.mem_append_left _ (List.mem_of_getElem? (i := 117) rfl)))))
set_option maxRecDepth 100000 in
theorem tb_cwi101 : (.code ⟨"LoadRoom$Axles", "gap", "(I)I"⟩ prog_2_method_7_code 2 (Option.some FieldType.int) : Cond) ∈ lw_tbl := List.mem_append_right _ (List.mem_append_right _ (List.mem_append_right _ (List.mem_append_right _ (List.mem_append_left _ (List.mem_of_getElem? (i := 121) rfl)))))
set_option maxRecDepth 100000 in
theorem tb_cwi102 : (.code ⟨"LoadRoom$Axles", "sumFromBefore", "(ILLoadRoom$Row;)J"⟩ prog_2_method_9_code 8 (Option.some FieldType.long) : Cond) ∈ lw_tbl := List.mem_append_right _ (List.mem_append_right _ (List.mem_append_right _ (List.mem_append_right _ (List.mem_append_left _ (List.mem_of_getElem? (i := 126) rfl)))))
set_option maxRecDepth 100000 in
theorem tb_cwi103 : (.code ⟨"LoadRoom$Axles", "firstOfTwo", "(I)I"⟩ prog_2_method_8_code 4 (Option.some FieldType.int) : Cond) ∈ lw_tbl := List.mem_append_right _ (List.mem_append_right _ (List.mem_append_right _ (List.mem_append_right _ (List.mem_append_left _ (List.mem_of_getElem? (i := 130) rfl)))))
set_option maxRecDepth 100000 in
theorem tb_cwi104 : (.code ⟨"LoadRoom$Axles", "sumFromBehind", "(ILLoadRoom$Row;)J"⟩ prog_2_method_10_code 8 (Option.some FieldType.long) : Cond) ∈ lw_tbl := List.mem_append_right _ (List.mem_append_right _ (List.mem_append_right _ (List.mem_append_right _ (List.mem_append_left _ (List.mem_of_getElem? (i := 134) rfl)))))
set_option maxRecDepth 100000 in
theorem tb_cwi105 : (.code ⟨"LoadRoom$Axles", "inLowestTerms", "(JJI)J"⟩ prog_2_method_11_code 9 (Option.some FieldType.long) : Cond) ∈ lw_tbl := List.mem_append_right _ (List.mem_append_right _ (List.mem_append_right _ (List.mem_append_right _ (List.mem_append_left _ (List.mem_of_getElem? (i := 137) rfl)))))
set_option maxRecDepth 100000 in
theorem tb_cwi106 : (.code ⟨"java/lang/Math", "abs", "(J)J"⟩ prog_18_method_61_code 2 (Option.some FieldType.long) : Cond) ∈ lw_tbl := List.mem_append_right _ (List.mem_append_right _ (List.mem_append_right _ (List.mem_append_right _ (List.mem_append_left _ (List.mem_of_getElem? (i := 140) rfl)))))
set_option maxRecDepth 100000 in
theorem tb_cwi107 : (.code ⟨"LoadRoom$Axles", "commonDivisor", "(JJ)J"⟩ prog_2_method_12_code 11 (Option.some FieldType.long) : Cond) ∈ lw_tbl := List.mem_append_right _ (List.mem_append_right _ (List.mem_append_right _ (List.mem_append_right _ (List.mem_append_left _ (List.mem_of_getElem? (i := 143) rfl)))))
set_option maxRecDepth 100000 in
theorem tb_cwi108 : (.code ⟨"LoadRoomModel", "<init>", "(III)V"⟩ prog_12_method_1_code 4 none : Cond) ∈ lw_tbl := List.mem_append_right _ (List.mem_append_right _ (List.mem_append_right _ (List.mem_append_right _ (List.mem_append_left _ (List.mem_of_getElem? (i := 148) rfl)))))
set_option maxRecDepth 100000 in
theorem tb_cwi109 : (.code ⟨"LoadRoomModel", "brought", "(I)I"⟩ prog_12_method_2_code 1 (Option.some FieldType.int) : Cond) ∈ lw_tbl := List.mem_append_right _ (List.mem_append_right _ (List.mem_append_right _ (List.mem_append_right _ (List.mem_append_left _ (List.mem_of_getElem? (i := 152) rfl)))))
set_option maxRecDepth 100000 in
theorem tb_cwi110 : (.code ⟨"LoadRoomModel", "thrown", "()I"⟩ prog_12_method_3_code 1 (Option.some FieldType.int) : Cond) ∈ lw_tbl := List.mem_append_right _ (List.mem_append_right _ (List.mem_append_right _ (List.mem_append_right _ (List.mem_append_right _ (List.mem_of_getElem? (i := 19) rfl)))))
set_option maxRecDepth 100000 in
theorem tb_cwi111 : (.code ⟨"LoadRoomModel", "piece", "(IIII)I"⟩ prog_12_method_7_code 6 (Option.some FieldType.int) : Cond) ∈ lw_tbl := List.mem_append_right _ (List.mem_append_right _ (List.mem_append_right _ (List.mem_append_right _ (List.mem_append_right _ (List.mem_of_getElem? (i := 23) rfl)))))
set_option maxRecDepth 100000 in
theorem tb_cwi112 : (.code ⟨"LoadRoomModel", "within", "(III)Z"⟩ prog_12_method_4_code 3 (Option.some FieldType.boolean) : Cond) ∈ lw_tbl := List.mem_append_right _ (List.mem_append_right _ (List.mem_append_right _ (List.mem_append_right _ (List.mem_append_right _ (List.mem_of_getElem? (i := 26) rfl)))))
set_option maxRecDepth 100000 in
theorem tb_cwi113 : (.code ⟨"LoadRoomModel", "unpack", "()V"⟩ prog_12_method_6_code 1 none : Cond) ∈ lw_tbl := List.mem_append_right _ (List.mem_append_right _ (List.mem_append_right _ (List.mem_append_right _ (List.mem_append_right _ (List.mem_of_getElem? (i := 31) rfl)))))
set_option maxRecDepth 100000 in
theorem tb_cwi114 : (.code ⟨"LoadRoomModel", "turn", "(II)I"⟩ prog_12_method_8_code 4 (Option.some FieldType.int) : Cond) ∈ lw_tbl := List.mem_append_right _ (List.mem_append_right _ (List.mem_append_right _ (List.mem_append_right _ (List.mem_append_right _ (List.mem_of_getElem? (i := 35) rfl)))))
set_option maxRecDepth 100000 in
theorem tb_cwi115 : (.code ⟨"LoadRoomModel", "isPiece", "(I)Z"⟩ prog_12_method_5_code 2 (Option.some FieldType.boolean) : Cond) ∈ lw_tbl := List.mem_append_right _ (List.mem_append_right _ (List.mem_append_right _ (List.mem_append_right _ (List.mem_append_right _ (List.mem_of_getElem? (i := 39) rfl)))))
set_option maxRecDepth 100000 in
theorem tb_cwi116 : (.code ⟨"LoadRoomModel", "order", "(II)I"⟩ prog_12_method_9_code 4 (Option.some FieldType.int) : Cond) ∈ lw_tbl := List.mem_append_right _ (List.mem_append_right _ (List.mem_append_right _ (List.mem_append_right _ (List.mem_append_right _ (List.mem_of_getElem? (i := 43) rfl)))))
set_option maxRecDepth 100000 in
theorem tb_cwi117 : (.code ⟨"LoadRoomModel", "limit", "(II)I"⟩ prog_12_method_10_code 4 (Option.some FieldType.int) : Cond) ∈ lw_tbl := List.mem_append_right _ (List.mem_append_right _ (List.mem_append_right _ (List.mem_append_right _ (List.mem_append_right _ (List.mem_of_getElem? (i := 47) rfl)))))
set_option maxRecDepth 100000 in
theorem tb_cwi118 : (.code ⟨"LoadRoomModel", "fits", "(I)I"⟩ prog_12_method_16_code 2 (Option.some FieldType.int) : Cond) ∈ lw_tbl := List.mem_append_right _ (List.mem_append_right _ (List.mem_append_right _ (List.mem_append_right _ (List.mem_append_right _ (List.mem_of_getElem? (i := 51) rfl)))))
set_option maxRecDepth 100000 in
theorem tb_cwi119 : (.code ⟨"LoadRoomModel", "fitting", "(I)I"⟩ prog_12_method_15_code 4 (Option.some FieldType.int) : Cond) ∈ lw_tbl := List.mem_append_right _ (List.mem_append_right _ (List.mem_append_right _ (List.mem_append_right _ (List.mem_append_right _ (List.mem_of_getElem? (i := 55) rfl)))))
set_option maxRecDepth 100000 in
theorem tb_cwi120 : (.code ⟨"LoadRoomModel", "turnFits", "(II)Z"⟩ prog_12_method_14_code 5 (Option.some FieldType.boolean) : Cond) ∈ lw_tbl := List.mem_append_right _ (List.mem_append_right _ (List.mem_append_right _ (List.mem_append_right _ (List.mem_append_right _ (List.mem_of_getElem? (i := 59) rfl)))))
set_option maxRecDepth 100000 in
theorem tb_cwi121 : (.code ⟨"LoadRoomModel", "isAllowed", "(II)Z"⟩ prog_12_method_12_code 3 (Option.some FieldType.boolean) : Cond) ∈ lw_tbl := List.mem_append_right _ (List.mem_append_right _ (List.mem_append_right _ (List.mem_append_right _ (List.mem_append_right _ (List.mem_of_getElem? (i := 63) rfl)))))
set_option maxRecDepth 100000 in
theorem tb_cwi122 : (.code ⟨"LoadRoomModel", "isLike", "(III)Z"⟩ prog_12_method_13_code 6 (Option.some FieldType.boolean) : Cond) ∈ lw_tbl := List.mem_append_right _ (List.mem_append_right _ (List.mem_append_right _ (List.mem_append_right _ (List.mem_append_right _ (List.mem_of_getElem? (i := 67) rfl)))))
set_option maxRecDepth 100000 in
theorem tb_cwi123 : (.code ⟨"LoadRoomModel", "axisOf", "(II)I"⟩ prog_12_method_11_code 2 (Option.some FieldType.int) : Cond) ∈ lw_tbl := List.mem_append_right _ (List.mem_append_right _ (List.mem_append_right _ (List.mem_append_right _ (List.mem_append_right _ (List.mem_of_getElem? (i := 70) rfl)))))
set_option maxRecDepth 100000 in
theorem tb_cwi124 : (.code ⟨"LoadRoomModel", "bound", "()I"⟩ prog_12_method_18_code 3 (Option.some FieldType.int) : Cond) ∈ lw_tbl := List.mem_append_right _ (List.mem_append_right _ (List.mem_append_right _ (List.mem_append_right _ (List.mem_append_right _ (List.mem_of_getElem? (i := 74) rfl)))))
set_option maxRecDepth 100000 in
theorem tb_cwi125 : (.code ⟨"LoadRoomModel", "volume", "(I)I"⟩ prog_12_method_17_code 2 (Option.some FieldType.int) : Cond) ∈ lw_tbl := List.mem_append_right _ (List.mem_append_right _ (List.mem_append_right _ (List.mem_append_right _ (List.mem_append_right _ (List.mem_of_getElem? (i := 78) rfl)))))
set_option maxRecDepth 100000 in
theorem tb_cwi126 : (.code ⟨"LoadRoomModel", "pack", "(I)I"⟩ prog_12_method_30_code 4 (Option.some FieldType.int) : Cond) ∈ lw_tbl := List.mem_append_right _ (List.mem_append_right _ (List.mem_append_right _ (List.mem_append_right _ (List.mem_append_right _ (List.mem_of_getElem? (i := 82) rfl)))))
set_option maxRecDepth 100000 in
theorem tb_cwi127 : (.code ⟨"LoadRoomModel", "open", "()V"⟩ prog_12_method_19_code 8 none : Cond) ∈ lw_tbl := List.mem_append_right _ (List.mem_append_right _ (List.mem_append_right _ (List.mem_append_right _ (List.mem_append_right _ (List.mem_of_getElem? (i := 86) rfl)))))
set_option maxRecDepth 100000 in
theorem tb_cwi128 : (.code ⟨"LoadRoomModel", "findNext", "()Z"⟩ prog_12_method_29_code 7 (Option.some FieldType.boolean) : Cond) ∈ lw_tbl := List.mem_append_right _ (List.mem_append_right _ (List.mem_append_right _ (List.mem_append_right _ (List.mem_append_right _ (List.mem_of_getElem? (i := 90) rfl)))))
set_option maxRecDepth 100000 in
theorem tb_cwi129 : (.code ⟨"LoadRoomModel", "cornerX", "(I)I"⟩ prog_12_method_26_code 2 (Option.some FieldType.int) : Cond) ∈ lw_tbl := List.mem_append_right _ (List.mem_append_right _ (List.mem_append_right _ (List.mem_append_right _ (List.mem_append_right _ (List.mem_of_getElem? (i := 94) rfl)))))
set_option maxRecDepth 100000 in
theorem tb_cwi130 : (.code ⟨"LoadRoomModel", "cornerY", "(I)I"⟩ prog_12_method_28_code 2 (Option.some FieldType.int) : Cond) ∈ lw_tbl := List.mem_append_right _ (List.mem_append_right _ (List.mem_append_right _ (List.mem_append_right _ (List.mem_append_right _ (List.mem_of_getElem? (i := 98) rfl)))))
set_option maxRecDepth 100000 in
theorem tb_cwi131 : (.code ⟨"LoadRoomModel", "cornerZ", "(I)I"⟩ prog_12_method_27_code 2 (Option.some FieldType.int) : Cond) ∈ lw_tbl := List.mem_append_right _ (List.mem_append_right _ (List.mem_append_right _ (List.mem_append_right _ (List.mem_append_right _ (List.mem_of_getElem? (i := 102) rfl)))))
set_option maxRecDepth 100000 in
theorem tb_cwi132 : (.code ⟨"LoadRoomModel", "mayCome", "(IIII)Z"⟩ prog_12_method_22_code 15 (Option.some FieldType.boolean) : Cond) ∈ lw_tbl := List.mem_append_right _ (List.mem_append_right _ (List.mem_append_right _ (List.mem_append_right _ (List.mem_append_right _ (List.mem_of_getElem? (i := 106) rfl)))))
set_option maxRecDepth 100000 in
theorem tb_cwi133 : (.code ⟨"LoadRoomModel", "rises", "(III)Z"⟩ prog_12_method_21_code 5 (Option.some FieldType.boolean) : Cond) ∈ lw_tbl := List.mem_append_right _ (List.mem_append_right _ (List.mem_append_right _ (List.mem_append_right _ (List.mem_append_right _ (List.mem_of_getElem? (i := 110) rfl)))))
set_option maxRecDepth 100000 in
theorem tb_cwi134 : (.code ⟨"LoadRoomModel", "common", "(IIII)I"⟩ prog_12_method_20_code 9 (Option.some FieldType.int) : Cond) ∈ lw_tbl := List.mem_append_right _ (List.mem_append_right _ (List.mem_append_right _ (List.mem_append_right _ (List.mem_append_right _ (List.mem_of_getElem? (i := 114) rfl)))))
set_option maxRecDepth 100000 in
theorem tb_cwi135 : (.code ⟨"LoadRoomModel", "come", "(IIIII)V"⟩ prog_12_method_23_code 8 none : Cond) ∈ lw_tbl := List.mem_append_right _ (List.mem_append_right _ (List.mem_append_right _ (List.mem_append_right _ (List.mem_append_right _ (List.mem_of_getElem? (i := 118) rfl)))))
set_option maxRecDepth 100000 in
theorem tb_cwi136 : (.code ⟨"LoadRoomModel", "compare", "()V"⟩ prog_12_method_25_code 6 none : Cond) ∈ lw_tbl := List.mem_append_right _ (List.mem_append_right _ (List.mem_append_right _ (List.mem_append_right _ (List.mem_append_right _ (List.mem_of_getElem? (i := 122) rfl)))))
set_option maxRecDepth 100000 in
theorem tb_cwi137 : (.code ⟨"LoadRoomModel", "leave", "()V"⟩ prog_12_method_24_code 4 none : Cond) ∈ lw_tbl := List.mem_append_right _ (List.mem_append_right _ (List.mem_append_right _ (List.mem_append_right _ (List.mem_append_right _ (List.mem_of_getElem? (i := 126) rfl)))))
set_option maxRecDepth 100000 in
theorem tb_cwi138 : (.code ⟨"LoadRoomModel", "exact", "()Z"⟩ prog_12_method_31_code 1 (Option.some FieldType.boolean) : Cond) ∈ lw_tbl := List.mem_append_right _ (List.mem_append_right _ (List.mem_append_right _ (List.mem_append_right _ (List.mem_append_right _ (List.mem_of_getElem? (i := 130) rfl)))))
set_option maxRecDepth 100000 in
theorem tb_cwi139 : (.code ⟨"LoadRoomModel", "steps", "()I"⟩ prog_12_method_32_code 1 (Option.some FieldType.int) : Cond) ∈ lw_tbl := List.mem_append_right _ (List.mem_append_right _ (List.mem_append_right _ (List.mem_append_right _ (List.mem_append_right _ (List.mem_of_getElem? (i := 134) rfl)))))
set_option maxRecDepth 100000 in
theorem tb_cwi140 : (.code ⟨"LoadRoomModel", "at", "(II)I"⟩ prog_12_method_34_code 4 (Option.some FieldType.int) : Cond) ∈ lw_tbl := List.mem_append_right _ (List.mem_append_right _ (List.mem_append_right _ (List.mem_append_right _ (List.mem_append_right _ (List.mem_of_getElem? (i := 138) rfl)))))
set_option maxRecDepth 100000 in
theorem tb_cwi141 : (.code ⟨"LoadRoomModel", "placeOf", "(I)I"⟩ prog_12_method_33_code 3 (Option.some FieldType.int) : Cond) ∈ lw_tbl := List.mem_append_right _ (List.mem_append_right _ (List.mem_append_right _ (List.mem_append_right _ (List.mem_append_right _ (List.mem_of_getElem? (i := 142) rfl)))))
set_option maxRecDepth 100000 in
theorem tb_cwi142 : (.code ⟨"LoadRoomModel", "moment", "()J"⟩ prog_12_method_35_code 1 (Option.some FieldType.long) : Cond) ∈ lw_tbl := List.mem_append_right _ (List.mem_append_right _ (List.mem_append_right _ (List.mem_append_right _ (List.mem_append_right _ (List.mem_of_getElem? (i := 146) rfl)))))
set_option maxRecDepth 100000 in
theorem tb_cwi143 : (.code ⟨"LoadRoomModel", "touch", "(II)I"⟩ prog_12_method_37_code 6 (Option.some FieldType.int) : Cond) ∈ lw_tbl := List.mem_append_right _ (List.mem_append_right _ (List.mem_append_right _ (List.mem_append_right _ (List.mem_append_right _ (List.mem_of_getElem? (i := 150) rfl)))))
set_option maxRecDepth 100000 in
theorem tb_cwi144 : (.code ⟨"LoadRoomModel", "overlap", "(IIII)I"⟩ prog_12_method_36_code 6 (Option.some FieldType.int) : Cond) ∈ lw_tbl := List.mem_append_right _ (List.mem_append_right _ (List.mem_append_right _ (List.mem_append_right _ (List.mem_append_right _ (List.mem_of_getElem? (i := 153) rfl)))))
set_option maxRecDepth 100000 in
theorem tb_cwi145 : (.code ⟨"LoadRoomModel", "axle", "(I)I"⟩ prog_12_method_38_code 3 (Option.some FieldType.int) : Cond) ∈ lw_tbl := List.mem_append_right _ (List.mem_append_right _ (List.mem_append_right _ (List.mem_append_right _ (List.mem_append_right _ (List.mem_of_getElem? (i := 157) rfl)))))
set_option maxRecDepth 100000 in
theorem tb_cwi146 : (.code ⟨"LoadRoomModel", "load", "(II)J"⟩ prog_12_method_41_code 17 (Option.some FieldType.long) : Cond) ∈ lw_tbl := List.mem_append_right _ (List.mem_append_right _ (List.mem_append_right _ (List.mem_append_right _ (List.mem_append_right _ (List.mem_of_getElem? (i := 161) rfl)))))
set_option maxRecDepth 100000 in
theorem tb_cwi147 : (.code ⟨"LoadRoomModel", "gapOf", "(I)I"⟩ prog_12_method_39_code 3 (Option.some FieldType.int) : Cond) ∈ lw_tbl := List.mem_append_right _ (List.mem_append_right _ (List.mem_append_right _ (List.mem_append_right _ (List.mem_append_right _ (List.mem_of_getElem? (i := 165) rfl)))))
set_option maxRecDepth 100000 in
theorem tb_cwi148 : (.code ⟨"LoadRoomModel", "divisor", "(JJ)J"⟩ prog_12_method_40_code 10 (Option.some FieldType.long) : Cond) ∈ lw_tbl := List.mem_append_right _ (List.mem_append_right _ (List.mem_append_right _ (List.mem_append_right _ (List.mem_append_right _ (List.mem_of_getElem? (i := 169) rfl)))))
