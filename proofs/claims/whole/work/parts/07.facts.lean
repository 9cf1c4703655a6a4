/-! facts of the tables: classes, methods, links (by program) -/
theorem ciX0 : CI 0 RX0 TX0 10 tyX0 (clsL.getD 0 []) := ⟨rfl, by decide +kernel, tyX0_ok, nmX0, rfl, rfl, by decide, by decide +kernel⟩
theorem ciX1 : CI 1 RX1 TX1 3 tyX1 (clsL.getD 1 []) := ⟨rfl, by decide +kernel, tyX1_ok, nmX1, rfl, rfl, by decide, by decide +kernel⟩
theorem ciX2 : CI 2 RX2 TX2 3 tyX2 (clsL.getD 2 []) := ⟨rfl, by decide +kernel, tyX2_ok, nmX2, rfl, rfl, by decide, by decide +kernel⟩
theorem ciX3 : CI 3 RX3 TX3 1 tyX3 (clsL.getD 3 []) := ⟨rfl, by decide +kernel, tyX3_ok, nmX3, rfl, rfl, by decide, by decide +kernel⟩
theorem ciX4 : CI 4 RX4 TX4 7 tyX4 (clsL.getD 4 []) := ⟨rfl, by decide +kernel, tyX4_ok, nmX4, rfl, rfl, by decide, by decide +kernel⟩
theorem ciX5 : CI 5 RX5 TX5 1 tyX5 (clsL.getD 5 []) := ⟨rfl, by decide +kernel, tyX5_ok, nmX5, rfl, rfl, by decide, by decide +kernel⟩
theorem ciX6 : CI 6 RX6 TX6 5 tyX6 (clsL.getD 6 []) := ⟨rfl, by decide +kernel, tyX6_ok, nmX6, rfl, rfl, by decide, by decide +kernel⟩
theorem ciX7 : CI 7 RX7 TX7 2 tyX7 (clsL.getD 7 []) := ⟨rfl, by decide +kernel, tyX7_ok, nmX7, rfl, rfl, by decide, by decide +kernel⟩
theorem ciX8 : CI 8 RX8 TX8 15 tyX8 (clsL.getD 8 []) := ⟨rfl, by decide +kernel, tyX8_ok, nmX8, rfl, rfl, by decide, by decide +kernel⟩
theorem ciX9 : CI 9 RX9 TX9 35 tyX9 (clsL.getD 9 []) := ⟨rfl, by decide +kernel, tyX9_ok, nmX9, rfl, rfl, by decide, by decide +kernel⟩
abbrev mX0_init : MI := (RX0, cX0_init, 8, none, { frames := 1, cells := 0, slots := 0, locals := 20 }, true, [])
theorem mcX0_init : MC yX0_init mX0_init 7 := ⟨inT 397 (by decide +kernel) rfl, inT 14 (by decide +kernel) rfl, ⟨by decide +kernel, by decide +kernel⟩, by decide +kernel, by decide +kernel, rfl, rfl, fun _ => rfl⟩
abbrev mX0_frames : MI := (RX0, cX0_frames, 1, (some FieldType.int), { frames := 0, cells := 0, slots := 0, locals := 0 }, false, [])
theorem mcX0_frames : MC yX0_frames mX0_frames 0 := ⟨inT 184 (by decide +kernel) rfl, inT 14 (by decide +kernel) rfl, ⟨by decide +kernel, by decide +kernel⟩, by decide +kernel, by decide +kernel, rfl, rfl, fun z => nomatch z⟩
abbrev mX0_end : MI := (RX0, cX0_end, 1, (some FieldType.int), { frames := 0, cells := 0, slots := 0, locals := 0 }, false, [])
theorem mcX0_end : MC yX0_end mX0_end 0 := ⟨inT 595 (by decide +kernel) rfl, inT 14 (by decide +kernel) rfl, ⟨by decide +kernel, by decide +kernel⟩, by decide +kernel, by decide +kernel, rfl, rfl, fun z => nomatch z⟩
abbrev mX0_outermost : MI := (RX0, cX0_outermost, 2, (some (FieldType.object "Stowfinish$Block")), { frames := 0, cells := 0, slots := 0, locals := 0 }, false, [])
theorem mcX0_outermost : MC yX0_outermost mX0_outermost 0 := ⟨inT 221 (by decide +kernel) rfl, inT 14 (by decide +kernel) rfl, ⟨by decide +kernel, by decide +kernel⟩, by decide +kernel, by decide +kernel, rfl, rfl, fun z => nomatch z⟩
abbrev mX0_tonsAt : MI := (RX0, cX0_tonsAt, 4, (some FieldType.int), { frames := 1, cells := 0, slots := 0, locals := 20 }, false, [])
theorem mcX0_tonsAt : MC yX0_tonsAt mX0_tonsAt 1 := ⟨inT 180 (by decide +kernel) rfl, inT 14 (by decide +kernel) rfl, ⟨by decide +kernel, by decide +kernel⟩, by decide +kernel, by decide +kernel, rfl, rfl, fun z => nomatch z⟩
abbrev mX0_fact : MI := (RX0, cX0_fact, 2, (some FieldType.int), { frames := 0, cells := 0, slots := 0, locals := 0 }, false, [])
theorem mcX0_fact : MC yX0_fact mX0_fact 1 := ⟨inT 803 (by decide +kernel) rfl, inT 14 (by decide +kernel) rfl, ⟨by decide +kernel, by decide +kernel⟩, by decide +kernel, by decide +kernel, rfl, rfl, fun z => nomatch z⟩
abbrev mX1_init : MI := (RX1, cX1_init, 1, none, { frames := 1, cells := 1, slots := 36, locals := 20 }, true, [])
theorem mcX1_init : MC yX1_init mX1_init 0 := ⟨inT 37 (by decide +kernel) rfl, inT 2 (by decide +kernel) rfl, ⟨by decide +kernel, by decide +kernel⟩, by decide +kernel, by decide +kernel, rfl, rfl, fun _ => rfl⟩
abbrev mX1_roomOf : MI := (RX1, cX1_roomOf, 2, (some (FieldType.object "Stowfinish$Room")), { frames := 0, cells := 0, slots := 0, locals := 0 }, false, [])
theorem mcX1_roomOf : MC yX1_roomOf mX1_roomOf 1 := ⟨inT 536 (by decide +kernel) rfl, inT 2 (by decide +kernel) rfl, ⟨by decide +kernel, by decide +kernel⟩, by decide +kernel, by decide +kernel, rfl, rfl, fun z => nomatch z⟩
abbrev mX1_roomOn : MI := (RX1, cX1_roomOn, 3, (some (FieldType.object "Stowfinish$Room")), { frames := 1, cells := 0, slots := 0, locals := 22 }, false, [])
theorem mcX1_roomOn : MC yX1_roomOn mX1_roomOn 2 := ⟨inT 529 (by decide +kernel) rfl, inT 2 (by decide +kernel) rfl, ⟨by decide +kernel, by decide +kernel⟩, by decide +kernel, by decide +kernel, rfl, rfl, fun z => nomatch z⟩
abbrev mX1_blockAt : MI := (RX1, cX1_blockAt, 4, (some (FieldType.object "Stowfinish$Block")), { frames := 2, cells := 0, slots := 0, locals := 44 }, false, [])
theorem mcX1_blockAt : MC yX1_blockAt mX1_blockAt 2 := ⟨inT 559 (by decide +kernel) rfl, inT 2 (by decide +kernel) rfl, ⟨by decide +kernel, by decide +kernel⟩, by decide +kernel, by decide +kernel, rfl, rfl, fun z => nomatch z⟩
abbrev mX1_load : MI := (RX1, cX1_load, 3, none, { frames := 0, cells := 0, slots := 0, locals := 0 }, false, [])
theorem mcX1_load : MC yX1_load mX1_load 2 := ⟨inT 646 (by decide +kernel) rfl, inT 2 (by decide +kernel) rfl, ⟨by decide +kernel, by decide +kernel⟩, by decide +kernel, by decide +kernel, rfl, rfl, fun z => nomatch z⟩
abbrev mX1_fill : MI := (RX1, cX1_fill, 4, none, { frames := 2, cells := 12, slots := 84, locals := 42 }, false, [])
theorem mcX1_fill : MC yX1_fill mX1_fill 1 := ⟨inT 603 (by decide +kernel) rfl, inT 2 (by decide +kernel) rfl, ⟨by decide +kernel, by decide +kernel⟩, by decide +kernel, by decide +kernel, rfl, rfl, fun z => nomatch z⟩
abbrev mX1_isFull : MI := (RX1, cX1_isFull, 5, (some FieldType.boolean), { frames := 0, cells := 0, slots := 0, locals := 0 }, false, [])
theorem mcX1_isFull : MC yX1_isFull mX1_isFull 0 := ⟨inT 213 (by decide +kernel) rfl, inT 2 (by decide +kernel) rfl, ⟨by decide +kernel, by decide +kernel⟩, by decide +kernel, by decide +kernel, rfl, rfl, fun z => nomatch z⟩
abbrev mX1_painted : MI := (RX1, cX1_painted, 6, (some FieldType.int), { frames := 0, cells := 0, slots := 0, locals := 0 }, false, [])
theorem mcX1_painted : MC yX1_painted mX1_painted 0 := ⟨inT 709 (by decide +kernel) rfl, inT 2 (by decide +kernel) rfl, ⟨by decide +kernel, by decide +kernel⟩, by decide +kernel, by decide +kernel, rfl, rfl, fun z => nomatch z⟩
abbrev mX1_tonsOfCells : MI := (RX1, cX1_tonsOfCells, 6, (some FieldType.int), { frames := 2, cells := 0, slots := 0, locals := 43 }, false, [])
theorem mcX1_tonsOfCells : MC yX1_tonsOfCells mX1_tonsOfCells 0 := ⟨inT 172 (by decide +kernel) rfl, inT 2 (by decide +kernel) rfl, ⟨by decide +kernel, by decide +kernel⟩, by decide +kernel, by decide +kernel, rfl, rfl, fun z => nomatch z⟩
abbrev mX1_balance : MI := (RX1, cX1_balance, 1, (some FieldType.int), { frames := 0, cells := 0, slots := 0, locals := 0 }, false, [])
theorem mcX1_balance : MC yX1_balance mX1_balance 0 := ⟨inT 192 (by decide +kernel) rfl, inT 2 (by decide +kernel) rfl, ⟨by decide +kernel, by decide +kernel⟩, by decide +kernel, by decide +kernel, rfl, rfl, fun z => nomatch z⟩
abbrev mX1_depth : MI := (RX1, cX1_depth, 4, (some FieldType.int), { frames := 1, cells := 0, slots := 0, locals := 20 }, false, [])
theorem mcX1_depth : MC yX1_depth mX1_depth 1 := ⟨inT 200 (by decide +kernel) rfl, inT 2 (by decide +kernel) rfl, ⟨by decide +kernel, by decide +kernel⟩, by decide +kernel, by decide +kernel, rfl, rfl, fun z => nomatch z⟩
abbrev mX1_greaterDepth : MI := (RX1, cX1_greaterDepth, 1, (some FieldType.int), { frames := 2, cells := 0, slots := 0, locals := 43 }, false, [])
theorem mcX1_greaterDepth : MC yX1_greaterDepth mX1_greaterDepth 0 := ⟨inT 225 (by decide +kernel) rfl, inT 2 (by decide +kernel) rfl, ⟨by decide +kernel, by decide +kernel⟩, by decide +kernel, by decide +kernel, rfl, rfl, fun z => nomatch z⟩
abbrev mX2_init : MI := (RX2, cX2_init, 1, none, { frames := 1, cells := 1, slots := 337, locals := 20 }, true, [])
theorem mcX2_init : MC yX2_init mX2_init 0 := ⟨inT 86 (by decide +kernel) rfl, inT 6 (by decide +kernel) rfl, ⟨by decide +kernel, by decide +kernel⟩, by decide +kernel, by decide +kernel, rfl, rfl, fun _ => rfl⟩
abbrev mX2_enter : MI := (RX2, cX2_enter, 2, none, { frames := 0, cells := 0, slots := 0, locals := 0 }, false, [])
theorem mcX2_enter : MC yX2_enter mX2_enter 1 := ⟨inT 544 (by decide +kernel) rfl, inT 6 (by decide +kernel) rfl, ⟨by decide +kernel, by decide +kernel⟩, by decide +kernel, by decide +kernel, rfl, rfl, fun z => nomatch z⟩
abbrev mX2_sumOfEntries : MI := (RX2, cX2_sumOfEntries, 3, (some FieldType.int), { frames := 0, cells := 0, slots := 0, locals := 0 }, false, [])
theorem mcX2_sumOfEntries : MC yX2_sumOfEntries mX2_sumOfEntries 0 := ⟨inT 247 (by decide +kernel) rfl, inT 6 (by decide +kernel) rfl, ⟨by decide +kernel, by decide +kernel⟩, by decide +kernel, by decide +kernel, rfl, rfl, fun z => nomatch z⟩
abbrev mX3_init : MI := (RX3, cX3_init, 2, none, { frames := 1, cells := 0, slots := 0, locals := 20 }, true, [])
theorem mcX3_init : MC yX3_init mX3_init 1 := ⟨inT 765 (by decide +kernel) rfl, inT 18 (by decide +kernel) rfl, ⟨by decide +kernel, by decide +kernel⟩, by decide +kernel, by decide +kernel, rfl, rfl, fun _ => rfl⟩
abbrev mX4_init : MI := (RX4, cX4_init, 3, none, { frames := 1, cells := 0, slots := 0, locals := 20 }, true, [])
theorem mcX4_init : MC yX4_init mX4_init 2 := ⟨inT 607 (by decide +kernel) rfl, inT 17 (by decide +kernel) rfl, ⟨by decide +kernel, by decide +kernel⟩, by decide +kernel, by decide +kernel, rfl, rfl, fun _ => rfl⟩
abbrev mX4_frame : MI := (RX4, cX4_frame, 1, (some FieldType.int), { frames := 0, cells := 0, slots := 0, locals := 0 }, false, [])
theorem mcX4_frame : MC yX4_frame mX4_frame 0 := ⟨inT 176 (by decide +kernel) rfl, inT 17 (by decide +kernel) rfl, ⟨by decide +kernel, by decide +kernel⟩, by decide +kernel, by decide +kernel, rfl, rfl, fun z => nomatch z⟩
abbrev mX4_hasAllPipes : MI := (RX4, cX4_hasAllPipes, 1, (some FieldType.boolean), { frames := 0, cells := 0, slots := 0, locals := 0 }, false, [])
theorem mcX4_hasAllPipes : MC yX4_hasAllPipes mX4_hasAllPipes 0 := ⟨inT 739 (by decide +kernel) rfl, inT 17 (by decide +kernel) rfl, ⟨by decide +kernel, by decide +kernel⟩, by decide +kernel, by decide +kernel, rfl, rfl, fun z => nomatch z⟩
abbrev mX4_spoil : MI := (RX4, cX4_spoil, 2, (some FieldType.int), { frames := 0, cells := 0, slots := 0, locals := 0 }, false, [])
theorem mcX4_spoil : MC yX4_spoil mX4_spoil 0 := ⟨inT 540 (by decide +kernel) rfl, inT 17 (by decide +kernel) rfl, ⟨by decide +kernel, by decide +kernel⟩, by decide +kernel, by decide +kernel, rfl, rfl, fun z => nomatch z⟩
abbrev mX4_fact : MI := (RX4, cX4_fact, 2, (some FieldType.int), { frames := 0, cells := 0, slots := 0, locals := 0 }, false, [])
theorem mcX4_fact : MC yX4_fact mX4_fact 1 := ⟨inT 826 (by decide +kernel) rfl, inT 17 (by decide +kernel) rfl, ⟨by decide +kernel, by decide +kernel⟩, by decide +kernel, by decide +kernel, rfl, rfl, fun z => nomatch z⟩
abbrev mX5_init : MI := (RX5, cX5_init, 2, none, { frames := 1, cells := 0, slots := 0, locals := 20 }, true, [])
theorem mcX5_init : MC yX5_init mX5_init 1 := ⟨inT 57 (by decide +kernel) rfl, inT 3 (by decide +kernel) rfl, ⟨by decide +kernel, by decide +kernel⟩, by decide +kernel, by decide +kernel, rfl, rfl, fun _ => rfl⟩
abbrev mX5_seek : MI := (RX5, cX5_seek, 6, (some (FieldType.array FieldType.int)), { frames := 5, cells := 1, slots := 36, locals := 119 }, false, [])
theorem mcX5_seek : MC yX5_seek mX5_seek 2 := ⟨inT 731 (by decide +kernel) rfl, inT 3 (by decide +kernel) rfl, ⟨by decide +kernel, by decide +kernel⟩, by decide +kernel, by decide +kernel, rfl, rfl, fun z => nomatch z⟩
abbrev mX5_measure : MI := (RX5, cX5_measure, 6, none, { frames := 4, cells := 0, slots := 0, locals := 94 }, false, [])
theorem mcX5_measure : MC yX5_measure mX5_measure 1 := ⟨inT 735 (by decide +kernel) rfl, inT 3 (by decide +kernel) rfl, ⟨by decide +kernel, by decide +kernel⟩, by decide +kernel, by decide +kernel, rfl, rfl, fun z => nomatch z⟩
abbrev mX5_spreadAll : MI := (RX5, cX5_spreadAll, 7, (some FieldType.boolean), { frames := 3, cells := 0, slots := 0, locals := 68 }, false, [])
theorem mcX5_spreadAll : MC yX5_spreadAll mX5_spreadAll 1 := ⟨inT 743 (by decide +kernel) rfl, inT 3 (by decide +kernel) rfl, ⟨by decide +kernel, by decide +kernel⟩, by decide +kernel, by decide +kernel, rfl, rfl, fun z => nomatch z⟩
abbrev mX5_spread : MI := (RX5, cX5_spread, 5, (some FieldType.boolean), { frames := 2, cells := 0, slots := 0, locals := 44 }, false, [])
theorem mcX5_spread : MC yX5_spread mX5_spread 1 := ⟨inT 747 (by decide +kernel) rfl, inT 3 (by decide +kernel) rfl, ⟨by decide +kernel, by decide +kernel⟩, by decide +kernel, by decide +kernel, rfl, rfl, fun z => nomatch z⟩
abbrev mX5_lowestNearer : MI := (RX5, cX5_lowestNearer, 4, (some (FieldType.object "Stowfinish$Room")), { frames := 2, cells := 0, slots := 0, locals := 44 }, false, [])
theorem mcX5_lowestNearer : MC yX5_lowestNearer mX5_lowestNearer 1 := ⟨inT 760 (by decide +kernel) rfl, inT 3 (by decide +kernel) rfl, ⟨by decide +kernel, by decide +kernel⟩, by decide +kernel, by decide +kernel, rfl, rfl, fun z => nomatch z⟩
abbrev mX5_through : MI := (RX5, cX5_through, 4, (some (FieldType.object "Stowfinish$Room")), { frames := 1, cells := 0, slots := 0, locals := 21 }, false, [])
theorem mcX5_through : MC yX5_through mX5_through 2 := ⟨inT 753 (by decide +kernel) rfl, inT 3 (by decide +kernel) rfl, ⟨by decide +kernel, by decide +kernel⟩, by decide +kernel, by decide +kernel, rfl, rfl, fun z => nomatch z⟩
abbrev mX6_init : MI := (RX6, cX6_init, 3, none, { frames := 1, cells := 0, slots := 0, locals := 20 }, true, [])
theorem mcX6_init : MC yX6_init mX6_init 2 := ⟨inT 490 (by decide +kernel) rfl, inT 15 (by decide +kernel) rfl, ⟨by decide +kernel, by decide +kernel⟩, by decide +kernel, by decide +kernel, rfl, rfl, fun _ => rfl⟩
abbrev mX6_isScrapped : MI := (RX6, cX6_isScrapped, 1, (some FieldType.boolean), { frames := 1, cells := 0, slots := 0, locals := 21 }, false, [])
theorem mcX6_isScrapped : MC yX6_isScrapped mX6_isScrapped 0 := ⟨inT 672 (by decide +kernel) rfl, inT 15 (by decide +kernel) rfl, ⟨by decide +kernel, by decide +kernel⟩, by decide +kernel, by decide +kernel, rfl, rfl, fun z => nomatch z⟩
abbrev mX6_isStanding : MI := (RX6, cX6_isStanding, 1, (some FieldType.boolean), { frames := 1, cells := 0, slots := 0, locals := 21 }, false, [])
theorem mcX6_isStanding : MC yX6_isStanding mX6_isStanding 0 := ⟨inT 217 (by decide +kernel) rfl, inT 15 (by decide +kernel) rfl, ⟨by decide +kernel, by decide +kernel⟩, by decide +kernel, by decide +kernel, rfl, rfl, fun z => nomatch z⟩
abbrev mX6_fact : MI := (RX6, cX6_fact, 2, (some FieldType.int), { frames := 0, cells := 0, slots := 0, locals := 0 }, false, [])
theorem mcX6_fact : MC yX6_fact mX6_fact 1 := ⟨inT 814 (by decide +kernel) rfl, inT 15 (by decide +kernel) rfl, ⟨by decide +kernel, by decide +kernel⟩, by decide +kernel, by decide +kernel, rfl, rfl, fun z => nomatch z⟩
abbrev mX7_init : MI := (RX7, cX7_init, 1, none, { frames := 1, cells := 1, slots := 4, locals := 23 }, true, [])
theorem mcX7_init : MC yX7_init mX7_init 0 := ⟨inT 67 (by decide +kernel) rfl, inT 4 (by decide +kernel) rfl, ⟨by decide +kernel, by decide +kernel⟩, by decide +kernel, by decide +kernel, rfl, rfl, fun _ => rfl⟩
abbrev mX7_has : MI := (RX7, cX7_has, 2, (some FieldType.boolean), { frames := 0, cells := 0, slots := 0, locals := 0 }, false, [])
theorem mcX7_has : MC yX7_has mX7_has 1 := ⟨inT 465 (by decide +kernel) rfl, inT 4 (by decide +kernel) rfl, ⟨by decide +kernel, by decide +kernel⟩, by decide +kernel, by decide +kernel, rfl, rfl, fun z => nomatch z⟩
abbrev mX7_drawFlaw : MI := (RX7, cX7_drawFlaw, 2, (some FieldType.boolean), { frames := 0, cells := 0, slots := 0, locals := 0 }, false, [])
theorem mcX7_drawFlaw : MC yX7_drawFlaw mX7_drawFlaw 1 := ⟨inT 520 (by decide +kernel) rfl, inT 4 (by decide +kernel) rfl, ⟨by decide +kernel, by decide +kernel⟩, by decide +kernel, by decide +kernel, rfl, rfl, fun z => nomatch z⟩
abbrev mX8_init : MI := (RX8, cX8_init, 1, none, { frames := 2, cells := 10, slots := 576, locals := 43 }, true, [])
theorem mcX8_init : MC yX8_init mX8_init 0 := ⟨inT 23 (by decide +kernel) rfl, inT 1 (by decide +kernel) rfl, ⟨by decide +kernel, by decide +kernel⟩, by decide +kernel, by decide +kernel, rfl, rfl, fun _ => rfl⟩
abbrev mX8_hall : MI := (RX8, cX8_hall, 4, (some FieldType.int), { frames := 6, cells := 1, slots := 6, locals := 90 }, false, [])
theorem mcX8_hall : MC yX8_hall mX8_hall 2 := ⟨inT 255 (by decide +kernel) rfl, inT 1 (by decide +kernel) rfl, ⟨by decide +kernel, by decide +kernel⟩, by decide +kernel, by decide +kernel, rfl, rfl, fun z => nomatch z⟩
abbrev mX8_crane : MI := (RX8, cX8_crane, 4, (some FieldType.int), { frames := 6, cells := 1, slots := 6, locals := 90 }, false, [])
theorem mcX8_crane : MC yX8_crane mX8_crane 2 := ⟨inT 334 (by decide +kernel) rfl, inT 1 (by decide +kernel) rfl, ⟨by decide +kernel, by decide +kernel⟩, by decide +kernel, by decide +kernel, rfl, rfl, fun z => nomatch z⟩
abbrev mX8_welder : MI := (RX8, cX8_welder, 4, (some FieldType.int), { frames := 6, cells := 1, slots := 6, locals := 90 }, false, [])
theorem mcX8_welder : MC yX8_welder mX8_welder 2 := ⟨inT 361 (by decide +kernel) rfl, inT 1 (by decide +kernel) rfl, ⟨by decide +kernel, by decide +kernel⟩, by decide +kernel, by decide +kernel, rfl, rfl, fun z => nomatch z⟩
abbrev mX8_draw : MI := (RX8, cX8_draw, 3, (some FieldType.int), { frames := 0, cells := 0, slots := 0, locals := 0 }, false, [])
theorem mcX8_draw : MC yX8_draw mX8_draw 1 := ⟨inT 148 (by decide +kernel) rfl, inT 1 (by decide +kernel) rfl, ⟨by decide +kernel, by decide +kernel⟩, by decide +kernel, by decide +kernel, rfl, rfl, fun z => nomatch z⟩
abbrev mX8_block : MI := (RX8, cX8_block, 8, (some FieldType.int), { frames := 6, cells := 2, slots := 16, locals := 90 }, false, [])
theorem mcX8_block : MC yX8_block mX8_block 6 := ⟨inT 371 (by decide +kernel) rfl, inT 1 (by decide +kernel) rfl, ⟨by decide +kernel, by decide +kernel⟩, by decide +kernel, by decide +kernel, rfl, rfl, fun z => nomatch z⟩
abbrev mX8_join : MI := (RX8, cX8_join, 8, (some FieldType.int), { frames := 6, cells := 3, slots := 21, locals := 113 }, false, [])
theorem mcX8_join : MC yX8_join mX8_join 3 := ⟨inT 457 (by decide +kernel) rfl, inT 1 (by decide +kernel) rfl, ⟨by decide +kernel, by decide +kernel⟩, by decide +kernel, by decide +kernel, rfl, rfl, fun z => nomatch z⟩
abbrev mX8_erect : MI := (RX8, cX8_erect, 8, (some FieldType.int), { frames := 6, cells := 15, slots := 100, locals := 133 }, false, [])
theorem mcX8_erect : MC yX8_erect mX8_erect 2 := ⟨inT 551 (by decide +kernel) rfl, inT 1 (by decide +kernel) rfl, ⟨by decide +kernel, by decide +kernel⟩, by decide +kernel, by decide +kernel, rfl, rfl, fun z => nomatch z⟩
abbrev mX8_scrap : MI := (RX8, cX8_scrap, 8, (some FieldType.int), { frames := 6, cells := 1, slots := 6, locals := 90 }, false, [])
theorem mcX8_scrap : MC yX8_scrap mX8_scrap 1 := ⟨inT 653 (by decide +kernel) rfl, inT 1 (by decide +kernel) rfl, ⟨by decide +kernel, by decide +kernel⟩, by decide +kernel, by decide +kernel, rfl, rfl, fun z => nomatch z⟩
abbrev mX8_test : MI := (RX8, cX8_test, 3, (some FieldType.int), { frames := 6, cells := 1, slots := 6, locals := 90 }, false, [])
theorem mcX8_test : MC yX8_test mX8_test 1 := ⟨inT 663 (by decide +kernel) rfl, inT 1 (by decide +kernel) rfl, ⟨by decide +kernel, by decide +kernel⟩, by decide +kernel, by decide +kernel, rfl, rfl, fun z => nomatch z⟩
abbrev mX8_repair : MI := (RX8, cX8_repair, 4, (some FieldType.int), { frames := 6, cells := 1, slots := 6, locals := 90 }, false, [])
theorem mcX8_repair : MC yX8_repair mX8_repair 2 := ⟨inT 680 (by decide +kernel) rfl, inT 1 (by decide +kernel) rfl, ⟨by decide +kernel, by decide +kernel⟩, by decide +kernel, by decide +kernel, rfl, rfl, fun z => nomatch z⟩
abbrev mX8_hole : MI := (RX8, cX8_hole, 6, (some FieldType.int), { frames := 6, cells := 1, slots := 6, locals := 90 }, false, [])
theorem mcX8_hole : MC yX8_hole mX8_hole 2 := ⟨inT 689 (by decide +kernel) rfl, inT 1 (by decide +kernel) rfl, ⟨by decide +kernel, by decide +kernel⟩, by decide +kernel, by decide +kernel, rfl, rfl, fun z => nomatch z⟩
abbrev mX8_paint : MI := (RX8, cX8_paint, 3, (some FieldType.int), { frames := 6, cells := 1, slots := 6, locals := 90 }, false, [])
theorem mcX8_paint : MC yX8_paint mX8_paint 1 := ⟨inT 704 (by decide +kernel) rfl, inT 1 (by decide +kernel) rfl, ⟨by decide +kernel, by decide +kernel⟩, by decide +kernel, by decide +kernel, rfl, rfl, fun z => nomatch z⟩
abbrev mX8_fit : MI := (RX8, cX8_fit, 4, (some FieldType.int), { frames := 6, cells := 1, slots := 6, locals := 90 }, false, [])
theorem mcX8_fit : MC yX8_fit mX8_fit 2 := ⟨inT 716 (by decide +kernel) rfl, inT 1 (by decide +kernel) rfl, ⟨by decide +kernel, by decide +kernel⟩, by decide +kernel, by decide +kernel, rfl, rfl, fun z => nomatch z⟩
abbrev mX8_pipe : MI := (RX8, cX8_pipe, 6, (some FieldType.int), { frames := 6, cells := 3, slots := 43, locals := 144 }, false, [])
theorem mcX8_pipe : MC yX8_pipe mX8_pipe 2 := ⟨inT 725 (by decide +kernel) rfl, inT 1 (by decide +kernel) rfl, ⟨by decide +kernel, by decide +kernel⟩, by decide +kernel, by decide +kernel, rfl, rfl, fun z => nomatch z⟩
abbrev mX8_launch : MI := (RX8, cX8_launch, 3, (some FieldType.int), { frames := 6, cells := 1, slots := 6, locals := 90 }, false, [])
theorem mcX8_launch : MC yX8_launch mX8_launch 1 := ⟨inT 782 (by decide +kernel) rfl, inT 1 (by decide +kernel) rfl, ⟨by decide +kernel, by decide +kernel⟩, by decide +kernel, by decide +kernel, rfl, rfl, fun z => nomatch z⟩
abbrev mX8_blocks : MI := (RX8, cX8_blocks, 1, (some FieldType.int), { frames := 0, cells := 0, slots := 0, locals := 0 }, false, [])
theorem mcX8_blocks : MC yX8_blocks mX8_blocks 0 := ⟨inT 152 (by decide +kernel) rfl, inT 1 (by decide +kernel) rfl, ⟨by decide +kernel, by decide +kernel⟩, by decide +kernel, by decide +kernel, rfl, rfl, fun z => nomatch z⟩
abbrev mX8_welds : MI := (RX8, cX8_welds, 1, (some FieldType.int), { frames := 0, cells := 0, slots := 0, locals := 0 }, false, [])
theorem mcX8_welds : MC yX8_welds mX8_welds 0 := ⟨inT 156 (by decide +kernel) rfl, inT 1 (by decide +kernel) rfl, ⟨by decide +kernel, by decide +kernel⟩, by decide +kernel, by decide +kernel, rfl, rfl, fun z => nomatch z⟩
abbrev mX8_isAfloat : MI := (RX8, cX8_isAfloat, 1, (some FieldType.boolean), { frames := 0, cells := 0, slots := 0, locals := 0 }, false, [])
theorem mcX8_isAfloat : MC yX8_isAfloat mX8_isAfloat 0 := ⟨inT 160 (by decide +kernel) rfl, inT 1 (by decide +kernel) rfl, ⟨by decide +kernel, by decide +kernel⟩, by decide +kernel, by decide +kernel, rfl, rfl, fun z => nomatch z⟩
abbrev mX8_whyNot : MI := (RX8, cX8_whyNot, 3, (some FieldType.int), { frames := 6, cells := 1, slots := 6, locals := 133 }, false, [])
theorem mcX8_whyNot : MC yX8_whyNot mX8_whyNot 1 := ⟨inT 791 (by decide +kernel) rfl, inT 1 (by decide +kernel) rfl, ⟨by decide +kernel, by decide +kernel⟩, by decide +kernel, by decide +kernel, rfl, rfl, fun z => nomatch z⟩
abbrev mX8_told : MI := (RX8, cX8_told, 4, (some FieldType.int), { frames := 6, cells := 1, slots := 6, locals := 90 }, false, [])
theorem mcX8_told : MC yX8_told mX8_told 2 := ⟨inT 798 (by decide +kernel) rfl, inT 1 (by decide +kernel) rfl, ⟨by decide +kernel, by decide +kernel⟩, by decide +kernel, by decide +kernel, rfl, rfl, fun z => nomatch z⟩
abbrev mX8_weld : MI := (RX8, cX8_weld, 4, (some FieldType.int), { frames := 6, cells := 1, slots := 6, locals := 90 }, false, [])
theorem mcX8_weld : MC yX8_weld mX8_weld 2 := ⟨inT 810 (by decide +kernel) rfl, inT 1 (by decide +kernel) rfl, ⟨by decide +kernel, by decide +kernel⟩, by decide +kernel, by decide +kernel, rfl, rfl, fun z => nomatch z⟩
abbrev mX8_cell : MI := (RX8, cX8_cell, 4, (some FieldType.int), { frames := 6, cells := 1, slots := 6, locals := 90 }, false, [])
theorem mcX8_cell : MC yX8_cell mX8_cell 2 := ⟨inT 821 (by decide +kernel) rfl, inT 1 (by decide +kernel) rfl, ⟨by decide +kernel, by decide +kernel⟩, by decide +kernel, by decide +kernel, rfl, rfl, fun z => nomatch z⟩
abbrev mX8_roomAt : MI := (RX8, cX8_roomAt, 4, (some FieldType.int), { frames := 6, cells := 1, slots := 6, locals := 90 }, false, [])
theorem mcX8_roomAt : MC yX8_roomAt mX8_roomAt 2 := ⟨inT 833 (by decide +kernel) rfl, inT 1 (by decide +kernel) rfl, ⟨by decide +kernel, by decide +kernel⟩, by decide +kernel, by decide +kernel, rfl, rfl, fun z => nomatch z⟩
abbrev mX8_tons : MI := (RX8, cX8_tons, 1, (some FieldType.int), { frames := 0, cells := 0, slots := 0, locals := 0 }, false, [])
theorem mcX8_tons : MC yX8_tons mX8_tons 0 := ⟨inT 164 (by decide +kernel) rfl, inT 1 (by decide +kernel) rfl, ⟨by decide +kernel, by decide +kernel⟩, by decide +kernel, by decide +kernel, rfl, rfl, fun z => nomatch z⟩
abbrev mX8_tonsAnew : MI := (RX8, cX8_tonsAnew, 1, (some FieldType.int), { frames := 3, cells := 0, slots := 0, locals := 68 }, false, [])
theorem mcX8_tonsAnew : MC yX8_tonsAnew mX8_tonsAnew 0 := ⟨inT 168 (by decide +kernel) rfl, inT 1 (by decide +kernel) rfl, ⟨by decide +kernel, by decide +kernel⟩, by decide +kernel, by decide +kernel, rfl, rfl, fun z => nomatch z⟩
abbrev mX8_centre : MI := (RX8, cX8_centre, 1, (some FieldType.int), { frames := 1, cells := 0, slots := 0, locals := 20 }, false, [])
theorem mcX8_centre : MC yX8_centre mX8_centre 0 := ⟨inT 188 (by decide +kernel) rfl, inT 1 (by decide +kernel) rfl, ⟨by decide +kernel, by decide +kernel⟩, by decide +kernel, by decide +kernel, rfl, rfl, fun z => nomatch z⟩
abbrev mX8_draught : MI := (RX8, cX8_draught, 2, (some FieldType.int), { frames := 2, cells := 0, slots := 0, locals := 43 }, false, [])
theorem mcX8_draught : MC yX8_draught mX8_draught 1 := ⟨inT 196 (by decide +kernel) rfl, inT 1 (by decide +kernel) rfl, ⟨by decide +kernel, by decide +kernel⟩, by decide +kernel, by decide +kernel, rfl, rfl, fun z => nomatch z⟩
abbrev mX8_water : MI := (RX8, cX8_water, 2, (some FieldType.int), { frames := 6, cells := 1, slots := 6, locals := 90 }, false, [])
theorem mcX8_water : MC yX8_water mX8_water 1 := ⟨inT 841 (by decide +kernel) rfl, inT 1 (by decide +kernel) rfl, ⟨by decide +kernel, by decide +kernel⟩, by decide +kernel, by decide +kernel, rfl, rfl, fun z => nomatch z⟩
abbrev mX8_firstHour : MI := (RX8, cX8_firstHour, 3, (some FieldType.int), { frames := 3, cells := 0, slots := 0, locals := 65 }, false, [])
theorem mcX8_firstHour : MC yX8_firstHour mX8_firstHour 0 := ⟨inT 205 (by decide +kernel) rfl, inT 1 (by decide +kernel) rfl, ⟨by decide +kernel, by decide +kernel⟩, by decide +kernel, by decide +kernel, rfl, rfl, fun z => nomatch z⟩
abbrev mX8_money : MI := (RX8, cX8_money, 1, (some FieldType.int), { frames := 0, cells := 0, slots := 0, locals := 0 }, false, [])
theorem mcX8_money : MC yX8_money mX8_money 0 := ⟨inT 239 (by decide +kernel) rfl, inT 1 (by decide +kernel) rfl, ⟨by decide +kernel, by decide +kernel⟩, by decide +kernel, by decide +kernel, rfl, rfl, fun z => nomatch z⟩
abbrev mX8_moneyAnew : MI := (RX8, cX8_moneyAnew, 1, (some FieldType.int), { frames := 1, cells := 0, slots := 0, locals := 22 }, false, [])
theorem mcX8_moneyAnew : MC yX8_moneyAnew mX8_moneyAnew 0 := ⟨inT 243 (by decide +kernel) rfl, inT 1 (by decide +kernel) rfl, ⟨by decide +kernel, by decide +kernel⟩, by decide +kernel, by decide +kernel, rfl, rfl, fun z => nomatch z⟩
abbrev mX8_isWithin : MI := (RX8, cX8_isWithin, 3, (some FieldType.boolean), { frames := 0, cells := 0, slots := 0, locals := 0 }, false, [])
theorem mcX8_isWithin : MC yX8_isWithin mX8_isWithin 3 := ⟨inT 258 (by decide +kernel) rfl, inT 1 (by decide +kernel) rfl, ⟨by decide +kernel, by decide +kernel⟩, by decide +kernel, by decide +kernel, rfl, rfl, fun z => nomatch z⟩
abbrev mX8_isFrame : MI := (RX8, cX8_isFrame, 1, (some FieldType.boolean), { frames := 1, cells := 0, slots := 0, locals := 22 }, false, [])
theorem mcX8_isFrame : MC yX8_isFrame mX8_isFrame 1 := ⟨inT 337 (by decide +kernel) rfl, inT 1 (by decide +kernel) rfl, ⟨by decide +kernel, by decide +kernel⟩, by decide +kernel, by decide +kernel, rfl, rfl, fun z => nomatch z⟩
abbrev mX8_cellOf : MI := (RX8, cX8_cellOf, 3, (some FieldType.int), { frames := 0, cells := 0, slots := 0, locals := 0 }, false, [])
theorem mcX8_cellOf : MC yX8_cellOf mX8_cellOf 2 := ⟨inT 532 (by decide +kernel) rfl, inT 1 (by decide +kernel) rfl, ⟨by decide +kernel, by decide +kernel⟩, by decide +kernel, by decide +kernel, rfl, rfl, fun z => nomatch z⟩
abbrev mX8_waterAt : MI := (RX8, cX8_waterAt, 2, (some FieldType.int), { frames := 1, cells := 0, slots := 0, locals := 21 }, false, [])
theorem mcX8_waterAt : MC yX8_waterAt mX8_waterAt 1 := ⟨inT 232 (by decide +kernel) rfl, inT 1 (by decide +kernel) rfl, ⟨by decide +kernel, by decide +kernel⟩, by decide +kernel, by decide +kernel, rfl, rfl, fun z => nomatch z⟩
abbrev mX8_blockOf : MI := (RX8, cX8_blockOf, 2, (some (FieldType.object "Stowfinish$Block")), { frames := 0, cells := 0, slots := 0, locals := 0 }, false, [])
theorem mcX8_blockOf : MC yX8_blockOf mX8_blockOf 1 := ⟨inT 461 (by decide +kernel) rfl, inT 1 (by decide +kernel) rfl, ⟨by decide +kernel, by decide +kernel⟩, by decide +kernel, by decide +kernel, rfl, rfl, fun z => nomatch z⟩
abbrev mX8_weldOf : MI := (RX8, cX8_weldOf, 2, (some (FieldType.object "Stowfinish$Weld")), { frames := 0, cells := 0, slots := 0, locals := 0 }, false, [])
theorem mcX8_weldOf : MC yX8_weldOf mX8_weldOf 1 := ⟨inT 667 (by decide +kernel) rfl, inT 1 (by decide +kernel) rfl, ⟨by decide +kernel, by decide +kernel⟩, by decide +kernel, by decide +kernel, rfl, rfl, fun z => nomatch z⟩
abbrev mX8_hasSpaceForBlock : MI := (RX8, cX8_hasSpaceForBlock, 1, (some FieldType.boolean), { frames := 0, cells := 0, slots := 0, locals := 0 }, false, [])
theorem mcX8_hasSpaceForBlock : MC yX8_hasSpaceForBlock mX8_hasSpaceForBlock 0 := ⟨inT 377 (by decide +kernel) rfl, inT 1 (by decide +kernel) rfl, ⟨by decide +kernel, by decide +kernel⟩, by decide +kernel, by decide +kernel, rfl, rfl, fun z => nomatch z⟩
abbrev mX8_hasSpaceForWelds : MI := (RX8, cX8_hasSpaceForWelds, 2, (some FieldType.boolean), { frames := 0, cells := 0, slots := 0, locals := 0 }, false, [])
theorem mcX8_hasSpaceForWelds : MC yX8_hasSpaceForWelds mX8_hasSpaceForWelds 1 := ⟨inT 478 (by decide +kernel) rfl, inT 1 (by decide +kernel) rfl, ⟨by decide +kernel, by decide +kernel⟩, by decide +kernel, by decide +kernel, rfl, rfl, fun z => nomatch z⟩
abbrev mX8_keep : MI := (RX8, cX8_keep, 2, (some FieldType.int), { frames := 0, cells := 0, slots := 0, locals := 0 }, false, [])
theorem mcX8_keep : MC yX8_keep mX8_keep 1 := ⟨inT 450 (by decide +kernel) rfl, inT 1 (by decide +kernel) rfl, ⟨by decide +kernel, by decide +kernel⟩, by decide +kernel, by decide +kernel, rfl, rfl, fun z => nomatch z⟩
abbrev mX8_canJoin : MI := (RX8, cX8_canJoin, 3, (some FieldType.boolean), { frames := 1, cells := 0, slots := 0, locals := 21 }, false, [])
theorem mcX8_canJoin : MC yX8_canJoin mX8_canJoin 2 := ⟨inT 470 (by decide +kernel) rfl, inT 1 (by decide +kernel) rfl, ⟨by decide +kernel, by decide +kernel⟩, by decide +kernel, by decide +kernel, rfl, rfl, fun z => nomatch z⟩
abbrev mX8_tonsTogether : MI := (RX8, cX8_tonsTogether, 2, (some FieldType.int), { frames := 0, cells := 0, slots := 0, locals := 0 }, false, [])
theorem mcX8_tonsTogether : MC yX8_tonsTogether mX8_tonsTogether 2 := ⟨inT 474 (by decide +kernel) rfl, inT 1 (by decide +kernel) rfl, ⟨by decide +kernel, by decide +kernel⟩, by decide +kernel, by decide +kernel, rfl, rfl, fun z => nomatch z⟩
abbrev mX8_becomePart : MI := (RX8, cX8_becomePart, 2, none, { frames := 0, cells := 0, slots := 0, locals := 0 }, false, [])
theorem mcX8_becomePart : MC yX8_becomePart mX8_becomePart 2 := ⟨inT 482 (by decide +kernel) rfl, inT 1 (by decide +kernel) rfl, ⟨by decide +kernel, by decide +kernel⟩, by decide +kernel, by decide +kernel, rfl, rfl, fun z => nomatch z⟩
abbrev mX8_makeWeld : MI := (RX8, cX8_makeWeld, 5, none, { frames := 4, cells := 1, slots := 5, locals := 89 }, false, [])
theorem mcX8_makeWeld : MC yX8_makeWeld mX8_makeWeld 3 := ⟨inT 486 (by decide +kernel) rfl, inT 1 (by decide +kernel) rfl, ⟨by decide +kernel, by decide +kernel⟩, by decide +kernel, by decide +kernel, rfl, rfl, fun z => nomatch z⟩
abbrev mX8_weldNow : MI := (RX8, cX8_weldNow, 3, none, { frames := 3, cells := 0, slots := 0, locals := 67 }, false, [])
theorem mcX8_weldNow : MC yX8_weldNow mX8_weldNow 2 := ⟨inT 516 (by decide +kernel) rfl, inT 1 (by decide +kernel) rfl, ⟨by decide +kernel, by decide +kernel⟩, by decide +kernel, by decide +kernel, rfl, rfl, fun z => nomatch z⟩
abbrev mX8_spoilAt : MI := (RX8, cX8_spoilAt, 4, none, { frames := 2, cells := 0, slots := 0, locals := 44 }, false, [])
theorem mcX8_spoilAt : MC yX8_spoilAt mX8_spoilAt 2 := ⟨inT 525 (by decide +kernel) rfl, inT 1 (by decide +kernel) rfl, ⟨by decide +kernel, by decide +kernel⟩, by decide +kernel, by decide +kernel, rfl, rfl, fun z => nomatch z⟩
abbrev mX8_reasonAgainst : MI := (RX8, cX8_reasonAgainst, 2, (some FieldType.int), { frames := 5, cells := 0, slots := 0, locals := 112 }, false, [])
theorem mcX8_reasonAgainst : MC yX8_reasonAgainst mX8_reasonAgainst 1 := ⟨inT 568 (by decide +kernel) rfl, inT 1 (by decide +kernel) rfl, ⟨by decide +kernel, by decide +kernel⟩, by decide +kernel, by decide +kernel, rfl, rfl, fun z => nomatch z⟩
abbrev mX8_isSomeFilled : MI := (RX8, cX8_isSomeFilled, 3, (some FieldType.boolean), { frames := 2, cells := 0, slots := 0, locals := 44 }, false, [])
theorem mcX8_isSomeFilled : MC yX8_isSomeFilled mX8_isSomeFilled 1 := ⟨inT 572 (by decide +kernel) rfl, inT 1 (by decide +kernel) rfl, ⟨by decide +kernel, by decide +kernel⟩, by decide +kernel, by decide +kernel, rfl, rfl, fun z => nomatch z⟩
abbrev mX8_isSomeBelowEmpty : MI := (RX8, cX8_isSomeBelowEmpty, 3, (some FieldType.boolean), { frames := 2, cells := 0, slots := 0, locals := 44 }, false, [])
theorem mcX8_isSomeBelowEmpty : MC yX8_isSomeBelowEmpty mX8_isSomeBelowEmpty 1 := ⟨inT 576 (by decide +kernel) rfl, inT 1 (by decide +kernel) rfl, ⟨by decide +kernel, by decide +kernel⟩, by decide +kernel, by decide +kernel, rfl, rfl, fun z => nomatch z⟩
abbrev mX8_liftOver : MI := (RX8, cX8_liftOver, 3, (some FieldType.int), { frames := 1, cells := 0, slots := 0, locals := 21 }, false, [])
theorem mcX8_liftOver : MC yX8_liftOver mX8_liftOver 1 := ⟨inT 580 (by decide +kernel) rfl, inT 1 (by decide +kernel) rfl, ⟨by decide +kernel, by decide +kernel⟩, by decide +kernel, by decide +kernel, rfl, rfl, fun z => nomatch z⟩
abbrev mX8_isMisfit : MI := (RX8, cX8_isMisfit, 5, (some FieldType.boolean), { frames := 4, cells := 0, slots := 0, locals := 88 }, false, [])
theorem mcX8_isMisfit : MC yX8_isMisfit mX8_isMisfit 1 := ⟨inT 588 (by decide +kernel) rfl, inT 1 (by decide +kernel) rfl, ⟨by decide +kernel, by decide +kernel⟩, by decide +kernel, by decide +kernel, rfl, rfl, fun z => nomatch z⟩
abbrev mX8_neighbourAhead : MI := (RX8, cX8_neighbourAhead, 2, (some (FieldType.object "Stowfinish$Block")), { frames := 3, cells := 0, slots := 0, locals := 67 }, false, [])
theorem mcX8_neighbourAhead : MC yX8_neighbourAhead mX8_neighbourAhead 1 := ⟨inT 555 (by decide +kernel) rfl, inT 1 (by decide +kernel) rfl, ⟨by decide +kernel, by decide +kernel⟩, by decide +kernel, by decide +kernel, rfl, rfl, fun z => nomatch z⟩
abbrev mX8_neighbourBehind : MI := (RX8, cX8_neighbourBehind, 2, (some (FieldType.object "Stowfinish$Block")), { frames := 3, cells := 0, slots := 0, locals := 67 }, false, [])
theorem mcX8_neighbourBehind : MC yX8_neighbourBehind mX8_neighbourBehind 1 := ⟨inT 564 (by decide +kernel) rfl, inT 1 (by decide +kernel) rfl, ⟨by decide +kernel, by decide +kernel⟩, by decide +kernel, by decide +kernel, rfl, rfl, fun z => nomatch z⟩
abbrev mX8_excess : MI := (RX8, cX8_excess, 3, (some FieldType.int), { frames := 1, cells := 0, slots := 0, locals := 20 }, false, [])
theorem mcX8_excess : MC yX8_excess mX8_excess 3 := ⟨inT 591 (by decide +kernel) rfl, inT 1 (by decide +kernel) rfl, ⟨by decide +kernel, by decide +kernel⟩, by decide +kernel, by decide +kernel, rfl, rfl, fun z => nomatch z⟩
abbrev mX8_beginOf : MI := (RX8, cX8_beginOf, 3, (some FieldType.int), { frames := 1, cells := 0, slots := 0, locals := 20 }, false, [])
theorem mcX8_beginOf : MC yX8_beginOf mX8_beginOf 3 := ⟨inT 599 (by decide +kernel) rfl, inT 1 (by decide +kernel) rfl, ⟨by decide +kernel, by decide +kernel⟩, by decide +kernel, by decide +kernel, rfl, rfl, fun z => nomatch z⟩
abbrev mX8_roomNextTo : MI := (RX8, cX8_roomNextTo, 4, (some (FieldType.object "Stowfinish$Room")), { frames := 2, cells := 0, slots := 0, locals := 44 }, false, [])
theorem mcX8_roomNextTo : MC yX8_roomNextTo mX8_roomNextTo 2 := ⟨inT 694 (by decide +kernel) rfl, inT 1 (by decide +kernel) rfl, ⟨by decide +kernel, by decide +kernel⟩, by decide +kernel, by decide +kernel, rfl, rfl, fun z => nomatch z⟩
abbrev mX8_runThrough : MI := (RX8, cX8_runThrough, 7, none, { frames := 1, cells := 0, slots := 0, locals := 22 }, false, [])
theorem mcX8_runThrough : MC yX8_runThrough mX8_runThrough 1 := ⟨inT 775 (by decide +kernel) rfl, inT 1 (by decide +kernel) rfl, ⟨by decide +kernel, by decide +kernel⟩, by decide +kernel, by decide +kernel, rfl, rfl, fun z => nomatch z⟩
abbrev mX8_isReady : MI := (RX8, cX8_isReady, 5, (some FieldType.boolean), { frames := 2, cells := 0, slots := 0, locals := 41 }, false, [])
theorem mcX8_isReady : MC yX8_isReady mX8_isReady 0 := ⟨inT 209 (by decide +kernel) rfl, inT 1 (by decide +kernel) rfl, ⟨by decide +kernel, by decide +kernel⟩, by decide +kernel, by decide +kernel, rfl, rfl, fun z => nomatch z⟩
abbrev mX9_init : MI := (RX9, cX9_init, 2, none, { frames := 1, cells := 24, slots := 2470, locals := 20 }, true, [])
theorem mcX9_init : MC yX9_init mX9_init 0 := ⟨inT 846 (by decide +kernel) rfl, inT 7 (by decide +kernel) rfl, ⟨by decide +kernel, by decide +kernel⟩, by decide +kernel, by decide +kernel, rfl, rfl, fun _ => rfl⟩
abbrev mX9_thrown : MI := (RX9, cX9_thrown, 1, (some FieldType.int), { frames := 0, cells := 0, slots := 0, locals := 0 }, false, [])
theorem mcX9_thrown : MC yX9_thrown mX9_thrown 0 := ⟨inT 958 (by decide +kernel) rfl, inT 7 (by decide +kernel) rfl, ⟨by decide +kernel, by decide +kernel⟩, by decide +kernel, by decide +kernel, rfl, rfl, fun z => nomatch z⟩
abbrev mX9_fails : MI := (RX9, cX9_fails, 2, (some FieldType.boolean), { frames := 0, cells := 0, slots := 0, locals := 0 }, false, [])
theorem mcX9_fails : MC yX9_fails mX9_fails 1 := ⟨inT 969 (by decide +kernel) rfl, inT 7 (by decide +kernel) rfl, ⟨by decide +kernel, by decide +kernel⟩, by decide +kernel, by decide +kernel, rfl, rfl, fun z => nomatch z⟩
abbrev mX9_isIn : MI := (RX9, cX9_isIn, 3, (some FieldType.boolean), { frames := 0, cells := 0, slots := 0, locals := 0 }, false, [])
theorem mcX9_isIn : MC yX9_isIn mX9_isIn 3 := ⟨inT 965 (by decide +kernel) rfl, inT 7 (by decide +kernel) rfl, ⟨by decide +kernel, by decide +kernel⟩, by decide +kernel, by decide +kernel, rfl, rfl, fun z => nomatch z⟩
abbrev mX9_isFrame : MI := (RX9, cX9_isFrame, 1, (some FieldType.boolean), { frames := 1, cells := 0, slots := 0, locals := 22 }, false, [])
theorem mcX9_isFrame : MC yX9_isFrame mX9_isFrame 1 := ⟨inT 976 (by decide +kernel) rfl, inT 7 (by decide +kernel) rfl, ⟨by decide +kernel, by decide +kernel⟩, by decide +kernel, by decide +kernel, rfl, rfl, fun z => nomatch z⟩
abbrev mX9_isLevel : MI := (RX9, cX9_isLevel, 1, (some FieldType.boolean), { frames := 1, cells := 0, slots := 0, locals := 22 }, false, [])
theorem mcX9_isLevel : MC yX9_isLevel mX9_isLevel 1 := ⟨inT 994 (by decide +kernel) rfl, inT 7 (by decide +kernel) rfl, ⟨by decide +kernel, by decide +kernel⟩, by decide +kernel, by decide +kernel, rfl, rfl, fun z => nomatch z⟩
abbrev mX9_isWelder : MI := (RX9, cX9_isWelder, 1, (some FieldType.boolean), { frames := 1, cells := 0, slots := 0, locals := 22 }, false, [])
theorem mcX9_isWelder : MC yX9_isWelder mX9_isWelder 1 := ⟨inT 983 (by decide +kernel) rfl, inT 7 (by decide +kernel) rfl, ⟨by decide +kernel, by decide +kernel⟩, by decide +kernel, by decide +kernel, rfl, rfl, fun z => nomatch z⟩
abbrev mX9_isBlock : MI := (RX9, cX9_isBlock, 2, (some FieldType.boolean), { frames := 1, cells := 0, slots := 0, locals := 22 }, false, [])
theorem mcX9_isBlock : MC yX9_isBlock mX9_isBlock 1 := ⟨inT 1006 (by decide +kernel) rfl, inT 7 (by decide +kernel) rfl, ⟨by decide +kernel, by decide +kernel⟩, by decide +kernel, by decide +kernel, rfl, rfl, fun z => nomatch z⟩
abbrev mX9_isWeld : MI := (RX9, cX9_isWeld, 2, (some FieldType.boolean), { frames := 1, cells := 0, slots := 0, locals := 22 }, false, [])
theorem mcX9_isWeld : MC yX9_isWeld mX9_isWeld 1 := ⟨inT 1059 (by decide +kernel) rfl, inT 7 (by decide +kernel) rfl, ⟨by decide +kernel, by decide +kernel⟩, by decide +kernel, by decide +kernel, rfl, rfl, fun z => nomatch z⟩
abbrev mX9_isRoom : MI := (RX9, cX9_isRoom, 2, (some FieldType.boolean), { frames := 1, cells := 0, slots := 0, locals := 22 }, false, [])
theorem mcX9_isRoom : MC yX9_isRoom mX9_isRoom 1 := ⟨inT 1079 (by decide +kernel) rfl, inT 7 (by decide +kernel) rfl, ⟨by decide +kernel, by decide +kernel⟩, by decide +kernel, by decide +kernel, rfl, rfl, fun z => nomatch z⟩
abbrev mX9_hall : MI := (RX9, cX9_hall, 4, (some FieldType.int), { frames := 1, cells := 0, slots := 0, locals := 22 }, false, [])
theorem mcX9_hall : MC yX9_hall mX9_hall 2 := ⟨inT 962 (by decide +kernel) rfl, inT 7 (by decide +kernel) rfl, ⟨by decide +kernel, by decide +kernel⟩, by decide +kernel, by decide +kernel, rfl, rfl, fun z => nomatch z⟩
abbrev mX9_crane : MI := (RX9, cX9_crane, 4, (some FieldType.int), { frames := 2, cells := 0, slots := 0, locals := 42 }, false, [])
theorem mcX9_crane : MC yX9_crane mX9_crane 2 := ⟨inT 973 (by decide +kernel) rfl, inT 7 (by decide +kernel) rfl, ⟨by decide +kernel, by decide +kernel⟩, by decide +kernel, by decide +kernel, rfl, rfl, fun z => nomatch z⟩
abbrev mX9_welder : MI := (RX9, cX9_welder, 4, (some FieldType.int), { frames := 2, cells := 0, slots := 0, locals := 42 }, false, [])
theorem mcX9_welder : MC yX9_welder mX9_welder 2 := ⟨inT 980 (by decide +kernel) rfl, inT 7 (by decide +kernel) rfl, ⟨by decide +kernel, by decide +kernel⟩, by decide +kernel, by decide +kernel, rfl, rfl, fun z => nomatch z⟩
abbrev mX9_draw : MI := (RX9, cX9_draw, 3, (some FieldType.int), { frames := 0, cells := 0, slots := 0, locals := 0 }, false, [])
theorem mcX9_draw : MC yX9_draw mX9_draw 1 := ⟨inT 987 (by decide +kernel) rfl, inT 7 (by decide +kernel) rfl, ⟨by decide +kernel, by decide +kernel⟩, by decide +kernel, by decide +kernel, rfl, rfl, fun z => nomatch z⟩
abbrev mX9_adds : MI := (RX9, cX9_adds, 8, (some FieldType.int), { frames := 0, cells := 0, slots := 0, locals := 0 }, false, [])
theorem mcX9_adds : MC yX9_adds mX9_adds 6 := ⟨inT 998 (by decide +kernel) rfl, inT 7 (by decide +kernel) rfl, ⟨by decide +kernel, by decide +kernel⟩, by decide +kernel, by decide +kernel, rfl, rfl, fun z => nomatch z⟩
abbrev mX9_block : MI := (RX9, cX9_block, 9, (some FieldType.int), { frames := 2, cells := 0, slots := 0, locals := 42 }, false, [])
theorem mcX9_block : MC yX9_block mX9_block 6 := ⟨inT 991 (by decide +kernel) rfl, inT 7 (by decide +kernel) rfl, ⟨by decide +kernel, by decide +kernel⟩, by decide +kernel, by decide +kernel, rfl, rfl, fun z => nomatch z⟩
abbrev mX9_draws : MI := (RX9, cX9_draws, 3, none, { frames := 0, cells := 0, slots := 0, locals := 0 }, false, [])
theorem mcX9_draws : MC yX9_draws mX9_draws 2 := ⟨inT 1018 (by decide +kernel) rfl, inT 7 (by decide +kernel) rfl, ⟨by decide +kernel, by decide +kernel⟩, by decide +kernel, by decide +kernel, rfl, rfl, fun z => nomatch z⟩
abbrev mX9_makes : MI := (RX9, cX9_makes, 6, none, { frames := 1, cells := 0, slots := 0, locals := 22 }, false, [])
theorem mcX9_makes : MC yX9_makes mX9_makes 4 := ⟨inT 1014 (by decide +kernel) rfl, inT 7 (by decide +kernel) rfl, ⟨by decide +kernel, by decide +kernel⟩, by decide +kernel, by decide +kernel, rfl, rfl, fun z => nomatch z⟩
abbrev mX9_canJoin : MI := (RX9, cX9_canJoin, 4, (some FieldType.boolean), { frames := 0, cells := 0, slots := 0, locals := 0 }, false, [])
theorem mcX9_canJoin : MC yX9_canJoin mX9_canJoin 2 := ⟨inT 1010 (by decide +kernel) rfl, inT 7 (by decide +kernel) rfl, ⟨by decide +kernel, by decide +kernel⟩, by decide +kernel, by decide +kernel, rfl, rfl, fun z => nomatch z⟩
abbrev mX9_join : MI := (RX9, cX9_join, 6, (some FieldType.int), { frames := 2, cells := 0, slots := 0, locals := 47 }, false, [])
theorem mcX9_join : MC yX9_join mX9_join 3 := ⟨inT 1002 (by decide +kernel) rfl, inT 7 (by decide +kernel) rfl, ⟨by decide +kernel, by decide +kernel⟩, by decide +kernel, by decide +kernel, rfl, rfl, fun z => nomatch z⟩
abbrev mX9_blockAt : MI := (RX9, cX9_blockAt, 3, (some FieldType.int), { frames := 2, cells := 0, slots := 0, locals := 42 }, false, [])
theorem mcX9_blockAt : MC yX9_blockAt mX9_blockAt 2 := ⟨inT 1027 (by decide +kernel) rfl, inT 7 (by decide +kernel) rfl, ⟨by decide +kernel, by decide +kernel⟩, by decide +kernel, by decide +kernel, rfl, rfl, fun z => nomatch z⟩
abbrev mX9_endOf : MI := (RX9, cX9_endOf, 2, (some FieldType.int), { frames := 0, cells := 0, slots := 0, locals := 0 }, false, [])
theorem mcX9_endOf : MC yX9_endOf mX9_endOf 1 := ⟨inT 1039 (by decide +kernel) rfl, inT 7 (by decide +kernel) rfl, ⟨by decide +kernel, by decide +kernel⟩, by decide +kernel, by decide +kernel, rfl, rfl, fun z => nomatch z⟩
abbrev mX9_space : MI := (RX9, cX9_space, 3, (some FieldType.int), { frames := 1, cells := 0, slots := 0, locals := 21 }, false, [])
theorem mcX9_space : MC yX9_space mX9_space 2 := ⟨inT 1035 (by decide +kernel) rfl, inT 7 (by decide +kernel) rfl, ⟨by decide +kernel, by decide +kernel⟩, by decide +kernel, by decide +kernel, rfl, rfl, fun z => nomatch z⟩
abbrev mX9_reason : MI := (RX9, cX9_reason, 9, (some FieldType.int), { frames := 3, cells := 0, slots := 0, locals := 64 }, false, [])
theorem mcX9_reason : MC yX9_reason mX9_reason 1 := ⟨inT 1031 (by decide +kernel) rfl, inT 7 (by decide +kernel) rfl, ⟨by decide +kernel, by decide +kernel⟩, by decide +kernel, by decide +kernel, rfl, rfl, fun z => nomatch z⟩
abbrev mX9_spoils : MI := (RX9, cX9_spoils, 3, none, { frames := 0, cells := 0, slots := 0, locals := 0 }, false, [])
theorem mcX9_spoils : MC yX9_spoils mX9_spoils 2 := ⟨inT 1043 (by decide +kernel) rfl, inT 7 (by decide +kernel) rfl, ⟨by decide +kernel, by decide +kernel⟩, by decide +kernel, by decide +kernel, rfl, rfl, fun z => nomatch z⟩
abbrev mX9_erect : MI := (RX9, cX9_erect, 9, (some FieldType.int), { frames := 4, cells := 0, slots := 0, locals := 92 }, false, [])
theorem mcX9_erect : MC yX9_erect mX9_erect 2 := ⟨inT 1023 (by decide +kernel) rfl, inT 7 (by decide +kernel) rfl, ⟨by decide +kernel, by decide +kernel⟩, by decide +kernel, by decide +kernel, rfl, rfl, fun z => nomatch z⟩
abbrev mX9_whole : MI := (RX9, cX9_whole, 3, (some FieldType.int), { frames := 0, cells := 0, slots := 0, locals := 0 }, false, [])
theorem mcX9_whole : MC yX9_whole mX9_whole 1 := ⟨inT 1051 (by decide +kernel) rfl, inT 7 (by decide +kernel) rfl, ⟨by decide +kernel, by decide +kernel⟩, by decide +kernel, by decide +kernel, rfl, rfl, fun z => nomatch z⟩
abbrev mX9_scrap : MI := (RX9, cX9_scrap, 4, (some FieldType.int), { frames := 2, cells := 0, slots := 0, locals := 43 }, false, [])
theorem mcX9_scrap : MC yX9_scrap mX9_scrap 1 := ⟨inT 1047 (by decide +kernel) rfl, inT 7 (by decide +kernel) rfl, ⟨by decide +kernel, by decide +kernel⟩, by decide +kernel, by decide +kernel, rfl, rfl, fun z => nomatch z⟩
abbrev mX9_isScrapped : MI := (RX9, cX9_isScrapped, 2, (some FieldType.boolean), { frames := 0, cells := 0, slots := 0, locals := 0 }, false, [])
theorem mcX9_isScrapped : MC yX9_isScrapped mX9_isScrapped 1 := ⟨inT 1063 (by decide +kernel) rfl, inT 7 (by decide +kernel) rfl, ⟨by decide +kernel, by decide +kernel⟩, by decide +kernel, by decide +kernel, rfl, rfl, fun z => nomatch z⟩
abbrev mX9_test : MI := (RX9, cX9_test, 2, (some FieldType.int), { frames := 2, cells := 0, slots := 0, locals := 43 }, false, [])
theorem mcX9_test : MC yX9_test mX9_test 1 := ⟨inT 1055 (by decide +kernel) rfl, inT 7 (by decide +kernel) rfl, ⟨by decide +kernel, by decide +kernel⟩, by decide +kernel, by decide +kernel, rfl, rfl, fun z => nomatch z⟩
abbrev mX9_stands : MI := (RX9, cX9_stands, 2, (some FieldType.boolean), { frames := 1, cells := 0, slots := 0, locals := 22 }, false, [])
theorem mcX9_stands : MC yX9_stands mX9_stands 1 := ⟨inT 1071 (by decide +kernel) rfl, inT 7 (by decide +kernel) rfl, ⟨by decide +kernel, by decide +kernel⟩, by decide +kernel, by decide +kernel, rfl, rfl, fun z => nomatch z⟩
abbrev mX9_repair : MI := (RX9, cX9_repair, 4, (some FieldType.int), { frames := 2, cells := 0, slots := 0, locals := 43 }, false, [])
theorem mcX9_repair : MC yX9_repair mX9_repair 2 := ⟨inT 1067 (by decide +kernel) rfl, inT 7 (by decide +kernel) rfl, ⟨by decide +kernel, by decide +kernel⟩, by decide +kernel, by decide +kernel, rfl, rfl, fun z => nomatch z⟩
abbrev mX9_hole : MI := (RX9, cX9_hole, 7, (some FieldType.int), { frames := 2, cells := 0, slots := 0, locals := 43 }, false, [])
theorem mcX9_hole : MC yX9_hole mX9_hole 2 := ⟨inT 1075 (by decide +kernel) rfl, inT 7 (by decide +kernel) rfl, ⟨by decide +kernel, by decide +kernel⟩, by decide +kernel, by decide +kernel, rfl, rfl, fun z => nomatch z⟩
abbrev mX9_paint : MI := (RX9, cX9_paint, 4, (some FieldType.int), { frames := 2, cells := 0, slots := 0, locals := 43 }, false, [])
theorem mcX9_paint : MC yX9_paint mX9_paint 1 := ⟨inT 1083 (by decide +kernel) rfl, inT 7 (by decide +kernel) rfl, ⟨by decide +kernel, by decide +kernel⟩, by decide +kernel, by decide +kernel, rfl, rfl, fun z => nomatch z⟩
abbrev mX9_fit : MI := (RX9, cX9_fit, 5, (some FieldType.int), { frames := 2, cells := 0, slots := 0, locals := 43 }, false, [])
theorem mcX9_fit : MC yX9_fit mX9_fit 2 := ⟨inT 1087 (by decide +kernel) rfl, inT 7 (by decide +kernel) rfl, ⟨by decide +kernel, by decide +kernel⟩, by decide +kernel, by decide +kernel, rfl, rfl, fun z => nomatch z⟩
abbrev mX9_beyond : MI := (RX9, cX9_beyond, 3, (some FieldType.int), { frames := 0, cells := 0, slots := 0, locals := 0 }, false, [])
theorem mcX9_beyond : MC yX9_beyond mX9_beyond 2 := ⟨inT 1099 (by decide +kernel) rfl, inT 7 (by decide +kernel) rfl, ⟨by decide +kernel, by decide +kernel⟩, by decide +kernel, by decide +kernel, rfl, rfl, fun z => nomatch z⟩
abbrev mX9_ways : MI := (RX9, cX9_ways, 6, none, { frames := 1, cells := 0, slots := 0, locals := 22 }, false, [])
theorem mcX9_ways : MC yX9_ways mX9_ways 1 := ⟨inT 1095 (by decide +kernel) rfl, inT 7 (by decide +kernel) rfl, ⟨by decide +kernel, by decide +kernel⟩, by decide +kernel, by decide +kernel, rfl, rfl, fun z => nomatch z⟩
abbrev mX9_nearer : MI := (RX9, cX9_nearer, 6, (some FieldType.int), { frames := 1, cells := 0, slots := 0, locals := 22 }, false, [])
theorem mcX9_nearer : MC yX9_nearer mX9_nearer 1 := ⟨inT 1103 (by decide +kernel) rfl, inT 7 (by decide +kernel) rfl, ⟨by decide +kernel, by decide +kernel⟩, by decide +kernel, by decide +kernel, rfl, rfl, fun z => nomatch z⟩
abbrev mX9_pipe : MI := (RX9, cX9_pipe, 7, (some FieldType.int), { frames := 2, cells := 0, slots := 0, locals := 47 }, false, [])
theorem mcX9_pipe : MC yX9_pipe mX9_pipe 2 := ⟨inT 1091 (by decide +kernel) rfl, inT 7 (by decide +kernel) rfl, ⟨by decide +kernel, by decide +kernel⟩, by decide +kernel, by decide +kernel, rfl, rfl, fun z => nomatch z⟩
abbrev mX9_tonsOf : MI := (RX9, cX9_tonsOf, 3, (some FieldType.int), { frames := 0, cells := 0, slots := 0, locals := 0 }, false, [])
theorem mcX9_tonsOf : MC yX9_tonsOf mX9_tonsOf 0 := ⟨inT 1127 (by decide +kernel) rfl, inT 7 (by decide +kernel) rfl, ⟨by decide +kernel, by decide +kernel⟩, by decide +kernel, by decide +kernel, rfl, rfl, fun z => nomatch z⟩
abbrev mX9_centreOf : MI := (RX9, cX9_centreOf, 3, (some FieldType.int), { frames := 1, cells := 0, slots := 0, locals := 22 }, false, [])
theorem mcX9_centreOf : MC yX9_centreOf mX9_centreOf 0 := ⟨inT 1131 (by decide +kernel) rfl, inT 7 (by decide +kernel) rfl, ⟨by decide +kernel, by decide +kernel⟩, by decide +kernel, by decide +kernel, rfl, rfl, fun z => nomatch z⟩
abbrev mX9_draughtOf : MI := (RX9, cX9_draughtOf, 4, (some FieldType.int), { frames := 2, cells := 0, slots := 0, locals := 44 }, false, [])
theorem mcX9_draughtOf : MC yX9_draughtOf mX9_draughtOf 1 := ⟨inT 1123 (by decide +kernel) rfl, inT 7 (by decide +kernel) rfl, ⟨by decide +kernel, by decide +kernel⟩, by decide +kernel, by decide +kernel, rfl, rfl, fun z => nomatch z⟩
abbrev mX9_greater : MI := (RX9, cX9_greater, 3, (some FieldType.int), { frames := 3, cells := 0, slots := 0, locals := 67 }, false, [])
theorem mcX9_greater : MC yX9_greater mX9_greater 0 := ⟨inT 1119 (by decide +kernel) rfl, inT 7 (by decide +kernel) rfl, ⟨by decide +kernel, by decide +kernel⟩, by decide +kernel, by decide +kernel, rfl, rfl, fun z => nomatch z⟩
abbrev mX9_waterIn : MI := (RX9, cX9_waterIn, 2, (some FieldType.int), { frames := 0, cells := 0, slots := 0, locals := 0 }, false, [])
theorem mcX9_waterIn : MC yX9_waterIn mX9_waterIn 1 := ⟨inT 1134 (by decide +kernel) rfl, inT 7 (by decide +kernel) rfl, ⟨by decide +kernel, by decide +kernel⟩, by decide +kernel, by decide +kernel, rfl, rfl, fun z => nomatch z⟩
abbrev mX9_isWhole : MI := (RX9, cX9_isWhole, 3, (some FieldType.boolean), { frames := 2, cells := 0, slots := 0, locals := 43 }, false, [])
theorem mcX9_isWhole : MC yX9_isWhole mX9_isWhole 0 := ⟨inT 1115 (by decide +kernel) rfl, inT 7 (by decide +kernel) rfl, ⟨by decide +kernel, by decide +kernel⟩, by decide +kernel, by decide +kernel, rfl, rfl, fun z => nomatch z⟩
abbrev mX9_canLaunch : MI := (RX9, cX9_canLaunch, 2, (some FieldType.boolean), { frames := 4, cells := 0, slots := 0, locals := 89 }, false, [])
theorem mcX9_canLaunch : MC yX9_canLaunch mX9_canLaunch 1 := ⟨inT 1111 (by decide +kernel) rfl, inT 7 (by decide +kernel) rfl, ⟨by decide +kernel, by decide +kernel⟩, by decide +kernel, by decide +kernel, rfl, rfl, fun z => nomatch z⟩
abbrev mX9_launch : MI := (RX9, cX9_launch, 2, (some FieldType.int), { frames := 5, cells := 0, slots := 0, locals := 110 }, false, [])
theorem mcX9_launch : MC yX9_launch mX9_launch 1 := ⟨inT 1107 (by decide +kernel) rfl, inT 7 (by decide +kernel) rfl, ⟨by decide +kernel, by decide +kernel⟩, by decide +kernel, by decide +kernel, rfl, rfl, fun z => nomatch z⟩
abbrev mX9_tells : MI := (RX9, cX9_tells, 2, (some FieldType.int), { frames := 0, cells := 0, slots := 0, locals := 0 }, false, [])
theorem mcX9_tells : MC yX9_tells mX9_tells 1 := ⟨inT 1142 (by decide +kernel) rfl, inT 7 (by decide +kernel) rfl, ⟨by decide +kernel, by decide +kernel⟩, by decide +kernel, by decide +kernel, rfl, rfl, fun z => nomatch z⟩
abbrev mX9_blocks : MI := (RX9, cX9_blocks, 1, (some FieldType.int), { frames := 1, cells := 0, slots := 0, locals := 21 }, false, [])
theorem mcX9_blocks : MC yX9_blocks mX9_blocks 0 := ⟨inT 1138 (by decide +kernel) rfl, inT 7 (by decide +kernel) rfl, ⟨by decide +kernel, by decide +kernel⟩, by decide +kernel, by decide +kernel, rfl, rfl, fun z => nomatch z⟩
abbrev mX9_welds : MI := (RX9, cX9_welds, 1, (some FieldType.int), { frames := 1, cells := 0, slots := 0, locals := 21 }, false, [])
theorem mcX9_welds : MC yX9_welds mX9_welds 0 := ⟨inT 1146 (by decide +kernel) rfl, inT 7 (by decide +kernel) rfl, ⟨by decide +kernel, by decide +kernel⟩, by decide +kernel, by decide +kernel, rfl, rfl, fun z => nomatch z⟩
abbrev mX9_isAfloat : MI := (RX9, cX9_isAfloat, 1, (some FieldType.boolean), { frames := 0, cells := 0, slots := 0, locals := 0 }, false, [])
theorem mcX9_isAfloat : MC yX9_isAfloat mX9_isAfloat 0 := ⟨inT 1150 (by decide +kernel) rfl, inT 7 (by decide +kernel) rfl, ⟨by decide +kernel, by decide +kernel⟩, by decide +kernel, by decide +kernel, rfl, rfl, fun z => nomatch z⟩
abbrev mX9_whyNot : MI := (RX9, cX9_whyNot, 2, (some FieldType.int), { frames := 4, cells := 0, slots := 0, locals := 92 }, false, [])
theorem mcX9_whyNot : MC yX9_whyNot mX9_whyNot 1 := ⟨inT 1154 (by decide +kernel) rfl, inT 7 (by decide +kernel) rfl, ⟨by decide +kernel, by decide +kernel⟩, by decide +kernel, by decide +kernel, rfl, rfl, fun z => nomatch z⟩
abbrev mX9_told : MI := (RX9, cX9_told, 3, (some FieldType.int), { frames := 2, cells := 0, slots := 0, locals := 43 }, false, [])
theorem mcX9_told : MC yX9_told mX9_told 2 := ⟨inT 1158 (by decide +kernel) rfl, inT 7 (by decide +kernel) rfl, ⟨by decide +kernel, by decide +kernel⟩, by decide +kernel, by decide +kernel, rfl, rfl, fun z => nomatch z⟩
abbrev mX9_weld : MI := (RX9, cX9_weld, 3, (some FieldType.int), { frames := 2, cells := 0, slots := 0, locals := 43 }, false, [])
theorem mcX9_weld : MC yX9_weld mX9_weld 2 := ⟨inT 1162 (by decide +kernel) rfl, inT 7 (by decide +kernel) rfl, ⟨by decide +kernel, by decide +kernel⟩, by decide +kernel, by decide +kernel, rfl, rfl, fun z => nomatch z⟩
abbrev mX9_cell : MI := (RX9, cX9_cell, 3, (some FieldType.int), { frames := 1, cells := 0, slots := 0, locals := 22 }, false, [])
theorem mcX9_cell : MC yX9_cell mX9_cell 2 := ⟨inT 1166 (by decide +kernel) rfl, inT 7 (by decide +kernel) rfl, ⟨by decide +kernel, by decide +kernel⟩, by decide +kernel, by decide +kernel, rfl, rfl, fun z => nomatch z⟩
abbrev mX9_roomAt : MI := (RX9, cX9_roomAt, 3, (some FieldType.int), { frames := 1, cells := 0, slots := 0, locals := 22 }, false, [])
theorem mcX9_roomAt : MC yX9_roomAt mX9_roomAt 2 := ⟨inT 1170 (by decide +kernel) rfl, inT 7 (by decide +kernel) rfl, ⟨by decide +kernel, by decide +kernel⟩, by decide +kernel, by decide +kernel, rfl, rfl, fun z => nomatch z⟩
abbrev mX9_tons : MI := (RX9, cX9_tons, 1, (some FieldType.int), { frames := 1, cells := 0, slots := 0, locals := 22 }, false, [])
theorem mcX9_tons : MC yX9_tons mX9_tons 0 := ⟨inT 1174 (by decide +kernel) rfl, inT 7 (by decide +kernel) rfl, ⟨by decide +kernel, by decide +kernel⟩, by decide +kernel, by decide +kernel, rfl, rfl, fun z => nomatch z⟩
abbrev mX9_tonsAnew : MI := (RX9, cX9_tonsAnew, 1, (some FieldType.int), { frames := 1, cells := 0, slots := 0, locals := 22 }, false, [])
theorem mcX9_tonsAnew : MC yX9_tonsAnew mX9_tonsAnew 0 := ⟨inT 1178 (by decide +kernel) rfl, inT 7 (by decide +kernel) rfl, ⟨by decide +kernel, by decide +kernel⟩, by decide +kernel, by decide +kernel, rfl, rfl, fun z => nomatch z⟩
abbrev mX9_centre : MI := (RX9, cX9_centre, 1, (some FieldType.int), { frames := 2, cells := 0, slots := 0, locals := 44 }, false, [])
theorem mcX9_centre : MC yX9_centre mX9_centre 0 := ⟨inT 1182 (by decide +kernel) rfl, inT 7 (by decide +kernel) rfl, ⟨by decide +kernel, by decide +kernel⟩, by decide +kernel, by decide +kernel, rfl, rfl, fun z => nomatch z⟩
abbrev mX9_draught : MI := (RX9, cX9_draught, 2, (some FieldType.int), { frames := 3, cells := 0, slots := 0, locals := 67 }, false, [])
theorem mcX9_draught : MC yX9_draught mX9_draught 1 := ⟨inT 1186 (by decide +kernel) rfl, inT 7 (by decide +kernel) rfl, ⟨by decide +kernel, by decide +kernel⟩, by decide +kernel, by decide +kernel, rfl, rfl, fun z => nomatch z⟩
abbrev mX9_water : MI := (RX9, cX9_water, 2, (some FieldType.int), { frames := 1, cells := 0, slots := 0, locals := 22 }, false, [])
theorem mcX9_water : MC yX9_water mX9_water 1 := ⟨inT 1190 (by decide +kernel) rfl, inT 7 (by decide +kernel) rfl, ⟨by decide +kernel, by decide +kernel⟩, by decide +kernel, by decide +kernel, rfl, rfl, fun z => nomatch z⟩
abbrev mX9_firstHour : MI := (RX9, cX9_firstHour, 3, (some FieldType.int), { frames := 5, cells := 0, slots := 0, locals := 110 }, false, [])
theorem mcX9_firstHour : MC yX9_firstHour mX9_firstHour 0 := ⟨inT 1194 (by decide +kernel) rfl, inT 7 (by decide +kernel) rfl, ⟨by decide +kernel, by decide +kernel⟩, by decide +kernel, by decide +kernel, rfl, rfl, fun z => nomatch z⟩
abbrev mX9_money : MI := (RX9, cX9_money, 1, (some FieldType.int), { frames := 1, cells := 0, slots := 0, locals := 21 }, false, [])
theorem mcX9_money : MC yX9_money mX9_money 0 := ⟨inT 1198 (by decide +kernel) rfl, inT 7 (by decide +kernel) rfl, ⟨by decide +kernel, by decide +kernel⟩, by decide +kernel, by decide +kernel, rfl, rfl, fun z => nomatch z⟩
abbrev mX9_moneyAnew : MI := (RX9, cX9_moneyAnew, 1, (some FieldType.int), { frames := 1, cells := 0, slots := 0, locals := 21 }, false, [])
theorem mcX9_moneyAnew : MC yX9_moneyAnew mX9_moneyAnew 0 := ⟨inT 1202 (by decide +kernel) rfl, inT 7 (by decide +kernel) rfl, ⟨by decide +kernel, by decide +kernel⟩, by decide +kernel, by decide +kernel, rfl, rfl, fun z => nomatch z⟩
abbrev mJ9_abs_0f7a4 : MI := (RJ9, cJ9_abs_0f7a4, 1, (some FieldType.int), { frames := 0, cells := 0, slots := 0, locals := 0 }, false, [])
abbrev mJ9_max_7cf53 : MI := (RJ9, cJ9_max_7cf53, 2, (some FieldType.int), { frames := 0, cells := 0, slots := 0, locals := 0 }, false, [])
abbrev mJ9_min_7cf53 : MI := (RJ9, cJ9_min_7cf53, 2, (some FieldType.int), { frames := 0, cells := 0, slots := 0, locals := 0 }, false, [])
abbrev mJ7_fill_53178 : MI := (RJ7, cJ7_fill_53178, 4, none, { frames := 0, cells := 0, slots := 0, locals := 0 }, false, [])
theorem mcJ7_fill_53178 : MC yJ7_fill_53178 mJ7_fill_53178 2 := ⟨inT 71 (by decide +kernel) rfl, inT 5 (by decide +kernel) rfl, ⟨by decide +kernel, by decide +kernel⟩, by decide +kernel, by decide +kernel, rfl, rfl, fun z => nomatch z⟩
abbrev mL_hall : MI := (RL, cL_hall, 5, (some FieldType.int), { frames := 7, cells := 1, slots := 6, locals := 113 }, false, [((0 : Nat), (10 : Nat), (13 : Nat), (13 : Nat))])
theorem mcL_hall : MCh yL_hall mL_hall 4 := ⟨inT 250 (by decide +kernel) rfl, inT 0 (by decide +kernel) rfl, ⟨by decide +kernel, by decide +kernel⟩, by decide +kernel, by decide +kernel, rfl, fun z => nomatch z⟩
abbrev mL_crane : MI := (RL, cL_crane, 5, (some FieldType.int), { frames := 7, cells := 1, slots := 6, locals := 113 }, false, [((0 : Nat), (10 : Nat), (13 : Nat), (18 : Nat)), ((0 : Nat), (10 : Nat), (17 : Nat), (13 : Nat))])
theorem mcL_crane : MCh yL_crane mL_crane 4 := ⟨inT 329 (by decide +kernel) rfl, inT 0 (by decide +kernel) rfl, ⟨by decide +kernel, by decide +kernel⟩, by decide +kernel, by decide +kernel, rfl, fun z => nomatch z⟩
abbrev mL_welder : MI := (RL, cL_welder, 5, (some FieldType.int), { frames := 7, cells := 1, slots := 6, locals := 113 }, false, [((0 : Nat), (10 : Nat), (13 : Nat), (18 : Nat)), ((0 : Nat), (10 : Nat), (17 : Nat), (13 : Nat))])
theorem mcL_welder : MCh yL_welder mL_welder 4 := ⟨inT 357 (by decide +kernel) rfl, inT 0 (by decide +kernel) rfl, ⟨by decide +kernel, by decide +kernel⟩, by decide +kernel, by decide +kernel, rfl, fun z => nomatch z⟩
abbrev mL_block : MI := (RL, cL_block, 9, (some FieldType.int), { frames := 7, cells := 2, slots := 16, locals := 117 }, false, [((0 : Nat), (18 : Nat), (21 : Nat), (18 : Nat)), ((0 : Nat), (18 : Nat), (25 : Nat), (13 : Nat)), ((0 : Nat), (18 : Nat), (29 : Nat), (27 : Nat))])
theorem mcL_block : MCh yL_block mL_block 8 := ⟨inT 366 (by decide +kernel) rfl, inT 0 (by decide +kernel) rfl, ⟨by decide +kernel, by decide +kernel⟩, by decide +kernel, by decide +kernel, rfl, fun z => nomatch z⟩
abbrev mL_join : MI := (RL, cL_join, 6, (some FieldType.int), { frames := 7, cells := 3, slots := 21, locals := 140 }, false, [((0 : Nat), (12 : Nat), (15 : Nat), (18 : Nat)), ((0 : Nat), (12 : Nat), (19 : Nat), (27 : Nat))])
theorem mcL_join : MCh yL_join mL_join 5 := ⟨inT 453 (by decide +kernel) rfl, inT 0 (by decide +kernel) rfl, ⟨by decide +kernel, by decide +kernel⟩, by decide +kernel, by decide +kernel, rfl, fun z => nomatch z⟩
abbrev mL_erect : MI := (RL, cL_erect, 5, (some FieldType.int), { frames := 7, cells := 15, slots := 100, locals := 160 }, false, [((0 : Nat), (10 : Nat), (13 : Nat), (18 : Nat)), ((0 : Nat), (10 : Nat), (17 : Nat), (27 : Nat))])
theorem mcL_erect : MCh yL_erect mL_erect 4 := ⟨inT 547 (by decide +kernel) rfl, inT 0 (by decide +kernel) rfl, ⟨by decide +kernel, by decide +kernel⟩, by decide +kernel, by decide +kernel, rfl, fun z => nomatch z⟩
abbrev mL_scrap : MI := (RL, cL_scrap, 4, (some FieldType.int), { frames := 7, cells := 1, slots := 6, locals := 117 }, false, [((0 : Nat), (9 : Nat), (12 : Nat), (18 : Nat)), ((0 : Nat), (9 : Nat), (15 : Nat), (27 : Nat))])
theorem mcL_scrap : MCh yL_scrap mL_scrap 3 := ⟨inT 649 (by decide +kernel) rfl, inT 0 (by decide +kernel) rfl, ⟨by decide +kernel, by decide +kernel⟩, by decide +kernel, by decide +kernel, rfl, fun z => nomatch z⟩
abbrev mL_test : MI := (RL, cL_test, 4, (some FieldType.int), { frames := 7, cells := 1, slots := 6, locals := 112 }, false, [((0 : Nat), (9 : Nat), (12 : Nat), (18 : Nat)), ((0 : Nat), (9 : Nat), (15 : Nat), (27 : Nat))])
theorem mcL_test : MCh yL_test mL_test 3 := ⟨inT 659 (by decide +kernel) rfl, inT 0 (by decide +kernel) rfl, ⟨by decide +kernel, by decide +kernel⟩, by decide +kernel, by decide +kernel, rfl, fun z => nomatch z⟩
abbrev mL_repair : MI := (RL, cL_repair, 5, (some FieldType.int), { frames := 7, cells := 1, slots := 6, locals := 113 }, false, [((0 : Nat), (10 : Nat), (13 : Nat), (18 : Nat)), ((0 : Nat), (10 : Nat), (17 : Nat), (27 : Nat))])
theorem mcL_repair : MCh yL_repair mL_repair 4 := ⟨inT 676 (by decide +kernel) rfl, inT 0 (by decide +kernel) rfl, ⟨by decide +kernel, by decide +kernel⟩, by decide +kernel, by decide +kernel, rfl, fun z => nomatch z⟩
abbrev mL_hole : MI := (RL, cL_hole, 5, (some FieldType.int), { frames := 7, cells := 1, slots := 6, locals := 115 }, false, [((0 : Nat), (10 : Nat), (13 : Nat), (18 : Nat)), ((0 : Nat), (10 : Nat), (17 : Nat), (27 : Nat))])
theorem mcL_hole : MCh yL_hole mL_hole 4 := ⟨inT 685 (by decide +kernel) rfl, inT 0 (by decide +kernel) rfl, ⟨by decide +kernel, by decide +kernel⟩, by decide +kernel, by decide +kernel, rfl, fun z => nomatch z⟩
abbrev mL_paint : MI := (RL, cL_paint, 4, (some FieldType.int), { frames := 7, cells := 1, slots := 6, locals := 112 }, false, [((0 : Nat), (9 : Nat), (12 : Nat), (18 : Nat)), ((0 : Nat), (9 : Nat), (15 : Nat), (27 : Nat))])
theorem mcL_paint : MCh yL_paint mL_paint 3 := ⟨inT 700 (by decide +kernel) rfl, inT 0 (by decide +kernel) rfl, ⟨by decide +kernel, by decide +kernel⟩, by decide +kernel, by decide +kernel, rfl, fun z => nomatch z⟩
abbrev mL_fit : MI := (RL, cL_fit, 5, (some FieldType.int), { frames := 7, cells := 1, slots := 6, locals := 113 }, false, [((0 : Nat), (10 : Nat), (13 : Nat), (18 : Nat)), ((0 : Nat), (10 : Nat), (17 : Nat), (13 : Nat)), ((0 : Nat), (10 : Nat), (21 : Nat), (27 : Nat))])
theorem mcL_fit : MCh yL_fit mL_fit 4 := ⟨inT 712 (by decide +kernel) rfl, inT 0 (by decide +kernel) rfl, ⟨by decide +kernel, by decide +kernel⟩, by decide +kernel, by decide +kernel, rfl, fun z => nomatch z⟩
abbrev mL_pipe : MI := (RL, cL_pipe, 5, (some FieldType.int), { frames := 7, cells := 3, slots := 43, locals := 169 }, false, [((0 : Nat), (10 : Nat), (13 : Nat), (18 : Nat)), ((0 : Nat), (10 : Nat), (17 : Nat), (13 : Nat)), ((0 : Nat), (10 : Nat), (21 : Nat), (27 : Nat))])
theorem mcL_pipe : MCh yL_pipe mL_pipe 4 := ⟨inT 721 (by decide +kernel) rfl, inT 0 (by decide +kernel) rfl, ⟨by decide +kernel, by decide +kernel⟩, by decide +kernel, by decide +kernel, rfl, fun z => nomatch z⟩
abbrev mL_launch : MI := (RL, cL_launch, 4, (some FieldType.int), { frames := 7, cells := 1, slots := 6, locals := 112 }, false, [((0 : Nat), (9 : Nat), (12 : Nat), (13 : Nat)), ((0 : Nat), (9 : Nat), (15 : Nat), (27 : Nat))])
theorem mcL_launch : MCh yL_launch mL_launch 3 := ⟨inT 778 (by decide +kernel) rfl, inT 0 (by decide +kernel) rfl, ⟨by decide +kernel, by decide +kernel⟩, by decide +kernel, by decide +kernel, rfl, fun z => nomatch z⟩
abbrev mL_whyNot : MI := (RL, cL_whyNot, 4, (some FieldType.int), { frames := 7, cells := 1, slots := 6, locals := 155 }, false, [((0 : Nat), (9 : Nat), (12 : Nat), (18 : Nat))])
theorem mcL_whyNot : MCh yL_whyNot mL_whyNot 3 := ⟨inT 787 (by decide +kernel) rfl, inT 0 (by decide +kernel) rfl, ⟨by decide +kernel, by decide +kernel⟩, by decide +kernel, by decide +kernel, rfl, fun z => nomatch z⟩
abbrev mL_told : MI := (RL, cL_told, 5, (some FieldType.int), { frames := 7, cells := 1, slots := 6, locals := 113 }, false, [((0 : Nat), (10 : Nat), (13 : Nat), (18 : Nat)), ((0 : Nat), (10 : Nat), (17 : Nat), (13 : Nat))])
theorem mcL_told : MCh yL_told mL_told 4 := ⟨inT 794 (by decide +kernel) rfl, inT 0 (by decide +kernel) rfl, ⟨by decide +kernel, by decide +kernel⟩, by decide +kernel, by decide +kernel, rfl, fun z => nomatch z⟩
abbrev mL_weld : MI := (RL, cL_weld, 5, (some FieldType.int), { frames := 7, cells := 1, slots := 6, locals := 113 }, false, [((0 : Nat), (10 : Nat), (13 : Nat), (18 : Nat)), ((0 : Nat), (10 : Nat), (17 : Nat), (13 : Nat))])
theorem mcL_weld : MCh yL_weld mL_weld 4 := ⟨inT 806 (by decide +kernel) rfl, inT 0 (by decide +kernel) rfl, ⟨by decide +kernel, by decide +kernel⟩, by decide +kernel, by decide +kernel, rfl, fun z => nomatch z⟩
abbrev mL_cell : MI := (RL, cL_cell, 5, (some FieldType.int), { frames := 7, cells := 1, slots := 6, locals := 113 }, false, [((0 : Nat), (10 : Nat), (13 : Nat), (18 : Nat)), ((0 : Nat), (10 : Nat), (17 : Nat), (13 : Nat))])
theorem mcL_cell : MCh yL_cell mL_cell 4 := ⟨inT 817 (by decide +kernel) rfl, inT 0 (by decide +kernel) rfl, ⟨by decide +kernel, by decide +kernel⟩, by decide +kernel, by decide +kernel, rfl, fun z => nomatch z⟩
abbrev mL_roomAt : MI := (RL, cL_roomAt, 5, (some FieldType.int), { frames := 7, cells := 1, slots := 6, locals := 113 }, false, [((0 : Nat), (10 : Nat), (13 : Nat), (18 : Nat))])
theorem mcL_roomAt : MCh yL_roomAt mL_roomAt 4 := ⟨inT 829 (by decide +kernel) rfl, inT 0 (by decide +kernel) rfl, ⟨by decide +kernel, by decide +kernel⟩, by decide +kernel, by decide +kernel, rfl, fun z => nomatch z⟩
abbrev mL_water : MI := (RL, cL_water, 4, (some FieldType.int), { frames := 7, cells := 1, slots := 6, locals := 111 }, false, [((0 : Nat), (9 : Nat), (12 : Nat), (13 : Nat))])
theorem mcL_water : MCh yL_water mL_water 3 := ⟨inT 837 (by decide +kernel) rfl, inT 0 (by decide +kernel) rfl, ⟨by decide +kernel, by decide +kernel⟩, by decide +kernel, by decide +kernel, rfl, fun z => nomatch z⟩
theorem obX0_3 : Cond.methodLink RX0 3 Lib.objectInit ∈ TB := inT 398 (by decide +kernel) rfl
theorem fgX0_9 : FG RX0 9 0 0 := ⟨_, _, _, _, _, ciX0, by decide, inT 399 (by decide +kernel) rfl⟩
theorem fpX0_9 : FP RX0 9 0 0 true (.int) := ⟨_, _, _, _, _, ciX0, by decide, inT 399 (by decide +kernel) rfl, rfl, rfl, fun _ => rfl⟩
theorem fgX0_15 : FG RX0 15 0 1 := ⟨_, _, _, _, _, ciX0, by decide, inT 402 (by decide +kernel) rfl⟩
theorem fpX0_15 : FP RX0 15 0 1 true (.int) := ⟨_, _, _, _, _, ciX0, by decide, inT 402 (by decide +kernel) rfl, rfl, rfl, fun _ => rfl⟩
theorem fgX0_18 : FG RX0 18 0 2 := ⟨_, _, _, _, _, ciX0, by decide, inT 405 (by decide +kernel) rfl⟩
theorem fpX0_18 : FP RX0 18 0 2 true (.int) := ⟨_, _, _, _, _, ciX0, by decide, inT 405 (by decide +kernel) rfl, rfl, rfl, fun _ => rfl⟩
theorem fgX0_21 : FG RX0 21 0 3 := ⟨_, _, _, _, _, ciX0, by decide, inT 408 (by decide +kernel) rfl⟩
theorem fpX0_21 : FP RX0 21 0 3 true (.int) := ⟨_, _, _, _, _, ciX0, by decide, inT 408 (by decide +kernel) rfl, rfl, rfl, fun _ => rfl⟩
theorem fgX0_24 : FG RX0 24 0 4 := ⟨_, _, _, _, _, ciX0, by decide, inT 412 (by decide +kernel) rfl⟩
theorem fpX0_24 : FP RX0 24 0 4 true (.int) := ⟨_, _, _, _, _, ciX0, by decide, inT 412 (by decide +kernel) rfl, rfl, rfl, fun _ => rfl⟩
theorem fgX0_27 : FG RX0 27 0 6 := ⟨_, _, _, _, _, ciX0, by decide, inT 417 (by decide +kernel) rfl⟩
theorem fpX0_27 : FP RX0 27 0 6 false (.int) := ⟨_, _, _, _, _, ciX0, by decide, inT 417 (by decide +kernel) rfl, rfl, rfl, fun z => nomatch z⟩
theorem fgX0_30 : FG RX0 30 0 5 := ⟨_, _, _, _, _, ciX0, by decide, inT 415 (by decide +kernel) rfl⟩
theorem fpX0_30 : FP RX0 30 0 5 true (.int) := ⟨_, _, _, _, _, ciX0, by decide, inT 415 (by decide +kernel) rfl, rfl, rfl, fun _ => rfl⟩
theorem fgX0_33 : FG RX0 33 0 7 := ⟨_, _, _, _, _, ciX0, by decide, inT 419 (by decide +kernel) rfl⟩
theorem fpX0_33 : FP RX0 33 0 7 false (.int) := ⟨_, _, _, _, _, ciX0, by decide, inT 419 (by decide +kernel) rfl, rfl, rfl, fun z => nomatch z⟩
theorem fgX0_36 : FG RX0 36 0 8 := ⟨_, _, _, _, _, ciX0, by decide, inT 421 (by decide +kernel) rfl⟩
theorem fpX0_36 : FP RX0 36 0 8 false (.int) := ⟨_, _, _, _, _, ciX0, by decide, inT 421 (by decide +kernel) rfl, rfl, rfl, fun z => nomatch z⟩
theorem fgX0_39 : FG RX0 39 0 9 := ⟨_, _, _, _, _, ciX0, by decide, inT 424 (by decide +kernel) rfl⟩
theorem fpX0_39 : FP RX0 39 0 9 false (.object "Stowfinish$Block") := ⟨_, _, _, _, _, ciX0, by decide, inT 424 (by decide +kernel) rfl, rfl, rfl, fun z => nomatch z⟩
theorem lkX0_43 : LkV RX0 43 yX0_frames := ⟨inT 181 (by decide +kernel) rfl, inT 182 (by decide +kernel) rfl, inT 183 (by decide +kernel) rfl⟩
theorem obX1_3 : Cond.methodLink RX1 3 Lib.objectInit ∈ TB := inT 38 (by decide +kernel) rfl
theorem naX1_9 : Cond.classLink RX1 9 RX4 ∈ TB := inT 39 (by decide +kernel) rfl
theorem fgX1_11 : FG RX1 11 1 0 := ⟨_, _, _, _, _, ciX1, by decide, inT 41 (by decide +kernel) rfl⟩
theorem fpX1_11 : FP RX1 11 1 0 true (.array (.object "Stowfinish$Room")) := ⟨_, _, _, _, _, ciX1, by decide, inT 41 (by decide +kernel) rfl, rfl, rfl, fun _ => rfl⟩
theorem fgX1_17 : FG RX1 17 1 1 := ⟨_, _, _, _, _, ciX1, by decide, inT 43 (by decide +kernel) rfl⟩
theorem fpX1_17 : FP RX1 17 1 1 false (.int) := ⟨_, _, _, _, _, ciX1, by decide, inT 43 (by decide +kernel) rfl, rfl, rfl, fun z => nomatch z⟩
theorem fgX1_21 : FG RX1 21 1 2 := ⟨_, _, _, _, _, ciX1, by decide, inT 45 (by decide +kernel) rfl⟩
theorem fpX1_21 : FP RX1 21 1 2 false (.int) := ⟨_, _, _, _, _, ciX1, by decide, inT 45 (by decide +kernel) rfl, rfl, rfl, fun z => nomatch z⟩
theorem lkX1_24 : LkN RX1 24 yX8_cellOf := ⟨by decide +kernel, inT 531 (by decide +kernel) rfl⟩
theorem lkX1_28 : LkV RX1 28 yX1_roomOf := ⟨inT 533 (by decide +kernel) rfl, inT 534 (by decide +kernel) rfl, inT 535 (by decide +kernel) rfl⟩
theorem lkX1_32 : LkV RX1 32 yX1_roomOn := ⟨inT 560 (by decide +kernel) rfl, inT 527 (by decide +kernel) rfl, inT 528 (by decide +kernel) rfl⟩
theorem fgX1_36 : FG RX1 36 4 1 := ⟨_, _, _, _, _, ciX4, by decide, inT 612 (by decide +kernel) rfl⟩
theorem fgX1_40 : FG RX1 40 0 1 := ⟨_, _, _, _, _, ciX0, by decide, inT 403 (by decide +kernel) rfl⟩
theorem fgX1_45 : FG RX1 45 0 2 := ⟨_, _, _, _, _, ciX0, by decide, inT 406 (by decide +kernel) rfl⟩
theorem fgX1_48 : FG RX1 48 0 3 := ⟨_, _, _, _, _, ciX0, by decide, inT 410 (by decide +kernel) rfl⟩
theorem nwX1_9 : Cond.classLink RX1 9 RX4 ∈ TB := inT 39 (by decide +kernel) rfl
theorem lkX1_51 : LkI RX1 51 yX4_init := ⟨inT 605 (by decide +kernel) rfl, inT 606 (by decide +kernel) rfl, rfl⟩
theorem fgX1_54 : FG RX1 54 0 4 := ⟨_, _, _, _, _, ciX0, by decide, inT 413 (by decide +kernel) rfl⟩
theorem lkX1_55 : LkV RX1 55 yX1_load := ⟨inT 643 (by decide +kernel) rfl, inT 644 (by decide +kernel) rfl, inT 645 (by decide +kernel) rfl⟩
theorem fgX1_59 : FG RX1 59 4 2 := ⟨_, _, _, _, _, ciX4, by decide, inT 615 (by decide +kernel) rfl⟩
theorem lkX1_63 : LkV RX1 63 yX4_frame := ⟨inT 173 (by decide +kernel) rfl, inT 174 (by decide +kernel) rfl, inT 175 (by decide +kernel) rfl⟩
theorem lkX1_67 : LkV RX1 67 yX0_tonsAt := ⟨inT 177 (by decide +kernel) rfl, inT 178 (by decide +kernel) rfl, inT 179 (by decide +kernel) rfl⟩
theorem fgX1_71 : FG RX1 71 4 3 := ⟨_, _, _, _, _, ciX4, by decide, inT 618 (by decide +kernel) rfl⟩
theorem fgX1_74 : FG RX1 74 4 4 := ⟨_, _, _, _, _, ciX4, by decide, inT 621 (by decide +kernel) rfl⟩
theorem lkX1_77 : LkV RX1 77 yX1_balance := ⟨inT 201 (by decide +kernel) rfl, inT 190 (by decide +kernel) rfl, inT 191 (by decide +kernel) rfl⟩
theorem lkX1_80 : LkV RX1 80 yX1_depth := ⟨inT 226 (by decide +kernel) rfl, inT 198 (by decide +kernel) rfl, inT 199 (by decide +kernel) rfl⟩
theorem maX1_84 : Cond.methodLink RX1 84 Lib.Math.max.name ∈ TB := inT 227 (by decide +kernel) rfl
theorem obX2_3 : Cond.methodLink RX2 3 Lib.objectInit ∈ TB := inT 87 (by decide +kernel) rfl
theorem fgX2_9 : FG RX2 9 2 0 := ⟨_, _, _, _, _, ciX2, by decide, inT 88 (by decide +kernel) rfl⟩
theorem fpX2_9 : FP RX2 9 2 0 true (.array .int) := ⟨_, _, _, _, _, ciX2, by decide, inT 88 (by decide +kernel) rfl, rfl, rfl, fun _ => rfl⟩
theorem fgX2_15 : FG RX2 15 2 1 := ⟨_, _, _, _, _, ciX2, by decide, inT 89 (by decide +kernel) rfl⟩
theorem fpX2_15 : FP RX2 15 2 1 false (.int) := ⟨_, _, _, _, _, ciX2, by decide, inT 89 (by decide +kernel) rfl, rfl, rfl, fun z => nomatch z⟩
theorem fgX2_19 : FG RX2 19 2 2 := ⟨_, _, _, _, _, ciX2, by decide, inT 90 (by decide +kernel) rfl⟩
theorem fpX2_19 : FP RX2 19 2 2 false (.int) := ⟨_, _, _, _, _, ciX2, by decide, inT 90 (by decide +kernel) rfl, rfl, rfl, fun z => nomatch z⟩
theorem obX3_1 : Cond.methodLink RX3 1 Lib.objectInit ∈ TB := inT 766 (by decide +kernel) rfl
theorem fgX3_7 : FG RX3 7 3 0 := ⟨_, _, _, _, _, ciX3, by decide, inT 767 (by decide +kernel) rfl⟩
theorem fpX3_7 : FP RX3 7 3 0 true (.array .int) := ⟨_, _, _, _, _, ciX3, by decide, inT 767 (by decide +kernel) rfl, rfl, rfl, fun _ => rfl⟩
theorem obX4_3 : Cond.methodLink RX4 3 Lib.objectInit ∈ TB := inT 608 (by decide +kernel) rfl
theorem fgX4_9 : FG RX4 9 4 0 := ⟨_, _, _, _, _, ciX4, by decide, inT 609 (by decide +kernel) rfl⟩
theorem fpX4_9 : FP RX4 9 4 0 true (.int) := ⟨_, _, _, _, _, ciX4, by decide, inT 609 (by decide +kernel) rfl, rfl, rfl, fun _ => rfl⟩
theorem fgX4_15 : FG RX4 15 4 1 := ⟨_, _, _, _, _, ciX4, by decide, inT 611 (by decide +kernel) rfl⟩
theorem fpX4_15 : FP RX4 15 4 1 true (.object "Stowfinish$Block") := ⟨_, _, _, _, _, ciX4, by decide, inT 611 (by decide +kernel) rfl, rfl, rfl, fun _ => rfl⟩
theorem fgX4_19 : FG RX4 19 4 2 := ⟨_, _, _, _, _, ciX4, by decide, inT 614 (by decide +kernel) rfl⟩
theorem fpX4_19 : FP RX4 19 4 2 false (.boolean) := ⟨_, _, _, _, _, ciX4, by decide, inT 614 (by decide +kernel) rfl, rfl, rfl, fun z => nomatch z⟩
theorem fgX4_23 : FG RX4 23 4 3 := ⟨_, _, _, _, _, ciX4, by decide, inT 617 (by decide +kernel) rfl⟩
theorem fpX4_23 : FP RX4 23 4 3 false (.int) := ⟨_, _, _, _, _, ciX4, by decide, inT 617 (by decide +kernel) rfl, rfl, rfl, fun z => nomatch z⟩
theorem fgX4_26 : FG RX4 26 4 4 := ⟨_, _, _, _, _, ciX4, by decide, inT 620 (by decide +kernel) rfl⟩
theorem fpX4_26 : FP RX4 26 4 4 false (.int) := ⟨_, _, _, _, _, ciX4, by decide, inT 620 (by decide +kernel) rfl, rfl, rfl, fun z => nomatch z⟩
theorem fgX4_29 : FG RX4 29 4 5 := ⟨_, _, _, _, _, ciX4, by decide, inT 623 (by decide +kernel) rfl⟩
theorem fpX4_29 : FP RX4 29 4 5 false (.int) := ⟨_, _, _, _, _, ciX4, by decide, inT 623 (by decide +kernel) rfl, rfl, rfl, fun z => nomatch z⟩
theorem fgX4_32 : FG RX4 32 4 6 := ⟨_, _, _, _, _, ciX4, by decide, inT 626 (by decide +kernel) rfl⟩
theorem fpX4_32 : FP RX4 32 4 6 false (.int) := ⟨_, _, _, _, _, ciX4, by decide, inT 626 (by decide +kernel) rfl, rfl, rfl, fun z => nomatch z⟩
theorem fgX4_35 : FG RX4 35 0 0 := ⟨_, _, _, _, _, ciX0, by decide, inT 400 (by decide +kernel) rfl⟩
theorem obX5_3 : Cond.methodLink RX5 3 Lib.objectInit ∈ TB := inT 58 (by decide +kernel) rfl
theorem fgX5_9 : FG RX5 9 5 0 := ⟨_, _, _, _, _, ciX5, by decide, inT 59 (by decide +kernel) rfl⟩
theorem fpX5_9 : FP RX5 9 5 0 true (.object "Stowfinish$Hull") := ⟨_, _, _, _, _, ciX5, by decide, inT 59 (by decide +kernel) rfl, rfl, rfl, fun _ => rfl⟩
theorem lkX5_15 : LkV RX5 15 yX5_measure := ⟨inT 732 (by decide +kernel) rfl, inT 734 (by decide +kernel) rfl, inS 19 (by decide +kernel) rfl⟩
theorem fgX5_19 : FG RX5 19 4 6 := ⟨_, _, _, _, _, ciX4, by decide, inT 627 (by decide +kernel) rfl⟩
theorem fgX5_25 : FG RX5 25 4 0 := ⟨_, _, _, _, _, ciX4, by decide, inT 610 (by decide +kernel) rfl⟩
theorem lkX5_28 : LkV RX5 28 yX5_lowestNearer := ⟨inT 757 (by decide +kernel) rfl, inT 759 (by decide +kernel) rfl, inS 23 (by decide +kernel) rfl⟩
theorem fgX5_32 : FG RX5 32 1 0 := ⟨_, _, _, _, _, ciX1, by decide, inT 42 (by decide +kernel) rfl⟩
theorem fpX5_19 : FP RX5 19 4 6 false (.int) := ⟨_, _, _, _, _, ciX4, by decide, inT 627 (by decide +kernel) rfl, rfl, rfl, fun z => nomatch z⟩
theorem lkX5_38 : LkV RX5 38 yX4_hasAllPipes := ⟨inT 736 (by decide +kernel) rfl, inT 737 (by decide +kernel) rfl, inT 738 (by decide +kernel) rfl⟩
theorem lkX5_42 : LkV RX5 42 yX5_spreadAll := ⟨inT 740 (by decide +kernel) rfl, inT 742 (by decide +kernel) rfl, inS 20 (by decide +kernel) rfl⟩
theorem lkX5_46 : LkV RX5 46 yX5_spread := ⟨inT 744 (by decide +kernel) rfl, inT 746 (by decide +kernel) rfl, inS 21 (by decide +kernel) rfl⟩
theorem lkX5_54 : LkV RX5 54 yX5_through := ⟨inT 750 (by decide +kernel) rfl, inT 752 (by decide +kernel) rfl, inS 22 (by decide +kernel) rfl⟩
theorem fgX5_61 : FG RX5 61 4 5 := ⟨_, _, _, _, _, ciX4, by decide, inT 624 (by decide +kernel) rfl⟩
theorem lkX5_64 : LkV RX5 64 yX1_roomOf := ⟨inT 756 (by decide +kernel) rfl, inT 534 (by decide +kernel) rfl, inT 535 (by decide +kernel) rfl⟩
theorem obX6_3 : Cond.methodLink RX6 3 Lib.objectInit ∈ TB := inT 491 (by decide +kernel) rfl
theorem fgX6_9 : FG RX6 9 6 0 := ⟨_, _, _, _, _, ciX6, by decide, inT 492 (by decide +kernel) rfl⟩
theorem fpX6_9 : FP RX6 9 6 0 true (.object "Stowfinish$Block") := ⟨_, _, _, _, _, ciX6, by decide, inT 492 (by decide +kernel) rfl, rfl, rfl, fun _ => rfl⟩
theorem fgX6_15 : FG RX6 15 6 1 := ⟨_, _, _, _, _, ciX6, by decide, inT 494 (by decide +kernel) rfl⟩
theorem fpX6_15 : FP RX6 15 6 1 true (.int) := ⟨_, _, _, _, _, ciX6, by decide, inT 494 (by decide +kernel) rfl, rfl, rfl, fun _ => rfl⟩
theorem fgX6_19 : FG RX6 19 6 2 := ⟨_, _, _, _, _, ciX6, by decide, inT 496 (by decide +kernel) rfl⟩
theorem fpX6_19 : FP RX6 19 6 2 false (.int) := ⟨_, _, _, _, _, ciX6, by decide, inT 496 (by decide +kernel) rfl, rfl, rfl, fun z => nomatch z⟩
theorem fgX6_22 : FG RX6 22 6 3 := ⟨_, _, _, _, _, ciX6, by decide, inT 498 (by decide +kernel) rfl⟩
theorem fpX6_22 : FP RX6 22 6 3 false (.int) := ⟨_, _, _, _, _, ciX6, by decide, inT 498 (by decide +kernel) rfl, rfl, rfl, fun z => nomatch z⟩
theorem fgX6_25 : FG RX6 25 6 4 := ⟨_, _, _, _, _, ciX6, by decide, inT 500 (by decide +kernel) rfl⟩
theorem fpX6_25 : FP RX6 25 6 4 false (.boolean) := ⟨_, _, _, _, _, ciX6, by decide, inT 500 (by decide +kernel) rfl, rfl, rfl, fun z => nomatch z⟩
theorem lkX6_29 : LkV RX6 29 yX0_outermost := ⟨inT 218 (by decide +kernel) rfl, inT 219 (by decide +kernel) rfl, inT 220 (by decide +kernel) rfl⟩
theorem fgX6_35 : FG RX6 35 0 8 := ⟨_, _, _, _, _, ciX0, by decide, inT 422 (by decide +kernel) rfl⟩
theorem fgX6_38 : FG RX6 38 0 3 := ⟨_, _, _, _, _, ciX0, by decide, inT 409 (by decide +kernel) rfl⟩
theorem obX7_3 : Cond.methodLink RX7 3 Lib.objectInit ∈ TB := inT 68 (by decide +kernel) rfl
theorem fgX7_9 : FG RX7 9 7 0 := ⟨_, _, _, _, _, ciX7, by decide, inT 72 (by decide +kernel) rfl⟩
theorem fpX7_9 : FP RX7 9 7 0 true (.array .int) := ⟨_, _, _, _, _, ciX7, by decide, inT 72 (by decide +kernel) rfl, rfl, rfl, fun _ => rfl⟩
theorem lkX7_15 : LkS RX7 15 yJ7_fill_53178 := ⟨inT 69 (by decide +kernel) rfl, inT 70 (by decide +kernel) rfl⟩
theorem fgX7_21 : FG RX7 21 7 1 := ⟨_, _, _, _, _, ciX7, by decide, inT 74 (by decide +kernel) rfl⟩
theorem fpX7_21 : FP RX7 21 7 1 false (.int) := ⟨_, _, _, _, _, ciX7, by decide, inT 74 (by decide +kernel) rfl, rfl, rfl, fun z => nomatch z⟩
theorem lcX7_25 : Cond.constant RX7 25 1103515245 ∈ TB := inT 521 (by decide +kernel) rfl
theorem obX8_3 : Cond.methodLink RX8 3 Lib.objectInit ∈ TB := inT 24 (by decide +kernel) rfl
theorem naX8_9 : Cond.classLink RX8 9 RX0 ∈ TB := inT 27 (by decide +kernel) rfl
theorem fgX8_11 : FG RX8 11 8 0 := ⟨_, _, _, _, _, ciX8, by decide, inT 99 (by decide +kernel) rfl⟩
theorem fpX8_11 : FP RX8 11 8 0 true (.array (.object "Stowfinish$Block")) := ⟨_, _, _, _, _, ciX8, by decide, inT 99 (by decide +kernel) rfl, rfl, rfl, fun _ => rfl⟩
theorem naX8_15 : Cond.classLink RX8 15 RX6 ∈ TB := inT 29 (by decide +kernel) rfl
theorem fgX8_17 : FG RX8 17 8 1 := ⟨_, _, _, _, _, ciX8, by decide, inT 100 (by decide +kernel) rfl⟩
theorem fpX8_17 : FP RX8 17 8 1 true (.array (.object "Stowfinish$Weld")) := ⟨_, _, _, _, _, ciX8, by decide, inT 100 (by decide +kernel) rfl, rfl, rfl, fun _ => rfl⟩
theorem naX8_21 : Cond.classLink RX8 21 RX3 ∈ TB := inT 31 (by decide +kernel) rfl
theorem fgX8_23 : FG RX8 23 8 2 := ⟨_, _, _, _, _, ciX8, by decide, inT 101 (by decide +kernel) rfl⟩
theorem fpX8_23 : FP RX8 23 8 2 true (.array (.object "Stowfinish$Pipe")) := ⟨_, _, _, _, _, ciX8, by decide, inT 101 (by decide +kernel) rfl, rfl, rfl, fun _ => rfl⟩
theorem nwX8_27 : Cond.classLink RX8 27 RX1 ∈ TB := inT 33 (by decide +kernel) rfl
theorem lkX8_29 : LkI RX8 29 yX1_init := ⟨inT 35 (by decide +kernel) rfl, inT 36 (by decide +kernel) rfl, rfl⟩
theorem fgX8_30 : FG RX8 30 8 3 := ⟨_, _, _, _, _, ciX8, by decide, inT 102 (by decide +kernel) rfl⟩
theorem fpX8_30 : FP RX8 30 8 3 true (.object "Stowfinish$Hull") := ⟨_, _, _, _, _, ciX8, by decide, inT 102 (by decide +kernel) rfl, rfl, rfl, fun _ => rfl⟩
theorem nwX8_34 : Cond.classLink RX8 34 RX5 ∈ TB := inT 53 (by decide +kernel) rfl
theorem lkX8_36 : LkI RX8 36 yX5_init := ⟨inT 55 (by decide +kernel) rfl, inT 56 (by decide +kernel) rfl, rfl⟩
theorem fgX8_39 : FG RX8 39 8 4 := ⟨_, _, _, _, _, ciX8, by decide, inT 103 (by decide +kernel) rfl⟩
theorem fpX8_39 : FP RX8 39 8 4 true (.object "Stowfinish$Ways") := ⟨_, _, _, _, _, ciX8, by decide, inT 103 (by decide +kernel) rfl, rfl, rfl, fun _ => rfl⟩
theorem nwX8_43 : Cond.classLink RX8 43 RX7 ∈ TB := inT 63 (by decide +kernel) rfl
theorem lkX8_45 : LkI RX8 45 yX7_init := ⟨inT 65 (by decide +kernel) rfl, inT 66 (by decide +kernel) rfl, rfl⟩
theorem fgX8_46 : FG RX8 46 8 5 := ⟨_, _, _, _, _, ciX8, by decide, inT 104 (by decide +kernel) rfl⟩
theorem fpX8_46 : FP RX8 46 8 5 true (.object "Stowfinish$Welders") := ⟨_, _, _, _, _, ciX8, by decide, inT 104 (by decide +kernel) rfl, rfl, rfl, fun _ => rfl⟩
theorem nwX8_50 : Cond.classLink RX8 50 RX2 ∈ TB := inT 82 (by decide +kernel) rfl
theorem lkX8_52 : LkI RX8 52 yX2_init := ⟨inT 84 (by decide +kernel) rfl, inT 85 (by decide +kernel) rfl, rfl⟩
theorem fgX8_53 : FG RX8 53 8 6 := ⟨_, _, _, _, _, ciX8, by decide, inT 105 (by decide +kernel) rfl⟩
theorem fpX8_53 : FP RX8 53 8 6 true (.object "Stowfinish$Ledger") := ⟨_, _, _, _, _, ciX8, by decide, inT 105 (by decide +kernel) rfl, rfl, rfl, fun _ => rfl⟩
theorem fgX8_57 : FG RX8 57 8 7 := ⟨_, _, _, _, _, ciX8, by decide, inT 106 (by decide +kernel) rfl⟩
theorem fpX8_57 : FP RX8 57 8 7 false (.int) := ⟨_, _, _, _, _, ciX8, by decide, inT 106 (by decide +kernel) rfl, rfl, rfl, fun z => nomatch z⟩
theorem fgX8_61 : FG RX8 61 8 8 := ⟨_, _, _, _, _, ciX8, by decide, inT 107 (by decide +kernel) rfl⟩
theorem fpX8_61 : FP RX8 61 8 8 false (.int) := ⟨_, _, _, _, _, ciX8, by decide, inT 107 (by decide +kernel) rfl, rfl, rfl, fun z => nomatch z⟩
theorem fgX8_64 : FG RX8 64 8 9 := ⟨_, _, _, _, _, ciX8, by decide, inT 108 (by decide +kernel) rfl⟩
theorem fpX8_64 : FP RX8 64 8 9 false (.int) := ⟨_, _, _, _, _, ciX8, by decide, inT 108 (by decide +kernel) rfl, rfl, rfl, fun z => nomatch z⟩
theorem fgX8_67 : FG RX8 67 8 10 := ⟨_, _, _, _, _, ciX8, by decide, inT 109 (by decide +kernel) rfl⟩
theorem fpX8_67 : FP RX8 67 8 10 false (.int) := ⟨_, _, _, _, _, ciX8, by decide, inT 109 (by decide +kernel) rfl, rfl, rfl, fun z => nomatch z⟩
theorem fgX8_70 : FG RX8 70 8 11 := ⟨_, _, _, _, _, ciX8, by decide, inT 110 (by decide +kernel) rfl⟩
theorem fpX8_70 : FP RX8 70 8 11 false (.int) := ⟨_, _, _, _, _, ciX8, by decide, inT 110 (by decide +kernel) rfl, rfl, rfl, fun z => nomatch z⟩
theorem fgX8_73 : FG RX8 73 8 12 := ⟨_, _, _, _, _, ciX8, by decide, inT 111 (by decide +kernel) rfl⟩
theorem fpX8_73 : FP RX8 73 8 12 false (.int) := ⟨_, _, _, _, _, ciX8, by decide, inT 111 (by decide +kernel) rfl, rfl, rfl, fun z => nomatch z⟩
theorem fgX8_76 : FG RX8 76 8 13 := ⟨_, _, _, _, _, ciX8, by decide, inT 112 (by decide +kernel) rfl⟩
theorem fpX8_76 : FP RX8 76 8 13 false (.int) := ⟨_, _, _, _, _, ciX8, by decide, inT 112 (by decide +kernel) rfl, rfl, rfl, fun z => nomatch z⟩
theorem fgX8_79 : FG RX8 79 8 14 := ⟨_, _, _, _, _, ciX8, by decide, inT 113 (by decide +kernel) rfl⟩
theorem fpX8_79 : FP RX8 79 8 14 false (.boolean) := ⟨_, _, _, _, _, ciX8, by decide, inT 113 (by decide +kernel) rfl, rfl, rfl, fun z => nomatch z⟩
theorem lkX8_83 : LkS RX8 83 yX8_isWithin := ⟨inT 256 (by decide +kernel) rfl, inT 257 (by decide +kernel) rfl⟩
theorem lkX8_94 : LkS RX8 94 yX8_isFrame := ⟨inT 335 (by decide +kernel) rfl, inT 336 (by decide +kernel) rfl⟩
theorem fgX8_105 : FG RX8 105 7 0 := ⟨_, _, _, _, _, ciX7, by decide, inT 73 (by decide +kernel) rfl⟩
theorem fgX8_113 : FG RX8 113 7 1 := ⟨_, _, _, _, _, ciX7, by decide, inT 75 (by decide +kernel) rfl⟩
theorem fpX8_113 : FP RX8 113 7 1 false (.int) := ⟨_, _, _, _, _, ciX7, by decide, inT 75 (by decide +kernel) rfl, rfl, rfl, fun z => nomatch z⟩
theorem lkX8_120 : LkV RX8 120 yX8_hasSpaceForBlock := ⟨inT 374 (by decide +kernel) rfl, inT 376 (by decide +kernel) rfl, inS 2 (by decide +kernel) rfl⟩
theorem nwX8_9 : Cond.classLink RX8 9 RX0 ∈ TB := inT 27 (by decide +kernel) rfl
theorem lkX8_129 : LkI RX8 129 yX0_init := ⟨inT 395 (by decide +kernel) rfl, inT 396 (by decide +kernel) rfl, rfl⟩
theorem lkX8_132 : LkV RX8 132 yX8_keep := ⟨inT 447 (by decide +kernel) rfl, inT 449 (by decide +kernel) rfl, inS 3 (by decide +kernel) rfl⟩
theorem lkX8_136 : LkV RX8 136 yX8_blockOf := ⟨inT 458 (by decide +kernel) rfl, inT 460 (by decide +kernel) rfl, inS 4 (by decide +kernel) rfl⟩
theorem lkX8_140 : LkV RX8 140 yX7_has := ⟨inT 462 (by decide +kernel) rfl, inT 463 (by decide +kernel) rfl, inT 464 (by decide +kernel) rfl⟩
theorem lkX8_145 : LkV RX8 145 yX8_canJoin := ⟨inT 467 (by decide +kernel) rfl, inT 469 (by decide +kernel) rfl, inS 5 (by decide +kernel) rfl⟩
theorem lkX8_149 : LkV RX8 149 yX8_hasSpaceForWelds := ⟨inT 475 (by decide +kernel) rfl, inT 477 (by decide +kernel) rfl, inS 6 (by decide +kernel) rfl⟩
theorem fgX8_154 : FG RX8 154 0 6 := ⟨_, _, _, _, _, ciX0, by decide, inT 418 (by decide +kernel) rfl⟩
theorem fgX8_157 : FG RX8 157 0 3 := ⟨_, _, _, _, _, ciX0, by decide, inT 411 (by decide +kernel) rfl⟩
theorem fgX8_160 : FG RX8 160 0 1 := ⟨_, _, _, _, _, ciX0, by decide, inT 404 (by decide +kernel) rfl⟩
theorem fgX8_163 : FG RX8 163 0 2 := ⟨_, _, _, _, _, ciX0, by decide, inT 407 (by decide +kernel) rfl⟩
theorem lkX8_166 : LkS RX8 166 yX8_tonsTogether := ⟨inT 472 (by decide +kernel) rfl, inT 473 (by decide +kernel) rfl⟩
theorem fgX8_170 : FG RX8 170 0 5 := ⟨_, _, _, _, _, ciX0, by decide, inT 416 (by decide +kernel) rfl⟩
theorem lkX8_173 : LkS RX8 173 yX8_becomePart := ⟨inT 480 (by decide +kernel) rfl, inT 481 (by decide +kernel) rfl⟩
theorem lkX8_177 : LkV RX8 177 yX8_makeWeld := ⟨inT 483 (by decide +kernel) rfl, inT 485 (by decide +kernel) rfl, inS 7 (by decide +kernel) rfl⟩
theorem lkX8_181 : LkV RX8 181 yX8_neighbourAhead := ⟨inT 552 (by decide +kernel) rfl, inT 554 (by decide +kernel) rfl, inS 10 (by decide +kernel) rfl⟩
theorem lkX8_185 : LkV RX8 185 yX8_neighbourBehind := ⟨inT 561 (by decide +kernel) rfl, inT 563 (by decide +kernel) rfl, inS 11 (by decide +kernel) rfl⟩
theorem lkX8_188 : LkV RX8 188 yX8_reasonAgainst := ⟨inT 565 (by decide +kernel) rfl, inT 567 (by decide +kernel) rfl, inS 12 (by decide +kernel) rfl⟩
theorem lkX8_193 : LkS RX8 193 yX8_excess := ⟨inT 589 (by decide +kernel) rfl, inT 590 (by decide +kernel) rfl⟩
theorem maX8_197 : Cond.methodLink RX8 197 Lib.Math.max.name ∈ TB := inT 584 (by decide +kernel) rfl
theorem fpX8_154 : FP RX8 154 0 6 false (.int) := ⟨_, _, _, _, _, ciX0, by decide, inT 418 (by decide +kernel) rfl, rfl, rfl, fun z => nomatch z⟩
theorem lkX8_203 : LkS RX8 203 yX8_beginOf := ⟨inT 597 (by decide +kernel) rfl, inT 598 (by decide +kernel) rfl⟩
theorem fgX8_206 : FG RX8 206 0 7 := ⟨_, _, _, _, _, ciX0, by decide, inT 420 (by decide +kernel) rfl⟩
theorem fpX8_206 : FP RX8 206 0 7 false (.int) := ⟨_, _, _, _, _, ciX0, by decide, inT 420 (by decide +kernel) rfl, rfl, rfl, fun z => nomatch z⟩
theorem fgX8_209 : FG RX8 209 0 8 := ⟨_, _, _, _, _, ciX0, by decide, inT 423 (by decide +kernel) rfl⟩
theorem fpX8_209 : FP RX8 209 0 8 false (.int) := ⟨_, _, _, _, _, ciX0, by decide, inT 423 (by decide +kernel) rfl, rfl, rfl, fun z => nomatch z⟩
theorem lkX8_212 : LkV RX8 212 yX1_fill := ⟨inT 600 (by decide +kernel) rfl, inT 601 (by decide +kernel) rfl, inT 602 (by decide +kernel) rfl⟩
theorem lkX8_216 : LkV RX8 216 yX0_frames := ⟨inT 471 (by decide +kernel) rfl, inT 182 (by decide +kernel) rfl, inT 183 (by decide +kernel) rfl⟩
theorem lkX8_220 : LkV RX8 220 yX2_enter := ⟨inT 541 (by decide +kernel) rfl, inT 542 (by decide +kernel) rfl, inT 543 (by decide +kernel) rfl⟩
theorem lkX8_228 : LkV RX8 228 yX0_outermost := ⟨inT 656 (by decide +kernel) rfl, inT 219 (by decide +kernel) rfl, inT 220 (by decide +kernel) rfl⟩
theorem lkX8_232 : LkV RX8 232 yX8_weldOf := ⟨inT 664 (by decide +kernel) rfl, inT 666 (by decide +kernel) rfl, inS 17 (by decide +kernel) rfl⟩
theorem fgX8_238 : FG RX8 238 6 2 := ⟨_, _, _, _, _, ciX6, by decide, inT 497 (by decide +kernel) rfl⟩
theorem lkX8_241 : LkV RX8 241 yX6_isScrapped := ⟨inT 669 (by decide +kernel) rfl, inT 670 (by decide +kernel) rfl, inT 671 (by decide +kernel) rfl⟩
theorem fgX8_246 : FG RX8 246 6 4 := ⟨_, _, _, _, _, ciX6, by decide, inT 501 (by decide +kernel) rfl⟩
theorem fpX8_238 : FP RX8 238 6 2 false (.int) := ⟨_, _, _, _, _, ciX6, by decide, inT 497 (by decide +kernel) rfl, rfl, rfl, fun z => nomatch z⟩
theorem fgX8_251 : FG RX8 251 6 3 := ⟨_, _, _, _, _, ciX6, by decide, inT 499 (by decide +kernel) rfl⟩
theorem fpX8_251 : FP RX8 251 6 3 false (.int) := ⟨_, _, _, _, _, ciX6, by decide, inT 499 (by decide +kernel) rfl, rfl, rfl, fun z => nomatch z⟩
theorem lkX8_256 : LkV RX8 256 yX8_weldNow := ⟨inT 513 (by decide +kernel) rfl, inT 515 (by decide +kernel) rfl, inS 8 (by decide +kernel) rfl⟩
theorem lkX8_260 : LkV RX8 260 yX1_roomOf := ⟨inT 690 (by decide +kernel) rfl, inT 534 (by decide +kernel) rfl, inT 535 (by decide +kernel) rfl⟩
theorem lkX8_264 : LkV RX8 264 yX8_roomNextTo := ⟨inT 691 (by decide +kernel) rfl, inT 693 (by decide +kernel) rfl, inS 18 (by decide +kernel) rfl⟩
theorem fgX8_270 : FG RX8 270 4 5 := ⟨_, _, _, _, _, ciX4, by decide, inT 625 (by decide +kernel) rfl⟩
theorem fpX8_270 : FP RX8 270 4 5 false (.int) := ⟨_, _, _, _, _, ciX4, by decide, inT 625 (by decide +kernel) rfl, rfl, rfl, fun z => nomatch z⟩
theorem lkX8_277 : LkV RX8 277 yX4_spoil := ⟨inT 537 (by decide +kernel) rfl, inT 538 (by decide +kernel) rfl, inT 539 (by decide +kernel) rfl⟩
theorem fgX8_280 : FG RX8 280 4 2 := ⟨_, _, _, _, _, ciX4, by decide, inT 616 (by decide +kernel) rfl⟩
theorem fpX8_280 : FP RX8 280 4 2 false (.boolean) := ⟨_, _, _, _, _, ciX4, by decide, inT 616 (by decide +kernel) rfl, rfl, rfl, fun z => nomatch z⟩
theorem lkX8_285 : LkV RX8 285 yX1_painted := ⟨inT 706 (by decide +kernel) rfl, inT 707 (by decide +kernel) rfl, inT 708 (by decide +kernel) rfl⟩
theorem fgX8_288 : FG RX8 288 4 3 := ⟨_, _, _, _, _, ciX4, by decide, inT 619 (by decide +kernel) rfl⟩
theorem fpX8_288 : FP RX8 288 4 3 false (.int) := ⟨_, _, _, _, _, ciX4, by decide, inT 619 (by decide +kernel) rfl, rfl, rfl, fun z => nomatch z⟩
theorem lkX8_293 : LkV RX8 293 yX4_frame := ⟨inT 695 (by decide +kernel) rfl, inT 174 (by decide +kernel) rfl, inT 175 (by decide +kernel) rfl⟩
theorem lkX8_296 : LkV RX8 296 yX1_load := ⟨inT 718 (by decide +kernel) rfl, inT 644 (by decide +kernel) rfl, inT 645 (by decide +kernel) rfl⟩
theorem lkX8_304 : LkV RX8 304 yX5_seek := ⟨inT 728 (by decide +kernel) rfl, inT 729 (by decide +kernel) rfl, inT 730 (by decide +kernel) rfl⟩
theorem nwX8_21 : Cond.classLink RX8 21 RX3 ∈ TB := inT 31 (by decide +kernel) rfl
theorem lkX8_310 : LkI RX8 310 yX3_init := ⟨inT 763 (by decide +kernel) rfl, inT 764 (by decide +kernel) rfl, rfl⟩
theorem lkX8_313 : LkV RX8 313 yX8_runThrough := ⟨inT 772 (by decide +kernel) rfl, inT 774 (by decide +kernel) rfl, inS 24 (by decide +kernel) rfl⟩
theorem lkX8_318 : LkS RX8 318 yX8_waterAt := ⟨inT 230 (by decide +kernel) rfl, inT 231 (by decide +kernel) rfl⟩
theorem lkX8_322 : LkV RX8 322 yX1_greaterDepth := ⟨inT 222 (by decide +kernel) rfl, inT 223 (by decide +kernel) rfl, inT 224 (by decide +kernel) rfl⟩
theorem lkX8_325 : LkV RX8 325 yX8_isReady := ⟨inT 206 (by decide +kernel) rfl, inT 208 (by decide +kernel) rfl, inS 0 (by decide +kernel) rfl⟩
theorem lkX8_332 : LkV RX8 332 yX0_fact := ⟨inT 800 (by decide +kernel) rfl, inT 801 (by decide +kernel) rfl, inT 802 (by decide +kernel) rfl⟩
theorem lkX8_335 : LkV RX8 335 yX6_fact := ⟨inT 811 (by decide +kernel) rfl, inT 812 (by decide +kernel) rfl, inT 813 (by decide +kernel) rfl⟩
theorem lkX8_338 : LkV RX8 338 yX4_fact := ⟨inT 823 (by decide +kernel) rfl, inT 824 (by decide +kernel) rfl, inT 825 (by decide +kernel) rfl⟩
theorem fgX8_341 : FG RX8 341 3 0 := ⟨_, _, _, _, _, ciX3, by decide, inT 768 (by decide +kernel) rfl⟩
theorem fgX8_344 : FG RX8 344 1 1 := ⟨_, _, _, _, _, ciX1, by decide, inT 44 (by decide +kernel) rfl⟩
theorem lkX8_347 : LkV RX8 347 yX1_tonsOfCells := ⟨inT 169 (by decide +kernel) rfl, inT 170 (by decide +kernel) rfl, inT 171 (by decide +kernel) rfl⟩
theorem lkX8_350 : LkV RX8 350 yX1_balance := ⟨inT 189 (by decide +kernel) rfl, inT 190 (by decide +kernel) rfl, inT 191 (by decide +kernel) rfl⟩
theorem lkX8_353 : LkV RX8 353 yX1_depth := ⟨inT 197 (by decide +kernel) rfl, inT 198 (by decide +kernel) rfl, inT 199 (by decide +kernel) rfl⟩
theorem fgX8_357 : FG RX8 357 2 2 := ⟨_, _, _, _, _, ciX2, by decide, inT 91 (by decide +kernel) rfl⟩
theorem lkX8_360 : LkV RX8 360 yX2_sumOfEntries := ⟨inT 244 (by decide +kernel) rfl, inT 245 (by decide +kernel) rfl, inT 246 (by decide +kernel) rfl⟩
theorem maX8_363 : Cond.methodLink RX8 363 Lib.Math.min.name ∈ TB := inT 233 (by decide +kernel) rfl
theorem fgX8_366 : FG RX8 366 0 0 := ⟨_, _, _, _, _, ciX0, by decide, inT 401 (by decide +kernel) rfl⟩
theorem fgX8_369 : FG RX8 369 0 4 := ⟨_, _, _, _, _, ciX0, by decide, inT 414 (by decide +kernel) rfl⟩
theorem fgX8_370 : FG RX8 370 0 9 := ⟨_, _, _, _, _, ciX0, by decide, inT 425 (by decide +kernel) rfl⟩
theorem fpX8_370 : FP RX8 370 0 9 false (.object "Stowfinish$Block") := ⟨_, _, _, _, _, ciX0, by decide, inT 425 (by decide +kernel) rfl, rfl, rfl, fun z => nomatch z⟩
theorem nwX8_15 : Cond.classLink RX8 15 RX6 ∈ TB := inT 29 (by decide +kernel) rfl
theorem lkX8_374 : LkI RX8 374 yX6_init := ⟨inT 488 (by decide +kernel) rfl, inT 489 (by decide +kernel) rfl, rfl⟩
theorem lkX8_377 : LkV RX8 377 yX7_drawFlaw := ⟨inT 517 (by decide +kernel) rfl, inT 518 (by decide +kernel) rfl, inT 519 (by decide +kernel) rfl⟩
theorem fpX8_246 : FP RX8 246 6 4 false (.boolean) := ⟨_, _, _, _, _, ciX6, by decide, inT 501 (by decide +kernel) rfl, rfl, rfl, fun z => nomatch z⟩
theorem lkX8_380 : LkV RX8 380 yX6_isStanding := ⟨inT 214 (by decide +kernel) rfl, inT 215 (by decide +kernel) rfl, inT 216 (by decide +kernel) rfl⟩
theorem fgX8_383 : FG RX8 383 6 1 := ⟨_, _, _, _, _, ciX6, by decide, inT 495 (by decide +kernel) rfl⟩
theorem fgX8_385 : FG RX8 385 6 0 := ⟨_, _, _, _, _, ciX6, by decide, inT 493 (by decide +kernel) rfl⟩
theorem lkX8_388 : LkV RX8 388 yX8_spoilAt := ⟨inT 522 (by decide +kernel) rfl, inT 524 (by decide +kernel) rfl, inS 9 (by decide +kernel) rfl⟩
theorem lkX8_391 : LkV RX8 391 yX1_roomOn := ⟨inT 526 (by decide +kernel) rfl, inT 527 (by decide +kernel) rfl, inT 528 (by decide +kernel) rfl⟩
theorem lkX8_395 : LkV RX8 395 yX8_isSomeFilled := ⟨inT 569 (by decide +kernel) rfl, inT 571 (by decide +kernel) rfl, inS 13 (by decide +kernel) rfl⟩
theorem lkX8_399 : LkV RX8 399 yX8_isSomeBelowEmpty := ⟨inT 573 (by decide +kernel) rfl, inT 575 (by decide +kernel) rfl, inS 14 (by decide +kernel) rfl⟩
theorem lkX8_402 : LkV RX8 402 yX8_liftOver := ⟨inT 577 (by decide +kernel) rfl, inT 579 (by decide +kernel) rfl, inS 15 (by decide +kernel) rfl⟩
theorem lkX8_405 : LkV RX8 405 yX8_isMisfit := ⟨inT 585 (by decide +kernel) rfl, inT 587 (by decide +kernel) rfl, inS 16 (by decide +kernel) rfl⟩
theorem maX8_408 : Cond.methodLink RX8 408 Lib.Math.abs.name ∈ TB := inT 581 (by decide +kernel) rfl
theorem lkX8_411 : LkV RX8 411 yX1_blockAt := ⟨inT 556 (by decide +kernel) rfl, inT 557 (by decide +kernel) rfl, inT 558 (by decide +kernel) rfl⟩
theorem lkX8_415 : LkV RX8 415 yX0_end := ⟨inT 592 (by decide +kernel) rfl, inT 593 (by decide +kernel) rfl, inT 594 (by decide +kernel) rfl⟩
theorem fgX8_418 : FG RX8 418 4 1 := ⟨_, _, _, _, _, ciX4, by decide, inT 613 (by decide +kernel) rfl⟩
theorem fgX8_419 : FG RX8 419 4 4 := ⟨_, _, _, _, _, ciX4, by decide, inT 622 (by decide +kernel) rfl⟩
theorem fpX8_419 : FP RX8 419 4 4 false (.int) := ⟨_, _, _, _, _, ciX4, by decide, inT 622 (by decide +kernel) rfl, rfl, rfl, fun z => nomatch z⟩
theorem lkX8_421 : LkV RX8 421 yX1_isFull := ⟨inT 210 (by decide +kernel) rfl, inT 211 (by decide +kernel) rfl, inT 212 (by decide +kernel) rfl⟩
theorem obX9_1 : Cond.methodLink RX9 1 Lib.objectInit ∈ TB := inT 847 (by decide +kernel) rfl
theorem fgX9_7 : FG RX9 7 9 0 := ⟨_, _, _, _, _, ciX9, by decide, inT 848 (by decide +kernel) rfl⟩
theorem fpX9_7 : FP RX9 7 9 0 false (.int) := ⟨_, _, _, _, _, ciX9, by decide, inT 848 (by decide +kernel) rfl, rfl, rfl, fun z => nomatch z⟩
theorem fgX9_13 : FG RX9 13 9 1 := ⟨_, _, _, _, _, ciX9, by decide, inT 849 (by decide +kernel) rfl⟩
theorem fpX9_13 : FP RX9 13 9 1 false (.int) := ⟨_, _, _, _, _, ciX9, by decide, inT 849 (by decide +kernel) rfl, rfl, rfl, fun z => nomatch z⟩
theorem fgX9_16 : FG RX9 16 9 3 := ⟨_, _, _, _, _, ciX9, by decide, inT 851 (by decide +kernel) rfl⟩
theorem fpX9_16 : FP RX9 16 9 3 false (.int) := ⟨_, _, _, _, _, ciX9, by decide, inT 851 (by decide +kernel) rfl, rfl, rfl, fun z => nomatch z⟩
theorem fgX9_19 : FG RX9 19 9 4 := ⟨_, _, _, _, _, ciX9, by decide, inT 852 (by decide +kernel) rfl⟩
theorem fpX9_19 : FP RX9 19 9 4 false (.int) := ⟨_, _, _, _, _, ciX9, by decide, inT 852 (by decide +kernel) rfl, rfl, rfl, fun z => nomatch z⟩
theorem fgX9_22 : FG RX9 22 9 5 := ⟨_, _, _, _, _, ciX9, by decide, inT 853 (by decide +kernel) rfl⟩
theorem fpX9_22 : FP RX9 22 9 5 true (.array .int) := ⟨_, _, _, _, _, ciX9, by decide, inT 853 (by decide +kernel) rfl, rfl, rfl, fun _ => rfl⟩
theorem fgX9_26 : FG RX9 26 9 9 := ⟨_, _, _, _, _, ciX9, by decide, inT 857 (by decide +kernel) rfl⟩
theorem fpX9_26 : FP RX9 26 9 9 true (.array .int) := ⟨_, _, _, _, _, ciX9, by decide, inT 857 (by decide +kernel) rfl, rfl, rfl, fun _ => rfl⟩
theorem fgX9_29 : FG RX9 29 9 10 := ⟨_, _, _, _, _, ciX9, by decide, inT 858 (by decide +kernel) rfl⟩
theorem fpX9_29 : FP RX9 29 9 10 true (.array .int) := ⟨_, _, _, _, _, ciX9, by decide, inT 858 (by decide +kernel) rfl, rfl, rfl, fun _ => rfl⟩
theorem fgX9_32 : FG RX9 32 9 11 := ⟨_, _, _, _, _, ciX9, by decide, inT 859 (by decide +kernel) rfl⟩
theorem fpX9_32 : FP RX9 32 9 11 true (.array .int) := ⟨_, _, _, _, _, ciX9, by decide, inT 859 (by decide +kernel) rfl, rfl, rfl, fun _ => rfl⟩
theorem fgX9_35 : FG RX9 35 9 12 := ⟨_, _, _, _, _, ciX9, by decide, inT 860 (by decide +kernel) rfl⟩
theorem fpX9_35 : FP RX9 35 9 12 true (.array .int) := ⟨_, _, _, _, _, ciX9, by decide, inT 860 (by decide +kernel) rfl, rfl, rfl, fun _ => rfl⟩
theorem fgX9_38 : FG RX9 38 9 13 := ⟨_, _, _, _, _, ciX9, by decide, inT 861 (by decide +kernel) rfl⟩
theorem fpX9_38 : FP RX9 38 9 13 true (.array .int) := ⟨_, _, _, _, _, ciX9, by decide, inT 861 (by decide +kernel) rfl, rfl, rfl, fun _ => rfl⟩
theorem fgX9_41 : FG RX9 41 9 14 := ⟨_, _, _, _, _, ciX9, by decide, inT 862 (by decide +kernel) rfl⟩
theorem fpX9_41 : FP RX9 41 9 14 true (.array .int) := ⟨_, _, _, _, _, ciX9, by decide, inT 862 (by decide +kernel) rfl, rfl, rfl, fun _ => rfl⟩
theorem fgX9_44 : FG RX9 44 9 15 := ⟨_, _, _, _, _, ciX9, by decide, inT 863 (by decide +kernel) rfl⟩
theorem fpX9_44 : FP RX9 44 9 15 true (.array .int) := ⟨_, _, _, _, _, ciX9, by decide, inT 863 (by decide +kernel) rfl, rfl, rfl, fun _ => rfl⟩
theorem fgX9_47 : FG RX9 47 9 16 := ⟨_, _, _, _, _, ciX9, by decide, inT 864 (by decide +kernel) rfl⟩
theorem fpX9_47 : FP RX9 47 9 16 true (.array .int) := ⟨_, _, _, _, _, ciX9, by decide, inT 864 (by decide +kernel) rfl, rfl, rfl, fun _ => rfl⟩
theorem fgX9_50 : FG RX9 50 9 17 := ⟨_, _, _, _, _, ciX9, by decide, inT 865 (by decide +kernel) rfl⟩
theorem fpX9_50 : FP RX9 50 9 17 true (.array .int) := ⟨_, _, _, _, _, ciX9, by decide, inT 865 (by decide +kernel) rfl, rfl, rfl, fun _ => rfl⟩
theorem fgX9_53 : FG RX9 53 9 19 := ⟨_, _, _, _, _, ciX9, by decide, inT 867 (by decide +kernel) rfl⟩
theorem fpX9_53 : FP RX9 53 9 19 true (.array .int) := ⟨_, _, _, _, _, ciX9, by decide, inT 867 (by decide +kernel) rfl, rfl, rfl, fun _ => rfl⟩
theorem fgX9_56 : FG RX9 56 9 20 := ⟨_, _, _, _, _, ciX9, by decide, inT 868 (by decide +kernel) rfl⟩
theorem fpX9_56 : FP RX9 56 9 20 true (.array .boolean) := ⟨_, _, _, _, _, ciX9, by decide, inT 868 (by decide +kernel) rfl, rfl, rfl, fun _ => rfl⟩
theorem fgX9_60 : FG RX9 60 9 21 := ⟨_, _, _, _, _, ciX9, by decide, inT 869 (by decide +kernel) rfl⟩
theorem fpX9_60 : FP RX9 60 9 21 true (.array .int) := ⟨_, _, _, _, _, ciX9, by decide, inT 869 (by decide +kernel) rfl, rfl, rfl, fun _ => rfl⟩
theorem fgX9_63 : FG RX9 63 9 22 := ⟨_, _, _, _, _, ciX9, by decide, inT 870 (by decide +kernel) rfl⟩
theorem fpX9_63 : FP RX9 63 9 22 true (.array .int) := ⟨_, _, _, _, _, ciX9, by decide, inT 870 (by decide +kernel) rfl, rfl, rfl, fun _ => rfl⟩
theorem fgX9_66 : FG RX9 66 9 23 := ⟨_, _, _, _, _, ciX9, by decide, inT 871 (by decide +kernel) rfl⟩
theorem fpX9_66 : FP RX9 66 9 23 true (.array .int) := ⟨_, _, _, _, _, ciX9, by decide, inT 871 (by decide +kernel) rfl, rfl, rfl, fun _ => rfl⟩
theorem fgX9_69 : FG RX9 69 9 24 := ⟨_, _, _, _, _, ciX9, by decide, inT 872 (by decide +kernel) rfl⟩
theorem fpX9_69 : FP RX9 69 9 24 true (.array .int) := ⟨_, _, _, _, _, ciX9, by decide, inT 872 (by decide +kernel) rfl, rfl, rfl, fun _ => rfl⟩
theorem fgX9_72 : FG RX9 72 9 25 := ⟨_, _, _, _, _, ciX9, by decide, inT 873 (by decide +kernel) rfl⟩
theorem fpX9_72 : FP RX9 72 9 25 true (.array .int) := ⟨_, _, _, _, _, ciX9, by decide, inT 873 (by decide +kernel) rfl, rfl, rfl, fun _ => rfl⟩
theorem fgX9_75 : FG RX9 75 9 26 := ⟨_, _, _, _, _, ciX9, by decide, inT 874 (by decide +kernel) rfl⟩
theorem fpX9_75 : FP RX9 75 9 26 true (.array .boolean) := ⟨_, _, _, _, _, ciX9, by decide, inT 874 (by decide +kernel) rfl, rfl, rfl, fun _ => rfl⟩
theorem fgX9_78 : FG RX9 78 9 27 := ⟨_, _, _, _, _, ciX9, by decide, inT 875 (by decide +kernel) rfl⟩
theorem fpX9_78 : FP RX9 78 9 27 true (.array .int) := ⟨_, _, _, _, _, ciX9, by decide, inT 875 (by decide +kernel) rfl, rfl, rfl, fun _ => rfl⟩
theorem fgX9_81 : FG RX9 81 9 28 := ⟨_, _, _, _, _, ciX9, by decide, inT 876 (by decide +kernel) rfl⟩
theorem fpX9_81 : FP RX9 81 9 28 true (.array .int) := ⟨_, _, _, _, _, ciX9, by decide, inT 876 (by decide +kernel) rfl, rfl, rfl, fun _ => rfl⟩
theorem fgX9_84 : FG RX9 84 9 29 := ⟨_, _, _, _, _, ciX9, by decide, inT 877 (by decide +kernel) rfl⟩
theorem fpX9_84 : FP RX9 84 9 29 true (.array .int) := ⟨_, _, _, _, _, ciX9, by decide, inT 877 (by decide +kernel) rfl, rfl, rfl, fun _ => rfl⟩
theorem fgX9_87 : FG RX9 87 9 31 := ⟨_, _, _, _, _, ciX9, by decide, inT 879 (by decide +kernel) rfl⟩
theorem fpX9_87 : FP RX9 87 9 31 true (.array .int) := ⟨_, _, _, _, _, ciX9, by decide, inT 879 (by decide +kernel) rfl, rfl, rfl, fun _ => rfl⟩
theorem fgX9_90 : FG RX9 90 9 32 := ⟨_, _, _, _, _, ciX9, by decide, inT 880 (by decide +kernel) rfl⟩
theorem fpX9_90 : FP RX9 90 9 32 true (.array .int) := ⟨_, _, _, _, _, ciX9, by decide, inT 880 (by decide +kernel) rfl, rfl, rfl, fun _ => rfl⟩
theorem fgX9_93 : FG RX9 93 9 33 := ⟨_, _, _, _, _, ciX9, by decide, inT 881 (by decide +kernel) rfl⟩
theorem fpX9_93 : FP RX9 93 9 33 true (.array .int) := ⟨_, _, _, _, _, ciX9, by decide, inT 881 (by decide +kernel) rfl, rfl, rfl, fun _ => rfl⟩
theorem fgX9_96 : FG RX9 96 9 34 := ⟨_, _, _, _, _, ciX9, by decide, inT 882 (by decide +kernel) rfl⟩
theorem fpX9_96 : FP RX9 96 9 34 false (.int) := ⟨_, _, _, _, _, ciX9, by decide, inT 882 (by decide +kernel) rfl, rfl, rfl, fun z => nomatch z⟩
theorem lkX9_99 : LkS RX9 99 yX9_isIn := ⟨inT 963 (by decide +kernel) rfl, inT 964 (by decide +kernel) rfl⟩
theorem fgX9_103 : FG RX9 103 9 8 := ⟨_, _, _, _, _, ciX9, by decide, inT 856 (by decide +kernel) rfl⟩
theorem fgX9_106 : FG RX9 106 9 18 := ⟨_, _, _, _, _, ciX9, by decide, inT 866 (by decide +kernel) rfl⟩
theorem lkX9_109 : LkV RX9 109 yX9_fails := ⟨inT 966 (by decide +kernel) rfl, inT 968 (by decide +kernel) rfl, inS 25 (by decide +kernel) rfl⟩
theorem lkX9_113 : LkS RX9 113 yX9_isFrame := ⟨inT 974 (by decide +kernel) rfl, inT 975 (by decide +kernel) rfl⟩
theorem fgX9_116 : FG RX9 116 9 2 := ⟨_, _, _, _, _, ciX9, by decide, inT 850 (by decide +kernel) rfl⟩
theorem fpX9_116 : FP RX9 116 9 2 false (.int) := ⟨_, _, _, _, _, ciX9, by decide, inT 850 (by decide +kernel) rfl, rfl, rfl, fun z => nomatch z⟩
theorem lkX9_119 : LkS RX9 119 yX9_isWelder := ⟨inT 981 (by decide +kernel) rfl, inT 982 (by decide +kernel) rfl⟩
theorem fpX9_103 : FP RX9 103 9 8 false (.int) := ⟨_, _, _, _, _, ciX9, by decide, inT 856 (by decide +kernel) rfl, rfl, rfl, fun z => nomatch z⟩
theorem lkX9_122 : LkS RX9 122 yX9_isLevel := ⟨inT 992 (by decide +kernel) rfl, inT 993 (by decide +kernel) rfl⟩
theorem fgX9_125 : FG RX9 125 9 6 := ⟨_, _, _, _, _, ciX9, by decide, inT 854 (by decide +kernel) rfl⟩
theorem lkX9_129 : LkV RX9 129 yX9_adds := ⟨inT 995 (by decide +kernel) rfl, inT 997 (by decide +kernel) rfl, inS 26 (by decide +kernel) rfl⟩
theorem lcX9_133 : Cond.constant RX9 133 1103515245 ∈ TB := inT 1019 (by decide +kernel) rfl
theorem fpX9_106 : FP RX9 106 9 18 false (.int) := ⟨_, _, _, _, _, ciX9, by decide, inT 866 (by decide +kernel) rfl, rfl, rfl, fun z => nomatch z⟩
theorem fgX9_134 : FG RX9 134 9 7 := ⟨_, _, _, _, _, ciX9, by decide, inT 855 (by decide +kernel) rfl⟩
theorem fpX9_134 : FP RX9 134 9 7 false (.int) := ⟨_, _, _, _, _, ciX9, by decide, inT 855 (by decide +kernel) rfl, rfl, rfl, fun z => nomatch z⟩
theorem lkX9_137 : LkV RX9 137 yX9_draws := ⟨inT 1015 (by decide +kernel) rfl, inT 1017 (by decide +kernel) rfl, inS 30 (by decide +kernel) rfl⟩
theorem lkX9_141 : LkV RX9 141 yX9_isBlock := ⟨inT 1003 (by decide +kernel) rfl, inT 1005 (by decide +kernel) rfl, inS 27 (by decide +kernel) rfl⟩
theorem lkX9_144 : LkV RX9 144 yX9_canJoin := ⟨inT 1007 (by decide +kernel) rfl, inT 1009 (by decide +kernel) rfl, inS 28 (by decide +kernel) rfl⟩
theorem lkX9_148 : LkV RX9 148 yX9_makes := ⟨inT 1011 (by decide +kernel) rfl, inT 1013 (by decide +kernel) rfl, inS 29 (by decide +kernel) rfl⟩
theorem lkX9_152 : LkV RX9 152 yX9_endOf := ⟨inT 1036 (by decide +kernel) rfl, inT 1038 (by decide +kernel) rfl, inS 34 (by decide +kernel) rfl⟩
theorem lkX9_156 : LkV RX9 156 yX9_blockAt := ⟨inT 1024 (by decide +kernel) rfl, inT 1026 (by decide +kernel) rfl, inS 31 (by decide +kernel) rfl⟩
theorem lkX9_160 : LkV RX9 160 yX9_space := ⟨inT 1032 (by decide +kernel) rfl, inT 1034 (by decide +kernel) rfl, inS 33 (by decide +kernel) rfl⟩
theorem lkX9_163 : LkV RX9 163 yX9_reason := ⟨inT 1028 (by decide +kernel) rfl, inT 1030 (by decide +kernel) rfl, inS 32 (by decide +kernel) rfl⟩
theorem lkX9_166 : LkV RX9 166 yX9_spoils := ⟨inT 1040 (by decide +kernel) rfl, inT 1042 (by decide +kernel) rfl, inS 35 (by decide +kernel) rfl⟩
theorem lkX9_169 : LkV RX9 169 yX9_whole := ⟨inT 1048 (by decide +kernel) rfl, inT 1050 (by decide +kernel) rfl, inS 36 (by decide +kernel) rfl⟩
theorem lkX9_172 : LkV RX9 172 yX9_isWeld := ⟨inT 1056 (by decide +kernel) rfl, inT 1058 (by decide +kernel) rfl, inS 37 (by decide +kernel) rfl⟩
theorem lkX9_175 : LkV RX9 175 yX9_isScrapped := ⟨inT 1060 (by decide +kernel) rfl, inT 1062 (by decide +kernel) rfl, inS 38 (by decide +kernel) rfl⟩
theorem lkX9_178 : LkV RX9 178 yX9_stands := ⟨inT 1068 (by decide +kernel) rfl, inT 1070 (by decide +kernel) rfl, inS 39 (by decide +kernel) rfl⟩
theorem lkX9_181 : LkV RX9 181 yX9_isRoom := ⟨inT 1076 (by decide +kernel) rfl, inT 1078 (by decide +kernel) rfl, inS 40 (by decide +kernel) rfl⟩
theorem lkX9_184 : LkV RX9 184 yX9_beyond := ⟨inT 1096 (by decide +kernel) rfl, inT 1098 (by decide +kernel) rfl, inS 42 (by decide +kernel) rfl⟩
theorem lkX9_187 : LkV RX9 187 yX9_ways := ⟨inT 1092 (by decide +kernel) rfl, inT 1094 (by decide +kernel) rfl, inS 41 (by decide +kernel) rfl⟩
theorem fgX9_191 : FG RX9 191 9 30 := ⟨_, _, _, _, _, ciX9, by decide, inT 878 (by decide +kernel) rfl⟩
theorem lkX9_194 : LkV RX9 194 yX9_nearer := ⟨inT 1100 (by decide +kernel) rfl, inT 1102 (by decide +kernel) rfl, inS 43 (by decide +kernel) rfl⟩
theorem fpX9_191 : FP RX9 191 9 30 false (.int) := ⟨_, _, _, _, _, ciX9, by decide, inT 878 (by decide +kernel) rfl, rfl, rfl, fun z => nomatch z⟩
theorem lkX9_197 : LkV RX9 197 yX9_tonsOf := ⟨inT 1124 (by decide +kernel) rfl, inT 1126 (by decide +kernel) rfl, inS 48 (by decide +kernel) rfl⟩
theorem lkX9_201 : LkV RX9 201 yX9_centreOf := ⟨inT 1128 (by decide +kernel) rfl, inT 1130 (by decide +kernel) rfl, inS 49 (by decide +kernel) rfl⟩
theorem lkX9_204 : LkV RX9 204 yX9_draughtOf := ⟨inT 1120 (by decide +kernel) rfl, inT 1122 (by decide +kernel) rfl, inS 47 (by decide +kernel) rfl⟩
theorem lkX9_208 : LkV RX9 208 yX9_isWhole := ⟨inT 1112 (by decide +kernel) rfl, inT 1114 (by decide +kernel) rfl, inS 45 (by decide +kernel) rfl⟩
theorem lkX9_212 : LkV RX9 212 yX9_greater := ⟨inT 1116 (by decide +kernel) rfl, inT 1118 (by decide +kernel) rfl, inS 46 (by decide +kernel) rfl⟩
theorem lkX9_215 : LkS RX9 215 yX9_waterIn := ⟨inT 1132 (by decide +kernel) rfl, inT 1133 (by decide +kernel) rfl⟩
theorem lkX9_218 : LkV RX9 218 yX9_canLaunch := ⟨inT 1108 (by decide +kernel) rfl, inT 1110 (by decide +kernel) rfl, inS 44 (by decide +kernel) rfl⟩
theorem fpX9_125 : FP RX9 125 9 6 false (.boolean) := ⟨_, _, _, _, _, ciX9, by decide, inT 854 (by decide +kernel) rfl, rfl, rfl, fun z => nomatch z⟩
theorem lkX9_221 : LkV RX9 221 yX9_tells := ⟨inT 1139 (by decide +kernel) rfl, inT 1141 (by decide +kernel) rfl, inS 50 (by decide +kernel) rfl⟩
theorem lkL_7 : LkV RL 7 yX8_hall := ⟨inT 252 (by decide +kernel) rfl, inT 253 (by decide +kernel) rfl, inT 254 (by decide +kernel) rfl⟩
theorem lkL_15 : LkV RL 15 yX8_crane := ⟨inT 331 (by decide +kernel) rfl, inT 332 (by decide +kernel) rfl, inT 333 (by decide +kernel) rfl⟩
theorem lkL_20 : LkV RL 20 yX8_welder := ⟨inT 358 (by decide +kernel) rfl, inT 359 (by decide +kernel) rfl, inT 360 (by decide +kernel) rfl⟩
theorem lkL_23 : LkV RL 23 yX8_block := ⟨inT 368 (by decide +kernel) rfl, inT 369 (by decide +kernel) rfl, inT 370 (by decide +kernel) rfl⟩
theorem lkL_29 : LkV RL 29 yX8_join := ⟨inT 454 (by decide +kernel) rfl, inT 455 (by decide +kernel) rfl, inT 456 (by decide +kernel) rfl⟩
theorem lkL_33 : LkV RL 33 yX8_erect := ⟨inT 548 (by decide +kernel) rfl, inT 549 (by decide +kernel) rfl, inT 550 (by decide +kernel) rfl⟩
theorem lkL_36 : LkV RL 36 yX8_scrap := ⟨inT 650 (by decide +kernel) rfl, inT 651 (by decide +kernel) rfl, inT 652 (by decide +kernel) rfl⟩
theorem lkL_40 : LkV RL 40 yX8_test := ⟨inT 660 (by decide +kernel) rfl, inT 661 (by decide +kernel) rfl, inT 662 (by decide +kernel) rfl⟩
theorem lkL_43 : LkV RL 43 yX8_repair := ⟨inT 677 (by decide +kernel) rfl, inT 678 (by decide +kernel) rfl, inT 679 (by decide +kernel) rfl⟩
theorem lkL_46 : LkV RL 46 yX8_hole := ⟨inT 686 (by decide +kernel) rfl, inT 687 (by decide +kernel) rfl, inT 688 (by decide +kernel) rfl⟩
theorem lkL_50 : LkV RL 50 yX8_paint := ⟨inT 701 (by decide +kernel) rfl, inT 702 (by decide +kernel) rfl, inT 703 (by decide +kernel) rfl⟩
theorem lkL_53 : LkV RL 53 yX8_fit := ⟨inT 713 (by decide +kernel) rfl, inT 714 (by decide +kernel) rfl, inT 715 (by decide +kernel) rfl⟩
theorem lkL_56 : LkV RL 56 yX8_pipe := ⟨inT 722 (by decide +kernel) rfl, inT 723 (by decide +kernel) rfl, inT 724 (by decide +kernel) rfl⟩
theorem lkL_59 : LkV RL 59 yX8_launch := ⟨inT 779 (by decide +kernel) rfl, inT 780 (by decide +kernel) rfl, inT 781 (by decide +kernel) rfl⟩
theorem lkL_62 : LkV RL 62 yX8_whyNot := ⟨inT 788 (by decide +kernel) rfl, inT 789 (by decide +kernel) rfl, inT 790 (by decide +kernel) rfl⟩
theorem lkL_65 : LkV RL 65 yX8_told := ⟨inT 795 (by decide +kernel) rfl, inT 796 (by decide +kernel) rfl, inT 797 (by decide +kernel) rfl⟩
theorem lkL_68 : LkV RL 68 yX8_weld := ⟨inT 807 (by decide +kernel) rfl, inT 808 (by decide +kernel) rfl, inT 809 (by decide +kernel) rfl⟩
theorem lkL_71 : LkV RL 71 yX8_cell := ⟨inT 818 (by decide +kernel) rfl, inT 819 (by decide +kernel) rfl, inT 820 (by decide +kernel) rfl⟩
theorem lkL_74 : LkV RL 74 yX8_roomAt := ⟨inT 830 (by decide +kernel) rfl, inT 831 (by decide +kernel) rfl, inT 832 (by decide +kernel) rfl⟩
theorem lkL_77 : LkV RL 77 yX8_water := ⟨inT 838 (by decide +kernel) rfl, inT 839 (by decide +kernel) rfl, inT 840 (by decide +kernel) rfl⟩
theorem nwL_8 : Cond.classLink RL 8 RX8 ∈ TB := inT 19 (by decide +kernel) rfl
theorem lkL_80 : LkI RL 80 yX8_init := ⟨inT 21 (by decide +kernel) rfl, inT 22 (by decide +kernel) rfl, rfl⟩
theorem nwL_81 : Cond.classLink RL 81 RX9 ∈ TB := inT 842 (by decide +kernel) rfl
theorem lkL_83 : LkI RL 83 yX9_init := ⟨inT 844 (by decide +kernel) rfl, inT 845 (by decide +kernel) rfl, rfl⟩
theorem lkL_84 : LkS RL 84 yL_hall := ⟨inT 248 (by decide +kernel) rfl, inT 249 (by decide +kernel) rfl⟩
theorem lkL_89 : LkV RL 89 yX9_hall := ⟨inT 959 (by decide +kernel) rfl, inT 960 (by decide +kernel) rfl, inT 961 (by decide +kernel) rfl⟩
theorem lkL_90 : LkV RL 90 yX9_thrown := ⟨inT 955 (by decide +kernel) rfl, inT 956 (by decide +kernel) rfl, inT 957 (by decide +kernel) rfl⟩
theorem lkL_94 : LkS RL 94 yL_crane := ⟨inT 327 (by decide +kernel) rfl, inT 328 (by decide +kernel) rfl⟩
theorem lkL_96 : LkV RL 96 yX9_crane := ⟨inT 970 (by decide +kernel) rfl, inT 971 (by decide +kernel) rfl, inT 972 (by decide +kernel) rfl⟩
theorem lkL_97 : LkS RL 97 yL_welder := ⟨inT 355 (by decide +kernel) rfl, inT 356 (by decide +kernel) rfl⟩
theorem lkL_99 : LkV RL 99 yX9_welder := ⟨inT 977 (by decide +kernel) rfl, inT 978 (by decide +kernel) rfl, inT 979 (by decide +kernel) rfl⟩
theorem lkL_100 : LkV RL 100 yX8_draw := ⟨inT 145 (by decide +kernel) rfl, inT 146 (by decide +kernel) rfl, inT 147 (by decide +kernel) rfl⟩
theorem lkL_103 : LkV RL 103 yX9_draw := ⟨inT 984 (by decide +kernel) rfl, inT 985 (by decide +kernel) rfl, inT 986 (by decide +kernel) rfl⟩
theorem lkL_104 : LkS RL 104 yL_block := ⟨inT 364 (by decide +kernel) rfl, inT 365 (by decide +kernel) rfl⟩
theorem lkL_107 : LkV RL 107 yX9_block := ⟨inT 988 (by decide +kernel) rfl, inT 989 (by decide +kernel) rfl, inT 990 (by decide +kernel) rfl⟩
theorem lkL_108 : LkS RL 108 yL_join := ⟨inT 451 (by decide +kernel) rfl, inT 452 (by decide +kernel) rfl⟩
theorem lkL_111 : LkV RL 111 yX9_join := ⟨inT 999 (by decide +kernel) rfl, inT 1000 (by decide +kernel) rfl, inT 1001 (by decide +kernel) rfl⟩
theorem lkL_112 : LkS RL 112 yL_erect := ⟨inT 545 (by decide +kernel) rfl, inT 546 (by decide +kernel) rfl⟩
theorem lkL_114 : LkV RL 114 yX9_erect := ⟨inT 1020 (by decide +kernel) rfl, inT 1021 (by decide +kernel) rfl, inT 1022 (by decide +kernel) rfl⟩
theorem lkL_115 : LkS RL 115 yL_scrap := ⟨inT 647 (by decide +kernel) rfl, inT 648 (by decide +kernel) rfl⟩
theorem lkL_118 : LkV RL 118 yX9_scrap := ⟨inT 1044 (by decide +kernel) rfl, inT 1045 (by decide +kernel) rfl, inT 1046 (by decide +kernel) rfl⟩
theorem lkL_119 : LkS RL 119 yL_test := ⟨inT 657 (by decide +kernel) rfl, inT 658 (by decide +kernel) rfl⟩
theorem lkL_121 : LkV RL 121 yX9_test := ⟨inT 1052 (by decide +kernel) rfl, inT 1053 (by decide +kernel) rfl, inT 1054 (by decide +kernel) rfl⟩
theorem lkL_122 : LkS RL 122 yL_repair := ⟨inT 674 (by decide +kernel) rfl, inT 675 (by decide +kernel) rfl⟩
theorem lkL_124 : LkV RL 124 yX9_repair := ⟨inT 1064 (by decide +kernel) rfl, inT 1065 (by decide +kernel) rfl, inT 1066 (by decide +kernel) rfl⟩
theorem lkL_125 : LkS RL 125 yL_hole := ⟨inT 683 (by decide +kernel) rfl, inT 684 (by decide +kernel) rfl⟩
theorem lkL_128 : LkV RL 128 yX9_hole := ⟨inT 1072 (by decide +kernel) rfl, inT 1073 (by decide +kernel) rfl, inT 1074 (by decide +kernel) rfl⟩
theorem lkL_129 : LkS RL 129 yL_paint := ⟨inT 698 (by decide +kernel) rfl, inT 699 (by decide +kernel) rfl⟩
theorem lkL_131 : LkV RL 131 yX9_paint := ⟨inT 1080 (by decide +kernel) rfl, inT 1081 (by decide +kernel) rfl, inT 1082 (by decide +kernel) rfl⟩
theorem lkL_132 : LkS RL 132 yL_fit := ⟨inT 710 (by decide +kernel) rfl, inT 711 (by decide +kernel) rfl⟩
theorem lkL_134 : LkV RL 134 yX9_fit := ⟨inT 1084 (by decide +kernel) rfl, inT 1085 (by decide +kernel) rfl, inT 1086 (by decide +kernel) rfl⟩
theorem lkL_135 : LkS RL 135 yL_pipe := ⟨inT 719 (by decide +kernel) rfl, inT 720 (by decide +kernel) rfl⟩
theorem lkL_137 : LkV RL 137 yX9_pipe := ⟨inT 1088 (by decide +kernel) rfl, inT 1089 (by decide +kernel) rfl, inT 1090 (by decide +kernel) rfl⟩
theorem lkL_138 : LkS RL 138 yL_launch := ⟨inT 776 (by decide +kernel) rfl, inT 777 (by decide +kernel) rfl⟩
theorem lkL_140 : LkV RL 140 yX9_launch := ⟨inT 1104 (by decide +kernel) rfl, inT 1105 (by decide +kernel) rfl, inT 1106 (by decide +kernel) rfl⟩
theorem lkL_141 : LkV RL 141 yX8_blocks := ⟨inT 149 (by decide +kernel) rfl, inT 150 (by decide +kernel) rfl, inT 151 (by decide +kernel) rfl⟩
theorem lkL_144 : LkV RL 144 yX9_blocks := ⟨inT 1135 (by decide +kernel) rfl, inT 1136 (by decide +kernel) rfl, inT 1137 (by decide +kernel) rfl⟩
theorem lkL_145 : LkV RL 145 yX8_welds := ⟨inT 153 (by decide +kernel) rfl, inT 154 (by decide +kernel) rfl, inT 155 (by decide +kernel) rfl⟩
theorem lkL_148 : LkV RL 148 yX9_welds := ⟨inT 1143 (by decide +kernel) rfl, inT 1144 (by decide +kernel) rfl, inT 1145 (by decide +kernel) rfl⟩
theorem lkL_149 : LkV RL 149 yX8_isAfloat := ⟨inT 157 (by decide +kernel) rfl, inT 158 (by decide +kernel) rfl, inT 159 (by decide +kernel) rfl⟩
theorem lkL_153 : LkV RL 153 yX9_isAfloat := ⟨inT 1147 (by decide +kernel) rfl, inT 1148 (by decide +kernel) rfl, inT 1149 (by decide +kernel) rfl⟩
theorem lkL_154 : LkS RL 154 yL_whyNot := ⟨inT 785 (by decide +kernel) rfl, inT 786 (by decide +kernel) rfl⟩
theorem lkL_156 : LkV RL 156 yX9_whyNot := ⟨inT 1151 (by decide +kernel) rfl, inT 1152 (by decide +kernel) rfl, inT 1153 (by decide +kernel) rfl⟩
theorem lkL_157 : LkS RL 157 yL_told := ⟨inT 792 (by decide +kernel) rfl, inT 793 (by decide +kernel) rfl⟩
theorem lkL_159 : LkV RL 159 yX9_told := ⟨inT 1155 (by decide +kernel) rfl, inT 1156 (by decide +kernel) rfl, inT 1157 (by decide +kernel) rfl⟩
theorem lkL_160 : LkS RL 160 yL_weld := ⟨inT 804 (by decide +kernel) rfl, inT 805 (by decide +kernel) rfl⟩
theorem lkL_162 : LkV RL 162 yX9_weld := ⟨inT 1159 (by decide +kernel) rfl, inT 1160 (by decide +kernel) rfl, inT 1161 (by decide +kernel) rfl⟩
theorem lkL_163 : LkS RL 163 yL_cell := ⟨inT 815 (by decide +kernel) rfl, inT 816 (by decide +kernel) rfl⟩
theorem lkL_165 : LkV RL 165 yX9_cell := ⟨inT 1163 (by decide +kernel) rfl, inT 1164 (by decide +kernel) rfl, inT 1165 (by decide +kernel) rfl⟩
theorem lkL_166 : LkS RL 166 yL_roomAt := ⟨inT 827 (by decide +kernel) rfl, inT 828 (by decide +kernel) rfl⟩
theorem lkL_168 : LkV RL 168 yX9_roomAt := ⟨inT 1167 (by decide +kernel) rfl, inT 1168 (by decide +kernel) rfl, inT 1169 (by decide +kernel) rfl⟩
theorem lkL_169 : LkV RL 169 yX8_tons := ⟨inT 161 (by decide +kernel) rfl, inT 162 (by decide +kernel) rfl, inT 163 (by decide +kernel) rfl⟩
theorem lkL_172 : LkV RL 172 yX9_tons := ⟨inT 1171 (by decide +kernel) rfl, inT 1172 (by decide +kernel) rfl, inT 1173 (by decide +kernel) rfl⟩
theorem lkL_173 : LkV RL 173 yX8_tonsAnew := ⟨inT 165 (by decide +kernel) rfl, inT 166 (by decide +kernel) rfl, inT 167 (by decide +kernel) rfl⟩
theorem lkL_176 : LkV RL 176 yX9_tonsAnew := ⟨inT 1175 (by decide +kernel) rfl, inT 1176 (by decide +kernel) rfl, inT 1177 (by decide +kernel) rfl⟩
theorem lkL_177 : LkV RL 177 yX8_centre := ⟨inT 185 (by decide +kernel) rfl, inT 186 (by decide +kernel) rfl, inT 187 (by decide +kernel) rfl⟩
theorem lkL_180 : LkV RL 180 yX9_centre := ⟨inT 1179 (by decide +kernel) rfl, inT 1180 (by decide +kernel) rfl, inT 1181 (by decide +kernel) rfl⟩
theorem lkL_181 : LkV RL 181 yX8_draught := ⟨inT 193 (by decide +kernel) rfl, inT 194 (by decide +kernel) rfl, inT 195 (by decide +kernel) rfl⟩
theorem lkL_185 : LkV RL 185 yX9_draught := ⟨inT 1183 (by decide +kernel) rfl, inT 1184 (by decide +kernel) rfl, inT 1185 (by decide +kernel) rfl⟩
theorem lkL_186 : LkS RL 186 yL_water := ⟨inT 835 (by decide +kernel) rfl, inT 836 (by decide +kernel) rfl⟩
theorem lkL_188 : LkV RL 188 yX9_water := ⟨inT 1187 (by decide +kernel) rfl, inT 1188 (by decide +kernel) rfl, inT 1189 (by decide +kernel) rfl⟩
theorem lkL_189 : LkV RL 189 yX8_firstHour := ⟨inT 202 (by decide +kernel) rfl, inT 203 (by decide +kernel) rfl, inT 204 (by decide +kernel) rfl⟩
theorem lkL_192 : LkV RL 192 yX9_firstHour := ⟨inT 1191 (by decide +kernel) rfl, inT 1192 (by decide +kernel) rfl, inT 1193 (by decide +kernel) rfl⟩
theorem lkL_193 : LkV RL 193 yX8_money := ⟨inT 236 (by decide +kernel) rfl, inT 237 (by decide +kernel) rfl, inT 238 (by decide +kernel) rfl⟩
theorem lkL_196 : LkV RL 196 yX9_money := ⟨inT 1195 (by decide +kernel) rfl, inT 1196 (by decide +kernel) rfl, inT 1197 (by decide +kernel) rfl⟩
theorem lkL_197 : LkV RL 197 yX8_moneyAnew := ⟨inT 240 (by decide +kernel) rfl, inT 241 (by decide +kernel) rfl, inT 242 (by decide +kernel) rfl⟩
theorem lkL_200 : LkV RL 200 yX9_moneyAnew := ⟨inT 1199 (by decide +kernel) rfl, inT 1200 (by decide +kernel) rfl, inT 1201 (by decide +kernel) rfl⟩
theorem isX0 : Cond.instantiable RX0 10 ∈ TB := inT 394 (by decide +kernel) rfl
theorem itX0 : Cond.initialized RX0 ∈ TB := inT 14 (by decide +kernel) rfl
theorem isX1 : Cond.instantiable RX1 3 ∈ TB := inT 34 (by decide +kernel) rfl
theorem itX1 : Cond.initialized RX1 ∈ TB := inT 2 (by decide +kernel) rfl
theorem isX2 : Cond.instantiable RX2 3 ∈ TB := inT 83 (by decide +kernel) rfl
theorem itX2 : Cond.initialized RX2 ∈ TB := inT 6 (by decide +kernel) rfl
theorem isX3 : Cond.instantiable RX3 1 ∈ TB := inT 762 (by decide +kernel) rfl
theorem itX3 : Cond.initialized RX3 ∈ TB := inT 18 (by decide +kernel) rfl
theorem isX4 : Cond.instantiable RX4 7 ∈ TB := inT 604 (by decide +kernel) rfl
theorem itX4 : Cond.initialized RX4 ∈ TB := inT 17 (by decide +kernel) rfl
theorem isX5 : Cond.instantiable RX5 1 ∈ TB := inT 54 (by decide +kernel) rfl
theorem itX5 : Cond.initialized RX5 ∈ TB := inT 3 (by decide +kernel) rfl
theorem isX6 : Cond.instantiable RX6 5 ∈ TB := inT 487 (by decide +kernel) rfl
theorem itX6 : Cond.initialized RX6 ∈ TB := inT 15 (by decide +kernel) rfl
theorem isX7 : Cond.instantiable RX7 2 ∈ TB := inT 64 (by decide +kernel) rfl
theorem itX7 : Cond.initialized RX7 ∈ TB := inT 4 (by decide +kernel) rfl
theorem isX8 : Cond.instantiable RX8 15 ∈ TB := inT 20 (by decide +kernel) rfl
theorem itX8 : Cond.initialized RX8 ∈ TB := inT 1 (by decide +kernel) rfl
theorem isX9 : Cond.instantiable RX9 35 ∈ TB := inT 843 (by decide +kernel) rfl
theorem itX9 : Cond.initialized RX9 ∈ TB := inT 7 (by decide +kernel) rfl
theorem ac_int : Cond.arrayClass .int ∈ TB := inT 81 (by decide +kernel) rfl
theorem ac_boolean : Cond.arrayClass .boolean ∈ TB := inT 954 (by decide +kernel) rfl
theorem ac_long : Cond.arrayClass .long ∈ TB := inT 1203 (by decide +kernel) rfl
theorem ob_i : Cond.instanceMethod Lib.objectInit ∈ TB := inT 25 (by decide +kernel) rfl
theorem ob_c : Cond.code Lib.objectInit ⟨#[0xb1]⟩ 1 none ∈ TB := inT 26 (by decide +kernel) rfl
theorem ma_c_max : Cond.code Lib.Math.max.name Lib.Math.max.code 2 (some .int) ∈ TB := inT 229 (by decide +kernel) rfl
theorem ma_s_max : Cond.static Lib.Math.max.name ∈ TB := inT 228 (by decide +kernel) rfl
theorem ma_c_abs : Cond.code Lib.Math.abs.name Lib.Math.abs.code 1 (some .int) ∈ TB := inT 583 (by decide +kernel) rfl
theorem ma_s_abs : Cond.static Lib.Math.abs.name ∈ TB := inT 582 (by decide +kernel) rfl
theorem ma_i : Cond.initialized "java/lang/Math" ∈ TB := inT 16 (by decide +kernel) rfl
theorem taX8_128 : ∀ t ∈ vx_atS RX8 128 "java/lang/IllegalStateException" exN, t ∈ TB ∨ t ∈ NWl := by decide +kernel
theorem toX8_128 : ∀ t ∈ Cond.classLink RX8 124 "java/lang/IllegalStateException" :: Cond.initialized "java/lang/IllegalStateException" :: vx_atS RX8 128 "java/lang/IllegalStateException" exN, vx_ot t = true := by decide +kernel
theorem thX8_126 : TH RX8 "java/lang/IllegalStateException" 124 126 128 := ⟨by decide +kernel, inT 378 (by decide +kernel) rfl, inT 13 (by decide +kernel) rfl, ⟨_, List.mem_of_getElem? (i := 7) rfl⟩, taX8_128, toX8_128⟩
theorem thX8_152 : TH RX8 "java/lang/IllegalStateException" 124 152 128 := ⟨by decide +kernel, inT 378 (by decide +kernel) rfl, inT 13 (by decide +kernel) rfl, ⟨_, List.mem_of_getElem? (i := 9) rfl⟩, taX8_128, toX8_128⟩
theorem thX8_191 : TH RX8 "java/lang/IllegalStateException" 124 191 128 := ⟨by decide +kernel, inT 378 (by decide +kernel) rfl, inT 13 (by decide +kernel) rfl, ⟨_, List.mem_of_getElem? (i := 10) rfl⟩, taX8_128, toX8_128⟩
theorem thX8_226 : TH RX8 "java/lang/IllegalStateException" 124 226 128 := ⟨by decide +kernel, inT 378 (by decide +kernel) rfl, inT 13 (by decide +kernel) rfl, ⟨_, List.mem_of_getElem? (i := 12) rfl⟩, taX8_128, toX8_128⟩
theorem thX8_244 : TH RX8 "java/lang/IllegalStateException" 124 244 128 := ⟨by decide +kernel, inT 378 (by decide +kernel) rfl, inT 13 (by decide +kernel) rfl, ⟨_, List.mem_of_getElem? (i := 14) rfl⟩, taX8_128, toX8_128⟩
theorem thX8_254 : TH RX8 "java/lang/IllegalStateException" 124 254 128 := ⟨by decide +kernel, inT 378 (by decide +kernel) rfl, inT 13 (by decide +kernel) rfl, ⟨_, List.mem_of_getElem? (i := 16) rfl⟩, taX8_128, toX8_128⟩
theorem thX8_275 : TH RX8 "java/lang/IllegalStateException" 124 275 128 := ⟨by decide +kernel, inT 378 (by decide +kernel) rfl, inT 13 (by decide +kernel) rfl, ⟨_, List.mem_of_getElem? (i := 18) rfl⟩, taX8_128, toX8_128⟩
theorem thX8_283 : TH RX8 "java/lang/IllegalStateException" 124 283 128 := ⟨by decide +kernel, inT 378 (by decide +kernel) rfl, inT 13 (by decide +kernel) rfl, ⟨_, List.mem_of_getElem? (i := 19) rfl⟩, taX8_128, toX8_128⟩
theorem thX8_291 : TH RX8 "java/lang/IllegalStateException" 124 291 128 := ⟨by decide +kernel, inT 378 (by decide +kernel) rfl, inT 13 (by decide +kernel) rfl, ⟨_, List.mem_of_getElem? (i := 20) rfl⟩, taX8_128, toX8_128⟩
theorem thX8_302 : TH RX8 "java/lang/IllegalStateException" 124 302 128 := ⟨by decide +kernel, inT 378 (by decide +kernel) rfl, inT 13 (by decide +kernel) rfl, ⟨_, List.mem_of_getElem? (i := 22) rfl⟩, taX8_128, toX8_128⟩
theorem thX8_308 : TH RX8 "java/lang/IllegalStateException" 124 308 128 := ⟨by decide +kernel, inT 378 (by decide +kernel) rfl, inT 13 (by decide +kernel) rfl, ⟨_, List.mem_of_getElem? (i := 23) rfl⟩, taX8_128, toX8_128⟩
theorem thX8_328 : TH RX8 "java/lang/IllegalStateException" 124 328 128 := ⟨by decide +kernel, inT 378 (by decide +kernel) rfl, inT 13 (by decide +kernel) rfl, ⟨_, List.mem_of_getElem? (i := 25) rfl⟩, taX8_128, toX8_128⟩
theorem taX8_91 : ∀ t ∈ vx_atS RX8 91 "java/lang/IllegalArgumentException" exN, t ∈ TB ∨ t ∈ NWl := by decide +kernel
theorem toX8_91 : ∀ t ∈ Cond.classLink RX8 87 "java/lang/IllegalArgumentException" :: Cond.initialized "java/lang/IllegalArgumentException" :: vx_atS RX8 91 "java/lang/IllegalArgumentException" exN, vx_ot t = true := by decide +kernel
theorem thX8_103 : TH RX8 "java/lang/IllegalArgumentException" 87 103 91 := ⟨by decide +kernel, inT 259 (by decide +kernel) rfl, inT 11 (by decide +kernel) rfl, ⟨_, List.mem_of_getElem? (i := 2) rfl⟩, taX8_91, toX8_91⟩
theorem thX8_111 : TH RX8 "java/lang/IllegalArgumentException" 87 111 91 := ⟨by decide +kernel, inT 259 (by decide +kernel) rfl, inT 11 (by decide +kernel) rfl, ⟨_, List.mem_of_getElem? (i := 4) rfl⟩, taX8_91, toX8_91⟩
theorem thX8_118 : TH RX8 "java/lang/IllegalArgumentException" 87 118 91 := ⟨by decide +kernel, inT 259 (by decide +kernel) rfl, inT 11 (by decide +kernel) rfl, ⟨_, List.mem_of_getElem? (i := 6) rfl⟩, taX8_91, toX8_91⟩
theorem thX8_300 : TH RX8 "java/lang/IllegalArgumentException" 87 300 91 := ⟨by decide +kernel, inT 259 (by decide +kernel) rfl, inT 11 (by decide +kernel) rfl, ⟨_, List.mem_of_getElem? (i := 21) rfl⟩, taX8_91, toX8_91⟩
theorem thX8_316 : TH RX8 "java/lang/IllegalArgumentException" 87 316 91 := ⟨by decide +kernel, inT 259 (by decide +kernel) rfl, inT 11 (by decide +kernel) rfl, ⟨_, List.mem_of_getElem? (i := 24) rfl⟩, taX8_91, toX8_91⟩
theorem thX8_330 : TH RX8 "java/lang/IllegalArgumentException" 87 330 91 := ⟨by decide +kernel, inT 259 (by decide +kernel) rfl, inT 11 (by decide +kernel) rfl, ⟨_, List.mem_of_getElem? (i := 26) rfl⟩, taX8_91, toX8_91⟩
theorem thX8_89 : TH RX8 "java/lang/IllegalArgumentException" 87 89 91 := ⟨by decide +kernel, inT 259 (by decide +kernel) rfl, inT 11 (by decide +kernel) rfl, ⟨_, List.mem_of_getElem? (i := 0) rfl⟩, taX8_91, toX8_91⟩
theorem taX8_102 : ∀ t ∈ vx_atS RX8 102 "java/lang/IndexOutOfBoundsException" exN, t ∈ TB ∨ t ∈ NWl := by decide +kernel
theorem toX8_102 : ∀ t ∈ Cond.classLink RX8 98 "java/lang/IndexOutOfBoundsException" :: Cond.initialized "java/lang/IndexOutOfBoundsException" :: vx_atS RX8 102 "java/lang/IndexOutOfBoundsException" exN, vx_ot t = true := by decide +kernel
theorem thX8_100 : TH RX8 "java/lang/IndexOutOfBoundsException" 98 100 102 := ⟨by decide +kernel, inT 338 (by decide +kernel) rfl, inT 12 (by decide +kernel) rfl, ⟨_, List.mem_of_getElem? (i := 1) rfl⟩, taX8_102, toX8_102⟩
theorem thX8_109 : TH RX8 "java/lang/IndexOutOfBoundsException" 98 109 102 := ⟨by decide +kernel, inT 338 (by decide +kernel) rfl, inT 12 (by decide +kernel) rfl, ⟨_, List.mem_of_getElem? (i := 3) rfl⟩, taX8_102, toX8_102⟩
theorem thX8_116 : TH RX8 "java/lang/IndexOutOfBoundsException" 98 116 102 := ⟨by decide +kernel, inT 338 (by decide +kernel) rfl, inT 12 (by decide +kernel) rfl, ⟨_, List.mem_of_getElem? (i := 5) rfl⟩, taX8_102, toX8_102⟩
theorem thX8_143 : TH RX8 "java/lang/IndexOutOfBoundsException" 98 143 102 := ⟨by decide +kernel, inT 338 (by decide +kernel) rfl, inT 12 (by decide +kernel) rfl, ⟨_, List.mem_of_getElem? (i := 8) rfl⟩, taX8_102, toX8_102⟩
theorem thX8_224 : TH RX8 "java/lang/IndexOutOfBoundsException" 98 224 102 := ⟨by decide +kernel, inT 338 (by decide +kernel) rfl, inT 12 (by decide +kernel) rfl, ⟨_, List.mem_of_getElem? (i := 11) rfl⟩, taX8_102, toX8_102⟩
theorem thX8_236 : TH RX8 "java/lang/IndexOutOfBoundsException" 98 236 102 := ⟨by decide +kernel, inT 338 (by decide +kernel) rfl, inT 12 (by decide +kernel) rfl, ⟨_, List.mem_of_getElem? (i := 13) rfl⟩, taX8_102, toX8_102⟩
theorem thX8_249 : TH RX8 "java/lang/IndexOutOfBoundsException" 98 249 102 := ⟨by decide +kernel, inT 338 (by decide +kernel) rfl, inT 12 (by decide +kernel) rfl, ⟨_, List.mem_of_getElem? (i := 15) rfl⟩, taX8_102, toX8_102⟩
theorem thX8_268 : TH RX8 "java/lang/IndexOutOfBoundsException" 98 268 102 := ⟨by decide +kernel, inT 338 (by decide +kernel) rfl, inT 12 (by decide +kernel) rfl, ⟨_, List.mem_of_getElem? (i := 17) rfl⟩, taX8_102, toX8_102⟩
theorem thX8_336 : TH RX8 "java/lang/IndexOutOfBoundsException" 98 336 102 := ⟨by decide +kernel, inT 338 (by decide +kernel) rfl, inT 12 (by decide +kernel) rfl, ⟨_, List.mem_of_getElem? (i := 27) rfl⟩, taX8_102, toX8_102⟩
theorem thX8_339 : TH RX8 "java/lang/IndexOutOfBoundsException" 98 339 102 := ⟨by decide +kernel, inT 338 (by decide +kernel) rfl, inT 12 (by decide +kernel) rfl, ⟨_, List.mem_of_getElem? (i := 28) rfl⟩, taX8_102, toX8_102⟩
