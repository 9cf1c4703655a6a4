/-! facts of the tables: classes, methods, links (by program) -/
theorem inQ1 {w : Cond} (i : Nat) (h : tables_1_1[i]? = some w) (g : goodWord w = true) : w ∈ TB := List.mem_filter.mpr ⟨List.mem_append_right _ (List.mem_append_left _ (List.mem_of_getElem? h)), g⟩
theorem inQ2 {w : Cond} (i : Nat) (h : tables_1_2[i]? = some w) (g : goodWord w = true) : w ∈ TB := List.mem_filter.mpr ⟨List.mem_append_right _ (List.mem_append_right _ (List.mem_append_left _ (List.mem_of_getElem? h))), g⟩
theorem inQ3 {w : Cond} (i : Nat) (h : tables_1_3[i]? = some w) (g : goodWord w = true) : w ∈ TB := List.mem_filter.mpr ⟨List.mem_append_right _ (List.mem_append_right _ (List.mem_append_right _ (List.mem_append_left _ (List.mem_of_getElem? h)))), g⟩
theorem inQ4 {w : Cond} (i : Nat) (h : tables_1_4[i]? = some w) (g : goodWord w = true) : w ∈ TB := List.mem_filter.mpr ⟨List.mem_append_right _ (List.mem_append_right _ (List.mem_append_right _ (List.mem_append_right _ (List.mem_of_getElem? h)))), g⟩
theorem ciX0 : CI 0 RX0 TX0 10 tyX0 (clsL.getD 0 []) := ⟨rfl, by decide +kernel, tyX0_ok, nmX0, rfl, rfl, by decide, by decide +kernel⟩
theorem ciX1 : CI 1 RX1 TX1 3 tyX1 (clsL.getD 1 []) := ⟨rfl, by decide +kernel, tyX1_ok, nmX1, rfl, rfl, by decide, by decide +kernel⟩
theorem ciX2 : CI 2 RX2 TX2 3 tyX2 (clsL.getD 2 []) := ⟨rfl, by decide +kernel, tyX2_ok, nmX2, rfl, rfl, by decide, by decide +kernel⟩
theorem ciX3 : CI 3 RX3 TX3 1 tyX3 (clsL.getD 3 []) := ⟨rfl, by decide +kernel, tyX3_ok, nmX3, rfl, rfl, by decide, by decide +kernel⟩
theorem ciX4 : CI 4 RX4 TX4 7 tyX4 (clsL.getD 4 []) := ⟨rfl, by decide +kernel, tyX4_ok, nmX4, rfl, rfl, by decide, by decide +kernel⟩
theorem ciX5 : CI 5 RX5 TX5 1 tyX5 (clsL.getD 5 []) := ⟨rfl, by decide +kernel, tyX5_ok, nmX5, rfl, rfl, by decide, by decide +kernel⟩
theorem ciX6 : CI 6 RX6 TX6 5 tyX6 (clsL.getD 6 []) := ⟨rfl, by decide +kernel, tyX6_ok, nmX6, rfl, rfl, by decide, by decide +kernel⟩
theorem ciX7 : CI 7 RX7 TX7 2 tyX7 (clsL.getD 7 []) := ⟨rfl, by decide +kernel, tyX7_ok, nmX7, rfl, rfl, by decide, by decide +kernel⟩
theorem ciX8 : CI 8 RX8 TX8 15 tyX8 (clsL.getD 8 []) := ⟨rfl, by decide +kernel, tyX8_ok, nmX8, rfl, rfl, by decide, by decide +kernel⟩
abbrev mX0_init : MI := (RX0, cX0_init, 8, none, { frames := 1, cells := 0, slots := 0, locals := 20 }, true, [])
theorem mcX0_init : MC yX0_init mX0_init 7 := ⟨inT 334 (by decide +kernel) rfl, inT 13 (by decide +kernel) rfl, ⟨by decide +kernel, by decide +kernel⟩, by decide +kernel, by decide +kernel, rfl, rfl, fun _ => rfl⟩
abbrev mX0_frames : MI := (RX0, cX0_frames, 1, (some FieldType.int), { frames := 0, cells := 0, slots := 0, locals := 0 }, false, [])
theorem mcX0_frames : MC yX0_frames mX0_frames 0 := ⟨inT 408 (by decide +kernel) rfl, inT 13 (by decide +kernel) rfl, ⟨by decide +kernel, by decide +kernel⟩, by decide +kernel, by decide +kernel, rfl, rfl, fun z => nomatch z⟩
abbrev mX0_end : MI := (RX0, cX0_end, 1, (some FieldType.int), { frames := 0, cells := 0, slots := 0, locals := 0 }, false, [])
theorem mcX0_end : MC yX0_end mX0_end 0 := ⟨inT 529 (by decide +kernel) rfl, inT 13 (by decide +kernel) rfl, ⟨by decide +kernel, by decide +kernel⟩, by decide +kernel, by decide +kernel, rfl, rfl, fun z => nomatch z⟩
abbrev mX0_outermost : MI := (RX0, cX0_outermost, 2, (some (FieldType.object "Stowfinish$Block")), { frames := 0, cells := 0, slots := 0, locals := 0 }, false, [])
theorem mcX0_outermost : MC yX0_outermost mX0_outermost 0 := ⟨inT 171 (by decide +kernel) rfl, inT 13 (by decide +kernel) rfl, ⟨by decide +kernel, by decide +kernel⟩, by decide +kernel, by decide +kernel, rfl, rfl, fun z => nomatch z⟩
abbrev mX0_tonsAt : MI := (RX0, cX0_tonsAt, 4, (some FieldType.int), { frames := 1, cells := 0, slots := 0, locals := 20 }, false, [])
theorem mcX0_tonsAt : MC yX0_tonsAt mX0_tonsAt 1 := ⟨inT 798 (by decide +kernel) rfl, inT 13 (by decide +kernel) rfl, ⟨by decide +kernel, by decide +kernel⟩, by decide +kernel, by decide +kernel, rfl, rfl, fun z => nomatch z⟩
abbrev mX0_fact : MI := (RX0, cX0_fact, 2, (some FieldType.int), { frames := 0, cells := 0, slots := 0, locals := 0 }, false, [])
theorem mcX0_fact : MC yX0_fact mX0_fact 1 := ⟨inT 710 (by decide +kernel) rfl, inT 13 (by decide +kernel) rfl, ⟨by decide +kernel, by decide +kernel⟩, by decide +kernel, by decide +kernel, rfl, rfl, fun z => nomatch z⟩
abbrev mX1_init : MI := (RX1, cX1_init, 1, none, { frames := 1, cells := 1, slots := 36, locals := 20 }, true, [])
theorem mcX1_init : MC yX1_init mX1_init 0 := ⟨inT 36 (by decide +kernel) rfl, inT 2 (by decide +kernel) rfl, ⟨by decide +kernel, by decide +kernel⟩, by decide +kernel, by decide +kernel, rfl, rfl, fun _ => rfl⟩
abbrev mX1_roomOf : MI := (RX1, cX1_roomOf, 2, (some (FieldType.object "Stowfinish$Room")), { frames := 0, cells := 0, slots := 0, locals := 0 }, false, [])
theorem mcX1_roomOf : MC yX1_roomOf mX1_roomOf 1 := ⟨inT 473 (by decide +kernel) rfl, inT 2 (by decide +kernel) rfl, ⟨by decide +kernel, by decide +kernel⟩, by decide +kernel, by decide +kernel, rfl, rfl, fun z => nomatch z⟩
abbrev mX1_roomOn : MI := (RX1, cX1_roomOn, 3, (some (FieldType.object "Stowfinish$Room")), { frames := 1, cells := 0, slots := 0, locals := 22 }, false, [])
theorem mcX1_roomOn : MC yX1_roomOn mX1_roomOn 2 := ⟨inT 466 (by decide +kernel) rfl, inT 2 (by decide +kernel) rfl, ⟨by decide +kernel, by decide +kernel⟩, by decide +kernel, by decide +kernel, rfl, rfl, fun z => nomatch z⟩
abbrev mX1_blockAt : MI := (RX1, cX1_blockAt, 4, (some (FieldType.object "Stowfinish$Block")), { frames := 2, cells := 0, slots := 0, locals := 44 }, false, [])
theorem mcX1_blockAt : MC yX1_blockAt mX1_blockAt 2 := ⟨inT 493 (by decide +kernel) rfl, inT 2 (by decide +kernel) rfl, ⟨by decide +kernel, by decide +kernel⟩, by decide +kernel, by decide +kernel, rfl, rfl, fun z => nomatch z⟩
abbrev mX1_load : MI := (RX1, cX1_load, 3, none, { frames := 0, cells := 0, slots := 0, locals := 0 }, false, [])
theorem mcX1_load : MC yX1_load mX1_load 2 := ⟨inT 580 (by decide +kernel) rfl, inT 2 (by decide +kernel) rfl, ⟨by decide +kernel, by decide +kernel⟩, by decide +kernel, by decide +kernel, rfl, rfl, fun z => nomatch z⟩
abbrev mX1_fill : MI := (RX1, cX1_fill, 4, none, { frames := 2, cells := 12, slots := 84, locals := 42 }, false, [])
theorem mcX1_fill : MC yX1_fill mX1_fill 1 := ⟨inT 537 (by decide +kernel) rfl, inT 2 (by decide +kernel) rfl, ⟨by decide +kernel, by decide +kernel⟩, by decide +kernel, by decide +kernel, rfl, rfl, fun z => nomatch z⟩
abbrev mX1_isFull : MI := (RX1, cX1_isFull, 5, (some FieldType.boolean), { frames := 0, cells := 0, slots := 0, locals := 0 }, false, [])
theorem mcX1_isFull : MC yX1_isFull mX1_isFull 0 := ⟨inT 163 (by decide +kernel) rfl, inT 2 (by decide +kernel) rfl, ⟨by decide +kernel, by decide +kernel⟩, by decide +kernel, by decide +kernel, rfl, rfl, fun z => nomatch z⟩
abbrev mX1_painted : MI := (RX1, cX1_painted, 6, (some FieldType.int), { frames := 0, cells := 0, slots := 0, locals := 0 }, false, [])
theorem mcX1_painted : MC yX1_painted mX1_painted 0 := ⟨inT 631 (by decide +kernel) rfl, inT 2 (by decide +kernel) rfl, ⟨by decide +kernel, by decide +kernel⟩, by decide +kernel, by decide +kernel, rfl, rfl, fun z => nomatch z⟩
abbrev mX1_tonsOfCells : MI := (RX1, cX1_tonsOfCells, 6, (some FieldType.int), { frames := 2, cells := 0, slots := 0, locals := 43 }, false, [])
theorem mcX1_tonsOfCells : MC yX1_tonsOfCells mX1_tonsOfCells 0 := ⟨inT 793 (by decide +kernel) rfl, inT 2 (by decide +kernel) rfl, ⟨by decide +kernel, by decide +kernel⟩, by decide +kernel, by decide +kernel, rfl, rfl, fun z => nomatch z⟩
abbrev mX1_balance : MI := (RX1, cX1_balance, 1, (some FieldType.int), { frames := 0, cells := 0, slots := 0, locals := 0 }, false, [])
theorem mcX1_balance : MC yX1_balance mX1_balance 0 := ⟨inT 151 (by decide +kernel) rfl, inT 2 (by decide +kernel) rfl, ⟨by decide +kernel, by decide +kernel⟩, by decide +kernel, by decide +kernel, rfl, rfl, fun z => nomatch z⟩
abbrev mX1_depth : MI := (RX1, cX1_depth, 4, (some FieldType.int), { frames := 1, cells := 0, slots := 0, locals := 20 }, false, [])
theorem mcX1_depth : MC yX1_depth mX1_depth 1 := ⟨inT 179 (by decide +kernel) rfl, inT 2 (by decide +kernel) rfl, ⟨by decide +kernel, by decide +kernel⟩, by decide +kernel, by decide +kernel, rfl, rfl, fun z => nomatch z⟩
abbrev mX1_greaterDepth : MI := (RX1, cX1_greaterDepth, 1, (some FieldType.int), { frames := 2, cells := 0, slots := 0, locals := 43 }, false, [])
theorem mcX1_greaterDepth : MC yX1_greaterDepth mX1_greaterDepth 0 := ⟨inT 175 (by decide +kernel) rfl, inT 2 (by decide +kernel) rfl, ⟨by decide +kernel, by decide +kernel⟩, by decide +kernel, by decide +kernel, rfl, rfl, fun z => nomatch z⟩
abbrev mX2_init : MI := (RX2, cX2_init, 1, none, { frames := 1, cells := 1, slots := 337, locals := 20 }, true, [])
theorem mcX2_init : MC yX2_init mX2_init 0 := ⟨inT 85 (by decide +kernel) rfl, inT 6 (by decide +kernel) rfl, ⟨by decide +kernel, by decide +kernel⟩, by decide +kernel, by decide +kernel, rfl, rfl, fun _ => rfl⟩
abbrev mX2_enter : MI := (RX2, cX2_enter, 2, none, { frames := 0, cells := 0, slots := 0, locals := 0 }, false, [])
theorem mcX2_enter : MC yX2_enter mX2_enter 1 := ⟨inT 481 (by decide +kernel) rfl, inT 6 (by decide +kernel) rfl, ⟨by decide +kernel, by decide +kernel⟩, by decide +kernel, by decide +kernel, rfl, rfl, fun z => nomatch z⟩
abbrev mX2_sumOfEntries : MI := (RX2, cX2_sumOfEntries, 3, (some FieldType.int), { frames := 0, cells := 0, slots := 0, locals := 0 }, false, [])
theorem mcX2_sumOfEntries : MC yX2_sumOfEntries mX2_sumOfEntries 0 := ⟨inT 775 (by decide +kernel) rfl, inT 6 (by decide +kernel) rfl, ⟨by decide +kernel, by decide +kernel⟩, by decide +kernel, by decide +kernel, rfl, rfl, fun z => nomatch z⟩
abbrev mX3_init : MI := (RX3, cX3_init, 2, none, { frames := 1, cells := 0, slots := 0, locals := 20 }, true, [])
theorem mcX3_init : MC yX3_init mX3_init 1 := ⟨inT 681 (by decide +kernel) rfl, inT 17 (by decide +kernel) rfl, ⟨by decide +kernel, by decide +kernel⟩, by decide +kernel, by decide +kernel, rfl, rfl, fun _ => rfl⟩
abbrev mX4_init : MI := (RX4, cX4_init, 3, none, { frames := 1, cells := 0, slots := 0, locals := 20 }, true, [])
theorem mcX4_init : MC yX4_init mX4_init 2 := ⟨inT 541 (by decide +kernel) rfl, inT 16 (by decide +kernel) rfl, ⟨by decide +kernel, by decide +kernel⟩, by decide +kernel, by decide +kernel, rfl, rfl, fun _ => rfl⟩
abbrev mX4_frame : MI := (RX4, cX4_frame, 1, (some FieldType.int), { frames := 0, cells := 0, slots := 0, locals := 0 }, false, [])
theorem mcX4_frame : MC yX4_frame mX4_frame 0 := ⟨inT 620 (by decide +kernel) rfl, inT 16 (by decide +kernel) rfl, ⟨by decide +kernel, by decide +kernel⟩, by decide +kernel, by decide +kernel, rfl, rfl, fun z => nomatch z⟩
abbrev mX4_hasAllPipes : MI := (RX4, cX4_hasAllPipes, 1, (some FieldType.boolean), { frames := 0, cells := 0, slots := 0, locals := 0 }, false, [])
theorem mcX4_hasAllPipes : MC yX4_hasAllPipes mX4_hasAllPipes 0 := ⟨inT 655 (by decide +kernel) rfl, inT 16 (by decide +kernel) rfl, ⟨by decide +kernel, by decide +kernel⟩, by decide +kernel, by decide +kernel, rfl, rfl, fun z => nomatch z⟩
abbrev mX4_spoil : MI := (RX4, cX4_spoil, 2, (some FieldType.int), { frames := 0, cells := 0, slots := 0, locals := 0 }, false, [])
theorem mcX4_spoil : MC yX4_spoil mX4_spoil 0 := ⟨inT 477 (by decide +kernel) rfl, inT 16 (by decide +kernel) rfl, ⟨by decide +kernel, by decide +kernel⟩, by decide +kernel, by decide +kernel, rfl, rfl, fun z => nomatch z⟩
abbrev mX4_fact : MI := (RX4, cX4_fact, 2, (some FieldType.int), { frames := 0, cells := 0, slots := 0, locals := 0 }, false, [])
theorem mcX4_fact : MC yX4_fact mX4_fact 1 := ⟨inT 727 (by decide +kernel) rfl, inT 16 (by decide +kernel) rfl, ⟨by decide +kernel, by decide +kernel⟩, by decide +kernel, by decide +kernel, rfl, rfl, fun z => nomatch z⟩
abbrev mX5_init : MI := (RX5, cX5_init, 2, none, { frames := 1, cells := 0, slots := 0, locals := 20 }, true, [])
theorem mcX5_init : MC yX5_init mX5_init 1 := ⟨inT 56 (by decide +kernel) rfl, inT 3 (by decide +kernel) rfl, ⟨by decide +kernel, by decide +kernel⟩, by decide +kernel, by decide +kernel, rfl, rfl, fun _ => rfl⟩
abbrev mX5_seek : MI := (RX5, cX5_seek, 6, (some (FieldType.array FieldType.int)), { frames := 5, cells := 1, slots := 36, locals := 119 }, false, [])
theorem mcX5_seek : MC yX5_seek mX5_seek 2 := ⟨inT 647 (by decide +kernel) rfl, inT 3 (by decide +kernel) rfl, ⟨by decide +kernel, by decide +kernel⟩, by decide +kernel, by decide +kernel, rfl, rfl, fun z => nomatch z⟩
abbrev mX5_measure : MI := (RX5, cX5_measure, 6, none, { frames := 4, cells := 0, slots := 0, locals := 94 }, false, [])
theorem mcX5_measure : MC yX5_measure mX5_measure 1 := ⟨inT 651 (by decide +kernel) rfl, inT 3 (by decide +kernel) rfl, ⟨by decide +kernel, by decide +kernel⟩, by decide +kernel, by decide +kernel, rfl, rfl, fun z => nomatch z⟩
abbrev mX5_spreadAll : MI := (RX5, cX5_spreadAll, 7, (some FieldType.boolean), { frames := 3, cells := 0, slots := 0, locals := 68 }, false, [])
theorem mcX5_spreadAll : MC yX5_spreadAll mX5_spreadAll 1 := ⟨inT 659 (by decide +kernel) rfl, inT 3 (by decide +kernel) rfl, ⟨by decide +kernel, by decide +kernel⟩, by decide +kernel, by decide +kernel, rfl, rfl, fun z => nomatch z⟩
abbrev mX5_spread : MI := (RX5, cX5_spread, 5, (some FieldType.boolean), { frames := 2, cells := 0, slots := 0, locals := 44 }, false, [])
theorem mcX5_spread : MC yX5_spread mX5_spread 1 := ⟨inT 663 (by decide +kernel) rfl, inT 3 (by decide +kernel) rfl, ⟨by decide +kernel, by decide +kernel⟩, by decide +kernel, by decide +kernel, rfl, rfl, fun z => nomatch z⟩
abbrev mX5_lowestNearer : MI := (RX5, cX5_lowestNearer, 4, (some (FieldType.object "Stowfinish$Room")), { frames := 2, cells := 0, slots := 0, locals := 44 }, false, [])
theorem mcX5_lowestNearer : MC yX5_lowestNearer mX5_lowestNearer 1 := ⟨inT 676 (by decide +kernel) rfl, inT 3 (by decide +kernel) rfl, ⟨by decide +kernel, by decide +kernel⟩, by decide +kernel, by decide +kernel, rfl, rfl, fun z => nomatch z⟩
abbrev mX5_through : MI := (RX5, cX5_through, 4, (some (FieldType.object "Stowfinish$Room")), { frames := 1, cells := 0, slots := 0, locals := 21 }, false, [])
theorem mcX5_through : MC yX5_through mX5_through 2 := ⟨inT 669 (by decide +kernel) rfl, inT 3 (by decide +kernel) rfl, ⟨by decide +kernel, by decide +kernel⟩, by decide +kernel, by decide +kernel, rfl, rfl, fun z => nomatch z⟩
abbrev mX6_init : MI := (RX6, cX6_init, 3, none, { frames := 1, cells := 0, slots := 0, locals := 20 }, true, [])
theorem mcX6_init : MC yX6_init mX6_init 2 := ⟨inT 427 (by decide +kernel) rfl, inT 14 (by decide +kernel) rfl, ⟨by decide +kernel, by decide +kernel⟩, by decide +kernel, by decide +kernel, rfl, rfl, fun _ => rfl⟩
abbrev mX6_isScrapped : MI := (RX6, cX6_isScrapped, 1, (some FieldType.boolean), { frames := 1, cells := 0, slots := 0, locals := 21 }, false, [])
theorem mcX6_isScrapped : MC yX6_isScrapped mX6_isScrapped 0 := ⟨inT 600 (by decide +kernel) rfl, inT 14 (by decide +kernel) rfl, ⟨by decide +kernel, by decide +kernel⟩, by decide +kernel, by decide +kernel, rfl, rfl, fun z => nomatch z⟩
abbrev mX6_isStanding : MI := (RX6, cX6_isStanding, 1, (some FieldType.boolean), { frames := 1, cells := 0, slots := 0, locals := 21 }, false, [])
theorem mcX6_isStanding : MC yX6_isStanding mX6_isStanding 0 := ⟨inT 167 (by decide +kernel) rfl, inT 14 (by decide +kernel) rfl, ⟨by decide +kernel, by decide +kernel⟩, by decide +kernel, by decide +kernel, rfl, rfl, fun z => nomatch z⟩
abbrev mX6_fact : MI := (RX6, cX6_fact, 2, (some FieldType.int), { frames := 0, cells := 0, slots := 0, locals := 0 }, false, [])
theorem mcX6_fact : MC yX6_fact mX6_fact 1 := ⟨inT 718 (by decide +kernel) rfl, inT 14 (by decide +kernel) rfl, ⟨by decide +kernel, by decide +kernel⟩, by decide +kernel, by decide +kernel, rfl, rfl, fun z => nomatch z⟩
abbrev mX7_init : MI := (RX7, cX7_init, 1, none, { frames := 1, cells := 1, slots := 4, locals := 23 }, true, [])
theorem mcX7_init : MC yX7_init mX7_init 0 := ⟨inT 66 (by decide +kernel) rfl, inT 4 (by decide +kernel) rfl, ⟨by decide +kernel, by decide +kernel⟩, by decide +kernel, by decide +kernel, rfl, rfl, fun _ => rfl⟩
abbrev mX7_has : MI := (RX7, cX7_has, 2, (some FieldType.boolean), { frames := 0, cells := 0, slots := 0, locals := 0 }, false, [])
theorem mcX7_has : MC yX7_has mX7_has 1 := ⟨inT 399 (by decide +kernel) rfl, inT 4 (by decide +kernel) rfl, ⟨by decide +kernel, by decide +kernel⟩, by decide +kernel, by decide +kernel, rfl, rfl, fun z => nomatch z⟩
abbrev mX7_drawFlaw : MI := (RX7, cX7_drawFlaw, 2, (some FieldType.boolean), { frames := 0, cells := 0, slots := 0, locals := 0 }, false, [])
theorem mcX7_drawFlaw : MC yX7_drawFlaw mX7_drawFlaw 1 := ⟨inT 457 (by decide +kernel) rfl, inT 4 (by decide +kernel) rfl, ⟨by decide +kernel, by decide +kernel⟩, by decide +kernel, by decide +kernel, rfl, rfl, fun z => nomatch z⟩
abbrev mX8_init : MI := (RX8, cX8_init, 1, none, { frames := 2, cells := 10, slots := 576, locals := 43 }, true, [])
theorem mcX8_init : MC yX8_init mX8_init 0 := ⟨inT 22 (by decide +kernel) rfl, inT 1 (by decide +kernel) rfl, ⟨by decide +kernel, by decide +kernel⟩, by decide +kernel, by decide +kernel, rfl, rfl, fun _ => rfl⟩
abbrev mX8_hall : MI := (RX8, cX8_hall, 4, (some FieldType.int), { frames := 6, cells := 1, slots := 6, locals := 90 }, false, [])
theorem mcX8_hall : MC yX8_hall mX8_hall 2 := ⟨inT 203 (by decide +kernel) rfl, inT 1 (by decide +kernel) rfl, ⟨by decide +kernel, by decide +kernel⟩, by decide +kernel, by decide +kernel, rfl, rfl, fun z => nomatch z⟩
abbrev mX8_crane : MI := (RX8, cX8_crane, 4, (some FieldType.int), { frames := 6, cells := 1, slots := 6, locals := 90 }, false, [])
theorem mcX8_crane : MC yX8_crane mX8_crane 2 := ⟨inT 278 (by decide +kernel) rfl, inT 1 (by decide +kernel) rfl, ⟨by decide +kernel, by decide +kernel⟩, by decide +kernel, by decide +kernel, rfl, rfl, fun z => nomatch z⟩
abbrev mX8_welder : MI := (RX8, cX8_welder, 4, (some FieldType.int), { frames := 6, cells := 1, slots := 6, locals := 90 }, false, [])
theorem mcX8_welder : MC yX8_welder mX8_welder 2 := ⟨inT 302 (by decide +kernel) rfl, inT 1 (by decide +kernel) rfl, ⟨by decide +kernel, by decide +kernel⟩, by decide +kernel, by decide +kernel, rfl, rfl, fun z => nomatch z⟩
abbrev mX8_draw : MI := (RX8, cX8_draw, 3, (some FieldType.int), { frames := 0, cells := 0, slots := 0, locals := 0 }, false, [])
theorem mcX8_draw : MC yX8_draw mX8_draw 1 := ⟨inT 841 (by decide +kernel) rfl, inT 1 (by decide +kernel) rfl, ⟨by decide +kernel, by decide +kernel⟩, by decide +kernel, by decide +kernel, rfl, rfl, fun z => nomatch z⟩
abbrev mX8_block : MI := (RX8, cX8_block, 8, (some FieldType.int), { frames := 6, cells := 2, slots := 16, locals := 90 }, false, [])
theorem mcX8_block : MC yX8_block mX8_block 6 := ⟨inT 308 (by decide +kernel) rfl, inT 1 (by decide +kernel) rfl, ⟨by decide +kernel, by decide +kernel⟩, by decide +kernel, by decide +kernel, rfl, rfl, fun z => nomatch z⟩
abbrev mX8_join : MI := (RX8, cX8_join, 8, (some FieldType.int), { frames := 6, cells := 3, slots := 21, locals := 113 }, false, [])
theorem mcX8_join : MC yX8_join mX8_join 3 := ⟨inT 391 (by decide +kernel) rfl, inT 1 (by decide +kernel) rfl, ⟨by decide +kernel, by decide +kernel⟩, by decide +kernel, by decide +kernel, rfl, rfl, fun z => nomatch z⟩
abbrev mX8_erect : MI := (RX8, cX8_erect, 8, (some FieldType.int), { frames := 6, cells := 15, slots := 100, locals := 133 }, false, [])
theorem mcX8_erect : MC yX8_erect mX8_erect 2 := ⟨inT 485 (by decide +kernel) rfl, inT 1 (by decide +kernel) rfl, ⟨by decide +kernel, by decide +kernel⟩, by decide +kernel, by decide +kernel, rfl, rfl, fun z => nomatch z⟩
abbrev mX8_scrap : MI := (RX8, cX8_scrap, 8, (some FieldType.int), { frames := 6, cells := 1, slots := 6, locals := 90 }, false, [])
theorem mcX8_scrap : MC yX8_scrap mX8_scrap 1 := ⟨inT 584 (by decide +kernel) rfl, inT 1 (by decide +kernel) rfl, ⟨by decide +kernel, by decide +kernel⟩, by decide +kernel, by decide +kernel, rfl, rfl, fun z => nomatch z⟩
abbrev mX8_test : MI := (RX8, cX8_test, 3, (some FieldType.int), { frames := 6, cells := 1, slots := 6, locals := 90 }, false, [])
theorem mcX8_test : MC yX8_test mX8_test 1 := ⟨inT 591 (by decide +kernel) rfl, inT 1 (by decide +kernel) rfl, ⟨by decide +kernel, by decide +kernel⟩, by decide +kernel, by decide +kernel, rfl, rfl, fun z => nomatch z⟩
abbrev mX8_repair : MI := (RX8, cX8_repair, 4, (some FieldType.int), { frames := 6, cells := 1, slots := 6, locals := 90 }, false, [])
theorem mcX8_repair : MC yX8_repair mX8_repair 2 := ⟨inT 605 (by decide +kernel) rfl, inT 1 (by decide +kernel) rfl, ⟨by decide +kernel, by decide +kernel⟩, by decide +kernel, by decide +kernel, rfl, rfl, fun z => nomatch z⟩
abbrev mX8_hole : MI := (RX8, cX8_hole, 6, (some FieldType.int), { frames := 6, cells := 1, slots := 6, locals := 90 }, false, [])
theorem mcX8_hole : MC yX8_hole mX8_hole 2 := ⟨inT 611 (by decide +kernel) rfl, inT 1 (by decide +kernel) rfl, ⟨by decide +kernel, by decide +kernel⟩, by decide +kernel, by decide +kernel, rfl, rfl, fun z => nomatch z⟩
abbrev mX8_paint : MI := (RX8, cX8_paint, 3, (some FieldType.int), { frames := 6, cells := 1, slots := 6, locals := 90 }, false, [])
theorem mcX8_paint : MC yX8_paint mX8_paint 1 := ⟨inT 626 (by decide +kernel) rfl, inT 1 (by decide +kernel) rfl, ⟨by decide +kernel, by decide +kernel⟩, by decide +kernel, by decide +kernel, rfl, rfl, fun z => nomatch z⟩
abbrev mX8_fit : MI := (RX8, cX8_fit, 4, (some FieldType.int), { frames := 6, cells := 1, slots := 6, locals := 90 }, false, [])
theorem mcX8_fit : MC yX8_fit mX8_fit 2 := ⟨inT 635 (by decide +kernel) rfl, inT 1 (by decide +kernel) rfl, ⟨by decide +kernel, by decide +kernel⟩, by decide +kernel, by decide +kernel, rfl, rfl, fun z => nomatch z⟩
abbrev mX8_pipe : MI := (RX8, cX8_pipe, 6, (some FieldType.int), { frames := 6, cells := 3, slots := 43, locals := 144 }, false, [])
theorem mcX8_pipe : MC yX8_pipe mX8_pipe 2 := ⟨inT 641 (by decide +kernel) rfl, inT 1 (by decide +kernel) rfl, ⟨by decide +kernel, by decide +kernel⟩, by decide +kernel, by decide +kernel, rfl, rfl, fun z => nomatch z⟩
abbrev mX8_launch : MI := (RX8, cX8_launch, 3, (some FieldType.int), { frames := 6, cells := 1, slots := 6, locals := 90 }, false, [])
theorem mcX8_launch : MC yX8_launch mX8_launch 1 := ⟨inT 695 (by decide +kernel) rfl, inT 1 (by decide +kernel) rfl, ⟨by decide +kernel, by decide +kernel⟩, by decide +kernel, by decide +kernel, rfl, rfl, fun z => nomatch z⟩
abbrev mX8_blocks : MI := (RX8, cX8_blocks, 1, (some FieldType.int), { frames := 0, cells := 0, slots := 0, locals := 0 }, false, [])
theorem mcX8_blocks : MC yX8_blocks mX8_blocks 0 := ⟨inT 755 (by decide +kernel) rfl, inT 1 (by decide +kernel) rfl, ⟨by decide +kernel, by decide +kernel⟩, by decide +kernel, by decide +kernel, rfl, rfl, fun z => nomatch z⟩
abbrev mX8_welds : MI := (RX8, cX8_welds, 1, (some FieldType.int), { frames := 0, cells := 0, slots := 0, locals := 0 }, false, [])
theorem mcX8_welds : MC yX8_welds mX8_welds 0 := ⟨inT 759 (by decide +kernel) rfl, inT 1 (by decide +kernel) rfl, ⟨by decide +kernel, by decide +kernel⟩, by decide +kernel, by decide +kernel, rfl, rfl, fun z => nomatch z⟩
abbrev mX8_isAfloat : MI := (RX8, cX8_isAfloat, 1, (some FieldType.boolean), { frames := 0, cells := 0, slots := 0, locals := 0 }, false, [])
theorem mcX8_isAfloat : MC yX8_isAfloat mX8_isAfloat 0 := ⟨inT 763 (by decide +kernel) rfl, inT 1 (by decide +kernel) rfl, ⟨by decide +kernel, by decide +kernel⟩, by decide +kernel, by decide +kernel, rfl, rfl, fun z => nomatch z⟩
abbrev mX8_whyNot : MI := (RX8, cX8_whyNot, 3, (some FieldType.int), { frames := 6, cells := 1, slots := 6, locals := 133 }, false, [])
theorem mcX8_whyNot : MC yX8_whyNot mX8_whyNot 1 := ⟨inT 701 (by decide +kernel) rfl, inT 1 (by decide +kernel) rfl, ⟨by decide +kernel, by decide +kernel⟩, by decide +kernel, by decide +kernel, rfl, rfl, fun z => nomatch z⟩
abbrev mX8_told : MI := (RX8, cX8_told, 4, (some FieldType.int), { frames := 6, cells := 1, slots := 6, locals := 90 }, false, [])
theorem mcX8_told : MC yX8_told mX8_told 2 := ⟨inT 705 (by decide +kernel) rfl, inT 1 (by decide +kernel) rfl, ⟨by decide +kernel, by decide +kernel⟩, by decide +kernel, by decide +kernel, rfl, rfl, fun z => nomatch z⟩
abbrev mX8_weld : MI := (RX8, cX8_weld, 4, (some FieldType.int), { frames := 6, cells := 1, slots := 6, locals := 90 }, false, [])
theorem mcX8_weld : MC yX8_weld mX8_weld 2 := ⟨inT 714 (by decide +kernel) rfl, inT 1 (by decide +kernel) rfl, ⟨by decide +kernel, by decide +kernel⟩, by decide +kernel, by decide +kernel, rfl, rfl, fun z => nomatch z⟩
abbrev mX8_cell : MI := (RX8, cX8_cell, 4, (some FieldType.int), { frames := 6, cells := 1, slots := 6, locals := 90 }, false, [])
theorem mcX8_cell : MC yX8_cell mX8_cell 2 := ⟨inT 722 (by decide +kernel) rfl, inT 1 (by decide +kernel) rfl, ⟨by decide +kernel, by decide +kernel⟩, by decide +kernel, by decide +kernel, rfl, rfl, fun z => nomatch z⟩
abbrev mX8_roomAt : MI := (RX8, cX8_roomAt, 4, (some FieldType.int), { frames := 6, cells := 1, slots := 6, locals := 90 }, false, [])
theorem mcX8_roomAt : MC yX8_roomAt mX8_roomAt 2 := ⟨inT 731 (by decide +kernel) rfl, inT 1 (by decide +kernel) rfl, ⟨by decide +kernel, by decide +kernel⟩, by decide +kernel, by decide +kernel, rfl, rfl, fun z => nomatch z⟩
abbrev mX8_tons : MI := (RX8, cX8_tons, 1, (some FieldType.int), { frames := 0, cells := 0, slots := 0, locals := 0 }, false, [])
theorem mcX8_tons : MC yX8_tons mX8_tons 0 := ⟨inT 785 (by decide +kernel) rfl, inT 1 (by decide +kernel) rfl, ⟨by decide +kernel, by decide +kernel⟩, by decide +kernel, by decide +kernel, rfl, rfl, fun z => nomatch z⟩
abbrev mX8_tonsAnew : MI := (RX8, cX8_tonsAnew, 1, (some FieldType.int), { frames := 3, cells := 0, slots := 0, locals := 68 }, false, [])
theorem mcX8_tonsAnew : MC yX8_tonsAnew mX8_tonsAnew 0 := ⟨inT 789 (by decide +kernel) rfl, inT 1 (by decide +kernel) rfl, ⟨by decide +kernel, by decide +kernel⟩, by decide +kernel, by decide +kernel, rfl, rfl, fun z => nomatch z⟩
abbrev mX8_centre : MI := (RX8, cX8_centre, 1, (some FieldType.int), { frames := 1, cells := 0, slots := 0, locals := 20 }, false, [])
theorem mcX8_centre : MC yX8_centre mX8_centre 0 := ⟨inT 147 (by decide +kernel) rfl, inT 1 (by decide +kernel) rfl, ⟨by decide +kernel, by decide +kernel⟩, by decide +kernel, by decide +kernel, rfl, rfl, fun z => nomatch z⟩
abbrev mX8_draught : MI := (RX8, cX8_draught, 2, (some FieldType.int), { frames := 2, cells := 0, slots := 0, locals := 43 }, false, [])
theorem mcX8_draught : MC yX8_draught mX8_draught 1 := ⟨inT 803 (by decide +kernel) rfl, inT 1 (by decide +kernel) rfl, ⟨by decide +kernel, by decide +kernel⟩, by decide +kernel, by decide +kernel, rfl, rfl, fun z => nomatch z⟩
abbrev mX8_water : MI := (RX8, cX8_water, 2, (some FieldType.int), { frames := 6, cells := 1, slots := 6, locals := 90 }, false, [])
theorem mcX8_water : MC yX8_water mX8_water 1 := ⟨inT 736 (by decide +kernel) rfl, inT 1 (by decide +kernel) rfl, ⟨by decide +kernel, by decide +kernel⟩, by decide +kernel, by decide +kernel, rfl, rfl, fun z => nomatch z⟩
abbrev mX8_firstHour : MI := (RX8, cX8_firstHour, 3, (some FieldType.int), { frames := 3, cells := 0, slots := 0, locals := 65 }, false, [])
theorem mcX8_firstHour : MC yX8_firstHour mX8_firstHour 0 := ⟨inT 155 (by decide +kernel) rfl, inT 1 (by decide +kernel) rfl, ⟨by decide +kernel, by decide +kernel⟩, by decide +kernel, by decide +kernel, rfl, rfl, fun z => nomatch z⟩
abbrev mX8_money : MI := (RX8, cX8_money, 1, (some FieldType.int), { frames := 0, cells := 0, slots := 0, locals := 0 }, false, [])
theorem mcX8_money : MC yX8_money mX8_money 0 := ⟨inT 767 (by decide +kernel) rfl, inT 1 (by decide +kernel) rfl, ⟨by decide +kernel, by decide +kernel⟩, by decide +kernel, by decide +kernel, rfl, rfl, fun z => nomatch z⟩
abbrev mX8_moneyAnew : MI := (RX8, cX8_moneyAnew, 1, (some FieldType.int), { frames := 1, cells := 0, slots := 0, locals := 22 }, false, [])
theorem mcX8_moneyAnew : MC yX8_moneyAnew mX8_moneyAnew 0 := ⟨inT 771 (by decide +kernel) rfl, inT 1 (by decide +kernel) rfl, ⟨by decide +kernel, by decide +kernel⟩, by decide +kernel, by decide +kernel, rfl, rfl, fun z => nomatch z⟩
abbrev mX8_isWithin : MI := (RX8, cX8_isWithin, 3, (some FieldType.boolean), { frames := 0, cells := 0, slots := 0, locals := 0 }, false, [])
theorem mcX8_isWithin : MC yX8_isWithin mX8_isWithin 3 := ⟨inT 206 (by decide +kernel) rfl, inT 1 (by decide +kernel) rfl, ⟨by decide +kernel, by decide +kernel⟩, by decide +kernel, by decide +kernel, rfl, rfl, fun z => nomatch z⟩
abbrev mX8_isFrame : MI := (RX8, cX8_isFrame, 1, (some FieldType.boolean), { frames := 1, cells := 0, slots := 0, locals := 22 }, false, [])
theorem mcX8_isFrame : MC yX8_isFrame mX8_isFrame 1 := ⟨inT 281 (by decide +kernel) rfl, inT 1 (by decide +kernel) rfl, ⟨by decide +kernel, by decide +kernel⟩, by decide +kernel, by decide +kernel, rfl, rfl, fun z => nomatch z⟩
abbrev mX8_cellOf : MI := (RX8, cX8_cellOf, 3, (some FieldType.int), { frames := 0, cells := 0, slots := 0, locals := 0 }, false, [])
theorem mcX8_cellOf : MC yX8_cellOf mX8_cellOf 2 := ⟨inT 469 (by decide +kernel) rfl, inT 1 (by decide +kernel) rfl, ⟨by decide +kernel, by decide +kernel⟩, by decide +kernel, by decide +kernel, rfl, rfl, fun z => nomatch z⟩
abbrev mX8_waterAt : MI := (RX8, cX8_waterAt, 2, (some FieldType.int), { frames := 1, cells := 0, slots := 0, locals := 21 }, false, [])
theorem mcX8_waterAt : MC yX8_waterAt mX8_waterAt 1 := ⟨inT 186 (by decide +kernel) rfl, inT 1 (by decide +kernel) rfl, ⟨by decide +kernel, by decide +kernel⟩, by decide +kernel, by decide +kernel, rfl, rfl, fun z => nomatch z⟩
abbrev mX8_blockOf : MI := (RX8, cX8_blockOf, 2, (some (FieldType.object "Stowfinish$Block")), { frames := 0, cells := 0, slots := 0, locals := 0 }, false, [])
theorem mcX8_blockOf : MC yX8_blockOf mX8_blockOf 1 := ⟨inT 395 (by decide +kernel) rfl, inT 1 (by decide +kernel) rfl, ⟨by decide +kernel, by decide +kernel⟩, by decide +kernel, by decide +kernel, rfl, rfl, fun z => nomatch z⟩
abbrev mX8_weldOf : MI := (RX8, cX8_weldOf, 2, (some (FieldType.object "Stowfinish$Weld")), { frames := 0, cells := 0, slots := 0, locals := 0 }, false, [])
theorem mcX8_weldOf : MC yX8_weldOf mX8_weldOf 1 := ⟨inT 595 (by decide +kernel) rfl, inT 1 (by decide +kernel) rfl, ⟨by decide +kernel, by decide +kernel⟩, by decide +kernel, by decide +kernel, rfl, rfl, fun z => nomatch z⟩
abbrev mX8_hasSpaceForBlock : MI := (RX8, cX8_hasSpaceForBlock, 1, (some FieldType.boolean), { frames := 0, cells := 0, slots := 0, locals := 0 }, false, [])
theorem mcX8_hasSpaceForBlock : MC yX8_hasSpaceForBlock mX8_hasSpaceForBlock 0 := ⟨inT 314 (by decide +kernel) rfl, inT 1 (by decide +kernel) rfl, ⟨by decide +kernel, by decide +kernel⟩, by decide +kernel, by decide +kernel, rfl, rfl, fun z => nomatch z⟩
abbrev mX8_hasSpaceForWelds : MI := (RX8, cX8_hasSpaceForWelds, 2, (some FieldType.boolean), { frames := 0, cells := 0, slots := 0, locals := 0 }, false, [])
theorem mcX8_hasSpaceForWelds : MC yX8_hasSpaceForWelds mX8_hasSpaceForWelds 1 := ⟨inT 415 (by decide +kernel) rfl, inT 1 (by decide +kernel) rfl, ⟨by decide +kernel, by decide +kernel⟩, by decide +kernel, by decide +kernel, rfl, rfl, fun z => nomatch z⟩
abbrev mX8_keep : MI := (RX8, cX8_keep, 2, (some FieldType.int), { frames := 0, cells := 0, slots := 0, locals := 0 }, false, [])
theorem mcX8_keep : MC yX8_keep mX8_keep 1 := ⟨inT 387 (by decide +kernel) rfl, inT 1 (by decide +kernel) rfl, ⟨by decide +kernel, by decide +kernel⟩, by decide +kernel, by decide +kernel, rfl, rfl, fun z => nomatch z⟩
abbrev mX8_canJoin : MI := (RX8, cX8_canJoin, 3, (some FieldType.boolean), { frames := 1, cells := 0, slots := 0, locals := 21 }, false, [])
theorem mcX8_canJoin : MC yX8_canJoin mX8_canJoin 2 := ⟨inT 404 (by decide +kernel) rfl, inT 1 (by decide +kernel) rfl, ⟨by decide +kernel, by decide +kernel⟩, by decide +kernel, by decide +kernel, rfl, rfl, fun z => nomatch z⟩
abbrev mX8_tonsTogether : MI := (RX8, cX8_tonsTogether, 2, (some FieldType.int), { frames := 0, cells := 0, slots := 0, locals := 0 }, false, [])
theorem mcX8_tonsTogether : MC yX8_tonsTogether mX8_tonsTogether 2 := ⟨inT 411 (by decide +kernel) rfl, inT 1 (by decide +kernel) rfl, ⟨by decide +kernel, by decide +kernel⟩, by decide +kernel, by decide +kernel, rfl, rfl, fun z => nomatch z⟩
abbrev mX8_becomePart : MI := (RX8, cX8_becomePart, 2, none, { frames := 0, cells := 0, slots := 0, locals := 0 }, false, [])
theorem mcX8_becomePart : MC yX8_becomePart mX8_becomePart 2 := ⟨inT 419 (by decide +kernel) rfl, inT 1 (by decide +kernel) rfl, ⟨by decide +kernel, by decide +kernel⟩, by decide +kernel, by decide +kernel, rfl, rfl, fun z => nomatch z⟩
abbrev mX8_makeWeld : MI := (RX8, cX8_makeWeld, 5, none, { frames := 4, cells := 1, slots := 5, locals := 89 }, false, [])
theorem mcX8_makeWeld : MC yX8_makeWeld mX8_makeWeld 3 := ⟨inT 423 (by decide +kernel) rfl, inT 1 (by decide +kernel) rfl, ⟨by decide +kernel, by decide +kernel⟩, by decide +kernel, by decide +kernel, rfl, rfl, fun z => nomatch z⟩
abbrev mX8_weldNow : MI := (RX8, cX8_weldNow, 3, none, { frames := 3, cells := 0, slots := 0, locals := 67 }, false, [])
theorem mcX8_weldNow : MC yX8_weldNow mX8_weldNow 2 := ⟨inT 453 (by decide +kernel) rfl, inT 1 (by decide +kernel) rfl, ⟨by decide +kernel, by decide +kernel⟩, by decide +kernel, by decide +kernel, rfl, rfl, fun z => nomatch z⟩
abbrev mX8_spoilAt : MI := (RX8, cX8_spoilAt, 4, none, { frames := 2, cells := 0, slots := 0, locals := 44 }, false, [])
theorem mcX8_spoilAt : MC yX8_spoilAt mX8_spoilAt 2 := ⟨inT 462 (by decide +kernel) rfl, inT 1 (by decide +kernel) rfl, ⟨by decide +kernel, by decide +kernel⟩, by decide +kernel, by decide +kernel, rfl, rfl, fun z => nomatch z⟩
abbrev mX8_reasonAgainst : MI := (RX8, cX8_reasonAgainst, 2, (some FieldType.int), { frames := 5, cells := 0, slots := 0, locals := 112 }, false, [])
theorem mcX8_reasonAgainst : MC yX8_reasonAgainst mX8_reasonAgainst 1 := ⟨inT 502 (by decide +kernel) rfl, inT 1 (by decide +kernel) rfl, ⟨by decide +kernel, by decide +kernel⟩, by decide +kernel, by decide +kernel, rfl, rfl, fun z => nomatch z⟩
abbrev mX8_isSomeFilled : MI := (RX8, cX8_isSomeFilled, 3, (some FieldType.boolean), { frames := 2, cells := 0, slots := 0, locals := 44 }, false, [])
theorem mcX8_isSomeFilled : MC yX8_isSomeFilled mX8_isSomeFilled 1 := ⟨inT 506 (by decide +kernel) rfl, inT 1 (by decide +kernel) rfl, ⟨by decide +kernel, by decide +kernel⟩, by decide +kernel, by decide +kernel, rfl, rfl, fun z => nomatch z⟩
abbrev mX8_isSomeBelowEmpty : MI := (RX8, cX8_isSomeBelowEmpty, 3, (some FieldType.boolean), { frames := 2, cells := 0, slots := 0, locals := 44 }, false, [])
theorem mcX8_isSomeBelowEmpty : MC yX8_isSomeBelowEmpty mX8_isSomeBelowEmpty 1 := ⟨inT 510 (by decide +kernel) rfl, inT 1 (by decide +kernel) rfl, ⟨by decide +kernel, by decide +kernel⟩, by decide +kernel, by decide +kernel, rfl, rfl, fun z => nomatch z⟩
abbrev mX8_liftOver : MI := (RX8, cX8_liftOver, 3, (some FieldType.int), { frames := 1, cells := 0, slots := 0, locals := 21 }, false, [])
theorem mcX8_liftOver : MC yX8_liftOver mX8_liftOver 1 := ⟨inT 514 (by decide +kernel) rfl, inT 1 (by decide +kernel) rfl, ⟨by decide +kernel, by decide +kernel⟩, by decide +kernel, by decide +kernel, rfl, rfl, fun z => nomatch z⟩
abbrev mX8_isMisfit : MI := (RX8, cX8_isMisfit, 5, (some FieldType.boolean), { frames := 4, cells := 0, slots := 0, locals := 88 }, false, [])
theorem mcX8_isMisfit : MC yX8_isMisfit mX8_isMisfit 1 := ⟨inT 522 (by decide +kernel) rfl, inT 1 (by decide +kernel) rfl, ⟨by decide +kernel, by decide +kernel⟩, by decide +kernel, by decide +kernel, rfl, rfl, fun z => nomatch z⟩
abbrev mX8_neighbourAhead : MI := (RX8, cX8_neighbourAhead, 2, (some (FieldType.object "Stowfinish$Block")), { frames := 3, cells := 0, slots := 0, locals := 67 }, false, [])
theorem mcX8_neighbourAhead : MC yX8_neighbourAhead mX8_neighbourAhead 1 := ⟨inT 489 (by decide +kernel) rfl, inT 1 (by decide +kernel) rfl, ⟨by decide +kernel, by decide +kernel⟩, by decide +kernel, by decide +kernel, rfl, rfl, fun z => nomatch z⟩
abbrev mX8_neighbourBehind : MI := (RX8, cX8_neighbourBehind, 2, (some (FieldType.object "Stowfinish$Block")), { frames := 3, cells := 0, slots := 0, locals := 67 }, false, [])
theorem mcX8_neighbourBehind : MC yX8_neighbourBehind mX8_neighbourBehind 1 := ⟨inT 498 (by decide +kernel) rfl, inT 1 (by decide +kernel) rfl, ⟨by decide +kernel, by decide +kernel⟩, by decide +kernel, by decide +kernel, rfl, rfl, fun z => nomatch z⟩
abbrev mX8_excess : MI := (RX8, cX8_excess, 3, (some FieldType.int), { frames := 1, cells := 0, slots := 0, locals := 20 }, false, [])
theorem mcX8_excess : MC yX8_excess mX8_excess 3 := ⟨inT 525 (by decide +kernel) rfl, inT 1 (by decide +kernel) rfl, ⟨by decide +kernel, by decide +kernel⟩, by decide +kernel, by decide +kernel, rfl, rfl, fun z => nomatch z⟩
abbrev mX8_beginOf : MI := (RX8, cX8_beginOf, 3, (some FieldType.int), { frames := 1, cells := 0, slots := 0, locals := 20 }, false, [])
theorem mcX8_beginOf : MC yX8_beginOf mX8_beginOf 3 := ⟨inT 533 (by decide +kernel) rfl, inT 1 (by decide +kernel) rfl, ⟨by decide +kernel, by decide +kernel⟩, by decide +kernel, by decide +kernel, rfl, rfl, fun z => nomatch z⟩
abbrev mX8_roomNextTo : MI := (RX8, cX8_roomNextTo, 4, (some (FieldType.object "Stowfinish$Room")), { frames := 2, cells := 0, slots := 0, locals := 44 }, false, [])
theorem mcX8_roomNextTo : MC yX8_roomNextTo mX8_roomNextTo 2 := ⟨inT 616 (by decide +kernel) rfl, inT 1 (by decide +kernel) rfl, ⟨by decide +kernel, by decide +kernel⟩, by decide +kernel, by decide +kernel, rfl, rfl, fun z => nomatch z⟩
abbrev mX8_runThrough : MI := (RX8, cX8_runThrough, 7, none, { frames := 1, cells := 0, slots := 0, locals := 22 }, false, [])
theorem mcX8_runThrough : MC yX8_runThrough mX8_runThrough 1 := ⟨inT 691 (by decide +kernel) rfl, inT 1 (by decide +kernel) rfl, ⟨by decide +kernel, by decide +kernel⟩, by decide +kernel, by decide +kernel, rfl, rfl, fun z => nomatch z⟩
abbrev mX8_isReady : MI := (RX8, cX8_isReady, 5, (some FieldType.boolean), { frames := 2, cells := 0, slots := 0, locals := 41 }, false, [])
theorem mcX8_isReady : MC yX8_isReady mX8_isReady 0 := ⟨inT 159 (by decide +kernel) rfl, inT 1 (by decide +kernel) rfl, ⟨by decide +kernel, by decide +kernel⟩, by decide +kernel, by decide +kernel, rfl, rfl, fun z => nomatch z⟩
abbrev mJ9_abs_0f7a4 : MI := (RJ9, cJ9_abs_0f7a4, 1, (some FieldType.int), { frames := 0, cells := 0, slots := 0, locals := 0 }, false, [])
abbrev mJ9_max_7cf53 : MI := (RJ9, cJ9_max_7cf53, 2, (some FieldType.int), { frames := 0, cells := 0, slots := 0, locals := 0 }, false, [])
abbrev mJ9_min_7cf53 : MI := (RJ9, cJ9_min_7cf53, 2, (some FieldType.int), { frames := 0, cells := 0, slots := 0, locals := 0 }, false, [])
abbrev mJ7_fill_53178 : MI := (RJ7, cJ7_fill_53178, 4, none, { frames := 0, cells := 0, slots := 0, locals := 0 }, false, [])
theorem mcJ7_fill_53178 : MC yJ7_fill_53178 mJ7_fill_53178 2 := ⟨inT 70 (by decide +kernel) rfl, inT 5 (by decide +kernel) rfl, ⟨by decide +kernel, by decide +kernel⟩, by decide +kernel, by decide +kernel, rfl, rfl, fun z => nomatch z⟩
abbrev mL_part : MI := (RL, cL_part, 4, (some FieldType.int), { frames := 0, cells := 0, slots := 0, locals := 0 }, false, [])
theorem mcL_part : MC yL_part mL_part 3 := ⟨inQ1 192 rfl rfl, inT 0 (by decide +kernel) rfl, ⟨by decide +kernel, by decide +kernel⟩, by decide +kernel, by decide +kernel, rfl, rfl, fun z => nomatch z⟩
abbrev mL_does : MI := (RL, cL_does, 9, (some FieldType.int), { frames := 7, cells := 15, slots := 576, locals := 169 }, false, [((0 : Nat), (297 : Nat), (298 : Nat), (75 : Nat)), ((0 : Nat), (297 : Nat), (303 : Nat), (78 : Nat)), ((0 : Nat), (297 : Nat), (308 : Nat), (81 : Nat))])
theorem mcL_does : MCh yL_does mL_does 8 := ⟨inQ1 196 rfl rfl, inT 0 (by decide +kernel) rfl, ⟨by decide +kernel, by decide +kernel⟩, by decide +kernel, by decide +kernel, rfl, fun z => nomatch z⟩
abbrev mL_at : MI := (RL, cL_at, 3, (some FieldType.int), { frames := 0, cells := 0, slots := 0, locals := 0 }, false, [])
theorem mcL_at : MC yL_at mL_at 3 := ⟨inQ4 61 rfl rfl, inT 0 (by decide +kernel) rfl, ⟨by decide +kernel, by decide +kernel⟩, by decide +kernel, by decide +kernel, rfl, rfl, fun z => nomatch z⟩
abbrev mL_draws : MI := (RL, cL_draws, 5, none, { frames := 0, cells := 0, slots := 0, locals := 0 }, false, [])
theorem mcL_draws : MC yL_draws mL_draws 4 := ⟨inQ4 96 rfl rfl, inT 0 (by decide +kernel) rfl, ⟨by decide +kernel, by decide +kernel⟩, by decide +kernel, by decide +kernel, rfl, rfl, fun z => nomatch z⟩
abbrev mL_welds : MI := (RL, cL_welds, 6, none, { frames := 1, cells := 0, slots := 0, locals := 24 }, false, [])
theorem mcL_welds : MC yL_welds mL_welds 6 := ⟨inQ4 93 rfl rfl, inT 0 (by decide +kernel) rfl, ⟨by decide +kernel, by decide +kernel⟩, by decide +kernel, by decide +kernel, rfl, rfl, fun z => nomatch z⟩
abbrev mL_spoils : MI := (RL, cL_spoils, 3, none, { frames := 0, cells := 0, slots := 0, locals := 0 }, false, [])
theorem mcL_spoils : MC yL_spoils mL_spoils 3 := ⟨inQ4 104 rfl rfl, inT 0 (by decide +kernel) rfl, ⟨by decide +kernel, by decide +kernel⟩, by decide +kernel, by decide +kernel, rfl, rfl, fun z => nomatch z⟩
abbrev mL_why : MI := (RL, cL_why, 16, (some FieldType.int), { frames := 1, cells := 0, slots := 0, locals := 22 }, false, [])
theorem mcL_why : MC yL_why mL_why 8 := ⟨inQ4 58 rfl rfl, inT 0 (by decide +kernel) rfl, ⟨by decide +kernel, by decide +kernel⟩, by decide +kernel, by decide +kernel, rfl, rfl, fun z => nomatch z⟩
abbrev mL_whole : MI := (RL, cL_whole, 3, (some FieldType.int), { frames := 0, cells := 0, slots := 0, locals := 0 }, false, [])
theorem mcL_whole : MC yL_whole mL_whole 2 := ⟨inQ4 107 rfl rfl, inT 0 (by decide +kernel) rfl, ⟨by decide +kernel, by decide +kernel⟩, by decide +kernel, by decide +kernel, rfl, rfl, fun z => nomatch z⟩
abbrev mL_erects : MI := (RL, cL_erects, 17, (some FieldType.int), { frames := 2, cells := 0, slots := 0, locals := 49 }, false, [])
theorem mcL_erects : MC yL_erects mL_erects 9 := ⟨inQ4 100 rfl rfl, inT 0 (by decide +kernel) rfl, ⟨by decide +kernel, by decide +kernel⟩, by decide +kernel, by decide +kernel, rfl, rfl, fun z => nomatch z⟩
abbrev mL_beyond : MI := (RL, cL_beyond, 4, (some FieldType.int), { frames := 0, cells := 0, slots := 0, locals := 0 }, false, [])
theorem mcL_beyond : MC yL_beyond mL_beyond 3 := ⟨inQ4 28 rfl rfl, inT 0 (by decide +kernel) rfl, ⟨by decide +kernel, by decide +kernel⟩, by decide +kernel, by decide +kernel, rfl, rfl, fun z => nomatch z⟩
abbrev mL_ways : MI := (RL, cL_ways, 7, none, { frames := 1, cells := 0, slots := 0, locals := 23 }, false, [])
theorem mcL_ways : MC yL_ways mL_ways 3 := ⟨inQ4 25 rfl rfl, inT 0 (by decide +kernel) rfl, ⟨by decide +kernel, by decide +kernel⟩, by decide +kernel, by decide +kernel, rfl, rfl, fun z => nomatch z⟩
abbrev mL_isPipe : MI := (RL, cL_isPipe, 17, (some FieldType.boolean), { frames := 8, cells := 1600, slots := 26000, locals := 197 }, false, [])
theorem mcL_isPipe : MC yL_isPipe mL_isPipe 6 := ⟨inQ4 22 rfl rfl, inT 0 (by decide +kernel) rfl, ⟨by decide +kernel, by decide +kernel⟩, by decide +kernel, by decide +kernel, rfl, rfl, fun z => nomatch z⟩
abbrev mL_isSo : MI := (RL, cL_isSo, 15, (some FieldType.boolean), { frames := 8, cells := 2400, slots := 16000, locals := 197 }, false, [])
theorem mcL_isSo : MC yL_isSo mL_isSo 10 := ⟨inQ4 31 rfl rfl, inT 0 (by decide +kernel) rfl, ⟨by decide +kernel, by decide +kernel⟩, by decide +kernel, by decide +kernel, rfl, rfl, fun z => nomatch z⟩
abbrev mL_isBlock : MI := (RL, cL_isBlock, 23, (some FieldType.boolean), { frames := 8, cells := 60, slots := 2304, locals := 197 }, false, [])
theorem mcL_isBlock : MC yL_isBlock mL_isBlock 14 := ⟨inQ4 87 rfl rfl, inT 0 (by decide +kernel) rfl, ⟨by decide +kernel, by decide +kernel⟩, by decide +kernel, by decide +kernel, rfl, rfl, fun z => nomatch z⟩
abbrev mL_adds : MI := (RL, cL_adds, 11, none, { frames := 0, cells := 0, slots := 0, locals := 0 }, false, [])
theorem mcL_adds : MC yL_adds mL_adds 11 := ⟨inQ4 90 rfl rfl, inT 0 (by decide +kernel) rfl, ⟨by decide +kernel, by decide +kernel⟩, by decide +kernel, by decide +kernel, rfl, rfl, fun z => nomatch z⟩
abbrev mL_isWeld : MI := (RL, cL_isWeld, 17, (some FieldType.boolean), { frames := 8, cells := 30, slots := 1152, locals := 197 }, false, [])
theorem mcL_isWeld : MC yL_isWeld mL_isWeld 9 := ⟨inQ4 110 rfl rfl, inT 0 (by decide +kernel) rfl, ⟨by decide +kernel, by decide +kernel⟩, by decide +kernel, by decide +kernel, rfl, rfl, fun z => nomatch z⟩
abbrev mL_isRoom : MI := (RL, cL_isRoom, 14, (some FieldType.boolean), { frames := 8, cells := 45, slots := 1728, locals := 197 }, false, [])
theorem mcL_isRoom : MC yL_isRoom mL_isRoom 7 := ⟨inQ4 113 rfl rfl, inT 0 (by decide +kernel) rfl, ⟨by decide +kernel, by decide +kernel⟩, by decide +kernel, by decide +kernel, rfl, rfl, fun z => nomatch z⟩
abbrev mL_isTold : MI := (RL, cL_isTold, 9, (some FieldType.boolean), { frames := 8, cells := 45, slots := 1728, locals := 197 }, false, [])
theorem mcL_isTold : MC yL_isTold mL_isTold 5 := ⟨inQ4 116 rfl rfl, inT 0 (by decide +kernel) rfl, ⟨by decide +kernel, by decide +kernel⟩, by decide +kernel, by decide +kernel, rfl, rfl, fun z => nomatch z⟩
theorem obX0_3 : Cond.methodLink RX0 3 Lib.objectInit ∈ TB := inT 335 (by decide +kernel) rfl
theorem fgX0_9 : FG RX0 9 0 0 := ⟨_, _, _, _, _, ciX0, by decide, inT 336 (by decide +kernel) rfl⟩
theorem fpX0_9 : FP RX0 9 0 0 true (.int) := ⟨_, _, _, _, _, ciX0, by decide, inT 336 (by decide +kernel) rfl, rfl, rfl, fun _ => rfl⟩
theorem fgX0_15 : FG RX0 15 0 1 := ⟨_, _, _, _, _, ciX0, by decide, inT 339 (by decide +kernel) rfl⟩
theorem fpX0_15 : FP RX0 15 0 1 true (.int) := ⟨_, _, _, _, _, ciX0, by decide, inT 339 (by decide +kernel) rfl, rfl, rfl, fun _ => rfl⟩
theorem fgX0_18 : FG RX0 18 0 2 := ⟨_, _, _, _, _, ciX0, by decide, inT 342 (by decide +kernel) rfl⟩
theorem fpX0_18 : FP RX0 18 0 2 true (.int) := ⟨_, _, _, _, _, ciX0, by decide, inT 342 (by decide +kernel) rfl, rfl, rfl, fun _ => rfl⟩
theorem fgX0_21 : FG RX0 21 0 3 := ⟨_, _, _, _, _, ciX0, by decide, inT 345 (by decide +kernel) rfl⟩
theorem fpX0_21 : FP RX0 21 0 3 true (.int) := ⟨_, _, _, _, _, ciX0, by decide, inT 345 (by decide +kernel) rfl, rfl, rfl, fun _ => rfl⟩
theorem fgX0_24 : FG RX0 24 0 4 := ⟨_, _, _, _, _, ciX0, by decide, inT 349 (by decide +kernel) rfl⟩
theorem fpX0_24 : FP RX0 24 0 4 true (.int) := ⟨_, _, _, _, _, ciX0, by decide, inT 349 (by decide +kernel) rfl, rfl, rfl, fun _ => rfl⟩
theorem fgX0_27 : FG RX0 27 0 6 := ⟨_, _, _, _, _, ciX0, by decide, inT 354 (by decide +kernel) rfl⟩
theorem fpX0_27 : FP RX0 27 0 6 false (.int) := ⟨_, _, _, _, _, ciX0, by decide, inT 354 (by decide +kernel) rfl, rfl, rfl, fun z => nomatch z⟩
theorem fgX0_30 : FG RX0 30 0 5 := ⟨_, _, _, _, _, ciX0, by decide, inT 352 (by decide +kernel) rfl⟩
theorem fpX0_30 : FP RX0 30 0 5 true (.int) := ⟨_, _, _, _, _, ciX0, by decide, inT 352 (by decide +kernel) rfl, rfl, rfl, fun _ => rfl⟩
theorem fgX0_33 : FG RX0 33 0 7 := ⟨_, _, _, _, _, ciX0, by decide, inT 356 (by decide +kernel) rfl⟩
theorem fpX0_33 : FP RX0 33 0 7 false (.int) := ⟨_, _, _, _, _, ciX0, by decide, inT 356 (by decide +kernel) rfl, rfl, rfl, fun z => nomatch z⟩
theorem fgX0_36 : FG RX0 36 0 8 := ⟨_, _, _, _, _, ciX0, by decide, inT 358 (by decide +kernel) rfl⟩
theorem fpX0_36 : FP RX0 36 0 8 false (.int) := ⟨_, _, _, _, _, ciX0, by decide, inT 358 (by decide +kernel) rfl, rfl, rfl, fun z => nomatch z⟩
theorem fgX0_39 : FG RX0 39 0 9 := ⟨_, _, _, _, _, ciX0, by decide, inT 361 (by decide +kernel) rfl⟩
theorem fpX0_39 : FP RX0 39 0 9 false (.object "Stowfinish$Block") := ⟨_, _, _, _, _, ciX0, by decide, inT 361 (by decide +kernel) rfl, rfl, rfl, fun z => nomatch z⟩
theorem lkX0_43 : LkV RX0 43 yX0_frames := ⟨inT 799 (by decide +kernel) rfl, inT 406 (by decide +kernel) rfl, inT 407 (by decide +kernel) rfl⟩
theorem obX1_3 : Cond.methodLink RX1 3 Lib.objectInit ∈ TB := inT 37 (by decide +kernel) rfl
theorem naX1_9 : Cond.classLink RX1 9 RX4 ∈ TB := inT 38 (by decide +kernel) rfl
theorem fgX1_11 : FG RX1 11 1 0 := ⟨_, _, _, _, _, ciX1, by decide, inT 40 (by decide +kernel) rfl⟩
theorem fpX1_11 : FP RX1 11 1 0 true (.array (.object "Stowfinish$Room")) := ⟨_, _, _, _, _, ciX1, by decide, inT 40 (by decide +kernel) rfl, rfl, rfl, fun _ => rfl⟩
theorem fgX1_17 : FG RX1 17 1 1 := ⟨_, _, _, _, _, ciX1, by decide, inT 42 (by decide +kernel) rfl⟩
theorem fpX1_17 : FP RX1 17 1 1 false (.int) := ⟨_, _, _, _, _, ciX1, by decide, inT 42 (by decide +kernel) rfl, rfl, rfl, fun z => nomatch z⟩
theorem fgX1_21 : FG RX1 21 1 2 := ⟨_, _, _, _, _, ciX1, by decide, inT 44 (by decide +kernel) rfl⟩
theorem fpX1_21 : FP RX1 21 1 2 false (.int) := ⟨_, _, _, _, _, ciX1, by decide, inT 44 (by decide +kernel) rfl, rfl, rfl, fun z => nomatch z⟩
theorem lkX1_24 : LkN RX1 24 yX8_cellOf := ⟨by decide +kernel, inT 468 (by decide +kernel) rfl⟩
theorem lkX1_28 : LkV RX1 28 yX1_roomOf := ⟨inT 470 (by decide +kernel) rfl, inT 471 (by decide +kernel) rfl, inT 472 (by decide +kernel) rfl⟩
theorem lkX1_32 : LkV RX1 32 yX1_roomOn := ⟨inT 494 (by decide +kernel) rfl, inT 464 (by decide +kernel) rfl, inT 465 (by decide +kernel) rfl⟩
theorem fgX1_36 : FG RX1 36 4 1 := ⟨_, _, _, _, _, ciX4, by decide, inT 546 (by decide +kernel) rfl⟩
theorem fgX1_40 : FG RX1 40 0 1 := ⟨_, _, _, _, _, ciX0, by decide, inT 340 (by decide +kernel) rfl⟩
theorem fgX1_45 : FG RX1 45 0 2 := ⟨_, _, _, _, _, ciX0, by decide, inT 343 (by decide +kernel) rfl⟩
theorem fgX1_48 : FG RX1 48 0 3 := ⟨_, _, _, _, _, ciX0, by decide, inT 347 (by decide +kernel) rfl⟩
theorem nwX1_9 : Cond.classLink RX1 9 RX4 ∈ TB := inT 38 (by decide +kernel) rfl
theorem lkX1_51 : LkI RX1 51 yX4_init := ⟨inT 539 (by decide +kernel) rfl, inT 540 (by decide +kernel) rfl, rfl⟩
theorem fgX1_54 : FG RX1 54 0 4 := ⟨_, _, _, _, _, ciX0, by decide, inT 350 (by decide +kernel) rfl⟩
theorem lkX1_55 : LkV RX1 55 yX1_load := ⟨inT 577 (by decide +kernel) rfl, inT 578 (by decide +kernel) rfl, inT 579 (by decide +kernel) rfl⟩
theorem fgX1_59 : FG RX1 59 4 2 := ⟨_, _, _, _, _, ciX4, by decide, inT 549 (by decide +kernel) rfl⟩
theorem lkX1_63 : LkV RX1 63 yX4_frame := ⟨inT 794 (by decide +kernel) rfl, inT 618 (by decide +kernel) rfl, inT 619 (by decide +kernel) rfl⟩
theorem lkX1_67 : LkV RX1 67 yX0_tonsAt := ⟨inT 795 (by decide +kernel) rfl, inT 796 (by decide +kernel) rfl, inT 797 (by decide +kernel) rfl⟩
theorem fgX1_71 : FG RX1 71 4 3 := ⟨_, _, _, _, _, ciX4, by decide, inT 552 (by decide +kernel) rfl⟩
theorem fgX1_74 : FG RX1 74 4 4 := ⟨_, _, _, _, _, ciX4, by decide, inT 555 (by decide +kernel) rfl⟩
theorem lkX1_77 : LkV RX1 77 yX1_balance := ⟨inT 180 (by decide +kernel) rfl, inT 149 (by decide +kernel) rfl, inT 150 (by decide +kernel) rfl⟩
theorem lkX1_80 : LkV RX1 80 yX1_depth := ⟨inT 176 (by decide +kernel) rfl, inT 177 (by decide +kernel) rfl, inT 178 (by decide +kernel) rfl⟩
theorem maX1_84 : Cond.methodLink RX1 84 Lib.Math.max.name ∈ TB := inT 181 (by decide +kernel) rfl
theorem obX2_3 : Cond.methodLink RX2 3 Lib.objectInit ∈ TB := inT 86 (by decide +kernel) rfl
theorem fgX2_9 : FG RX2 9 2 0 := ⟨_, _, _, _, _, ciX2, by decide, inT 87 (by decide +kernel) rfl⟩
theorem fpX2_9 : FP RX2 9 2 0 true (.array .int) := ⟨_, _, _, _, _, ciX2, by decide, inT 87 (by decide +kernel) rfl, rfl, rfl, fun _ => rfl⟩
theorem fgX2_15 : FG RX2 15 2 1 := ⟨_, _, _, _, _, ciX2, by decide, inT 88 (by decide +kernel) rfl⟩
theorem fpX2_15 : FP RX2 15 2 1 false (.int) := ⟨_, _, _, _, _, ciX2, by decide, inT 88 (by decide +kernel) rfl, rfl, rfl, fun z => nomatch z⟩
theorem fgX2_19 : FG RX2 19 2 2 := ⟨_, _, _, _, _, ciX2, by decide, inT 89 (by decide +kernel) rfl⟩
theorem fpX2_19 : FP RX2 19 2 2 false (.int) := ⟨_, _, _, _, _, ciX2, by decide, inT 89 (by decide +kernel) rfl, rfl, rfl, fun z => nomatch z⟩
theorem obX3_1 : Cond.methodLink RX3 1 Lib.objectInit ∈ TB := inT 682 (by decide +kernel) rfl
theorem fgX3_7 : FG RX3 7 3 0 := ⟨_, _, _, _, _, ciX3, by decide, inT 683 (by decide +kernel) rfl⟩
theorem fpX3_7 : FP RX3 7 3 0 true (.array .int) := ⟨_, _, _, _, _, ciX3, by decide, inT 683 (by decide +kernel) rfl, rfl, rfl, fun _ => rfl⟩
theorem obX4_3 : Cond.methodLink RX4 3 Lib.objectInit ∈ TB := inT 542 (by decide +kernel) rfl
theorem fgX4_9 : FG RX4 9 4 0 := ⟨_, _, _, _, _, ciX4, by decide, inT 543 (by decide +kernel) rfl⟩
theorem fpX4_9 : FP RX4 9 4 0 true (.int) := ⟨_, _, _, _, _, ciX4, by decide, inT 543 (by decide +kernel) rfl, rfl, rfl, fun _ => rfl⟩
theorem fgX4_15 : FG RX4 15 4 1 := ⟨_, _, _, _, _, ciX4, by decide, inT 545 (by decide +kernel) rfl⟩
theorem fpX4_15 : FP RX4 15 4 1 true (.object "Stowfinish$Block") := ⟨_, _, _, _, _, ciX4, by decide, inT 545 (by decide +kernel) rfl, rfl, rfl, fun _ => rfl⟩
theorem fgX4_19 : FG RX4 19 4 2 := ⟨_, _, _, _, _, ciX4, by decide, inT 548 (by decide +kernel) rfl⟩
theorem fpX4_19 : FP RX4 19 4 2 false (.boolean) := ⟨_, _, _, _, _, ciX4, by decide, inT 548 (by decide +kernel) rfl, rfl, rfl, fun z => nomatch z⟩
theorem fgX4_23 : FG RX4 23 4 3 := ⟨_, _, _, _, _, ciX4, by decide, inT 551 (by decide +kernel) rfl⟩
theorem fpX4_23 : FP RX4 23 4 3 false (.int) := ⟨_, _, _, _, _, ciX4, by decide, inT 551 (by decide +kernel) rfl, rfl, rfl, fun z => nomatch z⟩
theorem fgX4_26 : FG RX4 26 4 4 := ⟨_, _, _, _, _, ciX4, by decide, inT 554 (by decide +kernel) rfl⟩
theorem fpX4_26 : FP RX4 26 4 4 false (.int) := ⟨_, _, _, _, _, ciX4, by decide, inT 554 (by decide +kernel) rfl, rfl, rfl, fun z => nomatch z⟩
theorem fgX4_29 : FG RX4 29 4 5 := ⟨_, _, _, _, _, ciX4, by decide, inT 557 (by decide +kernel) rfl⟩
theorem fpX4_29 : FP RX4 29 4 5 false (.int) := ⟨_, _, _, _, _, ciX4, by decide, inT 557 (by decide +kernel) rfl, rfl, rfl, fun z => nomatch z⟩
theorem fgX4_32 : FG RX4 32 4 6 := ⟨_, _, _, _, _, ciX4, by decide, inT 560 (by decide +kernel) rfl⟩
theorem fpX4_32 : FP RX4 32 4 6 false (.int) := ⟨_, _, _, _, _, ciX4, by decide, inT 560 (by decide +kernel) rfl, rfl, rfl, fun z => nomatch z⟩
theorem fgX4_35 : FG RX4 35 0 0 := ⟨_, _, _, _, _, ciX0, by decide, inT 337 (by decide +kernel) rfl⟩
theorem obX5_3 : Cond.methodLink RX5 3 Lib.objectInit ∈ TB := inT 57 (by decide +kernel) rfl
theorem fgX5_9 : FG RX5 9 5 0 := ⟨_, _, _, _, _, ciX5, by decide, inT 58 (by decide +kernel) rfl⟩
theorem fpX5_9 : FP RX5 9 5 0 true (.object "Stowfinish$Hull") := ⟨_, _, _, _, _, ciX5, by decide, inT 58 (by decide +kernel) rfl, rfl, rfl, fun _ => rfl⟩
theorem lkX5_15 : LkV RX5 15 yX5_measure := ⟨inT 648 (by decide +kernel) rfl, inT 650 (by decide +kernel) rfl, inS 19 (by decide +kernel) rfl⟩
theorem fgX5_19 : FG RX5 19 4 6 := ⟨_, _, _, _, _, ciX4, by decide, inT 561 (by decide +kernel) rfl⟩
theorem fgX5_25 : FG RX5 25 4 0 := ⟨_, _, _, _, _, ciX4, by decide, inT 544 (by decide +kernel) rfl⟩
theorem lkX5_28 : LkV RX5 28 yX5_lowestNearer := ⟨inT 673 (by decide +kernel) rfl, inT 675 (by decide +kernel) rfl, inS 23 (by decide +kernel) rfl⟩
theorem fgX5_32 : FG RX5 32 1 0 := ⟨_, _, _, _, _, ciX1, by decide, inT 41 (by decide +kernel) rfl⟩
theorem fpX5_19 : FP RX5 19 4 6 false (.int) := ⟨_, _, _, _, _, ciX4, by decide, inT 561 (by decide +kernel) rfl, rfl, rfl, fun z => nomatch z⟩
theorem lkX5_38 : LkV RX5 38 yX4_hasAllPipes := ⟨inT 652 (by decide +kernel) rfl, inT 653 (by decide +kernel) rfl, inT 654 (by decide +kernel) rfl⟩
theorem lkX5_42 : LkV RX5 42 yX5_spreadAll := ⟨inT 656 (by decide +kernel) rfl, inT 658 (by decide +kernel) rfl, inS 20 (by decide +kernel) rfl⟩
theorem lkX5_46 : LkV RX5 46 yX5_spread := ⟨inT 660 (by decide +kernel) rfl, inT 662 (by decide +kernel) rfl, inS 21 (by decide +kernel) rfl⟩
theorem lkX5_54 : LkV RX5 54 yX5_through := ⟨inT 666 (by decide +kernel) rfl, inT 668 (by decide +kernel) rfl, inS 22 (by decide +kernel) rfl⟩
theorem fgX5_61 : FG RX5 61 4 5 := ⟨_, _, _, _, _, ciX4, by decide, inT 558 (by decide +kernel) rfl⟩
theorem lkX5_64 : LkV RX5 64 yX1_roomOf := ⟨inT 672 (by decide +kernel) rfl, inT 471 (by decide +kernel) rfl, inT 472 (by decide +kernel) rfl⟩
theorem obX6_3 : Cond.methodLink RX6 3 Lib.objectInit ∈ TB := inT 428 (by decide +kernel) rfl
theorem fgX6_9 : FG RX6 9 6 0 := ⟨_, _, _, _, _, ciX6, by decide, inT 429 (by decide +kernel) rfl⟩
theorem fpX6_9 : FP RX6 9 6 0 true (.object "Stowfinish$Block") := ⟨_, _, _, _, _, ciX6, by decide, inT 429 (by decide +kernel) rfl, rfl, rfl, fun _ => rfl⟩
theorem fgX6_15 : FG RX6 15 6 1 := ⟨_, _, _, _, _, ciX6, by decide, inT 431 (by decide +kernel) rfl⟩
theorem fpX6_15 : FP RX6 15 6 1 true (.int) := ⟨_, _, _, _, _, ciX6, by decide, inT 431 (by decide +kernel) rfl, rfl, rfl, fun _ => rfl⟩
theorem fgX6_19 : FG RX6 19 6 2 := ⟨_, _, _, _, _, ciX6, by decide, inT 433 (by decide +kernel) rfl⟩
theorem fpX6_19 : FP RX6 19 6 2 false (.int) := ⟨_, _, _, _, _, ciX6, by decide, inT 433 (by decide +kernel) rfl, rfl, rfl, fun z => nomatch z⟩
theorem fgX6_22 : FG RX6 22 6 3 := ⟨_, _, _, _, _, ciX6, by decide, inT 435 (by decide +kernel) rfl⟩
theorem fpX6_22 : FP RX6 22 6 3 false (.int) := ⟨_, _, _, _, _, ciX6, by decide, inT 435 (by decide +kernel) rfl, rfl, rfl, fun z => nomatch z⟩
theorem fgX6_25 : FG RX6 25 6 4 := ⟨_, _, _, _, _, ciX6, by decide, inT 437 (by decide +kernel) rfl⟩
theorem fpX6_25 : FP RX6 25 6 4 false (.boolean) := ⟨_, _, _, _, _, ciX6, by decide, inT 437 (by decide +kernel) rfl, rfl, rfl, fun z => nomatch z⟩
theorem lkX6_29 : LkV RX6 29 yX0_outermost := ⟨inT 168 (by decide +kernel) rfl, inT 169 (by decide +kernel) rfl, inT 170 (by decide +kernel) rfl⟩
theorem fgX6_35 : FG RX6 35 0 8 := ⟨_, _, _, _, _, ciX0, by decide, inT 359 (by decide +kernel) rfl⟩
theorem fgX6_38 : FG RX6 38 0 3 := ⟨_, _, _, _, _, ciX0, by decide, inT 346 (by decide +kernel) rfl⟩
theorem obX7_3 : Cond.methodLink RX7 3 Lib.objectInit ∈ TB := inT 67 (by decide +kernel) rfl
theorem fgX7_9 : FG RX7 9 7 0 := ⟨_, _, _, _, _, ciX7, by decide, inT 71 (by decide +kernel) rfl⟩
theorem fpX7_9 : FP RX7 9 7 0 true (.array .int) := ⟨_, _, _, _, _, ciX7, by decide, inT 71 (by decide +kernel) rfl, rfl, rfl, fun _ => rfl⟩
theorem lkX7_15 : LkS RX7 15 yJ7_fill_53178 := ⟨inT 68 (by decide +kernel) rfl, inT 69 (by decide +kernel) rfl⟩
theorem fgX7_21 : FG RX7 21 7 1 := ⟨_, _, _, _, _, ciX7, by decide, inT 73 (by decide +kernel) rfl⟩
theorem fpX7_21 : FP RX7 21 7 1 false (.int) := ⟨_, _, _, _, _, ciX7, by decide, inT 73 (by decide +kernel) rfl, rfl, rfl, fun z => nomatch z⟩
theorem lcX7_25 : Cond.constant RX7 25 (1103515245) ∈ TB := inT 458 (by decide +kernel) rfl
theorem obX8_3 : Cond.methodLink RX8 3 Lib.objectInit ∈ TB := inT 23 (by decide +kernel) rfl
theorem naX8_9 : Cond.classLink RX8 9 RX0 ∈ TB := inT 26 (by decide +kernel) rfl
theorem fgX8_11 : FG RX8 11 8 0 := ⟨_, _, _, _, _, ciX8, by decide, inT 98 (by decide +kernel) rfl⟩
theorem fpX8_11 : FP RX8 11 8 0 true (.array (.object "Stowfinish$Block")) := ⟨_, _, _, _, _, ciX8, by decide, inT 98 (by decide +kernel) rfl, rfl, rfl, fun _ => rfl⟩
theorem naX8_15 : Cond.classLink RX8 15 RX6 ∈ TB := inT 28 (by decide +kernel) rfl
theorem fgX8_17 : FG RX8 17 8 1 := ⟨_, _, _, _, _, ciX8, by decide, inT 99 (by decide +kernel) rfl⟩
theorem fpX8_17 : FP RX8 17 8 1 true (.array (.object "Stowfinish$Weld")) := ⟨_, _, _, _, _, ciX8, by decide, inT 99 (by decide +kernel) rfl, rfl, rfl, fun _ => rfl⟩
theorem naX8_21 : Cond.classLink RX8 21 RX3 ∈ TB := inT 30 (by decide +kernel) rfl
theorem fgX8_23 : FG RX8 23 8 2 := ⟨_, _, _, _, _, ciX8, by decide, inT 100 (by decide +kernel) rfl⟩
theorem fpX8_23 : FP RX8 23 8 2 true (.array (.object "Stowfinish$Pipe")) := ⟨_, _, _, _, _, ciX8, by decide, inT 100 (by decide +kernel) rfl, rfl, rfl, fun _ => rfl⟩
theorem nwX8_27 : Cond.classLink RX8 27 RX1 ∈ TB := inT 32 (by decide +kernel) rfl
theorem lkX8_29 : LkI RX8 29 yX1_init := ⟨inT 34 (by decide +kernel) rfl, inT 35 (by decide +kernel) rfl, rfl⟩
theorem fgX8_30 : FG RX8 30 8 3 := ⟨_, _, _, _, _, ciX8, by decide, inT 101 (by decide +kernel) rfl⟩
theorem fpX8_30 : FP RX8 30 8 3 true (.object "Stowfinish$Hull") := ⟨_, _, _, _, _, ciX8, by decide, inT 101 (by decide +kernel) rfl, rfl, rfl, fun _ => rfl⟩
theorem nwX8_34 : Cond.classLink RX8 34 RX5 ∈ TB := inT 52 (by decide +kernel) rfl
theorem lkX8_36 : LkI RX8 36 yX5_init := ⟨inT 54 (by decide +kernel) rfl, inT 55 (by decide +kernel) rfl, rfl⟩
theorem fgX8_39 : FG RX8 39 8 4 := ⟨_, _, _, _, _, ciX8, by decide, inT 102 (by decide +kernel) rfl⟩
theorem fpX8_39 : FP RX8 39 8 4 true (.object "Stowfinish$Ways") := ⟨_, _, _, _, _, ciX8, by decide, inT 102 (by decide +kernel) rfl, rfl, rfl, fun _ => rfl⟩
theorem nwX8_43 : Cond.classLink RX8 43 RX7 ∈ TB := inT 62 (by decide +kernel) rfl
theorem lkX8_45 : LkI RX8 45 yX7_init := ⟨inT 64 (by decide +kernel) rfl, inT 65 (by decide +kernel) rfl, rfl⟩
theorem fgX8_46 : FG RX8 46 8 5 := ⟨_, _, _, _, _, ciX8, by decide, inT 103 (by decide +kernel) rfl⟩
theorem fpX8_46 : FP RX8 46 8 5 true (.object "Stowfinish$Welders") := ⟨_, _, _, _, _, ciX8, by decide, inT 103 (by decide +kernel) rfl, rfl, rfl, fun _ => rfl⟩
theorem nwX8_50 : Cond.classLink RX8 50 RX2 ∈ TB := inT 81 (by decide +kernel) rfl
theorem lkX8_52 : LkI RX8 52 yX2_init := ⟨inT 83 (by decide +kernel) rfl, inT 84 (by decide +kernel) rfl, rfl⟩
theorem fgX8_53 : FG RX8 53 8 6 := ⟨_, _, _, _, _, ciX8, by decide, inT 104 (by decide +kernel) rfl⟩
theorem fpX8_53 : FP RX8 53 8 6 true (.object "Stowfinish$Ledger") := ⟨_, _, _, _, _, ciX8, by decide, inT 104 (by decide +kernel) rfl, rfl, rfl, fun _ => rfl⟩
theorem fgX8_57 : FG RX8 57 8 7 := ⟨_, _, _, _, _, ciX8, by decide, inT 105 (by decide +kernel) rfl⟩
theorem fpX8_57 : FP RX8 57 8 7 false (.int) := ⟨_, _, _, _, _, ciX8, by decide, inT 105 (by decide +kernel) rfl, rfl, rfl, fun z => nomatch z⟩
theorem fgX8_61 : FG RX8 61 8 8 := ⟨_, _, _, _, _, ciX8, by decide, inT 106 (by decide +kernel) rfl⟩
theorem fpX8_61 : FP RX8 61 8 8 false (.int) := ⟨_, _, _, _, _, ciX8, by decide, inT 106 (by decide +kernel) rfl, rfl, rfl, fun z => nomatch z⟩
theorem fgX8_64 : FG RX8 64 8 9 := ⟨_, _, _, _, _, ciX8, by decide, inT 107 (by decide +kernel) rfl⟩
theorem fpX8_64 : FP RX8 64 8 9 false (.int) := ⟨_, _, _, _, _, ciX8, by decide, inT 107 (by decide +kernel) rfl, rfl, rfl, fun z => nomatch z⟩
theorem fgX8_67 : FG RX8 67 8 10 := ⟨_, _, _, _, _, ciX8, by decide, inT 108 (by decide +kernel) rfl⟩
theorem fpX8_67 : FP RX8 67 8 10 false (.int) := ⟨_, _, _, _, _, ciX8, by decide, inT 108 (by decide +kernel) rfl, rfl, rfl, fun z => nomatch z⟩
theorem fgX8_70 : FG RX8 70 8 11 := ⟨_, _, _, _, _, ciX8, by decide, inT 109 (by decide +kernel) rfl⟩
theorem fpX8_70 : FP RX8 70 8 11 false (.int) := ⟨_, _, _, _, _, ciX8, by decide, inT 109 (by decide +kernel) rfl, rfl, rfl, fun z => nomatch z⟩
theorem fgX8_73 : FG RX8 73 8 12 := ⟨_, _, _, _, _, ciX8, by decide, inT 110 (by decide +kernel) rfl⟩
theorem fpX8_73 : FP RX8 73 8 12 false (.int) := ⟨_, _, _, _, _, ciX8, by decide, inT 110 (by decide +kernel) rfl, rfl, rfl, fun z => nomatch z⟩
theorem fgX8_76 : FG RX8 76 8 13 := ⟨_, _, _, _, _, ciX8, by decide, inT 111 (by decide +kernel) rfl⟩
theorem fpX8_76 : FP RX8 76 8 13 false (.int) := ⟨_, _, _, _, _, ciX8, by decide, inT 111 (by decide +kernel) rfl, rfl, rfl, fun z => nomatch z⟩
theorem fgX8_79 : FG RX8 79 8 14 := ⟨_, _, _, _, _, ciX8, by decide, inT 112 (by decide +kernel) rfl⟩
theorem fpX8_79 : FP RX8 79 8 14 false (.boolean) := ⟨_, _, _, _, _, ciX8, by decide, inT 112 (by decide +kernel) rfl, rfl, rfl, fun z => nomatch z⟩
theorem lkX8_83 : LkS RX8 83 yX8_isWithin := ⟨inT 204 (by decide +kernel) rfl, inT 205 (by decide +kernel) rfl⟩
theorem lkX8_94 : LkS RX8 94 yX8_isFrame := ⟨inT 279 (by decide +kernel) rfl, inT 280 (by decide +kernel) rfl⟩
theorem fgX8_105 : FG RX8 105 7 0 := ⟨_, _, _, _, _, ciX7, by decide, inT 72 (by decide +kernel) rfl⟩
theorem fgX8_113 : FG RX8 113 7 1 := ⟨_, _, _, _, _, ciX7, by decide, inT 74 (by decide +kernel) rfl⟩
theorem fpX8_113 : FP RX8 113 7 1 false (.int) := ⟨_, _, _, _, _, ciX7, by decide, inT 74 (by decide +kernel) rfl, rfl, rfl, fun z => nomatch z⟩
theorem lkX8_120 : LkV RX8 120 yX8_hasSpaceForBlock := ⟨inT 311 (by decide +kernel) rfl, inT 313 (by decide +kernel) rfl, inS 2 (by decide +kernel) rfl⟩
theorem nwX8_9 : Cond.classLink RX8 9 RX0 ∈ TB := inT 26 (by decide +kernel) rfl
theorem lkX8_129 : LkI RX8 129 yX0_init := ⟨inT 332 (by decide +kernel) rfl, inT 333 (by decide +kernel) rfl, rfl⟩
theorem lkX8_132 : LkV RX8 132 yX8_keep := ⟨inT 384 (by decide +kernel) rfl, inT 386 (by decide +kernel) rfl, inS 3 (by decide +kernel) rfl⟩
theorem lkX8_136 : LkV RX8 136 yX8_blockOf := ⟨inT 392 (by decide +kernel) rfl, inT 394 (by decide +kernel) rfl, inS 4 (by decide +kernel) rfl⟩
theorem lkX8_140 : LkV RX8 140 yX7_has := ⟨inT 396 (by decide +kernel) rfl, inT 397 (by decide +kernel) rfl, inT 398 (by decide +kernel) rfl⟩
theorem lkX8_145 : LkV RX8 145 yX8_canJoin := ⟨inT 401 (by decide +kernel) rfl, inT 403 (by decide +kernel) rfl, inS 5 (by decide +kernel) rfl⟩
theorem lkX8_149 : LkV RX8 149 yX8_hasSpaceForWelds := ⟨inT 412 (by decide +kernel) rfl, inT 414 (by decide +kernel) rfl, inS 6 (by decide +kernel) rfl⟩
theorem fgX8_154 : FG RX8 154 0 6 := ⟨_, _, _, _, _, ciX0, by decide, inT 355 (by decide +kernel) rfl⟩
theorem fgX8_157 : FG RX8 157 0 3 := ⟨_, _, _, _, _, ciX0, by decide, inT 348 (by decide +kernel) rfl⟩
theorem fgX8_160 : FG RX8 160 0 1 := ⟨_, _, _, _, _, ciX0, by decide, inT 341 (by decide +kernel) rfl⟩
theorem fgX8_163 : FG RX8 163 0 2 := ⟨_, _, _, _, _, ciX0, by decide, inT 344 (by decide +kernel) rfl⟩
theorem lkX8_166 : LkS RX8 166 yX8_tonsTogether := ⟨inT 409 (by decide +kernel) rfl, inT 410 (by decide +kernel) rfl⟩
theorem fgX8_170 : FG RX8 170 0 5 := ⟨_, _, _, _, _, ciX0, by decide, inT 353 (by decide +kernel) rfl⟩
theorem lkX8_173 : LkS RX8 173 yX8_becomePart := ⟨inT 417 (by decide +kernel) rfl, inT 418 (by decide +kernel) rfl⟩
theorem lkX8_177 : LkV RX8 177 yX8_makeWeld := ⟨inT 420 (by decide +kernel) rfl, inT 422 (by decide +kernel) rfl, inS 7 (by decide +kernel) rfl⟩
theorem lkX8_181 : LkV RX8 181 yX8_neighbourAhead := ⟨inT 486 (by decide +kernel) rfl, inT 488 (by decide +kernel) rfl, inS 10 (by decide +kernel) rfl⟩
theorem lkX8_185 : LkV RX8 185 yX8_neighbourBehind := ⟨inT 495 (by decide +kernel) rfl, inT 497 (by decide +kernel) rfl, inS 11 (by decide +kernel) rfl⟩
theorem lkX8_188 : LkV RX8 188 yX8_reasonAgainst := ⟨inT 499 (by decide +kernel) rfl, inT 501 (by decide +kernel) rfl, inS 12 (by decide +kernel) rfl⟩
theorem lkX8_193 : LkS RX8 193 yX8_excess := ⟨inT 523 (by decide +kernel) rfl, inT 524 (by decide +kernel) rfl⟩
theorem maX8_197 : Cond.methodLink RX8 197 Lib.Math.max.name ∈ TB := inT 518 (by decide +kernel) rfl
theorem fpX8_154 : FP RX8 154 0 6 false (.int) := ⟨_, _, _, _, _, ciX0, by decide, inT 355 (by decide +kernel) rfl, rfl, rfl, fun z => nomatch z⟩
theorem lkX8_203 : LkS RX8 203 yX8_beginOf := ⟨inT 531 (by decide +kernel) rfl, inT 532 (by decide +kernel) rfl⟩
theorem fgX8_206 : FG RX8 206 0 7 := ⟨_, _, _, _, _, ciX0, by decide, inT 357 (by decide +kernel) rfl⟩
theorem fpX8_206 : FP RX8 206 0 7 false (.int) := ⟨_, _, _, _, _, ciX0, by decide, inT 357 (by decide +kernel) rfl, rfl, rfl, fun z => nomatch z⟩
theorem fgX8_209 : FG RX8 209 0 8 := ⟨_, _, _, _, _, ciX0, by decide, inT 360 (by decide +kernel) rfl⟩
theorem fpX8_209 : FP RX8 209 0 8 false (.int) := ⟨_, _, _, _, _, ciX0, by decide, inT 360 (by decide +kernel) rfl, rfl, rfl, fun z => nomatch z⟩
theorem lkX8_212 : LkV RX8 212 yX1_fill := ⟨inT 534 (by decide +kernel) rfl, inT 535 (by decide +kernel) rfl, inT 536 (by decide +kernel) rfl⟩
theorem lkX8_216 : LkV RX8 216 yX0_frames := ⟨inT 405 (by decide +kernel) rfl, inT 406 (by decide +kernel) rfl, inT 407 (by decide +kernel) rfl⟩
theorem lkX8_220 : LkV RX8 220 yX2_enter := ⟨inT 478 (by decide +kernel) rfl, inT 479 (by decide +kernel) rfl, inT 480 (by decide +kernel) rfl⟩
theorem lkX8_228 : LkV RX8 228 yX0_outermost := ⟨inT 587 (by decide +kernel) rfl, inT 169 (by decide +kernel) rfl, inT 170 (by decide +kernel) rfl⟩
theorem lkX8_232 : LkV RX8 232 yX8_weldOf := ⟨inT 592 (by decide +kernel) rfl, inT 594 (by decide +kernel) rfl, inS 17 (by decide +kernel) rfl⟩
theorem fgX8_238 : FG RX8 238 6 2 := ⟨_, _, _, _, _, ciX6, by decide, inT 434 (by decide +kernel) rfl⟩
theorem lkX8_241 : LkV RX8 241 yX6_isScrapped := ⟨inT 597 (by decide +kernel) rfl, inT 598 (by decide +kernel) rfl, inT 599 (by decide +kernel) rfl⟩
theorem fgX8_246 : FG RX8 246 6 4 := ⟨_, _, _, _, _, ciX6, by decide, inT 438 (by decide +kernel) rfl⟩
theorem fpX8_238 : FP RX8 238 6 2 false (.int) := ⟨_, _, _, _, _, ciX6, by decide, inT 434 (by decide +kernel) rfl, rfl, rfl, fun z => nomatch z⟩
theorem fgX8_251 : FG RX8 251 6 3 := ⟨_, _, _, _, _, ciX6, by decide, inT 436 (by decide +kernel) rfl⟩
theorem fpX8_251 : FP RX8 251 6 3 false (.int) := ⟨_, _, _, _, _, ciX6, by decide, inT 436 (by decide +kernel) rfl, rfl, rfl, fun z => nomatch z⟩
theorem lkX8_256 : LkV RX8 256 yX8_weldNow := ⟨inT 450 (by decide +kernel) rfl, inT 452 (by decide +kernel) rfl, inS 8 (by decide +kernel) rfl⟩
theorem lkX8_260 : LkV RX8 260 yX1_roomOf := ⟨inT 612 (by decide +kernel) rfl, inT 471 (by decide +kernel) rfl, inT 472 (by decide +kernel) rfl⟩
theorem lkX8_264 : LkV RX8 264 yX8_roomNextTo := ⟨inT 613 (by decide +kernel) rfl, inT 615 (by decide +kernel) rfl, inS 18 (by decide +kernel) rfl⟩
theorem fgX8_270 : FG RX8 270 4 5 := ⟨_, _, _, _, _, ciX4, by decide, inT 559 (by decide +kernel) rfl⟩
theorem fpX8_270 : FP RX8 270 4 5 false (.int) := ⟨_, _, _, _, _, ciX4, by decide, inT 559 (by decide +kernel) rfl, rfl, rfl, fun z => nomatch z⟩
theorem lkX8_277 : LkV RX8 277 yX4_spoil := ⟨inT 474 (by decide +kernel) rfl, inT 475 (by decide +kernel) rfl, inT 476 (by decide +kernel) rfl⟩
theorem fgX8_280 : FG RX8 280 4 2 := ⟨_, _, _, _, _, ciX4, by decide, inT 550 (by decide +kernel) rfl⟩
theorem fpX8_280 : FP RX8 280 4 2 false (.boolean) := ⟨_, _, _, _, _, ciX4, by decide, inT 550 (by decide +kernel) rfl, rfl, rfl, fun z => nomatch z⟩
theorem lkX8_285 : LkV RX8 285 yX1_painted := ⟨inT 628 (by decide +kernel) rfl, inT 629 (by decide +kernel) rfl, inT 630 (by decide +kernel) rfl⟩
theorem fgX8_288 : FG RX8 288 4 3 := ⟨_, _, _, _, _, ciX4, by decide, inT 553 (by decide +kernel) rfl⟩
theorem fpX8_288 : FP RX8 288 4 3 false (.int) := ⟨_, _, _, _, _, ciX4, by decide, inT 553 (by decide +kernel) rfl, rfl, rfl, fun z => nomatch z⟩
theorem lkX8_293 : LkV RX8 293 yX4_frame := ⟨inT 617 (by decide +kernel) rfl, inT 618 (by decide +kernel) rfl, inT 619 (by decide +kernel) rfl⟩
theorem lkX8_296 : LkV RX8 296 yX1_load := ⟨inT 637 (by decide +kernel) rfl, inT 578 (by decide +kernel) rfl, inT 579 (by decide +kernel) rfl⟩
theorem lkX8_304 : LkV RX8 304 yX5_seek := ⟨inT 644 (by decide +kernel) rfl, inT 645 (by decide +kernel) rfl, inT 646 (by decide +kernel) rfl⟩
theorem nwX8_21 : Cond.classLink RX8 21 RX3 ∈ TB := inT 30 (by decide +kernel) rfl
theorem lkX8_310 : LkI RX8 310 yX3_init := ⟨inT 679 (by decide +kernel) rfl, inT 680 (by decide +kernel) rfl, rfl⟩
theorem lkX8_313 : LkV RX8 313 yX8_runThrough := ⟨inT 688 (by decide +kernel) rfl, inT 690 (by decide +kernel) rfl, inS 24 (by decide +kernel) rfl⟩
theorem lkX8_318 : LkS RX8 318 yX8_waterAt := ⟨inT 184 (by decide +kernel) rfl, inT 185 (by decide +kernel) rfl⟩
theorem lkX8_322 : LkV RX8 322 yX1_greaterDepth := ⟨inT 172 (by decide +kernel) rfl, inT 173 (by decide +kernel) rfl, inT 174 (by decide +kernel) rfl⟩
theorem lkX8_325 : LkV RX8 325 yX8_isReady := ⟨inT 156 (by decide +kernel) rfl, inT 158 (by decide +kernel) rfl, inS 0 (by decide +kernel) rfl⟩
theorem lkX8_332 : LkV RX8 332 yX0_fact := ⟨inT 707 (by decide +kernel) rfl, inT 708 (by decide +kernel) rfl, inT 709 (by decide +kernel) rfl⟩
theorem lkX8_335 : LkV RX8 335 yX6_fact := ⟨inT 715 (by decide +kernel) rfl, inT 716 (by decide +kernel) rfl, inT 717 (by decide +kernel) rfl⟩
theorem lkX8_338 : LkV RX8 338 yX4_fact := ⟨inT 724 (by decide +kernel) rfl, inT 725 (by decide +kernel) rfl, inT 726 (by decide +kernel) rfl⟩
theorem fgX8_341 : FG RX8 341 3 0 := ⟨_, _, _, _, _, ciX3, by decide, inT 684 (by decide +kernel) rfl⟩
theorem fgX8_344 : FG RX8 344 1 1 := ⟨_, _, _, _, _, ciX1, by decide, inT 43 (by decide +kernel) rfl⟩
theorem lkX8_347 : LkV RX8 347 yX1_tonsOfCells := ⟨inT 790 (by decide +kernel) rfl, inT 791 (by decide +kernel) rfl, inT 792 (by decide +kernel) rfl⟩
theorem lkX8_350 : LkV RX8 350 yX1_balance := ⟨inT 148 (by decide +kernel) rfl, inT 149 (by decide +kernel) rfl, inT 150 (by decide +kernel) rfl⟩
theorem lkX8_353 : LkV RX8 353 yX1_depth := ⟨inT 804 (by decide +kernel) rfl, inT 177 (by decide +kernel) rfl, inT 178 (by decide +kernel) rfl⟩
theorem fgX8_357 : FG RX8 357 2 2 := ⟨_, _, _, _, _, ciX2, by decide, inT 90 (by decide +kernel) rfl⟩
theorem lkX8_360 : LkV RX8 360 yX2_sumOfEntries := ⟨inT 772 (by decide +kernel) rfl, inT 773 (by decide +kernel) rfl, inT 774 (by decide +kernel) rfl⟩
theorem maX8_363 : Cond.methodLink RX8 363 Lib.Math.min.name ∈ TB := inT 187 (by decide +kernel) rfl
theorem fgX8_366 : FG RX8 366 0 0 := ⟨_, _, _, _, _, ciX0, by decide, inT 338 (by decide +kernel) rfl⟩
theorem fgX8_369 : FG RX8 369 0 4 := ⟨_, _, _, _, _, ciX0, by decide, inT 351 (by decide +kernel) rfl⟩
theorem fgX8_370 : FG RX8 370 0 9 := ⟨_, _, _, _, _, ciX0, by decide, inT 362 (by decide +kernel) rfl⟩
theorem fpX8_370 : FP RX8 370 0 9 false (.object "Stowfinish$Block") := ⟨_, _, _, _, _, ciX0, by decide, inT 362 (by decide +kernel) rfl, rfl, rfl, fun z => nomatch z⟩
theorem nwX8_15 : Cond.classLink RX8 15 RX6 ∈ TB := inT 28 (by decide +kernel) rfl
theorem lkX8_374 : LkI RX8 374 yX6_init := ⟨inT 425 (by decide +kernel) rfl, inT 426 (by decide +kernel) rfl, rfl⟩
theorem lkX8_377 : LkV RX8 377 yX7_drawFlaw := ⟨inT 454 (by decide +kernel) rfl, inT 455 (by decide +kernel) rfl, inT 456 (by decide +kernel) rfl⟩
theorem fpX8_246 : FP RX8 246 6 4 false (.boolean) := ⟨_, _, _, _, _, ciX6, by decide, inT 438 (by decide +kernel) rfl, rfl, rfl, fun z => nomatch z⟩
theorem lkX8_380 : LkV RX8 380 yX6_isStanding := ⟨inT 164 (by decide +kernel) rfl, inT 165 (by decide +kernel) rfl, inT 166 (by decide +kernel) rfl⟩
theorem fgX8_383 : FG RX8 383 6 1 := ⟨_, _, _, _, _, ciX6, by decide, inT 432 (by decide +kernel) rfl⟩
theorem fgX8_385 : FG RX8 385 6 0 := ⟨_, _, _, _, _, ciX6, by decide, inT 430 (by decide +kernel) rfl⟩
theorem lkX8_388 : LkV RX8 388 yX8_spoilAt := ⟨inT 459 (by decide +kernel) rfl, inT 461 (by decide +kernel) rfl, inS 9 (by decide +kernel) rfl⟩
theorem lkX8_391 : LkV RX8 391 yX1_roomOn := ⟨inT 463 (by decide +kernel) rfl, inT 464 (by decide +kernel) rfl, inT 465 (by decide +kernel) rfl⟩
theorem lkX8_395 : LkV RX8 395 yX8_isSomeFilled := ⟨inT 503 (by decide +kernel) rfl, inT 505 (by decide +kernel) rfl, inS 13 (by decide +kernel) rfl⟩
theorem lkX8_399 : LkV RX8 399 yX8_isSomeBelowEmpty := ⟨inT 507 (by decide +kernel) rfl, inT 509 (by decide +kernel) rfl, inS 14 (by decide +kernel) rfl⟩
theorem lkX8_402 : LkV RX8 402 yX8_liftOver := ⟨inT 511 (by decide +kernel) rfl, inT 513 (by decide +kernel) rfl, inS 15 (by decide +kernel) rfl⟩
theorem lkX8_405 : LkV RX8 405 yX8_isMisfit := ⟨inT 519 (by decide +kernel) rfl, inT 521 (by decide +kernel) rfl, inS 16 (by decide +kernel) rfl⟩
theorem maX8_408 : Cond.methodLink RX8 408 Lib.Math.abs.name ∈ TB := inT 515 (by decide +kernel) rfl
theorem lkX8_411 : LkV RX8 411 yX1_blockAt := ⟨inT 490 (by decide +kernel) rfl, inT 491 (by decide +kernel) rfl, inT 492 (by decide +kernel) rfl⟩
theorem lkX8_415 : LkV RX8 415 yX0_end := ⟨inT 526 (by decide +kernel) rfl, inT 527 (by decide +kernel) rfl, inT 528 (by decide +kernel) rfl⟩
theorem fgX8_418 : FG RX8 418 4 1 := ⟨_, _, _, _, _, ciX4, by decide, inT 547 (by decide +kernel) rfl⟩
theorem fgX8_419 : FG RX8 419 4 4 := ⟨_, _, _, _, _, ciX4, by decide, inT 556 (by decide +kernel) rfl⟩
theorem fpX8_419 : FP RX8 419 4 4 false (.int) := ⟨_, _, _, _, _, ciX4, by decide, inT 556 (by decide +kernel) rfl, rfl, rfl, fun z => nomatch z⟩
theorem lkX8_421 : LkV RX8 421 yX1_isFull := ⟨inT 160 (by decide +kernel) rfl, inT 161 (by decide +kernel) rfl, inT 162 (by decide +kernel) rfl⟩
theorem lcL_7 : Cond.constant RL 7 (2147483647) ∈ TB := inT 193 (by decide +kernel) rfl
theorem lkL_8 : LkV RL 8 yX8_hall := ⟨inT 200 (by decide +kernel) rfl, inT 201 (by decide +kernel) rfl, inT 202 (by decide +kernel) rfl⟩
theorem lkL_14 : LkV RL 14 yX8_crane := ⟨inT 275 (by decide +kernel) rfl, inT 276 (by decide +kernel) rfl, inT 277 (by decide +kernel) rfl⟩
theorem lkL_17 : LkV RL 17 yX8_welder := ⟨inT 299 (by decide +kernel) rfl, inT 300 (by decide +kernel) rfl, inT 301 (by decide +kernel) rfl⟩
theorem lkL_20 : LkV RL 20 yX8_block := ⟨inT 305 (by decide +kernel) rfl, inT 306 (by decide +kernel) rfl, inT 307 (by decide +kernel) rfl⟩
theorem lkL_24 : LkV RL 24 yX8_join := ⟨inT 388 (by decide +kernel) rfl, inT 389 (by decide +kernel) rfl, inT 390 (by decide +kernel) rfl⟩
theorem lkL_28 : LkV RL 28 yX8_erect := ⟨inT 482 (by decide +kernel) rfl, inT 483 (by decide +kernel) rfl, inT 484 (by decide +kernel) rfl⟩
theorem lkL_31 : LkV RL 31 yX8_scrap := ⟨inT 581 (by decide +kernel) rfl, inT 582 (by decide +kernel) rfl, inT 583 (by decide +kernel) rfl⟩
theorem lkL_35 : LkV RL 35 yX8_test := ⟨inT 588 (by decide +kernel) rfl, inT 589 (by decide +kernel) rfl, inT 590 (by decide +kernel) rfl⟩
theorem lkL_38 : LkV RL 38 yX8_repair := ⟨inT 602 (by decide +kernel) rfl, inT 603 (by decide +kernel) rfl, inT 604 (by decide +kernel) rfl⟩
theorem lkL_41 : LkV RL 41 yX8_hole := ⟨inT 608 (by decide +kernel) rfl, inT 609 (by decide +kernel) rfl, inT 610 (by decide +kernel) rfl⟩
theorem lkL_45 : LkV RL 45 yX8_paint := ⟨inT 623 (by decide +kernel) rfl, inT 624 (by decide +kernel) rfl, inT 625 (by decide +kernel) rfl⟩
theorem lkL_48 : LkV RL 48 yX8_fit := ⟨inT 632 (by decide +kernel) rfl, inT 633 (by decide +kernel) rfl, inT 634 (by decide +kernel) rfl⟩
theorem lkL_51 : LkV RL 51 yX8_pipe := ⟨inT 638 (by decide +kernel) rfl, inT 639 (by decide +kernel) rfl, inT 640 (by decide +kernel) rfl⟩
theorem lkL_54 : LkV RL 54 yX8_launch := ⟨inT 692 (by decide +kernel) rfl, inT 693 (by decide +kernel) rfl, inT 694 (by decide +kernel) rfl⟩
theorem lkL_57 : LkV RL 57 yX8_whyNot := ⟨inT 698 (by decide +kernel) rfl, inT 699 (by decide +kernel) rfl, inT 700 (by decide +kernel) rfl⟩
theorem lkL_60 : LkV RL 60 yX8_told := ⟨inT 702 (by decide +kernel) rfl, inT 703 (by decide +kernel) rfl, inT 704 (by decide +kernel) rfl⟩
theorem lkL_63 : LkV RL 63 yX8_weld := ⟨inT 711 (by decide +kernel) rfl, inT 712 (by decide +kernel) rfl, inT 713 (by decide +kernel) rfl⟩
theorem lkL_66 : LkV RL 66 yX8_cell := ⟨inT 719 (by decide +kernel) rfl, inT 720 (by decide +kernel) rfl, inT 721 (by decide +kernel) rfl⟩
theorem lkL_69 : LkV RL 69 yX8_roomAt := ⟨inT 728 (by decide +kernel) rfl, inT 729 (by decide +kernel) rfl, inT 730 (by decide +kernel) rfl⟩
theorem lkL_72 : LkV RL 72 yX8_water := ⟨inT 733 (by decide +kernel) rfl, inT 734 (by decide +kernel) rfl, inT 735 (by decide +kernel) rfl⟩
theorem lcL_77 : Cond.constant RL 77 (-3000000) ∈ TB := inT 737 (by decide +kernel) rfl
theorem lcL_80 : Cond.constant RL 80 (-2000000) ∈ TB := inT 738 (by decide +kernel) rfl
theorem lcL_83 : Cond.constant RL 83 (-1000000) ∈ TB := inT 739 (by decide +kernel) rfl
theorem lcL_84 : Cond.constant RL 84 (1103515245) ∈ TB := inT 817 (by decide +kernel) rfl
theorem lkL_85 : LkS RL 85 yL_draws := ⟨inT 814 (by decide +kernel) rfl, inT 815 (by decide +kernel) rfl⟩
theorem lkL_91 : LkS RL 91 yL_at := ⟨inT 779 (by decide +kernel) rfl, inT 780 (by decide +kernel) rfl⟩
theorem lcL_95 : Cond.constant RL 95 (100000) ∈ TB := inT 821 (by decide +kernel) rfl
theorem lkL_96 : LkS RL 96 yL_welds := ⟨inT 811 (by decide +kernel) rfl, inT 812 (by decide +kernel) rfl⟩
theorem lkL_100 : LkS RL 100 yL_spoils := ⟨inT 822 (by decide +kernel) rfl, inT 823 (by decide +kernel) rfl⟩
theorem lkL_104 : LkS RL 104 yL_beyond := ⟨inT 746 (by decide +kernel) rfl, inT 747 (by decide +kernel) rfl⟩
theorem lkL_107 : LkS RL 107 yL_ways := ⟨inT 743 (by decide +kernel) rfl, inT 744 (by decide +kernel) rfl⟩
theorem lkL_111 : LkS RL 111 yL_does := ⟨inT 194 (by decide +kernel) rfl, inT 195 (by decide +kernel) rfl⟩
theorem lkL_115 : LkV RL 115 yX8_blocks := ⟨inT 752 (by decide +kernel) rfl, inT 753 (by decide +kernel) rfl, inT 754 (by decide +kernel) rfl⟩
theorem lkL_119 : LkV RL 119 yX8_welds := ⟨inT 756 (by decide +kernel) rfl, inT 757 (by decide +kernel) rfl, inT 758 (by decide +kernel) rfl⟩
theorem lkL_121 : LkV RL 121 yX8_isAfloat := ⟨inT 760 (by decide +kernel) rfl, inT 761 (by decide +kernel) rfl, inT 762 (by decide +kernel) rfl⟩
theorem lkL_125 : LkV RL 125 yX8_money := ⟨inT 764 (by decide +kernel) rfl, inT 765 (by decide +kernel) rfl, inT 766 (by decide +kernel) rfl⟩
theorem lkL_128 : LkV RL 128 yX8_moneyAnew := ⟨inT 768 (by decide +kernel) rfl, inT 769 (by decide +kernel) rfl, inT 770 (by decide +kernel) rfl⟩
theorem lkL_131 : LkS RL 131 yL_why := ⟨inT 776 (by decide +kernel) rfl, inT 777 (by decide +kernel) rfl⟩
theorem lkL_135 : LkV RL 135 yX8_tons := ⟨inT 782 (by decide +kernel) rfl, inT 783 (by decide +kernel) rfl, inT 784 (by decide +kernel) rfl⟩
theorem lkL_138 : LkV RL 138 yX8_tonsAnew := ⟨inT 786 (by decide +kernel) rfl, inT 787 (by decide +kernel) rfl, inT 788 (by decide +kernel) rfl⟩
theorem lkL_141 : LkV RL 141 yX8_centre := ⟨inT 144 (by decide +kernel) rfl, inT 145 (by decide +kernel) rfl, inT 146 (by decide +kernel) rfl⟩
theorem lkL_144 : LkV RL 144 yX8_draught := ⟨inT 800 (by decide +kernel) rfl, inT 801 (by decide +kernel) rfl, inT 802 (by decide +kernel) rfl⟩
theorem lkL_148 : LkS RL 148 yL_adds := ⟨inT 808 (by decide +kernel) rfl, inT 809 (by decide +kernel) rfl⟩
theorem lkL_152 : LkS RL 152 yL_erects := ⟨inT 818 (by decide +kernel) rfl, inT 819 (by decide +kernel) rfl⟩
theorem lkL_156 : LkS RL 156 yL_whole := ⟨inT 825 (by decide +kernel) rfl, inT 826 (by decide +kernel) rfl⟩
theorem lcL_160 : Cond.constant RL 160 (40013) ∈ TB := inT 837 (by decide +kernel) rfl
theorem lkL_161 : LkV RL 161 yX8_draw := ⟨inT 838 (by decide +kernel) rfl, inT 839 (by decide +kernel) rfl, inT 840 (by decide +kernel) rfl⟩
theorem nwL_9 : Cond.classLink RL 9 RX8 ∈ TB := inT 18 (by decide +kernel) rfl
theorem lkL_164 : LkI RL 164 yX8_init := ⟨inT 20 (by decide +kernel) rfl, inT 21 (by decide +kernel) rfl, rfl⟩
theorem lkL_165 : LkV RL 165 yX8_firstHour := ⟨inT 152 (by decide +kernel) rfl, inT 153 (by decide +kernel) rfl, inT 154 (by decide +kernel) rfl⟩
theorem lkL_168 : LkS RL 168 yL_part := ⟨inT 190 (by decide +kernel) rfl, inT 191 (by decide +kernel) rfl⟩
theorem lcL_171 : Cond.constant RL 171 (60000) ∈ TB := inT 842 (by decide +kernel) rfl
theorem lkL_172 : LkS RL 172 yL_isBlock := ⟨inT 805 (by decide +kernel) rfl, inT 806 (by decide +kernel) rfl⟩
theorem lkL_176 : LkS RL 176 yL_isWeld := ⟨inT 828 (by decide +kernel) rfl, inT 829 (by decide +kernel) rfl⟩
theorem lkL_180 : LkS RL 180 yL_isRoom := ⟨inT 831 (by decide +kernel) rfl, inT 832 (by decide +kernel) rfl⟩
theorem lkL_184 : LkS RL 184 yL_isPipe := ⟨inT 740 (by decide +kernel) rfl, inT 741 (by decide +kernel) rfl⟩
theorem lkL_188 : LkS RL 188 yL_isTold := ⟨inT 834 (by decide +kernel) rfl, inT 835 (by decide +kernel) rfl⟩
theorem lkL_192 : LkS RL 192 yL_isSo := ⟨inT 749 (by decide +kernel) rfl, inT 750 (by decide +kernel) rfl⟩
theorem isX0 : Cond.instantiable RX0 10 ∈ TB := inT 331 (by decide +kernel) rfl
theorem itX0 : Cond.initialized RX0 ∈ TB := inT 13 (by decide +kernel) rfl
theorem isX1 : Cond.instantiable RX1 3 ∈ TB := inT 33 (by decide +kernel) rfl
theorem itX1 : Cond.initialized RX1 ∈ TB := inT 2 (by decide +kernel) rfl
theorem isX2 : Cond.instantiable RX2 3 ∈ TB := inT 82 (by decide +kernel) rfl
theorem itX2 : Cond.initialized RX2 ∈ TB := inT 6 (by decide +kernel) rfl
theorem isX3 : Cond.instantiable RX3 1 ∈ TB := inT 678 (by decide +kernel) rfl
theorem itX3 : Cond.initialized RX3 ∈ TB := inT 17 (by decide +kernel) rfl
theorem isX4 : Cond.instantiable RX4 7 ∈ TB := inT 538 (by decide +kernel) rfl
theorem itX4 : Cond.initialized RX4 ∈ TB := inT 16 (by decide +kernel) rfl
theorem isX5 : Cond.instantiable RX5 1 ∈ TB := inT 53 (by decide +kernel) rfl
theorem itX5 : Cond.initialized RX5 ∈ TB := inT 3 (by decide +kernel) rfl
theorem isX6 : Cond.instantiable RX6 5 ∈ TB := inT 424 (by decide +kernel) rfl
theorem itX6 : Cond.initialized RX6 ∈ TB := inT 14 (by decide +kernel) rfl
theorem isX7 : Cond.instantiable RX7 2 ∈ TB := inT 63 (by decide +kernel) rfl
theorem itX7 : Cond.initialized RX7 ∈ TB := inT 4 (by decide +kernel) rfl
theorem isX8 : Cond.instantiable RX8 15 ∈ TB := inT 19 (by decide +kernel) rfl
theorem itX8 : Cond.initialized RX8 ∈ TB := inT 1 (by decide +kernel) rfl
theorem ac_int : Cond.arrayClass .int ∈ TB := inT 80 (by decide +kernel) rfl
theorem ob_i : Cond.instanceMethod Lib.objectInit ∈ TB := inT 24 (by decide +kernel) rfl
theorem ob_c : Cond.code Lib.objectInit ⟨#[0xb1]⟩ 1 none ∈ TB := inT 25 (by decide +kernel) rfl
theorem ma_c_max : Cond.code Lib.Math.max.name Lib.Math.max.code 2 (some .int) ∈ TB := inT 183 (by decide +kernel) rfl
theorem ma_s_max : Cond.static Lib.Math.max.name ∈ TB := inT 182 (by decide +kernel) rfl
theorem ma_c_abs : Cond.code Lib.Math.abs.name Lib.Math.abs.code 1 (some .int) ∈ TB := inT 517 (by decide +kernel) rfl
theorem ma_s_abs : Cond.static Lib.Math.abs.name ∈ TB := inT 516 (by decide +kernel) rfl
theorem ma_i : Cond.initialized "java/lang/Math" ∈ TB := inT 15 (by decide +kernel) rfl
theorem taX8_128 : ∀ t ∈ vx_atS RX8 128 "java/lang/IllegalStateException" exN, t ∈ TB ∨ t ∈ NWl := by decide +kernel
theorem toX8_128 : ∀ t ∈ Cond.classLink RX8 124 "java/lang/IllegalStateException" :: Cond.initialized "java/lang/IllegalStateException" :: vx_atS RX8 128 "java/lang/IllegalStateException" exN, vx_ot t = true := by decide +kernel
theorem thX8_126 : TH RX8 "java/lang/IllegalStateException" 124 126 128 := ⟨by decide +kernel, inT 315 (by decide +kernel) rfl, inT 12 (by decide +kernel) rfl, ⟨_, List.mem_of_getElem? (i := 7) rfl⟩, taX8_128, toX8_128⟩
theorem thX8_152 : TH RX8 "java/lang/IllegalStateException" 124 152 128 := ⟨by decide +kernel, inT 315 (by decide +kernel) rfl, inT 12 (by decide +kernel) rfl, ⟨_, List.mem_of_getElem? (i := 9) rfl⟩, taX8_128, toX8_128⟩
theorem thX8_191 : TH RX8 "java/lang/IllegalStateException" 124 191 128 := ⟨by decide +kernel, inT 315 (by decide +kernel) rfl, inT 12 (by decide +kernel) rfl, ⟨_, List.mem_of_getElem? (i := 10) rfl⟩, taX8_128, toX8_128⟩
theorem thX8_226 : TH RX8 "java/lang/IllegalStateException" 124 226 128 := ⟨by decide +kernel, inT 315 (by decide +kernel) rfl, inT 12 (by decide +kernel) rfl, ⟨_, List.mem_of_getElem? (i := 12) rfl⟩, taX8_128, toX8_128⟩
theorem thX8_244 : TH RX8 "java/lang/IllegalStateException" 124 244 128 := ⟨by decide +kernel, inT 315 (by decide +kernel) rfl, inT 12 (by decide +kernel) rfl, ⟨_, List.mem_of_getElem? (i := 14) rfl⟩, taX8_128, toX8_128⟩
theorem thX8_254 : TH RX8 "java/lang/IllegalStateException" 124 254 128 := ⟨by decide +kernel, inT 315 (by decide +kernel) rfl, inT 12 (by decide +kernel) rfl, ⟨_, List.mem_of_getElem? (i := 16) rfl⟩, taX8_128, toX8_128⟩
theorem thX8_275 : TH RX8 "java/lang/IllegalStateException" 124 275 128 := ⟨by decide +kernel, inT 315 (by decide +kernel) rfl, inT 12 (by decide +kernel) rfl, ⟨_, List.mem_of_getElem? (i := 18) rfl⟩, taX8_128, toX8_128⟩
theorem thX8_283 : TH RX8 "java/lang/IllegalStateException" 124 283 128 := ⟨by decide +kernel, inT 315 (by decide +kernel) rfl, inT 12 (by decide +kernel) rfl, ⟨_, List.mem_of_getElem? (i := 19) rfl⟩, taX8_128, toX8_128⟩
theorem thX8_291 : TH RX8 "java/lang/IllegalStateException" 124 291 128 := ⟨by decide +kernel, inT 315 (by decide +kernel) rfl, inT 12 (by decide +kernel) rfl, ⟨_, List.mem_of_getElem? (i := 20) rfl⟩, taX8_128, toX8_128⟩
theorem thX8_302 : TH RX8 "java/lang/IllegalStateException" 124 302 128 := ⟨by decide +kernel, inT 315 (by decide +kernel) rfl, inT 12 (by decide +kernel) rfl, ⟨_, List.mem_of_getElem? (i := 22) rfl⟩, taX8_128, toX8_128⟩
theorem thX8_308 : TH RX8 "java/lang/IllegalStateException" 124 308 128 := ⟨by decide +kernel, inT 315 (by decide +kernel) rfl, inT 12 (by decide +kernel) rfl, ⟨_, List.mem_of_getElem? (i := 23) rfl⟩, taX8_128, toX8_128⟩
theorem thX8_328 : TH RX8 "java/lang/IllegalStateException" 124 328 128 := ⟨by decide +kernel, inT 315 (by decide +kernel) rfl, inT 12 (by decide +kernel) rfl, ⟨_, List.mem_of_getElem? (i := 25) rfl⟩, taX8_128, toX8_128⟩
theorem taX8_91 : ∀ t ∈ vx_atS RX8 91 "java/lang/IllegalArgumentException" exN, t ∈ TB ∨ t ∈ NWl := by decide +kernel
theorem toX8_91 : ∀ t ∈ Cond.classLink RX8 87 "java/lang/IllegalArgumentException" :: Cond.initialized "java/lang/IllegalArgumentException" :: vx_atS RX8 91 "java/lang/IllegalArgumentException" exN, vx_ot t = true := by decide +kernel
theorem thX8_103 : TH RX8 "java/lang/IllegalArgumentException" 87 103 91 := ⟨by decide +kernel, inT 207 (by decide +kernel) rfl, inT 10 (by decide +kernel) rfl, ⟨_, List.mem_of_getElem? (i := 2) rfl⟩, taX8_91, toX8_91⟩
theorem thX8_111 : TH RX8 "java/lang/IllegalArgumentException" 87 111 91 := ⟨by decide +kernel, inT 207 (by decide +kernel) rfl, inT 10 (by decide +kernel) rfl, ⟨_, List.mem_of_getElem? (i := 4) rfl⟩, taX8_91, toX8_91⟩
theorem thX8_118 : TH RX8 "java/lang/IllegalArgumentException" 87 118 91 := ⟨by decide +kernel, inT 207 (by decide +kernel) rfl, inT 10 (by decide +kernel) rfl, ⟨_, List.mem_of_getElem? (i := 6) rfl⟩, taX8_91, toX8_91⟩
theorem thX8_300 : TH RX8 "java/lang/IllegalArgumentException" 87 300 91 := ⟨by decide +kernel, inT 207 (by decide +kernel) rfl, inT 10 (by decide +kernel) rfl, ⟨_, List.mem_of_getElem? (i := 21) rfl⟩, taX8_91, toX8_91⟩
theorem thX8_316 : TH RX8 "java/lang/IllegalArgumentException" 87 316 91 := ⟨by decide +kernel, inT 207 (by decide +kernel) rfl, inT 10 (by decide +kernel) rfl, ⟨_, List.mem_of_getElem? (i := 24) rfl⟩, taX8_91, toX8_91⟩
theorem thX8_330 : TH RX8 "java/lang/IllegalArgumentException" 87 330 91 := ⟨by decide +kernel, inT 207 (by decide +kernel) rfl, inT 10 (by decide +kernel) rfl, ⟨_, List.mem_of_getElem? (i := 26) rfl⟩, taX8_91, toX8_91⟩
theorem thX8_89 : TH RX8 "java/lang/IllegalArgumentException" 87 89 91 := ⟨by decide +kernel, inT 207 (by decide +kernel) rfl, inT 10 (by decide +kernel) rfl, ⟨_, List.mem_of_getElem? (i := 0) rfl⟩, taX8_91, toX8_91⟩
theorem taX8_102 : ∀ t ∈ vx_atS RX8 102 "java/lang/IndexOutOfBoundsException" exN, t ∈ TB ∨ t ∈ NWl := by decide +kernel
theorem toX8_102 : ∀ t ∈ Cond.classLink RX8 98 "java/lang/IndexOutOfBoundsException" :: Cond.initialized "java/lang/IndexOutOfBoundsException" :: vx_atS RX8 102 "java/lang/IndexOutOfBoundsException" exN, vx_ot t = true := by decide +kernel
theorem thX8_100 : TH RX8 "java/lang/IndexOutOfBoundsException" 98 100 102 := ⟨by decide +kernel, inT 282 (by decide +kernel) rfl, inT 11 (by decide +kernel) rfl, ⟨_, List.mem_of_getElem? (i := 1) rfl⟩, taX8_102, toX8_102⟩
theorem thX8_109 : TH RX8 "java/lang/IndexOutOfBoundsException" 98 109 102 := ⟨by decide +kernel, inT 282 (by decide +kernel) rfl, inT 11 (by decide +kernel) rfl, ⟨_, List.mem_of_getElem? (i := 3) rfl⟩, taX8_102, toX8_102⟩
theorem thX8_116 : TH RX8 "java/lang/IndexOutOfBoundsException" 98 116 102 := ⟨by decide +kernel, inT 282 (by decide +kernel) rfl, inT 11 (by decide +kernel) rfl, ⟨_, List.mem_of_getElem? (i := 5) rfl⟩, taX8_102, toX8_102⟩
theorem thX8_143 : TH RX8 "java/lang/IndexOutOfBoundsException" 98 143 102 := ⟨by decide +kernel, inT 282 (by decide +kernel) rfl, inT 11 (by decide +kernel) rfl, ⟨_, List.mem_of_getElem? (i := 8) rfl⟩, taX8_102, toX8_102⟩
theorem thX8_224 : TH RX8 "java/lang/IndexOutOfBoundsException" 98 224 102 := ⟨by decide +kernel, inT 282 (by decide +kernel) rfl, inT 11 (by decide +kernel) rfl, ⟨_, List.mem_of_getElem? (i := 11) rfl⟩, taX8_102, toX8_102⟩
theorem thX8_236 : TH RX8 "java/lang/IndexOutOfBoundsException" 98 236 102 := ⟨by decide +kernel, inT 282 (by decide +kernel) rfl, inT 11 (by decide +kernel) rfl, ⟨_, List.mem_of_getElem? (i := 13) rfl⟩, taX8_102, toX8_102⟩
theorem thX8_249 : TH RX8 "java/lang/IndexOutOfBoundsException" 98 249 102 := ⟨by decide +kernel, inT 282 (by decide +kernel) rfl, inT 11 (by decide +kernel) rfl, ⟨_, List.mem_of_getElem? (i := 15) rfl⟩, taX8_102, toX8_102⟩
theorem thX8_268 : TH RX8 "java/lang/IndexOutOfBoundsException" 98 268 102 := ⟨by decide +kernel, inT 282 (by decide +kernel) rfl, inT 11 (by decide +kernel) rfl, ⟨_, List.mem_of_getElem? (i := 17) rfl⟩, taX8_102, toX8_102⟩
theorem thX8_336 : TH RX8 "java/lang/IndexOutOfBoundsException" 98 336 102 := ⟨by decide +kernel, inT 282 (by decide +kernel) rfl, inT 11 (by decide +kernel) rfl, ⟨_, List.mem_of_getElem? (i := 27) rfl⟩, taX8_102, toX8_102⟩
theorem thX8_339 : TH RX8 "java/lang/IndexOutOfBoundsException" 98 339 102 := ⟨by decide +kernel, inT 282 (by decide +kernel) rfl, inT 11 (by decide +kernel) rfl, ⟨_, List.mem_of_getElem? (i := 28) rfl⟩, taX8_102, toX8_102⟩
