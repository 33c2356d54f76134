/-! methods, part 2 -/
def mX7_carryOut : am_M := (yX7_carryOut, cX7_carryOut, 6, (Option.some Jvm.ClassFile.FieldType.boolean), 7, 1, false)
set_option maxRecDepth 100000 in
theorem mkX7_carryOut : am_Mok mX7_carryOut := ⟨List.mem_of_getElem? (i := 770) rfl, List.mem_of_getElem? (i := 65) rfl, by decide +kernel, by decide +kernel, by decide +kernel⟩
set_option maxRecDepth 100000 in
theorem miX7_carryOut : Cond.instanceMethod mX7_carryOut.1 ∈ lw_tbl := List.mem_of_getElem? (i := 769) rfl
set_option maxRecDepth 100000 in
theorem mvX7_carryOut : Cond.selects mX7_carryOut.1.cls mX7_carryOut.1 mX7_carryOut.1 ∈ lw_tbl := List.mem_of_getElem? (i := 6) rfl
def mX7_reckon : am_M := (yX7_reckon, cX7_reckon, 4, (Option.some Jvm.ClassFile.FieldType.int), 7, 2, false)
set_option maxRecDepth 100000 in
theorem mkX7_reckon : am_Mok mX7_reckon := ⟨List.mem_of_getElem? (i := 774) rfl, List.mem_of_getElem? (i := 65) rfl, by decide +kernel, by decide +kernel, by decide +kernel⟩
set_option maxRecDepth 100000 in
theorem miX7_reckon : Cond.instanceMethod mX7_reckon.1 ∈ lw_tbl := List.mem_of_getElem? (i := 773) rfl
set_option maxRecDepth 100000 in
theorem mvX7_reckon : Cond.selects mX7_reckon.1.cls mX7_reckon.1 mX7_reckon.1 ∈ lw_tbl := List.mem_of_getElem? (i := 7) rfl
def mX7_step : am_M := (yX7_step, cX7_step, 5, none, 7, 2, false)
set_option maxRecDepth 100000 in
theorem mkX7_step : am_Mok mX7_step := ⟨List.mem_of_getElem? (i := 782) rfl, List.mem_of_getElem? (i := 65) rfl, by decide +kernel, by decide +kernel, by decide +kernel⟩
set_option maxRecDepth 100000 in
theorem miX7_step : Cond.instanceMethod mX7_step.1 ∈ lw_tbl := List.mem_of_getElem? (i := 781) rfl
set_option maxRecDepth 100000 in
theorem mvX7_step : Cond.selects mX7_step.1.cls mX7_step.1 mX7_step.1 ∈ lw_tbl := List.mem_of_getElem? (i := 8) rfl
def mX7_isAtEdge : am_M := (yX7_isAtEdge, cX7_isAtEdge, 3, (Option.some Jvm.ClassFile.FieldType.boolean), 7, 1, false)
set_option maxRecDepth 100000 in
theorem mkX7_isAtEdge : am_Mok mX7_isAtEdge := ⟨List.mem_of_getElem? (i := 790) rfl, List.mem_of_getElem? (i := 65) rfl, by decide +kernel, by decide +kernel, by decide +kernel⟩
set_option maxRecDepth 100000 in
theorem miX7_isAtEdge : Cond.instanceMethod mX7_isAtEdge.1 ∈ lw_tbl := List.mem_of_getElem? (i := 789) rfl
set_option maxRecDepth 100000 in
theorem mvX7_isAtEdge : Cond.selects mX7_isAtEdge.1.cls mX7_isAtEdge.1 mX7_isAtEdge.1 ∈ lw_tbl := List.mem_of_getElem? (i := 9) rfl
def mX7_combine : am_M := (yX7_combine, cX7_combine, 3, (Option.some Jvm.ClassFile.FieldType.int), 7, 3, false)
set_option maxRecDepth 100000 in
theorem mkX7_combine : am_Mok mX7_combine := ⟨List.mem_of_getElem? (i := 802) rfl, List.mem_of_getElem? (i := 65) rfl, by decide +kernel, by decide +kernel, by decide +kernel⟩
set_option maxRecDepth 100000 in
theorem msX7_combine : Cond.static mX7_combine.1 ∈ lw_tbl := List.mem_of_getElem? (i := 801) rfl
def mX7_isSo : am_M := (yX7_isSo, cX7_isSo, 3, (Option.some Jvm.ClassFile.FieldType.boolean), 7, 3, false)
set_option maxRecDepth 100000 in
theorem mkX7_isSo : am_Mok mX7_isSo := ⟨List.mem_of_getElem? (i := 806) rfl, List.mem_of_getElem? (i := 65) rfl, by decide +kernel, by decide +kernel, by decide +kernel⟩
set_option maxRecDepth 100000 in
theorem msX7_isSo : Cond.static mX7_isSo.1 ∈ lw_tbl := List.mem_of_getElem? (i := 805) rfl
def mX7_reckonShifts : am_M := (yX7_reckonShifts, cX7_reckonShifts, 8, none, 7, 1, false)
set_option maxRecDepth 100000 in
theorem mkX7_reckonShifts : am_Mok mX7_reckonShifts := ⟨List.mem_of_getElem? (i := 814) rfl, List.mem_of_getElem? (i := 65) rfl, by decide +kernel, by decide +kernel, by decide +kernel⟩
set_option maxRecDepth 100000 in
theorem miX7_reckonShifts : Cond.instanceMethod mX7_reckonShifts.1 ∈ lw_tbl := List.mem_of_getElem? (i := 813) rfl
set_option maxRecDepth 100000 in
theorem mvX7_reckonShifts : Cond.selects mX7_reckonShifts.1.cls mX7_reckonShifts.1 mX7_reckonShifts.1 ∈ lw_tbl := List.mem_of_getElem? (i := 10) rfl
def mX7_shiftOf : am_M := (yX7_shiftOf, cX7_shiftOf, 3, (Option.some Jvm.ClassFile.FieldType.int), 7, 2, false)
set_option maxRecDepth 100000 in
theorem mkX7_shiftOf : am_Mok mX7_shiftOf := ⟨List.mem_of_getElem? (i := 622) rfl, List.mem_of_getElem? (i := 65) rfl, by decide +kernel, by decide +kernel, by decide +kernel⟩
set_option maxRecDepth 100000 in
theorem miX7_shiftOf : Cond.instanceMethod mX7_shiftOf.1 ∈ lw_tbl := List.mem_of_getElem? (i := 620) rfl
set_option maxRecDepth 100000 in
theorem mvX7_shiftOf : Cond.selects mX7_shiftOf.1.cls mX7_shiftOf.1 mX7_shiftOf.1 ∈ lw_tbl := List.mem_of_getElem? (i := 621) rfl
def mX7_source : am_M := (yX7_source, cX7_source, 6, (Option.some Jvm.ClassFile.FieldType.int), 7, 2, false)
set_option maxRecDepth 100000 in
theorem mkX7_source : am_Mok mX7_source := ⟨List.mem_of_getElem? (i := 617) rfl, List.mem_of_getElem? (i := 65) rfl, by decide +kernel, by decide +kernel, by decide +kernel⟩
set_option maxRecDepth 100000 in
theorem miX7_source : Cond.instanceMethod mX7_source.1 ∈ lw_tbl := List.mem_of_getElem? (i := 615) rfl
set_option maxRecDepth 100000 in
theorem mvX7_source : Cond.selects mX7_source.1.cls mX7_source.1 mX7_source.1 ∈ lw_tbl := List.mem_of_getElem? (i := 616) rfl
def mX7_refresh : am_M := (yX7_refresh, cX7_refresh, 6, none, 7, 0, false)
set_option maxRecDepth 100000 in
theorem mkX7_refresh : am_Mok mX7_refresh := ⟨List.mem_of_getElem? (i := 568) rfl, List.mem_of_getElem? (i := 65) rfl, by decide +kernel, by decide +kernel, by decide +kernel⟩
set_option maxRecDepth 100000 in
theorem miX7_refresh : Cond.instanceMethod mX7_refresh.1 ∈ lw_tbl := List.mem_of_getElem? (i := 566) rfl
set_option maxRecDepth 100000 in
theorem mvX7_refresh : Cond.selects mX7_refresh.1.cls mX7_refresh.1 mX7_refresh.1 ∈ lw_tbl := List.mem_of_getElem? (i := 567) rfl
def mX7_heightFrom : am_M := (yX7_heightFrom, cX7_heightFrom, 5, (Option.some Jvm.ClassFile.FieldType.int), 7, 1, false)
set_option maxRecDepth 100000 in
theorem mkX7_heightFrom : am_Mok mX7_heightFrom := ⟨List.mem_of_getElem? (i := 631) rfl, List.mem_of_getElem? (i := 65) rfl, by decide +kernel, by decide +kernel, by decide +kernel⟩
set_option maxRecDepth 100000 in
theorem miX7_heightFrom : Cond.instanceMethod mX7_heightFrom.1 ∈ lw_tbl := List.mem_of_getElem? (i := 630) rfl
set_option maxRecDepth 100000 in
theorem mvX7_heightFrom : Cond.selects mX7_heightFrom.1.cls mX7_heightFrom.1 mX7_heightFrom.1 ∈ lw_tbl := List.mem_of_getElem? (i := 1) rfl
def mX7_group : am_M := (yX7_group, cX7_group, 1, none, 7, 0, false)
set_option maxRecDepth 100000 in
theorem mkX7_group : am_Mok mX7_group := ⟨List.mem_of_getElem? (i := 564) rfl, List.mem_of_getElem? (i := 65) rfl, by decide +kernel, by decide +kernel, by decide +kernel⟩
set_option maxRecDepth 100000 in
theorem miX7_group : Cond.instanceMethod mX7_group.1 ∈ lw_tbl := List.mem_of_getElem? (i := 562) rfl
set_option maxRecDepth 100000 in
theorem mvX7_group : Cond.selects mX7_group.1.cls mX7_group.1 mX7_group.1 ∈ lw_tbl := List.mem_of_getElem? (i := 563) rfl
def mX7_tell : am_M := (yX7_tell, cX7_tell, 2, (Option.some Jvm.ClassFile.FieldType.int), 7, 1, false)
set_option maxRecDepth 100000 in
theorem mkX7_tell : am_Mok mX7_tell := ⟨List.mem_of_getElem? (i := 678) rfl, List.mem_of_getElem? (i := 65) rfl, by decide +kernel, by decide +kernel, by decide +kernel⟩
set_option maxRecDepth 100000 in
theorem miX7_tell : Cond.instanceMethod mX7_tell.1 ∈ lw_tbl := List.mem_of_getElem? (i := 676) rfl
set_option maxRecDepth 100000 in
theorem mvX7_tell : Cond.selects mX7_tell.1.cls mX7_tell.1 mX7_tell.1 ∈ lw_tbl := List.mem_of_getElem? (i := 677) rfl
def mX7_smallestHeight : am_M := (yX7_smallestHeight, cX7_smallestHeight, 3, (Option.some Jvm.ClassFile.FieldType.int), 7, 0, false)
set_option maxRecDepth 100000 in
theorem mkX7_smallestHeight : am_Mok mX7_smallestHeight := ⟨List.mem_of_getElem? (i := 682) rfl, List.mem_of_getElem? (i := 65) rfl, by decide +kernel, by decide +kernel, by decide +kernel⟩
set_option maxRecDepth 100000 in
theorem miX7_smallestHeight : Cond.instanceMethod mX7_smallestHeight.1 ∈ lw_tbl := List.mem_of_getElem? (i := 681) rfl
set_option maxRecDepth 100000 in
theorem mvX7_smallestHeight : Cond.selects mX7_smallestHeight.1.cls mX7_smallestHeight.1 mX7_smallestHeight.1 ∈ lw_tbl := List.mem_of_getElem? (i := 4) rfl
def mX7_greatestHeight : am_M := (yX7_greatestHeight, cX7_greatestHeight, 3, (Option.some Jvm.ClassFile.FieldType.int), 7, 0, false)
set_option maxRecDepth 100000 in
theorem mkX7_greatestHeight : am_Mok mX7_greatestHeight := ⟨List.mem_of_getElem? (i := 687) rfl, List.mem_of_getElem? (i := 65) rfl, by decide +kernel, by decide +kernel, by decide +kernel⟩
set_option maxRecDepth 100000 in
theorem miX7_greatestHeight : Cond.instanceMethod mX7_greatestHeight.1 ∈ lw_tbl := List.mem_of_getElem? (i := 686) rfl
set_option maxRecDepth 100000 in
theorem mvX7_greatestHeight : Cond.selects mX7_greatestHeight.1.cls mX7_greatestHeight.1 mX7_greatestHeight.1 ∈ lw_tbl := List.mem_of_getElem? (i := 5) rfl
def mX7_tellOctave : am_M := (yX7_tellOctave, cX7_tellOctave, 3, (Option.some Jvm.ClassFile.FieldType.int), 7, 2, false)
set_option maxRecDepth 100000 in
theorem mkX7_tellOctave : am_Mok mX7_tellOctave := ⟨List.mem_of_getElem? (i := 869) rfl, List.mem_of_getElem? (i := 65) rfl, by decide +kernel, by decide +kernel, by decide +kernel⟩
set_option maxRecDepth 100000 in
theorem miX7_tellOctave : Cond.instanceMethod mX7_tellOctave.1 ∈ lw_tbl := List.mem_of_getElem? (i := 867) rfl
set_option maxRecDepth 100000 in
theorem mvX7_tellOctave : Cond.selects mX7_tellOctave.1.cls mX7_tellOctave.1 mX7_tellOctave.1 ∈ lw_tbl := List.mem_of_getElem? (i := 868) rfl
def mX7_tellComb : am_M := (yX7_tellComb, cX7_tellComb, 3, (Option.some Jvm.ClassFile.FieldType.int), 7, 2, false)
set_option maxRecDepth 100000 in
theorem mkX7_tellComb : am_Mok mX7_tellComb := ⟨List.mem_of_getElem? (i := 726) rfl, List.mem_of_getElem? (i := 65) rfl, by decide +kernel, by decide +kernel, by decide +kernel⟩
set_option maxRecDepth 100000 in
theorem miX7_tellComb : Cond.instanceMethod mX7_tellComb.1 ∈ lw_tbl := List.mem_of_getElem? (i := 724) rfl
set_option maxRecDepth 100000 in
theorem mvX7_tellComb : Cond.selects mX7_tellComb.1.cls mX7_tellComb.1 mX7_tellComb.1 ∈ lw_tbl := List.mem_of_getElem? (i := 725) rfl
def mX8_init : am_M := (yX8_init, cX8_init, 1, none, 8, 0, true)
set_option maxRecDepth 100000 in
theorem mkX8_init : am_Mok mX8_init := ⟨List.mem_of_getElem? (i := 401) rfl, List.mem_of_getElem? (i := 67) rfl, by decide +kernel, by decide +kernel, by decide +kernel⟩
set_option maxRecDepth 100000 in
theorem miX8_init : Cond.instanceMethod mX8_init.1 ∈ lw_tbl := List.mem_of_getElem? (i := 400) rfl
def mX8_clear : am_M := (yX8_clear, cX8_clear, 1, none, 8, 0, false)
set_option maxRecDepth 100000 in
theorem mkX8_clear : am_Mok mX8_clear := ⟨List.mem_of_getElem? (i := 778) rfl, List.mem_of_getElem? (i := 67) rfl, by decide +kernel, by decide +kernel, by decide +kernel⟩
set_option maxRecDepth 100000 in
theorem miX8_clear : Cond.instanceMethod mX8_clear.1 ∈ lw_tbl := List.mem_of_getElem? (i := 776) rfl
set_option maxRecDepth 100000 in
theorem mvX8_clear : Cond.selects mX8_clear.1.cls mX8_clear.1 mX8_clear.1 ∈ lw_tbl := List.mem_of_getElem? (i := 777) rfl
def mX8_push : am_M := (yX8_push, cX8_push, 2, none, 8, 1, false)
set_option maxRecDepth 100000 in
theorem mkX8_push : am_Mok mX8_push := ⟨List.mem_of_getElem? (i := 786) rfl, List.mem_of_getElem? (i := 67) rfl, by decide +kernel, by decide +kernel, by decide +kernel⟩
set_option maxRecDepth 100000 in
theorem miX8_push : Cond.instanceMethod mX8_push.1 ∈ lw_tbl := List.mem_of_getElem? (i := 784) rfl
set_option maxRecDepth 100000 in
theorem mvX8_push : Cond.selects mX8_push.1.cls mX8_push.1 mX8_push.1 ∈ lw_tbl := List.mem_of_getElem? (i := 785) rfl
def mX8_pushTest : am_M := (yX8_pushTest, cX8_pushTest, 2, none, 8, 1, false)
set_option maxRecDepth 100000 in
theorem mkX8_pushTest : am_Mok mX8_pushTest := ⟨List.mem_of_getElem? (i := 794) rfl, List.mem_of_getElem? (i := 67) rfl, by decide +kernel, by decide +kernel, by decide +kernel⟩
set_option maxRecDepth 100000 in
theorem miX8_pushTest : Cond.instanceMethod mX8_pushTest.1 ∈ lw_tbl := List.mem_of_getElem? (i := 792) rfl
set_option maxRecDepth 100000 in
theorem mvX8_pushTest : Cond.selects mX8_pushTest.1.cls mX8_pushTest.1 mX8_pushTest.1 ∈ lw_tbl := List.mem_of_getElem? (i := 793) rfl
def mX8_pop : am_M := (yX8_pop, cX8_pop, 1, (Option.some Jvm.ClassFile.FieldType.int), 8, 0, false)
set_option maxRecDepth 100000 in
theorem mkX8_pop : am_Mok mX8_pop := ⟨List.mem_of_getElem? (i := 799) rfl, List.mem_of_getElem? (i := 67) rfl, by decide +kernel, by decide +kernel, by decide +kernel⟩
set_option maxRecDepth 100000 in
theorem miX8_pop : Cond.instanceMethod mX8_pop.1 ∈ lw_tbl := List.mem_of_getElem? (i := 797) rfl
set_option maxRecDepth 100000 in
theorem mvX8_pop : Cond.selects mX8_pop.1.cls mX8_pop.1 mX8_pop.1 ∈ lw_tbl := List.mem_of_getElem? (i := 798) rfl
def mX9_init : am_M := (yX9_init, cX9_init, 6, none, 9, 0, true)
set_option maxRecDepth 100000 in
theorem mkX9_init : am_Mok mX9_init := ⟨List.mem_of_getElem? (i := 88) rfl, List.mem_of_getElem? (i := 59) rfl, by decide +kernel, by decide +kernel, by decide +kernel⟩
set_option maxRecDepth 100000 in
theorem miX9_init : Cond.instanceMethod mX9_init.1 ∈ lw_tbl := List.mem_of_getElem? (i := 87) rfl
def mX9_append : am_M := (yX9_append, cX9_append, 3, none, 9, 1, false)
set_option maxRecDepth 100000 in
theorem mkX9_append : am_Mok mX9_append := ⟨List.mem_of_getElem? (i := 1015) rfl, List.mem_of_getElem? (i := 59) rfl, by decide +kernel, by decide +kernel, by decide +kernel⟩
set_option maxRecDepth 100000 in
theorem miX9_append : Cond.instanceMethod mX9_append.1 ∈ lw_tbl := List.mem_of_getElem? (i := 1013) rfl
set_option maxRecDepth 100000 in
theorem mvX9_append : Cond.selects mX9_append.1.cls mX9_append.1 mX9_append.1 ∈ lw_tbl := List.mem_of_getElem? (i := 1014) rfl
def mX9_scan : am_M := (yX9_scan, cX9_scan, 3, none, 9, 0, false)
set_option maxRecDepth 100000 in
theorem mkX9_scan : am_Mok mX9_scan := ⟨List.mem_of_getElem? (i := 1027) rfl, List.mem_of_getElem? (i := 59) rfl, by decide +kernel, by decide +kernel, by decide +kernel⟩
set_option maxRecDepth 100000 in
theorem miX9_scan : Cond.instanceMethod mX9_scan.1 ∈ lw_tbl := List.mem_of_getElem? (i := 1025) rfl
set_option maxRecDepth 100000 in
theorem mvX9_scan : Cond.selects mX9_scan.1.cls mX9_scan.1 mX9_scan.1 ∈ lw_tbl := List.mem_of_getElem? (i := 1026) rfl
def mX9_readToken : am_M := (yX9_readToken, cX9_readToken, 3, (Option.some Jvm.ClassFile.FieldType.boolean), 9, 0, false)
set_option maxRecDepth 100000 in
theorem mkX9_readToken : am_Mok mX9_readToken := ⟨List.mem_of_getElem? (i := 1031) rfl, List.mem_of_getElem? (i := 59) rfl, by decide +kernel, by decide +kernel, by decide +kernel⟩
set_option maxRecDepth 100000 in
theorem miX9_readToken : Cond.instanceMethod mX9_readToken.1 ∈ lw_tbl := List.mem_of_getElem? (i := 1030) rfl
set_option maxRecDepth 100000 in
theorem mvX9_readToken : Cond.selects mX9_readToken.1.cls mX9_readToken.1 mX9_readToken.1 ∈ lw_tbl := List.mem_of_getElem? (i := 16) rfl
def mX9_readKind : am_M := (yX9_readKind, cX9_readKind, 1, (Option.some Jvm.ClassFile.FieldType.int), 9, 0, false)
set_option maxRecDepth 100000 in
theorem mkX9_readKind : am_Mok mX9_readKind := ⟨List.mem_of_getElem? (i := 1039) rfl, List.mem_of_getElem? (i := 59) rfl, by decide +kernel, by decide +kernel, by decide +kernel⟩
set_option maxRecDepth 100000 in
theorem miX9_readKind : Cond.instanceMethod mX9_readKind.1 ∈ lw_tbl := List.mem_of_getElem? (i := 1038) rfl
set_option maxRecDepth 100000 in
theorem mvX9_readKind : Cond.selects mX9_readKind.1.cls mX9_readKind.1 mX9_readKind.1 ∈ lw_tbl := List.mem_of_getElem? (i := 18) rfl
def mX9_readWord : am_M := (yX9_readWord, cX9_readWord, 5, (Option.some Jvm.ClassFile.FieldType.int), 9, 0, false)
set_option maxRecDepth 100000 in
theorem mkX9_readWord : am_Mok mX9_readWord := ⟨List.mem_of_getElem? (i := 1046) rfl, List.mem_of_getElem? (i := 59) rfl, by decide +kernel, by decide +kernel, by decide +kernel⟩
set_option maxRecDepth 100000 in
theorem miX9_readWord : Cond.instanceMethod mX9_readWord.1 ∈ lw_tbl := List.mem_of_getElem? (i := 1045) rfl
set_option maxRecDepth 100000 in
theorem mvX9_readWord : Cond.selects mX9_readWord.1.cls mX9_readWord.1 mX9_readWord.1 ∈ lw_tbl := List.mem_of_getElem? (i := 19) rfl
def mX9_readNumber : am_M := (yX9_readNumber, cX9_readNumber, 4, (Option.some Jvm.ClassFile.FieldType.int), 9, 0, false)
set_option maxRecDepth 100000 in
theorem mkX9_readNumber : am_Mok mX9_readNumber := ⟨List.mem_of_getElem? (i := 1053) rfl, List.mem_of_getElem? (i := 59) rfl, by decide +kernel, by decide +kernel, by decide +kernel⟩
set_option maxRecDepth 100000 in
theorem miX9_readNumber : Cond.instanceMethod mX9_readNumber.1 ∈ lw_tbl := List.mem_of_getElem? (i := 1052) rfl
set_option maxRecDepth 100000 in
theorem mvX9_readNumber : Cond.selects mX9_readNumber.1.cls mX9_readNumber.1 mX9_readNumber.1 ∈ lw_tbl := List.mem_of_getElem? (i := 20) rfl
def mX9_readSymbol : am_M := (yX9_readSymbol, cX9_readSymbol, 3, (Option.some Jvm.ClassFile.FieldType.int), 9, 0, false)
set_option maxRecDepth 100000 in
theorem mkX9_readSymbol : am_Mok mX9_readSymbol := ⟨List.mem_of_getElem? (i := 1058) rfl, List.mem_of_getElem? (i := 59) rfl, by decide +kernel, by decide +kernel, by decide +kernel⟩
set_option maxRecDepth 100000 in
theorem miX9_readSymbol : Cond.instanceMethod mX9_readSymbol.1 ∈ lw_tbl := List.mem_of_getElem? (i := 1057) rfl
set_option maxRecDepth 100000 in
theorem mvX9_readSymbol : Cond.selects mX9_readSymbol.1.cls mX9_readSymbol.1 mX9_readSymbol.1 ∈ lw_tbl := List.mem_of_getElem? (i := 21) rfl
def mX9_byteHere : am_M := (yX9_byteHere, cX9_byteHere, 1, (Option.some Jvm.ClassFile.FieldType.int), 9, 0, false)
set_option maxRecDepth 100000 in
theorem mkX9_byteHere : am_Mok mX9_byteHere := ⟨List.mem_of_getElem? (i := 1035) rfl, List.mem_of_getElem? (i := 59) rfl, by decide +kernel, by decide +kernel, by decide +kernel⟩
set_option maxRecDepth 100000 in
theorem miX9_byteHere : Cond.instanceMethod mX9_byteHere.1 ∈ lw_tbl := List.mem_of_getElem? (i := 1034) rfl
set_option maxRecDepth 100000 in
theorem mvX9_byteHere : Cond.selects mX9_byteHere.1.cls mX9_byteHere.1 mX9_byteHere.1 ∈ lw_tbl := List.mem_of_getElem? (i := 17) rfl
def mX9_isLetter : am_M := (yX9_isLetter, cX9_isLetter, 1, (Option.some Jvm.ClassFile.FieldType.boolean), 9, 1, false)
set_option maxRecDepth 100000 in
theorem mkX9_isLetter : am_Mok mX9_isLetter := ⟨List.mem_of_getElem? (i := 1042) rfl, List.mem_of_getElem? (i := 59) rfl, by decide +kernel, by decide +kernel, by decide +kernel⟩
set_option maxRecDepth 100000 in
theorem msX9_isLetter : Cond.static mX9_isLetter.1 ∈ lw_tbl := List.mem_of_getElem? (i := 1041) rfl
def mX9_isDigit : am_M := (yX9_isDigit, cX9_isDigit, 1, (Option.some Jvm.ClassFile.FieldType.boolean), 9, 1, false)
set_option maxRecDepth 100000 in
theorem mkX9_isDigit : am_Mok mX9_isDigit := ⟨List.mem_of_getElem? (i := 1049) rfl, List.mem_of_getElem? (i := 59) rfl, by decide +kernel, by decide +kernel, by decide +kernel⟩
set_option maxRecDepth 100000 in
theorem msX9_isDigit : Cond.static mX9_isDigit.1 ∈ lw_tbl := List.mem_of_getElem? (i := 1048) rfl
def mX9_kindAt : am_M := (yX9_kindAt, cX9_kindAt, 2, (Option.some Jvm.ClassFile.FieldType.int), 9, 1, false)
set_option maxRecDepth 100000 in
theorem mkX9_kindAt : am_Mok mX9_kindAt := ⟨List.mem_of_getElem? (i := 1130) rfl, List.mem_of_getElem? (i := 59) rfl, by decide +kernel, by decide +kernel, by decide +kernel⟩
set_option maxRecDepth 100000 in
theorem miX9_kindAt : Cond.instanceMethod mX9_kindAt.1 ∈ lw_tbl := List.mem_of_getElem? (i := 1128) rfl
set_option maxRecDepth 100000 in
theorem mvX9_kindAt : Cond.selects mX9_kindAt.1.cls mX9_kindAt.1 mX9_kindAt.1 ∈ lw_tbl := List.mem_of_getElem? (i := 1129) rfl
def mX9_contentAt : am_M := (yX9_contentAt, cX9_contentAt, 2, (Option.some Jvm.ClassFile.FieldType.long), 9, 1, false)
set_option maxRecDepth 100000 in
theorem mkX9_contentAt : am_Mok mX9_contentAt := ⟨List.mem_of_getElem? (i := 1155) rfl, List.mem_of_getElem? (i := 59) rfl, by decide +kernel, by decide +kernel, by decide +kernel⟩
set_option maxRecDepth 100000 in
theorem miX9_contentAt : Cond.instanceMethod mX9_contentAt.1 ∈ lw_tbl := List.mem_of_getElem? (i := 1153) rfl
set_option maxRecDepth 100000 in
theorem mvX9_contentAt : Cond.selects mX9_contentAt.1.cls mX9_contentAt.1 mX9_contentAt.1 ∈ lw_tbl := List.mem_of_getElem? (i := 1154) rfl
def mX10_init : am_M := (yX10_init, cX10_init, 2, none, 10, 1, true)
set_option maxRecDepth 100000 in
theorem mkX10_init : am_Mok mX10_init := ⟨List.mem_of_getElem? (i := 297) rfl, List.mem_of_getElem? (i := 62) rfl, by decide +kernel, by decide +kernel, by decide +kernel⟩
set_option maxRecDepth 100000 in
theorem miX10_init : Cond.instanceMethod mX10_init.1 ∈ lw_tbl := List.mem_of_getElem? (i := 296) rfl
def mX10_forget : am_M := (yX10_forget, cX10_forget, 2, none, 10, 0, false)
set_option maxRecDepth 100000 in
theorem mkX10_forget : am_Mok mX10_forget := ⟨List.mem_of_getElem? (i := 1289) rfl, List.mem_of_getElem? (i := 62) rfl, by decide +kernel, by decide +kernel, by decide +kernel⟩
set_option maxRecDepth 100000 in
theorem miX10_forget : Cond.instanceMethod mX10_forget.1 ∈ lw_tbl := List.mem_of_getElem? (i := 1287) rfl
set_option maxRecDepth 100000 in
theorem mvX10_forget : Cond.selects mX10_forget.1.cls mX10_forget.1 mX10_forget.1 ∈ lw_tbl := List.mem_of_getElem? (i := 1288) rfl
def mX10_prepare : am_M := (yX10_prepare, cX10_prepare, 7, none, 10, 2, false)
set_option maxRecDepth 100000 in
theorem mkX10_prepare : am_Mok mX10_prepare := ⟨List.mem_of_getElem? (i := 575) rfl, List.mem_of_getElem? (i := 62) rfl, by decide +kernel, by decide +kernel, by decide +kernel⟩
set_option maxRecDepth 100000 in
theorem miX10_prepare : Cond.instanceMethod mX10_prepare.1 ∈ lw_tbl := List.mem_of_getElem? (i := 573) rfl
set_option maxRecDepth 100000 in
theorem mvX10_prepare : Cond.selects mX10_prepare.1.cls mX10_prepare.1 mX10_prepare.1 ∈ lw_tbl := List.mem_of_getElem? (i := 574) rfl
def mX10_valueKept : am_M := (yX10_valueKept, cX10_valueKept, 4, (Option.some Jvm.ClassFile.FieldType.int), 10, 3, false)
set_option maxRecDepth 100000 in
theorem mkX10_valueKept : am_Mok mX10_valueKept := ⟨List.mem_of_getElem? (i := 635) rfl, List.mem_of_getElem? (i := 62) rfl, by decide +kernel, by decide +kernel, by decide +kernel⟩
set_option maxRecDepth 100000 in
theorem miX10_valueKept : Cond.instanceMethod mX10_valueKept.1 ∈ lw_tbl := List.mem_of_getElem? (i := 633) rfl
set_option maxRecDepth 100000 in
theorem mvX10_valueKept : Cond.selects mX10_valueKept.1.cls mX10_valueKept.1 mX10_valueKept.1 ∈ lw_tbl := List.mem_of_getElem? (i := 634) rfl
def mX10_sheetOf : am_M := (yX10_sheetOf, cX10_sheetOf, 2, (Option.some Jvm.ClassFile.FieldType.int), 10, 2, false)
set_option maxRecDepth 100000 in
theorem mkX10_sheetOf : am_Mok mX10_sheetOf := ⟨List.mem_of_getElem? (i := 578) rfl, List.mem_of_getElem? (i := 62) rfl, by decide +kernel, by decide +kernel, by decide +kernel⟩
set_option maxRecDepth 100000 in
theorem msX10_sheetOf : Cond.static mX10_sheetOf.1 ∈ lw_tbl := List.mem_of_getElem? (i := 577) rfl
def mX10_valueAt : am_M := (yX10_valueAt, cX10_valueAt, 14, (Option.some Jvm.ClassFile.FieldType.int), 10, 4, false)
set_option maxRecDepth 100000 in
theorem mkX10_valueAt : am_Mok mX10_valueAt := ⟨List.mem_of_getElem? (i := 583) rfl, List.mem_of_getElem? (i := 62) rfl, by decide +kernel, by decide +kernel, by decide +kernel⟩
set_option maxRecDepth 100000 in
theorem miX10_valueAt : Cond.instanceMethod mX10_valueAt.1 ∈ lw_tbl := List.mem_of_getElem? (i := 581) rfl
set_option maxRecDepth 100000 in
theorem mvX10_valueAt : Cond.selects mX10_valueAt.1.cls mX10_valueAt.1 mX10_valueAt.1 ∈ lw_tbl := List.mem_of_getElem? (i := 582) rfl
def mX10_gradientAt : am_M := (yX10_gradientAt, cX10_gradientAt, 7, (Option.some Jvm.ClassFile.FieldType.int), 10, 4, false)
set_option maxRecDepth 100000 in
theorem mkX10_gradientAt : am_Mok mX10_gradientAt := ⟨List.mem_of_getElem? (i := 594) rfl, List.mem_of_getElem? (i := 62) rfl, by decide +kernel, by decide +kernel, by decide +kernel⟩
set_option maxRecDepth 100000 in
theorem miX10_gradientAt : Cond.instanceMethod mX10_gradientAt.1 ∈ lw_tbl := List.mem_of_getElem? (i := 592) rfl
set_option maxRecDepth 100000 in
theorem mvX10_gradientAt : Cond.selects mX10_gradientAt.1.cls mX10_gradientAt.1 mX10_gradientAt.1 ∈ lw_tbl := List.mem_of_getElem? (i := 593) rfl
def mX10_pullOf : am_M := (yX10_pullOf, cX10_pullOf, 3, (Option.some Jvm.ClassFile.FieldType.int), 10, 3, false)
set_option maxRecDepth 100000 in
theorem mkX10_pullOf : am_Mok mX10_pullOf := ⟨List.mem_of_getElem? (i := 603) rfl, List.mem_of_getElem? (i := 62) rfl, by decide +kernel, by decide +kernel, by decide +kernel⟩
set_option maxRecDepth 100000 in
theorem msX10_pullOf : Cond.static mX10_pullOf.1 ∈ lw_tbl := List.mem_of_getElem? (i := 602) rfl
def mX10_fade : am_M := (yX10_fade, cX10_fade, 1, (Option.some Jvm.ClassFile.FieldType.int), 10, 1, false)
set_option maxRecDepth 100000 in
theorem mkX10_fade : am_Mok mX10_fade := ⟨List.mem_of_getElem? (i := 589) rfl, List.mem_of_getElem? (i := 62) rfl, by decide +kernel, by decide +kernel, by decide +kernel⟩
set_option maxRecDepth 100000 in
theorem msX10_fade : Cond.static mX10_fade.1 ∈ lw_tbl := List.mem_of_getElem? (i := 588) rfl
def mX10_between : am_M := (yX10_between, cX10_between, 3, (Option.some Jvm.ClassFile.FieldType.int), 10, 3, false)
set_option maxRecDepth 100000 in
theorem mkX10_between : am_Mok mX10_between := ⟨List.mem_of_getElem? (i := 610) rfl, List.mem_of_getElem? (i := 62) rfl, by decide +kernel, by decide +kernel, by decide +kernel⟩
set_option maxRecDepth 100000 in
theorem msX10_between : Cond.static mX10_between.1 ∈ lw_tbl := List.mem_of_getElem? (i := 609) rfl
def mX11_init : am_M := (yX11_init, cX11_init, 4, none, 11, 0, true)
set_option maxRecDepth 100000 in
theorem mkX11_init : am_Mok mX11_init := ⟨List.mem_of_getElem? (i := 80) rfl, List.mem_of_getElem? (i := 58) rfl, by decide +kernel, by decide +kernel, by decide +kernel⟩
set_option maxRecDepth 100000 in
theorem miX11_init : Cond.instanceMethod mX11_init.1 ∈ lw_tbl := List.mem_of_getElem? (i := 79) rfl
def mX11_feed : am_M := (yX11_feed, cX11_feed, 6, (Option.some Jvm.ClassFile.FieldType.int), 11, 5, false)
set_option maxRecDepth 100000 in
theorem mkX11_feed : am_Mok mX11_feed := ⟨List.mem_of_getElem? (i := 995) rfl, List.mem_of_getElem? (i := 58) rfl, by decide +kernel, by decide +kernel, by decide +kernel⟩
set_option maxRecDepth 100000 in
theorem miX11_feed : Cond.instanceMethod mX11_feed.1 ∈ lw_tbl := List.mem_of_getElem? (i := 993) rfl
set_option maxRecDepth 100000 in
theorem mvX11_feed : Cond.selects mX11_feed.1.cls mX11_feed.1 mX11_feed.1 ∈ lw_tbl := List.mem_of_getElem? (i := 994) rfl
def mX11_trim : am_M := (yX11_trim, cX11_trim, 2, (Option.some Jvm.ClassFile.FieldType.int), 11, 1, false)
set_option maxRecDepth 100000 in
theorem mkX11_trim : am_Mok mX11_trim := ⟨List.mem_of_getElem? (i := 988) rfl, List.mem_of_getElem? (i := 58) rfl, by decide +kernel, by decide +kernel, by decide +kernel⟩
set_option maxRecDepth 100000 in
theorem miX11_trim : Cond.instanceMethod mX11_trim.1 ∈ lw_tbl := List.mem_of_getElem? (i := 986) rfl
set_option maxRecDepth 100000 in
theorem mvX11_trim : Cond.selects mX11_trim.1.cls mX11_trim.1 mX11_trim.1 ∈ lw_tbl := List.mem_of_getElem? (i := 987) rfl
def mX11_teach : am_M := (yX11_teach, cX11_teach, 2, (Option.some Jvm.ClassFile.FieldType.int), 11, 0, false)
set_option maxRecDepth 100000 in
theorem mkX11_teach : am_Mok mX11_teach := ⟨List.mem_of_getElem? (i := 1019) rfl, List.mem_of_getElem? (i := 58) rfl, by decide +kernel, by decide +kernel, by decide +kernel⟩
set_option maxRecDepth 100000 in
theorem miX11_teach : Cond.instanceMethod mX11_teach.1 ∈ lw_tbl := List.mem_of_getElem? (i := 1017) rfl
set_option maxRecDepth 100000 in
theorem mvX11_teach : Cond.selects mX11_teach.1.cls mX11_teach.1 mX11_teach.1 ∈ lw_tbl := List.mem_of_getElem? (i := 1018) rfl
def mX11_count : am_M := (yX11_count, cX11_count, 2, (Option.some Jvm.ClassFile.FieldType.int), 11, 1, false)
set_option maxRecDepth 100000 in
theorem mkX11_count : am_Mok mX11_count := ⟨List.mem_of_getElem? (i := 493) rfl, List.mem_of_getElem? (i := 58) rfl, by decide +kernel, by decide +kernel, by decide +kernel⟩
set_option maxRecDepth 100000 in
theorem miX11_count : Cond.instanceMethod mX11_count.1 ∈ lw_tbl := List.mem_of_getElem? (i := 491) rfl
set_option maxRecDepth 100000 in
theorem mvX11_count : Cond.selects mX11_count.1.cls mX11_count.1 mX11_count.1 ∈ lw_tbl := List.mem_of_getElem? (i := 492) rfl
def mX11_height : am_M := (yX11_height, cX11_height, 3, (Option.some Jvm.ClassFile.FieldType.int), 11, 2, false)
set_option maxRecDepth 100000 in
theorem mkX11_height : am_Mok mX11_height := ⟨List.mem_of_getElem? (i := 692) rfl, List.mem_of_getElem? (i := 58) rfl, by decide +kernel, by decide +kernel, by decide +kernel⟩
set_option maxRecDepth 100000 in
theorem miX11_height : Cond.instanceMethod mX11_height.1 ∈ lw_tbl := List.mem_of_getElem? (i := 690) rfl
set_option maxRecDepth 100000 in
theorem mvX11_height : Cond.selects mX11_height.1.cls mX11_height.1 mX11_height.1 ∈ lw_tbl := List.mem_of_getElem? (i := 691) rfl
def mX11_ink : am_M := (yX11_ink, cX11_ink, 3, (Option.some Jvm.ClassFile.FieldType.int), 11, 2, false)
set_option maxRecDepth 100000 in
theorem mkX11_ink : am_Mok mX11_ink := ⟨List.mem_of_getElem? (i := 699) rfl, List.mem_of_getElem? (i := 58) rfl, by decide +kernel, by decide +kernel, by decide +kernel⟩
set_option maxRecDepth 100000 in
theorem miX11_ink : Cond.instanceMethod mX11_ink.1 ∈ lw_tbl := List.mem_of_getElem? (i := 697) rfl
set_option maxRecDepth 100000 in
theorem mvX11_ink : Cond.selects mX11_ink.1.cls mX11_ink.1 mX11_ink.1 ∈ lw_tbl := List.mem_of_getElem? (i := 698) rfl
def mX11_patch : am_M := (yX11_patch, cX11_patch, 3, (Option.some Jvm.ClassFile.FieldType.int), 11, 2, false)
set_option maxRecDepth 100000 in
theorem mkX11_patch : am_Mok mX11_patch := ⟨List.mem_of_getElem? (i := 703) rfl, List.mem_of_getElem? (i := 58) rfl, by decide +kernel, by decide +kernel, by decide +kernel⟩
set_option maxRecDepth 100000 in
theorem miX11_patch : Cond.instanceMethod mX11_patch.1 ∈ lw_tbl := List.mem_of_getElem? (i := 701) rfl
set_option maxRecDepth 100000 in
theorem mvX11_patch : Cond.selects mX11_patch.1.cls mX11_patch.1 mX11_patch.1 ∈ lw_tbl := List.mem_of_getElem? (i := 702) rfl
def mX11_whence : am_M := (yX11_whence, cX11_whence, 3, (Option.some Jvm.ClassFile.FieldType.int), 11, 2, false)
set_option maxRecDepth 100000 in
theorem mkX11_whence : am_Mok mX11_whence := ⟨List.mem_of_getElem? (i := 711) rfl, List.mem_of_getElem? (i := 58) rfl, by decide +kernel, by decide +kernel, by decide +kernel⟩
set_option maxRecDepth 100000 in
theorem miX11_whence : Cond.instanceMethod mX11_whence.1 ∈ lw_tbl := List.mem_of_getElem? (i := 709) rfl
set_option maxRecDepth 100000 in
theorem mvX11_whence : Cond.selects mX11_whence.1.cls mX11_whence.1 mX11_whence.1 ∈ lw_tbl := List.mem_of_getElem? (i := 710) rfl
def mX11_share : am_M := (yX11_share, cX11_share, 2, (Option.some Jvm.ClassFile.FieldType.int), 11, 1, false)
set_option maxRecDepth 100000 in
theorem mkX11_share : am_Mok mX11_share := ⟨List.mem_of_getElem? (i := 716) rfl, List.mem_of_getElem? (i := 58) rfl, by decide +kernel, by decide +kernel, by decide +kernel⟩
set_option maxRecDepth 100000 in
theorem miX11_share : Cond.instanceMethod mX11_share.1 ∈ lw_tbl := List.mem_of_getElem? (i := 714) rfl
set_option maxRecDepth 100000 in
theorem mvX11_share : Cond.selects mX11_share.1.cls mX11_share.1 mX11_share.1 ∈ lw_tbl := List.mem_of_getElem? (i := 715) rfl
def mX11_octave : am_M := (yX11_octave, cX11_octave, 3, (Option.some Jvm.ClassFile.FieldType.int), 11, 2, false)
set_option maxRecDepth 100000 in
theorem mkX11_octave : am_Mok mX11_octave := ⟨List.mem_of_getElem? (i := 970) rfl, List.mem_of_getElem? (i := 58) rfl, by decide +kernel, by decide +kernel, by decide +kernel⟩
set_option maxRecDepth 100000 in
theorem miX11_octave : Cond.instanceMethod mX11_octave.1 ∈ lw_tbl := List.mem_of_getElem? (i := 968) rfl
set_option maxRecDepth 100000 in
theorem mvX11_octave : Cond.selects mX11_octave.1.cls mX11_octave.1 mX11_octave.1 ∈ lw_tbl := List.mem_of_getElem? (i := 969) rfl
def mX11_comb : am_M := (yX11_comb, cX11_comb, 3, (Option.some Jvm.ClassFile.FieldType.int), 11, 2, false)
set_option maxRecDepth 100000 in
theorem mkX11_comb : am_Mok mX11_comb := ⟨List.mem_of_getElem? (i := 721) rfl, List.mem_of_getElem? (i := 58) rfl, by decide +kernel, by decide +kernel, by decide +kernel⟩
set_option maxRecDepth 100000 in
theorem miX11_comb : Cond.instanceMethod mX11_comb.1 ∈ lw_tbl := List.mem_of_getElem? (i := 719) rfl
set_option maxRecDepth 100000 in
theorem mvX11_comb : Cond.selects mX11_comb.1.cls mX11_comb.1 mX11_comb.1 ∈ lw_tbl := List.mem_of_getElem? (i := 720) rfl
def mX11_moves : am_M := (yX11_moves, cX11_moves, 3, (Option.some Jvm.ClassFile.FieldType.int), 11, 2, false)
set_option maxRecDepth 100000 in
theorem mkX11_moves : am_Mok mX11_moves := ⟨List.mem_of_getElem? (i := 730) rfl, List.mem_of_getElem? (i := 58) rfl, by decide +kernel, by decide +kernel, by decide +kernel⟩
set_option maxRecDepth 100000 in
theorem miX11_moves : Cond.instanceMethod mX11_moves.1 ∈ lw_tbl := List.mem_of_getElem? (i := 728) rfl
set_option maxRecDepth 100000 in
theorem mvX11_moves : Cond.selects mX11_moves.1.cls mX11_moves.1 mX11_moves.1 ∈ lw_tbl := List.mem_of_getElem? (i := 729) rfl
def mX11_setPull : am_M := (yX11_setPull, cX11_setPull, 4, (Option.some Jvm.ClassFile.FieldType.int), 11, 2, false)
set_option maxRecDepth 100000 in
theorem mkX11_setPull : am_Mok mX11_setPull := ⟨List.mem_of_getElem? (i := 1595) rfl, List.mem_of_getElem? (i := 58) rfl, by decide +kernel, by decide +kernel, by decide +kernel⟩
set_option maxRecDepth 100000 in
theorem miX11_setPull : Cond.instanceMethod mX11_setPull.1 ∈ lw_tbl := List.mem_of_getElem? (i := 1593) rfl
set_option maxRecDepth 100000 in
theorem mvX11_setPull : Cond.selects mX11_setPull.1.cls mX11_setPull.1 mX11_setPull.1 ∈ lw_tbl := List.mem_of_getElem? (i := 1594) rfl
def mX11_setSeed : am_M := (yX11_setSeed, cX11_setSeed, 4, (Option.some Jvm.ClassFile.FieldType.int), 11, 2, false)
set_option maxRecDepth 100000 in
theorem mkX11_setSeed : am_Mok mX11_setSeed := ⟨List.mem_of_getElem? (i := 1600) rfl, List.mem_of_getElem? (i := 58) rfl, by decide +kernel, by decide +kernel, by decide +kernel⟩
set_option maxRecDepth 100000 in
theorem miX11_setSeed : Cond.instanceMethod mX11_setSeed.1 ∈ lw_tbl := List.mem_of_getElem? (i := 1598) rfl
set_option maxRecDepth 100000 in
theorem mvX11_setSeed : Cond.selects mX11_setSeed.1.cls mX11_setSeed.1 mX11_setSeed.1 ∈ lw_tbl := List.mem_of_getElem? (i := 1599) rfl
def mX11_drift : am_M := (yX11_drift, cX11_drift, 3, (Option.some Jvm.ClassFile.FieldType.int), 11, 2, false)
set_option maxRecDepth 100000 in
theorem mkX11_drift : am_Mok mX11_drift := ⟨List.mem_of_getElem? (i := 1607) rfl, List.mem_of_getElem? (i := 58) rfl, by decide +kernel, by decide +kernel, by decide +kernel⟩
set_option maxRecDepth 100000 in
theorem miX11_drift : Cond.instanceMethod mX11_drift.1 ∈ lw_tbl := List.mem_of_getElem? (i := 1605) rfl
set_option maxRecDepth 100000 in
theorem mvX11_drift : Cond.selects mX11_drift.1.cls mX11_drift.1 mX11_drift.1 ∈ lw_tbl := List.mem_of_getElem? (i := 1606) rfl
def mX11_dip : am_M := (yX11_dip, cX11_dip, 4, (Option.some Jvm.ClassFile.FieldType.int), 11, 1, false)
set_option maxRecDepth 100000 in
theorem mkX11_dip : am_Mok mX11_dip := ⟨List.mem_of_getElem? (i := 741) rfl, List.mem_of_getElem? (i := 58) rfl, by decide +kernel, by decide +kernel, by decide +kernel⟩
set_option maxRecDepth 100000 in
theorem miX11_dip : Cond.instanceMethod mX11_dip.1 ∈ lw_tbl := List.mem_of_getElem? (i := 739) rfl
set_option maxRecDepth 100000 in
theorem mvX11_dip : Cond.selects mX11_dip.1.cls mX11_dip.1 mX11_dip.1 ∈ lw_tbl := List.mem_of_getElem? (i := 740) rfl
def mX11_foresee : am_M := (yX11_foresee, cX11_foresee, 4, (Option.some Jvm.ClassFile.FieldType.int), 11, 2, false)
set_option maxRecDepth 100000 in
theorem mkX11_foresee : am_Mok mX11_foresee := ⟨List.mem_of_getElem? (i := 831) rfl, List.mem_of_getElem? (i := 58) rfl, by decide +kernel, by decide +kernel, by decide +kernel⟩
set_option maxRecDepth 100000 in
theorem miX11_foresee : Cond.instanceMethod mX11_foresee.1 ∈ lw_tbl := List.mem_of_getElem? (i := 829) rfl
set_option maxRecDepth 100000 in
theorem mvX11_foresee : Cond.selects mX11_foresee.1.cls mX11_foresee.1 mX11_foresee.1 ∈ lw_tbl := List.mem_of_getElem? (i := 830) rfl
def mX11_until : am_M := (yX11_until, cX11_until, 6, (Option.some Jvm.ClassFile.FieldType.int), 11, 3, false)
set_option maxRecDepth 100000 in
theorem mkX11_until : am_Mok mX11_until := ⟨List.mem_of_getElem? (i := 850) rfl, List.mem_of_getElem? (i := 58) rfl, by decide +kernel, by decide +kernel, by decide +kernel⟩
set_option maxRecDepth 100000 in
theorem miX11_until : Cond.instanceMethod mX11_until.1 ∈ lw_tbl := List.mem_of_getElem? (i := 848) rfl
set_option maxRecDepth 100000 in
theorem mvX11_until : Cond.selects mX11_until.1.cls mX11_until.1 mX11_until.1 ∈ lw_tbl := List.mem_of_getElem? (i := 849) rfl
def mX11_advise : am_M := (yX11_advise, cX11_advise, 5, (Option.some Jvm.ClassFile.FieldType.int), 11, 1, false)
set_option maxRecDepth 100000 in
theorem mkX11_advise : am_Mok mX11_advise := ⟨List.mem_of_getElem? (i := 854) rfl, List.mem_of_getElem? (i := 58) rfl, by decide +kernel, by decide +kernel, by decide +kernel⟩
set_option maxRecDepth 100000 in
theorem miX11_advise : Cond.instanceMethod mX11_advise.1 ∈ lw_tbl := List.mem_of_getElem? (i := 852) rfl
set_option maxRecDepth 100000 in
theorem mvX11_advise : Cond.selects mX11_advise.1.cls mX11_advise.1 mX11_advise.1 ∈ lw_tbl := List.mem_of_getElem? (i := 853) rfl
def mX11_mean : am_M := (yX11_mean, cX11_mean, 4, (Option.some Jvm.ClassFile.FieldType.double), 11, 0, false)
set_option maxRecDepth 100000 in
theorem mkX11_mean : am_Mok mX11_mean := ⟨List.mem_of_getElem? (i := 859) rfl, List.mem_of_getElem? (i := 58) rfl, by decide +kernel, by decide +kernel, by decide +kernel⟩
set_option maxRecDepth 100000 in
theorem miX11_mean : Cond.instanceMethod mX11_mean.1 ∈ lw_tbl := List.mem_of_getElem? (i := 857) rfl
set_option maxRecDepth 100000 in
theorem mvX11_mean : Cond.selects mX11_mean.1.cls mX11_mean.1 mX11_mean.1 ∈ lw_tbl := List.mem_of_getElem? (i := 858) rfl
def mX11_digest : am_M := (yX11_digest, cX11_digest, 5, (Option.some Jvm.ClassFile.FieldType.long), 11, 0, false)
set_option maxRecDepth 100000 in
theorem mkX11_digest : am_Mok mX11_digest := ⟨List.mem_of_getElem? (i := 863) rfl, List.mem_of_getElem? (i := 58) rfl, by decide +kernel, by decide +kernel, by decide +kernel⟩
set_option maxRecDepth 100000 in
theorem miX11_digest : Cond.instanceMethod mX11_digest.1 ∈ lw_tbl := List.mem_of_getElem? (i := 861) rfl
set_option maxRecDepth 100000 in
theorem mvX11_digest : Cond.selects mX11_digest.1.cls mX11_digest.1 mX11_digest.1 ∈ lw_tbl := List.mem_of_getElem? (i := 862) rfl
def mX12_init : am_M := (yX12_init, cX12_init, 1, none, 12, 0, true)
set_option maxRecDepth 100000 in
theorem mkX12_init : am_Mok mX12_init := ⟨List.mem_of_getElem? (i := 1300) rfl, List.mem_of_getElem? (i := 50) rfl, by decide +kernel, by decide +kernel, by decide +kernel⟩
set_option maxRecDepth 100000 in
theorem miX12_init : Cond.instanceMethod mX12_init.1 ∈ lw_tbl := List.mem_of_getElem? (i := 1299) rfl
def mX12_with : am_M := (yX12_with, cX12_with, 4, (Option.some (Jvm.ClassFile.FieldType.array (Jvm.ClassFile.FieldType.array Jvm.ClassFile.FieldType.int))), 12, 2, false)
set_option maxRecDepth 100000 in
theorem mkX12_with : am_Mok mX12_with := ⟨List.mem_of_getElem? (i := 1469) rfl, List.mem_of_getElem? (i := 50) rfl, by decide +kernel, by decide +kernel, by decide +kernel⟩
set_option maxRecDepth 100000 in
theorem msX12_with : Cond.static mX12_with.1 ∈ lw_tbl := List.mem_of_getElem? (i := 1468) rfl
def mX12_gradient : am_M := (yX12_gradient, cX12_gradient, 5, (Option.some Jvm.ClassFile.FieldType.int), 12, 3, false)
set_option maxRecDepth 100000 in
theorem mkX12_gradient : am_Mok mX12_gradient := ⟨List.mem_of_getElem? (i := 885) rfl, List.mem_of_getElem? (i := 50) rfl, by decide +kernel, by decide +kernel, by decide +kernel⟩
set_option maxRecDepth 100000 in
theorem msX12_gradient : Cond.static mX12_gradient.1 ∈ lw_tbl := List.mem_of_getElem? (i := 884) rfl
def mX12_mixed : am_M := (yX12_mixed, cX12_mixed, 3, (Option.some Jvm.ClassFile.FieldType.int), 12, 3, false)
set_option maxRecDepth 100000 in
theorem mkX12_mixed : am_Mok mX12_mixed := ⟨List.mem_of_getElem? (i := 888) rfl, List.mem_of_getElem? (i := 50) rfl, by decide +kernel, by decide +kernel, by decide +kernel⟩
set_option maxRecDepth 100000 in
theorem msX12_mixed : Cond.static mX12_mixed.1 ∈ lw_tbl := List.mem_of_getElem? (i := 887) rfl
def mX12_value : am_M := (yX12_value, cX12_value, 8, (Option.some Jvm.ClassFile.FieldType.int), 12, 3, false)
set_option maxRecDepth 100000 in
theorem mkX12_value : am_Mok mX12_value := ⟨List.mem_of_getElem? (i := 877) rfl, List.mem_of_getElem? (i := 50) rfl, by decide +kernel, by decide +kernel, by decide +kernel⟩
set_option maxRecDepth 100000 in
theorem miX12_value : Cond.instanceMethod mX12_value.1 ∈ lw_tbl := List.mem_of_getElem? (i := 875) rfl
set_option maxRecDepth 100000 in
theorem mvX12_value : Cond.selects mX12_value.1.cls mX12_value.1 mX12_value.1 ∈ lw_tbl := List.mem_of_getElem? (i := 876) rfl
def mX12_pulled : am_M := (yX12_pulled, cX12_pulled, 8, (Option.some Jvm.ClassFile.FieldType.int), 12, 5, false)
set_option maxRecDepth 100000 in
theorem mkX12_pulled : am_Mok mX12_pulled := ⟨List.mem_of_getElem? (i := 880) rfl, List.mem_of_getElem? (i := 50) rfl, by decide +kernel, by decide +kernel, by decide +kernel⟩
set_option maxRecDepth 100000 in
theorem msX12_pulled : Cond.static mX12_pulled.1 ∈ lw_tbl := List.mem_of_getElem? (i := 879) rfl
