def am_Mok (M : am_M) : Prop := Cond.code M.1 M.2.1 M.2.2.1 M.2.2.2.1 ∈ lw_tbl ∧ Cond.initialized M.1.cls ∈ lw_tbl ∧ M.1.cls ≠ "java/lang/invoke/MethodHandle" ∧ M.1.cls ≠ "java/lang/invoke/VarHandle" ∧ (parseMethodDescriptor M.1.desc).map (fun d => d.parameters.length) = some M.2.2.2.2.2.1
def mX0_at : am_M := (yX0_at, cX0_at, 2, (Option.some Jvm.ClassFile.FieldType.int), 13, 2, false)
theorem mkX0_at : am_Mok mX0_at := ⟨List.mem_of_getElem? (i := 690) (by decide +kernel), List.mem_of_getElem? (i := 134) (by decide +kernel), by decide +kernel, by decide +kernel, by decide +kernel⟩
theorem msX0_at : Cond.static mX0_at.1 ∈ lw_tbl := List.mem_of_getElem? (i := 689) (by decide +kernel)
def mX0_put : am_M := (yX0_put, cX0_put, 3, none, 13, 3, false)
theorem mkX0_put : am_Mok mX0_put := ⟨List.mem_of_getElem? (i := 729) (by decide +kernel), List.mem_of_getElem? (i := 134) (by decide +kernel), by decide +kernel, by decide +kernel, by decide +kernel⟩
theorem msX0_put : Cond.static mX0_put.1 ∈ lw_tbl := List.mem_of_getElem? (i := 728) (by decide +kernel)
def mX0_copy : am_M := (yX0_copy, cX0_copy, 2, none, 13, 2, false)
theorem mkX0_copy : am_Mok mX0_copy := ⟨List.mem_of_getElem? (i := 824) (by decide +kernel), List.mem_of_getElem? (i := 134) (by decide +kernel), by decide +kernel, by decide +kernel, by decide +kernel⟩
theorem msX0_copy : Cond.static mX0_copy.1 ∈ lw_tbl := List.mem_of_getElem? (i := 823) (by decide +kernel)
def mX0_wrap : am_M := (yX0_wrap, cX0_wrap, 3, (Option.some Jvm.ClassFile.FieldType.int), 13, 2, false)
theorem mkX0_wrap : am_Mok mX0_wrap := ⟨List.mem_of_getElem? (i := 858) (by decide +kernel), List.mem_of_getElem? (i := 134) (by decide +kernel), by decide +kernel, by decide +kernel, by decide +kernel⟩
theorem msX0_wrap : Cond.static mX0_wrap.1 ∈ lw_tbl := List.mem_of_getElem? (i := 857) (by decide +kernel)
def mX0_quotient : am_M := (yX0_quotient, cX0_quotient, 2, (Option.some Jvm.ClassFile.FieldType.int), 13, 2, false)
theorem mkX0_quotient : am_Mok mX0_quotient := ⟨List.mem_of_getElem? (i := 865) (by decide +kernel), List.mem_of_getElem? (i := 134) (by decide +kernel), by decide +kernel, by decide +kernel, by decide +kernel⟩
theorem msX0_quotient : Cond.static mX0_quotient.1 ∈ lw_tbl := List.mem_of_getElem? (i := 864) (by decide +kernel)
def mX0_hold : am_M := (yX0_hold, cX0_hold, 3, (Option.some Jvm.ClassFile.FieldType.int), 13, 3, false)
theorem mkX0_hold : am_Mok mX0_hold := ⟨List.mem_of_getElem? (i := 939) (by decide +kernel), List.mem_of_getElem? (i := 134) (by decide +kernel), by decide +kernel, by decide +kernel, by decide +kernel⟩
theorem msX0_hold : Cond.static mX0_hold.1 ∈ lw_tbl := List.mem_of_getElem? (i := 938) (by decide +kernel)
def mX2_init : am_M := (yX2_init, cX2_init, 2, none, 0, 1, true)
theorem mkX2_init : am_Mok mX2_init := ⟨List.mem_of_getElem? (i := 382) (by decide +kernel), List.mem_of_getElem? (i := 120) (by decide +kernel), by decide +kernel, by decide +kernel, by decide +kernel⟩
theorem miX2_init : Cond.instanceMethod mX2_init.1 ∈ lw_tbl := List.mem_of_getElem? (i := 381) (by decide +kernel)
def mX2_forget : am_M := (yX2_forget, cX2_forget, 1, none, 0, 0, false)
theorem mkX2_forget : am_Mok mX2_forget := ⟨List.mem_of_getElem? (i := 663) (by decide +kernel), List.mem_of_getElem? (i := 120) (by decide +kernel), by decide +kernel, by decide +kernel, by decide +kernel⟩
theorem miX2_forget : Cond.instanceMethod mX2_forget.1 ∈ lw_tbl := List.mem_of_getElem? (i := 661) (by decide +kernel)
theorem mvX2_forget : Cond.selects mX2_forget.1.cls mX2_forget.1 mX2_forget.1 ∈ lw_tbl := List.mem_of_getElem? (i := 662) (by decide +kernel)
def mX2_isFull : am_M := (yX2_isFull, cX2_isFull, 1, (Option.some Jvm.ClassFile.FieldType.boolean), 0, 0, false)
theorem mkX2_isFull : am_Mok mX2_isFull := ⟨List.mem_of_getElem? (i := 718) (by decide +kernel), List.mem_of_getElem? (i := 120) (by decide +kernel), by decide +kernel, by decide +kernel, by decide +kernel⟩
theorem miX2_isFull : Cond.instanceMethod mX2_isFull.1 ∈ lw_tbl := List.mem_of_getElem? (i := 716) (by decide +kernel)
theorem mvX2_isFull : Cond.selects mX2_isFull.1.cls mX2_isFull.1 mX2_isFull.1 ∈ lw_tbl := List.mem_of_getElem? (i := 717) (by decide +kernel)
def mX2_add : am_M := (yX2_add, cX2_add, 3, none, 0, 1, false)
theorem mkX2_add : am_Mok mX2_add := ⟨List.mem_of_getElem? (i := 722) (by decide +kernel), List.mem_of_getElem? (i := 120) (by decide +kernel), by decide +kernel, by decide +kernel, by decide +kernel⟩
theorem miX2_add : Cond.instanceMethod mX2_add.1 ∈ lw_tbl := List.mem_of_getElem? (i := 720) (by decide +kernel)
theorem mvX2_add : Cond.selects mX2_add.1.cls mX2_add.1 mX2_add.1 ∈ lw_tbl := List.mem_of_getElem? (i := 721) (by decide +kernel)
def mX2_find : am_M := (yX2_find, cX2_find, 4, (Option.some Jvm.ClassFile.FieldType.int), 0, 1, false)
theorem mkX2_find : am_Mok mX2_find := ⟨List.mem_of_getElem? (i := 714) (by decide +kernel), List.mem_of_getElem? (i := 120) (by decide +kernel), by decide +kernel, by decide +kernel, by decide +kernel⟩
theorem miX2_find : Cond.instanceMethod mX2_find.1 ∈ lw_tbl := List.mem_of_getElem? (i := 712) (by decide +kernel)
theorem mvX2_find : Cond.selects mX2_find.1.cls mX2_find.1 mX2_find.1 ∈ lw_tbl := List.mem_of_getElem? (i := 713) (by decide +kernel)
def mX3_init : am_M := (yX3_init, cX3_init, 1, none, 1, 0, true)
theorem mkX3_init : am_Mok mX3_init := ⟨List.mem_of_getElem? (i := 244) (by decide +kernel), List.mem_of_getElem? (i := 117) (by decide +kernel), by decide +kernel, by decide +kernel, by decide +kernel⟩
theorem miX3_init : Cond.instanceMethod mX3_init.1 ∈ lw_tbl := List.mem_of_getElem? (i := 243) (by decide +kernel)
def mX3_clear : am_M := (yX3_clear, cX3_clear, 1, none, 1, 0, false)
theorem mkX3_clear : am_Mok mX3_clear := ⟨List.mem_of_getElem? (i := 659) (by decide +kernel), List.mem_of_getElem? (i := 117) (by decide +kernel), by decide +kernel, by decide +kernel, by decide +kernel⟩
theorem miX3_clear : Cond.instanceMethod mX3_clear.1 ∈ lw_tbl := List.mem_of_getElem? (i := 657) (by decide +kernel)
theorem mvX3_clear : Cond.selects mX3_clear.1.cls mX3_clear.1 mX3_clear.1 ∈ lw_tbl := List.mem_of_getElem? (i := 658) (by decide +kernel)
def mX3_begin : am_M := (yX3_begin, cX3_begin, 3, none, 1, 2, false)
theorem mkX3_begin : am_Mok mX3_begin := ⟨List.mem_of_getElem? (i := 767) (by decide +kernel), List.mem_of_getElem? (i := 117) (by decide +kernel), by decide +kernel, by decide +kernel, by decide +kernel⟩
theorem miX3_begin : Cond.instanceMethod mX3_begin.1 ∈ lw_tbl := List.mem_of_getElem? (i := 765) (by decide +kernel)
theorem mvX3_begin : Cond.selects mX3_begin.1.cls mX3_begin.1 mX3_begin.1 ∈ lw_tbl := List.mem_of_getElem? (i := 766) (by decide +kernel)
def mX3_endSum : am_M := (yX3_endSum, cX3_endSum, 1, none, 1, 0, false)
theorem mkX3_endSum : am_Mok mX3_endSum := ⟨List.mem_of_getElem? (i := 797) (by decide +kernel), List.mem_of_getElem? (i := 117) (by decide +kernel), by decide +kernel, by decide +kernel, by decide +kernel⟩
theorem miX3_endSum : Cond.instanceMethod mX3_endSum.1 ∈ lw_tbl := List.mem_of_getElem? (i := 795) (by decide +kernel)
theorem mvX3_endSum : Cond.selects mX3_endSum.1.cls mX3_endSum.1 mX3_endSum.1 ∈ lw_tbl := List.mem_of_getElem? (i := 796) (by decide +kernel)
def mX3_endTest : am_M := (yX3_endTest, cX3_endTest, 1, none, 1, 0, false)
theorem mkX3_endTest : am_Mok mX3_endTest := ⟨List.mem_of_getElem? (i := 817) (by decide +kernel), List.mem_of_getElem? (i := 117) (by decide +kernel), by decide +kernel, by decide +kernel, by decide +kernel⟩
theorem miX3_endTest : Cond.instanceMethod mX3_endTest.1 ∈ lw_tbl := List.mem_of_getElem? (i := 815) (by decide +kernel)
theorem mvX3_endTest : Cond.selects mX3_endTest.1.cls mX3_endTest.1 mX3_endTest.1 ∈ lw_tbl := List.mem_of_getElem? (i := 816) (by decide +kernel)
def mX3_add : am_M := (yX3_add, cX3_add, 3, none, 1, 2, false)
theorem mkX3_add : am_Mok mX3_add := ⟨List.mem_of_getElem? (i := 785) (by decide +kernel), List.mem_of_getElem? (i := 117) (by decide +kernel), by decide +kernel, by decide +kernel, by decide +kernel⟩
theorem miX3_add : Cond.instanceMethod mX3_add.1 ∈ lw_tbl := List.mem_of_getElem? (i := 783) (by decide +kernel)
theorem mvX3_add : Cond.selects mX3_add.1.cls mX3_add.1 mX3_add.1 ∈ lw_tbl := List.mem_of_getElem? (i := 784) (by decide +kernel)
def mX3_looksAtSpots : am_M := (yX3_looksAtSpots, cX3_looksAtSpots, 2, (Option.some Jvm.ClassFile.FieldType.boolean), 1, 1, false)
theorem mkX3_looksAtSpots : am_Mok mX3_looksAtSpots := ⟨List.mem_of_getElem? (i := 1257) (by decide +kernel), List.mem_of_getElem? (i := 117) (by decide +kernel), by decide +kernel, by decide +kernel, by decide +kernel⟩
theorem miX3_looksAtSpots : Cond.instanceMethod mX3_looksAtSpots.1 ∈ lw_tbl := List.mem_of_getElem? (i := 1255) (by decide +kernel)
theorem mvX3_looksAtSpots : Cond.selects mX3_looksAtSpots.1.cls mX3_looksAtSpots.1 mX3_looksAtSpots.1 ∈ lw_tbl := List.mem_of_getElem? (i := 1256) (by decide +kernel)
def mX3_take : am_M := (yX3_take, cX3_take, 2, none, 1, 1, false)
theorem mkX3_take : am_Mok mX3_take := ⟨List.mem_of_getElem? (i := 832) (by decide +kernel), List.mem_of_getElem? (i := 117) (by decide +kernel), by decide +kernel, by decide +kernel, by decide +kernel⟩
theorem miX3_take : Cond.instanceMethod mX3_take.1 ∈ lw_tbl := List.mem_of_getElem? (i := 830) (by decide +kernel)
theorem mvX3_take : Cond.selects mX3_take.1.cls mX3_take.1 mX3_take.1 ∈ lw_tbl := List.mem_of_getElem? (i := 831) (by decide +kernel)
def mX4_init : am_M := (yX4_init, cX4_init, 1, none, 2, 0, true)
theorem mkX4_init : am_Mok mX4_init := ⟨List.mem_of_getElem? (i := 434) (by decide +kernel), List.mem_of_getElem? (i := 123) (by decide +kernel), by decide +kernel, by decide +kernel, by decide +kernel⟩
theorem miX4_init : Cond.instanceMethod mX4_init.1 ∈ lw_tbl := List.mem_of_getElem? (i := 433) (by decide +kernel)
def mX4_find : am_M := (yX4_find, cX4_find, 7, none, 2, 3, false)
theorem mkX4_find : am_Mok mX4_find := ⟨List.mem_of_getElem? (i := 963) (by decide +kernel), List.mem_of_getElem? (i := 123) (by decide +kernel), by decide +kernel, by decide +kernel, by decide +kernel⟩
theorem miX4_find : Cond.instanceMethod mX4_find.1 ∈ lw_tbl := List.mem_of_getElem? (i := 961) (by decide +kernel)
theorem mvX4_find : Cond.selects mX4_find.1.cls mX4_find.1 mX4_find.1 ∈ lw_tbl := List.mem_of_getElem? (i := 962) (by decide +kernel)
def mX4_spread : am_M := (yX4_spread, cX4_spread, 12, none, 2, 4, false)
theorem mkX4_spread : am_Mok mX4_spread := ⟨List.mem_of_getElem? (i := 975) (by decide +kernel), List.mem_of_getElem? (i := 123) (by decide +kernel), by decide +kernel, by decide +kernel, by decide +kernel⟩
theorem miX4_spread : Cond.instanceMethod mX4_spread.1 ∈ lw_tbl := List.mem_of_getElem? (i := 974) (by decide +kernel)
theorem mvX4_spread : Cond.selects mX4_spread.1.cls mX4_spread.1 mX4_spread.1 ∈ lw_tbl := List.mem_of_getElem? (i := 33) (by decide +kernel)
def mX4_join : am_M := (yX4_join, cX4_join, 3, none, 2, 2, false)
theorem mkX4_join : am_Mok mX4_join := ⟨List.mem_of_getElem? (i := 979) (by decide +kernel), List.mem_of_getElem? (i := 123) (by decide +kernel), by decide +kernel, by decide +kernel, by decide +kernel⟩
theorem miX4_join : Cond.instanceMethod mX4_join.1 ∈ lw_tbl := List.mem_of_getElem? (i := 978) (by decide +kernel)
theorem mvX4_join : Cond.selects mX4_join.1.cls mX4_join.1 mX4_join.1 ∈ lw_tbl := List.mem_of_getElem? (i := 34) (by decide +kernel)
def mX4_leftOf : am_M := (yX4_leftOf, cX4_leftOf, 2, (Option.some Jvm.ClassFile.FieldType.int), 2, 2, false)
theorem mkX4_leftOf : am_Mok mX4_leftOf := ⟨List.mem_of_getElem? (i := 982) (by decide +kernel), List.mem_of_getElem? (i := 123) (by decide +kernel), by decide +kernel, by decide +kernel, by decide +kernel⟩
theorem msX4_leftOf : Cond.static mX4_leftOf.1 ∈ lw_tbl := List.mem_of_getElem? (i := 981) (by decide +kernel)
def mX4_rightOf : am_M := (yX4_rightOf, cX4_rightOf, 2, (Option.some Jvm.ClassFile.FieldType.int), 2, 2, false)
theorem mkX4_rightOf : am_Mok mX4_rightOf := ⟨List.mem_of_getElem? (i := 968) (by decide +kernel), List.mem_of_getElem? (i := 123) (by decide +kernel), by decide +kernel, by decide +kernel, by decide +kernel⟩
theorem msX4_rightOf : Cond.static mX4_rightOf.1 ∈ lw_tbl := List.mem_of_getElem? (i := 967) (by decide +kernel)
def mX4_above : am_M := (yX4_above, cX4_above, 3, (Option.some Jvm.ClassFile.FieldType.int), 2, 3, false)
theorem mkX4_above : am_Mok mX4_above := ⟨List.mem_of_getElem? (i := 985) (by decide +kernel), List.mem_of_getElem? (i := 123) (by decide +kernel), by decide +kernel, by decide +kernel, by decide +kernel⟩
theorem msX4_above : Cond.static mX4_above.1 ∈ lw_tbl := List.mem_of_getElem? (i := 984) (by decide +kernel)
def mX4_below : am_M := (yX4_below, cX4_below, 3, (Option.some Jvm.ClassFile.FieldType.int), 2, 3, false)
theorem mkX4_below : am_Mok mX4_below := ⟨List.mem_of_getElem? (i := 971) (by decide +kernel), List.mem_of_getElem? (i := 123) (by decide +kernel), by decide +kernel, by decide +kernel, by decide +kernel⟩
theorem msX4_below : Cond.static mX4_below.1 ∈ lw_tbl := List.mem_of_getElem? (i := 970) (by decide +kernel)
def mX4_sizeAt : am_M := (yX4_sizeAt, cX4_sizeAt, 2, (Option.some Jvm.ClassFile.FieldType.int), 2, 1, false)
theorem mkX4_sizeAt : am_Mok mX4_sizeAt := ⟨List.mem_of_getElem? (i := 989) (by decide +kernel), List.mem_of_getElem? (i := 123) (by decide +kernel), by decide +kernel, by decide +kernel, by decide +kernel⟩
theorem miX4_sizeAt : Cond.instanceMethod mX4_sizeAt.1 ∈ lw_tbl := List.mem_of_getElem? (i := 987) (by decide +kernel)
theorem mvX4_sizeAt : Cond.selects mX4_sizeAt.1.cls mX4_sizeAt.1 mX4_sizeAt.1 ∈ lw_tbl := List.mem_of_getElem? (i := 988) (by decide +kernel)
def mX5_init : am_M := (yX5_init, cX5_init, 1, none, 3, 0, true)
theorem mkX5_init : am_Mok mX5_init := ⟨List.mem_of_getElem? (i := 238) (by decide +kernel), List.mem_of_getElem? (i := 116) (by decide +kernel), by decide +kernel, by decide +kernel, by decide +kernel⟩
theorem miX5_init : Cond.instanceMethod mX5_init.1 ∈ lw_tbl := List.mem_of_getElem? (i := 237) (by decide +kernel)
def mX5_clear : am_M := (yX5_clear, cX5_clear, 1, none, 3, 0, false)
theorem mkX5_clear : am_Mok mX5_clear := ⟨List.mem_of_getElem? (i := 655) (by decide +kernel), List.mem_of_getElem? (i := 116) (by decide +kernel), by decide +kernel, by decide +kernel, by decide +kernel⟩
theorem miX5_clear : Cond.instanceMethod mX5_clear.1 ∈ lw_tbl := List.mem_of_getElem? (i := 653) (by decide +kernel)
theorem mvX5_clear : Cond.selects mX5_clear.1.cls mX5_clear.1 mX5_clear.1 ∈ lw_tbl := List.mem_of_getElem? (i := 654) (by decide +kernel)
def mX5_addOctave : am_M := (yX5_addOctave, cX5_addOctave, 5, none, 3, 4, false)
theorem mkX5_addOctave : am_Mok mX5_addOctave := ⟨List.mem_of_getElem? (i := 726) (by decide +kernel), List.mem_of_getElem? (i := 116) (by decide +kernel), by decide +kernel, by decide +kernel, by decide +kernel⟩
theorem miX5_addOctave : Cond.instanceMethod mX5_addOctave.1 ∈ lw_tbl := List.mem_of_getElem? (i := 724) (by decide +kernel)
theorem mvX5_addOctave : Cond.selects mX5_addOctave.1.cls mX5_addOctave.1 mX5_addOctave.1 ∈ lw_tbl := List.mem_of_getElem? (i := 725) (by decide +kernel)
def mX5_addComb : am_M := (yX5_addComb, cX5_addComb, 4, none, 3, 3, false)
theorem mkX5_addComb : am_Mok mX5_addComb := ⟨List.mem_of_getElem? (i := 742) (by decide +kernel), List.mem_of_getElem? (i := 116) (by decide +kernel), by decide +kernel, by decide +kernel, by decide +kernel⟩
theorem miX5_addComb : Cond.instanceMethod mX5_addComb.1 ∈ lw_tbl := List.mem_of_getElem? (i := 740) (by decide +kernel)
theorem mvX5_addComb : Cond.selects mX5_addComb.1.cls mX5_addComb.1 mX5_addComb.1 ∈ lw_tbl := List.mem_of_getElem? (i := 741) (by decide +kernel)
def mX5_addInk : am_M := (yX5_addInk, cX5_addInk, 2, none, 3, 1, false)
theorem mkX5_addInk : am_Mok mX5_addInk := ⟨List.mem_of_getElem? (i := 755) (by decide +kernel), List.mem_of_getElem? (i := 116) (by decide +kernel), by decide +kernel, by decide +kernel, by decide +kernel⟩
theorem miX5_addInk : Cond.instanceMethod mX5_addInk.1 ∈ lw_tbl := List.mem_of_getElem? (i := 753) (by decide +kernel)
theorem mvX5_addInk : Cond.selects mX5_addInk.1.cls mX5_addInk.1 mX5_addInk.1 ∈ lw_tbl := List.mem_of_getElem? (i := 754) (by decide +kernel)
def mX5_lowestNextLevel : am_M := (yX5_lowestNextLevel, cX5_lowestNextLevel, 1, (Option.some Jvm.ClassFile.FieldType.int), 3, 0, false)
theorem mkX5_lowestNextLevel : am_Mok mX5_lowestNextLevel := ⟨List.mem_of_getElem? (i := 750) (by decide +kernel), List.mem_of_getElem? (i := 116) (by decide +kernel), by decide +kernel, by decide +kernel, by decide +kernel⟩
theorem miX5_lowestNextLevel : Cond.instanceMethod mX5_lowestNextLevel.1 ∈ lw_tbl := List.mem_of_getElem? (i := 748) (by decide +kernel)
theorem mvX5_lowestNextLevel : Cond.selects mX5_lowestNextLevel.1.cls mX5_lowestNextLevel.1 mX5_lowestNextLevel.1 ∈ lw_tbl := List.mem_of_getElem? (i := 749) (by decide +kernel)
def mX5_take : am_M := (yX5_take, cX5_take, 2, none, 3, 1, false)
theorem mkX5_take : am_Mok mX5_take := ⟨List.mem_of_getElem? (i := 821) (by decide +kernel), List.mem_of_getElem? (i := 116) (by decide +kernel), by decide +kernel, by decide +kernel, by decide +kernel⟩
theorem miX5_take : Cond.instanceMethod mX5_take.1 ∈ lw_tbl := List.mem_of_getElem? (i := 819) (by decide +kernel)
theorem mvX5_take : Cond.selects mX5_take.1.cls mX5_take.1 mX5_take.1 ∈ lw_tbl := List.mem_of_getElem? (i := 820) (by decide +kernel)
def mX5_spot : am_M := (yX5_spot, cX5_spot, 3, (Option.some Jvm.ClassFile.FieldType.int), 3, 2, false)
theorem mkX5_spot : am_Mok mX5_spot := ⟨List.mem_of_getElem? (i := 927) (by decide +kernel), List.mem_of_getElem? (i := 116) (by decide +kernel), by decide +kernel, by decide +kernel, by decide +kernel⟩
theorem miX5_spot : Cond.instanceMethod mX5_spot.1 ∈ lw_tbl := List.mem_of_getElem? (i := 925) (by decide +kernel)
theorem mvX5_spot : Cond.selects mX5_spot.1.cls mX5_spot.1 mX5_spot.1 ∈ lw_tbl := List.mem_of_getElem? (i := 926) (by decide +kernel)
def mX5_linesOf : am_M := (yX5_linesOf, cX5_linesOf, 2, (Option.some Jvm.ClassFile.FieldType.int), 3, 1, false)
theorem mkX5_linesOf : am_Mok mX5_linesOf := ⟨List.mem_of_getElem? (i := 855) (by decide +kernel), List.mem_of_getElem? (i := 116) (by decide +kernel), by decide +kernel, by decide +kernel, by decide +kernel⟩
theorem miX5_linesOf : Cond.instanceMethod mX5_linesOf.1 ∈ lw_tbl := List.mem_of_getElem? (i := 853) (by decide +kernel)
theorem mvX5_linesOf : Cond.selects mX5_linesOf.1.cls mX5_linesOf.1 mX5_linesOf.1 ∈ lw_tbl := List.mem_of_getElem? (i := 854) (by decide +kernel)
def mX5_inkOf : am_M := (yX5_inkOf, cX5_inkOf, 4, (Option.some Jvm.ClassFile.FieldType.int), 3, 1, false)
theorem mkX5_inkOf : am_Mok mX5_inkOf := ⟨List.mem_of_getElem? (i := 944) (by decide +kernel), List.mem_of_getElem? (i := 116) (by decide +kernel), by decide +kernel, by decide +kernel, by decide +kernel⟩
theorem miX5_inkOf : Cond.instanceMethod mX5_inkOf.1 ∈ lw_tbl := List.mem_of_getElem? (i := 942) (by decide +kernel)
theorem mvX5_inkOf : Cond.selects mX5_inkOf.1.cls mX5_inkOf.1 mX5_inkOf.1 ∈ lw_tbl := List.mem_of_getElem? (i := 943) (by decide +kernel)
def mX6_init : am_M := (yX6_init, cX6_init, 2, none, 4, 1, true)
theorem mkX6_init : am_Mok mX6_init := ⟨List.mem_of_getElem? (i := 374) (by decide +kernel), List.mem_of_getElem? (i := 119) (by decide +kernel), by decide +kernel, by decide +kernel, by decide +kernel⟩
theorem miX6_init : Cond.instanceMethod mX6_init.1 ∈ lw_tbl := List.mem_of_getElem? (i := 373) (by decide +kernel)
def mX6_read : am_M := (yX6_read, cX6_read, 2, (Option.some Jvm.ClassFile.FieldType.int), 4, 0, false)
theorem mkX6_read : am_Mok mX6_read := ⟨List.mem_of_getElem? (i := 558) (by decide +kernel), List.mem_of_getElem? (i := 119) (by decide +kernel), by decide +kernel, by decide +kernel, by decide +kernel⟩
theorem miX6_read : Cond.instanceMethod mX6_read.1 ∈ lw_tbl := List.mem_of_getElem? (i := 556) (by decide +kernel)
theorem mvX6_read : Cond.selects mX6_read.1.cls mX6_read.1 mX6_read.1 ∈ lw_tbl := List.mem_of_getElem? (i := 557) (by decide +kernel)
def mX6_readLine : am_M := (yX6_readLine, cX6_readLine, 2, none, 4, 0, false)
theorem mkX6_readLine : am_Mok mX6_readLine := ⟨List.mem_of_getElem? (i := 671) (by decide +kernel), List.mem_of_getElem? (i := 119) (by decide +kernel), by decide +kernel, by decide +kernel, by decide +kernel⟩
theorem miX6_readLine : Cond.instanceMethod mX6_readLine.1 ∈ lw_tbl := List.mem_of_getElem? (i := 670) (by decide +kernel)
theorem mvX6_readLine : Cond.selects mX6_readLine.1.cls mX6_readLine.1 mX6_readLine.1 ∈ lw_tbl := List.mem_of_getElem? (i := 6) (by decide +kernel)
def mX6_readPaper : am_M := (yX6_readPaper, cX6_readPaper, 1, none, 4, 0, false)
theorem mkX6_readPaper : am_Mok mX6_readPaper := ⟨List.mem_of_getElem? (i := 675) (by decide +kernel), List.mem_of_getElem? (i := 119) (by decide +kernel), by decide +kernel, by decide +kernel, by decide +kernel⟩
theorem miX6_readPaper : Cond.instanceMethod mX6_readPaper.1 ∈ lw_tbl := List.mem_of_getElem? (i := 674) (by decide +kernel)
theorem mvX6_readPaper : Cond.selects mX6_readPaper.1.cls mX6_readPaper.1 mX6_readPaper.1 ∈ lw_tbl := List.mem_of_getElem? (i := 7) (by decide +kernel)
def mX6_readOctave : am_M := (yX6_readOctave, cX6_readOctave, 4, none, 4, 0, false)
theorem mkX6_readOctave : am_Mok mX6_readOctave := ⟨List.mem_of_getElem? (i := 706) (by decide +kernel), List.mem_of_getElem? (i := 119) (by decide +kernel), by decide +kernel, by decide +kernel, by decide +kernel⟩
theorem miX6_readOctave : Cond.instanceMethod mX6_readOctave.1 ∈ lw_tbl := List.mem_of_getElem? (i := 705) (by decide +kernel)
theorem mvX6_readOctave : Cond.selects mX6_readOctave.1.cls mX6_readOctave.1 mX6_readOctave.1 ∈ lw_tbl := List.mem_of_getElem? (i := 13) (by decide +kernel)
def mX6_readComb : am_M := (yX6_readComb, cX6_readComb, 3, none, 4, 0, false)
theorem mkX6_readComb : am_Mok mX6_readComb := ⟨List.mem_of_getElem? (i := 734) (by decide +kernel), List.mem_of_getElem? (i := 119) (by decide +kernel), by decide +kernel, by decide +kernel, by decide +kernel⟩
theorem miX6_readComb : Cond.instanceMethod mX6_readComb.1 ∈ lw_tbl := List.mem_of_getElem? (i := 733) (by decide +kernel)
theorem mvX6_readComb : Cond.selects mX6_readComb.1.cls mX6_readComb.1 mX6_readComb.1 ∈ lw_tbl := List.mem_of_getElem? (i := 15) (by decide +kernel)
def mX6_readInk : am_M := (yX6_readInk, cX6_readInk, 1, none, 4, 0, false)
theorem mkX6_readInk : am_Mok mX6_readInk := ⟨List.mem_of_getElem? (i := 746) (by decide +kernel), List.mem_of_getElem? (i := 119) (by decide +kernel), by decide +kernel, by decide +kernel, by decide +kernel⟩
theorem miX6_readInk : Cond.instanceMethod mX6_readInk.1 ∈ lw_tbl := List.mem_of_getElem? (i := 745) (by decide +kernel)
theorem mvX6_readInk : Cond.selects mX6_readInk.1.cls mX6_readInk.1 mX6_readInk.1 ∈ lw_tbl := List.mem_of_getElem? (i := 17) (by decide +kernel)
def mX6_readOrderHead : am_M := (yX6_readOrderHead, cX6_readOrderHead, 3, none, 4, 0, false)
theorem mkX6_readOrderHead : am_Mok mX6_readOrderHead := ⟨List.mem_of_getElem? (i := 759) (by decide +kernel), List.mem_of_getElem? (i := 119) (by decide +kernel), by decide +kernel, by decide +kernel, by decide +kernel⟩
theorem miX6_readOrderHead : Cond.instanceMethod mX6_readOrderHead.1 ∈ lw_tbl := List.mem_of_getElem? (i := 758) (by decide +kernel)
theorem mvX6_readOrderHead : Cond.selects mX6_readOrderHead.1.cls mX6_readOrderHead.1 mX6_readOrderHead.1 ∈ lw_tbl := List.mem_of_getElem? (i := 18) (by decide +kernel)
def mX6_readTest : am_M := (yX6_readTest, cX6_readTest, 3, none, 4, 1, false)
theorem mkX6_readTest : am_Mok mX6_readTest := ⟨List.mem_of_getElem? (i := 801) (by decide +kernel), List.mem_of_getElem? (i := 119) (by decide +kernel), by decide +kernel, by decide +kernel, by decide +kernel⟩
theorem miX6_readTest : Cond.instanceMethod mX6_readTest.1 ∈ lw_tbl := List.mem_of_getElem? (i := 800) (by decide +kernel)
theorem mvX6_readTest : Cond.selects mX6_readTest.1.cls mX6_readTest.1 mX6_readTest.1 ∈ lw_tbl := List.mem_of_getElem? (i := 25) (by decide +kernel)
def mX6_readBoth : am_M := (yX6_readBoth, cX6_readBoth, 3, none, 4, 1, false)
theorem mkX6_readBoth : am_Mok mX6_readBoth := ⟨List.mem_of_getElem? (i := 805) (by decide +kernel), List.mem_of_getElem? (i := 119) (by decide +kernel), by decide +kernel, by decide +kernel, by decide +kernel⟩
theorem miX6_readBoth : Cond.instanceMethod mX6_readBoth.1 ∈ lw_tbl := List.mem_of_getElem? (i := 804) (by decide +kernel)
theorem mvX6_readBoth : Cond.selects mX6_readBoth.1.cls mX6_readBoth.1 mX6_readBoth.1 ∈ lw_tbl := List.mem_of_getElem? (i := 26) (by decide +kernel)
def mX6_readSingle : am_M := (yX6_readSingle, cX6_readSingle, 3, none, 4, 1, false)
theorem mkX6_readSingle : am_Mok mX6_readSingle := ⟨List.mem_of_getElem? (i := 809) (by decide +kernel), List.mem_of_getElem? (i := 119) (by decide +kernel), by decide +kernel, by decide +kernel, by decide +kernel⟩
theorem miX6_readSingle : Cond.instanceMethod mX6_readSingle.1 ∈ lw_tbl := List.mem_of_getElem? (i := 808) (by decide +kernel)
theorem mvX6_readSingle : Cond.selects mX6_readSingle.1.cls mX6_readSingle.1 mX6_readSingle.1 ∈ lw_tbl := List.mem_of_getElem? (i := 27) (by decide +kernel)
def mX6_readComparison : am_M := (yX6_readComparison, cX6_readComparison, 2, (Option.some Jvm.ClassFile.FieldType.int), 4, 0, false)
theorem mkX6_readComparison : am_Mok mX6_readComparison := ⟨List.mem_of_getElem? (i := 813) (by decide +kernel), List.mem_of_getElem? (i := 119) (by decide +kernel), by decide +kernel, by decide +kernel, by decide +kernel⟩
theorem miX6_readComparison : Cond.instanceMethod mX6_readComparison.1 ∈ lw_tbl := List.mem_of_getElem? (i := 812) (by decide +kernel)
theorem mvX6_readComparison : Cond.selects mX6_readComparison.1.cls mX6_readComparison.1 mX6_readComparison.1 ∈ lw_tbl := List.mem_of_getElem? (i := 28) (by decide +kernel)
def mX6_readSum : am_M := (yX6_readSum, cX6_readSum, 4, none, 4, 1, false)
theorem mkX6_readSum : am_Mok mX6_readSum := ⟨List.mem_of_getElem? (i := 773) (by decide +kernel), List.mem_of_getElem? (i := 119) (by decide +kernel), by decide +kernel, by decide +kernel, by decide +kernel⟩
theorem miX6_readSum : Cond.instanceMethod mX6_readSum.1 ∈ lw_tbl := List.mem_of_getElem? (i := 772) (by decide +kernel)
theorem mvX6_readSum : Cond.selects mX6_readSum.1.cls mX6_readSum.1 mX6_readSum.1 ∈ lw_tbl := List.mem_of_getElem? (i := 20) (by decide +kernel)
def mX6_readProduct : am_M := (yX6_readProduct, cX6_readProduct, 4, none, 4, 1, false)
theorem mkX6_readProduct : am_Mok mX6_readProduct := ⟨List.mem_of_getElem? (i := 777) (by decide +kernel), List.mem_of_getElem? (i := 119) (by decide +kernel), by decide +kernel, by decide +kernel, by decide +kernel⟩
theorem miX6_readProduct : Cond.instanceMethod mX6_readProduct.1 ∈ lw_tbl := List.mem_of_getElem? (i := 776) (by decide +kernel)
theorem mvX6_readProduct : Cond.selects mX6_readProduct.1.cls mX6_readProduct.1 mX6_readProduct.1 ∈ lw_tbl := List.mem_of_getElem? (i := 21) (by decide +kernel)
def mX6_readValue : am_M := (yX6_readValue, cX6_readValue, 3, none, 4, 1, false)
theorem mkX6_readValue : am_Mok mX6_readValue := ⟨List.mem_of_getElem? (i := 781) (by decide +kernel), List.mem_of_getElem? (i := 119) (by decide +kernel), by decide +kernel, by decide +kernel, by decide +kernel⟩
theorem miX6_readValue : Cond.instanceMethod mX6_readValue.1 ∈ lw_tbl := List.mem_of_getElem? (i := 780) (by decide +kernel)
theorem mvX6_readValue : Cond.selects mX6_readValue.1.cls mX6_readValue.1 mX6_readValue.1 ∈ lw_tbl := List.mem_of_getElem? (i := 22) (by decide +kernel)
def mX6_readPair : am_M := (yX6_readPair, cX6_readPair, 2, none, 4, 1, false)
theorem mkX6_readPair : am_Mok mX6_readPair := ⟨List.mem_of_getElem? (i := 793) (by decide +kernel), List.mem_of_getElem? (i := 119) (by decide +kernel), by decide +kernel, by decide +kernel, by decide +kernel⟩
theorem miX6_readPair : Cond.instanceMethod mX6_readPair.1 ∈ lw_tbl := List.mem_of_getElem? (i := 792) (by decide +kernel)
theorem mvX6_readPair : Cond.selects mX6_readPair.1.cls mX6_readPair.1 mX6_readPair.1 ∈ lw_tbl := List.mem_of_getElem? (i := 24) (by decide +kernel)
def mX6_namesBehind : am_M := (yX6_namesBehind, cX6_namesBehind, 2, (Option.some (Jvm.ClassFile.FieldType.object "MarbledPaper$Names")), 4, 1, false)
theorem mkX6_namesBehind : am_Mok mX6_namesBehind := ⟨List.mem_of_getElem? (i := 789) (by decide +kernel), List.mem_of_getElem? (i := 119) (by decide +kernel), by decide +kernel, by decide +kernel, by decide +kernel⟩
theorem miX6_namesBehind : Cond.instanceMethod mX6_namesBehind.1 ∈ lw_tbl := List.mem_of_getElem? (i := 788) (by decide +kernel)
theorem mvX6_namesBehind : Cond.selects mX6_namesBehind.1.cls mX6_namesBehind.1 mX6_namesBehind.1 ∈ lw_tbl := List.mem_of_getElem? (i := 23) (by decide +kernel)
def mX6_readNewName : am_M := (yX6_readNewName, cX6_readNewName, 4, none, 4, 1, false)
theorem mkX6_readNewName : am_Mok mX6_readNewName := ⟨List.mem_of_getElem? (i := 710) (by decide +kernel), List.mem_of_getElem? (i := 119) (by decide +kernel), by decide +kernel, by decide +kernel, by decide +kernel⟩
theorem miX6_readNewName : Cond.instanceMethod mX6_readNewName.1 ∈ lw_tbl := List.mem_of_getElem? (i := 709) (by decide +kernel)
theorem mvX6_readNewName : Cond.selects mX6_readNewName.1.cls mX6_readNewName.1 mX6_readNewName.1 ∈ lw_tbl := List.mem_of_getElem? (i := 14) (by decide +kernel)
def mX6_readKnownName : am_M := (yX6_readKnownName, cX6_readKnownName, 3, (Option.some Jvm.ClassFile.FieldType.int), 4, 1, false)
theorem mkX6_readKnownName : am_Mok mX6_readKnownName := ⟨List.mem_of_getElem? (i := 763) (by decide +kernel), List.mem_of_getElem? (i := 119) (by decide +kernel), by decide +kernel, by decide +kernel, by decide +kernel⟩
theorem miX6_readKnownName : Cond.instanceMethod mX6_readKnownName.1 ∈ lw_tbl := List.mem_of_getElem? (i := 762) (by decide +kernel)
theorem mvX6_readKnownName : Cond.selects mX6_readKnownName.1.cls mX6_readKnownName.1 mX6_readKnownName.1 ∈ lw_tbl := List.mem_of_getElem? (i := 19) (by decide +kernel)
def mX6_readNumber : am_M := (yX6_readNumber, cX6_readNumber, 4, (Option.some Jvm.ClassFile.FieldType.int), 4, 2, false)
theorem mkX6_readNumber : am_Mok mX6_readNumber := ⟨List.mem_of_getElem? (i := 683) (by decide +kernel), List.mem_of_getElem? (i := 119) (by decide +kernel), by decide +kernel, by decide +kernel, by decide +kernel⟩
theorem miX6_readNumber : Cond.instanceMethod mX6_readNumber.1 ∈ lw_tbl := List.mem_of_getElem? (i := 682) (by decide +kernel)
theorem mvX6_readNumber : Cond.selects mX6_readNumber.1.cls mX6_readNumber.1 mX6_readNumber.1 ∈ lw_tbl := List.mem_of_getElem? (i := 9) (by decide +kernel)
def mX6_readWay : am_M := (yX6_readWay, cX6_readWay, 2, (Option.some Jvm.ClassFile.FieldType.int), 4, 0, false)
theorem mkX6_readWay : am_Mok mX6_readWay := ⟨List.mem_of_getElem? (i := 738) (by decide +kernel), List.mem_of_getElem? (i := 119) (by decide +kernel), by decide +kernel, by decide +kernel, by decide +kernel⟩
theorem miX6_readWay : Cond.instanceMethod mX6_readWay.1 ∈ lw_tbl := List.mem_of_getElem? (i := 737) (by decide +kernel)
theorem mvX6_readWay : Cond.selects mX6_readWay.1.cls mX6_readWay.1 mX6_readWay.1 ∈ lw_tbl := List.mem_of_getElem? (i := 16) (by decide +kernel)
def mX6_expect : am_M := (yX6_expect, cX6_expect, 2, none, 4, 1, false)
theorem mkX6_expect : am_Mok mX6_expect := ⟨List.mem_of_getElem? (i := 702) (by decide +kernel), List.mem_of_getElem? (i := 119) (by decide +kernel), by decide +kernel, by decide +kernel, by decide +kernel⟩
theorem miX6_expect : Cond.instanceMethod mX6_expect.1 ∈ lw_tbl := List.mem_of_getElem? (i := 701) (by decide +kernel)
theorem mvX6_expect : Cond.selects mX6_expect.1.cls mX6_expect.1 mX6_expect.1 ∈ lw_tbl := List.mem_of_getElem? (i := 12) (by decide +kernel)
def mX6_advance : am_M := (yX6_advance, cX6_advance, 1, none, 4, 0, false)
theorem mkX6_advance : am_Mok mX6_advance := ⟨List.mem_of_getElem? (i := 679) (by decide +kernel), List.mem_of_getElem? (i := 119) (by decide +kernel), by decide +kernel, by decide +kernel, by decide +kernel⟩
theorem miX6_advance : Cond.instanceMethod mX6_advance.1 ∈ lw_tbl := List.mem_of_getElem? (i := 678) (by decide +kernel)
theorem mvX6_advance : Cond.selects mX6_advance.1.cls mX6_advance.1 mX6_advance.1 ∈ lw_tbl := List.mem_of_getElem? (i := 8) (by decide +kernel)
def mX6_refuse : am_M := (yX6_refuse, cX6_refuse, 1, none, 4, 0, false)
theorem mkX6_refuse : am_Mok mX6_refuse := ⟨List.mem_of_getElem? (i := 687) (by decide +kernel), List.mem_of_getElem? (i := 119) (by decide +kernel), by decide +kernel, by decide +kernel, by decide +kernel⟩
theorem miX6_refuse : Cond.instanceMethod mX6_refuse.1 ∈ lw_tbl := List.mem_of_getElem? (i := 686) (by decide +kernel)
theorem mvX6_refuse : Cond.selects mX6_refuse.1.cls mX6_refuse.1 mX6_refuse.1 ∈ lw_tbl := List.mem_of_getElem? (i := 10) (by decide +kernel)
def mX6_fault : am_M := (yX6_fault, cX6_fault, 2, none, 4, 1, false)
theorem mkX6_fault : am_Mok mX6_fault := ⟨List.mem_of_getElem? (i := 698) (by decide +kernel), List.mem_of_getElem? (i := 119) (by decide +kernel), by decide +kernel, by decide +kernel, by decide +kernel⟩
theorem miX6_fault : Cond.instanceMethod mX6_fault.1 ∈ lw_tbl := List.mem_of_getElem? (i := 697) (by decide +kernel)
theorem mvX6_fault : Cond.selects mX6_fault.1.cls mX6_fault.1 mX6_fault.1 ∈ lw_tbl := List.mem_of_getElem? (i := 11) (by decide +kernel)
def mX7_init : am_M := (yX7_init, cX7_init, 3, none, 5, 2, true)
theorem mkX7_init : am_Mok mX7_init := ⟨List.mem_of_getElem? (i := 428) (by decide +kernel), List.mem_of_getElem? (i := 122) (by decide +kernel), by decide +kernel, by decide +kernel, by decide +kernel⟩
theorem miX7_init : Cond.instanceMethod mX7_init.1 ∈ lw_tbl := List.mem_of_getElem? (i := 427) (by decide +kernel)
def mX7_begin : am_M := (yX7_begin, cX7_begin, 1, none, 5, 0, false)
theorem mkX7_begin : am_Mok mX7_begin := ⟨List.mem_of_getElem? (i := 841) (by decide +kernel), List.mem_of_getElem? (i := 122) (by decide +kernel), by decide +kernel, by decide +kernel, by decide +kernel⟩
theorem miX7_begin : Cond.instanceMethod mX7_begin.1 ∈ lw_tbl := List.mem_of_getElem? (i := 839) (by decide +kernel)
theorem mvX7_begin : Cond.selects mX7_begin.1.cls mX7_begin.1 mX7_begin.1 ∈ lw_tbl := List.mem_of_getElem? (i := 840) (by decide +kernel)
def mX7_take : am_M := (yX7_take, cX7_take, 2, none, 5, 1, false)
theorem mkX7_take : am_Mok mX7_take := ⟨List.mem_of_getElem? (i := 1312) (by decide +kernel), List.mem_of_getElem? (i := 122) (by decide +kernel), by decide +kernel, by decide +kernel, by decide +kernel⟩
theorem miX7_take : Cond.instanceMethod mX7_take.1 ∈ lw_tbl := List.mem_of_getElem? (i := 1310) (by decide +kernel)
theorem mvX7_take : Cond.selects mX7_take.1.cls mX7_take.1 mX7_take.1 ∈ lw_tbl := List.mem_of_getElem? (i := 1311) (by decide +kernel)
def mX7_takePulls : am_M := (yX7_takePulls, cX7_takePulls, 3, none, 5, 1, false)
theorem mkX7_takePulls : am_Mok mX7_takePulls := ⟨List.mem_of_getElem? (i := 845) (by decide +kernel), List.mem_of_getElem? (i := 122) (by decide +kernel), by decide +kernel, by decide +kernel, by decide +kernel⟩
theorem miX7_takePulls : Cond.instanceMethod mX7_takePulls.1 ∈ lw_tbl := List.mem_of_getElem? (i := 844) (by decide +kernel)
theorem mvX7_takePulls : Cond.selects mX7_takePulls.1.cls mX7_takePulls.1 mX7_takePulls.1 ∈ lw_tbl := List.mem_of_getElem? (i := 29) (by decide +kernel)
def mX7_spoil : am_M := (yX7_spoil, cX7_spoil, 1, none, 5, 0, false)
theorem mkX7_spoil : am_Mok mX7_spoil := ⟨List.mem_of_getElem? (i := 870) (by decide +kernel), List.mem_of_getElem? (i := 122) (by decide +kernel), by decide +kernel, by decide +kernel, by decide +kernel⟩
theorem miX7_spoil : Cond.instanceMethod mX7_spoil.1 ∈ lw_tbl := List.mem_of_getElem? (i := 869) (by decide +kernel)
theorem mvX7_spoil : Cond.selects mX7_spoil.1.cls mX7_spoil.1 mX7_spoil.1 ∈ lw_tbl := List.mem_of_getElem? (i := 31) (by decide +kernel)
def mX7_changePull : am_M := (yX7_changePull, cX7_changePull, 3, (Option.some Jvm.ClassFile.FieldType.boolean), 5, 2, false)
theorem mkX7_changePull : am_Mok mX7_changePull := ⟨List.mem_of_getElem? (i := 1217) (by decide +kernel), List.mem_of_getElem? (i := 122) (by decide +kernel), by decide +kernel, by decide +kernel, by decide +kernel⟩
theorem miX7_changePull : Cond.instanceMethod mX7_changePull.1 ∈ lw_tbl := List.mem_of_getElem? (i := 1215) (by decide +kernel)
theorem mvX7_changePull : Cond.selects mX7_changePull.1.cls mX7_changePull.1 mX7_changePull.1 ∈ lw_tbl := List.mem_of_getElem? (i := 1216) (by decide +kernel)
def mX7_changeSeed : am_M := (yX7_changeSeed, cX7_changeSeed, 3, (Option.some Jvm.ClassFile.FieldType.boolean), 5, 2, false)
theorem mkX7_changeSeed : am_Mok mX7_changeSeed := ⟨List.mem_of_getElem? (i := 1229) (by decide +kernel), List.mem_of_getElem? (i := 122) (by decide +kernel), by decide +kernel, by decide +kernel, by decide +kernel⟩
theorem miX7_changeSeed : Cond.instanceMethod mX7_changeSeed.1 ∈ lw_tbl := List.mem_of_getElem? (i := 1227) (by decide +kernel)
theorem mvX7_changeSeed : Cond.selects mX7_changeSeed.1.cls mX7_changeSeed.1 mX7_changeSeed.1 ∈ lw_tbl := List.mem_of_getElem? (i := 1228) (by decide +kernel)
def mX7_changeDrift : am_M := (yX7_changeDrift, cX7_changeDrift, 6, (Option.some Jvm.ClassFile.FieldType.boolean), 5, 2, false)
theorem mkX7_changeDrift : am_Mok mX7_changeDrift := ⟨List.mem_of_getElem? (i := 1241) (by decide +kernel), List.mem_of_getElem? (i := 122) (by decide +kernel), by decide +kernel, by decide +kernel, by decide +kernel⟩
theorem miX7_changeDrift : Cond.instanceMethod mX7_changeDrift.1 ∈ lw_tbl := List.mem_of_getElem? (i := 1239) (by decide +kernel)
theorem mvX7_changeDrift : Cond.selects mX7_changeDrift.1.cls mX7_changeDrift.1 mX7_changeDrift.1 ∈ lw_tbl := List.mem_of_getElem? (i := 1240) (by decide +kernel)
def mX7_dipOnce : am_M := (yX7_dipOnce, cX7_dipOnce, 2, none, 5, 0, false)
theorem mkX7_dipOnce : am_Mok mX7_dipOnce := ⟨List.mem_of_getElem? (i := 1253) (by decide +kernel), List.mem_of_getElem? (i := 122) (by decide +kernel), by decide +kernel, by decide +kernel, by decide +kernel⟩
theorem miX7_dipOnce : Cond.instanceMethod mX7_dipOnce.1 ∈ lw_tbl := List.mem_of_getElem? (i := 1251) (by decide +kernel)
theorem mvX7_dipOnce : Cond.selects mX7_dipOnce.1.cls mX7_dipOnce.1 mX7_dipOnce.1 ∈ lw_tbl := List.mem_of_getElem? (i := 1252) (by decide +kernel)
def mX7_carryOut : am_M := (yX7_carryOut, cX7_carryOut, 6, (Option.some Jvm.ClassFile.FieldType.boolean), 5, 1, false)
theorem mkX7_carryOut : am_Mok mX7_carryOut := ⟨List.mem_of_getElem? (i := 1262) (by decide +kernel), List.mem_of_getElem? (i := 122) (by decide +kernel), by decide +kernel, by decide +kernel, by decide +kernel⟩
theorem miX7_carryOut : Cond.instanceMethod mX7_carryOut.1 ∈ lw_tbl := List.mem_of_getElem? (i := 1261) (by decide +kernel)
theorem mvX7_carryOut : Cond.selects mX7_carryOut.1.cls mX7_carryOut.1 mX7_carryOut.1 ∈ lw_tbl := List.mem_of_getElem? (i := 38) (by decide +kernel)
def mX7_reckon : am_M := (yX7_reckon, cX7_reckon, 4, (Option.some Jvm.ClassFile.FieldType.int), 5, 2, false)
theorem mkX7_reckon : am_Mok mX7_reckon := ⟨List.mem_of_getElem? (i := 1266) (by decide +kernel), List.mem_of_getElem? (i := 122) (by decide +kernel), by decide +kernel, by decide +kernel, by decide +kernel⟩
theorem miX7_reckon : Cond.instanceMethod mX7_reckon.1 ∈ lw_tbl := List.mem_of_getElem? (i := 1265) (by decide +kernel)
theorem mvX7_reckon : Cond.selects mX7_reckon.1.cls mX7_reckon.1 mX7_reckon.1 ∈ lw_tbl := List.mem_of_getElem? (i := 39) (by decide +kernel)
def mX7_step : am_M := (yX7_step, cX7_step, 5, none, 5, 2, false)
theorem mkX7_step : am_Mok mX7_step := ⟨List.mem_of_getElem? (i := 1274) (by decide +kernel), List.mem_of_getElem? (i := 122) (by decide +kernel), by decide +kernel, by decide +kernel, by decide +kernel⟩
theorem miX7_step : Cond.instanceMethod mX7_step.1 ∈ lw_tbl := List.mem_of_getElem? (i := 1273) (by decide +kernel)
theorem mvX7_step : Cond.selects mX7_step.1.cls mX7_step.1 mX7_step.1 ∈ lw_tbl := List.mem_of_getElem? (i := 40) (by decide +kernel)
def mX7_isAtEdge : am_M := (yX7_isAtEdge, cX7_isAtEdge, 3, (Option.some Jvm.ClassFile.FieldType.boolean), 5, 1, false)
theorem mkX7_isAtEdge : am_Mok mX7_isAtEdge := ⟨List.mem_of_getElem? (i := 1282) (by decide +kernel), List.mem_of_getElem? (i := 122) (by decide +kernel), by decide +kernel, by decide +kernel, by decide +kernel⟩
theorem miX7_isAtEdge : Cond.instanceMethod mX7_isAtEdge.1 ∈ lw_tbl := List.mem_of_getElem? (i := 1281) (by decide +kernel)
theorem mvX7_isAtEdge : Cond.selects mX7_isAtEdge.1.cls mX7_isAtEdge.1 mX7_isAtEdge.1 ∈ lw_tbl := List.mem_of_getElem? (i := 41) (by decide +kernel)
def mX7_combine : am_M := (yX7_combine, cX7_combine, 3, (Option.some Jvm.ClassFile.FieldType.int), 5, 3, false)
theorem mkX7_combine : am_Mok mX7_combine := ⟨List.mem_of_getElem? (i := 1294) (by decide +kernel), List.mem_of_getElem? (i := 122) (by decide +kernel), by decide +kernel, by decide +kernel, by decide +kernel⟩
theorem msX7_combine : Cond.static mX7_combine.1 ∈ lw_tbl := List.mem_of_getElem? (i := 1293) (by decide +kernel)
def mX7_isSo : am_M := (yX7_isSo, cX7_isSo, 3, (Option.some Jvm.ClassFile.FieldType.boolean), 5, 3, false)
theorem mkX7_isSo : am_Mok mX7_isSo := ⟨List.mem_of_getElem? (i := 1297) (by decide +kernel), List.mem_of_getElem? (i := 122) (by decide +kernel), by decide +kernel, by decide +kernel, by decide +kernel⟩
theorem msX7_isSo : Cond.static mX7_isSo.1 ∈ lw_tbl := List.mem_of_getElem? (i := 1296) (by decide +kernel)
def mX7_reckonShifts : am_M := (yX7_reckonShifts, cX7_reckonShifts, 8, none, 5, 1, false)
theorem mkX7_reckonShifts : am_Mok mX7_reckonShifts := ⟨List.mem_of_getElem? (i := 851) (by decide +kernel), List.mem_of_getElem? (i := 122) (by decide +kernel), by decide +kernel, by decide +kernel, by decide +kernel⟩
theorem miX7_reckonShifts : Cond.instanceMethod mX7_reckonShifts.1 ∈ lw_tbl := List.mem_of_getElem? (i := 850) (by decide +kernel)
theorem mvX7_reckonShifts : Cond.selects mX7_reckonShifts.1.cls mX7_reckonShifts.1 mX7_reckonShifts.1 ∈ lw_tbl := List.mem_of_getElem? (i := 30) (by decide +kernel)
def mX7_shiftOf : am_M := (yX7_shiftOf, cX7_shiftOf, 3, (Option.some Jvm.ClassFile.FieldType.int), 5, 2, false)
theorem mkX7_shiftOf : am_Mok mX7_shiftOf := ⟨List.mem_of_getElem? (i := 923) (by decide +kernel), List.mem_of_getElem? (i := 122) (by decide +kernel), by decide +kernel, by decide +kernel, by decide +kernel⟩
theorem miX7_shiftOf : Cond.instanceMethod mX7_shiftOf.1 ∈ lw_tbl := List.mem_of_getElem? (i := 921) (by decide +kernel)
theorem mvX7_shiftOf : Cond.selects mX7_shiftOf.1.cls mX7_shiftOf.1 mX7_shiftOf.1 ∈ lw_tbl := List.mem_of_getElem? (i := 922) (by decide +kernel)
def mX7_source : am_M := (yX7_source, cX7_source, 6, (Option.some Jvm.ClassFile.FieldType.int), 5, 2, false)
theorem mkX7_source : am_Mok mX7_source := ⟨List.mem_of_getElem? (i := 919) (by decide +kernel), List.mem_of_getElem? (i := 122) (by decide +kernel), by decide +kernel, by decide +kernel, by decide +kernel⟩
theorem miX7_source : Cond.instanceMethod mX7_source.1 ∈ lw_tbl := List.mem_of_getElem? (i := 917) (by decide +kernel)
theorem mvX7_source : Cond.selects mX7_source.1.cls mX7_source.1 mX7_source.1 ∈ lw_tbl := List.mem_of_getElem? (i := 918) (by decide +kernel)
def mX7_refresh : am_M := (yX7_refresh, cX7_refresh, 6, none, 5, 0, false)
theorem mkX7_refresh : am_Mok mX7_refresh := ⟨List.mem_of_getElem? (i := 882) (by decide +kernel), List.mem_of_getElem? (i := 122) (by decide +kernel), by decide +kernel, by decide +kernel, by decide +kernel⟩
theorem miX7_refresh : Cond.instanceMethod mX7_refresh.1 ∈ lw_tbl := List.mem_of_getElem? (i := 880) (by decide +kernel)
theorem mvX7_refresh : Cond.selects mX7_refresh.1.cls mX7_refresh.1 mX7_refresh.1 ∈ lw_tbl := List.mem_of_getElem? (i := 881) (by decide +kernel)
def mX7_heightFrom : am_M := (yX7_heightFrom, cX7_heightFrom, 5, (Option.some Jvm.ClassFile.FieldType.int), 5, 1, false)
theorem mkX7_heightFrom : am_Mok mX7_heightFrom := ⟨List.mem_of_getElem? (i := 932) (by decide +kernel), List.mem_of_getElem? (i := 122) (by decide +kernel), by decide +kernel, by decide +kernel, by decide +kernel⟩
theorem miX7_heightFrom : Cond.instanceMethod mX7_heightFrom.1 ∈ lw_tbl := List.mem_of_getElem? (i := 931) (by decide +kernel)
theorem mvX7_heightFrom : Cond.selects mX7_heightFrom.1.cls mX7_heightFrom.1 mX7_heightFrom.1 ∈ lw_tbl := List.mem_of_getElem? (i := 32) (by decide +kernel)
def mX7_group : am_M := (yX7_group, cX7_group, 1, none, 5, 0, false)
theorem mkX7_group : am_Mok mX7_group := ⟨List.mem_of_getElem? (i := 958) (by decide +kernel), List.mem_of_getElem? (i := 122) (by decide +kernel), by decide +kernel, by decide +kernel, by decide +kernel⟩
theorem miX7_group : Cond.instanceMethod mX7_group.1 ∈ lw_tbl := List.mem_of_getElem? (i := 956) (by decide +kernel)
theorem mvX7_group : Cond.selects mX7_group.1.cls mX7_group.1 mX7_group.1 ∈ lw_tbl := List.mem_of_getElem? (i := 957) (by decide +kernel)
def mX7_tell : am_M := (yX7_tell, cX7_tell, 2, (Option.some Jvm.ClassFile.FieldType.int), 5, 1, false)
theorem mkX7_tell : am_Mok mX7_tell := ⟨List.mem_of_getElem? (i := 1008) (by decide +kernel), List.mem_of_getElem? (i := 122) (by decide +kernel), by decide +kernel, by decide +kernel, by decide +kernel⟩
theorem miX7_tell : Cond.instanceMethod mX7_tell.1 ∈ lw_tbl := List.mem_of_getElem? (i := 1006) (by decide +kernel)
theorem mvX7_tell : Cond.selects mX7_tell.1.cls mX7_tell.1 mX7_tell.1 ∈ lw_tbl := List.mem_of_getElem? (i := 1007) (by decide +kernel)
def mX7_smallestHeight : am_M := (yX7_smallestHeight, cX7_smallestHeight, 3, (Option.some Jvm.ClassFile.FieldType.int), 5, 0, false)
theorem mkX7_smallestHeight : am_Mok mX7_smallestHeight := ⟨List.mem_of_getElem? (i := 1012) (by decide +kernel), List.mem_of_getElem? (i := 122) (by decide +kernel), by decide +kernel, by decide +kernel, by decide +kernel⟩
theorem miX7_smallestHeight : Cond.instanceMethod mX7_smallestHeight.1 ∈ lw_tbl := List.mem_of_getElem? (i := 1011) (by decide +kernel)
theorem mvX7_smallestHeight : Cond.selects mX7_smallestHeight.1.cls mX7_smallestHeight.1 mX7_smallestHeight.1 ∈ lw_tbl := List.mem_of_getElem? (i := 35) (by decide +kernel)
def mX7_greatestHeight : am_M := (yX7_greatestHeight, cX7_greatestHeight, 3, (Option.some Jvm.ClassFile.FieldType.int), 5, 0, false)
theorem mkX7_greatestHeight : am_Mok mX7_greatestHeight := ⟨List.mem_of_getElem? (i := 1016) (by decide +kernel), List.mem_of_getElem? (i := 122) (by decide +kernel), by decide +kernel, by decide +kernel, by decide +kernel⟩
theorem miX7_greatestHeight : Cond.instanceMethod mX7_greatestHeight.1 ∈ lw_tbl := List.mem_of_getElem? (i := 1015) (by decide +kernel)
theorem mvX7_greatestHeight : Cond.selects mX7_greatestHeight.1.cls mX7_greatestHeight.1 mX7_greatestHeight.1 ∈ lw_tbl := List.mem_of_getElem? (i := 36) (by decide +kernel)
def mX7_tellOctave : am_M := (yX7_tellOctave, cX7_tellOctave, 3, (Option.some Jvm.ClassFile.FieldType.int), 5, 2, false)
theorem mkX7_tellOctave : am_Mok mX7_tellOctave := ⟨List.mem_of_getElem? (i := 1021) (by decide +kernel), List.mem_of_getElem? (i := 122) (by decide +kernel), by decide +kernel, by decide +kernel, by decide +kernel⟩
theorem miX7_tellOctave : Cond.instanceMethod mX7_tellOctave.1 ∈ lw_tbl := List.mem_of_getElem? (i := 1019) (by decide +kernel)
theorem mvX7_tellOctave : Cond.selects mX7_tellOctave.1.cls mX7_tellOctave.1 mX7_tellOctave.1 ∈ lw_tbl := List.mem_of_getElem? (i := 1020) (by decide +kernel)
def mX7_tellComb : am_M := (yX7_tellComb, cX7_tellComb, 3, (Option.some Jvm.ClassFile.FieldType.int), 5, 2, false)
theorem mkX7_tellComb : am_Mok mX7_tellComb := ⟨List.mem_of_getElem? (i := 1025) (by decide +kernel), List.mem_of_getElem? (i := 122) (by decide +kernel), by decide +kernel, by decide +kernel, by decide +kernel⟩
theorem miX7_tellComb : Cond.instanceMethod mX7_tellComb.1 ∈ lw_tbl := List.mem_of_getElem? (i := 1023) (by decide +kernel)
theorem mvX7_tellComb : Cond.selects mX7_tellComb.1.cls mX7_tellComb.1 mX7_tellComb.1 ∈ lw_tbl := List.mem_of_getElem? (i := 1024) (by decide +kernel)
def mX8_init : am_M := (yX8_init, cX8_init, 1, none, 6, 0, true)
theorem mkX8_init : am_Mok mX8_init := ⟨List.mem_of_getElem? (i := 462) (by decide +kernel), List.mem_of_getElem? (i := 124) (by decide +kernel), by decide +kernel, by decide +kernel, by decide +kernel⟩
theorem miX8_init : Cond.instanceMethod mX8_init.1 ∈ lw_tbl := List.mem_of_getElem? (i := 461) (by decide +kernel)
def mX8_clear : am_M := (yX8_clear, cX8_clear, 1, none, 6, 0, false)
theorem mkX8_clear : am_Mok mX8_clear := ⟨List.mem_of_getElem? (i := 1270) (by decide +kernel), List.mem_of_getElem? (i := 124) (by decide +kernel), by decide +kernel, by decide +kernel, by decide +kernel⟩
theorem miX8_clear : Cond.instanceMethod mX8_clear.1 ∈ lw_tbl := List.mem_of_getElem? (i := 1268) (by decide +kernel)
theorem mvX8_clear : Cond.selects mX8_clear.1.cls mX8_clear.1 mX8_clear.1 ∈ lw_tbl := List.mem_of_getElem? (i := 1269) (by decide +kernel)
def mX8_push : am_M := (yX8_push, cX8_push, 2, none, 6, 1, false)
theorem mkX8_push : am_Mok mX8_push := ⟨List.mem_of_getElem? (i := 1278) (by decide +kernel), List.mem_of_getElem? (i := 124) (by decide +kernel), by decide +kernel, by decide +kernel, by decide +kernel⟩
theorem miX8_push : Cond.instanceMethod mX8_push.1 ∈ lw_tbl := List.mem_of_getElem? (i := 1276) (by decide +kernel)
theorem mvX8_push : Cond.selects mX8_push.1.cls mX8_push.1 mX8_push.1 ∈ lw_tbl := List.mem_of_getElem? (i := 1277) (by decide +kernel)
def mX8_pushTest : am_M := (yX8_pushTest, cX8_pushTest, 2, none, 6, 1, false)
theorem mkX8_pushTest : am_Mok mX8_pushTest := ⟨List.mem_of_getElem? (i := 1286) (by decide +kernel), List.mem_of_getElem? (i := 124) (by decide +kernel), by decide +kernel, by decide +kernel, by decide +kernel⟩
theorem miX8_pushTest : Cond.instanceMethod mX8_pushTest.1 ∈ lw_tbl := List.mem_of_getElem? (i := 1284) (by decide +kernel)
theorem mvX8_pushTest : Cond.selects mX8_pushTest.1.cls mX8_pushTest.1 mX8_pushTest.1 ∈ lw_tbl := List.mem_of_getElem? (i := 1285) (by decide +kernel)
def mX8_pop : am_M := (yX8_pop, cX8_pop, 1, (Option.some Jvm.ClassFile.FieldType.int), 6, 0, false)
theorem mkX8_pop : am_Mok mX8_pop := ⟨List.mem_of_getElem? (i := 1291) (by decide +kernel), List.mem_of_getElem? (i := 124) (by decide +kernel), by decide +kernel, by decide +kernel, by decide +kernel⟩
theorem miX8_pop : Cond.instanceMethod mX8_pop.1 ∈ lw_tbl := List.mem_of_getElem? (i := 1289) (by decide +kernel)
theorem mvX8_pop : Cond.selects mX8_pop.1.cls mX8_pop.1 mX8_pop.1 ∈ lw_tbl := List.mem_of_getElem? (i := 1290) (by decide +kernel)
def mX9_init : am_M := (yX9_init, cX9_init, 6, none, 7, 0, true)
theorem mkX9_init : am_Mok mX9_init := ⟨List.mem_of_getElem? (i := 149) (by decide +kernel), List.mem_of_getElem? (i := 111) (by decide +kernel), by decide +kernel, by decide +kernel, by decide +kernel⟩
theorem miX9_init : Cond.instanceMethod mX9_init.1 ∈ lw_tbl := List.mem_of_getElem? (i := 148) (by decide +kernel)
def mX9_append : am_M := (yX9_append, cX9_append, 3, none, 7, 1, false)
theorem mkX9_append : am_Mok mX9_append := ⟨List.mem_of_getElem? (i := 1104) (by decide +kernel), List.mem_of_getElem? (i := 111) (by decide +kernel), by decide +kernel, by decide +kernel, by decide +kernel⟩
theorem miX9_append : Cond.instanceMethod mX9_append.1 ∈ lw_tbl := List.mem_of_getElem? (i := 1102) (by decide +kernel)
theorem mvX9_append : Cond.selects mX9_append.1.cls mX9_append.1 mX9_append.1 ∈ lw_tbl := List.mem_of_getElem? (i := 1103) (by decide +kernel)
def mX9_scan : am_M := (yX9_scan, cX9_scan, 3, none, 7, 0, false)
theorem mkX9_scan : am_Mok mX9_scan := ⟨List.mem_of_getElem? (i := 562) (by decide +kernel), List.mem_of_getElem? (i := 111) (by decide +kernel), by decide +kernel, by decide +kernel, by decide +kernel⟩
theorem miX9_scan : Cond.instanceMethod mX9_scan.1 ∈ lw_tbl := List.mem_of_getElem? (i := 560) (by decide +kernel)
theorem mvX9_scan : Cond.selects mX9_scan.1.cls mX9_scan.1 mX9_scan.1 ∈ lw_tbl := List.mem_of_getElem? (i := 561) (by decide +kernel)
def mX9_readToken : am_M := (yX9_readToken, cX9_readToken, 3, (Option.some Jvm.ClassFile.FieldType.boolean), 7, 0, false)
theorem mkX9_readToken : am_Mok mX9_readToken := ⟨List.mem_of_getElem? (i := 566) (by decide +kernel), List.mem_of_getElem? (i := 111) (by decide +kernel), by decide +kernel, by decide +kernel, by decide +kernel⟩
theorem miX9_readToken : Cond.instanceMethod mX9_readToken.1 ∈ lw_tbl := List.mem_of_getElem? (i := 565) (by decide +kernel)
theorem mvX9_readToken : Cond.selects mX9_readToken.1.cls mX9_readToken.1 mX9_readToken.1 ∈ lw_tbl := List.mem_of_getElem? (i := 0) (by decide +kernel)
def mX9_readKind : am_M := (yX9_readKind, cX9_readKind, 1, (Option.some Jvm.ClassFile.FieldType.int), 7, 0, false)
theorem mkX9_readKind : am_Mok mX9_readKind := ⟨List.mem_of_getElem? (i := 574) (by decide +kernel), List.mem_of_getElem? (i := 111) (by decide +kernel), by decide +kernel, by decide +kernel, by decide +kernel⟩
theorem miX9_readKind : Cond.instanceMethod mX9_readKind.1 ∈ lw_tbl := List.mem_of_getElem? (i := 573) (by decide +kernel)
theorem mvX9_readKind : Cond.selects mX9_readKind.1.cls mX9_readKind.1 mX9_readKind.1 ∈ lw_tbl := List.mem_of_getElem? (i := 2) (by decide +kernel)
def mX9_readWord : am_M := (yX9_readWord, cX9_readWord, 5, (Option.some Jvm.ClassFile.FieldType.int), 7, 0, false)
theorem mkX9_readWord : am_Mok mX9_readWord := ⟨List.mem_of_getElem? (i := 581) (by decide +kernel), List.mem_of_getElem? (i := 111) (by decide +kernel), by decide +kernel, by decide +kernel, by decide +kernel⟩
theorem miX9_readWord : Cond.instanceMethod mX9_readWord.1 ∈ lw_tbl := List.mem_of_getElem? (i := 580) (by decide +kernel)
theorem mvX9_readWord : Cond.selects mX9_readWord.1.cls mX9_readWord.1 mX9_readWord.1 ∈ lw_tbl := List.mem_of_getElem? (i := 3) (by decide +kernel)
def mX9_readNumber : am_M := (yX9_readNumber, cX9_readNumber, 4, (Option.some Jvm.ClassFile.FieldType.int), 7, 0, false)
theorem mkX9_readNumber : am_Mok mX9_readNumber := ⟨List.mem_of_getElem? (i := 588) (by decide +kernel), List.mem_of_getElem? (i := 111) (by decide +kernel), by decide +kernel, by decide +kernel, by decide +kernel⟩
theorem miX9_readNumber : Cond.instanceMethod mX9_readNumber.1 ∈ lw_tbl := List.mem_of_getElem? (i := 587) (by decide +kernel)
theorem mvX9_readNumber : Cond.selects mX9_readNumber.1.cls mX9_readNumber.1 mX9_readNumber.1 ∈ lw_tbl := List.mem_of_getElem? (i := 4) (by decide +kernel)
def mX9_readSymbol : am_M := (yX9_readSymbol, cX9_readSymbol, 3, (Option.some Jvm.ClassFile.FieldType.int), 7, 0, false)
theorem mkX9_readSymbol : am_Mok mX9_readSymbol := ⟨List.mem_of_getElem? (i := 593) (by decide +kernel), List.mem_of_getElem? (i := 111) (by decide +kernel), by decide +kernel, by decide +kernel, by decide +kernel⟩
theorem miX9_readSymbol : Cond.instanceMethod mX9_readSymbol.1 ∈ lw_tbl := List.mem_of_getElem? (i := 592) (by decide +kernel)
theorem mvX9_readSymbol : Cond.selects mX9_readSymbol.1.cls mX9_readSymbol.1 mX9_readSymbol.1 ∈ lw_tbl := List.mem_of_getElem? (i := 5) (by decide +kernel)
def mX9_byteHere : am_M := (yX9_byteHere, cX9_byteHere, 1, (Option.some Jvm.ClassFile.FieldType.int), 7, 0, false)
theorem mkX9_byteHere : am_Mok mX9_byteHere := ⟨List.mem_of_getElem? (i := 570) (by decide +kernel), List.mem_of_getElem? (i := 111) (by decide +kernel), by decide +kernel, by decide +kernel, by decide +kernel⟩
theorem miX9_byteHere : Cond.instanceMethod mX9_byteHere.1 ∈ lw_tbl := List.mem_of_getElem? (i := 569) (by decide +kernel)
theorem mvX9_byteHere : Cond.selects mX9_byteHere.1.cls mX9_byteHere.1 mX9_byteHere.1 ∈ lw_tbl := List.mem_of_getElem? (i := 1) (by decide +kernel)
def mX9_isLetter : am_M := (yX9_isLetter, cX9_isLetter, 1, (Option.some Jvm.ClassFile.FieldType.boolean), 7, 1, false)
theorem mkX9_isLetter : am_Mok mX9_isLetter := ⟨List.mem_of_getElem? (i := 577) (by decide +kernel), List.mem_of_getElem? (i := 111) (by decide +kernel), by decide +kernel, by decide +kernel, by decide +kernel⟩
theorem msX9_isLetter : Cond.static mX9_isLetter.1 ∈ lw_tbl := List.mem_of_getElem? (i := 576) (by decide +kernel)
def mX9_isDigit : am_M := (yX9_isDigit, cX9_isDigit, 1, (Option.some Jvm.ClassFile.FieldType.boolean), 7, 1, false)
theorem mkX9_isDigit : am_Mok mX9_isDigit := ⟨List.mem_of_getElem? (i := 584) (by decide +kernel), List.mem_of_getElem? (i := 111) (by decide +kernel), by decide +kernel, by decide +kernel, by decide +kernel⟩
theorem msX9_isDigit : Cond.static mX9_isDigit.1 ∈ lw_tbl := List.mem_of_getElem? (i := 583) (by decide +kernel)
def mX9_kindAt : am_M := (yX9_kindAt, cX9_kindAt, 2, (Option.some Jvm.ClassFile.FieldType.int), 7, 1, false)
theorem mkX9_kindAt : am_Mok mX9_kindAt := ⟨List.mem_of_getElem? (i := 667) (by decide +kernel), List.mem_of_getElem? (i := 111) (by decide +kernel), by decide +kernel, by decide +kernel, by decide +kernel⟩
theorem miX9_kindAt : Cond.instanceMethod mX9_kindAt.1 ∈ lw_tbl := List.mem_of_getElem? (i := 665) (by decide +kernel)
theorem mvX9_kindAt : Cond.selects mX9_kindAt.1.cls mX9_kindAt.1 mX9_kindAt.1 ∈ lw_tbl := List.mem_of_getElem? (i := 666) (by decide +kernel)
def mX9_contentAt : am_M := (yX9_contentAt, cX9_contentAt, 2, (Option.some Jvm.ClassFile.FieldType.long), 7, 1, false)
theorem mkX9_contentAt : am_Mok mX9_contentAt := ⟨List.mem_of_getElem? (i := 694) (by decide +kernel), List.mem_of_getElem? (i := 111) (by decide +kernel), by decide +kernel, by decide +kernel, by decide +kernel⟩
theorem miX9_contentAt : Cond.instanceMethod mX9_contentAt.1 ∈ lw_tbl := List.mem_of_getElem? (i := 692) (by decide +kernel)
theorem mvX9_contentAt : Cond.selects mX9_contentAt.1.cls mX9_contentAt.1 mX9_contentAt.1 ∈ lw_tbl := List.mem_of_getElem? (i := 693) (by decide +kernel)
def mX10_init : am_M := (yX10_init, cX10_init, 2, none, 8, 1, true)
theorem mkX10_init : am_Mok mX10_init := ⟨List.mem_of_getElem? (i := 358) (by decide +kernel), List.mem_of_getElem? (i := 118) (by decide +kernel), by decide +kernel, by decide +kernel, by decide +kernel⟩
theorem miX10_init : Cond.instanceMethod mX10_init.1 ∈ lw_tbl := List.mem_of_getElem? (i := 357) (by decide +kernel)
def mX10_forget : am_M := (yX10_forget, cX10_forget, 2, none, 8, 0, false)
theorem mkX10_forget : am_Mok mX10_forget := ⟨List.mem_of_getElem? (i := 837) (by decide +kernel), List.mem_of_getElem? (i := 118) (by decide +kernel), by decide +kernel, by decide +kernel, by decide +kernel⟩
theorem miX10_forget : Cond.instanceMethod mX10_forget.1 ∈ lw_tbl := List.mem_of_getElem? (i := 835) (by decide +kernel)
theorem mvX10_forget : Cond.selects mX10_forget.1.cls mX10_forget.1 mX10_forget.1 ∈ lw_tbl := List.mem_of_getElem? (i := 836) (by decide +kernel)
def mX10_prepare : am_M := (yX10_prepare, cX10_prepare, 7, none, 8, 2, false)
theorem mkX10_prepare : am_Mok mX10_prepare := ⟨List.mem_of_getElem? (i := 886) (by decide +kernel), List.mem_of_getElem? (i := 118) (by decide +kernel), by decide +kernel, by decide +kernel, by decide +kernel⟩
theorem miX10_prepare : Cond.instanceMethod mX10_prepare.1 ∈ lw_tbl := List.mem_of_getElem? (i := 884) (by decide +kernel)
theorem mvX10_prepare : Cond.selects mX10_prepare.1.cls mX10_prepare.1 mX10_prepare.1 ∈ lw_tbl := List.mem_of_getElem? (i := 885) (by decide +kernel)
def mX10_valueKept : am_M := (yX10_valueKept, cX10_valueKept, 4, (Option.some Jvm.ClassFile.FieldType.int), 8, 3, false)
theorem mkX10_valueKept : am_Mok mX10_valueKept := ⟨List.mem_of_getElem? (i := 936) (by decide +kernel), List.mem_of_getElem? (i := 118) (by decide +kernel), by decide +kernel, by decide +kernel, by decide +kernel⟩
theorem miX10_valueKept : Cond.instanceMethod mX10_valueKept.1 ∈ lw_tbl := List.mem_of_getElem? (i := 934) (by decide +kernel)
theorem mvX10_valueKept : Cond.selects mX10_valueKept.1.cls mX10_valueKept.1 mX10_valueKept.1 ∈ lw_tbl := List.mem_of_getElem? (i := 935) (by decide +kernel)
def mX10_sheetOf : am_M := (yX10_sheetOf, cX10_sheetOf, 2, (Option.some Jvm.ClassFile.FieldType.int), 8, 2, false)
theorem mkX10_sheetOf : am_Mok mX10_sheetOf := ⟨List.mem_of_getElem? (i := 889) (by decide +kernel), List.mem_of_getElem? (i := 118) (by decide +kernel), by decide +kernel, by decide +kernel, by decide +kernel⟩
theorem msX10_sheetOf : Cond.static mX10_sheetOf.1 ∈ lw_tbl := List.mem_of_getElem? (i := 888) (by decide +kernel)
def mX10_valueAt : am_M := (yX10_valueAt, cX10_valueAt, 14, (Option.some Jvm.ClassFile.FieldType.int), 8, 4, false)
theorem mkX10_valueAt : am_Mok mX10_valueAt := ⟨List.mem_of_getElem? (i := 894) (by decide +kernel), List.mem_of_getElem? (i := 118) (by decide +kernel), by decide +kernel, by decide +kernel, by decide +kernel⟩
theorem miX10_valueAt : Cond.instanceMethod mX10_valueAt.1 ∈ lw_tbl := List.mem_of_getElem? (i := 892) (by decide +kernel)
theorem mvX10_valueAt : Cond.selects mX10_valueAt.1.cls mX10_valueAt.1 mX10_valueAt.1 ∈ lw_tbl := List.mem_of_getElem? (i := 893) (by decide +kernel)
def mX10_gradientAt : am_M := (yX10_gradientAt, cX10_gradientAt, 7, (Option.some Jvm.ClassFile.FieldType.int), 8, 4, false)
theorem mkX10_gradientAt : am_Mok mX10_gradientAt := ⟨List.mem_of_getElem? (i := 903) (by decide +kernel), List.mem_of_getElem? (i := 118) (by decide +kernel), by decide +kernel, by decide +kernel, by decide +kernel⟩
theorem miX10_gradientAt : Cond.instanceMethod mX10_gradientAt.1 ∈ lw_tbl := List.mem_of_getElem? (i := 901) (by decide +kernel)
theorem mvX10_gradientAt : Cond.selects mX10_gradientAt.1.cls mX10_gradientAt.1 mX10_gradientAt.1 ∈ lw_tbl := List.mem_of_getElem? (i := 902) (by decide +kernel)
def mX10_pullOf : am_M := (yX10_pullOf, cX10_pullOf, 3, (Option.some Jvm.ClassFile.FieldType.int), 8, 3, false)
theorem mkX10_pullOf : am_Mok mX10_pullOf := ⟨List.mem_of_getElem? (i := 907) (by decide +kernel), List.mem_of_getElem? (i := 118) (by decide +kernel), by decide +kernel, by decide +kernel, by decide +kernel⟩
theorem msX10_pullOf : Cond.static mX10_pullOf.1 ∈ lw_tbl := List.mem_of_getElem? (i := 906) (by decide +kernel)
def mX10_fade : am_M := (yX10_fade, cX10_fade, 1, (Option.some Jvm.ClassFile.FieldType.int), 8, 1, false)
theorem mkX10_fade : am_Mok mX10_fade := ⟨List.mem_of_getElem? (i := 898) (by decide +kernel), List.mem_of_getElem? (i := 118) (by decide +kernel), by decide +kernel, by decide +kernel, by decide +kernel⟩
theorem msX10_fade : Cond.static mX10_fade.1 ∈ lw_tbl := List.mem_of_getElem? (i := 897) (by decide +kernel)
def mX10_between : am_M := (yX10_between, cX10_between, 3, (Option.some Jvm.ClassFile.FieldType.int), 8, 3, false)
theorem mkX10_between : am_Mok mX10_between := ⟨List.mem_of_getElem? (i := 914) (by decide +kernel), List.mem_of_getElem? (i := 118) (by decide +kernel), by decide +kernel, by decide +kernel, by decide +kernel⟩
theorem msX10_between : Cond.static mX10_between.1 ∈ lw_tbl := List.mem_of_getElem? (i := 913) (by decide +kernel)
def mX11_init : am_M := (yX11_init, cX11_init, 4, none, 9, 0, true)
theorem mkX11_init : am_Mok mX11_init := ⟨List.mem_of_getElem? (i := 141) (by decide +kernel), List.mem_of_getElem? (i := 110) (by decide +kernel), by decide +kernel, by decide +kernel, by decide +kernel⟩
theorem miX11_init : Cond.instanceMethod mX11_init.1 ∈ lw_tbl := List.mem_of_getElem? (i := 140) (by decide +kernel)
def mX11_feed : am_M := (yX11_feed, cX11_feed, 6, (Option.some Jvm.ClassFile.FieldType.int), 9, 5, false)
theorem mkX11_feed : am_Mok mX11_feed := ⟨List.mem_of_getElem? (i := 1033) (by decide +kernel), List.mem_of_getElem? (i := 110) (by decide +kernel), by decide +kernel, by decide +kernel, by decide +kernel⟩
theorem miX11_feed : Cond.instanceMethod mX11_feed.1 ∈ lw_tbl := List.mem_of_getElem? (i := 1031) (by decide +kernel)
theorem mvX11_feed : Cond.selects mX11_feed.1.cls mX11_feed.1 mX11_feed.1 ∈ lw_tbl := List.mem_of_getElem? (i := 1032) (by decide +kernel)
def mX11_trim : am_M := (yX11_trim, cX11_trim, 2, (Option.some Jvm.ClassFile.FieldType.int), 9, 1, false)
theorem mkX11_trim : am_Mok mX11_trim := ⟨List.mem_of_getElem? (i := 1112) (by decide +kernel), List.mem_of_getElem? (i := 110) (by decide +kernel), by decide +kernel, by decide +kernel, by decide +kernel⟩
theorem miX11_trim : Cond.instanceMethod mX11_trim.1 ∈ lw_tbl := List.mem_of_getElem? (i := 1110) (by decide +kernel)
theorem mvX11_trim : Cond.selects mX11_trim.1.cls mX11_trim.1 mX11_trim.1 ∈ lw_tbl := List.mem_of_getElem? (i := 1111) (by decide +kernel)
def mX11_teach : am_M := (yX11_teach, cX11_teach, 2, (Option.some Jvm.ClassFile.FieldType.int), 9, 0, false)
theorem mkX11_teach : am_Mok mX11_teach := ⟨List.mem_of_getElem? (i := 554) (by decide +kernel), List.mem_of_getElem? (i := 110) (by decide +kernel), by decide +kernel, by decide +kernel, by decide +kernel⟩
theorem miX11_teach : Cond.instanceMethod mX11_teach.1 ∈ lw_tbl := List.mem_of_getElem? (i := 552) (by decide +kernel)
theorem mvX11_teach : Cond.selects mX11_teach.1.cls mX11_teach.1 mX11_teach.1 ∈ lw_tbl := List.mem_of_getElem? (i := 553) (by decide +kernel)
def mX11_errorAt : am_M := (yX11_errorAt, cX11_errorAt, 1, (Option.some Jvm.ClassFile.FieldType.int), 9, 0, false)
theorem mkX11_errorAt : am_Mok mX11_errorAt := ⟨List.mem_of_getElem? (i := 874) (by decide +kernel), List.mem_of_getElem? (i := 110) (by decide +kernel), by decide +kernel, by decide +kernel, by decide +kernel⟩
theorem miX11_errorAt : Cond.instanceMethod mX11_errorAt.1 ∈ lw_tbl := List.mem_of_getElem? (i := 872) (by decide +kernel)
theorem mvX11_errorAt : Cond.selects mX11_errorAt.1.cls mX11_errorAt.1 mX11_errorAt.1 ∈ lw_tbl := List.mem_of_getElem? (i := 873) (by decide +kernel)
def mX11_count : am_M := (yX11_count, cX11_count, 2, (Option.some Jvm.ClassFile.FieldType.int), 9, 1, false)
theorem mkX11_count : am_Mok mX11_count := ⟨List.mem_of_getElem? (i := 1136) (by decide +kernel), List.mem_of_getElem? (i := 110) (by decide +kernel), by decide +kernel, by decide +kernel, by decide +kernel⟩
theorem miX11_count : Cond.instanceMethod mX11_count.1 ∈ lw_tbl := List.mem_of_getElem? (i := 1134) (by decide +kernel)
theorem mvX11_count : Cond.selects mX11_count.1.cls mX11_count.1 mX11_count.1 ∈ lw_tbl := List.mem_of_getElem? (i := 1135) (by decide +kernel)
def mX11_height : am_M := (yX11_height, cX11_height, 3, (Option.some Jvm.ClassFile.FieldType.int), 9, 2, false)
theorem mkX11_height : am_Mok mX11_height := ⟨List.mem_of_getElem? (i := 878) (by decide +kernel), List.mem_of_getElem? (i := 110) (by decide +kernel), by decide +kernel, by decide +kernel, by decide +kernel⟩
theorem miX11_height : Cond.instanceMethod mX11_height.1 ∈ lw_tbl := List.mem_of_getElem? (i := 876) (by decide +kernel)
theorem mvX11_height : Cond.selects mX11_height.1.cls mX11_height.1 mX11_height.1 ∈ lw_tbl := List.mem_of_getElem? (i := 877) (by decide +kernel)
def mX11_ink : am_M := (yX11_ink, cX11_ink, 3, (Option.some Jvm.ClassFile.FieldType.int), 9, 2, false)
theorem mkX11_ink : am_Mok mX11_ink := ⟨List.mem_of_getElem? (i := 950) (by decide +kernel), List.mem_of_getElem? (i := 110) (by decide +kernel), by decide +kernel, by decide +kernel, by decide +kernel⟩
theorem miX11_ink : Cond.instanceMethod mX11_ink.1 ∈ lw_tbl := List.mem_of_getElem? (i := 948) (by decide +kernel)
theorem mvX11_ink : Cond.selects mX11_ink.1.cls mX11_ink.1 mX11_ink.1 ∈ lw_tbl := List.mem_of_getElem? (i := 949) (by decide +kernel)
def mX11_patch : am_M := (yX11_patch, cX11_patch, 3, (Option.some Jvm.ClassFile.FieldType.int), 9, 2, false)
theorem mkX11_patch : am_Mok mX11_patch := ⟨List.mem_of_getElem? (i := 954) (by decide +kernel), List.mem_of_getElem? (i := 110) (by decide +kernel), by decide +kernel, by decide +kernel, by decide +kernel⟩
theorem miX11_patch : Cond.instanceMethod mX11_patch.1 ∈ lw_tbl := List.mem_of_getElem? (i := 952) (by decide +kernel)
theorem mvX11_patch : Cond.selects mX11_patch.1.cls mX11_patch.1 mX11_patch.1 ∈ lw_tbl := List.mem_of_getElem? (i := 953) (by decide +kernel)
def mX11_whence : am_M := (yX11_whence, cX11_whence, 3, (Option.some Jvm.ClassFile.FieldType.int), 9, 2, false)
theorem mkX11_whence : am_Mok mX11_whence := ⟨List.mem_of_getElem? (i := 993) (by decide +kernel), List.mem_of_getElem? (i := 110) (by decide +kernel), by decide +kernel, by decide +kernel, by decide +kernel⟩
theorem miX11_whence : Cond.instanceMethod mX11_whence.1 ∈ lw_tbl := List.mem_of_getElem? (i := 991) (by decide +kernel)
theorem mvX11_whence : Cond.selects mX11_whence.1.cls mX11_whence.1 mX11_whence.1 ∈ lw_tbl := List.mem_of_getElem? (i := 992) (by decide +kernel)
def mX11_share : am_M := (yX11_share, cX11_share, 2, (Option.some Jvm.ClassFile.FieldType.int), 9, 1, false)
theorem mkX11_share : am_Mok mX11_share := ⟨List.mem_of_getElem? (i := 1159) (by decide +kernel), List.mem_of_getElem? (i := 110) (by decide +kernel), by decide +kernel, by decide +kernel, by decide +kernel⟩
theorem miX11_share : Cond.instanceMethod mX11_share.1 ∈ lw_tbl := List.mem_of_getElem? (i := 1157) (by decide +kernel)
theorem mvX11_share : Cond.selects mX11_share.1.cls mX11_share.1 mX11_share.1 ∈ lw_tbl := List.mem_of_getElem? (i := 1158) (by decide +kernel)
def mX11_octave : am_M := (yX11_octave, cX11_octave, 3, (Option.some Jvm.ClassFile.FieldType.int), 9, 2, false)
theorem mkX11_octave : am_Mok mX11_octave := ⟨List.mem_of_getElem? (i := 1167) (by decide +kernel), List.mem_of_getElem? (i := 110) (by decide +kernel), by decide +kernel, by decide +kernel, by decide +kernel⟩
theorem miX11_octave : Cond.instanceMethod mX11_octave.1 ∈ lw_tbl := List.mem_of_getElem? (i := 1165) (by decide +kernel)
theorem mvX11_octave : Cond.selects mX11_octave.1.cls mX11_octave.1 mX11_octave.1 ∈ lw_tbl := List.mem_of_getElem? (i := 1166) (by decide +kernel)
def mX11_gradient : am_M := (yX11_gradient, cX11_gradient, 4, (Option.some Jvm.ClassFile.FieldType.int), 9, 3, false)
theorem mkX11_gradient : am_Mok mX11_gradient := ⟨List.mem_of_getElem? (i := 1175) (by decide +kernel), List.mem_of_getElem? (i := 110) (by decide +kernel), by decide +kernel, by decide +kernel, by decide +kernel⟩
theorem miX11_gradient : Cond.instanceMethod mX11_gradient.1 ∈ lw_tbl := List.mem_of_getElem? (i := 1173) (by decide +kernel)
theorem mvX11_gradient : Cond.selects mX11_gradient.1.cls mX11_gradient.1 mX11_gradient.1 ∈ lw_tbl := List.mem_of_getElem? (i := 1174) (by decide +kernel)
def mX11_value : am_M := (yX11_value, cX11_value, 6, (Option.some Jvm.ClassFile.FieldType.int), 9, 3, false)
theorem mkX11_value : am_Mok mX11_value := ⟨List.mem_of_getElem? (i := 1185) (by decide +kernel), List.mem_of_getElem? (i := 110) (by decide +kernel), by decide +kernel, by decide +kernel, by decide +kernel⟩
theorem miX11_value : Cond.instanceMethod mX11_value.1 ∈ lw_tbl := List.mem_of_getElem? (i := 1183) (by decide +kernel)
theorem mvX11_value : Cond.selects mX11_value.1.cls mX11_value.1 mX11_value.1 ∈ lw_tbl := List.mem_of_getElem? (i := 1184) (by decide +kernel)
def mX11_comb : am_M := (yX11_comb, cX11_comb, 3, (Option.some Jvm.ClassFile.FieldType.int), 9, 2, false)
theorem mkX11_comb : am_Mok mX11_comb := ⟨List.mem_of_getElem? (i := 1194) (by decide +kernel), List.mem_of_getElem? (i := 110) (by decide +kernel), by decide +kernel, by decide +kernel, by decide +kernel⟩
theorem miX11_comb : Cond.instanceMethod mX11_comb.1 ∈ lw_tbl := List.mem_of_getElem? (i := 1192) (by decide +kernel)
theorem mvX11_comb : Cond.selects mX11_comb.1.cls mX11_comb.1 mX11_comb.1 ∈ lw_tbl := List.mem_of_getElem? (i := 1193) (by decide +kernel)
def mX11_moves : am_M := (yX11_moves, cX11_moves, 3, (Option.some Jvm.ClassFile.FieldType.int), 9, 2, false)
theorem mkX11_moves : am_Mok mX11_moves := ⟨List.mem_of_getElem? (i := 1202) (by decide +kernel), List.mem_of_getElem? (i := 110) (by decide +kernel), by decide +kernel, by decide +kernel, by decide +kernel⟩
theorem miX11_moves : Cond.instanceMethod mX11_moves.1 ∈ lw_tbl := List.mem_of_getElem? (i := 1200) (by decide +kernel)
theorem mvX11_moves : Cond.selects mX11_moves.1.cls mX11_moves.1 mX11_moves.1 ∈ lw_tbl := List.mem_of_getElem? (i := 1201) (by decide +kernel)
def mX11_setPull : am_M := (yX11_setPull, cX11_setPull, 4, (Option.some Jvm.ClassFile.FieldType.int), 9, 2, false)
theorem mkX11_setPull : am_Mok mX11_setPull := ⟨List.mem_of_getElem? (i := 1212) (by decide +kernel), List.mem_of_getElem? (i := 110) (by decide +kernel), by decide +kernel, by decide +kernel, by decide +kernel⟩
theorem miX11_setPull : Cond.instanceMethod mX11_setPull.1 ∈ lw_tbl := List.mem_of_getElem? (i := 1210) (by decide +kernel)
theorem mvX11_setPull : Cond.selects mX11_setPull.1.cls mX11_setPull.1 mX11_setPull.1 ∈ lw_tbl := List.mem_of_getElem? (i := 1211) (by decide +kernel)
def mX11_setSeed : am_M := (yX11_setSeed, cX11_setSeed, 4, (Option.some Jvm.ClassFile.FieldType.int), 9, 2, false)
theorem mkX11_setSeed : am_Mok mX11_setSeed := ⟨List.mem_of_getElem? (i := 1224) (by decide +kernel), List.mem_of_getElem? (i := 110) (by decide +kernel), by decide +kernel, by decide +kernel, by decide +kernel⟩
theorem miX11_setSeed : Cond.instanceMethod mX11_setSeed.1 ∈ lw_tbl := List.mem_of_getElem? (i := 1222) (by decide +kernel)
theorem mvX11_setSeed : Cond.selects mX11_setSeed.1.cls mX11_setSeed.1 mX11_setSeed.1 ∈ lw_tbl := List.mem_of_getElem? (i := 1223) (by decide +kernel)
def mX11_drift : am_M := (yX11_drift, cX11_drift, 3, (Option.some Jvm.ClassFile.FieldType.int), 9, 2, false)
theorem mkX11_drift : am_Mok mX11_drift := ⟨List.mem_of_getElem? (i := 1236) (by decide +kernel), List.mem_of_getElem? (i := 110) (by decide +kernel), by decide +kernel, by decide +kernel, by decide +kernel⟩
theorem miX11_drift : Cond.instanceMethod mX11_drift.1 ∈ lw_tbl := List.mem_of_getElem? (i := 1234) (by decide +kernel)
theorem mvX11_drift : Cond.selects mX11_drift.1.cls mX11_drift.1 mX11_drift.1 ∈ lw_tbl := List.mem_of_getElem? (i := 1235) (by decide +kernel)
def mX11_dip : am_M := (yX11_dip, cX11_dip, 4, (Option.some Jvm.ClassFile.FieldType.int), 9, 1, false)
theorem mkX11_dip : am_Mok mX11_dip := ⟨List.mem_of_getElem? (i := 1248) (by decide +kernel), List.mem_of_getElem? (i := 110) (by decide +kernel), by decide +kernel, by decide +kernel, by decide +kernel⟩
theorem miX11_dip : Cond.instanceMethod mX11_dip.1 ∈ lw_tbl := List.mem_of_getElem? (i := 1246) (by decide +kernel)
theorem mvX11_dip : Cond.selects mX11_dip.1.cls mX11_dip.1 mX11_dip.1 ∈ lw_tbl := List.mem_of_getElem? (i := 1247) (by decide +kernel)
def mX11_foresee : am_M := (yX11_foresee, cX11_foresee, 4, (Option.some Jvm.ClassFile.FieldType.int), 9, 2, false)
theorem mkX11_foresee : am_Mok mX11_foresee := ⟨List.mem_of_getElem? (i := 1307) (by decide +kernel), List.mem_of_getElem? (i := 110) (by decide +kernel), by decide +kernel, by decide +kernel, by decide +kernel⟩
theorem miX11_foresee : Cond.instanceMethod mX11_foresee.1 ∈ lw_tbl := List.mem_of_getElem? (i := 1305) (by decide +kernel)
theorem mvX11_foresee : Cond.selects mX11_foresee.1.cls mX11_foresee.1 mX11_foresee.1 ∈ lw_tbl := List.mem_of_getElem? (i := 1306) (by decide +kernel)
def mX11_until : am_M := (yX11_until, cX11_until, 6, (Option.some Jvm.ClassFile.FieldType.int), 9, 3, false)
theorem mkX11_until : am_Mok mX11_until := ⟨List.mem_of_getElem? (i := 1319) (by decide +kernel), List.mem_of_getElem? (i := 110) (by decide +kernel), by decide +kernel, by decide +kernel, by decide +kernel⟩
theorem miX11_until : Cond.instanceMethod mX11_until.1 ∈ lw_tbl := List.mem_of_getElem? (i := 1317) (by decide +kernel)
theorem mvX11_until : Cond.selects mX11_until.1.cls mX11_until.1 mX11_until.1 ∈ lw_tbl := List.mem_of_getElem? (i := 1318) (by decide +kernel)
def mX11_advise : am_M := (yX11_advise, cX11_advise, 5, (Option.some Jvm.ClassFile.FieldType.int), 9, 1, false)
theorem mkX11_advise : am_Mok mX11_advise := ⟨List.mem_of_getElem? (i := 1326) (by decide +kernel), List.mem_of_getElem? (i := 110) (by decide +kernel), by decide +kernel, by decide +kernel, by decide +kernel⟩
theorem miX11_advise : Cond.instanceMethod mX11_advise.1 ∈ lw_tbl := List.mem_of_getElem? (i := 1324) (by decide +kernel)
theorem mvX11_advise : Cond.selects mX11_advise.1.cls mX11_advise.1 mX11_advise.1 ∈ lw_tbl := List.mem_of_getElem? (i := 1325) (by decide +kernel)
def mX11_mean : am_M := (yX11_mean, cX11_mean, 4, (Option.some Jvm.ClassFile.FieldType.double), 9, 0, false)
theorem mkX11_mean : am_Mok mX11_mean := ⟨List.mem_of_getElem? (i := 998) (by decide +kernel), List.mem_of_getElem? (i := 110) (by decide +kernel), by decide +kernel, by decide +kernel, by decide +kernel⟩
theorem miX11_mean : Cond.instanceMethod mX11_mean.1 ∈ lw_tbl := List.mem_of_getElem? (i := 996) (by decide +kernel)
theorem mvX11_mean : Cond.selects mX11_mean.1.cls mX11_mean.1 mX11_mean.1 ∈ lw_tbl := List.mem_of_getElem? (i := 997) (by decide +kernel)
def mX11_digest : am_M := (yX11_digest, cX11_digest, 5, (Option.some Jvm.ClassFile.FieldType.long), 9, 0, false)
theorem mkX11_digest : am_Mok mX11_digest := ⟨List.mem_of_getElem? (i := 1002) (by decide +kernel), List.mem_of_getElem? (i := 110) (by decide +kernel), by decide +kernel, by decide +kernel, by decide +kernel⟩
theorem miX11_digest : Cond.instanceMethod mX11_digest.1 ∈ lw_tbl := List.mem_of_getElem? (i := 1000) (by decide +kernel)
theorem mvX11_digest : Cond.selects mX11_digest.1.cls mX11_digest.1 mX11_digest.1 ∈ lw_tbl := List.mem_of_getElem? (i := 1001) (by decide +kernel)
def mX12_init : am_M := (yX12_init, cX12_init, 1, none, 10, 0, true)
theorem mkX12_init : am_Mok mX12_init := ⟨List.mem_of_getElem? (i := 1337) (by decide +kernel), List.mem_of_getElem? (i := 126) (by decide +kernel), by decide +kernel, by decide +kernel, by decide +kernel⟩
theorem miX12_init : Cond.instanceMethod mX12_init.1 ∈ lw_tbl := List.mem_of_getElem? (i := 1336) (by decide +kernel)
def mX12_spots : am_M := (yX12_spots, cX12_spots, 1, (Option.some Jvm.ClassFile.FieldType.int), 10, 0, false)
theorem mkX12_spots : am_Mok mX12_spots := ⟨List.mem_of_getElem? (i := 1798) (by decide +kernel), List.mem_of_getElem? (i := 126) (by decide +kernel), by decide +kernel, by decide +kernel, by decide +kernel⟩
theorem miX12_spots : Cond.instanceMethod mX12_spots.1 ∈ lw_tbl := List.mem_of_getElem? (i := 1796) (by decide +kernel)
theorem mvX12_spots : Cond.selects mX12_spots.1.cls mX12_spots.1 mX12_spots.1 ∈ lw_tbl := List.mem_of_getElem? (i := 1797) (by decide +kernel)
def mX12_spot : am_M := (yX12_spot, cX12_spot, 3, (Option.some Jvm.ClassFile.FieldType.int), 10, 2, false)
theorem mkX12_spot : am_Mok mX12_spot := ⟨List.mem_of_getElem? (i := 1814) (by decide +kernel), List.mem_of_getElem? (i := 126) (by decide +kernel), by decide +kernel, by decide +kernel, by decide +kernel⟩
theorem miX12_spot : Cond.instanceMethod mX12_spot.1 ∈ lw_tbl := List.mem_of_getElem? (i := 1812) (by decide +kernel)
theorem mvX12_spot : Cond.selects mX12_spot.1.cls mX12_spot.1 mX12_spot.1 ∈ lw_tbl := List.mem_of_getElem? (i := 1813) (by decide +kernel)
def mX12_gradient : am_M := (yX12_gradient, cX12_gradient, 7, (Option.some Jvm.ClassFile.FieldType.int), 10, 4, false)
theorem mkX12_gradient : am_Mok mX12_gradient := ⟨List.mem_of_getElem? (i := 1859) (by decide +kernel), List.mem_of_getElem? (i := 126) (by decide +kernel), by decide +kernel, by decide +kernel, by decide +kernel⟩
theorem miX12_gradient : Cond.instanceMethod mX12_gradient.1 ∈ lw_tbl := List.mem_of_getElem? (i := 1857) (by decide +kernel)
theorem mvX12_gradient : Cond.selects mX12_gradient.1.cls mX12_gradient.1 mX12_gradient.1 ∈ lw_tbl := List.mem_of_getElem? (i := 1858) (by decide +kernel)
def mX13_init : am_M := (yX13_init, cX13_init, 2, none, 11, 1, true)
theorem mkX13_init : am_Mok mX13_init := ⟨List.mem_of_getElem? (i := 1453) (by decide +kernel), List.mem_of_getElem? (i := 127) (by decide +kernel), by decide +kernel, by decide +kernel, by decide +kernel⟩
theorem miX13_init : Cond.instanceMethod mX13_init.1 ∈ lw_tbl := List.mem_of_getElem? (i := 1452) (by decide +kernel)
def mX13_become : am_M := (yX13_become, cX13_become, 3, (Option.some (Jvm.ClassFile.FieldType.object "MarbledPaperModel$State")), 11, 1, false)
theorem mkX13_become : am_Mok mX13_become := ⟨List.mem_of_getElem? (i := 2034) (by decide +kernel), List.mem_of_getElem? (i := 127) (by decide +kernel), by decide +kernel, by decide +kernel, by decide +kernel⟩
theorem miX13_become : Cond.instanceMethod mX13_become.1 ∈ lw_tbl := List.mem_of_getElem? (i := 2032) (by decide +kernel)
theorem mvX13_become : Cond.selects mX13_become.1.cls mX13_become.1 mX13_become.1 ∈ lw_tbl := List.mem_of_getElem? (i := 2033) (by decide +kernel)
def mX13_begin : am_M := (yX13_begin, cX13_begin, 2, none, 11, 0, false)
theorem mkX13_begin : am_Mok mX13_begin := ⟨List.mem_of_getElem? (i := 1511) (by decide +kernel), List.mem_of_getElem? (i := 127) (by decide +kernel), by decide +kernel, by decide +kernel, by decide +kernel⟩
theorem miX13_begin : Cond.instanceMethod mX13_begin.1 ∈ lw_tbl := List.mem_of_getElem? (i := 1509) (by decide +kernel)
theorem mvX13_begin : Cond.selects mX13_begin.1.cls mX13_begin.1 mX13_begin.1 ∈ lw_tbl := List.mem_of_getElem? (i := 1510) (by decide +kernel)
def mX13_pullOf : am_M := (yX13_pullOf, cX13_pullOf, 7, (Option.some Jvm.ClassFile.FieldType.int), 11, 5, false)
theorem mkX13_pullOf : am_Mok mX13_pullOf := ⟨List.mem_of_getElem? (i := 1855) (by decide +kernel), List.mem_of_getElem? (i := 127) (by decide +kernel), by decide +kernel, by decide +kernel, by decide +kernel⟩
theorem miX13_pullOf : Cond.instanceMethod mX13_pullOf.1 ∈ lw_tbl := List.mem_of_getElem? (i := 1854) (by decide +kernel)
theorem mvX13_pullOf : Cond.selects mX13_pullOf.1.cls mX13_pullOf.1 mX13_pullOf.1 ∈ lw_tbl := List.mem_of_getElem? (i := 95) (by decide +kernel)
def mX13_valueAt : am_M := (yX13_valueAt, cX13_valueAt, 12, (Option.some Jvm.ClassFile.FieldType.int), 11, 3, false)
theorem mkX13_valueAt : am_Mok mX13_valueAt := ⟨List.mem_of_getElem? (i := 1851) (by decide +kernel), List.mem_of_getElem? (i := 127) (by decide +kernel), by decide +kernel, by decide +kernel, by decide +kernel⟩
theorem miX13_valueAt : Cond.instanceMethod mX13_valueAt.1 ∈ lw_tbl := List.mem_of_getElem? (i := 1850) (by decide +kernel)
theorem mvX13_valueAt : Cond.selects mX13_valueAt.1.cls mX13_valueAt.1 mX13_valueAt.1 ∈ lw_tbl := List.mem_of_getElem? (i := 94) (by decide +kernel)
def mX13_know : am_M := (yX13_know, cX13_know, 3, none, 11, 1, false)
theorem mkX13_know : am_Mok mX13_know := ⟨List.mem_of_getElem? (i := 1847) (by decide +kernel), List.mem_of_getElem? (i := 127) (by decide +kernel), by decide +kernel, by decide +kernel, by decide +kernel⟩
theorem miX13_know : Cond.instanceMethod mX13_know.1 ∈ lw_tbl := List.mem_of_getElem? (i := 1846) (by decide +kernel)
theorem mvX13_know : Cond.selects mX13_know.1.cls mX13_know.1 mX13_know.1 ∈ lw_tbl := List.mem_of_getElem? (i := 93) (by decide +kernel)
def mX13_value : am_M := (yX13_value, cX13_value, 3, (Option.some Jvm.ClassFile.FieldType.int), 11, 2, false)
theorem mkX13_value : am_Mok mX13_value := ⟨List.mem_of_getElem? (i := 1843) (by decide +kernel), List.mem_of_getElem? (i := 127) (by decide +kernel), by decide +kernel, by decide +kernel, by decide +kernel⟩
theorem miX13_value : Cond.instanceMethod mX13_value.1 ∈ lw_tbl := List.mem_of_getElem? (i := 1841) (by decide +kernel)
theorem mvX13_value : Cond.selects mX13_value.1.cls mX13_value.1 mX13_value.1 ∈ lw_tbl := List.mem_of_getElem? (i := 1842) (by decide +kernel)
def mX13_moves : am_M := (yX13_moves, cX13_moves, 5, (Option.some Jvm.ClassFile.FieldType.int), 11, 2, false)
theorem mkX13_moves : am_Mok mX13_moves := ⟨List.mem_of_getElem? (i := 1837) (by decide +kernel), List.mem_of_getElem? (i := 127) (by decide +kernel), by decide +kernel, by decide +kernel, by decide +kernel⟩
theorem miX13_moves : Cond.instanceMethod mX13_moves.1 ∈ lw_tbl := List.mem_of_getElem? (i := 1835) (by decide +kernel)
theorem mvX13_moves : Cond.selects mX13_moves.1.cls mX13_moves.1 mX13_moves.1 ∈ lw_tbl := List.mem_of_getElem? (i := 1836) (by decide +kernel)
def mX13_whence : am_M := (yX13_whence, cX13_whence, 5, (Option.some Jvm.ClassFile.FieldType.int), 11, 1, false)
theorem mkX13_whence : am_Mok mX13_whence := ⟨List.mem_of_getElem? (i := 1833) (by decide +kernel), List.mem_of_getElem? (i := 127) (by decide +kernel), by decide +kernel, by decide +kernel, by decide +kernel⟩
theorem miX13_whence : Cond.instanceMethod mX13_whence.1 ∈ lw_tbl := List.mem_of_getElem? (i := 1831) (by decide +kernel)
theorem mvX13_whence : Cond.selects mX13_whence.1.cls mX13_whence.1 mX13_whence.1 ∈ lw_tbl := List.mem_of_getElem? (i := 1832) (by decide +kernel)
def mX13_heightBy : am_M := (yX13_heightBy, cX13_heightBy, 5, (Option.some Jvm.ClassFile.FieldType.int), 11, 1, false)
theorem mkX13_heightBy : am_Mok mX13_heightBy := ⟨List.mem_of_getElem? (i := 1829) (by decide +kernel), List.mem_of_getElem? (i := 127) (by decide +kernel), by decide +kernel, by decide +kernel, by decide +kernel⟩
theorem miX13_heightBy : Cond.instanceMethod mX13_heightBy.1 ∈ lw_tbl := List.mem_of_getElem? (i := 1828) (by decide +kernel)
theorem mvX13_heightBy : Cond.selects mX13_heightBy.1.cls mX13_heightBy.1 mX13_heightBy.1 ∈ lw_tbl := List.mem_of_getElem? (i := 92) (by decide +kernel)
def mX13_know_ : am_M := (yX13_know_, cX13_know_, 2, none, 11, 0, false)
theorem mkX13_know_ : am_Mok mX13_know_ := ⟨List.mem_of_getElem? (i := 1825) (by decide +kernel), List.mem_of_getElem? (i := 127) (by decide +kernel), by decide +kernel, by decide +kernel, by decide +kernel⟩
theorem miX13_know_ : Cond.instanceMethod mX13_know_.1 ∈ lw_tbl := List.mem_of_getElem? (i := 1824) (by decide +kernel)
theorem mvX13_know_ : Cond.selects mX13_know_.1.cls mX13_know_.1 mX13_know_.1 ∈ lw_tbl := List.mem_of_getElem? (i := 91) (by decide +kernel)
def mX13_height : am_M := (yX13_height, cX13_height, 2, (Option.some Jvm.ClassFile.FieldType.int), 11, 1, false)
theorem mkX13_height : am_Mok mX13_height := ⟨List.mem_of_getElem? (i := 1883) (by decide +kernel), List.mem_of_getElem? (i := 127) (by decide +kernel), by decide +kernel, by decide +kernel, by decide +kernel⟩
theorem miX13_height : Cond.instanceMethod mX13_height.1 ∈ lw_tbl := List.mem_of_getElem? (i := 1881) (by decide +kernel)
theorem mvX13_height : Cond.selects mX13_height.1.cls mX13_height.1 mX13_height.1 ∈ lw_tbl := List.mem_of_getElem? (i := 1882) (by decide +kernel)
def mX13_ink : am_M := (yX13_ink, cX13_ink, 2, (Option.some Jvm.ClassFile.FieldType.int), 11, 1, false)
theorem mkX13_ink : am_Mok mX13_ink := ⟨List.mem_of_getElem? (i := 1821) (by decide +kernel), List.mem_of_getElem? (i := 127) (by decide +kernel), by decide +kernel, by decide +kernel, by decide +kernel⟩
theorem miX13_ink : Cond.instanceMethod mX13_ink.1 ∈ lw_tbl := List.mem_of_getElem? (i := 1819) (by decide +kernel)
theorem mvX13_ink : Cond.selects mX13_ink.1.cls mX13_ink.1 mX13_ink.1 ∈ lw_tbl := List.mem_of_getElem? (i := 1820) (by decide +kernel)
def mX13_share : am_M := (yX13_share, cX13_share, 4, (Option.some Jvm.ClassFile.FieldType.int), 11, 1, false)
theorem mkX13_share : am_Mok mX13_share := ⟨List.mem_of_getElem? (i := 1919) (by decide +kernel), List.mem_of_getElem? (i := 127) (by decide +kernel), by decide +kernel, by decide +kernel, by decide +kernel⟩
theorem miX13_share : Cond.instanceMethod mX13_share.1 ∈ lw_tbl := List.mem_of_getElem? (i := 1917) (by decide +kernel)
theorem mvX13_share : Cond.selects mX13_share.1.cls mX13_share.1 mX13_share.1 ∈ lw_tbl := List.mem_of_getElem? (i := 1918) (by decide +kernel)
def mX13_isAtEdge : am_M := (yX13_isAtEdge, cX13_isAtEdge, 3, (Option.some Jvm.ClassFile.FieldType.boolean), 11, 1, false)
theorem mkX13_isAtEdge : am_Mok mX13_isAtEdge := ⟨List.mem_of_getElem? (i := 2015) (by decide +kernel), List.mem_of_getElem? (i := 127) (by decide +kernel), by decide +kernel, by decide +kernel, by decide +kernel⟩
theorem miX13_isAtEdge : Cond.instanceMethod mX13_isAtEdge.1 ∈ lw_tbl := List.mem_of_getElem? (i := 2014) (by decide +kernel)
theorem mvX13_isAtEdge : Cond.selects mX13_isAtEdge.1.cls mX13_isAtEdge.1 mX13_isAtEdge.1 ∈ lw_tbl := List.mem_of_getElem? (i := 107) (by decide +kernel)
def mX13_highest : am_M := (yX13_highest, cX13_highest, 4, (Option.some Jvm.ClassFile.FieldType.int), 11, 1, false)
theorem mkX13_highest : am_Mok mX13_highest := ⟨List.mem_of_getElem? (i := 1879) (by decide +kernel), List.mem_of_getElem? (i := 127) (by decide +kernel), by decide +kernel, by decide +kernel, by decide +kernel⟩
theorem miX13_highest : Cond.instanceMethod mX13_highest.1 ∈ lw_tbl := List.mem_of_getElem? (i := 1878) (by decide +kernel)
theorem mvX13_highest : Cond.selects mX13_highest.1.cls mX13_highest.1 mX13_highest.1 ∈ lw_tbl := List.mem_of_getElem? (i := 97) (by decide +kernel)
def mX13_beside : am_M := (yX13_beside, cX13_beside, 3, (Option.some Jvm.ClassFile.FieldType.int), 11, 2, false)
theorem mkX13_beside : am_Mok mX13_beside := ⟨List.mem_of_getElem? (i := 1806) (by decide +kernel), List.mem_of_getElem? (i := 127) (by decide +kernel), by decide +kernel, by decide +kernel, by decide +kernel⟩
theorem miX13_beside : Cond.instanceMethod mX13_beside.1 ∈ lw_tbl := List.mem_of_getElem? (i := 1805) (by decide +kernel)
theorem mvX13_beside : Cond.selects mX13_beside.1.cls mX13_beside.1 mX13_beside.1 ∈ lw_tbl := List.mem_of_getElem? (i := 90) (by decide +kernel)
def mX13_goOver : am_M := (yX13_goOver, cX13_goOver, 6, (Option.some Jvm.ClassFile.FieldType.int), 11, 1, false)
theorem mkX13_goOver : am_Mok mX13_goOver := ⟨List.mem_of_getElem? (i := 1802) (by decide +kernel), List.mem_of_getElem? (i := 127) (by decide +kernel), by decide +kernel, by decide +kernel, by decide +kernel⟩
theorem miX13_goOver : Cond.instanceMethod mX13_goOver.1 ∈ lw_tbl := List.mem_of_getElem? (i := 1801) (by decide +kernel)
theorem mvX13_goOver : Cond.selects mX13_goOver.1.cls mX13_goOver.1 mX13_goOver.1 ∈ lw_tbl := List.mem_of_getElem? (i := 89) (by decide +kernel)
def mX13_forget : am_M := (yX13_forget, cX13_forget, 2, none, 11, 0, false)
theorem mkX13_forget : am_Mok mX13_forget := ⟨List.mem_of_getElem? (i := 1794) (by decide +kernel), List.mem_of_getElem? (i := 127) (by decide +kernel), by decide +kernel, by decide +kernel, by decide +kernel⟩
theorem miX13_forget : Cond.instanceMethod mX13_forget.1 ∈ lw_tbl := List.mem_of_getElem? (i := 1793) (by decide +kernel)
theorem mvX13_forget : Cond.selects mX13_forget.1.cls mX13_forget.1 mX13_forget.1 ∈ lw_tbl := List.mem_of_getElem? (i := 88) (by decide +kernel)
def mX13_patch : am_M := (yX13_patch, cX13_patch, 2, (Option.some Jvm.ClassFile.FieldType.int), 11, 1, false)
theorem mkX13_patch : am_Mok mX13_patch := ⟨List.mem_of_getElem? (i := 1902) (by decide +kernel), List.mem_of_getElem? (i := 127) (by decide +kernel), by decide +kernel, by decide +kernel, by decide +kernel⟩
theorem miX13_patch : Cond.instanceMethod mX13_patch.1 ∈ lw_tbl := List.mem_of_getElem? (i := 1900) (by decide +kernel)
theorem mvX13_patch : Cond.selects mX13_patch.1.cls mX13_patch.1 mX13_patch.1 ∈ lw_tbl := List.mem_of_getElem? (i := 1901) (by decide +kernel)
def mX13_patches : am_M := (yX13_patches, cX13_patches, 3, (Option.some Jvm.ClassFile.FieldType.int), 11, 0, false)
theorem mkX13_patches : am_Mok mX13_patches := ⟨List.mem_of_getElem? (i := 1790) (by decide +kernel), List.mem_of_getElem? (i := 127) (by decide +kernel), by decide +kernel, by decide +kernel, by decide +kernel⟩
theorem miX13_patches : Cond.instanceMethod mX13_patches.1 ∈ lw_tbl := List.mem_of_getElem? (i := 1788) (by decide +kernel)
theorem mvX13_patches : Cond.selects mX13_patches.1.cls mX13_patches.1 mX13_patches.1 ∈ lw_tbl := List.mem_of_getElem? (i := 1789) (by decide +kernel)
def mX13_contours : am_M := (yX13_contours, cX13_contours, 4, (Option.some Jvm.ClassFile.FieldType.int), 11, 0, false)
theorem mkX13_contours : am_Mok mX13_contours := ⟨List.mem_of_getElem? (i := 1875) (by decide +kernel), List.mem_of_getElem? (i := 127) (by decide +kernel), by decide +kernel, by decide +kernel, by decide +kernel⟩
theorem miX13_contours : Cond.instanceMethod mX13_contours.1 ∈ lw_tbl := List.mem_of_getElem? (i := 1874) (by decide +kernel)
theorem mvX13_contours : Cond.selects mX13_contours.1.cls mX13_contours.1 mX13_contours.1 ∈ lw_tbl := List.mem_of_getElem? (i := 96) (by decide +kernel)
def mX13_letPull : am_M := (yX13_letPull, cX13_letPull, 3, (Option.some Jvm.ClassFile.FieldType.boolean), 11, 2, false)
theorem mkX13_letPull : am_Mok mX13_letPull := ⟨List.mem_of_getElem? (i := 1966) (by decide +kernel), List.mem_of_getElem? (i := 127) (by decide +kernel), by decide +kernel, by decide +kernel, by decide +kernel⟩
theorem miX13_letPull : Cond.instanceMethod mX13_letPull.1 ∈ lw_tbl := List.mem_of_getElem? (i := 1964) (by decide +kernel)
theorem mvX13_letPull : Cond.selects mX13_letPull.1.cls mX13_letPull.1 mX13_letPull.1 ∈ lw_tbl := List.mem_of_getElem? (i := 1965) (by decide +kernel)
def mX13_letSeed : am_M := (yX13_letSeed, cX13_letSeed, 3, (Option.some Jvm.ClassFile.FieldType.boolean), 11, 2, false)
theorem mkX13_letSeed : am_Mok mX13_letSeed := ⟨List.mem_of_getElem? (i := 1974) (by decide +kernel), List.mem_of_getElem? (i := 127) (by decide +kernel), by decide +kernel, by decide +kernel, by decide +kernel⟩
theorem miX13_letSeed : Cond.instanceMethod mX13_letSeed.1 ∈ lw_tbl := List.mem_of_getElem? (i := 1972) (by decide +kernel)
theorem mvX13_letSeed : Cond.selects mX13_letSeed.1.cls mX13_letSeed.1 mX13_letSeed.1 ∈ lw_tbl := List.mem_of_getElem? (i := 1973) (by decide +kernel)
def mX13_letDrift : am_M := (yX13_letDrift, cX13_letDrift, 5, (Option.some Jvm.ClassFile.FieldType.boolean), 11, 2, false)
theorem mkX13_letDrift : am_Mok mX13_letDrift := ⟨List.mem_of_getElem? (i := 1982) (by decide +kernel), List.mem_of_getElem? (i := 127) (by decide +kernel), by decide +kernel, by decide +kernel, by decide +kernel⟩
theorem miX13_letDrift : Cond.instanceMethod mX13_letDrift.1 ∈ lw_tbl := List.mem_of_getElem? (i := 1980) (by decide +kernel)
theorem mvX13_letDrift : Cond.selects mX13_letDrift.1.cls mX13_letDrift.1 mX13_letDrift.1 ∈ lw_tbl := List.mem_of_getElem? (i := 1981) (by decide +kernel)
def mX13_order : am_M := (yX13_order, cX13_order, 3, (Option.some Jvm.ClassFile.FieldType.boolean), 11, 1, false)
theorem mkX13_order : am_Mok mX13_order := ⟨List.mem_of_getElem? (i := 2023) (by decide +kernel), List.mem_of_getElem? (i := 127) (by decide +kernel), by decide +kernel, by decide +kernel, by decide +kernel⟩
theorem miX13_order : Cond.instanceMethod mX13_order.1 ∈ lw_tbl := List.mem_of_getElem? (i := 2022) (by decide +kernel)
theorem mvX13_order : Cond.selects mX13_order.1.cls mX13_order.1 mX13_order.1 ∈ lw_tbl := List.mem_of_getElem? (i := 108) (by decide +kernel)
def mX13_holds : am_M := (yX13_holds, cX13_holds, 2, (Option.some Jvm.ClassFile.FieldType.boolean), 11, 1, false)
theorem mkX13_holds : am_Mok mX13_holds := ⟨List.mem_of_getElem? (i := 1998) (by decide +kernel), List.mem_of_getElem? (i := 127) (by decide +kernel), by decide +kernel, by decide +kernel, by decide +kernel⟩
theorem miX13_holds : Cond.instanceMethod mX13_holds.1 ∈ lw_tbl := List.mem_of_getElem? (i := 1997) (by decide +kernel)
theorem mvX13_holds : Cond.selects mX13_holds.1.cls mX13_holds.1 mX13_holds.1 ∈ lw_tbl := List.mem_of_getElem? (i := 103) (by decide +kernel)
def mX13_dip : am_M := (yX13_dip, cX13_dip, 2, none, 11, 0, false)
theorem mkX13_dip : am_Mok mX13_dip := ⟨List.mem_of_getElem? (i := 1994) (by decide +kernel), List.mem_of_getElem? (i := 127) (by decide +kernel), by decide +kernel, by decide +kernel, by decide +kernel⟩
theorem miX13_dip : Cond.instanceMethod mX13_dip.1 ∈ lw_tbl := List.mem_of_getElem? (i := 1992) (by decide +kernel)
theorem mvX13_dip : Cond.selects mX13_dip.1.cls mX13_dip.1 mX13_dip.1 ∈ lw_tbl := List.mem_of_getElem? (i := 1993) (by decide +kernel)
def mX13_dip_ : am_M := (yX13_dip_, cX13_dip_, 3, (Option.some (Jvm.ClassFile.FieldType.object "MarbledPaperModel$State")), 11, 1, false)
theorem mkX13_dip_ : am_Mok mX13_dip_ := ⟨List.mem_of_getElem? (i := 1990) (by decide +kernel), List.mem_of_getElem? (i := 127) (by decide +kernel), by decide +kernel, by decide +kernel, by decide +kernel⟩
theorem miX13_dip_ : Cond.instanceMethod mX13_dip_.1 ∈ lw_tbl := List.mem_of_getElem? (i := 1988) (by decide +kernel)
theorem mvX13_dip_ : Cond.selects mX13_dip_.1.cls mX13_dip_.1 mX13_dip_.1 ∈ lw_tbl := List.mem_of_getElem? (i := 1989) (by decide +kernel)
def mX13_counted : am_M := (yX13_counted, cX13_counted, 2, (Option.some Jvm.ClassFile.FieldType.int), 11, 1, false)
theorem mkX13_counted : am_Mok mX13_counted := ⟨List.mem_of_getElem? (i := 1786) (by decide +kernel), List.mem_of_getElem? (i := 127) (by decide +kernel), by decide +kernel, by decide +kernel, by decide +kernel⟩
theorem miX13_counted : Cond.instanceMethod mX13_counted.1 ∈ lw_tbl := List.mem_of_getElem? (i := 1784) (by decide +kernel)
theorem mvX13_counted : Cond.selects mX13_counted.1.cls mX13_counted.1 mX13_counted.1 ∈ lw_tbl := List.mem_of_getElem? (i := 1785) (by decide +kernel)
def mX13_carryOut : am_M := (yX13_carryOut, cX13_carryOut, 6, (Option.some Jvm.ClassFile.FieldType.int), 11, 2, false)
theorem mkX13_carryOut : am_Mok mX13_carryOut := ⟨List.mem_of_getElem? (i := 2002) (by decide +kernel), List.mem_of_getElem? (i := 127) (by decide +kernel), by decide +kernel, by decide +kernel, by decide +kernel⟩
theorem miX13_carryOut : Cond.instanceMethod mX13_carryOut.1 ∈ lw_tbl := List.mem_of_getElem? (i := 2001) (by decide +kernel)
theorem mvX13_carryOut : Cond.selects mX13_carryOut.1.cls mX13_carryOut.1 mX13_carryOut.1 ∈ lw_tbl := List.mem_of_getElem? (i := 104) (by decide +kernel)
def mX13_isPushed : am_M := (yX13_isPushed, cX13_isPushed, 2, (Option.some Jvm.ClassFile.FieldType.boolean), 11, 1, false)
theorem mkX13_isPushed : am_Mok mX13_isPushed := ⟨List.mem_of_getElem? (i := 2006) (by decide +kernel), List.mem_of_getElem? (i := 127) (by decide +kernel), by decide +kernel, by decide +kernel, by decide +kernel⟩
theorem miX13_isPushed : Cond.instanceMethod mX13_isPushed.1 ∈ lw_tbl := List.mem_of_getElem? (i := 2005) (by decide +kernel)
theorem mvX13_isPushed : Cond.selects mX13_isPushed.1.cls mX13_isPushed.1 mX13_isPushed.1 ∈ lw_tbl := List.mem_of_getElem? (i := 105) (by decide +kernel)
def mX13_pushed : am_M := (yX13_pushed, cX13_pushed, 3, (Option.some Jvm.ClassFile.FieldType.int), 11, 2, false)
theorem mkX13_pushed : am_Mok mX13_pushed := ⟨List.mem_of_getElem? (i := 2010) (by decide +kernel), List.mem_of_getElem? (i := 127) (by decide +kernel), by decide +kernel, by decide +kernel, by decide +kernel⟩
theorem miX13_pushed : Cond.instanceMethod mX13_pushed.1 ∈ lw_tbl := List.mem_of_getElem? (i := 2009) (by decide +kernel)
theorem mvX13_pushed : Cond.selects mX13_pushed.1.cls mX13_pushed.1 mX13_pushed.1 ∈ lw_tbl := List.mem_of_getElem? (i := 106) (by decide +kernel)
def mX14_init : am_M := (yX14_init, cX14_init, 1, none, 12, 0, true)
theorem mkX14_init : am_Mok mX14_init := ⟨List.mem_of_getElem? (i := 1331) (by decide +kernel), List.mem_of_getElem? (i := 125) (by decide +kernel), by decide +kernel, by decide +kernel, by decide +kernel⟩
theorem miX14_init : Cond.instanceMethod mX14_init.1 ∈ lw_tbl := List.mem_of_getElem? (i := 1330) (by decide +kernel)
def mX14_thrown : am_M := (yX14_thrown, cX14_thrown, 1, (Option.some Jvm.ClassFile.FieldType.int), 12, 0, false)
theorem mkX14_thrown : am_Mok mX14_thrown := ⟨List.mem_of_getElem? (i := 1562) (by decide +kernel), List.mem_of_getElem? (i := 125) (by decide +kernel), by decide +kernel, by decide +kernel, by decide +kernel⟩
theorem miX14_thrown : Cond.instanceMethod mX14_thrown.1 ∈ lw_tbl := List.mem_of_getElem? (i := 1560) (by decide +kernel)
theorem mvX14_thrown : Cond.selects mX14_thrown.1.cls mX14_thrown.1 mX14_thrown.1 ∈ lw_tbl := List.mem_of_getElem? (i := 1561) (by decide +kernel)
def mX14_no : am_M := (yX14_no, cX14_no, 2, (Option.some Jvm.ClassFile.FieldType.int), 12, 1, false)
theorem mkX14_no : am_Mok mX14_no := ⟨List.mem_of_getElem? (i := 1570) (by decide +kernel), List.mem_of_getElem? (i := 125) (by decide +kernel), by decide +kernel, by decide +kernel, by decide +kernel⟩
theorem miX14_no : Cond.instanceMethod mX14_no.1 ∈ lw_tbl := List.mem_of_getElem? (i := 1569) (by decide +kernel)
theorem mvX14_no : Cond.selects mX14_no.1.cls mX14_no.1 mX14_no.1 ∈ lw_tbl := List.mem_of_getElem? (i := 42) (by decide +kernel)
def mX14_isIn : am_M := (yX14_isIn, cX14_isIn, 3, (Option.some Jvm.ClassFile.FieldType.boolean), 12, 3, false)
theorem mkX14_isIn : am_Mok mX14_isIn := ⟨List.mem_of_getElem? (i := 1577) (by decide +kernel), List.mem_of_getElem? (i := 125) (by decide +kernel), by decide +kernel, by decide +kernel, by decide +kernel⟩
theorem msX14_isIn : Cond.static mX14_isIn.1 ∈ lw_tbl := List.mem_of_getElem? (i := 1576) (by decide +kernel)
def mX14_isOctave : am_M := (yX14_isOctave, cX14_isOctave, 2, (Option.some Jvm.ClassFile.FieldType.boolean), 12, 1, false)
theorem mkX14_isOctave : am_Mok mX14_isOctave := ⟨List.mem_of_getElem? (i := 1927) (by decide +kernel), List.mem_of_getElem? (i := 125) (by decide +kernel), by decide +kernel, by decide +kernel, by decide +kernel⟩
theorem miX14_isOctave : Cond.instanceMethod mX14_isOctave.1 ∈ lw_tbl := List.mem_of_getElem? (i := 1926) (by decide +kernel)
theorem mvX14_isOctave : Cond.selects mX14_isOctave.1.cls mX14_isOctave.1 mX14_isOctave.1 ∈ lw_tbl := List.mem_of_getElem? (i := 99) (by decide +kernel)
def mX14_isComb : am_M := (yX14_isComb, cX14_isComb, 2, (Option.some Jvm.ClassFile.FieldType.boolean), 12, 1, false)
theorem mkX14_isComb : am_Mok mX14_isComb := ⟨List.mem_of_getElem? (i := 1949) (by decide +kernel), List.mem_of_getElem? (i := 125) (by decide +kernel), by decide +kernel, by decide +kernel, by decide +kernel⟩
theorem miX14_isComb : Cond.instanceMethod mX14_isComb.1 ∈ lw_tbl := List.mem_of_getElem? (i := 1948) (by decide +kernel)
theorem mvX14_isComb : Cond.selects mX14_isComb.1.cls mX14_isComb.1 mX14_isComb.1 ∈ lw_tbl := List.mem_of_getElem? (i := 101) (by decide +kernel)
def mX14_isInk : am_M := (yX14_isInk, cX14_isInk, 2, (Option.some Jvm.ClassFile.FieldType.boolean), 12, 1, false)
theorem mkX14_isInk : am_Mok mX14_isInk := ⟨List.mem_of_getElem? (i := 1915) (by decide +kernel), List.mem_of_getElem? (i := 125) (by decide +kernel), by decide +kernel, by decide +kernel, by decide +kernel⟩
theorem miX14_isInk : Cond.instanceMethod mX14_isInk.1 ∈ lw_tbl := List.mem_of_getElem? (i := 1914) (by decide +kernel)
theorem mvX14_isInk : Cond.selects mX14_isInk.1.cls mX14_isInk.1 mX14_isInk.1 ∈ lw_tbl := List.mem_of_getElem? (i := 98) (by decide +kernel)
def mX14_fade : am_M := (yX14_fade, cX14_fade, 1, (Option.some Jvm.ClassFile.FieldType.int), 12, 1, false)
theorem mkX14_fade : am_Mok mX14_fade := ⟨List.mem_of_getElem? (i := 1866) (by decide +kernel), List.mem_of_getElem? (i := 125) (by decide +kernel), by decide +kernel, by decide +kernel, by decide +kernel⟩
theorem msX14_fade : Cond.static mX14_fade.1 ∈ lw_tbl := List.mem_of_getElem? (i := 1865) (by decide +kernel)
def mX14_between : am_M := (yX14_between, cX14_between, 3, (Option.some Jvm.ClassFile.FieldType.int), 12, 3, false)
theorem mkX14_between : am_Mok mX14_between := ⟨List.mem_of_getElem? (i := 1870) (by decide +kernel), List.mem_of_getElem? (i := 125) (by decide +kernel), by decide +kernel, by decide +kernel, by decide +kernel⟩
theorem msX14_between : Cond.static mX14_between.1 ∈ lw_tbl := List.mem_of_getElem? (i := 1869) (by decide +kernel)
def mX14_both : am_M := (yX14_both, cX14_both, 3, (Option.some Jvm.ClassFile.FieldType.int), 12, 3, false)
theorem mkX14_both : am_Mok mX14_both := ⟨List.mem_of_getElem? (i := 2018) (by decide +kernel), List.mem_of_getElem? (i := 125) (by decide +kernel), by decide +kernel, by decide +kernel, by decide +kernel⟩
theorem msX14_both : Cond.static mX14_both.1 ∈ lw_tbl := List.mem_of_getElem? (i := 2017) (by decide +kernel)
def mX14_isLetter : am_M := (yX14_isLetter, cX14_isLetter, 1, (Option.some Jvm.ClassFile.FieldType.boolean), 12, 1, false)
theorem mkX14_isLetter : am_Mok mX14_isLetter := ⟨List.mem_of_getElem? (i := 1600) (by decide +kernel), List.mem_of_getElem? (i := 125) (by decide +kernel), by decide +kernel, by decide +kernel, by decide +kernel⟩
theorem msX14_isLetter : Cond.static mX14_isLetter.1 ∈ lw_tbl := List.mem_of_getElem? (i := 1599) (by decide +kernel)
def mX14_isDigit : am_M := (yX14_isDigit, cX14_isDigit, 1, (Option.some Jvm.ClassFile.FieldType.boolean), 12, 1, false)
theorem mkX14_isDigit : am_Mok mX14_isDigit := ⟨List.mem_of_getElem? (i := 1603) (by decide +kernel), List.mem_of_getElem? (i := 125) (by decide +kernel), by decide +kernel, by decide +kernel, by decide +kernel⟩
theorem msX14_isDigit : Cond.static mX14_isDigit.1 ∈ lw_tbl := List.mem_of_getElem? (i := 1602) (by decide +kernel)
def mX14_byteOf : am_M := (yX14_byteOf, cX14_byteOf, 2, (Option.some Jvm.ClassFile.FieldType.int), 12, 1, false)
theorem mkX14_byteOf : am_Mok mX14_byteOf := ⟨List.mem_of_getElem? (i := 1593) (by decide +kernel), List.mem_of_getElem? (i := 125) (by decide +kernel), by decide +kernel, by decide +kernel, by decide +kernel⟩
theorem miX14_byteOf : Cond.instanceMethod mX14_byteOf.1 ∈ lw_tbl := List.mem_of_getElem? (i := 1592) (by decide +kernel)
theorem mvX14_byteOf : Cond.selects mX14_byteOf.1.cls mX14_byteOf.1 mX14_byteOf.1 ∈ lw_tbl := List.mem_of_getElem? (i := 45) (by decide +kernel)
def mX14_kindAt : am_M := (yX14_kindAt, cX14_kindAt, 6, (Option.some Jvm.ClassFile.FieldType.int), 12, 2, false)
theorem mkX14_kindAt : am_Mok mX14_kindAt := ⟨List.mem_of_getElem? (i := 1597) (by decide +kernel), List.mem_of_getElem? (i := 125) (by decide +kernel), by decide +kernel, by decide +kernel, by decide +kernel⟩
theorem miX14_kindAt : Cond.instanceMethod mX14_kindAt.1 ∈ lw_tbl := List.mem_of_getElem? (i := 1596) (by decide +kernel)
theorem mvX14_kindAt : Cond.selects mX14_kindAt.1.cls mX14_kindAt.1 mX14_kindAt.1 ∈ lw_tbl := List.mem_of_getElem? (i := 46) (by decide +kernel)
def mX14_word : am_M := (yX14_word, cX14_word, 6, (Option.some Jvm.ClassFile.FieldType.int), 12, 2, false)
theorem mkX14_word : am_Mok mX14_word := ⟨List.mem_of_getElem? (i := 1607) (by decide +kernel), List.mem_of_getElem? (i := 125) (by decide +kernel), by decide +kernel, by decide +kernel, by decide +kernel⟩
theorem miX14_word : Cond.instanceMethod mX14_word.1 ∈ lw_tbl := List.mem_of_getElem? (i := 1606) (by decide +kernel)
theorem mvX14_word : Cond.selects mX14_word.1.cls mX14_word.1 mX14_word.1 ∈ lw_tbl := List.mem_of_getElem? (i := 47) (by decide +kernel)
def mX14_cut : am_M := (yX14_cut, cX14_cut, 3, none, 12, 0, false)
theorem mkX14_cut : am_Mok mX14_cut := ⟨List.mem_of_getElem? (i := 1589) (by decide +kernel), List.mem_of_getElem? (i := 125) (by decide +kernel), by decide +kernel, by decide +kernel, by decide +kernel⟩
theorem miX14_cut : Cond.instanceMethod mX14_cut.1 ∈ lw_tbl := List.mem_of_getElem? (i := 1588) (by decide +kernel)
theorem mvX14_cut : Cond.selects mX14_cut.1.cls mX14_cut.1 mX14_cut.1 ∈ lw_tbl := List.mem_of_getElem? (i := 44) (by decide +kernel)
def mX14_is : am_M := (yX14_is, cX14_is, 2, (Option.some Jvm.ClassFile.FieldType.boolean), 12, 1, false)
theorem mkX14_is : am_Mok mX14_is := ⟨List.mem_of_getElem? (i := 1621) (by decide +kernel), List.mem_of_getElem? (i := 125) (by decide +kernel), by decide +kernel, by decide +kernel, by decide +kernel⟩
theorem miX14_is : Cond.instanceMethod mX14_is.1 ∈ lw_tbl := List.mem_of_getElem? (i := 1620) (by decide +kernel)
theorem mvX14_is : Cond.selects mX14_is.1.cls mX14_is.1 mX14_is.1 ∈ lw_tbl := List.mem_of_getElem? (i := 49) (by decide +kernel)
def mX14_isSign : am_M := (yX14_isSign, cX14_isSign, 2, (Option.some Jvm.ClassFile.FieldType.boolean), 12, 1, false)
theorem mkX14_isSign : am_Mok mX14_isSign := ⟨List.mem_of_getElem? (i := 1686) (by decide +kernel), List.mem_of_getElem? (i := 125) (by decide +kernel), by decide +kernel, by decide +kernel, by decide +kernel⟩
theorem miX14_isSign : Cond.instanceMethod mX14_isSign.1 ∈ lw_tbl := List.mem_of_getElem? (i := 1685) (by decide +kernel)
theorem mvX14_isSign : Cond.selects mX14_isSign.1.cls mX14_isSign.1 mX14_isSign.1 ∈ lw_tbl := List.mem_of_getElem? (i := 65) (by decide +kernel)
def mX14_eat : am_M := (yX14_eat, cX14_eat, 2, (Option.some Jvm.ClassFile.FieldType.boolean), 12, 1, false)
theorem mkX14_eat : am_Mok mX14_eat := ⟨List.mem_of_getElem? (i := 1633) (by decide +kernel), List.mem_of_getElem? (i := 125) (by decide +kernel), by decide +kernel, by decide +kernel, by decide +kernel⟩
theorem miX14_eat : Cond.instanceMethod mX14_eat.1 ∈ lw_tbl := List.mem_of_getElem? (i := 1632) (by decide +kernel)
theorem mvX14_eat : Cond.selects mX14_eat.1.cls mX14_eat.1 mX14_eat.1 ∈ lw_tbl := List.mem_of_getElem? (i := 52) (by decide +kernel)
def mX14_eatSign : am_M := (yX14_eatSign, cX14_eatSign, 2, (Option.some Jvm.ClassFile.FieldType.boolean), 12, 1, false)
theorem mkX14_eatSign : am_Mok mX14_eatSign := ⟨List.mem_of_getElem? (i := 1698) (by decide +kernel), List.mem_of_getElem? (i := 125) (by decide +kernel), by decide +kernel, by decide +kernel, by decide +kernel⟩
theorem miX14_eatSign : Cond.instanceMethod mX14_eatSign.1 ∈ lw_tbl := List.mem_of_getElem? (i := 1697) (by decide +kernel)
theorem mvX14_eatSign : Cond.selects mX14_eatSign.1.cls mX14_eatSign.1 mX14_eatSign.1 ∈ lw_tbl := List.mem_of_getElem? (i := 68) (by decide +kernel)
def mX14_eatAs : am_M := (yX14_eatAs, cX14_eatAs, 3, (Option.some Jvm.ClassFile.FieldType.boolean), 12, 2, false)
theorem mkX14_eatAs : am_Mok mX14_eatAs := ⟨List.mem_of_getElem? (i := 1629) (by decide +kernel), List.mem_of_getElem? (i := 125) (by decide +kernel), by decide +kernel, by decide +kernel, by decide +kernel⟩
theorem miX14_eatAs : Cond.instanceMethod mX14_eatAs.1 ∈ lw_tbl := List.mem_of_getElem? (i := 1628) (by decide +kernel)
theorem mvX14_eatAs : Cond.selects mX14_eatAs.1.cls mX14_eatAs.1 mX14_eatAs.1 ∈ lw_tbl := List.mem_of_getElem? (i := 51) (by decide +kernel)
def mX14_put : am_M := (yX14_put, cX14_put, 2, none, 12, 1, false)
theorem mkX14_put : am_Mok mX14_put := ⟨List.mem_of_getElem? (i := 1670) (by decide +kernel), List.mem_of_getElem? (i := 125) (by decide +kernel), by decide +kernel, by decide +kernel, by decide +kernel⟩
theorem miX14_put : Cond.instanceMethod mX14_put.1 ∈ lw_tbl := List.mem_of_getElem? (i := 1669) (by decide +kernel)
theorem mvX14_put : Cond.selects mX14_put.1.cls mX14_put.1 mX14_put.1 ∈ lw_tbl := List.mem_of_getElem? (i := 61) (by decide +kernel)
def mX14_isPlan : am_M := (yX14_isPlan, cX14_isPlan, 2, (Option.some Jvm.ClassFile.FieldType.boolean), 12, 0, false)
theorem mkX14_isPlan : am_Mok mX14_isPlan := ⟨List.mem_of_getElem? (i := 1617) (by decide +kernel), List.mem_of_getElem? (i := 125) (by decide +kernel), by decide +kernel, by decide +kernel, by decide +kernel⟩
theorem miX14_isPlan : Cond.instanceMethod mX14_isPlan.1 ∈ lw_tbl := List.mem_of_getElem? (i := 1616) (by decide +kernel)
theorem mvX14_isPlan : Cond.selects mX14_isPlan.1.cls mX14_isPlan.1 mX14_isPlan.1 ∈ lw_tbl := List.mem_of_getElem? (i := 48) (by decide +kernel)
def mX14_isPaper : am_M := (yX14_isPaper, cX14_isPaper, 1, (Option.some Jvm.ClassFile.FieldType.boolean), 12, 0, false)
theorem mkX14_isPaper : am_Mok mX14_isPaper := ⟨List.mem_of_getElem? (i := 1625) (by decide +kernel), List.mem_of_getElem? (i := 125) (by decide +kernel), by decide +kernel, by decide +kernel, by decide +kernel⟩
theorem miX14_isPaper : Cond.instanceMethod mX14_isPaper.1 ∈ lw_tbl := List.mem_of_getElem? (i := 1624) (by decide +kernel)
theorem mvX14_isPaper : Cond.selects mX14_isPaper.1.cls mX14_isPaper.1 mX14_isPaper.1 ∈ lw_tbl := List.mem_of_getElem? (i := 50) (by decide +kernel)
def mX14_isOctaveLine : am_M := (yX14_isOctaveLine, cX14_isOctaveLine, 1, (Option.some Jvm.ClassFile.FieldType.boolean), 12, 0, false)
theorem mkX14_isOctaveLine : am_Mok mX14_isOctaveLine := ⟨List.mem_of_getElem? (i := 1637) (by decide +kernel), List.mem_of_getElem? (i := 125) (by decide +kernel), by decide +kernel, by decide +kernel, by decide +kernel⟩
theorem miX14_isOctaveLine : Cond.instanceMethod mX14_isOctaveLine.1 ∈ lw_tbl := List.mem_of_getElem? (i := 1636) (by decide +kernel)
theorem mvX14_isOctaveLine : Cond.selects mX14_isOctaveLine.1.cls mX14_isOctaveLine.1 mX14_isOctaveLine.1 ∈ lw_tbl := List.mem_of_getElem? (i := 53) (by decide +kernel)
def mX14_isWay : am_M := (yX14_isWay, cX14_isWay, 2, (Option.some Jvm.ClassFile.FieldType.boolean), 12, 1, false)
theorem mkX14_isWay : am_Mok mX14_isWay := ⟨List.mem_of_getElem? (i := 1645) (by decide +kernel), List.mem_of_getElem? (i := 125) (by decide +kernel), by decide +kernel, by decide +kernel, by decide +kernel⟩
theorem miX14_isWay : Cond.instanceMethod mX14_isWay.1 ∈ lw_tbl := List.mem_of_getElem? (i := 1644) (by decide +kernel)
theorem mvX14_isWay : Cond.selects mX14_isWay.1.cls mX14_isWay.1 mX14_isWay.1 ∈ lw_tbl := List.mem_of_getElem? (i := 55) (by decide +kernel)
def mX14_isCombLine : am_M := (yX14_isCombLine, cX14_isCombLine, 1, (Option.some Jvm.ClassFile.FieldType.boolean), 12, 0, false)
theorem mkX14_isCombLine : am_Mok mX14_isCombLine := ⟨List.mem_of_getElem? (i := 1641) (by decide +kernel), List.mem_of_getElem? (i := 125) (by decide +kernel), by decide +kernel, by decide +kernel, by decide +kernel⟩
theorem miX14_isCombLine : Cond.instanceMethod mX14_isCombLine.1 ∈ lw_tbl := List.mem_of_getElem? (i := 1640) (by decide +kernel)
theorem mvX14_isCombLine : Cond.selects mX14_isCombLine.1.cls mX14_isCombLine.1 mX14_isCombLine.1 ∈ lw_tbl := List.mem_of_getElem? (i := 54) (by decide +kernel)
def mX14_isInkLine : am_M := (yX14_isInkLine, cX14_isInkLine, 1, (Option.some Jvm.ClassFile.FieldType.boolean), 12, 0, false)
theorem mkX14_isInkLine : am_Mok mX14_isInkLine := ⟨List.mem_of_getElem? (i := 1649) (by decide +kernel), List.mem_of_getElem? (i := 125) (by decide +kernel), by decide +kernel, by decide +kernel, by decide +kernel⟩
theorem miX14_isInkLine : Cond.instanceMethod mX14_isInkLine.1 ∈ lw_tbl := List.mem_of_getElem? (i := 1648) (by decide +kernel)
theorem mvX14_isInkLine : Cond.selects mX14_isInkLine.1.cls mX14_isInkLine.1 mX14_isInkLine.1 ∈ lw_tbl := List.mem_of_getElem? (i := 56) (by decide +kernel)
def mX14_isOrderLine : am_M := (yX14_isOrderLine, cX14_isOrderLine, 4, (Option.some Jvm.ClassFile.FieldType.boolean), 12, 0, false)
theorem mkX14_isOrderLine : am_Mok mX14_isOrderLine := ⟨List.mem_of_getElem? (i := 1653) (by decide +kernel), List.mem_of_getElem? (i := 125) (by decide +kernel), by decide +kernel, by decide +kernel, by decide +kernel⟩
theorem miX14_isOrderLine : Cond.instanceMethod mX14_isOrderLine.1 ∈ lw_tbl := List.mem_of_getElem? (i := 1652) (by decide +kernel)
theorem mvX14_isOrderLine : Cond.selects mX14_isOrderLine.1.cls mX14_isOrderLine.1 mX14_isOrderLine.1 ∈ lw_tbl := List.mem_of_getElem? (i := 57) (by decide +kernel)
def mX14_isTest : am_M := (yX14_isTest, cX14_isTest, 1, (Option.some Jvm.ClassFile.FieldType.boolean), 12, 0, false)
theorem mkX14_isTest : am_Mok mX14_isTest := ⟨List.mem_of_getElem? (i := 1702) (by decide +kernel), List.mem_of_getElem? (i := 125) (by decide +kernel), by decide +kernel, by decide +kernel, by decide +kernel⟩
theorem miX14_isTest : Cond.instanceMethod mX14_isTest.1 ∈ lw_tbl := List.mem_of_getElem? (i := 1701) (by decide +kernel)
theorem mvX14_isTest : Cond.selects mX14_isTest.1.cls mX14_isTest.1 mX14_isTest.1 ∈ lw_tbl := List.mem_of_getElem? (i := 69) (by decide +kernel)
def mX14_isBoth : am_M := (yX14_isBoth, cX14_isBoth, 1, (Option.some Jvm.ClassFile.FieldType.boolean), 12, 0, false)
theorem mkX14_isBoth : am_Mok mX14_isBoth := ⟨List.mem_of_getElem? (i := 1706) (by decide +kernel), List.mem_of_getElem? (i := 125) (by decide +kernel), by decide +kernel, by decide +kernel, by decide +kernel⟩
theorem miX14_isBoth : Cond.instanceMethod mX14_isBoth.1 ∈ lw_tbl := List.mem_of_getElem? (i := 1705) (by decide +kernel)
theorem mvX14_isBoth : Cond.selects mX14_isBoth.1.cls mX14_isBoth.1 mX14_isBoth.1 ∈ lw_tbl := List.mem_of_getElem? (i := 70) (by decide +kernel)
def mX14_isDeeper : am_M := (yX14_isDeeper, cX14_isDeeper, 1, (Option.some Jvm.ClassFile.FieldType.boolean), 12, 0, false)
theorem mkX14_isDeeper : am_Mok mX14_isDeeper := ⟨List.mem_of_getElem? (i := 1690) (by decide +kernel), List.mem_of_getElem? (i := 125) (by decide +kernel), by decide +kernel, by decide +kernel, by decide +kernel⟩
theorem miX14_isDeeper : Cond.instanceMethod mX14_isDeeper.1 ∈ lw_tbl := List.mem_of_getElem? (i := 1689) (by decide +kernel)
theorem mvX14_isDeeper : Cond.selects mX14_isDeeper.1.cls mX14_isDeeper.1 mX14_isDeeper.1 ∈ lw_tbl := List.mem_of_getElem? (i := 66) (by decide +kernel)
def mX14_isName : am_M := (yX14_isName, cX14_isName, 2, (Option.some Jvm.ClassFile.FieldType.boolean), 12, 1, false)
theorem mkX14_isName : am_Mok mX14_isName := ⟨List.mem_of_getElem? (i := 1682) (by decide +kernel), List.mem_of_getElem? (i := 125) (by decide +kernel), by decide +kernel, by decide +kernel, by decide +kernel⟩
theorem miX14_isName : Cond.instanceMethod mX14_isName.1 ∈ lw_tbl := List.mem_of_getElem? (i := 1681) (by decide +kernel)
theorem mvX14_isName : Cond.selects mX14_isName.1.cls mX14_isName.1 mX14_isName.1 ∈ lw_tbl := List.mem_of_getElem? (i := 64) (by decide +kernel)
def mX14_isNamed : am_M := (yX14_isNamed, cX14_isNamed, 2, (Option.some Jvm.ClassFile.FieldType.boolean), 12, 1, false)
theorem mkX14_isNamed : am_Mok mX14_isNamed := ⟨List.mem_of_getElem? (i := 1678) (by decide +kernel), List.mem_of_getElem? (i := 125) (by decide +kernel), by decide +kernel, by decide +kernel, by decide +kernel⟩
theorem miX14_isNamed : Cond.instanceMethod mX14_isNamed.1 ∈ lw_tbl := List.mem_of_getElem? (i := 1677) (by decide +kernel)
theorem mvX14_isNamed : Cond.selects mX14_isNamed.1.cls mX14_isNamed.1 mX14_isNamed.1 ∈ lw_tbl := List.mem_of_getElem? (i := 63) (by decide +kernel)
def mX14_isSingle : am_M := (yX14_isSingle, cX14_isSingle, 2, (Option.some Jvm.ClassFile.FieldType.boolean), 12, 0, false)
theorem mkX14_isSingle : am_Mok mX14_isSingle := ⟨List.mem_of_getElem? (i := 1710) (by decide +kernel), List.mem_of_getElem? (i := 125) (by decide +kernel), by decide +kernel, by decide +kernel, by decide +kernel⟩
theorem miX14_isSingle : Cond.instanceMethod mX14_isSingle.1 ∈ lw_tbl := List.mem_of_getElem? (i := 1709) (by decide +kernel)
theorem mvX14_isSingle : Cond.selects mX14_isSingle.1.cls mX14_isSingle.1 mX14_isSingle.1 ∈ lw_tbl := List.mem_of_getElem? (i := 71) (by decide +kernel)
def mX14_isSum : am_M := (yX14_isSum, cX14_isSum, 2, (Option.some Jvm.ClassFile.FieldType.boolean), 12, 0, false)
theorem mkX14_isSum : am_Mok mX14_isSum := ⟨List.mem_of_getElem? (i := 1658) (by decide +kernel), List.mem_of_getElem? (i := 125) (by decide +kernel), by decide +kernel, by decide +kernel, by decide +kernel⟩
theorem miX14_isSum : Cond.instanceMethod mX14_isSum.1 ∈ lw_tbl := List.mem_of_getElem? (i := 1657) (by decide +kernel)
theorem mvX14_isSum : Cond.selects mX14_isSum.1.cls mX14_isSum.1 mX14_isSum.1 ∈ lw_tbl := List.mem_of_getElem? (i := 58) (by decide +kernel)
def mX14_isProduct : am_M := (yX14_isProduct, cX14_isProduct, 2, (Option.some Jvm.ClassFile.FieldType.boolean), 12, 0, false)
theorem mkX14_isProduct : am_Mok mX14_isProduct := ⟨List.mem_of_getElem? (i := 1662) (by decide +kernel), List.mem_of_getElem? (i := 125) (by decide +kernel), by decide +kernel, by decide +kernel, by decide +kernel⟩
theorem miX14_isProduct : Cond.instanceMethod mX14_isProduct.1 ∈ lw_tbl := List.mem_of_getElem? (i := 1661) (by decide +kernel)
theorem mvX14_isProduct : Cond.selects mX14_isProduct.1.cls mX14_isProduct.1 mX14_isProduct.1 ∈ lw_tbl := List.mem_of_getElem? (i := 59) (by decide +kernel)
def mX14_isInside : am_M := (yX14_isInside, cX14_isInside, 3, (Option.some Jvm.ClassFile.FieldType.boolean), 12, 2, false)
theorem mkX14_isInside : am_Mok mX14_isInside := ⟨List.mem_of_getElem? (i := 1694) (by decide +kernel), List.mem_of_getElem? (i := 125) (by decide +kernel), by decide +kernel, by decide +kernel, by decide +kernel⟩
theorem miX14_isInside : Cond.instanceMethod mX14_isInside.1 ∈ lw_tbl := List.mem_of_getElem? (i := 1693) (by decide +kernel)
theorem mvX14_isInside : Cond.selects mX14_isInside.1.cls mX14_isInside.1 mX14_isInside.1 ∈ lw_tbl := List.mem_of_getElem? (i := 67) (by decide +kernel)
def mX14_isValue : am_M := (yX14_isValue, cX14_isValue, 2, (Option.some Jvm.ClassFile.FieldType.boolean), 12, 0, false)
theorem mkX14_isValue : am_Mok mX14_isValue := ⟨List.mem_of_getElem? (i := 1666) (by decide +kernel), List.mem_of_getElem? (i := 125) (by decide +kernel), by decide +kernel, by decide +kernel, by decide +kernel⟩
theorem miX14_isValue : Cond.instanceMethod mX14_isValue.1 ∈ lw_tbl := List.mem_of_getElem? (i := 1665) (by decide +kernel)
theorem mvX14_isValue : Cond.selects mX14_isValue.1.cls mX14_isValue.1 mX14_isValue.1 ∈ lw_tbl := List.mem_of_getElem? (i := 60) (by decide +kernel)
def mX14_numberAt : am_M := (yX14_numberAt, cX14_numberAt, 4, (Option.some Jvm.ClassFile.FieldType.int), 12, 1, false)
theorem mkX14_numberAt : am_Mok mX14_numberAt := ⟨List.mem_of_getElem? (i := 1674) (by decide +kernel), List.mem_of_getElem? (i := 125) (by decide +kernel), by decide +kernel, by decide +kernel, by decide +kernel⟩
theorem miX14_numberAt : Cond.instanceMethod mX14_numberAt.1 ∈ lw_tbl := List.mem_of_getElem? (i := 1673) (by decide +kernel)
theorem mvX14_numberAt : Cond.selects mX14_numberAt.1.cls mX14_numberAt.1 mX14_numberAt.1 ∈ lw_tbl := List.mem_of_getElem? (i := 62) (by decide +kernel)
def mX14_isSame : am_M := (yX14_isSame, cX14_isSame, 4, (Option.some Jvm.ClassFile.FieldType.boolean), 12, 2, false)
theorem mkX14_isSame : am_Mok mX14_isSame := ⟨List.mem_of_getElem? (i := 1738) (by decide +kernel), List.mem_of_getElem? (i := 125) (by decide +kernel), by decide +kernel, by decide +kernel, by decide +kernel⟩
theorem miX14_isSame : Cond.instanceMethod mX14_isSame.1 ∈ lw_tbl := List.mem_of_getElem? (i := 1737) (by decide +kernel)
theorem mvX14_isSame : Cond.selects mX14_isSame.1.cls mX14_isSame.1 mX14_isSame.1 ∈ lw_tbl := List.mem_of_getElem? (i := 78) (by decide +kernel)
def mX14_told : am_M := (yX14_told, cX14_told, 5, (Option.some Jvm.ClassFile.FieldType.int), 12, 2, false)
theorem mkX14_told : am_Mok mX14_told := ⟨List.mem_of_getElem? (i := 1734) (by decide +kernel), List.mem_of_getElem? (i := 125) (by decide +kernel), by decide +kernel, by decide +kernel, by decide +kernel⟩
theorem miX14_told : Cond.instanceMethod mX14_told.1 ∈ lw_tbl := List.mem_of_getElem? (i := 1733) (by decide +kernel)
theorem mvX14_told : Cond.selects mX14_told.1.cls mX14_told.1 mX14_told.1 ∈ lw_tbl := List.mem_of_getElem? (i := 77) (by decide +kernel)
def mX14_look : am_M := (yX14_look, cX14_look, 3, (Option.some Jvm.ClassFile.FieldType.int), 12, 2, false)
theorem mkX14_look : am_Mok mX14_look := ⟨List.mem_of_getElem? (i := 1770) (by decide +kernel), List.mem_of_getElem? (i := 125) (by decide +kernel), by decide +kernel, by decide +kernel, by decide +kernel⟩
theorem miX14_look : Cond.instanceMethod mX14_look.1 ∈ lw_tbl := List.mem_of_getElem? (i := 1769) (by decide +kernel)
theorem mvX14_look : Cond.selects mX14_look.1.cls mX14_look.1 mX14_look.1 ∈ lw_tbl := List.mem_of_getElem? (i := 86) (by decide +kernel)
def mX14_isNew : am_M := (yX14_isNew, cX14_isNew, 4, (Option.some Jvm.ClassFile.FieldType.int), 12, 3, false)
theorem mkX14_isNew : am_Mok mX14_isNew := ⟨List.mem_of_getElem? (i := 1730) (by decide +kernel), List.mem_of_getElem? (i := 125) (by decide +kernel), by decide +kernel, by decide +kernel, by decide +kernel⟩
theorem miX14_isNew : Cond.instanceMethod mX14_isNew.1 ∈ lw_tbl := List.mem_of_getElem? (i := 1729) (by decide +kernel)
theorem mvX14_isNew : Cond.selects mX14_isNew.1.cls mX14_isNew.1 mX14_isNew.1 ∈ lw_tbl := List.mem_of_getElem? (i := 76) (by decide +kernel)
def mX14_inRange : am_M := (yX14_inRange, cX14_inRange, 4, (Option.some Jvm.ClassFile.FieldType.int), 12, 3, false)
theorem mkX14_inRange : am_Mok mX14_inRange := ⟨List.mem_of_getElem? (i := 1722) (by decide +kernel), List.mem_of_getElem? (i := 125) (by decide +kernel), by decide +kernel, by decide +kernel, by decide +kernel⟩
theorem miX14_inRange : Cond.instanceMethod mX14_inRange.1 ∈ lw_tbl := List.mem_of_getElem? (i := 1721) (by decide +kernel)
theorem mvX14_inRange : Cond.selects mX14_inRange.1.cls mX14_inRange.1 mX14_inRange.1 ∈ lw_tbl := List.mem_of_getElem? (i := 74) (by decide +kernel)
def mX14_newOctave : am_M := (yX14_newOctave, cX14_newOctave, 3, (Option.some Jvm.ClassFile.FieldType.int), 12, 1, false)
theorem mkX14_newOctave : am_Mok mX14_newOctave := ⟨List.mem_of_getElem? (i := 1726) (by decide +kernel), List.mem_of_getElem? (i := 125) (by decide +kernel), by decide +kernel, by decide +kernel, by decide +kernel⟩
theorem miX14_newOctave : Cond.instanceMethod mX14_newOctave.1 ∈ lw_tbl := List.mem_of_getElem? (i := 1725) (by decide +kernel)
theorem mvX14_newOctave : Cond.selects mX14_newOctave.1.cls mX14_newOctave.1 mX14_newOctave.1 ∈ lw_tbl := List.mem_of_getElem? (i := 75) (by decide +kernel)
def mX14_newComb : am_M := (yX14_newComb, cX14_newComb, 3, (Option.some Jvm.ClassFile.FieldType.int), 12, 1, false)
theorem mkX14_newComb : am_Mok mX14_newComb := ⟨List.mem_of_getElem? (i := 1746) (by decide +kernel), List.mem_of_getElem? (i := 125) (by decide +kernel), by decide +kernel, by decide +kernel, by decide +kernel⟩
theorem miX14_newComb : Cond.instanceMethod mX14_newComb.1 ∈ lw_tbl := List.mem_of_getElem? (i := 1745) (by decide +kernel)
theorem mvX14_newComb : Cond.selects mX14_newComb.1.cls mX14_newComb.1 mX14_newComb.1 ∈ lw_tbl := List.mem_of_getElem? (i := 80) (by decide +kernel)
def mX14_newInk : am_M := (yX14_newInk, cX14_newInk, 3, (Option.some Jvm.ClassFile.FieldType.int), 12, 1, false)
theorem mkX14_newInk : am_Mok mX14_newInk := ⟨List.mem_of_getElem? (i := 1754) (by decide +kernel), List.mem_of_getElem? (i := 125) (by decide +kernel), by decide +kernel, by decide +kernel, by decide +kernel⟩
theorem miX14_newInk : Cond.instanceMethod mX14_newInk.1 ∈ lw_tbl := List.mem_of_getElem? (i := 1753) (by decide +kernel)
theorem mvX14_newInk : Cond.selects mX14_newInk.1.cls mX14_newInk.1 mX14_newInk.1 ∈ lw_tbl := List.mem_of_getElem? (i := 82) (by decide +kernel)
def mX14_order : am_M := (yX14_order, cX14_order, 2, (Option.some Jvm.ClassFile.FieldType.int), 12, 1, false)
theorem mkX14_order : am_Mok mX14_order := ⟨List.mem_of_getElem? (i := 1762) (by decide +kernel), List.mem_of_getElem? (i := 125) (by decide +kernel), by decide +kernel, by decide +kernel, by decide +kernel⟩
theorem miX14_order : Cond.instanceMethod mX14_order.1 ∈ lw_tbl := List.mem_of_getElem? (i := 1761) (by decide +kernel)
theorem mvX14_order : Cond.selects mX14_order.1.cls mX14_order.1 mX14_order.1 ∈ lw_tbl := List.mem_of_getElem? (i := 84) (by decide +kernel)
def mX14_of : am_M := (yX14_of, cX14_of, 4, (Option.some Jvm.ClassFile.FieldType.int), 12, 2, false)
theorem mkX14_of : am_Mok mX14_of := ⟨List.mem_of_getElem? (i := 1766) (by decide +kernel), List.mem_of_getElem? (i := 125) (by decide +kernel), by decide +kernel, by decide +kernel, by decide +kernel⟩
theorem miX14_of : Cond.instanceMethod mX14_of.1 ∈ lw_tbl := List.mem_of_getElem? (i := 1765) (by decide +kernel)
theorem mvX14_of : Cond.selects mX14_of.1.cls mX14_of.1 mX14_of.1 ∈ lw_tbl := List.mem_of_getElem? (i := 85) (by decide +kernel)
def mX14_number : am_M := (yX14_number, cX14_number, 6, (Option.some Jvm.ClassFile.FieldType.int), 12, 5, false)
theorem mkX14_number : am_Mok mX14_number := ⟨List.mem_of_getElem? (i := 1742) (by decide +kernel), List.mem_of_getElem? (i := 125) (by decide +kernel), by decide +kernel, by decide +kernel, by decide +kernel⟩
theorem miX14_number : Cond.instanceMethod mX14_number.1 ∈ lw_tbl := List.mem_of_getElem? (i := 1741) (by decide +kernel)
theorem mvX14_number : Cond.selects mX14_number.1.cls mX14_number.1 mX14_number.1 ∈ lw_tbl := List.mem_of_getElem? (i := 79) (by decide +kernel)
def mX14_level : am_M := (yX14_level, cX14_level, 3, (Option.some Jvm.ClassFile.FieldType.int), 12, 1, false)
theorem mkX14_level : am_Mok mX14_level := ⟨List.mem_of_getElem? (i := 1758) (by decide +kernel), List.mem_of_getElem? (i := 125) (by decide +kernel), by decide +kernel, by decide +kernel, by decide +kernel⟩
theorem miX14_level : Cond.instanceMethod mX14_level.1 ∈ lw_tbl := List.mem_of_getElem? (i := 1757) (by decide +kernel)
theorem mvX14_level : Cond.selects mX14_level.1.cls mX14_level.1 mX14_level.1 ∈ lw_tbl := List.mem_of_getElem? (i := 83) (by decide +kernel)
def mX14_paper : am_M := (yX14_paper, cX14_paper, 3, (Option.some Jvm.ClassFile.FieldType.int), 12, 2, false)
theorem mkX14_paper : am_Mok mX14_paper := ⟨List.mem_of_getElem? (i := 1718) (by decide +kernel), List.mem_of_getElem? (i := 125) (by decide +kernel), by decide +kernel, by decide +kernel, by decide +kernel⟩
theorem miX14_paper : Cond.instanceMethod mX14_paper.1 ∈ lw_tbl := List.mem_of_getElem? (i := 1717) (by decide +kernel)
theorem mvX14_paper : Cond.selects mX14_paper.1.cls mX14_paper.1 mX14_paper.1 ∈ lw_tbl := List.mem_of_getElem? (i := 73) (by decide +kernel)
def mX14_way : am_M := (yX14_way, cX14_way, 2, (Option.some Jvm.ClassFile.FieldType.int), 12, 1, false)
theorem mkX14_way : am_Mok mX14_way := ⟨List.mem_of_getElem? (i := 1750) (by decide +kernel), List.mem_of_getElem? (i := 125) (by decide +kernel), by decide +kernel, by decide +kernel, by decide +kernel⟩
theorem miX14_way : Cond.instanceMethod mX14_way.1 ∈ lw_tbl := List.mem_of_getElem? (i := 1749) (by decide +kernel)
theorem mvX14_way : Cond.selects mX14_way.1.cls mX14_way.1 mX14_way.1 ∈ lw_tbl := List.mem_of_getElem? (i := 81) (by decide +kernel)
def mX14_errorOf : am_M := (yX14_errorOf, cX14_errorOf, 3, (Option.some Jvm.ClassFile.FieldType.int), 12, 1, false)
theorem mkX14_errorOf : am_Mok mX14_errorOf := ⟨List.mem_of_getElem? (i := 1714) (by decide +kernel), List.mem_of_getElem? (i := 125) (by decide +kernel), by decide +kernel, by decide +kernel, by decide +kernel⟩
theorem miX14_errorOf : Cond.instanceMethod mX14_errorOf.1 ∈ lw_tbl := List.mem_of_getElem? (i := 1713) (by decide +kernel)
theorem mvX14_errorOf : Cond.selects mX14_errorOf.1.cls mX14_errorOf.1 mX14_errorOf.1 ∈ lw_tbl := List.mem_of_getElem? (i := 72) (by decide +kernel)
def mX14_read : am_M := (yX14_read, cX14_read, 3, (Option.some Jvm.ClassFile.FieldType.int), 12, 0, false)
theorem mkX14_read : am_Mok mX14_read := ⟨List.mem_of_getElem? (i := 1585) (by decide +kernel), List.mem_of_getElem? (i := 125) (by decide +kernel), by decide +kernel, by decide +kernel, by decide +kernel⟩
theorem miX14_read : Cond.instanceMethod mX14_read.1 ∈ lw_tbl := List.mem_of_getElem? (i := 1584) (by decide +kernel)
theorem mvX14_read : Cond.selects mX14_read.1.cls mX14_read.1 mX14_read.1 ∈ lw_tbl := List.mem_of_getElem? (i := 43) (by decide +kernel)
def mX14_feed : am_M := (yX14_feed, cX14_feed, 8, (Option.some Jvm.ClassFile.FieldType.int), 12, 5, false)
theorem mkX14_feed : am_Mok mX14_feed := ⟨List.mem_of_getElem? (i := 1566) (by decide +kernel), List.mem_of_getElem? (i := 125) (by decide +kernel), by decide +kernel, by decide +kernel, by decide +kernel⟩
theorem miX14_feed : Cond.instanceMethod mX14_feed.1 ∈ lw_tbl := List.mem_of_getElem? (i := 1564) (by decide +kernel)
theorem mvX14_feed : Cond.selects mX14_feed.1.cls mX14_feed.1 mX14_feed.1 ∈ lw_tbl := List.mem_of_getElem? (i := 1565) (by decide +kernel)
def mX14_trim : am_M := (yX14_trim, cX14_trim, 2, (Option.some Jvm.ClassFile.FieldType.int), 12, 1, false)
theorem mkX14_trim : am_Mok mX14_trim := ⟨List.mem_of_getElem? (i := 1574) (by decide +kernel), List.mem_of_getElem? (i := 125) (by decide +kernel), by decide +kernel, by decide +kernel, by decide +kernel⟩
theorem miX14_trim : Cond.instanceMethod mX14_trim.1 ∈ lw_tbl := List.mem_of_getElem? (i := 1572) (by decide +kernel)
theorem mvX14_trim : Cond.selects mX14_trim.1.cls mX14_trim.1 mX14_trim.1 ∈ lw_tbl := List.mem_of_getElem? (i := 1573) (by decide +kernel)
def mX14_teach : am_M := (yX14_teach, cX14_teach, 2, (Option.some Jvm.ClassFile.FieldType.int), 12, 0, false)
theorem mkX14_teach : am_Mok mX14_teach := ⟨List.mem_of_getElem? (i := 1581) (by decide +kernel), List.mem_of_getElem? (i := 125) (by decide +kernel), by decide +kernel, by decide +kernel, by decide +kernel⟩
theorem miX14_teach : Cond.instanceMethod mX14_teach.1 ∈ lw_tbl := List.mem_of_getElem? (i := 1579) (by decide +kernel)
theorem mvX14_teach : Cond.selects mX14_teach.1.cls mX14_teach.1 mX14_teach.1 ∈ lw_tbl := List.mem_of_getElem? (i := 1580) (by decide +kernel)
def mX14_errorAt : am_M := (yX14_errorAt, cX14_errorAt, 1, (Option.some Jvm.ClassFile.FieldType.int), 12, 0, false)
theorem mkX14_errorAt : am_Mok mX14_errorAt := ⟨List.mem_of_getElem? (i := 1774) (by decide +kernel), List.mem_of_getElem? (i := 125) (by decide +kernel), by decide +kernel, by decide +kernel, by decide +kernel⟩
theorem miX14_errorAt : Cond.instanceMethod mX14_errorAt.1 ∈ lw_tbl := List.mem_of_getElem? (i := 1772) (by decide +kernel)
theorem mvX14_errorAt : Cond.selects mX14_errorAt.1.cls mX14_errorAt.1 mX14_errorAt.1 ∈ lw_tbl := List.mem_of_getElem? (i := 1773) (by decide +kernel)
def mX14_counted : am_M := (yX14_counted, cX14_counted, 3, (Option.some Jvm.ClassFile.FieldType.int), 12, 1, false)
theorem mkX14_counted : am_Mok mX14_counted := ⟨List.mem_of_getElem? (i := 1782) (by decide +kernel), List.mem_of_getElem? (i := 125) (by decide +kernel), by decide +kernel, by decide +kernel, by decide +kernel⟩
theorem miX14_counted : Cond.instanceMethod mX14_counted.1 ∈ lw_tbl := List.mem_of_getElem? (i := 1781) (by decide +kernel)
theorem mvX14_counted : Cond.selects mX14_counted.1.cls mX14_counted.1 mX14_counted.1 ∈ lw_tbl := List.mem_of_getElem? (i := 87) (by decide +kernel)
def mX14_count : am_M := (yX14_count, cX14_count, 2, (Option.some Jvm.ClassFile.FieldType.int), 12, 1, false)
theorem mkX14_count : am_Mok mX14_count := ⟨List.mem_of_getElem? (i := 1778) (by decide +kernel), List.mem_of_getElem? (i := 125) (by decide +kernel), by decide +kernel, by decide +kernel, by decide +kernel⟩
theorem miX14_count : Cond.instanceMethod mX14_count.1 ∈ lw_tbl := List.mem_of_getElem? (i := 1776) (by decide +kernel)
theorem mvX14_count : Cond.selects mX14_count.1.cls mX14_count.1 mX14_count.1 ∈ lw_tbl := List.mem_of_getElem? (i := 1777) (by decide +kernel)
def mX14_height : am_M := (yX14_height, cX14_height, 3, (Option.some Jvm.ClassFile.FieldType.int), 12, 2, false)
theorem mkX14_height : am_Mok mX14_height := ⟨List.mem_of_getElem? (i := 1887) (by decide +kernel), List.mem_of_getElem? (i := 125) (by decide +kernel), by decide +kernel, by decide +kernel, by decide +kernel⟩
theorem miX14_height : Cond.instanceMethod mX14_height.1 ∈ lw_tbl := List.mem_of_getElem? (i := 1885) (by decide +kernel)
theorem mvX14_height : Cond.selects mX14_height.1.cls mX14_height.1 mX14_height.1 ∈ lw_tbl := List.mem_of_getElem? (i := 1886) (by decide +kernel)
def mX14_ink : am_M := (yX14_ink, cX14_ink, 3, (Option.some Jvm.ClassFile.FieldType.int), 12, 2, false)
theorem mkX14_ink : am_Mok mX14_ink := ⟨List.mem_of_getElem? (i := 1893) (by decide +kernel), List.mem_of_getElem? (i := 125) (by decide +kernel), by decide +kernel, by decide +kernel, by decide +kernel⟩
theorem miX14_ink : Cond.instanceMethod mX14_ink.1 ∈ lw_tbl := List.mem_of_getElem? (i := 1891) (by decide +kernel)
theorem mvX14_ink : Cond.selects mX14_ink.1.cls mX14_ink.1 mX14_ink.1 ∈ lw_tbl := List.mem_of_getElem? (i := 1892) (by decide +kernel)
def mX14_patch : am_M := (yX14_patch, cX14_patch, 3, (Option.some Jvm.ClassFile.FieldType.int), 12, 2, false)
theorem mkX14_patch : am_Mok mX14_patch := ⟨List.mem_of_getElem? (i := 1898) (by decide +kernel), List.mem_of_getElem? (i := 125) (by decide +kernel), by decide +kernel, by decide +kernel, by decide +kernel⟩
theorem miX14_patch : Cond.instanceMethod mX14_patch.1 ∈ lw_tbl := List.mem_of_getElem? (i := 1896) (by decide +kernel)
theorem mvX14_patch : Cond.selects mX14_patch.1.cls mX14_patch.1 mX14_patch.1 ∈ lw_tbl := List.mem_of_getElem? (i := 1897) (by decide +kernel)
def mX14_whence : am_M := (yX14_whence, cX14_whence, 3, (Option.some Jvm.ClassFile.FieldType.int), 12, 2, false)
theorem mkX14_whence : am_Mok mX14_whence := ⟨List.mem_of_getElem? (i := 1906) (by decide +kernel), List.mem_of_getElem? (i := 125) (by decide +kernel), by decide +kernel, by decide +kernel, by decide +kernel⟩
theorem miX14_whence : Cond.instanceMethod mX14_whence.1 ∈ lw_tbl := List.mem_of_getElem? (i := 1904) (by decide +kernel)
theorem mvX14_whence : Cond.selects mX14_whence.1.cls mX14_whence.1 mX14_whence.1 ∈ lw_tbl := List.mem_of_getElem? (i := 1905) (by decide +kernel)
def mX14_share : am_M := (yX14_share, cX14_share, 2, (Option.some Jvm.ClassFile.FieldType.int), 12, 1, false)
theorem mkX14_share : am_Mok mX14_share := ⟨List.mem_of_getElem? (i := 1911) (by decide +kernel), List.mem_of_getElem? (i := 125) (by decide +kernel), by decide +kernel, by decide +kernel, by decide +kernel⟩
theorem miX14_share : Cond.instanceMethod mX14_share.1 ∈ lw_tbl := List.mem_of_getElem? (i := 1909) (by decide +kernel)
theorem mvX14_share : Cond.selects mX14_share.1.cls mX14_share.1 mX14_share.1 ∈ lw_tbl := List.mem_of_getElem? (i := 1910) (by decide +kernel)
def mX14_octaveTold : am_M := (yX14_octaveTold, cX14_octaveTold, 3, (Option.some Jvm.ClassFile.FieldType.int), 12, 2, false)
theorem mkX14_octaveTold : am_Mok mX14_octaveTold := ⟨List.mem_of_getElem? (i := 1931) (by decide +kernel), List.mem_of_getElem? (i := 125) (by decide +kernel), by decide +kernel, by decide +kernel, by decide +kernel⟩
theorem miX14_octaveTold : Cond.instanceMethod mX14_octaveTold.1 ∈ lw_tbl := List.mem_of_getElem? (i := 1930) (by decide +kernel)
theorem mvX14_octaveTold : Cond.selects mX14_octaveTold.1.cls mX14_octaveTold.1 mX14_octaveTold.1 ∈ lw_tbl := List.mem_of_getElem? (i := 100) (by decide +kernel)
def mX14_octave : am_M := (yX14_octave, cX14_octave, 3, (Option.some Jvm.ClassFile.FieldType.int), 12, 2, false)
theorem mkX14_octave : am_Mok mX14_octave := ⟨List.mem_of_getElem? (i := 1923) (by decide +kernel), List.mem_of_getElem? (i := 125) (by decide +kernel), by decide +kernel, by decide +kernel, by decide +kernel⟩
theorem miX14_octave : Cond.instanceMethod mX14_octave.1 ∈ lw_tbl := List.mem_of_getElem? (i := 1921) (by decide +kernel)
theorem mvX14_octave : Cond.selects mX14_octave.1.cls mX14_octave.1 mX14_octave.1 ∈ lw_tbl := List.mem_of_getElem? (i := 1922) (by decide +kernel)
def mX14_gradient : am_M := (yX14_gradient, cX14_gradient, 4, (Option.some Jvm.ClassFile.FieldType.int), 12, 3, false)
theorem mkX14_gradient : am_Mok mX14_gradient := ⟨List.mem_of_getElem? (i := 1935) (by decide +kernel), List.mem_of_getElem? (i := 125) (by decide +kernel), by decide +kernel, by decide +kernel, by decide +kernel⟩
theorem miX14_gradient : Cond.instanceMethod mX14_gradient.1 ∈ lw_tbl := List.mem_of_getElem? (i := 1933) (by decide +kernel)
theorem mvX14_gradient : Cond.selects mX14_gradient.1.cls mX14_gradient.1 mX14_gradient.1 ∈ lw_tbl := List.mem_of_getElem? (i := 1934) (by decide +kernel)
def mX14_value : am_M := (yX14_value, cX14_value, 4, (Option.some Jvm.ClassFile.FieldType.int), 12, 3, false)
theorem mkX14_value : am_Mok mX14_value := ⟨List.mem_of_getElem? (i := 1940) (by decide +kernel), List.mem_of_getElem? (i := 125) (by decide +kernel), by decide +kernel, by decide +kernel, by decide +kernel⟩
theorem miX14_value : Cond.instanceMethod mX14_value.1 ∈ lw_tbl := List.mem_of_getElem? (i := 1938) (by decide +kernel)
theorem mvX14_value : Cond.selects mX14_value.1.cls mX14_value.1 mX14_value.1 ∈ lw_tbl := List.mem_of_getElem? (i := 1939) (by decide +kernel)
def mX14_combTold : am_M := (yX14_combTold, cX14_combTold, 3, (Option.some Jvm.ClassFile.FieldType.int), 12, 2, false)
theorem mkX14_combTold : am_Mok mX14_combTold := ⟨List.mem_of_getElem? (i := 1953) (by decide +kernel), List.mem_of_getElem? (i := 125) (by decide +kernel), by decide +kernel, by decide +kernel, by decide +kernel⟩
theorem miX14_combTold : Cond.instanceMethod mX14_combTold.1 ∈ lw_tbl := List.mem_of_getElem? (i := 1952) (by decide +kernel)
theorem mvX14_combTold : Cond.selects mX14_combTold.1.cls mX14_combTold.1 mX14_combTold.1 ∈ lw_tbl := List.mem_of_getElem? (i := 102) (by decide +kernel)
def mX14_comb : am_M := (yX14_comb, cX14_comb, 3, (Option.some Jvm.ClassFile.FieldType.int), 12, 2, false)
theorem mkX14_comb : am_Mok mX14_comb := ⟨List.mem_of_getElem? (i := 1945) (by decide +kernel), List.mem_of_getElem? (i := 125) (by decide +kernel), by decide +kernel, by decide +kernel, by decide +kernel⟩
theorem miX14_comb : Cond.instanceMethod mX14_comb.1 ∈ lw_tbl := List.mem_of_getElem? (i := 1943) (by decide +kernel)
theorem mvX14_comb : Cond.selects mX14_comb.1.cls mX14_comb.1 mX14_comb.1 ∈ lw_tbl := List.mem_of_getElem? (i := 1944) (by decide +kernel)
def mX14_moves : am_M := (yX14_moves, cX14_moves, 3, (Option.some Jvm.ClassFile.FieldType.int), 12, 2, false)
theorem mkX14_moves : am_Mok mX14_moves := ⟨List.mem_of_getElem? (i := 1957) (by decide +kernel), List.mem_of_getElem? (i := 125) (by decide +kernel), by decide +kernel, by decide +kernel, by decide +kernel⟩
theorem miX14_moves : Cond.instanceMethod mX14_moves.1 ∈ lw_tbl := List.mem_of_getElem? (i := 1955) (by decide +kernel)
theorem mvX14_moves : Cond.selects mX14_moves.1.cls mX14_moves.1 mX14_moves.1 ∈ lw_tbl := List.mem_of_getElem? (i := 1956) (by decide +kernel)
def mX14_setPull : am_M := (yX14_setPull, cX14_setPull, 4, (Option.some Jvm.ClassFile.FieldType.int), 12, 2, false)
theorem mkX14_setPull : am_Mok mX14_setPull := ⟨List.mem_of_getElem? (i := 1962) (by decide +kernel), List.mem_of_getElem? (i := 125) (by decide +kernel), by decide +kernel, by decide +kernel, by decide +kernel⟩
theorem miX14_setPull : Cond.instanceMethod mX14_setPull.1 ∈ lw_tbl := List.mem_of_getElem? (i := 1960) (by decide +kernel)
theorem mvX14_setPull : Cond.selects mX14_setPull.1.cls mX14_setPull.1 mX14_setPull.1 ∈ lw_tbl := List.mem_of_getElem? (i := 1961) (by decide +kernel)
def mX14_setSeed : am_M := (yX14_setSeed, cX14_setSeed, 4, (Option.some Jvm.ClassFile.FieldType.int), 12, 2, false)
theorem mkX14_setSeed : am_Mok mX14_setSeed := ⟨List.mem_of_getElem? (i := 1970) (by decide +kernel), List.mem_of_getElem? (i := 125) (by decide +kernel), by decide +kernel, by decide +kernel, by decide +kernel⟩
theorem miX14_setSeed : Cond.instanceMethod mX14_setSeed.1 ∈ lw_tbl := List.mem_of_getElem? (i := 1968) (by decide +kernel)
theorem mvX14_setSeed : Cond.selects mX14_setSeed.1.cls mX14_setSeed.1 mX14_setSeed.1 ∈ lw_tbl := List.mem_of_getElem? (i := 1969) (by decide +kernel)
def mX14_drift : am_M := (yX14_drift, cX14_drift, 3, (Option.some Jvm.ClassFile.FieldType.int), 12, 2, false)
theorem mkX14_drift : am_Mok mX14_drift := ⟨List.mem_of_getElem? (i := 1978) (by decide +kernel), List.mem_of_getElem? (i := 125) (by decide +kernel), by decide +kernel, by decide +kernel, by decide +kernel⟩
theorem miX14_drift : Cond.instanceMethod mX14_drift.1 ∈ lw_tbl := List.mem_of_getElem? (i := 1976) (by decide +kernel)
theorem mvX14_drift : Cond.selects mX14_drift.1.cls mX14_drift.1 mX14_drift.1 ∈ lw_tbl := List.mem_of_getElem? (i := 1977) (by decide +kernel)
def mX14_dip : am_M := (yX14_dip, cX14_dip, 3, (Option.some Jvm.ClassFile.FieldType.int), 12, 1, false)
theorem mkX14_dip : am_Mok mX14_dip := ⟨List.mem_of_getElem? (i := 1986) (by decide +kernel), List.mem_of_getElem? (i := 125) (by decide +kernel), by decide +kernel, by decide +kernel, by decide +kernel⟩
theorem miX14_dip : Cond.instanceMethod mX14_dip.1 ∈ lw_tbl := List.mem_of_getElem? (i := 1984) (by decide +kernel)
theorem mvX14_dip : Cond.selects mX14_dip.1.cls mX14_dip.1 mX14_dip.1 ∈ lw_tbl := List.mem_of_getElem? (i := 1985) (by decide +kernel)
def mX14_foresee : am_M := (yX14_foresee, cX14_foresee, 3, (Option.some Jvm.ClassFile.FieldType.int), 12, 2, false)
theorem mkX14_foresee : am_Mok mX14_foresee := ⟨List.mem_of_getElem? (i := 2030) (by decide +kernel), List.mem_of_getElem? (i := 125) (by decide +kernel), by decide +kernel, by decide +kernel, by decide +kernel⟩
theorem miX14_foresee : Cond.instanceMethod mX14_foresee.1 ∈ lw_tbl := List.mem_of_getElem? (i := 2028) (by decide +kernel)
theorem mvX14_foresee : Cond.selects mX14_foresee.1.cls mX14_foresee.1 mX14_foresee.1 ∈ lw_tbl := List.mem_of_getElem? (i := 2029) (by decide +kernel)
def mX14_until : am_M := (yX14_until, cX14_until, 5, (Option.some Jvm.ClassFile.FieldType.int), 12, 3, false)
theorem mkX14_until : am_Mok mX14_until := ⟨List.mem_of_getElem? (i := 2039) (by decide +kernel), List.mem_of_getElem? (i := 125) (by decide +kernel), by decide +kernel, by decide +kernel, by decide +kernel⟩
theorem miX14_until : Cond.instanceMethod mX14_until.1 ∈ lw_tbl := List.mem_of_getElem? (i := 2037) (by decide +kernel)
theorem mvX14_until : Cond.selects mX14_until.1.cls mX14_until.1 mX14_until.1 ∈ lw_tbl := List.mem_of_getElem? (i := 2038) (by decide +kernel)
def mX14_advise : am_M := (yX14_advise, cX14_advise, 6, (Option.some Jvm.ClassFile.FieldType.int), 12, 1, false)
theorem mkX14_advise : am_Mok mX14_advise := ⟨List.mem_of_getElem? (i := 2044) (by decide +kernel), List.mem_of_getElem? (i := 125) (by decide +kernel), by decide +kernel, by decide +kernel, by decide +kernel⟩
theorem miX14_advise : Cond.instanceMethod mX14_advise.1 ∈ lw_tbl := List.mem_of_getElem? (i := 2042) (by decide +kernel)
theorem mvX14_advise : Cond.selects mX14_advise.1.cls mX14_advise.1 mX14_advise.1 ∈ lw_tbl := List.mem_of_getElem? (i := 2043) (by decide +kernel)
def mX14_mean : am_M := (yX14_mean, cX14_mean, 3, (Option.some Jvm.ClassFile.FieldType.double), 12, 0, false)
theorem mkX14_mean : am_Mok mX14_mean := ⟨List.mem_of_getElem? (i := 2049) (by decide +kernel), List.mem_of_getElem? (i := 125) (by decide +kernel), by decide +kernel, by decide +kernel, by decide +kernel⟩
theorem miX14_mean : Cond.instanceMethod mX14_mean.1 ∈ lw_tbl := List.mem_of_getElem? (i := 2047) (by decide +kernel)
theorem mvX14_mean : Cond.selects mX14_mean.1.cls mX14_mean.1 mX14_mean.1 ∈ lw_tbl := List.mem_of_getElem? (i := 2048) (by decide +kernel)
def mX14_digest : am_M := (yX14_digest, cX14_digest, 5, (Option.some Jvm.ClassFile.FieldType.long), 12, 0, false)
theorem mkX14_digest : am_Mok mX14_digest := ⟨List.mem_of_getElem? (i := 2054) (by decide +kernel), List.mem_of_getElem? (i := 125) (by decide +kernel), by decide +kernel, by decide +kernel, by decide +kernel⟩
theorem miX14_digest : Cond.instanceMethod mX14_digest.1 ∈ lw_tbl := List.mem_of_getElem? (i := 2052) (by decide +kernel)
theorem mvX14_digest : Cond.selects mX14_digest.1.cls mX14_digest.1 mX14_digest.1 ∈ lw_tbl := List.mem_of_getElem? (i := 2053) (by decide +kernel)
def mJ11_isValidCodePoint_9a6ad : am_M := (yJ11_isValidCodePoint_9a6ad, cJ11_isValidCodePoint_9a6ad, 2, (Option.some Jvm.ClassFile.FieldType.boolean), 22, 1, false)
theorem mkJ11_isValidCodePoint_9a6ad : am_Mok mJ11_isValidCodePoint_9a6ad := ⟨List.mem_of_getElem? (i := 643) (by decide +kernel), List.mem_of_getElem? (i := 133) (by decide +kernel), by decide +kernel, by decide +kernel, by decide +kernel⟩
theorem msJ11_isValidCodePoint_9a6ad : Cond.static mJ11_isValidCodePoint_9a6ad.1 ∈ lw_tbl := List.mem_of_getElem? (i := 642) (by decide +kernel)
def mJ11_highSurrogate_5068e : am_M := (yJ11_highSurrogate_5068e, cJ11_highSurrogate_5068e, 1, (Option.some Jvm.ClassFile.FieldType.char), 22, 1, false)
theorem mkJ11_highSurrogate_5068e : am_Mok mJ11_highSurrogate_5068e := ⟨List.mem_of_getElem? (i := 646) (by decide +kernel), List.mem_of_getElem? (i := 133) (by decide +kernel), by decide +kernel, by decide +kernel, by decide +kernel⟩
theorem msJ11_highSurrogate_5068e : Cond.static mJ11_highSurrogate_5068e.1 ∈ lw_tbl := List.mem_of_getElem? (i := 645) (by decide +kernel)
def mJ11_lowSurrogate_5068e : am_M := (yJ11_lowSurrogate_5068e, cJ11_lowSurrogate_5068e, 1, (Option.some Jvm.ClassFile.FieldType.char), 22, 1, false)
theorem mkJ11_lowSurrogate_5068e : am_Mok mJ11_lowSurrogate_5068e := ⟨List.mem_of_getElem? (i := 650) (by decide +kernel), List.mem_of_getElem? (i := 133) (by decide +kernel), by decide +kernel, by decide +kernel, by decide +kernel⟩
theorem msJ11_lowSurrogate_5068e : Cond.static mJ11_lowSurrogate_5068e.1 ∈ lw_tbl := List.mem_of_getElem? (i := 649) (by decide +kernel)
def mJ9_floorMod_7cf53 : am_M := (yJ9_floorMod_7cf53, cJ9_floorMod_7cf53, 3, (Option.some Jvm.ClassFile.FieldType.int), 20, 2, false)
theorem mkJ9_floorMod_7cf53 : am_Mok mJ9_floorMod_7cf53 := ⟨List.mem_of_getElem? (i := 1817) (by decide +kernel), List.mem_of_getElem? (i := 121) (by decide +kernel), by decide +kernel, by decide +kernel, by decide +kernel⟩
theorem msJ9_floorMod_7cf53 : Cond.static mJ9_floorMod_7cf53.1 ∈ lw_tbl := List.mem_of_getElem? (i := 1816) (by decide +kernel)
def mJ9_floorMod_f86c9 : am_M := (yJ9_floorMod_f86c9, cJ9_floorMod_f86c9, 6, (Option.some Jvm.ClassFile.FieldType.long), 20, 2, false)
theorem mkJ9_floorMod_f86c9 : am_Mok mJ9_floorMod_f86c9 := ⟨List.mem_of_getElem? (i := 861) (by decide +kernel), List.mem_of_getElem? (i := 121) (by decide +kernel), by decide +kernel, by decide +kernel, by decide +kernel⟩
theorem msJ9_floorMod_f86c9 : Cond.static mJ9_floorMod_f86c9.1 ∈ lw_tbl := List.mem_of_getElem? (i := 860) (by decide +kernel)
def mJ9_max_7cf53 : am_M := (yJ9_max_7cf53, cJ9_max_7cf53, 2, (Option.some Jvm.ClassFile.FieldType.int), 20, 2, false)
theorem mkJ9_max_7cf53 : am_Mok mJ9_max_7cf53 := ⟨List.mem_of_getElem? (i := 386) (by decide +kernel), List.mem_of_getElem? (i := 121) (by decide +kernel), by decide +kernel, by decide +kernel, by decide +kernel⟩
theorem msJ9_max_7cf53 : Cond.static mJ9_max_7cf53.1 ∈ lw_tbl := List.mem_of_getElem? (i := 385) (by decide +kernel)
def mJ9_min_7cf53 : am_M := (yJ9_min_7cf53, cJ9_min_7cf53, 2, (Option.some Jvm.ClassFile.FieldType.int), 20, 2, false)
theorem mkJ9_min_7cf53 : am_Mok mJ9_min_7cf53 := ⟨List.mem_of_getElem? (i := 613) (by decide +kernel), List.mem_of_getElem? (i := 121) (by decide +kernel), by decide +kernel, by decide +kernel, by decide +kernel⟩
theorem msJ9_min_7cf53 : Cond.static mJ9_min_7cf53.1 ∈ lw_tbl := List.mem_of_getElem? (i := 612) (by decide +kernel)
def mJ0_length_8abf5 : am_M := (yJ0_length_8abf5, cJ0_length_8abf5, 1, (Option.some Jvm.ClassFile.FieldType.int), 16, 0, false)
theorem mkJ0_length_8abf5 : am_Mok mJ0_length_8abf5 := ⟨List.mem_of_getElem? (i := 155) (by decide +kernel), List.mem_of_getElem? (i := 112) (by decide +kernel), by decide +kernel, by decide +kernel, by decide +kernel⟩
theorem miJ0_length_8abf5 : Cond.instanceMethod mJ0_length_8abf5.1 ∈ lw_tbl := List.mem_of_getElem? (i := 153) (by decide +kernel)
theorem mvJ0_length_8abf5 : Cond.selects mJ0_length_8abf5.1.cls mJ0_length_8abf5.1 mJ0_length_8abf5.1 ∈ lw_tbl := List.mem_of_getElem? (i := 154) (by decide +kernel)
def mJ0_charAt_5068e : am_M := (yJ0_charAt_5068e, cJ0_charAt_5068e, 2, (Option.some Jvm.ClassFile.FieldType.char), 16, 1, false)
theorem mkJ0_charAt_5068e : am_Mok mJ0_charAt_5068e := ⟨List.mem_of_getElem? (i := 165) (by decide +kernel), List.mem_of_getElem? (i := 112) (by decide +kernel), by decide +kernel, by decide +kernel, by decide +kernel⟩
theorem miJ0_charAt_5068e : Cond.instanceMethod mJ0_charAt_5068e.1 ∈ lw_tbl := List.mem_of_getElem? (i := 163) (by decide +kernel)
theorem mvJ0_charAt_5068e : Cond.selects mJ0_charAt_5068e.1.cls mJ0_charAt_5068e.1 mJ0_charAt_5068e.1 ∈ lw_tbl := List.mem_of_getElem? (i := 164) (by decide +kernel)
def mJ0_indexOf_0f7a4 : am_M := (yJ0_indexOf_0f7a4, cJ0_indexOf_0f7a4, 2, (Option.some Jvm.ClassFile.FieldType.int), 16, 1, false)
theorem mkJ0_indexOf_0f7a4 : am_Mok mJ0_indexOf_0f7a4 := ⟨List.mem_of_getElem? (i := 598) (by decide +kernel), List.mem_of_getElem? (i := 112) (by decide +kernel), by decide +kernel, by decide +kernel, by decide +kernel⟩
theorem miJ0_indexOf_0f7a4 : Cond.instanceMethod mJ0_indexOf_0f7a4.1 ∈ lw_tbl := List.mem_of_getElem? (i := 596) (by decide +kernel)
theorem mvJ0_indexOf_0f7a4 : Cond.selects mJ0_indexOf_0f7a4.1.cls mJ0_indexOf_0f7a4.1 mJ0_indexOf_0f7a4.1 ∈ lw_tbl := List.mem_of_getElem? (i := 597) (by decide +kernel)
def mJ0_indexOf_7cf53 : am_M := (yJ0_indexOf_7cf53, cJ0_indexOf_7cf53, 3, (Option.some Jvm.ClassFile.FieldType.int), 16, 2, false)
theorem mkJ0_indexOf_7cf53 : am_Mok mJ0_indexOf_7cf53 := ⟨List.mem_of_getElem? (i := 602) (by decide +kernel), List.mem_of_getElem? (i := 112) (by decide +kernel), by decide +kernel, by decide +kernel, by decide +kernel⟩
theorem miJ0_indexOf_7cf53 : Cond.instanceMethod mJ0_indexOf_7cf53.1 ∈ lw_tbl := List.mem_of_getElem? (i := 600) (by decide +kernel)
theorem mvJ0_indexOf_7cf53 : Cond.selects mJ0_indexOf_7cf53.1.cls mJ0_indexOf_7cf53.1 mJ0_indexOf_7cf53.1 ∈ lw_tbl := List.mem_of_getElem? (i := 601) (by decide +kernel)
def mJ0_coder_7d493 : am_M := (yJ0_coder_7d493, cJ0_coder_7d493, 1, (Option.some Jvm.ClassFile.FieldType.byte), 16, 0, false)
theorem mkJ0_coder_7d493 : am_Mok mJ0_coder_7d493 := ⟨List.mem_of_getElem? (i := 159) (by decide +kernel), List.mem_of_getElem? (i := 112) (by decide +kernel), by decide +kernel, by decide +kernel, by decide +kernel⟩
theorem miJ0_coder_7d493 : Cond.instanceMethod mJ0_coder_7d493.1 ∈ lw_tbl := List.mem_of_getElem? (i := 157) (by decide +kernel)
theorem mvJ0_coder_7d493 : Cond.selects mJ0_coder_7d493.1.cls mJ0_coder_7d493.1 mJ0_coder_7d493.1 ∈ lw_tbl := List.mem_of_getElem? (i := 158) (by decide +kernel)
def mJ0_isLatin1_aae02 : am_M := (yJ0_isLatin1_aae02, cJ0_isLatin1_aae02, 1, (Option.some Jvm.ClassFile.FieldType.boolean), 16, 0, false)
theorem mkJ0_isLatin1_aae02 : am_Mok mJ0_isLatin1_aae02 := ⟨List.mem_of_getElem? (i := 169) (by decide +kernel), List.mem_of_getElem? (i := 112) (by decide +kernel), by decide +kernel, by decide +kernel, by decide +kernel⟩
theorem miJ0_isLatin1_aae02 : Cond.instanceMethod mJ0_isLatin1_aae02.1 ∈ lw_tbl := List.mem_of_getElem? (i := 167) (by decide +kernel)
theorem mvJ0_isLatin1_aae02 : Cond.selects mJ0_isLatin1_aae02.1.cls mJ0_isLatin1_aae02.1 mJ0_isLatin1_aae02.1 ∈ lw_tbl := List.mem_of_getElem? (i := 168) (by decide +kernel)
def mJ0_checkIndex_df160 : am_M := (yJ0_checkIndex_df160, cJ0_checkIndex_df160, 2, none, 16, 2, false)
theorem mkJ0_checkIndex_df160 : am_Mok mJ0_checkIndex_df160 := ⟨List.mem_of_getElem? (i := 175) (by decide +kernel), List.mem_of_getElem? (i := 112) (by decide +kernel), by decide +kernel, by decide +kernel, by decide +kernel⟩
theorem msJ0_checkIndex_df160 : Cond.static mJ0_checkIndex_df160.1 ∈ lw_tbl := List.mem_of_getElem? (i := 174) (by decide +kernel)
def mJ0_checkBoundsBeginEnd_23922 : am_M := (yJ0_checkBoundsBeginEnd_23922, cJ0_checkBoundsBeginEnd_23922, 3, none, 16, 3, false)
theorem mkJ0_checkBoundsBeginEnd_23922 : am_Mok mJ0_checkBoundsBeginEnd_23922 := ⟨List.mem_of_getElem? (i := 631) (by decide +kernel), List.mem_of_getElem? (i := 112) (by decide +kernel), by decide +kernel, by decide +kernel, by decide +kernel⟩
theorem msJ0_checkBoundsBeginEnd_23922 : Cond.static mJ0_checkBoundsBeginEnd_23922.1 ∈ lw_tbl := List.mem_of_getElem? (i := 630) (by decide +kernel)
def mJ1_charAt_3b067 : am_M := (yJ1_charAt_3b067, cJ1_charAt_3b067, 2, (Option.some Jvm.ClassFile.FieldType.char), 17, 2, false)
theorem mkJ1_charAt_3b067 : am_Mok mJ1_charAt_3b067 := ⟨List.mem_of_getElem? (i := 172) (by decide +kernel), List.mem_of_getElem? (i := 113) (by decide +kernel), by decide +kernel, by decide +kernel, by decide +kernel⟩
theorem msJ1_charAt_3b067 : Cond.static mJ1_charAt_3b067.1 ∈ lw_tbl := List.mem_of_getElem? (i := 171) (by decide +kernel)
def mJ1_canEncode_9a6ad : am_M := (yJ1_canEncode_9a6ad, cJ1_canEncode_9a6ad, 1, (Option.some Jvm.ClassFile.FieldType.boolean), 17, 1, false)
theorem mkJ1_canEncode_9a6ad : am_Mok mJ1_canEncode_9a6ad := ⟨List.mem_of_getElem? (i := 609) (by decide +kernel), List.mem_of_getElem? (i := 113) (by decide +kernel), by decide +kernel, by decide +kernel, by decide +kernel⟩
theorem msJ1_canEncode_9a6ad : Cond.static mJ1_canEncode_9a6ad.1 ∈ lw_tbl := List.mem_of_getElem? (i := 608) (by decide +kernel)
def mJ1_indexOf_4cfef : am_M := (yJ1_indexOf_4cfef, cJ1_indexOf_4cfef, 4, (Option.some Jvm.ClassFile.FieldType.int), 17, 4, false)
theorem mkJ1_indexOf_4cfef : am_Mok mJ1_indexOf_4cfef := ⟨List.mem_of_getElem? (i := 606) (by decide +kernel), List.mem_of_getElem? (i := 113) (by decide +kernel), by decide +kernel, by decide +kernel, by decide +kernel⟩
theorem msJ1_indexOf_4cfef : Cond.static mJ1_indexOf_4cfef.1 ∈ lw_tbl := List.mem_of_getElem? (i := 605) (by decide +kernel)
def mJ1_indexOfChar_4cfef : am_M := (yJ1_indexOfChar_4cfef, cJ1_indexOfChar_4cfef, 6, (Option.some Jvm.ClassFile.FieldType.int), 17, 4, false)
theorem mkJ1_indexOfChar_4cfef : am_Mok mJ1_indexOfChar_4cfef := ⟨List.mem_of_getElem? (i := 616) (by decide +kernel), List.mem_of_getElem? (i := 113) (by decide +kernel), by decide +kernel, by decide +kernel, by decide +kernel⟩
theorem msJ1_indexOfChar_4cfef : Cond.static mJ1_indexOfChar_4cfef.1 ∈ lw_tbl := List.mem_of_getElem? (i := 615) (by decide +kernel)
def mJ2_getChar_3b067 : am_M := (yJ2_getChar_3b067, cJ2_getChar_3b067, 2, (Option.some Jvm.ClassFile.FieldType.char), 18, 2, false)
theorem mkJ2_getChar_3b067 : am_Mok mJ2_getChar_3b067 := ⟨List.mem_of_getElem? (i := 193) (by decide +kernel), List.mem_of_getElem? (i := 115) (by decide +kernel), by decide +kernel, by decide +kernel, by decide +kernel⟩
theorem msJ2_getChar_3b067 : Cond.static mJ2_getChar_3b067.1 ∈ lw_tbl := List.mem_of_getElem? (i := 192) (by decide +kernel)
def mJ2_length_9d52b : am_M := (yJ2_length_9d52b, cJ2_length_9d52b, 1, (Option.some Jvm.ClassFile.FieldType.int), 18, 1, false)
theorem mkJ2_length_9d52b : am_Mok mJ2_length_9d52b := ⟨List.mem_of_getElem? (i := 189) (by decide +kernel), List.mem_of_getElem? (i := 115) (by decide +kernel), by decide +kernel, by decide +kernel, by decide +kernel⟩
theorem msJ2_length_9d52b : Cond.static mJ2_length_9d52b.1 ∈ lw_tbl := List.mem_of_getElem? (i := 188) (by decide +kernel)
def mJ2_indexOf_4cfef : am_M := (yJ2_indexOf_4cfef, cJ2_indexOf_4cfef, 4, (Option.some Jvm.ClassFile.FieldType.int), 18, 4, false)
theorem mkJ2_indexOf_4cfef : am_Mok mJ2_indexOf_4cfef := ⟨List.mem_of_getElem? (i := 619) (by decide +kernel), List.mem_of_getElem? (i := 115) (by decide +kernel), by decide +kernel, by decide +kernel, by decide +kernel⟩
theorem msJ2_indexOf_4cfef : Cond.static mJ2_indexOf_4cfef.1 ∈ lw_tbl := List.mem_of_getElem? (i := 618) (by decide +kernel)
def mJ2_indexOfChar_4cfef : am_M := (yJ2_indexOfChar_4cfef, cJ2_indexOfChar_4cfef, 4, (Option.some Jvm.ClassFile.FieldType.int), 18, 4, false)
theorem mkJ2_indexOfChar_4cfef : am_Mok mJ2_indexOfChar_4cfef := ⟨List.mem_of_getElem? (i := 625) (by decide +kernel), List.mem_of_getElem? (i := 115) (by decide +kernel), by decide +kernel, by decide +kernel, by decide +kernel⟩
theorem msJ2_indexOfChar_4cfef : Cond.static mJ2_indexOfChar_4cfef.1 ∈ lw_tbl := List.mem_of_getElem? (i := 624) (by decide +kernel)
def mJ2_indexOfCharUnsafe_4cfef : am_M := (yJ2_indexOfCharUnsafe_4cfef, cJ2_indexOfCharUnsafe_4cfef, 5, (Option.some Jvm.ClassFile.FieldType.int), 18, 4, false)
theorem mkJ2_indexOfCharUnsafe_4cfef : am_Mok mJ2_indexOfCharUnsafe_4cfef := ⟨List.mem_of_getElem? (i := 637) (by decide +kernel), List.mem_of_getElem? (i := 115) (by decide +kernel), by decide +kernel, by decide +kernel, by decide +kernel⟩
theorem msJ2_indexOfCharUnsafe_4cfef : Cond.static mJ2_indexOfCharUnsafe_4cfef.1 ∈ lw_tbl := List.mem_of_getElem? (i := 636) (by decide +kernel)
def mJ2_indexOfSupplementary_4cfef : am_M := (yJ2_indexOfSupplementary_4cfef, cJ2_indexOfSupplementary_4cfef, 7, (Option.some Jvm.ClassFile.FieldType.int), 18, 4, false)
theorem mkJ2_indexOfSupplementary_4cfef : am_Mok mJ2_indexOfSupplementary_4cfef := ⟨List.mem_of_getElem? (i := 640) (by decide +kernel), List.mem_of_getElem? (i := 115) (by decide +kernel), by decide +kernel, by decide +kernel, by decide +kernel⟩
theorem msJ2_indexOfSupplementary_4cfef : Cond.static mJ2_indexOfSupplementary_4cfef.1 ∈ lw_tbl := List.mem_of_getElem? (i := 639) (by decide +kernel)
def mJ2_charAt_3b067 : am_M := (yJ2_charAt_3b067, cJ2_charAt_3b067, 2, (Option.some Jvm.ClassFile.FieldType.char), 18, 2, false)
theorem mkJ2_charAt_3b067 : am_Mok mJ2_charAt_3b067 := ⟨List.mem_of_getElem? (i := 183) (by decide +kernel), List.mem_of_getElem? (i := 115) (by decide +kernel), by decide +kernel, by decide +kernel, by decide +kernel⟩
theorem msJ2_charAt_3b067 : Cond.static mJ2_charAt_3b067.1 ∈ lw_tbl := List.mem_of_getElem? (i := 182) (by decide +kernel)
def mJ2_checkIndex_2214a : am_M := (yJ2_checkIndex_2214a, cJ2_checkIndex_2214a, 2, none, 18, 2, false)
theorem mkJ2_checkIndex_2214a : am_Mok mJ2_checkIndex_2214a := ⟨List.mem_of_getElem? (i := 186) (by decide +kernel), List.mem_of_getElem? (i := 115) (by decide +kernel), by decide +kernel, by decide +kernel, by decide +kernel⟩
theorem msJ2_checkIndex_2214a : Cond.static mJ2_checkIndex_2214a.1 ∈ lw_tbl := List.mem_of_getElem? (i := 185) (by decide +kernel)
def mJ2_checkBoundsBeginEnd_d044e : am_M := (yJ2_checkBoundsBeginEnd_d044e, cJ2_checkBoundsBeginEnd_d044e, 3, none, 18, 3, false)
theorem mkJ2_checkBoundsBeginEnd_d044e : am_Mok mJ2_checkBoundsBeginEnd_d044e := ⟨List.mem_of_getElem? (i := 628) (by decide +kernel), List.mem_of_getElem? (i := 115) (by decide +kernel), by decide +kernel, by decide +kernel, by decide +kernel⟩
theorem msJ2_checkBoundsBeginEnd_d044e : Cond.static mJ2_checkBoundsBeginEnd_d044e.1 ∈ lw_tbl := List.mem_of_getElem? (i := 627) (by decide +kernel)
def mJ3_checkIndex_8e157 : am_M := (yJ3_checkIndex_8e157, cJ3_checkIndex_8e157, 3, (Option.some Jvm.ClassFile.FieldType.int), 19, 3, false)
theorem mkJ3_checkIndex_8e157 : am_Mok mJ3_checkIndex_8e157 := ⟨List.mem_of_getElem? (i := 180) (by decide +kernel), List.mem_of_getElem? (i := 114) (by decide +kernel), by decide +kernel, by decide +kernel, by decide +kernel⟩
theorem msJ3_checkIndex_8e157 : Cond.static mJ3_checkIndex_8e157.1 ∈ lw_tbl := List.mem_of_getElem? (i := 179) (by decide +kernel)
def mJ3_checkFromToIndex_8c36e : am_M := (yJ3_checkFromToIndex_8c36e, cJ3_checkFromToIndex_8c36e, 4, (Option.some Jvm.ClassFile.FieldType.int), 19, 4, false)
theorem mkJ3_checkFromToIndex_8c36e : am_Mok mJ3_checkFromToIndex_8c36e := ⟨List.mem_of_getElem? (i := 634) (by decide +kernel), List.mem_of_getElem? (i := 114) (by decide +kernel), by decide +kernel, by decide +kernel, by decide +kernel⟩
theorem msJ3_checkFromToIndex_8c36e : Cond.static mJ3_checkFromToIndex_8c36e.1 ∈ lw_tbl := List.mem_of_getElem? (i := 633) (by decide +kernel)
def am_mlT : List (Nat × Nat × MethodName × Nat × Bool) := [(15, 67, yX11_init, 139, false), (9, 11, yX9_init, 147, false), (7, 32, yJ0_length_8abf5, 152, false), (16, 335, yJ0_coder_7d493, 156, false), (7, 38, yJ0_charAt_5068e, 162, false), (16, 492, yJ0_isLatin1_aae02, 166, false), (16, 495, yJ1_charAt_3b067, 170, false), (17, 9, yJ0_checkIndex_df160, 173, false), (16, 1059, yJ3_checkIndex_8e157, 178, false), (16, 498, yJ2_charAt_3b067, 181, false), (18, 67, yJ2_checkIndex_2214a, 184, false), (18, 48, yJ2_length_9d52b, 187, false), (18, 414, yJ0_checkIndex_df160, 190, false), (18, 71, yJ2_getChar_3b067, 191, false), (9, 14, yX5_init, 236, true), (3, 38, yX3_init, 242, true), (9, 17, yX10_init, 356, false), (9, 26, yX6_init, 372, false), (4, 11, yX5_init, 377, true), (4, 20, yX2_init, 380, false), (0, 7, yJ9_max_7cf53, 384, false), (9, 43, yX7_init, 426, false), (5, 32, yX4_init, 432, true), (5, 39, yX8_init, 460, true), (15, 85, yX11_teach, 551, false), (9, 76, yX6_read, 555, false), (4, 37, yX9_scan, 559, false), (7, 53, yX9_readToken, 563, false), (7, 57, yX9_byteHere, 567, false), (7, 64, yX9_readKind, 571, false), (7, 67, yX9_isLetter, 575, false), (7, 71, yX9_readWord, 578, false), (7, 74, yX9_isDigit, 582, false), (7, 77, yX9_readNumber, 585, false), (7, 80, yX9_readSymbol, 590, false), (7, 87, yJ0_indexOf_0f7a4, 595, false), (16, 633, yJ0_indexOf_7cf53, 599, false), (16, 505, yJ0_length_8abf5, 603, false), (16, 637, yJ1_indexOf_4cfef, 604, false), (17, 88, yJ1_canEncode_9a6ad, 607, false), (17, 92, yJ9_max_7cf53, 610, false), (17, 38, yJ9_min_7cf53, 611, false), (17, 95, yJ1_indexOfChar_4cfef, 614, false), (16, 640, yJ2_indexOf_4cfef, 617, false), (18, 224, yJ9_max_7cf53, 620, false), (18, 183, yJ9_min_7cf53, 621, false), (18, 228, yJ2_indexOfChar_4cfef, 623, false), (18, 96, yJ2_checkBoundsBeginEnd_d044e, 626, false), (18, 241, yJ0_checkBoundsBeginEnd_23922, 629, false), (16, 1062, yJ3_checkFromToIndex_8c36e, 632, false), (18, 244, yJ2_indexOfCharUnsafe_4cfef, 635, false), (18, 232, yJ2_indexOfSupplementary_4cfef, 638, false), (18, 164, yJ11_isValidCodePoint_9a6ad, 641, false), (18, 157, yJ11_highSurrogate_5068e, 644, false), (18, 161, yJ11_lowSurrogate_5068e, 648, false), (4, 42, yX5_clear, 652, false), (3, 59, yX3_clear, 656, false), (4, 45, yX2_forget, 660, false), (4, 58, yX9_kindAt, 664, false), (4, 67, yX6_readLine, 668, false), (4, 73, yX6_readPaper, 672, false), (4, 100, yX6_advance, 676, false), (4, 112, yX6_readNumber, 680, false), (4, 70, yX6_refuse, 684, false), (4, 202, yX0_at, 688, false), (4, 176, yX9_contentAt, 691, false), (4, 147, yX6_fault, 695, false), (4, 109, yX6_expect, 699, false), (4, 76, yX6_readOctave, 703, false), (4, 122, yX6_readNewName, 707, false), (4, 187, yX2_find, 711, false), (4, 191, yX2_isFull, 715, false), (4, 195, yX2_add, 719, false), (4, 126, yX5_addOctave, 723, false), (3, 62, yX0_put, 727, false), (3, 68, yJ9_min_7cf53, 730, false), (4, 79, yX6_readComb, 731, false), (4, 130, yX6_readWay, 735, false), (4, 134, yX5_addComb, 739, false), (4, 82, yX6_readInk, 743, false), (4, 138, yX5_lowestNextLevel, 747, false), (3, 74, yX0_at, 751, false), (4, 141, yX5_addInk, 752, false), (4, 85, yX6_readOrderHead, 756, false), (4, 150, yX6_readKnownName, 760, false), (4, 154, yX3_begin, 764, false), (1, 43, yJ9_min_7cf53, 768, false), (1, 49, yX0_put, 769, false), (4, 88, yX6_readSum, 770, false), (4, 170, yX6_readProduct, 774, false), (4, 173, yX6_readValue, 778, false), (4, 161, yX3_add, 782, false), (4, 180, yX6_namesBehind, 786, false), (4, 184, yX6_readPair, 790, false), (4, 95, yX3_endSum, 794, false), (4, 103, yX6_readTest, 798, false), (4, 158, yX6_readBoth, 802, false), (4, 164, yX6_readSingle, 806, false), (4, 167, yX6_readComparison, 810, false), (4, 106, yX3_endTest, 814, false), (9, 84, yX5_take, 818, false), (3, 78, yX0_copy, 822, false), (13, 7, yJ9_min_7cf53, 825, false), (3, 82, yX3_take, 829, false), (1, 61, yX0_copy, 833, false), (9, 87, yX10_forget, 834, false), (9, 90, yX7_begin, 838, false), (5, 68, yX7_takePulls, 842, false), (5, 85, yX0_at, 846, false), (5, 89, yX0_put, 847, false), (5, 93, yX7_reckonShifts, 848, false), (5, 216, yX5_linesOf, 852, false), (5, 107, yX0_wrap, 856, false), (13, 19, yJ9_floorMod_f86c9, 859, false), (5, 204, yJ9_min_7cf53, 862, false), (5, 201, yX0_quotient, 863, false), (5, 73, yX0_copy, 866, false), (5, 79, yX7_spoil, 867, false), (15, 89, yX11_errorAt, 871, false), (15, 96, yX11_height, 875, false), (9, 105, yX7_refresh, 879, false), (5, 232, yX10_prepare, 883, false), (8, 22, yX10_sheetOf, 887, false), (8, 26, yX0_at, 890, false), (8, 41, yX10_valueAt, 891, false), (8, 52, yX0_quotient, 895, false), (8, 58, yX10_fade, 896, false), (8, 62, yX10_gradientAt, 900, false), (8, 72, yX0_wrap, 904, false), (8, 65, yX10_pullOf, 905, false), (8, 69, yX10_between, 912, false), (8, 45, yX0_put, 915, false), (5, 237, yX7_source, 916, false), (5, 226, yX7_shiftOf, 920, false), (5, 195, yX5_spot, 924, false), (3, 86, yX0_wrap, 928, false), (5, 240, yX7_heightFrom, 929, false), (5, 246, yX10_valueKept, 933, false), (5, 152, yX0_hold, 937, false), (13, 23, yJ9_max_7cf53, 940, false), (5, 243, yX5_inkOf, 941, false), (9, 112, yX5_spot, 945, false), (9, 116, yX0_at, 946, false), (15, 100, yX11_ink, 947, false), (15, 104, yX11_patch, 951, false), (9, 98, yX7_group, 955, false), (5, 127, yX7_refresh, 959, false), (5, 252, yX4_find, 960, false), (2, 28, yX0_put, 964, false), (2, 34, yX0_at, 965, false), (2, 38, yX4_rightOf, 966, false), (2, 42, yX4_below, 969, false), (2, 46, yX4_spread, 972, false), (2, 53, yX4_join, 976, false), (2, 57, yX4_leftOf, 980, false), (2, 60, yX4_above, 983, false), (9, 129, yX4_sizeAt, 986, false), (15, 108, yX11_whence, 990, false), (9, 134, yX7_source, 994, false), (15, 153, yX11_mean, 995, false), (15, 158, yX11_digest, 999, false), (9, 101, yX7_tell, 1005, false), (5, 261, yX7_smallestHeight, 1009, false), (5, 264, yX7_greatestHeight, 1013, false), (5, 209, yJ9_max_7cf53, 1017, false), (9, 149, yX7_tellOctave, 1018, false), (9, 181, yX7_tellComb, 1022, false), (15, 7, yX11_feed, 1030, false), (9, 67, yX9_append, 1101, false), (15, 15, yX11_trim, 1109, false), (15, 21, yX11_count, 1133, false), (15, 26, yX11_share, 1156, false), (15, 29, yX11_octave, 1164, false), (15, 33, yX11_gradient, 1172, false), (9, 159, yX10_gradientAt, 1178, false), (15, 37, yX11_value, 1182, false), (9, 166, yX0_wrap, 1186, false), (9, 173, yX10_valueAt, 1187, false), (15, 40, yX11_comb, 1191, false), (15, 43, yX11_moves, 1199, false), (9, 186, yX5_linesOf, 1204, false), (9, 189, yX7_shiftOf, 1205, false), (15, 46, yX11_setPull, 1209, false), (9, 197, yX7_changePull, 1214, false), (15, 49, yX11_setSeed, 1221, false), (9, 203, yX7_changeSeed, 1226, false), (15, 52, yX11_drift, 1233, false), (9, 208, yX7_changeDrift, 1238, false), (15, 55, yX11_dip, 1245, false), (9, 222, yX7_dipOnce, 1250, false), (5, 123, yX3_looksAtSpots, 1254, false), (1, 57, yX0_at, 1258, false), (5, 130, yX7_carryOut, 1259, false), (5, 139, yX7_reckon, 1263, false), (5, 166, yX8_clear, 1267, false), (5, 175, yX7_step, 1271, false), (5, 183, yX8_push, 1275, false), (5, 186, yX7_isAtEdge, 1279, false), (5, 189, yX8_pushTest, 1283, false), (6, 19, yX8_push, 1287, false), (5, 179, yX8_pop, 1288, false), (5, 198, yX7_combine, 1292, false), (5, 212, yX7_isSo, 1295, false), (5, 156, yX7_changePull, 1298, false), (5, 160, yX7_changeSeed, 1299, false), (5, 163, yX7_changeDrift, 1300, false), (15, 58, yX11_foresee, 1304, false), (9, 227, yX7_take, 1309, false), (15, 61, yX11_until, 1316, false), (15, 64, yX11_advise, 1323, false), (15, 70, yX14_init, 1329, false), (12, 34, yX12_init, 1335, true), (12, 44, yX13_init, 1451, true), (12, 54, yX13_begin, 1508, false), (15, 77, yX14_thrown, 1559, false), (15, 76, yX14_feed, 1563, false), (12, 316, yX14_no, 1567, false), (15, 84, yX14_trim, 1571, false), (12, 63, yX14_isIn, 1575, false), (15, 88, yX14_teach, 1578, false), (12, 319, yX14_read, 1582, false), (12, 307, yX14_cut, 1586, false), (12, 86, yX14_byteOf, 1590, false), (12, 119, yX14_kindAt, 1594, false), (12, 90, yX14_isLetter, 1598, false), (12, 94, yX14_isDigit, 1601, false), (12, 97, yX14_word, 1604, false), (12, 111, yJ0_length_8abf5, 1610, false), (12, 115, yJ0_charAt_5068e, 1611, false), (12, 102, yJ0_indexOf_0f7a4, 1613, false), (12, 310, yX14_isPlan, 1614, false), (12, 125, yX14_is, 1618, false), (12, 135, yX14_isPaper, 1622, false), (12, 155, yX14_eatAs, 1626, false), (12, 128, yX14_eat, 1630, false), (12, 139, yX14_isOctaveLine, 1634, false), (12, 142, yX14_isCombLine, 1638, false), (12, 159, yX14_isWay, 1642, false), (12, 145, yX14_isInkLine, 1646, false), (12, 148, yX14_isOrderLine, 1650, false), (12, 74, yJ9_min_7cf53, 1654, false), (12, 168, yX14_isSum, 1655, false), (12, 211, yX14_isProduct, 1659, false), (12, 214, yX14_isValue, 1663, false), (12, 183, yX14_put, 1667, false), (12, 217, yX14_numberAt, 1671, false), (12, 208, yX14_isNamed, 1675, false), (12, 199, yX14_isName, 1679, false), (12, 205, yX14_isSign, 1683, false), (12, 202, yX14_isDeeper, 1687, false), (12, 220, yX14_isInside, 1691, false), (12, 151, yX14_eatSign, 1695, false), (12, 177, yX14_isTest, 1699, false), (12, 180, yX14_isBoth, 1703, false), (12, 187, yX14_isSingle, 1707, false), (12, 313, yX14_errorOf, 1711, false), (12, 265, yX14_paper, 1715, false), (12, 246, yX14_inRange, 1719, false), (12, 269, yX14_newOctave, 1723, false), (12, 230, yX14_isNew, 1727, false), (12, 227, yX14_told, 1731, false), (12, 224, yX14_isSame, 1735, false), (12, 252, yX14_number, 1739, false), (12, 284, yX14_newComb, 1743, false), (12, 287, yX14_way, 1747, false), (12, 296, yX14_newInk, 1751, false), (12, 299, yX14_level, 1755, false), (12, 301, yX14_order, 1759, false), (12, 304, yX14_of, 1763, false), (12, 240, yX14_look, 1767, false), (15, 92, yX14_errorAt, 1771, false), (15, 95, yX14_count, 1775, false), (12, 328, yX14_counted, 1779, false), (12, 322, yX13_counted, 1783, false), (11, 228, yX13_patches, 1787, false), (11, 180, yX13_forget, 1791, false), (11, 107, yX12_spots, 1795, false), (11, 183, yX13_goOver, 1799, false), (11, 177, yX13_beside, 1803, false), (11, 139, yX12_spot, 1811, false), (10, 64, yJ9_floorMod_7cf53, 1815, false), (11, 167, yX13_ink, 1818, false), (11, 165, yX13_know_, 1822, false), (11, 156, yX13_heightBy, 1826, false), (11, 142, yX13_whence, 1830, false), (11, 136, yX13_moves, 1834, false), (11, 121, yJ9_floorMod_7cf53, 1838, false), (11, 130, yJ9_min_7cf53, 1839, false), (11, 151, yX13_value, 1840, false), (11, 114, yX13_know, 1844, false), (11, 111, yX13_valueAt, 1848, false), (11, 95, yX13_pullOf, 1852, false), (11, 75, yX12_gradient, 1856, false), (11, 99, yX14_fade, 1864, true), (11, 103, yX14_between, 1868, true), (11, 153, yJ9_max_7cf53, 1871, false), (11, 231, yX13_contours, 1872, false), (11, 234, yX13_highest, 1876, false), (11, 169, yX13_height, 1880, false), (15, 99, yX14_height, 1884, false), (12, 329, yX12_spot, 1888, false), (12, 332, yX13_height, 1889, false), (15, 103, yX14_ink, 1890, false), (12, 335, yX13_ink, 1894, false), (15, 107, yX14_patch, 1895, false), (12, 338, yX13_patch, 1899, false), (15, 111, yX14_whence, 1903, false), (12, 341, yX13_whence, 1907, false), (15, 114, yX14_share, 1908, false), (12, 344, yX14_isInk, 1912, false), (12, 347, yX13_share, 1916, false), (15, 118, yX14_octave, 1920, false), (12, 351, yX14_isOctave, 1924, false), (12, 354, yX14_octaveTold, 1928, false), (15, 122, yX14_gradient, 1932, false), (12, 357, yX12_gradient, 1936, false), (15, 125, yX14_value, 1937, false), (12, 361, yX13_value, 1941, false), (15, 128, yX14_comb, 1942, false), (12, 365, yX14_isComb, 1946, false), (12, 368, yX14_combTold, 1950, false), (15, 131, yX14_moves, 1954, false), (12, 371, yX13_moves, 1958, false), (15, 134, yX14_setPull, 1959, false), (12, 374, yX13_letPull, 1963, false), (15, 137, yX14_setSeed, 1967, false), (12, 377, yX13_letSeed, 1971, false), (15, 140, yX14_drift, 1975, false), (12, 380, yX13_letDrift, 1979, false), (15, 143, yX14_dip, 1983, false), (12, 391, yX13_dip_, 1987, false), (11, 225, yX13_dip, 1991, false), (11, 218, yX13_holds, 1995, false), (11, 192, yX13_carryOut, 1999, false), (11, 241, yX13_isPushed, 2003, false), (11, 244, yX13_pushed, 2007, false), (11, 250, yX13_share, 2011, false), (11, 253, yX13_isAtEdge, 2012, false), (11, 247, yX14_both, 2016, true), (12, 80, yJ9_max_7cf53, 2019, false), (11, 222, yX13_order, 2020, false), (11, 201, yX13_letDrift, 2024, false), (11, 205, yX13_letPull, 2025, false), (11, 209, yX13_letSeed, 2026, false), (15, 146, yX14_foresee, 2027, false), (12, 395, yX13_become, 2031, false), (15, 149, yX14_until, 2036, false), (12, 399, yX13_dip, 2040, false), (15, 152, yX14_advise, 2041, false), (12, 401, yX13_patches, 2045, false), (15, 157, yX14_mean, 2046, false), (12, 404, yX12_spots, 2050, false), (15, 162, yX14_digest, 2051, false)]
def am_mw (q : Nat × Nat × MethodName × Nat × Bool) : Cond := if q.2.2.2.2 = true then .methodLinkNest (am_own q.1) q.2.1 q.2.2.1 (am_host q.1) else .methodLink (am_own q.1) q.2.1 q.2.2.1
set_option maxRecDepth 100000 in
theorem am_ml_ok : am_mlT.all (fun q => decide (lw_tbl[q.2.2.2.1]? = some (am_mw q))) = true := by decide +kernel
def am_lnk (o idx : Nat) (y : MethodName) (nest : Bool) : Bool := am_mlT.any (fun q => Nat.beq q.1 o && Nat.beq q.2.1 idx && decide (q.2.2.1 = y) && (q.2.2.2.2 == nest))
theorem am_lnk_ok {o idx : Nat} {y : MethodName} {nest : Bool} (h : am_lnk o idx y nest = true) : (if nest = true then Cond.methodLinkNest (am_own o) idx y (am_host o) else Cond.methodLink (am_own o) idx y) ∈ lw_tbl := by
  obtain ⟨q, hq, h2⟩ := List.any_eq_true.mp h
  have h1 := of_decide_eq_true (List.all_eq_true.mp am_ml_ok q hq)
  obtain ⟨q1, q2, q3, q4, q5⟩ := q
  simp only [Bool.and_eq_true] at h2
  obtain ⟨⟨⟨e1, e2⟩, e3⟩, e4⟩ := h2
  have e1 := Nat.eq_of_beq_eq_true e1
  have e2 := Nat.eq_of_beq_eq_true e2
  have e3 := of_decide_eq_true e3
  have e4 := eq_of_beq e4
  subst e1 e2 e3 e4
  exact List.mem_of_getElem? h1
