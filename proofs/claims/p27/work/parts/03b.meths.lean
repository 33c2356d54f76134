/-- a method: name, code, locals, what it returns, its class by number, how many arguments beside the receiver, whether it is a constructor -/
abbrev am_M : Type := MethodName × ByteArray × Nat × Option FieldType × Nat × Nat × Bool
def am_Mok (M : am_M) : Prop := Cond.code M.1 M.2.1 M.2.2.1 M.2.2.2.1 ∈ lw_tbl ∧ Cond.initialized M.1.cls ∈ lw_tbl ∧ M.1.cls ≠ "java/lang/invoke/MethodHandle" ∧ M.1.cls ≠ "java/lang/invoke/VarHandle" ∧ (parseMethodDescriptor M.1.desc).map (fun d => d.parameters.length) = some M.2.2.2.2.2.1
def mX0_at : am_M := (yX0_at, cX0_at, 2, (Option.some Jvm.ClassFile.FieldType.int), 13, 2, false)
theorem mkX0_at : am_Mok mX0_at := ⟨List.mem_of_getElem? (i := 571) (by decide +kernel), List.mem_of_getElem? (i := 74) (by decide +kernel), by decide +kernel, by decide +kernel, by decide +kernel⟩
theorem msX0_at : Cond.static mX0_at.1 ∈ lw_tbl := List.mem_of_getElem? (i := 570) (by decide +kernel)
def mX0_put : am_M := (yX0_put, cX0_put, 3, none, 13, 3, false)
theorem mkX0_put : am_Mok mX0_put := ⟨List.mem_of_getElem? (i := 613) (by decide +kernel), List.mem_of_getElem? (i := 74) (by decide +kernel), by decide +kernel, by decide +kernel, by decide +kernel⟩
theorem msX0_put : Cond.static mX0_put.1 ∈ lw_tbl := List.mem_of_getElem? (i := 612) (by decide +kernel)
def mX0_copy : am_M := (yX0_copy, cX0_copy, 2, none, 13, 2, false)
theorem mkX0_copy : am_Mok mX0_copy := ⟨List.mem_of_getElem? (i := 843) (by decide +kernel), List.mem_of_getElem? (i := 74) (by decide +kernel), by decide +kernel, by decide +kernel, by decide +kernel⟩
theorem msX0_copy : Cond.static mX0_copy.1 ∈ lw_tbl := List.mem_of_getElem? (i := 842) (by decide +kernel)
def mX0_wrap : am_M := (yX0_wrap, cX0_wrap, 3, (Option.some Jvm.ClassFile.FieldType.int), 13, 2, false)
theorem mkX0_wrap : am_Mok mX0_wrap := ⟨List.mem_of_getElem? (i := 597) (by decide +kernel), List.mem_of_getElem? (i := 74) (by decide +kernel), by decide +kernel, by decide +kernel, by decide +kernel⟩
theorem msX0_wrap : Cond.static mX0_wrap.1 ∈ lw_tbl := List.mem_of_getElem? (i := 596) (by decide +kernel)
def mX0_quotient : am_M := (yX0_quotient, cX0_quotient, 2, (Option.some Jvm.ClassFile.FieldType.int), 13, 2, false)
theorem mkX0_quotient : am_Mok mX0_quotient := ⟨List.mem_of_getElem? (i := 586) (by decide +kernel), List.mem_of_getElem? (i := 74) (by decide +kernel), by decide +kernel, by decide +kernel, by decide +kernel⟩
theorem msX0_quotient : Cond.static mX0_quotient.1 ∈ lw_tbl := List.mem_of_getElem? (i := 585) (by decide +kernel)
def mX0_hold : am_M := (yX0_hold, cX0_hold, 3, (Option.some Jvm.ClassFile.FieldType.int), 13, 3, false)
theorem mkX0_hold : am_Mok mX0_hold := ⟨List.mem_of_getElem? (i := 638) (by decide +kernel), List.mem_of_getElem? (i := 74) (by decide +kernel), by decide +kernel, by decide +kernel, by decide +kernel⟩
theorem msX0_hold : Cond.static mX0_hold.1 ∈ lw_tbl := List.mem_of_getElem? (i := 637) (by decide +kernel)
def mX2_init : am_M := (yX2_init, cX2_init, 2, none, 2, 1, true)
theorem mkX2_init : am_Mok mX2_init := ⟨List.mem_of_getElem? (i := 321) (by decide +kernel), List.mem_of_getElem? (i := 64) (by decide +kernel), by decide +kernel, by decide +kernel, by decide +kernel⟩
theorem miX2_init : Cond.instanceMethod mX2_init.1 ∈ lw_tbl := List.mem_of_getElem? (i := 320) (by decide +kernel)
def mX2_forget : am_M := (yX2_forget, cX2_forget, 1, none, 2, 0, false)
theorem mkX2_forget : am_Mok mX2_forget := ⟨List.mem_of_getElem? (i := 1126) (by decide +kernel), List.mem_of_getElem? (i := 64) (by decide +kernel), by decide +kernel, by decide +kernel, by decide +kernel⟩
theorem miX2_forget : Cond.instanceMethod mX2_forget.1 ∈ lw_tbl := List.mem_of_getElem? (i := 1124) (by decide +kernel)
theorem mvX2_forget : Cond.selects mX2_forget.1.cls mX2_forget.1 mX2_forget.1 ∈ lw_tbl := List.mem_of_getElem? (i := 1125) (by decide +kernel)
def mX2_isFull : am_M := (yX2_isFull, cX2_isFull, 1, (Option.some Jvm.ClassFile.FieldType.boolean), 2, 0, false)
theorem mkX2_isFull : am_Mok mX2_isFull := ⟨List.mem_of_getElem? (i := 1179) (by decide +kernel), List.mem_of_getElem? (i := 64) (by decide +kernel), by decide +kernel, by decide +kernel, by decide +kernel⟩
theorem miX2_isFull : Cond.instanceMethod mX2_isFull.1 ∈ lw_tbl := List.mem_of_getElem? (i := 1177) (by decide +kernel)
theorem mvX2_isFull : Cond.selects mX2_isFull.1.cls mX2_isFull.1 mX2_isFull.1 ∈ lw_tbl := List.mem_of_getElem? (i := 1178) (by decide +kernel)
def mX2_add : am_M := (yX2_add, cX2_add, 3, none, 2, 1, false)
theorem mkX2_add : am_Mok mX2_add := ⟨List.mem_of_getElem? (i := 1183) (by decide +kernel), List.mem_of_getElem? (i := 64) (by decide +kernel), by decide +kernel, by decide +kernel, by decide +kernel⟩
theorem miX2_add : Cond.instanceMethod mX2_add.1 ∈ lw_tbl := List.mem_of_getElem? (i := 1181) (by decide +kernel)
theorem mvX2_add : Cond.selects mX2_add.1.cls mX2_add.1 mX2_add.1 ∈ lw_tbl := List.mem_of_getElem? (i := 1182) (by decide +kernel)
def mX2_find : am_M := (yX2_find, cX2_find, 4, (Option.some Jvm.ClassFile.FieldType.int), 2, 1, false)
theorem mkX2_find : am_Mok mX2_find := ⟨List.mem_of_getElem? (i := 1175) (by decide +kernel), List.mem_of_getElem? (i := 64) (by decide +kernel), by decide +kernel, by decide +kernel, by decide +kernel⟩
theorem miX2_find : Cond.instanceMethod mX2_find.1 ∈ lw_tbl := List.mem_of_getElem? (i := 1173) (by decide +kernel)
theorem mvX2_find : Cond.selects mX2_find.1.cls mX2_find.1 mX2_find.1 ∈ lw_tbl := List.mem_of_getElem? (i := 1174) (by decide +kernel)
def mX3_init : am_M := (yX3_init, cX3_init, 1, none, 3, 0, true)
theorem mkX3_init : am_Mok mX3_init := ⟨List.mem_of_getElem? (i := 183) (by decide +kernel), List.mem_of_getElem? (i := 61) (by decide +kernel), by decide +kernel, by decide +kernel, by decide +kernel⟩
theorem miX3_init : Cond.instanceMethod mX3_init.1 ∈ lw_tbl := List.mem_of_getElem? (i := 182) (by decide +kernel)
def mX3_clear : am_M := (yX3_clear, cX3_clear, 1, none, 3, 0, false)
theorem mkX3_clear : am_Mok mX3_clear := ⟨List.mem_of_getElem? (i := 1122) (by decide +kernel), List.mem_of_getElem? (i := 61) (by decide +kernel), by decide +kernel, by decide +kernel, by decide +kernel⟩
theorem miX3_clear : Cond.instanceMethod mX3_clear.1 ∈ lw_tbl := List.mem_of_getElem? (i := 1120) (by decide +kernel)
theorem mvX3_clear : Cond.selects mX3_clear.1.cls mX3_clear.1 mX3_clear.1 ∈ lw_tbl := List.mem_of_getElem? (i := 1121) (by decide +kernel)
def mX3_begin : am_M := (yX3_begin, cX3_begin, 3, none, 3, 2, false)
theorem mkX3_begin : am_Mok mX3_begin := ⟨List.mem_of_getElem? (i := 1225) (by decide +kernel), List.mem_of_getElem? (i := 61) (by decide +kernel), by decide +kernel, by decide +kernel, by decide +kernel⟩
theorem miX3_begin : Cond.instanceMethod mX3_begin.1 ∈ lw_tbl := List.mem_of_getElem? (i := 1223) (by decide +kernel)
theorem mvX3_begin : Cond.selects mX3_begin.1.cls mX3_begin.1 mX3_begin.1 ∈ lw_tbl := List.mem_of_getElem? (i := 1224) (by decide +kernel)
def mX3_endSum : am_M := (yX3_endSum, cX3_endSum, 1, none, 3, 0, false)
theorem mkX3_endSum : am_Mok mX3_endSum := ⟨List.mem_of_getElem? (i := 1255) (by decide +kernel), List.mem_of_getElem? (i := 61) (by decide +kernel), by decide +kernel, by decide +kernel, by decide +kernel⟩
theorem miX3_endSum : Cond.instanceMethod mX3_endSum.1 ∈ lw_tbl := List.mem_of_getElem? (i := 1253) (by decide +kernel)
theorem mvX3_endSum : Cond.selects mX3_endSum.1.cls mX3_endSum.1 mX3_endSum.1 ∈ lw_tbl := List.mem_of_getElem? (i := 1254) (by decide +kernel)
def mX3_endTest : am_M := (yX3_endTest, cX3_endTest, 1, none, 3, 0, false)
theorem mkX3_endTest : am_Mok mX3_endTest := ⟨List.mem_of_getElem? (i := 1275) (by decide +kernel), List.mem_of_getElem? (i := 61) (by decide +kernel), by decide +kernel, by decide +kernel, by decide +kernel⟩
theorem miX3_endTest : Cond.instanceMethod mX3_endTest.1 ∈ lw_tbl := List.mem_of_getElem? (i := 1273) (by decide +kernel)
theorem mvX3_endTest : Cond.selects mX3_endTest.1.cls mX3_endTest.1 mX3_endTest.1 ∈ lw_tbl := List.mem_of_getElem? (i := 1274) (by decide +kernel)
def mX3_add : am_M := (yX3_add, cX3_add, 3, none, 3, 2, false)
theorem mkX3_add : am_Mok mX3_add := ⟨List.mem_of_getElem? (i := 1243) (by decide +kernel), List.mem_of_getElem? (i := 61) (by decide +kernel), by decide +kernel, by decide +kernel, by decide +kernel⟩
theorem miX3_add : Cond.instanceMethod mX3_add.1 ∈ lw_tbl := List.mem_of_getElem? (i := 1241) (by decide +kernel)
theorem mvX3_add : Cond.selects mX3_add.1.cls mX3_add.1 mX3_add.1 ∈ lw_tbl := List.mem_of_getElem? (i := 1242) (by decide +kernel)
def mX3_looksAtSpots : am_M := (yX3_looksAtSpots, cX3_looksAtSpots, 2, (Option.some Jvm.ClassFile.FieldType.boolean), 3, 1, false)
theorem mkX3_looksAtSpots : am_Mok mX3_looksAtSpots := ⟨List.mem_of_getElem? (i := 765) (by decide +kernel), List.mem_of_getElem? (i := 61) (by decide +kernel), by decide +kernel, by decide +kernel, by decide +kernel⟩
theorem miX3_looksAtSpots : Cond.instanceMethod mX3_looksAtSpots.1 ∈ lw_tbl := List.mem_of_getElem? (i := 763) (by decide +kernel)
theorem mvX3_looksAtSpots : Cond.selects mX3_looksAtSpots.1.cls mX3_looksAtSpots.1 mX3_looksAtSpots.1 ∈ lw_tbl := List.mem_of_getElem? (i := 764) (by decide +kernel)
def mX3_take : am_M := (yX3_take, cX3_take, 2, none, 3, 1, false)
theorem mkX3_take : am_Mok mX3_take := ⟨List.mem_of_getElem? (i := 1284) (by decide +kernel), List.mem_of_getElem? (i := 61) (by decide +kernel), by decide +kernel, by decide +kernel, by decide +kernel⟩
theorem miX3_take : Cond.instanceMethod mX3_take.1 ∈ lw_tbl := List.mem_of_getElem? (i := 1282) (by decide +kernel)
theorem mvX3_take : Cond.selects mX3_take.1.cls mX3_take.1 mX3_take.1 ∈ lw_tbl := List.mem_of_getElem? (i := 1283) (by decide +kernel)
def mX4_init : am_M := (yX4_init, cX4_init, 1, none, 4, 0, true)
theorem mkX4_init : am_Mok mX4_init := ⟨List.mem_of_getElem? (i := 373) (by decide +kernel), List.mem_of_getElem? (i := 66) (by decide +kernel), by decide +kernel, by decide +kernel, by decide +kernel⟩
theorem miX4_init : Cond.instanceMethod mX4_init.1 ∈ lw_tbl := List.mem_of_getElem? (i := 372) (by decide +kernel)
def mX4_find : am_M := (yX4_find, cX4_find, 7, none, 4, 3, false)
theorem mkX4_find : am_Mok mX4_find := ⟨List.mem_of_getElem? (i := 652) (by decide +kernel), List.mem_of_getElem? (i := 66) (by decide +kernel), by decide +kernel, by decide +kernel, by decide +kernel⟩
theorem miX4_find : Cond.instanceMethod mX4_find.1 ∈ lw_tbl := List.mem_of_getElem? (i := 650) (by decide +kernel)
theorem mvX4_find : Cond.selects mX4_find.1.cls mX4_find.1 mX4_find.1 ∈ lw_tbl := List.mem_of_getElem? (i := 651) (by decide +kernel)
def mX4_spread : am_M := (yX4_spread, cX4_spread, 12, none, 4, 4, false)
theorem mkX4_spread : am_Mok mX4_spread := ⟨List.mem_of_getElem? (i := 664) (by decide +kernel), List.mem_of_getElem? (i := 66) (by decide +kernel), by decide +kernel, by decide +kernel, by decide +kernel⟩
theorem miX4_spread : Cond.instanceMethod mX4_spread.1 ∈ lw_tbl := List.mem_of_getElem? (i := 663) (by decide +kernel)
theorem mvX4_spread : Cond.selects mX4_spread.1.cls mX4_spread.1 mX4_spread.1 ∈ lw_tbl := List.mem_of_getElem? (i := 2) (by decide +kernel)
def mX4_join : am_M := (yX4_join, cX4_join, 3, none, 4, 2, false)
theorem mkX4_join : am_Mok mX4_join := ⟨List.mem_of_getElem? (i := 668) (by decide +kernel), List.mem_of_getElem? (i := 66) (by decide +kernel), by decide +kernel, by decide +kernel, by decide +kernel⟩
theorem miX4_join : Cond.instanceMethod mX4_join.1 ∈ lw_tbl := List.mem_of_getElem? (i := 667) (by decide +kernel)
theorem mvX4_join : Cond.selects mX4_join.1.cls mX4_join.1 mX4_join.1 ∈ lw_tbl := List.mem_of_getElem? (i := 3) (by decide +kernel)
def mX4_leftOf : am_M := (yX4_leftOf, cX4_leftOf, 2, (Option.some Jvm.ClassFile.FieldType.int), 4, 2, false)
theorem mkX4_leftOf : am_Mok mX4_leftOf := ⟨List.mem_of_getElem? (i := 671) (by decide +kernel), List.mem_of_getElem? (i := 66) (by decide +kernel), by decide +kernel, by decide +kernel, by decide +kernel⟩
theorem msX4_leftOf : Cond.static mX4_leftOf.1 ∈ lw_tbl := List.mem_of_getElem? (i := 670) (by decide +kernel)
def mX4_rightOf : am_M := (yX4_rightOf, cX4_rightOf, 2, (Option.some Jvm.ClassFile.FieldType.int), 4, 2, false)
theorem mkX4_rightOf : am_Mok mX4_rightOf := ⟨List.mem_of_getElem? (i := 657) (by decide +kernel), List.mem_of_getElem? (i := 66) (by decide +kernel), by decide +kernel, by decide +kernel, by decide +kernel⟩
theorem msX4_rightOf : Cond.static mX4_rightOf.1 ∈ lw_tbl := List.mem_of_getElem? (i := 656) (by decide +kernel)
def mX4_above : am_M := (yX4_above, cX4_above, 3, (Option.some Jvm.ClassFile.FieldType.int), 4, 3, false)
theorem mkX4_above : am_Mok mX4_above := ⟨List.mem_of_getElem? (i := 674) (by decide +kernel), List.mem_of_getElem? (i := 66) (by decide +kernel), by decide +kernel, by decide +kernel, by decide +kernel⟩
theorem msX4_above : Cond.static mX4_above.1 ∈ lw_tbl := List.mem_of_getElem? (i := 673) (by decide +kernel)
def mX4_below : am_M := (yX4_below, cX4_below, 3, (Option.some Jvm.ClassFile.FieldType.int), 4, 3, false)
theorem mkX4_below : am_Mok mX4_below := ⟨List.mem_of_getElem? (i := 660) (by decide +kernel), List.mem_of_getElem? (i := 66) (by decide +kernel), by decide +kernel, by decide +kernel, by decide +kernel⟩
theorem msX4_below : Cond.static mX4_below.1 ∈ lw_tbl := List.mem_of_getElem? (i := 659) (by decide +kernel)
def mX4_sizeAt : am_M := (yX4_sizeAt, cX4_sizeAt, 2, (Option.some Jvm.ClassFile.FieldType.int), 4, 1, false)
theorem mkX4_sizeAt : am_Mok mX4_sizeAt := ⟨List.mem_of_getElem? (i := 707) (by decide +kernel), List.mem_of_getElem? (i := 66) (by decide +kernel), by decide +kernel, by decide +kernel, by decide +kernel⟩
theorem miX4_sizeAt : Cond.instanceMethod mX4_sizeAt.1 ∈ lw_tbl := List.mem_of_getElem? (i := 705) (by decide +kernel)
theorem mvX4_sizeAt : Cond.selects mX4_sizeAt.1.cls mX4_sizeAt.1 mX4_sizeAt.1 ∈ lw_tbl := List.mem_of_getElem? (i := 706) (by decide +kernel)
def mX5_init : am_M := (yX5_init, cX5_init, 1, none, 5, 0, true)
theorem mkX5_init : am_Mok mX5_init := ⟨List.mem_of_getElem? (i := 177) (by decide +kernel), List.mem_of_getElem? (i := 60) (by decide +kernel), by decide +kernel, by decide +kernel, by decide +kernel⟩
theorem miX5_init : Cond.instanceMethod mX5_init.1 ∈ lw_tbl := List.mem_of_getElem? (i := 176) (by decide +kernel)
def mX5_clear : am_M := (yX5_clear, cX5_clear, 1, none, 5, 0, false)
theorem mkX5_clear : am_Mok mX5_clear := ⟨List.mem_of_getElem? (i := 1118) (by decide +kernel), List.mem_of_getElem? (i := 60) (by decide +kernel), by decide +kernel, by decide +kernel, by decide +kernel⟩
theorem miX5_clear : Cond.instanceMethod mX5_clear.1 ∈ lw_tbl := List.mem_of_getElem? (i := 1116) (by decide +kernel)
theorem mvX5_clear : Cond.selects mX5_clear.1.cls mX5_clear.1 mX5_clear.1 ∈ lw_tbl := List.mem_of_getElem? (i := 1117) (by decide +kernel)
def mX5_addOctave : am_M := (yX5_addOctave, cX5_addOctave, 5, none, 5, 4, false)
theorem mkX5_addOctave : am_Mok mX5_addOctave := ⟨List.mem_of_getElem? (i := 1187) (by decide +kernel), List.mem_of_getElem? (i := 60) (by decide +kernel), by decide +kernel, by decide +kernel, by decide +kernel⟩
theorem miX5_addOctave : Cond.instanceMethod mX5_addOctave.1 ∈ lw_tbl := List.mem_of_getElem? (i := 1185) (by decide +kernel)
theorem mvX5_addOctave : Cond.selects mX5_addOctave.1.cls mX5_addOctave.1 mX5_addOctave.1 ∈ lw_tbl := List.mem_of_getElem? (i := 1186) (by decide +kernel)
def mX5_addComb : am_M := (yX5_addComb, cX5_addComb, 4, none, 5, 3, false)
theorem mkX5_addComb : am_Mok mX5_addComb := ⟨List.mem_of_getElem? (i := 1201) (by decide +kernel), List.mem_of_getElem? (i := 60) (by decide +kernel), by decide +kernel, by decide +kernel, by decide +kernel⟩
theorem miX5_addComb : Cond.instanceMethod mX5_addComb.1 ∈ lw_tbl := List.mem_of_getElem? (i := 1199) (by decide +kernel)
theorem mvX5_addComb : Cond.selects mX5_addComb.1.cls mX5_addComb.1 mX5_addComb.1 ∈ lw_tbl := List.mem_of_getElem? (i := 1200) (by decide +kernel)
def mX5_addInk : am_M := (yX5_addInk, cX5_addInk, 2, none, 5, 1, false)
theorem mkX5_addInk : am_Mok mX5_addInk := ⟨List.mem_of_getElem? (i := 1213) (by decide +kernel), List.mem_of_getElem? (i := 60) (by decide +kernel), by decide +kernel, by decide +kernel, by decide +kernel⟩
theorem miX5_addInk : Cond.instanceMethod mX5_addInk.1 ∈ lw_tbl := List.mem_of_getElem? (i := 1211) (by decide +kernel)
theorem mvX5_addInk : Cond.selects mX5_addInk.1.cls mX5_addInk.1 mX5_addInk.1 ∈ lw_tbl := List.mem_of_getElem? (i := 1212) (by decide +kernel)
def mX5_lowestNextLevel : am_M := (yX5_lowestNextLevel, cX5_lowestNextLevel, 1, (Option.some Jvm.ClassFile.FieldType.int), 5, 0, false)
theorem mkX5_lowestNextLevel : am_Mok mX5_lowestNextLevel := ⟨List.mem_of_getElem? (i := 1209) (by decide +kernel), List.mem_of_getElem? (i := 60) (by decide +kernel), by decide +kernel, by decide +kernel, by decide +kernel⟩
theorem miX5_lowestNextLevel : Cond.instanceMethod mX5_lowestNextLevel.1 ∈ lw_tbl := List.mem_of_getElem? (i := 1207) (by decide +kernel)
theorem mvX5_lowestNextLevel : Cond.selects mX5_lowestNextLevel.1.cls mX5_lowestNextLevel.1 mX5_lowestNextLevel.1 ∈ lw_tbl := List.mem_of_getElem? (i := 1208) (by decide +kernel)
def mX5_take : am_M := (yX5_take, cX5_take, 2, none, 5, 1, false)
theorem mkX5_take : am_Mok mX5_take := ⟨List.mem_of_getElem? (i := 1279) (by decide +kernel), List.mem_of_getElem? (i := 60) (by decide +kernel), by decide +kernel, by decide +kernel, by decide +kernel⟩
theorem miX5_take : Cond.instanceMethod mX5_take.1 ∈ lw_tbl := List.mem_of_getElem? (i := 1277) (by decide +kernel)
theorem mvX5_take : Cond.selects mX5_take.1.cls mX5_take.1 mX5_take.1 ∈ lw_tbl := List.mem_of_getElem? (i := 1278) (by decide +kernel)
def mX5_spot : am_M := (yX5_spot, cX5_spot, 3, (Option.some Jvm.ClassFile.FieldType.int), 5, 2, false)
theorem mkX5_spot : am_Mok mX5_spot := ⟨List.mem_of_getElem? (i := 626) (by decide +kernel), List.mem_of_getElem? (i := 60) (by decide +kernel), by decide +kernel, by decide +kernel, by decide +kernel⟩
theorem miX5_spot : Cond.instanceMethod mX5_spot.1 ∈ lw_tbl := List.mem_of_getElem? (i := 624) (by decide +kernel)
theorem mvX5_spot : Cond.selects mX5_spot.1.cls mX5_spot.1 mX5_spot.1 ∈ lw_tbl := List.mem_of_getElem? (i := 625) (by decide +kernel)
def mX5_linesOf : am_M := (yX5_linesOf, cX5_linesOf, 2, (Option.some Jvm.ClassFile.FieldType.int), 5, 1, false)
theorem mkX5_linesOf : am_Mok mX5_linesOf := ⟨List.mem_of_getElem? (i := 735) (by decide +kernel), List.mem_of_getElem? (i := 60) (by decide +kernel), by decide +kernel, by decide +kernel, by decide +kernel⟩
theorem miX5_linesOf : Cond.instanceMethod mX5_linesOf.1 ∈ lw_tbl := List.mem_of_getElem? (i := 733) (by decide +kernel)
theorem mvX5_linesOf : Cond.selects mX5_linesOf.1.cls mX5_linesOf.1 mX5_linesOf.1 ∈ lw_tbl := List.mem_of_getElem? (i := 734) (by decide +kernel)
def mX5_inkOf : am_M := (yX5_inkOf, cX5_inkOf, 4, (Option.some Jvm.ClassFile.FieldType.int), 5, 1, false)
theorem mkX5_inkOf : am_Mok mX5_inkOf := ⟨List.mem_of_getElem? (i := 646) (by decide +kernel), List.mem_of_getElem? (i := 60) (by decide +kernel), by decide +kernel, by decide +kernel, by decide +kernel⟩
theorem miX5_inkOf : Cond.instanceMethod mX5_inkOf.1 ∈ lw_tbl := List.mem_of_getElem? (i := 644) (by decide +kernel)
theorem mvX5_inkOf : Cond.selects mX5_inkOf.1.cls mX5_inkOf.1 mX5_inkOf.1 ∈ lw_tbl := List.mem_of_getElem? (i := 645) (by decide +kernel)
def mX6_init : am_M := (yX6_init, cX6_init, 2, none, 6, 1, true)
theorem mkX6_init : am_Mok mX6_init := ⟨List.mem_of_getElem? (i := 313) (by decide +kernel), List.mem_of_getElem? (i := 63) (by decide +kernel), by decide +kernel, by decide +kernel, by decide +kernel⟩
theorem miX6_init : Cond.instanceMethod mX6_init.1 ∈ lw_tbl := List.mem_of_getElem? (i := 312) (by decide +kernel)
def mX6_read : am_M := (yX6_read, cX6_read, 2, (Option.some Jvm.ClassFile.FieldType.int), 6, 0, false)
theorem mkX6_read : am_Mok mX6_read := ⟨List.mem_of_getElem? (i := 1023) (by decide +kernel), List.mem_of_getElem? (i := 63) (by decide +kernel), by decide +kernel, by decide +kernel, by decide +kernel⟩
theorem miX6_read : Cond.instanceMethod mX6_read.1 ∈ lw_tbl := List.mem_of_getElem? (i := 1021) (by decide +kernel)
theorem mvX6_read : Cond.selects mX6_read.1.cls mX6_read.1 mX6_read.1 ∈ lw_tbl := List.mem_of_getElem? (i := 1022) (by decide +kernel)
def mX6_readLine : am_M := (yX6_readLine, cX6_readLine, 2, none, 6, 0, false)
theorem mkX6_readLine : am_Mok mX6_readLine := ⟨List.mem_of_getElem? (i := 1134) (by decide +kernel), List.mem_of_getElem? (i := 63) (by decide +kernel), by decide +kernel, by decide +kernel, by decide +kernel⟩
theorem miX6_readLine : Cond.instanceMethod mX6_readLine.1 ∈ lw_tbl := List.mem_of_getElem? (i := 1133) (by decide +kernel)
theorem mvX6_readLine : Cond.selects mX6_readLine.1.cls mX6_readLine.1 mX6_readLine.1 ∈ lw_tbl := List.mem_of_getElem? (i := 22) (by decide +kernel)
def mX6_readPaper : am_M := (yX6_readPaper, cX6_readPaper, 1, none, 6, 0, false)
theorem mkX6_readPaper : am_Mok mX6_readPaper := ⟨List.mem_of_getElem? (i := 1138) (by decide +kernel), List.mem_of_getElem? (i := 63) (by decide +kernel), by decide +kernel, by decide +kernel, by decide +kernel⟩
theorem miX6_readPaper : Cond.instanceMethod mX6_readPaper.1 ∈ lw_tbl := List.mem_of_getElem? (i := 1137) (by decide +kernel)
theorem mvX6_readPaper : Cond.selects mX6_readPaper.1.cls mX6_readPaper.1 mX6_readPaper.1 ∈ lw_tbl := List.mem_of_getElem? (i := 23) (by decide +kernel)
def mX6_readOctave : am_M := (yX6_readOctave, cX6_readOctave, 4, none, 6, 0, false)
theorem mkX6_readOctave : am_Mok mX6_readOctave := ⟨List.mem_of_getElem? (i := 1167) (by decide +kernel), List.mem_of_getElem? (i := 63) (by decide +kernel), by decide +kernel, by decide +kernel, by decide +kernel⟩
theorem miX6_readOctave : Cond.instanceMethod mX6_readOctave.1 ∈ lw_tbl := List.mem_of_getElem? (i := 1166) (by decide +kernel)
theorem mvX6_readOctave : Cond.selects mX6_readOctave.1.cls mX6_readOctave.1 mX6_readOctave.1 ∈ lw_tbl := List.mem_of_getElem? (i := 29) (by decide +kernel)
def mX6_readComb : am_M := (yX6_readComb, cX6_readComb, 3, none, 6, 0, false)
theorem mkX6_readComb : am_Mok mX6_readComb := ⟨List.mem_of_getElem? (i := 1193) (by decide +kernel), List.mem_of_getElem? (i := 63) (by decide +kernel), by decide +kernel, by decide +kernel, by decide +kernel⟩
theorem miX6_readComb : Cond.instanceMethod mX6_readComb.1 ∈ lw_tbl := List.mem_of_getElem? (i := 1192) (by decide +kernel)
theorem mvX6_readComb : Cond.selects mX6_readComb.1.cls mX6_readComb.1 mX6_readComb.1 ∈ lw_tbl := List.mem_of_getElem? (i := 31) (by decide +kernel)
def mX6_readInk : am_M := (yX6_readInk, cX6_readInk, 1, none, 6, 0, false)
theorem mkX6_readInk : am_Mok mX6_readInk := ⟨List.mem_of_getElem? (i := 1205) (by decide +kernel), List.mem_of_getElem? (i := 63) (by decide +kernel), by decide +kernel, by decide +kernel, by decide +kernel⟩
theorem miX6_readInk : Cond.instanceMethod mX6_readInk.1 ∈ lw_tbl := List.mem_of_getElem? (i := 1204) (by decide +kernel)
theorem mvX6_readInk : Cond.selects mX6_readInk.1.cls mX6_readInk.1 mX6_readInk.1 ∈ lw_tbl := List.mem_of_getElem? (i := 33) (by decide +kernel)
def mX6_readOrderHead : am_M := (yX6_readOrderHead, cX6_readOrderHead, 3, none, 6, 0, false)
theorem mkX6_readOrderHead : am_Mok mX6_readOrderHead := ⟨List.mem_of_getElem? (i := 1217) (by decide +kernel), List.mem_of_getElem? (i := 63) (by decide +kernel), by decide +kernel, by decide +kernel, by decide +kernel⟩
theorem miX6_readOrderHead : Cond.instanceMethod mX6_readOrderHead.1 ∈ lw_tbl := List.mem_of_getElem? (i := 1216) (by decide +kernel)
theorem mvX6_readOrderHead : Cond.selects mX6_readOrderHead.1.cls mX6_readOrderHead.1 mX6_readOrderHead.1 ∈ lw_tbl := List.mem_of_getElem? (i := 34) (by decide +kernel)
def mX6_readTest : am_M := (yX6_readTest, cX6_readTest, 3, none, 6, 1, false)
theorem mkX6_readTest : am_Mok mX6_readTest := ⟨List.mem_of_getElem? (i := 1259) (by decide +kernel), List.mem_of_getElem? (i := 63) (by decide +kernel), by decide +kernel, by decide +kernel, by decide +kernel⟩
theorem miX6_readTest : Cond.instanceMethod mX6_readTest.1 ∈ lw_tbl := List.mem_of_getElem? (i := 1258) (by decide +kernel)
theorem mvX6_readTest : Cond.selects mX6_readTest.1.cls mX6_readTest.1 mX6_readTest.1 ∈ lw_tbl := List.mem_of_getElem? (i := 41) (by decide +kernel)
def mX6_readBoth : am_M := (yX6_readBoth, cX6_readBoth, 3, none, 6, 1, false)
theorem mkX6_readBoth : am_Mok mX6_readBoth := ⟨List.mem_of_getElem? (i := 1263) (by decide +kernel), List.mem_of_getElem? (i := 63) (by decide +kernel), by decide +kernel, by decide +kernel, by decide +kernel⟩
theorem miX6_readBoth : Cond.instanceMethod mX6_readBoth.1 ∈ lw_tbl := List.mem_of_getElem? (i := 1262) (by decide +kernel)
theorem mvX6_readBoth : Cond.selects mX6_readBoth.1.cls mX6_readBoth.1 mX6_readBoth.1 ∈ lw_tbl := List.mem_of_getElem? (i := 42) (by decide +kernel)
def mX6_readSingle : am_M := (yX6_readSingle, cX6_readSingle, 3, none, 6, 1, false)
theorem mkX6_readSingle : am_Mok mX6_readSingle := ⟨List.mem_of_getElem? (i := 1267) (by decide +kernel), List.mem_of_getElem? (i := 63) (by decide +kernel), by decide +kernel, by decide +kernel, by decide +kernel⟩
theorem miX6_readSingle : Cond.instanceMethod mX6_readSingle.1 ∈ lw_tbl := List.mem_of_getElem? (i := 1266) (by decide +kernel)
theorem mvX6_readSingle : Cond.selects mX6_readSingle.1.cls mX6_readSingle.1 mX6_readSingle.1 ∈ lw_tbl := List.mem_of_getElem? (i := 43) (by decide +kernel)
def mX6_readComparison : am_M := (yX6_readComparison, cX6_readComparison, 2, (Option.some Jvm.ClassFile.FieldType.int), 6, 0, false)
theorem mkX6_readComparison : am_Mok mX6_readComparison := ⟨List.mem_of_getElem? (i := 1271) (by decide +kernel), List.mem_of_getElem? (i := 63) (by decide +kernel), by decide +kernel, by decide +kernel, by decide +kernel⟩
theorem miX6_readComparison : Cond.instanceMethod mX6_readComparison.1 ∈ lw_tbl := List.mem_of_getElem? (i := 1270) (by decide +kernel)
theorem mvX6_readComparison : Cond.selects mX6_readComparison.1.cls mX6_readComparison.1 mX6_readComparison.1 ∈ lw_tbl := List.mem_of_getElem? (i := 44) (by decide +kernel)
def mX6_readSum : am_M := (yX6_readSum, cX6_readSum, 4, none, 6, 1, false)
theorem mkX6_readSum : am_Mok mX6_readSum := ⟨List.mem_of_getElem? (i := 1231) (by decide +kernel), List.mem_of_getElem? (i := 63) (by decide +kernel), by decide +kernel, by decide +kernel, by decide +kernel⟩
theorem miX6_readSum : Cond.instanceMethod mX6_readSum.1 ∈ lw_tbl := List.mem_of_getElem? (i := 1230) (by decide +kernel)
theorem mvX6_readSum : Cond.selects mX6_readSum.1.cls mX6_readSum.1 mX6_readSum.1 ∈ lw_tbl := List.mem_of_getElem? (i := 36) (by decide +kernel)
def mX6_readProduct : am_M := (yX6_readProduct, cX6_readProduct, 4, none, 6, 1, false)
theorem mkX6_readProduct : am_Mok mX6_readProduct := ⟨List.mem_of_getElem? (i := 1235) (by decide +kernel), List.mem_of_getElem? (i := 63) (by decide +kernel), by decide +kernel, by decide +kernel, by decide +kernel⟩
theorem miX6_readProduct : Cond.instanceMethod mX6_readProduct.1 ∈ lw_tbl := List.mem_of_getElem? (i := 1234) (by decide +kernel)
theorem mvX6_readProduct : Cond.selects mX6_readProduct.1.cls mX6_readProduct.1 mX6_readProduct.1 ∈ lw_tbl := List.mem_of_getElem? (i := 37) (by decide +kernel)
def mX6_readValue : am_M := (yX6_readValue, cX6_readValue, 3, none, 6, 1, false)
theorem mkX6_readValue : am_Mok mX6_readValue := ⟨List.mem_of_getElem? (i := 1239) (by decide +kernel), List.mem_of_getElem? (i := 63) (by decide +kernel), by decide +kernel, by decide +kernel, by decide +kernel⟩
theorem miX6_readValue : Cond.instanceMethod mX6_readValue.1 ∈ lw_tbl := List.mem_of_getElem? (i := 1238) (by decide +kernel)
theorem mvX6_readValue : Cond.selects mX6_readValue.1.cls mX6_readValue.1 mX6_readValue.1 ∈ lw_tbl := List.mem_of_getElem? (i := 38) (by decide +kernel)
def mX6_readPair : am_M := (yX6_readPair, cX6_readPair, 2, none, 6, 1, false)
theorem mkX6_readPair : am_Mok mX6_readPair := ⟨List.mem_of_getElem? (i := 1251) (by decide +kernel), List.mem_of_getElem? (i := 63) (by decide +kernel), by decide +kernel, by decide +kernel, by decide +kernel⟩
theorem miX6_readPair : Cond.instanceMethod mX6_readPair.1 ∈ lw_tbl := List.mem_of_getElem? (i := 1250) (by decide +kernel)
theorem mvX6_readPair : Cond.selects mX6_readPair.1.cls mX6_readPair.1 mX6_readPair.1 ∈ lw_tbl := List.mem_of_getElem? (i := 40) (by decide +kernel)
def mX6_namesBehind : am_M := (yX6_namesBehind, cX6_namesBehind, 2, (Option.some (Jvm.ClassFile.FieldType.object "MarbledPaper$Names")), 6, 1, false)
theorem mkX6_namesBehind : am_Mok mX6_namesBehind := ⟨List.mem_of_getElem? (i := 1247) (by decide +kernel), List.mem_of_getElem? (i := 63) (by decide +kernel), by decide +kernel, by decide +kernel, by decide +kernel⟩
theorem miX6_namesBehind : Cond.instanceMethod mX6_namesBehind.1 ∈ lw_tbl := List.mem_of_getElem? (i := 1246) (by decide +kernel)
theorem mvX6_namesBehind : Cond.selects mX6_namesBehind.1.cls mX6_namesBehind.1 mX6_namesBehind.1 ∈ lw_tbl := List.mem_of_getElem? (i := 39) (by decide +kernel)
def mX6_readNewName : am_M := (yX6_readNewName, cX6_readNewName, 4, none, 6, 1, false)
theorem mkX6_readNewName : am_Mok mX6_readNewName := ⟨List.mem_of_getElem? (i := 1171) (by decide +kernel), List.mem_of_getElem? (i := 63) (by decide +kernel), by decide +kernel, by decide +kernel, by decide +kernel⟩
theorem miX6_readNewName : Cond.instanceMethod mX6_readNewName.1 ∈ lw_tbl := List.mem_of_getElem? (i := 1170) (by decide +kernel)
theorem mvX6_readNewName : Cond.selects mX6_readNewName.1.cls mX6_readNewName.1 mX6_readNewName.1 ∈ lw_tbl := List.mem_of_getElem? (i := 30) (by decide +kernel)
def mX6_readKnownName : am_M := (yX6_readKnownName, cX6_readKnownName, 3, (Option.some Jvm.ClassFile.FieldType.int), 6, 1, false)
theorem mkX6_readKnownName : am_Mok mX6_readKnownName := ⟨List.mem_of_getElem? (i := 1221) (by decide +kernel), List.mem_of_getElem? (i := 63) (by decide +kernel), by decide +kernel, by decide +kernel, by decide +kernel⟩
theorem miX6_readKnownName : Cond.instanceMethod mX6_readKnownName.1 ∈ lw_tbl := List.mem_of_getElem? (i := 1220) (by decide +kernel)
theorem mvX6_readKnownName : Cond.selects mX6_readKnownName.1.cls mX6_readKnownName.1 mX6_readKnownName.1 ∈ lw_tbl := List.mem_of_getElem? (i := 35) (by decide +kernel)
def mX6_readNumber : am_M := (yX6_readNumber, cX6_readNumber, 4, (Option.some Jvm.ClassFile.FieldType.int), 6, 2, false)
theorem mkX6_readNumber : am_Mok mX6_readNumber := ⟨List.mem_of_getElem? (i := 1146) (by decide +kernel), List.mem_of_getElem? (i := 63) (by decide +kernel), by decide +kernel, by decide +kernel, by decide +kernel⟩
theorem miX6_readNumber : Cond.instanceMethod mX6_readNumber.1 ∈ lw_tbl := List.mem_of_getElem? (i := 1145) (by decide +kernel)
theorem mvX6_readNumber : Cond.selects mX6_readNumber.1.cls mX6_readNumber.1 mX6_readNumber.1 ∈ lw_tbl := List.mem_of_getElem? (i := 25) (by decide +kernel)
def mX6_readWay : am_M := (yX6_readWay, cX6_readWay, 2, (Option.some Jvm.ClassFile.FieldType.int), 6, 0, false)
theorem mkX6_readWay : am_Mok mX6_readWay := ⟨List.mem_of_getElem? (i := 1197) (by decide +kernel), List.mem_of_getElem? (i := 63) (by decide +kernel), by decide +kernel, by decide +kernel, by decide +kernel⟩
theorem miX6_readWay : Cond.instanceMethod mX6_readWay.1 ∈ lw_tbl := List.mem_of_getElem? (i := 1196) (by decide +kernel)
theorem mvX6_readWay : Cond.selects mX6_readWay.1.cls mX6_readWay.1 mX6_readWay.1 ∈ lw_tbl := List.mem_of_getElem? (i := 32) (by decide +kernel)
def mX6_expect : am_M := (yX6_expect, cX6_expect, 2, none, 6, 1, false)
theorem mkX6_expect : am_Mok mX6_expect := ⟨List.mem_of_getElem? (i := 1163) (by decide +kernel), List.mem_of_getElem? (i := 63) (by decide +kernel), by decide +kernel, by decide +kernel, by decide +kernel⟩
theorem miX6_expect : Cond.instanceMethod mX6_expect.1 ∈ lw_tbl := List.mem_of_getElem? (i := 1162) (by decide +kernel)
theorem mvX6_expect : Cond.selects mX6_expect.1.cls mX6_expect.1 mX6_expect.1 ∈ lw_tbl := List.mem_of_getElem? (i := 28) (by decide +kernel)
def mX6_advance : am_M := (yX6_advance, cX6_advance, 1, none, 6, 0, false)
theorem mkX6_advance : am_Mok mX6_advance := ⟨List.mem_of_getElem? (i := 1142) (by decide +kernel), List.mem_of_getElem? (i := 63) (by decide +kernel), by decide +kernel, by decide +kernel, by decide +kernel⟩
theorem miX6_advance : Cond.instanceMethod mX6_advance.1 ∈ lw_tbl := List.mem_of_getElem? (i := 1141) (by decide +kernel)
theorem mvX6_advance : Cond.selects mX6_advance.1.cls mX6_advance.1 mX6_advance.1 ∈ lw_tbl := List.mem_of_getElem? (i := 24) (by decide +kernel)
def mX6_refuse : am_M := (yX6_refuse, cX6_refuse, 1, none, 6, 0, false)
theorem mkX6_refuse : am_Mok mX6_refuse := ⟨List.mem_of_getElem? (i := 1150) (by decide +kernel), List.mem_of_getElem? (i := 63) (by decide +kernel), by decide +kernel, by decide +kernel, by decide +kernel⟩
theorem miX6_refuse : Cond.instanceMethod mX6_refuse.1 ∈ lw_tbl := List.mem_of_getElem? (i := 1149) (by decide +kernel)
theorem mvX6_refuse : Cond.selects mX6_refuse.1.cls mX6_refuse.1 mX6_refuse.1 ∈ lw_tbl := List.mem_of_getElem? (i := 26) (by decide +kernel)
def mX6_fault : am_M := (yX6_fault, cX6_fault, 2, none, 6, 1, false)
theorem mkX6_fault : am_Mok mX6_fault := ⟨List.mem_of_getElem? (i := 1159) (by decide +kernel), List.mem_of_getElem? (i := 63) (by decide +kernel), by decide +kernel, by decide +kernel, by decide +kernel⟩
theorem miX6_fault : Cond.instanceMethod mX6_fault.1 ∈ lw_tbl := List.mem_of_getElem? (i := 1158) (by decide +kernel)
theorem mvX6_fault : Cond.selects mX6_fault.1.cls mX6_fault.1 mX6_fault.1 ∈ lw_tbl := List.mem_of_getElem? (i := 27) (by decide +kernel)
def mX7_init : am_M := (yX7_init, cX7_init, 3, none, 7, 2, true)
theorem mkX7_init : am_Mok mX7_init := ⟨List.mem_of_getElem? (i := 367) (by decide +kernel), List.mem_of_getElem? (i := 65) (by decide +kernel), by decide +kernel, by decide +kernel, by decide +kernel⟩
theorem miX7_init : Cond.instanceMethod mX7_init.1 ∈ lw_tbl := List.mem_of_getElem? (i := 366) (by decide +kernel)
def mX7_begin : am_M := (yX7_begin, cX7_begin, 1, none, 7, 0, false)
theorem mkX7_begin : am_Mok mX7_begin := ⟨List.mem_of_getElem? (i := 1293) (by decide +kernel), List.mem_of_getElem? (i := 65) (by decide +kernel), by decide +kernel, by decide +kernel, by decide +kernel⟩
theorem miX7_begin : Cond.instanceMethod mX7_begin.1 ∈ lw_tbl := List.mem_of_getElem? (i := 1291) (by decide +kernel)
theorem mvX7_begin : Cond.selects mX7_begin.1.cls mX7_begin.1 mX7_begin.1 ∈ lw_tbl := List.mem_of_getElem? (i := 1292) (by decide +kernel)
def mX7_take : am_M := (yX7_take, cX7_take, 2, none, 7, 1, false)
theorem mkX7_take : am_Mok mX7_take := ⟨List.mem_of_getElem? (i := 836) (by decide +kernel), List.mem_of_getElem? (i := 65) (by decide +kernel), by decide +kernel, by decide +kernel, by decide +kernel⟩
theorem miX7_take : Cond.instanceMethod mX7_take.1 ∈ lw_tbl := List.mem_of_getElem? (i := 834) (by decide +kernel)
theorem mvX7_take : Cond.selects mX7_take.1.cls mX7_take.1 mX7_take.1 ∈ lw_tbl := List.mem_of_getElem? (i := 835) (by decide +kernel)
def mX7_takePulls : am_M := (yX7_takePulls, cX7_takePulls, 3, none, 7, 1, false)
theorem mkX7_takePulls : am_Mok mX7_takePulls := ⟨List.mem_of_getElem? (i := 840) (by decide +kernel), List.mem_of_getElem? (i := 65) (by decide +kernel), by decide +kernel, by decide +kernel, by decide +kernel⟩
theorem miX7_takePulls : Cond.instanceMethod mX7_takePulls.1 ∈ lw_tbl := List.mem_of_getElem? (i := 839) (by decide +kernel)
theorem mvX7_takePulls : Cond.selects mX7_takePulls.1.cls mX7_takePulls.1 mX7_takePulls.1 ∈ lw_tbl := List.mem_of_getElem? (i := 12) (by decide +kernel)
def mX7_spoil : am_M := (yX7_spoil, cX7_spoil, 1, none, 7, 0, false)
theorem mkX7_spoil : am_Mok mX7_spoil := ⟨List.mem_of_getElem? (i := 819) (by decide +kernel), List.mem_of_getElem? (i := 65) (by decide +kernel), by decide +kernel, by decide +kernel, by decide +kernel⟩
theorem miX7_spoil : Cond.instanceMethod mX7_spoil.1 ∈ lw_tbl := List.mem_of_getElem? (i := 818) (by decide +kernel)
theorem mvX7_spoil : Cond.selects mX7_spoil.1.cls mX7_spoil.1 mX7_spoil.1 ∈ lw_tbl := List.mem_of_getElem? (i := 11) (by decide +kernel)
def mX7_changePull : am_M := (yX7_changePull, cX7_changePull, 3, (Option.some Jvm.ClassFile.FieldType.boolean), 7, 2, false)
theorem mkX7_changePull : am_Mok mX7_changePull := ⟨List.mem_of_getElem? (i := 810) (by decide +kernel), List.mem_of_getElem? (i := 65) (by decide +kernel), by decide +kernel, by decide +kernel, by decide +kernel⟩
theorem miX7_changePull : Cond.instanceMethod mX7_changePull.1 ∈ lw_tbl := List.mem_of_getElem? (i := 808) (by decide +kernel)
theorem mvX7_changePull : Cond.selects mX7_changePull.1.cls mX7_changePull.1 mX7_changePull.1 ∈ lw_tbl := List.mem_of_getElem? (i := 809) (by decide +kernel)
def mX7_changeSeed : am_M := (yX7_changeSeed, cX7_changeSeed, 3, (Option.some Jvm.ClassFile.FieldType.boolean), 7, 2, false)
theorem mkX7_changeSeed : am_Mok mX7_changeSeed := ⟨List.mem_of_getElem? (i := 823) (by decide +kernel), List.mem_of_getElem? (i := 65) (by decide +kernel), by decide +kernel, by decide +kernel, by decide +kernel⟩
theorem miX7_changeSeed : Cond.instanceMethod mX7_changeSeed.1 ∈ lw_tbl := List.mem_of_getElem? (i := 821) (by decide +kernel)
theorem mvX7_changeSeed : Cond.selects mX7_changeSeed.1.cls mX7_changeSeed.1 mX7_changeSeed.1 ∈ lw_tbl := List.mem_of_getElem? (i := 822) (by decide +kernel)
def mX7_changeDrift : am_M := (yX7_changeDrift, cX7_changeDrift, 6, (Option.some Jvm.ClassFile.FieldType.boolean), 7, 2, false)
theorem mkX7_changeDrift : am_Mok mX7_changeDrift := ⟨List.mem_of_getElem? (i := 827) (by decide +kernel), List.mem_of_getElem? (i := 65) (by decide +kernel), by decide +kernel, by decide +kernel, by decide +kernel⟩
theorem miX7_changeDrift : Cond.instanceMethod mX7_changeDrift.1 ∈ lw_tbl := List.mem_of_getElem? (i := 825) (by decide +kernel)
theorem mvX7_changeDrift : Cond.selects mX7_changeDrift.1.cls mX7_changeDrift.1 mX7_changeDrift.1 ∈ lw_tbl := List.mem_of_getElem? (i := 826) (by decide +kernel)
def mX7_dipOnce : am_M := (yX7_dipOnce, cX7_dipOnce, 2, none, 7, 0, false)
theorem mkX7_dipOnce : am_Mok mX7_dipOnce := ⟨List.mem_of_getElem? (i := 761) (by decide +kernel), List.mem_of_getElem? (i := 65) (by decide +kernel), by decide +kernel, by decide +kernel, by decide +kernel⟩
theorem miX7_dipOnce : Cond.instanceMethod mX7_dipOnce.1 ∈ lw_tbl := List.mem_of_getElem? (i := 759) (by decide +kernel)
theorem mvX7_dipOnce : Cond.selects mX7_dipOnce.1.cls mX7_dipOnce.1 mX7_dipOnce.1 ∈ lw_tbl := List.mem_of_getElem? (i := 760) (by decide +kernel)
def mX7_carryOut : am_M := (yX7_carryOut, cX7_carryOut, 6, (Option.some Jvm.ClassFile.FieldType.boolean), 7, 1, false)
theorem mkX7_carryOut : am_Mok mX7_carryOut := ⟨List.mem_of_getElem? (i := 770) (by decide +kernel), List.mem_of_getElem? (i := 65) (by decide +kernel), by decide +kernel, by decide +kernel, by decide +kernel⟩
theorem miX7_carryOut : Cond.instanceMethod mX7_carryOut.1 ∈ lw_tbl := List.mem_of_getElem? (i := 769) (by decide +kernel)
theorem mvX7_carryOut : Cond.selects mX7_carryOut.1.cls mX7_carryOut.1 mX7_carryOut.1 ∈ lw_tbl := List.mem_of_getElem? (i := 6) (by decide +kernel)
def mX7_reckon : am_M := (yX7_reckon, cX7_reckon, 4, (Option.some Jvm.ClassFile.FieldType.int), 7, 2, false)
theorem mkX7_reckon : am_Mok mX7_reckon := ⟨List.mem_of_getElem? (i := 774) (by decide +kernel), List.mem_of_getElem? (i := 65) (by decide +kernel), by decide +kernel, by decide +kernel, by decide +kernel⟩
theorem miX7_reckon : Cond.instanceMethod mX7_reckon.1 ∈ lw_tbl := List.mem_of_getElem? (i := 773) (by decide +kernel)
theorem mvX7_reckon : Cond.selects mX7_reckon.1.cls mX7_reckon.1 mX7_reckon.1 ∈ lw_tbl := List.mem_of_getElem? (i := 7) (by decide +kernel)
def mX7_step : am_M := (yX7_step, cX7_step, 5, none, 7, 2, false)
theorem mkX7_step : am_Mok mX7_step := ⟨List.mem_of_getElem? (i := 782) (by decide +kernel), List.mem_of_getElem? (i := 65) (by decide +kernel), by decide +kernel, by decide +kernel, by decide +kernel⟩
theorem miX7_step : Cond.instanceMethod mX7_step.1 ∈ lw_tbl := List.mem_of_getElem? (i := 781) (by decide +kernel)
theorem mvX7_step : Cond.selects mX7_step.1.cls mX7_step.1 mX7_step.1 ∈ lw_tbl := List.mem_of_getElem? (i := 8) (by decide +kernel)
def mX7_isAtEdge : am_M := (yX7_isAtEdge, cX7_isAtEdge, 3, (Option.some Jvm.ClassFile.FieldType.boolean), 7, 1, false)
theorem mkX7_isAtEdge : am_Mok mX7_isAtEdge := ⟨List.mem_of_getElem? (i := 790) (by decide +kernel), List.mem_of_getElem? (i := 65) (by decide +kernel), by decide +kernel, by decide +kernel, by decide +kernel⟩
theorem miX7_isAtEdge : Cond.instanceMethod mX7_isAtEdge.1 ∈ lw_tbl := List.mem_of_getElem? (i := 789) (by decide +kernel)
theorem mvX7_isAtEdge : Cond.selects mX7_isAtEdge.1.cls mX7_isAtEdge.1 mX7_isAtEdge.1 ∈ lw_tbl := List.mem_of_getElem? (i := 9) (by decide +kernel)
def mX7_combine : am_M := (yX7_combine, cX7_combine, 3, (Option.some Jvm.ClassFile.FieldType.int), 7, 3, false)
theorem mkX7_combine : am_Mok mX7_combine := ⟨List.mem_of_getElem? (i := 802) (by decide +kernel), List.mem_of_getElem? (i := 65) (by decide +kernel), by decide +kernel, by decide +kernel, by decide +kernel⟩
theorem msX7_combine : Cond.static mX7_combine.1 ∈ lw_tbl := List.mem_of_getElem? (i := 801) (by decide +kernel)
def mX7_isSo : am_M := (yX7_isSo, cX7_isSo, 3, (Option.some Jvm.ClassFile.FieldType.boolean), 7, 3, false)
theorem mkX7_isSo : am_Mok mX7_isSo := ⟨List.mem_of_getElem? (i := 806) (by decide +kernel), List.mem_of_getElem? (i := 65) (by decide +kernel), by decide +kernel, by decide +kernel, by decide +kernel⟩
theorem msX7_isSo : Cond.static mX7_isSo.1 ∈ lw_tbl := List.mem_of_getElem? (i := 805) (by decide +kernel)
def mX7_reckonShifts : am_M := (yX7_reckonShifts, cX7_reckonShifts, 8, none, 7, 1, false)
theorem mkX7_reckonShifts : am_Mok mX7_reckonShifts := ⟨List.mem_of_getElem? (i := 814) (by decide +kernel), List.mem_of_getElem? (i := 65) (by decide +kernel), by decide +kernel, by decide +kernel, by decide +kernel⟩
theorem miX7_reckonShifts : Cond.instanceMethod mX7_reckonShifts.1 ∈ lw_tbl := List.mem_of_getElem? (i := 813) (by decide +kernel)
theorem mvX7_reckonShifts : Cond.selects mX7_reckonShifts.1.cls mX7_reckonShifts.1 mX7_reckonShifts.1 ∈ lw_tbl := List.mem_of_getElem? (i := 10) (by decide +kernel)
def mX7_shiftOf : am_M := (yX7_shiftOf, cX7_shiftOf, 3, (Option.some Jvm.ClassFile.FieldType.int), 7, 2, false)
theorem mkX7_shiftOf : am_Mok mX7_shiftOf := ⟨List.mem_of_getElem? (i := 622) (by decide +kernel), List.mem_of_getElem? (i := 65) (by decide +kernel), by decide +kernel, by decide +kernel, by decide +kernel⟩
theorem miX7_shiftOf : Cond.instanceMethod mX7_shiftOf.1 ∈ lw_tbl := List.mem_of_getElem? (i := 620) (by decide +kernel)
theorem mvX7_shiftOf : Cond.selects mX7_shiftOf.1.cls mX7_shiftOf.1 mX7_shiftOf.1 ∈ lw_tbl := List.mem_of_getElem? (i := 621) (by decide +kernel)
def mX7_source : am_M := (yX7_source, cX7_source, 6, (Option.some Jvm.ClassFile.FieldType.int), 7, 2, false)
theorem mkX7_source : am_Mok mX7_source := ⟨List.mem_of_getElem? (i := 617) (by decide +kernel), List.mem_of_getElem? (i := 65) (by decide +kernel), by decide +kernel, by decide +kernel, by decide +kernel⟩
theorem miX7_source : Cond.instanceMethod mX7_source.1 ∈ lw_tbl := List.mem_of_getElem? (i := 615) (by decide +kernel)
theorem mvX7_source : Cond.selects mX7_source.1.cls mX7_source.1 mX7_source.1 ∈ lw_tbl := List.mem_of_getElem? (i := 616) (by decide +kernel)
def mX7_refresh : am_M := (yX7_refresh, cX7_refresh, 6, none, 7, 0, false)
theorem mkX7_refresh : am_Mok mX7_refresh := ⟨List.mem_of_getElem? (i := 568) (by decide +kernel), List.mem_of_getElem? (i := 65) (by decide +kernel), by decide +kernel, by decide +kernel, by decide +kernel⟩
theorem miX7_refresh : Cond.instanceMethod mX7_refresh.1 ∈ lw_tbl := List.mem_of_getElem? (i := 566) (by decide +kernel)
theorem mvX7_refresh : Cond.selects mX7_refresh.1.cls mX7_refresh.1 mX7_refresh.1 ∈ lw_tbl := List.mem_of_getElem? (i := 567) (by decide +kernel)
def mX7_heightFrom : am_M := (yX7_heightFrom, cX7_heightFrom, 5, (Option.some Jvm.ClassFile.FieldType.int), 7, 1, false)
theorem mkX7_heightFrom : am_Mok mX7_heightFrom := ⟨List.mem_of_getElem? (i := 631) (by decide +kernel), List.mem_of_getElem? (i := 65) (by decide +kernel), by decide +kernel, by decide +kernel, by decide +kernel⟩
theorem miX7_heightFrom : Cond.instanceMethod mX7_heightFrom.1 ∈ lw_tbl := List.mem_of_getElem? (i := 630) (by decide +kernel)
theorem mvX7_heightFrom : Cond.selects mX7_heightFrom.1.cls mX7_heightFrom.1 mX7_heightFrom.1 ∈ lw_tbl := List.mem_of_getElem? (i := 1) (by decide +kernel)
def mX7_group : am_M := (yX7_group, cX7_group, 1, none, 7, 0, false)
theorem mkX7_group : am_Mok mX7_group := ⟨List.mem_of_getElem? (i := 564) (by decide +kernel), List.mem_of_getElem? (i := 65) (by decide +kernel), by decide +kernel, by decide +kernel, by decide +kernel⟩
theorem miX7_group : Cond.instanceMethod mX7_group.1 ∈ lw_tbl := List.mem_of_getElem? (i := 562) (by decide +kernel)
theorem mvX7_group : Cond.selects mX7_group.1.cls mX7_group.1 mX7_group.1 ∈ lw_tbl := List.mem_of_getElem? (i := 563) (by decide +kernel)
def mX7_tell : am_M := (yX7_tell, cX7_tell, 2, (Option.some Jvm.ClassFile.FieldType.int), 7, 1, false)
theorem mkX7_tell : am_Mok mX7_tell := ⟨List.mem_of_getElem? (i := 678) (by decide +kernel), List.mem_of_getElem? (i := 65) (by decide +kernel), by decide +kernel, by decide +kernel, by decide +kernel⟩
theorem miX7_tell : Cond.instanceMethod mX7_tell.1 ∈ lw_tbl := List.mem_of_getElem? (i := 676) (by decide +kernel)
theorem mvX7_tell : Cond.selects mX7_tell.1.cls mX7_tell.1 mX7_tell.1 ∈ lw_tbl := List.mem_of_getElem? (i := 677) (by decide +kernel)
def mX7_smallestHeight : am_M := (yX7_smallestHeight, cX7_smallestHeight, 3, (Option.some Jvm.ClassFile.FieldType.int), 7, 0, false)
theorem mkX7_smallestHeight : am_Mok mX7_smallestHeight := ⟨List.mem_of_getElem? (i := 682) (by decide +kernel), List.mem_of_getElem? (i := 65) (by decide +kernel), by decide +kernel, by decide +kernel, by decide +kernel⟩
theorem miX7_smallestHeight : Cond.instanceMethod mX7_smallestHeight.1 ∈ lw_tbl := List.mem_of_getElem? (i := 681) (by decide +kernel)
theorem mvX7_smallestHeight : Cond.selects mX7_smallestHeight.1.cls mX7_smallestHeight.1 mX7_smallestHeight.1 ∈ lw_tbl := List.mem_of_getElem? (i := 4) (by decide +kernel)
def mX7_greatestHeight : am_M := (yX7_greatestHeight, cX7_greatestHeight, 3, (Option.some Jvm.ClassFile.FieldType.int), 7, 0, false)
theorem mkX7_greatestHeight : am_Mok mX7_greatestHeight := ⟨List.mem_of_getElem? (i := 687) (by decide +kernel), List.mem_of_getElem? (i := 65) (by decide +kernel), by decide +kernel, by decide +kernel, by decide +kernel⟩
theorem miX7_greatestHeight : Cond.instanceMethod mX7_greatestHeight.1 ∈ lw_tbl := List.mem_of_getElem? (i := 686) (by decide +kernel)
theorem mvX7_greatestHeight : Cond.selects mX7_greatestHeight.1.cls mX7_greatestHeight.1 mX7_greatestHeight.1 ∈ lw_tbl := List.mem_of_getElem? (i := 5) (by decide +kernel)
def mX7_tellOctave : am_M := (yX7_tellOctave, cX7_tellOctave, 3, (Option.some Jvm.ClassFile.FieldType.int), 7, 2, false)
theorem mkX7_tellOctave : am_Mok mX7_tellOctave := ⟨List.mem_of_getElem? (i := 869) (by decide +kernel), List.mem_of_getElem? (i := 65) (by decide +kernel), by decide +kernel, by decide +kernel, by decide +kernel⟩
theorem miX7_tellOctave : Cond.instanceMethod mX7_tellOctave.1 ∈ lw_tbl := List.mem_of_getElem? (i := 867) (by decide +kernel)
theorem mvX7_tellOctave : Cond.selects mX7_tellOctave.1.cls mX7_tellOctave.1 mX7_tellOctave.1 ∈ lw_tbl := List.mem_of_getElem? (i := 868) (by decide +kernel)
def mX7_tellComb : am_M := (yX7_tellComb, cX7_tellComb, 3, (Option.some Jvm.ClassFile.FieldType.int), 7, 2, false)
theorem mkX7_tellComb : am_Mok mX7_tellComb := ⟨List.mem_of_getElem? (i := 726) (by decide +kernel), List.mem_of_getElem? (i := 65) (by decide +kernel), by decide +kernel, by decide +kernel, by decide +kernel⟩
theorem miX7_tellComb : Cond.instanceMethod mX7_tellComb.1 ∈ lw_tbl := List.mem_of_getElem? (i := 724) (by decide +kernel)
theorem mvX7_tellComb : Cond.selects mX7_tellComb.1.cls mX7_tellComb.1 mX7_tellComb.1 ∈ lw_tbl := List.mem_of_getElem? (i := 725) (by decide +kernel)
def mX8_init : am_M := (yX8_init, cX8_init, 1, none, 8, 0, true)
theorem mkX8_init : am_Mok mX8_init := ⟨List.mem_of_getElem? (i := 401) (by decide +kernel), List.mem_of_getElem? (i := 67) (by decide +kernel), by decide +kernel, by decide +kernel, by decide +kernel⟩
theorem miX8_init : Cond.instanceMethod mX8_init.1 ∈ lw_tbl := List.mem_of_getElem? (i := 400) (by decide +kernel)
def mX8_clear : am_M := (yX8_clear, cX8_clear, 1, none, 8, 0, false)
theorem mkX8_clear : am_Mok mX8_clear := ⟨List.mem_of_getElem? (i := 778) (by decide +kernel), List.mem_of_getElem? (i := 67) (by decide +kernel), by decide +kernel, by decide +kernel, by decide +kernel⟩
theorem miX8_clear : Cond.instanceMethod mX8_clear.1 ∈ lw_tbl := List.mem_of_getElem? (i := 776) (by decide +kernel)
theorem mvX8_clear : Cond.selects mX8_clear.1.cls mX8_clear.1 mX8_clear.1 ∈ lw_tbl := List.mem_of_getElem? (i := 777) (by decide +kernel)
def mX8_push : am_M := (yX8_push, cX8_push, 2, none, 8, 1, false)
theorem mkX8_push : am_Mok mX8_push := ⟨List.mem_of_getElem? (i := 786) (by decide +kernel), List.mem_of_getElem? (i := 67) (by decide +kernel), by decide +kernel, by decide +kernel, by decide +kernel⟩
theorem miX8_push : Cond.instanceMethod mX8_push.1 ∈ lw_tbl := List.mem_of_getElem? (i := 784) (by decide +kernel)
theorem mvX8_push : Cond.selects mX8_push.1.cls mX8_push.1 mX8_push.1 ∈ lw_tbl := List.mem_of_getElem? (i := 785) (by decide +kernel)
def mX8_pushTest : am_M := (yX8_pushTest, cX8_pushTest, 2, none, 8, 1, false)
theorem mkX8_pushTest : am_Mok mX8_pushTest := ⟨List.mem_of_getElem? (i := 794) (by decide +kernel), List.mem_of_getElem? (i := 67) (by decide +kernel), by decide +kernel, by decide +kernel, by decide +kernel⟩
theorem miX8_pushTest : Cond.instanceMethod mX8_pushTest.1 ∈ lw_tbl := List.mem_of_getElem? (i := 792) (by decide +kernel)
theorem mvX8_pushTest : Cond.selects mX8_pushTest.1.cls mX8_pushTest.1 mX8_pushTest.1 ∈ lw_tbl := List.mem_of_getElem? (i := 793) (by decide +kernel)
def mX8_pop : am_M := (yX8_pop, cX8_pop, 1, (Option.some Jvm.ClassFile.FieldType.int), 8, 0, false)
theorem mkX8_pop : am_Mok mX8_pop := ⟨List.mem_of_getElem? (i := 799) (by decide +kernel), List.mem_of_getElem? (i := 67) (by decide +kernel), by decide +kernel, by decide +kernel, by decide +kernel⟩
theorem miX8_pop : Cond.instanceMethod mX8_pop.1 ∈ lw_tbl := List.mem_of_getElem? (i := 797) (by decide +kernel)
theorem mvX8_pop : Cond.selects mX8_pop.1.cls mX8_pop.1 mX8_pop.1 ∈ lw_tbl := List.mem_of_getElem? (i := 798) (by decide +kernel)
def mX9_init : am_M := (yX9_init, cX9_init, 6, none, 9, 0, true)
theorem mkX9_init : am_Mok mX9_init := ⟨List.mem_of_getElem? (i := 88) (by decide +kernel), List.mem_of_getElem? (i := 59) (by decide +kernel), by decide +kernel, by decide +kernel, by decide +kernel⟩
theorem miX9_init : Cond.instanceMethod mX9_init.1 ∈ lw_tbl := List.mem_of_getElem? (i := 87) (by decide +kernel)
def mX9_append : am_M := (yX9_append, cX9_append, 3, none, 9, 1, false)
theorem mkX9_append : am_Mok mX9_append := ⟨List.mem_of_getElem? (i := 1015) (by decide +kernel), List.mem_of_getElem? (i := 59) (by decide +kernel), by decide +kernel, by decide +kernel, by decide +kernel⟩
theorem miX9_append : Cond.instanceMethod mX9_append.1 ∈ lw_tbl := List.mem_of_getElem? (i := 1013) (by decide +kernel)
theorem mvX9_append : Cond.selects mX9_append.1.cls mX9_append.1 mX9_append.1 ∈ lw_tbl := List.mem_of_getElem? (i := 1014) (by decide +kernel)
def mX9_scan : am_M := (yX9_scan, cX9_scan, 3, none, 9, 0, false)
theorem mkX9_scan : am_Mok mX9_scan := ⟨List.mem_of_getElem? (i := 1027) (by decide +kernel), List.mem_of_getElem? (i := 59) (by decide +kernel), by decide +kernel, by decide +kernel, by decide +kernel⟩
theorem miX9_scan : Cond.instanceMethod mX9_scan.1 ∈ lw_tbl := List.mem_of_getElem? (i := 1025) (by decide +kernel)
theorem mvX9_scan : Cond.selects mX9_scan.1.cls mX9_scan.1 mX9_scan.1 ∈ lw_tbl := List.mem_of_getElem? (i := 1026) (by decide +kernel)
def mX9_readToken : am_M := (yX9_readToken, cX9_readToken, 3, (Option.some Jvm.ClassFile.FieldType.boolean), 9, 0, false)
theorem mkX9_readToken : am_Mok mX9_readToken := ⟨List.mem_of_getElem? (i := 1031) (by decide +kernel), List.mem_of_getElem? (i := 59) (by decide +kernel), by decide +kernel, by decide +kernel, by decide +kernel⟩
theorem miX9_readToken : Cond.instanceMethod mX9_readToken.1 ∈ lw_tbl := List.mem_of_getElem? (i := 1030) (by decide +kernel)
theorem mvX9_readToken : Cond.selects mX9_readToken.1.cls mX9_readToken.1 mX9_readToken.1 ∈ lw_tbl := List.mem_of_getElem? (i := 16) (by decide +kernel)
def mX9_readKind : am_M := (yX9_readKind, cX9_readKind, 1, (Option.some Jvm.ClassFile.FieldType.int), 9, 0, false)
theorem mkX9_readKind : am_Mok mX9_readKind := ⟨List.mem_of_getElem? (i := 1039) (by decide +kernel), List.mem_of_getElem? (i := 59) (by decide +kernel), by decide +kernel, by decide +kernel, by decide +kernel⟩
theorem miX9_readKind : Cond.instanceMethod mX9_readKind.1 ∈ lw_tbl := List.mem_of_getElem? (i := 1038) (by decide +kernel)
theorem mvX9_readKind : Cond.selects mX9_readKind.1.cls mX9_readKind.1 mX9_readKind.1 ∈ lw_tbl := List.mem_of_getElem? (i := 18) (by decide +kernel)
def mX9_readWord : am_M := (yX9_readWord, cX9_readWord, 5, (Option.some Jvm.ClassFile.FieldType.int), 9, 0, false)
theorem mkX9_readWord : am_Mok mX9_readWord := ⟨List.mem_of_getElem? (i := 1046) (by decide +kernel), List.mem_of_getElem? (i := 59) (by decide +kernel), by decide +kernel, by decide +kernel, by decide +kernel⟩
theorem miX9_readWord : Cond.instanceMethod mX9_readWord.1 ∈ lw_tbl := List.mem_of_getElem? (i := 1045) (by decide +kernel)
theorem mvX9_readWord : Cond.selects mX9_readWord.1.cls mX9_readWord.1 mX9_readWord.1 ∈ lw_tbl := List.mem_of_getElem? (i := 19) (by decide +kernel)
def mX9_readNumber : am_M := (yX9_readNumber, cX9_readNumber, 4, (Option.some Jvm.ClassFile.FieldType.int), 9, 0, false)
theorem mkX9_readNumber : am_Mok mX9_readNumber := ⟨List.mem_of_getElem? (i := 1053) (by decide +kernel), List.mem_of_getElem? (i := 59) (by decide +kernel), by decide +kernel, by decide +kernel, by decide +kernel⟩
theorem miX9_readNumber : Cond.instanceMethod mX9_readNumber.1 ∈ lw_tbl := List.mem_of_getElem? (i := 1052) (by decide +kernel)
theorem mvX9_readNumber : Cond.selects mX9_readNumber.1.cls mX9_readNumber.1 mX9_readNumber.1 ∈ lw_tbl := List.mem_of_getElem? (i := 20) (by decide +kernel)
def mX9_readSymbol : am_M := (yX9_readSymbol, cX9_readSymbol, 3, (Option.some Jvm.ClassFile.FieldType.int), 9, 0, false)
theorem mkX9_readSymbol : am_Mok mX9_readSymbol := ⟨List.mem_of_getElem? (i := 1058) (by decide +kernel), List.mem_of_getElem? (i := 59) (by decide +kernel), by decide +kernel, by decide +kernel, by decide +kernel⟩
theorem miX9_readSymbol : Cond.instanceMethod mX9_readSymbol.1 ∈ lw_tbl := List.mem_of_getElem? (i := 1057) (by decide +kernel)
theorem mvX9_readSymbol : Cond.selects mX9_readSymbol.1.cls mX9_readSymbol.1 mX9_readSymbol.1 ∈ lw_tbl := List.mem_of_getElem? (i := 21) (by decide +kernel)
def mX9_byteHere : am_M := (yX9_byteHere, cX9_byteHere, 1, (Option.some Jvm.ClassFile.FieldType.int), 9, 0, false)
theorem mkX9_byteHere : am_Mok mX9_byteHere := ⟨List.mem_of_getElem? (i := 1035) (by decide +kernel), List.mem_of_getElem? (i := 59) (by decide +kernel), by decide +kernel, by decide +kernel, by decide +kernel⟩
theorem miX9_byteHere : Cond.instanceMethod mX9_byteHere.1 ∈ lw_tbl := List.mem_of_getElem? (i := 1034) (by decide +kernel)
theorem mvX9_byteHere : Cond.selects mX9_byteHere.1.cls mX9_byteHere.1 mX9_byteHere.1 ∈ lw_tbl := List.mem_of_getElem? (i := 17) (by decide +kernel)
def mX9_isLetter : am_M := (yX9_isLetter, cX9_isLetter, 1, (Option.some Jvm.ClassFile.FieldType.boolean), 9, 1, false)
theorem mkX9_isLetter : am_Mok mX9_isLetter := ⟨List.mem_of_getElem? (i := 1042) (by decide +kernel), List.mem_of_getElem? (i := 59) (by decide +kernel), by decide +kernel, by decide +kernel, by decide +kernel⟩
theorem msX9_isLetter : Cond.static mX9_isLetter.1 ∈ lw_tbl := List.mem_of_getElem? (i := 1041) (by decide +kernel)
def mX9_isDigit : am_M := (yX9_isDigit, cX9_isDigit, 1, (Option.some Jvm.ClassFile.FieldType.boolean), 9, 1, false)
theorem mkX9_isDigit : am_Mok mX9_isDigit := ⟨List.mem_of_getElem? (i := 1049) (by decide +kernel), List.mem_of_getElem? (i := 59) (by decide +kernel), by decide +kernel, by decide +kernel, by decide +kernel⟩
theorem msX9_isDigit : Cond.static mX9_isDigit.1 ∈ lw_tbl := List.mem_of_getElem? (i := 1048) (by decide +kernel)
def mX9_kindAt : am_M := (yX9_kindAt, cX9_kindAt, 2, (Option.some Jvm.ClassFile.FieldType.int), 9, 1, false)
theorem mkX9_kindAt : am_Mok mX9_kindAt := ⟨List.mem_of_getElem? (i := 1130) (by decide +kernel), List.mem_of_getElem? (i := 59) (by decide +kernel), by decide +kernel, by decide +kernel, by decide +kernel⟩
theorem miX9_kindAt : Cond.instanceMethod mX9_kindAt.1 ∈ lw_tbl := List.mem_of_getElem? (i := 1128) (by decide +kernel)
theorem mvX9_kindAt : Cond.selects mX9_kindAt.1.cls mX9_kindAt.1 mX9_kindAt.1 ∈ lw_tbl := List.mem_of_getElem? (i := 1129) (by decide +kernel)
def mX9_contentAt : am_M := (yX9_contentAt, cX9_contentAt, 2, (Option.some Jvm.ClassFile.FieldType.long), 9, 1, false)
theorem mkX9_contentAt : am_Mok mX9_contentAt := ⟨List.mem_of_getElem? (i := 1155) (by decide +kernel), List.mem_of_getElem? (i := 59) (by decide +kernel), by decide +kernel, by decide +kernel, by decide +kernel⟩
theorem miX9_contentAt : Cond.instanceMethod mX9_contentAt.1 ∈ lw_tbl := List.mem_of_getElem? (i := 1153) (by decide +kernel)
theorem mvX9_contentAt : Cond.selects mX9_contentAt.1.cls mX9_contentAt.1 mX9_contentAt.1 ∈ lw_tbl := List.mem_of_getElem? (i := 1154) (by decide +kernel)
def mX10_init : am_M := (yX10_init, cX10_init, 2, none, 10, 1, true)
theorem mkX10_init : am_Mok mX10_init := ⟨List.mem_of_getElem? (i := 297) (by decide +kernel), List.mem_of_getElem? (i := 62) (by decide +kernel), by decide +kernel, by decide +kernel, by decide +kernel⟩
theorem miX10_init : Cond.instanceMethod mX10_init.1 ∈ lw_tbl := List.mem_of_getElem? (i := 296) (by decide +kernel)
def mX10_forget : am_M := (yX10_forget, cX10_forget, 2, none, 10, 0, false)
theorem mkX10_forget : am_Mok mX10_forget := ⟨List.mem_of_getElem? (i := 1289) (by decide +kernel), List.mem_of_getElem? (i := 62) (by decide +kernel), by decide +kernel, by decide +kernel, by decide +kernel⟩
theorem miX10_forget : Cond.instanceMethod mX10_forget.1 ∈ lw_tbl := List.mem_of_getElem? (i := 1287) (by decide +kernel)
theorem mvX10_forget : Cond.selects mX10_forget.1.cls mX10_forget.1 mX10_forget.1 ∈ lw_tbl := List.mem_of_getElem? (i := 1288) (by decide +kernel)
def mX10_prepare : am_M := (yX10_prepare, cX10_prepare, 7, none, 10, 2, false)
theorem mkX10_prepare : am_Mok mX10_prepare := ⟨List.mem_of_getElem? (i := 575) (by decide +kernel), List.mem_of_getElem? (i := 62) (by decide +kernel), by decide +kernel, by decide +kernel, by decide +kernel⟩
theorem miX10_prepare : Cond.instanceMethod mX10_prepare.1 ∈ lw_tbl := List.mem_of_getElem? (i := 573) (by decide +kernel)
theorem mvX10_prepare : Cond.selects mX10_prepare.1.cls mX10_prepare.1 mX10_prepare.1 ∈ lw_tbl := List.mem_of_getElem? (i := 574) (by decide +kernel)
def mX10_valueKept : am_M := (yX10_valueKept, cX10_valueKept, 4, (Option.some Jvm.ClassFile.FieldType.int), 10, 3, false)
theorem mkX10_valueKept : am_Mok mX10_valueKept := ⟨List.mem_of_getElem? (i := 635) (by decide +kernel), List.mem_of_getElem? (i := 62) (by decide +kernel), by decide +kernel, by decide +kernel, by decide +kernel⟩
theorem miX10_valueKept : Cond.instanceMethod mX10_valueKept.1 ∈ lw_tbl := List.mem_of_getElem? (i := 633) (by decide +kernel)
theorem mvX10_valueKept : Cond.selects mX10_valueKept.1.cls mX10_valueKept.1 mX10_valueKept.1 ∈ lw_tbl := List.mem_of_getElem? (i := 634) (by decide +kernel)
def mX10_sheetOf : am_M := (yX10_sheetOf, cX10_sheetOf, 2, (Option.some Jvm.ClassFile.FieldType.int), 10, 2, false)
theorem mkX10_sheetOf : am_Mok mX10_sheetOf := ⟨List.mem_of_getElem? (i := 578) (by decide +kernel), List.mem_of_getElem? (i := 62) (by decide +kernel), by decide +kernel, by decide +kernel, by decide +kernel⟩
theorem msX10_sheetOf : Cond.static mX10_sheetOf.1 ∈ lw_tbl := List.mem_of_getElem? (i := 577) (by decide +kernel)
def mX10_valueAt : am_M := (yX10_valueAt, cX10_valueAt, 14, (Option.some Jvm.ClassFile.FieldType.int), 10, 4, false)
theorem mkX10_valueAt : am_Mok mX10_valueAt := ⟨List.mem_of_getElem? (i := 583) (by decide +kernel), List.mem_of_getElem? (i := 62) (by decide +kernel), by decide +kernel, by decide +kernel, by decide +kernel⟩
theorem miX10_valueAt : Cond.instanceMethod mX10_valueAt.1 ∈ lw_tbl := List.mem_of_getElem? (i := 581) (by decide +kernel)
theorem mvX10_valueAt : Cond.selects mX10_valueAt.1.cls mX10_valueAt.1 mX10_valueAt.1 ∈ lw_tbl := List.mem_of_getElem? (i := 582) (by decide +kernel)
def mX10_gradientAt : am_M := (yX10_gradientAt, cX10_gradientAt, 7, (Option.some Jvm.ClassFile.FieldType.int), 10, 4, false)
theorem mkX10_gradientAt : am_Mok mX10_gradientAt := ⟨List.mem_of_getElem? (i := 594) (by decide +kernel), List.mem_of_getElem? (i := 62) (by decide +kernel), by decide +kernel, by decide +kernel, by decide +kernel⟩
theorem miX10_gradientAt : Cond.instanceMethod mX10_gradientAt.1 ∈ lw_tbl := List.mem_of_getElem? (i := 592) (by decide +kernel)
theorem mvX10_gradientAt : Cond.selects mX10_gradientAt.1.cls mX10_gradientAt.1 mX10_gradientAt.1 ∈ lw_tbl := List.mem_of_getElem? (i := 593) (by decide +kernel)
def mX10_pullOf : am_M := (yX10_pullOf, cX10_pullOf, 3, (Option.some Jvm.ClassFile.FieldType.int), 10, 3, false)
theorem mkX10_pullOf : am_Mok mX10_pullOf := ⟨List.mem_of_getElem? (i := 603) (by decide +kernel), List.mem_of_getElem? (i := 62) (by decide +kernel), by decide +kernel, by decide +kernel, by decide +kernel⟩
theorem msX10_pullOf : Cond.static mX10_pullOf.1 ∈ lw_tbl := List.mem_of_getElem? (i := 602) (by decide +kernel)
def mX10_fade : am_M := (yX10_fade, cX10_fade, 1, (Option.some Jvm.ClassFile.FieldType.int), 10, 1, false)
theorem mkX10_fade : am_Mok mX10_fade := ⟨List.mem_of_getElem? (i := 589) (by decide +kernel), List.mem_of_getElem? (i := 62) (by decide +kernel), by decide +kernel, by decide +kernel, by decide +kernel⟩
theorem msX10_fade : Cond.static mX10_fade.1 ∈ lw_tbl := List.mem_of_getElem? (i := 588) (by decide +kernel)
def mX10_between : am_M := (yX10_between, cX10_between, 3, (Option.some Jvm.ClassFile.FieldType.int), 10, 3, false)
theorem mkX10_between : am_Mok mX10_between := ⟨List.mem_of_getElem? (i := 610) (by decide +kernel), List.mem_of_getElem? (i := 62) (by decide +kernel), by decide +kernel, by decide +kernel, by decide +kernel⟩
theorem msX10_between : Cond.static mX10_between.1 ∈ lw_tbl := List.mem_of_getElem? (i := 609) (by decide +kernel)
def mX11_init : am_M := (yX11_init, cX11_init, 4, none, 11, 0, true)
theorem mkX11_init : am_Mok mX11_init := ⟨List.mem_of_getElem? (i := 80) (by decide +kernel), List.mem_of_getElem? (i := 58) (by decide +kernel), by decide +kernel, by decide +kernel, by decide +kernel⟩
theorem miX11_init : Cond.instanceMethod mX11_init.1 ∈ lw_tbl := List.mem_of_getElem? (i := 79) (by decide +kernel)
def mX11_feed : am_M := (yX11_feed, cX11_feed, 6, (Option.some Jvm.ClassFile.FieldType.int), 11, 5, false)
theorem mkX11_feed : am_Mok mX11_feed := ⟨List.mem_of_getElem? (i := 995) (by decide +kernel), List.mem_of_getElem? (i := 58) (by decide +kernel), by decide +kernel, by decide +kernel, by decide +kernel⟩
theorem miX11_feed : Cond.instanceMethod mX11_feed.1 ∈ lw_tbl := List.mem_of_getElem? (i := 993) (by decide +kernel)
theorem mvX11_feed : Cond.selects mX11_feed.1.cls mX11_feed.1 mX11_feed.1 ∈ lw_tbl := List.mem_of_getElem? (i := 994) (by decide +kernel)
def mX11_trim : am_M := (yX11_trim, cX11_trim, 2, (Option.some Jvm.ClassFile.FieldType.int), 11, 1, false)
theorem mkX11_trim : am_Mok mX11_trim := ⟨List.mem_of_getElem? (i := 988) (by decide +kernel), List.mem_of_getElem? (i := 58) (by decide +kernel), by decide +kernel, by decide +kernel, by decide +kernel⟩
theorem miX11_trim : Cond.instanceMethod mX11_trim.1 ∈ lw_tbl := List.mem_of_getElem? (i := 986) (by decide +kernel)
theorem mvX11_trim : Cond.selects mX11_trim.1.cls mX11_trim.1 mX11_trim.1 ∈ lw_tbl := List.mem_of_getElem? (i := 987) (by decide +kernel)
def mX11_teach : am_M := (yX11_teach, cX11_teach, 2, (Option.some Jvm.ClassFile.FieldType.int), 11, 0, false)
theorem mkX11_teach : am_Mok mX11_teach := ⟨List.mem_of_getElem? (i := 1019) (by decide +kernel), List.mem_of_getElem? (i := 58) (by decide +kernel), by decide +kernel, by decide +kernel, by decide +kernel⟩
theorem miX11_teach : Cond.instanceMethod mX11_teach.1 ∈ lw_tbl := List.mem_of_getElem? (i := 1017) (by decide +kernel)
theorem mvX11_teach : Cond.selects mX11_teach.1.cls mX11_teach.1 mX11_teach.1 ∈ lw_tbl := List.mem_of_getElem? (i := 1018) (by decide +kernel)
def mX11_count : am_M := (yX11_count, cX11_count, 2, (Option.some Jvm.ClassFile.FieldType.int), 11, 1, false)
theorem mkX11_count : am_Mok mX11_count := ⟨List.mem_of_getElem? (i := 493) (by decide +kernel), List.mem_of_getElem? (i := 58) (by decide +kernel), by decide +kernel, by decide +kernel, by decide +kernel⟩
theorem miX11_count : Cond.instanceMethod mX11_count.1 ∈ lw_tbl := List.mem_of_getElem? (i := 491) (by decide +kernel)
theorem mvX11_count : Cond.selects mX11_count.1.cls mX11_count.1 mX11_count.1 ∈ lw_tbl := List.mem_of_getElem? (i := 492) (by decide +kernel)
def mX11_height : am_M := (yX11_height, cX11_height, 3, (Option.some Jvm.ClassFile.FieldType.int), 11, 2, false)
theorem mkX11_height : am_Mok mX11_height := ⟨List.mem_of_getElem? (i := 692) (by decide +kernel), List.mem_of_getElem? (i := 58) (by decide +kernel), by decide +kernel, by decide +kernel, by decide +kernel⟩
theorem miX11_height : Cond.instanceMethod mX11_height.1 ∈ lw_tbl := List.mem_of_getElem? (i := 690) (by decide +kernel)
theorem mvX11_height : Cond.selects mX11_height.1.cls mX11_height.1 mX11_height.1 ∈ lw_tbl := List.mem_of_getElem? (i := 691) (by decide +kernel)
def mX11_ink : am_M := (yX11_ink, cX11_ink, 3, (Option.some Jvm.ClassFile.FieldType.int), 11, 2, false)
theorem mkX11_ink : am_Mok mX11_ink := ⟨List.mem_of_getElem? (i := 699) (by decide +kernel), List.mem_of_getElem? (i := 58) (by decide +kernel), by decide +kernel, by decide +kernel, by decide +kernel⟩
theorem miX11_ink : Cond.instanceMethod mX11_ink.1 ∈ lw_tbl := List.mem_of_getElem? (i := 697) (by decide +kernel)
theorem mvX11_ink : Cond.selects mX11_ink.1.cls mX11_ink.1 mX11_ink.1 ∈ lw_tbl := List.mem_of_getElem? (i := 698) (by decide +kernel)
def mX11_patch : am_M := (yX11_patch, cX11_patch, 3, (Option.some Jvm.ClassFile.FieldType.int), 11, 2, false)
theorem mkX11_patch : am_Mok mX11_patch := ⟨List.mem_of_getElem? (i := 703) (by decide +kernel), List.mem_of_getElem? (i := 58) (by decide +kernel), by decide +kernel, by decide +kernel, by decide +kernel⟩
theorem miX11_patch : Cond.instanceMethod mX11_patch.1 ∈ lw_tbl := List.mem_of_getElem? (i := 701) (by decide +kernel)
theorem mvX11_patch : Cond.selects mX11_patch.1.cls mX11_patch.1 mX11_patch.1 ∈ lw_tbl := List.mem_of_getElem? (i := 702) (by decide +kernel)
def mX11_whence : am_M := (yX11_whence, cX11_whence, 3, (Option.some Jvm.ClassFile.FieldType.int), 11, 2, false)
theorem mkX11_whence : am_Mok mX11_whence := ⟨List.mem_of_getElem? (i := 711) (by decide +kernel), List.mem_of_getElem? (i := 58) (by decide +kernel), by decide +kernel, by decide +kernel, by decide +kernel⟩
theorem miX11_whence : Cond.instanceMethod mX11_whence.1 ∈ lw_tbl := List.mem_of_getElem? (i := 709) (by decide +kernel)
theorem mvX11_whence : Cond.selects mX11_whence.1.cls mX11_whence.1 mX11_whence.1 ∈ lw_tbl := List.mem_of_getElem? (i := 710) (by decide +kernel)
def mX11_share : am_M := (yX11_share, cX11_share, 2, (Option.some Jvm.ClassFile.FieldType.int), 11, 1, false)
theorem mkX11_share : am_Mok mX11_share := ⟨List.mem_of_getElem? (i := 716) (by decide +kernel), List.mem_of_getElem? (i := 58) (by decide +kernel), by decide +kernel, by decide +kernel, by decide +kernel⟩
theorem miX11_share : Cond.instanceMethod mX11_share.1 ∈ lw_tbl := List.mem_of_getElem? (i := 714) (by decide +kernel)
theorem mvX11_share : Cond.selects mX11_share.1.cls mX11_share.1 mX11_share.1 ∈ lw_tbl := List.mem_of_getElem? (i := 715) (by decide +kernel)
def mX11_octave : am_M := (yX11_octave, cX11_octave, 3, (Option.some Jvm.ClassFile.FieldType.int), 11, 2, false)
theorem mkX11_octave : am_Mok mX11_octave := ⟨List.mem_of_getElem? (i := 970) (by decide +kernel), List.mem_of_getElem? (i := 58) (by decide +kernel), by decide +kernel, by decide +kernel, by decide +kernel⟩
theorem miX11_octave : Cond.instanceMethod mX11_octave.1 ∈ lw_tbl := List.mem_of_getElem? (i := 968) (by decide +kernel)
theorem mvX11_octave : Cond.selects mX11_octave.1.cls mX11_octave.1 mX11_octave.1 ∈ lw_tbl := List.mem_of_getElem? (i := 969) (by decide +kernel)
def mX11_comb : am_M := (yX11_comb, cX11_comb, 3, (Option.some Jvm.ClassFile.FieldType.int), 11, 2, false)
theorem mkX11_comb : am_Mok mX11_comb := ⟨List.mem_of_getElem? (i := 721) (by decide +kernel), List.mem_of_getElem? (i := 58) (by decide +kernel), by decide +kernel, by decide +kernel, by decide +kernel⟩
theorem miX11_comb : Cond.instanceMethod mX11_comb.1 ∈ lw_tbl := List.mem_of_getElem? (i := 719) (by decide +kernel)
theorem mvX11_comb : Cond.selects mX11_comb.1.cls mX11_comb.1 mX11_comb.1 ∈ lw_tbl := List.mem_of_getElem? (i := 720) (by decide +kernel)
def mX11_moves : am_M := (yX11_moves, cX11_moves, 3, (Option.some Jvm.ClassFile.FieldType.int), 11, 2, false)
theorem mkX11_moves : am_Mok mX11_moves := ⟨List.mem_of_getElem? (i := 730) (by decide +kernel), List.mem_of_getElem? (i := 58) (by decide +kernel), by decide +kernel, by decide +kernel, by decide +kernel⟩
theorem miX11_moves : Cond.instanceMethod mX11_moves.1 ∈ lw_tbl := List.mem_of_getElem? (i := 728) (by decide +kernel)
theorem mvX11_moves : Cond.selects mX11_moves.1.cls mX11_moves.1 mX11_moves.1 ∈ lw_tbl := List.mem_of_getElem? (i := 729) (by decide +kernel)
def mX11_setPull : am_M := (yX11_setPull, cX11_setPull, 4, (Option.some Jvm.ClassFile.FieldType.int), 11, 2, false)
theorem mkX11_setPull : am_Mok mX11_setPull := ⟨List.mem_of_getElem? (i := 1595) (by decide +kernel), List.mem_of_getElem? (i := 58) (by decide +kernel), by decide +kernel, by decide +kernel, by decide +kernel⟩
theorem miX11_setPull : Cond.instanceMethod mX11_setPull.1 ∈ lw_tbl := List.mem_of_getElem? (i := 1593) (by decide +kernel)
theorem mvX11_setPull : Cond.selects mX11_setPull.1.cls mX11_setPull.1 mX11_setPull.1 ∈ lw_tbl := List.mem_of_getElem? (i := 1594) (by decide +kernel)
def mX11_setSeed : am_M := (yX11_setSeed, cX11_setSeed, 4, (Option.some Jvm.ClassFile.FieldType.int), 11, 2, false)
theorem mkX11_setSeed : am_Mok mX11_setSeed := ⟨List.mem_of_getElem? (i := 1600) (by decide +kernel), List.mem_of_getElem? (i := 58) (by decide +kernel), by decide +kernel, by decide +kernel, by decide +kernel⟩
theorem miX11_setSeed : Cond.instanceMethod mX11_setSeed.1 ∈ lw_tbl := List.mem_of_getElem? (i := 1598) (by decide +kernel)
theorem mvX11_setSeed : Cond.selects mX11_setSeed.1.cls mX11_setSeed.1 mX11_setSeed.1 ∈ lw_tbl := List.mem_of_getElem? (i := 1599) (by decide +kernel)
def mX11_drift : am_M := (yX11_drift, cX11_drift, 3, (Option.some Jvm.ClassFile.FieldType.int), 11, 2, false)
theorem mkX11_drift : am_Mok mX11_drift := ⟨List.mem_of_getElem? (i := 1607) (by decide +kernel), List.mem_of_getElem? (i := 58) (by decide +kernel), by decide +kernel, by decide +kernel, by decide +kernel⟩
theorem miX11_drift : Cond.instanceMethod mX11_drift.1 ∈ lw_tbl := List.mem_of_getElem? (i := 1605) (by decide +kernel)
theorem mvX11_drift : Cond.selects mX11_drift.1.cls mX11_drift.1 mX11_drift.1 ∈ lw_tbl := List.mem_of_getElem? (i := 1606) (by decide +kernel)
def mX11_dip : am_M := (yX11_dip, cX11_dip, 4, (Option.some Jvm.ClassFile.FieldType.int), 11, 1, false)
theorem mkX11_dip : am_Mok mX11_dip := ⟨List.mem_of_getElem? (i := 741) (by decide +kernel), List.mem_of_getElem? (i := 58) (by decide +kernel), by decide +kernel, by decide +kernel, by decide +kernel⟩
theorem miX11_dip : Cond.instanceMethod mX11_dip.1 ∈ lw_tbl := List.mem_of_getElem? (i := 739) (by decide +kernel)
theorem mvX11_dip : Cond.selects mX11_dip.1.cls mX11_dip.1 mX11_dip.1 ∈ lw_tbl := List.mem_of_getElem? (i := 740) (by decide +kernel)
def mX11_foresee : am_M := (yX11_foresee, cX11_foresee, 4, (Option.some Jvm.ClassFile.FieldType.int), 11, 2, false)
theorem mkX11_foresee : am_Mok mX11_foresee := ⟨List.mem_of_getElem? (i := 831) (by decide +kernel), List.mem_of_getElem? (i := 58) (by decide +kernel), by decide +kernel, by decide +kernel, by decide +kernel⟩
theorem miX11_foresee : Cond.instanceMethod mX11_foresee.1 ∈ lw_tbl := List.mem_of_getElem? (i := 829) (by decide +kernel)
theorem mvX11_foresee : Cond.selects mX11_foresee.1.cls mX11_foresee.1 mX11_foresee.1 ∈ lw_tbl := List.mem_of_getElem? (i := 830) (by decide +kernel)
def mX11_until : am_M := (yX11_until, cX11_until, 6, (Option.some Jvm.ClassFile.FieldType.int), 11, 3, false)
theorem mkX11_until : am_Mok mX11_until := ⟨List.mem_of_getElem? (i := 850) (by decide +kernel), List.mem_of_getElem? (i := 58) (by decide +kernel), by decide +kernel, by decide +kernel, by decide +kernel⟩
theorem miX11_until : Cond.instanceMethod mX11_until.1 ∈ lw_tbl := List.mem_of_getElem? (i := 848) (by decide +kernel)
theorem mvX11_until : Cond.selects mX11_until.1.cls mX11_until.1 mX11_until.1 ∈ lw_tbl := List.mem_of_getElem? (i := 849) (by decide +kernel)
def mX11_advise : am_M := (yX11_advise, cX11_advise, 5, (Option.some Jvm.ClassFile.FieldType.int), 11, 1, false)
theorem mkX11_advise : am_Mok mX11_advise := ⟨List.mem_of_getElem? (i := 854) (by decide +kernel), List.mem_of_getElem? (i := 58) (by decide +kernel), by decide +kernel, by decide +kernel, by decide +kernel⟩
theorem miX11_advise : Cond.instanceMethod mX11_advise.1 ∈ lw_tbl := List.mem_of_getElem? (i := 852) (by decide +kernel)
theorem mvX11_advise : Cond.selects mX11_advise.1.cls mX11_advise.1 mX11_advise.1 ∈ lw_tbl := List.mem_of_getElem? (i := 853) (by decide +kernel)
def mX11_mean : am_M := (yX11_mean, cX11_mean, 4, (Option.some Jvm.ClassFile.FieldType.double), 11, 0, false)
theorem mkX11_mean : am_Mok mX11_mean := ⟨List.mem_of_getElem? (i := 859) (by decide +kernel), List.mem_of_getElem? (i := 58) (by decide +kernel), by decide +kernel, by decide +kernel, by decide +kernel⟩
theorem miX11_mean : Cond.instanceMethod mX11_mean.1 ∈ lw_tbl := List.mem_of_getElem? (i := 857) (by decide +kernel)
theorem mvX11_mean : Cond.selects mX11_mean.1.cls mX11_mean.1 mX11_mean.1 ∈ lw_tbl := List.mem_of_getElem? (i := 858) (by decide +kernel)
def mX11_digest : am_M := (yX11_digest, cX11_digest, 5, (Option.some Jvm.ClassFile.FieldType.long), 11, 0, false)
theorem mkX11_digest : am_Mok mX11_digest := ⟨List.mem_of_getElem? (i := 863) (by decide +kernel), List.mem_of_getElem? (i := 58) (by decide +kernel), by decide +kernel, by decide +kernel, by decide +kernel⟩
theorem miX11_digest : Cond.instanceMethod mX11_digest.1 ∈ lw_tbl := List.mem_of_getElem? (i := 861) (by decide +kernel)
theorem mvX11_digest : Cond.selects mX11_digest.1.cls mX11_digest.1 mX11_digest.1 ∈ lw_tbl := List.mem_of_getElem? (i := 862) (by decide +kernel)
def mX12_init : am_M := (yX12_init, cX12_init, 1, none, 12, 0, true)
theorem mkX12_init : am_Mok mX12_init := ⟨List.mem_of_getElem? (i := 1300) (by decide +kernel), List.mem_of_getElem? (i := 50) (by decide +kernel), by decide +kernel, by decide +kernel, by decide +kernel⟩
theorem miX12_init : Cond.instanceMethod mX12_init.1 ∈ lw_tbl := List.mem_of_getElem? (i := 1299) (by decide +kernel)
def mX12_with : am_M := (yX12_with, cX12_with, 4, (Option.some (Jvm.ClassFile.FieldType.array (Jvm.ClassFile.FieldType.array Jvm.ClassFile.FieldType.int))), 12, 2, false)
theorem mkX12_with : am_Mok mX12_with := ⟨List.mem_of_getElem? (i := 1469) (by decide +kernel), List.mem_of_getElem? (i := 50) (by decide +kernel), by decide +kernel, by decide +kernel, by decide +kernel⟩
theorem msX12_with : Cond.static mX12_with.1 ∈ lw_tbl := List.mem_of_getElem? (i := 1468) (by decide +kernel)
def mX12_gradient : am_M := (yX12_gradient, cX12_gradient, 5, (Option.some Jvm.ClassFile.FieldType.int), 12, 3, false)
theorem mkX12_gradient : am_Mok mX12_gradient := ⟨List.mem_of_getElem? (i := 885) (by decide +kernel), List.mem_of_getElem? (i := 50) (by decide +kernel), by decide +kernel, by decide +kernel, by decide +kernel⟩
theorem msX12_gradient : Cond.static mX12_gradient.1 ∈ lw_tbl := List.mem_of_getElem? (i := 884) (by decide +kernel)
def mX12_mixed : am_M := (yX12_mixed, cX12_mixed, 3, (Option.some Jvm.ClassFile.FieldType.int), 12, 3, false)
theorem mkX12_mixed : am_Mok mX12_mixed := ⟨List.mem_of_getElem? (i := 888) (by decide +kernel), List.mem_of_getElem? (i := 50) (by decide +kernel), by decide +kernel, by decide +kernel, by decide +kernel⟩
theorem msX12_mixed : Cond.static mX12_mixed.1 ∈ lw_tbl := List.mem_of_getElem? (i := 887) (by decide +kernel)
def mX12_value : am_M := (yX12_value, cX12_value, 8, (Option.some Jvm.ClassFile.FieldType.int), 12, 3, false)
theorem mkX12_value : am_Mok mX12_value := ⟨List.mem_of_getElem? (i := 877) (by decide +kernel), List.mem_of_getElem? (i := 50) (by decide +kernel), by decide +kernel, by decide +kernel, by decide +kernel⟩
theorem miX12_value : Cond.instanceMethod mX12_value.1 ∈ lw_tbl := List.mem_of_getElem? (i := 875) (by decide +kernel)
theorem mvX12_value : Cond.selects mX12_value.1.cls mX12_value.1 mX12_value.1 ∈ lw_tbl := List.mem_of_getElem? (i := 876) (by decide +kernel)
def mX12_pulled : am_M := (yX12_pulled, cX12_pulled, 8, (Option.some Jvm.ClassFile.FieldType.int), 12, 5, false)
theorem mkX12_pulled : am_Mok mX12_pulled := ⟨List.mem_of_getElem? (i := 880) (by decide +kernel), List.mem_of_getElem? (i := 50) (by decide +kernel), by decide +kernel, by decide +kernel, by decide +kernel⟩
theorem msX12_pulled : Cond.static mX12_pulled.1 ∈ lw_tbl := List.mem_of_getElem? (i := 879) (by decide +kernel)
def mX12_moves : am_M := (yX12_moves, cX12_moves, 5, (Option.some Jvm.ClassFile.FieldType.int), 12, 2, false)
theorem mkX12_moves : am_Mok mX12_moves := ⟨List.mem_of_getElem? (i := 914) (by decide +kernel), List.mem_of_getElem? (i := 50) (by decide +kernel), by decide +kernel, by decide +kernel, by decide +kernel⟩
theorem miX12_moves : Cond.instanceMethod mX12_moves.1 ∈ lw_tbl := List.mem_of_getElem? (i := 912) (by decide +kernel)
theorem mvX12_moves : Cond.selects mX12_moves.1.cls mX12_moves.1 mX12_moves.1 ∈ lw_tbl := List.mem_of_getElem? (i := 913) (by decide +kernel)
def mX12_heightOf : am_M := (yX12_heightOf, cX12_heightOf, 8, (Option.some Jvm.ClassFile.FieldType.int), 12, 2, false)
theorem mkX12_heightOf : am_Mok mX12_heightOf := ⟨List.mem_of_getElem? (i := 873) (by decide +kernel), List.mem_of_getElem? (i := 50) (by decide +kernel), by decide +kernel, by decide +kernel, by decide +kernel⟩
theorem miX12_heightOf : Cond.instanceMethod mX12_heightOf.1 ∈ lw_tbl := List.mem_of_getElem? (i := 871) (by decide +kernel)
theorem mvX12_heightOf : Cond.selects mX12_heightOf.1.cls mX12_heightOf.1 mX12_heightOf.1 ∈ lw_tbl := List.mem_of_getElem? (i := 872) (by decide +kernel)
def mX12_came : am_M := (yX12_came, cX12_came, 9, (Option.some (Jvm.ClassFile.FieldType.array Jvm.ClassFile.FieldType.int)), 12, 0, false)
theorem mkX12_came : am_Mok mX12_came := ⟨List.mem_of_getElem? (i := 910) (by decide +kernel), List.mem_of_getElem? (i := 50) (by decide +kernel), by decide +kernel, by decide +kernel, by decide +kernel⟩
theorem miX12_came : Cond.instanceMethod mX12_came.1 ∈ lw_tbl := List.mem_of_getElem? (i := 908) (by decide +kernel)
theorem mvX12_came : Cond.selects mX12_came.1.cls mX12_came.1 mX12_came.1 ∈ lw_tbl := List.mem_of_getElem? (i := 909) (by decide +kernel)
def mX12_heights : am_M := (yX12_heights, cX12_heights, 3, (Option.some (Jvm.ClassFile.FieldType.array Jvm.ClassFile.FieldType.int)), 12, 0, false)
theorem mkX12_heights : am_Mok mX12_heights := ⟨List.mem_of_getElem? (i := 906) (by decide +kernel), List.mem_of_getElem? (i := 50) (by decide +kernel), by decide +kernel, by decide +kernel, by decide +kernel⟩
theorem miX12_heights : Cond.instanceMethod mX12_heights.1 ∈ lw_tbl := List.mem_of_getElem? (i := 904) (by decide +kernel)
theorem mvX12_heights : Cond.selects mX12_heights.1.cls mX12_heights.1 mX12_heights.1 ∈ lw_tbl := List.mem_of_getElem? (i := 905) (by decide +kernel)
def mX12_inkOf : am_M := (yX12_inkOf, cX12_inkOf, 7, (Option.some Jvm.ClassFile.FieldType.int), 12, 1, false)
theorem mkX12_inkOf : am_Mok mX12_inkOf := ⟨List.mem_of_getElem? (i := 893) (by decide +kernel), List.mem_of_getElem? (i := 50) (by decide +kernel), by decide +kernel, by decide +kernel, by decide +kernel⟩
theorem miX12_inkOf : Cond.instanceMethod mX12_inkOf.1 ∈ lw_tbl := List.mem_of_getElem? (i := 891) (by decide +kernel)
theorem mvX12_inkOf : Cond.selects mX12_inkOf.1.cls mX12_inkOf.1 mX12_inkOf.1 ∈ lw_tbl := List.mem_of_getElem? (i := 892) (by decide +kernel)
def mX12_inks : am_M := (yX12_inks, cX12_inks, 1, (Option.some (Jvm.ClassFile.FieldType.array Jvm.ClassFile.FieldType.int)), 12, 0, false)
theorem mkX12_inks : am_Mok mX12_inks := ⟨List.mem_of_getElem? (i := 919) (by decide +kernel), List.mem_of_getElem? (i := 50) (by decide +kernel), by decide +kernel, by decide +kernel, by decide +kernel⟩
theorem miX12_inks : Cond.instanceMethod mX12_inks.1 ∈ lw_tbl := List.mem_of_getElem? (i := 917) (by decide +kernel)
theorem mvX12_inks : Cond.selects mX12_inks.1.cls mX12_inks.1 mX12_inks.1 ∈ lw_tbl := List.mem_of_getElem? (i := 918) (by decide +kernel)
def mX12_inks_ : am_M := (yX12_inks_, cX12_inks_, 4, (Option.some (Jvm.ClassFile.FieldType.array Jvm.ClassFile.FieldType.int)), 12, 1, false)
theorem mkX12_inks_ : am_Mok mX12_inks_ := ⟨List.mem_of_getElem? (i := 923) (by decide +kernel), List.mem_of_getElem? (i := 50) (by decide +kernel), by decide +kernel, by decide +kernel, by decide +kernel⟩
theorem miX12_inks_ : Cond.instanceMethod mX12_inks_.1 ∈ lw_tbl := List.mem_of_getElem? (i := 921) (by decide +kernel)
theorem mvX12_inks_ : Cond.selects mX12_inks_.1.cls mX12_inks_.1 mX12_inks_.1 ∈ lw_tbl := List.mem_of_getElem? (i := 922) (by decide +kernel)
def mX12_right : am_M := (yX12_right, cX12_right, 2, (Option.some Jvm.ClassFile.FieldType.int), 12, 1, false)
theorem mkX12_right : am_Mok mX12_right := ⟨List.mem_of_getElem? (i := 955) (by decide +kernel), List.mem_of_getElem? (i := 50) (by decide +kernel), by decide +kernel, by decide +kernel, by decide +kernel⟩
theorem miX12_right : Cond.instanceMethod mX12_right.1 ∈ lw_tbl := List.mem_of_getElem? (i := 953) (by decide +kernel)
theorem mvX12_right : Cond.selects mX12_right.1.cls mX12_right.1 mX12_right.1 ∈ lw_tbl := List.mem_of_getElem? (i := 954) (by decide +kernel)
def mX12_under : am_M := (yX12_under, cX12_under, 2, (Option.some Jvm.ClassFile.FieldType.int), 12, 1, false)
theorem mkX12_under : am_Mok mX12_under := ⟨List.mem_of_getElem? (i := 959) (by decide +kernel), List.mem_of_getElem? (i := 50) (by decide +kernel), by decide +kernel, by decide +kernel, by decide +kernel⟩
theorem miX12_under : Cond.instanceMethod mX12_under.1 ∈ lw_tbl := List.mem_of_getElem? (i := 957) (by decide +kernel)
theorem mvX12_under : Cond.selects mX12_under.1.cls mX12_under.1 mX12_under.1 ∈ lw_tbl := List.mem_of_getElem? (i := 958) (by decide +kernel)
def mX12_patches : am_M := (yX12_patches, cX12_patches, 7, (Option.some (Jvm.ClassFile.FieldType.array Jvm.ClassFile.FieldType.int)), 12, 1, false)
theorem mkX12_patches : am_Mok mX12_patches := ⟨List.mem_of_getElem? (i := 951) (by decide +kernel), List.mem_of_getElem? (i := 50) (by decide +kernel), by decide +kernel, by decide +kernel, by decide +kernel⟩
theorem miX12_patches : Cond.instanceMethod mX12_patches.1 ∈ lw_tbl := List.mem_of_getElem? (i := 949) (by decide +kernel)
theorem mvX12_patches : Cond.selects mX12_patches.1.cls mX12_patches.1 mX12_patches.1 ∈ lw_tbl := List.mem_of_getElem? (i := 950) (by decide +kernel)
def mX12_many : am_M := (yX12_many, cX12_many, 7, (Option.some Jvm.ClassFile.FieldType.int), 12, 2, false)
theorem mkX12_many : am_Mok mX12_many := ⟨List.mem_of_getElem? (i := 927) (by decide +kernel), List.mem_of_getElem? (i := 50) (by decide +kernel), by decide +kernel, by decide +kernel, by decide +kernel⟩
theorem msX12_many : Cond.static mX12_many.1 ∈ lw_tbl := List.mem_of_getElem? (i := 926) (by decide +kernel)
def mX12_counts : am_M := (yX12_counts, cX12_counts, 9, (Option.some (Jvm.ClassFile.FieldType.array Jvm.ClassFile.FieldType.int)), 12, 0, false)
theorem mkX12_counts : am_Mok mX12_counts := ⟨List.mem_of_getElem? (i := 947) (by decide +kernel), List.mem_of_getElem? (i := 50) (by decide +kernel), by decide +kernel, by decide +kernel, by decide +kernel⟩
theorem miX12_counts : Cond.instanceMethod mX12_counts.1 ∈ lw_tbl := List.mem_of_getElem? (i := 945) (by decide +kernel)
theorem mvX12_counts : Cond.selects mX12_counts.1.cls mX12_counts.1 mX12_counts.1 ∈ lw_tbl := List.mem_of_getElem? (i := 946) (by decide +kernel)
def mX12_sum : am_M := (yX12_sum, cX12_sum, 3, (Option.some Jvm.ClassFile.FieldType.int), 12, 1, false)
theorem mkX12_sum : am_Mok mX12_sum := ⟨List.mem_of_getElem? (i := 935) (by decide +kernel), List.mem_of_getElem? (i := 50) (by decide +kernel), by decide +kernel, by decide +kernel, by decide +kernel⟩
theorem miX12_sum : Cond.instanceMethod mX12_sum.1 ∈ lw_tbl := List.mem_of_getElem? (i := 934) (by decide +kernel)
theorem mvX12_sum : Cond.selects mX12_sum.1.cls mX12_sum.1 mX12_sum.1 ∈ lw_tbl := List.mem_of_getElem? (i := 15) (by decide +kernel)
def mX12_holds : am_M := (yX12_holds, cX12_holds, 6, (Option.some Jvm.ClassFile.FieldType.boolean), 12, 1, false)
theorem mkX12_holds : am_Mok mX12_holds := ⟨List.mem_of_getElem? (i := 902) (by decide +kernel), List.mem_of_getElem? (i := 50) (by decide +kernel), by decide +kernel, by decide +kernel, by decide +kernel⟩
theorem miX12_holds : Cond.instanceMethod mX12_holds.1 ∈ lw_tbl := List.mem_of_getElem? (i := 900) (by decide +kernel)
theorem mvX12_holds : Cond.selects mX12_holds.1.cls mX12_holds.1 mX12_holds.1 ∈ lw_tbl := List.mem_of_getElem? (i := 13) (by decide +kernel)
def mX12_held : am_M := (yX12_held, cX12_held, 2, (Option.some Jvm.ClassFile.FieldType.int), 12, 2, false)
theorem mkX12_held : am_Mok mX12_held := ⟨List.mem_of_getElem? (i := 938) (by decide +kernel), List.mem_of_getElem? (i := 50) (by decide +kernel), by decide +kernel, by decide +kernel, by decide +kernel⟩
theorem msX12_held : Cond.static mX12_held.1 ∈ lw_tbl := List.mem_of_getElem? (i := 937) (by decide +kernel)
def mX12_does : am_M := (yX12_does, cX12_does, 5, (Option.some Jvm.ClassFile.FieldType.boolean), 12, 1, false)
theorem mkX12_does : am_Mok mX12_does := ⟨List.mem_of_getElem? (i := 931) (by decide +kernel), List.mem_of_getElem? (i := 50) (by decide +kernel), by decide +kernel, by decide +kernel, by decide +kernel⟩
theorem miX12_does : Cond.instanceMethod mX12_does.1 ∈ lw_tbl := List.mem_of_getElem? (i := 930) (by decide +kernel)
theorem mvX12_does : Cond.selects mX12_does.1.cls mX12_does.1 mX12_does.1 ∈ lw_tbl := List.mem_of_getElem? (i := 14) (by decide +kernel)
def mX12_dip : am_M := (yX12_dip, cX12_dip, 5, none, 12, 0, false)
theorem mkX12_dip : am_Mok mX12_dip := ⟨List.mem_of_getElem? (i := 897) (by decide +kernel), List.mem_of_getElem? (i := 50) (by decide +kernel), by decide +kernel, by decide +kernel, by decide +kernel⟩
theorem miX12_dip : Cond.instanceMethod mX12_dip.1 ∈ lw_tbl := List.mem_of_getElem? (i := 895) (by decide +kernel)
theorem mvX12_dip : Cond.selects mX12_dip.1.cls mX12_dip.1 mX12_dip.1 ∈ lw_tbl := List.mem_of_getElem? (i := 896) (by decide +kernel)
def mX12_isSame : am_M := (yX12_isSame, cX12_isSame, 11, (Option.some Jvm.ClassFile.FieldType.boolean), 12, 1, false)
theorem mkX12_isSame : am_Mok mX12_isSame := ⟨List.mem_of_getElem? (i := 943) (by decide +kernel), List.mem_of_getElem? (i := 50) (by decide +kernel), by decide +kernel, by decide +kernel, by decide +kernel⟩
theorem miX12_isSame : Cond.instanceMethod mX12_isSame.1 ∈ lw_tbl := List.mem_of_getElem? (i := 941) (by decide +kernel)
theorem mvX12_isSame : Cond.selects mX12_isSame.1.cls mX12_isSame.1 mX12_isSame.1 ∈ lw_tbl := List.mem_of_getElem? (i := 942) (by decide +kernel)
def mJ5_init_d00df : am_M := (yJ5_init_d00df, cJ5_init_d00df, 2, none, 21, 1, true)
theorem mkJ5_init_d00df : am_Mok mJ5_init_d00df := ⟨List.mem_of_getElem? (i := 1490) (by decide +kernel), List.mem_of_getElem? (i := 46) (by decide +kernel), by decide +kernel, by decide +kernel, by decide +kernel⟩
theorem miJ5_init_d00df : Cond.instanceMethod mJ5_init_d00df.1 ∈ lw_tbl := List.mem_of_getElem? (i := 1489) (by decide +kernel)
def mJ5_length_8abf5 : am_M := (yJ5_length_8abf5, cJ5_length_8abf5, 1, (Option.some Jvm.ClassFile.FieldType.int), 21, 0, false)
theorem mkJ5_length_8abf5 : am_Mok mJ5_length_8abf5 := ⟨List.mem_of_getElem? (i := 1531) (by decide +kernel), List.mem_of_getElem? (i := 46) (by decide +kernel), by decide +kernel, by decide +kernel, by decide +kernel⟩
theorem miJ5_length_8abf5 : Cond.instanceMethod mJ5_length_8abf5.1 ∈ lw_tbl := List.mem_of_getElem? (i := 1525) (by decide +kernel)
def mJ5_ensureCapacityInternal_d00df : am_M := (yJ5_ensureCapacityInternal_d00df, cJ5_ensureCapacityInternal_d00df, 3, none, 21, 1, false)
theorem mkJ5_ensureCapacityInternal_d00df : am_Mok mJ5_ensureCapacityInternal_d00df := ⟨List.mem_of_getElem? (i := 1360) (by decide +kernel), List.mem_of_getElem? (i := 46) (by decide +kernel), by decide +kernel, by decide +kernel, by decide +kernel⟩
theorem miJ5_ensureCapacityInternal_d00df : Cond.instanceMethod mJ5_ensureCapacityInternal_d00df.1 ∈ lw_tbl := List.mem_of_getElem? (i := 1359) (by decide +kernel)
def mJ5_newCapacity_0f7a4 : am_M := (yJ5_newCapacity_0f7a4, cJ5_newCapacity_0f7a4, 6, (Option.some Jvm.ClassFile.FieldType.int), 21, 1, false)
theorem mkJ5_newCapacity_0f7a4 : am_Mok mJ5_newCapacity_0f7a4 := ⟨List.mem_of_getElem? (i := 1364) (by decide +kernel), List.mem_of_getElem? (i := 46) (by decide +kernel), by decide +kernel, by decide +kernel, by decide +kernel⟩
theorem miJ5_newCapacity_0f7a4 : Cond.instanceMethod mJ5_newCapacity_0f7a4.1 ∈ lw_tbl := List.mem_of_getElem? (i := 1363) (by decide +kernel)
def mJ5_inflate_da8c8 : am_M := (yJ5_inflate_da8c8, cJ5_inflate_da8c8, 2, none, 21, 0, false)
theorem mkJ5_inflate_da8c8 : am_Mok mJ5_inflate_da8c8 := ⟨List.mem_of_getElem? (i := 1411) (by decide +kernel), List.mem_of_getElem? (i := 46) (by decide +kernel), by decide +kernel, by decide +kernel, by decide +kernel⟩
theorem miJ5_inflate_da8c8 : Cond.instanceMethod mJ5_inflate_da8c8.1 ∈ lw_tbl := List.mem_of_getElem? (i := 1410) (by decide +kernel)
def mJ5_append_cf1ce : am_M := (yJ5_append_cf1ce, cJ5_append_cf1ce, 3, (Option.some (Jvm.ClassFile.FieldType.object "java/lang/AbstractStringBuilder")), 21, 1, false)
theorem mkJ5_append_cf1ce : am_Mok mJ5_append_cf1ce := ⟨List.mem_of_getElem? (i := 1352) (by decide +kernel), List.mem_of_getElem? (i := 46) (by decide +kernel), by decide +kernel, by decide +kernel, by decide +kernel⟩
theorem miJ5_append_cf1ce : Cond.instanceMethod mJ5_append_cf1ce.1 ∈ lw_tbl := List.mem_of_getElem? (i := 1351) (by decide +kernel)
def mJ5_appendNull_278bc : am_M := (yJ5_appendNull_278bc, cJ5_appendNull_278bc, 3, (Option.some (Jvm.ClassFile.FieldType.object "java/lang/AbstractStringBuilder")), 21, 0, false)
theorem mkJ5_appendNull_278bc : am_Mok mJ5_appendNull_278bc := ⟨List.mem_of_getElem? (i := 1356) (by decide +kernel), List.mem_of_getElem? (i := 46) (by decide +kernel), by decide +kernel, by decide +kernel, by decide +kernel⟩
theorem miJ5_appendNull_278bc : Cond.instanceMethod mJ5_appendNull_278bc.1 ∈ lw_tbl := List.mem_of_getElem? (i := 1355) (by decide +kernel)
def mJ5_append_c97b9 : am_M := (yJ5_append_c97b9, cJ5_append_c97b9, 4, (Option.some (Jvm.ClassFile.FieldType.object "java/lang/AbstractStringBuilder")), 21, 1, false)
theorem mkJ5_append_c97b9 : am_Mok mJ5_append_c97b9 := ⟨List.mem_of_getElem? (i := 1446) (by decide +kernel), List.mem_of_getElem? (i := 46) (by decide +kernel), by decide +kernel, by decide +kernel, by decide +kernel⟩
theorem miJ5_append_c97b9 : Cond.instanceMethod mJ5_append_c97b9.1 ∈ lw_tbl := List.mem_of_getElem? (i := 1445) (by decide +kernel)
def mJ5_getValue_6d5f1 : am_M := (yJ5_getValue_6d5f1, cJ5_getValue_6d5f1, 1, (Option.some (Jvm.ClassFile.FieldType.array Jvm.ClassFile.FieldType.byte)), 21, 0, false)
theorem mkJ5_getValue_6d5f1 : am_Mok mJ5_getValue_6d5f1 := ⟨List.mem_of_getElem? (i := 1523) (by decide +kernel), List.mem_of_getElem? (i := 46) (by decide +kernel), by decide +kernel, by decide +kernel, by decide +kernel⟩
theorem miJ5_getValue_6d5f1 : Cond.instanceMethod mJ5_getValue_6d5f1.1 ∈ lw_tbl := List.mem_of_getElem? (i := 1520) (by decide +kernel)
def mJ5_isLatin1_aae02 : am_M := (yJ5_isLatin1_aae02, cJ5_isLatin1_aae02, 1, (Option.some Jvm.ClassFile.FieldType.boolean), 21, 0, false)
theorem mkJ5_isLatin1_aae02 : am_Mok mJ5_isLatin1_aae02 := ⟨List.mem_of_getElem? (i := 1390) (by decide +kernel), List.mem_of_getElem? (i := 46) (by decide +kernel), by decide +kernel, by decide +kernel, by decide +kernel⟩
theorem miJ5_isLatin1_aae02 : Cond.instanceMethod mJ5_isLatin1_aae02.1 ∈ lw_tbl := List.mem_of_getElem? (i := 1387) (by decide +kernel)
def mJ5_inflateIfNeededFor_a7421 : am_M := (yJ5_inflateIfNeededFor_a7421, cJ5_inflateIfNeededFor_a7421, 2, none, 21, 1, false)
theorem mkJ5_inflateIfNeededFor_a7421 : am_Mok mJ5_inflateIfNeededFor_a7421 := ⟨List.mem_of_getElem? (i := 1406) (by decide +kernel), List.mem_of_getElem? (i := 46) (by decide +kernel), by decide +kernel, by decide +kernel, by decide +kernel⟩
theorem miJ5_inflateIfNeededFor_a7421 : Cond.instanceMethod mJ5_inflateIfNeededFor_a7421.1 ∈ lw_tbl := List.mem_of_getElem? (i := 1405) (by decide +kernel)
def mJ5_putStringAt_47b60 : am_M := (yJ5_putStringAt_47b60, cJ5_putStringAt_47b60, 3, none, 21, 2, false)
theorem mkJ5_putStringAt_47b60 : am_Mok mJ5_putStringAt_47b60 := ⟨List.mem_of_getElem? (i := 1402) (by decide +kernel), List.mem_of_getElem? (i := 46) (by decide +kernel), by decide +kernel, by decide +kernel, by decide +kernel⟩
theorem miJ5_putStringAt_47b60 : Cond.instanceMethod mJ5_putStringAt_47b60.1 ∈ lw_tbl := List.mem_of_getElem? (i := 1401) (by decide +kernel)
def mJ6_getChars_ba4f3 : am_M := (yJ6_getChars_ba4f3, cJ6_getChars_ba4f3, 7, (Option.some Jvm.ClassFile.FieldType.int), 22, 3, false)
theorem mkJ6_getChars_ba4f3 : am_Mok mJ6_getChars_ba4f3 := ⟨List.mem_of_getElem? (i := 1452) (by decide +kernel), List.mem_of_getElem? (i := 57) (by decide +kernel), by decide +kernel, by decide +kernel, by decide +kernel⟩
theorem msJ6_getChars_ba4f3 : Cond.static mJ6_getChars_ba4f3.1 ∈ lw_tbl := List.mem_of_getElem? (i := 1451) (by decide +kernel)
def mJ6_stringSize_0f7a4 : am_M := (yJ6_stringSize_0f7a4, cJ6_stringSize_0f7a4, 4, (Option.some Jvm.ClassFile.FieldType.int), 22, 1, false)
theorem mkJ6_stringSize_0f7a4 : am_Mok mJ6_stringSize_0f7a4 := ⟨List.mem_of_getElem? (i := 1449) (by decide +kernel), List.mem_of_getElem? (i := 57) (by decide +kernel), by decide +kernel, by decide +kernel, by decide +kernel⟩
theorem msJ6_stringSize_0f7a4 : Cond.static mJ6_stringSize_0f7a4.1 ∈ lw_tbl := List.mem_of_getElem? (i := 1448) (by decide +kernel)
def mJ9_floorMod_f86c9 : am_M := (yJ9_floorMod_f86c9, cJ9_floorMod_f86c9, 6, (Option.some Jvm.ClassFile.FieldType.long), 25, 2, false)
theorem mkJ9_floorMod_f86c9 : am_Mok mJ9_floorMod_f86c9 := ⟨List.mem_of_getElem? (i := 600) (by decide +kernel), List.mem_of_getElem? (i := 52) (by decide +kernel), by decide +kernel, by decide +kernel, by decide +kernel⟩
theorem msJ9_floorMod_f86c9 : Cond.static mJ9_floorMod_f86c9.1 ∈ lw_tbl := List.mem_of_getElem? (i := 599) (by decide +kernel)
def mJ9_max_7cf53 : am_M := (yJ9_max_7cf53, cJ9_max_7cf53, 2, (Option.some Jvm.ClassFile.FieldType.int), 25, 2, false)
theorem mkJ9_max_7cf53 : am_Mok mJ9_max_7cf53 := ⟨List.mem_of_getElem? (i := 325) (by decide +kernel), List.mem_of_getElem? (i := 52) (by decide +kernel), by decide +kernel, by decide +kernel, by decide +kernel⟩
theorem msJ9_max_7cf53 : Cond.static mJ9_max_7cf53.1 ∈ lw_tbl := List.mem_of_getElem? (i := 324) (by decide +kernel)
def mJ9_min_7cf53 : am_M := (yJ9_min_7cf53, cJ9_min_7cf53, 2, (Option.some Jvm.ClassFile.FieldType.int), 25, 2, false)
theorem mkJ9_min_7cf53 : am_Mok mJ9_min_7cf53 := ⟨List.mem_of_getElem? (i := 641) (by decide +kernel), List.mem_of_getElem? (i := 52) (by decide +kernel), by decide +kernel, by decide +kernel, by decide +kernel⟩
theorem msJ9_min_7cf53 : Cond.static mJ9_min_7cf53.1 ∈ lw_tbl := List.mem_of_getElem? (i := 640) (by decide +kernel)
def mJ0_init_81219 : am_M := (yJ0_init_81219, cJ0_init_81219, 2, none, 0, 1, true)
theorem mkJ0_init_81219 : am_Mok mJ0_init_81219 := ⟨List.mem_of_getElem? (i := 1514) (by decide +kernel), List.mem_of_getElem? (i := 48) (by decide +kernel), by decide +kernel, by decide +kernel, by decide +kernel⟩
theorem miJ0_init_81219 : Cond.instanceMethod mJ0_init_81219.1 ∈ lw_tbl := List.mem_of_getElem? (i := 1513) (by decide +kernel)
def mJ0_length_8abf5 : am_M := (yJ0_length_8abf5, cJ0_length_8abf5, 1, (Option.some Jvm.ClassFile.FieldType.int), 0, 0, false)
theorem mkJ0_length_8abf5 : am_Mok mJ0_length_8abf5 := ⟨List.mem_of_getElem? (i := 94) (by decide +kernel), List.mem_of_getElem? (i := 48) (by decide +kernel), by decide +kernel, by decide +kernel, by decide +kernel⟩
theorem miJ0_length_8abf5 : Cond.instanceMethod mJ0_length_8abf5.1 ∈ lw_tbl := List.mem_of_getElem? (i := 92) (by decide +kernel)
theorem mvJ0_length_8abf5 : Cond.selects mJ0_length_8abf5.1.cls mJ0_length_8abf5.1 mJ0_length_8abf5.1 ∈ lw_tbl := List.mem_of_getElem? (i := 93) (by decide +kernel)
def mJ0_charAt_5068e : am_M := (yJ0_charAt_5068e, cJ0_charAt_5068e, 2, (Option.some Jvm.ClassFile.FieldType.char), 0, 1, false)
theorem mkJ0_charAt_5068e : am_Mok mJ0_charAt_5068e := ⟨List.mem_of_getElem? (i := 104) (by decide +kernel), List.mem_of_getElem? (i := 48) (by decide +kernel), by decide +kernel, by decide +kernel, by decide +kernel⟩
theorem miJ0_charAt_5068e : Cond.instanceMethod mJ0_charAt_5068e.1 ∈ lw_tbl := List.mem_of_getElem? (i := 102) (by decide +kernel)
theorem mvJ0_charAt_5068e : Cond.selects mJ0_charAt_5068e.1.cls mJ0_charAt_5068e.1 mJ0_charAt_5068e.1 ∈ lw_tbl := List.mem_of_getElem? (i := 103) (by decide +kernel)
def mJ0_indexOf_0f7a4 : am_M := (yJ0_indexOf_0f7a4, cJ0_indexOf_0f7a4, 2, (Option.some Jvm.ClassFile.FieldType.int), 0, 1, false)
theorem mkJ0_indexOf_0f7a4 : am_Mok mJ0_indexOf_0f7a4 := ⟨List.mem_of_getElem? (i := 1063) (by decide +kernel), List.mem_of_getElem? (i := 48) (by decide +kernel), by decide +kernel, by decide +kernel, by decide +kernel⟩
theorem miJ0_indexOf_0f7a4 : Cond.instanceMethod mJ0_indexOf_0f7a4.1 ∈ lw_tbl := List.mem_of_getElem? (i := 1061) (by decide +kernel)
theorem mvJ0_indexOf_0f7a4 : Cond.selects mJ0_indexOf_0f7a4.1.cls mJ0_indexOf_0f7a4.1 mJ0_indexOf_0f7a4.1 ∈ lw_tbl := List.mem_of_getElem? (i := 1062) (by decide +kernel)
def mJ0_indexOf_7cf53 : am_M := (yJ0_indexOf_7cf53, cJ0_indexOf_7cf53, 3, (Option.some Jvm.ClassFile.FieldType.int), 0, 2, false)
theorem mkJ0_indexOf_7cf53 : am_Mok mJ0_indexOf_7cf53 := ⟨List.mem_of_getElem? (i := 1067) (by decide +kernel), List.mem_of_getElem? (i := 48) (by decide +kernel), by decide +kernel, by decide +kernel, by decide +kernel⟩
theorem miJ0_indexOf_7cf53 : Cond.instanceMethod mJ0_indexOf_7cf53.1 ∈ lw_tbl := List.mem_of_getElem? (i := 1065) (by decide +kernel)
theorem mvJ0_indexOf_7cf53 : Cond.selects mJ0_indexOf_7cf53.1.cls mJ0_indexOf_7cf53.1 mJ0_indexOf_7cf53.1 ∈ lw_tbl := List.mem_of_getElem? (i := 1066) (by decide +kernel)
def mJ0_getBytes_840e7 : am_M := (yJ0_getBytes_840e7, cJ0_getBytes_840e7, 4, none, 0, 3, false)
theorem mkJ0_getBytes_840e7 : am_Mok mJ0_getBytes_840e7 := ⟨List.mem_of_getElem? (i := 1437) (by decide +kernel), List.mem_of_getElem? (i := 48) (by decide +kernel), by decide +kernel, by decide +kernel, by decide +kernel⟩
theorem miJ0_getBytes_840e7 : Cond.instanceMethod mJ0_getBytes_840e7.1 ∈ lw_tbl := List.mem_of_getElem? (i := 1435) (by decide +kernel)
theorem mvJ0_getBytes_840e7 : Cond.selects mJ0_getBytes_840e7.1.cls mJ0_getBytes_840e7.1 mJ0_getBytes_840e7.1 ∈ lw_tbl := List.mem_of_getElem? (i := 1436) (by decide +kernel)
def mJ0_init_db425 : am_M := (yJ0_init_db425, cJ0_init_db425, 5, none, 0, 2, true)
theorem mkJ0_init_db425 : am_Mok mJ0_init_db425 := ⟨List.mem_of_getElem? (i := 1517) (by decide +kernel), List.mem_of_getElem? (i := 48) (by decide +kernel), by decide +kernel, by decide +kernel, by decide +kernel⟩
theorem miJ0_init_db425 : Cond.instanceMethod mJ0_init_db425.1 ∈ lw_tbl := List.mem_of_getElem? (i := 1516) (by decide +kernel)
def mJ0_coder_7d493 : am_M := (yJ0_coder_7d493, cJ0_coder_7d493, 1, (Option.some Jvm.ClassFile.FieldType.byte), 0, 0, false)
theorem mkJ0_coder_7d493 : am_Mok mJ0_coder_7d493 := ⟨List.mem_of_getElem? (i := 98) (by decide +kernel), List.mem_of_getElem? (i := 48) (by decide +kernel), by decide +kernel, by decide +kernel, by decide +kernel⟩
theorem miJ0_coder_7d493 : Cond.instanceMethod mJ0_coder_7d493.1 ∈ lw_tbl := List.mem_of_getElem? (i := 96) (by decide +kernel)
theorem mvJ0_coder_7d493 : Cond.selects mJ0_coder_7d493.1.cls mJ0_coder_7d493.1 mJ0_coder_7d493.1 ∈ lw_tbl := List.mem_of_getElem? (i := 97) (by decide +kernel)
def mJ0_isLatin1_aae02 : am_M := (yJ0_isLatin1_aae02, cJ0_isLatin1_aae02, 1, (Option.some Jvm.ClassFile.FieldType.boolean), 0, 0, false)
theorem mkJ0_isLatin1_aae02 : am_Mok mJ0_isLatin1_aae02 := ⟨List.mem_of_getElem? (i := 108) (by decide +kernel), List.mem_of_getElem? (i := 48) (by decide +kernel), by decide +kernel, by decide +kernel, by decide +kernel⟩
theorem miJ0_isLatin1_aae02 : Cond.instanceMethod mJ0_isLatin1_aae02.1 ∈ lw_tbl := List.mem_of_getElem? (i := 106) (by decide +kernel)
theorem mvJ0_isLatin1_aae02 : Cond.selects mJ0_isLatin1_aae02.1.cls mJ0_isLatin1_aae02.1 mJ0_isLatin1_aae02.1 ∈ lw_tbl := List.mem_of_getElem? (i := 107) (by decide +kernel)
def mJ0_checkIndex_df160 : am_M := (yJ0_checkIndex_df160, cJ0_checkIndex_df160, 2, none, 0, 2, false)
theorem mkJ0_checkIndex_df160 : am_Mok mJ0_checkIndex_df160 := ⟨List.mem_of_getElem? (i := 114) (by decide +kernel), List.mem_of_getElem? (i := 48) (by decide +kernel), by decide +kernel, by decide +kernel, by decide +kernel⟩
theorem msJ0_checkIndex_df160 : Cond.static mJ0_checkIndex_df160.1 ∈ lw_tbl := List.mem_of_getElem? (i := 113) (by decide +kernel)
def mJ0_checkBoundsOffCount_cabcc : am_M := (yJ0_checkBoundsOffCount_cabcc, cJ0_checkBoundsOffCount_cabcc, 3, (Option.some Jvm.ClassFile.FieldType.int), 0, 3, false)
theorem mkJ0_checkBoundsOffCount_cabcc : am_Mok mJ0_checkBoundsOffCount_cabcc := ⟨List.mem_of_getElem? (i := 1430) (by decide +kernel), List.mem_of_getElem? (i := 48) (by decide +kernel), by decide +kernel, by decide +kernel, by decide +kernel⟩
theorem msJ0_checkBoundsOffCount_cabcc : Cond.static mJ0_checkBoundsOffCount_cabcc.1 ∈ lw_tbl := List.mem_of_getElem? (i := 1429) (by decide +kernel)
def mJ0_checkBoundsBeginEnd_23922 : am_M := (yJ0_checkBoundsBeginEnd_23922, cJ0_checkBoundsBeginEnd_23922, 3, none, 0, 3, false)
theorem mkJ0_checkBoundsBeginEnd_23922 : am_Mok mJ0_checkBoundsBeginEnd_23922 := ⟨List.mem_of_getElem? (i := 1094) (by decide +kernel), List.mem_of_getElem? (i := 48) (by decide +kernel), by decide +kernel, by decide +kernel, by decide +kernel⟩
theorem msJ0_checkBoundsBeginEnd_23922 : Cond.static mJ0_checkBoundsBeginEnd_23922.1 ∈ lw_tbl := List.mem_of_getElem? (i := 1093) (by decide +kernel)
def mJ4_init_da8c8 : am_M := (yJ4_init_da8c8, cJ4_init_da8c8, 1, none, 1, 0, true)
theorem mkJ4_init_da8c8 : am_Mok mJ4_init_da8c8 := ⟨List.mem_of_getElem? (i := 1487) (by decide +kernel), List.mem_of_getElem? (i := 47) (by decide +kernel), by decide +kernel, by decide +kernel, by decide +kernel⟩
theorem miJ4_init_da8c8 : Cond.instanceMethod mJ4_init_da8c8.1 ∈ lw_tbl := List.mem_of_getElem? (i := 1486) (by decide +kernel)
def mJ4_append_15ec4 : am_M := (yJ4_append_15ec4, cJ4_append_15ec4, 2, (Option.some (Jvm.ClassFile.FieldType.object "java/lang/StringBuilder")), 1, 1, false)
theorem mkJ4_append_15ec4 : am_Mok mJ4_append_15ec4 := ⟨List.mem_of_getElem? (i := 1348) (by decide +kernel), List.mem_of_getElem? (i := 47) (by decide +kernel), by decide +kernel, by decide +kernel, by decide +kernel⟩
theorem miJ4_append_15ec4 : Cond.instanceMethod mJ4_append_15ec4.1 ∈ lw_tbl := List.mem_of_getElem? (i := 1346) (by decide +kernel)
theorem mvJ4_append_15ec4 : Cond.selects mJ4_append_15ec4.1.cls mJ4_append_15ec4.1 mJ4_append_15ec4.1 ∈ lw_tbl := List.mem_of_getElem? (i := 1347) (by decide +kernel)
def mJ4_append_bf812 : am_M := (yJ4_append_bf812, cJ4_append_bf812, 2, (Option.some (Jvm.ClassFile.FieldType.object "java/lang/StringBuilder")), 1, 1, false)
theorem mkJ4_append_bf812 : am_Mok mJ4_append_bf812 := ⟨List.mem_of_getElem? (i := 1443) (by decide +kernel), List.mem_of_getElem? (i := 47) (by decide +kernel), by decide +kernel, by decide +kernel, by decide +kernel⟩
theorem miJ4_append_bf812 : Cond.instanceMethod mJ4_append_bf812.1 ∈ lw_tbl := List.mem_of_getElem? (i := 1441) (by decide +kernel)
theorem mvJ4_append_bf812 : Cond.selects mJ4_append_bf812.1.cls mJ4_append_bf812.1 mJ4_append_bf812.1 ∈ lw_tbl := List.mem_of_getElem? (i := 1442) (by decide +kernel)
def mJ4_toString_0e30d : am_M := (yJ4_toString_0e30d, cJ4_toString_0e30d, 1, (Option.some (Jvm.ClassFile.FieldType.object "java/lang/String")), 1, 0, false)
theorem mkJ4_toString_0e30d : am_Mok mJ4_toString_0e30d := ⟨List.mem_of_getElem? (i := 1509) (by decide +kernel), List.mem_of_getElem? (i := 47) (by decide +kernel), by decide +kernel, by decide +kernel, by decide +kernel⟩
theorem miJ4_toString_0e30d : Cond.instanceMethod mJ4_toString_0e30d.1 ∈ lw_tbl := List.mem_of_getElem? (i := 1507) (by decide +kernel)
theorem mvJ4_toString_0e30d : Cond.selects mJ4_toString_0e30d.1.cls mJ4_toString_0e30d.1 mJ4_toString_0e30d.1 ∈ lw_tbl := List.mem_of_getElem? (i := 1508) (by decide +kernel)
def mJ4_length_8abf5 : am_M := (yJ4_length_8abf5, cJ4_length_8abf5, 1, (Option.some Jvm.ClassFile.FieldType.int), 1, 0, false)
theorem mkJ4_length_8abf5 : am_Mok mJ4_length_8abf5 := ⟨List.mem_of_getElem? (i := 1529) (by decide +kernel), List.mem_of_getElem? (i := 47) (by decide +kernel), by decide +kernel, by decide +kernel, by decide +kernel⟩
theorem miJ4_length_8abf5 : Cond.instanceMethod mJ4_length_8abf5.1 ∈ lw_tbl := List.mem_of_getElem? (i := 1528) (by decide +kernel)
def mJ1_charAt_3b067 : am_M := (yJ1_charAt_3b067, cJ1_charAt_3b067, 2, (Option.some Jvm.ClassFile.FieldType.char), 17, 2, false)
theorem mkJ1_charAt_3b067 : am_Mok mJ1_charAt_3b067 := ⟨List.mem_of_getElem? (i := 111) (by decide +kernel), List.mem_of_getElem? (i := 56) (by decide +kernel), by decide +kernel, by decide +kernel, by decide +kernel⟩
theorem msJ1_charAt_3b067 : Cond.static mJ1_charAt_3b067.1 ∈ lw_tbl := List.mem_of_getElem? (i := 110) (by decide +kernel)
def mJ1_canEncode_9a6ad : am_M := (yJ1_canEncode_9a6ad, cJ1_canEncode_9a6ad, 1, (Option.some Jvm.ClassFile.FieldType.boolean), 17, 1, false)
theorem mkJ1_canEncode_9a6ad : am_Mok mJ1_canEncode_9a6ad := ⟨List.mem_of_getElem? (i := 1074) (by decide +kernel), List.mem_of_getElem? (i := 56) (by decide +kernel), by decide +kernel, by decide +kernel, by decide +kernel⟩
theorem msJ1_canEncode_9a6ad : Cond.static mJ1_canEncode_9a6ad.1 ∈ lw_tbl := List.mem_of_getElem? (i := 1073) (by decide +kernel)
def mJ1_indexOf_4cfef : am_M := (yJ1_indexOf_4cfef, cJ1_indexOf_4cfef, 4, (Option.some Jvm.ClassFile.FieldType.int), 17, 4, false)
theorem mkJ1_indexOf_4cfef : am_Mok mJ1_indexOf_4cfef := ⟨List.mem_of_getElem? (i := 1071) (by decide +kernel), List.mem_of_getElem? (i := 56) (by decide +kernel), by decide +kernel, by decide +kernel, by decide +kernel⟩
theorem msJ1_indexOf_4cfef : Cond.static mJ1_indexOf_4cfef.1 ∈ lw_tbl := List.mem_of_getElem? (i := 1070) (by decide +kernel)
def mJ1_indexOfChar_4cfef : am_M := (yJ1_indexOfChar_4cfef, cJ1_indexOfChar_4cfef, 6, (Option.some Jvm.ClassFile.FieldType.int), 17, 4, false)
theorem mkJ1_indexOfChar_4cfef : am_Mok mJ1_indexOfChar_4cfef := ⟨List.mem_of_getElem? (i := 1079) (by decide +kernel), List.mem_of_getElem? (i := 56) (by decide +kernel), by decide +kernel, by decide +kernel, by decide +kernel⟩
theorem msJ1_indexOfChar_4cfef : Cond.static mJ1_indexOfChar_4cfef.1 ∈ lw_tbl := List.mem_of_getElem? (i := 1078) (by decide +kernel)
def mJ1_inflate_0e8fd : am_M := (yJ1_inflate_0e8fd, cJ1_inflate_0e8fd, 5, none, 17, 5, false)
theorem mkJ1_inflate_0e8fd : am_Mok mJ1_inflate_0e8fd := ⟨List.mem_of_getElem? (i := 1421) (by decide +kernel), List.mem_of_getElem? (i := 56) (by decide +kernel), by decide +kernel, by decide +kernel, by decide +kernel⟩
theorem msJ1_inflate_0e8fd : Cond.static mJ1_inflate_0e8fd.1 ∈ lw_tbl := List.mem_of_getElem? (i := 1420) (by decide +kernel)
def mJ7_copyOf_9075b : am_M := (yJ7_copyOf_9075b, cJ7_copyOf_9075b, 3, (Option.some (Jvm.ClassFile.FieldType.array Jvm.ClassFile.FieldType.byte)), 23, 2, false)
theorem mkJ7_copyOf_9075b : am_Mok mJ7_copyOf_9075b := ⟨List.mem_of_getElem? (i := 1376) (by decide +kernel), List.mem_of_getElem? (i := 53) (by decide +kernel), by decide +kernel, by decide +kernel, by decide +kernel⟩
theorem msJ7_copyOf_9075b : Cond.static mJ7_copyOf_9075b.1 ∈ lw_tbl := List.mem_of_getElem? (i := 1375) (by decide +kernel)
def mJ7_checkLength_df160 : am_M := (yJ7_checkLength_df160, cJ7_checkLength_df160, 2, none, 23, 2, false)
theorem mkJ7_checkLength_df160 : am_Mok mJ7_checkLength_df160 := ⟨List.mem_of_getElem? (i := 1541) (by decide +kernel), List.mem_of_getElem? (i := 53) (by decide +kernel), by decide +kernel, by decide +kernel, by decide +kernel⟩
theorem msJ7_checkLength_df160 : Cond.static mJ7_checkLength_df160.1 ∈ lw_tbl := List.mem_of_getElem? (i := 1540) (by decide +kernel)
def mJ7_copyOfRange_39247 : am_M := (yJ7_copyOfRange_39247, cJ7_copyOfRange_39247, 3, (Option.some (Jvm.ClassFile.FieldType.array Jvm.ClassFile.FieldType.byte)), 23, 3, false)
theorem mkJ7_copyOfRange_39247 : am_Mok mJ7_copyOfRange_39247 := ⟨List.mem_of_getElem? (i := 1535) (by decide +kernel), List.mem_of_getElem? (i := 53) (by decide +kernel), by decide +kernel, by decide +kernel, by decide +kernel⟩
theorem msJ7_copyOfRange_39247 : Cond.static mJ7_copyOfRange_39247.1 ∈ lw_tbl := List.mem_of_getElem? (i := 1534) (by decide +kernel)
def mJ7_copyOfRangeByte_39247 : am_M := (yJ7_copyOfRangeByte_39247, cJ7_copyOfRangeByte_39247, 5, (Option.some (Jvm.ClassFile.FieldType.array Jvm.ClassFile.FieldType.byte)), 23, 3, false)
theorem mkJ7_copyOfRangeByte_39247 : am_Mok mJ7_copyOfRangeByte_39247 := ⟨List.mem_of_getElem? (i := 1538) (by decide +kernel), List.mem_of_getElem? (i := 53) (by decide +kernel), by decide +kernel, by decide +kernel, by decide +kernel⟩
theorem msJ7_copyOfRangeByte_39247 : Cond.static mJ7_copyOfRangeByte_39247.1 ∈ lw_tbl := List.mem_of_getElem? (i := 1537) (by decide +kernel)
def mJ8_newLength_cabcc : am_M := (yJ8_newLength_cabcc, cJ8_newLength_cabcc, 4, (Option.some Jvm.ClassFile.FieldType.int), 24, 3, false)
theorem mkJ8_newLength_cabcc : am_Mok mJ8_newLength_cabcc := ⟨List.mem_of_getElem? (i := 1367) (by decide +kernel), List.mem_of_getElem? (i := 51) (by decide +kernel), by decide +kernel, by decide +kernel, by decide +kernel⟩
theorem msJ8_newLength_cabcc : Cond.static mJ8_newLength_cabcc.1 ∈ lw_tbl := List.mem_of_getElem? (i := 1366) (by decide +kernel)
def mJ8_hugeLength_7cf53 : am_M := (yJ8_hugeLength_7cf53, cJ8_hugeLength_7cf53, 3, (Option.some Jvm.ClassFile.FieldType.int), 24, 2, false)
theorem mkJ8_hugeLength_7cf53 : am_Mok mJ8_hugeLength_7cf53 := ⟨List.mem_of_getElem? (i := 1372) (by decide +kernel), List.mem_of_getElem? (i := 51) (by decide +kernel), by decide +kernel, by decide +kernel, by decide +kernel⟩
theorem msJ8_hugeLength_7cf53 : Cond.static mJ8_hugeLength_7cf53.1 ∈ lw_tbl := List.mem_of_getElem? (i := 1371) (by decide +kernel)
def mJ3_checkIndex_8e157 : am_M := (yJ3_checkIndex_8e157, cJ3_checkIndex_8e157, 3, (Option.some Jvm.ClassFile.FieldType.int), 19, 3, false)
theorem mkJ3_checkIndex_8e157 : am_Mok mJ3_checkIndex_8e157 := ⟨List.mem_of_getElem? (i := 119) (by decide +kernel), List.mem_of_getElem? (i := 55) (by decide +kernel), by decide +kernel, by decide +kernel, by decide +kernel⟩
theorem msJ3_checkIndex_8e157 : Cond.static mJ3_checkIndex_8e157.1 ∈ lw_tbl := List.mem_of_getElem? (i := 118) (by decide +kernel)
def mJ3_checkFromToIndex_8c36e : am_M := (yJ3_checkFromToIndex_8c36e, cJ3_checkFromToIndex_8c36e, 4, (Option.some Jvm.ClassFile.FieldType.int), 19, 4, false)
theorem mkJ3_checkFromToIndex_8c36e : am_Mok mJ3_checkFromToIndex_8c36e := ⟨List.mem_of_getElem? (i := 1097) (by decide +kernel), List.mem_of_getElem? (i := 55) (by decide +kernel), by decide +kernel, by decide +kernel, by decide +kernel⟩
theorem msJ3_checkFromToIndex_8c36e : Cond.static mJ3_checkFromToIndex_8c36e.1 ∈ lw_tbl := List.mem_of_getElem? (i := 1096) (by decide +kernel)
def mJ3_checkFromIndexSize_8c36e : am_M := (yJ3_checkFromIndexSize_8c36e, cJ3_checkFromIndexSize_8c36e, 4, (Option.some Jvm.ClassFile.FieldType.int), 19, 4, false)
theorem mkJ3_checkFromIndexSize_8c36e : am_Mok mJ3_checkFromIndexSize_8c36e := ⟨List.mem_of_getElem? (i := 1433) (by decide +kernel), List.mem_of_getElem? (i := 55) (by decide +kernel), by decide +kernel, by decide +kernel, by decide +kernel⟩
theorem msJ3_checkFromIndexSize_8c36e : Cond.static mJ3_checkFromIndexSize_8c36e.1 ∈ lw_tbl := List.mem_of_getElem? (i := 1432) (by decide +kernel)
def mL_below : am_M := (yL_below, cL_below, 2, (Option.some Jvm.ClassFile.FieldType.int), 15, 2, false)
theorem mkL_below : am_Mok mL_below := ⟨List.mem_of_getElem? (i := 976) (by decide +kernel), List.mem_of_getElem? (i := 45) (by decide +kernel), by decide +kernel, by decide +kernel, by decide +kernel⟩
theorem msL_below : Cond.static mL_below.1 ∈ lw_tbl := List.mem_of_getElem? (i := 975) (by decide +kernel)
def mL_cell : am_M := (yL_cell, cL_cell, 2, (Option.some Jvm.ClassFile.FieldType.int), 15, 2, false)
theorem mkL_cell : am_Mok mL_cell := ⟨List.mem_of_getElem? (i := 980) (by decide +kernel), List.mem_of_getElem? (i := 45) (by decide +kernel), by decide +kernel, by decide +kernel, by decide +kernel⟩
theorem msL_cell : Cond.static mL_cell.1 ∈ lw_tbl := List.mem_of_getElem? (i := 979) (by decide +kernel)
def mL_taught : am_M := (yL_taught, cL_taught, 5, (Option.some Jvm.ClassFile.FieldType.int), 15, 2, false)
theorem mkL_taught : am_Mok mL_taught := ⟨List.mem_of_getElem? (i := 984) (by decide +kernel), List.mem_of_getElem? (i := 45) (by decide +kernel), by decide +kernel, by decide +kernel, by decide +kernel⟩
theorem msL_taught : Cond.static mL_taught.1 ∈ lw_tbl := List.mem_of_getElem? (i := 983) (by decide +kernel)
def mL_sum : am_M := (yL_sum, cL_sum, 3, (Option.some (Jvm.ClassFile.FieldType.object "java/lang/String")), 15, 2, false)
theorem mkL_sum : am_Mok mL_sum := ⟨List.mem_of_getElem? (i := 1568) (by decide +kernel), List.mem_of_getElem? (i := 45) (by decide +kernel), by decide +kernel, by decide +kernel, by decide +kernel⟩
theorem msL_sum : Cond.static mL_sum.1 ∈ lw_tbl := List.mem_of_getElem? (i := 1567) (by decide +kernel)
def mL_test : am_M := (yL_test, cL_test, 4, (Option.some (Jvm.ClassFile.FieldType.object "java/lang/String")), 15, 2, false)
theorem mkL_test : am_Mok mL_test := ⟨List.mem_of_getElem? (i := 1580) (by decide +kernel), List.mem_of_getElem? (i := 45) (by decide +kernel), by decide +kernel, by decide +kernel, by decide +kernel⟩
theorem msL_test : Cond.static mL_test.1 ∈ lw_tbl := List.mem_of_getElem? (i := 1579) (by decide +kernel)
def mL_list : am_M := (yL_list, cL_list, 9, (Option.some (Jvm.ClassFile.FieldType.object "MarbledPaperLaw$Sim")), 15, 2, false)
theorem mkL_list : am_Mok mL_list := ⟨List.mem_of_getElem? (i := 1296) (by decide +kernel), List.mem_of_getElem? (i := 45) (by decide +kernel), by decide +kernel, by decide +kernel, by decide +kernel⟩
theorem msL_list : Cond.static mL_list.1 ∈ lw_tbl := List.mem_of_getElem? (i := 1295) (by decide +kernel)
def mL_act : am_M := (yL_act, cL_act, 6, (Option.some Jvm.ClassFile.FieldType.boolean), 15, 3, false)
theorem mkL_act : am_Mok mL_act := ⟨List.mem_of_getElem? (i := 1591) (by decide +kernel), List.mem_of_getElem? (i := 45) (by decide +kernel), by decide +kernel, by decide +kernel, by decide +kernel⟩
theorem msL_act : Cond.static mL_act.1 ∈ lw_tbl := List.mem_of_getElem? (i := 1590) (by decide +kernel)
