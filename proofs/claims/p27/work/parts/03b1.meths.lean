/-- a method: name, code, locals, what it returns, its class by number, how many arguments beside the receiver, whether it is a constructor -/
abbrev am_M : Type := MethodName × ByteArray × Nat × Option FieldType × Nat × Nat × Bool
def am_Mok (M : am_M) : Prop := Cond.code M.1 M.2.1 M.2.2.1 M.2.2.2.1 ∈ lw_tbl ∧ Cond.initialized M.1.cls ∈ lw_tbl ∧ M.1.cls ≠ "java/lang/invoke/MethodHandle" ∧ M.1.cls ≠ "java/lang/invoke/VarHandle" ∧ (parseMethodDescriptor M.1.desc).map (fun d => d.parameters.length) = some M.2.2.2.2.2.1
def mX0_at : am_M := (yX0_at, cX0_at, 2, (Option.some Jvm.ClassFile.FieldType.int), 13, 2, false)
set_option maxRecDepth 100000 in
theorem mkX0_at : am_Mok mX0_at := ⟨List.mem_of_getElem? (i := 571) rfl, List.mem_of_getElem? (i := 74) rfl, by decide +kernel, by decide +kernel, by decide +kernel⟩
set_option maxRecDepth 100000 in
theorem msX0_at : Cond.static mX0_at.1 ∈ lw_tbl := List.mem_of_getElem? (i := 570) rfl
def mX0_put : am_M := (yX0_put, cX0_put, 3, none, 13, 3, false)
set_option maxRecDepth 100000 in
theorem mkX0_put : am_Mok mX0_put := ⟨List.mem_of_getElem? (i := 613) rfl, List.mem_of_getElem? (i := 74) rfl, by decide +kernel, by decide +kernel, by decide +kernel⟩
set_option maxRecDepth 100000 in
theorem msX0_put : Cond.static mX0_put.1 ∈ lw_tbl := List.mem_of_getElem? (i := 612) rfl
def mX0_copy : am_M := (yX0_copy, cX0_copy, 2, none, 13, 2, false)
set_option maxRecDepth 100000 in
theorem mkX0_copy : am_Mok mX0_copy := ⟨List.mem_of_getElem? (i := 843) rfl, List.mem_of_getElem? (i := 74) rfl, by decide +kernel, by decide +kernel, by decide +kernel⟩
set_option maxRecDepth 100000 in
theorem msX0_copy : Cond.static mX0_copy.1 ∈ lw_tbl := List.mem_of_getElem? (i := 842) rfl
def mX0_wrap : am_M := (yX0_wrap, cX0_wrap, 3, (Option.some Jvm.ClassFile.FieldType.int), 13, 2, false)
set_option maxRecDepth 100000 in
theorem mkX0_wrap : am_Mok mX0_wrap := ⟨List.mem_of_getElem? (i := 597) rfl, List.mem_of_getElem? (i := 74) rfl, by decide +kernel, by decide +kernel, by decide +kernel⟩
set_option maxRecDepth 100000 in
theorem msX0_wrap : Cond.static mX0_wrap.1 ∈ lw_tbl := List.mem_of_getElem? (i := 596) rfl
def mX0_quotient : am_M := (yX0_quotient, cX0_quotient, 2, (Option.some Jvm.ClassFile.FieldType.int), 13, 2, false)
set_option maxRecDepth 100000 in
theorem mkX0_quotient : am_Mok mX0_quotient := ⟨List.mem_of_getElem? (i := 586) rfl, List.mem_of_getElem? (i := 74) rfl, by decide +kernel, by decide +kernel, by decide +kernel⟩
set_option maxRecDepth 100000 in
theorem msX0_quotient : Cond.static mX0_quotient.1 ∈ lw_tbl := List.mem_of_getElem? (i := 585) rfl
def mX0_hold : am_M := (yX0_hold, cX0_hold, 3, (Option.some Jvm.ClassFile.FieldType.int), 13, 3, false)
set_option maxRecDepth 100000 in
theorem mkX0_hold : am_Mok mX0_hold := ⟨List.mem_of_getElem? (i := 638) rfl, List.mem_of_getElem? (i := 74) rfl, by decide +kernel, by decide +kernel, by decide +kernel⟩
set_option maxRecDepth 100000 in
theorem msX0_hold : Cond.static mX0_hold.1 ∈ lw_tbl := List.mem_of_getElem? (i := 637) rfl
def mX2_init : am_M := (yX2_init, cX2_init, 2, none, 2, 1, true)
set_option maxRecDepth 100000 in
theorem mkX2_init : am_Mok mX2_init := ⟨List.mem_of_getElem? (i := 321) rfl, List.mem_of_getElem? (i := 64) rfl, by decide +kernel, by decide +kernel, by decide +kernel⟩
set_option maxRecDepth 100000 in
theorem miX2_init : Cond.instanceMethod mX2_init.1 ∈ lw_tbl := List.mem_of_getElem? (i := 320) rfl
def mX2_forget : am_M := (yX2_forget, cX2_forget, 1, none, 2, 0, false)
set_option maxRecDepth 100000 in
theorem mkX2_forget : am_Mok mX2_forget := ⟨List.mem_of_getElem? (i := 1126) rfl, List.mem_of_getElem? (i := 64) rfl, by decide +kernel, by decide +kernel, by decide +kernel⟩
set_option maxRecDepth 100000 in
theorem miX2_forget : Cond.instanceMethod mX2_forget.1 ∈ lw_tbl := List.mem_of_getElem? (i := 1124) rfl
set_option maxRecDepth 100000 in
theorem mvX2_forget : Cond.selects mX2_forget.1.cls mX2_forget.1 mX2_forget.1 ∈ lw_tbl := List.mem_of_getElem? (i := 1125) rfl
def mX2_isFull : am_M := (yX2_isFull, cX2_isFull, 1, (Option.some Jvm.ClassFile.FieldType.boolean), 2, 0, false)
set_option maxRecDepth 100000 in
theorem mkX2_isFull : am_Mok mX2_isFull := ⟨List.mem_of_getElem? (i := 1179) rfl, List.mem_of_getElem? (i := 64) rfl, by decide +kernel, by decide +kernel, by decide +kernel⟩
set_option maxRecDepth 100000 in
theorem miX2_isFull : Cond.instanceMethod mX2_isFull.1 ∈ lw_tbl := List.mem_of_getElem? (i := 1177) rfl
set_option maxRecDepth 100000 in
theorem mvX2_isFull : Cond.selects mX2_isFull.1.cls mX2_isFull.1 mX2_isFull.1 ∈ lw_tbl := List.mem_of_getElem? (i := 1178) rfl
def mX2_add : am_M := (yX2_add, cX2_add, 3, none, 2, 1, false)
set_option maxRecDepth 100000 in
theorem mkX2_add : am_Mok mX2_add := ⟨List.mem_of_getElem? (i := 1183) rfl, List.mem_of_getElem? (i := 64) rfl, by decide +kernel, by decide +kernel, by decide +kernel⟩
set_option maxRecDepth 100000 in
theorem miX2_add : Cond.instanceMethod mX2_add.1 ∈ lw_tbl := List.mem_of_getElem? (i := 1181) rfl
set_option maxRecDepth 100000 in
theorem mvX2_add : Cond.selects mX2_add.1.cls mX2_add.1 mX2_add.1 ∈ lw_tbl := List.mem_of_getElem? (i := 1182) rfl
def mX2_find : am_M := (yX2_find, cX2_find, 4, (Option.some Jvm.ClassFile.FieldType.int), 2, 1, false)
set_option maxRecDepth 100000 in
theorem mkX2_find : am_Mok mX2_find := ⟨List.mem_of_getElem? (i := 1175) rfl, List.mem_of_getElem? (i := 64) rfl, by decide +kernel, by decide +kernel, by decide +kernel⟩
set_option maxRecDepth 100000 in
theorem miX2_find : Cond.instanceMethod mX2_find.1 ∈ lw_tbl := List.mem_of_getElem? (i := 1173) rfl
set_option maxRecDepth 100000 in
theorem mvX2_find : Cond.selects mX2_find.1.cls mX2_find.1 mX2_find.1 ∈ lw_tbl := List.mem_of_getElem? (i := 1174) rfl
def mX3_init : am_M := (yX3_init, cX3_init, 1, none, 3, 0, true)
set_option maxRecDepth 100000 in
theorem mkX3_init : am_Mok mX3_init := ⟨List.mem_of_getElem? (i := 183) rfl, List.mem_of_getElem? (i := 61) rfl, by decide +kernel, by decide +kernel, by decide +kernel⟩
set_option maxRecDepth 100000 in
theorem miX3_init : Cond.instanceMethod mX3_init.1 ∈ lw_tbl := List.mem_of_getElem? (i := 182) rfl
def mX3_clear : am_M := (yX3_clear, cX3_clear, 1, none, 3, 0, false)
set_option maxRecDepth 100000 in
theorem mkX3_clear : am_Mok mX3_clear := ⟨List.mem_of_getElem? (i := 1122) rfl, List.mem_of_getElem? (i := 61) rfl, by decide +kernel, by decide +kernel, by decide +kernel⟩
set_option maxRecDepth 100000 in
theorem miX3_clear : Cond.instanceMethod mX3_clear.1 ∈ lw_tbl := List.mem_of_getElem? (i := 1120) rfl
set_option maxRecDepth 100000 in
theorem mvX3_clear : Cond.selects mX3_clear.1.cls mX3_clear.1 mX3_clear.1 ∈ lw_tbl := List.mem_of_getElem? (i := 1121) rfl
def mX3_begin : am_M := (yX3_begin, cX3_begin, 3, none, 3, 2, false)
set_option maxRecDepth 100000 in
theorem mkX3_begin : am_Mok mX3_begin := ⟨List.mem_of_getElem? (i := 1225) rfl, List.mem_of_getElem? (i := 61) rfl, by decide +kernel, by decide +kernel, by decide +kernel⟩
set_option maxRecDepth 100000 in
theorem miX3_begin : Cond.instanceMethod mX3_begin.1 ∈ lw_tbl := List.mem_of_getElem? (i := 1223) rfl
set_option maxRecDepth 100000 in
theorem mvX3_begin : Cond.selects mX3_begin.1.cls mX3_begin.1 mX3_begin.1 ∈ lw_tbl := List.mem_of_getElem? (i := 1224) rfl
def mX3_endSum : am_M := (yX3_endSum, cX3_endSum, 1, none, 3, 0, false)
set_option maxRecDepth 100000 in
theorem mkX3_endSum : am_Mok mX3_endSum := ⟨List.mem_of_getElem? (i := 1255) rfl, List.mem_of_getElem? (i := 61) rfl, by decide +kernel, by decide +kernel, by decide +kernel⟩
set_option maxRecDepth 100000 in
theorem miX3_endSum : Cond.instanceMethod mX3_endSum.1 ∈ lw_tbl := List.mem_of_getElem? (i := 1253) rfl
set_option maxRecDepth 100000 in
theorem mvX3_endSum : Cond.selects mX3_endSum.1.cls mX3_endSum.1 mX3_endSum.1 ∈ lw_tbl := List.mem_of_getElem? (i := 1254) rfl
def mX3_endTest : am_M := (yX3_endTest, cX3_endTest, 1, none, 3, 0, false)
set_option maxRecDepth 100000 in
theorem mkX3_endTest : am_Mok mX3_endTest := ⟨List.mem_of_getElem? (i := 1275) rfl, List.mem_of_getElem? (i := 61) rfl, by decide +kernel, by decide +kernel, by decide +kernel⟩
set_option maxRecDepth 100000 in
theorem miX3_endTest : Cond.instanceMethod mX3_endTest.1 ∈ lw_tbl := List.mem_of_getElem? (i := 1273) rfl
set_option maxRecDepth 100000 in
theorem mvX3_endTest : Cond.selects mX3_endTest.1.cls mX3_endTest.1 mX3_endTest.1 ∈ lw_tbl := List.mem_of_getElem? (i := 1274) rfl
def mX3_add : am_M := (yX3_add, cX3_add, 3, none, 3, 2, false)
set_option maxRecDepth 100000 in
theorem mkX3_add : am_Mok mX3_add := ⟨List.mem_of_getElem? (i := 1243) rfl, List.mem_of_getElem? (i := 61) rfl, by decide +kernel, by decide +kernel, by decide +kernel⟩
set_option maxRecDepth 100000 in
theorem miX3_add : Cond.instanceMethod mX3_add.1 ∈ lw_tbl := List.mem_of_getElem? (i := 1241) rfl
set_option maxRecDepth 100000 in
theorem mvX3_add : Cond.selects mX3_add.1.cls mX3_add.1 mX3_add.1 ∈ lw_tbl := List.mem_of_getElem? (i := 1242) rfl
def mX3_looksAtSpots : am_M := (yX3_looksAtSpots, cX3_looksAtSpots, 2, (Option.some Jvm.ClassFile.FieldType.boolean), 3, 1, false)
set_option maxRecDepth 100000 in
theorem mkX3_looksAtSpots : am_Mok mX3_looksAtSpots := ⟨List.mem_of_getElem? (i := 765) rfl, List.mem_of_getElem? (i := 61) rfl, by decide +kernel, by decide +kernel, by decide +kernel⟩
set_option maxRecDepth 100000 in
theorem miX3_looksAtSpots : Cond.instanceMethod mX3_looksAtSpots.1 ∈ lw_tbl := List.mem_of_getElem? (i := 763) rfl
set_option maxRecDepth 100000 in
theorem mvX3_looksAtSpots : Cond.selects mX3_looksAtSpots.1.cls mX3_looksAtSpots.1 mX3_looksAtSpots.1 ∈ lw_tbl := List.mem_of_getElem? (i := 764) rfl
def mX3_take : am_M := (yX3_take, cX3_take, 2, none, 3, 1, false)
set_option maxRecDepth 100000 in
theorem mkX3_take : am_Mok mX3_take := ⟨List.mem_of_getElem? (i := 1284) rfl, List.mem_of_getElem? (i := 61) rfl, by decide +kernel, by decide +kernel, by decide +kernel⟩
set_option maxRecDepth 100000 in
theorem miX3_take : Cond.instanceMethod mX3_take.1 ∈ lw_tbl := List.mem_of_getElem? (i := 1282) rfl
set_option maxRecDepth 100000 in
theorem mvX3_take : Cond.selects mX3_take.1.cls mX3_take.1 mX3_take.1 ∈ lw_tbl := List.mem_of_getElem? (i := 1283) rfl
def mX4_init : am_M := (yX4_init, cX4_init, 1, none, 4, 0, true)
set_option maxRecDepth 100000 in
theorem mkX4_init : am_Mok mX4_init := ⟨List.mem_of_getElem? (i := 373) rfl, List.mem_of_getElem? (i := 66) rfl, by decide +kernel, by decide +kernel, by decide +kernel⟩
set_option maxRecDepth 100000 in
theorem miX4_init : Cond.instanceMethod mX4_init.1 ∈ lw_tbl := List.mem_of_getElem? (i := 372) rfl
def mX4_find : am_M := (yX4_find, cX4_find, 7, none, 4, 3, false)
set_option maxRecDepth 100000 in
theorem mkX4_find : am_Mok mX4_find := ⟨List.mem_of_getElem? (i := 652) rfl, List.mem_of_getElem? (i := 66) rfl, by decide +kernel, by decide +kernel, by decide +kernel⟩
set_option maxRecDepth 100000 in
theorem miX4_find : Cond.instanceMethod mX4_find.1 ∈ lw_tbl := List.mem_of_getElem? (i := 650) rfl
set_option maxRecDepth 100000 in
theorem mvX4_find : Cond.selects mX4_find.1.cls mX4_find.1 mX4_find.1 ∈ lw_tbl := List.mem_of_getElem? (i := 651) rfl
def mX4_spread : am_M := (yX4_spread, cX4_spread, 12, none, 4, 4, false)
set_option maxRecDepth 100000 in
theorem mkX4_spread : am_Mok mX4_spread := ⟨List.mem_of_getElem? (i := 664) rfl, List.mem_of_getElem? (i := 66) rfl, by decide +kernel, by decide +kernel, by decide +kernel⟩
set_option maxRecDepth 100000 in
theorem miX4_spread : Cond.instanceMethod mX4_spread.1 ∈ lw_tbl := List.mem_of_getElem? (i := 663) rfl
set_option maxRecDepth 100000 in
theorem mvX4_spread : Cond.selects mX4_spread.1.cls mX4_spread.1 mX4_spread.1 ∈ lw_tbl := List.mem_of_getElem? (i := 2) rfl
def mX4_join : am_M := (yX4_join, cX4_join, 3, none, 4, 2, false)
set_option maxRecDepth 100000 in
theorem mkX4_join : am_Mok mX4_join := ⟨List.mem_of_getElem? (i := 668) rfl, List.mem_of_getElem? (i := 66) rfl, by decide +kernel, by decide +kernel, by decide +kernel⟩
set_option maxRecDepth 100000 in
theorem miX4_join : Cond.instanceMethod mX4_join.1 ∈ lw_tbl := List.mem_of_getElem? (i := 667) rfl
set_option maxRecDepth 100000 in
theorem mvX4_join : Cond.selects mX4_join.1.cls mX4_join.1 mX4_join.1 ∈ lw_tbl := List.mem_of_getElem? (i := 3) rfl
def mX4_leftOf : am_M := (yX4_leftOf, cX4_leftOf, 2, (Option.some Jvm.ClassFile.FieldType.int), 4, 2, false)
set_option maxRecDepth 100000 in
theorem mkX4_leftOf : am_Mok mX4_leftOf := ⟨List.mem_of_getElem? (i := 671) rfl, List.mem_of_getElem? (i := 66) rfl, by decide +kernel, by decide +kernel, by decide +kernel⟩
set_option maxRecDepth 100000 in
theorem msX4_leftOf : Cond.static mX4_leftOf.1 ∈ lw_tbl := List.mem_of_getElem? (i := 670) rfl
def mX4_rightOf : am_M := (yX4_rightOf, cX4_rightOf, 2, (Option.some Jvm.ClassFile.FieldType.int), 4, 2, false)
set_option maxRecDepth 100000 in
theorem mkX4_rightOf : am_Mok mX4_rightOf := ⟨List.mem_of_getElem? (i := 657) rfl, List.mem_of_getElem? (i := 66) rfl, by decide +kernel, by decide +kernel, by decide +kernel⟩
set_option maxRecDepth 100000 in
theorem msX4_rightOf : Cond.static mX4_rightOf.1 ∈ lw_tbl := List.mem_of_getElem? (i := 656) rfl
def mX4_above : am_M := (yX4_above, cX4_above, 3, (Option.some Jvm.ClassFile.FieldType.int), 4, 3, false)
set_option maxRecDepth 100000 in
theorem mkX4_above : am_Mok mX4_above := ⟨List.mem_of_getElem? (i := 674) rfl, List.mem_of_getElem? (i := 66) rfl, by decide +kernel, by decide +kernel, by decide +kernel⟩
set_option maxRecDepth 100000 in
theorem msX4_above : Cond.static mX4_above.1 ∈ lw_tbl := List.mem_of_getElem? (i := 673) rfl
def mX4_below : am_M := (yX4_below, cX4_below, 3, (Option.some Jvm.ClassFile.FieldType.int), 4, 3, false)
set_option maxRecDepth 100000 in
theorem mkX4_below : am_Mok mX4_below := ⟨List.mem_of_getElem? (i := 660) rfl, List.mem_of_getElem? (i := 66) rfl, by decide +kernel, by decide +kernel, by decide +kernel⟩
set_option maxRecDepth 100000 in
theorem msX4_below : Cond.static mX4_below.1 ∈ lw_tbl := List.mem_of_getElem? (i := 659) rfl
def mX4_sizeAt : am_M := (yX4_sizeAt, cX4_sizeAt, 2, (Option.some Jvm.ClassFile.FieldType.int), 4, 1, false)
set_option maxRecDepth 100000 in
theorem mkX4_sizeAt : am_Mok mX4_sizeAt := ⟨List.mem_of_getElem? (i := 707) rfl, List.mem_of_getElem? (i := 66) rfl, by decide +kernel, by decide +kernel, by decide +kernel⟩
set_option maxRecDepth 100000 in
theorem miX4_sizeAt : Cond.instanceMethod mX4_sizeAt.1 ∈ lw_tbl := List.mem_of_getElem? (i := 705) rfl
set_option maxRecDepth 100000 in
theorem mvX4_sizeAt : Cond.selects mX4_sizeAt.1.cls mX4_sizeAt.1 mX4_sizeAt.1 ∈ lw_tbl := List.mem_of_getElem? (i := 706) rfl
def mX5_init : am_M := (yX5_init, cX5_init, 1, none, 5, 0, true)
set_option maxRecDepth 100000 in
theorem mkX5_init : am_Mok mX5_init := ⟨List.mem_of_getElem? (i := 177) rfl, List.mem_of_getElem? (i := 60) rfl, by decide +kernel, by decide +kernel, by decide +kernel⟩
set_option maxRecDepth 100000 in
theorem miX5_init : Cond.instanceMethod mX5_init.1 ∈ lw_tbl := List.mem_of_getElem? (i := 176) rfl
def mX5_clear : am_M := (yX5_clear, cX5_clear, 1, none, 5, 0, false)
set_option maxRecDepth 100000 in
theorem mkX5_clear : am_Mok mX5_clear := ⟨List.mem_of_getElem? (i := 1118) rfl, List.mem_of_getElem? (i := 60) rfl, by decide +kernel, by decide +kernel, by decide +kernel⟩
set_option maxRecDepth 100000 in
theorem miX5_clear : Cond.instanceMethod mX5_clear.1 ∈ lw_tbl := List.mem_of_getElem? (i := 1116) rfl
set_option maxRecDepth 100000 in
theorem mvX5_clear : Cond.selects mX5_clear.1.cls mX5_clear.1 mX5_clear.1 ∈ lw_tbl := List.mem_of_getElem? (i := 1117) rfl
def mX5_addOctave : am_M := (yX5_addOctave, cX5_addOctave, 5, none, 5, 4, false)
set_option maxRecDepth 100000 in
theorem mkX5_addOctave : am_Mok mX5_addOctave := ⟨List.mem_of_getElem? (i := 1187) rfl, List.mem_of_getElem? (i := 60) rfl, by decide +kernel, by decide +kernel, by decide +kernel⟩
set_option maxRecDepth 100000 in
theorem miX5_addOctave : Cond.instanceMethod mX5_addOctave.1 ∈ lw_tbl := List.mem_of_getElem? (i := 1185) rfl
set_option maxRecDepth 100000 in
theorem mvX5_addOctave : Cond.selects mX5_addOctave.1.cls mX5_addOctave.1 mX5_addOctave.1 ∈ lw_tbl := List.mem_of_getElem? (i := 1186) rfl
def mX5_addComb : am_M := (yX5_addComb, cX5_addComb, 4, none, 5, 3, false)
set_option maxRecDepth 100000 in
theorem mkX5_addComb : am_Mok mX5_addComb := ⟨List.mem_of_getElem? (i := 1201) rfl, List.mem_of_getElem? (i := 60) rfl, by decide +kernel, by decide +kernel, by decide +kernel⟩
set_option maxRecDepth 100000 in
theorem miX5_addComb : Cond.instanceMethod mX5_addComb.1 ∈ lw_tbl := List.mem_of_getElem? (i := 1199) rfl
set_option maxRecDepth 100000 in
theorem mvX5_addComb : Cond.selects mX5_addComb.1.cls mX5_addComb.1 mX5_addComb.1 ∈ lw_tbl := List.mem_of_getElem? (i := 1200) rfl
def mX5_addInk : am_M := (yX5_addInk, cX5_addInk, 2, none, 5, 1, false)
set_option maxRecDepth 100000 in
theorem mkX5_addInk : am_Mok mX5_addInk := ⟨List.mem_of_getElem? (i := 1213) rfl, List.mem_of_getElem? (i := 60) rfl, by decide +kernel, by decide +kernel, by decide +kernel⟩
set_option maxRecDepth 100000 in
theorem miX5_addInk : Cond.instanceMethod mX5_addInk.1 ∈ lw_tbl := List.mem_of_getElem? (i := 1211) rfl
set_option maxRecDepth 100000 in
theorem mvX5_addInk : Cond.selects mX5_addInk.1.cls mX5_addInk.1 mX5_addInk.1 ∈ lw_tbl := List.mem_of_getElem? (i := 1212) rfl
def mX5_lowestNextLevel : am_M := (yX5_lowestNextLevel, cX5_lowestNextLevel, 1, (Option.some Jvm.ClassFile.FieldType.int), 5, 0, false)
set_option maxRecDepth 100000 in
theorem mkX5_lowestNextLevel : am_Mok mX5_lowestNextLevel := ⟨List.mem_of_getElem? (i := 1209) rfl, List.mem_of_getElem? (i := 60) rfl, by decide +kernel, by decide +kernel, by decide +kernel⟩
set_option maxRecDepth 100000 in
theorem miX5_lowestNextLevel : Cond.instanceMethod mX5_lowestNextLevel.1 ∈ lw_tbl := List.mem_of_getElem? (i := 1207) rfl
set_option maxRecDepth 100000 in
theorem mvX5_lowestNextLevel : Cond.selects mX5_lowestNextLevel.1.cls mX5_lowestNextLevel.1 mX5_lowestNextLevel.1 ∈ lw_tbl := List.mem_of_getElem? (i := 1208) rfl
def mX5_take : am_M := (yX5_take, cX5_take, 2, none, 5, 1, false)
set_option maxRecDepth 100000 in
theorem mkX5_take : am_Mok mX5_take := ⟨List.mem_of_getElem? (i := 1279) rfl, List.mem_of_getElem? (i := 60) rfl, by decide +kernel, by decide +kernel, by decide +kernel⟩
set_option maxRecDepth 100000 in
theorem miX5_take : Cond.instanceMethod mX5_take.1 ∈ lw_tbl := List.mem_of_getElem? (i := 1277) rfl
set_option maxRecDepth 100000 in
theorem mvX5_take : Cond.selects mX5_take.1.cls mX5_take.1 mX5_take.1 ∈ lw_tbl := List.mem_of_getElem? (i := 1278) rfl
def mX5_spot : am_M := (yX5_spot, cX5_spot, 3, (Option.some Jvm.ClassFile.FieldType.int), 5, 2, false)
set_option maxRecDepth 100000 in
theorem mkX5_spot : am_Mok mX5_spot := ⟨List.mem_of_getElem? (i := 626) rfl, List.mem_of_getElem? (i := 60) rfl, by decide +kernel, by decide +kernel, by decide +kernel⟩
set_option maxRecDepth 100000 in
theorem miX5_spot : Cond.instanceMethod mX5_spot.1 ∈ lw_tbl := List.mem_of_getElem? (i := 624) rfl
set_option maxRecDepth 100000 in
theorem mvX5_spot : Cond.selects mX5_spot.1.cls mX5_spot.1 mX5_spot.1 ∈ lw_tbl := List.mem_of_getElem? (i := 625) rfl
def mX5_linesOf : am_M := (yX5_linesOf, cX5_linesOf, 2, (Option.some Jvm.ClassFile.FieldType.int), 5, 1, false)
set_option maxRecDepth 100000 in
theorem mkX5_linesOf : am_Mok mX5_linesOf := ⟨List.mem_of_getElem? (i := 735) rfl, List.mem_of_getElem? (i := 60) rfl, by decide +kernel, by decide +kernel, by decide +kernel⟩
set_option maxRecDepth 100000 in
theorem miX5_linesOf : Cond.instanceMethod mX5_linesOf.1 ∈ lw_tbl := List.mem_of_getElem? (i := 733) rfl
set_option maxRecDepth 100000 in
theorem mvX5_linesOf : Cond.selects mX5_linesOf.1.cls mX5_linesOf.1 mX5_linesOf.1 ∈ lw_tbl := List.mem_of_getElem? (i := 734) rfl
def mX5_inkOf : am_M := (yX5_inkOf, cX5_inkOf, 4, (Option.some Jvm.ClassFile.FieldType.int), 5, 1, false)
set_option maxRecDepth 100000 in
theorem mkX5_inkOf : am_Mok mX5_inkOf := ⟨List.mem_of_getElem? (i := 646) rfl, List.mem_of_getElem? (i := 60) rfl, by decide +kernel, by decide +kernel, by decide +kernel⟩
set_option maxRecDepth 100000 in
theorem miX5_inkOf : Cond.instanceMethod mX5_inkOf.1 ∈ lw_tbl := List.mem_of_getElem? (i := 644) rfl
set_option maxRecDepth 100000 in
theorem mvX5_inkOf : Cond.selects mX5_inkOf.1.cls mX5_inkOf.1 mX5_inkOf.1 ∈ lw_tbl := List.mem_of_getElem? (i := 645) rfl
def mX6_init : am_M := (yX6_init, cX6_init, 2, none, 6, 1, true)
set_option maxRecDepth 100000 in
theorem mkX6_init : am_Mok mX6_init := ⟨List.mem_of_getElem? (i := 313) rfl, List.mem_of_getElem? (i := 63) rfl, by decide +kernel, by decide +kernel, by decide +kernel⟩
set_option maxRecDepth 100000 in
theorem miX6_init : Cond.instanceMethod mX6_init.1 ∈ lw_tbl := List.mem_of_getElem? (i := 312) rfl
def mX6_read : am_M := (yX6_read, cX6_read, 2, (Option.some Jvm.ClassFile.FieldType.int), 6, 0, false)
set_option maxRecDepth 100000 in
theorem mkX6_read : am_Mok mX6_read := ⟨List.mem_of_getElem? (i := 1023) rfl, List.mem_of_getElem? (i := 63) rfl, by decide +kernel, by decide +kernel, by decide +kernel⟩
set_option maxRecDepth 100000 in
theorem miX6_read : Cond.instanceMethod mX6_read.1 ∈ lw_tbl := List.mem_of_getElem? (i := 1021) rfl
set_option maxRecDepth 100000 in
theorem mvX6_read : Cond.selects mX6_read.1.cls mX6_read.1 mX6_read.1 ∈ lw_tbl := List.mem_of_getElem? (i := 1022) rfl
def mX6_readLine : am_M := (yX6_readLine, cX6_readLine, 2, none, 6, 0, false)
set_option maxRecDepth 100000 in
theorem mkX6_readLine : am_Mok mX6_readLine := ⟨List.mem_of_getElem? (i := 1134) rfl, List.mem_of_getElem? (i := 63) rfl, by decide +kernel, by decide +kernel, by decide +kernel⟩
set_option maxRecDepth 100000 in
theorem miX6_readLine : Cond.instanceMethod mX6_readLine.1 ∈ lw_tbl := List.mem_of_getElem? (i := 1133) rfl
set_option maxRecDepth 100000 in
theorem mvX6_readLine : Cond.selects mX6_readLine.1.cls mX6_readLine.1 mX6_readLine.1 ∈ lw_tbl := List.mem_of_getElem? (i := 22) rfl
def mX6_readPaper : am_M := (yX6_readPaper, cX6_readPaper, 1, none, 6, 0, false)
set_option maxRecDepth 100000 in
theorem mkX6_readPaper : am_Mok mX6_readPaper := ⟨List.mem_of_getElem? (i := 1138) rfl, List.mem_of_getElem? (i := 63) rfl, by decide +kernel, by decide +kernel, by decide +kernel⟩
set_option maxRecDepth 100000 in
theorem miX6_readPaper : Cond.instanceMethod mX6_readPaper.1 ∈ lw_tbl := List.mem_of_getElem? (i := 1137) rfl
set_option maxRecDepth 100000 in
theorem mvX6_readPaper : Cond.selects mX6_readPaper.1.cls mX6_readPaper.1 mX6_readPaper.1 ∈ lw_tbl := List.mem_of_getElem? (i := 23) rfl
def mX6_readOctave : am_M := (yX6_readOctave, cX6_readOctave, 4, none, 6, 0, false)
set_option maxRecDepth 100000 in
theorem mkX6_readOctave : am_Mok mX6_readOctave := ⟨List.mem_of_getElem? (i := 1167) rfl, List.mem_of_getElem? (i := 63) rfl, by decide +kernel, by decide +kernel, by decide +kernel⟩
set_option maxRecDepth 100000 in
theorem miX6_readOctave : Cond.instanceMethod mX6_readOctave.1 ∈ lw_tbl := List.mem_of_getElem? (i := 1166) rfl
set_option maxRecDepth 100000 in
theorem mvX6_readOctave : Cond.selects mX6_readOctave.1.cls mX6_readOctave.1 mX6_readOctave.1 ∈ lw_tbl := List.mem_of_getElem? (i := 29) rfl
def mX6_readComb : am_M := (yX6_readComb, cX6_readComb, 3, none, 6, 0, false)
set_option maxRecDepth 100000 in
theorem mkX6_readComb : am_Mok mX6_readComb := ⟨List.mem_of_getElem? (i := 1193) rfl, List.mem_of_getElem? (i := 63) rfl, by decide +kernel, by decide +kernel, by decide +kernel⟩
set_option maxRecDepth 100000 in
theorem miX6_readComb : Cond.instanceMethod mX6_readComb.1 ∈ lw_tbl := List.mem_of_getElem? (i := 1192) rfl
set_option maxRecDepth 100000 in
theorem mvX6_readComb : Cond.selects mX6_readComb.1.cls mX6_readComb.1 mX6_readComb.1 ∈ lw_tbl := List.mem_of_getElem? (i := 31) rfl
def mX6_readInk : am_M := (yX6_readInk, cX6_readInk, 1, none, 6, 0, false)
set_option maxRecDepth 100000 in
theorem mkX6_readInk : am_Mok mX6_readInk := ⟨List.mem_of_getElem? (i := 1205) rfl, List.mem_of_getElem? (i := 63) rfl, by decide +kernel, by decide +kernel, by decide +kernel⟩
set_option maxRecDepth 100000 in
theorem miX6_readInk : Cond.instanceMethod mX6_readInk.1 ∈ lw_tbl := List.mem_of_getElem? (i := 1204) rfl
set_option maxRecDepth 100000 in
theorem mvX6_readInk : Cond.selects mX6_readInk.1.cls mX6_readInk.1 mX6_readInk.1 ∈ lw_tbl := List.mem_of_getElem? (i := 33) rfl
def mX6_readOrderHead : am_M := (yX6_readOrderHead, cX6_readOrderHead, 3, none, 6, 0, false)
set_option maxRecDepth 100000 in
theorem mkX6_readOrderHead : am_Mok mX6_readOrderHead := ⟨List.mem_of_getElem? (i := 1217) rfl, List.mem_of_getElem? (i := 63) rfl, by decide +kernel, by decide +kernel, by decide +kernel⟩
set_option maxRecDepth 100000 in
theorem miX6_readOrderHead : Cond.instanceMethod mX6_readOrderHead.1 ∈ lw_tbl := List.mem_of_getElem? (i := 1216) rfl
set_option maxRecDepth 100000 in
theorem mvX6_readOrderHead : Cond.selects mX6_readOrderHead.1.cls mX6_readOrderHead.1 mX6_readOrderHead.1 ∈ lw_tbl := List.mem_of_getElem? (i := 34) rfl
def mX6_readTest : am_M := (yX6_readTest, cX6_readTest, 3, none, 6, 1, false)
set_option maxRecDepth 100000 in
theorem mkX6_readTest : am_Mok mX6_readTest := ⟨List.mem_of_getElem? (i := 1259) rfl, List.mem_of_getElem? (i := 63) rfl, by decide +kernel, by decide +kernel, by decide +kernel⟩
set_option maxRecDepth 100000 in
theorem miX6_readTest : Cond.instanceMethod mX6_readTest.1 ∈ lw_tbl := List.mem_of_getElem? (i := 1258) rfl
set_option maxRecDepth 100000 in
theorem mvX6_readTest : Cond.selects mX6_readTest.1.cls mX6_readTest.1 mX6_readTest.1 ∈ lw_tbl := List.mem_of_getElem? (i := 41) rfl
def mX6_readBoth : am_M := (yX6_readBoth, cX6_readBoth, 3, none, 6, 1, false)
set_option maxRecDepth 100000 in
theorem mkX6_readBoth : am_Mok mX6_readBoth := ⟨List.mem_of_getElem? (i := 1263) rfl, List.mem_of_getElem? (i := 63) rfl, by decide +kernel, by decide +kernel, by decide +kernel⟩
set_option maxRecDepth 100000 in
theorem miX6_readBoth : Cond.instanceMethod mX6_readBoth.1 ∈ lw_tbl := List.mem_of_getElem? (i := 1262) rfl
set_option maxRecDepth 100000 in
theorem mvX6_readBoth : Cond.selects mX6_readBoth.1.cls mX6_readBoth.1 mX6_readBoth.1 ∈ lw_tbl := List.mem_of_getElem? (i := 42) rfl
def mX6_readSingle : am_M := (yX6_readSingle, cX6_readSingle, 3, none, 6, 1, false)
set_option maxRecDepth 100000 in
theorem mkX6_readSingle : am_Mok mX6_readSingle := ⟨List.mem_of_getElem? (i := 1267) rfl, List.mem_of_getElem? (i := 63) rfl, by decide +kernel, by decide +kernel, by decide +kernel⟩
set_option maxRecDepth 100000 in
theorem miX6_readSingle : Cond.instanceMethod mX6_readSingle.1 ∈ lw_tbl := List.mem_of_getElem? (i := 1266) rfl
set_option maxRecDepth 100000 in
theorem mvX6_readSingle : Cond.selects mX6_readSingle.1.cls mX6_readSingle.1 mX6_readSingle.1 ∈ lw_tbl := List.mem_of_getElem? (i := 43) rfl
def mX6_readComparison : am_M := (yX6_readComparison, cX6_readComparison, 2, (Option.some Jvm.ClassFile.FieldType.int), 6, 0, false)
set_option maxRecDepth 100000 in
theorem mkX6_readComparison : am_Mok mX6_readComparison := ⟨List.mem_of_getElem? (i := 1271) rfl, List.mem_of_getElem? (i := 63) rfl, by decide +kernel, by decide +kernel, by decide +kernel⟩
set_option maxRecDepth 100000 in
theorem miX6_readComparison : Cond.instanceMethod mX6_readComparison.1 ∈ lw_tbl := List.mem_of_getElem? (i := 1270) rfl
set_option maxRecDepth 100000 in
theorem mvX6_readComparison : Cond.selects mX6_readComparison.1.cls mX6_readComparison.1 mX6_readComparison.1 ∈ lw_tbl := List.mem_of_getElem? (i := 44) rfl
def mX6_readSum : am_M := (yX6_readSum, cX6_readSum, 4, none, 6, 1, false)
set_option maxRecDepth 100000 in
theorem mkX6_readSum : am_Mok mX6_readSum := ⟨List.mem_of_getElem? (i := 1231) rfl, List.mem_of_getElem? (i := 63) rfl, by decide +kernel, by decide +kernel, by decide +kernel⟩
set_option maxRecDepth 100000 in
theorem miX6_readSum : Cond.instanceMethod mX6_readSum.1 ∈ lw_tbl := List.mem_of_getElem? (i := 1230) rfl
set_option maxRecDepth 100000 in
theorem mvX6_readSum : Cond.selects mX6_readSum.1.cls mX6_readSum.1 mX6_readSum.1 ∈ lw_tbl := List.mem_of_getElem? (i := 36) rfl
def mX6_readProduct : am_M := (yX6_readProduct, cX6_readProduct, 4, none, 6, 1, false)
set_option maxRecDepth 100000 in
theorem mkX6_readProduct : am_Mok mX6_readProduct := ⟨List.mem_of_getElem? (i := 1235) rfl, List.mem_of_getElem? (i := 63) rfl, by decide +kernel, by decide +kernel, by decide +kernel⟩
set_option maxRecDepth 100000 in
theorem miX6_readProduct : Cond.instanceMethod mX6_readProduct.1 ∈ lw_tbl := List.mem_of_getElem? (i := 1234) rfl
set_option maxRecDepth 100000 in
theorem mvX6_readProduct : Cond.selects mX6_readProduct.1.cls mX6_readProduct.1 mX6_readProduct.1 ∈ lw_tbl := List.mem_of_getElem? (i := 37) rfl
def mX6_readValue : am_M := (yX6_readValue, cX6_readValue, 3, none, 6, 1, false)
set_option maxRecDepth 100000 in
theorem mkX6_readValue : am_Mok mX6_readValue := ⟨List.mem_of_getElem? (i := 1239) rfl, List.mem_of_getElem? (i := 63) rfl, by decide +kernel, by decide +kernel, by decide +kernel⟩
set_option maxRecDepth 100000 in
theorem miX6_readValue : Cond.instanceMethod mX6_readValue.1 ∈ lw_tbl := List.mem_of_getElem? (i := 1238) rfl
set_option maxRecDepth 100000 in
theorem mvX6_readValue : Cond.selects mX6_readValue.1.cls mX6_readValue.1 mX6_readValue.1 ∈ lw_tbl := List.mem_of_getElem? (i := 38) rfl
def mX6_readPair : am_M := (yX6_readPair, cX6_readPair, 2, none, 6, 1, false)
set_option maxRecDepth 100000 in
theorem mkX6_readPair : am_Mok mX6_readPair := ⟨List.mem_of_getElem? (i := 1251) rfl, List.mem_of_getElem? (i := 63) rfl, by decide +kernel, by decide +kernel, by decide +kernel⟩
set_option maxRecDepth 100000 in
theorem miX6_readPair : Cond.instanceMethod mX6_readPair.1 ∈ lw_tbl := List.mem_of_getElem? (i := 1250) rfl
set_option maxRecDepth 100000 in
theorem mvX6_readPair : Cond.selects mX6_readPair.1.cls mX6_readPair.1 mX6_readPair.1 ∈ lw_tbl := List.mem_of_getElem? (i := 40) rfl
def mX6_namesBehind : am_M := (yX6_namesBehind, cX6_namesBehind, 2, (Option.some (Jvm.ClassFile.FieldType.object "MarbledPaper$Names")), 6, 1, false)
set_option maxRecDepth 100000 in
theorem mkX6_namesBehind : am_Mok mX6_namesBehind := ⟨List.mem_of_getElem? (i := 1247) rfl, List.mem_of_getElem? (i := 63) rfl, by decide +kernel, by decide +kernel, by decide +kernel⟩
set_option maxRecDepth 100000 in
theorem miX6_namesBehind : Cond.instanceMethod mX6_namesBehind.1 ∈ lw_tbl := List.mem_of_getElem? (i := 1246) rfl
set_option maxRecDepth 100000 in
theorem mvX6_namesBehind : Cond.selects mX6_namesBehind.1.cls mX6_namesBehind.1 mX6_namesBehind.1 ∈ lw_tbl := List.mem_of_getElem? (i := 39) rfl
def mX6_readNewName : am_M := (yX6_readNewName, cX6_readNewName, 4, none, 6, 1, false)
set_option maxRecDepth 100000 in
theorem mkX6_readNewName : am_Mok mX6_readNewName := ⟨List.mem_of_getElem? (i := 1171) rfl, List.mem_of_getElem? (i := 63) rfl, by decide +kernel, by decide +kernel, by decide +kernel⟩
set_option maxRecDepth 100000 in
theorem miX6_readNewName : Cond.instanceMethod mX6_readNewName.1 ∈ lw_tbl := List.mem_of_getElem? (i := 1170) rfl
set_option maxRecDepth 100000 in
theorem mvX6_readNewName : Cond.selects mX6_readNewName.1.cls mX6_readNewName.1 mX6_readNewName.1 ∈ lw_tbl := List.mem_of_getElem? (i := 30) rfl
def mX6_readKnownName : am_M := (yX6_readKnownName, cX6_readKnownName, 3, (Option.some Jvm.ClassFile.FieldType.int), 6, 1, false)
set_option maxRecDepth 100000 in
theorem mkX6_readKnownName : am_Mok mX6_readKnownName := ⟨List.mem_of_getElem? (i := 1221) rfl, List.mem_of_getElem? (i := 63) rfl, by decide +kernel, by decide +kernel, by decide +kernel⟩
set_option maxRecDepth 100000 in
theorem miX6_readKnownName : Cond.instanceMethod mX6_readKnownName.1 ∈ lw_tbl := List.mem_of_getElem? (i := 1220) rfl
set_option maxRecDepth 100000 in
theorem mvX6_readKnownName : Cond.selects mX6_readKnownName.1.cls mX6_readKnownName.1 mX6_readKnownName.1 ∈ lw_tbl := List.mem_of_getElem? (i := 35) rfl
def mX6_readNumber : am_M := (yX6_readNumber, cX6_readNumber, 4, (Option.some Jvm.ClassFile.FieldType.int), 6, 2, false)
set_option maxRecDepth 100000 in
theorem mkX6_readNumber : am_Mok mX6_readNumber := ⟨List.mem_of_getElem? (i := 1146) rfl, List.mem_of_getElem? (i := 63) rfl, by decide +kernel, by decide +kernel, by decide +kernel⟩
set_option maxRecDepth 100000 in
theorem miX6_readNumber : Cond.instanceMethod mX6_readNumber.1 ∈ lw_tbl := List.mem_of_getElem? (i := 1145) rfl
set_option maxRecDepth 100000 in
theorem mvX6_readNumber : Cond.selects mX6_readNumber.1.cls mX6_readNumber.1 mX6_readNumber.1 ∈ lw_tbl := List.mem_of_getElem? (i := 25) rfl
def mX6_readWay : am_M := (yX6_readWay, cX6_readWay, 2, (Option.some Jvm.ClassFile.FieldType.int), 6, 0, false)
set_option maxRecDepth 100000 in
theorem mkX6_readWay : am_Mok mX6_readWay := ⟨List.mem_of_getElem? (i := 1197) rfl, List.mem_of_getElem? (i := 63) rfl, by decide +kernel, by decide +kernel, by decide +kernel⟩
set_option maxRecDepth 100000 in
theorem miX6_readWay : Cond.instanceMethod mX6_readWay.1 ∈ lw_tbl := List.mem_of_getElem? (i := 1196) rfl
set_option maxRecDepth 100000 in
theorem mvX6_readWay : Cond.selects mX6_readWay.1.cls mX6_readWay.1 mX6_readWay.1 ∈ lw_tbl := List.mem_of_getElem? (i := 32) rfl
def mX6_expect : am_M := (yX6_expect, cX6_expect, 2, none, 6, 1, false)
set_option maxRecDepth 100000 in
theorem mkX6_expect : am_Mok mX6_expect := ⟨List.mem_of_getElem? (i := 1163) rfl, List.mem_of_getElem? (i := 63) rfl, by decide +kernel, by decide +kernel, by decide +kernel⟩
set_option maxRecDepth 100000 in
theorem miX6_expect : Cond.instanceMethod mX6_expect.1 ∈ lw_tbl := List.mem_of_getElem? (i := 1162) rfl
set_option maxRecDepth 100000 in
theorem mvX6_expect : Cond.selects mX6_expect.1.cls mX6_expect.1 mX6_expect.1 ∈ lw_tbl := List.mem_of_getElem? (i := 28) rfl
def mX6_advance : am_M := (yX6_advance, cX6_advance, 1, none, 6, 0, false)
set_option maxRecDepth 100000 in
theorem mkX6_advance : am_Mok mX6_advance := ⟨List.mem_of_getElem? (i := 1142) rfl, List.mem_of_getElem? (i := 63) rfl, by decide +kernel, by decide +kernel, by decide +kernel⟩
set_option maxRecDepth 100000 in
theorem miX6_advance : Cond.instanceMethod mX6_advance.1 ∈ lw_tbl := List.mem_of_getElem? (i := 1141) rfl
set_option maxRecDepth 100000 in
theorem mvX6_advance : Cond.selects mX6_advance.1.cls mX6_advance.1 mX6_advance.1 ∈ lw_tbl := List.mem_of_getElem? (i := 24) rfl
def mX6_refuse : am_M := (yX6_refuse, cX6_refuse, 1, none, 6, 0, false)
set_option maxRecDepth 100000 in
theorem mkX6_refuse : am_Mok mX6_refuse := ⟨List.mem_of_getElem? (i := 1150) rfl, List.mem_of_getElem? (i := 63) rfl, by decide +kernel, by decide +kernel, by decide +kernel⟩
set_option maxRecDepth 100000 in
theorem miX6_refuse : Cond.instanceMethod mX6_refuse.1 ∈ lw_tbl := List.mem_of_getElem? (i := 1149) rfl
set_option maxRecDepth 100000 in
theorem mvX6_refuse : Cond.selects mX6_refuse.1.cls mX6_refuse.1 mX6_refuse.1 ∈ lw_tbl := List.mem_of_getElem? (i := 26) rfl
def mX6_fault : am_M := (yX6_fault, cX6_fault, 2, none, 6, 1, false)
set_option maxRecDepth 100000 in
theorem mkX6_fault : am_Mok mX6_fault := ⟨List.mem_of_getElem? (i := 1159) rfl, List.mem_of_getElem? (i := 63) rfl, by decide +kernel, by decide +kernel, by decide +kernel⟩
set_option maxRecDepth 100000 in
theorem miX6_fault : Cond.instanceMethod mX6_fault.1 ∈ lw_tbl := List.mem_of_getElem? (i := 1158) rfl
set_option maxRecDepth 100000 in
theorem mvX6_fault : Cond.selects mX6_fault.1.cls mX6_fault.1 mX6_fault.1 ∈ lw_tbl := List.mem_of_getElem? (i := 27) rfl
def mX7_init : am_M := (yX7_init, cX7_init, 3, none, 7, 2, true)
set_option maxRecDepth 100000 in
theorem mkX7_init : am_Mok mX7_init := ⟨List.mem_of_getElem? (i := 367) rfl, List.mem_of_getElem? (i := 65) rfl, by decide +kernel, by decide +kernel, by decide +kernel⟩
set_option maxRecDepth 100000 in
theorem miX7_init : Cond.instanceMethod mX7_init.1 ∈ lw_tbl := List.mem_of_getElem? (i := 366) rfl
def mX7_begin : am_M := (yX7_begin, cX7_begin, 1, none, 7, 0, false)
set_option maxRecDepth 100000 in
theorem mkX7_begin : am_Mok mX7_begin := ⟨List.mem_of_getElem? (i := 1293) rfl, List.mem_of_getElem? (i := 65) rfl, by decide +kernel, by decide +kernel, by decide +kernel⟩
set_option maxRecDepth 100000 in
theorem miX7_begin : Cond.instanceMethod mX7_begin.1 ∈ lw_tbl := List.mem_of_getElem? (i := 1291) rfl
set_option maxRecDepth 100000 in
theorem mvX7_begin : Cond.selects mX7_begin.1.cls mX7_begin.1 mX7_begin.1 ∈ lw_tbl := List.mem_of_getElem? (i := 1292) rfl
def mX7_take : am_M := (yX7_take, cX7_take, 2, none, 7, 1, false)
set_option maxRecDepth 100000 in
theorem mkX7_take : am_Mok mX7_take := ⟨List.mem_of_getElem? (i := 836) rfl, List.mem_of_getElem? (i := 65) rfl, by decide +kernel, by decide +kernel, by decide +kernel⟩
set_option maxRecDepth 100000 in
theorem miX7_take : Cond.instanceMethod mX7_take.1 ∈ lw_tbl := List.mem_of_getElem? (i := 834) rfl
set_option maxRecDepth 100000 in
theorem mvX7_take : Cond.selects mX7_take.1.cls mX7_take.1 mX7_take.1 ∈ lw_tbl := List.mem_of_getElem? (i := 835) rfl
def mX7_takePulls : am_M := (yX7_takePulls, cX7_takePulls, 3, none, 7, 1, false)
set_option maxRecDepth 100000 in
theorem mkX7_takePulls : am_Mok mX7_takePulls := ⟨List.mem_of_getElem? (i := 840) rfl, List.mem_of_getElem? (i := 65) rfl, by decide +kernel, by decide +kernel, by decide +kernel⟩
set_option maxRecDepth 100000 in
theorem miX7_takePulls : Cond.instanceMethod mX7_takePulls.1 ∈ lw_tbl := List.mem_of_getElem? (i := 839) rfl
set_option maxRecDepth 100000 in
theorem mvX7_takePulls : Cond.selects mX7_takePulls.1.cls mX7_takePulls.1 mX7_takePulls.1 ∈ lw_tbl := List.mem_of_getElem? (i := 12) rfl
def mX7_spoil : am_M := (yX7_spoil, cX7_spoil, 1, none, 7, 0, false)
set_option maxRecDepth 100000 in
theorem mkX7_spoil : am_Mok mX7_spoil := ⟨List.mem_of_getElem? (i := 819) rfl, List.mem_of_getElem? (i := 65) rfl, by decide +kernel, by decide +kernel, by decide +kernel⟩
set_option maxRecDepth 100000 in
theorem miX7_spoil : Cond.instanceMethod mX7_spoil.1 ∈ lw_tbl := List.mem_of_getElem? (i := 818) rfl
set_option maxRecDepth 100000 in
theorem mvX7_spoil : Cond.selects mX7_spoil.1.cls mX7_spoil.1 mX7_spoil.1 ∈ lw_tbl := List.mem_of_getElem? (i := 11) rfl
def mX7_changePull : am_M := (yX7_changePull, cX7_changePull, 3, (Option.some Jvm.ClassFile.FieldType.boolean), 7, 2, false)
set_option maxRecDepth 100000 in
theorem mkX7_changePull : am_Mok mX7_changePull := ⟨List.mem_of_getElem? (i := 810) rfl, List.mem_of_getElem? (i := 65) rfl, by decide +kernel, by decide +kernel, by decide +kernel⟩
set_option maxRecDepth 100000 in
theorem miX7_changePull : Cond.instanceMethod mX7_changePull.1 ∈ lw_tbl := List.mem_of_getElem? (i := 808) rfl
set_option maxRecDepth 100000 in
theorem mvX7_changePull : Cond.selects mX7_changePull.1.cls mX7_changePull.1 mX7_changePull.1 ∈ lw_tbl := List.mem_of_getElem? (i := 809) rfl
def mX7_changeSeed : am_M := (yX7_changeSeed, cX7_changeSeed, 3, (Option.some Jvm.ClassFile.FieldType.boolean), 7, 2, false)
set_option maxRecDepth 100000 in
theorem mkX7_changeSeed : am_Mok mX7_changeSeed := ⟨List.mem_of_getElem? (i := 823) rfl, List.mem_of_getElem? (i := 65) rfl, by decide +kernel, by decide +kernel, by decide +kernel⟩
set_option maxRecDepth 100000 in
theorem miX7_changeSeed : Cond.instanceMethod mX7_changeSeed.1 ∈ lw_tbl := List.mem_of_getElem? (i := 821) rfl
set_option maxRecDepth 100000 in
theorem mvX7_changeSeed : Cond.selects mX7_changeSeed.1.cls mX7_changeSeed.1 mX7_changeSeed.1 ∈ lw_tbl := List.mem_of_getElem? (i := 822) rfl
def mX7_changeDrift : am_M := (yX7_changeDrift, cX7_changeDrift, 6, (Option.some Jvm.ClassFile.FieldType.boolean), 7, 2, false)
set_option maxRecDepth 100000 in
theorem mkX7_changeDrift : am_Mok mX7_changeDrift := ⟨List.mem_of_getElem? (i := 827) rfl, List.mem_of_getElem? (i := 65) rfl, by decide +kernel, by decide +kernel, by decide +kernel⟩
set_option maxRecDepth 100000 in
theorem miX7_changeDrift : Cond.instanceMethod mX7_changeDrift.1 ∈ lw_tbl := List.mem_of_getElem? (i := 825) rfl
set_option maxRecDepth 100000 in
theorem mvX7_changeDrift : Cond.selects mX7_changeDrift.1.cls mX7_changeDrift.1 mX7_changeDrift.1 ∈ lw_tbl := List.mem_of_getElem? (i := 826) rfl
def mX7_dipOnce : am_M := (yX7_dipOnce, cX7_dipOnce, 2, none, 7, 0, false)
set_option maxRecDepth 100000 in
theorem mkX7_dipOnce : am_Mok mX7_dipOnce := ⟨List.mem_of_getElem? (i := 761) rfl, List.mem_of_getElem? (i := 65) rfl, by decide +kernel, by decide +kernel, by decide +kernel⟩
set_option maxRecDepth 100000 in
theorem miX7_dipOnce : Cond.instanceMethod mX7_dipOnce.1 ∈ lw_tbl := List.mem_of_getElem? (i := 759) rfl
set_option maxRecDepth 100000 in
theorem mvX7_dipOnce : Cond.selects mX7_dipOnce.1.cls mX7_dipOnce.1 mX7_dipOnce.1 ∈ lw_tbl := List.mem_of_getElem? (i := 760) rfl
