/-! methods, part 3 -/
def mX12_moves : am_M := (yX12_moves, cX12_moves, 5, (Option.some Jvm.ClassFile.FieldType.int), 12, 2, false)
set_option maxRecDepth 100000 in
theorem mkX12_moves : am_Mok mX12_moves := ⟨List.mem_of_getElem? (i := 914) rfl, List.mem_of_getElem? (i := 50) rfl, by decide +kernel, by decide +kernel, by decide +kernel⟩
set_option maxRecDepth 100000 in
theorem miX12_moves : Cond.instanceMethod mX12_moves.1 ∈ lw_tbl := List.mem_of_getElem? (i := 912) rfl
set_option maxRecDepth 100000 in
theorem mvX12_moves : Cond.selects mX12_moves.1.cls mX12_moves.1 mX12_moves.1 ∈ lw_tbl := List.mem_of_getElem? (i := 913) rfl
def mX12_heightOf : am_M := (yX12_heightOf, cX12_heightOf, 8, (Option.some Jvm.ClassFile.FieldType.int), 12, 2, false)
set_option maxRecDepth 100000 in
theorem mkX12_heightOf : am_Mok mX12_heightOf := ⟨List.mem_of_getElem? (i := 873) rfl, List.mem_of_getElem? (i := 50) rfl, by decide +kernel, by decide +kernel, by decide +kernel⟩
set_option maxRecDepth 100000 in
theorem miX12_heightOf : Cond.instanceMethod mX12_heightOf.1 ∈ lw_tbl := List.mem_of_getElem? (i := 871) rfl
set_option maxRecDepth 100000 in
theorem mvX12_heightOf : Cond.selects mX12_heightOf.1.cls mX12_heightOf.1 mX12_heightOf.1 ∈ lw_tbl := List.mem_of_getElem? (i := 872) rfl
def mX12_came : am_M := (yX12_came, cX12_came, 9, (Option.some (Jvm.ClassFile.FieldType.array Jvm.ClassFile.FieldType.int)), 12, 0, false)
set_option maxRecDepth 100000 in
theorem mkX12_came : am_Mok mX12_came := ⟨List.mem_of_getElem? (i := 910) rfl, List.mem_of_getElem? (i := 50) rfl, by decide +kernel, by decide +kernel, by decide +kernel⟩
set_option maxRecDepth 100000 in
theorem miX12_came : Cond.instanceMethod mX12_came.1 ∈ lw_tbl := List.mem_of_getElem? (i := 908) rfl
set_option maxRecDepth 100000 in
theorem mvX12_came : Cond.selects mX12_came.1.cls mX12_came.1 mX12_came.1 ∈ lw_tbl := List.mem_of_getElem? (i := 909) rfl
def mX12_heights : am_M := (yX12_heights, cX12_heights, 3, (Option.some (Jvm.ClassFile.FieldType.array Jvm.ClassFile.FieldType.int)), 12, 0, false)
set_option maxRecDepth 100000 in
theorem mkX12_heights : am_Mok mX12_heights := ⟨List.mem_of_getElem? (i := 906) rfl, List.mem_of_getElem? (i := 50) rfl, by decide +kernel, by decide +kernel, by decide +kernel⟩
set_option maxRecDepth 100000 in
theorem miX12_heights : Cond.instanceMethod mX12_heights.1 ∈ lw_tbl := List.mem_of_getElem? (i := 904) rfl
set_option maxRecDepth 100000 in
theorem mvX12_heights : Cond.selects mX12_heights.1.cls mX12_heights.1 mX12_heights.1 ∈ lw_tbl := List.mem_of_getElem? (i := 905) rfl
def mX12_inkOf : am_M := (yX12_inkOf, cX12_inkOf, 7, (Option.some Jvm.ClassFile.FieldType.int), 12, 1, false)
set_option maxRecDepth 100000 in
theorem mkX12_inkOf : am_Mok mX12_inkOf := ⟨List.mem_of_getElem? (i := 893) rfl, List.mem_of_getElem? (i := 50) rfl, by decide +kernel, by decide +kernel, by decide +kernel⟩
set_option maxRecDepth 100000 in
theorem miX12_inkOf : Cond.instanceMethod mX12_inkOf.1 ∈ lw_tbl := List.mem_of_getElem? (i := 891) rfl
set_option maxRecDepth 100000 in
theorem mvX12_inkOf : Cond.selects mX12_inkOf.1.cls mX12_inkOf.1 mX12_inkOf.1 ∈ lw_tbl := List.mem_of_getElem? (i := 892) rfl
def mX12_inks : am_M := (yX12_inks, cX12_inks, 1, (Option.some (Jvm.ClassFile.FieldType.array Jvm.ClassFile.FieldType.int)), 12, 0, false)
set_option maxRecDepth 100000 in
theorem mkX12_inks : am_Mok mX12_inks := ⟨List.mem_of_getElem? (i := 919) rfl, List.mem_of_getElem? (i := 50) rfl, by decide +kernel, by decide +kernel, by decide +kernel⟩
set_option maxRecDepth 100000 in
theorem miX12_inks : Cond.instanceMethod mX12_inks.1 ∈ lw_tbl := List.mem_of_getElem? (i := 917) rfl
set_option maxRecDepth 100000 in
theorem mvX12_inks : Cond.selects mX12_inks.1.cls mX12_inks.1 mX12_inks.1 ∈ lw_tbl := List.mem_of_getElem? (i := 918) rfl
def mX12_inks_ : am_M := (yX12_inks_, cX12_inks_, 4, (Option.some (Jvm.ClassFile.FieldType.array Jvm.ClassFile.FieldType.int)), 12, 1, false)
set_option maxRecDepth 100000 in
theorem mkX12_inks_ : am_Mok mX12_inks_ := ⟨List.mem_of_getElem? (i := 923) rfl, List.mem_of_getElem? (i := 50) rfl, by decide +kernel, by decide +kernel, by decide +kernel⟩
set_option maxRecDepth 100000 in
theorem miX12_inks_ : Cond.instanceMethod mX12_inks_.1 ∈ lw_tbl := List.mem_of_getElem? (i := 921) rfl
set_option maxRecDepth 100000 in
theorem mvX12_inks_ : Cond.selects mX12_inks_.1.cls mX12_inks_.1 mX12_inks_.1 ∈ lw_tbl := List.mem_of_getElem? (i := 922) rfl
def mX12_right : am_M := (yX12_right, cX12_right, 2, (Option.some Jvm.ClassFile.FieldType.int), 12, 1, false)
set_option maxRecDepth 100000 in
theorem mkX12_right : am_Mok mX12_right := ⟨List.mem_of_getElem? (i := 955) rfl, List.mem_of_getElem? (i := 50) rfl, by decide +kernel, by decide +kernel, by decide +kernel⟩
set_option maxRecDepth 100000 in
theorem miX12_right : Cond.instanceMethod mX12_right.1 ∈ lw_tbl := List.mem_of_getElem? (i := 953) rfl
set_option maxRecDepth 100000 in
theorem mvX12_right : Cond.selects mX12_right.1.cls mX12_right.1 mX12_right.1 ∈ lw_tbl := List.mem_of_getElem? (i := 954) rfl
def mX12_under : am_M := (yX12_under, cX12_under, 2, (Option.some Jvm.ClassFile.FieldType.int), 12, 1, false)
set_option maxRecDepth 100000 in
theorem mkX12_under : am_Mok mX12_under := ⟨List.mem_of_getElem? (i := 959) rfl, List.mem_of_getElem? (i := 50) rfl, by decide +kernel, by decide +kernel, by decide +kernel⟩
set_option maxRecDepth 100000 in
theorem miX12_under : Cond.instanceMethod mX12_under.1 ∈ lw_tbl := List.mem_of_getElem? (i := 957) rfl
set_option maxRecDepth 100000 in
theorem mvX12_under : Cond.selects mX12_under.1.cls mX12_under.1 mX12_under.1 ∈ lw_tbl := List.mem_of_getElem? (i := 958) rfl
def mX12_patches : am_M := (yX12_patches, cX12_patches, 7, (Option.some (Jvm.ClassFile.FieldType.array Jvm.ClassFile.FieldType.int)), 12, 1, false)
set_option maxRecDepth 100000 in
theorem mkX12_patches : am_Mok mX12_patches := ⟨List.mem_of_getElem? (i := 951) rfl, List.mem_of_getElem? (i := 50) rfl, by decide +kernel, by decide +kernel, by decide +kernel⟩
set_option maxRecDepth 100000 in
theorem miX12_patches : Cond.instanceMethod mX12_patches.1 ∈ lw_tbl := List.mem_of_getElem? (i := 949) rfl
set_option maxRecDepth 100000 in
theorem mvX12_patches : Cond.selects mX12_patches.1.cls mX12_patches.1 mX12_patches.1 ∈ lw_tbl := List.mem_of_getElem? (i := 950) rfl
def mX12_many : am_M := (yX12_many, cX12_many, 7, (Option.some Jvm.ClassFile.FieldType.int), 12, 2, false)
set_option maxRecDepth 100000 in
theorem mkX12_many : am_Mok mX12_many := ⟨List.mem_of_getElem? (i := 927) rfl, List.mem_of_getElem? (i := 50) rfl, by decide +kernel, by decide +kernel, by decide +kernel⟩
set_option maxRecDepth 100000 in
theorem msX12_many : Cond.static mX12_many.1 ∈ lw_tbl := List.mem_of_getElem? (i := 926) rfl
def mX12_counts : am_M := (yX12_counts, cX12_counts, 9, (Option.some (Jvm.ClassFile.FieldType.array Jvm.ClassFile.FieldType.int)), 12, 0, false)
set_option maxRecDepth 100000 in
theorem mkX12_counts : am_Mok mX12_counts := ⟨List.mem_of_getElem? (i := 947) rfl, List.mem_of_getElem? (i := 50) rfl, by decide +kernel, by decide +kernel, by decide +kernel⟩
set_option maxRecDepth 100000 in
theorem miX12_counts : Cond.instanceMethod mX12_counts.1 ∈ lw_tbl := List.mem_of_getElem? (i := 945) rfl
set_option maxRecDepth 100000 in
theorem mvX12_counts : Cond.selects mX12_counts.1.cls mX12_counts.1 mX12_counts.1 ∈ lw_tbl := List.mem_of_getElem? (i := 946) rfl
def mX12_sum : am_M := (yX12_sum, cX12_sum, 3, (Option.some Jvm.ClassFile.FieldType.int), 12, 1, false)
set_option maxRecDepth 100000 in
theorem mkX12_sum : am_Mok mX12_sum := ⟨List.mem_of_getElem? (i := 935) rfl, List.mem_of_getElem? (i := 50) rfl, by decide +kernel, by decide +kernel, by decide +kernel⟩
set_option maxRecDepth 100000 in
theorem miX12_sum : Cond.instanceMethod mX12_sum.1 ∈ lw_tbl := List.mem_of_getElem? (i := 934) rfl
set_option maxRecDepth 100000 in
theorem mvX12_sum : Cond.selects mX12_sum.1.cls mX12_sum.1 mX12_sum.1 ∈ lw_tbl := List.mem_of_getElem? (i := 15) rfl
def mX12_holds : am_M := (yX12_holds, cX12_holds, 6, (Option.some Jvm.ClassFile.FieldType.boolean), 12, 1, false)
set_option maxRecDepth 100000 in
theorem mkX12_holds : am_Mok mX12_holds := ⟨List.mem_of_getElem? (i := 902) rfl, List.mem_of_getElem? (i := 50) rfl, by decide +kernel, by decide +kernel, by decide +kernel⟩
set_option maxRecDepth 100000 in
theorem miX12_holds : Cond.instanceMethod mX12_holds.1 ∈ lw_tbl := List.mem_of_getElem? (i := 900) rfl
set_option maxRecDepth 100000 in
theorem mvX12_holds : Cond.selects mX12_holds.1.cls mX12_holds.1 mX12_holds.1 ∈ lw_tbl := List.mem_of_getElem? (i := 13) rfl
def mX12_held : am_M := (yX12_held, cX12_held, 2, (Option.some Jvm.ClassFile.FieldType.int), 12, 2, false)
set_option maxRecDepth 100000 in
theorem mkX12_held : am_Mok mX12_held := ⟨List.mem_of_getElem? (i := 938) rfl, List.mem_of_getElem? (i := 50) rfl, by decide +kernel, by decide +kernel, by decide +kernel⟩
set_option maxRecDepth 100000 in
theorem msX12_held : Cond.static mX12_held.1 ∈ lw_tbl := List.mem_of_getElem? (i := 937) rfl
def mX12_does : am_M := (yX12_does, cX12_does, 5, (Option.some Jvm.ClassFile.FieldType.boolean), 12, 1, false)
set_option maxRecDepth 100000 in
theorem mkX12_does : am_Mok mX12_does := ⟨List.mem_of_getElem? (i := 931) rfl, List.mem_of_getElem? (i := 50) rfl, by decide +kernel, by decide +kernel, by decide +kernel⟩
set_option maxRecDepth 100000 in
theorem miX12_does : Cond.instanceMethod mX12_does.1 ∈ lw_tbl := List.mem_of_getElem? (i := 930) rfl
set_option maxRecDepth 100000 in
theorem mvX12_does : Cond.selects mX12_does.1.cls mX12_does.1 mX12_does.1 ∈ lw_tbl := List.mem_of_getElem? (i := 14) rfl
def mX12_dip : am_M := (yX12_dip, cX12_dip, 5, none, 12, 0, false)
set_option maxRecDepth 100000 in
theorem mkX12_dip : am_Mok mX12_dip := ⟨List.mem_of_getElem? (i := 897) rfl, List.mem_of_getElem? (i := 50) rfl, by decide +kernel, by decide +kernel, by decide +kernel⟩
set_option maxRecDepth 100000 in
theorem miX12_dip : Cond.instanceMethod mX12_dip.1 ∈ lw_tbl := List.mem_of_getElem? (i := 895) rfl
set_option maxRecDepth 100000 in
theorem mvX12_dip : Cond.selects mX12_dip.1.cls mX12_dip.1 mX12_dip.1 ∈ lw_tbl := List.mem_of_getElem? (i := 896) rfl
def mX12_isSame : am_M := (yX12_isSame, cX12_isSame, 11, (Option.some Jvm.ClassFile.FieldType.boolean), 12, 1, false)
set_option maxRecDepth 100000 in
theorem mkX12_isSame : am_Mok mX12_isSame := ⟨List.mem_of_getElem? (i := 943) rfl, List.mem_of_getElem? (i := 50) rfl, by decide +kernel, by decide +kernel, by decide +kernel⟩
set_option maxRecDepth 100000 in
theorem miX12_isSame : Cond.instanceMethod mX12_isSame.1 ∈ lw_tbl := List.mem_of_getElem? (i := 941) rfl
set_option maxRecDepth 100000 in
theorem mvX12_isSame : Cond.selects mX12_isSame.1.cls mX12_isSame.1 mX12_isSame.1 ∈ lw_tbl := List.mem_of_getElem? (i := 942) rfl
def mJ5_init_d00df : am_M := (yJ5_init_d00df, cJ5_init_d00df, 2, none, 21, 1, true)
set_option maxRecDepth 100000 in
theorem mkJ5_init_d00df : am_Mok mJ5_init_d00df := ⟨List.mem_of_getElem? (i := 1490) rfl, List.mem_of_getElem? (i := 46) rfl, by decide +kernel, by decide +kernel, by decide +kernel⟩
set_option maxRecDepth 100000 in
theorem miJ5_init_d00df : Cond.instanceMethod mJ5_init_d00df.1 ∈ lw_tbl := List.mem_of_getElem? (i := 1489) rfl
def mJ5_length_8abf5 : am_M := (yJ5_length_8abf5, cJ5_length_8abf5, 1, (Option.some Jvm.ClassFile.FieldType.int), 21, 0, false)
set_option maxRecDepth 100000 in
theorem mkJ5_length_8abf5 : am_Mok mJ5_length_8abf5 := ⟨List.mem_of_getElem? (i := 1531) rfl, List.mem_of_getElem? (i := 46) rfl, by decide +kernel, by decide +kernel, by decide +kernel⟩
set_option maxRecDepth 100000 in
theorem miJ5_length_8abf5 : Cond.instanceMethod mJ5_length_8abf5.1 ∈ lw_tbl := List.mem_of_getElem? (i := 1525) rfl
def mJ5_ensureCapacityInternal_d00df : am_M := (yJ5_ensureCapacityInternal_d00df, cJ5_ensureCapacityInternal_d00df, 3, none, 21, 1, false)
set_option maxRecDepth 100000 in
theorem mkJ5_ensureCapacityInternal_d00df : am_Mok mJ5_ensureCapacityInternal_d00df := ⟨List.mem_of_getElem? (i := 1360) rfl, List.mem_of_getElem? (i := 46) rfl, by decide +kernel, by decide +kernel, by decide +kernel⟩
set_option maxRecDepth 100000 in
theorem miJ5_ensureCapacityInternal_d00df : Cond.instanceMethod mJ5_ensureCapacityInternal_d00df.1 ∈ lw_tbl := List.mem_of_getElem? (i := 1359) rfl
def mJ5_newCapacity_0f7a4 : am_M := (yJ5_newCapacity_0f7a4, cJ5_newCapacity_0f7a4, 6, (Option.some Jvm.ClassFile.FieldType.int), 21, 1, false)
set_option maxRecDepth 100000 in
theorem mkJ5_newCapacity_0f7a4 : am_Mok mJ5_newCapacity_0f7a4 := ⟨List.mem_of_getElem? (i := 1364) rfl, List.mem_of_getElem? (i := 46) rfl, by decide +kernel, by decide +kernel, by decide +kernel⟩
set_option maxRecDepth 100000 in
theorem miJ5_newCapacity_0f7a4 : Cond.instanceMethod mJ5_newCapacity_0f7a4.1 ∈ lw_tbl := List.mem_of_getElem? (i := 1363) rfl
def mJ5_inflate_da8c8 : am_M := (yJ5_inflate_da8c8, cJ5_inflate_da8c8, 2, none, 21, 0, false)
set_option maxRecDepth 100000 in
theorem mkJ5_inflate_da8c8 : am_Mok mJ5_inflate_da8c8 := ⟨List.mem_of_getElem? (i := 1411) rfl, List.mem_of_getElem? (i := 46) rfl, by decide +kernel, by decide +kernel, by decide +kernel⟩
set_option maxRecDepth 100000 in
theorem miJ5_inflate_da8c8 : Cond.instanceMethod mJ5_inflate_da8c8.1 ∈ lw_tbl := List.mem_of_getElem? (i := 1410) rfl
def mJ5_append_cf1ce : am_M := (yJ5_append_cf1ce, cJ5_append_cf1ce, 3, (Option.some (Jvm.ClassFile.FieldType.object "java/lang/AbstractStringBuilder")), 21, 1, false)
set_option maxRecDepth 100000 in
theorem mkJ5_append_cf1ce : am_Mok mJ5_append_cf1ce := ⟨List.mem_of_getElem? (i := 1352) rfl, List.mem_of_getElem? (i := 46) rfl, by decide +kernel, by decide +kernel, by decide +kernel⟩
set_option maxRecDepth 100000 in
theorem miJ5_append_cf1ce : Cond.instanceMethod mJ5_append_cf1ce.1 ∈ lw_tbl := List.mem_of_getElem? (i := 1351) rfl
def mJ5_appendNull_278bc : am_M := (yJ5_appendNull_278bc, cJ5_appendNull_278bc, 3, (Option.some (Jvm.ClassFile.FieldType.object "java/lang/AbstractStringBuilder")), 21, 0, false)
set_option maxRecDepth 100000 in
theorem mkJ5_appendNull_278bc : am_Mok mJ5_appendNull_278bc := ⟨List.mem_of_getElem? (i := 1356) rfl, List.mem_of_getElem? (i := 46) rfl, by decide +kernel, by decide +kernel, by decide +kernel⟩
set_option maxRecDepth 100000 in
theorem miJ5_appendNull_278bc : Cond.instanceMethod mJ5_appendNull_278bc.1 ∈ lw_tbl := List.mem_of_getElem? (i := 1355) rfl
def mJ5_append_c97b9 : am_M := (yJ5_append_c97b9, cJ5_append_c97b9, 4, (Option.some (Jvm.ClassFile.FieldType.object "java/lang/AbstractStringBuilder")), 21, 1, false)
set_option maxRecDepth 100000 in
theorem mkJ5_append_c97b9 : am_Mok mJ5_append_c97b9 := ⟨List.mem_of_getElem? (i := 1446) rfl, List.mem_of_getElem? (i := 46) rfl, by decide +kernel, by decide +kernel, by decide +kernel⟩
set_option maxRecDepth 100000 in
theorem miJ5_append_c97b9 : Cond.instanceMethod mJ5_append_c97b9.1 ∈ lw_tbl := List.mem_of_getElem? (i := 1445) rfl
def mJ5_getValue_6d5f1 : am_M := (yJ5_getValue_6d5f1, cJ5_getValue_6d5f1, 1, (Option.some (Jvm.ClassFile.FieldType.array Jvm.ClassFile.FieldType.byte)), 21, 0, false)
set_option maxRecDepth 100000 in
theorem mkJ5_getValue_6d5f1 : am_Mok mJ5_getValue_6d5f1 := ⟨List.mem_of_getElem? (i := 1523) rfl, List.mem_of_getElem? (i := 46) rfl, by decide +kernel, by decide +kernel, by decide +kernel⟩
set_option maxRecDepth 100000 in
theorem miJ5_getValue_6d5f1 : Cond.instanceMethod mJ5_getValue_6d5f1.1 ∈ lw_tbl := List.mem_of_getElem? (i := 1520) rfl
def mJ5_isLatin1_aae02 : am_M := (yJ5_isLatin1_aae02, cJ5_isLatin1_aae02, 1, (Option.some Jvm.ClassFile.FieldType.boolean), 21, 0, false)
set_option maxRecDepth 100000 in
theorem mkJ5_isLatin1_aae02 : am_Mok mJ5_isLatin1_aae02 := ⟨List.mem_of_getElem? (i := 1390) rfl, List.mem_of_getElem? (i := 46) rfl, by decide +kernel, by decide +kernel, by decide +kernel⟩
set_option maxRecDepth 100000 in
theorem miJ5_isLatin1_aae02 : Cond.instanceMethod mJ5_isLatin1_aae02.1 ∈ lw_tbl := List.mem_of_getElem? (i := 1387) rfl
def mJ5_inflateIfNeededFor_a7421 : am_M := (yJ5_inflateIfNeededFor_a7421, cJ5_inflateIfNeededFor_a7421, 2, none, 21, 1, false)
set_option maxRecDepth 100000 in
theorem mkJ5_inflateIfNeededFor_a7421 : am_Mok mJ5_inflateIfNeededFor_a7421 := ⟨List.mem_of_getElem? (i := 1406) rfl, List.mem_of_getElem? (i := 46) rfl, by decide +kernel, by decide +kernel, by decide +kernel⟩
set_option maxRecDepth 100000 in
theorem miJ5_inflateIfNeededFor_a7421 : Cond.instanceMethod mJ5_inflateIfNeededFor_a7421.1 ∈ lw_tbl := List.mem_of_getElem? (i := 1405) rfl
def mJ5_putStringAt_47b60 : am_M := (yJ5_putStringAt_47b60, cJ5_putStringAt_47b60, 3, none, 21, 2, false)
set_option maxRecDepth 100000 in
theorem mkJ5_putStringAt_47b60 : am_Mok mJ5_putStringAt_47b60 := ⟨List.mem_of_getElem? (i := 1402) rfl, List.mem_of_getElem? (i := 46) rfl, by decide +kernel, by decide +kernel, by decide +kernel⟩
set_option maxRecDepth 100000 in
theorem miJ5_putStringAt_47b60 : Cond.instanceMethod mJ5_putStringAt_47b60.1 ∈ lw_tbl := List.mem_of_getElem? (i := 1401) rfl
def mJ6_getChars_ba4f3 : am_M := (yJ6_getChars_ba4f3, cJ6_getChars_ba4f3, 7, (Option.some Jvm.ClassFile.FieldType.int), 22, 3, false)
set_option maxRecDepth 100000 in
theorem mkJ6_getChars_ba4f3 : am_Mok mJ6_getChars_ba4f3 := ⟨List.mem_of_getElem? (i := 1452) rfl, List.mem_of_getElem? (i := 57) rfl, by decide +kernel, by decide +kernel, by decide +kernel⟩
set_option maxRecDepth 100000 in
theorem msJ6_getChars_ba4f3 : Cond.static mJ6_getChars_ba4f3.1 ∈ lw_tbl := List.mem_of_getElem? (i := 1451) rfl
def mJ6_stringSize_0f7a4 : am_M := (yJ6_stringSize_0f7a4, cJ6_stringSize_0f7a4, 4, (Option.some Jvm.ClassFile.FieldType.int), 22, 1, false)
set_option maxRecDepth 100000 in
theorem mkJ6_stringSize_0f7a4 : am_Mok mJ6_stringSize_0f7a4 := ⟨List.mem_of_getElem? (i := 1449) rfl, List.mem_of_getElem? (i := 57) rfl, by decide +kernel, by decide +kernel, by decide +kernel⟩
set_option maxRecDepth 100000 in
theorem msJ6_stringSize_0f7a4 : Cond.static mJ6_stringSize_0f7a4.1 ∈ lw_tbl := List.mem_of_getElem? (i := 1448) rfl
def mJ9_floorMod_f86c9 : am_M := (yJ9_floorMod_f86c9, cJ9_floorMod_f86c9, 6, (Option.some Jvm.ClassFile.FieldType.long), 25, 2, false)
set_option maxRecDepth 100000 in
theorem mkJ9_floorMod_f86c9 : am_Mok mJ9_floorMod_f86c9 := ⟨List.mem_of_getElem? (i := 600) rfl, List.mem_of_getElem? (i := 52) rfl, by decide +kernel, by decide +kernel, by decide +kernel⟩
set_option maxRecDepth 100000 in
theorem msJ9_floorMod_f86c9 : Cond.static mJ9_floorMod_f86c9.1 ∈ lw_tbl := List.mem_of_getElem? (i := 599) rfl
def mJ9_max_7cf53 : am_M := (yJ9_max_7cf53, cJ9_max_7cf53, 2, (Option.some Jvm.ClassFile.FieldType.int), 25, 2, false)
set_option maxRecDepth 100000 in
theorem mkJ9_max_7cf53 : am_Mok mJ9_max_7cf53 := ⟨List.mem_of_getElem? (i := 325) rfl, List.mem_of_getElem? (i := 52) rfl, by decide +kernel, by decide +kernel, by decide +kernel⟩
set_option maxRecDepth 100000 in
theorem msJ9_max_7cf53 : Cond.static mJ9_max_7cf53.1 ∈ lw_tbl := List.mem_of_getElem? (i := 324) rfl
def mJ9_min_7cf53 : am_M := (yJ9_min_7cf53, cJ9_min_7cf53, 2, (Option.some Jvm.ClassFile.FieldType.int), 25, 2, false)
set_option maxRecDepth 100000 in
theorem mkJ9_min_7cf53 : am_Mok mJ9_min_7cf53 := ⟨List.mem_of_getElem? (i := 641) rfl, List.mem_of_getElem? (i := 52) rfl, by decide +kernel, by decide +kernel, by decide +kernel⟩
set_option maxRecDepth 100000 in
theorem msJ9_min_7cf53 : Cond.static mJ9_min_7cf53.1 ∈ lw_tbl := List.mem_of_getElem? (i := 640) rfl
def mJ0_init_81219 : am_M := (yJ0_init_81219, cJ0_init_81219, 2, none, 0, 1, true)
set_option maxRecDepth 100000 in
theorem mkJ0_init_81219 : am_Mok mJ0_init_81219 := ⟨List.mem_of_getElem? (i := 1514) rfl, List.mem_of_getElem? (i := 48) rfl, by decide +kernel, by decide +kernel, by decide +kernel⟩
set_option maxRecDepth 100000 in
theorem miJ0_init_81219 : Cond.instanceMethod mJ0_init_81219.1 ∈ lw_tbl := List.mem_of_getElem? (i := 1513) rfl
def mJ0_length_8abf5 : am_M := (yJ0_length_8abf5, cJ0_length_8abf5, 1, (Option.some Jvm.ClassFile.FieldType.int), 0, 0, false)
set_option maxRecDepth 100000 in
theorem mkJ0_length_8abf5 : am_Mok mJ0_length_8abf5 := ⟨List.mem_of_getElem? (i := 94) rfl, List.mem_of_getElem? (i := 48) rfl, by decide +kernel, by decide +kernel, by decide +kernel⟩
set_option maxRecDepth 100000 in
theorem miJ0_length_8abf5 : Cond.instanceMethod mJ0_length_8abf5.1 ∈ lw_tbl := List.mem_of_getElem? (i := 92) rfl
set_option maxRecDepth 100000 in
theorem mvJ0_length_8abf5 : Cond.selects mJ0_length_8abf5.1.cls mJ0_length_8abf5.1 mJ0_length_8abf5.1 ∈ lw_tbl := List.mem_of_getElem? (i := 93) rfl
def mJ0_charAt_5068e : am_M := (yJ0_charAt_5068e, cJ0_charAt_5068e, 2, (Option.some Jvm.ClassFile.FieldType.char), 0, 1, false)
set_option maxRecDepth 100000 in
theorem mkJ0_charAt_5068e : am_Mok mJ0_charAt_5068e := ⟨List.mem_of_getElem? (i := 104) rfl, List.mem_of_getElem? (i := 48) rfl, by decide +kernel, by decide +kernel, by decide +kernel⟩
set_option maxRecDepth 100000 in
theorem miJ0_charAt_5068e : Cond.instanceMethod mJ0_charAt_5068e.1 ∈ lw_tbl := List.mem_of_getElem? (i := 102) rfl
set_option maxRecDepth 100000 in
theorem mvJ0_charAt_5068e : Cond.selects mJ0_charAt_5068e.1.cls mJ0_charAt_5068e.1 mJ0_charAt_5068e.1 ∈ lw_tbl := List.mem_of_getElem? (i := 103) rfl
def mJ0_indexOf_0f7a4 : am_M := (yJ0_indexOf_0f7a4, cJ0_indexOf_0f7a4, 2, (Option.some Jvm.ClassFile.FieldType.int), 0, 1, false)
set_option maxRecDepth 100000 in
theorem mkJ0_indexOf_0f7a4 : am_Mok mJ0_indexOf_0f7a4 := ⟨List.mem_of_getElem? (i := 1063) rfl, List.mem_of_getElem? (i := 48) rfl, by decide +kernel, by decide +kernel, by decide +kernel⟩
set_option maxRecDepth 100000 in
theorem miJ0_indexOf_0f7a4 : Cond.instanceMethod mJ0_indexOf_0f7a4.1 ∈ lw_tbl := List.mem_of_getElem? (i := 1061) rfl
set_option maxRecDepth 100000 in
theorem mvJ0_indexOf_0f7a4 : Cond.selects mJ0_indexOf_0f7a4.1.cls mJ0_indexOf_0f7a4.1 mJ0_indexOf_0f7a4.1 ∈ lw_tbl := List.mem_of_getElem? (i := 1062) rfl
def mJ0_indexOf_7cf53 : am_M := (yJ0_indexOf_7cf53, cJ0_indexOf_7cf53, 3, (Option.some Jvm.ClassFile.FieldType.int), 0, 2, false)
set_option maxRecDepth 100000 in
theorem mkJ0_indexOf_7cf53 : am_Mok mJ0_indexOf_7cf53 := ⟨List.mem_of_getElem? (i := 1067) rfl, List.mem_of_getElem? (i := 48) rfl, by decide +kernel, by decide +kernel, by decide +kernel⟩
set_option maxRecDepth 100000 in
theorem miJ0_indexOf_7cf53 : Cond.instanceMethod mJ0_indexOf_7cf53.1 ∈ lw_tbl := List.mem_of_getElem? (i := 1065) rfl
set_option maxRecDepth 100000 in
theorem mvJ0_indexOf_7cf53 : Cond.selects mJ0_indexOf_7cf53.1.cls mJ0_indexOf_7cf53.1 mJ0_indexOf_7cf53.1 ∈ lw_tbl := List.mem_of_getElem? (i := 1066) rfl
def mJ0_getBytes_840e7 : am_M := (yJ0_getBytes_840e7, cJ0_getBytes_840e7, 4, none, 0, 3, false)
set_option maxRecDepth 100000 in
theorem mkJ0_getBytes_840e7 : am_Mok mJ0_getBytes_840e7 := ⟨List.mem_of_getElem? (i := 1437) rfl, List.mem_of_getElem? (i := 48) rfl, by decide +kernel, by decide +kernel, by decide +kernel⟩
set_option maxRecDepth 100000 in
theorem miJ0_getBytes_840e7 : Cond.instanceMethod mJ0_getBytes_840e7.1 ∈ lw_tbl := List.mem_of_getElem? (i := 1435) rfl
set_option maxRecDepth 100000 in
theorem mvJ0_getBytes_840e7 : Cond.selects mJ0_getBytes_840e7.1.cls mJ0_getBytes_840e7.1 mJ0_getBytes_840e7.1 ∈ lw_tbl := List.mem_of_getElem? (i := 1436) rfl
def mJ0_init_db425 : am_M := (yJ0_init_db425, cJ0_init_db425, 5, none, 0, 2, true)
set_option maxRecDepth 100000 in
theorem mkJ0_init_db425 : am_Mok mJ0_init_db425 := ⟨List.mem_of_getElem? (i := 1517) rfl, List.mem_of_getElem? (i := 48) rfl, by decide +kernel, by decide +kernel, by decide +kernel⟩
set_option maxRecDepth 100000 in
theorem miJ0_init_db425 : Cond.instanceMethod mJ0_init_db425.1 ∈ lw_tbl := List.mem_of_getElem? (i := 1516) rfl
def mJ0_coder_7d493 : am_M := (yJ0_coder_7d493, cJ0_coder_7d493, 1, (Option.some Jvm.ClassFile.FieldType.byte), 0, 0, false)
set_option maxRecDepth 100000 in
theorem mkJ0_coder_7d493 : am_Mok mJ0_coder_7d493 := ⟨List.mem_of_getElem? (i := 98) rfl, List.mem_of_getElem? (i := 48) rfl, by decide +kernel, by decide +kernel, by decide +kernel⟩
set_option maxRecDepth 100000 in
theorem miJ0_coder_7d493 : Cond.instanceMethod mJ0_coder_7d493.1 ∈ lw_tbl := List.mem_of_getElem? (i := 96) rfl
set_option maxRecDepth 100000 in
theorem mvJ0_coder_7d493 : Cond.selects mJ0_coder_7d493.1.cls mJ0_coder_7d493.1 mJ0_coder_7d493.1 ∈ lw_tbl := List.mem_of_getElem? (i := 97) rfl
def mJ0_isLatin1_aae02 : am_M := (yJ0_isLatin1_aae02, cJ0_isLatin1_aae02, 1, (Option.some Jvm.ClassFile.FieldType.boolean), 0, 0, false)
set_option maxRecDepth 100000 in
theorem mkJ0_isLatin1_aae02 : am_Mok mJ0_isLatin1_aae02 := ⟨List.mem_of_getElem? (i := 108) rfl, List.mem_of_getElem? (i := 48) rfl, by decide +kernel, by decide +kernel, by decide +kernel⟩
set_option maxRecDepth 100000 in
theorem miJ0_isLatin1_aae02 : Cond.instanceMethod mJ0_isLatin1_aae02.1 ∈ lw_tbl := List.mem_of_getElem? (i := 106) rfl
set_option maxRecDepth 100000 in
theorem mvJ0_isLatin1_aae02 : Cond.selects mJ0_isLatin1_aae02.1.cls mJ0_isLatin1_aae02.1 mJ0_isLatin1_aae02.1 ∈ lw_tbl := List.mem_of_getElem? (i := 107) rfl
def mJ0_checkIndex_df160 : am_M := (yJ0_checkIndex_df160, cJ0_checkIndex_df160, 2, none, 0, 2, false)
set_option maxRecDepth 100000 in
theorem mkJ0_checkIndex_df160 : am_Mok mJ0_checkIndex_df160 := ⟨List.mem_of_getElem? (i := 114) rfl, List.mem_of_getElem? (i := 48) rfl, by decide +kernel, by decide +kernel, by decide +kernel⟩
set_option maxRecDepth 100000 in
theorem msJ0_checkIndex_df160 : Cond.static mJ0_checkIndex_df160.1 ∈ lw_tbl := List.mem_of_getElem? (i := 113) rfl
def mJ0_checkBoundsOffCount_cabcc : am_M := (yJ0_checkBoundsOffCount_cabcc, cJ0_checkBoundsOffCount_cabcc, 3, (Option.some Jvm.ClassFile.FieldType.int), 0, 3, false)
set_option maxRecDepth 100000 in
theorem mkJ0_checkBoundsOffCount_cabcc : am_Mok mJ0_checkBoundsOffCount_cabcc := ⟨List.mem_of_getElem? (i := 1430) rfl, List.mem_of_getElem? (i := 48) rfl, by decide +kernel, by decide +kernel, by decide +kernel⟩
set_option maxRecDepth 100000 in
theorem msJ0_checkBoundsOffCount_cabcc : Cond.static mJ0_checkBoundsOffCount_cabcc.1 ∈ lw_tbl := List.mem_of_getElem? (i := 1429) rfl
def mJ0_checkBoundsBeginEnd_23922 : am_M := (yJ0_checkBoundsBeginEnd_23922, cJ0_checkBoundsBeginEnd_23922, 3, none, 0, 3, false)
set_option maxRecDepth 100000 in
theorem mkJ0_checkBoundsBeginEnd_23922 : am_Mok mJ0_checkBoundsBeginEnd_23922 := ⟨List.mem_of_getElem? (i := 1094) rfl, List.mem_of_getElem? (i := 48) rfl, by decide +kernel, by decide +kernel, by decide +kernel⟩
set_option maxRecDepth 100000 in
theorem msJ0_checkBoundsBeginEnd_23922 : Cond.static mJ0_checkBoundsBeginEnd_23922.1 ∈ lw_tbl := List.mem_of_getElem? (i := 1093) rfl
def mJ4_init_da8c8 : am_M := (yJ4_init_da8c8, cJ4_init_da8c8, 1, none, 1, 0, true)
set_option maxRecDepth 100000 in
theorem mkJ4_init_da8c8 : am_Mok mJ4_init_da8c8 := ⟨List.mem_of_getElem? (i := 1487) rfl, List.mem_of_getElem? (i := 47) rfl, by decide +kernel, by decide +kernel, by decide +kernel⟩
set_option maxRecDepth 100000 in
theorem miJ4_init_da8c8 : Cond.instanceMethod mJ4_init_da8c8.1 ∈ lw_tbl := List.mem_of_getElem? (i := 1486) rfl
def mJ4_append_15ec4 : am_M := (yJ4_append_15ec4, cJ4_append_15ec4, 2, (Option.some (Jvm.ClassFile.FieldType.object "java/lang/StringBuilder")), 1, 1, false)
set_option maxRecDepth 100000 in
theorem mkJ4_append_15ec4 : am_Mok mJ4_append_15ec4 := ⟨List.mem_of_getElem? (i := 1348) rfl, List.mem_of_getElem? (i := 47) rfl, by decide +kernel, by decide +kernel, by decide +kernel⟩
set_option maxRecDepth 100000 in
theorem miJ4_append_15ec4 : Cond.instanceMethod mJ4_append_15ec4.1 ∈ lw_tbl := List.mem_of_getElem? (i := 1346) rfl
set_option maxRecDepth 100000 in
theorem mvJ4_append_15ec4 : Cond.selects mJ4_append_15ec4.1.cls mJ4_append_15ec4.1 mJ4_append_15ec4.1 ∈ lw_tbl := List.mem_of_getElem? (i := 1347) rfl
def mJ4_append_bf812 : am_M := (yJ4_append_bf812, cJ4_append_bf812, 2, (Option.some (Jvm.ClassFile.FieldType.object "java/lang/StringBuilder")), 1, 1, false)
set_option maxRecDepth 100000 in
theorem mkJ4_append_bf812 : am_Mok mJ4_append_bf812 := ⟨List.mem_of_getElem? (i := 1443) rfl, List.mem_of_getElem? (i := 47) rfl, by decide +kernel, by decide +kernel, by decide +kernel⟩
set_option maxRecDepth 100000 in
theorem miJ4_append_bf812 : Cond.instanceMethod mJ4_append_bf812.1 ∈ lw_tbl := List.mem_of_getElem? (i := 1441) rfl
set_option maxRecDepth 100000 in
theorem mvJ4_append_bf812 : Cond.selects mJ4_append_bf812.1.cls mJ4_append_bf812.1 mJ4_append_bf812.1 ∈ lw_tbl := List.mem_of_getElem? (i := 1442) rfl
def mJ4_toString_0e30d : am_M := (yJ4_toString_0e30d, cJ4_toString_0e30d, 1, (Option.some (Jvm.ClassFile.FieldType.object "java/lang/String")), 1, 0, false)
set_option maxRecDepth 100000 in
theorem mkJ4_toString_0e30d : am_Mok mJ4_toString_0e30d := ⟨List.mem_of_getElem? (i := 1509) rfl, List.mem_of_getElem? (i := 47) rfl, by decide +kernel, by decide +kernel, by decide +kernel⟩
set_option maxRecDepth 100000 in
theorem miJ4_toString_0e30d : Cond.instanceMethod mJ4_toString_0e30d.1 ∈ lw_tbl := List.mem_of_getElem? (i := 1507) rfl
set_option maxRecDepth 100000 in
theorem mvJ4_toString_0e30d : Cond.selects mJ4_toString_0e30d.1.cls mJ4_toString_0e30d.1 mJ4_toString_0e30d.1 ∈ lw_tbl := List.mem_of_getElem? (i := 1508) rfl
def mJ4_length_8abf5 : am_M := (yJ4_length_8abf5, cJ4_length_8abf5, 1, (Option.some Jvm.ClassFile.FieldType.int), 1, 0, false)
set_option maxRecDepth 100000 in
theorem mkJ4_length_8abf5 : am_Mok mJ4_length_8abf5 := ⟨List.mem_of_getElem? (i := 1529) rfl, List.mem_of_getElem? (i := 47) rfl, by decide +kernel, by decide +kernel, by decide +kernel⟩
set_option maxRecDepth 100000 in
theorem miJ4_length_8abf5 : Cond.instanceMethod mJ4_length_8abf5.1 ∈ lw_tbl := List.mem_of_getElem? (i := 1528) rfl
def mJ1_charAt_3b067 : am_M := (yJ1_charAt_3b067, cJ1_charAt_3b067, 2, (Option.some Jvm.ClassFile.FieldType.char), 17, 2, false)
set_option maxRecDepth 100000 in
theorem mkJ1_charAt_3b067 : am_Mok mJ1_charAt_3b067 := ⟨List.mem_of_getElem? (i := 111) rfl, List.mem_of_getElem? (i := 56) rfl, by decide +kernel, by decide +kernel, by decide +kernel⟩
set_option maxRecDepth 100000 in
theorem msJ1_charAt_3b067 : Cond.static mJ1_charAt_3b067.1 ∈ lw_tbl := List.mem_of_getElem? (i := 110) rfl
def mJ1_canEncode_9a6ad : am_M := (yJ1_canEncode_9a6ad, cJ1_canEncode_9a6ad, 1, (Option.some Jvm.ClassFile.FieldType.boolean), 17, 1, false)
set_option maxRecDepth 100000 in
theorem mkJ1_canEncode_9a6ad : am_Mok mJ1_canEncode_9a6ad := ⟨List.mem_of_getElem? (i := 1074) rfl, List.mem_of_getElem? (i := 56) rfl, by decide +kernel, by decide +kernel, by decide +kernel⟩
set_option maxRecDepth 100000 in
theorem msJ1_canEncode_9a6ad : Cond.static mJ1_canEncode_9a6ad.1 ∈ lw_tbl := List.mem_of_getElem? (i := 1073) rfl
def mJ1_indexOf_4cfef : am_M := (yJ1_indexOf_4cfef, cJ1_indexOf_4cfef, 4, (Option.some Jvm.ClassFile.FieldType.int), 17, 4, false)
set_option maxRecDepth 100000 in
theorem mkJ1_indexOf_4cfef : am_Mok mJ1_indexOf_4cfef := ⟨List.mem_of_getElem? (i := 1071) rfl, List.mem_of_getElem? (i := 56) rfl, by decide +kernel, by decide +kernel, by decide +kernel⟩
set_option maxRecDepth 100000 in
theorem msJ1_indexOf_4cfef : Cond.static mJ1_indexOf_4cfef.1 ∈ lw_tbl := List.mem_of_getElem? (i := 1070) rfl
def mJ1_indexOfChar_4cfef : am_M := (yJ1_indexOfChar_4cfef, cJ1_indexOfChar_4cfef, 6, (Option.some Jvm.ClassFile.FieldType.int), 17, 4, false)
set_option maxRecDepth 100000 in
theorem mkJ1_indexOfChar_4cfef : am_Mok mJ1_indexOfChar_4cfef := ⟨List.mem_of_getElem? (i := 1079) rfl, List.mem_of_getElem? (i := 56) rfl, by decide +kernel, by decide +kernel, by decide +kernel⟩
set_option maxRecDepth 100000 in
theorem msJ1_indexOfChar_4cfef : Cond.static mJ1_indexOfChar_4cfef.1 ∈ lw_tbl := List.mem_of_getElem? (i := 1078) rfl
def mJ1_inflate_0e8fd : am_M := (yJ1_inflate_0e8fd, cJ1_inflate_0e8fd, 5, none, 17, 5, false)
set_option maxRecDepth 100000 in
theorem mkJ1_inflate_0e8fd : am_Mok mJ1_inflate_0e8fd := ⟨List.mem_of_getElem? (i := 1421) rfl, List.mem_of_getElem? (i := 56) rfl, by decide +kernel, by decide +kernel, by decide +kernel⟩
set_option maxRecDepth 100000 in
theorem msJ1_inflate_0e8fd : Cond.static mJ1_inflate_0e8fd.1 ∈ lw_tbl := List.mem_of_getElem? (i := 1420) rfl
def mJ7_copyOf_9075b : am_M := (yJ7_copyOf_9075b, cJ7_copyOf_9075b, 3, (Option.some (Jvm.ClassFile.FieldType.array Jvm.ClassFile.FieldType.byte)), 23, 2, false)
set_option maxRecDepth 100000 in
theorem mkJ7_copyOf_9075b : am_Mok mJ7_copyOf_9075b := ⟨List.mem_of_getElem? (i := 1376) rfl, List.mem_of_getElem? (i := 53) rfl, by decide +kernel, by decide +kernel, by decide +kernel⟩
set_option maxRecDepth 100000 in
theorem msJ7_copyOf_9075b : Cond.static mJ7_copyOf_9075b.1 ∈ lw_tbl := List.mem_of_getElem? (i := 1375) rfl
def mJ7_checkLength_df160 : am_M := (yJ7_checkLength_df160, cJ7_checkLength_df160, 2, none, 23, 2, false)
set_option maxRecDepth 100000 in
theorem mkJ7_checkLength_df160 : am_Mok mJ7_checkLength_df160 := ⟨List.mem_of_getElem? (i := 1541) rfl, List.mem_of_getElem? (i := 53) rfl, by decide +kernel, by decide +kernel, by decide +kernel⟩
set_option maxRecDepth 100000 in
theorem msJ7_checkLength_df160 : Cond.static mJ7_checkLength_df160.1 ∈ lw_tbl := List.mem_of_getElem? (i := 1540) rfl
def mJ7_copyOfRange_39247 : am_M := (yJ7_copyOfRange_39247, cJ7_copyOfRange_39247, 3, (Option.some (Jvm.ClassFile.FieldType.array Jvm.ClassFile.FieldType.byte)), 23, 3, false)
set_option maxRecDepth 100000 in
theorem mkJ7_copyOfRange_39247 : am_Mok mJ7_copyOfRange_39247 := ⟨List.mem_of_getElem? (i := 1535) rfl, List.mem_of_getElem? (i := 53) rfl, by decide +kernel, by decide +kernel, by decide +kernel⟩
set_option maxRecDepth 100000 in
theorem msJ7_copyOfRange_39247 : Cond.static mJ7_copyOfRange_39247.1 ∈ lw_tbl := List.mem_of_getElem? (i := 1534) rfl
def mJ7_copyOfRangeByte_39247 : am_M := (yJ7_copyOfRangeByte_39247, cJ7_copyOfRangeByte_39247, 5, (Option.some (Jvm.ClassFile.FieldType.array Jvm.ClassFile.FieldType.byte)), 23, 3, false)
set_option maxRecDepth 100000 in
theorem mkJ7_copyOfRangeByte_39247 : am_Mok mJ7_copyOfRangeByte_39247 := ⟨List.mem_of_getElem? (i := 1538) rfl, List.mem_of_getElem? (i := 53) rfl, by decide +kernel, by decide +kernel, by decide +kernel⟩
set_option maxRecDepth 100000 in
theorem msJ7_copyOfRangeByte_39247 : Cond.static mJ7_copyOfRangeByte_39247.1 ∈ lw_tbl := List.mem_of_getElem? (i := 1537) rfl
def mJ8_newLength_cabcc : am_M := (yJ8_newLength_cabcc, cJ8_newLength_cabcc, 4, (Option.some Jvm.ClassFile.FieldType.int), 24, 3, false)
set_option maxRecDepth 100000 in
theorem mkJ8_newLength_cabcc : am_Mok mJ8_newLength_cabcc := ⟨List.mem_of_getElem? (i := 1367) rfl, List.mem_of_getElem? (i := 51) rfl, by decide +kernel, by decide +kernel, by decide +kernel⟩
set_option maxRecDepth 100000 in
theorem msJ8_newLength_cabcc : Cond.static mJ8_newLength_cabcc.1 ∈ lw_tbl := List.mem_of_getElem? (i := 1366) rfl
def mJ8_hugeLength_7cf53 : am_M := (yJ8_hugeLength_7cf53, cJ8_hugeLength_7cf53, 3, (Option.some Jvm.ClassFile.FieldType.int), 24, 2, false)
set_option maxRecDepth 100000 in
theorem mkJ8_hugeLength_7cf53 : am_Mok mJ8_hugeLength_7cf53 := ⟨List.mem_of_getElem? (i := 1372) rfl, List.mem_of_getElem? (i := 51) rfl, by decide +kernel, by decide +kernel, by decide +kernel⟩
set_option maxRecDepth 100000 in
theorem msJ8_hugeLength_7cf53 : Cond.static mJ8_hugeLength_7cf53.1 ∈ lw_tbl := List.mem_of_getElem? (i := 1371) rfl
def mJ3_checkIndex_8e157 : am_M := (yJ3_checkIndex_8e157, cJ3_checkIndex_8e157, 3, (Option.some Jvm.ClassFile.FieldType.int), 19, 3, false)
set_option maxRecDepth 100000 in
theorem mkJ3_checkIndex_8e157 : am_Mok mJ3_checkIndex_8e157 := ⟨List.mem_of_getElem? (i := 119) rfl, List.mem_of_getElem? (i := 55) rfl, by decide +kernel, by decide +kernel, by decide +kernel⟩
set_option maxRecDepth 100000 in
theorem msJ3_checkIndex_8e157 : Cond.static mJ3_checkIndex_8e157.1 ∈ lw_tbl := List.mem_of_getElem? (i := 118) rfl
def mJ3_checkFromToIndex_8c36e : am_M := (yJ3_checkFromToIndex_8c36e, cJ3_checkFromToIndex_8c36e, 4, (Option.some Jvm.ClassFile.FieldType.int), 19, 4, false)
set_option maxRecDepth 100000 in
theorem mkJ3_checkFromToIndex_8c36e : am_Mok mJ3_checkFromToIndex_8c36e := ⟨List.mem_of_getElem? (i := 1097) rfl, List.mem_of_getElem? (i := 55) rfl, by decide +kernel, by decide +kernel, by decide +kernel⟩
set_option maxRecDepth 100000 in
theorem msJ3_checkFromToIndex_8c36e : Cond.static mJ3_checkFromToIndex_8c36e.1 ∈ lw_tbl := List.mem_of_getElem? (i := 1096) rfl
def mJ3_checkFromIndexSize_8c36e : am_M := (yJ3_checkFromIndexSize_8c36e, cJ3_checkFromIndexSize_8c36e, 4, (Option.some Jvm.ClassFile.FieldType.int), 19, 4, false)
set_option maxRecDepth 100000 in
theorem mkJ3_checkFromIndexSize_8c36e : am_Mok mJ3_checkFromIndexSize_8c36e := ⟨List.mem_of_getElem? (i := 1433) rfl, List.mem_of_getElem? (i := 55) rfl, by decide +kernel, by decide +kernel, by decide +kernel⟩
set_option maxRecDepth 100000 in
theorem msJ3_checkFromIndexSize_8c36e : Cond.static mJ3_checkFromIndexSize_8c36e.1 ∈ lw_tbl := List.mem_of_getElem? (i := 1432) rfl
def mL_below : am_M := (yL_below, cL_below, 2, (Option.some Jvm.ClassFile.FieldType.int), 15, 2, false)
set_option maxRecDepth 100000 in
theorem mkL_below : am_Mok mL_below := ⟨List.mem_of_getElem? (i := 976) rfl, List.mem_of_getElem? (i := 45) rfl, by decide +kernel, by decide +kernel, by decide +kernel⟩
set_option maxRecDepth 100000 in
theorem msL_below : Cond.static mL_below.1 ∈ lw_tbl := List.mem_of_getElem? (i := 975) rfl
def mL_cell : am_M := (yL_cell, cL_cell, 2, (Option.some Jvm.ClassFile.FieldType.int), 15, 2, false)
set_option maxRecDepth 100000 in
theorem mkL_cell : am_Mok mL_cell := ⟨List.mem_of_getElem? (i := 980) rfl, List.mem_of_getElem? (i := 45) rfl, by decide +kernel, by decide +kernel, by decide +kernel⟩
set_option maxRecDepth 100000 in
theorem msL_cell : Cond.static mL_cell.1 ∈ lw_tbl := List.mem_of_getElem? (i := 979) rfl
def mL_taught : am_M := (yL_taught, cL_taught, 5, (Option.some Jvm.ClassFile.FieldType.int), 15, 2, false)
set_option maxRecDepth 100000 in
theorem mkL_taught : am_Mok mL_taught := ⟨List.mem_of_getElem? (i := 984) rfl, List.mem_of_getElem? (i := 45) rfl, by decide +kernel, by decide +kernel, by decide +kernel⟩
set_option maxRecDepth 100000 in
theorem msL_taught : Cond.static mL_taught.1 ∈ lw_tbl := List.mem_of_getElem? (i := 983) rfl
def mL_sum : am_M := (yL_sum, cL_sum, 3, (Option.some (Jvm.ClassFile.FieldType.object "java/lang/String")), 15, 2, false)
set_option maxRecDepth 100000 in
theorem mkL_sum : am_Mok mL_sum := ⟨List.mem_of_getElem? (i := 1568) rfl, List.mem_of_getElem? (i := 45) rfl, by decide +kernel, by decide +kernel, by decide +kernel⟩
set_option maxRecDepth 100000 in
theorem msL_sum : Cond.static mL_sum.1 ∈ lw_tbl := List.mem_of_getElem? (i := 1567) rfl
def mL_test : am_M := (yL_test, cL_test, 4, (Option.some (Jvm.ClassFile.FieldType.object "java/lang/String")), 15, 2, false)
set_option maxRecDepth 100000 in
theorem mkL_test : am_Mok mL_test := ⟨List.mem_of_getElem? (i := 1580) rfl, List.mem_of_getElem? (i := 45) rfl, by decide +kernel, by decide +kernel, by decide +kernel⟩
set_option maxRecDepth 100000 in
theorem msL_test : Cond.static mL_test.1 ∈ lw_tbl := List.mem_of_getElem? (i := 1579) rfl
def mL_list : am_M := (yL_list, cL_list, 9, (Option.some (Jvm.ClassFile.FieldType.object "MarbledPaperLaw$Sim")), 15, 2, false)
set_option maxRecDepth 100000 in
theorem mkL_list : am_Mok mL_list := ⟨List.mem_of_getElem? (i := 1296) rfl, List.mem_of_getElem? (i := 45) rfl, by decide +kernel, by decide +kernel, by decide +kernel⟩
set_option maxRecDepth 100000 in
theorem msL_list : Cond.static mL_list.1 ∈ lw_tbl := List.mem_of_getElem? (i := 1295) rfl
def mL_act : am_M := (yL_act, cL_act, 6, (Option.some Jvm.ClassFile.FieldType.boolean), 15, 3, false)
set_option maxRecDepth 100000 in
theorem mkL_act : am_Mok mL_act := ⟨List.mem_of_getElem? (i := 1591) rfl, List.mem_of_getElem? (i := 45) rfl, by decide +kernel, by decide +kernel, by decide +kernel⟩
set_option maxRecDepth 100000 in
theorem msL_act : Cond.static mL_act.1 ∈ lw_tbl := List.mem_of_getElem? (i := 1590) rfl
