def tb_String_charAt : Nat → Option (Instr × Nat) := fun pc => bif Nat.ble pc 11 then (bif Nat.ble pc 4 then (bif Nat.ble pc 0 then (bif Nat.beq pc 0 then some (.aload_n 0, 1) else none) else (bif Nat.ble pc 1 then (bif Nat.beq pc 1 then some (.invokevirtual 492, 3) else none) else (bif Nat.beq pc 4 then some (.ifCond .eq 12, 3) else none))) else (bif Nat.ble pc 7 then (bif Nat.beq pc 7 then some (.aload_n 0, 1) else none) else (bif Nat.ble pc 8 then (bif Nat.beq pc 8 then some (.getfield 9, 3) else none) else (bif Nat.beq pc 11 then some (.iload_n 1, 1) else none)))) else (bif Nat.ble pc 16 then (bif Nat.ble pc 12 then (bif Nat.beq pc 12 then some (.invokestatic 495, 3) else none) else (bif Nat.ble pc 15 then (bif Nat.beq pc 15 then some (.ireturn, 1) else none) else (bif Nat.beq pc 16 then some (.aload_n 0, 1) else none))) else (bif Nat.ble pc 20 then (bif Nat.ble pc 17 then (bif Nat.beq pc 17 then some (.getfield 9, 3) else none) else (bif Nat.beq pc 20 then some (.iload_n 1, 1) else none)) else (bif Nat.ble pc 21 then (bif Nat.beq pc 21 then some (.invokestatic 498, 3) else none) else (bif Nat.beq pc 24 then some (.ireturn, 1) else none))))
def M_String_charAt : on_M := (⟨"java/lang/String", "charAt", "(I)C"⟩, prog_21_method_56_code, 2, (some FieldType.char), 3, 64, on_t 25 tb_String_charAt)
set_option maxRecDepth 100000 in
theorem v_String_charAt : on_ok M_String_charAt := dw_all_ok (c := prog_21_method_56_code) (n := 25) (f := tb_String_charAt) (by decide +kernel)
set_option maxRecDepth 100000 in
theorem k_String_charAt : Cond.code (on_y M_String_charAt) (on_cc M_String_charAt) (on_nL M_String_charAt) (on_rt M_String_charAt) ∈ on_W := on_w 1319 rfl rfl
def tb_String_isLatin1 : Nat → Option (Instr × Nat) := fun pc => bif Nat.ble pc 7 then (bif Nat.ble pc 3 then (bif Nat.ble pc 0 then (bif Nat.beq pc 0 then some (.getstatic 38, 3) else none) else (bif Nat.beq pc 3 then some (.ifCond .eq 14, 3) else none)) else (bif Nat.ble pc 6 then (bif Nat.beq pc 6 then some (.aload_n 0, 1) else none) else (bif Nat.beq pc 7 then some (.getfield 15, 3) else none))) else (bif Nat.ble pc 13 then (bif Nat.ble pc 10 then (bif Nat.beq pc 10 then some (.ifCond .ne 7, 3) else none) else (bif Nat.beq pc 13 then some (.iconst 1, 1) else none)) else (bif Nat.ble pc 14 then (bif Nat.beq pc 14 then some (.goto 4, 3) else none) else (bif Nat.ble pc 17 then (bif Nat.beq pc 17 then some (.iconst 0, 1) else none) else (bif Nat.beq pc 18 then some (.ireturn, 1) else none))))
def M_String_isLatin1 : on_M := (⟨"java/lang/String", "isLatin1", "()Z"⟩, prog_21_method_154_code, 1, (some FieldType.boolean), 0, 0, on_t 19 tb_String_isLatin1)
set_option maxRecDepth 100000 in
theorem v_String_isLatin1 : on_ok M_String_isLatin1 := dw_all_ok (c := prog_21_method_154_code) (n := 19) (f := tb_String_isLatin1) (by decide +kernel)
set_option maxRecDepth 100000 in
theorem k_String_isLatin1 : Cond.code (on_y M_String_isLatin1) (on_cc M_String_isLatin1) (on_nL M_String_isLatin1) (on_rt M_String_isLatin1) ∈ on_W := on_w 1323 rfl rfl
def tb_StringLatin1_charAt : Nat → Option (Instr × Nat) := fun pc => bif Nat.ble pc 6 then (bif Nat.ble pc 1 then (bif Nat.ble pc 0 then (bif Nat.beq pc 0 then some (.iload_n 1, 1) else none) else (bif Nat.beq pc 1 then some (.aload_n 0, 1) else none)) else (bif Nat.ble pc 2 then (bif Nat.beq pc 2 then some (.arraylength, 1) else none) else (bif Nat.ble pc 3 then (bif Nat.beq pc 3 then some (.invokestatic 9, 3) else none) else (bif Nat.beq pc 6 then some (.aload_n 0, 1) else none)))) else (bif Nat.ble pc 9 then (bif Nat.ble pc 7 then (bif Nat.beq pc 7 then some (.iload_n 1, 1) else none) else (bif Nat.ble pc 8 then (bif Nat.beq pc 8 then some (.baload, 1) else none) else (bif Nat.beq pc 9 then some (.sipush 255, 3) else none))) else (bif Nat.ble pc 12 then (bif Nat.beq pc 12 then some (.iand, 1) else none) else (bif Nat.ble pc 13 then (bif Nat.beq pc 13 then some (.i2c, 1) else none) else (bif Nat.beq pc 14 then some (.ireturn, 1) else none))))
def M_StringLatin1_charAt : on_M := (⟨"java/lang/StringLatin1", "charAt", "([BI)C"⟩, prog_22_method_2_code, 2, (some FieldType.char), 2, 43, on_t 15 tb_StringLatin1_charAt)
set_option maxRecDepth 100000 in
theorem v_StringLatin1_charAt : on_ok M_StringLatin1_charAt := dw_all_ok (c := prog_22_method_2_code) (n := 15) (f := tb_StringLatin1_charAt) (by decide +kernel)
set_option maxRecDepth 100000 in
theorem k_StringLatin1_charAt : Cond.code (on_y M_StringLatin1_charAt) (on_cc M_StringLatin1_charAt) (on_nL M_StringLatin1_charAt) (on_rt M_StringLatin1_charAt) ∈ on_W := on_w 1328 rfl rfl
def tb_String_checkIndex : Nat → Option (Instr × Nat) := fun pc => bif Nat.ble pc 2 then (bif Nat.ble pc 0 then (bif Nat.beq pc 0 then some (.iload_n 0, 1) else none) else (bif Nat.ble pc 1 then (bif Nat.beq pc 1 then some (.iload_n 1, 1) else none) else (bif Nat.beq pc 2 then some (.getstatic 1053, 3) else none))) else (bif Nat.ble pc 5 then (bif Nat.beq pc 5 then some (.invokestatic 1059, 3) else none) else (bif Nat.ble pc 8 then (bif Nat.beq pc 8 then some (.pop, 1) else none) else (bif Nat.beq pc 9 then some (.return_, 1) else none)))
def M_String_checkIndex : on_M := (⟨"java/lang/String", "checkIndex", "(II)V"⟩, prog_21_method_155_code, 2, (none : Option FieldType), 1, 22, on_t 10 tb_String_checkIndex)
set_option maxRecDepth 100000 in
theorem v_String_checkIndex : on_ok M_String_checkIndex := dw_all_ok (c := prog_21_method_155_code) (n := 10) (f := tb_String_checkIndex) (by decide +kernel)
set_option maxRecDepth 100000 in
theorem k_String_checkIndex : Cond.code (on_y M_String_checkIndex) (on_cc M_String_checkIndex) (on_nL M_String_checkIndex) (on_rt M_String_checkIndex) ∈ on_W := on_w 1331 rfl rfl
def tb_Preconditions_checkIndex : Nat → Option (Instr × Nat) := fun pc => bif Nat.ble pc 9 then (bif Nat.ble pc 4 then (bif Nat.ble pc 0 then (bif Nat.beq pc 0 then some (.iload_n 0, 1) else none) else (bif Nat.ble pc 1 then (bif Nat.beq pc 1 then some (.ifCond .lt 8, 3) else none) else (bif Nat.beq pc 4 then some (.iload_n 0, 1) else none))) else (bif Nat.ble pc 5 then (bif Nat.beq pc 5 then some (.iload_n 1, 1) else none) else (bif Nat.ble pc 6 then (bif Nat.beq pc 6 then some (.if_icmp .lt 10, 3) else none) else (bif Nat.beq pc 9 then some (.aload_n 2, 1) else none)))) else (bif Nat.ble pc 12 then (bif Nat.ble pc 10 then (bif Nat.beq pc 10 then some (.iload_n 0, 1) else none) else (bif Nat.ble pc 11 then (bif Nat.beq pc 11 then some (.iload_n 1, 1) else none) else (bif Nat.beq pc 12 then some (.invokestatic 95, 3) else none))) else (bif Nat.ble pc 15 then (bif Nat.beq pc 15 then some (.athrow, 1) else none) else (bif Nat.ble pc 16 then (bif Nat.beq pc 16 then some (.iload_n 0, 1) else none) else (bif Nat.beq pc 17 then some (.ireturn, 1) else none))))
def M_Preconditions_checkIndex : on_M := (⟨"jdk/internal/util/Preconditions", "checkIndex", "(IILjava/util/function/BiFunction;)I"⟩, prog_26_method_11_code, 3, (some FieldType.int), 0, 0, on_t 18 tb_Preconditions_checkIndex)
set_option maxRecDepth 100000 in
theorem v_Preconditions_checkIndex : on_ok M_Preconditions_checkIndex := dw_all_ok (c := prog_26_method_11_code) (n := 18) (f := tb_Preconditions_checkIndex) (by decide +kernel)
set_option maxRecDepth 100000 in
theorem k_Preconditions_checkIndex : Cond.code (on_y M_Preconditions_checkIndex) (on_cc M_Preconditions_checkIndex) (on_nL M_Preconditions_checkIndex) (on_rt M_Preconditions_checkIndex) ∈ on_W := on_w 1336 rfl rfl
set_option maxRecDepth 100000 in
theorem cw_String_charAt_492 : on_CVs M_String_charAt M_String_isLatin1 492 0 := ⟨⟨on_w 1320 rfl rfl, k_String_isLatin1, on_w 117 rfl rfl, by decide +kernel, by decide, by decide⟩, on_w 1321 rfl rfl, on_w 1322 rfl rfl, rfl⟩
set_option maxRecDepth 100000 in
theorem sf_String_9 : Cond.fieldLink "java/lang/String" 9 "java/lang/String" "value" "[B" ∈ on_W := on_w 1869 rfl rfl
set_option maxRecDepth 100000 in
theorem cw_String_charAt_495 : on_CS M_String_charAt M_StringLatin1_charAt 495 2 := ⟨⟨on_w 1326 rfl rfl, k_StringLatin1_charAt, on_w 118 rfl rfl, by decide +kernel, by decide, by decide⟩, on_w 1327 rfl rfl⟩
set_option maxRecDepth 100000 in
theorem sf_String_38 : Cond.fieldLink "java/lang/String" 38 "java/lang/String" "COMPACT_STRINGS" "Z" ∈ on_W := on_w 1324 rfl rfl
set_option maxRecDepth 100000 in
theorem sf_String_15 : Cond.fieldLink "java/lang/String" 15 "java/lang/String" "coder" "B" ∈ on_W := on_w 1868 rfl rfl
set_option maxRecDepth 100000 in
theorem cw_StringLatin1_charAt_9 : on_CS M_StringLatin1_charAt M_String_checkIndex 9 2 := ⟨⟨on_w 1329 rfl rfl, k_String_checkIndex, on_w 117 rfl rfl, by decide +kernel, by decide, by decide⟩, on_w 1330 rfl rfl⟩
set_option maxRecDepth 100000 in
theorem sf_String_1053 : Cond.fieldLink "java/lang/String" 1053 "jdk/internal/util/Preconditions" "SIOOBE_FORMATTER" "Ljava/util/function/BiFunction;" ∈ on_W := on_w 1332 rfl rfl
set_option maxRecDepth 100000 in
theorem cw_String_checkIndex_1059 : on_CS M_String_checkIndex M_Preconditions_checkIndex 1059 3 := ⟨⟨on_w 1334 rfl rfl, k_Preconditions_checkIndex, on_w 119 rfl rfl, by decide +kernel, by decide, by decide⟩, on_w 1335 rfl rfl⟩
