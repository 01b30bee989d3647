theorem hd_C_init : y_C_init.cls ≠ "java/lang/invoke/MethodHandle" ∧ y_C_init.cls ≠ "java/lang/invoke/VarHandle" ∧ (parseMethodDescriptor y_C_init.desc).map (fun d => d.parameters.length) = some 1 := by decide +kernel
theorem hd_O_init : y_O_init.cls ≠ "java/lang/invoke/MethodHandle" ∧ y_O_init.cls ≠ "java/lang/invoke/VarHandle" ∧ (parseMethodDescriptor y_O_init.desc).map (fun d => d.parameters.length) = some 0 := by decide +kernel
theorem hd_Ma_min : y_Ma_min.cls ≠ "java/lang/invoke/MethodHandle" ∧ y_Ma_min.cls ≠ "java/lang/invoke/VarHandle" ∧ (parseMethodDescriptor y_Ma_min.desc).map (fun d => d.parameters.length) = some 2 := by decide +kernel
theorem hd_Ma_max : y_Ma_max.cls ≠ "java/lang/invoke/MethodHandle" ∧ y_Ma_max.cls ≠ "java/lang/invoke/VarHandle" ∧ (parseMethodDescriptor y_Ma_max.desc).map (fun d => d.parameters.length) = some 2 := by decide +kernel
theorem hd_A_init : y_A_init.cls ≠ "java/lang/invoke/MethodHandle" ∧ y_A_init.cls ≠ "java/lang/invoke/VarHandle" ∧ (parseMethodDescriptor y_A_init.desc).map (fun d => d.parameters.length) = some 0 := by decide +kernel
theorem hd_AL_init : y_AL_init.cls ≠ "java/lang/invoke/MethodHandle" ∧ y_AL_init.cls ≠ "java/lang/invoke/VarHandle" ∧ (parseMethodDescriptor y_AL_init.desc).map (fun d => d.parameters.length) = some 0 := by decide +kernel
theorem hd_AC_init : y_AC_init.cls ≠ "java/lang/invoke/MethodHandle" ∧ y_AC_init.cls ≠ "java/lang/invoke/VarHandle" ∧ (parseMethodDescriptor y_AC_init.desc).map (fun d => d.parameters.length) = some 0 := by decide +kernel
theorem hd_F_init : y_F_init.cls ≠ "java/lang/invoke/MethodHandle" ∧ y_F_init.cls ≠ "java/lang/invoke/VarHandle" ∧ (parseMethodDescriptor y_F_init.desc).map (fun d => d.parameters.length) = some 0 := by decide +kernel
theorem hd_C_plain : y_C_plain.cls ≠ "java/lang/invoke/MethodHandle" ∧ y_C_plain.cls ≠ "java/lang/invoke/VarHandle" ∧ (parseMethodDescriptor y_C_plain.desc).map (fun d => d.parameters.length) = some 0 := by decide +kernel
theorem hd_F_clear : y_F_clear.cls ≠ "java/lang/invoke/MethodHandle" ∧ y_F_clear.cls ≠ "java/lang/invoke/VarHandle" ∧ (parseMethodDescriptor y_F_clear.desc).map (fun d => d.parameters.length) = some 0 := by decide +kernel
theorem hd_C_checkStrip : y_C_checkStrip.cls ≠ "java/lang/invoke/MethodHandle" ∧ y_C_checkStrip.cls ≠ "java/lang/invoke/VarHandle" ∧ (parseMethodDescriptor y_C_checkStrip.desc).map (fun d => d.parameters.length) = some 2 := by decide +kernel
theorem hd_A_size : y_A_size.cls ≠ "java/lang/invoke/MethodHandle" ∧ y_A_size.cls ≠ "java/lang/invoke/VarHandle" ∧ (parseMethodDescriptor y_A_size.desc).map (fun d => d.parameters.length) = some 0 := by decide +kernel
theorem hd_A_get : y_A_get.cls ≠ "java/lang/invoke/MethodHandle" ∧ y_A_get.cls ≠ "java/lang/invoke/VarHandle" ∧ (parseMethodDescriptor y_A_get.desc).map (fun d => d.parameters.length) = some 1 := by decide +kernel
theorem hd_Ob_checkIndex : y_Ob_checkIndex.cls ≠ "java/lang/invoke/MethodHandle" ∧ y_Ob_checkIndex.cls ≠ "java/lang/invoke/VarHandle" ∧ (parseMethodDescriptor y_Ob_checkIndex.desc).map (fun d => d.parameters.length) = some 2 := by decide +kernel
theorem hd_Pr_checkIndex : y_Pr_checkIndex.cls ≠ "java/lang/invoke/MethodHandle" ∧ y_Pr_checkIndex.cls ≠ "java/lang/invoke/VarHandle" ∧ (parseMethodDescriptor y_Pr_checkIndex.desc).map (fun d => d.parameters.length) = some 3 := by decide +kernel
theorem hd_A_elementData : y_A_elementData.cls ≠ "java/lang/invoke/MethodHandle" ∧ y_A_elementData.cls ≠ "java/lang/invoke/VarHandle" ∧ (parseMethodDescriptor y_A_elementData.desc).map (fun d => d.parameters.length) = some 1 := by decide +kernel
theorem hd_S_isClosed : y_S_isClosed.cls ≠ "java/lang/invoke/MethodHandle" ∧ y_S_isClosed.cls ≠ "java/lang/invoke/VarHandle" ∧ (parseMethodDescriptor y_S_isClosed.desc).map (fun d => d.parameters.length) = some 0 := by decide +kernel
theorem hd_S_stripAmong : y_S_stripAmong.cls ≠ "java/lang/invoke/MethodHandle" ∧ y_S_stripAmong.cls ≠ "java/lang/invoke/VarHandle" ∧ (parseMethodDescriptor y_S_stripAmong.desc).map (fun d => d.parameters.length) = some 1 := by decide +kernel
theorem hd_C_checkWidth : y_C_checkWidth.cls ≠ "java/lang/invoke/MethodHandle" ∧ y_C_checkWidth.cls ≠ "java/lang/invoke/VarHandle" ∧ (parseMethodDescriptor y_C_checkWidth.desc).map (fun d => d.parameters.length) = some 2 := by decide +kernel
theorem hd_S_isCopper : y_S_isCopper.cls ≠ "java/lang/invoke/MethodHandle" ∧ y_S_isCopper.cls ≠ "java/lang/invoke/VarHandle" ∧ (parseMethodDescriptor y_S_isCopper.desc).map (fun d => d.parameters.length) = some 0 := by decide +kernel
theorem hd_C_valueForOne : y_C_valueForOne.cls ≠ "java/lang/invoke/MethodHandle" ∧ y_C_valueForOne.cls ≠ "java/lang/invoke/VarHandle" ∧ (parseMethodDescriptor y_C_valueForOne.desc).map (fun d => d.parameters.length) = some 2 := by decide +kernel
theorem hd_Q_takesFirst : y_Q_takesFirst.cls ≠ "java/lang/invoke/MethodHandle" ∧ y_Q_takesFirst.cls ≠ "java/lang/invoke/VarHandle" ∧ (parseMethodDescriptor y_Q_takesFirst.desc).map (fun d => d.parameters.length) = some 1 := by decide +kernel
theorem hd_F_add : y_F_add.cls ≠ "java/lang/invoke/MethodHandle" ∧ y_F_add.cls ≠ "java/lang/invoke/VarHandle" ∧ (parseMethodDescriptor y_F_add.desc).map (fun d => d.parameters.length) = some 3 := by decide +kernel
theorem hd_C_checkRing : y_C_checkRing.cls ≠ "java/lang/invoke/MethodHandle" ∧ y_C_checkRing.cls ≠ "java/lang/invoke/VarHandle" ∧ (parseMethodDescriptor y_C_checkRing.desc).map (fun d => d.parameters.length) = some 2 := by decide +kernel
theorem hd_S_sharesNet : y_S_sharesNet.cls ≠ "java/lang/invoke/MethodHandle" ∧ y_S_sharesNet.cls ≠ "java/lang/invoke/VarHandle" ∧ (parseMethodDescriptor y_S_sharesNet.desc).map (fun d => d.parameters.length) = some 1 := by decide +kernel
theorem hd_S_reachesCorners : y_S_reachesCorners.cls ≠ "java/lang/invoke/MethodHandle" ∧ y_S_reachesCorners.cls ≠ "java/lang/invoke/VarHandle" ∧ (parseMethodDescriptor y_S_reachesCorners.desc).map (fun d => d.parameters.length) = some 2 := by decide +kernel
theorem hd_S_reaches : y_S_reaches.cls ≠ "java/lang/invoke/MethodHandle" ∧ y_S_reaches.cls ≠ "java/lang/invoke/VarHandle" ∧ (parseMethodDescriptor y_S_reaches.desc).map (fun d => d.parameters.length) = some 3 := by decide +kernel
theorem hd_S_pieces : y_S_pieces.cls ≠ "java/lang/invoke/MethodHandle" ∧ y_S_pieces.cls ≠ "java/lang/invoke/VarHandle" ∧ (parseMethodDescriptor y_S_pieces.desc).map (fun d => d.parameters.length) = some 0 := by decide +kernel
theorem hd_S_compareToPiece : y_S_compareToPiece.cls ≠ "java/lang/invoke/MethodHandle" ∧ y_S_compareToPiece.cls ≠ "java/lang/invoke/VarHandle" ∧ (parseMethodDescriptor y_S_compareToPiece.desc).map (fun d => d.parameters.length) = some 4 := by decide +kernel
theorem hd_S_squareTo : y_S_squareTo.cls ≠ "java/lang/invoke/MethodHandle" ∧ y_S_squareTo.cls ≠ "java/lang/invoke/VarHandle" ∧ (parseMethodDescriptor y_S_squareTo.desc).map (fun d => d.parameters.length) = some 3 := by decide +kernel
theorem hd_Lo_compare : y_Lo_compare.cls ≠ "java/lang/invoke/MethodHandle" ∧ y_Lo_compare.cls ≠ "java/lang/invoke/VarHandle" ∧ (parseMethodDescriptor y_Lo_compare.desc).map (fun d => d.parameters.length) = some 2 := by decide +kernel
theorem hd_Ma_abs : y_Ma_abs.cls ≠ "java/lang/invoke/MethodHandle" ∧ y_Ma_abs.cls ≠ "java/lang/invoke/VarHandle" ∧ (parseMethodDescriptor y_Ma_abs.desc).map (fun d => d.parameters.length) = some 1 := by decide +kernel
theorem hd_S_upper : y_S_upper.cls ≠ "java/lang/invoke/MethodHandle" ∧ y_S_upper.cls ≠ "java/lang/invoke/VarHandle" ∧ (parseMethodDescriptor y_S_upper.desc).map (fun d => d.parameters.length) = some 2 := by decide +kernel
theorem hd_S_lower : y_S_lower.cls ≠ "java/lang/invoke/MethodHandle" ∧ y_S_lower.cls ≠ "java/lang/invoke/VarHandle" ∧ (parseMethodDescriptor y_S_lower.desc).map (fun d => d.parameters.length) = some 2 := by decide +kernel
theorem hd_C_checkEnds : y_C_checkEnds.cls ≠ "java/lang/invoke/MethodHandle" ∧ y_C_checkEnds.cls ≠ "java/lang/invoke/VarHandle" ∧ (parseMethodDescriptor y_C_checkEnds.desc).map (fun d => d.parameters.length) = some 2 := by decide +kernel
theorem hd_C_isLoose : y_C_isLoose.cls ≠ "java/lang/invoke/MethodHandle" ∧ y_C_isLoose.cls ≠ "java/lang/invoke/VarHandle" ∧ (parseMethodDescriptor y_C_isLoose.desc).map (fun d => d.parameters.length) = some 2 := by decide +kernel
theorem hd_C_checkAcute : y_C_checkAcute.cls ≠ "java/lang/invoke/MethodHandle" ∧ y_C_checkAcute.cls ≠ "java/lang/invoke/VarHandle" ∧ (parseMethodDescriptor y_C_checkAcute.desc).map (fun d => d.parameters.length) = some 2 := by decide +kernel
theorem hd_S_hasAcuteCorner : y_S_hasAcuteCorner.cls ≠ "java/lang/invoke/MethodHandle" ∧ y_S_hasAcuteCorner.cls ≠ "java/lang/invoke/VarHandle" ∧ (parseMethodDescriptor y_S_hasAcuteCorner.desc).map (fun d => d.parameters.length) = some 0 := by decide +kernel
theorem hd_C_checkPairs : y_C_checkPairs.cls ≠ "java/lang/invoke/MethodHandle" ∧ y_C_checkPairs.cls ≠ "java/lang/invoke/VarHandle" ∧ (parseMethodDescriptor y_C_checkPairs.desc).map (fun d => d.parameters.length) = some 2 := by decide +kernel
theorem hd_C_kindForPair : y_C_kindForPair.cls ≠ "java/lang/invoke/MethodHandle" ∧ y_C_kindForPair.cls ≠ "java/lang/invoke/VarHandle" ∧ (parseMethodDescriptor y_C_kindForPair.desc).map (fun d => d.parameters.length) = some 2 := by decide +kernel
theorem hd_C_valueForPair : y_C_valueForPair.cls ≠ "java/lang/invoke/MethodHandle" ∧ y_C_valueForPair.cls ≠ "java/lang/invoke/VarHandle" ∧ (parseMethodDescriptor y_C_valueForPair.desc).map (fun d => d.parameters.length) = some 3 := by decide +kernel
theorem hd_Q_takesPair : y_Q_takesPair.cls ≠ "java/lang/invoke/MethodHandle" ∧ y_Q_takesPair.cls ≠ "java/lang/invoke/VarHandle" ∧ (parseMethodDescriptor y_Q_takesPair.desc).map (fun d => d.parameters.length) = some 2 := by decide +kernel
theorem hd_Q_takesSecond : y_Q_takesSecond.cls ≠ "java/lang/invoke/MethodHandle" ∧ y_Q_takesSecond.cls ≠ "java/lang/invoke/VarHandle" ∧ (parseMethodDescriptor y_Q_takesSecond.desc).map (fun d => d.parameters.length) = some 1 := by decide +kernel
theorem hd_S_isNearer : y_S_isNearer.cls ≠ "java/lang/invoke/MethodHandle" ∧ y_S_isNearer.cls ≠ "java/lang/invoke/VarHandle" ∧ (parseMethodDescriptor y_S_isNearer.desc).map (fun d => d.parameters.length) = some 2 := by decide +kernel
theorem hd_S_hasCornerNearer : y_S_hasCornerNearer.cls ≠ "java/lang/invoke/MethodHandle" ∧ y_S_hasCornerNearer.cls ≠ "java/lang/invoke/VarHandle" ∧ (parseMethodDescriptor y_S_hasCornerNearer.desc).map (fun d => d.parameters.length) = some 2 := by decide +kernel
theorem hd_S_crosses : y_S_crosses.cls ≠ "java/lang/invoke/MethodHandle" ∧ y_S_crosses.cls ≠ "java/lang/invoke/VarHandle" ∧ (parseMethodDescriptor y_S_crosses.desc).map (fun d => d.parameters.length) = some 1 := by decide +kernel
theorem hd_S_parts : y_S_parts.cls ≠ "java/lang/invoke/MethodHandle" ∧ y_S_parts.cls ≠ "java/lang/invoke/VarHandle" ∧ (parseMethodDescriptor y_S_parts.desc).map (fun d => d.parameters.length) = some 3 := by decide +kernel
theorem hd_S_turn : y_S_turn.cls ≠ "java/lang/invoke/MethodHandle" ∧ y_S_turn.cls ≠ "java/lang/invoke/VarHandle" ∧ (parseMethodDescriptor y_S_turn.desc).map (fun d => d.parameters.length) = some 3 := by decide +kernel
theorem hd_F_sort : y_F_sort.cls ≠ "java/lang/invoke/MethodHandle" ∧ y_F_sort.cls ≠ "java/lang/invoke/VarHandle" ∧ (parseMethodDescriptor y_F_sort.desc).map (fun d => d.parameters.length) = some 0 := by decide +kernel
theorem hd_F_sink : y_F_sink.cls ≠ "java/lang/invoke/MethodHandle" ∧ y_F_sink.cls ≠ "java/lang/invoke/VarHandle" ∧ (parseMethodDescriptor y_F_sink.desc).map (fun d => d.parameters.length) = some 2 := by decide +kernel
theorem hd_F_sameAs : y_F_sameAs.cls ≠ "java/lang/invoke/MethodHandle" ∧ y_F_sameAs.cls ≠ "java/lang/invoke/VarHandle" ∧ (parseMethodDescriptor y_F_sameAs.desc).map (fun d => d.parameters.length) = some 1 := by decide +kernel
theorem hd_C_kinds : y_C_kinds.cls ≠ "java/lang/invoke/MethodHandle" ∧ y_C_kinds.cls ≠ "java/lang/invoke/VarHandle" ∧ (parseMethodDescriptor y_C_kinds.desc).map (fun d => d.parameters.length) = some 0 := by decide +kernel
theorem hd_F_kindOf : y_F_kindOf.cls ≠ "java/lang/invoke/MethodHandle" ∧ y_F_kindOf.cls ≠ "java/lang/invoke/VarHandle" ∧ (parseMethodDescriptor y_F_kindOf.desc).map (fun d => d.parameters.length) = some 1 := by decide +kernel
theorem hd_F_part : y_F_part.cls ≠ "java/lang/invoke/MethodHandle" ∧ y_F_part.cls ≠ "java/lang/invoke/VarHandle" ∧ (parseMethodDescriptor y_F_part.desc).map (fun d => d.parameters.length) = some 3 := by decide +kernel
theorem hd_In_bitCount : y_In_bitCount.cls ≠ "java/lang/invoke/MethodHandle" ∧ y_In_bitCount.cls ≠ "java/lang/invoke/VarHandle" ∧ (parseMethodDescriptor y_In_bitCount.desc).map (fun d => d.parameters.length) = some 1 := by decide +kernel
theorem hd_L_cell : y_L_cell.cls ≠ "java/lang/invoke/MethodHandle" ∧ y_L_cell.cls ≠ "java/lang/invoke/VarHandle" ∧ (parseMethodDescriptor y_L_cell.desc).map (fun d => d.parameters.length) = some 2 := by decide +kernel
theorem hd_L_shape : y_L_shape.cls ≠ "java/lang/invoke/MethodHandle" ∧ y_L_shape.cls ≠ "java/lang/invoke/VarHandle" ∧ (parseMethodDescriptor y_L_shape.desc).map (fun d => d.parameters.length) = some 5 := by decide +kernel
theorem hd_C_shape : y_C_shape.cls ≠ "java/lang/invoke/MethodHandle" ∧ y_C_shape.cls ≠ "java/lang/invoke/VarHandle" ∧ (parseMethodDescriptor y_C_shape.desc).map (fun d => d.parameters.length) = some 3 := by decide +kernel
theorem hd_S_init : y_S_init.cls ≠ "java/lang/invoke/MethodHandle" ∧ y_S_init.cls ≠ "java/lang/invoke/VarHandle" ∧ (parseMethodDescriptor y_S_init.desc).map (fun d => d.parameters.length) = some 4 := by decide +kernel
theorem hd_A_add_1 : y_A_add_1.cls ≠ "java/lang/invoke/MethodHandle" ∧ y_A_add_1.cls ≠ "java/lang/invoke/VarHandle" ∧ (parseMethodDescriptor y_A_add_1.desc).map (fun d => d.parameters.length) = some 1 := by decide +kernel
theorem hd_A_add_2 : y_A_add_2.cls ≠ "java/lang/invoke/MethodHandle" ∧ y_A_add_2.cls ≠ "java/lang/invoke/VarHandle" ∧ (parseMethodDescriptor y_A_add_2.desc).map (fun d => d.parameters.length) = some 3 := by decide +kernel
theorem hd_A_grow_1 : y_A_grow_1.cls ≠ "java/lang/invoke/MethodHandle" ∧ y_A_grow_1.cls ≠ "java/lang/invoke/VarHandle" ∧ (parseMethodDescriptor y_A_grow_1.desc).map (fun d => d.parameters.length) = some 0 := by decide +kernel
theorem hd_A_grow_2 : y_A_grow_2.cls ≠ "java/lang/invoke/MethodHandle" ∧ y_A_grow_2.cls ≠ "java/lang/invoke/VarHandle" ∧ (parseMethodDescriptor y_A_grow_2.desc).map (fun d => d.parameters.length) = some 1 := by decide +kernel
theorem hd_As_newLength : y_As_newLength.cls ≠ "java/lang/invoke/MethodHandle" ∧ y_As_newLength.cls ≠ "java/lang/invoke/VarHandle" ∧ (parseMethodDescriptor y_As_newLength.desc).map (fun d => d.parameters.length) = some 3 := by decide +kernel
theorem hd_As_hugeLength : y_As_hugeLength.cls ≠ "java/lang/invoke/MethodHandle" ∧ y_As_hugeLength.cls ≠ "java/lang/invoke/VarHandle" ∧ (parseMethodDescriptor y_As_hugeLength.desc).map (fun d => d.parameters.length) = some 2 := by decide +kernel
theorem hd_Ar_copyOf_1 : y_Ar_copyOf_1.cls ≠ "java/lang/invoke/MethodHandle" ∧ y_Ar_copyOf_1.cls ≠ "java/lang/invoke/VarHandle" ∧ (parseMethodDescriptor y_Ar_copyOf_1.desc).map (fun d => d.parameters.length) = some 2 := by decide +kernel
theorem hd_Ar_copyOf_2 : y_Ar_copyOf_2.cls ≠ "java/lang/invoke/MethodHandle" ∧ y_Ar_copyOf_2.cls ≠ "java/lang/invoke/VarHandle" ∧ (parseMethodDescriptor y_Ar_copyOf_2.desc).map (fun d => d.parameters.length) = some 3 := by decide +kernel
theorem hd_L_corner : y_L_corner.cls ≠ "java/lang/invoke/MethodHandle" ∧ y_L_corner.cls ≠ "java/lang/invoke/VarHandle" ∧ (parseMethodDescriptor y_L_corner.desc).map (fun d => d.parameters.length) = some 5 := by decide +kernel
theorem hd_C_corner : y_C_corner.cls ≠ "java/lang/invoke/MethodHandle" ∧ y_C_corner.cls ≠ "java/lang/invoke/VarHandle" ∧ (parseMethodDescriptor y_C_corner.desc).map (fun d => d.parameters.length) = some 3 := by decide +kernel
theorem hd_C_openShape : y_C_openShape.cls ≠ "java/lang/invoke/MethodHandle" ∧ y_C_openShape.cls ≠ "java/lang/invoke/VarHandle" ∧ (parseMethodDescriptor y_C_openShape.desc).map (fun d => d.parameters.length) = some 1 := by decide +kernel
theorem hd_C_anyShape : y_C_anyShape.cls ≠ "java/lang/invoke/MethodHandle" ∧ y_C_anyShape.cls ≠ "java/lang/invoke/VarHandle" ∧ (parseMethodDescriptor y_C_anyShape.desc).map (fun d => d.parameters.length) = some 1 := by decide +kernel
theorem hd_C_isPlace : y_C_isPlace.cls ≠ "java/lang/invoke/MethodHandle" ∧ y_C_isPlace.cls ≠ "java/lang/invoke/VarHandle" ∧ (parseMethodDescriptor y_C_isPlace.desc).map (fun d => d.parameters.length) = some 2 := by decide +kernel
theorem hd_S_addCorner : y_S_addCorner.cls ≠ "java/lang/invoke/MethodHandle" ∧ y_S_addCorner.cls ≠ "java/lang/invoke/VarHandle" ∧ (parseMethodDescriptor y_S_addCorner.desc).map (fun d => d.parameters.length) = some 2 := by decide +kernel
theorem hd_L_closeShape : y_L_closeShape.cls ≠ "java/lang/invoke/MethodHandle" ∧ y_L_closeShape.cls ≠ "java/lang/invoke/VarHandle" ∧ (parseMethodDescriptor y_L_closeShape.desc).map (fun d => d.parameters.length) = some 4 := by decide +kernel
theorem hd_C_closeShape : y_C_closeShape.cls ≠ "java/lang/invoke/MethodHandle" ∧ y_C_closeShape.cls ≠ "java/lang/invoke/VarHandle" ∧ (parseMethodDescriptor y_C_closeShape.desc).map (fun d => d.parameters.length) = some 2 := by decide +kernel
theorem hd_L_rule : y_L_rule.cls ≠ "java/lang/invoke/MethodHandle" ∧ y_L_rule.cls ≠ "java/lang/invoke/VarHandle" ∧ (parseMethodDescriptor y_L_rule.desc).map (fun d => d.parameters.length) = some 6 := by decide +kernel
theorem hd_C_rule : y_C_rule.cls ≠ "java/lang/invoke/MethodHandle" ∧ y_C_rule.cls ≠ "java/lang/invoke/VarHandle" ∧ (parseMethodDescriptor y_C_rule.desc).map (fun d => d.parameters.length) = some 4 := by decide +kernel
theorem hd_Q_init : y_Q_init.cls ≠ "java/lang/invoke/MethodHandle" ∧ y_Q_init.cls ≠ "java/lang/invoke/VarHandle" ∧ (parseMethodDescriptor y_Q_init.desc).map (fun d => d.parameters.length) = some 4 := by decide +kernel
theorem hd_L_cls : y_L_cls.cls ≠ "java/lang/invoke/MethodHandle" ∧ y_L_cls.cls ≠ "java/lang/invoke/VarHandle" ∧ (parseMethodDescriptor y_L_cls.desc).map (fun d => d.parameters.length) = some 4 := by decide +kernel
theorem hd_C_cls : y_C_cls.cls ≠ "java/lang/invoke/MethodHandle" ∧ y_C_cls.cls ≠ "java/lang/invoke/VarHandle" ∧ (parseMethodDescriptor y_C_cls.desc).map (fun d => d.parameters.length) = some 2 := by decide +kernel
theorem hd_L_run : y_L_run.cls ≠ "java/lang/invoke/MethodHandle" ∧ y_L_run.cls ≠ "java/lang/invoke/VarHandle" ∧ (parseMethodDescriptor y_L_run.desc).map (fun d => d.parameters.length) = some 4 := by decide +kernel
theorem hd_C_run : y_C_run.cls ≠ "java/lang/invoke/MethodHandle" ∧ y_C_run.cls ≠ "java/lang/invoke/VarHandle" ∧ (parseMethodDescriptor y_C_run.desc).map (fun d => d.parameters.length) = some 2 := by decide +kernel
theorem hd_Ma_floorMod : y_Ma_floorMod.cls ≠ "java/lang/invoke/MethodHandle" ∧ y_Ma_floorMod.cls ≠ "java/lang/invoke/VarHandle" ∧ (parseMethodDescriptor y_Ma_floorMod.desc).map (fun d => d.parameters.length) = some 2 := by decide +kernel
theorem hd_C_countNotWaived : y_C_countNotWaived.cls ≠ "java/lang/invoke/MethodHandle" ∧ y_C_countNotWaived.cls ≠ "java/lang/invoke/VarHandle" ∧ (parseMethodDescriptor y_C_countNotWaived.desc).map (fun d => d.parameters.length) = some 0 := by decide +kernel
theorem hd_F_markOf : y_F_markOf.cls ≠ "java/lang/invoke/MethodHandle" ∧ y_F_markOf.cls ≠ "java/lang/invoke/VarHandle" ∧ (parseMethodDescriptor y_F_markOf.desc).map (fun d => d.parameters.length) = some 1 := by decide +kernel
theorem hd_C_isWaived : y_C_isWaived.cls ≠ "java/lang/invoke/MethodHandle" ∧ y_C_isWaived.cls ≠ "java/lang/invoke/VarHandle" ∧ (parseMethodDescriptor y_C_isWaived.desc).map (fun d => d.parameters.length) = some 1 := by decide +kernel
theorem hd_L_violation : y_L_violation.cls ≠ "java/lang/invoke/MethodHandle" ∧ y_L_violation.cls ≠ "java/lang/invoke/VarHandle" ∧ (parseMethodDescriptor y_L_violation.desc).map (fun d => d.parameters.length) = some 4 := by decide +kernel
theorem hd_C_violation : y_C_violation.cls ≠ "java/lang/invoke/MethodHandle" ∧ y_C_violation.cls ≠ "java/lang/invoke/VarHandle" ∧ (parseMethodDescriptor y_C_violation.desc).map (fun d => d.parameters.length) = some 2 := by decide +kernel
theorem hd_C_requireFinding : y_C_requireFinding.cls ≠ "java/lang/invoke/MethodHandle" ∧ y_C_requireFinding.cls ≠ "java/lang/invoke/VarHandle" ∧ (parseMethodDescriptor y_C_requireFinding.desc).map (fun d => d.parameters.length) = some 1 := by decide +kernel
theorem hd_F_firstOf : y_F_firstOf.cls ≠ "java/lang/invoke/MethodHandle" ∧ y_F_firstOf.cls ≠ "java/lang/invoke/VarHandle" ∧ (parseMethodDescriptor y_F_firstOf.desc).map (fun d => d.parameters.length) = some 1 := by decide +kernel
theorem hd_F_secondOf : y_F_secondOf.cls ≠ "java/lang/invoke/MethodHandle" ∧ y_F_secondOf.cls ≠ "java/lang/invoke/VarHandle" ∧ (parseMethodDescriptor y_F_secondOf.desc).map (fun d => d.parameters.length) = some 1 := by decide +kernel
theorem hd_L_place : y_L_place.cls ≠ "java/lang/invoke/MethodHandle" ∧ y_L_place.cls ≠ "java/lang/invoke/VarHandle" ∧ (parseMethodDescriptor y_L_place.desc).map (fun d => d.parameters.length) = some 4 := by decide +kernel
theorem hd_C_place : y_C_place.cls ≠ "java/lang/invoke/MethodHandle" ∧ y_C_place.cls ≠ "java/lang/invoke/VarHandle" ∧ (parseMethodDescriptor y_C_place.desc).map (fun d => d.parameters.length) = some 2 := by decide +kernel
theorem hd_F_xOf : y_F_xOf.cls ≠ "java/lang/invoke/MethodHandle" ∧ y_F_xOf.cls ≠ "java/lang/invoke/VarHandle" ∧ (parseMethodDescriptor y_F_xOf.desc).map (fun d => d.parameters.length) = some 1 := by decide +kernel
theorem hd_F_yOf : y_F_yOf.cls ≠ "java/lang/invoke/MethodHandle" ∧ y_F_yOf.cls ≠ "java/lang/invoke/VarHandle" ∧ (parseMethodDescriptor y_F_yOf.desc).map (fun d => d.parameters.length) = some 1 := by decide +kernel
theorem hd_L_waive : y_L_waive.cls ≠ "java/lang/invoke/MethodHandle" ∧ y_L_waive.cls ≠ "java/lang/invoke/VarHandle" ∧ (parseMethodDescriptor y_L_waive.desc).map (fun d => d.parameters.length) = some 3 := by decide +kernel
theorem hd_C_waive : y_C_waive.cls ≠ "java/lang/invoke/MethodHandle" ∧ y_C_waive.cls ≠ "java/lang/invoke/VarHandle" ∧ (parseMethodDescriptor y_C_waive.desc).map (fun d => d.parameters.length) = some 1 := by decide +kernel
theorem hd_L_near : y_L_near.cls ≠ "java/lang/invoke/MethodHandle" ∧ y_L_near.cls ≠ "java/lang/invoke/VarHandle" ∧ (parseMethodDescriptor y_L_near.desc).map (fun d => d.parameters.length) = some 6 := by decide +kernel
theorem hd_C_near : y_C_near.cls ≠ "java/lang/invoke/MethodHandle" ∧ y_C_near.cls ≠ "java/lang/invoke/VarHandle" ∧ (parseMethodDescriptor y_C_near.desc).map (fun d => d.parameters.length) = some 4 := by decide +kernel
theorem hd_L_move : y_L_move.cls ≠ "java/lang/invoke/MethodHandle" ∧ y_L_move.cls ≠ "java/lang/invoke/VarHandle" ∧ (parseMethodDescriptor y_L_move.desc).map (fun d => d.parameters.length) = some 5 := by decide +kernel
theorem hd_C_move : y_C_move.cls ≠ "java/lang/invoke/MethodHandle" ∧ y_C_move.cls ≠ "java/lang/invoke/VarHandle" ∧ (parseMethodDescriptor y_C_move.desc).map (fun d => d.parameters.length) = some 3 := by decide +kernel
theorem hd_L_order : y_L_order.cls ≠ "java/lang/invoke/MethodHandle" ∧ y_L_order.cls ≠ "java/lang/invoke/VarHandle" ∧ (parseMethodDescriptor y_L_order.desc).map (fun d => d.parameters.length) = some 3 := by decide +kernel
theorem hd_C_order : y_C_order.cls ≠ "java/lang/invoke/MethodHandle" ∧ y_C_order.cls ≠ "java/lang/invoke/VarHandle" ∧ (parseMethodDescriptor y_C_order.desc).map (fun d => d.parameters.length) = some 1 := by decide +kernel
theorem hd_F_layerOf : y_F_layerOf.cls ≠ "java/lang/invoke/MethodHandle" ∧ y_F_layerOf.cls ≠ "java/lang/invoke/VarHandle" ∧ (parseMethodDescriptor y_F_layerOf.desc).map (fun d => d.parameters.length) = some 1 := by decide +kernel
theorem hd_L_strips : y_L_strips.cls ≠ "java/lang/invoke/MethodHandle" ∧ y_L_strips.cls ≠ "java/lang/invoke/VarHandle" ∧ (parseMethodDescriptor y_L_strips.desc).map (fun d => d.parameters.length) = some 3 := by decide +kernel
theorem hd_C_strips : y_C_strips.cls ≠ "java/lang/invoke/MethodHandle" ∧ y_C_strips.cls ≠ "java/lang/invoke/VarHandle" ∧ (parseMethodDescriptor y_C_strips.desc).map (fun d => d.parameters.length) = some 1 := by decide +kernel
theorem hd_M_init : y_M_init.cls ≠ "java/lang/invoke/MethodHandle" ∧ y_M_init.cls ≠ "java/lang/invoke/VarHandle" ∧ (parseMethodDescriptor y_M_init.desc).map (fun d => d.parameters.length) = some 1 := by decide +kernel
theorem hd_M_thrown : y_M_thrown.cls ≠ "java/lang/invoke/MethodHandle" ∧ y_M_thrown.cls ≠ "java/lang/invoke/VarHandle" ∧ (parseMethodDescriptor y_M_thrown.desc).map (fun d => d.parameters.length) = some 0 := by decide +kernel
theorem hd_M_shape : y_M_shape.cls ≠ "java/lang/invoke/MethodHandle" ∧ y_M_shape.cls ≠ "java/lang/invoke/VarHandle" ∧ (parseMethodDescriptor y_M_shape.desc).map (fun d => d.parameters.length) = some 3 := by decide +kernel
theorem hd_M_corner : y_M_corner.cls ≠ "java/lang/invoke/MethodHandle" ∧ y_M_corner.cls ≠ "java/lang/invoke/VarHandle" ∧ (parseMethodDescriptor y_M_corner.desc).map (fun d => d.parameters.length) = some 3 := by decide +kernel
theorem hd_M_isShape : y_M_isShape.cls ≠ "java/lang/invoke/MethodHandle" ∧ y_M_isShape.cls ≠ "java/lang/invoke/VarHandle" ∧ (parseMethodDescriptor y_M_isShape.desc).map (fun d => d.parameters.length) = some 1 := by decide +kernel
theorem hd_M_isPlace : y_M_isPlace.cls ≠ "java/lang/invoke/MethodHandle" ∧ y_M_isPlace.cls ≠ "java/lang/invoke/VarHandle" ∧ (parseMethodDescriptor y_M_isPlace.desc).map (fun d => d.parameters.length) = some 2 := by decide +kernel
theorem hd_M_closeShape : y_M_closeShape.cls ≠ "java/lang/invoke/MethodHandle" ∧ y_M_closeShape.cls ≠ "java/lang/invoke/VarHandle" ∧ (parseMethodDescriptor y_M_closeShape.desc).map (fun d => d.parameters.length) = some 2 := by decide +kernel
theorem hd_M_rule : y_M_rule.cls ≠ "java/lang/invoke/MethodHandle" ∧ y_M_rule.cls ≠ "java/lang/invoke/VarHandle" ∧ (parseMethodDescriptor y_M_rule.desc).map (fun d => d.parameters.length) = some 4 := by decide +kernel
theorem hd_M_isClass : y_M_isClass.cls ≠ "java/lang/invoke/MethodHandle" ∧ y_M_isClass.cls ≠ "java/lang/invoke/VarHandle" ∧ (parseMethodDescriptor y_M_isClass.desc).map (fun d => d.parameters.length) = some 1 := by decide +kernel
theorem hd_M_cls : y_M_cls.cls ≠ "java/lang/invoke/MethodHandle" ∧ y_M_cls.cls ≠ "java/lang/invoke/VarHandle" ∧ (parseMethodDescriptor y_M_cls.desc).map (fun d => d.parameters.length) = some 2 := by decide +kernel
theorem hd_M_move : y_M_move.cls ≠ "java/lang/invoke/MethodHandle" ∧ y_M_move.cls ≠ "java/lang/invoke/VarHandle" ∧ (parseMethodDescriptor y_M_move.desc).map (fun d => d.parameters.length) = some 3 := by decide +kernel
theorem hd_M_run : y_M_run.cls ≠ "java/lang/invoke/MethodHandle" ∧ y_M_run.cls ≠ "java/lang/invoke/VarHandle" ∧ (parseMethodDescriptor y_M_run.desc).map (fun d => d.parameters.length) = some 2 := by decide +kernel
theorem hd_M_find : y_M_find.cls ≠ "java/lang/invoke/MethodHandle" ∧ y_M_find.cls ≠ "java/lang/invoke/VarHandle" ∧ (parseMethodDescriptor y_M_find.desc).map (fun d => d.parameters.length) = some 0 := by decide +kernel
theorem hd_M_breaks : y_M_breaks.cls ≠ "java/lang/invoke/MethodHandle" ∧ y_M_breaks.cls ≠ "java/lang/invoke/VarHandle" ∧ (parseMethodDescriptor y_M_breaks.desc).map (fun d => d.parameters.length) = some 2 := by decide +kernel
theorem hd_M_isCopper : y_M_isCopper.cls ≠ "java/lang/invoke/MethodHandle" ∧ y_M_isCopper.cls ≠ "java/lang/invoke/VarHandle" ∧ (parseMethodDescriptor y_M_isCopper.desc).map (fun d => d.parameters.length) = some 1 := by decide +kernel
theorem hd_M_ruleFor : y_M_ruleFor.cls ≠ "java/lang/invoke/MethodHandle" ∧ y_M_ruleFor.cls ≠ "java/lang/invoke/VarHandle" ∧ (parseMethodDescriptor y_M_ruleFor.desc).map (fun d => d.parameters.length) = some 3 := by decide +kernel
theorem hd_M_isOf : y_M_isOf.cls ≠ "java/lang/invoke/MethodHandle" ∧ y_M_isOf.cls ≠ "java/lang/invoke/VarHandle" ∧ (parseMethodDescriptor y_M_isOf.desc).map (fun d => d.parameters.length) = some 2 := by decide +kernel
theorem hd_M_isRinged : y_M_isRinged.cls ≠ "java/lang/invoke/MethodHandle" ∧ y_M_isRinged.cls ≠ "java/lang/invoke/VarHandle" ∧ (parseMethodDescriptor y_M_isRinged.desc).map (fun d => d.parameters.length) = some 2 := by decide +kernel
theorem hd_M_haveOneNet : y_M_haveOneNet.cls ≠ "java/lang/invoke/MethodHandle" ∧ y_M_haveOneNet.cls ≠ "java/lang/invoke/VarHandle" ∧ (parseMethodDescriptor y_M_haveOneNet.desc).map (fun d => d.parameters.length) = some 2 := by decide +kernel
theorem hd_M_placeFromLine : y_M_placeFromLine.cls ≠ "java/lang/invoke/MethodHandle" ∧ y_M_placeFromLine.cls ≠ "java/lang/invoke/VarHandle" ∧ (parseMethodDescriptor y_M_placeFromLine.desc).map (fun d => d.parameters.length) = some 4 := by decide +kernel
theorem hd_M_pieces : y_M_pieces.cls ≠ "java/lang/invoke/MethodHandle" ∧ y_M_pieces.cls ≠ "java/lang/invoke/VarHandle" ∧ (parseMethodDescriptor y_M_pieces.desc).map (fun d => d.parameters.length) = some 1 := by decide +kernel
theorem hd_M_endOf : y_M_endOf.cls ≠ "java/lang/invoke/MethodHandle" ∧ y_M_endOf.cls ≠ "java/lang/invoke/VarHandle" ∧ (parseMethodDescriptor y_M_endOf.desc).map (fun d => d.parameters.length) = some 2 := by decide +kernel
theorem hd_M_fromPiece : y_M_fromPiece.cls ≠ "java/lang/invoke/MethodHandle" ∧ y_M_fromPiece.cls ≠ "java/lang/invoke/VarHandle" ∧ (parseMethodDescriptor y_M_fromPiece.desc).map (fun d => d.parameters.length) = some 7 := by decide +kernel
theorem hd_M_compare : y_M_compare.cls ≠ "java/lang/invoke/MethodHandle" ∧ y_M_compare.cls ≠ "java/lang/invoke/VarHandle" ∧ (parseMethodDescriptor y_M_compare.desc).map (fun d => d.parameters.length) = some 4 := by decide +kernel
theorem hd_M_upper : y_M_upper.cls ≠ "java/lang/invoke/MethodHandle" ∧ y_M_upper.cls ≠ "java/lang/invoke/VarHandle" ∧ (parseMethodDescriptor y_M_upper.desc).map (fun d => d.parameters.length) = some 2 := by decide +kernel
theorem hd_M_lower : y_M_lower.cls ≠ "java/lang/invoke/MethodHandle" ∧ y_M_lower.cls ≠ "java/lang/invoke/VarHandle" ∧ (parseMethodDescriptor y_M_lower.desc).map (fun d => d.parameters.length) = some 2 := by decide +kernel
theorem hd_M_isHeld : y_M_isHeld.cls ≠ "java/lang/invoke/MethodHandle" ∧ y_M_isHeld.cls ≠ "java/lang/invoke/VarHandle" ∧ (parseMethodDescriptor y_M_isHeld.desc).map (fun d => d.parameters.length) = some 2 := by decide +kernel
theorem hd_M_isAcute : y_M_isAcute.cls ≠ "java/lang/invoke/MethodHandle" ∧ y_M_isAcute.cls ≠ "java/lang/invoke/VarHandle" ∧ (parseMethodDescriptor y_M_isAcute.desc).map (fun d => d.parameters.length) = some 1 := by decide +kernel
theorem hd_M_put : y_M_put.cls ≠ "java/lang/invoke/MethodHandle" ∧ y_M_put.cls ≠ "java/lang/invoke/VarHandle" ∧ (parseMethodDescriptor y_M_put.desc).map (fun d => d.parameters.length) = some 3 := by decide +kernel
theorem hd_M_isBehind : y_M_isBehind.cls ≠ "java/lang/invoke/MethodHandle" ∧ y_M_isBehind.cls ≠ "java/lang/invoke/VarHandle" ∧ (parseMethodDescriptor y_M_isBehind.desc).map (fun d => d.parameters.length) = some 4 := by decide +kernel
theorem hd_M_rank : y_M_rank.cls ≠ "java/lang/invoke/MethodHandle" ∧ y_M_rank.cls ≠ "java/lang/invoke/VarHandle" ∧ (parseMethodDescriptor y_M_rank.desc).map (fun d => d.parameters.length) = some 2 := by decide +kernel
theorem hd_M_isFor : y_M_isFor.cls ≠ "java/lang/invoke/MethodHandle" ∧ y_M_isFor.cls ≠ "java/lang/invoke/VarHandle" ∧ (parseMethodDescriptor y_M_isFor.desc).map (fun d => d.parameters.length) = some 3 := by decide +kernel
theorem hd_M_isApart : y_M_isApart.cls ≠ "java/lang/invoke/MethodHandle" ∧ y_M_isApart.cls ≠ "java/lang/invoke/VarHandle" ∧ (parseMethodDescriptor y_M_isApart.desc).map (fun d => d.parameters.length) = some 3 := by decide +kernel
theorem hd_M_linesCross : y_M_linesCross.cls ≠ "java/lang/invoke/MethodHandle" ∧ y_M_linesCross.cls ≠ "java/lang/invoke/VarHandle" ∧ (parseMethodDescriptor y_M_linesCross.desc).map (fun d => d.parameters.length) = some 2 := by decide +kernel
theorem hd_M_side : y_M_side.cls ≠ "java/lang/invoke/MethodHandle" ∧ y_M_side.cls ≠ "java/lang/invoke/VarHandle" ∧ (parseMethodDescriptor y_M_side.desc).map (fun d => d.parameters.length) = some 6 := by decide +kernel
theorem hd_M_isWaived : y_M_isWaived.cls ≠ "java/lang/invoke/MethodHandle" ∧ y_M_isWaived.cls ≠ "java/lang/invoke/VarHandle" ∧ (parseMethodDescriptor y_M_isWaived.desc).map (fun d => d.parameters.length) = some 1 := by decide +kernel
theorem hd_M_violation : y_M_violation.cls ≠ "java/lang/invoke/MethodHandle" ∧ y_M_violation.cls ≠ "java/lang/invoke/VarHandle" ∧ (parseMethodDescriptor y_M_violation.desc).map (fun d => d.parameters.length) = some 2 := by decide +kernel
theorem hd_M_isViolation : y_M_isViolation.cls ≠ "java/lang/invoke/MethodHandle" ∧ y_M_isViolation.cls ≠ "java/lang/invoke/VarHandle" ∧ (parseMethodDescriptor y_M_isViolation.desc).map (fun d => d.parameters.length) = some 1 := by decide +kernel
theorem hd_M_place : y_M_place.cls ≠ "java/lang/invoke/MethodHandle" ∧ y_M_place.cls ≠ "java/lang/invoke/VarHandle" ∧ (parseMethodDescriptor y_M_place.desc).map (fun d => d.parameters.length) = some 2 := by decide +kernel
theorem hd_M_waive : y_M_waive.cls ≠ "java/lang/invoke/MethodHandle" ∧ y_M_waive.cls ≠ "java/lang/invoke/VarHandle" ∧ (parseMethodDescriptor y_M_waive.desc).map (fun d => d.parameters.length) = some 1 := by decide +kernel
theorem hd_M_near : y_M_near.cls ≠ "java/lang/invoke/MethodHandle" ∧ y_M_near.cls ≠ "java/lang/invoke/VarHandle" ∧ (parseMethodDescriptor y_M_near.desc).map (fun d => d.parameters.length) = some 4 := by decide +kernel
theorem hd_M_plain : y_M_plain.cls ≠ "java/lang/invoke/MethodHandle" ∧ y_M_plain.cls ≠ "java/lang/invoke/VarHandle" ∧ (parseMethodDescriptor y_M_plain.desc).map (fun d => d.parameters.length) = some 0 := by decide +kernel
theorem hd_M_kinds : y_M_kinds.cls ≠ "java/lang/invoke/MethodHandle" ∧ y_M_kinds.cls ≠ "java/lang/invoke/VarHandle" ∧ (parseMethodDescriptor y_M_kinds.desc).map (fun d => d.parameters.length) = some 0 := by decide +kernel
theorem hd_M_order : y_M_order.cls ≠ "java/lang/invoke/MethodHandle" ∧ y_M_order.cls ≠ "java/lang/invoke/VarHandle" ∧ (parseMethodDescriptor y_M_order.desc).map (fun d => d.parameters.length) = some 1 := by decide +kernel
theorem hd_M_strips : y_M_strips.cls ≠ "java/lang/invoke/MethodHandle" ∧ y_M_strips.cls ≠ "java/lang/invoke/VarHandle" ∧ (parseMethodDescriptor y_M_strips.desc).map (fun d => d.parameters.length) = some 1 := by decide +kernel
def j_upper (a b : Int64) : Int64 := ((a >>> ((30 : Int32).toInt64 &&& 63)) * (b >>> ((30 : Int32).toInt64 &&& 63))) + (((((a >>> ((30 : Int32).toInt64 &&& 63)) * (b &&& 1073741823)) + ((a &&& 1073741823) * (b >>> ((30 : Int32).toInt64 &&& 63)))) + (((a &&& 1073741823) * (b &&& 1073741823)) >>> ((30 : Int32).toInt64 &&& 63))) >>> ((30 : Int32).toInt64 &&& 63))
set_option maxHeartbeats 4000000 in
set_option maxRecDepth 100000 in
/-- upper -/
theorem c_S_upper (l : Launch) (g : EG) (ws : va_W) (a b : Int64)  : Rd l g ws y_S_upper prog_4_method_18_code 8 (some FieldType.long) 0 0 [.long a, .long b] (vp_Sl (fun r => r = j_upper a b)) := by
  refine Rd.start (by decide +kernel) (Nat.le_of_ble_eq_true rfl) ?_
  intro p e s m below meth c ls hx hb hr hml hown hG hlk hP hK hl
  have hl : lv_has ls 8 [(0, .long a), (2, .long b)] := hl
  have hown : s.vm.findClass "CleanChecks$Shape" = some m.cls := hown
  refine lv_lload_n hx hb d_S_upper_0 rfl (lv_at hl 0 rfl) ?_
  refine lv_ldc2 (v := 1073741823) hx hb hown (hG _ q_255) d_S_upper_1 ?_
  refine lv_land hx hb d_S_upper_4 ?_
  refine lv_lload_n hx hb d_S_upper_5 rfl (lv_at hl 1 rfl) ?_
  refine lv_ldc2 (v := 1073741823) hx hb hown (hG _ q_255) d_S_upper_6 ?_
  refine lv_land hx hb d_S_upper_9 ?_
  refine lv_lmul hx hb d_S_upper_10 ?_
  refine lv_lstore (lv' := [(4, .long ((a &&& 1073741823) * (b &&& 1073741823))), (0, .long a), (2, .long b)]) hx hb d_S_upper_11 hl (by decide) rfl (fun ls hl => ?_)
  refine lv_lload_n hx hb d_S_upper_13 rfl (lv_at hl 1 rfl) ?_
  refine lv_bipush (v := 30) hx hb d_S_upper_14 (by decide) ?_
  refine lv_lshr hx hb d_S_upper_16 rfl ?_
  refine lv_lload_n hx hb d_S_upper_17 rfl (lv_at hl 2 rfl) ?_
  refine lv_ldc2 (v := 1073741823) hx hb hown (hG _ q_255) d_S_upper_18 ?_
  refine lv_land hx hb d_S_upper_21 ?_
  refine lv_lmul hx hb d_S_upper_22 ?_
  refine lv_lload_n hx hb d_S_upper_23 rfl (lv_at hl 1 rfl) ?_
  refine lv_ldc2 (v := 1073741823) hx hb hown (hG _ q_255) d_S_upper_24 ?_
  refine lv_land hx hb d_S_upper_27 ?_
  refine lv_lload_n hx hb d_S_upper_28 rfl (lv_at hl 2 rfl) ?_
  refine lv_bipush (v := 30) hx hb d_S_upper_29 (by decide) ?_
  refine lv_lshr hx hb d_S_upper_31 rfl ?_
  refine lv_lmul hx hb d_S_upper_32 ?_
  refine lv_ladd hx hb d_S_upper_33 ?_
  refine lv_lload hx hb d_S_upper_34 (lv_at hl 0 rfl) ?_
  refine lv_bipush (v := 30) hx hb d_S_upper_36 (by decide) ?_
  refine lv_lshr hx hb d_S_upper_38 rfl ?_
  refine lv_ladd hx hb d_S_upper_39 ?_
  refine lv_lstore (lv' := [(6, .long ((((a >>> ((30 : Int32).toInt64 &&& 63)) * (b &&& 1073741823)) + ((a &&& 1073741823) * (b >>> ((30 : Int32).toInt64 &&& 63)))) + (((a &&& 1073741823) * (b &&& 1073741823)) >>> ((30 : Int32).toInt64 &&& 63)))), (4, .long ((a &&& 1073741823) * (b &&& 1073741823))), (0, .long a), (2, .long b)]) hx hb d_S_upper_40 hl (by decide) rfl (fun ls hl => ?_)
  refine lv_lload_n hx hb d_S_upper_42 rfl (lv_at hl 2 rfl) ?_
  refine lv_bipush (v := 30) hx hb d_S_upper_43 (by decide) ?_
  refine lv_lshr hx hb d_S_upper_45 rfl ?_
  refine lv_lload_n hx hb d_S_upper_46 rfl (lv_at hl 3 rfl) ?_
  refine lv_bipush (v := 30) hx hb d_S_upper_47 (by decide) ?_
  refine lv_lshr hx hb d_S_upper_49 rfl ?_
  refine lv_lmul hx hb d_S_upper_50 ?_
  refine lv_lload hx hb d_S_upper_51 (lv_at hl 0 rfl) ?_
  refine lv_bipush (v := 30) hx hb d_S_upper_53 (by decide) ?_
  refine lv_lshr hx hb d_S_upper_55 rfl ?_
  refine lv_ladd hx hb d_S_upper_56 ?_
  exact rd_lret hx hb hr hlk rfl d_S_upper_57
def j_lower (a b : Int64) : Int64 := (a * b) &&& 1152921504606846975
set_option maxHeartbeats 4000000 in
set_option maxRecDepth 100000 in
/-- lower -/
theorem c_S_lower (l : Launch) (g : EG) (ws : va_W) (a b : Int64)  : Rd l g ws y_S_lower prog_4_method_19_code 4 (some FieldType.long) 0 0 [.long a, .long b] (vp_Sl (fun r => r = j_lower a b)) := by
  refine Rd.start (by decide +kernel) (Nat.le_of_ble_eq_true rfl) ?_
  intro p e s m below meth c ls hx hb hr hml hown hG hlk hP hK hl
  have hl : lv_has ls 4 [(0, .long a), (2, .long b)] := hl
  have hown : s.vm.findClass "CleanChecks$Shape" = some m.cls := hown
  refine lv_lload_n hx hb d_S_lower_0 rfl (lv_at hl 0 rfl) ?_
  refine lv_lload_n hx hb d_S_lower_1 rfl (lv_at hl 1 rfl) ?_
  refine lv_lmul hx hb d_S_lower_2 ?_
  refine lv_ldc2 (v := 1152921504606846975) hx hb hown (hG _ q_259) d_S_lower_3 ?_
  refine lv_land hx hb d_S_lower_6 ?_
  exact rd_lret hx hb hr hlk rfl d_S_lower_7
def j_compare (a b : Int64) : Int32 := (if a < b then (-1) else (if a = b then 0 else 1))
set_option maxHeartbeats 4000000 in
set_option maxRecDepth 100000 in
/-- compare -/
theorem c_Lo_compare (l : Launch) (g : EG) (ws : va_W) (a b : Int64)  : Rd l g ws y_Lo_compare prog_15_method_42_code 4 (some FieldType.int) 0 0 [.long a, .long b] (vp_Si (fun r => r = j_compare a b)) := by
  refine Rd.start (by decide +kernel) (Nat.le_of_ble_eq_true rfl) ?_
  intro p e s m below meth c ls hx hb hr hml hown hG hlk hP hK hl
  have hl : lv_has ls 4 [(0, .long a), (2, .long b)] := hl
  have hown : s.vm.findClass "java/lang/Long" = some m.cls := hown
  refine lv_lload_n hx hb d_Lo_compare_0 rfl (lv_at hl 0 rfl) ?_
  refine lv_lload_n hx hb d_Lo_compare_1 rfl (lv_at hl 1 rfl) ?_
  refine lz_if_ge (tgt := 10) hx hb d_Lo_compare_2 d_Lo_compare_3 (by decide) (fun c_1 => ?_) (fun c_1 => ?_)
  · refine lv_lload_n hx hb d_Lo_compare_10 rfl (lv_at hl 0 rfl) ?_
    refine lv_lload_n hx hb d_Lo_compare_11 rfl (lv_at hl 1 rfl) ?_
    refine lz_if_ne (tgt := 20) hx hb d_Lo_compare_12 d_Lo_compare_13 (by decide) (fun c_2 => ?_) (fun c_2 => ?_)
    · refine lv_iconst (v := 1) hx hb d_Lo_compare_20 (by decide) ?_
      exact rd_iret hx hb hr hlk (by unfold j_compare; simp only [if_neg c_1, if_neg c_2]) d_Lo_compare_21
    · refine lv_iconst (v := 0) hx hb d_Lo_compare_16 (by decide) ?_
      refine lv_goto (tgt := 21) hx hb d_Lo_compare_17 (by decide) ?_
      exact rd_iret hx hb hr hlk (by unfold j_compare; simp only [if_neg c_1, if_pos c_2]) d_Lo_compare_21
  · refine lv_iconst (v := (-1)) hx hb d_Lo_compare_6 (by decide) ?_
    refine lv_goto (tgt := 21) hx hb d_Lo_compare_7 (by decide) ?_
    exact rd_iret hx hb hr hlk (by unfold j_compare; simp only [if_pos c_1]) d_Lo_compare_21
def j_max (a b : Int32) : Int32 := (if a < b then b else a)
set_option maxHeartbeats 4000000 in
set_option maxRecDepth 100000 in
/-- max -/
theorem c_Ma_max (l : Launch) (g : EG) (ws : va_W) (a b : Int32)  : Rd l g ws y_Ma_max prog_16_method_65_code 2 (some FieldType.int) 0 0 [.int a, .int b] (vp_Si (fun r => r = j_max a b)) := by
  refine Rd.start (by decide +kernel) (Nat.le_of_ble_eq_true rfl) ?_
  intro p e s m below meth c ls hx hb hr hml hown hG hlk hP hK hl
  have hl : lv_has ls 2 [(0, .int a), (1, .int b)] := hl
  have hown : s.vm.findClass "java/lang/Math" = some m.cls := hown
  refine lv_iload_n hx hb d_Ma_max_0 rfl (lv_at hl 0 rfl) ?_
  refine lv_iload_n hx hb d_Ma_max_1 rfl (lv_at hl 1 rfl) ?_
  refine lv_icmp_lt (tgt := 9) hx hb d_Ma_max_2 (by decide) (fun c_1 => ?_) (fun c_1 => ?_)
  · refine lv_iload_n hx hb d_Ma_max_9 rfl (lv_at hl 1 rfl) ?_
    exact rd_iret hx hb hr hlk (by unfold j_max; simp only [if_pos c_1]) d_Ma_max_10
  · refine lv_iload_n hx hb d_Ma_max_5 rfl (lv_at hl 0 rfl) ?_
    refine lv_goto (tgt := 10) hx hb d_Ma_max_6 (by decide) ?_
    exact rd_iret hx hb hr hlk (by unfold j_max; simp only [if_neg c_1]) d_Ma_max_10
def j_min (a b : Int32) : Int32 := (if b < a then b else a)
set_option maxHeartbeats 4000000 in
set_option maxRecDepth 100000 in
/-- min -/
theorem c_Ma_min (l : Launch) (g : EG) (ws : va_W) (a b : Int32)  : Rd l g ws y_Ma_min prog_16_method_69_code 2 (some FieldType.int) 0 0 [.int a, .int b] (vp_Si (fun r => r = j_min a b)) := by
  refine Rd.start (by decide +kernel) (Nat.le_of_ble_eq_true rfl) ?_
  intro p e s m below meth c ls hx hb hr hml hown hG hlk hP hK hl
  have hl : lv_has ls 2 [(0, .int a), (1, .int b)] := hl
  have hown : s.vm.findClass "java/lang/Math" = some m.cls := hown
  refine lv_iload_n hx hb d_Ma_min_0 rfl (lv_at hl 0 rfl) ?_
  refine lv_iload_n hx hb d_Ma_min_1 rfl (lv_at hl 1 rfl) ?_
  refine lv_icmp_gt (tgt := 9) hx hb d_Ma_min_2 (by decide) (fun c_1 => ?_) (fun c_1 => ?_)
  · refine lv_iload_n hx hb d_Ma_min_9 rfl (lv_at hl 1 rfl) ?_
    exact rd_iret hx hb hr hlk (by unfold j_min; simp only [if_pos c_1]) d_Ma_min_10
  · refine lv_iload_n hx hb d_Ma_min_5 rfl (lv_at hl 0 rfl) ?_
    refine lv_goto (tgt := 10) hx hb d_Ma_min_6 (by decide) ?_
    exact rd_iret hx hb hr hlk (by unfold j_min; simp only [if_neg c_1]) d_Ma_min_10
def j_abs (a : Int64) : Int64 := (if a < 0 then -a else a)
set_option maxHeartbeats 4000000 in
set_option maxRecDepth 100000 in
/-- abs -/
theorem c_Ma_abs (l : Launch) (g : EG) (ws : va_W) (a : Int64)  : Rd l g ws y_Ma_abs prog_16_method_61_code 2 (some FieldType.long) 0 0 [.long a] (vp_Sl (fun r => r = j_abs a)) := by
  refine Rd.start (by decide +kernel) (Nat.le_of_ble_eq_true rfl) ?_
  intro p e s m below meth c ls hx hb hr hml hown hG hlk hP hK hl
  have hl : lv_has ls 2 [(0, .long a)] := hl
  have hown : s.vm.findClass "java/lang/Math" = some m.cls := hown
  refine lv_lload_n hx hb d_Ma_abs_0 rfl (lv_at hl 0 rfl) ?_
  refine lv_lconst (v := 0) hx hb d_Ma_abs_1 (by decide) ?_
  refine lz_if_ge (tgt := 11) hx hb d_Ma_abs_2 d_Ma_abs_3 (by decide) (fun c_1 => ?_) (fun c_1 => ?_)
  · refine lv_lload_n hx hb d_Ma_abs_11 rfl (lv_at hl 0 rfl) ?_
    exact rd_lret hx hb hr hlk (by unfold j_abs; simp only [if_neg c_1]) d_Ma_abs_12
  · refine lv_lload_n hx hb d_Ma_abs_6 rfl (lv_at hl 0 rfl) ?_
    refine lv_lneg hx hb d_Ma_abs_7 ?_
    refine lv_goto (tgt := 12) hx hb d_Ma_abs_8 (by decide) ?_
    exact rd_lret hx hb hr hlk (by unfold j_abs; simp only [if_pos c_1]) d_Ma_abs_12
def j_isPlace (a b : Int64) : Int32 := (if a < (-1000000) then 0 else (if a ≤ 1000000 then (if b < (-1000000) then 0 else (if b ≤ 1000000 then 1 else 0)) else 0))
set_option maxHeartbeats 4000000 in
set_option maxRecDepth 100000 in
/-- isPlace -/
theorem c_C_isPlace (l : Launch) (g : EG) (ws : va_W) (a b : Int64)  : Rd l g ws y_C_isPlace prog_1_method_20_code 4 (some FieldType.boolean) 0 0 [.long a, .long b] (vp_Si (fun r => r = j_isPlace a b)) := by
  refine Rd.start (by decide +kernel) (Nat.le_of_ble_eq_true rfl) ?_
  intro p e s m below meth c ls hx hb hr hml hown hG hlk hP hK hl
  have hl : lv_has ls 4 [(0, .long a), (2, .long b)] := hl
  have hown : s.vm.findClass "CleanChecks" = some m.cls := hown
  refine lv_lload_n hx hb d_C_isPlace_0 rfl (lv_at hl 0 rfl) ?_
  refine lv_ldc2 (v := (-1000000)) hx hb hown (hG _ q_576) d_C_isPlace_1 ?_
  refine lz_if_lt (tgt := 36) hx hb d_C_isPlace_4 d_C_isPlace_5 (by decide) (fun c_1 => ?_) (fun c_1 => ?_)
  · refine lv_iconst (v := 0) hx hb d_C_isPlace_36 (by decide) ?_
    exact rd_zret hx hb hr hlk (Or.inl rfl) (by unfold j_isPlace; simp only [if_pos c_1]) d_C_isPlace_37
  · refine lv_lload_n hx hb d_C_isPlace_8 rfl (lv_at hl 0 rfl) ?_
    refine lv_ldc2 (v := 1000000) hx hb hown (hG _ q_577) d_C_isPlace_9 ?_
    refine lz_if_gt (tgt := 36) hx hb d_C_isPlace_12 d_C_isPlace_13 (by decide) (fun c_2 => ?_) (fun c_2 => ?_)
    · refine lv_iconst (v := 0) hx hb d_C_isPlace_36 (by decide) ?_
      exact rd_zret hx hb hr hlk (Or.inl rfl) (by unfold j_isPlace; simp only [if_neg c_1, if_neg c_2]) d_C_isPlace_37
    · refine lv_lload_n hx hb d_C_isPlace_16 rfl (lv_at hl 1 rfl) ?_
      refine lv_ldc2 (v := (-1000000)) hx hb hown (hG _ q_576) d_C_isPlace_17 ?_
      refine lz_if_lt (tgt := 36) hx hb d_C_isPlace_20 d_C_isPlace_21 (by decide) (fun c_3 => ?_) (fun c_3 => ?_)
      · refine lv_iconst (v := 0) hx hb d_C_isPlace_36 (by decide) ?_
        exact rd_zret hx hb hr hlk (Or.inl rfl) (by unfold j_isPlace; simp only [if_neg c_1, if_pos c_2, if_pos c_3]) d_C_isPlace_37
      · refine lv_lload_n hx hb d_C_isPlace_24 rfl (lv_at hl 1 rfl) ?_
        refine lv_ldc2 (v := 1000000) hx hb hown (hG _ q_577) d_C_isPlace_25 ?_
        refine lz_if_gt (tgt := 36) hx hb d_C_isPlace_28 d_C_isPlace_29 (by decide) (fun c_4 => ?_) (fun c_4 => ?_)
        · refine lv_iconst (v := 0) hx hb d_C_isPlace_36 (by decide) ?_
          exact rd_zret hx hb hr hlk (Or.inl rfl) (by unfold j_isPlace; simp only [if_neg c_1, if_pos c_2, if_neg c_3, if_neg c_4]) d_C_isPlace_37
        · refine lv_iconst (v := 1) hx hb d_C_isPlace_32 (by decide) ?_
          refine lv_goto (tgt := 37) hx hb d_C_isPlace_33 (by decide) ?_
          exact rd_zret hx hb hr hlk (Or.inr rfl) (by unfold j_isPlace; simp only [if_neg c_1, if_pos c_2, if_neg c_3, if_pos c_4]) d_C_isPlace_37
def j_isClosed (u : Sh) : Int32 := (if sRad u ≤ 0 then 0 else 1)
set_option maxHeartbeats 4000000 in
set_option maxRecDepth 100000 in
theorem c_S_isClosed (l : Launch) (g : EG) (ws : va_W) (u : Sh) (hu : Sin g ws u) : Rd l g ws y_S_isClosed prog_4_method_2_code 1 (some FieldType.boolean) 0 0 [.ref (sA u)] (vp_Si (fun r => r = j_isClosed u)) := by
  refine Rd.start (by decide +kernel) (Nat.le_of_ble_eq_true rfl) ?_
  intro p e s m below meth c ls hx hb hr hml hown hG hlk hP hK hl
  have hl : lv_has ls 1 [(0, .ref (sA u))] := hl
  have hown : s.vm.findClass "CleanChecks$Shape" = some m.cls := hown
  refine lv_aload_n hx hb d_S_isClosed_0 rfl (lv_at hl 0 rfl) ?_
  refine rget hx hb hG hown hK hP hu.1 rfl in_S 8 (by decide) q_467 rfl rfl d_S_isClosed_1 ?_
  refine lv_lconst (v := 0) hx hb d_S_isClosed_4 (by decide) ?_
  refine lz_if_le (tgt := 13) hx hb d_S_isClosed_5 d_S_isClosed_6 (by decide) (fun c_1 => ?_) (fun c_1 => ?_)
  · refine lv_iconst (v := 0) hx hb d_S_isClosed_13 (by decide) ?_
    exact rd_zret hx hb hr hlk (Or.inl rfl) (by unfold j_isClosed; simp only [if_pos c_1]) d_S_isClosed_14
  · refine lv_iconst (v := 1) hx hb d_S_isClosed_9 (by decide) ?_
    refine lv_goto (tgt := 14) hx hb d_S_isClosed_10 (by decide) ?_
    exact rd_zret hx hb hr hlk (Or.inr rfl) (by unfold j_isClosed; simp only [if_neg c_1]) d_S_isClosed_14
def j_isCopper (u : Sh) : Int32 := (if sKind u = 0 then 1 else (if sKind u = 1 then 1 else 0))
set_option maxHeartbeats 4000000 in
set_option maxRecDepth 100000 in
theorem c_S_isCopper (l : Launch) (g : EG) (ws : va_W) (u : Sh) (hu : Sin g ws u) : Rd l g ws y_S_isCopper prog_4_method_3_code 1 (some FieldType.boolean) 0 0 [.ref (sA u)] (vp_Si (fun r => r = j_isCopper u)) := by
  refine Rd.start (by decide +kernel) (Nat.le_of_ble_eq_true rfl) ?_
  intro p e s m below meth c ls hx hb hr hml hown hG hlk hP hK hl
  have hl : lv_has ls 1 [(0, .ref (sA u))] := hl
  have hown : s.vm.findClass "CleanChecks$Shape" = some m.cls := hown
  refine lv_aload_n hx hb d_S_isCopper_0 rfl (lv_at hl 0 rfl) ?_
  refine rget hx hb hG hown hK hP hu.1 rfl in_S 3 (by decide) q_456 rfl rfl d_S_isCopper_1 ?_
  refine lv_if_eq (tgt := 15) hx hb d_S_isCopper_4 (by decide) (fun c_1 => ?_) (fun c_1 => ?_)
  · refine lv_iconst (v := 1) hx hb d_S_isCopper_15 (by decide) ?_
    refine lv_goto (tgt := 20) hx hb d_S_isCopper_16 (by decide) ?_
    exact rd_zret hx hb hr hlk (Or.inr rfl) (by unfold j_isCopper; simp only [if_pos c_1]) d_S_isCopper_20
  · refine lv_aload_n hx hb d_S_isCopper_7 rfl (lv_at hl 0 rfl) ?_
    refine rget hx hb hG hown hK hP hu.1 rfl in_S 3 (by decide) q_456 rfl rfl d_S_isCopper_8 ?_
    refine lv_iconst (v := 1) hx hb d_S_isCopper_11 (by decide) ?_
    refine lv_icmp_ne (tgt := 19) hx hb d_S_isCopper_12 (by decide) (fun c_2 => ?_) (fun c_2 => ?_)
    · refine lv_iconst (v := 0) hx hb d_S_isCopper_19 (by decide) ?_
      exact rd_zret hx hb hr hlk (Or.inl rfl) (by unfold j_isCopper; simp only [if_neg c_1, if_neg c_2]) d_S_isCopper_20
    · refine lv_iconst (v := 1) hx hb d_S_isCopper_15 (by decide) ?_
      refine lv_goto (tgt := 20) hx hb d_S_isCopper_16 (by decide) ?_
      exact rd_zret hx hb hr hlk (Or.inr rfl) (by unfold j_isCopper; simp only [if_neg c_1, if_pos c_2]) d_S_isCopper_20
def j_sharesNet (u v : Sh) : Int32 := (if sNet u = (-1) then 0 else (if sNet u = sNet v then 1 else 0))
set_option maxHeartbeats 4000000 in
set_option maxRecDepth 100000 in
theorem c_S_sharesNet (l : Launch) (g : EG) (ws : va_W) (u v : Sh) (hu : Sin g ws u) (hv : Sin g ws v) : Rd l g ws y_S_sharesNet prog_4_method_4_code 2 (some FieldType.boolean) 0 0 [.ref (sA u), .ref (sA v)] (vp_Si (fun r => r = j_sharesNet u v)) := by
  refine Rd.start (by decide +kernel) (Nat.le_of_ble_eq_true rfl) ?_
  intro p e s m below meth c ls hx hb hr hml hown hG hlk hP hK hl
  have hl : lv_has ls 2 [(0, .ref (sA u)), (1, .ref (sA v))] := hl
  have hown : s.vm.findClass "CleanChecks$Shape" = some m.cls := hown
  refine lv_aload_n hx hb d_S_sharesNet_0 rfl (lv_at hl 0 rfl) ?_
  refine rget hx hb hG hown hK hP hu.1 rfl in_S 1 (by decide) q_452 rfl rfl d_S_sharesNet_1 ?_
  refine lv_iconst (v := (-1)) hx hb d_S_sharesNet_4 (by decide) ?_
  refine lv_icmp_eq (tgt := 23) hx hb d_S_sharesNet_5 (by decide) (fun c_1 => ?_) (fun c_1 => ?_)
  · refine lv_iconst (v := 0) hx hb d_S_sharesNet_23 (by decide) ?_
    exact rd_zret hx hb hr hlk (Or.inl rfl) (by unfold j_sharesNet; simp only [if_pos c_1]) d_S_sharesNet_24
  · refine lv_aload_n hx hb d_S_sharesNet_8 rfl (lv_at hl 0 rfl) ?_
    refine rget hx hb hG hown hK hP hu.1 rfl in_S 1 (by decide) q_452 rfl rfl d_S_sharesNet_9 ?_
    refine lv_aload_n hx hb d_S_sharesNet_12 rfl (lv_at hl 1 rfl) ?_
    refine rget hx hb hG hown hK hP hv.1 rfl in_S 1 (by decide) q_452 rfl rfl d_S_sharesNet_13 ?_
    refine lv_icmp_ne (tgt := 23) hx hb d_S_sharesNet_16 (by decide) (fun c_2 => ?_) (fun c_2 => ?_)
    · refine lv_iconst (v := 0) hx hb d_S_sharesNet_23 (by decide) ?_
      exact rd_zret hx hb hr hlk (Or.inl rfl) (by unfold j_sharesNet; simp only [if_neg c_1, if_neg c_2]) d_S_sharesNet_24
    · refine lv_iconst (v := 1) hx hb d_S_sharesNet_19 (by decide) ?_
      refine lv_goto (tgt := 24) hx hb d_S_sharesNet_20 (by decide) ?_
      exact rd_zret hx hb hr hlk (Or.inr rfl) (by unfold j_sharesNet; simp only [if_neg c_1, if_pos c_2]) d_S_sharesNet_24
def j_stripAmong (u : Sh) (n : Int32) : Int32 := ((((sX u 0) + 1000000) * n.toInt64) / 2000001).toInt32
set_option maxHeartbeats 4000000 in
set_option maxRecDepth 100000 in
theorem c_S_stripAmong (l : Launch) (g : EG) (ws : va_W) (u : Sh) (n : Int32) (hu : Sin g ws u) : Rd l g ws y_S_stripAmong prog_4_method_5_code 2 (some FieldType.int) 0 0 [.ref (sA u), .int n] (vp_Si (fun r => r = j_stripAmong u n)) := by
  refine Rd.start (by decide +kernel) (Nat.le_of_ble_eq_true rfl) ?_
  intro p e s m below meth c ls hx hb hr hml hown hG hlk hP hK hl
  have hl : lv_has ls 2 [(0, .ref (sA u)), (1, .int n)] := hl
  have hown : s.vm.findClass "CleanChecks$Shape" = some m.cls := hown
  refine lv_aload_n hx hb d_S_stripAmong_0 rfl (lv_at hl 0 rfl) ?_
  refine rget hx hb hG hown hK hP hu.1 rfl in_S 4 (by decide) q_458 rfl rfl d_S_stripAmong_1 ?_
  refine lv_iconst (v := 0) hx hb d_S_stripAmong_4 (by decide) ?_
  refine rlald (k := 0) hx hb hK hP hu.2.1 rfl (by decide) (by decide) d_S_stripAmong_5 ?_
  refine lv_ldc2 (v := 1000000) hx hb hown (hG _ q_190) d_S_stripAmong_6 ?_
  refine lv_ladd hx hb d_S_stripAmong_9 ?_
  refine lv_iload_n hx hb d_S_stripAmong_10 rfl (lv_at hl 1 rfl) ?_
  refine lv_i2l hx hb d_S_stripAmong_11 rfl ?_
  refine lv_lmul hx hb d_S_stripAmong_12 ?_
  refine lv_ldc2 (v := 2000001) hx hb hown (hG _ q_191) d_S_stripAmong_13 ?_
  refine lv_ldiv hx hb d_S_stripAmong_16 (by decide) ?_
  refine lv_l2i hx hb d_S_stripAmong_17 rfl ?_
  exact rd_iret hx hb hr hlk rfl d_S_stripAmong_18
def j_squareTo (u : Sh) (k : Nat) (x y : Int64) : Int64 := ((x - (sX u k)) * (x - (sX u k))) + ((y - (sY u k)) * (y - (sY u k)))
set_option maxHeartbeats 4000000 in
set_option maxRecDepth 100000 in
theorem c_S_squareTo (l : Launch) (g : EG) (ws : va_W) (u : Sh) (k : Nat) (x y : Int64) (hu : Sin g ws u) (hk : k < 8) : Rd l g ws y_S_squareTo prog_4_method_17_code 6 (some FieldType.long) 0 0 [.ref (sA u), .int (nI k), .long x, .long y] (vp_Sl (fun r => r = j_squareTo u k x y)) := by
  refine Rd.start (by decide +kernel) (Nat.le_of_ble_eq_true rfl) ?_
  intro p e s m below meth c ls hx hb hr hml hown hG hlk hP hK hl
  have hl : lv_has ls 6 [(0, .ref (sA u)), (1, .int (nI k)), (2, .long x), (4, .long y)] := hl
  have hown : s.vm.findClass "CleanChecks$Shape" = some m.cls := hown
  refine lv_lload_n hx hb d_S_squareTo_0 rfl (lv_at hl 2 rfl) ?_
  refine lv_aload_n hx hb d_S_squareTo_1 rfl (lv_at hl 0 rfl) ?_
  refine rget hx hb hG hown hK hP hu.1 rfl in_S 4 (by decide) q_458 rfl rfl d_S_squareTo_2 ?_
  refine lv_iload_n hx hb d_S_squareTo_5 rfl (lv_at hl 1 rfl) ?_
  refine rlald (k := k) hx hb hK hP hu.2.1 rfl (by omega) (by decide) d_S_squareTo_6 ?_
  refine lv_lsub hx hb d_S_squareTo_7 ?_
  refine lv_lload_n hx hb d_S_squareTo_8 rfl (lv_at hl 2 rfl) ?_
  refine lv_aload_n hx hb d_S_squareTo_9 rfl (lv_at hl 0 rfl) ?_
  refine rget hx hb hG hown hK hP hu.1 rfl in_S 4 (by decide) q_458 rfl rfl d_S_squareTo_10 ?_
  refine lv_iload_n hx hb d_S_squareTo_13 rfl (lv_at hl 1 rfl) ?_
  refine rlald (k := k) hx hb hK hP hu.2.1 rfl (by omega) (by decide) d_S_squareTo_14 ?_
  refine lv_lsub hx hb d_S_squareTo_15 ?_
  refine lv_lmul hx hb d_S_squareTo_16 ?_
  refine lv_lload hx hb d_S_squareTo_17 (lv_at hl 3 rfl) ?_
  refine lv_aload_n hx hb d_S_squareTo_19 rfl (lv_at hl 0 rfl) ?_
  refine rget hx hb hG hown hK hP hu.1 rfl in_S 5 (by decide) q_461 rfl rfl d_S_squareTo_20 ?_
  refine lv_iload_n hx hb d_S_squareTo_23 rfl (lv_at hl 1 rfl) ?_
  refine rlald (k := k) hx hb hK hP hu.2.2 rfl (by omega) (by decide) d_S_squareTo_24 ?_
  refine lv_lsub hx hb d_S_squareTo_25 ?_
  refine lv_lload hx hb d_S_squareTo_26 (lv_at hl 3 rfl) ?_
  refine lv_aload_n hx hb d_S_squareTo_28 rfl (lv_at hl 0 rfl) ?_
  refine rget hx hb hG hown hK hP hu.1 rfl in_S 5 (by decide) q_461 rfl rfl d_S_squareTo_29 ?_
  refine lv_iload_n hx hb d_S_squareTo_32 rfl (lv_at hl 1 rfl) ?_
  refine rlald (k := k) hx hb hK hP hu.2.2 rfl (by omega) (by decide) d_S_squareTo_33 ?_
  refine lv_lsub hx hb d_S_squareTo_34 ?_
  refine lv_lmul hx hb d_S_squareTo_35 ?_
  refine lv_ladd hx hb d_S_squareTo_36 ?_
  exact rd_lret hx hb hr hlk rfl d_S_squareTo_37
def j_turn (u : Sh) (k : Nat) (x y : Int64) : Int64 := (((sX u (k + 1)) - (sX u k)) * (y - (sY u k))) - (((sY u (k + 1)) - (sY u k)) * (x - (sX u k)))
set_option maxHeartbeats 4000000 in
set_option maxRecDepth 100000 in
theorem c_S_turn (l : Launch) (g : EG) (ws : va_W) (u : Sh) (k : Nat) (x y : Int64) (hu : Sin g ws u) (hk : k + 1 < 8) : Rd l g ws y_S_turn prog_4_method_15_code 10 (some FieldType.long) 0 0 [.ref (sA u), .int (nI k), .long x, .long y] (vp_Sl (fun r => r = j_turn u k x y)) := by
  refine Rd.start (by decide +kernel) (Nat.le_of_ble_eq_true rfl) ?_
  intro p e s m below meth c ls hx hb hr hml hown hG hlk hP hK hl
  have hl : lv_has ls 10 [(0, .ref (sA u)), (1, .int (nI k)), (2, .long x), (4, .long y)] := hl
  have hown : s.vm.findClass "CleanChecks$Shape" = some m.cls := hown
  refine lv_aload_n hx hb d_S_turn_0 rfl (lv_at hl 0 rfl) ?_
  refine rget hx hb hG hown hK hP hu.1 rfl in_S 4 (by decide) q_458 rfl rfl d_S_turn_1 ?_
  refine lv_iload_n hx hb d_S_turn_4 rfl (lv_at hl 1 rfl) ?_
  refine lv_iconst (v := 1) hx hb d_S_turn_5 (by decide) ?_
  refine lv_iadd hx hb d_S_turn_6 ?_
  refine rlald (k := k + 1) hx hb hK hP hu.2.1 (nI_1 k) (by omega) (by decide) d_S_turn_7 ?_
  refine lv_aload_n hx hb d_S_turn_8 rfl (lv_at hl 0 rfl) ?_
  refine rget hx hb hG hown hK hP hu.1 rfl in_S 4 (by decide) q_458 rfl rfl d_S_turn_9 ?_
  refine lv_iload_n hx hb d_S_turn_12 rfl (lv_at hl 1 rfl) ?_
  refine rlald (k := k) hx hb hK hP hu.2.1 rfl (by omega) (by decide) d_S_turn_13 ?_
  refine lv_lsub hx hb d_S_turn_14 ?_
  refine lv_lstore (lv' := [(6, .long ((sX u (k + 1)) - (sX u k))), (0, .ref (sA u)), (1, .int (nI k)), (2, .long x), (4, .long y)]) hx hb d_S_turn_15 hl (by decide) rfl (fun ls hl => ?_)
  refine lv_aload_n hx hb d_S_turn_17 rfl (lv_at hl 1 rfl) ?_
  refine rget hx hb hG hown hK hP hu.1 rfl in_S 5 (by decide) q_461 rfl rfl d_S_turn_18 ?_
  refine lv_iload_n hx hb d_S_turn_21 rfl (lv_at hl 2 rfl) ?_
  refine lv_iconst (v := 1) hx hb d_S_turn_22 (by decide) ?_
  refine lv_iadd hx hb d_S_turn_23 ?_
  refine rlald (k := k + 1) hx hb hK hP hu.2.2 (nI_1 k) (by omega) (by decide) d_S_turn_24 ?_
  refine lv_aload_n hx hb d_S_turn_25 rfl (lv_at hl 1 rfl) ?_
  refine rget hx hb hG hown hK hP hu.1 rfl in_S 5 (by decide) q_461 rfl rfl d_S_turn_26 ?_
  refine lv_iload_n hx hb d_S_turn_29 rfl (lv_at hl 2 rfl) ?_
  refine rlald (k := k) hx hb hK hP hu.2.2 rfl (by omega) (by decide) d_S_turn_30 ?_
  refine lv_lsub hx hb d_S_turn_31 ?_
  refine lv_lstore (lv' := [(8, .long ((sY u (k + 1)) - (sY u k))), (6, .long ((sX u (k + 1)) - (sX u k))), (0, .ref (sA u)), (1, .int (nI k)), (2, .long x), (4, .long y)]) hx hb d_S_turn_32 hl (by decide) rfl (fun ls hl => ?_)
  refine lv_lload hx hb d_S_turn_34 (lv_at hl 1 rfl) ?_
  refine lv_lload hx hb d_S_turn_36 (lv_at hl 5 rfl) ?_
  refine lv_aload_n hx hb d_S_turn_38 rfl (lv_at hl 2 rfl) ?_
  refine rget hx hb hG hown hK hP hu.1 rfl in_S 5 (by decide) q_461 rfl rfl d_S_turn_39 ?_
  refine lv_iload_n hx hb d_S_turn_42 rfl (lv_at hl 3 rfl) ?_
  refine rlald (k := k) hx hb hK hP hu.2.2 rfl (by omega) (by decide) d_S_turn_43 ?_
  refine lv_lsub hx hb d_S_turn_44 ?_
  refine lv_lmul hx hb d_S_turn_45 ?_
  refine lv_lload hx hb d_S_turn_46 (lv_at hl 0 rfl) ?_
  refine lv_lload_n hx hb d_S_turn_48 rfl (lv_at hl 4 rfl) ?_
  refine lv_aload_n hx hb d_S_turn_49 rfl (lv_at hl 2 rfl) ?_
  refine rget hx hb hG hown hK hP hu.1 rfl in_S 4 (by decide) q_458 rfl rfl d_S_turn_50 ?_
  refine lv_iload_n hx hb d_S_turn_53 rfl (lv_at hl 3 rfl) ?_
  refine rlald (k := k) hx hb hK hP hu.2.1 rfl (by omega) (by decide) d_S_turn_54 ?_
  refine lv_lsub hx hb d_S_turn_55 ?_
  refine lv_lmul hx hb d_S_turn_56 ?_
  refine lv_lsub hx hb d_S_turn_57 ?_
  exact rd_lret hx hb hr hlk rfl d_S_turn_58
def j_pieces (u : Sh) : Int32 := j_max 1 ((nI (sNc u)) - 1)
set_option maxHeartbeats 4000000 in
set_option maxRecDepth 100000 in
theorem c_S_pieces (l : Launch) (g : EG) (ws : va_W) (u : Sh) (hu : Sin g ws u) : Rd l g ws y_S_pieces prog_4_method_14_code 1 (some FieldType.int) 1 21 [.ref (sA u)] (vp_Si (fun r => r = j_pieces u)) := by
  refine Rd.start (by decide +kernel) (Nat.le_of_ble_eq_true rfl) ?_
  intro p e s m below meth c ls hx hb hr hml hown hG hlk hP hK hl
  have hl : lv_has ls 1 [(0, .ref (sA u))] := hl
  have hown : s.vm.findClass "CleanChecks$Shape" = some m.cls := hown
  refine lv_iconst (v := 1) hx hb d_S_pieces_0 (by decide) ?_
  refine lv_aload_n hx hb d_S_pieces_1 rfl (lv_at hl 0 rfl) ?_
  refine rget hx hb hG hown hK hP hu.1 rfl in_S 6 (by decide) q_465 rfl rfl d_S_pieces_2 ?_
  refine lv_iconst (v := 1) hx hb d_S_pieces_5 (by decide) ?_
  refine lv_isub hx hb d_S_pieces_6 ?_
  refine rdSi (As := [.int 1, .int ((nI (sNc u)) - 1)]) (rest := []) hx hb (hml.trans hl.1.symm) hG hown hK hP (c_Ma_max l g ws 1 ((nI (sNc u)) - 1)) q_83 q_49 q_237 q_82 hd_Ma_max ⟨Nat.le_of_ble_eq_true rfl, Nat.le_of_ble_eq_true rfl⟩ ⟨Nat.le_of_ble_eq_true rfl, Nat.le_of_ble_eq_true rfl⟩ rfl rfl (Nat.le_of_ble_eq_true rfl) d_S_pieces_7 (fun r r_1 => ?_)
  subst r_1
  exact rd_iret hx hb hr hlk rfl d_S_pieces_10
def j_takesFirst (u : Ru) (n : Int32) : Int32 := (if ruC u = (-1) then 1 else (if ruC u = n then 1 else 0))
set_option maxHeartbeats 4000000 in
set_option maxRecDepth 100000 in
theorem c_Q_takesFirst (l : Launch) (g : EG) (ws : va_W) (u : Ru) (n : Int32) (hu : Rin ws u) : Rd l g ws y_Q_takesFirst prog_3_method_2_code 2 (some FieldType.boolean) 0 0 [.ref (ruA u), .int n] (vp_Si (fun r => r = j_takesFirst u n)) := by
  refine Rd.start (by decide +kernel) (Nat.le_of_ble_eq_true rfl) ?_
  intro p e s m below meth c ls hx hb hr hml hown hG hlk hP hK hl
  have hl : lv_has ls 2 [(0, .ref (ruA u)), (1, .int n)] := hl
  have hown : s.vm.findClass "CleanChecks$Rule" = some m.cls := hown
  refine lv_aload_n hx hb d_Q_takesFirst_0 rfl (lv_at hl 0 rfl) ?_
  refine rget hx hb hG hown hK hP hu rfl in_Q 1 (by decide) q_608 rfl rfl d_Q_takesFirst_1 ?_
  refine lv_iconst (v := (-1)) hx hb d_Q_takesFirst_4 (by decide) ?_
  refine lv_icmp_eq (tgt := 16) hx hb d_Q_takesFirst_5 (by decide) (fun c_1 => ?_) (fun c_1 => ?_)
  · refine lv_iconst (v := 1) hx hb d_Q_takesFirst_16 (by decide) ?_
    refine lv_goto (tgt := 21) hx hb d_Q_takesFirst_17 (by decide) ?_
    exact rd_zret hx hb hr hlk (Or.inr rfl) (by unfold j_takesFirst; simp only [if_pos c_1]) d_Q_takesFirst_21
  · refine lv_aload_n hx hb d_Q_takesFirst_8 rfl (lv_at hl 0 rfl) ?_
    refine rget hx hb hG hown hK hP hu rfl in_Q 1 (by decide) q_608 rfl rfl d_Q_takesFirst_9 ?_
    refine lv_iload_n hx hb d_Q_takesFirst_12 rfl (lv_at hl 1 rfl) ?_
    refine lv_icmp_ne (tgt := 20) hx hb d_Q_takesFirst_13 (by decide) (fun c_2 => ?_) (fun c_2 => ?_)
    · refine lv_iconst (v := 0) hx hb d_Q_takesFirst_20 (by decide) ?_
      exact rd_zret hx hb hr hlk (Or.inl rfl) (by unfold j_takesFirst; simp only [if_neg c_1, if_neg c_2]) d_Q_takesFirst_21
    · refine lv_iconst (v := 1) hx hb d_Q_takesFirst_16 (by decide) ?_
      refine lv_goto (tgt := 21) hx hb d_Q_takesFirst_17 (by decide) ?_
      exact rd_zret hx hb hr hlk (Or.inr rfl) (by unfold j_takesFirst; simp only [if_neg c_1, if_pos c_2]) d_Q_takesFirst_21
def j_takesSecond (u : Ru) (n : Int32) : Int32 := (if ruD u = (-1) then 1 else (if ruD u = n then 1 else 0))
set_option maxHeartbeats 4000000 in
set_option maxRecDepth 100000 in
theorem c_Q_takesSecond (l : Launch) (g : EG) (ws : va_W) (u : Ru) (n : Int32) (hu : Rin ws u) : Rd l g ws y_Q_takesSecond prog_3_method_4_code 2 (some FieldType.boolean) 0 0 [.ref (ruA u), .int n] (vp_Si (fun r => r = j_takesSecond u n)) := by
  refine Rd.start (by decide +kernel) (Nat.le_of_ble_eq_true rfl) ?_
  intro p e s m below meth c ls hx hb hr hml hown hG hlk hP hK hl
  have hl : lv_has ls 2 [(0, .ref (ruA u)), (1, .int n)] := hl
  have hown : s.vm.findClass "CleanChecks$Rule" = some m.cls := hown
  refine lv_aload_n hx hb d_Q_takesSecond_0 rfl (lv_at hl 0 rfl) ?_
  refine rget hx hb hG hown hK hP hu rfl in_Q 2 (by decide) q_609 rfl rfl d_Q_takesSecond_1 ?_
  refine lv_iconst (v := (-1)) hx hb d_Q_takesSecond_4 (by decide) ?_
  refine lv_icmp_eq (tgt := 16) hx hb d_Q_takesSecond_5 (by decide) (fun c_1 => ?_) (fun c_1 => ?_)
  · refine lv_iconst (v := 1) hx hb d_Q_takesSecond_16 (by decide) ?_
    refine lv_goto (tgt := 21) hx hb d_Q_takesSecond_17 (by decide) ?_
    exact rd_zret hx hb hr hlk (Or.inr rfl) (by unfold j_takesSecond; simp only [if_pos c_1]) d_Q_takesSecond_21
  · refine lv_aload_n hx hb d_Q_takesSecond_8 rfl (lv_at hl 0 rfl) ?_
    refine rget hx hb hG hown hK hP hu rfl in_Q 2 (by decide) q_609 rfl rfl d_Q_takesSecond_9 ?_
    refine lv_iload_n hx hb d_Q_takesSecond_12 rfl (lv_at hl 1 rfl) ?_
    refine lv_icmp_ne (tgt := 20) hx hb d_Q_takesSecond_13 (by decide) (fun c_2 => ?_) (fun c_2 => ?_)
    · refine lv_iconst (v := 0) hx hb d_Q_takesSecond_20 (by decide) ?_
      exact rd_zret hx hb hr hlk (Or.inl rfl) (by unfold j_takesSecond; simp only [if_neg c_1, if_neg c_2]) d_Q_takesSecond_21
    · refine lv_iconst (v := 1) hx hb d_Q_takesSecond_16 (by decide) ?_
      refine lv_goto (tgt := 21) hx hb d_Q_takesSecond_17 (by decide) ?_
      exact rd_zret hx hb hr hlk (Or.inr rfl) (by unfold j_takesSecond; simp only [if_neg c_1, if_pos c_2]) d_Q_takesSecond_21
def j_takesPair (u : Ru) (n k : Int32) : Int32 := (if j_takesFirst u n = 0 then (if j_takesFirst u k = 0 then 0 else (if j_takesSecond u n = 0 then 0 else 1)) else (if j_takesSecond u k = 0 then (if j_takesFirst u k = 0 then 0 else (if j_takesSecond u n = 0 then 0 else 1)) else 1))
set_option maxHeartbeats 4000000 in
set_option maxRecDepth 100000 in
theorem c_Q_takesPair (l : Launch) (g : EG) (ws : va_W) (u : Ru) (n k : Int32) (hu : Rin ws u) : Rd l g ws y_Q_takesPair prog_3_method_3_code 3 (some FieldType.boolean) 1 21 [.ref (ruA u), .int n, .int k] (vp_Si (fun r => r = j_takesPair u n k)) := by
  refine Rd.start (by decide +kernel) (Nat.le_of_ble_eq_true rfl) ?_
  intro p e s m below meth c ls hx hb hr hml hown hG hlk hP hK hl
  have hl : lv_has ls 3 [(0, .ref (ruA u)), (1, .int n), (2, .int k)] := hl
  have hown : s.vm.findClass "CleanChecks$Rule" = some m.cls := hown
  refine lv_aload_n hx hb d_Q_takesPair_0 rfl (lv_at hl 0 rfl) ?_
  refine lv_iload_n hx hb d_Q_takesPair_1 rfl (lv_at hl 1 rfl) ?_
  refine rdVi (As := [.int n]) (rest := []) hx hb (hml.trans hl.1.symm) hG hown hK hP hu rfl hP (c_Q_takesFirst l g ws u n hu) q_209 q_67 q_292 q_207 q_208 hd_Q_takesFirst ⟨Nat.le_of_ble_eq_true rfl, Nat.le_of_ble_eq_true rfl⟩ ⟨Nat.le_of_ble_eq_true rfl, Nat.le_of_ble_eq_true rfl⟩ rfl rfl (Nat.le_of_ble_eq_true rfl) d_Q_takesPair_2 (fun r r_1 => ?_)
  subst r_1
  refine lv_if_eq (tgt := 16) hx hb d_Q_takesPair_5 (by decide) (fun c_2 => ?_) (fun c_2 => ?_)
  · refine lv_aload_n hx hb d_Q_takesPair_16 rfl (lv_at hl 0 rfl) ?_
    refine lv_iload_n hx hb d_Q_takesPair_17 rfl (lv_at hl 2 rfl) ?_
    refine rdVi (As := [.int k]) (rest := []) hx hb (hml.trans hl.1.symm) hG hown hK hP hu rfl hP (c_Q_takesFirst l g ws u k hu) q_209 q_67 q_292 q_207 q_208 hd_Q_takesFirst ⟨Nat.le_of_ble_eq_true rfl, Nat.le_of_ble_eq_true rfl⟩ ⟨Nat.le_of_ble_eq_true rfl, Nat.le_of_ble_eq_true rfl⟩ rfl rfl (Nat.le_of_ble_eq_true rfl) d_Q_takesPair_18 (fun r r_3 => ?_)
    subst r_3
    refine lv_if_eq (tgt := 36) hx hb d_Q_takesPair_21 (by decide) (fun c_4 => ?_) (fun c_4 => ?_)
    · refine lv_iconst (v := 0) hx hb d_Q_takesPair_36 (by decide) ?_
      exact rd_zret hx hb hr hlk (Or.inl rfl) (by unfold j_takesPair; simp only [if_pos c_2, if_pos c_4]) d_Q_takesPair_37
    · refine lv_aload_n hx hb d_Q_takesPair_24 rfl (lv_at hl 0 rfl) ?_
      refine lv_iload_n hx hb d_Q_takesPair_25 rfl (lv_at hl 1 rfl) ?_
      refine rdVi (As := [.int n]) (rest := []) hx hb (hml.trans hl.1.symm) hG hown hK hP hu rfl hP (c_Q_takesSecond l g ws u n hu) q_297 q_67 q_293 q_295 q_12 hd_Q_takesSecond ⟨Nat.le_of_ble_eq_true rfl, Nat.le_of_ble_eq_true rfl⟩ ⟨Nat.le_of_ble_eq_true rfl, Nat.le_of_ble_eq_true rfl⟩ rfl rfl (Nat.le_of_ble_eq_true rfl) d_Q_takesPair_26 (fun r r_5 => ?_)
      subst r_5
      refine lv_if_eq (tgt := 36) hx hb d_Q_takesPair_29 (by decide) (fun c_6 => ?_) (fun c_6 => ?_)
      · refine lv_iconst (v := 0) hx hb d_Q_takesPair_36 (by decide) ?_
        exact rd_zret hx hb hr hlk (Or.inl rfl) (by unfold j_takesPair; simp only [if_pos c_2, if_neg c_4, if_pos c_6]) d_Q_takesPair_37
      · refine lv_iconst (v := 1) hx hb d_Q_takesPair_32 (by decide) ?_
        refine lv_goto (tgt := 37) hx hb d_Q_takesPair_33 (by decide) ?_
        exact rd_zret hx hb hr hlk (Or.inr rfl) (by unfold j_takesPair; simp only [if_pos c_2, if_neg c_4, if_neg c_6]) d_Q_takesPair_37
  · refine lv_aload_n hx hb d_Q_takesPair_8 rfl (lv_at hl 0 rfl) ?_
    refine lv_iload_n hx hb d_Q_takesPair_9 rfl (lv_at hl 2 rfl) ?_
    refine rdVi (As := [.int k]) (rest := []) hx hb (hml.trans hl.1.symm) hG hown hK hP hu rfl hP (c_Q_takesSecond l g ws u k hu) q_297 q_67 q_293 q_295 q_12 hd_Q_takesSecond ⟨Nat.le_of_ble_eq_true rfl, Nat.le_of_ble_eq_true rfl⟩ ⟨Nat.le_of_ble_eq_true rfl, Nat.le_of_ble_eq_true rfl⟩ rfl rfl (Nat.le_of_ble_eq_true rfl) d_Q_takesPair_10 (fun r r_7 => ?_)
    subst r_7
    refine lv_if_ne (tgt := 32) hx hb d_Q_takesPair_13 (by decide) (fun c_8 => ?_) (fun c_8 => ?_)
    · refine lv_iconst (v := 1) hx hb d_Q_takesPair_32 (by decide) ?_
      refine lv_goto (tgt := 37) hx hb d_Q_takesPair_33 (by decide) ?_
      exact rd_zret hx hb hr hlk (Or.inr rfl) (by unfold j_takesPair; simp only [if_neg c_2, if_neg c_8]) d_Q_takesPair_37
    · refine lv_aload_n hx hb d_Q_takesPair_16 rfl (lv_at hl 0 rfl) ?_
      refine lv_iload_n hx hb d_Q_takesPair_17 rfl (lv_at hl 2 rfl) ?_
      refine rdVi (As := [.int k]) (rest := []) hx hb (hml.trans hl.1.symm) hG hown hK hP hu rfl hP (c_Q_takesFirst l g ws u k hu) q_209 q_67 q_292 q_207 q_208 hd_Q_takesFirst ⟨Nat.le_of_ble_eq_true rfl, Nat.le_of_ble_eq_true rfl⟩ ⟨Nat.le_of_ble_eq_true rfl, Nat.le_of_ble_eq_true rfl⟩ rfl rfl (Nat.le_of_ble_eq_true rfl) d_Q_takesPair_18 (fun r r_9 => ?_)
      subst r_9
      refine lv_if_eq (tgt := 36) hx hb d_Q_takesPair_21 (by decide) (fun c_10 => ?_) (fun c_10 => ?_)
      · refine lv_iconst (v := 0) hx hb d_Q_takesPair_36 (by decide) ?_
        exact rd_zret hx hb hr hlk (Or.inl rfl) (by unfold j_takesPair; simp only [if_neg c_2, if_pos c_8, if_pos c_10]) d_Q_takesPair_37
      · refine lv_aload_n hx hb d_Q_takesPair_24 rfl (lv_at hl 0 rfl) ?_
        refine lv_iload_n hx hb d_Q_takesPair_25 rfl (lv_at hl 1 rfl) ?_
        refine rdVi (As := [.int n]) (rest := []) hx hb (hml.trans hl.1.symm) hG hown hK hP hu rfl hP (c_Q_takesSecond l g ws u n hu) q_297 q_67 q_293 q_295 q_12 hd_Q_takesSecond ⟨Nat.le_of_ble_eq_true rfl, Nat.le_of_ble_eq_true rfl⟩ ⟨Nat.le_of_ble_eq_true rfl, Nat.le_of_ble_eq_true rfl⟩ rfl rfl (Nat.le_of_ble_eq_true rfl) d_Q_takesPair_26 (fun r r_11 => ?_)
        subst r_11
        refine lv_if_eq (tgt := 36) hx hb d_Q_takesPair_29 (by decide) (fun c_12 => ?_) (fun c_12 => ?_)
        · refine lv_iconst (v := 0) hx hb d_Q_takesPair_36 (by decide) ?_
          exact rd_zret hx hb hr hlk (Or.inl rfl) (by unfold j_takesPair; simp only [if_neg c_2, if_pos c_8, if_neg c_10, if_pos c_12]) d_Q_takesPair_37
        · refine lv_iconst (v := 1) hx hb d_Q_takesPair_32 (by decide) ?_
          refine lv_goto (tgt := 37) hx hb d_Q_takesPair_33 (by decide) ?_
          exact rd_zret hx hb hr hlk (Or.inr rfl) (by unfold j_takesPair; simp only [if_neg c_2, if_pos c_8, if_neg c_10, if_neg c_12]) d_Q_takesPair_37
def j_part (u : Fi) (k : Nat) (p0 p1 : Int32) : Int64 := ((fK u k) >>> (p0.toInt64 &&& 63)) &&& (((1 : Int64) <<< (p1.toInt64 &&& 63)) - 1)
set_option maxHeartbeats 4000000 in
set_option maxRecDepth 100000 in
theorem c_F_part (l : Launch) (g : EG) (ws : va_W) (u : Fi) (k : Nat) (p0 p1 : Int32) (hu : Fin' g ws u) (hk : k < 1950) : Rd l g ws y_F_part prog_2_method_14_code 4 (some FieldType.long) 0 0 [.ref (fA u), .int (nI k), .int p0, .int p1] (vp_Sl (fun r => r = j_part u k p0 p1)) := by
  refine Rd.start (by decide +kernel) (Nat.le_of_ble_eq_true rfl) ?_
  intro p e s m below meth c ls hx hb hr hml hown hG hlk hP hK hl
  have hl : lv_has ls 4 [(0, .ref (fA u)), (1, .int (nI k)), (2, .int p0), (3, .int p1)] := hl
  have hown : s.vm.findClass "CleanChecks$Findings" = some m.cls := hown
  refine lv_aload_n hx hb d_F_part_0 rfl (lv_at hl 0 rfl) ?_
  refine rget hx hb hG hown hK hP hu.1 rfl in_F 0 (by decide) q_116 rfl rfl d_F_part_1 ?_
  refine lv_iload_n hx hb d_F_part_4 rfl (lv_at hl 1 rfl) ?_
  refine rlald (k := k) hx hb hK hP hu.2 rfl hk (by decide) d_F_part_5 ?_
  refine lv_iload_n hx hb d_F_part_6 rfl (lv_at hl 2 rfl) ?_
  refine lv_lshr hx hb d_F_part_7 rfl ?_
  refine lv_lconst (v := 1) hx hb d_F_part_8 (by decide) ?_
  refine lv_iload_n hx hb d_F_part_9 rfl (lv_at hl 3 rfl) ?_
  refine lv_lshl hx hb d_F_part_10 rfl ?_
  refine lv_lconst (v := 1) hx hb d_F_part_11 (by decide) ?_
  refine lv_lsub hx hb d_F_part_12 ?_
  refine lv_land hx hb d_F_part_13 ?_
  exact rd_lret hx hb hr hlk rfl d_F_part_14
def j_kindOf (u : Fi) (k : Nat) : Int32 := (j_part u k 12 3).toInt32
set_option maxHeartbeats 4000000 in
set_option maxRecDepth 100000 in
theorem c_F_kindOf (l : Launch) (g : EG) (ws : va_W) (u : Fi) (k : Nat) (hu : Fin' g ws u) (hk : k < 1950) : Rd l g ws y_F_kindOf prog_2_method_7_code 2 (some FieldType.int) 1 23 [.ref (fA u), .int (nI k)] (vp_Si (fun r => r = j_kindOf u k)) := by
  refine Rd.start (by decide +kernel) (Nat.le_of_ble_eq_true rfl) ?_
  intro p e s m below meth c ls hx hb hr hml hown hG hlk hP hK hl
  have hl : lv_has ls 2 [(0, .ref (fA u)), (1, .int (nI k))] := hl
  have hown : s.vm.findClass "CleanChecks$Findings" = some m.cls := hown
  refine lv_aload_n hx hb d_F_kindOf_0 rfl (lv_at hl 0 rfl) ?_
  refine lv_iload_n hx hb d_F_kindOf_1 rfl (lv_at hl 1 rfl) ?_
  refine lv_bipush (v := 12) hx hb d_F_kindOf_2 (by decide) ?_
  refine lv_iconst (v := 3) hx hb d_F_kindOf_4 (by decide) ?_
  refine rdVl (As := [.int (nI k), .int 12, .int 3]) (rest := []) hx hb (hml.trans hl.1.symm) hG hown hK hP hu.1 rfl hP (c_F_part l g ws u k 12 3 hu hk) q_341 q_53 q_338 q_340 q_18 hd_F_part ⟨Nat.le_of_ble_eq_true rfl, Nat.le_of_ble_eq_true rfl⟩ ⟨Nat.le_of_ble_eq_true rfl, Nat.le_of_ble_eq_true rfl⟩ rfl rfl (Nat.le_of_ble_eq_true rfl) d_F_kindOf_5 (fun r r_1 => ?_)
  subst r_1
  refine lv_l2i hx hb d_F_kindOf_8 rfl ?_
  exact rd_iret hx hb hr hlk rfl d_F_kindOf_9
def j_firstOf (u : Fi) (k : Nat) : Int32 := (j_part u k 6 6).toInt32
set_option maxHeartbeats 4000000 in
set_option maxRecDepth 100000 in
theorem c_F_firstOf (l : Launch) (g : EG) (ws : va_W) (u : Fi) (k : Nat) (hu : Fin' g ws u) (hk : k < 1950) : Rd l g ws y_F_firstOf prog_2_method_8_code 2 (some FieldType.int) 1 23 [.ref (fA u), .int (nI k)] (vp_Si (fun r => r = j_firstOf u k)) := by
  refine Rd.start (by decide +kernel) (Nat.le_of_ble_eq_true rfl) ?_
  intro p e s m below meth c ls hx hb hr hml hown hG hlk hP hK hl
  have hl : lv_has ls 2 [(0, .ref (fA u)), (1, .int (nI k))] := hl
  have hown : s.vm.findClass "CleanChecks$Findings" = some m.cls := hown
  refine lv_aload_n hx hb d_F_firstOf_0 rfl (lv_at hl 0 rfl) ?_
  refine lv_iload_n hx hb d_F_firstOf_1 rfl (lv_at hl 1 rfl) ?_
  refine lv_bipush (v := 6) hx hb d_F_firstOf_2 (by decide) ?_
  refine lv_bipush (v := 6) hx hb d_F_firstOf_4 (by decide) ?_
  refine rdVl (As := [.int (nI k), .int 6, .int 6]) (rest := []) hx hb (hml.trans hl.1.symm) hG hown hK hP hu.1 rfl hP (c_F_part l g ws u k 6 6 hu hk) q_341 q_53 q_338 q_340 q_18 hd_F_part ⟨Nat.le_of_ble_eq_true rfl, Nat.le_of_ble_eq_true rfl⟩ ⟨Nat.le_of_ble_eq_true rfl, Nat.le_of_ble_eq_true rfl⟩ rfl rfl (Nat.le_of_ble_eq_true rfl) d_F_firstOf_6 (fun r r_1 => ?_)
  subst r_1
  refine lv_l2i hx hb d_F_firstOf_9 rfl ?_
  exact rd_iret hx hb hr hlk rfl d_F_firstOf_10
def j_secondOf (u : Fi) (k : Nat) : Int32 := ((j_part u k 0 6).toInt32) + (-1)
set_option maxHeartbeats 4000000 in
set_option maxRecDepth 100000 in
theorem c_F_secondOf (l : Launch) (g : EG) (ws : va_W) (u : Fi) (k : Nat) (hu : Fin' g ws u) (hk : k < 1950) : Rd l g ws y_F_secondOf prog_2_method_9_code 2 (some FieldType.int) 1 23 [.ref (fA u), .int (nI k)] (vp_Si (fun r => r = j_secondOf u k)) := by
  refine Rd.start (by decide +kernel) (Nat.le_of_ble_eq_true rfl) ?_
  intro p e s m below meth c ls hx hb hr hml hown hG hlk hP hK hl
  have hl : lv_has ls 2 [(0, .ref (fA u)), (1, .int (nI k))] := hl
  have hown : s.vm.findClass "CleanChecks$Findings" = some m.cls := hown
  refine lv_aload_n hx hb d_F_secondOf_0 rfl (lv_at hl 0 rfl) ?_
  refine lv_iload_n hx hb d_F_secondOf_1 rfl (lv_at hl 1 rfl) ?_
  refine lv_iconst (v := 0) hx hb d_F_secondOf_2 (by decide) ?_
  refine lv_bipush (v := 6) hx hb d_F_secondOf_3 (by decide) ?_
  refine rdVl (As := [.int (nI k), .int 0, .int 6]) (rest := []) hx hb (hml.trans hl.1.symm) hG hown hK hP hu.1 rfl hP (c_F_part l g ws u k 0 6 hu hk) q_341 q_53 q_338 q_340 q_18 hd_F_part ⟨Nat.le_of_ble_eq_true rfl, Nat.le_of_ble_eq_true rfl⟩ ⟨Nat.le_of_ble_eq_true rfl, Nat.le_of_ble_eq_true rfl⟩ rfl rfl (Nat.le_of_ble_eq_true rfl) d_F_secondOf_5 (fun r r_1 => ?_)
  subst r_1
  refine lv_l2i hx hb d_F_secondOf_8 rfl ?_
  refine lv_iconst (v := (-1)) hx hb d_F_secondOf_9 (by decide) ?_
  refine lv_iadd hx hb d_F_secondOf_10 ?_
  exact rd_iret hx hb hr hlk rfl d_F_secondOf_11
def j_markOf (u : Fi) (k : Nat) : Int32 := (j_part u k 0 15).toInt32
set_option maxHeartbeats 4000000 in
set_option maxRecDepth 100000 in
theorem c_F_markOf (l : Launch) (g : EG) (ws : va_W) (u : Fi) (k : Nat) (hu : Fin' g ws u) (hk : k < 1950) : Rd l g ws y_F_markOf prog_2_method_10_code 2 (some FieldType.int) 1 23 [.ref (fA u), .int (nI k)] (vp_Si (fun r => r = j_markOf u k)) := by
  refine Rd.start (by decide +kernel) (Nat.le_of_ble_eq_true rfl) ?_
  intro p e s m below meth c ls hx hb hr hml hown hG hlk hP hK hl
  have hl : lv_has ls 2 [(0, .ref (fA u)), (1, .int (nI k))] := hl
  have hown : s.vm.findClass "CleanChecks$Findings" = some m.cls := hown
  refine lv_aload_n hx hb d_F_markOf_0 rfl (lv_at hl 0 rfl) ?_
  refine lv_iload_n hx hb d_F_markOf_1 rfl (lv_at hl 1 rfl) ?_
  refine lv_iconst (v := 0) hx hb d_F_markOf_2 (by decide) ?_
  refine lv_bipush (v := 15) hx hb d_F_markOf_3 (by decide) ?_
  refine rdVl (As := [.int (nI k), .int 0, .int 15]) (rest := []) hx hb (hml.trans hl.1.symm) hG hown hK hP hu.1 rfl hP (c_F_part l g ws u k 0 15 hu hk) q_341 q_53 q_338 q_340 q_18 hd_F_part ⟨Nat.le_of_ble_eq_true rfl, Nat.le_of_ble_eq_true rfl⟩ ⟨Nat.le_of_ble_eq_true rfl, Nat.le_of_ble_eq_true rfl⟩ rfl rfl (Nat.le_of_ble_eq_true rfl) d_F_markOf_5 (fun r r_1 => ?_)
  subst r_1
  refine lv_l2i hx hb d_F_markOf_8 rfl ?_
  exact rd_iret hx hb hr hlk rfl d_F_markOf_9
def j_xOf (u : Fi) (k : Nat) : Int64 := (j_part u k 36 21) - 1000000
set_option maxHeartbeats 4000000 in
set_option maxRecDepth 100000 in
theorem c_F_xOf (l : Launch) (g : EG) (ws : va_W) (u : Fi) (k : Nat) (hu : Fin' g ws u) (hk : k < 1950) : Rd l g ws y_F_xOf prog_2_method_11_code 2 (some FieldType.long) 1 23 [.ref (fA u), .int (nI k)] (vp_Sl (fun r => r = j_xOf u k)) := by
  refine Rd.start (by decide +kernel) (Nat.le_of_ble_eq_true rfl) ?_
  intro p e s m below meth c ls hx hb hr hml hown hG hlk hP hK hl
  have hl : lv_has ls 2 [(0, .ref (fA u)), (1, .int (nI k))] := hl
  have hown : s.vm.findClass "CleanChecks$Findings" = some m.cls := hown
  refine lv_aload_n hx hb d_F_xOf_0 rfl (lv_at hl 0 rfl) ?_
  refine lv_iload_n hx hb d_F_xOf_1 rfl (lv_at hl 1 rfl) ?_
  refine lv_bipush (v := 36) hx hb d_F_xOf_2 (by decide) ?_
  refine lv_bipush (v := 21) hx hb d_F_xOf_4 (by decide) ?_
  refine rdVl (As := [.int (nI k), .int 36, .int 21]) (rest := []) hx hb (hml.trans hl.1.symm) hG hown hK hP hu.1 rfl hP (c_F_part l g ws u k 36 21 hu hk) q_341 q_53 q_338 q_340 q_18 hd_F_part ⟨Nat.le_of_ble_eq_true rfl, Nat.le_of_ble_eq_true rfl⟩ ⟨Nat.le_of_ble_eq_true rfl, Nat.le_of_ble_eq_true rfl⟩ rfl rfl (Nat.le_of_ble_eq_true rfl) d_F_xOf_6 (fun r r_1 => ?_)
  subst r_1
  refine lv_ldc2 (v := 1000000) hx hb hown (hG _ q_215) d_F_xOf_9 ?_
  refine lv_lsub hx hb d_F_xOf_12 ?_
  exact rd_lret hx hb hr hlk rfl d_F_xOf_13
def j_yOf (u : Fi) (k : Nat) : Int64 := (j_part u k 15 21) - 1000000
set_option maxHeartbeats 4000000 in
set_option maxRecDepth 100000 in
theorem c_F_yOf (l : Launch) (g : EG) (ws : va_W) (u : Fi) (k : Nat) (hu : Fin' g ws u) (hk : k < 1950) : Rd l g ws y_F_yOf prog_2_method_12_code 2 (some FieldType.long) 1 23 [.ref (fA u), .int (nI k)] (vp_Sl (fun r => r = j_yOf u k)) := by
  refine Rd.start (by decide +kernel) (Nat.le_of_ble_eq_true rfl) ?_
  intro p e s m below meth c ls hx hb hr hml hown hG hlk hP hK hl
  have hl : lv_has ls 2 [(0, .ref (fA u)), (1, .int (nI k))] := hl
  have hown : s.vm.findClass "CleanChecks$Findings" = some m.cls := hown
  refine lv_aload_n hx hb d_F_yOf_0 rfl (lv_at hl 0 rfl) ?_
  refine lv_iload_n hx hb d_F_yOf_1 rfl (lv_at hl 1 rfl) ?_
  refine lv_bipush (v := 15) hx hb d_F_yOf_2 (by decide) ?_
  refine lv_bipush (v := 21) hx hb d_F_yOf_4 (by decide) ?_
  refine rdVl (As := [.int (nI k), .int 15, .int 21]) (rest := []) hx hb (hml.trans hl.1.symm) hG hown hK hP hu.1 rfl hP (c_F_part l g ws u k 15 21 hu hk) q_341 q_53 q_338 q_340 q_18 hd_F_part ⟨Nat.le_of_ble_eq_true rfl, Nat.le_of_ble_eq_true rfl⟩ ⟨Nat.le_of_ble_eq_true rfl, Nat.le_of_ble_eq_true rfl⟩ rfl rfl (Nat.le_of_ble_eq_true rfl) d_F_yOf_6 (fun r r_1 => ?_)
  subst r_1
  refine lv_ldc2 (v := 1000000) hx hb hown (hG _ q_215) d_F_yOf_9 ?_
  refine lv_lsub hx hb d_F_yOf_12 ?_
  exact rd_lret hx hb hr hlk rfl d_F_yOf_13
def j_layerOf (u : Fi) (k : Nat) : Int32 := ((fK u k) >>> ((57 : Int32).toInt64 &&& 63)).toInt32
set_option maxHeartbeats 4000000 in
set_option maxRecDepth 100000 in
theorem c_F_layerOf (l : Launch) (g : EG) (ws : va_W) (u : Fi) (k : Nat) (hu : Fin' g ws u) (hk : k < 1950) : Rd l g ws y_F_layerOf prog_2_method_13_code 2 (some FieldType.int) 1 23 [.ref (fA u), .int (nI k)] (vp_Si (fun r => r = j_layerOf u k)) := by
  refine Rd.start (by decide +kernel) (Nat.le_of_ble_eq_true rfl) ?_
  intro p e s m below meth c ls hx hb hr hml hown hG hlk hP hK hl
  have hl : lv_has ls 2 [(0, .ref (fA u)), (1, .int (nI k))] := hl
  have hown : s.vm.findClass "CleanChecks$Findings" = some m.cls := hown
  refine lv_aload_n hx hb d_F_layerOf_0 rfl (lv_at hl 0 rfl) ?_
  refine rget hx hb hG hown hK hP hu.1 rfl in_F 0 (by decide) q_116 rfl rfl d_F_layerOf_1 ?_
  refine lv_iload_n hx hb d_F_layerOf_4 rfl (lv_at hl 1 rfl) ?_
  refine rlald (k := k) hx hb hK hP hu.2 rfl hk (by decide) d_F_layerOf_5 ?_
  refine lv_bipush (v := 57) hx hb d_F_layerOf_6 (by decide) ?_
  refine lv_lshr hx hb d_F_layerOf_8 rfl ?_
  refine lv_l2i hx hb d_F_layerOf_9 rfl ?_
  exact rd_iret hx hb hr hlk rfl d_F_layerOf_10
