theorem hd_C_init : y_C_init.cls ≠ "java/lang/invoke/MethodHandle" ∧ y_C_init.cls ≠ "java/lang/invoke/VarHandle" ∧ (parseMethodDescriptor y_C_init.desc).map (fun d => d.parameters.length) = some 1 := by decide +kernel
theorem hd_O_init : y_O_init.cls ≠ "java/lang/invoke/MethodHandle" ∧ y_O_init.cls ≠ "java/lang/invoke/VarHandle" ∧ (parseMethodDescriptor y_O_init.desc).map (fun d => d.parameters.length) = some 0 := by decide +kernel
theorem hd_Ma_min : y_Ma_min.cls ≠ "java/lang/invoke/MethodHandle" ∧ y_Ma_min.cls ≠ "java/lang/invoke/VarHandle" ∧ (parseMethodDescriptor y_Ma_min.desc).map (fun d => d.parameters.length) = some 2 := by decide +kernel
theorem hd_Ma_max : y_Ma_max.cls ≠ "java/lang/invoke/MethodHandle" ∧ y_Ma_max.cls ≠ "java/lang/invoke/VarHandle" ∧ (parseMethodDescriptor y_Ma_max.desc).map (fun d => d.parameters.length) = some 2 := by decide +kernel
theorem hd_A_init : y_A_init.cls ≠ "java/lang/invoke/MethodHandle" ∧ y_A_init.cls ≠ "java/lang/invoke/VarHandle" ∧ (parseMethodDescriptor y_A_init.desc).map (fun d => d.parameters.length) = some 0 := by decide +kernel
theorem hd_AL_init : y_AL_init.cls ≠ "java/lang/invoke/MethodHandle" ∧ y_AL_init.cls ≠ "java/lang/invoke/VarHandle" ∧ (parseMethodDescriptor y_AL_init.desc).map (fun d => d.parameters.length) = some 0 := by decide +kernel
theorem hd_AC_init : y_AC_init.cls ≠ "java/lang/invoke/MethodHandle" ∧ y_AC_init.cls ≠ "java/lang/invoke/VarHandle" ∧ (parseMethodDescriptor y_AC_init.desc).map (fun d => d.parameters.length) = some 0 := by decide +kernel
theorem hd_F_init : y_F_init.cls ≠ "java/lang/invoke/MethodHandle" ∧ y_F_init.cls ≠ "java/lang/invoke/VarHandle" ∧ (parseMethodDescriptor y_F_init.desc).map (fun d => d.parameters.length) = some 0 := by decide +kernel
theorem hd_C_plain : y_C_plain.cls ≠ "java/lang/invoke/MethodHandle" ∧ y_C_plain.cls ≠ "java/lang/invoke/VarHandle" ∧ (parseMethodDescriptor y_C_plain.desc).map (fun d => d.parameters.length) = some 0 := by decide +kernel
theorem hd_F_clear : y_F_clear.cls ≠ "java/lang/invoke/MethodHandle" ∧ y_F_clear.cls ≠ "java/lang/invoke/VarHandle" ∧ (parseMethodDescriptor y_F_clear.desc).map (fun d => d.parameters.length) = some 0 := by decide +kernel
theorem hd_C_checkStrip : y_C_checkStrip.cls ≠ "java/lang/invoke/MethodHandle" ∧ y_C_checkStrip.cls ≠ "java/lang/invoke/VarHandle" ∧ (parseMethodDescriptor y_C_checkStrip.desc).map (fun d => d.parameters.length) = some 2 := by decide +kernel
theorem hd_A_size : y_A_size.cls ≠ "java/lang/invoke/MethodHandle" ∧ y_A_size.cls ≠ "java/lang/invoke/VarHandle" ∧ (parseMethodDescriptor y_A_size.desc).map (fun d => d.parameters.length) = some 0 := by decide +kernel
theorem hd_A_get : y_A_get.cls ≠ "java/lang/invoke/MethodHandle" ∧ y_A_get.cls ≠ "java/lang/invoke/VarHandle" ∧ (parseMethodDescriptor y_A_get.desc).map (fun d => d.parameters.length) = some 1 := by decide +kernel
theorem hd_Ob_checkIndex : y_Ob_checkIndex.cls ≠ "java/lang/invoke/MethodHandle" ∧ y_Ob_checkIndex.cls ≠ "java/lang/invoke/VarHandle" ∧ (parseMethodDescriptor y_Ob_checkIndex.desc).map (fun d => d.parameters.length) = some 2 := by decide +kernel
theorem hd_Pr_checkIndex : y_Pr_checkIndex.cls ≠ "java/lang/invoke/MethodHandle" ∧ y_Pr_checkIndex.cls ≠ "java/lang/invoke/VarHandle" ∧ (parseMethodDescriptor y_Pr_checkIndex.desc).map (fun d => d.parameters.length) = some 3 := by decide +kernel
theorem hd_A_elementData : y_A_elementData.cls ≠ "java/lang/invoke/MethodHandle" ∧ y_A_elementData.cls ≠ "java/lang/invoke/VarHandle" ∧ (parseMethodDescriptor y_A_elementData.desc).map (fun d => d.parameters.length) = some 1 := by decide +kernel
theorem hd_S_isClosed : y_S_isClosed.cls ≠ "java/lang/invoke/MethodHandle" ∧ y_S_isClosed.cls ≠ "java/lang/invoke/VarHandle" ∧ (parseMethodDescriptor y_S_isClosed.desc).map (fun d => d.parameters.length) = some 0 := by decide +kernel
theorem hd_S_stripAmong : y_S_stripAmong.cls ≠ "java/lang/invoke/MethodHandle" ∧ y_S_stripAmong.cls ≠ "java/lang/invoke/VarHandle" ∧ (parseMethodDescriptor y_S_stripAmong.desc).map (fun d => d.parameters.length) = some 1 := by decide +kernel
theorem hd_C_checkWidth : y_C_checkWidth.cls ≠ "java/lang/invoke/MethodHandle" ∧ y_C_checkWidth.cls ≠ "java/lang/invoke/VarHandle" ∧ (parseMethodDescriptor y_C_checkWidth.desc).map (fun d => d.parameters.length) = some 2 := by decide +kernel
theorem hd_S_isCopper : y_S_isCopper.cls ≠ "java/lang/invoke/MethodHandle" ∧ y_S_isCopper.cls ≠ "java/lang/invoke/VarHandle" ∧ (parseMethodDescriptor y_S_isCopper.desc).map (fun d => d.parameters.length) = some 0 := by decide +kernel
theorem hd_C_valueForOne : y_C_valueForOne.cls ≠ "java/lang/invoke/MethodHandle" ∧ y_C_valueForOne.cls ≠ "java/lang/invoke/VarHandle" ∧ (parseMethodDescriptor y_C_valueForOne.desc).map (fun d => d.parameters.length) = some 2 := by decide +kernel
theorem hd_Q_takesFirst : y_Q_takesFirst.cls ≠ "java/lang/invoke/MethodHandle" ∧ y_Q_takesFirst.cls ≠ "java/lang/invoke/VarHandle" ∧ (parseMethodDescriptor y_Q_takesFirst.desc).map (fun d => d.parameters.length) = some 1 := by decide +kernel
theorem hd_F_add : y_F_add.cls ≠ "java/lang/invoke/MethodHandle" ∧ y_F_add.cls ≠ "java/lang/invoke/VarHandle" ∧ (parseMethodDescriptor y_F_add.desc).map (fun d => d.parameters.length) = some 3 := by decide +kernel
theorem hd_C_checkRing : y_C_checkRing.cls ≠ "java/lang/invoke/MethodHandle" ∧ y_C_checkRing.cls ≠ "java/lang/invoke/VarHandle" ∧ (parseMethodDescriptor y_C_checkRing.desc).map (fun d => d.parameters.length) = some 2 := by decide +kernel
theorem hd_S_sharesNet : y_S_sharesNet.cls ≠ "java/lang/invoke/MethodHandle" ∧ y_S_sharesNet.cls ≠ "java/lang/invoke/VarHandle" ∧ (parseMethodDescriptor y_S_sharesNet.desc).map (fun d => d.parameters.length) = some 1 := by decide +kernel
theorem hd_S_reachesCorners : y_S_reachesCorners.cls ≠ "java/lang/invoke/MethodHandle" ∧ y_S_reachesCorners.cls ≠ "java/lang/invoke/VarHandle" ∧ (parseMethodDescriptor y_S_reachesCorners.desc).map (fun d => d.parameters.length) = some 2 := by decide +kernel
theorem hd_S_reaches : y_S_reaches.cls ≠ "java/lang/invoke/MethodHandle" ∧ y_S_reaches.cls ≠ "java/lang/invoke/VarHandle" ∧ (parseMethodDescriptor y_S_reaches.desc).map (fun d => d.parameters.length) = some 3 := by decide +kernel
theorem hd_S_pieces : y_S_pieces.cls ≠ "java/lang/invoke/MethodHandle" ∧ y_S_pieces.cls ≠ "java/lang/invoke/VarHandle" ∧ (parseMethodDescriptor y_S_pieces.desc).map (fun d => d.parameters.length) = some 0 := by decide +kernel
theorem hd_S_compareToPiece : y_S_compareToPiece.cls ≠ "java/lang/invoke/MethodHandle" ∧ y_S_compareToPiece.cls ≠ "java/lang/invoke/VarHandle" ∧ (parseMethodDescriptor y_S_compareToPiece.desc).map (fun d => d.parameters.length) = some 4 := by decide +kernel
theorem hd_S_squareTo : y_S_squareTo.cls ≠ "java/lang/invoke/MethodHandle" ∧ y_S_squareTo.cls ≠ "java/lang/invoke/VarHandle" ∧ (parseMethodDescriptor y_S_squareTo.desc).map (fun d => d.parameters.length) = some 3 := by decide +kernel
theorem hd_Lo_compare : y_Lo_compare.cls ≠ "java/lang/invoke/MethodHandle" ∧ y_Lo_compare.cls ≠ "java/lang/invoke/VarHandle" ∧ (parseMethodDescriptor y_Lo_compare.desc).map (fun d => d.parameters.length) = some 2 := by decide +kernel
theorem hd_Ma_abs : y_Ma_abs.cls ≠ "java/lang/invoke/MethodHandle" ∧ y_Ma_abs.cls ≠ "java/lang/invoke/VarHandle" ∧ (parseMethodDescriptor y_Ma_abs.desc).map (fun d => d.parameters.length) = some 1 := by decide +kernel
theorem hd_S_upper : y_S_upper.cls ≠ "java/lang/invoke/MethodHandle" ∧ y_S_upper.cls ≠ "java/lang/invoke/VarHandle" ∧ (parseMethodDescriptor y_S_upper.desc).map (fun d => d.parameters.length) = some 2 := by decide +kernel
theorem hd_S_lower : y_S_lower.cls ≠ "java/lang/invoke/MethodHandle" ∧ y_S_lower.cls ≠ "java/lang/invoke/VarHandle" ∧ (parseMethodDescriptor y_S_lower.desc).map (fun d => d.parameters.length) = some 2 := by decide +kernel
theorem hd_C_checkEnds : y_C_checkEnds.cls ≠ "java/lang/invoke/MethodHandle" ∧ y_C_checkEnds.cls ≠ "java/lang/invoke/VarHandle" ∧ (parseMethodDescriptor y_C_checkEnds.desc).map (fun d => d.parameters.length) = some 2 := by decide +kernel
theorem hd_C_isLoose : y_C_isLoose.cls ≠ "java/lang/invoke/MethodHandle" ∧ y_C_isLoose.cls ≠ "java/lang/invoke/VarHandle" ∧ (parseMethodDescriptor y_C_isLoose.desc).map (fun d => d.parameters.length) = some 2 := by decide +kernel
theorem hd_C_checkAcute : y_C_checkAcute.cls ≠ "java/lang/invoke/MethodHandle" ∧ y_C_checkAcute.cls ≠ "java/lang/invoke/VarHandle" ∧ (parseMethodDescriptor y_C_checkAcute.desc).map (fun d => d.parameters.length) = some 2 := by decide +kernel
theorem hd_S_hasAcuteCorner : y_S_hasAcuteCorner.cls ≠ "java/lang/invoke/MethodHandle" ∧ y_S_hasAcuteCorner.cls ≠ "java/lang/invoke/VarHandle" ∧ (parseMethodDescriptor y_S_hasAcuteCorner.desc).map (fun d => d.parameters.length) = some 0 := by decide +kernel
theorem hd_C_checkPairs : y_C_checkPairs.cls ≠ "java/lang/invoke/MethodHandle" ∧ y_C_checkPairs.cls ≠ "java/lang/invoke/VarHandle" ∧ (parseMethodDescriptor y_C_checkPairs.desc).map (fun d => d.parameters.length) = some 2 := by decide +kernel
theorem hd_C_kindForPair : y_C_kindForPair.cls ≠ "java/lang/invoke/MethodHandle" ∧ y_C_kindForPair.cls ≠ "java/lang/invoke/VarHandle" ∧ (parseMethodDescriptor y_C_kindForPair.desc).map (fun d => d.parameters.length) = some 2 := by decide +kernel
theorem hd_C_valueForPair : y_C_valueForPair.cls ≠ "java/lang/invoke/MethodHandle" ∧ y_C_valueForPair.cls ≠ "java/lang/invoke/VarHandle" ∧ (parseMethodDescriptor y_C_valueForPair.desc).map (fun d => d.parameters.length) = some 3 := by decide +kernel
theorem hd_Q_takesPair : y_Q_takesPair.cls ≠ "java/lang/invoke/MethodHandle" ∧ y_Q_takesPair.cls ≠ "java/lang/invoke/VarHandle" ∧ (parseMethodDescriptor y_Q_takesPair.desc).map (fun d => d.parameters.length) = some 2 := by decide +kernel
theorem hd_Q_takesSecond : y_Q_takesSecond.cls ≠ "java/lang/invoke/MethodHandle" ∧ y_Q_takesSecond.cls ≠ "java/lang/invoke/VarHandle" ∧ (parseMethodDescriptor y_Q_takesSecond.desc).map (fun d => d.parameters.length) = some 1 := by decide +kernel
theorem hd_S_isNearer : y_S_isNearer.cls ≠ "java/lang/invoke/MethodHandle" ∧ y_S_isNearer.cls ≠ "java/lang/invoke/VarHandle" ∧ (parseMethodDescriptor y_S_isNearer.desc).map (fun d => d.parameters.length) = some 2 := by decide +kernel
theorem hd_S_hasCornerNearer : y_S_hasCornerNearer.cls ≠ "java/lang/invoke/MethodHandle" ∧ y_S_hasCornerNearer.cls ≠ "java/lang/invoke/VarHandle" ∧ (parseMethodDescriptor y_S_hasCornerNearer.desc).map (fun d => d.parameters.length) = some 2 := by decide +kernel
theorem hd_S_crosses : y_S_crosses.cls ≠ "java/lang/invoke/MethodHandle" ∧ y_S_crosses.cls ≠ "java/lang/invoke/VarHandle" ∧ (parseMethodDescriptor y_S_crosses.desc).map (fun d => d.parameters.length) = some 1 := by decide +kernel
theorem hd_S_parts : y_S_parts.cls ≠ "java/lang/invoke/MethodHandle" ∧ y_S_parts.cls ≠ "java/lang/invoke/VarHandle" ∧ (parseMethodDescriptor y_S_parts.desc).map (fun d => d.parameters.length) = some 3 := by decide +kernel
theorem hd_S_turn : y_S_turn.cls ≠ "java/lang/invoke/MethodHandle" ∧ y_S_turn.cls ≠ "java/lang/invoke/VarHandle" ∧ (parseMethodDescriptor y_S_turn.desc).map (fun d => d.parameters.length) = some 3 := by decide +kernel
theorem hd_F_sort : y_F_sort.cls ≠ "java/lang/invoke/MethodHandle" ∧ y_F_sort.cls ≠ "java/lang/invoke/VarHandle" ∧ (parseMethodDescriptor y_F_sort.desc).map (fun d => d.parameters.length) = some 0 := by decide +kernel
theorem hd_F_sink : y_F_sink.cls ≠ "java/lang/invoke/MethodHandle" ∧ y_F_sink.cls ≠ "java/lang/invoke/VarHandle" ∧ (parseMethodDescriptor y_F_sink.desc).map (fun d => d.parameters.length) = some 2 := by decide +kernel
theorem hd_F_sameAs : y_F_sameAs.cls ≠ "java/lang/invoke/MethodHandle" ∧ y_F_sameAs.cls ≠ "java/lang/invoke/VarHandle" ∧ (parseMethodDescriptor y_F_sameAs.desc).map (fun d => d.parameters.length) = some 1 := by decide +kernel
theorem hd_C_kinds : y_C_kinds.cls ≠ "java/lang/invoke/MethodHandle" ∧ y_C_kinds.cls ≠ "java/lang/invoke/VarHandle" ∧ (parseMethodDescriptor y_C_kinds.desc).map (fun d => d.parameters.length) = some 0 := by decide +kernel
theorem hd_F_kindOf : y_F_kindOf.cls ≠ "java/lang/invoke/MethodHandle" ∧ y_F_kindOf.cls ≠ "java/lang/invoke/VarHandle" ∧ (parseMethodDescriptor y_F_kindOf.desc).map (fun d => d.parameters.length) = some 1 := by decide +kernel
theorem hd_F_part : y_F_part.cls ≠ "java/lang/invoke/MethodHandle" ∧ y_F_part.cls ≠ "java/lang/invoke/VarHandle" ∧ (parseMethodDescriptor y_F_part.desc).map (fun d => d.parameters.length) = some 3 := by decide +kernel
theorem hd_In_bitCount : y_In_bitCount.cls ≠ "java/lang/invoke/MethodHandle" ∧ y_In_bitCount.cls ≠ "java/lang/invoke/VarHandle" ∧ (parseMethodDescriptor y_In_bitCount.desc).map (fun d => d.parameters.length) = some 1 := by decide +kernel
theorem hd_L_cell : y_L_cell.cls ≠ "java/lang/invoke/MethodHandle" ∧ y_L_cell.cls ≠ "java/lang/invoke/VarHandle" ∧ (parseMethodDescriptor y_L_cell.desc).map (fun d => d.parameters.length) = some 2 := by decide +kernel
theorem hd_L_shape : y_L_shape.cls ≠ "java/lang/invoke/MethodHandle" ∧ y_L_shape.cls ≠ "java/lang/invoke/VarHandle" ∧ (parseMethodDescriptor y_L_shape.desc).map (fun d => d.parameters.length) = some 5 := by decide +kernel
theorem hd_C_shape : y_C_shape.cls ≠ "java/lang/invoke/MethodHandle" ∧ y_C_shape.cls ≠ "java/lang/invoke/VarHandle" ∧ (parseMethodDescriptor y_C_shape.desc).map (fun d => d.parameters.length) = some 3 := by decide +kernel
theorem hd_S_init : y_S_init.cls ≠ "java/lang/invoke/MethodHandle" ∧ y_S_init.cls ≠ "java/lang/invoke/VarHandle" ∧ (parseMethodDescriptor y_S_init.desc).map (fun d => d.parameters.length) = some 4 := by decide +kernel
theorem hd_A_add_1 : y_A_add_1.cls ≠ "java/lang/invoke/MethodHandle" ∧ y_A_add_1.cls ≠ "java/lang/invoke/VarHandle" ∧ (parseMethodDescriptor y_A_add_1.desc).map (fun d => d.parameters.length) = some 1 := by decide +kernel
theorem hd_A_add_2 : y_A_add_2.cls ≠ "java/lang/invoke/MethodHandle" ∧ y_A_add_2.cls ≠ "java/lang/invoke/VarHandle" ∧ (parseMethodDescriptor y_A_add_2.desc).map (fun d => d.parameters.length) = some 3 := by decide +kernel
theorem hd_A_grow_1 : y_A_grow_1.cls ≠ "java/lang/invoke/MethodHandle" ∧ y_A_grow_1.cls ≠ "java/lang/invoke/VarHandle" ∧ (parseMethodDescriptor y_A_grow_1.desc).map (fun d => d.parameters.length) = some 0 := by decide +kernel
theorem hd_A_grow_2 : y_A_grow_2.cls ≠ "java/lang/invoke/MethodHandle" ∧ y_A_grow_2.cls ≠ "java/lang/invoke/VarHandle" ∧ (parseMethodDescriptor y_A_grow_2.desc).map (fun d => d.parameters.length) = some 1 := by decide +kernel
theorem hd_As_newLength : y_As_newLength.cls ≠ "java/lang/invoke/MethodHandle" ∧ y_As_newLength.cls ≠ "java/lang/invoke/VarHandle" ∧ (parseMethodDescriptor y_As_newLength.desc).map (fun d => d.parameters.length) = some 3 := by decide +kernel
theorem hd_As_hugeLength : y_As_hugeLength.cls ≠ "java/lang/invoke/MethodHandle" ∧ y_As_hugeLength.cls ≠ "java/lang/invoke/VarHandle" ∧ (parseMethodDescriptor y_As_hugeLength.desc).map (fun d => d.parameters.length) = some 2 := by decide +kernel
theorem hd_Ar_copyOf_1 : y_Ar_copyOf_1.cls ≠ "java/lang/invoke/MethodHandle" ∧ y_Ar_copyOf_1.cls ≠ "java/lang/invoke/VarHandle" ∧ (parseMethodDescriptor y_Ar_copyOf_1.desc).map (fun d => d.parameters.length) = some 2 := by decide +kernel
theorem hd_Ar_copyOf_2 : y_Ar_copyOf_2.cls ≠ "java/lang/invoke/MethodHandle" ∧ y_Ar_copyOf_2.cls ≠ "java/lang/invoke/VarHandle" ∧ (parseMethodDescriptor y_Ar_copyOf_2.desc).map (fun d => d.parameters.length) = some 3 := by decide +kernel
theorem hd_L_corner : y_L_corner.cls ≠ "java/lang/invoke/MethodHandle" ∧ y_L_corner.cls ≠ "java/lang/invoke/VarHandle" ∧ (parseMethodDescriptor y_L_corner.desc).map (fun d => d.parameters.length) = some 5 := by decide +kernel
theorem hd_C_corner : y_C_corner.cls ≠ "java/lang/invoke/MethodHandle" ∧ y_C_corner.cls ≠ "java/lang/invoke/VarHandle" ∧ (parseMethodDescriptor y_C_corner.desc).map (fun d => d.parameters.length) = some 3 := by decide +kernel
theorem hd_C_openShape : y_C_openShape.cls ≠ "java/lang/invoke/MethodHandle" ∧ y_C_openShape.cls ≠ "java/lang/invoke/VarHandle" ∧ (parseMethodDescriptor y_C_openShape.desc).map (fun d => d.parameters.length) = some 1 := by decide +kernel
theorem hd_C_anyShape : y_C_anyShape.cls ≠ "java/lang/invoke/MethodHandle" ∧ y_C_anyShape.cls ≠ "java/lang/invoke/VarHandle" ∧ (parseMethodDescriptor y_C_anyShape.desc).map (fun d => d.parameters.length) = some 1 := by decide +kernel
theorem hd_C_isPlace : y_C_isPlace.cls ≠ "java/lang/invoke/MethodHandle" ∧ y_C_isPlace.cls ≠ "java/lang/invoke/VarHandle" ∧ (parseMethodDescriptor y_C_isPlace.desc).map (fun d => d.parameters.length) = some 2 := by decide +kernel
theorem hd_S_addCorner : y_S_addCorner.cls ≠ "java/lang/invoke/MethodHandle" ∧ y_S_addCorner.cls ≠ "java/lang/invoke/VarHandle" ∧ (parseMethodDescriptor y_S_addCorner.desc).map (fun d => d.parameters.length) = some 2 := by decide +kernel
theorem hd_L_closeShape : y_L_closeShape.cls ≠ "java/lang/invoke/MethodHandle" ∧ y_L_closeShape.cls ≠ "java/lang/invoke/VarHandle" ∧ (parseMethodDescriptor y_L_closeShape.desc).map (fun d => d.parameters.length) = some 4 := by decide +kernel
theorem hd_C_closeShape : y_C_closeShape.cls ≠ "java/lang/invoke/MethodHandle" ∧ y_C_closeShape.cls ≠ "java/lang/invoke/VarHandle" ∧ (parseMethodDescriptor y_C_closeShape.desc).map (fun d => d.parameters.length) = some 2 := by decide +kernel
theorem hd_L_rule : y_L_rule.cls ≠ "java/lang/invoke/MethodHandle" ∧ y_L_rule.cls ≠ "java/lang/invoke/VarHandle" ∧ (parseMethodDescriptor y_L_rule.desc).map (fun d => d.parameters.length) = some 6 := by decide +kernel
theorem hd_C_rule : y_C_rule.cls ≠ "java/lang/invoke/MethodHandle" ∧ y_C_rule.cls ≠ "java/lang/invoke/VarHandle" ∧ (parseMethodDescriptor y_C_rule.desc).map (fun d => d.parameters.length) = some 4 := by decide +kernel
theorem hd_Q_init : y_Q_init.cls ≠ "java/lang/invoke/MethodHandle" ∧ y_Q_init.cls ≠ "java/lang/invoke/VarHandle" ∧ (parseMethodDescriptor y_Q_init.desc).map (fun d => d.parameters.length) = some 4 := by decide +kernel
theorem hd_L_cls : y_L_cls.cls ≠ "java/lang/invoke/MethodHandle" ∧ y_L_cls.cls ≠ "java/lang/invoke/VarHandle" ∧ (parseMethodDescriptor y_L_cls.desc).map (fun d => d.parameters.length) = some 4 := by decide +kernel
theorem hd_C_cls : y_C_cls.cls ≠ "java/lang/invoke/MethodHandle" ∧ y_C_cls.cls ≠ "java/lang/invoke/VarHandle" ∧ (parseMethodDescriptor y_C_cls.desc).map (fun d => d.parameters.length) = some 2 := by decide +kernel
theorem hd_L_run : y_L_run.cls ≠ "java/lang/invoke/MethodHandle" ∧ y_L_run.cls ≠ "java/lang/invoke/VarHandle" ∧ (parseMethodDescriptor y_L_run.desc).map (fun d => d.parameters.length) = some 4 := by decide +kernel
theorem hd_C_run : y_C_run.cls ≠ "java/lang/invoke/MethodHandle" ∧ y_C_run.cls ≠ "java/lang/invoke/VarHandle" ∧ (parseMethodDescriptor y_C_run.desc).map (fun d => d.parameters.length) = some 2 := by decide +kernel
theorem hd_Ma_floorMod : y_Ma_floorMod.cls ≠ "java/lang/invoke/MethodHandle" ∧ y_Ma_floorMod.cls ≠ "java/lang/invoke/VarHandle" ∧ (parseMethodDescriptor y_Ma_floorMod.desc).map (fun d => d.parameters.length) = some 2 := by decide +kernel
theorem hd_C_countNotWaived : y_C_countNotWaived.cls ≠ "java/lang/invoke/MethodHandle" ∧ y_C_countNotWaived.cls ≠ "java/lang/invoke/VarHandle" ∧ (parseMethodDescriptor y_C_countNotWaived.desc).map (fun d => d.parameters.length) = some 0 := by decide +kernel
theorem hd_F_markOf : y_F_markOf.cls ≠ "java/lang/invoke/MethodHandle" ∧ y_F_markOf.cls ≠ "java/lang/invoke/VarHandle" ∧ (parseMethodDescriptor y_F_markOf.desc).map (fun d => d.parameters.length) = some 1 := by decide +kernel
theorem hd_C_isWaived : y_C_isWaived.cls ≠ "java/lang/invoke/MethodHandle" ∧ y_C_isWaived.cls ≠ "java/lang/invoke/VarHandle" ∧ (parseMethodDescriptor y_C_isWaived.desc).map (fun d => d.parameters.length) = some 1 := by decide +kernel
theorem hd_L_violation : y_L_violation.cls ≠ "java/lang/invoke/MethodHandle" ∧ y_L_violation.cls ≠ "java/lang/invoke/VarHandle" ∧ (parseMethodDescriptor y_L_violation.desc).map (fun d => d.parameters.length) = some 4 := by decide +kernel
theorem hd_C_violation : y_C_violation.cls ≠ "java/lang/invoke/MethodHandle" ∧ y_C_violation.cls ≠ "java/lang/invoke/VarHandle" ∧ (parseMethodDescriptor y_C_violation.desc).map (fun d => d.parameters.length) = some 2 := by decide +kernel
theorem hd_C_requireFinding : y_C_requireFinding.cls ≠ "java/lang/invoke/MethodHandle" ∧ y_C_requireFinding.cls ≠ "java/lang/invoke/VarHandle" ∧ (parseMethodDescriptor y_C_requireFinding.desc).map (fun d => d.parameters.length) = some 1 := by decide +kernel
theorem hd_F_firstOf : y_F_firstOf.cls ≠ "java/lang/invoke/MethodHandle" ∧ y_F_firstOf.cls ≠ "java/lang/invoke/VarHandle" ∧ (parseMethodDescriptor y_F_firstOf.desc).map (fun d => d.parameters.length) = some 1 := by decide +kernel
theorem hd_F_secondOf : y_F_secondOf.cls ≠ "java/lang/invoke/MethodHandle" ∧ y_F_secondOf.cls ≠ "java/lang/invoke/VarHandle" ∧ (parseMethodDescriptor y_F_secondOf.desc).map (fun d => d.parameters.length) = some 1 := by decide +kernel
theorem hd_L_place : y_L_place.cls ≠ "java/lang/invoke/MethodHandle" ∧ y_L_place.cls ≠ "java/lang/invoke/VarHandle" ∧ (parseMethodDescriptor y_L_place.desc).map (fun d => d.parameters.length) = some 4 := by decide +kernel
theorem hd_C_place : y_C_place.cls ≠ "java/lang/invoke/MethodHandle" ∧ y_C_place.cls ≠ "java/lang/invoke/VarHandle" ∧ (parseMethodDescriptor y_C_place.desc).map (fun d => d.parameters.length) = some 2 := by decide +kernel
theorem hd_F_xOf : y_F_xOf.cls ≠ "java/lang/invoke/MethodHandle" ∧ y_F_xOf.cls ≠ "java/lang/invoke/VarHandle" ∧ (parseMethodDescriptor y_F_xOf.desc).map (fun d => d.parameters.length) = some 1 := by decide +kernel
theorem hd_F_yOf : y_F_yOf.cls ≠ "java/lang/invoke/MethodHandle" ∧ y_F_yOf.cls ≠ "java/lang/invoke/VarHandle" ∧ (parseMethodDescriptor y_F_yOf.desc).map (fun d => d.parameters.length) = some 1 := by decide +kernel
theorem hd_L_waive : y_L_waive.cls ≠ "java/lang/invoke/MethodHandle" ∧ y_L_waive.cls ≠ "java/lang/invoke/VarHandle" ∧ (parseMethodDescriptor y_L_waive.desc).map (fun d => d.parameters.length) = some 3 := by decide +kernel
theorem hd_C_waive : y_C_waive.cls ≠ "java/lang/invoke/MethodHandle" ∧ y_C_waive.cls ≠ "java/lang/invoke/VarHandle" ∧ (parseMethodDescriptor y_C_waive.desc).map (fun d => d.parameters.length) = some 1 := by decide +kernel
theorem hd_L_near : y_L_near.cls ≠ "java/lang/invoke/MethodHandle" ∧ y_L_near.cls ≠ "java/lang/invoke/VarHandle" ∧ (parseMethodDescriptor y_L_near.desc).map (fun d => d.parameters.length) = some 6 := by decide +kernel
theorem hd_C_near : y_C_near.cls ≠ "java/lang/invoke/MethodHandle" ∧ y_C_near.cls ≠ "java/lang/invoke/VarHandle" ∧ (parseMethodDescriptor y_C_near.desc).map (fun d => d.parameters.length) = some 4 := by decide +kernel
theorem hd_L_move : y_L_move.cls ≠ "java/lang/invoke/MethodHandle" ∧ y_L_move.cls ≠ "java/lang/invoke/VarHandle" ∧ (parseMethodDescriptor y_L_move.desc).map (fun d => d.parameters.length) = some 5 := by decide +kernel
theorem hd_C_move : y_C_move.cls ≠ "java/lang/invoke/MethodHandle" ∧ y_C_move.cls ≠ "java/lang/invoke/VarHandle" ∧ (parseMethodDescriptor y_C_move.desc).map (fun d => d.parameters.length) = some 3 := by decide +kernel
theorem hd_L_order : y_L_order.cls ≠ "java/lang/invoke/MethodHandle" ∧ y_L_order.cls ≠ "java/lang/invoke/VarHandle" ∧ (parseMethodDescriptor y_L_order.desc).map (fun d => d.parameters.length) = some 3 := by decide +kernel
theorem hd_C_order : y_C_order.cls ≠ "java/lang/invoke/MethodHandle" ∧ y_C_order.cls ≠ "java/lang/invoke/VarHandle" ∧ (parseMethodDescriptor y_C_order.desc).map (fun d => d.parameters.length) = some 1 := by decide +kernel
theorem hd_F_layerOf : y_F_layerOf.cls ≠ "java/lang/invoke/MethodHandle" ∧ y_F_layerOf.cls ≠ "java/lang/invoke/VarHandle" ∧ (parseMethodDescriptor y_F_layerOf.desc).map (fun d => d.parameters.length) = some 1 := by decide +kernel
theorem hd_L_strips : y_L_strips.cls ≠ "java/lang/invoke/MethodHandle" ∧ y_L_strips.cls ≠ "java/lang/invoke/VarHandle" ∧ (parseMethodDescriptor y_L_strips.desc).map (fun d => d.parameters.length) = some 3 := by decide +kernel
theorem hd_C_strips : y_C_strips.cls ≠ "java/lang/invoke/MethodHandle" ∧ y_C_strips.cls ≠ "java/lang/invoke/VarHandle" ∧ (parseMethodDescriptor y_C_strips.desc).map (fun d => d.parameters.length) = some 1 := by decide +kernel
theorem hd_M_init : y_M_init.cls ≠ "java/lang/invoke/MethodHandle" ∧ y_M_init.cls ≠ "java/lang/invoke/VarHandle" ∧ (parseMethodDescriptor y_M_init.desc).map (fun d => d.parameters.length) = some 1 := by decide +kernel
theorem hd_M_thrown : y_M_thrown.cls ≠ "java/lang/invoke/MethodHandle" ∧ y_M_thrown.cls ≠ "java/lang/invoke/VarHandle" ∧ (parseMethodDescriptor y_M_thrown.desc).map (fun d => d.parameters.length) = some 0 := by decide +kernel
theorem hd_M_shape : y_M_shape.cls ≠ "java/lang/invoke/MethodHandle" ∧ y_M_shape.cls ≠ "java/lang/invoke/VarHandle" ∧ (parseMethodDescriptor y_M_shape.desc).map (fun d => d.parameters.length) = some 3 := by decide +kernel
theorem hd_M_corner : y_M_corner.cls ≠ "java/lang/invoke/MethodHandle" ∧ y_M_corner.cls ≠ "java/lang/invoke/VarHandle" ∧ (parseMethodDescriptor y_M_corner.desc).map (fun d => d.parameters.length) = some 3 := by decide +kernel
theorem hd_M_isShape : y_M_isShape.cls ≠ "java/lang/invoke/MethodHandle" ∧ y_M_isShape.cls ≠ "java/lang/invoke/VarHandle" ∧ (parseMethodDescriptor y_M_isShape.desc).map (fun d => d.parameters.length) = some 1 := by decide +kernel
theorem hd_M_isPlace : y_M_isPlace.cls ≠ "java/lang/invoke/MethodHandle" ∧ y_M_isPlace.cls ≠ "java/lang/invoke/VarHandle" ∧ (parseMethodDescriptor y_M_isPlace.desc).map (fun d => d.parameters.length) = some 2 := by decide +kernel
theorem hd_M_closeShape : y_M_closeShape.cls ≠ "java/lang/invoke/MethodHandle" ∧ y_M_closeShape.cls ≠ "java/lang/invoke/VarHandle" ∧ (parseMethodDescriptor y_M_closeShape.desc).map (fun d => d.parameters.length) = some 2 := by decide +kernel
theorem hd_M_rule : y_M_rule.cls ≠ "java/lang/invoke/MethodHandle" ∧ y_M_rule.cls ≠ "java/lang/invoke/VarHandle" ∧ (parseMethodDescriptor y_M_rule.desc).map (fun d => d.parameters.length) = some 4 := by decide +kernel
theorem hd_M_isClass : y_M_isClass.cls ≠ "java/lang/invoke/MethodHandle" ∧ y_M_isClass.cls ≠ "java/lang/invoke/VarHandle" ∧ (parseMethodDescriptor y_M_isClass.desc).map (fun d => d.parameters.length) = some 1 := by decide +kernel
theorem hd_M_cls : y_M_cls.cls ≠ "java/lang/invoke/MethodHandle" ∧ y_M_cls.cls ≠ "java/lang/invoke/VarHandle" ∧ (parseMethodDescriptor y_M_cls.desc).map (fun d => d.parameters.length) = some 2 := by decide +kernel
theorem hd_M_move : y_M_move.cls ≠ "java/lang/invoke/MethodHandle" ∧ y_M_move.cls ≠ "java/lang/invoke/VarHandle" ∧ (parseMethodDescriptor y_M_move.desc).map (fun d => d.parameters.length) = some 3 := by decide +kernel
theorem hd_M_run : y_M_run.cls ≠ "java/lang/invoke/MethodHandle" ∧ y_M_run.cls ≠ "java/lang/invoke/VarHandle" ∧ (parseMethodDescriptor y_M_run.desc).map (fun d => d.parameters.length) = some 2 := by decide +kernel
theorem hd_M_find : y_M_find.cls ≠ "java/lang/invoke/MethodHandle" ∧ y_M_find.cls ≠ "java/lang/invoke/VarHandle" ∧ (parseMethodDescriptor y_M_find.desc).map (fun d => d.parameters.length) = some 0 := by decide +kernel
theorem hd_M_breaks : y_M_breaks.cls ≠ "java/lang/invoke/MethodHandle" ∧ y_M_breaks.cls ≠ "java/lang/invoke/VarHandle" ∧ (parseMethodDescriptor y_M_breaks.desc).map (fun d => d.parameters.length) = some 2 := by decide +kernel
theorem hd_M_isCopper : y_M_isCopper.cls ≠ "java/lang/invoke/MethodHandle" ∧ y_M_isCopper.cls ≠ "java/lang/invoke/VarHandle" ∧ (parseMethodDescriptor y_M_isCopper.desc).map (fun d => d.parameters.length) = some 1 := by decide +kernel
theorem hd_M_ruleFor : y_M_ruleFor.cls ≠ "java/lang/invoke/MethodHandle" ∧ y_M_ruleFor.cls ≠ "java/lang/invoke/VarHandle" ∧ (parseMethodDescriptor y_M_ruleFor.desc).map (fun d => d.parameters.length) = some 3 := by decide +kernel
theorem hd_M_isOf : y_M_isOf.cls ≠ "java/lang/invoke/MethodHandle" ∧ y_M_isOf.cls ≠ "java/lang/invoke/VarHandle" ∧ (parseMethodDescriptor y_M_isOf.desc).map (fun d => d.parameters.length) = some 2 := by decide +kernel
theorem hd_M_isRinged : y_M_isRinged.cls ≠ "java/lang/invoke/MethodHandle" ∧ y_M_isRinged.cls ≠ "java/lang/invoke/VarHandle" ∧ (parseMethodDescriptor y_M_isRinged.desc).map (fun d => d.parameters.length) = some 2 := by decide +kernel
theorem hd_M_haveOneNet : y_M_haveOneNet.cls ≠ "java/lang/invoke/MethodHandle" ∧ y_M_haveOneNet.cls ≠ "java/lang/invoke/VarHandle" ∧ (parseMethodDescriptor y_M_haveOneNet.desc).map (fun d => d.parameters.length) = some 2 := by decide +kernel
theorem hd_M_placeFromLine : y_M_placeFromLine.cls ≠ "java/lang/invoke/MethodHandle" ∧ y_M_placeFromLine.cls ≠ "java/lang/invoke/VarHandle" ∧ (parseMethodDescriptor y_M_placeFromLine.desc).map (fun d => d.parameters.length) = some 4 := by decide +kernel
theorem hd_M_pieces : y_M_pieces.cls ≠ "java/lang/invoke/MethodHandle" ∧ y_M_pieces.cls ≠ "java/lang/invoke/VarHandle" ∧ (parseMethodDescriptor y_M_pieces.desc).map (fun d => d.parameters.length) = some 1 := by decide +kernel
theorem hd_M_endOf : y_M_endOf.cls ≠ "java/lang/invoke/MethodHandle" ∧ y_M_endOf.cls ≠ "java/lang/invoke/VarHandle" ∧ (parseMethodDescriptor y_M_endOf.desc).map (fun d => d.parameters.length) = some 2 := by decide +kernel
theorem hd_M_fromPiece : y_M_fromPiece.cls ≠ "java/lang/invoke/MethodHandle" ∧ y_M_fromPiece.cls ≠ "java/lang/invoke/VarHandle" ∧ (parseMethodDescriptor y_M_fromPiece.desc).map (fun d => d.parameters.length) = some 7 := by decide +kernel
theorem hd_M_compare : y_M_compare.cls ≠ "java/lang/invoke/MethodHandle" ∧ y_M_compare.cls ≠ "java/lang/invoke/VarHandle" ∧ (parseMethodDescriptor y_M_compare.desc).map (fun d => d.parameters.length) = some 4 := by decide +kernel
theorem hd_M_upper : y_M_upper.cls ≠ "java/lang/invoke/MethodHandle" ∧ y_M_upper.cls ≠ "java/lang/invoke/VarHandle" ∧ (parseMethodDescriptor y_M_upper.desc).map (fun d => d.parameters.length) = some 2 := by decide +kernel
theorem hd_M_lower : y_M_lower.cls ≠ "java/lang/invoke/MethodHandle" ∧ y_M_lower.cls ≠ "java/lang/invoke/VarHandle" ∧ (parseMethodDescriptor y_M_lower.desc).map (fun d => d.parameters.length) = some 2 := by decide +kernel
theorem hd_M_isHeld : y_M_isHeld.cls ≠ "java/lang/invoke/MethodHandle" ∧ y_M_isHeld.cls ≠ "java/lang/invoke/VarHandle" ∧ (parseMethodDescriptor y_M_isHeld.desc).map (fun d => d.parameters.length) = some 2 := by decide +kernel
theorem hd_M_isAcute : y_M_isAcute.cls ≠ "java/lang/invoke/MethodHandle" ∧ y_M_isAcute.cls ≠ "java/lang/invoke/VarHandle" ∧ (parseMethodDescriptor y_M_isAcute.desc).map (fun d => d.parameters.length) = some 1 := by decide +kernel
theorem hd_M_put : y_M_put.cls ≠ "java/lang/invoke/MethodHandle" ∧ y_M_put.cls ≠ "java/lang/invoke/VarHandle" ∧ (parseMethodDescriptor y_M_put.desc).map (fun d => d.parameters.length) = some 3 := by decide +kernel
theorem hd_M_isBehind : y_M_isBehind.cls ≠ "java/lang/invoke/MethodHandle" ∧ y_M_isBehind.cls ≠ "java/lang/invoke/VarHandle" ∧ (parseMethodDescriptor y_M_isBehind.desc).map (fun d => d.parameters.length) = some 4 := by decide +kernel
theorem hd_M_rank : y_M_rank.cls ≠ "java/lang/invoke/MethodHandle" ∧ y_M_rank.cls ≠ "java/lang/invoke/VarHandle" ∧ (parseMethodDescriptor y_M_rank.desc).map (fun d => d.parameters.length) = some 2 := by decide +kernel
theorem hd_M_isFor : y_M_isFor.cls ≠ "java/lang/invoke/MethodHandle" ∧ y_M_isFor.cls ≠ "java/lang/invoke/VarHandle" ∧ (parseMethodDescriptor y_M_isFor.desc).map (fun d => d.parameters.length) = some 3 := by decide +kernel
theorem hd_M_isApart : y_M_isApart.cls ≠ "java/lang/invoke/MethodHandle" ∧ y_M_isApart.cls ≠ "java/lang/invoke/VarHandle" ∧ (parseMethodDescriptor y_M_isApart.desc).map (fun d => d.parameters.length) = some 3 := by decide +kernel
theorem hd_M_linesCross : y_M_linesCross.cls ≠ "java/lang/invoke/MethodHandle" ∧ y_M_linesCross.cls ≠ "java/lang/invoke/VarHandle" ∧ (parseMethodDescriptor y_M_linesCross.desc).map (fun d => d.parameters.length) = some 2 := by decide +kernel
theorem hd_M_side : y_M_side.cls ≠ "java/lang/invoke/MethodHandle" ∧ y_M_side.cls ≠ "java/lang/invoke/VarHandle" ∧ (parseMethodDescriptor y_M_side.desc).map (fun d => d.parameters.length) = some 6 := by decide +kernel
theorem hd_M_isWaived : y_M_isWaived.cls ≠ "java/lang/invoke/MethodHandle" ∧ y_M_isWaived.cls ≠ "java/lang/invoke/VarHandle" ∧ (parseMethodDescriptor y_M_isWaived.desc).map (fun d => d.parameters.length) = some 1 := by decide +kernel
theorem hd_M_violation : y_M_violation.cls ≠ "java/lang/invoke/MethodHandle" ∧ y_M_violation.cls ≠ "java/lang/invoke/VarHandle" ∧ (parseMethodDescriptor y_M_violation.desc).map (fun d => d.parameters.length) = some 2 := by decide +kernel
theorem hd_M_isViolation : y_M_isViolation.cls ≠ "java/lang/invoke/MethodHandle" ∧ y_M_isViolation.cls ≠ "java/lang/invoke/VarHandle" ∧ (parseMethodDescriptor y_M_isViolation.desc).map (fun d => d.parameters.length) = some 1 := by decide +kernel
theorem hd_M_place : y_M_place.cls ≠ "java/lang/invoke/MethodHandle" ∧ y_M_place.cls ≠ "java/lang/invoke/VarHandle" ∧ (parseMethodDescriptor y_M_place.desc).map (fun d => d.parameters.length) = some 2 := by decide +kernel
theorem hd_M_waive : y_M_waive.cls ≠ "java/lang/invoke/MethodHandle" ∧ y_M_waive.cls ≠ "java/lang/invoke/VarHandle" ∧ (parseMethodDescriptor y_M_waive.desc).map (fun d => d.parameters.length) = some 1 := by decide +kernel
theorem hd_M_near : y_M_near.cls ≠ "java/lang/invoke/MethodHandle" ∧ y_M_near.cls ≠ "java/lang/invoke/VarHandle" ∧ (parseMethodDescriptor y_M_near.desc).map (fun d => d.parameters.length) = some 4 := by decide +kernel
theorem hd_M_plain : y_M_plain.cls ≠ "java/lang/invoke/MethodHandle" ∧ y_M_plain.cls ≠ "java/lang/invoke/VarHandle" ∧ (parseMethodDescriptor y_M_plain.desc).map (fun d => d.parameters.length) = some 0 := by decide +kernel
theorem hd_M_kinds : y_M_kinds.cls ≠ "java/lang/invoke/MethodHandle" ∧ y_M_kinds.cls ≠ "java/lang/invoke/VarHandle" ∧ (parseMethodDescriptor y_M_kinds.desc).map (fun d => d.parameters.length) = some 0 := by decide +kernel
theorem hd_M_order : y_M_order.cls ≠ "java/lang/invoke/MethodHandle" ∧ y_M_order.cls ≠ "java/lang/invoke/VarHandle" ∧ (parseMethodDescriptor y_M_order.desc).map (fun d => d.parameters.length) = some 1 := by decide +kernel
theorem hd_M_strips : y_M_strips.cls ≠ "java/lang/invoke/MethodHandle" ∧ y_M_strips.cls ≠ "java/lang/invoke/VarHandle" ∧ (parseMethodDescriptor y_M_strips.desc).map (fun d => d.parameters.length) = some 1 := by decide +kernel
def j_upper (a b : Int64) : Int64 := let least := (a &&& 1073741823) * (b &&& 1073741823)
  let middle := (((a >>> ((30 : Int32).toInt64 &&& 63)) * (b &&& 1073741823)) + ((a &&& 1073741823) * (b >>> ((30 : Int32).toInt64 &&& 63)))) + (least >>> ((30 : Int32).toInt64 &&& 63))
  ((a >>> ((30 : Int32).toInt64 &&& 63)) * (b >>> ((30 : Int32).toInt64 &&& 63))) + (middle >>> ((30 : Int32).toInt64 &&& 63))
def j_lower (a b : Int64) : Int64 := (a * b) &&& 1152921504606846975
set_option maxHeartbeats 4000000 in
set_option maxRecDepth 100000 in
/-- upper -/
theorem c_S_upper (l : Launch) (g : EG) (ws : va_W) (a b : Int64)  : Rd l g ws y_S_upper prog_4_method_18_code 8 (some FieldType.long) 0 0 [.long a, .long b] (vp_Sl (fun r => r = j_upper a b)) := by
  refine Rd.start (by decide) (Nat.le_of_ble_eq_true rfl) ?_
  intro p e s m below meth c ls hx hb hr hml hown hG hlk hP hK hl
  have hl : lv_has ls 8 [(0, .long a), (2, .long b)] := hl
  have hown : s.vm.findClass "CleanChecks$Shape" = some m.cls := hown
  refine lv_lload_n hx hb d_S_upper_0 rfl (lv_at hl 0 rfl) ?_
  refine lv_ldc2 (v := 1073741823) hx hb hown (hG _ q_255) d_S_upper_1 ?_
  refine lv_land hx hb d_S_upper_4 ?_
  refine lv_lload_n hx hb d_S_upper_5 rfl (lv_at hl 1 rfl) ?_
  refine lv_ldc2 (v := 1073741823) hx hb hown (hG _ q_255) d_S_upper_6 ?_
  refine lv_land hx hb d_S_upper_9 ?_
  refine lv_lmul hx hb d_S_upper_10 ?_
  refine lv_lstore (lv' := [(4, .long ((a &&& 1073741823) * (b &&& 1073741823))), (0, .long a), (2, .long b)]) hx hb d_S_upper_11 hl (by decide) rfl (fun ls hl => ?_)
  refine lv_lload_n hx hb d_S_upper_13 rfl (lv_at hl 1 rfl) ?_
  refine lv_bipush (v := 30) hx hb d_S_upper_14 (by decide) ?_
  refine lv_lshr hx hb d_S_upper_16 rfl ?_
  refine lv_lload_n hx hb d_S_upper_17 rfl (lv_at hl 2 rfl) ?_
  refine lv_ldc2 (v := 1073741823) hx hb hown (hG _ q_255) d_S_upper_18 ?_
  refine lv_land hx hb d_S_upper_21 ?_
  refine lv_lmul hx hb d_S_upper_22 ?_
  refine lv_lload_n hx hb d_S_upper_23 rfl (lv_at hl 1 rfl) ?_
  refine lv_ldc2 (v := 1073741823) hx hb hown (hG _ q_255) d_S_upper_24 ?_
  refine lv_land hx hb d_S_upper_27 ?_
  refine lv_lload_n hx hb d_S_upper_28 rfl (lv_at hl 2 rfl) ?_
  refine lv_bipush (v := 30) hx hb d_S_upper_29 (by decide) ?_
  refine lv_lshr hx hb d_S_upper_31 rfl ?_
  refine lv_lmul hx hb d_S_upper_32 ?_
  refine lv_ladd hx hb d_S_upper_33 ?_
  refine lv_lload hx hb d_S_upper_34 (lv_at hl 0 rfl) ?_
  refine lv_bipush (v := 30) hx hb d_S_upper_36 (by decide) ?_
  refine lv_lshr hx hb d_S_upper_38 rfl ?_
  refine lv_ladd hx hb d_S_upper_39 ?_
  refine lv_lstore (lv' := [(6, .long ((((a >>> ((30 : Int32).toInt64 &&& 63)) * (b &&& 1073741823)) + ((a &&& 1073741823) * (b >>> ((30 : Int32).toInt64 &&& 63)))) + (((a &&& 1073741823) * (b &&& 1073741823)) >>> ((30 : Int32).toInt64 &&& 63)))), (4, .long ((a &&& 1073741823) * (b &&& 1073741823))), (0, .long a), (2, .long b)]) hx hb d_S_upper_40 hl (by decide) rfl (fun ls hl => ?_)
  refine lv_lload_n hx hb d_S_upper_42 rfl (lv_at hl 2 rfl) ?_
  refine lv_bipush (v := 30) hx hb d_S_upper_43 (by decide) ?_
  refine lv_lshr hx hb d_S_upper_45 rfl ?_
  refine lv_lload_n hx hb d_S_upper_46 rfl (lv_at hl 3 rfl) ?_
  refine lv_bipush (v := 30) hx hb d_S_upper_47 (by decide) ?_
  refine lv_lshr hx hb d_S_upper_49 rfl ?_
  refine lv_lmul hx hb d_S_upper_50 ?_
  refine lv_lload hx hb d_S_upper_51 (lv_at hl 0 rfl) ?_
  refine lv_bipush (v := 30) hx hb d_S_upper_53 (by decide) ?_
  refine lv_lshr hx hb d_S_upper_55 rfl ?_
  refine lv_ladd hx hb d_S_upper_56 ?_
  exact rd_lret hx hb hr hlk rfl d_S_upper_57
set_option maxHeartbeats 4000000 in
set_option maxRecDepth 100000 in
/-- lower -/
theorem c_S_lower (l : Launch) (g : EG) (ws : va_W) (a b : Int64)  : Rd l g ws y_S_lower prog_4_method_19_code 4 (some FieldType.long) 0 0 [.long a, .long b] (vp_Sl (fun r => r = j_lower a b)) := by
  refine Rd.start (by decide) (Nat.le_of_ble_eq_true rfl) ?_
  intro p e s m below meth c ls hx hb hr hml hown hG hlk hP hK hl
  have hl : lv_has ls 4 [(0, .long a), (2, .long b)] := hl
  have hown : s.vm.findClass "CleanChecks$Shape" = some m.cls := hown
  refine lv_lload_n hx hb d_S_lower_0 rfl (lv_at hl 0 rfl) ?_
  refine lv_lload_n hx hb d_S_lower_1 rfl (lv_at hl 1 rfl) ?_
  refine lv_lmul hx hb d_S_lower_2 ?_
  refine lv_ldc2 (v := 1152921504606846975) hx hb hown (hG _ q_259) d_S_lower_3 ?_
  refine lv_land hx hb d_S_lower_6 ?_
  exact rd_lret hx hb hr hlk rfl d_S_lower_7
