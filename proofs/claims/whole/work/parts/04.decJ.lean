def tb_O_init_0 : List (Nat × Instr × Nat) := [(0, .return_, 1)]
theorem ok_tb_O_init_0 : dOk object_method_1_code tb_O_init_0 = true := by decide +kernel
theorem d_O_init_0 : decode object_method_1_code 0 = .ok (.return_, 1) := dOk_get (q := (0, .return_, 1)) ok_tb_O_init_0 0 rfl
def tb_Ma_min_0 : List (Nat × Instr × Nat) := [(0, .iload_n 0, 1), (1, .iload_n 1, 1), (2, .if_icmp .gt 7, 3), (5, .iload_n 0, 1), (6, .goto 4, 3), (9, .iload_n 1, 1), (10, .ireturn, 1)]
theorem ok_tb_Ma_min_0 : dOk prog_16_method_69_code tb_Ma_min_0 = true := by decide +kernel
theorem d_Ma_min_0 : decode prog_16_method_69_code 0 = .ok (.iload_n 0, 1) := dOk_get (q := (0, .iload_n 0, 1)) ok_tb_Ma_min_0 0 rfl
theorem d_Ma_min_1 : decode prog_16_method_69_code 1 = .ok (.iload_n 1, 1) := dOk_get (q := (1, .iload_n 1, 1)) ok_tb_Ma_min_0 1 rfl
theorem d_Ma_min_2 : decode prog_16_method_69_code 2 = .ok (.if_icmp .gt 7, 3) := dOk_get (q := (2, .if_icmp .gt 7, 3)) ok_tb_Ma_min_0 2 rfl
theorem d_Ma_min_5 : decode prog_16_method_69_code 5 = .ok (.iload_n 0, 1) := dOk_get (q := (5, .iload_n 0, 1)) ok_tb_Ma_min_0 3 rfl
theorem d_Ma_min_6 : decode prog_16_method_69_code 6 = .ok (.goto 4, 3) := dOk_get (q := (6, .goto 4, 3)) ok_tb_Ma_min_0 4 rfl
theorem d_Ma_min_9 : decode prog_16_method_69_code 9 = .ok (.iload_n 1, 1) := dOk_get (q := (9, .iload_n 1, 1)) ok_tb_Ma_min_0 5 rfl
theorem d_Ma_min_10 : decode prog_16_method_69_code 10 = .ok (.ireturn, 1) := dOk_get (q := (10, .ireturn, 1)) ok_tb_Ma_min_0 6 rfl
def tb_Ma_max_0 : List (Nat × Instr × Nat) := [(0, .iload_n 0, 1), (1, .iload_n 1, 1), (2, .if_icmp .lt 7, 3), (5, .iload_n 0, 1), (6, .goto 4, 3), (9, .iload_n 1, 1), (10, .ireturn, 1)]
theorem ok_tb_Ma_max_0 : dOk prog_16_method_65_code tb_Ma_max_0 = true := by decide +kernel
theorem d_Ma_max_0 : decode prog_16_method_65_code 0 = .ok (.iload_n 0, 1) := dOk_get (q := (0, .iload_n 0, 1)) ok_tb_Ma_max_0 0 rfl
theorem d_Ma_max_1 : decode prog_16_method_65_code 1 = .ok (.iload_n 1, 1) := dOk_get (q := (1, .iload_n 1, 1)) ok_tb_Ma_max_0 1 rfl
theorem d_Ma_max_2 : decode prog_16_method_65_code 2 = .ok (.if_icmp .lt 7, 3) := dOk_get (q := (2, .if_icmp .lt 7, 3)) ok_tb_Ma_max_0 2 rfl
theorem d_Ma_max_5 : decode prog_16_method_65_code 5 = .ok (.iload_n 0, 1) := dOk_get (q := (5, .iload_n 0, 1)) ok_tb_Ma_max_0 3 rfl
theorem d_Ma_max_6 : decode prog_16_method_65_code 6 = .ok (.goto 4, 3) := dOk_get (q := (6, .goto 4, 3)) ok_tb_Ma_max_0 4 rfl
theorem d_Ma_max_9 : decode prog_16_method_65_code 9 = .ok (.iload_n 1, 1) := dOk_get (q := (9, .iload_n 1, 1)) ok_tb_Ma_max_0 5 rfl
theorem d_Ma_max_10 : decode prog_16_method_65_code 10 = .ok (.ireturn, 1) := dOk_get (q := (10, .ireturn, 1)) ok_tb_Ma_max_0 6 rfl
def tb_A_init_0 : List (Nat × Instr × Nat) := [(0, .aload_n 0, 1), (1, .invokespecial 1, 3), (4, .aload_n 0, 1), (5, .getstatic 39, 3), (8, .putfield 9, 3), (11, .return_, 1)]
theorem ok_tb_A_init_0 : dOk prog_23_method_2_code tb_A_init_0 = true := by decide +kernel
theorem d_A_init_0 : decode prog_23_method_2_code 0 = .ok (.aload_n 0, 1) := dOk_get (q := (0, .aload_n 0, 1)) ok_tb_A_init_0 0 rfl
theorem d_A_init_1 : decode prog_23_method_2_code 1 = .ok (.invokespecial 1, 3) := dOk_get (q := (1, .invokespecial 1, 3)) ok_tb_A_init_0 1 rfl
theorem d_A_init_4 : decode prog_23_method_2_code 4 = .ok (.aload_n 0, 1) := dOk_get (q := (4, .aload_n 0, 1)) ok_tb_A_init_0 2 rfl
theorem d_A_init_5 : decode prog_23_method_2_code 5 = .ok (.getstatic 39, 3) := dOk_get (q := (5, .getstatic 39, 3)) ok_tb_A_init_0 3 rfl
theorem d_A_init_8 : decode prog_23_method_2_code 8 = .ok (.putfield 9, 3) := dOk_get (q := (8, .putfield 9, 3)) ok_tb_A_init_0 4 rfl
theorem d_A_init_11 : decode prog_23_method_2_code 11 = .ok (.return_, 1) := dOk_get (q := (11, .return_, 1)) ok_tb_A_init_0 5 rfl
def tb_AL_init_0 : List (Nat × Instr × Nat) := [(0, .aload_n 0, 1), (1, .invokespecial 1, 3), (4, .aload_n 0, 1), (5, .iconst 0, 1), (6, .putfield 7, 3), (9, .return_, 1)]
theorem ok_tb_AL_init_0 : dOk prog_22_method_1_code tb_AL_init_0 = true := by decide +kernel
theorem d_AL_init_0 : decode prog_22_method_1_code 0 = .ok (.aload_n 0, 1) := dOk_get (q := (0, .aload_n 0, 1)) ok_tb_AL_init_0 0 rfl
theorem d_AL_init_1 : decode prog_22_method_1_code 1 = .ok (.invokespecial 1, 3) := dOk_get (q := (1, .invokespecial 1, 3)) ok_tb_AL_init_0 1 rfl
theorem d_AL_init_4 : decode prog_22_method_1_code 4 = .ok (.aload_n 0, 1) := dOk_get (q := (4, .aload_n 0, 1)) ok_tb_AL_init_0 2 rfl
theorem d_AL_init_5 : decode prog_22_method_1_code 5 = .ok (.iconst 0, 1) := dOk_get (q := (5, .iconst 0, 1)) ok_tb_AL_init_0 3 rfl
theorem d_AL_init_6 : decode prog_22_method_1_code 6 = .ok (.putfield 7, 3) := dOk_get (q := (6, .putfield 7, 3)) ok_tb_AL_init_0 4 rfl
theorem d_AL_init_9 : decode prog_22_method_1_code 9 = .ok (.return_, 1) := dOk_get (q := (9, .return_, 1)) ok_tb_AL_init_0 5 rfl
def tb_AC_init_0 : List (Nat × Instr × Nat) := [(0, .aload_n 0, 1), (1, .invokespecial 1, 3), (4, .return_, 1)]
theorem ok_tb_AC_init_0 : dOk prog_21_method_1_code tb_AC_init_0 = true := by decide +kernel
theorem d_AC_init_0 : decode prog_21_method_1_code 0 = .ok (.aload_n 0, 1) := dOk_get (q := (0, .aload_n 0, 1)) ok_tb_AC_init_0 0 rfl
theorem d_AC_init_1 : decode prog_21_method_1_code 1 = .ok (.invokespecial 1, 3) := dOk_get (q := (1, .invokespecial 1, 3)) ok_tb_AC_init_0 1 rfl
theorem d_AC_init_4 : decode prog_21_method_1_code 4 = .ok (.return_, 1) := dOk_get (q := (4, .return_, 1)) ok_tb_AC_init_0 2 rfl
def tb_A_size_0 : List (Nat × Instr × Nat) := [(0, .aload_n 0, 1), (1, .getfield 48, 3), (4, .ireturn, 1)]
theorem ok_tb_A_size_0 : dOk prog_23_method_8_code tb_A_size_0 = true := by decide +kernel
theorem d_A_size_0 : decode prog_23_method_8_code 0 = .ok (.aload_n 0, 1) := dOk_get (q := (0, .aload_n 0, 1)) ok_tb_A_size_0 0 rfl
theorem d_A_size_1 : decode prog_23_method_8_code 1 = .ok (.getfield 48, 3) := dOk_get (q := (1, .getfield 48, 3)) ok_tb_A_size_0 1 rfl
theorem d_A_size_4 : decode prog_23_method_8_code 4 = .ok (.ireturn, 1) := dOk_get (q := (4, .ireturn, 1)) ok_tb_A_size_0 2 rfl
def tb_A_get_0 : List (Nat × Instr × Nat) := [(0, .iload_n 1, 1), (1, .aload_n 0, 1), (2, .getfield 48, 3), (5, .invokestatic 118, 3), (8, .pop, 1), (9, .aload_n 0, 1), (10, .iload_n 1, 1), (11, .invokevirtual 123, 3), (14, .areturn, 1)]
theorem ok_tb_A_get_0 : dOk prog_23_method_20_code tb_A_get_0 = true := by decide +kernel
theorem d_A_get_0 : decode prog_23_method_20_code 0 = .ok (.iload_n 1, 1) := dOk_get (q := (0, .iload_n 1, 1)) ok_tb_A_get_0 0 rfl
theorem d_A_get_1 : decode prog_23_method_20_code 1 = .ok (.aload_n 0, 1) := dOk_get (q := (1, .aload_n 0, 1)) ok_tb_A_get_0 1 rfl
theorem d_A_get_2 : decode prog_23_method_20_code 2 = .ok (.getfield 48, 3) := dOk_get (q := (2, .getfield 48, 3)) ok_tb_A_get_0 2 rfl
theorem d_A_get_5 : decode prog_23_method_20_code 5 = .ok (.invokestatic 118, 3) := dOk_get (q := (5, .invokestatic 118, 3)) ok_tb_A_get_0 3 rfl
theorem d_A_get_8 : decode prog_23_method_20_code 8 = .ok (.pop, 1) := dOk_get (q := (8, .pop, 1)) ok_tb_A_get_0 4 rfl
theorem d_A_get_9 : decode prog_23_method_20_code 9 = .ok (.aload_n 0, 1) := dOk_get (q := (9, .aload_n 0, 1)) ok_tb_A_get_0 5 rfl
theorem d_A_get_10 : decode prog_23_method_20_code 10 = .ok (.iload_n 1, 1) := dOk_get (q := (10, .iload_n 1, 1)) ok_tb_A_get_0 6 rfl
theorem d_A_get_11 : decode prog_23_method_20_code 11 = .ok (.invokevirtual 123, 3) := dOk_get (q := (11, .invokevirtual 123, 3)) ok_tb_A_get_0 7 rfl
theorem d_A_get_14 : decode prog_23_method_20_code 14 = .ok (.areturn, 1) := dOk_get (q := (14, .areturn, 1)) ok_tb_A_get_0 8 rfl
def tb_Ob_checkIndex_0 : List (Nat × Instr × Nat) := [(0, .iload_n 0, 1), (1, .iload_n 1, 1), (2, .aconst_null, 1), (3, .invokestatic 105, 3), (6, .ireturn, 1)]
theorem ok_tb_Ob_checkIndex_0 : dOk prog_27_method_17_code tb_Ob_checkIndex_0 = true := by decide +kernel
theorem d_Ob_checkIndex_0 : decode prog_27_method_17_code 0 = .ok (.iload_n 0, 1) := dOk_get (q := (0, .iload_n 0, 1)) ok_tb_Ob_checkIndex_0 0 rfl
theorem d_Ob_checkIndex_1 : decode prog_27_method_17_code 1 = .ok (.iload_n 1, 1) := dOk_get (q := (1, .iload_n 1, 1)) ok_tb_Ob_checkIndex_0 1 rfl
theorem d_Ob_checkIndex_2 : decode prog_27_method_17_code 2 = .ok (.aconst_null, 1) := dOk_get (q := (2, .aconst_null, 1)) ok_tb_Ob_checkIndex_0 2 rfl
theorem d_Ob_checkIndex_3 : decode prog_27_method_17_code 3 = .ok (.invokestatic 105, 3) := dOk_get (q := (3, .invokestatic 105, 3)) ok_tb_Ob_checkIndex_0 3 rfl
theorem d_Ob_checkIndex_6 : decode prog_27_method_17_code 6 = .ok (.ireturn, 1) := dOk_get (q := (6, .ireturn, 1)) ok_tb_Ob_checkIndex_0 4 rfl
def tb_Pr_checkIndex_0 : List (Nat × Instr × Nat) := [(0, .iload_n 0, 1), (1, .ifCond .lt 8, 3), (4, .iload_n 0, 1), (5, .iload_n 1, 1), (6, .if_icmp .lt 10, 3), (9, .aload_n 2, 1), (10, .iload_n 0, 1), (11, .iload_n 1, 1), (12, .invokestatic 95, 3), (15, .athrow, 1), (16, .iload_n 0, 1), (17, .ireturn, 1)]
theorem ok_tb_Pr_checkIndex_0 : dOk prog_31_method_11_code tb_Pr_checkIndex_0 = true := by decide +kernel
theorem d_Pr_checkIndex_0 : decode prog_31_method_11_code 0 = .ok (.iload_n 0, 1) := dOk_get (q := (0, .iload_n 0, 1)) ok_tb_Pr_checkIndex_0 0 rfl
theorem d_Pr_checkIndex_1 : decode prog_31_method_11_code 1 = .ok (.ifCond .lt 8, 3) := dOk_get (q := (1, .ifCond .lt 8, 3)) ok_tb_Pr_checkIndex_0 1 rfl
theorem d_Pr_checkIndex_4 : decode prog_31_method_11_code 4 = .ok (.iload_n 0, 1) := dOk_get (q := (4, .iload_n 0, 1)) ok_tb_Pr_checkIndex_0 2 rfl
theorem d_Pr_checkIndex_5 : decode prog_31_method_11_code 5 = .ok (.iload_n 1, 1) := dOk_get (q := (5, .iload_n 1, 1)) ok_tb_Pr_checkIndex_0 3 rfl
theorem d_Pr_checkIndex_6 : decode prog_31_method_11_code 6 = .ok (.if_icmp .lt 10, 3) := dOk_get (q := (6, .if_icmp .lt 10, 3)) ok_tb_Pr_checkIndex_0 4 rfl
theorem d_Pr_checkIndex_9 : decode prog_31_method_11_code 9 = .ok (.aload_n 2, 1) := dOk_get (q := (9, .aload_n 2, 1)) ok_tb_Pr_checkIndex_0 5 rfl
theorem d_Pr_checkIndex_10 : decode prog_31_method_11_code 10 = .ok (.iload_n 0, 1) := dOk_get (q := (10, .iload_n 0, 1)) ok_tb_Pr_checkIndex_0 6 rfl
theorem d_Pr_checkIndex_11 : decode prog_31_method_11_code 11 = .ok (.iload_n 1, 1) := dOk_get (q := (11, .iload_n 1, 1)) ok_tb_Pr_checkIndex_0 7 rfl
theorem d_Pr_checkIndex_12 : decode prog_31_method_11_code 12 = .ok (.invokestatic 95, 3) := dOk_get (q := (12, .invokestatic 95, 3)) ok_tb_Pr_checkIndex_0 8 rfl
theorem d_Pr_checkIndex_15 : decode prog_31_method_11_code 15 = .ok (.athrow, 1) := dOk_get (q := (15, .athrow, 1)) ok_tb_Pr_checkIndex_0 9 rfl
theorem d_Pr_checkIndex_16 : decode prog_31_method_11_code 16 = .ok (.iload_n 0, 1) := dOk_get (q := (16, .iload_n 0, 1)) ok_tb_Pr_checkIndex_0 10 rfl
theorem d_Pr_checkIndex_17 : decode prog_31_method_11_code 17 = .ok (.ireturn, 1) := dOk_get (q := (17, .ireturn, 1)) ok_tb_Pr_checkIndex_0 11 rfl
def tb_A_elementData_0 : List (Nat × Instr × Nat) := [(0, .aload_n 0, 1), (1, .getfield 9, 3), (4, .iload_n 1, 1), (5, .aaload, 1), (6, .areturn, 1)]
theorem ok_tb_A_elementData_0 : dOk prog_23_method_18_code tb_A_elementData_0 = true := by decide +kernel
theorem d_A_elementData_0 : decode prog_23_method_18_code 0 = .ok (.aload_n 0, 1) := dOk_get (q := (0, .aload_n 0, 1)) ok_tb_A_elementData_0 0 rfl
theorem d_A_elementData_1 : decode prog_23_method_18_code 1 = .ok (.getfield 9, 3) := dOk_get (q := (1, .getfield 9, 3)) ok_tb_A_elementData_0 1 rfl
theorem d_A_elementData_4 : decode prog_23_method_18_code 4 = .ok (.iload_n 1, 1) := dOk_get (q := (4, .iload_n 1, 1)) ok_tb_A_elementData_0 2 rfl
theorem d_A_elementData_5 : decode prog_23_method_18_code 5 = .ok (.aaload, 1) := dOk_get (q := (5, .aaload, 1)) ok_tb_A_elementData_0 3 rfl
theorem d_A_elementData_6 : decode prog_23_method_18_code 6 = .ok (.areturn, 1) := dOk_get (q := (6, .areturn, 1)) ok_tb_A_elementData_0 4 rfl
def tb_Lo_compare_0 : List (Nat × Instr × Nat) := [(0, .lload_n 0, 1), (1, .lload_n 2, 1), (2, .lcmp, 1), (3, .ifCond .ge 7, 3), (6, .iconst (-1), 1), (7, .goto 14, 3), (10, .lload_n 0, 1), (11, .lload_n 2, 1), (12, .lcmp, 1), (13, .ifCond .ne 7, 3), (16, .iconst 0, 1), (17, .goto 4, 3), (20, .iconst 1, 1), (21, .ireturn, 1)]
theorem ok_tb_Lo_compare_0 : dOk prog_15_method_42_code tb_Lo_compare_0 = true := by decide +kernel
theorem d_Lo_compare_0 : decode prog_15_method_42_code 0 = .ok (.lload_n 0, 1) := dOk_get (q := (0, .lload_n 0, 1)) ok_tb_Lo_compare_0 0 rfl
theorem d_Lo_compare_1 : decode prog_15_method_42_code 1 = .ok (.lload_n 2, 1) := dOk_get (q := (1, .lload_n 2, 1)) ok_tb_Lo_compare_0 1 rfl
theorem d_Lo_compare_2 : decode prog_15_method_42_code 2 = .ok (.lcmp, 1) := dOk_get (q := (2, .lcmp, 1)) ok_tb_Lo_compare_0 2 rfl
theorem d_Lo_compare_3 : decode prog_15_method_42_code 3 = .ok (.ifCond .ge 7, 3) := dOk_get (q := (3, .ifCond .ge 7, 3)) ok_tb_Lo_compare_0 3 rfl
theorem d_Lo_compare_6 : decode prog_15_method_42_code 6 = .ok (.iconst (-1), 1) := dOk_get (q := (6, .iconst (-1), 1)) ok_tb_Lo_compare_0 4 rfl
theorem d_Lo_compare_7 : decode prog_15_method_42_code 7 = .ok (.goto 14, 3) := dOk_get (q := (7, .goto 14, 3)) ok_tb_Lo_compare_0 5 rfl
theorem d_Lo_compare_10 : decode prog_15_method_42_code 10 = .ok (.lload_n 0, 1) := dOk_get (q := (10, .lload_n 0, 1)) ok_tb_Lo_compare_0 6 rfl
theorem d_Lo_compare_11 : decode prog_15_method_42_code 11 = .ok (.lload_n 2, 1) := dOk_get (q := (11, .lload_n 2, 1)) ok_tb_Lo_compare_0 7 rfl
theorem d_Lo_compare_12 : decode prog_15_method_42_code 12 = .ok (.lcmp, 1) := dOk_get (q := (12, .lcmp, 1)) ok_tb_Lo_compare_0 8 rfl
theorem d_Lo_compare_13 : decode prog_15_method_42_code 13 = .ok (.ifCond .ne 7, 3) := dOk_get (q := (13, .ifCond .ne 7, 3)) ok_tb_Lo_compare_0 9 rfl
theorem d_Lo_compare_16 : decode prog_15_method_42_code 16 = .ok (.iconst 0, 1) := dOk_get (q := (16, .iconst 0, 1)) ok_tb_Lo_compare_0 10 rfl
theorem d_Lo_compare_17 : decode prog_15_method_42_code 17 = .ok (.goto 4, 3) := dOk_get (q := (17, .goto 4, 3)) ok_tb_Lo_compare_0 11 rfl
theorem d_Lo_compare_20 : decode prog_15_method_42_code 20 = .ok (.iconst 1, 1) := dOk_get (q := (20, .iconst 1, 1)) ok_tb_Lo_compare_0 12 rfl
theorem d_Lo_compare_21 : decode prog_15_method_42_code 21 = .ok (.ireturn, 1) := dOk_get (q := (21, .ireturn, 1)) ok_tb_Lo_compare_0 13 rfl
def tb_Ma_abs_0 : List (Nat × Instr × Nat) := [(0, .lload_n 0, 1), (1, .lconst 0, 1), (2, .lcmp, 1), (3, .ifCond .ge 8, 3), (6, .lload_n 0, 1), (7, .lneg, 1), (8, .goto 4, 3), (11, .lload_n 0, 1), (12, .lreturn, 1)]
theorem ok_tb_Ma_abs_0 : dOk prog_16_method_61_code tb_Ma_abs_0 = true := by decide +kernel
theorem d_Ma_abs_0 : decode prog_16_method_61_code 0 = .ok (.lload_n 0, 1) := dOk_get (q := (0, .lload_n 0, 1)) ok_tb_Ma_abs_0 0 rfl
theorem d_Ma_abs_1 : decode prog_16_method_61_code 1 = .ok (.lconst 0, 1) := dOk_get (q := (1, .lconst 0, 1)) ok_tb_Ma_abs_0 1 rfl
theorem d_Ma_abs_2 : decode prog_16_method_61_code 2 = .ok (.lcmp, 1) := dOk_get (q := (2, .lcmp, 1)) ok_tb_Ma_abs_0 2 rfl
theorem d_Ma_abs_3 : decode prog_16_method_61_code 3 = .ok (.ifCond .ge 8, 3) := dOk_get (q := (3, .ifCond .ge 8, 3)) ok_tb_Ma_abs_0 3 rfl
theorem d_Ma_abs_6 : decode prog_16_method_61_code 6 = .ok (.lload_n 0, 1) := dOk_get (q := (6, .lload_n 0, 1)) ok_tb_Ma_abs_0 4 rfl
theorem d_Ma_abs_7 : decode prog_16_method_61_code 7 = .ok (.lneg, 1) := dOk_get (q := (7, .lneg, 1)) ok_tb_Ma_abs_0 5 rfl
theorem d_Ma_abs_8 : decode prog_16_method_61_code 8 = .ok (.goto 4, 3) := dOk_get (q := (8, .goto 4, 3)) ok_tb_Ma_abs_0 6 rfl
theorem d_Ma_abs_11 : decode prog_16_method_61_code 11 = .ok (.lload_n 0, 1) := dOk_get (q := (11, .lload_n 0, 1)) ok_tb_Ma_abs_0 7 rfl
theorem d_Ma_abs_12 : decode prog_16_method_61_code 12 = .ok (.lreturn, 1) := dOk_get (q := (12, .lreturn, 1)) ok_tb_Ma_abs_0 8 rfl
def tb_In_bitCount_0 : List (Nat × Instr × Nat) := [(0, .iload_n 0, 1), (1, .iload_n 0, 1), (2, .iconst 1, 1), (3, .iushr, 1), (4, .ldc_w 265, 3), (7, .iand, 1), (8, .isub, 1), (9, .istore_n 0, 1), (10, .iload_n 0, 1), (11, .ldc_w 266, 3), (14, .iand, 1), (15, .iload_n 0, 1), (16, .iconst 2, 1), (17, .iushr, 1), (18, .ldc_w 266, 3), (21, .iand, 1), (22, .iadd, 1), (23, .istore_n 0, 1), (24, .iload_n 0, 1), (25, .iload_n 0, 1), (26, .iconst 4, 1), (27, .iushr, 1), (28, .iadd, 1), (29, .ldc_w 267, 3), (32, .iand, 1), (33, .istore_n 0, 1), (34, .iload_n 0, 1), (35, .iload_n 0, 1), (36, .bipush 8, 2), (38, .iushr, 1), (39, .iadd, 1), (40, .istore_n 0, 1), (41, .iload_n 0, 1), (42, .iload_n 0, 1), (43, .bipush 16, 2), (45, .iushr, 1), (46, .iadd, 1), (47, .istore_n 0, 1), (48, .iload_n 0, 1), (49, .bipush 63, 2), (51, .iand, 1), (52, .ireturn, 1)]
theorem ok_tb_In_bitCount_0 : dOk prog_13_method_49_code tb_In_bitCount_0 = true := by decide +kernel
theorem d_In_bitCount_0 : decode prog_13_method_49_code 0 = .ok (.iload_n 0, 1) := dOk_get (q := (0, .iload_n 0, 1)) ok_tb_In_bitCount_0 0 rfl
theorem d_In_bitCount_1 : decode prog_13_method_49_code 1 = .ok (.iload_n 0, 1) := dOk_get (q := (1, .iload_n 0, 1)) ok_tb_In_bitCount_0 1 rfl
theorem d_In_bitCount_2 : decode prog_13_method_49_code 2 = .ok (.iconst 1, 1) := dOk_get (q := (2, .iconst 1, 1)) ok_tb_In_bitCount_0 2 rfl
theorem d_In_bitCount_3 : decode prog_13_method_49_code 3 = .ok (.iushr, 1) := dOk_get (q := (3, .iushr, 1)) ok_tb_In_bitCount_0 3 rfl
theorem d_In_bitCount_4 : decode prog_13_method_49_code 4 = .ok (.ldc_w 265, 3) := dOk_get (q := (4, .ldc_w 265, 3)) ok_tb_In_bitCount_0 4 rfl
theorem d_In_bitCount_7 : decode prog_13_method_49_code 7 = .ok (.iand, 1) := dOk_get (q := (7, .iand, 1)) ok_tb_In_bitCount_0 5 rfl
theorem d_In_bitCount_8 : decode prog_13_method_49_code 8 = .ok (.isub, 1) := dOk_get (q := (8, .isub, 1)) ok_tb_In_bitCount_0 6 rfl
theorem d_In_bitCount_9 : decode prog_13_method_49_code 9 = .ok (.istore_n 0, 1) := dOk_get (q := (9, .istore_n 0, 1)) ok_tb_In_bitCount_0 7 rfl
theorem d_In_bitCount_10 : decode prog_13_method_49_code 10 = .ok (.iload_n 0, 1) := dOk_get (q := (10, .iload_n 0, 1)) ok_tb_In_bitCount_0 8 rfl
theorem d_In_bitCount_11 : decode prog_13_method_49_code 11 = .ok (.ldc_w 266, 3) := dOk_get (q := (11, .ldc_w 266, 3)) ok_tb_In_bitCount_0 9 rfl
theorem d_In_bitCount_14 : decode prog_13_method_49_code 14 = .ok (.iand, 1) := dOk_get (q := (14, .iand, 1)) ok_tb_In_bitCount_0 10 rfl
theorem d_In_bitCount_15 : decode prog_13_method_49_code 15 = .ok (.iload_n 0, 1) := dOk_get (q := (15, .iload_n 0, 1)) ok_tb_In_bitCount_0 11 rfl
theorem d_In_bitCount_16 : decode prog_13_method_49_code 16 = .ok (.iconst 2, 1) := dOk_get (q := (16, .iconst 2, 1)) ok_tb_In_bitCount_0 12 rfl
theorem d_In_bitCount_17 : decode prog_13_method_49_code 17 = .ok (.iushr, 1) := dOk_get (q := (17, .iushr, 1)) ok_tb_In_bitCount_0 13 rfl
theorem d_In_bitCount_18 : decode prog_13_method_49_code 18 = .ok (.ldc_w 266, 3) := dOk_get (q := (18, .ldc_w 266, 3)) ok_tb_In_bitCount_0 14 rfl
theorem d_In_bitCount_21 : decode prog_13_method_49_code 21 = .ok (.iand, 1) := dOk_get (q := (21, .iand, 1)) ok_tb_In_bitCount_0 15 rfl
theorem d_In_bitCount_22 : decode prog_13_method_49_code 22 = .ok (.iadd, 1) := dOk_get (q := (22, .iadd, 1)) ok_tb_In_bitCount_0 16 rfl
theorem d_In_bitCount_23 : decode prog_13_method_49_code 23 = .ok (.istore_n 0, 1) := dOk_get (q := (23, .istore_n 0, 1)) ok_tb_In_bitCount_0 17 rfl
theorem d_In_bitCount_24 : decode prog_13_method_49_code 24 = .ok (.iload_n 0, 1) := dOk_get (q := (24, .iload_n 0, 1)) ok_tb_In_bitCount_0 18 rfl
theorem d_In_bitCount_25 : decode prog_13_method_49_code 25 = .ok (.iload_n 0, 1) := dOk_get (q := (25, .iload_n 0, 1)) ok_tb_In_bitCount_0 19 rfl
theorem d_In_bitCount_26 : decode prog_13_method_49_code 26 = .ok (.iconst 4, 1) := dOk_get (q := (26, .iconst 4, 1)) ok_tb_In_bitCount_0 20 rfl
theorem d_In_bitCount_27 : decode prog_13_method_49_code 27 = .ok (.iushr, 1) := dOk_get (q := (27, .iushr, 1)) ok_tb_In_bitCount_0 21 rfl
theorem d_In_bitCount_28 : decode prog_13_method_49_code 28 = .ok (.iadd, 1) := dOk_get (q := (28, .iadd, 1)) ok_tb_In_bitCount_0 22 rfl
theorem d_In_bitCount_29 : decode prog_13_method_49_code 29 = .ok (.ldc_w 267, 3) := dOk_get (q := (29, .ldc_w 267, 3)) ok_tb_In_bitCount_0 23 rfl
theorem d_In_bitCount_32 : decode prog_13_method_49_code 32 = .ok (.iand, 1) := dOk_get (q := (32, .iand, 1)) ok_tb_In_bitCount_0 24 rfl
theorem d_In_bitCount_33 : decode prog_13_method_49_code 33 = .ok (.istore_n 0, 1) := dOk_get (q := (33, .istore_n 0, 1)) ok_tb_In_bitCount_0 25 rfl
theorem d_In_bitCount_34 : decode prog_13_method_49_code 34 = .ok (.iload_n 0, 1) := dOk_get (q := (34, .iload_n 0, 1)) ok_tb_In_bitCount_0 26 rfl
theorem d_In_bitCount_35 : decode prog_13_method_49_code 35 = .ok (.iload_n 0, 1) := dOk_get (q := (35, .iload_n 0, 1)) ok_tb_In_bitCount_0 27 rfl
theorem d_In_bitCount_36 : decode prog_13_method_49_code 36 = .ok (.bipush 8, 2) := dOk_get (q := (36, .bipush 8, 2)) ok_tb_In_bitCount_0 28 rfl
theorem d_In_bitCount_38 : decode prog_13_method_49_code 38 = .ok (.iushr, 1) := dOk_get (q := (38, .iushr, 1)) ok_tb_In_bitCount_0 29 rfl
theorem d_In_bitCount_39 : decode prog_13_method_49_code 39 = .ok (.iadd, 1) := dOk_get (q := (39, .iadd, 1)) ok_tb_In_bitCount_0 30 rfl
theorem d_In_bitCount_40 : decode prog_13_method_49_code 40 = .ok (.istore_n 0, 1) := dOk_get (q := (40, .istore_n 0, 1)) ok_tb_In_bitCount_0 31 rfl
theorem d_In_bitCount_41 : decode prog_13_method_49_code 41 = .ok (.iload_n 0, 1) := dOk_get (q := (41, .iload_n 0, 1)) ok_tb_In_bitCount_0 32 rfl
theorem d_In_bitCount_42 : decode prog_13_method_49_code 42 = .ok (.iload_n 0, 1) := dOk_get (q := (42, .iload_n 0, 1)) ok_tb_In_bitCount_0 33 rfl
theorem d_In_bitCount_43 : decode prog_13_method_49_code 43 = .ok (.bipush 16, 2) := dOk_get (q := (43, .bipush 16, 2)) ok_tb_In_bitCount_0 34 rfl
theorem d_In_bitCount_45 : decode prog_13_method_49_code 45 = .ok (.iushr, 1) := dOk_get (q := (45, .iushr, 1)) ok_tb_In_bitCount_0 35 rfl
theorem d_In_bitCount_46 : decode prog_13_method_49_code 46 = .ok (.iadd, 1) := dOk_get (q := (46, .iadd, 1)) ok_tb_In_bitCount_0 36 rfl
theorem d_In_bitCount_47 : decode prog_13_method_49_code 47 = .ok (.istore_n 0, 1) := dOk_get (q := (47, .istore_n 0, 1)) ok_tb_In_bitCount_0 37 rfl
theorem d_In_bitCount_48 : decode prog_13_method_49_code 48 = .ok (.iload_n 0, 1) := dOk_get (q := (48, .iload_n 0, 1)) ok_tb_In_bitCount_0 38 rfl
theorem d_In_bitCount_49 : decode prog_13_method_49_code 49 = .ok (.bipush 63, 2) := dOk_get (q := (49, .bipush 63, 2)) ok_tb_In_bitCount_0 39 rfl
theorem d_In_bitCount_51 : decode prog_13_method_49_code 51 = .ok (.iand, 1) := dOk_get (q := (51, .iand, 1)) ok_tb_In_bitCount_0 40 rfl
theorem d_In_bitCount_52 : decode prog_13_method_49_code 52 = .ok (.ireturn, 1) := dOk_get (q := (52, .ireturn, 1)) ok_tb_In_bitCount_0 41 rfl
def tb_A_add_1_0 : List (Nat × Instr × Nat) := [(0, .aload_n 0, 1), (1, .dup, 1), (2, .getfield 63, 3), (5, .iconst 1, 1), (6, .iadd, 1), (7, .putfield 63, 3), (10, .aload_n 0, 1), (11, .aload_n 1, 1), (12, .aload_n 0, 1), (13, .getfield 9, 3), (16, .aload_n 0, 1), (17, .getfield 48, 3), (20, .invokevirtual 131, 3), (23, .iconst 1, 1), (24, .ireturn, 1)]
theorem ok_tb_A_add_1_0 : dOk prog_23_method_25_code tb_A_add_1_0 = true := by decide +kernel
theorem d_A_add_1_0 : decode prog_23_method_25_code 0 = .ok (.aload_n 0, 1) := dOk_get (q := (0, .aload_n 0, 1)) ok_tb_A_add_1_0 0 rfl
theorem d_A_add_1_1 : decode prog_23_method_25_code 1 = .ok (.dup, 1) := dOk_get (q := (1, .dup, 1)) ok_tb_A_add_1_0 1 rfl
theorem d_A_add_1_2 : decode prog_23_method_25_code 2 = .ok (.getfield 63, 3) := dOk_get (q := (2, .getfield 63, 3)) ok_tb_A_add_1_0 2 rfl
theorem d_A_add_1_5 : decode prog_23_method_25_code 5 = .ok (.iconst 1, 1) := dOk_get (q := (5, .iconst 1, 1)) ok_tb_A_add_1_0 3 rfl
theorem d_A_add_1_6 : decode prog_23_method_25_code 6 = .ok (.iadd, 1) := dOk_get (q := (6, .iadd, 1)) ok_tb_A_add_1_0 4 rfl
theorem d_A_add_1_7 : decode prog_23_method_25_code 7 = .ok (.putfield 63, 3) := dOk_get (q := (7, .putfield 63, 3)) ok_tb_A_add_1_0 5 rfl
theorem d_A_add_1_10 : decode prog_23_method_25_code 10 = .ok (.aload_n 0, 1) := dOk_get (q := (10, .aload_n 0, 1)) ok_tb_A_add_1_0 6 rfl
theorem d_A_add_1_11 : decode prog_23_method_25_code 11 = .ok (.aload_n 1, 1) := dOk_get (q := (11, .aload_n 1, 1)) ok_tb_A_add_1_0 7 rfl
theorem d_A_add_1_12 : decode prog_23_method_25_code 12 = .ok (.aload_n 0, 1) := dOk_get (q := (12, .aload_n 0, 1)) ok_tb_A_add_1_0 8 rfl
theorem d_A_add_1_13 : decode prog_23_method_25_code 13 = .ok (.getfield 9, 3) := dOk_get (q := (13, .getfield 9, 3)) ok_tb_A_add_1_0 9 rfl
theorem d_A_add_1_16 : decode prog_23_method_25_code 16 = .ok (.aload_n 0, 1) := dOk_get (q := (16, .aload_n 0, 1)) ok_tb_A_add_1_0 10 rfl
theorem d_A_add_1_17 : decode prog_23_method_25_code 17 = .ok (.getfield 48, 3) := dOk_get (q := (17, .getfield 48, 3)) ok_tb_A_add_1_0 11 rfl
theorem d_A_add_1_20 : decode prog_23_method_25_code 20 = .ok (.invokevirtual 131, 3) := dOk_get (q := (20, .invokevirtual 131, 3)) ok_tb_A_add_1_0 12 rfl
theorem d_A_add_1_23 : decode prog_23_method_25_code 23 = .ok (.iconst 1, 1) := dOk_get (q := (23, .iconst 1, 1)) ok_tb_A_add_1_0 13 rfl
theorem d_A_add_1_24 : decode prog_23_method_25_code 24 = .ok (.ireturn, 1) := dOk_get (q := (24, .ireturn, 1)) ok_tb_A_add_1_0 14 rfl
def tb_A_add_2_0 : List (Nat × Instr × Nat) := [(0, .iload_n 3, 1), (1, .aload_n 2, 1), (2, .arraylength, 1), (3, .if_icmp .ne 8, 3), (6, .aload_n 0, 1), (7, .invokevirtual 129, 3), (10, .astore_n 2, 1), (11, .aload_n 2, 1), (12, .iload_n 3, 1), (13, .aload_n 1, 1), (14, .aastore, 1), (15, .aload_n 0, 1), (16, .iload_n 3, 1), (17, .iconst 1, 1), (18, .iadd, 1), (19, .putfield 48, 3), (22, .return_, 1)]
theorem ok_tb_A_add_2_0 : dOk prog_23_method_24_code tb_A_add_2_0 = true := by decide +kernel
theorem d_A_add_2_0 : decode prog_23_method_24_code 0 = .ok (.iload_n 3, 1) := dOk_get (q := (0, .iload_n 3, 1)) ok_tb_A_add_2_0 0 rfl
theorem d_A_add_2_1 : decode prog_23_method_24_code 1 = .ok (.aload_n 2, 1) := dOk_get (q := (1, .aload_n 2, 1)) ok_tb_A_add_2_0 1 rfl
theorem d_A_add_2_2 : decode prog_23_method_24_code 2 = .ok (.arraylength, 1) := dOk_get (q := (2, .arraylength, 1)) ok_tb_A_add_2_0 2 rfl
theorem d_A_add_2_3 : decode prog_23_method_24_code 3 = .ok (.if_icmp .ne 8, 3) := dOk_get (q := (3, .if_icmp .ne 8, 3)) ok_tb_A_add_2_0 3 rfl
theorem d_A_add_2_6 : decode prog_23_method_24_code 6 = .ok (.aload_n 0, 1) := dOk_get (q := (6, .aload_n 0, 1)) ok_tb_A_add_2_0 4 rfl
theorem d_A_add_2_7 : decode prog_23_method_24_code 7 = .ok (.invokevirtual 129, 3) := dOk_get (q := (7, .invokevirtual 129, 3)) ok_tb_A_add_2_0 5 rfl
theorem d_A_add_2_10 : decode prog_23_method_24_code 10 = .ok (.astore_n 2, 1) := dOk_get (q := (10, .astore_n 2, 1)) ok_tb_A_add_2_0 6 rfl
theorem d_A_add_2_11 : decode prog_23_method_24_code 11 = .ok (.aload_n 2, 1) := dOk_get (q := (11, .aload_n 2, 1)) ok_tb_A_add_2_0 7 rfl
theorem d_A_add_2_12 : decode prog_23_method_24_code 12 = .ok (.iload_n 3, 1) := dOk_get (q := (12, .iload_n 3, 1)) ok_tb_A_add_2_0 8 rfl
theorem d_A_add_2_13 : decode prog_23_method_24_code 13 = .ok (.aload_n 1, 1) := dOk_get (q := (13, .aload_n 1, 1)) ok_tb_A_add_2_0 9 rfl
theorem d_A_add_2_14 : decode prog_23_method_24_code 14 = .ok (.aastore, 1) := dOk_get (q := (14, .aastore, 1)) ok_tb_A_add_2_0 10 rfl
theorem d_A_add_2_15 : decode prog_23_method_24_code 15 = .ok (.aload_n 0, 1) := dOk_get (q := (15, .aload_n 0, 1)) ok_tb_A_add_2_0 11 rfl
theorem d_A_add_2_16 : decode prog_23_method_24_code 16 = .ok (.iload_n 3, 1) := dOk_get (q := (16, .iload_n 3, 1)) ok_tb_A_add_2_0 12 rfl
theorem d_A_add_2_17 : decode prog_23_method_24_code 17 = .ok (.iconst 1, 1) := dOk_get (q := (17, .iconst 1, 1)) ok_tb_A_add_2_0 13 rfl
theorem d_A_add_2_18 : decode prog_23_method_24_code 18 = .ok (.iadd, 1) := dOk_get (q := (18, .iadd, 1)) ok_tb_A_add_2_0 14 rfl
theorem d_A_add_2_19 : decode prog_23_method_24_code 19 = .ok (.putfield 48, 3) := dOk_get (q := (19, .putfield 48, 3)) ok_tb_A_add_2_0 15 rfl
theorem d_A_add_2_22 : decode prog_23_method_24_code 22 = .ok (.return_, 1) := dOk_get (q := (22, .return_, 1)) ok_tb_A_add_2_0 16 rfl
def tb_A_grow_1_0 : List (Nat × Instr × Nat) := [(0, .aload_n 0, 1), (1, .aload_n 0, 1), (2, .getfield 48, 3), (5, .iconst 1, 1), (6, .iadd, 1), (7, .invokevirtual 69, 3), (10, .areturn, 1)]
theorem ok_tb_A_grow_1_0 : dOk prog_23_method_7_code tb_A_grow_1_0 = true := by decide +kernel
theorem d_A_grow_1_0 : decode prog_23_method_7_code 0 = .ok (.aload_n 0, 1) := dOk_get (q := (0, .aload_n 0, 1)) ok_tb_A_grow_1_0 0 rfl
theorem d_A_grow_1_1 : decode prog_23_method_7_code 1 = .ok (.aload_n 0, 1) := dOk_get (q := (1, .aload_n 0, 1)) ok_tb_A_grow_1_0 1 rfl
theorem d_A_grow_1_2 : decode prog_23_method_7_code 2 = .ok (.getfield 48, 3) := dOk_get (q := (2, .getfield 48, 3)) ok_tb_A_grow_1_0 2 rfl
theorem d_A_grow_1_5 : decode prog_23_method_7_code 5 = .ok (.iconst 1, 1) := dOk_get (q := (5, .iconst 1, 1)) ok_tb_A_grow_1_0 3 rfl
theorem d_A_grow_1_6 : decode prog_23_method_7_code 6 = .ok (.iadd, 1) := dOk_get (q := (6, .iadd, 1)) ok_tb_A_grow_1_0 4 rfl
theorem d_A_grow_1_7 : decode prog_23_method_7_code 7 = .ok (.invokevirtual 69, 3) := dOk_get (q := (7, .invokevirtual 69, 3)) ok_tb_A_grow_1_0 5 rfl
theorem d_A_grow_1_10 : decode prog_23_method_7_code 10 = .ok (.areturn, 1) := dOk_get (q := (10, .areturn, 1)) ok_tb_A_grow_1_0 6 rfl
def tb_A_grow_2_0 : List (Nat × Instr × Nat) := [(0, .aload_n 0, 1), (1, .getfield 9, 3), (4, .arraylength, 1), (5, .istore_n 2, 1), (6, .iload_n 2, 1), (7, .ifCond .gt 13, 3), (10, .aload_n 0, 1), (11, .getfield 9, 3), (14, .getstatic 39, 3), (17, .if_acmp .eq 28, 3), (20, .iload_n 2, 1), (21, .iload_n 1, 1), (22, .iload_n 2, 1), (23, .isub, 1), (24, .iload_n 2, 1), (25, .iconst 1, 1), (26, .ishr, 1), (27, .invokestatic 73, 3), (30, .istore_n 3, 1), (31, .aload_n 0, 1), (32, .aload_n 0, 1), (33, .getfield 9, 3), (36, .iload_n 3, 1), (37, .invokestatic 66, 3), (40, .dup_x1, 1), (41, .putfield 9, 3), (44, .areturn, 1), (45, .aload_n 0, 1), (46, .bipush 10, 2), (48, .iload_n 1, 1), (49, .invokestatic 79, 3), (52, .anewarray 7, 3), (55, .dup_x1, 1), (56, .putfield 9, 3), (59, .areturn, 1)]
theorem ok_tb_A_grow_2_0 : dOk prog_23_method_6_code tb_A_grow_2_0 = true := by decide +kernel
theorem d_A_grow_2_0 : decode prog_23_method_6_code 0 = .ok (.aload_n 0, 1) := dOk_get (q := (0, .aload_n 0, 1)) ok_tb_A_grow_2_0 0 rfl
theorem d_A_grow_2_1 : decode prog_23_method_6_code 1 = .ok (.getfield 9, 3) := dOk_get (q := (1, .getfield 9, 3)) ok_tb_A_grow_2_0 1 rfl
theorem d_A_grow_2_4 : decode prog_23_method_6_code 4 = .ok (.arraylength, 1) := dOk_get (q := (4, .arraylength, 1)) ok_tb_A_grow_2_0 2 rfl
theorem d_A_grow_2_5 : decode prog_23_method_6_code 5 = .ok (.istore_n 2, 1) := dOk_get (q := (5, .istore_n 2, 1)) ok_tb_A_grow_2_0 3 rfl
theorem d_A_grow_2_6 : decode prog_23_method_6_code 6 = .ok (.iload_n 2, 1) := dOk_get (q := (6, .iload_n 2, 1)) ok_tb_A_grow_2_0 4 rfl
theorem d_A_grow_2_7 : decode prog_23_method_6_code 7 = .ok (.ifCond .gt 13, 3) := dOk_get (q := (7, .ifCond .gt 13, 3)) ok_tb_A_grow_2_0 5 rfl
theorem d_A_grow_2_10 : decode prog_23_method_6_code 10 = .ok (.aload_n 0, 1) := dOk_get (q := (10, .aload_n 0, 1)) ok_tb_A_grow_2_0 6 rfl
theorem d_A_grow_2_11 : decode prog_23_method_6_code 11 = .ok (.getfield 9, 3) := dOk_get (q := (11, .getfield 9, 3)) ok_tb_A_grow_2_0 7 rfl
theorem d_A_grow_2_14 : decode prog_23_method_6_code 14 = .ok (.getstatic 39, 3) := dOk_get (q := (14, .getstatic 39, 3)) ok_tb_A_grow_2_0 8 rfl
theorem d_A_grow_2_17 : decode prog_23_method_6_code 17 = .ok (.if_acmp .eq 28, 3) := dOk_get (q := (17, .if_acmp .eq 28, 3)) ok_tb_A_grow_2_0 9 rfl
theorem d_A_grow_2_20 : decode prog_23_method_6_code 20 = .ok (.iload_n 2, 1) := dOk_get (q := (20, .iload_n 2, 1)) ok_tb_A_grow_2_0 10 rfl
theorem d_A_grow_2_21 : decode prog_23_method_6_code 21 = .ok (.iload_n 1, 1) := dOk_get (q := (21, .iload_n 1, 1)) ok_tb_A_grow_2_0 11 rfl
theorem d_A_grow_2_22 : decode prog_23_method_6_code 22 = .ok (.iload_n 2, 1) := dOk_get (q := (22, .iload_n 2, 1)) ok_tb_A_grow_2_0 12 rfl
theorem d_A_grow_2_23 : decode prog_23_method_6_code 23 = .ok (.isub, 1) := dOk_get (q := (23, .isub, 1)) ok_tb_A_grow_2_0 13 rfl
theorem d_A_grow_2_24 : decode prog_23_method_6_code 24 = .ok (.iload_n 2, 1) := dOk_get (q := (24, .iload_n 2, 1)) ok_tb_A_grow_2_0 14 rfl
theorem d_A_grow_2_25 : decode prog_23_method_6_code 25 = .ok (.iconst 1, 1) := dOk_get (q := (25, .iconst 1, 1)) ok_tb_A_grow_2_0 15 rfl
theorem d_A_grow_2_26 : decode prog_23_method_6_code 26 = .ok (.ishr, 1) := dOk_get (q := (26, .ishr, 1)) ok_tb_A_grow_2_0 16 rfl
theorem d_A_grow_2_27 : decode prog_23_method_6_code 27 = .ok (.invokestatic 73, 3) := dOk_get (q := (27, .invokestatic 73, 3)) ok_tb_A_grow_2_0 17 rfl
theorem d_A_grow_2_30 : decode prog_23_method_6_code 30 = .ok (.istore_n 3, 1) := dOk_get (q := (30, .istore_n 3, 1)) ok_tb_A_grow_2_0 18 rfl
theorem d_A_grow_2_31 : decode prog_23_method_6_code 31 = .ok (.aload_n 0, 1) := dOk_get (q := (31, .aload_n 0, 1)) ok_tb_A_grow_2_0 19 rfl
theorem d_A_grow_2_32 : decode prog_23_method_6_code 32 = .ok (.aload_n 0, 1) := dOk_get (q := (32, .aload_n 0, 1)) ok_tb_A_grow_2_0 20 rfl
theorem d_A_grow_2_33 : decode prog_23_method_6_code 33 = .ok (.getfield 9, 3) := dOk_get (q := (33, .getfield 9, 3)) ok_tb_A_grow_2_0 21 rfl
theorem d_A_grow_2_36 : decode prog_23_method_6_code 36 = .ok (.iload_n 3, 1) := dOk_get (q := (36, .iload_n 3, 1)) ok_tb_A_grow_2_0 22 rfl
theorem d_A_grow_2_37 : decode prog_23_method_6_code 37 = .ok (.invokestatic 66, 3) := dOk_get (q := (37, .invokestatic 66, 3)) ok_tb_A_grow_2_0 23 rfl
theorem d_A_grow_2_40 : decode prog_23_method_6_code 40 = .ok (.dup_x1, 1) := dOk_get (q := (40, .dup_x1, 1)) ok_tb_A_grow_2_0 24 rfl
theorem d_A_grow_2_41 : decode prog_23_method_6_code 41 = .ok (.putfield 9, 3) := dOk_get (q := (41, .putfield 9, 3)) ok_tb_A_grow_2_0 25 rfl
theorem d_A_grow_2_44 : decode prog_23_method_6_code 44 = .ok (.areturn, 1) := dOk_get (q := (44, .areturn, 1)) ok_tb_A_grow_2_0 26 rfl
theorem d_A_grow_2_45 : decode prog_23_method_6_code 45 = .ok (.aload_n 0, 1) := dOk_get (q := (45, .aload_n 0, 1)) ok_tb_A_grow_2_0 27 rfl
theorem d_A_grow_2_46 : decode prog_23_method_6_code 46 = .ok (.bipush 10, 2) := dOk_get (q := (46, .bipush 10, 2)) ok_tb_A_grow_2_0 28 rfl
theorem d_A_grow_2_48 : decode prog_23_method_6_code 48 = .ok (.iload_n 1, 1) := dOk_get (q := (48, .iload_n 1, 1)) ok_tb_A_grow_2_0 29 rfl
theorem d_A_grow_2_49 : decode prog_23_method_6_code 49 = .ok (.invokestatic 79, 3) := dOk_get (q := (49, .invokestatic 79, 3)) ok_tb_A_grow_2_0 30 rfl
theorem d_A_grow_2_52 : decode prog_23_method_6_code 52 = .ok (.anewarray 7, 3) := dOk_get (q := (52, .anewarray 7, 3)) ok_tb_A_grow_2_0 31 rfl
theorem d_A_grow_2_55 : decode prog_23_method_6_code 55 = .ok (.dup_x1, 1) := dOk_get (q := (55, .dup_x1, 1)) ok_tb_A_grow_2_0 32 rfl
theorem d_A_grow_2_56 : decode prog_23_method_6_code 56 = .ok (.putfield 9, 3) := dOk_get (q := (56, .putfield 9, 3)) ok_tb_A_grow_2_0 33 rfl
theorem d_A_grow_2_59 : decode prog_23_method_6_code 59 = .ok (.areturn, 1) := dOk_get (q := (59, .areturn, 1)) ok_tb_A_grow_2_0 34 rfl
def tb_As_newLength_0 : List (Nat × Instr × Nat) := [(0, .iload_n 0, 1), (1, .iload_n 1, 1), (2, .iload_n 2, 1), (3, .invokestatic 194, 3), (6, .iadd, 1), (7, .istore_n 3, 1), (8, .iconst 0, 1), (9, .iload_n 3, 1), (10, .if_icmp .ge 11, 3), (13, .iload_n 3, 1), (14, .ldc 200, 2), (16, .if_icmp .gt 5, 3), (19, .iload_n 3, 1), (20, .ireturn, 1), (21, .iload_n 0, 1), (22, .iload_n 1, 1), (23, .invokestatic 201, 3), (26, .ireturn, 1)]
theorem ok_tb_As_newLength_0 : dOk prog_30_method_27_code tb_As_newLength_0 = true := by decide +kernel
theorem d_As_newLength_0 : decode prog_30_method_27_code 0 = .ok (.iload_n 0, 1) := dOk_get (q := (0, .iload_n 0, 1)) ok_tb_As_newLength_0 0 rfl
theorem d_As_newLength_1 : decode prog_30_method_27_code 1 = .ok (.iload_n 1, 1) := dOk_get (q := (1, .iload_n 1, 1)) ok_tb_As_newLength_0 1 rfl
theorem d_As_newLength_2 : decode prog_30_method_27_code 2 = .ok (.iload_n 2, 1) := dOk_get (q := (2, .iload_n 2, 1)) ok_tb_As_newLength_0 2 rfl
theorem d_As_newLength_3 : decode prog_30_method_27_code 3 = .ok (.invokestatic 194, 3) := dOk_get (q := (3, .invokestatic 194, 3)) ok_tb_As_newLength_0 3 rfl
theorem d_As_newLength_6 : decode prog_30_method_27_code 6 = .ok (.iadd, 1) := dOk_get (q := (6, .iadd, 1)) ok_tb_As_newLength_0 4 rfl
theorem d_As_newLength_7 : decode prog_30_method_27_code 7 = .ok (.istore_n 3, 1) := dOk_get (q := (7, .istore_n 3, 1)) ok_tb_As_newLength_0 5 rfl
theorem d_As_newLength_8 : decode prog_30_method_27_code 8 = .ok (.iconst 0, 1) := dOk_get (q := (8, .iconst 0, 1)) ok_tb_As_newLength_0 6 rfl
theorem d_As_newLength_9 : decode prog_30_method_27_code 9 = .ok (.iload_n 3, 1) := dOk_get (q := (9, .iload_n 3, 1)) ok_tb_As_newLength_0 7 rfl
theorem d_As_newLength_10 : decode prog_30_method_27_code 10 = .ok (.if_icmp .ge 11, 3) := dOk_get (q := (10, .if_icmp .ge 11, 3)) ok_tb_As_newLength_0 8 rfl
theorem d_As_newLength_13 : decode prog_30_method_27_code 13 = .ok (.iload_n 3, 1) := dOk_get (q := (13, .iload_n 3, 1)) ok_tb_As_newLength_0 9 rfl
theorem d_As_newLength_14 : decode prog_30_method_27_code 14 = .ok (.ldc 200, 2) := dOk_get (q := (14, .ldc 200, 2)) ok_tb_As_newLength_0 10 rfl
theorem d_As_newLength_16 : decode prog_30_method_27_code 16 = .ok (.if_icmp .gt 5, 3) := dOk_get (q := (16, .if_icmp .gt 5, 3)) ok_tb_As_newLength_0 11 rfl
theorem d_As_newLength_19 : decode prog_30_method_27_code 19 = .ok (.iload_n 3, 1) := dOk_get (q := (19, .iload_n 3, 1)) ok_tb_As_newLength_0 12 rfl
theorem d_As_newLength_20 : decode prog_30_method_27_code 20 = .ok (.ireturn, 1) := dOk_get (q := (20, .ireturn, 1)) ok_tb_As_newLength_0 13 rfl
theorem d_As_newLength_21 : decode prog_30_method_27_code 21 = .ok (.iload_n 0, 1) := dOk_get (q := (21, .iload_n 0, 1)) ok_tb_As_newLength_0 14 rfl
theorem d_As_newLength_22 : decode prog_30_method_27_code 22 = .ok (.iload_n 1, 1) := dOk_get (q := (22, .iload_n 1, 1)) ok_tb_As_newLength_0 15 rfl
theorem d_As_newLength_23 : decode prog_30_method_27_code 23 = .ok (.invokestatic 201, 3) := dOk_get (q := (23, .invokestatic 201, 3)) ok_tb_As_newLength_0 16 rfl
theorem d_As_newLength_26 : decode prog_30_method_27_code 26 = .ok (.ireturn, 1) := dOk_get (q := (26, .ireturn, 1)) ok_tb_As_newLength_0 17 rfl
def tb_As_hugeLength_0 : List (Nat × Instr × Nat) := [(0, .iload_n 0, 1), (1, .iload_n 1, 1), (2, .iadd, 1), (3, .istore_n 2, 1), (4, .iload_n 2, 1), (5, .ifCond .ge 44, 3), (8, .new 204, 3), (11, .dup, 1), (12, .new 89, 3), (15, .dup, 1), (16, .invokespecial 91, 3), (19, .ldc 206, 2), (21, .invokevirtual 94, 3), (24, .iload_n 0, 1), (25, .invokevirtual 98, 3), (28, .ldc 208, 2), (30, .invokevirtual 94, 3), (33, .iload_n 1, 1), (34, .invokevirtual 98, 3), (37, .ldc 210, 2), (39, .invokevirtual 94, 3), (42, .invokevirtual 101, 3), (45, .invokespecial 212, 3), (48, .athrow, 1), (49, .iload_n 2, 1), (50, .ldc 200, 2), (52, .if_icmp .gt 6, 3), (55, .ldc 200, 2), (57, .ireturn, 1), (58, .iload_n 2, 1), (59, .ireturn, 1)]
theorem ok_tb_As_hugeLength_0 : dOk prog_30_method_28_code tb_As_hugeLength_0 = true := by decide +kernel
theorem d_As_hugeLength_0 : decode prog_30_method_28_code 0 = .ok (.iload_n 0, 1) := dOk_get (q := (0, .iload_n 0, 1)) ok_tb_As_hugeLength_0 0 rfl
theorem d_As_hugeLength_1 : decode prog_30_method_28_code 1 = .ok (.iload_n 1, 1) := dOk_get (q := (1, .iload_n 1, 1)) ok_tb_As_hugeLength_0 1 rfl
theorem d_As_hugeLength_2 : decode prog_30_method_28_code 2 = .ok (.iadd, 1) := dOk_get (q := (2, .iadd, 1)) ok_tb_As_hugeLength_0 2 rfl
theorem d_As_hugeLength_3 : decode prog_30_method_28_code 3 = .ok (.istore_n 2, 1) := dOk_get (q := (3, .istore_n 2, 1)) ok_tb_As_hugeLength_0 3 rfl
theorem d_As_hugeLength_4 : decode prog_30_method_28_code 4 = .ok (.iload_n 2, 1) := dOk_get (q := (4, .iload_n 2, 1)) ok_tb_As_hugeLength_0 4 rfl
theorem d_As_hugeLength_5 : decode prog_30_method_28_code 5 = .ok (.ifCond .ge 44, 3) := dOk_get (q := (5, .ifCond .ge 44, 3)) ok_tb_As_hugeLength_0 5 rfl
theorem d_As_hugeLength_8 : decode prog_30_method_28_code 8 = .ok (.new 204, 3) := dOk_get (q := (8, .new 204, 3)) ok_tb_As_hugeLength_0 6 rfl
theorem d_As_hugeLength_11 : decode prog_30_method_28_code 11 = .ok (.dup, 1) := dOk_get (q := (11, .dup, 1)) ok_tb_As_hugeLength_0 7 rfl
theorem d_As_hugeLength_12 : decode prog_30_method_28_code 12 = .ok (.new 89, 3) := dOk_get (q := (12, .new 89, 3)) ok_tb_As_hugeLength_0 8 rfl
theorem d_As_hugeLength_15 : decode prog_30_method_28_code 15 = .ok (.dup, 1) := dOk_get (q := (15, .dup, 1)) ok_tb_As_hugeLength_0 9 rfl
theorem d_As_hugeLength_16 : decode prog_30_method_28_code 16 = .ok (.invokespecial 91, 3) := dOk_get (q := (16, .invokespecial 91, 3)) ok_tb_As_hugeLength_0 10 rfl
theorem d_As_hugeLength_19 : decode prog_30_method_28_code 19 = .ok (.ldc 206, 2) := dOk_get (q := (19, .ldc 206, 2)) ok_tb_As_hugeLength_0 11 rfl
theorem d_As_hugeLength_21 : decode prog_30_method_28_code 21 = .ok (.invokevirtual 94, 3) := dOk_get (q := (21, .invokevirtual 94, 3)) ok_tb_As_hugeLength_0 12 rfl
theorem d_As_hugeLength_24 : decode prog_30_method_28_code 24 = .ok (.iload_n 0, 1) := dOk_get (q := (24, .iload_n 0, 1)) ok_tb_As_hugeLength_0 13 rfl
theorem d_As_hugeLength_25 : decode prog_30_method_28_code 25 = .ok (.invokevirtual 98, 3) := dOk_get (q := (25, .invokevirtual 98, 3)) ok_tb_As_hugeLength_0 14 rfl
theorem d_As_hugeLength_28 : decode prog_30_method_28_code 28 = .ok (.ldc 208, 2) := dOk_get (q := (28, .ldc 208, 2)) ok_tb_As_hugeLength_0 15 rfl
theorem d_As_hugeLength_30 : decode prog_30_method_28_code 30 = .ok (.invokevirtual 94, 3) := dOk_get (q := (30, .invokevirtual 94, 3)) ok_tb_As_hugeLength_0 16 rfl
theorem d_As_hugeLength_33 : decode prog_30_method_28_code 33 = .ok (.iload_n 1, 1) := dOk_get (q := (33, .iload_n 1, 1)) ok_tb_As_hugeLength_0 17 rfl
theorem d_As_hugeLength_34 : decode prog_30_method_28_code 34 = .ok (.invokevirtual 98, 3) := dOk_get (q := (34, .invokevirtual 98, 3)) ok_tb_As_hugeLength_0 18 rfl
theorem d_As_hugeLength_37 : decode prog_30_method_28_code 37 = .ok (.ldc 210, 2) := dOk_get (q := (37, .ldc 210, 2)) ok_tb_As_hugeLength_0 19 rfl
theorem d_As_hugeLength_39 : decode prog_30_method_28_code 39 = .ok (.invokevirtual 94, 3) := dOk_get (q := (39, .invokevirtual 94, 3)) ok_tb_As_hugeLength_0 20 rfl
theorem d_As_hugeLength_42 : decode prog_30_method_28_code 42 = .ok (.invokevirtual 101, 3) := dOk_get (q := (42, .invokevirtual 101, 3)) ok_tb_As_hugeLength_0 21 rfl
theorem d_As_hugeLength_45 : decode prog_30_method_28_code 45 = .ok (.invokespecial 212, 3) := dOk_get (q := (45, .invokespecial 212, 3)) ok_tb_As_hugeLength_0 22 rfl
theorem d_As_hugeLength_48 : decode prog_30_method_28_code 48 = .ok (.athrow, 1) := dOk_get (q := (48, .athrow, 1)) ok_tb_As_hugeLength_0 23 rfl
theorem d_As_hugeLength_49 : decode prog_30_method_28_code 49 = .ok (.iload_n 2, 1) := dOk_get (q := (49, .iload_n 2, 1)) ok_tb_As_hugeLength_0 24 rfl
theorem d_As_hugeLength_50 : decode prog_30_method_28_code 50 = .ok (.ldc 200, 2) := dOk_get (q := (50, .ldc 200, 2)) ok_tb_As_hugeLength_0 25 rfl
theorem d_As_hugeLength_52 : decode prog_30_method_28_code 52 = .ok (.if_icmp .gt 6, 3) := dOk_get (q := (52, .if_icmp .gt 6, 3)) ok_tb_As_hugeLength_0 26 rfl
theorem d_As_hugeLength_55 : decode prog_30_method_28_code 55 = .ok (.ldc 200, 2) := dOk_get (q := (55, .ldc 200, 2)) ok_tb_As_hugeLength_0 27 rfl
theorem d_As_hugeLength_57 : decode prog_30_method_28_code 57 = .ok (.ireturn, 1) := dOk_get (q := (57, .ireturn, 1)) ok_tb_As_hugeLength_0 28 rfl
theorem d_As_hugeLength_58 : decode prog_30_method_28_code 58 = .ok (.iload_n 2, 1) := dOk_get (q := (58, .iload_n 2, 1)) ok_tb_As_hugeLength_0 29 rfl
theorem d_As_hugeLength_59 : decode prog_30_method_28_code 59 = .ok (.ireturn, 1) := dOk_get (q := (59, .ireturn, 1)) ok_tb_As_hugeLength_0 30 rfl
def tb_Ar_copyOf_1_0 : List (Nat × Instr × Nat) := [(0, .aload_n 0, 1), (1, .iload_n 1, 1), (2, .aload_n 0, 1), (3, .invokevirtual 86, 3), (6, .invokestatic 300, 3), (9, .areturn, 1)]
theorem ok_tb_Ar_copyOf_1_0 : dOk prog_24_method_119_code tb_Ar_copyOf_1_0 = true := by decide +kernel
theorem d_Ar_copyOf_1_0 : decode prog_24_method_119_code 0 = .ok (.aload_n 0, 1) := dOk_get (q := (0, .aload_n 0, 1)) ok_tb_Ar_copyOf_1_0 0 rfl
theorem d_Ar_copyOf_1_1 : decode prog_24_method_119_code 1 = .ok (.iload_n 1, 1) := dOk_get (q := (1, .iload_n 1, 1)) ok_tb_Ar_copyOf_1_0 1 rfl
theorem d_Ar_copyOf_1_2 : decode prog_24_method_119_code 2 = .ok (.aload_n 0, 1) := dOk_get (q := (2, .aload_n 0, 1)) ok_tb_Ar_copyOf_1_0 2 rfl
theorem d_Ar_copyOf_1_3 : decode prog_24_method_119_code 3 = .ok (.invokevirtual 86, 3) := dOk_get (q := (3, .invokevirtual 86, 3)) ok_tb_Ar_copyOf_1_0 3 rfl
theorem d_Ar_copyOf_1_6 : decode prog_24_method_119_code 6 = .ok (.invokestatic 300, 3) := dOk_get (q := (6, .invokestatic 300, 3)) ok_tb_Ar_copyOf_1_0 4 rfl
theorem d_Ar_copyOf_1_9 : decode prog_24_method_119_code 9 = .ok (.areturn, 1) := dOk_get (q := (9, .areturn, 1)) ok_tb_Ar_copyOf_1_0 5 rfl
def tb_Ar_copyOf_2_0 : List (Nat × Instr × Nat) := [(0, .aload_n 2, 1), (1, .ldc 110, 2), (3, .if_acmp .ne 10, 3), (6, .iload_n 1, 1), (7, .anewarray 2, 3), (10, .goto 14, 3), (13, .aload_n 2, 1), (14, .invokevirtual 90, 3), (17, .iload_n 1, 1), (18, .invokestatic 95, 3), (21, .checkcast 110, 3), (24, .astore_n 3, 1), (25, .aload_n 0, 1), (26, .iconst 0, 1), (27, .aload_n 3, 1), (28, .iconst 0, 1), (29, .aload_n 0, 1), (30, .arraylength, 1), (31, .iload_n 1, 1), (32, .invokestatic 304, 3), (35, .invokestatic 150, 3), (38, .aload_n 3, 1), (39, .areturn, 1)]
theorem ok_tb_Ar_copyOf_2_0 : dOk prog_24_method_120_code tb_Ar_copyOf_2_0 = true := by decide +kernel
theorem d_Ar_copyOf_2_0 : decode prog_24_method_120_code 0 = .ok (.aload_n 2, 1) := dOk_get (q := (0, .aload_n 2, 1)) ok_tb_Ar_copyOf_2_0 0 rfl
theorem d_Ar_copyOf_2_1 : decode prog_24_method_120_code 1 = .ok (.ldc 110, 2) := dOk_get (q := (1, .ldc 110, 2)) ok_tb_Ar_copyOf_2_0 1 rfl
theorem d_Ar_copyOf_2_3 : decode prog_24_method_120_code 3 = .ok (.if_acmp .ne 10, 3) := dOk_get (q := (3, .if_acmp .ne 10, 3)) ok_tb_Ar_copyOf_2_0 2 rfl
theorem d_Ar_copyOf_2_6 : decode prog_24_method_120_code 6 = .ok (.iload_n 1, 1) := dOk_get (q := (6, .iload_n 1, 1)) ok_tb_Ar_copyOf_2_0 3 rfl
theorem d_Ar_copyOf_2_7 : decode prog_24_method_120_code 7 = .ok (.anewarray 2, 3) := dOk_get (q := (7, .anewarray 2, 3)) ok_tb_Ar_copyOf_2_0 4 rfl
theorem d_Ar_copyOf_2_10 : decode prog_24_method_120_code 10 = .ok (.goto 14, 3) := dOk_get (q := (10, .goto 14, 3)) ok_tb_Ar_copyOf_2_0 5 rfl
theorem d_Ar_copyOf_2_13 : decode prog_24_method_120_code 13 = .ok (.aload_n 2, 1) := dOk_get (q := (13, .aload_n 2, 1)) ok_tb_Ar_copyOf_2_0 6 rfl
theorem d_Ar_copyOf_2_14 : decode prog_24_method_120_code 14 = .ok (.invokevirtual 90, 3) := dOk_get (q := (14, .invokevirtual 90, 3)) ok_tb_Ar_copyOf_2_0 7 rfl
theorem d_Ar_copyOf_2_17 : decode prog_24_method_120_code 17 = .ok (.iload_n 1, 1) := dOk_get (q := (17, .iload_n 1, 1)) ok_tb_Ar_copyOf_2_0 8 rfl
theorem d_Ar_copyOf_2_18 : decode prog_24_method_120_code 18 = .ok (.invokestatic 95, 3) := dOk_get (q := (18, .invokestatic 95, 3)) ok_tb_Ar_copyOf_2_0 9 rfl
theorem d_Ar_copyOf_2_21 : decode prog_24_method_120_code 21 = .ok (.checkcast 110, 3) := dOk_get (q := (21, .checkcast 110, 3)) ok_tb_Ar_copyOf_2_0 10 rfl
theorem d_Ar_copyOf_2_24 : decode prog_24_method_120_code 24 = .ok (.astore_n 3, 1) := dOk_get (q := (24, .astore_n 3, 1)) ok_tb_Ar_copyOf_2_0 11 rfl
theorem d_Ar_copyOf_2_25 : decode prog_24_method_120_code 25 = .ok (.aload_n 0, 1) := dOk_get (q := (25, .aload_n 0, 1)) ok_tb_Ar_copyOf_2_0 12 rfl
theorem d_Ar_copyOf_2_26 : decode prog_24_method_120_code 26 = .ok (.iconst 0, 1) := dOk_get (q := (26, .iconst 0, 1)) ok_tb_Ar_copyOf_2_0 13 rfl
theorem d_Ar_copyOf_2_27 : decode prog_24_method_120_code 27 = .ok (.aload_n 3, 1) := dOk_get (q := (27, .aload_n 3, 1)) ok_tb_Ar_copyOf_2_0 14 rfl
theorem d_Ar_copyOf_2_28 : decode prog_24_method_120_code 28 = .ok (.iconst 0, 1) := dOk_get (q := (28, .iconst 0, 1)) ok_tb_Ar_copyOf_2_0 15 rfl
theorem d_Ar_copyOf_2_29 : decode prog_24_method_120_code 29 = .ok (.aload_n 0, 1) := dOk_get (q := (29, .aload_n 0, 1)) ok_tb_Ar_copyOf_2_0 16 rfl
theorem d_Ar_copyOf_2_30 : decode prog_24_method_120_code 30 = .ok (.arraylength, 1) := dOk_get (q := (30, .arraylength, 1)) ok_tb_Ar_copyOf_2_0 17 rfl
theorem d_Ar_copyOf_2_31 : decode prog_24_method_120_code 31 = .ok (.iload_n 1, 1) := dOk_get (q := (31, .iload_n 1, 1)) ok_tb_Ar_copyOf_2_0 18 rfl
theorem d_Ar_copyOf_2_32 : decode prog_24_method_120_code 32 = .ok (.invokestatic 304, 3) := dOk_get (q := (32, .invokestatic 304, 3)) ok_tb_Ar_copyOf_2_0 19 rfl
theorem d_Ar_copyOf_2_35 : decode prog_24_method_120_code 35 = .ok (.invokestatic 150, 3) := dOk_get (q := (35, .invokestatic 150, 3)) ok_tb_Ar_copyOf_2_0 20 rfl
theorem d_Ar_copyOf_2_38 : decode prog_24_method_120_code 38 = .ok (.aload_n 3, 1) := dOk_get (q := (38, .aload_n 3, 1)) ok_tb_Ar_copyOf_2_0 21 rfl
theorem d_Ar_copyOf_2_39 : decode prog_24_method_120_code 39 = .ok (.areturn, 1) := dOk_get (q := (39, .areturn, 1)) ok_tb_Ar_copyOf_2_0 22 rfl
def tb_Ma_floorMod_0 : List (Nat × Instr × Nat) := [(0, .lload_n 0, 1), (1, .lload_n 2, 1), (2, .lrem, 1), (3, .lstore 4, 2), (5, .lload_n 0, 1), (6, .lload_n 2, 1), (7, .lxor, 1), (8, .lconst 0, 1), (9, .lcmp, 1), (10, .ifCond .ge 15, 3), (13, .lload 4, 2), (15, .lconst 0, 1), (16, .lcmp, 1), (17, .ifCond .eq 8, 3), (20, .lload 4, 2), (22, .lload_n 2, 1), (23, .ladd, 1), (24, .lreturn, 1), (25, .lload 4, 2), (27, .lreturn, 1)]
theorem ok_tb_Ma_floorMod_0 : dOk prog_16_method_52_code tb_Ma_floorMod_0 = true := by decide +kernel
theorem d_Ma_floorMod_0 : decode prog_16_method_52_code 0 = .ok (.lload_n 0, 1) := dOk_get (q := (0, .lload_n 0, 1)) ok_tb_Ma_floorMod_0 0 rfl
theorem d_Ma_floorMod_1 : decode prog_16_method_52_code 1 = .ok (.lload_n 2, 1) := dOk_get (q := (1, .lload_n 2, 1)) ok_tb_Ma_floorMod_0 1 rfl
theorem d_Ma_floorMod_2 : decode prog_16_method_52_code 2 = .ok (.lrem, 1) := dOk_get (q := (2, .lrem, 1)) ok_tb_Ma_floorMod_0 2 rfl
theorem d_Ma_floorMod_3 : decode prog_16_method_52_code 3 = .ok (.lstore 4, 2) := dOk_get (q := (3, .lstore 4, 2)) ok_tb_Ma_floorMod_0 3 rfl
theorem d_Ma_floorMod_5 : decode prog_16_method_52_code 5 = .ok (.lload_n 0, 1) := dOk_get (q := (5, .lload_n 0, 1)) ok_tb_Ma_floorMod_0 4 rfl
theorem d_Ma_floorMod_6 : decode prog_16_method_52_code 6 = .ok (.lload_n 2, 1) := dOk_get (q := (6, .lload_n 2, 1)) ok_tb_Ma_floorMod_0 5 rfl
theorem d_Ma_floorMod_7 : decode prog_16_method_52_code 7 = .ok (.lxor, 1) := dOk_get (q := (7, .lxor, 1)) ok_tb_Ma_floorMod_0 6 rfl
theorem d_Ma_floorMod_8 : decode prog_16_method_52_code 8 = .ok (.lconst 0, 1) := dOk_get (q := (8, .lconst 0, 1)) ok_tb_Ma_floorMod_0 7 rfl
theorem d_Ma_floorMod_9 : decode prog_16_method_52_code 9 = .ok (.lcmp, 1) := dOk_get (q := (9, .lcmp, 1)) ok_tb_Ma_floorMod_0 8 rfl
theorem d_Ma_floorMod_10 : decode prog_16_method_52_code 10 = .ok (.ifCond .ge 15, 3) := dOk_get (q := (10, .ifCond .ge 15, 3)) ok_tb_Ma_floorMod_0 9 rfl
theorem d_Ma_floorMod_13 : decode prog_16_method_52_code 13 = .ok (.lload 4, 2) := dOk_get (q := (13, .lload 4, 2)) ok_tb_Ma_floorMod_0 10 rfl
theorem d_Ma_floorMod_15 : decode prog_16_method_52_code 15 = .ok (.lconst 0, 1) := dOk_get (q := (15, .lconst 0, 1)) ok_tb_Ma_floorMod_0 11 rfl
theorem d_Ma_floorMod_16 : decode prog_16_method_52_code 16 = .ok (.lcmp, 1) := dOk_get (q := (16, .lcmp, 1)) ok_tb_Ma_floorMod_0 12 rfl
theorem d_Ma_floorMod_17 : decode prog_16_method_52_code 17 = .ok (.ifCond .eq 8, 3) := dOk_get (q := (17, .ifCond .eq 8, 3)) ok_tb_Ma_floorMod_0 13 rfl
theorem d_Ma_floorMod_20 : decode prog_16_method_52_code 20 = .ok (.lload 4, 2) := dOk_get (q := (20, .lload 4, 2)) ok_tb_Ma_floorMod_0 14 rfl
theorem d_Ma_floorMod_22 : decode prog_16_method_52_code 22 = .ok (.lload_n 2, 1) := dOk_get (q := (22, .lload_n 2, 1)) ok_tb_Ma_floorMod_0 15 rfl
theorem d_Ma_floorMod_23 : decode prog_16_method_52_code 23 = .ok (.ladd, 1) := dOk_get (q := (23, .ladd, 1)) ok_tb_Ma_floorMod_0 16 rfl
theorem d_Ma_floorMod_24 : decode prog_16_method_52_code 24 = .ok (.lreturn, 1) := dOk_get (q := (24, .lreturn, 1)) ok_tb_Ma_floorMod_0 17 rfl
theorem d_Ma_floorMod_25 : decode prog_16_method_52_code 25 = .ok (.lload 4, 2) := dOk_get (q := (25, .lload 4, 2)) ok_tb_Ma_floorMod_0 18 rfl
theorem d_Ma_floorMod_27 : decode prog_16_method_52_code 27 = .ok (.lreturn, 1) := dOk_get (q := (27, .lreturn, 1)) ok_tb_Ma_floorMod_0 19 rfl
