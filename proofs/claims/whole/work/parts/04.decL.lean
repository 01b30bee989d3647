def tb_L_cell_0 : List (Nat × Instr × Nat) := [(0, .iload_n 1, 1), (1, .aload_n 0, 1), (2, .arraylength, 1), (3, .if_icmp .ge 9, 3), (6, .aload_n 0, 1), (7, .iload_n 1, 1), (8, .iaload, 1), (9, .goto 4, 3), (12, .iconst 0, 1), (13, .ireturn, 1)]
theorem ok_tb_L_cell_0 : dOk method_2_code tb_L_cell_0 = true := by decide +kernel
theorem d_L_cell_0 : decode method_2_code 0 = .ok (.iload_n 1, 1) := dOk_get (q := (0, .iload_n 1, 1)) ok_tb_L_cell_0 0 rfl
theorem d_L_cell_1 : decode method_2_code 1 = .ok (.aload_n 0, 1) := dOk_get (q := (1, .aload_n 0, 1)) ok_tb_L_cell_0 1 rfl
theorem d_L_cell_2 : decode method_2_code 2 = .ok (.arraylength, 1) := dOk_get (q := (2, .arraylength, 1)) ok_tb_L_cell_0 2 rfl
theorem d_L_cell_3 : decode method_2_code 3 = .ok (.if_icmp .ge 9, 3) := dOk_get (q := (3, .if_icmp .ge 9, 3)) ok_tb_L_cell_0 3 rfl
theorem d_L_cell_6 : decode method_2_code 6 = .ok (.aload_n 0, 1) := dOk_get (q := (6, .aload_n 0, 1)) ok_tb_L_cell_0 4 rfl
theorem d_L_cell_7 : decode method_2_code 7 = .ok (.iload_n 1, 1) := dOk_get (q := (7, .iload_n 1, 1)) ok_tb_L_cell_0 5 rfl
theorem d_L_cell_8 : decode method_2_code 8 = .ok (.iaload, 1) := dOk_get (q := (8, .iaload, 1)) ok_tb_L_cell_0 6 rfl
theorem d_L_cell_9 : decode method_2_code 9 = .ok (.goto 4, 3) := dOk_get (q := (9, .goto 4, 3)) ok_tb_L_cell_0 7 rfl
theorem d_L_cell_12 : decode method_2_code 12 = .ok (.iconst 0, 1) := dOk_get (q := (12, .iconst 0, 1)) ok_tb_L_cell_0 8 rfl
theorem d_L_cell_13 : decode method_2_code 13 = .ok (.ireturn, 1) := dOk_get (q := (13, .ireturn, 1)) ok_tb_L_cell_0 9 rfl
def tb_L_shape_0 : List (Nat × Instr × Nat) := [(0, .aload 4, 2), (2, .iconst 0, 1), (3, .aload_n 0, 1), (4, .iload_n 1, 1), (5, .iload_n 2, 1), (6, .iload_n 3, 1), (7, .invokevirtual 7, 3), (10, .i2l, 1), (11, .lastore, 1), (12, .goto 11, 3), (15, .astore 5, 2), (17, .iconst 1, 1), (18, .ireturn, 1), (19, .astore 5, 2), (21, .iconst 2, 1), (22, .ireturn, 1), (23, .iconst 0, 1), (24, .ireturn, 1)]
theorem ok_tb_L_shape_0 : dOk method_3_code tb_L_shape_0 = true := by decide +kernel
theorem d_L_shape_0 : decode method_3_code 0 = .ok (.aload 4, 2) := dOk_get (q := (0, .aload 4, 2)) ok_tb_L_shape_0 0 rfl
theorem d_L_shape_2 : decode method_3_code 2 = .ok (.iconst 0, 1) := dOk_get (q := (2, .iconst 0, 1)) ok_tb_L_shape_0 1 rfl
theorem d_L_shape_3 : decode method_3_code 3 = .ok (.aload_n 0, 1) := dOk_get (q := (3, .aload_n 0, 1)) ok_tb_L_shape_0 2 rfl
theorem d_L_shape_4 : decode method_3_code 4 = .ok (.iload_n 1, 1) := dOk_get (q := (4, .iload_n 1, 1)) ok_tb_L_shape_0 3 rfl
theorem d_L_shape_5 : decode method_3_code 5 = .ok (.iload_n 2, 1) := dOk_get (q := (5, .iload_n 2, 1)) ok_tb_L_shape_0 4 rfl
theorem d_L_shape_6 : decode method_3_code 6 = .ok (.iload_n 3, 1) := dOk_get (q := (6, .iload_n 3, 1)) ok_tb_L_shape_0 5 rfl
theorem d_L_shape_7 : decode method_3_code 7 = .ok (.invokevirtual 7, 3) := dOk_get (q := (7, .invokevirtual 7, 3)) ok_tb_L_shape_0 6 rfl
theorem d_L_shape_10 : decode method_3_code 10 = .ok (.i2l, 1) := dOk_get (q := (10, .i2l, 1)) ok_tb_L_shape_0 7 rfl
theorem d_L_shape_11 : decode method_3_code 11 = .ok (.lastore, 1) := dOk_get (q := (11, .lastore, 1)) ok_tb_L_shape_0 8 rfl
theorem d_L_shape_12 : decode method_3_code 12 = .ok (.goto 11, 3) := dOk_get (q := (12, .goto 11, 3)) ok_tb_L_shape_0 9 rfl
theorem d_L_shape_15 : decode method_3_code 15 = .ok (.astore 5, 2) := dOk_get (q := (15, .astore 5, 2)) ok_tb_L_shape_0 10 rfl
theorem d_L_shape_17 : decode method_3_code 17 = .ok (.iconst 1, 1) := dOk_get (q := (17, .iconst 1, 1)) ok_tb_L_shape_0 11 rfl
theorem d_L_shape_18 : decode method_3_code 18 = .ok (.ireturn, 1) := dOk_get (q := (18, .ireturn, 1)) ok_tb_L_shape_0 12 rfl
theorem d_L_shape_19 : decode method_3_code 19 = .ok (.astore 5, 2) := dOk_get (q := (19, .astore 5, 2)) ok_tb_L_shape_0 13 rfl
theorem d_L_shape_21 : decode method_3_code 21 = .ok (.iconst 2, 1) := dOk_get (q := (21, .iconst 2, 1)) ok_tb_L_shape_0 14 rfl
theorem d_L_shape_22 : decode method_3_code 22 = .ok (.ireturn, 1) := dOk_get (q := (22, .ireturn, 1)) ok_tb_L_shape_0 15 rfl
theorem d_L_shape_23 : decode method_3_code 23 = .ok (.iconst 0, 1) := dOk_get (q := (23, .iconst 0, 1)) ok_tb_L_shape_0 16 rfl
theorem d_L_shape_24 : decode method_3_code 24 = .ok (.ireturn, 1) := dOk_get (q := (24, .ireturn, 1)) ok_tb_L_shape_0 17 rfl
def tb_L_corner_0 : List (Nat × Instr × Nat) := [(0, .aload 6, 2), (2, .iconst 0, 1), (3, .aload_n 0, 1), (4, .iload_n 1, 1), (5, .lload_n 2, 1), (6, .lload 4, 2), (8, .invokevirtual 17, 3), (11, .ifCond .eq 7, 3), (14, .lconst 1, 1), (15, .goto 4, 3), (18, .lconst 0, 1), (19, .lastore, 1), (20, .goto 15, 3), (23, .astore 7, 2), (25, .iconst 1, 1), (26, .ireturn, 1), (27, .astore 7, 2), (29, .iconst 2, 1), (30, .ireturn, 1), (31, .astore 7, 2), (33, .iconst 3, 1), (34, .ireturn, 1), (35, .iconst 0, 1), (36, .ireturn, 1)]
theorem ok_tb_L_corner_0 : dOk method_4_code tb_L_corner_0 = true := by decide +kernel
theorem d_L_corner_0 : decode method_4_code 0 = .ok (.aload 6, 2) := dOk_get (q := (0, .aload 6, 2)) ok_tb_L_corner_0 0 rfl
theorem d_L_corner_2 : decode method_4_code 2 = .ok (.iconst 0, 1) := dOk_get (q := (2, .iconst 0, 1)) ok_tb_L_corner_0 1 rfl
theorem d_L_corner_3 : decode method_4_code 3 = .ok (.aload_n 0, 1) := dOk_get (q := (3, .aload_n 0, 1)) ok_tb_L_corner_0 2 rfl
theorem d_L_corner_4 : decode method_4_code 4 = .ok (.iload_n 1, 1) := dOk_get (q := (4, .iload_n 1, 1)) ok_tb_L_corner_0 3 rfl
theorem d_L_corner_5 : decode method_4_code 5 = .ok (.lload_n 2, 1) := dOk_get (q := (5, .lload_n 2, 1)) ok_tb_L_corner_0 4 rfl
theorem d_L_corner_6 : decode method_4_code 6 = .ok (.lload 4, 2) := dOk_get (q := (6, .lload 4, 2)) ok_tb_L_corner_0 5 rfl
theorem d_L_corner_8 : decode method_4_code 8 = .ok (.invokevirtual 17, 3) := dOk_get (q := (8, .invokevirtual 17, 3)) ok_tb_L_corner_0 6 rfl
theorem d_L_corner_11 : decode method_4_code 11 = .ok (.ifCond .eq 7, 3) := dOk_get (q := (11, .ifCond .eq 7, 3)) ok_tb_L_corner_0 7 rfl
theorem d_L_corner_14 : decode method_4_code 14 = .ok (.lconst 1, 1) := dOk_get (q := (14, .lconst 1, 1)) ok_tb_L_corner_0 8 rfl
theorem d_L_corner_15 : decode method_4_code 15 = .ok (.goto 4, 3) := dOk_get (q := (15, .goto 4, 3)) ok_tb_L_corner_0 9 rfl
theorem d_L_corner_18 : decode method_4_code 18 = .ok (.lconst 0, 1) := dOk_get (q := (18, .lconst 0, 1)) ok_tb_L_corner_0 10 rfl
theorem d_L_corner_19 : decode method_4_code 19 = .ok (.lastore, 1) := dOk_get (q := (19, .lastore, 1)) ok_tb_L_corner_0 11 rfl
theorem d_L_corner_20 : decode method_4_code 20 = .ok (.goto 15, 3) := dOk_get (q := (20, .goto 15, 3)) ok_tb_L_corner_0 12 rfl
theorem d_L_corner_23 : decode method_4_code 23 = .ok (.astore 7, 2) := dOk_get (q := (23, .astore 7, 2)) ok_tb_L_corner_0 13 rfl
theorem d_L_corner_25 : decode method_4_code 25 = .ok (.iconst 1, 1) := dOk_get (q := (25, .iconst 1, 1)) ok_tb_L_corner_0 14 rfl
theorem d_L_corner_26 : decode method_4_code 26 = .ok (.ireturn, 1) := dOk_get (q := (26, .ireturn, 1)) ok_tb_L_corner_0 15 rfl
theorem d_L_corner_27 : decode method_4_code 27 = .ok (.astore 7, 2) := dOk_get (q := (27, .astore 7, 2)) ok_tb_L_corner_0 16 rfl
theorem d_L_corner_29 : decode method_4_code 29 = .ok (.iconst 2, 1) := dOk_get (q := (29, .iconst 2, 1)) ok_tb_L_corner_0 17 rfl
theorem d_L_corner_30 : decode method_4_code 30 = .ok (.ireturn, 1) := dOk_get (q := (30, .ireturn, 1)) ok_tb_L_corner_0 18 rfl
theorem d_L_corner_31 : decode method_4_code 31 = .ok (.astore 7, 2) := dOk_get (q := (31, .astore 7, 2)) ok_tb_L_corner_0 19 rfl
theorem d_L_corner_33 : decode method_4_code 33 = .ok (.iconst 3, 1) := dOk_get (q := (33, .iconst 3, 1)) ok_tb_L_corner_0 20 rfl
theorem d_L_corner_34 : decode method_4_code 34 = .ok (.ireturn, 1) := dOk_get (q := (34, .ireturn, 1)) ok_tb_L_corner_0 21 rfl
theorem d_L_corner_35 : decode method_4_code 35 = .ok (.iconst 0, 1) := dOk_get (q := (35, .iconst 0, 1)) ok_tb_L_corner_0 22 rfl
theorem d_L_corner_36 : decode method_4_code 36 = .ok (.ireturn, 1) := dOk_get (q := (36, .ireturn, 1)) ok_tb_L_corner_0 23 rfl
def tb_L_closeShape_0 : List (Nat × Instr × Nat) := [(0, .aload 4, 2), (2, .iconst 0, 1), (3, .aload_n 0, 1), (4, .iload_n 1, 1), (5, .lload_n 2, 1), (6, .invokevirtual 23, 3), (9, .ifCond .eq 7, 3), (12, .lconst 1, 1), (13, .goto 4, 3), (16, .lconst 0, 1), (17, .lastore, 1), (18, .goto 15, 3), (21, .astore 5, 2), (23, .iconst 1, 1), (24, .ireturn, 1), (25, .astore 5, 2), (27, .iconst 2, 1), (28, .ireturn, 1), (29, .astore 5, 2), (31, .iconst 3, 1), (32, .ireturn, 1), (33, .iconst 0, 1), (34, .ireturn, 1)]
theorem ok_tb_L_closeShape_0 : dOk method_5_code tb_L_closeShape_0 = true := by decide +kernel
theorem d_L_closeShape_0 : decode method_5_code 0 = .ok (.aload 4, 2) := dOk_get (q := (0, .aload 4, 2)) ok_tb_L_closeShape_0 0 rfl
theorem d_L_closeShape_2 : decode method_5_code 2 = .ok (.iconst 0, 1) := dOk_get (q := (2, .iconst 0, 1)) ok_tb_L_closeShape_0 1 rfl
theorem d_L_closeShape_3 : decode method_5_code 3 = .ok (.aload_n 0, 1) := dOk_get (q := (3, .aload_n 0, 1)) ok_tb_L_closeShape_0 2 rfl
theorem d_L_closeShape_4 : decode method_5_code 4 = .ok (.iload_n 1, 1) := dOk_get (q := (4, .iload_n 1, 1)) ok_tb_L_closeShape_0 3 rfl
theorem d_L_closeShape_5 : decode method_5_code 5 = .ok (.lload_n 2, 1) := dOk_get (q := (5, .lload_n 2, 1)) ok_tb_L_closeShape_0 4 rfl
theorem d_L_closeShape_6 : decode method_5_code 6 = .ok (.invokevirtual 23, 3) := dOk_get (q := (6, .invokevirtual 23, 3)) ok_tb_L_closeShape_0 5 rfl
theorem d_L_closeShape_9 : decode method_5_code 9 = .ok (.ifCond .eq 7, 3) := dOk_get (q := (9, .ifCond .eq 7, 3)) ok_tb_L_closeShape_0 6 rfl
theorem d_L_closeShape_12 : decode method_5_code 12 = .ok (.lconst 1, 1) := dOk_get (q := (12, .lconst 1, 1)) ok_tb_L_closeShape_0 7 rfl
theorem d_L_closeShape_13 : decode method_5_code 13 = .ok (.goto 4, 3) := dOk_get (q := (13, .goto 4, 3)) ok_tb_L_closeShape_0 8 rfl
theorem d_L_closeShape_16 : decode method_5_code 16 = .ok (.lconst 0, 1) := dOk_get (q := (16, .lconst 0, 1)) ok_tb_L_closeShape_0 9 rfl
theorem d_L_closeShape_17 : decode method_5_code 17 = .ok (.lastore, 1) := dOk_get (q := (17, .lastore, 1)) ok_tb_L_closeShape_0 10 rfl
theorem d_L_closeShape_18 : decode method_5_code 18 = .ok (.goto 15, 3) := dOk_get (q := (18, .goto 15, 3)) ok_tb_L_closeShape_0 11 rfl
theorem d_L_closeShape_21 : decode method_5_code 21 = .ok (.astore 5, 2) := dOk_get (q := (21, .astore 5, 2)) ok_tb_L_closeShape_0 12 rfl
theorem d_L_closeShape_23 : decode method_5_code 23 = .ok (.iconst 1, 1) := dOk_get (q := (23, .iconst 1, 1)) ok_tb_L_closeShape_0 13 rfl
theorem d_L_closeShape_24 : decode method_5_code 24 = .ok (.ireturn, 1) := dOk_get (q := (24, .ireturn, 1)) ok_tb_L_closeShape_0 14 rfl
theorem d_L_closeShape_25 : decode method_5_code 25 = .ok (.astore 5, 2) := dOk_get (q := (25, .astore 5, 2)) ok_tb_L_closeShape_0 15 rfl
theorem d_L_closeShape_27 : decode method_5_code 27 = .ok (.iconst 2, 1) := dOk_get (q := (27, .iconst 2, 1)) ok_tb_L_closeShape_0 16 rfl
theorem d_L_closeShape_28 : decode method_5_code 28 = .ok (.ireturn, 1) := dOk_get (q := (28, .ireturn, 1)) ok_tb_L_closeShape_0 17 rfl
theorem d_L_closeShape_29 : decode method_5_code 29 = .ok (.astore 5, 2) := dOk_get (q := (29, .astore 5, 2)) ok_tb_L_closeShape_0 18 rfl
theorem d_L_closeShape_31 : decode method_5_code 31 = .ok (.iconst 3, 1) := dOk_get (q := (31, .iconst 3, 1)) ok_tb_L_closeShape_0 19 rfl
theorem d_L_closeShape_32 : decode method_5_code 32 = .ok (.ireturn, 1) := dOk_get (q := (32, .ireturn, 1)) ok_tb_L_closeShape_0 20 rfl
theorem d_L_closeShape_33 : decode method_5_code 33 = .ok (.iconst 0, 1) := dOk_get (q := (33, .iconst 0, 1)) ok_tb_L_closeShape_0 21 rfl
theorem d_L_closeShape_34 : decode method_5_code 34 = .ok (.ireturn, 1) := dOk_get (q := (34, .ireturn, 1)) ok_tb_L_closeShape_0 22 rfl
def tb_L_rule_0 : List (Nat × Instr × Nat) := [(0, .aload 6, 2), (2, .iconst 0, 1), (3, .aload_n 0, 1), (4, .iload_n 1, 1), (5, .iload_n 2, 1), (6, .iload_n 3, 1), (7, .lload 4, 2), (9, .invokevirtual 27, 3), (12, .i2l, 1), (13, .lastore, 1), (14, .goto 7, 3), (17, .astore 7, 2), (19, .iconst 1, 1), (20, .ireturn, 1), (21, .iconst 0, 1), (22, .ireturn, 1)]
theorem ok_tb_L_rule_0 : dOk method_6_code tb_L_rule_0 = true := by decide +kernel
theorem d_L_rule_0 : decode method_6_code 0 = .ok (.aload 6, 2) := dOk_get (q := (0, .aload 6, 2)) ok_tb_L_rule_0 0 rfl
theorem d_L_rule_2 : decode method_6_code 2 = .ok (.iconst 0, 1) := dOk_get (q := (2, .iconst 0, 1)) ok_tb_L_rule_0 1 rfl
theorem d_L_rule_3 : decode method_6_code 3 = .ok (.aload_n 0, 1) := dOk_get (q := (3, .aload_n 0, 1)) ok_tb_L_rule_0 2 rfl
theorem d_L_rule_4 : decode method_6_code 4 = .ok (.iload_n 1, 1) := dOk_get (q := (4, .iload_n 1, 1)) ok_tb_L_rule_0 3 rfl
theorem d_L_rule_5 : decode method_6_code 5 = .ok (.iload_n 2, 1) := dOk_get (q := (5, .iload_n 2, 1)) ok_tb_L_rule_0 4 rfl
theorem d_L_rule_6 : decode method_6_code 6 = .ok (.iload_n 3, 1) := dOk_get (q := (6, .iload_n 3, 1)) ok_tb_L_rule_0 5 rfl
theorem d_L_rule_7 : decode method_6_code 7 = .ok (.lload 4, 2) := dOk_get (q := (7, .lload 4, 2)) ok_tb_L_rule_0 6 rfl
theorem d_L_rule_9 : decode method_6_code 9 = .ok (.invokevirtual 27, 3) := dOk_get (q := (9, .invokevirtual 27, 3)) ok_tb_L_rule_0 7 rfl
theorem d_L_rule_12 : decode method_6_code 12 = .ok (.i2l, 1) := dOk_get (q := (12, .i2l, 1)) ok_tb_L_rule_0 8 rfl
theorem d_L_rule_13 : decode method_6_code 13 = .ok (.lastore, 1) := dOk_get (q := (13, .lastore, 1)) ok_tb_L_rule_0 9 rfl
theorem d_L_rule_14 : decode method_6_code 14 = .ok (.goto 7, 3) := dOk_get (q := (14, .goto 7, 3)) ok_tb_L_rule_0 10 rfl
theorem d_L_rule_17 : decode method_6_code 17 = .ok (.astore 7, 2) := dOk_get (q := (17, .astore 7, 2)) ok_tb_L_rule_0 11 rfl
theorem d_L_rule_19 : decode method_6_code 19 = .ok (.iconst 1, 1) := dOk_get (q := (19, .iconst 1, 1)) ok_tb_L_rule_0 12 rfl
theorem d_L_rule_20 : decode method_6_code 20 = .ok (.ireturn, 1) := dOk_get (q := (20, .ireturn, 1)) ok_tb_L_rule_0 13 rfl
theorem d_L_rule_21 : decode method_6_code 21 = .ok (.iconst 0, 1) := dOk_get (q := (21, .iconst 0, 1)) ok_tb_L_rule_0 14 rfl
theorem d_L_rule_22 : decode method_6_code 22 = .ok (.ireturn, 1) := dOk_get (q := (22, .ireturn, 1)) ok_tb_L_rule_0 15 rfl
def tb_L_cls_0 : List (Nat × Instr × Nat) := [(0, .aload_n 3, 1), (1, .iconst 0, 1), (2, .aload_n 0, 1), (3, .iload_n 1, 1), (4, .iload_n 2, 1), (5, .invokevirtual 31, 3), (8, .ifCond .eq 7, 3), (11, .lconst 1, 1), (12, .goto 4, 3), (15, .lconst 0, 1), (16, .lastore, 1), (17, .goto 11, 3), (20, .astore 4, 2), (22, .iconst 1, 1), (23, .ireturn, 1), (24, .astore 4, 2), (26, .iconst 2, 1), (27, .ireturn, 1), (28, .iconst 0, 1), (29, .ireturn, 1)]
theorem ok_tb_L_cls_0 : dOk method_7_code tb_L_cls_0 = true := by decide +kernel
theorem d_L_cls_0 : decode method_7_code 0 = .ok (.aload_n 3, 1) := dOk_get (q := (0, .aload_n 3, 1)) ok_tb_L_cls_0 0 rfl
theorem d_L_cls_1 : decode method_7_code 1 = .ok (.iconst 0, 1) := dOk_get (q := (1, .iconst 0, 1)) ok_tb_L_cls_0 1 rfl
theorem d_L_cls_2 : decode method_7_code 2 = .ok (.aload_n 0, 1) := dOk_get (q := (2, .aload_n 0, 1)) ok_tb_L_cls_0 2 rfl
theorem d_L_cls_3 : decode method_7_code 3 = .ok (.iload_n 1, 1) := dOk_get (q := (3, .iload_n 1, 1)) ok_tb_L_cls_0 3 rfl
theorem d_L_cls_4 : decode method_7_code 4 = .ok (.iload_n 2, 1) := dOk_get (q := (4, .iload_n 2, 1)) ok_tb_L_cls_0 4 rfl
theorem d_L_cls_5 : decode method_7_code 5 = .ok (.invokevirtual 31, 3) := dOk_get (q := (5, .invokevirtual 31, 3)) ok_tb_L_cls_0 5 rfl
theorem d_L_cls_8 : decode method_7_code 8 = .ok (.ifCond .eq 7, 3) := dOk_get (q := (8, .ifCond .eq 7, 3)) ok_tb_L_cls_0 6 rfl
theorem d_L_cls_11 : decode method_7_code 11 = .ok (.lconst 1, 1) := dOk_get (q := (11, .lconst 1, 1)) ok_tb_L_cls_0 7 rfl
theorem d_L_cls_12 : decode method_7_code 12 = .ok (.goto 4, 3) := dOk_get (q := (12, .goto 4, 3)) ok_tb_L_cls_0 8 rfl
theorem d_L_cls_15 : decode method_7_code 15 = .ok (.lconst 0, 1) := dOk_get (q := (15, .lconst 0, 1)) ok_tb_L_cls_0 9 rfl
theorem d_L_cls_16 : decode method_7_code 16 = .ok (.lastore, 1) := dOk_get (q := (16, .lastore, 1)) ok_tb_L_cls_0 10 rfl
theorem d_L_cls_17 : decode method_7_code 17 = .ok (.goto 11, 3) := dOk_get (q := (17, .goto 11, 3)) ok_tb_L_cls_0 11 rfl
theorem d_L_cls_20 : decode method_7_code 20 = .ok (.astore 4, 2) := dOk_get (q := (20, .astore 4, 2)) ok_tb_L_cls_0 12 rfl
theorem d_L_cls_22 : decode method_7_code 22 = .ok (.iconst 1, 1) := dOk_get (q := (22, .iconst 1, 1)) ok_tb_L_cls_0 13 rfl
theorem d_L_cls_23 : decode method_7_code 23 = .ok (.ireturn, 1) := dOk_get (q := (23, .ireturn, 1)) ok_tb_L_cls_0 14 rfl
theorem d_L_cls_24 : decode method_7_code 24 = .ok (.astore 4, 2) := dOk_get (q := (24, .astore 4, 2)) ok_tb_L_cls_0 15 rfl
theorem d_L_cls_26 : decode method_7_code 26 = .ok (.iconst 2, 1) := dOk_get (q := (26, .iconst 2, 1)) ok_tb_L_cls_0 16 rfl
theorem d_L_cls_27 : decode method_7_code 27 = .ok (.ireturn, 1) := dOk_get (q := (27, .ireturn, 1)) ok_tb_L_cls_0 17 rfl
theorem d_L_cls_28 : decode method_7_code 28 = .ok (.iconst 0, 1) := dOk_get (q := (28, .iconst 0, 1)) ok_tb_L_cls_0 18 rfl
theorem d_L_cls_29 : decode method_7_code 29 = .ok (.ireturn, 1) := dOk_get (q := (29, .ireturn, 1)) ok_tb_L_cls_0 19 rfl
def tb_L_run_0 : List (Nat × Instr × Nat) := [(0, .aload 4, 2), (2, .iconst 0, 1), (3, .aload_n 0, 1), (4, .iload_n 1, 1), (5, .lload_n 2, 1), (6, .invokevirtual 35, 3), (9, .i2l, 1), (10, .lastore, 1), (11, .goto 7, 3), (14, .astore 5, 2), (16, .iconst 1, 1), (17, .ireturn, 1), (18, .iconst 0, 1), (19, .ireturn, 1)]
theorem ok_tb_L_run_0 : dOk method_8_code tb_L_run_0 = true := by decide +kernel
theorem d_L_run_0 : decode method_8_code 0 = .ok (.aload 4, 2) := dOk_get (q := (0, .aload 4, 2)) ok_tb_L_run_0 0 rfl
theorem d_L_run_2 : decode method_8_code 2 = .ok (.iconst 0, 1) := dOk_get (q := (2, .iconst 0, 1)) ok_tb_L_run_0 1 rfl
theorem d_L_run_3 : decode method_8_code 3 = .ok (.aload_n 0, 1) := dOk_get (q := (3, .aload_n 0, 1)) ok_tb_L_run_0 2 rfl
theorem d_L_run_4 : decode method_8_code 4 = .ok (.iload_n 1, 1) := dOk_get (q := (4, .iload_n 1, 1)) ok_tb_L_run_0 3 rfl
theorem d_L_run_5 : decode method_8_code 5 = .ok (.lload_n 2, 1) := dOk_get (q := (5, .lload_n 2, 1)) ok_tb_L_run_0 4 rfl
theorem d_L_run_6 : decode method_8_code 6 = .ok (.invokevirtual 35, 3) := dOk_get (q := (6, .invokevirtual 35, 3)) ok_tb_L_run_0 5 rfl
theorem d_L_run_9 : decode method_8_code 9 = .ok (.i2l, 1) := dOk_get (q := (9, .i2l, 1)) ok_tb_L_run_0 6 rfl
theorem d_L_run_10 : decode method_8_code 10 = .ok (.lastore, 1) := dOk_get (q := (10, .lastore, 1)) ok_tb_L_run_0 7 rfl
theorem d_L_run_11 : decode method_8_code 11 = .ok (.goto 7, 3) := dOk_get (q := (11, .goto 7, 3)) ok_tb_L_run_0 8 rfl
theorem d_L_run_14 : decode method_8_code 14 = .ok (.astore 5, 2) := dOk_get (q := (14, .astore 5, 2)) ok_tb_L_run_0 9 rfl
theorem d_L_run_16 : decode method_8_code 16 = .ok (.iconst 1, 1) := dOk_get (q := (16, .iconst 1, 1)) ok_tb_L_run_0 10 rfl
theorem d_L_run_17 : decode method_8_code 17 = .ok (.ireturn, 1) := dOk_get (q := (17, .ireturn, 1)) ok_tb_L_run_0 11 rfl
theorem d_L_run_18 : decode method_8_code 18 = .ok (.iconst 0, 1) := dOk_get (q := (18, .iconst 0, 1)) ok_tb_L_run_0 12 rfl
theorem d_L_run_19 : decode method_8_code 19 = .ok (.ireturn, 1) := dOk_get (q := (19, .ireturn, 1)) ok_tb_L_run_0 13 rfl
def tb_L_violation_0 : List (Nat × Instr × Nat) := [(0, .aload_n 3, 1), (1, .iconst 0, 1), (2, .aload_n 0, 1), (3, .iload_n 1, 1), (4, .iload_n 2, 1), (5, .invokevirtual 39, 3), (8, .i2l, 1), (9, .lastore, 1), (10, .goto 7, 3), (13, .astore 4, 2), (15, .iconst 1, 1), (16, .ireturn, 1), (17, .iconst 0, 1), (18, .ireturn, 1)]
theorem ok_tb_L_violation_0 : dOk method_9_code tb_L_violation_0 = true := by decide +kernel
theorem d_L_violation_0 : decode method_9_code 0 = .ok (.aload_n 3, 1) := dOk_get (q := (0, .aload_n 3, 1)) ok_tb_L_violation_0 0 rfl
theorem d_L_violation_1 : decode method_9_code 1 = .ok (.iconst 0, 1) := dOk_get (q := (1, .iconst 0, 1)) ok_tb_L_violation_0 1 rfl
theorem d_L_violation_2 : decode method_9_code 2 = .ok (.aload_n 0, 1) := dOk_get (q := (2, .aload_n 0, 1)) ok_tb_L_violation_0 2 rfl
theorem d_L_violation_3 : decode method_9_code 3 = .ok (.iload_n 1, 1) := dOk_get (q := (3, .iload_n 1, 1)) ok_tb_L_violation_0 3 rfl
theorem d_L_violation_4 : decode method_9_code 4 = .ok (.iload_n 2, 1) := dOk_get (q := (4, .iload_n 2, 1)) ok_tb_L_violation_0 4 rfl
theorem d_L_violation_5 : decode method_9_code 5 = .ok (.invokevirtual 39, 3) := dOk_get (q := (5, .invokevirtual 39, 3)) ok_tb_L_violation_0 5 rfl
theorem d_L_violation_8 : decode method_9_code 8 = .ok (.i2l, 1) := dOk_get (q := (8, .i2l, 1)) ok_tb_L_violation_0 6 rfl
theorem d_L_violation_9 : decode method_9_code 9 = .ok (.lastore, 1) := dOk_get (q := (9, .lastore, 1)) ok_tb_L_violation_0 7 rfl
theorem d_L_violation_10 : decode method_9_code 10 = .ok (.goto 7, 3) := dOk_get (q := (10, .goto 7, 3)) ok_tb_L_violation_0 8 rfl
theorem d_L_violation_13 : decode method_9_code 13 = .ok (.astore 4, 2) := dOk_get (q := (13, .astore 4, 2)) ok_tb_L_violation_0 9 rfl
theorem d_L_violation_15 : decode method_9_code 15 = .ok (.iconst 1, 1) := dOk_get (q := (15, .iconst 1, 1)) ok_tb_L_violation_0 10 rfl
theorem d_L_violation_16 : decode method_9_code 16 = .ok (.ireturn, 1) := dOk_get (q := (16, .ireturn, 1)) ok_tb_L_violation_0 11 rfl
theorem d_L_violation_17 : decode method_9_code 17 = .ok (.iconst 0, 1) := dOk_get (q := (17, .iconst 0, 1)) ok_tb_L_violation_0 12 rfl
theorem d_L_violation_18 : decode method_9_code 18 = .ok (.ireturn, 1) := dOk_get (q := (18, .ireturn, 1)) ok_tb_L_violation_0 13 rfl
def tb_L_place_0 : List (Nat × Instr × Nat) := [(0, .aload_n 3, 1), (1, .iconst 0, 1), (2, .aload_n 0, 1), (3, .iload_n 1, 1), (4, .iload_n 2, 1), (5, .invokevirtual 43, 3), (8, .lastore, 1), (9, .goto 7, 3), (12, .astore 4, 2), (14, .iconst 1, 1), (15, .ireturn, 1), (16, .iconst 0, 1), (17, .ireturn, 1)]
theorem ok_tb_L_place_0 : dOk method_10_code tb_L_place_0 = true := by decide +kernel
theorem d_L_place_0 : decode method_10_code 0 = .ok (.aload_n 3, 1) := dOk_get (q := (0, .aload_n 3, 1)) ok_tb_L_place_0 0 rfl
theorem d_L_place_1 : decode method_10_code 1 = .ok (.iconst 0, 1) := dOk_get (q := (1, .iconst 0, 1)) ok_tb_L_place_0 1 rfl
theorem d_L_place_2 : decode method_10_code 2 = .ok (.aload_n 0, 1) := dOk_get (q := (2, .aload_n 0, 1)) ok_tb_L_place_0 2 rfl
theorem d_L_place_3 : decode method_10_code 3 = .ok (.iload_n 1, 1) := dOk_get (q := (3, .iload_n 1, 1)) ok_tb_L_place_0 3 rfl
theorem d_L_place_4 : decode method_10_code 4 = .ok (.iload_n 2, 1) := dOk_get (q := (4, .iload_n 2, 1)) ok_tb_L_place_0 4 rfl
theorem d_L_place_5 : decode method_10_code 5 = .ok (.invokevirtual 43, 3) := dOk_get (q := (5, .invokevirtual 43, 3)) ok_tb_L_place_0 5 rfl
theorem d_L_place_8 : decode method_10_code 8 = .ok (.lastore, 1) := dOk_get (q := (8, .lastore, 1)) ok_tb_L_place_0 6 rfl
theorem d_L_place_9 : decode method_10_code 9 = .ok (.goto 7, 3) := dOk_get (q := (9, .goto 7, 3)) ok_tb_L_place_0 7 rfl
theorem d_L_place_12 : decode method_10_code 12 = .ok (.astore 4, 2) := dOk_get (q := (12, .astore 4, 2)) ok_tb_L_place_0 8 rfl
theorem d_L_place_14 : decode method_10_code 14 = .ok (.iconst 1, 1) := dOk_get (q := (14, .iconst 1, 1)) ok_tb_L_place_0 9 rfl
theorem d_L_place_15 : decode method_10_code 15 = .ok (.ireturn, 1) := dOk_get (q := (15, .ireturn, 1)) ok_tb_L_place_0 10 rfl
theorem d_L_place_16 : decode method_10_code 16 = .ok (.iconst 0, 1) := dOk_get (q := (16, .iconst 0, 1)) ok_tb_L_place_0 11 rfl
theorem d_L_place_17 : decode method_10_code 17 = .ok (.ireturn, 1) := dOk_get (q := (17, .ireturn, 1)) ok_tb_L_place_0 12 rfl
def tb_L_waive_0 : List (Nat × Instr × Nat) := [(0, .aload_n 2, 1), (1, .iconst 0, 1), (2, .aload_n 0, 1), (3, .iload_n 1, 1), (4, .invokevirtual 47, 3), (7, .ifCond .eq 7, 3), (10, .lconst 1, 1), (11, .goto 4, 3), (14, .lconst 0, 1), (15, .lastore, 1), (16, .goto 6, 3), (19, .astore_n 3, 1), (20, .iconst 1, 1), (21, .ireturn, 1), (22, .iconst 0, 1), (23, .ireturn, 1)]
theorem ok_tb_L_waive_0 : dOk method_11_code tb_L_waive_0 = true := by decide +kernel
theorem d_L_waive_0 : decode method_11_code 0 = .ok (.aload_n 2, 1) := dOk_get (q := (0, .aload_n 2, 1)) ok_tb_L_waive_0 0 rfl
theorem d_L_waive_1 : decode method_11_code 1 = .ok (.iconst 0, 1) := dOk_get (q := (1, .iconst 0, 1)) ok_tb_L_waive_0 1 rfl
theorem d_L_waive_2 : decode method_11_code 2 = .ok (.aload_n 0, 1) := dOk_get (q := (2, .aload_n 0, 1)) ok_tb_L_waive_0 2 rfl
theorem d_L_waive_3 : decode method_11_code 3 = .ok (.iload_n 1, 1) := dOk_get (q := (3, .iload_n 1, 1)) ok_tb_L_waive_0 3 rfl
theorem d_L_waive_4 : decode method_11_code 4 = .ok (.invokevirtual 47, 3) := dOk_get (q := (4, .invokevirtual 47, 3)) ok_tb_L_waive_0 4 rfl
theorem d_L_waive_7 : decode method_11_code 7 = .ok (.ifCond .eq 7, 3) := dOk_get (q := (7, .ifCond .eq 7, 3)) ok_tb_L_waive_0 5 rfl
theorem d_L_waive_10 : decode method_11_code 10 = .ok (.lconst 1, 1) := dOk_get (q := (10, .lconst 1, 1)) ok_tb_L_waive_0 6 rfl
theorem d_L_waive_11 : decode method_11_code 11 = .ok (.goto 4, 3) := dOk_get (q := (11, .goto 4, 3)) ok_tb_L_waive_0 7 rfl
theorem d_L_waive_14 : decode method_11_code 14 = .ok (.lconst 0, 1) := dOk_get (q := (14, .lconst 0, 1)) ok_tb_L_waive_0 8 rfl
theorem d_L_waive_15 : decode method_11_code 15 = .ok (.lastore, 1) := dOk_get (q := (15, .lastore, 1)) ok_tb_L_waive_0 9 rfl
theorem d_L_waive_16 : decode method_11_code 16 = .ok (.goto 6, 3) := dOk_get (q := (16, .goto 6, 3)) ok_tb_L_waive_0 10 rfl
theorem d_L_waive_19 : decode method_11_code 19 = .ok (.astore_n 3, 1) := dOk_get (q := (19, .astore_n 3, 1)) ok_tb_L_waive_0 11 rfl
theorem d_L_waive_20 : decode method_11_code 20 = .ok (.iconst 1, 1) := dOk_get (q := (20, .iconst 1, 1)) ok_tb_L_waive_0 12 rfl
theorem d_L_waive_21 : decode method_11_code 21 = .ok (.ireturn, 1) := dOk_get (q := (21, .ireturn, 1)) ok_tb_L_waive_0 13 rfl
theorem d_L_waive_22 : decode method_11_code 22 = .ok (.iconst 0, 1) := dOk_get (q := (22, .iconst 0, 1)) ok_tb_L_waive_0 14 rfl
theorem d_L_waive_23 : decode method_11_code 23 = .ok (.ireturn, 1) := dOk_get (q := (23, .ireturn, 1)) ok_tb_L_waive_0 15 rfl
def tb_L_near_0 : List (Nat × Instr × Nat) := [(0, .aload 9, 2), (2, .iconst 0, 1), (3, .aload_n 0, 1), (4, .lload_n 1, 1), (5, .lload_n 3, 1), (6, .lload 5, 2), (8, .lload 7, 2), (10, .invokevirtual 51, 3), (13, .i2l, 1), (14, .lastore, 1), (15, .goto 7, 3), (18, .astore 10, 2), (20, .iconst 1, 1), (21, .ireturn, 1), (22, .iconst 0, 1), (23, .ireturn, 1)]
theorem ok_tb_L_near_0 : dOk method_12_code tb_L_near_0 = true := by decide +kernel
theorem d_L_near_0 : decode method_12_code 0 = .ok (.aload 9, 2) := dOk_get (q := (0, .aload 9, 2)) ok_tb_L_near_0 0 rfl
theorem d_L_near_2 : decode method_12_code 2 = .ok (.iconst 0, 1) := dOk_get (q := (2, .iconst 0, 1)) ok_tb_L_near_0 1 rfl
theorem d_L_near_3 : decode method_12_code 3 = .ok (.aload_n 0, 1) := dOk_get (q := (3, .aload_n 0, 1)) ok_tb_L_near_0 2 rfl
theorem d_L_near_4 : decode method_12_code 4 = .ok (.lload_n 1, 1) := dOk_get (q := (4, .lload_n 1, 1)) ok_tb_L_near_0 3 rfl
theorem d_L_near_5 : decode method_12_code 5 = .ok (.lload_n 3, 1) := dOk_get (q := (5, .lload_n 3, 1)) ok_tb_L_near_0 4 rfl
theorem d_L_near_6 : decode method_12_code 6 = .ok (.lload 5, 2) := dOk_get (q := (6, .lload 5, 2)) ok_tb_L_near_0 5 rfl
theorem d_L_near_8 : decode method_12_code 8 = .ok (.lload 7, 2) := dOk_get (q := (8, .lload 7, 2)) ok_tb_L_near_0 6 rfl
theorem d_L_near_10 : decode method_12_code 10 = .ok (.invokevirtual 51, 3) := dOk_get (q := (10, .invokevirtual 51, 3)) ok_tb_L_near_0 7 rfl
theorem d_L_near_13 : decode method_12_code 13 = .ok (.i2l, 1) := dOk_get (q := (13, .i2l, 1)) ok_tb_L_near_0 8 rfl
theorem d_L_near_14 : decode method_12_code 14 = .ok (.lastore, 1) := dOk_get (q := (14, .lastore, 1)) ok_tb_L_near_0 9 rfl
theorem d_L_near_15 : decode method_12_code 15 = .ok (.goto 7, 3) := dOk_get (q := (15, .goto 7, 3)) ok_tb_L_near_0 10 rfl
theorem d_L_near_18 : decode method_12_code 18 = .ok (.astore 10, 2) := dOk_get (q := (18, .astore 10, 2)) ok_tb_L_near_0 11 rfl
theorem d_L_near_20 : decode method_12_code 20 = .ok (.iconst 1, 1) := dOk_get (q := (20, .iconst 1, 1)) ok_tb_L_near_0 12 rfl
theorem d_L_near_21 : decode method_12_code 21 = .ok (.ireturn, 1) := dOk_get (q := (21, .ireturn, 1)) ok_tb_L_near_0 13 rfl
theorem d_L_near_22 : decode method_12_code 22 = .ok (.iconst 0, 1) := dOk_get (q := (22, .iconst 0, 1)) ok_tb_L_near_0 14 rfl
theorem d_L_near_23 : decode method_12_code 23 = .ok (.ireturn, 1) := dOk_get (q := (23, .ireturn, 1)) ok_tb_L_near_0 15 rfl
def tb_L_move_0 : List (Nat × Instr × Nat) := [(0, .aload 6, 2), (2, .iconst 0, 1), (3, .aload_n 0, 1), (4, .iload_n 1, 1), (5, .lload_n 2, 1), (6, .lload 4, 2), (8, .invokevirtual 55, 3), (11, .ifCond .eq 7, 3), (14, .lconst 1, 1), (15, .goto 4, 3), (18, .lconst 0, 1), (19, .lastore, 1), (20, .goto 7, 3), (23, .astore 7, 2), (25, .iconst 1, 1), (26, .ireturn, 1), (27, .iconst 0, 1), (28, .ireturn, 1)]
theorem ok_tb_L_move_0 : dOk method_13_code tb_L_move_0 = true := by decide +kernel
theorem d_L_move_0 : decode method_13_code 0 = .ok (.aload 6, 2) := dOk_get (q := (0, .aload 6, 2)) ok_tb_L_move_0 0 rfl
theorem d_L_move_2 : decode method_13_code 2 = .ok (.iconst 0, 1) := dOk_get (q := (2, .iconst 0, 1)) ok_tb_L_move_0 1 rfl
theorem d_L_move_3 : decode method_13_code 3 = .ok (.aload_n 0, 1) := dOk_get (q := (3, .aload_n 0, 1)) ok_tb_L_move_0 2 rfl
theorem d_L_move_4 : decode method_13_code 4 = .ok (.iload_n 1, 1) := dOk_get (q := (4, .iload_n 1, 1)) ok_tb_L_move_0 3 rfl
theorem d_L_move_5 : decode method_13_code 5 = .ok (.lload_n 2, 1) := dOk_get (q := (5, .lload_n 2, 1)) ok_tb_L_move_0 4 rfl
theorem d_L_move_6 : decode method_13_code 6 = .ok (.lload 4, 2) := dOk_get (q := (6, .lload 4, 2)) ok_tb_L_move_0 5 rfl
theorem d_L_move_8 : decode method_13_code 8 = .ok (.invokevirtual 55, 3) := dOk_get (q := (8, .invokevirtual 55, 3)) ok_tb_L_move_0 6 rfl
theorem d_L_move_11 : decode method_13_code 11 = .ok (.ifCond .eq 7, 3) := dOk_get (q := (11, .ifCond .eq 7, 3)) ok_tb_L_move_0 7 rfl
theorem d_L_move_14 : decode method_13_code 14 = .ok (.lconst 1, 1) := dOk_get (q := (14, .lconst 1, 1)) ok_tb_L_move_0 8 rfl
theorem d_L_move_15 : decode method_13_code 15 = .ok (.goto 4, 3) := dOk_get (q := (15, .goto 4, 3)) ok_tb_L_move_0 9 rfl
theorem d_L_move_18 : decode method_13_code 18 = .ok (.lconst 0, 1) := dOk_get (q := (18, .lconst 0, 1)) ok_tb_L_move_0 10 rfl
theorem d_L_move_19 : decode method_13_code 19 = .ok (.lastore, 1) := dOk_get (q := (19, .lastore, 1)) ok_tb_L_move_0 11 rfl
theorem d_L_move_20 : decode method_13_code 20 = .ok (.goto 7, 3) := dOk_get (q := (20, .goto 7, 3)) ok_tb_L_move_0 12 rfl
theorem d_L_move_23 : decode method_13_code 23 = .ok (.astore 7, 2) := dOk_get (q := (23, .astore 7, 2)) ok_tb_L_move_0 13 rfl
theorem d_L_move_25 : decode method_13_code 25 = .ok (.iconst 1, 1) := dOk_get (q := (25, .iconst 1, 1)) ok_tb_L_move_0 14 rfl
theorem d_L_move_26 : decode method_13_code 26 = .ok (.ireturn, 1) := dOk_get (q := (26, .ireturn, 1)) ok_tb_L_move_0 15 rfl
theorem d_L_move_27 : decode method_13_code 27 = .ok (.iconst 0, 1) := dOk_get (q := (27, .iconst 0, 1)) ok_tb_L_move_0 16 rfl
theorem d_L_move_28 : decode method_13_code 28 = .ok (.ireturn, 1) := dOk_get (q := (28, .ireturn, 1)) ok_tb_L_move_0 17 rfl
def tb_L_order_0 : List (Nat × Instr × Nat) := [(0, .aload_n 2, 1), (1, .iconst 0, 1), (2, .aload_n 0, 1), (3, .iload_n 1, 1), (4, .invokevirtual 58, 3), (7, .i2l, 1), (8, .lastore, 1), (9, .goto 6, 3), (12, .astore_n 3, 1), (13, .iconst 1, 1), (14, .ireturn, 1), (15, .iconst 0, 1), (16, .ireturn, 1)]
theorem ok_tb_L_order_0 : dOk method_14_code tb_L_order_0 = true := by decide +kernel
theorem d_L_order_0 : decode method_14_code 0 = .ok (.aload_n 2, 1) := dOk_get (q := (0, .aload_n 2, 1)) ok_tb_L_order_0 0 rfl
theorem d_L_order_1 : decode method_14_code 1 = .ok (.iconst 0, 1) := dOk_get (q := (1, .iconst 0, 1)) ok_tb_L_order_0 1 rfl
theorem d_L_order_2 : decode method_14_code 2 = .ok (.aload_n 0, 1) := dOk_get (q := (2, .aload_n 0, 1)) ok_tb_L_order_0 2 rfl
theorem d_L_order_3 : decode method_14_code 3 = .ok (.iload_n 1, 1) := dOk_get (q := (3, .iload_n 1, 1)) ok_tb_L_order_0 3 rfl
theorem d_L_order_4 : decode method_14_code 4 = .ok (.invokevirtual 58, 3) := dOk_get (q := (4, .invokevirtual 58, 3)) ok_tb_L_order_0 4 rfl
theorem d_L_order_7 : decode method_14_code 7 = .ok (.i2l, 1) := dOk_get (q := (7, .i2l, 1)) ok_tb_L_order_0 5 rfl
theorem d_L_order_8 : decode method_14_code 8 = .ok (.lastore, 1) := dOk_get (q := (8, .lastore, 1)) ok_tb_L_order_0 6 rfl
theorem d_L_order_9 : decode method_14_code 9 = .ok (.goto 6, 3) := dOk_get (q := (9, .goto 6, 3)) ok_tb_L_order_0 7 rfl
theorem d_L_order_12 : decode method_14_code 12 = .ok (.astore_n 3, 1) := dOk_get (q := (12, .astore_n 3, 1)) ok_tb_L_order_0 8 rfl
theorem d_L_order_13 : decode method_14_code 13 = .ok (.iconst 1, 1) := dOk_get (q := (13, .iconst 1, 1)) ok_tb_L_order_0 9 rfl
theorem d_L_order_14 : decode method_14_code 14 = .ok (.ireturn, 1) := dOk_get (q := (14, .ireturn, 1)) ok_tb_L_order_0 10 rfl
theorem d_L_order_15 : decode method_14_code 15 = .ok (.iconst 0, 1) := dOk_get (q := (15, .iconst 0, 1)) ok_tb_L_order_0 11 rfl
theorem d_L_order_16 : decode method_14_code 16 = .ok (.ireturn, 1) := dOk_get (q := (16, .ireturn, 1)) ok_tb_L_order_0 12 rfl
def tb_L_strips_0 : List (Nat × Instr × Nat) := [(0, .aload_n 2, 1), (1, .iconst 0, 1), (2, .aload_n 0, 1), (3, .iload_n 1, 1), (4, .invokevirtual 62, 3), (7, .i2l, 1), (8, .lastore, 1), (9, .goto 6, 3), (12, .astore_n 3, 1), (13, .iconst 1, 1), (14, .ireturn, 1), (15, .iconst 0, 1), (16, .ireturn, 1)]
theorem ok_tb_L_strips_0 : dOk method_15_code tb_L_strips_0 = true := by decide +kernel
theorem d_L_strips_0 : decode method_15_code 0 = .ok (.aload_n 2, 1) := dOk_get (q := (0, .aload_n 2, 1)) ok_tb_L_strips_0 0 rfl
theorem d_L_strips_1 : decode method_15_code 1 = .ok (.iconst 0, 1) := dOk_get (q := (1, .iconst 0, 1)) ok_tb_L_strips_0 1 rfl
theorem d_L_strips_2 : decode method_15_code 2 = .ok (.aload_n 0, 1) := dOk_get (q := (2, .aload_n 0, 1)) ok_tb_L_strips_0 2 rfl
theorem d_L_strips_3 : decode method_15_code 3 = .ok (.iload_n 1, 1) := dOk_get (q := (3, .iload_n 1, 1)) ok_tb_L_strips_0 3 rfl
theorem d_L_strips_4 : decode method_15_code 4 = .ok (.invokevirtual 62, 3) := dOk_get (q := (4, .invokevirtual 62, 3)) ok_tb_L_strips_0 4 rfl
theorem d_L_strips_7 : decode method_15_code 7 = .ok (.i2l, 1) := dOk_get (q := (7, .i2l, 1)) ok_tb_L_strips_0 5 rfl
theorem d_L_strips_8 : decode method_15_code 8 = .ok (.lastore, 1) := dOk_get (q := (8, .lastore, 1)) ok_tb_L_strips_0 6 rfl
theorem d_L_strips_9 : decode method_15_code 9 = .ok (.goto 6, 3) := dOk_get (q := (9, .goto 6, 3)) ok_tb_L_strips_0 7 rfl
theorem d_L_strips_12 : decode method_15_code 12 = .ok (.astore_n 3, 1) := dOk_get (q := (12, .astore_n 3, 1)) ok_tb_L_strips_0 8 rfl
theorem d_L_strips_13 : decode method_15_code 13 = .ok (.iconst 1, 1) := dOk_get (q := (13, .iconst 1, 1)) ok_tb_L_strips_0 9 rfl
theorem d_L_strips_14 : decode method_15_code 14 = .ok (.ireturn, 1) := dOk_get (q := (14, .ireturn, 1)) ok_tb_L_strips_0 10 rfl
theorem d_L_strips_15 : decode method_15_code 15 = .ok (.iconst 0, 1) := dOk_get (q := (15, .iconst 0, 1)) ok_tb_L_strips_0 11 rfl
theorem d_L_strips_16 : decode method_15_code 16 = .ok (.ireturn, 1) := dOk_get (q := (16, .ireturn, 1)) ok_tb_L_strips_0 12 rfl
def tb_L_law_0 : List (Nat × Instr × Nat) := [(0, .new 8, 3), (3, .dup, 1), (4, .aload_n 0, 1), (5, .iconst 0, 1), (6, .invokestatic 65, 3), (9, .invokespecial 71, 3), (12, .astore_n 1, 1), (13, .new 74, 3), (16, .dup, 1), (17, .aload_n 0, 1), (18, .iconst 0, 1), (19, .invokestatic 65, 3), (22, .invokespecial 76, 3), (25, .astore_n 2, 1), (26, .iconst 1, 1), (27, .newarray .long, 2), (29, .astore_n 3, 1), (30, .iconst 1, 1), (31, .istore 4, 2), (33, .iload 4, 2), (35, .aload_n 0, 1), (36, .arraylength, 1), (37, .bipush 9, 2), (39, .isub, 1), (40, .if_icmp .gt 1440, 3), (43, .aload_n 0, 1), (44, .iload 4, 2), (46, .iaload, 1), (47, .bipush 15, 2), (49, .iand, 1), (50, .tableswitch 1424 0 14 #[74, 154, 305, 412, 536, 611, 711, 779, 846, 909, 1135, 1286, 1299, 1312, 1368], 74), (124, .aload_n 1, 1), (125, .aload_n 0, 1), (126, .iload 4, 2), (128, .iconst 1, 1), (129, .iadd, 1), (130, .iaload, 1), (131, .aload_n 0, 1), (132, .iload 4, 2), (134, .iconst 2, 1), (135, .iadd, 1), (136, .iaload, 1), (137, .aload_n 0, 1), (138, .iload 4, 2), (140, .iconst 3, 1), (141, .iadd, 1), (142, .iaload, 1), (143, .aload_n 3, 1), (144, .invokestatic 77, 3), (147, .istore 5, 2), (149, .aload_n 2, 1), (150, .aload_n 0, 1), (151, .iload 4, 2), (153, .iconst 1, 1), (154, .iadd, 1), (155, .iaload, 1), (156, .aload_n 0, 1), (157, .iload 4, 2), (159, .iconst 2, 1), (160, .iadd, 1), (161, .iaload, 1), (162, .aload_n 0, 1), (163, .iload 4, 2), (165, .iconst 3, 1), (166, .iadd, 1), (167, .iaload, 1), (168, .invokevirtual 80, 3), (171, .istore 6, 2), (173, .aload_n 2, 1), (174, .invokevirtual 81, 3), (177, .iload 5, 2), (179, .if_icmp .eq 5, 3), (182, .iconst 0, 1), (183, .ireturn, 1), (184, .iload 5, 2), (186, .ifCond .ne 15, 3), (189, .aload_n 3, 1), (190, .iconst 0, 1), (191, .laload, 1), (192, .iload 6, 2), (194, .i2l, 1), (195, .lcmp, 1), (196, .ifCond .eq 5, 3), (199, .iconst 0, 1), (200, .ireturn, 1), (201, .goto 1273, 3), (204, .aload_n 1, 1), (205, .aload_n 0, 1), (206, .iload 4, 2), (208, .iconst 1, 1), (209, .iadd, 1), (210, .iaload, 1), (211, .aload_n 0, 1), (212, .iload 4, 2), (214, .iconst 2, 1), (215, .iadd, 1), (216, .iaload, 1), (217, .i2l, 1), (218, .bipush 32, 2), (220, .lshl, 1), (221, .aload_n 0, 1), (222, .iload 4, 2), (224, .iconst 3, 1), (225, .iadd, 1), (226, .iaload, 1), (227, .i2l, 1), (228, .ldc2_w 85, 3), (231, .land, 1), (232, .lor, 1), (233, .aload_n 0, 1), (234, .iload 4, 2), (236, .iconst 4, 1), (237, .iadd, 1), (238, .iaload, 1), (239, .i2l, 1), (240, .bipush 32, 2), (242, .lshl, 1), (243, .aload_n 0, 1), (244, .iload 4, 2), (246, .iconst 5, 1)]
theorem ok_tb_L_law_0 : dOk code tb_L_law_0 = true := by decide +kernel
theorem d_L_law_0 : decode code 0 = .ok (.new 8, 3) := dOk_get (q := (0, .new 8, 3)) ok_tb_L_law_0 0 rfl
theorem d_L_law_3 : decode code 3 = .ok (.dup, 1) := dOk_get (q := (3, .dup, 1)) ok_tb_L_law_0 1 rfl
theorem d_L_law_4 : decode code 4 = .ok (.aload_n 0, 1) := dOk_get (q := (4, .aload_n 0, 1)) ok_tb_L_law_0 2 rfl
theorem d_L_law_5 : decode code 5 = .ok (.iconst 0, 1) := dOk_get (q := (5, .iconst 0, 1)) ok_tb_L_law_0 3 rfl
theorem d_L_law_6 : decode code 6 = .ok (.invokestatic 65, 3) := dOk_get (q := (6, .invokestatic 65, 3)) ok_tb_L_law_0 4 rfl
theorem d_L_law_9 : decode code 9 = .ok (.invokespecial 71, 3) := dOk_get (q := (9, .invokespecial 71, 3)) ok_tb_L_law_0 5 rfl
theorem d_L_law_12 : decode code 12 = .ok (.astore_n 1, 1) := dOk_get (q := (12, .astore_n 1, 1)) ok_tb_L_law_0 6 rfl
theorem d_L_law_13 : decode code 13 = .ok (.new 74, 3) := dOk_get (q := (13, .new 74, 3)) ok_tb_L_law_0 7 rfl
theorem d_L_law_16 : decode code 16 = .ok (.dup, 1) := dOk_get (q := (16, .dup, 1)) ok_tb_L_law_0 8 rfl
theorem d_L_law_17 : decode code 17 = .ok (.aload_n 0, 1) := dOk_get (q := (17, .aload_n 0, 1)) ok_tb_L_law_0 9 rfl
theorem d_L_law_18 : decode code 18 = .ok (.iconst 0, 1) := dOk_get (q := (18, .iconst 0, 1)) ok_tb_L_law_0 10 rfl
theorem d_L_law_19 : decode code 19 = .ok (.invokestatic 65, 3) := dOk_get (q := (19, .invokestatic 65, 3)) ok_tb_L_law_0 11 rfl
theorem d_L_law_22 : decode code 22 = .ok (.invokespecial 76, 3) := dOk_get (q := (22, .invokespecial 76, 3)) ok_tb_L_law_0 12 rfl
theorem d_L_law_25 : decode code 25 = .ok (.astore_n 2, 1) := dOk_get (q := (25, .astore_n 2, 1)) ok_tb_L_law_0 13 rfl
theorem d_L_law_26 : decode code 26 = .ok (.iconst 1, 1) := dOk_get (q := (26, .iconst 1, 1)) ok_tb_L_law_0 14 rfl
theorem d_L_law_27 : decode code 27 = .ok (.newarray .long, 2) := dOk_get (q := (27, .newarray .long, 2)) ok_tb_L_law_0 15 rfl
theorem d_L_law_29 : decode code 29 = .ok (.astore_n 3, 1) := dOk_get (q := (29, .astore_n 3, 1)) ok_tb_L_law_0 16 rfl
theorem d_L_law_30 : decode code 30 = .ok (.iconst 1, 1) := dOk_get (q := (30, .iconst 1, 1)) ok_tb_L_law_0 17 rfl
theorem d_L_law_31 : decode code 31 = .ok (.istore 4, 2) := dOk_get (q := (31, .istore 4, 2)) ok_tb_L_law_0 18 rfl
theorem d_L_law_33 : decode code 33 = .ok (.iload 4, 2) := dOk_get (q := (33, .iload 4, 2)) ok_tb_L_law_0 19 rfl
theorem d_L_law_35 : decode code 35 = .ok (.aload_n 0, 1) := dOk_get (q := (35, .aload_n 0, 1)) ok_tb_L_law_0 20 rfl
theorem d_L_law_36 : decode code 36 = .ok (.arraylength, 1) := dOk_get (q := (36, .arraylength, 1)) ok_tb_L_law_0 21 rfl
theorem d_L_law_37 : decode code 37 = .ok (.bipush 9, 2) := dOk_get (q := (37, .bipush 9, 2)) ok_tb_L_law_0 22 rfl
theorem d_L_law_39 : decode code 39 = .ok (.isub, 1) := dOk_get (q := (39, .isub, 1)) ok_tb_L_law_0 23 rfl
theorem d_L_law_40 : decode code 40 = .ok (.if_icmp .gt 1440, 3) := dOk_get (q := (40, .if_icmp .gt 1440, 3)) ok_tb_L_law_0 24 rfl
theorem d_L_law_43 : decode code 43 = .ok (.aload_n 0, 1) := dOk_get (q := (43, .aload_n 0, 1)) ok_tb_L_law_0 25 rfl
theorem d_L_law_44 : decode code 44 = .ok (.iload 4, 2) := dOk_get (q := (44, .iload 4, 2)) ok_tb_L_law_0 26 rfl
theorem d_L_law_46 : decode code 46 = .ok (.iaload, 1) := dOk_get (q := (46, .iaload, 1)) ok_tb_L_law_0 27 rfl
theorem d_L_law_47 : decode code 47 = .ok (.bipush 15, 2) := dOk_get (q := (47, .bipush 15, 2)) ok_tb_L_law_0 28 rfl
theorem d_L_law_49 : decode code 49 = .ok (.iand, 1) := dOk_get (q := (49, .iand, 1)) ok_tb_L_law_0 29 rfl
theorem d_L_law_50 : decode code 50 = .ok (.tableswitch 1424 0 14 #[74, 154, 305, 412, 536, 611, 711, 779, 846, 909, 1135, 1286, 1299, 1312, 1368], 74) := dOk_get (q := (50, .tableswitch 1424 0 14 #[74, 154, 305, 412, 536, 611, 711, 779, 846, 909, 1135, 1286, 1299, 1312, 1368], 74)) ok_tb_L_law_0 30 rfl
theorem d_L_law_124 : decode code 124 = .ok (.aload_n 1, 1) := dOk_get (q := (124, .aload_n 1, 1)) ok_tb_L_law_0 31 rfl
theorem d_L_law_125 : decode code 125 = .ok (.aload_n 0, 1) := dOk_get (q := (125, .aload_n 0, 1)) ok_tb_L_law_0 32 rfl
theorem d_L_law_126 : decode code 126 = .ok (.iload 4, 2) := dOk_get (q := (126, .iload 4, 2)) ok_tb_L_law_0 33 rfl
theorem d_L_law_128 : decode code 128 = .ok (.iconst 1, 1) := dOk_get (q := (128, .iconst 1, 1)) ok_tb_L_law_0 34 rfl
theorem d_L_law_129 : decode code 129 = .ok (.iadd, 1) := dOk_get (q := (129, .iadd, 1)) ok_tb_L_law_0 35 rfl
theorem d_L_law_130 : decode code 130 = .ok (.iaload, 1) := dOk_get (q := (130, .iaload, 1)) ok_tb_L_law_0 36 rfl
theorem d_L_law_131 : decode code 131 = .ok (.aload_n 0, 1) := dOk_get (q := (131, .aload_n 0, 1)) ok_tb_L_law_0 37 rfl
theorem d_L_law_132 : decode code 132 = .ok (.iload 4, 2) := dOk_get (q := (132, .iload 4, 2)) ok_tb_L_law_0 38 rfl
theorem d_L_law_134 : decode code 134 = .ok (.iconst 2, 1) := dOk_get (q := (134, .iconst 2, 1)) ok_tb_L_law_0 39 rfl
theorem d_L_law_135 : decode code 135 = .ok (.iadd, 1) := dOk_get (q := (135, .iadd, 1)) ok_tb_L_law_0 40 rfl
theorem d_L_law_136 : decode code 136 = .ok (.iaload, 1) := dOk_get (q := (136, .iaload, 1)) ok_tb_L_law_0 41 rfl
theorem d_L_law_137 : decode code 137 = .ok (.aload_n 0, 1) := dOk_get (q := (137, .aload_n 0, 1)) ok_tb_L_law_0 42 rfl
theorem d_L_law_138 : decode code 138 = .ok (.iload 4, 2) := dOk_get (q := (138, .iload 4, 2)) ok_tb_L_law_0 43 rfl
theorem d_L_law_140 : decode code 140 = .ok (.iconst 3, 1) := dOk_get (q := (140, .iconst 3, 1)) ok_tb_L_law_0 44 rfl
theorem d_L_law_141 : decode code 141 = .ok (.iadd, 1) := dOk_get (q := (141, .iadd, 1)) ok_tb_L_law_0 45 rfl
theorem d_L_law_142 : decode code 142 = .ok (.iaload, 1) := dOk_get (q := (142, .iaload, 1)) ok_tb_L_law_0 46 rfl
theorem d_L_law_143 : decode code 143 = .ok (.aload_n 3, 1) := dOk_get (q := (143, .aload_n 3, 1)) ok_tb_L_law_0 47 rfl
theorem d_L_law_144 : decode code 144 = .ok (.invokestatic 77, 3) := dOk_get (q := (144, .invokestatic 77, 3)) ok_tb_L_law_0 48 rfl
theorem d_L_law_147 : decode code 147 = .ok (.istore 5, 2) := dOk_get (q := (147, .istore 5, 2)) ok_tb_L_law_0 49 rfl
theorem d_L_law_149 : decode code 149 = .ok (.aload_n 2, 1) := dOk_get (q := (149, .aload_n 2, 1)) ok_tb_L_law_0 50 rfl
theorem d_L_law_150 : decode code 150 = .ok (.aload_n 0, 1) := dOk_get (q := (150, .aload_n 0, 1)) ok_tb_L_law_0 51 rfl
theorem d_L_law_151 : decode code 151 = .ok (.iload 4, 2) := dOk_get (q := (151, .iload 4, 2)) ok_tb_L_law_0 52 rfl
theorem d_L_law_153 : decode code 153 = .ok (.iconst 1, 1) := dOk_get (q := (153, .iconst 1, 1)) ok_tb_L_law_0 53 rfl
theorem d_L_law_154 : decode code 154 = .ok (.iadd, 1) := dOk_get (q := (154, .iadd, 1)) ok_tb_L_law_0 54 rfl
theorem d_L_law_155 : decode code 155 = .ok (.iaload, 1) := dOk_get (q := (155, .iaload, 1)) ok_tb_L_law_0 55 rfl
theorem d_L_law_156 : decode code 156 = .ok (.aload_n 0, 1) := dOk_get (q := (156, .aload_n 0, 1)) ok_tb_L_law_0 56 rfl
theorem d_L_law_157 : decode code 157 = .ok (.iload 4, 2) := dOk_get (q := (157, .iload 4, 2)) ok_tb_L_law_0 57 rfl
theorem d_L_law_159 : decode code 159 = .ok (.iconst 2, 1) := dOk_get (q := (159, .iconst 2, 1)) ok_tb_L_law_0 58 rfl
theorem d_L_law_160 : decode code 160 = .ok (.iadd, 1) := dOk_get (q := (160, .iadd, 1)) ok_tb_L_law_0 59 rfl
theorem d_L_law_161 : decode code 161 = .ok (.iaload, 1) := dOk_get (q := (161, .iaload, 1)) ok_tb_L_law_0 60 rfl
theorem d_L_law_162 : decode code 162 = .ok (.aload_n 0, 1) := dOk_get (q := (162, .aload_n 0, 1)) ok_tb_L_law_0 61 rfl
theorem d_L_law_163 : decode code 163 = .ok (.iload 4, 2) := dOk_get (q := (163, .iload 4, 2)) ok_tb_L_law_0 62 rfl
theorem d_L_law_165 : decode code 165 = .ok (.iconst 3, 1) := dOk_get (q := (165, .iconst 3, 1)) ok_tb_L_law_0 63 rfl
theorem d_L_law_166 : decode code 166 = .ok (.iadd, 1) := dOk_get (q := (166, .iadd, 1)) ok_tb_L_law_0 64 rfl
theorem d_L_law_167 : decode code 167 = .ok (.iaload, 1) := dOk_get (q := (167, .iaload, 1)) ok_tb_L_law_0 65 rfl
theorem d_L_law_168 : decode code 168 = .ok (.invokevirtual 80, 3) := dOk_get (q := (168, .invokevirtual 80, 3)) ok_tb_L_law_0 66 rfl
theorem d_L_law_171 : decode code 171 = .ok (.istore 6, 2) := dOk_get (q := (171, .istore 6, 2)) ok_tb_L_law_0 67 rfl
theorem d_L_law_173 : decode code 173 = .ok (.aload_n 2, 1) := dOk_get (q := (173, .aload_n 2, 1)) ok_tb_L_law_0 68 rfl
theorem d_L_law_174 : decode code 174 = .ok (.invokevirtual 81, 3) := dOk_get (q := (174, .invokevirtual 81, 3)) ok_tb_L_law_0 69 rfl
theorem d_L_law_177 : decode code 177 = .ok (.iload 5, 2) := dOk_get (q := (177, .iload 5, 2)) ok_tb_L_law_0 70 rfl
theorem d_L_law_179 : decode code 179 = .ok (.if_icmp .eq 5, 3) := dOk_get (q := (179, .if_icmp .eq 5, 3)) ok_tb_L_law_0 71 rfl
theorem d_L_law_182 : decode code 182 = .ok (.iconst 0, 1) := dOk_get (q := (182, .iconst 0, 1)) ok_tb_L_law_0 72 rfl
theorem d_L_law_183 : decode code 183 = .ok (.ireturn, 1) := dOk_get (q := (183, .ireturn, 1)) ok_tb_L_law_0 73 rfl
theorem d_L_law_184 : decode code 184 = .ok (.iload 5, 2) := dOk_get (q := (184, .iload 5, 2)) ok_tb_L_law_0 74 rfl
theorem d_L_law_186 : decode code 186 = .ok (.ifCond .ne 15, 3) := dOk_get (q := (186, .ifCond .ne 15, 3)) ok_tb_L_law_0 75 rfl
theorem d_L_law_189 : decode code 189 = .ok (.aload_n 3, 1) := dOk_get (q := (189, .aload_n 3, 1)) ok_tb_L_law_0 76 rfl
theorem d_L_law_190 : decode code 190 = .ok (.iconst 0, 1) := dOk_get (q := (190, .iconst 0, 1)) ok_tb_L_law_0 77 rfl
theorem d_L_law_191 : decode code 191 = .ok (.laload, 1) := dOk_get (q := (191, .laload, 1)) ok_tb_L_law_0 78 rfl
theorem d_L_law_192 : decode code 192 = .ok (.iload 6, 2) := dOk_get (q := (192, .iload 6, 2)) ok_tb_L_law_0 79 rfl
theorem d_L_law_194 : decode code 194 = .ok (.i2l, 1) := dOk_get (q := (194, .i2l, 1)) ok_tb_L_law_0 80 rfl
theorem d_L_law_195 : decode code 195 = .ok (.lcmp, 1) := dOk_get (q := (195, .lcmp, 1)) ok_tb_L_law_0 81 rfl
theorem d_L_law_196 : decode code 196 = .ok (.ifCond .eq 5, 3) := dOk_get (q := (196, .ifCond .eq 5, 3)) ok_tb_L_law_0 82 rfl
theorem d_L_law_199 : decode code 199 = .ok (.iconst 0, 1) := dOk_get (q := (199, .iconst 0, 1)) ok_tb_L_law_0 83 rfl
theorem d_L_law_200 : decode code 200 = .ok (.ireturn, 1) := dOk_get (q := (200, .ireturn, 1)) ok_tb_L_law_0 84 rfl
theorem d_L_law_201 : decode code 201 = .ok (.goto 1273, 3) := dOk_get (q := (201, .goto 1273, 3)) ok_tb_L_law_0 85 rfl
theorem d_L_law_204 : decode code 204 = .ok (.aload_n 1, 1) := dOk_get (q := (204, .aload_n 1, 1)) ok_tb_L_law_0 86 rfl
theorem d_L_law_205 : decode code 205 = .ok (.aload_n 0, 1) := dOk_get (q := (205, .aload_n 0, 1)) ok_tb_L_law_0 87 rfl
theorem d_L_law_206 : decode code 206 = .ok (.iload 4, 2) := dOk_get (q := (206, .iload 4, 2)) ok_tb_L_law_0 88 rfl
theorem d_L_law_208 : decode code 208 = .ok (.iconst 1, 1) := dOk_get (q := (208, .iconst 1, 1)) ok_tb_L_law_0 89 rfl
theorem d_L_law_209 : decode code 209 = .ok (.iadd, 1) := dOk_get (q := (209, .iadd, 1)) ok_tb_L_law_0 90 rfl
theorem d_L_law_210 : decode code 210 = .ok (.iaload, 1) := dOk_get (q := (210, .iaload, 1)) ok_tb_L_law_0 91 rfl
theorem d_L_law_211 : decode code 211 = .ok (.aload_n 0, 1) := dOk_get (q := (211, .aload_n 0, 1)) ok_tb_L_law_0 92 rfl
theorem d_L_law_212 : decode code 212 = .ok (.iload 4, 2) := dOk_get (q := (212, .iload 4, 2)) ok_tb_L_law_0 93 rfl
theorem d_L_law_214 : decode code 214 = .ok (.iconst 2, 1) := dOk_get (q := (214, .iconst 2, 1)) ok_tb_L_law_0 94 rfl
theorem d_L_law_215 : decode code 215 = .ok (.iadd, 1) := dOk_get (q := (215, .iadd, 1)) ok_tb_L_law_0 95 rfl
theorem d_L_law_216 : decode code 216 = .ok (.iaload, 1) := dOk_get (q := (216, .iaload, 1)) ok_tb_L_law_0 96 rfl
theorem d_L_law_217 : decode code 217 = .ok (.i2l, 1) := dOk_get (q := (217, .i2l, 1)) ok_tb_L_law_0 97 rfl
theorem d_L_law_218 : decode code 218 = .ok (.bipush 32, 2) := dOk_get (q := (218, .bipush 32, 2)) ok_tb_L_law_0 98 rfl
theorem d_L_law_220 : decode code 220 = .ok (.lshl, 1) := dOk_get (q := (220, .lshl, 1)) ok_tb_L_law_0 99 rfl
theorem d_L_law_221 : decode code 221 = .ok (.aload_n 0, 1) := dOk_get (q := (221, .aload_n 0, 1)) ok_tb_L_law_0 100 rfl
theorem d_L_law_222 : decode code 222 = .ok (.iload 4, 2) := dOk_get (q := (222, .iload 4, 2)) ok_tb_L_law_0 101 rfl
theorem d_L_law_224 : decode code 224 = .ok (.iconst 3, 1) := dOk_get (q := (224, .iconst 3, 1)) ok_tb_L_law_0 102 rfl
theorem d_L_law_225 : decode code 225 = .ok (.iadd, 1) := dOk_get (q := (225, .iadd, 1)) ok_tb_L_law_0 103 rfl
theorem d_L_law_226 : decode code 226 = .ok (.iaload, 1) := dOk_get (q := (226, .iaload, 1)) ok_tb_L_law_0 104 rfl
theorem d_L_law_227 : decode code 227 = .ok (.i2l, 1) := dOk_get (q := (227, .i2l, 1)) ok_tb_L_law_0 105 rfl
theorem d_L_law_228 : decode code 228 = .ok (.ldc2_w 85, 3) := dOk_get (q := (228, .ldc2_w 85, 3)) ok_tb_L_law_0 106 rfl
theorem d_L_law_231 : decode code 231 = .ok (.land, 1) := dOk_get (q := (231, .land, 1)) ok_tb_L_law_0 107 rfl
theorem d_L_law_232 : decode code 232 = .ok (.lor, 1) := dOk_get (q := (232, .lor, 1)) ok_tb_L_law_0 108 rfl
theorem d_L_law_233 : decode code 233 = .ok (.aload_n 0, 1) := dOk_get (q := (233, .aload_n 0, 1)) ok_tb_L_law_0 109 rfl
theorem d_L_law_234 : decode code 234 = .ok (.iload 4, 2) := dOk_get (q := (234, .iload 4, 2)) ok_tb_L_law_0 110 rfl
theorem d_L_law_236 : decode code 236 = .ok (.iconst 4, 1) := dOk_get (q := (236, .iconst 4, 1)) ok_tb_L_law_0 111 rfl
theorem d_L_law_237 : decode code 237 = .ok (.iadd, 1) := dOk_get (q := (237, .iadd, 1)) ok_tb_L_law_0 112 rfl
theorem d_L_law_238 : decode code 238 = .ok (.iaload, 1) := dOk_get (q := (238, .iaload, 1)) ok_tb_L_law_0 113 rfl
theorem d_L_law_239 : decode code 239 = .ok (.i2l, 1) := dOk_get (q := (239, .i2l, 1)) ok_tb_L_law_0 114 rfl
theorem d_L_law_240 : decode code 240 = .ok (.bipush 32, 2) := dOk_get (q := (240, .bipush 32, 2)) ok_tb_L_law_0 115 rfl
theorem d_L_law_242 : decode code 242 = .ok (.lshl, 1) := dOk_get (q := (242, .lshl, 1)) ok_tb_L_law_0 116 rfl
theorem d_L_law_243 : decode code 243 = .ok (.aload_n 0, 1) := dOk_get (q := (243, .aload_n 0, 1)) ok_tb_L_law_0 117 rfl
theorem d_L_law_244 : decode code 244 = .ok (.iload 4, 2) := dOk_get (q := (244, .iload 4, 2)) ok_tb_L_law_0 118 rfl
theorem d_L_law_246 : decode code 246 = .ok (.iconst 5, 1) := dOk_get (q := (246, .iconst 5, 1)) ok_tb_L_law_0 119 rfl
def tb_L_law_1 : List (Nat × Instr × Nat) := [(247, .iadd, 1), (248, .iaload, 1), (249, .i2l, 1), (250, .ldc2_w 85, 3), (253, .land, 1), (254, .lor, 1), (255, .aload_n 3, 1), (256, .invokestatic 87, 3), (259, .istore 5, 2), (261, .aload_n 2, 1), (262, .aload_n 0, 1), (263, .iload 4, 2), (265, .iconst 1, 1), (266, .iadd, 1), (267, .iaload, 1), (268, .aload_n 0, 1), (269, .iload 4, 2), (271, .iconst 2, 1), (272, .iadd, 1), (273, .iaload, 1), (274, .i2l, 1), (275, .bipush 32, 2), (277, .lshl, 1), (278, .aload_n 0, 1), (279, .iload 4, 2), (281, .iconst 3, 1), (282, .iadd, 1), (283, .iaload, 1), (284, .i2l, 1), (285, .ldc2_w 85, 3), (288, .land, 1), (289, .lor, 1), (290, .aload_n 0, 1), (291, .iload 4, 2), (293, .iconst 4, 1), (294, .iadd, 1), (295, .iaload, 1), (296, .i2l, 1), (297, .bipush 32, 2), (299, .lshl, 1), (300, .aload_n 0, 1), (301, .iload 4, 2), (303, .iconst 5, 1), (304, .iadd, 1), (305, .iaload, 1), (306, .i2l, 1), (307, .ldc2_w 85, 3), (310, .land, 1), (311, .lor, 1), (312, .invokevirtual 90, 3), (315, .istore 6, 2), (317, .aload_n 2, 1), (318, .invokevirtual 81, 3), (321, .iload 5, 2), (323, .if_icmp .eq 5, 3), (326, .iconst 0, 1), (327, .ireturn, 1), (328, .iload 5, 2), (330, .ifCond .ne 22, 3), (333, .aload_n 3, 1), (334, .iconst 0, 1), (335, .laload, 1), (336, .iload 6, 2), (338, .ifCond .eq 7, 3), (341, .lconst 1, 1), (342, .goto 4, 3), (345, .lconst 0, 1), (346, .lcmp, 1), (347, .ifCond .eq 5, 3), (350, .iconst 0, 1), (351, .ireturn, 1), (352, .goto 1122, 3), (355, .aload_n 1, 1), (356, .aload_n 0, 1), (357, .iload 4, 2), (359, .iconst 1, 1), (360, .iadd, 1), (361, .iaload, 1), (362, .aload_n 0, 1), (363, .iload 4, 2), (365, .iconst 2, 1), (366, .iadd, 1), (367, .iaload, 1), (368, .i2l, 1), (369, .bipush 32, 2), (371, .lshl, 1), (372, .aload_n 0, 1), (373, .iload 4, 2), (375, .iconst 3, 1), (376, .iadd, 1), (377, .iaload, 1), (378, .i2l, 1), (379, .ldc2_w 85, 3), (382, .land, 1), (383, .lor, 1), (384, .aload_n 3, 1), (385, .invokestatic 91, 3), (388, .istore 5, 2), (390, .aload_n 2, 1), (391, .aload_n 0, 1), (392, .iload 4, 2), (394, .iconst 1, 1), (395, .iadd, 1), (396, .iaload, 1), (397, .aload_n 0, 1), (398, .iload 4, 2), (400, .iconst 2, 1), (401, .iadd, 1), (402, .iaload, 1), (403, .i2l, 1), (404, .bipush 32, 2), (406, .lshl, 1), (407, .aload_n 0, 1), (408, .iload 4, 2), (410, .iconst 3, 1), (411, .iadd, 1), (412, .iaload, 1), (413, .i2l, 1), (414, .ldc2_w 85, 3), (417, .land, 1)]
theorem ok_tb_L_law_1 : dOk code tb_L_law_1 = true := by decide +kernel
theorem d_L_law_247 : decode code 247 = .ok (.iadd, 1) := dOk_get (q := (247, .iadd, 1)) ok_tb_L_law_1 0 rfl
theorem d_L_law_248 : decode code 248 = .ok (.iaload, 1) := dOk_get (q := (248, .iaload, 1)) ok_tb_L_law_1 1 rfl
theorem d_L_law_249 : decode code 249 = .ok (.i2l, 1) := dOk_get (q := (249, .i2l, 1)) ok_tb_L_law_1 2 rfl
theorem d_L_law_250 : decode code 250 = .ok (.ldc2_w 85, 3) := dOk_get (q := (250, .ldc2_w 85, 3)) ok_tb_L_law_1 3 rfl
theorem d_L_law_253 : decode code 253 = .ok (.land, 1) := dOk_get (q := (253, .land, 1)) ok_tb_L_law_1 4 rfl
theorem d_L_law_254 : decode code 254 = .ok (.lor, 1) := dOk_get (q := (254, .lor, 1)) ok_tb_L_law_1 5 rfl
theorem d_L_law_255 : decode code 255 = .ok (.aload_n 3, 1) := dOk_get (q := (255, .aload_n 3, 1)) ok_tb_L_law_1 6 rfl
theorem d_L_law_256 : decode code 256 = .ok (.invokestatic 87, 3) := dOk_get (q := (256, .invokestatic 87, 3)) ok_tb_L_law_1 7 rfl
theorem d_L_law_259 : decode code 259 = .ok (.istore 5, 2) := dOk_get (q := (259, .istore 5, 2)) ok_tb_L_law_1 8 rfl
theorem d_L_law_261 : decode code 261 = .ok (.aload_n 2, 1) := dOk_get (q := (261, .aload_n 2, 1)) ok_tb_L_law_1 9 rfl
theorem d_L_law_262 : decode code 262 = .ok (.aload_n 0, 1) := dOk_get (q := (262, .aload_n 0, 1)) ok_tb_L_law_1 10 rfl
theorem d_L_law_263 : decode code 263 = .ok (.iload 4, 2) := dOk_get (q := (263, .iload 4, 2)) ok_tb_L_law_1 11 rfl
theorem d_L_law_265 : decode code 265 = .ok (.iconst 1, 1) := dOk_get (q := (265, .iconst 1, 1)) ok_tb_L_law_1 12 rfl
theorem d_L_law_266 : decode code 266 = .ok (.iadd, 1) := dOk_get (q := (266, .iadd, 1)) ok_tb_L_law_1 13 rfl
theorem d_L_law_267 : decode code 267 = .ok (.iaload, 1) := dOk_get (q := (267, .iaload, 1)) ok_tb_L_law_1 14 rfl
theorem d_L_law_268 : decode code 268 = .ok (.aload_n 0, 1) := dOk_get (q := (268, .aload_n 0, 1)) ok_tb_L_law_1 15 rfl
theorem d_L_law_269 : decode code 269 = .ok (.iload 4, 2) := dOk_get (q := (269, .iload 4, 2)) ok_tb_L_law_1 16 rfl
theorem d_L_law_271 : decode code 271 = .ok (.iconst 2, 1) := dOk_get (q := (271, .iconst 2, 1)) ok_tb_L_law_1 17 rfl
theorem d_L_law_272 : decode code 272 = .ok (.iadd, 1) := dOk_get (q := (272, .iadd, 1)) ok_tb_L_law_1 18 rfl
theorem d_L_law_273 : decode code 273 = .ok (.iaload, 1) := dOk_get (q := (273, .iaload, 1)) ok_tb_L_law_1 19 rfl
theorem d_L_law_274 : decode code 274 = .ok (.i2l, 1) := dOk_get (q := (274, .i2l, 1)) ok_tb_L_law_1 20 rfl
theorem d_L_law_275 : decode code 275 = .ok (.bipush 32, 2) := dOk_get (q := (275, .bipush 32, 2)) ok_tb_L_law_1 21 rfl
theorem d_L_law_277 : decode code 277 = .ok (.lshl, 1) := dOk_get (q := (277, .lshl, 1)) ok_tb_L_law_1 22 rfl
theorem d_L_law_278 : decode code 278 = .ok (.aload_n 0, 1) := dOk_get (q := (278, .aload_n 0, 1)) ok_tb_L_law_1 23 rfl
theorem d_L_law_279 : decode code 279 = .ok (.iload 4, 2) := dOk_get (q := (279, .iload 4, 2)) ok_tb_L_law_1 24 rfl
theorem d_L_law_281 : decode code 281 = .ok (.iconst 3, 1) := dOk_get (q := (281, .iconst 3, 1)) ok_tb_L_law_1 25 rfl
theorem d_L_law_282 : decode code 282 = .ok (.iadd, 1) := dOk_get (q := (282, .iadd, 1)) ok_tb_L_law_1 26 rfl
theorem d_L_law_283 : decode code 283 = .ok (.iaload, 1) := dOk_get (q := (283, .iaload, 1)) ok_tb_L_law_1 27 rfl
theorem d_L_law_284 : decode code 284 = .ok (.i2l, 1) := dOk_get (q := (284, .i2l, 1)) ok_tb_L_law_1 28 rfl
theorem d_L_law_285 : decode code 285 = .ok (.ldc2_w 85, 3) := dOk_get (q := (285, .ldc2_w 85, 3)) ok_tb_L_law_1 29 rfl
theorem d_L_law_288 : decode code 288 = .ok (.land, 1) := dOk_get (q := (288, .land, 1)) ok_tb_L_law_1 30 rfl
theorem d_L_law_289 : decode code 289 = .ok (.lor, 1) := dOk_get (q := (289, .lor, 1)) ok_tb_L_law_1 31 rfl
theorem d_L_law_290 : decode code 290 = .ok (.aload_n 0, 1) := dOk_get (q := (290, .aload_n 0, 1)) ok_tb_L_law_1 32 rfl
theorem d_L_law_291 : decode code 291 = .ok (.iload 4, 2) := dOk_get (q := (291, .iload 4, 2)) ok_tb_L_law_1 33 rfl
theorem d_L_law_293 : decode code 293 = .ok (.iconst 4, 1) := dOk_get (q := (293, .iconst 4, 1)) ok_tb_L_law_1 34 rfl
theorem d_L_law_294 : decode code 294 = .ok (.iadd, 1) := dOk_get (q := (294, .iadd, 1)) ok_tb_L_law_1 35 rfl
theorem d_L_law_295 : decode code 295 = .ok (.iaload, 1) := dOk_get (q := (295, .iaload, 1)) ok_tb_L_law_1 36 rfl
theorem d_L_law_296 : decode code 296 = .ok (.i2l, 1) := dOk_get (q := (296, .i2l, 1)) ok_tb_L_law_1 37 rfl
theorem d_L_law_297 : decode code 297 = .ok (.bipush 32, 2) := dOk_get (q := (297, .bipush 32, 2)) ok_tb_L_law_1 38 rfl
theorem d_L_law_299 : decode code 299 = .ok (.lshl, 1) := dOk_get (q := (299, .lshl, 1)) ok_tb_L_law_1 39 rfl
theorem d_L_law_300 : decode code 300 = .ok (.aload_n 0, 1) := dOk_get (q := (300, .aload_n 0, 1)) ok_tb_L_law_1 40 rfl
theorem d_L_law_301 : decode code 301 = .ok (.iload 4, 2) := dOk_get (q := (301, .iload 4, 2)) ok_tb_L_law_1 41 rfl
theorem d_L_law_303 : decode code 303 = .ok (.iconst 5, 1) := dOk_get (q := (303, .iconst 5, 1)) ok_tb_L_law_1 42 rfl
theorem d_L_law_304 : decode code 304 = .ok (.iadd, 1) := dOk_get (q := (304, .iadd, 1)) ok_tb_L_law_1 43 rfl
theorem d_L_law_305 : decode code 305 = .ok (.iaload, 1) := dOk_get (q := (305, .iaload, 1)) ok_tb_L_law_1 44 rfl
theorem d_L_law_306 : decode code 306 = .ok (.i2l, 1) := dOk_get (q := (306, .i2l, 1)) ok_tb_L_law_1 45 rfl
theorem d_L_law_307 : decode code 307 = .ok (.ldc2_w 85, 3) := dOk_get (q := (307, .ldc2_w 85, 3)) ok_tb_L_law_1 46 rfl
theorem d_L_law_310 : decode code 310 = .ok (.land, 1) := dOk_get (q := (310, .land, 1)) ok_tb_L_law_1 47 rfl
theorem d_L_law_311 : decode code 311 = .ok (.lor, 1) := dOk_get (q := (311, .lor, 1)) ok_tb_L_law_1 48 rfl
theorem d_L_law_312 : decode code 312 = .ok (.invokevirtual 90, 3) := dOk_get (q := (312, .invokevirtual 90, 3)) ok_tb_L_law_1 49 rfl
theorem d_L_law_315 : decode code 315 = .ok (.istore 6, 2) := dOk_get (q := (315, .istore 6, 2)) ok_tb_L_law_1 50 rfl
theorem d_L_law_317 : decode code 317 = .ok (.aload_n 2, 1) := dOk_get (q := (317, .aload_n 2, 1)) ok_tb_L_law_1 51 rfl
theorem d_L_law_318 : decode code 318 = .ok (.invokevirtual 81, 3) := dOk_get (q := (318, .invokevirtual 81, 3)) ok_tb_L_law_1 52 rfl
theorem d_L_law_321 : decode code 321 = .ok (.iload 5, 2) := dOk_get (q := (321, .iload 5, 2)) ok_tb_L_law_1 53 rfl
theorem d_L_law_323 : decode code 323 = .ok (.if_icmp .eq 5, 3) := dOk_get (q := (323, .if_icmp .eq 5, 3)) ok_tb_L_law_1 54 rfl
theorem d_L_law_326 : decode code 326 = .ok (.iconst 0, 1) := dOk_get (q := (326, .iconst 0, 1)) ok_tb_L_law_1 55 rfl
theorem d_L_law_327 : decode code 327 = .ok (.ireturn, 1) := dOk_get (q := (327, .ireturn, 1)) ok_tb_L_law_1 56 rfl
theorem d_L_law_328 : decode code 328 = .ok (.iload 5, 2) := dOk_get (q := (328, .iload 5, 2)) ok_tb_L_law_1 57 rfl
theorem d_L_law_330 : decode code 330 = .ok (.ifCond .ne 22, 3) := dOk_get (q := (330, .ifCond .ne 22, 3)) ok_tb_L_law_1 58 rfl
theorem d_L_law_333 : decode code 333 = .ok (.aload_n 3, 1) := dOk_get (q := (333, .aload_n 3, 1)) ok_tb_L_law_1 59 rfl
theorem d_L_law_334 : decode code 334 = .ok (.iconst 0, 1) := dOk_get (q := (334, .iconst 0, 1)) ok_tb_L_law_1 60 rfl
theorem d_L_law_335 : decode code 335 = .ok (.laload, 1) := dOk_get (q := (335, .laload, 1)) ok_tb_L_law_1 61 rfl
theorem d_L_law_336 : decode code 336 = .ok (.iload 6, 2) := dOk_get (q := (336, .iload 6, 2)) ok_tb_L_law_1 62 rfl
theorem d_L_law_338 : decode code 338 = .ok (.ifCond .eq 7, 3) := dOk_get (q := (338, .ifCond .eq 7, 3)) ok_tb_L_law_1 63 rfl
theorem d_L_law_341 : decode code 341 = .ok (.lconst 1, 1) := dOk_get (q := (341, .lconst 1, 1)) ok_tb_L_law_1 64 rfl
theorem d_L_law_342 : decode code 342 = .ok (.goto 4, 3) := dOk_get (q := (342, .goto 4, 3)) ok_tb_L_law_1 65 rfl
theorem d_L_law_345 : decode code 345 = .ok (.lconst 0, 1) := dOk_get (q := (345, .lconst 0, 1)) ok_tb_L_law_1 66 rfl
theorem d_L_law_346 : decode code 346 = .ok (.lcmp, 1) := dOk_get (q := (346, .lcmp, 1)) ok_tb_L_law_1 67 rfl
theorem d_L_law_347 : decode code 347 = .ok (.ifCond .eq 5, 3) := dOk_get (q := (347, .ifCond .eq 5, 3)) ok_tb_L_law_1 68 rfl
theorem d_L_law_350 : decode code 350 = .ok (.iconst 0, 1) := dOk_get (q := (350, .iconst 0, 1)) ok_tb_L_law_1 69 rfl
theorem d_L_law_351 : decode code 351 = .ok (.ireturn, 1) := dOk_get (q := (351, .ireturn, 1)) ok_tb_L_law_1 70 rfl
theorem d_L_law_352 : decode code 352 = .ok (.goto 1122, 3) := dOk_get (q := (352, .goto 1122, 3)) ok_tb_L_law_1 71 rfl
theorem d_L_law_355 : decode code 355 = .ok (.aload_n 1, 1) := dOk_get (q := (355, .aload_n 1, 1)) ok_tb_L_law_1 72 rfl
theorem d_L_law_356 : decode code 356 = .ok (.aload_n 0, 1) := dOk_get (q := (356, .aload_n 0, 1)) ok_tb_L_law_1 73 rfl
theorem d_L_law_357 : decode code 357 = .ok (.iload 4, 2) := dOk_get (q := (357, .iload 4, 2)) ok_tb_L_law_1 74 rfl
theorem d_L_law_359 : decode code 359 = .ok (.iconst 1, 1) := dOk_get (q := (359, .iconst 1, 1)) ok_tb_L_law_1 75 rfl
theorem d_L_law_360 : decode code 360 = .ok (.iadd, 1) := dOk_get (q := (360, .iadd, 1)) ok_tb_L_law_1 76 rfl
theorem d_L_law_361 : decode code 361 = .ok (.iaload, 1) := dOk_get (q := (361, .iaload, 1)) ok_tb_L_law_1 77 rfl
theorem d_L_law_362 : decode code 362 = .ok (.aload_n 0, 1) := dOk_get (q := (362, .aload_n 0, 1)) ok_tb_L_law_1 78 rfl
theorem d_L_law_363 : decode code 363 = .ok (.iload 4, 2) := dOk_get (q := (363, .iload 4, 2)) ok_tb_L_law_1 79 rfl
theorem d_L_law_365 : decode code 365 = .ok (.iconst 2, 1) := dOk_get (q := (365, .iconst 2, 1)) ok_tb_L_law_1 80 rfl
theorem d_L_law_366 : decode code 366 = .ok (.iadd, 1) := dOk_get (q := (366, .iadd, 1)) ok_tb_L_law_1 81 rfl
theorem d_L_law_367 : decode code 367 = .ok (.iaload, 1) := dOk_get (q := (367, .iaload, 1)) ok_tb_L_law_1 82 rfl
theorem d_L_law_368 : decode code 368 = .ok (.i2l, 1) := dOk_get (q := (368, .i2l, 1)) ok_tb_L_law_1 83 rfl
theorem d_L_law_369 : decode code 369 = .ok (.bipush 32, 2) := dOk_get (q := (369, .bipush 32, 2)) ok_tb_L_law_1 84 rfl
theorem d_L_law_371 : decode code 371 = .ok (.lshl, 1) := dOk_get (q := (371, .lshl, 1)) ok_tb_L_law_1 85 rfl
theorem d_L_law_372 : decode code 372 = .ok (.aload_n 0, 1) := dOk_get (q := (372, .aload_n 0, 1)) ok_tb_L_law_1 86 rfl
theorem d_L_law_373 : decode code 373 = .ok (.iload 4, 2) := dOk_get (q := (373, .iload 4, 2)) ok_tb_L_law_1 87 rfl
theorem d_L_law_375 : decode code 375 = .ok (.iconst 3, 1) := dOk_get (q := (375, .iconst 3, 1)) ok_tb_L_law_1 88 rfl
theorem d_L_law_376 : decode code 376 = .ok (.iadd, 1) := dOk_get (q := (376, .iadd, 1)) ok_tb_L_law_1 89 rfl
theorem d_L_law_377 : decode code 377 = .ok (.iaload, 1) := dOk_get (q := (377, .iaload, 1)) ok_tb_L_law_1 90 rfl
theorem d_L_law_378 : decode code 378 = .ok (.i2l, 1) := dOk_get (q := (378, .i2l, 1)) ok_tb_L_law_1 91 rfl
theorem d_L_law_379 : decode code 379 = .ok (.ldc2_w 85, 3) := dOk_get (q := (379, .ldc2_w 85, 3)) ok_tb_L_law_1 92 rfl
theorem d_L_law_382 : decode code 382 = .ok (.land, 1) := dOk_get (q := (382, .land, 1)) ok_tb_L_law_1 93 rfl
theorem d_L_law_383 : decode code 383 = .ok (.lor, 1) := dOk_get (q := (383, .lor, 1)) ok_tb_L_law_1 94 rfl
theorem d_L_law_384 : decode code 384 = .ok (.aload_n 3, 1) := dOk_get (q := (384, .aload_n 3, 1)) ok_tb_L_law_1 95 rfl
theorem d_L_law_385 : decode code 385 = .ok (.invokestatic 91, 3) := dOk_get (q := (385, .invokestatic 91, 3)) ok_tb_L_law_1 96 rfl
theorem d_L_law_388 : decode code 388 = .ok (.istore 5, 2) := dOk_get (q := (388, .istore 5, 2)) ok_tb_L_law_1 97 rfl
theorem d_L_law_390 : decode code 390 = .ok (.aload_n 2, 1) := dOk_get (q := (390, .aload_n 2, 1)) ok_tb_L_law_1 98 rfl
theorem d_L_law_391 : decode code 391 = .ok (.aload_n 0, 1) := dOk_get (q := (391, .aload_n 0, 1)) ok_tb_L_law_1 99 rfl
theorem d_L_law_392 : decode code 392 = .ok (.iload 4, 2) := dOk_get (q := (392, .iload 4, 2)) ok_tb_L_law_1 100 rfl
theorem d_L_law_394 : decode code 394 = .ok (.iconst 1, 1) := dOk_get (q := (394, .iconst 1, 1)) ok_tb_L_law_1 101 rfl
theorem d_L_law_395 : decode code 395 = .ok (.iadd, 1) := dOk_get (q := (395, .iadd, 1)) ok_tb_L_law_1 102 rfl
theorem d_L_law_396 : decode code 396 = .ok (.iaload, 1) := dOk_get (q := (396, .iaload, 1)) ok_tb_L_law_1 103 rfl
theorem d_L_law_397 : decode code 397 = .ok (.aload_n 0, 1) := dOk_get (q := (397, .aload_n 0, 1)) ok_tb_L_law_1 104 rfl
theorem d_L_law_398 : decode code 398 = .ok (.iload 4, 2) := dOk_get (q := (398, .iload 4, 2)) ok_tb_L_law_1 105 rfl
theorem d_L_law_400 : decode code 400 = .ok (.iconst 2, 1) := dOk_get (q := (400, .iconst 2, 1)) ok_tb_L_law_1 106 rfl
theorem d_L_law_401 : decode code 401 = .ok (.iadd, 1) := dOk_get (q := (401, .iadd, 1)) ok_tb_L_law_1 107 rfl
theorem d_L_law_402 : decode code 402 = .ok (.iaload, 1) := dOk_get (q := (402, .iaload, 1)) ok_tb_L_law_1 108 rfl
theorem d_L_law_403 : decode code 403 = .ok (.i2l, 1) := dOk_get (q := (403, .i2l, 1)) ok_tb_L_law_1 109 rfl
theorem d_L_law_404 : decode code 404 = .ok (.bipush 32, 2) := dOk_get (q := (404, .bipush 32, 2)) ok_tb_L_law_1 110 rfl
theorem d_L_law_406 : decode code 406 = .ok (.lshl, 1) := dOk_get (q := (406, .lshl, 1)) ok_tb_L_law_1 111 rfl
theorem d_L_law_407 : decode code 407 = .ok (.aload_n 0, 1) := dOk_get (q := (407, .aload_n 0, 1)) ok_tb_L_law_1 112 rfl
theorem d_L_law_408 : decode code 408 = .ok (.iload 4, 2) := dOk_get (q := (408, .iload 4, 2)) ok_tb_L_law_1 113 rfl
theorem d_L_law_410 : decode code 410 = .ok (.iconst 3, 1) := dOk_get (q := (410, .iconst 3, 1)) ok_tb_L_law_1 114 rfl
theorem d_L_law_411 : decode code 411 = .ok (.iadd, 1) := dOk_get (q := (411, .iadd, 1)) ok_tb_L_law_1 115 rfl
theorem d_L_law_412 : decode code 412 = .ok (.iaload, 1) := dOk_get (q := (412, .iaload, 1)) ok_tb_L_law_1 116 rfl
theorem d_L_law_413 : decode code 413 = .ok (.i2l, 1) := dOk_get (q := (413, .i2l, 1)) ok_tb_L_law_1 117 rfl
theorem d_L_law_414 : decode code 414 = .ok (.ldc2_w 85, 3) := dOk_get (q := (414, .ldc2_w 85, 3)) ok_tb_L_law_1 118 rfl
theorem d_L_law_417 : decode code 417 = .ok (.land, 1) := dOk_get (q := (417, .land, 1)) ok_tb_L_law_1 119 rfl
def tb_L_law_2 : List (Nat × Instr × Nat) := [(418, .lor, 1), (419, .invokevirtual 94, 3), (422, .istore 6, 2), (424, .aload_n 2, 1), (425, .invokevirtual 81, 3), (428, .iload 5, 2), (430, .if_icmp .eq 5, 3), (433, .iconst 0, 1), (434, .ireturn, 1), (435, .iload 5, 2), (437, .ifCond .ne 22, 3), (440, .aload_n 3, 1), (441, .iconst 0, 1), (442, .laload, 1), (443, .iload 6, 2), (445, .ifCond .eq 7, 3), (448, .lconst 1, 1), (449, .goto 4, 3), (452, .lconst 0, 1), (453, .lcmp, 1), (454, .ifCond .eq 5, 3), (457, .iconst 0, 1), (458, .ireturn, 1), (459, .goto 1015, 3), (462, .aload_n 1, 1), (463, .aload_n 0, 1), (464, .iload 4, 2), (466, .iconst 1, 1), (467, .iadd, 1), (468, .iaload, 1), (469, .aload_n 0, 1), (470, .iload 4, 2), (472, .iconst 2, 1), (473, .iadd, 1), (474, .iaload, 1), (475, .aload_n 0, 1), (476, .iload 4, 2), (478, .iconst 3, 1), (479, .iadd, 1), (480, .iaload, 1), (481, .aload_n 0, 1), (482, .iload 4, 2), (484, .iconst 4, 1), (485, .iadd, 1), (486, .iaload, 1), (487, .i2l, 1), (488, .bipush 32, 2), (490, .lshl, 1), (491, .aload_n 0, 1), (492, .iload 4, 2), (494, .iconst 5, 1), (495, .iadd, 1), (496, .iaload, 1), (497, .i2l, 1), (498, .ldc2_w 85, 3), (501, .land, 1), (502, .lor, 1), (503, .aload_n 3, 1), (504, .invokestatic 95, 3), (507, .istore 5, 2), (509, .aload_n 2, 1), (510, .aload_n 0, 1), (511, .iload 4, 2), (513, .iconst 1, 1), (514, .iadd, 1), (515, .iaload, 1), (516, .aload_n 0, 1), (517, .iload 4, 2), (519, .iconst 2, 1), (520, .iadd, 1), (521, .iaload, 1), (522, .aload_n 0, 1), (523, .iload 4, 2), (525, .iconst 3, 1), (526, .iadd, 1), (527, .iaload, 1), (528, .aload_n 0, 1), (529, .iload 4, 2), (531, .iconst 4, 1), (532, .iadd, 1), (533, .iaload, 1), (534, .i2l, 1), (535, .bipush 32, 2), (537, .lshl, 1), (538, .aload_n 0, 1), (539, .iload 4, 2), (541, .iconst 5, 1), (542, .iadd, 1), (543, .iaload, 1), (544, .i2l, 1), (545, .ldc2_w 85, 3), (548, .land, 1), (549, .lor, 1), (550, .invokevirtual 98, 3), (553, .istore 6, 2), (555, .aload_n 2, 1), (556, .invokevirtual 81, 3), (559, .iload 5, 2), (561, .if_icmp .eq 5, 3), (564, .iconst 0, 1), (565, .ireturn, 1), (566, .iload 5, 2), (568, .ifCond .ne 15, 3), (571, .aload_n 3, 1), (572, .iconst 0, 1), (573, .laload, 1), (574, .iload 6, 2), (576, .i2l, 1), (577, .lcmp, 1), (578, .ifCond .eq 5, 3), (581, .iconst 0, 1), (582, .ireturn, 1), (583, .goto 891, 3), (586, .aload_n 1, 1), (587, .aload_n 0, 1), (588, .iload 4, 2), (590, .iconst 1, 1), (591, .iadd, 1), (592, .iaload, 1), (593, .aload_n 0, 1)]
theorem ok_tb_L_law_2 : dOk code tb_L_law_2 = true := by decide +kernel
theorem d_L_law_418 : decode code 418 = .ok (.lor, 1) := dOk_get (q := (418, .lor, 1)) ok_tb_L_law_2 0 rfl
theorem d_L_law_419 : decode code 419 = .ok (.invokevirtual 94, 3) := dOk_get (q := (419, .invokevirtual 94, 3)) ok_tb_L_law_2 1 rfl
theorem d_L_law_422 : decode code 422 = .ok (.istore 6, 2) := dOk_get (q := (422, .istore 6, 2)) ok_tb_L_law_2 2 rfl
theorem d_L_law_424 : decode code 424 = .ok (.aload_n 2, 1) := dOk_get (q := (424, .aload_n 2, 1)) ok_tb_L_law_2 3 rfl
theorem d_L_law_425 : decode code 425 = .ok (.invokevirtual 81, 3) := dOk_get (q := (425, .invokevirtual 81, 3)) ok_tb_L_law_2 4 rfl
theorem d_L_law_428 : decode code 428 = .ok (.iload 5, 2) := dOk_get (q := (428, .iload 5, 2)) ok_tb_L_law_2 5 rfl
theorem d_L_law_430 : decode code 430 = .ok (.if_icmp .eq 5, 3) := dOk_get (q := (430, .if_icmp .eq 5, 3)) ok_tb_L_law_2 6 rfl
theorem d_L_law_433 : decode code 433 = .ok (.iconst 0, 1) := dOk_get (q := (433, .iconst 0, 1)) ok_tb_L_law_2 7 rfl
theorem d_L_law_434 : decode code 434 = .ok (.ireturn, 1) := dOk_get (q := (434, .ireturn, 1)) ok_tb_L_law_2 8 rfl
theorem d_L_law_435 : decode code 435 = .ok (.iload 5, 2) := dOk_get (q := (435, .iload 5, 2)) ok_tb_L_law_2 9 rfl
theorem d_L_law_437 : decode code 437 = .ok (.ifCond .ne 22, 3) := dOk_get (q := (437, .ifCond .ne 22, 3)) ok_tb_L_law_2 10 rfl
theorem d_L_law_440 : decode code 440 = .ok (.aload_n 3, 1) := dOk_get (q := (440, .aload_n 3, 1)) ok_tb_L_law_2 11 rfl
theorem d_L_law_441 : decode code 441 = .ok (.iconst 0, 1) := dOk_get (q := (441, .iconst 0, 1)) ok_tb_L_law_2 12 rfl
theorem d_L_law_442 : decode code 442 = .ok (.laload, 1) := dOk_get (q := (442, .laload, 1)) ok_tb_L_law_2 13 rfl
theorem d_L_law_443 : decode code 443 = .ok (.iload 6, 2) := dOk_get (q := (443, .iload 6, 2)) ok_tb_L_law_2 14 rfl
theorem d_L_law_445 : decode code 445 = .ok (.ifCond .eq 7, 3) := dOk_get (q := (445, .ifCond .eq 7, 3)) ok_tb_L_law_2 15 rfl
theorem d_L_law_448 : decode code 448 = .ok (.lconst 1, 1) := dOk_get (q := (448, .lconst 1, 1)) ok_tb_L_law_2 16 rfl
theorem d_L_law_449 : decode code 449 = .ok (.goto 4, 3) := dOk_get (q := (449, .goto 4, 3)) ok_tb_L_law_2 17 rfl
theorem d_L_law_452 : decode code 452 = .ok (.lconst 0, 1) := dOk_get (q := (452, .lconst 0, 1)) ok_tb_L_law_2 18 rfl
theorem d_L_law_453 : decode code 453 = .ok (.lcmp, 1) := dOk_get (q := (453, .lcmp, 1)) ok_tb_L_law_2 19 rfl
theorem d_L_law_454 : decode code 454 = .ok (.ifCond .eq 5, 3) := dOk_get (q := (454, .ifCond .eq 5, 3)) ok_tb_L_law_2 20 rfl
theorem d_L_law_457 : decode code 457 = .ok (.iconst 0, 1) := dOk_get (q := (457, .iconst 0, 1)) ok_tb_L_law_2 21 rfl
theorem d_L_law_458 : decode code 458 = .ok (.ireturn, 1) := dOk_get (q := (458, .ireturn, 1)) ok_tb_L_law_2 22 rfl
theorem d_L_law_459 : decode code 459 = .ok (.goto 1015, 3) := dOk_get (q := (459, .goto 1015, 3)) ok_tb_L_law_2 23 rfl
theorem d_L_law_462 : decode code 462 = .ok (.aload_n 1, 1) := dOk_get (q := (462, .aload_n 1, 1)) ok_tb_L_law_2 24 rfl
theorem d_L_law_463 : decode code 463 = .ok (.aload_n 0, 1) := dOk_get (q := (463, .aload_n 0, 1)) ok_tb_L_law_2 25 rfl
theorem d_L_law_464 : decode code 464 = .ok (.iload 4, 2) := dOk_get (q := (464, .iload 4, 2)) ok_tb_L_law_2 26 rfl
theorem d_L_law_466 : decode code 466 = .ok (.iconst 1, 1) := dOk_get (q := (466, .iconst 1, 1)) ok_tb_L_law_2 27 rfl
theorem d_L_law_467 : decode code 467 = .ok (.iadd, 1) := dOk_get (q := (467, .iadd, 1)) ok_tb_L_law_2 28 rfl
theorem d_L_law_468 : decode code 468 = .ok (.iaload, 1) := dOk_get (q := (468, .iaload, 1)) ok_tb_L_law_2 29 rfl
theorem d_L_law_469 : decode code 469 = .ok (.aload_n 0, 1) := dOk_get (q := (469, .aload_n 0, 1)) ok_tb_L_law_2 30 rfl
theorem d_L_law_470 : decode code 470 = .ok (.iload 4, 2) := dOk_get (q := (470, .iload 4, 2)) ok_tb_L_law_2 31 rfl
theorem d_L_law_472 : decode code 472 = .ok (.iconst 2, 1) := dOk_get (q := (472, .iconst 2, 1)) ok_tb_L_law_2 32 rfl
theorem d_L_law_473 : decode code 473 = .ok (.iadd, 1) := dOk_get (q := (473, .iadd, 1)) ok_tb_L_law_2 33 rfl
theorem d_L_law_474 : decode code 474 = .ok (.iaload, 1) := dOk_get (q := (474, .iaload, 1)) ok_tb_L_law_2 34 rfl
theorem d_L_law_475 : decode code 475 = .ok (.aload_n 0, 1) := dOk_get (q := (475, .aload_n 0, 1)) ok_tb_L_law_2 35 rfl
theorem d_L_law_476 : decode code 476 = .ok (.iload 4, 2) := dOk_get (q := (476, .iload 4, 2)) ok_tb_L_law_2 36 rfl
theorem d_L_law_478 : decode code 478 = .ok (.iconst 3, 1) := dOk_get (q := (478, .iconst 3, 1)) ok_tb_L_law_2 37 rfl
theorem d_L_law_479 : decode code 479 = .ok (.iadd, 1) := dOk_get (q := (479, .iadd, 1)) ok_tb_L_law_2 38 rfl
theorem d_L_law_480 : decode code 480 = .ok (.iaload, 1) := dOk_get (q := (480, .iaload, 1)) ok_tb_L_law_2 39 rfl
theorem d_L_law_481 : decode code 481 = .ok (.aload_n 0, 1) := dOk_get (q := (481, .aload_n 0, 1)) ok_tb_L_law_2 40 rfl
theorem d_L_law_482 : decode code 482 = .ok (.iload 4, 2) := dOk_get (q := (482, .iload 4, 2)) ok_tb_L_law_2 41 rfl
theorem d_L_law_484 : decode code 484 = .ok (.iconst 4, 1) := dOk_get (q := (484, .iconst 4, 1)) ok_tb_L_law_2 42 rfl
theorem d_L_law_485 : decode code 485 = .ok (.iadd, 1) := dOk_get (q := (485, .iadd, 1)) ok_tb_L_law_2 43 rfl
theorem d_L_law_486 : decode code 486 = .ok (.iaload, 1) := dOk_get (q := (486, .iaload, 1)) ok_tb_L_law_2 44 rfl
theorem d_L_law_487 : decode code 487 = .ok (.i2l, 1) := dOk_get (q := (487, .i2l, 1)) ok_tb_L_law_2 45 rfl
theorem d_L_law_488 : decode code 488 = .ok (.bipush 32, 2) := dOk_get (q := (488, .bipush 32, 2)) ok_tb_L_law_2 46 rfl
theorem d_L_law_490 : decode code 490 = .ok (.lshl, 1) := dOk_get (q := (490, .lshl, 1)) ok_tb_L_law_2 47 rfl
theorem d_L_law_491 : decode code 491 = .ok (.aload_n 0, 1) := dOk_get (q := (491, .aload_n 0, 1)) ok_tb_L_law_2 48 rfl
theorem d_L_law_492 : decode code 492 = .ok (.iload 4, 2) := dOk_get (q := (492, .iload 4, 2)) ok_tb_L_law_2 49 rfl
theorem d_L_law_494 : decode code 494 = .ok (.iconst 5, 1) := dOk_get (q := (494, .iconst 5, 1)) ok_tb_L_law_2 50 rfl
theorem d_L_law_495 : decode code 495 = .ok (.iadd, 1) := dOk_get (q := (495, .iadd, 1)) ok_tb_L_law_2 51 rfl
theorem d_L_law_496 : decode code 496 = .ok (.iaload, 1) := dOk_get (q := (496, .iaload, 1)) ok_tb_L_law_2 52 rfl
theorem d_L_law_497 : decode code 497 = .ok (.i2l, 1) := dOk_get (q := (497, .i2l, 1)) ok_tb_L_law_2 53 rfl
theorem d_L_law_498 : decode code 498 = .ok (.ldc2_w 85, 3) := dOk_get (q := (498, .ldc2_w 85, 3)) ok_tb_L_law_2 54 rfl
theorem d_L_law_501 : decode code 501 = .ok (.land, 1) := dOk_get (q := (501, .land, 1)) ok_tb_L_law_2 55 rfl
theorem d_L_law_502 : decode code 502 = .ok (.lor, 1) := dOk_get (q := (502, .lor, 1)) ok_tb_L_law_2 56 rfl
theorem d_L_law_503 : decode code 503 = .ok (.aload_n 3, 1) := dOk_get (q := (503, .aload_n 3, 1)) ok_tb_L_law_2 57 rfl
theorem d_L_law_504 : decode code 504 = .ok (.invokestatic 95, 3) := dOk_get (q := (504, .invokestatic 95, 3)) ok_tb_L_law_2 58 rfl
theorem d_L_law_507 : decode code 507 = .ok (.istore 5, 2) := dOk_get (q := (507, .istore 5, 2)) ok_tb_L_law_2 59 rfl
theorem d_L_law_509 : decode code 509 = .ok (.aload_n 2, 1) := dOk_get (q := (509, .aload_n 2, 1)) ok_tb_L_law_2 60 rfl
theorem d_L_law_510 : decode code 510 = .ok (.aload_n 0, 1) := dOk_get (q := (510, .aload_n 0, 1)) ok_tb_L_law_2 61 rfl
theorem d_L_law_511 : decode code 511 = .ok (.iload 4, 2) := dOk_get (q := (511, .iload 4, 2)) ok_tb_L_law_2 62 rfl
theorem d_L_law_513 : decode code 513 = .ok (.iconst 1, 1) := dOk_get (q := (513, .iconst 1, 1)) ok_tb_L_law_2 63 rfl
theorem d_L_law_514 : decode code 514 = .ok (.iadd, 1) := dOk_get (q := (514, .iadd, 1)) ok_tb_L_law_2 64 rfl
theorem d_L_law_515 : decode code 515 = .ok (.iaload, 1) := dOk_get (q := (515, .iaload, 1)) ok_tb_L_law_2 65 rfl
theorem d_L_law_516 : decode code 516 = .ok (.aload_n 0, 1) := dOk_get (q := (516, .aload_n 0, 1)) ok_tb_L_law_2 66 rfl
theorem d_L_law_517 : decode code 517 = .ok (.iload 4, 2) := dOk_get (q := (517, .iload 4, 2)) ok_tb_L_law_2 67 rfl
theorem d_L_law_519 : decode code 519 = .ok (.iconst 2, 1) := dOk_get (q := (519, .iconst 2, 1)) ok_tb_L_law_2 68 rfl
theorem d_L_law_520 : decode code 520 = .ok (.iadd, 1) := dOk_get (q := (520, .iadd, 1)) ok_tb_L_law_2 69 rfl
theorem d_L_law_521 : decode code 521 = .ok (.iaload, 1) := dOk_get (q := (521, .iaload, 1)) ok_tb_L_law_2 70 rfl
theorem d_L_law_522 : decode code 522 = .ok (.aload_n 0, 1) := dOk_get (q := (522, .aload_n 0, 1)) ok_tb_L_law_2 71 rfl
theorem d_L_law_523 : decode code 523 = .ok (.iload 4, 2) := dOk_get (q := (523, .iload 4, 2)) ok_tb_L_law_2 72 rfl
theorem d_L_law_525 : decode code 525 = .ok (.iconst 3, 1) := dOk_get (q := (525, .iconst 3, 1)) ok_tb_L_law_2 73 rfl
theorem d_L_law_526 : decode code 526 = .ok (.iadd, 1) := dOk_get (q := (526, .iadd, 1)) ok_tb_L_law_2 74 rfl
theorem d_L_law_527 : decode code 527 = .ok (.iaload, 1) := dOk_get (q := (527, .iaload, 1)) ok_tb_L_law_2 75 rfl
theorem d_L_law_528 : decode code 528 = .ok (.aload_n 0, 1) := dOk_get (q := (528, .aload_n 0, 1)) ok_tb_L_law_2 76 rfl
theorem d_L_law_529 : decode code 529 = .ok (.iload 4, 2) := dOk_get (q := (529, .iload 4, 2)) ok_tb_L_law_2 77 rfl
theorem d_L_law_531 : decode code 531 = .ok (.iconst 4, 1) := dOk_get (q := (531, .iconst 4, 1)) ok_tb_L_law_2 78 rfl
theorem d_L_law_532 : decode code 532 = .ok (.iadd, 1) := dOk_get (q := (532, .iadd, 1)) ok_tb_L_law_2 79 rfl
theorem d_L_law_533 : decode code 533 = .ok (.iaload, 1) := dOk_get (q := (533, .iaload, 1)) ok_tb_L_law_2 80 rfl
theorem d_L_law_534 : decode code 534 = .ok (.i2l, 1) := dOk_get (q := (534, .i2l, 1)) ok_tb_L_law_2 81 rfl
theorem d_L_law_535 : decode code 535 = .ok (.bipush 32, 2) := dOk_get (q := (535, .bipush 32, 2)) ok_tb_L_law_2 82 rfl
theorem d_L_law_537 : decode code 537 = .ok (.lshl, 1) := dOk_get (q := (537, .lshl, 1)) ok_tb_L_law_2 83 rfl
theorem d_L_law_538 : decode code 538 = .ok (.aload_n 0, 1) := dOk_get (q := (538, .aload_n 0, 1)) ok_tb_L_law_2 84 rfl
theorem d_L_law_539 : decode code 539 = .ok (.iload 4, 2) := dOk_get (q := (539, .iload 4, 2)) ok_tb_L_law_2 85 rfl
theorem d_L_law_541 : decode code 541 = .ok (.iconst 5, 1) := dOk_get (q := (541, .iconst 5, 1)) ok_tb_L_law_2 86 rfl
theorem d_L_law_542 : decode code 542 = .ok (.iadd, 1) := dOk_get (q := (542, .iadd, 1)) ok_tb_L_law_2 87 rfl
theorem d_L_law_543 : decode code 543 = .ok (.iaload, 1) := dOk_get (q := (543, .iaload, 1)) ok_tb_L_law_2 88 rfl
theorem d_L_law_544 : decode code 544 = .ok (.i2l, 1) := dOk_get (q := (544, .i2l, 1)) ok_tb_L_law_2 89 rfl
theorem d_L_law_545 : decode code 545 = .ok (.ldc2_w 85, 3) := dOk_get (q := (545, .ldc2_w 85, 3)) ok_tb_L_law_2 90 rfl
theorem d_L_law_548 : decode code 548 = .ok (.land, 1) := dOk_get (q := (548, .land, 1)) ok_tb_L_law_2 91 rfl
theorem d_L_law_549 : decode code 549 = .ok (.lor, 1) := dOk_get (q := (549, .lor, 1)) ok_tb_L_law_2 92 rfl
theorem d_L_law_550 : decode code 550 = .ok (.invokevirtual 98, 3) := dOk_get (q := (550, .invokevirtual 98, 3)) ok_tb_L_law_2 93 rfl
theorem d_L_law_553 : decode code 553 = .ok (.istore 6, 2) := dOk_get (q := (553, .istore 6, 2)) ok_tb_L_law_2 94 rfl
theorem d_L_law_555 : decode code 555 = .ok (.aload_n 2, 1) := dOk_get (q := (555, .aload_n 2, 1)) ok_tb_L_law_2 95 rfl
theorem d_L_law_556 : decode code 556 = .ok (.invokevirtual 81, 3) := dOk_get (q := (556, .invokevirtual 81, 3)) ok_tb_L_law_2 96 rfl
theorem d_L_law_559 : decode code 559 = .ok (.iload 5, 2) := dOk_get (q := (559, .iload 5, 2)) ok_tb_L_law_2 97 rfl
theorem d_L_law_561 : decode code 561 = .ok (.if_icmp .eq 5, 3) := dOk_get (q := (561, .if_icmp .eq 5, 3)) ok_tb_L_law_2 98 rfl
theorem d_L_law_564 : decode code 564 = .ok (.iconst 0, 1) := dOk_get (q := (564, .iconst 0, 1)) ok_tb_L_law_2 99 rfl
theorem d_L_law_565 : decode code 565 = .ok (.ireturn, 1) := dOk_get (q := (565, .ireturn, 1)) ok_tb_L_law_2 100 rfl
theorem d_L_law_566 : decode code 566 = .ok (.iload 5, 2) := dOk_get (q := (566, .iload 5, 2)) ok_tb_L_law_2 101 rfl
theorem d_L_law_568 : decode code 568 = .ok (.ifCond .ne 15, 3) := dOk_get (q := (568, .ifCond .ne 15, 3)) ok_tb_L_law_2 102 rfl
theorem d_L_law_571 : decode code 571 = .ok (.aload_n 3, 1) := dOk_get (q := (571, .aload_n 3, 1)) ok_tb_L_law_2 103 rfl
theorem d_L_law_572 : decode code 572 = .ok (.iconst 0, 1) := dOk_get (q := (572, .iconst 0, 1)) ok_tb_L_law_2 104 rfl
theorem d_L_law_573 : decode code 573 = .ok (.laload, 1) := dOk_get (q := (573, .laload, 1)) ok_tb_L_law_2 105 rfl
theorem d_L_law_574 : decode code 574 = .ok (.iload 6, 2) := dOk_get (q := (574, .iload 6, 2)) ok_tb_L_law_2 106 rfl
theorem d_L_law_576 : decode code 576 = .ok (.i2l, 1) := dOk_get (q := (576, .i2l, 1)) ok_tb_L_law_2 107 rfl
theorem d_L_law_577 : decode code 577 = .ok (.lcmp, 1) := dOk_get (q := (577, .lcmp, 1)) ok_tb_L_law_2 108 rfl
theorem d_L_law_578 : decode code 578 = .ok (.ifCond .eq 5, 3) := dOk_get (q := (578, .ifCond .eq 5, 3)) ok_tb_L_law_2 109 rfl
theorem d_L_law_581 : decode code 581 = .ok (.iconst 0, 1) := dOk_get (q := (581, .iconst 0, 1)) ok_tb_L_law_2 110 rfl
theorem d_L_law_582 : decode code 582 = .ok (.ireturn, 1) := dOk_get (q := (582, .ireturn, 1)) ok_tb_L_law_2 111 rfl
theorem d_L_law_583 : decode code 583 = .ok (.goto 891, 3) := dOk_get (q := (583, .goto 891, 3)) ok_tb_L_law_2 112 rfl
theorem d_L_law_586 : decode code 586 = .ok (.aload_n 1, 1) := dOk_get (q := (586, .aload_n 1, 1)) ok_tb_L_law_2 113 rfl
theorem d_L_law_587 : decode code 587 = .ok (.aload_n 0, 1) := dOk_get (q := (587, .aload_n 0, 1)) ok_tb_L_law_2 114 rfl
theorem d_L_law_588 : decode code 588 = .ok (.iload 4, 2) := dOk_get (q := (588, .iload 4, 2)) ok_tb_L_law_2 115 rfl
theorem d_L_law_590 : decode code 590 = .ok (.iconst 1, 1) := dOk_get (q := (590, .iconst 1, 1)) ok_tb_L_law_2 116 rfl
theorem d_L_law_591 : decode code 591 = .ok (.iadd, 1) := dOk_get (q := (591, .iadd, 1)) ok_tb_L_law_2 117 rfl
theorem d_L_law_592 : decode code 592 = .ok (.iaload, 1) := dOk_get (q := (592, .iaload, 1)) ok_tb_L_law_2 118 rfl
theorem d_L_law_593 : decode code 593 = .ok (.aload_n 0, 1) := dOk_get (q := (593, .aload_n 0, 1)) ok_tb_L_law_2 119 rfl
def tb_L_law_3 : List (Nat × Instr × Nat) := [(594, .iload 4, 2), (596, .iconst 2, 1), (597, .iadd, 1), (598, .iaload, 1), (599, .aload_n 3, 1), (600, .invokestatic 99, 3), (603, .istore 5, 2), (605, .aload_n 2, 1), (606, .aload_n 0, 1), (607, .iload 4, 2), (609, .iconst 1, 1), (610, .iadd, 1), (611, .iaload, 1), (612, .aload_n 0, 1), (613, .iload 4, 2), (615, .iconst 2, 1), (616, .iadd, 1), (617, .iaload, 1), (618, .invokevirtual 102, 3), (621, .istore 6, 2), (623, .aload_n 2, 1), (624, .invokevirtual 81, 3), (627, .iload 5, 2), (629, .if_icmp .eq 5, 3), (632, .iconst 0, 1), (633, .ireturn, 1), (634, .iload 5, 2), (636, .ifCond .ne 22, 3), (639, .aload_n 3, 1), (640, .iconst 0, 1), (641, .laload, 1), (642, .iload 6, 2), (644, .ifCond .eq 7, 3), (647, .lconst 1, 1), (648, .goto 4, 3), (651, .lconst 0, 1), (652, .lcmp, 1), (653, .ifCond .eq 5, 3), (656, .iconst 0, 1), (657, .ireturn, 1), (658, .goto 816, 3), (661, .aload_n 1, 1), (662, .aload_n 0, 1), (663, .iload 4, 2), (665, .iconst 1, 1), (666, .iadd, 1), (667, .iaload, 1), (668, .aload_n 0, 1), (669, .iload 4, 2), (671, .iconst 2, 1), (672, .iadd, 1), (673, .iaload, 1), (674, .i2l, 1), (675, .bipush 32, 2), (677, .lshl, 1), (678, .aload_n 0, 1), (679, .iload 4, 2), (681, .iconst 3, 1), (682, .iadd, 1), (683, .iaload, 1), (684, .i2l, 1), (685, .ldc2_w 85, 3), (688, .land, 1), (689, .lor, 1), (690, .aload_n 3, 1), (691, .invokestatic 103, 3), (694, .istore 5, 2), (696, .aload_n 2, 1), (697, .aload_n 0, 1), (698, .iload 4, 2), (700, .iconst 1, 1), (701, .iadd, 1), (702, .iaload, 1), (703, .aload_n 0, 1), (704, .iload 4, 2), (706, .iconst 2, 1), (707, .iadd, 1), (708, .iaload, 1), (709, .i2l, 1), (710, .bipush 32, 2), (712, .lshl, 1), (713, .aload_n 0, 1), (714, .iload 4, 2), (716, .iconst 3, 1), (717, .iadd, 1), (718, .iaload, 1), (719, .i2l, 1), (720, .ldc2_w 85, 3), (723, .land, 1), (724, .lor, 1), (725, .invokevirtual 105, 3), (728, .istore 6, 2), (730, .aload_n 2, 1), (731, .invokevirtual 81, 3), (734, .iload 5, 2), (736, .if_icmp .eq 5, 3), (739, .iconst 0, 1), (740, .ireturn, 1), (741, .iload 5, 2), (743, .ifCond .ne 15, 3), (746, .aload_n 3, 1), (747, .iconst 0, 1), (748, .laload, 1), (749, .iload 6, 2), (751, .i2l, 1), (752, .lcmp, 1), (753, .ifCond .eq 5, 3), (756, .iconst 0, 1), (757, .ireturn, 1), (758, .goto 716, 3), (761, .aload_n 1, 1), (762, .aload_n 0, 1), (763, .iload 4, 2), (765, .iconst 1, 1), (766, .iadd, 1), (767, .iaload, 1), (768, .aload_n 0, 1), (769, .iload 4, 2), (771, .iconst 2, 1), (772, .iadd, 1)]
theorem ok_tb_L_law_3 : dOk code tb_L_law_3 = true := by decide +kernel
theorem d_L_law_594 : decode code 594 = .ok (.iload 4, 2) := dOk_get (q := (594, .iload 4, 2)) ok_tb_L_law_3 0 rfl
theorem d_L_law_596 : decode code 596 = .ok (.iconst 2, 1) := dOk_get (q := (596, .iconst 2, 1)) ok_tb_L_law_3 1 rfl
theorem d_L_law_597 : decode code 597 = .ok (.iadd, 1) := dOk_get (q := (597, .iadd, 1)) ok_tb_L_law_3 2 rfl
theorem d_L_law_598 : decode code 598 = .ok (.iaload, 1) := dOk_get (q := (598, .iaload, 1)) ok_tb_L_law_3 3 rfl
theorem d_L_law_599 : decode code 599 = .ok (.aload_n 3, 1) := dOk_get (q := (599, .aload_n 3, 1)) ok_tb_L_law_3 4 rfl
theorem d_L_law_600 : decode code 600 = .ok (.invokestatic 99, 3) := dOk_get (q := (600, .invokestatic 99, 3)) ok_tb_L_law_3 5 rfl
theorem d_L_law_603 : decode code 603 = .ok (.istore 5, 2) := dOk_get (q := (603, .istore 5, 2)) ok_tb_L_law_3 6 rfl
theorem d_L_law_605 : decode code 605 = .ok (.aload_n 2, 1) := dOk_get (q := (605, .aload_n 2, 1)) ok_tb_L_law_3 7 rfl
theorem d_L_law_606 : decode code 606 = .ok (.aload_n 0, 1) := dOk_get (q := (606, .aload_n 0, 1)) ok_tb_L_law_3 8 rfl
theorem d_L_law_607 : decode code 607 = .ok (.iload 4, 2) := dOk_get (q := (607, .iload 4, 2)) ok_tb_L_law_3 9 rfl
theorem d_L_law_609 : decode code 609 = .ok (.iconst 1, 1) := dOk_get (q := (609, .iconst 1, 1)) ok_tb_L_law_3 10 rfl
theorem d_L_law_610 : decode code 610 = .ok (.iadd, 1) := dOk_get (q := (610, .iadd, 1)) ok_tb_L_law_3 11 rfl
theorem d_L_law_611 : decode code 611 = .ok (.iaload, 1) := dOk_get (q := (611, .iaload, 1)) ok_tb_L_law_3 12 rfl
theorem d_L_law_612 : decode code 612 = .ok (.aload_n 0, 1) := dOk_get (q := (612, .aload_n 0, 1)) ok_tb_L_law_3 13 rfl
theorem d_L_law_613 : decode code 613 = .ok (.iload 4, 2) := dOk_get (q := (613, .iload 4, 2)) ok_tb_L_law_3 14 rfl
theorem d_L_law_615 : decode code 615 = .ok (.iconst 2, 1) := dOk_get (q := (615, .iconst 2, 1)) ok_tb_L_law_3 15 rfl
theorem d_L_law_616 : decode code 616 = .ok (.iadd, 1) := dOk_get (q := (616, .iadd, 1)) ok_tb_L_law_3 16 rfl
theorem d_L_law_617 : decode code 617 = .ok (.iaload, 1) := dOk_get (q := (617, .iaload, 1)) ok_tb_L_law_3 17 rfl
theorem d_L_law_618 : decode code 618 = .ok (.invokevirtual 102, 3) := dOk_get (q := (618, .invokevirtual 102, 3)) ok_tb_L_law_3 18 rfl
theorem d_L_law_621 : decode code 621 = .ok (.istore 6, 2) := dOk_get (q := (621, .istore 6, 2)) ok_tb_L_law_3 19 rfl
theorem d_L_law_623 : decode code 623 = .ok (.aload_n 2, 1) := dOk_get (q := (623, .aload_n 2, 1)) ok_tb_L_law_3 20 rfl
theorem d_L_law_624 : decode code 624 = .ok (.invokevirtual 81, 3) := dOk_get (q := (624, .invokevirtual 81, 3)) ok_tb_L_law_3 21 rfl
theorem d_L_law_627 : decode code 627 = .ok (.iload 5, 2) := dOk_get (q := (627, .iload 5, 2)) ok_tb_L_law_3 22 rfl
theorem d_L_law_629 : decode code 629 = .ok (.if_icmp .eq 5, 3) := dOk_get (q := (629, .if_icmp .eq 5, 3)) ok_tb_L_law_3 23 rfl
theorem d_L_law_632 : decode code 632 = .ok (.iconst 0, 1) := dOk_get (q := (632, .iconst 0, 1)) ok_tb_L_law_3 24 rfl
theorem d_L_law_633 : decode code 633 = .ok (.ireturn, 1) := dOk_get (q := (633, .ireturn, 1)) ok_tb_L_law_3 25 rfl
theorem d_L_law_634 : decode code 634 = .ok (.iload 5, 2) := dOk_get (q := (634, .iload 5, 2)) ok_tb_L_law_3 26 rfl
theorem d_L_law_636 : decode code 636 = .ok (.ifCond .ne 22, 3) := dOk_get (q := (636, .ifCond .ne 22, 3)) ok_tb_L_law_3 27 rfl
theorem d_L_law_639 : decode code 639 = .ok (.aload_n 3, 1) := dOk_get (q := (639, .aload_n 3, 1)) ok_tb_L_law_3 28 rfl
theorem d_L_law_640 : decode code 640 = .ok (.iconst 0, 1) := dOk_get (q := (640, .iconst 0, 1)) ok_tb_L_law_3 29 rfl
theorem d_L_law_641 : decode code 641 = .ok (.laload, 1) := dOk_get (q := (641, .laload, 1)) ok_tb_L_law_3 30 rfl
theorem d_L_law_642 : decode code 642 = .ok (.iload 6, 2) := dOk_get (q := (642, .iload 6, 2)) ok_tb_L_law_3 31 rfl
theorem d_L_law_644 : decode code 644 = .ok (.ifCond .eq 7, 3) := dOk_get (q := (644, .ifCond .eq 7, 3)) ok_tb_L_law_3 32 rfl
theorem d_L_law_647 : decode code 647 = .ok (.lconst 1, 1) := dOk_get (q := (647, .lconst 1, 1)) ok_tb_L_law_3 33 rfl
theorem d_L_law_648 : decode code 648 = .ok (.goto 4, 3) := dOk_get (q := (648, .goto 4, 3)) ok_tb_L_law_3 34 rfl
theorem d_L_law_651 : decode code 651 = .ok (.lconst 0, 1) := dOk_get (q := (651, .lconst 0, 1)) ok_tb_L_law_3 35 rfl
theorem d_L_law_652 : decode code 652 = .ok (.lcmp, 1) := dOk_get (q := (652, .lcmp, 1)) ok_tb_L_law_3 36 rfl
theorem d_L_law_653 : decode code 653 = .ok (.ifCond .eq 5, 3) := dOk_get (q := (653, .ifCond .eq 5, 3)) ok_tb_L_law_3 37 rfl
theorem d_L_law_656 : decode code 656 = .ok (.iconst 0, 1) := dOk_get (q := (656, .iconst 0, 1)) ok_tb_L_law_3 38 rfl
theorem d_L_law_657 : decode code 657 = .ok (.ireturn, 1) := dOk_get (q := (657, .ireturn, 1)) ok_tb_L_law_3 39 rfl
theorem d_L_law_658 : decode code 658 = .ok (.goto 816, 3) := dOk_get (q := (658, .goto 816, 3)) ok_tb_L_law_3 40 rfl
theorem d_L_law_661 : decode code 661 = .ok (.aload_n 1, 1) := dOk_get (q := (661, .aload_n 1, 1)) ok_tb_L_law_3 41 rfl
theorem d_L_law_662 : decode code 662 = .ok (.aload_n 0, 1) := dOk_get (q := (662, .aload_n 0, 1)) ok_tb_L_law_3 42 rfl
theorem d_L_law_663 : decode code 663 = .ok (.iload 4, 2) := dOk_get (q := (663, .iload 4, 2)) ok_tb_L_law_3 43 rfl
theorem d_L_law_665 : decode code 665 = .ok (.iconst 1, 1) := dOk_get (q := (665, .iconst 1, 1)) ok_tb_L_law_3 44 rfl
theorem d_L_law_666 : decode code 666 = .ok (.iadd, 1) := dOk_get (q := (666, .iadd, 1)) ok_tb_L_law_3 45 rfl
theorem d_L_law_667 : decode code 667 = .ok (.iaload, 1) := dOk_get (q := (667, .iaload, 1)) ok_tb_L_law_3 46 rfl
theorem d_L_law_668 : decode code 668 = .ok (.aload_n 0, 1) := dOk_get (q := (668, .aload_n 0, 1)) ok_tb_L_law_3 47 rfl
theorem d_L_law_669 : decode code 669 = .ok (.iload 4, 2) := dOk_get (q := (669, .iload 4, 2)) ok_tb_L_law_3 48 rfl
theorem d_L_law_671 : decode code 671 = .ok (.iconst 2, 1) := dOk_get (q := (671, .iconst 2, 1)) ok_tb_L_law_3 49 rfl
theorem d_L_law_672 : decode code 672 = .ok (.iadd, 1) := dOk_get (q := (672, .iadd, 1)) ok_tb_L_law_3 50 rfl
theorem d_L_law_673 : decode code 673 = .ok (.iaload, 1) := dOk_get (q := (673, .iaload, 1)) ok_tb_L_law_3 51 rfl
theorem d_L_law_674 : decode code 674 = .ok (.i2l, 1) := dOk_get (q := (674, .i2l, 1)) ok_tb_L_law_3 52 rfl
theorem d_L_law_675 : decode code 675 = .ok (.bipush 32, 2) := dOk_get (q := (675, .bipush 32, 2)) ok_tb_L_law_3 53 rfl
theorem d_L_law_677 : decode code 677 = .ok (.lshl, 1) := dOk_get (q := (677, .lshl, 1)) ok_tb_L_law_3 54 rfl
theorem d_L_law_678 : decode code 678 = .ok (.aload_n 0, 1) := dOk_get (q := (678, .aload_n 0, 1)) ok_tb_L_law_3 55 rfl
theorem d_L_law_679 : decode code 679 = .ok (.iload 4, 2) := dOk_get (q := (679, .iload 4, 2)) ok_tb_L_law_3 56 rfl
theorem d_L_law_681 : decode code 681 = .ok (.iconst 3, 1) := dOk_get (q := (681, .iconst 3, 1)) ok_tb_L_law_3 57 rfl
theorem d_L_law_682 : decode code 682 = .ok (.iadd, 1) := dOk_get (q := (682, .iadd, 1)) ok_tb_L_law_3 58 rfl
theorem d_L_law_683 : decode code 683 = .ok (.iaload, 1) := dOk_get (q := (683, .iaload, 1)) ok_tb_L_law_3 59 rfl
theorem d_L_law_684 : decode code 684 = .ok (.i2l, 1) := dOk_get (q := (684, .i2l, 1)) ok_tb_L_law_3 60 rfl
theorem d_L_law_685 : decode code 685 = .ok (.ldc2_w 85, 3) := dOk_get (q := (685, .ldc2_w 85, 3)) ok_tb_L_law_3 61 rfl
theorem d_L_law_688 : decode code 688 = .ok (.land, 1) := dOk_get (q := (688, .land, 1)) ok_tb_L_law_3 62 rfl
theorem d_L_law_689 : decode code 689 = .ok (.lor, 1) := dOk_get (q := (689, .lor, 1)) ok_tb_L_law_3 63 rfl
theorem d_L_law_690 : decode code 690 = .ok (.aload_n 3, 1) := dOk_get (q := (690, .aload_n 3, 1)) ok_tb_L_law_3 64 rfl
theorem d_L_law_691 : decode code 691 = .ok (.invokestatic 103, 3) := dOk_get (q := (691, .invokestatic 103, 3)) ok_tb_L_law_3 65 rfl
theorem d_L_law_694 : decode code 694 = .ok (.istore 5, 2) := dOk_get (q := (694, .istore 5, 2)) ok_tb_L_law_3 66 rfl
theorem d_L_law_696 : decode code 696 = .ok (.aload_n 2, 1) := dOk_get (q := (696, .aload_n 2, 1)) ok_tb_L_law_3 67 rfl
theorem d_L_law_697 : decode code 697 = .ok (.aload_n 0, 1) := dOk_get (q := (697, .aload_n 0, 1)) ok_tb_L_law_3 68 rfl
theorem d_L_law_698 : decode code 698 = .ok (.iload 4, 2) := dOk_get (q := (698, .iload 4, 2)) ok_tb_L_law_3 69 rfl
theorem d_L_law_700 : decode code 700 = .ok (.iconst 1, 1) := dOk_get (q := (700, .iconst 1, 1)) ok_tb_L_law_3 70 rfl
theorem d_L_law_701 : decode code 701 = .ok (.iadd, 1) := dOk_get (q := (701, .iadd, 1)) ok_tb_L_law_3 71 rfl
theorem d_L_law_702 : decode code 702 = .ok (.iaload, 1) := dOk_get (q := (702, .iaload, 1)) ok_tb_L_law_3 72 rfl
theorem d_L_law_703 : decode code 703 = .ok (.aload_n 0, 1) := dOk_get (q := (703, .aload_n 0, 1)) ok_tb_L_law_3 73 rfl
theorem d_L_law_704 : decode code 704 = .ok (.iload 4, 2) := dOk_get (q := (704, .iload 4, 2)) ok_tb_L_law_3 74 rfl
theorem d_L_law_706 : decode code 706 = .ok (.iconst 2, 1) := dOk_get (q := (706, .iconst 2, 1)) ok_tb_L_law_3 75 rfl
theorem d_L_law_707 : decode code 707 = .ok (.iadd, 1) := dOk_get (q := (707, .iadd, 1)) ok_tb_L_law_3 76 rfl
theorem d_L_law_708 : decode code 708 = .ok (.iaload, 1) := dOk_get (q := (708, .iaload, 1)) ok_tb_L_law_3 77 rfl
theorem d_L_law_709 : decode code 709 = .ok (.i2l, 1) := dOk_get (q := (709, .i2l, 1)) ok_tb_L_law_3 78 rfl
theorem d_L_law_710 : decode code 710 = .ok (.bipush 32, 2) := dOk_get (q := (710, .bipush 32, 2)) ok_tb_L_law_3 79 rfl
theorem d_L_law_712 : decode code 712 = .ok (.lshl, 1) := dOk_get (q := (712, .lshl, 1)) ok_tb_L_law_3 80 rfl
theorem d_L_law_713 : decode code 713 = .ok (.aload_n 0, 1) := dOk_get (q := (713, .aload_n 0, 1)) ok_tb_L_law_3 81 rfl
theorem d_L_law_714 : decode code 714 = .ok (.iload 4, 2) := dOk_get (q := (714, .iload 4, 2)) ok_tb_L_law_3 82 rfl
theorem d_L_law_716 : decode code 716 = .ok (.iconst 3, 1) := dOk_get (q := (716, .iconst 3, 1)) ok_tb_L_law_3 83 rfl
theorem d_L_law_717 : decode code 717 = .ok (.iadd, 1) := dOk_get (q := (717, .iadd, 1)) ok_tb_L_law_3 84 rfl
theorem d_L_law_718 : decode code 718 = .ok (.iaload, 1) := dOk_get (q := (718, .iaload, 1)) ok_tb_L_law_3 85 rfl
theorem d_L_law_719 : decode code 719 = .ok (.i2l, 1) := dOk_get (q := (719, .i2l, 1)) ok_tb_L_law_3 86 rfl
theorem d_L_law_720 : decode code 720 = .ok (.ldc2_w 85, 3) := dOk_get (q := (720, .ldc2_w 85, 3)) ok_tb_L_law_3 87 rfl
theorem d_L_law_723 : decode code 723 = .ok (.land, 1) := dOk_get (q := (723, .land, 1)) ok_tb_L_law_3 88 rfl
theorem d_L_law_724 : decode code 724 = .ok (.lor, 1) := dOk_get (q := (724, .lor, 1)) ok_tb_L_law_3 89 rfl
theorem d_L_law_725 : decode code 725 = .ok (.invokevirtual 105, 3) := dOk_get (q := (725, .invokevirtual 105, 3)) ok_tb_L_law_3 90 rfl
theorem d_L_law_728 : decode code 728 = .ok (.istore 6, 2) := dOk_get (q := (728, .istore 6, 2)) ok_tb_L_law_3 91 rfl
theorem d_L_law_730 : decode code 730 = .ok (.aload_n 2, 1) := dOk_get (q := (730, .aload_n 2, 1)) ok_tb_L_law_3 92 rfl
theorem d_L_law_731 : decode code 731 = .ok (.invokevirtual 81, 3) := dOk_get (q := (731, .invokevirtual 81, 3)) ok_tb_L_law_3 93 rfl
theorem d_L_law_734 : decode code 734 = .ok (.iload 5, 2) := dOk_get (q := (734, .iload 5, 2)) ok_tb_L_law_3 94 rfl
theorem d_L_law_736 : decode code 736 = .ok (.if_icmp .eq 5, 3) := dOk_get (q := (736, .if_icmp .eq 5, 3)) ok_tb_L_law_3 95 rfl
theorem d_L_law_739 : decode code 739 = .ok (.iconst 0, 1) := dOk_get (q := (739, .iconst 0, 1)) ok_tb_L_law_3 96 rfl
theorem d_L_law_740 : decode code 740 = .ok (.ireturn, 1) := dOk_get (q := (740, .ireturn, 1)) ok_tb_L_law_3 97 rfl
theorem d_L_law_741 : decode code 741 = .ok (.iload 5, 2) := dOk_get (q := (741, .iload 5, 2)) ok_tb_L_law_3 98 rfl
theorem d_L_law_743 : decode code 743 = .ok (.ifCond .ne 15, 3) := dOk_get (q := (743, .ifCond .ne 15, 3)) ok_tb_L_law_3 99 rfl
theorem d_L_law_746 : decode code 746 = .ok (.aload_n 3, 1) := dOk_get (q := (746, .aload_n 3, 1)) ok_tb_L_law_3 100 rfl
theorem d_L_law_747 : decode code 747 = .ok (.iconst 0, 1) := dOk_get (q := (747, .iconst 0, 1)) ok_tb_L_law_3 101 rfl
theorem d_L_law_748 : decode code 748 = .ok (.laload, 1) := dOk_get (q := (748, .laload, 1)) ok_tb_L_law_3 102 rfl
theorem d_L_law_749 : decode code 749 = .ok (.iload 6, 2) := dOk_get (q := (749, .iload 6, 2)) ok_tb_L_law_3 103 rfl
theorem d_L_law_751 : decode code 751 = .ok (.i2l, 1) := dOk_get (q := (751, .i2l, 1)) ok_tb_L_law_3 104 rfl
theorem d_L_law_752 : decode code 752 = .ok (.lcmp, 1) := dOk_get (q := (752, .lcmp, 1)) ok_tb_L_law_3 105 rfl
theorem d_L_law_753 : decode code 753 = .ok (.ifCond .eq 5, 3) := dOk_get (q := (753, .ifCond .eq 5, 3)) ok_tb_L_law_3 106 rfl
theorem d_L_law_756 : decode code 756 = .ok (.iconst 0, 1) := dOk_get (q := (756, .iconst 0, 1)) ok_tb_L_law_3 107 rfl
theorem d_L_law_757 : decode code 757 = .ok (.ireturn, 1) := dOk_get (q := (757, .ireturn, 1)) ok_tb_L_law_3 108 rfl
theorem d_L_law_758 : decode code 758 = .ok (.goto 716, 3) := dOk_get (q := (758, .goto 716, 3)) ok_tb_L_law_3 109 rfl
theorem d_L_law_761 : decode code 761 = .ok (.aload_n 1, 1) := dOk_get (q := (761, .aload_n 1, 1)) ok_tb_L_law_3 110 rfl
theorem d_L_law_762 : decode code 762 = .ok (.aload_n 0, 1) := dOk_get (q := (762, .aload_n 0, 1)) ok_tb_L_law_3 111 rfl
theorem d_L_law_763 : decode code 763 = .ok (.iload 4, 2) := dOk_get (q := (763, .iload 4, 2)) ok_tb_L_law_3 112 rfl
theorem d_L_law_765 : decode code 765 = .ok (.iconst 1, 1) := dOk_get (q := (765, .iconst 1, 1)) ok_tb_L_law_3 113 rfl
theorem d_L_law_766 : decode code 766 = .ok (.iadd, 1) := dOk_get (q := (766, .iadd, 1)) ok_tb_L_law_3 114 rfl
theorem d_L_law_767 : decode code 767 = .ok (.iaload, 1) := dOk_get (q := (767, .iaload, 1)) ok_tb_L_law_3 115 rfl
theorem d_L_law_768 : decode code 768 = .ok (.aload_n 0, 1) := dOk_get (q := (768, .aload_n 0, 1)) ok_tb_L_law_3 116 rfl
theorem d_L_law_769 : decode code 769 = .ok (.iload 4, 2) := dOk_get (q := (769, .iload 4, 2)) ok_tb_L_law_3 117 rfl
theorem d_L_law_771 : decode code 771 = .ok (.iconst 2, 1) := dOk_get (q := (771, .iconst 2, 1)) ok_tb_L_law_3 118 rfl
theorem d_L_law_772 : decode code 772 = .ok (.iadd, 1) := dOk_get (q := (772, .iadd, 1)) ok_tb_L_law_3 119 rfl
def tb_L_law_4 : List (Nat × Instr × Nat) := [(773, .iaload, 1), (774, .aload_n 3, 1), (775, .invokestatic 106, 3), (778, .istore 5, 2), (780, .aload_n 2, 1), (781, .aload_n 0, 1), (782, .iload 4, 2), (784, .iconst 1, 1), (785, .iadd, 1), (786, .iaload, 1), (787, .aload_n 0, 1), (788, .iload 4, 2), (790, .iconst 2, 1), (791, .iadd, 1), (792, .iaload, 1), (793, .invokevirtual 108, 3), (796, .istore 6, 2), (798, .aload_n 2, 1), (799, .invokevirtual 81, 3), (802, .iload 5, 2), (804, .if_icmp .eq 5, 3), (807, .iconst 0, 1), (808, .ireturn, 1), (809, .iload 5, 2), (811, .ifCond .ne 15, 3), (814, .aload_n 3, 1), (815, .iconst 0, 1), (816, .laload, 1), (817, .iload 6, 2), (819, .i2l, 1), (820, .lcmp, 1), (821, .ifCond .eq 5, 3), (824, .iconst 0, 1), (825, .ireturn, 1), (826, .goto 648, 3), (829, .aload_n 1, 1), (830, .aload_n 0, 1), (831, .iload 4, 2), (833, .iconst 1, 1), (834, .iadd, 1), (835, .iaload, 1), (836, .aload_n 0, 1), (837, .iload 4, 2), (839, .iconst 2, 1), (840, .iadd, 1), (841, .iaload, 1), (842, .aload_n 3, 1), (843, .invokestatic 109, 3), (846, .istore 5, 2), (848, .aload_n 2, 1), (849, .aload_n 0, 1), (850, .iload 4, 2), (852, .iconst 1, 1), (853, .iadd, 1), (854, .iaload, 1), (855, .aload_n 0, 1), (856, .iload 4, 2), (858, .iconst 2, 1), (859, .iadd, 1), (860, .iaload, 1), (861, .invokevirtual 111, 3), (864, .lstore 6, 2), (866, .aload_n 2, 1), (867, .invokevirtual 81, 3), (870, .iload 5, 2), (872, .if_icmp .eq 5, 3), (875, .iconst 0, 1), (876, .ireturn, 1), (877, .iload 5, 2), (879, .ifCond .ne 14, 3), (882, .aload_n 3, 1), (883, .iconst 0, 1), (884, .laload, 1), (885, .lload 6, 2), (887, .lcmp, 1), (888, .ifCond .eq 5, 3), (891, .iconst 0, 1), (892, .ireturn, 1), (893, .goto 581, 3), (896, .aload_n 1, 1), (897, .aload_n 0, 1), (898, .iload 4, 2), (900, .iconst 1, 1), (901, .iadd, 1), (902, .iaload, 1), (903, .aload_n 3, 1), (904, .invokestatic 112, 3), (907, .istore 5, 2), (909, .aload_n 2, 1), (910, .aload_n 0, 1), (911, .iload 4, 2), (913, .iconst 1, 1), (914, .iadd, 1), (915, .iaload, 1), (916, .invokevirtual 115, 3), (919, .istore 6, 2), (921, .aload_n 2, 1), (922, .invokevirtual 81, 3), (925, .iload 5, 2), (927, .if_icmp .eq 5, 3), (930, .iconst 0, 1), (931, .ireturn, 1), (932, .iload 5, 2), (934, .ifCond .ne 22, 3), (937, .aload_n 3, 1), (938, .iconst 0, 1), (939, .laload, 1), (940, .iload 6, 2), (942, .ifCond .eq 7, 3), (945, .lconst 1, 1), (946, .goto 4, 3), (949, .lconst 0, 1), (950, .lcmp, 1), (951, .ifCond .eq 5, 3), (954, .iconst 0, 1), (955, .ireturn, 1), (956, .goto 518, 3), (959, .aload_n 1, 1), (960, .aload_n 0, 1), (961, .iload 4, 2)]
theorem ok_tb_L_law_4 : dOk code tb_L_law_4 = true := by decide +kernel
theorem d_L_law_773 : decode code 773 = .ok (.iaload, 1) := dOk_get (q := (773, .iaload, 1)) ok_tb_L_law_4 0 rfl
theorem d_L_law_774 : decode code 774 = .ok (.aload_n 3, 1) := dOk_get (q := (774, .aload_n 3, 1)) ok_tb_L_law_4 1 rfl
theorem d_L_law_775 : decode code 775 = .ok (.invokestatic 106, 3) := dOk_get (q := (775, .invokestatic 106, 3)) ok_tb_L_law_4 2 rfl
theorem d_L_law_778 : decode code 778 = .ok (.istore 5, 2) := dOk_get (q := (778, .istore 5, 2)) ok_tb_L_law_4 3 rfl
theorem d_L_law_780 : decode code 780 = .ok (.aload_n 2, 1) := dOk_get (q := (780, .aload_n 2, 1)) ok_tb_L_law_4 4 rfl
theorem d_L_law_781 : decode code 781 = .ok (.aload_n 0, 1) := dOk_get (q := (781, .aload_n 0, 1)) ok_tb_L_law_4 5 rfl
theorem d_L_law_782 : decode code 782 = .ok (.iload 4, 2) := dOk_get (q := (782, .iload 4, 2)) ok_tb_L_law_4 6 rfl
theorem d_L_law_784 : decode code 784 = .ok (.iconst 1, 1) := dOk_get (q := (784, .iconst 1, 1)) ok_tb_L_law_4 7 rfl
theorem d_L_law_785 : decode code 785 = .ok (.iadd, 1) := dOk_get (q := (785, .iadd, 1)) ok_tb_L_law_4 8 rfl
theorem d_L_law_786 : decode code 786 = .ok (.iaload, 1) := dOk_get (q := (786, .iaload, 1)) ok_tb_L_law_4 9 rfl
theorem d_L_law_787 : decode code 787 = .ok (.aload_n 0, 1) := dOk_get (q := (787, .aload_n 0, 1)) ok_tb_L_law_4 10 rfl
theorem d_L_law_788 : decode code 788 = .ok (.iload 4, 2) := dOk_get (q := (788, .iload 4, 2)) ok_tb_L_law_4 11 rfl
theorem d_L_law_790 : decode code 790 = .ok (.iconst 2, 1) := dOk_get (q := (790, .iconst 2, 1)) ok_tb_L_law_4 12 rfl
theorem d_L_law_791 : decode code 791 = .ok (.iadd, 1) := dOk_get (q := (791, .iadd, 1)) ok_tb_L_law_4 13 rfl
theorem d_L_law_792 : decode code 792 = .ok (.iaload, 1) := dOk_get (q := (792, .iaload, 1)) ok_tb_L_law_4 14 rfl
theorem d_L_law_793 : decode code 793 = .ok (.invokevirtual 108, 3) := dOk_get (q := (793, .invokevirtual 108, 3)) ok_tb_L_law_4 15 rfl
theorem d_L_law_796 : decode code 796 = .ok (.istore 6, 2) := dOk_get (q := (796, .istore 6, 2)) ok_tb_L_law_4 16 rfl
theorem d_L_law_798 : decode code 798 = .ok (.aload_n 2, 1) := dOk_get (q := (798, .aload_n 2, 1)) ok_tb_L_law_4 17 rfl
theorem d_L_law_799 : decode code 799 = .ok (.invokevirtual 81, 3) := dOk_get (q := (799, .invokevirtual 81, 3)) ok_tb_L_law_4 18 rfl
theorem d_L_law_802 : decode code 802 = .ok (.iload 5, 2) := dOk_get (q := (802, .iload 5, 2)) ok_tb_L_law_4 19 rfl
theorem d_L_law_804 : decode code 804 = .ok (.if_icmp .eq 5, 3) := dOk_get (q := (804, .if_icmp .eq 5, 3)) ok_tb_L_law_4 20 rfl
theorem d_L_law_807 : decode code 807 = .ok (.iconst 0, 1) := dOk_get (q := (807, .iconst 0, 1)) ok_tb_L_law_4 21 rfl
theorem d_L_law_808 : decode code 808 = .ok (.ireturn, 1) := dOk_get (q := (808, .ireturn, 1)) ok_tb_L_law_4 22 rfl
theorem d_L_law_809 : decode code 809 = .ok (.iload 5, 2) := dOk_get (q := (809, .iload 5, 2)) ok_tb_L_law_4 23 rfl
theorem d_L_law_811 : decode code 811 = .ok (.ifCond .ne 15, 3) := dOk_get (q := (811, .ifCond .ne 15, 3)) ok_tb_L_law_4 24 rfl
theorem d_L_law_814 : decode code 814 = .ok (.aload_n 3, 1) := dOk_get (q := (814, .aload_n 3, 1)) ok_tb_L_law_4 25 rfl
theorem d_L_law_815 : decode code 815 = .ok (.iconst 0, 1) := dOk_get (q := (815, .iconst 0, 1)) ok_tb_L_law_4 26 rfl
theorem d_L_law_816 : decode code 816 = .ok (.laload, 1) := dOk_get (q := (816, .laload, 1)) ok_tb_L_law_4 27 rfl
theorem d_L_law_817 : decode code 817 = .ok (.iload 6, 2) := dOk_get (q := (817, .iload 6, 2)) ok_tb_L_law_4 28 rfl
theorem d_L_law_819 : decode code 819 = .ok (.i2l, 1) := dOk_get (q := (819, .i2l, 1)) ok_tb_L_law_4 29 rfl
theorem d_L_law_820 : decode code 820 = .ok (.lcmp, 1) := dOk_get (q := (820, .lcmp, 1)) ok_tb_L_law_4 30 rfl
theorem d_L_law_821 : decode code 821 = .ok (.ifCond .eq 5, 3) := dOk_get (q := (821, .ifCond .eq 5, 3)) ok_tb_L_law_4 31 rfl
theorem d_L_law_824 : decode code 824 = .ok (.iconst 0, 1) := dOk_get (q := (824, .iconst 0, 1)) ok_tb_L_law_4 32 rfl
theorem d_L_law_825 : decode code 825 = .ok (.ireturn, 1) := dOk_get (q := (825, .ireturn, 1)) ok_tb_L_law_4 33 rfl
theorem d_L_law_826 : decode code 826 = .ok (.goto 648, 3) := dOk_get (q := (826, .goto 648, 3)) ok_tb_L_law_4 34 rfl
theorem d_L_law_829 : decode code 829 = .ok (.aload_n 1, 1) := dOk_get (q := (829, .aload_n 1, 1)) ok_tb_L_law_4 35 rfl
theorem d_L_law_830 : decode code 830 = .ok (.aload_n 0, 1) := dOk_get (q := (830, .aload_n 0, 1)) ok_tb_L_law_4 36 rfl
theorem d_L_law_831 : decode code 831 = .ok (.iload 4, 2) := dOk_get (q := (831, .iload 4, 2)) ok_tb_L_law_4 37 rfl
theorem d_L_law_833 : decode code 833 = .ok (.iconst 1, 1) := dOk_get (q := (833, .iconst 1, 1)) ok_tb_L_law_4 38 rfl
theorem d_L_law_834 : decode code 834 = .ok (.iadd, 1) := dOk_get (q := (834, .iadd, 1)) ok_tb_L_law_4 39 rfl
theorem d_L_law_835 : decode code 835 = .ok (.iaload, 1) := dOk_get (q := (835, .iaload, 1)) ok_tb_L_law_4 40 rfl
theorem d_L_law_836 : decode code 836 = .ok (.aload_n 0, 1) := dOk_get (q := (836, .aload_n 0, 1)) ok_tb_L_law_4 41 rfl
theorem d_L_law_837 : decode code 837 = .ok (.iload 4, 2) := dOk_get (q := (837, .iload 4, 2)) ok_tb_L_law_4 42 rfl
theorem d_L_law_839 : decode code 839 = .ok (.iconst 2, 1) := dOk_get (q := (839, .iconst 2, 1)) ok_tb_L_law_4 43 rfl
theorem d_L_law_840 : decode code 840 = .ok (.iadd, 1) := dOk_get (q := (840, .iadd, 1)) ok_tb_L_law_4 44 rfl
theorem d_L_law_841 : decode code 841 = .ok (.iaload, 1) := dOk_get (q := (841, .iaload, 1)) ok_tb_L_law_4 45 rfl
theorem d_L_law_842 : decode code 842 = .ok (.aload_n 3, 1) := dOk_get (q := (842, .aload_n 3, 1)) ok_tb_L_law_4 46 rfl
theorem d_L_law_843 : decode code 843 = .ok (.invokestatic 109, 3) := dOk_get (q := (843, .invokestatic 109, 3)) ok_tb_L_law_4 47 rfl
theorem d_L_law_846 : decode code 846 = .ok (.istore 5, 2) := dOk_get (q := (846, .istore 5, 2)) ok_tb_L_law_4 48 rfl
theorem d_L_law_848 : decode code 848 = .ok (.aload_n 2, 1) := dOk_get (q := (848, .aload_n 2, 1)) ok_tb_L_law_4 49 rfl
theorem d_L_law_849 : decode code 849 = .ok (.aload_n 0, 1) := dOk_get (q := (849, .aload_n 0, 1)) ok_tb_L_law_4 50 rfl
theorem d_L_law_850 : decode code 850 = .ok (.iload 4, 2) := dOk_get (q := (850, .iload 4, 2)) ok_tb_L_law_4 51 rfl
theorem d_L_law_852 : decode code 852 = .ok (.iconst 1, 1) := dOk_get (q := (852, .iconst 1, 1)) ok_tb_L_law_4 52 rfl
theorem d_L_law_853 : decode code 853 = .ok (.iadd, 1) := dOk_get (q := (853, .iadd, 1)) ok_tb_L_law_4 53 rfl
theorem d_L_law_854 : decode code 854 = .ok (.iaload, 1) := dOk_get (q := (854, .iaload, 1)) ok_tb_L_law_4 54 rfl
theorem d_L_law_855 : decode code 855 = .ok (.aload_n 0, 1) := dOk_get (q := (855, .aload_n 0, 1)) ok_tb_L_law_4 55 rfl
theorem d_L_law_856 : decode code 856 = .ok (.iload 4, 2) := dOk_get (q := (856, .iload 4, 2)) ok_tb_L_law_4 56 rfl
theorem d_L_law_858 : decode code 858 = .ok (.iconst 2, 1) := dOk_get (q := (858, .iconst 2, 1)) ok_tb_L_law_4 57 rfl
theorem d_L_law_859 : decode code 859 = .ok (.iadd, 1) := dOk_get (q := (859, .iadd, 1)) ok_tb_L_law_4 58 rfl
theorem d_L_law_860 : decode code 860 = .ok (.iaload, 1) := dOk_get (q := (860, .iaload, 1)) ok_tb_L_law_4 59 rfl
theorem d_L_law_861 : decode code 861 = .ok (.invokevirtual 111, 3) := dOk_get (q := (861, .invokevirtual 111, 3)) ok_tb_L_law_4 60 rfl
theorem d_L_law_864 : decode code 864 = .ok (.lstore 6, 2) := dOk_get (q := (864, .lstore 6, 2)) ok_tb_L_law_4 61 rfl
theorem d_L_law_866 : decode code 866 = .ok (.aload_n 2, 1) := dOk_get (q := (866, .aload_n 2, 1)) ok_tb_L_law_4 62 rfl
theorem d_L_law_867 : decode code 867 = .ok (.invokevirtual 81, 3) := dOk_get (q := (867, .invokevirtual 81, 3)) ok_tb_L_law_4 63 rfl
theorem d_L_law_870 : decode code 870 = .ok (.iload 5, 2) := dOk_get (q := (870, .iload 5, 2)) ok_tb_L_law_4 64 rfl
theorem d_L_law_872 : decode code 872 = .ok (.if_icmp .eq 5, 3) := dOk_get (q := (872, .if_icmp .eq 5, 3)) ok_tb_L_law_4 65 rfl
theorem d_L_law_875 : decode code 875 = .ok (.iconst 0, 1) := dOk_get (q := (875, .iconst 0, 1)) ok_tb_L_law_4 66 rfl
theorem d_L_law_876 : decode code 876 = .ok (.ireturn, 1) := dOk_get (q := (876, .ireturn, 1)) ok_tb_L_law_4 67 rfl
theorem d_L_law_877 : decode code 877 = .ok (.iload 5, 2) := dOk_get (q := (877, .iload 5, 2)) ok_tb_L_law_4 68 rfl
theorem d_L_law_879 : decode code 879 = .ok (.ifCond .ne 14, 3) := dOk_get (q := (879, .ifCond .ne 14, 3)) ok_tb_L_law_4 69 rfl
theorem d_L_law_882 : decode code 882 = .ok (.aload_n 3, 1) := dOk_get (q := (882, .aload_n 3, 1)) ok_tb_L_law_4 70 rfl
theorem d_L_law_883 : decode code 883 = .ok (.iconst 0, 1) := dOk_get (q := (883, .iconst 0, 1)) ok_tb_L_law_4 71 rfl
theorem d_L_law_884 : decode code 884 = .ok (.laload, 1) := dOk_get (q := (884, .laload, 1)) ok_tb_L_law_4 72 rfl
theorem d_L_law_885 : decode code 885 = .ok (.lload 6, 2) := dOk_get (q := (885, .lload 6, 2)) ok_tb_L_law_4 73 rfl
theorem d_L_law_887 : decode code 887 = .ok (.lcmp, 1) := dOk_get (q := (887, .lcmp, 1)) ok_tb_L_law_4 74 rfl
theorem d_L_law_888 : decode code 888 = .ok (.ifCond .eq 5, 3) := dOk_get (q := (888, .ifCond .eq 5, 3)) ok_tb_L_law_4 75 rfl
theorem d_L_law_891 : decode code 891 = .ok (.iconst 0, 1) := dOk_get (q := (891, .iconst 0, 1)) ok_tb_L_law_4 76 rfl
theorem d_L_law_892 : decode code 892 = .ok (.ireturn, 1) := dOk_get (q := (892, .ireturn, 1)) ok_tb_L_law_4 77 rfl
theorem d_L_law_893 : decode code 893 = .ok (.goto 581, 3) := dOk_get (q := (893, .goto 581, 3)) ok_tb_L_law_4 78 rfl
theorem d_L_law_896 : decode code 896 = .ok (.aload_n 1, 1) := dOk_get (q := (896, .aload_n 1, 1)) ok_tb_L_law_4 79 rfl
theorem d_L_law_897 : decode code 897 = .ok (.aload_n 0, 1) := dOk_get (q := (897, .aload_n 0, 1)) ok_tb_L_law_4 80 rfl
theorem d_L_law_898 : decode code 898 = .ok (.iload 4, 2) := dOk_get (q := (898, .iload 4, 2)) ok_tb_L_law_4 81 rfl
theorem d_L_law_900 : decode code 900 = .ok (.iconst 1, 1) := dOk_get (q := (900, .iconst 1, 1)) ok_tb_L_law_4 82 rfl
theorem d_L_law_901 : decode code 901 = .ok (.iadd, 1) := dOk_get (q := (901, .iadd, 1)) ok_tb_L_law_4 83 rfl
theorem d_L_law_902 : decode code 902 = .ok (.iaload, 1) := dOk_get (q := (902, .iaload, 1)) ok_tb_L_law_4 84 rfl
theorem d_L_law_903 : decode code 903 = .ok (.aload_n 3, 1) := dOk_get (q := (903, .aload_n 3, 1)) ok_tb_L_law_4 85 rfl
theorem d_L_law_904 : decode code 904 = .ok (.invokestatic 112, 3) := dOk_get (q := (904, .invokestatic 112, 3)) ok_tb_L_law_4 86 rfl
theorem d_L_law_907 : decode code 907 = .ok (.istore 5, 2) := dOk_get (q := (907, .istore 5, 2)) ok_tb_L_law_4 87 rfl
theorem d_L_law_909 : decode code 909 = .ok (.aload_n 2, 1) := dOk_get (q := (909, .aload_n 2, 1)) ok_tb_L_law_4 88 rfl
theorem d_L_law_910 : decode code 910 = .ok (.aload_n 0, 1) := dOk_get (q := (910, .aload_n 0, 1)) ok_tb_L_law_4 89 rfl
theorem d_L_law_911 : decode code 911 = .ok (.iload 4, 2) := dOk_get (q := (911, .iload 4, 2)) ok_tb_L_law_4 90 rfl
theorem d_L_law_913 : decode code 913 = .ok (.iconst 1, 1) := dOk_get (q := (913, .iconst 1, 1)) ok_tb_L_law_4 91 rfl
theorem d_L_law_914 : decode code 914 = .ok (.iadd, 1) := dOk_get (q := (914, .iadd, 1)) ok_tb_L_law_4 92 rfl
theorem d_L_law_915 : decode code 915 = .ok (.iaload, 1) := dOk_get (q := (915, .iaload, 1)) ok_tb_L_law_4 93 rfl
theorem d_L_law_916 : decode code 916 = .ok (.invokevirtual 115, 3) := dOk_get (q := (916, .invokevirtual 115, 3)) ok_tb_L_law_4 94 rfl
theorem d_L_law_919 : decode code 919 = .ok (.istore 6, 2) := dOk_get (q := (919, .istore 6, 2)) ok_tb_L_law_4 95 rfl
theorem d_L_law_921 : decode code 921 = .ok (.aload_n 2, 1) := dOk_get (q := (921, .aload_n 2, 1)) ok_tb_L_law_4 96 rfl
theorem d_L_law_922 : decode code 922 = .ok (.invokevirtual 81, 3) := dOk_get (q := (922, .invokevirtual 81, 3)) ok_tb_L_law_4 97 rfl
theorem d_L_law_925 : decode code 925 = .ok (.iload 5, 2) := dOk_get (q := (925, .iload 5, 2)) ok_tb_L_law_4 98 rfl
theorem d_L_law_927 : decode code 927 = .ok (.if_icmp .eq 5, 3) := dOk_get (q := (927, .if_icmp .eq 5, 3)) ok_tb_L_law_4 99 rfl
theorem d_L_law_930 : decode code 930 = .ok (.iconst 0, 1) := dOk_get (q := (930, .iconst 0, 1)) ok_tb_L_law_4 100 rfl
theorem d_L_law_931 : decode code 931 = .ok (.ireturn, 1) := dOk_get (q := (931, .ireturn, 1)) ok_tb_L_law_4 101 rfl
theorem d_L_law_932 : decode code 932 = .ok (.iload 5, 2) := dOk_get (q := (932, .iload 5, 2)) ok_tb_L_law_4 102 rfl
theorem d_L_law_934 : decode code 934 = .ok (.ifCond .ne 22, 3) := dOk_get (q := (934, .ifCond .ne 22, 3)) ok_tb_L_law_4 103 rfl
theorem d_L_law_937 : decode code 937 = .ok (.aload_n 3, 1) := dOk_get (q := (937, .aload_n 3, 1)) ok_tb_L_law_4 104 rfl
theorem d_L_law_938 : decode code 938 = .ok (.iconst 0, 1) := dOk_get (q := (938, .iconst 0, 1)) ok_tb_L_law_4 105 rfl
theorem d_L_law_939 : decode code 939 = .ok (.laload, 1) := dOk_get (q := (939, .laload, 1)) ok_tb_L_law_4 106 rfl
theorem d_L_law_940 : decode code 940 = .ok (.iload 6, 2) := dOk_get (q := (940, .iload 6, 2)) ok_tb_L_law_4 107 rfl
theorem d_L_law_942 : decode code 942 = .ok (.ifCond .eq 7, 3) := dOk_get (q := (942, .ifCond .eq 7, 3)) ok_tb_L_law_4 108 rfl
theorem d_L_law_945 : decode code 945 = .ok (.lconst 1, 1) := dOk_get (q := (945, .lconst 1, 1)) ok_tb_L_law_4 109 rfl
theorem d_L_law_946 : decode code 946 = .ok (.goto 4, 3) := dOk_get (q := (946, .goto 4, 3)) ok_tb_L_law_4 110 rfl
theorem d_L_law_949 : decode code 949 = .ok (.lconst 0, 1) := dOk_get (q := (949, .lconst 0, 1)) ok_tb_L_law_4 111 rfl
theorem d_L_law_950 : decode code 950 = .ok (.lcmp, 1) := dOk_get (q := (950, .lcmp, 1)) ok_tb_L_law_4 112 rfl
theorem d_L_law_951 : decode code 951 = .ok (.ifCond .eq 5, 3) := dOk_get (q := (951, .ifCond .eq 5, 3)) ok_tb_L_law_4 113 rfl
theorem d_L_law_954 : decode code 954 = .ok (.iconst 0, 1) := dOk_get (q := (954, .iconst 0, 1)) ok_tb_L_law_4 114 rfl
theorem d_L_law_955 : decode code 955 = .ok (.ireturn, 1) := dOk_get (q := (955, .ireturn, 1)) ok_tb_L_law_4 115 rfl
theorem d_L_law_956 : decode code 956 = .ok (.goto 518, 3) := dOk_get (q := (956, .goto 518, 3)) ok_tb_L_law_4 116 rfl
theorem d_L_law_959 : decode code 959 = .ok (.aload_n 1, 1) := dOk_get (q := (959, .aload_n 1, 1)) ok_tb_L_law_4 117 rfl
theorem d_L_law_960 : decode code 960 = .ok (.aload_n 0, 1) := dOk_get (q := (960, .aload_n 0, 1)) ok_tb_L_law_4 118 rfl
theorem d_L_law_961 : decode code 961 = .ok (.iload 4, 2) := dOk_get (q := (961, .iload 4, 2)) ok_tb_L_law_4 119 rfl
def tb_L_law_5 : List (Nat × Instr × Nat) := [(963, .iconst 1, 1), (964, .iadd, 1), (965, .iaload, 1), (966, .i2l, 1), (967, .bipush 32, 2), (969, .lshl, 1), (970, .aload_n 0, 1), (971, .iload 4, 2), (973, .iconst 2, 1), (974, .iadd, 1), (975, .iaload, 1), (976, .i2l, 1), (977, .ldc2_w 85, 3), (980, .land, 1), (981, .lor, 1), (982, .aload_n 0, 1), (983, .iload 4, 2), (985, .iconst 3, 1), (986, .iadd, 1), (987, .iaload, 1), (988, .i2l, 1), (989, .bipush 32, 2), (991, .lshl, 1), (992, .aload_n 0, 1), (993, .iload 4, 2), (995, .iconst 4, 1), (996, .iadd, 1), (997, .iaload, 1), (998, .i2l, 1), (999, .ldc2_w 85, 3), (1002, .land, 1), (1003, .lor, 1), (1004, .aload_n 0, 1), (1005, .iload 4, 2), (1007, .iconst 5, 1), (1008, .iadd, 1), (1009, .iaload, 1), (1010, .i2l, 1), (1011, .bipush 32, 2), (1013, .lshl, 1), (1014, .aload_n 0, 1), (1015, .iload 4, 2), (1017, .bipush 6, 2), (1019, .iadd, 1), (1020, .iaload, 1), (1021, .i2l, 1), (1022, .ldc2_w 85, 3), (1025, .land, 1), (1026, .lor, 1), (1027, .aload_n 0, 1), (1028, .iload 4, 2), (1030, .bipush 7, 2), (1032, .iadd, 1), (1033, .iaload, 1), (1034, .i2l, 1), (1035, .bipush 32, 2), (1037, .lshl, 1), (1038, .aload_n 0, 1), (1039, .iload 4, 2), (1041, .bipush 8, 2), (1043, .iadd, 1), (1044, .iaload, 1), (1045, .i2l, 1), (1046, .ldc2_w 85, 3), (1049, .land, 1), (1050, .lor, 1), (1051, .aload_n 3, 1), (1052, .invokestatic 116, 3), (1055, .istore 5, 2), (1057, .aload_n 2, 1), (1058, .aload_n 0, 1), (1059, .iload 4, 2), (1061, .iconst 1, 1), (1062, .iadd, 1), (1063, .iaload, 1), (1064, .i2l, 1), (1065, .bipush 32, 2), (1067, .lshl, 1), (1068, .aload_n 0, 1), (1069, .iload 4, 2), (1071, .iconst 2, 1), (1072, .iadd, 1), (1073, .iaload, 1), (1074, .i2l, 1), (1075, .ldc2_w 85, 3), (1078, .land, 1), (1079, .lor, 1), (1080, .aload_n 0, 1), (1081, .iload 4, 2), (1083, .iconst 3, 1), (1084, .iadd, 1), (1085, .iaload, 1), (1086, .i2l, 1), (1087, .bipush 32, 2), (1089, .lshl, 1), (1090, .aload_n 0, 1), (1091, .iload 4, 2), (1093, .iconst 4, 1), (1094, .iadd, 1), (1095, .iaload, 1), (1096, .i2l, 1), (1097, .ldc2_w 85, 3), (1100, .land, 1), (1101, .lor, 1), (1102, .aload_n 0, 1), (1103, .iload 4, 2), (1105, .iconst 5, 1), (1106, .iadd, 1), (1107, .iaload, 1), (1108, .i2l, 1), (1109, .bipush 32, 2), (1111, .lshl, 1), (1112, .aload_n 0, 1), (1113, .iload 4, 2), (1115, .bipush 6, 2), (1117, .iadd, 1), (1118, .iaload, 1), (1119, .i2l, 1), (1120, .ldc2_w 85, 3), (1123, .land, 1)]
theorem ok_tb_L_law_5 : dOk code tb_L_law_5 = true := by decide +kernel
theorem d_L_law_963 : decode code 963 = .ok (.iconst 1, 1) := dOk_get (q := (963, .iconst 1, 1)) ok_tb_L_law_5 0 rfl
theorem d_L_law_964 : decode code 964 = .ok (.iadd, 1) := dOk_get (q := (964, .iadd, 1)) ok_tb_L_law_5 1 rfl
theorem d_L_law_965 : decode code 965 = .ok (.iaload, 1) := dOk_get (q := (965, .iaload, 1)) ok_tb_L_law_5 2 rfl
theorem d_L_law_966 : decode code 966 = .ok (.i2l, 1) := dOk_get (q := (966, .i2l, 1)) ok_tb_L_law_5 3 rfl
theorem d_L_law_967 : decode code 967 = .ok (.bipush 32, 2) := dOk_get (q := (967, .bipush 32, 2)) ok_tb_L_law_5 4 rfl
theorem d_L_law_969 : decode code 969 = .ok (.lshl, 1) := dOk_get (q := (969, .lshl, 1)) ok_tb_L_law_5 5 rfl
theorem d_L_law_970 : decode code 970 = .ok (.aload_n 0, 1) := dOk_get (q := (970, .aload_n 0, 1)) ok_tb_L_law_5 6 rfl
theorem d_L_law_971 : decode code 971 = .ok (.iload 4, 2) := dOk_get (q := (971, .iload 4, 2)) ok_tb_L_law_5 7 rfl
theorem d_L_law_973 : decode code 973 = .ok (.iconst 2, 1) := dOk_get (q := (973, .iconst 2, 1)) ok_tb_L_law_5 8 rfl
theorem d_L_law_974 : decode code 974 = .ok (.iadd, 1) := dOk_get (q := (974, .iadd, 1)) ok_tb_L_law_5 9 rfl
theorem d_L_law_975 : decode code 975 = .ok (.iaload, 1) := dOk_get (q := (975, .iaload, 1)) ok_tb_L_law_5 10 rfl
theorem d_L_law_976 : decode code 976 = .ok (.i2l, 1) := dOk_get (q := (976, .i2l, 1)) ok_tb_L_law_5 11 rfl
theorem d_L_law_977 : decode code 977 = .ok (.ldc2_w 85, 3) := dOk_get (q := (977, .ldc2_w 85, 3)) ok_tb_L_law_5 12 rfl
theorem d_L_law_980 : decode code 980 = .ok (.land, 1) := dOk_get (q := (980, .land, 1)) ok_tb_L_law_5 13 rfl
theorem d_L_law_981 : decode code 981 = .ok (.lor, 1) := dOk_get (q := (981, .lor, 1)) ok_tb_L_law_5 14 rfl
theorem d_L_law_982 : decode code 982 = .ok (.aload_n 0, 1) := dOk_get (q := (982, .aload_n 0, 1)) ok_tb_L_law_5 15 rfl
theorem d_L_law_983 : decode code 983 = .ok (.iload 4, 2) := dOk_get (q := (983, .iload 4, 2)) ok_tb_L_law_5 16 rfl
theorem d_L_law_985 : decode code 985 = .ok (.iconst 3, 1) := dOk_get (q := (985, .iconst 3, 1)) ok_tb_L_law_5 17 rfl
theorem d_L_law_986 : decode code 986 = .ok (.iadd, 1) := dOk_get (q := (986, .iadd, 1)) ok_tb_L_law_5 18 rfl
theorem d_L_law_987 : decode code 987 = .ok (.iaload, 1) := dOk_get (q := (987, .iaload, 1)) ok_tb_L_law_5 19 rfl
theorem d_L_law_988 : decode code 988 = .ok (.i2l, 1) := dOk_get (q := (988, .i2l, 1)) ok_tb_L_law_5 20 rfl
theorem d_L_law_989 : decode code 989 = .ok (.bipush 32, 2) := dOk_get (q := (989, .bipush 32, 2)) ok_tb_L_law_5 21 rfl
theorem d_L_law_991 : decode code 991 = .ok (.lshl, 1) := dOk_get (q := (991, .lshl, 1)) ok_tb_L_law_5 22 rfl
theorem d_L_law_992 : decode code 992 = .ok (.aload_n 0, 1) := dOk_get (q := (992, .aload_n 0, 1)) ok_tb_L_law_5 23 rfl
theorem d_L_law_993 : decode code 993 = .ok (.iload 4, 2) := dOk_get (q := (993, .iload 4, 2)) ok_tb_L_law_5 24 rfl
theorem d_L_law_995 : decode code 995 = .ok (.iconst 4, 1) := dOk_get (q := (995, .iconst 4, 1)) ok_tb_L_law_5 25 rfl
theorem d_L_law_996 : decode code 996 = .ok (.iadd, 1) := dOk_get (q := (996, .iadd, 1)) ok_tb_L_law_5 26 rfl
theorem d_L_law_997 : decode code 997 = .ok (.iaload, 1) := dOk_get (q := (997, .iaload, 1)) ok_tb_L_law_5 27 rfl
theorem d_L_law_998 : decode code 998 = .ok (.i2l, 1) := dOk_get (q := (998, .i2l, 1)) ok_tb_L_law_5 28 rfl
theorem d_L_law_999 : decode code 999 = .ok (.ldc2_w 85, 3) := dOk_get (q := (999, .ldc2_w 85, 3)) ok_tb_L_law_5 29 rfl
theorem d_L_law_1002 : decode code 1002 = .ok (.land, 1) := dOk_get (q := (1002, .land, 1)) ok_tb_L_law_5 30 rfl
theorem d_L_law_1003 : decode code 1003 = .ok (.lor, 1) := dOk_get (q := (1003, .lor, 1)) ok_tb_L_law_5 31 rfl
theorem d_L_law_1004 : decode code 1004 = .ok (.aload_n 0, 1) := dOk_get (q := (1004, .aload_n 0, 1)) ok_tb_L_law_5 32 rfl
theorem d_L_law_1005 : decode code 1005 = .ok (.iload 4, 2) := dOk_get (q := (1005, .iload 4, 2)) ok_tb_L_law_5 33 rfl
theorem d_L_law_1007 : decode code 1007 = .ok (.iconst 5, 1) := dOk_get (q := (1007, .iconst 5, 1)) ok_tb_L_law_5 34 rfl
theorem d_L_law_1008 : decode code 1008 = .ok (.iadd, 1) := dOk_get (q := (1008, .iadd, 1)) ok_tb_L_law_5 35 rfl
theorem d_L_law_1009 : decode code 1009 = .ok (.iaload, 1) := dOk_get (q := (1009, .iaload, 1)) ok_tb_L_law_5 36 rfl
theorem d_L_law_1010 : decode code 1010 = .ok (.i2l, 1) := dOk_get (q := (1010, .i2l, 1)) ok_tb_L_law_5 37 rfl
theorem d_L_law_1011 : decode code 1011 = .ok (.bipush 32, 2) := dOk_get (q := (1011, .bipush 32, 2)) ok_tb_L_law_5 38 rfl
theorem d_L_law_1013 : decode code 1013 = .ok (.lshl, 1) := dOk_get (q := (1013, .lshl, 1)) ok_tb_L_law_5 39 rfl
theorem d_L_law_1014 : decode code 1014 = .ok (.aload_n 0, 1) := dOk_get (q := (1014, .aload_n 0, 1)) ok_tb_L_law_5 40 rfl
theorem d_L_law_1015 : decode code 1015 = .ok (.iload 4, 2) := dOk_get (q := (1015, .iload 4, 2)) ok_tb_L_law_5 41 rfl
theorem d_L_law_1017 : decode code 1017 = .ok (.bipush 6, 2) := dOk_get (q := (1017, .bipush 6, 2)) ok_tb_L_law_5 42 rfl
theorem d_L_law_1019 : decode code 1019 = .ok (.iadd, 1) := dOk_get (q := (1019, .iadd, 1)) ok_tb_L_law_5 43 rfl
theorem d_L_law_1020 : decode code 1020 = .ok (.iaload, 1) := dOk_get (q := (1020, .iaload, 1)) ok_tb_L_law_5 44 rfl
theorem d_L_law_1021 : decode code 1021 = .ok (.i2l, 1) := dOk_get (q := (1021, .i2l, 1)) ok_tb_L_law_5 45 rfl
theorem d_L_law_1022 : decode code 1022 = .ok (.ldc2_w 85, 3) := dOk_get (q := (1022, .ldc2_w 85, 3)) ok_tb_L_law_5 46 rfl
theorem d_L_law_1025 : decode code 1025 = .ok (.land, 1) := dOk_get (q := (1025, .land, 1)) ok_tb_L_law_5 47 rfl
theorem d_L_law_1026 : decode code 1026 = .ok (.lor, 1) := dOk_get (q := (1026, .lor, 1)) ok_tb_L_law_5 48 rfl
theorem d_L_law_1027 : decode code 1027 = .ok (.aload_n 0, 1) := dOk_get (q := (1027, .aload_n 0, 1)) ok_tb_L_law_5 49 rfl
theorem d_L_law_1028 : decode code 1028 = .ok (.iload 4, 2) := dOk_get (q := (1028, .iload 4, 2)) ok_tb_L_law_5 50 rfl
theorem d_L_law_1030 : decode code 1030 = .ok (.bipush 7, 2) := dOk_get (q := (1030, .bipush 7, 2)) ok_tb_L_law_5 51 rfl
theorem d_L_law_1032 : decode code 1032 = .ok (.iadd, 1) := dOk_get (q := (1032, .iadd, 1)) ok_tb_L_law_5 52 rfl
theorem d_L_law_1033 : decode code 1033 = .ok (.iaload, 1) := dOk_get (q := (1033, .iaload, 1)) ok_tb_L_law_5 53 rfl
theorem d_L_law_1034 : decode code 1034 = .ok (.i2l, 1) := dOk_get (q := (1034, .i2l, 1)) ok_tb_L_law_5 54 rfl
theorem d_L_law_1035 : decode code 1035 = .ok (.bipush 32, 2) := dOk_get (q := (1035, .bipush 32, 2)) ok_tb_L_law_5 55 rfl
theorem d_L_law_1037 : decode code 1037 = .ok (.lshl, 1) := dOk_get (q := (1037, .lshl, 1)) ok_tb_L_law_5 56 rfl
theorem d_L_law_1038 : decode code 1038 = .ok (.aload_n 0, 1) := dOk_get (q := (1038, .aload_n 0, 1)) ok_tb_L_law_5 57 rfl
theorem d_L_law_1039 : decode code 1039 = .ok (.iload 4, 2) := dOk_get (q := (1039, .iload 4, 2)) ok_tb_L_law_5 58 rfl
theorem d_L_law_1041 : decode code 1041 = .ok (.bipush 8, 2) := dOk_get (q := (1041, .bipush 8, 2)) ok_tb_L_law_5 59 rfl
theorem d_L_law_1043 : decode code 1043 = .ok (.iadd, 1) := dOk_get (q := (1043, .iadd, 1)) ok_tb_L_law_5 60 rfl
theorem d_L_law_1044 : decode code 1044 = .ok (.iaload, 1) := dOk_get (q := (1044, .iaload, 1)) ok_tb_L_law_5 61 rfl
theorem d_L_law_1045 : decode code 1045 = .ok (.i2l, 1) := dOk_get (q := (1045, .i2l, 1)) ok_tb_L_law_5 62 rfl
theorem d_L_law_1046 : decode code 1046 = .ok (.ldc2_w 85, 3) := dOk_get (q := (1046, .ldc2_w 85, 3)) ok_tb_L_law_5 63 rfl
theorem d_L_law_1049 : decode code 1049 = .ok (.land, 1) := dOk_get (q := (1049, .land, 1)) ok_tb_L_law_5 64 rfl
theorem d_L_law_1050 : decode code 1050 = .ok (.lor, 1) := dOk_get (q := (1050, .lor, 1)) ok_tb_L_law_5 65 rfl
theorem d_L_law_1051 : decode code 1051 = .ok (.aload_n 3, 1) := dOk_get (q := (1051, .aload_n 3, 1)) ok_tb_L_law_5 66 rfl
theorem d_L_law_1052 : decode code 1052 = .ok (.invokestatic 116, 3) := dOk_get (q := (1052, .invokestatic 116, 3)) ok_tb_L_law_5 67 rfl
theorem d_L_law_1055 : decode code 1055 = .ok (.istore 5, 2) := dOk_get (q := (1055, .istore 5, 2)) ok_tb_L_law_5 68 rfl
theorem d_L_law_1057 : decode code 1057 = .ok (.aload_n 2, 1) := dOk_get (q := (1057, .aload_n 2, 1)) ok_tb_L_law_5 69 rfl
theorem d_L_law_1058 : decode code 1058 = .ok (.aload_n 0, 1) := dOk_get (q := (1058, .aload_n 0, 1)) ok_tb_L_law_5 70 rfl
theorem d_L_law_1059 : decode code 1059 = .ok (.iload 4, 2) := dOk_get (q := (1059, .iload 4, 2)) ok_tb_L_law_5 71 rfl
theorem d_L_law_1061 : decode code 1061 = .ok (.iconst 1, 1) := dOk_get (q := (1061, .iconst 1, 1)) ok_tb_L_law_5 72 rfl
theorem d_L_law_1062 : decode code 1062 = .ok (.iadd, 1) := dOk_get (q := (1062, .iadd, 1)) ok_tb_L_law_5 73 rfl
theorem d_L_law_1063 : decode code 1063 = .ok (.iaload, 1) := dOk_get (q := (1063, .iaload, 1)) ok_tb_L_law_5 74 rfl
theorem d_L_law_1064 : decode code 1064 = .ok (.i2l, 1) := dOk_get (q := (1064, .i2l, 1)) ok_tb_L_law_5 75 rfl
theorem d_L_law_1065 : decode code 1065 = .ok (.bipush 32, 2) := dOk_get (q := (1065, .bipush 32, 2)) ok_tb_L_law_5 76 rfl
theorem d_L_law_1067 : decode code 1067 = .ok (.lshl, 1) := dOk_get (q := (1067, .lshl, 1)) ok_tb_L_law_5 77 rfl
theorem d_L_law_1068 : decode code 1068 = .ok (.aload_n 0, 1) := dOk_get (q := (1068, .aload_n 0, 1)) ok_tb_L_law_5 78 rfl
theorem d_L_law_1069 : decode code 1069 = .ok (.iload 4, 2) := dOk_get (q := (1069, .iload 4, 2)) ok_tb_L_law_5 79 rfl
theorem d_L_law_1071 : decode code 1071 = .ok (.iconst 2, 1) := dOk_get (q := (1071, .iconst 2, 1)) ok_tb_L_law_5 80 rfl
theorem d_L_law_1072 : decode code 1072 = .ok (.iadd, 1) := dOk_get (q := (1072, .iadd, 1)) ok_tb_L_law_5 81 rfl
theorem d_L_law_1073 : decode code 1073 = .ok (.iaload, 1) := dOk_get (q := (1073, .iaload, 1)) ok_tb_L_law_5 82 rfl
theorem d_L_law_1074 : decode code 1074 = .ok (.i2l, 1) := dOk_get (q := (1074, .i2l, 1)) ok_tb_L_law_5 83 rfl
theorem d_L_law_1075 : decode code 1075 = .ok (.ldc2_w 85, 3) := dOk_get (q := (1075, .ldc2_w 85, 3)) ok_tb_L_law_5 84 rfl
theorem d_L_law_1078 : decode code 1078 = .ok (.land, 1) := dOk_get (q := (1078, .land, 1)) ok_tb_L_law_5 85 rfl
theorem d_L_law_1079 : decode code 1079 = .ok (.lor, 1) := dOk_get (q := (1079, .lor, 1)) ok_tb_L_law_5 86 rfl
theorem d_L_law_1080 : decode code 1080 = .ok (.aload_n 0, 1) := dOk_get (q := (1080, .aload_n 0, 1)) ok_tb_L_law_5 87 rfl
theorem d_L_law_1081 : decode code 1081 = .ok (.iload 4, 2) := dOk_get (q := (1081, .iload 4, 2)) ok_tb_L_law_5 88 rfl
theorem d_L_law_1083 : decode code 1083 = .ok (.iconst 3, 1) := dOk_get (q := (1083, .iconst 3, 1)) ok_tb_L_law_5 89 rfl
theorem d_L_law_1084 : decode code 1084 = .ok (.iadd, 1) := dOk_get (q := (1084, .iadd, 1)) ok_tb_L_law_5 90 rfl
theorem d_L_law_1085 : decode code 1085 = .ok (.iaload, 1) := dOk_get (q := (1085, .iaload, 1)) ok_tb_L_law_5 91 rfl
theorem d_L_law_1086 : decode code 1086 = .ok (.i2l, 1) := dOk_get (q := (1086, .i2l, 1)) ok_tb_L_law_5 92 rfl
theorem d_L_law_1087 : decode code 1087 = .ok (.bipush 32, 2) := dOk_get (q := (1087, .bipush 32, 2)) ok_tb_L_law_5 93 rfl
theorem d_L_law_1089 : decode code 1089 = .ok (.lshl, 1) := dOk_get (q := (1089, .lshl, 1)) ok_tb_L_law_5 94 rfl
theorem d_L_law_1090 : decode code 1090 = .ok (.aload_n 0, 1) := dOk_get (q := (1090, .aload_n 0, 1)) ok_tb_L_law_5 95 rfl
theorem d_L_law_1091 : decode code 1091 = .ok (.iload 4, 2) := dOk_get (q := (1091, .iload 4, 2)) ok_tb_L_law_5 96 rfl
theorem d_L_law_1093 : decode code 1093 = .ok (.iconst 4, 1) := dOk_get (q := (1093, .iconst 4, 1)) ok_tb_L_law_5 97 rfl
theorem d_L_law_1094 : decode code 1094 = .ok (.iadd, 1) := dOk_get (q := (1094, .iadd, 1)) ok_tb_L_law_5 98 rfl
theorem d_L_law_1095 : decode code 1095 = .ok (.iaload, 1) := dOk_get (q := (1095, .iaload, 1)) ok_tb_L_law_5 99 rfl
theorem d_L_law_1096 : decode code 1096 = .ok (.i2l, 1) := dOk_get (q := (1096, .i2l, 1)) ok_tb_L_law_5 100 rfl
theorem d_L_law_1097 : decode code 1097 = .ok (.ldc2_w 85, 3) := dOk_get (q := (1097, .ldc2_w 85, 3)) ok_tb_L_law_5 101 rfl
theorem d_L_law_1100 : decode code 1100 = .ok (.land, 1) := dOk_get (q := (1100, .land, 1)) ok_tb_L_law_5 102 rfl
theorem d_L_law_1101 : decode code 1101 = .ok (.lor, 1) := dOk_get (q := (1101, .lor, 1)) ok_tb_L_law_5 103 rfl
theorem d_L_law_1102 : decode code 1102 = .ok (.aload_n 0, 1) := dOk_get (q := (1102, .aload_n 0, 1)) ok_tb_L_law_5 104 rfl
theorem d_L_law_1103 : decode code 1103 = .ok (.iload 4, 2) := dOk_get (q := (1103, .iload 4, 2)) ok_tb_L_law_5 105 rfl
theorem d_L_law_1105 : decode code 1105 = .ok (.iconst 5, 1) := dOk_get (q := (1105, .iconst 5, 1)) ok_tb_L_law_5 106 rfl
theorem d_L_law_1106 : decode code 1106 = .ok (.iadd, 1) := dOk_get (q := (1106, .iadd, 1)) ok_tb_L_law_5 107 rfl
theorem d_L_law_1107 : decode code 1107 = .ok (.iaload, 1) := dOk_get (q := (1107, .iaload, 1)) ok_tb_L_law_5 108 rfl
theorem d_L_law_1108 : decode code 1108 = .ok (.i2l, 1) := dOk_get (q := (1108, .i2l, 1)) ok_tb_L_law_5 109 rfl
theorem d_L_law_1109 : decode code 1109 = .ok (.bipush 32, 2) := dOk_get (q := (1109, .bipush 32, 2)) ok_tb_L_law_5 110 rfl
theorem d_L_law_1111 : decode code 1111 = .ok (.lshl, 1) := dOk_get (q := (1111, .lshl, 1)) ok_tb_L_law_5 111 rfl
theorem d_L_law_1112 : decode code 1112 = .ok (.aload_n 0, 1) := dOk_get (q := (1112, .aload_n 0, 1)) ok_tb_L_law_5 112 rfl
theorem d_L_law_1113 : decode code 1113 = .ok (.iload 4, 2) := dOk_get (q := (1113, .iload 4, 2)) ok_tb_L_law_5 113 rfl
theorem d_L_law_1115 : decode code 1115 = .ok (.bipush 6, 2) := dOk_get (q := (1115, .bipush 6, 2)) ok_tb_L_law_5 114 rfl
theorem d_L_law_1117 : decode code 1117 = .ok (.iadd, 1) := dOk_get (q := (1117, .iadd, 1)) ok_tb_L_law_5 115 rfl
theorem d_L_law_1118 : decode code 1118 = .ok (.iaload, 1) := dOk_get (q := (1118, .iaload, 1)) ok_tb_L_law_5 116 rfl
theorem d_L_law_1119 : decode code 1119 = .ok (.i2l, 1) := dOk_get (q := (1119, .i2l, 1)) ok_tb_L_law_5 117 rfl
theorem d_L_law_1120 : decode code 1120 = .ok (.ldc2_w 85, 3) := dOk_get (q := (1120, .ldc2_w 85, 3)) ok_tb_L_law_5 118 rfl
theorem d_L_law_1123 : decode code 1123 = .ok (.land, 1) := dOk_get (q := (1123, .land, 1)) ok_tb_L_law_5 119 rfl
def tb_L_law_6 : List (Nat × Instr × Nat) := [(1124, .lor, 1), (1125, .aload_n 0, 1), (1126, .iload 4, 2), (1128, .bipush 7, 2), (1130, .iadd, 1), (1131, .iaload, 1), (1132, .i2l, 1), (1133, .bipush 32, 2), (1135, .lshl, 1), (1136, .aload_n 0, 1), (1137, .iload 4, 2), (1139, .bipush 8, 2), (1141, .iadd, 1), (1142, .iaload, 1), (1143, .i2l, 1), (1144, .ldc2_w 85, 3), (1147, .land, 1), (1148, .lor, 1), (1149, .invokevirtual 119, 3), (1152, .istore 6, 2), (1154, .aload_n 2, 1), (1155, .invokevirtual 81, 3), (1158, .iload 5, 2), (1160, .if_icmp .eq 5, 3), (1163, .iconst 0, 1), (1164, .ireturn, 1), (1165, .iload 5, 2), (1167, .ifCond .ne 15, 3), (1170, .aload_n 3, 1), (1171, .iconst 0, 1), (1172, .laload, 1), (1173, .iload 6, 2), (1175, .i2l, 1), (1176, .lcmp, 1), (1177, .ifCond .eq 5, 3), (1180, .iconst 0, 1), (1181, .ireturn, 1), (1182, .goto 292, 3), (1185, .aload_n 1, 1), (1186, .aload_n 0, 1), (1187, .iload 4, 2), (1189, .iconst 1, 1), (1190, .iadd, 1), (1191, .iaload, 1), (1192, .aload_n 0, 1), (1193, .iload 4, 2), (1195, .iconst 2, 1), (1196, .iadd, 1), (1197, .iaload, 1), (1198, .i2l, 1), (1199, .bipush 32, 2), (1201, .lshl, 1), (1202, .aload_n 0, 1), (1203, .iload 4, 2), (1205, .iconst 3, 1), (1206, .iadd, 1), (1207, .iaload, 1), (1208, .i2l, 1), (1209, .ldc2_w 85, 3), (1212, .land, 1), (1213, .lor, 1), (1214, .aload_n 0, 1), (1215, .iload 4, 2), (1217, .iconst 4, 1), (1218, .iadd, 1), (1219, .iaload, 1), (1220, .i2l, 1), (1221, .bipush 32, 2), (1223, .lshl, 1), (1224, .aload_n 0, 1), (1225, .iload 4, 2), (1227, .iconst 5, 1), (1228, .iadd, 1), (1229, .iaload, 1), (1230, .i2l, 1), (1231, .ldc2_w 85, 3), (1234, .land, 1), (1235, .lor, 1), (1236, .aload_n 3, 1), (1237, .invokestatic 120, 3), (1240, .istore 5, 2), (1242, .aload_n 2, 1), (1243, .aload_n 0, 1), (1244, .iload 4, 2), (1246, .iconst 1, 1), (1247, .iadd, 1), (1248, .iaload, 1), (1249, .aload_n 0, 1), (1250, .iload 4, 2), (1252, .iconst 2, 1), (1253, .iadd, 1), (1254, .iaload, 1), (1255, .i2l, 1), (1256, .bipush 32, 2), (1258, .lshl, 1), (1259, .aload_n 0, 1), (1260, .iload 4, 2), (1262, .iconst 3, 1), (1263, .iadd, 1), (1264, .iaload, 1), (1265, .i2l, 1), (1266, .ldc2_w 85, 3), (1269, .land, 1), (1270, .lor, 1), (1271, .aload_n 0, 1), (1272, .iload 4, 2), (1274, .iconst 4, 1), (1275, .iadd, 1), (1276, .iaload, 1), (1277, .i2l, 1), (1278, .bipush 32, 2), (1280, .lshl, 1), (1281, .aload_n 0, 1), (1282, .iload 4, 2), (1284, .iconst 5, 1), (1285, .iadd, 1), (1286, .iaload, 1), (1287, .i2l, 1), (1288, .ldc2_w 85, 3), (1291, .land, 1)]
theorem ok_tb_L_law_6 : dOk code tb_L_law_6 = true := by decide +kernel
theorem d_L_law_1124 : decode code 1124 = .ok (.lor, 1) := dOk_get (q := (1124, .lor, 1)) ok_tb_L_law_6 0 rfl
theorem d_L_law_1125 : decode code 1125 = .ok (.aload_n 0, 1) := dOk_get (q := (1125, .aload_n 0, 1)) ok_tb_L_law_6 1 rfl
theorem d_L_law_1126 : decode code 1126 = .ok (.iload 4, 2) := dOk_get (q := (1126, .iload 4, 2)) ok_tb_L_law_6 2 rfl
theorem d_L_law_1128 : decode code 1128 = .ok (.bipush 7, 2) := dOk_get (q := (1128, .bipush 7, 2)) ok_tb_L_law_6 3 rfl
theorem d_L_law_1130 : decode code 1130 = .ok (.iadd, 1) := dOk_get (q := (1130, .iadd, 1)) ok_tb_L_law_6 4 rfl
theorem d_L_law_1131 : decode code 1131 = .ok (.iaload, 1) := dOk_get (q := (1131, .iaload, 1)) ok_tb_L_law_6 5 rfl
theorem d_L_law_1132 : decode code 1132 = .ok (.i2l, 1) := dOk_get (q := (1132, .i2l, 1)) ok_tb_L_law_6 6 rfl
theorem d_L_law_1133 : decode code 1133 = .ok (.bipush 32, 2) := dOk_get (q := (1133, .bipush 32, 2)) ok_tb_L_law_6 7 rfl
theorem d_L_law_1135 : decode code 1135 = .ok (.lshl, 1) := dOk_get (q := (1135, .lshl, 1)) ok_tb_L_law_6 8 rfl
theorem d_L_law_1136 : decode code 1136 = .ok (.aload_n 0, 1) := dOk_get (q := (1136, .aload_n 0, 1)) ok_tb_L_law_6 9 rfl
theorem d_L_law_1137 : decode code 1137 = .ok (.iload 4, 2) := dOk_get (q := (1137, .iload 4, 2)) ok_tb_L_law_6 10 rfl
theorem d_L_law_1139 : decode code 1139 = .ok (.bipush 8, 2) := dOk_get (q := (1139, .bipush 8, 2)) ok_tb_L_law_6 11 rfl
theorem d_L_law_1141 : decode code 1141 = .ok (.iadd, 1) := dOk_get (q := (1141, .iadd, 1)) ok_tb_L_law_6 12 rfl
theorem d_L_law_1142 : decode code 1142 = .ok (.iaload, 1) := dOk_get (q := (1142, .iaload, 1)) ok_tb_L_law_6 13 rfl
theorem d_L_law_1143 : decode code 1143 = .ok (.i2l, 1) := dOk_get (q := (1143, .i2l, 1)) ok_tb_L_law_6 14 rfl
theorem d_L_law_1144 : decode code 1144 = .ok (.ldc2_w 85, 3) := dOk_get (q := (1144, .ldc2_w 85, 3)) ok_tb_L_law_6 15 rfl
theorem d_L_law_1147 : decode code 1147 = .ok (.land, 1) := dOk_get (q := (1147, .land, 1)) ok_tb_L_law_6 16 rfl
theorem d_L_law_1148 : decode code 1148 = .ok (.lor, 1) := dOk_get (q := (1148, .lor, 1)) ok_tb_L_law_6 17 rfl
theorem d_L_law_1149 : decode code 1149 = .ok (.invokevirtual 119, 3) := dOk_get (q := (1149, .invokevirtual 119, 3)) ok_tb_L_law_6 18 rfl
theorem d_L_law_1152 : decode code 1152 = .ok (.istore 6, 2) := dOk_get (q := (1152, .istore 6, 2)) ok_tb_L_law_6 19 rfl
theorem d_L_law_1154 : decode code 1154 = .ok (.aload_n 2, 1) := dOk_get (q := (1154, .aload_n 2, 1)) ok_tb_L_law_6 20 rfl
theorem d_L_law_1155 : decode code 1155 = .ok (.invokevirtual 81, 3) := dOk_get (q := (1155, .invokevirtual 81, 3)) ok_tb_L_law_6 21 rfl
theorem d_L_law_1158 : decode code 1158 = .ok (.iload 5, 2) := dOk_get (q := (1158, .iload 5, 2)) ok_tb_L_law_6 22 rfl
theorem d_L_law_1160 : decode code 1160 = .ok (.if_icmp .eq 5, 3) := dOk_get (q := (1160, .if_icmp .eq 5, 3)) ok_tb_L_law_6 23 rfl
theorem d_L_law_1163 : decode code 1163 = .ok (.iconst 0, 1) := dOk_get (q := (1163, .iconst 0, 1)) ok_tb_L_law_6 24 rfl
theorem d_L_law_1164 : decode code 1164 = .ok (.ireturn, 1) := dOk_get (q := (1164, .ireturn, 1)) ok_tb_L_law_6 25 rfl
theorem d_L_law_1165 : decode code 1165 = .ok (.iload 5, 2) := dOk_get (q := (1165, .iload 5, 2)) ok_tb_L_law_6 26 rfl
theorem d_L_law_1167 : decode code 1167 = .ok (.ifCond .ne 15, 3) := dOk_get (q := (1167, .ifCond .ne 15, 3)) ok_tb_L_law_6 27 rfl
theorem d_L_law_1170 : decode code 1170 = .ok (.aload_n 3, 1) := dOk_get (q := (1170, .aload_n 3, 1)) ok_tb_L_law_6 28 rfl
theorem d_L_law_1171 : decode code 1171 = .ok (.iconst 0, 1) := dOk_get (q := (1171, .iconst 0, 1)) ok_tb_L_law_6 29 rfl
theorem d_L_law_1172 : decode code 1172 = .ok (.laload, 1) := dOk_get (q := (1172, .laload, 1)) ok_tb_L_law_6 30 rfl
theorem d_L_law_1173 : decode code 1173 = .ok (.iload 6, 2) := dOk_get (q := (1173, .iload 6, 2)) ok_tb_L_law_6 31 rfl
theorem d_L_law_1175 : decode code 1175 = .ok (.i2l, 1) := dOk_get (q := (1175, .i2l, 1)) ok_tb_L_law_6 32 rfl
theorem d_L_law_1176 : decode code 1176 = .ok (.lcmp, 1) := dOk_get (q := (1176, .lcmp, 1)) ok_tb_L_law_6 33 rfl
theorem d_L_law_1177 : decode code 1177 = .ok (.ifCond .eq 5, 3) := dOk_get (q := (1177, .ifCond .eq 5, 3)) ok_tb_L_law_6 34 rfl
theorem d_L_law_1180 : decode code 1180 = .ok (.iconst 0, 1) := dOk_get (q := (1180, .iconst 0, 1)) ok_tb_L_law_6 35 rfl
theorem d_L_law_1181 : decode code 1181 = .ok (.ireturn, 1) := dOk_get (q := (1181, .ireturn, 1)) ok_tb_L_law_6 36 rfl
theorem d_L_law_1182 : decode code 1182 = .ok (.goto 292, 3) := dOk_get (q := (1182, .goto 292, 3)) ok_tb_L_law_6 37 rfl
theorem d_L_law_1185 : decode code 1185 = .ok (.aload_n 1, 1) := dOk_get (q := (1185, .aload_n 1, 1)) ok_tb_L_law_6 38 rfl
theorem d_L_law_1186 : decode code 1186 = .ok (.aload_n 0, 1) := dOk_get (q := (1186, .aload_n 0, 1)) ok_tb_L_law_6 39 rfl
theorem d_L_law_1187 : decode code 1187 = .ok (.iload 4, 2) := dOk_get (q := (1187, .iload 4, 2)) ok_tb_L_law_6 40 rfl
theorem d_L_law_1189 : decode code 1189 = .ok (.iconst 1, 1) := dOk_get (q := (1189, .iconst 1, 1)) ok_tb_L_law_6 41 rfl
theorem d_L_law_1190 : decode code 1190 = .ok (.iadd, 1) := dOk_get (q := (1190, .iadd, 1)) ok_tb_L_law_6 42 rfl
theorem d_L_law_1191 : decode code 1191 = .ok (.iaload, 1) := dOk_get (q := (1191, .iaload, 1)) ok_tb_L_law_6 43 rfl
theorem d_L_law_1192 : decode code 1192 = .ok (.aload_n 0, 1) := dOk_get (q := (1192, .aload_n 0, 1)) ok_tb_L_law_6 44 rfl
theorem d_L_law_1193 : decode code 1193 = .ok (.iload 4, 2) := dOk_get (q := (1193, .iload 4, 2)) ok_tb_L_law_6 45 rfl
theorem d_L_law_1195 : decode code 1195 = .ok (.iconst 2, 1) := dOk_get (q := (1195, .iconst 2, 1)) ok_tb_L_law_6 46 rfl
theorem d_L_law_1196 : decode code 1196 = .ok (.iadd, 1) := dOk_get (q := (1196, .iadd, 1)) ok_tb_L_law_6 47 rfl
theorem d_L_law_1197 : decode code 1197 = .ok (.iaload, 1) := dOk_get (q := (1197, .iaload, 1)) ok_tb_L_law_6 48 rfl
theorem d_L_law_1198 : decode code 1198 = .ok (.i2l, 1) := dOk_get (q := (1198, .i2l, 1)) ok_tb_L_law_6 49 rfl
theorem d_L_law_1199 : decode code 1199 = .ok (.bipush 32, 2) := dOk_get (q := (1199, .bipush 32, 2)) ok_tb_L_law_6 50 rfl
theorem d_L_law_1201 : decode code 1201 = .ok (.lshl, 1) := dOk_get (q := (1201, .lshl, 1)) ok_tb_L_law_6 51 rfl
theorem d_L_law_1202 : decode code 1202 = .ok (.aload_n 0, 1) := dOk_get (q := (1202, .aload_n 0, 1)) ok_tb_L_law_6 52 rfl
theorem d_L_law_1203 : decode code 1203 = .ok (.iload 4, 2) := dOk_get (q := (1203, .iload 4, 2)) ok_tb_L_law_6 53 rfl
theorem d_L_law_1205 : decode code 1205 = .ok (.iconst 3, 1) := dOk_get (q := (1205, .iconst 3, 1)) ok_tb_L_law_6 54 rfl
theorem d_L_law_1206 : decode code 1206 = .ok (.iadd, 1) := dOk_get (q := (1206, .iadd, 1)) ok_tb_L_law_6 55 rfl
theorem d_L_law_1207 : decode code 1207 = .ok (.iaload, 1) := dOk_get (q := (1207, .iaload, 1)) ok_tb_L_law_6 56 rfl
theorem d_L_law_1208 : decode code 1208 = .ok (.i2l, 1) := dOk_get (q := (1208, .i2l, 1)) ok_tb_L_law_6 57 rfl
theorem d_L_law_1209 : decode code 1209 = .ok (.ldc2_w 85, 3) := dOk_get (q := (1209, .ldc2_w 85, 3)) ok_tb_L_law_6 58 rfl
theorem d_L_law_1212 : decode code 1212 = .ok (.land, 1) := dOk_get (q := (1212, .land, 1)) ok_tb_L_law_6 59 rfl
theorem d_L_law_1213 : decode code 1213 = .ok (.lor, 1) := dOk_get (q := (1213, .lor, 1)) ok_tb_L_law_6 60 rfl
theorem d_L_law_1214 : decode code 1214 = .ok (.aload_n 0, 1) := dOk_get (q := (1214, .aload_n 0, 1)) ok_tb_L_law_6 61 rfl
theorem d_L_law_1215 : decode code 1215 = .ok (.iload 4, 2) := dOk_get (q := (1215, .iload 4, 2)) ok_tb_L_law_6 62 rfl
theorem d_L_law_1217 : decode code 1217 = .ok (.iconst 4, 1) := dOk_get (q := (1217, .iconst 4, 1)) ok_tb_L_law_6 63 rfl
theorem d_L_law_1218 : decode code 1218 = .ok (.iadd, 1) := dOk_get (q := (1218, .iadd, 1)) ok_tb_L_law_6 64 rfl
theorem d_L_law_1219 : decode code 1219 = .ok (.iaload, 1) := dOk_get (q := (1219, .iaload, 1)) ok_tb_L_law_6 65 rfl
theorem d_L_law_1220 : decode code 1220 = .ok (.i2l, 1) := dOk_get (q := (1220, .i2l, 1)) ok_tb_L_law_6 66 rfl
theorem d_L_law_1221 : decode code 1221 = .ok (.bipush 32, 2) := dOk_get (q := (1221, .bipush 32, 2)) ok_tb_L_law_6 67 rfl
theorem d_L_law_1223 : decode code 1223 = .ok (.lshl, 1) := dOk_get (q := (1223, .lshl, 1)) ok_tb_L_law_6 68 rfl
theorem d_L_law_1224 : decode code 1224 = .ok (.aload_n 0, 1) := dOk_get (q := (1224, .aload_n 0, 1)) ok_tb_L_law_6 69 rfl
theorem d_L_law_1225 : decode code 1225 = .ok (.iload 4, 2) := dOk_get (q := (1225, .iload 4, 2)) ok_tb_L_law_6 70 rfl
theorem d_L_law_1227 : decode code 1227 = .ok (.iconst 5, 1) := dOk_get (q := (1227, .iconst 5, 1)) ok_tb_L_law_6 71 rfl
theorem d_L_law_1228 : decode code 1228 = .ok (.iadd, 1) := dOk_get (q := (1228, .iadd, 1)) ok_tb_L_law_6 72 rfl
theorem d_L_law_1229 : decode code 1229 = .ok (.iaload, 1) := dOk_get (q := (1229, .iaload, 1)) ok_tb_L_law_6 73 rfl
theorem d_L_law_1230 : decode code 1230 = .ok (.i2l, 1) := dOk_get (q := (1230, .i2l, 1)) ok_tb_L_law_6 74 rfl
theorem d_L_law_1231 : decode code 1231 = .ok (.ldc2_w 85, 3) := dOk_get (q := (1231, .ldc2_w 85, 3)) ok_tb_L_law_6 75 rfl
theorem d_L_law_1234 : decode code 1234 = .ok (.land, 1) := dOk_get (q := (1234, .land, 1)) ok_tb_L_law_6 76 rfl
theorem d_L_law_1235 : decode code 1235 = .ok (.lor, 1) := dOk_get (q := (1235, .lor, 1)) ok_tb_L_law_6 77 rfl
theorem d_L_law_1236 : decode code 1236 = .ok (.aload_n 3, 1) := dOk_get (q := (1236, .aload_n 3, 1)) ok_tb_L_law_6 78 rfl
theorem d_L_law_1237 : decode code 1237 = .ok (.invokestatic 120, 3) := dOk_get (q := (1237, .invokestatic 120, 3)) ok_tb_L_law_6 79 rfl
theorem d_L_law_1240 : decode code 1240 = .ok (.istore 5, 2) := dOk_get (q := (1240, .istore 5, 2)) ok_tb_L_law_6 80 rfl
theorem d_L_law_1242 : decode code 1242 = .ok (.aload_n 2, 1) := dOk_get (q := (1242, .aload_n 2, 1)) ok_tb_L_law_6 81 rfl
theorem d_L_law_1243 : decode code 1243 = .ok (.aload_n 0, 1) := dOk_get (q := (1243, .aload_n 0, 1)) ok_tb_L_law_6 82 rfl
theorem d_L_law_1244 : decode code 1244 = .ok (.iload 4, 2) := dOk_get (q := (1244, .iload 4, 2)) ok_tb_L_law_6 83 rfl
theorem d_L_law_1246 : decode code 1246 = .ok (.iconst 1, 1) := dOk_get (q := (1246, .iconst 1, 1)) ok_tb_L_law_6 84 rfl
theorem d_L_law_1247 : decode code 1247 = .ok (.iadd, 1) := dOk_get (q := (1247, .iadd, 1)) ok_tb_L_law_6 85 rfl
theorem d_L_law_1248 : decode code 1248 = .ok (.iaload, 1) := dOk_get (q := (1248, .iaload, 1)) ok_tb_L_law_6 86 rfl
theorem d_L_law_1249 : decode code 1249 = .ok (.aload_n 0, 1) := dOk_get (q := (1249, .aload_n 0, 1)) ok_tb_L_law_6 87 rfl
theorem d_L_law_1250 : decode code 1250 = .ok (.iload 4, 2) := dOk_get (q := (1250, .iload 4, 2)) ok_tb_L_law_6 88 rfl
theorem d_L_law_1252 : decode code 1252 = .ok (.iconst 2, 1) := dOk_get (q := (1252, .iconst 2, 1)) ok_tb_L_law_6 89 rfl
theorem d_L_law_1253 : decode code 1253 = .ok (.iadd, 1) := dOk_get (q := (1253, .iadd, 1)) ok_tb_L_law_6 90 rfl
theorem d_L_law_1254 : decode code 1254 = .ok (.iaload, 1) := dOk_get (q := (1254, .iaload, 1)) ok_tb_L_law_6 91 rfl
theorem d_L_law_1255 : decode code 1255 = .ok (.i2l, 1) := dOk_get (q := (1255, .i2l, 1)) ok_tb_L_law_6 92 rfl
theorem d_L_law_1256 : decode code 1256 = .ok (.bipush 32, 2) := dOk_get (q := (1256, .bipush 32, 2)) ok_tb_L_law_6 93 rfl
theorem d_L_law_1258 : decode code 1258 = .ok (.lshl, 1) := dOk_get (q := (1258, .lshl, 1)) ok_tb_L_law_6 94 rfl
theorem d_L_law_1259 : decode code 1259 = .ok (.aload_n 0, 1) := dOk_get (q := (1259, .aload_n 0, 1)) ok_tb_L_law_6 95 rfl
theorem d_L_law_1260 : decode code 1260 = .ok (.iload 4, 2) := dOk_get (q := (1260, .iload 4, 2)) ok_tb_L_law_6 96 rfl
theorem d_L_law_1262 : decode code 1262 = .ok (.iconst 3, 1) := dOk_get (q := (1262, .iconst 3, 1)) ok_tb_L_law_6 97 rfl
theorem d_L_law_1263 : decode code 1263 = .ok (.iadd, 1) := dOk_get (q := (1263, .iadd, 1)) ok_tb_L_law_6 98 rfl
theorem d_L_law_1264 : decode code 1264 = .ok (.iaload, 1) := dOk_get (q := (1264, .iaload, 1)) ok_tb_L_law_6 99 rfl
theorem d_L_law_1265 : decode code 1265 = .ok (.i2l, 1) := dOk_get (q := (1265, .i2l, 1)) ok_tb_L_law_6 100 rfl
theorem d_L_law_1266 : decode code 1266 = .ok (.ldc2_w 85, 3) := dOk_get (q := (1266, .ldc2_w 85, 3)) ok_tb_L_law_6 101 rfl
theorem d_L_law_1269 : decode code 1269 = .ok (.land, 1) := dOk_get (q := (1269, .land, 1)) ok_tb_L_law_6 102 rfl
theorem d_L_law_1270 : decode code 1270 = .ok (.lor, 1) := dOk_get (q := (1270, .lor, 1)) ok_tb_L_law_6 103 rfl
theorem d_L_law_1271 : decode code 1271 = .ok (.aload_n 0, 1) := dOk_get (q := (1271, .aload_n 0, 1)) ok_tb_L_law_6 104 rfl
theorem d_L_law_1272 : decode code 1272 = .ok (.iload 4, 2) := dOk_get (q := (1272, .iload 4, 2)) ok_tb_L_law_6 105 rfl
theorem d_L_law_1274 : decode code 1274 = .ok (.iconst 4, 1) := dOk_get (q := (1274, .iconst 4, 1)) ok_tb_L_law_6 106 rfl
theorem d_L_law_1275 : decode code 1275 = .ok (.iadd, 1) := dOk_get (q := (1275, .iadd, 1)) ok_tb_L_law_6 107 rfl
theorem d_L_law_1276 : decode code 1276 = .ok (.iaload, 1) := dOk_get (q := (1276, .iaload, 1)) ok_tb_L_law_6 108 rfl
theorem d_L_law_1277 : decode code 1277 = .ok (.i2l, 1) := dOk_get (q := (1277, .i2l, 1)) ok_tb_L_law_6 109 rfl
theorem d_L_law_1278 : decode code 1278 = .ok (.bipush 32, 2) := dOk_get (q := (1278, .bipush 32, 2)) ok_tb_L_law_6 110 rfl
theorem d_L_law_1280 : decode code 1280 = .ok (.lshl, 1) := dOk_get (q := (1280, .lshl, 1)) ok_tb_L_law_6 111 rfl
theorem d_L_law_1281 : decode code 1281 = .ok (.aload_n 0, 1) := dOk_get (q := (1281, .aload_n 0, 1)) ok_tb_L_law_6 112 rfl
theorem d_L_law_1282 : decode code 1282 = .ok (.iload 4, 2) := dOk_get (q := (1282, .iload 4, 2)) ok_tb_L_law_6 113 rfl
theorem d_L_law_1284 : decode code 1284 = .ok (.iconst 5, 1) := dOk_get (q := (1284, .iconst 5, 1)) ok_tb_L_law_6 114 rfl
theorem d_L_law_1285 : decode code 1285 = .ok (.iadd, 1) := dOk_get (q := (1285, .iadd, 1)) ok_tb_L_law_6 115 rfl
theorem d_L_law_1286 : decode code 1286 = .ok (.iaload, 1) := dOk_get (q := (1286, .iaload, 1)) ok_tb_L_law_6 116 rfl
theorem d_L_law_1287 : decode code 1287 = .ok (.i2l, 1) := dOk_get (q := (1287, .i2l, 1)) ok_tb_L_law_6 117 rfl
theorem d_L_law_1288 : decode code 1288 = .ok (.ldc2_w 85, 3) := dOk_get (q := (1288, .ldc2_w 85, 3)) ok_tb_L_law_6 118 rfl
theorem d_L_law_1291 : decode code 1291 = .ok (.land, 1) := dOk_get (q := (1291, .land, 1)) ok_tb_L_law_6 119 rfl
def tb_L_law_7 : List (Nat × Instr × Nat) := [(1292, .lor, 1), (1293, .invokevirtual 122, 3), (1296, .istore 6, 2), (1298, .aload_n 2, 1), (1299, .invokevirtual 81, 3), (1302, .iload 5, 2), (1304, .if_icmp .eq 5, 3), (1307, .iconst 0, 1), (1308, .ireturn, 1), (1309, .iload 5, 2), (1311, .ifCond .ne 22, 3), (1314, .aload_n 3, 1), (1315, .iconst 0, 1), (1316, .laload, 1), (1317, .iload 6, 2), (1319, .ifCond .eq 7, 3), (1322, .lconst 1, 1), (1323, .goto 4, 3), (1326, .lconst 0, 1), (1327, .lcmp, 1), (1328, .ifCond .eq 5, 3), (1331, .iconst 0, 1), (1332, .ireturn, 1), (1333, .goto 141, 3), (1336, .aload_n 1, 1), (1337, .invokevirtual 123, 3), (1340, .aload_n 2, 1), (1341, .invokevirtual 127, 3), (1344, .if_icmp .eq 130, 3), (1347, .iconst 0, 1), (1348, .ireturn, 1), (1349, .aload_n 1, 1), (1350, .invokevirtual 128, 3), (1353, .aload_n 2, 1), (1354, .invokevirtual 131, 3), (1357, .if_icmp .eq 117, 3), (1360, .iconst 0, 1), (1361, .ireturn, 1), (1362, .aload_n 1, 1), (1363, .aload_n 0, 1), (1364, .iload 4, 2), (1366, .iconst 1, 1), (1367, .iadd, 1), (1368, .iaload, 1), (1369, .aload_n 3, 1), (1370, .invokestatic 132, 3), (1373, .istore 5, 2), (1375, .aload_n 2, 1), (1376, .aload_n 0, 1), (1377, .iload 4, 2), (1379, .iconst 1, 1), (1380, .iadd, 1), (1381, .iaload, 1), (1382, .invokevirtual 134, 3), (1385, .istore 6, 2), (1387, .aload_n 2, 1), (1388, .invokevirtual 81, 3), (1391, .iload 5, 2), (1393, .if_icmp .eq 5, 3), (1396, .iconst 0, 1), (1397, .ireturn, 1), (1398, .iload 5, 2), (1400, .ifCond .ne 15, 3), (1403, .aload_n 3, 1), (1404, .iconst 0, 1), (1405, .laload, 1), (1406, .iload 6, 2), (1408, .i2l, 1), (1409, .lcmp, 1), (1410, .ifCond .eq 5, 3), (1413, .iconst 0, 1), (1414, .ireturn, 1), (1415, .goto 59, 3), (1418, .aload_n 1, 1), (1419, .aload_n 0, 1), (1420, .iload 4, 2), (1422, .iconst 1, 1), (1423, .iadd, 1), (1424, .iaload, 1), (1425, .aload_n 3, 1), (1426, .invokestatic 135, 3), (1429, .istore 5, 2), (1431, .aload_n 2, 1), (1432, .aload_n 0, 1), (1433, .iload 4, 2), (1435, .iconst 1, 1), (1436, .iadd, 1), (1437, .iaload, 1), (1438, .invokevirtual 137, 3), (1441, .istore 6, 2), (1443, .aload_n 2, 1), (1444, .invokevirtual 81, 3), (1447, .iload 5, 2), (1449, .if_icmp .eq 5, 3), (1452, .iconst 0, 1), (1453, .ireturn, 1), (1454, .iload 5, 2), (1456, .ifCond .ne 15, 3), (1459, .aload_n 3, 1), (1460, .iconst 0, 1), (1461, .laload, 1), (1462, .iload 6, 2), (1464, .i2l, 1), (1465, .lcmp, 1), (1466, .ifCond .eq 5, 3), (1469, .iconst 0, 1), (1470, .ireturn, 1), (1471, .goto 3, 3), (1474, .iinc 4 9, 3), (1477, .goto (-1444), 3), (1480, .iconst 1, 1), (1481, .ireturn, 1)]
theorem ok_tb_L_law_7 : dOk code tb_L_law_7 = true := by decide +kernel
theorem d_L_law_1292 : decode code 1292 = .ok (.lor, 1) := dOk_get (q := (1292, .lor, 1)) ok_tb_L_law_7 0 rfl
theorem d_L_law_1293 : decode code 1293 = .ok (.invokevirtual 122, 3) := dOk_get (q := (1293, .invokevirtual 122, 3)) ok_tb_L_law_7 1 rfl
theorem d_L_law_1296 : decode code 1296 = .ok (.istore 6, 2) := dOk_get (q := (1296, .istore 6, 2)) ok_tb_L_law_7 2 rfl
theorem d_L_law_1298 : decode code 1298 = .ok (.aload_n 2, 1) := dOk_get (q := (1298, .aload_n 2, 1)) ok_tb_L_law_7 3 rfl
theorem d_L_law_1299 : decode code 1299 = .ok (.invokevirtual 81, 3) := dOk_get (q := (1299, .invokevirtual 81, 3)) ok_tb_L_law_7 4 rfl
theorem d_L_law_1302 : decode code 1302 = .ok (.iload 5, 2) := dOk_get (q := (1302, .iload 5, 2)) ok_tb_L_law_7 5 rfl
theorem d_L_law_1304 : decode code 1304 = .ok (.if_icmp .eq 5, 3) := dOk_get (q := (1304, .if_icmp .eq 5, 3)) ok_tb_L_law_7 6 rfl
theorem d_L_law_1307 : decode code 1307 = .ok (.iconst 0, 1) := dOk_get (q := (1307, .iconst 0, 1)) ok_tb_L_law_7 7 rfl
theorem d_L_law_1308 : decode code 1308 = .ok (.ireturn, 1) := dOk_get (q := (1308, .ireturn, 1)) ok_tb_L_law_7 8 rfl
theorem d_L_law_1309 : decode code 1309 = .ok (.iload 5, 2) := dOk_get (q := (1309, .iload 5, 2)) ok_tb_L_law_7 9 rfl
theorem d_L_law_1311 : decode code 1311 = .ok (.ifCond .ne 22, 3) := dOk_get (q := (1311, .ifCond .ne 22, 3)) ok_tb_L_law_7 10 rfl
theorem d_L_law_1314 : decode code 1314 = .ok (.aload_n 3, 1) := dOk_get (q := (1314, .aload_n 3, 1)) ok_tb_L_law_7 11 rfl
theorem d_L_law_1315 : decode code 1315 = .ok (.iconst 0, 1) := dOk_get (q := (1315, .iconst 0, 1)) ok_tb_L_law_7 12 rfl
theorem d_L_law_1316 : decode code 1316 = .ok (.laload, 1) := dOk_get (q := (1316, .laload, 1)) ok_tb_L_law_7 13 rfl
theorem d_L_law_1317 : decode code 1317 = .ok (.iload 6, 2) := dOk_get (q := (1317, .iload 6, 2)) ok_tb_L_law_7 14 rfl
theorem d_L_law_1319 : decode code 1319 = .ok (.ifCond .eq 7, 3) := dOk_get (q := (1319, .ifCond .eq 7, 3)) ok_tb_L_law_7 15 rfl
theorem d_L_law_1322 : decode code 1322 = .ok (.lconst 1, 1) := dOk_get (q := (1322, .lconst 1, 1)) ok_tb_L_law_7 16 rfl
theorem d_L_law_1323 : decode code 1323 = .ok (.goto 4, 3) := dOk_get (q := (1323, .goto 4, 3)) ok_tb_L_law_7 17 rfl
theorem d_L_law_1326 : decode code 1326 = .ok (.lconst 0, 1) := dOk_get (q := (1326, .lconst 0, 1)) ok_tb_L_law_7 18 rfl
theorem d_L_law_1327 : decode code 1327 = .ok (.lcmp, 1) := dOk_get (q := (1327, .lcmp, 1)) ok_tb_L_law_7 19 rfl
theorem d_L_law_1328 : decode code 1328 = .ok (.ifCond .eq 5, 3) := dOk_get (q := (1328, .ifCond .eq 5, 3)) ok_tb_L_law_7 20 rfl
theorem d_L_law_1331 : decode code 1331 = .ok (.iconst 0, 1) := dOk_get (q := (1331, .iconst 0, 1)) ok_tb_L_law_7 21 rfl
theorem d_L_law_1332 : decode code 1332 = .ok (.ireturn, 1) := dOk_get (q := (1332, .ireturn, 1)) ok_tb_L_law_7 22 rfl
theorem d_L_law_1333 : decode code 1333 = .ok (.goto 141, 3) := dOk_get (q := (1333, .goto 141, 3)) ok_tb_L_law_7 23 rfl
theorem d_L_law_1336 : decode code 1336 = .ok (.aload_n 1, 1) := dOk_get (q := (1336, .aload_n 1, 1)) ok_tb_L_law_7 24 rfl
theorem d_L_law_1337 : decode code 1337 = .ok (.invokevirtual 123, 3) := dOk_get (q := (1337, .invokevirtual 123, 3)) ok_tb_L_law_7 25 rfl
theorem d_L_law_1340 : decode code 1340 = .ok (.aload_n 2, 1) := dOk_get (q := (1340, .aload_n 2, 1)) ok_tb_L_law_7 26 rfl
theorem d_L_law_1341 : decode code 1341 = .ok (.invokevirtual 127, 3) := dOk_get (q := (1341, .invokevirtual 127, 3)) ok_tb_L_law_7 27 rfl
theorem d_L_law_1344 : decode code 1344 = .ok (.if_icmp .eq 130, 3) := dOk_get (q := (1344, .if_icmp .eq 130, 3)) ok_tb_L_law_7 28 rfl
theorem d_L_law_1347 : decode code 1347 = .ok (.iconst 0, 1) := dOk_get (q := (1347, .iconst 0, 1)) ok_tb_L_law_7 29 rfl
theorem d_L_law_1348 : decode code 1348 = .ok (.ireturn, 1) := dOk_get (q := (1348, .ireturn, 1)) ok_tb_L_law_7 30 rfl
theorem d_L_law_1349 : decode code 1349 = .ok (.aload_n 1, 1) := dOk_get (q := (1349, .aload_n 1, 1)) ok_tb_L_law_7 31 rfl
theorem d_L_law_1350 : decode code 1350 = .ok (.invokevirtual 128, 3) := dOk_get (q := (1350, .invokevirtual 128, 3)) ok_tb_L_law_7 32 rfl
theorem d_L_law_1353 : decode code 1353 = .ok (.aload_n 2, 1) := dOk_get (q := (1353, .aload_n 2, 1)) ok_tb_L_law_7 33 rfl
theorem d_L_law_1354 : decode code 1354 = .ok (.invokevirtual 131, 3) := dOk_get (q := (1354, .invokevirtual 131, 3)) ok_tb_L_law_7 34 rfl
theorem d_L_law_1357 : decode code 1357 = .ok (.if_icmp .eq 117, 3) := dOk_get (q := (1357, .if_icmp .eq 117, 3)) ok_tb_L_law_7 35 rfl
theorem d_L_law_1360 : decode code 1360 = .ok (.iconst 0, 1) := dOk_get (q := (1360, .iconst 0, 1)) ok_tb_L_law_7 36 rfl
theorem d_L_law_1361 : decode code 1361 = .ok (.ireturn, 1) := dOk_get (q := (1361, .ireturn, 1)) ok_tb_L_law_7 37 rfl
theorem d_L_law_1362 : decode code 1362 = .ok (.aload_n 1, 1) := dOk_get (q := (1362, .aload_n 1, 1)) ok_tb_L_law_7 38 rfl
theorem d_L_law_1363 : decode code 1363 = .ok (.aload_n 0, 1) := dOk_get (q := (1363, .aload_n 0, 1)) ok_tb_L_law_7 39 rfl
theorem d_L_law_1364 : decode code 1364 = .ok (.iload 4, 2) := dOk_get (q := (1364, .iload 4, 2)) ok_tb_L_law_7 40 rfl
theorem d_L_law_1366 : decode code 1366 = .ok (.iconst 1, 1) := dOk_get (q := (1366, .iconst 1, 1)) ok_tb_L_law_7 41 rfl
theorem d_L_law_1367 : decode code 1367 = .ok (.iadd, 1) := dOk_get (q := (1367, .iadd, 1)) ok_tb_L_law_7 42 rfl
theorem d_L_law_1368 : decode code 1368 = .ok (.iaload, 1) := dOk_get (q := (1368, .iaload, 1)) ok_tb_L_law_7 43 rfl
theorem d_L_law_1369 : decode code 1369 = .ok (.aload_n 3, 1) := dOk_get (q := (1369, .aload_n 3, 1)) ok_tb_L_law_7 44 rfl
theorem d_L_law_1370 : decode code 1370 = .ok (.invokestatic 132, 3) := dOk_get (q := (1370, .invokestatic 132, 3)) ok_tb_L_law_7 45 rfl
theorem d_L_law_1373 : decode code 1373 = .ok (.istore 5, 2) := dOk_get (q := (1373, .istore 5, 2)) ok_tb_L_law_7 46 rfl
theorem d_L_law_1375 : decode code 1375 = .ok (.aload_n 2, 1) := dOk_get (q := (1375, .aload_n 2, 1)) ok_tb_L_law_7 47 rfl
theorem d_L_law_1376 : decode code 1376 = .ok (.aload_n 0, 1) := dOk_get (q := (1376, .aload_n 0, 1)) ok_tb_L_law_7 48 rfl
theorem d_L_law_1377 : decode code 1377 = .ok (.iload 4, 2) := dOk_get (q := (1377, .iload 4, 2)) ok_tb_L_law_7 49 rfl
theorem d_L_law_1379 : decode code 1379 = .ok (.iconst 1, 1) := dOk_get (q := (1379, .iconst 1, 1)) ok_tb_L_law_7 50 rfl
theorem d_L_law_1380 : decode code 1380 = .ok (.iadd, 1) := dOk_get (q := (1380, .iadd, 1)) ok_tb_L_law_7 51 rfl
theorem d_L_law_1381 : decode code 1381 = .ok (.iaload, 1) := dOk_get (q := (1381, .iaload, 1)) ok_tb_L_law_7 52 rfl
theorem d_L_law_1382 : decode code 1382 = .ok (.invokevirtual 134, 3) := dOk_get (q := (1382, .invokevirtual 134, 3)) ok_tb_L_law_7 53 rfl
theorem d_L_law_1385 : decode code 1385 = .ok (.istore 6, 2) := dOk_get (q := (1385, .istore 6, 2)) ok_tb_L_law_7 54 rfl
theorem d_L_law_1387 : decode code 1387 = .ok (.aload_n 2, 1) := dOk_get (q := (1387, .aload_n 2, 1)) ok_tb_L_law_7 55 rfl
theorem d_L_law_1388 : decode code 1388 = .ok (.invokevirtual 81, 3) := dOk_get (q := (1388, .invokevirtual 81, 3)) ok_tb_L_law_7 56 rfl
theorem d_L_law_1391 : decode code 1391 = .ok (.iload 5, 2) := dOk_get (q := (1391, .iload 5, 2)) ok_tb_L_law_7 57 rfl
theorem d_L_law_1393 : decode code 1393 = .ok (.if_icmp .eq 5, 3) := dOk_get (q := (1393, .if_icmp .eq 5, 3)) ok_tb_L_law_7 58 rfl
theorem d_L_law_1396 : decode code 1396 = .ok (.iconst 0, 1) := dOk_get (q := (1396, .iconst 0, 1)) ok_tb_L_law_7 59 rfl
theorem d_L_law_1397 : decode code 1397 = .ok (.ireturn, 1) := dOk_get (q := (1397, .ireturn, 1)) ok_tb_L_law_7 60 rfl
theorem d_L_law_1398 : decode code 1398 = .ok (.iload 5, 2) := dOk_get (q := (1398, .iload 5, 2)) ok_tb_L_law_7 61 rfl
theorem d_L_law_1400 : decode code 1400 = .ok (.ifCond .ne 15, 3) := dOk_get (q := (1400, .ifCond .ne 15, 3)) ok_tb_L_law_7 62 rfl
theorem d_L_law_1403 : decode code 1403 = .ok (.aload_n 3, 1) := dOk_get (q := (1403, .aload_n 3, 1)) ok_tb_L_law_7 63 rfl
theorem d_L_law_1404 : decode code 1404 = .ok (.iconst 0, 1) := dOk_get (q := (1404, .iconst 0, 1)) ok_tb_L_law_7 64 rfl
theorem d_L_law_1405 : decode code 1405 = .ok (.laload, 1) := dOk_get (q := (1405, .laload, 1)) ok_tb_L_law_7 65 rfl
theorem d_L_law_1406 : decode code 1406 = .ok (.iload 6, 2) := dOk_get (q := (1406, .iload 6, 2)) ok_tb_L_law_7 66 rfl
theorem d_L_law_1408 : decode code 1408 = .ok (.i2l, 1) := dOk_get (q := (1408, .i2l, 1)) ok_tb_L_law_7 67 rfl
theorem d_L_law_1409 : decode code 1409 = .ok (.lcmp, 1) := dOk_get (q := (1409, .lcmp, 1)) ok_tb_L_law_7 68 rfl
theorem d_L_law_1410 : decode code 1410 = .ok (.ifCond .eq 5, 3) := dOk_get (q := (1410, .ifCond .eq 5, 3)) ok_tb_L_law_7 69 rfl
theorem d_L_law_1413 : decode code 1413 = .ok (.iconst 0, 1) := dOk_get (q := (1413, .iconst 0, 1)) ok_tb_L_law_7 70 rfl
theorem d_L_law_1414 : decode code 1414 = .ok (.ireturn, 1) := dOk_get (q := (1414, .ireturn, 1)) ok_tb_L_law_7 71 rfl
theorem d_L_law_1415 : decode code 1415 = .ok (.goto 59, 3) := dOk_get (q := (1415, .goto 59, 3)) ok_tb_L_law_7 72 rfl
theorem d_L_law_1418 : decode code 1418 = .ok (.aload_n 1, 1) := dOk_get (q := (1418, .aload_n 1, 1)) ok_tb_L_law_7 73 rfl
theorem d_L_law_1419 : decode code 1419 = .ok (.aload_n 0, 1) := dOk_get (q := (1419, .aload_n 0, 1)) ok_tb_L_law_7 74 rfl
theorem d_L_law_1420 : decode code 1420 = .ok (.iload 4, 2) := dOk_get (q := (1420, .iload 4, 2)) ok_tb_L_law_7 75 rfl
theorem d_L_law_1422 : decode code 1422 = .ok (.iconst 1, 1) := dOk_get (q := (1422, .iconst 1, 1)) ok_tb_L_law_7 76 rfl
theorem d_L_law_1423 : decode code 1423 = .ok (.iadd, 1) := dOk_get (q := (1423, .iadd, 1)) ok_tb_L_law_7 77 rfl
theorem d_L_law_1424 : decode code 1424 = .ok (.iaload, 1) := dOk_get (q := (1424, .iaload, 1)) ok_tb_L_law_7 78 rfl
theorem d_L_law_1425 : decode code 1425 = .ok (.aload_n 3, 1) := dOk_get (q := (1425, .aload_n 3, 1)) ok_tb_L_law_7 79 rfl
theorem d_L_law_1426 : decode code 1426 = .ok (.invokestatic 135, 3) := dOk_get (q := (1426, .invokestatic 135, 3)) ok_tb_L_law_7 80 rfl
theorem d_L_law_1429 : decode code 1429 = .ok (.istore 5, 2) := dOk_get (q := (1429, .istore 5, 2)) ok_tb_L_law_7 81 rfl
theorem d_L_law_1431 : decode code 1431 = .ok (.aload_n 2, 1) := dOk_get (q := (1431, .aload_n 2, 1)) ok_tb_L_law_7 82 rfl
theorem d_L_law_1432 : decode code 1432 = .ok (.aload_n 0, 1) := dOk_get (q := (1432, .aload_n 0, 1)) ok_tb_L_law_7 83 rfl
theorem d_L_law_1433 : decode code 1433 = .ok (.iload 4, 2) := dOk_get (q := (1433, .iload 4, 2)) ok_tb_L_law_7 84 rfl
theorem d_L_law_1435 : decode code 1435 = .ok (.iconst 1, 1) := dOk_get (q := (1435, .iconst 1, 1)) ok_tb_L_law_7 85 rfl
theorem d_L_law_1436 : decode code 1436 = .ok (.iadd, 1) := dOk_get (q := (1436, .iadd, 1)) ok_tb_L_law_7 86 rfl
theorem d_L_law_1437 : decode code 1437 = .ok (.iaload, 1) := dOk_get (q := (1437, .iaload, 1)) ok_tb_L_law_7 87 rfl
theorem d_L_law_1438 : decode code 1438 = .ok (.invokevirtual 137, 3) := dOk_get (q := (1438, .invokevirtual 137, 3)) ok_tb_L_law_7 88 rfl
theorem d_L_law_1441 : decode code 1441 = .ok (.istore 6, 2) := dOk_get (q := (1441, .istore 6, 2)) ok_tb_L_law_7 89 rfl
theorem d_L_law_1443 : decode code 1443 = .ok (.aload_n 2, 1) := dOk_get (q := (1443, .aload_n 2, 1)) ok_tb_L_law_7 90 rfl
theorem d_L_law_1444 : decode code 1444 = .ok (.invokevirtual 81, 3) := dOk_get (q := (1444, .invokevirtual 81, 3)) ok_tb_L_law_7 91 rfl
theorem d_L_law_1447 : decode code 1447 = .ok (.iload 5, 2) := dOk_get (q := (1447, .iload 5, 2)) ok_tb_L_law_7 92 rfl
theorem d_L_law_1449 : decode code 1449 = .ok (.if_icmp .eq 5, 3) := dOk_get (q := (1449, .if_icmp .eq 5, 3)) ok_tb_L_law_7 93 rfl
theorem d_L_law_1452 : decode code 1452 = .ok (.iconst 0, 1) := dOk_get (q := (1452, .iconst 0, 1)) ok_tb_L_law_7 94 rfl
theorem d_L_law_1453 : decode code 1453 = .ok (.ireturn, 1) := dOk_get (q := (1453, .ireturn, 1)) ok_tb_L_law_7 95 rfl
theorem d_L_law_1454 : decode code 1454 = .ok (.iload 5, 2) := dOk_get (q := (1454, .iload 5, 2)) ok_tb_L_law_7 96 rfl
theorem d_L_law_1456 : decode code 1456 = .ok (.ifCond .ne 15, 3) := dOk_get (q := (1456, .ifCond .ne 15, 3)) ok_tb_L_law_7 97 rfl
theorem d_L_law_1459 : decode code 1459 = .ok (.aload_n 3, 1) := dOk_get (q := (1459, .aload_n 3, 1)) ok_tb_L_law_7 98 rfl
theorem d_L_law_1460 : decode code 1460 = .ok (.iconst 0, 1) := dOk_get (q := (1460, .iconst 0, 1)) ok_tb_L_law_7 99 rfl
theorem d_L_law_1461 : decode code 1461 = .ok (.laload, 1) := dOk_get (q := (1461, .laload, 1)) ok_tb_L_law_7 100 rfl
theorem d_L_law_1462 : decode code 1462 = .ok (.iload 6, 2) := dOk_get (q := (1462, .iload 6, 2)) ok_tb_L_law_7 101 rfl
theorem d_L_law_1464 : decode code 1464 = .ok (.i2l, 1) := dOk_get (q := (1464, .i2l, 1)) ok_tb_L_law_7 102 rfl
theorem d_L_law_1465 : decode code 1465 = .ok (.lcmp, 1) := dOk_get (q := (1465, .lcmp, 1)) ok_tb_L_law_7 103 rfl
theorem d_L_law_1466 : decode code 1466 = .ok (.ifCond .eq 5, 3) := dOk_get (q := (1466, .ifCond .eq 5, 3)) ok_tb_L_law_7 104 rfl
theorem d_L_law_1469 : decode code 1469 = .ok (.iconst 0, 1) := dOk_get (q := (1469, .iconst 0, 1)) ok_tb_L_law_7 105 rfl
theorem d_L_law_1470 : decode code 1470 = .ok (.ireturn, 1) := dOk_get (q := (1470, .ireturn, 1)) ok_tb_L_law_7 106 rfl
theorem d_L_law_1471 : decode code 1471 = .ok (.goto 3, 3) := dOk_get (q := (1471, .goto 3, 3)) ok_tb_L_law_7 107 rfl
theorem d_L_law_1474 : decode code 1474 = .ok (.iinc 4 9, 3) := dOk_get (q := (1474, .iinc 4 9, 3)) ok_tb_L_law_7 108 rfl
theorem d_L_law_1477 : decode code 1477 = .ok (.goto (-1444), 3) := dOk_get (q := (1477, .goto (-1444), 3)) ok_tb_L_law_7 109 rfl
theorem d_L_law_1480 : decode code 1480 = .ok (.iconst 1, 1) := dOk_get (q := (1480, .iconst 1, 1)) ok_tb_L_law_7 110 rfl
theorem d_L_law_1481 : decode code 1481 = .ok (.ireturn, 1) := dOk_get (q := (1481, .ireturn, 1)) ok_tb_L_law_7 111 rfl
