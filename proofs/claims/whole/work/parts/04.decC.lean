def tb_C_init_0 : List (Nat × Instr × Nat) := [(0, .aload_n 0, 1), (1, .invokespecial 1, 3), (4, .aload_n 0, 1), (5, .iconst 1, 1), (6, .bipush 16, 2), (8, .iload_n 1, 1), (9, .invokestatic 9, 3), (12, .invokestatic 15, 3), (15, .putfield 18, 3), (18, .aload_n 0, 1), (19, .new 22, 3), (22, .dup, 1), (23, .invokespecial 24, 3), (26, .putfield 25, 3), (29, .aload_n 0, 1), (30, .new 22, 3), (33, .dup, 1), (34, .invokespecial 24, 3), (37, .putfield 29, 3), (40, .aload_n 0, 1), (41, .new 32, 3), (44, .dup, 1), (45, .invokespecial 34, 3), (48, .putfield 35, 3), (51, .aload_n 0, 1), (52, .new 32, 3), (55, .dup, 1), (56, .invokespecial 34, 3), (59, .putfield 39, 3), (62, .aload_n 0, 1), (63, .bipush 60, 2), (65, .newarray .int, 2), (67, .putfield 42, 3), (70, .aload_n 0, 1), (71, .iconst 0, 1), (72, .putfield 46, 3), (75, .aload_n 0, 1), (76, .bipush 8, 2), (78, .putfield 49, 3), (81, .return_, 1)]
theorem ok_tb_C_init_0 : dOk prog_1_method_1_code tb_C_init_0 = true := by decide +kernel
theorem d_C_init_0 : decode prog_1_method_1_code 0 = .ok (.aload_n 0, 1) := dOk_get (q := (0, .aload_n 0, 1)) ok_tb_C_init_0 0 rfl
theorem d_C_init_1 : decode prog_1_method_1_code 1 = .ok (.invokespecial 1, 3) := dOk_get (q := (1, .invokespecial 1, 3)) ok_tb_C_init_0 1 rfl
theorem d_C_init_4 : decode prog_1_method_1_code 4 = .ok (.aload_n 0, 1) := dOk_get (q := (4, .aload_n 0, 1)) ok_tb_C_init_0 2 rfl
theorem d_C_init_5 : decode prog_1_method_1_code 5 = .ok (.iconst 1, 1) := dOk_get (q := (5, .iconst 1, 1)) ok_tb_C_init_0 3 rfl
theorem d_C_init_6 : decode prog_1_method_1_code 6 = .ok (.bipush 16, 2) := dOk_get (q := (6, .bipush 16, 2)) ok_tb_C_init_0 4 rfl
theorem d_C_init_8 : decode prog_1_method_1_code 8 = .ok (.iload_n 1, 1) := dOk_get (q := (8, .iload_n 1, 1)) ok_tb_C_init_0 5 rfl
theorem d_C_init_9 : decode prog_1_method_1_code 9 = .ok (.invokestatic 9, 3) := dOk_get (q := (9, .invokestatic 9, 3)) ok_tb_C_init_0 6 rfl
theorem d_C_init_12 : decode prog_1_method_1_code 12 = .ok (.invokestatic 15, 3) := dOk_get (q := (12, .invokestatic 15, 3)) ok_tb_C_init_0 7 rfl
theorem d_C_init_15 : decode prog_1_method_1_code 15 = .ok (.putfield 18, 3) := dOk_get (q := (15, .putfield 18, 3)) ok_tb_C_init_0 8 rfl
theorem d_C_init_18 : decode prog_1_method_1_code 18 = .ok (.aload_n 0, 1) := dOk_get (q := (18, .aload_n 0, 1)) ok_tb_C_init_0 9 rfl
theorem d_C_init_19 : decode prog_1_method_1_code 19 = .ok (.new 22, 3) := dOk_get (q := (19, .new 22, 3)) ok_tb_C_init_0 10 rfl
theorem d_C_init_22 : decode prog_1_method_1_code 22 = .ok (.dup, 1) := dOk_get (q := (22, .dup, 1)) ok_tb_C_init_0 11 rfl
theorem d_C_init_23 : decode prog_1_method_1_code 23 = .ok (.invokespecial 24, 3) := dOk_get (q := (23, .invokespecial 24, 3)) ok_tb_C_init_0 12 rfl
theorem d_C_init_26 : decode prog_1_method_1_code 26 = .ok (.putfield 25, 3) := dOk_get (q := (26, .putfield 25, 3)) ok_tb_C_init_0 13 rfl
theorem d_C_init_29 : decode prog_1_method_1_code 29 = .ok (.aload_n 0, 1) := dOk_get (q := (29, .aload_n 0, 1)) ok_tb_C_init_0 14 rfl
theorem d_C_init_30 : decode prog_1_method_1_code 30 = .ok (.new 22, 3) := dOk_get (q := (30, .new 22, 3)) ok_tb_C_init_0 15 rfl
theorem d_C_init_33 : decode prog_1_method_1_code 33 = .ok (.dup, 1) := dOk_get (q := (33, .dup, 1)) ok_tb_C_init_0 16 rfl
theorem d_C_init_34 : decode prog_1_method_1_code 34 = .ok (.invokespecial 24, 3) := dOk_get (q := (34, .invokespecial 24, 3)) ok_tb_C_init_0 17 rfl
theorem d_C_init_37 : decode prog_1_method_1_code 37 = .ok (.putfield 29, 3) := dOk_get (q := (37, .putfield 29, 3)) ok_tb_C_init_0 18 rfl
theorem d_C_init_40 : decode prog_1_method_1_code 40 = .ok (.aload_n 0, 1) := dOk_get (q := (40, .aload_n 0, 1)) ok_tb_C_init_0 19 rfl
theorem d_C_init_41 : decode prog_1_method_1_code 41 = .ok (.new 32, 3) := dOk_get (q := (41, .new 32, 3)) ok_tb_C_init_0 20 rfl
theorem d_C_init_44 : decode prog_1_method_1_code 44 = .ok (.dup, 1) := dOk_get (q := (44, .dup, 1)) ok_tb_C_init_0 21 rfl
theorem d_C_init_45 : decode prog_1_method_1_code 45 = .ok (.invokespecial 34, 3) := dOk_get (q := (45, .invokespecial 34, 3)) ok_tb_C_init_0 22 rfl
theorem d_C_init_48 : decode prog_1_method_1_code 48 = .ok (.putfield 35, 3) := dOk_get (q := (48, .putfield 35, 3)) ok_tb_C_init_0 23 rfl
theorem d_C_init_51 : decode prog_1_method_1_code 51 = .ok (.aload_n 0, 1) := dOk_get (q := (51, .aload_n 0, 1)) ok_tb_C_init_0 24 rfl
theorem d_C_init_52 : decode prog_1_method_1_code 52 = .ok (.new 32, 3) := dOk_get (q := (52, .new 32, 3)) ok_tb_C_init_0 25 rfl
theorem d_C_init_55 : decode prog_1_method_1_code 55 = .ok (.dup, 1) := dOk_get (q := (55, .dup, 1)) ok_tb_C_init_0 26 rfl
theorem d_C_init_56 : decode prog_1_method_1_code 56 = .ok (.invokespecial 34, 3) := dOk_get (q := (56, .invokespecial 34, 3)) ok_tb_C_init_0 27 rfl
theorem d_C_init_59 : decode prog_1_method_1_code 59 = .ok (.putfield 39, 3) := dOk_get (q := (59, .putfield 39, 3)) ok_tb_C_init_0 28 rfl
theorem d_C_init_62 : decode prog_1_method_1_code 62 = .ok (.aload_n 0, 1) := dOk_get (q := (62, .aload_n 0, 1)) ok_tb_C_init_0 29 rfl
theorem d_C_init_63 : decode prog_1_method_1_code 63 = .ok (.bipush 60, 2) := dOk_get (q := (63, .bipush 60, 2)) ok_tb_C_init_0 30 rfl
theorem d_C_init_65 : decode prog_1_method_1_code 65 = .ok (.newarray .int, 2) := dOk_get (q := (65, .newarray .int, 2)) ok_tb_C_init_0 31 rfl
theorem d_C_init_67 : decode prog_1_method_1_code 67 = .ok (.putfield 42, 3) := dOk_get (q := (67, .putfield 42, 3)) ok_tb_C_init_0 32 rfl
theorem d_C_init_70 : decode prog_1_method_1_code 70 = .ok (.aload_n 0, 1) := dOk_get (q := (70, .aload_n 0, 1)) ok_tb_C_init_0 33 rfl
theorem d_C_init_71 : decode prog_1_method_1_code 71 = .ok (.iconst 0, 1) := dOk_get (q := (71, .iconst 0, 1)) ok_tb_C_init_0 34 rfl
theorem d_C_init_72 : decode prog_1_method_1_code 72 = .ok (.putfield 46, 3) := dOk_get (q := (72, .putfield 46, 3)) ok_tb_C_init_0 35 rfl
theorem d_C_init_75 : decode prog_1_method_1_code 75 = .ok (.aload_n 0, 1) := dOk_get (q := (75, .aload_n 0, 1)) ok_tb_C_init_0 36 rfl
theorem d_C_init_76 : decode prog_1_method_1_code 76 = .ok (.bipush 8, 2) := dOk_get (q := (76, .bipush 8, 2)) ok_tb_C_init_0 37 rfl
theorem d_C_init_78 : decode prog_1_method_1_code 78 = .ok (.putfield 49, 3) := dOk_get (q := (78, .putfield 49, 3)) ok_tb_C_init_0 38 rfl
theorem d_C_init_81 : decode prog_1_method_1_code 81 = .ok (.return_, 1) := dOk_get (q := (81, .return_, 1)) ok_tb_C_init_0 39 rfl
def tb_C_plain_0 : List (Nat × Instr × Nat) := [(0, .aload_n 0, 1), (1, .getfield 39, 3), (4, .invokevirtual 128, 3), (7, .iconst 0, 1), (8, .istore_n 1, 1), (9, .iload_n 1, 1), (10, .aload_n 0, 1), (11, .getfield 49, 3), (14, .if_icmp .ge 18, 3), (17, .aload_n 0, 1), (18, .aload_n 0, 1), (19, .getfield 39, 3), (22, .iload_n 1, 1), (23, .invokevirtual 131, 3), (26, .iinc 1 1, 3), (29, .goto (-20), 3), (32, .aload_n 0, 1), (33, .getfield 39, 3), (36, .invokevirtual 135, 3), (39, .aload_n 0, 1), (40, .getfield 35, 3), (43, .aload_n 0, 1), (44, .getfield 39, 3), (47, .invokevirtual 185, 3), (50, .ireturn, 1)]
theorem ok_tb_C_plain_0 : dOk prog_1_method_13_code tb_C_plain_0 = true := by decide +kernel
theorem d_C_plain_0 : decode prog_1_method_13_code 0 = .ok (.aload_n 0, 1) := dOk_get (q := (0, .aload_n 0, 1)) ok_tb_C_plain_0 0 rfl
theorem d_C_plain_1 : decode prog_1_method_13_code 1 = .ok (.getfield 39, 3) := dOk_get (q := (1, .getfield 39, 3)) ok_tb_C_plain_0 1 rfl
theorem d_C_plain_4 : decode prog_1_method_13_code 4 = .ok (.invokevirtual 128, 3) := dOk_get (q := (4, .invokevirtual 128, 3)) ok_tb_C_plain_0 2 rfl
theorem d_C_plain_7 : decode prog_1_method_13_code 7 = .ok (.iconst 0, 1) := dOk_get (q := (7, .iconst 0, 1)) ok_tb_C_plain_0 3 rfl
theorem d_C_plain_8 : decode prog_1_method_13_code 8 = .ok (.istore_n 1, 1) := dOk_get (q := (8, .istore_n 1, 1)) ok_tb_C_plain_0 4 rfl
theorem d_C_plain_9 : decode prog_1_method_13_code 9 = .ok (.iload_n 1, 1) := dOk_get (q := (9, .iload_n 1, 1)) ok_tb_C_plain_0 5 rfl
theorem d_C_plain_10 : decode prog_1_method_13_code 10 = .ok (.aload_n 0, 1) := dOk_get (q := (10, .aload_n 0, 1)) ok_tb_C_plain_0 6 rfl
theorem d_C_plain_11 : decode prog_1_method_13_code 11 = .ok (.getfield 49, 3) := dOk_get (q := (11, .getfield 49, 3)) ok_tb_C_plain_0 7 rfl
theorem d_C_plain_14 : decode prog_1_method_13_code 14 = .ok (.if_icmp .ge 18, 3) := dOk_get (q := (14, .if_icmp .ge 18, 3)) ok_tb_C_plain_0 8 rfl
theorem d_C_plain_17 : decode prog_1_method_13_code 17 = .ok (.aload_n 0, 1) := dOk_get (q := (17, .aload_n 0, 1)) ok_tb_C_plain_0 9 rfl
theorem d_C_plain_18 : decode prog_1_method_13_code 18 = .ok (.aload_n 0, 1) := dOk_get (q := (18, .aload_n 0, 1)) ok_tb_C_plain_0 10 rfl
theorem d_C_plain_19 : decode prog_1_method_13_code 19 = .ok (.getfield 39, 3) := dOk_get (q := (19, .getfield 39, 3)) ok_tb_C_plain_0 11 rfl
theorem d_C_plain_22 : decode prog_1_method_13_code 22 = .ok (.iload_n 1, 1) := dOk_get (q := (22, .iload_n 1, 1)) ok_tb_C_plain_0 12 rfl
theorem d_C_plain_23 : decode prog_1_method_13_code 23 = .ok (.invokevirtual 131, 3) := dOk_get (q := (23, .invokevirtual 131, 3)) ok_tb_C_plain_0 13 rfl
theorem d_C_plain_26 : decode prog_1_method_13_code 26 = .ok (.iinc 1 1, 3) := dOk_get (q := (26, .iinc 1 1, 3)) ok_tb_C_plain_0 14 rfl
theorem d_C_plain_29 : decode prog_1_method_13_code 29 = .ok (.goto (-20), 3) := dOk_get (q := (29, .goto (-20), 3)) ok_tb_C_plain_0 15 rfl
theorem d_C_plain_32 : decode prog_1_method_13_code 32 = .ok (.aload_n 0, 1) := dOk_get (q := (32, .aload_n 0, 1)) ok_tb_C_plain_0 16 rfl
theorem d_C_plain_33 : decode prog_1_method_13_code 33 = .ok (.getfield 39, 3) := dOk_get (q := (33, .getfield 39, 3)) ok_tb_C_plain_0 17 rfl
theorem d_C_plain_36 : decode prog_1_method_13_code 36 = .ok (.invokevirtual 135, 3) := dOk_get (q := (36, .invokevirtual 135, 3)) ok_tb_C_plain_0 18 rfl
theorem d_C_plain_39 : decode prog_1_method_13_code 39 = .ok (.aload_n 0, 1) := dOk_get (q := (39, .aload_n 0, 1)) ok_tb_C_plain_0 19 rfl
theorem d_C_plain_40 : decode prog_1_method_13_code 40 = .ok (.getfield 35, 3) := dOk_get (q := (40, .getfield 35, 3)) ok_tb_C_plain_0 20 rfl
theorem d_C_plain_43 : decode prog_1_method_13_code 43 = .ok (.aload_n 0, 1) := dOk_get (q := (43, .aload_n 0, 1)) ok_tb_C_plain_0 21 rfl
theorem d_C_plain_44 : decode prog_1_method_13_code 44 = .ok (.getfield 39, 3) := dOk_get (q := (44, .getfield 39, 3)) ok_tb_C_plain_0 22 rfl
theorem d_C_plain_47 : decode prog_1_method_13_code 47 = .ok (.invokevirtual 185, 3) := dOk_get (q := (47, .invokevirtual 185, 3)) ok_tb_C_plain_0 23 rfl
theorem d_C_plain_50 : decode prog_1_method_13_code 50 = .ok (.ireturn, 1) := dOk_get (q := (50, .ireturn, 1)) ok_tb_C_plain_0 24 rfl
def tb_C_checkStrip_0 : List (Nat × Instr × Nat) := [(0, .iconst 0, 1), (1, .istore_n 3, 1), (2, .iload_n 3, 1), (3, .aload_n 0, 1), (4, .getfield 25, 3), (7, .invokevirtual 66, 3), (10, .if_icmp .ge 78, 3), (13, .aload_n 0, 1), (14, .getfield 25, 3), (17, .iload_n 3, 1), (18, .invokevirtual 201, 3), (21, .checkcast 70, 3), (24, .astore 4, 2), (26, .aload 4, 2), (28, .invokevirtual 205, 3), (31, .ifCond .eq 51, 3), (34, .aload 4, 2), (36, .aload_n 0, 1), (37, .getfield 49, 3), (40, .invokevirtual 220, 3), (43, .iload_n 2, 1), (44, .if_icmp .ne 38, 3), (47, .aload_n 0, 1), (48, .aload_n 1, 1), (49, .aload 4, 2), (51, .invokevirtual 223, 3), (54, .aload_n 0, 1), (55, .aload_n 1, 1), (56, .aload 4, 2), (58, .invokevirtual 227, 3), (61, .aload_n 0, 1), (62, .aload_n 1, 1), (63, .aload 4, 2), (65, .invokevirtual 230, 3), (68, .aload_n 0, 1), (69, .aload_n 1, 1), (70, .aload 4, 2), (72, .invokevirtual 233, 3), (75, .aload_n 0, 1), (76, .aload_n 1, 1), (77, .aload 4, 2), (79, .invokevirtual 236, 3), (82, .iinc 3 1, 3), (85, .goto (-83), 3), (88, .return_, 1)]
theorem ok_tb_C_checkStrip_0 : dOk prog_1_method_23_code tb_C_checkStrip_0 = true := by decide +kernel
theorem d_C_checkStrip_0 : decode prog_1_method_23_code 0 = .ok (.iconst 0, 1) := dOk_get (q := (0, .iconst 0, 1)) ok_tb_C_checkStrip_0 0 rfl
theorem d_C_checkStrip_1 : decode prog_1_method_23_code 1 = .ok (.istore_n 3, 1) := dOk_get (q := (1, .istore_n 3, 1)) ok_tb_C_checkStrip_0 1 rfl
theorem d_C_checkStrip_2 : decode prog_1_method_23_code 2 = .ok (.iload_n 3, 1) := dOk_get (q := (2, .iload_n 3, 1)) ok_tb_C_checkStrip_0 2 rfl
theorem d_C_checkStrip_3 : decode prog_1_method_23_code 3 = .ok (.aload_n 0, 1) := dOk_get (q := (3, .aload_n 0, 1)) ok_tb_C_checkStrip_0 3 rfl
theorem d_C_checkStrip_4 : decode prog_1_method_23_code 4 = .ok (.getfield 25, 3) := dOk_get (q := (4, .getfield 25, 3)) ok_tb_C_checkStrip_0 4 rfl
theorem d_C_checkStrip_7 : decode prog_1_method_23_code 7 = .ok (.invokevirtual 66, 3) := dOk_get (q := (7, .invokevirtual 66, 3)) ok_tb_C_checkStrip_0 5 rfl
theorem d_C_checkStrip_10 : decode prog_1_method_23_code 10 = .ok (.if_icmp .ge 78, 3) := dOk_get (q := (10, .if_icmp .ge 78, 3)) ok_tb_C_checkStrip_0 6 rfl
theorem d_C_checkStrip_13 : decode prog_1_method_23_code 13 = .ok (.aload_n 0, 1) := dOk_get (q := (13, .aload_n 0, 1)) ok_tb_C_checkStrip_0 7 rfl
theorem d_C_checkStrip_14 : decode prog_1_method_23_code 14 = .ok (.getfield 25, 3) := dOk_get (q := (14, .getfield 25, 3)) ok_tb_C_checkStrip_0 8 rfl
theorem d_C_checkStrip_17 : decode prog_1_method_23_code 17 = .ok (.iload_n 3, 1) := dOk_get (q := (17, .iload_n 3, 1)) ok_tb_C_checkStrip_0 9 rfl
theorem d_C_checkStrip_18 : decode prog_1_method_23_code 18 = .ok (.invokevirtual 201, 3) := dOk_get (q := (18, .invokevirtual 201, 3)) ok_tb_C_checkStrip_0 10 rfl
theorem d_C_checkStrip_21 : decode prog_1_method_23_code 21 = .ok (.checkcast 70, 3) := dOk_get (q := (21, .checkcast 70, 3)) ok_tb_C_checkStrip_0 11 rfl
theorem d_C_checkStrip_24 : decode prog_1_method_23_code 24 = .ok (.astore 4, 2) := dOk_get (q := (24, .astore 4, 2)) ok_tb_C_checkStrip_0 12 rfl
theorem d_C_checkStrip_26 : decode prog_1_method_23_code 26 = .ok (.aload 4, 2) := dOk_get (q := (26, .aload 4, 2)) ok_tb_C_checkStrip_0 13 rfl
theorem d_C_checkStrip_28 : decode prog_1_method_23_code 28 = .ok (.invokevirtual 205, 3) := dOk_get (q := (28, .invokevirtual 205, 3)) ok_tb_C_checkStrip_0 14 rfl
theorem d_C_checkStrip_31 : decode prog_1_method_23_code 31 = .ok (.ifCond .eq 51, 3) := dOk_get (q := (31, .ifCond .eq 51, 3)) ok_tb_C_checkStrip_0 15 rfl
theorem d_C_checkStrip_34 : decode prog_1_method_23_code 34 = .ok (.aload 4, 2) := dOk_get (q := (34, .aload 4, 2)) ok_tb_C_checkStrip_0 16 rfl
theorem d_C_checkStrip_36 : decode prog_1_method_23_code 36 = .ok (.aload_n 0, 1) := dOk_get (q := (36, .aload_n 0, 1)) ok_tb_C_checkStrip_0 17 rfl
theorem d_C_checkStrip_37 : decode prog_1_method_23_code 37 = .ok (.getfield 49, 3) := dOk_get (q := (37, .getfield 49, 3)) ok_tb_C_checkStrip_0 18 rfl
theorem d_C_checkStrip_40 : decode prog_1_method_23_code 40 = .ok (.invokevirtual 220, 3) := dOk_get (q := (40, .invokevirtual 220, 3)) ok_tb_C_checkStrip_0 19 rfl
theorem d_C_checkStrip_43 : decode prog_1_method_23_code 43 = .ok (.iload_n 2, 1) := dOk_get (q := (43, .iload_n 2, 1)) ok_tb_C_checkStrip_0 20 rfl
theorem d_C_checkStrip_44 : decode prog_1_method_23_code 44 = .ok (.if_icmp .ne 38, 3) := dOk_get (q := (44, .if_icmp .ne 38, 3)) ok_tb_C_checkStrip_0 21 rfl
theorem d_C_checkStrip_47 : decode prog_1_method_23_code 47 = .ok (.aload_n 0, 1) := dOk_get (q := (47, .aload_n 0, 1)) ok_tb_C_checkStrip_0 22 rfl
theorem d_C_checkStrip_48 : decode prog_1_method_23_code 48 = .ok (.aload_n 1, 1) := dOk_get (q := (48, .aload_n 1, 1)) ok_tb_C_checkStrip_0 23 rfl
theorem d_C_checkStrip_49 : decode prog_1_method_23_code 49 = .ok (.aload 4, 2) := dOk_get (q := (49, .aload 4, 2)) ok_tb_C_checkStrip_0 24 rfl
theorem d_C_checkStrip_51 : decode prog_1_method_23_code 51 = .ok (.invokevirtual 223, 3) := dOk_get (q := (51, .invokevirtual 223, 3)) ok_tb_C_checkStrip_0 25 rfl
theorem d_C_checkStrip_54 : decode prog_1_method_23_code 54 = .ok (.aload_n 0, 1) := dOk_get (q := (54, .aload_n 0, 1)) ok_tb_C_checkStrip_0 26 rfl
theorem d_C_checkStrip_55 : decode prog_1_method_23_code 55 = .ok (.aload_n 1, 1) := dOk_get (q := (55, .aload_n 1, 1)) ok_tb_C_checkStrip_0 27 rfl
theorem d_C_checkStrip_56 : decode prog_1_method_23_code 56 = .ok (.aload 4, 2) := dOk_get (q := (56, .aload 4, 2)) ok_tb_C_checkStrip_0 28 rfl
theorem d_C_checkStrip_58 : decode prog_1_method_23_code 58 = .ok (.invokevirtual 227, 3) := dOk_get (q := (58, .invokevirtual 227, 3)) ok_tb_C_checkStrip_0 29 rfl
theorem d_C_checkStrip_61 : decode prog_1_method_23_code 61 = .ok (.aload_n 0, 1) := dOk_get (q := (61, .aload_n 0, 1)) ok_tb_C_checkStrip_0 30 rfl
theorem d_C_checkStrip_62 : decode prog_1_method_23_code 62 = .ok (.aload_n 1, 1) := dOk_get (q := (62, .aload_n 1, 1)) ok_tb_C_checkStrip_0 31 rfl
theorem d_C_checkStrip_63 : decode prog_1_method_23_code 63 = .ok (.aload 4, 2) := dOk_get (q := (63, .aload 4, 2)) ok_tb_C_checkStrip_0 32 rfl
theorem d_C_checkStrip_65 : decode prog_1_method_23_code 65 = .ok (.invokevirtual 230, 3) := dOk_get (q := (65, .invokevirtual 230, 3)) ok_tb_C_checkStrip_0 33 rfl
theorem d_C_checkStrip_68 : decode prog_1_method_23_code 68 = .ok (.aload_n 0, 1) := dOk_get (q := (68, .aload_n 0, 1)) ok_tb_C_checkStrip_0 34 rfl
theorem d_C_checkStrip_69 : decode prog_1_method_23_code 69 = .ok (.aload_n 1, 1) := dOk_get (q := (69, .aload_n 1, 1)) ok_tb_C_checkStrip_0 35 rfl
theorem d_C_checkStrip_70 : decode prog_1_method_23_code 70 = .ok (.aload 4, 2) := dOk_get (q := (70, .aload 4, 2)) ok_tb_C_checkStrip_0 36 rfl
theorem d_C_checkStrip_72 : decode prog_1_method_23_code 72 = .ok (.invokevirtual 233, 3) := dOk_get (q := (72, .invokevirtual 233, 3)) ok_tb_C_checkStrip_0 37 rfl
theorem d_C_checkStrip_75 : decode prog_1_method_23_code 75 = .ok (.aload_n 0, 1) := dOk_get (q := (75, .aload_n 0, 1)) ok_tb_C_checkStrip_0 38 rfl
theorem d_C_checkStrip_76 : decode prog_1_method_23_code 76 = .ok (.aload_n 1, 1) := dOk_get (q := (76, .aload_n 1, 1)) ok_tb_C_checkStrip_0 39 rfl
theorem d_C_checkStrip_77 : decode prog_1_method_23_code 77 = .ok (.aload 4, 2) := dOk_get (q := (77, .aload 4, 2)) ok_tb_C_checkStrip_0 40 rfl
theorem d_C_checkStrip_79 : decode prog_1_method_23_code 79 = .ok (.invokevirtual 236, 3) := dOk_get (q := (79, .invokevirtual 236, 3)) ok_tb_C_checkStrip_0 41 rfl
theorem d_C_checkStrip_82 : decode prog_1_method_23_code 82 = .ok (.iinc 3 1, 3) := dOk_get (q := (82, .iinc 3 1, 3)) ok_tb_C_checkStrip_0 42 rfl
theorem d_C_checkStrip_85 : decode prog_1_method_23_code 85 = .ok (.goto (-83), 3) := dOk_get (q := (85, .goto (-83), 3)) ok_tb_C_checkStrip_0 43 rfl
theorem d_C_checkStrip_88 : decode prog_1_method_23_code 88 = .ok (.return_, 1) := dOk_get (q := (88, .return_, 1)) ok_tb_C_checkStrip_0 44 rfl
def tb_C_checkWidth_0 : List (Nat × Instr × Nat) := [(0, .aload_n 2, 1), (1, .invokevirtual 239, 3), (4, .ifCond .eq 31, 3), (7, .ldc2_w 242, 3), (10, .aload_n 2, 1), (11, .getfield 99, 3), (14, .lmul, 1), (15, .aload_n 0, 1), (16, .iconst 1, 1), (17, .aload_n 2, 1), (18, .getfield 119, 3), (21, .invokevirtual 244, 3), (24, .lcmp, 1), (25, .ifCond .ge 10, 3), (28, .aload_n 1, 1), (29, .iconst 1, 1), (30, .aload_n 2, 1), (31, .iconst (-1), 1), (32, .invokevirtual 248, 3), (35, .return_, 1)]
theorem ok_tb_C_checkWidth_0 : dOk prog_1_method_24_code tb_C_checkWidth_0 = true := by decide +kernel
theorem d_C_checkWidth_0 : decode prog_1_method_24_code 0 = .ok (.aload_n 2, 1) := dOk_get (q := (0, .aload_n 2, 1)) ok_tb_C_checkWidth_0 0 rfl
theorem d_C_checkWidth_1 : decode prog_1_method_24_code 1 = .ok (.invokevirtual 239, 3) := dOk_get (q := (1, .invokevirtual 239, 3)) ok_tb_C_checkWidth_0 1 rfl
theorem d_C_checkWidth_4 : decode prog_1_method_24_code 4 = .ok (.ifCond .eq 31, 3) := dOk_get (q := (4, .ifCond .eq 31, 3)) ok_tb_C_checkWidth_0 2 rfl
theorem d_C_checkWidth_7 : decode prog_1_method_24_code 7 = .ok (.ldc2_w 242, 3) := dOk_get (q := (7, .ldc2_w 242, 3)) ok_tb_C_checkWidth_0 3 rfl
theorem d_C_checkWidth_10 : decode prog_1_method_24_code 10 = .ok (.aload_n 2, 1) := dOk_get (q := (10, .aload_n 2, 1)) ok_tb_C_checkWidth_0 4 rfl
theorem d_C_checkWidth_11 : decode prog_1_method_24_code 11 = .ok (.getfield 99, 3) := dOk_get (q := (11, .getfield 99, 3)) ok_tb_C_checkWidth_0 5 rfl
theorem d_C_checkWidth_14 : decode prog_1_method_24_code 14 = .ok (.lmul, 1) := dOk_get (q := (14, .lmul, 1)) ok_tb_C_checkWidth_0 6 rfl
theorem d_C_checkWidth_15 : decode prog_1_method_24_code 15 = .ok (.aload_n 0, 1) := dOk_get (q := (15, .aload_n 0, 1)) ok_tb_C_checkWidth_0 7 rfl
theorem d_C_checkWidth_16 : decode prog_1_method_24_code 16 = .ok (.iconst 1, 1) := dOk_get (q := (16, .iconst 1, 1)) ok_tb_C_checkWidth_0 8 rfl
theorem d_C_checkWidth_17 : decode prog_1_method_24_code 17 = .ok (.aload_n 2, 1) := dOk_get (q := (17, .aload_n 2, 1)) ok_tb_C_checkWidth_0 9 rfl
theorem d_C_checkWidth_18 : decode prog_1_method_24_code 18 = .ok (.getfield 119, 3) := dOk_get (q := (18, .getfield 119, 3)) ok_tb_C_checkWidth_0 10 rfl
theorem d_C_checkWidth_21 : decode prog_1_method_24_code 21 = .ok (.invokevirtual 244, 3) := dOk_get (q := (21, .invokevirtual 244, 3)) ok_tb_C_checkWidth_0 11 rfl
theorem d_C_checkWidth_24 : decode prog_1_method_24_code 24 = .ok (.lcmp, 1) := dOk_get (q := (24, .lcmp, 1)) ok_tb_C_checkWidth_0 12 rfl
theorem d_C_checkWidth_25 : decode prog_1_method_24_code 25 = .ok (.ifCond .ge 10, 3) := dOk_get (q := (25, .ifCond .ge 10, 3)) ok_tb_C_checkWidth_0 13 rfl
theorem d_C_checkWidth_28 : decode prog_1_method_24_code 28 = .ok (.aload_n 1, 1) := dOk_get (q := (28, .aload_n 1, 1)) ok_tb_C_checkWidth_0 14 rfl
theorem d_C_checkWidth_29 : decode prog_1_method_24_code 29 = .ok (.iconst 1, 1) := dOk_get (q := (29, .iconst 1, 1)) ok_tb_C_checkWidth_0 15 rfl
theorem d_C_checkWidth_30 : decode prog_1_method_24_code 30 = .ok (.aload_n 2, 1) := dOk_get (q := (30, .aload_n 2, 1)) ok_tb_C_checkWidth_0 16 rfl
theorem d_C_checkWidth_31 : decode prog_1_method_24_code 31 = .ok (.iconst (-1), 1) := dOk_get (q := (31, .iconst (-1), 1)) ok_tb_C_checkWidth_0 17 rfl
theorem d_C_checkWidth_32 : decode prog_1_method_24_code 32 = .ok (.invokevirtual 248, 3) := dOk_get (q := (32, .invokevirtual 248, 3)) ok_tb_C_checkWidth_0 18 rfl
theorem d_C_checkWidth_35 : decode prog_1_method_24_code 35 = .ok (.return_, 1) := dOk_get (q := (35, .return_, 1)) ok_tb_C_checkWidth_0 19 rfl
def tb_C_valueForOne_0 : List (Nat × Instr × Nat) := [(0, .aload_n 0, 1), (1, .getfield 29, 3), (4, .invokevirtual 66, 3), (7, .iconst 1, 1), (8, .isub, 1), (9, .istore_n 3, 1), (10, .iload_n 3, 1), (11, .ifCond .lt 46, 3), (14, .aload_n 0, 1), (15, .getfield 29, 3), (18, .iload_n 3, 1), (19, .invokevirtual 201, 3), (22, .checkcast 109, 3), (25, .astore 4, 2), (27, .aload 4, 2), (29, .getfield 292, 3), (32, .iload_n 1, 1), (33, .if_icmp .ne 18, 3), (36, .aload 4, 2), (38, .iload_n 2, 1), (39, .invokevirtual 293, 3), (42, .ifCond .eq 9, 3), (45, .aload 4, 2), (47, .getfield 296, 3), (50, .lreturn, 1), (51, .iinc 3 (-1), 3), (54, .goto (-44), 3), (57, .ldc2_w 254, 3), (60, .lreturn, 1)]
theorem ok_tb_C_valueForOne_0 : dOk prog_1_method_31_code tb_C_valueForOne_0 = true := by decide +kernel
theorem d_C_valueForOne_0 : decode prog_1_method_31_code 0 = .ok (.aload_n 0, 1) := dOk_get (q := (0, .aload_n 0, 1)) ok_tb_C_valueForOne_0 0 rfl
theorem d_C_valueForOne_1 : decode prog_1_method_31_code 1 = .ok (.getfield 29, 3) := dOk_get (q := (1, .getfield 29, 3)) ok_tb_C_valueForOne_0 1 rfl
theorem d_C_valueForOne_4 : decode prog_1_method_31_code 4 = .ok (.invokevirtual 66, 3) := dOk_get (q := (4, .invokevirtual 66, 3)) ok_tb_C_valueForOne_0 2 rfl
theorem d_C_valueForOne_7 : decode prog_1_method_31_code 7 = .ok (.iconst 1, 1) := dOk_get (q := (7, .iconst 1, 1)) ok_tb_C_valueForOne_0 3 rfl
theorem d_C_valueForOne_8 : decode prog_1_method_31_code 8 = .ok (.isub, 1) := dOk_get (q := (8, .isub, 1)) ok_tb_C_valueForOne_0 4 rfl
theorem d_C_valueForOne_9 : decode prog_1_method_31_code 9 = .ok (.istore_n 3, 1) := dOk_get (q := (9, .istore_n 3, 1)) ok_tb_C_valueForOne_0 5 rfl
theorem d_C_valueForOne_10 : decode prog_1_method_31_code 10 = .ok (.iload_n 3, 1) := dOk_get (q := (10, .iload_n 3, 1)) ok_tb_C_valueForOne_0 6 rfl
theorem d_C_valueForOne_11 : decode prog_1_method_31_code 11 = .ok (.ifCond .lt 46, 3) := dOk_get (q := (11, .ifCond .lt 46, 3)) ok_tb_C_valueForOne_0 7 rfl
theorem d_C_valueForOne_14 : decode prog_1_method_31_code 14 = .ok (.aload_n 0, 1) := dOk_get (q := (14, .aload_n 0, 1)) ok_tb_C_valueForOne_0 8 rfl
theorem d_C_valueForOne_15 : decode prog_1_method_31_code 15 = .ok (.getfield 29, 3) := dOk_get (q := (15, .getfield 29, 3)) ok_tb_C_valueForOne_0 9 rfl
theorem d_C_valueForOne_18 : decode prog_1_method_31_code 18 = .ok (.iload_n 3, 1) := dOk_get (q := (18, .iload_n 3, 1)) ok_tb_C_valueForOne_0 10 rfl
theorem d_C_valueForOne_19 : decode prog_1_method_31_code 19 = .ok (.invokevirtual 201, 3) := dOk_get (q := (19, .invokevirtual 201, 3)) ok_tb_C_valueForOne_0 11 rfl
theorem d_C_valueForOne_22 : decode prog_1_method_31_code 22 = .ok (.checkcast 109, 3) := dOk_get (q := (22, .checkcast 109, 3)) ok_tb_C_valueForOne_0 12 rfl
theorem d_C_valueForOne_25 : decode prog_1_method_31_code 25 = .ok (.astore 4, 2) := dOk_get (q := (25, .astore 4, 2)) ok_tb_C_valueForOne_0 13 rfl
theorem d_C_valueForOne_27 : decode prog_1_method_31_code 27 = .ok (.aload 4, 2) := dOk_get (q := (27, .aload 4, 2)) ok_tb_C_valueForOne_0 14 rfl
theorem d_C_valueForOne_29 : decode prog_1_method_31_code 29 = .ok (.getfield 292, 3) := dOk_get (q := (29, .getfield 292, 3)) ok_tb_C_valueForOne_0 15 rfl
theorem d_C_valueForOne_32 : decode prog_1_method_31_code 32 = .ok (.iload_n 1, 1) := dOk_get (q := (32, .iload_n 1, 1)) ok_tb_C_valueForOne_0 16 rfl
theorem d_C_valueForOne_33 : decode prog_1_method_31_code 33 = .ok (.if_icmp .ne 18, 3) := dOk_get (q := (33, .if_icmp .ne 18, 3)) ok_tb_C_valueForOne_0 17 rfl
theorem d_C_valueForOne_36 : decode prog_1_method_31_code 36 = .ok (.aload 4, 2) := dOk_get (q := (36, .aload 4, 2)) ok_tb_C_valueForOne_0 18 rfl
theorem d_C_valueForOne_38 : decode prog_1_method_31_code 38 = .ok (.iload_n 2, 1) := dOk_get (q := (38, .iload_n 2, 1)) ok_tb_C_valueForOne_0 19 rfl
theorem d_C_valueForOne_39 : decode prog_1_method_31_code 39 = .ok (.invokevirtual 293, 3) := dOk_get (q := (39, .invokevirtual 293, 3)) ok_tb_C_valueForOne_0 20 rfl
theorem d_C_valueForOne_42 : decode prog_1_method_31_code 42 = .ok (.ifCond .eq 9, 3) := dOk_get (q := (42, .ifCond .eq 9, 3)) ok_tb_C_valueForOne_0 21 rfl
theorem d_C_valueForOne_45 : decode prog_1_method_31_code 45 = .ok (.aload 4, 2) := dOk_get (q := (45, .aload 4, 2)) ok_tb_C_valueForOne_0 22 rfl
theorem d_C_valueForOne_47 : decode prog_1_method_31_code 47 = .ok (.getfield 296, 3) := dOk_get (q := (47, .getfield 296, 3)) ok_tb_C_valueForOne_0 23 rfl
theorem d_C_valueForOne_50 : decode prog_1_method_31_code 50 = .ok (.lreturn, 1) := dOk_get (q := (50, .lreturn, 1)) ok_tb_C_valueForOne_0 24 rfl
theorem d_C_valueForOne_51 : decode prog_1_method_31_code 51 = .ok (.iinc 3 (-1), 3) := dOk_get (q := (51, .iinc 3 (-1), 3)) ok_tb_C_valueForOne_0 25 rfl
theorem d_C_valueForOne_54 : decode prog_1_method_31_code 54 = .ok (.goto (-44), 3) := dOk_get (q := (54, .goto (-44), 3)) ok_tb_C_valueForOne_0 26 rfl
theorem d_C_valueForOne_57 : decode prog_1_method_31_code 57 = .ok (.ldc2_w 254, 3) := dOk_get (q := (57, .ldc2_w 254, 3)) ok_tb_C_valueForOne_0 27 rfl
theorem d_C_valueForOne_60 : decode prog_1_method_31_code 60 = .ok (.lreturn, 1) := dOk_get (q := (60, .lreturn, 1)) ok_tb_C_valueForOne_0 28 rfl
def tb_C_checkRing_0 : List (Nat × Instr × Nat) := [(0, .aload_n 2, 1), (1, .getfield 251, 3), (4, .iconst 2, 1), (5, .if_icmp .ne 15, 3), (8, .aload_n 0, 1), (9, .iconst 4, 1), (10, .aload_n 2, 1), (11, .getfield 119, 3), (14, .invokevirtual 244, 3), (17, .goto 6, 3), (20, .ldc2_w 254, 3), (23, .lstore_n 3, 1), (24, .lload_n 3, 1), (25, .ldc2_w 254, 3), (28, .lcmp, 1), (29, .ifCond .ne 4, 3), (32, .return_, 1), (33, .iconst 0, 1), (34, .istore 5, 2), (36, .iload 5, 2), (38, .aload_n 0, 1), (39, .getfield 25, 3), (42, .invokevirtual 66, 3), (45, .if_icmp .ge 83, 3), (48, .aload_n 0, 1), (49, .getfield 25, 3), (52, .iload 5, 2), (54, .invokevirtual 201, 3), (57, .checkcast 70, 3), (60, .astore 6, 2), (62, .aload 6, 2), (64, .invokevirtual 205, 3), (67, .ifCond .eq 25, 3), (70, .aload 6, 2), (72, .getfield 251, 3), (75, .iconst 1, 1), (76, .if_icmp .ne 16, 3), (79, .aload 6, 2), (81, .aload_n 2, 1), (82, .invokevirtual 256, 3), (85, .ifCond .eq 7, 3), (88, .iconst 1, 1), (89, .goto 4, 3), (92, .iconst 0, 1), (93, .istore 7, 2), (95, .iload 7, 2), (97, .ifCond .eq 25, 3), (100, .aload 6, 2), (102, .aload_n 2, 1), (103, .aload 6, 2), (105, .getfield 99, 3), (108, .aload_n 2, 1), (109, .getfield 99, 3), (112, .lsub, 1), (113, .lload_n 3, 1), (114, .lsub, 1), (115, .invokevirtual 260, 3), (118, .ifCond .eq 4, 3), (121, .return_, 1), (122, .iinc 5 1, 3), (125, .goto (-89), 3), (128, .aload_n 1, 1), (129, .iconst 4, 1), (130, .aload_n 2, 1), (131, .iconst (-1), 1), (132, .invokevirtual 248, 3), (135, .return_, 1)]
theorem ok_tb_C_checkRing_0 : dOk prog_1_method_25_code tb_C_checkRing_0 = true := by decide +kernel
theorem d_C_checkRing_0 : decode prog_1_method_25_code 0 = .ok (.aload_n 2, 1) := dOk_get (q := (0, .aload_n 2, 1)) ok_tb_C_checkRing_0 0 rfl
theorem d_C_checkRing_1 : decode prog_1_method_25_code 1 = .ok (.getfield 251, 3) := dOk_get (q := (1, .getfield 251, 3)) ok_tb_C_checkRing_0 1 rfl
theorem d_C_checkRing_4 : decode prog_1_method_25_code 4 = .ok (.iconst 2, 1) := dOk_get (q := (4, .iconst 2, 1)) ok_tb_C_checkRing_0 2 rfl
theorem d_C_checkRing_5 : decode prog_1_method_25_code 5 = .ok (.if_icmp .ne 15, 3) := dOk_get (q := (5, .if_icmp .ne 15, 3)) ok_tb_C_checkRing_0 3 rfl
theorem d_C_checkRing_8 : decode prog_1_method_25_code 8 = .ok (.aload_n 0, 1) := dOk_get (q := (8, .aload_n 0, 1)) ok_tb_C_checkRing_0 4 rfl
theorem d_C_checkRing_9 : decode prog_1_method_25_code 9 = .ok (.iconst 4, 1) := dOk_get (q := (9, .iconst 4, 1)) ok_tb_C_checkRing_0 5 rfl
theorem d_C_checkRing_10 : decode prog_1_method_25_code 10 = .ok (.aload_n 2, 1) := dOk_get (q := (10, .aload_n 2, 1)) ok_tb_C_checkRing_0 6 rfl
theorem d_C_checkRing_11 : decode prog_1_method_25_code 11 = .ok (.getfield 119, 3) := dOk_get (q := (11, .getfield 119, 3)) ok_tb_C_checkRing_0 7 rfl
theorem d_C_checkRing_14 : decode prog_1_method_25_code 14 = .ok (.invokevirtual 244, 3) := dOk_get (q := (14, .invokevirtual 244, 3)) ok_tb_C_checkRing_0 8 rfl
theorem d_C_checkRing_17 : decode prog_1_method_25_code 17 = .ok (.goto 6, 3) := dOk_get (q := (17, .goto 6, 3)) ok_tb_C_checkRing_0 9 rfl
theorem d_C_checkRing_20 : decode prog_1_method_25_code 20 = .ok (.ldc2_w 254, 3) := dOk_get (q := (20, .ldc2_w 254, 3)) ok_tb_C_checkRing_0 10 rfl
theorem d_C_checkRing_23 : decode prog_1_method_25_code 23 = .ok (.lstore_n 3, 1) := dOk_get (q := (23, .lstore_n 3, 1)) ok_tb_C_checkRing_0 11 rfl
theorem d_C_checkRing_24 : decode prog_1_method_25_code 24 = .ok (.lload_n 3, 1) := dOk_get (q := (24, .lload_n 3, 1)) ok_tb_C_checkRing_0 12 rfl
theorem d_C_checkRing_25 : decode prog_1_method_25_code 25 = .ok (.ldc2_w 254, 3) := dOk_get (q := (25, .ldc2_w 254, 3)) ok_tb_C_checkRing_0 13 rfl
theorem d_C_checkRing_28 : decode prog_1_method_25_code 28 = .ok (.lcmp, 1) := dOk_get (q := (28, .lcmp, 1)) ok_tb_C_checkRing_0 14 rfl
theorem d_C_checkRing_29 : decode prog_1_method_25_code 29 = .ok (.ifCond .ne 4, 3) := dOk_get (q := (29, .ifCond .ne 4, 3)) ok_tb_C_checkRing_0 15 rfl
theorem d_C_checkRing_32 : decode prog_1_method_25_code 32 = .ok (.return_, 1) := dOk_get (q := (32, .return_, 1)) ok_tb_C_checkRing_0 16 rfl
theorem d_C_checkRing_33 : decode prog_1_method_25_code 33 = .ok (.iconst 0, 1) := dOk_get (q := (33, .iconst 0, 1)) ok_tb_C_checkRing_0 17 rfl
theorem d_C_checkRing_34 : decode prog_1_method_25_code 34 = .ok (.istore 5, 2) := dOk_get (q := (34, .istore 5, 2)) ok_tb_C_checkRing_0 18 rfl
theorem d_C_checkRing_36 : decode prog_1_method_25_code 36 = .ok (.iload 5, 2) := dOk_get (q := (36, .iload 5, 2)) ok_tb_C_checkRing_0 19 rfl
theorem d_C_checkRing_38 : decode prog_1_method_25_code 38 = .ok (.aload_n 0, 1) := dOk_get (q := (38, .aload_n 0, 1)) ok_tb_C_checkRing_0 20 rfl
theorem d_C_checkRing_39 : decode prog_1_method_25_code 39 = .ok (.getfield 25, 3) := dOk_get (q := (39, .getfield 25, 3)) ok_tb_C_checkRing_0 21 rfl
theorem d_C_checkRing_42 : decode prog_1_method_25_code 42 = .ok (.invokevirtual 66, 3) := dOk_get (q := (42, .invokevirtual 66, 3)) ok_tb_C_checkRing_0 22 rfl
theorem d_C_checkRing_45 : decode prog_1_method_25_code 45 = .ok (.if_icmp .ge 83, 3) := dOk_get (q := (45, .if_icmp .ge 83, 3)) ok_tb_C_checkRing_0 23 rfl
theorem d_C_checkRing_48 : decode prog_1_method_25_code 48 = .ok (.aload_n 0, 1) := dOk_get (q := (48, .aload_n 0, 1)) ok_tb_C_checkRing_0 24 rfl
theorem d_C_checkRing_49 : decode prog_1_method_25_code 49 = .ok (.getfield 25, 3) := dOk_get (q := (49, .getfield 25, 3)) ok_tb_C_checkRing_0 25 rfl
theorem d_C_checkRing_52 : decode prog_1_method_25_code 52 = .ok (.iload 5, 2) := dOk_get (q := (52, .iload 5, 2)) ok_tb_C_checkRing_0 26 rfl
theorem d_C_checkRing_54 : decode prog_1_method_25_code 54 = .ok (.invokevirtual 201, 3) := dOk_get (q := (54, .invokevirtual 201, 3)) ok_tb_C_checkRing_0 27 rfl
theorem d_C_checkRing_57 : decode prog_1_method_25_code 57 = .ok (.checkcast 70, 3) := dOk_get (q := (57, .checkcast 70, 3)) ok_tb_C_checkRing_0 28 rfl
theorem d_C_checkRing_60 : decode prog_1_method_25_code 60 = .ok (.astore 6, 2) := dOk_get (q := (60, .astore 6, 2)) ok_tb_C_checkRing_0 29 rfl
theorem d_C_checkRing_62 : decode prog_1_method_25_code 62 = .ok (.aload 6, 2) := dOk_get (q := (62, .aload 6, 2)) ok_tb_C_checkRing_0 30 rfl
theorem d_C_checkRing_64 : decode prog_1_method_25_code 64 = .ok (.invokevirtual 205, 3) := dOk_get (q := (64, .invokevirtual 205, 3)) ok_tb_C_checkRing_0 31 rfl
theorem d_C_checkRing_67 : decode prog_1_method_25_code 67 = .ok (.ifCond .eq 25, 3) := dOk_get (q := (67, .ifCond .eq 25, 3)) ok_tb_C_checkRing_0 32 rfl
theorem d_C_checkRing_70 : decode prog_1_method_25_code 70 = .ok (.aload 6, 2) := dOk_get (q := (70, .aload 6, 2)) ok_tb_C_checkRing_0 33 rfl
theorem d_C_checkRing_72 : decode prog_1_method_25_code 72 = .ok (.getfield 251, 3) := dOk_get (q := (72, .getfield 251, 3)) ok_tb_C_checkRing_0 34 rfl
theorem d_C_checkRing_75 : decode prog_1_method_25_code 75 = .ok (.iconst 1, 1) := dOk_get (q := (75, .iconst 1, 1)) ok_tb_C_checkRing_0 35 rfl
theorem d_C_checkRing_76 : decode prog_1_method_25_code 76 = .ok (.if_icmp .ne 16, 3) := dOk_get (q := (76, .if_icmp .ne 16, 3)) ok_tb_C_checkRing_0 36 rfl
theorem d_C_checkRing_79 : decode prog_1_method_25_code 79 = .ok (.aload 6, 2) := dOk_get (q := (79, .aload 6, 2)) ok_tb_C_checkRing_0 37 rfl
theorem d_C_checkRing_81 : decode prog_1_method_25_code 81 = .ok (.aload_n 2, 1) := dOk_get (q := (81, .aload_n 2, 1)) ok_tb_C_checkRing_0 38 rfl
theorem d_C_checkRing_82 : decode prog_1_method_25_code 82 = .ok (.invokevirtual 256, 3) := dOk_get (q := (82, .invokevirtual 256, 3)) ok_tb_C_checkRing_0 39 rfl
theorem d_C_checkRing_85 : decode prog_1_method_25_code 85 = .ok (.ifCond .eq 7, 3) := dOk_get (q := (85, .ifCond .eq 7, 3)) ok_tb_C_checkRing_0 40 rfl
theorem d_C_checkRing_88 : decode prog_1_method_25_code 88 = .ok (.iconst 1, 1) := dOk_get (q := (88, .iconst 1, 1)) ok_tb_C_checkRing_0 41 rfl
theorem d_C_checkRing_89 : decode prog_1_method_25_code 89 = .ok (.goto 4, 3) := dOk_get (q := (89, .goto 4, 3)) ok_tb_C_checkRing_0 42 rfl
theorem d_C_checkRing_92 : decode prog_1_method_25_code 92 = .ok (.iconst 0, 1) := dOk_get (q := (92, .iconst 0, 1)) ok_tb_C_checkRing_0 43 rfl
theorem d_C_checkRing_93 : decode prog_1_method_25_code 93 = .ok (.istore 7, 2) := dOk_get (q := (93, .istore 7, 2)) ok_tb_C_checkRing_0 44 rfl
theorem d_C_checkRing_95 : decode prog_1_method_25_code 95 = .ok (.iload 7, 2) := dOk_get (q := (95, .iload 7, 2)) ok_tb_C_checkRing_0 45 rfl
theorem d_C_checkRing_97 : decode prog_1_method_25_code 97 = .ok (.ifCond .eq 25, 3) := dOk_get (q := (97, .ifCond .eq 25, 3)) ok_tb_C_checkRing_0 46 rfl
theorem d_C_checkRing_100 : decode prog_1_method_25_code 100 = .ok (.aload 6, 2) := dOk_get (q := (100, .aload 6, 2)) ok_tb_C_checkRing_0 47 rfl
theorem d_C_checkRing_102 : decode prog_1_method_25_code 102 = .ok (.aload_n 2, 1) := dOk_get (q := (102, .aload_n 2, 1)) ok_tb_C_checkRing_0 48 rfl
theorem d_C_checkRing_103 : decode prog_1_method_25_code 103 = .ok (.aload 6, 2) := dOk_get (q := (103, .aload 6, 2)) ok_tb_C_checkRing_0 49 rfl
theorem d_C_checkRing_105 : decode prog_1_method_25_code 105 = .ok (.getfield 99, 3) := dOk_get (q := (105, .getfield 99, 3)) ok_tb_C_checkRing_0 50 rfl
theorem d_C_checkRing_108 : decode prog_1_method_25_code 108 = .ok (.aload_n 2, 1) := dOk_get (q := (108, .aload_n 2, 1)) ok_tb_C_checkRing_0 51 rfl
theorem d_C_checkRing_109 : decode prog_1_method_25_code 109 = .ok (.getfield 99, 3) := dOk_get (q := (109, .getfield 99, 3)) ok_tb_C_checkRing_0 52 rfl
theorem d_C_checkRing_112 : decode prog_1_method_25_code 112 = .ok (.lsub, 1) := dOk_get (q := (112, .lsub, 1)) ok_tb_C_checkRing_0 53 rfl
theorem d_C_checkRing_113 : decode prog_1_method_25_code 113 = .ok (.lload_n 3, 1) := dOk_get (q := (113, .lload_n 3, 1)) ok_tb_C_checkRing_0 54 rfl
theorem d_C_checkRing_114 : decode prog_1_method_25_code 114 = .ok (.lsub, 1) := dOk_get (q := (114, .lsub, 1)) ok_tb_C_checkRing_0 55 rfl
theorem d_C_checkRing_115 : decode prog_1_method_25_code 115 = .ok (.invokevirtual 260, 3) := dOk_get (q := (115, .invokevirtual 260, 3)) ok_tb_C_checkRing_0 56 rfl
theorem d_C_checkRing_118 : decode prog_1_method_25_code 118 = .ok (.ifCond .eq 4, 3) := dOk_get (q := (118, .ifCond .eq 4, 3)) ok_tb_C_checkRing_0 57 rfl
theorem d_C_checkRing_121 : decode prog_1_method_25_code 121 = .ok (.return_, 1) := dOk_get (q := (121, .return_, 1)) ok_tb_C_checkRing_0 58 rfl
theorem d_C_checkRing_122 : decode prog_1_method_25_code 122 = .ok (.iinc 5 1, 3) := dOk_get (q := (122, .iinc 5 1, 3)) ok_tb_C_checkRing_0 59 rfl
theorem d_C_checkRing_125 : decode prog_1_method_25_code 125 = .ok (.goto (-89), 3) := dOk_get (q := (125, .goto (-89), 3)) ok_tb_C_checkRing_0 60 rfl
theorem d_C_checkRing_128 : decode prog_1_method_25_code 128 = .ok (.aload_n 1, 1) := dOk_get (q := (128, .aload_n 1, 1)) ok_tb_C_checkRing_0 61 rfl
theorem d_C_checkRing_129 : decode prog_1_method_25_code 129 = .ok (.iconst 4, 1) := dOk_get (q := (129, .iconst 4, 1)) ok_tb_C_checkRing_0 62 rfl
theorem d_C_checkRing_130 : decode prog_1_method_25_code 130 = .ok (.aload_n 2, 1) := dOk_get (q := (130, .aload_n 2, 1)) ok_tb_C_checkRing_0 63 rfl
theorem d_C_checkRing_131 : decode prog_1_method_25_code 131 = .ok (.iconst (-1), 1) := dOk_get (q := (131, .iconst (-1), 1)) ok_tb_C_checkRing_0 64 rfl
theorem d_C_checkRing_132 : decode prog_1_method_25_code 132 = .ok (.invokevirtual 248, 3) := dOk_get (q := (132, .invokevirtual 248, 3)) ok_tb_C_checkRing_0 65 rfl
theorem d_C_checkRing_135 : decode prog_1_method_25_code 135 = .ok (.return_, 1) := dOk_get (q := (135, .return_, 1)) ok_tb_C_checkRing_0 66 rfl
def tb_C_checkEnds_0 : List (Nat × Instr × Nat) := [(0, .aload_n 2, 1), (1, .getfield 251, 3), (4, .ifCond .ne 19, 3), (7, .aload_n 0, 1), (8, .iconst 5, 1), (9, .aload_n 2, 1), (10, .getfield 119, 3), (13, .invokevirtual 244, 3), (16, .ldc2_w 254, 3), (19, .lcmp, 1), (20, .ifCond .ne 4, 3), (23, .return_, 1), (24, .iconst 0, 1), (25, .aload_n 2, 1), (26, .getfield 96, 3), (29, .iconst 1, 1), (30, .isub, 1), (31, .invokestatic 15, 3), (34, .istore_n 3, 1), (35, .aload_n 0, 1), (36, .aload_n 2, 1), (37, .iconst 0, 1), (38, .invokevirtual 264, 3), (41, .ifCond .ne 12, 3), (44, .aload_n 0, 1), (45, .aload_n 2, 1), (46, .iload_n 3, 1), (47, .invokevirtual 264, 3), (50, .ifCond .eq 10, 3), (53, .aload_n 1, 1), (54, .iconst 5, 1), (55, .aload_n 2, 1), (56, .iconst (-1), 1), (57, .invokevirtual 248, 3), (60, .return_, 1)]
theorem ok_tb_C_checkEnds_0 : dOk prog_1_method_26_code tb_C_checkEnds_0 = true := by decide +kernel
theorem d_C_checkEnds_0 : decode prog_1_method_26_code 0 = .ok (.aload_n 2, 1) := dOk_get (q := (0, .aload_n 2, 1)) ok_tb_C_checkEnds_0 0 rfl
theorem d_C_checkEnds_1 : decode prog_1_method_26_code 1 = .ok (.getfield 251, 3) := dOk_get (q := (1, .getfield 251, 3)) ok_tb_C_checkEnds_0 1 rfl
theorem d_C_checkEnds_4 : decode prog_1_method_26_code 4 = .ok (.ifCond .ne 19, 3) := dOk_get (q := (4, .ifCond .ne 19, 3)) ok_tb_C_checkEnds_0 2 rfl
theorem d_C_checkEnds_7 : decode prog_1_method_26_code 7 = .ok (.aload_n 0, 1) := dOk_get (q := (7, .aload_n 0, 1)) ok_tb_C_checkEnds_0 3 rfl
theorem d_C_checkEnds_8 : decode prog_1_method_26_code 8 = .ok (.iconst 5, 1) := dOk_get (q := (8, .iconst 5, 1)) ok_tb_C_checkEnds_0 4 rfl
theorem d_C_checkEnds_9 : decode prog_1_method_26_code 9 = .ok (.aload_n 2, 1) := dOk_get (q := (9, .aload_n 2, 1)) ok_tb_C_checkEnds_0 5 rfl
theorem d_C_checkEnds_10 : decode prog_1_method_26_code 10 = .ok (.getfield 119, 3) := dOk_get (q := (10, .getfield 119, 3)) ok_tb_C_checkEnds_0 6 rfl
theorem d_C_checkEnds_13 : decode prog_1_method_26_code 13 = .ok (.invokevirtual 244, 3) := dOk_get (q := (13, .invokevirtual 244, 3)) ok_tb_C_checkEnds_0 7 rfl
theorem d_C_checkEnds_16 : decode prog_1_method_26_code 16 = .ok (.ldc2_w 254, 3) := dOk_get (q := (16, .ldc2_w 254, 3)) ok_tb_C_checkEnds_0 8 rfl
theorem d_C_checkEnds_19 : decode prog_1_method_26_code 19 = .ok (.lcmp, 1) := dOk_get (q := (19, .lcmp, 1)) ok_tb_C_checkEnds_0 9 rfl
theorem d_C_checkEnds_20 : decode prog_1_method_26_code 20 = .ok (.ifCond .ne 4, 3) := dOk_get (q := (20, .ifCond .ne 4, 3)) ok_tb_C_checkEnds_0 10 rfl
theorem d_C_checkEnds_23 : decode prog_1_method_26_code 23 = .ok (.return_, 1) := dOk_get (q := (23, .return_, 1)) ok_tb_C_checkEnds_0 11 rfl
theorem d_C_checkEnds_24 : decode prog_1_method_26_code 24 = .ok (.iconst 0, 1) := dOk_get (q := (24, .iconst 0, 1)) ok_tb_C_checkEnds_0 12 rfl
theorem d_C_checkEnds_25 : decode prog_1_method_26_code 25 = .ok (.aload_n 2, 1) := dOk_get (q := (25, .aload_n 2, 1)) ok_tb_C_checkEnds_0 13 rfl
theorem d_C_checkEnds_26 : decode prog_1_method_26_code 26 = .ok (.getfield 96, 3) := dOk_get (q := (26, .getfield 96, 3)) ok_tb_C_checkEnds_0 14 rfl
theorem d_C_checkEnds_29 : decode prog_1_method_26_code 29 = .ok (.iconst 1, 1) := dOk_get (q := (29, .iconst 1, 1)) ok_tb_C_checkEnds_0 15 rfl
theorem d_C_checkEnds_30 : decode prog_1_method_26_code 30 = .ok (.isub, 1) := dOk_get (q := (30, .isub, 1)) ok_tb_C_checkEnds_0 16 rfl
theorem d_C_checkEnds_31 : decode prog_1_method_26_code 31 = .ok (.invokestatic 15, 3) := dOk_get (q := (31, .invokestatic 15, 3)) ok_tb_C_checkEnds_0 17 rfl
theorem d_C_checkEnds_34 : decode prog_1_method_26_code 34 = .ok (.istore_n 3, 1) := dOk_get (q := (34, .istore_n 3, 1)) ok_tb_C_checkEnds_0 18 rfl
theorem d_C_checkEnds_35 : decode prog_1_method_26_code 35 = .ok (.aload_n 0, 1) := dOk_get (q := (35, .aload_n 0, 1)) ok_tb_C_checkEnds_0 19 rfl
theorem d_C_checkEnds_36 : decode prog_1_method_26_code 36 = .ok (.aload_n 2, 1) := dOk_get (q := (36, .aload_n 2, 1)) ok_tb_C_checkEnds_0 20 rfl
theorem d_C_checkEnds_37 : decode prog_1_method_26_code 37 = .ok (.iconst 0, 1) := dOk_get (q := (37, .iconst 0, 1)) ok_tb_C_checkEnds_0 21 rfl
theorem d_C_checkEnds_38 : decode prog_1_method_26_code 38 = .ok (.invokevirtual 264, 3) := dOk_get (q := (38, .invokevirtual 264, 3)) ok_tb_C_checkEnds_0 22 rfl
theorem d_C_checkEnds_41 : decode prog_1_method_26_code 41 = .ok (.ifCond .ne 12, 3) := dOk_get (q := (41, .ifCond .ne 12, 3)) ok_tb_C_checkEnds_0 23 rfl
theorem d_C_checkEnds_44 : decode prog_1_method_26_code 44 = .ok (.aload_n 0, 1) := dOk_get (q := (44, .aload_n 0, 1)) ok_tb_C_checkEnds_0 24 rfl
theorem d_C_checkEnds_45 : decode prog_1_method_26_code 45 = .ok (.aload_n 2, 1) := dOk_get (q := (45, .aload_n 2, 1)) ok_tb_C_checkEnds_0 25 rfl
theorem d_C_checkEnds_46 : decode prog_1_method_26_code 46 = .ok (.iload_n 3, 1) := dOk_get (q := (46, .iload_n 3, 1)) ok_tb_C_checkEnds_0 26 rfl
theorem d_C_checkEnds_47 : decode prog_1_method_26_code 47 = .ok (.invokevirtual 264, 3) := dOk_get (q := (47, .invokevirtual 264, 3)) ok_tb_C_checkEnds_0 27 rfl
theorem d_C_checkEnds_50 : decode prog_1_method_26_code 50 = .ok (.ifCond .eq 10, 3) := dOk_get (q := (50, .ifCond .eq 10, 3)) ok_tb_C_checkEnds_0 28 rfl
theorem d_C_checkEnds_53 : decode prog_1_method_26_code 53 = .ok (.aload_n 1, 1) := dOk_get (q := (53, .aload_n 1, 1)) ok_tb_C_checkEnds_0 29 rfl
theorem d_C_checkEnds_54 : decode prog_1_method_26_code 54 = .ok (.iconst 5, 1) := dOk_get (q := (54, .iconst 5, 1)) ok_tb_C_checkEnds_0 30 rfl
theorem d_C_checkEnds_55 : decode prog_1_method_26_code 55 = .ok (.aload_n 2, 1) := dOk_get (q := (55, .aload_n 2, 1)) ok_tb_C_checkEnds_0 31 rfl
theorem d_C_checkEnds_56 : decode prog_1_method_26_code 56 = .ok (.iconst (-1), 1) := dOk_get (q := (56, .iconst (-1), 1)) ok_tb_C_checkEnds_0 32 rfl
theorem d_C_checkEnds_57 : decode prog_1_method_26_code 57 = .ok (.invokevirtual 248, 3) := dOk_get (q := (57, .invokevirtual 248, 3)) ok_tb_C_checkEnds_0 33 rfl
theorem d_C_checkEnds_60 : decode prog_1_method_26_code 60 = .ok (.return_, 1) := dOk_get (q := (60, .return_, 1)) ok_tb_C_checkEnds_0 34 rfl
def tb_C_isLoose_0 : List (Nat × Instr × Nat) := [(0, .iconst 0, 1), (1, .istore_n 3, 1), (2, .iload_n 3, 1), (3, .aload_n 0, 1), (4, .getfield 25, 3), (7, .invokevirtual 66, 3), (10, .if_icmp .ge 106, 3), (13, .aload_n 0, 1), (14, .getfield 25, 3), (17, .iload_n 3, 1), (18, .invokevirtual 201, 3), (21, .checkcast 70, 3), (24, .astore 4, 2), (26, .iload_n 3, 1), (27, .aload_n 1, 1), (28, .getfield 268, 3), (31, .if_icmp .eq 44, 3), (34, .aload 4, 2), (36, .invokevirtual 205, 3), (39, .ifCond .eq 36, 3), (42, .aload 4, 2), (44, .invokevirtual 239, 3), (47, .ifCond .eq 28, 3), (50, .aload 4, 2), (52, .getfield 271, 3), (55, .aload_n 1, 1), (56, .getfield 271, 3), (59, .if_icmp .ne 16, 3), (62, .aload 4, 2), (64, .aload_n 1, 1), (65, .invokevirtual 256, 3), (68, .ifCond .eq 7, 3), (71, .iconst 1, 1), (72, .goto 4, 3), (75, .iconst 0, 1), (76, .istore 5, 2), (78, .iload 5, 2), (80, .ifCond .eq 30, 3), (83, .aload 4, 2), (85, .aload_n 1, 1), (86, .getfield 178, 3), (89, .iload_n 2, 1), (90, .laload, 1), (91, .aload_n 1, 1), (92, .getfield 182, 3), (95, .iload_n 2, 1), (96, .laload, 1), (97, .aload 4, 2), (99, .getfield 99, 3), (102, .invokevirtual 274, 3), (105, .ifCond .eq 5, 3), (108, .iconst 0, 1), (109, .ireturn, 1), (110, .iinc 3 1, 3), (113, .goto (-111), 3), (116, .iconst 1, 1), (117, .ireturn, 1)]
theorem ok_tb_C_isLoose_0 : dOk prog_1_method_27_code tb_C_isLoose_0 = true := by decide +kernel
theorem d_C_isLoose_0 : decode prog_1_method_27_code 0 = .ok (.iconst 0, 1) := dOk_get (q := (0, .iconst 0, 1)) ok_tb_C_isLoose_0 0 rfl
theorem d_C_isLoose_1 : decode prog_1_method_27_code 1 = .ok (.istore_n 3, 1) := dOk_get (q := (1, .istore_n 3, 1)) ok_tb_C_isLoose_0 1 rfl
theorem d_C_isLoose_2 : decode prog_1_method_27_code 2 = .ok (.iload_n 3, 1) := dOk_get (q := (2, .iload_n 3, 1)) ok_tb_C_isLoose_0 2 rfl
theorem d_C_isLoose_3 : decode prog_1_method_27_code 3 = .ok (.aload_n 0, 1) := dOk_get (q := (3, .aload_n 0, 1)) ok_tb_C_isLoose_0 3 rfl
theorem d_C_isLoose_4 : decode prog_1_method_27_code 4 = .ok (.getfield 25, 3) := dOk_get (q := (4, .getfield 25, 3)) ok_tb_C_isLoose_0 4 rfl
theorem d_C_isLoose_7 : decode prog_1_method_27_code 7 = .ok (.invokevirtual 66, 3) := dOk_get (q := (7, .invokevirtual 66, 3)) ok_tb_C_isLoose_0 5 rfl
theorem d_C_isLoose_10 : decode prog_1_method_27_code 10 = .ok (.if_icmp .ge 106, 3) := dOk_get (q := (10, .if_icmp .ge 106, 3)) ok_tb_C_isLoose_0 6 rfl
theorem d_C_isLoose_13 : decode prog_1_method_27_code 13 = .ok (.aload_n 0, 1) := dOk_get (q := (13, .aload_n 0, 1)) ok_tb_C_isLoose_0 7 rfl
theorem d_C_isLoose_14 : decode prog_1_method_27_code 14 = .ok (.getfield 25, 3) := dOk_get (q := (14, .getfield 25, 3)) ok_tb_C_isLoose_0 8 rfl
theorem d_C_isLoose_17 : decode prog_1_method_27_code 17 = .ok (.iload_n 3, 1) := dOk_get (q := (17, .iload_n 3, 1)) ok_tb_C_isLoose_0 9 rfl
theorem d_C_isLoose_18 : decode prog_1_method_27_code 18 = .ok (.invokevirtual 201, 3) := dOk_get (q := (18, .invokevirtual 201, 3)) ok_tb_C_isLoose_0 10 rfl
theorem d_C_isLoose_21 : decode prog_1_method_27_code 21 = .ok (.checkcast 70, 3) := dOk_get (q := (21, .checkcast 70, 3)) ok_tb_C_isLoose_0 11 rfl
theorem d_C_isLoose_24 : decode prog_1_method_27_code 24 = .ok (.astore 4, 2) := dOk_get (q := (24, .astore 4, 2)) ok_tb_C_isLoose_0 12 rfl
theorem d_C_isLoose_26 : decode prog_1_method_27_code 26 = .ok (.iload_n 3, 1) := dOk_get (q := (26, .iload_n 3, 1)) ok_tb_C_isLoose_0 13 rfl
theorem d_C_isLoose_27 : decode prog_1_method_27_code 27 = .ok (.aload_n 1, 1) := dOk_get (q := (27, .aload_n 1, 1)) ok_tb_C_isLoose_0 14 rfl
theorem d_C_isLoose_28 : decode prog_1_method_27_code 28 = .ok (.getfield 268, 3) := dOk_get (q := (28, .getfield 268, 3)) ok_tb_C_isLoose_0 15 rfl
theorem d_C_isLoose_31 : decode prog_1_method_27_code 31 = .ok (.if_icmp .eq 44, 3) := dOk_get (q := (31, .if_icmp .eq 44, 3)) ok_tb_C_isLoose_0 16 rfl
theorem d_C_isLoose_34 : decode prog_1_method_27_code 34 = .ok (.aload 4, 2) := dOk_get (q := (34, .aload 4, 2)) ok_tb_C_isLoose_0 17 rfl
theorem d_C_isLoose_36 : decode prog_1_method_27_code 36 = .ok (.invokevirtual 205, 3) := dOk_get (q := (36, .invokevirtual 205, 3)) ok_tb_C_isLoose_0 18 rfl
theorem d_C_isLoose_39 : decode prog_1_method_27_code 39 = .ok (.ifCond .eq 36, 3) := dOk_get (q := (39, .ifCond .eq 36, 3)) ok_tb_C_isLoose_0 19 rfl
theorem d_C_isLoose_42 : decode prog_1_method_27_code 42 = .ok (.aload 4, 2) := dOk_get (q := (42, .aload 4, 2)) ok_tb_C_isLoose_0 20 rfl
theorem d_C_isLoose_44 : decode prog_1_method_27_code 44 = .ok (.invokevirtual 239, 3) := dOk_get (q := (44, .invokevirtual 239, 3)) ok_tb_C_isLoose_0 21 rfl
theorem d_C_isLoose_47 : decode prog_1_method_27_code 47 = .ok (.ifCond .eq 28, 3) := dOk_get (q := (47, .ifCond .eq 28, 3)) ok_tb_C_isLoose_0 22 rfl
theorem d_C_isLoose_50 : decode prog_1_method_27_code 50 = .ok (.aload 4, 2) := dOk_get (q := (50, .aload 4, 2)) ok_tb_C_isLoose_0 23 rfl
theorem d_C_isLoose_52 : decode prog_1_method_27_code 52 = .ok (.getfield 271, 3) := dOk_get (q := (52, .getfield 271, 3)) ok_tb_C_isLoose_0 24 rfl
theorem d_C_isLoose_55 : decode prog_1_method_27_code 55 = .ok (.aload_n 1, 1) := dOk_get (q := (55, .aload_n 1, 1)) ok_tb_C_isLoose_0 25 rfl
theorem d_C_isLoose_56 : decode prog_1_method_27_code 56 = .ok (.getfield 271, 3) := dOk_get (q := (56, .getfield 271, 3)) ok_tb_C_isLoose_0 26 rfl
theorem d_C_isLoose_59 : decode prog_1_method_27_code 59 = .ok (.if_icmp .ne 16, 3) := dOk_get (q := (59, .if_icmp .ne 16, 3)) ok_tb_C_isLoose_0 27 rfl
theorem d_C_isLoose_62 : decode prog_1_method_27_code 62 = .ok (.aload 4, 2) := dOk_get (q := (62, .aload 4, 2)) ok_tb_C_isLoose_0 28 rfl
theorem d_C_isLoose_64 : decode prog_1_method_27_code 64 = .ok (.aload_n 1, 1) := dOk_get (q := (64, .aload_n 1, 1)) ok_tb_C_isLoose_0 29 rfl
theorem d_C_isLoose_65 : decode prog_1_method_27_code 65 = .ok (.invokevirtual 256, 3) := dOk_get (q := (65, .invokevirtual 256, 3)) ok_tb_C_isLoose_0 30 rfl
theorem d_C_isLoose_68 : decode prog_1_method_27_code 68 = .ok (.ifCond .eq 7, 3) := dOk_get (q := (68, .ifCond .eq 7, 3)) ok_tb_C_isLoose_0 31 rfl
theorem d_C_isLoose_71 : decode prog_1_method_27_code 71 = .ok (.iconst 1, 1) := dOk_get (q := (71, .iconst 1, 1)) ok_tb_C_isLoose_0 32 rfl
theorem d_C_isLoose_72 : decode prog_1_method_27_code 72 = .ok (.goto 4, 3) := dOk_get (q := (72, .goto 4, 3)) ok_tb_C_isLoose_0 33 rfl
theorem d_C_isLoose_75 : decode prog_1_method_27_code 75 = .ok (.iconst 0, 1) := dOk_get (q := (75, .iconst 0, 1)) ok_tb_C_isLoose_0 34 rfl
theorem d_C_isLoose_76 : decode prog_1_method_27_code 76 = .ok (.istore 5, 2) := dOk_get (q := (76, .istore 5, 2)) ok_tb_C_isLoose_0 35 rfl
theorem d_C_isLoose_78 : decode prog_1_method_27_code 78 = .ok (.iload 5, 2) := dOk_get (q := (78, .iload 5, 2)) ok_tb_C_isLoose_0 36 rfl
theorem d_C_isLoose_80 : decode prog_1_method_27_code 80 = .ok (.ifCond .eq 30, 3) := dOk_get (q := (80, .ifCond .eq 30, 3)) ok_tb_C_isLoose_0 37 rfl
theorem d_C_isLoose_83 : decode prog_1_method_27_code 83 = .ok (.aload 4, 2) := dOk_get (q := (83, .aload 4, 2)) ok_tb_C_isLoose_0 38 rfl
theorem d_C_isLoose_85 : decode prog_1_method_27_code 85 = .ok (.aload_n 1, 1) := dOk_get (q := (85, .aload_n 1, 1)) ok_tb_C_isLoose_0 39 rfl
theorem d_C_isLoose_86 : decode prog_1_method_27_code 86 = .ok (.getfield 178, 3) := dOk_get (q := (86, .getfield 178, 3)) ok_tb_C_isLoose_0 40 rfl
theorem d_C_isLoose_89 : decode prog_1_method_27_code 89 = .ok (.iload_n 2, 1) := dOk_get (q := (89, .iload_n 2, 1)) ok_tb_C_isLoose_0 41 rfl
theorem d_C_isLoose_90 : decode prog_1_method_27_code 90 = .ok (.laload, 1) := dOk_get (q := (90, .laload, 1)) ok_tb_C_isLoose_0 42 rfl
theorem d_C_isLoose_91 : decode prog_1_method_27_code 91 = .ok (.aload_n 1, 1) := dOk_get (q := (91, .aload_n 1, 1)) ok_tb_C_isLoose_0 43 rfl
theorem d_C_isLoose_92 : decode prog_1_method_27_code 92 = .ok (.getfield 182, 3) := dOk_get (q := (92, .getfield 182, 3)) ok_tb_C_isLoose_0 44 rfl
theorem d_C_isLoose_95 : decode prog_1_method_27_code 95 = .ok (.iload_n 2, 1) := dOk_get (q := (95, .iload_n 2, 1)) ok_tb_C_isLoose_0 45 rfl
theorem d_C_isLoose_96 : decode prog_1_method_27_code 96 = .ok (.laload, 1) := dOk_get (q := (96, .laload, 1)) ok_tb_C_isLoose_0 46 rfl
theorem d_C_isLoose_97 : decode prog_1_method_27_code 97 = .ok (.aload 4, 2) := dOk_get (q := (97, .aload 4, 2)) ok_tb_C_isLoose_0 47 rfl
theorem d_C_isLoose_99 : decode prog_1_method_27_code 99 = .ok (.getfield 99, 3) := dOk_get (q := (99, .getfield 99, 3)) ok_tb_C_isLoose_0 48 rfl
theorem d_C_isLoose_102 : decode prog_1_method_27_code 102 = .ok (.invokevirtual 274, 3) := dOk_get (q := (102, .invokevirtual 274, 3)) ok_tb_C_isLoose_0 49 rfl
theorem d_C_isLoose_105 : decode prog_1_method_27_code 105 = .ok (.ifCond .eq 5, 3) := dOk_get (q := (105, .ifCond .eq 5, 3)) ok_tb_C_isLoose_0 50 rfl
theorem d_C_isLoose_108 : decode prog_1_method_27_code 108 = .ok (.iconst 0, 1) := dOk_get (q := (108, .iconst 0, 1)) ok_tb_C_isLoose_0 51 rfl
theorem d_C_isLoose_109 : decode prog_1_method_27_code 109 = .ok (.ireturn, 1) := dOk_get (q := (109, .ireturn, 1)) ok_tb_C_isLoose_0 52 rfl
theorem d_C_isLoose_110 : decode prog_1_method_27_code 110 = .ok (.iinc 3 1, 3) := dOk_get (q := (110, .iinc 3 1, 3)) ok_tb_C_isLoose_0 53 rfl
theorem d_C_isLoose_113 : decode prog_1_method_27_code 113 = .ok (.goto (-111), 3) := dOk_get (q := (113, .goto (-111), 3)) ok_tb_C_isLoose_0 54 rfl
theorem d_C_isLoose_116 : decode prog_1_method_27_code 116 = .ok (.iconst 1, 1) := dOk_get (q := (116, .iconst 1, 1)) ok_tb_C_isLoose_0 55 rfl
theorem d_C_isLoose_117 : decode prog_1_method_27_code 117 = .ok (.ireturn, 1) := dOk_get (q := (117, .ireturn, 1)) ok_tb_C_isLoose_0 56 rfl
def tb_C_checkAcute_0 : List (Nat × Instr × Nat) := [(0, .aload_n 2, 1), (1, .getfield 251, 3), (4, .ifCond .ne 35, 3), (7, .aload_n 0, 1), (8, .bipush 6, 2), (10, .aload_n 2, 1), (11, .getfield 119, 3), (14, .invokevirtual 244, 3), (17, .ldc2_w 254, 3), (20, .lcmp, 1), (21, .ifCond .eq 18, 3), (24, .aload_n 2, 1), (25, .invokevirtual 278, 3), (28, .ifCond .eq 11, 3), (31, .aload_n 1, 1), (32, .bipush 6, 2), (34, .aload_n 2, 1), (35, .iconst (-1), 1), (36, .invokevirtual 248, 3), (39, .return_, 1)]
theorem ok_tb_C_checkAcute_0 : dOk prog_1_method_28_code tb_C_checkAcute_0 = true := by decide +kernel
theorem d_C_checkAcute_0 : decode prog_1_method_28_code 0 = .ok (.aload_n 2, 1) := dOk_get (q := (0, .aload_n 2, 1)) ok_tb_C_checkAcute_0 0 rfl
theorem d_C_checkAcute_1 : decode prog_1_method_28_code 1 = .ok (.getfield 251, 3) := dOk_get (q := (1, .getfield 251, 3)) ok_tb_C_checkAcute_0 1 rfl
theorem d_C_checkAcute_4 : decode prog_1_method_28_code 4 = .ok (.ifCond .ne 35, 3) := dOk_get (q := (4, .ifCond .ne 35, 3)) ok_tb_C_checkAcute_0 2 rfl
theorem d_C_checkAcute_7 : decode prog_1_method_28_code 7 = .ok (.aload_n 0, 1) := dOk_get (q := (7, .aload_n 0, 1)) ok_tb_C_checkAcute_0 3 rfl
theorem d_C_checkAcute_8 : decode prog_1_method_28_code 8 = .ok (.bipush 6, 2) := dOk_get (q := (8, .bipush 6, 2)) ok_tb_C_checkAcute_0 4 rfl
theorem d_C_checkAcute_10 : decode prog_1_method_28_code 10 = .ok (.aload_n 2, 1) := dOk_get (q := (10, .aload_n 2, 1)) ok_tb_C_checkAcute_0 5 rfl
theorem d_C_checkAcute_11 : decode prog_1_method_28_code 11 = .ok (.getfield 119, 3) := dOk_get (q := (11, .getfield 119, 3)) ok_tb_C_checkAcute_0 6 rfl
theorem d_C_checkAcute_14 : decode prog_1_method_28_code 14 = .ok (.invokevirtual 244, 3) := dOk_get (q := (14, .invokevirtual 244, 3)) ok_tb_C_checkAcute_0 7 rfl
theorem d_C_checkAcute_17 : decode prog_1_method_28_code 17 = .ok (.ldc2_w 254, 3) := dOk_get (q := (17, .ldc2_w 254, 3)) ok_tb_C_checkAcute_0 8 rfl
theorem d_C_checkAcute_20 : decode prog_1_method_28_code 20 = .ok (.lcmp, 1) := dOk_get (q := (20, .lcmp, 1)) ok_tb_C_checkAcute_0 9 rfl
theorem d_C_checkAcute_21 : decode prog_1_method_28_code 21 = .ok (.ifCond .eq 18, 3) := dOk_get (q := (21, .ifCond .eq 18, 3)) ok_tb_C_checkAcute_0 10 rfl
theorem d_C_checkAcute_24 : decode prog_1_method_28_code 24 = .ok (.aload_n 2, 1) := dOk_get (q := (24, .aload_n 2, 1)) ok_tb_C_checkAcute_0 11 rfl
theorem d_C_checkAcute_25 : decode prog_1_method_28_code 25 = .ok (.invokevirtual 278, 3) := dOk_get (q := (25, .invokevirtual 278, 3)) ok_tb_C_checkAcute_0 12 rfl
theorem d_C_checkAcute_28 : decode prog_1_method_28_code 28 = .ok (.ifCond .eq 11, 3) := dOk_get (q := (28, .ifCond .eq 11, 3)) ok_tb_C_checkAcute_0 13 rfl
theorem d_C_checkAcute_31 : decode prog_1_method_28_code 31 = .ok (.aload_n 1, 1) := dOk_get (q := (31, .aload_n 1, 1)) ok_tb_C_checkAcute_0 14 rfl
theorem d_C_checkAcute_32 : decode prog_1_method_28_code 32 = .ok (.bipush 6, 2) := dOk_get (q := (32, .bipush 6, 2)) ok_tb_C_checkAcute_0 15 rfl
theorem d_C_checkAcute_34 : decode prog_1_method_28_code 34 = .ok (.aload_n 2, 1) := dOk_get (q := (34, .aload_n 2, 1)) ok_tb_C_checkAcute_0 16 rfl
theorem d_C_checkAcute_35 : decode prog_1_method_28_code 35 = .ok (.iconst (-1), 1) := dOk_get (q := (35, .iconst (-1), 1)) ok_tb_C_checkAcute_0 17 rfl
theorem d_C_checkAcute_36 : decode prog_1_method_28_code 36 = .ok (.invokevirtual 248, 3) := dOk_get (q := (36, .invokevirtual 248, 3)) ok_tb_C_checkAcute_0 18 rfl
theorem d_C_checkAcute_39 : decode prog_1_method_28_code 39 = .ok (.return_, 1) := dOk_get (q := (39, .return_, 1)) ok_tb_C_checkAcute_0 19 rfl
def tb_C_checkPairs_0 : List (Nat × Instr × Nat) := [(0, .aload_n 2, 1), (1, .getfield 268, 3), (4, .iconst 1, 1), (5, .iadd, 1), (6, .istore_n 3, 1), (7, .iload_n 3, 1), (8, .aload_n 0, 1), (9, .getfield 25, 3), (12, .invokevirtual 66, 3), (15, .if_icmp .ge 114, 3), (18, .aload_n 0, 1), (19, .getfield 25, 3), (22, .iload_n 3, 1), (23, .invokevirtual 201, 3), (26, .checkcast 70, 3), (29, .astore 4, 2), (31, .aload 4, 2), (33, .invokevirtual 205, 3), (36, .ifCond .eq 12, 3), (39, .aload_n 2, 1), (40, .aload 4, 2), (42, .invokestatic 281, 3), (45, .goto 4, 3), (48, .iconst (-1), 1), (49, .istore 5, 2), (51, .iload 5, 2), (53, .iconst (-1), 1), (54, .if_icmp .ne 9, 3), (57, .ldc2_w 254, 3), (60, .goto 18, 3), (63, .aload_n 0, 1), (64, .iload 5, 2), (66, .aload_n 2, 1), (67, .getfield 119, 3), (70, .aload 4, 2), (72, .getfield 119, 3), (75, .invokevirtual 285, 3), (78, .lstore 6, 2), (80, .lload 6, 2), (82, .ldc2_w 254, 3), (85, .lcmp, 1), (86, .ifCond .eq 37, 3), (89, .aload_n 2, 1), (90, .aload 4, 2), (92, .lload 6, 2), (94, .aload_n 2, 1), (95, .getfield 99, 3), (98, .ladd, 1), (99, .aload 4, 2), (101, .getfield 99, 3), (104, .ladd, 1), (105, .invokevirtual 289, 3), (108, .ifCond .eq 15, 3), (111, .aload_n 1, 1), (112, .iload 5, 2), (114, .aload_n 2, 1), (115, .aload 4, 2), (117, .getfield 268, 3), (120, .invokevirtual 248, 3), (123, .iinc 3 1, 3), (126, .goto (-119), 3), (129, .return_, 1)]
theorem ok_tb_C_checkPairs_0 : dOk prog_1_method_29_code tb_C_checkPairs_0 = true := by decide +kernel
theorem d_C_checkPairs_0 : decode prog_1_method_29_code 0 = .ok (.aload_n 2, 1) := dOk_get (q := (0, .aload_n 2, 1)) ok_tb_C_checkPairs_0 0 rfl
theorem d_C_checkPairs_1 : decode prog_1_method_29_code 1 = .ok (.getfield 268, 3) := dOk_get (q := (1, .getfield 268, 3)) ok_tb_C_checkPairs_0 1 rfl
theorem d_C_checkPairs_4 : decode prog_1_method_29_code 4 = .ok (.iconst 1, 1) := dOk_get (q := (4, .iconst 1, 1)) ok_tb_C_checkPairs_0 2 rfl
theorem d_C_checkPairs_5 : decode prog_1_method_29_code 5 = .ok (.iadd, 1) := dOk_get (q := (5, .iadd, 1)) ok_tb_C_checkPairs_0 3 rfl
theorem d_C_checkPairs_6 : decode prog_1_method_29_code 6 = .ok (.istore_n 3, 1) := dOk_get (q := (6, .istore_n 3, 1)) ok_tb_C_checkPairs_0 4 rfl
theorem d_C_checkPairs_7 : decode prog_1_method_29_code 7 = .ok (.iload_n 3, 1) := dOk_get (q := (7, .iload_n 3, 1)) ok_tb_C_checkPairs_0 5 rfl
theorem d_C_checkPairs_8 : decode prog_1_method_29_code 8 = .ok (.aload_n 0, 1) := dOk_get (q := (8, .aload_n 0, 1)) ok_tb_C_checkPairs_0 6 rfl
theorem d_C_checkPairs_9 : decode prog_1_method_29_code 9 = .ok (.getfield 25, 3) := dOk_get (q := (9, .getfield 25, 3)) ok_tb_C_checkPairs_0 7 rfl
theorem d_C_checkPairs_12 : decode prog_1_method_29_code 12 = .ok (.invokevirtual 66, 3) := dOk_get (q := (12, .invokevirtual 66, 3)) ok_tb_C_checkPairs_0 8 rfl
theorem d_C_checkPairs_15 : decode prog_1_method_29_code 15 = .ok (.if_icmp .ge 114, 3) := dOk_get (q := (15, .if_icmp .ge 114, 3)) ok_tb_C_checkPairs_0 9 rfl
theorem d_C_checkPairs_18 : decode prog_1_method_29_code 18 = .ok (.aload_n 0, 1) := dOk_get (q := (18, .aload_n 0, 1)) ok_tb_C_checkPairs_0 10 rfl
theorem d_C_checkPairs_19 : decode prog_1_method_29_code 19 = .ok (.getfield 25, 3) := dOk_get (q := (19, .getfield 25, 3)) ok_tb_C_checkPairs_0 11 rfl
theorem d_C_checkPairs_22 : decode prog_1_method_29_code 22 = .ok (.iload_n 3, 1) := dOk_get (q := (22, .iload_n 3, 1)) ok_tb_C_checkPairs_0 12 rfl
theorem d_C_checkPairs_23 : decode prog_1_method_29_code 23 = .ok (.invokevirtual 201, 3) := dOk_get (q := (23, .invokevirtual 201, 3)) ok_tb_C_checkPairs_0 13 rfl
theorem d_C_checkPairs_26 : decode prog_1_method_29_code 26 = .ok (.checkcast 70, 3) := dOk_get (q := (26, .checkcast 70, 3)) ok_tb_C_checkPairs_0 14 rfl
theorem d_C_checkPairs_29 : decode prog_1_method_29_code 29 = .ok (.astore 4, 2) := dOk_get (q := (29, .astore 4, 2)) ok_tb_C_checkPairs_0 15 rfl
theorem d_C_checkPairs_31 : decode prog_1_method_29_code 31 = .ok (.aload 4, 2) := dOk_get (q := (31, .aload 4, 2)) ok_tb_C_checkPairs_0 16 rfl
theorem d_C_checkPairs_33 : decode prog_1_method_29_code 33 = .ok (.invokevirtual 205, 3) := dOk_get (q := (33, .invokevirtual 205, 3)) ok_tb_C_checkPairs_0 17 rfl
theorem d_C_checkPairs_36 : decode prog_1_method_29_code 36 = .ok (.ifCond .eq 12, 3) := dOk_get (q := (36, .ifCond .eq 12, 3)) ok_tb_C_checkPairs_0 18 rfl
theorem d_C_checkPairs_39 : decode prog_1_method_29_code 39 = .ok (.aload_n 2, 1) := dOk_get (q := (39, .aload_n 2, 1)) ok_tb_C_checkPairs_0 19 rfl
theorem d_C_checkPairs_40 : decode prog_1_method_29_code 40 = .ok (.aload 4, 2) := dOk_get (q := (40, .aload 4, 2)) ok_tb_C_checkPairs_0 20 rfl
theorem d_C_checkPairs_42 : decode prog_1_method_29_code 42 = .ok (.invokestatic 281, 3) := dOk_get (q := (42, .invokestatic 281, 3)) ok_tb_C_checkPairs_0 21 rfl
theorem d_C_checkPairs_45 : decode prog_1_method_29_code 45 = .ok (.goto 4, 3) := dOk_get (q := (45, .goto 4, 3)) ok_tb_C_checkPairs_0 22 rfl
theorem d_C_checkPairs_48 : decode prog_1_method_29_code 48 = .ok (.iconst (-1), 1) := dOk_get (q := (48, .iconst (-1), 1)) ok_tb_C_checkPairs_0 23 rfl
theorem d_C_checkPairs_49 : decode prog_1_method_29_code 49 = .ok (.istore 5, 2) := dOk_get (q := (49, .istore 5, 2)) ok_tb_C_checkPairs_0 24 rfl
theorem d_C_checkPairs_51 : decode prog_1_method_29_code 51 = .ok (.iload 5, 2) := dOk_get (q := (51, .iload 5, 2)) ok_tb_C_checkPairs_0 25 rfl
theorem d_C_checkPairs_53 : decode prog_1_method_29_code 53 = .ok (.iconst (-1), 1) := dOk_get (q := (53, .iconst (-1), 1)) ok_tb_C_checkPairs_0 26 rfl
theorem d_C_checkPairs_54 : decode prog_1_method_29_code 54 = .ok (.if_icmp .ne 9, 3) := dOk_get (q := (54, .if_icmp .ne 9, 3)) ok_tb_C_checkPairs_0 27 rfl
theorem d_C_checkPairs_57 : decode prog_1_method_29_code 57 = .ok (.ldc2_w 254, 3) := dOk_get (q := (57, .ldc2_w 254, 3)) ok_tb_C_checkPairs_0 28 rfl
theorem d_C_checkPairs_60 : decode prog_1_method_29_code 60 = .ok (.goto 18, 3) := dOk_get (q := (60, .goto 18, 3)) ok_tb_C_checkPairs_0 29 rfl
theorem d_C_checkPairs_63 : decode prog_1_method_29_code 63 = .ok (.aload_n 0, 1) := dOk_get (q := (63, .aload_n 0, 1)) ok_tb_C_checkPairs_0 30 rfl
theorem d_C_checkPairs_64 : decode prog_1_method_29_code 64 = .ok (.iload 5, 2) := dOk_get (q := (64, .iload 5, 2)) ok_tb_C_checkPairs_0 31 rfl
theorem d_C_checkPairs_66 : decode prog_1_method_29_code 66 = .ok (.aload_n 2, 1) := dOk_get (q := (66, .aload_n 2, 1)) ok_tb_C_checkPairs_0 32 rfl
theorem d_C_checkPairs_67 : decode prog_1_method_29_code 67 = .ok (.getfield 119, 3) := dOk_get (q := (67, .getfield 119, 3)) ok_tb_C_checkPairs_0 33 rfl
theorem d_C_checkPairs_70 : decode prog_1_method_29_code 70 = .ok (.aload 4, 2) := dOk_get (q := (70, .aload 4, 2)) ok_tb_C_checkPairs_0 34 rfl
theorem d_C_checkPairs_72 : decode prog_1_method_29_code 72 = .ok (.getfield 119, 3) := dOk_get (q := (72, .getfield 119, 3)) ok_tb_C_checkPairs_0 35 rfl
theorem d_C_checkPairs_75 : decode prog_1_method_29_code 75 = .ok (.invokevirtual 285, 3) := dOk_get (q := (75, .invokevirtual 285, 3)) ok_tb_C_checkPairs_0 36 rfl
theorem d_C_checkPairs_78 : decode prog_1_method_29_code 78 = .ok (.lstore 6, 2) := dOk_get (q := (78, .lstore 6, 2)) ok_tb_C_checkPairs_0 37 rfl
theorem d_C_checkPairs_80 : decode prog_1_method_29_code 80 = .ok (.lload 6, 2) := dOk_get (q := (80, .lload 6, 2)) ok_tb_C_checkPairs_0 38 rfl
theorem d_C_checkPairs_82 : decode prog_1_method_29_code 82 = .ok (.ldc2_w 254, 3) := dOk_get (q := (82, .ldc2_w 254, 3)) ok_tb_C_checkPairs_0 39 rfl
theorem d_C_checkPairs_85 : decode prog_1_method_29_code 85 = .ok (.lcmp, 1) := dOk_get (q := (85, .lcmp, 1)) ok_tb_C_checkPairs_0 40 rfl
theorem d_C_checkPairs_86 : decode prog_1_method_29_code 86 = .ok (.ifCond .eq 37, 3) := dOk_get (q := (86, .ifCond .eq 37, 3)) ok_tb_C_checkPairs_0 41 rfl
theorem d_C_checkPairs_89 : decode prog_1_method_29_code 89 = .ok (.aload_n 2, 1) := dOk_get (q := (89, .aload_n 2, 1)) ok_tb_C_checkPairs_0 42 rfl
theorem d_C_checkPairs_90 : decode prog_1_method_29_code 90 = .ok (.aload 4, 2) := dOk_get (q := (90, .aload 4, 2)) ok_tb_C_checkPairs_0 43 rfl
theorem d_C_checkPairs_92 : decode prog_1_method_29_code 92 = .ok (.lload 6, 2) := dOk_get (q := (92, .lload 6, 2)) ok_tb_C_checkPairs_0 44 rfl
theorem d_C_checkPairs_94 : decode prog_1_method_29_code 94 = .ok (.aload_n 2, 1) := dOk_get (q := (94, .aload_n 2, 1)) ok_tb_C_checkPairs_0 45 rfl
theorem d_C_checkPairs_95 : decode prog_1_method_29_code 95 = .ok (.getfield 99, 3) := dOk_get (q := (95, .getfield 99, 3)) ok_tb_C_checkPairs_0 46 rfl
theorem d_C_checkPairs_98 : decode prog_1_method_29_code 98 = .ok (.ladd, 1) := dOk_get (q := (98, .ladd, 1)) ok_tb_C_checkPairs_0 47 rfl
theorem d_C_checkPairs_99 : decode prog_1_method_29_code 99 = .ok (.aload 4, 2) := dOk_get (q := (99, .aload 4, 2)) ok_tb_C_checkPairs_0 48 rfl
theorem d_C_checkPairs_101 : decode prog_1_method_29_code 101 = .ok (.getfield 99, 3) := dOk_get (q := (101, .getfield 99, 3)) ok_tb_C_checkPairs_0 49 rfl
theorem d_C_checkPairs_104 : decode prog_1_method_29_code 104 = .ok (.ladd, 1) := dOk_get (q := (104, .ladd, 1)) ok_tb_C_checkPairs_0 50 rfl
theorem d_C_checkPairs_105 : decode prog_1_method_29_code 105 = .ok (.invokevirtual 289, 3) := dOk_get (q := (105, .invokevirtual 289, 3)) ok_tb_C_checkPairs_0 51 rfl
theorem d_C_checkPairs_108 : decode prog_1_method_29_code 108 = .ok (.ifCond .eq 15, 3) := dOk_get (q := (108, .ifCond .eq 15, 3)) ok_tb_C_checkPairs_0 52 rfl
theorem d_C_checkPairs_111 : decode prog_1_method_29_code 111 = .ok (.aload_n 1, 1) := dOk_get (q := (111, .aload_n 1, 1)) ok_tb_C_checkPairs_0 53 rfl
theorem d_C_checkPairs_112 : decode prog_1_method_29_code 112 = .ok (.iload 5, 2) := dOk_get (q := (112, .iload 5, 2)) ok_tb_C_checkPairs_0 54 rfl
theorem d_C_checkPairs_114 : decode prog_1_method_29_code 114 = .ok (.aload_n 2, 1) := dOk_get (q := (114, .aload_n 2, 1)) ok_tb_C_checkPairs_0 55 rfl
theorem d_C_checkPairs_115 : decode prog_1_method_29_code 115 = .ok (.aload 4, 2) := dOk_get (q := (115, .aload 4, 2)) ok_tb_C_checkPairs_0 56 rfl
theorem d_C_checkPairs_117 : decode prog_1_method_29_code 117 = .ok (.getfield 268, 3) := dOk_get (q := (117, .getfield 268, 3)) ok_tb_C_checkPairs_0 57 rfl
theorem d_C_checkPairs_120 : decode prog_1_method_29_code 120 = .ok (.invokevirtual 248, 3) := dOk_get (q := (120, .invokevirtual 248, 3)) ok_tb_C_checkPairs_0 58 rfl
theorem d_C_checkPairs_123 : decode prog_1_method_29_code 123 = .ok (.iinc 3 1, 3) := dOk_get (q := (123, .iinc 3 1, 3)) ok_tb_C_checkPairs_0 59 rfl
theorem d_C_checkPairs_126 : decode prog_1_method_29_code 126 = .ok (.goto (-119), 3) := dOk_get (q := (126, .goto (-119), 3)) ok_tb_C_checkPairs_0 60 rfl
theorem d_C_checkPairs_129 : decode prog_1_method_29_code 129 = .ok (.return_, 1) := dOk_get (q := (129, .return_, 1)) ok_tb_C_checkPairs_0 61 rfl
def tb_C_kindForPair_0 : List (Nat × Instr × Nat) := [(0, .aload_n 0, 1), (1, .getfield 251, 3), (4, .iconst 2, 1), (5, .if_icmp .ne 13, 3), (8, .aload_n 1, 1), (9, .getfield 251, 3), (12, .iconst 2, 1), (13, .if_icmp .ne 5, 3), (16, .iconst 2, 1), (17, .ireturn, 1), (18, .aload_n 0, 1), (19, .getfield 271, 3), (22, .aload_n 1, 1), (23, .getfield 271, 3), (26, .if_icmp .eq 5, 3), (29, .iconst (-1), 1), (30, .ireturn, 1), (31, .aload_n 0, 1), (32, .invokevirtual 239, 3), (35, .ifCond .eq 24, 3), (38, .aload_n 1, 1), (39, .invokevirtual 239, 3), (42, .ifCond .eq 17, 3), (45, .aload_n 0, 1), (46, .aload_n 1, 1), (47, .invokevirtual 256, 3), (50, .ifCond .eq 7, 3), (53, .iconst (-1), 1), (54, .goto 4, 3), (57, .iconst 0, 1), (58, .ireturn, 1), (59, .aload_n 0, 1), (60, .getfield 251, 3), (63, .iconst 3, 1), (64, .if_icmp .ne 11, 3), (67, .aload_n 1, 1), (68, .getfield 251, 3), (71, .iconst 1, 1), (72, .if_icmp .eq 19, 3), (75, .aload_n 0, 1), (76, .getfield 251, 3), (79, .iconst 1, 1), (80, .if_icmp .ne 15, 3), (83, .aload_n 1, 1), (84, .getfield 251, 3), (87, .iconst 3, 1), (88, .if_icmp .ne 7, 3), (91, .iconst 1, 1), (92, .goto 4, 3), (95, .iconst 0, 1), (96, .istore_n 2, 1), (97, .iload_n 2, 1), (98, .ifCond .eq 7, 3), (101, .iconst 3, 1), (102, .goto 4, 3), (105, .iconst (-1), 1), (106, .ireturn, 1)]
theorem ok_tb_C_kindForPair_0 : dOk prog_1_method_30_code tb_C_kindForPair_0 = true := by decide +kernel
theorem d_C_kindForPair_0 : decode prog_1_method_30_code 0 = .ok (.aload_n 0, 1) := dOk_get (q := (0, .aload_n 0, 1)) ok_tb_C_kindForPair_0 0 rfl
theorem d_C_kindForPair_1 : decode prog_1_method_30_code 1 = .ok (.getfield 251, 3) := dOk_get (q := (1, .getfield 251, 3)) ok_tb_C_kindForPair_0 1 rfl
theorem d_C_kindForPair_4 : decode prog_1_method_30_code 4 = .ok (.iconst 2, 1) := dOk_get (q := (4, .iconst 2, 1)) ok_tb_C_kindForPair_0 2 rfl
theorem d_C_kindForPair_5 : decode prog_1_method_30_code 5 = .ok (.if_icmp .ne 13, 3) := dOk_get (q := (5, .if_icmp .ne 13, 3)) ok_tb_C_kindForPair_0 3 rfl
theorem d_C_kindForPair_8 : decode prog_1_method_30_code 8 = .ok (.aload_n 1, 1) := dOk_get (q := (8, .aload_n 1, 1)) ok_tb_C_kindForPair_0 4 rfl
theorem d_C_kindForPair_9 : decode prog_1_method_30_code 9 = .ok (.getfield 251, 3) := dOk_get (q := (9, .getfield 251, 3)) ok_tb_C_kindForPair_0 5 rfl
theorem d_C_kindForPair_12 : decode prog_1_method_30_code 12 = .ok (.iconst 2, 1) := dOk_get (q := (12, .iconst 2, 1)) ok_tb_C_kindForPair_0 6 rfl
theorem d_C_kindForPair_13 : decode prog_1_method_30_code 13 = .ok (.if_icmp .ne 5, 3) := dOk_get (q := (13, .if_icmp .ne 5, 3)) ok_tb_C_kindForPair_0 7 rfl
theorem d_C_kindForPair_16 : decode prog_1_method_30_code 16 = .ok (.iconst 2, 1) := dOk_get (q := (16, .iconst 2, 1)) ok_tb_C_kindForPair_0 8 rfl
theorem d_C_kindForPair_17 : decode prog_1_method_30_code 17 = .ok (.ireturn, 1) := dOk_get (q := (17, .ireturn, 1)) ok_tb_C_kindForPair_0 9 rfl
theorem d_C_kindForPair_18 : decode prog_1_method_30_code 18 = .ok (.aload_n 0, 1) := dOk_get (q := (18, .aload_n 0, 1)) ok_tb_C_kindForPair_0 10 rfl
theorem d_C_kindForPair_19 : decode prog_1_method_30_code 19 = .ok (.getfield 271, 3) := dOk_get (q := (19, .getfield 271, 3)) ok_tb_C_kindForPair_0 11 rfl
theorem d_C_kindForPair_22 : decode prog_1_method_30_code 22 = .ok (.aload_n 1, 1) := dOk_get (q := (22, .aload_n 1, 1)) ok_tb_C_kindForPair_0 12 rfl
theorem d_C_kindForPair_23 : decode prog_1_method_30_code 23 = .ok (.getfield 271, 3) := dOk_get (q := (23, .getfield 271, 3)) ok_tb_C_kindForPair_0 13 rfl
theorem d_C_kindForPair_26 : decode prog_1_method_30_code 26 = .ok (.if_icmp .eq 5, 3) := dOk_get (q := (26, .if_icmp .eq 5, 3)) ok_tb_C_kindForPair_0 14 rfl
theorem d_C_kindForPair_29 : decode prog_1_method_30_code 29 = .ok (.iconst (-1), 1) := dOk_get (q := (29, .iconst (-1), 1)) ok_tb_C_kindForPair_0 15 rfl
theorem d_C_kindForPair_30 : decode prog_1_method_30_code 30 = .ok (.ireturn, 1) := dOk_get (q := (30, .ireturn, 1)) ok_tb_C_kindForPair_0 16 rfl
theorem d_C_kindForPair_31 : decode prog_1_method_30_code 31 = .ok (.aload_n 0, 1) := dOk_get (q := (31, .aload_n 0, 1)) ok_tb_C_kindForPair_0 17 rfl
theorem d_C_kindForPair_32 : decode prog_1_method_30_code 32 = .ok (.invokevirtual 239, 3) := dOk_get (q := (32, .invokevirtual 239, 3)) ok_tb_C_kindForPair_0 18 rfl
theorem d_C_kindForPair_35 : decode prog_1_method_30_code 35 = .ok (.ifCond .eq 24, 3) := dOk_get (q := (35, .ifCond .eq 24, 3)) ok_tb_C_kindForPair_0 19 rfl
theorem d_C_kindForPair_38 : decode prog_1_method_30_code 38 = .ok (.aload_n 1, 1) := dOk_get (q := (38, .aload_n 1, 1)) ok_tb_C_kindForPair_0 20 rfl
theorem d_C_kindForPair_39 : decode prog_1_method_30_code 39 = .ok (.invokevirtual 239, 3) := dOk_get (q := (39, .invokevirtual 239, 3)) ok_tb_C_kindForPair_0 21 rfl
theorem d_C_kindForPair_42 : decode prog_1_method_30_code 42 = .ok (.ifCond .eq 17, 3) := dOk_get (q := (42, .ifCond .eq 17, 3)) ok_tb_C_kindForPair_0 22 rfl
theorem d_C_kindForPair_45 : decode prog_1_method_30_code 45 = .ok (.aload_n 0, 1) := dOk_get (q := (45, .aload_n 0, 1)) ok_tb_C_kindForPair_0 23 rfl
theorem d_C_kindForPair_46 : decode prog_1_method_30_code 46 = .ok (.aload_n 1, 1) := dOk_get (q := (46, .aload_n 1, 1)) ok_tb_C_kindForPair_0 24 rfl
theorem d_C_kindForPair_47 : decode prog_1_method_30_code 47 = .ok (.invokevirtual 256, 3) := dOk_get (q := (47, .invokevirtual 256, 3)) ok_tb_C_kindForPair_0 25 rfl
theorem d_C_kindForPair_50 : decode prog_1_method_30_code 50 = .ok (.ifCond .eq 7, 3) := dOk_get (q := (50, .ifCond .eq 7, 3)) ok_tb_C_kindForPair_0 26 rfl
theorem d_C_kindForPair_53 : decode prog_1_method_30_code 53 = .ok (.iconst (-1), 1) := dOk_get (q := (53, .iconst (-1), 1)) ok_tb_C_kindForPair_0 27 rfl
theorem d_C_kindForPair_54 : decode prog_1_method_30_code 54 = .ok (.goto 4, 3) := dOk_get (q := (54, .goto 4, 3)) ok_tb_C_kindForPair_0 28 rfl
theorem d_C_kindForPair_57 : decode prog_1_method_30_code 57 = .ok (.iconst 0, 1) := dOk_get (q := (57, .iconst 0, 1)) ok_tb_C_kindForPair_0 29 rfl
theorem d_C_kindForPair_58 : decode prog_1_method_30_code 58 = .ok (.ireturn, 1) := dOk_get (q := (58, .ireturn, 1)) ok_tb_C_kindForPair_0 30 rfl
theorem d_C_kindForPair_59 : decode prog_1_method_30_code 59 = .ok (.aload_n 0, 1) := dOk_get (q := (59, .aload_n 0, 1)) ok_tb_C_kindForPair_0 31 rfl
theorem d_C_kindForPair_60 : decode prog_1_method_30_code 60 = .ok (.getfield 251, 3) := dOk_get (q := (60, .getfield 251, 3)) ok_tb_C_kindForPair_0 32 rfl
theorem d_C_kindForPair_63 : decode prog_1_method_30_code 63 = .ok (.iconst 3, 1) := dOk_get (q := (63, .iconst 3, 1)) ok_tb_C_kindForPair_0 33 rfl
theorem d_C_kindForPair_64 : decode prog_1_method_30_code 64 = .ok (.if_icmp .ne 11, 3) := dOk_get (q := (64, .if_icmp .ne 11, 3)) ok_tb_C_kindForPair_0 34 rfl
theorem d_C_kindForPair_67 : decode prog_1_method_30_code 67 = .ok (.aload_n 1, 1) := dOk_get (q := (67, .aload_n 1, 1)) ok_tb_C_kindForPair_0 35 rfl
theorem d_C_kindForPair_68 : decode prog_1_method_30_code 68 = .ok (.getfield 251, 3) := dOk_get (q := (68, .getfield 251, 3)) ok_tb_C_kindForPair_0 36 rfl
theorem d_C_kindForPair_71 : decode prog_1_method_30_code 71 = .ok (.iconst 1, 1) := dOk_get (q := (71, .iconst 1, 1)) ok_tb_C_kindForPair_0 37 rfl
theorem d_C_kindForPair_72 : decode prog_1_method_30_code 72 = .ok (.if_icmp .eq 19, 3) := dOk_get (q := (72, .if_icmp .eq 19, 3)) ok_tb_C_kindForPair_0 38 rfl
theorem d_C_kindForPair_75 : decode prog_1_method_30_code 75 = .ok (.aload_n 0, 1) := dOk_get (q := (75, .aload_n 0, 1)) ok_tb_C_kindForPair_0 39 rfl
theorem d_C_kindForPair_76 : decode prog_1_method_30_code 76 = .ok (.getfield 251, 3) := dOk_get (q := (76, .getfield 251, 3)) ok_tb_C_kindForPair_0 40 rfl
theorem d_C_kindForPair_79 : decode prog_1_method_30_code 79 = .ok (.iconst 1, 1) := dOk_get (q := (79, .iconst 1, 1)) ok_tb_C_kindForPair_0 41 rfl
theorem d_C_kindForPair_80 : decode prog_1_method_30_code 80 = .ok (.if_icmp .ne 15, 3) := dOk_get (q := (80, .if_icmp .ne 15, 3)) ok_tb_C_kindForPair_0 42 rfl
theorem d_C_kindForPair_83 : decode prog_1_method_30_code 83 = .ok (.aload_n 1, 1) := dOk_get (q := (83, .aload_n 1, 1)) ok_tb_C_kindForPair_0 43 rfl
theorem d_C_kindForPair_84 : decode prog_1_method_30_code 84 = .ok (.getfield 251, 3) := dOk_get (q := (84, .getfield 251, 3)) ok_tb_C_kindForPair_0 44 rfl
theorem d_C_kindForPair_87 : decode prog_1_method_30_code 87 = .ok (.iconst 3, 1) := dOk_get (q := (87, .iconst 3, 1)) ok_tb_C_kindForPair_0 45 rfl
theorem d_C_kindForPair_88 : decode prog_1_method_30_code 88 = .ok (.if_icmp .ne 7, 3) := dOk_get (q := (88, .if_icmp .ne 7, 3)) ok_tb_C_kindForPair_0 46 rfl
theorem d_C_kindForPair_91 : decode prog_1_method_30_code 91 = .ok (.iconst 1, 1) := dOk_get (q := (91, .iconst 1, 1)) ok_tb_C_kindForPair_0 47 rfl
theorem d_C_kindForPair_92 : decode prog_1_method_30_code 92 = .ok (.goto 4, 3) := dOk_get (q := (92, .goto 4, 3)) ok_tb_C_kindForPair_0 48 rfl
theorem d_C_kindForPair_95 : decode prog_1_method_30_code 95 = .ok (.iconst 0, 1) := dOk_get (q := (95, .iconst 0, 1)) ok_tb_C_kindForPair_0 49 rfl
theorem d_C_kindForPair_96 : decode prog_1_method_30_code 96 = .ok (.istore_n 2, 1) := dOk_get (q := (96, .istore_n 2, 1)) ok_tb_C_kindForPair_0 50 rfl
theorem d_C_kindForPair_97 : decode prog_1_method_30_code 97 = .ok (.iload_n 2, 1) := dOk_get (q := (97, .iload_n 2, 1)) ok_tb_C_kindForPair_0 51 rfl
theorem d_C_kindForPair_98 : decode prog_1_method_30_code 98 = .ok (.ifCond .eq 7, 3) := dOk_get (q := (98, .ifCond .eq 7, 3)) ok_tb_C_kindForPair_0 52 rfl
theorem d_C_kindForPair_101 : decode prog_1_method_30_code 101 = .ok (.iconst 3, 1) := dOk_get (q := (101, .iconst 3, 1)) ok_tb_C_kindForPair_0 53 rfl
theorem d_C_kindForPair_102 : decode prog_1_method_30_code 102 = .ok (.goto 4, 3) := dOk_get (q := (102, .goto 4, 3)) ok_tb_C_kindForPair_0 54 rfl
theorem d_C_kindForPair_105 : decode prog_1_method_30_code 105 = .ok (.iconst (-1), 1) := dOk_get (q := (105, .iconst (-1), 1)) ok_tb_C_kindForPair_0 55 rfl
theorem d_C_kindForPair_106 : decode prog_1_method_30_code 106 = .ok (.ireturn, 1) := dOk_get (q := (106, .ireturn, 1)) ok_tb_C_kindForPair_0 56 rfl
def tb_C_valueForPair_0 : List (Nat × Instr × Nat) := [(0, .aload_n 0, 1), (1, .getfield 29, 3), (4, .invokevirtual 66, 3), (7, .iconst 1, 1), (8, .isub, 1), (9, .istore 4, 2), (11, .iload 4, 2), (13, .ifCond .lt 48, 3), (16, .aload_n 0, 1), (17, .getfield 29, 3), (20, .iload 4, 2), (22, .invokevirtual 201, 3), (25, .checkcast 109, 3), (28, .astore 5, 2), (30, .aload 5, 2), (32, .getfield 292, 3), (35, .iload_n 1, 1), (36, .if_icmp .ne 19, 3), (39, .aload 5, 2), (41, .iload_n 2, 1), (42, .iload_n 3, 1), (43, .invokevirtual 299, 3), (46, .ifCond .eq 9, 3), (49, .aload 5, 2), (51, .getfield 296, 3), (54, .lreturn, 1), (55, .iinc 4 (-1), 3), (58, .goto (-47), 3), (61, .ldc2_w 254, 3), (64, .lreturn, 1)]
theorem ok_tb_C_valueForPair_0 : dOk prog_1_method_32_code tb_C_valueForPair_0 = true := by decide +kernel
theorem d_C_valueForPair_0 : decode prog_1_method_32_code 0 = .ok (.aload_n 0, 1) := dOk_get (q := (0, .aload_n 0, 1)) ok_tb_C_valueForPair_0 0 rfl
theorem d_C_valueForPair_1 : decode prog_1_method_32_code 1 = .ok (.getfield 29, 3) := dOk_get (q := (1, .getfield 29, 3)) ok_tb_C_valueForPair_0 1 rfl
theorem d_C_valueForPair_4 : decode prog_1_method_32_code 4 = .ok (.invokevirtual 66, 3) := dOk_get (q := (4, .invokevirtual 66, 3)) ok_tb_C_valueForPair_0 2 rfl
theorem d_C_valueForPair_7 : decode prog_1_method_32_code 7 = .ok (.iconst 1, 1) := dOk_get (q := (7, .iconst 1, 1)) ok_tb_C_valueForPair_0 3 rfl
theorem d_C_valueForPair_8 : decode prog_1_method_32_code 8 = .ok (.isub, 1) := dOk_get (q := (8, .isub, 1)) ok_tb_C_valueForPair_0 4 rfl
theorem d_C_valueForPair_9 : decode prog_1_method_32_code 9 = .ok (.istore 4, 2) := dOk_get (q := (9, .istore 4, 2)) ok_tb_C_valueForPair_0 5 rfl
theorem d_C_valueForPair_11 : decode prog_1_method_32_code 11 = .ok (.iload 4, 2) := dOk_get (q := (11, .iload 4, 2)) ok_tb_C_valueForPair_0 6 rfl
theorem d_C_valueForPair_13 : decode prog_1_method_32_code 13 = .ok (.ifCond .lt 48, 3) := dOk_get (q := (13, .ifCond .lt 48, 3)) ok_tb_C_valueForPair_0 7 rfl
theorem d_C_valueForPair_16 : decode prog_1_method_32_code 16 = .ok (.aload_n 0, 1) := dOk_get (q := (16, .aload_n 0, 1)) ok_tb_C_valueForPair_0 8 rfl
theorem d_C_valueForPair_17 : decode prog_1_method_32_code 17 = .ok (.getfield 29, 3) := dOk_get (q := (17, .getfield 29, 3)) ok_tb_C_valueForPair_0 9 rfl
theorem d_C_valueForPair_20 : decode prog_1_method_32_code 20 = .ok (.iload 4, 2) := dOk_get (q := (20, .iload 4, 2)) ok_tb_C_valueForPair_0 10 rfl
theorem d_C_valueForPair_22 : decode prog_1_method_32_code 22 = .ok (.invokevirtual 201, 3) := dOk_get (q := (22, .invokevirtual 201, 3)) ok_tb_C_valueForPair_0 11 rfl
theorem d_C_valueForPair_25 : decode prog_1_method_32_code 25 = .ok (.checkcast 109, 3) := dOk_get (q := (25, .checkcast 109, 3)) ok_tb_C_valueForPair_0 12 rfl
theorem d_C_valueForPair_28 : decode prog_1_method_32_code 28 = .ok (.astore 5, 2) := dOk_get (q := (28, .astore 5, 2)) ok_tb_C_valueForPair_0 13 rfl
theorem d_C_valueForPair_30 : decode prog_1_method_32_code 30 = .ok (.aload 5, 2) := dOk_get (q := (30, .aload 5, 2)) ok_tb_C_valueForPair_0 14 rfl
theorem d_C_valueForPair_32 : decode prog_1_method_32_code 32 = .ok (.getfield 292, 3) := dOk_get (q := (32, .getfield 292, 3)) ok_tb_C_valueForPair_0 15 rfl
theorem d_C_valueForPair_35 : decode prog_1_method_32_code 35 = .ok (.iload_n 1, 1) := dOk_get (q := (35, .iload_n 1, 1)) ok_tb_C_valueForPair_0 16 rfl
theorem d_C_valueForPair_36 : decode prog_1_method_32_code 36 = .ok (.if_icmp .ne 19, 3) := dOk_get (q := (36, .if_icmp .ne 19, 3)) ok_tb_C_valueForPair_0 17 rfl
theorem d_C_valueForPair_39 : decode prog_1_method_32_code 39 = .ok (.aload 5, 2) := dOk_get (q := (39, .aload 5, 2)) ok_tb_C_valueForPair_0 18 rfl
theorem d_C_valueForPair_41 : decode prog_1_method_32_code 41 = .ok (.iload_n 2, 1) := dOk_get (q := (41, .iload_n 2, 1)) ok_tb_C_valueForPair_0 19 rfl
theorem d_C_valueForPair_42 : decode prog_1_method_32_code 42 = .ok (.iload_n 3, 1) := dOk_get (q := (42, .iload_n 3, 1)) ok_tb_C_valueForPair_0 20 rfl
theorem d_C_valueForPair_43 : decode prog_1_method_32_code 43 = .ok (.invokevirtual 299, 3) := dOk_get (q := (43, .invokevirtual 299, 3)) ok_tb_C_valueForPair_0 21 rfl
theorem d_C_valueForPair_46 : decode prog_1_method_32_code 46 = .ok (.ifCond .eq 9, 3) := dOk_get (q := (46, .ifCond .eq 9, 3)) ok_tb_C_valueForPair_0 22 rfl
theorem d_C_valueForPair_49 : decode prog_1_method_32_code 49 = .ok (.aload 5, 2) := dOk_get (q := (49, .aload 5, 2)) ok_tb_C_valueForPair_0 23 rfl
theorem d_C_valueForPair_51 : decode prog_1_method_32_code 51 = .ok (.getfield 296, 3) := dOk_get (q := (51, .getfield 296, 3)) ok_tb_C_valueForPair_0 24 rfl
theorem d_C_valueForPair_54 : decode prog_1_method_32_code 54 = .ok (.lreturn, 1) := dOk_get (q := (54, .lreturn, 1)) ok_tb_C_valueForPair_0 25 rfl
theorem d_C_valueForPair_55 : decode prog_1_method_32_code 55 = .ok (.iinc 4 (-1), 3) := dOk_get (q := (55, .iinc 4 (-1), 3)) ok_tb_C_valueForPair_0 26 rfl
theorem d_C_valueForPair_58 : decode prog_1_method_32_code 58 = .ok (.goto (-47), 3) := dOk_get (q := (58, .goto (-47), 3)) ok_tb_C_valueForPair_0 27 rfl
theorem d_C_valueForPair_61 : decode prog_1_method_32_code 61 = .ok (.ldc2_w 254, 3) := dOk_get (q := (61, .ldc2_w 254, 3)) ok_tb_C_valueForPair_0 28 rfl
theorem d_C_valueForPair_64 : decode prog_1_method_32_code 64 = .ok (.lreturn, 1) := dOk_get (q := (64, .lreturn, 1)) ok_tb_C_valueForPair_0 29 rfl
def tb_C_kinds_0 : List (Nat × Instr × Nat) := [(0, .iconst 0, 1), (1, .istore_n 1, 1), (2, .iconst 0, 1), (3, .istore_n 2, 1), (4, .iload_n 2, 1), (5, .aload_n 0, 1), (6, .getfield 35, 3), (9, .getfield 175, 3), (12, .if_icmp .ge 22, 3), (15, .iload_n 1, 1), (16, .iconst 1, 1), (17, .aload_n 0, 1), (18, .getfield 35, 3), (21, .iload_n 2, 1), (22, .invokevirtual 145, 3), (25, .ishl, 1), (26, .ior, 1), (27, .istore_n 1, 1), (28, .iinc 2 1, 3), (31, .goto (-27), 3), (34, .iload_n 1, 1), (35, .invokestatic 189, 3), (38, .ireturn, 1)]
theorem ok_tb_C_kinds_0 : dOk prog_1_method_14_code tb_C_kinds_0 = true := by decide +kernel
theorem d_C_kinds_0 : decode prog_1_method_14_code 0 = .ok (.iconst 0, 1) := dOk_get (q := (0, .iconst 0, 1)) ok_tb_C_kinds_0 0 rfl
theorem d_C_kinds_1 : decode prog_1_method_14_code 1 = .ok (.istore_n 1, 1) := dOk_get (q := (1, .istore_n 1, 1)) ok_tb_C_kinds_0 1 rfl
theorem d_C_kinds_2 : decode prog_1_method_14_code 2 = .ok (.iconst 0, 1) := dOk_get (q := (2, .iconst 0, 1)) ok_tb_C_kinds_0 2 rfl
theorem d_C_kinds_3 : decode prog_1_method_14_code 3 = .ok (.istore_n 2, 1) := dOk_get (q := (3, .istore_n 2, 1)) ok_tb_C_kinds_0 3 rfl
theorem d_C_kinds_4 : decode prog_1_method_14_code 4 = .ok (.iload_n 2, 1) := dOk_get (q := (4, .iload_n 2, 1)) ok_tb_C_kinds_0 4 rfl
theorem d_C_kinds_5 : decode prog_1_method_14_code 5 = .ok (.aload_n 0, 1) := dOk_get (q := (5, .aload_n 0, 1)) ok_tb_C_kinds_0 5 rfl
theorem d_C_kinds_6 : decode prog_1_method_14_code 6 = .ok (.getfield 35, 3) := dOk_get (q := (6, .getfield 35, 3)) ok_tb_C_kinds_0 6 rfl
theorem d_C_kinds_9 : decode prog_1_method_14_code 9 = .ok (.getfield 175, 3) := dOk_get (q := (9, .getfield 175, 3)) ok_tb_C_kinds_0 7 rfl
theorem d_C_kinds_12 : decode prog_1_method_14_code 12 = .ok (.if_icmp .ge 22, 3) := dOk_get (q := (12, .if_icmp .ge 22, 3)) ok_tb_C_kinds_0 8 rfl
theorem d_C_kinds_15 : decode prog_1_method_14_code 15 = .ok (.iload_n 1, 1) := dOk_get (q := (15, .iload_n 1, 1)) ok_tb_C_kinds_0 9 rfl
theorem d_C_kinds_16 : decode prog_1_method_14_code 16 = .ok (.iconst 1, 1) := dOk_get (q := (16, .iconst 1, 1)) ok_tb_C_kinds_0 10 rfl
theorem d_C_kinds_17 : decode prog_1_method_14_code 17 = .ok (.aload_n 0, 1) := dOk_get (q := (17, .aload_n 0, 1)) ok_tb_C_kinds_0 11 rfl
theorem d_C_kinds_18 : decode prog_1_method_14_code 18 = .ok (.getfield 35, 3) := dOk_get (q := (18, .getfield 35, 3)) ok_tb_C_kinds_0 12 rfl
theorem d_C_kinds_21 : decode prog_1_method_14_code 21 = .ok (.iload_n 2, 1) := dOk_get (q := (21, .iload_n 2, 1)) ok_tb_C_kinds_0 13 rfl
theorem d_C_kinds_22 : decode prog_1_method_14_code 22 = .ok (.invokevirtual 145, 3) := dOk_get (q := (22, .invokevirtual 145, 3)) ok_tb_C_kinds_0 14 rfl
theorem d_C_kinds_25 : decode prog_1_method_14_code 25 = .ok (.ishl, 1) := dOk_get (q := (25, .ishl, 1)) ok_tb_C_kinds_0 15 rfl
theorem d_C_kinds_26 : decode prog_1_method_14_code 26 = .ok (.ior, 1) := dOk_get (q := (26, .ior, 1)) ok_tb_C_kinds_0 16 rfl
theorem d_C_kinds_27 : decode prog_1_method_14_code 27 = .ok (.istore_n 1, 1) := dOk_get (q := (27, .istore_n 1, 1)) ok_tb_C_kinds_0 17 rfl
theorem d_C_kinds_28 : decode prog_1_method_14_code 28 = .ok (.iinc 2 1, 3) := dOk_get (q := (28, .iinc 2 1, 3)) ok_tb_C_kinds_0 18 rfl
theorem d_C_kinds_31 : decode prog_1_method_14_code 31 = .ok (.goto (-27), 3) := dOk_get (q := (31, .goto (-27), 3)) ok_tb_C_kinds_0 19 rfl
theorem d_C_kinds_34 : decode prog_1_method_14_code 34 = .ok (.iload_n 1, 1) := dOk_get (q := (34, .iload_n 1, 1)) ok_tb_C_kinds_0 20 rfl
theorem d_C_kinds_35 : decode prog_1_method_14_code 35 = .ok (.invokestatic 189, 3) := dOk_get (q := (35, .invokestatic 189, 3)) ok_tb_C_kinds_0 21 rfl
theorem d_C_kinds_38 : decode prog_1_method_14_code 38 = .ok (.ireturn, 1) := dOk_get (q := (38, .ireturn, 1)) ok_tb_C_kinds_0 22 rfl
def tb_C_shape_0 : List (Nat × Instr × Nat) := [(0, .iload_n 2, 1), (1, .ifCond .lt 11, 3), (4, .iload_n 2, 1), (5, .aload_n 0, 1), (6, .getfield 18, 3), (9, .if_icmp .lt 13, 3), (12, .new 52, 3), (15, .dup, 1), (16, .ldc 54, 2), (18, .invokespecial 56, 3), (21, .athrow, 1), (22, .iload_n 1, 1), (23, .iconst (-1), 1), (24, .if_icmp .lt 10, 3), (27, .iload_n 1, 1), (28, .sipush 999, 3), (31, .if_icmp .le 13, 3), (34, .new 59, 3), (37, .dup, 1), (38, .ldc 61, 2), (40, .invokespecial 63, 3), (43, .athrow, 1), (44, .iload_n 3, 1), (45, .ifCond .lt 8, 3), (48, .iload_n 3, 1), (49, .iconst 3, 1), (50, .if_icmp .le 13, 3), (53, .new 59, 3), (56, .dup, 1), (57, .ldc 64, 2), (59, .invokespecial 63, 3), (62, .athrow, 1), (63, .aload_n 0, 1), (64, .getfield 25, 3), (67, .invokevirtual 66, 3), (70, .istore 4, 2), (72, .iload 4, 2), (74, .bipush 60, 2), (76, .if_icmp .lt 5, 3), (79, .iconst (-1), 1), (80, .ireturn, 1), (81, .aload_n 0, 1), (82, .getfield 25, 3), (85, .new 70, 3), (88, .dup, 1), (89, .iload 4, 2), (91, .iload_n 1, 1), (92, .iload_n 2, 1), (93, .iload_n 3, 1), (94, .invokespecial 72, 3), (97, .invokevirtual 75, 3), (100, .pop, 1), (101, .iload 4, 2), (103, .ireturn, 1)]
theorem ok_tb_C_shape_0 : dOk prog_1_method_2_code tb_C_shape_0 = true := by decide +kernel
theorem d_C_shape_0 : decode prog_1_method_2_code 0 = .ok (.iload_n 2, 1) := dOk_get (q := (0, .iload_n 2, 1)) ok_tb_C_shape_0 0 rfl
theorem d_C_shape_1 : decode prog_1_method_2_code 1 = .ok (.ifCond .lt 11, 3) := dOk_get (q := (1, .ifCond .lt 11, 3)) ok_tb_C_shape_0 1 rfl
theorem d_C_shape_4 : decode prog_1_method_2_code 4 = .ok (.iload_n 2, 1) := dOk_get (q := (4, .iload_n 2, 1)) ok_tb_C_shape_0 2 rfl
theorem d_C_shape_5 : decode prog_1_method_2_code 5 = .ok (.aload_n 0, 1) := dOk_get (q := (5, .aload_n 0, 1)) ok_tb_C_shape_0 3 rfl
theorem d_C_shape_6 : decode prog_1_method_2_code 6 = .ok (.getfield 18, 3) := dOk_get (q := (6, .getfield 18, 3)) ok_tb_C_shape_0 4 rfl
theorem d_C_shape_9 : decode prog_1_method_2_code 9 = .ok (.if_icmp .lt 13, 3) := dOk_get (q := (9, .if_icmp .lt 13, 3)) ok_tb_C_shape_0 5 rfl
theorem d_C_shape_12 : decode prog_1_method_2_code 12 = .ok (.new 52, 3) := dOk_get (q := (12, .new 52, 3)) ok_tb_C_shape_0 6 rfl
theorem d_C_shape_15 : decode prog_1_method_2_code 15 = .ok (.dup, 1) := dOk_get (q := (15, .dup, 1)) ok_tb_C_shape_0 7 rfl
theorem d_C_shape_16 : decode prog_1_method_2_code 16 = .ok (.ldc 54, 2) := dOk_get (q := (16, .ldc 54, 2)) ok_tb_C_shape_0 8 rfl
theorem d_C_shape_18 : decode prog_1_method_2_code 18 = .ok (.invokespecial 56, 3) := dOk_get (q := (18, .invokespecial 56, 3)) ok_tb_C_shape_0 9 rfl
theorem d_C_shape_21 : decode prog_1_method_2_code 21 = .ok (.athrow, 1) := dOk_get (q := (21, .athrow, 1)) ok_tb_C_shape_0 10 rfl
theorem d_C_shape_22 : decode prog_1_method_2_code 22 = .ok (.iload_n 1, 1) := dOk_get (q := (22, .iload_n 1, 1)) ok_tb_C_shape_0 11 rfl
theorem d_C_shape_23 : decode prog_1_method_2_code 23 = .ok (.iconst (-1), 1) := dOk_get (q := (23, .iconst (-1), 1)) ok_tb_C_shape_0 12 rfl
theorem d_C_shape_24 : decode prog_1_method_2_code 24 = .ok (.if_icmp .lt 10, 3) := dOk_get (q := (24, .if_icmp .lt 10, 3)) ok_tb_C_shape_0 13 rfl
theorem d_C_shape_27 : decode prog_1_method_2_code 27 = .ok (.iload_n 1, 1) := dOk_get (q := (27, .iload_n 1, 1)) ok_tb_C_shape_0 14 rfl
theorem d_C_shape_28 : decode prog_1_method_2_code 28 = .ok (.sipush 999, 3) := dOk_get (q := (28, .sipush 999, 3)) ok_tb_C_shape_0 15 rfl
theorem d_C_shape_31 : decode prog_1_method_2_code 31 = .ok (.if_icmp .le 13, 3) := dOk_get (q := (31, .if_icmp .le 13, 3)) ok_tb_C_shape_0 16 rfl
theorem d_C_shape_34 : decode prog_1_method_2_code 34 = .ok (.new 59, 3) := dOk_get (q := (34, .new 59, 3)) ok_tb_C_shape_0 17 rfl
theorem d_C_shape_37 : decode prog_1_method_2_code 37 = .ok (.dup, 1) := dOk_get (q := (37, .dup, 1)) ok_tb_C_shape_0 18 rfl
theorem d_C_shape_38 : decode prog_1_method_2_code 38 = .ok (.ldc 61, 2) := dOk_get (q := (38, .ldc 61, 2)) ok_tb_C_shape_0 19 rfl
theorem d_C_shape_40 : decode prog_1_method_2_code 40 = .ok (.invokespecial 63, 3) := dOk_get (q := (40, .invokespecial 63, 3)) ok_tb_C_shape_0 20 rfl
theorem d_C_shape_43 : decode prog_1_method_2_code 43 = .ok (.athrow, 1) := dOk_get (q := (43, .athrow, 1)) ok_tb_C_shape_0 21 rfl
theorem d_C_shape_44 : decode prog_1_method_2_code 44 = .ok (.iload_n 3, 1) := dOk_get (q := (44, .iload_n 3, 1)) ok_tb_C_shape_0 22 rfl
theorem d_C_shape_45 : decode prog_1_method_2_code 45 = .ok (.ifCond .lt 8, 3) := dOk_get (q := (45, .ifCond .lt 8, 3)) ok_tb_C_shape_0 23 rfl
theorem d_C_shape_48 : decode prog_1_method_2_code 48 = .ok (.iload_n 3, 1) := dOk_get (q := (48, .iload_n 3, 1)) ok_tb_C_shape_0 24 rfl
theorem d_C_shape_49 : decode prog_1_method_2_code 49 = .ok (.iconst 3, 1) := dOk_get (q := (49, .iconst 3, 1)) ok_tb_C_shape_0 25 rfl
theorem d_C_shape_50 : decode prog_1_method_2_code 50 = .ok (.if_icmp .le 13, 3) := dOk_get (q := (50, .if_icmp .le 13, 3)) ok_tb_C_shape_0 26 rfl
theorem d_C_shape_53 : decode prog_1_method_2_code 53 = .ok (.new 59, 3) := dOk_get (q := (53, .new 59, 3)) ok_tb_C_shape_0 27 rfl
theorem d_C_shape_56 : decode prog_1_method_2_code 56 = .ok (.dup, 1) := dOk_get (q := (56, .dup, 1)) ok_tb_C_shape_0 28 rfl
theorem d_C_shape_57 : decode prog_1_method_2_code 57 = .ok (.ldc 64, 2) := dOk_get (q := (57, .ldc 64, 2)) ok_tb_C_shape_0 29 rfl
theorem d_C_shape_59 : decode prog_1_method_2_code 59 = .ok (.invokespecial 63, 3) := dOk_get (q := (59, .invokespecial 63, 3)) ok_tb_C_shape_0 30 rfl
theorem d_C_shape_62 : decode prog_1_method_2_code 62 = .ok (.athrow, 1) := dOk_get (q := (62, .athrow, 1)) ok_tb_C_shape_0 31 rfl
theorem d_C_shape_63 : decode prog_1_method_2_code 63 = .ok (.aload_n 0, 1) := dOk_get (q := (63, .aload_n 0, 1)) ok_tb_C_shape_0 32 rfl
theorem d_C_shape_64 : decode prog_1_method_2_code 64 = .ok (.getfield 25, 3) := dOk_get (q := (64, .getfield 25, 3)) ok_tb_C_shape_0 33 rfl
theorem d_C_shape_67 : decode prog_1_method_2_code 67 = .ok (.invokevirtual 66, 3) := dOk_get (q := (67, .invokevirtual 66, 3)) ok_tb_C_shape_0 34 rfl
theorem d_C_shape_70 : decode prog_1_method_2_code 70 = .ok (.istore 4, 2) := dOk_get (q := (70, .istore 4, 2)) ok_tb_C_shape_0 35 rfl
theorem d_C_shape_72 : decode prog_1_method_2_code 72 = .ok (.iload 4, 2) := dOk_get (q := (72, .iload 4, 2)) ok_tb_C_shape_0 36 rfl
theorem d_C_shape_74 : decode prog_1_method_2_code 74 = .ok (.bipush 60, 2) := dOk_get (q := (74, .bipush 60, 2)) ok_tb_C_shape_0 37 rfl
theorem d_C_shape_76 : decode prog_1_method_2_code 76 = .ok (.if_icmp .lt 5, 3) := dOk_get (q := (76, .if_icmp .lt 5, 3)) ok_tb_C_shape_0 38 rfl
theorem d_C_shape_79 : decode prog_1_method_2_code 79 = .ok (.iconst (-1), 1) := dOk_get (q := (79, .iconst (-1), 1)) ok_tb_C_shape_0 39 rfl
theorem d_C_shape_80 : decode prog_1_method_2_code 80 = .ok (.ireturn, 1) := dOk_get (q := (80, .ireturn, 1)) ok_tb_C_shape_0 40 rfl
theorem d_C_shape_81 : decode prog_1_method_2_code 81 = .ok (.aload_n 0, 1) := dOk_get (q := (81, .aload_n 0, 1)) ok_tb_C_shape_0 41 rfl
theorem d_C_shape_82 : decode prog_1_method_2_code 82 = .ok (.getfield 25, 3) := dOk_get (q := (82, .getfield 25, 3)) ok_tb_C_shape_0 42 rfl
theorem d_C_shape_85 : decode prog_1_method_2_code 85 = .ok (.new 70, 3) := dOk_get (q := (85, .new 70, 3)) ok_tb_C_shape_0 43 rfl
theorem d_C_shape_88 : decode prog_1_method_2_code 88 = .ok (.dup, 1) := dOk_get (q := (88, .dup, 1)) ok_tb_C_shape_0 44 rfl
theorem d_C_shape_89 : decode prog_1_method_2_code 89 = .ok (.iload 4, 2) := dOk_get (q := (89, .iload 4, 2)) ok_tb_C_shape_0 45 rfl
theorem d_C_shape_91 : decode prog_1_method_2_code 91 = .ok (.iload_n 1, 1) := dOk_get (q := (91, .iload_n 1, 1)) ok_tb_C_shape_0 46 rfl
theorem d_C_shape_92 : decode prog_1_method_2_code 92 = .ok (.iload_n 2, 1) := dOk_get (q := (92, .iload_n 2, 1)) ok_tb_C_shape_0 47 rfl
theorem d_C_shape_93 : decode prog_1_method_2_code 93 = .ok (.iload_n 3, 1) := dOk_get (q := (93, .iload_n 3, 1)) ok_tb_C_shape_0 48 rfl
theorem d_C_shape_94 : decode prog_1_method_2_code 94 = .ok (.invokespecial 72, 3) := dOk_get (q := (94, .invokespecial 72, 3)) ok_tb_C_shape_0 49 rfl
theorem d_C_shape_97 : decode prog_1_method_2_code 97 = .ok (.invokevirtual 75, 3) := dOk_get (q := (97, .invokevirtual 75, 3)) ok_tb_C_shape_0 50 rfl
theorem d_C_shape_100 : decode prog_1_method_2_code 100 = .ok (.pop, 1) := dOk_get (q := (100, .pop, 1)) ok_tb_C_shape_0 51 rfl
theorem d_C_shape_101 : decode prog_1_method_2_code 101 = .ok (.iload 4, 2) := dOk_get (q := (101, .iload 4, 2)) ok_tb_C_shape_0 52 rfl
theorem d_C_shape_103 : decode prog_1_method_2_code 103 = .ok (.ireturn, 1) := dOk_get (q := (103, .ireturn, 1)) ok_tb_C_shape_0 53 rfl
def tb_C_corner_0 : List (Nat × Instr × Nat) := [(0, .aload_n 0, 1), (1, .iload_n 1, 1), (2, .invokevirtual 79, 3), (5, .astore 6, 2), (7, .lload_n 2, 1), (8, .lload 4, 2), (10, .invokestatic 83, 3), (13, .ifCond .ne 13, 3), (16, .new 59, 3), (19, .dup, 1), (20, .ldc 87, 2), (22, .invokespecial 63, 3), (25, .athrow, 1), (26, .aload 6, 2), (28, .lload_n 2, 1), (29, .lload 4, 2), (31, .invokevirtual 89, 3), (34, .ireturn, 1)]
theorem ok_tb_C_corner_0 : dOk prog_1_method_3_code tb_C_corner_0 = true := by decide +kernel
theorem d_C_corner_0 : decode prog_1_method_3_code 0 = .ok (.aload_n 0, 1) := dOk_get (q := (0, .aload_n 0, 1)) ok_tb_C_corner_0 0 rfl
theorem d_C_corner_1 : decode prog_1_method_3_code 1 = .ok (.iload_n 1, 1) := dOk_get (q := (1, .iload_n 1, 1)) ok_tb_C_corner_0 1 rfl
theorem d_C_corner_2 : decode prog_1_method_3_code 2 = .ok (.invokevirtual 79, 3) := dOk_get (q := (2, .invokevirtual 79, 3)) ok_tb_C_corner_0 2 rfl
theorem d_C_corner_5 : decode prog_1_method_3_code 5 = .ok (.astore 6, 2) := dOk_get (q := (5, .astore 6, 2)) ok_tb_C_corner_0 3 rfl
theorem d_C_corner_7 : decode prog_1_method_3_code 7 = .ok (.lload_n 2, 1) := dOk_get (q := (7, .lload_n 2, 1)) ok_tb_C_corner_0 4 rfl
theorem d_C_corner_8 : decode prog_1_method_3_code 8 = .ok (.lload 4, 2) := dOk_get (q := (8, .lload 4, 2)) ok_tb_C_corner_0 5 rfl
theorem d_C_corner_10 : decode prog_1_method_3_code 10 = .ok (.invokestatic 83, 3) := dOk_get (q := (10, .invokestatic 83, 3)) ok_tb_C_corner_0 6 rfl
theorem d_C_corner_13 : decode prog_1_method_3_code 13 = .ok (.ifCond .ne 13, 3) := dOk_get (q := (13, .ifCond .ne 13, 3)) ok_tb_C_corner_0 7 rfl
theorem d_C_corner_16 : decode prog_1_method_3_code 16 = .ok (.new 59, 3) := dOk_get (q := (16, .new 59, 3)) ok_tb_C_corner_0 8 rfl
theorem d_C_corner_19 : decode prog_1_method_3_code 19 = .ok (.dup, 1) := dOk_get (q := (19, .dup, 1)) ok_tb_C_corner_0 9 rfl
theorem d_C_corner_20 : decode prog_1_method_3_code 20 = .ok (.ldc 87, 2) := dOk_get (q := (20, .ldc 87, 2)) ok_tb_C_corner_0 10 rfl
theorem d_C_corner_22 : decode prog_1_method_3_code 22 = .ok (.invokespecial 63, 3) := dOk_get (q := (22, .invokespecial 63, 3)) ok_tb_C_corner_0 11 rfl
theorem d_C_corner_25 : decode prog_1_method_3_code 25 = .ok (.athrow, 1) := dOk_get (q := (25, .athrow, 1)) ok_tb_C_corner_0 12 rfl
theorem d_C_corner_26 : decode prog_1_method_3_code 26 = .ok (.aload 6, 2) := dOk_get (q := (26, .aload 6, 2)) ok_tb_C_corner_0 13 rfl
theorem d_C_corner_28 : decode prog_1_method_3_code 28 = .ok (.lload_n 2, 1) := dOk_get (q := (28, .lload_n 2, 1)) ok_tb_C_corner_0 14 rfl
theorem d_C_corner_29 : decode prog_1_method_3_code 29 = .ok (.lload 4, 2) := dOk_get (q := (29, .lload 4, 2)) ok_tb_C_corner_0 15 rfl
theorem d_C_corner_31 : decode prog_1_method_3_code 31 = .ok (.invokevirtual 89, 3) := dOk_get (q := (31, .invokevirtual 89, 3)) ok_tb_C_corner_0 16 rfl
theorem d_C_corner_34 : decode prog_1_method_3_code 34 = .ok (.ireturn, 1) := dOk_get (q := (34, .ireturn, 1)) ok_tb_C_corner_0 17 rfl
def tb_C_openShape_0 : List (Nat × Instr × Nat) := [(0, .aload_n 0, 1), (1, .iload_n 1, 1), (2, .invokevirtual 114, 3), (5, .astore_n 2, 1), (6, .aload_n 2, 1), (7, .invokevirtual 205, 3), (10, .ifCond .eq 13, 3), (13, .new 209, 3), (16, .dup, 1), (17, .ldc 211, 2), (19, .invokespecial 213, 3), (22, .athrow, 1), (23, .aload_n 2, 1), (24, .areturn, 1)]
theorem ok_tb_C_openShape_0 : dOk prog_1_method_18_code tb_C_openShape_0 = true := by decide +kernel
theorem d_C_openShape_0 : decode prog_1_method_18_code 0 = .ok (.aload_n 0, 1) := dOk_get (q := (0, .aload_n 0, 1)) ok_tb_C_openShape_0 0 rfl
theorem d_C_openShape_1 : decode prog_1_method_18_code 1 = .ok (.iload_n 1, 1) := dOk_get (q := (1, .iload_n 1, 1)) ok_tb_C_openShape_0 1 rfl
theorem d_C_openShape_2 : decode prog_1_method_18_code 2 = .ok (.invokevirtual 114, 3) := dOk_get (q := (2, .invokevirtual 114, 3)) ok_tb_C_openShape_0 2 rfl
theorem d_C_openShape_5 : decode prog_1_method_18_code 5 = .ok (.astore_n 2, 1) := dOk_get (q := (5, .astore_n 2, 1)) ok_tb_C_openShape_0 3 rfl
theorem d_C_openShape_6 : decode prog_1_method_18_code 6 = .ok (.aload_n 2, 1) := dOk_get (q := (6, .aload_n 2, 1)) ok_tb_C_openShape_0 4 rfl
theorem d_C_openShape_7 : decode prog_1_method_18_code 7 = .ok (.invokevirtual 205, 3) := dOk_get (q := (7, .invokevirtual 205, 3)) ok_tb_C_openShape_0 5 rfl
theorem d_C_openShape_10 : decode prog_1_method_18_code 10 = .ok (.ifCond .eq 13, 3) := dOk_get (q := (10, .ifCond .eq 13, 3)) ok_tb_C_openShape_0 6 rfl
theorem d_C_openShape_13 : decode prog_1_method_18_code 13 = .ok (.new 209, 3) := dOk_get (q := (13, .new 209, 3)) ok_tb_C_openShape_0 7 rfl
theorem d_C_openShape_16 : decode prog_1_method_18_code 16 = .ok (.dup, 1) := dOk_get (q := (16, .dup, 1)) ok_tb_C_openShape_0 8 rfl
theorem d_C_openShape_17 : decode prog_1_method_18_code 17 = .ok (.ldc 211, 2) := dOk_get (q := (17, .ldc 211, 2)) ok_tb_C_openShape_0 9 rfl
theorem d_C_openShape_19 : decode prog_1_method_18_code 19 = .ok (.invokespecial 213, 3) := dOk_get (q := (19, .invokespecial 213, 3)) ok_tb_C_openShape_0 10 rfl
theorem d_C_openShape_22 : decode prog_1_method_18_code 22 = .ok (.athrow, 1) := dOk_get (q := (22, .athrow, 1)) ok_tb_C_openShape_0 11 rfl
theorem d_C_openShape_23 : decode prog_1_method_18_code 23 = .ok (.aload_n 2, 1) := dOk_get (q := (23, .aload_n 2, 1)) ok_tb_C_openShape_0 12 rfl
theorem d_C_openShape_24 : decode prog_1_method_18_code 24 = .ok (.areturn, 1) := dOk_get (q := (24, .areturn, 1)) ok_tb_C_openShape_0 13 rfl
def tb_C_anyShape_0 : List (Nat × Instr × Nat) := [(0, .iload_n 1, 1), (1, .ifCond .lt 14, 3), (4, .iload_n 1, 1), (5, .aload_n 0, 1), (6, .getfield 25, 3), (9, .invokevirtual 66, 3), (12, .if_icmp .lt 13, 3), (15, .new 52, 3), (18, .dup, 1), (19, .ldc 199, 2), (21, .invokespecial 56, 3), (24, .athrow, 1), (25, .aload_n 0, 1), (26, .getfield 25, 3), (29, .iload_n 1, 1), (30, .invokevirtual 201, 3), (33, .checkcast 70, 3), (36, .areturn, 1)]
theorem ok_tb_C_anyShape_0 : dOk prog_1_method_17_code tb_C_anyShape_0 = true := by decide +kernel
theorem d_C_anyShape_0 : decode prog_1_method_17_code 0 = .ok (.iload_n 1, 1) := dOk_get (q := (0, .iload_n 1, 1)) ok_tb_C_anyShape_0 0 rfl
theorem d_C_anyShape_1 : decode prog_1_method_17_code 1 = .ok (.ifCond .lt 14, 3) := dOk_get (q := (1, .ifCond .lt 14, 3)) ok_tb_C_anyShape_0 1 rfl
theorem d_C_anyShape_4 : decode prog_1_method_17_code 4 = .ok (.iload_n 1, 1) := dOk_get (q := (4, .iload_n 1, 1)) ok_tb_C_anyShape_0 2 rfl
theorem d_C_anyShape_5 : decode prog_1_method_17_code 5 = .ok (.aload_n 0, 1) := dOk_get (q := (5, .aload_n 0, 1)) ok_tb_C_anyShape_0 3 rfl
theorem d_C_anyShape_6 : decode prog_1_method_17_code 6 = .ok (.getfield 25, 3) := dOk_get (q := (6, .getfield 25, 3)) ok_tb_C_anyShape_0 4 rfl
theorem d_C_anyShape_9 : decode prog_1_method_17_code 9 = .ok (.invokevirtual 66, 3) := dOk_get (q := (9, .invokevirtual 66, 3)) ok_tb_C_anyShape_0 5 rfl
theorem d_C_anyShape_12 : decode prog_1_method_17_code 12 = .ok (.if_icmp .lt 13, 3) := dOk_get (q := (12, .if_icmp .lt 13, 3)) ok_tb_C_anyShape_0 6 rfl
theorem d_C_anyShape_15 : decode prog_1_method_17_code 15 = .ok (.new 52, 3) := dOk_get (q := (15, .new 52, 3)) ok_tb_C_anyShape_0 7 rfl
theorem d_C_anyShape_18 : decode prog_1_method_17_code 18 = .ok (.dup, 1) := dOk_get (q := (18, .dup, 1)) ok_tb_C_anyShape_0 8 rfl
theorem d_C_anyShape_19 : decode prog_1_method_17_code 19 = .ok (.ldc 199, 2) := dOk_get (q := (19, .ldc 199, 2)) ok_tb_C_anyShape_0 9 rfl
theorem d_C_anyShape_21 : decode prog_1_method_17_code 21 = .ok (.invokespecial 56, 3) := dOk_get (q := (21, .invokespecial 56, 3)) ok_tb_C_anyShape_0 10 rfl
theorem d_C_anyShape_24 : decode prog_1_method_17_code 24 = .ok (.athrow, 1) := dOk_get (q := (24, .athrow, 1)) ok_tb_C_anyShape_0 11 rfl
theorem d_C_anyShape_25 : decode prog_1_method_17_code 25 = .ok (.aload_n 0, 1) := dOk_get (q := (25, .aload_n 0, 1)) ok_tb_C_anyShape_0 12 rfl
theorem d_C_anyShape_26 : decode prog_1_method_17_code 26 = .ok (.getfield 25, 3) := dOk_get (q := (26, .getfield 25, 3)) ok_tb_C_anyShape_0 13 rfl
theorem d_C_anyShape_29 : decode prog_1_method_17_code 29 = .ok (.iload_n 1, 1) := dOk_get (q := (29, .iload_n 1, 1)) ok_tb_C_anyShape_0 14 rfl
theorem d_C_anyShape_30 : decode prog_1_method_17_code 30 = .ok (.invokevirtual 201, 3) := dOk_get (q := (30, .invokevirtual 201, 3)) ok_tb_C_anyShape_0 15 rfl
theorem d_C_anyShape_33 : decode prog_1_method_17_code 33 = .ok (.checkcast 70, 3) := dOk_get (q := (33, .checkcast 70, 3)) ok_tb_C_anyShape_0 16 rfl
theorem d_C_anyShape_36 : decode prog_1_method_17_code 36 = .ok (.areturn, 1) := dOk_get (q := (36, .areturn, 1)) ok_tb_C_anyShape_0 17 rfl
def tb_C_isPlace_0 : List (Nat × Instr × Nat) := [(0, .lload_n 0, 1), (1, .ldc2_w 216, 3), (4, .lcmp, 1), (5, .ifCond .lt 31, 3), (8, .lload_n 0, 1), (9, .ldc2_w 218, 3), (12, .lcmp, 1), (13, .ifCond .gt 23, 3), (16, .lload_n 2, 1), (17, .ldc2_w 216, 3), (20, .lcmp, 1), (21, .ifCond .lt 15, 3), (24, .lload_n 2, 1), (25, .ldc2_w 218, 3), (28, .lcmp, 1), (29, .ifCond .gt 7, 3), (32, .iconst 1, 1), (33, .goto 4, 3), (36, .iconst 0, 1), (37, .ireturn, 1)]
theorem ok_tb_C_isPlace_0 : dOk prog_1_method_20_code tb_C_isPlace_0 = true := by decide +kernel
theorem d_C_isPlace_0 : decode prog_1_method_20_code 0 = .ok (.lload_n 0, 1) := dOk_get (q := (0, .lload_n 0, 1)) ok_tb_C_isPlace_0 0 rfl
theorem d_C_isPlace_1 : decode prog_1_method_20_code 1 = .ok (.ldc2_w 216, 3) := dOk_get (q := (1, .ldc2_w 216, 3)) ok_tb_C_isPlace_0 1 rfl
theorem d_C_isPlace_4 : decode prog_1_method_20_code 4 = .ok (.lcmp, 1) := dOk_get (q := (4, .lcmp, 1)) ok_tb_C_isPlace_0 2 rfl
theorem d_C_isPlace_5 : decode prog_1_method_20_code 5 = .ok (.ifCond .lt 31, 3) := dOk_get (q := (5, .ifCond .lt 31, 3)) ok_tb_C_isPlace_0 3 rfl
theorem d_C_isPlace_8 : decode prog_1_method_20_code 8 = .ok (.lload_n 0, 1) := dOk_get (q := (8, .lload_n 0, 1)) ok_tb_C_isPlace_0 4 rfl
theorem d_C_isPlace_9 : decode prog_1_method_20_code 9 = .ok (.ldc2_w 218, 3) := dOk_get (q := (9, .ldc2_w 218, 3)) ok_tb_C_isPlace_0 5 rfl
theorem d_C_isPlace_12 : decode prog_1_method_20_code 12 = .ok (.lcmp, 1) := dOk_get (q := (12, .lcmp, 1)) ok_tb_C_isPlace_0 6 rfl
theorem d_C_isPlace_13 : decode prog_1_method_20_code 13 = .ok (.ifCond .gt 23, 3) := dOk_get (q := (13, .ifCond .gt 23, 3)) ok_tb_C_isPlace_0 7 rfl
theorem d_C_isPlace_16 : decode prog_1_method_20_code 16 = .ok (.lload_n 2, 1) := dOk_get (q := (16, .lload_n 2, 1)) ok_tb_C_isPlace_0 8 rfl
theorem d_C_isPlace_17 : decode prog_1_method_20_code 17 = .ok (.ldc2_w 216, 3) := dOk_get (q := (17, .ldc2_w 216, 3)) ok_tb_C_isPlace_0 9 rfl
theorem d_C_isPlace_20 : decode prog_1_method_20_code 20 = .ok (.lcmp, 1) := dOk_get (q := (20, .lcmp, 1)) ok_tb_C_isPlace_0 10 rfl
theorem d_C_isPlace_21 : decode prog_1_method_20_code 21 = .ok (.ifCond .lt 15, 3) := dOk_get (q := (21, .ifCond .lt 15, 3)) ok_tb_C_isPlace_0 11 rfl
theorem d_C_isPlace_24 : decode prog_1_method_20_code 24 = .ok (.lload_n 2, 1) := dOk_get (q := (24, .lload_n 2, 1)) ok_tb_C_isPlace_0 12 rfl
theorem d_C_isPlace_25 : decode prog_1_method_20_code 25 = .ok (.ldc2_w 218, 3) := dOk_get (q := (25, .ldc2_w 218, 3)) ok_tb_C_isPlace_0 13 rfl
theorem d_C_isPlace_28 : decode prog_1_method_20_code 28 = .ok (.lcmp, 1) := dOk_get (q := (28, .lcmp, 1)) ok_tb_C_isPlace_0 14 rfl
theorem d_C_isPlace_29 : decode prog_1_method_20_code 29 = .ok (.ifCond .gt 7, 3) := dOk_get (q := (29, .ifCond .gt 7, 3)) ok_tb_C_isPlace_0 15 rfl
theorem d_C_isPlace_32 : decode prog_1_method_20_code 32 = .ok (.iconst 1, 1) := dOk_get (q := (32, .iconst 1, 1)) ok_tb_C_isPlace_0 16 rfl
theorem d_C_isPlace_33 : decode prog_1_method_20_code 33 = .ok (.goto 4, 3) := dOk_get (q := (33, .goto 4, 3)) ok_tb_C_isPlace_0 17 rfl
theorem d_C_isPlace_36 : decode prog_1_method_20_code 36 = .ok (.iconst 0, 1) := dOk_get (q := (36, .iconst 0, 1)) ok_tb_C_isPlace_0 18 rfl
theorem d_C_isPlace_37 : decode prog_1_method_20_code 37 = .ok (.ireturn, 1) := dOk_get (q := (37, .ireturn, 1)) ok_tb_C_isPlace_0 19 rfl
def tb_C_closeShape_0 : List (Nat × Instr × Nat) := [(0, .aload_n 0, 1), (1, .iload_n 1, 1), (2, .invokevirtual 79, 3), (5, .astore 4, 2), (7, .lload_n 2, 1), (8, .lconst 1, 1), (9, .lcmp, 1), (10, .ifCond .lt 11, 3), (13, .lload_n 2, 1), (14, .ldc2_w 92, 3), (17, .lcmp, 1), (18, .ifCond .le 13, 3), (21, .new 59, 3), (24, .dup, 1), (25, .ldc 94, 2), (27, .invokespecial 63, 3), (30, .athrow, 1), (31, .aload 4, 2), (33, .getfield 96, 3), (36, .ifCond .ne 5, 3), (39, .iconst 0, 1), (40, .ireturn, 1), (41, .aload 4, 2), (43, .lload_n 2, 1), (44, .putfield 99, 3), (47, .iconst 1, 1), (48, .ireturn, 1)]
theorem ok_tb_C_closeShape_0 : dOk prog_1_method_4_code tb_C_closeShape_0 = true := by decide +kernel
theorem d_C_closeShape_0 : decode prog_1_method_4_code 0 = .ok (.aload_n 0, 1) := dOk_get (q := (0, .aload_n 0, 1)) ok_tb_C_closeShape_0 0 rfl
theorem d_C_closeShape_1 : decode prog_1_method_4_code 1 = .ok (.iload_n 1, 1) := dOk_get (q := (1, .iload_n 1, 1)) ok_tb_C_closeShape_0 1 rfl
theorem d_C_closeShape_2 : decode prog_1_method_4_code 2 = .ok (.invokevirtual 79, 3) := dOk_get (q := (2, .invokevirtual 79, 3)) ok_tb_C_closeShape_0 2 rfl
theorem d_C_closeShape_5 : decode prog_1_method_4_code 5 = .ok (.astore 4, 2) := dOk_get (q := (5, .astore 4, 2)) ok_tb_C_closeShape_0 3 rfl
theorem d_C_closeShape_7 : decode prog_1_method_4_code 7 = .ok (.lload_n 2, 1) := dOk_get (q := (7, .lload_n 2, 1)) ok_tb_C_closeShape_0 4 rfl
theorem d_C_closeShape_8 : decode prog_1_method_4_code 8 = .ok (.lconst 1, 1) := dOk_get (q := (8, .lconst 1, 1)) ok_tb_C_closeShape_0 5 rfl
theorem d_C_closeShape_9 : decode prog_1_method_4_code 9 = .ok (.lcmp, 1) := dOk_get (q := (9, .lcmp, 1)) ok_tb_C_closeShape_0 6 rfl
theorem d_C_closeShape_10 : decode prog_1_method_4_code 10 = .ok (.ifCond .lt 11, 3) := dOk_get (q := (10, .ifCond .lt 11, 3)) ok_tb_C_closeShape_0 7 rfl
theorem d_C_closeShape_13 : decode prog_1_method_4_code 13 = .ok (.lload_n 2, 1) := dOk_get (q := (13, .lload_n 2, 1)) ok_tb_C_closeShape_0 8 rfl
theorem d_C_closeShape_14 : decode prog_1_method_4_code 14 = .ok (.ldc2_w 92, 3) := dOk_get (q := (14, .ldc2_w 92, 3)) ok_tb_C_closeShape_0 9 rfl
theorem d_C_closeShape_17 : decode prog_1_method_4_code 17 = .ok (.lcmp, 1) := dOk_get (q := (17, .lcmp, 1)) ok_tb_C_closeShape_0 10 rfl
theorem d_C_closeShape_18 : decode prog_1_method_4_code 18 = .ok (.ifCond .le 13, 3) := dOk_get (q := (18, .ifCond .le 13, 3)) ok_tb_C_closeShape_0 11 rfl
theorem d_C_closeShape_21 : decode prog_1_method_4_code 21 = .ok (.new 59, 3) := dOk_get (q := (21, .new 59, 3)) ok_tb_C_closeShape_0 12 rfl
theorem d_C_closeShape_24 : decode prog_1_method_4_code 24 = .ok (.dup, 1) := dOk_get (q := (24, .dup, 1)) ok_tb_C_closeShape_0 13 rfl
theorem d_C_closeShape_25 : decode prog_1_method_4_code 25 = .ok (.ldc 94, 2) := dOk_get (q := (25, .ldc 94, 2)) ok_tb_C_closeShape_0 14 rfl
theorem d_C_closeShape_27 : decode prog_1_method_4_code 27 = .ok (.invokespecial 63, 3) := dOk_get (q := (27, .invokespecial 63, 3)) ok_tb_C_closeShape_0 15 rfl
theorem d_C_closeShape_30 : decode prog_1_method_4_code 30 = .ok (.athrow, 1) := dOk_get (q := (30, .athrow, 1)) ok_tb_C_closeShape_0 16 rfl
theorem d_C_closeShape_31 : decode prog_1_method_4_code 31 = .ok (.aload 4, 2) := dOk_get (q := (31, .aload 4, 2)) ok_tb_C_closeShape_0 17 rfl
theorem d_C_closeShape_33 : decode prog_1_method_4_code 33 = .ok (.getfield 96, 3) := dOk_get (q := (33, .getfield 96, 3)) ok_tb_C_closeShape_0 18 rfl
theorem d_C_closeShape_36 : decode prog_1_method_4_code 36 = .ok (.ifCond .ne 5, 3) := dOk_get (q := (36, .ifCond .ne 5, 3)) ok_tb_C_closeShape_0 19 rfl
theorem d_C_closeShape_39 : decode prog_1_method_4_code 39 = .ok (.iconst 0, 1) := dOk_get (q := (39, .iconst 0, 1)) ok_tb_C_closeShape_0 20 rfl
theorem d_C_closeShape_40 : decode prog_1_method_4_code 40 = .ok (.ireturn, 1) := dOk_get (q := (40, .ireturn, 1)) ok_tb_C_closeShape_0 21 rfl
theorem d_C_closeShape_41 : decode prog_1_method_4_code 41 = .ok (.aload 4, 2) := dOk_get (q := (41, .aload 4, 2)) ok_tb_C_closeShape_0 22 rfl
theorem d_C_closeShape_43 : decode prog_1_method_4_code 43 = .ok (.lload_n 2, 1) := dOk_get (q := (43, .lload_n 2, 1)) ok_tb_C_closeShape_0 23 rfl
theorem d_C_closeShape_44 : decode prog_1_method_4_code 44 = .ok (.putfield 99, 3) := dOk_get (q := (44, .putfield 99, 3)) ok_tb_C_closeShape_0 24 rfl
theorem d_C_closeShape_47 : decode prog_1_method_4_code 47 = .ok (.iconst 1, 1) := dOk_get (q := (47, .iconst 1, 1)) ok_tb_C_closeShape_0 25 rfl
theorem d_C_closeShape_48 : decode prog_1_method_4_code 48 = .ok (.ireturn, 1) := dOk_get (q := (48, .ireturn, 1)) ok_tb_C_closeShape_0 26 rfl
def tb_C_rule_0 : List (Nat × Instr × Nat) := [(0, .iload_n 1, 1), (1, .ifCond .lt 9, 3), (4, .iload_n 1, 1), (5, .bipush 6, 2), (7, .if_icmp .le 13, 3), (10, .new 59, 3), (13, .dup, 1), (14, .ldc 103, 2), (16, .invokespecial 63, 3), (19, .athrow, 1), (20, .iload_n 2, 1), (21, .iconst (-1), 1), (22, .if_icmp .lt 20, 3), (25, .iload_n 2, 1), (26, .bipush 7, 2), (28, .if_icmp .gt 14, 3), (31, .iload_n 3, 1), (32, .iconst (-1), 1), (33, .if_icmp .lt 9, 3), (36, .iload_n 3, 1), (37, .bipush 7, 2), (39, .if_icmp .le 13, 3), (42, .new 59, 3), (45, .dup, 1), (46, .ldc 105, 2), (48, .invokespecial 63, 3), (51, .athrow, 1), (52, .iload_n 1, 1), (53, .iconst 5, 1), (54, .if_icmp .eq 9, 3), (57, .iload_n 1, 1), (58, .bipush 6, 2), (60, .if_icmp .ne 7, 3), (63, .lconst 0, 1), (64, .goto 6, 3), (67, .ldc2_w 92, 3), (70, .lstore 6, 2), (72, .lload 4, 2), (74, .lconst 0, 1), (75, .lcmp, 1), (76, .ifCond .lt 11, 3), (79, .lload 4, 2), (81, .lload 6, 2), (83, .lcmp, 1), (84, .ifCond .le 13, 3), (87, .new 59, 3), (90, .dup, 1), (91, .ldc 107, 2), (93, .invokespecial 63, 3), (96, .athrow, 1), (97, .aload_n 0, 1), (98, .getfield 29, 3), (101, .invokevirtual 66, 3), (104, .istore 8, 2), (106, .iload 8, 2), (108, .bipush 30, 2), (110, .if_icmp .lt 5, 3), (113, .iconst (-1), 1), (114, .ireturn, 1), (115, .aload_n 0, 1), (116, .getfield 29, 3), (119, .new 109, 3), (122, .dup, 1), (123, .iload_n 1, 1), (124, .iload_n 2, 1), (125, .iload_n 3, 1), (126, .lload 4, 2), (128, .invokespecial 111, 3), (131, .invokevirtual 75, 3), (134, .pop, 1), (135, .iload 8, 2), (137, .ireturn, 1)]
theorem ok_tb_C_rule_0 : dOk prog_1_method_5_code tb_C_rule_0 = true := by decide +kernel
theorem d_C_rule_0 : decode prog_1_method_5_code 0 = .ok (.iload_n 1, 1) := dOk_get (q := (0, .iload_n 1, 1)) ok_tb_C_rule_0 0 rfl
theorem d_C_rule_1 : decode prog_1_method_5_code 1 = .ok (.ifCond .lt 9, 3) := dOk_get (q := (1, .ifCond .lt 9, 3)) ok_tb_C_rule_0 1 rfl
theorem d_C_rule_4 : decode prog_1_method_5_code 4 = .ok (.iload_n 1, 1) := dOk_get (q := (4, .iload_n 1, 1)) ok_tb_C_rule_0 2 rfl
theorem d_C_rule_5 : decode prog_1_method_5_code 5 = .ok (.bipush 6, 2) := dOk_get (q := (5, .bipush 6, 2)) ok_tb_C_rule_0 3 rfl
theorem d_C_rule_7 : decode prog_1_method_5_code 7 = .ok (.if_icmp .le 13, 3) := dOk_get (q := (7, .if_icmp .le 13, 3)) ok_tb_C_rule_0 4 rfl
theorem d_C_rule_10 : decode prog_1_method_5_code 10 = .ok (.new 59, 3) := dOk_get (q := (10, .new 59, 3)) ok_tb_C_rule_0 5 rfl
theorem d_C_rule_13 : decode prog_1_method_5_code 13 = .ok (.dup, 1) := dOk_get (q := (13, .dup, 1)) ok_tb_C_rule_0 6 rfl
theorem d_C_rule_14 : decode prog_1_method_5_code 14 = .ok (.ldc 103, 2) := dOk_get (q := (14, .ldc 103, 2)) ok_tb_C_rule_0 7 rfl
theorem d_C_rule_16 : decode prog_1_method_5_code 16 = .ok (.invokespecial 63, 3) := dOk_get (q := (16, .invokespecial 63, 3)) ok_tb_C_rule_0 8 rfl
theorem d_C_rule_19 : decode prog_1_method_5_code 19 = .ok (.athrow, 1) := dOk_get (q := (19, .athrow, 1)) ok_tb_C_rule_0 9 rfl
theorem d_C_rule_20 : decode prog_1_method_5_code 20 = .ok (.iload_n 2, 1) := dOk_get (q := (20, .iload_n 2, 1)) ok_tb_C_rule_0 10 rfl
theorem d_C_rule_21 : decode prog_1_method_5_code 21 = .ok (.iconst (-1), 1) := dOk_get (q := (21, .iconst (-1), 1)) ok_tb_C_rule_0 11 rfl
theorem d_C_rule_22 : decode prog_1_method_5_code 22 = .ok (.if_icmp .lt 20, 3) := dOk_get (q := (22, .if_icmp .lt 20, 3)) ok_tb_C_rule_0 12 rfl
theorem d_C_rule_25 : decode prog_1_method_5_code 25 = .ok (.iload_n 2, 1) := dOk_get (q := (25, .iload_n 2, 1)) ok_tb_C_rule_0 13 rfl
theorem d_C_rule_26 : decode prog_1_method_5_code 26 = .ok (.bipush 7, 2) := dOk_get (q := (26, .bipush 7, 2)) ok_tb_C_rule_0 14 rfl
theorem d_C_rule_28 : decode prog_1_method_5_code 28 = .ok (.if_icmp .gt 14, 3) := dOk_get (q := (28, .if_icmp .gt 14, 3)) ok_tb_C_rule_0 15 rfl
theorem d_C_rule_31 : decode prog_1_method_5_code 31 = .ok (.iload_n 3, 1) := dOk_get (q := (31, .iload_n 3, 1)) ok_tb_C_rule_0 16 rfl
theorem d_C_rule_32 : decode prog_1_method_5_code 32 = .ok (.iconst (-1), 1) := dOk_get (q := (32, .iconst (-1), 1)) ok_tb_C_rule_0 17 rfl
theorem d_C_rule_33 : decode prog_1_method_5_code 33 = .ok (.if_icmp .lt 9, 3) := dOk_get (q := (33, .if_icmp .lt 9, 3)) ok_tb_C_rule_0 18 rfl
theorem d_C_rule_36 : decode prog_1_method_5_code 36 = .ok (.iload_n 3, 1) := dOk_get (q := (36, .iload_n 3, 1)) ok_tb_C_rule_0 19 rfl
theorem d_C_rule_37 : decode prog_1_method_5_code 37 = .ok (.bipush 7, 2) := dOk_get (q := (37, .bipush 7, 2)) ok_tb_C_rule_0 20 rfl
theorem d_C_rule_39 : decode prog_1_method_5_code 39 = .ok (.if_icmp .le 13, 3) := dOk_get (q := (39, .if_icmp .le 13, 3)) ok_tb_C_rule_0 21 rfl
theorem d_C_rule_42 : decode prog_1_method_5_code 42 = .ok (.new 59, 3) := dOk_get (q := (42, .new 59, 3)) ok_tb_C_rule_0 22 rfl
theorem d_C_rule_45 : decode prog_1_method_5_code 45 = .ok (.dup, 1) := dOk_get (q := (45, .dup, 1)) ok_tb_C_rule_0 23 rfl
theorem d_C_rule_46 : decode prog_1_method_5_code 46 = .ok (.ldc 105, 2) := dOk_get (q := (46, .ldc 105, 2)) ok_tb_C_rule_0 24 rfl
theorem d_C_rule_48 : decode prog_1_method_5_code 48 = .ok (.invokespecial 63, 3) := dOk_get (q := (48, .invokespecial 63, 3)) ok_tb_C_rule_0 25 rfl
theorem d_C_rule_51 : decode prog_1_method_5_code 51 = .ok (.athrow, 1) := dOk_get (q := (51, .athrow, 1)) ok_tb_C_rule_0 26 rfl
theorem d_C_rule_52 : decode prog_1_method_5_code 52 = .ok (.iload_n 1, 1) := dOk_get (q := (52, .iload_n 1, 1)) ok_tb_C_rule_0 27 rfl
theorem d_C_rule_53 : decode prog_1_method_5_code 53 = .ok (.iconst 5, 1) := dOk_get (q := (53, .iconst 5, 1)) ok_tb_C_rule_0 28 rfl
theorem d_C_rule_54 : decode prog_1_method_5_code 54 = .ok (.if_icmp .eq 9, 3) := dOk_get (q := (54, .if_icmp .eq 9, 3)) ok_tb_C_rule_0 29 rfl
theorem d_C_rule_57 : decode prog_1_method_5_code 57 = .ok (.iload_n 1, 1) := dOk_get (q := (57, .iload_n 1, 1)) ok_tb_C_rule_0 30 rfl
theorem d_C_rule_58 : decode prog_1_method_5_code 58 = .ok (.bipush 6, 2) := dOk_get (q := (58, .bipush 6, 2)) ok_tb_C_rule_0 31 rfl
theorem d_C_rule_60 : decode prog_1_method_5_code 60 = .ok (.if_icmp .ne 7, 3) := dOk_get (q := (60, .if_icmp .ne 7, 3)) ok_tb_C_rule_0 32 rfl
theorem d_C_rule_63 : decode prog_1_method_5_code 63 = .ok (.lconst 0, 1) := dOk_get (q := (63, .lconst 0, 1)) ok_tb_C_rule_0 33 rfl
theorem d_C_rule_64 : decode prog_1_method_5_code 64 = .ok (.goto 6, 3) := dOk_get (q := (64, .goto 6, 3)) ok_tb_C_rule_0 34 rfl
theorem d_C_rule_67 : decode prog_1_method_5_code 67 = .ok (.ldc2_w 92, 3) := dOk_get (q := (67, .ldc2_w 92, 3)) ok_tb_C_rule_0 35 rfl
theorem d_C_rule_70 : decode prog_1_method_5_code 70 = .ok (.lstore 6, 2) := dOk_get (q := (70, .lstore 6, 2)) ok_tb_C_rule_0 36 rfl
theorem d_C_rule_72 : decode prog_1_method_5_code 72 = .ok (.lload 4, 2) := dOk_get (q := (72, .lload 4, 2)) ok_tb_C_rule_0 37 rfl
theorem d_C_rule_74 : decode prog_1_method_5_code 74 = .ok (.lconst 0, 1) := dOk_get (q := (74, .lconst 0, 1)) ok_tb_C_rule_0 38 rfl
theorem d_C_rule_75 : decode prog_1_method_5_code 75 = .ok (.lcmp, 1) := dOk_get (q := (75, .lcmp, 1)) ok_tb_C_rule_0 39 rfl
theorem d_C_rule_76 : decode prog_1_method_5_code 76 = .ok (.ifCond .lt 11, 3) := dOk_get (q := (76, .ifCond .lt 11, 3)) ok_tb_C_rule_0 40 rfl
theorem d_C_rule_79 : decode prog_1_method_5_code 79 = .ok (.lload 4, 2) := dOk_get (q := (79, .lload 4, 2)) ok_tb_C_rule_0 41 rfl
theorem d_C_rule_81 : decode prog_1_method_5_code 81 = .ok (.lload 6, 2) := dOk_get (q := (81, .lload 6, 2)) ok_tb_C_rule_0 42 rfl
theorem d_C_rule_83 : decode prog_1_method_5_code 83 = .ok (.lcmp, 1) := dOk_get (q := (83, .lcmp, 1)) ok_tb_C_rule_0 43 rfl
theorem d_C_rule_84 : decode prog_1_method_5_code 84 = .ok (.ifCond .le 13, 3) := dOk_get (q := (84, .ifCond .le 13, 3)) ok_tb_C_rule_0 44 rfl
theorem d_C_rule_87 : decode prog_1_method_5_code 87 = .ok (.new 59, 3) := dOk_get (q := (87, .new 59, 3)) ok_tb_C_rule_0 45 rfl
theorem d_C_rule_90 : decode prog_1_method_5_code 90 = .ok (.dup, 1) := dOk_get (q := (90, .dup, 1)) ok_tb_C_rule_0 46 rfl
theorem d_C_rule_91 : decode prog_1_method_5_code 91 = .ok (.ldc 107, 2) := dOk_get (q := (91, .ldc 107, 2)) ok_tb_C_rule_0 47 rfl
theorem d_C_rule_93 : decode prog_1_method_5_code 93 = .ok (.invokespecial 63, 3) := dOk_get (q := (93, .invokespecial 63, 3)) ok_tb_C_rule_0 48 rfl
theorem d_C_rule_96 : decode prog_1_method_5_code 96 = .ok (.athrow, 1) := dOk_get (q := (96, .athrow, 1)) ok_tb_C_rule_0 49 rfl
theorem d_C_rule_97 : decode prog_1_method_5_code 97 = .ok (.aload_n 0, 1) := dOk_get (q := (97, .aload_n 0, 1)) ok_tb_C_rule_0 50 rfl
theorem d_C_rule_98 : decode prog_1_method_5_code 98 = .ok (.getfield 29, 3) := dOk_get (q := (98, .getfield 29, 3)) ok_tb_C_rule_0 51 rfl
theorem d_C_rule_101 : decode prog_1_method_5_code 101 = .ok (.invokevirtual 66, 3) := dOk_get (q := (101, .invokevirtual 66, 3)) ok_tb_C_rule_0 52 rfl
theorem d_C_rule_104 : decode prog_1_method_5_code 104 = .ok (.istore 8, 2) := dOk_get (q := (104, .istore 8, 2)) ok_tb_C_rule_0 53 rfl
theorem d_C_rule_106 : decode prog_1_method_5_code 106 = .ok (.iload 8, 2) := dOk_get (q := (106, .iload 8, 2)) ok_tb_C_rule_0 54 rfl
theorem d_C_rule_108 : decode prog_1_method_5_code 108 = .ok (.bipush 30, 2) := dOk_get (q := (108, .bipush 30, 2)) ok_tb_C_rule_0 55 rfl
theorem d_C_rule_110 : decode prog_1_method_5_code 110 = .ok (.if_icmp .lt 5, 3) := dOk_get (q := (110, .if_icmp .lt 5, 3)) ok_tb_C_rule_0 56 rfl
theorem d_C_rule_113 : decode prog_1_method_5_code 113 = .ok (.iconst (-1), 1) := dOk_get (q := (113, .iconst (-1), 1)) ok_tb_C_rule_0 57 rfl
theorem d_C_rule_114 : decode prog_1_method_5_code 114 = .ok (.ireturn, 1) := dOk_get (q := (114, .ireturn, 1)) ok_tb_C_rule_0 58 rfl
theorem d_C_rule_115 : decode prog_1_method_5_code 115 = .ok (.aload_n 0, 1) := dOk_get (q := (115, .aload_n 0, 1)) ok_tb_C_rule_0 59 rfl
theorem d_C_rule_116 : decode prog_1_method_5_code 116 = .ok (.getfield 29, 3) := dOk_get (q := (116, .getfield 29, 3)) ok_tb_C_rule_0 60 rfl
theorem d_C_rule_119 : decode prog_1_method_5_code 119 = .ok (.new 109, 3) := dOk_get (q := (119, .new 109, 3)) ok_tb_C_rule_0 61 rfl
theorem d_C_rule_122 : decode prog_1_method_5_code 122 = .ok (.dup, 1) := dOk_get (q := (122, .dup, 1)) ok_tb_C_rule_0 62 rfl
theorem d_C_rule_123 : decode prog_1_method_5_code 123 = .ok (.iload_n 1, 1) := dOk_get (q := (123, .iload_n 1, 1)) ok_tb_C_rule_0 63 rfl
theorem d_C_rule_124 : decode prog_1_method_5_code 124 = .ok (.iload_n 2, 1) := dOk_get (q := (124, .iload_n 2, 1)) ok_tb_C_rule_0 64 rfl
theorem d_C_rule_125 : decode prog_1_method_5_code 125 = .ok (.iload_n 3, 1) := dOk_get (q := (125, .iload_n 3, 1)) ok_tb_C_rule_0 65 rfl
theorem d_C_rule_126 : decode prog_1_method_5_code 126 = .ok (.lload 4, 2) := dOk_get (q := (126, .lload 4, 2)) ok_tb_C_rule_0 66 rfl
theorem d_C_rule_128 : decode prog_1_method_5_code 128 = .ok (.invokespecial 111, 3) := dOk_get (q := (128, .invokespecial 111, 3)) ok_tb_C_rule_0 67 rfl
theorem d_C_rule_131 : decode prog_1_method_5_code 131 = .ok (.invokevirtual 75, 3) := dOk_get (q := (131, .invokevirtual 75, 3)) ok_tb_C_rule_0 68 rfl
theorem d_C_rule_134 : decode prog_1_method_5_code 134 = .ok (.pop, 1) := dOk_get (q := (134, .pop, 1)) ok_tb_C_rule_0 69 rfl
theorem d_C_rule_135 : decode prog_1_method_5_code 135 = .ok (.iload 8, 2) := dOk_get (q := (135, .iload 8, 2)) ok_tb_C_rule_0 70 rfl
theorem d_C_rule_137 : decode prog_1_method_5_code 137 = .ok (.ireturn, 1) := dOk_get (q := (137, .ireturn, 1)) ok_tb_C_rule_0 71 rfl
def tb_C_cls_0 : List (Nat × Instr × Nat) := [(0, .aload_n 0, 1), (1, .iload_n 1, 1), (2, .invokevirtual 114, 3), (5, .astore_n 3, 1), (6, .iload_n 2, 1), (7, .ifCond .lt 9, 3), (10, .iload_n 2, 1), (11, .bipush 7, 2), (13, .if_icmp .le 13, 3), (16, .new 59, 3), (19, .dup, 1), (20, .ldc 117, 2), (22, .invokespecial 63, 3), (25, .athrow, 1), (26, .aload_n 3, 1), (27, .getfield 119, 3), (30, .iload_n 2, 1), (31, .if_icmp .eq 7, 3), (34, .iconst 1, 1), (35, .goto 4, 3), (38, .iconst 0, 1), (39, .istore 4, 2), (41, .aload_n 3, 1), (42, .iload_n 2, 1), (43, .putfield 119, 3), (46, .iload 4, 2), (48, .ireturn, 1)]
theorem ok_tb_C_cls_0 : dOk prog_1_method_6_code tb_C_cls_0 = true := by decide +kernel
theorem d_C_cls_0 : decode prog_1_method_6_code 0 = .ok (.aload_n 0, 1) := dOk_get (q := (0, .aload_n 0, 1)) ok_tb_C_cls_0 0 rfl
theorem d_C_cls_1 : decode prog_1_method_6_code 1 = .ok (.iload_n 1, 1) := dOk_get (q := (1, .iload_n 1, 1)) ok_tb_C_cls_0 1 rfl
theorem d_C_cls_2 : decode prog_1_method_6_code 2 = .ok (.invokevirtual 114, 3) := dOk_get (q := (2, .invokevirtual 114, 3)) ok_tb_C_cls_0 2 rfl
theorem d_C_cls_5 : decode prog_1_method_6_code 5 = .ok (.astore_n 3, 1) := dOk_get (q := (5, .astore_n 3, 1)) ok_tb_C_cls_0 3 rfl
theorem d_C_cls_6 : decode prog_1_method_6_code 6 = .ok (.iload_n 2, 1) := dOk_get (q := (6, .iload_n 2, 1)) ok_tb_C_cls_0 4 rfl
theorem d_C_cls_7 : decode prog_1_method_6_code 7 = .ok (.ifCond .lt 9, 3) := dOk_get (q := (7, .ifCond .lt 9, 3)) ok_tb_C_cls_0 5 rfl
theorem d_C_cls_10 : decode prog_1_method_6_code 10 = .ok (.iload_n 2, 1) := dOk_get (q := (10, .iload_n 2, 1)) ok_tb_C_cls_0 6 rfl
theorem d_C_cls_11 : decode prog_1_method_6_code 11 = .ok (.bipush 7, 2) := dOk_get (q := (11, .bipush 7, 2)) ok_tb_C_cls_0 7 rfl
theorem d_C_cls_13 : decode prog_1_method_6_code 13 = .ok (.if_icmp .le 13, 3) := dOk_get (q := (13, .if_icmp .le 13, 3)) ok_tb_C_cls_0 8 rfl
theorem d_C_cls_16 : decode prog_1_method_6_code 16 = .ok (.new 59, 3) := dOk_get (q := (16, .new 59, 3)) ok_tb_C_cls_0 9 rfl
theorem d_C_cls_19 : decode prog_1_method_6_code 19 = .ok (.dup, 1) := dOk_get (q := (19, .dup, 1)) ok_tb_C_cls_0 10 rfl
theorem d_C_cls_20 : decode prog_1_method_6_code 20 = .ok (.ldc 117, 2) := dOk_get (q := (20, .ldc 117, 2)) ok_tb_C_cls_0 11 rfl
theorem d_C_cls_22 : decode prog_1_method_6_code 22 = .ok (.invokespecial 63, 3) := dOk_get (q := (22, .invokespecial 63, 3)) ok_tb_C_cls_0 12 rfl
theorem d_C_cls_25 : decode prog_1_method_6_code 25 = .ok (.athrow, 1) := dOk_get (q := (25, .athrow, 1)) ok_tb_C_cls_0 13 rfl
theorem d_C_cls_26 : decode prog_1_method_6_code 26 = .ok (.aload_n 3, 1) := dOk_get (q := (26, .aload_n 3, 1)) ok_tb_C_cls_0 14 rfl
theorem d_C_cls_27 : decode prog_1_method_6_code 27 = .ok (.getfield 119, 3) := dOk_get (q := (27, .getfield 119, 3)) ok_tb_C_cls_0 15 rfl
theorem d_C_cls_30 : decode prog_1_method_6_code 30 = .ok (.iload_n 2, 1) := dOk_get (q := (30, .iload_n 2, 1)) ok_tb_C_cls_0 16 rfl
theorem d_C_cls_31 : decode prog_1_method_6_code 31 = .ok (.if_icmp .eq 7, 3) := dOk_get (q := (31, .if_icmp .eq 7, 3)) ok_tb_C_cls_0 17 rfl
theorem d_C_cls_34 : decode prog_1_method_6_code 34 = .ok (.iconst 1, 1) := dOk_get (q := (34, .iconst 1, 1)) ok_tb_C_cls_0 18 rfl
theorem d_C_cls_35 : decode prog_1_method_6_code 35 = .ok (.goto 4, 3) := dOk_get (q := (35, .goto 4, 3)) ok_tb_C_cls_0 19 rfl
theorem d_C_cls_38 : decode prog_1_method_6_code 38 = .ok (.iconst 0, 1) := dOk_get (q := (38, .iconst 0, 1)) ok_tb_C_cls_0 20 rfl
theorem d_C_cls_39 : decode prog_1_method_6_code 39 = .ok (.istore 4, 2) := dOk_get (q := (39, .istore 4, 2)) ok_tb_C_cls_0 21 rfl
theorem d_C_cls_41 : decode prog_1_method_6_code 41 = .ok (.aload_n 3, 1) := dOk_get (q := (41, .aload_n 3, 1)) ok_tb_C_cls_0 22 rfl
theorem d_C_cls_42 : decode prog_1_method_6_code 42 = .ok (.iload_n 2, 1) := dOk_get (q := (42, .iload_n 2, 1)) ok_tb_C_cls_0 23 rfl
theorem d_C_cls_43 : decode prog_1_method_6_code 43 = .ok (.putfield 119, 3) := dOk_get (q := (43, .putfield 119, 3)) ok_tb_C_cls_0 24 rfl
theorem d_C_cls_46 : decode prog_1_method_6_code 46 = .ok (.iload 4, 2) := dOk_get (q := (46, .iload 4, 2)) ok_tb_C_cls_0 25 rfl
theorem d_C_cls_48 : decode prog_1_method_6_code 48 = .ok (.ireturn, 1) := dOk_get (q := (48, .ireturn, 1)) ok_tb_C_cls_0 26 rfl
def tb_C_run_0 : List (Nat × Instr × Nat) := [(0, .iload_n 1, 1), (1, .iconst 1, 1), (2, .if_icmp .lt 9, 3), (5, .iload_n 1, 1), (6, .bipush 8, 2), (8, .if_icmp .le 13, 3), (11, .new 59, 3), (14, .dup, 1), (15, .ldc 122, 2), (17, .invokespecial 63, 3), (20, .athrow, 1), (21, .lload_n 2, 1), (22, .aload_n 0, 1), (23, .getfield 49, 3), (26, .i2l, 1), (27, .invokestatic 124, 3), (30, .l2i, 1), (31, .istore 4, 2), (33, .aload_n 0, 1), (34, .getfield 35, 3), (37, .invokevirtual 128, 3), (40, .iconst 0, 1), (41, .istore 5, 2), (43, .iload 5, 2), (45, .iload_n 1, 1), (46, .if_icmp .ge 49, 3), (49, .iload 5, 2), (51, .istore 6, 2), (53, .iload 6, 2), (55, .aload_n 0, 1), (56, .getfield 49, 3), (59, .if_icmp .ge 30, 3), (62, .aload_n 0, 1), (63, .aload_n 0, 1), (64, .getfield 35, 3), (67, .iload 4, 2), (69, .iload 6, 2), (71, .iadd, 1), (72, .aload_n 0, 1), (73, .getfield 49, 3), (76, .irem, 1), (77, .invokevirtual 131, 3), (80, .iload 6, 2), (82, .iload_n 1, 1), (83, .iadd, 1), (84, .istore 6, 2), (86, .goto (-33), 3), (89, .iinc 5 1, 3), (92, .goto (-49), 3), (95, .aload_n 0, 1), (96, .getfield 35, 3), (99, .invokevirtual 135, 3), (102, .aload_n 0, 1), (103, .invokevirtual 138, 3), (106, .ireturn, 1)]
theorem ok_tb_C_run_0 : dOk prog_1_method_7_code tb_C_run_0 = true := by decide +kernel
theorem d_C_run_0 : decode prog_1_method_7_code 0 = .ok (.iload_n 1, 1) := dOk_get (q := (0, .iload_n 1, 1)) ok_tb_C_run_0 0 rfl
theorem d_C_run_1 : decode prog_1_method_7_code 1 = .ok (.iconst 1, 1) := dOk_get (q := (1, .iconst 1, 1)) ok_tb_C_run_0 1 rfl
theorem d_C_run_2 : decode prog_1_method_7_code 2 = .ok (.if_icmp .lt 9, 3) := dOk_get (q := (2, .if_icmp .lt 9, 3)) ok_tb_C_run_0 2 rfl
theorem d_C_run_5 : decode prog_1_method_7_code 5 = .ok (.iload_n 1, 1) := dOk_get (q := (5, .iload_n 1, 1)) ok_tb_C_run_0 3 rfl
theorem d_C_run_6 : decode prog_1_method_7_code 6 = .ok (.bipush 8, 2) := dOk_get (q := (6, .bipush 8, 2)) ok_tb_C_run_0 4 rfl
theorem d_C_run_8 : decode prog_1_method_7_code 8 = .ok (.if_icmp .le 13, 3) := dOk_get (q := (8, .if_icmp .le 13, 3)) ok_tb_C_run_0 5 rfl
theorem d_C_run_11 : decode prog_1_method_7_code 11 = .ok (.new 59, 3) := dOk_get (q := (11, .new 59, 3)) ok_tb_C_run_0 6 rfl
theorem d_C_run_14 : decode prog_1_method_7_code 14 = .ok (.dup, 1) := dOk_get (q := (14, .dup, 1)) ok_tb_C_run_0 7 rfl
theorem d_C_run_15 : decode prog_1_method_7_code 15 = .ok (.ldc 122, 2) := dOk_get (q := (15, .ldc 122, 2)) ok_tb_C_run_0 8 rfl
theorem d_C_run_17 : decode prog_1_method_7_code 17 = .ok (.invokespecial 63, 3) := dOk_get (q := (17, .invokespecial 63, 3)) ok_tb_C_run_0 9 rfl
theorem d_C_run_20 : decode prog_1_method_7_code 20 = .ok (.athrow, 1) := dOk_get (q := (20, .athrow, 1)) ok_tb_C_run_0 10 rfl
theorem d_C_run_21 : decode prog_1_method_7_code 21 = .ok (.lload_n 2, 1) := dOk_get (q := (21, .lload_n 2, 1)) ok_tb_C_run_0 11 rfl
theorem d_C_run_22 : decode prog_1_method_7_code 22 = .ok (.aload_n 0, 1) := dOk_get (q := (22, .aload_n 0, 1)) ok_tb_C_run_0 12 rfl
theorem d_C_run_23 : decode prog_1_method_7_code 23 = .ok (.getfield 49, 3) := dOk_get (q := (23, .getfield 49, 3)) ok_tb_C_run_0 13 rfl
theorem d_C_run_26 : decode prog_1_method_7_code 26 = .ok (.i2l, 1) := dOk_get (q := (26, .i2l, 1)) ok_tb_C_run_0 14 rfl
theorem d_C_run_27 : decode prog_1_method_7_code 27 = .ok (.invokestatic 124, 3) := dOk_get (q := (27, .invokestatic 124, 3)) ok_tb_C_run_0 15 rfl
theorem d_C_run_30 : decode prog_1_method_7_code 30 = .ok (.l2i, 1) := dOk_get (q := (30, .l2i, 1)) ok_tb_C_run_0 16 rfl
theorem d_C_run_31 : decode prog_1_method_7_code 31 = .ok (.istore 4, 2) := dOk_get (q := (31, .istore 4, 2)) ok_tb_C_run_0 17 rfl
theorem d_C_run_33 : decode prog_1_method_7_code 33 = .ok (.aload_n 0, 1) := dOk_get (q := (33, .aload_n 0, 1)) ok_tb_C_run_0 18 rfl
theorem d_C_run_34 : decode prog_1_method_7_code 34 = .ok (.getfield 35, 3) := dOk_get (q := (34, .getfield 35, 3)) ok_tb_C_run_0 19 rfl
theorem d_C_run_37 : decode prog_1_method_7_code 37 = .ok (.invokevirtual 128, 3) := dOk_get (q := (37, .invokevirtual 128, 3)) ok_tb_C_run_0 20 rfl
theorem d_C_run_40 : decode prog_1_method_7_code 40 = .ok (.iconst 0, 1) := dOk_get (q := (40, .iconst 0, 1)) ok_tb_C_run_0 21 rfl
theorem d_C_run_41 : decode prog_1_method_7_code 41 = .ok (.istore 5, 2) := dOk_get (q := (41, .istore 5, 2)) ok_tb_C_run_0 22 rfl
theorem d_C_run_43 : decode prog_1_method_7_code 43 = .ok (.iload 5, 2) := dOk_get (q := (43, .iload 5, 2)) ok_tb_C_run_0 23 rfl
theorem d_C_run_45 : decode prog_1_method_7_code 45 = .ok (.iload_n 1, 1) := dOk_get (q := (45, .iload_n 1, 1)) ok_tb_C_run_0 24 rfl
theorem d_C_run_46 : decode prog_1_method_7_code 46 = .ok (.if_icmp .ge 49, 3) := dOk_get (q := (46, .if_icmp .ge 49, 3)) ok_tb_C_run_0 25 rfl
theorem d_C_run_49 : decode prog_1_method_7_code 49 = .ok (.iload 5, 2) := dOk_get (q := (49, .iload 5, 2)) ok_tb_C_run_0 26 rfl
theorem d_C_run_51 : decode prog_1_method_7_code 51 = .ok (.istore 6, 2) := dOk_get (q := (51, .istore 6, 2)) ok_tb_C_run_0 27 rfl
theorem d_C_run_53 : decode prog_1_method_7_code 53 = .ok (.iload 6, 2) := dOk_get (q := (53, .iload 6, 2)) ok_tb_C_run_0 28 rfl
theorem d_C_run_55 : decode prog_1_method_7_code 55 = .ok (.aload_n 0, 1) := dOk_get (q := (55, .aload_n 0, 1)) ok_tb_C_run_0 29 rfl
theorem d_C_run_56 : decode prog_1_method_7_code 56 = .ok (.getfield 49, 3) := dOk_get (q := (56, .getfield 49, 3)) ok_tb_C_run_0 30 rfl
theorem d_C_run_59 : decode prog_1_method_7_code 59 = .ok (.if_icmp .ge 30, 3) := dOk_get (q := (59, .if_icmp .ge 30, 3)) ok_tb_C_run_0 31 rfl
theorem d_C_run_62 : decode prog_1_method_7_code 62 = .ok (.aload_n 0, 1) := dOk_get (q := (62, .aload_n 0, 1)) ok_tb_C_run_0 32 rfl
theorem d_C_run_63 : decode prog_1_method_7_code 63 = .ok (.aload_n 0, 1) := dOk_get (q := (63, .aload_n 0, 1)) ok_tb_C_run_0 33 rfl
theorem d_C_run_64 : decode prog_1_method_7_code 64 = .ok (.getfield 35, 3) := dOk_get (q := (64, .getfield 35, 3)) ok_tb_C_run_0 34 rfl
theorem d_C_run_67 : decode prog_1_method_7_code 67 = .ok (.iload 4, 2) := dOk_get (q := (67, .iload 4, 2)) ok_tb_C_run_0 35 rfl
theorem d_C_run_69 : decode prog_1_method_7_code 69 = .ok (.iload 6, 2) := dOk_get (q := (69, .iload 6, 2)) ok_tb_C_run_0 36 rfl
theorem d_C_run_71 : decode prog_1_method_7_code 71 = .ok (.iadd, 1) := dOk_get (q := (71, .iadd, 1)) ok_tb_C_run_0 37 rfl
theorem d_C_run_72 : decode prog_1_method_7_code 72 = .ok (.aload_n 0, 1) := dOk_get (q := (72, .aload_n 0, 1)) ok_tb_C_run_0 38 rfl
theorem d_C_run_73 : decode prog_1_method_7_code 73 = .ok (.getfield 49, 3) := dOk_get (q := (73, .getfield 49, 3)) ok_tb_C_run_0 39 rfl
theorem d_C_run_76 : decode prog_1_method_7_code 76 = .ok (.irem, 1) := dOk_get (q := (76, .irem, 1)) ok_tb_C_run_0 40 rfl
theorem d_C_run_77 : decode prog_1_method_7_code 77 = .ok (.invokevirtual 131, 3) := dOk_get (q := (77, .invokevirtual 131, 3)) ok_tb_C_run_0 41 rfl
theorem d_C_run_80 : decode prog_1_method_7_code 80 = .ok (.iload 6, 2) := dOk_get (q := (80, .iload 6, 2)) ok_tb_C_run_0 42 rfl
theorem d_C_run_82 : decode prog_1_method_7_code 82 = .ok (.iload_n 1, 1) := dOk_get (q := (82, .iload_n 1, 1)) ok_tb_C_run_0 43 rfl
theorem d_C_run_83 : decode prog_1_method_7_code 83 = .ok (.iadd, 1) := dOk_get (q := (83, .iadd, 1)) ok_tb_C_run_0 44 rfl
theorem d_C_run_84 : decode prog_1_method_7_code 84 = .ok (.istore 6, 2) := dOk_get (q := (84, .istore 6, 2)) ok_tb_C_run_0 45 rfl
theorem d_C_run_86 : decode prog_1_method_7_code 86 = .ok (.goto (-33), 3) := dOk_get (q := (86, .goto (-33), 3)) ok_tb_C_run_0 46 rfl
theorem d_C_run_89 : decode prog_1_method_7_code 89 = .ok (.iinc 5 1, 3) := dOk_get (q := (89, .iinc 5 1, 3)) ok_tb_C_run_0 47 rfl
theorem d_C_run_92 : decode prog_1_method_7_code 92 = .ok (.goto (-49), 3) := dOk_get (q := (92, .goto (-49), 3)) ok_tb_C_run_0 48 rfl
theorem d_C_run_95 : decode prog_1_method_7_code 95 = .ok (.aload_n 0, 1) := dOk_get (q := (95, .aload_n 0, 1)) ok_tb_C_run_0 49 rfl
theorem d_C_run_96 : decode prog_1_method_7_code 96 = .ok (.getfield 35, 3) := dOk_get (q := (96, .getfield 35, 3)) ok_tb_C_run_0 50 rfl
theorem d_C_run_99 : decode prog_1_method_7_code 99 = .ok (.invokevirtual 135, 3) := dOk_get (q := (99, .invokevirtual 135, 3)) ok_tb_C_run_0 51 rfl
theorem d_C_run_102 : decode prog_1_method_7_code 102 = .ok (.aload_n 0, 1) := dOk_get (q := (102, .aload_n 0, 1)) ok_tb_C_run_0 52 rfl
theorem d_C_run_103 : decode prog_1_method_7_code 103 = .ok (.invokevirtual 138, 3) := dOk_get (q := (103, .invokevirtual 138, 3)) ok_tb_C_run_0 53 rfl
theorem d_C_run_106 : decode prog_1_method_7_code 106 = .ok (.ireturn, 1) := dOk_get (q := (106, .ireturn, 1)) ok_tb_C_run_0 54 rfl
def tb_C_countNotWaived_0 : List (Nat × Instr × Nat) := [(0, .iconst 0, 1), (1, .istore_n 1, 1), (2, .iconst 0, 1), (3, .istore_n 2, 1), (4, .iload_n 2, 1), (5, .aload_n 0, 1), (6, .getfield 35, 3), (9, .getfield 175, 3), (12, .if_icmp .ge 27, 3), (15, .aload_n 0, 1), (16, .aload_n 0, 1), (17, .getfield 35, 3), (20, .iload_n 2, 1), (21, .invokevirtual 155, 3), (24, .invokevirtual 158, 3), (27, .ifCond .ne 6, 3), (30, .iinc 1 1, 3), (33, .iinc 2 1, 3), (36, .goto (-32), 3), (39, .iload_n 1, 1), (40, .ireturn, 1)]
theorem ok_tb_C_countNotWaived_0 : dOk prog_1_method_22_code tb_C_countNotWaived_0 = true := by decide +kernel
theorem d_C_countNotWaived_0 : decode prog_1_method_22_code 0 = .ok (.iconst 0, 1) := dOk_get (q := (0, .iconst 0, 1)) ok_tb_C_countNotWaived_0 0 rfl
theorem d_C_countNotWaived_1 : decode prog_1_method_22_code 1 = .ok (.istore_n 1, 1) := dOk_get (q := (1, .istore_n 1, 1)) ok_tb_C_countNotWaived_0 1 rfl
theorem d_C_countNotWaived_2 : decode prog_1_method_22_code 2 = .ok (.iconst 0, 1) := dOk_get (q := (2, .iconst 0, 1)) ok_tb_C_countNotWaived_0 2 rfl
theorem d_C_countNotWaived_3 : decode prog_1_method_22_code 3 = .ok (.istore_n 2, 1) := dOk_get (q := (3, .istore_n 2, 1)) ok_tb_C_countNotWaived_0 3 rfl
theorem d_C_countNotWaived_4 : decode prog_1_method_22_code 4 = .ok (.iload_n 2, 1) := dOk_get (q := (4, .iload_n 2, 1)) ok_tb_C_countNotWaived_0 4 rfl
theorem d_C_countNotWaived_5 : decode prog_1_method_22_code 5 = .ok (.aload_n 0, 1) := dOk_get (q := (5, .aload_n 0, 1)) ok_tb_C_countNotWaived_0 5 rfl
theorem d_C_countNotWaived_6 : decode prog_1_method_22_code 6 = .ok (.getfield 35, 3) := dOk_get (q := (6, .getfield 35, 3)) ok_tb_C_countNotWaived_0 6 rfl
theorem d_C_countNotWaived_9 : decode prog_1_method_22_code 9 = .ok (.getfield 175, 3) := dOk_get (q := (9, .getfield 175, 3)) ok_tb_C_countNotWaived_0 7 rfl
theorem d_C_countNotWaived_12 : decode prog_1_method_22_code 12 = .ok (.if_icmp .ge 27, 3) := dOk_get (q := (12, .if_icmp .ge 27, 3)) ok_tb_C_countNotWaived_0 8 rfl
theorem d_C_countNotWaived_15 : decode prog_1_method_22_code 15 = .ok (.aload_n 0, 1) := dOk_get (q := (15, .aload_n 0, 1)) ok_tb_C_countNotWaived_0 9 rfl
theorem d_C_countNotWaived_16 : decode prog_1_method_22_code 16 = .ok (.aload_n 0, 1) := dOk_get (q := (16, .aload_n 0, 1)) ok_tb_C_countNotWaived_0 10 rfl
theorem d_C_countNotWaived_17 : decode prog_1_method_22_code 17 = .ok (.getfield 35, 3) := dOk_get (q := (17, .getfield 35, 3)) ok_tb_C_countNotWaived_0 11 rfl
theorem d_C_countNotWaived_20 : decode prog_1_method_22_code 20 = .ok (.iload_n 2, 1) := dOk_get (q := (20, .iload_n 2, 1)) ok_tb_C_countNotWaived_0 12 rfl
theorem d_C_countNotWaived_21 : decode prog_1_method_22_code 21 = .ok (.invokevirtual 155, 3) := dOk_get (q := (21, .invokevirtual 155, 3)) ok_tb_C_countNotWaived_0 13 rfl
theorem d_C_countNotWaived_24 : decode prog_1_method_22_code 24 = .ok (.invokevirtual 158, 3) := dOk_get (q := (24, .invokevirtual 158, 3)) ok_tb_C_countNotWaived_0 14 rfl
theorem d_C_countNotWaived_27 : decode prog_1_method_22_code 27 = .ok (.ifCond .ne 6, 3) := dOk_get (q := (27, .ifCond .ne 6, 3)) ok_tb_C_countNotWaived_0 15 rfl
theorem d_C_countNotWaived_30 : decode prog_1_method_22_code 30 = .ok (.iinc 1 1, 3) := dOk_get (q := (30, .iinc 1 1, 3)) ok_tb_C_countNotWaived_0 16 rfl
theorem d_C_countNotWaived_33 : decode prog_1_method_22_code 33 = .ok (.iinc 2 1, 3) := dOk_get (q := (33, .iinc 2 1, 3)) ok_tb_C_countNotWaived_0 17 rfl
theorem d_C_countNotWaived_36 : decode prog_1_method_22_code 36 = .ok (.goto (-32), 3) := dOk_get (q := (36, .goto (-32), 3)) ok_tb_C_countNotWaived_0 18 rfl
theorem d_C_countNotWaived_39 : decode prog_1_method_22_code 39 = .ok (.iload_n 1, 1) := dOk_get (q := (39, .iload_n 1, 1)) ok_tb_C_countNotWaived_0 19 rfl
theorem d_C_countNotWaived_40 : decode prog_1_method_22_code 40 = .ok (.ireturn, 1) := dOk_get (q := (40, .ireturn, 1)) ok_tb_C_countNotWaived_0 20 rfl
def tb_C_isWaived_0 : List (Nat × Instr × Nat) := [(0, .iconst 0, 1), (1, .istore_n 2, 1), (2, .iload_n 2, 1), (3, .aload_n 0, 1), (4, .getfield 46, 3), (7, .if_icmp .ge 21, 3), (10, .aload_n 0, 1), (11, .getfield 42, 3), (14, .iload_n 2, 1), (15, .iaload, 1), (16, .iload_n 1, 1), (17, .if_icmp .ne 5, 3), (20, .iconst 1, 1), (21, .ireturn, 1), (22, .iinc 2 1, 3), (25, .goto (-23), 3), (28, .iconst 0, 1), (29, .ireturn, 1)]
theorem ok_tb_C_isWaived_0 : dOk prog_1_method_21_code tb_C_isWaived_0 = true := by decide +kernel
theorem d_C_isWaived_0 : decode prog_1_method_21_code 0 = .ok (.iconst 0, 1) := dOk_get (q := (0, .iconst 0, 1)) ok_tb_C_isWaived_0 0 rfl
theorem d_C_isWaived_1 : decode prog_1_method_21_code 1 = .ok (.istore_n 2, 1) := dOk_get (q := (1, .istore_n 2, 1)) ok_tb_C_isWaived_0 1 rfl
theorem d_C_isWaived_2 : decode prog_1_method_21_code 2 = .ok (.iload_n 2, 1) := dOk_get (q := (2, .iload_n 2, 1)) ok_tb_C_isWaived_0 2 rfl
theorem d_C_isWaived_3 : decode prog_1_method_21_code 3 = .ok (.aload_n 0, 1) := dOk_get (q := (3, .aload_n 0, 1)) ok_tb_C_isWaived_0 3 rfl
theorem d_C_isWaived_4 : decode prog_1_method_21_code 4 = .ok (.getfield 46, 3) := dOk_get (q := (4, .getfield 46, 3)) ok_tb_C_isWaived_0 4 rfl
theorem d_C_isWaived_7 : decode prog_1_method_21_code 7 = .ok (.if_icmp .ge 21, 3) := dOk_get (q := (7, .if_icmp .ge 21, 3)) ok_tb_C_isWaived_0 5 rfl
theorem d_C_isWaived_10 : decode prog_1_method_21_code 10 = .ok (.aload_n 0, 1) := dOk_get (q := (10, .aload_n 0, 1)) ok_tb_C_isWaived_0 6 rfl
theorem d_C_isWaived_11 : decode prog_1_method_21_code 11 = .ok (.getfield 42, 3) := dOk_get (q := (11, .getfield 42, 3)) ok_tb_C_isWaived_0 7 rfl
theorem d_C_isWaived_14 : decode prog_1_method_21_code 14 = .ok (.iload_n 2, 1) := dOk_get (q := (14, .iload_n 2, 1)) ok_tb_C_isWaived_0 8 rfl
theorem d_C_isWaived_15 : decode prog_1_method_21_code 15 = .ok (.iaload, 1) := dOk_get (q := (15, .iaload, 1)) ok_tb_C_isWaived_0 9 rfl
theorem d_C_isWaived_16 : decode prog_1_method_21_code 16 = .ok (.iload_n 1, 1) := dOk_get (q := (16, .iload_n 1, 1)) ok_tb_C_isWaived_0 10 rfl
theorem d_C_isWaived_17 : decode prog_1_method_21_code 17 = .ok (.if_icmp .ne 5, 3) := dOk_get (q := (17, .if_icmp .ne 5, 3)) ok_tb_C_isWaived_0 11 rfl
theorem d_C_isWaived_20 : decode prog_1_method_21_code 20 = .ok (.iconst 1, 1) := dOk_get (q := (20, .iconst 1, 1)) ok_tb_C_isWaived_0 12 rfl
theorem d_C_isWaived_21 : decode prog_1_method_21_code 21 = .ok (.ireturn, 1) := dOk_get (q := (21, .ireturn, 1)) ok_tb_C_isWaived_0 13 rfl
theorem d_C_isWaived_22 : decode prog_1_method_21_code 22 = .ok (.iinc 2 1, 3) := dOk_get (q := (22, .iinc 2 1, 3)) ok_tb_C_isWaived_0 14 rfl
theorem d_C_isWaived_25 : decode prog_1_method_21_code 25 = .ok (.goto (-23), 3) := dOk_get (q := (25, .goto (-23), 3)) ok_tb_C_isWaived_0 15 rfl
theorem d_C_isWaived_28 : decode prog_1_method_21_code 28 = .ok (.iconst 0, 1) := dOk_get (q := (28, .iconst 0, 1)) ok_tb_C_isWaived_0 16 rfl
theorem d_C_isWaived_29 : decode prog_1_method_21_code 29 = .ok (.ireturn, 1) := dOk_get (q := (29, .ireturn, 1)) ok_tb_C_isWaived_0 17 rfl
def tb_C_violation_0 : List (Nat × Instr × Nat) := [(0, .aload_n 0, 1), (1, .iload_n 1, 1), (2, .invokevirtual 141, 3), (5, .iload_n 2, 1), (6, .tableswitch 78 0 3 #[30, 39, 48, 57], 30), (36, .aload_n 0, 1), (37, .getfield 35, 3), (40, .iload_n 1, 1), (41, .invokevirtual 145, 3), (44, .ireturn, 1), (45, .aload_n 0, 1), (46, .getfield 35, 3), (49, .iload_n 1, 1), (50, .invokevirtual 149, 3), (53, .ireturn, 1), (54, .aload_n 0, 1), (55, .getfield 35, 3), (58, .iload_n 1, 1), (59, .invokevirtual 152, 3), (62, .ireturn, 1), (63, .aload_n 0, 1), (64, .aload_n 0, 1), (65, .getfield 35, 3), (68, .iload_n 1, 1), (69, .invokevirtual 155, 3), (72, .invokevirtual 158, 3), (75, .ifCond .eq 7, 3), (78, .iconst 1, 1), (79, .goto 4, 3), (82, .iconst 0, 1), (83, .ireturn, 1), (84, .new 52, 3), (87, .dup, 1), (88, .ldc 162, 2), (90, .invokespecial 56, 3), (93, .athrow, 1)]
theorem ok_tb_C_violation_0 : dOk prog_1_method_8_code tb_C_violation_0 = true := by decide +kernel
theorem d_C_violation_0 : decode prog_1_method_8_code 0 = .ok (.aload_n 0, 1) := dOk_get (q := (0, .aload_n 0, 1)) ok_tb_C_violation_0 0 rfl
theorem d_C_violation_1 : decode prog_1_method_8_code 1 = .ok (.iload_n 1, 1) := dOk_get (q := (1, .iload_n 1, 1)) ok_tb_C_violation_0 1 rfl
theorem d_C_violation_2 : decode prog_1_method_8_code 2 = .ok (.invokevirtual 141, 3) := dOk_get (q := (2, .invokevirtual 141, 3)) ok_tb_C_violation_0 2 rfl
theorem d_C_violation_5 : decode prog_1_method_8_code 5 = .ok (.iload_n 2, 1) := dOk_get (q := (5, .iload_n 2, 1)) ok_tb_C_violation_0 3 rfl
theorem d_C_violation_6 : decode prog_1_method_8_code 6 = .ok (.tableswitch 78 0 3 #[30, 39, 48, 57], 30) := dOk_get (q := (6, .tableswitch 78 0 3 #[30, 39, 48, 57], 30)) ok_tb_C_violation_0 4 rfl
theorem d_C_violation_36 : decode prog_1_method_8_code 36 = .ok (.aload_n 0, 1) := dOk_get (q := (36, .aload_n 0, 1)) ok_tb_C_violation_0 5 rfl
theorem d_C_violation_37 : decode prog_1_method_8_code 37 = .ok (.getfield 35, 3) := dOk_get (q := (37, .getfield 35, 3)) ok_tb_C_violation_0 6 rfl
theorem d_C_violation_40 : decode prog_1_method_8_code 40 = .ok (.iload_n 1, 1) := dOk_get (q := (40, .iload_n 1, 1)) ok_tb_C_violation_0 7 rfl
theorem d_C_violation_41 : decode prog_1_method_8_code 41 = .ok (.invokevirtual 145, 3) := dOk_get (q := (41, .invokevirtual 145, 3)) ok_tb_C_violation_0 8 rfl
theorem d_C_violation_44 : decode prog_1_method_8_code 44 = .ok (.ireturn, 1) := dOk_get (q := (44, .ireturn, 1)) ok_tb_C_violation_0 9 rfl
theorem d_C_violation_45 : decode prog_1_method_8_code 45 = .ok (.aload_n 0, 1) := dOk_get (q := (45, .aload_n 0, 1)) ok_tb_C_violation_0 10 rfl
theorem d_C_violation_46 : decode prog_1_method_8_code 46 = .ok (.getfield 35, 3) := dOk_get (q := (46, .getfield 35, 3)) ok_tb_C_violation_0 11 rfl
theorem d_C_violation_49 : decode prog_1_method_8_code 49 = .ok (.iload_n 1, 1) := dOk_get (q := (49, .iload_n 1, 1)) ok_tb_C_violation_0 12 rfl
theorem d_C_violation_50 : decode prog_1_method_8_code 50 = .ok (.invokevirtual 149, 3) := dOk_get (q := (50, .invokevirtual 149, 3)) ok_tb_C_violation_0 13 rfl
theorem d_C_violation_53 : decode prog_1_method_8_code 53 = .ok (.ireturn, 1) := dOk_get (q := (53, .ireturn, 1)) ok_tb_C_violation_0 14 rfl
theorem d_C_violation_54 : decode prog_1_method_8_code 54 = .ok (.aload_n 0, 1) := dOk_get (q := (54, .aload_n 0, 1)) ok_tb_C_violation_0 15 rfl
theorem d_C_violation_55 : decode prog_1_method_8_code 55 = .ok (.getfield 35, 3) := dOk_get (q := (55, .getfield 35, 3)) ok_tb_C_violation_0 16 rfl
theorem d_C_violation_58 : decode prog_1_method_8_code 58 = .ok (.iload_n 1, 1) := dOk_get (q := (58, .iload_n 1, 1)) ok_tb_C_violation_0 17 rfl
theorem d_C_violation_59 : decode prog_1_method_8_code 59 = .ok (.invokevirtual 152, 3) := dOk_get (q := (59, .invokevirtual 152, 3)) ok_tb_C_violation_0 18 rfl
theorem d_C_violation_62 : decode prog_1_method_8_code 62 = .ok (.ireturn, 1) := dOk_get (q := (62, .ireturn, 1)) ok_tb_C_violation_0 19 rfl
theorem d_C_violation_63 : decode prog_1_method_8_code 63 = .ok (.aload_n 0, 1) := dOk_get (q := (63, .aload_n 0, 1)) ok_tb_C_violation_0 20 rfl
theorem d_C_violation_64 : decode prog_1_method_8_code 64 = .ok (.aload_n 0, 1) := dOk_get (q := (64, .aload_n 0, 1)) ok_tb_C_violation_0 21 rfl
theorem d_C_violation_65 : decode prog_1_method_8_code 65 = .ok (.getfield 35, 3) := dOk_get (q := (65, .getfield 35, 3)) ok_tb_C_violation_0 22 rfl
theorem d_C_violation_68 : decode prog_1_method_8_code 68 = .ok (.iload_n 1, 1) := dOk_get (q := (68, .iload_n 1, 1)) ok_tb_C_violation_0 23 rfl
theorem d_C_violation_69 : decode prog_1_method_8_code 69 = .ok (.invokevirtual 155, 3) := dOk_get (q := (69, .invokevirtual 155, 3)) ok_tb_C_violation_0 24 rfl
theorem d_C_violation_72 : decode prog_1_method_8_code 72 = .ok (.invokevirtual 158, 3) := dOk_get (q := (72, .invokevirtual 158, 3)) ok_tb_C_violation_0 25 rfl
theorem d_C_violation_75 : decode prog_1_method_8_code 75 = .ok (.ifCond .eq 7, 3) := dOk_get (q := (75, .ifCond .eq 7, 3)) ok_tb_C_violation_0 26 rfl
theorem d_C_violation_78 : decode prog_1_method_8_code 78 = .ok (.iconst 1, 1) := dOk_get (q := (78, .iconst 1, 1)) ok_tb_C_violation_0 27 rfl
theorem d_C_violation_79 : decode prog_1_method_8_code 79 = .ok (.goto 4, 3) := dOk_get (q := (79, .goto 4, 3)) ok_tb_C_violation_0 28 rfl
theorem d_C_violation_82 : decode prog_1_method_8_code 82 = .ok (.iconst 0, 1) := dOk_get (q := (82, .iconst 0, 1)) ok_tb_C_violation_0 29 rfl
theorem d_C_violation_83 : decode prog_1_method_8_code 83 = .ok (.ireturn, 1) := dOk_get (q := (83, .ireturn, 1)) ok_tb_C_violation_0 30 rfl
theorem d_C_violation_84 : decode prog_1_method_8_code 84 = .ok (.new 52, 3) := dOk_get (q := (84, .new 52, 3)) ok_tb_C_violation_0 31 rfl
theorem d_C_violation_87 : decode prog_1_method_8_code 87 = .ok (.dup, 1) := dOk_get (q := (87, .dup, 1)) ok_tb_C_violation_0 32 rfl
theorem d_C_violation_88 : decode prog_1_method_8_code 88 = .ok (.ldc 162, 2) := dOk_get (q := (88, .ldc 162, 2)) ok_tb_C_violation_0 33 rfl
theorem d_C_violation_90 : decode prog_1_method_8_code 90 = .ok (.invokespecial 56, 3) := dOk_get (q := (90, .invokespecial 56, 3)) ok_tb_C_violation_0 34 rfl
theorem d_C_violation_93 : decode prog_1_method_8_code 93 = .ok (.athrow, 1) := dOk_get (q := (93, .athrow, 1)) ok_tb_C_violation_0 35 rfl
def tb_C_requireFinding_0 : List (Nat × Instr × Nat) := [(0, .iload_n 1, 1), (1, .ifCond .lt 14, 3), (4, .iload_n 1, 1), (5, .aload_n 0, 1), (6, .getfield 35, 3), (9, .getfield 175, 3), (12, .if_icmp .lt 13, 3), (15, .new 52, 3), (18, .dup, 1), (19, .ldc 214, 2), (21, .invokespecial 56, 3), (24, .athrow, 1), (25, .return_, 1)]
theorem ok_tb_C_requireFinding_0 : dOk prog_1_method_19_code tb_C_requireFinding_0 = true := by decide +kernel
theorem d_C_requireFinding_0 : decode prog_1_method_19_code 0 = .ok (.iload_n 1, 1) := dOk_get (q := (0, .iload_n 1, 1)) ok_tb_C_requireFinding_0 0 rfl
theorem d_C_requireFinding_1 : decode prog_1_method_19_code 1 = .ok (.ifCond .lt 14, 3) := dOk_get (q := (1, .ifCond .lt 14, 3)) ok_tb_C_requireFinding_0 1 rfl
theorem d_C_requireFinding_4 : decode prog_1_method_19_code 4 = .ok (.iload_n 1, 1) := dOk_get (q := (4, .iload_n 1, 1)) ok_tb_C_requireFinding_0 2 rfl
theorem d_C_requireFinding_5 : decode prog_1_method_19_code 5 = .ok (.aload_n 0, 1) := dOk_get (q := (5, .aload_n 0, 1)) ok_tb_C_requireFinding_0 3 rfl
theorem d_C_requireFinding_6 : decode prog_1_method_19_code 6 = .ok (.getfield 35, 3) := dOk_get (q := (6, .getfield 35, 3)) ok_tb_C_requireFinding_0 4 rfl
theorem d_C_requireFinding_9 : decode prog_1_method_19_code 9 = .ok (.getfield 175, 3) := dOk_get (q := (9, .getfield 175, 3)) ok_tb_C_requireFinding_0 5 rfl
theorem d_C_requireFinding_12 : decode prog_1_method_19_code 12 = .ok (.if_icmp .lt 13, 3) := dOk_get (q := (12, .if_icmp .lt 13, 3)) ok_tb_C_requireFinding_0 6 rfl
theorem d_C_requireFinding_15 : decode prog_1_method_19_code 15 = .ok (.new 52, 3) := dOk_get (q := (15, .new 52, 3)) ok_tb_C_requireFinding_0 7 rfl
theorem d_C_requireFinding_18 : decode prog_1_method_19_code 18 = .ok (.dup, 1) := dOk_get (q := (18, .dup, 1)) ok_tb_C_requireFinding_0 8 rfl
theorem d_C_requireFinding_19 : decode prog_1_method_19_code 19 = .ok (.ldc 214, 2) := dOk_get (q := (19, .ldc 214, 2)) ok_tb_C_requireFinding_0 9 rfl
theorem d_C_requireFinding_21 : decode prog_1_method_19_code 21 = .ok (.invokespecial 56, 3) := dOk_get (q := (21, .invokespecial 56, 3)) ok_tb_C_requireFinding_0 10 rfl
theorem d_C_requireFinding_24 : decode prog_1_method_19_code 24 = .ok (.athrow, 1) := dOk_get (q := (24, .athrow, 1)) ok_tb_C_requireFinding_0 11 rfl
theorem d_C_requireFinding_25 : decode prog_1_method_19_code 25 = .ok (.return_, 1) := dOk_get (q := (25, .return_, 1)) ok_tb_C_requireFinding_0 12 rfl
def tb_C_place_0 : List (Nat × Instr × Nat) := [(0, .aload_n 0, 1), (1, .iload_n 1, 1), (2, .invokevirtual 141, 3), (5, .iload_n 2, 1), (6, .ifCond .lt 8, 3), (9, .iload_n 2, 1), (10, .iconst 1, 1), (11, .if_icmp .le 13, 3), (14, .new 52, 3), (17, .dup, 1), (18, .ldc 164, 2), (20, .invokespecial 56, 3), (23, .athrow, 1), (24, .iload_n 2, 1), (25, .ifCond .ne 14, 3), (28, .aload_n 0, 1), (29, .getfield 35, 3), (32, .iload_n 1, 1), (33, .invokevirtual 166, 3), (36, .goto 11, 3), (39, .aload_n 0, 1), (40, .getfield 35, 3), (43, .iload_n 1, 1), (44, .invokevirtual 170, 3), (47, .lreturn, 1)]
theorem ok_tb_C_place_0 : dOk prog_1_method_9_code tb_C_place_0 = true := by decide +kernel
theorem d_C_place_0 : decode prog_1_method_9_code 0 = .ok (.aload_n 0, 1) := dOk_get (q := (0, .aload_n 0, 1)) ok_tb_C_place_0 0 rfl
theorem d_C_place_1 : decode prog_1_method_9_code 1 = .ok (.iload_n 1, 1) := dOk_get (q := (1, .iload_n 1, 1)) ok_tb_C_place_0 1 rfl
theorem d_C_place_2 : decode prog_1_method_9_code 2 = .ok (.invokevirtual 141, 3) := dOk_get (q := (2, .invokevirtual 141, 3)) ok_tb_C_place_0 2 rfl
theorem d_C_place_5 : decode prog_1_method_9_code 5 = .ok (.iload_n 2, 1) := dOk_get (q := (5, .iload_n 2, 1)) ok_tb_C_place_0 3 rfl
theorem d_C_place_6 : decode prog_1_method_9_code 6 = .ok (.ifCond .lt 8, 3) := dOk_get (q := (6, .ifCond .lt 8, 3)) ok_tb_C_place_0 4 rfl
theorem d_C_place_9 : decode prog_1_method_9_code 9 = .ok (.iload_n 2, 1) := dOk_get (q := (9, .iload_n 2, 1)) ok_tb_C_place_0 5 rfl
theorem d_C_place_10 : decode prog_1_method_9_code 10 = .ok (.iconst 1, 1) := dOk_get (q := (10, .iconst 1, 1)) ok_tb_C_place_0 6 rfl
theorem d_C_place_11 : decode prog_1_method_9_code 11 = .ok (.if_icmp .le 13, 3) := dOk_get (q := (11, .if_icmp .le 13, 3)) ok_tb_C_place_0 7 rfl
theorem d_C_place_14 : decode prog_1_method_9_code 14 = .ok (.new 52, 3) := dOk_get (q := (14, .new 52, 3)) ok_tb_C_place_0 8 rfl
theorem d_C_place_17 : decode prog_1_method_9_code 17 = .ok (.dup, 1) := dOk_get (q := (17, .dup, 1)) ok_tb_C_place_0 9 rfl
theorem d_C_place_18 : decode prog_1_method_9_code 18 = .ok (.ldc 164, 2) := dOk_get (q := (18, .ldc 164, 2)) ok_tb_C_place_0 10 rfl
theorem d_C_place_20 : decode prog_1_method_9_code 20 = .ok (.invokespecial 56, 3) := dOk_get (q := (20, .invokespecial 56, 3)) ok_tb_C_place_0 11 rfl
theorem d_C_place_23 : decode prog_1_method_9_code 23 = .ok (.athrow, 1) := dOk_get (q := (23, .athrow, 1)) ok_tb_C_place_0 12 rfl
theorem d_C_place_24 : decode prog_1_method_9_code 24 = .ok (.iload_n 2, 1) := dOk_get (q := (24, .iload_n 2, 1)) ok_tb_C_place_0 13 rfl
theorem d_C_place_25 : decode prog_1_method_9_code 25 = .ok (.ifCond .ne 14, 3) := dOk_get (q := (25, .ifCond .ne 14, 3)) ok_tb_C_place_0 14 rfl
theorem d_C_place_28 : decode prog_1_method_9_code 28 = .ok (.aload_n 0, 1) := dOk_get (q := (28, .aload_n 0, 1)) ok_tb_C_place_0 15 rfl
theorem d_C_place_29 : decode prog_1_method_9_code 29 = .ok (.getfield 35, 3) := dOk_get (q := (29, .getfield 35, 3)) ok_tb_C_place_0 16 rfl
theorem d_C_place_32 : decode prog_1_method_9_code 32 = .ok (.iload_n 1, 1) := dOk_get (q := (32, .iload_n 1, 1)) ok_tb_C_place_0 17 rfl
theorem d_C_place_33 : decode prog_1_method_9_code 33 = .ok (.invokevirtual 166, 3) := dOk_get (q := (33, .invokevirtual 166, 3)) ok_tb_C_place_0 18 rfl
theorem d_C_place_36 : decode prog_1_method_9_code 36 = .ok (.goto 11, 3) := dOk_get (q := (36, .goto 11, 3)) ok_tb_C_place_0 19 rfl
theorem d_C_place_39 : decode prog_1_method_9_code 39 = .ok (.aload_n 0, 1) := dOk_get (q := (39, .aload_n 0, 1)) ok_tb_C_place_0 20 rfl
theorem d_C_place_40 : decode prog_1_method_9_code 40 = .ok (.getfield 35, 3) := dOk_get (q := (40, .getfield 35, 3)) ok_tb_C_place_0 21 rfl
theorem d_C_place_43 : decode prog_1_method_9_code 43 = .ok (.iload_n 1, 1) := dOk_get (q := (43, .iload_n 1, 1)) ok_tb_C_place_0 22 rfl
theorem d_C_place_44 : decode prog_1_method_9_code 44 = .ok (.invokevirtual 170, 3) := dOk_get (q := (44, .invokevirtual 170, 3)) ok_tb_C_place_0 23 rfl
theorem d_C_place_47 : decode prog_1_method_9_code 47 = .ok (.lreturn, 1) := dOk_get (q := (47, .lreturn, 1)) ok_tb_C_place_0 24 rfl
def tb_C_waive_0 : List (Nat × Instr × Nat) := [(0, .aload_n 0, 1), (1, .iload_n 1, 1), (2, .invokevirtual 141, 3), (5, .aload_n 0, 1), (6, .getfield 35, 3), (9, .iload_n 1, 1), (10, .invokevirtual 155, 3), (13, .istore_n 2, 1), (14, .aload_n 0, 1), (15, .iload_n 2, 1), (16, .invokevirtual 158, 3), (19, .ifCond .ne 15, 3), (22, .aload_n 0, 1), (23, .getfield 46, 3), (26, .aload_n 0, 1), (27, .getfield 42, 3), (30, .arraylength, 1), (31, .if_icmp .lt 5, 3), (34, .iconst 0, 1), (35, .ireturn, 1), (36, .aload_n 0, 1), (37, .getfield 42, 3), (40, .aload_n 0, 1), (41, .getfield 46, 3), (44, .iload_n 2, 1), (45, .iastore, 1), (46, .aload_n 0, 1), (47, .dup, 1), (48, .getfield 46, 3), (51, .iconst 1, 1), (52, .iadd, 1), (53, .putfield 46, 3), (56, .iconst 1, 1), (57, .ireturn, 1)]
theorem ok_tb_C_waive_0 : dOk prog_1_method_10_code tb_C_waive_0 = true := by decide +kernel
theorem d_C_waive_0 : decode prog_1_method_10_code 0 = .ok (.aload_n 0, 1) := dOk_get (q := (0, .aload_n 0, 1)) ok_tb_C_waive_0 0 rfl
theorem d_C_waive_1 : decode prog_1_method_10_code 1 = .ok (.iload_n 1, 1) := dOk_get (q := (1, .iload_n 1, 1)) ok_tb_C_waive_0 1 rfl
theorem d_C_waive_2 : decode prog_1_method_10_code 2 = .ok (.invokevirtual 141, 3) := dOk_get (q := (2, .invokevirtual 141, 3)) ok_tb_C_waive_0 2 rfl
theorem d_C_waive_5 : decode prog_1_method_10_code 5 = .ok (.aload_n 0, 1) := dOk_get (q := (5, .aload_n 0, 1)) ok_tb_C_waive_0 3 rfl
theorem d_C_waive_6 : decode prog_1_method_10_code 6 = .ok (.getfield 35, 3) := dOk_get (q := (6, .getfield 35, 3)) ok_tb_C_waive_0 4 rfl
theorem d_C_waive_9 : decode prog_1_method_10_code 9 = .ok (.iload_n 1, 1) := dOk_get (q := (9, .iload_n 1, 1)) ok_tb_C_waive_0 5 rfl
theorem d_C_waive_10 : decode prog_1_method_10_code 10 = .ok (.invokevirtual 155, 3) := dOk_get (q := (10, .invokevirtual 155, 3)) ok_tb_C_waive_0 6 rfl
theorem d_C_waive_13 : decode prog_1_method_10_code 13 = .ok (.istore_n 2, 1) := dOk_get (q := (13, .istore_n 2, 1)) ok_tb_C_waive_0 7 rfl
theorem d_C_waive_14 : decode prog_1_method_10_code 14 = .ok (.aload_n 0, 1) := dOk_get (q := (14, .aload_n 0, 1)) ok_tb_C_waive_0 8 rfl
theorem d_C_waive_15 : decode prog_1_method_10_code 15 = .ok (.iload_n 2, 1) := dOk_get (q := (15, .iload_n 2, 1)) ok_tb_C_waive_0 9 rfl
theorem d_C_waive_16 : decode prog_1_method_10_code 16 = .ok (.invokevirtual 158, 3) := dOk_get (q := (16, .invokevirtual 158, 3)) ok_tb_C_waive_0 10 rfl
theorem d_C_waive_19 : decode prog_1_method_10_code 19 = .ok (.ifCond .ne 15, 3) := dOk_get (q := (19, .ifCond .ne 15, 3)) ok_tb_C_waive_0 11 rfl
theorem d_C_waive_22 : decode prog_1_method_10_code 22 = .ok (.aload_n 0, 1) := dOk_get (q := (22, .aload_n 0, 1)) ok_tb_C_waive_0 12 rfl
theorem d_C_waive_23 : decode prog_1_method_10_code 23 = .ok (.getfield 46, 3) := dOk_get (q := (23, .getfield 46, 3)) ok_tb_C_waive_0 13 rfl
theorem d_C_waive_26 : decode prog_1_method_10_code 26 = .ok (.aload_n 0, 1) := dOk_get (q := (26, .aload_n 0, 1)) ok_tb_C_waive_0 14 rfl
theorem d_C_waive_27 : decode prog_1_method_10_code 27 = .ok (.getfield 42, 3) := dOk_get (q := (27, .getfield 42, 3)) ok_tb_C_waive_0 15 rfl
theorem d_C_waive_30 : decode prog_1_method_10_code 30 = .ok (.arraylength, 1) := dOk_get (q := (30, .arraylength, 1)) ok_tb_C_waive_0 16 rfl
theorem d_C_waive_31 : decode prog_1_method_10_code 31 = .ok (.if_icmp .lt 5, 3) := dOk_get (q := (31, .if_icmp .lt 5, 3)) ok_tb_C_waive_0 17 rfl
theorem d_C_waive_34 : decode prog_1_method_10_code 34 = .ok (.iconst 0, 1) := dOk_get (q := (34, .iconst 0, 1)) ok_tb_C_waive_0 18 rfl
theorem d_C_waive_35 : decode prog_1_method_10_code 35 = .ok (.ireturn, 1) := dOk_get (q := (35, .ireturn, 1)) ok_tb_C_waive_0 19 rfl
theorem d_C_waive_36 : decode prog_1_method_10_code 36 = .ok (.aload_n 0, 1) := dOk_get (q := (36, .aload_n 0, 1)) ok_tb_C_waive_0 20 rfl
theorem d_C_waive_37 : decode prog_1_method_10_code 37 = .ok (.getfield 42, 3) := dOk_get (q := (37, .getfield 42, 3)) ok_tb_C_waive_0 21 rfl
theorem d_C_waive_40 : decode prog_1_method_10_code 40 = .ok (.aload_n 0, 1) := dOk_get (q := (40, .aload_n 0, 1)) ok_tb_C_waive_0 22 rfl
theorem d_C_waive_41 : decode prog_1_method_10_code 41 = .ok (.getfield 46, 3) := dOk_get (q := (41, .getfield 46, 3)) ok_tb_C_waive_0 23 rfl
theorem d_C_waive_44 : decode prog_1_method_10_code 44 = .ok (.iload_n 2, 1) := dOk_get (q := (44, .iload_n 2, 1)) ok_tb_C_waive_0 24 rfl
theorem d_C_waive_45 : decode prog_1_method_10_code 45 = .ok (.iastore, 1) := dOk_get (q := (45, .iastore, 1)) ok_tb_C_waive_0 25 rfl
theorem d_C_waive_46 : decode prog_1_method_10_code 46 = .ok (.aload_n 0, 1) := dOk_get (q := (46, .aload_n 0, 1)) ok_tb_C_waive_0 26 rfl
theorem d_C_waive_47 : decode prog_1_method_10_code 47 = .ok (.dup, 1) := dOk_get (q := (47, .dup, 1)) ok_tb_C_waive_0 27 rfl
theorem d_C_waive_48 : decode prog_1_method_10_code 48 = .ok (.getfield 46, 3) := dOk_get (q := (48, .getfield 46, 3)) ok_tb_C_waive_0 28 rfl
theorem d_C_waive_51 : decode prog_1_method_10_code 51 = .ok (.iconst 1, 1) := dOk_get (q := (51, .iconst 1, 1)) ok_tb_C_waive_0 29 rfl
theorem d_C_waive_52 : decode prog_1_method_10_code 52 = .ok (.iadd, 1) := dOk_get (q := (52, .iadd, 1)) ok_tb_C_waive_0 30 rfl
theorem d_C_waive_53 : decode prog_1_method_10_code 53 = .ok (.putfield 46, 3) := dOk_get (q := (53, .putfield 46, 3)) ok_tb_C_waive_0 31 rfl
theorem d_C_waive_56 : decode prog_1_method_10_code 56 = .ok (.iconst 1, 1) := dOk_get (q := (56, .iconst 1, 1)) ok_tb_C_waive_0 32 rfl
theorem d_C_waive_57 : decode prog_1_method_10_code 57 = .ok (.ireturn, 1) := dOk_get (q := (57, .ireturn, 1)) ok_tb_C_waive_0 33 rfl
def tb_C_near_0 : List (Nat × Instr × Nat) := [(0, .lload_n 1, 1), (1, .lload 5, 2), (3, .lcmp, 1), (4, .ifCond .gt 10, 3), (7, .lload_n 3, 1), (8, .lload 7, 2), (10, .lcmp, 1), (11, .ifCond .le 13, 3), (14, .new 59, 3), (17, .dup, 1), (18, .ldc 173, 2), (20, .invokespecial 63, 3), (23, .athrow, 1), (24, .iconst 0, 1), (25, .istore 9, 2), (27, .iconst 0, 1), (28, .istore 10, 2), (30, .iload 10, 2), (32, .aload_n 0, 1), (33, .getfield 35, 3), (36, .getfield 175, 3), (39, .if_icmp .ge 64, 3), (42, .aload_n 0, 1), (43, .getfield 35, 3), (46, .iload 10, 2), (48, .invokevirtual 166, 3), (51, .lstore 11, 2), (53, .aload_n 0, 1), (54, .getfield 35, 3), (57, .iload 10, 2), (59, .invokevirtual 170, 3), (62, .lstore 13, 2), (64, .lload 11, 2), (66, .lload_n 1, 1), (67, .lcmp, 1), (68, .ifCond .lt 29, 3), (71, .lload 11, 2), (73, .lload 5, 2), (75, .lcmp, 1), (76, .ifCond .gt 21, 3), (79, .lload 13, 2), (81, .lload_n 3, 1), (82, .lcmp, 1), (83, .ifCond .lt 14, 3), (86, .lload 13, 2), (88, .lload 7, 2), (90, .lcmp, 1), (91, .ifCond .gt 6, 3), (94, .iinc 9 1, 3), (97, .iinc 10 1, 3), (100, .goto (-70), 3), (103, .iload 9, 2), (105, .ireturn, 1)]
theorem ok_tb_C_near_0 : dOk prog_1_method_11_code tb_C_near_0 = true := by decide +kernel
theorem d_C_near_0 : decode prog_1_method_11_code 0 = .ok (.lload_n 1, 1) := dOk_get (q := (0, .lload_n 1, 1)) ok_tb_C_near_0 0 rfl
theorem d_C_near_1 : decode prog_1_method_11_code 1 = .ok (.lload 5, 2) := dOk_get (q := (1, .lload 5, 2)) ok_tb_C_near_0 1 rfl
theorem d_C_near_3 : decode prog_1_method_11_code 3 = .ok (.lcmp, 1) := dOk_get (q := (3, .lcmp, 1)) ok_tb_C_near_0 2 rfl
theorem d_C_near_4 : decode prog_1_method_11_code 4 = .ok (.ifCond .gt 10, 3) := dOk_get (q := (4, .ifCond .gt 10, 3)) ok_tb_C_near_0 3 rfl
theorem d_C_near_7 : decode prog_1_method_11_code 7 = .ok (.lload_n 3, 1) := dOk_get (q := (7, .lload_n 3, 1)) ok_tb_C_near_0 4 rfl
theorem d_C_near_8 : decode prog_1_method_11_code 8 = .ok (.lload 7, 2) := dOk_get (q := (8, .lload 7, 2)) ok_tb_C_near_0 5 rfl
theorem d_C_near_10 : decode prog_1_method_11_code 10 = .ok (.lcmp, 1) := dOk_get (q := (10, .lcmp, 1)) ok_tb_C_near_0 6 rfl
theorem d_C_near_11 : decode prog_1_method_11_code 11 = .ok (.ifCond .le 13, 3) := dOk_get (q := (11, .ifCond .le 13, 3)) ok_tb_C_near_0 7 rfl
theorem d_C_near_14 : decode prog_1_method_11_code 14 = .ok (.new 59, 3) := dOk_get (q := (14, .new 59, 3)) ok_tb_C_near_0 8 rfl
theorem d_C_near_17 : decode prog_1_method_11_code 17 = .ok (.dup, 1) := dOk_get (q := (17, .dup, 1)) ok_tb_C_near_0 9 rfl
theorem d_C_near_18 : decode prog_1_method_11_code 18 = .ok (.ldc 173, 2) := dOk_get (q := (18, .ldc 173, 2)) ok_tb_C_near_0 10 rfl
theorem d_C_near_20 : decode prog_1_method_11_code 20 = .ok (.invokespecial 63, 3) := dOk_get (q := (20, .invokespecial 63, 3)) ok_tb_C_near_0 11 rfl
theorem d_C_near_23 : decode prog_1_method_11_code 23 = .ok (.athrow, 1) := dOk_get (q := (23, .athrow, 1)) ok_tb_C_near_0 12 rfl
theorem d_C_near_24 : decode prog_1_method_11_code 24 = .ok (.iconst 0, 1) := dOk_get (q := (24, .iconst 0, 1)) ok_tb_C_near_0 13 rfl
theorem d_C_near_25 : decode prog_1_method_11_code 25 = .ok (.istore 9, 2) := dOk_get (q := (25, .istore 9, 2)) ok_tb_C_near_0 14 rfl
theorem d_C_near_27 : decode prog_1_method_11_code 27 = .ok (.iconst 0, 1) := dOk_get (q := (27, .iconst 0, 1)) ok_tb_C_near_0 15 rfl
theorem d_C_near_28 : decode prog_1_method_11_code 28 = .ok (.istore 10, 2) := dOk_get (q := (28, .istore 10, 2)) ok_tb_C_near_0 16 rfl
theorem d_C_near_30 : decode prog_1_method_11_code 30 = .ok (.iload 10, 2) := dOk_get (q := (30, .iload 10, 2)) ok_tb_C_near_0 17 rfl
theorem d_C_near_32 : decode prog_1_method_11_code 32 = .ok (.aload_n 0, 1) := dOk_get (q := (32, .aload_n 0, 1)) ok_tb_C_near_0 18 rfl
theorem d_C_near_33 : decode prog_1_method_11_code 33 = .ok (.getfield 35, 3) := dOk_get (q := (33, .getfield 35, 3)) ok_tb_C_near_0 19 rfl
theorem d_C_near_36 : decode prog_1_method_11_code 36 = .ok (.getfield 175, 3) := dOk_get (q := (36, .getfield 175, 3)) ok_tb_C_near_0 20 rfl
theorem d_C_near_39 : decode prog_1_method_11_code 39 = .ok (.if_icmp .ge 64, 3) := dOk_get (q := (39, .if_icmp .ge 64, 3)) ok_tb_C_near_0 21 rfl
theorem d_C_near_42 : decode prog_1_method_11_code 42 = .ok (.aload_n 0, 1) := dOk_get (q := (42, .aload_n 0, 1)) ok_tb_C_near_0 22 rfl
theorem d_C_near_43 : decode prog_1_method_11_code 43 = .ok (.getfield 35, 3) := dOk_get (q := (43, .getfield 35, 3)) ok_tb_C_near_0 23 rfl
theorem d_C_near_46 : decode prog_1_method_11_code 46 = .ok (.iload 10, 2) := dOk_get (q := (46, .iload 10, 2)) ok_tb_C_near_0 24 rfl
theorem d_C_near_48 : decode prog_1_method_11_code 48 = .ok (.invokevirtual 166, 3) := dOk_get (q := (48, .invokevirtual 166, 3)) ok_tb_C_near_0 25 rfl
theorem d_C_near_51 : decode prog_1_method_11_code 51 = .ok (.lstore 11, 2) := dOk_get (q := (51, .lstore 11, 2)) ok_tb_C_near_0 26 rfl
theorem d_C_near_53 : decode prog_1_method_11_code 53 = .ok (.aload_n 0, 1) := dOk_get (q := (53, .aload_n 0, 1)) ok_tb_C_near_0 27 rfl
theorem d_C_near_54 : decode prog_1_method_11_code 54 = .ok (.getfield 35, 3) := dOk_get (q := (54, .getfield 35, 3)) ok_tb_C_near_0 28 rfl
theorem d_C_near_57 : decode prog_1_method_11_code 57 = .ok (.iload 10, 2) := dOk_get (q := (57, .iload 10, 2)) ok_tb_C_near_0 29 rfl
theorem d_C_near_59 : decode prog_1_method_11_code 59 = .ok (.invokevirtual 170, 3) := dOk_get (q := (59, .invokevirtual 170, 3)) ok_tb_C_near_0 30 rfl
theorem d_C_near_62 : decode prog_1_method_11_code 62 = .ok (.lstore 13, 2) := dOk_get (q := (62, .lstore 13, 2)) ok_tb_C_near_0 31 rfl
theorem d_C_near_64 : decode prog_1_method_11_code 64 = .ok (.lload 11, 2) := dOk_get (q := (64, .lload 11, 2)) ok_tb_C_near_0 32 rfl
theorem d_C_near_66 : decode prog_1_method_11_code 66 = .ok (.lload_n 1, 1) := dOk_get (q := (66, .lload_n 1, 1)) ok_tb_C_near_0 33 rfl
theorem d_C_near_67 : decode prog_1_method_11_code 67 = .ok (.lcmp, 1) := dOk_get (q := (67, .lcmp, 1)) ok_tb_C_near_0 34 rfl
theorem d_C_near_68 : decode prog_1_method_11_code 68 = .ok (.ifCond .lt 29, 3) := dOk_get (q := (68, .ifCond .lt 29, 3)) ok_tb_C_near_0 35 rfl
theorem d_C_near_71 : decode prog_1_method_11_code 71 = .ok (.lload 11, 2) := dOk_get (q := (71, .lload 11, 2)) ok_tb_C_near_0 36 rfl
theorem d_C_near_73 : decode prog_1_method_11_code 73 = .ok (.lload 5, 2) := dOk_get (q := (73, .lload 5, 2)) ok_tb_C_near_0 37 rfl
theorem d_C_near_75 : decode prog_1_method_11_code 75 = .ok (.lcmp, 1) := dOk_get (q := (75, .lcmp, 1)) ok_tb_C_near_0 38 rfl
theorem d_C_near_76 : decode prog_1_method_11_code 76 = .ok (.ifCond .gt 21, 3) := dOk_get (q := (76, .ifCond .gt 21, 3)) ok_tb_C_near_0 39 rfl
theorem d_C_near_79 : decode prog_1_method_11_code 79 = .ok (.lload 13, 2) := dOk_get (q := (79, .lload 13, 2)) ok_tb_C_near_0 40 rfl
theorem d_C_near_81 : decode prog_1_method_11_code 81 = .ok (.lload_n 3, 1) := dOk_get (q := (81, .lload_n 3, 1)) ok_tb_C_near_0 41 rfl
theorem d_C_near_82 : decode prog_1_method_11_code 82 = .ok (.lcmp, 1) := dOk_get (q := (82, .lcmp, 1)) ok_tb_C_near_0 42 rfl
theorem d_C_near_83 : decode prog_1_method_11_code 83 = .ok (.ifCond .lt 14, 3) := dOk_get (q := (83, .ifCond .lt 14, 3)) ok_tb_C_near_0 43 rfl
theorem d_C_near_86 : decode prog_1_method_11_code 86 = .ok (.lload 13, 2) := dOk_get (q := (86, .lload 13, 2)) ok_tb_C_near_0 44 rfl
theorem d_C_near_88 : decode prog_1_method_11_code 88 = .ok (.lload 7, 2) := dOk_get (q := (88, .lload 7, 2)) ok_tb_C_near_0 45 rfl
theorem d_C_near_90 : decode prog_1_method_11_code 90 = .ok (.lcmp, 1) := dOk_get (q := (90, .lcmp, 1)) ok_tb_C_near_0 46 rfl
theorem d_C_near_91 : decode prog_1_method_11_code 91 = .ok (.ifCond .gt 6, 3) := dOk_get (q := (91, .ifCond .gt 6, 3)) ok_tb_C_near_0 47 rfl
theorem d_C_near_94 : decode prog_1_method_11_code 94 = .ok (.iinc 9 1, 3) := dOk_get (q := (94, .iinc 9 1, 3)) ok_tb_C_near_0 48 rfl
theorem d_C_near_97 : decode prog_1_method_11_code 97 = .ok (.iinc 10 1, 3) := dOk_get (q := (97, .iinc 10 1, 3)) ok_tb_C_near_0 49 rfl
theorem d_C_near_100 : decode prog_1_method_11_code 100 = .ok (.goto (-70), 3) := dOk_get (q := (100, .goto (-70), 3)) ok_tb_C_near_0 50 rfl
theorem d_C_near_103 : decode prog_1_method_11_code 103 = .ok (.iload 9, 2) := dOk_get (q := (103, .iload 9, 2)) ok_tb_C_near_0 51 rfl
theorem d_C_near_105 : decode prog_1_method_11_code 105 = .ok (.ireturn, 1) := dOk_get (q := (105, .ireturn, 1)) ok_tb_C_near_0 52 rfl
def tb_C_move_0 : List (Nat × Instr × Nat) := [(0, .aload_n 0, 1), (1, .iload_n 1, 1), (2, .invokevirtual 114, 3), (5, .astore 6, 2), (7, .iconst 0, 1), (8, .istore 7, 2), (10, .iload 7, 2), (12, .aload 6, 2), (14, .getfield 96, 3), (17, .if_icmp .ge 38, 3), (20, .aload 6, 2), (22, .getfield 178, 3), (25, .iload 7, 2), (27, .laload, 1), (28, .lload_n 2, 1), (29, .ladd, 1), (30, .aload 6, 2), (32, .getfield 182, 3), (35, .iload 7, 2), (37, .laload, 1), (38, .lload 4, 2), (40, .ladd, 1), (41, .invokestatic 83, 3), (44, .ifCond .ne 5, 3), (47, .iconst 0, 1), (48, .ireturn, 1), (49, .iinc 7 1, 3), (52, .goto (-42), 3), (55, .iconst 0, 1), (56, .istore 7, 2), (58, .iload 7, 2), (60, .aload 6, 2), (62, .getfield 96, 3), (65, .if_icmp .ge 34, 3), (68, .aload 6, 2), (70, .getfield 178, 3), (73, .iload 7, 2), (75, .dup2, 1), (76, .laload, 1), (77, .lload_n 2, 1), (78, .ladd, 1), (79, .lastore, 1), (80, .aload 6, 2), (82, .getfield 182, 3), (85, .iload 7, 2), (87, .dup2, 1), (88, .laload, 1), (89, .lload 4, 2), (91, .ladd, 1), (92, .lastore, 1), (93, .iinc 7 1, 3), (96, .goto (-38), 3), (99, .iconst 1, 1), (100, .ireturn, 1)]
theorem ok_tb_C_move_0 : dOk prog_1_method_12_code tb_C_move_0 = true := by decide +kernel
theorem d_C_move_0 : decode prog_1_method_12_code 0 = .ok (.aload_n 0, 1) := dOk_get (q := (0, .aload_n 0, 1)) ok_tb_C_move_0 0 rfl
theorem d_C_move_1 : decode prog_1_method_12_code 1 = .ok (.iload_n 1, 1) := dOk_get (q := (1, .iload_n 1, 1)) ok_tb_C_move_0 1 rfl
theorem d_C_move_2 : decode prog_1_method_12_code 2 = .ok (.invokevirtual 114, 3) := dOk_get (q := (2, .invokevirtual 114, 3)) ok_tb_C_move_0 2 rfl
theorem d_C_move_5 : decode prog_1_method_12_code 5 = .ok (.astore 6, 2) := dOk_get (q := (5, .astore 6, 2)) ok_tb_C_move_0 3 rfl
theorem d_C_move_7 : decode prog_1_method_12_code 7 = .ok (.iconst 0, 1) := dOk_get (q := (7, .iconst 0, 1)) ok_tb_C_move_0 4 rfl
theorem d_C_move_8 : decode prog_1_method_12_code 8 = .ok (.istore 7, 2) := dOk_get (q := (8, .istore 7, 2)) ok_tb_C_move_0 5 rfl
theorem d_C_move_10 : decode prog_1_method_12_code 10 = .ok (.iload 7, 2) := dOk_get (q := (10, .iload 7, 2)) ok_tb_C_move_0 6 rfl
theorem d_C_move_12 : decode prog_1_method_12_code 12 = .ok (.aload 6, 2) := dOk_get (q := (12, .aload 6, 2)) ok_tb_C_move_0 7 rfl
theorem d_C_move_14 : decode prog_1_method_12_code 14 = .ok (.getfield 96, 3) := dOk_get (q := (14, .getfield 96, 3)) ok_tb_C_move_0 8 rfl
theorem d_C_move_17 : decode prog_1_method_12_code 17 = .ok (.if_icmp .ge 38, 3) := dOk_get (q := (17, .if_icmp .ge 38, 3)) ok_tb_C_move_0 9 rfl
theorem d_C_move_20 : decode prog_1_method_12_code 20 = .ok (.aload 6, 2) := dOk_get (q := (20, .aload 6, 2)) ok_tb_C_move_0 10 rfl
theorem d_C_move_22 : decode prog_1_method_12_code 22 = .ok (.getfield 178, 3) := dOk_get (q := (22, .getfield 178, 3)) ok_tb_C_move_0 11 rfl
theorem d_C_move_25 : decode prog_1_method_12_code 25 = .ok (.iload 7, 2) := dOk_get (q := (25, .iload 7, 2)) ok_tb_C_move_0 12 rfl
theorem d_C_move_27 : decode prog_1_method_12_code 27 = .ok (.laload, 1) := dOk_get (q := (27, .laload, 1)) ok_tb_C_move_0 13 rfl
theorem d_C_move_28 : decode prog_1_method_12_code 28 = .ok (.lload_n 2, 1) := dOk_get (q := (28, .lload_n 2, 1)) ok_tb_C_move_0 14 rfl
theorem d_C_move_29 : decode prog_1_method_12_code 29 = .ok (.ladd, 1) := dOk_get (q := (29, .ladd, 1)) ok_tb_C_move_0 15 rfl
theorem d_C_move_30 : decode prog_1_method_12_code 30 = .ok (.aload 6, 2) := dOk_get (q := (30, .aload 6, 2)) ok_tb_C_move_0 16 rfl
theorem d_C_move_32 : decode prog_1_method_12_code 32 = .ok (.getfield 182, 3) := dOk_get (q := (32, .getfield 182, 3)) ok_tb_C_move_0 17 rfl
theorem d_C_move_35 : decode prog_1_method_12_code 35 = .ok (.iload 7, 2) := dOk_get (q := (35, .iload 7, 2)) ok_tb_C_move_0 18 rfl
theorem d_C_move_37 : decode prog_1_method_12_code 37 = .ok (.laload, 1) := dOk_get (q := (37, .laload, 1)) ok_tb_C_move_0 19 rfl
theorem d_C_move_38 : decode prog_1_method_12_code 38 = .ok (.lload 4, 2) := dOk_get (q := (38, .lload 4, 2)) ok_tb_C_move_0 20 rfl
theorem d_C_move_40 : decode prog_1_method_12_code 40 = .ok (.ladd, 1) := dOk_get (q := (40, .ladd, 1)) ok_tb_C_move_0 21 rfl
theorem d_C_move_41 : decode prog_1_method_12_code 41 = .ok (.invokestatic 83, 3) := dOk_get (q := (41, .invokestatic 83, 3)) ok_tb_C_move_0 22 rfl
theorem d_C_move_44 : decode prog_1_method_12_code 44 = .ok (.ifCond .ne 5, 3) := dOk_get (q := (44, .ifCond .ne 5, 3)) ok_tb_C_move_0 23 rfl
theorem d_C_move_47 : decode prog_1_method_12_code 47 = .ok (.iconst 0, 1) := dOk_get (q := (47, .iconst 0, 1)) ok_tb_C_move_0 24 rfl
theorem d_C_move_48 : decode prog_1_method_12_code 48 = .ok (.ireturn, 1) := dOk_get (q := (48, .ireturn, 1)) ok_tb_C_move_0 25 rfl
theorem d_C_move_49 : decode prog_1_method_12_code 49 = .ok (.iinc 7 1, 3) := dOk_get (q := (49, .iinc 7 1, 3)) ok_tb_C_move_0 26 rfl
theorem d_C_move_52 : decode prog_1_method_12_code 52 = .ok (.goto (-42), 3) := dOk_get (q := (52, .goto (-42), 3)) ok_tb_C_move_0 27 rfl
theorem d_C_move_55 : decode prog_1_method_12_code 55 = .ok (.iconst 0, 1) := dOk_get (q := (55, .iconst 0, 1)) ok_tb_C_move_0 28 rfl
theorem d_C_move_56 : decode prog_1_method_12_code 56 = .ok (.istore 7, 2) := dOk_get (q := (56, .istore 7, 2)) ok_tb_C_move_0 29 rfl
theorem d_C_move_58 : decode prog_1_method_12_code 58 = .ok (.iload 7, 2) := dOk_get (q := (58, .iload 7, 2)) ok_tb_C_move_0 30 rfl
theorem d_C_move_60 : decode prog_1_method_12_code 60 = .ok (.aload 6, 2) := dOk_get (q := (60, .aload 6, 2)) ok_tb_C_move_0 31 rfl
theorem d_C_move_62 : decode prog_1_method_12_code 62 = .ok (.getfield 96, 3) := dOk_get (q := (62, .getfield 96, 3)) ok_tb_C_move_0 32 rfl
theorem d_C_move_65 : decode prog_1_method_12_code 65 = .ok (.if_icmp .ge 34, 3) := dOk_get (q := (65, .if_icmp .ge 34, 3)) ok_tb_C_move_0 33 rfl
theorem d_C_move_68 : decode prog_1_method_12_code 68 = .ok (.aload 6, 2) := dOk_get (q := (68, .aload 6, 2)) ok_tb_C_move_0 34 rfl
theorem d_C_move_70 : decode prog_1_method_12_code 70 = .ok (.getfield 178, 3) := dOk_get (q := (70, .getfield 178, 3)) ok_tb_C_move_0 35 rfl
theorem d_C_move_73 : decode prog_1_method_12_code 73 = .ok (.iload 7, 2) := dOk_get (q := (73, .iload 7, 2)) ok_tb_C_move_0 36 rfl
theorem d_C_move_75 : decode prog_1_method_12_code 75 = .ok (.dup2, 1) := dOk_get (q := (75, .dup2, 1)) ok_tb_C_move_0 37 rfl
theorem d_C_move_76 : decode prog_1_method_12_code 76 = .ok (.laload, 1) := dOk_get (q := (76, .laload, 1)) ok_tb_C_move_0 38 rfl
theorem d_C_move_77 : decode prog_1_method_12_code 77 = .ok (.lload_n 2, 1) := dOk_get (q := (77, .lload_n 2, 1)) ok_tb_C_move_0 39 rfl
theorem d_C_move_78 : decode prog_1_method_12_code 78 = .ok (.ladd, 1) := dOk_get (q := (78, .ladd, 1)) ok_tb_C_move_0 40 rfl
theorem d_C_move_79 : decode prog_1_method_12_code 79 = .ok (.lastore, 1) := dOk_get (q := (79, .lastore, 1)) ok_tb_C_move_0 41 rfl
theorem d_C_move_80 : decode prog_1_method_12_code 80 = .ok (.aload 6, 2) := dOk_get (q := (80, .aload 6, 2)) ok_tb_C_move_0 42 rfl
theorem d_C_move_82 : decode prog_1_method_12_code 82 = .ok (.getfield 182, 3) := dOk_get (q := (82, .getfield 182, 3)) ok_tb_C_move_0 43 rfl
theorem d_C_move_85 : decode prog_1_method_12_code 85 = .ok (.iload 7, 2) := dOk_get (q := (85, .iload 7, 2)) ok_tb_C_move_0 44 rfl
theorem d_C_move_87 : decode prog_1_method_12_code 87 = .ok (.dup2, 1) := dOk_get (q := (87, .dup2, 1)) ok_tb_C_move_0 45 rfl
theorem d_C_move_88 : decode prog_1_method_12_code 88 = .ok (.laload, 1) := dOk_get (q := (88, .laload, 1)) ok_tb_C_move_0 46 rfl
theorem d_C_move_89 : decode prog_1_method_12_code 89 = .ok (.lload 4, 2) := dOk_get (q := (89, .lload 4, 2)) ok_tb_C_move_0 47 rfl
theorem d_C_move_91 : decode prog_1_method_12_code 91 = .ok (.ladd, 1) := dOk_get (q := (91, .ladd, 1)) ok_tb_C_move_0 48 rfl
theorem d_C_move_92 : decode prog_1_method_12_code 92 = .ok (.lastore, 1) := dOk_get (q := (92, .lastore, 1)) ok_tb_C_move_0 49 rfl
theorem d_C_move_93 : decode prog_1_method_12_code 93 = .ok (.iinc 7 1, 3) := dOk_get (q := (93, .iinc 7 1, 3)) ok_tb_C_move_0 50 rfl
theorem d_C_move_96 : decode prog_1_method_12_code 96 = .ok (.goto (-38), 3) := dOk_get (q := (96, .goto (-38), 3)) ok_tb_C_move_0 51 rfl
theorem d_C_move_99 : decode prog_1_method_12_code 99 = .ok (.iconst 1, 1) := dOk_get (q := (99, .iconst 1, 1)) ok_tb_C_move_0 52 rfl
theorem d_C_move_100 : decode prog_1_method_12_code 100 = .ok (.ireturn, 1) := dOk_get (q := (100, .ireturn, 1)) ok_tb_C_move_0 53 rfl
def tb_C_order_0 : List (Nat × Instr × Nat) := [(0, .aload_n 0, 1), (1, .iload_n 1, 1), (2, .invokevirtual 141, 3), (5, .aload_n 0, 1), (6, .getfield 35, 3), (9, .iload_n 1, 1), (10, .invokevirtual 194, 3), (13, .ireturn, 1)]
theorem ok_tb_C_order_0 : dOk prog_1_method_15_code tb_C_order_0 = true := by decide +kernel
theorem d_C_order_0 : decode prog_1_method_15_code 0 = .ok (.aload_n 0, 1) := dOk_get (q := (0, .aload_n 0, 1)) ok_tb_C_order_0 0 rfl
theorem d_C_order_1 : decode prog_1_method_15_code 1 = .ok (.iload_n 1, 1) := dOk_get (q := (1, .iload_n 1, 1)) ok_tb_C_order_0 1 rfl
theorem d_C_order_2 : decode prog_1_method_15_code 2 = .ok (.invokevirtual 141, 3) := dOk_get (q := (2, .invokevirtual 141, 3)) ok_tb_C_order_0 2 rfl
theorem d_C_order_5 : decode prog_1_method_15_code 5 = .ok (.aload_n 0, 1) := dOk_get (q := (5, .aload_n 0, 1)) ok_tb_C_order_0 3 rfl
theorem d_C_order_6 : decode prog_1_method_15_code 6 = .ok (.getfield 35, 3) := dOk_get (q := (6, .getfield 35, 3)) ok_tb_C_order_0 4 rfl
theorem d_C_order_9 : decode prog_1_method_15_code 9 = .ok (.iload_n 1, 1) := dOk_get (q := (9, .iload_n 1, 1)) ok_tb_C_order_0 5 rfl
theorem d_C_order_10 : decode prog_1_method_15_code 10 = .ok (.invokevirtual 194, 3) := dOk_get (q := (10, .invokevirtual 194, 3)) ok_tb_C_order_0 6 rfl
theorem d_C_order_13 : decode prog_1_method_15_code 13 = .ok (.ireturn, 1) := dOk_get (q := (13, .ireturn, 1)) ok_tb_C_order_0 7 rfl
def tb_C_strips_0 : List (Nat × Instr × Nat) := [(0, .iload_n 1, 1), (1, .iconst 1, 1), (2, .if_icmp .lt 9, 3), (5, .iload_n 1, 1), (6, .bipush 64, 2), (8, .if_icmp .le 13, 3), (11, .new 59, 3), (14, .dup, 1), (15, .ldc 197, 2), (17, .invokespecial 63, 3), (20, .athrow, 1), (21, .aload_n 0, 1), (22, .getfield 49, 3), (25, .istore_n 2, 1), (26, .aload_n 0, 1), (27, .iload_n 1, 1), (28, .putfield 49, 3), (31, .iload_n 2, 1), (32, .ireturn, 1)]
theorem ok_tb_C_strips_0 : dOk prog_1_method_16_code tb_C_strips_0 = true := by decide +kernel
theorem d_C_strips_0 : decode prog_1_method_16_code 0 = .ok (.iload_n 1, 1) := dOk_get (q := (0, .iload_n 1, 1)) ok_tb_C_strips_0 0 rfl
theorem d_C_strips_1 : decode prog_1_method_16_code 1 = .ok (.iconst 1, 1) := dOk_get (q := (1, .iconst 1, 1)) ok_tb_C_strips_0 1 rfl
theorem d_C_strips_2 : decode prog_1_method_16_code 2 = .ok (.if_icmp .lt 9, 3) := dOk_get (q := (2, .if_icmp .lt 9, 3)) ok_tb_C_strips_0 2 rfl
theorem d_C_strips_5 : decode prog_1_method_16_code 5 = .ok (.iload_n 1, 1) := dOk_get (q := (5, .iload_n 1, 1)) ok_tb_C_strips_0 3 rfl
theorem d_C_strips_6 : decode prog_1_method_16_code 6 = .ok (.bipush 64, 2) := dOk_get (q := (6, .bipush 64, 2)) ok_tb_C_strips_0 4 rfl
theorem d_C_strips_8 : decode prog_1_method_16_code 8 = .ok (.if_icmp .le 13, 3) := dOk_get (q := (8, .if_icmp .le 13, 3)) ok_tb_C_strips_0 5 rfl
theorem d_C_strips_11 : decode prog_1_method_16_code 11 = .ok (.new 59, 3) := dOk_get (q := (11, .new 59, 3)) ok_tb_C_strips_0 6 rfl
theorem d_C_strips_14 : decode prog_1_method_16_code 14 = .ok (.dup, 1) := dOk_get (q := (14, .dup, 1)) ok_tb_C_strips_0 7 rfl
theorem d_C_strips_15 : decode prog_1_method_16_code 15 = .ok (.ldc 197, 2) := dOk_get (q := (15, .ldc 197, 2)) ok_tb_C_strips_0 8 rfl
theorem d_C_strips_17 : decode prog_1_method_16_code 17 = .ok (.invokespecial 63, 3) := dOk_get (q := (17, .invokespecial 63, 3)) ok_tb_C_strips_0 9 rfl
theorem d_C_strips_20 : decode prog_1_method_16_code 20 = .ok (.athrow, 1) := dOk_get (q := (20, .athrow, 1)) ok_tb_C_strips_0 10 rfl
theorem d_C_strips_21 : decode prog_1_method_16_code 21 = .ok (.aload_n 0, 1) := dOk_get (q := (21, .aload_n 0, 1)) ok_tb_C_strips_0 11 rfl
theorem d_C_strips_22 : decode prog_1_method_16_code 22 = .ok (.getfield 49, 3) := dOk_get (q := (22, .getfield 49, 3)) ok_tb_C_strips_0 12 rfl
theorem d_C_strips_25 : decode prog_1_method_16_code 25 = .ok (.istore_n 2, 1) := dOk_get (q := (25, .istore_n 2, 1)) ok_tb_C_strips_0 13 rfl
theorem d_C_strips_26 : decode prog_1_method_16_code 26 = .ok (.aload_n 0, 1) := dOk_get (q := (26, .aload_n 0, 1)) ok_tb_C_strips_0 14 rfl
theorem d_C_strips_27 : decode prog_1_method_16_code 27 = .ok (.iload_n 1, 1) := dOk_get (q := (27, .iload_n 1, 1)) ok_tb_C_strips_0 15 rfl
theorem d_C_strips_28 : decode prog_1_method_16_code 28 = .ok (.putfield 49, 3) := dOk_get (q := (28, .putfield 49, 3)) ok_tb_C_strips_0 16 rfl
theorem d_C_strips_31 : decode prog_1_method_16_code 31 = .ok (.iload_n 2, 1) := dOk_get (q := (31, .iload_n 2, 1)) ok_tb_C_strips_0 17 rfl
theorem d_C_strips_32 : decode prog_1_method_16_code 32 = .ok (.ireturn, 1) := dOk_get (q := (32, .ireturn, 1)) ok_tb_C_strips_0 18 rfl
