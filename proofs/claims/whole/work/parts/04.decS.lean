def tb_F_init_0 : List (Nat × Instr × Nat) := [(0, .aload_n 0, 1), (1, .invokespecial 5, 3), (4, .aload_n 0, 1), (5, .sipush 1950, 3), (8, .newarray .long, 2), (10, .putfield 11, 3), (13, .return_, 1)]
theorem ok_tb_F_init_0 : dOk prog_2_method_1_code tb_F_init_0 = true := by decide +kernel
theorem d_F_init_0 : decode prog_2_method_1_code 0 = .ok (.aload_n 0, 1) := dOk_get (q := (0, .aload_n 0, 1)) ok_tb_F_init_0 0 rfl
theorem d_F_init_1 : decode prog_2_method_1_code 1 = .ok (.invokespecial 5, 3) := dOk_get (q := (1, .invokespecial 5, 3)) ok_tb_F_init_0 1 rfl
theorem d_F_init_4 : decode prog_2_method_1_code 4 = .ok (.aload_n 0, 1) := dOk_get (q := (4, .aload_n 0, 1)) ok_tb_F_init_0 2 rfl
theorem d_F_init_5 : decode prog_2_method_1_code 5 = .ok (.sipush 1950, 3) := dOk_get (q := (5, .sipush 1950, 3)) ok_tb_F_init_0 3 rfl
theorem d_F_init_8 : decode prog_2_method_1_code 8 = .ok (.newarray .long, 2) := dOk_get (q := (8, .newarray .long, 2)) ok_tb_F_init_0 4 rfl
theorem d_F_init_10 : decode prog_2_method_1_code 10 = .ok (.putfield 11, 3) := dOk_get (q := (10, .putfield 11, 3)) ok_tb_F_init_0 5 rfl
theorem d_F_init_13 : decode prog_2_method_1_code 13 = .ok (.return_, 1) := dOk_get (q := (13, .return_, 1)) ok_tb_F_init_0 6 rfl
def tb_F_clear_0 : List (Nat × Instr × Nat) := [(0, .aload_n 0, 1), (1, .iconst 0, 1), (2, .putfield 15, 3), (5, .return_, 1)]
theorem ok_tb_F_clear_0 : dOk prog_2_method_2_code tb_F_clear_0 = true := by decide +kernel
theorem d_F_clear_0 : decode prog_2_method_2_code 0 = .ok (.aload_n 0, 1) := dOk_get (q := (0, .aload_n 0, 1)) ok_tb_F_clear_0 0 rfl
theorem d_F_clear_1 : decode prog_2_method_2_code 1 = .ok (.iconst 0, 1) := dOk_get (q := (1, .iconst 0, 1)) ok_tb_F_clear_0 1 rfl
theorem d_F_clear_2 : decode prog_2_method_2_code 2 = .ok (.putfield 15, 3) := dOk_get (q := (2, .putfield 15, 3)) ok_tb_F_clear_0 2 rfl
theorem d_F_clear_5 : decode prog_2_method_2_code 5 = .ok (.return_, 1) := dOk_get (q := (5, .return_, 1)) ok_tb_F_clear_0 3 rfl
def tb_S_isClosed_0 : List (Nat × Instr × Nat) := [(0, .aload_n 0, 1), (1, .getfield 31, 3), (4, .lconst 0, 1), (5, .lcmp, 1), (6, .ifCond .le 7, 3), (9, .iconst 1, 1), (10, .goto 4, 3), (13, .iconst 0, 1), (14, .ireturn, 1)]
theorem ok_tb_S_isClosed_0 : dOk prog_4_method_2_code tb_S_isClosed_0 = true := by decide +kernel
theorem d_S_isClosed_0 : decode prog_4_method_2_code 0 = .ok (.aload_n 0, 1) := dOk_get (q := (0, .aload_n 0, 1)) ok_tb_S_isClosed_0 0 rfl
theorem d_S_isClosed_1 : decode prog_4_method_2_code 1 = .ok (.getfield 31, 3) := dOk_get (q := (1, .getfield 31, 3)) ok_tb_S_isClosed_0 1 rfl
theorem d_S_isClosed_4 : decode prog_4_method_2_code 4 = .ok (.lconst 0, 1) := dOk_get (q := (4, .lconst 0, 1)) ok_tb_S_isClosed_0 2 rfl
theorem d_S_isClosed_5 : decode prog_4_method_2_code 5 = .ok (.lcmp, 1) := dOk_get (q := (5, .lcmp, 1)) ok_tb_S_isClosed_0 3 rfl
theorem d_S_isClosed_6 : decode prog_4_method_2_code 6 = .ok (.ifCond .le 7, 3) := dOk_get (q := (6, .ifCond .le 7, 3)) ok_tb_S_isClosed_0 4 rfl
theorem d_S_isClosed_9 : decode prog_4_method_2_code 9 = .ok (.iconst 1, 1) := dOk_get (q := (9, .iconst 1, 1)) ok_tb_S_isClosed_0 5 rfl
theorem d_S_isClosed_10 : decode prog_4_method_2_code 10 = .ok (.goto 4, 3) := dOk_get (q := (10, .goto 4, 3)) ok_tb_S_isClosed_0 6 rfl
theorem d_S_isClosed_13 : decode prog_4_method_2_code 13 = .ok (.iconst 0, 1) := dOk_get (q := (13, .iconst 0, 1)) ok_tb_S_isClosed_0 7 rfl
theorem d_S_isClosed_14 : decode prog_4_method_2_code 14 = .ok (.ireturn, 1) := dOk_get (q := (14, .ireturn, 1)) ok_tb_S_isClosed_0 8 rfl
def tb_S_stripAmong_0 : List (Nat × Instr × Nat) := [(0, .aload_n 0, 1), (1, .getfield 24, 3), (4, .iconst 0, 1), (5, .laload, 1), (6, .ldc2_w 35, 3), (9, .ladd, 1), (10, .iload_n 1, 1), (11, .i2l, 1), (12, .lmul, 1), (13, .ldc2_w 37, 3), (16, .ldiv, 1), (17, .l2i, 1), (18, .ireturn, 1)]
theorem ok_tb_S_stripAmong_0 : dOk prog_4_method_5_code tb_S_stripAmong_0 = true := by decide +kernel
theorem d_S_stripAmong_0 : decode prog_4_method_5_code 0 = .ok (.aload_n 0, 1) := dOk_get (q := (0, .aload_n 0, 1)) ok_tb_S_stripAmong_0 0 rfl
theorem d_S_stripAmong_1 : decode prog_4_method_5_code 1 = .ok (.getfield 24, 3) := dOk_get (q := (1, .getfield 24, 3)) ok_tb_S_stripAmong_0 1 rfl
theorem d_S_stripAmong_4 : decode prog_4_method_5_code 4 = .ok (.iconst 0, 1) := dOk_get (q := (4, .iconst 0, 1)) ok_tb_S_stripAmong_0 2 rfl
theorem d_S_stripAmong_5 : decode prog_4_method_5_code 5 = .ok (.laload, 1) := dOk_get (q := (5, .laload, 1)) ok_tb_S_stripAmong_0 3 rfl
theorem d_S_stripAmong_6 : decode prog_4_method_5_code 6 = .ok (.ldc2_w 35, 3) := dOk_get (q := (6, .ldc2_w 35, 3)) ok_tb_S_stripAmong_0 4 rfl
theorem d_S_stripAmong_9 : decode prog_4_method_5_code 9 = .ok (.ladd, 1) := dOk_get (q := (9, .ladd, 1)) ok_tb_S_stripAmong_0 5 rfl
theorem d_S_stripAmong_10 : decode prog_4_method_5_code 10 = .ok (.iload_n 1, 1) := dOk_get (q := (10, .iload_n 1, 1)) ok_tb_S_stripAmong_0 6 rfl
theorem d_S_stripAmong_11 : decode prog_4_method_5_code 11 = .ok (.i2l, 1) := dOk_get (q := (11, .i2l, 1)) ok_tb_S_stripAmong_0 7 rfl
theorem d_S_stripAmong_12 : decode prog_4_method_5_code 12 = .ok (.lmul, 1) := dOk_get (q := (12, .lmul, 1)) ok_tb_S_stripAmong_0 8 rfl
theorem d_S_stripAmong_13 : decode prog_4_method_5_code 13 = .ok (.ldc2_w 37, 3) := dOk_get (q := (13, .ldc2_w 37, 3)) ok_tb_S_stripAmong_0 9 rfl
theorem d_S_stripAmong_16 : decode prog_4_method_5_code 16 = .ok (.ldiv, 1) := dOk_get (q := (16, .ldiv, 1)) ok_tb_S_stripAmong_0 10 rfl
theorem d_S_stripAmong_17 : decode prog_4_method_5_code 17 = .ok (.l2i, 1) := dOk_get (q := (17, .l2i, 1)) ok_tb_S_stripAmong_0 11 rfl
theorem d_S_stripAmong_18 : decode prog_4_method_5_code 18 = .ok (.ireturn, 1) := dOk_get (q := (18, .ireturn, 1)) ok_tb_S_stripAmong_0 12 rfl
def tb_S_isCopper_0 : List (Nat × Instr × Nat) := [(0, .aload_n 0, 1), (1, .getfield 21, 3), (4, .ifCond .eq 11, 3), (7, .aload_n 0, 1), (8, .getfield 21, 3), (11, .iconst 1, 1), (12, .if_icmp .ne 7, 3), (15, .iconst 1, 1), (16, .goto 4, 3), (19, .iconst 0, 1), (20, .ireturn, 1)]
theorem ok_tb_S_isCopper_0 : dOk prog_4_method_3_code tb_S_isCopper_0 = true := by decide +kernel
theorem d_S_isCopper_0 : decode prog_4_method_3_code 0 = .ok (.aload_n 0, 1) := dOk_get (q := (0, .aload_n 0, 1)) ok_tb_S_isCopper_0 0 rfl
theorem d_S_isCopper_1 : decode prog_4_method_3_code 1 = .ok (.getfield 21, 3) := dOk_get (q := (1, .getfield 21, 3)) ok_tb_S_isCopper_0 1 rfl
theorem d_S_isCopper_4 : decode prog_4_method_3_code 4 = .ok (.ifCond .eq 11, 3) := dOk_get (q := (4, .ifCond .eq 11, 3)) ok_tb_S_isCopper_0 2 rfl
theorem d_S_isCopper_7 : decode prog_4_method_3_code 7 = .ok (.aload_n 0, 1) := dOk_get (q := (7, .aload_n 0, 1)) ok_tb_S_isCopper_0 3 rfl
theorem d_S_isCopper_8 : decode prog_4_method_3_code 8 = .ok (.getfield 21, 3) := dOk_get (q := (8, .getfield 21, 3)) ok_tb_S_isCopper_0 4 rfl
theorem d_S_isCopper_11 : decode prog_4_method_3_code 11 = .ok (.iconst 1, 1) := dOk_get (q := (11, .iconst 1, 1)) ok_tb_S_isCopper_0 5 rfl
theorem d_S_isCopper_12 : decode prog_4_method_3_code 12 = .ok (.if_icmp .ne 7, 3) := dOk_get (q := (12, .if_icmp .ne 7, 3)) ok_tb_S_isCopper_0 6 rfl
theorem d_S_isCopper_15 : decode prog_4_method_3_code 15 = .ok (.iconst 1, 1) := dOk_get (q := (15, .iconst 1, 1)) ok_tb_S_isCopper_0 7 rfl
theorem d_S_isCopper_16 : decode prog_4_method_3_code 16 = .ok (.goto 4, 3) := dOk_get (q := (16, .goto 4, 3)) ok_tb_S_isCopper_0 8 rfl
theorem d_S_isCopper_19 : decode prog_4_method_3_code 19 = .ok (.iconst 0, 1) := dOk_get (q := (19, .iconst 0, 1)) ok_tb_S_isCopper_0 9 rfl
theorem d_S_isCopper_20 : decode prog_4_method_3_code 20 = .ok (.ireturn, 1) := dOk_get (q := (20, .ireturn, 1)) ok_tb_S_isCopper_0 10 rfl
def tb_Q_takesFirst_0 : List (Nat × Instr × Nat) := [(0, .aload_n 0, 1), (1, .getfield 15, 3), (4, .iconst (-1), 1), (5, .if_icmp .eq 11, 3), (8, .aload_n 0, 1), (9, .getfield 15, 3), (12, .iload_n 1, 1), (13, .if_icmp .ne 7, 3), (16, .iconst 1, 1), (17, .goto 4, 3), (20, .iconst 0, 1), (21, .ireturn, 1)]
theorem ok_tb_Q_takesFirst_0 : dOk prog_3_method_2_code tb_Q_takesFirst_0 = true := by decide +kernel
theorem d_Q_takesFirst_0 : decode prog_3_method_2_code 0 = .ok (.aload_n 0, 1) := dOk_get (q := (0, .aload_n 0, 1)) ok_tb_Q_takesFirst_0 0 rfl
theorem d_Q_takesFirst_1 : decode prog_3_method_2_code 1 = .ok (.getfield 15, 3) := dOk_get (q := (1, .getfield 15, 3)) ok_tb_Q_takesFirst_0 1 rfl
theorem d_Q_takesFirst_4 : decode prog_3_method_2_code 4 = .ok (.iconst (-1), 1) := dOk_get (q := (4, .iconst (-1), 1)) ok_tb_Q_takesFirst_0 2 rfl
theorem d_Q_takesFirst_5 : decode prog_3_method_2_code 5 = .ok (.if_icmp .eq 11, 3) := dOk_get (q := (5, .if_icmp .eq 11, 3)) ok_tb_Q_takesFirst_0 3 rfl
theorem d_Q_takesFirst_8 : decode prog_3_method_2_code 8 = .ok (.aload_n 0, 1) := dOk_get (q := (8, .aload_n 0, 1)) ok_tb_Q_takesFirst_0 4 rfl
theorem d_Q_takesFirst_9 : decode prog_3_method_2_code 9 = .ok (.getfield 15, 3) := dOk_get (q := (9, .getfield 15, 3)) ok_tb_Q_takesFirst_0 5 rfl
theorem d_Q_takesFirst_12 : decode prog_3_method_2_code 12 = .ok (.iload_n 1, 1) := dOk_get (q := (12, .iload_n 1, 1)) ok_tb_Q_takesFirst_0 6 rfl
theorem d_Q_takesFirst_13 : decode prog_3_method_2_code 13 = .ok (.if_icmp .ne 7, 3) := dOk_get (q := (13, .if_icmp .ne 7, 3)) ok_tb_Q_takesFirst_0 7 rfl
theorem d_Q_takesFirst_16 : decode prog_3_method_2_code 16 = .ok (.iconst 1, 1) := dOk_get (q := (16, .iconst 1, 1)) ok_tb_Q_takesFirst_0 8 rfl
theorem d_Q_takesFirst_17 : decode prog_3_method_2_code 17 = .ok (.goto 4, 3) := dOk_get (q := (17, .goto 4, 3)) ok_tb_Q_takesFirst_0 9 rfl
theorem d_Q_takesFirst_20 : decode prog_3_method_2_code 20 = .ok (.iconst 0, 1) := dOk_get (q := (20, .iconst 0, 1)) ok_tb_Q_takesFirst_0 10 rfl
theorem d_Q_takesFirst_21 : decode prog_3_method_2_code 21 = .ok (.ireturn, 1) := dOk_get (q := (21, .ireturn, 1)) ok_tb_Q_takesFirst_0 11 rfl
def tb_F_add_0 : List (Nat × Instr × Nat) := [(0, .aload_n 0, 1), (1, .getfield 15, 3), (4, .aload_n 0, 1), (5, .getfield 11, 3), (8, .arraylength, 1), (9, .if_icmp .lt 4, 3), (12, .return_, 1), (13, .aload_n 2, 1), (14, .getfield 19, 3), (17, .i2l, 1), (18, .bipush 57, 2), (20, .lshl, 1), (21, .lstore 4, 2), (23, .aload_n 2, 1), (24, .getfield 24, 3), (27, .iconst 0, 1), (28, .laload, 1), (29, .ldc2_w 27, 3), (32, .ladd, 1), (33, .bipush 36, 2), (35, .lshl, 1), (36, .aload_n 2, 1), (37, .getfield 29, 3), (40, .iconst 0, 1), (41, .laload, 1), (42, .ldc2_w 27, 3), (45, .ladd, 1), (46, .bipush 15, 2), (48, .lshl, 1), (49, .lor, 1), (50, .lstore 6, 2), (52, .iload_n 1, 1), (53, .bipush 12, 2), (55, .ishl, 1), (56, .aload_n 2, 1), (57, .getfield 32, 3), (60, .bipush 6, 2), (62, .ishl, 1), (63, .ior, 1), (64, .iload_n 3, 1), (65, .iconst (-1), 1), (66, .isub, 1), (67, .ior, 1), (68, .i2l, 1), (69, .lstore 8, 2), (71, .aload_n 0, 1), (72, .getfield 11, 3), (75, .aload_n 0, 1), (76, .getfield 15, 3), (79, .lload 4, 2), (81, .lload 6, 2), (83, .lor, 1), (84, .lload 8, 2), (86, .lor, 1), (87, .lastore, 1), (88, .aload_n 0, 1), (89, .dup, 1), (90, .getfield 15, 3), (93, .iconst 1, 1), (94, .iadd, 1), (95, .putfield 15, 3), (98, .return_, 1)]
theorem ok_tb_F_add_0 : dOk prog_2_method_3_code tb_F_add_0 = true := by decide +kernel
theorem d_F_add_0 : decode prog_2_method_3_code 0 = .ok (.aload_n 0, 1) := dOk_get (q := (0, .aload_n 0, 1)) ok_tb_F_add_0 0 rfl
theorem d_F_add_1 : decode prog_2_method_3_code 1 = .ok (.getfield 15, 3) := dOk_get (q := (1, .getfield 15, 3)) ok_tb_F_add_0 1 rfl
theorem d_F_add_4 : decode prog_2_method_3_code 4 = .ok (.aload_n 0, 1) := dOk_get (q := (4, .aload_n 0, 1)) ok_tb_F_add_0 2 rfl
theorem d_F_add_5 : decode prog_2_method_3_code 5 = .ok (.getfield 11, 3) := dOk_get (q := (5, .getfield 11, 3)) ok_tb_F_add_0 3 rfl
theorem d_F_add_8 : decode prog_2_method_3_code 8 = .ok (.arraylength, 1) := dOk_get (q := (8, .arraylength, 1)) ok_tb_F_add_0 4 rfl
theorem d_F_add_9 : decode prog_2_method_3_code 9 = .ok (.if_icmp .lt 4, 3) := dOk_get (q := (9, .if_icmp .lt 4, 3)) ok_tb_F_add_0 5 rfl
theorem d_F_add_12 : decode prog_2_method_3_code 12 = .ok (.return_, 1) := dOk_get (q := (12, .return_, 1)) ok_tb_F_add_0 6 rfl
theorem d_F_add_13 : decode prog_2_method_3_code 13 = .ok (.aload_n 2, 1) := dOk_get (q := (13, .aload_n 2, 1)) ok_tb_F_add_0 7 rfl
theorem d_F_add_14 : decode prog_2_method_3_code 14 = .ok (.getfield 19, 3) := dOk_get (q := (14, .getfield 19, 3)) ok_tb_F_add_0 8 rfl
theorem d_F_add_17 : decode prog_2_method_3_code 17 = .ok (.i2l, 1) := dOk_get (q := (17, .i2l, 1)) ok_tb_F_add_0 9 rfl
theorem d_F_add_18 : decode prog_2_method_3_code 18 = .ok (.bipush 57, 2) := dOk_get (q := (18, .bipush 57, 2)) ok_tb_F_add_0 10 rfl
theorem d_F_add_20 : decode prog_2_method_3_code 20 = .ok (.lshl, 1) := dOk_get (q := (20, .lshl, 1)) ok_tb_F_add_0 11 rfl
theorem d_F_add_21 : decode prog_2_method_3_code 21 = .ok (.lstore 4, 2) := dOk_get (q := (21, .lstore 4, 2)) ok_tb_F_add_0 12 rfl
theorem d_F_add_23 : decode prog_2_method_3_code 23 = .ok (.aload_n 2, 1) := dOk_get (q := (23, .aload_n 2, 1)) ok_tb_F_add_0 13 rfl
theorem d_F_add_24 : decode prog_2_method_3_code 24 = .ok (.getfield 24, 3) := dOk_get (q := (24, .getfield 24, 3)) ok_tb_F_add_0 14 rfl
theorem d_F_add_27 : decode prog_2_method_3_code 27 = .ok (.iconst 0, 1) := dOk_get (q := (27, .iconst 0, 1)) ok_tb_F_add_0 15 rfl
theorem d_F_add_28 : decode prog_2_method_3_code 28 = .ok (.laload, 1) := dOk_get (q := (28, .laload, 1)) ok_tb_F_add_0 16 rfl
theorem d_F_add_29 : decode prog_2_method_3_code 29 = .ok (.ldc2_w 27, 3) := dOk_get (q := (29, .ldc2_w 27, 3)) ok_tb_F_add_0 17 rfl
theorem d_F_add_32 : decode prog_2_method_3_code 32 = .ok (.ladd, 1) := dOk_get (q := (32, .ladd, 1)) ok_tb_F_add_0 18 rfl
theorem d_F_add_33 : decode prog_2_method_3_code 33 = .ok (.bipush 36, 2) := dOk_get (q := (33, .bipush 36, 2)) ok_tb_F_add_0 19 rfl
theorem d_F_add_35 : decode prog_2_method_3_code 35 = .ok (.lshl, 1) := dOk_get (q := (35, .lshl, 1)) ok_tb_F_add_0 20 rfl
theorem d_F_add_36 : decode prog_2_method_3_code 36 = .ok (.aload_n 2, 1) := dOk_get (q := (36, .aload_n 2, 1)) ok_tb_F_add_0 21 rfl
theorem d_F_add_37 : decode prog_2_method_3_code 37 = .ok (.getfield 29, 3) := dOk_get (q := (37, .getfield 29, 3)) ok_tb_F_add_0 22 rfl
theorem d_F_add_40 : decode prog_2_method_3_code 40 = .ok (.iconst 0, 1) := dOk_get (q := (40, .iconst 0, 1)) ok_tb_F_add_0 23 rfl
theorem d_F_add_41 : decode prog_2_method_3_code 41 = .ok (.laload, 1) := dOk_get (q := (41, .laload, 1)) ok_tb_F_add_0 24 rfl
theorem d_F_add_42 : decode prog_2_method_3_code 42 = .ok (.ldc2_w 27, 3) := dOk_get (q := (42, .ldc2_w 27, 3)) ok_tb_F_add_0 25 rfl
theorem d_F_add_45 : decode prog_2_method_3_code 45 = .ok (.ladd, 1) := dOk_get (q := (45, .ladd, 1)) ok_tb_F_add_0 26 rfl
theorem d_F_add_46 : decode prog_2_method_3_code 46 = .ok (.bipush 15, 2) := dOk_get (q := (46, .bipush 15, 2)) ok_tb_F_add_0 27 rfl
theorem d_F_add_48 : decode prog_2_method_3_code 48 = .ok (.lshl, 1) := dOk_get (q := (48, .lshl, 1)) ok_tb_F_add_0 28 rfl
theorem d_F_add_49 : decode prog_2_method_3_code 49 = .ok (.lor, 1) := dOk_get (q := (49, .lor, 1)) ok_tb_F_add_0 29 rfl
theorem d_F_add_50 : decode prog_2_method_3_code 50 = .ok (.lstore 6, 2) := dOk_get (q := (50, .lstore 6, 2)) ok_tb_F_add_0 30 rfl
theorem d_F_add_52 : decode prog_2_method_3_code 52 = .ok (.iload_n 1, 1) := dOk_get (q := (52, .iload_n 1, 1)) ok_tb_F_add_0 31 rfl
theorem d_F_add_53 : decode prog_2_method_3_code 53 = .ok (.bipush 12, 2) := dOk_get (q := (53, .bipush 12, 2)) ok_tb_F_add_0 32 rfl
theorem d_F_add_55 : decode prog_2_method_3_code 55 = .ok (.ishl, 1) := dOk_get (q := (55, .ishl, 1)) ok_tb_F_add_0 33 rfl
theorem d_F_add_56 : decode prog_2_method_3_code 56 = .ok (.aload_n 2, 1) := dOk_get (q := (56, .aload_n 2, 1)) ok_tb_F_add_0 34 rfl
theorem d_F_add_57 : decode prog_2_method_3_code 57 = .ok (.getfield 32, 3) := dOk_get (q := (57, .getfield 32, 3)) ok_tb_F_add_0 35 rfl
theorem d_F_add_60 : decode prog_2_method_3_code 60 = .ok (.bipush 6, 2) := dOk_get (q := (60, .bipush 6, 2)) ok_tb_F_add_0 36 rfl
theorem d_F_add_62 : decode prog_2_method_3_code 62 = .ok (.ishl, 1) := dOk_get (q := (62, .ishl, 1)) ok_tb_F_add_0 37 rfl
theorem d_F_add_63 : decode prog_2_method_3_code 63 = .ok (.ior, 1) := dOk_get (q := (63, .ior, 1)) ok_tb_F_add_0 38 rfl
theorem d_F_add_64 : decode prog_2_method_3_code 64 = .ok (.iload_n 3, 1) := dOk_get (q := (64, .iload_n 3, 1)) ok_tb_F_add_0 39 rfl
theorem d_F_add_65 : decode prog_2_method_3_code 65 = .ok (.iconst (-1), 1) := dOk_get (q := (65, .iconst (-1), 1)) ok_tb_F_add_0 40 rfl
theorem d_F_add_66 : decode prog_2_method_3_code 66 = .ok (.isub, 1) := dOk_get (q := (66, .isub, 1)) ok_tb_F_add_0 41 rfl
theorem d_F_add_67 : decode prog_2_method_3_code 67 = .ok (.ior, 1) := dOk_get (q := (67, .ior, 1)) ok_tb_F_add_0 42 rfl
theorem d_F_add_68 : decode prog_2_method_3_code 68 = .ok (.i2l, 1) := dOk_get (q := (68, .i2l, 1)) ok_tb_F_add_0 43 rfl
theorem d_F_add_69 : decode prog_2_method_3_code 69 = .ok (.lstore 8, 2) := dOk_get (q := (69, .lstore 8, 2)) ok_tb_F_add_0 44 rfl
theorem d_F_add_71 : decode prog_2_method_3_code 71 = .ok (.aload_n 0, 1) := dOk_get (q := (71, .aload_n 0, 1)) ok_tb_F_add_0 45 rfl
theorem d_F_add_72 : decode prog_2_method_3_code 72 = .ok (.getfield 11, 3) := dOk_get (q := (72, .getfield 11, 3)) ok_tb_F_add_0 46 rfl
theorem d_F_add_75 : decode prog_2_method_3_code 75 = .ok (.aload_n 0, 1) := dOk_get (q := (75, .aload_n 0, 1)) ok_tb_F_add_0 47 rfl
theorem d_F_add_76 : decode prog_2_method_3_code 76 = .ok (.getfield 15, 3) := dOk_get (q := (76, .getfield 15, 3)) ok_tb_F_add_0 48 rfl
theorem d_F_add_79 : decode prog_2_method_3_code 79 = .ok (.lload 4, 2) := dOk_get (q := (79, .lload 4, 2)) ok_tb_F_add_0 49 rfl
theorem d_F_add_81 : decode prog_2_method_3_code 81 = .ok (.lload 6, 2) := dOk_get (q := (81, .lload 6, 2)) ok_tb_F_add_0 50 rfl
theorem d_F_add_83 : decode prog_2_method_3_code 83 = .ok (.lor, 1) := dOk_get (q := (83, .lor, 1)) ok_tb_F_add_0 51 rfl
theorem d_F_add_84 : decode prog_2_method_3_code 84 = .ok (.lload 8, 2) := dOk_get (q := (84, .lload 8, 2)) ok_tb_F_add_0 52 rfl
theorem d_F_add_86 : decode prog_2_method_3_code 86 = .ok (.lor, 1) := dOk_get (q := (86, .lor, 1)) ok_tb_F_add_0 53 rfl
theorem d_F_add_87 : decode prog_2_method_3_code 87 = .ok (.lastore, 1) := dOk_get (q := (87, .lastore, 1)) ok_tb_F_add_0 54 rfl
theorem d_F_add_88 : decode prog_2_method_3_code 88 = .ok (.aload_n 0, 1) := dOk_get (q := (88, .aload_n 0, 1)) ok_tb_F_add_0 55 rfl
theorem d_F_add_89 : decode prog_2_method_3_code 89 = .ok (.dup, 1) := dOk_get (q := (89, .dup, 1)) ok_tb_F_add_0 56 rfl
theorem d_F_add_90 : decode prog_2_method_3_code 90 = .ok (.getfield 15, 3) := dOk_get (q := (90, .getfield 15, 3)) ok_tb_F_add_0 57 rfl
theorem d_F_add_93 : decode prog_2_method_3_code 93 = .ok (.iconst 1, 1) := dOk_get (q := (93, .iconst 1, 1)) ok_tb_F_add_0 58 rfl
theorem d_F_add_94 : decode prog_2_method_3_code 94 = .ok (.iadd, 1) := dOk_get (q := (94, .iadd, 1)) ok_tb_F_add_0 59 rfl
theorem d_F_add_95 : decode prog_2_method_3_code 95 = .ok (.putfield 15, 3) := dOk_get (q := (95, .putfield 15, 3)) ok_tb_F_add_0 60 rfl
theorem d_F_add_98 : decode prog_2_method_3_code 98 = .ok (.return_, 1) := dOk_get (q := (98, .return_, 1)) ok_tb_F_add_0 61 rfl
def tb_S_sharesNet_0 : List (Nat × Instr × Nat) := [(0, .aload_n 0, 1), (1, .getfield 15, 3), (4, .iconst (-1), 1), (5, .if_icmp .eq 18, 3), (8, .aload_n 0, 1), (9, .getfield 15, 3), (12, .aload_n 1, 1), (13, .getfield 15, 3), (16, .if_icmp .ne 7, 3), (19, .iconst 1, 1), (20, .goto 4, 3), (23, .iconst 0, 1), (24, .ireturn, 1)]
theorem ok_tb_S_sharesNet_0 : dOk prog_4_method_4_code tb_S_sharesNet_0 = true := by decide +kernel
theorem d_S_sharesNet_0 : decode prog_4_method_4_code 0 = .ok (.aload_n 0, 1) := dOk_get (q := (0, .aload_n 0, 1)) ok_tb_S_sharesNet_0 0 rfl
theorem d_S_sharesNet_1 : decode prog_4_method_4_code 1 = .ok (.getfield 15, 3) := dOk_get (q := (1, .getfield 15, 3)) ok_tb_S_sharesNet_0 1 rfl
theorem d_S_sharesNet_4 : decode prog_4_method_4_code 4 = .ok (.iconst (-1), 1) := dOk_get (q := (4, .iconst (-1), 1)) ok_tb_S_sharesNet_0 2 rfl
theorem d_S_sharesNet_5 : decode prog_4_method_4_code 5 = .ok (.if_icmp .eq 18, 3) := dOk_get (q := (5, .if_icmp .eq 18, 3)) ok_tb_S_sharesNet_0 3 rfl
theorem d_S_sharesNet_8 : decode prog_4_method_4_code 8 = .ok (.aload_n 0, 1) := dOk_get (q := (8, .aload_n 0, 1)) ok_tb_S_sharesNet_0 4 rfl
theorem d_S_sharesNet_9 : decode prog_4_method_4_code 9 = .ok (.getfield 15, 3) := dOk_get (q := (9, .getfield 15, 3)) ok_tb_S_sharesNet_0 5 rfl
theorem d_S_sharesNet_12 : decode prog_4_method_4_code 12 = .ok (.aload_n 1, 1) := dOk_get (q := (12, .aload_n 1, 1)) ok_tb_S_sharesNet_0 6 rfl
theorem d_S_sharesNet_13 : decode prog_4_method_4_code 13 = .ok (.getfield 15, 3) := dOk_get (q := (13, .getfield 15, 3)) ok_tb_S_sharesNet_0 7 rfl
theorem d_S_sharesNet_16 : decode prog_4_method_4_code 16 = .ok (.if_icmp .ne 7, 3) := dOk_get (q := (16, .if_icmp .ne 7, 3)) ok_tb_S_sharesNet_0 8 rfl
theorem d_S_sharesNet_19 : decode prog_4_method_4_code 19 = .ok (.iconst 1, 1) := dOk_get (q := (19, .iconst 1, 1)) ok_tb_S_sharesNet_0 9 rfl
theorem d_S_sharesNet_20 : decode prog_4_method_4_code 20 = .ok (.goto 4, 3) := dOk_get (q := (20, .goto 4, 3)) ok_tb_S_sharesNet_0 10 rfl
theorem d_S_sharesNet_23 : decode prog_4_method_4_code 23 = .ok (.iconst 0, 1) := dOk_get (q := (23, .iconst 0, 1)) ok_tb_S_sharesNet_0 11 rfl
theorem d_S_sharesNet_24 : decode prog_4_method_4_code 24 = .ok (.ireturn, 1) := dOk_get (q := (24, .ireturn, 1)) ok_tb_S_sharesNet_0 12 rfl
def tb_S_reachesCorners_0 : List (Nat × Instr × Nat) := [(0, .lload_n 2, 1), (1, .lconst 0, 1), (2, .lcmp, 1), (3, .ifCond .ge 5, 3), (6, .iconst 0, 1), (7, .ireturn, 1), (8, .iconst 0, 1), (9, .istore 4, 2), (11, .iload 4, 2), (13, .aload_n 1, 1), (14, .getfield 39, 3), (17, .if_icmp .ge 33, 3), (20, .aload_n 0, 1), (21, .aload_n 1, 1), (22, .getfield 24, 3), (25, .iload 4, 2), (27, .laload, 1), (28, .aload_n 1, 1), (29, .getfield 28, 3), (32, .iload 4, 2), (34, .laload, 1), (35, .lload_n 2, 1), (36, .invokevirtual 50, 3), (39, .ifCond .ne 5, 3), (42, .iconst 0, 1), (43, .ireturn, 1), (44, .iinc 4 1, 3), (47, .goto (-36), 3), (50, .iconst 1, 1), (51, .ireturn, 1)]
theorem ok_tb_S_reachesCorners_0 : dOk prog_4_method_9_code tb_S_reachesCorners_0 = true := by decide +kernel
theorem d_S_reachesCorners_0 : decode prog_4_method_9_code 0 = .ok (.lload_n 2, 1) := dOk_get (q := (0, .lload_n 2, 1)) ok_tb_S_reachesCorners_0 0 rfl
theorem d_S_reachesCorners_1 : decode prog_4_method_9_code 1 = .ok (.lconst 0, 1) := dOk_get (q := (1, .lconst 0, 1)) ok_tb_S_reachesCorners_0 1 rfl
theorem d_S_reachesCorners_2 : decode prog_4_method_9_code 2 = .ok (.lcmp, 1) := dOk_get (q := (2, .lcmp, 1)) ok_tb_S_reachesCorners_0 2 rfl
theorem d_S_reachesCorners_3 : decode prog_4_method_9_code 3 = .ok (.ifCond .ge 5, 3) := dOk_get (q := (3, .ifCond .ge 5, 3)) ok_tb_S_reachesCorners_0 3 rfl
theorem d_S_reachesCorners_6 : decode prog_4_method_9_code 6 = .ok (.iconst 0, 1) := dOk_get (q := (6, .iconst 0, 1)) ok_tb_S_reachesCorners_0 4 rfl
theorem d_S_reachesCorners_7 : decode prog_4_method_9_code 7 = .ok (.ireturn, 1) := dOk_get (q := (7, .ireturn, 1)) ok_tb_S_reachesCorners_0 5 rfl
theorem d_S_reachesCorners_8 : decode prog_4_method_9_code 8 = .ok (.iconst 0, 1) := dOk_get (q := (8, .iconst 0, 1)) ok_tb_S_reachesCorners_0 6 rfl
theorem d_S_reachesCorners_9 : decode prog_4_method_9_code 9 = .ok (.istore 4, 2) := dOk_get (q := (9, .istore 4, 2)) ok_tb_S_reachesCorners_0 7 rfl
theorem d_S_reachesCorners_11 : decode prog_4_method_9_code 11 = .ok (.iload 4, 2) := dOk_get (q := (11, .iload 4, 2)) ok_tb_S_reachesCorners_0 8 rfl
theorem d_S_reachesCorners_13 : decode prog_4_method_9_code 13 = .ok (.aload_n 1, 1) := dOk_get (q := (13, .aload_n 1, 1)) ok_tb_S_reachesCorners_0 9 rfl
theorem d_S_reachesCorners_14 : decode prog_4_method_9_code 14 = .ok (.getfield 39, 3) := dOk_get (q := (14, .getfield 39, 3)) ok_tb_S_reachesCorners_0 10 rfl
theorem d_S_reachesCorners_17 : decode prog_4_method_9_code 17 = .ok (.if_icmp .ge 33, 3) := dOk_get (q := (17, .if_icmp .ge 33, 3)) ok_tb_S_reachesCorners_0 11 rfl
theorem d_S_reachesCorners_20 : decode prog_4_method_9_code 20 = .ok (.aload_n 0, 1) := dOk_get (q := (20, .aload_n 0, 1)) ok_tb_S_reachesCorners_0 12 rfl
theorem d_S_reachesCorners_21 : decode prog_4_method_9_code 21 = .ok (.aload_n 1, 1) := dOk_get (q := (21, .aload_n 1, 1)) ok_tb_S_reachesCorners_0 13 rfl
theorem d_S_reachesCorners_22 : decode prog_4_method_9_code 22 = .ok (.getfield 24, 3) := dOk_get (q := (22, .getfield 24, 3)) ok_tb_S_reachesCorners_0 14 rfl
theorem d_S_reachesCorners_25 : decode prog_4_method_9_code 25 = .ok (.iload 4, 2) := dOk_get (q := (25, .iload 4, 2)) ok_tb_S_reachesCorners_0 15 rfl
theorem d_S_reachesCorners_27 : decode prog_4_method_9_code 27 = .ok (.laload, 1) := dOk_get (q := (27, .laload, 1)) ok_tb_S_reachesCorners_0 16 rfl
theorem d_S_reachesCorners_28 : decode prog_4_method_9_code 28 = .ok (.aload_n 1, 1) := dOk_get (q := (28, .aload_n 1, 1)) ok_tb_S_reachesCorners_0 17 rfl
theorem d_S_reachesCorners_29 : decode prog_4_method_9_code 29 = .ok (.getfield 28, 3) := dOk_get (q := (29, .getfield 28, 3)) ok_tb_S_reachesCorners_0 18 rfl
theorem d_S_reachesCorners_32 : decode prog_4_method_9_code 32 = .ok (.iload 4, 2) := dOk_get (q := (32, .iload 4, 2)) ok_tb_S_reachesCorners_0 19 rfl
theorem d_S_reachesCorners_34 : decode prog_4_method_9_code 34 = .ok (.laload, 1) := dOk_get (q := (34, .laload, 1)) ok_tb_S_reachesCorners_0 20 rfl
theorem d_S_reachesCorners_35 : decode prog_4_method_9_code 35 = .ok (.lload_n 2, 1) := dOk_get (q := (35, .lload_n 2, 1)) ok_tb_S_reachesCorners_0 21 rfl
theorem d_S_reachesCorners_36 : decode prog_4_method_9_code 36 = .ok (.invokevirtual 50, 3) := dOk_get (q := (36, .invokevirtual 50, 3)) ok_tb_S_reachesCorners_0 22 rfl
theorem d_S_reachesCorners_39 : decode prog_4_method_9_code 39 = .ok (.ifCond .ne 5, 3) := dOk_get (q := (39, .ifCond .ne 5, 3)) ok_tb_S_reachesCorners_0 23 rfl
theorem d_S_reachesCorners_42 : decode prog_4_method_9_code 42 = .ok (.iconst 0, 1) := dOk_get (q := (42, .iconst 0, 1)) ok_tb_S_reachesCorners_0 24 rfl
theorem d_S_reachesCorners_43 : decode prog_4_method_9_code 43 = .ok (.ireturn, 1) := dOk_get (q := (43, .ireturn, 1)) ok_tb_S_reachesCorners_0 25 rfl
theorem d_S_reachesCorners_44 : decode prog_4_method_9_code 44 = .ok (.iinc 4 1, 3) := dOk_get (q := (44, .iinc 4 1, 3)) ok_tb_S_reachesCorners_0 26 rfl
theorem d_S_reachesCorners_47 : decode prog_4_method_9_code 47 = .ok (.goto (-36), 3) := dOk_get (q := (47, .goto (-36), 3)) ok_tb_S_reachesCorners_0 27 rfl
theorem d_S_reachesCorners_50 : decode prog_4_method_9_code 50 = .ok (.iconst 1, 1) := dOk_get (q := (50, .iconst 1, 1)) ok_tb_S_reachesCorners_0 28 rfl
theorem d_S_reachesCorners_51 : decode prog_4_method_9_code 51 = .ok (.ireturn, 1) := dOk_get (q := (51, .ireturn, 1)) ok_tb_S_reachesCorners_0 29 rfl
def tb_S_reaches_0 : List (Nat × Instr × Nat) := [(0, .iconst 0, 1), (1, .istore 7, 2), (3, .iload 7, 2), (5, .aload_n 0, 1), (6, .invokevirtual 42, 3), (9, .if_icmp .ge 24, 3), (12, .aload_n 0, 1), (13, .iload 7, 2), (15, .lload_n 1, 1), (16, .lload_n 3, 1), (17, .lload 5, 2), (19, .invokevirtual 46, 3), (22, .ifCond .gt 5, 3), (25, .iconst 1, 1), (26, .ireturn, 1), (27, .iinc 7 1, 3), (30, .goto (-27), 3), (33, .iconst 0, 1), (34, .ireturn, 1)]
theorem ok_tb_S_reaches_0 : dOk prog_4_method_8_code tb_S_reaches_0 = true := by decide +kernel
theorem d_S_reaches_0 : decode prog_4_method_8_code 0 = .ok (.iconst 0, 1) := dOk_get (q := (0, .iconst 0, 1)) ok_tb_S_reaches_0 0 rfl
theorem d_S_reaches_1 : decode prog_4_method_8_code 1 = .ok (.istore 7, 2) := dOk_get (q := (1, .istore 7, 2)) ok_tb_S_reaches_0 1 rfl
theorem d_S_reaches_3 : decode prog_4_method_8_code 3 = .ok (.iload 7, 2) := dOk_get (q := (3, .iload 7, 2)) ok_tb_S_reaches_0 2 rfl
theorem d_S_reaches_5 : decode prog_4_method_8_code 5 = .ok (.aload_n 0, 1) := dOk_get (q := (5, .aload_n 0, 1)) ok_tb_S_reaches_0 3 rfl
theorem d_S_reaches_6 : decode prog_4_method_8_code 6 = .ok (.invokevirtual 42, 3) := dOk_get (q := (6, .invokevirtual 42, 3)) ok_tb_S_reaches_0 4 rfl
theorem d_S_reaches_9 : decode prog_4_method_8_code 9 = .ok (.if_icmp .ge 24, 3) := dOk_get (q := (9, .if_icmp .ge 24, 3)) ok_tb_S_reaches_0 5 rfl
theorem d_S_reaches_12 : decode prog_4_method_8_code 12 = .ok (.aload_n 0, 1) := dOk_get (q := (12, .aload_n 0, 1)) ok_tb_S_reaches_0 6 rfl
theorem d_S_reaches_13 : decode prog_4_method_8_code 13 = .ok (.iload 7, 2) := dOk_get (q := (13, .iload 7, 2)) ok_tb_S_reaches_0 7 rfl
theorem d_S_reaches_15 : decode prog_4_method_8_code 15 = .ok (.lload_n 1, 1) := dOk_get (q := (15, .lload_n 1, 1)) ok_tb_S_reaches_0 8 rfl
theorem d_S_reaches_16 : decode prog_4_method_8_code 16 = .ok (.lload_n 3, 1) := dOk_get (q := (16, .lload_n 3, 1)) ok_tb_S_reaches_0 9 rfl
theorem d_S_reaches_17 : decode prog_4_method_8_code 17 = .ok (.lload 5, 2) := dOk_get (q := (17, .lload 5, 2)) ok_tb_S_reaches_0 10 rfl
theorem d_S_reaches_19 : decode prog_4_method_8_code 19 = .ok (.invokevirtual 46, 3) := dOk_get (q := (19, .invokevirtual 46, 3)) ok_tb_S_reaches_0 11 rfl
theorem d_S_reaches_22 : decode prog_4_method_8_code 22 = .ok (.ifCond .gt 5, 3) := dOk_get (q := (22, .ifCond .gt 5, 3)) ok_tb_S_reaches_0 12 rfl
theorem d_S_reaches_25 : decode prog_4_method_8_code 25 = .ok (.iconst 1, 1) := dOk_get (q := (25, .iconst 1, 1)) ok_tb_S_reaches_0 13 rfl
theorem d_S_reaches_26 : decode prog_4_method_8_code 26 = .ok (.ireturn, 1) := dOk_get (q := (26, .ireturn, 1)) ok_tb_S_reaches_0 14 rfl
theorem d_S_reaches_27 : decode prog_4_method_8_code 27 = .ok (.iinc 7 1, 3) := dOk_get (q := (27, .iinc 7 1, 3)) ok_tb_S_reaches_0 15 rfl
theorem d_S_reaches_30 : decode prog_4_method_8_code 30 = .ok (.goto (-27), 3) := dOk_get (q := (30, .goto (-27), 3)) ok_tb_S_reaches_0 16 rfl
theorem d_S_reaches_33 : decode prog_4_method_8_code 33 = .ok (.iconst 0, 1) := dOk_get (q := (33, .iconst 0, 1)) ok_tb_S_reaches_0 17 rfl
theorem d_S_reaches_34 : decode prog_4_method_8_code 34 = .ok (.ireturn, 1) := dOk_get (q := (34, .ireturn, 1)) ok_tb_S_reaches_0 18 rfl
def tb_S_pieces_0 : List (Nat × Instr × Nat) := [(0, .iconst 1, 1), (1, .aload_n 0, 1), (2, .getfield 39, 3), (5, .iconst 1, 1), (6, .isub, 1), (7, .invokestatic 70, 3), (10, .ireturn, 1)]
theorem ok_tb_S_pieces_0 : dOk prog_4_method_14_code tb_S_pieces_0 = true := by decide +kernel
theorem d_S_pieces_0 : decode prog_4_method_14_code 0 = .ok (.iconst 1, 1) := dOk_get (q := (0, .iconst 1, 1)) ok_tb_S_pieces_0 0 rfl
theorem d_S_pieces_1 : decode prog_4_method_14_code 1 = .ok (.aload_n 0, 1) := dOk_get (q := (1, .aload_n 0, 1)) ok_tb_S_pieces_0 1 rfl
theorem d_S_pieces_2 : decode prog_4_method_14_code 2 = .ok (.getfield 39, 3) := dOk_get (q := (2, .getfield 39, 3)) ok_tb_S_pieces_0 2 rfl
theorem d_S_pieces_5 : decode prog_4_method_14_code 5 = .ok (.iconst 1, 1) := dOk_get (q := (5, .iconst 1, 1)) ok_tb_S_pieces_0 3 rfl
theorem d_S_pieces_6 : decode prog_4_method_14_code 6 = .ok (.isub, 1) := dOk_get (q := (6, .isub, 1)) ok_tb_S_pieces_0 4 rfl
theorem d_S_pieces_7 : decode prog_4_method_14_code 7 = .ok (.invokestatic 70, 3) := dOk_get (q := (7, .invokestatic 70, 3)) ok_tb_S_pieces_0 5 rfl
theorem d_S_pieces_10 : decode prog_4_method_14_code 10 = .ok (.ireturn, 1) := dOk_get (q := (10, .ireturn, 1)) ok_tb_S_pieces_0 6 rfl
def tb_S_compareToPiece_0 : List (Nat × Instr × Nat) := [(0, .iload_n 1, 1), (1, .iconst 1, 1), (2, .iadd, 1), (3, .aload_n 0, 1), (4, .getfield 39, 3), (7, .if_icmp .ge 9, 3), (10, .iload_n 1, 1), (11, .iconst 1, 1), (12, .iadd, 1), (13, .goto 4, 3), (16, .iload_n 1, 1), (17, .istore 8, 2), (19, .aload_n 0, 1), (20, .getfield 24, 3), (23, .iload 8, 2), (25, .laload, 1), (26, .aload_n 0, 1), (27, .getfield 24, 3), (30, .iload_n 1, 1), (31, .laload, 1), (32, .lsub, 1), (33, .lstore 9, 2), (35, .aload_n 0, 1), (36, .getfield 28, 3), (39, .iload 8, 2), (41, .laload, 1), (42, .aload_n 0, 1), (43, .getfield 28, 3), (46, .iload_n 1, 1), (47, .laload, 1), (48, .lsub, 1), (49, .lstore 11, 2), (51, .lload 9, 2), (53, .lload 9, 2), (55, .lmul, 1), (56, .lload 11, 2), (58, .lload 11, 2), (60, .lmul, 1), (61, .ladd, 1), (62, .lstore 13, 2), (64, .lload 9, 2), (66, .lload_n 2, 1), (67, .aload_n 0, 1), (68, .getfield 24, 3), (71, .iload_n 1, 1), (72, .laload, 1), (73, .lsub, 1), (74, .lmul, 1), (75, .lload 11, 2), (77, .lload 4, 2), (79, .aload_n 0, 1), (80, .getfield 28, 3), (83, .iload_n 1, 1), (84, .laload, 1), (85, .lsub, 1), (86, .lmul, 1), (87, .ladd, 1), (88, .lstore 15, 2), (90, .lload 15, 2), (92, .lconst 0, 1), (93, .lcmp, 1), (94, .ifCond .gt 20, 3), (97, .aload_n 0, 1), (98, .iload_n 1, 1), (99, .lload_n 2, 1), (100, .lload 4, 2), (102, .invokevirtual 76, 3), (105, .lload 6, 2), (107, .lload 6, 2), (109, .lmul, 1), (110, .invokestatic 79, 3), (113, .ireturn, 1), (114, .lload 15, 2), (116, .lload 13, 2), (118, .lcmp, 1), (119, .ifCond .lt 21, 3), (122, .aload_n 0, 1), (123, .iload 8, 2), (125, .lload_n 2, 1), (126, .lload 4, 2), (128, .invokevirtual 76, 3), (131, .lload 6, 2), (133, .lload 6, 2), (135, .lmul, 1), (136, .invokestatic 79, 3), (139, .ireturn, 1), (140, .lload 9, 2), (142, .lload 4, 2), (144, .aload_n 0, 1), (145, .getfield 28, 3), (148, .iload_n 1, 1), (149, .laload, 1), (150, .lsub, 1), (151, .lmul, 1), (152, .lload 11, 2), (154, .lload_n 2, 1), (155, .aload_n 0, 1), (156, .getfield 24, 3), (159, .iload_n 1, 1), (160, .laload, 1), (161, .lsub, 1), (162, .lmul, 1), (163, .lsub, 1), (164, .invokestatic 85, 3), (167, .lstore 17, 2), (169, .lload 17, 2), (171, .lload 17, 2), (173, .invokestatic 89, 3), (176, .lload 6, 2), (178, .lload 6, 2), (180, .lmul, 1), (181, .lload 13, 2), (183, .invokestatic 89, 3), (186, .invokestatic 79, 3), (189, .istore 19, 2), (191, .iload 19, 2), (193, .ifCond .eq 8, 3), (196, .iload 19, 2), (198, .goto 23, 3), (201, .lload 17, 2)]
theorem ok_tb_S_compareToPiece_0 : dOk prog_4_method_16_code tb_S_compareToPiece_0 = true := by decide +kernel
theorem d_S_compareToPiece_0 : decode prog_4_method_16_code 0 = .ok (.iload_n 1, 1) := dOk_get (q := (0, .iload_n 1, 1)) ok_tb_S_compareToPiece_0 0 rfl
theorem d_S_compareToPiece_1 : decode prog_4_method_16_code 1 = .ok (.iconst 1, 1) := dOk_get (q := (1, .iconst 1, 1)) ok_tb_S_compareToPiece_0 1 rfl
theorem d_S_compareToPiece_2 : decode prog_4_method_16_code 2 = .ok (.iadd, 1) := dOk_get (q := (2, .iadd, 1)) ok_tb_S_compareToPiece_0 2 rfl
theorem d_S_compareToPiece_3 : decode prog_4_method_16_code 3 = .ok (.aload_n 0, 1) := dOk_get (q := (3, .aload_n 0, 1)) ok_tb_S_compareToPiece_0 3 rfl
theorem d_S_compareToPiece_4 : decode prog_4_method_16_code 4 = .ok (.getfield 39, 3) := dOk_get (q := (4, .getfield 39, 3)) ok_tb_S_compareToPiece_0 4 rfl
theorem d_S_compareToPiece_7 : decode prog_4_method_16_code 7 = .ok (.if_icmp .ge 9, 3) := dOk_get (q := (7, .if_icmp .ge 9, 3)) ok_tb_S_compareToPiece_0 5 rfl
theorem d_S_compareToPiece_10 : decode prog_4_method_16_code 10 = .ok (.iload_n 1, 1) := dOk_get (q := (10, .iload_n 1, 1)) ok_tb_S_compareToPiece_0 6 rfl
theorem d_S_compareToPiece_11 : decode prog_4_method_16_code 11 = .ok (.iconst 1, 1) := dOk_get (q := (11, .iconst 1, 1)) ok_tb_S_compareToPiece_0 7 rfl
theorem d_S_compareToPiece_12 : decode prog_4_method_16_code 12 = .ok (.iadd, 1) := dOk_get (q := (12, .iadd, 1)) ok_tb_S_compareToPiece_0 8 rfl
theorem d_S_compareToPiece_13 : decode prog_4_method_16_code 13 = .ok (.goto 4, 3) := dOk_get (q := (13, .goto 4, 3)) ok_tb_S_compareToPiece_0 9 rfl
theorem d_S_compareToPiece_16 : decode prog_4_method_16_code 16 = .ok (.iload_n 1, 1) := dOk_get (q := (16, .iload_n 1, 1)) ok_tb_S_compareToPiece_0 10 rfl
theorem d_S_compareToPiece_17 : decode prog_4_method_16_code 17 = .ok (.istore 8, 2) := dOk_get (q := (17, .istore 8, 2)) ok_tb_S_compareToPiece_0 11 rfl
theorem d_S_compareToPiece_19 : decode prog_4_method_16_code 19 = .ok (.aload_n 0, 1) := dOk_get (q := (19, .aload_n 0, 1)) ok_tb_S_compareToPiece_0 12 rfl
theorem d_S_compareToPiece_20 : decode prog_4_method_16_code 20 = .ok (.getfield 24, 3) := dOk_get (q := (20, .getfield 24, 3)) ok_tb_S_compareToPiece_0 13 rfl
theorem d_S_compareToPiece_23 : decode prog_4_method_16_code 23 = .ok (.iload 8, 2) := dOk_get (q := (23, .iload 8, 2)) ok_tb_S_compareToPiece_0 14 rfl
theorem d_S_compareToPiece_25 : decode prog_4_method_16_code 25 = .ok (.laload, 1) := dOk_get (q := (25, .laload, 1)) ok_tb_S_compareToPiece_0 15 rfl
theorem d_S_compareToPiece_26 : decode prog_4_method_16_code 26 = .ok (.aload_n 0, 1) := dOk_get (q := (26, .aload_n 0, 1)) ok_tb_S_compareToPiece_0 16 rfl
theorem d_S_compareToPiece_27 : decode prog_4_method_16_code 27 = .ok (.getfield 24, 3) := dOk_get (q := (27, .getfield 24, 3)) ok_tb_S_compareToPiece_0 17 rfl
theorem d_S_compareToPiece_30 : decode prog_4_method_16_code 30 = .ok (.iload_n 1, 1) := dOk_get (q := (30, .iload_n 1, 1)) ok_tb_S_compareToPiece_0 18 rfl
theorem d_S_compareToPiece_31 : decode prog_4_method_16_code 31 = .ok (.laload, 1) := dOk_get (q := (31, .laload, 1)) ok_tb_S_compareToPiece_0 19 rfl
theorem d_S_compareToPiece_32 : decode prog_4_method_16_code 32 = .ok (.lsub, 1) := dOk_get (q := (32, .lsub, 1)) ok_tb_S_compareToPiece_0 20 rfl
theorem d_S_compareToPiece_33 : decode prog_4_method_16_code 33 = .ok (.lstore 9, 2) := dOk_get (q := (33, .lstore 9, 2)) ok_tb_S_compareToPiece_0 21 rfl
theorem d_S_compareToPiece_35 : decode prog_4_method_16_code 35 = .ok (.aload_n 0, 1) := dOk_get (q := (35, .aload_n 0, 1)) ok_tb_S_compareToPiece_0 22 rfl
theorem d_S_compareToPiece_36 : decode prog_4_method_16_code 36 = .ok (.getfield 28, 3) := dOk_get (q := (36, .getfield 28, 3)) ok_tb_S_compareToPiece_0 23 rfl
theorem d_S_compareToPiece_39 : decode prog_4_method_16_code 39 = .ok (.iload 8, 2) := dOk_get (q := (39, .iload 8, 2)) ok_tb_S_compareToPiece_0 24 rfl
theorem d_S_compareToPiece_41 : decode prog_4_method_16_code 41 = .ok (.laload, 1) := dOk_get (q := (41, .laload, 1)) ok_tb_S_compareToPiece_0 25 rfl
theorem d_S_compareToPiece_42 : decode prog_4_method_16_code 42 = .ok (.aload_n 0, 1) := dOk_get (q := (42, .aload_n 0, 1)) ok_tb_S_compareToPiece_0 26 rfl
theorem d_S_compareToPiece_43 : decode prog_4_method_16_code 43 = .ok (.getfield 28, 3) := dOk_get (q := (43, .getfield 28, 3)) ok_tb_S_compareToPiece_0 27 rfl
theorem d_S_compareToPiece_46 : decode prog_4_method_16_code 46 = .ok (.iload_n 1, 1) := dOk_get (q := (46, .iload_n 1, 1)) ok_tb_S_compareToPiece_0 28 rfl
theorem d_S_compareToPiece_47 : decode prog_4_method_16_code 47 = .ok (.laload, 1) := dOk_get (q := (47, .laload, 1)) ok_tb_S_compareToPiece_0 29 rfl
theorem d_S_compareToPiece_48 : decode prog_4_method_16_code 48 = .ok (.lsub, 1) := dOk_get (q := (48, .lsub, 1)) ok_tb_S_compareToPiece_0 30 rfl
theorem d_S_compareToPiece_49 : decode prog_4_method_16_code 49 = .ok (.lstore 11, 2) := dOk_get (q := (49, .lstore 11, 2)) ok_tb_S_compareToPiece_0 31 rfl
theorem d_S_compareToPiece_51 : decode prog_4_method_16_code 51 = .ok (.lload 9, 2) := dOk_get (q := (51, .lload 9, 2)) ok_tb_S_compareToPiece_0 32 rfl
theorem d_S_compareToPiece_53 : decode prog_4_method_16_code 53 = .ok (.lload 9, 2) := dOk_get (q := (53, .lload 9, 2)) ok_tb_S_compareToPiece_0 33 rfl
theorem d_S_compareToPiece_55 : decode prog_4_method_16_code 55 = .ok (.lmul, 1) := dOk_get (q := (55, .lmul, 1)) ok_tb_S_compareToPiece_0 34 rfl
theorem d_S_compareToPiece_56 : decode prog_4_method_16_code 56 = .ok (.lload 11, 2) := dOk_get (q := (56, .lload 11, 2)) ok_tb_S_compareToPiece_0 35 rfl
theorem d_S_compareToPiece_58 : decode prog_4_method_16_code 58 = .ok (.lload 11, 2) := dOk_get (q := (58, .lload 11, 2)) ok_tb_S_compareToPiece_0 36 rfl
theorem d_S_compareToPiece_60 : decode prog_4_method_16_code 60 = .ok (.lmul, 1) := dOk_get (q := (60, .lmul, 1)) ok_tb_S_compareToPiece_0 37 rfl
theorem d_S_compareToPiece_61 : decode prog_4_method_16_code 61 = .ok (.ladd, 1) := dOk_get (q := (61, .ladd, 1)) ok_tb_S_compareToPiece_0 38 rfl
theorem d_S_compareToPiece_62 : decode prog_4_method_16_code 62 = .ok (.lstore 13, 2) := dOk_get (q := (62, .lstore 13, 2)) ok_tb_S_compareToPiece_0 39 rfl
theorem d_S_compareToPiece_64 : decode prog_4_method_16_code 64 = .ok (.lload 9, 2) := dOk_get (q := (64, .lload 9, 2)) ok_tb_S_compareToPiece_0 40 rfl
theorem d_S_compareToPiece_66 : decode prog_4_method_16_code 66 = .ok (.lload_n 2, 1) := dOk_get (q := (66, .lload_n 2, 1)) ok_tb_S_compareToPiece_0 41 rfl
theorem d_S_compareToPiece_67 : decode prog_4_method_16_code 67 = .ok (.aload_n 0, 1) := dOk_get (q := (67, .aload_n 0, 1)) ok_tb_S_compareToPiece_0 42 rfl
theorem d_S_compareToPiece_68 : decode prog_4_method_16_code 68 = .ok (.getfield 24, 3) := dOk_get (q := (68, .getfield 24, 3)) ok_tb_S_compareToPiece_0 43 rfl
theorem d_S_compareToPiece_71 : decode prog_4_method_16_code 71 = .ok (.iload_n 1, 1) := dOk_get (q := (71, .iload_n 1, 1)) ok_tb_S_compareToPiece_0 44 rfl
theorem d_S_compareToPiece_72 : decode prog_4_method_16_code 72 = .ok (.laload, 1) := dOk_get (q := (72, .laload, 1)) ok_tb_S_compareToPiece_0 45 rfl
theorem d_S_compareToPiece_73 : decode prog_4_method_16_code 73 = .ok (.lsub, 1) := dOk_get (q := (73, .lsub, 1)) ok_tb_S_compareToPiece_0 46 rfl
theorem d_S_compareToPiece_74 : decode prog_4_method_16_code 74 = .ok (.lmul, 1) := dOk_get (q := (74, .lmul, 1)) ok_tb_S_compareToPiece_0 47 rfl
theorem d_S_compareToPiece_75 : decode prog_4_method_16_code 75 = .ok (.lload 11, 2) := dOk_get (q := (75, .lload 11, 2)) ok_tb_S_compareToPiece_0 48 rfl
theorem d_S_compareToPiece_77 : decode prog_4_method_16_code 77 = .ok (.lload 4, 2) := dOk_get (q := (77, .lload 4, 2)) ok_tb_S_compareToPiece_0 49 rfl
theorem d_S_compareToPiece_79 : decode prog_4_method_16_code 79 = .ok (.aload_n 0, 1) := dOk_get (q := (79, .aload_n 0, 1)) ok_tb_S_compareToPiece_0 50 rfl
theorem d_S_compareToPiece_80 : decode prog_4_method_16_code 80 = .ok (.getfield 28, 3) := dOk_get (q := (80, .getfield 28, 3)) ok_tb_S_compareToPiece_0 51 rfl
theorem d_S_compareToPiece_83 : decode prog_4_method_16_code 83 = .ok (.iload_n 1, 1) := dOk_get (q := (83, .iload_n 1, 1)) ok_tb_S_compareToPiece_0 52 rfl
theorem d_S_compareToPiece_84 : decode prog_4_method_16_code 84 = .ok (.laload, 1) := dOk_get (q := (84, .laload, 1)) ok_tb_S_compareToPiece_0 53 rfl
theorem d_S_compareToPiece_85 : decode prog_4_method_16_code 85 = .ok (.lsub, 1) := dOk_get (q := (85, .lsub, 1)) ok_tb_S_compareToPiece_0 54 rfl
theorem d_S_compareToPiece_86 : decode prog_4_method_16_code 86 = .ok (.lmul, 1) := dOk_get (q := (86, .lmul, 1)) ok_tb_S_compareToPiece_0 55 rfl
theorem d_S_compareToPiece_87 : decode prog_4_method_16_code 87 = .ok (.ladd, 1) := dOk_get (q := (87, .ladd, 1)) ok_tb_S_compareToPiece_0 56 rfl
theorem d_S_compareToPiece_88 : decode prog_4_method_16_code 88 = .ok (.lstore 15, 2) := dOk_get (q := (88, .lstore 15, 2)) ok_tb_S_compareToPiece_0 57 rfl
theorem d_S_compareToPiece_90 : decode prog_4_method_16_code 90 = .ok (.lload 15, 2) := dOk_get (q := (90, .lload 15, 2)) ok_tb_S_compareToPiece_0 58 rfl
theorem d_S_compareToPiece_92 : decode prog_4_method_16_code 92 = .ok (.lconst 0, 1) := dOk_get (q := (92, .lconst 0, 1)) ok_tb_S_compareToPiece_0 59 rfl
theorem d_S_compareToPiece_93 : decode prog_4_method_16_code 93 = .ok (.lcmp, 1) := dOk_get (q := (93, .lcmp, 1)) ok_tb_S_compareToPiece_0 60 rfl
theorem d_S_compareToPiece_94 : decode prog_4_method_16_code 94 = .ok (.ifCond .gt 20, 3) := dOk_get (q := (94, .ifCond .gt 20, 3)) ok_tb_S_compareToPiece_0 61 rfl
theorem d_S_compareToPiece_97 : decode prog_4_method_16_code 97 = .ok (.aload_n 0, 1) := dOk_get (q := (97, .aload_n 0, 1)) ok_tb_S_compareToPiece_0 62 rfl
theorem d_S_compareToPiece_98 : decode prog_4_method_16_code 98 = .ok (.iload_n 1, 1) := dOk_get (q := (98, .iload_n 1, 1)) ok_tb_S_compareToPiece_0 63 rfl
theorem d_S_compareToPiece_99 : decode prog_4_method_16_code 99 = .ok (.lload_n 2, 1) := dOk_get (q := (99, .lload_n 2, 1)) ok_tb_S_compareToPiece_0 64 rfl
theorem d_S_compareToPiece_100 : decode prog_4_method_16_code 100 = .ok (.lload 4, 2) := dOk_get (q := (100, .lload 4, 2)) ok_tb_S_compareToPiece_0 65 rfl
theorem d_S_compareToPiece_102 : decode prog_4_method_16_code 102 = .ok (.invokevirtual 76, 3) := dOk_get (q := (102, .invokevirtual 76, 3)) ok_tb_S_compareToPiece_0 66 rfl
theorem d_S_compareToPiece_105 : decode prog_4_method_16_code 105 = .ok (.lload 6, 2) := dOk_get (q := (105, .lload 6, 2)) ok_tb_S_compareToPiece_0 67 rfl
theorem d_S_compareToPiece_107 : decode prog_4_method_16_code 107 = .ok (.lload 6, 2) := dOk_get (q := (107, .lload 6, 2)) ok_tb_S_compareToPiece_0 68 rfl
theorem d_S_compareToPiece_109 : decode prog_4_method_16_code 109 = .ok (.lmul, 1) := dOk_get (q := (109, .lmul, 1)) ok_tb_S_compareToPiece_0 69 rfl
theorem d_S_compareToPiece_110 : decode prog_4_method_16_code 110 = .ok (.invokestatic 79, 3) := dOk_get (q := (110, .invokestatic 79, 3)) ok_tb_S_compareToPiece_0 70 rfl
theorem d_S_compareToPiece_113 : decode prog_4_method_16_code 113 = .ok (.ireturn, 1) := dOk_get (q := (113, .ireturn, 1)) ok_tb_S_compareToPiece_0 71 rfl
theorem d_S_compareToPiece_114 : decode prog_4_method_16_code 114 = .ok (.lload 15, 2) := dOk_get (q := (114, .lload 15, 2)) ok_tb_S_compareToPiece_0 72 rfl
theorem d_S_compareToPiece_116 : decode prog_4_method_16_code 116 = .ok (.lload 13, 2) := dOk_get (q := (116, .lload 13, 2)) ok_tb_S_compareToPiece_0 73 rfl
theorem d_S_compareToPiece_118 : decode prog_4_method_16_code 118 = .ok (.lcmp, 1) := dOk_get (q := (118, .lcmp, 1)) ok_tb_S_compareToPiece_0 74 rfl
theorem d_S_compareToPiece_119 : decode prog_4_method_16_code 119 = .ok (.ifCond .lt 21, 3) := dOk_get (q := (119, .ifCond .lt 21, 3)) ok_tb_S_compareToPiece_0 75 rfl
theorem d_S_compareToPiece_122 : decode prog_4_method_16_code 122 = .ok (.aload_n 0, 1) := dOk_get (q := (122, .aload_n 0, 1)) ok_tb_S_compareToPiece_0 76 rfl
theorem d_S_compareToPiece_123 : decode prog_4_method_16_code 123 = .ok (.iload 8, 2) := dOk_get (q := (123, .iload 8, 2)) ok_tb_S_compareToPiece_0 77 rfl
theorem d_S_compareToPiece_125 : decode prog_4_method_16_code 125 = .ok (.lload_n 2, 1) := dOk_get (q := (125, .lload_n 2, 1)) ok_tb_S_compareToPiece_0 78 rfl
theorem d_S_compareToPiece_126 : decode prog_4_method_16_code 126 = .ok (.lload 4, 2) := dOk_get (q := (126, .lload 4, 2)) ok_tb_S_compareToPiece_0 79 rfl
theorem d_S_compareToPiece_128 : decode prog_4_method_16_code 128 = .ok (.invokevirtual 76, 3) := dOk_get (q := (128, .invokevirtual 76, 3)) ok_tb_S_compareToPiece_0 80 rfl
theorem d_S_compareToPiece_131 : decode prog_4_method_16_code 131 = .ok (.lload 6, 2) := dOk_get (q := (131, .lload 6, 2)) ok_tb_S_compareToPiece_0 81 rfl
theorem d_S_compareToPiece_133 : decode prog_4_method_16_code 133 = .ok (.lload 6, 2) := dOk_get (q := (133, .lload 6, 2)) ok_tb_S_compareToPiece_0 82 rfl
theorem d_S_compareToPiece_135 : decode prog_4_method_16_code 135 = .ok (.lmul, 1) := dOk_get (q := (135, .lmul, 1)) ok_tb_S_compareToPiece_0 83 rfl
theorem d_S_compareToPiece_136 : decode prog_4_method_16_code 136 = .ok (.invokestatic 79, 3) := dOk_get (q := (136, .invokestatic 79, 3)) ok_tb_S_compareToPiece_0 84 rfl
theorem d_S_compareToPiece_139 : decode prog_4_method_16_code 139 = .ok (.ireturn, 1) := dOk_get (q := (139, .ireturn, 1)) ok_tb_S_compareToPiece_0 85 rfl
theorem d_S_compareToPiece_140 : decode prog_4_method_16_code 140 = .ok (.lload 9, 2) := dOk_get (q := (140, .lload 9, 2)) ok_tb_S_compareToPiece_0 86 rfl
theorem d_S_compareToPiece_142 : decode prog_4_method_16_code 142 = .ok (.lload 4, 2) := dOk_get (q := (142, .lload 4, 2)) ok_tb_S_compareToPiece_0 87 rfl
theorem d_S_compareToPiece_144 : decode prog_4_method_16_code 144 = .ok (.aload_n 0, 1) := dOk_get (q := (144, .aload_n 0, 1)) ok_tb_S_compareToPiece_0 88 rfl
theorem d_S_compareToPiece_145 : decode prog_4_method_16_code 145 = .ok (.getfield 28, 3) := dOk_get (q := (145, .getfield 28, 3)) ok_tb_S_compareToPiece_0 89 rfl
theorem d_S_compareToPiece_148 : decode prog_4_method_16_code 148 = .ok (.iload_n 1, 1) := dOk_get (q := (148, .iload_n 1, 1)) ok_tb_S_compareToPiece_0 90 rfl
theorem d_S_compareToPiece_149 : decode prog_4_method_16_code 149 = .ok (.laload, 1) := dOk_get (q := (149, .laload, 1)) ok_tb_S_compareToPiece_0 91 rfl
theorem d_S_compareToPiece_150 : decode prog_4_method_16_code 150 = .ok (.lsub, 1) := dOk_get (q := (150, .lsub, 1)) ok_tb_S_compareToPiece_0 92 rfl
theorem d_S_compareToPiece_151 : decode prog_4_method_16_code 151 = .ok (.lmul, 1) := dOk_get (q := (151, .lmul, 1)) ok_tb_S_compareToPiece_0 93 rfl
theorem d_S_compareToPiece_152 : decode prog_4_method_16_code 152 = .ok (.lload 11, 2) := dOk_get (q := (152, .lload 11, 2)) ok_tb_S_compareToPiece_0 94 rfl
theorem d_S_compareToPiece_154 : decode prog_4_method_16_code 154 = .ok (.lload_n 2, 1) := dOk_get (q := (154, .lload_n 2, 1)) ok_tb_S_compareToPiece_0 95 rfl
theorem d_S_compareToPiece_155 : decode prog_4_method_16_code 155 = .ok (.aload_n 0, 1) := dOk_get (q := (155, .aload_n 0, 1)) ok_tb_S_compareToPiece_0 96 rfl
theorem d_S_compareToPiece_156 : decode prog_4_method_16_code 156 = .ok (.getfield 24, 3) := dOk_get (q := (156, .getfield 24, 3)) ok_tb_S_compareToPiece_0 97 rfl
theorem d_S_compareToPiece_159 : decode prog_4_method_16_code 159 = .ok (.iload_n 1, 1) := dOk_get (q := (159, .iload_n 1, 1)) ok_tb_S_compareToPiece_0 98 rfl
theorem d_S_compareToPiece_160 : decode prog_4_method_16_code 160 = .ok (.laload, 1) := dOk_get (q := (160, .laload, 1)) ok_tb_S_compareToPiece_0 99 rfl
theorem d_S_compareToPiece_161 : decode prog_4_method_16_code 161 = .ok (.lsub, 1) := dOk_get (q := (161, .lsub, 1)) ok_tb_S_compareToPiece_0 100 rfl
theorem d_S_compareToPiece_162 : decode prog_4_method_16_code 162 = .ok (.lmul, 1) := dOk_get (q := (162, .lmul, 1)) ok_tb_S_compareToPiece_0 101 rfl
theorem d_S_compareToPiece_163 : decode prog_4_method_16_code 163 = .ok (.lsub, 1) := dOk_get (q := (163, .lsub, 1)) ok_tb_S_compareToPiece_0 102 rfl
theorem d_S_compareToPiece_164 : decode prog_4_method_16_code 164 = .ok (.invokestatic 85, 3) := dOk_get (q := (164, .invokestatic 85, 3)) ok_tb_S_compareToPiece_0 103 rfl
theorem d_S_compareToPiece_167 : decode prog_4_method_16_code 167 = .ok (.lstore 17, 2) := dOk_get (q := (167, .lstore 17, 2)) ok_tb_S_compareToPiece_0 104 rfl
theorem d_S_compareToPiece_169 : decode prog_4_method_16_code 169 = .ok (.lload 17, 2) := dOk_get (q := (169, .lload 17, 2)) ok_tb_S_compareToPiece_0 105 rfl
theorem d_S_compareToPiece_171 : decode prog_4_method_16_code 171 = .ok (.lload 17, 2) := dOk_get (q := (171, .lload 17, 2)) ok_tb_S_compareToPiece_0 106 rfl
theorem d_S_compareToPiece_173 : decode prog_4_method_16_code 173 = .ok (.invokestatic 89, 3) := dOk_get (q := (173, .invokestatic 89, 3)) ok_tb_S_compareToPiece_0 107 rfl
theorem d_S_compareToPiece_176 : decode prog_4_method_16_code 176 = .ok (.lload 6, 2) := dOk_get (q := (176, .lload 6, 2)) ok_tb_S_compareToPiece_0 108 rfl
theorem d_S_compareToPiece_178 : decode prog_4_method_16_code 178 = .ok (.lload 6, 2) := dOk_get (q := (178, .lload 6, 2)) ok_tb_S_compareToPiece_0 109 rfl
theorem d_S_compareToPiece_180 : decode prog_4_method_16_code 180 = .ok (.lmul, 1) := dOk_get (q := (180, .lmul, 1)) ok_tb_S_compareToPiece_0 110 rfl
theorem d_S_compareToPiece_181 : decode prog_4_method_16_code 181 = .ok (.lload 13, 2) := dOk_get (q := (181, .lload 13, 2)) ok_tb_S_compareToPiece_0 111 rfl
theorem d_S_compareToPiece_183 : decode prog_4_method_16_code 183 = .ok (.invokestatic 89, 3) := dOk_get (q := (183, .invokestatic 89, 3)) ok_tb_S_compareToPiece_0 112 rfl
theorem d_S_compareToPiece_186 : decode prog_4_method_16_code 186 = .ok (.invokestatic 79, 3) := dOk_get (q := (186, .invokestatic 79, 3)) ok_tb_S_compareToPiece_0 113 rfl
theorem d_S_compareToPiece_189 : decode prog_4_method_16_code 189 = .ok (.istore 19, 2) := dOk_get (q := (189, .istore 19, 2)) ok_tb_S_compareToPiece_0 114 rfl
theorem d_S_compareToPiece_191 : decode prog_4_method_16_code 191 = .ok (.iload 19, 2) := dOk_get (q := (191, .iload 19, 2)) ok_tb_S_compareToPiece_0 115 rfl
theorem d_S_compareToPiece_193 : decode prog_4_method_16_code 193 = .ok (.ifCond .eq 8, 3) := dOk_get (q := (193, .ifCond .eq 8, 3)) ok_tb_S_compareToPiece_0 116 rfl
theorem d_S_compareToPiece_196 : decode prog_4_method_16_code 196 = .ok (.iload 19, 2) := dOk_get (q := (196, .iload 19, 2)) ok_tb_S_compareToPiece_0 117 rfl
theorem d_S_compareToPiece_198 : decode prog_4_method_16_code 198 = .ok (.goto 23, 3) := dOk_get (q := (198, .goto 23, 3)) ok_tb_S_compareToPiece_0 118 rfl
theorem d_S_compareToPiece_201 : decode prog_4_method_16_code 201 = .ok (.lload 17, 2) := dOk_get (q := (201, .lload 17, 2)) ok_tb_S_compareToPiece_0 119 rfl
def tb_S_compareToPiece_1 : List (Nat × Instr × Nat) := [(203, .lload 17, 2), (205, .invokestatic 93, 3), (208, .lload 6, 2), (210, .lload 6, 2), (212, .lmul, 1), (213, .lload 13, 2), (215, .invokestatic 93, 3), (218, .invokestatic 79, 3), (221, .ireturn, 1)]
theorem ok_tb_S_compareToPiece_1 : dOk prog_4_method_16_code tb_S_compareToPiece_1 = true := by decide +kernel
theorem d_S_compareToPiece_203 : decode prog_4_method_16_code 203 = .ok (.lload 17, 2) := dOk_get (q := (203, .lload 17, 2)) ok_tb_S_compareToPiece_1 0 rfl
theorem d_S_compareToPiece_205 : decode prog_4_method_16_code 205 = .ok (.invokestatic 93, 3) := dOk_get (q := (205, .invokestatic 93, 3)) ok_tb_S_compareToPiece_1 1 rfl
theorem d_S_compareToPiece_208 : decode prog_4_method_16_code 208 = .ok (.lload 6, 2) := dOk_get (q := (208, .lload 6, 2)) ok_tb_S_compareToPiece_1 2 rfl
theorem d_S_compareToPiece_210 : decode prog_4_method_16_code 210 = .ok (.lload 6, 2) := dOk_get (q := (210, .lload 6, 2)) ok_tb_S_compareToPiece_1 3 rfl
theorem d_S_compareToPiece_212 : decode prog_4_method_16_code 212 = .ok (.lmul, 1) := dOk_get (q := (212, .lmul, 1)) ok_tb_S_compareToPiece_1 4 rfl
theorem d_S_compareToPiece_213 : decode prog_4_method_16_code 213 = .ok (.lload 13, 2) := dOk_get (q := (213, .lload 13, 2)) ok_tb_S_compareToPiece_1 5 rfl
theorem d_S_compareToPiece_215 : decode prog_4_method_16_code 215 = .ok (.invokestatic 93, 3) := dOk_get (q := (215, .invokestatic 93, 3)) ok_tb_S_compareToPiece_1 6 rfl
theorem d_S_compareToPiece_218 : decode prog_4_method_16_code 218 = .ok (.invokestatic 79, 3) := dOk_get (q := (218, .invokestatic 79, 3)) ok_tb_S_compareToPiece_1 7 rfl
theorem d_S_compareToPiece_221 : decode prog_4_method_16_code 221 = .ok (.ireturn, 1) := dOk_get (q := (221, .ireturn, 1)) ok_tb_S_compareToPiece_1 8 rfl
def tb_S_squareTo_0 : List (Nat × Instr × Nat) := [(0, .lload_n 2, 1), (1, .aload_n 0, 1), (2, .getfield 24, 3), (5, .iload_n 1, 1), (6, .laload, 1), (7, .lsub, 1), (8, .lload_n 2, 1), (9, .aload_n 0, 1), (10, .getfield 24, 3), (13, .iload_n 1, 1), (14, .laload, 1), (15, .lsub, 1), (16, .lmul, 1), (17, .lload 4, 2), (19, .aload_n 0, 1), (20, .getfield 28, 3), (23, .iload_n 1, 1), (24, .laload, 1), (25, .lsub, 1), (26, .lload 4, 2), (28, .aload_n 0, 1), (29, .getfield 28, 3), (32, .iload_n 1, 1), (33, .laload, 1), (34, .lsub, 1), (35, .lmul, 1), (36, .ladd, 1), (37, .lreturn, 1)]
theorem ok_tb_S_squareTo_0 : dOk prog_4_method_17_code tb_S_squareTo_0 = true := by decide +kernel
theorem d_S_squareTo_0 : decode prog_4_method_17_code 0 = .ok (.lload_n 2, 1) := dOk_get (q := (0, .lload_n 2, 1)) ok_tb_S_squareTo_0 0 rfl
theorem d_S_squareTo_1 : decode prog_4_method_17_code 1 = .ok (.aload_n 0, 1) := dOk_get (q := (1, .aload_n 0, 1)) ok_tb_S_squareTo_0 1 rfl
theorem d_S_squareTo_2 : decode prog_4_method_17_code 2 = .ok (.getfield 24, 3) := dOk_get (q := (2, .getfield 24, 3)) ok_tb_S_squareTo_0 2 rfl
theorem d_S_squareTo_5 : decode prog_4_method_17_code 5 = .ok (.iload_n 1, 1) := dOk_get (q := (5, .iload_n 1, 1)) ok_tb_S_squareTo_0 3 rfl
theorem d_S_squareTo_6 : decode prog_4_method_17_code 6 = .ok (.laload, 1) := dOk_get (q := (6, .laload, 1)) ok_tb_S_squareTo_0 4 rfl
theorem d_S_squareTo_7 : decode prog_4_method_17_code 7 = .ok (.lsub, 1) := dOk_get (q := (7, .lsub, 1)) ok_tb_S_squareTo_0 5 rfl
theorem d_S_squareTo_8 : decode prog_4_method_17_code 8 = .ok (.lload_n 2, 1) := dOk_get (q := (8, .lload_n 2, 1)) ok_tb_S_squareTo_0 6 rfl
theorem d_S_squareTo_9 : decode prog_4_method_17_code 9 = .ok (.aload_n 0, 1) := dOk_get (q := (9, .aload_n 0, 1)) ok_tb_S_squareTo_0 7 rfl
theorem d_S_squareTo_10 : decode prog_4_method_17_code 10 = .ok (.getfield 24, 3) := dOk_get (q := (10, .getfield 24, 3)) ok_tb_S_squareTo_0 8 rfl
theorem d_S_squareTo_13 : decode prog_4_method_17_code 13 = .ok (.iload_n 1, 1) := dOk_get (q := (13, .iload_n 1, 1)) ok_tb_S_squareTo_0 9 rfl
theorem d_S_squareTo_14 : decode prog_4_method_17_code 14 = .ok (.laload, 1) := dOk_get (q := (14, .laload, 1)) ok_tb_S_squareTo_0 10 rfl
theorem d_S_squareTo_15 : decode prog_4_method_17_code 15 = .ok (.lsub, 1) := dOk_get (q := (15, .lsub, 1)) ok_tb_S_squareTo_0 11 rfl
theorem d_S_squareTo_16 : decode prog_4_method_17_code 16 = .ok (.lmul, 1) := dOk_get (q := (16, .lmul, 1)) ok_tb_S_squareTo_0 12 rfl
theorem d_S_squareTo_17 : decode prog_4_method_17_code 17 = .ok (.lload 4, 2) := dOk_get (q := (17, .lload 4, 2)) ok_tb_S_squareTo_0 13 rfl
theorem d_S_squareTo_19 : decode prog_4_method_17_code 19 = .ok (.aload_n 0, 1) := dOk_get (q := (19, .aload_n 0, 1)) ok_tb_S_squareTo_0 14 rfl
theorem d_S_squareTo_20 : decode prog_4_method_17_code 20 = .ok (.getfield 28, 3) := dOk_get (q := (20, .getfield 28, 3)) ok_tb_S_squareTo_0 15 rfl
theorem d_S_squareTo_23 : decode prog_4_method_17_code 23 = .ok (.iload_n 1, 1) := dOk_get (q := (23, .iload_n 1, 1)) ok_tb_S_squareTo_0 16 rfl
theorem d_S_squareTo_24 : decode prog_4_method_17_code 24 = .ok (.laload, 1) := dOk_get (q := (24, .laload, 1)) ok_tb_S_squareTo_0 17 rfl
theorem d_S_squareTo_25 : decode prog_4_method_17_code 25 = .ok (.lsub, 1) := dOk_get (q := (25, .lsub, 1)) ok_tb_S_squareTo_0 18 rfl
theorem d_S_squareTo_26 : decode prog_4_method_17_code 26 = .ok (.lload 4, 2) := dOk_get (q := (26, .lload 4, 2)) ok_tb_S_squareTo_0 19 rfl
theorem d_S_squareTo_28 : decode prog_4_method_17_code 28 = .ok (.aload_n 0, 1) := dOk_get (q := (28, .aload_n 0, 1)) ok_tb_S_squareTo_0 20 rfl
theorem d_S_squareTo_29 : decode prog_4_method_17_code 29 = .ok (.getfield 28, 3) := dOk_get (q := (29, .getfield 28, 3)) ok_tb_S_squareTo_0 21 rfl
theorem d_S_squareTo_32 : decode prog_4_method_17_code 32 = .ok (.iload_n 1, 1) := dOk_get (q := (32, .iload_n 1, 1)) ok_tb_S_squareTo_0 22 rfl
theorem d_S_squareTo_33 : decode prog_4_method_17_code 33 = .ok (.laload, 1) := dOk_get (q := (33, .laload, 1)) ok_tb_S_squareTo_0 23 rfl
theorem d_S_squareTo_34 : decode prog_4_method_17_code 34 = .ok (.lsub, 1) := dOk_get (q := (34, .lsub, 1)) ok_tb_S_squareTo_0 24 rfl
theorem d_S_squareTo_35 : decode prog_4_method_17_code 35 = .ok (.lmul, 1) := dOk_get (q := (35, .lmul, 1)) ok_tb_S_squareTo_0 25 rfl
theorem d_S_squareTo_36 : decode prog_4_method_17_code 36 = .ok (.ladd, 1) := dOk_get (q := (36, .ladd, 1)) ok_tb_S_squareTo_0 26 rfl
theorem d_S_squareTo_37 : decode prog_4_method_17_code 37 = .ok (.lreturn, 1) := dOk_get (q := (37, .lreturn, 1)) ok_tb_S_squareTo_0 27 rfl
def tb_S_upper_0 : List (Nat × Instr × Nat) := [(0, .lload_n 0, 1), (1, .ldc2_w 96, 3), (4, .land, 1), (5, .lload_n 2, 1), (6, .ldc2_w 96, 3), (9, .land, 1), (10, .lmul, 1), (11, .lstore 4, 2), (13, .lload_n 0, 1), (14, .bipush 30, 2), (16, .lshr, 1), (17, .lload_n 2, 1), (18, .ldc2_w 96, 3), (21, .land, 1), (22, .lmul, 1), (23, .lload_n 0, 1), (24, .ldc2_w 96, 3), (27, .land, 1), (28, .lload_n 2, 1), (29, .bipush 30, 2), (31, .lshr, 1), (32, .lmul, 1), (33, .ladd, 1), (34, .lload 4, 2), (36, .bipush 30, 2), (38, .lshr, 1), (39, .ladd, 1), (40, .lstore 6, 2), (42, .lload_n 0, 1), (43, .bipush 30, 2), (45, .lshr, 1), (46, .lload_n 2, 1), (47, .bipush 30, 2), (49, .lshr, 1), (50, .lmul, 1), (51, .lload 6, 2), (53, .bipush 30, 2), (55, .lshr, 1), (56, .ladd, 1), (57, .lreturn, 1)]
theorem ok_tb_S_upper_0 : dOk prog_4_method_18_code tb_S_upper_0 = true := by decide +kernel
theorem d_S_upper_0 : decode prog_4_method_18_code 0 = .ok (.lload_n 0, 1) := dOk_get (q := (0, .lload_n 0, 1)) ok_tb_S_upper_0 0 rfl
theorem d_S_upper_1 : decode prog_4_method_18_code 1 = .ok (.ldc2_w 96, 3) := dOk_get (q := (1, .ldc2_w 96, 3)) ok_tb_S_upper_0 1 rfl
theorem d_S_upper_4 : decode prog_4_method_18_code 4 = .ok (.land, 1) := dOk_get (q := (4, .land, 1)) ok_tb_S_upper_0 2 rfl
theorem d_S_upper_5 : decode prog_4_method_18_code 5 = .ok (.lload_n 2, 1) := dOk_get (q := (5, .lload_n 2, 1)) ok_tb_S_upper_0 3 rfl
theorem d_S_upper_6 : decode prog_4_method_18_code 6 = .ok (.ldc2_w 96, 3) := dOk_get (q := (6, .ldc2_w 96, 3)) ok_tb_S_upper_0 4 rfl
theorem d_S_upper_9 : decode prog_4_method_18_code 9 = .ok (.land, 1) := dOk_get (q := (9, .land, 1)) ok_tb_S_upper_0 5 rfl
theorem d_S_upper_10 : decode prog_4_method_18_code 10 = .ok (.lmul, 1) := dOk_get (q := (10, .lmul, 1)) ok_tb_S_upper_0 6 rfl
theorem d_S_upper_11 : decode prog_4_method_18_code 11 = .ok (.lstore 4, 2) := dOk_get (q := (11, .lstore 4, 2)) ok_tb_S_upper_0 7 rfl
theorem d_S_upper_13 : decode prog_4_method_18_code 13 = .ok (.lload_n 0, 1) := dOk_get (q := (13, .lload_n 0, 1)) ok_tb_S_upper_0 8 rfl
theorem d_S_upper_14 : decode prog_4_method_18_code 14 = .ok (.bipush 30, 2) := dOk_get (q := (14, .bipush 30, 2)) ok_tb_S_upper_0 9 rfl
theorem d_S_upper_16 : decode prog_4_method_18_code 16 = .ok (.lshr, 1) := dOk_get (q := (16, .lshr, 1)) ok_tb_S_upper_0 10 rfl
theorem d_S_upper_17 : decode prog_4_method_18_code 17 = .ok (.lload_n 2, 1) := dOk_get (q := (17, .lload_n 2, 1)) ok_tb_S_upper_0 11 rfl
theorem d_S_upper_18 : decode prog_4_method_18_code 18 = .ok (.ldc2_w 96, 3) := dOk_get (q := (18, .ldc2_w 96, 3)) ok_tb_S_upper_0 12 rfl
theorem d_S_upper_21 : decode prog_4_method_18_code 21 = .ok (.land, 1) := dOk_get (q := (21, .land, 1)) ok_tb_S_upper_0 13 rfl
theorem d_S_upper_22 : decode prog_4_method_18_code 22 = .ok (.lmul, 1) := dOk_get (q := (22, .lmul, 1)) ok_tb_S_upper_0 14 rfl
theorem d_S_upper_23 : decode prog_4_method_18_code 23 = .ok (.lload_n 0, 1) := dOk_get (q := (23, .lload_n 0, 1)) ok_tb_S_upper_0 15 rfl
theorem d_S_upper_24 : decode prog_4_method_18_code 24 = .ok (.ldc2_w 96, 3) := dOk_get (q := (24, .ldc2_w 96, 3)) ok_tb_S_upper_0 16 rfl
theorem d_S_upper_27 : decode prog_4_method_18_code 27 = .ok (.land, 1) := dOk_get (q := (27, .land, 1)) ok_tb_S_upper_0 17 rfl
theorem d_S_upper_28 : decode prog_4_method_18_code 28 = .ok (.lload_n 2, 1) := dOk_get (q := (28, .lload_n 2, 1)) ok_tb_S_upper_0 18 rfl
theorem d_S_upper_29 : decode prog_4_method_18_code 29 = .ok (.bipush 30, 2) := dOk_get (q := (29, .bipush 30, 2)) ok_tb_S_upper_0 19 rfl
theorem d_S_upper_31 : decode prog_4_method_18_code 31 = .ok (.lshr, 1) := dOk_get (q := (31, .lshr, 1)) ok_tb_S_upper_0 20 rfl
theorem d_S_upper_32 : decode prog_4_method_18_code 32 = .ok (.lmul, 1) := dOk_get (q := (32, .lmul, 1)) ok_tb_S_upper_0 21 rfl
theorem d_S_upper_33 : decode prog_4_method_18_code 33 = .ok (.ladd, 1) := dOk_get (q := (33, .ladd, 1)) ok_tb_S_upper_0 22 rfl
theorem d_S_upper_34 : decode prog_4_method_18_code 34 = .ok (.lload 4, 2) := dOk_get (q := (34, .lload 4, 2)) ok_tb_S_upper_0 23 rfl
theorem d_S_upper_36 : decode prog_4_method_18_code 36 = .ok (.bipush 30, 2) := dOk_get (q := (36, .bipush 30, 2)) ok_tb_S_upper_0 24 rfl
theorem d_S_upper_38 : decode prog_4_method_18_code 38 = .ok (.lshr, 1) := dOk_get (q := (38, .lshr, 1)) ok_tb_S_upper_0 25 rfl
theorem d_S_upper_39 : decode prog_4_method_18_code 39 = .ok (.ladd, 1) := dOk_get (q := (39, .ladd, 1)) ok_tb_S_upper_0 26 rfl
theorem d_S_upper_40 : decode prog_4_method_18_code 40 = .ok (.lstore 6, 2) := dOk_get (q := (40, .lstore 6, 2)) ok_tb_S_upper_0 27 rfl
theorem d_S_upper_42 : decode prog_4_method_18_code 42 = .ok (.lload_n 0, 1) := dOk_get (q := (42, .lload_n 0, 1)) ok_tb_S_upper_0 28 rfl
theorem d_S_upper_43 : decode prog_4_method_18_code 43 = .ok (.bipush 30, 2) := dOk_get (q := (43, .bipush 30, 2)) ok_tb_S_upper_0 29 rfl
theorem d_S_upper_45 : decode prog_4_method_18_code 45 = .ok (.lshr, 1) := dOk_get (q := (45, .lshr, 1)) ok_tb_S_upper_0 30 rfl
theorem d_S_upper_46 : decode prog_4_method_18_code 46 = .ok (.lload_n 2, 1) := dOk_get (q := (46, .lload_n 2, 1)) ok_tb_S_upper_0 31 rfl
theorem d_S_upper_47 : decode prog_4_method_18_code 47 = .ok (.bipush 30, 2) := dOk_get (q := (47, .bipush 30, 2)) ok_tb_S_upper_0 32 rfl
theorem d_S_upper_49 : decode prog_4_method_18_code 49 = .ok (.lshr, 1) := dOk_get (q := (49, .lshr, 1)) ok_tb_S_upper_0 33 rfl
theorem d_S_upper_50 : decode prog_4_method_18_code 50 = .ok (.lmul, 1) := dOk_get (q := (50, .lmul, 1)) ok_tb_S_upper_0 34 rfl
theorem d_S_upper_51 : decode prog_4_method_18_code 51 = .ok (.lload 6, 2) := dOk_get (q := (51, .lload 6, 2)) ok_tb_S_upper_0 35 rfl
theorem d_S_upper_53 : decode prog_4_method_18_code 53 = .ok (.bipush 30, 2) := dOk_get (q := (53, .bipush 30, 2)) ok_tb_S_upper_0 36 rfl
theorem d_S_upper_55 : decode prog_4_method_18_code 55 = .ok (.lshr, 1) := dOk_get (q := (55, .lshr, 1)) ok_tb_S_upper_0 37 rfl
theorem d_S_upper_56 : decode prog_4_method_18_code 56 = .ok (.ladd, 1) := dOk_get (q := (56, .ladd, 1)) ok_tb_S_upper_0 38 rfl
theorem d_S_upper_57 : decode prog_4_method_18_code 57 = .ok (.lreturn, 1) := dOk_get (q := (57, .lreturn, 1)) ok_tb_S_upper_0 39 rfl
def tb_S_lower_0 : List (Nat × Instr × Nat) := [(0, .lload_n 0, 1), (1, .lload_n 2, 1), (2, .lmul, 1), (3, .ldc2_w 98, 3), (6, .land, 1), (7, .lreturn, 1)]
theorem ok_tb_S_lower_0 : dOk prog_4_method_19_code tb_S_lower_0 = true := by decide +kernel
theorem d_S_lower_0 : decode prog_4_method_19_code 0 = .ok (.lload_n 0, 1) := dOk_get (q := (0, .lload_n 0, 1)) ok_tb_S_lower_0 0 rfl
theorem d_S_lower_1 : decode prog_4_method_19_code 1 = .ok (.lload_n 2, 1) := dOk_get (q := (1, .lload_n 2, 1)) ok_tb_S_lower_0 1 rfl
theorem d_S_lower_2 : decode prog_4_method_19_code 2 = .ok (.lmul, 1) := dOk_get (q := (2, .lmul, 1)) ok_tb_S_lower_0 2 rfl
theorem d_S_lower_3 : decode prog_4_method_19_code 3 = .ok (.ldc2_w 98, 3) := dOk_get (q := (3, .ldc2_w 98, 3)) ok_tb_S_lower_0 3 rfl
theorem d_S_lower_6 : decode prog_4_method_19_code 6 = .ok (.land, 1) := dOk_get (q := (6, .land, 1)) ok_tb_S_lower_0 4 rfl
theorem d_S_lower_7 : decode prog_4_method_19_code 7 = .ok (.lreturn, 1) := dOk_get (q := (7, .lreturn, 1)) ok_tb_S_lower_0 5 rfl
def tb_S_hasAcuteCorner_0 : List (Nat × Instr × Nat) := [(0, .iconst 1, 1), (1, .istore_n 1, 1), (2, .iload_n 1, 1), (3, .aload_n 0, 1), (4, .getfield 39, 3), (7, .iconst 1, 1), (8, .isub, 1), (9, .if_icmp .ge 85, 3), (12, .aload_n 0, 1), (13, .getfield 24, 3), (16, .iload_n 1, 1), (17, .iconst 1, 1), (18, .isub, 1), (19, .laload, 1), (20, .aload_n 0, 1), (21, .getfield 24, 3), (24, .iload_n 1, 1), (25, .laload, 1), (26, .lsub, 1), (27, .aload_n 0, 1), (28, .getfield 24, 3), (31, .iload_n 1, 1), (32, .iconst 1, 1), (33, .iadd, 1), (34, .laload, 1), (35, .aload_n 0, 1), (36, .getfield 24, 3), (39, .iload_n 1, 1), (40, .laload, 1), (41, .lsub, 1), (42, .lmul, 1), (43, .lstore_n 2, 1), (44, .aload_n 0, 1), (45, .getfield 28, 3), (48, .iload_n 1, 1), (49, .iconst 1, 1), (50, .isub, 1), (51, .laload, 1), (52, .aload_n 0, 1), (53, .getfield 28, 3), (56, .iload_n 1, 1), (57, .laload, 1), (58, .lsub, 1), (59, .aload_n 0, 1), (60, .getfield 28, 3), (63, .iload_n 1, 1), (64, .iconst 1, 1), (65, .iadd, 1), (66, .laload, 1), (67, .aload_n 0, 1), (68, .getfield 28, 3), (71, .iload_n 1, 1), (72, .laload, 1), (73, .lsub, 1), (74, .lmul, 1), (75, .lstore 4, 2), (77, .lload_n 2, 1), (78, .lload 4, 2), (80, .ladd, 1), (81, .lconst 0, 1), (82, .lcmp, 1), (83, .ifCond .le 5, 3), (86, .iconst 1, 1), (87, .ireturn, 1), (88, .iinc 1 1, 3), (91, .goto (-89), 3), (94, .iconst 0, 1), (95, .ireturn, 1)]
theorem ok_tb_S_hasAcuteCorner_0 : dOk prog_4_method_7_code tb_S_hasAcuteCorner_0 = true := by decide +kernel
theorem d_S_hasAcuteCorner_0 : decode prog_4_method_7_code 0 = .ok (.iconst 1, 1) := dOk_get (q := (0, .iconst 1, 1)) ok_tb_S_hasAcuteCorner_0 0 rfl
theorem d_S_hasAcuteCorner_1 : decode prog_4_method_7_code 1 = .ok (.istore_n 1, 1) := dOk_get (q := (1, .istore_n 1, 1)) ok_tb_S_hasAcuteCorner_0 1 rfl
theorem d_S_hasAcuteCorner_2 : decode prog_4_method_7_code 2 = .ok (.iload_n 1, 1) := dOk_get (q := (2, .iload_n 1, 1)) ok_tb_S_hasAcuteCorner_0 2 rfl
theorem d_S_hasAcuteCorner_3 : decode prog_4_method_7_code 3 = .ok (.aload_n 0, 1) := dOk_get (q := (3, .aload_n 0, 1)) ok_tb_S_hasAcuteCorner_0 3 rfl
theorem d_S_hasAcuteCorner_4 : decode prog_4_method_7_code 4 = .ok (.getfield 39, 3) := dOk_get (q := (4, .getfield 39, 3)) ok_tb_S_hasAcuteCorner_0 4 rfl
theorem d_S_hasAcuteCorner_7 : decode prog_4_method_7_code 7 = .ok (.iconst 1, 1) := dOk_get (q := (7, .iconst 1, 1)) ok_tb_S_hasAcuteCorner_0 5 rfl
theorem d_S_hasAcuteCorner_8 : decode prog_4_method_7_code 8 = .ok (.isub, 1) := dOk_get (q := (8, .isub, 1)) ok_tb_S_hasAcuteCorner_0 6 rfl
theorem d_S_hasAcuteCorner_9 : decode prog_4_method_7_code 9 = .ok (.if_icmp .ge 85, 3) := dOk_get (q := (9, .if_icmp .ge 85, 3)) ok_tb_S_hasAcuteCorner_0 7 rfl
theorem d_S_hasAcuteCorner_12 : decode prog_4_method_7_code 12 = .ok (.aload_n 0, 1) := dOk_get (q := (12, .aload_n 0, 1)) ok_tb_S_hasAcuteCorner_0 8 rfl
theorem d_S_hasAcuteCorner_13 : decode prog_4_method_7_code 13 = .ok (.getfield 24, 3) := dOk_get (q := (13, .getfield 24, 3)) ok_tb_S_hasAcuteCorner_0 9 rfl
theorem d_S_hasAcuteCorner_16 : decode prog_4_method_7_code 16 = .ok (.iload_n 1, 1) := dOk_get (q := (16, .iload_n 1, 1)) ok_tb_S_hasAcuteCorner_0 10 rfl
theorem d_S_hasAcuteCorner_17 : decode prog_4_method_7_code 17 = .ok (.iconst 1, 1) := dOk_get (q := (17, .iconst 1, 1)) ok_tb_S_hasAcuteCorner_0 11 rfl
theorem d_S_hasAcuteCorner_18 : decode prog_4_method_7_code 18 = .ok (.isub, 1) := dOk_get (q := (18, .isub, 1)) ok_tb_S_hasAcuteCorner_0 12 rfl
theorem d_S_hasAcuteCorner_19 : decode prog_4_method_7_code 19 = .ok (.laload, 1) := dOk_get (q := (19, .laload, 1)) ok_tb_S_hasAcuteCorner_0 13 rfl
theorem d_S_hasAcuteCorner_20 : decode prog_4_method_7_code 20 = .ok (.aload_n 0, 1) := dOk_get (q := (20, .aload_n 0, 1)) ok_tb_S_hasAcuteCorner_0 14 rfl
theorem d_S_hasAcuteCorner_21 : decode prog_4_method_7_code 21 = .ok (.getfield 24, 3) := dOk_get (q := (21, .getfield 24, 3)) ok_tb_S_hasAcuteCorner_0 15 rfl
theorem d_S_hasAcuteCorner_24 : decode prog_4_method_7_code 24 = .ok (.iload_n 1, 1) := dOk_get (q := (24, .iload_n 1, 1)) ok_tb_S_hasAcuteCorner_0 16 rfl
theorem d_S_hasAcuteCorner_25 : decode prog_4_method_7_code 25 = .ok (.laload, 1) := dOk_get (q := (25, .laload, 1)) ok_tb_S_hasAcuteCorner_0 17 rfl
theorem d_S_hasAcuteCorner_26 : decode prog_4_method_7_code 26 = .ok (.lsub, 1) := dOk_get (q := (26, .lsub, 1)) ok_tb_S_hasAcuteCorner_0 18 rfl
theorem d_S_hasAcuteCorner_27 : decode prog_4_method_7_code 27 = .ok (.aload_n 0, 1) := dOk_get (q := (27, .aload_n 0, 1)) ok_tb_S_hasAcuteCorner_0 19 rfl
theorem d_S_hasAcuteCorner_28 : decode prog_4_method_7_code 28 = .ok (.getfield 24, 3) := dOk_get (q := (28, .getfield 24, 3)) ok_tb_S_hasAcuteCorner_0 20 rfl
theorem d_S_hasAcuteCorner_31 : decode prog_4_method_7_code 31 = .ok (.iload_n 1, 1) := dOk_get (q := (31, .iload_n 1, 1)) ok_tb_S_hasAcuteCorner_0 21 rfl
theorem d_S_hasAcuteCorner_32 : decode prog_4_method_7_code 32 = .ok (.iconst 1, 1) := dOk_get (q := (32, .iconst 1, 1)) ok_tb_S_hasAcuteCorner_0 22 rfl
theorem d_S_hasAcuteCorner_33 : decode prog_4_method_7_code 33 = .ok (.iadd, 1) := dOk_get (q := (33, .iadd, 1)) ok_tb_S_hasAcuteCorner_0 23 rfl
theorem d_S_hasAcuteCorner_34 : decode prog_4_method_7_code 34 = .ok (.laload, 1) := dOk_get (q := (34, .laload, 1)) ok_tb_S_hasAcuteCorner_0 24 rfl
theorem d_S_hasAcuteCorner_35 : decode prog_4_method_7_code 35 = .ok (.aload_n 0, 1) := dOk_get (q := (35, .aload_n 0, 1)) ok_tb_S_hasAcuteCorner_0 25 rfl
theorem d_S_hasAcuteCorner_36 : decode prog_4_method_7_code 36 = .ok (.getfield 24, 3) := dOk_get (q := (36, .getfield 24, 3)) ok_tb_S_hasAcuteCorner_0 26 rfl
theorem d_S_hasAcuteCorner_39 : decode prog_4_method_7_code 39 = .ok (.iload_n 1, 1) := dOk_get (q := (39, .iload_n 1, 1)) ok_tb_S_hasAcuteCorner_0 27 rfl
theorem d_S_hasAcuteCorner_40 : decode prog_4_method_7_code 40 = .ok (.laload, 1) := dOk_get (q := (40, .laload, 1)) ok_tb_S_hasAcuteCorner_0 28 rfl
theorem d_S_hasAcuteCorner_41 : decode prog_4_method_7_code 41 = .ok (.lsub, 1) := dOk_get (q := (41, .lsub, 1)) ok_tb_S_hasAcuteCorner_0 29 rfl
theorem d_S_hasAcuteCorner_42 : decode prog_4_method_7_code 42 = .ok (.lmul, 1) := dOk_get (q := (42, .lmul, 1)) ok_tb_S_hasAcuteCorner_0 30 rfl
theorem d_S_hasAcuteCorner_43 : decode prog_4_method_7_code 43 = .ok (.lstore_n 2, 1) := dOk_get (q := (43, .lstore_n 2, 1)) ok_tb_S_hasAcuteCorner_0 31 rfl
theorem d_S_hasAcuteCorner_44 : decode prog_4_method_7_code 44 = .ok (.aload_n 0, 1) := dOk_get (q := (44, .aload_n 0, 1)) ok_tb_S_hasAcuteCorner_0 32 rfl
theorem d_S_hasAcuteCorner_45 : decode prog_4_method_7_code 45 = .ok (.getfield 28, 3) := dOk_get (q := (45, .getfield 28, 3)) ok_tb_S_hasAcuteCorner_0 33 rfl
theorem d_S_hasAcuteCorner_48 : decode prog_4_method_7_code 48 = .ok (.iload_n 1, 1) := dOk_get (q := (48, .iload_n 1, 1)) ok_tb_S_hasAcuteCorner_0 34 rfl
theorem d_S_hasAcuteCorner_49 : decode prog_4_method_7_code 49 = .ok (.iconst 1, 1) := dOk_get (q := (49, .iconst 1, 1)) ok_tb_S_hasAcuteCorner_0 35 rfl
theorem d_S_hasAcuteCorner_50 : decode prog_4_method_7_code 50 = .ok (.isub, 1) := dOk_get (q := (50, .isub, 1)) ok_tb_S_hasAcuteCorner_0 36 rfl
theorem d_S_hasAcuteCorner_51 : decode prog_4_method_7_code 51 = .ok (.laload, 1) := dOk_get (q := (51, .laload, 1)) ok_tb_S_hasAcuteCorner_0 37 rfl
theorem d_S_hasAcuteCorner_52 : decode prog_4_method_7_code 52 = .ok (.aload_n 0, 1) := dOk_get (q := (52, .aload_n 0, 1)) ok_tb_S_hasAcuteCorner_0 38 rfl
theorem d_S_hasAcuteCorner_53 : decode prog_4_method_7_code 53 = .ok (.getfield 28, 3) := dOk_get (q := (53, .getfield 28, 3)) ok_tb_S_hasAcuteCorner_0 39 rfl
theorem d_S_hasAcuteCorner_56 : decode prog_4_method_7_code 56 = .ok (.iload_n 1, 1) := dOk_get (q := (56, .iload_n 1, 1)) ok_tb_S_hasAcuteCorner_0 40 rfl
theorem d_S_hasAcuteCorner_57 : decode prog_4_method_7_code 57 = .ok (.laload, 1) := dOk_get (q := (57, .laload, 1)) ok_tb_S_hasAcuteCorner_0 41 rfl
theorem d_S_hasAcuteCorner_58 : decode prog_4_method_7_code 58 = .ok (.lsub, 1) := dOk_get (q := (58, .lsub, 1)) ok_tb_S_hasAcuteCorner_0 42 rfl
theorem d_S_hasAcuteCorner_59 : decode prog_4_method_7_code 59 = .ok (.aload_n 0, 1) := dOk_get (q := (59, .aload_n 0, 1)) ok_tb_S_hasAcuteCorner_0 43 rfl
theorem d_S_hasAcuteCorner_60 : decode prog_4_method_7_code 60 = .ok (.getfield 28, 3) := dOk_get (q := (60, .getfield 28, 3)) ok_tb_S_hasAcuteCorner_0 44 rfl
theorem d_S_hasAcuteCorner_63 : decode prog_4_method_7_code 63 = .ok (.iload_n 1, 1) := dOk_get (q := (63, .iload_n 1, 1)) ok_tb_S_hasAcuteCorner_0 45 rfl
theorem d_S_hasAcuteCorner_64 : decode prog_4_method_7_code 64 = .ok (.iconst 1, 1) := dOk_get (q := (64, .iconst 1, 1)) ok_tb_S_hasAcuteCorner_0 46 rfl
theorem d_S_hasAcuteCorner_65 : decode prog_4_method_7_code 65 = .ok (.iadd, 1) := dOk_get (q := (65, .iadd, 1)) ok_tb_S_hasAcuteCorner_0 47 rfl
theorem d_S_hasAcuteCorner_66 : decode prog_4_method_7_code 66 = .ok (.laload, 1) := dOk_get (q := (66, .laload, 1)) ok_tb_S_hasAcuteCorner_0 48 rfl
theorem d_S_hasAcuteCorner_67 : decode prog_4_method_7_code 67 = .ok (.aload_n 0, 1) := dOk_get (q := (67, .aload_n 0, 1)) ok_tb_S_hasAcuteCorner_0 49 rfl
theorem d_S_hasAcuteCorner_68 : decode prog_4_method_7_code 68 = .ok (.getfield 28, 3) := dOk_get (q := (68, .getfield 28, 3)) ok_tb_S_hasAcuteCorner_0 50 rfl
theorem d_S_hasAcuteCorner_71 : decode prog_4_method_7_code 71 = .ok (.iload_n 1, 1) := dOk_get (q := (71, .iload_n 1, 1)) ok_tb_S_hasAcuteCorner_0 51 rfl
theorem d_S_hasAcuteCorner_72 : decode prog_4_method_7_code 72 = .ok (.laload, 1) := dOk_get (q := (72, .laload, 1)) ok_tb_S_hasAcuteCorner_0 52 rfl
theorem d_S_hasAcuteCorner_73 : decode prog_4_method_7_code 73 = .ok (.lsub, 1) := dOk_get (q := (73, .lsub, 1)) ok_tb_S_hasAcuteCorner_0 53 rfl
theorem d_S_hasAcuteCorner_74 : decode prog_4_method_7_code 74 = .ok (.lmul, 1) := dOk_get (q := (74, .lmul, 1)) ok_tb_S_hasAcuteCorner_0 54 rfl
theorem d_S_hasAcuteCorner_75 : decode prog_4_method_7_code 75 = .ok (.lstore 4, 2) := dOk_get (q := (75, .lstore 4, 2)) ok_tb_S_hasAcuteCorner_0 55 rfl
theorem d_S_hasAcuteCorner_77 : decode prog_4_method_7_code 77 = .ok (.lload_n 2, 1) := dOk_get (q := (77, .lload_n 2, 1)) ok_tb_S_hasAcuteCorner_0 56 rfl
theorem d_S_hasAcuteCorner_78 : decode prog_4_method_7_code 78 = .ok (.lload 4, 2) := dOk_get (q := (78, .lload 4, 2)) ok_tb_S_hasAcuteCorner_0 57 rfl
theorem d_S_hasAcuteCorner_80 : decode prog_4_method_7_code 80 = .ok (.ladd, 1) := dOk_get (q := (80, .ladd, 1)) ok_tb_S_hasAcuteCorner_0 58 rfl
theorem d_S_hasAcuteCorner_81 : decode prog_4_method_7_code 81 = .ok (.lconst 0, 1) := dOk_get (q := (81, .lconst 0, 1)) ok_tb_S_hasAcuteCorner_0 59 rfl
theorem d_S_hasAcuteCorner_82 : decode prog_4_method_7_code 82 = .ok (.lcmp, 1) := dOk_get (q := (82, .lcmp, 1)) ok_tb_S_hasAcuteCorner_0 60 rfl
theorem d_S_hasAcuteCorner_83 : decode prog_4_method_7_code 83 = .ok (.ifCond .le 5, 3) := dOk_get (q := (83, .ifCond .le 5, 3)) ok_tb_S_hasAcuteCorner_0 61 rfl
theorem d_S_hasAcuteCorner_86 : decode prog_4_method_7_code 86 = .ok (.iconst 1, 1) := dOk_get (q := (86, .iconst 1, 1)) ok_tb_S_hasAcuteCorner_0 62 rfl
theorem d_S_hasAcuteCorner_87 : decode prog_4_method_7_code 87 = .ok (.ireturn, 1) := dOk_get (q := (87, .ireturn, 1)) ok_tb_S_hasAcuteCorner_0 63 rfl
theorem d_S_hasAcuteCorner_88 : decode prog_4_method_7_code 88 = .ok (.iinc 1 1, 3) := dOk_get (q := (88, .iinc 1 1, 3)) ok_tb_S_hasAcuteCorner_0 64 rfl
theorem d_S_hasAcuteCorner_91 : decode prog_4_method_7_code 91 = .ok (.goto (-89), 3) := dOk_get (q := (91, .goto (-89), 3)) ok_tb_S_hasAcuteCorner_0 65 rfl
theorem d_S_hasAcuteCorner_94 : decode prog_4_method_7_code 94 = .ok (.iconst 0, 1) := dOk_get (q := (94, .iconst 0, 1)) ok_tb_S_hasAcuteCorner_0 66 rfl
theorem d_S_hasAcuteCorner_95 : decode prog_4_method_7_code 95 = .ok (.ireturn, 1) := dOk_get (q := (95, .ireturn, 1)) ok_tb_S_hasAcuteCorner_0 67 rfl
def tb_Q_takesPair_0 : List (Nat × Instr × Nat) := [(0, .aload_n 0, 1), (1, .iload_n 1, 1), (2, .invokevirtual 25, 3), (5, .ifCond .eq 11, 3), (8, .aload_n 0, 1), (9, .iload_n 2, 1), (10, .invokevirtual 29, 3), (13, .ifCond .ne 19, 3), (16, .aload_n 0, 1), (17, .iload_n 2, 1), (18, .invokevirtual 25, 3), (21, .ifCond .eq 15, 3), (24, .aload_n 0, 1), (25, .iload_n 1, 1), (26, .invokevirtual 29, 3), (29, .ifCond .eq 7, 3), (32, .iconst 1, 1), (33, .goto 4, 3), (36, .iconst 0, 1), (37, .ireturn, 1)]
theorem ok_tb_Q_takesPair_0 : dOk prog_3_method_3_code tb_Q_takesPair_0 = true := by decide +kernel
theorem d_Q_takesPair_0 : decode prog_3_method_3_code 0 = .ok (.aload_n 0, 1) := dOk_get (q := (0, .aload_n 0, 1)) ok_tb_Q_takesPair_0 0 rfl
theorem d_Q_takesPair_1 : decode prog_3_method_3_code 1 = .ok (.iload_n 1, 1) := dOk_get (q := (1, .iload_n 1, 1)) ok_tb_Q_takesPair_0 1 rfl
theorem d_Q_takesPair_2 : decode prog_3_method_3_code 2 = .ok (.invokevirtual 25, 3) := dOk_get (q := (2, .invokevirtual 25, 3)) ok_tb_Q_takesPair_0 2 rfl
theorem d_Q_takesPair_5 : decode prog_3_method_3_code 5 = .ok (.ifCond .eq 11, 3) := dOk_get (q := (5, .ifCond .eq 11, 3)) ok_tb_Q_takesPair_0 3 rfl
theorem d_Q_takesPair_8 : decode prog_3_method_3_code 8 = .ok (.aload_n 0, 1) := dOk_get (q := (8, .aload_n 0, 1)) ok_tb_Q_takesPair_0 4 rfl
theorem d_Q_takesPair_9 : decode prog_3_method_3_code 9 = .ok (.iload_n 2, 1) := dOk_get (q := (9, .iload_n 2, 1)) ok_tb_Q_takesPair_0 5 rfl
theorem d_Q_takesPair_10 : decode prog_3_method_3_code 10 = .ok (.invokevirtual 29, 3) := dOk_get (q := (10, .invokevirtual 29, 3)) ok_tb_Q_takesPair_0 6 rfl
theorem d_Q_takesPair_13 : decode prog_3_method_3_code 13 = .ok (.ifCond .ne 19, 3) := dOk_get (q := (13, .ifCond .ne 19, 3)) ok_tb_Q_takesPair_0 7 rfl
theorem d_Q_takesPair_16 : decode prog_3_method_3_code 16 = .ok (.aload_n 0, 1) := dOk_get (q := (16, .aload_n 0, 1)) ok_tb_Q_takesPair_0 8 rfl
theorem d_Q_takesPair_17 : decode prog_3_method_3_code 17 = .ok (.iload_n 2, 1) := dOk_get (q := (17, .iload_n 2, 1)) ok_tb_Q_takesPair_0 9 rfl
theorem d_Q_takesPair_18 : decode prog_3_method_3_code 18 = .ok (.invokevirtual 25, 3) := dOk_get (q := (18, .invokevirtual 25, 3)) ok_tb_Q_takesPair_0 10 rfl
theorem d_Q_takesPair_21 : decode prog_3_method_3_code 21 = .ok (.ifCond .eq 15, 3) := dOk_get (q := (21, .ifCond .eq 15, 3)) ok_tb_Q_takesPair_0 11 rfl
theorem d_Q_takesPair_24 : decode prog_3_method_3_code 24 = .ok (.aload_n 0, 1) := dOk_get (q := (24, .aload_n 0, 1)) ok_tb_Q_takesPair_0 12 rfl
theorem d_Q_takesPair_25 : decode prog_3_method_3_code 25 = .ok (.iload_n 1, 1) := dOk_get (q := (25, .iload_n 1, 1)) ok_tb_Q_takesPair_0 13 rfl
theorem d_Q_takesPair_26 : decode prog_3_method_3_code 26 = .ok (.invokevirtual 29, 3) := dOk_get (q := (26, .invokevirtual 29, 3)) ok_tb_Q_takesPair_0 14 rfl
theorem d_Q_takesPair_29 : decode prog_3_method_3_code 29 = .ok (.ifCond .eq 7, 3) := dOk_get (q := (29, .ifCond .eq 7, 3)) ok_tb_Q_takesPair_0 15 rfl
theorem d_Q_takesPair_32 : decode prog_3_method_3_code 32 = .ok (.iconst 1, 1) := dOk_get (q := (32, .iconst 1, 1)) ok_tb_Q_takesPair_0 16 rfl
theorem d_Q_takesPair_33 : decode prog_3_method_3_code 33 = .ok (.goto 4, 3) := dOk_get (q := (33, .goto 4, 3)) ok_tb_Q_takesPair_0 17 rfl
theorem d_Q_takesPair_36 : decode prog_3_method_3_code 36 = .ok (.iconst 0, 1) := dOk_get (q := (36, .iconst 0, 1)) ok_tb_Q_takesPair_0 18 rfl
theorem d_Q_takesPair_37 : decode prog_3_method_3_code 37 = .ok (.ireturn, 1) := dOk_get (q := (37, .ireturn, 1)) ok_tb_Q_takesPair_0 19 rfl
def tb_Q_takesSecond_0 : List (Nat × Instr × Nat) := [(0, .aload_n 0, 1), (1, .getfield 18, 3), (4, .iconst (-1), 1), (5, .if_icmp .eq 11, 3), (8, .aload_n 0, 1), (9, .getfield 18, 3), (12, .iload_n 1, 1), (13, .if_icmp .ne 7, 3), (16, .iconst 1, 1), (17, .goto 4, 3), (20, .iconst 0, 1), (21, .ireturn, 1)]
theorem ok_tb_Q_takesSecond_0 : dOk prog_3_method_4_code tb_Q_takesSecond_0 = true := by decide +kernel
theorem d_Q_takesSecond_0 : decode prog_3_method_4_code 0 = .ok (.aload_n 0, 1) := dOk_get (q := (0, .aload_n 0, 1)) ok_tb_Q_takesSecond_0 0 rfl
theorem d_Q_takesSecond_1 : decode prog_3_method_4_code 1 = .ok (.getfield 18, 3) := dOk_get (q := (1, .getfield 18, 3)) ok_tb_Q_takesSecond_0 1 rfl
theorem d_Q_takesSecond_4 : decode prog_3_method_4_code 4 = .ok (.iconst (-1), 1) := dOk_get (q := (4, .iconst (-1), 1)) ok_tb_Q_takesSecond_0 2 rfl
theorem d_Q_takesSecond_5 : decode prog_3_method_4_code 5 = .ok (.if_icmp .eq 11, 3) := dOk_get (q := (5, .if_icmp .eq 11, 3)) ok_tb_Q_takesSecond_0 3 rfl
theorem d_Q_takesSecond_8 : decode prog_3_method_4_code 8 = .ok (.aload_n 0, 1) := dOk_get (q := (8, .aload_n 0, 1)) ok_tb_Q_takesSecond_0 4 rfl
theorem d_Q_takesSecond_9 : decode prog_3_method_4_code 9 = .ok (.getfield 18, 3) := dOk_get (q := (9, .getfield 18, 3)) ok_tb_Q_takesSecond_0 5 rfl
theorem d_Q_takesSecond_12 : decode prog_3_method_4_code 12 = .ok (.iload_n 1, 1) := dOk_get (q := (12, .iload_n 1, 1)) ok_tb_Q_takesSecond_0 6 rfl
theorem d_Q_takesSecond_13 : decode prog_3_method_4_code 13 = .ok (.if_icmp .ne 7, 3) := dOk_get (q := (13, .if_icmp .ne 7, 3)) ok_tb_Q_takesSecond_0 7 rfl
theorem d_Q_takesSecond_16 : decode prog_3_method_4_code 16 = .ok (.iconst 1, 1) := dOk_get (q := (16, .iconst 1, 1)) ok_tb_Q_takesSecond_0 8 rfl
theorem d_Q_takesSecond_17 : decode prog_3_method_4_code 17 = .ok (.goto 4, 3) := dOk_get (q := (17, .goto 4, 3)) ok_tb_Q_takesSecond_0 9 rfl
theorem d_Q_takesSecond_20 : decode prog_3_method_4_code 20 = .ok (.iconst 0, 1) := dOk_get (q := (20, .iconst 0, 1)) ok_tb_Q_takesSecond_0 10 rfl
theorem d_Q_takesSecond_21 : decode prog_3_method_4_code 21 = .ok (.ireturn, 1) := dOk_get (q := (21, .ireturn, 1)) ok_tb_Q_takesSecond_0 11 rfl
def tb_S_isNearer_0 : List (Nat × Instr × Nat) := [(0, .aload_n 0, 1), (1, .aload_n 1, 1), (2, .lload_n 2, 1), (3, .invokevirtual 54, 3), (6, .ifCond .ne 20, 3), (9, .aload_n 1, 1), (10, .aload_n 0, 1), (11, .lload_n 2, 1), (12, .invokevirtual 54, 3), (15, .ifCond .ne 11, 3), (18, .aload_n 0, 1), (19, .aload_n 1, 1), (20, .invokevirtual 58, 3), (23, .ifCond .eq 7, 3), (26, .iconst 1, 1), (27, .goto 4, 3), (30, .iconst 0, 1), (31, .ireturn, 1)]
theorem ok_tb_S_isNearer_0 : dOk prog_4_method_10_code tb_S_isNearer_0 = true := by decide +kernel
theorem d_S_isNearer_0 : decode prog_4_method_10_code 0 = .ok (.aload_n 0, 1) := dOk_get (q := (0, .aload_n 0, 1)) ok_tb_S_isNearer_0 0 rfl
theorem d_S_isNearer_1 : decode prog_4_method_10_code 1 = .ok (.aload_n 1, 1) := dOk_get (q := (1, .aload_n 1, 1)) ok_tb_S_isNearer_0 1 rfl
theorem d_S_isNearer_2 : decode prog_4_method_10_code 2 = .ok (.lload_n 2, 1) := dOk_get (q := (2, .lload_n 2, 1)) ok_tb_S_isNearer_0 2 rfl
theorem d_S_isNearer_3 : decode prog_4_method_10_code 3 = .ok (.invokevirtual 54, 3) := dOk_get (q := (3, .invokevirtual 54, 3)) ok_tb_S_isNearer_0 3 rfl
theorem d_S_isNearer_6 : decode prog_4_method_10_code 6 = .ok (.ifCond .ne 20, 3) := dOk_get (q := (6, .ifCond .ne 20, 3)) ok_tb_S_isNearer_0 4 rfl
theorem d_S_isNearer_9 : decode prog_4_method_10_code 9 = .ok (.aload_n 1, 1) := dOk_get (q := (9, .aload_n 1, 1)) ok_tb_S_isNearer_0 5 rfl
theorem d_S_isNearer_10 : decode prog_4_method_10_code 10 = .ok (.aload_n 0, 1) := dOk_get (q := (10, .aload_n 0, 1)) ok_tb_S_isNearer_0 6 rfl
theorem d_S_isNearer_11 : decode prog_4_method_10_code 11 = .ok (.lload_n 2, 1) := dOk_get (q := (11, .lload_n 2, 1)) ok_tb_S_isNearer_0 7 rfl
theorem d_S_isNearer_12 : decode prog_4_method_10_code 12 = .ok (.invokevirtual 54, 3) := dOk_get (q := (12, .invokevirtual 54, 3)) ok_tb_S_isNearer_0 8 rfl
theorem d_S_isNearer_15 : decode prog_4_method_10_code 15 = .ok (.ifCond .ne 11, 3) := dOk_get (q := (15, .ifCond .ne 11, 3)) ok_tb_S_isNearer_0 9 rfl
theorem d_S_isNearer_18 : decode prog_4_method_10_code 18 = .ok (.aload_n 0, 1) := dOk_get (q := (18, .aload_n 0, 1)) ok_tb_S_isNearer_0 10 rfl
theorem d_S_isNearer_19 : decode prog_4_method_10_code 19 = .ok (.aload_n 1, 1) := dOk_get (q := (19, .aload_n 1, 1)) ok_tb_S_isNearer_0 11 rfl
theorem d_S_isNearer_20 : decode prog_4_method_10_code 20 = .ok (.invokevirtual 58, 3) := dOk_get (q := (20, .invokevirtual 58, 3)) ok_tb_S_isNearer_0 12 rfl
theorem d_S_isNearer_23 : decode prog_4_method_10_code 23 = .ok (.ifCond .eq 7, 3) := dOk_get (q := (23, .ifCond .eq 7, 3)) ok_tb_S_isNearer_0 13 rfl
theorem d_S_isNearer_26 : decode prog_4_method_10_code 26 = .ok (.iconst 1, 1) := dOk_get (q := (26, .iconst 1, 1)) ok_tb_S_isNearer_0 14 rfl
theorem d_S_isNearer_27 : decode prog_4_method_10_code 27 = .ok (.goto 4, 3) := dOk_get (q := (27, .goto 4, 3)) ok_tb_S_isNearer_0 15 rfl
theorem d_S_isNearer_30 : decode prog_4_method_10_code 30 = .ok (.iconst 0, 1) := dOk_get (q := (30, .iconst 0, 1)) ok_tb_S_isNearer_0 16 rfl
theorem d_S_isNearer_31 : decode prog_4_method_10_code 31 = .ok (.ireturn, 1) := dOk_get (q := (31, .ireturn, 1)) ok_tb_S_isNearer_0 17 rfl
def tb_S_hasCornerNearer_0 : List (Nat × Instr × Nat) := [(0, .iconst 0, 1), (1, .istore 4, 2), (3, .iload 4, 2), (5, .aload_n 0, 1), (6, .getfield 39, 3), (9, .if_icmp .ge 53, 3), (12, .iconst 0, 1), (13, .istore 5, 2), (15, .iload 5, 2), (17, .aload_n 1, 1), (18, .invokevirtual 42, 3), (21, .if_icmp .ge 35, 3), (24, .aload_n 1, 1), (25, .iload 5, 2), (27, .aload_n 0, 1), (28, .getfield 24, 3), (31, .iload 4, 2), (33, .laload, 1), (34, .aload_n 0, 1), (35, .getfield 28, 3), (38, .iload 4, 2), (40, .laload, 1), (41, .lload_n 2, 1), (42, .invokevirtual 46, 3), (45, .ifCond .ge 5, 3), (48, .iconst 1, 1), (49, .ireturn, 1), (50, .iinc 5 1, 3), (53, .goto (-38), 3), (56, .iinc 4 1, 3), (59, .goto (-56), 3), (62, .iconst 0, 1), (63, .ireturn, 1)]
theorem ok_tb_S_hasCornerNearer_0 : dOk prog_4_method_11_code tb_S_hasCornerNearer_0 = true := by decide +kernel
theorem d_S_hasCornerNearer_0 : decode prog_4_method_11_code 0 = .ok (.iconst 0, 1) := dOk_get (q := (0, .iconst 0, 1)) ok_tb_S_hasCornerNearer_0 0 rfl
theorem d_S_hasCornerNearer_1 : decode prog_4_method_11_code 1 = .ok (.istore 4, 2) := dOk_get (q := (1, .istore 4, 2)) ok_tb_S_hasCornerNearer_0 1 rfl
theorem d_S_hasCornerNearer_3 : decode prog_4_method_11_code 3 = .ok (.iload 4, 2) := dOk_get (q := (3, .iload 4, 2)) ok_tb_S_hasCornerNearer_0 2 rfl
theorem d_S_hasCornerNearer_5 : decode prog_4_method_11_code 5 = .ok (.aload_n 0, 1) := dOk_get (q := (5, .aload_n 0, 1)) ok_tb_S_hasCornerNearer_0 3 rfl
theorem d_S_hasCornerNearer_6 : decode prog_4_method_11_code 6 = .ok (.getfield 39, 3) := dOk_get (q := (6, .getfield 39, 3)) ok_tb_S_hasCornerNearer_0 4 rfl
theorem d_S_hasCornerNearer_9 : decode prog_4_method_11_code 9 = .ok (.if_icmp .ge 53, 3) := dOk_get (q := (9, .if_icmp .ge 53, 3)) ok_tb_S_hasCornerNearer_0 5 rfl
theorem d_S_hasCornerNearer_12 : decode prog_4_method_11_code 12 = .ok (.iconst 0, 1) := dOk_get (q := (12, .iconst 0, 1)) ok_tb_S_hasCornerNearer_0 6 rfl
theorem d_S_hasCornerNearer_13 : decode prog_4_method_11_code 13 = .ok (.istore 5, 2) := dOk_get (q := (13, .istore 5, 2)) ok_tb_S_hasCornerNearer_0 7 rfl
theorem d_S_hasCornerNearer_15 : decode prog_4_method_11_code 15 = .ok (.iload 5, 2) := dOk_get (q := (15, .iload 5, 2)) ok_tb_S_hasCornerNearer_0 8 rfl
theorem d_S_hasCornerNearer_17 : decode prog_4_method_11_code 17 = .ok (.aload_n 1, 1) := dOk_get (q := (17, .aload_n 1, 1)) ok_tb_S_hasCornerNearer_0 9 rfl
theorem d_S_hasCornerNearer_18 : decode prog_4_method_11_code 18 = .ok (.invokevirtual 42, 3) := dOk_get (q := (18, .invokevirtual 42, 3)) ok_tb_S_hasCornerNearer_0 10 rfl
theorem d_S_hasCornerNearer_21 : decode prog_4_method_11_code 21 = .ok (.if_icmp .ge 35, 3) := dOk_get (q := (21, .if_icmp .ge 35, 3)) ok_tb_S_hasCornerNearer_0 11 rfl
theorem d_S_hasCornerNearer_24 : decode prog_4_method_11_code 24 = .ok (.aload_n 1, 1) := dOk_get (q := (24, .aload_n 1, 1)) ok_tb_S_hasCornerNearer_0 12 rfl
theorem d_S_hasCornerNearer_25 : decode prog_4_method_11_code 25 = .ok (.iload 5, 2) := dOk_get (q := (25, .iload 5, 2)) ok_tb_S_hasCornerNearer_0 13 rfl
theorem d_S_hasCornerNearer_27 : decode prog_4_method_11_code 27 = .ok (.aload_n 0, 1) := dOk_get (q := (27, .aload_n 0, 1)) ok_tb_S_hasCornerNearer_0 14 rfl
theorem d_S_hasCornerNearer_28 : decode prog_4_method_11_code 28 = .ok (.getfield 24, 3) := dOk_get (q := (28, .getfield 24, 3)) ok_tb_S_hasCornerNearer_0 15 rfl
theorem d_S_hasCornerNearer_31 : decode prog_4_method_11_code 31 = .ok (.iload 4, 2) := dOk_get (q := (31, .iload 4, 2)) ok_tb_S_hasCornerNearer_0 16 rfl
theorem d_S_hasCornerNearer_33 : decode prog_4_method_11_code 33 = .ok (.laload, 1) := dOk_get (q := (33, .laload, 1)) ok_tb_S_hasCornerNearer_0 17 rfl
theorem d_S_hasCornerNearer_34 : decode prog_4_method_11_code 34 = .ok (.aload_n 0, 1) := dOk_get (q := (34, .aload_n 0, 1)) ok_tb_S_hasCornerNearer_0 18 rfl
theorem d_S_hasCornerNearer_35 : decode prog_4_method_11_code 35 = .ok (.getfield 28, 3) := dOk_get (q := (35, .getfield 28, 3)) ok_tb_S_hasCornerNearer_0 19 rfl
theorem d_S_hasCornerNearer_38 : decode prog_4_method_11_code 38 = .ok (.iload 4, 2) := dOk_get (q := (38, .iload 4, 2)) ok_tb_S_hasCornerNearer_0 20 rfl
theorem d_S_hasCornerNearer_40 : decode prog_4_method_11_code 40 = .ok (.laload, 1) := dOk_get (q := (40, .laload, 1)) ok_tb_S_hasCornerNearer_0 21 rfl
theorem d_S_hasCornerNearer_41 : decode prog_4_method_11_code 41 = .ok (.lload_n 2, 1) := dOk_get (q := (41, .lload_n 2, 1)) ok_tb_S_hasCornerNearer_0 22 rfl
theorem d_S_hasCornerNearer_42 : decode prog_4_method_11_code 42 = .ok (.invokevirtual 46, 3) := dOk_get (q := (42, .invokevirtual 46, 3)) ok_tb_S_hasCornerNearer_0 23 rfl
theorem d_S_hasCornerNearer_45 : decode prog_4_method_11_code 45 = .ok (.ifCond .ge 5, 3) := dOk_get (q := (45, .ifCond .ge 5, 3)) ok_tb_S_hasCornerNearer_0 24 rfl
theorem d_S_hasCornerNearer_48 : decode prog_4_method_11_code 48 = .ok (.iconst 1, 1) := dOk_get (q := (48, .iconst 1, 1)) ok_tb_S_hasCornerNearer_0 25 rfl
theorem d_S_hasCornerNearer_49 : decode prog_4_method_11_code 49 = .ok (.ireturn, 1) := dOk_get (q := (49, .ireturn, 1)) ok_tb_S_hasCornerNearer_0 26 rfl
theorem d_S_hasCornerNearer_50 : decode prog_4_method_11_code 50 = .ok (.iinc 5 1, 3) := dOk_get (q := (50, .iinc 5 1, 3)) ok_tb_S_hasCornerNearer_0 27 rfl
theorem d_S_hasCornerNearer_53 : decode prog_4_method_11_code 53 = .ok (.goto (-38), 3) := dOk_get (q := (53, .goto (-38), 3)) ok_tb_S_hasCornerNearer_0 28 rfl
theorem d_S_hasCornerNearer_56 : decode prog_4_method_11_code 56 = .ok (.iinc 4 1, 3) := dOk_get (q := (56, .iinc 4 1, 3)) ok_tb_S_hasCornerNearer_0 29 rfl
theorem d_S_hasCornerNearer_59 : decode prog_4_method_11_code 59 = .ok (.goto (-56), 3) := dOk_get (q := (59, .goto (-56), 3)) ok_tb_S_hasCornerNearer_0 30 rfl
theorem d_S_hasCornerNearer_62 : decode prog_4_method_11_code 62 = .ok (.iconst 0, 1) := dOk_get (q := (62, .iconst 0, 1)) ok_tb_S_hasCornerNearer_0 31 rfl
theorem d_S_hasCornerNearer_63 : decode prog_4_method_11_code 63 = .ok (.ireturn, 1) := dOk_get (q := (63, .ireturn, 1)) ok_tb_S_hasCornerNearer_0 32 rfl
def tb_S_crosses_0 : List (Nat × Instr × Nat) := [(0, .iconst 0, 1), (1, .istore_n 2, 1), (2, .iload_n 2, 1), (3, .aload_n 0, 1), (4, .getfield 39, 3), (7, .iconst 1, 1), (8, .isub, 1), (9, .if_icmp .ge 49, 3), (12, .iconst 0, 1), (13, .istore_n 3, 1), (14, .iload_n 3, 1), (15, .aload_n 1, 1), (16, .getfield 39, 3), (19, .iconst 1, 1), (20, .isub, 1), (21, .if_icmp .ge 31, 3), (24, .aload_n 0, 1), (25, .iload_n 2, 1), (26, .aload_n 1, 1), (27, .iload_n 3, 1), (28, .invokevirtual 62, 3), (31, .ifCond .eq 15, 3), (34, .aload_n 1, 1), (35, .iload_n 3, 1), (36, .aload_n 0, 1), (37, .iload_n 2, 1), (38, .invokevirtual 62, 3), (41, .ifCond .eq 5, 3), (44, .iconst 1, 1), (45, .ireturn, 1), (46, .iinc 3 1, 3), (49, .goto (-35), 3), (52, .iinc 2 1, 3), (55, .goto (-53), 3), (58, .iconst 0, 1), (59, .ireturn, 1)]
theorem ok_tb_S_crosses_0 : dOk prog_4_method_12_code tb_S_crosses_0 = true := by decide +kernel
theorem d_S_crosses_0 : decode prog_4_method_12_code 0 = .ok (.iconst 0, 1) := dOk_get (q := (0, .iconst 0, 1)) ok_tb_S_crosses_0 0 rfl
theorem d_S_crosses_1 : decode prog_4_method_12_code 1 = .ok (.istore_n 2, 1) := dOk_get (q := (1, .istore_n 2, 1)) ok_tb_S_crosses_0 1 rfl
theorem d_S_crosses_2 : decode prog_4_method_12_code 2 = .ok (.iload_n 2, 1) := dOk_get (q := (2, .iload_n 2, 1)) ok_tb_S_crosses_0 2 rfl
theorem d_S_crosses_3 : decode prog_4_method_12_code 3 = .ok (.aload_n 0, 1) := dOk_get (q := (3, .aload_n 0, 1)) ok_tb_S_crosses_0 3 rfl
theorem d_S_crosses_4 : decode prog_4_method_12_code 4 = .ok (.getfield 39, 3) := dOk_get (q := (4, .getfield 39, 3)) ok_tb_S_crosses_0 4 rfl
theorem d_S_crosses_7 : decode prog_4_method_12_code 7 = .ok (.iconst 1, 1) := dOk_get (q := (7, .iconst 1, 1)) ok_tb_S_crosses_0 5 rfl
theorem d_S_crosses_8 : decode prog_4_method_12_code 8 = .ok (.isub, 1) := dOk_get (q := (8, .isub, 1)) ok_tb_S_crosses_0 6 rfl
theorem d_S_crosses_9 : decode prog_4_method_12_code 9 = .ok (.if_icmp .ge 49, 3) := dOk_get (q := (9, .if_icmp .ge 49, 3)) ok_tb_S_crosses_0 7 rfl
theorem d_S_crosses_12 : decode prog_4_method_12_code 12 = .ok (.iconst 0, 1) := dOk_get (q := (12, .iconst 0, 1)) ok_tb_S_crosses_0 8 rfl
theorem d_S_crosses_13 : decode prog_4_method_12_code 13 = .ok (.istore_n 3, 1) := dOk_get (q := (13, .istore_n 3, 1)) ok_tb_S_crosses_0 9 rfl
theorem d_S_crosses_14 : decode prog_4_method_12_code 14 = .ok (.iload_n 3, 1) := dOk_get (q := (14, .iload_n 3, 1)) ok_tb_S_crosses_0 10 rfl
theorem d_S_crosses_15 : decode prog_4_method_12_code 15 = .ok (.aload_n 1, 1) := dOk_get (q := (15, .aload_n 1, 1)) ok_tb_S_crosses_0 11 rfl
theorem d_S_crosses_16 : decode prog_4_method_12_code 16 = .ok (.getfield 39, 3) := dOk_get (q := (16, .getfield 39, 3)) ok_tb_S_crosses_0 12 rfl
theorem d_S_crosses_19 : decode prog_4_method_12_code 19 = .ok (.iconst 1, 1) := dOk_get (q := (19, .iconst 1, 1)) ok_tb_S_crosses_0 13 rfl
theorem d_S_crosses_20 : decode prog_4_method_12_code 20 = .ok (.isub, 1) := dOk_get (q := (20, .isub, 1)) ok_tb_S_crosses_0 14 rfl
theorem d_S_crosses_21 : decode prog_4_method_12_code 21 = .ok (.if_icmp .ge 31, 3) := dOk_get (q := (21, .if_icmp .ge 31, 3)) ok_tb_S_crosses_0 15 rfl
theorem d_S_crosses_24 : decode prog_4_method_12_code 24 = .ok (.aload_n 0, 1) := dOk_get (q := (24, .aload_n 0, 1)) ok_tb_S_crosses_0 16 rfl
theorem d_S_crosses_25 : decode prog_4_method_12_code 25 = .ok (.iload_n 2, 1) := dOk_get (q := (25, .iload_n 2, 1)) ok_tb_S_crosses_0 17 rfl
theorem d_S_crosses_26 : decode prog_4_method_12_code 26 = .ok (.aload_n 1, 1) := dOk_get (q := (26, .aload_n 1, 1)) ok_tb_S_crosses_0 18 rfl
theorem d_S_crosses_27 : decode prog_4_method_12_code 27 = .ok (.iload_n 3, 1) := dOk_get (q := (27, .iload_n 3, 1)) ok_tb_S_crosses_0 19 rfl
theorem d_S_crosses_28 : decode prog_4_method_12_code 28 = .ok (.invokevirtual 62, 3) := dOk_get (q := (28, .invokevirtual 62, 3)) ok_tb_S_crosses_0 20 rfl
theorem d_S_crosses_31 : decode prog_4_method_12_code 31 = .ok (.ifCond .eq 15, 3) := dOk_get (q := (31, .ifCond .eq 15, 3)) ok_tb_S_crosses_0 21 rfl
theorem d_S_crosses_34 : decode prog_4_method_12_code 34 = .ok (.aload_n 1, 1) := dOk_get (q := (34, .aload_n 1, 1)) ok_tb_S_crosses_0 22 rfl
theorem d_S_crosses_35 : decode prog_4_method_12_code 35 = .ok (.iload_n 3, 1) := dOk_get (q := (35, .iload_n 3, 1)) ok_tb_S_crosses_0 23 rfl
theorem d_S_crosses_36 : decode prog_4_method_12_code 36 = .ok (.aload_n 0, 1) := dOk_get (q := (36, .aload_n 0, 1)) ok_tb_S_crosses_0 24 rfl
theorem d_S_crosses_37 : decode prog_4_method_12_code 37 = .ok (.iload_n 2, 1) := dOk_get (q := (37, .iload_n 2, 1)) ok_tb_S_crosses_0 25 rfl
theorem d_S_crosses_38 : decode prog_4_method_12_code 38 = .ok (.invokevirtual 62, 3) := dOk_get (q := (38, .invokevirtual 62, 3)) ok_tb_S_crosses_0 26 rfl
theorem d_S_crosses_41 : decode prog_4_method_12_code 41 = .ok (.ifCond .eq 5, 3) := dOk_get (q := (41, .ifCond .eq 5, 3)) ok_tb_S_crosses_0 27 rfl
theorem d_S_crosses_44 : decode prog_4_method_12_code 44 = .ok (.iconst 1, 1) := dOk_get (q := (44, .iconst 1, 1)) ok_tb_S_crosses_0 28 rfl
theorem d_S_crosses_45 : decode prog_4_method_12_code 45 = .ok (.ireturn, 1) := dOk_get (q := (45, .ireturn, 1)) ok_tb_S_crosses_0 29 rfl
theorem d_S_crosses_46 : decode prog_4_method_12_code 46 = .ok (.iinc 3 1, 3) := dOk_get (q := (46, .iinc 3 1, 3)) ok_tb_S_crosses_0 30 rfl
theorem d_S_crosses_49 : decode prog_4_method_12_code 49 = .ok (.goto (-35), 3) := dOk_get (q := (49, .goto (-35), 3)) ok_tb_S_crosses_0 31 rfl
theorem d_S_crosses_52 : decode prog_4_method_12_code 52 = .ok (.iinc 2 1, 3) := dOk_get (q := (52, .iinc 2 1, 3)) ok_tb_S_crosses_0 32 rfl
theorem d_S_crosses_55 : decode prog_4_method_12_code 55 = .ok (.goto (-53), 3) := dOk_get (q := (55, .goto (-53), 3)) ok_tb_S_crosses_0 33 rfl
theorem d_S_crosses_58 : decode prog_4_method_12_code 58 = .ok (.iconst 0, 1) := dOk_get (q := (58, .iconst 0, 1)) ok_tb_S_crosses_0 34 rfl
theorem d_S_crosses_59 : decode prog_4_method_12_code 59 = .ok (.ireturn, 1) := dOk_get (q := (59, .ireturn, 1)) ok_tb_S_crosses_0 35 rfl
def tb_S_parts_0 : List (Nat × Instr × Nat) := [(0, .aload_n 0, 1), (1, .iload_n 1, 1), (2, .aload_n 2, 1), (3, .getfield 24, 3), (6, .iload_n 3, 1), (7, .laload, 1), (8, .aload_n 2, 1), (9, .getfield 28, 3), (12, .iload_n 3, 1), (13, .laload, 1), (14, .invokevirtual 66, 3), (17, .lstore 4, 2), (19, .aload_n 0, 1), (20, .iload_n 1, 1), (21, .aload_n 2, 1), (22, .getfield 24, 3), (25, .iload_n 3, 1), (26, .iconst 1, 1), (27, .iadd, 1), (28, .laload, 1), (29, .aload_n 2, 1), (30, .getfield 28, 3), (33, .iload_n 3, 1), (34, .iconst 1, 1), (35, .iadd, 1), (36, .laload, 1), (37, .invokevirtual 66, 3), (40, .lstore 6, 2), (42, .lload 4, 2), (44, .lconst 0, 1), (45, .lcmp, 1), (46, .ifCond .ge 10, 3), (49, .lload 6, 2), (51, .lconst 0, 1), (52, .lcmp, 1), (53, .ifCond .gt 17, 3), (56, .lload 4, 2), (58, .lconst 0, 1), (59, .lcmp, 1), (60, .ifCond .le 14, 3), (63, .lload 6, 2), (65, .lconst 0, 1), (66, .lcmp, 1), (67, .ifCond .ge 7, 3), (70, .iconst 1, 1), (71, .goto 4, 3), (74, .iconst 0, 1), (75, .ireturn, 1)]
theorem ok_tb_S_parts_0 : dOk prog_4_method_13_code tb_S_parts_0 = true := by decide +kernel
theorem d_S_parts_0 : decode prog_4_method_13_code 0 = .ok (.aload_n 0, 1) := dOk_get (q := (0, .aload_n 0, 1)) ok_tb_S_parts_0 0 rfl
theorem d_S_parts_1 : decode prog_4_method_13_code 1 = .ok (.iload_n 1, 1) := dOk_get (q := (1, .iload_n 1, 1)) ok_tb_S_parts_0 1 rfl
theorem d_S_parts_2 : decode prog_4_method_13_code 2 = .ok (.aload_n 2, 1) := dOk_get (q := (2, .aload_n 2, 1)) ok_tb_S_parts_0 2 rfl
theorem d_S_parts_3 : decode prog_4_method_13_code 3 = .ok (.getfield 24, 3) := dOk_get (q := (3, .getfield 24, 3)) ok_tb_S_parts_0 3 rfl
theorem d_S_parts_6 : decode prog_4_method_13_code 6 = .ok (.iload_n 3, 1) := dOk_get (q := (6, .iload_n 3, 1)) ok_tb_S_parts_0 4 rfl
theorem d_S_parts_7 : decode prog_4_method_13_code 7 = .ok (.laload, 1) := dOk_get (q := (7, .laload, 1)) ok_tb_S_parts_0 5 rfl
theorem d_S_parts_8 : decode prog_4_method_13_code 8 = .ok (.aload_n 2, 1) := dOk_get (q := (8, .aload_n 2, 1)) ok_tb_S_parts_0 6 rfl
theorem d_S_parts_9 : decode prog_4_method_13_code 9 = .ok (.getfield 28, 3) := dOk_get (q := (9, .getfield 28, 3)) ok_tb_S_parts_0 7 rfl
theorem d_S_parts_12 : decode prog_4_method_13_code 12 = .ok (.iload_n 3, 1) := dOk_get (q := (12, .iload_n 3, 1)) ok_tb_S_parts_0 8 rfl
theorem d_S_parts_13 : decode prog_4_method_13_code 13 = .ok (.laload, 1) := dOk_get (q := (13, .laload, 1)) ok_tb_S_parts_0 9 rfl
theorem d_S_parts_14 : decode prog_4_method_13_code 14 = .ok (.invokevirtual 66, 3) := dOk_get (q := (14, .invokevirtual 66, 3)) ok_tb_S_parts_0 10 rfl
theorem d_S_parts_17 : decode prog_4_method_13_code 17 = .ok (.lstore 4, 2) := dOk_get (q := (17, .lstore 4, 2)) ok_tb_S_parts_0 11 rfl
theorem d_S_parts_19 : decode prog_4_method_13_code 19 = .ok (.aload_n 0, 1) := dOk_get (q := (19, .aload_n 0, 1)) ok_tb_S_parts_0 12 rfl
theorem d_S_parts_20 : decode prog_4_method_13_code 20 = .ok (.iload_n 1, 1) := dOk_get (q := (20, .iload_n 1, 1)) ok_tb_S_parts_0 13 rfl
theorem d_S_parts_21 : decode prog_4_method_13_code 21 = .ok (.aload_n 2, 1) := dOk_get (q := (21, .aload_n 2, 1)) ok_tb_S_parts_0 14 rfl
theorem d_S_parts_22 : decode prog_4_method_13_code 22 = .ok (.getfield 24, 3) := dOk_get (q := (22, .getfield 24, 3)) ok_tb_S_parts_0 15 rfl
theorem d_S_parts_25 : decode prog_4_method_13_code 25 = .ok (.iload_n 3, 1) := dOk_get (q := (25, .iload_n 3, 1)) ok_tb_S_parts_0 16 rfl
theorem d_S_parts_26 : decode prog_4_method_13_code 26 = .ok (.iconst 1, 1) := dOk_get (q := (26, .iconst 1, 1)) ok_tb_S_parts_0 17 rfl
theorem d_S_parts_27 : decode prog_4_method_13_code 27 = .ok (.iadd, 1) := dOk_get (q := (27, .iadd, 1)) ok_tb_S_parts_0 18 rfl
theorem d_S_parts_28 : decode prog_4_method_13_code 28 = .ok (.laload, 1) := dOk_get (q := (28, .laload, 1)) ok_tb_S_parts_0 19 rfl
theorem d_S_parts_29 : decode prog_4_method_13_code 29 = .ok (.aload_n 2, 1) := dOk_get (q := (29, .aload_n 2, 1)) ok_tb_S_parts_0 20 rfl
theorem d_S_parts_30 : decode prog_4_method_13_code 30 = .ok (.getfield 28, 3) := dOk_get (q := (30, .getfield 28, 3)) ok_tb_S_parts_0 21 rfl
theorem d_S_parts_33 : decode prog_4_method_13_code 33 = .ok (.iload_n 3, 1) := dOk_get (q := (33, .iload_n 3, 1)) ok_tb_S_parts_0 22 rfl
theorem d_S_parts_34 : decode prog_4_method_13_code 34 = .ok (.iconst 1, 1) := dOk_get (q := (34, .iconst 1, 1)) ok_tb_S_parts_0 23 rfl
theorem d_S_parts_35 : decode prog_4_method_13_code 35 = .ok (.iadd, 1) := dOk_get (q := (35, .iadd, 1)) ok_tb_S_parts_0 24 rfl
theorem d_S_parts_36 : decode prog_4_method_13_code 36 = .ok (.laload, 1) := dOk_get (q := (36, .laload, 1)) ok_tb_S_parts_0 25 rfl
theorem d_S_parts_37 : decode prog_4_method_13_code 37 = .ok (.invokevirtual 66, 3) := dOk_get (q := (37, .invokevirtual 66, 3)) ok_tb_S_parts_0 26 rfl
theorem d_S_parts_40 : decode prog_4_method_13_code 40 = .ok (.lstore 6, 2) := dOk_get (q := (40, .lstore 6, 2)) ok_tb_S_parts_0 27 rfl
theorem d_S_parts_42 : decode prog_4_method_13_code 42 = .ok (.lload 4, 2) := dOk_get (q := (42, .lload 4, 2)) ok_tb_S_parts_0 28 rfl
theorem d_S_parts_44 : decode prog_4_method_13_code 44 = .ok (.lconst 0, 1) := dOk_get (q := (44, .lconst 0, 1)) ok_tb_S_parts_0 29 rfl
theorem d_S_parts_45 : decode prog_4_method_13_code 45 = .ok (.lcmp, 1) := dOk_get (q := (45, .lcmp, 1)) ok_tb_S_parts_0 30 rfl
theorem d_S_parts_46 : decode prog_4_method_13_code 46 = .ok (.ifCond .ge 10, 3) := dOk_get (q := (46, .ifCond .ge 10, 3)) ok_tb_S_parts_0 31 rfl
theorem d_S_parts_49 : decode prog_4_method_13_code 49 = .ok (.lload 6, 2) := dOk_get (q := (49, .lload 6, 2)) ok_tb_S_parts_0 32 rfl
theorem d_S_parts_51 : decode prog_4_method_13_code 51 = .ok (.lconst 0, 1) := dOk_get (q := (51, .lconst 0, 1)) ok_tb_S_parts_0 33 rfl
theorem d_S_parts_52 : decode prog_4_method_13_code 52 = .ok (.lcmp, 1) := dOk_get (q := (52, .lcmp, 1)) ok_tb_S_parts_0 34 rfl
theorem d_S_parts_53 : decode prog_4_method_13_code 53 = .ok (.ifCond .gt 17, 3) := dOk_get (q := (53, .ifCond .gt 17, 3)) ok_tb_S_parts_0 35 rfl
theorem d_S_parts_56 : decode prog_4_method_13_code 56 = .ok (.lload 4, 2) := dOk_get (q := (56, .lload 4, 2)) ok_tb_S_parts_0 36 rfl
theorem d_S_parts_58 : decode prog_4_method_13_code 58 = .ok (.lconst 0, 1) := dOk_get (q := (58, .lconst 0, 1)) ok_tb_S_parts_0 37 rfl
theorem d_S_parts_59 : decode prog_4_method_13_code 59 = .ok (.lcmp, 1) := dOk_get (q := (59, .lcmp, 1)) ok_tb_S_parts_0 38 rfl
theorem d_S_parts_60 : decode prog_4_method_13_code 60 = .ok (.ifCond .le 14, 3) := dOk_get (q := (60, .ifCond .le 14, 3)) ok_tb_S_parts_0 39 rfl
theorem d_S_parts_63 : decode prog_4_method_13_code 63 = .ok (.lload 6, 2) := dOk_get (q := (63, .lload 6, 2)) ok_tb_S_parts_0 40 rfl
theorem d_S_parts_65 : decode prog_4_method_13_code 65 = .ok (.lconst 0, 1) := dOk_get (q := (65, .lconst 0, 1)) ok_tb_S_parts_0 41 rfl
theorem d_S_parts_66 : decode prog_4_method_13_code 66 = .ok (.lcmp, 1) := dOk_get (q := (66, .lcmp, 1)) ok_tb_S_parts_0 42 rfl
theorem d_S_parts_67 : decode prog_4_method_13_code 67 = .ok (.ifCond .ge 7, 3) := dOk_get (q := (67, .ifCond .ge 7, 3)) ok_tb_S_parts_0 43 rfl
theorem d_S_parts_70 : decode prog_4_method_13_code 70 = .ok (.iconst 1, 1) := dOk_get (q := (70, .iconst 1, 1)) ok_tb_S_parts_0 44 rfl
theorem d_S_parts_71 : decode prog_4_method_13_code 71 = .ok (.goto 4, 3) := dOk_get (q := (71, .goto 4, 3)) ok_tb_S_parts_0 45 rfl
theorem d_S_parts_74 : decode prog_4_method_13_code 74 = .ok (.iconst 0, 1) := dOk_get (q := (74, .iconst 0, 1)) ok_tb_S_parts_0 46 rfl
theorem d_S_parts_75 : decode prog_4_method_13_code 75 = .ok (.ireturn, 1) := dOk_get (q := (75, .ireturn, 1)) ok_tb_S_parts_0 47 rfl
def tb_S_turn_0 : List (Nat × Instr × Nat) := [(0, .aload_n 0, 1), (1, .getfield 24, 3), (4, .iload_n 1, 1), (5, .iconst 1, 1), (6, .iadd, 1), (7, .laload, 1), (8, .aload_n 0, 1), (9, .getfield 24, 3), (12, .iload_n 1, 1), (13, .laload, 1), (14, .lsub, 1), (15, .lstore 6, 2), (17, .aload_n 0, 1), (18, .getfield 28, 3), (21, .iload_n 1, 1), (22, .iconst 1, 1), (23, .iadd, 1), (24, .laload, 1), (25, .aload_n 0, 1), (26, .getfield 28, 3), (29, .iload_n 1, 1), (30, .laload, 1), (31, .lsub, 1), (32, .lstore 8, 2), (34, .lload 6, 2), (36, .lload 4, 2), (38, .aload_n 0, 1), (39, .getfield 28, 3), (42, .iload_n 1, 1), (43, .laload, 1), (44, .lsub, 1), (45, .lmul, 1), (46, .lload 8, 2), (48, .lload_n 2, 1), (49, .aload_n 0, 1), (50, .getfield 24, 3), (53, .iload_n 1, 1), (54, .laload, 1), (55, .lsub, 1), (56, .lmul, 1), (57, .lsub, 1), (58, .lreturn, 1)]
theorem ok_tb_S_turn_0 : dOk prog_4_method_15_code tb_S_turn_0 = true := by decide +kernel
theorem d_S_turn_0 : decode prog_4_method_15_code 0 = .ok (.aload_n 0, 1) := dOk_get (q := (0, .aload_n 0, 1)) ok_tb_S_turn_0 0 rfl
theorem d_S_turn_1 : decode prog_4_method_15_code 1 = .ok (.getfield 24, 3) := dOk_get (q := (1, .getfield 24, 3)) ok_tb_S_turn_0 1 rfl
theorem d_S_turn_4 : decode prog_4_method_15_code 4 = .ok (.iload_n 1, 1) := dOk_get (q := (4, .iload_n 1, 1)) ok_tb_S_turn_0 2 rfl
theorem d_S_turn_5 : decode prog_4_method_15_code 5 = .ok (.iconst 1, 1) := dOk_get (q := (5, .iconst 1, 1)) ok_tb_S_turn_0 3 rfl
theorem d_S_turn_6 : decode prog_4_method_15_code 6 = .ok (.iadd, 1) := dOk_get (q := (6, .iadd, 1)) ok_tb_S_turn_0 4 rfl
theorem d_S_turn_7 : decode prog_4_method_15_code 7 = .ok (.laload, 1) := dOk_get (q := (7, .laload, 1)) ok_tb_S_turn_0 5 rfl
theorem d_S_turn_8 : decode prog_4_method_15_code 8 = .ok (.aload_n 0, 1) := dOk_get (q := (8, .aload_n 0, 1)) ok_tb_S_turn_0 6 rfl
theorem d_S_turn_9 : decode prog_4_method_15_code 9 = .ok (.getfield 24, 3) := dOk_get (q := (9, .getfield 24, 3)) ok_tb_S_turn_0 7 rfl
theorem d_S_turn_12 : decode prog_4_method_15_code 12 = .ok (.iload_n 1, 1) := dOk_get (q := (12, .iload_n 1, 1)) ok_tb_S_turn_0 8 rfl
theorem d_S_turn_13 : decode prog_4_method_15_code 13 = .ok (.laload, 1) := dOk_get (q := (13, .laload, 1)) ok_tb_S_turn_0 9 rfl
theorem d_S_turn_14 : decode prog_4_method_15_code 14 = .ok (.lsub, 1) := dOk_get (q := (14, .lsub, 1)) ok_tb_S_turn_0 10 rfl
theorem d_S_turn_15 : decode prog_4_method_15_code 15 = .ok (.lstore 6, 2) := dOk_get (q := (15, .lstore 6, 2)) ok_tb_S_turn_0 11 rfl
theorem d_S_turn_17 : decode prog_4_method_15_code 17 = .ok (.aload_n 0, 1) := dOk_get (q := (17, .aload_n 0, 1)) ok_tb_S_turn_0 12 rfl
theorem d_S_turn_18 : decode prog_4_method_15_code 18 = .ok (.getfield 28, 3) := dOk_get (q := (18, .getfield 28, 3)) ok_tb_S_turn_0 13 rfl
theorem d_S_turn_21 : decode prog_4_method_15_code 21 = .ok (.iload_n 1, 1) := dOk_get (q := (21, .iload_n 1, 1)) ok_tb_S_turn_0 14 rfl
theorem d_S_turn_22 : decode prog_4_method_15_code 22 = .ok (.iconst 1, 1) := dOk_get (q := (22, .iconst 1, 1)) ok_tb_S_turn_0 15 rfl
theorem d_S_turn_23 : decode prog_4_method_15_code 23 = .ok (.iadd, 1) := dOk_get (q := (23, .iadd, 1)) ok_tb_S_turn_0 16 rfl
theorem d_S_turn_24 : decode prog_4_method_15_code 24 = .ok (.laload, 1) := dOk_get (q := (24, .laload, 1)) ok_tb_S_turn_0 17 rfl
theorem d_S_turn_25 : decode prog_4_method_15_code 25 = .ok (.aload_n 0, 1) := dOk_get (q := (25, .aload_n 0, 1)) ok_tb_S_turn_0 18 rfl
theorem d_S_turn_26 : decode prog_4_method_15_code 26 = .ok (.getfield 28, 3) := dOk_get (q := (26, .getfield 28, 3)) ok_tb_S_turn_0 19 rfl
theorem d_S_turn_29 : decode prog_4_method_15_code 29 = .ok (.iload_n 1, 1) := dOk_get (q := (29, .iload_n 1, 1)) ok_tb_S_turn_0 20 rfl
theorem d_S_turn_30 : decode prog_4_method_15_code 30 = .ok (.laload, 1) := dOk_get (q := (30, .laload, 1)) ok_tb_S_turn_0 21 rfl
theorem d_S_turn_31 : decode prog_4_method_15_code 31 = .ok (.lsub, 1) := dOk_get (q := (31, .lsub, 1)) ok_tb_S_turn_0 22 rfl
theorem d_S_turn_32 : decode prog_4_method_15_code 32 = .ok (.lstore 8, 2) := dOk_get (q := (32, .lstore 8, 2)) ok_tb_S_turn_0 23 rfl
theorem d_S_turn_34 : decode prog_4_method_15_code 34 = .ok (.lload 6, 2) := dOk_get (q := (34, .lload 6, 2)) ok_tb_S_turn_0 24 rfl
theorem d_S_turn_36 : decode prog_4_method_15_code 36 = .ok (.lload 4, 2) := dOk_get (q := (36, .lload 4, 2)) ok_tb_S_turn_0 25 rfl
theorem d_S_turn_38 : decode prog_4_method_15_code 38 = .ok (.aload_n 0, 1) := dOk_get (q := (38, .aload_n 0, 1)) ok_tb_S_turn_0 26 rfl
theorem d_S_turn_39 : decode prog_4_method_15_code 39 = .ok (.getfield 28, 3) := dOk_get (q := (39, .getfield 28, 3)) ok_tb_S_turn_0 27 rfl
theorem d_S_turn_42 : decode prog_4_method_15_code 42 = .ok (.iload_n 1, 1) := dOk_get (q := (42, .iload_n 1, 1)) ok_tb_S_turn_0 28 rfl
theorem d_S_turn_43 : decode prog_4_method_15_code 43 = .ok (.laload, 1) := dOk_get (q := (43, .laload, 1)) ok_tb_S_turn_0 29 rfl
theorem d_S_turn_44 : decode prog_4_method_15_code 44 = .ok (.lsub, 1) := dOk_get (q := (44, .lsub, 1)) ok_tb_S_turn_0 30 rfl
theorem d_S_turn_45 : decode prog_4_method_15_code 45 = .ok (.lmul, 1) := dOk_get (q := (45, .lmul, 1)) ok_tb_S_turn_0 31 rfl
theorem d_S_turn_46 : decode prog_4_method_15_code 46 = .ok (.lload 8, 2) := dOk_get (q := (46, .lload 8, 2)) ok_tb_S_turn_0 32 rfl
theorem d_S_turn_48 : decode prog_4_method_15_code 48 = .ok (.lload_n 2, 1) := dOk_get (q := (48, .lload_n 2, 1)) ok_tb_S_turn_0 33 rfl
theorem d_S_turn_49 : decode prog_4_method_15_code 49 = .ok (.aload_n 0, 1) := dOk_get (q := (49, .aload_n 0, 1)) ok_tb_S_turn_0 34 rfl
theorem d_S_turn_50 : decode prog_4_method_15_code 50 = .ok (.getfield 24, 3) := dOk_get (q := (50, .getfield 24, 3)) ok_tb_S_turn_0 35 rfl
theorem d_S_turn_53 : decode prog_4_method_15_code 53 = .ok (.iload_n 1, 1) := dOk_get (q := (53, .iload_n 1, 1)) ok_tb_S_turn_0 36 rfl
theorem d_S_turn_54 : decode prog_4_method_15_code 54 = .ok (.laload, 1) := dOk_get (q := (54, .laload, 1)) ok_tb_S_turn_0 37 rfl
theorem d_S_turn_55 : decode prog_4_method_15_code 55 = .ok (.lsub, 1) := dOk_get (q := (55, .lsub, 1)) ok_tb_S_turn_0 38 rfl
theorem d_S_turn_56 : decode prog_4_method_15_code 56 = .ok (.lmul, 1) := dOk_get (q := (56, .lmul, 1)) ok_tb_S_turn_0 39 rfl
theorem d_S_turn_57 : decode prog_4_method_15_code 57 = .ok (.lsub, 1) := dOk_get (q := (57, .lsub, 1)) ok_tb_S_turn_0 40 rfl
theorem d_S_turn_58 : decode prog_4_method_15_code 58 = .ok (.lreturn, 1) := dOk_get (q := (58, .lreturn, 1)) ok_tb_S_turn_0 41 rfl
def tb_F_sort_0 : List (Nat × Instr × Nat) := [(0, .iconst 1, 1), (1, .istore_n 1, 1), (2, .iload_n 1, 1), (3, .aload_n 0, 1), (4, .getfield 15, 3), (7, .if_icmp .ge 12, 3), (10, .iconst 3, 1), (11, .iload_n 1, 1), (12, .imul, 1), (13, .iconst 1, 1), (14, .iadd, 1), (15, .istore_n 1, 1), (16, .goto (-14), 3), (19, .iload_n 1, 1), (20, .iconst 1, 1), (21, .if_icmp .lt 32, 3), (24, .iload_n 1, 1), (25, .istore_n 2, 1), (26, .iload_n 2, 1), (27, .aload_n 0, 1), (28, .getfield 15, 3), (31, .if_icmp .ge 15, 3), (34, .aload_n 0, 1), (35, .iload_n 2, 1), (36, .iload_n 1, 1), (37, .invokevirtual 35, 3), (40, .iinc 2 1, 3), (43, .goto (-17), 3), (46, .iload_n 1, 1), (47, .iconst 3, 1), (48, .idiv, 1), (49, .istore_n 1, 1), (50, .goto (-31), 3), (53, .return_, 1)]
theorem ok_tb_F_sort_0 : dOk prog_2_method_4_code tb_F_sort_0 = true := by decide +kernel
theorem d_F_sort_0 : decode prog_2_method_4_code 0 = .ok (.iconst 1, 1) := dOk_get (q := (0, .iconst 1, 1)) ok_tb_F_sort_0 0 rfl
theorem d_F_sort_1 : decode prog_2_method_4_code 1 = .ok (.istore_n 1, 1) := dOk_get (q := (1, .istore_n 1, 1)) ok_tb_F_sort_0 1 rfl
theorem d_F_sort_2 : decode prog_2_method_4_code 2 = .ok (.iload_n 1, 1) := dOk_get (q := (2, .iload_n 1, 1)) ok_tb_F_sort_0 2 rfl
theorem d_F_sort_3 : decode prog_2_method_4_code 3 = .ok (.aload_n 0, 1) := dOk_get (q := (3, .aload_n 0, 1)) ok_tb_F_sort_0 3 rfl
theorem d_F_sort_4 : decode prog_2_method_4_code 4 = .ok (.getfield 15, 3) := dOk_get (q := (4, .getfield 15, 3)) ok_tb_F_sort_0 4 rfl
theorem d_F_sort_7 : decode prog_2_method_4_code 7 = .ok (.if_icmp .ge 12, 3) := dOk_get (q := (7, .if_icmp .ge 12, 3)) ok_tb_F_sort_0 5 rfl
theorem d_F_sort_10 : decode prog_2_method_4_code 10 = .ok (.iconst 3, 1) := dOk_get (q := (10, .iconst 3, 1)) ok_tb_F_sort_0 6 rfl
theorem d_F_sort_11 : decode prog_2_method_4_code 11 = .ok (.iload_n 1, 1) := dOk_get (q := (11, .iload_n 1, 1)) ok_tb_F_sort_0 7 rfl
theorem d_F_sort_12 : decode prog_2_method_4_code 12 = .ok (.imul, 1) := dOk_get (q := (12, .imul, 1)) ok_tb_F_sort_0 8 rfl
theorem d_F_sort_13 : decode prog_2_method_4_code 13 = .ok (.iconst 1, 1) := dOk_get (q := (13, .iconst 1, 1)) ok_tb_F_sort_0 9 rfl
theorem d_F_sort_14 : decode prog_2_method_4_code 14 = .ok (.iadd, 1) := dOk_get (q := (14, .iadd, 1)) ok_tb_F_sort_0 10 rfl
theorem d_F_sort_15 : decode prog_2_method_4_code 15 = .ok (.istore_n 1, 1) := dOk_get (q := (15, .istore_n 1, 1)) ok_tb_F_sort_0 11 rfl
theorem d_F_sort_16 : decode prog_2_method_4_code 16 = .ok (.goto (-14), 3) := dOk_get (q := (16, .goto (-14), 3)) ok_tb_F_sort_0 12 rfl
theorem d_F_sort_19 : decode prog_2_method_4_code 19 = .ok (.iload_n 1, 1) := dOk_get (q := (19, .iload_n 1, 1)) ok_tb_F_sort_0 13 rfl
theorem d_F_sort_20 : decode prog_2_method_4_code 20 = .ok (.iconst 1, 1) := dOk_get (q := (20, .iconst 1, 1)) ok_tb_F_sort_0 14 rfl
theorem d_F_sort_21 : decode prog_2_method_4_code 21 = .ok (.if_icmp .lt 32, 3) := dOk_get (q := (21, .if_icmp .lt 32, 3)) ok_tb_F_sort_0 15 rfl
theorem d_F_sort_24 : decode prog_2_method_4_code 24 = .ok (.iload_n 1, 1) := dOk_get (q := (24, .iload_n 1, 1)) ok_tb_F_sort_0 16 rfl
theorem d_F_sort_25 : decode prog_2_method_4_code 25 = .ok (.istore_n 2, 1) := dOk_get (q := (25, .istore_n 2, 1)) ok_tb_F_sort_0 17 rfl
theorem d_F_sort_26 : decode prog_2_method_4_code 26 = .ok (.iload_n 2, 1) := dOk_get (q := (26, .iload_n 2, 1)) ok_tb_F_sort_0 18 rfl
theorem d_F_sort_27 : decode prog_2_method_4_code 27 = .ok (.aload_n 0, 1) := dOk_get (q := (27, .aload_n 0, 1)) ok_tb_F_sort_0 19 rfl
theorem d_F_sort_28 : decode prog_2_method_4_code 28 = .ok (.getfield 15, 3) := dOk_get (q := (28, .getfield 15, 3)) ok_tb_F_sort_0 20 rfl
theorem d_F_sort_31 : decode prog_2_method_4_code 31 = .ok (.if_icmp .ge 15, 3) := dOk_get (q := (31, .if_icmp .ge 15, 3)) ok_tb_F_sort_0 21 rfl
theorem d_F_sort_34 : decode prog_2_method_4_code 34 = .ok (.aload_n 0, 1) := dOk_get (q := (34, .aload_n 0, 1)) ok_tb_F_sort_0 22 rfl
theorem d_F_sort_35 : decode prog_2_method_4_code 35 = .ok (.iload_n 2, 1) := dOk_get (q := (35, .iload_n 2, 1)) ok_tb_F_sort_0 23 rfl
theorem d_F_sort_36 : decode prog_2_method_4_code 36 = .ok (.iload_n 1, 1) := dOk_get (q := (36, .iload_n 1, 1)) ok_tb_F_sort_0 24 rfl
theorem d_F_sort_37 : decode prog_2_method_4_code 37 = .ok (.invokevirtual 35, 3) := dOk_get (q := (37, .invokevirtual 35, 3)) ok_tb_F_sort_0 25 rfl
theorem d_F_sort_40 : decode prog_2_method_4_code 40 = .ok (.iinc 2 1, 3) := dOk_get (q := (40, .iinc 2 1, 3)) ok_tb_F_sort_0 26 rfl
theorem d_F_sort_43 : decode prog_2_method_4_code 43 = .ok (.goto (-17), 3) := dOk_get (q := (43, .goto (-17), 3)) ok_tb_F_sort_0 27 rfl
theorem d_F_sort_46 : decode prog_2_method_4_code 46 = .ok (.iload_n 1, 1) := dOk_get (q := (46, .iload_n 1, 1)) ok_tb_F_sort_0 28 rfl
theorem d_F_sort_47 : decode prog_2_method_4_code 47 = .ok (.iconst 3, 1) := dOk_get (q := (47, .iconst 3, 1)) ok_tb_F_sort_0 29 rfl
theorem d_F_sort_48 : decode prog_2_method_4_code 48 = .ok (.idiv, 1) := dOk_get (q := (48, .idiv, 1)) ok_tb_F_sort_0 30 rfl
theorem d_F_sort_49 : decode prog_2_method_4_code 49 = .ok (.istore_n 1, 1) := dOk_get (q := (49, .istore_n 1, 1)) ok_tb_F_sort_0 31 rfl
theorem d_F_sort_50 : decode prog_2_method_4_code 50 = .ok (.goto (-31), 3) := dOk_get (q := (50, .goto (-31), 3)) ok_tb_F_sort_0 32 rfl
theorem d_F_sort_53 : decode prog_2_method_4_code 53 = .ok (.return_, 1) := dOk_get (q := (53, .return_, 1)) ok_tb_F_sort_0 33 rfl
def tb_F_sink_0 : List (Nat × Instr × Nat) := [(0, .aload_n 0, 1), (1, .getfield 11, 3), (4, .iload_n 1, 1), (5, .laload, 1), (6, .lstore_n 3, 1), (7, .iload_n 1, 1), (8, .istore 5, 2), (10, .iload 5, 2), (12, .iload_n 2, 1), (13, .if_icmp .lt 42, 3), (16, .aload_n 0, 1), (17, .getfield 11, 3), (20, .iload 5, 2), (22, .iload_n 2, 1), (23, .isub, 1), (24, .laload, 1), (25, .lload_n 3, 1), (26, .lcmp, 1), (27, .ifCond .le 28, 3), (30, .aload_n 0, 1), (31, .getfield 11, 3), (34, .iload 5, 2), (36, .aload_n 0, 1), (37, .getfield 11, 3), (40, .iload 5, 2), (42, .iload_n 2, 1), (43, .isub, 1), (44, .laload, 1), (45, .lastore, 1), (46, .iload 5, 2), (48, .iload_n 2, 1), (49, .isub, 1), (50, .istore 5, 2), (52, .goto (-42), 3), (55, .aload_n 0, 1), (56, .getfield 11, 3), (59, .iload 5, 2), (61, .lload_n 3, 1), (62, .lastore, 1), (63, .return_, 1)]
theorem ok_tb_F_sink_0 : dOk prog_2_method_5_code tb_F_sink_0 = true := by decide +kernel
theorem d_F_sink_0 : decode prog_2_method_5_code 0 = .ok (.aload_n 0, 1) := dOk_get (q := (0, .aload_n 0, 1)) ok_tb_F_sink_0 0 rfl
theorem d_F_sink_1 : decode prog_2_method_5_code 1 = .ok (.getfield 11, 3) := dOk_get (q := (1, .getfield 11, 3)) ok_tb_F_sink_0 1 rfl
theorem d_F_sink_4 : decode prog_2_method_5_code 4 = .ok (.iload_n 1, 1) := dOk_get (q := (4, .iload_n 1, 1)) ok_tb_F_sink_0 2 rfl
theorem d_F_sink_5 : decode prog_2_method_5_code 5 = .ok (.laload, 1) := dOk_get (q := (5, .laload, 1)) ok_tb_F_sink_0 3 rfl
theorem d_F_sink_6 : decode prog_2_method_5_code 6 = .ok (.lstore_n 3, 1) := dOk_get (q := (6, .lstore_n 3, 1)) ok_tb_F_sink_0 4 rfl
theorem d_F_sink_7 : decode prog_2_method_5_code 7 = .ok (.iload_n 1, 1) := dOk_get (q := (7, .iload_n 1, 1)) ok_tb_F_sink_0 5 rfl
theorem d_F_sink_8 : decode prog_2_method_5_code 8 = .ok (.istore 5, 2) := dOk_get (q := (8, .istore 5, 2)) ok_tb_F_sink_0 6 rfl
theorem d_F_sink_10 : decode prog_2_method_5_code 10 = .ok (.iload 5, 2) := dOk_get (q := (10, .iload 5, 2)) ok_tb_F_sink_0 7 rfl
theorem d_F_sink_12 : decode prog_2_method_5_code 12 = .ok (.iload_n 2, 1) := dOk_get (q := (12, .iload_n 2, 1)) ok_tb_F_sink_0 8 rfl
theorem d_F_sink_13 : decode prog_2_method_5_code 13 = .ok (.if_icmp .lt 42, 3) := dOk_get (q := (13, .if_icmp .lt 42, 3)) ok_tb_F_sink_0 9 rfl
theorem d_F_sink_16 : decode prog_2_method_5_code 16 = .ok (.aload_n 0, 1) := dOk_get (q := (16, .aload_n 0, 1)) ok_tb_F_sink_0 10 rfl
theorem d_F_sink_17 : decode prog_2_method_5_code 17 = .ok (.getfield 11, 3) := dOk_get (q := (17, .getfield 11, 3)) ok_tb_F_sink_0 11 rfl
theorem d_F_sink_20 : decode prog_2_method_5_code 20 = .ok (.iload 5, 2) := dOk_get (q := (20, .iload 5, 2)) ok_tb_F_sink_0 12 rfl
theorem d_F_sink_22 : decode prog_2_method_5_code 22 = .ok (.iload_n 2, 1) := dOk_get (q := (22, .iload_n 2, 1)) ok_tb_F_sink_0 13 rfl
theorem d_F_sink_23 : decode prog_2_method_5_code 23 = .ok (.isub, 1) := dOk_get (q := (23, .isub, 1)) ok_tb_F_sink_0 14 rfl
theorem d_F_sink_24 : decode prog_2_method_5_code 24 = .ok (.laload, 1) := dOk_get (q := (24, .laload, 1)) ok_tb_F_sink_0 15 rfl
theorem d_F_sink_25 : decode prog_2_method_5_code 25 = .ok (.lload_n 3, 1) := dOk_get (q := (25, .lload_n 3, 1)) ok_tb_F_sink_0 16 rfl
theorem d_F_sink_26 : decode prog_2_method_5_code 26 = .ok (.lcmp, 1) := dOk_get (q := (26, .lcmp, 1)) ok_tb_F_sink_0 17 rfl
theorem d_F_sink_27 : decode prog_2_method_5_code 27 = .ok (.ifCond .le 28, 3) := dOk_get (q := (27, .ifCond .le 28, 3)) ok_tb_F_sink_0 18 rfl
theorem d_F_sink_30 : decode prog_2_method_5_code 30 = .ok (.aload_n 0, 1) := dOk_get (q := (30, .aload_n 0, 1)) ok_tb_F_sink_0 19 rfl
theorem d_F_sink_31 : decode prog_2_method_5_code 31 = .ok (.getfield 11, 3) := dOk_get (q := (31, .getfield 11, 3)) ok_tb_F_sink_0 20 rfl
theorem d_F_sink_34 : decode prog_2_method_5_code 34 = .ok (.iload 5, 2) := dOk_get (q := (34, .iload 5, 2)) ok_tb_F_sink_0 21 rfl
theorem d_F_sink_36 : decode prog_2_method_5_code 36 = .ok (.aload_n 0, 1) := dOk_get (q := (36, .aload_n 0, 1)) ok_tb_F_sink_0 22 rfl
theorem d_F_sink_37 : decode prog_2_method_5_code 37 = .ok (.getfield 11, 3) := dOk_get (q := (37, .getfield 11, 3)) ok_tb_F_sink_0 23 rfl
theorem d_F_sink_40 : decode prog_2_method_5_code 40 = .ok (.iload 5, 2) := dOk_get (q := (40, .iload 5, 2)) ok_tb_F_sink_0 24 rfl
theorem d_F_sink_42 : decode prog_2_method_5_code 42 = .ok (.iload_n 2, 1) := dOk_get (q := (42, .iload_n 2, 1)) ok_tb_F_sink_0 25 rfl
theorem d_F_sink_43 : decode prog_2_method_5_code 43 = .ok (.isub, 1) := dOk_get (q := (43, .isub, 1)) ok_tb_F_sink_0 26 rfl
theorem d_F_sink_44 : decode prog_2_method_5_code 44 = .ok (.laload, 1) := dOk_get (q := (44, .laload, 1)) ok_tb_F_sink_0 27 rfl
theorem d_F_sink_45 : decode prog_2_method_5_code 45 = .ok (.lastore, 1) := dOk_get (q := (45, .lastore, 1)) ok_tb_F_sink_0 28 rfl
theorem d_F_sink_46 : decode prog_2_method_5_code 46 = .ok (.iload 5, 2) := dOk_get (q := (46, .iload 5, 2)) ok_tb_F_sink_0 29 rfl
theorem d_F_sink_48 : decode prog_2_method_5_code 48 = .ok (.iload_n 2, 1) := dOk_get (q := (48, .iload_n 2, 1)) ok_tb_F_sink_0 30 rfl
theorem d_F_sink_49 : decode prog_2_method_5_code 49 = .ok (.isub, 1) := dOk_get (q := (49, .isub, 1)) ok_tb_F_sink_0 31 rfl
theorem d_F_sink_50 : decode prog_2_method_5_code 50 = .ok (.istore 5, 2) := dOk_get (q := (50, .istore 5, 2)) ok_tb_F_sink_0 32 rfl
theorem d_F_sink_52 : decode prog_2_method_5_code 52 = .ok (.goto (-42), 3) := dOk_get (q := (52, .goto (-42), 3)) ok_tb_F_sink_0 33 rfl
theorem d_F_sink_55 : decode prog_2_method_5_code 55 = .ok (.aload_n 0, 1) := dOk_get (q := (55, .aload_n 0, 1)) ok_tb_F_sink_0 34 rfl
theorem d_F_sink_56 : decode prog_2_method_5_code 56 = .ok (.getfield 11, 3) := dOk_get (q := (56, .getfield 11, 3)) ok_tb_F_sink_0 35 rfl
theorem d_F_sink_59 : decode prog_2_method_5_code 59 = .ok (.iload 5, 2) := dOk_get (q := (59, .iload 5, 2)) ok_tb_F_sink_0 36 rfl
theorem d_F_sink_61 : decode prog_2_method_5_code 61 = .ok (.lload_n 3, 1) := dOk_get (q := (61, .lload_n 3, 1)) ok_tb_F_sink_0 37 rfl
theorem d_F_sink_62 : decode prog_2_method_5_code 62 = .ok (.lastore, 1) := dOk_get (q := (62, .lastore, 1)) ok_tb_F_sink_0 38 rfl
theorem d_F_sink_63 : decode prog_2_method_5_code 63 = .ok (.return_, 1) := dOk_get (q := (63, .return_, 1)) ok_tb_F_sink_0 39 rfl
def tb_F_sameAs_0 : List (Nat × Instr × Nat) := [(0, .aload_n 0, 1), (1, .getfield 15, 3), (4, .aload_n 1, 1), (5, .getfield 15, 3), (8, .if_icmp .eq 5, 3), (11, .iconst 0, 1), (12, .ireturn, 1), (13, .iconst 0, 1), (14, .istore_n 2, 1), (15, .iload_n 2, 1), (16, .aload_n 0, 1), (17, .getfield 15, 3), (20, .if_icmp .ge 27, 3), (23, .aload_n 0, 1), (24, .getfield 11, 3), (27, .iload_n 2, 1), (28, .laload, 1), (29, .aload_n 1, 1), (30, .getfield 11, 3), (33, .iload_n 2, 1), (34, .laload, 1), (35, .lcmp, 1), (36, .ifCond .eq 5, 3), (39, .iconst 0, 1), (40, .ireturn, 1), (41, .iinc 2 1, 3), (44, .goto (-29), 3), (47, .iconst 1, 1), (48, .ireturn, 1)]
theorem ok_tb_F_sameAs_0 : dOk prog_2_method_6_code tb_F_sameAs_0 = true := by decide +kernel
theorem d_F_sameAs_0 : decode prog_2_method_6_code 0 = .ok (.aload_n 0, 1) := dOk_get (q := (0, .aload_n 0, 1)) ok_tb_F_sameAs_0 0 rfl
theorem d_F_sameAs_1 : decode prog_2_method_6_code 1 = .ok (.getfield 15, 3) := dOk_get (q := (1, .getfield 15, 3)) ok_tb_F_sameAs_0 1 rfl
theorem d_F_sameAs_4 : decode prog_2_method_6_code 4 = .ok (.aload_n 1, 1) := dOk_get (q := (4, .aload_n 1, 1)) ok_tb_F_sameAs_0 2 rfl
theorem d_F_sameAs_5 : decode prog_2_method_6_code 5 = .ok (.getfield 15, 3) := dOk_get (q := (5, .getfield 15, 3)) ok_tb_F_sameAs_0 3 rfl
theorem d_F_sameAs_8 : decode prog_2_method_6_code 8 = .ok (.if_icmp .eq 5, 3) := dOk_get (q := (8, .if_icmp .eq 5, 3)) ok_tb_F_sameAs_0 4 rfl
theorem d_F_sameAs_11 : decode prog_2_method_6_code 11 = .ok (.iconst 0, 1) := dOk_get (q := (11, .iconst 0, 1)) ok_tb_F_sameAs_0 5 rfl
theorem d_F_sameAs_12 : decode prog_2_method_6_code 12 = .ok (.ireturn, 1) := dOk_get (q := (12, .ireturn, 1)) ok_tb_F_sameAs_0 6 rfl
theorem d_F_sameAs_13 : decode prog_2_method_6_code 13 = .ok (.iconst 0, 1) := dOk_get (q := (13, .iconst 0, 1)) ok_tb_F_sameAs_0 7 rfl
theorem d_F_sameAs_14 : decode prog_2_method_6_code 14 = .ok (.istore_n 2, 1) := dOk_get (q := (14, .istore_n 2, 1)) ok_tb_F_sameAs_0 8 rfl
theorem d_F_sameAs_15 : decode prog_2_method_6_code 15 = .ok (.iload_n 2, 1) := dOk_get (q := (15, .iload_n 2, 1)) ok_tb_F_sameAs_0 9 rfl
theorem d_F_sameAs_16 : decode prog_2_method_6_code 16 = .ok (.aload_n 0, 1) := dOk_get (q := (16, .aload_n 0, 1)) ok_tb_F_sameAs_0 10 rfl
theorem d_F_sameAs_17 : decode prog_2_method_6_code 17 = .ok (.getfield 15, 3) := dOk_get (q := (17, .getfield 15, 3)) ok_tb_F_sameAs_0 11 rfl
theorem d_F_sameAs_20 : decode prog_2_method_6_code 20 = .ok (.if_icmp .ge 27, 3) := dOk_get (q := (20, .if_icmp .ge 27, 3)) ok_tb_F_sameAs_0 12 rfl
theorem d_F_sameAs_23 : decode prog_2_method_6_code 23 = .ok (.aload_n 0, 1) := dOk_get (q := (23, .aload_n 0, 1)) ok_tb_F_sameAs_0 13 rfl
theorem d_F_sameAs_24 : decode prog_2_method_6_code 24 = .ok (.getfield 11, 3) := dOk_get (q := (24, .getfield 11, 3)) ok_tb_F_sameAs_0 14 rfl
theorem d_F_sameAs_27 : decode prog_2_method_6_code 27 = .ok (.iload_n 2, 1) := dOk_get (q := (27, .iload_n 2, 1)) ok_tb_F_sameAs_0 15 rfl
theorem d_F_sameAs_28 : decode prog_2_method_6_code 28 = .ok (.laload, 1) := dOk_get (q := (28, .laload, 1)) ok_tb_F_sameAs_0 16 rfl
theorem d_F_sameAs_29 : decode prog_2_method_6_code 29 = .ok (.aload_n 1, 1) := dOk_get (q := (29, .aload_n 1, 1)) ok_tb_F_sameAs_0 17 rfl
theorem d_F_sameAs_30 : decode prog_2_method_6_code 30 = .ok (.getfield 11, 3) := dOk_get (q := (30, .getfield 11, 3)) ok_tb_F_sameAs_0 18 rfl
theorem d_F_sameAs_33 : decode prog_2_method_6_code 33 = .ok (.iload_n 2, 1) := dOk_get (q := (33, .iload_n 2, 1)) ok_tb_F_sameAs_0 19 rfl
theorem d_F_sameAs_34 : decode prog_2_method_6_code 34 = .ok (.laload, 1) := dOk_get (q := (34, .laload, 1)) ok_tb_F_sameAs_0 20 rfl
theorem d_F_sameAs_35 : decode prog_2_method_6_code 35 = .ok (.lcmp, 1) := dOk_get (q := (35, .lcmp, 1)) ok_tb_F_sameAs_0 21 rfl
theorem d_F_sameAs_36 : decode prog_2_method_6_code 36 = .ok (.ifCond .eq 5, 3) := dOk_get (q := (36, .ifCond .eq 5, 3)) ok_tb_F_sameAs_0 22 rfl
theorem d_F_sameAs_39 : decode prog_2_method_6_code 39 = .ok (.iconst 0, 1) := dOk_get (q := (39, .iconst 0, 1)) ok_tb_F_sameAs_0 23 rfl
theorem d_F_sameAs_40 : decode prog_2_method_6_code 40 = .ok (.ireturn, 1) := dOk_get (q := (40, .ireturn, 1)) ok_tb_F_sameAs_0 24 rfl
theorem d_F_sameAs_41 : decode prog_2_method_6_code 41 = .ok (.iinc 2 1, 3) := dOk_get (q := (41, .iinc 2 1, 3)) ok_tb_F_sameAs_0 25 rfl
theorem d_F_sameAs_44 : decode prog_2_method_6_code 44 = .ok (.goto (-29), 3) := dOk_get (q := (44, .goto (-29), 3)) ok_tb_F_sameAs_0 26 rfl
theorem d_F_sameAs_47 : decode prog_2_method_6_code 47 = .ok (.iconst 1, 1) := dOk_get (q := (47, .iconst 1, 1)) ok_tb_F_sameAs_0 27 rfl
theorem d_F_sameAs_48 : decode prog_2_method_6_code 48 = .ok (.ireturn, 1) := dOk_get (q := (48, .ireturn, 1)) ok_tb_F_sameAs_0 28 rfl
def tb_F_kindOf_0 : List (Nat × Instr × Nat) := [(0, .aload_n 0, 1), (1, .iload_n 1, 1), (2, .bipush 12, 2), (4, .iconst 3, 1), (5, .invokevirtual 39, 3), (8, .l2i, 1), (9, .ireturn, 1)]
theorem ok_tb_F_kindOf_0 : dOk prog_2_method_7_code tb_F_kindOf_0 = true := by decide +kernel
theorem d_F_kindOf_0 : decode prog_2_method_7_code 0 = .ok (.aload_n 0, 1) := dOk_get (q := (0, .aload_n 0, 1)) ok_tb_F_kindOf_0 0 rfl
theorem d_F_kindOf_1 : decode prog_2_method_7_code 1 = .ok (.iload_n 1, 1) := dOk_get (q := (1, .iload_n 1, 1)) ok_tb_F_kindOf_0 1 rfl
theorem d_F_kindOf_2 : decode prog_2_method_7_code 2 = .ok (.bipush 12, 2) := dOk_get (q := (2, .bipush 12, 2)) ok_tb_F_kindOf_0 2 rfl
theorem d_F_kindOf_4 : decode prog_2_method_7_code 4 = .ok (.iconst 3, 1) := dOk_get (q := (4, .iconst 3, 1)) ok_tb_F_kindOf_0 3 rfl
theorem d_F_kindOf_5 : decode prog_2_method_7_code 5 = .ok (.invokevirtual 39, 3) := dOk_get (q := (5, .invokevirtual 39, 3)) ok_tb_F_kindOf_0 4 rfl
theorem d_F_kindOf_8 : decode prog_2_method_7_code 8 = .ok (.l2i, 1) := dOk_get (q := (8, .l2i, 1)) ok_tb_F_kindOf_0 5 rfl
theorem d_F_kindOf_9 : decode prog_2_method_7_code 9 = .ok (.ireturn, 1) := dOk_get (q := (9, .ireturn, 1)) ok_tb_F_kindOf_0 6 rfl
def tb_F_part_0 : List (Nat × Instr × Nat) := [(0, .aload_n 0, 1), (1, .getfield 11, 3), (4, .iload_n 1, 1), (5, .laload, 1), (6, .iload_n 2, 1), (7, .lshr, 1), (8, .lconst 1, 1), (9, .iload_n 3, 1), (10, .lshl, 1), (11, .lconst 1, 1), (12, .lsub, 1), (13, .land, 1), (14, .lreturn, 1)]
theorem ok_tb_F_part_0 : dOk prog_2_method_14_code tb_F_part_0 = true := by decide +kernel
theorem d_F_part_0 : decode prog_2_method_14_code 0 = .ok (.aload_n 0, 1) := dOk_get (q := (0, .aload_n 0, 1)) ok_tb_F_part_0 0 rfl
theorem d_F_part_1 : decode prog_2_method_14_code 1 = .ok (.getfield 11, 3) := dOk_get (q := (1, .getfield 11, 3)) ok_tb_F_part_0 1 rfl
theorem d_F_part_4 : decode prog_2_method_14_code 4 = .ok (.iload_n 1, 1) := dOk_get (q := (4, .iload_n 1, 1)) ok_tb_F_part_0 2 rfl
theorem d_F_part_5 : decode prog_2_method_14_code 5 = .ok (.laload, 1) := dOk_get (q := (5, .laload, 1)) ok_tb_F_part_0 3 rfl
theorem d_F_part_6 : decode prog_2_method_14_code 6 = .ok (.iload_n 2, 1) := dOk_get (q := (6, .iload_n 2, 1)) ok_tb_F_part_0 4 rfl
theorem d_F_part_7 : decode prog_2_method_14_code 7 = .ok (.lshr, 1) := dOk_get (q := (7, .lshr, 1)) ok_tb_F_part_0 5 rfl
theorem d_F_part_8 : decode prog_2_method_14_code 8 = .ok (.lconst 1, 1) := dOk_get (q := (8, .lconst 1, 1)) ok_tb_F_part_0 6 rfl
theorem d_F_part_9 : decode prog_2_method_14_code 9 = .ok (.iload_n 3, 1) := dOk_get (q := (9, .iload_n 3, 1)) ok_tb_F_part_0 7 rfl
theorem d_F_part_10 : decode prog_2_method_14_code 10 = .ok (.lshl, 1) := dOk_get (q := (10, .lshl, 1)) ok_tb_F_part_0 8 rfl
theorem d_F_part_11 : decode prog_2_method_14_code 11 = .ok (.lconst 1, 1) := dOk_get (q := (11, .lconst 1, 1)) ok_tb_F_part_0 9 rfl
theorem d_F_part_12 : decode prog_2_method_14_code 12 = .ok (.lsub, 1) := dOk_get (q := (12, .lsub, 1)) ok_tb_F_part_0 10 rfl
theorem d_F_part_13 : decode prog_2_method_14_code 13 = .ok (.land, 1) := dOk_get (q := (13, .land, 1)) ok_tb_F_part_0 11 rfl
theorem d_F_part_14 : decode prog_2_method_14_code 14 = .ok (.lreturn, 1) := dOk_get (q := (14, .lreturn, 1)) ok_tb_F_part_0 12 rfl
def tb_S_init_0 : List (Nat × Instr × Nat) := [(0, .aload_n 0, 1), (1, .invokespecial 5, 3), (4, .aload_n 0, 1), (5, .iload_n 1, 1), (6, .putfield 11, 3), (9, .aload_n 0, 1), (10, .iload_n 2, 1), (11, .putfield 15, 3), (14, .aload_n 0, 1), (15, .iload_n 3, 1), (16, .putfield 18, 3), (19, .aload_n 0, 1), (20, .iload 4, 2), (22, .putfield 21, 3), (25, .aload_n 0, 1), (26, .bipush 8, 2), (28, .newarray .long, 2), (30, .putfield 24, 3), (33, .aload_n 0, 1), (34, .bipush 8, 2), (36, .newarray .long, 2), (38, .putfield 28, 3), (41, .return_, 1)]
theorem ok_tb_S_init_0 : dOk prog_4_method_1_code tb_S_init_0 = true := by decide +kernel
theorem d_S_init_0 : decode prog_4_method_1_code 0 = .ok (.aload_n 0, 1) := dOk_get (q := (0, .aload_n 0, 1)) ok_tb_S_init_0 0 rfl
theorem d_S_init_1 : decode prog_4_method_1_code 1 = .ok (.invokespecial 5, 3) := dOk_get (q := (1, .invokespecial 5, 3)) ok_tb_S_init_0 1 rfl
theorem d_S_init_4 : decode prog_4_method_1_code 4 = .ok (.aload_n 0, 1) := dOk_get (q := (4, .aload_n 0, 1)) ok_tb_S_init_0 2 rfl
theorem d_S_init_5 : decode prog_4_method_1_code 5 = .ok (.iload_n 1, 1) := dOk_get (q := (5, .iload_n 1, 1)) ok_tb_S_init_0 3 rfl
theorem d_S_init_6 : decode prog_4_method_1_code 6 = .ok (.putfield 11, 3) := dOk_get (q := (6, .putfield 11, 3)) ok_tb_S_init_0 4 rfl
theorem d_S_init_9 : decode prog_4_method_1_code 9 = .ok (.aload_n 0, 1) := dOk_get (q := (9, .aload_n 0, 1)) ok_tb_S_init_0 5 rfl
theorem d_S_init_10 : decode prog_4_method_1_code 10 = .ok (.iload_n 2, 1) := dOk_get (q := (10, .iload_n 2, 1)) ok_tb_S_init_0 6 rfl
theorem d_S_init_11 : decode prog_4_method_1_code 11 = .ok (.putfield 15, 3) := dOk_get (q := (11, .putfield 15, 3)) ok_tb_S_init_0 7 rfl
theorem d_S_init_14 : decode prog_4_method_1_code 14 = .ok (.aload_n 0, 1) := dOk_get (q := (14, .aload_n 0, 1)) ok_tb_S_init_0 8 rfl
theorem d_S_init_15 : decode prog_4_method_1_code 15 = .ok (.iload_n 3, 1) := dOk_get (q := (15, .iload_n 3, 1)) ok_tb_S_init_0 9 rfl
theorem d_S_init_16 : decode prog_4_method_1_code 16 = .ok (.putfield 18, 3) := dOk_get (q := (16, .putfield 18, 3)) ok_tb_S_init_0 10 rfl
theorem d_S_init_19 : decode prog_4_method_1_code 19 = .ok (.aload_n 0, 1) := dOk_get (q := (19, .aload_n 0, 1)) ok_tb_S_init_0 11 rfl
theorem d_S_init_20 : decode prog_4_method_1_code 20 = .ok (.iload 4, 2) := dOk_get (q := (20, .iload 4, 2)) ok_tb_S_init_0 12 rfl
theorem d_S_init_22 : decode prog_4_method_1_code 22 = .ok (.putfield 21, 3) := dOk_get (q := (22, .putfield 21, 3)) ok_tb_S_init_0 13 rfl
theorem d_S_init_25 : decode prog_4_method_1_code 25 = .ok (.aload_n 0, 1) := dOk_get (q := (25, .aload_n 0, 1)) ok_tb_S_init_0 14 rfl
theorem d_S_init_26 : decode prog_4_method_1_code 26 = .ok (.bipush 8, 2) := dOk_get (q := (26, .bipush 8, 2)) ok_tb_S_init_0 15 rfl
theorem d_S_init_28 : decode prog_4_method_1_code 28 = .ok (.newarray .long, 2) := dOk_get (q := (28, .newarray .long, 2)) ok_tb_S_init_0 16 rfl
theorem d_S_init_30 : decode prog_4_method_1_code 30 = .ok (.putfield 24, 3) := dOk_get (q := (30, .putfield 24, 3)) ok_tb_S_init_0 17 rfl
theorem d_S_init_33 : decode prog_4_method_1_code 33 = .ok (.aload_n 0, 1) := dOk_get (q := (33, .aload_n 0, 1)) ok_tb_S_init_0 18 rfl
theorem d_S_init_34 : decode prog_4_method_1_code 34 = .ok (.bipush 8, 2) := dOk_get (q := (34, .bipush 8, 2)) ok_tb_S_init_0 19 rfl
theorem d_S_init_36 : decode prog_4_method_1_code 36 = .ok (.newarray .long, 2) := dOk_get (q := (36, .newarray .long, 2)) ok_tb_S_init_0 20 rfl
theorem d_S_init_38 : decode prog_4_method_1_code 38 = .ok (.putfield 28, 3) := dOk_get (q := (38, .putfield 28, 3)) ok_tb_S_init_0 21 rfl
theorem d_S_init_41 : decode prog_4_method_1_code 41 = .ok (.return_, 1) := dOk_get (q := (41, .return_, 1)) ok_tb_S_init_0 22 rfl
def tb_S_addCorner_0 : List (Nat × Instr × Nat) := [(0, .aload_n 0, 1), (1, .getfield 39, 3), (4, .ifCond .le 39, 3), (7, .aload_n 0, 1), (8, .getfield 24, 3), (11, .aload_n 0, 1), (12, .getfield 39, 3), (15, .iconst 1, 1), (16, .isub, 1), (17, .laload, 1), (18, .lload_n 1, 1), (19, .lcmp, 1), (20, .ifCond .ne 23, 3), (23, .aload_n 0, 1), (24, .getfield 28, 3), (27, .aload_n 0, 1), (28, .getfield 39, 3), (31, .iconst 1, 1), (32, .isub, 1), (33, .laload, 1), (34, .lload_n 3, 1), (35, .lcmp, 1), (36, .ifCond .ne 7, 3), (39, .iconst 1, 1), (40, .goto 4, 3), (43, .iconst 0, 1), (44, .istore 5, 2), (46, .iload 5, 2), (48, .ifCond .ne 12, 3), (51, .aload_n 0, 1), (52, .getfield 39, 3), (55, .bipush 8, 2), (57, .if_icmp .lt 5, 3), (60, .iconst 0, 1), (61, .ireturn, 1), (62, .aload_n 0, 1), (63, .getfield 24, 3), (66, .aload_n 0, 1), (67, .getfield 39, 3), (70, .lload_n 1, 1), (71, .lastore, 1), (72, .aload_n 0, 1), (73, .getfield 28, 3), (76, .aload_n 0, 1), (77, .getfield 39, 3), (80, .lload_n 3, 1), (81, .lastore, 1), (82, .aload_n 0, 1), (83, .dup, 1), (84, .getfield 39, 3), (87, .iconst 1, 1), (88, .iadd, 1), (89, .putfield 39, 3), (92, .iconst 1, 1), (93, .ireturn, 1)]
theorem ok_tb_S_addCorner_0 : dOk prog_4_method_6_code tb_S_addCorner_0 = true := by decide +kernel
theorem d_S_addCorner_0 : decode prog_4_method_6_code 0 = .ok (.aload_n 0, 1) := dOk_get (q := (0, .aload_n 0, 1)) ok_tb_S_addCorner_0 0 rfl
theorem d_S_addCorner_1 : decode prog_4_method_6_code 1 = .ok (.getfield 39, 3) := dOk_get (q := (1, .getfield 39, 3)) ok_tb_S_addCorner_0 1 rfl
theorem d_S_addCorner_4 : decode prog_4_method_6_code 4 = .ok (.ifCond .le 39, 3) := dOk_get (q := (4, .ifCond .le 39, 3)) ok_tb_S_addCorner_0 2 rfl
theorem d_S_addCorner_7 : decode prog_4_method_6_code 7 = .ok (.aload_n 0, 1) := dOk_get (q := (7, .aload_n 0, 1)) ok_tb_S_addCorner_0 3 rfl
theorem d_S_addCorner_8 : decode prog_4_method_6_code 8 = .ok (.getfield 24, 3) := dOk_get (q := (8, .getfield 24, 3)) ok_tb_S_addCorner_0 4 rfl
theorem d_S_addCorner_11 : decode prog_4_method_6_code 11 = .ok (.aload_n 0, 1) := dOk_get (q := (11, .aload_n 0, 1)) ok_tb_S_addCorner_0 5 rfl
theorem d_S_addCorner_12 : decode prog_4_method_6_code 12 = .ok (.getfield 39, 3) := dOk_get (q := (12, .getfield 39, 3)) ok_tb_S_addCorner_0 6 rfl
theorem d_S_addCorner_15 : decode prog_4_method_6_code 15 = .ok (.iconst 1, 1) := dOk_get (q := (15, .iconst 1, 1)) ok_tb_S_addCorner_0 7 rfl
theorem d_S_addCorner_16 : decode prog_4_method_6_code 16 = .ok (.isub, 1) := dOk_get (q := (16, .isub, 1)) ok_tb_S_addCorner_0 8 rfl
theorem d_S_addCorner_17 : decode prog_4_method_6_code 17 = .ok (.laload, 1) := dOk_get (q := (17, .laload, 1)) ok_tb_S_addCorner_0 9 rfl
theorem d_S_addCorner_18 : decode prog_4_method_6_code 18 = .ok (.lload_n 1, 1) := dOk_get (q := (18, .lload_n 1, 1)) ok_tb_S_addCorner_0 10 rfl
theorem d_S_addCorner_19 : decode prog_4_method_6_code 19 = .ok (.lcmp, 1) := dOk_get (q := (19, .lcmp, 1)) ok_tb_S_addCorner_0 11 rfl
theorem d_S_addCorner_20 : decode prog_4_method_6_code 20 = .ok (.ifCond .ne 23, 3) := dOk_get (q := (20, .ifCond .ne 23, 3)) ok_tb_S_addCorner_0 12 rfl
theorem d_S_addCorner_23 : decode prog_4_method_6_code 23 = .ok (.aload_n 0, 1) := dOk_get (q := (23, .aload_n 0, 1)) ok_tb_S_addCorner_0 13 rfl
theorem d_S_addCorner_24 : decode prog_4_method_6_code 24 = .ok (.getfield 28, 3) := dOk_get (q := (24, .getfield 28, 3)) ok_tb_S_addCorner_0 14 rfl
theorem d_S_addCorner_27 : decode prog_4_method_6_code 27 = .ok (.aload_n 0, 1) := dOk_get (q := (27, .aload_n 0, 1)) ok_tb_S_addCorner_0 15 rfl
theorem d_S_addCorner_28 : decode prog_4_method_6_code 28 = .ok (.getfield 39, 3) := dOk_get (q := (28, .getfield 39, 3)) ok_tb_S_addCorner_0 16 rfl
theorem d_S_addCorner_31 : decode prog_4_method_6_code 31 = .ok (.iconst 1, 1) := dOk_get (q := (31, .iconst 1, 1)) ok_tb_S_addCorner_0 17 rfl
theorem d_S_addCorner_32 : decode prog_4_method_6_code 32 = .ok (.isub, 1) := dOk_get (q := (32, .isub, 1)) ok_tb_S_addCorner_0 18 rfl
theorem d_S_addCorner_33 : decode prog_4_method_6_code 33 = .ok (.laload, 1) := dOk_get (q := (33, .laload, 1)) ok_tb_S_addCorner_0 19 rfl
theorem d_S_addCorner_34 : decode prog_4_method_6_code 34 = .ok (.lload_n 3, 1) := dOk_get (q := (34, .lload_n 3, 1)) ok_tb_S_addCorner_0 20 rfl
theorem d_S_addCorner_35 : decode prog_4_method_6_code 35 = .ok (.lcmp, 1) := dOk_get (q := (35, .lcmp, 1)) ok_tb_S_addCorner_0 21 rfl
theorem d_S_addCorner_36 : decode prog_4_method_6_code 36 = .ok (.ifCond .ne 7, 3) := dOk_get (q := (36, .ifCond .ne 7, 3)) ok_tb_S_addCorner_0 22 rfl
theorem d_S_addCorner_39 : decode prog_4_method_6_code 39 = .ok (.iconst 1, 1) := dOk_get (q := (39, .iconst 1, 1)) ok_tb_S_addCorner_0 23 rfl
theorem d_S_addCorner_40 : decode prog_4_method_6_code 40 = .ok (.goto 4, 3) := dOk_get (q := (40, .goto 4, 3)) ok_tb_S_addCorner_0 24 rfl
theorem d_S_addCorner_43 : decode prog_4_method_6_code 43 = .ok (.iconst 0, 1) := dOk_get (q := (43, .iconst 0, 1)) ok_tb_S_addCorner_0 25 rfl
theorem d_S_addCorner_44 : decode prog_4_method_6_code 44 = .ok (.istore 5, 2) := dOk_get (q := (44, .istore 5, 2)) ok_tb_S_addCorner_0 26 rfl
theorem d_S_addCorner_46 : decode prog_4_method_6_code 46 = .ok (.iload 5, 2) := dOk_get (q := (46, .iload 5, 2)) ok_tb_S_addCorner_0 27 rfl
theorem d_S_addCorner_48 : decode prog_4_method_6_code 48 = .ok (.ifCond .ne 12, 3) := dOk_get (q := (48, .ifCond .ne 12, 3)) ok_tb_S_addCorner_0 28 rfl
theorem d_S_addCorner_51 : decode prog_4_method_6_code 51 = .ok (.aload_n 0, 1) := dOk_get (q := (51, .aload_n 0, 1)) ok_tb_S_addCorner_0 29 rfl
theorem d_S_addCorner_52 : decode prog_4_method_6_code 52 = .ok (.getfield 39, 3) := dOk_get (q := (52, .getfield 39, 3)) ok_tb_S_addCorner_0 30 rfl
theorem d_S_addCorner_55 : decode prog_4_method_6_code 55 = .ok (.bipush 8, 2) := dOk_get (q := (55, .bipush 8, 2)) ok_tb_S_addCorner_0 31 rfl
theorem d_S_addCorner_57 : decode prog_4_method_6_code 57 = .ok (.if_icmp .lt 5, 3) := dOk_get (q := (57, .if_icmp .lt 5, 3)) ok_tb_S_addCorner_0 32 rfl
theorem d_S_addCorner_60 : decode prog_4_method_6_code 60 = .ok (.iconst 0, 1) := dOk_get (q := (60, .iconst 0, 1)) ok_tb_S_addCorner_0 33 rfl
theorem d_S_addCorner_61 : decode prog_4_method_6_code 61 = .ok (.ireturn, 1) := dOk_get (q := (61, .ireturn, 1)) ok_tb_S_addCorner_0 34 rfl
theorem d_S_addCorner_62 : decode prog_4_method_6_code 62 = .ok (.aload_n 0, 1) := dOk_get (q := (62, .aload_n 0, 1)) ok_tb_S_addCorner_0 35 rfl
theorem d_S_addCorner_63 : decode prog_4_method_6_code 63 = .ok (.getfield 24, 3) := dOk_get (q := (63, .getfield 24, 3)) ok_tb_S_addCorner_0 36 rfl
theorem d_S_addCorner_66 : decode prog_4_method_6_code 66 = .ok (.aload_n 0, 1) := dOk_get (q := (66, .aload_n 0, 1)) ok_tb_S_addCorner_0 37 rfl
theorem d_S_addCorner_67 : decode prog_4_method_6_code 67 = .ok (.getfield 39, 3) := dOk_get (q := (67, .getfield 39, 3)) ok_tb_S_addCorner_0 38 rfl
theorem d_S_addCorner_70 : decode prog_4_method_6_code 70 = .ok (.lload_n 1, 1) := dOk_get (q := (70, .lload_n 1, 1)) ok_tb_S_addCorner_0 39 rfl
theorem d_S_addCorner_71 : decode prog_4_method_6_code 71 = .ok (.lastore, 1) := dOk_get (q := (71, .lastore, 1)) ok_tb_S_addCorner_0 40 rfl
theorem d_S_addCorner_72 : decode prog_4_method_6_code 72 = .ok (.aload_n 0, 1) := dOk_get (q := (72, .aload_n 0, 1)) ok_tb_S_addCorner_0 41 rfl
theorem d_S_addCorner_73 : decode prog_4_method_6_code 73 = .ok (.getfield 28, 3) := dOk_get (q := (73, .getfield 28, 3)) ok_tb_S_addCorner_0 42 rfl
theorem d_S_addCorner_76 : decode prog_4_method_6_code 76 = .ok (.aload_n 0, 1) := dOk_get (q := (76, .aload_n 0, 1)) ok_tb_S_addCorner_0 43 rfl
theorem d_S_addCorner_77 : decode prog_4_method_6_code 77 = .ok (.getfield 39, 3) := dOk_get (q := (77, .getfield 39, 3)) ok_tb_S_addCorner_0 44 rfl
theorem d_S_addCorner_80 : decode prog_4_method_6_code 80 = .ok (.lload_n 3, 1) := dOk_get (q := (80, .lload_n 3, 1)) ok_tb_S_addCorner_0 45 rfl
theorem d_S_addCorner_81 : decode prog_4_method_6_code 81 = .ok (.lastore, 1) := dOk_get (q := (81, .lastore, 1)) ok_tb_S_addCorner_0 46 rfl
theorem d_S_addCorner_82 : decode prog_4_method_6_code 82 = .ok (.aload_n 0, 1) := dOk_get (q := (82, .aload_n 0, 1)) ok_tb_S_addCorner_0 47 rfl
theorem d_S_addCorner_83 : decode prog_4_method_6_code 83 = .ok (.dup, 1) := dOk_get (q := (83, .dup, 1)) ok_tb_S_addCorner_0 48 rfl
theorem d_S_addCorner_84 : decode prog_4_method_6_code 84 = .ok (.getfield 39, 3) := dOk_get (q := (84, .getfield 39, 3)) ok_tb_S_addCorner_0 49 rfl
theorem d_S_addCorner_87 : decode prog_4_method_6_code 87 = .ok (.iconst 1, 1) := dOk_get (q := (87, .iconst 1, 1)) ok_tb_S_addCorner_0 50 rfl
theorem d_S_addCorner_88 : decode prog_4_method_6_code 88 = .ok (.iadd, 1) := dOk_get (q := (88, .iadd, 1)) ok_tb_S_addCorner_0 51 rfl
theorem d_S_addCorner_89 : decode prog_4_method_6_code 89 = .ok (.putfield 39, 3) := dOk_get (q := (89, .putfield 39, 3)) ok_tb_S_addCorner_0 52 rfl
theorem d_S_addCorner_92 : decode prog_4_method_6_code 92 = .ok (.iconst 1, 1) := dOk_get (q := (92, .iconst 1, 1)) ok_tb_S_addCorner_0 53 rfl
theorem d_S_addCorner_93 : decode prog_4_method_6_code 93 = .ok (.ireturn, 1) := dOk_get (q := (93, .ireturn, 1)) ok_tb_S_addCorner_0 54 rfl
def tb_Q_init_0 : List (Nat × Instr × Nat) := [(0, .aload_n 0, 1), (1, .invokespecial 3, 3), (4, .aload_n 0, 1), (5, .iload_n 1, 1), (6, .putfield 9, 3), (9, .aload_n 0, 1), (10, .iload_n 2, 1), (11, .putfield 15, 3), (14, .aload_n 0, 1), (15, .iload_n 3, 1), (16, .putfield 18, 3), (19, .aload_n 0, 1), (20, .lload 4, 2), (22, .putfield 21, 3), (25, .return_, 1)]
theorem ok_tb_Q_init_0 : dOk prog_3_method_1_code tb_Q_init_0 = true := by decide +kernel
theorem d_Q_init_0 : decode prog_3_method_1_code 0 = .ok (.aload_n 0, 1) := dOk_get (q := (0, .aload_n 0, 1)) ok_tb_Q_init_0 0 rfl
theorem d_Q_init_1 : decode prog_3_method_1_code 1 = .ok (.invokespecial 3, 3) := dOk_get (q := (1, .invokespecial 3, 3)) ok_tb_Q_init_0 1 rfl
theorem d_Q_init_4 : decode prog_3_method_1_code 4 = .ok (.aload_n 0, 1) := dOk_get (q := (4, .aload_n 0, 1)) ok_tb_Q_init_0 2 rfl
theorem d_Q_init_5 : decode prog_3_method_1_code 5 = .ok (.iload_n 1, 1) := dOk_get (q := (5, .iload_n 1, 1)) ok_tb_Q_init_0 3 rfl
theorem d_Q_init_6 : decode prog_3_method_1_code 6 = .ok (.putfield 9, 3) := dOk_get (q := (6, .putfield 9, 3)) ok_tb_Q_init_0 4 rfl
theorem d_Q_init_9 : decode prog_3_method_1_code 9 = .ok (.aload_n 0, 1) := dOk_get (q := (9, .aload_n 0, 1)) ok_tb_Q_init_0 5 rfl
theorem d_Q_init_10 : decode prog_3_method_1_code 10 = .ok (.iload_n 2, 1) := dOk_get (q := (10, .iload_n 2, 1)) ok_tb_Q_init_0 6 rfl
theorem d_Q_init_11 : decode prog_3_method_1_code 11 = .ok (.putfield 15, 3) := dOk_get (q := (11, .putfield 15, 3)) ok_tb_Q_init_0 7 rfl
theorem d_Q_init_14 : decode prog_3_method_1_code 14 = .ok (.aload_n 0, 1) := dOk_get (q := (14, .aload_n 0, 1)) ok_tb_Q_init_0 8 rfl
theorem d_Q_init_15 : decode prog_3_method_1_code 15 = .ok (.iload_n 3, 1) := dOk_get (q := (15, .iload_n 3, 1)) ok_tb_Q_init_0 9 rfl
theorem d_Q_init_16 : decode prog_3_method_1_code 16 = .ok (.putfield 18, 3) := dOk_get (q := (16, .putfield 18, 3)) ok_tb_Q_init_0 10 rfl
theorem d_Q_init_19 : decode prog_3_method_1_code 19 = .ok (.aload_n 0, 1) := dOk_get (q := (19, .aload_n 0, 1)) ok_tb_Q_init_0 11 rfl
theorem d_Q_init_20 : decode prog_3_method_1_code 20 = .ok (.lload 4, 2) := dOk_get (q := (20, .lload 4, 2)) ok_tb_Q_init_0 12 rfl
theorem d_Q_init_22 : decode prog_3_method_1_code 22 = .ok (.putfield 21, 3) := dOk_get (q := (22, .putfield 21, 3)) ok_tb_Q_init_0 13 rfl
theorem d_Q_init_25 : decode prog_3_method_1_code 25 = .ok (.return_, 1) := dOk_get (q := (25, .return_, 1)) ok_tb_Q_init_0 14 rfl
def tb_F_markOf_0 : List (Nat × Instr × Nat) := [(0, .aload_n 0, 1), (1, .iload_n 1, 1), (2, .iconst 0, 1), (3, .bipush 15, 2), (5, .invokevirtual 39, 3), (8, .l2i, 1), (9, .ireturn, 1)]
theorem ok_tb_F_markOf_0 : dOk prog_2_method_10_code tb_F_markOf_0 = true := by decide +kernel
theorem d_F_markOf_0 : decode prog_2_method_10_code 0 = .ok (.aload_n 0, 1) := dOk_get (q := (0, .aload_n 0, 1)) ok_tb_F_markOf_0 0 rfl
theorem d_F_markOf_1 : decode prog_2_method_10_code 1 = .ok (.iload_n 1, 1) := dOk_get (q := (1, .iload_n 1, 1)) ok_tb_F_markOf_0 1 rfl
theorem d_F_markOf_2 : decode prog_2_method_10_code 2 = .ok (.iconst 0, 1) := dOk_get (q := (2, .iconst 0, 1)) ok_tb_F_markOf_0 2 rfl
theorem d_F_markOf_3 : decode prog_2_method_10_code 3 = .ok (.bipush 15, 2) := dOk_get (q := (3, .bipush 15, 2)) ok_tb_F_markOf_0 3 rfl
theorem d_F_markOf_5 : decode prog_2_method_10_code 5 = .ok (.invokevirtual 39, 3) := dOk_get (q := (5, .invokevirtual 39, 3)) ok_tb_F_markOf_0 4 rfl
theorem d_F_markOf_8 : decode prog_2_method_10_code 8 = .ok (.l2i, 1) := dOk_get (q := (8, .l2i, 1)) ok_tb_F_markOf_0 5 rfl
theorem d_F_markOf_9 : decode prog_2_method_10_code 9 = .ok (.ireturn, 1) := dOk_get (q := (9, .ireturn, 1)) ok_tb_F_markOf_0 6 rfl
def tb_F_firstOf_0 : List (Nat × Instr × Nat) := [(0, .aload_n 0, 1), (1, .iload_n 1, 1), (2, .bipush 6, 2), (4, .bipush 6, 2), (6, .invokevirtual 39, 3), (9, .l2i, 1), (10, .ireturn, 1)]
theorem ok_tb_F_firstOf_0 : dOk prog_2_method_8_code tb_F_firstOf_0 = true := by decide +kernel
theorem d_F_firstOf_0 : decode prog_2_method_8_code 0 = .ok (.aload_n 0, 1) := dOk_get (q := (0, .aload_n 0, 1)) ok_tb_F_firstOf_0 0 rfl
theorem d_F_firstOf_1 : decode prog_2_method_8_code 1 = .ok (.iload_n 1, 1) := dOk_get (q := (1, .iload_n 1, 1)) ok_tb_F_firstOf_0 1 rfl
theorem d_F_firstOf_2 : decode prog_2_method_8_code 2 = .ok (.bipush 6, 2) := dOk_get (q := (2, .bipush 6, 2)) ok_tb_F_firstOf_0 2 rfl
theorem d_F_firstOf_4 : decode prog_2_method_8_code 4 = .ok (.bipush 6, 2) := dOk_get (q := (4, .bipush 6, 2)) ok_tb_F_firstOf_0 3 rfl
theorem d_F_firstOf_6 : decode prog_2_method_8_code 6 = .ok (.invokevirtual 39, 3) := dOk_get (q := (6, .invokevirtual 39, 3)) ok_tb_F_firstOf_0 4 rfl
theorem d_F_firstOf_9 : decode prog_2_method_8_code 9 = .ok (.l2i, 1) := dOk_get (q := (9, .l2i, 1)) ok_tb_F_firstOf_0 5 rfl
theorem d_F_firstOf_10 : decode prog_2_method_8_code 10 = .ok (.ireturn, 1) := dOk_get (q := (10, .ireturn, 1)) ok_tb_F_firstOf_0 6 rfl
def tb_F_secondOf_0 : List (Nat × Instr × Nat) := [(0, .aload_n 0, 1), (1, .iload_n 1, 1), (2, .iconst 0, 1), (3, .bipush 6, 2), (5, .invokevirtual 39, 3), (8, .l2i, 1), (9, .iconst (-1), 1), (10, .iadd, 1), (11, .ireturn, 1)]
theorem ok_tb_F_secondOf_0 : dOk prog_2_method_9_code tb_F_secondOf_0 = true := by decide +kernel
theorem d_F_secondOf_0 : decode prog_2_method_9_code 0 = .ok (.aload_n 0, 1) := dOk_get (q := (0, .aload_n 0, 1)) ok_tb_F_secondOf_0 0 rfl
theorem d_F_secondOf_1 : decode prog_2_method_9_code 1 = .ok (.iload_n 1, 1) := dOk_get (q := (1, .iload_n 1, 1)) ok_tb_F_secondOf_0 1 rfl
theorem d_F_secondOf_2 : decode prog_2_method_9_code 2 = .ok (.iconst 0, 1) := dOk_get (q := (2, .iconst 0, 1)) ok_tb_F_secondOf_0 2 rfl
theorem d_F_secondOf_3 : decode prog_2_method_9_code 3 = .ok (.bipush 6, 2) := dOk_get (q := (3, .bipush 6, 2)) ok_tb_F_secondOf_0 3 rfl
theorem d_F_secondOf_5 : decode prog_2_method_9_code 5 = .ok (.invokevirtual 39, 3) := dOk_get (q := (5, .invokevirtual 39, 3)) ok_tb_F_secondOf_0 4 rfl
theorem d_F_secondOf_8 : decode prog_2_method_9_code 8 = .ok (.l2i, 1) := dOk_get (q := (8, .l2i, 1)) ok_tb_F_secondOf_0 5 rfl
theorem d_F_secondOf_9 : decode prog_2_method_9_code 9 = .ok (.iconst (-1), 1) := dOk_get (q := (9, .iconst (-1), 1)) ok_tb_F_secondOf_0 6 rfl
theorem d_F_secondOf_10 : decode prog_2_method_9_code 10 = .ok (.iadd, 1) := dOk_get (q := (10, .iadd, 1)) ok_tb_F_secondOf_0 7 rfl
theorem d_F_secondOf_11 : decode prog_2_method_9_code 11 = .ok (.ireturn, 1) := dOk_get (q := (11, .ireturn, 1)) ok_tb_F_secondOf_0 8 rfl
def tb_F_xOf_0 : List (Nat × Instr × Nat) := [(0, .aload_n 0, 1), (1, .iload_n 1, 1), (2, .bipush 36, 2), (4, .bipush 21, 2), (6, .invokevirtual 39, 3), (9, .ldc2_w 27, 3), (12, .lsub, 1), (13, .lreturn, 1)]
theorem ok_tb_F_xOf_0 : dOk prog_2_method_11_code tb_F_xOf_0 = true := by decide +kernel
theorem d_F_xOf_0 : decode prog_2_method_11_code 0 = .ok (.aload_n 0, 1) := dOk_get (q := (0, .aload_n 0, 1)) ok_tb_F_xOf_0 0 rfl
theorem d_F_xOf_1 : decode prog_2_method_11_code 1 = .ok (.iload_n 1, 1) := dOk_get (q := (1, .iload_n 1, 1)) ok_tb_F_xOf_0 1 rfl
theorem d_F_xOf_2 : decode prog_2_method_11_code 2 = .ok (.bipush 36, 2) := dOk_get (q := (2, .bipush 36, 2)) ok_tb_F_xOf_0 2 rfl
theorem d_F_xOf_4 : decode prog_2_method_11_code 4 = .ok (.bipush 21, 2) := dOk_get (q := (4, .bipush 21, 2)) ok_tb_F_xOf_0 3 rfl
theorem d_F_xOf_6 : decode prog_2_method_11_code 6 = .ok (.invokevirtual 39, 3) := dOk_get (q := (6, .invokevirtual 39, 3)) ok_tb_F_xOf_0 4 rfl
theorem d_F_xOf_9 : decode prog_2_method_11_code 9 = .ok (.ldc2_w 27, 3) := dOk_get (q := (9, .ldc2_w 27, 3)) ok_tb_F_xOf_0 5 rfl
theorem d_F_xOf_12 : decode prog_2_method_11_code 12 = .ok (.lsub, 1) := dOk_get (q := (12, .lsub, 1)) ok_tb_F_xOf_0 6 rfl
theorem d_F_xOf_13 : decode prog_2_method_11_code 13 = .ok (.lreturn, 1) := dOk_get (q := (13, .lreturn, 1)) ok_tb_F_xOf_0 7 rfl
def tb_F_yOf_0 : List (Nat × Instr × Nat) := [(0, .aload_n 0, 1), (1, .iload_n 1, 1), (2, .bipush 15, 2), (4, .bipush 21, 2), (6, .invokevirtual 39, 3), (9, .ldc2_w 27, 3), (12, .lsub, 1), (13, .lreturn, 1)]
theorem ok_tb_F_yOf_0 : dOk prog_2_method_12_code tb_F_yOf_0 = true := by decide +kernel
theorem d_F_yOf_0 : decode prog_2_method_12_code 0 = .ok (.aload_n 0, 1) := dOk_get (q := (0, .aload_n 0, 1)) ok_tb_F_yOf_0 0 rfl
theorem d_F_yOf_1 : decode prog_2_method_12_code 1 = .ok (.iload_n 1, 1) := dOk_get (q := (1, .iload_n 1, 1)) ok_tb_F_yOf_0 1 rfl
theorem d_F_yOf_2 : decode prog_2_method_12_code 2 = .ok (.bipush 15, 2) := dOk_get (q := (2, .bipush 15, 2)) ok_tb_F_yOf_0 2 rfl
theorem d_F_yOf_4 : decode prog_2_method_12_code 4 = .ok (.bipush 21, 2) := dOk_get (q := (4, .bipush 21, 2)) ok_tb_F_yOf_0 3 rfl
theorem d_F_yOf_6 : decode prog_2_method_12_code 6 = .ok (.invokevirtual 39, 3) := dOk_get (q := (6, .invokevirtual 39, 3)) ok_tb_F_yOf_0 4 rfl
theorem d_F_yOf_9 : decode prog_2_method_12_code 9 = .ok (.ldc2_w 27, 3) := dOk_get (q := (9, .ldc2_w 27, 3)) ok_tb_F_yOf_0 5 rfl
theorem d_F_yOf_12 : decode prog_2_method_12_code 12 = .ok (.lsub, 1) := dOk_get (q := (12, .lsub, 1)) ok_tb_F_yOf_0 6 rfl
theorem d_F_yOf_13 : decode prog_2_method_12_code 13 = .ok (.lreturn, 1) := dOk_get (q := (13, .lreturn, 1)) ok_tb_F_yOf_0 7 rfl
def tb_F_layerOf_0 : List (Nat × Instr × Nat) := [(0, .aload_n 0, 1), (1, .getfield 11, 3), (4, .iload_n 1, 1), (5, .laload, 1), (6, .bipush 57, 2), (8, .lshr, 1), (9, .l2i, 1), (10, .ireturn, 1)]
theorem ok_tb_F_layerOf_0 : dOk prog_2_method_13_code tb_F_layerOf_0 = true := by decide +kernel
theorem d_F_layerOf_0 : decode prog_2_method_13_code 0 = .ok (.aload_n 0, 1) := dOk_get (q := (0, .aload_n 0, 1)) ok_tb_F_layerOf_0 0 rfl
theorem d_F_layerOf_1 : decode prog_2_method_13_code 1 = .ok (.getfield 11, 3) := dOk_get (q := (1, .getfield 11, 3)) ok_tb_F_layerOf_0 1 rfl
theorem d_F_layerOf_4 : decode prog_2_method_13_code 4 = .ok (.iload_n 1, 1) := dOk_get (q := (4, .iload_n 1, 1)) ok_tb_F_layerOf_0 2 rfl
theorem d_F_layerOf_5 : decode prog_2_method_13_code 5 = .ok (.laload, 1) := dOk_get (q := (5, .laload, 1)) ok_tb_F_layerOf_0 3 rfl
theorem d_F_layerOf_6 : decode prog_2_method_13_code 6 = .ok (.bipush 57, 2) := dOk_get (q := (6, .bipush 57, 2)) ok_tb_F_layerOf_0 4 rfl
theorem d_F_layerOf_8 : decode prog_2_method_13_code 8 = .ok (.lshr, 1) := dOk_get (q := (8, .lshr, 1)) ok_tb_F_layerOf_0 5 rfl
theorem d_F_layerOf_9 : decode prog_2_method_13_code 9 = .ok (.l2i, 1) := dOk_get (q := (9, .l2i, 1)) ok_tb_F_layerOf_0 6 rfl
theorem d_F_layerOf_10 : decode prog_2_method_13_code 10 = .ok (.ireturn, 1) := dOk_get (q := (10, .ireturn, 1)) ok_tb_F_layerOf_0 7 rfl
