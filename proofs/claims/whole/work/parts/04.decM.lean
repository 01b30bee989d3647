def tb_M_init_0 : List (Nat × Instr × Nat) := [(0, .aload_n 0, 1), (1, .invokespecial 1, 3), (4, .aload_n 0, 1), (5, .bipush 60, 2), (7, .newarray .int, 2), (9, .putfield 7, 3), (12, .aload_n 0, 1), (13, .bipush 60, 2), (15, .newarray .int, 2), (17, .putfield 13, 3), (20, .aload_n 0, 1), (21, .bipush 60, 2), (23, .newarray .int, 2), (25, .putfield 16, 3), (28, .aload_n 0, 1), (29, .bipush 60, 2), (31, .newarray .int, 2), (33, .putfield 19, 3), (36, .aload_n 0, 1), (37, .bipush 60, 2), (39, .newarray .int, 2), (41, .putfield 22, 3), (44, .aload_n 0, 1), (45, .sipush 480, 3), (48, .newarray .long, 2), (50, .putfield 25, 3), (53, .aload_n 0, 1), (54, .sipush 480, 3), (57, .newarray .long, 2), (59, .putfield 29, 3), (62, .aload_n 0, 1), (63, .bipush 60, 2), (65, .newarray .long, 2), (67, .putfield 32, 3), (70, .aload_n 0, 1), (71, .bipush 30, 2), (73, .newarray .int, 2), (75, .putfield 35, 3), (78, .aload_n 0, 1), (79, .bipush 30, 2), (81, .newarray .int, 2), (83, .putfield 38, 3), (86, .aload_n 0, 1), (87, .bipush 30, 2), (89, .newarray .int, 2), (91, .putfield 41, 3), (94, .aload_n 0, 1), (95, .bipush 30, 2), (97, .newarray .long, 2), (99, .putfield 44, 3), (102, .aload_n 0, 1), (103, .bipush 8, 2), (105, .putfield 47, 3), (108, .aload_n 0, 1), (109, .sipush 6300, 3), (112, .newarray .int, 2), (114, .putfield 51, 3), (117, .aload_n 0, 1), (118, .sipush 6300, 3), (121, .newarray .int, 2), (123, .putfield 54, 3), (126, .aload_n 0, 1), (127, .sipush 2100, 3), (130, .newarray .long, 2), (132, .putfield 57, 3), (135, .aload_n 0, 1), (136, .sipush 2100, 3), (139, .newarray .long, 2), (141, .putfield 60, 3), (144, .aload_n 0, 1), (145, .sipush 180, 3), (148, .newarray .int, 2), (150, .putfield 63, 3), (153, .aload_n 0, 1), (154, .iload_n 1, 1), (155, .iconst 1, 1), (156, .if_icmp .ge 7, 3), (159, .iconst 1, 1), (160, .goto 15, 3), (163, .iload_n 1, 1), (164, .bipush 16, 2), (166, .if_icmp .le 8, 3), (169, .bipush 16, 2), (171, .goto 4, 3), (174, .iload_n 1, 1), (175, .putfield 66, 3), (178, .return_, 1)]
theorem ok_tb_M_init_0 : dOk prog_6_method_1_code tb_M_init_0 = true := by decide +kernel
theorem d_M_init_0 : decode prog_6_method_1_code 0 = .ok (.aload_n 0, 1) := dOk_get (q := (0, .aload_n 0, 1)) ok_tb_M_init_0 0 rfl
theorem d_M_init_1 : decode prog_6_method_1_code 1 = .ok (.invokespecial 1, 3) := dOk_get (q := (1, .invokespecial 1, 3)) ok_tb_M_init_0 1 rfl
theorem d_M_init_4 : decode prog_6_method_1_code 4 = .ok (.aload_n 0, 1) := dOk_get (q := (4, .aload_n 0, 1)) ok_tb_M_init_0 2 rfl
theorem d_M_init_5 : decode prog_6_method_1_code 5 = .ok (.bipush 60, 2) := dOk_get (q := (5, .bipush 60, 2)) ok_tb_M_init_0 3 rfl
theorem d_M_init_7 : decode prog_6_method_1_code 7 = .ok (.newarray .int, 2) := dOk_get (q := (7, .newarray .int, 2)) ok_tb_M_init_0 4 rfl
theorem d_M_init_9 : decode prog_6_method_1_code 9 = .ok (.putfield 7, 3) := dOk_get (q := (9, .putfield 7, 3)) ok_tb_M_init_0 5 rfl
theorem d_M_init_12 : decode prog_6_method_1_code 12 = .ok (.aload_n 0, 1) := dOk_get (q := (12, .aload_n 0, 1)) ok_tb_M_init_0 6 rfl
theorem d_M_init_13 : decode prog_6_method_1_code 13 = .ok (.bipush 60, 2) := dOk_get (q := (13, .bipush 60, 2)) ok_tb_M_init_0 7 rfl
theorem d_M_init_15 : decode prog_6_method_1_code 15 = .ok (.newarray .int, 2) := dOk_get (q := (15, .newarray .int, 2)) ok_tb_M_init_0 8 rfl
theorem d_M_init_17 : decode prog_6_method_1_code 17 = .ok (.putfield 13, 3) := dOk_get (q := (17, .putfield 13, 3)) ok_tb_M_init_0 9 rfl
theorem d_M_init_20 : decode prog_6_method_1_code 20 = .ok (.aload_n 0, 1) := dOk_get (q := (20, .aload_n 0, 1)) ok_tb_M_init_0 10 rfl
theorem d_M_init_21 : decode prog_6_method_1_code 21 = .ok (.bipush 60, 2) := dOk_get (q := (21, .bipush 60, 2)) ok_tb_M_init_0 11 rfl
theorem d_M_init_23 : decode prog_6_method_1_code 23 = .ok (.newarray .int, 2) := dOk_get (q := (23, .newarray .int, 2)) ok_tb_M_init_0 12 rfl
theorem d_M_init_25 : decode prog_6_method_1_code 25 = .ok (.putfield 16, 3) := dOk_get (q := (25, .putfield 16, 3)) ok_tb_M_init_0 13 rfl
theorem d_M_init_28 : decode prog_6_method_1_code 28 = .ok (.aload_n 0, 1) := dOk_get (q := (28, .aload_n 0, 1)) ok_tb_M_init_0 14 rfl
theorem d_M_init_29 : decode prog_6_method_1_code 29 = .ok (.bipush 60, 2) := dOk_get (q := (29, .bipush 60, 2)) ok_tb_M_init_0 15 rfl
theorem d_M_init_31 : decode prog_6_method_1_code 31 = .ok (.newarray .int, 2) := dOk_get (q := (31, .newarray .int, 2)) ok_tb_M_init_0 16 rfl
theorem d_M_init_33 : decode prog_6_method_1_code 33 = .ok (.putfield 19, 3) := dOk_get (q := (33, .putfield 19, 3)) ok_tb_M_init_0 17 rfl
theorem d_M_init_36 : decode prog_6_method_1_code 36 = .ok (.aload_n 0, 1) := dOk_get (q := (36, .aload_n 0, 1)) ok_tb_M_init_0 18 rfl
theorem d_M_init_37 : decode prog_6_method_1_code 37 = .ok (.bipush 60, 2) := dOk_get (q := (37, .bipush 60, 2)) ok_tb_M_init_0 19 rfl
theorem d_M_init_39 : decode prog_6_method_1_code 39 = .ok (.newarray .int, 2) := dOk_get (q := (39, .newarray .int, 2)) ok_tb_M_init_0 20 rfl
theorem d_M_init_41 : decode prog_6_method_1_code 41 = .ok (.putfield 22, 3) := dOk_get (q := (41, .putfield 22, 3)) ok_tb_M_init_0 21 rfl
theorem d_M_init_44 : decode prog_6_method_1_code 44 = .ok (.aload_n 0, 1) := dOk_get (q := (44, .aload_n 0, 1)) ok_tb_M_init_0 22 rfl
theorem d_M_init_45 : decode prog_6_method_1_code 45 = .ok (.sipush 480, 3) := dOk_get (q := (45, .sipush 480, 3)) ok_tb_M_init_0 23 rfl
theorem d_M_init_48 : decode prog_6_method_1_code 48 = .ok (.newarray .long, 2) := dOk_get (q := (48, .newarray .long, 2)) ok_tb_M_init_0 24 rfl
theorem d_M_init_50 : decode prog_6_method_1_code 50 = .ok (.putfield 25, 3) := dOk_get (q := (50, .putfield 25, 3)) ok_tb_M_init_0 25 rfl
theorem d_M_init_53 : decode prog_6_method_1_code 53 = .ok (.aload_n 0, 1) := dOk_get (q := (53, .aload_n 0, 1)) ok_tb_M_init_0 26 rfl
theorem d_M_init_54 : decode prog_6_method_1_code 54 = .ok (.sipush 480, 3) := dOk_get (q := (54, .sipush 480, 3)) ok_tb_M_init_0 27 rfl
theorem d_M_init_57 : decode prog_6_method_1_code 57 = .ok (.newarray .long, 2) := dOk_get (q := (57, .newarray .long, 2)) ok_tb_M_init_0 28 rfl
theorem d_M_init_59 : decode prog_6_method_1_code 59 = .ok (.putfield 29, 3) := dOk_get (q := (59, .putfield 29, 3)) ok_tb_M_init_0 29 rfl
theorem d_M_init_62 : decode prog_6_method_1_code 62 = .ok (.aload_n 0, 1) := dOk_get (q := (62, .aload_n 0, 1)) ok_tb_M_init_0 30 rfl
theorem d_M_init_63 : decode prog_6_method_1_code 63 = .ok (.bipush 60, 2) := dOk_get (q := (63, .bipush 60, 2)) ok_tb_M_init_0 31 rfl
theorem d_M_init_65 : decode prog_6_method_1_code 65 = .ok (.newarray .long, 2) := dOk_get (q := (65, .newarray .long, 2)) ok_tb_M_init_0 32 rfl
theorem d_M_init_67 : decode prog_6_method_1_code 67 = .ok (.putfield 32, 3) := dOk_get (q := (67, .putfield 32, 3)) ok_tb_M_init_0 33 rfl
theorem d_M_init_70 : decode prog_6_method_1_code 70 = .ok (.aload_n 0, 1) := dOk_get (q := (70, .aload_n 0, 1)) ok_tb_M_init_0 34 rfl
theorem d_M_init_71 : decode prog_6_method_1_code 71 = .ok (.bipush 30, 2) := dOk_get (q := (71, .bipush 30, 2)) ok_tb_M_init_0 35 rfl
theorem d_M_init_73 : decode prog_6_method_1_code 73 = .ok (.newarray .int, 2) := dOk_get (q := (73, .newarray .int, 2)) ok_tb_M_init_0 36 rfl
theorem d_M_init_75 : decode prog_6_method_1_code 75 = .ok (.putfield 35, 3) := dOk_get (q := (75, .putfield 35, 3)) ok_tb_M_init_0 37 rfl
theorem d_M_init_78 : decode prog_6_method_1_code 78 = .ok (.aload_n 0, 1) := dOk_get (q := (78, .aload_n 0, 1)) ok_tb_M_init_0 38 rfl
theorem d_M_init_79 : decode prog_6_method_1_code 79 = .ok (.bipush 30, 2) := dOk_get (q := (79, .bipush 30, 2)) ok_tb_M_init_0 39 rfl
theorem d_M_init_81 : decode prog_6_method_1_code 81 = .ok (.newarray .int, 2) := dOk_get (q := (81, .newarray .int, 2)) ok_tb_M_init_0 40 rfl
theorem d_M_init_83 : decode prog_6_method_1_code 83 = .ok (.putfield 38, 3) := dOk_get (q := (83, .putfield 38, 3)) ok_tb_M_init_0 41 rfl
theorem d_M_init_86 : decode prog_6_method_1_code 86 = .ok (.aload_n 0, 1) := dOk_get (q := (86, .aload_n 0, 1)) ok_tb_M_init_0 42 rfl
theorem d_M_init_87 : decode prog_6_method_1_code 87 = .ok (.bipush 30, 2) := dOk_get (q := (87, .bipush 30, 2)) ok_tb_M_init_0 43 rfl
theorem d_M_init_89 : decode prog_6_method_1_code 89 = .ok (.newarray .int, 2) := dOk_get (q := (89, .newarray .int, 2)) ok_tb_M_init_0 44 rfl
theorem d_M_init_91 : decode prog_6_method_1_code 91 = .ok (.putfield 41, 3) := dOk_get (q := (91, .putfield 41, 3)) ok_tb_M_init_0 45 rfl
theorem d_M_init_94 : decode prog_6_method_1_code 94 = .ok (.aload_n 0, 1) := dOk_get (q := (94, .aload_n 0, 1)) ok_tb_M_init_0 46 rfl
theorem d_M_init_95 : decode prog_6_method_1_code 95 = .ok (.bipush 30, 2) := dOk_get (q := (95, .bipush 30, 2)) ok_tb_M_init_0 47 rfl
theorem d_M_init_97 : decode prog_6_method_1_code 97 = .ok (.newarray .long, 2) := dOk_get (q := (97, .newarray .long, 2)) ok_tb_M_init_0 48 rfl
theorem d_M_init_99 : decode prog_6_method_1_code 99 = .ok (.putfield 44, 3) := dOk_get (q := (99, .putfield 44, 3)) ok_tb_M_init_0 49 rfl
theorem d_M_init_102 : decode prog_6_method_1_code 102 = .ok (.aload_n 0, 1) := dOk_get (q := (102, .aload_n 0, 1)) ok_tb_M_init_0 50 rfl
theorem d_M_init_103 : decode prog_6_method_1_code 103 = .ok (.bipush 8, 2) := dOk_get (q := (103, .bipush 8, 2)) ok_tb_M_init_0 51 rfl
theorem d_M_init_105 : decode prog_6_method_1_code 105 = .ok (.putfield 47, 3) := dOk_get (q := (105, .putfield 47, 3)) ok_tb_M_init_0 52 rfl
theorem d_M_init_108 : decode prog_6_method_1_code 108 = .ok (.aload_n 0, 1) := dOk_get (q := (108, .aload_n 0, 1)) ok_tb_M_init_0 53 rfl
theorem d_M_init_109 : decode prog_6_method_1_code 109 = .ok (.sipush 6300, 3) := dOk_get (q := (109, .sipush 6300, 3)) ok_tb_M_init_0 54 rfl
theorem d_M_init_112 : decode prog_6_method_1_code 112 = .ok (.newarray .int, 2) := dOk_get (q := (112, .newarray .int, 2)) ok_tb_M_init_0 55 rfl
theorem d_M_init_114 : decode prog_6_method_1_code 114 = .ok (.putfield 51, 3) := dOk_get (q := (114, .putfield 51, 3)) ok_tb_M_init_0 56 rfl
theorem d_M_init_117 : decode prog_6_method_1_code 117 = .ok (.aload_n 0, 1) := dOk_get (q := (117, .aload_n 0, 1)) ok_tb_M_init_0 57 rfl
theorem d_M_init_118 : decode prog_6_method_1_code 118 = .ok (.sipush 6300, 3) := dOk_get (q := (118, .sipush 6300, 3)) ok_tb_M_init_0 58 rfl
theorem d_M_init_121 : decode prog_6_method_1_code 121 = .ok (.newarray .int, 2) := dOk_get (q := (121, .newarray .int, 2)) ok_tb_M_init_0 59 rfl
theorem d_M_init_123 : decode prog_6_method_1_code 123 = .ok (.putfield 54, 3) := dOk_get (q := (123, .putfield 54, 3)) ok_tb_M_init_0 60 rfl
theorem d_M_init_126 : decode prog_6_method_1_code 126 = .ok (.aload_n 0, 1) := dOk_get (q := (126, .aload_n 0, 1)) ok_tb_M_init_0 61 rfl
theorem d_M_init_127 : decode prog_6_method_1_code 127 = .ok (.sipush 2100, 3) := dOk_get (q := (127, .sipush 2100, 3)) ok_tb_M_init_0 62 rfl
theorem d_M_init_130 : decode prog_6_method_1_code 130 = .ok (.newarray .long, 2) := dOk_get (q := (130, .newarray .long, 2)) ok_tb_M_init_0 63 rfl
theorem d_M_init_132 : decode prog_6_method_1_code 132 = .ok (.putfield 57, 3) := dOk_get (q := (132, .putfield 57, 3)) ok_tb_M_init_0 64 rfl
theorem d_M_init_135 : decode prog_6_method_1_code 135 = .ok (.aload_n 0, 1) := dOk_get (q := (135, .aload_n 0, 1)) ok_tb_M_init_0 65 rfl
theorem d_M_init_136 : decode prog_6_method_1_code 136 = .ok (.sipush 2100, 3) := dOk_get (q := (136, .sipush 2100, 3)) ok_tb_M_init_0 66 rfl
theorem d_M_init_139 : decode prog_6_method_1_code 139 = .ok (.newarray .long, 2) := dOk_get (q := (139, .newarray .long, 2)) ok_tb_M_init_0 67 rfl
theorem d_M_init_141 : decode prog_6_method_1_code 141 = .ok (.putfield 60, 3) := dOk_get (q := (141, .putfield 60, 3)) ok_tb_M_init_0 68 rfl
theorem d_M_init_144 : decode prog_6_method_1_code 144 = .ok (.aload_n 0, 1) := dOk_get (q := (144, .aload_n 0, 1)) ok_tb_M_init_0 69 rfl
theorem d_M_init_145 : decode prog_6_method_1_code 145 = .ok (.sipush 180, 3) := dOk_get (q := (145, .sipush 180, 3)) ok_tb_M_init_0 70 rfl
theorem d_M_init_148 : decode prog_6_method_1_code 148 = .ok (.newarray .int, 2) := dOk_get (q := (148, .newarray .int, 2)) ok_tb_M_init_0 71 rfl
theorem d_M_init_150 : decode prog_6_method_1_code 150 = .ok (.putfield 63, 3) := dOk_get (q := (150, .putfield 63, 3)) ok_tb_M_init_0 72 rfl
theorem d_M_init_153 : decode prog_6_method_1_code 153 = .ok (.aload_n 0, 1) := dOk_get (q := (153, .aload_n 0, 1)) ok_tb_M_init_0 73 rfl
theorem d_M_init_154 : decode prog_6_method_1_code 154 = .ok (.iload_n 1, 1) := dOk_get (q := (154, .iload_n 1, 1)) ok_tb_M_init_0 74 rfl
theorem d_M_init_155 : decode prog_6_method_1_code 155 = .ok (.iconst 1, 1) := dOk_get (q := (155, .iconst 1, 1)) ok_tb_M_init_0 75 rfl
theorem d_M_init_156 : decode prog_6_method_1_code 156 = .ok (.if_icmp .ge 7, 3) := dOk_get (q := (156, .if_icmp .ge 7, 3)) ok_tb_M_init_0 76 rfl
theorem d_M_init_159 : decode prog_6_method_1_code 159 = .ok (.iconst 1, 1) := dOk_get (q := (159, .iconst 1, 1)) ok_tb_M_init_0 77 rfl
theorem d_M_init_160 : decode prog_6_method_1_code 160 = .ok (.goto 15, 3) := dOk_get (q := (160, .goto 15, 3)) ok_tb_M_init_0 78 rfl
theorem d_M_init_163 : decode prog_6_method_1_code 163 = .ok (.iload_n 1, 1) := dOk_get (q := (163, .iload_n 1, 1)) ok_tb_M_init_0 79 rfl
theorem d_M_init_164 : decode prog_6_method_1_code 164 = .ok (.bipush 16, 2) := dOk_get (q := (164, .bipush 16, 2)) ok_tb_M_init_0 80 rfl
theorem d_M_init_166 : decode prog_6_method_1_code 166 = .ok (.if_icmp .le 8, 3) := dOk_get (q := (166, .if_icmp .le 8, 3)) ok_tb_M_init_0 81 rfl
theorem d_M_init_169 : decode prog_6_method_1_code 169 = .ok (.bipush 16, 2) := dOk_get (q := (169, .bipush 16, 2)) ok_tb_M_init_0 82 rfl
theorem d_M_init_171 : decode prog_6_method_1_code 171 = .ok (.goto 4, 3) := dOk_get (q := (171, .goto 4, 3)) ok_tb_M_init_0 83 rfl
theorem d_M_init_174 : decode prog_6_method_1_code 174 = .ok (.iload_n 1, 1) := dOk_get (q := (174, .iload_n 1, 1)) ok_tb_M_init_0 84 rfl
theorem d_M_init_175 : decode prog_6_method_1_code 175 = .ok (.putfield 66, 3) := dOk_get (q := (175, .putfield 66, 3)) ok_tb_M_init_0 85 rfl
theorem d_M_init_178 : decode prog_6_method_1_code 178 = .ok (.return_, 1) := dOk_get (q := (178, .return_, 1)) ok_tb_M_init_0 86 rfl
def tb_M_thrown_0 : List (Nat × Instr × Nat) := [(0, .aload_n 0, 1), (1, .getfield 69, 3), (4, .ireturn, 1)]
theorem ok_tb_M_thrown_0 : dOk prog_6_method_2_code tb_M_thrown_0 = true := by decide +kernel
theorem d_M_thrown_0 : decode prog_6_method_2_code 0 = .ok (.aload_n 0, 1) := dOk_get (q := (0, .aload_n 0, 1)) ok_tb_M_thrown_0 0 rfl
theorem d_M_thrown_1 : decode prog_6_method_2_code 1 = .ok (.getfield 69, 3) := dOk_get (q := (1, .getfield 69, 3)) ok_tb_M_thrown_0 1 rfl
theorem d_M_thrown_4 : decode prog_6_method_2_code 4 = .ok (.ireturn, 1) := dOk_get (q := (4, .ireturn, 1)) ok_tb_M_thrown_0 2 rfl
def tb_M_shape_0 : List (Nat × Instr × Nat) := [(0, .iload_n 1, 1), (1, .iconst (-1), 1), (2, .if_icmp .lt 23, 3), (5, .iload_n 1, 1), (6, .sipush 1000, 3), (9, .if_icmp .ge 16, 3), (12, .iload_n 3, 1), (13, .ifCond .lt 12, 3), (16, .iload_n 3, 1), (17, .iconst 4, 1), (18, .if_icmp .ge 7, 3), (21, .iconst 1, 1), (22, .goto 4, 3), (25, .iconst 0, 1), (26, .istore 4, 2), (28, .aload_n 0, 1), (29, .iload_n 2, 1), (30, .ifCond .lt 11, 3), (33, .iload_n 2, 1), (34, .aload_n 0, 1), (35, .getfield 66, 3), (38, .if_icmp .lt 7, 3), (41, .iconst 1, 1), (42, .goto 13, 3), (45, .iload 4, 2), (47, .ifCond .eq 7, 3), (50, .iconst 0, 1), (51, .goto 4, 3), (54, .iconst 2, 1), (55, .putfield 69, 3), (58, .aload_n 0, 1), (59, .getfield 69, 3), (62, .ifCond .eq 5, 3), (65, .iconst 0, 1), (66, .ireturn, 1), (67, .aload_n 0, 1), (68, .getfield 72, 3), (71, .bipush 60, 2), (73, .if_icmp .ne 5, 3), (76, .iconst (-1), 1), (77, .ireturn, 1), (78, .aload_n 0, 1), (79, .getfield 7, 3), (82, .aload_n 0, 1), (83, .getfield 72, 3), (86, .iload_n 1, 1), (87, .iastore, 1), (88, .aload_n 0, 1), (89, .getfield 13, 3), (92, .aload_n 0, 1), (93, .getfield 72, 3), (96, .iload_n 2, 1), (97, .iastore, 1), (98, .aload_n 0, 1), (99, .getfield 16, 3), (102, .aload_n 0, 1), (103, .getfield 72, 3), (106, .iload_n 3, 1), (107, .iastore, 1), (108, .aload_n 0, 1), (109, .dup, 1), (110, .getfield 72, 3), (113, .iconst 1, 1), (114, .iadd, 1), (115, .putfield 72, 3), (118, .aload_n 0, 1), (119, .getfield 72, 3), (122, .iconst 1, 1), (123, .isub, 1), (124, .ireturn, 1)]
theorem ok_tb_M_shape_0 : dOk prog_6_method_5_code tb_M_shape_0 = true := by decide +kernel
theorem d_M_shape_0 : decode prog_6_method_5_code 0 = .ok (.iload_n 1, 1) := dOk_get (q := (0, .iload_n 1, 1)) ok_tb_M_shape_0 0 rfl
theorem d_M_shape_1 : decode prog_6_method_5_code 1 = .ok (.iconst (-1), 1) := dOk_get (q := (1, .iconst (-1), 1)) ok_tb_M_shape_0 1 rfl
theorem d_M_shape_2 : decode prog_6_method_5_code 2 = .ok (.if_icmp .lt 23, 3) := dOk_get (q := (2, .if_icmp .lt 23, 3)) ok_tb_M_shape_0 2 rfl
theorem d_M_shape_5 : decode prog_6_method_5_code 5 = .ok (.iload_n 1, 1) := dOk_get (q := (5, .iload_n 1, 1)) ok_tb_M_shape_0 3 rfl
theorem d_M_shape_6 : decode prog_6_method_5_code 6 = .ok (.sipush 1000, 3) := dOk_get (q := (6, .sipush 1000, 3)) ok_tb_M_shape_0 4 rfl
theorem d_M_shape_9 : decode prog_6_method_5_code 9 = .ok (.if_icmp .ge 16, 3) := dOk_get (q := (9, .if_icmp .ge 16, 3)) ok_tb_M_shape_0 5 rfl
theorem d_M_shape_12 : decode prog_6_method_5_code 12 = .ok (.iload_n 3, 1) := dOk_get (q := (12, .iload_n 3, 1)) ok_tb_M_shape_0 6 rfl
theorem d_M_shape_13 : decode prog_6_method_5_code 13 = .ok (.ifCond .lt 12, 3) := dOk_get (q := (13, .ifCond .lt 12, 3)) ok_tb_M_shape_0 7 rfl
theorem d_M_shape_16 : decode prog_6_method_5_code 16 = .ok (.iload_n 3, 1) := dOk_get (q := (16, .iload_n 3, 1)) ok_tb_M_shape_0 8 rfl
theorem d_M_shape_17 : decode prog_6_method_5_code 17 = .ok (.iconst 4, 1) := dOk_get (q := (17, .iconst 4, 1)) ok_tb_M_shape_0 9 rfl
theorem d_M_shape_18 : decode prog_6_method_5_code 18 = .ok (.if_icmp .ge 7, 3) := dOk_get (q := (18, .if_icmp .ge 7, 3)) ok_tb_M_shape_0 10 rfl
theorem d_M_shape_21 : decode prog_6_method_5_code 21 = .ok (.iconst 1, 1) := dOk_get (q := (21, .iconst 1, 1)) ok_tb_M_shape_0 11 rfl
theorem d_M_shape_22 : decode prog_6_method_5_code 22 = .ok (.goto 4, 3) := dOk_get (q := (22, .goto 4, 3)) ok_tb_M_shape_0 12 rfl
theorem d_M_shape_25 : decode prog_6_method_5_code 25 = .ok (.iconst 0, 1) := dOk_get (q := (25, .iconst 0, 1)) ok_tb_M_shape_0 13 rfl
theorem d_M_shape_26 : decode prog_6_method_5_code 26 = .ok (.istore 4, 2) := dOk_get (q := (26, .istore 4, 2)) ok_tb_M_shape_0 14 rfl
theorem d_M_shape_28 : decode prog_6_method_5_code 28 = .ok (.aload_n 0, 1) := dOk_get (q := (28, .aload_n 0, 1)) ok_tb_M_shape_0 15 rfl
theorem d_M_shape_29 : decode prog_6_method_5_code 29 = .ok (.iload_n 2, 1) := dOk_get (q := (29, .iload_n 2, 1)) ok_tb_M_shape_0 16 rfl
theorem d_M_shape_30 : decode prog_6_method_5_code 30 = .ok (.ifCond .lt 11, 3) := dOk_get (q := (30, .ifCond .lt 11, 3)) ok_tb_M_shape_0 17 rfl
theorem d_M_shape_33 : decode prog_6_method_5_code 33 = .ok (.iload_n 2, 1) := dOk_get (q := (33, .iload_n 2, 1)) ok_tb_M_shape_0 18 rfl
theorem d_M_shape_34 : decode prog_6_method_5_code 34 = .ok (.aload_n 0, 1) := dOk_get (q := (34, .aload_n 0, 1)) ok_tb_M_shape_0 19 rfl
theorem d_M_shape_35 : decode prog_6_method_5_code 35 = .ok (.getfield 66, 3) := dOk_get (q := (35, .getfield 66, 3)) ok_tb_M_shape_0 20 rfl
theorem d_M_shape_38 : decode prog_6_method_5_code 38 = .ok (.if_icmp .lt 7, 3) := dOk_get (q := (38, .if_icmp .lt 7, 3)) ok_tb_M_shape_0 21 rfl
theorem d_M_shape_41 : decode prog_6_method_5_code 41 = .ok (.iconst 1, 1) := dOk_get (q := (41, .iconst 1, 1)) ok_tb_M_shape_0 22 rfl
theorem d_M_shape_42 : decode prog_6_method_5_code 42 = .ok (.goto 13, 3) := dOk_get (q := (42, .goto 13, 3)) ok_tb_M_shape_0 23 rfl
theorem d_M_shape_45 : decode prog_6_method_5_code 45 = .ok (.iload 4, 2) := dOk_get (q := (45, .iload 4, 2)) ok_tb_M_shape_0 24 rfl
theorem d_M_shape_47 : decode prog_6_method_5_code 47 = .ok (.ifCond .eq 7, 3) := dOk_get (q := (47, .ifCond .eq 7, 3)) ok_tb_M_shape_0 25 rfl
theorem d_M_shape_50 : decode prog_6_method_5_code 50 = .ok (.iconst 0, 1) := dOk_get (q := (50, .iconst 0, 1)) ok_tb_M_shape_0 26 rfl
theorem d_M_shape_51 : decode prog_6_method_5_code 51 = .ok (.goto 4, 3) := dOk_get (q := (51, .goto 4, 3)) ok_tb_M_shape_0 27 rfl
theorem d_M_shape_54 : decode prog_6_method_5_code 54 = .ok (.iconst 2, 1) := dOk_get (q := (54, .iconst 2, 1)) ok_tb_M_shape_0 28 rfl
theorem d_M_shape_55 : decode prog_6_method_5_code 55 = .ok (.putfield 69, 3) := dOk_get (q := (55, .putfield 69, 3)) ok_tb_M_shape_0 29 rfl
theorem d_M_shape_58 : decode prog_6_method_5_code 58 = .ok (.aload_n 0, 1) := dOk_get (q := (58, .aload_n 0, 1)) ok_tb_M_shape_0 30 rfl
theorem d_M_shape_59 : decode prog_6_method_5_code 59 = .ok (.getfield 69, 3) := dOk_get (q := (59, .getfield 69, 3)) ok_tb_M_shape_0 31 rfl
theorem d_M_shape_62 : decode prog_6_method_5_code 62 = .ok (.ifCond .eq 5, 3) := dOk_get (q := (62, .ifCond .eq 5, 3)) ok_tb_M_shape_0 32 rfl
theorem d_M_shape_65 : decode prog_6_method_5_code 65 = .ok (.iconst 0, 1) := dOk_get (q := (65, .iconst 0, 1)) ok_tb_M_shape_0 33 rfl
theorem d_M_shape_66 : decode prog_6_method_5_code 66 = .ok (.ireturn, 1) := dOk_get (q := (66, .ireturn, 1)) ok_tb_M_shape_0 34 rfl
theorem d_M_shape_67 : decode prog_6_method_5_code 67 = .ok (.aload_n 0, 1) := dOk_get (q := (67, .aload_n 0, 1)) ok_tb_M_shape_0 35 rfl
theorem d_M_shape_68 : decode prog_6_method_5_code 68 = .ok (.getfield 72, 3) := dOk_get (q := (68, .getfield 72, 3)) ok_tb_M_shape_0 36 rfl
theorem d_M_shape_71 : decode prog_6_method_5_code 71 = .ok (.bipush 60, 2) := dOk_get (q := (71, .bipush 60, 2)) ok_tb_M_shape_0 37 rfl
theorem d_M_shape_73 : decode prog_6_method_5_code 73 = .ok (.if_icmp .ne 5, 3) := dOk_get (q := (73, .if_icmp .ne 5, 3)) ok_tb_M_shape_0 38 rfl
theorem d_M_shape_76 : decode prog_6_method_5_code 76 = .ok (.iconst (-1), 1) := dOk_get (q := (76, .iconst (-1), 1)) ok_tb_M_shape_0 39 rfl
theorem d_M_shape_77 : decode prog_6_method_5_code 77 = .ok (.ireturn, 1) := dOk_get (q := (77, .ireturn, 1)) ok_tb_M_shape_0 40 rfl
theorem d_M_shape_78 : decode prog_6_method_5_code 78 = .ok (.aload_n 0, 1) := dOk_get (q := (78, .aload_n 0, 1)) ok_tb_M_shape_0 41 rfl
theorem d_M_shape_79 : decode prog_6_method_5_code 79 = .ok (.getfield 7, 3) := dOk_get (q := (79, .getfield 7, 3)) ok_tb_M_shape_0 42 rfl
theorem d_M_shape_82 : decode prog_6_method_5_code 82 = .ok (.aload_n 0, 1) := dOk_get (q := (82, .aload_n 0, 1)) ok_tb_M_shape_0 43 rfl
theorem d_M_shape_83 : decode prog_6_method_5_code 83 = .ok (.getfield 72, 3) := dOk_get (q := (83, .getfield 72, 3)) ok_tb_M_shape_0 44 rfl
theorem d_M_shape_86 : decode prog_6_method_5_code 86 = .ok (.iload_n 1, 1) := dOk_get (q := (86, .iload_n 1, 1)) ok_tb_M_shape_0 45 rfl
theorem d_M_shape_87 : decode prog_6_method_5_code 87 = .ok (.iastore, 1) := dOk_get (q := (87, .iastore, 1)) ok_tb_M_shape_0 46 rfl
theorem d_M_shape_88 : decode prog_6_method_5_code 88 = .ok (.aload_n 0, 1) := dOk_get (q := (88, .aload_n 0, 1)) ok_tb_M_shape_0 47 rfl
theorem d_M_shape_89 : decode prog_6_method_5_code 89 = .ok (.getfield 13, 3) := dOk_get (q := (89, .getfield 13, 3)) ok_tb_M_shape_0 48 rfl
theorem d_M_shape_92 : decode prog_6_method_5_code 92 = .ok (.aload_n 0, 1) := dOk_get (q := (92, .aload_n 0, 1)) ok_tb_M_shape_0 49 rfl
theorem d_M_shape_93 : decode prog_6_method_5_code 93 = .ok (.getfield 72, 3) := dOk_get (q := (93, .getfield 72, 3)) ok_tb_M_shape_0 50 rfl
theorem d_M_shape_96 : decode prog_6_method_5_code 96 = .ok (.iload_n 2, 1) := dOk_get (q := (96, .iload_n 2, 1)) ok_tb_M_shape_0 51 rfl
theorem d_M_shape_97 : decode prog_6_method_5_code 97 = .ok (.iastore, 1) := dOk_get (q := (97, .iastore, 1)) ok_tb_M_shape_0 52 rfl
theorem d_M_shape_98 : decode prog_6_method_5_code 98 = .ok (.aload_n 0, 1) := dOk_get (q := (98, .aload_n 0, 1)) ok_tb_M_shape_0 53 rfl
theorem d_M_shape_99 : decode prog_6_method_5_code 99 = .ok (.getfield 16, 3) := dOk_get (q := (99, .getfield 16, 3)) ok_tb_M_shape_0 54 rfl
theorem d_M_shape_102 : decode prog_6_method_5_code 102 = .ok (.aload_n 0, 1) := dOk_get (q := (102, .aload_n 0, 1)) ok_tb_M_shape_0 55 rfl
theorem d_M_shape_103 : decode prog_6_method_5_code 103 = .ok (.getfield 72, 3) := dOk_get (q := (103, .getfield 72, 3)) ok_tb_M_shape_0 56 rfl
theorem d_M_shape_106 : decode prog_6_method_5_code 106 = .ok (.iload_n 3, 1) := dOk_get (q := (106, .iload_n 3, 1)) ok_tb_M_shape_0 57 rfl
theorem d_M_shape_107 : decode prog_6_method_5_code 107 = .ok (.iastore, 1) := dOk_get (q := (107, .iastore, 1)) ok_tb_M_shape_0 58 rfl
theorem d_M_shape_108 : decode prog_6_method_5_code 108 = .ok (.aload_n 0, 1) := dOk_get (q := (108, .aload_n 0, 1)) ok_tb_M_shape_0 59 rfl
theorem d_M_shape_109 : decode prog_6_method_5_code 109 = .ok (.dup, 1) := dOk_get (q := (109, .dup, 1)) ok_tb_M_shape_0 60 rfl
theorem d_M_shape_110 : decode prog_6_method_5_code 110 = .ok (.getfield 72, 3) := dOk_get (q := (110, .getfield 72, 3)) ok_tb_M_shape_0 61 rfl
theorem d_M_shape_113 : decode prog_6_method_5_code 113 = .ok (.iconst 1, 1) := dOk_get (q := (113, .iconst 1, 1)) ok_tb_M_shape_0 62 rfl
theorem d_M_shape_114 : decode prog_6_method_5_code 114 = .ok (.iadd, 1) := dOk_get (q := (114, .iadd, 1)) ok_tb_M_shape_0 63 rfl
theorem d_M_shape_115 : decode prog_6_method_5_code 115 = .ok (.putfield 72, 3) := dOk_get (q := (115, .putfield 72, 3)) ok_tb_M_shape_0 64 rfl
theorem d_M_shape_118 : decode prog_6_method_5_code 118 = .ok (.aload_n 0, 1) := dOk_get (q := (118, .aload_n 0, 1)) ok_tb_M_shape_0 65 rfl
theorem d_M_shape_119 : decode prog_6_method_5_code 119 = .ok (.getfield 72, 3) := dOk_get (q := (119, .getfield 72, 3)) ok_tb_M_shape_0 66 rfl
theorem d_M_shape_122 : decode prog_6_method_5_code 122 = .ok (.iconst 1, 1) := dOk_get (q := (122, .iconst 1, 1)) ok_tb_M_shape_0 67 rfl
theorem d_M_shape_123 : decode prog_6_method_5_code 123 = .ok (.isub, 1) := dOk_get (q := (123, .isub, 1)) ok_tb_M_shape_0 68 rfl
theorem d_M_shape_124 : decode prog_6_method_5_code 124 = .ok (.ireturn, 1) := dOk_get (q := (124, .ireturn, 1)) ok_tb_M_shape_0 69 rfl
def tb_M_corner_0 : List (Nat × Instr × Nat) := [(0, .aload_n 0, 1), (1, .aload_n 0, 1), (2, .iload_n 1, 1), (3, .invokevirtual 79, 3), (6, .ifCond .ne 7, 3), (9, .iconst 1, 1), (10, .goto 32, 3), (13, .aload_n 0, 1), (14, .getfield 32, 3), (17, .iload_n 1, 1), (18, .laload, 1), (19, .lconst 0, 1), (20, .lcmp, 1), (21, .ifCond .le 7, 3), (24, .iconst 2, 1), (25, .goto 17, 3), (28, .lload_n 2, 1), (29, .lload 4, 2), (31, .invokestatic 83, 3), (34, .ifCond .eq 7, 3), (37, .iconst 0, 1), (38, .goto 4, 3), (41, .iconst 3, 1), (42, .putfield 69, 3), (45, .aload_n 0, 1), (46, .getfield 69, 3), (49, .ifCond .ne 14, 3), (52, .aload_n 0, 1), (53, .getfield 22, 3), (56, .iload_n 1, 1), (57, .iaload, 1), (58, .bipush 8, 2), (60, .if_icmp .ne 5, 3), (63, .iconst 0, 1), (64, .ireturn, 1), (65, .bipush 8, 2), (67, .iload_n 1, 1), (68, .imul, 1), (69, .aload_n 0, 1), (70, .getfield 22, 3), (73, .iload_n 1, 1), (74, .iaload, 1), (75, .iadd, 1), (76, .istore 6, 2), (78, .aload_n 0, 1), (79, .getfield 22, 3), (82, .iload_n 1, 1), (83, .iaload, 1), (84, .ifCond .le 34, 3), (87, .aload_n 0, 1), (88, .getfield 25, 3), (91, .iload 6, 2), (93, .iconst 1, 1), (94, .isub, 1), (95, .laload, 1), (96, .lload_n 2, 1), (97, .lcmp, 1), (98, .ifCond .ne 20, 3), (101, .aload_n 0, 1), (102, .getfield 29, 3), (105, .iload 6, 2), (107, .iconst 1, 1), (108, .isub, 1), (109, .laload, 1), (110, .lload 4, 2), (112, .lcmp, 1), (113, .ifCond .ne 5, 3), (116, .iconst 0, 1), (117, .ireturn, 1), (118, .aload_n 0, 1), (119, .getfield 25, 3), (122, .iload 6, 2), (124, .lload_n 2, 1), (125, .lastore, 1), (126, .aload_n 0, 1), (127, .getfield 29, 3), (130, .iload 6, 2), (132, .lload 4, 2), (134, .lastore, 1), (135, .aload_n 0, 1), (136, .getfield 22, 3), (139, .iload_n 1, 1), (140, .dup2, 1), (141, .iaload, 1), (142, .iconst 1, 1), (143, .iadd, 1), (144, .iastore, 1), (145, .iconst 1, 1), (146, .ireturn, 1)]
theorem ok_tb_M_corner_0 : dOk prog_6_method_6_code tb_M_corner_0 = true := by decide +kernel
theorem d_M_corner_0 : decode prog_6_method_6_code 0 = .ok (.aload_n 0, 1) := dOk_get (q := (0, .aload_n 0, 1)) ok_tb_M_corner_0 0 rfl
theorem d_M_corner_1 : decode prog_6_method_6_code 1 = .ok (.aload_n 0, 1) := dOk_get (q := (1, .aload_n 0, 1)) ok_tb_M_corner_0 1 rfl
theorem d_M_corner_2 : decode prog_6_method_6_code 2 = .ok (.iload_n 1, 1) := dOk_get (q := (2, .iload_n 1, 1)) ok_tb_M_corner_0 2 rfl
theorem d_M_corner_3 : decode prog_6_method_6_code 3 = .ok (.invokevirtual 79, 3) := dOk_get (q := (3, .invokevirtual 79, 3)) ok_tb_M_corner_0 3 rfl
theorem d_M_corner_6 : decode prog_6_method_6_code 6 = .ok (.ifCond .ne 7, 3) := dOk_get (q := (6, .ifCond .ne 7, 3)) ok_tb_M_corner_0 4 rfl
theorem d_M_corner_9 : decode prog_6_method_6_code 9 = .ok (.iconst 1, 1) := dOk_get (q := (9, .iconst 1, 1)) ok_tb_M_corner_0 5 rfl
theorem d_M_corner_10 : decode prog_6_method_6_code 10 = .ok (.goto 32, 3) := dOk_get (q := (10, .goto 32, 3)) ok_tb_M_corner_0 6 rfl
theorem d_M_corner_13 : decode prog_6_method_6_code 13 = .ok (.aload_n 0, 1) := dOk_get (q := (13, .aload_n 0, 1)) ok_tb_M_corner_0 7 rfl
theorem d_M_corner_14 : decode prog_6_method_6_code 14 = .ok (.getfield 32, 3) := dOk_get (q := (14, .getfield 32, 3)) ok_tb_M_corner_0 8 rfl
theorem d_M_corner_17 : decode prog_6_method_6_code 17 = .ok (.iload_n 1, 1) := dOk_get (q := (17, .iload_n 1, 1)) ok_tb_M_corner_0 9 rfl
theorem d_M_corner_18 : decode prog_6_method_6_code 18 = .ok (.laload, 1) := dOk_get (q := (18, .laload, 1)) ok_tb_M_corner_0 10 rfl
theorem d_M_corner_19 : decode prog_6_method_6_code 19 = .ok (.lconst 0, 1) := dOk_get (q := (19, .lconst 0, 1)) ok_tb_M_corner_0 11 rfl
theorem d_M_corner_20 : decode prog_6_method_6_code 20 = .ok (.lcmp, 1) := dOk_get (q := (20, .lcmp, 1)) ok_tb_M_corner_0 12 rfl
theorem d_M_corner_21 : decode prog_6_method_6_code 21 = .ok (.ifCond .le 7, 3) := dOk_get (q := (21, .ifCond .le 7, 3)) ok_tb_M_corner_0 13 rfl
theorem d_M_corner_24 : decode prog_6_method_6_code 24 = .ok (.iconst 2, 1) := dOk_get (q := (24, .iconst 2, 1)) ok_tb_M_corner_0 14 rfl
theorem d_M_corner_25 : decode prog_6_method_6_code 25 = .ok (.goto 17, 3) := dOk_get (q := (25, .goto 17, 3)) ok_tb_M_corner_0 15 rfl
theorem d_M_corner_28 : decode prog_6_method_6_code 28 = .ok (.lload_n 2, 1) := dOk_get (q := (28, .lload_n 2, 1)) ok_tb_M_corner_0 16 rfl
theorem d_M_corner_29 : decode prog_6_method_6_code 29 = .ok (.lload 4, 2) := dOk_get (q := (29, .lload 4, 2)) ok_tb_M_corner_0 17 rfl
theorem d_M_corner_31 : decode prog_6_method_6_code 31 = .ok (.invokestatic 83, 3) := dOk_get (q := (31, .invokestatic 83, 3)) ok_tb_M_corner_0 18 rfl
theorem d_M_corner_34 : decode prog_6_method_6_code 34 = .ok (.ifCond .eq 7, 3) := dOk_get (q := (34, .ifCond .eq 7, 3)) ok_tb_M_corner_0 19 rfl
theorem d_M_corner_37 : decode prog_6_method_6_code 37 = .ok (.iconst 0, 1) := dOk_get (q := (37, .iconst 0, 1)) ok_tb_M_corner_0 20 rfl
theorem d_M_corner_38 : decode prog_6_method_6_code 38 = .ok (.goto 4, 3) := dOk_get (q := (38, .goto 4, 3)) ok_tb_M_corner_0 21 rfl
theorem d_M_corner_41 : decode prog_6_method_6_code 41 = .ok (.iconst 3, 1) := dOk_get (q := (41, .iconst 3, 1)) ok_tb_M_corner_0 22 rfl
theorem d_M_corner_42 : decode prog_6_method_6_code 42 = .ok (.putfield 69, 3) := dOk_get (q := (42, .putfield 69, 3)) ok_tb_M_corner_0 23 rfl
theorem d_M_corner_45 : decode prog_6_method_6_code 45 = .ok (.aload_n 0, 1) := dOk_get (q := (45, .aload_n 0, 1)) ok_tb_M_corner_0 24 rfl
theorem d_M_corner_46 : decode prog_6_method_6_code 46 = .ok (.getfield 69, 3) := dOk_get (q := (46, .getfield 69, 3)) ok_tb_M_corner_0 25 rfl
theorem d_M_corner_49 : decode prog_6_method_6_code 49 = .ok (.ifCond .ne 14, 3) := dOk_get (q := (49, .ifCond .ne 14, 3)) ok_tb_M_corner_0 26 rfl
theorem d_M_corner_52 : decode prog_6_method_6_code 52 = .ok (.aload_n 0, 1) := dOk_get (q := (52, .aload_n 0, 1)) ok_tb_M_corner_0 27 rfl
theorem d_M_corner_53 : decode prog_6_method_6_code 53 = .ok (.getfield 22, 3) := dOk_get (q := (53, .getfield 22, 3)) ok_tb_M_corner_0 28 rfl
theorem d_M_corner_56 : decode prog_6_method_6_code 56 = .ok (.iload_n 1, 1) := dOk_get (q := (56, .iload_n 1, 1)) ok_tb_M_corner_0 29 rfl
theorem d_M_corner_57 : decode prog_6_method_6_code 57 = .ok (.iaload, 1) := dOk_get (q := (57, .iaload, 1)) ok_tb_M_corner_0 30 rfl
theorem d_M_corner_58 : decode prog_6_method_6_code 58 = .ok (.bipush 8, 2) := dOk_get (q := (58, .bipush 8, 2)) ok_tb_M_corner_0 31 rfl
theorem d_M_corner_60 : decode prog_6_method_6_code 60 = .ok (.if_icmp .ne 5, 3) := dOk_get (q := (60, .if_icmp .ne 5, 3)) ok_tb_M_corner_0 32 rfl
theorem d_M_corner_63 : decode prog_6_method_6_code 63 = .ok (.iconst 0, 1) := dOk_get (q := (63, .iconst 0, 1)) ok_tb_M_corner_0 33 rfl
theorem d_M_corner_64 : decode prog_6_method_6_code 64 = .ok (.ireturn, 1) := dOk_get (q := (64, .ireturn, 1)) ok_tb_M_corner_0 34 rfl
theorem d_M_corner_65 : decode prog_6_method_6_code 65 = .ok (.bipush 8, 2) := dOk_get (q := (65, .bipush 8, 2)) ok_tb_M_corner_0 35 rfl
theorem d_M_corner_67 : decode prog_6_method_6_code 67 = .ok (.iload_n 1, 1) := dOk_get (q := (67, .iload_n 1, 1)) ok_tb_M_corner_0 36 rfl
theorem d_M_corner_68 : decode prog_6_method_6_code 68 = .ok (.imul, 1) := dOk_get (q := (68, .imul, 1)) ok_tb_M_corner_0 37 rfl
theorem d_M_corner_69 : decode prog_6_method_6_code 69 = .ok (.aload_n 0, 1) := dOk_get (q := (69, .aload_n 0, 1)) ok_tb_M_corner_0 38 rfl
theorem d_M_corner_70 : decode prog_6_method_6_code 70 = .ok (.getfield 22, 3) := dOk_get (q := (70, .getfield 22, 3)) ok_tb_M_corner_0 39 rfl
theorem d_M_corner_73 : decode prog_6_method_6_code 73 = .ok (.iload_n 1, 1) := dOk_get (q := (73, .iload_n 1, 1)) ok_tb_M_corner_0 40 rfl
theorem d_M_corner_74 : decode prog_6_method_6_code 74 = .ok (.iaload, 1) := dOk_get (q := (74, .iaload, 1)) ok_tb_M_corner_0 41 rfl
theorem d_M_corner_75 : decode prog_6_method_6_code 75 = .ok (.iadd, 1) := dOk_get (q := (75, .iadd, 1)) ok_tb_M_corner_0 42 rfl
theorem d_M_corner_76 : decode prog_6_method_6_code 76 = .ok (.istore 6, 2) := dOk_get (q := (76, .istore 6, 2)) ok_tb_M_corner_0 43 rfl
theorem d_M_corner_78 : decode prog_6_method_6_code 78 = .ok (.aload_n 0, 1) := dOk_get (q := (78, .aload_n 0, 1)) ok_tb_M_corner_0 44 rfl
theorem d_M_corner_79 : decode prog_6_method_6_code 79 = .ok (.getfield 22, 3) := dOk_get (q := (79, .getfield 22, 3)) ok_tb_M_corner_0 45 rfl
theorem d_M_corner_82 : decode prog_6_method_6_code 82 = .ok (.iload_n 1, 1) := dOk_get (q := (82, .iload_n 1, 1)) ok_tb_M_corner_0 46 rfl
theorem d_M_corner_83 : decode prog_6_method_6_code 83 = .ok (.iaload, 1) := dOk_get (q := (83, .iaload, 1)) ok_tb_M_corner_0 47 rfl
theorem d_M_corner_84 : decode prog_6_method_6_code 84 = .ok (.ifCond .le 34, 3) := dOk_get (q := (84, .ifCond .le 34, 3)) ok_tb_M_corner_0 48 rfl
theorem d_M_corner_87 : decode prog_6_method_6_code 87 = .ok (.aload_n 0, 1) := dOk_get (q := (87, .aload_n 0, 1)) ok_tb_M_corner_0 49 rfl
theorem d_M_corner_88 : decode prog_6_method_6_code 88 = .ok (.getfield 25, 3) := dOk_get (q := (88, .getfield 25, 3)) ok_tb_M_corner_0 50 rfl
theorem d_M_corner_91 : decode prog_6_method_6_code 91 = .ok (.iload 6, 2) := dOk_get (q := (91, .iload 6, 2)) ok_tb_M_corner_0 51 rfl
theorem d_M_corner_93 : decode prog_6_method_6_code 93 = .ok (.iconst 1, 1) := dOk_get (q := (93, .iconst 1, 1)) ok_tb_M_corner_0 52 rfl
theorem d_M_corner_94 : decode prog_6_method_6_code 94 = .ok (.isub, 1) := dOk_get (q := (94, .isub, 1)) ok_tb_M_corner_0 53 rfl
theorem d_M_corner_95 : decode prog_6_method_6_code 95 = .ok (.laload, 1) := dOk_get (q := (95, .laload, 1)) ok_tb_M_corner_0 54 rfl
theorem d_M_corner_96 : decode prog_6_method_6_code 96 = .ok (.lload_n 2, 1) := dOk_get (q := (96, .lload_n 2, 1)) ok_tb_M_corner_0 55 rfl
theorem d_M_corner_97 : decode prog_6_method_6_code 97 = .ok (.lcmp, 1) := dOk_get (q := (97, .lcmp, 1)) ok_tb_M_corner_0 56 rfl
theorem d_M_corner_98 : decode prog_6_method_6_code 98 = .ok (.ifCond .ne 20, 3) := dOk_get (q := (98, .ifCond .ne 20, 3)) ok_tb_M_corner_0 57 rfl
theorem d_M_corner_101 : decode prog_6_method_6_code 101 = .ok (.aload_n 0, 1) := dOk_get (q := (101, .aload_n 0, 1)) ok_tb_M_corner_0 58 rfl
theorem d_M_corner_102 : decode prog_6_method_6_code 102 = .ok (.getfield 29, 3) := dOk_get (q := (102, .getfield 29, 3)) ok_tb_M_corner_0 59 rfl
theorem d_M_corner_105 : decode prog_6_method_6_code 105 = .ok (.iload 6, 2) := dOk_get (q := (105, .iload 6, 2)) ok_tb_M_corner_0 60 rfl
theorem d_M_corner_107 : decode prog_6_method_6_code 107 = .ok (.iconst 1, 1) := dOk_get (q := (107, .iconst 1, 1)) ok_tb_M_corner_0 61 rfl
theorem d_M_corner_108 : decode prog_6_method_6_code 108 = .ok (.isub, 1) := dOk_get (q := (108, .isub, 1)) ok_tb_M_corner_0 62 rfl
theorem d_M_corner_109 : decode prog_6_method_6_code 109 = .ok (.laload, 1) := dOk_get (q := (109, .laload, 1)) ok_tb_M_corner_0 63 rfl
theorem d_M_corner_110 : decode prog_6_method_6_code 110 = .ok (.lload 4, 2) := dOk_get (q := (110, .lload 4, 2)) ok_tb_M_corner_0 64 rfl
theorem d_M_corner_112 : decode prog_6_method_6_code 112 = .ok (.lcmp, 1) := dOk_get (q := (112, .lcmp, 1)) ok_tb_M_corner_0 65 rfl
theorem d_M_corner_113 : decode prog_6_method_6_code 113 = .ok (.ifCond .ne 5, 3) := dOk_get (q := (113, .ifCond .ne 5, 3)) ok_tb_M_corner_0 66 rfl
theorem d_M_corner_116 : decode prog_6_method_6_code 116 = .ok (.iconst 0, 1) := dOk_get (q := (116, .iconst 0, 1)) ok_tb_M_corner_0 67 rfl
theorem d_M_corner_117 : decode prog_6_method_6_code 117 = .ok (.ireturn, 1) := dOk_get (q := (117, .ireturn, 1)) ok_tb_M_corner_0 68 rfl
theorem d_M_corner_118 : decode prog_6_method_6_code 118 = .ok (.aload_n 0, 1) := dOk_get (q := (118, .aload_n 0, 1)) ok_tb_M_corner_0 69 rfl
theorem d_M_corner_119 : decode prog_6_method_6_code 119 = .ok (.getfield 25, 3) := dOk_get (q := (119, .getfield 25, 3)) ok_tb_M_corner_0 70 rfl
theorem d_M_corner_122 : decode prog_6_method_6_code 122 = .ok (.iload 6, 2) := dOk_get (q := (122, .iload 6, 2)) ok_tb_M_corner_0 71 rfl
theorem d_M_corner_124 : decode prog_6_method_6_code 124 = .ok (.lload_n 2, 1) := dOk_get (q := (124, .lload_n 2, 1)) ok_tb_M_corner_0 72 rfl
theorem d_M_corner_125 : decode prog_6_method_6_code 125 = .ok (.lastore, 1) := dOk_get (q := (125, .lastore, 1)) ok_tb_M_corner_0 73 rfl
theorem d_M_corner_126 : decode prog_6_method_6_code 126 = .ok (.aload_n 0, 1) := dOk_get (q := (126, .aload_n 0, 1)) ok_tb_M_corner_0 74 rfl
theorem d_M_corner_127 : decode prog_6_method_6_code 127 = .ok (.getfield 29, 3) := dOk_get (q := (127, .getfield 29, 3)) ok_tb_M_corner_0 75 rfl
theorem d_M_corner_130 : decode prog_6_method_6_code 130 = .ok (.iload 6, 2) := dOk_get (q := (130, .iload 6, 2)) ok_tb_M_corner_0 76 rfl
theorem d_M_corner_132 : decode prog_6_method_6_code 132 = .ok (.lload 4, 2) := dOk_get (q := (132, .lload 4, 2)) ok_tb_M_corner_0 77 rfl
theorem d_M_corner_134 : decode prog_6_method_6_code 134 = .ok (.lastore, 1) := dOk_get (q := (134, .lastore, 1)) ok_tb_M_corner_0 78 rfl
theorem d_M_corner_135 : decode prog_6_method_6_code 135 = .ok (.aload_n 0, 1) := dOk_get (q := (135, .aload_n 0, 1)) ok_tb_M_corner_0 79 rfl
theorem d_M_corner_136 : decode prog_6_method_6_code 136 = .ok (.getfield 22, 3) := dOk_get (q := (136, .getfield 22, 3)) ok_tb_M_corner_0 80 rfl
theorem d_M_corner_139 : decode prog_6_method_6_code 139 = .ok (.iload_n 1, 1) := dOk_get (q := (139, .iload_n 1, 1)) ok_tb_M_corner_0 81 rfl
theorem d_M_corner_140 : decode prog_6_method_6_code 140 = .ok (.dup2, 1) := dOk_get (q := (140, .dup2, 1)) ok_tb_M_corner_0 82 rfl
theorem d_M_corner_141 : decode prog_6_method_6_code 141 = .ok (.iaload, 1) := dOk_get (q := (141, .iaload, 1)) ok_tb_M_corner_0 83 rfl
theorem d_M_corner_142 : decode prog_6_method_6_code 142 = .ok (.iconst 1, 1) := dOk_get (q := (142, .iconst 1, 1)) ok_tb_M_corner_0 84 rfl
theorem d_M_corner_143 : decode prog_6_method_6_code 143 = .ok (.iadd, 1) := dOk_get (q := (143, .iadd, 1)) ok_tb_M_corner_0 85 rfl
theorem d_M_corner_144 : decode prog_6_method_6_code 144 = .ok (.iastore, 1) := dOk_get (q := (144, .iastore, 1)) ok_tb_M_corner_0 86 rfl
theorem d_M_corner_145 : decode prog_6_method_6_code 145 = .ok (.iconst 1, 1) := dOk_get (q := (145, .iconst 1, 1)) ok_tb_M_corner_0 87 rfl
theorem d_M_corner_146 : decode prog_6_method_6_code 146 = .ok (.ireturn, 1) := dOk_get (q := (146, .ireturn, 1)) ok_tb_M_corner_0 88 rfl
def tb_M_isShape_0 : List (Nat × Instr × Nat) := [(0, .iload_n 1, 1), (1, .ifCond .lt 15, 3), (4, .iload_n 1, 1), (5, .aload_n 0, 1), (6, .getfield 72, 3), (9, .if_icmp .ge 7, 3), (12, .iconst 1, 1), (13, .goto 4, 3), (16, .iconst 0, 1), (17, .ireturn, 1)]
theorem ok_tb_M_isShape_0 : dOk prog_6_method_3_code tb_M_isShape_0 = true := by decide +kernel
theorem d_M_isShape_0 : decode prog_6_method_3_code 0 = .ok (.iload_n 1, 1) := dOk_get (q := (0, .iload_n 1, 1)) ok_tb_M_isShape_0 0 rfl
theorem d_M_isShape_1 : decode prog_6_method_3_code 1 = .ok (.ifCond .lt 15, 3) := dOk_get (q := (1, .ifCond .lt 15, 3)) ok_tb_M_isShape_0 1 rfl
theorem d_M_isShape_4 : decode prog_6_method_3_code 4 = .ok (.iload_n 1, 1) := dOk_get (q := (4, .iload_n 1, 1)) ok_tb_M_isShape_0 2 rfl
theorem d_M_isShape_5 : decode prog_6_method_3_code 5 = .ok (.aload_n 0, 1) := dOk_get (q := (5, .aload_n 0, 1)) ok_tb_M_isShape_0 3 rfl
theorem d_M_isShape_6 : decode prog_6_method_3_code 6 = .ok (.getfield 72, 3) := dOk_get (q := (6, .getfield 72, 3)) ok_tb_M_isShape_0 4 rfl
theorem d_M_isShape_9 : decode prog_6_method_3_code 9 = .ok (.if_icmp .ge 7, 3) := dOk_get (q := (9, .if_icmp .ge 7, 3)) ok_tb_M_isShape_0 5 rfl
theorem d_M_isShape_12 : decode prog_6_method_3_code 12 = .ok (.iconst 1, 1) := dOk_get (q := (12, .iconst 1, 1)) ok_tb_M_isShape_0 6 rfl
theorem d_M_isShape_13 : decode prog_6_method_3_code 13 = .ok (.goto 4, 3) := dOk_get (q := (13, .goto 4, 3)) ok_tb_M_isShape_0 7 rfl
theorem d_M_isShape_16 : decode prog_6_method_3_code 16 = .ok (.iconst 0, 1) := dOk_get (q := (16, .iconst 0, 1)) ok_tb_M_isShape_0 8 rfl
theorem d_M_isShape_17 : decode prog_6_method_3_code 17 = .ok (.ireturn, 1) := dOk_get (q := (17, .ireturn, 1)) ok_tb_M_isShape_0 9 rfl
def tb_M_isPlace_0 : List (Nat × Instr × Nat) := [(0, .lload_n 0, 1), (1, .ldc2_w 75, 3), (4, .lcmp, 1), (5, .ifCond .lt 31, 3), (8, .lload_n 0, 1), (9, .ldc2_w 77, 3), (12, .lcmp, 1), (13, .ifCond .gt 23, 3), (16, .lload_n 2, 1), (17, .ldc2_w 75, 3), (20, .lcmp, 1), (21, .ifCond .lt 15, 3), (24, .lload_n 2, 1), (25, .ldc2_w 77, 3), (28, .lcmp, 1), (29, .ifCond .gt 7, 3), (32, .iconst 1, 1), (33, .goto 4, 3), (36, .iconst 0, 1), (37, .ireturn, 1)]
theorem ok_tb_M_isPlace_0 : dOk prog_6_method_4_code tb_M_isPlace_0 = true := by decide +kernel
theorem d_M_isPlace_0 : decode prog_6_method_4_code 0 = .ok (.lload_n 0, 1) := dOk_get (q := (0, .lload_n 0, 1)) ok_tb_M_isPlace_0 0 rfl
theorem d_M_isPlace_1 : decode prog_6_method_4_code 1 = .ok (.ldc2_w 75, 3) := dOk_get (q := (1, .ldc2_w 75, 3)) ok_tb_M_isPlace_0 1 rfl
theorem d_M_isPlace_4 : decode prog_6_method_4_code 4 = .ok (.lcmp, 1) := dOk_get (q := (4, .lcmp, 1)) ok_tb_M_isPlace_0 2 rfl
theorem d_M_isPlace_5 : decode prog_6_method_4_code 5 = .ok (.ifCond .lt 31, 3) := dOk_get (q := (5, .ifCond .lt 31, 3)) ok_tb_M_isPlace_0 3 rfl
theorem d_M_isPlace_8 : decode prog_6_method_4_code 8 = .ok (.lload_n 0, 1) := dOk_get (q := (8, .lload_n 0, 1)) ok_tb_M_isPlace_0 4 rfl
theorem d_M_isPlace_9 : decode prog_6_method_4_code 9 = .ok (.ldc2_w 77, 3) := dOk_get (q := (9, .ldc2_w 77, 3)) ok_tb_M_isPlace_0 5 rfl
theorem d_M_isPlace_12 : decode prog_6_method_4_code 12 = .ok (.lcmp, 1) := dOk_get (q := (12, .lcmp, 1)) ok_tb_M_isPlace_0 6 rfl
theorem d_M_isPlace_13 : decode prog_6_method_4_code 13 = .ok (.ifCond .gt 23, 3) := dOk_get (q := (13, .ifCond .gt 23, 3)) ok_tb_M_isPlace_0 7 rfl
theorem d_M_isPlace_16 : decode prog_6_method_4_code 16 = .ok (.lload_n 2, 1) := dOk_get (q := (16, .lload_n 2, 1)) ok_tb_M_isPlace_0 8 rfl
theorem d_M_isPlace_17 : decode prog_6_method_4_code 17 = .ok (.ldc2_w 75, 3) := dOk_get (q := (17, .ldc2_w 75, 3)) ok_tb_M_isPlace_0 9 rfl
theorem d_M_isPlace_20 : decode prog_6_method_4_code 20 = .ok (.lcmp, 1) := dOk_get (q := (20, .lcmp, 1)) ok_tb_M_isPlace_0 10 rfl
theorem d_M_isPlace_21 : decode prog_6_method_4_code 21 = .ok (.ifCond .lt 15, 3) := dOk_get (q := (21, .ifCond .lt 15, 3)) ok_tb_M_isPlace_0 11 rfl
theorem d_M_isPlace_24 : decode prog_6_method_4_code 24 = .ok (.lload_n 2, 1) := dOk_get (q := (24, .lload_n 2, 1)) ok_tb_M_isPlace_0 12 rfl
theorem d_M_isPlace_25 : decode prog_6_method_4_code 25 = .ok (.ldc2_w 77, 3) := dOk_get (q := (25, .ldc2_w 77, 3)) ok_tb_M_isPlace_0 13 rfl
theorem d_M_isPlace_28 : decode prog_6_method_4_code 28 = .ok (.lcmp, 1) := dOk_get (q := (28, .lcmp, 1)) ok_tb_M_isPlace_0 14 rfl
theorem d_M_isPlace_29 : decode prog_6_method_4_code 29 = .ok (.ifCond .gt 7, 3) := dOk_get (q := (29, .ifCond .gt 7, 3)) ok_tb_M_isPlace_0 15 rfl
theorem d_M_isPlace_32 : decode prog_6_method_4_code 32 = .ok (.iconst 1, 1) := dOk_get (q := (32, .iconst 1, 1)) ok_tb_M_isPlace_0 16 rfl
theorem d_M_isPlace_33 : decode prog_6_method_4_code 33 = .ok (.goto 4, 3) := dOk_get (q := (33, .goto 4, 3)) ok_tb_M_isPlace_0 17 rfl
theorem d_M_isPlace_36 : decode prog_6_method_4_code 36 = .ok (.iconst 0, 1) := dOk_get (q := (36, .iconst 0, 1)) ok_tb_M_isPlace_0 18 rfl
theorem d_M_isPlace_37 : decode prog_6_method_4_code 37 = .ok (.ireturn, 1) := dOk_get (q := (37, .ireturn, 1)) ok_tb_M_isPlace_0 19 rfl
def tb_M_closeShape_0 : List (Nat × Instr × Nat) := [(0, .aload_n 0, 1), (1, .aload_n 0, 1), (2, .iload_n 1, 1), (3, .invokevirtual 79, 3), (6, .ifCond .ne 7, 3), (9, .iconst 1, 1), (10, .goto 37, 3), (13, .aload_n 0, 1), (14, .getfield 32, 3), (17, .iload_n 1, 1), (18, .laload, 1), (19, .lconst 0, 1), (20, .lcmp, 1), (21, .ifCond .le 7, 3), (24, .iconst 2, 1), (25, .goto 22, 3), (28, .lload_n 2, 1), (29, .lconst 1, 1), (30, .lcmp, 1), (31, .ifCond .lt 11, 3), (34, .lload_n 2, 1), (35, .ldc2_w 87, 3), (38, .lcmp, 1), (39, .ifCond .le 7, 3), (42, .iconst 3, 1), (43, .goto 4, 3), (46, .iconst 0, 1), (47, .putfield 69, 3), (50, .aload_n 0, 1), (51, .getfield 69, 3), (54, .ifCond .ne 12, 3), (57, .aload_n 0, 1), (58, .getfield 22, 3), (61, .iload_n 1, 1), (62, .iaload, 1), (63, .ifCond .ne 5, 3), (66, .iconst 0, 1), (67, .ireturn, 1), (68, .aload_n 0, 1), (69, .getfield 32, 3), (72, .iload_n 1, 1), (73, .lload_n 2, 1), (74, .lastore, 1), (75, .iconst 1, 1), (76, .ireturn, 1)]
theorem ok_tb_M_closeShape_0 : dOk prog_6_method_7_code tb_M_closeShape_0 = true := by decide +kernel
theorem d_M_closeShape_0 : decode prog_6_method_7_code 0 = .ok (.aload_n 0, 1) := dOk_get (q := (0, .aload_n 0, 1)) ok_tb_M_closeShape_0 0 rfl
theorem d_M_closeShape_1 : decode prog_6_method_7_code 1 = .ok (.aload_n 0, 1) := dOk_get (q := (1, .aload_n 0, 1)) ok_tb_M_closeShape_0 1 rfl
theorem d_M_closeShape_2 : decode prog_6_method_7_code 2 = .ok (.iload_n 1, 1) := dOk_get (q := (2, .iload_n 1, 1)) ok_tb_M_closeShape_0 2 rfl
theorem d_M_closeShape_3 : decode prog_6_method_7_code 3 = .ok (.invokevirtual 79, 3) := dOk_get (q := (3, .invokevirtual 79, 3)) ok_tb_M_closeShape_0 3 rfl
theorem d_M_closeShape_6 : decode prog_6_method_7_code 6 = .ok (.ifCond .ne 7, 3) := dOk_get (q := (6, .ifCond .ne 7, 3)) ok_tb_M_closeShape_0 4 rfl
theorem d_M_closeShape_9 : decode prog_6_method_7_code 9 = .ok (.iconst 1, 1) := dOk_get (q := (9, .iconst 1, 1)) ok_tb_M_closeShape_0 5 rfl
theorem d_M_closeShape_10 : decode prog_6_method_7_code 10 = .ok (.goto 37, 3) := dOk_get (q := (10, .goto 37, 3)) ok_tb_M_closeShape_0 6 rfl
theorem d_M_closeShape_13 : decode prog_6_method_7_code 13 = .ok (.aload_n 0, 1) := dOk_get (q := (13, .aload_n 0, 1)) ok_tb_M_closeShape_0 7 rfl
theorem d_M_closeShape_14 : decode prog_6_method_7_code 14 = .ok (.getfield 32, 3) := dOk_get (q := (14, .getfield 32, 3)) ok_tb_M_closeShape_0 8 rfl
theorem d_M_closeShape_17 : decode prog_6_method_7_code 17 = .ok (.iload_n 1, 1) := dOk_get (q := (17, .iload_n 1, 1)) ok_tb_M_closeShape_0 9 rfl
theorem d_M_closeShape_18 : decode prog_6_method_7_code 18 = .ok (.laload, 1) := dOk_get (q := (18, .laload, 1)) ok_tb_M_closeShape_0 10 rfl
theorem d_M_closeShape_19 : decode prog_6_method_7_code 19 = .ok (.lconst 0, 1) := dOk_get (q := (19, .lconst 0, 1)) ok_tb_M_closeShape_0 11 rfl
theorem d_M_closeShape_20 : decode prog_6_method_7_code 20 = .ok (.lcmp, 1) := dOk_get (q := (20, .lcmp, 1)) ok_tb_M_closeShape_0 12 rfl
theorem d_M_closeShape_21 : decode prog_6_method_7_code 21 = .ok (.ifCond .le 7, 3) := dOk_get (q := (21, .ifCond .le 7, 3)) ok_tb_M_closeShape_0 13 rfl
theorem d_M_closeShape_24 : decode prog_6_method_7_code 24 = .ok (.iconst 2, 1) := dOk_get (q := (24, .iconst 2, 1)) ok_tb_M_closeShape_0 14 rfl
theorem d_M_closeShape_25 : decode prog_6_method_7_code 25 = .ok (.goto 22, 3) := dOk_get (q := (25, .goto 22, 3)) ok_tb_M_closeShape_0 15 rfl
theorem d_M_closeShape_28 : decode prog_6_method_7_code 28 = .ok (.lload_n 2, 1) := dOk_get (q := (28, .lload_n 2, 1)) ok_tb_M_closeShape_0 16 rfl
theorem d_M_closeShape_29 : decode prog_6_method_7_code 29 = .ok (.lconst 1, 1) := dOk_get (q := (29, .lconst 1, 1)) ok_tb_M_closeShape_0 17 rfl
theorem d_M_closeShape_30 : decode prog_6_method_7_code 30 = .ok (.lcmp, 1) := dOk_get (q := (30, .lcmp, 1)) ok_tb_M_closeShape_0 18 rfl
theorem d_M_closeShape_31 : decode prog_6_method_7_code 31 = .ok (.ifCond .lt 11, 3) := dOk_get (q := (31, .ifCond .lt 11, 3)) ok_tb_M_closeShape_0 19 rfl
theorem d_M_closeShape_34 : decode prog_6_method_7_code 34 = .ok (.lload_n 2, 1) := dOk_get (q := (34, .lload_n 2, 1)) ok_tb_M_closeShape_0 20 rfl
theorem d_M_closeShape_35 : decode prog_6_method_7_code 35 = .ok (.ldc2_w 87, 3) := dOk_get (q := (35, .ldc2_w 87, 3)) ok_tb_M_closeShape_0 21 rfl
theorem d_M_closeShape_38 : decode prog_6_method_7_code 38 = .ok (.lcmp, 1) := dOk_get (q := (38, .lcmp, 1)) ok_tb_M_closeShape_0 22 rfl
theorem d_M_closeShape_39 : decode prog_6_method_7_code 39 = .ok (.ifCond .le 7, 3) := dOk_get (q := (39, .ifCond .le 7, 3)) ok_tb_M_closeShape_0 23 rfl
theorem d_M_closeShape_42 : decode prog_6_method_7_code 42 = .ok (.iconst 3, 1) := dOk_get (q := (42, .iconst 3, 1)) ok_tb_M_closeShape_0 24 rfl
theorem d_M_closeShape_43 : decode prog_6_method_7_code 43 = .ok (.goto 4, 3) := dOk_get (q := (43, .goto 4, 3)) ok_tb_M_closeShape_0 25 rfl
theorem d_M_closeShape_46 : decode prog_6_method_7_code 46 = .ok (.iconst 0, 1) := dOk_get (q := (46, .iconst 0, 1)) ok_tb_M_closeShape_0 26 rfl
theorem d_M_closeShape_47 : decode prog_6_method_7_code 47 = .ok (.putfield 69, 3) := dOk_get (q := (47, .putfield 69, 3)) ok_tb_M_closeShape_0 27 rfl
theorem d_M_closeShape_50 : decode prog_6_method_7_code 50 = .ok (.aload_n 0, 1) := dOk_get (q := (50, .aload_n 0, 1)) ok_tb_M_closeShape_0 28 rfl
theorem d_M_closeShape_51 : decode prog_6_method_7_code 51 = .ok (.getfield 69, 3) := dOk_get (q := (51, .getfield 69, 3)) ok_tb_M_closeShape_0 29 rfl
theorem d_M_closeShape_54 : decode prog_6_method_7_code 54 = .ok (.ifCond .ne 12, 3) := dOk_get (q := (54, .ifCond .ne 12, 3)) ok_tb_M_closeShape_0 30 rfl
theorem d_M_closeShape_57 : decode prog_6_method_7_code 57 = .ok (.aload_n 0, 1) := dOk_get (q := (57, .aload_n 0, 1)) ok_tb_M_closeShape_0 31 rfl
theorem d_M_closeShape_58 : decode prog_6_method_7_code 58 = .ok (.getfield 22, 3) := dOk_get (q := (58, .getfield 22, 3)) ok_tb_M_closeShape_0 32 rfl
theorem d_M_closeShape_61 : decode prog_6_method_7_code 61 = .ok (.iload_n 1, 1) := dOk_get (q := (61, .iload_n 1, 1)) ok_tb_M_closeShape_0 33 rfl
theorem d_M_closeShape_62 : decode prog_6_method_7_code 62 = .ok (.iaload, 1) := dOk_get (q := (62, .iaload, 1)) ok_tb_M_closeShape_0 34 rfl
theorem d_M_closeShape_63 : decode prog_6_method_7_code 63 = .ok (.ifCond .ne 5, 3) := dOk_get (q := (63, .ifCond .ne 5, 3)) ok_tb_M_closeShape_0 35 rfl
theorem d_M_closeShape_66 : decode prog_6_method_7_code 66 = .ok (.iconst 0, 1) := dOk_get (q := (66, .iconst 0, 1)) ok_tb_M_closeShape_0 36 rfl
theorem d_M_closeShape_67 : decode prog_6_method_7_code 67 = .ok (.ireturn, 1) := dOk_get (q := (67, .ireturn, 1)) ok_tb_M_closeShape_0 37 rfl
theorem d_M_closeShape_68 : decode prog_6_method_7_code 68 = .ok (.aload_n 0, 1) := dOk_get (q := (68, .aload_n 0, 1)) ok_tb_M_closeShape_0 38 rfl
theorem d_M_closeShape_69 : decode prog_6_method_7_code 69 = .ok (.getfield 32, 3) := dOk_get (q := (69, .getfield 32, 3)) ok_tb_M_closeShape_0 39 rfl
theorem d_M_closeShape_72 : decode prog_6_method_7_code 72 = .ok (.iload_n 1, 1) := dOk_get (q := (72, .iload_n 1, 1)) ok_tb_M_closeShape_0 40 rfl
theorem d_M_closeShape_73 : decode prog_6_method_7_code 73 = .ok (.lload_n 2, 1) := dOk_get (q := (73, .lload_n 2, 1)) ok_tb_M_closeShape_0 41 rfl
theorem d_M_closeShape_74 : decode prog_6_method_7_code 74 = .ok (.lastore, 1) := dOk_get (q := (74, .lastore, 1)) ok_tb_M_closeShape_0 42 rfl
theorem d_M_closeShape_75 : decode prog_6_method_7_code 75 = .ok (.iconst 1, 1) := dOk_get (q := (75, .iconst 1, 1)) ok_tb_M_closeShape_0 43 rfl
theorem d_M_closeShape_76 : decode prog_6_method_7_code 76 = .ok (.ireturn, 1) := dOk_get (q := (76, .ireturn, 1)) ok_tb_M_closeShape_0 44 rfl
def tb_M_rule_0 : List (Nat × Instr × Nat) := [(0, .iload_n 1, 1), (1, .ifCond .lt 52, 3), (4, .iload_n 1, 1), (5, .bipush 7, 2), (7, .if_icmp .ge 46, 3), (10, .iload_n 2, 1), (11, .invokestatic 89, 3), (14, .ifCond .eq 39, 3), (17, .iload_n 3, 1), (18, .invokestatic 89, 3), (21, .ifCond .eq 32, 3), (24, .lload 4, 2), (26, .lconst 0, 1), (27, .lcmp, 1), (28, .ifCond .lt 25, 3), (31, .lload 4, 2), (33, .iload_n 1, 1), (34, .iconst 5, 1), (35, .if_icmp .ge 9, 3), (38, .ldc2_w 87, 3), (41, .goto 4, 3), (44, .lconst 0, 1), (45, .lcmp, 1), (46, .ifCond .gt 7, 3), (49, .iconst 1, 1), (50, .goto 4, 3), (53, .iconst 0, 1), (54, .istore 6, 2), (56, .aload_n 0, 1), (57, .iload 6, 2), (59, .ifCond .eq 7, 3), (62, .iconst 0, 1), (63, .goto 4, 3), (66, .iconst 1, 1), (67, .putfield 69, 3), (70, .aload_n 0, 1), (71, .getfield 69, 3), (74, .ifCond .eq 5, 3), (77, .iconst 0, 1), (78, .ireturn, 1), (79, .aload_n 0, 1), (80, .getfield 92, 3), (83, .bipush 30, 2), (85, .if_icmp .ne 5, 3), (88, .iconst (-1), 1), (89, .ireturn, 1), (90, .aload_n 0, 1), (91, .getfield 35, 3), (94, .aload_n 0, 1), (95, .getfield 92, 3), (98, .iload_n 1, 1), (99, .iastore, 1), (100, .aload_n 0, 1), (101, .getfield 38, 3), (104, .aload_n 0, 1), (105, .getfield 92, 3), (108, .iload_n 2, 1), (109, .iastore, 1), (110, .aload_n 0, 1), (111, .getfield 41, 3), (114, .aload_n 0, 1), (115, .getfield 92, 3), (118, .iload_n 3, 1), (119, .iastore, 1), (120, .aload_n 0, 1), (121, .getfield 44, 3), (124, .aload_n 0, 1), (125, .getfield 92, 3), (128, .lload 4, 2), (130, .lastore, 1), (131, .aload_n 0, 1), (132, .dup, 1), (133, .getfield 92, 3), (136, .iconst 1, 1), (137, .iadd, 1), (138, .putfield 92, 3), (141, .aload_n 0, 1), (142, .getfield 92, 3), (145, .iconst 1, 1), (146, .isub, 1), (147, .ireturn, 1)]
theorem ok_tb_M_rule_0 : dOk prog_6_method_8_code tb_M_rule_0 = true := by decide +kernel
theorem d_M_rule_0 : decode prog_6_method_8_code 0 = .ok (.iload_n 1, 1) := dOk_get (q := (0, .iload_n 1, 1)) ok_tb_M_rule_0 0 rfl
theorem d_M_rule_1 : decode prog_6_method_8_code 1 = .ok (.ifCond .lt 52, 3) := dOk_get (q := (1, .ifCond .lt 52, 3)) ok_tb_M_rule_0 1 rfl
theorem d_M_rule_4 : decode prog_6_method_8_code 4 = .ok (.iload_n 1, 1) := dOk_get (q := (4, .iload_n 1, 1)) ok_tb_M_rule_0 2 rfl
theorem d_M_rule_5 : decode prog_6_method_8_code 5 = .ok (.bipush 7, 2) := dOk_get (q := (5, .bipush 7, 2)) ok_tb_M_rule_0 3 rfl
theorem d_M_rule_7 : decode prog_6_method_8_code 7 = .ok (.if_icmp .ge 46, 3) := dOk_get (q := (7, .if_icmp .ge 46, 3)) ok_tb_M_rule_0 4 rfl
theorem d_M_rule_10 : decode prog_6_method_8_code 10 = .ok (.iload_n 2, 1) := dOk_get (q := (10, .iload_n 2, 1)) ok_tb_M_rule_0 5 rfl
theorem d_M_rule_11 : decode prog_6_method_8_code 11 = .ok (.invokestatic 89, 3) := dOk_get (q := (11, .invokestatic 89, 3)) ok_tb_M_rule_0 6 rfl
theorem d_M_rule_14 : decode prog_6_method_8_code 14 = .ok (.ifCond .eq 39, 3) := dOk_get (q := (14, .ifCond .eq 39, 3)) ok_tb_M_rule_0 7 rfl
theorem d_M_rule_17 : decode prog_6_method_8_code 17 = .ok (.iload_n 3, 1) := dOk_get (q := (17, .iload_n 3, 1)) ok_tb_M_rule_0 8 rfl
theorem d_M_rule_18 : decode prog_6_method_8_code 18 = .ok (.invokestatic 89, 3) := dOk_get (q := (18, .invokestatic 89, 3)) ok_tb_M_rule_0 9 rfl
theorem d_M_rule_21 : decode prog_6_method_8_code 21 = .ok (.ifCond .eq 32, 3) := dOk_get (q := (21, .ifCond .eq 32, 3)) ok_tb_M_rule_0 10 rfl
theorem d_M_rule_24 : decode prog_6_method_8_code 24 = .ok (.lload 4, 2) := dOk_get (q := (24, .lload 4, 2)) ok_tb_M_rule_0 11 rfl
theorem d_M_rule_26 : decode prog_6_method_8_code 26 = .ok (.lconst 0, 1) := dOk_get (q := (26, .lconst 0, 1)) ok_tb_M_rule_0 12 rfl
theorem d_M_rule_27 : decode prog_6_method_8_code 27 = .ok (.lcmp, 1) := dOk_get (q := (27, .lcmp, 1)) ok_tb_M_rule_0 13 rfl
theorem d_M_rule_28 : decode prog_6_method_8_code 28 = .ok (.ifCond .lt 25, 3) := dOk_get (q := (28, .ifCond .lt 25, 3)) ok_tb_M_rule_0 14 rfl
theorem d_M_rule_31 : decode prog_6_method_8_code 31 = .ok (.lload 4, 2) := dOk_get (q := (31, .lload 4, 2)) ok_tb_M_rule_0 15 rfl
theorem d_M_rule_33 : decode prog_6_method_8_code 33 = .ok (.iload_n 1, 1) := dOk_get (q := (33, .iload_n 1, 1)) ok_tb_M_rule_0 16 rfl
theorem d_M_rule_34 : decode prog_6_method_8_code 34 = .ok (.iconst 5, 1) := dOk_get (q := (34, .iconst 5, 1)) ok_tb_M_rule_0 17 rfl
theorem d_M_rule_35 : decode prog_6_method_8_code 35 = .ok (.if_icmp .ge 9, 3) := dOk_get (q := (35, .if_icmp .ge 9, 3)) ok_tb_M_rule_0 18 rfl
theorem d_M_rule_38 : decode prog_6_method_8_code 38 = .ok (.ldc2_w 87, 3) := dOk_get (q := (38, .ldc2_w 87, 3)) ok_tb_M_rule_0 19 rfl
theorem d_M_rule_41 : decode prog_6_method_8_code 41 = .ok (.goto 4, 3) := dOk_get (q := (41, .goto 4, 3)) ok_tb_M_rule_0 20 rfl
theorem d_M_rule_44 : decode prog_6_method_8_code 44 = .ok (.lconst 0, 1) := dOk_get (q := (44, .lconst 0, 1)) ok_tb_M_rule_0 21 rfl
theorem d_M_rule_45 : decode prog_6_method_8_code 45 = .ok (.lcmp, 1) := dOk_get (q := (45, .lcmp, 1)) ok_tb_M_rule_0 22 rfl
theorem d_M_rule_46 : decode prog_6_method_8_code 46 = .ok (.ifCond .gt 7, 3) := dOk_get (q := (46, .ifCond .gt 7, 3)) ok_tb_M_rule_0 23 rfl
theorem d_M_rule_49 : decode prog_6_method_8_code 49 = .ok (.iconst 1, 1) := dOk_get (q := (49, .iconst 1, 1)) ok_tb_M_rule_0 24 rfl
theorem d_M_rule_50 : decode prog_6_method_8_code 50 = .ok (.goto 4, 3) := dOk_get (q := (50, .goto 4, 3)) ok_tb_M_rule_0 25 rfl
theorem d_M_rule_53 : decode prog_6_method_8_code 53 = .ok (.iconst 0, 1) := dOk_get (q := (53, .iconst 0, 1)) ok_tb_M_rule_0 26 rfl
theorem d_M_rule_54 : decode prog_6_method_8_code 54 = .ok (.istore 6, 2) := dOk_get (q := (54, .istore 6, 2)) ok_tb_M_rule_0 27 rfl
theorem d_M_rule_56 : decode prog_6_method_8_code 56 = .ok (.aload_n 0, 1) := dOk_get (q := (56, .aload_n 0, 1)) ok_tb_M_rule_0 28 rfl
theorem d_M_rule_57 : decode prog_6_method_8_code 57 = .ok (.iload 6, 2) := dOk_get (q := (57, .iload 6, 2)) ok_tb_M_rule_0 29 rfl
theorem d_M_rule_59 : decode prog_6_method_8_code 59 = .ok (.ifCond .eq 7, 3) := dOk_get (q := (59, .ifCond .eq 7, 3)) ok_tb_M_rule_0 30 rfl
theorem d_M_rule_62 : decode prog_6_method_8_code 62 = .ok (.iconst 0, 1) := dOk_get (q := (62, .iconst 0, 1)) ok_tb_M_rule_0 31 rfl
theorem d_M_rule_63 : decode prog_6_method_8_code 63 = .ok (.goto 4, 3) := dOk_get (q := (63, .goto 4, 3)) ok_tb_M_rule_0 32 rfl
theorem d_M_rule_66 : decode prog_6_method_8_code 66 = .ok (.iconst 1, 1) := dOk_get (q := (66, .iconst 1, 1)) ok_tb_M_rule_0 33 rfl
theorem d_M_rule_67 : decode prog_6_method_8_code 67 = .ok (.putfield 69, 3) := dOk_get (q := (67, .putfield 69, 3)) ok_tb_M_rule_0 34 rfl
theorem d_M_rule_70 : decode prog_6_method_8_code 70 = .ok (.aload_n 0, 1) := dOk_get (q := (70, .aload_n 0, 1)) ok_tb_M_rule_0 35 rfl
theorem d_M_rule_71 : decode prog_6_method_8_code 71 = .ok (.getfield 69, 3) := dOk_get (q := (71, .getfield 69, 3)) ok_tb_M_rule_0 36 rfl
theorem d_M_rule_74 : decode prog_6_method_8_code 74 = .ok (.ifCond .eq 5, 3) := dOk_get (q := (74, .ifCond .eq 5, 3)) ok_tb_M_rule_0 37 rfl
theorem d_M_rule_77 : decode prog_6_method_8_code 77 = .ok (.iconst 0, 1) := dOk_get (q := (77, .iconst 0, 1)) ok_tb_M_rule_0 38 rfl
theorem d_M_rule_78 : decode prog_6_method_8_code 78 = .ok (.ireturn, 1) := dOk_get (q := (78, .ireturn, 1)) ok_tb_M_rule_0 39 rfl
theorem d_M_rule_79 : decode prog_6_method_8_code 79 = .ok (.aload_n 0, 1) := dOk_get (q := (79, .aload_n 0, 1)) ok_tb_M_rule_0 40 rfl
theorem d_M_rule_80 : decode prog_6_method_8_code 80 = .ok (.getfield 92, 3) := dOk_get (q := (80, .getfield 92, 3)) ok_tb_M_rule_0 41 rfl
theorem d_M_rule_83 : decode prog_6_method_8_code 83 = .ok (.bipush 30, 2) := dOk_get (q := (83, .bipush 30, 2)) ok_tb_M_rule_0 42 rfl
theorem d_M_rule_85 : decode prog_6_method_8_code 85 = .ok (.if_icmp .ne 5, 3) := dOk_get (q := (85, .if_icmp .ne 5, 3)) ok_tb_M_rule_0 43 rfl
theorem d_M_rule_88 : decode prog_6_method_8_code 88 = .ok (.iconst (-1), 1) := dOk_get (q := (88, .iconst (-1), 1)) ok_tb_M_rule_0 44 rfl
theorem d_M_rule_89 : decode prog_6_method_8_code 89 = .ok (.ireturn, 1) := dOk_get (q := (89, .ireturn, 1)) ok_tb_M_rule_0 45 rfl
theorem d_M_rule_90 : decode prog_6_method_8_code 90 = .ok (.aload_n 0, 1) := dOk_get (q := (90, .aload_n 0, 1)) ok_tb_M_rule_0 46 rfl
theorem d_M_rule_91 : decode prog_6_method_8_code 91 = .ok (.getfield 35, 3) := dOk_get (q := (91, .getfield 35, 3)) ok_tb_M_rule_0 47 rfl
theorem d_M_rule_94 : decode prog_6_method_8_code 94 = .ok (.aload_n 0, 1) := dOk_get (q := (94, .aload_n 0, 1)) ok_tb_M_rule_0 48 rfl
theorem d_M_rule_95 : decode prog_6_method_8_code 95 = .ok (.getfield 92, 3) := dOk_get (q := (95, .getfield 92, 3)) ok_tb_M_rule_0 49 rfl
theorem d_M_rule_98 : decode prog_6_method_8_code 98 = .ok (.iload_n 1, 1) := dOk_get (q := (98, .iload_n 1, 1)) ok_tb_M_rule_0 50 rfl
theorem d_M_rule_99 : decode prog_6_method_8_code 99 = .ok (.iastore, 1) := dOk_get (q := (99, .iastore, 1)) ok_tb_M_rule_0 51 rfl
theorem d_M_rule_100 : decode prog_6_method_8_code 100 = .ok (.aload_n 0, 1) := dOk_get (q := (100, .aload_n 0, 1)) ok_tb_M_rule_0 52 rfl
theorem d_M_rule_101 : decode prog_6_method_8_code 101 = .ok (.getfield 38, 3) := dOk_get (q := (101, .getfield 38, 3)) ok_tb_M_rule_0 53 rfl
theorem d_M_rule_104 : decode prog_6_method_8_code 104 = .ok (.aload_n 0, 1) := dOk_get (q := (104, .aload_n 0, 1)) ok_tb_M_rule_0 54 rfl
theorem d_M_rule_105 : decode prog_6_method_8_code 105 = .ok (.getfield 92, 3) := dOk_get (q := (105, .getfield 92, 3)) ok_tb_M_rule_0 55 rfl
theorem d_M_rule_108 : decode prog_6_method_8_code 108 = .ok (.iload_n 2, 1) := dOk_get (q := (108, .iload_n 2, 1)) ok_tb_M_rule_0 56 rfl
theorem d_M_rule_109 : decode prog_6_method_8_code 109 = .ok (.iastore, 1) := dOk_get (q := (109, .iastore, 1)) ok_tb_M_rule_0 57 rfl
theorem d_M_rule_110 : decode prog_6_method_8_code 110 = .ok (.aload_n 0, 1) := dOk_get (q := (110, .aload_n 0, 1)) ok_tb_M_rule_0 58 rfl
theorem d_M_rule_111 : decode prog_6_method_8_code 111 = .ok (.getfield 41, 3) := dOk_get (q := (111, .getfield 41, 3)) ok_tb_M_rule_0 59 rfl
theorem d_M_rule_114 : decode prog_6_method_8_code 114 = .ok (.aload_n 0, 1) := dOk_get (q := (114, .aload_n 0, 1)) ok_tb_M_rule_0 60 rfl
theorem d_M_rule_115 : decode prog_6_method_8_code 115 = .ok (.getfield 92, 3) := dOk_get (q := (115, .getfield 92, 3)) ok_tb_M_rule_0 61 rfl
theorem d_M_rule_118 : decode prog_6_method_8_code 118 = .ok (.iload_n 3, 1) := dOk_get (q := (118, .iload_n 3, 1)) ok_tb_M_rule_0 62 rfl
theorem d_M_rule_119 : decode prog_6_method_8_code 119 = .ok (.iastore, 1) := dOk_get (q := (119, .iastore, 1)) ok_tb_M_rule_0 63 rfl
theorem d_M_rule_120 : decode prog_6_method_8_code 120 = .ok (.aload_n 0, 1) := dOk_get (q := (120, .aload_n 0, 1)) ok_tb_M_rule_0 64 rfl
theorem d_M_rule_121 : decode prog_6_method_8_code 121 = .ok (.getfield 44, 3) := dOk_get (q := (121, .getfield 44, 3)) ok_tb_M_rule_0 65 rfl
theorem d_M_rule_124 : decode prog_6_method_8_code 124 = .ok (.aload_n 0, 1) := dOk_get (q := (124, .aload_n 0, 1)) ok_tb_M_rule_0 66 rfl
theorem d_M_rule_125 : decode prog_6_method_8_code 125 = .ok (.getfield 92, 3) := dOk_get (q := (125, .getfield 92, 3)) ok_tb_M_rule_0 67 rfl
theorem d_M_rule_128 : decode prog_6_method_8_code 128 = .ok (.lload 4, 2) := dOk_get (q := (128, .lload 4, 2)) ok_tb_M_rule_0 68 rfl
theorem d_M_rule_130 : decode prog_6_method_8_code 130 = .ok (.lastore, 1) := dOk_get (q := (130, .lastore, 1)) ok_tb_M_rule_0 69 rfl
theorem d_M_rule_131 : decode prog_6_method_8_code 131 = .ok (.aload_n 0, 1) := dOk_get (q := (131, .aload_n 0, 1)) ok_tb_M_rule_0 70 rfl
theorem d_M_rule_132 : decode prog_6_method_8_code 132 = .ok (.dup, 1) := dOk_get (q := (132, .dup, 1)) ok_tb_M_rule_0 71 rfl
theorem d_M_rule_133 : decode prog_6_method_8_code 133 = .ok (.getfield 92, 3) := dOk_get (q := (133, .getfield 92, 3)) ok_tb_M_rule_0 72 rfl
theorem d_M_rule_136 : decode prog_6_method_8_code 136 = .ok (.iconst 1, 1) := dOk_get (q := (136, .iconst 1, 1)) ok_tb_M_rule_0 73 rfl
theorem d_M_rule_137 : decode prog_6_method_8_code 137 = .ok (.iadd, 1) := dOk_get (q := (137, .iadd, 1)) ok_tb_M_rule_0 74 rfl
theorem d_M_rule_138 : decode prog_6_method_8_code 138 = .ok (.putfield 92, 3) := dOk_get (q := (138, .putfield 92, 3)) ok_tb_M_rule_0 75 rfl
theorem d_M_rule_141 : decode prog_6_method_8_code 141 = .ok (.aload_n 0, 1) := dOk_get (q := (141, .aload_n 0, 1)) ok_tb_M_rule_0 76 rfl
theorem d_M_rule_142 : decode prog_6_method_8_code 142 = .ok (.getfield 92, 3) := dOk_get (q := (142, .getfield 92, 3)) ok_tb_M_rule_0 77 rfl
theorem d_M_rule_145 : decode prog_6_method_8_code 145 = .ok (.iconst 1, 1) := dOk_get (q := (145, .iconst 1, 1)) ok_tb_M_rule_0 78 rfl
theorem d_M_rule_146 : decode prog_6_method_8_code 146 = .ok (.isub, 1) := dOk_get (q := (146, .isub, 1)) ok_tb_M_rule_0 79 rfl
theorem d_M_rule_147 : decode prog_6_method_8_code 147 = .ok (.ireturn, 1) := dOk_get (q := (147, .ireturn, 1)) ok_tb_M_rule_0 80 rfl
def tb_M_isClass_0 : List (Nat × Instr × Nat) := [(0, .iload_n 0, 1), (1, .iconst (-1), 1), (2, .if_icmp .lt 13, 3), (5, .iload_n 0, 1), (6, .bipush 8, 2), (8, .if_icmp .ge 7, 3), (11, .iconst 1, 1), (12, .goto 4, 3), (15, .iconst 0, 1), (16, .ireturn, 1)]
theorem ok_tb_M_isClass_0 : dOk prog_6_method_9_code tb_M_isClass_0 = true := by decide +kernel
theorem d_M_isClass_0 : decode prog_6_method_9_code 0 = .ok (.iload_n 0, 1) := dOk_get (q := (0, .iload_n 0, 1)) ok_tb_M_isClass_0 0 rfl
theorem d_M_isClass_1 : decode prog_6_method_9_code 1 = .ok (.iconst (-1), 1) := dOk_get (q := (1, .iconst (-1), 1)) ok_tb_M_isClass_0 1 rfl
theorem d_M_isClass_2 : decode prog_6_method_9_code 2 = .ok (.if_icmp .lt 13, 3) := dOk_get (q := (2, .if_icmp .lt 13, 3)) ok_tb_M_isClass_0 2 rfl
theorem d_M_isClass_5 : decode prog_6_method_9_code 5 = .ok (.iload_n 0, 1) := dOk_get (q := (5, .iload_n 0, 1)) ok_tb_M_isClass_0 3 rfl
theorem d_M_isClass_6 : decode prog_6_method_9_code 6 = .ok (.bipush 8, 2) := dOk_get (q := (6, .bipush 8, 2)) ok_tb_M_isClass_0 4 rfl
theorem d_M_isClass_8 : decode prog_6_method_9_code 8 = .ok (.if_icmp .ge 7, 3) := dOk_get (q := (8, .if_icmp .ge 7, 3)) ok_tb_M_isClass_0 5 rfl
theorem d_M_isClass_11 : decode prog_6_method_9_code 11 = .ok (.iconst 1, 1) := dOk_get (q := (11, .iconst 1, 1)) ok_tb_M_isClass_0 6 rfl
theorem d_M_isClass_12 : decode prog_6_method_9_code 12 = .ok (.goto 4, 3) := dOk_get (q := (12, .goto 4, 3)) ok_tb_M_isClass_0 7 rfl
theorem d_M_isClass_15 : decode prog_6_method_9_code 15 = .ok (.iconst 0, 1) := dOk_get (q := (15, .iconst 0, 1)) ok_tb_M_isClass_0 8 rfl
theorem d_M_isClass_16 : decode prog_6_method_9_code 16 = .ok (.ireturn, 1) := dOk_get (q := (16, .ireturn, 1)) ok_tb_M_isClass_0 9 rfl
def tb_M_cls_0 : List (Nat × Instr × Nat) := [(0, .aload_n 0, 1), (1, .aload_n 0, 1), (2, .iload_n 1, 1), (3, .invokevirtual 79, 3), (6, .ifCond .ne 7, 3), (9, .iconst 1, 1), (10, .goto 18, 3), (13, .iload_n 2, 1), (14, .ifCond .lt 9, 3), (17, .iload_n 2, 1), (18, .bipush 7, 2), (20, .if_icmp .le 7, 3), (23, .iconst 2, 1), (24, .goto 4, 3), (27, .iconst 0, 1), (28, .putfield 69, 3), (31, .aload_n 0, 1), (32, .getfield 69, 3), (35, .ifCond .ne 13, 3), (38, .aload_n 0, 1), (39, .getfield 19, 3), (42, .iload_n 1, 1), (43, .iaload, 1), (44, .iload_n 2, 1), (45, .if_icmp .ne 5, 3), (48, .iconst 0, 1), (49, .ireturn, 1), (50, .aload_n 0, 1), (51, .getfield 19, 3), (54, .iload_n 1, 1), (55, .iload_n 2, 1), (56, .iastore, 1), (57, .iconst 1, 1), (58, .ireturn, 1)]
theorem ok_tb_M_cls_0 : dOk prog_6_method_10_code tb_M_cls_0 = true := by decide +kernel
theorem d_M_cls_0 : decode prog_6_method_10_code 0 = .ok (.aload_n 0, 1) := dOk_get (q := (0, .aload_n 0, 1)) ok_tb_M_cls_0 0 rfl
theorem d_M_cls_1 : decode prog_6_method_10_code 1 = .ok (.aload_n 0, 1) := dOk_get (q := (1, .aload_n 0, 1)) ok_tb_M_cls_0 1 rfl
theorem d_M_cls_2 : decode prog_6_method_10_code 2 = .ok (.iload_n 1, 1) := dOk_get (q := (2, .iload_n 1, 1)) ok_tb_M_cls_0 2 rfl
theorem d_M_cls_3 : decode prog_6_method_10_code 3 = .ok (.invokevirtual 79, 3) := dOk_get (q := (3, .invokevirtual 79, 3)) ok_tb_M_cls_0 3 rfl
theorem d_M_cls_6 : decode prog_6_method_10_code 6 = .ok (.ifCond .ne 7, 3) := dOk_get (q := (6, .ifCond .ne 7, 3)) ok_tb_M_cls_0 4 rfl
theorem d_M_cls_9 : decode prog_6_method_10_code 9 = .ok (.iconst 1, 1) := dOk_get (q := (9, .iconst 1, 1)) ok_tb_M_cls_0 5 rfl
theorem d_M_cls_10 : decode prog_6_method_10_code 10 = .ok (.goto 18, 3) := dOk_get (q := (10, .goto 18, 3)) ok_tb_M_cls_0 6 rfl
theorem d_M_cls_13 : decode prog_6_method_10_code 13 = .ok (.iload_n 2, 1) := dOk_get (q := (13, .iload_n 2, 1)) ok_tb_M_cls_0 7 rfl
theorem d_M_cls_14 : decode prog_6_method_10_code 14 = .ok (.ifCond .lt 9, 3) := dOk_get (q := (14, .ifCond .lt 9, 3)) ok_tb_M_cls_0 8 rfl
theorem d_M_cls_17 : decode prog_6_method_10_code 17 = .ok (.iload_n 2, 1) := dOk_get (q := (17, .iload_n 2, 1)) ok_tb_M_cls_0 9 rfl
theorem d_M_cls_18 : decode prog_6_method_10_code 18 = .ok (.bipush 7, 2) := dOk_get (q := (18, .bipush 7, 2)) ok_tb_M_cls_0 10 rfl
theorem d_M_cls_20 : decode prog_6_method_10_code 20 = .ok (.if_icmp .le 7, 3) := dOk_get (q := (20, .if_icmp .le 7, 3)) ok_tb_M_cls_0 11 rfl
theorem d_M_cls_23 : decode prog_6_method_10_code 23 = .ok (.iconst 2, 1) := dOk_get (q := (23, .iconst 2, 1)) ok_tb_M_cls_0 12 rfl
theorem d_M_cls_24 : decode prog_6_method_10_code 24 = .ok (.goto 4, 3) := dOk_get (q := (24, .goto 4, 3)) ok_tb_M_cls_0 13 rfl
theorem d_M_cls_27 : decode prog_6_method_10_code 27 = .ok (.iconst 0, 1) := dOk_get (q := (27, .iconst 0, 1)) ok_tb_M_cls_0 14 rfl
theorem d_M_cls_28 : decode prog_6_method_10_code 28 = .ok (.putfield 69, 3) := dOk_get (q := (28, .putfield 69, 3)) ok_tb_M_cls_0 15 rfl
theorem d_M_cls_31 : decode prog_6_method_10_code 31 = .ok (.aload_n 0, 1) := dOk_get (q := (31, .aload_n 0, 1)) ok_tb_M_cls_0 16 rfl
theorem d_M_cls_32 : decode prog_6_method_10_code 32 = .ok (.getfield 69, 3) := dOk_get (q := (32, .getfield 69, 3)) ok_tb_M_cls_0 17 rfl
theorem d_M_cls_35 : decode prog_6_method_10_code 35 = .ok (.ifCond .ne 13, 3) := dOk_get (q := (35, .ifCond .ne 13, 3)) ok_tb_M_cls_0 18 rfl
theorem d_M_cls_38 : decode prog_6_method_10_code 38 = .ok (.aload_n 0, 1) := dOk_get (q := (38, .aload_n 0, 1)) ok_tb_M_cls_0 19 rfl
theorem d_M_cls_39 : decode prog_6_method_10_code 39 = .ok (.getfield 19, 3) := dOk_get (q := (39, .getfield 19, 3)) ok_tb_M_cls_0 20 rfl
theorem d_M_cls_42 : decode prog_6_method_10_code 42 = .ok (.iload_n 1, 1) := dOk_get (q := (42, .iload_n 1, 1)) ok_tb_M_cls_0 21 rfl
theorem d_M_cls_43 : decode prog_6_method_10_code 43 = .ok (.iaload, 1) := dOk_get (q := (43, .iaload, 1)) ok_tb_M_cls_0 22 rfl
theorem d_M_cls_44 : decode prog_6_method_10_code 44 = .ok (.iload_n 2, 1) := dOk_get (q := (44, .iload_n 2, 1)) ok_tb_M_cls_0 23 rfl
theorem d_M_cls_45 : decode prog_6_method_10_code 45 = .ok (.if_icmp .ne 5, 3) := dOk_get (q := (45, .if_icmp .ne 5, 3)) ok_tb_M_cls_0 24 rfl
theorem d_M_cls_48 : decode prog_6_method_10_code 48 = .ok (.iconst 0, 1) := dOk_get (q := (48, .iconst 0, 1)) ok_tb_M_cls_0 25 rfl
theorem d_M_cls_49 : decode prog_6_method_10_code 49 = .ok (.ireturn, 1) := dOk_get (q := (49, .ireturn, 1)) ok_tb_M_cls_0 26 rfl
theorem d_M_cls_50 : decode prog_6_method_10_code 50 = .ok (.aload_n 0, 1) := dOk_get (q := (50, .aload_n 0, 1)) ok_tb_M_cls_0 27 rfl
theorem d_M_cls_51 : decode prog_6_method_10_code 51 = .ok (.getfield 19, 3) := dOk_get (q := (51, .getfield 19, 3)) ok_tb_M_cls_0 28 rfl
theorem d_M_cls_54 : decode prog_6_method_10_code 54 = .ok (.iload_n 1, 1) := dOk_get (q := (54, .iload_n 1, 1)) ok_tb_M_cls_0 29 rfl
theorem d_M_cls_55 : decode prog_6_method_10_code 55 = .ok (.iload_n 2, 1) := dOk_get (q := (55, .iload_n 2, 1)) ok_tb_M_cls_0 30 rfl
theorem d_M_cls_56 : decode prog_6_method_10_code 56 = .ok (.iastore, 1) := dOk_get (q := (56, .iastore, 1)) ok_tb_M_cls_0 31 rfl
theorem d_M_cls_57 : decode prog_6_method_10_code 57 = .ok (.iconst 1, 1) := dOk_get (q := (57, .iconst 1, 1)) ok_tb_M_cls_0 32 rfl
theorem d_M_cls_58 : decode prog_6_method_10_code 58 = .ok (.ireturn, 1) := dOk_get (q := (58, .ireturn, 1)) ok_tb_M_cls_0 33 rfl
def tb_M_move_0 : List (Nat × Instr × Nat) := [(0, .aload_n 0, 1), (1, .aload_n 0, 1), (2, .iload_n 1, 1), (3, .invokevirtual 79, 3), (6, .ifCond .eq 7, 3), (9, .iconst 0, 1), (10, .goto 4, 3), (13, .iconst 1, 1), (14, .putfield 69, 3), (17, .aload_n 0, 1), (18, .getfield 69, 3), (21, .ifCond .eq 5, 3), (24, .iconst 0, 1), (25, .ireturn, 1), (26, .bipush 8, 2), (28, .iload_n 1, 1), (29, .imul, 1), (30, .istore 6, 2), (32, .iload 6, 2), (34, .aload_n 0, 1), (35, .getfield 22, 3), (38, .iload_n 1, 1), (39, .iaload, 1), (40, .iadd, 1), (41, .istore 7, 2), (43, .iconst 1, 1), (44, .istore 8, 2), (46, .iload 6, 2), (48, .istore 9, 2), (50, .iload 9, 2), (52, .iload 7, 2), (54, .if_icmp .ge 80, 3), (57, .iload 8, 2), (59, .ifCond .eq 66, 3), (62, .lload_n 2, 1), (63, .ldc2_w 95, 3), (66, .lcmp, 1), (67, .ifCond .lt 58, 3), (70, .lload_n 2, 1), (71, .ldc2_w 97, 3), (74, .lcmp, 1), (75, .ifCond .gt 50, 3), (78, .lload 4, 2), (80, .ldc2_w 95, 3), (83, .lcmp, 1), (84, .ifCond .lt 41, 3), (87, .lload 4, 2), (89, .ldc2_w 97, 3), (92, .lcmp, 1), (93, .ifCond .gt 32, 3), (96, .aload_n 0, 1), (97, .getfield 25, 3), (100, .iload 9, 2), (102, .laload, 1), (103, .lload_n 2, 1), (104, .ladd, 1), (105, .aload_n 0, 1), (106, .getfield 29, 3), (109, .iload 9, 2), (111, .laload, 1), (112, .lload 4, 2), (114, .ladd, 1), (115, .invokestatic 83, 3), (118, .ifCond .eq 7, 3), (121, .iconst 1, 1), (122, .goto 4, 3), (125, .iconst 0, 1), (126, .istore 8, 2), (128, .iinc 9 1, 3), (131, .goto (-81), 3), (134, .iload 6, 2), (136, .istore 9, 2), (138, .iload 9, 2), (140, .iload 7, 2), (142, .if_icmp .ge 37, 3), (145, .iload 8, 2), (147, .ifCond .eq 32, 3), (150, .aload_n 0, 1), (151, .getfield 25, 3), (154, .iload 9, 2), (156, .dup2, 1), (157, .laload, 1), (158, .lload_n 2, 1), (159, .ladd, 1), (160, .lastore, 1), (161, .aload_n 0, 1), (162, .getfield 29, 3), (165, .iload 9, 2), (167, .dup2, 1), (168, .laload, 1), (169, .lload 4, 2), (171, .ladd, 1), (172, .lastore, 1), (173, .iinc 9 1, 3), (176, .goto (-38), 3), (179, .iload 8, 2), (181, .ireturn, 1)]
theorem ok_tb_M_move_0 : dOk prog_6_method_11_code tb_M_move_0 = true := by decide +kernel
theorem d_M_move_0 : decode prog_6_method_11_code 0 = .ok (.aload_n 0, 1) := dOk_get (q := (0, .aload_n 0, 1)) ok_tb_M_move_0 0 rfl
theorem d_M_move_1 : decode prog_6_method_11_code 1 = .ok (.aload_n 0, 1) := dOk_get (q := (1, .aload_n 0, 1)) ok_tb_M_move_0 1 rfl
theorem d_M_move_2 : decode prog_6_method_11_code 2 = .ok (.iload_n 1, 1) := dOk_get (q := (2, .iload_n 1, 1)) ok_tb_M_move_0 2 rfl
theorem d_M_move_3 : decode prog_6_method_11_code 3 = .ok (.invokevirtual 79, 3) := dOk_get (q := (3, .invokevirtual 79, 3)) ok_tb_M_move_0 3 rfl
theorem d_M_move_6 : decode prog_6_method_11_code 6 = .ok (.ifCond .eq 7, 3) := dOk_get (q := (6, .ifCond .eq 7, 3)) ok_tb_M_move_0 4 rfl
theorem d_M_move_9 : decode prog_6_method_11_code 9 = .ok (.iconst 0, 1) := dOk_get (q := (9, .iconst 0, 1)) ok_tb_M_move_0 5 rfl
theorem d_M_move_10 : decode prog_6_method_11_code 10 = .ok (.goto 4, 3) := dOk_get (q := (10, .goto 4, 3)) ok_tb_M_move_0 6 rfl
theorem d_M_move_13 : decode prog_6_method_11_code 13 = .ok (.iconst 1, 1) := dOk_get (q := (13, .iconst 1, 1)) ok_tb_M_move_0 7 rfl
theorem d_M_move_14 : decode prog_6_method_11_code 14 = .ok (.putfield 69, 3) := dOk_get (q := (14, .putfield 69, 3)) ok_tb_M_move_0 8 rfl
theorem d_M_move_17 : decode prog_6_method_11_code 17 = .ok (.aload_n 0, 1) := dOk_get (q := (17, .aload_n 0, 1)) ok_tb_M_move_0 9 rfl
theorem d_M_move_18 : decode prog_6_method_11_code 18 = .ok (.getfield 69, 3) := dOk_get (q := (18, .getfield 69, 3)) ok_tb_M_move_0 10 rfl
theorem d_M_move_21 : decode prog_6_method_11_code 21 = .ok (.ifCond .eq 5, 3) := dOk_get (q := (21, .ifCond .eq 5, 3)) ok_tb_M_move_0 11 rfl
theorem d_M_move_24 : decode prog_6_method_11_code 24 = .ok (.iconst 0, 1) := dOk_get (q := (24, .iconst 0, 1)) ok_tb_M_move_0 12 rfl
theorem d_M_move_25 : decode prog_6_method_11_code 25 = .ok (.ireturn, 1) := dOk_get (q := (25, .ireturn, 1)) ok_tb_M_move_0 13 rfl
theorem d_M_move_26 : decode prog_6_method_11_code 26 = .ok (.bipush 8, 2) := dOk_get (q := (26, .bipush 8, 2)) ok_tb_M_move_0 14 rfl
theorem d_M_move_28 : decode prog_6_method_11_code 28 = .ok (.iload_n 1, 1) := dOk_get (q := (28, .iload_n 1, 1)) ok_tb_M_move_0 15 rfl
theorem d_M_move_29 : decode prog_6_method_11_code 29 = .ok (.imul, 1) := dOk_get (q := (29, .imul, 1)) ok_tb_M_move_0 16 rfl
theorem d_M_move_30 : decode prog_6_method_11_code 30 = .ok (.istore 6, 2) := dOk_get (q := (30, .istore 6, 2)) ok_tb_M_move_0 17 rfl
theorem d_M_move_32 : decode prog_6_method_11_code 32 = .ok (.iload 6, 2) := dOk_get (q := (32, .iload 6, 2)) ok_tb_M_move_0 18 rfl
theorem d_M_move_34 : decode prog_6_method_11_code 34 = .ok (.aload_n 0, 1) := dOk_get (q := (34, .aload_n 0, 1)) ok_tb_M_move_0 19 rfl
theorem d_M_move_35 : decode prog_6_method_11_code 35 = .ok (.getfield 22, 3) := dOk_get (q := (35, .getfield 22, 3)) ok_tb_M_move_0 20 rfl
theorem d_M_move_38 : decode prog_6_method_11_code 38 = .ok (.iload_n 1, 1) := dOk_get (q := (38, .iload_n 1, 1)) ok_tb_M_move_0 21 rfl
theorem d_M_move_39 : decode prog_6_method_11_code 39 = .ok (.iaload, 1) := dOk_get (q := (39, .iaload, 1)) ok_tb_M_move_0 22 rfl
theorem d_M_move_40 : decode prog_6_method_11_code 40 = .ok (.iadd, 1) := dOk_get (q := (40, .iadd, 1)) ok_tb_M_move_0 23 rfl
theorem d_M_move_41 : decode prog_6_method_11_code 41 = .ok (.istore 7, 2) := dOk_get (q := (41, .istore 7, 2)) ok_tb_M_move_0 24 rfl
theorem d_M_move_43 : decode prog_6_method_11_code 43 = .ok (.iconst 1, 1) := dOk_get (q := (43, .iconst 1, 1)) ok_tb_M_move_0 25 rfl
theorem d_M_move_44 : decode prog_6_method_11_code 44 = .ok (.istore 8, 2) := dOk_get (q := (44, .istore 8, 2)) ok_tb_M_move_0 26 rfl
theorem d_M_move_46 : decode prog_6_method_11_code 46 = .ok (.iload 6, 2) := dOk_get (q := (46, .iload 6, 2)) ok_tb_M_move_0 27 rfl
theorem d_M_move_48 : decode prog_6_method_11_code 48 = .ok (.istore 9, 2) := dOk_get (q := (48, .istore 9, 2)) ok_tb_M_move_0 28 rfl
theorem d_M_move_50 : decode prog_6_method_11_code 50 = .ok (.iload 9, 2) := dOk_get (q := (50, .iload 9, 2)) ok_tb_M_move_0 29 rfl
theorem d_M_move_52 : decode prog_6_method_11_code 52 = .ok (.iload 7, 2) := dOk_get (q := (52, .iload 7, 2)) ok_tb_M_move_0 30 rfl
theorem d_M_move_54 : decode prog_6_method_11_code 54 = .ok (.if_icmp .ge 80, 3) := dOk_get (q := (54, .if_icmp .ge 80, 3)) ok_tb_M_move_0 31 rfl
theorem d_M_move_57 : decode prog_6_method_11_code 57 = .ok (.iload 8, 2) := dOk_get (q := (57, .iload 8, 2)) ok_tb_M_move_0 32 rfl
theorem d_M_move_59 : decode prog_6_method_11_code 59 = .ok (.ifCond .eq 66, 3) := dOk_get (q := (59, .ifCond .eq 66, 3)) ok_tb_M_move_0 33 rfl
theorem d_M_move_62 : decode prog_6_method_11_code 62 = .ok (.lload_n 2, 1) := dOk_get (q := (62, .lload_n 2, 1)) ok_tb_M_move_0 34 rfl
theorem d_M_move_63 : decode prog_6_method_11_code 63 = .ok (.ldc2_w 95, 3) := dOk_get (q := (63, .ldc2_w 95, 3)) ok_tb_M_move_0 35 rfl
theorem d_M_move_66 : decode prog_6_method_11_code 66 = .ok (.lcmp, 1) := dOk_get (q := (66, .lcmp, 1)) ok_tb_M_move_0 36 rfl
theorem d_M_move_67 : decode prog_6_method_11_code 67 = .ok (.ifCond .lt 58, 3) := dOk_get (q := (67, .ifCond .lt 58, 3)) ok_tb_M_move_0 37 rfl
theorem d_M_move_70 : decode prog_6_method_11_code 70 = .ok (.lload_n 2, 1) := dOk_get (q := (70, .lload_n 2, 1)) ok_tb_M_move_0 38 rfl
theorem d_M_move_71 : decode prog_6_method_11_code 71 = .ok (.ldc2_w 97, 3) := dOk_get (q := (71, .ldc2_w 97, 3)) ok_tb_M_move_0 39 rfl
theorem d_M_move_74 : decode prog_6_method_11_code 74 = .ok (.lcmp, 1) := dOk_get (q := (74, .lcmp, 1)) ok_tb_M_move_0 40 rfl
theorem d_M_move_75 : decode prog_6_method_11_code 75 = .ok (.ifCond .gt 50, 3) := dOk_get (q := (75, .ifCond .gt 50, 3)) ok_tb_M_move_0 41 rfl
theorem d_M_move_78 : decode prog_6_method_11_code 78 = .ok (.lload 4, 2) := dOk_get (q := (78, .lload 4, 2)) ok_tb_M_move_0 42 rfl
theorem d_M_move_80 : decode prog_6_method_11_code 80 = .ok (.ldc2_w 95, 3) := dOk_get (q := (80, .ldc2_w 95, 3)) ok_tb_M_move_0 43 rfl
theorem d_M_move_83 : decode prog_6_method_11_code 83 = .ok (.lcmp, 1) := dOk_get (q := (83, .lcmp, 1)) ok_tb_M_move_0 44 rfl
theorem d_M_move_84 : decode prog_6_method_11_code 84 = .ok (.ifCond .lt 41, 3) := dOk_get (q := (84, .ifCond .lt 41, 3)) ok_tb_M_move_0 45 rfl
theorem d_M_move_87 : decode prog_6_method_11_code 87 = .ok (.lload 4, 2) := dOk_get (q := (87, .lload 4, 2)) ok_tb_M_move_0 46 rfl
theorem d_M_move_89 : decode prog_6_method_11_code 89 = .ok (.ldc2_w 97, 3) := dOk_get (q := (89, .ldc2_w 97, 3)) ok_tb_M_move_0 47 rfl
theorem d_M_move_92 : decode prog_6_method_11_code 92 = .ok (.lcmp, 1) := dOk_get (q := (92, .lcmp, 1)) ok_tb_M_move_0 48 rfl
theorem d_M_move_93 : decode prog_6_method_11_code 93 = .ok (.ifCond .gt 32, 3) := dOk_get (q := (93, .ifCond .gt 32, 3)) ok_tb_M_move_0 49 rfl
theorem d_M_move_96 : decode prog_6_method_11_code 96 = .ok (.aload_n 0, 1) := dOk_get (q := (96, .aload_n 0, 1)) ok_tb_M_move_0 50 rfl
theorem d_M_move_97 : decode prog_6_method_11_code 97 = .ok (.getfield 25, 3) := dOk_get (q := (97, .getfield 25, 3)) ok_tb_M_move_0 51 rfl
theorem d_M_move_100 : decode prog_6_method_11_code 100 = .ok (.iload 9, 2) := dOk_get (q := (100, .iload 9, 2)) ok_tb_M_move_0 52 rfl
theorem d_M_move_102 : decode prog_6_method_11_code 102 = .ok (.laload, 1) := dOk_get (q := (102, .laload, 1)) ok_tb_M_move_0 53 rfl
theorem d_M_move_103 : decode prog_6_method_11_code 103 = .ok (.lload_n 2, 1) := dOk_get (q := (103, .lload_n 2, 1)) ok_tb_M_move_0 54 rfl
theorem d_M_move_104 : decode prog_6_method_11_code 104 = .ok (.ladd, 1) := dOk_get (q := (104, .ladd, 1)) ok_tb_M_move_0 55 rfl
theorem d_M_move_105 : decode prog_6_method_11_code 105 = .ok (.aload_n 0, 1) := dOk_get (q := (105, .aload_n 0, 1)) ok_tb_M_move_0 56 rfl
theorem d_M_move_106 : decode prog_6_method_11_code 106 = .ok (.getfield 29, 3) := dOk_get (q := (106, .getfield 29, 3)) ok_tb_M_move_0 57 rfl
theorem d_M_move_109 : decode prog_6_method_11_code 109 = .ok (.iload 9, 2) := dOk_get (q := (109, .iload 9, 2)) ok_tb_M_move_0 58 rfl
theorem d_M_move_111 : decode prog_6_method_11_code 111 = .ok (.laload, 1) := dOk_get (q := (111, .laload, 1)) ok_tb_M_move_0 59 rfl
theorem d_M_move_112 : decode prog_6_method_11_code 112 = .ok (.lload 4, 2) := dOk_get (q := (112, .lload 4, 2)) ok_tb_M_move_0 60 rfl
theorem d_M_move_114 : decode prog_6_method_11_code 114 = .ok (.ladd, 1) := dOk_get (q := (114, .ladd, 1)) ok_tb_M_move_0 61 rfl
theorem d_M_move_115 : decode prog_6_method_11_code 115 = .ok (.invokestatic 83, 3) := dOk_get (q := (115, .invokestatic 83, 3)) ok_tb_M_move_0 62 rfl
theorem d_M_move_118 : decode prog_6_method_11_code 118 = .ok (.ifCond .eq 7, 3) := dOk_get (q := (118, .ifCond .eq 7, 3)) ok_tb_M_move_0 63 rfl
theorem d_M_move_121 : decode prog_6_method_11_code 121 = .ok (.iconst 1, 1) := dOk_get (q := (121, .iconst 1, 1)) ok_tb_M_move_0 64 rfl
theorem d_M_move_122 : decode prog_6_method_11_code 122 = .ok (.goto 4, 3) := dOk_get (q := (122, .goto 4, 3)) ok_tb_M_move_0 65 rfl
theorem d_M_move_125 : decode prog_6_method_11_code 125 = .ok (.iconst 0, 1) := dOk_get (q := (125, .iconst 0, 1)) ok_tb_M_move_0 66 rfl
theorem d_M_move_126 : decode prog_6_method_11_code 126 = .ok (.istore 8, 2) := dOk_get (q := (126, .istore 8, 2)) ok_tb_M_move_0 67 rfl
theorem d_M_move_128 : decode prog_6_method_11_code 128 = .ok (.iinc 9 1, 3) := dOk_get (q := (128, .iinc 9 1, 3)) ok_tb_M_move_0 68 rfl
theorem d_M_move_131 : decode prog_6_method_11_code 131 = .ok (.goto (-81), 3) := dOk_get (q := (131, .goto (-81), 3)) ok_tb_M_move_0 69 rfl
theorem d_M_move_134 : decode prog_6_method_11_code 134 = .ok (.iload 6, 2) := dOk_get (q := (134, .iload 6, 2)) ok_tb_M_move_0 70 rfl
theorem d_M_move_136 : decode prog_6_method_11_code 136 = .ok (.istore 9, 2) := dOk_get (q := (136, .istore 9, 2)) ok_tb_M_move_0 71 rfl
theorem d_M_move_138 : decode prog_6_method_11_code 138 = .ok (.iload 9, 2) := dOk_get (q := (138, .iload 9, 2)) ok_tb_M_move_0 72 rfl
theorem d_M_move_140 : decode prog_6_method_11_code 140 = .ok (.iload 7, 2) := dOk_get (q := (140, .iload 7, 2)) ok_tb_M_move_0 73 rfl
theorem d_M_move_142 : decode prog_6_method_11_code 142 = .ok (.if_icmp .ge 37, 3) := dOk_get (q := (142, .if_icmp .ge 37, 3)) ok_tb_M_move_0 74 rfl
theorem d_M_move_145 : decode prog_6_method_11_code 145 = .ok (.iload 8, 2) := dOk_get (q := (145, .iload 8, 2)) ok_tb_M_move_0 75 rfl
theorem d_M_move_147 : decode prog_6_method_11_code 147 = .ok (.ifCond .eq 32, 3) := dOk_get (q := (147, .ifCond .eq 32, 3)) ok_tb_M_move_0 76 rfl
theorem d_M_move_150 : decode prog_6_method_11_code 150 = .ok (.aload_n 0, 1) := dOk_get (q := (150, .aload_n 0, 1)) ok_tb_M_move_0 77 rfl
theorem d_M_move_151 : decode prog_6_method_11_code 151 = .ok (.getfield 25, 3) := dOk_get (q := (151, .getfield 25, 3)) ok_tb_M_move_0 78 rfl
theorem d_M_move_154 : decode prog_6_method_11_code 154 = .ok (.iload 9, 2) := dOk_get (q := (154, .iload 9, 2)) ok_tb_M_move_0 79 rfl
theorem d_M_move_156 : decode prog_6_method_11_code 156 = .ok (.dup2, 1) := dOk_get (q := (156, .dup2, 1)) ok_tb_M_move_0 80 rfl
theorem d_M_move_157 : decode prog_6_method_11_code 157 = .ok (.laload, 1) := dOk_get (q := (157, .laload, 1)) ok_tb_M_move_0 81 rfl
theorem d_M_move_158 : decode prog_6_method_11_code 158 = .ok (.lload_n 2, 1) := dOk_get (q := (158, .lload_n 2, 1)) ok_tb_M_move_0 82 rfl
theorem d_M_move_159 : decode prog_6_method_11_code 159 = .ok (.ladd, 1) := dOk_get (q := (159, .ladd, 1)) ok_tb_M_move_0 83 rfl
theorem d_M_move_160 : decode prog_6_method_11_code 160 = .ok (.lastore, 1) := dOk_get (q := (160, .lastore, 1)) ok_tb_M_move_0 84 rfl
theorem d_M_move_161 : decode prog_6_method_11_code 161 = .ok (.aload_n 0, 1) := dOk_get (q := (161, .aload_n 0, 1)) ok_tb_M_move_0 85 rfl
theorem d_M_move_162 : decode prog_6_method_11_code 162 = .ok (.getfield 29, 3) := dOk_get (q := (162, .getfield 29, 3)) ok_tb_M_move_0 86 rfl
theorem d_M_move_165 : decode prog_6_method_11_code 165 = .ok (.iload 9, 2) := dOk_get (q := (165, .iload 9, 2)) ok_tb_M_move_0 87 rfl
theorem d_M_move_167 : decode prog_6_method_11_code 167 = .ok (.dup2, 1) := dOk_get (q := (167, .dup2, 1)) ok_tb_M_move_0 88 rfl
theorem d_M_move_168 : decode prog_6_method_11_code 168 = .ok (.laload, 1) := dOk_get (q := (168, .laload, 1)) ok_tb_M_move_0 89 rfl
theorem d_M_move_169 : decode prog_6_method_11_code 169 = .ok (.lload 4, 2) := dOk_get (q := (169, .lload 4, 2)) ok_tb_M_move_0 90 rfl
theorem d_M_move_171 : decode prog_6_method_11_code 171 = .ok (.ladd, 1) := dOk_get (q := (171, .ladd, 1)) ok_tb_M_move_0 91 rfl
theorem d_M_move_172 : decode prog_6_method_11_code 172 = .ok (.lastore, 1) := dOk_get (q := (172, .lastore, 1)) ok_tb_M_move_0 92 rfl
theorem d_M_move_173 : decode prog_6_method_11_code 173 = .ok (.iinc 9 1, 3) := dOk_get (q := (173, .iinc 9 1, 3)) ok_tb_M_move_0 93 rfl
theorem d_M_move_176 : decode prog_6_method_11_code 176 = .ok (.goto (-38), 3) := dOk_get (q := (176, .goto (-38), 3)) ok_tb_M_move_0 94 rfl
theorem d_M_move_179 : decode prog_6_method_11_code 179 = .ok (.iload 8, 2) := dOk_get (q := (179, .iload 8, 2)) ok_tb_M_move_0 95 rfl
theorem d_M_move_181 : decode prog_6_method_11_code 181 = .ok (.ireturn, 1) := dOk_get (q := (181, .ireturn, 1)) ok_tb_M_move_0 96 rfl
def tb_M_run_0 : List (Nat × Instr × Nat) := [(0, .aload_n 0, 1), (1, .iload_n 1, 1), (2, .iconst 1, 1), (3, .if_icmp .lt 13, 3), (6, .iload_n 1, 1), (7, .bipush 8, 2), (9, .if_icmp .gt 7, 3), (12, .iconst 0, 1), (13, .goto 4, 3), (16, .iconst 1, 1), (17, .putfield 69, 3), (20, .aload_n 0, 1), (21, .getfield 69, 3), (24, .ifCond .eq 5, 3), (27, .iconst 0, 1), (28, .ireturn, 1), (29, .aload_n 0, 1), (30, .invokevirtual 193, 3), (33, .aload_n 0, 1), (34, .aload_n 0, 1), (35, .getfield 168, 3), (38, .putfield 196, 3), (41, .iconst 0, 1), (42, .istore 4, 2), (44, .iconst 0, 1), (45, .istore 5, 2), (47, .iload 5, 2), (49, .aload_n 0, 1), (50, .getfield 196, 3), (53, .if_icmp .ge 119, 3), (56, .iconst 0, 1), (57, .istore 6, 2), (59, .iload 6, 2), (61, .iconst 3, 1), (62, .if_icmp .ge 33, 3), (65, .aload_n 0, 1), (66, .getfield 54, 3), (69, .iconst 3, 1), (70, .iload 5, 2), (72, .imul, 1), (73, .iload 6, 2), (75, .iadd, 1), (76, .aload_n 0, 1), (77, .getfield 51, 3), (80, .iconst 3, 1), (81, .iload 5, 2), (83, .imul, 1), (84, .iload 6, 2), (86, .iadd, 1), (87, .iaload, 1), (88, .iastore, 1), (89, .iinc 6 1, 3), (92, .goto (-33), 3), (95, .aload_n 0, 1), (96, .getfield 57, 3), (99, .iload 5, 2), (101, .aload_n 0, 1), (102, .getfield 25, 3), (105, .bipush 8, 2), (107, .aload_n 0, 1), (108, .getfield 54, 3), (111, .iconst 3, 1), (112, .iload 5, 2), (114, .imul, 1), (115, .iconst 1, 1), (116, .iadd, 1), (117, .iaload, 1), (118, .imul, 1), (119, .laload, 1), (120, .lastore, 1), (121, .aload_n 0, 1), (122, .getfield 60, 3), (125, .iload 5, 2), (127, .aload_n 0, 1), (128, .getfield 29, 3), (131, .bipush 8, 2), (133, .aload_n 0, 1), (134, .getfield 54, 3), (137, .iconst 3, 1), (138, .iload 5, 2), (140, .imul, 1), (141, .iconst 1, 1), (142, .iadd, 1), (143, .iaload, 1), (144, .imul, 1), (145, .laload, 1), (146, .lastore, 1), (147, .iload 4, 2), (149, .aload_n 0, 1), (150, .iload 5, 2), (152, .invokevirtual 199, 3), (155, .ifCond .eq 7, 3), (158, .iconst 0, 1), (159, .goto 4, 3), (162, .iconst 1, 1), (163, .iadd, 1), (164, .istore 4, 2), (166, .iinc 5 1, 3), (169, .goto (-122), 3), (172, .iload 4, 2), (174, .ireturn, 1)]
theorem ok_tb_M_run_0 : dOk prog_6_method_36_code tb_M_run_0 = true := by decide +kernel
theorem d_M_run_0 : decode prog_6_method_36_code 0 = .ok (.aload_n 0, 1) := dOk_get (q := (0, .aload_n 0, 1)) ok_tb_M_run_0 0 rfl
theorem d_M_run_1 : decode prog_6_method_36_code 1 = .ok (.iload_n 1, 1) := dOk_get (q := (1, .iload_n 1, 1)) ok_tb_M_run_0 1 rfl
theorem d_M_run_2 : decode prog_6_method_36_code 2 = .ok (.iconst 1, 1) := dOk_get (q := (2, .iconst 1, 1)) ok_tb_M_run_0 2 rfl
theorem d_M_run_3 : decode prog_6_method_36_code 3 = .ok (.if_icmp .lt 13, 3) := dOk_get (q := (3, .if_icmp .lt 13, 3)) ok_tb_M_run_0 3 rfl
theorem d_M_run_6 : decode prog_6_method_36_code 6 = .ok (.iload_n 1, 1) := dOk_get (q := (6, .iload_n 1, 1)) ok_tb_M_run_0 4 rfl
theorem d_M_run_7 : decode prog_6_method_36_code 7 = .ok (.bipush 8, 2) := dOk_get (q := (7, .bipush 8, 2)) ok_tb_M_run_0 5 rfl
theorem d_M_run_9 : decode prog_6_method_36_code 9 = .ok (.if_icmp .gt 7, 3) := dOk_get (q := (9, .if_icmp .gt 7, 3)) ok_tb_M_run_0 6 rfl
theorem d_M_run_12 : decode prog_6_method_36_code 12 = .ok (.iconst 0, 1) := dOk_get (q := (12, .iconst 0, 1)) ok_tb_M_run_0 7 rfl
theorem d_M_run_13 : decode prog_6_method_36_code 13 = .ok (.goto 4, 3) := dOk_get (q := (13, .goto 4, 3)) ok_tb_M_run_0 8 rfl
theorem d_M_run_16 : decode prog_6_method_36_code 16 = .ok (.iconst 1, 1) := dOk_get (q := (16, .iconst 1, 1)) ok_tb_M_run_0 9 rfl
theorem d_M_run_17 : decode prog_6_method_36_code 17 = .ok (.putfield 69, 3) := dOk_get (q := (17, .putfield 69, 3)) ok_tb_M_run_0 10 rfl
theorem d_M_run_20 : decode prog_6_method_36_code 20 = .ok (.aload_n 0, 1) := dOk_get (q := (20, .aload_n 0, 1)) ok_tb_M_run_0 11 rfl
theorem d_M_run_21 : decode prog_6_method_36_code 21 = .ok (.getfield 69, 3) := dOk_get (q := (21, .getfield 69, 3)) ok_tb_M_run_0 12 rfl
theorem d_M_run_24 : decode prog_6_method_36_code 24 = .ok (.ifCond .eq 5, 3) := dOk_get (q := (24, .ifCond .eq 5, 3)) ok_tb_M_run_0 13 rfl
theorem d_M_run_27 : decode prog_6_method_36_code 27 = .ok (.iconst 0, 1) := dOk_get (q := (27, .iconst 0, 1)) ok_tb_M_run_0 14 rfl
theorem d_M_run_28 : decode prog_6_method_36_code 28 = .ok (.ireturn, 1) := dOk_get (q := (28, .ireturn, 1)) ok_tb_M_run_0 15 rfl
theorem d_M_run_29 : decode prog_6_method_36_code 29 = .ok (.aload_n 0, 1) := dOk_get (q := (29, .aload_n 0, 1)) ok_tb_M_run_0 16 rfl
theorem d_M_run_30 : decode prog_6_method_36_code 30 = .ok (.invokevirtual 193, 3) := dOk_get (q := (30, .invokevirtual 193, 3)) ok_tb_M_run_0 17 rfl
theorem d_M_run_33 : decode prog_6_method_36_code 33 = .ok (.aload_n 0, 1) := dOk_get (q := (33, .aload_n 0, 1)) ok_tb_M_run_0 18 rfl
theorem d_M_run_34 : decode prog_6_method_36_code 34 = .ok (.aload_n 0, 1) := dOk_get (q := (34, .aload_n 0, 1)) ok_tb_M_run_0 19 rfl
theorem d_M_run_35 : decode prog_6_method_36_code 35 = .ok (.getfield 168, 3) := dOk_get (q := (35, .getfield 168, 3)) ok_tb_M_run_0 20 rfl
theorem d_M_run_38 : decode prog_6_method_36_code 38 = .ok (.putfield 196, 3) := dOk_get (q := (38, .putfield 196, 3)) ok_tb_M_run_0 21 rfl
theorem d_M_run_41 : decode prog_6_method_36_code 41 = .ok (.iconst 0, 1) := dOk_get (q := (41, .iconst 0, 1)) ok_tb_M_run_0 22 rfl
theorem d_M_run_42 : decode prog_6_method_36_code 42 = .ok (.istore 4, 2) := dOk_get (q := (42, .istore 4, 2)) ok_tb_M_run_0 23 rfl
theorem d_M_run_44 : decode prog_6_method_36_code 44 = .ok (.iconst 0, 1) := dOk_get (q := (44, .iconst 0, 1)) ok_tb_M_run_0 24 rfl
theorem d_M_run_45 : decode prog_6_method_36_code 45 = .ok (.istore 5, 2) := dOk_get (q := (45, .istore 5, 2)) ok_tb_M_run_0 25 rfl
theorem d_M_run_47 : decode prog_6_method_36_code 47 = .ok (.iload 5, 2) := dOk_get (q := (47, .iload 5, 2)) ok_tb_M_run_0 26 rfl
theorem d_M_run_49 : decode prog_6_method_36_code 49 = .ok (.aload_n 0, 1) := dOk_get (q := (49, .aload_n 0, 1)) ok_tb_M_run_0 27 rfl
theorem d_M_run_50 : decode prog_6_method_36_code 50 = .ok (.getfield 196, 3) := dOk_get (q := (50, .getfield 196, 3)) ok_tb_M_run_0 28 rfl
theorem d_M_run_53 : decode prog_6_method_36_code 53 = .ok (.if_icmp .ge 119, 3) := dOk_get (q := (53, .if_icmp .ge 119, 3)) ok_tb_M_run_0 29 rfl
theorem d_M_run_56 : decode prog_6_method_36_code 56 = .ok (.iconst 0, 1) := dOk_get (q := (56, .iconst 0, 1)) ok_tb_M_run_0 30 rfl
theorem d_M_run_57 : decode prog_6_method_36_code 57 = .ok (.istore 6, 2) := dOk_get (q := (57, .istore 6, 2)) ok_tb_M_run_0 31 rfl
theorem d_M_run_59 : decode prog_6_method_36_code 59 = .ok (.iload 6, 2) := dOk_get (q := (59, .iload 6, 2)) ok_tb_M_run_0 32 rfl
theorem d_M_run_61 : decode prog_6_method_36_code 61 = .ok (.iconst 3, 1) := dOk_get (q := (61, .iconst 3, 1)) ok_tb_M_run_0 33 rfl
theorem d_M_run_62 : decode prog_6_method_36_code 62 = .ok (.if_icmp .ge 33, 3) := dOk_get (q := (62, .if_icmp .ge 33, 3)) ok_tb_M_run_0 34 rfl
theorem d_M_run_65 : decode prog_6_method_36_code 65 = .ok (.aload_n 0, 1) := dOk_get (q := (65, .aload_n 0, 1)) ok_tb_M_run_0 35 rfl
theorem d_M_run_66 : decode prog_6_method_36_code 66 = .ok (.getfield 54, 3) := dOk_get (q := (66, .getfield 54, 3)) ok_tb_M_run_0 36 rfl
theorem d_M_run_69 : decode prog_6_method_36_code 69 = .ok (.iconst 3, 1) := dOk_get (q := (69, .iconst 3, 1)) ok_tb_M_run_0 37 rfl
theorem d_M_run_70 : decode prog_6_method_36_code 70 = .ok (.iload 5, 2) := dOk_get (q := (70, .iload 5, 2)) ok_tb_M_run_0 38 rfl
theorem d_M_run_72 : decode prog_6_method_36_code 72 = .ok (.imul, 1) := dOk_get (q := (72, .imul, 1)) ok_tb_M_run_0 39 rfl
theorem d_M_run_73 : decode prog_6_method_36_code 73 = .ok (.iload 6, 2) := dOk_get (q := (73, .iload 6, 2)) ok_tb_M_run_0 40 rfl
theorem d_M_run_75 : decode prog_6_method_36_code 75 = .ok (.iadd, 1) := dOk_get (q := (75, .iadd, 1)) ok_tb_M_run_0 41 rfl
theorem d_M_run_76 : decode prog_6_method_36_code 76 = .ok (.aload_n 0, 1) := dOk_get (q := (76, .aload_n 0, 1)) ok_tb_M_run_0 42 rfl
theorem d_M_run_77 : decode prog_6_method_36_code 77 = .ok (.getfield 51, 3) := dOk_get (q := (77, .getfield 51, 3)) ok_tb_M_run_0 43 rfl
theorem d_M_run_80 : decode prog_6_method_36_code 80 = .ok (.iconst 3, 1) := dOk_get (q := (80, .iconst 3, 1)) ok_tb_M_run_0 44 rfl
theorem d_M_run_81 : decode prog_6_method_36_code 81 = .ok (.iload 5, 2) := dOk_get (q := (81, .iload 5, 2)) ok_tb_M_run_0 45 rfl
theorem d_M_run_83 : decode prog_6_method_36_code 83 = .ok (.imul, 1) := dOk_get (q := (83, .imul, 1)) ok_tb_M_run_0 46 rfl
theorem d_M_run_84 : decode prog_6_method_36_code 84 = .ok (.iload 6, 2) := dOk_get (q := (84, .iload 6, 2)) ok_tb_M_run_0 47 rfl
theorem d_M_run_86 : decode prog_6_method_36_code 86 = .ok (.iadd, 1) := dOk_get (q := (86, .iadd, 1)) ok_tb_M_run_0 48 rfl
theorem d_M_run_87 : decode prog_6_method_36_code 87 = .ok (.iaload, 1) := dOk_get (q := (87, .iaload, 1)) ok_tb_M_run_0 49 rfl
theorem d_M_run_88 : decode prog_6_method_36_code 88 = .ok (.iastore, 1) := dOk_get (q := (88, .iastore, 1)) ok_tb_M_run_0 50 rfl
theorem d_M_run_89 : decode prog_6_method_36_code 89 = .ok (.iinc 6 1, 3) := dOk_get (q := (89, .iinc 6 1, 3)) ok_tb_M_run_0 51 rfl
theorem d_M_run_92 : decode prog_6_method_36_code 92 = .ok (.goto (-33), 3) := dOk_get (q := (92, .goto (-33), 3)) ok_tb_M_run_0 52 rfl
theorem d_M_run_95 : decode prog_6_method_36_code 95 = .ok (.aload_n 0, 1) := dOk_get (q := (95, .aload_n 0, 1)) ok_tb_M_run_0 53 rfl
theorem d_M_run_96 : decode prog_6_method_36_code 96 = .ok (.getfield 57, 3) := dOk_get (q := (96, .getfield 57, 3)) ok_tb_M_run_0 54 rfl
theorem d_M_run_99 : decode prog_6_method_36_code 99 = .ok (.iload 5, 2) := dOk_get (q := (99, .iload 5, 2)) ok_tb_M_run_0 55 rfl
theorem d_M_run_101 : decode prog_6_method_36_code 101 = .ok (.aload_n 0, 1) := dOk_get (q := (101, .aload_n 0, 1)) ok_tb_M_run_0 56 rfl
theorem d_M_run_102 : decode prog_6_method_36_code 102 = .ok (.getfield 25, 3) := dOk_get (q := (102, .getfield 25, 3)) ok_tb_M_run_0 57 rfl
theorem d_M_run_105 : decode prog_6_method_36_code 105 = .ok (.bipush 8, 2) := dOk_get (q := (105, .bipush 8, 2)) ok_tb_M_run_0 58 rfl
theorem d_M_run_107 : decode prog_6_method_36_code 107 = .ok (.aload_n 0, 1) := dOk_get (q := (107, .aload_n 0, 1)) ok_tb_M_run_0 59 rfl
theorem d_M_run_108 : decode prog_6_method_36_code 108 = .ok (.getfield 54, 3) := dOk_get (q := (108, .getfield 54, 3)) ok_tb_M_run_0 60 rfl
theorem d_M_run_111 : decode prog_6_method_36_code 111 = .ok (.iconst 3, 1) := dOk_get (q := (111, .iconst 3, 1)) ok_tb_M_run_0 61 rfl
theorem d_M_run_112 : decode prog_6_method_36_code 112 = .ok (.iload 5, 2) := dOk_get (q := (112, .iload 5, 2)) ok_tb_M_run_0 62 rfl
theorem d_M_run_114 : decode prog_6_method_36_code 114 = .ok (.imul, 1) := dOk_get (q := (114, .imul, 1)) ok_tb_M_run_0 63 rfl
theorem d_M_run_115 : decode prog_6_method_36_code 115 = .ok (.iconst 1, 1) := dOk_get (q := (115, .iconst 1, 1)) ok_tb_M_run_0 64 rfl
theorem d_M_run_116 : decode prog_6_method_36_code 116 = .ok (.iadd, 1) := dOk_get (q := (116, .iadd, 1)) ok_tb_M_run_0 65 rfl
theorem d_M_run_117 : decode prog_6_method_36_code 117 = .ok (.iaload, 1) := dOk_get (q := (117, .iaload, 1)) ok_tb_M_run_0 66 rfl
theorem d_M_run_118 : decode prog_6_method_36_code 118 = .ok (.imul, 1) := dOk_get (q := (118, .imul, 1)) ok_tb_M_run_0 67 rfl
theorem d_M_run_119 : decode prog_6_method_36_code 119 = .ok (.laload, 1) := dOk_get (q := (119, .laload, 1)) ok_tb_M_run_0 68 rfl
theorem d_M_run_120 : decode prog_6_method_36_code 120 = .ok (.lastore, 1) := dOk_get (q := (120, .lastore, 1)) ok_tb_M_run_0 69 rfl
theorem d_M_run_121 : decode prog_6_method_36_code 121 = .ok (.aload_n 0, 1) := dOk_get (q := (121, .aload_n 0, 1)) ok_tb_M_run_0 70 rfl
theorem d_M_run_122 : decode prog_6_method_36_code 122 = .ok (.getfield 60, 3) := dOk_get (q := (122, .getfield 60, 3)) ok_tb_M_run_0 71 rfl
theorem d_M_run_125 : decode prog_6_method_36_code 125 = .ok (.iload 5, 2) := dOk_get (q := (125, .iload 5, 2)) ok_tb_M_run_0 72 rfl
theorem d_M_run_127 : decode prog_6_method_36_code 127 = .ok (.aload_n 0, 1) := dOk_get (q := (127, .aload_n 0, 1)) ok_tb_M_run_0 73 rfl
theorem d_M_run_128 : decode prog_6_method_36_code 128 = .ok (.getfield 29, 3) := dOk_get (q := (128, .getfield 29, 3)) ok_tb_M_run_0 74 rfl
theorem d_M_run_131 : decode prog_6_method_36_code 131 = .ok (.bipush 8, 2) := dOk_get (q := (131, .bipush 8, 2)) ok_tb_M_run_0 75 rfl
theorem d_M_run_133 : decode prog_6_method_36_code 133 = .ok (.aload_n 0, 1) := dOk_get (q := (133, .aload_n 0, 1)) ok_tb_M_run_0 76 rfl
theorem d_M_run_134 : decode prog_6_method_36_code 134 = .ok (.getfield 54, 3) := dOk_get (q := (134, .getfield 54, 3)) ok_tb_M_run_0 77 rfl
theorem d_M_run_137 : decode prog_6_method_36_code 137 = .ok (.iconst 3, 1) := dOk_get (q := (137, .iconst 3, 1)) ok_tb_M_run_0 78 rfl
theorem d_M_run_138 : decode prog_6_method_36_code 138 = .ok (.iload 5, 2) := dOk_get (q := (138, .iload 5, 2)) ok_tb_M_run_0 79 rfl
theorem d_M_run_140 : decode prog_6_method_36_code 140 = .ok (.imul, 1) := dOk_get (q := (140, .imul, 1)) ok_tb_M_run_0 80 rfl
theorem d_M_run_141 : decode prog_6_method_36_code 141 = .ok (.iconst 1, 1) := dOk_get (q := (141, .iconst 1, 1)) ok_tb_M_run_0 81 rfl
theorem d_M_run_142 : decode prog_6_method_36_code 142 = .ok (.iadd, 1) := dOk_get (q := (142, .iadd, 1)) ok_tb_M_run_0 82 rfl
theorem d_M_run_143 : decode prog_6_method_36_code 143 = .ok (.iaload, 1) := dOk_get (q := (143, .iaload, 1)) ok_tb_M_run_0 83 rfl
theorem d_M_run_144 : decode prog_6_method_36_code 144 = .ok (.imul, 1) := dOk_get (q := (144, .imul, 1)) ok_tb_M_run_0 84 rfl
theorem d_M_run_145 : decode prog_6_method_36_code 145 = .ok (.laload, 1) := dOk_get (q := (145, .laload, 1)) ok_tb_M_run_0 85 rfl
theorem d_M_run_146 : decode prog_6_method_36_code 146 = .ok (.lastore, 1) := dOk_get (q := (146, .lastore, 1)) ok_tb_M_run_0 86 rfl
theorem d_M_run_147 : decode prog_6_method_36_code 147 = .ok (.iload 4, 2) := dOk_get (q := (147, .iload 4, 2)) ok_tb_M_run_0 87 rfl
theorem d_M_run_149 : decode prog_6_method_36_code 149 = .ok (.aload_n 0, 1) := dOk_get (q := (149, .aload_n 0, 1)) ok_tb_M_run_0 88 rfl
theorem d_M_run_150 : decode prog_6_method_36_code 150 = .ok (.iload 5, 2) := dOk_get (q := (150, .iload 5, 2)) ok_tb_M_run_0 89 rfl
theorem d_M_run_152 : decode prog_6_method_36_code 152 = .ok (.invokevirtual 199, 3) := dOk_get (q := (152, .invokevirtual 199, 3)) ok_tb_M_run_0 90 rfl
theorem d_M_run_155 : decode prog_6_method_36_code 155 = .ok (.ifCond .eq 7, 3) := dOk_get (q := (155, .ifCond .eq 7, 3)) ok_tb_M_run_0 91 rfl
theorem d_M_run_158 : decode prog_6_method_36_code 158 = .ok (.iconst 0, 1) := dOk_get (q := (158, .iconst 0, 1)) ok_tb_M_run_0 92 rfl
theorem d_M_run_159 : decode prog_6_method_36_code 159 = .ok (.goto 4, 3) := dOk_get (q := (159, .goto 4, 3)) ok_tb_M_run_0 93 rfl
theorem d_M_run_162 : decode prog_6_method_36_code 162 = .ok (.iconst 1, 1) := dOk_get (q := (162, .iconst 1, 1)) ok_tb_M_run_0 94 rfl
theorem d_M_run_163 : decode prog_6_method_36_code 163 = .ok (.iadd, 1) := dOk_get (q := (163, .iadd, 1)) ok_tb_M_run_0 95 rfl
theorem d_M_run_164 : decode prog_6_method_36_code 164 = .ok (.istore 4, 2) := dOk_get (q := (164, .istore 4, 2)) ok_tb_M_run_0 96 rfl
theorem d_M_run_166 : decode prog_6_method_36_code 166 = .ok (.iinc 5 1, 3) := dOk_get (q := (166, .iinc 5 1, 3)) ok_tb_M_run_0 97 rfl
theorem d_M_run_169 : decode prog_6_method_36_code 169 = .ok (.goto (-122), 3) := dOk_get (q := (169, .goto (-122), 3)) ok_tb_M_run_0 98 rfl
theorem d_M_run_172 : decode prog_6_method_36_code 172 = .ok (.iload 4, 2) := dOk_get (q := (172, .iload 4, 2)) ok_tb_M_run_0 99 rfl
theorem d_M_run_174 : decode prog_6_method_36_code 174 = .ok (.ireturn, 1) := dOk_get (q := (174, .ireturn, 1)) ok_tb_M_run_0 100 rfl
def tb_M_find_0 : List (Nat × Instr × Nat) := [(0, .aload_n 0, 1), (1, .iconst 0, 1), (2, .putfield 168, 3), (5, .iconst 0, 1), (6, .istore_n 1, 1), (7, .iload_n 1, 1), (8, .aload_n 0, 1), (9, .getfield 72, 3), (12, .if_icmp .ge 159, 3), (15, .aload_n 0, 1), (16, .getfield 32, 3), (19, .iload_n 1, 1), (20, .laload, 1), (21, .lconst 0, 1), (22, .lcmp, 1), (23, .ifCond .ne 6, 3), (26, .goto 139, 3), (29, .iconst 1, 1), (30, .istore_n 2, 1), (31, .iload_n 2, 1), (32, .bipush 7, 2), (34, .if_icmp .ge 35, 3), (37, .iload_n 2, 1), (38, .iconst 2, 1), (39, .if_icmp .eq 24, 3), (42, .iload_n 2, 1), (43, .iconst 3, 1), (44, .if_icmp .eq 19, 3), (47, .aload_n 0, 1), (48, .iload_n 2, 1), (49, .iload_n 1, 1), (50, .invokevirtual 175, 3), (53, .ifCond .eq 10, 3), (56, .aload_n 0, 1), (57, .iload_n 2, 1), (58, .iload_n 1, 1), (59, .iconst (-1), 1), (60, .invokevirtual 178, 3), (63, .iinc 2 1, 3), (66, .goto (-35), 3), (69, .iconst 0, 1), (70, .istore_n 2, 1), (71, .iload_n 2, 1), (72, .iload_n 1, 1), (73, .if_icmp .ge 92, 3), (76, .aload_n 0, 1), (77, .getfield 32, 3), (80, .iload_n 2, 1), (81, .laload, 1), (82, .lconst 0, 1), (83, .lcmp, 1), (84, .ifCond .ne 6, 3), (87, .goto 72, 3), (90, .iconst 0, 1), (91, .istore_n 3, 1), (92, .iload_n 3, 1), (93, .iconst 4, 1), (94, .if_icmp .ge 65, 3), (97, .iload_n 3, 1), (98, .iconst 1, 1), (99, .if_icmp .eq 54, 3), (102, .aload_n 0, 1), (103, .iload_n 3, 1), (104, .iload_n 1, 1), (105, .iload_n 2, 1), (106, .invokevirtual 182, 3), (109, .ifCond .ne 6, 3), (112, .goto 41, 3), (115, .aload_n 0, 1), (116, .iload_n 3, 1), (117, .iload_n 1, 1), (118, .iload_n 2, 1), (119, .invokevirtual 147, 3), (122, .istore 4, 2), (124, .iload 4, 2), (126, .iconst (-1), 1), (127, .if_icmp .eq 26, 3), (130, .aload_n 0, 1), (131, .iload_n 1, 1), (132, .iload_n 2, 1), (133, .aload_n 0, 1), (134, .getfield 44, 3), (137, .iload 4, 2), (139, .laload, 1), (140, .invokevirtual 186, 3), (143, .ifCond .ne 10, 3), (146, .aload_n 0, 1), (147, .iload_n 3, 1), (148, .iload_n 2, 1), (149, .iload_n 1, 1), (150, .invokevirtual 178, 3), (153, .iinc 3 1, 3), (156, .goto (-64), 3), (159, .iinc 2 1, 3), (162, .goto (-91), 3), (165, .iinc 1 1, 3), (168, .goto (-161), 3), (171, .return_, 1)]
theorem ok_tb_M_find_0 : dOk prog_6_method_34_code tb_M_find_0 = true := by decide +kernel
theorem d_M_find_0 : decode prog_6_method_34_code 0 = .ok (.aload_n 0, 1) := dOk_get (q := (0, .aload_n 0, 1)) ok_tb_M_find_0 0 rfl
theorem d_M_find_1 : decode prog_6_method_34_code 1 = .ok (.iconst 0, 1) := dOk_get (q := (1, .iconst 0, 1)) ok_tb_M_find_0 1 rfl
theorem d_M_find_2 : decode prog_6_method_34_code 2 = .ok (.putfield 168, 3) := dOk_get (q := (2, .putfield 168, 3)) ok_tb_M_find_0 2 rfl
theorem d_M_find_5 : decode prog_6_method_34_code 5 = .ok (.iconst 0, 1) := dOk_get (q := (5, .iconst 0, 1)) ok_tb_M_find_0 3 rfl
theorem d_M_find_6 : decode prog_6_method_34_code 6 = .ok (.istore_n 1, 1) := dOk_get (q := (6, .istore_n 1, 1)) ok_tb_M_find_0 4 rfl
theorem d_M_find_7 : decode prog_6_method_34_code 7 = .ok (.iload_n 1, 1) := dOk_get (q := (7, .iload_n 1, 1)) ok_tb_M_find_0 5 rfl
theorem d_M_find_8 : decode prog_6_method_34_code 8 = .ok (.aload_n 0, 1) := dOk_get (q := (8, .aload_n 0, 1)) ok_tb_M_find_0 6 rfl
theorem d_M_find_9 : decode prog_6_method_34_code 9 = .ok (.getfield 72, 3) := dOk_get (q := (9, .getfield 72, 3)) ok_tb_M_find_0 7 rfl
theorem d_M_find_12 : decode prog_6_method_34_code 12 = .ok (.if_icmp .ge 159, 3) := dOk_get (q := (12, .if_icmp .ge 159, 3)) ok_tb_M_find_0 8 rfl
theorem d_M_find_15 : decode prog_6_method_34_code 15 = .ok (.aload_n 0, 1) := dOk_get (q := (15, .aload_n 0, 1)) ok_tb_M_find_0 9 rfl
theorem d_M_find_16 : decode prog_6_method_34_code 16 = .ok (.getfield 32, 3) := dOk_get (q := (16, .getfield 32, 3)) ok_tb_M_find_0 10 rfl
theorem d_M_find_19 : decode prog_6_method_34_code 19 = .ok (.iload_n 1, 1) := dOk_get (q := (19, .iload_n 1, 1)) ok_tb_M_find_0 11 rfl
theorem d_M_find_20 : decode prog_6_method_34_code 20 = .ok (.laload, 1) := dOk_get (q := (20, .laload, 1)) ok_tb_M_find_0 12 rfl
theorem d_M_find_21 : decode prog_6_method_34_code 21 = .ok (.lconst 0, 1) := dOk_get (q := (21, .lconst 0, 1)) ok_tb_M_find_0 13 rfl
theorem d_M_find_22 : decode prog_6_method_34_code 22 = .ok (.lcmp, 1) := dOk_get (q := (22, .lcmp, 1)) ok_tb_M_find_0 14 rfl
theorem d_M_find_23 : decode prog_6_method_34_code 23 = .ok (.ifCond .ne 6, 3) := dOk_get (q := (23, .ifCond .ne 6, 3)) ok_tb_M_find_0 15 rfl
theorem d_M_find_26 : decode prog_6_method_34_code 26 = .ok (.goto 139, 3) := dOk_get (q := (26, .goto 139, 3)) ok_tb_M_find_0 16 rfl
theorem d_M_find_29 : decode prog_6_method_34_code 29 = .ok (.iconst 1, 1) := dOk_get (q := (29, .iconst 1, 1)) ok_tb_M_find_0 17 rfl
theorem d_M_find_30 : decode prog_6_method_34_code 30 = .ok (.istore_n 2, 1) := dOk_get (q := (30, .istore_n 2, 1)) ok_tb_M_find_0 18 rfl
theorem d_M_find_31 : decode prog_6_method_34_code 31 = .ok (.iload_n 2, 1) := dOk_get (q := (31, .iload_n 2, 1)) ok_tb_M_find_0 19 rfl
theorem d_M_find_32 : decode prog_6_method_34_code 32 = .ok (.bipush 7, 2) := dOk_get (q := (32, .bipush 7, 2)) ok_tb_M_find_0 20 rfl
theorem d_M_find_34 : decode prog_6_method_34_code 34 = .ok (.if_icmp .ge 35, 3) := dOk_get (q := (34, .if_icmp .ge 35, 3)) ok_tb_M_find_0 21 rfl
theorem d_M_find_37 : decode prog_6_method_34_code 37 = .ok (.iload_n 2, 1) := dOk_get (q := (37, .iload_n 2, 1)) ok_tb_M_find_0 22 rfl
theorem d_M_find_38 : decode prog_6_method_34_code 38 = .ok (.iconst 2, 1) := dOk_get (q := (38, .iconst 2, 1)) ok_tb_M_find_0 23 rfl
theorem d_M_find_39 : decode prog_6_method_34_code 39 = .ok (.if_icmp .eq 24, 3) := dOk_get (q := (39, .if_icmp .eq 24, 3)) ok_tb_M_find_0 24 rfl
theorem d_M_find_42 : decode prog_6_method_34_code 42 = .ok (.iload_n 2, 1) := dOk_get (q := (42, .iload_n 2, 1)) ok_tb_M_find_0 25 rfl
theorem d_M_find_43 : decode prog_6_method_34_code 43 = .ok (.iconst 3, 1) := dOk_get (q := (43, .iconst 3, 1)) ok_tb_M_find_0 26 rfl
theorem d_M_find_44 : decode prog_6_method_34_code 44 = .ok (.if_icmp .eq 19, 3) := dOk_get (q := (44, .if_icmp .eq 19, 3)) ok_tb_M_find_0 27 rfl
theorem d_M_find_47 : decode prog_6_method_34_code 47 = .ok (.aload_n 0, 1) := dOk_get (q := (47, .aload_n 0, 1)) ok_tb_M_find_0 28 rfl
theorem d_M_find_48 : decode prog_6_method_34_code 48 = .ok (.iload_n 2, 1) := dOk_get (q := (48, .iload_n 2, 1)) ok_tb_M_find_0 29 rfl
theorem d_M_find_49 : decode prog_6_method_34_code 49 = .ok (.iload_n 1, 1) := dOk_get (q := (49, .iload_n 1, 1)) ok_tb_M_find_0 30 rfl
theorem d_M_find_50 : decode prog_6_method_34_code 50 = .ok (.invokevirtual 175, 3) := dOk_get (q := (50, .invokevirtual 175, 3)) ok_tb_M_find_0 31 rfl
theorem d_M_find_53 : decode prog_6_method_34_code 53 = .ok (.ifCond .eq 10, 3) := dOk_get (q := (53, .ifCond .eq 10, 3)) ok_tb_M_find_0 32 rfl
theorem d_M_find_56 : decode prog_6_method_34_code 56 = .ok (.aload_n 0, 1) := dOk_get (q := (56, .aload_n 0, 1)) ok_tb_M_find_0 33 rfl
theorem d_M_find_57 : decode prog_6_method_34_code 57 = .ok (.iload_n 2, 1) := dOk_get (q := (57, .iload_n 2, 1)) ok_tb_M_find_0 34 rfl
theorem d_M_find_58 : decode prog_6_method_34_code 58 = .ok (.iload_n 1, 1) := dOk_get (q := (58, .iload_n 1, 1)) ok_tb_M_find_0 35 rfl
theorem d_M_find_59 : decode prog_6_method_34_code 59 = .ok (.iconst (-1), 1) := dOk_get (q := (59, .iconst (-1), 1)) ok_tb_M_find_0 36 rfl
theorem d_M_find_60 : decode prog_6_method_34_code 60 = .ok (.invokevirtual 178, 3) := dOk_get (q := (60, .invokevirtual 178, 3)) ok_tb_M_find_0 37 rfl
theorem d_M_find_63 : decode prog_6_method_34_code 63 = .ok (.iinc 2 1, 3) := dOk_get (q := (63, .iinc 2 1, 3)) ok_tb_M_find_0 38 rfl
theorem d_M_find_66 : decode prog_6_method_34_code 66 = .ok (.goto (-35), 3) := dOk_get (q := (66, .goto (-35), 3)) ok_tb_M_find_0 39 rfl
theorem d_M_find_69 : decode prog_6_method_34_code 69 = .ok (.iconst 0, 1) := dOk_get (q := (69, .iconst 0, 1)) ok_tb_M_find_0 40 rfl
theorem d_M_find_70 : decode prog_6_method_34_code 70 = .ok (.istore_n 2, 1) := dOk_get (q := (70, .istore_n 2, 1)) ok_tb_M_find_0 41 rfl
theorem d_M_find_71 : decode prog_6_method_34_code 71 = .ok (.iload_n 2, 1) := dOk_get (q := (71, .iload_n 2, 1)) ok_tb_M_find_0 42 rfl
theorem d_M_find_72 : decode prog_6_method_34_code 72 = .ok (.iload_n 1, 1) := dOk_get (q := (72, .iload_n 1, 1)) ok_tb_M_find_0 43 rfl
theorem d_M_find_73 : decode prog_6_method_34_code 73 = .ok (.if_icmp .ge 92, 3) := dOk_get (q := (73, .if_icmp .ge 92, 3)) ok_tb_M_find_0 44 rfl
theorem d_M_find_76 : decode prog_6_method_34_code 76 = .ok (.aload_n 0, 1) := dOk_get (q := (76, .aload_n 0, 1)) ok_tb_M_find_0 45 rfl
theorem d_M_find_77 : decode prog_6_method_34_code 77 = .ok (.getfield 32, 3) := dOk_get (q := (77, .getfield 32, 3)) ok_tb_M_find_0 46 rfl
theorem d_M_find_80 : decode prog_6_method_34_code 80 = .ok (.iload_n 2, 1) := dOk_get (q := (80, .iload_n 2, 1)) ok_tb_M_find_0 47 rfl
theorem d_M_find_81 : decode prog_6_method_34_code 81 = .ok (.laload, 1) := dOk_get (q := (81, .laload, 1)) ok_tb_M_find_0 48 rfl
theorem d_M_find_82 : decode prog_6_method_34_code 82 = .ok (.lconst 0, 1) := dOk_get (q := (82, .lconst 0, 1)) ok_tb_M_find_0 49 rfl
theorem d_M_find_83 : decode prog_6_method_34_code 83 = .ok (.lcmp, 1) := dOk_get (q := (83, .lcmp, 1)) ok_tb_M_find_0 50 rfl
theorem d_M_find_84 : decode prog_6_method_34_code 84 = .ok (.ifCond .ne 6, 3) := dOk_get (q := (84, .ifCond .ne 6, 3)) ok_tb_M_find_0 51 rfl
theorem d_M_find_87 : decode prog_6_method_34_code 87 = .ok (.goto 72, 3) := dOk_get (q := (87, .goto 72, 3)) ok_tb_M_find_0 52 rfl
theorem d_M_find_90 : decode prog_6_method_34_code 90 = .ok (.iconst 0, 1) := dOk_get (q := (90, .iconst 0, 1)) ok_tb_M_find_0 53 rfl
theorem d_M_find_91 : decode prog_6_method_34_code 91 = .ok (.istore_n 3, 1) := dOk_get (q := (91, .istore_n 3, 1)) ok_tb_M_find_0 54 rfl
theorem d_M_find_92 : decode prog_6_method_34_code 92 = .ok (.iload_n 3, 1) := dOk_get (q := (92, .iload_n 3, 1)) ok_tb_M_find_0 55 rfl
theorem d_M_find_93 : decode prog_6_method_34_code 93 = .ok (.iconst 4, 1) := dOk_get (q := (93, .iconst 4, 1)) ok_tb_M_find_0 56 rfl
theorem d_M_find_94 : decode prog_6_method_34_code 94 = .ok (.if_icmp .ge 65, 3) := dOk_get (q := (94, .if_icmp .ge 65, 3)) ok_tb_M_find_0 57 rfl
theorem d_M_find_97 : decode prog_6_method_34_code 97 = .ok (.iload_n 3, 1) := dOk_get (q := (97, .iload_n 3, 1)) ok_tb_M_find_0 58 rfl
theorem d_M_find_98 : decode prog_6_method_34_code 98 = .ok (.iconst 1, 1) := dOk_get (q := (98, .iconst 1, 1)) ok_tb_M_find_0 59 rfl
theorem d_M_find_99 : decode prog_6_method_34_code 99 = .ok (.if_icmp .eq 54, 3) := dOk_get (q := (99, .if_icmp .eq 54, 3)) ok_tb_M_find_0 60 rfl
theorem d_M_find_102 : decode prog_6_method_34_code 102 = .ok (.aload_n 0, 1) := dOk_get (q := (102, .aload_n 0, 1)) ok_tb_M_find_0 61 rfl
theorem d_M_find_103 : decode prog_6_method_34_code 103 = .ok (.iload_n 3, 1) := dOk_get (q := (103, .iload_n 3, 1)) ok_tb_M_find_0 62 rfl
theorem d_M_find_104 : decode prog_6_method_34_code 104 = .ok (.iload_n 1, 1) := dOk_get (q := (104, .iload_n 1, 1)) ok_tb_M_find_0 63 rfl
theorem d_M_find_105 : decode prog_6_method_34_code 105 = .ok (.iload_n 2, 1) := dOk_get (q := (105, .iload_n 2, 1)) ok_tb_M_find_0 64 rfl
theorem d_M_find_106 : decode prog_6_method_34_code 106 = .ok (.invokevirtual 182, 3) := dOk_get (q := (106, .invokevirtual 182, 3)) ok_tb_M_find_0 65 rfl
theorem d_M_find_109 : decode prog_6_method_34_code 109 = .ok (.ifCond .ne 6, 3) := dOk_get (q := (109, .ifCond .ne 6, 3)) ok_tb_M_find_0 66 rfl
theorem d_M_find_112 : decode prog_6_method_34_code 112 = .ok (.goto 41, 3) := dOk_get (q := (112, .goto 41, 3)) ok_tb_M_find_0 67 rfl
theorem d_M_find_115 : decode prog_6_method_34_code 115 = .ok (.aload_n 0, 1) := dOk_get (q := (115, .aload_n 0, 1)) ok_tb_M_find_0 68 rfl
theorem d_M_find_116 : decode prog_6_method_34_code 116 = .ok (.iload_n 3, 1) := dOk_get (q := (116, .iload_n 3, 1)) ok_tb_M_find_0 69 rfl
theorem d_M_find_117 : decode prog_6_method_34_code 117 = .ok (.iload_n 1, 1) := dOk_get (q := (117, .iload_n 1, 1)) ok_tb_M_find_0 70 rfl
theorem d_M_find_118 : decode prog_6_method_34_code 118 = .ok (.iload_n 2, 1) := dOk_get (q := (118, .iload_n 2, 1)) ok_tb_M_find_0 71 rfl
theorem d_M_find_119 : decode prog_6_method_34_code 119 = .ok (.invokevirtual 147, 3) := dOk_get (q := (119, .invokevirtual 147, 3)) ok_tb_M_find_0 72 rfl
theorem d_M_find_122 : decode prog_6_method_34_code 122 = .ok (.istore 4, 2) := dOk_get (q := (122, .istore 4, 2)) ok_tb_M_find_0 73 rfl
theorem d_M_find_124 : decode prog_6_method_34_code 124 = .ok (.iload 4, 2) := dOk_get (q := (124, .iload 4, 2)) ok_tb_M_find_0 74 rfl
theorem d_M_find_126 : decode prog_6_method_34_code 126 = .ok (.iconst (-1), 1) := dOk_get (q := (126, .iconst (-1), 1)) ok_tb_M_find_0 75 rfl
theorem d_M_find_127 : decode prog_6_method_34_code 127 = .ok (.if_icmp .eq 26, 3) := dOk_get (q := (127, .if_icmp .eq 26, 3)) ok_tb_M_find_0 76 rfl
theorem d_M_find_130 : decode prog_6_method_34_code 130 = .ok (.aload_n 0, 1) := dOk_get (q := (130, .aload_n 0, 1)) ok_tb_M_find_0 77 rfl
theorem d_M_find_131 : decode prog_6_method_34_code 131 = .ok (.iload_n 1, 1) := dOk_get (q := (131, .iload_n 1, 1)) ok_tb_M_find_0 78 rfl
theorem d_M_find_132 : decode prog_6_method_34_code 132 = .ok (.iload_n 2, 1) := dOk_get (q := (132, .iload_n 2, 1)) ok_tb_M_find_0 79 rfl
theorem d_M_find_133 : decode prog_6_method_34_code 133 = .ok (.aload_n 0, 1) := dOk_get (q := (133, .aload_n 0, 1)) ok_tb_M_find_0 80 rfl
theorem d_M_find_134 : decode prog_6_method_34_code 134 = .ok (.getfield 44, 3) := dOk_get (q := (134, .getfield 44, 3)) ok_tb_M_find_0 81 rfl
theorem d_M_find_137 : decode prog_6_method_34_code 137 = .ok (.iload 4, 2) := dOk_get (q := (137, .iload 4, 2)) ok_tb_M_find_0 82 rfl
theorem d_M_find_139 : decode prog_6_method_34_code 139 = .ok (.laload, 1) := dOk_get (q := (139, .laload, 1)) ok_tb_M_find_0 83 rfl
theorem d_M_find_140 : decode prog_6_method_34_code 140 = .ok (.invokevirtual 186, 3) := dOk_get (q := (140, .invokevirtual 186, 3)) ok_tb_M_find_0 84 rfl
theorem d_M_find_143 : decode prog_6_method_34_code 143 = .ok (.ifCond .ne 10, 3) := dOk_get (q := (143, .ifCond .ne 10, 3)) ok_tb_M_find_0 85 rfl
theorem d_M_find_146 : decode prog_6_method_34_code 146 = .ok (.aload_n 0, 1) := dOk_get (q := (146, .aload_n 0, 1)) ok_tb_M_find_0 86 rfl
theorem d_M_find_147 : decode prog_6_method_34_code 147 = .ok (.iload_n 3, 1) := dOk_get (q := (147, .iload_n 3, 1)) ok_tb_M_find_0 87 rfl
theorem d_M_find_148 : decode prog_6_method_34_code 148 = .ok (.iload_n 2, 1) := dOk_get (q := (148, .iload_n 2, 1)) ok_tb_M_find_0 88 rfl
theorem d_M_find_149 : decode prog_6_method_34_code 149 = .ok (.iload_n 1, 1) := dOk_get (q := (149, .iload_n 1, 1)) ok_tb_M_find_0 89 rfl
theorem d_M_find_150 : decode prog_6_method_34_code 150 = .ok (.invokevirtual 178, 3) := dOk_get (q := (150, .invokevirtual 178, 3)) ok_tb_M_find_0 90 rfl
theorem d_M_find_153 : decode prog_6_method_34_code 153 = .ok (.iinc 3 1, 3) := dOk_get (q := (153, .iinc 3 1, 3)) ok_tb_M_find_0 91 rfl
theorem d_M_find_156 : decode prog_6_method_34_code 156 = .ok (.goto (-64), 3) := dOk_get (q := (156, .goto (-64), 3)) ok_tb_M_find_0 92 rfl
theorem d_M_find_159 : decode prog_6_method_34_code 159 = .ok (.iinc 2 1, 3) := dOk_get (q := (159, .iinc 2 1, 3)) ok_tb_M_find_0 93 rfl
theorem d_M_find_162 : decode prog_6_method_34_code 162 = .ok (.goto (-91), 3) := dOk_get (q := (162, .goto (-91), 3)) ok_tb_M_find_0 94 rfl
theorem d_M_find_165 : decode prog_6_method_34_code 165 = .ok (.iinc 1 1, 3) := dOk_get (q := (165, .iinc 1 1, 3)) ok_tb_M_find_0 95 rfl
theorem d_M_find_168 : decode prog_6_method_34_code 168 = .ok (.goto (-161), 3) := dOk_get (q := (168, .goto (-161), 3)) ok_tb_M_find_0 96 rfl
theorem d_M_find_171 : decode prog_6_method_34_code 171 = .ok (.return_, 1) := dOk_get (q := (171, .return_, 1)) ok_tb_M_find_0 97 rfl
def tb_M_breaks_0 : List (Nat × Instr × Nat) := [(0, .iload_n 1, 1), (1, .iconst 1, 1), (2, .if_icmp .ne 11, 3), (5, .aload_n 0, 1), (6, .iload_n 2, 1), (7, .invokevirtual 141, 3), (10, .goto 40, 3), (13, .iload_n 1, 1), (14, .iconst 4, 1), (15, .if_icmp .ne 21, 3), (18, .aload_n 0, 1), (19, .getfield 16, 3), (22, .iload_n 2, 1), (23, .iaload, 1), (24, .iconst 2, 1), (25, .if_icmp .ne 7, 3), (28, .iconst 1, 1), (29, .goto 21, 3), (32, .iconst 0, 1), (33, .goto 17, 3), (36, .aload_n 0, 1), (37, .getfield 16, 3), (40, .iload_n 2, 1), (41, .iaload, 1), (42, .ifCond .ne 7, 3), (45, .iconst 1, 1), (46, .goto 4, 3), (49, .iconst 0, 1), (50, .istore_n 3, 1), (51, .iload_n 3, 1), (52, .ifCond .eq 13, 3), (55, .aload_n 0, 1), (56, .iload_n 1, 1), (57, .iload_n 2, 1), (58, .iconst (-1), 1), (59, .invokevirtual 147, 3), (62, .goto 4, 3), (65, .iconst (-1), 1), (66, .istore 4, 2), (68, .iload 4, 2), (70, .iconst (-1), 1), (71, .if_icmp .ne 5, 3), (74, .iconst 0, 1), (75, .ireturn, 1), (76, .iload_n 1, 1), (77, .tableswitch 122 1 5 #[35, 122, 122, 62, 83], 35), (112, .ldc2_w 151, 3), (115, .aload_n 0, 1), (116, .getfield 32, 3), (119, .iload_n 2, 1), (120, .laload, 1), (121, .lmul, 1), (122, .aload_n 0, 1), (123, .getfield 44, 3), (126, .iload 4, 2), (128, .laload, 1), (129, .lcmp, 1), (130, .ifCond .ge 7, 3), (133, .iconst 1, 1), (134, .goto 4, 3), (137, .iconst 0, 1), (138, .ireturn, 1), (139, .aload_n 0, 1), (140, .iload_n 2, 1), (141, .aload_n 0, 1), (142, .getfield 44, 3), (145, .iload 4, 2), (147, .laload, 1), (148, .invokevirtual 153, 3), (151, .ifCond .ne 7, 3), (154, .iconst 1, 1), (155, .goto 4, 3), (158, .iconst 0, 1), (159, .ireturn, 1), (160, .aload_n 0, 1), (161, .iload_n 2, 1), (162, .bipush 8, 2), (164, .iload_n 2, 1), (165, .imul, 1), (166, .invokevirtual 157, 3), (169, .ifCond .eq 24, 3), (172, .aload_n 0, 1), (173, .iload_n 2, 1), (174, .bipush 8, 2), (176, .iload_n 2, 1), (177, .imul, 1), (178, .aload_n 0, 1), (179, .getfield 22, 3), (182, .iload_n 2, 1), (183, .iaload, 1), (184, .iadd, 1), (185, .iconst 1, 1), (186, .isub, 1), (187, .invokevirtual 157, 3), (190, .ifCond .ne 7, 3), (193, .iconst 1, 1), (194, .goto 4, 3), (197, .iconst 0, 1), (198, .ireturn, 1), (199, .aload_n 0, 1), (200, .iload_n 2, 1), (201, .invokevirtual 160, 3), (204, .ireturn, 1)]
theorem ok_tb_M_breaks_0 : dOk prog_6_method_30_code tb_M_breaks_0 = true := by decide +kernel
theorem d_M_breaks_0 : decode prog_6_method_30_code 0 = .ok (.iload_n 1, 1) := dOk_get (q := (0, .iload_n 1, 1)) ok_tb_M_breaks_0 0 rfl
theorem d_M_breaks_1 : decode prog_6_method_30_code 1 = .ok (.iconst 1, 1) := dOk_get (q := (1, .iconst 1, 1)) ok_tb_M_breaks_0 1 rfl
theorem d_M_breaks_2 : decode prog_6_method_30_code 2 = .ok (.if_icmp .ne 11, 3) := dOk_get (q := (2, .if_icmp .ne 11, 3)) ok_tb_M_breaks_0 2 rfl
theorem d_M_breaks_5 : decode prog_6_method_30_code 5 = .ok (.aload_n 0, 1) := dOk_get (q := (5, .aload_n 0, 1)) ok_tb_M_breaks_0 3 rfl
theorem d_M_breaks_6 : decode prog_6_method_30_code 6 = .ok (.iload_n 2, 1) := dOk_get (q := (6, .iload_n 2, 1)) ok_tb_M_breaks_0 4 rfl
theorem d_M_breaks_7 : decode prog_6_method_30_code 7 = .ok (.invokevirtual 141, 3) := dOk_get (q := (7, .invokevirtual 141, 3)) ok_tb_M_breaks_0 5 rfl
theorem d_M_breaks_10 : decode prog_6_method_30_code 10 = .ok (.goto 40, 3) := dOk_get (q := (10, .goto 40, 3)) ok_tb_M_breaks_0 6 rfl
theorem d_M_breaks_13 : decode prog_6_method_30_code 13 = .ok (.iload_n 1, 1) := dOk_get (q := (13, .iload_n 1, 1)) ok_tb_M_breaks_0 7 rfl
theorem d_M_breaks_14 : decode prog_6_method_30_code 14 = .ok (.iconst 4, 1) := dOk_get (q := (14, .iconst 4, 1)) ok_tb_M_breaks_0 8 rfl
theorem d_M_breaks_15 : decode prog_6_method_30_code 15 = .ok (.if_icmp .ne 21, 3) := dOk_get (q := (15, .if_icmp .ne 21, 3)) ok_tb_M_breaks_0 9 rfl
theorem d_M_breaks_18 : decode prog_6_method_30_code 18 = .ok (.aload_n 0, 1) := dOk_get (q := (18, .aload_n 0, 1)) ok_tb_M_breaks_0 10 rfl
theorem d_M_breaks_19 : decode prog_6_method_30_code 19 = .ok (.getfield 16, 3) := dOk_get (q := (19, .getfield 16, 3)) ok_tb_M_breaks_0 11 rfl
theorem d_M_breaks_22 : decode prog_6_method_30_code 22 = .ok (.iload_n 2, 1) := dOk_get (q := (22, .iload_n 2, 1)) ok_tb_M_breaks_0 12 rfl
theorem d_M_breaks_23 : decode prog_6_method_30_code 23 = .ok (.iaload, 1) := dOk_get (q := (23, .iaload, 1)) ok_tb_M_breaks_0 13 rfl
theorem d_M_breaks_24 : decode prog_6_method_30_code 24 = .ok (.iconst 2, 1) := dOk_get (q := (24, .iconst 2, 1)) ok_tb_M_breaks_0 14 rfl
theorem d_M_breaks_25 : decode prog_6_method_30_code 25 = .ok (.if_icmp .ne 7, 3) := dOk_get (q := (25, .if_icmp .ne 7, 3)) ok_tb_M_breaks_0 15 rfl
theorem d_M_breaks_28 : decode prog_6_method_30_code 28 = .ok (.iconst 1, 1) := dOk_get (q := (28, .iconst 1, 1)) ok_tb_M_breaks_0 16 rfl
theorem d_M_breaks_29 : decode prog_6_method_30_code 29 = .ok (.goto 21, 3) := dOk_get (q := (29, .goto 21, 3)) ok_tb_M_breaks_0 17 rfl
theorem d_M_breaks_32 : decode prog_6_method_30_code 32 = .ok (.iconst 0, 1) := dOk_get (q := (32, .iconst 0, 1)) ok_tb_M_breaks_0 18 rfl
theorem d_M_breaks_33 : decode prog_6_method_30_code 33 = .ok (.goto 17, 3) := dOk_get (q := (33, .goto 17, 3)) ok_tb_M_breaks_0 19 rfl
theorem d_M_breaks_36 : decode prog_6_method_30_code 36 = .ok (.aload_n 0, 1) := dOk_get (q := (36, .aload_n 0, 1)) ok_tb_M_breaks_0 20 rfl
theorem d_M_breaks_37 : decode prog_6_method_30_code 37 = .ok (.getfield 16, 3) := dOk_get (q := (37, .getfield 16, 3)) ok_tb_M_breaks_0 21 rfl
theorem d_M_breaks_40 : decode prog_6_method_30_code 40 = .ok (.iload_n 2, 1) := dOk_get (q := (40, .iload_n 2, 1)) ok_tb_M_breaks_0 22 rfl
theorem d_M_breaks_41 : decode prog_6_method_30_code 41 = .ok (.iaload, 1) := dOk_get (q := (41, .iaload, 1)) ok_tb_M_breaks_0 23 rfl
theorem d_M_breaks_42 : decode prog_6_method_30_code 42 = .ok (.ifCond .ne 7, 3) := dOk_get (q := (42, .ifCond .ne 7, 3)) ok_tb_M_breaks_0 24 rfl
theorem d_M_breaks_45 : decode prog_6_method_30_code 45 = .ok (.iconst 1, 1) := dOk_get (q := (45, .iconst 1, 1)) ok_tb_M_breaks_0 25 rfl
theorem d_M_breaks_46 : decode prog_6_method_30_code 46 = .ok (.goto 4, 3) := dOk_get (q := (46, .goto 4, 3)) ok_tb_M_breaks_0 26 rfl
theorem d_M_breaks_49 : decode prog_6_method_30_code 49 = .ok (.iconst 0, 1) := dOk_get (q := (49, .iconst 0, 1)) ok_tb_M_breaks_0 27 rfl
theorem d_M_breaks_50 : decode prog_6_method_30_code 50 = .ok (.istore_n 3, 1) := dOk_get (q := (50, .istore_n 3, 1)) ok_tb_M_breaks_0 28 rfl
theorem d_M_breaks_51 : decode prog_6_method_30_code 51 = .ok (.iload_n 3, 1) := dOk_get (q := (51, .iload_n 3, 1)) ok_tb_M_breaks_0 29 rfl
theorem d_M_breaks_52 : decode prog_6_method_30_code 52 = .ok (.ifCond .eq 13, 3) := dOk_get (q := (52, .ifCond .eq 13, 3)) ok_tb_M_breaks_0 30 rfl
theorem d_M_breaks_55 : decode prog_6_method_30_code 55 = .ok (.aload_n 0, 1) := dOk_get (q := (55, .aload_n 0, 1)) ok_tb_M_breaks_0 31 rfl
theorem d_M_breaks_56 : decode prog_6_method_30_code 56 = .ok (.iload_n 1, 1) := dOk_get (q := (56, .iload_n 1, 1)) ok_tb_M_breaks_0 32 rfl
theorem d_M_breaks_57 : decode prog_6_method_30_code 57 = .ok (.iload_n 2, 1) := dOk_get (q := (57, .iload_n 2, 1)) ok_tb_M_breaks_0 33 rfl
theorem d_M_breaks_58 : decode prog_6_method_30_code 58 = .ok (.iconst (-1), 1) := dOk_get (q := (58, .iconst (-1), 1)) ok_tb_M_breaks_0 34 rfl
theorem d_M_breaks_59 : decode prog_6_method_30_code 59 = .ok (.invokevirtual 147, 3) := dOk_get (q := (59, .invokevirtual 147, 3)) ok_tb_M_breaks_0 35 rfl
theorem d_M_breaks_62 : decode prog_6_method_30_code 62 = .ok (.goto 4, 3) := dOk_get (q := (62, .goto 4, 3)) ok_tb_M_breaks_0 36 rfl
theorem d_M_breaks_65 : decode prog_6_method_30_code 65 = .ok (.iconst (-1), 1) := dOk_get (q := (65, .iconst (-1), 1)) ok_tb_M_breaks_0 37 rfl
theorem d_M_breaks_66 : decode prog_6_method_30_code 66 = .ok (.istore 4, 2) := dOk_get (q := (66, .istore 4, 2)) ok_tb_M_breaks_0 38 rfl
theorem d_M_breaks_68 : decode prog_6_method_30_code 68 = .ok (.iload 4, 2) := dOk_get (q := (68, .iload 4, 2)) ok_tb_M_breaks_0 39 rfl
theorem d_M_breaks_70 : decode prog_6_method_30_code 70 = .ok (.iconst (-1), 1) := dOk_get (q := (70, .iconst (-1), 1)) ok_tb_M_breaks_0 40 rfl
theorem d_M_breaks_71 : decode prog_6_method_30_code 71 = .ok (.if_icmp .ne 5, 3) := dOk_get (q := (71, .if_icmp .ne 5, 3)) ok_tb_M_breaks_0 41 rfl
theorem d_M_breaks_74 : decode prog_6_method_30_code 74 = .ok (.iconst 0, 1) := dOk_get (q := (74, .iconst 0, 1)) ok_tb_M_breaks_0 42 rfl
theorem d_M_breaks_75 : decode prog_6_method_30_code 75 = .ok (.ireturn, 1) := dOk_get (q := (75, .ireturn, 1)) ok_tb_M_breaks_0 43 rfl
theorem d_M_breaks_76 : decode prog_6_method_30_code 76 = .ok (.iload_n 1, 1) := dOk_get (q := (76, .iload_n 1, 1)) ok_tb_M_breaks_0 44 rfl
theorem d_M_breaks_77 : decode prog_6_method_30_code 77 = .ok (.tableswitch 122 1 5 #[35, 122, 122, 62, 83], 35) := dOk_get (q := (77, .tableswitch 122 1 5 #[35, 122, 122, 62, 83], 35)) ok_tb_M_breaks_0 45 rfl
theorem d_M_breaks_112 : decode prog_6_method_30_code 112 = .ok (.ldc2_w 151, 3) := dOk_get (q := (112, .ldc2_w 151, 3)) ok_tb_M_breaks_0 46 rfl
theorem d_M_breaks_115 : decode prog_6_method_30_code 115 = .ok (.aload_n 0, 1) := dOk_get (q := (115, .aload_n 0, 1)) ok_tb_M_breaks_0 47 rfl
theorem d_M_breaks_116 : decode prog_6_method_30_code 116 = .ok (.getfield 32, 3) := dOk_get (q := (116, .getfield 32, 3)) ok_tb_M_breaks_0 48 rfl
theorem d_M_breaks_119 : decode prog_6_method_30_code 119 = .ok (.iload_n 2, 1) := dOk_get (q := (119, .iload_n 2, 1)) ok_tb_M_breaks_0 49 rfl
theorem d_M_breaks_120 : decode prog_6_method_30_code 120 = .ok (.laload, 1) := dOk_get (q := (120, .laload, 1)) ok_tb_M_breaks_0 50 rfl
theorem d_M_breaks_121 : decode prog_6_method_30_code 121 = .ok (.lmul, 1) := dOk_get (q := (121, .lmul, 1)) ok_tb_M_breaks_0 51 rfl
theorem d_M_breaks_122 : decode prog_6_method_30_code 122 = .ok (.aload_n 0, 1) := dOk_get (q := (122, .aload_n 0, 1)) ok_tb_M_breaks_0 52 rfl
theorem d_M_breaks_123 : decode prog_6_method_30_code 123 = .ok (.getfield 44, 3) := dOk_get (q := (123, .getfield 44, 3)) ok_tb_M_breaks_0 53 rfl
theorem d_M_breaks_126 : decode prog_6_method_30_code 126 = .ok (.iload 4, 2) := dOk_get (q := (126, .iload 4, 2)) ok_tb_M_breaks_0 54 rfl
theorem d_M_breaks_128 : decode prog_6_method_30_code 128 = .ok (.laload, 1) := dOk_get (q := (128, .laload, 1)) ok_tb_M_breaks_0 55 rfl
theorem d_M_breaks_129 : decode prog_6_method_30_code 129 = .ok (.lcmp, 1) := dOk_get (q := (129, .lcmp, 1)) ok_tb_M_breaks_0 56 rfl
theorem d_M_breaks_130 : decode prog_6_method_30_code 130 = .ok (.ifCond .ge 7, 3) := dOk_get (q := (130, .ifCond .ge 7, 3)) ok_tb_M_breaks_0 57 rfl
theorem d_M_breaks_133 : decode prog_6_method_30_code 133 = .ok (.iconst 1, 1) := dOk_get (q := (133, .iconst 1, 1)) ok_tb_M_breaks_0 58 rfl
theorem d_M_breaks_134 : decode prog_6_method_30_code 134 = .ok (.goto 4, 3) := dOk_get (q := (134, .goto 4, 3)) ok_tb_M_breaks_0 59 rfl
theorem d_M_breaks_137 : decode prog_6_method_30_code 137 = .ok (.iconst 0, 1) := dOk_get (q := (137, .iconst 0, 1)) ok_tb_M_breaks_0 60 rfl
theorem d_M_breaks_138 : decode prog_6_method_30_code 138 = .ok (.ireturn, 1) := dOk_get (q := (138, .ireturn, 1)) ok_tb_M_breaks_0 61 rfl
theorem d_M_breaks_139 : decode prog_6_method_30_code 139 = .ok (.aload_n 0, 1) := dOk_get (q := (139, .aload_n 0, 1)) ok_tb_M_breaks_0 62 rfl
theorem d_M_breaks_140 : decode prog_6_method_30_code 140 = .ok (.iload_n 2, 1) := dOk_get (q := (140, .iload_n 2, 1)) ok_tb_M_breaks_0 63 rfl
theorem d_M_breaks_141 : decode prog_6_method_30_code 141 = .ok (.aload_n 0, 1) := dOk_get (q := (141, .aload_n 0, 1)) ok_tb_M_breaks_0 64 rfl
theorem d_M_breaks_142 : decode prog_6_method_30_code 142 = .ok (.getfield 44, 3) := dOk_get (q := (142, .getfield 44, 3)) ok_tb_M_breaks_0 65 rfl
theorem d_M_breaks_145 : decode prog_6_method_30_code 145 = .ok (.iload 4, 2) := dOk_get (q := (145, .iload 4, 2)) ok_tb_M_breaks_0 66 rfl
theorem d_M_breaks_147 : decode prog_6_method_30_code 147 = .ok (.laload, 1) := dOk_get (q := (147, .laload, 1)) ok_tb_M_breaks_0 67 rfl
theorem d_M_breaks_148 : decode prog_6_method_30_code 148 = .ok (.invokevirtual 153, 3) := dOk_get (q := (148, .invokevirtual 153, 3)) ok_tb_M_breaks_0 68 rfl
theorem d_M_breaks_151 : decode prog_6_method_30_code 151 = .ok (.ifCond .ne 7, 3) := dOk_get (q := (151, .ifCond .ne 7, 3)) ok_tb_M_breaks_0 69 rfl
theorem d_M_breaks_154 : decode prog_6_method_30_code 154 = .ok (.iconst 1, 1) := dOk_get (q := (154, .iconst 1, 1)) ok_tb_M_breaks_0 70 rfl
theorem d_M_breaks_155 : decode prog_6_method_30_code 155 = .ok (.goto 4, 3) := dOk_get (q := (155, .goto 4, 3)) ok_tb_M_breaks_0 71 rfl
theorem d_M_breaks_158 : decode prog_6_method_30_code 158 = .ok (.iconst 0, 1) := dOk_get (q := (158, .iconst 0, 1)) ok_tb_M_breaks_0 72 rfl
theorem d_M_breaks_159 : decode prog_6_method_30_code 159 = .ok (.ireturn, 1) := dOk_get (q := (159, .ireturn, 1)) ok_tb_M_breaks_0 73 rfl
theorem d_M_breaks_160 : decode prog_6_method_30_code 160 = .ok (.aload_n 0, 1) := dOk_get (q := (160, .aload_n 0, 1)) ok_tb_M_breaks_0 74 rfl
theorem d_M_breaks_161 : decode prog_6_method_30_code 161 = .ok (.iload_n 2, 1) := dOk_get (q := (161, .iload_n 2, 1)) ok_tb_M_breaks_0 75 rfl
theorem d_M_breaks_162 : decode prog_6_method_30_code 162 = .ok (.bipush 8, 2) := dOk_get (q := (162, .bipush 8, 2)) ok_tb_M_breaks_0 76 rfl
theorem d_M_breaks_164 : decode prog_6_method_30_code 164 = .ok (.iload_n 2, 1) := dOk_get (q := (164, .iload_n 2, 1)) ok_tb_M_breaks_0 77 rfl
theorem d_M_breaks_165 : decode prog_6_method_30_code 165 = .ok (.imul, 1) := dOk_get (q := (165, .imul, 1)) ok_tb_M_breaks_0 78 rfl
theorem d_M_breaks_166 : decode prog_6_method_30_code 166 = .ok (.invokevirtual 157, 3) := dOk_get (q := (166, .invokevirtual 157, 3)) ok_tb_M_breaks_0 79 rfl
theorem d_M_breaks_169 : decode prog_6_method_30_code 169 = .ok (.ifCond .eq 24, 3) := dOk_get (q := (169, .ifCond .eq 24, 3)) ok_tb_M_breaks_0 80 rfl
theorem d_M_breaks_172 : decode prog_6_method_30_code 172 = .ok (.aload_n 0, 1) := dOk_get (q := (172, .aload_n 0, 1)) ok_tb_M_breaks_0 81 rfl
theorem d_M_breaks_173 : decode prog_6_method_30_code 173 = .ok (.iload_n 2, 1) := dOk_get (q := (173, .iload_n 2, 1)) ok_tb_M_breaks_0 82 rfl
theorem d_M_breaks_174 : decode prog_6_method_30_code 174 = .ok (.bipush 8, 2) := dOk_get (q := (174, .bipush 8, 2)) ok_tb_M_breaks_0 83 rfl
theorem d_M_breaks_176 : decode prog_6_method_30_code 176 = .ok (.iload_n 2, 1) := dOk_get (q := (176, .iload_n 2, 1)) ok_tb_M_breaks_0 84 rfl
theorem d_M_breaks_177 : decode prog_6_method_30_code 177 = .ok (.imul, 1) := dOk_get (q := (177, .imul, 1)) ok_tb_M_breaks_0 85 rfl
theorem d_M_breaks_178 : decode prog_6_method_30_code 178 = .ok (.aload_n 0, 1) := dOk_get (q := (178, .aload_n 0, 1)) ok_tb_M_breaks_0 86 rfl
theorem d_M_breaks_179 : decode prog_6_method_30_code 179 = .ok (.getfield 22, 3) := dOk_get (q := (179, .getfield 22, 3)) ok_tb_M_breaks_0 87 rfl
theorem d_M_breaks_182 : decode prog_6_method_30_code 182 = .ok (.iload_n 2, 1) := dOk_get (q := (182, .iload_n 2, 1)) ok_tb_M_breaks_0 88 rfl
theorem d_M_breaks_183 : decode prog_6_method_30_code 183 = .ok (.iaload, 1) := dOk_get (q := (183, .iaload, 1)) ok_tb_M_breaks_0 89 rfl
theorem d_M_breaks_184 : decode prog_6_method_30_code 184 = .ok (.iadd, 1) := dOk_get (q := (184, .iadd, 1)) ok_tb_M_breaks_0 90 rfl
theorem d_M_breaks_185 : decode prog_6_method_30_code 185 = .ok (.iconst 1, 1) := dOk_get (q := (185, .iconst 1, 1)) ok_tb_M_breaks_0 91 rfl
theorem d_M_breaks_186 : decode prog_6_method_30_code 186 = .ok (.isub, 1) := dOk_get (q := (186, .isub, 1)) ok_tb_M_breaks_0 92 rfl
theorem d_M_breaks_187 : decode prog_6_method_30_code 187 = .ok (.invokevirtual 157, 3) := dOk_get (q := (187, .invokevirtual 157, 3)) ok_tb_M_breaks_0 93 rfl
theorem d_M_breaks_190 : decode prog_6_method_30_code 190 = .ok (.ifCond .ne 7, 3) := dOk_get (q := (190, .ifCond .ne 7, 3)) ok_tb_M_breaks_0 94 rfl
theorem d_M_breaks_193 : decode prog_6_method_30_code 193 = .ok (.iconst 1, 1) := dOk_get (q := (193, .iconst 1, 1)) ok_tb_M_breaks_0 95 rfl
theorem d_M_breaks_194 : decode prog_6_method_30_code 194 = .ok (.goto 4, 3) := dOk_get (q := (194, .goto 4, 3)) ok_tb_M_breaks_0 96 rfl
theorem d_M_breaks_197 : decode prog_6_method_30_code 197 = .ok (.iconst 0, 1) := dOk_get (q := (197, .iconst 0, 1)) ok_tb_M_breaks_0 97 rfl
theorem d_M_breaks_198 : decode prog_6_method_30_code 198 = .ok (.ireturn, 1) := dOk_get (q := (198, .ireturn, 1)) ok_tb_M_breaks_0 98 rfl
theorem d_M_breaks_199 : decode prog_6_method_30_code 199 = .ok (.aload_n 0, 1) := dOk_get (q := (199, .aload_n 0, 1)) ok_tb_M_breaks_0 99 rfl
theorem d_M_breaks_200 : decode prog_6_method_30_code 200 = .ok (.iload_n 2, 1) := dOk_get (q := (200, .iload_n 2, 1)) ok_tb_M_breaks_0 100 rfl
theorem d_M_breaks_201 : decode prog_6_method_30_code 201 = .ok (.invokevirtual 160, 3) := dOk_get (q := (201, .invokevirtual 160, 3)) ok_tb_M_breaks_0 101 rfl
theorem d_M_breaks_204 : decode prog_6_method_30_code 204 = .ok (.ireturn, 1) := dOk_get (q := (204, .ireturn, 1)) ok_tb_M_breaks_0 102 rfl
def tb_M_isCopper_0 : List (Nat × Instr × Nat) := [(0, .aload_n 0, 1), (1, .getfield 16, 3), (4, .iload_n 1, 1), (5, .iaload, 1), (6, .ifCond .eq 13, 3), (9, .aload_n 0, 1), (10, .getfield 16, 3), (13, .iload_n 1, 1), (14, .iaload, 1), (15, .iconst 1, 1), (16, .if_icmp .ne 7, 3), (19, .iconst 1, 1), (20, .goto 4, 3), (23, .iconst 0, 1), (24, .ireturn, 1)]
theorem ok_tb_M_isCopper_0 : dOk prog_6_method_24_code tb_M_isCopper_0 = true := by decide +kernel
theorem d_M_isCopper_0 : decode prog_6_method_24_code 0 = .ok (.aload_n 0, 1) := dOk_get (q := (0, .aload_n 0, 1)) ok_tb_M_isCopper_0 0 rfl
theorem d_M_isCopper_1 : decode prog_6_method_24_code 1 = .ok (.getfield 16, 3) := dOk_get (q := (1, .getfield 16, 3)) ok_tb_M_isCopper_0 1 rfl
theorem d_M_isCopper_4 : decode prog_6_method_24_code 4 = .ok (.iload_n 1, 1) := dOk_get (q := (4, .iload_n 1, 1)) ok_tb_M_isCopper_0 2 rfl
theorem d_M_isCopper_5 : decode prog_6_method_24_code 5 = .ok (.iaload, 1) := dOk_get (q := (5, .iaload, 1)) ok_tb_M_isCopper_0 3 rfl
theorem d_M_isCopper_6 : decode prog_6_method_24_code 6 = .ok (.ifCond .eq 13, 3) := dOk_get (q := (6, .ifCond .eq 13, 3)) ok_tb_M_isCopper_0 4 rfl
theorem d_M_isCopper_9 : decode prog_6_method_24_code 9 = .ok (.aload_n 0, 1) := dOk_get (q := (9, .aload_n 0, 1)) ok_tb_M_isCopper_0 5 rfl
theorem d_M_isCopper_10 : decode prog_6_method_24_code 10 = .ok (.getfield 16, 3) := dOk_get (q := (10, .getfield 16, 3)) ok_tb_M_isCopper_0 6 rfl
theorem d_M_isCopper_13 : decode prog_6_method_24_code 13 = .ok (.iload_n 1, 1) := dOk_get (q := (13, .iload_n 1, 1)) ok_tb_M_isCopper_0 7 rfl
theorem d_M_isCopper_14 : decode prog_6_method_24_code 14 = .ok (.iaload, 1) := dOk_get (q := (14, .iaload, 1)) ok_tb_M_isCopper_0 8 rfl
theorem d_M_isCopper_15 : decode prog_6_method_24_code 15 = .ok (.iconst 1, 1) := dOk_get (q := (15, .iconst 1, 1)) ok_tb_M_isCopper_0 9 rfl
theorem d_M_isCopper_16 : decode prog_6_method_24_code 16 = .ok (.if_icmp .ne 7, 3) := dOk_get (q := (16, .if_icmp .ne 7, 3)) ok_tb_M_isCopper_0 10 rfl
theorem d_M_isCopper_19 : decode prog_6_method_24_code 19 = .ok (.iconst 1, 1) := dOk_get (q := (19, .iconst 1, 1)) ok_tb_M_isCopper_0 11 rfl
theorem d_M_isCopper_20 : decode prog_6_method_24_code 20 = .ok (.goto 4, 3) := dOk_get (q := (20, .goto 4, 3)) ok_tb_M_isCopper_0 12 rfl
theorem d_M_isCopper_23 : decode prog_6_method_24_code 23 = .ok (.iconst 0, 1) := dOk_get (q := (23, .iconst 0, 1)) ok_tb_M_isCopper_0 13 rfl
theorem d_M_isCopper_24 : decode prog_6_method_24_code 24 = .ok (.ireturn, 1) := dOk_get (q := (24, .ireturn, 1)) ok_tb_M_isCopper_0 14 rfl
def tb_M_ruleFor_0 : List (Nat × Instr × Nat) := [(0, .iconst (-1), 1), (1, .istore 4, 2), (3, .iconst 0, 1), (4, .istore 5, 2), (6, .iload 5, 2), (8, .aload_n 0, 1), (9, .getfield 92, 3), (12, .if_icmp .ge 144, 3), (15, .aload_n 0, 1), (16, .getfield 35, 3), (19, .iload 5, 2), (21, .iaload, 1), (22, .iload_n 1, 1), (23, .if_icmp .eq 6, 3), (26, .goto 124, 3), (29, .iload_n 3, 1), (30, .iconst (-1), 1), (31, .if_icmp .ne 22, 3), (34, .aload_n 0, 1), (35, .getfield 38, 3), (38, .iload 5, 2), (40, .iaload, 1), (41, .aload_n 0, 1), (42, .getfield 19, 3), (45, .iload_n 2, 1), (46, .iaload, 1), (47, .invokestatic 138, 3), (50, .goto 84, 3), (53, .aload_n 0, 1), (54, .getfield 38, 3), (57, .iload 5, 2), (59, .iaload, 1), (60, .aload_n 0, 1), (61, .getfield 19, 3), (64, .iload_n 2, 1), (65, .iaload, 1), (66, .invokestatic 138, 3), (69, .ifCond .eq 22, 3), (72, .aload_n 0, 1), (73, .getfield 41, 3), (76, .iload 5, 2), (78, .iaload, 1), (79, .aload_n 0, 1), (80, .getfield 19, 3), (83, .iload_n 3, 1), (84, .iaload, 1), (85, .invokestatic 138, 3), (88, .ifCond .ne 41, 3), (91, .aload_n 0, 1), (92, .getfield 38, 3), (95, .iload 5, 2), (97, .iaload, 1), (98, .aload_n 0, 1), (99, .getfield 19, 3), (102, .iload_n 3, 1), (103, .iaload, 1), (104, .invokestatic 138, 3), (107, .ifCond .eq 26, 3), (110, .aload_n 0, 1), (111, .getfield 41, 3), (114, .iload 5, 2), (116, .iaload, 1), (117, .aload_n 0, 1), (118, .getfield 19, 3), (121, .iload_n 2, 1), (122, .iaload, 1), (123, .invokestatic 138, 3), (126, .ifCond .eq 7, 3), (129, .iconst 1, 1), (130, .goto 4, 3), (133, .iconst 0, 1), (134, .istore 6, 2), (136, .iload 6, 2), (138, .ifCond .eq 8, 3), (141, .iload 5, 2), (143, .goto 5, 3), (146, .iload 4, 2), (148, .istore 4, 2), (150, .iinc 5 1, 3), (153, .goto (-147), 3), (156, .iload 4, 2), (158, .ireturn, 1)]
theorem ok_tb_M_ruleFor_0 : dOk prog_6_method_23_code tb_M_ruleFor_0 = true := by decide +kernel
theorem d_M_ruleFor_0 : decode prog_6_method_23_code 0 = .ok (.iconst (-1), 1) := dOk_get (q := (0, .iconst (-1), 1)) ok_tb_M_ruleFor_0 0 rfl
theorem d_M_ruleFor_1 : decode prog_6_method_23_code 1 = .ok (.istore 4, 2) := dOk_get (q := (1, .istore 4, 2)) ok_tb_M_ruleFor_0 1 rfl
theorem d_M_ruleFor_3 : decode prog_6_method_23_code 3 = .ok (.iconst 0, 1) := dOk_get (q := (3, .iconst 0, 1)) ok_tb_M_ruleFor_0 2 rfl
theorem d_M_ruleFor_4 : decode prog_6_method_23_code 4 = .ok (.istore 5, 2) := dOk_get (q := (4, .istore 5, 2)) ok_tb_M_ruleFor_0 3 rfl
theorem d_M_ruleFor_6 : decode prog_6_method_23_code 6 = .ok (.iload 5, 2) := dOk_get (q := (6, .iload 5, 2)) ok_tb_M_ruleFor_0 4 rfl
theorem d_M_ruleFor_8 : decode prog_6_method_23_code 8 = .ok (.aload_n 0, 1) := dOk_get (q := (8, .aload_n 0, 1)) ok_tb_M_ruleFor_0 5 rfl
theorem d_M_ruleFor_9 : decode prog_6_method_23_code 9 = .ok (.getfield 92, 3) := dOk_get (q := (9, .getfield 92, 3)) ok_tb_M_ruleFor_0 6 rfl
theorem d_M_ruleFor_12 : decode prog_6_method_23_code 12 = .ok (.if_icmp .ge 144, 3) := dOk_get (q := (12, .if_icmp .ge 144, 3)) ok_tb_M_ruleFor_0 7 rfl
theorem d_M_ruleFor_15 : decode prog_6_method_23_code 15 = .ok (.aload_n 0, 1) := dOk_get (q := (15, .aload_n 0, 1)) ok_tb_M_ruleFor_0 8 rfl
theorem d_M_ruleFor_16 : decode prog_6_method_23_code 16 = .ok (.getfield 35, 3) := dOk_get (q := (16, .getfield 35, 3)) ok_tb_M_ruleFor_0 9 rfl
theorem d_M_ruleFor_19 : decode prog_6_method_23_code 19 = .ok (.iload 5, 2) := dOk_get (q := (19, .iload 5, 2)) ok_tb_M_ruleFor_0 10 rfl
theorem d_M_ruleFor_21 : decode prog_6_method_23_code 21 = .ok (.iaload, 1) := dOk_get (q := (21, .iaload, 1)) ok_tb_M_ruleFor_0 11 rfl
theorem d_M_ruleFor_22 : decode prog_6_method_23_code 22 = .ok (.iload_n 1, 1) := dOk_get (q := (22, .iload_n 1, 1)) ok_tb_M_ruleFor_0 12 rfl
theorem d_M_ruleFor_23 : decode prog_6_method_23_code 23 = .ok (.if_icmp .eq 6, 3) := dOk_get (q := (23, .if_icmp .eq 6, 3)) ok_tb_M_ruleFor_0 13 rfl
theorem d_M_ruleFor_26 : decode prog_6_method_23_code 26 = .ok (.goto 124, 3) := dOk_get (q := (26, .goto 124, 3)) ok_tb_M_ruleFor_0 14 rfl
theorem d_M_ruleFor_29 : decode prog_6_method_23_code 29 = .ok (.iload_n 3, 1) := dOk_get (q := (29, .iload_n 3, 1)) ok_tb_M_ruleFor_0 15 rfl
theorem d_M_ruleFor_30 : decode prog_6_method_23_code 30 = .ok (.iconst (-1), 1) := dOk_get (q := (30, .iconst (-1), 1)) ok_tb_M_ruleFor_0 16 rfl
theorem d_M_ruleFor_31 : decode prog_6_method_23_code 31 = .ok (.if_icmp .ne 22, 3) := dOk_get (q := (31, .if_icmp .ne 22, 3)) ok_tb_M_ruleFor_0 17 rfl
theorem d_M_ruleFor_34 : decode prog_6_method_23_code 34 = .ok (.aload_n 0, 1) := dOk_get (q := (34, .aload_n 0, 1)) ok_tb_M_ruleFor_0 18 rfl
theorem d_M_ruleFor_35 : decode prog_6_method_23_code 35 = .ok (.getfield 38, 3) := dOk_get (q := (35, .getfield 38, 3)) ok_tb_M_ruleFor_0 19 rfl
theorem d_M_ruleFor_38 : decode prog_6_method_23_code 38 = .ok (.iload 5, 2) := dOk_get (q := (38, .iload 5, 2)) ok_tb_M_ruleFor_0 20 rfl
theorem d_M_ruleFor_40 : decode prog_6_method_23_code 40 = .ok (.iaload, 1) := dOk_get (q := (40, .iaload, 1)) ok_tb_M_ruleFor_0 21 rfl
theorem d_M_ruleFor_41 : decode prog_6_method_23_code 41 = .ok (.aload_n 0, 1) := dOk_get (q := (41, .aload_n 0, 1)) ok_tb_M_ruleFor_0 22 rfl
theorem d_M_ruleFor_42 : decode prog_6_method_23_code 42 = .ok (.getfield 19, 3) := dOk_get (q := (42, .getfield 19, 3)) ok_tb_M_ruleFor_0 23 rfl
theorem d_M_ruleFor_45 : decode prog_6_method_23_code 45 = .ok (.iload_n 2, 1) := dOk_get (q := (45, .iload_n 2, 1)) ok_tb_M_ruleFor_0 24 rfl
theorem d_M_ruleFor_46 : decode prog_6_method_23_code 46 = .ok (.iaload, 1) := dOk_get (q := (46, .iaload, 1)) ok_tb_M_ruleFor_0 25 rfl
theorem d_M_ruleFor_47 : decode prog_6_method_23_code 47 = .ok (.invokestatic 138, 3) := dOk_get (q := (47, .invokestatic 138, 3)) ok_tb_M_ruleFor_0 26 rfl
theorem d_M_ruleFor_50 : decode prog_6_method_23_code 50 = .ok (.goto 84, 3) := dOk_get (q := (50, .goto 84, 3)) ok_tb_M_ruleFor_0 27 rfl
theorem d_M_ruleFor_53 : decode prog_6_method_23_code 53 = .ok (.aload_n 0, 1) := dOk_get (q := (53, .aload_n 0, 1)) ok_tb_M_ruleFor_0 28 rfl
theorem d_M_ruleFor_54 : decode prog_6_method_23_code 54 = .ok (.getfield 38, 3) := dOk_get (q := (54, .getfield 38, 3)) ok_tb_M_ruleFor_0 29 rfl
theorem d_M_ruleFor_57 : decode prog_6_method_23_code 57 = .ok (.iload 5, 2) := dOk_get (q := (57, .iload 5, 2)) ok_tb_M_ruleFor_0 30 rfl
theorem d_M_ruleFor_59 : decode prog_6_method_23_code 59 = .ok (.iaload, 1) := dOk_get (q := (59, .iaload, 1)) ok_tb_M_ruleFor_0 31 rfl
theorem d_M_ruleFor_60 : decode prog_6_method_23_code 60 = .ok (.aload_n 0, 1) := dOk_get (q := (60, .aload_n 0, 1)) ok_tb_M_ruleFor_0 32 rfl
theorem d_M_ruleFor_61 : decode prog_6_method_23_code 61 = .ok (.getfield 19, 3) := dOk_get (q := (61, .getfield 19, 3)) ok_tb_M_ruleFor_0 33 rfl
theorem d_M_ruleFor_64 : decode prog_6_method_23_code 64 = .ok (.iload_n 2, 1) := dOk_get (q := (64, .iload_n 2, 1)) ok_tb_M_ruleFor_0 34 rfl
theorem d_M_ruleFor_65 : decode prog_6_method_23_code 65 = .ok (.iaload, 1) := dOk_get (q := (65, .iaload, 1)) ok_tb_M_ruleFor_0 35 rfl
theorem d_M_ruleFor_66 : decode prog_6_method_23_code 66 = .ok (.invokestatic 138, 3) := dOk_get (q := (66, .invokestatic 138, 3)) ok_tb_M_ruleFor_0 36 rfl
theorem d_M_ruleFor_69 : decode prog_6_method_23_code 69 = .ok (.ifCond .eq 22, 3) := dOk_get (q := (69, .ifCond .eq 22, 3)) ok_tb_M_ruleFor_0 37 rfl
theorem d_M_ruleFor_72 : decode prog_6_method_23_code 72 = .ok (.aload_n 0, 1) := dOk_get (q := (72, .aload_n 0, 1)) ok_tb_M_ruleFor_0 38 rfl
theorem d_M_ruleFor_73 : decode prog_6_method_23_code 73 = .ok (.getfield 41, 3) := dOk_get (q := (73, .getfield 41, 3)) ok_tb_M_ruleFor_0 39 rfl
theorem d_M_ruleFor_76 : decode prog_6_method_23_code 76 = .ok (.iload 5, 2) := dOk_get (q := (76, .iload 5, 2)) ok_tb_M_ruleFor_0 40 rfl
theorem d_M_ruleFor_78 : decode prog_6_method_23_code 78 = .ok (.iaload, 1) := dOk_get (q := (78, .iaload, 1)) ok_tb_M_ruleFor_0 41 rfl
theorem d_M_ruleFor_79 : decode prog_6_method_23_code 79 = .ok (.aload_n 0, 1) := dOk_get (q := (79, .aload_n 0, 1)) ok_tb_M_ruleFor_0 42 rfl
theorem d_M_ruleFor_80 : decode prog_6_method_23_code 80 = .ok (.getfield 19, 3) := dOk_get (q := (80, .getfield 19, 3)) ok_tb_M_ruleFor_0 43 rfl
theorem d_M_ruleFor_83 : decode prog_6_method_23_code 83 = .ok (.iload_n 3, 1) := dOk_get (q := (83, .iload_n 3, 1)) ok_tb_M_ruleFor_0 44 rfl
theorem d_M_ruleFor_84 : decode prog_6_method_23_code 84 = .ok (.iaload, 1) := dOk_get (q := (84, .iaload, 1)) ok_tb_M_ruleFor_0 45 rfl
theorem d_M_ruleFor_85 : decode prog_6_method_23_code 85 = .ok (.invokestatic 138, 3) := dOk_get (q := (85, .invokestatic 138, 3)) ok_tb_M_ruleFor_0 46 rfl
theorem d_M_ruleFor_88 : decode prog_6_method_23_code 88 = .ok (.ifCond .ne 41, 3) := dOk_get (q := (88, .ifCond .ne 41, 3)) ok_tb_M_ruleFor_0 47 rfl
theorem d_M_ruleFor_91 : decode prog_6_method_23_code 91 = .ok (.aload_n 0, 1) := dOk_get (q := (91, .aload_n 0, 1)) ok_tb_M_ruleFor_0 48 rfl
theorem d_M_ruleFor_92 : decode prog_6_method_23_code 92 = .ok (.getfield 38, 3) := dOk_get (q := (92, .getfield 38, 3)) ok_tb_M_ruleFor_0 49 rfl
theorem d_M_ruleFor_95 : decode prog_6_method_23_code 95 = .ok (.iload 5, 2) := dOk_get (q := (95, .iload 5, 2)) ok_tb_M_ruleFor_0 50 rfl
theorem d_M_ruleFor_97 : decode prog_6_method_23_code 97 = .ok (.iaload, 1) := dOk_get (q := (97, .iaload, 1)) ok_tb_M_ruleFor_0 51 rfl
theorem d_M_ruleFor_98 : decode prog_6_method_23_code 98 = .ok (.aload_n 0, 1) := dOk_get (q := (98, .aload_n 0, 1)) ok_tb_M_ruleFor_0 52 rfl
theorem d_M_ruleFor_99 : decode prog_6_method_23_code 99 = .ok (.getfield 19, 3) := dOk_get (q := (99, .getfield 19, 3)) ok_tb_M_ruleFor_0 53 rfl
theorem d_M_ruleFor_102 : decode prog_6_method_23_code 102 = .ok (.iload_n 3, 1) := dOk_get (q := (102, .iload_n 3, 1)) ok_tb_M_ruleFor_0 54 rfl
theorem d_M_ruleFor_103 : decode prog_6_method_23_code 103 = .ok (.iaload, 1) := dOk_get (q := (103, .iaload, 1)) ok_tb_M_ruleFor_0 55 rfl
theorem d_M_ruleFor_104 : decode prog_6_method_23_code 104 = .ok (.invokestatic 138, 3) := dOk_get (q := (104, .invokestatic 138, 3)) ok_tb_M_ruleFor_0 56 rfl
theorem d_M_ruleFor_107 : decode prog_6_method_23_code 107 = .ok (.ifCond .eq 26, 3) := dOk_get (q := (107, .ifCond .eq 26, 3)) ok_tb_M_ruleFor_0 57 rfl
theorem d_M_ruleFor_110 : decode prog_6_method_23_code 110 = .ok (.aload_n 0, 1) := dOk_get (q := (110, .aload_n 0, 1)) ok_tb_M_ruleFor_0 58 rfl
theorem d_M_ruleFor_111 : decode prog_6_method_23_code 111 = .ok (.getfield 41, 3) := dOk_get (q := (111, .getfield 41, 3)) ok_tb_M_ruleFor_0 59 rfl
theorem d_M_ruleFor_114 : decode prog_6_method_23_code 114 = .ok (.iload 5, 2) := dOk_get (q := (114, .iload 5, 2)) ok_tb_M_ruleFor_0 60 rfl
theorem d_M_ruleFor_116 : decode prog_6_method_23_code 116 = .ok (.iaload, 1) := dOk_get (q := (116, .iaload, 1)) ok_tb_M_ruleFor_0 61 rfl
theorem d_M_ruleFor_117 : decode prog_6_method_23_code 117 = .ok (.aload_n 0, 1) := dOk_get (q := (117, .aload_n 0, 1)) ok_tb_M_ruleFor_0 62 rfl
theorem d_M_ruleFor_118 : decode prog_6_method_23_code 118 = .ok (.getfield 19, 3) := dOk_get (q := (118, .getfield 19, 3)) ok_tb_M_ruleFor_0 63 rfl
theorem d_M_ruleFor_121 : decode prog_6_method_23_code 121 = .ok (.iload_n 2, 1) := dOk_get (q := (121, .iload_n 2, 1)) ok_tb_M_ruleFor_0 64 rfl
theorem d_M_ruleFor_122 : decode prog_6_method_23_code 122 = .ok (.iaload, 1) := dOk_get (q := (122, .iaload, 1)) ok_tb_M_ruleFor_0 65 rfl
theorem d_M_ruleFor_123 : decode prog_6_method_23_code 123 = .ok (.invokestatic 138, 3) := dOk_get (q := (123, .invokestatic 138, 3)) ok_tb_M_ruleFor_0 66 rfl
theorem d_M_ruleFor_126 : decode prog_6_method_23_code 126 = .ok (.ifCond .eq 7, 3) := dOk_get (q := (126, .ifCond .eq 7, 3)) ok_tb_M_ruleFor_0 67 rfl
theorem d_M_ruleFor_129 : decode prog_6_method_23_code 129 = .ok (.iconst 1, 1) := dOk_get (q := (129, .iconst 1, 1)) ok_tb_M_ruleFor_0 68 rfl
theorem d_M_ruleFor_130 : decode prog_6_method_23_code 130 = .ok (.goto 4, 3) := dOk_get (q := (130, .goto 4, 3)) ok_tb_M_ruleFor_0 69 rfl
theorem d_M_ruleFor_133 : decode prog_6_method_23_code 133 = .ok (.iconst 0, 1) := dOk_get (q := (133, .iconst 0, 1)) ok_tb_M_ruleFor_0 70 rfl
theorem d_M_ruleFor_134 : decode prog_6_method_23_code 134 = .ok (.istore 6, 2) := dOk_get (q := (134, .istore 6, 2)) ok_tb_M_ruleFor_0 71 rfl
theorem d_M_ruleFor_136 : decode prog_6_method_23_code 136 = .ok (.iload 6, 2) := dOk_get (q := (136, .iload 6, 2)) ok_tb_M_ruleFor_0 72 rfl
theorem d_M_ruleFor_138 : decode prog_6_method_23_code 138 = .ok (.ifCond .eq 8, 3) := dOk_get (q := (138, .ifCond .eq 8, 3)) ok_tb_M_ruleFor_0 73 rfl
theorem d_M_ruleFor_141 : decode prog_6_method_23_code 141 = .ok (.iload 5, 2) := dOk_get (q := (141, .iload 5, 2)) ok_tb_M_ruleFor_0 74 rfl
theorem d_M_ruleFor_143 : decode prog_6_method_23_code 143 = .ok (.goto 5, 3) := dOk_get (q := (143, .goto 5, 3)) ok_tb_M_ruleFor_0 75 rfl
theorem d_M_ruleFor_146 : decode prog_6_method_23_code 146 = .ok (.iload 4, 2) := dOk_get (q := (146, .iload 4, 2)) ok_tb_M_ruleFor_0 76 rfl
theorem d_M_ruleFor_148 : decode prog_6_method_23_code 148 = .ok (.istore 4, 2) := dOk_get (q := (148, .istore 4, 2)) ok_tb_M_ruleFor_0 77 rfl
theorem d_M_ruleFor_150 : decode prog_6_method_23_code 150 = .ok (.iinc 5 1, 3) := dOk_get (q := (150, .iinc 5 1, 3)) ok_tb_M_ruleFor_0 78 rfl
theorem d_M_ruleFor_153 : decode prog_6_method_23_code 153 = .ok (.goto (-147), 3) := dOk_get (q := (153, .goto (-147), 3)) ok_tb_M_ruleFor_0 79 rfl
theorem d_M_ruleFor_156 : decode prog_6_method_23_code 156 = .ok (.iload 4, 2) := dOk_get (q := (156, .iload 4, 2)) ok_tb_M_ruleFor_0 80 rfl
theorem d_M_ruleFor_158 : decode prog_6_method_23_code 158 = .ok (.ireturn, 1) := dOk_get (q := (158, .ireturn, 1)) ok_tb_M_ruleFor_0 81 rfl
def tb_M_isOf_0 : List (Nat × Instr × Nat) := [(0, .iload_n 0, 1), (1, .iconst (-1), 1), (2, .if_icmp .eq 8, 3), (5, .iload_n 0, 1), (6, .iload_n 1, 1), (7, .if_icmp .ne 7, 3), (10, .iconst 1, 1), (11, .goto 4, 3), (14, .iconst 0, 1), (15, .ireturn, 1)]
theorem ok_tb_M_isOf_0 : dOk prog_6_method_22_code tb_M_isOf_0 = true := by decide +kernel
theorem d_M_isOf_0 : decode prog_6_method_22_code 0 = .ok (.iload_n 0, 1) := dOk_get (q := (0, .iload_n 0, 1)) ok_tb_M_isOf_0 0 rfl
theorem d_M_isOf_1 : decode prog_6_method_22_code 1 = .ok (.iconst (-1), 1) := dOk_get (q := (1, .iconst (-1), 1)) ok_tb_M_isOf_0 1 rfl
theorem d_M_isOf_2 : decode prog_6_method_22_code 2 = .ok (.if_icmp .eq 8, 3) := dOk_get (q := (2, .if_icmp .eq 8, 3)) ok_tb_M_isOf_0 2 rfl
theorem d_M_isOf_5 : decode prog_6_method_22_code 5 = .ok (.iload_n 0, 1) := dOk_get (q := (5, .iload_n 0, 1)) ok_tb_M_isOf_0 3 rfl
theorem d_M_isOf_6 : decode prog_6_method_22_code 6 = .ok (.iload_n 1, 1) := dOk_get (q := (6, .iload_n 1, 1)) ok_tb_M_isOf_0 4 rfl
theorem d_M_isOf_7 : decode prog_6_method_22_code 7 = .ok (.if_icmp .ne 7, 3) := dOk_get (q := (7, .if_icmp .ne 7, 3)) ok_tb_M_isOf_0 5 rfl
theorem d_M_isOf_10 : decode prog_6_method_22_code 10 = .ok (.iconst 1, 1) := dOk_get (q := (10, .iconst 1, 1)) ok_tb_M_isOf_0 6 rfl
theorem d_M_isOf_11 : decode prog_6_method_22_code 11 = .ok (.goto 4, 3) := dOk_get (q := (11, .goto 4, 3)) ok_tb_M_isOf_0 7 rfl
theorem d_M_isOf_14 : decode prog_6_method_22_code 14 = .ok (.iconst 0, 1) := dOk_get (q := (14, .iconst 0, 1)) ok_tb_M_isOf_0 8 rfl
theorem d_M_isOf_15 : decode prog_6_method_22_code 15 = .ok (.ireturn, 1) := dOk_get (q := (15, .ireturn, 1)) ok_tb_M_isOf_0 9 rfl
def tb_M_isRinged_0 : List (Nat × Instr × Nat) := [(0, .iconst 0, 1), (1, .istore 4, 2), (3, .iload 4, 2), (5, .aload_n 0, 1), (6, .getfield 72, 3), (9, .if_icmp .ge 149, 3), (12, .aload_n 0, 1), (13, .getfield 16, 3), (16, .iload 4, 2), (18, .iaload, 1), (19, .iconst 1, 1), (20, .if_icmp .ne 132, 3), (23, .aload_n 0, 1), (24, .getfield 32, 3), (27, .iload 4, 2), (29, .laload, 1), (30, .lconst 0, 1), (31, .lcmp, 1), (32, .ifCond .eq 120, 3), (35, .aload_n 0, 1), (36, .iload_n 1, 1), (37, .iload 4, 2), (39, .invokevirtual 144, 3), (42, .ifCond .ne 6, 3), (45, .goto 107, 3), (48, .aload_n 0, 1), (49, .getfield 32, 3), (52, .iload 4, 2), (54, .laload, 1), (55, .aload_n 0, 1), (56, .getfield 32, 3), (59, .iload_n 1, 1), (60, .laload, 1), (61, .lsub, 1), (62, .lload_n 2, 1), (63, .lsub, 1), (64, .lstore 5, 2), (66, .lload 5, 2), (68, .lconst 0, 1), (69, .lcmp, 1), (70, .ifCond .lt 7, 3), (73, .iconst 1, 1), (74, .goto 4, 3), (77, .iconst 0, 1), (78, .istore 7, 2), (80, .bipush 8, 2), (82, .iload_n 1, 1), (83, .imul, 1), (84, .istore 8, 2), (86, .iload 8, 2), (88, .bipush 8, 2), (90, .iload_n 1, 1), (91, .imul, 1), (92, .aload_n 0, 1), (93, .getfield 22, 3), (96, .iload_n 1, 1), (97, .iaload, 1), (98, .iadd, 1), (99, .if_icmp .ge 46, 3), (102, .iload 7, 2), (104, .ifCond .eq 41, 3), (107, .aload_n 0, 1), (108, .aload_n 0, 1), (109, .getfield 25, 3), (112, .iload 8, 2), (114, .laload, 1), (115, .aload_n 0, 1), (116, .getfield 29, 3), (119, .iload 8, 2), (121, .laload, 1), (122, .iload 4, 2), (124, .lload 5, 2), (126, .invokevirtual 134, 3), (129, .ifCond .gt 7, 3), (132, .iconst 1, 1), (133, .goto 4, 3), (136, .iconst 0, 1), (137, .istore 7, 2), (139, .iinc 8 1, 3), (142, .goto (-56), 3), (145, .iload 7, 2), (147, .ifCond .eq 5, 3), (150, .iconst 1, 1), (151, .ireturn, 1), (152, .iinc 4 1, 3), (155, .goto (-152), 3), (158, .iconst 0, 1), (159, .ireturn, 1)]
theorem ok_tb_M_isRinged_0 : dOk prog_6_method_27_code tb_M_isRinged_0 = true := by decide +kernel
theorem d_M_isRinged_0 : decode prog_6_method_27_code 0 = .ok (.iconst 0, 1) := dOk_get (q := (0, .iconst 0, 1)) ok_tb_M_isRinged_0 0 rfl
theorem d_M_isRinged_1 : decode prog_6_method_27_code 1 = .ok (.istore 4, 2) := dOk_get (q := (1, .istore 4, 2)) ok_tb_M_isRinged_0 1 rfl
theorem d_M_isRinged_3 : decode prog_6_method_27_code 3 = .ok (.iload 4, 2) := dOk_get (q := (3, .iload 4, 2)) ok_tb_M_isRinged_0 2 rfl
theorem d_M_isRinged_5 : decode prog_6_method_27_code 5 = .ok (.aload_n 0, 1) := dOk_get (q := (5, .aload_n 0, 1)) ok_tb_M_isRinged_0 3 rfl
theorem d_M_isRinged_6 : decode prog_6_method_27_code 6 = .ok (.getfield 72, 3) := dOk_get (q := (6, .getfield 72, 3)) ok_tb_M_isRinged_0 4 rfl
theorem d_M_isRinged_9 : decode prog_6_method_27_code 9 = .ok (.if_icmp .ge 149, 3) := dOk_get (q := (9, .if_icmp .ge 149, 3)) ok_tb_M_isRinged_0 5 rfl
theorem d_M_isRinged_12 : decode prog_6_method_27_code 12 = .ok (.aload_n 0, 1) := dOk_get (q := (12, .aload_n 0, 1)) ok_tb_M_isRinged_0 6 rfl
theorem d_M_isRinged_13 : decode prog_6_method_27_code 13 = .ok (.getfield 16, 3) := dOk_get (q := (13, .getfield 16, 3)) ok_tb_M_isRinged_0 7 rfl
theorem d_M_isRinged_16 : decode prog_6_method_27_code 16 = .ok (.iload 4, 2) := dOk_get (q := (16, .iload 4, 2)) ok_tb_M_isRinged_0 8 rfl
theorem d_M_isRinged_18 : decode prog_6_method_27_code 18 = .ok (.iaload, 1) := dOk_get (q := (18, .iaload, 1)) ok_tb_M_isRinged_0 9 rfl
theorem d_M_isRinged_19 : decode prog_6_method_27_code 19 = .ok (.iconst 1, 1) := dOk_get (q := (19, .iconst 1, 1)) ok_tb_M_isRinged_0 10 rfl
theorem d_M_isRinged_20 : decode prog_6_method_27_code 20 = .ok (.if_icmp .ne 132, 3) := dOk_get (q := (20, .if_icmp .ne 132, 3)) ok_tb_M_isRinged_0 11 rfl
theorem d_M_isRinged_23 : decode prog_6_method_27_code 23 = .ok (.aload_n 0, 1) := dOk_get (q := (23, .aload_n 0, 1)) ok_tb_M_isRinged_0 12 rfl
theorem d_M_isRinged_24 : decode prog_6_method_27_code 24 = .ok (.getfield 32, 3) := dOk_get (q := (24, .getfield 32, 3)) ok_tb_M_isRinged_0 13 rfl
theorem d_M_isRinged_27 : decode prog_6_method_27_code 27 = .ok (.iload 4, 2) := dOk_get (q := (27, .iload 4, 2)) ok_tb_M_isRinged_0 14 rfl
theorem d_M_isRinged_29 : decode prog_6_method_27_code 29 = .ok (.laload, 1) := dOk_get (q := (29, .laload, 1)) ok_tb_M_isRinged_0 15 rfl
theorem d_M_isRinged_30 : decode prog_6_method_27_code 30 = .ok (.lconst 0, 1) := dOk_get (q := (30, .lconst 0, 1)) ok_tb_M_isRinged_0 16 rfl
theorem d_M_isRinged_31 : decode prog_6_method_27_code 31 = .ok (.lcmp, 1) := dOk_get (q := (31, .lcmp, 1)) ok_tb_M_isRinged_0 17 rfl
theorem d_M_isRinged_32 : decode prog_6_method_27_code 32 = .ok (.ifCond .eq 120, 3) := dOk_get (q := (32, .ifCond .eq 120, 3)) ok_tb_M_isRinged_0 18 rfl
theorem d_M_isRinged_35 : decode prog_6_method_27_code 35 = .ok (.aload_n 0, 1) := dOk_get (q := (35, .aload_n 0, 1)) ok_tb_M_isRinged_0 19 rfl
theorem d_M_isRinged_36 : decode prog_6_method_27_code 36 = .ok (.iload_n 1, 1) := dOk_get (q := (36, .iload_n 1, 1)) ok_tb_M_isRinged_0 20 rfl
theorem d_M_isRinged_37 : decode prog_6_method_27_code 37 = .ok (.iload 4, 2) := dOk_get (q := (37, .iload 4, 2)) ok_tb_M_isRinged_0 21 rfl
theorem d_M_isRinged_39 : decode prog_6_method_27_code 39 = .ok (.invokevirtual 144, 3) := dOk_get (q := (39, .invokevirtual 144, 3)) ok_tb_M_isRinged_0 22 rfl
theorem d_M_isRinged_42 : decode prog_6_method_27_code 42 = .ok (.ifCond .ne 6, 3) := dOk_get (q := (42, .ifCond .ne 6, 3)) ok_tb_M_isRinged_0 23 rfl
theorem d_M_isRinged_45 : decode prog_6_method_27_code 45 = .ok (.goto 107, 3) := dOk_get (q := (45, .goto 107, 3)) ok_tb_M_isRinged_0 24 rfl
theorem d_M_isRinged_48 : decode prog_6_method_27_code 48 = .ok (.aload_n 0, 1) := dOk_get (q := (48, .aload_n 0, 1)) ok_tb_M_isRinged_0 25 rfl
theorem d_M_isRinged_49 : decode prog_6_method_27_code 49 = .ok (.getfield 32, 3) := dOk_get (q := (49, .getfield 32, 3)) ok_tb_M_isRinged_0 26 rfl
theorem d_M_isRinged_52 : decode prog_6_method_27_code 52 = .ok (.iload 4, 2) := dOk_get (q := (52, .iload 4, 2)) ok_tb_M_isRinged_0 27 rfl
theorem d_M_isRinged_54 : decode prog_6_method_27_code 54 = .ok (.laload, 1) := dOk_get (q := (54, .laload, 1)) ok_tb_M_isRinged_0 28 rfl
theorem d_M_isRinged_55 : decode prog_6_method_27_code 55 = .ok (.aload_n 0, 1) := dOk_get (q := (55, .aload_n 0, 1)) ok_tb_M_isRinged_0 29 rfl
theorem d_M_isRinged_56 : decode prog_6_method_27_code 56 = .ok (.getfield 32, 3) := dOk_get (q := (56, .getfield 32, 3)) ok_tb_M_isRinged_0 30 rfl
theorem d_M_isRinged_59 : decode prog_6_method_27_code 59 = .ok (.iload_n 1, 1) := dOk_get (q := (59, .iload_n 1, 1)) ok_tb_M_isRinged_0 31 rfl
theorem d_M_isRinged_60 : decode prog_6_method_27_code 60 = .ok (.laload, 1) := dOk_get (q := (60, .laload, 1)) ok_tb_M_isRinged_0 32 rfl
theorem d_M_isRinged_61 : decode prog_6_method_27_code 61 = .ok (.lsub, 1) := dOk_get (q := (61, .lsub, 1)) ok_tb_M_isRinged_0 33 rfl
theorem d_M_isRinged_62 : decode prog_6_method_27_code 62 = .ok (.lload_n 2, 1) := dOk_get (q := (62, .lload_n 2, 1)) ok_tb_M_isRinged_0 34 rfl
theorem d_M_isRinged_63 : decode prog_6_method_27_code 63 = .ok (.lsub, 1) := dOk_get (q := (63, .lsub, 1)) ok_tb_M_isRinged_0 35 rfl
theorem d_M_isRinged_64 : decode prog_6_method_27_code 64 = .ok (.lstore 5, 2) := dOk_get (q := (64, .lstore 5, 2)) ok_tb_M_isRinged_0 36 rfl
theorem d_M_isRinged_66 : decode prog_6_method_27_code 66 = .ok (.lload 5, 2) := dOk_get (q := (66, .lload 5, 2)) ok_tb_M_isRinged_0 37 rfl
theorem d_M_isRinged_68 : decode prog_6_method_27_code 68 = .ok (.lconst 0, 1) := dOk_get (q := (68, .lconst 0, 1)) ok_tb_M_isRinged_0 38 rfl
theorem d_M_isRinged_69 : decode prog_6_method_27_code 69 = .ok (.lcmp, 1) := dOk_get (q := (69, .lcmp, 1)) ok_tb_M_isRinged_0 39 rfl
theorem d_M_isRinged_70 : decode prog_6_method_27_code 70 = .ok (.ifCond .lt 7, 3) := dOk_get (q := (70, .ifCond .lt 7, 3)) ok_tb_M_isRinged_0 40 rfl
theorem d_M_isRinged_73 : decode prog_6_method_27_code 73 = .ok (.iconst 1, 1) := dOk_get (q := (73, .iconst 1, 1)) ok_tb_M_isRinged_0 41 rfl
theorem d_M_isRinged_74 : decode prog_6_method_27_code 74 = .ok (.goto 4, 3) := dOk_get (q := (74, .goto 4, 3)) ok_tb_M_isRinged_0 42 rfl
theorem d_M_isRinged_77 : decode prog_6_method_27_code 77 = .ok (.iconst 0, 1) := dOk_get (q := (77, .iconst 0, 1)) ok_tb_M_isRinged_0 43 rfl
theorem d_M_isRinged_78 : decode prog_6_method_27_code 78 = .ok (.istore 7, 2) := dOk_get (q := (78, .istore 7, 2)) ok_tb_M_isRinged_0 44 rfl
theorem d_M_isRinged_80 : decode prog_6_method_27_code 80 = .ok (.bipush 8, 2) := dOk_get (q := (80, .bipush 8, 2)) ok_tb_M_isRinged_0 45 rfl
theorem d_M_isRinged_82 : decode prog_6_method_27_code 82 = .ok (.iload_n 1, 1) := dOk_get (q := (82, .iload_n 1, 1)) ok_tb_M_isRinged_0 46 rfl
theorem d_M_isRinged_83 : decode prog_6_method_27_code 83 = .ok (.imul, 1) := dOk_get (q := (83, .imul, 1)) ok_tb_M_isRinged_0 47 rfl
theorem d_M_isRinged_84 : decode prog_6_method_27_code 84 = .ok (.istore 8, 2) := dOk_get (q := (84, .istore 8, 2)) ok_tb_M_isRinged_0 48 rfl
theorem d_M_isRinged_86 : decode prog_6_method_27_code 86 = .ok (.iload 8, 2) := dOk_get (q := (86, .iload 8, 2)) ok_tb_M_isRinged_0 49 rfl
theorem d_M_isRinged_88 : decode prog_6_method_27_code 88 = .ok (.bipush 8, 2) := dOk_get (q := (88, .bipush 8, 2)) ok_tb_M_isRinged_0 50 rfl
theorem d_M_isRinged_90 : decode prog_6_method_27_code 90 = .ok (.iload_n 1, 1) := dOk_get (q := (90, .iload_n 1, 1)) ok_tb_M_isRinged_0 51 rfl
theorem d_M_isRinged_91 : decode prog_6_method_27_code 91 = .ok (.imul, 1) := dOk_get (q := (91, .imul, 1)) ok_tb_M_isRinged_0 52 rfl
theorem d_M_isRinged_92 : decode prog_6_method_27_code 92 = .ok (.aload_n 0, 1) := dOk_get (q := (92, .aload_n 0, 1)) ok_tb_M_isRinged_0 53 rfl
theorem d_M_isRinged_93 : decode prog_6_method_27_code 93 = .ok (.getfield 22, 3) := dOk_get (q := (93, .getfield 22, 3)) ok_tb_M_isRinged_0 54 rfl
theorem d_M_isRinged_96 : decode prog_6_method_27_code 96 = .ok (.iload_n 1, 1) := dOk_get (q := (96, .iload_n 1, 1)) ok_tb_M_isRinged_0 55 rfl
theorem d_M_isRinged_97 : decode prog_6_method_27_code 97 = .ok (.iaload, 1) := dOk_get (q := (97, .iaload, 1)) ok_tb_M_isRinged_0 56 rfl
theorem d_M_isRinged_98 : decode prog_6_method_27_code 98 = .ok (.iadd, 1) := dOk_get (q := (98, .iadd, 1)) ok_tb_M_isRinged_0 57 rfl
theorem d_M_isRinged_99 : decode prog_6_method_27_code 99 = .ok (.if_icmp .ge 46, 3) := dOk_get (q := (99, .if_icmp .ge 46, 3)) ok_tb_M_isRinged_0 58 rfl
theorem d_M_isRinged_102 : decode prog_6_method_27_code 102 = .ok (.iload 7, 2) := dOk_get (q := (102, .iload 7, 2)) ok_tb_M_isRinged_0 59 rfl
theorem d_M_isRinged_104 : decode prog_6_method_27_code 104 = .ok (.ifCond .eq 41, 3) := dOk_get (q := (104, .ifCond .eq 41, 3)) ok_tb_M_isRinged_0 60 rfl
theorem d_M_isRinged_107 : decode prog_6_method_27_code 107 = .ok (.aload_n 0, 1) := dOk_get (q := (107, .aload_n 0, 1)) ok_tb_M_isRinged_0 61 rfl
theorem d_M_isRinged_108 : decode prog_6_method_27_code 108 = .ok (.aload_n 0, 1) := dOk_get (q := (108, .aload_n 0, 1)) ok_tb_M_isRinged_0 62 rfl
theorem d_M_isRinged_109 : decode prog_6_method_27_code 109 = .ok (.getfield 25, 3) := dOk_get (q := (109, .getfield 25, 3)) ok_tb_M_isRinged_0 63 rfl
theorem d_M_isRinged_112 : decode prog_6_method_27_code 112 = .ok (.iload 8, 2) := dOk_get (q := (112, .iload 8, 2)) ok_tb_M_isRinged_0 64 rfl
theorem d_M_isRinged_114 : decode prog_6_method_27_code 114 = .ok (.laload, 1) := dOk_get (q := (114, .laload, 1)) ok_tb_M_isRinged_0 65 rfl
theorem d_M_isRinged_115 : decode prog_6_method_27_code 115 = .ok (.aload_n 0, 1) := dOk_get (q := (115, .aload_n 0, 1)) ok_tb_M_isRinged_0 66 rfl
theorem d_M_isRinged_116 : decode prog_6_method_27_code 116 = .ok (.getfield 29, 3) := dOk_get (q := (116, .getfield 29, 3)) ok_tb_M_isRinged_0 67 rfl
theorem d_M_isRinged_119 : decode prog_6_method_27_code 119 = .ok (.iload 8, 2) := dOk_get (q := (119, .iload 8, 2)) ok_tb_M_isRinged_0 68 rfl
theorem d_M_isRinged_121 : decode prog_6_method_27_code 121 = .ok (.laload, 1) := dOk_get (q := (121, .laload, 1)) ok_tb_M_isRinged_0 69 rfl
theorem d_M_isRinged_122 : decode prog_6_method_27_code 122 = .ok (.iload 4, 2) := dOk_get (q := (122, .iload 4, 2)) ok_tb_M_isRinged_0 70 rfl
theorem d_M_isRinged_124 : decode prog_6_method_27_code 124 = .ok (.lload 5, 2) := dOk_get (q := (124, .lload 5, 2)) ok_tb_M_isRinged_0 71 rfl
theorem d_M_isRinged_126 : decode prog_6_method_27_code 126 = .ok (.invokevirtual 134, 3) := dOk_get (q := (126, .invokevirtual 134, 3)) ok_tb_M_isRinged_0 72 rfl
theorem d_M_isRinged_129 : decode prog_6_method_27_code 129 = .ok (.ifCond .gt 7, 3) := dOk_get (q := (129, .ifCond .gt 7, 3)) ok_tb_M_isRinged_0 73 rfl
theorem d_M_isRinged_132 : decode prog_6_method_27_code 132 = .ok (.iconst 1, 1) := dOk_get (q := (132, .iconst 1, 1)) ok_tb_M_isRinged_0 74 rfl
theorem d_M_isRinged_133 : decode prog_6_method_27_code 133 = .ok (.goto 4, 3) := dOk_get (q := (133, .goto 4, 3)) ok_tb_M_isRinged_0 75 rfl
theorem d_M_isRinged_136 : decode prog_6_method_27_code 136 = .ok (.iconst 0, 1) := dOk_get (q := (136, .iconst 0, 1)) ok_tb_M_isRinged_0 76 rfl
theorem d_M_isRinged_137 : decode prog_6_method_27_code 137 = .ok (.istore 7, 2) := dOk_get (q := (137, .istore 7, 2)) ok_tb_M_isRinged_0 77 rfl
theorem d_M_isRinged_139 : decode prog_6_method_27_code 139 = .ok (.iinc 8 1, 3) := dOk_get (q := (139, .iinc 8 1, 3)) ok_tb_M_isRinged_0 78 rfl
theorem d_M_isRinged_142 : decode prog_6_method_27_code 142 = .ok (.goto (-56), 3) := dOk_get (q := (142, .goto (-56), 3)) ok_tb_M_isRinged_0 79 rfl
theorem d_M_isRinged_145 : decode prog_6_method_27_code 145 = .ok (.iload 7, 2) := dOk_get (q := (145, .iload 7, 2)) ok_tb_M_isRinged_0 80 rfl
theorem d_M_isRinged_147 : decode prog_6_method_27_code 147 = .ok (.ifCond .eq 5, 3) := dOk_get (q := (147, .ifCond .eq 5, 3)) ok_tb_M_isRinged_0 81 rfl
theorem d_M_isRinged_150 : decode prog_6_method_27_code 150 = .ok (.iconst 1, 1) := dOk_get (q := (150, .iconst 1, 1)) ok_tb_M_isRinged_0 82 rfl
theorem d_M_isRinged_151 : decode prog_6_method_27_code 151 = .ok (.ireturn, 1) := dOk_get (q := (151, .ireturn, 1)) ok_tb_M_isRinged_0 83 rfl
theorem d_M_isRinged_152 : decode prog_6_method_27_code 152 = .ok (.iinc 4 1, 3) := dOk_get (q := (152, .iinc 4 1, 3)) ok_tb_M_isRinged_0 84 rfl
theorem d_M_isRinged_155 : decode prog_6_method_27_code 155 = .ok (.goto (-152), 3) := dOk_get (q := (155, .goto (-152), 3)) ok_tb_M_isRinged_0 85 rfl
theorem d_M_isRinged_158 : decode prog_6_method_27_code 158 = .ok (.iconst 0, 1) := dOk_get (q := (158, .iconst 0, 1)) ok_tb_M_isRinged_0 86 rfl
theorem d_M_isRinged_159 : decode prog_6_method_27_code 159 = .ok (.ireturn, 1) := dOk_get (q := (159, .ireturn, 1)) ok_tb_M_isRinged_0 87 rfl
def tb_M_haveOneNet_0 : List (Nat × Instr × Nat) := [(0, .aload_n 0, 1), (1, .getfield 7, 3), (4, .iload_n 1, 1), (5, .iaload, 1), (6, .iconst (-1), 1), (7, .if_icmp .eq 22, 3), (10, .aload_n 0, 1), (11, .getfield 7, 3), (14, .iload_n 1, 1), (15, .iaload, 1), (16, .aload_n 0, 1), (17, .getfield 7, 3), (20, .iload_n 2, 1), (21, .iaload, 1), (22, .if_icmp .ne 7, 3), (25, .iconst 1, 1), (26, .goto 4, 3), (29, .iconst 0, 1), (30, .ireturn, 1)]
theorem ok_tb_M_haveOneNet_0 : dOk prog_6_method_25_code tb_M_haveOneNet_0 = true := by decide +kernel
theorem d_M_haveOneNet_0 : decode prog_6_method_25_code 0 = .ok (.aload_n 0, 1) := dOk_get (q := (0, .aload_n 0, 1)) ok_tb_M_haveOneNet_0 0 rfl
theorem d_M_haveOneNet_1 : decode prog_6_method_25_code 1 = .ok (.getfield 7, 3) := dOk_get (q := (1, .getfield 7, 3)) ok_tb_M_haveOneNet_0 1 rfl
theorem d_M_haveOneNet_4 : decode prog_6_method_25_code 4 = .ok (.iload_n 1, 1) := dOk_get (q := (4, .iload_n 1, 1)) ok_tb_M_haveOneNet_0 2 rfl
theorem d_M_haveOneNet_5 : decode prog_6_method_25_code 5 = .ok (.iaload, 1) := dOk_get (q := (5, .iaload, 1)) ok_tb_M_haveOneNet_0 3 rfl
theorem d_M_haveOneNet_6 : decode prog_6_method_25_code 6 = .ok (.iconst (-1), 1) := dOk_get (q := (6, .iconst (-1), 1)) ok_tb_M_haveOneNet_0 4 rfl
theorem d_M_haveOneNet_7 : decode prog_6_method_25_code 7 = .ok (.if_icmp .eq 22, 3) := dOk_get (q := (7, .if_icmp .eq 22, 3)) ok_tb_M_haveOneNet_0 5 rfl
theorem d_M_haveOneNet_10 : decode prog_6_method_25_code 10 = .ok (.aload_n 0, 1) := dOk_get (q := (10, .aload_n 0, 1)) ok_tb_M_haveOneNet_0 6 rfl
theorem d_M_haveOneNet_11 : decode prog_6_method_25_code 11 = .ok (.getfield 7, 3) := dOk_get (q := (11, .getfield 7, 3)) ok_tb_M_haveOneNet_0 7 rfl
theorem d_M_haveOneNet_14 : decode prog_6_method_25_code 14 = .ok (.iload_n 1, 1) := dOk_get (q := (14, .iload_n 1, 1)) ok_tb_M_haveOneNet_0 8 rfl
theorem d_M_haveOneNet_15 : decode prog_6_method_25_code 15 = .ok (.iaload, 1) := dOk_get (q := (15, .iaload, 1)) ok_tb_M_haveOneNet_0 9 rfl
theorem d_M_haveOneNet_16 : decode prog_6_method_25_code 16 = .ok (.aload_n 0, 1) := dOk_get (q := (16, .aload_n 0, 1)) ok_tb_M_haveOneNet_0 10 rfl
theorem d_M_haveOneNet_17 : decode prog_6_method_25_code 17 = .ok (.getfield 7, 3) := dOk_get (q := (17, .getfield 7, 3)) ok_tb_M_haveOneNet_0 11 rfl
theorem d_M_haveOneNet_20 : decode prog_6_method_25_code 20 = .ok (.iload_n 2, 1) := dOk_get (q := (20, .iload_n 2, 1)) ok_tb_M_haveOneNet_0 12 rfl
theorem d_M_haveOneNet_21 : decode prog_6_method_25_code 21 = .ok (.iaload, 1) := dOk_get (q := (21, .iaload, 1)) ok_tb_M_haveOneNet_0 13 rfl
theorem d_M_haveOneNet_22 : decode prog_6_method_25_code 22 = .ok (.if_icmp .ne 7, 3) := dOk_get (q := (22, .if_icmp .ne 7, 3)) ok_tb_M_haveOneNet_0 14 rfl
theorem d_M_haveOneNet_25 : decode prog_6_method_25_code 25 = .ok (.iconst 1, 1) := dOk_get (q := (25, .iconst 1, 1)) ok_tb_M_haveOneNet_0 15 rfl
theorem d_M_haveOneNet_26 : decode prog_6_method_25_code 26 = .ok (.goto 4, 3) := dOk_get (q := (26, .goto 4, 3)) ok_tb_M_haveOneNet_0 16 rfl
theorem d_M_haveOneNet_29 : decode prog_6_method_25_code 29 = .ok (.iconst 0, 1) := dOk_get (q := (29, .iconst 0, 1)) ok_tb_M_haveOneNet_0 17 rfl
theorem d_M_haveOneNet_30 : decode prog_6_method_25_code 30 = .ok (.ireturn, 1) := dOk_get (q := (30, .ireturn, 1)) ok_tb_M_haveOneNet_0 18 rfl
def tb_M_placeFromLine_0 : List (Nat × Instr × Nat) := [(0, .iconst 1, 1), (1, .istore 8, 2), (3, .iconst 0, 1), (4, .istore 9, 2), (6, .iload 9, 2), (8, .aload_n 0, 1), (9, .iload 5, 2), (11, .invokevirtual 114, 3), (14, .if_icmp .ge 82, 3), (17, .bipush 8, 2), (19, .iload 5, 2), (21, .imul, 1), (22, .iload 9, 2), (24, .iadd, 1), (25, .istore 10, 2), (27, .aload_n 0, 1), (28, .iload 5, 2), (30, .iload 9, 2), (32, .invokevirtual 118, 3), (35, .istore 11, 2), (37, .lload_n 1, 1), (38, .lload_n 3, 1), (39, .aload_n 0, 1), (40, .getfield 25, 3), (43, .iload 10, 2), (45, .laload, 1), (46, .aload_n 0, 1), (47, .getfield 29, 3), (50, .iload 10, 2), (52, .laload, 1), (53, .aload_n 0, 1), (54, .getfield 25, 3), (57, .iload 11, 2), (59, .laload, 1), (60, .aload_n 0, 1), (61, .getfield 29, 3), (64, .iload 11, 2), (66, .laload, 1), (67, .lload 6, 2), (69, .invokestatic 122, 3), (72, .istore 12, 2), (74, .iload 12, 2), (76, .iload 8, 2), (78, .if_icmp .ge 8, 3), (81, .iload 12, 2), (83, .goto 5, 3), (86, .iload 8, 2), (88, .istore 8, 2), (90, .iinc 9 1, 3), (93, .goto (-87), 3), (96, .iload 8, 2), (98, .ireturn, 1)]
theorem ok_tb_M_placeFromLine_0 : dOk prog_6_method_19_code tb_M_placeFromLine_0 = true := by decide +kernel
theorem d_M_placeFromLine_0 : decode prog_6_method_19_code 0 = .ok (.iconst 1, 1) := dOk_get (q := (0, .iconst 1, 1)) ok_tb_M_placeFromLine_0 0 rfl
theorem d_M_placeFromLine_1 : decode prog_6_method_19_code 1 = .ok (.istore 8, 2) := dOk_get (q := (1, .istore 8, 2)) ok_tb_M_placeFromLine_0 1 rfl
theorem d_M_placeFromLine_3 : decode prog_6_method_19_code 3 = .ok (.iconst 0, 1) := dOk_get (q := (3, .iconst 0, 1)) ok_tb_M_placeFromLine_0 2 rfl
theorem d_M_placeFromLine_4 : decode prog_6_method_19_code 4 = .ok (.istore 9, 2) := dOk_get (q := (4, .istore 9, 2)) ok_tb_M_placeFromLine_0 3 rfl
theorem d_M_placeFromLine_6 : decode prog_6_method_19_code 6 = .ok (.iload 9, 2) := dOk_get (q := (6, .iload 9, 2)) ok_tb_M_placeFromLine_0 4 rfl
theorem d_M_placeFromLine_8 : decode prog_6_method_19_code 8 = .ok (.aload_n 0, 1) := dOk_get (q := (8, .aload_n 0, 1)) ok_tb_M_placeFromLine_0 5 rfl
theorem d_M_placeFromLine_9 : decode prog_6_method_19_code 9 = .ok (.iload 5, 2) := dOk_get (q := (9, .iload 5, 2)) ok_tb_M_placeFromLine_0 6 rfl
theorem d_M_placeFromLine_11 : decode prog_6_method_19_code 11 = .ok (.invokevirtual 114, 3) := dOk_get (q := (11, .invokevirtual 114, 3)) ok_tb_M_placeFromLine_0 7 rfl
theorem d_M_placeFromLine_14 : decode prog_6_method_19_code 14 = .ok (.if_icmp .ge 82, 3) := dOk_get (q := (14, .if_icmp .ge 82, 3)) ok_tb_M_placeFromLine_0 8 rfl
theorem d_M_placeFromLine_17 : decode prog_6_method_19_code 17 = .ok (.bipush 8, 2) := dOk_get (q := (17, .bipush 8, 2)) ok_tb_M_placeFromLine_0 9 rfl
theorem d_M_placeFromLine_19 : decode prog_6_method_19_code 19 = .ok (.iload 5, 2) := dOk_get (q := (19, .iload 5, 2)) ok_tb_M_placeFromLine_0 10 rfl
theorem d_M_placeFromLine_21 : decode prog_6_method_19_code 21 = .ok (.imul, 1) := dOk_get (q := (21, .imul, 1)) ok_tb_M_placeFromLine_0 11 rfl
theorem d_M_placeFromLine_22 : decode prog_6_method_19_code 22 = .ok (.iload 9, 2) := dOk_get (q := (22, .iload 9, 2)) ok_tb_M_placeFromLine_0 12 rfl
theorem d_M_placeFromLine_24 : decode prog_6_method_19_code 24 = .ok (.iadd, 1) := dOk_get (q := (24, .iadd, 1)) ok_tb_M_placeFromLine_0 13 rfl
theorem d_M_placeFromLine_25 : decode prog_6_method_19_code 25 = .ok (.istore 10, 2) := dOk_get (q := (25, .istore 10, 2)) ok_tb_M_placeFromLine_0 14 rfl
theorem d_M_placeFromLine_27 : decode prog_6_method_19_code 27 = .ok (.aload_n 0, 1) := dOk_get (q := (27, .aload_n 0, 1)) ok_tb_M_placeFromLine_0 15 rfl
theorem d_M_placeFromLine_28 : decode prog_6_method_19_code 28 = .ok (.iload 5, 2) := dOk_get (q := (28, .iload 5, 2)) ok_tb_M_placeFromLine_0 16 rfl
theorem d_M_placeFromLine_30 : decode prog_6_method_19_code 30 = .ok (.iload 9, 2) := dOk_get (q := (30, .iload 9, 2)) ok_tb_M_placeFromLine_0 17 rfl
theorem d_M_placeFromLine_32 : decode prog_6_method_19_code 32 = .ok (.invokevirtual 118, 3) := dOk_get (q := (32, .invokevirtual 118, 3)) ok_tb_M_placeFromLine_0 18 rfl
theorem d_M_placeFromLine_35 : decode prog_6_method_19_code 35 = .ok (.istore 11, 2) := dOk_get (q := (35, .istore 11, 2)) ok_tb_M_placeFromLine_0 19 rfl
theorem d_M_placeFromLine_37 : decode prog_6_method_19_code 37 = .ok (.lload_n 1, 1) := dOk_get (q := (37, .lload_n 1, 1)) ok_tb_M_placeFromLine_0 20 rfl
theorem d_M_placeFromLine_38 : decode prog_6_method_19_code 38 = .ok (.lload_n 3, 1) := dOk_get (q := (38, .lload_n 3, 1)) ok_tb_M_placeFromLine_0 21 rfl
theorem d_M_placeFromLine_39 : decode prog_6_method_19_code 39 = .ok (.aload_n 0, 1) := dOk_get (q := (39, .aload_n 0, 1)) ok_tb_M_placeFromLine_0 22 rfl
theorem d_M_placeFromLine_40 : decode prog_6_method_19_code 40 = .ok (.getfield 25, 3) := dOk_get (q := (40, .getfield 25, 3)) ok_tb_M_placeFromLine_0 23 rfl
theorem d_M_placeFromLine_43 : decode prog_6_method_19_code 43 = .ok (.iload 10, 2) := dOk_get (q := (43, .iload 10, 2)) ok_tb_M_placeFromLine_0 24 rfl
theorem d_M_placeFromLine_45 : decode prog_6_method_19_code 45 = .ok (.laload, 1) := dOk_get (q := (45, .laload, 1)) ok_tb_M_placeFromLine_0 25 rfl
theorem d_M_placeFromLine_46 : decode prog_6_method_19_code 46 = .ok (.aload_n 0, 1) := dOk_get (q := (46, .aload_n 0, 1)) ok_tb_M_placeFromLine_0 26 rfl
theorem d_M_placeFromLine_47 : decode prog_6_method_19_code 47 = .ok (.getfield 29, 3) := dOk_get (q := (47, .getfield 29, 3)) ok_tb_M_placeFromLine_0 27 rfl
theorem d_M_placeFromLine_50 : decode prog_6_method_19_code 50 = .ok (.iload 10, 2) := dOk_get (q := (50, .iload 10, 2)) ok_tb_M_placeFromLine_0 28 rfl
theorem d_M_placeFromLine_52 : decode prog_6_method_19_code 52 = .ok (.laload, 1) := dOk_get (q := (52, .laload, 1)) ok_tb_M_placeFromLine_0 29 rfl
theorem d_M_placeFromLine_53 : decode prog_6_method_19_code 53 = .ok (.aload_n 0, 1) := dOk_get (q := (53, .aload_n 0, 1)) ok_tb_M_placeFromLine_0 30 rfl
theorem d_M_placeFromLine_54 : decode prog_6_method_19_code 54 = .ok (.getfield 25, 3) := dOk_get (q := (54, .getfield 25, 3)) ok_tb_M_placeFromLine_0 31 rfl
theorem d_M_placeFromLine_57 : decode prog_6_method_19_code 57 = .ok (.iload 11, 2) := dOk_get (q := (57, .iload 11, 2)) ok_tb_M_placeFromLine_0 32 rfl
theorem d_M_placeFromLine_59 : decode prog_6_method_19_code 59 = .ok (.laload, 1) := dOk_get (q := (59, .laload, 1)) ok_tb_M_placeFromLine_0 33 rfl
theorem d_M_placeFromLine_60 : decode prog_6_method_19_code 60 = .ok (.aload_n 0, 1) := dOk_get (q := (60, .aload_n 0, 1)) ok_tb_M_placeFromLine_0 34 rfl
theorem d_M_placeFromLine_61 : decode prog_6_method_19_code 61 = .ok (.getfield 29, 3) := dOk_get (q := (61, .getfield 29, 3)) ok_tb_M_placeFromLine_0 35 rfl
theorem d_M_placeFromLine_64 : decode prog_6_method_19_code 64 = .ok (.iload 11, 2) := dOk_get (q := (64, .iload 11, 2)) ok_tb_M_placeFromLine_0 36 rfl
theorem d_M_placeFromLine_66 : decode prog_6_method_19_code 66 = .ok (.laload, 1) := dOk_get (q := (66, .laload, 1)) ok_tb_M_placeFromLine_0 37 rfl
theorem d_M_placeFromLine_67 : decode prog_6_method_19_code 67 = .ok (.lload 6, 2) := dOk_get (q := (67, .lload 6, 2)) ok_tb_M_placeFromLine_0 38 rfl
theorem d_M_placeFromLine_69 : decode prog_6_method_19_code 69 = .ok (.invokestatic 122, 3) := dOk_get (q := (69, .invokestatic 122, 3)) ok_tb_M_placeFromLine_0 39 rfl
theorem d_M_placeFromLine_72 : decode prog_6_method_19_code 72 = .ok (.istore 12, 2) := dOk_get (q := (72, .istore 12, 2)) ok_tb_M_placeFromLine_0 40 rfl
theorem d_M_placeFromLine_74 : decode prog_6_method_19_code 74 = .ok (.iload 12, 2) := dOk_get (q := (74, .iload 12, 2)) ok_tb_M_placeFromLine_0 41 rfl
theorem d_M_placeFromLine_76 : decode prog_6_method_19_code 76 = .ok (.iload 8, 2) := dOk_get (q := (76, .iload 8, 2)) ok_tb_M_placeFromLine_0 42 rfl
theorem d_M_placeFromLine_78 : decode prog_6_method_19_code 78 = .ok (.if_icmp .ge 8, 3) := dOk_get (q := (78, .if_icmp .ge 8, 3)) ok_tb_M_placeFromLine_0 43 rfl
theorem d_M_placeFromLine_81 : decode prog_6_method_19_code 81 = .ok (.iload 12, 2) := dOk_get (q := (81, .iload 12, 2)) ok_tb_M_placeFromLine_0 44 rfl
theorem d_M_placeFromLine_83 : decode prog_6_method_19_code 83 = .ok (.goto 5, 3) := dOk_get (q := (83, .goto 5, 3)) ok_tb_M_placeFromLine_0 45 rfl
theorem d_M_placeFromLine_86 : decode prog_6_method_19_code 86 = .ok (.iload 8, 2) := dOk_get (q := (86, .iload 8, 2)) ok_tb_M_placeFromLine_0 46 rfl
theorem d_M_placeFromLine_88 : decode prog_6_method_19_code 88 = .ok (.istore 8, 2) := dOk_get (q := (88, .istore 8, 2)) ok_tb_M_placeFromLine_0 47 rfl
theorem d_M_placeFromLine_90 : decode prog_6_method_19_code 90 = .ok (.iinc 9 1, 3) := dOk_get (q := (90, .iinc 9 1, 3)) ok_tb_M_placeFromLine_0 48 rfl
theorem d_M_placeFromLine_93 : decode prog_6_method_19_code 93 = .ok (.goto (-87), 3) := dOk_get (q := (93, .goto (-87), 3)) ok_tb_M_placeFromLine_0 49 rfl
theorem d_M_placeFromLine_96 : decode prog_6_method_19_code 96 = .ok (.iload 8, 2) := dOk_get (q := (96, .iload 8, 2)) ok_tb_M_placeFromLine_0 50 rfl
theorem d_M_placeFromLine_98 : decode prog_6_method_19_code 98 = .ok (.ireturn, 1) := dOk_get (q := (98, .ireturn, 1)) ok_tb_M_placeFromLine_0 51 rfl
def tb_M_pieces_0 : List (Nat × Instr × Nat) := [(0, .aload_n 0, 1), (1, .getfield 22, 3), (4, .iload_n 1, 1), (5, .iaload, 1), (6, .iconst 1, 1), (7, .if_icmp .ne 7, 3), (10, .iconst 1, 1), (11, .goto 11, 3), (14, .aload_n 0, 1), (15, .getfield 22, 3), (18, .iload_n 1, 1), (19, .iaload, 1), (20, .iconst 1, 1), (21, .isub, 1), (22, .ireturn, 1)]
theorem ok_tb_M_pieces_0 : dOk prog_6_method_17_code tb_M_pieces_0 = true := by decide +kernel
theorem d_M_pieces_0 : decode prog_6_method_17_code 0 = .ok (.aload_n 0, 1) := dOk_get (q := (0, .aload_n 0, 1)) ok_tb_M_pieces_0 0 rfl
theorem d_M_pieces_1 : decode prog_6_method_17_code 1 = .ok (.getfield 22, 3) := dOk_get (q := (1, .getfield 22, 3)) ok_tb_M_pieces_0 1 rfl
theorem d_M_pieces_4 : decode prog_6_method_17_code 4 = .ok (.iload_n 1, 1) := dOk_get (q := (4, .iload_n 1, 1)) ok_tb_M_pieces_0 2 rfl
theorem d_M_pieces_5 : decode prog_6_method_17_code 5 = .ok (.iaload, 1) := dOk_get (q := (5, .iaload, 1)) ok_tb_M_pieces_0 3 rfl
theorem d_M_pieces_6 : decode prog_6_method_17_code 6 = .ok (.iconst 1, 1) := dOk_get (q := (6, .iconst 1, 1)) ok_tb_M_pieces_0 4 rfl
theorem d_M_pieces_7 : decode prog_6_method_17_code 7 = .ok (.if_icmp .ne 7, 3) := dOk_get (q := (7, .if_icmp .ne 7, 3)) ok_tb_M_pieces_0 5 rfl
theorem d_M_pieces_10 : decode prog_6_method_17_code 10 = .ok (.iconst 1, 1) := dOk_get (q := (10, .iconst 1, 1)) ok_tb_M_pieces_0 6 rfl
theorem d_M_pieces_11 : decode prog_6_method_17_code 11 = .ok (.goto 11, 3) := dOk_get (q := (11, .goto 11, 3)) ok_tb_M_pieces_0 7 rfl
theorem d_M_pieces_14 : decode prog_6_method_17_code 14 = .ok (.aload_n 0, 1) := dOk_get (q := (14, .aload_n 0, 1)) ok_tb_M_pieces_0 8 rfl
theorem d_M_pieces_15 : decode prog_6_method_17_code 15 = .ok (.getfield 22, 3) := dOk_get (q := (15, .getfield 22, 3)) ok_tb_M_pieces_0 9 rfl
theorem d_M_pieces_18 : decode prog_6_method_17_code 18 = .ok (.iload_n 1, 1) := dOk_get (q := (18, .iload_n 1, 1)) ok_tb_M_pieces_0 10 rfl
theorem d_M_pieces_19 : decode prog_6_method_17_code 19 = .ok (.iaload, 1) := dOk_get (q := (19, .iaload, 1)) ok_tb_M_pieces_0 11 rfl
theorem d_M_pieces_20 : decode prog_6_method_17_code 20 = .ok (.iconst 1, 1) := dOk_get (q := (20, .iconst 1, 1)) ok_tb_M_pieces_0 12 rfl
theorem d_M_pieces_21 : decode prog_6_method_17_code 21 = .ok (.isub, 1) := dOk_get (q := (21, .isub, 1)) ok_tb_M_pieces_0 13 rfl
theorem d_M_pieces_22 : decode prog_6_method_17_code 22 = .ok (.ireturn, 1) := dOk_get (q := (22, .ireturn, 1)) ok_tb_M_pieces_0 14 rfl
def tb_M_endOf_0 : List (Nat × Instr × Nat) := [(0, .aload_n 0, 1), (1, .getfield 22, 3), (4, .iload_n 1, 1), (5, .iaload, 1), (6, .iconst 1, 1), (7, .if_icmp .ne 10, 3), (10, .bipush 8, 2), (12, .iload_n 1, 1), (13, .imul, 1), (14, .goto 11, 3), (17, .bipush 8, 2), (19, .iload_n 1, 1), (20, .imul, 1), (21, .iload_n 2, 1), (22, .iadd, 1), (23, .iconst 1, 1), (24, .iadd, 1), (25, .ireturn, 1)]
theorem ok_tb_M_endOf_0 : dOk prog_6_method_18_code tb_M_endOf_0 = true := by decide +kernel
theorem d_M_endOf_0 : decode prog_6_method_18_code 0 = .ok (.aload_n 0, 1) := dOk_get (q := (0, .aload_n 0, 1)) ok_tb_M_endOf_0 0 rfl
theorem d_M_endOf_1 : decode prog_6_method_18_code 1 = .ok (.getfield 22, 3) := dOk_get (q := (1, .getfield 22, 3)) ok_tb_M_endOf_0 1 rfl
theorem d_M_endOf_4 : decode prog_6_method_18_code 4 = .ok (.iload_n 1, 1) := dOk_get (q := (4, .iload_n 1, 1)) ok_tb_M_endOf_0 2 rfl
theorem d_M_endOf_5 : decode prog_6_method_18_code 5 = .ok (.iaload, 1) := dOk_get (q := (5, .iaload, 1)) ok_tb_M_endOf_0 3 rfl
theorem d_M_endOf_6 : decode prog_6_method_18_code 6 = .ok (.iconst 1, 1) := dOk_get (q := (6, .iconst 1, 1)) ok_tb_M_endOf_0 4 rfl
theorem d_M_endOf_7 : decode prog_6_method_18_code 7 = .ok (.if_icmp .ne 10, 3) := dOk_get (q := (7, .if_icmp .ne 10, 3)) ok_tb_M_endOf_0 5 rfl
theorem d_M_endOf_10 : decode prog_6_method_18_code 10 = .ok (.bipush 8, 2) := dOk_get (q := (10, .bipush 8, 2)) ok_tb_M_endOf_0 6 rfl
theorem d_M_endOf_12 : decode prog_6_method_18_code 12 = .ok (.iload_n 1, 1) := dOk_get (q := (12, .iload_n 1, 1)) ok_tb_M_endOf_0 7 rfl
theorem d_M_endOf_13 : decode prog_6_method_18_code 13 = .ok (.imul, 1) := dOk_get (q := (13, .imul, 1)) ok_tb_M_endOf_0 8 rfl
theorem d_M_endOf_14 : decode prog_6_method_18_code 14 = .ok (.goto 11, 3) := dOk_get (q := (14, .goto 11, 3)) ok_tb_M_endOf_0 9 rfl
theorem d_M_endOf_17 : decode prog_6_method_18_code 17 = .ok (.bipush 8, 2) := dOk_get (q := (17, .bipush 8, 2)) ok_tb_M_endOf_0 10 rfl
theorem d_M_endOf_19 : decode prog_6_method_18_code 19 = .ok (.iload_n 1, 1) := dOk_get (q := (19, .iload_n 1, 1)) ok_tb_M_endOf_0 11 rfl
theorem d_M_endOf_20 : decode prog_6_method_18_code 20 = .ok (.imul, 1) := dOk_get (q := (20, .imul, 1)) ok_tb_M_endOf_0 12 rfl
theorem d_M_endOf_21 : decode prog_6_method_18_code 21 = .ok (.iload_n 2, 1) := dOk_get (q := (21, .iload_n 2, 1)) ok_tb_M_endOf_0 13 rfl
theorem d_M_endOf_22 : decode prog_6_method_18_code 22 = .ok (.iadd, 1) := dOk_get (q := (22, .iadd, 1)) ok_tb_M_endOf_0 14 rfl
theorem d_M_endOf_23 : decode prog_6_method_18_code 23 = .ok (.iconst 1, 1) := dOk_get (q := (23, .iconst 1, 1)) ok_tb_M_endOf_0 15 rfl
theorem d_M_endOf_24 : decode prog_6_method_18_code 24 = .ok (.iadd, 1) := dOk_get (q := (24, .iadd, 1)) ok_tb_M_endOf_0 16 rfl
theorem d_M_endOf_25 : decode prog_6_method_18_code 25 = .ok (.ireturn, 1) := dOk_get (q := (25, .ireturn, 1)) ok_tb_M_endOf_0 17 rfl
def tb_M_fromPiece_0 : List (Nat × Instr × Nat) := [(0, .lload 8, 2), (2, .lload 4, 2), (4, .lsub, 1), (5, .lstore 14, 2), (7, .lload 10, 2), (9, .lload 6, 2), (11, .lsub, 1), (12, .lstore 16, 2), (14, .lload_n 0, 1), (15, .lload 4, 2), (17, .lsub, 1), (18, .lload 14, 2), (20, .lmul, 1), (21, .lload_n 2, 1), (22, .lload 6, 2), (24, .lsub, 1), (25, .lload 16, 2), (27, .lmul, 1), (28, .ladd, 1), (29, .lstore 18, 2), (31, .lload 14, 2), (33, .lload 14, 2), (35, .lmul, 1), (36, .lload 16, 2), (38, .lload 16, 2), (40, .lmul, 1), (41, .ladd, 1), (42, .lstore 20, 2), (44, .lload 18, 2), (46, .lconst 0, 1), (47, .lcmp, 1), (48, .ifCond .le 61, 3), (51, .lload 18, 2), (53, .lload 20, 2), (55, .lcmp, 1), (56, .ifCond .ge 53, 3), (59, .lload 14, 2), (61, .lload_n 2, 1), (62, .lload 6, 2), (64, .lsub, 1), (65, .lmul, 1), (66, .lload 16, 2), (68, .lload_n 0, 1), (69, .lload 4, 2), (71, .lsub, 1), (72, .lmul, 1), (73, .lsub, 1), (74, .lstore 22, 2), (76, .lload 22, 2), (78, .lconst 0, 1), (79, .lcmp, 1), (80, .ifCond .ge 10, 3), (83, .lconst 0, 1), (84, .lload 22, 2), (86, .lsub, 1), (87, .goto 5, 3), (90, .lload 22, 2), (92, .lstore 22, 2), (94, .lload 22, 2), (96, .lload 22, 2), (98, .lload 12, 2), (100, .lload 12, 2), (102, .lmul, 1), (103, .lload 20, 2), (105, .invokestatic 110, 3), (108, .ireturn, 1), (109, .lload 18, 2), (111, .lconst 0, 1), (112, .lcmp, 1), (113, .ifCond .gt 10, 3), (116, .lload_n 0, 1), (117, .lload 4, 2), (119, .lsub, 1), (120, .goto 7, 3), (123, .lload_n 0, 1), (124, .lload 8, 2), (126, .lsub, 1), (127, .lstore 22, 2), (129, .lload 18, 2), (131, .lconst 0, 1), (132, .lcmp, 1), (133, .ifCond .gt 10, 3), (136, .lload_n 2, 1), (137, .lload 6, 2), (139, .lsub, 1), (140, .goto 7, 3), (143, .lload_n 2, 1), (144, .lload 10, 2), (146, .lsub, 1), (147, .lstore 24, 2), (149, .lload 22, 2), (151, .lload 22, 2), (153, .lmul, 1), (154, .lload 24, 2), (156, .lload 24, 2), (158, .lmul, 1), (159, .ladd, 1), (160, .lstore 26, 2), (162, .lload 26, 2), (164, .lload 12, 2), (166, .lload 12, 2), (168, .lmul, 1), (169, .lcmp, 1), (170, .ifCond .ge 7, 3), (173, .iconst (-1), 1), (174, .goto 19, 3), (177, .lload 26, 2), (179, .lload 12, 2), (181, .lload 12, 2), (183, .lmul, 1), (184, .lcmp, 1), (185, .ifCond .le 7, 3), (188, .iconst 1, 1), (189, .goto 4, 3), (192, .iconst 0, 1), (193, .ireturn, 1)]
theorem ok_tb_M_fromPiece_0 : dOk prog_6_method_15_code tb_M_fromPiece_0 = true := by decide +kernel
theorem d_M_fromPiece_0 : decode prog_6_method_15_code 0 = .ok (.lload 8, 2) := dOk_get (q := (0, .lload 8, 2)) ok_tb_M_fromPiece_0 0 rfl
theorem d_M_fromPiece_2 : decode prog_6_method_15_code 2 = .ok (.lload 4, 2) := dOk_get (q := (2, .lload 4, 2)) ok_tb_M_fromPiece_0 1 rfl
theorem d_M_fromPiece_4 : decode prog_6_method_15_code 4 = .ok (.lsub, 1) := dOk_get (q := (4, .lsub, 1)) ok_tb_M_fromPiece_0 2 rfl
theorem d_M_fromPiece_5 : decode prog_6_method_15_code 5 = .ok (.lstore 14, 2) := dOk_get (q := (5, .lstore 14, 2)) ok_tb_M_fromPiece_0 3 rfl
theorem d_M_fromPiece_7 : decode prog_6_method_15_code 7 = .ok (.lload 10, 2) := dOk_get (q := (7, .lload 10, 2)) ok_tb_M_fromPiece_0 4 rfl
theorem d_M_fromPiece_9 : decode prog_6_method_15_code 9 = .ok (.lload 6, 2) := dOk_get (q := (9, .lload 6, 2)) ok_tb_M_fromPiece_0 5 rfl
theorem d_M_fromPiece_11 : decode prog_6_method_15_code 11 = .ok (.lsub, 1) := dOk_get (q := (11, .lsub, 1)) ok_tb_M_fromPiece_0 6 rfl
theorem d_M_fromPiece_12 : decode prog_6_method_15_code 12 = .ok (.lstore 16, 2) := dOk_get (q := (12, .lstore 16, 2)) ok_tb_M_fromPiece_0 7 rfl
theorem d_M_fromPiece_14 : decode prog_6_method_15_code 14 = .ok (.lload_n 0, 1) := dOk_get (q := (14, .lload_n 0, 1)) ok_tb_M_fromPiece_0 8 rfl
theorem d_M_fromPiece_15 : decode prog_6_method_15_code 15 = .ok (.lload 4, 2) := dOk_get (q := (15, .lload 4, 2)) ok_tb_M_fromPiece_0 9 rfl
theorem d_M_fromPiece_17 : decode prog_6_method_15_code 17 = .ok (.lsub, 1) := dOk_get (q := (17, .lsub, 1)) ok_tb_M_fromPiece_0 10 rfl
theorem d_M_fromPiece_18 : decode prog_6_method_15_code 18 = .ok (.lload 14, 2) := dOk_get (q := (18, .lload 14, 2)) ok_tb_M_fromPiece_0 11 rfl
theorem d_M_fromPiece_20 : decode prog_6_method_15_code 20 = .ok (.lmul, 1) := dOk_get (q := (20, .lmul, 1)) ok_tb_M_fromPiece_0 12 rfl
theorem d_M_fromPiece_21 : decode prog_6_method_15_code 21 = .ok (.lload_n 2, 1) := dOk_get (q := (21, .lload_n 2, 1)) ok_tb_M_fromPiece_0 13 rfl
theorem d_M_fromPiece_22 : decode prog_6_method_15_code 22 = .ok (.lload 6, 2) := dOk_get (q := (22, .lload 6, 2)) ok_tb_M_fromPiece_0 14 rfl
theorem d_M_fromPiece_24 : decode prog_6_method_15_code 24 = .ok (.lsub, 1) := dOk_get (q := (24, .lsub, 1)) ok_tb_M_fromPiece_0 15 rfl
theorem d_M_fromPiece_25 : decode prog_6_method_15_code 25 = .ok (.lload 16, 2) := dOk_get (q := (25, .lload 16, 2)) ok_tb_M_fromPiece_0 16 rfl
theorem d_M_fromPiece_27 : decode prog_6_method_15_code 27 = .ok (.lmul, 1) := dOk_get (q := (27, .lmul, 1)) ok_tb_M_fromPiece_0 17 rfl
theorem d_M_fromPiece_28 : decode prog_6_method_15_code 28 = .ok (.ladd, 1) := dOk_get (q := (28, .ladd, 1)) ok_tb_M_fromPiece_0 18 rfl
theorem d_M_fromPiece_29 : decode prog_6_method_15_code 29 = .ok (.lstore 18, 2) := dOk_get (q := (29, .lstore 18, 2)) ok_tb_M_fromPiece_0 19 rfl
theorem d_M_fromPiece_31 : decode prog_6_method_15_code 31 = .ok (.lload 14, 2) := dOk_get (q := (31, .lload 14, 2)) ok_tb_M_fromPiece_0 20 rfl
theorem d_M_fromPiece_33 : decode prog_6_method_15_code 33 = .ok (.lload 14, 2) := dOk_get (q := (33, .lload 14, 2)) ok_tb_M_fromPiece_0 21 rfl
theorem d_M_fromPiece_35 : decode prog_6_method_15_code 35 = .ok (.lmul, 1) := dOk_get (q := (35, .lmul, 1)) ok_tb_M_fromPiece_0 22 rfl
theorem d_M_fromPiece_36 : decode prog_6_method_15_code 36 = .ok (.lload 16, 2) := dOk_get (q := (36, .lload 16, 2)) ok_tb_M_fromPiece_0 23 rfl
theorem d_M_fromPiece_38 : decode prog_6_method_15_code 38 = .ok (.lload 16, 2) := dOk_get (q := (38, .lload 16, 2)) ok_tb_M_fromPiece_0 24 rfl
theorem d_M_fromPiece_40 : decode prog_6_method_15_code 40 = .ok (.lmul, 1) := dOk_get (q := (40, .lmul, 1)) ok_tb_M_fromPiece_0 25 rfl
theorem d_M_fromPiece_41 : decode prog_6_method_15_code 41 = .ok (.ladd, 1) := dOk_get (q := (41, .ladd, 1)) ok_tb_M_fromPiece_0 26 rfl
theorem d_M_fromPiece_42 : decode prog_6_method_15_code 42 = .ok (.lstore 20, 2) := dOk_get (q := (42, .lstore 20, 2)) ok_tb_M_fromPiece_0 27 rfl
theorem d_M_fromPiece_44 : decode prog_6_method_15_code 44 = .ok (.lload 18, 2) := dOk_get (q := (44, .lload 18, 2)) ok_tb_M_fromPiece_0 28 rfl
theorem d_M_fromPiece_46 : decode prog_6_method_15_code 46 = .ok (.lconst 0, 1) := dOk_get (q := (46, .lconst 0, 1)) ok_tb_M_fromPiece_0 29 rfl
theorem d_M_fromPiece_47 : decode prog_6_method_15_code 47 = .ok (.lcmp, 1) := dOk_get (q := (47, .lcmp, 1)) ok_tb_M_fromPiece_0 30 rfl
theorem d_M_fromPiece_48 : decode prog_6_method_15_code 48 = .ok (.ifCond .le 61, 3) := dOk_get (q := (48, .ifCond .le 61, 3)) ok_tb_M_fromPiece_0 31 rfl
theorem d_M_fromPiece_51 : decode prog_6_method_15_code 51 = .ok (.lload 18, 2) := dOk_get (q := (51, .lload 18, 2)) ok_tb_M_fromPiece_0 32 rfl
theorem d_M_fromPiece_53 : decode prog_6_method_15_code 53 = .ok (.lload 20, 2) := dOk_get (q := (53, .lload 20, 2)) ok_tb_M_fromPiece_0 33 rfl
theorem d_M_fromPiece_55 : decode prog_6_method_15_code 55 = .ok (.lcmp, 1) := dOk_get (q := (55, .lcmp, 1)) ok_tb_M_fromPiece_0 34 rfl
theorem d_M_fromPiece_56 : decode prog_6_method_15_code 56 = .ok (.ifCond .ge 53, 3) := dOk_get (q := (56, .ifCond .ge 53, 3)) ok_tb_M_fromPiece_0 35 rfl
theorem d_M_fromPiece_59 : decode prog_6_method_15_code 59 = .ok (.lload 14, 2) := dOk_get (q := (59, .lload 14, 2)) ok_tb_M_fromPiece_0 36 rfl
theorem d_M_fromPiece_61 : decode prog_6_method_15_code 61 = .ok (.lload_n 2, 1) := dOk_get (q := (61, .lload_n 2, 1)) ok_tb_M_fromPiece_0 37 rfl
theorem d_M_fromPiece_62 : decode prog_6_method_15_code 62 = .ok (.lload 6, 2) := dOk_get (q := (62, .lload 6, 2)) ok_tb_M_fromPiece_0 38 rfl
theorem d_M_fromPiece_64 : decode prog_6_method_15_code 64 = .ok (.lsub, 1) := dOk_get (q := (64, .lsub, 1)) ok_tb_M_fromPiece_0 39 rfl
theorem d_M_fromPiece_65 : decode prog_6_method_15_code 65 = .ok (.lmul, 1) := dOk_get (q := (65, .lmul, 1)) ok_tb_M_fromPiece_0 40 rfl
theorem d_M_fromPiece_66 : decode prog_6_method_15_code 66 = .ok (.lload 16, 2) := dOk_get (q := (66, .lload 16, 2)) ok_tb_M_fromPiece_0 41 rfl
theorem d_M_fromPiece_68 : decode prog_6_method_15_code 68 = .ok (.lload_n 0, 1) := dOk_get (q := (68, .lload_n 0, 1)) ok_tb_M_fromPiece_0 42 rfl
theorem d_M_fromPiece_69 : decode prog_6_method_15_code 69 = .ok (.lload 4, 2) := dOk_get (q := (69, .lload 4, 2)) ok_tb_M_fromPiece_0 43 rfl
theorem d_M_fromPiece_71 : decode prog_6_method_15_code 71 = .ok (.lsub, 1) := dOk_get (q := (71, .lsub, 1)) ok_tb_M_fromPiece_0 44 rfl
theorem d_M_fromPiece_72 : decode prog_6_method_15_code 72 = .ok (.lmul, 1) := dOk_get (q := (72, .lmul, 1)) ok_tb_M_fromPiece_0 45 rfl
theorem d_M_fromPiece_73 : decode prog_6_method_15_code 73 = .ok (.lsub, 1) := dOk_get (q := (73, .lsub, 1)) ok_tb_M_fromPiece_0 46 rfl
theorem d_M_fromPiece_74 : decode prog_6_method_15_code 74 = .ok (.lstore 22, 2) := dOk_get (q := (74, .lstore 22, 2)) ok_tb_M_fromPiece_0 47 rfl
theorem d_M_fromPiece_76 : decode prog_6_method_15_code 76 = .ok (.lload 22, 2) := dOk_get (q := (76, .lload 22, 2)) ok_tb_M_fromPiece_0 48 rfl
theorem d_M_fromPiece_78 : decode prog_6_method_15_code 78 = .ok (.lconst 0, 1) := dOk_get (q := (78, .lconst 0, 1)) ok_tb_M_fromPiece_0 49 rfl
theorem d_M_fromPiece_79 : decode prog_6_method_15_code 79 = .ok (.lcmp, 1) := dOk_get (q := (79, .lcmp, 1)) ok_tb_M_fromPiece_0 50 rfl
theorem d_M_fromPiece_80 : decode prog_6_method_15_code 80 = .ok (.ifCond .ge 10, 3) := dOk_get (q := (80, .ifCond .ge 10, 3)) ok_tb_M_fromPiece_0 51 rfl
theorem d_M_fromPiece_83 : decode prog_6_method_15_code 83 = .ok (.lconst 0, 1) := dOk_get (q := (83, .lconst 0, 1)) ok_tb_M_fromPiece_0 52 rfl
theorem d_M_fromPiece_84 : decode prog_6_method_15_code 84 = .ok (.lload 22, 2) := dOk_get (q := (84, .lload 22, 2)) ok_tb_M_fromPiece_0 53 rfl
theorem d_M_fromPiece_86 : decode prog_6_method_15_code 86 = .ok (.lsub, 1) := dOk_get (q := (86, .lsub, 1)) ok_tb_M_fromPiece_0 54 rfl
theorem d_M_fromPiece_87 : decode prog_6_method_15_code 87 = .ok (.goto 5, 3) := dOk_get (q := (87, .goto 5, 3)) ok_tb_M_fromPiece_0 55 rfl
theorem d_M_fromPiece_90 : decode prog_6_method_15_code 90 = .ok (.lload 22, 2) := dOk_get (q := (90, .lload 22, 2)) ok_tb_M_fromPiece_0 56 rfl
theorem d_M_fromPiece_92 : decode prog_6_method_15_code 92 = .ok (.lstore 22, 2) := dOk_get (q := (92, .lstore 22, 2)) ok_tb_M_fromPiece_0 57 rfl
theorem d_M_fromPiece_94 : decode prog_6_method_15_code 94 = .ok (.lload 22, 2) := dOk_get (q := (94, .lload 22, 2)) ok_tb_M_fromPiece_0 58 rfl
theorem d_M_fromPiece_96 : decode prog_6_method_15_code 96 = .ok (.lload 22, 2) := dOk_get (q := (96, .lload 22, 2)) ok_tb_M_fromPiece_0 59 rfl
theorem d_M_fromPiece_98 : decode prog_6_method_15_code 98 = .ok (.lload 12, 2) := dOk_get (q := (98, .lload 12, 2)) ok_tb_M_fromPiece_0 60 rfl
theorem d_M_fromPiece_100 : decode prog_6_method_15_code 100 = .ok (.lload 12, 2) := dOk_get (q := (100, .lload 12, 2)) ok_tb_M_fromPiece_0 61 rfl
theorem d_M_fromPiece_102 : decode prog_6_method_15_code 102 = .ok (.lmul, 1) := dOk_get (q := (102, .lmul, 1)) ok_tb_M_fromPiece_0 62 rfl
theorem d_M_fromPiece_103 : decode prog_6_method_15_code 103 = .ok (.lload 20, 2) := dOk_get (q := (103, .lload 20, 2)) ok_tb_M_fromPiece_0 63 rfl
theorem d_M_fromPiece_105 : decode prog_6_method_15_code 105 = .ok (.invokestatic 110, 3) := dOk_get (q := (105, .invokestatic 110, 3)) ok_tb_M_fromPiece_0 64 rfl
theorem d_M_fromPiece_108 : decode prog_6_method_15_code 108 = .ok (.ireturn, 1) := dOk_get (q := (108, .ireturn, 1)) ok_tb_M_fromPiece_0 65 rfl
theorem d_M_fromPiece_109 : decode prog_6_method_15_code 109 = .ok (.lload 18, 2) := dOk_get (q := (109, .lload 18, 2)) ok_tb_M_fromPiece_0 66 rfl
theorem d_M_fromPiece_111 : decode prog_6_method_15_code 111 = .ok (.lconst 0, 1) := dOk_get (q := (111, .lconst 0, 1)) ok_tb_M_fromPiece_0 67 rfl
theorem d_M_fromPiece_112 : decode prog_6_method_15_code 112 = .ok (.lcmp, 1) := dOk_get (q := (112, .lcmp, 1)) ok_tb_M_fromPiece_0 68 rfl
theorem d_M_fromPiece_113 : decode prog_6_method_15_code 113 = .ok (.ifCond .gt 10, 3) := dOk_get (q := (113, .ifCond .gt 10, 3)) ok_tb_M_fromPiece_0 69 rfl
theorem d_M_fromPiece_116 : decode prog_6_method_15_code 116 = .ok (.lload_n 0, 1) := dOk_get (q := (116, .lload_n 0, 1)) ok_tb_M_fromPiece_0 70 rfl
theorem d_M_fromPiece_117 : decode prog_6_method_15_code 117 = .ok (.lload 4, 2) := dOk_get (q := (117, .lload 4, 2)) ok_tb_M_fromPiece_0 71 rfl
theorem d_M_fromPiece_119 : decode prog_6_method_15_code 119 = .ok (.lsub, 1) := dOk_get (q := (119, .lsub, 1)) ok_tb_M_fromPiece_0 72 rfl
theorem d_M_fromPiece_120 : decode prog_6_method_15_code 120 = .ok (.goto 7, 3) := dOk_get (q := (120, .goto 7, 3)) ok_tb_M_fromPiece_0 73 rfl
theorem d_M_fromPiece_123 : decode prog_6_method_15_code 123 = .ok (.lload_n 0, 1) := dOk_get (q := (123, .lload_n 0, 1)) ok_tb_M_fromPiece_0 74 rfl
theorem d_M_fromPiece_124 : decode prog_6_method_15_code 124 = .ok (.lload 8, 2) := dOk_get (q := (124, .lload 8, 2)) ok_tb_M_fromPiece_0 75 rfl
theorem d_M_fromPiece_126 : decode prog_6_method_15_code 126 = .ok (.lsub, 1) := dOk_get (q := (126, .lsub, 1)) ok_tb_M_fromPiece_0 76 rfl
theorem d_M_fromPiece_127 : decode prog_6_method_15_code 127 = .ok (.lstore 22, 2) := dOk_get (q := (127, .lstore 22, 2)) ok_tb_M_fromPiece_0 77 rfl
theorem d_M_fromPiece_129 : decode prog_6_method_15_code 129 = .ok (.lload 18, 2) := dOk_get (q := (129, .lload 18, 2)) ok_tb_M_fromPiece_0 78 rfl
theorem d_M_fromPiece_131 : decode prog_6_method_15_code 131 = .ok (.lconst 0, 1) := dOk_get (q := (131, .lconst 0, 1)) ok_tb_M_fromPiece_0 79 rfl
theorem d_M_fromPiece_132 : decode prog_6_method_15_code 132 = .ok (.lcmp, 1) := dOk_get (q := (132, .lcmp, 1)) ok_tb_M_fromPiece_0 80 rfl
theorem d_M_fromPiece_133 : decode prog_6_method_15_code 133 = .ok (.ifCond .gt 10, 3) := dOk_get (q := (133, .ifCond .gt 10, 3)) ok_tb_M_fromPiece_0 81 rfl
theorem d_M_fromPiece_136 : decode prog_6_method_15_code 136 = .ok (.lload_n 2, 1) := dOk_get (q := (136, .lload_n 2, 1)) ok_tb_M_fromPiece_0 82 rfl
theorem d_M_fromPiece_137 : decode prog_6_method_15_code 137 = .ok (.lload 6, 2) := dOk_get (q := (137, .lload 6, 2)) ok_tb_M_fromPiece_0 83 rfl
theorem d_M_fromPiece_139 : decode prog_6_method_15_code 139 = .ok (.lsub, 1) := dOk_get (q := (139, .lsub, 1)) ok_tb_M_fromPiece_0 84 rfl
theorem d_M_fromPiece_140 : decode prog_6_method_15_code 140 = .ok (.goto 7, 3) := dOk_get (q := (140, .goto 7, 3)) ok_tb_M_fromPiece_0 85 rfl
theorem d_M_fromPiece_143 : decode prog_6_method_15_code 143 = .ok (.lload_n 2, 1) := dOk_get (q := (143, .lload_n 2, 1)) ok_tb_M_fromPiece_0 86 rfl
theorem d_M_fromPiece_144 : decode prog_6_method_15_code 144 = .ok (.lload 10, 2) := dOk_get (q := (144, .lload 10, 2)) ok_tb_M_fromPiece_0 87 rfl
theorem d_M_fromPiece_146 : decode prog_6_method_15_code 146 = .ok (.lsub, 1) := dOk_get (q := (146, .lsub, 1)) ok_tb_M_fromPiece_0 88 rfl
theorem d_M_fromPiece_147 : decode prog_6_method_15_code 147 = .ok (.lstore 24, 2) := dOk_get (q := (147, .lstore 24, 2)) ok_tb_M_fromPiece_0 89 rfl
theorem d_M_fromPiece_149 : decode prog_6_method_15_code 149 = .ok (.lload 22, 2) := dOk_get (q := (149, .lload 22, 2)) ok_tb_M_fromPiece_0 90 rfl
theorem d_M_fromPiece_151 : decode prog_6_method_15_code 151 = .ok (.lload 22, 2) := dOk_get (q := (151, .lload 22, 2)) ok_tb_M_fromPiece_0 91 rfl
theorem d_M_fromPiece_153 : decode prog_6_method_15_code 153 = .ok (.lmul, 1) := dOk_get (q := (153, .lmul, 1)) ok_tb_M_fromPiece_0 92 rfl
theorem d_M_fromPiece_154 : decode prog_6_method_15_code 154 = .ok (.lload 24, 2) := dOk_get (q := (154, .lload 24, 2)) ok_tb_M_fromPiece_0 93 rfl
theorem d_M_fromPiece_156 : decode prog_6_method_15_code 156 = .ok (.lload 24, 2) := dOk_get (q := (156, .lload 24, 2)) ok_tb_M_fromPiece_0 94 rfl
theorem d_M_fromPiece_158 : decode prog_6_method_15_code 158 = .ok (.lmul, 1) := dOk_get (q := (158, .lmul, 1)) ok_tb_M_fromPiece_0 95 rfl
theorem d_M_fromPiece_159 : decode prog_6_method_15_code 159 = .ok (.ladd, 1) := dOk_get (q := (159, .ladd, 1)) ok_tb_M_fromPiece_0 96 rfl
theorem d_M_fromPiece_160 : decode prog_6_method_15_code 160 = .ok (.lstore 26, 2) := dOk_get (q := (160, .lstore 26, 2)) ok_tb_M_fromPiece_0 97 rfl
theorem d_M_fromPiece_162 : decode prog_6_method_15_code 162 = .ok (.lload 26, 2) := dOk_get (q := (162, .lload 26, 2)) ok_tb_M_fromPiece_0 98 rfl
theorem d_M_fromPiece_164 : decode prog_6_method_15_code 164 = .ok (.lload 12, 2) := dOk_get (q := (164, .lload 12, 2)) ok_tb_M_fromPiece_0 99 rfl
theorem d_M_fromPiece_166 : decode prog_6_method_15_code 166 = .ok (.lload 12, 2) := dOk_get (q := (166, .lload 12, 2)) ok_tb_M_fromPiece_0 100 rfl
theorem d_M_fromPiece_168 : decode prog_6_method_15_code 168 = .ok (.lmul, 1) := dOk_get (q := (168, .lmul, 1)) ok_tb_M_fromPiece_0 101 rfl
theorem d_M_fromPiece_169 : decode prog_6_method_15_code 169 = .ok (.lcmp, 1) := dOk_get (q := (169, .lcmp, 1)) ok_tb_M_fromPiece_0 102 rfl
theorem d_M_fromPiece_170 : decode prog_6_method_15_code 170 = .ok (.ifCond .ge 7, 3) := dOk_get (q := (170, .ifCond .ge 7, 3)) ok_tb_M_fromPiece_0 103 rfl
theorem d_M_fromPiece_173 : decode prog_6_method_15_code 173 = .ok (.iconst (-1), 1) := dOk_get (q := (173, .iconst (-1), 1)) ok_tb_M_fromPiece_0 104 rfl
theorem d_M_fromPiece_174 : decode prog_6_method_15_code 174 = .ok (.goto 19, 3) := dOk_get (q := (174, .goto 19, 3)) ok_tb_M_fromPiece_0 105 rfl
theorem d_M_fromPiece_177 : decode prog_6_method_15_code 177 = .ok (.lload 26, 2) := dOk_get (q := (177, .lload 26, 2)) ok_tb_M_fromPiece_0 106 rfl
theorem d_M_fromPiece_179 : decode prog_6_method_15_code 179 = .ok (.lload 12, 2) := dOk_get (q := (179, .lload 12, 2)) ok_tb_M_fromPiece_0 107 rfl
theorem d_M_fromPiece_181 : decode prog_6_method_15_code 181 = .ok (.lload 12, 2) := dOk_get (q := (181, .lload 12, 2)) ok_tb_M_fromPiece_0 108 rfl
theorem d_M_fromPiece_183 : decode prog_6_method_15_code 183 = .ok (.lmul, 1) := dOk_get (q := (183, .lmul, 1)) ok_tb_M_fromPiece_0 109 rfl
theorem d_M_fromPiece_184 : decode prog_6_method_15_code 184 = .ok (.lcmp, 1) := dOk_get (q := (184, .lcmp, 1)) ok_tb_M_fromPiece_0 110 rfl
theorem d_M_fromPiece_185 : decode prog_6_method_15_code 185 = .ok (.ifCond .le 7, 3) := dOk_get (q := (185, .ifCond .le 7, 3)) ok_tb_M_fromPiece_0 111 rfl
theorem d_M_fromPiece_188 : decode prog_6_method_15_code 188 = .ok (.iconst 1, 1) := dOk_get (q := (188, .iconst 1, 1)) ok_tb_M_fromPiece_0 112 rfl
theorem d_M_fromPiece_189 : decode prog_6_method_15_code 189 = .ok (.goto 4, 3) := dOk_get (q := (189, .goto 4, 3)) ok_tb_M_fromPiece_0 113 rfl
theorem d_M_fromPiece_192 : decode prog_6_method_15_code 192 = .ok (.iconst 0, 1) := dOk_get (q := (192, .iconst 0, 1)) ok_tb_M_fromPiece_0 114 rfl
theorem d_M_fromPiece_193 : decode prog_6_method_15_code 193 = .ok (.ireturn, 1) := dOk_get (q := (193, .ireturn, 1)) ok_tb_M_fromPiece_0 115 rfl
def tb_M_compare_0 : List (Nat × Instr × Nat) := [(0, .lload_n 0, 1), (1, .lload_n 2, 1), (2, .invokestatic 103, 3), (5, .lstore 8, 2), (7, .lload 4, 2), (9, .lload 6, 2), (11, .invokestatic 103, 3), (14, .lstore 10, 2), (16, .lload 8, 2), (18, .lload 10, 2), (20, .lcmp, 1), (21, .ifCond .eq 17, 3), (24, .lload 8, 2), (26, .lload 10, 2), (28, .lcmp, 1), (29, .ifCond .ge 7, 3), (32, .iconst (-1), 1), (33, .goto 4, 3), (36, .iconst 1, 1), (37, .ireturn, 1), (38, .lload_n 0, 1), (39, .lload_n 2, 1), (40, .invokestatic 107, 3), (43, .lstore 8, 2), (45, .lload 4, 2), (47, .lload 6, 2), (49, .invokestatic 107, 3), (52, .lstore 10, 2), (54, .lload 8, 2), (56, .lload 10, 2), (58, .lcmp, 1), (59, .ifCond .ge 7, 3), (62, .iconst (-1), 1), (63, .goto 16, 3), (66, .lload 8, 2), (68, .lload 10, 2), (70, .lcmp, 1), (71, .ifCond .le 7, 3), (74, .iconst 1, 1), (75, .goto 4, 3), (78, .iconst 0, 1), (79, .ireturn, 1)]
theorem ok_tb_M_compare_0 : dOk prog_6_method_14_code tb_M_compare_0 = true := by decide +kernel
theorem d_M_compare_0 : decode prog_6_method_14_code 0 = .ok (.lload_n 0, 1) := dOk_get (q := (0, .lload_n 0, 1)) ok_tb_M_compare_0 0 rfl
theorem d_M_compare_1 : decode prog_6_method_14_code 1 = .ok (.lload_n 2, 1) := dOk_get (q := (1, .lload_n 2, 1)) ok_tb_M_compare_0 1 rfl
theorem d_M_compare_2 : decode prog_6_method_14_code 2 = .ok (.invokestatic 103, 3) := dOk_get (q := (2, .invokestatic 103, 3)) ok_tb_M_compare_0 2 rfl
theorem d_M_compare_5 : decode prog_6_method_14_code 5 = .ok (.lstore 8, 2) := dOk_get (q := (5, .lstore 8, 2)) ok_tb_M_compare_0 3 rfl
theorem d_M_compare_7 : decode prog_6_method_14_code 7 = .ok (.lload 4, 2) := dOk_get (q := (7, .lload 4, 2)) ok_tb_M_compare_0 4 rfl
theorem d_M_compare_9 : decode prog_6_method_14_code 9 = .ok (.lload 6, 2) := dOk_get (q := (9, .lload 6, 2)) ok_tb_M_compare_0 5 rfl
theorem d_M_compare_11 : decode prog_6_method_14_code 11 = .ok (.invokestatic 103, 3) := dOk_get (q := (11, .invokestatic 103, 3)) ok_tb_M_compare_0 6 rfl
theorem d_M_compare_14 : decode prog_6_method_14_code 14 = .ok (.lstore 10, 2) := dOk_get (q := (14, .lstore 10, 2)) ok_tb_M_compare_0 7 rfl
theorem d_M_compare_16 : decode prog_6_method_14_code 16 = .ok (.lload 8, 2) := dOk_get (q := (16, .lload 8, 2)) ok_tb_M_compare_0 8 rfl
theorem d_M_compare_18 : decode prog_6_method_14_code 18 = .ok (.lload 10, 2) := dOk_get (q := (18, .lload 10, 2)) ok_tb_M_compare_0 9 rfl
theorem d_M_compare_20 : decode prog_6_method_14_code 20 = .ok (.lcmp, 1) := dOk_get (q := (20, .lcmp, 1)) ok_tb_M_compare_0 10 rfl
theorem d_M_compare_21 : decode prog_6_method_14_code 21 = .ok (.ifCond .eq 17, 3) := dOk_get (q := (21, .ifCond .eq 17, 3)) ok_tb_M_compare_0 11 rfl
theorem d_M_compare_24 : decode prog_6_method_14_code 24 = .ok (.lload 8, 2) := dOk_get (q := (24, .lload 8, 2)) ok_tb_M_compare_0 12 rfl
theorem d_M_compare_26 : decode prog_6_method_14_code 26 = .ok (.lload 10, 2) := dOk_get (q := (26, .lload 10, 2)) ok_tb_M_compare_0 13 rfl
theorem d_M_compare_28 : decode prog_6_method_14_code 28 = .ok (.lcmp, 1) := dOk_get (q := (28, .lcmp, 1)) ok_tb_M_compare_0 14 rfl
theorem d_M_compare_29 : decode prog_6_method_14_code 29 = .ok (.ifCond .ge 7, 3) := dOk_get (q := (29, .ifCond .ge 7, 3)) ok_tb_M_compare_0 15 rfl
theorem d_M_compare_32 : decode prog_6_method_14_code 32 = .ok (.iconst (-1), 1) := dOk_get (q := (32, .iconst (-1), 1)) ok_tb_M_compare_0 16 rfl
theorem d_M_compare_33 : decode prog_6_method_14_code 33 = .ok (.goto 4, 3) := dOk_get (q := (33, .goto 4, 3)) ok_tb_M_compare_0 17 rfl
theorem d_M_compare_36 : decode prog_6_method_14_code 36 = .ok (.iconst 1, 1) := dOk_get (q := (36, .iconst 1, 1)) ok_tb_M_compare_0 18 rfl
theorem d_M_compare_37 : decode prog_6_method_14_code 37 = .ok (.ireturn, 1) := dOk_get (q := (37, .ireturn, 1)) ok_tb_M_compare_0 19 rfl
theorem d_M_compare_38 : decode prog_6_method_14_code 38 = .ok (.lload_n 0, 1) := dOk_get (q := (38, .lload_n 0, 1)) ok_tb_M_compare_0 20 rfl
theorem d_M_compare_39 : decode prog_6_method_14_code 39 = .ok (.lload_n 2, 1) := dOk_get (q := (39, .lload_n 2, 1)) ok_tb_M_compare_0 21 rfl
theorem d_M_compare_40 : decode prog_6_method_14_code 40 = .ok (.invokestatic 107, 3) := dOk_get (q := (40, .invokestatic 107, 3)) ok_tb_M_compare_0 22 rfl
theorem d_M_compare_43 : decode prog_6_method_14_code 43 = .ok (.lstore 8, 2) := dOk_get (q := (43, .lstore 8, 2)) ok_tb_M_compare_0 23 rfl
theorem d_M_compare_45 : decode prog_6_method_14_code 45 = .ok (.lload 4, 2) := dOk_get (q := (45, .lload 4, 2)) ok_tb_M_compare_0 24 rfl
theorem d_M_compare_47 : decode prog_6_method_14_code 47 = .ok (.lload 6, 2) := dOk_get (q := (47, .lload 6, 2)) ok_tb_M_compare_0 25 rfl
theorem d_M_compare_49 : decode prog_6_method_14_code 49 = .ok (.invokestatic 107, 3) := dOk_get (q := (49, .invokestatic 107, 3)) ok_tb_M_compare_0 26 rfl
theorem d_M_compare_52 : decode prog_6_method_14_code 52 = .ok (.lstore 10, 2) := dOk_get (q := (52, .lstore 10, 2)) ok_tb_M_compare_0 27 rfl
theorem d_M_compare_54 : decode prog_6_method_14_code 54 = .ok (.lload 8, 2) := dOk_get (q := (54, .lload 8, 2)) ok_tb_M_compare_0 28 rfl
theorem d_M_compare_56 : decode prog_6_method_14_code 56 = .ok (.lload 10, 2) := dOk_get (q := (56, .lload 10, 2)) ok_tb_M_compare_0 29 rfl
theorem d_M_compare_58 : decode prog_6_method_14_code 58 = .ok (.lcmp, 1) := dOk_get (q := (58, .lcmp, 1)) ok_tb_M_compare_0 30 rfl
theorem d_M_compare_59 : decode prog_6_method_14_code 59 = .ok (.ifCond .ge 7, 3) := dOk_get (q := (59, .ifCond .ge 7, 3)) ok_tb_M_compare_0 31 rfl
theorem d_M_compare_62 : decode prog_6_method_14_code 62 = .ok (.iconst (-1), 1) := dOk_get (q := (62, .iconst (-1), 1)) ok_tb_M_compare_0 32 rfl
theorem d_M_compare_63 : decode prog_6_method_14_code 63 = .ok (.goto 16, 3) := dOk_get (q := (63, .goto 16, 3)) ok_tb_M_compare_0 33 rfl
theorem d_M_compare_66 : decode prog_6_method_14_code 66 = .ok (.lload 8, 2) := dOk_get (q := (66, .lload 8, 2)) ok_tb_M_compare_0 34 rfl
theorem d_M_compare_68 : decode prog_6_method_14_code 68 = .ok (.lload 10, 2) := dOk_get (q := (68, .lload 10, 2)) ok_tb_M_compare_0 35 rfl
theorem d_M_compare_70 : decode prog_6_method_14_code 70 = .ok (.lcmp, 1) := dOk_get (q := (70, .lcmp, 1)) ok_tb_M_compare_0 36 rfl
theorem d_M_compare_71 : decode prog_6_method_14_code 71 = .ok (.ifCond .le 7, 3) := dOk_get (q := (71, .ifCond .le 7, 3)) ok_tb_M_compare_0 37 rfl
theorem d_M_compare_74 : decode prog_6_method_14_code 74 = .ok (.iconst 1, 1) := dOk_get (q := (74, .iconst 1, 1)) ok_tb_M_compare_0 38 rfl
theorem d_M_compare_75 : decode prog_6_method_14_code 75 = .ok (.goto 4, 3) := dOk_get (q := (75, .goto 4, 3)) ok_tb_M_compare_0 39 rfl
theorem d_M_compare_78 : decode prog_6_method_14_code 78 = .ok (.iconst 0, 1) := dOk_get (q := (78, .iconst 0, 1)) ok_tb_M_compare_0 40 rfl
theorem d_M_compare_79 : decode prog_6_method_14_code 79 = .ok (.ireturn, 1) := dOk_get (q := (79, .ireturn, 1)) ok_tb_M_compare_0 41 rfl
def tb_M_upper_0 : List (Nat × Instr × Nat) := [(0, .lload_n 0, 1), (1, .bipush 31, 2), (3, .lshr, 1), (4, .lstore 4, 2), (6, .lload_n 0, 1), (7, .ldc2_w 99, 3), (10, .land, 1), (11, .lstore 6, 2), (13, .lload_n 2, 1), (14, .bipush 31, 2), (16, .lshr, 1), (17, .lstore 8, 2), (19, .lload_n 2, 1), (20, .ldc2_w 99, 3), (23, .land, 1), (24, .lstore 10, 2), (26, .lload 4, 2), (28, .lload 10, 2), (30, .lmul, 1), (31, .lload 6, 2), (33, .lload 10, 2), (35, .lmul, 1), (36, .bipush 31, 2), (38, .lshr, 1), (39, .ladd, 1), (40, .lstore 12, 2), (42, .lload 6, 2), (44, .lload 8, 2), (46, .lmul, 1), (47, .lload 12, 2), (49, .ldc2_w 99, 3), (52, .land, 1), (53, .ladd, 1), (54, .lstore 14, 2), (56, .lload 4, 2), (58, .lload 8, 2), (60, .lmul, 1), (61, .lload 12, 2), (63, .bipush 31, 2), (65, .lshr, 1), (66, .ladd, 1), (67, .lload 14, 2), (69, .bipush 31, 2), (71, .lshr, 1), (72, .ladd, 1), (73, .lreturn, 1)]
theorem ok_tb_M_upper_0 : dOk prog_6_method_12_code tb_M_upper_0 = true := by decide +kernel
theorem d_M_upper_0 : decode prog_6_method_12_code 0 = .ok (.lload_n 0, 1) := dOk_get (q := (0, .lload_n 0, 1)) ok_tb_M_upper_0 0 rfl
theorem d_M_upper_1 : decode prog_6_method_12_code 1 = .ok (.bipush 31, 2) := dOk_get (q := (1, .bipush 31, 2)) ok_tb_M_upper_0 1 rfl
theorem d_M_upper_3 : decode prog_6_method_12_code 3 = .ok (.lshr, 1) := dOk_get (q := (3, .lshr, 1)) ok_tb_M_upper_0 2 rfl
theorem d_M_upper_4 : decode prog_6_method_12_code 4 = .ok (.lstore 4, 2) := dOk_get (q := (4, .lstore 4, 2)) ok_tb_M_upper_0 3 rfl
theorem d_M_upper_6 : decode prog_6_method_12_code 6 = .ok (.lload_n 0, 1) := dOk_get (q := (6, .lload_n 0, 1)) ok_tb_M_upper_0 4 rfl
theorem d_M_upper_7 : decode prog_6_method_12_code 7 = .ok (.ldc2_w 99, 3) := dOk_get (q := (7, .ldc2_w 99, 3)) ok_tb_M_upper_0 5 rfl
theorem d_M_upper_10 : decode prog_6_method_12_code 10 = .ok (.land, 1) := dOk_get (q := (10, .land, 1)) ok_tb_M_upper_0 6 rfl
theorem d_M_upper_11 : decode prog_6_method_12_code 11 = .ok (.lstore 6, 2) := dOk_get (q := (11, .lstore 6, 2)) ok_tb_M_upper_0 7 rfl
theorem d_M_upper_13 : decode prog_6_method_12_code 13 = .ok (.lload_n 2, 1) := dOk_get (q := (13, .lload_n 2, 1)) ok_tb_M_upper_0 8 rfl
theorem d_M_upper_14 : decode prog_6_method_12_code 14 = .ok (.bipush 31, 2) := dOk_get (q := (14, .bipush 31, 2)) ok_tb_M_upper_0 9 rfl
theorem d_M_upper_16 : decode prog_6_method_12_code 16 = .ok (.lshr, 1) := dOk_get (q := (16, .lshr, 1)) ok_tb_M_upper_0 10 rfl
theorem d_M_upper_17 : decode prog_6_method_12_code 17 = .ok (.lstore 8, 2) := dOk_get (q := (17, .lstore 8, 2)) ok_tb_M_upper_0 11 rfl
theorem d_M_upper_19 : decode prog_6_method_12_code 19 = .ok (.lload_n 2, 1) := dOk_get (q := (19, .lload_n 2, 1)) ok_tb_M_upper_0 12 rfl
theorem d_M_upper_20 : decode prog_6_method_12_code 20 = .ok (.ldc2_w 99, 3) := dOk_get (q := (20, .ldc2_w 99, 3)) ok_tb_M_upper_0 13 rfl
theorem d_M_upper_23 : decode prog_6_method_12_code 23 = .ok (.land, 1) := dOk_get (q := (23, .land, 1)) ok_tb_M_upper_0 14 rfl
theorem d_M_upper_24 : decode prog_6_method_12_code 24 = .ok (.lstore 10, 2) := dOk_get (q := (24, .lstore 10, 2)) ok_tb_M_upper_0 15 rfl
theorem d_M_upper_26 : decode prog_6_method_12_code 26 = .ok (.lload 4, 2) := dOk_get (q := (26, .lload 4, 2)) ok_tb_M_upper_0 16 rfl
theorem d_M_upper_28 : decode prog_6_method_12_code 28 = .ok (.lload 10, 2) := dOk_get (q := (28, .lload 10, 2)) ok_tb_M_upper_0 17 rfl
theorem d_M_upper_30 : decode prog_6_method_12_code 30 = .ok (.lmul, 1) := dOk_get (q := (30, .lmul, 1)) ok_tb_M_upper_0 18 rfl
theorem d_M_upper_31 : decode prog_6_method_12_code 31 = .ok (.lload 6, 2) := dOk_get (q := (31, .lload 6, 2)) ok_tb_M_upper_0 19 rfl
theorem d_M_upper_33 : decode prog_6_method_12_code 33 = .ok (.lload 10, 2) := dOk_get (q := (33, .lload 10, 2)) ok_tb_M_upper_0 20 rfl
theorem d_M_upper_35 : decode prog_6_method_12_code 35 = .ok (.lmul, 1) := dOk_get (q := (35, .lmul, 1)) ok_tb_M_upper_0 21 rfl
theorem d_M_upper_36 : decode prog_6_method_12_code 36 = .ok (.bipush 31, 2) := dOk_get (q := (36, .bipush 31, 2)) ok_tb_M_upper_0 22 rfl
theorem d_M_upper_38 : decode prog_6_method_12_code 38 = .ok (.lshr, 1) := dOk_get (q := (38, .lshr, 1)) ok_tb_M_upper_0 23 rfl
theorem d_M_upper_39 : decode prog_6_method_12_code 39 = .ok (.ladd, 1) := dOk_get (q := (39, .ladd, 1)) ok_tb_M_upper_0 24 rfl
theorem d_M_upper_40 : decode prog_6_method_12_code 40 = .ok (.lstore 12, 2) := dOk_get (q := (40, .lstore 12, 2)) ok_tb_M_upper_0 25 rfl
theorem d_M_upper_42 : decode prog_6_method_12_code 42 = .ok (.lload 6, 2) := dOk_get (q := (42, .lload 6, 2)) ok_tb_M_upper_0 26 rfl
theorem d_M_upper_44 : decode prog_6_method_12_code 44 = .ok (.lload 8, 2) := dOk_get (q := (44, .lload 8, 2)) ok_tb_M_upper_0 27 rfl
theorem d_M_upper_46 : decode prog_6_method_12_code 46 = .ok (.lmul, 1) := dOk_get (q := (46, .lmul, 1)) ok_tb_M_upper_0 28 rfl
theorem d_M_upper_47 : decode prog_6_method_12_code 47 = .ok (.lload 12, 2) := dOk_get (q := (47, .lload 12, 2)) ok_tb_M_upper_0 29 rfl
theorem d_M_upper_49 : decode prog_6_method_12_code 49 = .ok (.ldc2_w 99, 3) := dOk_get (q := (49, .ldc2_w 99, 3)) ok_tb_M_upper_0 30 rfl
theorem d_M_upper_52 : decode prog_6_method_12_code 52 = .ok (.land, 1) := dOk_get (q := (52, .land, 1)) ok_tb_M_upper_0 31 rfl
theorem d_M_upper_53 : decode prog_6_method_12_code 53 = .ok (.ladd, 1) := dOk_get (q := (53, .ladd, 1)) ok_tb_M_upper_0 32 rfl
theorem d_M_upper_54 : decode prog_6_method_12_code 54 = .ok (.lstore 14, 2) := dOk_get (q := (54, .lstore 14, 2)) ok_tb_M_upper_0 33 rfl
theorem d_M_upper_56 : decode prog_6_method_12_code 56 = .ok (.lload 4, 2) := dOk_get (q := (56, .lload 4, 2)) ok_tb_M_upper_0 34 rfl
theorem d_M_upper_58 : decode prog_6_method_12_code 58 = .ok (.lload 8, 2) := dOk_get (q := (58, .lload 8, 2)) ok_tb_M_upper_0 35 rfl
theorem d_M_upper_60 : decode prog_6_method_12_code 60 = .ok (.lmul, 1) := dOk_get (q := (60, .lmul, 1)) ok_tb_M_upper_0 36 rfl
theorem d_M_upper_61 : decode prog_6_method_12_code 61 = .ok (.lload 12, 2) := dOk_get (q := (61, .lload 12, 2)) ok_tb_M_upper_0 37 rfl
theorem d_M_upper_63 : decode prog_6_method_12_code 63 = .ok (.bipush 31, 2) := dOk_get (q := (63, .bipush 31, 2)) ok_tb_M_upper_0 38 rfl
theorem d_M_upper_65 : decode prog_6_method_12_code 65 = .ok (.lshr, 1) := dOk_get (q := (65, .lshr, 1)) ok_tb_M_upper_0 39 rfl
theorem d_M_upper_66 : decode prog_6_method_12_code 66 = .ok (.ladd, 1) := dOk_get (q := (66, .ladd, 1)) ok_tb_M_upper_0 40 rfl
theorem d_M_upper_67 : decode prog_6_method_12_code 67 = .ok (.lload 14, 2) := dOk_get (q := (67, .lload 14, 2)) ok_tb_M_upper_0 41 rfl
theorem d_M_upper_69 : decode prog_6_method_12_code 69 = .ok (.bipush 31, 2) := dOk_get (q := (69, .bipush 31, 2)) ok_tb_M_upper_0 42 rfl
theorem d_M_upper_71 : decode prog_6_method_12_code 71 = .ok (.lshr, 1) := dOk_get (q := (71, .lshr, 1)) ok_tb_M_upper_0 43 rfl
theorem d_M_upper_72 : decode prog_6_method_12_code 72 = .ok (.ladd, 1) := dOk_get (q := (72, .ladd, 1)) ok_tb_M_upper_0 44 rfl
theorem d_M_upper_73 : decode prog_6_method_12_code 73 = .ok (.lreturn, 1) := dOk_get (q := (73, .lreturn, 1)) ok_tb_M_upper_0 45 rfl
def tb_M_lower_0 : List (Nat × Instr × Nat) := [(0, .lload_n 0, 1), (1, .lload_n 2, 1), (2, .lmul, 1), (3, .ldc2_w 101, 3), (6, .land, 1), (7, .lreturn, 1)]
theorem ok_tb_M_lower_0 : dOk prog_6_method_13_code tb_M_lower_0 = true := by decide +kernel
theorem d_M_lower_0 : decode prog_6_method_13_code 0 = .ok (.lload_n 0, 1) := dOk_get (q := (0, .lload_n 0, 1)) ok_tb_M_lower_0 0 rfl
theorem d_M_lower_1 : decode prog_6_method_13_code 1 = .ok (.lload_n 2, 1) := dOk_get (q := (1, .lload_n 2, 1)) ok_tb_M_lower_0 1 rfl
theorem d_M_lower_2 : decode prog_6_method_13_code 2 = .ok (.lmul, 1) := dOk_get (q := (2, .lmul, 1)) ok_tb_M_lower_0 2 rfl
theorem d_M_lower_3 : decode prog_6_method_13_code 3 = .ok (.ldc2_w 101, 3) := dOk_get (q := (3, .ldc2_w 101, 3)) ok_tb_M_lower_0 3 rfl
theorem d_M_lower_6 : decode prog_6_method_13_code 6 = .ok (.land, 1) := dOk_get (q := (6, .land, 1)) ok_tb_M_lower_0 4 rfl
theorem d_M_lower_7 : decode prog_6_method_13_code 7 = .ok (.lreturn, 1) := dOk_get (q := (7, .lreturn, 1)) ok_tb_M_lower_0 5 rfl
def tb_M_isHeld_0 : List (Nat × Instr × Nat) := [(0, .iconst 0, 1), (1, .istore_n 3, 1), (2, .iload_n 3, 1), (3, .aload_n 0, 1), (4, .getfield 72, 3), (7, .if_icmp .ge 97, 3), (10, .iload_n 3, 1), (11, .iload_n 1, 1), (12, .if_icmp .eq 50, 3), (15, .aload_n 0, 1), (16, .getfield 32, 3), (19, .iload_n 3, 1), (20, .laload, 1), (21, .lconst 0, 1), (22, .lcmp, 1), (23, .ifCond .le 39, 3), (26, .aload_n 0, 1), (27, .iload_n 3, 1), (28, .invokevirtual 141, 3), (31, .ifCond .eq 31, 3), (34, .aload_n 0, 1), (35, .getfield 13, 3), (38, .iload_n 3, 1), (39, .iaload, 1), (40, .aload_n 0, 1), (41, .getfield 13, 3), (44, .iload_n 1, 1), (45, .iaload, 1), (46, .if_icmp .ne 16, 3), (49, .aload_n 0, 1), (50, .iload_n 1, 1), (51, .iload_n 3, 1), (52, .invokevirtual 144, 3), (55, .ifCond .eq 7, 3), (58, .iconst 1, 1), (59, .goto 4, 3), (62, .iconst 0, 1), (63, .istore 4, 2), (65, .iload 4, 2), (67, .ifCond .eq 31, 3), (70, .aload_n 0, 1), (71, .aload_n 0, 1), (72, .getfield 25, 3), (75, .iload_n 2, 1), (76, .laload, 1), (77, .aload_n 0, 1), (78, .getfield 29, 3), (81, .iload_n 2, 1), (82, .laload, 1), (83, .iload_n 3, 1), (84, .aload_n 0, 1), (85, .getfield 32, 3), (88, .iload_n 3, 1), (89, .laload, 1), (90, .invokevirtual 134, 3), (93, .ifCond .gt 5, 3), (96, .iconst 1, 1), (97, .ireturn, 1), (98, .iinc 3 1, 3), (101, .goto (-99), 3), (104, .iconst 0, 1), (105, .ireturn, 1)]
theorem ok_tb_M_isHeld_0 : dOk prog_6_method_28_code tb_M_isHeld_0 = true := by decide +kernel
theorem d_M_isHeld_0 : decode prog_6_method_28_code 0 = .ok (.iconst 0, 1) := dOk_get (q := (0, .iconst 0, 1)) ok_tb_M_isHeld_0 0 rfl
theorem d_M_isHeld_1 : decode prog_6_method_28_code 1 = .ok (.istore_n 3, 1) := dOk_get (q := (1, .istore_n 3, 1)) ok_tb_M_isHeld_0 1 rfl
theorem d_M_isHeld_2 : decode prog_6_method_28_code 2 = .ok (.iload_n 3, 1) := dOk_get (q := (2, .iload_n 3, 1)) ok_tb_M_isHeld_0 2 rfl
theorem d_M_isHeld_3 : decode prog_6_method_28_code 3 = .ok (.aload_n 0, 1) := dOk_get (q := (3, .aload_n 0, 1)) ok_tb_M_isHeld_0 3 rfl
theorem d_M_isHeld_4 : decode prog_6_method_28_code 4 = .ok (.getfield 72, 3) := dOk_get (q := (4, .getfield 72, 3)) ok_tb_M_isHeld_0 4 rfl
theorem d_M_isHeld_7 : decode prog_6_method_28_code 7 = .ok (.if_icmp .ge 97, 3) := dOk_get (q := (7, .if_icmp .ge 97, 3)) ok_tb_M_isHeld_0 5 rfl
theorem d_M_isHeld_10 : decode prog_6_method_28_code 10 = .ok (.iload_n 3, 1) := dOk_get (q := (10, .iload_n 3, 1)) ok_tb_M_isHeld_0 6 rfl
theorem d_M_isHeld_11 : decode prog_6_method_28_code 11 = .ok (.iload_n 1, 1) := dOk_get (q := (11, .iload_n 1, 1)) ok_tb_M_isHeld_0 7 rfl
theorem d_M_isHeld_12 : decode prog_6_method_28_code 12 = .ok (.if_icmp .eq 50, 3) := dOk_get (q := (12, .if_icmp .eq 50, 3)) ok_tb_M_isHeld_0 8 rfl
theorem d_M_isHeld_15 : decode prog_6_method_28_code 15 = .ok (.aload_n 0, 1) := dOk_get (q := (15, .aload_n 0, 1)) ok_tb_M_isHeld_0 9 rfl
theorem d_M_isHeld_16 : decode prog_6_method_28_code 16 = .ok (.getfield 32, 3) := dOk_get (q := (16, .getfield 32, 3)) ok_tb_M_isHeld_0 10 rfl
theorem d_M_isHeld_19 : decode prog_6_method_28_code 19 = .ok (.iload_n 3, 1) := dOk_get (q := (19, .iload_n 3, 1)) ok_tb_M_isHeld_0 11 rfl
theorem d_M_isHeld_20 : decode prog_6_method_28_code 20 = .ok (.laload, 1) := dOk_get (q := (20, .laload, 1)) ok_tb_M_isHeld_0 12 rfl
theorem d_M_isHeld_21 : decode prog_6_method_28_code 21 = .ok (.lconst 0, 1) := dOk_get (q := (21, .lconst 0, 1)) ok_tb_M_isHeld_0 13 rfl
theorem d_M_isHeld_22 : decode prog_6_method_28_code 22 = .ok (.lcmp, 1) := dOk_get (q := (22, .lcmp, 1)) ok_tb_M_isHeld_0 14 rfl
theorem d_M_isHeld_23 : decode prog_6_method_28_code 23 = .ok (.ifCond .le 39, 3) := dOk_get (q := (23, .ifCond .le 39, 3)) ok_tb_M_isHeld_0 15 rfl
theorem d_M_isHeld_26 : decode prog_6_method_28_code 26 = .ok (.aload_n 0, 1) := dOk_get (q := (26, .aload_n 0, 1)) ok_tb_M_isHeld_0 16 rfl
theorem d_M_isHeld_27 : decode prog_6_method_28_code 27 = .ok (.iload_n 3, 1) := dOk_get (q := (27, .iload_n 3, 1)) ok_tb_M_isHeld_0 17 rfl
theorem d_M_isHeld_28 : decode prog_6_method_28_code 28 = .ok (.invokevirtual 141, 3) := dOk_get (q := (28, .invokevirtual 141, 3)) ok_tb_M_isHeld_0 18 rfl
theorem d_M_isHeld_31 : decode prog_6_method_28_code 31 = .ok (.ifCond .eq 31, 3) := dOk_get (q := (31, .ifCond .eq 31, 3)) ok_tb_M_isHeld_0 19 rfl
theorem d_M_isHeld_34 : decode prog_6_method_28_code 34 = .ok (.aload_n 0, 1) := dOk_get (q := (34, .aload_n 0, 1)) ok_tb_M_isHeld_0 20 rfl
theorem d_M_isHeld_35 : decode prog_6_method_28_code 35 = .ok (.getfield 13, 3) := dOk_get (q := (35, .getfield 13, 3)) ok_tb_M_isHeld_0 21 rfl
theorem d_M_isHeld_38 : decode prog_6_method_28_code 38 = .ok (.iload_n 3, 1) := dOk_get (q := (38, .iload_n 3, 1)) ok_tb_M_isHeld_0 22 rfl
theorem d_M_isHeld_39 : decode prog_6_method_28_code 39 = .ok (.iaload, 1) := dOk_get (q := (39, .iaload, 1)) ok_tb_M_isHeld_0 23 rfl
theorem d_M_isHeld_40 : decode prog_6_method_28_code 40 = .ok (.aload_n 0, 1) := dOk_get (q := (40, .aload_n 0, 1)) ok_tb_M_isHeld_0 24 rfl
theorem d_M_isHeld_41 : decode prog_6_method_28_code 41 = .ok (.getfield 13, 3) := dOk_get (q := (41, .getfield 13, 3)) ok_tb_M_isHeld_0 25 rfl
theorem d_M_isHeld_44 : decode prog_6_method_28_code 44 = .ok (.iload_n 1, 1) := dOk_get (q := (44, .iload_n 1, 1)) ok_tb_M_isHeld_0 26 rfl
theorem d_M_isHeld_45 : decode prog_6_method_28_code 45 = .ok (.iaload, 1) := dOk_get (q := (45, .iaload, 1)) ok_tb_M_isHeld_0 27 rfl
theorem d_M_isHeld_46 : decode prog_6_method_28_code 46 = .ok (.if_icmp .ne 16, 3) := dOk_get (q := (46, .if_icmp .ne 16, 3)) ok_tb_M_isHeld_0 28 rfl
theorem d_M_isHeld_49 : decode prog_6_method_28_code 49 = .ok (.aload_n 0, 1) := dOk_get (q := (49, .aload_n 0, 1)) ok_tb_M_isHeld_0 29 rfl
theorem d_M_isHeld_50 : decode prog_6_method_28_code 50 = .ok (.iload_n 1, 1) := dOk_get (q := (50, .iload_n 1, 1)) ok_tb_M_isHeld_0 30 rfl
theorem d_M_isHeld_51 : decode prog_6_method_28_code 51 = .ok (.iload_n 3, 1) := dOk_get (q := (51, .iload_n 3, 1)) ok_tb_M_isHeld_0 31 rfl
theorem d_M_isHeld_52 : decode prog_6_method_28_code 52 = .ok (.invokevirtual 144, 3) := dOk_get (q := (52, .invokevirtual 144, 3)) ok_tb_M_isHeld_0 32 rfl
theorem d_M_isHeld_55 : decode prog_6_method_28_code 55 = .ok (.ifCond .eq 7, 3) := dOk_get (q := (55, .ifCond .eq 7, 3)) ok_tb_M_isHeld_0 33 rfl
theorem d_M_isHeld_58 : decode prog_6_method_28_code 58 = .ok (.iconst 1, 1) := dOk_get (q := (58, .iconst 1, 1)) ok_tb_M_isHeld_0 34 rfl
theorem d_M_isHeld_59 : decode prog_6_method_28_code 59 = .ok (.goto 4, 3) := dOk_get (q := (59, .goto 4, 3)) ok_tb_M_isHeld_0 35 rfl
theorem d_M_isHeld_62 : decode prog_6_method_28_code 62 = .ok (.iconst 0, 1) := dOk_get (q := (62, .iconst 0, 1)) ok_tb_M_isHeld_0 36 rfl
theorem d_M_isHeld_63 : decode prog_6_method_28_code 63 = .ok (.istore 4, 2) := dOk_get (q := (63, .istore 4, 2)) ok_tb_M_isHeld_0 37 rfl
theorem d_M_isHeld_65 : decode prog_6_method_28_code 65 = .ok (.iload 4, 2) := dOk_get (q := (65, .iload 4, 2)) ok_tb_M_isHeld_0 38 rfl
theorem d_M_isHeld_67 : decode prog_6_method_28_code 67 = .ok (.ifCond .eq 31, 3) := dOk_get (q := (67, .ifCond .eq 31, 3)) ok_tb_M_isHeld_0 39 rfl
theorem d_M_isHeld_70 : decode prog_6_method_28_code 70 = .ok (.aload_n 0, 1) := dOk_get (q := (70, .aload_n 0, 1)) ok_tb_M_isHeld_0 40 rfl
theorem d_M_isHeld_71 : decode prog_6_method_28_code 71 = .ok (.aload_n 0, 1) := dOk_get (q := (71, .aload_n 0, 1)) ok_tb_M_isHeld_0 41 rfl
theorem d_M_isHeld_72 : decode prog_6_method_28_code 72 = .ok (.getfield 25, 3) := dOk_get (q := (72, .getfield 25, 3)) ok_tb_M_isHeld_0 42 rfl
theorem d_M_isHeld_75 : decode prog_6_method_28_code 75 = .ok (.iload_n 2, 1) := dOk_get (q := (75, .iload_n 2, 1)) ok_tb_M_isHeld_0 43 rfl
theorem d_M_isHeld_76 : decode prog_6_method_28_code 76 = .ok (.laload, 1) := dOk_get (q := (76, .laload, 1)) ok_tb_M_isHeld_0 44 rfl
theorem d_M_isHeld_77 : decode prog_6_method_28_code 77 = .ok (.aload_n 0, 1) := dOk_get (q := (77, .aload_n 0, 1)) ok_tb_M_isHeld_0 45 rfl
theorem d_M_isHeld_78 : decode prog_6_method_28_code 78 = .ok (.getfield 29, 3) := dOk_get (q := (78, .getfield 29, 3)) ok_tb_M_isHeld_0 46 rfl
theorem d_M_isHeld_81 : decode prog_6_method_28_code 81 = .ok (.iload_n 2, 1) := dOk_get (q := (81, .iload_n 2, 1)) ok_tb_M_isHeld_0 47 rfl
theorem d_M_isHeld_82 : decode prog_6_method_28_code 82 = .ok (.laload, 1) := dOk_get (q := (82, .laload, 1)) ok_tb_M_isHeld_0 48 rfl
theorem d_M_isHeld_83 : decode prog_6_method_28_code 83 = .ok (.iload_n 3, 1) := dOk_get (q := (83, .iload_n 3, 1)) ok_tb_M_isHeld_0 49 rfl
theorem d_M_isHeld_84 : decode prog_6_method_28_code 84 = .ok (.aload_n 0, 1) := dOk_get (q := (84, .aload_n 0, 1)) ok_tb_M_isHeld_0 50 rfl
theorem d_M_isHeld_85 : decode prog_6_method_28_code 85 = .ok (.getfield 32, 3) := dOk_get (q := (85, .getfield 32, 3)) ok_tb_M_isHeld_0 51 rfl
theorem d_M_isHeld_88 : decode prog_6_method_28_code 88 = .ok (.iload_n 3, 1) := dOk_get (q := (88, .iload_n 3, 1)) ok_tb_M_isHeld_0 52 rfl
theorem d_M_isHeld_89 : decode prog_6_method_28_code 89 = .ok (.laload, 1) := dOk_get (q := (89, .laload, 1)) ok_tb_M_isHeld_0 53 rfl
theorem d_M_isHeld_90 : decode prog_6_method_28_code 90 = .ok (.invokevirtual 134, 3) := dOk_get (q := (90, .invokevirtual 134, 3)) ok_tb_M_isHeld_0 54 rfl
theorem d_M_isHeld_93 : decode prog_6_method_28_code 93 = .ok (.ifCond .gt 5, 3) := dOk_get (q := (93, .ifCond .gt 5, 3)) ok_tb_M_isHeld_0 55 rfl
theorem d_M_isHeld_96 : decode prog_6_method_28_code 96 = .ok (.iconst 1, 1) := dOk_get (q := (96, .iconst 1, 1)) ok_tb_M_isHeld_0 56 rfl
theorem d_M_isHeld_97 : decode prog_6_method_28_code 97 = .ok (.ireturn, 1) := dOk_get (q := (97, .ireturn, 1)) ok_tb_M_isHeld_0 57 rfl
theorem d_M_isHeld_98 : decode prog_6_method_28_code 98 = .ok (.iinc 3 1, 3) := dOk_get (q := (98, .iinc 3 1, 3)) ok_tb_M_isHeld_0 58 rfl
theorem d_M_isHeld_101 : decode prog_6_method_28_code 101 = .ok (.goto (-99), 3) := dOk_get (q := (101, .goto (-99), 3)) ok_tb_M_isHeld_0 59 rfl
theorem d_M_isHeld_104 : decode prog_6_method_28_code 104 = .ok (.iconst 0, 1) := dOk_get (q := (104, .iconst 0, 1)) ok_tb_M_isHeld_0 60 rfl
theorem d_M_isHeld_105 : decode prog_6_method_28_code 105 = .ok (.ireturn, 1) := dOk_get (q := (105, .ireturn, 1)) ok_tb_M_isHeld_0 61 rfl
def tb_M_isAcute_0 : List (Nat × Instr × Nat) := [(0, .bipush 8, 2), (2, .iload_n 1, 1), (3, .imul, 1), (4, .iconst 1, 1), (5, .iadd, 1), (6, .istore_n 2, 1), (7, .iload_n 2, 1), (8, .bipush 8, 2), (10, .iload_n 1, 1), (11, .imul, 1), (12, .aload_n 0, 1), (13, .getfield 22, 3), (16, .iload_n 1, 1), (17, .iaload, 1), (18, .iadd, 1), (19, .iconst 1, 1), (20, .isub, 1), (21, .if_icmp .ge 81, 3), (24, .aload_n 0, 1), (25, .getfield 25, 3), (28, .iload_n 2, 1), (29, .iconst 1, 1), (30, .isub, 1), (31, .laload, 1), (32, .aload_n 0, 1), (33, .getfield 25, 3), (36, .iload_n 2, 1), (37, .laload, 1), (38, .lsub, 1), (39, .aload_n 0, 1), (40, .getfield 25, 3), (43, .iload_n 2, 1), (44, .iconst 1, 1), (45, .iadd, 1), (46, .laload, 1), (47, .aload_n 0, 1), (48, .getfield 25, 3), (51, .iload_n 2, 1), (52, .laload, 1), (53, .lsub, 1), (54, .lmul, 1), (55, .aload_n 0, 1), (56, .getfield 29, 3), (59, .iload_n 2, 1), (60, .iconst 1, 1), (61, .isub, 1), (62, .laload, 1), (63, .aload_n 0, 1), (64, .getfield 29, 3), (67, .iload_n 2, 1), (68, .laload, 1), (69, .lsub, 1), (70, .aload_n 0, 1), (71, .getfield 29, 3), (74, .iload_n 2, 1), (75, .iconst 1, 1), (76, .iadd, 1), (77, .laload, 1), (78, .aload_n 0, 1), (79, .getfield 29, 3), (82, .iload_n 2, 1), (83, .laload, 1), (84, .lsub, 1), (85, .lmul, 1), (86, .ladd, 1), (87, .lstore_n 3, 1), (88, .lload_n 3, 1), (89, .lconst 0, 1), (90, .lcmp, 1), (91, .ifCond .le 5, 3), (94, .iconst 1, 1), (95, .ireturn, 1), (96, .iinc 2 1, 3), (99, .goto (-92), 3), (102, .iconst 0, 1), (103, .ireturn, 1)]
theorem ok_tb_M_isAcute_0 : dOk prog_6_method_29_code tb_M_isAcute_0 = true := by decide +kernel
theorem d_M_isAcute_0 : decode prog_6_method_29_code 0 = .ok (.bipush 8, 2) := dOk_get (q := (0, .bipush 8, 2)) ok_tb_M_isAcute_0 0 rfl
theorem d_M_isAcute_2 : decode prog_6_method_29_code 2 = .ok (.iload_n 1, 1) := dOk_get (q := (2, .iload_n 1, 1)) ok_tb_M_isAcute_0 1 rfl
theorem d_M_isAcute_3 : decode prog_6_method_29_code 3 = .ok (.imul, 1) := dOk_get (q := (3, .imul, 1)) ok_tb_M_isAcute_0 2 rfl
theorem d_M_isAcute_4 : decode prog_6_method_29_code 4 = .ok (.iconst 1, 1) := dOk_get (q := (4, .iconst 1, 1)) ok_tb_M_isAcute_0 3 rfl
theorem d_M_isAcute_5 : decode prog_6_method_29_code 5 = .ok (.iadd, 1) := dOk_get (q := (5, .iadd, 1)) ok_tb_M_isAcute_0 4 rfl
theorem d_M_isAcute_6 : decode prog_6_method_29_code 6 = .ok (.istore_n 2, 1) := dOk_get (q := (6, .istore_n 2, 1)) ok_tb_M_isAcute_0 5 rfl
theorem d_M_isAcute_7 : decode prog_6_method_29_code 7 = .ok (.iload_n 2, 1) := dOk_get (q := (7, .iload_n 2, 1)) ok_tb_M_isAcute_0 6 rfl
theorem d_M_isAcute_8 : decode prog_6_method_29_code 8 = .ok (.bipush 8, 2) := dOk_get (q := (8, .bipush 8, 2)) ok_tb_M_isAcute_0 7 rfl
theorem d_M_isAcute_10 : decode prog_6_method_29_code 10 = .ok (.iload_n 1, 1) := dOk_get (q := (10, .iload_n 1, 1)) ok_tb_M_isAcute_0 8 rfl
theorem d_M_isAcute_11 : decode prog_6_method_29_code 11 = .ok (.imul, 1) := dOk_get (q := (11, .imul, 1)) ok_tb_M_isAcute_0 9 rfl
theorem d_M_isAcute_12 : decode prog_6_method_29_code 12 = .ok (.aload_n 0, 1) := dOk_get (q := (12, .aload_n 0, 1)) ok_tb_M_isAcute_0 10 rfl
theorem d_M_isAcute_13 : decode prog_6_method_29_code 13 = .ok (.getfield 22, 3) := dOk_get (q := (13, .getfield 22, 3)) ok_tb_M_isAcute_0 11 rfl
theorem d_M_isAcute_16 : decode prog_6_method_29_code 16 = .ok (.iload_n 1, 1) := dOk_get (q := (16, .iload_n 1, 1)) ok_tb_M_isAcute_0 12 rfl
theorem d_M_isAcute_17 : decode prog_6_method_29_code 17 = .ok (.iaload, 1) := dOk_get (q := (17, .iaload, 1)) ok_tb_M_isAcute_0 13 rfl
theorem d_M_isAcute_18 : decode prog_6_method_29_code 18 = .ok (.iadd, 1) := dOk_get (q := (18, .iadd, 1)) ok_tb_M_isAcute_0 14 rfl
theorem d_M_isAcute_19 : decode prog_6_method_29_code 19 = .ok (.iconst 1, 1) := dOk_get (q := (19, .iconst 1, 1)) ok_tb_M_isAcute_0 15 rfl
theorem d_M_isAcute_20 : decode prog_6_method_29_code 20 = .ok (.isub, 1) := dOk_get (q := (20, .isub, 1)) ok_tb_M_isAcute_0 16 rfl
theorem d_M_isAcute_21 : decode prog_6_method_29_code 21 = .ok (.if_icmp .ge 81, 3) := dOk_get (q := (21, .if_icmp .ge 81, 3)) ok_tb_M_isAcute_0 17 rfl
theorem d_M_isAcute_24 : decode prog_6_method_29_code 24 = .ok (.aload_n 0, 1) := dOk_get (q := (24, .aload_n 0, 1)) ok_tb_M_isAcute_0 18 rfl
theorem d_M_isAcute_25 : decode prog_6_method_29_code 25 = .ok (.getfield 25, 3) := dOk_get (q := (25, .getfield 25, 3)) ok_tb_M_isAcute_0 19 rfl
theorem d_M_isAcute_28 : decode prog_6_method_29_code 28 = .ok (.iload_n 2, 1) := dOk_get (q := (28, .iload_n 2, 1)) ok_tb_M_isAcute_0 20 rfl
theorem d_M_isAcute_29 : decode prog_6_method_29_code 29 = .ok (.iconst 1, 1) := dOk_get (q := (29, .iconst 1, 1)) ok_tb_M_isAcute_0 21 rfl
theorem d_M_isAcute_30 : decode prog_6_method_29_code 30 = .ok (.isub, 1) := dOk_get (q := (30, .isub, 1)) ok_tb_M_isAcute_0 22 rfl
theorem d_M_isAcute_31 : decode prog_6_method_29_code 31 = .ok (.laload, 1) := dOk_get (q := (31, .laload, 1)) ok_tb_M_isAcute_0 23 rfl
theorem d_M_isAcute_32 : decode prog_6_method_29_code 32 = .ok (.aload_n 0, 1) := dOk_get (q := (32, .aload_n 0, 1)) ok_tb_M_isAcute_0 24 rfl
theorem d_M_isAcute_33 : decode prog_6_method_29_code 33 = .ok (.getfield 25, 3) := dOk_get (q := (33, .getfield 25, 3)) ok_tb_M_isAcute_0 25 rfl
theorem d_M_isAcute_36 : decode prog_6_method_29_code 36 = .ok (.iload_n 2, 1) := dOk_get (q := (36, .iload_n 2, 1)) ok_tb_M_isAcute_0 26 rfl
theorem d_M_isAcute_37 : decode prog_6_method_29_code 37 = .ok (.laload, 1) := dOk_get (q := (37, .laload, 1)) ok_tb_M_isAcute_0 27 rfl
theorem d_M_isAcute_38 : decode prog_6_method_29_code 38 = .ok (.lsub, 1) := dOk_get (q := (38, .lsub, 1)) ok_tb_M_isAcute_0 28 rfl
theorem d_M_isAcute_39 : decode prog_6_method_29_code 39 = .ok (.aload_n 0, 1) := dOk_get (q := (39, .aload_n 0, 1)) ok_tb_M_isAcute_0 29 rfl
theorem d_M_isAcute_40 : decode prog_6_method_29_code 40 = .ok (.getfield 25, 3) := dOk_get (q := (40, .getfield 25, 3)) ok_tb_M_isAcute_0 30 rfl
theorem d_M_isAcute_43 : decode prog_6_method_29_code 43 = .ok (.iload_n 2, 1) := dOk_get (q := (43, .iload_n 2, 1)) ok_tb_M_isAcute_0 31 rfl
theorem d_M_isAcute_44 : decode prog_6_method_29_code 44 = .ok (.iconst 1, 1) := dOk_get (q := (44, .iconst 1, 1)) ok_tb_M_isAcute_0 32 rfl
theorem d_M_isAcute_45 : decode prog_6_method_29_code 45 = .ok (.iadd, 1) := dOk_get (q := (45, .iadd, 1)) ok_tb_M_isAcute_0 33 rfl
theorem d_M_isAcute_46 : decode prog_6_method_29_code 46 = .ok (.laload, 1) := dOk_get (q := (46, .laload, 1)) ok_tb_M_isAcute_0 34 rfl
theorem d_M_isAcute_47 : decode prog_6_method_29_code 47 = .ok (.aload_n 0, 1) := dOk_get (q := (47, .aload_n 0, 1)) ok_tb_M_isAcute_0 35 rfl
theorem d_M_isAcute_48 : decode prog_6_method_29_code 48 = .ok (.getfield 25, 3) := dOk_get (q := (48, .getfield 25, 3)) ok_tb_M_isAcute_0 36 rfl
theorem d_M_isAcute_51 : decode prog_6_method_29_code 51 = .ok (.iload_n 2, 1) := dOk_get (q := (51, .iload_n 2, 1)) ok_tb_M_isAcute_0 37 rfl
theorem d_M_isAcute_52 : decode prog_6_method_29_code 52 = .ok (.laload, 1) := dOk_get (q := (52, .laload, 1)) ok_tb_M_isAcute_0 38 rfl
theorem d_M_isAcute_53 : decode prog_6_method_29_code 53 = .ok (.lsub, 1) := dOk_get (q := (53, .lsub, 1)) ok_tb_M_isAcute_0 39 rfl
theorem d_M_isAcute_54 : decode prog_6_method_29_code 54 = .ok (.lmul, 1) := dOk_get (q := (54, .lmul, 1)) ok_tb_M_isAcute_0 40 rfl
theorem d_M_isAcute_55 : decode prog_6_method_29_code 55 = .ok (.aload_n 0, 1) := dOk_get (q := (55, .aload_n 0, 1)) ok_tb_M_isAcute_0 41 rfl
theorem d_M_isAcute_56 : decode prog_6_method_29_code 56 = .ok (.getfield 29, 3) := dOk_get (q := (56, .getfield 29, 3)) ok_tb_M_isAcute_0 42 rfl
theorem d_M_isAcute_59 : decode prog_6_method_29_code 59 = .ok (.iload_n 2, 1) := dOk_get (q := (59, .iload_n 2, 1)) ok_tb_M_isAcute_0 43 rfl
theorem d_M_isAcute_60 : decode prog_6_method_29_code 60 = .ok (.iconst 1, 1) := dOk_get (q := (60, .iconst 1, 1)) ok_tb_M_isAcute_0 44 rfl
theorem d_M_isAcute_61 : decode prog_6_method_29_code 61 = .ok (.isub, 1) := dOk_get (q := (61, .isub, 1)) ok_tb_M_isAcute_0 45 rfl
theorem d_M_isAcute_62 : decode prog_6_method_29_code 62 = .ok (.laload, 1) := dOk_get (q := (62, .laload, 1)) ok_tb_M_isAcute_0 46 rfl
theorem d_M_isAcute_63 : decode prog_6_method_29_code 63 = .ok (.aload_n 0, 1) := dOk_get (q := (63, .aload_n 0, 1)) ok_tb_M_isAcute_0 47 rfl
theorem d_M_isAcute_64 : decode prog_6_method_29_code 64 = .ok (.getfield 29, 3) := dOk_get (q := (64, .getfield 29, 3)) ok_tb_M_isAcute_0 48 rfl
theorem d_M_isAcute_67 : decode prog_6_method_29_code 67 = .ok (.iload_n 2, 1) := dOk_get (q := (67, .iload_n 2, 1)) ok_tb_M_isAcute_0 49 rfl
theorem d_M_isAcute_68 : decode prog_6_method_29_code 68 = .ok (.laload, 1) := dOk_get (q := (68, .laload, 1)) ok_tb_M_isAcute_0 50 rfl
theorem d_M_isAcute_69 : decode prog_6_method_29_code 69 = .ok (.lsub, 1) := dOk_get (q := (69, .lsub, 1)) ok_tb_M_isAcute_0 51 rfl
theorem d_M_isAcute_70 : decode prog_6_method_29_code 70 = .ok (.aload_n 0, 1) := dOk_get (q := (70, .aload_n 0, 1)) ok_tb_M_isAcute_0 52 rfl
theorem d_M_isAcute_71 : decode prog_6_method_29_code 71 = .ok (.getfield 29, 3) := dOk_get (q := (71, .getfield 29, 3)) ok_tb_M_isAcute_0 53 rfl
theorem d_M_isAcute_74 : decode prog_6_method_29_code 74 = .ok (.iload_n 2, 1) := dOk_get (q := (74, .iload_n 2, 1)) ok_tb_M_isAcute_0 54 rfl
theorem d_M_isAcute_75 : decode prog_6_method_29_code 75 = .ok (.iconst 1, 1) := dOk_get (q := (75, .iconst 1, 1)) ok_tb_M_isAcute_0 55 rfl
theorem d_M_isAcute_76 : decode prog_6_method_29_code 76 = .ok (.iadd, 1) := dOk_get (q := (76, .iadd, 1)) ok_tb_M_isAcute_0 56 rfl
theorem d_M_isAcute_77 : decode prog_6_method_29_code 77 = .ok (.laload, 1) := dOk_get (q := (77, .laload, 1)) ok_tb_M_isAcute_0 57 rfl
theorem d_M_isAcute_78 : decode prog_6_method_29_code 78 = .ok (.aload_n 0, 1) := dOk_get (q := (78, .aload_n 0, 1)) ok_tb_M_isAcute_0 58 rfl
theorem d_M_isAcute_79 : decode prog_6_method_29_code 79 = .ok (.getfield 29, 3) := dOk_get (q := (79, .getfield 29, 3)) ok_tb_M_isAcute_0 59 rfl
theorem d_M_isAcute_82 : decode prog_6_method_29_code 82 = .ok (.iload_n 2, 1) := dOk_get (q := (82, .iload_n 2, 1)) ok_tb_M_isAcute_0 60 rfl
theorem d_M_isAcute_83 : decode prog_6_method_29_code 83 = .ok (.laload, 1) := dOk_get (q := (83, .laload, 1)) ok_tb_M_isAcute_0 61 rfl
theorem d_M_isAcute_84 : decode prog_6_method_29_code 84 = .ok (.lsub, 1) := dOk_get (q := (84, .lsub, 1)) ok_tb_M_isAcute_0 62 rfl
theorem d_M_isAcute_85 : decode prog_6_method_29_code 85 = .ok (.lmul, 1) := dOk_get (q := (85, .lmul, 1)) ok_tb_M_isAcute_0 63 rfl
theorem d_M_isAcute_86 : decode prog_6_method_29_code 86 = .ok (.ladd, 1) := dOk_get (q := (86, .ladd, 1)) ok_tb_M_isAcute_0 64 rfl
theorem d_M_isAcute_87 : decode prog_6_method_29_code 87 = .ok (.lstore_n 3, 1) := dOk_get (q := (87, .lstore_n 3, 1)) ok_tb_M_isAcute_0 65 rfl
theorem d_M_isAcute_88 : decode prog_6_method_29_code 88 = .ok (.lload_n 3, 1) := dOk_get (q := (88, .lload_n 3, 1)) ok_tb_M_isAcute_0 66 rfl
theorem d_M_isAcute_89 : decode prog_6_method_29_code 89 = .ok (.lconst 0, 1) := dOk_get (q := (89, .lconst 0, 1)) ok_tb_M_isAcute_0 67 rfl
theorem d_M_isAcute_90 : decode prog_6_method_29_code 90 = .ok (.lcmp, 1) := dOk_get (q := (90, .lcmp, 1)) ok_tb_M_isAcute_0 68 rfl
theorem d_M_isAcute_91 : decode prog_6_method_29_code 91 = .ok (.ifCond .le 5, 3) := dOk_get (q := (91, .ifCond .le 5, 3)) ok_tb_M_isAcute_0 69 rfl
theorem d_M_isAcute_94 : decode prog_6_method_29_code 94 = .ok (.iconst 1, 1) := dOk_get (q := (94, .iconst 1, 1)) ok_tb_M_isAcute_0 70 rfl
theorem d_M_isAcute_95 : decode prog_6_method_29_code 95 = .ok (.ireturn, 1) := dOk_get (q := (95, .ireturn, 1)) ok_tb_M_isAcute_0 71 rfl
theorem d_M_isAcute_96 : decode prog_6_method_29_code 96 = .ok (.iinc 2 1, 3) := dOk_get (q := (96, .iinc 2 1, 3)) ok_tb_M_isAcute_0 72 rfl
theorem d_M_isAcute_99 : decode prog_6_method_29_code 99 = .ok (.goto (-92), 3) := dOk_get (q := (99, .goto (-92), 3)) ok_tb_M_isAcute_0 73 rfl
theorem d_M_isAcute_102 : decode prog_6_method_29_code 102 = .ok (.iconst 0, 1) := dOk_get (q := (102, .iconst 0, 1)) ok_tb_M_isAcute_0 74 rfl
theorem d_M_isAcute_103 : decode prog_6_method_29_code 103 = .ok (.ireturn, 1) := dOk_get (q := (103, .ireturn, 1)) ok_tb_M_isAcute_0 75 rfl
def tb_M_put_0 : List (Nat × Instr × Nat) := [(0, .aload_n 0, 1), (1, .getfield 168, 3), (4, .istore 4, 2), (6, .iload 4, 2), (8, .ifCond .le 64, 3), (11, .aload_n 0, 1), (12, .iload 4, 2), (14, .iconst 1, 1), (15, .isub, 1), (16, .iload_n 1, 1), (17, .iload_n 2, 1), (18, .iload_n 3, 1), (19, .invokevirtual 171, 3), (22, .ifCond .eq 50, 3), (25, .iconst 0, 1), (26, .istore 5, 2), (28, .iload 5, 2), (30, .iconst 3, 1), (31, .if_icmp .ge 35, 3), (34, .aload_n 0, 1), (35, .getfield 51, 3), (38, .iconst 3, 1), (39, .iload 4, 2), (41, .imul, 1), (42, .iload 5, 2), (44, .iadd, 1), (45, .aload_n 0, 1), (46, .getfield 51, 3), (49, .iconst 3, 1), (50, .iload 4, 2), (52, .imul, 1), (53, .iconst 3, 1), (54, .isub, 1), (55, .iload 5, 2), (57, .iadd, 1), (58, .iaload, 1), (59, .iastore, 1), (60, .iinc 5 1, 3), (63, .goto (-35), 3), (66, .iinc 4 (-1), 3), (69, .goto (-63), 3), (72, .aload_n 0, 1), (73, .getfield 51, 3), (76, .iconst 3, 1), (77, .iload 4, 2), (79, .imul, 1), (80, .iload_n 1, 1), (81, .iastore, 1), (82, .aload_n 0, 1), (83, .getfield 51, 3), (86, .iconst 3, 1), (87, .iload 4, 2), (89, .imul, 1), (90, .iconst 1, 1), (91, .iadd, 1), (92, .iload_n 2, 1), (93, .iastore, 1), (94, .aload_n 0, 1), (95, .getfield 51, 3), (98, .iconst 3, 1), (99, .iload 4, 2), (101, .imul, 1), (102, .iconst 2, 1), (103, .iadd, 1), (104, .iload_n 3, 1), (105, .iastore, 1), (106, .aload_n 0, 1), (107, .dup, 1), (108, .getfield 168, 3), (111, .iconst 1, 1), (112, .iadd, 1), (113, .putfield 168, 3), (116, .return_, 1)]
theorem ok_tb_M_put_0 : dOk prog_6_method_33_code tb_M_put_0 = true := by decide +kernel
theorem d_M_put_0 : decode prog_6_method_33_code 0 = .ok (.aload_n 0, 1) := dOk_get (q := (0, .aload_n 0, 1)) ok_tb_M_put_0 0 rfl
theorem d_M_put_1 : decode prog_6_method_33_code 1 = .ok (.getfield 168, 3) := dOk_get (q := (1, .getfield 168, 3)) ok_tb_M_put_0 1 rfl
theorem d_M_put_4 : decode prog_6_method_33_code 4 = .ok (.istore 4, 2) := dOk_get (q := (4, .istore 4, 2)) ok_tb_M_put_0 2 rfl
theorem d_M_put_6 : decode prog_6_method_33_code 6 = .ok (.iload 4, 2) := dOk_get (q := (6, .iload 4, 2)) ok_tb_M_put_0 3 rfl
theorem d_M_put_8 : decode prog_6_method_33_code 8 = .ok (.ifCond .le 64, 3) := dOk_get (q := (8, .ifCond .le 64, 3)) ok_tb_M_put_0 4 rfl
theorem d_M_put_11 : decode prog_6_method_33_code 11 = .ok (.aload_n 0, 1) := dOk_get (q := (11, .aload_n 0, 1)) ok_tb_M_put_0 5 rfl
theorem d_M_put_12 : decode prog_6_method_33_code 12 = .ok (.iload 4, 2) := dOk_get (q := (12, .iload 4, 2)) ok_tb_M_put_0 6 rfl
theorem d_M_put_14 : decode prog_6_method_33_code 14 = .ok (.iconst 1, 1) := dOk_get (q := (14, .iconst 1, 1)) ok_tb_M_put_0 7 rfl
theorem d_M_put_15 : decode prog_6_method_33_code 15 = .ok (.isub, 1) := dOk_get (q := (15, .isub, 1)) ok_tb_M_put_0 8 rfl
theorem d_M_put_16 : decode prog_6_method_33_code 16 = .ok (.iload_n 1, 1) := dOk_get (q := (16, .iload_n 1, 1)) ok_tb_M_put_0 9 rfl
theorem d_M_put_17 : decode prog_6_method_33_code 17 = .ok (.iload_n 2, 1) := dOk_get (q := (17, .iload_n 2, 1)) ok_tb_M_put_0 10 rfl
theorem d_M_put_18 : decode prog_6_method_33_code 18 = .ok (.iload_n 3, 1) := dOk_get (q := (18, .iload_n 3, 1)) ok_tb_M_put_0 11 rfl
theorem d_M_put_19 : decode prog_6_method_33_code 19 = .ok (.invokevirtual 171, 3) := dOk_get (q := (19, .invokevirtual 171, 3)) ok_tb_M_put_0 12 rfl
theorem d_M_put_22 : decode prog_6_method_33_code 22 = .ok (.ifCond .eq 50, 3) := dOk_get (q := (22, .ifCond .eq 50, 3)) ok_tb_M_put_0 13 rfl
theorem d_M_put_25 : decode prog_6_method_33_code 25 = .ok (.iconst 0, 1) := dOk_get (q := (25, .iconst 0, 1)) ok_tb_M_put_0 14 rfl
theorem d_M_put_26 : decode prog_6_method_33_code 26 = .ok (.istore 5, 2) := dOk_get (q := (26, .istore 5, 2)) ok_tb_M_put_0 15 rfl
theorem d_M_put_28 : decode prog_6_method_33_code 28 = .ok (.iload 5, 2) := dOk_get (q := (28, .iload 5, 2)) ok_tb_M_put_0 16 rfl
theorem d_M_put_30 : decode prog_6_method_33_code 30 = .ok (.iconst 3, 1) := dOk_get (q := (30, .iconst 3, 1)) ok_tb_M_put_0 17 rfl
theorem d_M_put_31 : decode prog_6_method_33_code 31 = .ok (.if_icmp .ge 35, 3) := dOk_get (q := (31, .if_icmp .ge 35, 3)) ok_tb_M_put_0 18 rfl
theorem d_M_put_34 : decode prog_6_method_33_code 34 = .ok (.aload_n 0, 1) := dOk_get (q := (34, .aload_n 0, 1)) ok_tb_M_put_0 19 rfl
theorem d_M_put_35 : decode prog_6_method_33_code 35 = .ok (.getfield 51, 3) := dOk_get (q := (35, .getfield 51, 3)) ok_tb_M_put_0 20 rfl
theorem d_M_put_38 : decode prog_6_method_33_code 38 = .ok (.iconst 3, 1) := dOk_get (q := (38, .iconst 3, 1)) ok_tb_M_put_0 21 rfl
theorem d_M_put_39 : decode prog_6_method_33_code 39 = .ok (.iload 4, 2) := dOk_get (q := (39, .iload 4, 2)) ok_tb_M_put_0 22 rfl
theorem d_M_put_41 : decode prog_6_method_33_code 41 = .ok (.imul, 1) := dOk_get (q := (41, .imul, 1)) ok_tb_M_put_0 23 rfl
theorem d_M_put_42 : decode prog_6_method_33_code 42 = .ok (.iload 5, 2) := dOk_get (q := (42, .iload 5, 2)) ok_tb_M_put_0 24 rfl
theorem d_M_put_44 : decode prog_6_method_33_code 44 = .ok (.iadd, 1) := dOk_get (q := (44, .iadd, 1)) ok_tb_M_put_0 25 rfl
theorem d_M_put_45 : decode prog_6_method_33_code 45 = .ok (.aload_n 0, 1) := dOk_get (q := (45, .aload_n 0, 1)) ok_tb_M_put_0 26 rfl
theorem d_M_put_46 : decode prog_6_method_33_code 46 = .ok (.getfield 51, 3) := dOk_get (q := (46, .getfield 51, 3)) ok_tb_M_put_0 27 rfl
theorem d_M_put_49 : decode prog_6_method_33_code 49 = .ok (.iconst 3, 1) := dOk_get (q := (49, .iconst 3, 1)) ok_tb_M_put_0 28 rfl
theorem d_M_put_50 : decode prog_6_method_33_code 50 = .ok (.iload 4, 2) := dOk_get (q := (50, .iload 4, 2)) ok_tb_M_put_0 29 rfl
theorem d_M_put_52 : decode prog_6_method_33_code 52 = .ok (.imul, 1) := dOk_get (q := (52, .imul, 1)) ok_tb_M_put_0 30 rfl
theorem d_M_put_53 : decode prog_6_method_33_code 53 = .ok (.iconst 3, 1) := dOk_get (q := (53, .iconst 3, 1)) ok_tb_M_put_0 31 rfl
theorem d_M_put_54 : decode prog_6_method_33_code 54 = .ok (.isub, 1) := dOk_get (q := (54, .isub, 1)) ok_tb_M_put_0 32 rfl
theorem d_M_put_55 : decode prog_6_method_33_code 55 = .ok (.iload 5, 2) := dOk_get (q := (55, .iload 5, 2)) ok_tb_M_put_0 33 rfl
theorem d_M_put_57 : decode prog_6_method_33_code 57 = .ok (.iadd, 1) := dOk_get (q := (57, .iadd, 1)) ok_tb_M_put_0 34 rfl
theorem d_M_put_58 : decode prog_6_method_33_code 58 = .ok (.iaload, 1) := dOk_get (q := (58, .iaload, 1)) ok_tb_M_put_0 35 rfl
theorem d_M_put_59 : decode prog_6_method_33_code 59 = .ok (.iastore, 1) := dOk_get (q := (59, .iastore, 1)) ok_tb_M_put_0 36 rfl
theorem d_M_put_60 : decode prog_6_method_33_code 60 = .ok (.iinc 5 1, 3) := dOk_get (q := (60, .iinc 5 1, 3)) ok_tb_M_put_0 37 rfl
theorem d_M_put_63 : decode prog_6_method_33_code 63 = .ok (.goto (-35), 3) := dOk_get (q := (63, .goto (-35), 3)) ok_tb_M_put_0 38 rfl
theorem d_M_put_66 : decode prog_6_method_33_code 66 = .ok (.iinc 4 (-1), 3) := dOk_get (q := (66, .iinc 4 (-1), 3)) ok_tb_M_put_0 39 rfl
theorem d_M_put_69 : decode prog_6_method_33_code 69 = .ok (.goto (-63), 3) := dOk_get (q := (69, .goto (-63), 3)) ok_tb_M_put_0 40 rfl
theorem d_M_put_72 : decode prog_6_method_33_code 72 = .ok (.aload_n 0, 1) := dOk_get (q := (72, .aload_n 0, 1)) ok_tb_M_put_0 41 rfl
theorem d_M_put_73 : decode prog_6_method_33_code 73 = .ok (.getfield 51, 3) := dOk_get (q := (73, .getfield 51, 3)) ok_tb_M_put_0 42 rfl
theorem d_M_put_76 : decode prog_6_method_33_code 76 = .ok (.iconst 3, 1) := dOk_get (q := (76, .iconst 3, 1)) ok_tb_M_put_0 43 rfl
theorem d_M_put_77 : decode prog_6_method_33_code 77 = .ok (.iload 4, 2) := dOk_get (q := (77, .iload 4, 2)) ok_tb_M_put_0 44 rfl
theorem d_M_put_79 : decode prog_6_method_33_code 79 = .ok (.imul, 1) := dOk_get (q := (79, .imul, 1)) ok_tb_M_put_0 45 rfl
theorem d_M_put_80 : decode prog_6_method_33_code 80 = .ok (.iload_n 1, 1) := dOk_get (q := (80, .iload_n 1, 1)) ok_tb_M_put_0 46 rfl
theorem d_M_put_81 : decode prog_6_method_33_code 81 = .ok (.iastore, 1) := dOk_get (q := (81, .iastore, 1)) ok_tb_M_put_0 47 rfl
theorem d_M_put_82 : decode prog_6_method_33_code 82 = .ok (.aload_n 0, 1) := dOk_get (q := (82, .aload_n 0, 1)) ok_tb_M_put_0 48 rfl
theorem d_M_put_83 : decode prog_6_method_33_code 83 = .ok (.getfield 51, 3) := dOk_get (q := (83, .getfield 51, 3)) ok_tb_M_put_0 49 rfl
theorem d_M_put_86 : decode prog_6_method_33_code 86 = .ok (.iconst 3, 1) := dOk_get (q := (86, .iconst 3, 1)) ok_tb_M_put_0 50 rfl
theorem d_M_put_87 : decode prog_6_method_33_code 87 = .ok (.iload 4, 2) := dOk_get (q := (87, .iload 4, 2)) ok_tb_M_put_0 51 rfl
theorem d_M_put_89 : decode prog_6_method_33_code 89 = .ok (.imul, 1) := dOk_get (q := (89, .imul, 1)) ok_tb_M_put_0 52 rfl
theorem d_M_put_90 : decode prog_6_method_33_code 90 = .ok (.iconst 1, 1) := dOk_get (q := (90, .iconst 1, 1)) ok_tb_M_put_0 53 rfl
theorem d_M_put_91 : decode prog_6_method_33_code 91 = .ok (.iadd, 1) := dOk_get (q := (91, .iadd, 1)) ok_tb_M_put_0 54 rfl
theorem d_M_put_92 : decode prog_6_method_33_code 92 = .ok (.iload_n 2, 1) := dOk_get (q := (92, .iload_n 2, 1)) ok_tb_M_put_0 55 rfl
theorem d_M_put_93 : decode prog_6_method_33_code 93 = .ok (.iastore, 1) := dOk_get (q := (93, .iastore, 1)) ok_tb_M_put_0 56 rfl
theorem d_M_put_94 : decode prog_6_method_33_code 94 = .ok (.aload_n 0, 1) := dOk_get (q := (94, .aload_n 0, 1)) ok_tb_M_put_0 57 rfl
theorem d_M_put_95 : decode prog_6_method_33_code 95 = .ok (.getfield 51, 3) := dOk_get (q := (95, .getfield 51, 3)) ok_tb_M_put_0 58 rfl
theorem d_M_put_98 : decode prog_6_method_33_code 98 = .ok (.iconst 3, 1) := dOk_get (q := (98, .iconst 3, 1)) ok_tb_M_put_0 59 rfl
theorem d_M_put_99 : decode prog_6_method_33_code 99 = .ok (.iload 4, 2) := dOk_get (q := (99, .iload 4, 2)) ok_tb_M_put_0 60 rfl
theorem d_M_put_101 : decode prog_6_method_33_code 101 = .ok (.imul, 1) := dOk_get (q := (101, .imul, 1)) ok_tb_M_put_0 61 rfl
theorem d_M_put_102 : decode prog_6_method_33_code 102 = .ok (.iconst 2, 1) := dOk_get (q := (102, .iconst 2, 1)) ok_tb_M_put_0 62 rfl
theorem d_M_put_103 : decode prog_6_method_33_code 103 = .ok (.iadd, 1) := dOk_get (q := (103, .iadd, 1)) ok_tb_M_put_0 63 rfl
theorem d_M_put_104 : decode prog_6_method_33_code 104 = .ok (.iload_n 3, 1) := dOk_get (q := (104, .iload_n 3, 1)) ok_tb_M_put_0 64 rfl
theorem d_M_put_105 : decode prog_6_method_33_code 105 = .ok (.iastore, 1) := dOk_get (q := (105, .iastore, 1)) ok_tb_M_put_0 65 rfl
theorem d_M_put_106 : decode prog_6_method_33_code 106 = .ok (.aload_n 0, 1) := dOk_get (q := (106, .aload_n 0, 1)) ok_tb_M_put_0 66 rfl
theorem d_M_put_107 : decode prog_6_method_33_code 107 = .ok (.dup, 1) := dOk_get (q := (107, .dup, 1)) ok_tb_M_put_0 67 rfl
theorem d_M_put_108 : decode prog_6_method_33_code 108 = .ok (.getfield 168, 3) := dOk_get (q := (108, .getfield 168, 3)) ok_tb_M_put_0 68 rfl
theorem d_M_put_111 : decode prog_6_method_33_code 111 = .ok (.iconst 1, 1) := dOk_get (q := (111, .iconst 1, 1)) ok_tb_M_put_0 69 rfl
theorem d_M_put_112 : decode prog_6_method_33_code 112 = .ok (.iadd, 1) := dOk_get (q := (112, .iadd, 1)) ok_tb_M_put_0 70 rfl
theorem d_M_put_113 : decode prog_6_method_33_code 113 = .ok (.putfield 168, 3) := dOk_get (q := (113, .putfield 168, 3)) ok_tb_M_put_0 71 rfl
theorem d_M_put_116 : decode prog_6_method_33_code 116 = .ok (.return_, 1) := dOk_get (q := (116, .return_, 1)) ok_tb_M_put_0 72 rfl
def tb_M_isBehind_0 : List (Nat × Instr × Nat) := [(0, .aload_n 0, 1), (1, .getfield 51, 3), (4, .iconst 3, 1), (5, .iload_n 1, 1), (6, .imul, 1), (7, .iconst 1, 1), (8, .iadd, 1), (9, .iaload, 1), (10, .istore 5, 2), (12, .aload_n 0, 1), (13, .getfield 13, 3), (16, .iload 5, 2), (18, .iaload, 1), (19, .aload_n 0, 1), (20, .getfield 13, 3), (23, .iload_n 3, 1), (24, .iaload, 1), (25, .isub, 1), (26, .i2l, 1), (27, .lstore 6, 2), (29, .lload 6, 2), (31, .lconst 0, 1), (32, .lcmp, 1), (33, .ifCond .eq 8, 3), (36, .lload 6, 2), (38, .goto 25, 3), (41, .aload_n 0, 1), (42, .getfield 25, 3), (45, .bipush 8, 2), (47, .iload 5, 2), (49, .imul, 1), (50, .laload, 1), (51, .aload_n 0, 1), (52, .getfield 25, 3), (55, .bipush 8, 2), (57, .iload_n 3, 1), (58, .imul, 1), (59, .laload, 1), (60, .invokestatic 165, 3), (63, .lstore 6, 2), (65, .lload 6, 2), (67, .lconst 0, 1), (68, .lcmp, 1), (69, .ifCond .eq 8, 3), (72, .lload 6, 2), (74, .goto 25, 3), (77, .aload_n 0, 1), (78, .getfield 29, 3), (81, .bipush 8, 2), (83, .iload 5, 2), (85, .imul, 1), (86, .laload, 1), (87, .aload_n 0, 1), (88, .getfield 29, 3), (91, .bipush 8, 2), (93, .iload_n 3, 1), (94, .imul, 1), (95, .laload, 1), (96, .invokestatic 165, 3), (99, .lstore 6, 2), (101, .lload 6, 2), (103, .lconst 0, 1), (104, .lcmp, 1), (105, .ifCond .eq 8, 3), (108, .lload 6, 2), (110, .goto 14, 3), (113, .aload_n 0, 1), (114, .getfield 51, 3), (117, .iconst 3, 1), (118, .iload_n 1, 1), (119, .imul, 1), (120, .iaload, 1), (121, .iload_n 2, 1), (122, .isub, 1), (123, .i2l, 1), (124, .lstore 6, 2), (126, .lload 6, 2), (128, .lconst 0, 1), (129, .lcmp, 1), (130, .ifCond .eq 8, 3), (133, .lload 6, 2), (135, .goto 8, 3), (138, .iload 5, 2), (140, .iload_n 3, 1), (141, .isub, 1), (142, .i2l, 1), (143, .lstore 6, 2), (145, .lload 6, 2), (147, .lconst 0, 1), (148, .lcmp, 1), (149, .ifCond .eq 8, 3), (152, .lload 6, 2), (154, .goto 17, 3), (157, .aload_n 0, 1), (158, .getfield 51, 3), (161, .iconst 3, 1), (162, .iload_n 1, 1), (163, .imul, 1), (164, .iconst 2, 1), (165, .iadd, 1), (166, .iaload, 1), (167, .iload 4, 2), (169, .isub, 1), (170, .i2l, 1), (171, .lstore 6, 2), (173, .lload 6, 2), (175, .lconst 0, 1), (176, .lcmp, 1), (177, .ifCond .le 7, 3), (180, .iconst 1, 1), (181, .goto 4, 3), (184, .iconst 0, 1), (185, .ireturn, 1)]
theorem ok_tb_M_isBehind_0 : dOk prog_6_method_32_code tb_M_isBehind_0 = true := by decide +kernel
theorem d_M_isBehind_0 : decode prog_6_method_32_code 0 = .ok (.aload_n 0, 1) := dOk_get (q := (0, .aload_n 0, 1)) ok_tb_M_isBehind_0 0 rfl
theorem d_M_isBehind_1 : decode prog_6_method_32_code 1 = .ok (.getfield 51, 3) := dOk_get (q := (1, .getfield 51, 3)) ok_tb_M_isBehind_0 1 rfl
theorem d_M_isBehind_4 : decode prog_6_method_32_code 4 = .ok (.iconst 3, 1) := dOk_get (q := (4, .iconst 3, 1)) ok_tb_M_isBehind_0 2 rfl
theorem d_M_isBehind_5 : decode prog_6_method_32_code 5 = .ok (.iload_n 1, 1) := dOk_get (q := (5, .iload_n 1, 1)) ok_tb_M_isBehind_0 3 rfl
theorem d_M_isBehind_6 : decode prog_6_method_32_code 6 = .ok (.imul, 1) := dOk_get (q := (6, .imul, 1)) ok_tb_M_isBehind_0 4 rfl
theorem d_M_isBehind_7 : decode prog_6_method_32_code 7 = .ok (.iconst 1, 1) := dOk_get (q := (7, .iconst 1, 1)) ok_tb_M_isBehind_0 5 rfl
theorem d_M_isBehind_8 : decode prog_6_method_32_code 8 = .ok (.iadd, 1) := dOk_get (q := (8, .iadd, 1)) ok_tb_M_isBehind_0 6 rfl
theorem d_M_isBehind_9 : decode prog_6_method_32_code 9 = .ok (.iaload, 1) := dOk_get (q := (9, .iaload, 1)) ok_tb_M_isBehind_0 7 rfl
theorem d_M_isBehind_10 : decode prog_6_method_32_code 10 = .ok (.istore 5, 2) := dOk_get (q := (10, .istore 5, 2)) ok_tb_M_isBehind_0 8 rfl
theorem d_M_isBehind_12 : decode prog_6_method_32_code 12 = .ok (.aload_n 0, 1) := dOk_get (q := (12, .aload_n 0, 1)) ok_tb_M_isBehind_0 9 rfl
theorem d_M_isBehind_13 : decode prog_6_method_32_code 13 = .ok (.getfield 13, 3) := dOk_get (q := (13, .getfield 13, 3)) ok_tb_M_isBehind_0 10 rfl
theorem d_M_isBehind_16 : decode prog_6_method_32_code 16 = .ok (.iload 5, 2) := dOk_get (q := (16, .iload 5, 2)) ok_tb_M_isBehind_0 11 rfl
theorem d_M_isBehind_18 : decode prog_6_method_32_code 18 = .ok (.iaload, 1) := dOk_get (q := (18, .iaload, 1)) ok_tb_M_isBehind_0 12 rfl
theorem d_M_isBehind_19 : decode prog_6_method_32_code 19 = .ok (.aload_n 0, 1) := dOk_get (q := (19, .aload_n 0, 1)) ok_tb_M_isBehind_0 13 rfl
theorem d_M_isBehind_20 : decode prog_6_method_32_code 20 = .ok (.getfield 13, 3) := dOk_get (q := (20, .getfield 13, 3)) ok_tb_M_isBehind_0 14 rfl
theorem d_M_isBehind_23 : decode prog_6_method_32_code 23 = .ok (.iload_n 3, 1) := dOk_get (q := (23, .iload_n 3, 1)) ok_tb_M_isBehind_0 15 rfl
theorem d_M_isBehind_24 : decode prog_6_method_32_code 24 = .ok (.iaload, 1) := dOk_get (q := (24, .iaload, 1)) ok_tb_M_isBehind_0 16 rfl
theorem d_M_isBehind_25 : decode prog_6_method_32_code 25 = .ok (.isub, 1) := dOk_get (q := (25, .isub, 1)) ok_tb_M_isBehind_0 17 rfl
theorem d_M_isBehind_26 : decode prog_6_method_32_code 26 = .ok (.i2l, 1) := dOk_get (q := (26, .i2l, 1)) ok_tb_M_isBehind_0 18 rfl
theorem d_M_isBehind_27 : decode prog_6_method_32_code 27 = .ok (.lstore 6, 2) := dOk_get (q := (27, .lstore 6, 2)) ok_tb_M_isBehind_0 19 rfl
theorem d_M_isBehind_29 : decode prog_6_method_32_code 29 = .ok (.lload 6, 2) := dOk_get (q := (29, .lload 6, 2)) ok_tb_M_isBehind_0 20 rfl
theorem d_M_isBehind_31 : decode prog_6_method_32_code 31 = .ok (.lconst 0, 1) := dOk_get (q := (31, .lconst 0, 1)) ok_tb_M_isBehind_0 21 rfl
theorem d_M_isBehind_32 : decode prog_6_method_32_code 32 = .ok (.lcmp, 1) := dOk_get (q := (32, .lcmp, 1)) ok_tb_M_isBehind_0 22 rfl
theorem d_M_isBehind_33 : decode prog_6_method_32_code 33 = .ok (.ifCond .eq 8, 3) := dOk_get (q := (33, .ifCond .eq 8, 3)) ok_tb_M_isBehind_0 23 rfl
theorem d_M_isBehind_36 : decode prog_6_method_32_code 36 = .ok (.lload 6, 2) := dOk_get (q := (36, .lload 6, 2)) ok_tb_M_isBehind_0 24 rfl
theorem d_M_isBehind_38 : decode prog_6_method_32_code 38 = .ok (.goto 25, 3) := dOk_get (q := (38, .goto 25, 3)) ok_tb_M_isBehind_0 25 rfl
theorem d_M_isBehind_41 : decode prog_6_method_32_code 41 = .ok (.aload_n 0, 1) := dOk_get (q := (41, .aload_n 0, 1)) ok_tb_M_isBehind_0 26 rfl
theorem d_M_isBehind_42 : decode prog_6_method_32_code 42 = .ok (.getfield 25, 3) := dOk_get (q := (42, .getfield 25, 3)) ok_tb_M_isBehind_0 27 rfl
theorem d_M_isBehind_45 : decode prog_6_method_32_code 45 = .ok (.bipush 8, 2) := dOk_get (q := (45, .bipush 8, 2)) ok_tb_M_isBehind_0 28 rfl
theorem d_M_isBehind_47 : decode prog_6_method_32_code 47 = .ok (.iload 5, 2) := dOk_get (q := (47, .iload 5, 2)) ok_tb_M_isBehind_0 29 rfl
theorem d_M_isBehind_49 : decode prog_6_method_32_code 49 = .ok (.imul, 1) := dOk_get (q := (49, .imul, 1)) ok_tb_M_isBehind_0 30 rfl
theorem d_M_isBehind_50 : decode prog_6_method_32_code 50 = .ok (.laload, 1) := dOk_get (q := (50, .laload, 1)) ok_tb_M_isBehind_0 31 rfl
theorem d_M_isBehind_51 : decode prog_6_method_32_code 51 = .ok (.aload_n 0, 1) := dOk_get (q := (51, .aload_n 0, 1)) ok_tb_M_isBehind_0 32 rfl
theorem d_M_isBehind_52 : decode prog_6_method_32_code 52 = .ok (.getfield 25, 3) := dOk_get (q := (52, .getfield 25, 3)) ok_tb_M_isBehind_0 33 rfl
theorem d_M_isBehind_55 : decode prog_6_method_32_code 55 = .ok (.bipush 8, 2) := dOk_get (q := (55, .bipush 8, 2)) ok_tb_M_isBehind_0 34 rfl
theorem d_M_isBehind_57 : decode prog_6_method_32_code 57 = .ok (.iload_n 3, 1) := dOk_get (q := (57, .iload_n 3, 1)) ok_tb_M_isBehind_0 35 rfl
theorem d_M_isBehind_58 : decode prog_6_method_32_code 58 = .ok (.imul, 1) := dOk_get (q := (58, .imul, 1)) ok_tb_M_isBehind_0 36 rfl
theorem d_M_isBehind_59 : decode prog_6_method_32_code 59 = .ok (.laload, 1) := dOk_get (q := (59, .laload, 1)) ok_tb_M_isBehind_0 37 rfl
theorem d_M_isBehind_60 : decode prog_6_method_32_code 60 = .ok (.invokestatic 165, 3) := dOk_get (q := (60, .invokestatic 165, 3)) ok_tb_M_isBehind_0 38 rfl
theorem d_M_isBehind_63 : decode prog_6_method_32_code 63 = .ok (.lstore 6, 2) := dOk_get (q := (63, .lstore 6, 2)) ok_tb_M_isBehind_0 39 rfl
theorem d_M_isBehind_65 : decode prog_6_method_32_code 65 = .ok (.lload 6, 2) := dOk_get (q := (65, .lload 6, 2)) ok_tb_M_isBehind_0 40 rfl
theorem d_M_isBehind_67 : decode prog_6_method_32_code 67 = .ok (.lconst 0, 1) := dOk_get (q := (67, .lconst 0, 1)) ok_tb_M_isBehind_0 41 rfl
theorem d_M_isBehind_68 : decode prog_6_method_32_code 68 = .ok (.lcmp, 1) := dOk_get (q := (68, .lcmp, 1)) ok_tb_M_isBehind_0 42 rfl
theorem d_M_isBehind_69 : decode prog_6_method_32_code 69 = .ok (.ifCond .eq 8, 3) := dOk_get (q := (69, .ifCond .eq 8, 3)) ok_tb_M_isBehind_0 43 rfl
theorem d_M_isBehind_72 : decode prog_6_method_32_code 72 = .ok (.lload 6, 2) := dOk_get (q := (72, .lload 6, 2)) ok_tb_M_isBehind_0 44 rfl
theorem d_M_isBehind_74 : decode prog_6_method_32_code 74 = .ok (.goto 25, 3) := dOk_get (q := (74, .goto 25, 3)) ok_tb_M_isBehind_0 45 rfl
theorem d_M_isBehind_77 : decode prog_6_method_32_code 77 = .ok (.aload_n 0, 1) := dOk_get (q := (77, .aload_n 0, 1)) ok_tb_M_isBehind_0 46 rfl
theorem d_M_isBehind_78 : decode prog_6_method_32_code 78 = .ok (.getfield 29, 3) := dOk_get (q := (78, .getfield 29, 3)) ok_tb_M_isBehind_0 47 rfl
theorem d_M_isBehind_81 : decode prog_6_method_32_code 81 = .ok (.bipush 8, 2) := dOk_get (q := (81, .bipush 8, 2)) ok_tb_M_isBehind_0 48 rfl
theorem d_M_isBehind_83 : decode prog_6_method_32_code 83 = .ok (.iload 5, 2) := dOk_get (q := (83, .iload 5, 2)) ok_tb_M_isBehind_0 49 rfl
theorem d_M_isBehind_85 : decode prog_6_method_32_code 85 = .ok (.imul, 1) := dOk_get (q := (85, .imul, 1)) ok_tb_M_isBehind_0 50 rfl
theorem d_M_isBehind_86 : decode prog_6_method_32_code 86 = .ok (.laload, 1) := dOk_get (q := (86, .laload, 1)) ok_tb_M_isBehind_0 51 rfl
theorem d_M_isBehind_87 : decode prog_6_method_32_code 87 = .ok (.aload_n 0, 1) := dOk_get (q := (87, .aload_n 0, 1)) ok_tb_M_isBehind_0 52 rfl
theorem d_M_isBehind_88 : decode prog_6_method_32_code 88 = .ok (.getfield 29, 3) := dOk_get (q := (88, .getfield 29, 3)) ok_tb_M_isBehind_0 53 rfl
theorem d_M_isBehind_91 : decode prog_6_method_32_code 91 = .ok (.bipush 8, 2) := dOk_get (q := (91, .bipush 8, 2)) ok_tb_M_isBehind_0 54 rfl
theorem d_M_isBehind_93 : decode prog_6_method_32_code 93 = .ok (.iload_n 3, 1) := dOk_get (q := (93, .iload_n 3, 1)) ok_tb_M_isBehind_0 55 rfl
theorem d_M_isBehind_94 : decode prog_6_method_32_code 94 = .ok (.imul, 1) := dOk_get (q := (94, .imul, 1)) ok_tb_M_isBehind_0 56 rfl
theorem d_M_isBehind_95 : decode prog_6_method_32_code 95 = .ok (.laload, 1) := dOk_get (q := (95, .laload, 1)) ok_tb_M_isBehind_0 57 rfl
theorem d_M_isBehind_96 : decode prog_6_method_32_code 96 = .ok (.invokestatic 165, 3) := dOk_get (q := (96, .invokestatic 165, 3)) ok_tb_M_isBehind_0 58 rfl
theorem d_M_isBehind_99 : decode prog_6_method_32_code 99 = .ok (.lstore 6, 2) := dOk_get (q := (99, .lstore 6, 2)) ok_tb_M_isBehind_0 59 rfl
theorem d_M_isBehind_101 : decode prog_6_method_32_code 101 = .ok (.lload 6, 2) := dOk_get (q := (101, .lload 6, 2)) ok_tb_M_isBehind_0 60 rfl
theorem d_M_isBehind_103 : decode prog_6_method_32_code 103 = .ok (.lconst 0, 1) := dOk_get (q := (103, .lconst 0, 1)) ok_tb_M_isBehind_0 61 rfl
theorem d_M_isBehind_104 : decode prog_6_method_32_code 104 = .ok (.lcmp, 1) := dOk_get (q := (104, .lcmp, 1)) ok_tb_M_isBehind_0 62 rfl
theorem d_M_isBehind_105 : decode prog_6_method_32_code 105 = .ok (.ifCond .eq 8, 3) := dOk_get (q := (105, .ifCond .eq 8, 3)) ok_tb_M_isBehind_0 63 rfl
theorem d_M_isBehind_108 : decode prog_6_method_32_code 108 = .ok (.lload 6, 2) := dOk_get (q := (108, .lload 6, 2)) ok_tb_M_isBehind_0 64 rfl
theorem d_M_isBehind_110 : decode prog_6_method_32_code 110 = .ok (.goto 14, 3) := dOk_get (q := (110, .goto 14, 3)) ok_tb_M_isBehind_0 65 rfl
theorem d_M_isBehind_113 : decode prog_6_method_32_code 113 = .ok (.aload_n 0, 1) := dOk_get (q := (113, .aload_n 0, 1)) ok_tb_M_isBehind_0 66 rfl
theorem d_M_isBehind_114 : decode prog_6_method_32_code 114 = .ok (.getfield 51, 3) := dOk_get (q := (114, .getfield 51, 3)) ok_tb_M_isBehind_0 67 rfl
theorem d_M_isBehind_117 : decode prog_6_method_32_code 117 = .ok (.iconst 3, 1) := dOk_get (q := (117, .iconst 3, 1)) ok_tb_M_isBehind_0 68 rfl
theorem d_M_isBehind_118 : decode prog_6_method_32_code 118 = .ok (.iload_n 1, 1) := dOk_get (q := (118, .iload_n 1, 1)) ok_tb_M_isBehind_0 69 rfl
theorem d_M_isBehind_119 : decode prog_6_method_32_code 119 = .ok (.imul, 1) := dOk_get (q := (119, .imul, 1)) ok_tb_M_isBehind_0 70 rfl
theorem d_M_isBehind_120 : decode prog_6_method_32_code 120 = .ok (.iaload, 1) := dOk_get (q := (120, .iaload, 1)) ok_tb_M_isBehind_0 71 rfl
theorem d_M_isBehind_121 : decode prog_6_method_32_code 121 = .ok (.iload_n 2, 1) := dOk_get (q := (121, .iload_n 2, 1)) ok_tb_M_isBehind_0 72 rfl
theorem d_M_isBehind_122 : decode prog_6_method_32_code 122 = .ok (.isub, 1) := dOk_get (q := (122, .isub, 1)) ok_tb_M_isBehind_0 73 rfl
theorem d_M_isBehind_123 : decode prog_6_method_32_code 123 = .ok (.i2l, 1) := dOk_get (q := (123, .i2l, 1)) ok_tb_M_isBehind_0 74 rfl
theorem d_M_isBehind_124 : decode prog_6_method_32_code 124 = .ok (.lstore 6, 2) := dOk_get (q := (124, .lstore 6, 2)) ok_tb_M_isBehind_0 75 rfl
theorem d_M_isBehind_126 : decode prog_6_method_32_code 126 = .ok (.lload 6, 2) := dOk_get (q := (126, .lload 6, 2)) ok_tb_M_isBehind_0 76 rfl
theorem d_M_isBehind_128 : decode prog_6_method_32_code 128 = .ok (.lconst 0, 1) := dOk_get (q := (128, .lconst 0, 1)) ok_tb_M_isBehind_0 77 rfl
theorem d_M_isBehind_129 : decode prog_6_method_32_code 129 = .ok (.lcmp, 1) := dOk_get (q := (129, .lcmp, 1)) ok_tb_M_isBehind_0 78 rfl
theorem d_M_isBehind_130 : decode prog_6_method_32_code 130 = .ok (.ifCond .eq 8, 3) := dOk_get (q := (130, .ifCond .eq 8, 3)) ok_tb_M_isBehind_0 79 rfl
theorem d_M_isBehind_133 : decode prog_6_method_32_code 133 = .ok (.lload 6, 2) := dOk_get (q := (133, .lload 6, 2)) ok_tb_M_isBehind_0 80 rfl
theorem d_M_isBehind_135 : decode prog_6_method_32_code 135 = .ok (.goto 8, 3) := dOk_get (q := (135, .goto 8, 3)) ok_tb_M_isBehind_0 81 rfl
theorem d_M_isBehind_138 : decode prog_6_method_32_code 138 = .ok (.iload 5, 2) := dOk_get (q := (138, .iload 5, 2)) ok_tb_M_isBehind_0 82 rfl
theorem d_M_isBehind_140 : decode prog_6_method_32_code 140 = .ok (.iload_n 3, 1) := dOk_get (q := (140, .iload_n 3, 1)) ok_tb_M_isBehind_0 83 rfl
theorem d_M_isBehind_141 : decode prog_6_method_32_code 141 = .ok (.isub, 1) := dOk_get (q := (141, .isub, 1)) ok_tb_M_isBehind_0 84 rfl
theorem d_M_isBehind_142 : decode prog_6_method_32_code 142 = .ok (.i2l, 1) := dOk_get (q := (142, .i2l, 1)) ok_tb_M_isBehind_0 85 rfl
theorem d_M_isBehind_143 : decode prog_6_method_32_code 143 = .ok (.lstore 6, 2) := dOk_get (q := (143, .lstore 6, 2)) ok_tb_M_isBehind_0 86 rfl
theorem d_M_isBehind_145 : decode prog_6_method_32_code 145 = .ok (.lload 6, 2) := dOk_get (q := (145, .lload 6, 2)) ok_tb_M_isBehind_0 87 rfl
theorem d_M_isBehind_147 : decode prog_6_method_32_code 147 = .ok (.lconst 0, 1) := dOk_get (q := (147, .lconst 0, 1)) ok_tb_M_isBehind_0 88 rfl
theorem d_M_isBehind_148 : decode prog_6_method_32_code 148 = .ok (.lcmp, 1) := dOk_get (q := (148, .lcmp, 1)) ok_tb_M_isBehind_0 89 rfl
theorem d_M_isBehind_149 : decode prog_6_method_32_code 149 = .ok (.ifCond .eq 8, 3) := dOk_get (q := (149, .ifCond .eq 8, 3)) ok_tb_M_isBehind_0 90 rfl
theorem d_M_isBehind_152 : decode prog_6_method_32_code 152 = .ok (.lload 6, 2) := dOk_get (q := (152, .lload 6, 2)) ok_tb_M_isBehind_0 91 rfl
theorem d_M_isBehind_154 : decode prog_6_method_32_code 154 = .ok (.goto 17, 3) := dOk_get (q := (154, .goto 17, 3)) ok_tb_M_isBehind_0 92 rfl
theorem d_M_isBehind_157 : decode prog_6_method_32_code 157 = .ok (.aload_n 0, 1) := dOk_get (q := (157, .aload_n 0, 1)) ok_tb_M_isBehind_0 93 rfl
theorem d_M_isBehind_158 : decode prog_6_method_32_code 158 = .ok (.getfield 51, 3) := dOk_get (q := (158, .getfield 51, 3)) ok_tb_M_isBehind_0 94 rfl
theorem d_M_isBehind_161 : decode prog_6_method_32_code 161 = .ok (.iconst 3, 1) := dOk_get (q := (161, .iconst 3, 1)) ok_tb_M_isBehind_0 95 rfl
theorem d_M_isBehind_162 : decode prog_6_method_32_code 162 = .ok (.iload_n 1, 1) := dOk_get (q := (162, .iload_n 1, 1)) ok_tb_M_isBehind_0 96 rfl
theorem d_M_isBehind_163 : decode prog_6_method_32_code 163 = .ok (.imul, 1) := dOk_get (q := (163, .imul, 1)) ok_tb_M_isBehind_0 97 rfl
theorem d_M_isBehind_164 : decode prog_6_method_32_code 164 = .ok (.iconst 2, 1) := dOk_get (q := (164, .iconst 2, 1)) ok_tb_M_isBehind_0 98 rfl
theorem d_M_isBehind_165 : decode prog_6_method_32_code 165 = .ok (.iadd, 1) := dOk_get (q := (165, .iadd, 1)) ok_tb_M_isBehind_0 99 rfl
theorem d_M_isBehind_166 : decode prog_6_method_32_code 166 = .ok (.iaload, 1) := dOk_get (q := (166, .iaload, 1)) ok_tb_M_isBehind_0 100 rfl
theorem d_M_isBehind_167 : decode prog_6_method_32_code 167 = .ok (.iload 4, 2) := dOk_get (q := (167, .iload 4, 2)) ok_tb_M_isBehind_0 101 rfl
theorem d_M_isBehind_169 : decode prog_6_method_32_code 169 = .ok (.isub, 1) := dOk_get (q := (169, .isub, 1)) ok_tb_M_isBehind_0 102 rfl
theorem d_M_isBehind_170 : decode prog_6_method_32_code 170 = .ok (.i2l, 1) := dOk_get (q := (170, .i2l, 1)) ok_tb_M_isBehind_0 103 rfl
theorem d_M_isBehind_171 : decode prog_6_method_32_code 171 = .ok (.lstore 6, 2) := dOk_get (q := (171, .lstore 6, 2)) ok_tb_M_isBehind_0 104 rfl
theorem d_M_isBehind_173 : decode prog_6_method_32_code 173 = .ok (.lload 6, 2) := dOk_get (q := (173, .lload 6, 2)) ok_tb_M_isBehind_0 105 rfl
theorem d_M_isBehind_175 : decode prog_6_method_32_code 175 = .ok (.lconst 0, 1) := dOk_get (q := (175, .lconst 0, 1)) ok_tb_M_isBehind_0 106 rfl
theorem d_M_isBehind_176 : decode prog_6_method_32_code 176 = .ok (.lcmp, 1) := dOk_get (q := (176, .lcmp, 1)) ok_tb_M_isBehind_0 107 rfl
theorem d_M_isBehind_177 : decode prog_6_method_32_code 177 = .ok (.ifCond .le 7, 3) := dOk_get (q := (177, .ifCond .le 7, 3)) ok_tb_M_isBehind_0 108 rfl
theorem d_M_isBehind_180 : decode prog_6_method_32_code 180 = .ok (.iconst 1, 1) := dOk_get (q := (180, .iconst 1, 1)) ok_tb_M_isBehind_0 109 rfl
theorem d_M_isBehind_181 : decode prog_6_method_32_code 181 = .ok (.goto 4, 3) := dOk_get (q := (181, .goto 4, 3)) ok_tb_M_isBehind_0 110 rfl
theorem d_M_isBehind_184 : decode prog_6_method_32_code 184 = .ok (.iconst 0, 1) := dOk_get (q := (184, .iconst 0, 1)) ok_tb_M_isBehind_0 111 rfl
theorem d_M_isBehind_185 : decode prog_6_method_32_code 185 = .ok (.ireturn, 1) := dOk_get (q := (185, .ireturn, 1)) ok_tb_M_isBehind_0 112 rfl
def tb_M_rank_0 : List (Nat × Instr × Nat) := [(0, .lload_n 0, 1), (1, .lload_n 2, 1), (2, .lcmp, 1), (3, .ifCond .ge 9, 3), (6, .ldc2_w 163, 3), (9, .goto 14, 3), (12, .lload_n 0, 1), (13, .lload_n 2, 1), (14, .lcmp, 1), (15, .ifCond .le 7, 3), (18, .lconst 1, 1), (19, .goto 4, 3), (22, .lconst 0, 1), (23, .lreturn, 1)]
theorem ok_tb_M_rank_0 : dOk prog_6_method_31_code tb_M_rank_0 = true := by decide +kernel
theorem d_M_rank_0 : decode prog_6_method_31_code 0 = .ok (.lload_n 0, 1) := dOk_get (q := (0, .lload_n 0, 1)) ok_tb_M_rank_0 0 rfl
theorem d_M_rank_1 : decode prog_6_method_31_code 1 = .ok (.lload_n 2, 1) := dOk_get (q := (1, .lload_n 2, 1)) ok_tb_M_rank_0 1 rfl
theorem d_M_rank_2 : decode prog_6_method_31_code 2 = .ok (.lcmp, 1) := dOk_get (q := (2, .lcmp, 1)) ok_tb_M_rank_0 2 rfl
theorem d_M_rank_3 : decode prog_6_method_31_code 3 = .ok (.ifCond .ge 9, 3) := dOk_get (q := (3, .ifCond .ge 9, 3)) ok_tb_M_rank_0 3 rfl
theorem d_M_rank_6 : decode prog_6_method_31_code 6 = .ok (.ldc2_w 163, 3) := dOk_get (q := (6, .ldc2_w 163, 3)) ok_tb_M_rank_0 4 rfl
theorem d_M_rank_9 : decode prog_6_method_31_code 9 = .ok (.goto 14, 3) := dOk_get (q := (9, .goto 14, 3)) ok_tb_M_rank_0 5 rfl
theorem d_M_rank_12 : decode prog_6_method_31_code 12 = .ok (.lload_n 0, 1) := dOk_get (q := (12, .lload_n 0, 1)) ok_tb_M_rank_0 6 rfl
theorem d_M_rank_13 : decode prog_6_method_31_code 13 = .ok (.lload_n 2, 1) := dOk_get (q := (13, .lload_n 2, 1)) ok_tb_M_rank_0 7 rfl
theorem d_M_rank_14 : decode prog_6_method_31_code 14 = .ok (.lcmp, 1) := dOk_get (q := (14, .lcmp, 1)) ok_tb_M_rank_0 8 rfl
theorem d_M_rank_15 : decode prog_6_method_31_code 15 = .ok (.ifCond .le 7, 3) := dOk_get (q := (15, .ifCond .le 7, 3)) ok_tb_M_rank_0 9 rfl
theorem d_M_rank_18 : decode prog_6_method_31_code 18 = .ok (.lconst 1, 1) := dOk_get (q := (18, .lconst 1, 1)) ok_tb_M_rank_0 10 rfl
theorem d_M_rank_19 : decode prog_6_method_31_code 19 = .ok (.goto 4, 3) := dOk_get (q := (19, .goto 4, 3)) ok_tb_M_rank_0 11 rfl
theorem d_M_rank_22 : decode prog_6_method_31_code 22 = .ok (.lconst 0, 1) := dOk_get (q := (22, .lconst 0, 1)) ok_tb_M_rank_0 12 rfl
theorem d_M_rank_23 : decode prog_6_method_31_code 23 = .ok (.lreturn, 1) := dOk_get (q := (23, .lreturn, 1)) ok_tb_M_rank_0 13 rfl
def tb_M_isFor_0 : List (Nat × Instr × Nat) := [(0, .iload_n 1, 1), (1, .lookupswitch 99 #[(0, 27), (2, 73)], 27), (28, .aload_n 0, 1), (29, .iload_n 2, 1), (30, .invokevirtual 141, 3), (33, .ifCond .eq 39, 3), (36, .aload_n 0, 1), (37, .iload_n 3, 1), (38, .invokevirtual 141, 3), (41, .ifCond .eq 31, 3), (44, .aload_n 0, 1), (45, .getfield 13, 3), (48, .iload_n 2, 1), (49, .iaload, 1), (50, .aload_n 0, 1), (51, .getfield 13, 3), (54, .iload_n 3, 1), (55, .iaload, 1), (56, .if_icmp .ne 16, 3), (59, .aload_n 0, 1), (60, .iload_n 2, 1), (61, .iload_n 3, 1), (62, .invokevirtual 144, 3), (65, .ifCond .ne 7, 3), (68, .iconst 1, 1), (69, .goto 4, 3), (72, .iconst 0, 1), (73, .ireturn, 1), (74, .aload_n 0, 1), (75, .getfield 16, 3), (78, .iload_n 2, 1), (79, .iaload, 1), (80, .iconst 2, 1), (81, .if_icmp .ne 17, 3), (84, .aload_n 0, 1), (85, .getfield 16, 3), (88, .iload_n 3, 1), (89, .iaload, 1), (90, .iconst 2, 1), (91, .if_icmp .ne 7, 3), (94, .iconst 1, 1), (95, .goto 4, 3), (98, .iconst 0, 1), (99, .ireturn, 1), (100, .aload_n 0, 1), (101, .getfield 13, 3), (104, .iload_n 2, 1), (105, .iaload, 1), (106, .aload_n 0, 1), (107, .getfield 13, 3), (110, .iload_n 3, 1), (111, .iaload, 1), (112, .if_icmp .ne 47, 3), (115, .aload_n 0, 1), (116, .getfield 16, 3), (119, .iload_n 2, 1), (120, .iaload, 1), (121, .iconst 3, 1), (122, .if_icmp .ne 13, 3), (125, .aload_n 0, 1), (126, .getfield 16, 3), (129, .iload_n 3, 1), (130, .iaload, 1), (131, .iconst 1, 1), (132, .if_icmp .eq 23, 3), (135, .aload_n 0, 1), (136, .getfield 16, 3), (139, .iload_n 2, 1), (140, .iaload, 1), (141, .iconst 1, 1), (142, .if_icmp .ne 17, 3), (145, .aload_n 0, 1), (146, .getfield 16, 3), (149, .iload_n 3, 1), (150, .iaload, 1), (151, .iconst 3, 1), (152, .if_icmp .ne 7, 3), (155, .iconst 1, 1), (156, .goto 4, 3), (159, .iconst 0, 1), (160, .ireturn, 1)]
theorem ok_tb_M_isFor_0 : dOk prog_6_method_26_code tb_M_isFor_0 = true := by decide +kernel
theorem d_M_isFor_0 : decode prog_6_method_26_code 0 = .ok (.iload_n 1, 1) := dOk_get (q := (0, .iload_n 1, 1)) ok_tb_M_isFor_0 0 rfl
theorem d_M_isFor_1 : decode prog_6_method_26_code 1 = .ok (.lookupswitch 99 #[(0, 27), (2, 73)], 27) := dOk_get (q := (1, .lookupswitch 99 #[(0, 27), (2, 73)], 27)) ok_tb_M_isFor_0 1 rfl
theorem d_M_isFor_28 : decode prog_6_method_26_code 28 = .ok (.aload_n 0, 1) := dOk_get (q := (28, .aload_n 0, 1)) ok_tb_M_isFor_0 2 rfl
theorem d_M_isFor_29 : decode prog_6_method_26_code 29 = .ok (.iload_n 2, 1) := dOk_get (q := (29, .iload_n 2, 1)) ok_tb_M_isFor_0 3 rfl
theorem d_M_isFor_30 : decode prog_6_method_26_code 30 = .ok (.invokevirtual 141, 3) := dOk_get (q := (30, .invokevirtual 141, 3)) ok_tb_M_isFor_0 4 rfl
theorem d_M_isFor_33 : decode prog_6_method_26_code 33 = .ok (.ifCond .eq 39, 3) := dOk_get (q := (33, .ifCond .eq 39, 3)) ok_tb_M_isFor_0 5 rfl
theorem d_M_isFor_36 : decode prog_6_method_26_code 36 = .ok (.aload_n 0, 1) := dOk_get (q := (36, .aload_n 0, 1)) ok_tb_M_isFor_0 6 rfl
theorem d_M_isFor_37 : decode prog_6_method_26_code 37 = .ok (.iload_n 3, 1) := dOk_get (q := (37, .iload_n 3, 1)) ok_tb_M_isFor_0 7 rfl
theorem d_M_isFor_38 : decode prog_6_method_26_code 38 = .ok (.invokevirtual 141, 3) := dOk_get (q := (38, .invokevirtual 141, 3)) ok_tb_M_isFor_0 8 rfl
theorem d_M_isFor_41 : decode prog_6_method_26_code 41 = .ok (.ifCond .eq 31, 3) := dOk_get (q := (41, .ifCond .eq 31, 3)) ok_tb_M_isFor_0 9 rfl
theorem d_M_isFor_44 : decode prog_6_method_26_code 44 = .ok (.aload_n 0, 1) := dOk_get (q := (44, .aload_n 0, 1)) ok_tb_M_isFor_0 10 rfl
theorem d_M_isFor_45 : decode prog_6_method_26_code 45 = .ok (.getfield 13, 3) := dOk_get (q := (45, .getfield 13, 3)) ok_tb_M_isFor_0 11 rfl
theorem d_M_isFor_48 : decode prog_6_method_26_code 48 = .ok (.iload_n 2, 1) := dOk_get (q := (48, .iload_n 2, 1)) ok_tb_M_isFor_0 12 rfl
theorem d_M_isFor_49 : decode prog_6_method_26_code 49 = .ok (.iaload, 1) := dOk_get (q := (49, .iaload, 1)) ok_tb_M_isFor_0 13 rfl
theorem d_M_isFor_50 : decode prog_6_method_26_code 50 = .ok (.aload_n 0, 1) := dOk_get (q := (50, .aload_n 0, 1)) ok_tb_M_isFor_0 14 rfl
theorem d_M_isFor_51 : decode prog_6_method_26_code 51 = .ok (.getfield 13, 3) := dOk_get (q := (51, .getfield 13, 3)) ok_tb_M_isFor_0 15 rfl
theorem d_M_isFor_54 : decode prog_6_method_26_code 54 = .ok (.iload_n 3, 1) := dOk_get (q := (54, .iload_n 3, 1)) ok_tb_M_isFor_0 16 rfl
theorem d_M_isFor_55 : decode prog_6_method_26_code 55 = .ok (.iaload, 1) := dOk_get (q := (55, .iaload, 1)) ok_tb_M_isFor_0 17 rfl
theorem d_M_isFor_56 : decode prog_6_method_26_code 56 = .ok (.if_icmp .ne 16, 3) := dOk_get (q := (56, .if_icmp .ne 16, 3)) ok_tb_M_isFor_0 18 rfl
theorem d_M_isFor_59 : decode prog_6_method_26_code 59 = .ok (.aload_n 0, 1) := dOk_get (q := (59, .aload_n 0, 1)) ok_tb_M_isFor_0 19 rfl
theorem d_M_isFor_60 : decode prog_6_method_26_code 60 = .ok (.iload_n 2, 1) := dOk_get (q := (60, .iload_n 2, 1)) ok_tb_M_isFor_0 20 rfl
theorem d_M_isFor_61 : decode prog_6_method_26_code 61 = .ok (.iload_n 3, 1) := dOk_get (q := (61, .iload_n 3, 1)) ok_tb_M_isFor_0 21 rfl
theorem d_M_isFor_62 : decode prog_6_method_26_code 62 = .ok (.invokevirtual 144, 3) := dOk_get (q := (62, .invokevirtual 144, 3)) ok_tb_M_isFor_0 22 rfl
theorem d_M_isFor_65 : decode prog_6_method_26_code 65 = .ok (.ifCond .ne 7, 3) := dOk_get (q := (65, .ifCond .ne 7, 3)) ok_tb_M_isFor_0 23 rfl
theorem d_M_isFor_68 : decode prog_6_method_26_code 68 = .ok (.iconst 1, 1) := dOk_get (q := (68, .iconst 1, 1)) ok_tb_M_isFor_0 24 rfl
theorem d_M_isFor_69 : decode prog_6_method_26_code 69 = .ok (.goto 4, 3) := dOk_get (q := (69, .goto 4, 3)) ok_tb_M_isFor_0 25 rfl
theorem d_M_isFor_72 : decode prog_6_method_26_code 72 = .ok (.iconst 0, 1) := dOk_get (q := (72, .iconst 0, 1)) ok_tb_M_isFor_0 26 rfl
theorem d_M_isFor_73 : decode prog_6_method_26_code 73 = .ok (.ireturn, 1) := dOk_get (q := (73, .ireturn, 1)) ok_tb_M_isFor_0 27 rfl
theorem d_M_isFor_74 : decode prog_6_method_26_code 74 = .ok (.aload_n 0, 1) := dOk_get (q := (74, .aload_n 0, 1)) ok_tb_M_isFor_0 28 rfl
theorem d_M_isFor_75 : decode prog_6_method_26_code 75 = .ok (.getfield 16, 3) := dOk_get (q := (75, .getfield 16, 3)) ok_tb_M_isFor_0 29 rfl
theorem d_M_isFor_78 : decode prog_6_method_26_code 78 = .ok (.iload_n 2, 1) := dOk_get (q := (78, .iload_n 2, 1)) ok_tb_M_isFor_0 30 rfl
theorem d_M_isFor_79 : decode prog_6_method_26_code 79 = .ok (.iaload, 1) := dOk_get (q := (79, .iaload, 1)) ok_tb_M_isFor_0 31 rfl
theorem d_M_isFor_80 : decode prog_6_method_26_code 80 = .ok (.iconst 2, 1) := dOk_get (q := (80, .iconst 2, 1)) ok_tb_M_isFor_0 32 rfl
theorem d_M_isFor_81 : decode prog_6_method_26_code 81 = .ok (.if_icmp .ne 17, 3) := dOk_get (q := (81, .if_icmp .ne 17, 3)) ok_tb_M_isFor_0 33 rfl
theorem d_M_isFor_84 : decode prog_6_method_26_code 84 = .ok (.aload_n 0, 1) := dOk_get (q := (84, .aload_n 0, 1)) ok_tb_M_isFor_0 34 rfl
theorem d_M_isFor_85 : decode prog_6_method_26_code 85 = .ok (.getfield 16, 3) := dOk_get (q := (85, .getfield 16, 3)) ok_tb_M_isFor_0 35 rfl
theorem d_M_isFor_88 : decode prog_6_method_26_code 88 = .ok (.iload_n 3, 1) := dOk_get (q := (88, .iload_n 3, 1)) ok_tb_M_isFor_0 36 rfl
theorem d_M_isFor_89 : decode prog_6_method_26_code 89 = .ok (.iaload, 1) := dOk_get (q := (89, .iaload, 1)) ok_tb_M_isFor_0 37 rfl
theorem d_M_isFor_90 : decode prog_6_method_26_code 90 = .ok (.iconst 2, 1) := dOk_get (q := (90, .iconst 2, 1)) ok_tb_M_isFor_0 38 rfl
theorem d_M_isFor_91 : decode prog_6_method_26_code 91 = .ok (.if_icmp .ne 7, 3) := dOk_get (q := (91, .if_icmp .ne 7, 3)) ok_tb_M_isFor_0 39 rfl
theorem d_M_isFor_94 : decode prog_6_method_26_code 94 = .ok (.iconst 1, 1) := dOk_get (q := (94, .iconst 1, 1)) ok_tb_M_isFor_0 40 rfl
theorem d_M_isFor_95 : decode prog_6_method_26_code 95 = .ok (.goto 4, 3) := dOk_get (q := (95, .goto 4, 3)) ok_tb_M_isFor_0 41 rfl
theorem d_M_isFor_98 : decode prog_6_method_26_code 98 = .ok (.iconst 0, 1) := dOk_get (q := (98, .iconst 0, 1)) ok_tb_M_isFor_0 42 rfl
theorem d_M_isFor_99 : decode prog_6_method_26_code 99 = .ok (.ireturn, 1) := dOk_get (q := (99, .ireturn, 1)) ok_tb_M_isFor_0 43 rfl
theorem d_M_isFor_100 : decode prog_6_method_26_code 100 = .ok (.aload_n 0, 1) := dOk_get (q := (100, .aload_n 0, 1)) ok_tb_M_isFor_0 44 rfl
theorem d_M_isFor_101 : decode prog_6_method_26_code 101 = .ok (.getfield 13, 3) := dOk_get (q := (101, .getfield 13, 3)) ok_tb_M_isFor_0 45 rfl
theorem d_M_isFor_104 : decode prog_6_method_26_code 104 = .ok (.iload_n 2, 1) := dOk_get (q := (104, .iload_n 2, 1)) ok_tb_M_isFor_0 46 rfl
theorem d_M_isFor_105 : decode prog_6_method_26_code 105 = .ok (.iaload, 1) := dOk_get (q := (105, .iaload, 1)) ok_tb_M_isFor_0 47 rfl
theorem d_M_isFor_106 : decode prog_6_method_26_code 106 = .ok (.aload_n 0, 1) := dOk_get (q := (106, .aload_n 0, 1)) ok_tb_M_isFor_0 48 rfl
theorem d_M_isFor_107 : decode prog_6_method_26_code 107 = .ok (.getfield 13, 3) := dOk_get (q := (107, .getfield 13, 3)) ok_tb_M_isFor_0 49 rfl
theorem d_M_isFor_110 : decode prog_6_method_26_code 110 = .ok (.iload_n 3, 1) := dOk_get (q := (110, .iload_n 3, 1)) ok_tb_M_isFor_0 50 rfl
theorem d_M_isFor_111 : decode prog_6_method_26_code 111 = .ok (.iaload, 1) := dOk_get (q := (111, .iaload, 1)) ok_tb_M_isFor_0 51 rfl
theorem d_M_isFor_112 : decode prog_6_method_26_code 112 = .ok (.if_icmp .ne 47, 3) := dOk_get (q := (112, .if_icmp .ne 47, 3)) ok_tb_M_isFor_0 52 rfl
theorem d_M_isFor_115 : decode prog_6_method_26_code 115 = .ok (.aload_n 0, 1) := dOk_get (q := (115, .aload_n 0, 1)) ok_tb_M_isFor_0 53 rfl
theorem d_M_isFor_116 : decode prog_6_method_26_code 116 = .ok (.getfield 16, 3) := dOk_get (q := (116, .getfield 16, 3)) ok_tb_M_isFor_0 54 rfl
theorem d_M_isFor_119 : decode prog_6_method_26_code 119 = .ok (.iload_n 2, 1) := dOk_get (q := (119, .iload_n 2, 1)) ok_tb_M_isFor_0 55 rfl
theorem d_M_isFor_120 : decode prog_6_method_26_code 120 = .ok (.iaload, 1) := dOk_get (q := (120, .iaload, 1)) ok_tb_M_isFor_0 56 rfl
theorem d_M_isFor_121 : decode prog_6_method_26_code 121 = .ok (.iconst 3, 1) := dOk_get (q := (121, .iconst 3, 1)) ok_tb_M_isFor_0 57 rfl
theorem d_M_isFor_122 : decode prog_6_method_26_code 122 = .ok (.if_icmp .ne 13, 3) := dOk_get (q := (122, .if_icmp .ne 13, 3)) ok_tb_M_isFor_0 58 rfl
theorem d_M_isFor_125 : decode prog_6_method_26_code 125 = .ok (.aload_n 0, 1) := dOk_get (q := (125, .aload_n 0, 1)) ok_tb_M_isFor_0 59 rfl
theorem d_M_isFor_126 : decode prog_6_method_26_code 126 = .ok (.getfield 16, 3) := dOk_get (q := (126, .getfield 16, 3)) ok_tb_M_isFor_0 60 rfl
theorem d_M_isFor_129 : decode prog_6_method_26_code 129 = .ok (.iload_n 3, 1) := dOk_get (q := (129, .iload_n 3, 1)) ok_tb_M_isFor_0 61 rfl
theorem d_M_isFor_130 : decode prog_6_method_26_code 130 = .ok (.iaload, 1) := dOk_get (q := (130, .iaload, 1)) ok_tb_M_isFor_0 62 rfl
theorem d_M_isFor_131 : decode prog_6_method_26_code 131 = .ok (.iconst 1, 1) := dOk_get (q := (131, .iconst 1, 1)) ok_tb_M_isFor_0 63 rfl
theorem d_M_isFor_132 : decode prog_6_method_26_code 132 = .ok (.if_icmp .eq 23, 3) := dOk_get (q := (132, .if_icmp .eq 23, 3)) ok_tb_M_isFor_0 64 rfl
theorem d_M_isFor_135 : decode prog_6_method_26_code 135 = .ok (.aload_n 0, 1) := dOk_get (q := (135, .aload_n 0, 1)) ok_tb_M_isFor_0 65 rfl
theorem d_M_isFor_136 : decode prog_6_method_26_code 136 = .ok (.getfield 16, 3) := dOk_get (q := (136, .getfield 16, 3)) ok_tb_M_isFor_0 66 rfl
theorem d_M_isFor_139 : decode prog_6_method_26_code 139 = .ok (.iload_n 2, 1) := dOk_get (q := (139, .iload_n 2, 1)) ok_tb_M_isFor_0 67 rfl
theorem d_M_isFor_140 : decode prog_6_method_26_code 140 = .ok (.iaload, 1) := dOk_get (q := (140, .iaload, 1)) ok_tb_M_isFor_0 68 rfl
theorem d_M_isFor_141 : decode prog_6_method_26_code 141 = .ok (.iconst 1, 1) := dOk_get (q := (141, .iconst 1, 1)) ok_tb_M_isFor_0 69 rfl
theorem d_M_isFor_142 : decode prog_6_method_26_code 142 = .ok (.if_icmp .ne 17, 3) := dOk_get (q := (142, .if_icmp .ne 17, 3)) ok_tb_M_isFor_0 70 rfl
theorem d_M_isFor_145 : decode prog_6_method_26_code 145 = .ok (.aload_n 0, 1) := dOk_get (q := (145, .aload_n 0, 1)) ok_tb_M_isFor_0 71 rfl
theorem d_M_isFor_146 : decode prog_6_method_26_code 146 = .ok (.getfield 16, 3) := dOk_get (q := (146, .getfield 16, 3)) ok_tb_M_isFor_0 72 rfl
theorem d_M_isFor_149 : decode prog_6_method_26_code 149 = .ok (.iload_n 3, 1) := dOk_get (q := (149, .iload_n 3, 1)) ok_tb_M_isFor_0 73 rfl
theorem d_M_isFor_150 : decode prog_6_method_26_code 150 = .ok (.iaload, 1) := dOk_get (q := (150, .iaload, 1)) ok_tb_M_isFor_0 74 rfl
theorem d_M_isFor_151 : decode prog_6_method_26_code 151 = .ok (.iconst 3, 1) := dOk_get (q := (151, .iconst 3, 1)) ok_tb_M_isFor_0 75 rfl
theorem d_M_isFor_152 : decode prog_6_method_26_code 152 = .ok (.if_icmp .ne 7, 3) := dOk_get (q := (152, .if_icmp .ne 7, 3)) ok_tb_M_isFor_0 76 rfl
theorem d_M_isFor_155 : decode prog_6_method_26_code 155 = .ok (.iconst 1, 1) := dOk_get (q := (155, .iconst 1, 1)) ok_tb_M_isFor_0 77 rfl
theorem d_M_isFor_156 : decode prog_6_method_26_code 156 = .ok (.goto 4, 3) := dOk_get (q := (156, .goto 4, 3)) ok_tb_M_isFor_0 78 rfl
theorem d_M_isFor_159 : decode prog_6_method_26_code 159 = .ok (.iconst 0, 1) := dOk_get (q := (159, .iconst 0, 1)) ok_tb_M_isFor_0 79 rfl
theorem d_M_isFor_160 : decode prog_6_method_26_code 160 = .ok (.ireturn, 1) := dOk_get (q := (160, .ireturn, 1)) ok_tb_M_isFor_0 80 rfl
def tb_M_isApart_0 : List (Nat × Instr × Nat) := [(0, .aload_n 0, 1), (1, .getfield 32, 3), (4, .iload_n 1, 1), (5, .laload, 1), (6, .aload_n 0, 1), (7, .getfield 32, 3), (10, .iload_n 2, 1), (11, .laload, 1), (12, .ladd, 1), (13, .lload_n 3, 1), (14, .ladd, 1), (15, .lstore 5, 2), (17, .aload_n 0, 1), (18, .iload_n 1, 1), (19, .iload_n 2, 1), (20, .invokevirtual 130, 3), (23, .ifCond .eq 5, 3), (26, .iconst 0, 1), (27, .ireturn, 1), (28, .bipush 8, 2), (30, .iload_n 1, 1), (31, .imul, 1), (32, .istore 7, 2), (34, .iload 7, 2), (36, .bipush 8, 2), (38, .iload_n 1, 1), (39, .imul, 1), (40, .aload_n 0, 1), (41, .getfield 22, 3), (44, .iload_n 1, 1), (45, .iaload, 1), (46, .iadd, 1), (47, .if_icmp .ge 35, 3), (50, .aload_n 0, 1), (51, .aload_n 0, 1), (52, .getfield 25, 3), (55, .iload 7, 2), (57, .laload, 1), (58, .aload_n 0, 1), (59, .getfield 29, 3), (62, .iload 7, 2), (64, .laload, 1), (65, .iload_n 2, 1), (66, .lload 5, 2), (68, .invokevirtual 134, 3), (71, .ifCond .ge 5, 3), (74, .iconst 0, 1), (75, .ireturn, 1), (76, .iinc 7 1, 3), (79, .goto (-45), 3), (82, .bipush 8, 2), (84, .iload_n 2, 1), (85, .imul, 1), (86, .istore 7, 2), (88, .iload 7, 2), (90, .bipush 8, 2), (92, .iload_n 2, 1), (93, .imul, 1), (94, .aload_n 0, 1), (95, .getfield 22, 3), (98, .iload_n 2, 1), (99, .iaload, 1), (100, .iadd, 1), (101, .if_icmp .ge 35, 3), (104, .aload_n 0, 1), (105, .aload_n 0, 1), (106, .getfield 25, 3), (109, .iload 7, 2), (111, .laload, 1), (112, .aload_n 0, 1), (113, .getfield 29, 3), (116, .iload 7, 2), (118, .laload, 1), (119, .iload_n 1, 1), (120, .lload 5, 2), (122, .invokevirtual 134, 3), (125, .ifCond .ge 5, 3), (128, .iconst 0, 1), (129, .ireturn, 1), (130, .iinc 7 1, 3), (133, .goto (-45), 3), (136, .iconst 1, 1), (137, .ireturn, 1)]
theorem ok_tb_M_isApart_0 : dOk prog_6_method_21_code tb_M_isApart_0 = true := by decide +kernel
theorem d_M_isApart_0 : decode prog_6_method_21_code 0 = .ok (.aload_n 0, 1) := dOk_get (q := (0, .aload_n 0, 1)) ok_tb_M_isApart_0 0 rfl
theorem d_M_isApart_1 : decode prog_6_method_21_code 1 = .ok (.getfield 32, 3) := dOk_get (q := (1, .getfield 32, 3)) ok_tb_M_isApart_0 1 rfl
theorem d_M_isApart_4 : decode prog_6_method_21_code 4 = .ok (.iload_n 1, 1) := dOk_get (q := (4, .iload_n 1, 1)) ok_tb_M_isApart_0 2 rfl
theorem d_M_isApart_5 : decode prog_6_method_21_code 5 = .ok (.laload, 1) := dOk_get (q := (5, .laload, 1)) ok_tb_M_isApart_0 3 rfl
theorem d_M_isApart_6 : decode prog_6_method_21_code 6 = .ok (.aload_n 0, 1) := dOk_get (q := (6, .aload_n 0, 1)) ok_tb_M_isApart_0 4 rfl
theorem d_M_isApart_7 : decode prog_6_method_21_code 7 = .ok (.getfield 32, 3) := dOk_get (q := (7, .getfield 32, 3)) ok_tb_M_isApart_0 5 rfl
theorem d_M_isApart_10 : decode prog_6_method_21_code 10 = .ok (.iload_n 2, 1) := dOk_get (q := (10, .iload_n 2, 1)) ok_tb_M_isApart_0 6 rfl
theorem d_M_isApart_11 : decode prog_6_method_21_code 11 = .ok (.laload, 1) := dOk_get (q := (11, .laload, 1)) ok_tb_M_isApart_0 7 rfl
theorem d_M_isApart_12 : decode prog_6_method_21_code 12 = .ok (.ladd, 1) := dOk_get (q := (12, .ladd, 1)) ok_tb_M_isApart_0 8 rfl
theorem d_M_isApart_13 : decode prog_6_method_21_code 13 = .ok (.lload_n 3, 1) := dOk_get (q := (13, .lload_n 3, 1)) ok_tb_M_isApart_0 9 rfl
theorem d_M_isApart_14 : decode prog_6_method_21_code 14 = .ok (.ladd, 1) := dOk_get (q := (14, .ladd, 1)) ok_tb_M_isApart_0 10 rfl
theorem d_M_isApart_15 : decode prog_6_method_21_code 15 = .ok (.lstore 5, 2) := dOk_get (q := (15, .lstore 5, 2)) ok_tb_M_isApart_0 11 rfl
theorem d_M_isApart_17 : decode prog_6_method_21_code 17 = .ok (.aload_n 0, 1) := dOk_get (q := (17, .aload_n 0, 1)) ok_tb_M_isApart_0 12 rfl
theorem d_M_isApart_18 : decode prog_6_method_21_code 18 = .ok (.iload_n 1, 1) := dOk_get (q := (18, .iload_n 1, 1)) ok_tb_M_isApart_0 13 rfl
theorem d_M_isApart_19 : decode prog_6_method_21_code 19 = .ok (.iload_n 2, 1) := dOk_get (q := (19, .iload_n 2, 1)) ok_tb_M_isApart_0 14 rfl
theorem d_M_isApart_20 : decode prog_6_method_21_code 20 = .ok (.invokevirtual 130, 3) := dOk_get (q := (20, .invokevirtual 130, 3)) ok_tb_M_isApart_0 15 rfl
theorem d_M_isApart_23 : decode prog_6_method_21_code 23 = .ok (.ifCond .eq 5, 3) := dOk_get (q := (23, .ifCond .eq 5, 3)) ok_tb_M_isApart_0 16 rfl
theorem d_M_isApart_26 : decode prog_6_method_21_code 26 = .ok (.iconst 0, 1) := dOk_get (q := (26, .iconst 0, 1)) ok_tb_M_isApart_0 17 rfl
theorem d_M_isApart_27 : decode prog_6_method_21_code 27 = .ok (.ireturn, 1) := dOk_get (q := (27, .ireturn, 1)) ok_tb_M_isApart_0 18 rfl
theorem d_M_isApart_28 : decode prog_6_method_21_code 28 = .ok (.bipush 8, 2) := dOk_get (q := (28, .bipush 8, 2)) ok_tb_M_isApart_0 19 rfl
theorem d_M_isApart_30 : decode prog_6_method_21_code 30 = .ok (.iload_n 1, 1) := dOk_get (q := (30, .iload_n 1, 1)) ok_tb_M_isApart_0 20 rfl
theorem d_M_isApart_31 : decode prog_6_method_21_code 31 = .ok (.imul, 1) := dOk_get (q := (31, .imul, 1)) ok_tb_M_isApart_0 21 rfl
theorem d_M_isApart_32 : decode prog_6_method_21_code 32 = .ok (.istore 7, 2) := dOk_get (q := (32, .istore 7, 2)) ok_tb_M_isApart_0 22 rfl
theorem d_M_isApart_34 : decode prog_6_method_21_code 34 = .ok (.iload 7, 2) := dOk_get (q := (34, .iload 7, 2)) ok_tb_M_isApart_0 23 rfl
theorem d_M_isApart_36 : decode prog_6_method_21_code 36 = .ok (.bipush 8, 2) := dOk_get (q := (36, .bipush 8, 2)) ok_tb_M_isApart_0 24 rfl
theorem d_M_isApart_38 : decode prog_6_method_21_code 38 = .ok (.iload_n 1, 1) := dOk_get (q := (38, .iload_n 1, 1)) ok_tb_M_isApart_0 25 rfl
theorem d_M_isApart_39 : decode prog_6_method_21_code 39 = .ok (.imul, 1) := dOk_get (q := (39, .imul, 1)) ok_tb_M_isApart_0 26 rfl
theorem d_M_isApart_40 : decode prog_6_method_21_code 40 = .ok (.aload_n 0, 1) := dOk_get (q := (40, .aload_n 0, 1)) ok_tb_M_isApart_0 27 rfl
theorem d_M_isApart_41 : decode prog_6_method_21_code 41 = .ok (.getfield 22, 3) := dOk_get (q := (41, .getfield 22, 3)) ok_tb_M_isApart_0 28 rfl
theorem d_M_isApart_44 : decode prog_6_method_21_code 44 = .ok (.iload_n 1, 1) := dOk_get (q := (44, .iload_n 1, 1)) ok_tb_M_isApart_0 29 rfl
theorem d_M_isApart_45 : decode prog_6_method_21_code 45 = .ok (.iaload, 1) := dOk_get (q := (45, .iaload, 1)) ok_tb_M_isApart_0 30 rfl
theorem d_M_isApart_46 : decode prog_6_method_21_code 46 = .ok (.iadd, 1) := dOk_get (q := (46, .iadd, 1)) ok_tb_M_isApart_0 31 rfl
theorem d_M_isApart_47 : decode prog_6_method_21_code 47 = .ok (.if_icmp .ge 35, 3) := dOk_get (q := (47, .if_icmp .ge 35, 3)) ok_tb_M_isApart_0 32 rfl
theorem d_M_isApart_50 : decode prog_6_method_21_code 50 = .ok (.aload_n 0, 1) := dOk_get (q := (50, .aload_n 0, 1)) ok_tb_M_isApart_0 33 rfl
theorem d_M_isApart_51 : decode prog_6_method_21_code 51 = .ok (.aload_n 0, 1) := dOk_get (q := (51, .aload_n 0, 1)) ok_tb_M_isApart_0 34 rfl
theorem d_M_isApart_52 : decode prog_6_method_21_code 52 = .ok (.getfield 25, 3) := dOk_get (q := (52, .getfield 25, 3)) ok_tb_M_isApart_0 35 rfl
theorem d_M_isApart_55 : decode prog_6_method_21_code 55 = .ok (.iload 7, 2) := dOk_get (q := (55, .iload 7, 2)) ok_tb_M_isApart_0 36 rfl
theorem d_M_isApart_57 : decode prog_6_method_21_code 57 = .ok (.laload, 1) := dOk_get (q := (57, .laload, 1)) ok_tb_M_isApart_0 37 rfl
theorem d_M_isApart_58 : decode prog_6_method_21_code 58 = .ok (.aload_n 0, 1) := dOk_get (q := (58, .aload_n 0, 1)) ok_tb_M_isApart_0 38 rfl
theorem d_M_isApart_59 : decode prog_6_method_21_code 59 = .ok (.getfield 29, 3) := dOk_get (q := (59, .getfield 29, 3)) ok_tb_M_isApart_0 39 rfl
theorem d_M_isApart_62 : decode prog_6_method_21_code 62 = .ok (.iload 7, 2) := dOk_get (q := (62, .iload 7, 2)) ok_tb_M_isApart_0 40 rfl
theorem d_M_isApart_64 : decode prog_6_method_21_code 64 = .ok (.laload, 1) := dOk_get (q := (64, .laload, 1)) ok_tb_M_isApart_0 41 rfl
theorem d_M_isApart_65 : decode prog_6_method_21_code 65 = .ok (.iload_n 2, 1) := dOk_get (q := (65, .iload_n 2, 1)) ok_tb_M_isApart_0 42 rfl
theorem d_M_isApart_66 : decode prog_6_method_21_code 66 = .ok (.lload 5, 2) := dOk_get (q := (66, .lload 5, 2)) ok_tb_M_isApart_0 43 rfl
theorem d_M_isApart_68 : decode prog_6_method_21_code 68 = .ok (.invokevirtual 134, 3) := dOk_get (q := (68, .invokevirtual 134, 3)) ok_tb_M_isApart_0 44 rfl
theorem d_M_isApart_71 : decode prog_6_method_21_code 71 = .ok (.ifCond .ge 5, 3) := dOk_get (q := (71, .ifCond .ge 5, 3)) ok_tb_M_isApart_0 45 rfl
theorem d_M_isApart_74 : decode prog_6_method_21_code 74 = .ok (.iconst 0, 1) := dOk_get (q := (74, .iconst 0, 1)) ok_tb_M_isApart_0 46 rfl
theorem d_M_isApart_75 : decode prog_6_method_21_code 75 = .ok (.ireturn, 1) := dOk_get (q := (75, .ireturn, 1)) ok_tb_M_isApart_0 47 rfl
theorem d_M_isApart_76 : decode prog_6_method_21_code 76 = .ok (.iinc 7 1, 3) := dOk_get (q := (76, .iinc 7 1, 3)) ok_tb_M_isApart_0 48 rfl
theorem d_M_isApart_79 : decode prog_6_method_21_code 79 = .ok (.goto (-45), 3) := dOk_get (q := (79, .goto (-45), 3)) ok_tb_M_isApart_0 49 rfl
theorem d_M_isApart_82 : decode prog_6_method_21_code 82 = .ok (.bipush 8, 2) := dOk_get (q := (82, .bipush 8, 2)) ok_tb_M_isApart_0 50 rfl
theorem d_M_isApart_84 : decode prog_6_method_21_code 84 = .ok (.iload_n 2, 1) := dOk_get (q := (84, .iload_n 2, 1)) ok_tb_M_isApart_0 51 rfl
theorem d_M_isApart_85 : decode prog_6_method_21_code 85 = .ok (.imul, 1) := dOk_get (q := (85, .imul, 1)) ok_tb_M_isApart_0 52 rfl
theorem d_M_isApart_86 : decode prog_6_method_21_code 86 = .ok (.istore 7, 2) := dOk_get (q := (86, .istore 7, 2)) ok_tb_M_isApart_0 53 rfl
theorem d_M_isApart_88 : decode prog_6_method_21_code 88 = .ok (.iload 7, 2) := dOk_get (q := (88, .iload 7, 2)) ok_tb_M_isApart_0 54 rfl
theorem d_M_isApart_90 : decode prog_6_method_21_code 90 = .ok (.bipush 8, 2) := dOk_get (q := (90, .bipush 8, 2)) ok_tb_M_isApart_0 55 rfl
theorem d_M_isApart_92 : decode prog_6_method_21_code 92 = .ok (.iload_n 2, 1) := dOk_get (q := (92, .iload_n 2, 1)) ok_tb_M_isApart_0 56 rfl
theorem d_M_isApart_93 : decode prog_6_method_21_code 93 = .ok (.imul, 1) := dOk_get (q := (93, .imul, 1)) ok_tb_M_isApart_0 57 rfl
theorem d_M_isApart_94 : decode prog_6_method_21_code 94 = .ok (.aload_n 0, 1) := dOk_get (q := (94, .aload_n 0, 1)) ok_tb_M_isApart_0 58 rfl
theorem d_M_isApart_95 : decode prog_6_method_21_code 95 = .ok (.getfield 22, 3) := dOk_get (q := (95, .getfield 22, 3)) ok_tb_M_isApart_0 59 rfl
theorem d_M_isApart_98 : decode prog_6_method_21_code 98 = .ok (.iload_n 2, 1) := dOk_get (q := (98, .iload_n 2, 1)) ok_tb_M_isApart_0 60 rfl
theorem d_M_isApart_99 : decode prog_6_method_21_code 99 = .ok (.iaload, 1) := dOk_get (q := (99, .iaload, 1)) ok_tb_M_isApart_0 61 rfl
theorem d_M_isApart_100 : decode prog_6_method_21_code 100 = .ok (.iadd, 1) := dOk_get (q := (100, .iadd, 1)) ok_tb_M_isApart_0 62 rfl
theorem d_M_isApart_101 : decode prog_6_method_21_code 101 = .ok (.if_icmp .ge 35, 3) := dOk_get (q := (101, .if_icmp .ge 35, 3)) ok_tb_M_isApart_0 63 rfl
theorem d_M_isApart_104 : decode prog_6_method_21_code 104 = .ok (.aload_n 0, 1) := dOk_get (q := (104, .aload_n 0, 1)) ok_tb_M_isApart_0 64 rfl
theorem d_M_isApart_105 : decode prog_6_method_21_code 105 = .ok (.aload_n 0, 1) := dOk_get (q := (105, .aload_n 0, 1)) ok_tb_M_isApart_0 65 rfl
theorem d_M_isApart_106 : decode prog_6_method_21_code 106 = .ok (.getfield 25, 3) := dOk_get (q := (106, .getfield 25, 3)) ok_tb_M_isApart_0 66 rfl
theorem d_M_isApart_109 : decode prog_6_method_21_code 109 = .ok (.iload 7, 2) := dOk_get (q := (109, .iload 7, 2)) ok_tb_M_isApart_0 67 rfl
theorem d_M_isApart_111 : decode prog_6_method_21_code 111 = .ok (.laload, 1) := dOk_get (q := (111, .laload, 1)) ok_tb_M_isApart_0 68 rfl
theorem d_M_isApart_112 : decode prog_6_method_21_code 112 = .ok (.aload_n 0, 1) := dOk_get (q := (112, .aload_n 0, 1)) ok_tb_M_isApart_0 69 rfl
theorem d_M_isApart_113 : decode prog_6_method_21_code 113 = .ok (.getfield 29, 3) := dOk_get (q := (113, .getfield 29, 3)) ok_tb_M_isApart_0 70 rfl
theorem d_M_isApart_116 : decode prog_6_method_21_code 116 = .ok (.iload 7, 2) := dOk_get (q := (116, .iload 7, 2)) ok_tb_M_isApart_0 71 rfl
theorem d_M_isApart_118 : decode prog_6_method_21_code 118 = .ok (.laload, 1) := dOk_get (q := (118, .laload, 1)) ok_tb_M_isApart_0 72 rfl
theorem d_M_isApart_119 : decode prog_6_method_21_code 119 = .ok (.iload_n 1, 1) := dOk_get (q := (119, .iload_n 1, 1)) ok_tb_M_isApart_0 73 rfl
theorem d_M_isApart_120 : decode prog_6_method_21_code 120 = .ok (.lload 5, 2) := dOk_get (q := (120, .lload 5, 2)) ok_tb_M_isApart_0 74 rfl
theorem d_M_isApart_122 : decode prog_6_method_21_code 122 = .ok (.invokevirtual 134, 3) := dOk_get (q := (122, .invokevirtual 134, 3)) ok_tb_M_isApart_0 75 rfl
theorem d_M_isApart_125 : decode prog_6_method_21_code 125 = .ok (.ifCond .ge 5, 3) := dOk_get (q := (125, .ifCond .ge 5, 3)) ok_tb_M_isApart_0 76 rfl
theorem d_M_isApart_128 : decode prog_6_method_21_code 128 = .ok (.iconst 0, 1) := dOk_get (q := (128, .iconst 0, 1)) ok_tb_M_isApart_0 77 rfl
theorem d_M_isApart_129 : decode prog_6_method_21_code 129 = .ok (.ireturn, 1) := dOk_get (q := (129, .ireturn, 1)) ok_tb_M_isApart_0 78 rfl
theorem d_M_isApart_130 : decode prog_6_method_21_code 130 = .ok (.iinc 7 1, 3) := dOk_get (q := (130, .iinc 7 1, 3)) ok_tb_M_isApart_0 79 rfl
theorem d_M_isApart_133 : decode prog_6_method_21_code 133 = .ok (.goto (-45), 3) := dOk_get (q := (133, .goto (-45), 3)) ok_tb_M_isApart_0 80 rfl
theorem d_M_isApart_136 : decode prog_6_method_21_code 136 = .ok (.iconst 1, 1) := dOk_get (q := (136, .iconst 1, 1)) ok_tb_M_isApart_0 81 rfl
theorem d_M_isApart_137 : decode prog_6_method_21_code 137 = .ok (.ireturn, 1) := dOk_get (q := (137, .ireturn, 1)) ok_tb_M_isApart_0 82 rfl
def tb_M_linesCross_0 : List (Nat × Instr × Nat) := [(0, .iconst 0, 1), (1, .istore_n 3, 1), (2, .iload_n 3, 1), (3, .aload_n 0, 1), (4, .iload_n 1, 1), (5, .invokevirtual 114, 3), (8, .if_icmp .ge 276, 3), (11, .bipush 8, 2), (13, .iload_n 1, 1), (14, .imul, 1), (15, .iload_n 3, 1), (16, .iadd, 1), (17, .istore 4, 2), (19, .aload_n 0, 1), (20, .iload_n 1, 1), (21, .iload_n 3, 1), (22, .invokevirtual 118, 3), (25, .istore 5, 2), (27, .iconst 0, 1), (28, .istore 6, 2), (30, .iload 6, 2), (32, .aload_n 0, 1), (33, .iload_n 2, 1), (34, .invokevirtual 114, 3), (37, .if_icmp .ge 241, 3), (40, .bipush 8, 2), (42, .iload_n 2, 1), (43, .imul, 1), (44, .iload 6, 2), (46, .iadd, 1), (47, .istore 7, 2), (49, .aload_n 0, 1), (50, .iload_n 2, 1), (51, .iload 6, 2), (53, .invokevirtual 118, 3), (56, .istore 8, 2), (58, .aload_n 0, 1), (59, .getfield 25, 3), (62, .iload 4, 2), (64, .laload, 1), (65, .aload_n 0, 1), (66, .getfield 29, 3), (69, .iload 4, 2), (71, .laload, 1), (72, .aload_n 0, 1), (73, .getfield 25, 3), (76, .iload 5, 2), (78, .laload, 1), (79, .aload_n 0, 1), (80, .getfield 29, 3), (83, .iload 5, 2), (85, .laload, 1), (86, .aload_n 0, 1), (87, .getfield 25, 3), (90, .iload 7, 2), (92, .laload, 1), (93, .aload_n 0, 1), (94, .getfield 29, 3), (97, .iload 7, 2), (99, .laload, 1), (100, .invokestatic 126, 3), (103, .aload_n 0, 1), (104, .getfield 25, 3), (107, .iload 4, 2), (109, .laload, 1), (110, .aload_n 0, 1), (111, .getfield 29, 3), (114, .iload 4, 2), (116, .laload, 1), (117, .aload_n 0, 1), (118, .getfield 25, 3), (121, .iload 5, 2), (123, .laload, 1), (124, .aload_n 0, 1), (125, .getfield 29, 3), (128, .iload 5, 2), (130, .laload, 1), (131, .aload_n 0, 1), (132, .getfield 25, 3), (135, .iload 8, 2), (137, .laload, 1), (138, .aload_n 0, 1), (139, .getfield 29, 3), (142, .iload 8, 2), (144, .laload, 1), (145, .invokestatic 126, 3), (148, .imul, 1), (149, .ifCond .ge 7, 3), (152, .iconst 1, 1), (153, .goto 4, 3), (156, .iconst 0, 1), (157, .istore 9, 2), (159, .aload_n 0, 1), (160, .getfield 25, 3), (163, .iload 7, 2), (165, .laload, 1), (166, .aload_n 0, 1), (167, .getfield 29, 3), (170, .iload 7, 2), (172, .laload, 1), (173, .aload_n 0, 1), (174, .getfield 25, 3), (177, .iload 8, 2), (179, .laload, 1), (180, .aload_n 0, 1), (181, .getfield 29, 3), (184, .iload 8, 2), (186, .laload, 1), (187, .aload_n 0, 1), (188, .getfield 25, 3), (191, .iload 4, 2), (193, .laload, 1), (194, .aload_n 0, 1), (195, .getfield 29, 3), (198, .iload 4, 2), (200, .laload, 1), (201, .invokestatic 126, 3), (204, .aload_n 0, 1), (205, .getfield 25, 3), (208, .iload 7, 2)]
theorem ok_tb_M_linesCross_0 : dOk prog_6_method_20_code tb_M_linesCross_0 = true := by decide +kernel
theorem d_M_linesCross_0 : decode prog_6_method_20_code 0 = .ok (.iconst 0, 1) := dOk_get (q := (0, .iconst 0, 1)) ok_tb_M_linesCross_0 0 rfl
theorem d_M_linesCross_1 : decode prog_6_method_20_code 1 = .ok (.istore_n 3, 1) := dOk_get (q := (1, .istore_n 3, 1)) ok_tb_M_linesCross_0 1 rfl
theorem d_M_linesCross_2 : decode prog_6_method_20_code 2 = .ok (.iload_n 3, 1) := dOk_get (q := (2, .iload_n 3, 1)) ok_tb_M_linesCross_0 2 rfl
theorem d_M_linesCross_3 : decode prog_6_method_20_code 3 = .ok (.aload_n 0, 1) := dOk_get (q := (3, .aload_n 0, 1)) ok_tb_M_linesCross_0 3 rfl
theorem d_M_linesCross_4 : decode prog_6_method_20_code 4 = .ok (.iload_n 1, 1) := dOk_get (q := (4, .iload_n 1, 1)) ok_tb_M_linesCross_0 4 rfl
theorem d_M_linesCross_5 : decode prog_6_method_20_code 5 = .ok (.invokevirtual 114, 3) := dOk_get (q := (5, .invokevirtual 114, 3)) ok_tb_M_linesCross_0 5 rfl
theorem d_M_linesCross_8 : decode prog_6_method_20_code 8 = .ok (.if_icmp .ge 276, 3) := dOk_get (q := (8, .if_icmp .ge 276, 3)) ok_tb_M_linesCross_0 6 rfl
theorem d_M_linesCross_11 : decode prog_6_method_20_code 11 = .ok (.bipush 8, 2) := dOk_get (q := (11, .bipush 8, 2)) ok_tb_M_linesCross_0 7 rfl
theorem d_M_linesCross_13 : decode prog_6_method_20_code 13 = .ok (.iload_n 1, 1) := dOk_get (q := (13, .iload_n 1, 1)) ok_tb_M_linesCross_0 8 rfl
theorem d_M_linesCross_14 : decode prog_6_method_20_code 14 = .ok (.imul, 1) := dOk_get (q := (14, .imul, 1)) ok_tb_M_linesCross_0 9 rfl
theorem d_M_linesCross_15 : decode prog_6_method_20_code 15 = .ok (.iload_n 3, 1) := dOk_get (q := (15, .iload_n 3, 1)) ok_tb_M_linesCross_0 10 rfl
theorem d_M_linesCross_16 : decode prog_6_method_20_code 16 = .ok (.iadd, 1) := dOk_get (q := (16, .iadd, 1)) ok_tb_M_linesCross_0 11 rfl
theorem d_M_linesCross_17 : decode prog_6_method_20_code 17 = .ok (.istore 4, 2) := dOk_get (q := (17, .istore 4, 2)) ok_tb_M_linesCross_0 12 rfl
theorem d_M_linesCross_19 : decode prog_6_method_20_code 19 = .ok (.aload_n 0, 1) := dOk_get (q := (19, .aload_n 0, 1)) ok_tb_M_linesCross_0 13 rfl
theorem d_M_linesCross_20 : decode prog_6_method_20_code 20 = .ok (.iload_n 1, 1) := dOk_get (q := (20, .iload_n 1, 1)) ok_tb_M_linesCross_0 14 rfl
theorem d_M_linesCross_21 : decode prog_6_method_20_code 21 = .ok (.iload_n 3, 1) := dOk_get (q := (21, .iload_n 3, 1)) ok_tb_M_linesCross_0 15 rfl
theorem d_M_linesCross_22 : decode prog_6_method_20_code 22 = .ok (.invokevirtual 118, 3) := dOk_get (q := (22, .invokevirtual 118, 3)) ok_tb_M_linesCross_0 16 rfl
theorem d_M_linesCross_25 : decode prog_6_method_20_code 25 = .ok (.istore 5, 2) := dOk_get (q := (25, .istore 5, 2)) ok_tb_M_linesCross_0 17 rfl
theorem d_M_linesCross_27 : decode prog_6_method_20_code 27 = .ok (.iconst 0, 1) := dOk_get (q := (27, .iconst 0, 1)) ok_tb_M_linesCross_0 18 rfl
theorem d_M_linesCross_28 : decode prog_6_method_20_code 28 = .ok (.istore 6, 2) := dOk_get (q := (28, .istore 6, 2)) ok_tb_M_linesCross_0 19 rfl
theorem d_M_linesCross_30 : decode prog_6_method_20_code 30 = .ok (.iload 6, 2) := dOk_get (q := (30, .iload 6, 2)) ok_tb_M_linesCross_0 20 rfl
theorem d_M_linesCross_32 : decode prog_6_method_20_code 32 = .ok (.aload_n 0, 1) := dOk_get (q := (32, .aload_n 0, 1)) ok_tb_M_linesCross_0 21 rfl
theorem d_M_linesCross_33 : decode prog_6_method_20_code 33 = .ok (.iload_n 2, 1) := dOk_get (q := (33, .iload_n 2, 1)) ok_tb_M_linesCross_0 22 rfl
theorem d_M_linesCross_34 : decode prog_6_method_20_code 34 = .ok (.invokevirtual 114, 3) := dOk_get (q := (34, .invokevirtual 114, 3)) ok_tb_M_linesCross_0 23 rfl
theorem d_M_linesCross_37 : decode prog_6_method_20_code 37 = .ok (.if_icmp .ge 241, 3) := dOk_get (q := (37, .if_icmp .ge 241, 3)) ok_tb_M_linesCross_0 24 rfl
theorem d_M_linesCross_40 : decode prog_6_method_20_code 40 = .ok (.bipush 8, 2) := dOk_get (q := (40, .bipush 8, 2)) ok_tb_M_linesCross_0 25 rfl
theorem d_M_linesCross_42 : decode prog_6_method_20_code 42 = .ok (.iload_n 2, 1) := dOk_get (q := (42, .iload_n 2, 1)) ok_tb_M_linesCross_0 26 rfl
theorem d_M_linesCross_43 : decode prog_6_method_20_code 43 = .ok (.imul, 1) := dOk_get (q := (43, .imul, 1)) ok_tb_M_linesCross_0 27 rfl
theorem d_M_linesCross_44 : decode prog_6_method_20_code 44 = .ok (.iload 6, 2) := dOk_get (q := (44, .iload 6, 2)) ok_tb_M_linesCross_0 28 rfl
theorem d_M_linesCross_46 : decode prog_6_method_20_code 46 = .ok (.iadd, 1) := dOk_get (q := (46, .iadd, 1)) ok_tb_M_linesCross_0 29 rfl
theorem d_M_linesCross_47 : decode prog_6_method_20_code 47 = .ok (.istore 7, 2) := dOk_get (q := (47, .istore 7, 2)) ok_tb_M_linesCross_0 30 rfl
theorem d_M_linesCross_49 : decode prog_6_method_20_code 49 = .ok (.aload_n 0, 1) := dOk_get (q := (49, .aload_n 0, 1)) ok_tb_M_linesCross_0 31 rfl
theorem d_M_linesCross_50 : decode prog_6_method_20_code 50 = .ok (.iload_n 2, 1) := dOk_get (q := (50, .iload_n 2, 1)) ok_tb_M_linesCross_0 32 rfl
theorem d_M_linesCross_51 : decode prog_6_method_20_code 51 = .ok (.iload 6, 2) := dOk_get (q := (51, .iload 6, 2)) ok_tb_M_linesCross_0 33 rfl
theorem d_M_linesCross_53 : decode prog_6_method_20_code 53 = .ok (.invokevirtual 118, 3) := dOk_get (q := (53, .invokevirtual 118, 3)) ok_tb_M_linesCross_0 34 rfl
theorem d_M_linesCross_56 : decode prog_6_method_20_code 56 = .ok (.istore 8, 2) := dOk_get (q := (56, .istore 8, 2)) ok_tb_M_linesCross_0 35 rfl
theorem d_M_linesCross_58 : decode prog_6_method_20_code 58 = .ok (.aload_n 0, 1) := dOk_get (q := (58, .aload_n 0, 1)) ok_tb_M_linesCross_0 36 rfl
theorem d_M_linesCross_59 : decode prog_6_method_20_code 59 = .ok (.getfield 25, 3) := dOk_get (q := (59, .getfield 25, 3)) ok_tb_M_linesCross_0 37 rfl
theorem d_M_linesCross_62 : decode prog_6_method_20_code 62 = .ok (.iload 4, 2) := dOk_get (q := (62, .iload 4, 2)) ok_tb_M_linesCross_0 38 rfl
theorem d_M_linesCross_64 : decode prog_6_method_20_code 64 = .ok (.laload, 1) := dOk_get (q := (64, .laload, 1)) ok_tb_M_linesCross_0 39 rfl
theorem d_M_linesCross_65 : decode prog_6_method_20_code 65 = .ok (.aload_n 0, 1) := dOk_get (q := (65, .aload_n 0, 1)) ok_tb_M_linesCross_0 40 rfl
theorem d_M_linesCross_66 : decode prog_6_method_20_code 66 = .ok (.getfield 29, 3) := dOk_get (q := (66, .getfield 29, 3)) ok_tb_M_linesCross_0 41 rfl
theorem d_M_linesCross_69 : decode prog_6_method_20_code 69 = .ok (.iload 4, 2) := dOk_get (q := (69, .iload 4, 2)) ok_tb_M_linesCross_0 42 rfl
theorem d_M_linesCross_71 : decode prog_6_method_20_code 71 = .ok (.laload, 1) := dOk_get (q := (71, .laload, 1)) ok_tb_M_linesCross_0 43 rfl
theorem d_M_linesCross_72 : decode prog_6_method_20_code 72 = .ok (.aload_n 0, 1) := dOk_get (q := (72, .aload_n 0, 1)) ok_tb_M_linesCross_0 44 rfl
theorem d_M_linesCross_73 : decode prog_6_method_20_code 73 = .ok (.getfield 25, 3) := dOk_get (q := (73, .getfield 25, 3)) ok_tb_M_linesCross_0 45 rfl
theorem d_M_linesCross_76 : decode prog_6_method_20_code 76 = .ok (.iload 5, 2) := dOk_get (q := (76, .iload 5, 2)) ok_tb_M_linesCross_0 46 rfl
theorem d_M_linesCross_78 : decode prog_6_method_20_code 78 = .ok (.laload, 1) := dOk_get (q := (78, .laload, 1)) ok_tb_M_linesCross_0 47 rfl
theorem d_M_linesCross_79 : decode prog_6_method_20_code 79 = .ok (.aload_n 0, 1) := dOk_get (q := (79, .aload_n 0, 1)) ok_tb_M_linesCross_0 48 rfl
theorem d_M_linesCross_80 : decode prog_6_method_20_code 80 = .ok (.getfield 29, 3) := dOk_get (q := (80, .getfield 29, 3)) ok_tb_M_linesCross_0 49 rfl
theorem d_M_linesCross_83 : decode prog_6_method_20_code 83 = .ok (.iload 5, 2) := dOk_get (q := (83, .iload 5, 2)) ok_tb_M_linesCross_0 50 rfl
theorem d_M_linesCross_85 : decode prog_6_method_20_code 85 = .ok (.laload, 1) := dOk_get (q := (85, .laload, 1)) ok_tb_M_linesCross_0 51 rfl
theorem d_M_linesCross_86 : decode prog_6_method_20_code 86 = .ok (.aload_n 0, 1) := dOk_get (q := (86, .aload_n 0, 1)) ok_tb_M_linesCross_0 52 rfl
theorem d_M_linesCross_87 : decode prog_6_method_20_code 87 = .ok (.getfield 25, 3) := dOk_get (q := (87, .getfield 25, 3)) ok_tb_M_linesCross_0 53 rfl
theorem d_M_linesCross_90 : decode prog_6_method_20_code 90 = .ok (.iload 7, 2) := dOk_get (q := (90, .iload 7, 2)) ok_tb_M_linesCross_0 54 rfl
theorem d_M_linesCross_92 : decode prog_6_method_20_code 92 = .ok (.laload, 1) := dOk_get (q := (92, .laload, 1)) ok_tb_M_linesCross_0 55 rfl
theorem d_M_linesCross_93 : decode prog_6_method_20_code 93 = .ok (.aload_n 0, 1) := dOk_get (q := (93, .aload_n 0, 1)) ok_tb_M_linesCross_0 56 rfl
theorem d_M_linesCross_94 : decode prog_6_method_20_code 94 = .ok (.getfield 29, 3) := dOk_get (q := (94, .getfield 29, 3)) ok_tb_M_linesCross_0 57 rfl
theorem d_M_linesCross_97 : decode prog_6_method_20_code 97 = .ok (.iload 7, 2) := dOk_get (q := (97, .iload 7, 2)) ok_tb_M_linesCross_0 58 rfl
theorem d_M_linesCross_99 : decode prog_6_method_20_code 99 = .ok (.laload, 1) := dOk_get (q := (99, .laload, 1)) ok_tb_M_linesCross_0 59 rfl
theorem d_M_linesCross_100 : decode prog_6_method_20_code 100 = .ok (.invokestatic 126, 3) := dOk_get (q := (100, .invokestatic 126, 3)) ok_tb_M_linesCross_0 60 rfl
theorem d_M_linesCross_103 : decode prog_6_method_20_code 103 = .ok (.aload_n 0, 1) := dOk_get (q := (103, .aload_n 0, 1)) ok_tb_M_linesCross_0 61 rfl
theorem d_M_linesCross_104 : decode prog_6_method_20_code 104 = .ok (.getfield 25, 3) := dOk_get (q := (104, .getfield 25, 3)) ok_tb_M_linesCross_0 62 rfl
theorem d_M_linesCross_107 : decode prog_6_method_20_code 107 = .ok (.iload 4, 2) := dOk_get (q := (107, .iload 4, 2)) ok_tb_M_linesCross_0 63 rfl
theorem d_M_linesCross_109 : decode prog_6_method_20_code 109 = .ok (.laload, 1) := dOk_get (q := (109, .laload, 1)) ok_tb_M_linesCross_0 64 rfl
theorem d_M_linesCross_110 : decode prog_6_method_20_code 110 = .ok (.aload_n 0, 1) := dOk_get (q := (110, .aload_n 0, 1)) ok_tb_M_linesCross_0 65 rfl
theorem d_M_linesCross_111 : decode prog_6_method_20_code 111 = .ok (.getfield 29, 3) := dOk_get (q := (111, .getfield 29, 3)) ok_tb_M_linesCross_0 66 rfl
theorem d_M_linesCross_114 : decode prog_6_method_20_code 114 = .ok (.iload 4, 2) := dOk_get (q := (114, .iload 4, 2)) ok_tb_M_linesCross_0 67 rfl
theorem d_M_linesCross_116 : decode prog_6_method_20_code 116 = .ok (.laload, 1) := dOk_get (q := (116, .laload, 1)) ok_tb_M_linesCross_0 68 rfl
theorem d_M_linesCross_117 : decode prog_6_method_20_code 117 = .ok (.aload_n 0, 1) := dOk_get (q := (117, .aload_n 0, 1)) ok_tb_M_linesCross_0 69 rfl
theorem d_M_linesCross_118 : decode prog_6_method_20_code 118 = .ok (.getfield 25, 3) := dOk_get (q := (118, .getfield 25, 3)) ok_tb_M_linesCross_0 70 rfl
theorem d_M_linesCross_121 : decode prog_6_method_20_code 121 = .ok (.iload 5, 2) := dOk_get (q := (121, .iload 5, 2)) ok_tb_M_linesCross_0 71 rfl
theorem d_M_linesCross_123 : decode prog_6_method_20_code 123 = .ok (.laload, 1) := dOk_get (q := (123, .laload, 1)) ok_tb_M_linesCross_0 72 rfl
theorem d_M_linesCross_124 : decode prog_6_method_20_code 124 = .ok (.aload_n 0, 1) := dOk_get (q := (124, .aload_n 0, 1)) ok_tb_M_linesCross_0 73 rfl
theorem d_M_linesCross_125 : decode prog_6_method_20_code 125 = .ok (.getfield 29, 3) := dOk_get (q := (125, .getfield 29, 3)) ok_tb_M_linesCross_0 74 rfl
theorem d_M_linesCross_128 : decode prog_6_method_20_code 128 = .ok (.iload 5, 2) := dOk_get (q := (128, .iload 5, 2)) ok_tb_M_linesCross_0 75 rfl
theorem d_M_linesCross_130 : decode prog_6_method_20_code 130 = .ok (.laload, 1) := dOk_get (q := (130, .laload, 1)) ok_tb_M_linesCross_0 76 rfl
theorem d_M_linesCross_131 : decode prog_6_method_20_code 131 = .ok (.aload_n 0, 1) := dOk_get (q := (131, .aload_n 0, 1)) ok_tb_M_linesCross_0 77 rfl
theorem d_M_linesCross_132 : decode prog_6_method_20_code 132 = .ok (.getfield 25, 3) := dOk_get (q := (132, .getfield 25, 3)) ok_tb_M_linesCross_0 78 rfl
theorem d_M_linesCross_135 : decode prog_6_method_20_code 135 = .ok (.iload 8, 2) := dOk_get (q := (135, .iload 8, 2)) ok_tb_M_linesCross_0 79 rfl
theorem d_M_linesCross_137 : decode prog_6_method_20_code 137 = .ok (.laload, 1) := dOk_get (q := (137, .laload, 1)) ok_tb_M_linesCross_0 80 rfl
theorem d_M_linesCross_138 : decode prog_6_method_20_code 138 = .ok (.aload_n 0, 1) := dOk_get (q := (138, .aload_n 0, 1)) ok_tb_M_linesCross_0 81 rfl
theorem d_M_linesCross_139 : decode prog_6_method_20_code 139 = .ok (.getfield 29, 3) := dOk_get (q := (139, .getfield 29, 3)) ok_tb_M_linesCross_0 82 rfl
theorem d_M_linesCross_142 : decode prog_6_method_20_code 142 = .ok (.iload 8, 2) := dOk_get (q := (142, .iload 8, 2)) ok_tb_M_linesCross_0 83 rfl
theorem d_M_linesCross_144 : decode prog_6_method_20_code 144 = .ok (.laload, 1) := dOk_get (q := (144, .laload, 1)) ok_tb_M_linesCross_0 84 rfl
theorem d_M_linesCross_145 : decode prog_6_method_20_code 145 = .ok (.invokestatic 126, 3) := dOk_get (q := (145, .invokestatic 126, 3)) ok_tb_M_linesCross_0 85 rfl
theorem d_M_linesCross_148 : decode prog_6_method_20_code 148 = .ok (.imul, 1) := dOk_get (q := (148, .imul, 1)) ok_tb_M_linesCross_0 86 rfl
theorem d_M_linesCross_149 : decode prog_6_method_20_code 149 = .ok (.ifCond .ge 7, 3) := dOk_get (q := (149, .ifCond .ge 7, 3)) ok_tb_M_linesCross_0 87 rfl
theorem d_M_linesCross_152 : decode prog_6_method_20_code 152 = .ok (.iconst 1, 1) := dOk_get (q := (152, .iconst 1, 1)) ok_tb_M_linesCross_0 88 rfl
theorem d_M_linesCross_153 : decode prog_6_method_20_code 153 = .ok (.goto 4, 3) := dOk_get (q := (153, .goto 4, 3)) ok_tb_M_linesCross_0 89 rfl
theorem d_M_linesCross_156 : decode prog_6_method_20_code 156 = .ok (.iconst 0, 1) := dOk_get (q := (156, .iconst 0, 1)) ok_tb_M_linesCross_0 90 rfl
theorem d_M_linesCross_157 : decode prog_6_method_20_code 157 = .ok (.istore 9, 2) := dOk_get (q := (157, .istore 9, 2)) ok_tb_M_linesCross_0 91 rfl
theorem d_M_linesCross_159 : decode prog_6_method_20_code 159 = .ok (.aload_n 0, 1) := dOk_get (q := (159, .aload_n 0, 1)) ok_tb_M_linesCross_0 92 rfl
theorem d_M_linesCross_160 : decode prog_6_method_20_code 160 = .ok (.getfield 25, 3) := dOk_get (q := (160, .getfield 25, 3)) ok_tb_M_linesCross_0 93 rfl
theorem d_M_linesCross_163 : decode prog_6_method_20_code 163 = .ok (.iload 7, 2) := dOk_get (q := (163, .iload 7, 2)) ok_tb_M_linesCross_0 94 rfl
theorem d_M_linesCross_165 : decode prog_6_method_20_code 165 = .ok (.laload, 1) := dOk_get (q := (165, .laload, 1)) ok_tb_M_linesCross_0 95 rfl
theorem d_M_linesCross_166 : decode prog_6_method_20_code 166 = .ok (.aload_n 0, 1) := dOk_get (q := (166, .aload_n 0, 1)) ok_tb_M_linesCross_0 96 rfl
theorem d_M_linesCross_167 : decode prog_6_method_20_code 167 = .ok (.getfield 29, 3) := dOk_get (q := (167, .getfield 29, 3)) ok_tb_M_linesCross_0 97 rfl
theorem d_M_linesCross_170 : decode prog_6_method_20_code 170 = .ok (.iload 7, 2) := dOk_get (q := (170, .iload 7, 2)) ok_tb_M_linesCross_0 98 rfl
theorem d_M_linesCross_172 : decode prog_6_method_20_code 172 = .ok (.laload, 1) := dOk_get (q := (172, .laload, 1)) ok_tb_M_linesCross_0 99 rfl
theorem d_M_linesCross_173 : decode prog_6_method_20_code 173 = .ok (.aload_n 0, 1) := dOk_get (q := (173, .aload_n 0, 1)) ok_tb_M_linesCross_0 100 rfl
theorem d_M_linesCross_174 : decode prog_6_method_20_code 174 = .ok (.getfield 25, 3) := dOk_get (q := (174, .getfield 25, 3)) ok_tb_M_linesCross_0 101 rfl
theorem d_M_linesCross_177 : decode prog_6_method_20_code 177 = .ok (.iload 8, 2) := dOk_get (q := (177, .iload 8, 2)) ok_tb_M_linesCross_0 102 rfl
theorem d_M_linesCross_179 : decode prog_6_method_20_code 179 = .ok (.laload, 1) := dOk_get (q := (179, .laload, 1)) ok_tb_M_linesCross_0 103 rfl
theorem d_M_linesCross_180 : decode prog_6_method_20_code 180 = .ok (.aload_n 0, 1) := dOk_get (q := (180, .aload_n 0, 1)) ok_tb_M_linesCross_0 104 rfl
theorem d_M_linesCross_181 : decode prog_6_method_20_code 181 = .ok (.getfield 29, 3) := dOk_get (q := (181, .getfield 29, 3)) ok_tb_M_linesCross_0 105 rfl
theorem d_M_linesCross_184 : decode prog_6_method_20_code 184 = .ok (.iload 8, 2) := dOk_get (q := (184, .iload 8, 2)) ok_tb_M_linesCross_0 106 rfl
theorem d_M_linesCross_186 : decode prog_6_method_20_code 186 = .ok (.laload, 1) := dOk_get (q := (186, .laload, 1)) ok_tb_M_linesCross_0 107 rfl
theorem d_M_linesCross_187 : decode prog_6_method_20_code 187 = .ok (.aload_n 0, 1) := dOk_get (q := (187, .aload_n 0, 1)) ok_tb_M_linesCross_0 108 rfl
theorem d_M_linesCross_188 : decode prog_6_method_20_code 188 = .ok (.getfield 25, 3) := dOk_get (q := (188, .getfield 25, 3)) ok_tb_M_linesCross_0 109 rfl
theorem d_M_linesCross_191 : decode prog_6_method_20_code 191 = .ok (.iload 4, 2) := dOk_get (q := (191, .iload 4, 2)) ok_tb_M_linesCross_0 110 rfl
theorem d_M_linesCross_193 : decode prog_6_method_20_code 193 = .ok (.laload, 1) := dOk_get (q := (193, .laload, 1)) ok_tb_M_linesCross_0 111 rfl
theorem d_M_linesCross_194 : decode prog_6_method_20_code 194 = .ok (.aload_n 0, 1) := dOk_get (q := (194, .aload_n 0, 1)) ok_tb_M_linesCross_0 112 rfl
theorem d_M_linesCross_195 : decode prog_6_method_20_code 195 = .ok (.getfield 29, 3) := dOk_get (q := (195, .getfield 29, 3)) ok_tb_M_linesCross_0 113 rfl
theorem d_M_linesCross_198 : decode prog_6_method_20_code 198 = .ok (.iload 4, 2) := dOk_get (q := (198, .iload 4, 2)) ok_tb_M_linesCross_0 114 rfl
theorem d_M_linesCross_200 : decode prog_6_method_20_code 200 = .ok (.laload, 1) := dOk_get (q := (200, .laload, 1)) ok_tb_M_linesCross_0 115 rfl
theorem d_M_linesCross_201 : decode prog_6_method_20_code 201 = .ok (.invokestatic 126, 3) := dOk_get (q := (201, .invokestatic 126, 3)) ok_tb_M_linesCross_0 116 rfl
theorem d_M_linesCross_204 : decode prog_6_method_20_code 204 = .ok (.aload_n 0, 1) := dOk_get (q := (204, .aload_n 0, 1)) ok_tb_M_linesCross_0 117 rfl
theorem d_M_linesCross_205 : decode prog_6_method_20_code 205 = .ok (.getfield 25, 3) := dOk_get (q := (205, .getfield 25, 3)) ok_tb_M_linesCross_0 118 rfl
theorem d_M_linesCross_208 : decode prog_6_method_20_code 208 = .ok (.iload 7, 2) := dOk_get (q := (208, .iload 7, 2)) ok_tb_M_linesCross_0 119 rfl
def tb_M_linesCross_1 : List (Nat × Instr × Nat) := [(210, .laload, 1), (211, .aload_n 0, 1), (212, .getfield 29, 3), (215, .iload 7, 2), (217, .laload, 1), (218, .aload_n 0, 1), (219, .getfield 25, 3), (222, .iload 8, 2), (224, .laload, 1), (225, .aload_n 0, 1), (226, .getfield 29, 3), (229, .iload 8, 2), (231, .laload, 1), (232, .aload_n 0, 1), (233, .getfield 25, 3), (236, .iload 5, 2), (238, .laload, 1), (239, .aload_n 0, 1), (240, .getfield 29, 3), (243, .iload 5, 2), (245, .laload, 1), (246, .invokestatic 126, 3), (249, .imul, 1), (250, .ifCond .ge 7, 3), (253, .iconst 1, 1), (254, .goto 4, 3), (257, .iconst 0, 1), (258, .istore 10, 2), (260, .iload 9, 2), (262, .ifCond .eq 10, 3), (265, .iload 10, 2), (267, .ifCond .eq 5, 3), (270, .iconst 1, 1), (271, .ireturn, 1), (272, .iinc 6 1, 3), (275, .goto (-245), 3), (278, .iinc 3 1, 3), (281, .goto (-279), 3), (284, .iconst 0, 1), (285, .ireturn, 1)]
theorem ok_tb_M_linesCross_1 : dOk prog_6_method_20_code tb_M_linesCross_1 = true := by decide +kernel
theorem d_M_linesCross_210 : decode prog_6_method_20_code 210 = .ok (.laload, 1) := dOk_get (q := (210, .laload, 1)) ok_tb_M_linesCross_1 0 rfl
theorem d_M_linesCross_211 : decode prog_6_method_20_code 211 = .ok (.aload_n 0, 1) := dOk_get (q := (211, .aload_n 0, 1)) ok_tb_M_linesCross_1 1 rfl
theorem d_M_linesCross_212 : decode prog_6_method_20_code 212 = .ok (.getfield 29, 3) := dOk_get (q := (212, .getfield 29, 3)) ok_tb_M_linesCross_1 2 rfl
theorem d_M_linesCross_215 : decode prog_6_method_20_code 215 = .ok (.iload 7, 2) := dOk_get (q := (215, .iload 7, 2)) ok_tb_M_linesCross_1 3 rfl
theorem d_M_linesCross_217 : decode prog_6_method_20_code 217 = .ok (.laload, 1) := dOk_get (q := (217, .laload, 1)) ok_tb_M_linesCross_1 4 rfl
theorem d_M_linesCross_218 : decode prog_6_method_20_code 218 = .ok (.aload_n 0, 1) := dOk_get (q := (218, .aload_n 0, 1)) ok_tb_M_linesCross_1 5 rfl
theorem d_M_linesCross_219 : decode prog_6_method_20_code 219 = .ok (.getfield 25, 3) := dOk_get (q := (219, .getfield 25, 3)) ok_tb_M_linesCross_1 6 rfl
theorem d_M_linesCross_222 : decode prog_6_method_20_code 222 = .ok (.iload 8, 2) := dOk_get (q := (222, .iload 8, 2)) ok_tb_M_linesCross_1 7 rfl
theorem d_M_linesCross_224 : decode prog_6_method_20_code 224 = .ok (.laload, 1) := dOk_get (q := (224, .laload, 1)) ok_tb_M_linesCross_1 8 rfl
theorem d_M_linesCross_225 : decode prog_6_method_20_code 225 = .ok (.aload_n 0, 1) := dOk_get (q := (225, .aload_n 0, 1)) ok_tb_M_linesCross_1 9 rfl
theorem d_M_linesCross_226 : decode prog_6_method_20_code 226 = .ok (.getfield 29, 3) := dOk_get (q := (226, .getfield 29, 3)) ok_tb_M_linesCross_1 10 rfl
theorem d_M_linesCross_229 : decode prog_6_method_20_code 229 = .ok (.iload 8, 2) := dOk_get (q := (229, .iload 8, 2)) ok_tb_M_linesCross_1 11 rfl
theorem d_M_linesCross_231 : decode prog_6_method_20_code 231 = .ok (.laload, 1) := dOk_get (q := (231, .laload, 1)) ok_tb_M_linesCross_1 12 rfl
theorem d_M_linesCross_232 : decode prog_6_method_20_code 232 = .ok (.aload_n 0, 1) := dOk_get (q := (232, .aload_n 0, 1)) ok_tb_M_linesCross_1 13 rfl
theorem d_M_linesCross_233 : decode prog_6_method_20_code 233 = .ok (.getfield 25, 3) := dOk_get (q := (233, .getfield 25, 3)) ok_tb_M_linesCross_1 14 rfl
theorem d_M_linesCross_236 : decode prog_6_method_20_code 236 = .ok (.iload 5, 2) := dOk_get (q := (236, .iload 5, 2)) ok_tb_M_linesCross_1 15 rfl
theorem d_M_linesCross_238 : decode prog_6_method_20_code 238 = .ok (.laload, 1) := dOk_get (q := (238, .laload, 1)) ok_tb_M_linesCross_1 16 rfl
theorem d_M_linesCross_239 : decode prog_6_method_20_code 239 = .ok (.aload_n 0, 1) := dOk_get (q := (239, .aload_n 0, 1)) ok_tb_M_linesCross_1 17 rfl
theorem d_M_linesCross_240 : decode prog_6_method_20_code 240 = .ok (.getfield 29, 3) := dOk_get (q := (240, .getfield 29, 3)) ok_tb_M_linesCross_1 18 rfl
theorem d_M_linesCross_243 : decode prog_6_method_20_code 243 = .ok (.iload 5, 2) := dOk_get (q := (243, .iload 5, 2)) ok_tb_M_linesCross_1 19 rfl
theorem d_M_linesCross_245 : decode prog_6_method_20_code 245 = .ok (.laload, 1) := dOk_get (q := (245, .laload, 1)) ok_tb_M_linesCross_1 20 rfl
theorem d_M_linesCross_246 : decode prog_6_method_20_code 246 = .ok (.invokestatic 126, 3) := dOk_get (q := (246, .invokestatic 126, 3)) ok_tb_M_linesCross_1 21 rfl
theorem d_M_linesCross_249 : decode prog_6_method_20_code 249 = .ok (.imul, 1) := dOk_get (q := (249, .imul, 1)) ok_tb_M_linesCross_1 22 rfl
theorem d_M_linesCross_250 : decode prog_6_method_20_code 250 = .ok (.ifCond .ge 7, 3) := dOk_get (q := (250, .ifCond .ge 7, 3)) ok_tb_M_linesCross_1 23 rfl
theorem d_M_linesCross_253 : decode prog_6_method_20_code 253 = .ok (.iconst 1, 1) := dOk_get (q := (253, .iconst 1, 1)) ok_tb_M_linesCross_1 24 rfl
theorem d_M_linesCross_254 : decode prog_6_method_20_code 254 = .ok (.goto 4, 3) := dOk_get (q := (254, .goto 4, 3)) ok_tb_M_linesCross_1 25 rfl
theorem d_M_linesCross_257 : decode prog_6_method_20_code 257 = .ok (.iconst 0, 1) := dOk_get (q := (257, .iconst 0, 1)) ok_tb_M_linesCross_1 26 rfl
theorem d_M_linesCross_258 : decode prog_6_method_20_code 258 = .ok (.istore 10, 2) := dOk_get (q := (258, .istore 10, 2)) ok_tb_M_linesCross_1 27 rfl
theorem d_M_linesCross_260 : decode prog_6_method_20_code 260 = .ok (.iload 9, 2) := dOk_get (q := (260, .iload 9, 2)) ok_tb_M_linesCross_1 28 rfl
theorem d_M_linesCross_262 : decode prog_6_method_20_code 262 = .ok (.ifCond .eq 10, 3) := dOk_get (q := (262, .ifCond .eq 10, 3)) ok_tb_M_linesCross_1 29 rfl
theorem d_M_linesCross_265 : decode prog_6_method_20_code 265 = .ok (.iload 10, 2) := dOk_get (q := (265, .iload 10, 2)) ok_tb_M_linesCross_1 30 rfl
theorem d_M_linesCross_267 : decode prog_6_method_20_code 267 = .ok (.ifCond .eq 5, 3) := dOk_get (q := (267, .ifCond .eq 5, 3)) ok_tb_M_linesCross_1 31 rfl
theorem d_M_linesCross_270 : decode prog_6_method_20_code 270 = .ok (.iconst 1, 1) := dOk_get (q := (270, .iconst 1, 1)) ok_tb_M_linesCross_1 32 rfl
theorem d_M_linesCross_271 : decode prog_6_method_20_code 271 = .ok (.ireturn, 1) := dOk_get (q := (271, .ireturn, 1)) ok_tb_M_linesCross_1 33 rfl
theorem d_M_linesCross_272 : decode prog_6_method_20_code 272 = .ok (.iinc 6 1, 3) := dOk_get (q := (272, .iinc 6 1, 3)) ok_tb_M_linesCross_1 34 rfl
theorem d_M_linesCross_275 : decode prog_6_method_20_code 275 = .ok (.goto (-245), 3) := dOk_get (q := (275, .goto (-245), 3)) ok_tb_M_linesCross_1 35 rfl
theorem d_M_linesCross_278 : decode prog_6_method_20_code 278 = .ok (.iinc 3 1, 3) := dOk_get (q := (278, .iinc 3 1, 3)) ok_tb_M_linesCross_1 36 rfl
theorem d_M_linesCross_281 : decode prog_6_method_20_code 281 = .ok (.goto (-279), 3) := dOk_get (q := (281, .goto (-279), 3)) ok_tb_M_linesCross_1 37 rfl
theorem d_M_linesCross_284 : decode prog_6_method_20_code 284 = .ok (.iconst 0, 1) := dOk_get (q := (284, .iconst 0, 1)) ok_tb_M_linesCross_1 38 rfl
theorem d_M_linesCross_285 : decode prog_6_method_20_code 285 = .ok (.ireturn, 1) := dOk_get (q := (285, .ireturn, 1)) ok_tb_M_linesCross_1 39 rfl
def tb_M_side_0 : List (Nat × Instr × Nat) := [(0, .lload 4, 2), (2, .lload_n 0, 1), (3, .lsub, 1), (4, .lload 10, 2), (6, .lload_n 2, 1), (7, .lsub, 1), (8, .lmul, 1), (9, .lload 6, 2), (11, .lload_n 2, 1), (12, .lsub, 1), (13, .lload 8, 2), (15, .lload_n 0, 1), (16, .lsub, 1), (17, .lmul, 1), (18, .lsub, 1), (19, .lstore 12, 2), (21, .lload 12, 2), (23, .lconst 0, 1), (24, .lcmp, 1), (25, .ifCond .ge 7, 3), (28, .iconst (-1), 1), (29, .goto 15, 3), (32, .lload 12, 2), (34, .lconst 0, 1), (35, .lcmp, 1), (36, .ifCond .le 7, 3), (39, .iconst 1, 1), (40, .goto 4, 3), (43, .iconst 0, 1), (44, .ireturn, 1)]
theorem ok_tb_M_side_0 : dOk prog_6_method_16_code tb_M_side_0 = true := by decide +kernel
theorem d_M_side_0 : decode prog_6_method_16_code 0 = .ok (.lload 4, 2) := dOk_get (q := (0, .lload 4, 2)) ok_tb_M_side_0 0 rfl
theorem d_M_side_2 : decode prog_6_method_16_code 2 = .ok (.lload_n 0, 1) := dOk_get (q := (2, .lload_n 0, 1)) ok_tb_M_side_0 1 rfl
theorem d_M_side_3 : decode prog_6_method_16_code 3 = .ok (.lsub, 1) := dOk_get (q := (3, .lsub, 1)) ok_tb_M_side_0 2 rfl
theorem d_M_side_4 : decode prog_6_method_16_code 4 = .ok (.lload 10, 2) := dOk_get (q := (4, .lload 10, 2)) ok_tb_M_side_0 3 rfl
theorem d_M_side_6 : decode prog_6_method_16_code 6 = .ok (.lload_n 2, 1) := dOk_get (q := (6, .lload_n 2, 1)) ok_tb_M_side_0 4 rfl
theorem d_M_side_7 : decode prog_6_method_16_code 7 = .ok (.lsub, 1) := dOk_get (q := (7, .lsub, 1)) ok_tb_M_side_0 5 rfl
theorem d_M_side_8 : decode prog_6_method_16_code 8 = .ok (.lmul, 1) := dOk_get (q := (8, .lmul, 1)) ok_tb_M_side_0 6 rfl
theorem d_M_side_9 : decode prog_6_method_16_code 9 = .ok (.lload 6, 2) := dOk_get (q := (9, .lload 6, 2)) ok_tb_M_side_0 7 rfl
theorem d_M_side_11 : decode prog_6_method_16_code 11 = .ok (.lload_n 2, 1) := dOk_get (q := (11, .lload_n 2, 1)) ok_tb_M_side_0 8 rfl
theorem d_M_side_12 : decode prog_6_method_16_code 12 = .ok (.lsub, 1) := dOk_get (q := (12, .lsub, 1)) ok_tb_M_side_0 9 rfl
theorem d_M_side_13 : decode prog_6_method_16_code 13 = .ok (.lload 8, 2) := dOk_get (q := (13, .lload 8, 2)) ok_tb_M_side_0 10 rfl
theorem d_M_side_15 : decode prog_6_method_16_code 15 = .ok (.lload_n 0, 1) := dOk_get (q := (15, .lload_n 0, 1)) ok_tb_M_side_0 11 rfl
theorem d_M_side_16 : decode prog_6_method_16_code 16 = .ok (.lsub, 1) := dOk_get (q := (16, .lsub, 1)) ok_tb_M_side_0 12 rfl
theorem d_M_side_17 : decode prog_6_method_16_code 17 = .ok (.lmul, 1) := dOk_get (q := (17, .lmul, 1)) ok_tb_M_side_0 13 rfl
theorem d_M_side_18 : decode prog_6_method_16_code 18 = .ok (.lsub, 1) := dOk_get (q := (18, .lsub, 1)) ok_tb_M_side_0 14 rfl
theorem d_M_side_19 : decode prog_6_method_16_code 19 = .ok (.lstore 12, 2) := dOk_get (q := (19, .lstore 12, 2)) ok_tb_M_side_0 15 rfl
theorem d_M_side_21 : decode prog_6_method_16_code 21 = .ok (.lload 12, 2) := dOk_get (q := (21, .lload 12, 2)) ok_tb_M_side_0 16 rfl
theorem d_M_side_23 : decode prog_6_method_16_code 23 = .ok (.lconst 0, 1) := dOk_get (q := (23, .lconst 0, 1)) ok_tb_M_side_0 17 rfl
theorem d_M_side_24 : decode prog_6_method_16_code 24 = .ok (.lcmp, 1) := dOk_get (q := (24, .lcmp, 1)) ok_tb_M_side_0 18 rfl
theorem d_M_side_25 : decode prog_6_method_16_code 25 = .ok (.ifCond .ge 7, 3) := dOk_get (q := (25, .ifCond .ge 7, 3)) ok_tb_M_side_0 19 rfl
theorem d_M_side_28 : decode prog_6_method_16_code 28 = .ok (.iconst (-1), 1) := dOk_get (q := (28, .iconst (-1), 1)) ok_tb_M_side_0 20 rfl
theorem d_M_side_29 : decode prog_6_method_16_code 29 = .ok (.goto 15, 3) := dOk_get (q := (29, .goto 15, 3)) ok_tb_M_side_0 21 rfl
theorem d_M_side_32 : decode prog_6_method_16_code 32 = .ok (.lload 12, 2) := dOk_get (q := (32, .lload 12, 2)) ok_tb_M_side_0 22 rfl
theorem d_M_side_34 : decode prog_6_method_16_code 34 = .ok (.lconst 0, 1) := dOk_get (q := (34, .lconst 0, 1)) ok_tb_M_side_0 23 rfl
theorem d_M_side_35 : decode prog_6_method_16_code 35 = .ok (.lcmp, 1) := dOk_get (q := (35, .lcmp, 1)) ok_tb_M_side_0 24 rfl
theorem d_M_side_36 : decode prog_6_method_16_code 36 = .ok (.ifCond .le 7, 3) := dOk_get (q := (36, .ifCond .le 7, 3)) ok_tb_M_side_0 25 rfl
theorem d_M_side_39 : decode prog_6_method_16_code 39 = .ok (.iconst 1, 1) := dOk_get (q := (39, .iconst 1, 1)) ok_tb_M_side_0 26 rfl
theorem d_M_side_40 : decode prog_6_method_16_code 40 = .ok (.goto 4, 3) := dOk_get (q := (40, .goto 4, 3)) ok_tb_M_side_0 27 rfl
theorem d_M_side_43 : decode prog_6_method_16_code 43 = .ok (.iconst 0, 1) := dOk_get (q := (43, .iconst 0, 1)) ok_tb_M_side_0 28 rfl
theorem d_M_side_44 : decode prog_6_method_16_code 44 = .ok (.ireturn, 1) := dOk_get (q := (44, .ireturn, 1)) ok_tb_M_side_0 29 rfl
def tb_M_isWaived_0 : List (Nat × Instr × Nat) := [(0, .iconst 0, 1), (1, .istore_n 2, 1), (2, .iload_n 2, 1), (3, .aload_n 0, 1), (4, .getfield 190, 3), (7, .if_icmp .ge 67, 3), (10, .iconst 1, 1), (11, .istore_n 3, 1), (12, .iconst 0, 1), (13, .istore 4, 2), (15, .iload 4, 2), (17, .iconst 3, 1), (18, .if_icmp .ge 44, 3), (21, .iload_n 3, 1), (22, .ifCond .eq 32, 3), (25, .aload_n 0, 1), (26, .getfield 63, 3), (29, .iconst 3, 1), (30, .iload_n 2, 1), (31, .imul, 1), (32, .iload 4, 2), (34, .iadd, 1), (35, .iaload, 1), (36, .aload_n 0, 1), (37, .getfield 54, 3), (40, .iconst 3, 1), (41, .iload_n 1, 1), (42, .imul, 1), (43, .iload 4, 2), (45, .iadd, 1), (46, .iaload, 1), (47, .if_icmp .ne 7, 3), (50, .iconst 1, 1), (51, .goto 4, 3), (54, .iconst 0, 1), (55, .istore_n 3, 1), (56, .iinc 4 1, 3), (59, .goto (-44), 3), (62, .iload_n 3, 1), (63, .ifCond .eq 5, 3), (66, .iconst 1, 1), (67, .ireturn, 1), (68, .iinc 2 1, 3), (71, .goto (-69), 3), (74, .iconst 0, 1), (75, .ireturn, 1)]
theorem ok_tb_M_isWaived_0 : dOk prog_6_method_35_code tb_M_isWaived_0 = true := by decide +kernel
theorem d_M_isWaived_0 : decode prog_6_method_35_code 0 = .ok (.iconst 0, 1) := dOk_get (q := (0, .iconst 0, 1)) ok_tb_M_isWaived_0 0 rfl
theorem d_M_isWaived_1 : decode prog_6_method_35_code 1 = .ok (.istore_n 2, 1) := dOk_get (q := (1, .istore_n 2, 1)) ok_tb_M_isWaived_0 1 rfl
theorem d_M_isWaived_2 : decode prog_6_method_35_code 2 = .ok (.iload_n 2, 1) := dOk_get (q := (2, .iload_n 2, 1)) ok_tb_M_isWaived_0 2 rfl
theorem d_M_isWaived_3 : decode prog_6_method_35_code 3 = .ok (.aload_n 0, 1) := dOk_get (q := (3, .aload_n 0, 1)) ok_tb_M_isWaived_0 3 rfl
theorem d_M_isWaived_4 : decode prog_6_method_35_code 4 = .ok (.getfield 190, 3) := dOk_get (q := (4, .getfield 190, 3)) ok_tb_M_isWaived_0 4 rfl
theorem d_M_isWaived_7 : decode prog_6_method_35_code 7 = .ok (.if_icmp .ge 67, 3) := dOk_get (q := (7, .if_icmp .ge 67, 3)) ok_tb_M_isWaived_0 5 rfl
theorem d_M_isWaived_10 : decode prog_6_method_35_code 10 = .ok (.iconst 1, 1) := dOk_get (q := (10, .iconst 1, 1)) ok_tb_M_isWaived_0 6 rfl
theorem d_M_isWaived_11 : decode prog_6_method_35_code 11 = .ok (.istore_n 3, 1) := dOk_get (q := (11, .istore_n 3, 1)) ok_tb_M_isWaived_0 7 rfl
theorem d_M_isWaived_12 : decode prog_6_method_35_code 12 = .ok (.iconst 0, 1) := dOk_get (q := (12, .iconst 0, 1)) ok_tb_M_isWaived_0 8 rfl
theorem d_M_isWaived_13 : decode prog_6_method_35_code 13 = .ok (.istore 4, 2) := dOk_get (q := (13, .istore 4, 2)) ok_tb_M_isWaived_0 9 rfl
theorem d_M_isWaived_15 : decode prog_6_method_35_code 15 = .ok (.iload 4, 2) := dOk_get (q := (15, .iload 4, 2)) ok_tb_M_isWaived_0 10 rfl
theorem d_M_isWaived_17 : decode prog_6_method_35_code 17 = .ok (.iconst 3, 1) := dOk_get (q := (17, .iconst 3, 1)) ok_tb_M_isWaived_0 11 rfl
theorem d_M_isWaived_18 : decode prog_6_method_35_code 18 = .ok (.if_icmp .ge 44, 3) := dOk_get (q := (18, .if_icmp .ge 44, 3)) ok_tb_M_isWaived_0 12 rfl
theorem d_M_isWaived_21 : decode prog_6_method_35_code 21 = .ok (.iload_n 3, 1) := dOk_get (q := (21, .iload_n 3, 1)) ok_tb_M_isWaived_0 13 rfl
theorem d_M_isWaived_22 : decode prog_6_method_35_code 22 = .ok (.ifCond .eq 32, 3) := dOk_get (q := (22, .ifCond .eq 32, 3)) ok_tb_M_isWaived_0 14 rfl
theorem d_M_isWaived_25 : decode prog_6_method_35_code 25 = .ok (.aload_n 0, 1) := dOk_get (q := (25, .aload_n 0, 1)) ok_tb_M_isWaived_0 15 rfl
theorem d_M_isWaived_26 : decode prog_6_method_35_code 26 = .ok (.getfield 63, 3) := dOk_get (q := (26, .getfield 63, 3)) ok_tb_M_isWaived_0 16 rfl
theorem d_M_isWaived_29 : decode prog_6_method_35_code 29 = .ok (.iconst 3, 1) := dOk_get (q := (29, .iconst 3, 1)) ok_tb_M_isWaived_0 17 rfl
theorem d_M_isWaived_30 : decode prog_6_method_35_code 30 = .ok (.iload_n 2, 1) := dOk_get (q := (30, .iload_n 2, 1)) ok_tb_M_isWaived_0 18 rfl
theorem d_M_isWaived_31 : decode prog_6_method_35_code 31 = .ok (.imul, 1) := dOk_get (q := (31, .imul, 1)) ok_tb_M_isWaived_0 19 rfl
theorem d_M_isWaived_32 : decode prog_6_method_35_code 32 = .ok (.iload 4, 2) := dOk_get (q := (32, .iload 4, 2)) ok_tb_M_isWaived_0 20 rfl
theorem d_M_isWaived_34 : decode prog_6_method_35_code 34 = .ok (.iadd, 1) := dOk_get (q := (34, .iadd, 1)) ok_tb_M_isWaived_0 21 rfl
theorem d_M_isWaived_35 : decode prog_6_method_35_code 35 = .ok (.iaload, 1) := dOk_get (q := (35, .iaload, 1)) ok_tb_M_isWaived_0 22 rfl
theorem d_M_isWaived_36 : decode prog_6_method_35_code 36 = .ok (.aload_n 0, 1) := dOk_get (q := (36, .aload_n 0, 1)) ok_tb_M_isWaived_0 23 rfl
theorem d_M_isWaived_37 : decode prog_6_method_35_code 37 = .ok (.getfield 54, 3) := dOk_get (q := (37, .getfield 54, 3)) ok_tb_M_isWaived_0 24 rfl
theorem d_M_isWaived_40 : decode prog_6_method_35_code 40 = .ok (.iconst 3, 1) := dOk_get (q := (40, .iconst 3, 1)) ok_tb_M_isWaived_0 25 rfl
theorem d_M_isWaived_41 : decode prog_6_method_35_code 41 = .ok (.iload_n 1, 1) := dOk_get (q := (41, .iload_n 1, 1)) ok_tb_M_isWaived_0 26 rfl
theorem d_M_isWaived_42 : decode prog_6_method_35_code 42 = .ok (.imul, 1) := dOk_get (q := (42, .imul, 1)) ok_tb_M_isWaived_0 27 rfl
theorem d_M_isWaived_43 : decode prog_6_method_35_code 43 = .ok (.iload 4, 2) := dOk_get (q := (43, .iload 4, 2)) ok_tb_M_isWaived_0 28 rfl
theorem d_M_isWaived_45 : decode prog_6_method_35_code 45 = .ok (.iadd, 1) := dOk_get (q := (45, .iadd, 1)) ok_tb_M_isWaived_0 29 rfl
theorem d_M_isWaived_46 : decode prog_6_method_35_code 46 = .ok (.iaload, 1) := dOk_get (q := (46, .iaload, 1)) ok_tb_M_isWaived_0 30 rfl
theorem d_M_isWaived_47 : decode prog_6_method_35_code 47 = .ok (.if_icmp .ne 7, 3) := dOk_get (q := (47, .if_icmp .ne 7, 3)) ok_tb_M_isWaived_0 31 rfl
theorem d_M_isWaived_50 : decode prog_6_method_35_code 50 = .ok (.iconst 1, 1) := dOk_get (q := (50, .iconst 1, 1)) ok_tb_M_isWaived_0 32 rfl
theorem d_M_isWaived_51 : decode prog_6_method_35_code 51 = .ok (.goto 4, 3) := dOk_get (q := (51, .goto 4, 3)) ok_tb_M_isWaived_0 33 rfl
theorem d_M_isWaived_54 : decode prog_6_method_35_code 54 = .ok (.iconst 0, 1) := dOk_get (q := (54, .iconst 0, 1)) ok_tb_M_isWaived_0 34 rfl
theorem d_M_isWaived_55 : decode prog_6_method_35_code 55 = .ok (.istore_n 3, 1) := dOk_get (q := (55, .istore_n 3, 1)) ok_tb_M_isWaived_0 35 rfl
theorem d_M_isWaived_56 : decode prog_6_method_35_code 56 = .ok (.iinc 4 1, 3) := dOk_get (q := (56, .iinc 4 1, 3)) ok_tb_M_isWaived_0 36 rfl
theorem d_M_isWaived_59 : decode prog_6_method_35_code 59 = .ok (.goto (-44), 3) := dOk_get (q := (59, .goto (-44), 3)) ok_tb_M_isWaived_0 37 rfl
theorem d_M_isWaived_62 : decode prog_6_method_35_code 62 = .ok (.iload_n 3, 1) := dOk_get (q := (62, .iload_n 3, 1)) ok_tb_M_isWaived_0 38 rfl
theorem d_M_isWaived_63 : decode prog_6_method_35_code 63 = .ok (.ifCond .eq 5, 3) := dOk_get (q := (63, .ifCond .eq 5, 3)) ok_tb_M_isWaived_0 39 rfl
theorem d_M_isWaived_66 : decode prog_6_method_35_code 66 = .ok (.iconst 1, 1) := dOk_get (q := (66, .iconst 1, 1)) ok_tb_M_isWaived_0 40 rfl
theorem d_M_isWaived_67 : decode prog_6_method_35_code 67 = .ok (.ireturn, 1) := dOk_get (q := (67, .ireturn, 1)) ok_tb_M_isWaived_0 41 rfl
theorem d_M_isWaived_68 : decode prog_6_method_35_code 68 = .ok (.iinc 2 1, 3) := dOk_get (q := (68, .iinc 2 1, 3)) ok_tb_M_isWaived_0 42 rfl
theorem d_M_isWaived_71 : decode prog_6_method_35_code 71 = .ok (.goto (-69), 3) := dOk_get (q := (71, .goto (-69), 3)) ok_tb_M_isWaived_0 43 rfl
theorem d_M_isWaived_74 : decode prog_6_method_35_code 74 = .ok (.iconst 0, 1) := dOk_get (q := (74, .iconst 0, 1)) ok_tb_M_isWaived_0 44 rfl
theorem d_M_isWaived_75 : decode prog_6_method_35_code 75 = .ok (.ireturn, 1) := dOk_get (q := (75, .ireturn, 1)) ok_tb_M_isWaived_0 45 rfl
def tb_M_violation_0 : List (Nat × Instr × Nat) := [(0, .aload_n 0, 1), (1, .aload_n 0, 1), (2, .iload_n 1, 1), (3, .invokevirtual 202, 3), (6, .ifCond .eq 16, 3), (9, .iload_n 2, 1), (10, .ifCond .lt 12, 3), (13, .iload_n 2, 1), (14, .iconst 4, 1), (15, .if_icmp .ge 7, 3), (18, .iconst 0, 1), (19, .goto 4, 3), (22, .iconst 1, 1), (23, .putfield 69, 3), (26, .aload_n 0, 1), (27, .getfield 69, 3), (30, .ifCond .eq 5, 3), (33, .iconst 0, 1), (34, .ireturn, 1), (35, .iload_n 2, 1), (36, .iconst 3, 1), (37, .if_icmp .ge 16, 3), (40, .aload_n 0, 1), (41, .getfield 54, 3), (44, .iconst 3, 1), (45, .iload_n 1, 1), (46, .imul, 1), (47, .iload_n 2, 1), (48, .iadd, 1), (49, .iaload, 1), (50, .goto 16, 3), (53, .aload_n 0, 1), (54, .iload_n 1, 1), (55, .invokevirtual 199, 3), (58, .ifCond .eq 7, 3), (61, .iconst 1, 1), (62, .goto 4, 3), (65, .iconst 0, 1), (66, .ireturn, 1)]
theorem ok_tb_M_violation_0 : dOk prog_6_method_38_code tb_M_violation_0 = true := by decide +kernel
theorem d_M_violation_0 : decode prog_6_method_38_code 0 = .ok (.aload_n 0, 1) := dOk_get (q := (0, .aload_n 0, 1)) ok_tb_M_violation_0 0 rfl
theorem d_M_violation_1 : decode prog_6_method_38_code 1 = .ok (.aload_n 0, 1) := dOk_get (q := (1, .aload_n 0, 1)) ok_tb_M_violation_0 1 rfl
theorem d_M_violation_2 : decode prog_6_method_38_code 2 = .ok (.iload_n 1, 1) := dOk_get (q := (2, .iload_n 1, 1)) ok_tb_M_violation_0 2 rfl
theorem d_M_violation_3 : decode prog_6_method_38_code 3 = .ok (.invokevirtual 202, 3) := dOk_get (q := (3, .invokevirtual 202, 3)) ok_tb_M_violation_0 3 rfl
theorem d_M_violation_6 : decode prog_6_method_38_code 6 = .ok (.ifCond .eq 16, 3) := dOk_get (q := (6, .ifCond .eq 16, 3)) ok_tb_M_violation_0 4 rfl
theorem d_M_violation_9 : decode prog_6_method_38_code 9 = .ok (.iload_n 2, 1) := dOk_get (q := (9, .iload_n 2, 1)) ok_tb_M_violation_0 5 rfl
theorem d_M_violation_10 : decode prog_6_method_38_code 10 = .ok (.ifCond .lt 12, 3) := dOk_get (q := (10, .ifCond .lt 12, 3)) ok_tb_M_violation_0 6 rfl
theorem d_M_violation_13 : decode prog_6_method_38_code 13 = .ok (.iload_n 2, 1) := dOk_get (q := (13, .iload_n 2, 1)) ok_tb_M_violation_0 7 rfl
theorem d_M_violation_14 : decode prog_6_method_38_code 14 = .ok (.iconst 4, 1) := dOk_get (q := (14, .iconst 4, 1)) ok_tb_M_violation_0 8 rfl
theorem d_M_violation_15 : decode prog_6_method_38_code 15 = .ok (.if_icmp .ge 7, 3) := dOk_get (q := (15, .if_icmp .ge 7, 3)) ok_tb_M_violation_0 9 rfl
theorem d_M_violation_18 : decode prog_6_method_38_code 18 = .ok (.iconst 0, 1) := dOk_get (q := (18, .iconst 0, 1)) ok_tb_M_violation_0 10 rfl
theorem d_M_violation_19 : decode prog_6_method_38_code 19 = .ok (.goto 4, 3) := dOk_get (q := (19, .goto 4, 3)) ok_tb_M_violation_0 11 rfl
theorem d_M_violation_22 : decode prog_6_method_38_code 22 = .ok (.iconst 1, 1) := dOk_get (q := (22, .iconst 1, 1)) ok_tb_M_violation_0 12 rfl
theorem d_M_violation_23 : decode prog_6_method_38_code 23 = .ok (.putfield 69, 3) := dOk_get (q := (23, .putfield 69, 3)) ok_tb_M_violation_0 13 rfl
theorem d_M_violation_26 : decode prog_6_method_38_code 26 = .ok (.aload_n 0, 1) := dOk_get (q := (26, .aload_n 0, 1)) ok_tb_M_violation_0 14 rfl
theorem d_M_violation_27 : decode prog_6_method_38_code 27 = .ok (.getfield 69, 3) := dOk_get (q := (27, .getfield 69, 3)) ok_tb_M_violation_0 15 rfl
theorem d_M_violation_30 : decode prog_6_method_38_code 30 = .ok (.ifCond .eq 5, 3) := dOk_get (q := (30, .ifCond .eq 5, 3)) ok_tb_M_violation_0 16 rfl
theorem d_M_violation_33 : decode prog_6_method_38_code 33 = .ok (.iconst 0, 1) := dOk_get (q := (33, .iconst 0, 1)) ok_tb_M_violation_0 17 rfl
theorem d_M_violation_34 : decode prog_6_method_38_code 34 = .ok (.ireturn, 1) := dOk_get (q := (34, .ireturn, 1)) ok_tb_M_violation_0 18 rfl
theorem d_M_violation_35 : decode prog_6_method_38_code 35 = .ok (.iload_n 2, 1) := dOk_get (q := (35, .iload_n 2, 1)) ok_tb_M_violation_0 19 rfl
theorem d_M_violation_36 : decode prog_6_method_38_code 36 = .ok (.iconst 3, 1) := dOk_get (q := (36, .iconst 3, 1)) ok_tb_M_violation_0 20 rfl
theorem d_M_violation_37 : decode prog_6_method_38_code 37 = .ok (.if_icmp .ge 16, 3) := dOk_get (q := (37, .if_icmp .ge 16, 3)) ok_tb_M_violation_0 21 rfl
theorem d_M_violation_40 : decode prog_6_method_38_code 40 = .ok (.aload_n 0, 1) := dOk_get (q := (40, .aload_n 0, 1)) ok_tb_M_violation_0 22 rfl
theorem d_M_violation_41 : decode prog_6_method_38_code 41 = .ok (.getfield 54, 3) := dOk_get (q := (41, .getfield 54, 3)) ok_tb_M_violation_0 23 rfl
theorem d_M_violation_44 : decode prog_6_method_38_code 44 = .ok (.iconst 3, 1) := dOk_get (q := (44, .iconst 3, 1)) ok_tb_M_violation_0 24 rfl
theorem d_M_violation_45 : decode prog_6_method_38_code 45 = .ok (.iload_n 1, 1) := dOk_get (q := (45, .iload_n 1, 1)) ok_tb_M_violation_0 25 rfl
theorem d_M_violation_46 : decode prog_6_method_38_code 46 = .ok (.imul, 1) := dOk_get (q := (46, .imul, 1)) ok_tb_M_violation_0 26 rfl
theorem d_M_violation_47 : decode prog_6_method_38_code 47 = .ok (.iload_n 2, 1) := dOk_get (q := (47, .iload_n 2, 1)) ok_tb_M_violation_0 27 rfl
theorem d_M_violation_48 : decode prog_6_method_38_code 48 = .ok (.iadd, 1) := dOk_get (q := (48, .iadd, 1)) ok_tb_M_violation_0 28 rfl
theorem d_M_violation_49 : decode prog_6_method_38_code 49 = .ok (.iaload, 1) := dOk_get (q := (49, .iaload, 1)) ok_tb_M_violation_0 29 rfl
theorem d_M_violation_50 : decode prog_6_method_38_code 50 = .ok (.goto 16, 3) := dOk_get (q := (50, .goto 16, 3)) ok_tb_M_violation_0 30 rfl
theorem d_M_violation_53 : decode prog_6_method_38_code 53 = .ok (.aload_n 0, 1) := dOk_get (q := (53, .aload_n 0, 1)) ok_tb_M_violation_0 31 rfl
theorem d_M_violation_54 : decode prog_6_method_38_code 54 = .ok (.iload_n 1, 1) := dOk_get (q := (54, .iload_n 1, 1)) ok_tb_M_violation_0 32 rfl
theorem d_M_violation_55 : decode prog_6_method_38_code 55 = .ok (.invokevirtual 199, 3) := dOk_get (q := (55, .invokevirtual 199, 3)) ok_tb_M_violation_0 33 rfl
theorem d_M_violation_58 : decode prog_6_method_38_code 58 = .ok (.ifCond .eq 7, 3) := dOk_get (q := (58, .ifCond .eq 7, 3)) ok_tb_M_violation_0 34 rfl
theorem d_M_violation_61 : decode prog_6_method_38_code 61 = .ok (.iconst 1, 1) := dOk_get (q := (61, .iconst 1, 1)) ok_tb_M_violation_0 35 rfl
theorem d_M_violation_62 : decode prog_6_method_38_code 62 = .ok (.goto 4, 3) := dOk_get (q := (62, .goto 4, 3)) ok_tb_M_violation_0 36 rfl
theorem d_M_violation_65 : decode prog_6_method_38_code 65 = .ok (.iconst 0, 1) := dOk_get (q := (65, .iconst 0, 1)) ok_tb_M_violation_0 37 rfl
theorem d_M_violation_66 : decode prog_6_method_38_code 66 = .ok (.ireturn, 1) := dOk_get (q := (66, .ireturn, 1)) ok_tb_M_violation_0 38 rfl
def tb_M_isViolation_0 : List (Nat × Instr × Nat) := [(0, .iload_n 1, 1), (1, .ifCond .lt 15, 3), (4, .iload_n 1, 1), (5, .aload_n 0, 1), (6, .getfield 196, 3), (9, .if_icmp .ge 7, 3), (12, .iconst 1, 1), (13, .goto 4, 3), (16, .iconst 0, 1), (17, .ireturn, 1)]
theorem ok_tb_M_isViolation_0 : dOk prog_6_method_37_code tb_M_isViolation_0 = true := by decide +kernel
theorem d_M_isViolation_0 : decode prog_6_method_37_code 0 = .ok (.iload_n 1, 1) := dOk_get (q := (0, .iload_n 1, 1)) ok_tb_M_isViolation_0 0 rfl
theorem d_M_isViolation_1 : decode prog_6_method_37_code 1 = .ok (.ifCond .lt 15, 3) := dOk_get (q := (1, .ifCond .lt 15, 3)) ok_tb_M_isViolation_0 1 rfl
theorem d_M_isViolation_4 : decode prog_6_method_37_code 4 = .ok (.iload_n 1, 1) := dOk_get (q := (4, .iload_n 1, 1)) ok_tb_M_isViolation_0 2 rfl
theorem d_M_isViolation_5 : decode prog_6_method_37_code 5 = .ok (.aload_n 0, 1) := dOk_get (q := (5, .aload_n 0, 1)) ok_tb_M_isViolation_0 3 rfl
theorem d_M_isViolation_6 : decode prog_6_method_37_code 6 = .ok (.getfield 196, 3) := dOk_get (q := (6, .getfield 196, 3)) ok_tb_M_isViolation_0 4 rfl
theorem d_M_isViolation_9 : decode prog_6_method_37_code 9 = .ok (.if_icmp .ge 7, 3) := dOk_get (q := (9, .if_icmp .ge 7, 3)) ok_tb_M_isViolation_0 5 rfl
theorem d_M_isViolation_12 : decode prog_6_method_37_code 12 = .ok (.iconst 1, 1) := dOk_get (q := (12, .iconst 1, 1)) ok_tb_M_isViolation_0 6 rfl
theorem d_M_isViolation_13 : decode prog_6_method_37_code 13 = .ok (.goto 4, 3) := dOk_get (q := (13, .goto 4, 3)) ok_tb_M_isViolation_0 7 rfl
theorem d_M_isViolation_16 : decode prog_6_method_37_code 16 = .ok (.iconst 0, 1) := dOk_get (q := (16, .iconst 0, 1)) ok_tb_M_isViolation_0 8 rfl
theorem d_M_isViolation_17 : decode prog_6_method_37_code 17 = .ok (.ireturn, 1) := dOk_get (q := (17, .ireturn, 1)) ok_tb_M_isViolation_0 9 rfl
def tb_M_place_0 : List (Nat × Instr × Nat) := [(0, .aload_n 0, 1), (1, .aload_n 0, 1), (2, .iload_n 1, 1), (3, .invokevirtual 202, 3), (6, .ifCond .eq 16, 3), (9, .iload_n 2, 1), (10, .ifCond .eq 8, 3), (13, .iload_n 2, 1), (14, .iconst 1, 1), (15, .if_icmp .ne 7, 3), (18, .iconst 0, 1), (19, .goto 4, 3), (22, .iconst 1, 1), (23, .putfield 69, 3), (26, .aload_n 0, 1), (27, .getfield 69, 3), (30, .ifCond .eq 7, 3), (33, .lconst 0, 1), (34, .goto 22, 3), (37, .iload_n 2, 1), (38, .ifCond .ne 12, 3), (41, .aload_n 0, 1), (42, .getfield 57, 3), (45, .iload_n 1, 1), (46, .laload, 1), (47, .goto 9, 3), (50, .aload_n 0, 1), (51, .getfield 60, 3), (54, .iload_n 1, 1), (55, .laload, 1), (56, .lreturn, 1)]
theorem ok_tb_M_place_0 : dOk prog_6_method_39_code tb_M_place_0 = true := by decide +kernel
theorem d_M_place_0 : decode prog_6_method_39_code 0 = .ok (.aload_n 0, 1) := dOk_get (q := (0, .aload_n 0, 1)) ok_tb_M_place_0 0 rfl
theorem d_M_place_1 : decode prog_6_method_39_code 1 = .ok (.aload_n 0, 1) := dOk_get (q := (1, .aload_n 0, 1)) ok_tb_M_place_0 1 rfl
theorem d_M_place_2 : decode prog_6_method_39_code 2 = .ok (.iload_n 1, 1) := dOk_get (q := (2, .iload_n 1, 1)) ok_tb_M_place_0 2 rfl
theorem d_M_place_3 : decode prog_6_method_39_code 3 = .ok (.invokevirtual 202, 3) := dOk_get (q := (3, .invokevirtual 202, 3)) ok_tb_M_place_0 3 rfl
theorem d_M_place_6 : decode prog_6_method_39_code 6 = .ok (.ifCond .eq 16, 3) := dOk_get (q := (6, .ifCond .eq 16, 3)) ok_tb_M_place_0 4 rfl
theorem d_M_place_9 : decode prog_6_method_39_code 9 = .ok (.iload_n 2, 1) := dOk_get (q := (9, .iload_n 2, 1)) ok_tb_M_place_0 5 rfl
theorem d_M_place_10 : decode prog_6_method_39_code 10 = .ok (.ifCond .eq 8, 3) := dOk_get (q := (10, .ifCond .eq 8, 3)) ok_tb_M_place_0 6 rfl
theorem d_M_place_13 : decode prog_6_method_39_code 13 = .ok (.iload_n 2, 1) := dOk_get (q := (13, .iload_n 2, 1)) ok_tb_M_place_0 7 rfl
theorem d_M_place_14 : decode prog_6_method_39_code 14 = .ok (.iconst 1, 1) := dOk_get (q := (14, .iconst 1, 1)) ok_tb_M_place_0 8 rfl
theorem d_M_place_15 : decode prog_6_method_39_code 15 = .ok (.if_icmp .ne 7, 3) := dOk_get (q := (15, .if_icmp .ne 7, 3)) ok_tb_M_place_0 9 rfl
theorem d_M_place_18 : decode prog_6_method_39_code 18 = .ok (.iconst 0, 1) := dOk_get (q := (18, .iconst 0, 1)) ok_tb_M_place_0 10 rfl
theorem d_M_place_19 : decode prog_6_method_39_code 19 = .ok (.goto 4, 3) := dOk_get (q := (19, .goto 4, 3)) ok_tb_M_place_0 11 rfl
theorem d_M_place_22 : decode prog_6_method_39_code 22 = .ok (.iconst 1, 1) := dOk_get (q := (22, .iconst 1, 1)) ok_tb_M_place_0 12 rfl
theorem d_M_place_23 : decode prog_6_method_39_code 23 = .ok (.putfield 69, 3) := dOk_get (q := (23, .putfield 69, 3)) ok_tb_M_place_0 13 rfl
theorem d_M_place_26 : decode prog_6_method_39_code 26 = .ok (.aload_n 0, 1) := dOk_get (q := (26, .aload_n 0, 1)) ok_tb_M_place_0 14 rfl
theorem d_M_place_27 : decode prog_6_method_39_code 27 = .ok (.getfield 69, 3) := dOk_get (q := (27, .getfield 69, 3)) ok_tb_M_place_0 15 rfl
theorem d_M_place_30 : decode prog_6_method_39_code 30 = .ok (.ifCond .eq 7, 3) := dOk_get (q := (30, .ifCond .eq 7, 3)) ok_tb_M_place_0 16 rfl
theorem d_M_place_33 : decode prog_6_method_39_code 33 = .ok (.lconst 0, 1) := dOk_get (q := (33, .lconst 0, 1)) ok_tb_M_place_0 17 rfl
theorem d_M_place_34 : decode prog_6_method_39_code 34 = .ok (.goto 22, 3) := dOk_get (q := (34, .goto 22, 3)) ok_tb_M_place_0 18 rfl
theorem d_M_place_37 : decode prog_6_method_39_code 37 = .ok (.iload_n 2, 1) := dOk_get (q := (37, .iload_n 2, 1)) ok_tb_M_place_0 19 rfl
theorem d_M_place_38 : decode prog_6_method_39_code 38 = .ok (.ifCond .ne 12, 3) := dOk_get (q := (38, .ifCond .ne 12, 3)) ok_tb_M_place_0 20 rfl
theorem d_M_place_41 : decode prog_6_method_39_code 41 = .ok (.aload_n 0, 1) := dOk_get (q := (41, .aload_n 0, 1)) ok_tb_M_place_0 21 rfl
theorem d_M_place_42 : decode prog_6_method_39_code 42 = .ok (.getfield 57, 3) := dOk_get (q := (42, .getfield 57, 3)) ok_tb_M_place_0 22 rfl
theorem d_M_place_45 : decode prog_6_method_39_code 45 = .ok (.iload_n 1, 1) := dOk_get (q := (45, .iload_n 1, 1)) ok_tb_M_place_0 23 rfl
theorem d_M_place_46 : decode prog_6_method_39_code 46 = .ok (.laload, 1) := dOk_get (q := (46, .laload, 1)) ok_tb_M_place_0 24 rfl
theorem d_M_place_47 : decode prog_6_method_39_code 47 = .ok (.goto 9, 3) := dOk_get (q := (47, .goto 9, 3)) ok_tb_M_place_0 25 rfl
theorem d_M_place_50 : decode prog_6_method_39_code 50 = .ok (.aload_n 0, 1) := dOk_get (q := (50, .aload_n 0, 1)) ok_tb_M_place_0 26 rfl
theorem d_M_place_51 : decode prog_6_method_39_code 51 = .ok (.getfield 60, 3) := dOk_get (q := (51, .getfield 60, 3)) ok_tb_M_place_0 27 rfl
theorem d_M_place_54 : decode prog_6_method_39_code 54 = .ok (.iload_n 1, 1) := dOk_get (q := (54, .iload_n 1, 1)) ok_tb_M_place_0 28 rfl
theorem d_M_place_55 : decode prog_6_method_39_code 55 = .ok (.laload, 1) := dOk_get (q := (55, .laload, 1)) ok_tb_M_place_0 29 rfl
theorem d_M_place_56 : decode prog_6_method_39_code 56 = .ok (.lreturn, 1) := dOk_get (q := (56, .lreturn, 1)) ok_tb_M_place_0 30 rfl
def tb_M_waive_0 : List (Nat × Instr × Nat) := [(0, .aload_n 0, 1), (1, .aload_n 0, 1), (2, .iload_n 1, 1), (3, .invokevirtual 202, 3), (6, .ifCond .eq 7, 3), (9, .iconst 0, 1), (10, .goto 4, 3), (13, .iconst 1, 1), (14, .putfield 69, 3), (17, .aload_n 0, 1), (18, .getfield 69, 3), (21, .ifCond .ne 20, 3), (24, .aload_n 0, 1), (25, .iload_n 1, 1), (26, .invokevirtual 199, 3), (29, .ifCond .ne 12, 3), (32, .aload_n 0, 1), (33, .getfield 190, 3), (36, .bipush 60, 2), (38, .if_icmp .ne 5, 3), (41, .iconst 0, 1), (42, .ireturn, 1), (43, .iconst 0, 1), (44, .istore_n 2, 1), (45, .iload_n 2, 1), (46, .iconst 3, 1), (47, .if_icmp .ge 32, 3), (50, .aload_n 0, 1), (51, .getfield 63, 3), (54, .iconst 3, 1), (55, .aload_n 0, 1), (56, .getfield 190, 3), (59, .imul, 1), (60, .iload_n 2, 1), (61, .iadd, 1), (62, .aload_n 0, 1), (63, .getfield 54, 3), (66, .iconst 3, 1), (67, .iload_n 1, 1), (68, .imul, 1), (69, .iload_n 2, 1), (70, .iadd, 1), (71, .iaload, 1), (72, .iastore, 1), (73, .iinc 2 1, 3), (76, .goto (-31), 3), (79, .aload_n 0, 1), (80, .dup, 1), (81, .getfield 190, 3), (84, .iconst 1, 1), (85, .iadd, 1), (86, .putfield 190, 3), (89, .iconst 1, 1), (90, .ireturn, 1)]
theorem ok_tb_M_waive_0 : dOk prog_6_method_40_code tb_M_waive_0 = true := by decide +kernel
theorem d_M_waive_0 : decode prog_6_method_40_code 0 = .ok (.aload_n 0, 1) := dOk_get (q := (0, .aload_n 0, 1)) ok_tb_M_waive_0 0 rfl
theorem d_M_waive_1 : decode prog_6_method_40_code 1 = .ok (.aload_n 0, 1) := dOk_get (q := (1, .aload_n 0, 1)) ok_tb_M_waive_0 1 rfl
theorem d_M_waive_2 : decode prog_6_method_40_code 2 = .ok (.iload_n 1, 1) := dOk_get (q := (2, .iload_n 1, 1)) ok_tb_M_waive_0 2 rfl
theorem d_M_waive_3 : decode prog_6_method_40_code 3 = .ok (.invokevirtual 202, 3) := dOk_get (q := (3, .invokevirtual 202, 3)) ok_tb_M_waive_0 3 rfl
theorem d_M_waive_6 : decode prog_6_method_40_code 6 = .ok (.ifCond .eq 7, 3) := dOk_get (q := (6, .ifCond .eq 7, 3)) ok_tb_M_waive_0 4 rfl
theorem d_M_waive_9 : decode prog_6_method_40_code 9 = .ok (.iconst 0, 1) := dOk_get (q := (9, .iconst 0, 1)) ok_tb_M_waive_0 5 rfl
theorem d_M_waive_10 : decode prog_6_method_40_code 10 = .ok (.goto 4, 3) := dOk_get (q := (10, .goto 4, 3)) ok_tb_M_waive_0 6 rfl
theorem d_M_waive_13 : decode prog_6_method_40_code 13 = .ok (.iconst 1, 1) := dOk_get (q := (13, .iconst 1, 1)) ok_tb_M_waive_0 7 rfl
theorem d_M_waive_14 : decode prog_6_method_40_code 14 = .ok (.putfield 69, 3) := dOk_get (q := (14, .putfield 69, 3)) ok_tb_M_waive_0 8 rfl
theorem d_M_waive_17 : decode prog_6_method_40_code 17 = .ok (.aload_n 0, 1) := dOk_get (q := (17, .aload_n 0, 1)) ok_tb_M_waive_0 9 rfl
theorem d_M_waive_18 : decode prog_6_method_40_code 18 = .ok (.getfield 69, 3) := dOk_get (q := (18, .getfield 69, 3)) ok_tb_M_waive_0 10 rfl
theorem d_M_waive_21 : decode prog_6_method_40_code 21 = .ok (.ifCond .ne 20, 3) := dOk_get (q := (21, .ifCond .ne 20, 3)) ok_tb_M_waive_0 11 rfl
theorem d_M_waive_24 : decode prog_6_method_40_code 24 = .ok (.aload_n 0, 1) := dOk_get (q := (24, .aload_n 0, 1)) ok_tb_M_waive_0 12 rfl
theorem d_M_waive_25 : decode prog_6_method_40_code 25 = .ok (.iload_n 1, 1) := dOk_get (q := (25, .iload_n 1, 1)) ok_tb_M_waive_0 13 rfl
theorem d_M_waive_26 : decode prog_6_method_40_code 26 = .ok (.invokevirtual 199, 3) := dOk_get (q := (26, .invokevirtual 199, 3)) ok_tb_M_waive_0 14 rfl
theorem d_M_waive_29 : decode prog_6_method_40_code 29 = .ok (.ifCond .ne 12, 3) := dOk_get (q := (29, .ifCond .ne 12, 3)) ok_tb_M_waive_0 15 rfl
theorem d_M_waive_32 : decode prog_6_method_40_code 32 = .ok (.aload_n 0, 1) := dOk_get (q := (32, .aload_n 0, 1)) ok_tb_M_waive_0 16 rfl
theorem d_M_waive_33 : decode prog_6_method_40_code 33 = .ok (.getfield 190, 3) := dOk_get (q := (33, .getfield 190, 3)) ok_tb_M_waive_0 17 rfl
theorem d_M_waive_36 : decode prog_6_method_40_code 36 = .ok (.bipush 60, 2) := dOk_get (q := (36, .bipush 60, 2)) ok_tb_M_waive_0 18 rfl
theorem d_M_waive_38 : decode prog_6_method_40_code 38 = .ok (.if_icmp .ne 5, 3) := dOk_get (q := (38, .if_icmp .ne 5, 3)) ok_tb_M_waive_0 19 rfl
theorem d_M_waive_41 : decode prog_6_method_40_code 41 = .ok (.iconst 0, 1) := dOk_get (q := (41, .iconst 0, 1)) ok_tb_M_waive_0 20 rfl
theorem d_M_waive_42 : decode prog_6_method_40_code 42 = .ok (.ireturn, 1) := dOk_get (q := (42, .ireturn, 1)) ok_tb_M_waive_0 21 rfl
theorem d_M_waive_43 : decode prog_6_method_40_code 43 = .ok (.iconst 0, 1) := dOk_get (q := (43, .iconst 0, 1)) ok_tb_M_waive_0 22 rfl
theorem d_M_waive_44 : decode prog_6_method_40_code 44 = .ok (.istore_n 2, 1) := dOk_get (q := (44, .istore_n 2, 1)) ok_tb_M_waive_0 23 rfl
theorem d_M_waive_45 : decode prog_6_method_40_code 45 = .ok (.iload_n 2, 1) := dOk_get (q := (45, .iload_n 2, 1)) ok_tb_M_waive_0 24 rfl
theorem d_M_waive_46 : decode prog_6_method_40_code 46 = .ok (.iconst 3, 1) := dOk_get (q := (46, .iconst 3, 1)) ok_tb_M_waive_0 25 rfl
theorem d_M_waive_47 : decode prog_6_method_40_code 47 = .ok (.if_icmp .ge 32, 3) := dOk_get (q := (47, .if_icmp .ge 32, 3)) ok_tb_M_waive_0 26 rfl
theorem d_M_waive_50 : decode prog_6_method_40_code 50 = .ok (.aload_n 0, 1) := dOk_get (q := (50, .aload_n 0, 1)) ok_tb_M_waive_0 27 rfl
theorem d_M_waive_51 : decode prog_6_method_40_code 51 = .ok (.getfield 63, 3) := dOk_get (q := (51, .getfield 63, 3)) ok_tb_M_waive_0 28 rfl
theorem d_M_waive_54 : decode prog_6_method_40_code 54 = .ok (.iconst 3, 1) := dOk_get (q := (54, .iconst 3, 1)) ok_tb_M_waive_0 29 rfl
theorem d_M_waive_55 : decode prog_6_method_40_code 55 = .ok (.aload_n 0, 1) := dOk_get (q := (55, .aload_n 0, 1)) ok_tb_M_waive_0 30 rfl
theorem d_M_waive_56 : decode prog_6_method_40_code 56 = .ok (.getfield 190, 3) := dOk_get (q := (56, .getfield 190, 3)) ok_tb_M_waive_0 31 rfl
theorem d_M_waive_59 : decode prog_6_method_40_code 59 = .ok (.imul, 1) := dOk_get (q := (59, .imul, 1)) ok_tb_M_waive_0 32 rfl
theorem d_M_waive_60 : decode prog_6_method_40_code 60 = .ok (.iload_n 2, 1) := dOk_get (q := (60, .iload_n 2, 1)) ok_tb_M_waive_0 33 rfl
theorem d_M_waive_61 : decode prog_6_method_40_code 61 = .ok (.iadd, 1) := dOk_get (q := (61, .iadd, 1)) ok_tb_M_waive_0 34 rfl
theorem d_M_waive_62 : decode prog_6_method_40_code 62 = .ok (.aload_n 0, 1) := dOk_get (q := (62, .aload_n 0, 1)) ok_tb_M_waive_0 35 rfl
theorem d_M_waive_63 : decode prog_6_method_40_code 63 = .ok (.getfield 54, 3) := dOk_get (q := (63, .getfield 54, 3)) ok_tb_M_waive_0 36 rfl
theorem d_M_waive_66 : decode prog_6_method_40_code 66 = .ok (.iconst 3, 1) := dOk_get (q := (66, .iconst 3, 1)) ok_tb_M_waive_0 37 rfl
theorem d_M_waive_67 : decode prog_6_method_40_code 67 = .ok (.iload_n 1, 1) := dOk_get (q := (67, .iload_n 1, 1)) ok_tb_M_waive_0 38 rfl
theorem d_M_waive_68 : decode prog_6_method_40_code 68 = .ok (.imul, 1) := dOk_get (q := (68, .imul, 1)) ok_tb_M_waive_0 39 rfl
theorem d_M_waive_69 : decode prog_6_method_40_code 69 = .ok (.iload_n 2, 1) := dOk_get (q := (69, .iload_n 2, 1)) ok_tb_M_waive_0 40 rfl
theorem d_M_waive_70 : decode prog_6_method_40_code 70 = .ok (.iadd, 1) := dOk_get (q := (70, .iadd, 1)) ok_tb_M_waive_0 41 rfl
theorem d_M_waive_71 : decode prog_6_method_40_code 71 = .ok (.iaload, 1) := dOk_get (q := (71, .iaload, 1)) ok_tb_M_waive_0 42 rfl
theorem d_M_waive_72 : decode prog_6_method_40_code 72 = .ok (.iastore, 1) := dOk_get (q := (72, .iastore, 1)) ok_tb_M_waive_0 43 rfl
theorem d_M_waive_73 : decode prog_6_method_40_code 73 = .ok (.iinc 2 1, 3) := dOk_get (q := (73, .iinc 2 1, 3)) ok_tb_M_waive_0 44 rfl
theorem d_M_waive_76 : decode prog_6_method_40_code 76 = .ok (.goto (-31), 3) := dOk_get (q := (76, .goto (-31), 3)) ok_tb_M_waive_0 45 rfl
theorem d_M_waive_79 : decode prog_6_method_40_code 79 = .ok (.aload_n 0, 1) := dOk_get (q := (79, .aload_n 0, 1)) ok_tb_M_waive_0 46 rfl
theorem d_M_waive_80 : decode prog_6_method_40_code 80 = .ok (.dup, 1) := dOk_get (q := (80, .dup, 1)) ok_tb_M_waive_0 47 rfl
theorem d_M_waive_81 : decode prog_6_method_40_code 81 = .ok (.getfield 190, 3) := dOk_get (q := (81, .getfield 190, 3)) ok_tb_M_waive_0 48 rfl
theorem d_M_waive_84 : decode prog_6_method_40_code 84 = .ok (.iconst 1, 1) := dOk_get (q := (84, .iconst 1, 1)) ok_tb_M_waive_0 49 rfl
theorem d_M_waive_85 : decode prog_6_method_40_code 85 = .ok (.iadd, 1) := dOk_get (q := (85, .iadd, 1)) ok_tb_M_waive_0 50 rfl
theorem d_M_waive_86 : decode prog_6_method_40_code 86 = .ok (.putfield 190, 3) := dOk_get (q := (86, .putfield 190, 3)) ok_tb_M_waive_0 51 rfl
theorem d_M_waive_89 : decode prog_6_method_40_code 89 = .ok (.iconst 1, 1) := dOk_get (q := (89, .iconst 1, 1)) ok_tb_M_waive_0 52 rfl
theorem d_M_waive_90 : decode prog_6_method_40_code 90 = .ok (.ireturn, 1) := dOk_get (q := (90, .ireturn, 1)) ok_tb_M_waive_0 53 rfl
def tb_M_near_0 : List (Nat × Instr × Nat) := [(0, .aload_n 0, 1), (1, .lload_n 1, 1), (2, .lload 5, 2), (4, .lcmp, 1), (5, .ifCond .gt 10, 3), (8, .lload_n 3, 1), (9, .lload 7, 2), (11, .lcmp, 1), (12, .ifCond .le 7, 3), (15, .iconst 1, 1), (16, .goto 4, 3), (19, .iconst 0, 1), (20, .putfield 69, 3), (23, .iconst 0, 1), (24, .istore 9, 2), (26, .iconst 0, 1), (27, .istore 10, 2), (29, .iload 10, 2), (31, .aload_n 0, 1), (32, .getfield 196, 3), (35, .if_icmp .ge 76, 3), (38, .aload_n 0, 1), (39, .getfield 69, 3), (42, .ifCond .ne 69, 3), (45, .iload 9, 2), (47, .aload_n 0, 1), (48, .getfield 57, 3), (51, .iload 10, 2), (53, .laload, 1), (54, .lload_n 1, 1), (55, .lcmp, 1), (56, .ifCond .lt 45, 3), (59, .aload_n 0, 1), (60, .getfield 57, 3), (63, .iload 10, 2), (65, .laload, 1), (66, .lload 5, 2), (68, .lcmp, 1), (69, .ifCond .gt 32, 3), (72, .aload_n 0, 1), (73, .getfield 60, 3), (76, .iload 10, 2), (78, .laload, 1), (79, .lload_n 3, 1), (80, .lcmp, 1), (81, .ifCond .lt 20, 3), (84, .aload_n 0, 1), (85, .getfield 60, 3), (88, .iload 10, 2), (90, .laload, 1), (91, .lload 7, 2), (93, .lcmp, 1), (94, .ifCond .gt 7, 3), (97, .iconst 1, 1), (98, .goto 4, 3), (101, .iconst 0, 1), (102, .iadd, 1), (103, .istore 9, 2), (105, .iinc 10 1, 3), (108, .goto (-79), 3), (111, .iload 9, 2), (113, .ireturn, 1)]
theorem ok_tb_M_near_0 : dOk prog_6_method_41_code tb_M_near_0 = true := by decide +kernel
theorem d_M_near_0 : decode prog_6_method_41_code 0 = .ok (.aload_n 0, 1) := dOk_get (q := (0, .aload_n 0, 1)) ok_tb_M_near_0 0 rfl
theorem d_M_near_1 : decode prog_6_method_41_code 1 = .ok (.lload_n 1, 1) := dOk_get (q := (1, .lload_n 1, 1)) ok_tb_M_near_0 1 rfl
theorem d_M_near_2 : decode prog_6_method_41_code 2 = .ok (.lload 5, 2) := dOk_get (q := (2, .lload 5, 2)) ok_tb_M_near_0 2 rfl
theorem d_M_near_4 : decode prog_6_method_41_code 4 = .ok (.lcmp, 1) := dOk_get (q := (4, .lcmp, 1)) ok_tb_M_near_0 3 rfl
theorem d_M_near_5 : decode prog_6_method_41_code 5 = .ok (.ifCond .gt 10, 3) := dOk_get (q := (5, .ifCond .gt 10, 3)) ok_tb_M_near_0 4 rfl
theorem d_M_near_8 : decode prog_6_method_41_code 8 = .ok (.lload_n 3, 1) := dOk_get (q := (8, .lload_n 3, 1)) ok_tb_M_near_0 5 rfl
theorem d_M_near_9 : decode prog_6_method_41_code 9 = .ok (.lload 7, 2) := dOk_get (q := (9, .lload 7, 2)) ok_tb_M_near_0 6 rfl
theorem d_M_near_11 : decode prog_6_method_41_code 11 = .ok (.lcmp, 1) := dOk_get (q := (11, .lcmp, 1)) ok_tb_M_near_0 7 rfl
theorem d_M_near_12 : decode prog_6_method_41_code 12 = .ok (.ifCond .le 7, 3) := dOk_get (q := (12, .ifCond .le 7, 3)) ok_tb_M_near_0 8 rfl
theorem d_M_near_15 : decode prog_6_method_41_code 15 = .ok (.iconst 1, 1) := dOk_get (q := (15, .iconst 1, 1)) ok_tb_M_near_0 9 rfl
theorem d_M_near_16 : decode prog_6_method_41_code 16 = .ok (.goto 4, 3) := dOk_get (q := (16, .goto 4, 3)) ok_tb_M_near_0 10 rfl
theorem d_M_near_19 : decode prog_6_method_41_code 19 = .ok (.iconst 0, 1) := dOk_get (q := (19, .iconst 0, 1)) ok_tb_M_near_0 11 rfl
theorem d_M_near_20 : decode prog_6_method_41_code 20 = .ok (.putfield 69, 3) := dOk_get (q := (20, .putfield 69, 3)) ok_tb_M_near_0 12 rfl
theorem d_M_near_23 : decode prog_6_method_41_code 23 = .ok (.iconst 0, 1) := dOk_get (q := (23, .iconst 0, 1)) ok_tb_M_near_0 13 rfl
theorem d_M_near_24 : decode prog_6_method_41_code 24 = .ok (.istore 9, 2) := dOk_get (q := (24, .istore 9, 2)) ok_tb_M_near_0 14 rfl
theorem d_M_near_26 : decode prog_6_method_41_code 26 = .ok (.iconst 0, 1) := dOk_get (q := (26, .iconst 0, 1)) ok_tb_M_near_0 15 rfl
theorem d_M_near_27 : decode prog_6_method_41_code 27 = .ok (.istore 10, 2) := dOk_get (q := (27, .istore 10, 2)) ok_tb_M_near_0 16 rfl
theorem d_M_near_29 : decode prog_6_method_41_code 29 = .ok (.iload 10, 2) := dOk_get (q := (29, .iload 10, 2)) ok_tb_M_near_0 17 rfl
theorem d_M_near_31 : decode prog_6_method_41_code 31 = .ok (.aload_n 0, 1) := dOk_get (q := (31, .aload_n 0, 1)) ok_tb_M_near_0 18 rfl
theorem d_M_near_32 : decode prog_6_method_41_code 32 = .ok (.getfield 196, 3) := dOk_get (q := (32, .getfield 196, 3)) ok_tb_M_near_0 19 rfl
theorem d_M_near_35 : decode prog_6_method_41_code 35 = .ok (.if_icmp .ge 76, 3) := dOk_get (q := (35, .if_icmp .ge 76, 3)) ok_tb_M_near_0 20 rfl
theorem d_M_near_38 : decode prog_6_method_41_code 38 = .ok (.aload_n 0, 1) := dOk_get (q := (38, .aload_n 0, 1)) ok_tb_M_near_0 21 rfl
theorem d_M_near_39 : decode prog_6_method_41_code 39 = .ok (.getfield 69, 3) := dOk_get (q := (39, .getfield 69, 3)) ok_tb_M_near_0 22 rfl
theorem d_M_near_42 : decode prog_6_method_41_code 42 = .ok (.ifCond .ne 69, 3) := dOk_get (q := (42, .ifCond .ne 69, 3)) ok_tb_M_near_0 23 rfl
theorem d_M_near_45 : decode prog_6_method_41_code 45 = .ok (.iload 9, 2) := dOk_get (q := (45, .iload 9, 2)) ok_tb_M_near_0 24 rfl
theorem d_M_near_47 : decode prog_6_method_41_code 47 = .ok (.aload_n 0, 1) := dOk_get (q := (47, .aload_n 0, 1)) ok_tb_M_near_0 25 rfl
theorem d_M_near_48 : decode prog_6_method_41_code 48 = .ok (.getfield 57, 3) := dOk_get (q := (48, .getfield 57, 3)) ok_tb_M_near_0 26 rfl
theorem d_M_near_51 : decode prog_6_method_41_code 51 = .ok (.iload 10, 2) := dOk_get (q := (51, .iload 10, 2)) ok_tb_M_near_0 27 rfl
theorem d_M_near_53 : decode prog_6_method_41_code 53 = .ok (.laload, 1) := dOk_get (q := (53, .laload, 1)) ok_tb_M_near_0 28 rfl
theorem d_M_near_54 : decode prog_6_method_41_code 54 = .ok (.lload_n 1, 1) := dOk_get (q := (54, .lload_n 1, 1)) ok_tb_M_near_0 29 rfl
theorem d_M_near_55 : decode prog_6_method_41_code 55 = .ok (.lcmp, 1) := dOk_get (q := (55, .lcmp, 1)) ok_tb_M_near_0 30 rfl
theorem d_M_near_56 : decode prog_6_method_41_code 56 = .ok (.ifCond .lt 45, 3) := dOk_get (q := (56, .ifCond .lt 45, 3)) ok_tb_M_near_0 31 rfl
theorem d_M_near_59 : decode prog_6_method_41_code 59 = .ok (.aload_n 0, 1) := dOk_get (q := (59, .aload_n 0, 1)) ok_tb_M_near_0 32 rfl
theorem d_M_near_60 : decode prog_6_method_41_code 60 = .ok (.getfield 57, 3) := dOk_get (q := (60, .getfield 57, 3)) ok_tb_M_near_0 33 rfl
theorem d_M_near_63 : decode prog_6_method_41_code 63 = .ok (.iload 10, 2) := dOk_get (q := (63, .iload 10, 2)) ok_tb_M_near_0 34 rfl
theorem d_M_near_65 : decode prog_6_method_41_code 65 = .ok (.laload, 1) := dOk_get (q := (65, .laload, 1)) ok_tb_M_near_0 35 rfl
theorem d_M_near_66 : decode prog_6_method_41_code 66 = .ok (.lload 5, 2) := dOk_get (q := (66, .lload 5, 2)) ok_tb_M_near_0 36 rfl
theorem d_M_near_68 : decode prog_6_method_41_code 68 = .ok (.lcmp, 1) := dOk_get (q := (68, .lcmp, 1)) ok_tb_M_near_0 37 rfl
theorem d_M_near_69 : decode prog_6_method_41_code 69 = .ok (.ifCond .gt 32, 3) := dOk_get (q := (69, .ifCond .gt 32, 3)) ok_tb_M_near_0 38 rfl
theorem d_M_near_72 : decode prog_6_method_41_code 72 = .ok (.aload_n 0, 1) := dOk_get (q := (72, .aload_n 0, 1)) ok_tb_M_near_0 39 rfl
theorem d_M_near_73 : decode prog_6_method_41_code 73 = .ok (.getfield 60, 3) := dOk_get (q := (73, .getfield 60, 3)) ok_tb_M_near_0 40 rfl
theorem d_M_near_76 : decode prog_6_method_41_code 76 = .ok (.iload 10, 2) := dOk_get (q := (76, .iload 10, 2)) ok_tb_M_near_0 41 rfl
theorem d_M_near_78 : decode prog_6_method_41_code 78 = .ok (.laload, 1) := dOk_get (q := (78, .laload, 1)) ok_tb_M_near_0 42 rfl
theorem d_M_near_79 : decode prog_6_method_41_code 79 = .ok (.lload_n 3, 1) := dOk_get (q := (79, .lload_n 3, 1)) ok_tb_M_near_0 43 rfl
theorem d_M_near_80 : decode prog_6_method_41_code 80 = .ok (.lcmp, 1) := dOk_get (q := (80, .lcmp, 1)) ok_tb_M_near_0 44 rfl
theorem d_M_near_81 : decode prog_6_method_41_code 81 = .ok (.ifCond .lt 20, 3) := dOk_get (q := (81, .ifCond .lt 20, 3)) ok_tb_M_near_0 45 rfl
theorem d_M_near_84 : decode prog_6_method_41_code 84 = .ok (.aload_n 0, 1) := dOk_get (q := (84, .aload_n 0, 1)) ok_tb_M_near_0 46 rfl
theorem d_M_near_85 : decode prog_6_method_41_code 85 = .ok (.getfield 60, 3) := dOk_get (q := (85, .getfield 60, 3)) ok_tb_M_near_0 47 rfl
theorem d_M_near_88 : decode prog_6_method_41_code 88 = .ok (.iload 10, 2) := dOk_get (q := (88, .iload 10, 2)) ok_tb_M_near_0 48 rfl
theorem d_M_near_90 : decode prog_6_method_41_code 90 = .ok (.laload, 1) := dOk_get (q := (90, .laload, 1)) ok_tb_M_near_0 49 rfl
theorem d_M_near_91 : decode prog_6_method_41_code 91 = .ok (.lload 7, 2) := dOk_get (q := (91, .lload 7, 2)) ok_tb_M_near_0 50 rfl
theorem d_M_near_93 : decode prog_6_method_41_code 93 = .ok (.lcmp, 1) := dOk_get (q := (93, .lcmp, 1)) ok_tb_M_near_0 51 rfl
theorem d_M_near_94 : decode prog_6_method_41_code 94 = .ok (.ifCond .gt 7, 3) := dOk_get (q := (94, .ifCond .gt 7, 3)) ok_tb_M_near_0 52 rfl
theorem d_M_near_97 : decode prog_6_method_41_code 97 = .ok (.iconst 1, 1) := dOk_get (q := (97, .iconst 1, 1)) ok_tb_M_near_0 53 rfl
theorem d_M_near_98 : decode prog_6_method_41_code 98 = .ok (.goto 4, 3) := dOk_get (q := (98, .goto 4, 3)) ok_tb_M_near_0 54 rfl
theorem d_M_near_101 : decode prog_6_method_41_code 101 = .ok (.iconst 0, 1) := dOk_get (q := (101, .iconst 0, 1)) ok_tb_M_near_0 55 rfl
theorem d_M_near_102 : decode prog_6_method_41_code 102 = .ok (.iadd, 1) := dOk_get (q := (102, .iadd, 1)) ok_tb_M_near_0 56 rfl
theorem d_M_near_103 : decode prog_6_method_41_code 103 = .ok (.istore 9, 2) := dOk_get (q := (103, .istore 9, 2)) ok_tb_M_near_0 57 rfl
theorem d_M_near_105 : decode prog_6_method_41_code 105 = .ok (.iinc 10 1, 3) := dOk_get (q := (105, .iinc 10 1, 3)) ok_tb_M_near_0 58 rfl
theorem d_M_near_108 : decode prog_6_method_41_code 108 = .ok (.goto (-79), 3) := dOk_get (q := (108, .goto (-79), 3)) ok_tb_M_near_0 59 rfl
theorem d_M_near_111 : decode prog_6_method_41_code 111 = .ok (.iload 9, 2) := dOk_get (q := (111, .iload 9, 2)) ok_tb_M_near_0 60 rfl
theorem d_M_near_113 : decode prog_6_method_41_code 113 = .ok (.ireturn, 1) := dOk_get (q := (113, .ireturn, 1)) ok_tb_M_near_0 61 rfl
def tb_M_plain_0 : List (Nat × Instr × Nat) := [(0, .aload_n 0, 1), (1, .iconst 0, 1), (2, .putfield 69, 3), (5, .aload_n 0, 1), (6, .invokevirtual 193, 3), (9, .aload_n 0, 1), (10, .getfield 168, 3), (13, .aload_n 0, 1), (14, .getfield 196, 3), (17, .if_icmp .ne 7, 3), (20, .iconst 1, 1), (21, .goto 4, 3), (24, .iconst 0, 1), (25, .istore_n 1, 1), (26, .iconst 0, 1), (27, .istore_n 2, 1), (28, .iload_n 2, 1), (29, .iconst 3, 1), (30, .aload_n 0, 1), (31, .getfield 196, 3), (34, .imul, 1), (35, .if_icmp .ge 34, 3), (38, .iload_n 1, 1), (39, .ifCond .eq 30, 3), (42, .aload_n 0, 1), (43, .getfield 51, 3), (46, .iload_n 2, 1), (47, .iaload, 1), (48, .aload_n 0, 1), (49, .getfield 54, 3), (52, .iload_n 2, 1), (53, .iaload, 1), (54, .if_icmp .ne 7, 3), (57, .iconst 1, 1), (58, .goto 4, 3), (61, .iconst 0, 1), (62, .istore_n 1, 1), (63, .iinc 2 1, 3), (66, .goto (-38), 3), (69, .iconst 0, 1), (70, .istore_n 2, 1), (71, .iload_n 2, 1), (72, .aload_n 0, 1), (73, .getfield 196, 3), (76, .if_icmp .ge 75, 3), (79, .iload_n 1, 1), (80, .ifCond .eq 71, 3), (83, .aload_n 0, 1), (84, .getfield 57, 3), (87, .iload_n 2, 1), (88, .laload, 1), (89, .aload_n 0, 1), (90, .getfield 25, 3), (93, .bipush 8, 2), (95, .aload_n 0, 1), (96, .getfield 54, 3), (99, .iconst 3, 1), (100, .iload_n 2, 1), (101, .imul, 1), (102, .iconst 1, 1), (103, .iadd, 1), (104, .iaload, 1), (105, .imul, 1), (106, .laload, 1), (107, .lcmp, 1), (108, .ifCond .ne 35, 3), (111, .aload_n 0, 1), (112, .getfield 60, 3), (115, .iload_n 2, 1), (116, .laload, 1), (117, .aload_n 0, 1), (118, .getfield 29, 3), (121, .bipush 8, 2), (123, .aload_n 0, 1), (124, .getfield 54, 3), (127, .iconst 3, 1), (128, .iload_n 2, 1), (129, .imul, 1), (130, .iconst 1, 1), (131, .iadd, 1), (132, .iaload, 1), (133, .imul, 1), (134, .laload, 1), (135, .lcmp, 1), (136, .ifCond .ne 7, 3), (139, .iconst 1, 1), (140, .goto 4, 3), (143, .iconst 0, 1), (144, .istore_n 1, 1), (145, .iinc 2 1, 3), (148, .goto (-77), 3), (151, .iload_n 1, 1), (152, .ireturn, 1)]
theorem ok_tb_M_plain_0 : dOk prog_6_method_42_code tb_M_plain_0 = true := by decide +kernel
theorem d_M_plain_0 : decode prog_6_method_42_code 0 = .ok (.aload_n 0, 1) := dOk_get (q := (0, .aload_n 0, 1)) ok_tb_M_plain_0 0 rfl
theorem d_M_plain_1 : decode prog_6_method_42_code 1 = .ok (.iconst 0, 1) := dOk_get (q := (1, .iconst 0, 1)) ok_tb_M_plain_0 1 rfl
theorem d_M_plain_2 : decode prog_6_method_42_code 2 = .ok (.putfield 69, 3) := dOk_get (q := (2, .putfield 69, 3)) ok_tb_M_plain_0 2 rfl
theorem d_M_plain_5 : decode prog_6_method_42_code 5 = .ok (.aload_n 0, 1) := dOk_get (q := (5, .aload_n 0, 1)) ok_tb_M_plain_0 3 rfl
theorem d_M_plain_6 : decode prog_6_method_42_code 6 = .ok (.invokevirtual 193, 3) := dOk_get (q := (6, .invokevirtual 193, 3)) ok_tb_M_plain_0 4 rfl
theorem d_M_plain_9 : decode prog_6_method_42_code 9 = .ok (.aload_n 0, 1) := dOk_get (q := (9, .aload_n 0, 1)) ok_tb_M_plain_0 5 rfl
theorem d_M_plain_10 : decode prog_6_method_42_code 10 = .ok (.getfield 168, 3) := dOk_get (q := (10, .getfield 168, 3)) ok_tb_M_plain_0 6 rfl
theorem d_M_plain_13 : decode prog_6_method_42_code 13 = .ok (.aload_n 0, 1) := dOk_get (q := (13, .aload_n 0, 1)) ok_tb_M_plain_0 7 rfl
theorem d_M_plain_14 : decode prog_6_method_42_code 14 = .ok (.getfield 196, 3) := dOk_get (q := (14, .getfield 196, 3)) ok_tb_M_plain_0 8 rfl
theorem d_M_plain_17 : decode prog_6_method_42_code 17 = .ok (.if_icmp .ne 7, 3) := dOk_get (q := (17, .if_icmp .ne 7, 3)) ok_tb_M_plain_0 9 rfl
theorem d_M_plain_20 : decode prog_6_method_42_code 20 = .ok (.iconst 1, 1) := dOk_get (q := (20, .iconst 1, 1)) ok_tb_M_plain_0 10 rfl
theorem d_M_plain_21 : decode prog_6_method_42_code 21 = .ok (.goto 4, 3) := dOk_get (q := (21, .goto 4, 3)) ok_tb_M_plain_0 11 rfl
theorem d_M_plain_24 : decode prog_6_method_42_code 24 = .ok (.iconst 0, 1) := dOk_get (q := (24, .iconst 0, 1)) ok_tb_M_plain_0 12 rfl
theorem d_M_plain_25 : decode prog_6_method_42_code 25 = .ok (.istore_n 1, 1) := dOk_get (q := (25, .istore_n 1, 1)) ok_tb_M_plain_0 13 rfl
theorem d_M_plain_26 : decode prog_6_method_42_code 26 = .ok (.iconst 0, 1) := dOk_get (q := (26, .iconst 0, 1)) ok_tb_M_plain_0 14 rfl
theorem d_M_plain_27 : decode prog_6_method_42_code 27 = .ok (.istore_n 2, 1) := dOk_get (q := (27, .istore_n 2, 1)) ok_tb_M_plain_0 15 rfl
theorem d_M_plain_28 : decode prog_6_method_42_code 28 = .ok (.iload_n 2, 1) := dOk_get (q := (28, .iload_n 2, 1)) ok_tb_M_plain_0 16 rfl
theorem d_M_plain_29 : decode prog_6_method_42_code 29 = .ok (.iconst 3, 1) := dOk_get (q := (29, .iconst 3, 1)) ok_tb_M_plain_0 17 rfl
theorem d_M_plain_30 : decode prog_6_method_42_code 30 = .ok (.aload_n 0, 1) := dOk_get (q := (30, .aload_n 0, 1)) ok_tb_M_plain_0 18 rfl
theorem d_M_plain_31 : decode prog_6_method_42_code 31 = .ok (.getfield 196, 3) := dOk_get (q := (31, .getfield 196, 3)) ok_tb_M_plain_0 19 rfl
theorem d_M_plain_34 : decode prog_6_method_42_code 34 = .ok (.imul, 1) := dOk_get (q := (34, .imul, 1)) ok_tb_M_plain_0 20 rfl
theorem d_M_plain_35 : decode prog_6_method_42_code 35 = .ok (.if_icmp .ge 34, 3) := dOk_get (q := (35, .if_icmp .ge 34, 3)) ok_tb_M_plain_0 21 rfl
theorem d_M_plain_38 : decode prog_6_method_42_code 38 = .ok (.iload_n 1, 1) := dOk_get (q := (38, .iload_n 1, 1)) ok_tb_M_plain_0 22 rfl
theorem d_M_plain_39 : decode prog_6_method_42_code 39 = .ok (.ifCond .eq 30, 3) := dOk_get (q := (39, .ifCond .eq 30, 3)) ok_tb_M_plain_0 23 rfl
theorem d_M_plain_42 : decode prog_6_method_42_code 42 = .ok (.aload_n 0, 1) := dOk_get (q := (42, .aload_n 0, 1)) ok_tb_M_plain_0 24 rfl
theorem d_M_plain_43 : decode prog_6_method_42_code 43 = .ok (.getfield 51, 3) := dOk_get (q := (43, .getfield 51, 3)) ok_tb_M_plain_0 25 rfl
theorem d_M_plain_46 : decode prog_6_method_42_code 46 = .ok (.iload_n 2, 1) := dOk_get (q := (46, .iload_n 2, 1)) ok_tb_M_plain_0 26 rfl
theorem d_M_plain_47 : decode prog_6_method_42_code 47 = .ok (.iaload, 1) := dOk_get (q := (47, .iaload, 1)) ok_tb_M_plain_0 27 rfl
theorem d_M_plain_48 : decode prog_6_method_42_code 48 = .ok (.aload_n 0, 1) := dOk_get (q := (48, .aload_n 0, 1)) ok_tb_M_plain_0 28 rfl
theorem d_M_plain_49 : decode prog_6_method_42_code 49 = .ok (.getfield 54, 3) := dOk_get (q := (49, .getfield 54, 3)) ok_tb_M_plain_0 29 rfl
theorem d_M_plain_52 : decode prog_6_method_42_code 52 = .ok (.iload_n 2, 1) := dOk_get (q := (52, .iload_n 2, 1)) ok_tb_M_plain_0 30 rfl
theorem d_M_plain_53 : decode prog_6_method_42_code 53 = .ok (.iaload, 1) := dOk_get (q := (53, .iaload, 1)) ok_tb_M_plain_0 31 rfl
theorem d_M_plain_54 : decode prog_6_method_42_code 54 = .ok (.if_icmp .ne 7, 3) := dOk_get (q := (54, .if_icmp .ne 7, 3)) ok_tb_M_plain_0 32 rfl
theorem d_M_plain_57 : decode prog_6_method_42_code 57 = .ok (.iconst 1, 1) := dOk_get (q := (57, .iconst 1, 1)) ok_tb_M_plain_0 33 rfl
theorem d_M_plain_58 : decode prog_6_method_42_code 58 = .ok (.goto 4, 3) := dOk_get (q := (58, .goto 4, 3)) ok_tb_M_plain_0 34 rfl
theorem d_M_plain_61 : decode prog_6_method_42_code 61 = .ok (.iconst 0, 1) := dOk_get (q := (61, .iconst 0, 1)) ok_tb_M_plain_0 35 rfl
theorem d_M_plain_62 : decode prog_6_method_42_code 62 = .ok (.istore_n 1, 1) := dOk_get (q := (62, .istore_n 1, 1)) ok_tb_M_plain_0 36 rfl
theorem d_M_plain_63 : decode prog_6_method_42_code 63 = .ok (.iinc 2 1, 3) := dOk_get (q := (63, .iinc 2 1, 3)) ok_tb_M_plain_0 37 rfl
theorem d_M_plain_66 : decode prog_6_method_42_code 66 = .ok (.goto (-38), 3) := dOk_get (q := (66, .goto (-38), 3)) ok_tb_M_plain_0 38 rfl
theorem d_M_plain_69 : decode prog_6_method_42_code 69 = .ok (.iconst 0, 1) := dOk_get (q := (69, .iconst 0, 1)) ok_tb_M_plain_0 39 rfl
theorem d_M_plain_70 : decode prog_6_method_42_code 70 = .ok (.istore_n 2, 1) := dOk_get (q := (70, .istore_n 2, 1)) ok_tb_M_plain_0 40 rfl
theorem d_M_plain_71 : decode prog_6_method_42_code 71 = .ok (.iload_n 2, 1) := dOk_get (q := (71, .iload_n 2, 1)) ok_tb_M_plain_0 41 rfl
theorem d_M_plain_72 : decode prog_6_method_42_code 72 = .ok (.aload_n 0, 1) := dOk_get (q := (72, .aload_n 0, 1)) ok_tb_M_plain_0 42 rfl
theorem d_M_plain_73 : decode prog_6_method_42_code 73 = .ok (.getfield 196, 3) := dOk_get (q := (73, .getfield 196, 3)) ok_tb_M_plain_0 43 rfl
theorem d_M_plain_76 : decode prog_6_method_42_code 76 = .ok (.if_icmp .ge 75, 3) := dOk_get (q := (76, .if_icmp .ge 75, 3)) ok_tb_M_plain_0 44 rfl
theorem d_M_plain_79 : decode prog_6_method_42_code 79 = .ok (.iload_n 1, 1) := dOk_get (q := (79, .iload_n 1, 1)) ok_tb_M_plain_0 45 rfl
theorem d_M_plain_80 : decode prog_6_method_42_code 80 = .ok (.ifCond .eq 71, 3) := dOk_get (q := (80, .ifCond .eq 71, 3)) ok_tb_M_plain_0 46 rfl
theorem d_M_plain_83 : decode prog_6_method_42_code 83 = .ok (.aload_n 0, 1) := dOk_get (q := (83, .aload_n 0, 1)) ok_tb_M_plain_0 47 rfl
theorem d_M_plain_84 : decode prog_6_method_42_code 84 = .ok (.getfield 57, 3) := dOk_get (q := (84, .getfield 57, 3)) ok_tb_M_plain_0 48 rfl
theorem d_M_plain_87 : decode prog_6_method_42_code 87 = .ok (.iload_n 2, 1) := dOk_get (q := (87, .iload_n 2, 1)) ok_tb_M_plain_0 49 rfl
theorem d_M_plain_88 : decode prog_6_method_42_code 88 = .ok (.laload, 1) := dOk_get (q := (88, .laload, 1)) ok_tb_M_plain_0 50 rfl
theorem d_M_plain_89 : decode prog_6_method_42_code 89 = .ok (.aload_n 0, 1) := dOk_get (q := (89, .aload_n 0, 1)) ok_tb_M_plain_0 51 rfl
theorem d_M_plain_90 : decode prog_6_method_42_code 90 = .ok (.getfield 25, 3) := dOk_get (q := (90, .getfield 25, 3)) ok_tb_M_plain_0 52 rfl
theorem d_M_plain_93 : decode prog_6_method_42_code 93 = .ok (.bipush 8, 2) := dOk_get (q := (93, .bipush 8, 2)) ok_tb_M_plain_0 53 rfl
theorem d_M_plain_95 : decode prog_6_method_42_code 95 = .ok (.aload_n 0, 1) := dOk_get (q := (95, .aload_n 0, 1)) ok_tb_M_plain_0 54 rfl
theorem d_M_plain_96 : decode prog_6_method_42_code 96 = .ok (.getfield 54, 3) := dOk_get (q := (96, .getfield 54, 3)) ok_tb_M_plain_0 55 rfl
theorem d_M_plain_99 : decode prog_6_method_42_code 99 = .ok (.iconst 3, 1) := dOk_get (q := (99, .iconst 3, 1)) ok_tb_M_plain_0 56 rfl
theorem d_M_plain_100 : decode prog_6_method_42_code 100 = .ok (.iload_n 2, 1) := dOk_get (q := (100, .iload_n 2, 1)) ok_tb_M_plain_0 57 rfl
theorem d_M_plain_101 : decode prog_6_method_42_code 101 = .ok (.imul, 1) := dOk_get (q := (101, .imul, 1)) ok_tb_M_plain_0 58 rfl
theorem d_M_plain_102 : decode prog_6_method_42_code 102 = .ok (.iconst 1, 1) := dOk_get (q := (102, .iconst 1, 1)) ok_tb_M_plain_0 59 rfl
theorem d_M_plain_103 : decode prog_6_method_42_code 103 = .ok (.iadd, 1) := dOk_get (q := (103, .iadd, 1)) ok_tb_M_plain_0 60 rfl
theorem d_M_plain_104 : decode prog_6_method_42_code 104 = .ok (.iaload, 1) := dOk_get (q := (104, .iaload, 1)) ok_tb_M_plain_0 61 rfl
theorem d_M_plain_105 : decode prog_6_method_42_code 105 = .ok (.imul, 1) := dOk_get (q := (105, .imul, 1)) ok_tb_M_plain_0 62 rfl
theorem d_M_plain_106 : decode prog_6_method_42_code 106 = .ok (.laload, 1) := dOk_get (q := (106, .laload, 1)) ok_tb_M_plain_0 63 rfl
theorem d_M_plain_107 : decode prog_6_method_42_code 107 = .ok (.lcmp, 1) := dOk_get (q := (107, .lcmp, 1)) ok_tb_M_plain_0 64 rfl
theorem d_M_plain_108 : decode prog_6_method_42_code 108 = .ok (.ifCond .ne 35, 3) := dOk_get (q := (108, .ifCond .ne 35, 3)) ok_tb_M_plain_0 65 rfl
theorem d_M_plain_111 : decode prog_6_method_42_code 111 = .ok (.aload_n 0, 1) := dOk_get (q := (111, .aload_n 0, 1)) ok_tb_M_plain_0 66 rfl
theorem d_M_plain_112 : decode prog_6_method_42_code 112 = .ok (.getfield 60, 3) := dOk_get (q := (112, .getfield 60, 3)) ok_tb_M_plain_0 67 rfl
theorem d_M_plain_115 : decode prog_6_method_42_code 115 = .ok (.iload_n 2, 1) := dOk_get (q := (115, .iload_n 2, 1)) ok_tb_M_plain_0 68 rfl
theorem d_M_plain_116 : decode prog_6_method_42_code 116 = .ok (.laload, 1) := dOk_get (q := (116, .laload, 1)) ok_tb_M_plain_0 69 rfl
theorem d_M_plain_117 : decode prog_6_method_42_code 117 = .ok (.aload_n 0, 1) := dOk_get (q := (117, .aload_n 0, 1)) ok_tb_M_plain_0 70 rfl
theorem d_M_plain_118 : decode prog_6_method_42_code 118 = .ok (.getfield 29, 3) := dOk_get (q := (118, .getfield 29, 3)) ok_tb_M_plain_0 71 rfl
theorem d_M_plain_121 : decode prog_6_method_42_code 121 = .ok (.bipush 8, 2) := dOk_get (q := (121, .bipush 8, 2)) ok_tb_M_plain_0 72 rfl
theorem d_M_plain_123 : decode prog_6_method_42_code 123 = .ok (.aload_n 0, 1) := dOk_get (q := (123, .aload_n 0, 1)) ok_tb_M_plain_0 73 rfl
theorem d_M_plain_124 : decode prog_6_method_42_code 124 = .ok (.getfield 54, 3) := dOk_get (q := (124, .getfield 54, 3)) ok_tb_M_plain_0 74 rfl
theorem d_M_plain_127 : decode prog_6_method_42_code 127 = .ok (.iconst 3, 1) := dOk_get (q := (127, .iconst 3, 1)) ok_tb_M_plain_0 75 rfl
theorem d_M_plain_128 : decode prog_6_method_42_code 128 = .ok (.iload_n 2, 1) := dOk_get (q := (128, .iload_n 2, 1)) ok_tb_M_plain_0 76 rfl
theorem d_M_plain_129 : decode prog_6_method_42_code 129 = .ok (.imul, 1) := dOk_get (q := (129, .imul, 1)) ok_tb_M_plain_0 77 rfl
theorem d_M_plain_130 : decode prog_6_method_42_code 130 = .ok (.iconst 1, 1) := dOk_get (q := (130, .iconst 1, 1)) ok_tb_M_plain_0 78 rfl
theorem d_M_plain_131 : decode prog_6_method_42_code 131 = .ok (.iadd, 1) := dOk_get (q := (131, .iadd, 1)) ok_tb_M_plain_0 79 rfl
theorem d_M_plain_132 : decode prog_6_method_42_code 132 = .ok (.iaload, 1) := dOk_get (q := (132, .iaload, 1)) ok_tb_M_plain_0 80 rfl
theorem d_M_plain_133 : decode prog_6_method_42_code 133 = .ok (.imul, 1) := dOk_get (q := (133, .imul, 1)) ok_tb_M_plain_0 81 rfl
theorem d_M_plain_134 : decode prog_6_method_42_code 134 = .ok (.laload, 1) := dOk_get (q := (134, .laload, 1)) ok_tb_M_plain_0 82 rfl
theorem d_M_plain_135 : decode prog_6_method_42_code 135 = .ok (.lcmp, 1) := dOk_get (q := (135, .lcmp, 1)) ok_tb_M_plain_0 83 rfl
theorem d_M_plain_136 : decode prog_6_method_42_code 136 = .ok (.ifCond .ne 7, 3) := dOk_get (q := (136, .ifCond .ne 7, 3)) ok_tb_M_plain_0 84 rfl
theorem d_M_plain_139 : decode prog_6_method_42_code 139 = .ok (.iconst 1, 1) := dOk_get (q := (139, .iconst 1, 1)) ok_tb_M_plain_0 85 rfl
theorem d_M_plain_140 : decode prog_6_method_42_code 140 = .ok (.goto 4, 3) := dOk_get (q := (140, .goto 4, 3)) ok_tb_M_plain_0 86 rfl
theorem d_M_plain_143 : decode prog_6_method_42_code 143 = .ok (.iconst 0, 1) := dOk_get (q := (143, .iconst 0, 1)) ok_tb_M_plain_0 87 rfl
theorem d_M_plain_144 : decode prog_6_method_42_code 144 = .ok (.istore_n 1, 1) := dOk_get (q := (144, .istore_n 1, 1)) ok_tb_M_plain_0 88 rfl
theorem d_M_plain_145 : decode prog_6_method_42_code 145 = .ok (.iinc 2 1, 3) := dOk_get (q := (145, .iinc 2 1, 3)) ok_tb_M_plain_0 89 rfl
theorem d_M_plain_148 : decode prog_6_method_42_code 148 = .ok (.goto (-77), 3) := dOk_get (q := (148, .goto (-77), 3)) ok_tb_M_plain_0 90 rfl
theorem d_M_plain_151 : decode prog_6_method_42_code 151 = .ok (.iload_n 1, 1) := dOk_get (q := (151, .iload_n 1, 1)) ok_tb_M_plain_0 91 rfl
theorem d_M_plain_152 : decode prog_6_method_42_code 152 = .ok (.ireturn, 1) := dOk_get (q := (152, .ireturn, 1)) ok_tb_M_plain_0 92 rfl
def tb_M_kinds_0 : List (Nat × Instr × Nat) := [(0, .aload_n 0, 1), (1, .iconst 0, 1), (2, .putfield 69, 3), (5, .iconst 0, 1), (6, .istore_n 1, 1), (7, .iconst 0, 1), (8, .istore_n 2, 1), (9, .iload_n 2, 1), (10, .aload_n 0, 1), (11, .getfield 196, 3), (14, .if_icmp .ge 22, 3), (17, .iload_n 1, 1), (18, .iconst 1, 1), (19, .aload_n 0, 1), (20, .getfield 54, 3), (23, .iconst 3, 1), (24, .iload_n 2, 1), (25, .imul, 1), (26, .iaload, 1), (27, .ishl, 1), (28, .ior, 1), (29, .istore_n 1, 1), (30, .iinc 2 1, 3), (33, .goto (-24), 3), (36, .iconst 0, 1), (37, .istore_n 2, 1), (38, .iload_n 1, 1), (39, .ifCond .eq 16, 3), (42, .iload_n 2, 1), (43, .iload_n 1, 1), (44, .iconst 1, 1), (45, .iand, 1), (46, .iadd, 1), (47, .istore_n 2, 1), (48, .iload_n 1, 1), (49, .iconst 1, 1), (50, .ishr, 1), (51, .istore_n 1, 1), (52, .goto (-14), 3), (55, .iload_n 2, 1), (56, .ireturn, 1)]
theorem ok_tb_M_kinds_0 : dOk prog_6_method_43_code tb_M_kinds_0 = true := by decide +kernel
theorem d_M_kinds_0 : decode prog_6_method_43_code 0 = .ok (.aload_n 0, 1) := dOk_get (q := (0, .aload_n 0, 1)) ok_tb_M_kinds_0 0 rfl
theorem d_M_kinds_1 : decode prog_6_method_43_code 1 = .ok (.iconst 0, 1) := dOk_get (q := (1, .iconst 0, 1)) ok_tb_M_kinds_0 1 rfl
theorem d_M_kinds_2 : decode prog_6_method_43_code 2 = .ok (.putfield 69, 3) := dOk_get (q := (2, .putfield 69, 3)) ok_tb_M_kinds_0 2 rfl
theorem d_M_kinds_5 : decode prog_6_method_43_code 5 = .ok (.iconst 0, 1) := dOk_get (q := (5, .iconst 0, 1)) ok_tb_M_kinds_0 3 rfl
theorem d_M_kinds_6 : decode prog_6_method_43_code 6 = .ok (.istore_n 1, 1) := dOk_get (q := (6, .istore_n 1, 1)) ok_tb_M_kinds_0 4 rfl
theorem d_M_kinds_7 : decode prog_6_method_43_code 7 = .ok (.iconst 0, 1) := dOk_get (q := (7, .iconst 0, 1)) ok_tb_M_kinds_0 5 rfl
theorem d_M_kinds_8 : decode prog_6_method_43_code 8 = .ok (.istore_n 2, 1) := dOk_get (q := (8, .istore_n 2, 1)) ok_tb_M_kinds_0 6 rfl
theorem d_M_kinds_9 : decode prog_6_method_43_code 9 = .ok (.iload_n 2, 1) := dOk_get (q := (9, .iload_n 2, 1)) ok_tb_M_kinds_0 7 rfl
theorem d_M_kinds_10 : decode prog_6_method_43_code 10 = .ok (.aload_n 0, 1) := dOk_get (q := (10, .aload_n 0, 1)) ok_tb_M_kinds_0 8 rfl
theorem d_M_kinds_11 : decode prog_6_method_43_code 11 = .ok (.getfield 196, 3) := dOk_get (q := (11, .getfield 196, 3)) ok_tb_M_kinds_0 9 rfl
theorem d_M_kinds_14 : decode prog_6_method_43_code 14 = .ok (.if_icmp .ge 22, 3) := dOk_get (q := (14, .if_icmp .ge 22, 3)) ok_tb_M_kinds_0 10 rfl
theorem d_M_kinds_17 : decode prog_6_method_43_code 17 = .ok (.iload_n 1, 1) := dOk_get (q := (17, .iload_n 1, 1)) ok_tb_M_kinds_0 11 rfl
theorem d_M_kinds_18 : decode prog_6_method_43_code 18 = .ok (.iconst 1, 1) := dOk_get (q := (18, .iconst 1, 1)) ok_tb_M_kinds_0 12 rfl
theorem d_M_kinds_19 : decode prog_6_method_43_code 19 = .ok (.aload_n 0, 1) := dOk_get (q := (19, .aload_n 0, 1)) ok_tb_M_kinds_0 13 rfl
theorem d_M_kinds_20 : decode prog_6_method_43_code 20 = .ok (.getfield 54, 3) := dOk_get (q := (20, .getfield 54, 3)) ok_tb_M_kinds_0 14 rfl
theorem d_M_kinds_23 : decode prog_6_method_43_code 23 = .ok (.iconst 3, 1) := dOk_get (q := (23, .iconst 3, 1)) ok_tb_M_kinds_0 15 rfl
theorem d_M_kinds_24 : decode prog_6_method_43_code 24 = .ok (.iload_n 2, 1) := dOk_get (q := (24, .iload_n 2, 1)) ok_tb_M_kinds_0 16 rfl
theorem d_M_kinds_25 : decode prog_6_method_43_code 25 = .ok (.imul, 1) := dOk_get (q := (25, .imul, 1)) ok_tb_M_kinds_0 17 rfl
theorem d_M_kinds_26 : decode prog_6_method_43_code 26 = .ok (.iaload, 1) := dOk_get (q := (26, .iaload, 1)) ok_tb_M_kinds_0 18 rfl
theorem d_M_kinds_27 : decode prog_6_method_43_code 27 = .ok (.ishl, 1) := dOk_get (q := (27, .ishl, 1)) ok_tb_M_kinds_0 19 rfl
theorem d_M_kinds_28 : decode prog_6_method_43_code 28 = .ok (.ior, 1) := dOk_get (q := (28, .ior, 1)) ok_tb_M_kinds_0 20 rfl
theorem d_M_kinds_29 : decode prog_6_method_43_code 29 = .ok (.istore_n 1, 1) := dOk_get (q := (29, .istore_n 1, 1)) ok_tb_M_kinds_0 21 rfl
theorem d_M_kinds_30 : decode prog_6_method_43_code 30 = .ok (.iinc 2 1, 3) := dOk_get (q := (30, .iinc 2 1, 3)) ok_tb_M_kinds_0 22 rfl
theorem d_M_kinds_33 : decode prog_6_method_43_code 33 = .ok (.goto (-24), 3) := dOk_get (q := (33, .goto (-24), 3)) ok_tb_M_kinds_0 23 rfl
theorem d_M_kinds_36 : decode prog_6_method_43_code 36 = .ok (.iconst 0, 1) := dOk_get (q := (36, .iconst 0, 1)) ok_tb_M_kinds_0 24 rfl
theorem d_M_kinds_37 : decode prog_6_method_43_code 37 = .ok (.istore_n 2, 1) := dOk_get (q := (37, .istore_n 2, 1)) ok_tb_M_kinds_0 25 rfl
theorem d_M_kinds_38 : decode prog_6_method_43_code 38 = .ok (.iload_n 1, 1) := dOk_get (q := (38, .iload_n 1, 1)) ok_tb_M_kinds_0 26 rfl
theorem d_M_kinds_39 : decode prog_6_method_43_code 39 = .ok (.ifCond .eq 16, 3) := dOk_get (q := (39, .ifCond .eq 16, 3)) ok_tb_M_kinds_0 27 rfl
theorem d_M_kinds_42 : decode prog_6_method_43_code 42 = .ok (.iload_n 2, 1) := dOk_get (q := (42, .iload_n 2, 1)) ok_tb_M_kinds_0 28 rfl
theorem d_M_kinds_43 : decode prog_6_method_43_code 43 = .ok (.iload_n 1, 1) := dOk_get (q := (43, .iload_n 1, 1)) ok_tb_M_kinds_0 29 rfl
theorem d_M_kinds_44 : decode prog_6_method_43_code 44 = .ok (.iconst 1, 1) := dOk_get (q := (44, .iconst 1, 1)) ok_tb_M_kinds_0 30 rfl
theorem d_M_kinds_45 : decode prog_6_method_43_code 45 = .ok (.iand, 1) := dOk_get (q := (45, .iand, 1)) ok_tb_M_kinds_0 31 rfl
theorem d_M_kinds_46 : decode prog_6_method_43_code 46 = .ok (.iadd, 1) := dOk_get (q := (46, .iadd, 1)) ok_tb_M_kinds_0 32 rfl
theorem d_M_kinds_47 : decode prog_6_method_43_code 47 = .ok (.istore_n 2, 1) := dOk_get (q := (47, .istore_n 2, 1)) ok_tb_M_kinds_0 33 rfl
theorem d_M_kinds_48 : decode prog_6_method_43_code 48 = .ok (.iload_n 1, 1) := dOk_get (q := (48, .iload_n 1, 1)) ok_tb_M_kinds_0 34 rfl
theorem d_M_kinds_49 : decode prog_6_method_43_code 49 = .ok (.iconst 1, 1) := dOk_get (q := (49, .iconst 1, 1)) ok_tb_M_kinds_0 35 rfl
theorem d_M_kinds_50 : decode prog_6_method_43_code 50 = .ok (.ishr, 1) := dOk_get (q := (50, .ishr, 1)) ok_tb_M_kinds_0 36 rfl
theorem d_M_kinds_51 : decode prog_6_method_43_code 51 = .ok (.istore_n 1, 1) := dOk_get (q := (51, .istore_n 1, 1)) ok_tb_M_kinds_0 37 rfl
theorem d_M_kinds_52 : decode prog_6_method_43_code 52 = .ok (.goto (-14), 3) := dOk_get (q := (52, .goto (-14), 3)) ok_tb_M_kinds_0 38 rfl
theorem d_M_kinds_55 : decode prog_6_method_43_code 55 = .ok (.iload_n 2, 1) := dOk_get (q := (55, .iload_n 2, 1)) ok_tb_M_kinds_0 39 rfl
theorem d_M_kinds_56 : decode prog_6_method_43_code 56 = .ok (.ireturn, 1) := dOk_get (q := (56, .ireturn, 1)) ok_tb_M_kinds_0 40 rfl
def tb_M_order_0 : List (Nat × Instr × Nat) := [(0, .aload_n 0, 1), (1, .aload_n 0, 1), (2, .iload_n 1, 1), (3, .invokevirtual 202, 3), (6, .ifCond .eq 7, 3), (9, .iconst 0, 1), (10, .goto 4, 3), (13, .iconst 1, 1), (14, .putfield 69, 3), (17, .aload_n 0, 1), (18, .getfield 69, 3), (21, .ifCond .ne 21, 3), (24, .aload_n 0, 1), (25, .getfield 13, 3), (28, .aload_n 0, 1), (29, .getfield 54, 3), (32, .iconst 3, 1), (33, .iload_n 1, 1), (34, .imul, 1), (35, .iconst 1, 1), (36, .iadd, 1), (37, .iaload, 1), (38, .iaload, 1), (39, .goto 4, 3), (42, .iconst 0, 1), (43, .ireturn, 1)]
theorem ok_tb_M_order_0 : dOk prog_6_method_44_code tb_M_order_0 = true := by decide +kernel
theorem d_M_order_0 : decode prog_6_method_44_code 0 = .ok (.aload_n 0, 1) := dOk_get (q := (0, .aload_n 0, 1)) ok_tb_M_order_0 0 rfl
theorem d_M_order_1 : decode prog_6_method_44_code 1 = .ok (.aload_n 0, 1) := dOk_get (q := (1, .aload_n 0, 1)) ok_tb_M_order_0 1 rfl
theorem d_M_order_2 : decode prog_6_method_44_code 2 = .ok (.iload_n 1, 1) := dOk_get (q := (2, .iload_n 1, 1)) ok_tb_M_order_0 2 rfl
theorem d_M_order_3 : decode prog_6_method_44_code 3 = .ok (.invokevirtual 202, 3) := dOk_get (q := (3, .invokevirtual 202, 3)) ok_tb_M_order_0 3 rfl
theorem d_M_order_6 : decode prog_6_method_44_code 6 = .ok (.ifCond .eq 7, 3) := dOk_get (q := (6, .ifCond .eq 7, 3)) ok_tb_M_order_0 4 rfl
theorem d_M_order_9 : decode prog_6_method_44_code 9 = .ok (.iconst 0, 1) := dOk_get (q := (9, .iconst 0, 1)) ok_tb_M_order_0 5 rfl
theorem d_M_order_10 : decode prog_6_method_44_code 10 = .ok (.goto 4, 3) := dOk_get (q := (10, .goto 4, 3)) ok_tb_M_order_0 6 rfl
theorem d_M_order_13 : decode prog_6_method_44_code 13 = .ok (.iconst 1, 1) := dOk_get (q := (13, .iconst 1, 1)) ok_tb_M_order_0 7 rfl
theorem d_M_order_14 : decode prog_6_method_44_code 14 = .ok (.putfield 69, 3) := dOk_get (q := (14, .putfield 69, 3)) ok_tb_M_order_0 8 rfl
theorem d_M_order_17 : decode prog_6_method_44_code 17 = .ok (.aload_n 0, 1) := dOk_get (q := (17, .aload_n 0, 1)) ok_tb_M_order_0 9 rfl
theorem d_M_order_18 : decode prog_6_method_44_code 18 = .ok (.getfield 69, 3) := dOk_get (q := (18, .getfield 69, 3)) ok_tb_M_order_0 10 rfl
theorem d_M_order_21 : decode prog_6_method_44_code 21 = .ok (.ifCond .ne 21, 3) := dOk_get (q := (21, .ifCond .ne 21, 3)) ok_tb_M_order_0 11 rfl
theorem d_M_order_24 : decode prog_6_method_44_code 24 = .ok (.aload_n 0, 1) := dOk_get (q := (24, .aload_n 0, 1)) ok_tb_M_order_0 12 rfl
theorem d_M_order_25 : decode prog_6_method_44_code 25 = .ok (.getfield 13, 3) := dOk_get (q := (25, .getfield 13, 3)) ok_tb_M_order_0 13 rfl
theorem d_M_order_28 : decode prog_6_method_44_code 28 = .ok (.aload_n 0, 1) := dOk_get (q := (28, .aload_n 0, 1)) ok_tb_M_order_0 14 rfl
theorem d_M_order_29 : decode prog_6_method_44_code 29 = .ok (.getfield 54, 3) := dOk_get (q := (29, .getfield 54, 3)) ok_tb_M_order_0 15 rfl
theorem d_M_order_32 : decode prog_6_method_44_code 32 = .ok (.iconst 3, 1) := dOk_get (q := (32, .iconst 3, 1)) ok_tb_M_order_0 16 rfl
theorem d_M_order_33 : decode prog_6_method_44_code 33 = .ok (.iload_n 1, 1) := dOk_get (q := (33, .iload_n 1, 1)) ok_tb_M_order_0 17 rfl
theorem d_M_order_34 : decode prog_6_method_44_code 34 = .ok (.imul, 1) := dOk_get (q := (34, .imul, 1)) ok_tb_M_order_0 18 rfl
theorem d_M_order_35 : decode prog_6_method_44_code 35 = .ok (.iconst 1, 1) := dOk_get (q := (35, .iconst 1, 1)) ok_tb_M_order_0 19 rfl
theorem d_M_order_36 : decode prog_6_method_44_code 36 = .ok (.iadd, 1) := dOk_get (q := (36, .iadd, 1)) ok_tb_M_order_0 20 rfl
theorem d_M_order_37 : decode prog_6_method_44_code 37 = .ok (.iaload, 1) := dOk_get (q := (37, .iaload, 1)) ok_tb_M_order_0 21 rfl
theorem d_M_order_38 : decode prog_6_method_44_code 38 = .ok (.iaload, 1) := dOk_get (q := (38, .iaload, 1)) ok_tb_M_order_0 22 rfl
theorem d_M_order_39 : decode prog_6_method_44_code 39 = .ok (.goto 4, 3) := dOk_get (q := (39, .goto 4, 3)) ok_tb_M_order_0 23 rfl
theorem d_M_order_42 : decode prog_6_method_44_code 42 = .ok (.iconst 0, 1) := dOk_get (q := (42, .iconst 0, 1)) ok_tb_M_order_0 24 rfl
theorem d_M_order_43 : decode prog_6_method_44_code 43 = .ok (.ireturn, 1) := dOk_get (q := (43, .ireturn, 1)) ok_tb_M_order_0 25 rfl
def tb_M_strips_0 : List (Nat × Instr × Nat) := [(0, .aload_n 0, 1), (1, .iload_n 1, 1), (2, .iconst 1, 1), (3, .if_icmp .lt 13, 3), (6, .iload_n 1, 1), (7, .bipush 64, 2), (9, .if_icmp .gt 7, 3), (12, .iconst 0, 1), (13, .goto 4, 3), (16, .iconst 1, 1), (17, .putfield 69, 3), (20, .aload_n 0, 1), (21, .getfield 69, 3), (24, .ifCond .eq 5, 3), (27, .iconst 0, 1), (28, .ireturn, 1), (29, .aload_n 0, 1), (30, .getfield 47, 3), (33, .istore_n 2, 1), (34, .aload_n 0, 1), (35, .iload_n 1, 1), (36, .putfield 47, 3), (39, .iload_n 2, 1), (40, .ireturn, 1)]
theorem ok_tb_M_strips_0 : dOk prog_6_method_45_code tb_M_strips_0 = true := by decide +kernel
theorem d_M_strips_0 : decode prog_6_method_45_code 0 = .ok (.aload_n 0, 1) := dOk_get (q := (0, .aload_n 0, 1)) ok_tb_M_strips_0 0 rfl
theorem d_M_strips_1 : decode prog_6_method_45_code 1 = .ok (.iload_n 1, 1) := dOk_get (q := (1, .iload_n 1, 1)) ok_tb_M_strips_0 1 rfl
theorem d_M_strips_2 : decode prog_6_method_45_code 2 = .ok (.iconst 1, 1) := dOk_get (q := (2, .iconst 1, 1)) ok_tb_M_strips_0 2 rfl
theorem d_M_strips_3 : decode prog_6_method_45_code 3 = .ok (.if_icmp .lt 13, 3) := dOk_get (q := (3, .if_icmp .lt 13, 3)) ok_tb_M_strips_0 3 rfl
theorem d_M_strips_6 : decode prog_6_method_45_code 6 = .ok (.iload_n 1, 1) := dOk_get (q := (6, .iload_n 1, 1)) ok_tb_M_strips_0 4 rfl
theorem d_M_strips_7 : decode prog_6_method_45_code 7 = .ok (.bipush 64, 2) := dOk_get (q := (7, .bipush 64, 2)) ok_tb_M_strips_0 5 rfl
theorem d_M_strips_9 : decode prog_6_method_45_code 9 = .ok (.if_icmp .gt 7, 3) := dOk_get (q := (9, .if_icmp .gt 7, 3)) ok_tb_M_strips_0 6 rfl
theorem d_M_strips_12 : decode prog_6_method_45_code 12 = .ok (.iconst 0, 1) := dOk_get (q := (12, .iconst 0, 1)) ok_tb_M_strips_0 7 rfl
theorem d_M_strips_13 : decode prog_6_method_45_code 13 = .ok (.goto 4, 3) := dOk_get (q := (13, .goto 4, 3)) ok_tb_M_strips_0 8 rfl
theorem d_M_strips_16 : decode prog_6_method_45_code 16 = .ok (.iconst 1, 1) := dOk_get (q := (16, .iconst 1, 1)) ok_tb_M_strips_0 9 rfl
theorem d_M_strips_17 : decode prog_6_method_45_code 17 = .ok (.putfield 69, 3) := dOk_get (q := (17, .putfield 69, 3)) ok_tb_M_strips_0 10 rfl
theorem d_M_strips_20 : decode prog_6_method_45_code 20 = .ok (.aload_n 0, 1) := dOk_get (q := (20, .aload_n 0, 1)) ok_tb_M_strips_0 11 rfl
theorem d_M_strips_21 : decode prog_6_method_45_code 21 = .ok (.getfield 69, 3) := dOk_get (q := (21, .getfield 69, 3)) ok_tb_M_strips_0 12 rfl
theorem d_M_strips_24 : decode prog_6_method_45_code 24 = .ok (.ifCond .eq 5, 3) := dOk_get (q := (24, .ifCond .eq 5, 3)) ok_tb_M_strips_0 13 rfl
theorem d_M_strips_27 : decode prog_6_method_45_code 27 = .ok (.iconst 0, 1) := dOk_get (q := (27, .iconst 0, 1)) ok_tb_M_strips_0 14 rfl
theorem d_M_strips_28 : decode prog_6_method_45_code 28 = .ok (.ireturn, 1) := dOk_get (q := (28, .ireturn, 1)) ok_tb_M_strips_0 15 rfl
theorem d_M_strips_29 : decode prog_6_method_45_code 29 = .ok (.aload_n 0, 1) := dOk_get (q := (29, .aload_n 0, 1)) ok_tb_M_strips_0 16 rfl
theorem d_M_strips_30 : decode prog_6_method_45_code 30 = .ok (.getfield 47, 3) := dOk_get (q := (30, .getfield 47, 3)) ok_tb_M_strips_0 17 rfl
theorem d_M_strips_33 : decode prog_6_method_45_code 33 = .ok (.istore_n 2, 1) := dOk_get (q := (33, .istore_n 2, 1)) ok_tb_M_strips_0 18 rfl
theorem d_M_strips_34 : decode prog_6_method_45_code 34 = .ok (.aload_n 0, 1) := dOk_get (q := (34, .aload_n 0, 1)) ok_tb_M_strips_0 19 rfl
theorem d_M_strips_35 : decode prog_6_method_45_code 35 = .ok (.iload_n 1, 1) := dOk_get (q := (35, .iload_n 1, 1)) ok_tb_M_strips_0 20 rfl
theorem d_M_strips_36 : decode prog_6_method_45_code 36 = .ok (.putfield 47, 3) := dOk_get (q := (36, .putfield 47, 3)) ok_tb_M_strips_0 21 rfl
theorem d_M_strips_39 : decode prog_6_method_45_code 39 = .ok (.iload_n 2, 1) := dOk_get (q := (39, .iload_n 2, 1)) ok_tb_M_strips_0 22 rfl
theorem d_M_strips_40 : decode prog_6_method_45_code 40 = .ok (.ireturn, 1) := dOk_get (q := (40, .ireturn, 1)) ok_tb_M_strips_0 23 rfl
