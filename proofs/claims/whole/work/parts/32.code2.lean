/-! instructions, group 2 -/
def tB106_0 : List (Nat × ab_I) := [(0, .aload_n 0, 0, 0, 0), (1, .getfield 37, 0, 17, 0), (4, .istore_n 1, 0, 0, 0), (5, .aload_n 0, 0, 0, 0), (6, .iconst (-1), 0, 0, 0), (7, .putfield 37, 0, 17, 0), (10, .aload_n 0, 0, 0, 0), (11, .getfield 50, 0, 1, 0), (14, .aload_n 0, 0, 0, 0), (15, .getfield 50, 0, 1, 0), (18, .getfield 244, 6, 14, 1), (21, .invokevirtual 281, 61, 1, 0), (24, .astore_n 2, 0, 0, 0), (25, .aload_n 2, 0, 0, 0), (26, .getfield 285, 2, 5, 1), (29, .ifCond .ne 27, 56, 0, 0), (32, .aload_n 0, 0, 0, 0), (33, .getfield 50, 0, 1, 0), (36, .getfield 289, 6, 15, 1), (39, .getfield 292, 1, 1, 1), (42, .aload_n 0, 0, 0, 0), (43, .getfield 50, 0, 1, 0), (46, .getfield 248, 6, 13, 1), (49, .getfield 292, 1, 1, 1)]
def tB106_1 : List (Nat × ab_I) := [(52, .lcmp, 0, 0, 0), (53, .ifCond .ne 30, 83, 0, 0), (56, .aload_n 0, 0, 0, 0), (57, .getfield 46, 0, 0, 0), (60, .iload_n 1, 0, 0, 0), (61, .aload_n 2, 0, 0, 0), (62, .getfield 134, 2, 6, 1), (65, .iconst 0, 0, 0, 0), (66, .aload_n 2, 0, 0, 0), (67, .getfield 134, 2, 6, 1), (70, .arraylength, 0, 0, 0), (71, .sipush 200, 0, 0, 0), (74, .invokestatic 295, 0, 0, 3), (77, .invokevirtual 231, 107, 4, 0), (80, .goto 13, 93, 0, 0), (83, .aload_n 0, 0, 0, 0), (84, .dup, 0, 0, 0), (85, .getfield 301, 0, 10, 0), (88, .iconst 1, 0, 0, 0), (89, .iadd, 0, 0, 0), (90, .putfield 301, 0, 10, 0), (93, .return_, 0, 0, 0)]
def tI106 : ab_T := [(49, tB106_0), (93, tB106_1)]
set_option maxRecDepth 100000 in
theorem tC106 : ab_ck (ab_lkB ab_mt ab_kb lL1 mM106) mM106.2.1.data.toList 0 (ab_flat tI106) = true := by decide +kernel
set_option maxRecDepth 100000 in
theorem tS106 : ab_swB mM106.2.1 (ab_flat tI106) = true := by decide +kernel
theorem tO106 : ab_MOK 106 tI106 := ab_allOK (M := mM106) rfl lL1_ok tC106 tS106
def tB107_0 : List (Nat × ab_I) := [(0, .aload_n 0, 0, 0, 0), (1, .getfield 11, 10, 0, 0), (4, .iload_n 1, 0, 0, 0), (5, .aaload, 0, 0, 0), (6, .astore 5, 0, 0, 0), (8, .aload 5, 0, 0, 0), (10, .invokevirtual 115, 98, 0, 0), (13, .ifCond .ne 13, 26, 0, 0), (16, .aload 5, 0, 0, 0), (18, .getfield 52, 7, 7, 1), (21, .bipush 20, 0, 0, 0), (23, .if_icmp .lt 4, 27, 0, 0), (26, .return_, 0, 0, 0), (27, .aload_n 0, 0, 0, 0), (28, .invokevirtual 102, 103, 0, 0), (31, .aload 5, 0, 0, 0), (33, .iconst (-1), 0, 0, 0), (34, .putfield 62, 7, 3, 1), (37, .aload 5, 0, 0, 0), (39, .iconst (-1), 0, 0, 0), (40, .putfield 65, 7, 4, 1), (43, .aload 5, 0, 0, 0), (45, .iconst 0, 0, 0, 0), (46, .putfield 71, 7, 6, 1)]
def tB107_1 : List (Nat × ab_I) := [(49, .aload_n 0, 0, 0, 0), (50, .aload 5, 0, 0, 0), (52, .getfield 105, 7, 8, 1), (55, .iconst 1, 0, 0, 0), (56, .iadd, 0, 0, 0), (57, .aload 5, 0, 0, 0), (59, .getfield 108, 7, 9, 1), (62, .invokevirtual 111, 108, 2, 0), (65, .iload_n 3, 0, 0, 0), (66, .iload 4, 0, 0, 0), (68, .if_icmp .ge 38, 106, 0, 0), (71, .aload_n 0, 0, 0, 0), (72, .iload_n 1, 0, 0, 0), (73, .invokevirtual 119, 74, 1, 0), (76, .ifCond .eq 30, 106, 0, 0), (79, .aload_n 0, 0, 0, 0), (80, .iload_n 1, 0, 0, 0), (81, .bipush 17, 0, 0, 0), (83, .lconst 0, 0, 0, 0), (84, .invokevirtual 48, 30, 3, 0), (87, .istore 6, 0, 0, 0), (89, .aload_n 0, 0, 0, 0), (90, .getfield 11, 10, 0, 0), (93, .iload 6, 0, 0, 0)]
def tB107_2 : List (Nat × ab_I) := [(95, .aaload, 0, 0, 0), (96, .getfield 77, 7, 11, 1), (99, .aload_n 2, 0, 0, 0), (100, .iload_n 3, 0, 0, 0), (101, .iload 4, 0, 0, 0), (103, .invokevirtual 123, 39, 3, 0), (106, .return_, 0, 0, 0)]
def tI107 : ab_T := [(46, tB107_0), (93, tB107_1), (106, tB107_2)]
set_option maxRecDepth 100000 in
theorem tC107 : ab_ck (ab_lkB ab_mt ab_kb lL11 mM107) mM107.2.1.data.toList 0 (ab_flat tI107) = true := by decide +kernel
set_option maxRecDepth 100000 in
theorem tS107 : ab_swB mM107.2.1 (ab_flat tI107) = true := by decide +kernel
theorem tO107 : ab_MOK 107 tI107 := ab_allOK (M := mM107) rfl lL11_ok tC107 tS107
def tB108_0 : List (Nat × ab_I) := [(0, .iload_n 1, 0, 0, 0), (1, .istore_n 3, 0, 0, 0), (2, .iload_n 3, 0, 0, 0), (3, .iload_n 2, 0, 0, 0), (4, .if_icmp .ge 34, 38, 0, 0), (7, .aload_n 0, 0, 0, 0), (8, .getfield 11, 10, 0, 0), (11, .aload_n 0, 0, 0, 0), (12, .getfield 21, 10, 2, 0), (15, .iload_n 3, 0, 0, 0), (16, .iaload, 0, 0, 0), (17, .aaload, 0, 0, 0), (18, .iconst (-1), 0, 0, 0), (19, .putfield 42, 7, 0, 1), (22, .aload_n 0, 0, 0, 0), (23, .dup, 0, 0, 0), (24, .getfield 45, 10, 5, 0), (27, .iconst 1, 0, 0, 0), (28, .isub, 0, 0, 0), (29, .putfield 45, 10, 5, 0), (32, .iinc 3 1, 0, 0, 0), (35, .goto (-33), 2, 0, 0), (38, .aload_n 0, 0, 0, 0), (39, .dup, 0, 0, 0)]
def tB108_1 : List (Nat × ab_I) := [(40, .getfield 99, 10, 6, 0), (43, .iconst 1, 0, 0, 0), (44, .iadd, 0, 0, 0), (45, .putfield 99, 10, 6, 0), (48, .return_, 0, 0, 0)]
def tI108 : ab_T := [(39, tB108_0), (48, tB108_1)]
set_option maxRecDepth 100000 in
theorem tC108 : ab_ck (ab_lkB ab_mt ab_kb lL11 mM108) mM108.2.1.data.toList 0 (ab_flat tI108) = true := by decide +kernel
set_option maxRecDepth 100000 in
theorem tS108 : ab_swB mM108.2.1 (ab_flat tI108) = true := by decide +kernel
theorem tO108 : ab_MOK 108 tI108 := ab_allOK (M := mM108) rfl lL11_ok tC108 tS108
def tB109_0 : List (Nat × ab_I) := [(0, .aload_n 0, 0, 0, 0), (1, .getfield 67, 0, 12, 0), (4, .istore_n 1, 0, 0, 0), (5, .aload_n 0, 0, 0, 0), (6, .getfield 67, 0, 12, 0), (9, .istore_n 2, 0, 0, 0), (10, .iload_n 2, 0, 0, 0), (11, .aload_n 0, 0, 0, 0), (12, .getfield 30, 0, 11, 0), (15, .getfield 80, 4, 2, 1), (18, .if_icmp .ge 23, 41, 0, 0), (21, .aload_n 0, 0, 0, 0), (22, .getfield 30, 0, 11, 0), (25, .getfield 76, 4, 1, 1), (28, .iload_n 2, 0, 0, 0), (29, .baload, 0, 0, 0), (30, .bipush 59, 0, 0, 0), (32, .if_icmp .eq 9, 41, 0, 0), (35, .iinc 2 1, 0, 0, 0), (38, .goto (-28), 10, 0, 0), (41, .aload_n 0, 0, 0, 0), (42, .iload_n 2, 0, 0, 0), (43, .iconst 1, 0, 0, 0), (44, .iadd, 0, 0, 0)]
def tB109_1 : List (Nat × ab_I) := [(45, .putfield 67, 0, 12, 0), (48, .iload_n 1, 0, 0, 0), (49, .iload_n 2, 0, 0, 0), (50, .if_icmp .ge 24, 74, 0, 0), (53, .aload_n 0, 0, 0, 0), (54, .getfield 30, 0, 11, 0), (57, .getfield 76, 4, 1, 1), (60, .iload_n 1, 0, 0, 0), (61, .baload, 0, 0, 0), (62, .invokestatic 174, 43, 1, 0), (65, .ifCond .eq 9, 74, 0, 0), (68, .iinc 1 1, 0, 0, 0), (71, .goto (-23), 48, 0, 0), (74, .iload_n 1, 0, 0, 0), (75, .iload_n 2, 0, 0, 0), (76, .if_icmp .ne 4, 80, 0, 0), (79, .return_, 0, 0, 0), (80, .aload_n 0, 0, 0, 0), (81, .dup, 0, 0, 0), (82, .getfield 58, 0, 9, 0), (85, .iconst 1, 0, 0, 0), (86, .isub, 0, 0, 0), (87, .putfield 58, 0, 9, 0), (90, .aload_n 0, 0, 0, 0)]
def tB109_2 : List (Nat × ab_I) := [(91, .aload_n 0, 0, 0, 0), (92, .getfield 30, 0, 11, 0), (95, .getfield 76, 4, 1, 1), (98, .iload_n 1, 0, 0, 0), (99, .iload_n 2, 0, 0, 0), (100, .invokevirtual 178, 110, 3, 0), (103, .ifCond .eq 16, 119, 0, 0), (106, .aload_n 0, 0, 0, 0), (107, .dup, 0, 0, 0), (108, .getfield 182, 0, 7, 0), (111, .iconst 1, 0, 0, 0), (112, .iadd, 0, 0, 0), (113, .putfield 182, 0, 7, 0), (116, .goto 13, 129, 0, 0), (119, .aload_n 0, 0, 0, 0), (120, .dup, 0, 0, 0), (121, .getfield 185, 0, 8, 0), (124, .iconst 1, 0, 0, 0), (125, .iadd, 0, 0, 0), (126, .putfield 185, 0, 8, 0), (129, .return_, 0, 0, 0)]
def tI109 : ab_T := [(44, tB109_0), (90, tB109_1), (129, tB109_2)]
set_option maxRecDepth 100000 in
theorem tC109 : ab_ck (ab_lkB ab_mt ab_kb lL1 mM109) mM109.2.1.data.toList 0 (ab_flat tI109) = true := by decide +kernel
set_option maxRecDepth 100000 in
theorem tS109 : ab_swB mM109.2.1 (ab_flat tI109) = true := by decide +kernel
theorem tO109 : ab_MOK 109 tI109 := ab_allOK (M := mM109) rfl lL1_ok tC109 tS109
def tB110_0 : List (Nat × ab_I) := [(0, .aload_n 1, 0, 0, 0), (1, .iload_n 2, 0, 0, 0), (2, .iload_n 3, 0, 0, 0), (3, .invokestatic 188, 111, 3, 0), (6, .istore 4, 0, 0, 0), (8, .ldc 192, 1000022, 0, 1), (10, .aload_n 1, 0, 0, 0), (11, .iload_n 2, 0, 0, 0), (12, .iload 4, 0, 0, 0), (14, .invokestatic 194, 112, 4, 0), (17, .istore 5, 0, 0, 0), (19, .iload 5, 0, 0, 0), (21, .bipush 10, 0, 0, 0), (23, .if_icmp .ne 41, 64, 0, 0), (26, .iload 4, 0, 0, 0), (28, .iload_n 3, 0, 0, 0), (29, .if_icmp .ne 23, 52, 0, 0), (32, .aload_n 0, 0, 0, 0), (33, .getfield 61, 0, 18, 0), (36, .ifCond .eq 16, 52, 0, 0), (39, .aload_n 0, 0, 0, 0), (40, .iconst 0, 0, 0, 0), (41, .putfield 61, 0, 18, 0), (44, .aload_n 0, 0, 0, 0)]
def tB110_1 : List (Nat × ab_I) := [(45, .aload_n 0, 0, 0, 0), (46, .getfield 70, 0, 15, 0), (49, .putfield 73, 0, 16, 0), (52, .iload 4, 0, 0, 0), (54, .iload_n 3, 0, 0, 0), (55, .if_icmp .ne 7, 62, 0, 0), (58, .iconst 1, 0, 0, 0), (59, .goto 4, 63, 0, 0), (62, .iconst 0, 0, 0, 0), (63, .ireturn, 0, 0, 0), (64, .iload 5, 0, 0, 0), (66, .iconst (-1), 0, 0, 0), (67, .if_icmp .eq 9, 76, 0, 0), (70, .iload 4, 0, 0, 0), (72, .iload_n 3, 0, 0, 0), (73, .if_icmp .ne 5, 78, 0, 0), (76, .iconst 0, 0, 0, 0), (77, .ireturn, 0, 0, 0), (78, .iload 5, 0, 0, 0), (80, .tableswitch 74 5 9 #[36, 74, 52, 74, 63], 0, 0, 0), (116, .aload_n 0, 0, 0, 0), (117, .getfield 50, 0, 1, 0), (120, .aload_n 1, 0, 0, 0), (121, .iload 4, 0, 0, 0)]
def tB110_2 : List (Nat × ab_I) := [(123, .iconst 1, 0, 0, 0), (124, .iadd, 0, 0, 0), (125, .iload_n 3, 0, 0, 0), (126, .invokevirtual 198, 56, 3, 0), (129, .pop, 0, 0, 0), (130, .iconst 1, 0, 0, 0), (131, .ireturn, 0, 0, 0), (132, .aload_n 0, 0, 0, 0), (133, .aload_n 1, 0, 0, 0), (134, .iload 4, 0, 0, 0), (136, .iconst 1, 0, 0, 0), (137, .iadd, 0, 0, 0), (138, .iload_n 3, 0, 0, 0), (139, .invokevirtual 201, 113, 3, 0), (142, .ireturn, 0, 0, 0), (143, .aload_n 0, 0, 0, 0), (144, .aload_n 1, 0, 0, 0), (145, .iload 4, 0, 0, 0), (147, .iconst 1, 0, 0, 0), (148, .iadd, 0, 0, 0), (149, .iload_n 3, 0, 0, 0), (150, .invokevirtual 204, 115, 3, 0), (153, .ireturn, 0, 0, 0), (154, .aload_n 0, 0, 0, 0)]
def tB110_3 : List (Nat × ab_I) := [(155, .iload 5, 0, 0, 0), (157, .aload_n 1, 0, 0, 0), (158, .iload 4, 0, 0, 0), (160, .iconst 1, 0, 0, 0), (161, .iadd, 0, 0, 0), (162, .iload_n 3, 0, 0, 0), (163, .invokevirtual 207, 116, 4, 0), (166, .ireturn, 0, 0, 0)]
def tI110 : ab_T := [(44, tB110_0), (121, tB110_1), (154, tB110_2), (166, tB110_3)]
set_option maxRecDepth 100000 in
theorem tC110 : ab_ck (ab_lkB ab_mt ab_kb lL1 mM110) mM110.2.1.data.toList 0 (ab_flat tI110) = true := by decide +kernel
set_option maxRecDepth 100000 in
theorem tS110 : ab_swB mM110.2.1 (ab_flat tI110) = true := by decide +kernel
theorem tO110 : ab_MOK 110 tI110 := ab_allOK (M := mM110) rfl lL1_ok tC110 tS110
def tB111_0 : List (Nat × ab_I) := [(0, .iload_n 1, 0, 0, 0), (1, .istore_n 3, 0, 0, 0), (2, .iload_n 3, 0, 0, 0), (3, .iload_n 2, 0, 0, 0), (4, .if_icmp .ge 17, 21, 0, 0), (7, .aload_n 0, 0, 0, 0), (8, .iload_n 3, 0, 0, 0), (9, .baload, 0, 0, 0), (10, .bipush 32, 0, 0, 0), (12, .if_icmp .eq 9, 21, 0, 0), (15, .iinc 3 1, 0, 0, 0), (18, .goto (-16), 2, 0, 0), (21, .iload_n 3, 0, 0, 0), (22, .ireturn, 0, 0, 0)]
def tI111 : ab_T := [(22, tB111_0)]
set_option maxRecDepth 100000 in
theorem tC111 : ab_ck (ab_lkB ab_mt ab_kb lL1 mM111) mM111.2.1.data.toList 0 (ab_flat tI111) = true := by decide +kernel
set_option maxRecDepth 100000 in
theorem tS111 : ab_swB mM111.2.1 (ab_flat tI111) = true := by decide +kernel
theorem tO111 : ab_MOK 111 tI111 := ab_allOK (M := mM111) rfl lL1_ok tC111 tS111
def tB112_0 : List (Nat × ab_I) := [(0, .iconst 0, 0, 0, 0), (1, .istore 4, 0, 0, 0), (3, .iconst 1, 0, 0, 0), (4, .istore 5, 0, 0, 0), (6, .iload_n 2, 0, 0, 0), (7, .istore 6, 0, 0, 0), (9, .iconst 0, 0, 0, 0), (10, .istore 7, 0, 0, 0), (12, .iload 7, 0, 0, 0), (14, .aload_n 0, 0, 0, 0), (15, .invokevirtual 43, 0, 0, 7), (18, .if_icmp .ge 80, 98, 0, 0), (21, .aload_n 0, 0, 0, 0), (22, .iload 7, 0, 0, 0), (24, .invokevirtual 49, 0, 0, 8), (27, .istore 8, 0, 0, 0), (29, .iload 8, 0, 0, 0), (31, .bipush 32, 0, 0, 0), (33, .if_icmp .eq 36, 69, 0, 0), (36, .iload 5, 0, 0, 0), (38, .ifCond .eq 22, 60, 0, 0), (41, .iload 6, 0, 0, 0), (43, .iload_n 3, 0, 0, 0), (44, .if_icmp .ge 16, 60, 0, 0)]
def tB112_1 : List (Nat × ab_I) := [(47, .aload_n 1, 0, 0, 0), (48, .iload 6, 0, 0, 0), (50, .baload, 0, 0, 0), (51, .iload 8, 0, 0, 0), (53, .if_icmp .ne 7, 60, 0, 0), (56, .iconst 1, 0, 0, 0), (57, .goto 4, 61, 0, 0), (60, .iconst 0, 0, 0, 0), (61, .istore 5, 0, 0, 0), (63, .iinc 6 1, 0, 0, 0), (66, .goto 26, 92, 0, 0), (69, .iload 5, 0, 0, 0), (71, .ifCond .eq 12, 83, 0, 0), (74, .iload 6, 0, 0, 0), (76, .iload_n 3, 0, 0, 0), (77, .if_icmp .ne 6, 83, 0, 0), (80, .iload 4, 0, 0, 0), (82, .ireturn, 0, 0, 0), (83, .iinc 4 1, 0, 0, 0), (86, .iconst 1, 0, 0, 0), (87, .istore 5, 0, 0, 0), (89, .iload_n 2, 0, 0, 0), (90, .istore 6, 0, 0, 0), (92, .iinc 7 1, 0, 0, 0)]
def tB112_2 : List (Nat × ab_I) := [(95, .goto (-83), 12, 0, 0), (98, .iload 5, 0, 0, 0), (100, .ifCond .eq 14, 114, 0, 0), (103, .iload 6, 0, 0, 0), (105, .iload_n 3, 0, 0, 0), (106, .if_icmp .ne 8, 114, 0, 0), (109, .iload 4, 0, 0, 0), (111, .goto 4, 115, 0, 0), (114, .iconst (-1), 0, 0, 0), (115, .ireturn, 0, 0, 0)]
def tI112 : ab_T := [(44, tB112_0), (92, tB112_1), (115, tB112_2)]
set_option maxRecDepth 100000 in
theorem tC112 : ab_ck (ab_lkB ab_mt ab_kb lL5 mM112) mM112.2.1.data.toList 0 (ab_flat tI112) = true := by decide +kernel
set_option maxRecDepth 100000 in
theorem tS112 : ab_swB mM112.2.1 (ab_flat tI112) = true := by decide +kernel
theorem tO112 : ab_MOK 112 tI112 := ab_allOK (M := mM112) rfl lL5_ok tC112 tS112
def tB113_0 : List (Nat × ab_I) := [(0, .aload_n 1, 0, 0, 0), (1, .iload_n 2, 0, 0, 0), (2, .iload_n 3, 0, 0, 0), (3, .invokestatic 188, 111, 3, 0), (6, .istore 4, 0, 0, 0), (8, .iload 4, 0, 0, 0), (10, .iload_n 3, 0, 0, 0), (11, .if_icmp .eq 25, 36, 0, 0), (14, .aload_n 1, 0, 0, 0), (15, .iload_n 2, 0, 0, 0), (16, .iload 4, 0, 0, 0), (18, .invokestatic 211, 12, 3, 0), (21, .ifCond .eq 15, 36, 0, 0), (24, .aload_n 1, 0, 0, 0), (25, .iload 4, 0, 0, 0), (27, .iconst 1, 0, 0, 0), (28, .iadd, 0, 0, 0), (29, .iload_n 3, 0, 0, 0), (30, .invokestatic 211, 12, 3, 0), (33, .ifCond .ne 5, 38, 0, 0), (36, .iconst 0, 0, 0, 0), (37, .ireturn, 0, 0, 0), (38, .aload_n 0, 0, 0, 0), (39, .getfield 50, 0, 1, 0)]
def tB113_1 : List (Nat × ab_I) := [(42, .aload_n 1, 0, 0, 0), (43, .iload_n 2, 0, 0, 0), (44, .iload 4, 0, 0, 0), (46, .invokestatic 214, 15, 3, 0), (49, .aload_n 1, 0, 0, 0), (50, .iload 4, 0, 0, 0), (52, .iconst 1, 0, 0, 0), (53, .iadd, 0, 0, 0), (54, .iload_n 3, 0, 0, 0), (55, .invokestatic 214, 15, 3, 0), (58, .invokevirtual 218, 114, 2, 0), (61, .iconst 1, 0, 0, 0), (62, .ireturn, 0, 0, 0)]
def tI113 : ab_T := [(39, tB113_0), (62, tB113_1)]
set_option maxRecDepth 100000 in
theorem tC113 : ab_ck (ab_lkB ab_mt ab_kb lL1 mM113) mM113.2.1.data.toList 0 (ab_flat tI113) = true := by decide +kernel
set_option maxRecDepth 100000 in
theorem tS113 : ab_swB mM113.2.1 (ab_flat tI113) = true := by decide +kernel
theorem tO113 : ab_MOK 113 tI113 := ab_allOK (M := mM113) rfl lL1_ok tC113 tS113
def tB114_0 : List (Nat × ab_I) := [(0, .aload_n 0, 0, 0, 0), (1, .aload_n 0, 0, 0, 0), (2, .getfield 29, 6, 7, 0), (5, .aload_n 0, 0, 0, 0), (6, .getfield 203, 6, 8, 0), (9, .aload_n 0, 0, 0, 0), (10, .getfield 48, 6, 13, 0), (13, .getfield 172, 1, 1, 1), (16, .lload_n 1, 0, 0, 0), (17, .lload_n 3, 0, 0, 0), (18, .invokestatic 178, 66, 5, 0), (21, .putfield 203, 6, 8, 0), (24, .return_, 0, 0, 0)]
def tI114 : ab_T := [(24, tB114_0)]
set_option maxRecDepth 100000 in
theorem tC114 : ab_ck (ab_lkB ab_mt ab_kb lL7 mM114) mM114.2.1.data.toList 0 (ab_flat tI114) = true := by decide +kernel
set_option maxRecDepth 100000 in
theorem tS114 : ab_swB mM114.2.1 (ab_flat tI114) = true := by decide +kernel
theorem tO114 : ab_MOK 114 tI114 := ab_allOK (M := mM114) rfl lL7_ok tC114 tS114
def tB115_0 : List (Nat × ab_I) := [(0, .aload_n 1, 0, 0, 0), (1, .iload_n 2, 0, 0, 0), (2, .iload_n 3, 0, 0, 0), (3, .invokestatic 188, 111, 3, 0), (6, .istore 4, 0, 0, 0), (8, .aload_n 1, 0, 0, 0), (9, .iload_n 2, 0, 0, 0), (10, .iload 4, 0, 0, 0), (12, .invokestatic 222, 46, 3, 0), (15, .istore 5, 0, 0, 0), (17, .iload 4, 0, 0, 0), (19, .iload_n 3, 0, 0, 0), (20, .if_icmp .eq 9, 29, 0, 0), (23, .iload 5, 0, 0, 0), (25, .iconst (-1), 0, 0, 0), (26, .if_icmp .ne 5, 31, 0, 0), (29, .iconst 0, 0, 0, 0), (30, .ireturn, 0, 0, 0), (31, .aload_n 0, 0, 0, 0), (32, .getfield 105, 0, 5, 0), (35, .bipush 20, 0, 0, 0), (37, .if_icmp .ge 82, 119, 0, 0), (40, .aload_n 0, 0, 0, 0), (41, .getfield 11, 0, 3, 0)]
def tB115_1 : List (Nat × ab_I) := [(44, .iconst 2, 0, 0, 0), (45, .aload_n 0, 0, 0, 0), (46, .getfield 105, 0, 5, 0), (49, .imul, 0, 0, 0), (50, .aload_n 0, 0, 0, 0), (51, .getfield 50, 0, 1, 0), (54, .getfield 171, 6, 12, 1), (57, .iload 5, 0, 0, 0), (59, .iadd, 0, 0, 0), (60, .i2l, 0, 0, 0), (61, .lastore, 0, 0, 0), (62, .aload_n 0, 0, 0, 0), (63, .getfield 11, 0, 3, 0), (66, .iconst 2, 0, 0, 0), (67, .aload_n 0, 0, 0, 0), (68, .getfield 105, 0, 5, 0), (71, .imul, 0, 0, 0), (72, .iconst 1, 0, 0, 0), (73, .iadd, 0, 0, 0), (74, .aload_n 0, 0, 0, 0), (75, .getfield 87, 0, 13, 0), (78, .lastore, 0, 0, 0), (79, .aload_n 0, 0, 0, 0), (80, .getfield 17, 0, 4, 0)]
def tB115_2 : List (Nat × ab_I) := [(83, .aload_n 0, 0, 0, 0), (84, .getfield 105, 0, 5, 0), (87, .aaload, 0, 0, 0), (88, .invokevirtual 64, 31, 0, 0), (91, .aload_n 0, 0, 0, 0), (92, .getfield 17, 0, 4, 0), (95, .aload_n 0, 0, 0, 0), (96, .getfield 105, 0, 5, 0), (99, .aaload, 0, 0, 0), (100, .aload_n 1, 0, 0, 0), (101, .iload 4, 0, 0, 0), (103, .iconst 1, 0, 0, 0), (104, .iadd, 0, 0, 0), (105, .iload_n 3, 0, 0, 0), (106, .invokevirtual 83, 39, 3, 0), (109, .aload_n 0, 0, 0, 0), (110, .dup, 0, 0, 0), (111, .getfield 105, 0, 5, 0), (114, .iconst 1, 0, 0, 0), (115, .iadd, 0, 0, 0), (116, .putfield 105, 0, 5, 0), (119, .iconst 1, 0, 0, 0), (120, .ireturn, 0, 0, 0)]
def tI115 : ab_T := [(41, tB115_0), (80, tB115_1), (120, tB115_2)]
set_option maxRecDepth 100000 in
theorem tC115 : ab_ck (ab_lkB ab_mt ab_kb lL1 mM115) mM115.2.1.data.toList 0 (ab_flat tI115) = true := by decide +kernel
set_option maxRecDepth 100000 in
theorem tS115 : ab_swB mM115.2.1 (ab_flat tI115) = true := by decide +kernel
theorem tO115 : ab_MOK 115 tI115 := ab_allOK (M := mM115) rfl lL1_ok tC115 tS115
def tB116_0 : List (Nat × ab_I) := [(0, .aload_n 2, 0, 0, 0), (1, .iload_n 3, 0, 0, 0), (2, .iload 4, 0, 0, 0), (4, .invokestatic 188, 111, 3, 0), (7, .istore 5, 0, 0, 0), (9, .aload_n 0, 0, 0, 0), (10, .aload_n 2, 0, 0, 0), (11, .iload_n 3, 0, 0, 0), (12, .iload 5, 0, 0, 0), (14, .invokevirtual 225, 117, 3, 0), (17, .istore 6, 0, 0, 0), (19, .iload 6, 0, 0, 0), (21, .iconst (-1), 0, 0, 0), (22, .if_icmp .ne 5, 27, 0, 0), (25, .iconst 0, 0, 0, 0), (26, .ireturn, 0, 0, 0), (27, .iload_n 1, 0, 0, 0), (28, .iconst 3, 0, 0, 0), (29, .if_icmp .ne 32, 61, 0, 0), (32, .iload 5, 0, 0, 0), (34, .iload 4, 0, 0, 0), (36, .if_icmp .ne 12, 48, 0, 0), (39, .aload_n 0, 0, 0, 0), (40, .getfield 46, 0, 0, 0)]
def tB116_1 : List (Nat × ab_I) := [(43, .iload 6, 0, 0, 0), (45, .invokevirtual 228, 121, 1, 0), (48, .iload 5, 0, 0, 0), (50, .iload 4, 0, 0, 0), (52, .if_icmp .ne 7, 59, 0, 0), (55, .iconst 1, 0, 0, 0), (56, .goto 4, 60, 0, 0), (59, .iconst 0, 0, 0, 0), (60, .ireturn, 0, 0, 0), (61, .iload 5, 0, 0, 0), (63, .iload 4, 0, 0, 0), (65, .if_icmp .ne 5, 70, 0, 0), (68, .iconst 0, 0, 0, 0), (69, .ireturn, 0, 0, 0), (70, .iload_n 1, 0, 0, 0), (71, .tableswitch 170 0 6 #[41, 59, 156, 170, 77, 170, 117], 0, 0, 0), (112, .aload_n 0, 0, 0, 0), (113, .getfield 46, 0, 0, 0), (116, .iload 6, 0, 0, 0), (118, .aload_n 2, 0, 0, 0), (119, .iload 5, 0, 0, 0), (121, .iconst 1, 0, 0, 0), (122, .iadd, 0, 0, 0), (123, .iload 4, 0, 0, 0)]
def tB116_2 : List (Nat × ab_I) := [(125, .invokevirtual 231, 107, 4, 0), (128, .iconst 1, 0, 0, 0), (129, .ireturn, 0, 0, 0), (130, .aload_n 0, 0, 0, 0), (131, .getfield 46, 0, 0, 0), (134, .iload 6, 0, 0, 0), (136, .aload_n 2, 0, 0, 0), (137, .iload 5, 0, 0, 0), (139, .iconst 1, 0, 0, 0), (140, .iadd, 0, 0, 0), (141, .iload 4, 0, 0, 0), (143, .invokevirtual 235, 122, 4, 0), (146, .iconst 1, 0, 0, 0), (147, .ireturn, 0, 0, 0), (148, .aload_n 0, 0, 0, 0), (149, .getfield 46, 0, 0, 0), (152, .getfield 96, 10, 0, 1), (155, .iload 6, 0, 0, 0), (157, .aaload, 0, 0, 0), (158, .getfield 238, 7, 0, 1), (161, .bipush 13, 0, 0, 0), (163, .if_icmp .ne 23, 186, 0, 0), (166, .aload_n 0, 0, 0, 0), (167, .getfield 46, 0, 0, 0)]
def tB116_3 : List (Nat × ab_I) := [(170, .getfield 96, 10, 0, 1), (173, .iload 6, 0, 0, 0), (175, .aaload, 0, 0, 0), (176, .aload_n 2, 0, 0, 0), (177, .iload 5, 0, 0, 0), (179, .iconst 1, 0, 0, 0), (180, .iadd, 0, 0, 0), (181, .iload 4, 0, 0, 0), (183, .invokevirtual 241, 96, 3, 0), (186, .iconst 1, 0, 0, 0), (187, .ireturn, 0, 0, 0), (188, .aload_n 0, 0, 0, 0), (189, .aload_n 0, 0, 0, 0), (190, .getfield 50, 0, 1, 0), (193, .getfield 244, 6, 14, 1), (196, .aload_n 2, 0, 0, 0), (197, .iload 5, 0, 0, 0), (199, .iconst 1, 0, 0, 0), (200, .iadd, 0, 0, 0), (201, .iload 4, 0, 0, 0), (203, .aload_n 0, 0, 0, 0), (204, .getfield 50, 0, 1, 0), (207, .getfield 248, 6, 13, 1), (210, .invokevirtual 251, 10, 4, 0)]
def tB116_4 : List (Nat × ab_I) := [(213, .ifCond .eq 8, 221, 0, 0), (216, .iload 6, 0, 0, 0), (218, .goto 4, 222, 0, 0), (221, .iconst (-1), 0, 0, 0), (222, .putfield 37, 0, 17, 0), (225, .iconst 1, 0, 0, 0), (226, .ireturn, 0, 0, 0), (227, .aload_n 0, 0, 0, 0), (228, .iload 6, 0, 0, 0), (230, .aload_n 2, 0, 0, 0), (231, .iload 5, 0, 0, 0), (233, .iconst 1, 0, 0, 0), (234, .iadd, 0, 0, 0), (235, .iload 4, 0, 0, 0), (237, .invokevirtual 254, 123, 4, 0), (240, .ireturn, 0, 0, 0), (241, .aload_n 0, 0, 0, 0), (242, .aload_n 2, 0, 0, 0), (243, .iload 5, 0, 0, 0), (245, .iconst 1, 0, 0, 0), (246, .iadd, 0, 0, 0), (247, .iload 4, 0, 0, 0), (249, .invokevirtual 257, 124, 3, 0), (252, .ifCond .ne 5, 257, 0, 0)]
def tB116_5 : List (Nat × ab_I) := [(255, .iconst 0, 0, 0, 0), (256, .ireturn, 0, 0, 0), (257, .aload_n 0, 0, 0, 0), (258, .getfield 46, 0, 0, 0), (261, .iload 6, 0, 0, 0), (263, .aload_n 0, 0, 0, 0), (264, .getfield 43, 0, 19, 0), (267, .getfield 76, 4, 1, 1), (270, .iconst 0, 0, 0, 0), (271, .aload_n 0, 0, 0, 0), (272, .getfield 43, 0, 19, 0), (275, .getfield 80, 4, 2, 1), (278, .invokevirtual 231, 107, 4, 0), (281, .iconst 1, 0, 0, 0), (282, .ireturn, 0, 0, 0)]
def tI116 : ab_T := [(40, tB116_0), (123, tB116_1), (167, tB116_2), (210, tB116_3), (252, tB116_4), (282, tB116_5)]
set_option maxRecDepth 100000 in
theorem tC116 : ab_ck (ab_lkB ab_mt ab_kb lL1 mM116) mM116.2.1.data.toList 0 (ab_flat tI116) = true := by decide +kernel
set_option maxRecDepth 100000 in
theorem tS116 : ab_swB mM116.2.1 (ab_flat tI116) = true := by decide +kernel
theorem tO116 : ab_MOK 116 tI116 := ab_allOK (M := mM116) rfl lL1_ok tC116 tS116
def tB117_0 : List (Nat × ab_I) := [(0, .aload_n 1, 0, 0, 0), (1, .iload_n 2, 0, 0, 0), (2, .iload_n 3, 0, 0, 0), (3, .invokestatic 211, 12, 3, 0), (6, .ifCond .ne 5, 11, 0, 0), (9, .iconst (-1), 0, 0, 0), (10, .ireturn, 0, 0, 0), (11, .aload_n 1, 0, 0, 0), (12, .iload_n 2, 0, 0, 0), (13, .iload_n 3, 0, 0, 0), (14, .invokestatic 214, 15, 3, 0), (17, .lstore 4, 0, 0, 0), (19, .lload 4, 0, 0, 0), (21, .ldc_w 260, 1000023, 0, 1), (24, .invokestatic 261, 25, 1, 0), (27, .lcmp, 0, 0, 0), (28, .ifCond .ne 17, 45, 0, 0), (31, .aload_n 0, 0, 0, 0), (32, .getfield 46, 0, 0, 0), (35, .aload_n 0, 0, 0, 0), (36, .getfield 87, 0, 13, 0), (39, .invokevirtual 159, 118, 1, 0), (42, .goto 12, 54, 0, 0), (45, .aload_n 0, 0, 0, 0)]
def tB117_1 : List (Nat × ab_I) := [(46, .getfield 46, 0, 0, 0), (49, .lload 4, 0, 0, 0), (51, .invokevirtual 264, 119, 1, 0), (54, .ireturn, 0, 0, 0)]
def tI117 : ab_T := [(45, tB117_0), (54, tB117_1)]
set_option maxRecDepth 100000 in
theorem tC117 : ab_ck (ab_lkB ab_mt ab_kb lL1 mM117) mM117.2.1.data.toList 0 (ab_flat tI117) = true := by decide +kernel
set_option maxRecDepth 100000 in
theorem tS117 : ab_swB mM117.2.1 (ab_flat tI117) = true := by decide +kernel
theorem tO117 : ab_MOK 117 tI117 := ab_allOK (M := mM117) rfl lL1_ok tC117 tS117
def tB118_0 : List (Nat × ab_I) := [(0, .lload_n 1, 0, 0, 0), (1, .ldc2_w 151, 127, 0, 0), (4, .land, 0, 0, 0), (5, .l2i, 0, 0, 0), (6, .istore_n 3, 0, 0, 0), (7, .iload_n 3, 0, 0, 0), (8, .bipush 120, 0, 0, 0), (10, .if_icmp .ge 37, 47, 0, 0), (13, .aload_n 0, 0, 0, 0), (14, .getfield 11, 10, 0, 0), (17, .iload_n 3, 0, 0, 0), (18, .aaload, 0, 0, 0), (19, .getfield 42, 7, 0, 1), (22, .iconst (-1), 0, 0, 0), (23, .if_icmp .eq 24, 47, 0, 0), (26, .aload_n 0, 0, 0, 0), (27, .getfield 11, 10, 0, 0), (30, .iload_n 3, 0, 0, 0), (31, .aaload, 0, 0, 0), (32, .getfield 96, 7, 10, 1), (35, .lload_n 1, 0, 0, 0), (36, .bipush 7, 0, 0, 0), (38, .lshr, 0, 0, 0), (39, .lcmp, 0, 0, 0)]
def tB118_1 : List (Nat × ab_I) := [(40, .ifCond .ne 7, 47, 0, 0), (43, .iconst 1, 0, 0, 0), (44, .goto 4, 48, 0, 0), (47, .iconst 0, 0, 0, 0), (48, .istore 4, 0, 0, 0), (50, .iload 4, 0, 0, 0), (52, .ifCond .eq 7, 59, 0, 0), (55, .iload_n 3, 0, 0, 0), (56, .goto 4, 60, 0, 0), (59, .iconst (-1), 0, 0, 0), (60, .ireturn, 0, 0, 0)]
def tI118 : ab_T := [(39, tB118_0), (60, tB118_1)]
set_option maxRecDepth 100000 in
theorem tC118 : ab_ck (ab_lkB ab_mt ab_kb lL11 mM118) mM118.2.1.data.toList 0 (ab_flat tI118) = true := by decide +kernel
set_option maxRecDepth 100000 in
theorem tS118 : ab_swB mM118.2.1 (ab_flat tI118) = true := by decide +kernel
theorem tO118 : ab_MOK 118 tI118 := ab_allOK (M := mM118) rfl lL11_ok tC118 tS118
def tB119_0 : List (Nat × ab_I) := [(0, .aload_n 0, 0, 0, 0), (1, .invokevirtual 102, 103, 0, 0), (4, .ldc 143, 1000024, 0, 1), (6, .invokestatic 129, 25, 1, 0), (9, .lstore_n 3, 0, 0, 0), (10, .iconst 0, 0, 0, 0), (11, .istore 5, 0, 0, 0), (13, .iload 5, 0, 0, 0), (15, .aload_n 0, 0, 0, 0), (16, .getfield 140, 10, 3, 0), (19, .if_icmp .ge 50, 69, 0, 0), (22, .aload_n 0, 0, 0, 0), (23, .getfield 11, 10, 0, 0), (26, .aload_n 0, 0, 0, 0), (27, .getfield 21, 10, 2, 0), (30, .iload 5, 0, 0, 0), (32, .iaload, 0, 0, 0), (33, .aaload, 0, 0, 0), (34, .lload_n 3, 0, 0, 0), (35, .invokevirtual 133, 86, 1, 0), (38, .astore 6, 0, 0, 0), (40, .aload 6, 0, 0, 0), (42, .ifnull 21, 63, 0, 0), (45, .aload 6, 0, 0, 0)]
def tB119_1 : List (Nat × ab_I) := [(47, .invokevirtual 145, 120, 0, 0), (50, .lload_n 1, 0, 0, 0), (51, .lcmp, 0, 0, 0), (52, .ifCond .ne 11, 63, 0, 0), (55, .aload_n 0, 0, 0, 0), (56, .getfield 21, 10, 2, 0), (59, .iload 5, 0, 0, 0), (61, .iaload, 0, 0, 0), (62, .ireturn, 0, 0, 0), (63, .iinc 5 1, 0, 0, 0), (66, .goto (-53), 13, 0, 0), (69, .iconst (-1), 0, 0, 0), (70, .ireturn, 0, 0, 0)]
def tI119 : ab_T := [(45, tB119_0), (70, tB119_1)]
set_option maxRecDepth 100000 in
theorem tC119 : ab_ck (ab_lkB ab_mt ab_kb lL11 mM119) mM119.2.1.data.toList 0 (ab_flat tI119) = true := by decide +kernel
set_option maxRecDepth 100000 in
theorem tS119 : ab_swB mM119.2.1 (ab_flat tI119) = true := by decide +kernel
theorem tO119 : ab_MOK 119 tI119 := ab_allOK (M := mM119) rfl lL11_ok tC119 tS119
def tB120_0 : List (Nat × ab_I) := [(0, .lconst 0, 0, 0, 0), (1, .lstore_n 1, 0, 0, 0), (2, .iconst 0, 0, 0, 0), (3, .istore_n 3, 0, 0, 0), (4, .iload_n 3, 0, 0, 0), (5, .aload_n 0, 0, 0, 0), (6, .getfield 19, 4, 2, 0), (9, .if_icmp .ge 31, 40, 0, 0), (12, .aload_n 0, 0, 0, 0), (13, .getfield 19, 4, 2, 0), (16, .bipush 8, 0, 0, 0), (18, .if_icmp .gt 22, 40, 0, 0), (21, .lload_n 1, 0, 0, 0), (22, .bipush 8, 0, 0, 0), (24, .lshl, 0, 0, 0), (25, .aload_n 0, 0, 0, 0), (26, .getfield 15, 4, 1, 0), (29, .iload_n 3, 0, 0, 0), (30, .baload, 0, 0, 0), (31, .i2l, 0, 0, 0), (32, .lor, 0, 0, 0), (33, .lstore_n 1, 0, 0, 0), (34, .iinc 3 1, 0, 0, 0), (37, .goto (-33), 4, 0, 0)]
def tB120_1 : List (Nat × ab_I) := [(40, .lload_n 1, 0, 0, 0), (41, .lreturn, 0, 0, 0)]
def tI120 : ab_T := [(37, tB120_0), (41, tB120_1)]
set_option maxRecDepth 100000 in
theorem tC120 : ab_ck (ab_lkB ab_mt ab_kb lL5 mM120) mM120.2.1.data.toList 0 (ab_flat tI120) = true := by decide +kernel
set_option maxRecDepth 100000 in
theorem tS120 : ab_swB mM120.2.1 (ab_flat tI120) = true := by decide +kernel
theorem tO120 : ab_MOK 120 tI120 := ab_allOK (M := mM120) rfl lL5_ok tC120 tS120
def tB121_0 : List (Nat × ab_I) := [(0, .aload_n 0, 0, 0, 0), (1, .getfield 11, 10, 0, 0), (4, .iload_n 1, 0, 0, 0), (5, .aaload, 0, 0, 0), (6, .astore_n 2, 0, 0, 0), (7, .aload_n 2, 0, 0, 0), (8, .getfield 59, 7, 2, 1), (11, .iconst (-1), 0, 0, 0), (12, .if_icmp .ne 4, 16, 0, 0), (15, .return_, 0, 0, 0), (16, .aload_n 0, 0, 0, 0), (17, .invokevirtual 102, 103, 0, 0), (20, .aload_n 0, 0, 0, 0), (21, .getfield 11, 10, 0, 0), (24, .aload_n 2, 0, 0, 0), (25, .getfield 59, 7, 2, 1), (28, .aaload, 0, 0, 0), (29, .astore_n 3, 0, 0, 0), (30, .iconst (-1), 0, 0, 0), (31, .istore 4, 0, 0, 0), (33, .aload_n 3, 0, 0, 0), (34, .getfield 62, 7, 3, 1), (37, .istore 5, 0, 0, 0), (39, .iload 5, 0, 0, 0)]
def tB121_1 : List (Nat × ab_I) := [(41, .iconst (-1), 0, 0, 0), (42, .if_icmp .eq 28, 70, 0, 0), (45, .iload 5, 0, 0, 0), (47, .iload_n 1, 0, 0, 0), (48, .if_icmp .eq 22, 70, 0, 0), (51, .iload 5, 0, 0, 0), (53, .istore 4, 0, 0, 0), (55, .aload_n 0, 0, 0, 0), (56, .getfield 11, 10, 0, 0), (59, .iload 5, 0, 0, 0), (61, .aaload, 0, 0, 0), (62, .getfield 68, 7, 5, 1), (65, .istore 5, 0, 0, 0), (67, .goto (-28), 39, 0, 0), (70, .iload 4, 0, 0, 0), (72, .iconst (-1), 0, 0, 0), (73, .if_icmp .ne 14, 87, 0, 0), (76, .aload_n 3, 0, 0, 0), (77, .aload_n 2, 0, 0, 0), (78, .getfield 68, 7, 5, 1), (81, .putfield 62, 7, 3, 1), (84, .goto 17, 101, 0, 0), (87, .aload_n 0, 0, 0, 0), (88, .getfield 11, 10, 0, 0)]
def tB121_2 : List (Nat × ab_I) := [(91, .iload 4, 0, 0, 0), (93, .aaload, 0, 0, 0), (94, .aload_n 2, 0, 0, 0), (95, .getfield 68, 7, 5, 1), (98, .putfield 68, 7, 5, 1), (101, .aload_n 3, 0, 0, 0), (102, .getfield 65, 7, 4, 1), (105, .iload_n 1, 0, 0, 0), (106, .if_icmp .ne 9, 115, 0, 0), (109, .aload_n 3, 0, 0, 0), (110, .iload 4, 0, 0, 0), (112, .putfield 65, 7, 4, 1), (115, .aload_n 3, 0, 0, 0), (116, .dup, 0, 0, 0), (117, .getfield 71, 7, 6, 1), (120, .iconst 1, 0, 0, 0), (121, .isub, 0, 0, 0), (122, .putfield 71, 7, 6, 1), (125, .aload_n 0, 0, 0, 0), (126, .aload_n 2, 0, 0, 0), (127, .getfield 105, 7, 8, 1), (130, .aload_n 2, 0, 0, 0), (131, .getfield 108, 7, 9, 1), (134, .invokevirtual 111, 108, 2, 0)]
def tB121_3 : List (Nat × ab_I) := [(137, .return_, 0, 0, 0)]
def tI121 : ab_T := [(39, tB121_0), (88, tB121_1), (134, tB121_2), (137, tB121_3)]
set_option maxRecDepth 100000 in
theorem tC121 : ab_ck (ab_lkB ab_mt ab_kb lL11 mM121) mM121.2.1.data.toList 0 (ab_flat tI121) = true := by decide +kernel
set_option maxRecDepth 100000 in
theorem tS121 : ab_swB mM121.2.1 (ab_flat tI121) = true := by decide +kernel
theorem tO121 : ab_MOK 121 tI121 := ab_allOK (M := mM121) rfl lL11_ok tC121 tS121
def tB122_0 : List (Nat × ab_I) := [(0, .aload_n 0, 0, 0, 0), (1, .getfield 11, 10, 0, 0), (4, .iload_n 1, 0, 0, 0), (5, .aaload, 0, 0, 0), (6, .astore 5, 0, 0, 0), (8, .ldc 127, 1000025, 0, 1), (10, .invokestatic 129, 25, 1, 0), (13, .lstore 6, 0, 0, 0), (15, .aload 5, 0, 0, 0), (17, .lload 6, 0, 0, 0), (19, .invokevirtual 133, 86, 1, 0), (22, .astore 8, 0, 0, 0), (24, .aload 8, 0, 0, 0), (26, .ifnonnull 12, 38, 0, 0), (29, .aload 5, 0, 0, 0), (31, .lload 6, 0, 0, 0), (33, .invokevirtual 137, 87, 1, 0), (36, .astore 8, 0, 0, 0), (38, .aload 8, 0, 0, 0), (40, .ifnull 27, 67, 0, 0), (43, .aload 8, 0, 0, 0), (45, .invokevirtual 81, 31, 0, 0), (48, .aload 8, 0, 0, 0), (50, .aload_n 2, 0, 0, 0)]
def tB122_1 : List (Nat × ab_I) := [(51, .iload_n 3, 0, 0, 0), (52, .iload 4, 0, 0, 0), (54, .invokevirtual 123, 39, 3, 0), (57, .aload_n 0, 0, 0, 0), (58, .dup, 0, 0, 0), (59, .getfield 99, 10, 6, 0), (62, .iconst 1, 0, 0, 0), (63, .iadd, 0, 0, 0), (64, .putfield 99, 10, 6, 0), (67, .return_, 0, 0, 0)]
def tI122 : ab_T := [(50, tB122_0), (67, tB122_1)]
set_option maxRecDepth 100000 in
theorem tC122 : ab_ck (ab_lkB ab_mt ab_kb lL11 mM122) mM122.2.1.data.toList 0 (ab_flat tI122) = true := by decide +kernel
set_option maxRecDepth 100000 in
theorem tS122 : ab_swB mM122.2.1 (ab_flat tI122) = true := by decide +kernel
theorem tO122 : ab_MOK 122 tI122 := ab_allOK (M := mM122) rfl lL11_ok tC122 tS122
def tB123_0 : List (Nat × ab_I) := [(0, .aload_n 2, 0, 0, 0), (1, .iload_n 3, 0, 0, 0), (2, .iload 4, 0, 0, 0), (4, .invokestatic 211, 12, 3, 0), (7, .ifCond .ne 5, 12, 0, 0), (10, .iconst 0, 0, 0, 0), (11, .ireturn, 0, 0, 0), (12, .aload_n 0, 0, 0, 0), (13, .getfield 46, 0, 0, 0), (16, .getfield 96, 10, 0, 1), (19, .iload_n 1, 0, 0, 0), (20, .aaload, 0, 0, 0), (21, .invokevirtual 267, 98, 0, 0), (24, .ifCond .ne 43, 67, 0, 0), (27, .aload_n 0, 0, 0, 0), (28, .getfield 46, 0, 0, 0), (31, .iload_n 1, 0, 0, 0), (32, .invokevirtual 271, 74, 1, 0), (35, .ifCond .eq 32, 67, 0, 0), (38, .aload_n 2, 0, 0, 0), (39, .iload_n 3, 0, 0, 0), (40, .iload 4, 0, 0, 0), (42, .invokestatic 214, 15, 3, 0), (45, .lstore 5, 0, 0, 0)]
def tB123_1 : List (Nat × ab_I) := [(47, .aload_n 0, 0, 0, 0), (48, .getfield 46, 0, 0, 0), (51, .iload_n 1, 0, 0, 0), (52, .aload_n 0, 0, 0, 0), (53, .getfield 46, 0, 0, 0), (56, .lload 5, 0, 0, 0), (58, .invokevirtual 274, 91, 1, 0), (61, .lload 5, 0, 0, 0), (63, .invokevirtual 277, 30, 3, 0), (66, .pop, 0, 0, 0), (67, .iconst 1, 0, 0, 0), (68, .ireturn, 0, 0, 0)]
def tI123 : ab_T := [(45, tB123_0), (68, tB123_1)]
set_option maxRecDepth 100000 in
theorem tC123 : ab_ck (ab_lkB ab_mt ab_kb lL1 mM123) mM123.2.1.data.toList 0 (ab_flat tI123) = true := by decide +kernel
set_option maxRecDepth 100000 in
theorem tS123 : ab_swB mM123.2.1 (ab_flat tI123) = true := by decide +kernel
theorem tO123 : ab_MOK 123 tI123 := ab_allOK (M := mM123) rfl lL1_ok tC123 tS123
def tB124_0 : List (Nat × ab_I) := [(0, .aload_n 1, 0, 0, 0), (1, .iload_n 2, 0, 0, 0), (2, .iload_n 3, 0, 0, 0), (3, .invokestatic 211, 12, 3, 0), (6, .ifCond .ne 5, 11, 0, 0), (9, .iconst 0, 0, 0, 0), (10, .ireturn, 0, 0, 0), (11, .aload_n 0, 0, 0, 0), (12, .getfield 43, 0, 19, 0), (15, .invokevirtual 64, 31, 0, 0), (18, .aload_n 0, 0, 0, 0), (19, .getfield 43, 0, 19, 0), (22, .aload_n 0, 0, 0, 0), (23, .getfield 50, 0, 1, 0), (26, .aload_n 1, 0, 0, 0), (27, .iload_n 2, 0, 0, 0), (28, .iload_n 3, 0, 0, 0), (29, .invokestatic 214, 15, 3, 0), (32, .invokevirtual 304, 125, 1, 0), (35, .invokevirtual 308, 65, 1, 0), (38, .iconst 1, 0, 0, 0), (39, .ireturn, 0, 0, 0)]
def tI124 : ab_T := [(39, tB124_0)]
set_option maxRecDepth 100000 in
theorem tC124 : ab_ck (ab_lkB ab_mt ab_kb lL1 mM124) mM124.2.1.data.toList 0 (ab_flat tI124) = true := by decide +kernel
set_option maxRecDepth 100000 in
theorem tS124 : ab_swB mM124.2.1 (ab_flat tI124) = true := by decide +kernel
theorem tO124 : ab_MOK 124 tI124 := ab_allOK (M := mM124) rfl lL1_ok tC124 tS124
def tB125_0 : List (Nat × ab_I) := [(0, .aload_n 0, 0, 0, 0), (1, .getfield 29, 6, 7, 0), (4, .aload_n 0, 0, 0, 0), (5, .getfield 203, 6, 8, 0), (8, .aload_n 0, 0, 0, 0), (9, .getfield 48, 6, 13, 0), (12, .getfield 172, 1, 1, 1), (15, .lload_n 1, 0, 0, 0), (16, .invokestatic 199, 67, 4, 0), (19, .istore_n 3, 0, 0, 0), (20, .iload_n 3, 0, 0, 0), (21, .aload_n 0, 0, 0, 0), (22, .getfield 203, 6, 8, 0), (25, .if_icmp .ge 16, 41, 0, 0), (28, .aload_n 0, 0, 0, 0), (29, .getfield 29, 6, 7, 0), (32, .iconst 3, 0, 0, 0), (33, .iload_n 3, 0, 0, 0), (34, .imul, 0, 0, 0), (35, .iconst 2, 0, 0, 0), (36, .iadd, 0, 0, 0), (37, .laload, 0, 0, 0), (38, .goto 4, 42, 0, 0), (41, .lconst 0, 0, 0, 0)]
def tB125_1 : List (Nat × ab_I) := [(42, .lreturn, 0, 0, 0)]
def tI125 : ab_T := [(41, tB125_0), (42, tB125_1)]
set_option maxRecDepth 100000 in
theorem tC125 : ab_ck (ab_lkB ab_mt ab_kb lL7 mM125) mM125.2.1.data.toList 0 (ab_flat tI125) = true := by decide +kernel
set_option maxRecDepth 100000 in
theorem tS125 : ab_swB mM125.2.1 (ab_flat tI125) = true := by decide +kernel
theorem tO125 : ab_MOK 125 tI125 := ab_allOK (M := mM125) rfl lL7_ok tC125 tS125
def tB126_0 : List (Nat × ab_I) := [(0, .aload_n 0, 0, 0, 0), (1, .getfield 34, 0, 14, 0), (4, .aload_n 0, 0, 0, 0), (5, .getfield 70, 0, 15, 0), (8, .laload, 0, 0, 0), (9, .lstore_n 1, 0, 0, 0), (10, .aload_n 0, 0, 0, 0), (11, .getfield 46, 0, 0, 0), (14, .lload_n 1, 0, 0, 0), (15, .invokevirtual 159, 118, 1, 0), (18, .istore_n 3, 0, 0, 0), (19, .aload_n 0, 0, 0, 0), (20, .dup, 0, 0, 0), (21, .getfield 70, 0, 15, 0), (24, .iconst 1, 0, 0, 0), (25, .iadd, 0, 0, 0), (26, .putfield 70, 0, 15, 0), (29, .iload_n 3, 0, 0, 0), (30, .iconst (-1), 0, 0, 0), (31, .if_icmp .ne 4, 35, 0, 0), (34, .return_, 0, 0, 0), (35, .aload_n 0, 0, 0, 0), (36, .getfield 61, 0, 18, 0), (39, .ifCond .ne 8, 47, 0, 0)]
def tB126_1 : List (Nat × ab_I) := [(42, .ldc 118, 1000021, 0, 1), (44, .goto 18, 62, 0, 0), (47, .aload_n 0, 0, 0, 0), (48, .getfield 61, 0, 18, 0), (51, .iconst (-1), 0, 0, 0), (52, .if_icmp .ne 8, 60, 0, 0), (55, .ldc 163, 1000026, 0, 1), (57, .goto 5, 62, 0, 0), (60, .ldc 165, 1000027, 0, 1), (62, .astore 4, 0, 0, 0), (64, .aload_n 0, 0, 0, 0), (65, .getfield 46, 0, 0, 0), (68, .getfield 96, 10, 0, 1), (71, .iload_n 3, 0, 0, 0), (72, .aaload, 0, 0, 0), (73, .aload 4, 0, 0, 0), (75, .invokevirtual 120, 104, 1, 0), (78, .astore 5, 0, 0, 0), (80, .aload 5, 0, 0, 0), (82, .ifnull 10, 92, 0, 0), (85, .aload_n 0, 0, 0, 0), (86, .aload 5, 0, 0, 0), (88, .lload_n 1, 0, 0, 0), (89, .invokevirtual 167, 127, 2, 0)]
def tB126_2 : List (Nat × ab_I) := [(92, .return_, 0, 0, 0)]
def tI126 : ab_T := [(39, tB126_0), (89, tB126_1), (92, tB126_2)]
set_option maxRecDepth 100000 in
theorem tC126 : ab_ck (ab_lkB ab_mt ab_kb lL1 mM126) mM126.2.1.data.toList 0 (ab_flat tI126) = true := by decide +kernel
set_option maxRecDepth 100000 in
theorem tS126 : ab_swB mM126.2.1 (ab_flat tI126) = true := by decide +kernel
theorem tO126 : ab_MOK 126 tI126 := ab_allOK (M := mM126) rfl lL1_ok tC126 tS126
def tB127_0 : List (Nat × ab_I) := [(0, .aload_n 0, 0, 0, 0), (1, .getfield 30, 0, 11, 0), (4, .invokevirtual 64, 31, 0, 0), (7, .aload_n 0, 0, 0, 0), (8, .getfield 30, 0, 11, 0), (11, .aload_n 1, 0, 0, 0), (12, .getfield 76, 4, 1, 1), (15, .iconst 0, 0, 0, 0), (16, .aload_n 1, 0, 0, 0), (17, .getfield 80, 4, 2, 1), (20, .invokevirtual 83, 39, 3, 0), (23, .aload_n 0, 0, 0, 0), (24, .iconst 0, 0, 0, 0), (25, .putfield 67, 0, 12, 0), (28, .aload_n 0, 0, 0, 0), (29, .lload_n 2, 0, 0, 0), (30, .putfield 87, 0, 13, 0), (33, .return_, 0, 0, 0)]
def tI127 : ab_T := [(33, tB127_0)]
set_option maxRecDepth 100000 in
theorem tC127 : ab_ck (ab_lkB ab_mt ab_kb lL1 mM127) mM127.2.1.data.toList 0 (ab_flat tI127) = true := by decide +kernel
set_option maxRecDepth 100000 in
theorem tS127 : ab_swB mM127.2.1 (ab_flat tI127) = true := by decide +kernel
theorem tO127 : ab_MOK 127 tI127 := ab_allOK (M := mM127) rfl lL1_ok tC127 tS127
def tB128_0 : List (Nat × ab_I) := [(0, .aload_n 0, 0, 0, 0), (1, .getfield 61, 0, 18, 0), (4, .istore_n 1, 0, 0, 0), (5, .aload_n 0, 0, 0, 0), (6, .iconst 0, 0, 0, 0), (7, .putfield 61, 0, 18, 0), (10, .iload_n 1, 0, 0, 0), (11, .iconst (-1), 0, 0, 0), (12, .if_icmp .eq 9, 21, 0, 0), (15, .aload_n 0, 0, 0, 0), (16, .iload_n 1, 0, 0, 0), (17, .invokevirtual 312, 129, 1, 0), (20, .return_, 0, 0, 0), (21, .aload_n 0, 0, 0, 0), (22, .ldc2_w 21, 18446744073709551615, 0, 0), (25, .putfield 23, 0, 6, 0), (28, .iconst 0, 0, 0, 0), (29, .istore_n 2, 0, 0, 0), (30, .iconst 0, 0, 0, 0), (31, .istore_n 3, 0, 0, 0), (32, .iload_n 3, 0, 0, 0), (33, .aload_n 0, 0, 0, 0), (34, .getfield 73, 0, 16, 0), (37, .if_icmp .ge 49, 86, 0, 0)]
def tB128_1 : List (Nat × ab_I) := [(40, .iload_n 2, 0, 0, 0), (41, .ifCond .ne 45, 86, 0, 0), (44, .aload_n 0, 0, 0, 0), (45, .getfield 46, 0, 0, 0), (48, .aload_n 0, 0, 0, 0), (49, .getfield 34, 0, 14, 0), (52, .iload_n 3, 0, 0, 0), (53, .laload, 0, 0, 0), (54, .invokevirtual 159, 118, 1, 0), (57, .istore 4, 0, 0, 0), (59, .iload 4, 0, 0, 0), (61, .iconst (-1), 0, 0, 0), (62, .if_icmp .eq 16, 78, 0, 0), (65, .aload_n 0, 0, 0, 0), (66, .iload 4, 0, 0, 0), (68, .invokevirtual 315, 136, 1, 0), (71, .ifCond .eq 7, 78, 0, 0), (74, .iconst 1, 0, 0, 0), (75, .goto 4, 79, 0, 0), (78, .iconst 0, 0, 0, 0), (79, .istore_n 2, 0, 0, 0), (80, .iinc 3 1, 0, 0, 0), (83, .goto (-51), 32, 0, 0), (86, .return_, 0, 0, 0)]
def tI128 : ab_T := [(37, tB128_0), (86, tB128_1)]
set_option maxRecDepth 100000 in
theorem tC128 : ab_ck (ab_lkB ab_mt ab_kb lL1 mM128) mM128.2.1.data.toList 0 (ab_flat tI128) = true := by decide +kernel
set_option maxRecDepth 100000 in
theorem tS128 : ab_swB mM128.2.1 (ab_flat tI128) = true := by decide +kernel
theorem tO128 : ab_MOK 128 tI128 := ab_allOK (M := mM128) rfl lL1_ok tC128 tS128
def tB129_0 : List (Nat × ab_I) := [(0, .aload_n 0, 0, 0, 0), (1, .getfield 46, 0, 0, 0), (4, .aload_n 0, 0, 0, 0), (5, .getfield 23, 0, 6, 0), (8, .invokevirtual 159, 118, 1, 0), (11, .istore_n 2, 0, 0, 0), (12, .iload_n 2, 0, 0, 0), (13, .iconst (-1), 0, 0, 0), (14, .if_icmp .ne 4, 18, 0, 0), (17, .return_, 0, 0, 0), (18, .aload_n 0, 0, 0, 0), (19, .getfield 46, 0, 0, 0), (22, .getfield 96, 10, 0, 1), (25, .iload_n 2, 0, 0, 0), (26, .aaload, 0, 0, 0), (27, .getfield 332, 7, 11, 1), (30, .astore_n 3, 0, 0, 0), (31, .iload_n 1, 0, 0, 0), (32, .bipush 8, 0, 0, 0), (34, .if_icmp .ne 10, 44, 0, 0), (37, .aload_n 3, 0, 0, 0), (38, .invokevirtual 335, 130, 0, 0), (41, .goto 52, 93, 0, 0), (44, .iload_n 1, 0, 0, 0)]
def tB129_1 : List (Nat × ab_I) := [(45, .bipush 10, 0, 0, 0), (47, .if_icmp .eq 20, 67, 0, 0), (50, .aload_n 3, 0, 0, 0), (51, .getfield 80, 4, 2, 1), (54, .bipush 24, 0, 0, 0), (56, .if_icmp .ge 37, 93, 0, 0), (59, .aload_n 3, 0, 0, 0), (60, .iload_n 1, 0, 0, 0), (61, .invokevirtual 338, 8, 1, 0), (64, .goto 29, 93, 0, 0), (67, .aload_n 0, 0, 0, 0), (68, .getfield 46, 0, 0, 0), (71, .iload_n 2, 0, 0, 0), (72, .iconst 5, 0, 0, 0), (73, .invokevirtual 326, 131, 2, 0), (76, .iconst (-1), 0, 0, 0), (77, .if_icmp .eq 16, 93, 0, 0), (80, .aload_n 0, 0, 0, 0), (81, .aload_n 0, 0, 0, 0), (82, .getfield 46, 0, 0, 0), (85, .iload_n 2, 0, 0, 0), (86, .iconst 5, 0, 0, 0), (87, .invokevirtual 326, 131, 2, 0), (90, .invokevirtual 329, 132, 1, 0)]
def tB129_2 : List (Nat × ab_I) := [(93, .return_, 0, 0, 0)]
def tI129 : ab_T := [(44, tB129_0), (90, tB129_1), (93, tB129_2)]
set_option maxRecDepth 100000 in
theorem tC129 : ab_ck (ab_lkB ab_mt ab_kb lL1 mM129) mM129.2.1.data.toList 0 (ab_flat tI129) = true := by decide +kernel
set_option maxRecDepth 100000 in
theorem tS129 : ab_swB mM129.2.1 (ab_flat tI129) = true := by decide +kernel
theorem tO129 : ab_MOK 129 tI129 := ab_allOK (M := mM129) rfl lL1_ok tC129 tS129
def tB130_0 : List (Nat × ab_I) := [(0, .aload_n 0, 0, 0, 0), (1, .getfield 19, 4, 2, 0), (4, .ifCond .le 13, 17, 0, 0), (7, .aload_n 0, 0, 0, 0), (8, .dup, 0, 0, 0), (9, .getfield 19, 4, 2, 0), (12, .iconst 1, 0, 0, 0), (13, .isub, 0, 0, 0), (14, .putfield 19, 4, 2, 0), (17, .return_, 0, 0, 0)]
def tI130 : ab_T := [(17, tB130_0)]
set_option maxRecDepth 100000 in
theorem tC130 : ab_ck (ab_lkB ab_mt ab_kb lL5 mM130) mM130.2.1.data.toList 0 (ab_flat tI130) = true := by decide +kernel
set_option maxRecDepth 100000 in
theorem tS130 : ab_swB mM130.2.1 (ab_flat tI130) = true := by decide +kernel
theorem tO130 : ab_MOK 130 tI130 := ab_allOK (M := mM130) rfl lL5_ok tC130 tS130
def tB131_0 : List (Nat × ab_I) := [(0, .aload_n 0, 0, 0, 0), (1, .getfield 11, 10, 0, 0), (4, .iload_n 1, 0, 0, 0), (5, .aaload, 0, 0, 0), (6, .getfield 59, 7, 2, 1), (9, .istore_n 3, 0, 0, 0), (10, .iload_n 3, 0, 0, 0), (11, .iconst (-1), 0, 0, 0), (12, .if_icmp .eq 29, 41, 0, 0), (15, .aload_n 0, 0, 0, 0), (16, .getfield 11, 10, 0, 0), (19, .iload_n 3, 0, 0, 0), (20, .aaload, 0, 0, 0), (21, .getfield 42, 7, 0, 1), (24, .iload_n 2, 0, 0, 0), (25, .if_icmp .eq 16, 41, 0, 0), (28, .aload_n 0, 0, 0, 0), (29, .getfield 11, 10, 0, 0), (32, .iload_n 3, 0, 0, 0), (33, .aaload, 0, 0, 0), (34, .getfield 59, 7, 2, 1), (37, .istore_n 3, 0, 0, 0), (38, .goto (-28), 10, 0, 0), (41, .iload_n 3, 0, 0, 0)]
def tB131_1 : List (Nat × ab_I) := [(42, .ireturn, 0, 0, 0)]
def tI131 : ab_T := [(41, tB131_0), (42, tB131_1)]
set_option maxRecDepth 100000 in
theorem tC131 : ab_ck (ab_lkB ab_mt ab_kb lL11 mM131) mM131.2.1.data.toList 0 (ab_flat tI131) = true := by decide +kernel
set_option maxRecDepth 100000 in
theorem tS131 : ab_swB mM131.2.1 (ab_flat tI131) = true := by decide +kernel
theorem tO131 : ab_MOK 131 tI131 := ab_allOK (M := mM131) rfl lL11_ok tC131 tS131
def tB132_0 : List (Nat × ab_I) := [(0, .aload_n 0, 0, 0, 0), (1, .getfield 46, 0, 0, 0), (4, .getfield 96, 10, 0, 1), (7, .iload_n 1, 0, 0, 0), (8, .aaload, 0, 0, 0), (9, .ldc_w 341, 1000028, 0, 1), (12, .invokevirtual 120, 104, 1, 0), (15, .astore_n 2, 0, 0, 0), (16, .aload_n 2, 0, 0, 0), (17, .ifnonnull 23, 40, 0, 0), (20, .aload_n 0, 0, 0, 0), (21, .getfield 50, 0, 1, 0), (24, .getfield 244, 6, 14, 1), (27, .aload_n 0, 0, 0, 0), (28, .getfield 50, 0, 1, 0), (31, .getfield 248, 6, 13, 1), (34, .invokevirtual 343, 22, 1, 0), (37, .goto 33, 70, 0, 0), (40, .aload_n 0, 0, 0, 0), (41, .getfield 50, 0, 1, 0), (44, .getfield 244, 6, 14, 1), (47, .aload_n 2, 0, 0, 0), (48, .getfield 76, 4, 1, 1), (51, .iconst 0, 0, 0, 0)]
def tB132_1 : List (Nat × ab_I) := [(52, .aload_n 2, 0, 0, 0), (53, .getfield 80, 4, 2, 1), (56, .aload_n 0, 0, 0, 0), (57, .getfield 50, 0, 1, 0), (60, .getfield 248, 6, 13, 1), (63, .invokevirtual 251, 10, 4, 0), (66, .ifCond .ne 4, 70, 0, 0), (69, .return_, 0, 0, 0), (70, .aload_n 0, 0, 0, 0), (71, .getfield 43, 0, 19, 0), (74, .invokevirtual 64, 31, 0, 0), (77, .iconst 1, 0, 0, 0), (78, .istore_n 3, 0, 0, 0), (79, .aload_n 0, 0, 0, 0), (80, .getfield 46, 0, 0, 0), (83, .invokevirtual 108, 103, 0, 0), (86, .aload_n 0, 0, 0, 0), (87, .getfield 46, 0, 0, 0), (90, .getfield 96, 10, 0, 1), (93, .iload_n 1, 0, 0, 0), (94, .aaload, 0, 0, 0), (95, .getfield 347, 7, 8, 1), (98, .istore 4, 0, 0, 0), (100, .iload 4, 0, 0, 0)]
def tB132_2 : List (Nat × ab_I) := [(102, .aload_n 0, 0, 0, 0), (103, .getfield 46, 0, 0, 0), (106, .getfield 96, 10, 0, 1), (109, .iload_n 1, 0, 0, 0), (110, .aaload, 0, 0, 0), (111, .getfield 350, 7, 9, 1), (114, .if_icmp .ge 130, 244, 0, 0), (117, .aload_n 0, 0, 0, 0), (118, .getfield 46, 0, 0, 0), (121, .getfield 96, 10, 0, 1), (124, .aload_n 0, 0, 0, 0), (125, .getfield 46, 0, 0, 0), (128, .getfield 114, 10, 2, 1), (131, .iload 4, 0, 0, 0), (133, .iaload, 0, 0, 0), (134, .aaload, 0, 0, 0), (135, .astore 5, 0, 0, 0), (137, .aload 5, 0, 0, 0), (139, .getfield 238, 7, 0, 1), (142, .bipush 13, 0, 0, 0), (144, .if_icmp .ne 14, 158, 0, 0), (147, .aload 5, 0, 0, 0), (149, .ldc_w 353, 1000029, 0, 1), (152, .invokevirtual 120, 104, 1, 0)]
def tB132_3 : List (Nat × ab_I) := [(155, .goto 4, 159, 0, 0), (158, .aconst_null, 0, 0, 0), (159, .astore 6, 0, 0, 0), (161, .aload 6, 0, 0, 0), (163, .ifnull 75, 238, 0, 0), (166, .aload 6, 0, 0, 0), (168, .invokevirtual 355, 133, 0, 0), (171, .ifCond .eq 67, 238, 0, 0), (174, .aload 5, 0, 0, 0), (176, .getfield 323, 7, 16, 1), (179, .ifCond .ne 11, 190, 0, 0), (182, .aload 5, 0, 0, 0), (184, .getfield 320, 7, 15, 1), (187, .ifCond .ne 51, 238, 0, 0), (190, .iload_n 3, 0, 0, 0), (191, .ifCond .ne 12, 203, 0, 0), (194, .aload_n 0, 0, 0, 0), (195, .getfield 43, 0, 19, 0), (198, .bipush 38, 0, 0, 0), (200, .invokevirtual 338, 8, 1, 0), (203, .iconst 0, 0, 0, 0), (204, .istore_n 3, 0, 0, 0), (205, .aload_n 0, 0, 0, 0), (206, .getfield 43, 0, 19, 0)]
def tB132_4 : List (Nat × ab_I) := [(209, .aload 6, 0, 0, 0), (211, .getfield 76, 4, 1, 1), (214, .iconst 0, 0, 0, 0), (215, .aload 6, 0, 0, 0), (217, .getfield 80, 4, 2, 1), (220, .invokevirtual 83, 39, 3, 0), (223, .aload_n 0, 0, 0, 0), (224, .getfield 43, 0, 19, 0), (227, .bipush 61, 0, 0, 0), (229, .invokevirtual 338, 8, 1, 0), (232, .aload_n 0, 0, 0, 0), (233, .aload 5, 0, 0, 0), (235, .invokevirtual 358, 134, 1, 0), (238, .iinc 4 1, 0, 0, 0), (241, .goto (-141), 100, 0, 0), (244, .aload_n 0, 0, 0, 0), (245, .getfield 50, 0, 1, 0), (248, .getfield 244, 6, 14, 1), (251, .aload_n 0, 0, 0, 0), (252, .getfield 43, 0, 19, 0), (255, .invokevirtual 362, 135, 1, 0), (258, .aload_n 0, 0, 0, 0), (259, .getfield 50, 0, 1, 0), (262, .invokevirtual 366, 57, 0, 0)]
def tB132_5 : List (Nat × ab_I) := [(265, .return_, 0, 0, 0)]
def tI132 : ab_T := [(51, tB132_0), (100, tB132_1), (152, tB132_2), (206, tB132_3), (262, tB132_4), (265, tB132_5)]
set_option maxRecDepth 100000 in
theorem tC132 : ab_ck (ab_lkB ab_mt ab_kb lL1 mM132) mM132.2.1.data.toList 0 (ab_flat tI132) = true := by decide +kernel
set_option maxRecDepth 100000 in
theorem tS132 : ab_swB mM132.2.1 (ab_flat tI132) = true := by decide +kernel
theorem tO132 : ab_MOK 132 tI132 := ab_allOK (M := mM132) rfl lL1_ok tC132 tS132
def tB133_0 : List (Nat × ab_I) := [(0, .aload_n 0, 0, 0, 0), (1, .getfield 15, 4, 1, 0), (4, .iconst 0, 0, 0, 0), (5, .aload_n 0, 0, 0, 0), (6, .getfield 19, 4, 2, 0), (9, .invokestatic 61, 12, 3, 0), (12, .ireturn, 0, 0, 0)]
def tI133 : ab_T := [(12, tB133_0)]
set_option maxRecDepth 100000 in
theorem tC133 : ab_ck (ab_lkB ab_mt ab_kb lL5 mM133) mM133.2.1.data.toList 0 (ab_flat tI133) = true := by decide +kernel
set_option maxRecDepth 100000 in
theorem tS133 : ab_swB mM133.2.1 (ab_flat tI133) = true := by decide +kernel
theorem tO133 : ab_MOK 133 tI133 := ab_allOK (M := mM133) rfl lL5_ok tC133 tS133
def tB134_0 : List (Nat × ab_I) := [(0, .aload_n 1, 0, 0, 0), (1, .getfield 320, 7, 15, 1), (4, .ifCond .eq 14, 18, 0, 0), (7, .aload_n 0, 0, 0, 0), (8, .getfield 43, 0, 19, 0), (11, .ldc_w 369, 1000030, 0, 1), (14, .invokevirtual 371, 7, 1, 0), (17, .return_, 0, 0, 0), (18, .iconst 0, 0, 0, 0), (19, .istore_n 2, 0, 0, 0), (20, .iload_n 2, 0, 0, 0), (21, .aload_n 1, 0, 0, 0), (22, .getfield 332, 7, 11, 1), (25, .getfield 80, 4, 2, 1), (28, .if_icmp .ge 52, 80, 0, 0), (31, .aload_n 1, 0, 0, 0), (32, .getfield 332, 7, 11, 1), (35, .getfield 76, 4, 1, 1), (38, .iload_n 2, 0, 0, 0), (39, .baload, 0, 0, 0), (40, .istore_n 3, 0, 0, 0), (41, .iload_n 3, 0, 0, 0), (42, .bipush 32, 0, 0, 0), (44, .if_icmp .ne 15, 59, 0, 0)]
def tB134_1 : List (Nat × ab_I) := [(47, .aload_n 0, 0, 0, 0), (48, .getfield 43, 0, 19, 0), (51, .bipush 43, 0, 0, 0), (53, .invokevirtual 338, 8, 1, 0), (56, .goto 18, 74, 0, 0), (59, .iload_n 3, 0, 0, 0), (60, .invokestatic 375, 18, 1, 0), (63, .ifCond .eq 11, 74, 0, 0), (66, .aload_n 0, 0, 0, 0), (67, .getfield 43, 0, 19, 0), (70, .iload_n 3, 0, 0, 0), (71, .invokevirtual 338, 8, 1, 0), (74, .iinc 2 1, 0, 0, 0), (77, .goto (-57), 20, 0, 0), (80, .return_, 0, 0, 0)]
def tI134 : ab_T := [(44, tB134_0), (80, tB134_1)]
set_option maxRecDepth 100000 in
theorem tC134 : ab_ck (ab_lkB ab_mt ab_kb lL1 mM134) mM134.2.1.data.toList 0 (ab_flat tI134) = true := by decide +kernel
set_option maxRecDepth 100000 in
theorem tS134 : ab_swB mM134.2.1 (ab_flat tI134) = true := by decide +kernel
theorem tO134 : ab_MOK 134 tI134 := ab_allOK (M := mM134) rfl lL1_ok tC134 tS134
def tB135_0 : List (Nat × ab_I) := [(0, .aload_n 1, 0, 0, 0), (1, .getfield 36, 4, 2, 1), (4, .bipush 40, 0, 0, 0), (6, .invokestatic 39, 0, 0, 3), (9, .istore_n 2, 0, 0, 0), (10, .aload_n 0, 0, 0, 0), (11, .getfield 30, 1, 3, 0), (14, .iconst 1, 0, 0, 0), (15, .iadd, 0, 0, 0), (16, .iload_n 2, 0, 0, 0), (17, .iadd, 0, 0, 0), (18, .istore_n 3, 0, 0, 0), (19, .aload_n 0, 0, 0, 0), (20, .getfield 13, 1, 5, 0), (23, .aload_n 0, 0, 0, 0), (24, .getfield 33, 1, 4, 0), (27, .isub, 0, 0, 0), (28, .istore 4, 0, 0, 0), (30, .aload_n 0, 0, 0, 0), (31, .getfield 9, 1, 0, 0), (34, .aload_n 0, 0, 0, 0), (35, .getfield 33, 1, 4, 0), (38, .aload_n 0, 0, 0, 0), (39, .getfield 9, 1, 0, 0)]
def tB135_1 : List (Nat × ab_I) := [(42, .iload_n 3, 0, 0, 0), (43, .iload 4, 0, 0, 0), (45, .invokestatic 17, 0, 0, 4), (48, .aload_n 0, 0, 0, 0), (49, .getfield 9, 1, 0, 0), (52, .aload_n 0, 0, 0, 0), (53, .getfield 30, 1, 3, 0), (56, .bipush 63, 0, 0, 0), (58, .bastore, 0, 0, 0), (59, .aload_n 1, 0, 0, 0), (60, .getfield 45, 4, 1, 1), (63, .iconst 0, 0, 0, 0), (64, .aload_n 0, 0, 0, 0), (65, .getfield 9, 1, 0, 0), (68, .aload_n 0, 0, 0, 0), (69, .getfield 30, 1, 3, 0), (72, .iconst 1, 0, 0, 0), (73, .iadd, 0, 0, 0), (74, .iload_n 2, 0, 0, 0), (75, .invokestatic 17, 0, 0, 4), (78, .aload_n 0, 0, 0, 0), (79, .iload_n 3, 0, 0, 0), (80, .putfield 33, 1, 4, 0), (83, .aload_n 0, 0, 0, 0)]
def tB135_2 : List (Nat × ab_I) := [(84, .iload_n 3, 0, 0, 0), (85, .iload 4, 0, 0, 0), (87, .iadd, 0, 0, 0), (88, .putfield 13, 1, 5, 0), (91, .return_, 0, 0, 0)]
def tI135 : ab_T := [(39, tB135_0), (83, tB135_1), (91, tB135_2)]
set_option maxRecDepth 100000 in
theorem tC135 : ab_ck (ab_lkB ab_mt ab_kb lL2 mM135) mM135.2.1.data.toList 0 (ab_flat tI135) = true := by decide +kernel
set_option maxRecDepth 100000 in
theorem tS135 : ab_swB mM135.2.1 (ab_flat tI135) = true := by decide +kernel
theorem tO135 : ab_MOK 135 tI135 := ab_allOK (M := mM135) rfl lL2_ok tC135 tS135
def tB136_0 : List (Nat × ab_I) := [(0, .aload_n 0, 0, 0, 0), (1, .getfield 46, 0, 0, 0), (4, .getfield 96, 10, 0, 1), (7, .iload_n 1, 0, 0, 0), (8, .aaload, 0, 0, 0), (9, .astore_n 2, 0, 0, 0), (10, .aload_n 2, 0, 0, 0), (11, .getfield 238, 7, 0, 1), (14, .bipush 7, 0, 0, 0), (16, .if_icmp .ne 42, 58, 0, 0), (19, .aload_n 2, 0, 0, 0), (20, .ldc_w 318, 1000031, 0, 1), (23, .invokevirtual 120, 104, 1, 0), (26, .astore_n 3, 0, 0, 0), (27, .aload_n 3, 0, 0, 0), (28, .ifnull 20, 48, 0, 0), (31, .aload_n 0, 0, 0, 0), (32, .getfield 50, 0, 1, 0), (35, .aload_n 3, 0, 0, 0), (36, .getfield 76, 4, 1, 1), (39, .iconst 0, 0, 0, 0), (40, .aload_n 3, 0, 0, 0), (41, .getfield 80, 4, 2, 1), (44, .invokevirtual 198, 56, 3, 0)]
def tB136_1 : List (Nat × ab_I) := [(47, .pop, 0, 0, 0), (48, .aload_n 3, 0, 0, 0), (49, .ifnull 7, 56, 0, 0), (52, .iconst 1, 0, 0, 0), (53, .goto 4, 57, 0, 0), (56, .iconst 0, 0, 0, 0), (57, .ireturn, 0, 0, 0), (58, .aload_n 2, 0, 0, 0), (59, .getfield 238, 7, 0, 1), (62, .bipush 13, 0, 0, 0), (64, .if_icmp .ne 43, 107, 0, 0), (67, .aload_n 2, 0, 0, 0), (68, .getfield 320, 7, 15, 1), (71, .ifCond .eq 22, 93, 0, 0), (74, .aload_n 2, 0, 0, 0), (75, .aload_n 2, 0, 0, 0), (76, .getfield 323, 7, 16, 1), (79, .ifCond .ne 7, 86, 0, 0), (82, .iconst 1, 0, 0, 0), (83, .goto 4, 87, 0, 0), (86, .iconst 0, 0, 0, 0), (87, .putfield 323, 7, 16, 1), (90, .goto 15, 105, 0, 0), (93, .aload_n 0, 0, 0, 0)]
def tB136_2 : List (Nat × ab_I) := [(94, .aload_n 0, 0, 0, 0), (95, .getfield 46, 0, 0, 0), (98, .iload_n 1, 0, 0, 0), (99, .invokevirtual 90, 105, 1, 0), (102, .putfield 23, 0, 6, 0), (105, .iconst 1, 0, 0, 0), (106, .ireturn, 0, 0, 0), (107, .aload_n 2, 0, 0, 0), (108, .getfield 238, 7, 0, 1), (111, .bipush 14, 0, 0, 0), (113, .if_icmp .ne 15, 128, 0, 0), (116, .aload_n 0, 0, 0, 0), (117, .getfield 46, 0, 0, 0), (120, .iload_n 1, 0, 0, 0), (121, .iconst 5, 0, 0, 0), (122, .invokevirtual 326, 131, 2, 0), (125, .goto 4, 129, 0, 0), (128, .iconst (-1), 0, 0, 0), (129, .istore_n 3, 0, 0, 0), (130, .iload_n 3, 0, 0, 0), (131, .iconst (-1), 0, 0, 0), (132, .if_icmp .eq 8, 140, 0, 0), (135, .aload_n 0, 0, 0, 0), (136, .iload_n 3, 0, 0, 0)]
def tB136_3 : List (Nat × ab_I) := [(137, .invokevirtual 329, 132, 1, 0), (140, .iload_n 3, 0, 0, 0), (141, .iconst (-1), 0, 0, 0), (142, .if_icmp .eq 7, 149, 0, 0), (145, .iconst 1, 0, 0, 0), (146, .goto 4, 150, 0, 0), (149, .iconst 0, 0, 0, 0), (150, .ireturn, 0, 0, 0)]
def tI136 : ab_T := [(44, tB136_0), (93, tB136_1), (136, tB136_2), (150, tB136_3)]
set_option maxRecDepth 100000 in
theorem tC136 : ab_ck (ab_lkB ab_mt ab_kb lL1 mM136) mM136.2.1.data.toList 0 (ab_flat tI136) = true := by decide +kernel
set_option maxRecDepth 100000 in
theorem tS136 : ab_swB mM136.2.1 (ab_flat tI136) = true := by decide +kernel
theorem tO136 : ab_MOK 136 tI136 := ab_allOK (M := mM136) rfl lL1_ok tC136 tS136
def tB137_0 : List (Nat × ab_I) := [(0, .aload_n 0, 0, 0, 0), (1, .invokevirtual 101, 37, 0, 0), (4, .istore_n 1, 0, 0, 0), (5, .iload_n 1, 0, 0, 0), (6, .ifCond .ne 53, 59, 0, 0), (9, .aload_n 0, 0, 0, 0), (10, .getfield 65, 11, 7, 0), (13, .invokevirtual 124, 55, 0, 0), (16, .aload_n 0, 0, 0, 0), (17, .getfield 40, 11, 4, 0), (20, .aload_n 0, 0, 0, 0), (21, .getfield 14, 11, 0, 0), (24, .getfield 86, 4, 1, 1), (27, .aload_n 0, 0, 0, 0), (28, .getfield 14, 11, 0, 0), (31, .getfield 76, 4, 2, 1), (34, .invokevirtual 134, 70, 2, 0), (37, .aload_n 0, 0, 0, 0), (38, .getfield 65, 11, 7, 0), (41, .invokevirtual 137, 102, 0, 0), (44, .aload_n 0, 0, 0, 0), (45, .getfield 65, 11, 7, 0), (48, .invokevirtual 131, 59, 0, 0), (51, .aload_n 0, 0, 0, 0)]
def tB137_1 : List (Nat × ab_I) := [(52, .getfield 24, 11, 2, 0), (55, .getfield 140, 10, 5, 1), (58, .istore_n 1, 0, 0, 0), (59, .aload_n 0, 0, 0, 0), (60, .getfield 14, 11, 0, 0), (63, .invokevirtual 90, 31, 0, 0), (66, .iload_n 1, 0, 0, 0), (67, .ireturn, 0, 0, 0)]
def tI137 : ab_T := [(51, tB137_0), (67, tB137_1)]
set_option maxRecDepth 100000 in
theorem tC137 : ab_ck (ab_lkB ab_mt ab_kb lL12 mM137) mM137.2.1.data.toList 0 (ab_flat tI137) = true := by decide +kernel
set_option maxRecDepth 100000 in
theorem tS137 : ab_swB mM137.2.1 (ab_flat tI137) = true := by decide +kernel
theorem tO137 : ab_MOK 137 tI137 := ab_allOK (M := mM137) rfl lL12_ok tC137 tS137
def tB138_0 : List (Nat × ab_I) := [(0, .aload_n 0, 0, 0, 0), (1, .getfield 65, 11, 7, 0), (4, .invokevirtual 124, 55, 0, 0), (7, .aload_n 0, 0, 0, 0), (8, .getfield 31, 11, 3, 0), (11, .iload_n 1, 0, 0, 0), (12, .invokevirtual 141, 139, 1, 0), (15, .ifCond .ne 5, 20, 0, 0), (18, .iconst (-1), 0, 0, 0), (19, .ireturn, 0, 0, 0), (20, .aload_n 0, 0, 0, 0), (21, .getfield 65, 11, 7, 0), (24, .invokevirtual 131, 59, 0, 0), (27, .aload_n 0, 0, 0, 0), (28, .getfield 31, 11, 3, 0), (31, .getfield 145, 6, 19, 1), (34, .ireturn, 0, 0, 0)]
def tI138 : ab_T := [(34, tB138_0)]
set_option maxRecDepth 100000 in
theorem tC138 : ab_ck (ab_lkB ab_mt ab_kb lL12 mM138) mM138.2.1.data.toList 0 (ab_flat tI138) = true := by decide +kernel
set_option maxRecDepth 100000 in
theorem tS138 : ab_swB mM138.2.1 (ab_flat tI138) = true := by decide +kernel
theorem tO138 : ab_MOK 138 tI138 := ab_allOK (M := mM138) rfl lL12_ok tC138 tS138
def tB139_0 : List (Nat × ab_I) := [(0, .aload_n 0, 0, 0, 0), (1, .getfield 212, 6, 19, 0), (4, .i2l, 0, 0, 0), (5, .iload_n 1, 0, 0, 0), (6, .i2l, 0, 0, 0), (7, .ladd, 0, 0, 0), (8, .lstore_n 2, 0, 0, 0), (9, .lload_n 2, 0, 0, 0), (10, .lconst 0, 0, 0, 0), (11, .lcmp, 0, 0, 0), (12, .ifCond .lt 13, 25, 0, 0), (15, .lload_n 2, 0, 0, 0), (16, .aload_n 0, 0, 0, 0), (17, .getfield 65, 6, 18, 0), (20, .i2l, 0, 0, 0), (21, .lcmp, 0, 0, 0), (22, .ifCond .lt 5, 27, 0, 0), (25, .iconst 0, 0, 0, 0), (26, .ireturn, 0, 0, 0), (27, .aload_n 0, 0, 0, 0), (28, .lload_n 2, 0, 0, 0), (29, .l2i, 0, 0, 0), (30, .putfield 212, 6, 19, 0), (33, .aload_n 0, 0, 0, 0)]
def tB139_1 : List (Nat × ab_I) := [(34, .getfield 51, 6, 14, 0), (37, .aload_n 0, 0, 0, 0), (38, .getfield 61, 6, 17, 0), (41, .aload_n 0, 0, 0, 0), (42, .getfield 212, 6, 19, 0), (45, .aaload, 0, 0, 0), (46, .invokevirtual 85, 22, 1, 0), (49, .aload_n 0, 0, 0, 0), (50, .iconst 2, 0, 0, 0), (51, .putfield 57, 6, 16, 0), (54, .iconst 1, 0, 0, 0), (55, .ireturn, 0, 0, 0)]
def tI139 : ab_T := [(33, tB139_0), (55, tB139_1)]
set_option maxRecDepth 100000 in
theorem tC139 : ab_ck (ab_lkB ab_mt ab_kb lL7 mM139) mM139.2.1.data.toList 0 (ab_flat tI139) = true := by decide +kernel
set_option maxRecDepth 100000 in
theorem tS139 : ab_swB mM139.2.1 (ab_flat tI139) = true := by decide +kernel
theorem tO139 : ab_MOK 139 tI139 := ab_allOK (M := mM139) rfl lL7_ok tC139 tS139
def tB140_0 : List (Nat × ab_I) := [(0, .iload_n 1, 0, 0, 0), (1, .tableswitch 63 0 2 #[27, 39, 51], 0, 0, 0), (28, .aload_n 0, 0, 0, 0), (29, .aload_n 0, 0, 0, 0), (30, .getfield 31, 11, 3, 0), (33, .getfield 109, 6, 13, 1), (36, .invokevirtual 116, 38, 1, 0), (39, .ireturn, 0, 0, 0), (40, .aload_n 0, 0, 0, 0), (41, .aload_n 0, 0, 0, 0), (42, .getfield 31, 11, 3, 0), (45, .getfield 148, 6, 10, 1), (48, .invokevirtual 116, 38, 1, 0), (51, .ireturn, 0, 0, 0), (52, .aload_n 0, 0, 0, 0), (53, .aload_n 0, 0, 0, 0), (54, .getfield 31, 11, 3, 0), (57, .getfield 151, 6, 11, 1), (60, .invokevirtual 154, 141, 1, 0), (63, .ireturn, 0, 0, 0), (64, .iconst (-1), 0, 0, 0), (65, .ireturn, 0, 0, 0)]
def tI140 : ab_T := [(65, tB140_0)]
set_option maxRecDepth 100000 in
theorem tC140 : ab_ck (ab_lkB ab_mt ab_kb lL12 mM140) mM140.2.1.data.toList 0 (ab_flat tI140) = true := by decide +kernel
set_option maxRecDepth 100000 in
theorem tS140 : ab_swB mM140.2.1 (ab_flat tI140) = true := by decide +kernel
theorem tO140 : ab_MOK 140 tI140 := ab_allOK (M := mM140) rfl lL12_ok tC140 tS140
def tB141_0 : List (Nat × ab_I) := [(0, .aload_n 0, 0, 0, 0), (1, .getfield 18, 11, 1, 0), (4, .invokevirtual 90, 31, 0, 0), (7, .aload_n 0, 0, 0, 0), (8, .getfield 18, 11, 1, 0), (11, .aload_n 1, 0, 0, 0), (12, .getfield 86, 4, 1, 1), (15, .iconst 0, 0, 0, 0), (16, .aload_n 1, 0, 0, 0), (17, .getfield 76, 4, 2, 1), (20, .invokevirtual 97, 39, 3, 0), (23, .aload_n 0, 0, 0, 0), (24, .getfield 18, 11, 1, 0), (27, .getfield 76, 4, 2, 1), (30, .ireturn, 0, 0, 0)]
def tI141 : ab_T := [(30, tB141_0)]
set_option maxRecDepth 100000 in
theorem tC141 : ab_ck (ab_lkB ab_mt ab_kb lL12 mM141) mM141.2.1.data.toList 0 (ab_flat tI141) = true := by decide +kernel
set_option maxRecDepth 100000 in
theorem tS141 : ab_swB mM141.2.1 (ab_flat tI141) = true := by decide +kernel
theorem tO141 : ab_MOK 141 tI141 := ab_allOK (M := mM141) rfl lL12_ok tC141 tS141
def tB142_0 : List (Nat × ab_I) := [(0, .iload_n 1, 0, 0, 0), (1, .ifCond .lt 10, 11, 0, 0), (4, .iload_n 1, 0, 0, 0), (5, .sipush 1000, 0, 0, 0), (8, .if_icmp .le 5, 13, 0, 0), (11, .iconst (-1), 0, 0, 0), (12, .ireturn, 0, 0, 0), (13, .aload_n 0, 0, 0, 0), (14, .getfield 31, 11, 3, 0), (17, .dup, 0, 0, 0), (18, .getfield 158, 6, 12, 1), (21, .iload_n 1, 0, 0, 0), (22, .iadd, 0, 0, 0), (23, .putfield 158, 6, 12, 1), (26, .aload_n 0, 0, 0, 0), (27, .getfield 65, 11, 7, 0), (30, .invokevirtual 124, 55, 0, 0), (33, .iconst 0, 0, 0, 0), (34, .istore_n 2, 0, 0, 0), (35, .iconst 0, 0, 0, 0), (36, .istore_n 3, 0, 0, 0), (37, .iload_n 3, 0, 0, 0), (38, .ldc 161, 100000, 0, 0), (40, .if_icmp .ge 29, 69, 0, 0)]
def tB142_1 : List (Nat × ab_I) := [(43, .aload_n 0, 0, 0, 0), (44, .getfield 65, 11, 7, 0), (47, .invokevirtual 162, 143, 0, 0), (50, .ifCond .eq 19, 69, 0, 0), (53, .iinc 2 1, 0, 0, 0), (56, .aload_n 0, 0, 0, 0), (57, .getfield 65, 11, 7, 0), (60, .invokevirtual 131, 59, 0, 0), (63, .iinc 3 1, 0, 0, 0), (66, .goto (-29), 37, 0, 0), (69, .iload_n 2, 0, 0, 0), (70, .ireturn, 0, 0, 0)]
def tI142 : ab_T := [(40, tB142_0), (70, tB142_1)]
set_option maxRecDepth 100000 in
theorem tC142 : ab_ck (ab_lkB ab_mt ab_kb lL12 mM142) mM142.2.1.data.toList 0 (ab_flat tI142) = true := by decide +kernel
set_option maxRecDepth 100000 in
theorem tS142 : ab_swB mM142.2.1 (ab_flat tI142) = true := by decide +kernel
theorem tO142 : ab_MOK 142 tI142 := ab_allOK (M := mM142) rfl lL12_ok tC142 tS142
def tB143_0 : List (Nat × ab_I) := [(0, .iconst (-1), 0, 0, 0), (1, .istore_n 1, 0, 0, 0), (2, .iconst 0, 0, 0, 0), (3, .istore_n 2, 0, 0, 0), (4, .iload_n 2, 0, 0, 0), (5, .aload_n 0, 0, 0, 0), (6, .getfield 105, 0, 5, 0), (9, .if_icmp .ge 56, 65, 0, 0), (12, .aload_n 0, 0, 0, 0), (13, .getfield 11, 0, 3, 0), (16, .iconst 2, 0, 0, 0), (17, .iload_n 2, 0, 0, 0), (18, .imul, 0, 0, 0), (19, .laload, 0, 0, 0), (20, .aload_n 0, 0, 0, 0), (21, .getfield 50, 0, 1, 0), (24, .getfield 171, 6, 12, 1), (27, .i2l, 0, 0, 0), (28, .lcmp, 0, 0, 0), (29, .ifCond .gt 30, 59, 0, 0), (32, .iload_n 1, 0, 0, 0), (33, .iconst (-1), 0, 0, 0), (34, .if_icmp .eq 23, 57, 0, 0), (37, .aload_n 0, 0, 0, 0)]
def tB143_1 : List (Nat × ab_I) := [(38, .getfield 11, 0, 3, 0), (41, .iconst 2, 0, 0, 0), (42, .iload_n 2, 0, 0, 0), (43, .imul, 0, 0, 0), (44, .laload, 0, 0, 0), (45, .aload_n 0, 0, 0, 0), (46, .getfield 11, 0, 3, 0), (49, .iconst 2, 0, 0, 0), (50, .iload_n 1, 0, 0, 0), (51, .imul, 0, 0, 0), (52, .laload, 0, 0, 0), (53, .lcmp, 0, 0, 0), (54, .ifCond .ge 5, 59, 0, 0), (57, .iload_n 2, 0, 0, 0), (58, .istore_n 1, 0, 0, 0), (59, .iinc 2 1, 0, 0, 0), (62, .goto (-58), 4, 0, 0), (65, .iload_n 1, 0, 0, 0), (66, .iconst (-1), 0, 0, 0), (67, .if_icmp .eq 10, 77, 0, 0), (70, .aload_n 0, 0, 0, 0), (71, .getfield 58, 0, 9, 0), (74, .ifCond .ne 5, 79, 0, 0), (77, .iconst 0, 0, 0, 0)]
def tB143_2 : List (Nat × ab_I) := [(78, .ireturn, 0, 0, 0), (79, .aload_n 0, 0, 0, 0), (80, .getfield 17, 0, 4, 0), (83, .iload_n 1, 0, 0, 0), (84, .aaload, 0, 0, 0), (85, .astore_n 2, 0, 0, 0), (86, .aload_n 0, 0, 0, 0), (87, .aload_n 2, 0, 0, 0), (88, .aload_n 0, 0, 0, 0), (89, .getfield 11, 0, 3, 0), (92, .iconst 2, 0, 0, 0), (93, .iload_n 1, 0, 0, 0), (94, .imul, 0, 0, 0), (95, .iconst 1, 0, 0, 0), (96, .iadd, 0, 0, 0), (97, .laload, 0, 0, 0), (98, .invokevirtual 167, 127, 2, 0), (101, .aload_n 0, 0, 0, 0), (102, .dup, 0, 0, 0), (103, .getfield 105, 0, 5, 0), (106, .iconst 1, 0, 0, 0), (107, .isub, 0, 0, 0), (108, .putfield 105, 0, 5, 0), (111, .iload_n 1, 0, 0, 0)]
def tB143_3 : List (Nat × ab_I) := [(112, .istore_n 3, 0, 0, 0), (113, .iload_n 3, 0, 0, 0), (114, .aload_n 0, 0, 0, 0), (115, .getfield 105, 0, 5, 0), (118, .if_icmp .ge 61, 179, 0, 0), (121, .aload_n 0, 0, 0, 0), (122, .getfield 11, 0, 3, 0), (125, .iconst 2, 0, 0, 0), (126, .iload_n 3, 0, 0, 0), (127, .imul, 0, 0, 0), (128, .aload_n 0, 0, 0, 0), (129, .getfield 11, 0, 3, 0), (132, .iconst 2, 0, 0, 0), (133, .iload_n 3, 0, 0, 0), (134, .imul, 0, 0, 0), (135, .iconst 2, 0, 0, 0), (136, .iadd, 0, 0, 0), (137, .laload, 0, 0, 0), (138, .lastore, 0, 0, 0), (139, .aload_n 0, 0, 0, 0), (140, .getfield 11, 0, 3, 0), (143, .iconst 2, 0, 0, 0), (144, .iload_n 3, 0, 0, 0), (145, .imul, 0, 0, 0)]
def tB143_4 : List (Nat × ab_I) := [(146, .iconst 1, 0, 0, 0), (147, .iadd, 0, 0, 0), (148, .aload_n 0, 0, 0, 0), (149, .getfield 11, 0, 3, 0), (152, .iconst 2, 0, 0, 0), (153, .iload_n 3, 0, 0, 0), (154, .imul, 0, 0, 0), (155, .iconst 3, 0, 0, 0), (156, .iadd, 0, 0, 0), (157, .laload, 0, 0, 0), (158, .lastore, 0, 0, 0), (159, .aload_n 0, 0, 0, 0), (160, .getfield 17, 0, 4, 0), (163, .iload_n 3, 0, 0, 0), (164, .aload_n 0, 0, 0, 0), (165, .getfield 17, 0, 4, 0), (168, .iload_n 3, 0, 0, 0), (169, .iconst 1, 0, 0, 0), (170, .iadd, 0, 0, 0), (171, .aaload, 0, 0, 0), (172, .aastore, 0, 0, 0), (173, .iinc 3 1, 0, 0, 0), (176, .goto (-63), 113, 0, 0), (179, .aload_n 0, 0, 0, 0)]
def tB143_5 : List (Nat × ab_I) := [(180, .getfield 17, 0, 4, 0), (183, .aload_n 0, 0, 0, 0), (184, .getfield 105, 0, 5, 0), (187, .aload_n 2, 0, 0, 0), (188, .aastore, 0, 0, 0), (189, .iconst 1, 0, 0, 0), (190, .ireturn, 0, 0, 0)]
def tI143 : ab_T := [(37, tB143_0), (77, tB143_1), (111, tB143_2), (145, tB143_3), (179, tB143_4), (190, tB143_5)]
set_option maxRecDepth 100000 in
theorem tC143 : ab_ck (ab_lkB ab_mt ab_kb lL1 mM143) mM143.2.1.data.toList 0 (ab_flat tI143) = true := by decide +kernel
set_option maxRecDepth 100000 in
theorem tS143 : ab_swB mM143.2.1 (ab_flat tI143) = true := by decide +kernel
theorem tO143 : ab_MOK 143 tI143 := ab_allOK (M := mM143) rfl lL1_ok tC143 tS143
def tB144_0 : List (Nat × ab_I) := [(0, .aload_n 0, 0, 0, 0), (1, .iload_n 1, 0, 0, 0), (2, .invokevirtual 175, 145, 1, 0), (5, .ifCond .ne 5, 10, 0, 0), (8, .iconst (-1), 0, 0, 0), (9, .ireturn, 0, 0, 0), (10, .aload_n 0, 0, 0, 0), (11, .getfield 24, 11, 2, 0), (14, .getfield 166, 10, 0, 1), (17, .iload_n 1, 0, 0, 0), (18, .aaload, 0, 0, 0), (19, .astore_n 3, 0, 0, 0), (20, .iload_n 2, 0, 0, 0), (21, .tableswitch 89 0 5 #[39, 44, 49, 54, 63, 68], 0, 0, 0), (60, .aload_n 3, 0, 0, 0), (61, .getfield 170, 7, 0, 1), (64, .ireturn, 0, 0, 0), (65, .aload_n 3, 0, 0, 0), (66, .getfield 178, 7, 2, 1), (69, .ireturn, 0, 0, 0), (70, .aload_n 3, 0, 0, 0), (71, .getfield 181, 7, 6, 1), (74, .ireturn, 0, 0, 0), (75, .aload_n 0, 0, 0, 0)]
def tB144_1 : List (Nat × ab_I) := [(76, .getfield 24, 11, 2, 0), (79, .iload_n 1, 0, 0, 0), (80, .invokevirtual 184, 146, 1, 0), (83, .ireturn, 0, 0, 0), (84, .aload_n 3, 0, 0, 0), (85, .getfield 188, 7, 12, 1), (88, .ireturn, 0, 0, 0), (89, .aload_n 3, 0, 0, 0), (90, .getfield 170, 7, 0, 1), (93, .bipush 17, 0, 0, 0), (95, .if_icmp .ne 13, 108, 0, 0), (98, .aload_n 3, 0, 0, 0), (99, .getfield 191, 7, 11, 1), (102, .getfield 76, 4, 2, 1), (105, .goto 4, 109, 0, 0), (108, .iconst 0, 0, 0, 0), (109, .ireturn, 0, 0, 0), (110, .iconst (-1), 0, 0, 0), (111, .ireturn, 0, 0, 0)]
def tI144 : ab_T := [(75, tB144_0), (111, tB144_1)]
set_option maxRecDepth 100000 in
theorem tC144 : ab_ck (ab_lkB ab_mt ab_kb lL12 mM144) mM144.2.1.data.toList 0 (ab_flat tI144) = true := by decide +kernel
set_option maxRecDepth 100000 in
theorem tS144 : ab_swB mM144.2.1 (ab_flat tI144) = true := by decide +kernel
theorem tO144 : ab_MOK 144 tI144 := ab_allOK (M := mM144) rfl lL12_ok tC144 tS144
def tB145_0 : List (Nat × ab_I) := [(0, .iload_n 1, 0, 0, 0), (1, .ifCond .lt 29, 30, 0, 0), (4, .iload_n 1, 0, 0, 0), (5, .bipush 120, 0, 0, 0), (7, .if_icmp .ge 23, 30, 0, 0), (10, .aload_n 0, 0, 0, 0), (11, .getfield 24, 11, 2, 0), (14, .getfield 166, 10, 0, 1), (17, .iload_n 1, 0, 0, 0), (18, .aaload, 0, 0, 0), (19, .getfield 170, 7, 0, 1), (22, .iconst (-1), 0, 0, 0), (23, .if_icmp .eq 7, 30, 0, 0), (26, .iconst 1, 0, 0, 0), (27, .goto 4, 31, 0, 0), (30, .iconst 0, 0, 0, 0), (31, .ireturn, 0, 0, 0)]
def tI145 : ab_T := [(31, tB145_0)]
set_option maxRecDepth 100000 in
theorem tC145 : ab_ck (ab_lkB ab_mt ab_kb lL12 mM145) mM145.2.1.data.toList 0 (ab_flat tI145) = true := by decide +kernel
set_option maxRecDepth 100000 in
theorem tS145 : ab_swB mM145.2.1 (ab_flat tI145) = true := by decide +kernel
theorem tO145 : ab_MOK 145 tI145 := ab_allOK (M := mM145) rfl lL12_ok tC145 tS145
def tB146_0 : List (Nat × ab_I) := [(0, .aload_n 0, 0, 0, 0), (1, .getfield 11, 10, 0, 0), (4, .iload_n 1, 0, 0, 0), (5, .aaload, 0, 0, 0), (6, .getfield 59, 7, 2, 1), (9, .iconst (-1), 0, 0, 0), (10, .if_icmp .ne 5, 15, 0, 0), (13, .iconst 0, 0, 0, 0), (14, .ireturn, 0, 0, 0), (15, .iconst 0, 0, 0, 0), (16, .istore_n 2, 0, 0, 0), (17, .aload_n 0, 0, 0, 0), (18, .getfield 11, 10, 0, 0), (21, .aload_n 0, 0, 0, 0), (22, .getfield 11, 10, 0, 0), (25, .iload_n 1, 0, 0, 0), (26, .aaload, 0, 0, 0), (27, .getfield 59, 7, 2, 1), (30, .aaload, 0, 0, 0), (31, .getfield 62, 7, 3, 1), (34, .istore_n 3, 0, 0, 0), (35, .iload_n 3, 0, 0, 0), (36, .iconst (-1), 0, 0, 0), (37, .if_icmp .eq 24, 61, 0, 0)]
def tB146_1 : List (Nat × ab_I) := [(40, .iload_n 3, 0, 0, 0), (41, .iload_n 1, 0, 0, 0), (42, .if_icmp .eq 19, 61, 0, 0), (45, .iinc 2 1, 0, 0, 0), (48, .aload_n 0, 0, 0, 0), (49, .getfield 11, 10, 0, 0), (52, .iload_n 3, 0, 0, 0), (53, .aaload, 0, 0, 0), (54, .getfield 68, 7, 5, 1), (57, .istore_n 3, 0, 0, 0), (58, .goto (-23), 35, 0, 0), (61, .iload_n 2, 0, 0, 0), (62, .ireturn, 0, 0, 0)]
def tI146 : ab_T := [(37, tB146_0), (62, tB146_1)]
set_option maxRecDepth 100000 in
theorem tC146 : ab_ck (ab_lkB ab_mt ab_kb lL11 mM146) mM146.2.1.data.toList 0 (ab_flat tI146) = true := by decide +kernel
set_option maxRecDepth 100000 in
theorem tS146 : ab_swB mM146.2.1 (ab_flat tI146) = true := by decide +kernel
theorem tO146 : ab_MOK 146 tI146 := ab_allOK (M := mM146) rfl lL11_ok tC146 tS146
def tB147_0 : List (Nat × ab_I) := [(0, .aload_n 0, 0, 0, 0), (1, .iload_n 1, 0, 0, 0), (2, .invokevirtual 175, 145, 1, 0), (5, .ifCond .eq 19, 24, 0, 0), (8, .iload_n 2, 0, 0, 0), (9, .ifCond .lt 15, 24, 0, 0), (12, .aload_n 0, 0, 0, 0), (13, .getfield 24, 11, 2, 0), (16, .iload_n 1, 0, 0, 0), (17, .iload_n 2, 0, 0, 0), (18, .invokevirtual 194, 148, 2, 0), (21, .goto 4, 25, 0, 0), (24, .iconst (-1), 0, 0, 0), (25, .ireturn, 0, 0, 0)]
def tI147 : ab_T := [(25, tB147_0)]
set_option maxRecDepth 100000 in
theorem tC147 : ab_ck (ab_lkB ab_mt ab_kb lL12 mM147) mM147.2.1.data.toList 0 (ab_flat tI147) = true := by decide +kernel
set_option maxRecDepth 100000 in
theorem tS147 : ab_swB mM147.2.1 (ab_flat tI147) = true := by decide +kernel
theorem tO147 : ab_MOK 147 tI147 := ab_allOK (M := mM147) rfl lL12_ok tC147 tS147
def tB148_0 : List (Nat × ab_I) := [(0, .aload_n 0, 0, 0, 0), (1, .getfield 11, 10, 0, 0), (4, .iload_n 1, 0, 0, 0), (5, .aaload, 0, 0, 0), (6, .getfield 62, 7, 3, 1), (9, .istore_n 3, 0, 0, 0), (10, .iload_n 2, 0, 0, 0), (11, .istore 4, 0, 0, 0), (13, .iload 4, 0, 0, 0), (15, .ifCond .le 24, 39, 0, 0), (18, .iload_n 3, 0, 0, 0), (19, .iconst (-1), 0, 0, 0), (20, .if_icmp .eq 19, 39, 0, 0), (23, .aload_n 0, 0, 0, 0), (24, .getfield 11, 10, 0, 0), (27, .iload_n 3, 0, 0, 0), (28, .aaload, 0, 0, 0), (29, .getfield 68, 7, 5, 1), (32, .istore_n 3, 0, 0, 0), (33, .iinc 4 (-1), 0, 0, 0), (36, .goto (-23), 13, 0, 0), (39, .iload_n 3, 0, 0, 0), (40, .ireturn, 0, 0, 0)]
def tI148 : ab_T := [(40, tB148_0)]
set_option maxRecDepth 100000 in
theorem tC148 : ab_ck (ab_lkB ab_mt ab_kb lL11 mM148) mM148.2.1.data.toList 0 (ab_flat tI148) = true := by decide +kernel
set_option maxRecDepth 100000 in
theorem tS148 : ab_swB mM148.2.1 (ab_flat tI148) = true := by decide +kernel
theorem tO148 : ab_MOK 148 tI148 := ab_allOK (M := mM148) rfl lL11_ok tC148 tS148
def tB149_0 : List (Nat × ab_I) := [(0, .aload_n 0, 0, 0, 0), (1, .iload_n 1, 0, 0, 0), (2, .invokevirtual 175, 145, 1, 0), (5, .ifCond .ne 5, 10, 0, 0), (8, .iconst (-1), 0, 0, 0), (9, .ireturn, 0, 0, 0), (10, .aload_n 0, 0, 0, 0), (11, .getfield 24, 11, 2, 0), (14, .getfield 166, 10, 0, 1), (17, .iload_n 1, 0, 0, 0), (18, .aaload, 0, 0, 0), (19, .astore_n 2, 0, 0, 0), (20, .aload_n 2, 0, 0, 0), (21, .getfield 170, 7, 0, 1), (24, .bipush 17, 0, 0, 0), (26, .if_icmp .ne 12, 38, 0, 0), (29, .aload_n 0, 0, 0, 0), (30, .aload_n 2, 0, 0, 0), (31, .getfield 191, 7, 11, 1), (34, .invokevirtual 154, 141, 1, 0), (37, .ireturn, 0, 0, 0), (38, .aload_n 0, 0, 0, 0), (39, .getfield 18, 11, 1, 0), (42, .invokevirtual 90, 31, 0, 0)]
def tB149_1 : List (Nat × ab_I) := [(45, .aload_n 0, 0, 0, 0), (46, .getfield 18, 11, 1, 0), (49, .aload_n 2, 0, 0, 0), (50, .getfield 198, 7, 1, 1), (53, .invokevirtual 202, 65, 1, 0), (56, .aload_n 0, 0, 0, 0), (57, .getfield 18, 11, 1, 0), (60, .getfield 76, 4, 2, 1), (63, .ireturn, 0, 0, 0)]
def tI149 : ab_T := [(42, tB149_0), (63, tB149_1)]
set_option maxRecDepth 100000 in
theorem tC149 : ab_ck (ab_lkB ab_mt ab_kb lL12 mM149) mM149.2.1.data.toList 0 (ab_flat tI149) = true := by decide +kernel
set_option maxRecDepth 100000 in
theorem tS149 : ab_swB mM149.2.1 (ab_flat tI149) = true := by decide +kernel
theorem tO149 : ab_MOK 149 tI149 := ab_allOK (M := mM149) rfl lL12_ok tC149 tS149
def tB150_0 : List (Nat × ab_I) := [(0, .aload_n 0, 0, 0, 0), (1, .invokevirtual 101, 37, 0, 0), (4, .istore_n 2, 0, 0, 0), (5, .iload_n 2, 0, 0, 0), (6, .ifCond .ne 64, 70, 0, 0), (9, .aload_n 0, 0, 0, 0), (10, .getfield 14, 11, 0, 0), (13, .getfield 86, 4, 1, 1), (16, .iconst 0, 0, 0, 0), (17, .aload_n 0, 0, 0, 0), (18, .getfield 14, 11, 0, 0), (21, .getfield 76, 4, 2, 1), (24, .invokestatic 206, 13, 3, 0), (27, .istore_n 3, 0, 0, 0), (28, .iload_n 3, 0, 0, 0), (29, .ifCond .eq 14, 43, 0, 0), (32, .iload_n 3, 0, 0, 0), (33, .aload_n 0, 0, 0, 0), (34, .getfield 14, 11, 0, 0), (37, .getfield 76, 4, 2, 1), (40, .if_icmp .ge 12, 52, 0, 0), (43, .sipush (-1000), 0, 0, 0), (46, .iload_n 3, 0, 0, 0), (47, .isub, 0, 0, 0)]
def tB150_1 : List (Nat × ab_I) := [(48, .istore_n 2, 0, 0, 0), (49, .goto 21, 70, 0, 0), (52, .aload_n 0, 0, 0, 0), (53, .iload_n 1, 0, 0, 0), (54, .aload_n 0, 0, 0, 0), (55, .getfield 14, 11, 0, 0), (58, .getfield 86, 4, 1, 1), (61, .iconst 0, 0, 0, 0), (62, .iload_n 3, 0, 0, 0), (63, .invokestatic 210, 15, 3, 0), (66, .invokevirtual 214, 151, 2, 0), (69, .istore_n 2, 0, 0, 0), (70, .aload_n 0, 0, 0, 0), (71, .getfield 14, 11, 0, 0), (74, .invokevirtual 90, 31, 0, 0), (77, .iload_n 2, 0, 0, 0), (78, .ireturn, 0, 0, 0)]
def tI150 : ab_T := [(47, tB150_0), (78, tB150_1)]
set_option maxRecDepth 100000 in
theorem tC150 : ab_ck (ab_lkB ab_mt ab_kb lL12 mM150) mM150.2.1.data.toList 0 (ab_flat tI150) = true := by decide +kernel
set_option maxRecDepth 100000 in
theorem tS150 : ab_swB mM150.2.1 (ab_flat tI150) = true := by decide +kernel
theorem tO150 : ab_MOK 150 tI150 := ab_allOK (M := mM150) rfl lL12_ok tC150 tS150
def tB151_0 : List (Nat × ab_I) := [(0, .aload_n 0, 0, 0, 0), (1, .iload_n 1, 0, 0, 0), (2, .invokevirtual 218, 152, 1, 0), (5, .ifCond .ne 5, 10, 0, 0), (8, .iconst (-1), 0, 0, 0), (9, .ireturn, 0, 0, 0), (10, .aload_n 0, 0, 0, 0), (11, .getfield 24, 11, 2, 0), (14, .getfield 166, 10, 0, 1), (17, .iload_n 1, 0, 0, 0), (18, .aaload, 0, 0, 0), (19, .lload_n 2, 0, 0, 0), (20, .invokevirtual 221, 86, 1, 0), (23, .astore 4, 0, 0, 0), (25, .aload 4, 0, 0, 0), (27, .ifnonnull 7, 34, 0, 0), (30, .iconst (-1), 0, 0, 0), (31, .goto 9, 40, 0, 0), (34, .aload_n 0, 0, 0, 0), (35, .aload 4, 0, 0, 0), (37, .invokevirtual 154, 141, 1, 0), (40, .ireturn, 0, 0, 0)]
def tI151 : ab_T := [(40, tB151_0)]
set_option maxRecDepth 100000 in
theorem tC151 : ab_ck (ab_lkB ab_mt ab_kb lL12 mM151) mM151.2.1.data.toList 0 (ab_flat tI151) = true := by decide +kernel
set_option maxRecDepth 100000 in
theorem tS151 : ab_swB mM151.2.1 (ab_flat tI151) = true := by decide +kernel
theorem tO151 : ab_MOK 151 tI151 := ab_allOK (M := mM151) rfl lL12_ok tC151 tS151
def tB152_0 : List (Nat × ab_I) := [(0, .aload_n 0, 0, 0, 0), (1, .iload_n 1, 0, 0, 0), (2, .invokevirtual 175, 145, 1, 0), (5, .ifCond .eq 24, 29, 0, 0), (8, .aload_n 0, 0, 0, 0), (9, .getfield 24, 11, 2, 0), (12, .getfield 166, 10, 0, 1), (15, .iload_n 1, 0, 0, 0), (16, .aaload, 0, 0, 0), (17, .getfield 170, 7, 0, 1), (20, .bipush 17, 0, 0, 0), (22, .if_icmp .eq 7, 29, 0, 0), (25, .iconst 1, 0, 0, 0), (26, .goto 4, 30, 0, 0), (29, .iconst 0, 0, 0, 0), (30, .ireturn, 0, 0, 0)]
def tI152 : ab_T := [(30, tB152_0)]
set_option maxRecDepth 100000 in
theorem tC152 : ab_ck (ab_lkB ab_mt ab_kb lL12 mM152) mM152.2.1.data.toList 0 (ab_flat tI152) = true := by decide +kernel
set_option maxRecDepth 100000 in
theorem tS152 : ab_swB mM152.2.1 (ab_flat tI152) = true := by decide +kernel
theorem tO152 : ab_MOK 152 tI152 := ab_allOK (M := mM152) rfl lL12_ok tC152 tS152
def tB153_0 : List (Nat × ab_I) := [(0, .aload_n 0, 0, 0, 0), (1, .iload_n 1, 0, 0, 0), (2, .invokevirtual 175, 145, 1, 0), (5, .ifCond .ne 5, 10, 0, 0), (8, .iconst (-1), 0, 0, 0), (9, .ireturn, 0, 0, 0), (10, .aload_n 0, 0, 0, 0), (11, .getfield 18, 11, 1, 0), (14, .invokevirtual 90, 31, 0, 0), (17, .aload_n 0, 0, 0, 0), (18, .getfield 24, 11, 2, 0), (21, .iload_n 1, 0, 0, 0), (22, .aload_n 0, 0, 0, 0), (23, .getfield 18, 11, 1, 0), (26, .invokevirtual 225, 154, 2, 0), (29, .aload_n 0, 0, 0, 0), (30, .getfield 18, 11, 1, 0), (33, .getfield 76, 4, 2, 1), (36, .ireturn, 0, 0, 0)]
def tI153 : ab_T := [(36, tB153_0)]
set_option maxRecDepth 100000 in
theorem tC153 : ab_ck (ab_lkB ab_mt ab_kb lL12 mM153) mM153.2.1.data.toList 0 (ab_flat tI153) = true := by decide +kernel
set_option maxRecDepth 100000 in
theorem tS153 : ab_swB mM153.2.1 (ab_flat tI153) = true := by decide +kernel
theorem tO153 : ab_MOK 153 tI153 := ab_allOK (M := mM153) rfl lL12_ok tC153 tS153
def tB154_0 : List (Nat × ab_I) := [(0, .aload_n 0, 0, 0, 0), (1, .invokevirtual 102, 103, 0, 0), (4, .aload_n 0, 0, 0, 0), (5, .getfield 11, 10, 0, 0), (8, .iload_n 1, 0, 0, 0), (9, .aaload, 0, 0, 0), (10, .getfield 108, 7, 9, 1), (13, .istore_n 3, 0, 0, 0), (14, .aload_n 0, 0, 0, 0), (15, .getfield 11, 10, 0, 0), (18, .iload_n 1, 0, 0, 0), (19, .aaload, 0, 0, 0), (20, .getfield 105, 7, 8, 1), (23, .istore 4, 0, 0, 0), (25, .iload 4, 0, 0, 0), (27, .iload_n 3, 0, 0, 0), (28, .if_icmp .ge 89, 117, 0, 0), (31, .aload_n 0, 0, 0, 0), (32, .aload_n 0, 0, 0, 0), (33, .getfield 21, 10, 2, 0), (36, .iload 4, 0, 0, 0), (38, .iaload, 0, 0, 0), (39, .aload_n 2, 0, 0, 0), (40, .invokevirtual 153, 155, 2, 0)]
def tB154_1 : List (Nat × ab_I) := [(43, .aload_n 0, 0, 0, 0), (44, .getfield 21, 10, 2, 0), (47, .iload 4, 0, 0, 0), (49, .iaload, 0, 0, 0), (50, .istore 5, 0, 0, 0), (52, .iload 5, 0, 0, 0), (54, .iconst (-1), 0, 0, 0), (55, .if_icmp .eq 56, 111, 0, 0), (58, .aload_n 0, 0, 0, 0), (59, .getfield 11, 10, 0, 0), (62, .iload 5, 0, 0, 0), (64, .aaload, 0, 0, 0), (65, .getfield 108, 7, 9, 1), (68, .iload 4, 0, 0, 0), (70, .iconst 1, 0, 0, 0), (71, .iadd, 0, 0, 0), (72, .if_icmp .ne 39, 111, 0, 0), (75, .aload_n 0, 0, 0, 0), (76, .getfield 11, 10, 0, 0), (79, .iload 5, 0, 0, 0), (81, .aaload, 0, 0, 0), (82, .aload_n 2, 0, 0, 0), (83, .invokestatic 157, 157, 2, 0), (86, .iload 5, 0, 0, 0)]
def tB154_2 : List (Nat × ab_I) := [(88, .iload_n 1, 0, 0, 0), (89, .if_icmp .ne 7, 96, 0, 0), (92, .iconst (-1), 0, 0, 0), (93, .goto 13, 106, 0, 0), (96, .aload_n 0, 0, 0, 0), (97, .getfield 11, 10, 0, 0), (100, .iload 5, 0, 0, 0), (102, .aaload, 0, 0, 0), (103, .getfield 59, 7, 2, 1), (106, .istore 5, 0, 0, 0), (108, .goto (-56), 52, 0, 0), (111, .iinc 4 1, 0, 0, 0), (114, .goto (-89), 25, 0, 0), (117, .return_, 0, 0, 0)]
def tI154 : ab_T := [(40, tB154_0), (86, tB154_1), (117, tB154_2)]
set_option maxRecDepth 100000 in
theorem tC154 : ab_ck (ab_lkB ab_mt ab_kb lL11 mM154) mM154.2.1.data.toList 0 (ab_flat tI154) = true := by decide +kernel
set_option maxRecDepth 100000 in
theorem tS154 : ab_swB mM154.2.1 (ab_flat tI154) = true := by decide +kernel
theorem tO154 : ab_MOK 154 tI154 := ab_allOK (M := mM154) rfl lL11_ok tC154 tS154
def tB155_0 : List (Nat × ab_I) := [(0, .aload_n 0, 0, 0, 0), (1, .getfield 11, 10, 0, 0), (4, .iload_n 1, 0, 0, 0), (5, .aaload, 0, 0, 0), (6, .astore_n 3, 0, 0, 0), (7, .aload_n 3, 0, 0, 0), (8, .getfield 42, 7, 0, 1), (11, .bipush 17, 0, 0, 0), (13, .if_icmp .ne 59, 72, 0, 0), (16, .aload_n 3, 0, 0, 0), (17, .getfield 59, 7, 2, 1), (20, .iconst (-1), 0, 0, 0), (21, .if_icmp .eq 42, 63, 0, 0), (24, .aload_n 0, 0, 0, 0), (25, .getfield 11, 10, 0, 0), (28, .aload_n 3, 0, 0, 0), (29, .getfield 59, 7, 2, 1), (32, .aaload, 0, 0, 0), (33, .getfield 42, 7, 0, 1), (36, .bipush 15, 0, 0, 0), (38, .if_icmp .ne 25, 63, 0, 0), (41, .aload_n 2, 0, 0, 0), (42, .aload_n 3, 0, 0, 0), (43, .getfield 77, 7, 11, 1)]
def tB155_1 : List (Nat × ab_I) := [(46, .getfield 161, 4, 1, 1), (49, .iconst 0, 0, 0, 0), (50, .aload_n 3, 0, 0, 0), (51, .getfield 77, 7, 11, 1), (54, .getfield 165, 4, 2, 1), (57, .invokevirtual 123, 39, 3, 0), (60, .goto 11, 71, 0, 0), (63, .aload_n 3, 0, 0, 0), (64, .getfield 77, 7, 11, 1), (67, .aload_n 2, 0, 0, 0), (68, .invokestatic 166, 156, 2, 0), (71, .return_, 0, 0, 0), (72, .aload_n 2, 0, 0, 0), (73, .bipush 60, 0, 0, 0), (75, .invokevirtual 170, 8, 1, 0), (78, .aload_n 2, 0, 0, 0), (79, .aload_n 3, 0, 0, 0), (80, .getfield 55, 7, 1, 1), (83, .invokevirtual 174, 65, 1, 0), (86, .iconst 0, 0, 0, 0), (87, .istore 4, 0, 0, 0), (89, .iload 4, 0, 0, 0), (91, .aload_n 3, 0, 0, 0), (92, .getfield 74, 7, 12, 1)]
def tB155_2 : List (Nat × ab_I) := [(95, .if_icmp .ge 49, 144, 0, 0), (98, .aload_n 2, 0, 0, 0), (99, .bipush 32, 0, 0, 0), (101, .invokevirtual 170, 8, 1, 0), (104, .aload_n 2, 0, 0, 0), (105, .aload_n 3, 0, 0, 0), (106, .getfield 178, 7, 13, 1), (109, .iload 4, 0, 0, 0), (111, .laload, 0, 0, 0), (112, .invokevirtual 174, 65, 1, 0), (115, .aload_n 2, 0, 0, 0), (116, .ldc 181, 1000036, 0, 1), (118, .invokevirtual 183, 7, 1, 0), (121, .aload_n 3, 0, 0, 0), (122, .getfield 187, 7, 14, 1), (125, .iload 4, 0, 0, 0), (127, .aaload, 0, 0, 0), (128, .aload_n 2, 0, 0, 0), (129, .invokestatic 166, 156, 2, 0), (132, .aload_n 2, 0, 0, 0), (133, .bipush 34, 0, 0, 0), (135, .invokevirtual 170, 8, 1, 0), (138, .iinc 4 1, 0, 0, 0), (141, .goto (-52), 89, 0, 0)]
def tB155_3 : List (Nat × ab_I) := [(144, .aload_n 2, 0, 0, 0), (145, .bipush 62, 0, 0, 0), (147, .invokevirtual 170, 8, 1, 0), (150, .return_, 0, 0, 0)]
def tI155 : ab_T := [(43, tB155_0), (92, tB155_1), (141, tB155_2), (150, tB155_3)]
set_option maxRecDepth 100000 in
theorem tC155 : ab_ck (ab_lkB ab_mt ab_kb lL11 mM155) mM155.2.1.data.toList 0 (ab_flat tI155) = true := by decide +kernel
set_option maxRecDepth 100000 in
theorem tS155 : ab_swB mM155.2.1 (ab_flat tI155) = true := by decide +kernel
theorem tO155 : ab_MOK 155 tI155 := ab_allOK (M := mM155) rfl lL11_ok tC155 tS155
def tB156_0 : List (Nat × ab_I) := [(0, .iconst 0, 0, 0, 0), (1, .istore_n 2, 0, 0, 0), (2, .iload_n 2, 0, 0, 0), (3, .aload_n 0, 0, 0, 0), (4, .getfield 165, 4, 2, 1), (7, .if_icmp .ge 105, 112, 0, 0), (10, .aload_n 0, 0, 0, 0), (11, .getfield 161, 4, 1, 1), (14, .iload_n 2, 0, 0, 0), (15, .baload, 0, 0, 0), (16, .lookupswitch 80 #[(34, 71), (38, 62), (60, 44), (62, 53)], 0, 0, 0), (60, .aload_n 1, 0, 0, 0), (61, .ldc 193, 1000032, 0, 1), (63, .invokevirtual 183, 7, 1, 0), (66, .goto 40, 106, 0, 0), (69, .aload_n 1, 0, 0, 0), (70, .ldc 195, 1000033, 0, 1), (72, .invokevirtual 183, 7, 1, 0), (75, .goto 31, 106, 0, 0), (78, .aload_n 1, 0, 0, 0), (79, .ldc 197, 1000034, 0, 1), (81, .invokevirtual 183, 7, 1, 0), (84, .goto 22, 106, 0, 0), (87, .aload_n 1, 0, 0, 0)]
def tB156_1 : List (Nat × ab_I) := [(88, .ldc 199, 1000035, 0, 1), (90, .invokevirtual 183, 7, 1, 0), (93, .goto 13, 106, 0, 0), (96, .aload_n 1, 0, 0, 0), (97, .aload_n 0, 0, 0, 0), (98, .getfield 161, 4, 1, 1), (101, .iload_n 2, 0, 0, 0), (102, .baload, 0, 0, 0), (103, .invokevirtual 170, 8, 1, 0), (106, .iinc 2 1, 0, 0, 0), (109, .goto (-107), 2, 0, 0), (112, .return_, 0, 0, 0)]
def tI156 : ab_T := [(87, tB156_0), (112, tB156_1)]
set_option maxRecDepth 100000 in
theorem tC156 : ab_ck (ab_lkB ab_mt ab_kb lL11 mM156) mM156.2.1.data.toList 0 (ab_flat tI156) = true := by decide +kernel
set_option maxRecDepth 100000 in
theorem tS156 : ab_swB mM156.2.1 (ab_flat tI156) = true := by decide +kernel
theorem tO156 : ab_MOK 156 tI156 := ab_allOK (M := mM156) rfl lL11_ok tC156 tS156
def tB157_0 : List (Nat × ab_I) := [(0, .aload_n 0, 0, 0, 0), (1, .getfield 42, 7, 0, 1), (4, .bipush 17, 0, 0, 0), (6, .if_icmp .eq 30, 36, 0, 0), (9, .aload_n 0, 0, 0, 0), (10, .invokevirtual 115, 98, 0, 0), (13, .ifCond .ne 23, 36, 0, 0), (16, .aload_n 1, 0, 0, 0), (17, .ldc 191, 1000037, 0, 1), (19, .invokevirtual 183, 7, 1, 0), (22, .aload_n 1, 0, 0, 0), (23, .aload_n 0, 0, 0, 0), (24, .getfield 55, 7, 1, 1), (27, .invokevirtual 174, 65, 1, 0), (30, .aload_n 1, 0, 0, 0), (31, .bipush 62, 0, 0, 0), (33, .invokevirtual 170, 8, 1, 0), (36, .return_, 0, 0, 0)]
def tI157 : ab_T := [(36, tB157_0)]
set_option maxRecDepth 100000 in
theorem tC157 : ab_ck (ab_lkB ab_mt ab_kb lL11 mM157) mM157.2.1.data.toList 0 (ab_flat tI157) = true := by decide +kernel
set_option maxRecDepth 100000 in
theorem tS157 : ab_swB mM157.2.1 (ab_flat tI157) = true := by decide +kernel
theorem tO157 : ab_MOK 157 tI157 := ab_allOK (M := mM157) rfl lL11_ok tC157 tS157
def tB158_0 : List (Nat × ab_I) := [(0, .iload_n 1, 0, 0, 0), (1, .ifCond .lt 19, 20, 0, 0), (4, .iload_n 1, 0, 0, 0), (5, .aload_n 0, 0, 0, 0), (6, .getfield 40, 11, 4, 0), (9, .getfield 229, 8, 3, 1), (12, .bipush 40, 0, 0, 0), (14, .invokestatic 232, 0, 0, 3), (17, .if_icmp .lt 5, 22, 0, 0), (20, .iconst (-1), 0, 0, 0), (21, .ireturn, 0, 0, 0), (22, .iload_n 2, 0, 0, 0), (23, .ifCond .ne 13, 36, 0, 0), (26, .aload_n 0, 0, 0, 0), (27, .getfield 40, 11, 4, 0), (30, .getfield 237, 8, 1, 1), (33, .iload_n 1, 0, 0, 0), (34, .iaload, 0, 0, 0), (35, .ireturn, 0, 0, 0), (36, .iload_n 2, 0, 0, 0), (37, .iconst 1, 0, 0, 0), (38, .if_icmp .ne 15, 53, 0, 0), (41, .aload_n 0, 0, 0, 0), (42, .getfield 40, 11, 4, 0)]
def tB158_1 : List (Nat × ab_I) := [(45, .getfield 240, 8, 2, 1), (48, .iload_n 1, 0, 0, 0), (49, .iaload, 0, 0, 0), (50, .goto 4, 54, 0, 0), (53, .iconst (-1), 0, 0, 0), (54, .ireturn, 0, 0, 0)]
def tI158 : ab_T := [(42, tB158_0), (54, tB158_1)]
set_option maxRecDepth 100000 in
theorem tC158 : ab_ck (ab_lkB ab_mt ab_kb lL12 mM158) mM158.2.1.data.toList 0 (ab_flat tI158) = true := by decide +kernel
set_option maxRecDepth 100000 in
theorem tS158 : ab_swB mM158.2.1 (ab_flat tI158) = true := by decide +kernel
theorem tO158 : ab_MOK 158 tI158 := ab_allOK (M := mM158) rfl lL12_ok tC158 tS158
def tB159_0 : List (Nat × ab_I) := [(0, .aload_n 0, 0, 0, 0), (1, .invokevirtual 101, 37, 0, 0), (4, .istore_n 1, 0, 0, 0), (5, .iload_n 1, 0, 0, 0), (6, .ifCond .ne 45, 51, 0, 0), (9, .aload_n 0, 0, 0, 0), (10, .getfield 47, 11, 5, 0), (13, .aload_n 0, 0, 0, 0), (14, .getfield 14, 11, 0, 0), (17, .getfield 86, 4, 1, 1), (20, .iconst 0, 0, 0, 0), (21, .aload_n 0, 0, 0, 0), (22, .getfield 14, 11, 0, 0), (25, .getfield 76, 4, 2, 1), (28, .bipush 40, 0, 0, 0), (30, .invokevirtual 243, 160, 4, 0), (33, .istore_n 2, 0, 0, 0), (34, .iload_n 2, 0, 0, 0), (35, .ifCond .lt 11, 46, 0, 0), (38, .sipush (-1000), 0, 0, 0), (41, .iload_n 2, 0, 0, 0), (42, .isub, 0, 0, 0), (43, .goto 7, 50, 0, 0), (46, .aload_n 0, 0, 0, 0)]
def tB159_1 : List (Nat × ab_I) := [(47, .invokevirtual 247, 163, 0, 0), (50, .istore_n 1, 0, 0, 0), (51, .aload_n 0, 0, 0, 0), (52, .getfield 14, 11, 0, 0), (55, .invokevirtual 90, 31, 0, 0), (58, .iload_n 1, 0, 0, 0), (59, .ireturn, 0, 0, 0)]
def tI159 : ab_T := [(46, tB159_0), (59, tB159_1)]
set_option maxRecDepth 100000 in
theorem tC159 : ab_ck (ab_lkB ab_mt ab_kb lL12 mM159) mM159.2.1.data.toList 0 (ab_flat tI159) = true := by decide +kernel
set_option maxRecDepth 100000 in
theorem tS159 : ab_swB mM159.2.1 (ab_flat tI159) = true := by decide +kernel
theorem tO159 : ab_MOK 159 tI159 := ab_allOK (M := mM159) rfl lL12_ok tC159 tS159
def tB160_0 : List (Nat × ab_I) := [(0, .aload_n 0, 0, 0, 0), (1, .getfield 11, 9, 1, 0), (4, .iload 4, 0, 0, 0), (6, .iconst 0, 0, 0, 0), (7, .iastore, 0, 0, 0), (8, .aload_n 0, 0, 0, 0), (9, .getfield 15, 9, 2, 0), (12, .iload 4, 0, 0, 0), (14, .iconst 0, 0, 0, 0), (15, .iastore, 0, 0, 0), (16, .iload_n 2, 0, 0, 0), (17, .istore 5, 0, 0, 0), (19, .iconst 0, 0, 0, 0), (20, .istore 6, 0, 0, 0), (22, .iload 6, 0, 0, 0), (24, .iconst 3, 0, 0, 0), (25, .if_icmp .ge 67, 92, 0, 0), (28, .aload_n 0, 0, 0, 0), (29, .aload_n 1, 0, 0, 0), (30, .iload 5, 0, 0, 0), (32, .iload_n 3, 0, 0, 0), (33, .iload 4, 0, 0, 0), (35, .invokevirtual 185, 161, 4, 0), (38, .istore 7, 0, 0, 0)]
def tB160_1 : List (Nat × ab_I) := [(40, .iload 7, 0, 0, 0), (42, .ifCond .ge 8, 50, 0, 0), (45, .iconst (-1), 0, 0, 0), (46, .iload 7, 0, 0, 0), (48, .isub, 0, 0, 0), (49, .ireturn, 0, 0, 0), (50, .iload 7, 0, 0, 0), (52, .iload_n 3, 0, 0, 0), (53, .if_icmp .ne 5, 58, 0, 0), (56, .iconst (-1), 0, 0, 0), (57, .ireturn, 0, 0, 0), (58, .aload_n 1, 0, 0, 0), (59, .iload 7, 0, 0, 0), (61, .baload, 0, 0, 0), (62, .invokestatic 117, 43, 1, 0), (65, .ifCond .eq 9, 74, 0, 0), (68, .iload 6, 0, 0, 0), (70, .iconst 2, 0, 0, 0), (71, .if_icmp .ne 6, 77, 0, 0), (74, .iload 7, 0, 0, 0), (76, .ireturn, 0, 0, 0), (77, .aload_n 1, 0, 0, 0), (78, .iload 7, 0, 0, 0), (80, .iload_n 3, 0, 0, 0)]
def tB160_2 : List (Nat × ab_I) := [(81, .invokestatic 137, 162, 3, 0), (84, .istore 5, 0, 0, 0), (86, .iinc 6 1, 0, 0, 0), (89, .goto (-67), 22, 0, 0), (92, .iload 5, 0, 0, 0), (94, .ireturn, 0, 0, 0)]
def tI160 : ab_T := [(38, tB160_0), (80, tB160_1), (94, tB160_2)]
set_option maxRecDepth 100000 in
theorem tC160 : ab_ck (ab_lkB ab_mt ab_kb lL10 mM160) mM160.2.1.data.toList 0 (ab_flat tI160) = true := by decide +kernel
set_option maxRecDepth 100000 in
theorem tS160 : ab_swB mM160.2.1 (ab_flat tI160) = true := by decide +kernel
theorem tO160 : ab_MOK 160 tI160 := ab_allOK (M := mM160) rfl lL10_ok tC160 tS160
