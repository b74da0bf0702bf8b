/-! instructions, group 1 -/
def tB43_0 : List (Nat × ab_I) := [(0, .iload_n 0, 0, 0, 0), (1, .bipush 10, 0, 0, 0), (3, .if_icmp .eq 9, 12, 0, 0), (6, .iload_n 0, 0, 0, 0), (7, .bipush 32, 0, 0, 0), (9, .if_icmp .ne 7, 16, 0, 0), (12, .iconst 1, 0, 0, 0), (13, .goto 4, 17, 0, 0), (16, .iconst 0, 0, 0, 0), (17, .ireturn, 0, 0, 0)]
def tI43 : ab_T := [(17, tB43_0)]
set_option maxRecDepth 100000 in
theorem tC43 : ab_ck (ab_lkB ab_mt ab_kb lL5 mM43) mM43.2.1.data.toList 0 (ab_flat tI43) = true := by decide +kernel
set_option maxRecDepth 100000 in
theorem tS43 : ab_swB mM43.2.1 (ab_flat tI43) = true := by decide +kernel
theorem tO43 : ab_MOK 43 tI43 := ab_allOK (M := mM43) rfl lL5_ok tC43 tS43
def tB44_0 : List (Nat × ab_I) := [(0, .aload_n 0, 0, 0, 0), (1, .getfield 13, 1, 5, 0), (4, .aload_n 0, 0, 0, 0), (5, .getfield 33, 1, 4, 0), (8, .if_icmp .le 7, 15, 0, 0), (11, .iconst 1, 0, 0, 0), (12, .goto 4, 16, 0, 0), (15, .iconst 0, 0, 0, 0), (16, .ireturn, 0, 0, 0)]
def tI44 : ab_T := [(16, tB44_0)]
set_option maxRecDepth 100000 in
theorem tC44 : ab_ck (ab_lkB ab_mt ab_kb lL2 mM44) mM44.2.1.data.toList 0 (ab_flat tI44) = true := by decide +kernel
set_option maxRecDepth 100000 in
theorem tS44 : ab_swB mM44.2.1 (ab_flat tI44) = true := by decide +kernel
theorem tO44 : ab_MOK 44 tI44 := ab_allOK (M := mM44) rfl lL2_ok tC44 tS44
def tB45_0 : List (Nat × ab_I) := [(0, .ldc 26, 1000006, 0, 1), (2, .aload_n 1, 0, 0, 0), (3, .iload_n 2, 0, 0, 0), (4, .iload_n 3, 0, 0, 0), (5, .invokestatic 28, 11, 4, 0), (8, .ifCond .eq 37, 45, 0, 0), (11, .aload_n 0, 0, 0, 0), (12, .getfield 18, 2, 1, 0), (15, .iconst (-1), 0, 0, 0), (16, .if_icmp .ne 29, 45, 0, 0), (19, .aload_n 0, 0, 0, 0), (20, .aload_n 1, 0, 0, 0), (21, .iload_n 2, 0, 0, 0), (22, .iconst 4, 0, 0, 0), (23, .iadd, 0, 0, 0), (24, .iload_n 3, 0, 0, 0), (25, .invokestatic 34, 46, 3, 0), (28, .putfield 18, 2, 1, 0), (31, .aload_n 0, 0, 0, 0), (32, .getfield 18, 2, 1, 0), (35, .iconst (-1), 0, 0, 0), (36, .if_icmp .eq 7, 43, 0, 0), (39, .iconst 1, 0, 0, 0), (40, .goto 4, 44, 0, 0)]
def tB45_1 : List (Nat × ab_I) := [(43, .iconst 0, 0, 0, 0), (44, .ireturn, 0, 0, 0), (45, .ldc 38, 1000007, 0, 1), (47, .aload_n 1, 0, 0, 0), (48, .iload_n 2, 0, 0, 0), (49, .iload_n 3, 0, 0, 0), (50, .invokestatic 28, 11, 4, 0), (53, .ifCond .eq 23, 76, 0, 0), (56, .aload_n 0, 0, 0, 0), (57, .getfield 40, 2, 2, 0), (60, .lconst 0, 0, 0, 0), (61, .lcmp, 0, 0, 0), (62, .ifCond .ne 14, 76, 0, 0), (65, .aload_n 0, 0, 0, 0), (66, .aload_n 1, 0, 0, 0), (67, .iload_n 2, 0, 0, 0), (68, .bipush 7, 0, 0, 0), (70, .iadd, 0, 0, 0), (71, .iload_n 3, 0, 0, 0), (72, .invokevirtual 44, 48, 3, 0), (75, .ireturn, 0, 0, 0), (76, .ldc 48, 1000008, 0, 1), (78, .aload_n 1, 0, 0, 0), (79, .iload_n 2, 0, 0, 0)]
def tB45_2 : List (Nat × ab_I) := [(80, .iload_n 3, 0, 0, 0), (81, .invokestatic 28, 11, 4, 0), (84, .ifCond .eq 38, 122, 0, 0), (87, .aload_n 0, 0, 0, 0), (88, .getfield 50, 2, 4, 0), (91, .ifnonnull 31, 122, 0, 0), (94, .aload_n 0, 0, 0, 0), (95, .new 9, 1, 0, 0), (98, .dup, 0, 0, 0), (99, .invokespecial 11, 6, 0, 1), (102, .putfield 50, 2, 4, 0), (105, .aload_n 0, 0, 0, 0), (106, .getfield 50, 2, 4, 0), (109, .aload_n 1, 0, 0, 0), (110, .iload_n 2, 0, 0, 0), (111, .iconst 3, 0, 0, 0), (112, .iadd, 0, 0, 0), (113, .iload_n 3, 0, 0, 0), (114, .aload_n 0, 0, 0, 0), (115, .getfield 12, 2, 0, 0), (118, .invokevirtual 53, 10, 4, 0), (121, .ireturn, 0, 0, 0), (122, .ldc 57, 1000009, 0, 1), (124, .aload_n 1, 0, 0, 0)]
def tB45_3 : List (Nat × ab_I) := [(125, .iload_n 2, 0, 0, 0), (126, .iload_n 3, 0, 0, 0), (127, .invokestatic 28, 11, 4, 0), (130, .ifCond .eq 24, 154, 0, 0), (133, .iload_n 3, 0, 0, 0), (134, .iload_n 2, 0, 0, 0), (135, .isub, 0, 0, 0), (136, .iconst 4, 0, 0, 0), (137, .if_icmp .ne 17, 154, 0, 0), (140, .aload_n 0, 0, 0, 0), (141, .getfield 59, 2, 5, 0), (144, .ifCond .ne 10, 154, 0, 0), (147, .aload_n 0, 0, 0, 0), (148, .iconst 1, 0, 0, 0), (149, .putfield 59, 2, 5, 0), (152, .iconst 1, 0, 0, 0), (153, .ireturn, 0, 0, 0), (154, .iconst 0, 0, 0, 0), (155, .ireturn, 0, 0, 0)]
def tI45 : ab_T := [(40, tB45_0), (79, tB45_1), (124, tB45_2), (155, tB45_3)]
set_option maxRecDepth 100000 in
theorem tC45 : ab_ck (ab_lkB ab_mt ab_kb lL3 mM45) mM45.2.1.data.toList 0 (ab_flat tI45) = true := by decide +kernel
set_option maxRecDepth 100000 in
theorem tS45 : ab_swB mM45.2.1 (ab_flat tI45) = true := by decide +kernel
theorem tO45 : ab_MOK 45 tI45 := ab_allOK (M := mM45) rfl lL3_ok tC45 tS45
def tB46_0 : List (Nat × ab_I) := [(0, .iload_n 2, 0, 0, 0), (1, .iload_n 1, 0, 0, 0), (2, .isub, 0, 0, 0), (3, .iconst 1, 0, 0, 0), (4, .if_icmp .lt 10, 14, 0, 0), (7, .iload_n 2, 0, 0, 0), (8, .iload_n 1, 0, 0, 0), (9, .isub, 0, 0, 0), (10, .iconst 4, 0, 0, 0), (11, .if_icmp .le 5, 16, 0, 0), (14, .iconst (-1), 0, 0, 0), (15, .ireturn, 0, 0, 0), (16, .iconst 0, 0, 0, 0), (17, .istore_n 3, 0, 0, 0), (18, .iload_n 1, 0, 0, 0), (19, .istore 4, 0, 0, 0), (21, .iload 4, 0, 0, 0), (23, .iload_n 2, 0, 0, 0), (24, .if_icmp .ge 34, 58, 0, 0), (27, .aload_n 0, 0, 0, 0), (28, .iload 4, 0, 0, 0), (30, .baload, 0, 0, 0), (31, .invokestatic 69, 47, 1, 0), (34, .ifCond .ne 5, 39, 0, 0)]
def tB46_1 : List (Nat × ab_I) := [(37, .iconst (-1), 0, 0, 0), (38, .ireturn, 0, 0, 0), (39, .iload_n 3, 0, 0, 0), (40, .bipush 10, 0, 0, 0), (42, .imul, 0, 0, 0), (43, .aload_n 0, 0, 0, 0), (44, .iload 4, 0, 0, 0), (46, .baload, 0, 0, 0), (47, .iadd, 0, 0, 0), (48, .bipush 48, 0, 0, 0), (50, .isub, 0, 0, 0), (51, .istore_n 3, 0, 0, 0), (52, .iinc 4 1, 0, 0, 0), (55, .goto (-34), 21, 0, 0), (58, .iload_n 3, 0, 0, 0), (59, .ireturn, 0, 0, 0)]
def tI46 : ab_T := [(34, tB46_0), (59, tB46_1)]
set_option maxRecDepth 100000 in
theorem tC46 : ab_ck (ab_lkB ab_mt ab_kb lL5 mM46) mM46.2.1.data.toList 0 (ab_flat tI46) = true := by decide +kernel
set_option maxRecDepth 100000 in
theorem tS46 : ab_swB mM46.2.1 (ab_flat tI46) = true := by decide +kernel
theorem tO46 : ab_MOK 46 tI46 := ab_allOK (M := mM46) rfl lL5_ok tC46 tS46
def tB47_0 : List (Nat × ab_I) := [(0, .iload_n 0, 0, 0, 0), (1, .bipush 48, 0, 0, 0), (3, .if_icmp .lt 13, 16, 0, 0), (6, .iload_n 0, 0, 0, 0), (7, .bipush 57, 0, 0, 0), (9, .if_icmp .gt 7, 16, 0, 0), (12, .iconst 1, 0, 0, 0), (13, .goto 4, 17, 0, 0), (16, .iconst 0, 0, 0, 0), (17, .ireturn, 0, 0, 0)]
def tI47 : ab_T := [(17, tB47_0)]
set_option maxRecDepth 100000 in
theorem tC47 : ab_ck (ab_lkB ab_mt ab_kb lL5 mM47) mM47.2.1.data.toList 0 (ab_flat tI47) = true := by decide +kernel
set_option maxRecDepth 100000 in
theorem tS47 : ab_swB mM47.2.1 (ab_flat tI47) = true := by decide +kernel
theorem tO47 : ab_MOK 47 tI47 := ab_allOK (M := mM47) rfl lL5_ok tC47 tS47
def tB48_0 : List (Nat × ab_I) := [(0, .aload_n 1, 0, 0, 0), (1, .iload_n 2, 0, 0, 0), (2, .iload_n 3, 0, 0, 0), (3, .invokestatic 62, 13, 3, 0), (6, .istore 4, 0, 0, 0), (8, .iload 4, 0, 0, 0), (10, .iload_n 2, 0, 0, 0), (11, .if_icmp .eq 30, 41, 0, 0), (14, .iload 4, 0, 0, 0), (16, .iload_n 3, 0, 0, 0), (17, .if_icmp .eq 24, 41, 0, 0), (20, .aload_n 1, 0, 0, 0), (21, .iload 4, 0, 0, 0), (23, .baload, 0, 0, 0), (24, .bipush 58, 0, 0, 0), (26, .if_icmp .ne 15, 41, 0, 0), (29, .aload_n 1, 0, 0, 0), (30, .iload 4, 0, 0, 0), (32, .iconst 1, 0, 0, 0), (33, .iadd, 0, 0, 0), (34, .iload_n 3, 0, 0, 0), (35, .invokestatic 65, 12, 3, 0), (38, .ifCond .ne 5, 43, 0, 0), (41, .iconst 0, 0, 0, 0)]
def tB48_1 : List (Nat × ab_I) := [(42, .ireturn, 0, 0, 0), (43, .aload_n 0, 0, 0, 0), (44, .aload_n 1, 0, 0, 0), (45, .iload_n 2, 0, 0, 0), (46, .iload 4, 0, 0, 0), (48, .invokestatic 68, 15, 3, 0), (51, .putfield 40, 2, 2, 0), (54, .aload_n 0, 0, 0, 0), (55, .aload_n 1, 0, 0, 0), (56, .iload 4, 0, 0, 0), (58, .iconst 1, 0, 0, 0), (59, .iadd, 0, 0, 0), (60, .iload_n 3, 0, 0, 0), (61, .invokestatic 68, 15, 3, 0), (64, .putfield 72, 2, 3, 0), (67, .iconst 1, 0, 0, 0), (68, .ireturn, 0, 0, 0)]
def tI48 : ab_T := [(41, tB48_0), (68, tB48_1)]
set_option maxRecDepth 100000 in
theorem tC48 : ab_ck (ab_lkB ab_mt ab_kb lL3 mM48) mM48.2.1.data.toList 0 (ab_flat tI48) = true := by decide +kernel
set_option maxRecDepth 100000 in
theorem tS48 : ab_swB mM48.2.1 (ab_flat tI48) = true := by decide +kernel
theorem tO48 : ab_MOK 48 tI48 := ab_allOK (M := mM48) rfl lL3_ok tC48 tS48
def tB49_0 : List (Nat × ab_I) := [(0, .iload_n 1, 0, 0, 0), (1, .ifCond .ne 9, 10, 0, 0), (4, .iload_n 2, 0, 0, 0), (5, .aload_n 0, 0, 0, 0), (6, .arraylength, 0, 0, 0), (7, .if_icmp .eq 10, 17, 0, 0), (10, .aload_n 0, 0, 0, 0), (11, .iload_n 1, 0, 0, 0), (12, .iload_n 2, 0, 0, 0), (13, .invokestatic 339, 50, 3, 0), (16, .areturn, 0, 0, 0), (17, .aload_n 0, 0, 0, 0), (24, .areturn, 0, 0, 0)]
def tI49 : ab_T := [(24, tB49_0)]
set_option maxRecDepth 100000 in
theorem tC49 : ab_ck (ab_lkB ab_mt ab_kb lL14 mM49) mM49.2.1.data.toList 0 (ab_flat tI49) = true := by decide +kernel
set_option maxRecDepth 100000 in
theorem tS49 : ab_swB mM49.2.1 (ab_flat tI49) = true := by decide +kernel
theorem tO49 : ab_MOK 49 tI49 := ab_allOK (M := mM49) rfl lL14_ok tC49 tS49
def tB50_0 : List (Nat × ab_I) := [(0, .iload_n 1, 0, 0, 0), (1, .iload_n 2, 0, 0, 0), (2, .invokestatic 343, 51, 2, 0), (5, .iload_n 2, 0, 0, 0), (6, .iload_n 1, 0, 0, 0), (7, .isub, 0, 0, 0), (8, .istore_n 3, 0, 0, 0), (9, .iload_n 3, 0, 0, 0), (10, .newarray .byte, 0, 0, 0), (12, .astore 4, 0, 0, 0), (14, .aload_n 0, 0, 0, 0), (15, .iload_n 1, 0, 0, 0), (16, .aload 4, 0, 0, 0), (18, .iconst 0, 0, 0, 0), (19, .aload_n 0, 0, 0, 0), (20, .arraylength, 0, 0, 0), (21, .iload_n 1, 0, 0, 0), (22, .isub, 0, 0, 0), (23, .iload_n 3, 0, 0, 0), (24, .invokestatic 304, 0, 0, 3), (27, .invokestatic 150, 0, 0, 4), (30, .aload 4, 0, 0, 0), (32, .areturn, 0, 0, 0)]
def tI50 : ab_T := [(32, tB50_0)]
set_option maxRecDepth 100000 in
theorem tC50 : ab_ck (ab_lkB ab_mt ab_kb lL14 mM50) mM50.2.1.data.toList 0 (ab_flat tI50) = true := by decide +kernel
set_option maxRecDepth 100000 in
theorem tS50 : ab_swB mM50.2.1 (ab_flat tI50) = true := by decide +kernel
theorem tO50 : ab_MOK 50 tI50 := ab_allOK (M := mM50) rfl lL14_ok tC50 tS50
def tB51_0 : List (Nat × ab_I) := [(0, .iload_n 1, 0, 0, 0), (1, .iload_n 0, 0, 0, 0), (2, .if_icmp .ge 35, 37, 0, 0), (8, .dup, 0, 0, 0), (12, .dup, 0, 0, 0), (16, .iload_n 0, 0, 0, 0), (26, .iload_n 1, 0, 0, 0), (37, .return_, 0, 0, 0)]
def tI51 : ab_T := [(37, tB51_0)]
set_option maxRecDepth 100000 in
theorem tC51 : ab_ck (ab_lkB ab_mt ab_kb lL14 mM51) mM51.2.1.data.toList 0 (ab_flat tI51) = true := by decide +kernel
set_option maxRecDepth 100000 in
theorem tS51 : ab_swB mM51.2.1 (ab_flat tI51) = true := by decide +kernel
theorem tO51 : ab_MOK 51 tI51 := ab_allOK (M := mM51) rfl lL14_ok tC51 tS51
def tB52_0 : List (Nat × ab_I) := [(0, .iconst 0, 0, 0, 0), (1, .istore_n 2, 0, 0, 0), (2, .iload_n 2, 0, 0, 0), (3, .aload_n 0, 0, 0, 0), (4, .getfield 127, 6, 2, 0), (7, .if_icmp .ge 28, 35, 0, 0), (10, .aload_n 0, 0, 0, 0), (11, .getfield 18, 6, 1, 0), (14, .iload_n 2, 0, 0, 0), (15, .aaload, 0, 0, 0), (16, .getfield 99, 2, 0, 1), (19, .aload_n 1, 0, 0, 0), (20, .getfield 99, 2, 0, 1), (23, .invokevirtual 130, 53, 1, 0), (26, .ifCond .ne 9, 35, 0, 0), (29, .iinc 2 1, 0, 0, 0), (32, .goto (-30), 2, 0, 0), (35, .iload_n 2, 0, 0, 0), (36, .bipush 12, 0, 0, 0), (38, .if_icmp .ne 5, 43, 0, 0), (41, .iconst (-1), 0, 0, 0), (42, .ireturn, 0, 0, 0), (43, .aload_n 0, 0, 0, 0), (44, .getfield 18, 6, 1, 0)]
def tB52_1 : List (Nat × ab_I) := [(47, .iload_n 2, 0, 0, 0), (48, .aload_n 1, 0, 0, 0), (49, .aastore, 0, 0, 0), (50, .aload_n 0, 0, 0, 0), (51, .aload_n 0, 0, 0, 0), (52, .getfield 127, 6, 2, 0), (55, .iload_n 2, 0, 0, 0), (56, .iconst 1, 0, 0, 0), (57, .iadd, 0, 0, 0), (58, .invokestatic 134, 0, 0, 2), (61, .putfield 127, 6, 2, 0), (64, .aload_n 0, 0, 0, 0), (65, .getfield 127, 6, 2, 0), (68, .ireturn, 0, 0, 0)]
def tI52 : ab_T := [(44, tB52_0), (68, tB52_1)]
set_option maxRecDepth 100000 in
theorem tC52 : ab_ck (ab_lkB ab_mt ab_kb lL7 mM52) mM52.2.1.data.toList 0 (ab_flat tI52) = true := by decide +kernel
set_option maxRecDepth 100000 in
theorem tS52 : ab_swB mM52.2.1 (ab_flat tI52) = true := by decide +kernel
theorem tO52 : ab_MOK 52 tI52 := ab_allOK (M := mM52) rfl lL7_ok tC52 tS52
def tB53_0 : List (Nat × ab_I) := [(0, .aload_n 0, 0, 0, 0), (1, .getfield 33, 1, 4, 0), (4, .aload_n 1, 0, 0, 0), (5, .getfield 33, 1, 4, 0), (8, .if_icmp .eq 5, 13, 0, 0), (11, .iconst 0, 0, 0, 0), (12, .ireturn, 0, 0, 0), (13, .iconst 0, 0, 0, 0), (14, .istore_n 2, 0, 0, 0), (15, .iload_n 2, 0, 0, 0), (16, .aload_n 0, 0, 0, 0), (17, .getfield 33, 1, 4, 0), (20, .if_icmp .ge 26, 46, 0, 0), (23, .aload_n 0, 0, 0, 0), (24, .getfield 9, 1, 0, 0), (27, .iload_n 2, 0, 0, 0), (28, .baload, 0, 0, 0), (29, .aload_n 1, 0, 0, 0), (30, .getfield 9, 1, 0, 0), (33, .iload_n 2, 0, 0, 0), (34, .baload, 0, 0, 0), (35, .if_icmp .eq 5, 40, 0, 0), (38, .iconst 0, 0, 0, 0), (39, .ireturn, 0, 0, 0)]
def tB53_1 : List (Nat × ab_I) := [(40, .iinc 2 1, 0, 0, 0), (43, .goto (-28), 15, 0, 0), (46, .iconst 1, 0, 0, 0), (47, .ireturn, 0, 0, 0)]
def tI53 : ab_T := [(39, tB53_0), (47, tB53_1)]
set_option maxRecDepth 100000 in
theorem tC53 : ab_ck (ab_lkB ab_mt ab_kb lL2 mM53) mM53.2.1.data.toList 0 (ab_flat tI53) = true := by decide +kernel
set_option maxRecDepth 100000 in
theorem tS53 : ab_swB mM53.2.1 (ab_flat tI53) = true := by decide +kernel
theorem tO53 : ab_MOK 53 tI53 := ab_allOK (M := mM53) rfl lL2_ok tC53 tS53
def tB54_0 : List (Nat × ab_I) := [(0, .aload_n 0, 0, 0, 0), (1, .invokevirtual 101, 37, 0, 0), (4, .istore_n 1, 0, 0, 0), (5, .iload_n 1, 0, 0, 0), (6, .ifCond .ne 48, 54, 0, 0), (9, .aload_n 0, 0, 0, 0), (10, .getfield 65, 11, 7, 0), (13, .invokevirtual 124, 55, 0, 0), (16, .aload_n 0, 0, 0, 0), (17, .getfield 31, 11, 3, 0), (20, .aload_n 0, 0, 0, 0), (21, .getfield 14, 11, 0, 0), (24, .getfield 86, 4, 1, 1), (27, .iconst 0, 0, 0, 0), (28, .aload_n 0, 0, 0, 0), (29, .getfield 14, 11, 0, 0), (32, .getfield 76, 4, 2, 1), (35, .invokevirtual 127, 56, 3, 0), (38, .ifCond .eq 7, 45, 0, 0), (41, .iconst 1, 0, 0, 0), (42, .goto 4, 46, 0, 0), (45, .iconst (-1), 0, 0, 0), (46, .istore_n 1, 0, 0, 0), (47, .aload_n 0, 0, 0, 0)]
def tB54_1 : List (Nat × ab_I) := [(48, .getfield 65, 11, 7, 0), (51, .invokevirtual 131, 59, 0, 0), (54, .aload_n 0, 0, 0, 0), (55, .getfield 14, 11, 0, 0), (58, .invokevirtual 90, 31, 0, 0), (61, .iload_n 1, 0, 0, 0), (62, .ireturn, 0, 0, 0)]
def tI54 : ab_T := [(47, tB54_0), (62, tB54_1)]
set_option maxRecDepth 100000 in
theorem tC54 : ab_ck (ab_lkB ab_mt ab_kb lL12 mM54) mM54.2.1.data.toList 0 (ab_flat tI54) = true := by decide +kernel
set_option maxRecDepth 100000 in
theorem tS54 : ab_swB mM54.2.1 (ab_flat tI54) = true := by decide +kernel
theorem tO54 : ab_MOK 54 tI54 := ab_allOK (M := mM54) rfl lL12_ok tC54 tS54
def tB55_0 : List (Nat × ab_I) := [(0, .aload_n 0, 0, 0, 0), (1, .sipush 200, 0, 0, 0), (4, .putfield 58, 0, 9, 0), (7, .aload_n 0, 0, 0, 0), (8, .iconst 0, 0, 0, 0), (9, .putfield 61, 0, 18, 0), (12, .aload_n 0, 0, 0, 0), (13, .getfield 30, 0, 11, 0), (16, .invokevirtual 64, 31, 0, 0), (19, .aload_n 0, 0, 0, 0), (20, .iconst 0, 0, 0, 0), (21, .putfield 67, 0, 12, 0), (24, .aload_n 0, 0, 0, 0), (25, .iconst 0, 0, 0, 0), (26, .putfield 70, 0, 15, 0), (29, .aload_n 0, 0, 0, 0), (30, .iconst 0, 0, 0, 0), (31, .putfield 73, 0, 16, 0), (34, .return_, 0, 0, 0)]
def tI55 : ab_T := [(34, tB55_0)]
set_option maxRecDepth 100000 in
theorem tC55 : ab_ck (ab_lkB ab_mt ab_kb lL1 mM55) mM55.2.1.data.toList 0 (ab_flat tI55) = true := by decide +kernel
set_option maxRecDepth 100000 in
theorem tS55 : ab_swB mM55.2.1 (ab_flat tI55) = true := by decide +kernel
theorem tO55 : ab_MOK 55 tI55 := ab_allOK (M := mM55) rfl lL1_ok tC55 tS55
def tB56_0 : List (Nat × ab_I) := [(0, .aload_n 0, 0, 0, 0), (1, .getfield 51, 6, 14, 0), (4, .aload_n 1, 0, 0, 0), (5, .iload_n 2, 0, 0, 0), (6, .iload_n 3, 0, 0, 0), (7, .aload_n 0, 0, 0, 0), (8, .getfield 48, 6, 13, 0), (11, .invokevirtual 81, 10, 4, 0), (14, .ifCond .ne 5, 19, 0, 0), (17, .iconst 0, 0, 0, 0), (18, .ireturn, 0, 0, 0), (19, .aload_n 0, 0, 0, 0), (20, .invokevirtual 206, 57, 0, 0), (23, .iconst 1, 0, 0, 0), (24, .ireturn, 0, 0, 0)]
def tI56 : ab_T := [(24, tB56_0)]
set_option maxRecDepth 100000 in
theorem tC56 : ab_ck (ab_lkB ab_mt ab_kb lL7 mM56) mM56.2.1.data.toList 0 (ab_flat tI56) = true := by decide +kernel
set_option maxRecDepth 100000 in
theorem tS56 : ab_swB mM56.2.1 (ab_flat tI56) = true := by decide +kernel
theorem tO56 : ab_MOK 56 tI56 := ab_allOK (M := mM56) rfl lL7_ok tC56 tS56
def tB57_0 : List (Nat × ab_I) := [(0, .aload_n 0, 0, 0, 0), (1, .getfield 51, 6, 14, 0), (4, .invokevirtual 102, 44, 0, 0), (7, .ifCond .eq 35, 42, 0, 0), (10, .aload_n 0, 0, 0, 0), (11, .getfield 51, 6, 14, 0), (14, .aload_n 0, 0, 0, 0), (15, .getfield 48, 6, 13, 0), (18, .invokevirtual 130, 53, 1, 0), (21, .ifCond .eq 21, 42, 0, 0), (24, .aload_n 0, 0, 0, 0), (25, .getfield 48, 6, 13, 0), (28, .aload_n 0, 0, 0, 0), (29, .getfield 51, 6, 14, 0), (32, .invokevirtual 85, 22, 1, 0), (35, .aload_n 0, 0, 0, 0), (36, .invokevirtual 209, 58, 0, 0), (39, .goto 8, 47, 0, 0), (42, .aload_n 0, 0, 0, 0), (43, .iconst 1, 0, 0, 0), (44, .putfield 57, 6, 16, 0), (47, .return_, 0, 0, 0)]
def tI57 : ab_T := [(47, tB57_0)]
set_option maxRecDepth 100000 in
theorem tC57 : ab_ck (ab_lkB ab_mt ab_kb lL7 mM57) mM57.2.1.data.toList 0 (ab_flat tI57) = true := by decide +kernel
set_option maxRecDepth 100000 in
theorem tS57 : ab_swB mM57.2.1 (ab_flat tI57) = true := by decide +kernel
theorem tO57 : ab_MOK 57 tI57 := ab_allOK (M := mM57) rfl lL7_ok tC57 tS57
def tB58_0 : List (Nat × ab_I) := [(0, .aload_n 0, 0, 0, 0), (1, .getfield 212, 6, 19, 0), (4, .iconst 1, 0, 0, 0), (5, .iadd, 0, 0, 0), (6, .bipush 20, 0, 0, 0), (8, .if_icmp .ne 51, 59, 0, 0), (11, .aload_n 0, 0, 0, 0), (12, .getfield 61, 6, 17, 0), (15, .iconst 0, 0, 0, 0), (16, .aaload, 0, 0, 0), (17, .astore_n 1, 0, 0, 0), (18, .iconst 0, 0, 0, 0), (19, .istore_n 2, 0, 0, 0), (20, .iload_n 2, 0, 0, 0), (21, .iconst 1, 0, 0, 0), (22, .iadd, 0, 0, 0), (23, .bipush 20, 0, 0, 0), (25, .if_icmp .ge 23, 48, 0, 0), (28, .aload_n 0, 0, 0, 0), (29, .getfield 61, 6, 17, 0), (32, .iload_n 2, 0, 0, 0), (33, .aload_n 0, 0, 0, 0), (34, .getfield 61, 6, 17, 0), (37, .iload_n 2, 0, 0, 0)]
def tB58_1 : List (Nat × ab_I) := [(38, .iconst 1, 0, 0, 0), (39, .iadd, 0, 0, 0), (40, .aaload, 0, 0, 0), (41, .aastore, 0, 0, 0), (42, .iinc 2 1, 0, 0, 0), (45, .goto (-25), 20, 0, 0), (48, .aload_n 0, 0, 0, 0), (49, .getfield 61, 6, 17, 0), (52, .bipush 19, 0, 0, 0), (54, .aload_n 1, 0, 0, 0), (55, .aastore, 0, 0, 0), (56, .goto 13, 69, 0, 0), (59, .aload_n 0, 0, 0, 0), (60, .dup, 0, 0, 0), (61, .getfield 212, 6, 19, 0), (64, .iconst 1, 0, 0, 0), (65, .iadd, 0, 0, 0), (66, .putfield 212, 6, 19, 0), (69, .aload_n 0, 0, 0, 0), (70, .getfield 61, 6, 17, 0), (73, .aload_n 0, 0, 0, 0), (74, .getfield 212, 6, 19, 0), (77, .aaload, 0, 0, 0), (78, .aload_n 0, 0, 0, 0)]
def tB58_2 : List (Nat × ab_I) := [(79, .getfield 48, 6, 13, 0), (82, .invokevirtual 85, 22, 1, 0), (85, .aload_n 0, 0, 0, 0), (86, .aload_n 0, 0, 0, 0), (87, .getfield 212, 6, 19, 0), (90, .iconst 1, 0, 0, 0), (91, .iadd, 0, 0, 0), (92, .putfield 65, 6, 18, 0), (95, .return_, 0, 0, 0)]
def tI58 : ab_T := [(37, tB58_0), (78, tB58_1), (95, tB58_2)]
set_option maxRecDepth 100000 in
theorem tC58 : ab_ck (ab_lkB ab_mt ab_kb lL7 mM58) mM58.2.1.data.toList 0 (ab_flat tI58) = true := by decide +kernel
set_option maxRecDepth 100000 in
theorem tS58 : ab_swB mM58.2.1 (ab_flat tI58) = true := by decide +kernel
theorem tO58 : ab_MOK 58 tI58 := ab_allOK (M := mM58) rfl lL7_ok tC58 tS58
def tB59_0 : List (Nat × ab_I) := [(0, .iconst 0, 0, 0, 0), (1, .istore_n 1, 0, 0, 0), (2, .iload_n 1, 0, 0, 0), (3, .ldc 124, 1000000, 0, 0), (5, .if_icmp .ge 127, 132, 0, 0), (8, .aload_n 0, 0, 0, 0), (9, .getfield 50, 0, 1, 0), (12, .getfield 125, 6, 16, 1), (15, .ifCond .eq 34, 49, 0, 0), (18, .aload_n 0, 0, 0, 0), (19, .getfield 50, 0, 1, 0), (22, .invokevirtual 130, 60, 0, 0), (25, .astore_n 2, 0, 0, 0), (26, .aload_n 0, 0, 0, 0), (27, .getfield 54, 0, 2, 0), (30, .aload_n 2, 0, 0, 0), (31, .getfield 134, 2, 6, 1), (34, .aload_n 2, 0, 0, 0), (35, .getfield 134, 2, 6, 1), (38, .arraylength, 0, 0, 0), (39, .invokevirtual 139, 70, 2, 0), (42, .aload_n 0, 0, 0, 0), (43, .invokevirtual 144, 102, 0, 0), (46, .goto 80, 126, 0, 0)]
def tB59_1 : List (Nat × ab_I) := [(49, .aload_n 0, 0, 0, 0), (50, .getfield 37, 0, 17, 0), (53, .iconst (-1), 0, 0, 0), (54, .if_icmp .eq 10, 64, 0, 0), (57, .aload_n 0, 0, 0, 0), (58, .invokevirtual 147, 106, 0, 0), (61, .goto 65, 126, 0, 0), (64, .aload_n 0, 0, 0, 0), (65, .getfield 58, 0, 9, 0), (68, .ifCond .ne 4, 72, 0, 0), (71, .return_, 0, 0, 0), (72, .aload_n 0, 0, 0, 0), (73, .getfield 67, 0, 12, 0), (76, .aload_n 0, 0, 0, 0), (77, .getfield 30, 0, 11, 0), (80, .getfield 80, 4, 2, 1), (83, .if_icmp .ge 10, 93, 0, 0), (86, .aload_n 0, 0, 0, 0), (87, .invokevirtual 150, 109, 0, 0), (90, .goto 36, 126, 0, 0), (93, .aload_n 0, 0, 0, 0), (94, .getfield 70, 0, 15, 0), (97, .aload_n 0, 0, 0, 0), (98, .getfield 73, 0, 16, 0)]
def tB59_2 : List (Nat × ab_I) := [(101, .if_icmp .ge 10, 111, 0, 0), (104, .aload_n 0, 0, 0, 0), (105, .invokevirtual 153, 126, 0, 0), (108, .goto 18, 126, 0, 0), (111, .aload_n 0, 0, 0, 0), (112, .getfield 61, 0, 18, 0), (115, .ifCond .eq 10, 125, 0, 0), (118, .aload_n 0, 0, 0, 0), (119, .invokevirtual 156, 128, 0, 0), (122, .goto 4, 126, 0, 0), (125, .return_, 0, 0, 0), (126, .iinc 1 1, 0, 0, 0), (129, .goto (-127), 2, 0, 0), (132, .return_, 0, 0, 0)]
def tI59 : ab_T := [(46, tB59_0), (98, tB59_1), (132, tB59_2)]
set_option maxRecDepth 100000 in
theorem tC59 : ab_ck (ab_lkB ab_mt ab_kb lL1 mM59) mM59.2.1.data.toList 0 (ab_flat tI59) = true := by decide +kernel
set_option maxRecDepth 100000 in
theorem tS59 : ab_swB mM59.2.1 (ab_flat tI59) = true := by decide +kernel
theorem tO59 : ab_MOK 59 tI59 := ab_allOK (M := mM59) rfl lL1_ok tC59 tS59
def tB60_0 : List (Nat × ab_I) := [(0, .aload_n 0, 0, 0, 0), (1, .aload_n 0, 0, 0, 0), (2, .getfield 51, 6, 14, 0), (5, .invokevirtual 215, 61, 1, 0), (8, .astore_n 1, 0, 0, 0), (9, .aload_n 0, 0, 0, 0), (10, .getfield 48, 6, 13, 0), (13, .aload_n 0, 0, 0, 0), (14, .getfield 54, 6, 15, 0), (17, .invokevirtual 85, 22, 1, 0), (20, .aload_n 0, 0, 0, 0), (21, .getfield 48, 6, 13, 0), (24, .aload_n 0, 0, 0, 0), (25, .getfield 51, 6, 14, 0), (28, .invokevirtual 219, 69, 1, 0), (31, .aload_n 0, 0, 0, 0), (32, .getfield 57, 6, 16, 0), (35, .iconst 1, 0, 0, 0), (36, .if_icmp .ne 7, 43, 0, 0), (39, .aload_n 0, 0, 0, 0), (40, .invokevirtual 209, 58, 0, 0), (43, .aload_n 0, 0, 0, 0), (44, .iconst 0, 0, 0, 0), (45, .putfield 57, 6, 16, 0)]
def tB60_1 : List (Nat × ab_I) := [(48, .aload_n 1, 0, 0, 0), (49, .areturn, 0, 0, 0)]
def tI60 : ab_T := [(45, tB60_0), (49, tB60_1)]
set_option maxRecDepth 100000 in
theorem tC60 : ab_ck (ab_lkB ab_mt ab_kb lL7 mM60) mM60.2.1.data.toList 0 (ab_flat tI60) = true := by decide +kernel
set_option maxRecDepth 100000 in
theorem tS60 : ab_swB mM60.2.1 (ab_flat tI60) = true := by decide +kernel
theorem tO60 : ab_MOK 60 tI60 := ab_allOK (M := mM60) rfl lL7_ok tC60 tS60
def tB61_0 : List (Nat × ab_I) := [(0, .aload_n 0, 0, 0, 0), (1, .getfield 54, 6, 15, 0), (4, .aload_n 1, 0, 0, 0), (5, .invokevirtual 85, 22, 1, 0), (8, .aload_n 0, 0, 0, 0), (9, .getfield 54, 6, 15, 0), (12, .invokevirtual 140, 62, 0, 0), (15, .iconst 1, 0, 0, 0), (16, .istore_n 2, 0, 0, 0), (17, .iload_n 2, 0, 0, 0), (18, .bipush 6, 0, 0, 0), (20, .if_icmp .gt 47, 67, 0, 0), (23, .aload_n 0, 0, 0, 0), (24, .invokevirtual 143, 63, 0, 0), (27, .astore_n 3, 0, 0, 0), (28, .aload_n 3, 0, 0, 0), (29, .getfield 147, 2, 4, 1), (32, .ifnonnull 5, 37, 0, 0), (35, .aload_n 3, 0, 0, 0), (36, .areturn, 0, 0, 0), (37, .iload_n 2, 0, 0, 0), (38, .bipush 6, 0, 0, 0), (40, .if_icmp .ge 21, 61, 0, 0), (43, .aload_n 0, 0, 0, 0)]
def tB61_1 : List (Nat × ab_I) := [(44, .getfield 54, 6, 15, 0), (47, .aload_n 3, 0, 0, 0), (48, .getfield 147, 2, 4, 1), (51, .invokevirtual 85, 22, 1, 0), (54, .aload_n 0, 0, 0, 0), (55, .getfield 54, 6, 15, 0), (58, .invokevirtual 140, 62, 0, 0), (61, .iinc 2 1, 0, 0, 0), (64, .goto (-47), 17, 0, 0), (67, .aload_n 0, 0, 0, 0), (68, .getfield 12, 6, 0, 0), (71, .areturn, 0, 0, 0)]
def tI61 : ab_T := [(43, tB61_0), (71, tB61_1)]
set_option maxRecDepth 100000 in
theorem tC61 : ab_ck (ab_lkB ab_mt ab_kb lL7 mM61) mM61.2.1.data.toList 0 (ab_flat tI61) = true := by decide +kernel
set_option maxRecDepth 100000 in
theorem tS61 : ab_swB mM61.2.1 (ab_flat tI61) = true := by decide +kernel
theorem tO61 : ab_MOK 61 tI61 := ab_allOK (M := mM61) rfl lL7_ok tC61 tS61
def tB62_0 : List (Nat × ab_I) := [(0, .aload_n 0, 0, 0, 0), (1, .aload_n 0, 0, 0, 0), (2, .getfield 33, 1, 4, 0), (5, .putfield 13, 1, 5, 0), (8, .return_, 0, 0, 0)]
def tI62 : ab_T := [(8, tB62_0)]
set_option maxRecDepth 100000 in
theorem tC62 : ab_ck (ab_lkB ab_mt ab_kb lL2 mM62) mM62.2.1.data.toList 0 (ab_flat tI62) = true := by decide +kernel
set_option maxRecDepth 100000 in
theorem tS62 : ab_swB mM62.2.1 (ab_flat tI62) = true := by decide +kernel
theorem tO62 : ab_MOK 62 tI62 := ab_allOK (M := mM62) rfl lL2_ok tC62 tS62
def tB63_0 : List (Nat × ab_I) := [(0, .iconst 0, 0, 0, 0), (1, .istore_n 1, 0, 0, 0), (2, .iload_n 1, 0, 0, 0), (3, .aload_n 0, 0, 0, 0), (4, .getfield 150, 6, 4, 0), (7, .if_icmp .ge 51, 58, 0, 0), (10, .aload_n 0, 0, 0, 0), (11, .getfield 22, 6, 3, 0), (14, .iload_n 1, 0, 0, 0), (15, .aaload, 0, 0, 0), (16, .getfield 153, 2, 7, 1), (19, .aload_n 0, 0, 0, 0), (20, .getfield 156, 6, 12, 0), (23, .if_icmp .le 29, 52, 0, 0), (26, .aload_n 0, 0, 0, 0), (27, .getfield 22, 6, 3, 0), (30, .iload_n 1, 0, 0, 0), (31, .aaload, 0, 0, 0), (32, .getfield 99, 2, 0, 1), (35, .aload_n 0, 0, 0, 0), (36, .getfield 54, 6, 15, 0), (39, .invokevirtual 130, 53, 1, 0), (42, .ifCond .eq 10, 52, 0, 0), (45, .aload_n 0, 0, 0, 0)]
def tB63_1 : List (Nat × ab_I) := [(46, .getfield 22, 6, 3, 0), (49, .iload_n 1, 0, 0, 0), (50, .aaload, 0, 0, 0), (51, .areturn, 0, 0, 0), (52, .iinc 1 1, 0, 0, 0), (55, .goto (-53), 2, 0, 0), (58, .aload_n 0, 0, 0, 0), (59, .dup, 0, 0, 0), (60, .getfield 159, 6, 9, 0), (63, .iconst 1, 0, 0, 0), (64, .iadd, 0, 0, 0), (65, .putfield 159, 6, 9, 0), (68, .aload_n 0, 0, 0, 0), (69, .getfield 35, 6, 10, 0), (72, .aload_n 0, 0, 0, 0), (73, .getfield 54, 6, 15, 0), (76, .invokevirtual 85, 22, 1, 0), (79, .aload_n 0, 0, 0, 0), (80, .invokevirtual 162, 64, 0, 0), (83, .aload_n 0, 0, 0, 0), (84, .getfield 12, 6, 0, 0), (87, .astore_n 1, 0, 0, 0), (88, .iconst 0, 0, 0, 0), (89, .istore_n 2, 0, 0, 0)]
def tB63_2 : List (Nat × ab_I) := [(90, .iload_n 2, 0, 0, 0), (91, .aload_n 0, 0, 0, 0), (92, .getfield 127, 6, 2, 0), (95, .if_icmp .ge 35, 130, 0, 0), (98, .aload_n 0, 0, 0, 0), (99, .getfield 18, 6, 1, 0), (102, .iload_n 2, 0, 0, 0), (103, .aaload, 0, 0, 0), (104, .getfield 99, 2, 0, 1), (107, .aload_n 0, 0, 0, 0), (108, .getfield 54, 6, 15, 0), (111, .invokevirtual 130, 53, 1, 0), (114, .ifCond .eq 10, 124, 0, 0), (117, .aload_n 0, 0, 0, 0), (118, .getfield 18, 6, 1, 0), (121, .iload_n 2, 0, 0, 0), (122, .aaload, 0, 0, 0), (123, .astore_n 1, 0, 0, 0), (124, .iinc 2 1, 0, 0, 0), (127, .goto (-37), 90, 0, 0), (130, .aload_n 1, 0, 0, 0), (131, .getfield 165, 2, 2, 1), (134, .lconst 0, 0, 0, 0), (135, .lcmp, 0, 0, 0)]
def tB63_3 : List (Nat × ab_I) := [(136, .ifCond .eq 33, 169, 0, 0), (139, .aload_n 0, 0, 0, 0), (140, .aload_n 0, 0, 0, 0), (141, .getfield 25, 6, 5, 0), (144, .aload_n 0, 0, 0, 0), (145, .getfield 169, 6, 6, 0), (148, .aload_n 0, 0, 0, 0), (149, .getfield 54, 6, 15, 0), (152, .getfield 172, 1, 1, 1), (155, .aload_n 1, 0, 0, 0), (156, .getfield 165, 2, 2, 1), (159, .aload_n 1, 0, 0, 0), (160, .getfield 175, 2, 3, 1), (163, .invokestatic 178, 66, 5, 0), (166, .putfield 169, 6, 6, 0), (169, .aload_n 1, 0, 0, 0), (170, .getfield 182, 2, 1, 1), (173, .ifCond .le 8, 181, 0, 0), (176, .aload_n 0, 0, 0, 0), (177, .aload_n 1, 0, 0, 0), (178, .invokevirtual 185, 68, 1, 0), (181, .aload_n 1, 0, 0, 0), (182, .areturn, 0, 0, 0)]
def tI63 : ab_T := [(45, tB63_0), (89, tB63_1), (135, tB63_2), (182, tB63_3)]
set_option maxRecDepth 100000 in
theorem tC63 : ab_ck (ab_lkB ab_mt ab_kb lL7 mM63) mM63.2.1.data.toList 0 (ab_flat tI63) = true := by decide +kernel
set_option maxRecDepth 100000 in
theorem tS63 : ab_swB mM63.2.1 (ab_flat tI63) = true := by decide +kernel
theorem tO63 : ab_MOK 63 tI63 := ab_allOK (M := mM63) rfl lL7_ok tC63 tS63
def tB64_0 : List (Nat × ab_I) := [(0, .aload_n 0, 0, 0, 0), (1, .getfield 44, 6, 11, 0), (4, .invokevirtual 189, 31, 0, 0), (7, .iconst 0, 0, 0, 0), (8, .istore_n 1, 0, 0, 0), (9, .iload_n 1, 0, 0, 0), (10, .aload_n 0, 0, 0, 0), (11, .getfield 169, 6, 6, 0), (14, .if_icmp .ge 90, 104, 0, 0), (17, .aload_n 0, 0, 0, 0), (18, .getfield 25, 6, 5, 0), (21, .iconst 3, 0, 0, 0), (22, .iload_n 1, 0, 0, 0), (23, .imul, 0, 0, 0), (24, .laload, 0, 0, 0), (25, .aload_n 0, 0, 0, 0), (26, .getfield 54, 6, 15, 0), (29, .getfield 172, 1, 1, 1), (32, .lcmp, 0, 0, 0), (33, .ifCond .ne 65, 98, 0, 0), (36, .aload_n 0, 0, 0, 0), (37, .getfield 44, 6, 11, 0), (40, .getfield 78, 4, 2, 1), (43, .ifCond .le 12, 55, 0, 0)]
def tB64_1 : List (Nat × ab_I) := [(46, .aload_n 0, 0, 0, 0), (47, .getfield 44, 6, 11, 0), (50, .bipush 59, 0, 0, 0), (52, .invokevirtual 192, 8, 1, 0), (55, .aload_n 0, 0, 0, 0), (56, .getfield 44, 6, 11, 0), (59, .aload_n 0, 0, 0, 0), (60, .getfield 25, 6, 5, 0), (63, .iconst 3, 0, 0, 0), (64, .iload_n 1, 0, 0, 0), (65, .imul, 0, 0, 0), (66, .iconst 1, 0, 0, 0), (67, .iadd, 0, 0, 0), (68, .laload, 0, 0, 0), (69, .invokevirtual 195, 65, 1, 0), (72, .aload_n 0, 0, 0, 0), (73, .getfield 44, 6, 11, 0), (76, .bipush 61, 0, 0, 0), (78, .invokevirtual 192, 8, 1, 0), (81, .aload_n 0, 0, 0, 0), (82, .getfield 44, 6, 11, 0), (85, .aload_n 0, 0, 0, 0), (86, .getfield 25, 6, 5, 0), (89, .iconst 3, 0, 0, 0)]
def tB64_2 : List (Nat × ab_I) := [(90, .iload_n 1, 0, 0, 0), (91, .imul, 0, 0, 0), (92, .iconst 2, 0, 0, 0), (93, .iadd, 0, 0, 0), (94, .laload, 0, 0, 0), (95, .invokevirtual 195, 65, 1, 0), (98, .iinc 1 1, 0, 0, 0), (101, .goto (-92), 9, 0, 0), (104, .return_, 0, 0, 0)]
def tI64 : ab_T := [(43, tB64_0), (89, tB64_1), (104, tB64_2)]
set_option maxRecDepth 100000 in
theorem tC64 : ab_ck (ab_lkB ab_mt ab_kb lL7 mM64) mM64.2.1.data.toList 0 (ab_flat tI64) = true := by decide +kernel
set_option maxRecDepth 100000 in
theorem tS64 : ab_swB mM64.2.1 (ab_flat tI64) = true := by decide +kernel
theorem tO64 : ab_MOK 64 tI64 := ab_allOK (M := mM64) rfl lL7_ok tC64 tS64
def tB65_0 : List (Nat × ab_I) := [(0, .bipush 56, 0, 0, 0), (2, .istore_n 3, 0, 0, 0), (3, .iload_n 3, 0, 0, 0), (4, .ifCond .lt 30, 34, 0, 0), (7, .lload_n 1, 0, 0, 0), (8, .iload_n 3, 0, 0, 0), (9, .lshr, 0, 0, 0), (10, .l2i, 0, 0, 0), (11, .sipush 255, 0, 0, 0), (14, .iand, 0, 0, 0), (15, .istore 4, 0, 0, 0), (17, .iload 4, 0, 0, 0), (19, .ifCond .eq 9, 28, 0, 0), (22, .aload_n 0, 0, 0, 0), (23, .iload 4, 0, 0, 0), (25, .invokevirtual 53, 8, 1, 0), (28, .iinc 3 (-8), 0, 0, 0), (31, .goto (-28), 3, 0, 0), (34, .return_, 0, 0, 0)]
def tI65 : ab_T := [(34, tB65_0)]
set_option maxRecDepth 100000 in
theorem tC65 : ab_ck (ab_lkB ab_mt ab_kb lL5 mM65) mM65.2.1.data.toList 0 (ab_flat tI65) = true := by decide +kernel
set_option maxRecDepth 100000 in
theorem tS65 : ab_swB mM65.2.1 (ab_flat tI65) = true := by decide +kernel
theorem tO65 : ab_MOK 65 tI65 := ab_allOK (M := mM65) rfl lL5_ok tC65 tS65
def tB66_0 : List (Nat × ab_I) := [(0, .aload_n 0, 0, 0, 0), (1, .iload_n 1, 0, 0, 0), (2, .lload_n 2, 0, 0, 0), (3, .lload 4, 0, 0, 0), (5, .invokestatic 199, 67, 4, 0), (8, .istore 8, 0, 0, 0), (10, .iload 8, 0, 0, 0), (12, .bipush 20, 0, 0, 0), (14, .if_icmp .ne 5, 19, 0, 0), (17, .iload_n 1, 0, 0, 0), (18, .ireturn, 0, 0, 0), (19, .aload_n 0, 0, 0, 0), (20, .iconst 3, 0, 0, 0), (21, .iload 8, 0, 0, 0), (23, .imul, 0, 0, 0), (24, .lload_n 2, 0, 0, 0), (25, .lastore, 0, 0, 0), (26, .aload_n 0, 0, 0, 0), (27, .iconst 3, 0, 0, 0), (28, .iload 8, 0, 0, 0), (30, .imul, 0, 0, 0), (31, .iconst 1, 0, 0, 0), (32, .iadd, 0, 0, 0), (33, .lload 4, 0, 0, 0)]
def tB66_1 : List (Nat × ab_I) := [(35, .lastore, 0, 0, 0), (36, .aload_n 0, 0, 0, 0), (37, .iconst 3, 0, 0, 0), (38, .iload 8, 0, 0, 0), (40, .imul, 0, 0, 0), (41, .iconst 2, 0, 0, 0), (42, .iadd, 0, 0, 0), (43, .lload 6, 0, 0, 0), (45, .lastore, 0, 0, 0), (46, .iload_n 1, 0, 0, 0), (47, .iload 8, 0, 0, 0), (49, .iconst 1, 0, 0, 0), (50, .iadd, 0, 0, 0), (51, .invokestatic 134, 0, 0, 2), (54, .ireturn, 0, 0, 0)]
def tI66 : ab_T := [(33, tB66_0), (54, tB66_1)]
set_option maxRecDepth 100000 in
theorem tC66 : ab_ck (ab_lkB ab_mt ab_kb lL7 mM66) mM66.2.1.data.toList 0 (ab_flat tI66) = true := by decide +kernel
set_option maxRecDepth 100000 in
theorem tS66 : ab_swB mM66.2.1 (ab_flat tI66) = true := by decide +kernel
theorem tO66 : ab_MOK 66 tI66 := ab_allOK (M := mM66) rfl lL7_ok tC66 tS66
def tB67_0 : List (Nat × ab_I) := [(0, .iconst 0, 0, 0, 0), (1, .istore 6, 0, 0, 0), (3, .iload 6, 0, 0, 0), (5, .iload_n 1, 0, 0, 0), (6, .if_icmp .ge 37, 43, 0, 0), (9, .aload_n 0, 0, 0, 0), (10, .iconst 3, 0, 0, 0), (11, .iload 6, 0, 0, 0), (13, .imul, 0, 0, 0), (14, .laload, 0, 0, 0), (15, .lload_n 2, 0, 0, 0), (16, .lcmp, 0, 0, 0), (17, .ifCond .ne 20, 37, 0, 0), (20, .aload_n 0, 0, 0, 0), (21, .iconst 3, 0, 0, 0), (22, .iload 6, 0, 0, 0), (24, .imul, 0, 0, 0), (25, .iconst 1, 0, 0, 0), (26, .iadd, 0, 0, 0), (27, .laload, 0, 0, 0), (28, .lload 4, 0, 0, 0), (30, .lcmp, 0, 0, 0), (31, .ifCond .ne 6, 37, 0, 0), (34, .iload 6, 0, 0, 0)]
def tB67_1 : List (Nat × ab_I) := [(36, .ireturn, 0, 0, 0), (37, .iinc 6 1, 0, 0, 0), (40, .goto (-37), 3, 0, 0), (43, .iload_n 1, 0, 0, 0), (44, .ireturn, 0, 0, 0)]
def tI67 : ab_T := [(34, tB67_0), (44, tB67_1)]
set_option maxRecDepth 100000 in
theorem tC67 : ab_ck (ab_lkB ab_mt ab_kb lL7 mM67) mM67.2.1.data.toList 0 (ab_flat tI67) = true := by decide +kernel
set_option maxRecDepth 100000 in
theorem tS67 : ab_swB mM67.2.1 (ab_flat tI67) = true := by decide +kernel
theorem tO67 : ab_MOK 67 tI67 := ab_allOK (M := mM67) rfl lL7_ok tC67 tS67
def tB68_0 : List (Nat × ab_I) := [(0, .iconst 0, 0, 0, 0), (1, .istore_n 2, 0, 0, 0), (2, .iload_n 2, 0, 0, 0), (3, .aload_n 0, 0, 0, 0), (4, .getfield 150, 6, 4, 0), (7, .if_icmp .ge 28, 35, 0, 0), (10, .aload_n 0, 0, 0, 0), (11, .getfield 22, 6, 3, 0), (14, .iload_n 2, 0, 0, 0), (15, .aaload, 0, 0, 0), (16, .getfield 99, 2, 0, 1), (19, .aload_n 1, 0, 0, 0), (20, .getfield 99, 2, 0, 1), (23, .invokevirtual 130, 53, 1, 0), (26, .ifCond .ne 9, 35, 0, 0), (29, .iinc 2 1, 0, 0, 0), (32, .goto (-30), 2, 0, 0), (35, .iload_n 2, 0, 0, 0), (36, .aload_n 0, 0, 0, 0), (37, .getfield 150, 6, 4, 0), (40, .if_icmp .ne 25, 65, 0, 0), (43, .aload_n 0, 0, 0, 0), (44, .getfield 150, 6, 4, 0), (47, .bipush 8, 0, 0, 0)]
def tB68_1 : List (Nat × ab_I) := [(49, .if_icmp .ge 16, 65, 0, 0), (52, .aload_n 0, 0, 0, 0), (53, .dup, 0, 0, 0), (54, .getfield 150, 6, 4, 0), (57, .iconst 1, 0, 0, 0), (58, .iadd, 0, 0, 0), (59, .putfield 150, 6, 4, 0), (62, .goto 13, 75, 0, 0), (65, .iload_n 2, 0, 0, 0), (66, .aload_n 0, 0, 0, 0), (67, .getfield 150, 6, 4, 0), (70, .if_icmp .ne 5, 75, 0, 0), (73, .iconst 0, 0, 0, 0), (74, .istore_n 2, 0, 0, 0), (75, .iload_n 2, 0, 0, 0), (76, .istore_n 3, 0, 0, 0), (77, .iload_n 3, 0, 0, 0), (78, .iconst 1, 0, 0, 0), (79, .iadd, 0, 0, 0), (80, .aload_n 0, 0, 0, 0), (81, .getfield 150, 6, 4, 0), (84, .if_icmp .ge 23, 107, 0, 0), (87, .aload_n 0, 0, 0, 0), (88, .getfield 22, 6, 3, 0)]
def tB68_2 : List (Nat × ab_I) := [(91, .iload_n 3, 0, 0, 0), (92, .aload_n 0, 0, 0, 0), (93, .getfield 22, 6, 3, 0), (96, .iload_n 3, 0, 0, 0), (97, .iconst 1, 0, 0, 0), (98, .iadd, 0, 0, 0), (99, .aaload, 0, 0, 0), (100, .aastore, 0, 0, 0), (101, .iinc 3 1, 0, 0, 0), (104, .goto (-27), 77, 0, 0), (107, .aload_n 0, 0, 0, 0), (108, .getfield 22, 6, 3, 0), (111, .aload_n 0, 0, 0, 0), (112, .getfield 150, 6, 4, 0), (115, .iconst 1, 0, 0, 0), (116, .isub, 0, 0, 0), (117, .aload_n 1, 0, 0, 0), (118, .aastore, 0, 0, 0), (119, .aload_n 1, 0, 0, 0), (120, .aload_n 0, 0, 0, 0), (121, .getfield 156, 6, 12, 0), (124, .aload_n 1, 0, 0, 0), (125, .getfield 182, 2, 1, 1), (128, .iadd, 0, 0, 0)]
def tB68_3 : List (Nat × ab_I) := [(129, .putfield 153, 2, 7, 1), (132, .return_, 0, 0, 0)]
def tI68 : ab_T := [(47, tB68_0), (88, tB68_1), (128, tB68_2), (132, tB68_3)]
set_option maxRecDepth 100000 in
theorem tC68 : ab_ck (ab_lkB ab_mt ab_kb lL7 mM68) mM68.2.1.data.toList 0 (ab_flat tI68) = true := by decide +kernel
set_option maxRecDepth 100000 in
theorem tS68 : ab_swB mM68.2.1 (ab_flat tI68) = true := by decide +kernel
theorem tO68 : ab_MOK 68 tI68 := ab_allOK (M := mM68) rfl lL7_ok tC68 tS68
def tB69_0 : List (Nat × ab_I) := [(0, .aload_n 1, 0, 0, 0), (1, .getfield 13, 1, 5, 0), (4, .aload_n 1, 0, 0, 0), (5, .getfield 33, 1, 4, 0), (8, .isub, 0, 0, 0), (9, .istore_n 2, 0, 0, 0), (10, .aload_n 1, 0, 0, 0), (11, .getfield 9, 1, 0, 0), (14, .aload_n 1, 0, 0, 0), (15, .getfield 33, 1, 4, 0), (18, .aload_n 0, 0, 0, 0), (19, .getfield 9, 1, 0, 0), (22, .aload_n 0, 0, 0, 0), (23, .getfield 33, 1, 4, 0), (26, .iload_n 2, 0, 0, 0), (27, .invokestatic 17, 0, 0, 4), (30, .aload_n 0, 0, 0, 0), (31, .aload_n 0, 0, 0, 0), (32, .getfield 33, 1, 4, 0), (35, .iload_n 2, 0, 0, 0), (36, .iadd, 0, 0, 0), (37, .putfield 13, 1, 5, 0), (40, .return_, 0, 0, 0)]
def tI69 : ab_T := [(40, tB69_0)]
set_option maxRecDepth 100000 in
theorem tC69 : ab_ck (ab_lkB ab_mt ab_kb lL2 mM69) mM69.2.1.data.toList 0 (ab_flat tI69) = true := by decide +kernel
set_option maxRecDepth 100000 in
theorem tS69 : ab_swB mM69.2.1 (ab_flat tI69) = true := by decide +kernel
theorem tO69 : ab_MOK 69 tI69 := ab_allOK (M := mM69) rfl lL2_ok tC69 tS69
def tB70_0 : List (Nat × ab_I) := [(0, .aload_n 0, 0, 0, 0), (1, .aload_n 1, 0, 0, 0), (2, .putfield 31, 8, 8, 0), (5, .aload_n 0, 0, 0, 0), (6, .iload_n 2, 0, 0, 0), (7, .putfield 39, 8, 9, 0), (10, .aload_n 0, 0, 0, 0), (11, .iconst 0, 0, 0, 0), (12, .putfield 43, 8, 10, 0), (15, .aload_n 0, 0, 0, 0), (16, .iconst 0, 0, 0, 0), (17, .putfield 46, 8, 3, 0), (20, .aload_n 0, 0, 0, 0), (21, .iconst (-1), 0, 0, 0), (22, .putfield 49, 8, 11, 0), (25, .aload_n 0, 0, 0, 0), (26, .getfield 35, 8, 0, 0), (29, .invokevirtual 52, 29, 0, 0), (32, .aload_n 0, 0, 0, 0), (33, .getfield 18, 8, 4, 0), (36, .iconst 0, 0, 0, 0), (37, .iconst 0, 0, 0, 0), (38, .iastore, 0, 0, 0), (39, .aload_n 0, 0, 0, 0)]
def tB70_1 : List (Nat × ab_I) := [(40, .iconst 1, 0, 0, 0), (41, .putfield 57, 8, 6, 0), (44, .iconst 0, 0, 0, 0), (45, .istore_n 3, 0, 0, 0), (46, .iload_n 3, 0, 0, 0), (47, .iload_n 2, 0, 0, 0), (48, .if_icmp .gt 126, 174, 0, 0), (51, .aload_n 0, 0, 0, 0), (52, .getfield 43, 8, 10, 0), (55, .aload_n 0, 0, 0, 0), (56, .getfield 39, 8, 9, 0), (59, .if_icmp .ge 115, 174, 0, 0), (62, .aload_n 0, 0, 0, 0), (63, .getfield 35, 8, 0, 0), (66, .getfield 60, 10, 0, 1), (69, .aload_n 0, 0, 0, 0), (70, .getfield 18, 8, 4, 0), (73, .aload_n 0, 0, 0, 0), (74, .getfield 57, 8, 6, 0), (77, .iconst 1, 0, 0, 0), (78, .isub, 0, 0, 0), (79, .iaload, 0, 0, 0), (80, .aaload, 0, 0, 0), (81, .getfield 64, 7, 0, 1)]
def tB70_2 : List (Nat × ab_I) := [(84, .bipush 15, 0, 0, 0), (86, .if_icmp .ne 7, 93, 0, 0), (89, .iconst 1, 0, 0, 0), (90, .goto 4, 94, 0, 0), (93, .iconst 0, 0, 0, 0), (94, .istore 4, 0, 0, 0), (96, .iload 4, 0, 0, 0), (98, .ifCond .eq 30, 128, 0, 0), (101, .ldc 67, 1000010, 0, 1), (103, .aload_n 0, 0, 0, 0), (104, .getfield 31, 8, 8, 0), (107, .aload_n 0, 0, 0, 0), (108, .getfield 43, 8, 10, 0), (111, .aload_n 0, 0, 0, 0), (112, .getfield 39, 8, 9, 0), (115, .invokestatic 69, 11, 4, 0), (118, .ifCond .ne 10, 128, 0, 0), (121, .aload_n 0, 0, 0, 0), (122, .invokevirtual 75, 71, 0, 0), (125, .goto 43, 168, 0, 0), (128, .aload_n 0, 0, 0, 0), (129, .aload_n 0, 0, 0, 0), (130, .getfield 43, 8, 10, 0), (133, .invokevirtual 78, 79, 1, 0)]
def tB70_3 : List (Nat × ab_I) := [(136, .ifCond .eq 10, 146, 0, 0), (139, .aload_n 0, 0, 0, 0), (140, .invokevirtual 82, 81, 0, 0), (143, .goto 25, 168, 0, 0), (146, .aload_n 0, 0, 0, 0), (147, .aload_n 0, 0, 0, 0), (148, .getfield 43, 8, 10, 0), (151, .invokevirtual 85, 99, 1, 0), (154, .ifCond .eq 10, 164, 0, 0), (157, .aload_n 0, 0, 0, 0), (158, .invokevirtual 88, 100, 0, 0), (161, .goto 7, 168, 0, 0), (164, .aload_n 0, 0, 0, 0), (165, .invokevirtual 91, 101, 0, 0), (168, .iinc 3 1, 0, 0, 0), (171, .goto (-125), 46, 0, 0), (174, .aload_n 0, 0, 0, 0), (175, .iconst 0, 0, 0, 0), (176, .invokevirtual 94, 89, 1, 0), (179, .return_, 0, 0, 0)]
def tI70 : ab_T := [(39, tB70_0), (81, tB70_1), (133, tB70_2), (179, tB70_3)]
set_option maxRecDepth 100000 in
theorem tC70 : ab_ck (ab_lkB ab_mt ab_kb lL9 mM70) mM70.2.1.data.toList 0 (ab_flat tI70) = true := by decide +kernel
set_option maxRecDepth 100000 in
theorem tS70 : ab_swB mM70.2.1 (ab_flat tI70) = true := by decide +kernel
theorem tO70 : ab_MOK 70 tI70 := ab_allOK (M := mM70) rfl lL9_ok tC70 tS70
def tB71_0 : List (Nat × ab_I) := [(0, .aload_n 0, 0, 0, 0), (1, .getfield 43, 8, 10, 0), (4, .istore_n 1, 0, 0, 0), (5, .iload_n 1, 0, 0, 0), (6, .aload_n 0, 0, 0, 0), (7, .getfield 39, 8, 9, 0), (10, .if_icmp .ge 26, 36, 0, 0), (13, .ldc 67, 1000010, 0, 1), (15, .aload_n 0, 0, 0, 0), (16, .getfield 31, 8, 8, 0), (19, .iload_n 1, 0, 0, 0), (20, .aload_n 0, 0, 0, 0), (21, .getfield 39, 8, 9, 0), (24, .invokestatic 69, 11, 4, 0), (27, .ifCond .ne 9, 36, 0, 0), (30, .iinc 1 1, 0, 0, 0), (33, .goto (-28), 5, 0, 0), (36, .aload_n 0, 0, 0, 0), (37, .aload_n 0, 0, 0, 0), (38, .getfield 43, 8, 10, 0), (41, .iload_n 1, 0, 0, 0), (42, .iconst 0, 0, 0, 0), (43, .invokevirtual 109, 72, 3, 0), (46, .aload_n 0, 0, 0, 0)]
def tB71_1 : List (Nat × ab_I) := [(47, .iload_n 1, 0, 0, 0), (48, .putfield 43, 8, 10, 0), (51, .return_, 0, 0, 0)]
def tI71 : ab_T := [(46, tB71_0), (51, tB71_1)]
set_option maxRecDepth 100000 in
theorem tC71 : ab_ck (ab_lkB ab_mt ab_kb lL9 mM71) mM71.2.1.data.toList 0 (ab_flat tI71) = true := by decide +kernel
set_option maxRecDepth 100000 in
theorem tS71 : ab_swB mM71.2.1 (ab_flat tI71) = true := by decide +kernel
theorem tO71 : ab_MOK 71 tI71 := ab_allOK (M := mM71) rfl lL9_ok tC71 tS71
def tB72_0 : List (Nat × ab_I) := [(0, .aload_n 0, 0, 0, 0), (1, .getfield 18, 8, 4, 0), (4, .aload_n 0, 0, 0, 0), (5, .getfield 57, 8, 6, 0), (8, .iconst 1, 0, 0, 0), (9, .isub, 0, 0, 0), (10, .iaload, 0, 0, 0), (11, .istore 4, 0, 0, 0), (13, .aload_n 0, 0, 0, 0), (14, .getfield 35, 8, 0, 0), (17, .getfield 60, 10, 0, 1), (20, .iload 4, 0, 0, 0), (22, .aaload, 0, 0, 0), (23, .getfield 113, 7, 4, 1), (26, .istore 5, 0, 0, 0), (28, .iload 5, 0, 0, 0), (30, .iconst (-1), 0, 0, 0), (31, .if_icmp .eq 21, 52, 0, 0), (34, .aload_n 0, 0, 0, 0), (35, .getfield 35, 8, 0, 0), (38, .getfield 60, 10, 0, 1), (41, .iload 5, 0, 0, 0), (43, .aaload, 0, 0, 0), (44, .getfield 64, 7, 0, 1)]
def tB72_1 : List (Nat × ab_I) := [(47, .bipush 17, 0, 0, 0), (49, .if_icmp .eq 47, 96, 0, 0), (52, .aload_n 0, 0, 0, 0), (53, .iload_n 1, 0, 0, 0), (54, .iload_n 2, 0, 0, 0), (55, .invokevirtual 116, 73, 2, 0), (58, .ifCond .eq 4, 62, 0, 0), (61, .return_, 0, 0, 0), (62, .aload_n 0, 0, 0, 0), (63, .getfield 35, 8, 0, 0), (66, .iload 4, 0, 0, 0), (68, .invokevirtual 120, 74, 1, 0), (71, .ifCond .ne 11, 82, 0, 0), (74, .aload_n 0, 0, 0, 0), (75, .bipush 6, 0, 0, 0), (77, .iload_n 1, 0, 0, 0), (78, .invokevirtual 105, 75, 2, 0), (81, .return_, 0, 0, 0), (82, .aload_n 0, 0, 0, 0), (83, .getfield 35, 8, 0, 0), (86, .iload 4, 0, 0, 0), (88, .bipush 17, 0, 0, 0), (90, .lconst 0, 0, 0, 0), (91, .invokevirtual 123, 30, 3, 0)]
def tB72_2 : List (Nat × ab_I) := [(94, .istore 5, 0, 0, 0), (96, .aload_n 0, 0, 0, 0), (97, .iload_n 1, 0, 0, 0), (98, .iload_n 2, 0, 0, 0), (99, .iload_n 3, 0, 0, 0), (100, .aload_n 0, 0, 0, 0), (101, .getfield 35, 8, 0, 0), (104, .getfield 60, 10, 0, 1), (107, .iload 5, 0, 0, 0), (109, .aaload, 0, 0, 0), (110, .getfield 127, 7, 11, 1), (113, .invokevirtual 131, 76, 4, 0), (116, .istore 6, 0, 0, 0), (118, .iload 6, 0, 0, 0), (120, .iload_n 2, 0, 0, 0), (121, .if_icmp .ge 26, 147, 0, 0), (124, .aload_n 0, 0, 0, 0), (125, .getfield 49, 8, 11, 0), (128, .iload 5, 0, 0, 0), (130, .if_icmp .eq 17, 147, 0, 0), (133, .aload_n 0, 0, 0, 0), (134, .iload 5, 0, 0, 0), (136, .putfield 49, 8, 11, 0), (139, .aload_n 0, 0, 0, 0)]
def tB72_3 : List (Nat × ab_I) := [(140, .bipush 7, 0, 0, 0), (142, .iload 6, 0, 0, 0), (144, .invokevirtual 105, 75, 2, 0), (147, .return_, 0, 0, 0)]
def tI72 : ab_T := [(44, tB72_0), (91, tB72_1), (139, tB72_2), (147, tB72_3)]
set_option maxRecDepth 100000 in
theorem tC72 : ab_ck (ab_lkB ab_mt ab_kb lL9 mM72) mM72.2.1.data.toList 0 (ab_flat tI72) = true := by decide +kernel
set_option maxRecDepth 100000 in
theorem tS72 : ab_swB mM72.2.1 (ab_flat tI72) = true := by decide +kernel
theorem tO72 : ab_MOK 72 tI72 := ab_allOK (M := mM72) rfl lL9_ok tC72 tS72
def tB73_0 : List (Nat × ab_I) := [(0, .iload_n 1, 0, 0, 0), (1, .istore_n 3, 0, 0, 0), (2, .iload_n 3, 0, 0, 0), (3, .iload_n 2, 0, 0, 0), (4, .if_icmp .ge 23, 27, 0, 0), (7, .aload_n 0, 0, 0, 0), (8, .getfield 31, 8, 8, 0), (11, .iload_n 3, 0, 0, 0), (12, .baload, 0, 0, 0), (13, .invokestatic 135, 43, 1, 0), (16, .ifCond .ne 5, 21, 0, 0), (19, .iconst 0, 0, 0, 0), (20, .ireturn, 0, 0, 0), (21, .iinc 3 1, 0, 0, 0), (24, .goto (-22), 2, 0, 0), (27, .iconst 1, 0, 0, 0), (28, .ireturn, 0, 0, 0)]
def tI73 : ab_T := [(28, tB73_0)]
set_option maxRecDepth 100000 in
theorem tC73 : ab_ck (ab_lkB ab_mt ab_kb lL9 mM73) mM73.2.1.data.toList 0 (ab_flat tI73) = true := by decide +kernel
set_option maxRecDepth 100000 in
theorem tS73 : ab_swB mM73.2.1 (ab_flat tI73) = true := by decide +kernel
theorem tO73 : ab_MOK 73 tI73 := ab_allOK (M := mM73) rfl lL9_ok tC73 tS73
def tB74_0 : List (Nat × ab_I) := [(0, .aload_n 0, 0, 0, 0), (1, .getfield 45, 10, 5, 0), (4, .bipush 120, 0, 0, 0), (6, .if_icmp .ge 21, 27, 0, 0), (9, .aload_n 0, 0, 0, 0), (10, .getfield 11, 10, 0, 0), (13, .iload_n 1, 0, 0, 0), (14, .aaload, 0, 0, 0), (15, .getfield 52, 7, 7, 1), (18, .bipush 20, 0, 0, 0), (20, .if_icmp .ge 7, 27, 0, 0), (23, .iconst 1, 0, 0, 0), (24, .goto 4, 28, 0, 0), (27, .iconst 0, 0, 0, 0), (28, .ireturn, 0, 0, 0)]
def tI74 : ab_T := [(28, tB74_0)]
set_option maxRecDepth 100000 in
theorem tC74 : ab_ck (ab_lkB ab_mt ab_kb lL11 mM74) mM74.2.1.data.toList 0 (ab_flat tI74) = true := by decide +kernel
set_option maxRecDepth 100000 in
theorem tS74 : ab_swB mM74.2.1 (ab_flat tI74) = true := by decide +kernel
theorem tO74 : ab_MOK 74 tI74 := ab_allOK (M := mM74) rfl lL11_ok tC74 tS74
def tB75_0 : List (Nat × ab_I) := [(0, .aload_n 0, 0, 0, 0), (1, .getfield 46, 8, 3, 0), (4, .bipush 40, 0, 0, 0), (6, .if_icmp .ge 23, 29, 0, 0), (9, .aload_n 0, 0, 0, 0), (10, .getfield 11, 8, 1, 0), (13, .aload_n 0, 0, 0, 0), (14, .getfield 46, 8, 3, 0), (17, .iload_n 1, 0, 0, 0), (18, .iastore, 0, 0, 0), (19, .aload_n 0, 0, 0, 0), (20, .getfield 15, 8, 2, 0), (23, .aload_n 0, 0, 0, 0), (24, .getfield 46, 8, 3, 0), (27, .iload_n 2, 0, 0, 0), (28, .iastore, 0, 0, 0), (29, .aload_n 0, 0, 0, 0), (30, .dup, 0, 0, 0), (31, .getfield 46, 8, 3, 0), (34, .iconst 1, 0, 0, 0), (35, .iadd, 0, 0, 0), (36, .putfield 46, 8, 3, 0), (39, .return_, 0, 0, 0)]
def tI75 : ab_T := [(39, tB75_0)]
set_option maxRecDepth 100000 in
theorem tC75 : ab_ck (ab_lkB ab_mt ab_kb lL9 mM75) mM75.2.1.data.toList 0 (ab_flat tI75) = true := by decide +kernel
set_option maxRecDepth 100000 in
theorem tS75 : ab_swB mM75.2.1 (ab_flat tI75) = true := by decide +kernel
theorem tO75 : ab_MOK 75 tI75 := ab_allOK (M := mM75) rfl lL9_ok tC75 tS75
def tB76_0 : List (Nat × ab_I) := [(0, .iload_n 1, 0, 0, 0), (1, .istore 5, 0, 0, 0), (3, .iload 5, 0, 0, 0), (5, .iload_n 2, 0, 0, 0), (6, .if_icmp .ge 82, 88, 0, 0), (9, .aload 4, 0, 0, 0), (11, .getfield 138, 4, 2, 1), (14, .aload 4, 0, 0, 0), (16, .getfield 139, 4, 0, 1), (19, .if_icmp .ge 69, 88, 0, 0), (22, .iload_n 3, 0, 0, 0), (23, .ifCond .eq 25, 48, 0, 0), (26, .aload_n 0, 0, 0, 0), (27, .getfield 31, 8, 8, 0), (30, .iload 5, 0, 0, 0), (32, .baload, 0, 0, 0), (33, .bipush 38, 0, 0, 0), (35, .if_icmp .ne 13, 48, 0, 0), (38, .aload_n 0, 0, 0, 0), (39, .iload 5, 0, 0, 0), (41, .iload_n 2, 0, 0, 0), (42, .invokevirtual 142, 77, 2, 0), (45, .goto 4, 49, 0, 0), (48, .iconst 1, 0, 0, 0)]
def tB76_1 : List (Nat × ab_I) := [(49, .istore 6, 0, 0, 0), (51, .aload 4, 0, 0, 0), (53, .iload 6, 0, 0, 0), (55, .iconst 1, 0, 0, 0), (56, .if_icmp .ne 13, 69, 0, 0), (59, .aload_n 0, 0, 0, 0), (60, .getfield 31, 8, 8, 0), (63, .iload 5, 0, 0, 0), (65, .baload, 0, 0, 0), (66, .goto 9, 75, 0, 0), (69, .aload_n 0, 0, 0, 0), (70, .iload 5, 0, 0, 0), (72, .invokevirtual 146, 78, 1, 0), (75, .invokevirtual 150, 8, 1, 0), (78, .iload 5, 0, 0, 0), (80, .iload 6, 0, 0, 0), (82, .iadd, 0, 0, 0), (83, .istore 5, 0, 0, 0), (85, .goto (-82), 3, 0, 0), (88, .iload 5, 0, 0, 0), (90, .ireturn, 0, 0, 0)]
def tI76 : ab_T := [(48, tB76_0), (90, tB76_1)]
set_option maxRecDepth 100000 in
theorem tC76 : ab_ck (ab_lkB ab_mt ab_kb lL9 mM76) mM76.2.1.data.toList 0 (ab_flat tI76) = true := by decide +kernel
set_option maxRecDepth 100000 in
theorem tS76 : ab_swB mM76.2.1 (ab_flat tI76) = true := by decide +kernel
theorem tO76 : ab_MOK 76 tI76 := ab_allOK (M := mM76) rfl lL9_ok tC76 tS76
def tB77_0 : List (Nat × ab_I) := [(0, .ldc 153, 1000011, 0, 1), (2, .aload_n 0, 0, 0, 0), (3, .getfield 31, 8, 8, 0), (6, .iload_n 1, 0, 0, 0), (7, .iload_n 2, 0, 0, 0), (8, .invokestatic 69, 11, 4, 0), (11, .ifCond .ne 17, 28, 0, 0), (14, .ldc 155, 1000012, 0, 1), (16, .aload_n 0, 0, 0, 0), (17, .getfield 31, 8, 8, 0), (20, .iload_n 1, 0, 0, 0), (21, .iload_n 2, 0, 0, 0), (22, .invokestatic 69, 11, 4, 0), (25, .ifCond .eq 5, 30, 0, 0), (28, .iconst 4, 0, 0, 0), (29, .ireturn, 0, 0, 0), (30, .ldc 157, 1000013, 0, 1), (32, .aload_n 0, 0, 0, 0), (33, .getfield 31, 8, 8, 0), (36, .iload_n 1, 0, 0, 0), (37, .iload_n 2, 0, 0, 0), (38, .invokestatic 69, 11, 4, 0), (41, .ifCond .eq 5, 46, 0, 0), (44, .iconst 5, 0, 0, 0)]
def tB77_1 : List (Nat × ab_I) := [(45, .ireturn, 0, 0, 0), (46, .ldc 159, 1000014, 0, 1), (48, .aload_n 0, 0, 0, 0), (49, .getfield 31, 8, 8, 0), (52, .iload_n 1, 0, 0, 0), (53, .iload_n 2, 0, 0, 0), (54, .invokestatic 69, 11, 4, 0), (57, .ifCond .eq 8, 65, 0, 0), (60, .bipush 6, 0, 0, 0), (62, .goto 4, 66, 0, 0), (65, .iconst 1, 0, 0, 0), (66, .ireturn, 0, 0, 0)]
def tI77 : ab_T := [(44, tB77_0), (66, tB77_1)]
set_option maxRecDepth 100000 in
theorem tC77 : ab_ck (ab_lkB ab_mt ab_kb lL9 mM77) mM77.2.1.data.toList 0 (ab_flat tI77) = true := by decide +kernel
set_option maxRecDepth 100000 in
theorem tS77 : ab_swB mM77.2.1 (ab_flat tI77) = true := by decide +kernel
theorem tO77 : ab_MOK 77 tI77 := ab_allOK (M := mM77) rfl lL9_ok tC77 tS77
def tB78_0 : List (Nat × ab_I) := [(0, .aload_n 0, 0, 0, 0), (1, .getfield 31, 8, 8, 0), (4, .iload_n 1, 0, 0, 0), (5, .iconst 1, 0, 0, 0), (6, .iadd, 0, 0, 0), (7, .baload, 0, 0, 0), (8, .lookupswitch 45 #[(97, 42), (103, 39), (108, 36)], 0, 0, 0), (44, .bipush 60, 0, 0, 0), (46, .ireturn, 0, 0, 0), (47, .bipush 62, 0, 0, 0), (49, .ireturn, 0, 0, 0), (50, .bipush 38, 0, 0, 0), (52, .ireturn, 0, 0, 0), (53, .bipush 34, 0, 0, 0), (55, .ireturn, 0, 0, 0)]
def tI78 : ab_T := [(55, tB78_0)]
set_option maxRecDepth 100000 in
theorem tC78 : ab_ck (ab_lkB ab_mt ab_kb lL9 mM78) mM78.2.1.data.toList 0 (ab_flat tI78) = true := by decide +kernel
set_option maxRecDepth 100000 in
theorem tS78 : ab_swB mM78.2.1 (ab_flat tI78) = true := by decide +kernel
theorem tO78 : ab_MOK 78 tI78 := ab_allOK (M := mM78) rfl lL9_ok tC78 tS78
def tB79_0 : List (Nat × ab_I) := [(0, .aload_n 0, 0, 0, 0), (1, .getfield 31, 8, 8, 0), (4, .iload_n 1, 0, 0, 0), (5, .baload, 0, 0, 0), (6, .bipush 60, 0, 0, 0), (8, .if_icmp .ne 13, 21, 0, 0), (11, .iload_n 1, 0, 0, 0), (12, .iconst 1, 0, 0, 0), (13, .iadd, 0, 0, 0), (14, .aload_n 0, 0, 0, 0), (15, .getfield 39, 8, 9, 0), (18, .if_icmp .lt 5, 23, 0, 0), (21, .iconst 0, 0, 0, 0), (22, .ireturn, 0, 0, 0), (23, .aload_n 0, 0, 0, 0), (24, .getfield 31, 8, 8, 0), (27, .iload_n 1, 0, 0, 0), (28, .iconst 1, 0, 0, 0), (29, .iadd, 0, 0, 0), (30, .baload, 0, 0, 0), (31, .invokestatic 98, 80, 1, 0), (34, .ifCond .ne 40, 74, 0, 0), (37, .aload_n 0, 0, 0, 0), (38, .getfield 31, 8, 8, 0)]
def tB79_1 : List (Nat × ab_I) := [(41, .iload_n 1, 0, 0, 0), (42, .iconst 1, 0, 0, 0), (43, .iadd, 0, 0, 0), (44, .baload, 0, 0, 0), (45, .bipush 47, 0, 0, 0), (47, .if_icmp .ne 31, 78, 0, 0), (50, .iload_n 1, 0, 0, 0), (51, .iconst 2, 0, 0, 0), (52, .iadd, 0, 0, 0), (53, .aload_n 0, 0, 0, 0), (54, .getfield 39, 8, 9, 0), (57, .if_icmp .ge 21, 78, 0, 0), (60, .aload_n 0, 0, 0, 0), (61, .getfield 31, 8, 8, 0), (64, .iload_n 1, 0, 0, 0), (65, .iconst 2, 0, 0, 0), (66, .iadd, 0, 0, 0), (67, .baload, 0, 0, 0), (68, .invokestatic 98, 80, 1, 0), (71, .ifCond .eq 7, 78, 0, 0), (74, .iconst 1, 0, 0, 0), (75, .goto 4, 79, 0, 0), (78, .iconst 0, 0, 0, 0), (79, .ireturn, 0, 0, 0)]
def tI79 : ab_T := [(38, tB79_0), (79, tB79_1)]
set_option maxRecDepth 100000 in
theorem tC79 : ab_ck (ab_lkB ab_mt ab_kb lL9 mM79) mM79.2.1.data.toList 0 (ab_flat tI79) = true := by decide +kernel
set_option maxRecDepth 100000 in
theorem tS79 : ab_swB mM79.2.1 (ab_flat tI79) = true := by decide +kernel
theorem tO79 : ab_MOK 79 tI79 := ab_allOK (M := mM79) rfl lL9_ok tC79 tS79
def tB80_0 : List (Nat × ab_I) := [(0, .iload_n 0, 0, 0, 0), (1, .bipush 97, 0, 0, 0), (3, .if_icmp .lt 9, 12, 0, 0), (6, .iload_n 0, 0, 0, 0), (7, .bipush 122, 0, 0, 0), (9, .if_icmp .le 15, 24, 0, 0), (12, .iload_n 0, 0, 0, 0), (13, .bipush 65, 0, 0, 0), (15, .if_icmp .lt 13, 28, 0, 0), (18, .iload_n 0, 0, 0, 0), (19, .bipush 90, 0, 0, 0), (21, .if_icmp .gt 7, 28, 0, 0), (24, .iconst 1, 0, 0, 0), (25, .goto 4, 29, 0, 0), (28, .iconst 0, 0, 0, 0), (29, .ireturn, 0, 0, 0)]
def tI80 : ab_T := [(29, tB80_0)]
set_option maxRecDepth 100000 in
theorem tC80 : ab_ck (ab_lkB ab_mt ab_kb lL5 mM80) mM80.2.1.data.toList 0 (ab_flat tI80) = true := by decide +kernel
set_option maxRecDepth 100000 in
theorem tS80 : ab_swB mM80.2.1 (ab_flat tI80) = true := by decide +kernel
theorem tO80 : ab_MOK 80 tI80 := ab_allOK (M := mM80) rfl lL5_ok tC80 tS80
def tB81_0 : List (Nat × ab_I) := [(0, .aload_n 0, 0, 0, 0), (1, .getfield 43, 8, 10, 0), (4, .istore_n 1, 0, 0, 0), (5, .aload_n 0, 0, 0, 0), (6, .getfield 46, 8, 3, 0), (9, .istore_n 2, 0, 0, 0), (10, .aload_n 0, 0, 0, 0), (11, .getfield 31, 8, 8, 0), (14, .aload_n 0, 0, 0, 0), (15, .getfield 43, 8, 10, 0), (18, .iconst 1, 0, 0, 0), (19, .iadd, 0, 0, 0), (20, .baload, 0, 0, 0), (21, .bipush 47, 0, 0, 0), (23, .if_icmp .ne 7, 30, 0, 0), (26, .iconst 1, 0, 0, 0), (27, .goto 4, 31, 0, 0), (30, .iconst 0, 0, 0, 0), (31, .istore_n 3, 0, 0, 0), (32, .iload_n 3, 0, 0, 0), (33, .ifCond .eq 12, 45, 0, 0), (36, .aload_n 0, 0, 0, 0), (37, .getfield 43, 8, 10, 0), (40, .iconst 2, 0, 0, 0)]
def tB81_1 : List (Nat × ab_I) := [(41, .iadd, 0, 0, 0), (42, .goto 9, 51, 0, 0), (45, .aload_n 0, 0, 0, 0), (46, .getfield 43, 8, 10, 0), (49, .iconst 1, 0, 0, 0), (50, .iadd, 0, 0, 0), (51, .istore 4, 0, 0, 0), (53, .iload 4, 0, 0, 0), (55, .istore 5, 0, 0, 0), (57, .iload 5, 0, 0, 0), (59, .aload_n 0, 0, 0, 0), (60, .getfield 39, 8, 9, 0), (63, .if_icmp .ge 35, 98, 0, 0), (66, .aload_n 0, 0, 0, 0), (67, .getfield 31, 8, 8, 0), (70, .iload 5, 0, 0, 0), (72, .baload, 0, 0, 0), (73, .invokestatic 98, 80, 1, 0), (76, .ifCond .ne 16, 92, 0, 0), (79, .aload_n 0, 0, 0, 0), (80, .getfield 31, 8, 8, 0), (83, .iload 5, 0, 0, 0), (85, .baload, 0, 0, 0), (86, .invokestatic 161, 47, 1, 0)]
def tB81_2 : List (Nat × ab_I) := [(89, .ifCond .eq 9, 98, 0, 0), (92, .iinc 5 1, 0, 0, 0), (95, .goto (-38), 57, 0, 0), (98, .aload_n 0, 0, 0, 0), (99, .getfield 31, 8, 8, 0), (102, .iload 4, 0, 0, 0), (104, .iload 5, 0, 0, 0), (106, .invokestatic 164, 82, 3, 0), (109, .lstore 6, 0, 0, 0), (111, .aload_n 0, 0, 0, 0), (112, .getfield 27, 8, 7, 0), (115, .iconst 0, 0, 0, 0), (116, .putfield 168, 7, 12, 1), (119, .iconst 0, 0, 0, 0), (120, .istore 8, 0, 0, 0), (122, .iload 8, 0, 0, 0), (124, .aload_n 0, 0, 0, 0), (125, .getfield 39, 8, 9, 0), (128, .if_icmp .ge 71, 199, 0, 0), (131, .iload 5, 0, 0, 0), (133, .aload_n 0, 0, 0, 0), (134, .getfield 39, 8, 9, 0), (137, .if_icmp .ge 62, 199, 0, 0), (140, .aload_n 0, 0, 0, 0)]
def tB81_3 : List (Nat × ab_I) := [(141, .getfield 31, 8, 8, 0), (144, .iload 5, 0, 0, 0), (146, .baload, 0, 0, 0), (147, .bipush 62, 0, 0, 0), (149, .if_icmp .eq 50, 199, 0, 0), (152, .aload_n 0, 0, 0, 0), (153, .getfield 31, 8, 8, 0), (156, .iload 5, 0, 0, 0), (158, .baload, 0, 0, 0), (159, .invokestatic 135, 43, 1, 0), (162, .ifCond .ne 15, 177, 0, 0), (165, .aload_n 0, 0, 0, 0), (166, .getfield 31, 8, 8, 0), (169, .iload 5, 0, 0, 0), (171, .baload, 0, 0, 0), (172, .bipush 47, 0, 0, 0), (174, .if_icmp .ne 10, 184, 0, 0), (177, .iload 5, 0, 0, 0), (179, .iconst 1, 0, 0, 0), (180, .iadd, 0, 0, 0), (181, .goto 10, 191, 0, 0), (184, .aload_n 0, 0, 0, 0), (185, .iload 5, 0, 0, 0), (187, .iload_n 3, 0, 0, 0)]
def tB81_4 : List (Nat × ab_I) := [(188, .invokevirtual 171, 83, 2, 0), (191, .istore 5, 0, 0, 0), (193, .iinc 8 1, 0, 0, 0), (196, .goto (-74), 122, 0, 0), (199, .iload 5, 0, 0, 0), (201, .aload_n 0, 0, 0, 0), (202, .getfield 39, 8, 9, 0), (205, .if_icmp .lt 23, 228, 0, 0), (208, .aload_n 0, 0, 0, 0), (209, .iload_n 2, 0, 0, 0), (210, .putfield 46, 8, 3, 0), (213, .aload_n 0, 0, 0, 0), (214, .iconst 1, 0, 0, 0), (215, .iload_n 1, 0, 0, 0), (216, .invokevirtual 105, 75, 2, 0), (219, .aload_n 0, 0, 0, 0), (220, .aload_n 0, 0, 0, 0), (221, .getfield 39, 8, 9, 0), (224, .putfield 43, 8, 10, 0), (227, .return_, 0, 0, 0), (228, .aload_n 0, 0, 0, 0), (229, .iload 5, 0, 0, 0), (231, .iconst 1, 0, 0, 0), (232, .iadd, 0, 0, 0)]
def tB81_5 : List (Nat × ab_I) := [(233, .putfield 43, 8, 10, 0), (236, .iload_n 3, 0, 0, 0), (237, .ifCond .eq 13, 250, 0, 0), (240, .aload_n 0, 0, 0, 0), (241, .lload 6, 0, 0, 0), (243, .iload_n 1, 0, 0, 0), (244, .invokevirtual 175, 88, 2, 0), (247, .goto 10, 257, 0, 0), (250, .aload_n 0, 0, 0, 0), (251, .lload 6, 0, 0, 0), (253, .iload_n 1, 0, 0, 0), (254, .invokevirtual 179, 90, 2, 0), (257, .return_, 0, 0, 0)]
def tI81 : ab_T := [(40, tB81_0), (86, tB81_1), (140, tB81_2), (187, tB81_3), (232, tB81_4), (257, tB81_5)]
set_option maxRecDepth 100000 in
theorem tC81 : ab_ck (ab_lkB ab_mt ab_kb lL9 mM81) mM81.2.1.data.toList 0 (ab_flat tI81) = true := by decide +kernel
set_option maxRecDepth 100000 in
theorem tS81 : ab_swB mM81.2.1 (ab_flat tI81) = true := by decide +kernel
theorem tO81 : ab_MOK 81 tI81 := ab_allOK (M := mM81) rfl lL9_ok tC81 tS81
def tB82_0 : List (Nat × ab_I) := [(0, .lconst 0, 0, 0, 0), (1, .lstore_n 3, 0, 0, 0), (2, .iload_n 1, 0, 0, 0), (3, .istore 5, 0, 0, 0), (5, .iload 5, 0, 0, 0), (7, .iload_n 2, 0, 0, 0), (8, .if_icmp .ge 69, 77, 0, 0), (11, .iload 5, 0, 0, 0), (13, .iload_n 1, 0, 0, 0), (14, .bipush 8, 0, 0, 0), (16, .iadd, 0, 0, 0), (17, .if_icmp .ge 60, 77, 0, 0), (20, .aload_n 0, 0, 0, 0), (21, .iload 5, 0, 0, 0), (23, .baload, 0, 0, 0), (24, .bipush 65, 0, 0, 0), (26, .if_icmp .lt 16, 42, 0, 0), (29, .aload_n 0, 0, 0, 0), (30, .iload 5, 0, 0, 0), (32, .baload, 0, 0, 0), (33, .bipush 90, 0, 0, 0), (35, .if_icmp .gt 7, 42, 0, 0), (38, .iconst 1, 0, 0, 0), (39, .goto 4, 43, 0, 0)]
def tB82_1 : List (Nat × ab_I) := [(42, .iconst 0, 0, 0, 0), (43, .istore 6, 0, 0, 0), (45, .lload_n 3, 0, 0, 0), (46, .bipush 8, 0, 0, 0), (48, .lshl, 0, 0, 0), (49, .iload 6, 0, 0, 0), (51, .ifCond .eq 13, 64, 0, 0), (54, .aload_n 0, 0, 0, 0), (55, .iload 5, 0, 0, 0), (57, .baload, 0, 0, 0), (58, .bipush 32, 0, 0, 0), (60, .iadd, 0, 0, 0), (61, .goto 7, 68, 0, 0), (64, .aload_n 0, 0, 0, 0), (65, .iload 5, 0, 0, 0), (67, .baload, 0, 0, 0), (68, .i2l, 0, 0, 0), (69, .lor, 0, 0, 0), (70, .lstore_n 3, 0, 0, 0), (71, .iinc 5 1, 0, 0, 0), (74, .goto (-69), 5, 0, 0), (77, .lload_n 3, 0, 0, 0), (78, .lreturn, 0, 0, 0)]
def tI82 : ab_T := [(39, tB82_0), (78, tB82_1)]
set_option maxRecDepth 100000 in
theorem tC82 : ab_ck (ab_lkB ab_mt ab_kb lL5 mM82) mM82.2.1.data.toList 0 (ab_flat tI82) = true := by decide +kernel
set_option maxRecDepth 100000 in
theorem tS82 : ab_swB mM82.2.1 (ab_flat tI82) = true := by decide +kernel
theorem tO82 : ab_MOK 82 tI82 := ab_allOK (M := mM82) rfl lL5_ok tC82 tS82
def tB83_0 : List (Nat × ab_I) := [(0, .iload_n 1, 0, 0, 0), (1, .iconst 1, 0, 0, 0), (2, .iadd, 0, 0, 0), (3, .istore_n 3, 0, 0, 0), (4, .iload_n 3, 0, 0, 0), (5, .aload_n 0, 0, 0, 0), (6, .getfield 39, 8, 9, 0), (9, .if_icmp .ge 54, 63, 0, 0), (12, .aload_n 0, 0, 0, 0), (13, .getfield 31, 8, 8, 0), (16, .iload_n 3, 0, 0, 0), (17, .baload, 0, 0, 0), (18, .bipush 61, 0, 0, 0), (20, .if_icmp .eq 43, 63, 0, 0), (23, .aload_n 0, 0, 0, 0), (24, .getfield 31, 8, 8, 0), (27, .iload_n 3, 0, 0, 0), (28, .baload, 0, 0, 0), (29, .bipush 47, 0, 0, 0), (31, .if_icmp .eq 32, 63, 0, 0), (34, .aload_n 0, 0, 0, 0), (35, .getfield 31, 8, 8, 0), (38, .iload_n 3, 0, 0, 0), (39, .baload, 0, 0, 0)]
def tB83_1 : List (Nat × ab_I) := [(40, .bipush 62, 0, 0, 0), (42, .if_icmp .eq 21, 63, 0, 0), (45, .aload_n 0, 0, 0, 0), (46, .getfield 31, 8, 8, 0), (49, .iload_n 3, 0, 0, 0), (50, .baload, 0, 0, 0), (51, .invokestatic 135, 43, 1, 0), (54, .ifCond .ne 9, 63, 0, 0), (57, .iinc 3 1, 0, 0, 0), (60, .goto (-56), 4, 0, 0), (63, .aload_n 0, 0, 0, 0), (64, .getfield 31, 8, 8, 0), (67, .iload_n 1, 0, 0, 0), (68, .iload_n 3, 0, 0, 0), (69, .invokestatic 164, 82, 3, 0), (72, .lstore 4, 0, 0, 0), (74, .iload_n 3, 0, 0, 0), (75, .istore 6, 0, 0, 0), (77, .iload_n 3, 0, 0, 0), (78, .istore 7, 0, 0, 0), (80, .iload_n 3, 0, 0, 0), (81, .aload_n 0, 0, 0, 0), (82, .getfield 39, 8, 9, 0), (85, .if_icmp .ge 121, 206, 0, 0)]
def tB83_2 : List (Nat × ab_I) := [(88, .aload_n 0, 0, 0, 0), (89, .getfield 31, 8, 8, 0), (92, .iload_n 3, 0, 0, 0), (93, .baload, 0, 0, 0), (94, .bipush 61, 0, 0, 0), (96, .if_icmp .ne 110, 206, 0, 0), (99, .iload_n 3, 0, 0, 0), (100, .iconst 1, 0, 0, 0), (101, .iadd, 0, 0, 0), (102, .istore 6, 0, 0, 0), (104, .iload 6, 0, 0, 0), (106, .aload_n 0, 0, 0, 0), (107, .getfield 39, 8, 9, 0), (110, .if_icmp .ge 31, 141, 0, 0), (113, .aload_n 0, 0, 0, 0), (114, .getfield 31, 8, 8, 0), (117, .iload 6, 0, 0, 0), (119, .baload, 0, 0, 0), (120, .bipush 34, 0, 0, 0), (122, .if_icmp .eq 15, 137, 0, 0), (125, .aload_n 0, 0, 0, 0), (126, .getfield 31, 8, 8, 0), (129, .iload 6, 0, 0, 0), (131, .baload, 0, 0, 0)]
def tB83_3 : List (Nat × ab_I) := [(132, .bipush 39, 0, 0, 0), (134, .if_icmp .ne 7, 141, 0, 0), (137, .iconst 1, 0, 0, 0), (138, .goto 4, 142, 0, 0), (141, .iconst 0, 0, 0, 0), (142, .istore 8, 0, 0, 0), (144, .iload 8, 0, 0, 0), (146, .ifCond .eq 10, 156, 0, 0), (149, .iload 6, 0, 0, 0), (151, .iconst 1, 0, 0, 0), (152, .iadd, 0, 0, 0), (153, .goto 5, 158, 0, 0), (156, .iload 6, 0, 0, 0), (158, .istore 6, 0, 0, 0), (160, .iload 8, 0, 0, 0), (162, .ifCond .eq 21, 183, 0, 0), (165, .aload_n 0, 0, 0, 0), (166, .iload 6, 0, 0, 0), (168, .aload_n 0, 0, 0, 0), (169, .getfield 31, 8, 8, 0), (172, .iload 6, 0, 0, 0), (174, .iconst 1, 0, 0, 0), (175, .isub, 0, 0, 0), (176, .baload, 0, 0, 0)]
def tB83_4 : List (Nat × ab_I) := [(177, .invokevirtual 182, 84, 2, 0), (180, .goto 9, 189, 0, 0), (183, .aload_n 0, 0, 0, 0), (184, .iload 6, 0, 0, 0), (186, .invokevirtual 185, 85, 1, 0), (189, .istore 7, 0, 0, 0), (191, .iload 8, 0, 0, 0), (193, .ifCond .eq 10, 203, 0, 0), (196, .iload 7, 0, 0, 0), (198, .iconst 1, 0, 0, 0), (199, .iadd, 0, 0, 0), (200, .goto 5, 205, 0, 0), (203, .iload 7, 0, 0, 0), (205, .istore_n 3, 0, 0, 0), (206, .iload_n 3, 0, 0, 0), (207, .aload_n 0, 0, 0, 0), (208, .getfield 39, 8, 9, 0), (211, .if_icmp .ge 7, 218, 0, 0), (214, .iload_n 2, 0, 0, 0), (215, .ifCond .eq 5, 220, 0, 0), (218, .iload_n 3, 0, 0, 0), (219, .ireturn, 0, 0, 0), (220, .aload_n 0, 0, 0, 0), (221, .getfield 27, 8, 7, 0)]
def tB83_5 : List (Nat × ab_I) := [(224, .lload 4, 0, 0, 0), (226, .invokevirtual 188, 86, 1, 0), (229, .ifnonnull 15, 244, 0, 0), (232, .aload_n 0, 0, 0, 0), (233, .getfield 27, 8, 7, 0), (236, .lload 4, 0, 0, 0), (238, .invokevirtual 192, 87, 1, 0), (241, .goto 4, 245, 0, 0), (244, .aconst_null, 0, 0, 0), (245, .astore 8, 0, 0, 0), (247, .aload 8, 0, 0, 0), (249, .ifnonnull 12, 261, 0, 0), (252, .aload_n 0, 0, 0, 0), (253, .iconst 2, 0, 0, 0), (254, .iload_n 1, 0, 0, 0), (255, .invokevirtual 105, 75, 2, 0), (258, .goto 15, 273, 0, 0), (261, .aload_n 0, 0, 0, 0), (262, .iload 6, 0, 0, 0), (264, .iload 7, 0, 0, 0), (266, .iconst 1, 0, 0, 0), (267, .aload 8, 0, 0, 0), (269, .invokevirtual 131, 76, 4, 0), (272, .pop, 0, 0, 0)]
def tB83_6 : List (Nat × ab_I) := [(273, .iload_n 3, 0, 0, 0), (274, .ireturn, 0, 0, 0)]
def tI83 : ab_T := [(39, tB83_0), (85, tB83_1), (131, tB83_2), (176, tB83_3), (221, tB83_4), (272, tB83_5), (274, tB83_6)]
set_option maxRecDepth 100000 in
theorem tC83 : ab_ck (ab_lkB ab_mt ab_kb lL9 mM83) mM83.2.1.data.toList 0 (ab_flat tI83) = true := by decide +kernel
set_option maxRecDepth 100000 in
theorem tS83 : ab_swB mM83.2.1 (ab_flat tI83) = true := by decide +kernel
theorem tO83 : ab_MOK 83 tI83 := ab_allOK (M := mM83) rfl lL9_ok tC83 tS83
def tB84_0 : List (Nat × ab_I) := [(0, .iload_n 1, 0, 0, 0), (1, .istore_n 3, 0, 0, 0), (2, .iload_n 3, 0, 0, 0), (3, .aload_n 0, 0, 0, 0), (4, .getfield 39, 8, 9, 0), (7, .if_icmp .ge 19, 26, 0, 0), (10, .aload_n 0, 0, 0, 0), (11, .getfield 31, 8, 8, 0), (14, .iload_n 3, 0, 0, 0), (15, .baload, 0, 0, 0), (16, .iload_n 2, 0, 0, 0), (17, .if_icmp .eq 9, 26, 0, 0), (20, .iinc 3 1, 0, 0, 0), (23, .goto (-21), 2, 0, 0), (26, .iload_n 3, 0, 0, 0), (27, .ireturn, 0, 0, 0)]
def tI84 : ab_T := [(27, tB84_0)]
set_option maxRecDepth 100000 in
theorem tC84 : ab_ck (ab_lkB ab_mt ab_kb lL9 mM84) mM84.2.1.data.toList 0 (ab_flat tI84) = true := by decide +kernel
set_option maxRecDepth 100000 in
theorem tS84 : ab_swB mM84.2.1 (ab_flat tI84) = true := by decide +kernel
theorem tO84 : ab_MOK 84 tI84 := ab_allOK (M := mM84) rfl lL9_ok tC84 tS84
def tB85_0 : List (Nat × ab_I) := [(0, .iload_n 1, 0, 0, 0), (1, .istore_n 2, 0, 0, 0), (2, .iload_n 2, 0, 0, 0), (3, .aload_n 0, 0, 0, 0), (4, .getfield 39, 8, 9, 0), (7, .if_icmp .ge 32, 39, 0, 0), (10, .aload_n 0, 0, 0, 0), (11, .getfield 31, 8, 8, 0), (14, .iload_n 2, 0, 0, 0), (15, .baload, 0, 0, 0), (16, .bipush 62, 0, 0, 0), (18, .if_icmp .eq 21, 39, 0, 0), (21, .aload_n 0, 0, 0, 0), (22, .getfield 31, 8, 8, 0), (25, .iload_n 2, 0, 0, 0), (26, .baload, 0, 0, 0), (27, .invokestatic 135, 43, 1, 0), (30, .ifCond .ne 9, 39, 0, 0), (33, .iinc 2 1, 0, 0, 0), (36, .goto (-34), 2, 0, 0), (39, .iload_n 2, 0, 0, 0), (40, .ireturn, 0, 0, 0)]
def tI85 : ab_T := [(40, tB85_0)]
set_option maxRecDepth 100000 in
theorem tC85 : ab_ck (ab_lkB ab_mt ab_kb lL9 mM85) mM85.2.1.data.toList 0 (ab_flat tI85) = true := by decide +kernel
set_option maxRecDepth 100000 in
theorem tS85 : ab_swB mM85.2.1 (ab_flat tI85) = true := by decide +kernel
theorem tO85 : ab_MOK 85 tI85 := ab_allOK (M := mM85) rfl lL9_ok tC85 tS85
def tB86_0 : List (Nat × ab_I) := [(0, .iconst 0, 0, 0, 0), (1, .istore_n 3, 0, 0, 0), (2, .iload_n 3, 0, 0, 0), (3, .aload_n 0, 0, 0, 0), (4, .getfield 44, 7, 12, 0), (7, .if_icmp .ge 27, 34, 0, 0), (10, .aload_n 0, 0, 0, 0), (11, .getfield 36, 7, 13, 0), (14, .iload_n 3, 0, 0, 0), (15, .laload, 0, 0, 0), (16, .lload_n 1, 0, 0, 0), (17, .lcmp, 0, 0, 0), (18, .ifCond .ne 10, 28, 0, 0), (21, .aload_n 0, 0, 0, 0), (22, .getfield 40, 7, 14, 0), (25, .iload_n 3, 0, 0, 0), (26, .aaload, 0, 0, 0), (27, .areturn, 0, 0, 0), (28, .iinc 3 1, 0, 0, 0), (31, .goto (-29), 2, 0, 0), (34, .aconst_null, 0, 0, 0), (35, .areturn, 0, 0, 0)]
def tI86 : ab_T := [(35, tB86_0)]
set_option maxRecDepth 100000 in
theorem tC86 : ab_ck (ab_lkB ab_mt ab_kb lL8 mM86) mM86.2.1.data.toList 0 (ab_flat tI86) = true := by decide +kernel
set_option maxRecDepth 100000 in
theorem tS86 : ab_swB mM86.2.1 (ab_flat tI86) = true := by decide +kernel
theorem tO86 : ab_MOK 86 tI86 := ab_allOK (M := mM86) rfl lL8_ok tC86 tS86
def tB87_0 : List (Nat × ab_I) := [(0, .aload_n 0, 0, 0, 0), (1, .getfield 44, 7, 12, 0), (4, .iconst 4, 0, 0, 0), (5, .if_icmp .ne 5, 10, 0, 0), (8, .aconst_null, 0, 0, 0), (9, .areturn, 0, 0, 0), (10, .aload_n 0, 0, 0, 0), (11, .getfield 36, 7, 13, 0), (14, .aload_n 0, 0, 0, 0), (15, .getfield 44, 7, 12, 0), (18, .lload_n 1, 0, 0, 0), (19, .lastore, 0, 0, 0), (20, .aload_n 0, 0, 0, 0), (21, .getfield 40, 7, 14, 0), (24, .aload_n 0, 0, 0, 0), (25, .getfield 44, 7, 12, 0), (28, .aaload, 0, 0, 0), (29, .astore_n 3, 0, 0, 0), (30, .aload_n 3, 0, 0, 0), (31, .invokevirtual 55, 31, 0, 0), (34, .aload_n 0, 0, 0, 0), (35, .dup, 0, 0, 0), (36, .getfield 44, 7, 12, 0), (39, .iconst 1, 0, 0, 0)]
def tB87_1 : List (Nat × ab_I) := [(40, .iadd, 0, 0, 0), (41, .putfield 44, 7, 12, 0), (44, .aload_n 3, 0, 0, 0), (45, .areturn, 0, 0, 0)]
def tI87 : ab_T := [(39, tB87_0), (45, tB87_1)]
set_option maxRecDepth 100000 in
theorem tC87 : ab_ck (ab_lkB ab_mt ab_kb lL8 mM87) mM87.2.1.data.toList 0 (ab_flat tI87) = true := by decide +kernel
set_option maxRecDepth 100000 in
theorem tS87 : ab_swB mM87.2.1 (ab_flat tI87) = true := by decide +kernel
theorem tO87 : ab_MOK 87 tI87 := ab_allOK (M := mM87) rfl lL8_ok tC87 tS87
def tB88_0 : List (Nat × ab_I) := [(0, .aload_n 0, 0, 0, 0), (1, .getfield 57, 8, 6, 0), (4, .iconst 1, 0, 0, 0), (5, .isub, 0, 0, 0), (6, .istore 4, 0, 0, 0), (8, .iload 4, 0, 0, 0), (10, .ifCond .le 32, 42, 0, 0), (13, .aload_n 0, 0, 0, 0), (14, .getfield 35, 8, 0, 0), (17, .getfield 60, 10, 0, 1), (20, .aload_n 0, 0, 0, 0), (21, .getfield 18, 8, 4, 0), (24, .iload 4, 0, 0, 0), (26, .iaload, 0, 0, 0), (27, .aaload, 0, 0, 0), (28, .getfield 216, 7, 1, 1), (31, .lload_n 1, 0, 0, 0), (32, .lcmp, 0, 0, 0), (33, .ifCond .eq 9, 42, 0, 0), (36, .iinc 4 (-1), 0, 0, 0), (39, .goto (-31), 8, 0, 0), (42, .iload 4, 0, 0, 0), (44, .ifCond .ne 12, 56, 0, 0), (47, .aload_n 0, 0, 0, 0)]
def tB88_1 : List (Nat × ab_I) := [(48, .iconst 3, 0, 0, 0), (49, .iload_n 3, 0, 0, 0), (50, .invokevirtual 105, 75, 2, 0), (53, .goto 9, 62, 0, 0), (56, .aload_n 0, 0, 0, 0), (57, .iload 4, 0, 0, 0), (59, .invokevirtual 94, 89, 1, 0), (62, .return_, 0, 0, 0)]
def tI88 : ab_T := [(47, tB88_0), (62, tB88_1)]
set_option maxRecDepth 100000 in
theorem tC88 : ab_ck (ab_lkB ab_mt ab_kb lL9 mM88) mM88.2.1.data.toList 0 (ab_flat tI88) = true := by decide +kernel
set_option maxRecDepth 100000 in
theorem tS88 : ab_swB mM88.2.1 (ab_flat tI88) = true := by decide +kernel
theorem tO88 : ab_MOK 88 tI88 := ab_allOK (M := mM88) rfl lL9_ok tC88 tS88
def tB89_0 : List (Nat × ab_I) := [(0, .aload_n 0, 0, 0, 0), (1, .getfield 57, 8, 6, 0), (4, .iload_n 1, 0, 0, 0), (5, .iconst 1, 0, 0, 0), (6, .iadd, 0, 0, 0), (7, .if_icmp .le 65, 72, 0, 0), (10, .aload_n 0, 0, 0, 0), (11, .getfield 35, 8, 0, 0), (14, .getfield 60, 10, 0, 1), (17, .aload_n 0, 0, 0, 0), (18, .getfield 18, 8, 4, 0), (21, .aload_n 0, 0, 0, 0), (22, .getfield 57, 8, 6, 0), (25, .iconst 1, 0, 0, 0), (26, .isub, 0, 0, 0), (27, .iaload, 0, 0, 0), (28, .aaload, 0, 0, 0), (29, .getfield 64, 7, 0, 1), (32, .istore_n 2, 0, 0, 0), (33, .iload_n 2, 0, 0, 0), (34, .iconst 1, 0, 0, 0), (35, .if_icmp .eq 24, 59, 0, 0), (38, .iload_n 2, 0, 0, 0), (39, .iconst 4, 0, 0, 0)]
def tB89_1 : List (Nat × ab_I) := [(40, .if_icmp .eq 19, 59, 0, 0), (43, .aload_n 0, 0, 0, 0), (44, .iconst 4, 0, 0, 0), (45, .aload_n 0, 0, 0, 0), (46, .getfield 21, 8, 5, 0), (49, .aload_n 0, 0, 0, 0), (50, .getfield 57, 8, 6, 0), (53, .iconst 1, 0, 0, 0), (54, .isub, 0, 0, 0), (55, .iaload, 0, 0, 0), (56, .invokevirtual 105, 75, 2, 0), (59, .aload_n 0, 0, 0, 0), (60, .dup, 0, 0, 0), (61, .getfield 57, 8, 6, 0), (64, .iconst 1, 0, 0, 0), (65, .isub, 0, 0, 0), (66, .putfield 57, 8, 6, 0), (69, .goto (-69), 0, 0, 0), (72, .aload_n 0, 0, 0, 0), (73, .iload_n 1, 0, 0, 0), (74, .putfield 57, 8, 6, 0), (77, .return_, 0, 0, 0)]
def tI89 : ab_T := [(39, tB89_0), (77, tB89_1)]
set_option maxRecDepth 100000 in
theorem tC89 : ab_ck (ab_lkB ab_mt ab_kb lL9 mM89) mM89.2.1.data.toList 0 (ab_flat tI89) = true := by decide +kernel
set_option maxRecDepth 100000 in
theorem tS89 : ab_swB mM89.2.1 (ab_flat tI89) = true := by decide +kernel
theorem tO89 : ab_MOK 89 tI89 := ab_allOK (M := mM89) rfl lL9_ok tC89 tS89
def tB90_0 : List (Nat × ab_I) := [(0, .aload_n 0, 0, 0, 0), (1, .getfield 35, 8, 0, 0), (4, .lload_n 1, 0, 0, 0), (5, .invokevirtual 195, 91, 1, 0), (8, .istore 4, 0, 0, 0), (10, .iload 4, 0, 0, 0), (12, .iconst 5, 0, 0, 0), (13, .if_icmp .le 10, 23, 0, 0), (16, .iload 4, 0, 0, 0), (18, .bipush 11, 0, 0, 0), (20, .if_icmp .ne 9, 29, 0, 0), (23, .aload_n 0, 0, 0, 0), (24, .iconst 1, 0, 0, 0), (25, .invokevirtual 199, 92, 1, 0), (28, .pop, 0, 0, 0), (29, .iload 4, 0, 0, 0), (31, .iconst 4, 0, 0, 0), (32, .if_icmp .ne 22, 54, 0, 0), (35, .aload_n 0, 0, 0, 0), (36, .iconst 4, 0, 0, 0), (37, .invokevirtual 202, 93, 1, 0), (40, .aload_n 0, 0, 0, 0), (41, .iconst 3, 0, 0, 0), (42, .invokevirtual 202, 93, 1, 0)]
def tB90_1 : List (Nat × ab_I) := [(45, .if_icmp .le 9, 54, 0, 0), (48, .aload_n 0, 0, 0, 0), (49, .iconst 4, 0, 0, 0), (50, .invokevirtual 199, 92, 1, 0), (53, .pop, 0, 0, 0), (54, .iload 4, 0, 0, 0), (56, .bipush 7, 0, 0, 0), (58, .if_icmp .ne 18, 76, 0, 0), (61, .aload_n 0, 0, 0, 0), (62, .bipush 7, 0, 0, 0), (64, .invokevirtual 199, 92, 1, 0), (67, .ifCond .eq 9, 76, 0, 0), (70, .aload_n 0, 0, 0, 0), (71, .iconst 5, 0, 0, 0), (72, .iload_n 3, 0, 0, 0), (73, .invokevirtual 105, 75, 2, 0), (76, .aload_n 0, 0, 0, 0), (77, .getfield 18, 8, 4, 0), (80, .aload_n 0, 0, 0, 0), (81, .getfield 57, 8, 6, 0), (84, .iconst 1, 0, 0, 0), (85, .isub, 0, 0, 0), (86, .iaload, 0, 0, 0), (87, .istore 5, 0, 0, 0)]
def tB90_2 : List (Nat × ab_I) := [(89, .aload_n 0, 0, 0, 0), (90, .getfield 35, 8, 0, 0), (93, .iload 5, 0, 0, 0), (95, .invokevirtual 120, 74, 1, 0), (98, .ifCond .ne 11, 109, 0, 0), (101, .aload_n 0, 0, 0, 0), (102, .bipush 6, 0, 0, 0), (104, .iload_n 3, 0, 0, 0), (105, .invokevirtual 105, 75, 2, 0), (108, .return_, 0, 0, 0), (109, .aload_n 0, 0, 0, 0), (110, .getfield 35, 8, 0, 0), (113, .iload 5, 0, 0, 0), (115, .iload 4, 0, 0, 0), (117, .lload_n 1, 0, 0, 0), (118, .invokevirtual 123, 30, 3, 0), (121, .istore 6, 0, 0, 0), (123, .aload_n 0, 0, 0, 0), (124, .getfield 35, 8, 0, 0), (127, .getfield 60, 10, 0, 1), (130, .iload 6, 0, 0, 0), (132, .aaload, 0, 0, 0), (133, .astore 7, 0, 0, 0), (135, .aload 7, 0, 0, 0)]
def tB90_3 : List (Nat × ab_I) := [(137, .aload_n 0, 0, 0, 0), (138, .getfield 27, 8, 7, 0), (141, .invokevirtual 205, 94, 1, 0), (144, .iload 4, 0, 0, 0), (146, .bipush 13, 0, 0, 0), (148, .if_icmp .ne 8, 156, 0, 0), (151, .aload 7, 0, 0, 0), (153, .invokevirtual 209, 95, 0, 0), (156, .aload 7, 0, 0, 0), (158, .invokevirtual 212, 98, 0, 0), (161, .ifCond .ne 46, 207, 0, 0), (164, .aload_n 0, 0, 0, 0), (165, .getfield 57, 8, 6, 0), (168, .aload_n 0, 0, 0, 0), (169, .getfield 18, 8, 4, 0), (172, .arraylength, 0, 0, 0), (173, .if_icmp .ge 34, 207, 0, 0), (176, .aload_n 0, 0, 0, 0), (177, .getfield 18, 8, 4, 0), (180, .aload_n 0, 0, 0, 0), (181, .getfield 57, 8, 6, 0), (184, .iload 6, 0, 0, 0), (186, .iastore, 0, 0, 0), (187, .aload_n 0, 0, 0, 0)]
def tB90_4 : List (Nat × ab_I) := [(188, .getfield 21, 8, 5, 0), (191, .aload_n 0, 0, 0, 0), (192, .getfield 57, 8, 6, 0), (195, .iload_n 3, 0, 0, 0), (196, .iastore, 0, 0, 0), (197, .aload_n 0, 0, 0, 0), (198, .dup, 0, 0, 0), (199, .getfield 57, 8, 6, 0), (202, .iconst 1, 0, 0, 0), (203, .iadd, 0, 0, 0), (204, .putfield 57, 8, 6, 0), (207, .return_, 0, 0, 0)]
def tI90 : ab_T := [(42, tB90_0), (87, tB90_1), (135, tB90_2), (187, tB90_3), (207, tB90_4)]
set_option maxRecDepth 100000 in
theorem tC90 : ab_ck (ab_lkB ab_mt ab_kb lL9 mM90) mM90.2.1.data.toList 0 (ab_flat tI90) = true := by decide +kernel
set_option maxRecDepth 100000 in
theorem tS90 : ab_swB mM90.2.1 (ab_flat tI90) = true := by decide +kernel
theorem tO90 : ab_MOK 90 tI90 := ab_allOK (M := mM90) rfl lL9_ok tC90 tS90
def tB91_0 : List (Nat × ab_I) := [(0, .iconst 0, 0, 0, 0), (1, .istore_n 3, 0, 0, 0), (2, .iload_n 3, 0, 0, 0), (3, .bipush 16, 0, 0, 0), (5, .if_icmp .ge 20, 25, 0, 0), (8, .aload_n 0, 0, 0, 0), (9, .getfield 17, 10, 1, 0), (12, .iload_n 3, 0, 0, 0), (13, .laload, 0, 0, 0), (14, .lload_n 1, 0, 0, 0), (15, .lcmp, 0, 0, 0), (16, .ifCond .eq 9, 25, 0, 0), (19, .iinc 3 1, 0, 0, 0), (22, .goto (-20), 2, 0, 0), (25, .iload_n 3, 0, 0, 0), (26, .ireturn, 0, 0, 0)]
def tI91 : ab_T := [(26, tB91_0)]
set_option maxRecDepth 100000 in
theorem tC91 : ab_ck (ab_lkB ab_mt ab_kb lL11 mM91) mM91.2.1.data.toList 0 (ab_flat tI91) = true := by decide +kernel
set_option maxRecDepth 100000 in
theorem tS91 : ab_swB mM91.2.1 (ab_flat tI91) = true := by decide +kernel
theorem tO91 : ab_MOK 91 tI91 := ab_allOK (M := mM91) rfl lL11_ok tC91 tS91
def tB92_0 : List (Nat × ab_I) := [(0, .aload_n 0, 0, 0, 0), (1, .iload_n 1, 0, 0, 0), (2, .invokevirtual 202, 93, 1, 0), (5, .istore_n 2, 0, 0, 0), (6, .iload_n 2, 0, 0, 0), (7, .ifCond .le 8, 15, 0, 0), (10, .aload_n 0, 0, 0, 0), (11, .iload_n 2, 0, 0, 0), (12, .invokevirtual 94, 89, 1, 0), (15, .iload_n 2, 0, 0, 0), (16, .ifCond .le 7, 23, 0, 0), (19, .iconst 1, 0, 0, 0), (20, .goto 4, 24, 0, 0), (23, .iconst 0, 0, 0, 0), (24, .ireturn, 0, 0, 0)]
def tI92 : ab_T := [(24, tB92_0)]
set_option maxRecDepth 100000 in
theorem tC92 : ab_ck (ab_lkB ab_mt ab_kb lL9 mM92) mM92.2.1.data.toList 0 (ab_flat tI92) = true := by decide +kernel
set_option maxRecDepth 100000 in
theorem tS92 : ab_swB mM92.2.1 (ab_flat tI92) = true := by decide +kernel
theorem tO92 : ab_MOK 92 tI92 := ab_allOK (M := mM92) rfl lL9_ok tC92 tS92
def tB93_0 : List (Nat × ab_I) := [(0, .aload_n 0, 0, 0, 0), (1, .getfield 57, 8, 6, 0), (4, .iconst 1, 0, 0, 0), (5, .isub, 0, 0, 0), (6, .istore_n 2, 0, 0, 0), (7, .iload_n 2, 0, 0, 0), (8, .ifCond .le 30, 38, 0, 0), (11, .aload_n 0, 0, 0, 0), (12, .getfield 35, 8, 0, 0), (15, .getfield 60, 10, 0, 1), (18, .aload_n 0, 0, 0, 0), (19, .getfield 18, 8, 4, 0), (22, .iload_n 2, 0, 0, 0), (23, .iaload, 0, 0, 0), (24, .aaload, 0, 0, 0), (25, .getfield 64, 7, 0, 1), (28, .iload_n 1, 0, 0, 0), (29, .if_icmp .eq 9, 38, 0, 0), (32, .iinc 2 (-1), 0, 0, 0), (35, .goto (-28), 7, 0, 0), (38, .iload_n 2, 0, 0, 0), (39, .ireturn, 0, 0, 0)]
def tI93 : ab_T := [(39, tB93_0)]
set_option maxRecDepth 100000 in
theorem tC93 : ab_ck (ab_lkB ab_mt ab_kb lL9 mM93) mM93.2.1.data.toList 0 (ab_flat tI93) = true := by decide +kernel
set_option maxRecDepth 100000 in
theorem tS93 : ab_swB mM93.2.1 (ab_flat tI93) = true := by decide +kernel
theorem tO93 : ab_MOK 93 tI93 := ab_allOK (M := mM93) rfl lL9_ok tC93 tS93
def tB94_0 : List (Nat × ab_I) := [(0, .aload_n 0, 0, 0, 0), (1, .aload_n 1, 0, 0, 0), (2, .getfield 44, 7, 12, 0), (5, .putfield 44, 7, 12, 0), (8, .iconst 0, 0, 0, 0), (9, .istore_n 2, 0, 0, 0), (10, .iload_n 2, 0, 0, 0), (11, .aload_n 0, 0, 0, 0), (12, .getfield 44, 7, 12, 0), (15, .if_icmp .ge 58, 73, 0, 0), (18, .aload_n 0, 0, 0, 0), (19, .getfield 36, 7, 13, 0), (22, .iload_n 2, 0, 0, 0), (23, .aload_n 1, 0, 0, 0), (24, .getfield 36, 7, 13, 0), (27, .iload_n 2, 0, 0, 0), (28, .laload, 0, 0, 0), (29, .lastore, 0, 0, 0), (30, .aload_n 0, 0, 0, 0), (31, .getfield 40, 7, 14, 0), (34, .iload_n 2, 0, 0, 0), (35, .aaload, 0, 0, 0), (36, .invokevirtual 55, 31, 0, 0), (39, .aload_n 0, 0, 0, 0)]
def tB94_1 : List (Nat × ab_I) := [(40, .getfield 40, 7, 14, 0), (43, .iload_n 2, 0, 0, 0), (44, .aaload, 0, 0, 0), (45, .aload_n 1, 0, 0, 0), (46, .getfield 40, 7, 14, 0), (49, .iload_n 2, 0, 0, 0), (50, .aaload, 0, 0, 0), (51, .getfield 58, 4, 1, 1), (54, .iconst 0, 0, 0, 0), (55, .aload_n 1, 0, 0, 0), (56, .getfield 40, 7, 14, 0), (59, .iload_n 2, 0, 0, 0), (60, .aaload, 0, 0, 0), (61, .getfield 62, 4, 2, 1), (64, .invokevirtual 65, 39, 3, 0), (67, .iinc 2 1, 0, 0, 0), (70, .goto (-60), 10, 0, 0), (73, .return_, 0, 0, 0)]
def tI94 : ab_T := [(39, tB94_0), (73, tB94_1)]
set_option maxRecDepth 100000 in
theorem tC94 : ab_ck (ab_lkB ab_mt ab_kb lL8 mM94) mM94.2.1.data.toList 0 (ab_flat tI94) = true := by decide +kernel
set_option maxRecDepth 100000 in
theorem tS94 : ab_swB mM94.2.1 (ab_flat tI94) = true := by decide +kernel
theorem tO94 : ab_MOK 94 tI94 := ab_allOK (M := mM94) rfl lL8_ok tC94 tS94
def tB95_0 : List (Nat × ab_I) := [(0, .aload_n 0, 0, 0, 0), (1, .ldc 69, 1000015, 0, 1), (3, .invokestatic 47, 25, 1, 0), (6, .invokevirtual 51, 86, 1, 0), (9, .astore_n 1, 0, 0, 0), (10, .aload_n 1, 0, 0, 0), (11, .ifnull 16, 27, 0, 0), (14, .aload_n 0, 0, 0, 0), (15, .aload_n 1, 0, 0, 0), (16, .getfield 58, 4, 1, 1), (19, .iconst 0, 0, 0, 0), (20, .aload_n 1, 0, 0, 0), (21, .getfield 62, 4, 2, 1), (24, .invokevirtual 71, 96, 3, 0), (27, .aload_n 0, 0, 0, 0), (28, .ldc 74, 1000016, 0, 1), (30, .invokestatic 47, 25, 1, 0), (33, .invokevirtual 51, 86, 1, 0), (36, .astore_n 2, 0, 0, 0), (37, .aload_n 0, 0, 0, 0), (38, .aload_n 2, 0, 0, 0), (39, .ifnull 16, 55, 0, 0), (42, .aload_n 2, 0, 0, 0), (43, .ldc 76, 1000017, 0, 1)]
def tB95_1 : List (Nat × ab_I) := [(45, .invokevirtual 78, 97, 1, 0), (48, .ifCond .eq 7, 55, 0, 0), (51, .iconst 1, 0, 0, 0), (52, .goto 4, 56, 0, 0), (55, .iconst 0, 0, 0, 0), (56, .putfield 82, 7, 15, 0), (59, .aload_n 0, 0, 0, 0), (60, .aload_n 0, 0, 0, 0), (61, .getfield 82, 7, 15, 0), (64, .ifCond .eq 19, 83, 0, 0), (67, .aload_n 0, 0, 0, 0), (68, .ldc 86, 1000018, 0, 1), (70, .invokestatic 47, 25, 1, 0), (73, .invokevirtual 51, 86, 1, 0), (76, .ifnull 7, 83, 0, 0), (79, .iconst 1, 0, 0, 0), (80, .goto 4, 84, 0, 0), (83, .iconst 0, 0, 0, 0), (84, .putfield 88, 7, 16, 0), (87, .return_, 0, 0, 0)]
def tI95 : ab_T := [(43, tB95_0), (87, tB95_1)]
set_option maxRecDepth 100000 in
theorem tC95 : ab_ck (ab_lkB ab_mt ab_kb lL8 mM95) mM95.2.1.data.toList 0 (ab_flat tI95) = true := by decide +kernel
set_option maxRecDepth 100000 in
theorem tS95 : ab_swB mM95.2.1 (ab_flat tI95) = true := by decide +kernel
theorem tO95 : ab_MOK 95 tI95 := ab_allOK (M := mM95) rfl lL8_ok tC95 tS95
def tB96_0 : List (Nat × ab_I) := [(0, .aload_n 0, 0, 0, 0), (1, .getfield 32, 7, 11, 0), (4, .invokevirtual 55, 31, 0, 0), (7, .aload_n 0, 0, 0, 0), (8, .getfield 32, 7, 11, 0), (11, .aload_n 1, 0, 0, 0), (12, .iload_n 2, 0, 0, 0), (13, .iload_n 3, 0, 0, 0), (14, .iload_n 2, 0, 0, 0), (15, .bipush 24, 0, 0, 0), (17, .iadd, 0, 0, 0), (18, .invokestatic 91, 0, 0, 3), (21, .invokevirtual 65, 39, 3, 0), (24, .return_, 0, 0, 0)]
def tI96 : ab_T := [(24, tB96_0)]
set_option maxRecDepth 100000 in
theorem tC96 : ab_ck (ab_lkB ab_mt ab_kb lL8 mM96) mM96.2.1.data.toList 0 (ab_flat tI96) = true := by decide +kernel
set_option maxRecDepth 100000 in
theorem tS96 : ab_swB mM96.2.1 (ab_flat tI96) = true := by decide +kernel
theorem tO96 : ab_MOK 96 tI96 := ab_allOK (M := mM96) rfl lL8_ok tC96 tS96
def tB97_0 : List (Nat × ab_I) := [(0, .aload_n 0, 0, 0, 0), (1, .getfield 19, 4, 2, 0), (4, .aload_n 1, 0, 0, 0), (5, .invokevirtual 43, 0, 0, 7), (8, .if_icmp .ne 23, 31, 0, 0), (11, .aload_n 1, 0, 0, 0), (12, .aload_n 0, 0, 0, 0), (13, .getfield 15, 4, 1, 0), (16, .iconst 0, 0, 0, 0), (17, .aload_n 0, 0, 0, 0), (18, .getfield 19, 4, 2, 0), (21, .invokestatic 57, 11, 4, 0), (24, .ifCond .eq 7, 31, 0, 0), (27, .iconst 1, 0, 0, 0), (28, .goto 4, 32, 0, 0), (31, .iconst 0, 0, 0, 0), (32, .ireturn, 0, 0, 0)]
def tI97 : ab_T := [(32, tB97_0)]
set_option maxRecDepth 100000 in
theorem tC97 : ab_ck (ab_lkB ab_mt ab_kb lL5 mM97) mM97.2.1.data.toList 0 (ab_flat tI97) = true := by decide +kernel
set_option maxRecDepth 100000 in
theorem tS97 : ab_swB mM97.2.1 (ab_flat tI97) = true := by decide +kernel
theorem tO97 : ab_MOK 97 tI97 := ab_allOK (M := mM97) rfl lL5_ok tC97 tS97
def tB98_0 : List (Nat × ab_I) := [(0, .aload_n 0, 0, 0, 0), (1, .getfield 9, 7, 0, 0), (4, .bipush 10, 0, 0, 0), (6, .if_icmp .lt 16, 22, 0, 0), (9, .aload_n 0, 0, 0, 0), (10, .getfield 9, 7, 0, 0), (13, .bipush 13, 0, 0, 0), (15, .if_icmp .gt 7, 22, 0, 0), (18, .iconst 1, 0, 0, 0), (19, .goto 4, 23, 0, 0), (22, .iconst 0, 0, 0, 0), (23, .ireturn, 0, 0, 0)]
def tI98 : ab_T := [(23, tB98_0)]
set_option maxRecDepth 100000 in
theorem tC98 : ab_ck (ab_lkB ab_mt ab_kb lL8 mM98) mM98.2.1.data.toList 0 (ab_flat tI98) = true := by decide +kernel
set_option maxRecDepth 100000 in
theorem tS98 : ab_swB mM98.2.1 (ab_flat tI98) = true := by decide +kernel
theorem tO98 : ab_MOK 98 tI98 := ab_allOK (M := mM98) rfl lL8_ok tC98 tS98
def tB99_0 : List (Nat × ab_I) := [(0, .aload_n 0, 0, 0, 0), (1, .getfield 31, 8, 8, 0), (4, .iload_n 1, 0, 0, 0), (5, .baload, 0, 0, 0), (6, .bipush 60, 0, 0, 0), (8, .if_icmp .ne 24, 32, 0, 0), (11, .ldc 101, 1000019, 0, 1), (13, .aload_n 0, 0, 0, 0), (14, .getfield 31, 8, 8, 0), (17, .iload_n 1, 0, 0, 0), (18, .aload_n 0, 0, 0, 0), (19, .getfield 39, 8, 9, 0), (22, .invokestatic 69, 11, 4, 0), (25, .ifCond .eq 7, 32, 0, 0), (28, .iconst 1, 0, 0, 0), (29, .goto 4, 33, 0, 0), (32, .iconst 0, 0, 0, 0), (33, .ireturn, 0, 0, 0)]
def tI99 : ab_T := [(33, tB99_0)]
set_option maxRecDepth 100000 in
theorem tC99 : ab_ck (ab_lkB ab_mt ab_kb lL9 mM99) mM99.2.1.data.toList 0 (ab_flat tI99) = true := by decide +kernel
set_option maxRecDepth 100000 in
theorem tS99 : ab_swB mM99.2.1 (ab_flat tI99) = true := by decide +kernel
theorem tO99 : ab_MOK 99 tI99 := ab_allOK (M := mM99) rfl lL9_ok tC99 tS99
def tB100_0 : List (Nat × ab_I) := [(0, .aload_n 0, 0, 0, 0), (1, .getfield 43, 8, 10, 0), (4, .iconst 4, 0, 0, 0), (5, .iadd, 0, 0, 0), (6, .istore_n 1, 0, 0, 0), (7, .iload_n 1, 0, 0, 0), (8, .aload_n 0, 0, 0, 0), (9, .getfield 39, 8, 9, 0), (12, .if_icmp .ge 26, 38, 0, 0), (15, .ldc 103, 1000020, 0, 1), (17, .aload_n 0, 0, 0, 0), (18, .getfield 31, 8, 8, 0), (21, .iload_n 1, 0, 0, 0), (22, .aload_n 0, 0, 0, 0), (23, .getfield 39, 8, 9, 0), (26, .invokestatic 69, 11, 4, 0), (29, .ifCond .ne 9, 38, 0, 0), (32, .iinc 1 1, 0, 0, 0), (35, .goto (-28), 7, 0, 0), (38, .iload_n 1, 0, 0, 0), (39, .aload_n 0, 0, 0, 0), (40, .getfield 39, 8, 9, 0), (43, .if_icmp .lt 23, 66, 0, 0), (46, .aload_n 0, 0, 0, 0)]
def tB100_1 : List (Nat × ab_I) := [(47, .iconst 1, 0, 0, 0), (48, .aload_n 0, 0, 0, 0), (49, .getfield 43, 8, 10, 0), (52, .invokevirtual 105, 75, 2, 0), (55, .aload_n 0, 0, 0, 0), (56, .aload_n 0, 0, 0, 0), (57, .getfield 39, 8, 9, 0), (60, .putfield 43, 8, 10, 0), (63, .goto 10, 73, 0, 0), (66, .aload_n 0, 0, 0, 0), (67, .iload_n 1, 0, 0, 0), (68, .iconst 3, 0, 0, 0), (69, .iadd, 0, 0, 0), (70, .putfield 43, 8, 10, 0), (73, .return_, 0, 0, 0)]
def tI100 : ab_T := [(46, tB100_0), (73, tB100_1)]
set_option maxRecDepth 100000 in
theorem tC100 : ab_ck (ab_lkB ab_mt ab_kb lL9 mM100) mM100.2.1.data.toList 0 (ab_flat tI100) = true := by decide +kernel
set_option maxRecDepth 100000 in
theorem tS100 : ab_swB mM100.2.1 (ab_flat tI100) = true := by decide +kernel
theorem tO100 : ab_MOK 100 tI100 := ab_allOK (M := mM100) rfl lL9_ok tC100 tS100
def tB101_0 : List (Nat × ab_I) := [(0, .aload_n 0, 0, 0, 0), (1, .getfield 43, 8, 10, 0), (4, .iconst 1, 0, 0, 0), (5, .iadd, 0, 0, 0), (6, .istore_n 1, 0, 0, 0), (7, .iload_n 1, 0, 0, 0), (8, .aload_n 0, 0, 0, 0), (9, .getfield 39, 8, 9, 0), (12, .if_icmp .ge 25, 37, 0, 0), (15, .aload_n 0, 0, 0, 0), (16, .iload_n 1, 0, 0, 0), (17, .invokevirtual 78, 79, 1, 0), (20, .ifCond .ne 17, 37, 0, 0), (23, .aload_n 0, 0, 0, 0), (24, .iload_n 1, 0, 0, 0), (25, .invokevirtual 85, 99, 1, 0), (28, .ifCond .ne 9, 37, 0, 0), (31, .iinc 1 1, 0, 0, 0), (34, .goto (-27), 7, 0, 0), (37, .aload_n 0, 0, 0, 0), (38, .aload_n 0, 0, 0, 0), (39, .getfield 43, 8, 10, 0), (42, .iload_n 1, 0, 0, 0), (43, .iconst 1, 0, 0, 0)]
def tB101_1 : List (Nat × ab_I) := [(44, .invokevirtual 109, 72, 3, 0), (47, .aload_n 0, 0, 0, 0), (48, .iload_n 1, 0, 0, 0), (49, .putfield 43, 8, 10, 0), (52, .return_, 0, 0, 0)]
def tI101 : ab_T := [(43, tB101_0), (52, tB101_1)]
set_option maxRecDepth 100000 in
theorem tC101 : ab_ck (ab_lkB ab_mt ab_kb lL9 mM101) mM101.2.1.data.toList 0 (ab_flat tI101) = true := by decide +kernel
set_option maxRecDepth 100000 in
theorem tS101 : ab_swB mM101.2.1 (ab_flat tI101) = true := by decide +kernel
theorem tO101 : ab_MOK 101 tI101 := ab_allOK (M := mM101) rfl lL9_ok tC101 tS101
def tB102_0 : List (Nat × ab_I) := [(0, .aload_n 0, 0, 0, 0), (1, .ldc2_w 21, 18446744073709551615, 0, 0), (4, .putfield 23, 0, 6, 0), (7, .aload_n 0, 0, 0, 0), (8, .iconst 0, 0, 0, 0), (9, .putfield 105, 0, 5, 0), (12, .aload_n 0, 0, 0, 0), (13, .iconst 0, 0, 0, 0), (14, .putfield 61, 0, 18, 0), (17, .aload_n 0, 0, 0, 0), (18, .getfield 30, 0, 11, 0), (21, .invokevirtual 64, 31, 0, 0), (24, .aload_n 0, 0, 0, 0), (25, .iconst 0, 0, 0, 0), (26, .putfield 67, 0, 12, 0), (29, .aload_n 0, 0, 0, 0), (30, .iconst 0, 0, 0, 0), (31, .putfield 70, 0, 15, 0), (34, .aload_n 0, 0, 0, 0), (35, .iconst 0, 0, 0, 0), (36, .putfield 73, 0, 16, 0), (39, .aload_n 0, 0, 0, 0), (40, .getfield 46, 0, 0, 0), (43, .invokevirtual 108, 103, 0, 0)]
def tB102_1 : List (Nat × ab_I) := [(46, .iconst 0, 0, 0, 0), (47, .istore_n 1, 0, 0, 0), (48, .iload_n 1, 0, 0, 0), (49, .aload_n 0, 0, 0, 0), (50, .getfield 46, 0, 0, 0), (53, .getfield 111, 10, 3, 1), (56, .if_icmp .ge 63, 119, 0, 0), (59, .aload_n 0, 0, 0, 0), (60, .getfield 46, 0, 0, 0), (63, .getfield 114, 10, 2, 1), (66, .iload_n 1, 0, 0, 0), (67, .iaload, 0, 0, 0), (68, .istore_n 2, 0, 0, 0), (69, .aload_n 0, 0, 0, 0), (70, .getfield 46, 0, 0, 0), (73, .getfield 96, 10, 0, 1), (76, .iload_n 2, 0, 0, 0), (77, .aaload, 0, 0, 0), (78, .ldc 118, 1000021, 0, 1), (80, .invokevirtual 120, 104, 1, 0), (83, .ifnull 30, 113, 0, 0), (86, .aload_n 0, 0, 0, 0), (87, .getfield 34, 0, 14, 0), (90, .aload_n 0, 0, 0, 0)]
def tB102_2 : List (Nat × ab_I) := [(91, .getfield 73, 0, 16, 0), (94, .aload_n 0, 0, 0, 0), (95, .getfield 46, 0, 0, 0), (98, .iload_n 2, 0, 0, 0), (99, .invokevirtual 90, 105, 1, 0), (102, .lastore, 0, 0, 0), (103, .aload_n 0, 0, 0, 0), (104, .dup, 0, 0, 0), (105, .getfield 73, 0, 16, 0), (108, .iconst 1, 0, 0, 0), (109, .iadd, 0, 0, 0), (110, .putfield 73, 0, 16, 0), (113, .iinc 1 1, 0, 0, 0), (116, .goto (-68), 48, 0, 0), (119, .return_, 0, 0, 0)]
def tI102 : ab_T := [(43, tB102_0), (90, tB102_1), (119, tB102_2)]
set_option maxRecDepth 100000 in
theorem tC102 : ab_ck (ab_lkB ab_mt ab_kb lL1 mM102) mM102.2.1.data.toList 0 (ab_flat tI102) = true := by decide +kernel
set_option maxRecDepth 100000 in
theorem tS102 : ab_swB mM102.2.1 (ab_flat tI102) = true := by decide +kernel
theorem tO102 : ab_MOK 102 tI102 := ab_allOK (M := mM102) rfl lL1_ok tC102 tS102
def tB103_0 : List (Nat × ab_I) := [(0, .aload_n 0, 0, 0, 0), (1, .getfield 25, 10, 4, 0), (4, .aload_n 0, 0, 0, 0), (5, .getfield 99, 10, 6, 0), (8, .if_icmp .ne 4, 12, 0, 0), (11, .return_, 0, 0, 0), (12, .aload_n 0, 0, 0, 0), (13, .aload_n 0, 0, 0, 0), (14, .getfield 99, 10, 6, 0), (17, .putfield 25, 10, 4, 0), (20, .aload_n 0, 0, 0, 0), (21, .iconst 0, 0, 0, 0), (22, .putfield 140, 10, 3, 0), (25, .iconst 0, 0, 0, 0), (26, .istore_n 1, 0, 0, 0), (27, .iload_n 1, 0, 0, 0), (28, .iconst (-1), 0, 0, 0), (29, .if_icmp .eq 95, 124, 0, 0), (32, .aload_n 0, 0, 0, 0), (33, .getfield 140, 10, 3, 0), (36, .bipush 120, 0, 0, 0), (38, .if_icmp .ge 86, 124, 0, 0), (41, .aload_n 0, 0, 0, 0), (42, .getfield 11, 10, 0, 0)]
def tB103_1 : List (Nat × ab_I) := [(45, .iload_n 1, 0, 0, 0), (46, .aaload, 0, 0, 0), (47, .aload_n 0, 0, 0, 0), (48, .getfield 140, 10, 3, 0), (51, .putfield 105, 7, 8, 1), (54, .aload_n 0, 0, 0, 0), (55, .getfield 21, 10, 2, 0), (58, .aload_n 0, 0, 0, 0), (59, .getfield 140, 10, 3, 0), (62, .iload_n 1, 0, 0, 0), (63, .iastore, 0, 0, 0), (64, .aload_n 0, 0, 0, 0), (65, .dup, 0, 0, 0), (66, .getfield 140, 10, 3, 0), (69, .iconst 1, 0, 0, 0), (70, .iadd, 0, 0, 0), (71, .putfield 140, 10, 3, 0), (74, .aload_n 0, 0, 0, 0), (75, .getfield 11, 10, 0, 0), (78, .iload_n 1, 0, 0, 0), (79, .aaload, 0, 0, 0), (80, .getfield 62, 7, 3, 1), (83, .istore_n 2, 0, 0, 0), (84, .iload_n 1, 0, 0, 0)]
def tB103_2 : List (Nat × ab_I) := [(85, .istore_n 3, 0, 0, 0), (86, .iload_n 2, 0, 0, 0), (87, .iconst (-1), 0, 0, 0), (88, .if_icmp .ne 31, 119, 0, 0), (91, .iload_n 3, 0, 0, 0), (92, .iconst (-1), 0, 0, 0), (93, .if_icmp .eq 26, 119, 0, 0), (96, .aload_n 0, 0, 0, 0), (97, .getfield 11, 10, 0, 0), (100, .iload_n 3, 0, 0, 0), (101, .aaload, 0, 0, 0), (102, .getfield 68, 7, 5, 1), (105, .istore_n 2, 0, 0, 0), (106, .aload_n 0, 0, 0, 0), (107, .getfield 11, 10, 0, 0), (110, .iload_n 3, 0, 0, 0), (111, .aaload, 0, 0, 0), (112, .getfield 59, 7, 2, 1), (115, .istore_n 3, 0, 0, 0), (116, .goto (-30), 86, 0, 0), (119, .iload_n 2, 0, 0, 0), (120, .istore_n 1, 0, 0, 0), (121, .goto (-94), 27, 0, 0), (124, .aload_n 0, 0, 0, 0)]
def tB103_3 : List (Nat × ab_I) := [(125, .getfield 140, 10, 3, 0), (128, .iconst 1, 0, 0, 0), (129, .isub, 0, 0, 0), (130, .istore_n 2, 0, 0, 0), (131, .iload_n 2, 0, 0, 0), (132, .ifCond .lt 51, 183, 0, 0), (135, .aload_n 0, 0, 0, 0), (136, .getfield 11, 10, 0, 0), (139, .aload_n 0, 0, 0, 0), (140, .getfield 21, 10, 2, 0), (143, .iload_n 2, 0, 0, 0), (144, .iaload, 0, 0, 0), (145, .aaload, 0, 0, 0), (146, .astore_n 3, 0, 0, 0), (147, .aload_n 3, 0, 0, 0), (148, .aload_n 3, 0, 0, 0), (149, .getfield 65, 7, 4, 1), (152, .iconst (-1), 0, 0, 0), (153, .if_icmp .ne 9, 162, 0, 0), (156, .iload_n 2, 0, 0, 0), (157, .iconst 1, 0, 0, 0), (158, .iadd, 0, 0, 0), (159, .goto 15, 174, 0, 0), (162, .aload_n 0, 0, 0, 0)]
def tB103_4 : List (Nat × ab_I) := [(163, .getfield 11, 10, 0, 0), (166, .aload_n 3, 0, 0, 0), (167, .getfield 65, 7, 4, 1), (170, .aaload, 0, 0, 0), (171, .getfield 108, 7, 9, 1), (174, .putfield 108, 7, 9, 1), (177, .iinc 2 (-1), 0, 0, 0), (180, .goto (-49), 131, 0, 0), (183, .return_, 0, 0, 0)]
def tI103 : ab_T := [(42, tB103_0), (84, tB103_1), (124, tB103_2), (162, tB103_3), (183, tB103_4)]
set_option maxRecDepth 100000 in
theorem tC103 : ab_ck (ab_lkB ab_mt ab_kb lL11 mM103) mM103.2.1.data.toList 0 (ab_flat tI103) = true := by decide +kernel
set_option maxRecDepth 100000 in
theorem tS103 : ab_swB mM103.2.1 (ab_flat tI103) = true := by decide +kernel
theorem tO103 : ab_MOK 103 tI103 := ab_allOK (M := mM103) rfl lL11_ok tC103 tS103
def tB104_0 : List (Nat × ab_I) := [(0, .aload_n 0, 0, 0, 0), (1, .aload_n 1, 0, 0, 0), (2, .invokestatic 47, 25, 1, 0), (5, .invokevirtual 51, 86, 1, 0), (8, .areturn, 0, 0, 0)]
def tI104 : ab_T := [(8, tB104_0)]
set_option maxRecDepth 100000 in
theorem tC104 : ab_ck (ab_lkB ab_mt ab_kb lL8 mM104) mM104.2.1.data.toList 0 (ab_flat tI104) = true := by decide +kernel
set_option maxRecDepth 100000 in
theorem tS104 : ab_swB mM104.2.1 (ab_flat tI104) = true := by decide +kernel
theorem tO104 : ab_MOK 104 tI104 := ab_allOK (M := mM104) rfl lL8_ok tC104 tS104
def tB105_0 : List (Nat × ab_I) := [(0, .aload_n 0, 0, 0, 0), (1, .getfield 11, 10, 0, 0), (4, .iload_n 1, 0, 0, 0), (5, .aaload, 0, 0, 0), (6, .getfield 96, 7, 10, 1), (9, .ldc2_w 149, 128, 0, 0), (12, .lmul, 0, 0, 0), (13, .iload_n 1, 0, 0, 0), (14, .i2l, 0, 0, 0), (15, .ladd, 0, 0, 0), (16, .lreturn, 0, 0, 0)]
def tI105 : ab_T := [(16, tB105_0)]
set_option maxRecDepth 100000 in
theorem tC105 : ab_ck (ab_lkB ab_mt ab_kb lL11 mM105) mM105.2.1.data.toList 0 (ab_flat tI105) = true := by decide +kernel
set_option maxRecDepth 100000 in
theorem tS105 : ab_swB mM105.2.1 (ab_flat tI105) = true := by decide +kernel
theorem tO105 : ab_MOK 105 tI105 := ab_allOK (M := mM105) rfl lL11_ok tC105 tS105
