abbrev qmX0_init : qcI := (0, yX0_init, cX0_init, 1, none)
def qtX0_init : List qcE := [(0, 1, .aload_n 0, 0, 0, .null), (1, 4, .invokespecial 3, 0, 0, .null), (4, 5, .aload_n 0, 0, 0, .null), (5, 8, .sipush 200, 0, 0, .int (200)), (8, 10, .newarray .int, 0, 0, .null), (10, 13, .putfield 11, 0, 0, .null), (13, 14, .aload_n 0, 0, 0, .null), (14, 17, .sipush 200, 0, 0, .int (200)), (17, 19, .newarray .int, 0, 0, .null), (19, 22, .putfield 15, 0, 1, .null), (22, 23, .return_, 0, 0, .null)]
set_option maxRecDepth 100000 in
theorem qkX0_init : qtX0_init.all (qc_ok qmX0_init) = true := by decide +kernel
set_option maxRecDepth 100000 in
theorem qfX0_init : qc_mf qmX0_init 2 0 266 140 265 0 = true := by decide +kernel
abbrev qmX0_begin : qcI := (0, yX0_begin, cX0_begin, 1, none)
def qtX0_begin : List qcE := [(0, 1, .aload_n 0, 0, 0, .null), (1, 2, .iconst 0, 0, 0, .int (0)), (2, 5, .putfield 18, 0, 2, .null), (5, 6, .aload_n 0, 0, 0, .null), (6, 7, .iconst 0, 0, 0, .int (0)), (7, 10, .putfield 22, 0, 3, .null), (10, 11, .aload_n 0, 0, 0, .null), (11, 12, .iconst 0, 0, 0, .int (0)), (12, 15, .putfield 25, 0, 4, .null), (15, 16, .return_, 0, 0, .null)]
set_option maxRecDepth 100000 in
theorem qkX0_begin : qtX0_begin.all (qc_ok qmX0_begin) = true := by decide +kernel
set_option maxRecDepth 100000 in
theorem qfX0_begin : qc_mf qmX0_begin 0 0 648 140 646 647 = true := by decide +kernel
abbrev qmX0_isTooLong : qcI := (0, yX0_isTooLong, cX0_isTooLong, 1, (some .boolean))
def qtX0_isTooLong : List qcE := [(0, 1, .aload_n 0, 0, 0, .null), (1, 4, .getfield 18, 0, 2, .null), (4, 7, .sipush 200, 0, 0, .int (200)), (7, 10, .if_icmp .gt 12, 19, 7, .null), (10, 11, .aload_n 0, 0, 0, .null), (11, 14, .getfield 25, 0, 4, .null), (14, 16, .bipush 24, 0, 0, .int (24)), (16, 19, .if_icmp .le 7, 23, 16, .null), (19, 20, .iconst 1, 0, 0, .int (1)), (20, 23, .goto 4, 24, 20, .null), (23, 24, .iconst 0, 0, 0, .int (0)), (24, 25, .ireturn, 0, 0, .null)]
set_option maxRecDepth 100000 in
theorem qkX0_isTooLong : qtX0_isTooLong.all (qc_ok qmX0_isTooLong) = true := by decide +kernel
set_option maxRecDepth 100000 in
theorem qfX0_isTooLong : qc_mf qmX0_isTooLong 0 0 969 140 967 968 = true := by decide +kernel
abbrev qmX0_add : qcI := (0, yX0_add, cX0_add, 3, none)
def qtX0_add : List qcE := [(0, 1, .aload_n 0, 0, 0, .null), (1, 4, .getfield 18, 0, 2, .null), (4, 7, .sipush 200, 0, 0, .int (200)), (7, 10, .if_icmp .ge 23, 30, 7, .null), (10, 11, .aload_n 0, 0, 0, .null), (11, 14, .getfield 11, 0, 0, .null), (14, 15, .aload_n 0, 0, 0, .null), (15, 18, .getfield 18, 0, 2, .null), (18, 19, .iload_n 1, 0, 0, .null), (19, 20, .iastore, 0, 0, .null), (20, 21, .aload_n 0, 0, 0, .null), (21, 24, .getfield 15, 0, 1, .null), (24, 25, .aload_n 0, 0, 0, .null), (25, 28, .getfield 18, 0, 2, .null), (28, 29, .iload_n 2, 0, 0, .null), (29, 30, .iastore, 0, 0, .null), (30, 31, .aload_n 0, 0, 0, .null), (31, 32, .dup, 0, 0, .null), (32, 35, .getfield 18, 0, 2, .null), (35, 36, .iconst 1, 0, 0, .int (1)), (36, 37, .iadd, 0, 0, .null), (37, 40, .putfield 18, 0, 2, .null), (40, 41, .aload_n 0, 0, 0, .null), (41, 42, .dup, 0, 0, .null), (42, 45, .getfield 22, 0, 3, .null), (45, 46, .iload_n 1, 0, 0, .null), (46, 49, .invokestatic 28, 0, 0, .null), (49, 50, .iadd, 0, 0, .null), (50, 53, .putfield 22, 0, 3, .null), (53, 54, .aload_n 0, 0, 0, .null), (54, 55, .aload_n 0, 0, 0, .null), (55, 58, .getfield 25, 0, 4, .null), (58, 59, .aload_n 0, 0, 0, .null), (59, 62, .getfield 22, 0, 3, .null), (62, 65, .invokestatic 32, 0, 0, .null), (65, 68, .putfield 25, 0, 4, .null), (68, 69, .return_, 0, 0, .null)]
set_option maxRecDepth 100000 in
theorem qkX0_add : qtX0_add.all (qc_ok qmX0_add) = true := by decide +kernel
set_option maxRecDepth 100000 in
theorem qfX0_add : qc_mf qmX0_add 0 2 790 140 788 789 = true := by decide +kernel
abbrev qmX0_addJump : qcI := (0, yX0_addJump, cX0_addJump, 2, (some .int))
def qtX0_addJump : List qcE := [(0, 1, .aload_n 0, 0, 0, .null), (1, 2, .iload_n 1, 0, 0, .null), (2, 3, .iconst 0, 0, 0, .int (0)), (3, 6, .invokevirtual 38, 0, 0, .null), (6, 7, .aload_n 0, 0, 0, .null), (7, 10, .getfield 18, 0, 2, .null), (10, 11, .iconst 1, 0, 0, .int (1)), (11, 12, .isub, 0, 0, .null), (12, 13, .ireturn, 0, 0, .null)]
set_option maxRecDepth 100000 in
theorem qkX0_addJump : qtX0_addJump.all (qc_ok qmX0_addJump) = true := by decide +kernel
set_option maxRecDepth 100000 in
theorem qfX0_addJump : qc_mf qmX0_addJump 0 1 856 140 854 855 = true := by decide +kernel
abbrev qmX0_aim : qcI := (0, yX0_aim, cX0_aim, 2, none)
def qtX0_aim : List qcE := [(0, 1, .iload_n 1, 0, 0, .null), (1, 4, .ifCond .lt 20, 21, 1, .null), (4, 5, .iload_n 1, 0, 0, .null), (5, 8, .sipush 200, 0, 0, .int (200)), (8, 11, .if_icmp .ge 13, 21, 8, .null), (11, 12, .aload_n 0, 0, 0, .null), (12, 15, .getfield 15, 0, 1, .null), (15, 16, .iload_n 1, 0, 0, .null), (16, 17, .aload_n 0, 0, 0, .null), (17, 20, .getfield 18, 0, 2, .null), (20, 21, .iastore, 0, 0, .null), (21, 22, .return_, 0, 0, .null)]
set_option maxRecDepth 100000 in
theorem qkX0_aim : qtX0_aim.all (qc_ok qmX0_aim) = true := by decide +kernel
set_option maxRecDepth 100000 in
theorem qfX0_aim : qc_mf qmX0_aim 0 1 863 140 861 862 = true := by decide +kernel
abbrev qmX0_otherWay : qcI := (0, yX0_otherWay, cX0_otherWay, 1, none)
def qtX0_otherWay : List qcE := [(0, 1, .aload_n 0, 0, 0, .null), (1, 2, .dup, 0, 0, .null), (2, 5, .getfield 22, 0, 3, .null), (5, 6, .iconst 1, 0, 0, .int (1)), (6, 7, .isub, 0, 0, .null), (7, 10, .putfield 22, 0, 3, .null), (10, 11, .return_, 0, 0, .null)]
set_option maxRecDepth 100000 in
theorem qkX0_otherWay : qtX0_otherWay.all (qc_ok qmX0_otherWay) = true := by decide +kernel
set_option maxRecDepth 100000 in
theorem qfX0_otherWay : qc_mf qmX0_otherWay 0 0 867 140 865 866 = true := by decide +kernel
abbrev qmX0_convert : qcI := (0, yX0_convert, cX0_convert, 3, none)
def qtX0_convert : List qcE := [(0, 1, .iload_n 1, 0, 0, .null), (1, 2, .iload_n 2, 0, 0, .null), (2, 5, .if_icmp .eq 13, 15, 2, .null), (5, 6, .aload_n 0, 0, 0, .null), (6, 7, .iload_n 1, 0, 0, .null), (7, 8, .iload_n 2, 0, 0, .null), (8, 11, .invokestatic 42, 0, 0, .null), (11, 12, .iconst 0, 0, 0, .int (0)), (12, 15, .invokevirtual 38, 0, 0, .null), (15, 16, .return_, 0, 0, .null)]
set_option maxRecDepth 100000 in
theorem qkX0_convert : qtX0_convert.all (qc_ok qmX0_convert) = true := by decide +kernel
set_option maxRecDepth 100000 in
theorem qfX0_convert : qc_mf qmX0_convert 0 2 872 140 870 871 = true := by decide +kernel
abbrev qmX0_convertAt : qcI := (0, yX0_convertAt, cX0_convertAt, 5, none)
def qtX0_convertAt : List qcE := [(0, 1, .iload_n 2, 0, 0, .null), (1, 2, .iload_n 3, 0, 0, .null), (2, 5, .if_icmp .ne 4, 6, 2, .null), (5, 6, .return_, 0, 0, .null), (6, 7, .aload_n 0, 0, 0, .null), (7, 10, .getfield 18, 0, 2, .null), (10, 13, .sipush 200, 0, 0, .int (200)), (13, 16, .if_icmp .ge 76, 89, 13, .null), (16, 17, .aload_n 0, 0, 0, .null), (17, 20, .getfield 18, 0, 2, .null), (20, 22, .istore 4, 0, 0, .null), (22, 24, .iload 4, 0, 0, .null), (24, 25, .iload_n 1, 0, 0, .null), (25, 28, .if_icmp .le 41, 66, 25, .null), (28, 29, .aload_n 0, 0, 0, .null), (29, 32, .getfield 11, 0, 0, .null), (32, 34, .iload 4, 0, 0, .null), (34, 35, .aload_n 0, 0, 0, .null), (35, 38, .getfield 11, 0, 0, .null), (38, 40, .iload 4, 0, 0, .null), (40, 41, .iconst 1, 0, 0, .int (1)), (41, 42, .isub, 0, 0, .null), (42, 43, .iaload, 0, 0, .null), (43, 44, .iastore, 0, 0, .null), (44, 45, .aload_n 0, 0, 0, .null), (45, 48, .getfield 15, 0, 1, .null), (48, 50, .iload 4, 0, 0, .null), (50, 51, .aload_n 0, 0, 0, .null), (51, 54, .getfield 15, 0, 1, .null), (54, 56, .iload 4, 0, 0, .null), (56, 57, .iconst 1, 0, 0, .int (1)), (57, 58, .isub, 0, 0, .null), (58, 59, .iaload, 0, 0, .null), (59, 60, .iastore, 0, 0, .null), (60, 63, .iinc 4 (-1), 0, 0, .int (-1)), (63, 66, .goto (-41), 22, 63, .null), (66, 67, .aload_n 0, 0, 0, .null), (67, 70, .getfield 11, 0, 0, .null), (70, 71, .iload_n 1, 0, 0, .null), (71, 72, .iload_n 2, 0, 0, .null), (72, 73, .iload_n 3, 0, 0, .null), (73, 76, .invokestatic 42, 0, 0, .null), (76, 77, .iastore, 0, 0, .null), (77, 78, .aload_n 0, 0, 0, .null), (78, 81, .getfield 15, 0, 1, .null), (81, 82, .iload_n 1, 0, 0, .null), (82, 83, .iconst 0, 0, 0, .int (0)), (83, 84, .iastore, 0, 0, .null), (84, 85, .aload_n 0, 0, 0, .null), (85, 86, .iload_n 1, 0, 0, .null), (86, 89, .invokevirtual 45, 0, 0, .null), (89, 90, .aload_n 0, 0, 0, .null), (90, 91, .dup, 0, 0, .null), (91, 94, .getfield 18, 0, 2, .null), (94, 95, .iconst 1, 0, 0, .int (1)), (95, 96, .iadd, 0, 0, .null), (96, 99, .putfield 18, 0, 2, .null), (99, 100, .return_, 0, 0, .null)]
set_option maxRecDepth 100000 in
theorem qkX0_convertAt : qtX0_convertAt.all (qc_ok qmX0_convertAt) = true := by decide +kernel
set_option maxRecDepth 100000 in
theorem qfX0_convertAt : qc_mf qmX0_convertAt 0 3 879 140 877 878 = true := by decide +kernel
abbrev qmX0_moveGoals : qcI := (0, yX0_moveGoals, cX0_moveGoals, 3, none)
def qtX0_moveGoals : List qcE := [(0, 1, .iconst 0, 0, 0, .int (0)), (1, 2, .istore_n 2, 0, 0, .null), (2, 3, .iload_n 2, 0, 0, .null), (3, 4, .aload_n 0, 0, 0, .null), (4, 7, .getfield 18, 0, 2, .null), (7, 10, .if_icmp .gt 53, 60, 7, .null), (10, 11, .aload_n 0, 0, 0, .null), (11, 14, .getfield 11, 0, 0, .null), (14, 15, .iload_n 2, 0, 0, .null), (15, 16, .iaload, 0, 0, .null), (16, 19, .sipush 1800, 0, 0, .int (1800)), (19, 22, .if_icmp .lt 35, 54, 19, .null), (22, 23, .aload_n 0, 0, 0, .null), (23, 26, .getfield 11, 0, 0, .null), (26, 27, .iload_n 2, 0, 0, .null), (27, 28, .iaload, 0, 0, .null), (28, 31, .sipush 1802, 0, 0, .int (1802)), (31, 34, .if_icmp .gt 23, 54, 31, .null), (34, 35, .aload_n 0, 0, 0, .null), (35, 38, .getfield 15, 0, 1, .null), (38, 39, .iload_n 2, 0, 0, .null), (39, 40, .iaload, 0, 0, .null), (40, 41, .iload_n 1, 0, 0, .null), (41, 44, .if_icmp .le 13, 54, 41, .null), (44, 45, .aload_n 0, 0, 0, .null), (45, 48, .getfield 15, 0, 1, .null), (48, 49, .iload_n 2, 0, 0, .null), (49, 50, .dup2, 0, 0, .null), (50, 51, .iaload, 0, 0, .null), (51, 52, .iconst 1, 0, 0, .int (1)), (52, 53, .iadd, 0, 0, .null), (53, 54, .iastore, 0, 0, .null), (54, 57, .iinc 2 1, 0, 0, .int (1)), (57, 60, .goto (-55), 2, 57, .null), (60, 61, .return_, 0, 0, .null)]
set_option maxRecDepth 100000 in
theorem qkX0_moveGoals : qtX0_moveGoals.all (qc_ok qmX0_moveGoals) = true := by decide +kernel
set_option maxRecDepth 100000 in
theorem qfX0_moveGoals : qc_mf qmX0_moveGoals 0 1 883 140 882 23 = true := by decide +kernel
abbrev qmX0_conversion : qcI := (0, yX0_conversion, cX0_conversion, 2, (some .int))
def qtX0_conversion : List qcE := [(0, 3, .sipush 1600, 0, 0, .int (1600)), (3, 5, .bipush 10, 0, 0, .int (10)), (5, 6, .iload_n 0, 0, 0, .null), (6, 7, .imul, 0, 0, .null), (7, 8, .iadd, 0, 0, .null), (8, 9, .iload_n 1, 0, 0, .null), (9, 10, .iadd, 0, 0, .null), (10, 11, .ireturn, 0, 0, .null)]
set_option maxRecDepth 100000 in
theorem qkX0_conversion : qtX0_conversion.all (qc_ok qmX0_conversion) = true := by decide +kernel
set_option maxRecDepth 100000 in
theorem qfX0_conversion : qc_mf qmX0_conversion 1 2 875 140 874 0 = true := by decide +kernel
abbrev qmX0_change : qcI := (0, yX0_change, cX0_change, 2, (some .int))
def qtX0_change : List qcE := [(0, 1, .iload_n 0, 0, 0, .null), (1, 3, .bipush 10, 0, 0, .int (10)), (3, 6, .if_icmp .ge 5, 8, 3, .null), (6, 7, .iconst 1, 0, 0, .int (1)), (7, 8, .ireturn, 0, 0, .null), (8, 9, .iload_n 0, 0, 0, .null), (9, 11, .bipush 20, 0, 0, .int (20)), (11, 14, .if_icmp .ge 5, 16, 11, .null), (14, 15, .iconst 0, 0, 0, .int (0)), (15, 16, .ireturn, 0, 0, .null), (16, 17, .iload_n 0, 0, 0, .null), (17, 19, .bipush 100, 0, 0, .int (100)), (19, 22, .if_icmp .ge 6, 25, 19, .null), (22, 24, .bipush (-2), 0, 0, .int (-2)), (24, 25, .ireturn, 0, 0, .null), (25, 26, .iload_n 0, 0, 0, .null), (26, 29, .sipush 1200, 0, 0, .int (1200)), (29, 32, .if_icmp .lt 31, 60, 29, .null), (32, 33, .iload_n 0, 0, 0, .null), (33, 36, .sipush 1400, 0, 0, .int (1400)), (36, 39, .if_icmp .le 10, 46, 36, .null), (39, 40, .iload_n 0, 0, 0, .null), (40, 43, .sipush 1500, 0, 0, .int (1500)), (43, 46, .if_icmp .lt 17, 60, 43, .null), (46, 47, .iload_n 0, 0, 0, .null), (47, 50, .sipush 1750, 0, 0, .int (1750)), (50, 53, .if_icmp .le 14, 64, 50, .null), (53, 54, .iload_n 0, 0, 0, .null), (54, 57, .sipush 1800, 0, 0, .int (1800)), (57, 60, .if_icmp .ge 7, 64, 57, .null), (60, 61, .iconst 1, 0, 0, .int (1)), (61, 64, .goto 4, 65, 61, .null), (64, 65, .iconst 0, 0, 0, .int (0)), (65, 66, .istore_n 1, 0, 0, .null), (66, 67, .iload_n 1, 0, 0, .null), (67, 70, .ifCond .ne 17, 84, 67, .null), (70, 71, .iload_n 0, 0, 0, .null), (71, 74, .sipush 1800, 0, 0, .int (1800)), (74, 77, .if_icmp .eq 10, 84, 74, .null), (77, 78, .iload_n 0, 0, 0, .null), (78, 81, .sipush 1801, 0, 0, .int (1801)), (81, 84, .if_icmp .ne 7, 88, 81, .null), (84, 85, .iconst (-1), 0, 0, .int (-1)), (85, 88, .goto 4, 89, 85, .null), (88, 89, .iconst 0, 0, 0, .int (0)), (89, 90, .ireturn, 0, 0, .null)]
set_option maxRecDepth 100000 in
theorem qkX0_change : qtX0_change.all (qc_ok qmX0_change) = true := by decide +kernel
set_option maxRecDepth 100000 in
theorem qfX0_change : qc_mf qmX0_change 1 1 793 140 792 0 = true := by decide +kernel
