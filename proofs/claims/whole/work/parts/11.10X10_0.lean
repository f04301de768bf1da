abbrev qmX10_init : qcI := (10, yX10_init, cX10_init, 1, none)
def qtX10_init : List qcE := [(0, 1, .aload_n 0, 0, 0, .null), (1, 4, .invokespecial 3, 0, 0, .null), (4, 5, .aload_n 0, 0, 0, .null), (5, 8, .sipush 400, 0, 0, .int (400)), (8, 10, .newarray .int, 0, 0, .null), (10, 13, .putfield 11, 8, 0, .null), (13, 14, .aload_n 0, 0, 0, .null), (14, 15, .iconst 0, 0, 0, .int (0)), (15, 18, .putfield 15, 8, 1, .null), (18, 19, .return_, 0, 0, .null)]
set_option maxRecDepth 100000 in
theorem qkX10_init : qtX10_init.all (qc_ok qmX10_init) = true := by decide +kernel
set_option maxRecDepth 100000 in
theorem qfX10_init : qc_mf qmX10_init 2 0 204 135 203 0 = true := by decide +kernel
abbrev qmX10_hasRoom : qcI := (10, yX10_hasRoom, cX10_hasRoom, 1, (some .boolean))
def qtX10_hasRoom : List qcE := [(0, 1, .aload_n 0, 0, 0, .null), (1, 4, .getfield 15, 8, 1, .null), (4, 6, .bipush 20, 0, 0, .int (20)), (6, 7, .iadd, 0, 0, .null), (7, 10, .sipush 400, 0, 0, .int (400)), (10, 13, .if_icmp .gt 7, 17, 10, .null), (13, 14, .iconst 1, 0, 0, .int (1)), (14, 17, .goto 4, 18, 14, .null), (17, 18, .iconst 0, 0, 0, .int (0)), (18, 19, .ireturn, 0, 0, .null)]
set_option maxRecDepth 100000 in
theorem qkX10_hasRoom : qtX10_hasRoom.all (qc_ok qmX10_hasRoom) = true := by decide +kernel
set_option maxRecDepth 100000 in
theorem qfX10_hasRoom : qc_mf qmX10_hasRoom 0 0 620 135 618 619 = true := by decide +kernel
abbrev qmX10_append : qcI := (10, yX10_append, cX10_append, 3, none)
def qtX10_append : List qcE := [(0, 2, .bipush 24, 0, 0, .int (24)), (2, 3, .istore_n 2, 0, 0, .null), (3, 4, .iload_n 2, 0, 0, .null), (4, 7, .ifCond .lt 45, 49, 4, .null), (7, 8, .aload_n 0, 0, 0, .null), (8, 11, .getfield 15, 8, 1, .null), (11, 14, .sipush 400, 0, 0, .int (400)), (14, 17, .if_icmp .ge 29, 43, 14, .null), (17, 18, .aload_n 0, 0, 0, .null), (18, 21, .getfield 11, 8, 0, .null), (21, 22, .aload_n 0, 0, 0, .null), (22, 25, .getfield 15, 8, 1, .null), (25, 26, .iload_n 1, 0, 0, .null), (26, 27, .iload_n 2, 0, 0, .null), (27, 28, .iushr, 0, 0, .null), (28, 31, .sipush 255, 0, 0, .int (255)), (31, 32, .iand, 0, 0, .null), (32, 33, .iastore, 0, 0, .null), (33, 34, .aload_n 0, 0, 0, .null), (34, 35, .dup, 0, 0, .null), (35, 38, .getfield 15, 8, 1, .null), (38, 39, .iconst 1, 0, 0, .int (1)), (39, 40, .iadd, 0, 0, .null), (40, 43, .putfield 15, 8, 1, .null), (43, 46, .iinc 2 (-8), 0, 0, .int (-8)), (46, 49, .goto (-43), 3, 46, .null), (49, 50, .return_, 0, 0, .null)]
set_option maxRecDepth 100000 in
theorem qkX10_append : qtX10_append.all (qc_ok qmX10_append) = true := by decide +kernel
set_option maxRecDepth 100000 in
theorem qfX10_append : qc_mf qmX10_append 0 1 624 135 622 623 = true := by decide +kernel
abbrev qmX10_cut : qcI := (10, yX10_cut, cX10_cut, 2, (some .boolean))
def qtX10_cut : List qcE := [(0, 1, .iload_n 1, 0, 0, .null), (1, 4, .ifCond .lt 11, 12, 1, .null), (4, 5, .iload_n 1, 0, 0, .null), (5, 6, .aload_n 0, 0, 0, .null), (6, 9, .getfield 15, 8, 1, .null), (9, 12, .if_icmp .le 5, 14, 9, .null), (12, 13, .iconst 0, 0, 0, .int (0)), (13, 14, .ireturn, 0, 0, .null), (14, 15, .aload_n 0, 0, 0, .null), (15, 16, .iload_n 1, 0, 0, .null), (16, 19, .putfield 15, 8, 1, .null), (19, 20, .iconst 1, 0, 0, .int (1)), (20, 21, .ireturn, 0, 0, .null)]
set_option maxRecDepth 100000 in
theorem qkX10_cut : qtX10_cut.all (qc_ok qmX10_cut) = true := by decide +kernel
set_option maxRecDepth 100000 in
theorem qfX10_cut : qc_mf qmX10_cut 0 1 632 135 630 631 = true := by decide +kernel
abbrev qmX10_at : qcI := (10, yX10_at, cX10_at, 2, (some .int))
def qtX10_at : List qcE := [(0, 1, .iload_n 1, 0, 0, .null), (1, 4, .ifCond .lt 20, 21, 1, .null), (4, 5, .iload_n 1, 0, 0, .null), (5, 6, .aload_n 0, 0, 0, .null), (6, 9, .getfield 15, 8, 1, .null), (9, 12, .if_icmp .ge 12, 21, 9, .null), (12, 13, .aload_n 0, 0, 0, .null), (13, 16, .getfield 11, 8, 0, .null), (16, 17, .iload_n 1, 0, 0, .null), (17, 18, .iaload, 0, 0, .null), (18, 21, .goto 4, 22, 18, .null), (21, 22, .iconst (-1), 0, 0, .int (-1)), (22, 23, .ireturn, 0, 0, .null)]
set_option maxRecDepth 100000 in
theorem qkX10_at : qtX10_at.all (qc_ok qmX10_at) = true := by decide +kernel
set_option maxRecDepth 100000 in
theorem qfX10_at : qc_mf qmX10_at 0 1 660 135 658 659 = true := by decide +kernel
abbrev qmX10_hasAt : qcI := (10, yX10_hasAt, cX10_hasAt, 4, (some .boolean))
def qtX10_hasAt : List qcE := [(0, 1, .iload_n 1, 0, 0, .null), (1, 4, .ifCond .lt 16, 17, 1, .null), (4, 5, .iload_n 1, 0, 0, .null), (5, 6, .aload_n 0, 0, 0, .null), (6, 9, .getfield 15, 8, 1, .null), (9, 10, .aload_n 2, 0, 0, .null), (10, 13, .invokevirtual 19, 0, 0, .null), (13, 14, .isub, 0, 0, .null), (14, 17, .if_icmp .le 5, 19, 14, .null), (17, 18, .iconst 0, 0, 0, .int (0)), (18, 19, .ireturn, 0, 0, .null), (19, 20, .iconst 0, 0, 0, .int (0)), (20, 21, .istore_n 3, 0, 0, .null), (21, 22, .iload_n 3, 0, 0, .null), (22, 23, .aload_n 2, 0, 0, .null), (23, 26, .invokevirtual 19, 0, 0, .null), (26, 29, .if_icmp .ge 27, 53, 26, .null), (29, 30, .aload_n 0, 0, 0, .null), (30, 33, .getfield 11, 8, 0, .null), (33, 34, .iload_n 1, 0, 0, .null), (34, 35, .iload_n 3, 0, 0, .null), (35, 36, .iadd, 0, 0, .null), (36, 37, .iaload, 0, 0, .null), (37, 38, .aload_n 2, 0, 0, .null), (38, 39, .iload_n 3, 0, 0, .null), (39, 42, .invokevirtual 24, 0, 0, .null), (42, 45, .if_icmp .eq 5, 47, 42, .null), (45, 46, .iconst 0, 0, 0, .int (0)), (46, 47, .ireturn, 0, 0, .null), (47, 50, .iinc 3 1, 0, 0, .int (1)), (50, 53, .goto (-29), 21, 50, .null), (53, 54, .iconst 1, 0, 0, .int (1)), (54, 55, .ireturn, 0, 0, .null)]
set_option maxRecDepth 100000 in
theorem qkX10_hasAt : qtX10_hasAt.all (qc_ok qmX10_hasAt) = true := by decide +kernel
set_option maxRecDepth 100000 in
theorem qfX10_hasAt : qc_mf qmX10_hasAt 0 2 688 135 686 687 = true := by decide +kernel
