abbrev qmX1_init : qcI := (1, yX1_init, cX1_init, 2, none)
def qtX1_init : List qcE := [(0, 1, .aload_n 0, 0, 0, .null), (1, 4, .invokespecial 3, 0, 0, .null), (4, 5, .aload_n 0, 0, 0, .null), (5, 7, .bipush 10, 0, 0, .int (10)), (7, 9, .newarray .int, 0, 0, .null), (9, 12, .putfield 11, 1, 0, .null), (12, 13, .aload_n 0, 0, 0, .null), (13, 15, .bipush 10, 0, 0, .int (10)), (15, 17, .newarray .int, 0, 0, .null), (17, 20, .putfield 15, 1, 1, .null), (20, 21, .aload_n 0, 0, 0, .null), (21, 23, .bipush 10, 0, 0, .int (10)), (23, 25, .newarray .int, 0, 0, .null), (25, 28, .putfield 18, 1, 2, .null), (28, 29, .aload_n 0, 0, 0, .null), (29, 32, .sipush 160, 0, 0, .int (160)), (32, 34, .newarray .long, 0, 0, .null), (34, 37, .putfield 21, 1, 3, .null), (37, 38, .aload_n 0, 0, 0, .null), (38, 41, .sipush 160, 0, 0, .int (160)), (41, 43, .newarray .double, 0, 0, .null), (43, 46, .putfield 25, 1, 4, .null), (46, 47, .aload_n 0, 0, 0, .null), (47, 49, .bipush 16, 0, 0, .int (16)), (49, 51, .newarray .long, 0, 0, .null), (51, 54, .putfield 29, 1, 5, .null), (54, 55, .aload_n 0, 0, 0, .null), (55, 57, .bipush 16, 0, 0, .int (16)), (57, 59, .newarray .double, 0, 0, .null), (59, 62, .putfield 32, 1, 6, .null), (62, 63, .aload_n 0, 0, 0, .null), (63, 64, .iconst (-1), 0, 0, .int (-1)), (64, 67, .putfield 35, 1, 7, .null), (67, 68, .iconst 0, 0, 0, .int (0)), (68, 69, .istore_n 1, 0, 0, .null), (69, 70, .iload_n 1, 0, 0, .null), (70, 72, .bipush 10, 0, 0, .int (10)), (72, 75, .if_icmp .ge 16, 88, 72, .null), (75, 76, .aload_n 0, 0, 0, .null), (76, 79, .getfield 11, 1, 0, .null), (79, 80, .iload_n 1, 0, 0, .null), (80, 81, .iconst (-1), 0, 0, .int (-1)), (81, 82, .iastore, 0, 0, .null), (82, 85, .iinc 1 1, 0, 0, .int (1)), (85, 88, .goto (-16), 69, 85, .null), (88, 89, .return_, 0, 0, .null)]
set_option maxRecDepth 100000 in
theorem qkX1_init : qtX1_init.all (qc_ok qmX1_init) = true := by decide +kernel
set_option maxRecDepth 100000 in
theorem qfX1_init : qc_mf qmX1_init 2 0 170 134 169 0 = true := by decide +kernel
abbrev qmX1_isColumn : qcI := (1, yX1_isColumn, cX1_isColumn, 1, (some .boolean))
def qtX1_isColumn : List qcE := [(0, 1, .iload_n 0, 0, 0, .null), (1, 4, .ifCond .lt 13, 14, 1, .null), (4, 5, .iload_n 0, 0, 0, .null), (5, 7, .bipush 10, 0, 0, .int (10)), (7, 10, .if_icmp .ge 7, 14, 7, .null), (10, 11, .iconst 1, 0, 0, .int (1)), (11, 14, .goto 4, 15, 11, .null), (14, 15, .iconst 0, 0, 0, .int (0)), (15, 16, .ireturn, 0, 0, .null)]
set_option maxRecDepth 100000 in
theorem qkX1_isColumn : qtX1_isColumn.all (qc_ok qmX1_isColumn) = true := by decide +kernel
set_option maxRecDepth 100000 in
theorem qfX1_isColumn : qc_mf qmX1_isColumn 1 1 484 134 483 0 = true := by decide +kernel
abbrev qmX1_isLane : qcI := (1, yX1_isLane, cX1_isLane, 1, (some .boolean))
def qtX1_isLane : List qcE := [(0, 1, .iload_n 0, 0, 0, .null), (1, 4, .ifCond .lt 13, 14, 1, .null), (4, 5, .iload_n 0, 0, 0, .null), (5, 7, .bipush 8, 0, 0, .int (8)), (7, 10, .if_icmp .ge 7, 14, 7, .null), (10, 11, .iconst 1, 0, 0, .int (1)), (11, 14, .goto 4, 15, 11, .null), (14, 15, .iconst 0, 0, 0, .int (0)), (15, 16, .ireturn, 0, 0, .null)]
set_option maxRecDepth 100000 in
theorem qkX1_isLane : qtX1_isLane.all (qc_ok qmX1_isLane) = true := by decide +kernel
set_option maxRecDepth 100000 in
theorem qfX1_isLane : qc_mf qmX1_isLane 1 1 487 134 486 0 = true := by decide +kernel
abbrev qmX1_kindOf : qcI := (1, yX1_kindOf, cX1_kindOf, 1, (some .int))
def qtX1_kindOf : List qcE := [(0, 1, .iload_n 0, 0, 0, .null), (1, 4, .ifCond .ne 5, 6, 1, .null), (4, 5, .iconst 0, 0, 0, .int (0)), (5, 6, .ireturn, 0, 0, .null), (6, 7, .iload_n 0, 0, 0, .null), (7, 8, .iconst 4, 0, 0, .int (4)), (8, 11, .if_icmp .gt 7, 15, 8, .null), (11, 12, .iconst 1, 0, 0, .int (1)), (12, 15, .goto 8, 20, 12, .null), (15, 16, .iload_n 0, 0, 0, .null), (16, 17, .iconst 4, 0, 0, .int (4)), (17, 18, .isub, 0, 0, .null), (18, 19, .iconst 1, 0, 0, .int (1)), (19, 20, .iadd, 0, 0, .null), (20, 21, .ireturn, 0, 0, .null)]
set_option maxRecDepth 100000 in
theorem qkX1_kindOf : qtX1_kindOf.all (qc_ok qmX1_kindOf) = true := by decide +kernel
set_option maxRecDepth 100000 in
theorem qfX1_kindOf : qc_mf qmX1_kindOf 1 1 888 134 887 0 = true := by decide +kernel
abbrev qmX1_laneOf : qcI := (1, yX1_laneOf, cX1_laneOf, 2, (some .int))
def qtX1_laneOf : List qcE := [(0, 1, .iload_n 1, 0, 0, .null), (1, 4, .invokestatic 39, 0, 0, .null), (4, 7, .ifCond .eq 27, 31, 4, .null), (7, 8, .aload_n 0, 0, 0, .null), (8, 11, .getfield 11, 1, 0, .null), (11, 12, .iload_n 1, 0, 0, .null), (12, 13, .iaload, 0, 0, .null), (13, 14, .iconst (-1), 0, 0, .int (-1)), (14, 17, .if_icmp .eq 17, 31, 14, .null), (17, 18, .aload_n 0, 0, 0, .null), (18, 21, .getfield 15, 1, 1, .null), (21, 22, .aload_n 0, 0, 0, .null), (22, 25, .getfield 11, 1, 0, .null), (25, 26, .iload_n 1, 0, 0, .null), (26, 27, .iaload, 0, 0, .null), (27, 28, .iaload, 0, 0, .null), (28, 31, .goto 4, 32, 28, .null), (31, 32, .iconst (-1), 0, 0, .int (-1)), (32, 33, .ireturn, 0, 0, .null)]
set_option maxRecDepth 100000 in
theorem qkX1_laneOf : qtX1_laneOf.all (qc_ok qmX1_laneOf) = true := by decide +kernel
set_option maxRecDepth 100000 in
theorem qfX1_laneOf : qc_mf qmX1_laneOf 0 1 523 134 521 522 = true := by decide +kernel
abbrev qmX1_sizeOf : qcI := (1, yX1_sizeOf, cX1_sizeOf, 2, (some .int))
def qtX1_sizeOf : List qcE := [(0, 1, .iload_n 1, 0, 0, .null), (1, 4, .invokestatic 39, 0, 0, .null), (4, 7, .ifCond .eq 27, 31, 4, .null), (7, 8, .aload_n 0, 0, 0, .null), (8, 11, .getfield 11, 1, 0, .null), (11, 12, .iload_n 1, 0, 0, .null), (12, 13, .iaload, 0, 0, .null), (13, 14, .iconst (-1), 0, 0, .int (-1)), (14, 17, .if_icmp .eq 17, 31, 14, .null), (17, 18, .aload_n 0, 0, 0, .null), (18, 21, .getfield 18, 1, 2, .null), (21, 22, .aload_n 0, 0, 0, .null), (22, 25, .getfield 11, 1, 0, .null), (25, 26, .iload_n 1, 0, 0, .null), (26, 27, .iaload, 0, 0, .null), (27, 28, .iaload, 0, 0, .null), (28, 31, .goto 4, 32, 28, .null), (31, 32, .iconst (-1), 0, 0, .int (-1)), (32, 33, .ireturn, 0, 0, .null)]
set_option maxRecDepth 100000 in
theorem qkX1_sizeOf : qtX1_sizeOf.all (qc_ok qmX1_sizeOf) = true := by decide +kernel
set_option maxRecDepth 100000 in
theorem qfX1_sizeOf : qc_mf qmX1_sizeOf 0 1 570 134 568 569 = true := by decide +kernel
abbrev qmX1_present : qcI := (1, yX1_present, cX1_present, 3, (some .int))
def qtX1_present : List qcE := [(0, 1, .iconst 0, 0, 0, .int (0)), (1, 2, .istore_n 1, 0, 0, .null), (2, 3, .iconst 0, 0, 0, .int (0)), (3, 4, .istore_n 2, 0, 0, .null), (4, 5, .iload_n 2, 0, 0, .null), (5, 7, .bipush 10, 0, 0, .int (10)), (7, 10, .if_icmp .ge 22, 29, 7, .null), (10, 11, .aload_n 0, 0, 0, .null), (11, 14, .getfield 11, 1, 0, .null), (14, 15, .iload_n 2, 0, 0, .null), (15, 16, .iaload, 0, 0, .null), (16, 17, .iconst (-1), 0, 0, .int (-1)), (17, 20, .if_icmp .eq 6, 23, 17, .null), (20, 23, .iinc 1 1, 0, 0, .int (1)), (23, 26, .iinc 2 1, 0, 0, .int (1)), (26, 29, .goto (-22), 4, 26, .null), (29, 30, .iload_n 1, 0, 0, .null), (30, 31, .ireturn, 0, 0, .null)]
set_option maxRecDepth 100000 in
theorem qkX1_present : qtX1_present.all (qc_ok qmX1_present) = true := by decide +kernel
set_option maxRecDepth 100000 in
theorem qfX1_present : qc_mf qmX1_present 0 0 1334 134 1332 1333 = true := by decide +kernel
abbrev qmX1_leastLike : qcI := (1, yX1_leastLike, cX1_leastLike, 3, (some .int))
def qtX1_leastLike : List qcE := [(0, 1, .iconst 0, 0, 0, .int (0)), (1, 2, .istore_n 2, 0, 0, .null), (2, 3, .iload_n 2, 0, 0, .null), (3, 4, .iload_n 1, 0, 0, .null), (4, 7, .if_icmp .ge 26, 30, 4, .null), (7, 8, .aload_n 0, 0, 0, .null), (8, 11, .getfield 11, 1, 0, .null), (11, 12, .iload_n 2, 0, 0, .null), (12, 13, .iaload, 0, 0, .null), (13, 14, .aload_n 0, 0, 0, .null), (14, 17, .getfield 11, 1, 0, .null), (17, 18, .iload_n 1, 0, 0, .null), (18, 19, .iaload, 0, 0, .null), (19, 22, .if_icmp .ne 5, 24, 19, .null), (22, 23, .iload_n 2, 0, 0, .null), (23, 24, .ireturn, 0, 0, .null), (24, 27, .iinc 2 1, 0, 0, .int (1)), (27, 30, .goto (-25), 2, 27, .null), (30, 31, .iload_n 1, 0, 0, .null), (31, 32, .ireturn, 0, 0, .null)]
set_option maxRecDepth 100000 in
theorem qkX1_leastLike : qtX1_leastLike.all (qc_ok qmX1_leastLike) = true := by decide +kernel
set_option maxRecDepth 100000 in
theorem qfX1_leastLike : qc_mf qmX1_leastLike 0 1 612 134 610 611 = true := by decide +kernel
abbrev qmX1_make : qcI := (1, yX1_make, cX1_make, 6, none)
def qtX1_make : List qcE := [(0, 1, .aload_n 0, 0, 0, .null), (1, 4, .getfield 11, 1, 0, .null), (4, 5, .iload_n 1, 0, 0, .null), (5, 6, .iconst (-1), 0, 0, .int (-1)), (6, 7, .iastore, 0, 0, .null), (7, 8, .aload_n 0, 0, 0, .null), (8, 11, .invokevirtual 43, 0, 0, .null), (11, 13, .istore 4, 0, 0, .null), (13, 14, .aload_n 0, 0, 0, .null), (14, 17, .getfield 15, 1, 1, .null), (17, 19, .iload 4, 0, 0, .null), (19, 20, .iload_n 2, 0, 0, .null), (20, 21, .iastore, 0, 0, .null), (21, 22, .aload_n 0, 0, 0, .null), (22, 25, .getfield 18, 1, 2, .null), (25, 27, .iload 4, 0, 0, .null), (27, 28, .iload_n 3, 0, 0, .null), (28, 29, .iastore, 0, 0, .null), (29, 30, .iconst 0, 0, 0, .int (0)), (30, 32, .istore 5, 0, 0, .null), (32, 34, .iload 5, 0, 0, .null), (34, 36, .bipush 16, 0, 0, .int (16)), (36, 39, .if_icmp .ge 37, 73, 36, .null), (39, 40, .aload_n 0, 0, 0, .null), (40, 43, .getfield 21, 1, 3, .null), (43, 45, .iload 4, 0, 0, .null), (45, 47, .bipush 16, 0, 0, .int (16)), (47, 48, .imul, 0, 0, .null), (48, 50, .iload 5, 0, 0, .null), (50, 51, .iadd, 0, 0, .null), (51, 52, .lconst 0, 0, 0, .long 0), (52, 53, .lastore, 0, 0, .null), (53, 54, .aload_n 0, 0, 0, .null), (54, 57, .getfield 25, 1, 4, .null), (57, 59, .iload 4, 0, 0, .null), (59, 61, .bipush 16, 0, 0, .int (16)), (61, 62, .imul, 0, 0, .null), (62, 64, .iload 5, 0, 0, .null), (64, 65, .iadd, 0, 0, .null), (65, 66, .dconst 0, 0, 0, .double 0), (66, 67, .dastore, 0, 0, .null), (67, 70, .iinc 5 1, 0, 0, .int (1)), (70, 73, .goto (-38), 32, 70, .null), (73, 74, .aload_n 0, 0, 0, .null), (74, 77, .getfield 11, 1, 0, .null), (77, 78, .iload_n 1, 0, 0, .null), (78, 80, .iload 4, 0, 0, .null), (80, 81, .iastore, 0, 0, .null), (81, 82, .return_, 0, 0, .null)]
set_option maxRecDepth 100000 in
theorem qkX1_make : qtX1_make.all (qc_ok qmX1_make) = true := by decide +kernel
set_option maxRecDepth 100000 in
theorem qfX1_make : qc_mf qmX1_make 0 3 491 134 489 490 = true := by decide +kernel
abbrev qmX1_unite : qcI := (1, yX1_unite, cX1_unite, 3, none)
def qtX1_unite : List qcE := [(0, 1, .aload_n 0, 0, 0, .null), (1, 4, .getfield 11, 1, 0, .null), (4, 5, .iload_n 1, 0, 0, .null), (5, 6, .aload_n 0, 0, 0, .null), (6, 9, .getfield 11, 1, 0, .null), (9, 10, .iload_n 2, 0, 0, .null), (10, 11, .iaload, 0, 0, .null), (11, 12, .iastore, 0, 0, .null), (12, 13, .return_, 0, 0, .null)]
set_option maxRecDepth 100000 in
theorem qkX1_unite : qtX1_unite.all (qc_ok qmX1_unite) = true := by decide +kernel
set_option maxRecDepth 100000 in
theorem qfX1_unite : qc_mf qmX1_unite 0 2 507 134 505 506 = true := by decide +kernel
abbrev qmX1_lose : qcI := (1, yX1_lose, cX1_lose, 3, (some .boolean))
def qtX1_lose : List qcE := [(0, 1, .aload_n 0, 0, 0, .null), (1, 4, .getfield 11, 1, 0, .null), (4, 5, .iload_n 1, 0, 0, .null), (5, 6, .iaload, 0, 0, .null), (6, 7, .iconst (-1), 0, 0, .int (-1)), (7, 10, .if_icmp .eq 7, 14, 7, .null), (10, 11, .iconst 1, 0, 0, .int (1)), (11, 14, .goto 4, 15, 11, .null), (14, 15, .iconst 0, 0, 0, .int (0)), (15, 16, .istore_n 2, 0, 0, .null), (16, 17, .aload_n 0, 0, 0, .null), (17, 20, .getfield 11, 1, 0, .null), (20, 21, .iload_n 1, 0, 0, .null), (21, 22, .iconst (-1), 0, 0, .int (-1)), (22, 23, .iastore, 0, 0, .null), (23, 24, .iload_n 2, 0, 0, .null), (24, 25, .ireturn, 0, 0, .null)]
set_option maxRecDepth 100000 in
theorem qkX1_lose : qtX1_lose.all (qc_ok qmX1_lose) = true := by decide +kernel
set_option maxRecDepth 100000 in
theorem qfX1_lose : qc_mf qmX1_lose 0 1 515 134 513 514 = true := by decide +kernel
abbrev qmX1_freeRow : qcI := (1, yX1_freeRow, cX1_freeRow, 2, (some .int))
def qtX1_freeRow : List qcE := [(0, 1, .iconst 0, 0, 0, .int (0)), (1, 2, .istore_n 1, 0, 0, .null), (2, 3, .iload_n 1, 0, 0, .null), (3, 5, .bipush 10, 0, 0, .int (10)), (5, 8, .if_icmp .ge 19, 24, 5, .null), (8, 9, .aload_n 0, 0, 0, .null), (9, 10, .iload_n 1, 0, 0, .null), (10, 13, .invokevirtual 47, 0, 0, .null), (13, 16, .ifCond .ne 5, 18, 13, .null), (16, 17, .iload_n 1, 0, 0, .null), (17, 18, .ireturn, 0, 0, .null), (18, 21, .iinc 1 1, 0, 0, .int (1)), (21, 24, .goto (-19), 2, 21, .null), (24, 25, .iconst 0, 0, 0, .int (0)), (25, 26, .ireturn, 0, 0, .null)]
set_option maxRecDepth 100000 in
theorem qkX1_freeRow : qtX1_freeRow.all (qc_ok qmX1_freeRow) = true := by decide +kernel
set_option maxRecDepth 100000 in
theorem qfX1_freeRow : qc_mf qmX1_freeRow 0 0 495 134 494 0 = true := by decide +kernel
abbrev qmX1_isUsed : qcI := (1, yX1_isUsed, cX1_isUsed, 3, (some .boolean))
def qtX1_isUsed : List qcE := [(0, 1, .iconst 0, 0, 0, .int (0)), (1, 2, .istore_n 2, 0, 0, .null), (2, 3, .iload_n 2, 0, 0, .null), (3, 5, .bipush 10, 0, 0, .int (10)), (5, 8, .if_icmp .ge 21, 26, 5, .null), (8, 9, .aload_n 0, 0, 0, .null), (9, 12, .getfield 11, 1, 0, .null), (12, 13, .iload_n 2, 0, 0, .null), (13, 14, .iaload, 0, 0, .null), (14, 15, .iload_n 1, 0, 0, .null), (15, 18, .if_icmp .ne 5, 20, 15, .null), (18, 19, .iconst 1, 0, 0, .int (1)), (19, 20, .ireturn, 0, 0, .null), (20, 23, .iinc 2 1, 0, 0, .int (1)), (23, 26, .goto (-21), 2, 23, .null), (26, 27, .iconst 0, 0, 0, .int (0)), (27, 28, .ireturn, 0, 0, .null)]
set_option maxRecDepth 100000 in
theorem qkX1_isUsed : qtX1_isUsed.all (qc_ok qmX1_isUsed) = true := by decide +kernel
set_option maxRecDepth 100000 in
theorem qfX1_isUsed : qc_mf qmX1_isUsed 0 1 499 134 498 1 = true := by decide +kernel
abbrev qmX1_setBits : qcI := (1, yX1_setBits, cX1_setBits, 7, (some .boolean))
def qtX1_setBits : List qcE := [(0, 1, .aload_n 0, 0, 0, .null), (1, 2, .iload_n 1, 0, 0, .null), (2, 3, .aload_n 0, 0, 0, .null), (3, 4, .iload_n 1, 0, 0, .null), (4, 7, .invokevirtual 50, 0, 0, .null), (7, 8, .iload_n 2, 0, 0, .null), (8, 9, .i2l, 0, 0, .null), (9, 12, .invokevirtual 54, 0, 0, .null), (12, 15, .ifCond .eq 5, 17, 12, .null), (15, 16, .iconst 0, 0, 0, .int (0)), (16, 17, .ireturn, 0, 0, .null), (17, 18, .aload_n 0, 0, 0, .null), (18, 21, .getfield 11, 1, 0, .null), (21, 22, .iload_n 1, 0, 0, .null), (22, 23, .iaload, 0, 0, .null), (23, 25, .bipush 16, 0, 0, .int (16)), (25, 26, .imul, 0, 0, .null), (26, 27, .iload_n 2, 0, 0, .null), (27, 28, .iadd, 0, 0, .null), (28, 30, .istore 5, 0, 0, .null), (30, 31, .aload_n 0, 0, 0, .null), (31, 32, .iload_n 1, 0, 0, .null), (32, 35, .invokevirtual 50, 0, 0, .null), (35, 37, .istore 6, 0, 0, .null), (37, 39, .iload 6, 0, 0, .null), (39, 41, .bipush 6, 0, 0, .int (6)), (41, 44, .if_icmp .ge 18, 59, 41, .null), (44, 45, .aload_n 0, 0, 0, .null), (45, 48, .getfield 21, 1, 3, .null), (48, 50, .iload 5, 0, 0, .null), (50, 52, .iload 6, 0, 0, .null), (52, 53, .lload_n 3, 0, 0, .null), (53, 56, .invokestatic 58, 0, 0, .null), (56, 57, .lastore, 0, 0, .null), (57, 58, .iconst 1, 0, 0, .int (1)), (58, 59, .ireturn, 0, 0, .null), (59, 61, .iload 6, 0, 0, .null), (61, 63, .bipush 6, 0, 0, .int (6)), (63, 66, .if_icmp .ne 14, 77, 63, .null), (66, 67, .lload_n 3, 0, 0, .null), (67, 68, .l2i, 0, 0, .null), (68, 71, .invokestatic 62, 0, 0, .null), (71, 74, .ifCond .eq 15, 86, 71, .null), (74, 77, .goto 10, 84, 74, .null), (77, 78, .lload_n 3, 0, 0, .null), (78, 81, .invokestatic 67, 0, 0, .null), (81, 84, .ifCond .eq 5, 86, 81, .null), (84, 85, .iconst 0, 0, 0, .int (0)), (85, 86, .ireturn, 0, 0, .null), (86, 87, .aload_n 0, 0, 0, .null), (87, 90, .getfield 25, 1, 4, .null), (90, 92, .iload 5, 0, 0, .null), (92, 94, .iload 6, 0, 0, .null), (94, 96, .bipush 6, 0, 0, .int (6)), (96, 99, .if_icmp .ne 11, 107, 96, .null), (99, 100, .lload_n 3, 0, 0, .null), (100, 101, .l2i, 0, 0, .null), (101, 104, .invokestatic 71, 0, 0, .null), (104, 107, .goto 7, 111, 104, .null), (107, 108, .lload_n 3, 0, 0, .null), (108, 111, .invokestatic 75, 0, 0, .null), (111, 112, .dastore, 0, 0, .null), (112, 113, .iconst 1, 0, 0, .int (1)), (113, 114, .ireturn, 0, 0, .null)]
set_option maxRecDepth 100000 in
theorem qkX1_setBits : qtX1_setBits.all (qc_ok qmX1_setBits) = true := by decide +kernel
set_option maxRecDepth 100000 in
theorem qfX1_setBits : qc_mf qmX1_setBits 0 3 528 134 526 527 = true := by decide +kernel
abbrev qmX1_narrowed : qcI := (1, yX1_narrowed, cX1_narrowed, 3, (some .long))
def qtX1_narrowed : List qcE := [(0, 1, .iload_n 0, 0, 0, .null), (1, 36, .tableswitch 66 0 4 #[35, 47, 52, 57, 62], 0, 0, .null), (36, 37, .lload_n 1, 0, 0, .null), (37, 38, .lconst 0, 0, 0, .long 0), (38, 39, .lcmp, 0, 0, .null), (39, 42, .ifCond .eq 7, 46, 39, .null), (42, 43, .lconst 1, 0, 0, .long 1), (43, 46, .goto 4, 47, 43, .null), (46, 47, .lconst 0, 0, 0, .long 0), (47, 48, .lreturn, 0, 0, .null), (48, 49, .lload_n 1, 0, 0, .null), (49, 50, .l2i, 0, 0, .null), (50, 51, .i2b, 0, 0, .null), (51, 52, .i2l, 0, 0, .null), (52, 53, .lreturn, 0, 0, .null), (53, 54, .lload_n 1, 0, 0, .null), (54, 55, .l2i, 0, 0, .null), (55, 56, .i2s, 0, 0, .null), (56, 57, .i2l, 0, 0, .null), (57, 58, .lreturn, 0, 0, .null), (58, 59, .lload_n 1, 0, 0, .null), (59, 60, .l2i, 0, 0, .null), (60, 61, .i2c, 0, 0, .null), (61, 62, .i2l, 0, 0, .null), (62, 63, .lreturn, 0, 0, .null), (63, 64, .lload_n 1, 0, 0, .null), (64, 65, .l2i, 0, 0, .null), (65, 66, .i2l, 0, 0, .null), (66, 67, .lreturn, 0, 0, .null), (67, 68, .lload_n 1, 0, 0, .null), (68, 69, .lreturn, 0, 0, .null)]
set_option maxRecDepth 100000 in
theorem qkX1_narrowed : qtX1_narrowed.all (qc_ok qmX1_narrowed) = true := by decide +kernel
set_option maxRecDepth 100000 in
theorem qfX1_narrowed : qc_mf qmX1_narrowed 1 2 536 134 535 0 = true := by decide +kernel
abbrev qmX1_bitsOf : qcI := (1, yX1_bitsOf, cX1_bitsOf, 5, (some .long))
def qtX1_bitsOf : List qcE := [(0, 1, .aload_n 0, 0, 0, .null), (1, 4, .getfield 11, 1, 0, .null), (4, 5, .iload_n 1, 0, 0, .null), (5, 6, .iaload, 0, 0, .null), (6, 8, .bipush 16, 0, 0, .int (16)), (8, 9, .imul, 0, 0, .null), (9, 10, .iload_n 2, 0, 0, .null), (10, 11, .iadd, 0, 0, .null), (11, 12, .istore_n 3, 0, 0, .null), (12, 13, .aload_n 0, 0, 0, .null), (13, 14, .iload_n 1, 0, 0, .null), (14, 17, .invokevirtual 50, 0, 0, .null), (17, 19, .istore 4, 0, 0, .null), (19, 21, .iload 4, 0, 0, .null), (21, 23, .bipush 6, 0, 0, .int (6)), (23, 26, .if_icmp .ge 10, 33, 23, .null), (26, 27, .aload_n 0, 0, 0, .null), (27, 30, .getfield 21, 1, 3, .null), (30, 31, .iload_n 3, 0, 0, .null), (31, 32, .laload, 0, 0, .null), (32, 33, .lreturn, 0, 0, .null), (33, 35, .iload 4, 0, 0, .null), (35, 37, .bipush 6, 0, 0, .int (6)), (37, 40, .if_icmp .ne 15, 52, 37, .null), (40, 41, .aload_n 0, 0, 0, .null), (41, 44, .getfield 25, 1, 4, .null), (44, 45, .iload_n 3, 0, 0, .null), (45, 46, .daload, 0, 0, .null), (46, 49, .invokestatic 79, 0, 0, .null), (49, 52, .goto 12, 61, 49, .null), (52, 53, .aload_n 0, 0, 0, .null), (53, 56, .getfield 25, 1, 4, .null), (56, 57, .iload_n 3, 0, 0, .null), (57, 58, .daload, 0, 0, .null), (58, 61, .invokestatic 83, 0, 0, .null), (61, 62, .lreturn, 0, 0, .null)]
set_option maxRecDepth 100000 in
theorem qkX1_bitsOf : qtX1_bitsOf.all (qc_ok qmX1_bitsOf) = true := by decide +kernel
set_option maxRecDepth 100000 in
theorem qfX1_bitsOf : qc_mf qmX1_bitsOf 0 2 575 134 573 574 = true := by decide +kernel
abbrev qmX1_cellFault : qcI := (1, yX1_cellFault, cX1_cellFault, 5, (some .int))
def qtX1_cellFault : List qcE := [(0, 1, .iload_n 1, 0, 0, .null), (1, 4, .invokestatic 39, 0, 0, .null), (4, 7, .ifCond .eq 13, 17, 4, .null), (7, 8, .aload_n 0, 0, 0, .null), (8, 11, .getfield 11, 1, 0, .null), (11, 12, .iload_n 1, 0, 0, .null), (12, 13, .iaload, 0, 0, .null), (13, 14, .iconst (-1), 0, 0, .int (-1)), (14, 17, .if_icmp .ne 5, 19, 14, .null), (17, 18, .iconst 1, 0, 0, .int (1)), (18, 19, .ireturn, 0, 0, .null), (19, 20, .aload_n 0, 0, 0, .null), (20, 23, .getfield 15, 1, 1, .null), (23, 24, .aload_n 0, 0, 0, .null), (24, 27, .getfield 11, 1, 0, .null), (27, 28, .iload_n 1, 0, 0, .null), (28, 29, .iaload, 0, 0, .null), (29, 30, .iaload, 0, 0, .null), (30, 31, .iload_n 2, 0, 0, .null), (31, 34, .if_icmp .eq 5, 36, 31, .null), (34, 35, .iconst 3, 0, 0, .int (3)), (35, 36, .ireturn, 0, 0, .null), (36, 37, .lload_n 3, 0, 0, .null), (37, 38, .lconst 0, 0, 0, .long 0), (38, 39, .lcmp, 0, 0, .null), (39, 42, .ifCond .lt 20, 59, 39, .null), (42, 43, .lload_n 3, 0, 0, .null), (43, 44, .aload_n 0, 0, 0, .null), (44, 47, .getfield 18, 1, 2, .null), (47, 48, .aload_n 0, 0, 0, .null), (48, 51, .getfield 11, 1, 0, .null), (51, 52, .iload_n 1, 0, 0, .null), (52, 53, .iaload, 0, 0, .null), (53, 54, .iaload, 0, 0, .null), (54, 55, .i2l, 0, 0, .null), (55, 56, .lcmp, 0, 0, .null), (56, 59, .ifCond .lt 7, 63, 56, .null), (59, 60, .iconst 2, 0, 0, .int (2)), (60, 63, .goto 4, 64, 60, .null), (63, 64, .iconst 0, 0, 0, .int (0)), (64, 65, .ireturn, 0, 0, .null)]
set_option maxRecDepth 100000 in
theorem qkX1_cellFault : qtX1_cellFault.all (qc_ok qmX1_cellFault) = true := by decide +kernel
set_option maxRecDepth 100000 in
theorem qfX1_cellFault : qc_mf qmX1_cellFault 0 3 533 134 531 532 = true := by decide +kernel
abbrev qmX1_wholeAt : qcI := (1, yX1_wholeAt, cX1_wholeAt, 3, (some .long))
def qtX1_wholeAt : List qcE := [(0, 1, .aload_n 0, 0, 0, .null), (1, 4, .getfield 21, 1, 3, .null), (4, 5, .aload_n 0, 0, 0, .null), (5, 8, .getfield 11, 1, 0, .null), (8, 9, .iload_n 1, 0, 0, .null), (9, 10, .iaload, 0, 0, .null), (10, 12, .bipush 16, 0, 0, .int (16)), (12, 13, .imul, 0, 0, .null), (13, 14, .iload_n 2, 0, 0, .null), (14, 15, .iadd, 0, 0, .null), (15, 16, .laload, 0, 0, .null), (16, 17, .lreturn, 0, 0, .null)]
set_option maxRecDepth 100000 in
theorem qkX1_wholeAt : qtX1_wholeAt.all (qc_ok qmX1_wholeAt) = true := by decide +kernel
set_option maxRecDepth 100000 in
theorem qfX1_wholeAt : qc_mf qmX1_wholeAt 0 2 1150 134 1148 1149 = true := by decide +kernel
abbrev qmX1_realAt : qcI := (1, yX1_realAt, cX1_realAt, 3, (some .double))
def qtX1_realAt : List qcE := [(0, 1, .aload_n 0, 0, 0, .null), (1, 4, .getfield 25, 1, 4, .null), (4, 5, .aload_n 0, 0, 0, .null), (5, 8, .getfield 11, 1, 0, .null), (8, 9, .iload_n 1, 0, 0, .null), (9, 10, .iaload, 0, 0, .null), (10, 12, .bipush 16, 0, 0, .int (16)), (12, 13, .imul, 0, 0, .null), (13, 14, .iload_n 2, 0, 0, .null), (14, 15, .iadd, 0, 0, .null), (15, 16, .daload, 0, 0, .null), (16, 17, .dreturn, 0, 0, .null)]
set_option maxRecDepth 100000 in
theorem qkX1_realAt : qtX1_realAt.all (qc_ok qmX1_realAt) = true := by decide +kernel
set_option maxRecDepth 100000 in
theorem qfX1_realAt : qc_mf qmX1_realAt 0 2 1142 134 1140 1141 = true := by decide +kernel
abbrev qmX1_setWhole : qcI := (1, yX1_setWhole, cX1_setWhole, 5, none)
def qtX1_setWhole : List qcE := [(0, 1, .aload_n 0, 0, 0, .null), (1, 4, .getfield 21, 1, 3, .null), (4, 5, .aload_n 0, 0, 0, .null), (5, 8, .getfield 11, 1, 0, .null), (8, 9, .iload_n 1, 0, 0, .null), (9, 10, .iaload, 0, 0, .null), (10, 12, .bipush 16, 0, 0, .int (16)), (12, 13, .imul, 0, 0, .null), (13, 14, .iload_n 2, 0, 0, .null), (14, 15, .iadd, 0, 0, .null), (15, 16, .lload_n 3, 0, 0, .null), (16, 17, .lastore, 0, 0, .null), (17, 18, .return_, 0, 0, .null)]
set_option maxRecDepth 100000 in
theorem qkX1_setWhole : qtX1_setWhole.all (qc_ok qmX1_setWhole) = true := by decide +kernel
set_option maxRecDepth 100000 in
theorem qfX1_setWhole : qc_mf qmX1_setWhole 0 3 1134 134 1132 1133 = true := by decide +kernel
abbrev qmX1_setReal : qcI := (1, yX1_setReal, cX1_setReal, 5, none)
def qtX1_setReal : List qcE := [(0, 1, .aload_n 0, 0, 0, .null), (1, 4, .getfield 25, 1, 4, .null), (4, 5, .aload_n 0, 0, 0, .null), (5, 8, .getfield 11, 1, 0, .null), (8, 9, .iload_n 1, 0, 0, .null), (9, 10, .iaload, 0, 0, .null), (10, 12, .bipush 16, 0, 0, .int (16)), (12, 13, .imul, 0, 0, .null), (13, 14, .iload_n 2, 0, 0, .null), (14, 15, .iadd, 0, 0, .null), (15, 16, .dload_n 3, 0, 0, .null), (16, 17, .dastore, 0, 0, .null), (17, 18, .return_, 0, 0, .null)]
set_option maxRecDepth 100000 in
theorem qkX1_setReal : qtX1_setReal.all (qc_ok qmX1_setReal) = true := by decide +kernel
set_option maxRecDepth 100000 in
theorem qfX1_setReal : qc_mf qmX1_setReal 0 3 1130 134 1128 1129 = true := by decide +kernel
abbrev qmX1_keep : qcI := (1, yX1_keep, cX1_keep, 2, none)
def qtX1_keep : List qcE := [(0, 1, .aload_n 0, 0, 0, .null), (1, 2, .iload_n 1, 0, 0, .null), (2, 5, .invokestatic 39, 0, 0, .null), (5, 8, .ifCond .eq 12, 17, 5, .null), (8, 9, .aload_n 0, 0, 0, .null), (9, 12, .getfield 11, 1, 0, .null), (12, 13, .iload_n 1, 0, 0, .null), (13, 14, .iaload, 0, 0, .null), (14, 17, .goto 4, 18, 14, .null), (17, 18, .iconst (-1), 0, 0, .int (-1)), (18, 21, .putfield 35, 1, 7, .null), (21, 22, .aload_n 0, 0, 0, .null), (22, 25, .getfield 35, 1, 7, .null), (25, 26, .iconst (-1), 0, 0, .int (-1)), (26, 29, .if_icmp .eq 45, 71, 26, .null), (29, 30, .aload_n 0, 0, 0, .null), (30, 33, .getfield 21, 1, 3, .null), (33, 34, .aload_n 0, 0, 0, .null), (34, 37, .getfield 35, 1, 7, .null), (37, 39, .bipush 16, 0, 0, .int (16)), (39, 40, .imul, 0, 0, .null), (40, 41, .aload_n 0, 0, 0, .null), (41, 44, .getfield 29, 1, 5, .null), (44, 45, .iconst 0, 0, 0, .int (0)), (45, 47, .bipush 16, 0, 0, .int (16)), (47, 50, .invokestatic 86, 0, 0, .null), (50, 51, .aload_n 0, 0, 0, .null), (51, 54, .getfield 25, 1, 4, .null), (54, 55, .aload_n 0, 0, 0, .null), (55, 58, .getfield 35, 1, 7, .null), (58, 60, .bipush 16, 0, 0, .int (16)), (60, 61, .imul, 0, 0, .null), (61, 62, .aload_n 0, 0, 0, .null), (62, 65, .getfield 32, 1, 6, .null), (65, 66, .iconst 0, 0, 0, .int (0)), (66, 68, .bipush 16, 0, 0, .int (16)), (68, 71, .invokestatic 86, 0, 0, .null), (71, 72, .return_, 0, 0, .null)]
set_option maxRecDepth 100000 in
theorem qkX1_keep : qtX1_keep.all (qc_ok qmX1_keep) = true := by decide +kernel
set_option maxRecDepth 100000 in
theorem qfX1_keep : qc_mf qmX1_keep 0 1 1093 134 1091 1092 = true := by decide +kernel
abbrev qmX1_giveBack : qcI := (1, yX1_giveBack, cX1_giveBack, 1, none)
def qtX1_giveBack : List qcE := [(0, 1, .aload_n 0, 0, 0, .null), (1, 4, .getfield 35, 1, 7, .null), (4, 5, .iconst (-1), 0, 0, .int (-1)), (5, 8, .if_icmp .eq 45, 50, 5, .null), (8, 9, .aload_n 0, 0, 0, .null), (9, 12, .getfield 29, 1, 5, .null), (12, 13, .iconst 0, 0, 0, .int (0)), (13, 14, .aload_n 0, 0, 0, .null), (14, 17, .getfield 21, 1, 3, .null), (17, 18, .aload_n 0, 0, 0, .null), (18, 21, .getfield 35, 1, 7, .null), (21, 23, .bipush 16, 0, 0, .int (16)), (23, 24, .imul, 0, 0, .null), (24, 26, .bipush 16, 0, 0, .int (16)), (26, 29, .invokestatic 86, 0, 0, .null), (29, 30, .aload_n 0, 0, 0, .null), (30, 33, .getfield 32, 1, 6, .null), (33, 34, .iconst 0, 0, 0, .int (0)), (34, 35, .aload_n 0, 0, 0, .null), (35, 38, .getfield 25, 1, 4, .null), (38, 39, .aload_n 0, 0, 0, .null), (39, 42, .getfield 35, 1, 7, .null), (42, 44, .bipush 16, 0, 0, .int (16)), (44, 45, .imul, 0, 0, .null), (45, 47, .bipush 16, 0, 0, .int (16)), (47, 50, .invokestatic 86, 0, 0, .null), (50, 51, .return_, 0, 0, .null)]
set_option maxRecDepth 100000 in
theorem qkX1_giveBack : qtX1_giveBack.all (qc_ok qmX1_giveBack) = true := by decide +kernel
set_option maxRecDepth 100000 in
theorem qfX1_giveBack : qc_mf qmX1_giveBack 0 0 1294 134 1292 1293 = true := by decide +kernel
