abbrev qmX11_init : qcI := (11, yX11_init, cX11_init, 1, none)
def qtX11_init : List qcE := [(0, 1, .aload_n 0, 0, 0, .null), (1, 4, .invokespecial 3, 0, 0, .null), (4, 5, .aload_n 0, 0, 0, .null), (5, 8, .new 9, 0, 0, .null), (8, 9, .dup, 0, 0, .null), (9, 12, .invokespecial 11, 0, 0, .null), (12, 15, .putfield 12, 9, 0, .null), (15, 16, .aload_n 0, 0, 0, .null), (16, 19, .new 18, 0, 0, .null), (19, 20, .dup, 0, 0, .null), (20, 23, .invokespecial 20, 0, 0, .null), (23, 26, .putfield 21, 9, 1, .null), (26, 27, .aload_n 0, 0, 0, .null), (27, 30, .new 25, 0, 0, .null), (30, 31, .dup, 0, 0, .null), (31, 34, .new 27, 0, 0, .null), (34, 35, .dup, 0, 0, .null), (35, 36, .aload_n 0, 0, 0, .null), (36, 39, .getfield 21, 9, 1, .null), (39, 42, .invokespecial 29, 0, 0, .null), (42, 43, .aload_n 0, 0, 0, .null), (43, 46, .getfield 12, 9, 0, .null), (46, 49, .invokespecial 32, 0, 0, .null), (49, 52, .putfield 35, 9, 2, .null), (52, 53, .aload_n 0, 0, 0, .null), (53, 56, .new 39, 0, 0, .null), (56, 57, .dup, 0, 0, .null), (57, 60, .invokespecial 41, 0, 0, .null), (60, 63, .putfield 42, 9, 3, .null), (63, 64, .aload_n 0, 0, 0, .null), (64, 67, .new 46, 0, 0, .null), (67, 68, .dup, 0, 0, .null), (68, 69, .aload_n 0, 0, 0, .null), (69, 72, .getfield 12, 9, 0, .null), (72, 73, .aload_n 0, 0, 0, .null), (73, 76, .getfield 42, 9, 3, .null), (76, 79, .invokespecial 48, 0, 0, .null), (79, 82, .putfield 51, 9, 4, .null), (82, 83, .aload_n 0, 0, 0, .null), (83, 85, .bipush 12, 0, 0, .int (12)), (85, 88, .anewarray 55, 0, 0, .null), (88, 91, .putfield 57, 9, 5, .null), (91, 92, .aload_n 0, 0, 0, .null), (92, 93, .iconst 0, 0, 0, .int (0)), (93, 96, .putfield 61, 9, 6, .null), (96, 97, .aload_n 0, 0, 0, .null), (97, 98, .iconst 0, 0, 0, .int (0)), (98, 101, .putfield 65, 9, 7, .null), (101, 102, .aload_n 0, 0, 0, .null), (102, 103, .iconst 0, 0, 0, .int (0)), (103, 106, .putfield 68, 9, 8, .null), (106, 107, .return_, 0, 0, .null)]
set_option maxRecDepth 100000 in
theorem qkX11_init : qtX11_init.all (qc_ok qmX11_init) = true := by decide +kernel
set_option maxRecDepth 100000 in
theorem qfX11_init : qc_mf qmX11_init 2 0 162 133 161 0 = true := by decide +kernel
abbrev qmX11_objects : qcI := (11, yX11_objects, cX11_objects, 3, (some .int))
def qtX11_objects : List qcE := [(0, 1, .iload_n 1, 0, 0, .null), (1, 4, .ifCond .lt 9, 10, 1, .null), (4, 5, .iload_n 1, 0, 0, .null), (5, 7, .bipush 16, 0, 0, .int (16)), (7, 10, .if_icmp .le 5, 12, 7, .null), (10, 11, .iconst (-1), 0, 0, .int (-1)), (11, 12, .ireturn, 0, 0, .null), (12, 13, .aload_n 0, 0, 0, .null), (13, 16, .getfield 65, 9, 7, .null), (16, 17, .istore_n 2, 0, 0, .null), (17, 18, .aload_n 0, 0, 0, .null), (18, 19, .iload_n 1, 0, 0, .null), (19, 22, .putfield 65, 9, 7, .null), (22, 23, .iload_n 2, 0, 0, .null), (23, 24, .ireturn, 0, 0, .null)]
set_option maxRecDepth 100000 in
theorem qkX11_objects : qtX11_objects.all (qc_ok qmX11_objects) = true := by decide +kernel
set_option maxRecDepth 100000 in
theorem qfX11_objects : qc_mf qmX11_objects 0 1 477 133 475 476 = true := by decide +kernel
abbrev qmX11_column : qcI := (11, yX11_column, cX11_column, 4, (some .int))
def qtX11_column : List qcE := [(0, 1, .iload_n 1, 0, 0, .null), (1, 4, .invokestatic 71, 0, 0, .null), (4, 7, .ifCond .eq 20, 24, 4, .null), (7, 8, .iload_n 2, 0, 0, .null), (8, 11, .invokestatic 75, 0, 0, .null), (11, 14, .ifCond .eq 13, 24, 11, .null), (14, 15, .iload_n 3, 0, 0, .null), (15, 18, .ifCond .lt 9, 24, 15, .null), (18, 19, .iload_n 3, 0, 0, .null), (19, 21, .bipush 16, 0, 0, .int (16)), (21, 24, .if_icmp .le 5, 26, 21, .null), (24, 25, .iconst (-1), 0, 0, .int (-1)), (25, 26, .ireturn, 0, 0, .null), (26, 27, .aload_n 0, 0, 0, .null), (27, 30, .getfield 12, 9, 0, .null), (30, 31, .iload_n 1, 0, 0, .null), (31, 32, .iload_n 2, 0, 0, .null), (32, 33, .iload_n 3, 0, 0, .null), (33, 36, .invokevirtual 78, 0, 0, .null), (36, 37, .iconst 1, 0, 0, .int (1)), (37, 38, .ireturn, 0, 0, .null)]
set_option maxRecDepth 100000 in
theorem qkX11_column : qtX11_column.all (qc_ok qmX11_column) = true := by decide +kernel
set_option maxRecDepth 100000 in
theorem qfX11_column : qc_mf qmX11_column 0 3 481 133 479 480 = true := by decide +kernel
abbrev qmX11_share : qcI := (11, yX11_share, cX11_share, 3, (some .int))
def qtX11_share : List qcE := [(0, 1, .iload_n 1, 0, 0, .null), (1, 4, .invokestatic 71, 0, 0, .null), (4, 7, .ifCond .eq 10, 14, 4, .null), (7, 8, .iload_n 2, 0, 0, .null), (8, 11, .invokestatic 71, 0, 0, .null), (11, 14, .ifCond .ne 5, 16, 11, .null), (14, 15, .iconst (-1), 0, 0, .int (-1)), (15, 16, .ireturn, 0, 0, .null), (16, 17, .aload_n 0, 0, 0, .null), (17, 20, .getfield 12, 9, 0, .null), (20, 21, .iload_n 1, 0, 0, .null), (21, 22, .iload_n 2, 0, 0, .null), (22, 25, .invokevirtual 82, 0, 0, .null), (25, 26, .iconst 1, 0, 0, .int (1)), (26, 27, .ireturn, 0, 0, .null)]
set_option maxRecDepth 100000 in
theorem qkX11_share : qtX11_share.all (qc_ok qmX11_share) = true := by decide +kernel
set_option maxRecDepth 100000 in
theorem qfX11_share : qc_mf qmX11_share 0 2 503 133 501 502 = true := by decide +kernel
abbrev qmX11_drop : qcI := (11, yX11_drop, cX11_drop, 2, (some .int))
def qtX11_drop : List qcE := [(0, 1, .iload_n 1, 0, 0, .null), (1, 4, .invokestatic 71, 0, 0, .null), (4, 7, .ifCond .ne 5, 9, 4, .null), (7, 8, .iconst (-1), 0, 0, .int (-1)), (8, 9, .ireturn, 0, 0, .null), (9, 10, .aload_n 0, 0, 0, .null), (10, 13, .getfield 12, 9, 0, .null), (13, 14, .iload_n 1, 0, 0, .null), (14, 17, .invokevirtual 86, 0, 0, .null), (17, 20, .ifCond .eq 7, 24, 17, .null), (20, 21, .iconst 1, 0, 0, .int (1)), (21, 24, .goto 4, 25, 21, .null), (24, 25, .iconst 0, 0, 0, .int (0)), (25, 26, .ireturn, 0, 0, .null)]
set_option maxRecDepth 100000 in
theorem qkX11_drop : qtX11_drop.all (qc_ok qmX11_drop) = true := by decide +kernel
set_option maxRecDepth 100000 in
theorem qfX11_drop : qc_mf qmX11_drop 0 1 511 133 509 510 = true := by decide +kernel
abbrev qmX11_put : qcI := (11, yX11_put, cX11_put, 5, (some .int))
def qtX11_put : List qcE := [(0, 1, .iload_n 1, 0, 0, .null), (1, 4, .invokestatic 71, 0, 0, .null), (4, 7, .ifCond .ne 5, 9, 4, .null), (7, 8, .iconst (-1), 0, 0, .int (-1)), (8, 9, .ireturn, 0, 0, .null), (9, 10, .aload_n 0, 0, 0, .null), (10, 13, .getfield 12, 9, 0, .null), (13, 14, .iload_n 1, 0, 0, .null), (14, 17, .invokevirtual 89, 0, 0, .null), (17, 18, .iconst (-1), 0, 0, .int (-1)), (18, 21, .if_icmp .ne 6, 24, 18, .null), (21, 23, .bipush (-3), 0, 0, .int (-3)), (23, 24, .ireturn, 0, 0, .null), (24, 25, .aload_n 0, 0, 0, .null), (25, 28, .getfield 12, 9, 0, .null), (28, 29, .iload_n 1, 0, 0, .null), (29, 30, .iload_n 2, 0, 0, .null), (30, 31, .lload_n 3, 0, 0, .null), (31, 34, .invokevirtual 93, 0, 0, .null), (34, 37, .ifCond .eq 7, 41, 34, .null), (37, 38, .iconst 1, 0, 0, .int (1)), (38, 41, .goto 4, 42, 38, .null), (41, 42, .iconst (-1), 0, 0, .int (-1)), (42, 43, .ireturn, 0, 0, .null)]
set_option maxRecDepth 100000 in
theorem qkX11_put : qtX11_put.all (qc_ok qmX11_put) = true := by decide +kernel
set_option maxRecDepth 100000 in
theorem qfX11_put : qc_mf qmX11_put 0 3 519 133 517 518 = true := by decide +kernel
abbrev qmX11_cell : qcI := (11, yX11_cell, cX11_cell, 3, (some .long))
def qtX11_cell : List qcE := [(0, 1, .iload_n 1, 0, 0, .null), (1, 4, .invokestatic 71, 0, 0, .null), (4, 7, .ifCond .eq 19, 23, 4, .null), (7, 8, .iload_n 2, 0, 0, .null), (8, 11, .ifCond .lt 15, 23, 8, .null), (11, 12, .iload_n 2, 0, 0, .null), (12, 13, .aload_n 0, 0, 0, .null), (13, 16, .getfield 12, 9, 0, .null), (16, 17, .iload_n 1, 0, 0, .null), (17, 20, .invokevirtual 97, 0, 0, .null), (20, 23, .if_icmp .lt 7, 27, 20, .null), (23, 26, .ldc2_w 100, 0, 0, .long (-9223372036854775808)), (26, 27, .lreturn, 0, 0, .null), (27, 28, .aload_n 0, 0, 0, .null), (28, 31, .getfield 12, 9, 0, .null), (31, 32, .iload_n 1, 0, 0, .null), (32, 33, .iload_n 2, 0, 0, .null), (33, 36, .invokevirtual 102, 0, 0, .null), (36, 37, .lreturn, 0, 0, .null)]
set_option maxRecDepth 100000 in
theorem qkX11_cell : qtX11_cell.all (qc_ok qmX11_cell) = true := by decide +kernel
set_option maxRecDepth 100000 in
theorem qfX11_cell : qc_mf qmX11_cell 0 2 566 133 564 565 = true := by decide +kernel
abbrev qmX11_about : qcI := (11, yX11_about, cX11_about, 3, (some .int))
def qtX11_about : List qcE := [(0, 1, .iload_n 1, 0, 0, .null), (1, 4, .invokestatic 71, 0, 0, .null), (4, 7, .ifCond .ne 6, 10, 4, .null), (7, 9, .bipush (-2), 0, 0, .int (-2)), (9, 10, .ireturn, 0, 0, .null), (10, 11, .iload_n 2, 0, 0, .null), (11, 36, .tableswitch 52 0 2 #[25, 34, 43], 0, 0, .null), (36, 37, .aload_n 0, 0, 0, .null), (37, 40, .getfield 12, 9, 0, .null), (40, 41, .iload_n 1, 0, 0, .null), (41, 44, .invokevirtual 89, 0, 0, .null), (44, 45, .ireturn, 0, 0, .null), (45, 46, .aload_n 0, 0, 0, .null), (46, 49, .getfield 12, 9, 0, .null), (49, 50, .iload_n 1, 0, 0, .null), (50, 53, .invokevirtual 97, 0, 0, .null), (53, 54, .ireturn, 0, 0, .null), (54, 55, .aload_n 0, 0, 0, .null), (55, 58, .getfield 12, 9, 0, .null), (58, 59, .iload_n 1, 0, 0, .null), (59, 62, .invokevirtual 106, 0, 0, .null), (62, 63, .ireturn, 0, 0, .null), (63, 65, .bipush (-2), 0, 0, .int (-2)), (65, 66, .ireturn, 0, 0, .null)]
set_option maxRecDepth 100000 in
theorem qkX11_about : qtX11_about.all (qc_ok qmX11_about) = true := by decide +kernel
set_option maxRecDepth 100000 in
theorem qfX11_about : qc_mf qmX11_about 0 2 608 133 606 607 = true := by decide +kernel
abbrev qmX11_feed : qcI := (11, yX11_feed, cX11_feed, 6, (some .int))
def qtX11_feed : List qcE := [(0, 1, .aload_n 0, 0, 0, .null), (1, 4, .getfield 21, 9, 1, .null), (4, 7, .invokevirtual 109, 0, 0, .null), (7, 10, .ifCond .ne 6, 13, 7, .null), (10, 12, .bipush (-2), 0, 0, .int (-2)), (12, 13, .ireturn, 0, 0, .null), (13, 14, .aload_n 0, 0, 0, .null), (14, 17, .getfield 21, 9, 1, .null), (17, 18, .iload_n 1, 0, 0, .null), (18, 21, .invokevirtual 113, 0, 0, .null), (21, 22, .aload_n 0, 0, 0, .null), (22, 25, .getfield 21, 9, 1, .null), (25, 26, .iload_n 2, 0, 0, .null), (26, 29, .invokevirtual 113, 0, 0, .null), (29, 30, .aload_n 0, 0, 0, .null), (30, 33, .getfield 21, 9, 1, .null), (33, 34, .iload_n 3, 0, 0, .null), (34, 37, .invokevirtual 113, 0, 0, .null), (37, 38, .aload_n 0, 0, 0, .null), (38, 41, .getfield 21, 9, 1, .null), (41, 43, .iload 4, 0, 0, .null), (43, 46, .invokevirtual 113, 0, 0, .null), (46, 47, .aload_n 0, 0, 0, .null), (47, 50, .getfield 21, 9, 1, .null), (50, 52, .iload 5, 0, 0, .null), (52, 55, .invokevirtual 113, 0, 0, .null), (55, 56, .aload_n 0, 0, 0, .null), (56, 59, .getfield 21, 9, 1, .null), (59, 62, .getfield 117, 8, 1, .null), (62, 63, .ireturn, 0, 0, .null)]
set_option maxRecDepth 100000 in
theorem qkX11_feed : qtX11_feed.all (qc_ok qmX11_feed) = true := by decide +kernel
set_option maxRecDepth 100000 in
theorem qfX11_feed : qc_mf qmX11_feed 0 5 616 133 614 615 = true := by decide +kernel
abbrev qmX11_end : qcI := (11, yX11_end, cX11_end, 2, (some .int))
def qtX11_end : List qcE := [(0, 1, .aload_n 0, 0, 0, .null), (1, 4, .getfield 21, 9, 1, .null), (4, 5, .iload_n 1, 0, 0, .null), (5, 8, .invokevirtual 120, 0, 0, .null), (8, 11, .ifCond .eq 7, 15, 8, .null), (11, 12, .iconst 1, 0, 0, .int (1)), (12, 15, .goto 4, 16, 12, .null), (15, 16, .iconst (-1), 0, 0, .int (-1)), (16, 17, .ireturn, 0, 0, .null)]
set_option maxRecDepth 100000 in
theorem qkX11_end : qtX11_end.all (qc_ok qmX11_end) = true := by decide +kernel
set_option maxRecDepth 100000 in
theorem qfX11_end : qc_mf qmX11_end 0 1 628 133 626 627 = true := by decide +kernel
abbrev qmX11_query : qcI := (11, yX11_query, cX11_query, 2, (some .int))
def qtX11_query : List qcE := [(0, 1, .aload_n 0, 0, 0, .null), (1, 4, .getfield 61, 9, 6, .null), (4, 6, .bipush 12, 0, 0, .int (12)), (6, 9, .if_icmp .lt 6, 12, 6, .null), (9, 11, .bipush (-2), 0, 0, .int (-2)), (11, 12, .ireturn, 0, 0, .null), (12, 13, .aload_n 0, 0, 0, .null), (13, 16, .getfield 35, 9, 2, .null), (16, 19, .invokevirtual 123, 0, 0, .null), (19, 20, .astore_n 1, 0, 0, .null), (20, 21, .aload_n 0, 0, 0, .null), (21, 22, .aload_n 0, 0, 0, .null), (22, 25, .getfield 35, 9, 2, .null), (25, 28, .invokevirtual 127, 0, 0, .null), (28, 31, .putfield 68, 9, 8, .null), (31, 32, .aload_n 0, 0, 0, .null), (32, 35, .getfield 21, 9, 1, .null), (35, 36, .iconst 0, 0, 0, .int (0)), (36, 39, .invokevirtual 120, 0, 0, .null), (39, 40, .pop, 0, 0, .null), (40, 41, .aload_n 1, 0, 0, .null), (41, 44, .ifnonnull 14, 55, 41, .null), (44, 46, .bipush (-10), 0, 0, .int (-10)), (46, 47, .aload_n 0, 0, 0, .null), (47, 50, .getfield 35, 9, 2, .null), (50, 53, .invokevirtual 131, 0, 0, .null), (53, 54, .isub, 0, 0, .null), (54, 55, .ireturn, 0, 0, .null), (55, 56, .aload_n 0, 0, 0, .null), (56, 59, .getfield 57, 9, 5, .null), (59, 60, .aload_n 0, 0, 0, .null), (60, 63, .getfield 61, 9, 6, .null), (63, 64, .aload_n 1, 0, 0, .null), (64, 65, .aastore, 0, 0, .null), (65, 66, .aload_n 0, 0, 0, .null), (66, 67, .dup, 0, 0, .null), (67, 70, .getfield 61, 9, 6, .null), (70, 71, .iconst 1, 0, 0, .int (1)), (71, 72, .iadd, 0, 0, .null), (72, 75, .putfield 61, 9, 6, .null), (75, 76, .aload_n 0, 0, 0, .null), (76, 79, .getfield 61, 9, 6, .null), (79, 80, .iconst 1, 0, 0, .int (1)), (80, 81, .isub, 0, 0, .null), (81, 82, .ireturn, 0, 0, .null)]
set_option maxRecDepth 100000 in
theorem qkX11_query : qtX11_query.all (qc_ok qmX11_query) = true := by decide +kernel
set_option maxRecDepth 100000 in
theorem qfX11_query : qc_mf qmX11_query 0 0 636 133 634 635 = true := by decide +kernel
abbrev qmX11_fault : qcI := (11, yX11_fault, cX11_fault, 1, (some .int))
def qtX11_fault : List qcE := [(0, 1, .aload_n 0, 0, 0, .null), (1, 4, .getfield 68, 9, 8, .null), (4, 5, .ireturn, 0, 0, .null)]
set_option maxRecDepth 100000 in
theorem qkX11_fault : qtX11_fault.all (qc_ok qmX11_fault) = true := by decide +kernel
set_option maxRecDepth 100000 in
theorem qfX11_fault : qc_mf qmX11_fault 0 0 1043 133 1041 1042 = true := by decide +kernel
abbrev qmX11_acts : qcI := (11, yX11_acts, cX11_acts, 4, (some .int))
def qtX11_acts : List qcE := [(0, 1, .aload_n 0, 0, 0, .null), (1, 2, .iload_n 1, 0, 0, .null), (2, 5, .invokevirtual 134, 0, 0, .null), (5, 6, .astore_n 3, 0, 0, .null), (6, 7, .aload_n 3, 0, 0, .null), (7, 10, .ifnull 12, 19, 7, .null), (10, 11, .iload_n 2, 0, 0, .null), (11, 14, .ifCond .lt 8, 19, 11, .null), (14, 15, .iload_n 2, 0, 0, .null), (15, 16, .iconst 3, 0, 0, .int (3)), (16, 19, .if_icmp .lt 5, 21, 16, .null), (19, 20, .iconst (-1), 0, 0, .int (-1)), (20, 21, .ireturn, 0, 0, .null), (21, 22, .aload_n 3, 0, 0, .null), (22, 23, .iload_n 2, 0, 0, .null), (23, 26, .invokevirtual 138, 0, 0, .null), (26, 27, .ireturn, 0, 0, .null)]
set_option maxRecDepth 100000 in
theorem qkX11_acts : qtX11_acts.all (qc_ok qmX11_acts) = true := by decide +kernel
set_option maxRecDepth 100000 in
theorem qfX11_acts : qc_mf qmX11_acts 0 2 1047 133 1045 1046 = true := by decide +kernel
abbrev qmX11_act : qcI := (11, yX11_act, cX11_act, 6, (some .int))
def qtX11_act : List qcE := [(0, 1, .aload_n 0, 0, 0, .null), (1, 2, .iload_n 1, 0, 0, .null), (2, 5, .invokevirtual 134, 0, 0, .null), (5, 7, .astore 5, 0, 0, .null), (7, 9, .aload 5, 0, 0, .null), (9, 12, .ifnull 26, 35, 9, .null), (12, 13, .iload_n 2, 0, 0, .null), (13, 16, .ifCond .lt 22, 35, 13, .null), (16, 17, .iload_n 2, 0, 0, .null), (17, 18, .iconst 3, 0, 0, .int (3)), (18, 21, .if_icmp .ge 17, 35, 18, .null), (21, 22, .iload_n 3, 0, 0, .null), (22, 25, .ifCond .lt 13, 35, 22, .null), (25, 26, .iload_n 3, 0, 0, .null), (26, 28, .aload 5, 0, 0, .null), (28, 29, .iload_n 2, 0, 0, .null), (29, 32, .invokevirtual 138, 0, 0, .null), (32, 35, .if_icmp .lt 6, 38, 32, .null), (35, 37, .bipush (-2), 0, 0, .int (-2)), (37, 38, .ireturn, 0, 0, .null), (38, 40, .iload 4, 0, 0, .null), (40, 43, .ifCond .ne 11, 51, 40, .null), (43, 45, .aload 5, 0, 0, .null), (45, 46, .iload_n 2, 0, 0, .null), (46, 47, .iload_n 3, 0, 0, .null), (47, 50, .invokevirtual 141, 0, 0, .null), (50, 51, .ireturn, 0, 0, .null), (51, 53, .iload 4, 0, 0, .null), (53, 54, .iconst 1, 0, 0, .int (1)), (54, 57, .if_icmp .ne 13, 67, 54, .null), (57, 59, .aload 5, 0, 0, .null), (59, 60, .iload_n 2, 0, 0, .null), (60, 61, .iload_n 3, 0, 0, .null), (61, 64, .invokevirtual 145, 0, 0, .null), (64, 67, .goto 5, 69, 64, .null), (67, 69, .bipush (-2), 0, 0, .int (-2)), (69, 70, .ireturn, 0, 0, .null)]
set_option maxRecDepth 100000 in
theorem qkX11_act : qtX11_act.all (qc_ok qmX11_act) = true := by decide +kernel
set_option maxRecDepth 100000 in
theorem qfX11_act : qc_mf qmX11_act 0 4 1059 133 1057 1058 = true := by decide +kernel
abbrev qmX11_run : qcI := (11, yX11_run, cX11_run, 3, (some .int))
def qtX11_run : List qcE := [(0, 1, .aload_n 0, 0, 0, .null), (1, 2, .iload_n 1, 0, 0, .null), (2, 5, .invokevirtual 134, 0, 0, .null), (5, 6, .astore_n 2, 0, 0, .null), (6, 7, .aload_n 2, 0, 0, .null), (7, 10, .ifnonnull 5, 12, 7, .null), (10, 11, .iconst (-1), 0, 0, .int (-1)), (11, 12, .ireturn, 0, 0, .null), (12, 13, .aload_n 0, 0, 0, .null), (13, 16, .getfield 51, 9, 4, .null), (16, 17, .aload_n 2, 0, 0, .null), (17, 18, .iload_n 1, 0, 0, .null), (18, 19, .aload_n 0, 0, 0, .null), (19, 22, .getfield 65, 9, 7, .null), (22, 25, .invokevirtual 148, 0, 0, .null), (25, 26, .ireturn, 0, 0, .null)]
set_option maxRecDepth 100000 in
theorem qkX11_run : qtX11_run.all (qc_ok qmX11_run) = true := by decide +kernel
set_option maxRecDepth 100000 in
theorem qfX11_run : qc_mf qmX11_run 0 1 1071 133 1069 1070 = true := by decide +kernel
abbrev qmX11_told : qcI := (11, yX11_told, cX11_told, 2, (some .int))
def qtX11_told : List qcE := [(0, 1, .iload_n 1, 0, 0, .null), (1, 40, .tableswitch 87 0 5 #[39, 47, 55, 63, 71, 79], 0, 0, .null), (40, 41, .aload_n 0, 0, 0, .null), (41, 44, .getfield 42, 9, 3, .null), (44, 47, .getfield 152, 3, 1, .null), (47, 48, .ireturn, 0, 0, .null), (48, 49, .aload_n 0, 0, 0, .null), (49, 52, .getfield 42, 9, 3, .null), (52, 55, .getfield 155, 3, 2, .null), (55, 56, .ireturn, 0, 0, .null), (56, 57, .aload_n 0, 0, 0, .null), (57, 60, .getfield 42, 9, 3, .null), (60, 63, .getfield 158, 3, 3, .null), (63, 64, .ireturn, 0, 0, .null), (64, 65, .aload_n 0, 0, 0, .null), (65, 68, .getfield 42, 9, 3, .null), (68, 71, .getfield 161, 3, 4, .null), (71, 72, .ireturn, 0, 0, .null), (72, 73, .aload_n 0, 0, 0, .null), (73, 76, .getfield 42, 9, 3, .null), (76, 79, .getfield 164, 3, 5, .null), (79, 80, .ireturn, 0, 0, .null), (80, 81, .aload_n 0, 0, 0, .null), (81, 84, .getfield 42, 9, 3, .null), (84, 87, .getfield 167, 3, 0, .null), (87, 88, .ireturn, 0, 0, .null), (88, 90, .bipush (-2), 0, 0, .int (-2)), (90, 91, .ireturn, 0, 0, .null)]
set_option maxRecDepth 100000 in
theorem qkX11_told : qtX11_told.all (qc_ok qmX11_told) = true := by decide +kernel
set_option maxRecDepth 100000 in
theorem qfX11_told : qc_mf qmX11_told 0 1 1303 133 1301 1302 = true := by decide +kernel
abbrev qmX11_hit : qcI := (11, yX11_hit, cX11_hit, 2, (some .int))
def qtX11_hit : List qcE := [(0, 1, .aload_n 0, 0, 0, .null), (1, 4, .getfield 42, 9, 3, .null), (4, 5, .iload_n 1, 0, 0, .null), (5, 8, .invokevirtual 169, 0, 0, .null), (8, 11, .ifCond .eq 15, 23, 8, .null), (11, 12, .aload_n 0, 0, 0, .null), (12, 15, .getfield 42, 9, 3, .null), (15, 18, .getfield 172, 3, 7, .null), (18, 19, .iload_n 1, 0, 0, .null), (19, 20, .iaload, 0, 0, .null), (20, 23, .goto 4, 24, 20, .null), (23, 24, .iconst (-1), 0, 0, .int (-1)), (24, 25, .ireturn, 0, 0, .null)]
set_option maxRecDepth 100000 in
theorem qkX11_hit : qtX11_hit.all (qc_ok qmX11_hit) = true := by decide +kernel
set_option maxRecDepth 100000 in
theorem qfX11_hit : qc_mf qmX11_hit 0 1 1307 133 1305 1306 = true := by decide +kernel
abbrev qmX11_score : qcI := (11, yX11_score, cX11_score, 2, (some .long))
def qtX11_score : List qcE := [(0, 1, .aload_n 0, 0, 0, .null), (1, 4, .getfield 42, 9, 3, .null), (4, 5, .iload_n 1, 0, 0, .null), (5, 8, .invokevirtual 169, 0, 0, .null), (8, 11, .ifCond .ne 7, 15, 8, .null), (11, 14, .ldc2_w 100, 0, 0, .long (-9223372036854775808)), (14, 15, .lreturn, 0, 0, .null), (15, 16, .aload_n 0, 0, 0, .null), (16, 19, .getfield 42, 9, 3, .null), (19, 22, .getfield 176, 3, 6, .null), (22, 25, .ifCond .eq 15, 37, 22, .null), (25, 26, .aload_n 0, 0, 0, .null), (26, 29, .getfield 42, 9, 3, .null), (29, 32, .getfield 180, 3, 9, .null), (32, 33, .iload_n 1, 0, 0, .null), (33, 34, .laload, 0, 0, .null), (34, 37, .goto 15, 49, 34, .null), (37, 38, .aload_n 0, 0, 0, .null), (38, 41, .getfield 42, 9, 3, .null), (41, 44, .getfield 184, 3, 8, .null), (44, 45, .iload_n 1, 0, 0, .null), (45, 46, .daload, 0, 0, .null), (46, 49, .invokestatic 188, 0, 0, .null), (49, 50, .lreturn, 0, 0, .null)]
set_option maxRecDepth 100000 in
theorem qkX11_score : qtX11_score.all (qc_ok qmX11_score) = true := by decide +kernel
set_option maxRecDepth 100000 in
theorem qfX11_score : qc_mf qmX11_score 0 1 1315 133 1313 1314 = true := by decide +kernel
abbrev qmX11_value : qcI := (11, yX11_value, cX11_value, 2, (some .long))
def qtX11_value : List qcE := [(0, 1, .aload_n 0, 0, 0, .null), (1, 4, .getfield 42, 9, 3, .null), (4, 5, .iload_n 1, 0, 0, .null), (5, 8, .invokevirtual 169, 0, 0, .null), (8, 11, .ifCond .eq 13, 21, 8, .null), (11, 12, .aload_n 0, 0, 0, .null), (12, 15, .getfield 42, 9, 3, .null), (15, 18, .getfield 176, 3, 6, .null), (18, 21, .ifCond .ne 7, 25, 18, .null), (21, 24, .ldc2_w 100, 0, 0, .long (-9223372036854775808)), (24, 25, .lreturn, 0, 0, .null), (25, 26, .aload_n 0, 0, 0, .null), (26, 29, .getfield 42, 9, 3, .null), (29, 30, .iload_n 1, 0, 0, .null), (30, 33, .invokevirtual 194, 0, 0, .null), (33, 34, .lreturn, 0, 0, .null)]
set_option maxRecDepth 100000 in
theorem qkX11_value : qtX11_value.all (qc_ok qmX11_value) = true := by decide +kernel
set_option maxRecDepth 100000 in
theorem qfX11_value : qc_mf qmX11_value 0 1 1320 133 1318 1319 = true := by decide +kernel
abbrev qmX11_count : qcI := (11, yX11_count, cX11_count, 2, (some .int))
def qtX11_count : List qcE := [(0, 1, .iload_n 1, 0, 0, .null), (1, 32, .tableswitch 57 0 3 #[31, 36, 44, 49], 0, 0, .null), (32, 33, .aload_n 0, 0, 0, .null), (33, 36, .getfield 65, 9, 7, .null), (36, 37, .ireturn, 0, 0, .null), (37, 38, .aload_n 0, 0, 0, .null), (38, 41, .getfield 12, 9, 0, .null), (41, 44, .invokevirtual 198, 0, 0, .null), (44, 45, .ireturn, 0, 0, .null), (45, 46, .aload_n 0, 0, 0, .null), (46, 49, .getfield 61, 9, 6, .null), (49, 50, .ireturn, 0, 0, .null), (50, 51, .aload_n 0, 0, 0, .null), (51, 54, .getfield 21, 9, 1, .null), (54, 57, .getfield 117, 8, 1, .null), (57, 58, .ireturn, 0, 0, .null), (58, 59, .iconst (-1), 0, 0, .int (-1)), (59, 60, .ireturn, 0, 0, .null)]
set_option maxRecDepth 100000 in
theorem qkX11_count : qtX11_count.all (qc_ok qmX11_count) = true := by decide +kernel
set_option maxRecDepth 100000 in
theorem qfX11_count : qc_mf qmX11_count 0 1 1330 133 1328 1329 = true := by decide +kernel
abbrev qmX11_clear : qcI := (11, yX11_clear, cX11_clear, 3, (some .int))
def qtX11_clear : List qcE := [(0, 1, .aload_n 0, 0, 0, .null), (1, 4, .getfield 61, 9, 6, .null), (4, 5, .istore_n 1, 0, 0, .null), (5, 6, .iconst 0, 0, 0, .int (0)), (6, 7, .istore_n 2, 0, 0, .null), (7, 8, .iload_n 2, 0, 0, .null), (8, 10, .bipush 12, 0, 0, .int (12)), (10, 13, .if_icmp .ge 16, 26, 10, .null), (13, 14, .aload_n 0, 0, 0, .null), (14, 17, .getfield 57, 9, 5, .null), (17, 18, .iload_n 2, 0, 0, .null), (18, 19, .aconst_null, 0, 0, .null), (19, 20, .aastore, 0, 0, .null), (20, 23, .iinc 2 1, 0, 0, .int (1)), (23, 26, .goto (-16), 7, 23, .null), (26, 27, .aload_n 0, 0, 0, .null), (27, 28, .iconst 0, 0, 0, .int (0)), (28, 31, .putfield 61, 9, 6, .null), (31, 32, .aload_n 0, 0, 0, .null), (32, 35, .getfield 42, 9, 3, .null), (35, 38, .invokevirtual 201, 0, 0, .null), (38, 39, .iload_n 1, 0, 0, .null), (39, 40, .ireturn, 0, 0, .null)]
set_option maxRecDepth 100000 in
theorem qkX11_clear : qtX11_clear.all (qc_ok qmX11_clear) = true := by decide +kernel
set_option maxRecDepth 100000 in
theorem qfX11_clear : qc_mf qmX11_clear 0 0 1338 133 1336 1337 = true := by decide +kernel
abbrev qmX11_queryAt : qcI := (11, yX11_queryAt, cX11_queryAt, 2, (some (.object "QueryClasses$Query")))
def qtX11_queryAt : List qcE := [(0, 1, .iload_n 1, 0, 0, .null), (1, 4, .ifCond .lt 20, 21, 1, .null), (4, 5, .iload_n 1, 0, 0, .null), (5, 6, .aload_n 0, 0, 0, .null), (6, 9, .getfield 61, 9, 6, .null), (9, 12, .if_icmp .ge 12, 21, 9, .null), (12, 13, .aload_n 0, 0, 0, .null), (13, 16, .getfield 57, 9, 5, .null), (16, 17, .iload_n 1, 0, 0, .null), (17, 18, .aaload, 0, 0, .null), (18, 21, .goto 4, 22, 18, .null), (21, 22, .aconst_null, 0, 0, .null), (22, 23, .areturn, 0, 0, .null)]
set_option maxRecDepth 100000 in
theorem qkX11_queryAt : qtX11_queryAt.all (qc_ok qmX11_queryAt) = true := by decide +kernel
set_option maxRecDepth 100000 in
theorem qfX11_queryAt : qc_mf qmX11_queryAt 0 1 1051 133 1050 32 = true := by decide +kernel
