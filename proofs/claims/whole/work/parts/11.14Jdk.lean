abbrev qmJ0_length_8abf5 : qcI := (14, yJ0_length_8abf5, cJ0_length_8abf5, 1, (some .int))
def qtJ0_length_8abf5 : List qcE := [(0, 1, .aload_n 0, 0, 0, .null), (1, 4, .getfield 9, 51, 0, .null), (4, 5, .arraylength, 0, 0, .null), (5, 6, .aload_n 0, 0, 0, .null), (6, 9, .invokevirtual 335, 0, 0, .null), (9, 10, .ishr, 0, 0, .null), (10, 11, .ireturn, 0, 0, .null)]
set_option maxRecDepth 100000 in
theorem qkJ0_length_8abf5 : qtJ0_length_8abf5.all (qc_ok qmJ0_length_8abf5) = true := by decide +kernel
set_option maxRecDepth 100000 in
theorem qfJ0_length_8abf5 : qc_mf qmJ0_length_8abf5 0 0 678 150 676 677 = true := by decide +kernel
abbrev qmJ0_charAt_5068e : qcI := (14, yJ0_charAt_5068e, cJ0_charAt_5068e, 2, (some .char))
def qtJ0_charAt_5068e : List qcE := [(0, 1, .aload_n 0, 0, 0, .null), (1, 4, .invokevirtual 492, 0, 0, .null), (4, 7, .ifCond .eq 12, 16, 4, .null), (7, 8, .aload_n 0, 0, 0, .null), (8, 11, .getfield 9, 51, 0, .null), (11, 12, .iload_n 1, 0, 0, .null), (12, 15, .invokestatic 495, 0, 0, .null), (15, 16, .ireturn, 0, 0, .null), (16, 17, .aload_n 0, 0, 0, .null), (17, 20, .getfield 9, 51, 0, .null), (20, 21, .iload_n 1, 0, 0, .null), (21, 24, .invokestatic 498, 0, 0, .null), (24, 25, .ireturn, 0, 0, .null)]
set_option maxRecDepth 100000 in
theorem qkJ0_charAt_5068e : qtJ0_charAt_5068e.all (qc_ok qmJ0_charAt_5068e) = true := by decide +kernel
set_option maxRecDepth 100000 in
theorem qfJ0_charAt_5068e : qc_mf qmJ0_charAt_5068e 0 1 693 150 691 692 = true := by decide +kernel
abbrev qmJ0_coder_7d493 : qcI := (14, yJ0_coder_7d493, cJ0_coder_7d493, 1, (some .byte))
def qtJ0_coder_7d493 : List qcE := [(0, 3, .getstatic 38, 63, 0, .null), (3, 6, .ifCond .eq 10, 13, 3, .null), (6, 7, .aload_n 0, 0, 0, .null), (7, 10, .getfield 15, 51, 0, .null), (10, 13, .goto 4, 14, 10, .null), (13, 14, .iconst 1, 0, 0, .int (1)), (14, 15, .ireturn, 0, 0, .null)]
set_option maxRecDepth 100000 in
theorem qkJ0_coder_7d493 : qtJ0_coder_7d493.all (qc_ok qmJ0_coder_7d493) = true := by decide +kernel
set_option maxRecDepth 100000 in
theorem qfJ0_coder_7d493 : qc_mf qmJ0_coder_7d493 0 0 682 150 680 681 = true := by decide +kernel
abbrev qmJ0_isLatin1_aae02 : qcI := (14, yJ0_isLatin1_aae02, cJ0_isLatin1_aae02, 1, (some .boolean))
def qtJ0_isLatin1_aae02 : List qcE := [(0, 3, .getstatic 38, 63, 0, .null), (3, 6, .ifCond .eq 14, 17, 3, .null), (6, 7, .aload_n 0, 0, 0, .null), (7, 10, .getfield 15, 51, 0, .null), (10, 13, .ifCond .ne 7, 17, 10, .null), (13, 14, .iconst 1, 0, 0, .int (1)), (14, 17, .goto 4, 18, 14, .null), (17, 18, .iconst 0, 0, 0, .int (0)), (18, 19, .ireturn, 0, 0, .null)]
set_option maxRecDepth 100000 in
theorem qkJ0_isLatin1_aae02 : qtJ0_isLatin1_aae02.all (qc_ok qmJ0_isLatin1_aae02) = true := by decide +kernel
set_option maxRecDepth 100000 in
theorem qfJ0_isLatin1_aae02 : qc_mf qmJ0_isLatin1_aae02 0 0 697 150 695 696 = true := by decide +kernel
abbrev qmJ0_checkIndex_df160 : qcI := (14, yJ0_checkIndex_df160, cJ0_checkIndex_df160, 2, none)
def qtJ0_checkIndex_df160 : List qcE := [(0, 1, .iload_n 0, 0, 0, .null), (1, 2, .iload_n 1, 0, 0, .null), (2, 5, .getstatic 1053, 63, 0, .null), (5, 8, .invokestatic 1059, 0, 0, .null), (8, 9, .pop, 0, 0, .null), (9, 10, .return_, 0, 0, .null)]
set_option maxRecDepth 100000 in
theorem qkJ0_checkIndex_df160 : qtJ0_checkIndex_df160.all (qc_ok qmJ0_checkIndex_df160) = true := by decide +kernel
set_option maxRecDepth 100000 in
theorem qfJ0_checkIndex_df160 : qc_mf qmJ0_checkIndex_df160 1 2 703 150 702 0 = true := by decide +kernel
abbrev qmJ1_charAt_3b067 : qcI := (15, yJ1_charAt_3b067, cJ1_charAt_3b067, 2, (some .char))
def qtJ1_charAt_3b067 : List qcE := [(0, 1, .iload_n 1, 0, 0, .null), (1, 2, .aload_n 0, 0, 0, .null), (2, 3, .arraylength, 0, 0, .null), (3, 6, .invokestatic 9, 0, 0, .null), (6, 7, .aload_n 0, 0, 0, .null), (7, 8, .iload_n 1, 0, 0, .null), (8, 9, .baload, 0, 0, .null), (9, 12, .sipush 255, 0, 0, .int (255)), (12, 13, .iand, 0, 0, .null), (13, 14, .i2c, 0, 0, .null), (14, 15, .ireturn, 0, 0, .null)]
set_option maxRecDepth 100000 in
theorem qkJ1_charAt_3b067 : qtJ1_charAt_3b067.all (qc_ok qmJ1_charAt_3b067) = true := by decide +kernel
set_option maxRecDepth 100000 in
theorem qfJ1_charAt_3b067 : qc_mf qmJ1_charAt_3b067 1 2 700 151 699 0 = true := by decide +kernel
abbrev qmJ3_checkIndex_8e157 : qcI := (16, yJ3_checkIndex_8e157, cJ3_checkIndex_8e157, 3, (some .int))
def qtJ3_checkIndex_8e157 : List qcE := [(0, 1, .iload_n 0, 0, 0, .null), (1, 4, .ifCond .lt 8, 9, 1, .null), (4, 5, .iload_n 0, 0, 0, .null), (5, 6, .iload_n 1, 0, 0, .null), (6, 9, .if_icmp .lt 10, 16, 6, .null), (9, 10, .aload_n 2, 0, 0, .null), (10, 11, .iload_n 0, 0, 0, .null), (11, 12, .iload_n 1, 0, 0, .null), (12, 15, .invokestatic 95, 0, 0, .null), (15, 16, .athrow, 0, 0, .null), (16, 17, .iload_n 0, 0, 0, .null), (17, 18, .ireturn, 0, 0, .null)]
set_option maxRecDepth 100000 in
theorem qkJ3_checkIndex_8e157 : qtJ3_checkIndex_8e157.all (qc_ok qmJ3_checkIndex_8e157) = true := by decide +kernel
set_option maxRecDepth 100000 in
theorem qfJ3_checkIndex_8e157 : qc_mf qmJ3_checkIndex_8e157 1 3 708 152 707 0 = true := by decide +kernel
abbrev qmJ7_copyOf_65012 : qcI := (17, yJ7_copyOf_65012, cJ7_copyOf_65012, 3, (some (.array .double)))
def qtJ7_copyOf_65012 : List qcE := [(0, 1, .iload_n 1, 0, 0, .null), (1, 2, .aload_n 0, 0, 0, .null), (2, 3, .arraylength, 0, 0, .null), (3, 6, .if_icmp .ne 11, 14, 3, .null), (6, 7, .aload_n 0, 0, 0, .null), (7, 10, .invokevirtual 328, 0, 0, .null), (10, 13, .checkcast 329, 0, 0, .null), (13, 14, .areturn, 0, 0, .null), (14, 15, .iload_n 1, 0, 0, .null), (15, 17, .newarray .double, 0, 0, .null), (17, 18, .astore_n 2, 0, 0, .null), (18, 19, .aload_n 0, 0, 0, .null), (19, 20, .iconst 0, 0, 0, .int (0)), (20, 21, .aload_n 2, 0, 0, .null), (21, 22, .iconst 0, 0, 0, .int (0)), (22, 23, .aload_n 0, 0, 0, .null), (23, 24, .arraylength, 0, 0, .null), (24, 25, .iload_n 1, 0, 0, .null), (25, 28, .invokestatic 304, 0, 0, .null), (28, 31, .invokestatic 150, 0, 0, .null), (31, 32, .aload_n 2, 0, 0, .null), (32, 33, .areturn, 0, 0, .null)]
set_option maxRecDepth 100000 in
theorem qkJ7_copyOf_65012 : qtJ7_copyOf_65012.all (qc_ok qmJ7_copyOf_65012) = true := by decide +kernel
set_option maxRecDepth 100000 in
theorem qfJ7_copyOf_65012 : qc_mf qmJ7_copyOf_65012 1 2 981 156 980 0 = true := by decide +kernel
abbrev qmJ9_max_7cf53 : qcI := (18, yJ9_max_7cf53, cJ9_max_7cf53, 2, (some .int))
def qtJ9_max_7cf53 : List qcE := [(0, 1, .iload_n 0, 0, 0, .null), (1, 2, .iload_n 1, 0, 0, .null), (2, 5, .if_icmp .lt 7, 9, 2, .null), (5, 6, .iload_n 0, 0, 0, .null), (6, 9, .goto 4, 10, 6, .null), (9, 10, .iload_n 1, 0, 0, .null), (10, 11, .ireturn, 0, 0, .null)]
set_option maxRecDepth 100000 in
theorem qkJ9_max_7cf53 : qtJ9_max_7cf53.all (qc_ok qmJ9_max_7cf53) = true := by decide +kernel
set_option maxRecDepth 100000 in
theorem qfJ9_max_7cf53 : qc_mf qmJ9_max_7cf53 1 2 599 149 598 0 = true := by decide +kernel
abbrev qmJ9_max_f86c9 : qcI := (18, yJ9_max_f86c9, cJ9_max_f86c9, 4, (some .long))
def qtJ9_max_f86c9 : List qcE := [(0, 1, .lload_n 0, 0, 0, .null), (1, 2, .lload_n 2, 0, 0, .null), (2, 3, .lcmp, 0, 0, .null), (3, 6, .ifCond .lt 7, 10, 3, .null), (6, 7, .lload_n 0, 0, 0, .null), (7, 10, .goto 4, 11, 7, .null), (10, 11, .lload_n 2, 0, 0, .null), (11, 12, .lreturn, 0, 0, .null)]
set_option maxRecDepth 100000 in
theorem qkJ9_max_f86c9 : qtJ9_max_f86c9.all (qc_ok qmJ9_max_f86c9) = true := by decide +kernel
set_option maxRecDepth 100000 in
theorem qfJ9_max_f86c9 : qc_mf qmJ9_max_f86c9 1 2 1248 149 1247 0 = true := by decide +kernel
abbrev qmJ9_min_7cf53 : qcI := (18, yJ9_min_7cf53, cJ9_min_7cf53, 2, (some .int))
def qtJ9_min_7cf53 : List qcE := [(0, 1, .iload_n 0, 0, 0, .null), (1, 2, .iload_n 1, 0, 0, .null), (2, 5, .if_icmp .gt 7, 9, 2, .null), (5, 6, .iload_n 0, 0, 0, .null), (6, 9, .goto 4, 10, 6, .null), (9, 10, .iload_n 1, 0, 0, .null), (10, 11, .ireturn, 0, 0, .null)]
set_option maxRecDepth 100000 in
theorem qkJ9_min_7cf53 : qtJ9_min_7cf53.all (qc_ok qmJ9_min_7cf53) = true := by decide +kernel
set_option maxRecDepth 100000 in
theorem qfJ9_min_7cf53 : qc_mf qmJ9_min_7cf53 1 2 991 149 990 0 = true := by decide +kernel
abbrev qmJ9_min_f86c9 : qcI := (18, yJ9_min_f86c9, cJ9_min_f86c9, 4, (some .long))
def qtJ9_min_f86c9 : List qcE := [(0, 1, .lload_n 0, 0, 0, .null), (1, 2, .lload_n 2, 0, 0, .null), (2, 3, .lcmp, 0, 0, .null), (3, 6, .ifCond .gt 7, 10, 3, .null), (6, 7, .lload_n 0, 0, 0, .null), (7, 10, .goto 4, 11, 7, .null), (10, 11, .lload_n 2, 0, 0, .null), (11, 12, .lreturn, 0, 0, .null)]
set_option maxRecDepth 100000 in
theorem qkJ9_min_f86c9 : qtJ9_min_f86c9.all (qc_ok qmJ9_min_f86c9) = true := by decide +kernel
set_option maxRecDepth 100000 in
theorem qfJ9_min_f86c9 : qc_mf qmJ9_min_f86c9 1 2 740 149 739 0 = true := by decide +kernel
abbrev qmJ13_compare_74951 : qcI := (19, yJ13_compare_74951, cJ13_compare_74951, 4, (some .int))
def qtJ13_compare_74951 : List qcE := [(0, 1, .lload_n 0, 0, 0, .null), (1, 2, .lload_n 2, 0, 0, .null), (2, 3, .lcmp, 0, 0, .null), (3, 6, .ifCond .ge 7, 10, 3, .null), (6, 7, .iconst (-1), 0, 0, .int (-1)), (7, 10, .goto 14, 21, 7, .null), (10, 11, .lload_n 0, 0, 0, .null), (11, 12, .lload_n 2, 0, 0, .null), (12, 13, .lcmp, 0, 0, .null), (13, 16, .ifCond .ne 7, 20, 13, .null), (16, 17, .iconst 0, 0, 0, .int (0)), (17, 20, .goto 4, 21, 17, .null), (20, 21, .iconst 1, 0, 0, .int (1)), (21, 22, .ireturn, 0, 0, .null)]
set_option maxRecDepth 100000 in
theorem qkJ13_compare_74951 : qtJ13_compare_74951.all (qc_ok qmJ13_compare_74951) = true := by decide +kernel
set_option maxRecDepth 100000 in
theorem qfJ13_compare_74951 : qc_mf qmJ13_compare_74951 1 2 1202 157 1201 0 = true := by decide +kernel
abbrev qmJxe99ae_isNaN_b9ae7 : qcI := (20, yJxe99ae_isNaN_b9ae7, cJxe99ae_isNaN_b9ae7, 2, (some .boolean))
def qtJxe99ae_isNaN_b9ae7 : List qcE := [(0, 1, .dload_n 0, 0, 0, .null), (1, 2, .dload_n 0, 0, 0, .null), (2, 3, .dcmp .l, 0, 0, .null), (3, 6, .ifCond .eq 7, 10, 3, .null), (6, 7, .iconst 1, 0, 0, .int (1)), (7, 10, .goto 4, 11, 7, .null), (10, 11, .iconst 0, 0, 0, .int (0)), (11, 12, .ireturn, 0, 0, .null)]
set_option maxRecDepth 100000 in
theorem qkJxe99ae_isNaN_b9ae7 : qtJxe99ae_isNaN_b9ae7.all (qc_ok qmJxe99ae_isNaN_b9ae7) = true := by decide +kernel
set_option maxRecDepth 100000 in
theorem qfJxe99ae_isNaN_b9ae7 : qc_mf qmJxe99ae_isNaN_b9ae7 1 1 1684 148 1683 0 = true := by decide +kernel
abbrev qmJxe99ae_doubleToLongBits_ccdee : qcI := (20, yJxe99ae_doubleToLongBits_ccdee, cJxe99ae_doubleToLongBits_ccdee, 2, (some .long))
def qtJxe99ae_doubleToLongBits_ccdee : List qcE := [(0, 1, .dload_n 0, 0, 0, .null), (1, 4, .invokestatic 122, 0, 0, .null), (4, 7, .ifCond .ne 8, 12, 4, .null), (7, 8, .dload_n 0, 0, 0, .null), (8, 11, .invokestatic 134, 0, 0, .null), (11, 12, .lreturn, 0, 0, .null), (12, 15, .ldc2_w 137, 0, 0, .long (9221120237041090560)), (15, 16, .lreturn, 0, 0, .null)]
set_option maxRecDepth 100000 in
theorem qkJxe99ae_doubleToLongBits_ccdee : qtJxe99ae_doubleToLongBits_ccdee.all (qc_ok qmJxe99ae_doubleToLongBits_ccdee) = true := by decide +kernel
set_option maxRecDepth 100000 in
theorem qfJxe99ae_doubleToLongBits_ccdee : qc_mf qmJxe99ae_doubleToLongBits_ccdee 1 1 1681 148 1680 0 = true := by decide +kernel
abbrev qmJxf58ca_isNaN_12338 : qcI := (21, yJxf58ca_isNaN_12338, cJxf58ca_isNaN_12338, 1, (some .boolean))
def qtJxf58ca_isNaN_12338 : List qcE := [(0, 1, .fload_n 0, 0, 0, .null), (1, 2, .fload_n 0, 0, 0, .null), (2, 3, .fcmp .l, 0, 0, .null), (3, 6, .ifCond .eq 7, 10, 3, .null), (6, 7, .iconst 1, 0, 0, .int (1)), (7, 10, .goto 4, 11, 7, .null), (10, 11, .iconst 0, 0, 0, .int (0)), (11, 12, .ireturn, 0, 0, .null)]
set_option maxRecDepth 100000 in
theorem qkJxf58ca_isNaN_12338 : qtJxf58ca_isNaN_12338.all (qc_ok qmJxf58ca_isNaN_12338) = true := by decide +kernel
set_option maxRecDepth 100000 in
theorem qfJxf58ca_isNaN_12338 : qc_mf qmJxf58ca_isNaN_12338 1 1 1674 147 1673 0 = true := by decide +kernel
abbrev qmJxf58ca_floatToIntBits_5c35a : qcI := (21, yJxf58ca_floatToIntBits_5c35a, cJxf58ca_floatToIntBits_5c35a, 1, (some .int))
def qtJxf58ca_floatToIntBits_5c35a : List qcE := [(0, 1, .fload_n 0, 0, 0, .null), (1, 4, .invokestatic 59, 0, 0, .null), (4, 7, .ifCond .ne 8, 12, 4, .null), (7, 8, .fload_n 0, 0, 0, .null), (8, 11, .invokestatic 74, 0, 0, .null), (11, 12, .ireturn, 0, 0, .null), (12, 14, .ldc 77, 0, 0, .int (2143289344)), (14, 15, .ireturn, 0, 0, .null)]
set_option maxRecDepth 100000 in
theorem qkJxf58ca_floatToIntBits_5c35a : qtJxf58ca_floatToIntBits_5c35a.all (qc_ok qmJxf58ca_floatToIntBits_5c35a) = true := by decide +kernel
set_option maxRecDepth 100000 in
theorem qfJxf58ca_floatToIntBits_5c35a : qc_mf qmJxf58ca_floatToIntBits_5c35a 1 1 1671 147 1670 0 = true := by decide +kernel
