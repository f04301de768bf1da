abbrev qmX6_init : qcI := (6, yX6_init, cX6_init, 1, none)
def qtX6_init : List qcE := [(0, 1, .aload_n 0, 0, 0, .null), (1, 4, .invokespecial 1, 0, 0, .null), (4, 5, .aload_n 0, 0, 0, .null), (5, 7, .bipush 24, 0, 0, .int (24)), (7, 9, .newarray .long, 0, 0, .null), (9, 12, .putfield 9, 5, 0, .null), (12, 13, .aload_n 0, 0, 0, .null), (13, 15, .bipush 24, 0, 0, .int (24)), (15, 17, .newarray .double, 0, 0, .null), (17, 20, .putfield 15, 5, 1, .null), (20, 21, .return_, 0, 0, .null)]
set_option maxRecDepth 100000 in
theorem qkX6_init : qtX6_init.all (qc_ok qmX6_init) = true := by decide +kernel
set_option maxRecDepth 100000 in
theorem qfX6_init : qc_mf qmX6_init 2 0 413 143 412 0 = true := by decide +kernel
abbrev qmX6_empty : qcI := (6, yX6_empty, cX6_empty, 1, none)
def qtX6_empty : List qcE := [(0, 1, .aload_n 0, 0, 0, .null), (1, 2, .iconst 0, 0, 0, .int (0)), (2, 5, .putfield 19, 5, 2, .null), (5, 6, .return_, 0, 0, .null)]
set_option maxRecDepth 100000 in
theorem qkX6_empty : qtX6_empty.all (qc_ok qmX6_empty) = true := by decide +kernel
set_option maxRecDepth 100000 in
theorem qfX6_empty : qc_mf qmX6_empty 0 0 1107 143 1105 1106 = true := by decide +kernel
abbrev qmX6_lay : qcI := (6, yX6_lay, cX6_lay, 3, none)
def qtX6_lay : List qcE := [(0, 1, .aload_n 0, 0, 0, .null), (1, 4, .getfield 19, 5, 2, .null), (4, 6, .bipush 24, 0, 0, .int (24)), (6, 9, .if_icmp .ge 23, 29, 6, .null), (9, 10, .aload_n 0, 0, 0, .null), (10, 13, .getfield 9, 5, 0, .null), (13, 14, .aload_n 0, 0, 0, .null), (14, 17, .getfield 19, 5, 2, .null), (17, 18, .lload_n 1, 0, 0, .null), (18, 19, .lastore, 0, 0, .null), (19, 20, .aload_n 0, 0, 0, .null), (20, 21, .dup, 0, 0, .null), (21, 24, .getfield 19, 5, 2, .null), (24, 25, .iconst 1, 0, 0, .int (1)), (25, 26, .iadd, 0, 0, .null), (26, 29, .putfield 19, 5, 2, .null), (29, 30, .return_, 0, 0, .null)]
set_option maxRecDepth 100000 in
theorem qkX6_lay : qtX6_lay.all (qc_ok qmX6_lay) = true := by decide +kernel
set_option maxRecDepth 100000 in
theorem qfX6_lay : qc_mf qmX6_lay 0 1 1154 143 1152 1153 = true := by decide +kernel
abbrev qmX6_layReal : qcI := (6, yX6_layReal, cX6_layReal, 3, none)
def qtX6_layReal : List qcE := [(0, 1, .aload_n 0, 0, 0, .null), (1, 4, .getfield 19, 5, 2, .null), (4, 6, .bipush 24, 0, 0, .int (24)), (6, 9, .if_icmp .ge 23, 29, 6, .null), (9, 10, .aload_n 0, 0, 0, .null), (10, 13, .getfield 15, 5, 1, .null), (13, 14, .aload_n 0, 0, 0, .null), (14, 17, .getfield 19, 5, 2, .null), (17, 18, .dload_n 1, 0, 0, .null), (18, 19, .dastore, 0, 0, .null), (19, 20, .aload_n 0, 0, 0, .null), (20, 21, .dup, 0, 0, .null), (21, 24, .getfield 19, 5, 2, .null), (24, 25, .iconst 1, 0, 0, .int (1)), (25, 26, .iadd, 0, 0, .null), (26, 29, .putfield 19, 5, 2, .null), (29, 30, .return_, 0, 0, .null)]
set_option maxRecDepth 100000 in
theorem qkX6_layReal : qtX6_layReal.all (qc_ok qmX6_layReal) = true := by decide +kernel
set_option maxRecDepth 100000 in
theorem qfX6_layReal : qc_mf qmX6_layReal 0 1 1146 143 1144 1145 = true := by decide +kernel
abbrev qmX6_take : qcI := (6, yX6_take, cX6_take, 1, (some .long))
def qtX6_take : List qcE := [(0, 1, .aload_n 0, 0, 0, .null), (1, 4, .getfield 19, 5, 2, .null), (4, 7, .ifCond .le 23, 27, 4, .null), (7, 8, .aload_n 0, 0, 0, .null), (8, 9, .dup, 0, 0, .null), (9, 12, .getfield 19, 5, 2, .null), (12, 13, .iconst 1, 0, 0, .int (1)), (13, 14, .isub, 0, 0, .null), (14, 17, .putfield 19, 5, 2, .null), (17, 18, .aload_n 0, 0, 0, .null), (18, 21, .getfield 9, 5, 0, .null), (21, 22, .aload_n 0, 0, 0, .null), (22, 25, .getfield 19, 5, 2, .null), (25, 26, .laload, 0, 0, .null), (26, 27, .lreturn, 0, 0, .null), (27, 28, .lconst 0, 0, 0, .long 0), (28, 29, .lreturn, 0, 0, .null)]
set_option maxRecDepth 100000 in
theorem qkX6_take : qtX6_take.all (qc_ok qmX6_take) = true := by decide +kernel
set_option maxRecDepth 100000 in
theorem qfX6_take : qc_mf qmX6_take 0 0 1121 143 1119 1120 = true := by decide +kernel
abbrev qmX6_takeReal : qcI := (6, yX6_takeReal, cX6_takeReal, 1, (some .double))
def qtX6_takeReal : List qcE := [(0, 1, .aload_n 0, 0, 0, .null), (1, 4, .getfield 19, 5, 2, .null), (4, 7, .ifCond .le 23, 27, 4, .null), (7, 8, .aload_n 0, 0, 0, .null), (8, 9, .dup, 0, 0, .null), (9, 12, .getfield 19, 5, 2, .null), (12, 13, .iconst 1, 0, 0, .int (1)), (13, 14, .isub, 0, 0, .null), (14, 17, .putfield 19, 5, 2, .null), (17, 18, .aload_n 0, 0, 0, .null), (18, 21, .getfield 15, 5, 1, .null), (21, 22, .aload_n 0, 0, 0, .null), (22, 25, .getfield 19, 5, 2, .null), (25, 26, .daload, 0, 0, .null), (26, 27, .dreturn, 0, 0, .null), (27, 28, .dconst 0, 0, 0, .double 0), (28, 29, .dreturn, 0, 0, .null)]
set_option maxRecDepth 100000 in
theorem qkX6_takeReal : qtX6_takeReal.all (qc_ok qmX6_takeReal) = true := by decide +kernel
set_option maxRecDepth 100000 in
theorem qfX6_takeReal : qc_mf qmX6_takeReal 0 0 1125 143 1123 1124 = true := by decide +kernel
