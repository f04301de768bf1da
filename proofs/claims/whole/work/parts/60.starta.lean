/-! the start: what the Statement gives of the marks, their texts and the classes -/
def qs_nl : List Cond := flatC (Jvm.Cond.and given_1 narrow_1)
abbrev qs_mk (i : Nat) : Term := .static "QueryClasses$Mark" (qc_mkN.getD i "") "LQueryClasses$Mark;"
abbrev qs_st (i : Nat) : Term := .string "QueryClasses$Mark" (qc_sxI.getD i 0)
abbrev qs_val (i : Nat) : Term := .field (qs_st i) "java/lang/String" "value" "[B"
abbrev qs_all : Term := .static "QueryClasses$Mark" "ALL" "[LQueryClasses$Mark;"
def qs_F : List (String × String × String × List Int32) := [("java/lang/Enum", "ordinal", "I", qc_mk_ord), ("QueryClasses$Mark", "level", "I", qc_mk_level), ("QueryClasses$Mark", "op", "I", qc_mk_op), ("QueryClasses$Mark", "takes", "I", qc_mk_takes), ("QueryClasses$Mark", "wants", "I", qc_mk_wants)]
/-- a premise by its sort and two numbers -/
def qs_c (q : Nat × Nat × Nat) : Cond := match q with
  | (0, i, _) => .exactly (qs_mk i) "QueryClasses$Mark"
  | (1, i, j) => match qs_F[j]? with
    | some f => .eq (.field (qs_mk i) f.1 f.2.1 f.2.2.1) (.int (f.2.2.2.getD i 0))
    | none => .count 0
  | (2, i, _) => .eq (.field (qs_mk i) "QueryClasses$Mark" "text" "Ljava/lang/String;") (qs_st (qc_mk_text.getD i 0))
  | (3, i, _) => .exactly (qs_st i) "java/lang/String"
  | (4, i, _) => .eq (.field (qs_st i) "java/lang/String" "coder" "B") (.int 0)
  | (5, i, _) => .arrayOf (qs_val i) .byte
  | (6, i, _) => .eq (.length (qs_val i)) (.int (Int32.ofNat (qc_sxLen.getD i 0)))
  | (7, i, j) => .eq (.elem (qs_val i) (.int (Int32.ofNat j))) (.int ((qc_sxB.getD i []).getD j 0))
  | (8, _, _) => .arrayOf qs_all (.object "QueryClasses$Mark")
  | (9, _, _) => .eq (.length qs_all) (.int 62)
  | (10, i, _) => .eq (.elem qs_all (.int (Int32.ofNat i))) (qs_mk i)
  | _ => .eq (.static "java/lang/String" "COMPACT_STRINGS" "Z") (.int 1)
def qs_E : List (Nat × Nat × Nat) := [(0, 0, 0), (1, 0, 0), (2, 0, 0), (1, 0, 1), (1, 0, 2), (1, 0, 3), (1, 0, 4), (0, 5, 0), (1, 5, 0), (2, 5, 0), (1, 5, 1), (1, 5, 2), (1, 5, 3), (1, 5, 4), (0, 10, 0), (1, 10, 0), (2, 10, 0), (1, 10, 1), (1, 10, 2), (1, 10, 3), (1, 10, 4), (0, 4, 0), (1, 4, 0), (2, 4, 0), (1, 4, 1), (1, 4, 2), (1, 4, 3), (1, 4, 4), (8, 0, 0), (9, 0, 0), (10, 0, 0), (10, 1, 0), (10, 2, 0), (10, 3, 0), (10, 4, 0), (10, 5, 0), (10, 6, 0), (10, 7, 0), (10, 8, 0), (10, 9, 0), (10, 10, 0), (10, 11, 0), (10, 12, 0), (10, 13, 0), (10, 14, 0), (10, 15, 0), (10, 16, 0), (10, 17, 0), (10, 18, 0), (10, 19, 0), (10, 20, 0), (10, 21, 0), (10, 22, 0), (10, 23, 0), (10, 24, 0), (10, 25, 0), (10, 26, 0), (10, 27, 0), (10, 28, 0), (10, 29, 0), (10, 30, 0), (10, 31, 0), (10, 32, 0), (10, 33, 0), (10, 34, 0), (10, 35, 0), (10, 36, 0), (10, 37, 0), (10, 38, 0), (10, 39, 0), (10, 40, 0), (10, 41, 0), (10, 42, 0), (10, 43, 0), (10, 44, 0), (10, 45, 0), (10, 46, 0), (10, 47, 0), (10, 48, 0), (10, 49, 0), (10, 50, 0), (10, 51, 0), (10, 52, 0), (10, 53, 0), (10, 54, 0), (10, 55, 0), (10, 56, 0), (10, 57, 0), (10, 58, 0), (10, 59, 0), (10, 60, 0), (10, 61, 0), (11, 0, 0), (0, 1, 0), (1, 1, 0), (2, 1, 0), (1, 1, 1), (1, 1, 2), (1, 1, 3), (1, 1, 4), (0, 2, 0), (1, 2, 0), (2, 2, 0), (1, 2, 1), (1, 2, 2), (1, 2, 3), (1, 2, 4), (0, 3, 0), (1, 3, 0), (2, 3, 0), (1, 3, 1), (1, 3, 2), (1, 3, 3), (1, 3, 4), (0, 19, 0), (1, 19, 0), (2, 19, 0), (1, 19, 1), (1, 19, 2), (1, 19, 3), (1, 19, 4), (0, 49, 0), (1, 49, 0), (2, 49, 0), (1, 49, 1), (1, 49, 2), (1, 49, 3), (1, 49, 4), (0, 53, 0), (1, 53, 0), (2, 53, 0), (1, 53, 1), (1, 53, 2), (1, 53, 3), (1, 53, 4), (0, 16, 0), (1, 16, 0), (2, 16, 0), (1, 16, 1), (1, 16, 2), (1, 16, 3), (1, 16, 4), (0, 17, 0), (1, 17, 0), (2, 17, 0), (1, 17, 1), (1, 17, 2), (1, 17, 3), (1, 17, 4), (0, 18, 0), (1, 18, 0), (2, 18, 0), (1, 18, 1), (1, 18, 2), (1, 18, 3), (1, 18, 4), (0, 56, 0), (1, 56, 0), (2, 56, 0), (1, 56, 1), (1, 56, 2), (1, 56, 3), (1, 56, 4), (0, 59, 0), (1, 59, 0), (2, 59, 0), (1, 59, 1), (1, 59, 2), (1, 59, 3), (1, 59, 4), (0, 60, 0), (1, 60, 0), (2, 60, 0), (1, 60, 1), (1, 60, 2), (1, 60, 3), (1, 60, 4), (0, 57, 0), (1, 57, 0), (2, 57, 0), (1, 57, 1), (1, 57, 2), (1, 57, 3), (1, 57, 4), (0, 54, 0), (1, 54, 0), (2, 54, 0), (1, 54, 1), (1, 54, 2), (1, 54, 3), (1, 54, 4), (0, 58, 0), (1, 58, 0), (2, 58, 0), (1, 58, 1), (1, 58, 2), (1, 58, 3), (1, 58, 4), (0, 55, 0), (1, 55, 0), (2, 55, 0), (1, 55, 1), (1, 55, 2), (1, 55, 3), (1, 55, 4), (0, 26, 0), (1, 26, 0), (2, 26, 0), (1, 26, 1), (1, 26, 2), (1, 26, 3), (1, 26, 4), (0, 36, 0), (1, 36, 0), (2, 36, 0), (1, 36, 1), (1, 36, 2), (1, 36, 3), (1, 36, 4), (0, 37, 0), (1, 37, 0), (2, 37, 0), (1, 37, 1), (1, 37, 2), (1, 37, 3), (1, 37, 4), (0, 20, 0), (1, 20, 0), (2, 20, 0), (1, 20, 1), (1, 20, 2), (1, 20, 3), (1, 20, 4), (0, 6, 0), (1, 6, 0), (2, 6, 0), (1, 6, 1), (1, 6, 2), (1, 6, 3), (1, 6, 4), (0, 7, 0), (1, 7, 0), (2, 7, 0), (1, 7, 1), (1, 7, 2), (1, 7, 3), (1, 7, 4), (0, 8, 0), (1, 8, 0), (2, 8, 0), (1, 8, 1), (1, 8, 2), (1, 8, 3), (1, 8, 4), (0, 9, 0), (1, 9, 0), (2, 9, 0), (1, 9, 1), (1, 9, 2), (1, 9, 3), (1, 9, 4), (0, 11, 0), (1, 11, 0), (2, 11, 0), (1, 11, 1), (1, 11, 2), (1, 11, 3), (1, 11, 4), (0, 12, 0), (1, 12, 0), (2, 12, 0), (1, 12, 1), (1, 12, 2), (1, 12, 3), (1, 12, 4), (0, 27, 0), (1, 27, 0), (2, 27, 0), (1, 27, 1), (1, 27, 2), (1, 27, 3), (1, 27, 4), (0, 28, 0), (1, 28, 0), (2, 28, 0), (1, 28, 1), (1, 28, 2), (1, 28, 3), (1, 28, 4), (0, 13, 0), (1, 13, 0), (2, 13, 0), (1, 13, 1), (1, 13, 2), (1, 13, 3), (1, 13, 4), (0, 14, 0), (1, 14, 0), (2, 14, 0), (1, 14, 1), (1, 14, 2), (1, 14, 3), (1, 14, 4), (0, 15, 0), (1, 15, 0), (2, 15, 0), (1, 15, 1), (1, 15, 2), (1, 15, 3), (1, 15, 4), (0, 61, 0), (1, 61, 0), (2, 61, 0), (1, 61, 1), (1, 61, 2), (1, 61, 3), (1, 61, 4), (0, 21, 0), (1, 21, 0), (2, 21, 0), (1, 21, 1), (1, 21, 2), (1, 21, 3), (1, 21, 4), (0, 22, 0), (1, 22, 0), (2, 22, 0), (1, 22, 1), (1, 22, 2), (1, 22, 3), (1, 22, 4), (0, 23, 0), (1, 23, 0), (2, 23, 0), (1, 23, 1), (1, 23, 2), (1, 23, 3), (1, 23, 4), (0, 24, 0), (1, 24, 0), (2, 24, 0), (1, 24, 1), (1, 24, 2), (1, 24, 3), (1, 24, 4), (0, 25, 0), (1, 25, 0), (2, 25, 0), (1, 25, 1), (1, 25, 2), (1, 25, 3), (1, 25, 4), (0, 29, 0), (1, 29, 0), (2, 29, 0), (1, 29, 1), (1, 29, 2), (1, 29, 3), (1, 29, 4), (0, 30, 0), (1, 30, 0), (2, 30, 0), (1, 30, 1), (1, 30, 2), (1, 30, 3), (1, 30, 4), (0, 31, 0), (1, 31, 0), (2, 31, 0), (1, 31, 1), (1, 31, 2), (1, 31, 3), (1, 31, 4), (0, 32, 0), (1, 32, 0), (2, 32, 0), (1, 32, 1), (1, 32, 2), (1, 32, 3), (1, 32, 4), (0, 33, 0), (1, 33, 0), (2, 33, 0), (1, 33, 1), (1, 33, 2), (1, 33, 3), (1, 33, 4), (0, 34, 0), (1, 34, 0), (2, 34, 0), (1, 34, 1), (1, 34, 2), (1, 34, 3), (1, 34, 4), (0, 35, 0), (1, 35, 0), (2, 35, 0), (1, 35, 1), (1, 35, 2), (1, 35, 3), (1, 35, 4), (0, 38, 0), (1, 38, 0), (2, 38, 0), (1, 38, 1), (1, 38, 2), (1, 38, 3), (1, 38, 4), (0, 39, 0), (1, 39, 0), (2, 39, 0), (1, 39, 1), (1, 39, 2), (1, 39, 3), (1, 39, 4), (0, 40, 0), (1, 40, 0), (2, 40, 0), (1, 40, 1), (1, 40, 2), (1, 40, 3), (1, 40, 4), (0, 41, 0), (1, 41, 0), (2, 41, 0), (1, 41, 1), (1, 41, 2), (1, 41, 3), (1, 41, 4), (0, 42, 0), (1, 42, 0), (2, 42, 0), (1, 42, 1), (1, 42, 2), (1, 42, 3), (1, 42, 4), (0, 43, 0), (1, 43, 0), (2, 43, 0), (1, 43, 1), (1, 43, 2), (1, 43, 3), (1, 43, 4), (0, 44, 0), (1, 44, 0), (2, 44, 0), (1, 44, 1), (1, 44, 2), (1, 44, 3), (1, 44, 4), (0, 45, 0), (1, 45, 0), (2, 45, 0), (1, 45, 1), (1, 45, 2), (1, 45, 3), (1, 45, 4), (0, 46, 0), (1, 46, 0), (2, 46, 0), (1, 46, 1), (1, 46, 2), (1, 46, 3), (1, 46, 4), (0, 47, 0), (1, 47, 0), (2, 47, 0), (1, 47, 1), (1, 47, 2), (1, 47, 3), (1, 47, 4), (0, 48, 0), (1, 48, 0), (2, 48, 0), (1, 48, 1), (1, 48, 2), (1, 48, 3), (1, 48, 4), (0, 50, 0), (1, 50, 0), (2, 50, 0), (1, 50, 1), (1, 50, 2), (1, 50, 3), (1, 50, 4), (0, 51, 0), (1, 51, 0), (2, 51, 0), (1, 51, 1), (1, 51, 2), (1, 51, 3), (1, 51, 4), (0, 52, 0), (1, 52, 0), (2, 52, 0), (1, 52, 1), (1, 52, 2), (1, 52, 3), (1, 52, 4), (3, 0, 0), (4, 0, 0), (5, 0, 0), (6, 0, 0), (3, 1, 0), (4, 1, 0), (5, 1, 0), (6, 1, 0), (7, 1, 0), (7, 1, 1), (7, 1, 2), (7, 1, 3), (3, 2, 0), (4, 2, 0), (5, 2, 0), (6, 2, 0), (7, 2, 0), (7, 2, 1), (7, 2, 2), (7, 2, 3), (7, 2, 4), (3, 3, 0), (4, 3, 0), (5, 3, 0), (6, 3, 0), (7, 3, 0), (7, 3, 1), (7, 3, 2), (3, 4, 0), (4, 4, 0), (5, 4, 0), (6, 4, 0), (7, 4, 0), (3, 5, 0), (4, 5, 0), (5, 5, 0), (6, 5, 0), (7, 5, 0), (3, 6, 0), (4, 6, 0), (5, 6, 0), (6, 6, 0), (7, 6, 0), (7, 6, 1), (7, 6, 2), (3, 7, 0), (4, 7, 0), (5, 7, 0), (6, 7, 0), (7, 7, 0), (7, 7, 1), (7, 7, 2), (3, 8, 0), (4, 8, 0), (5, 8, 0), (6, 8, 0), (7, 8, 0), (7, 8, 1), (3, 9, 0), (4, 9, 0), (5, 9, 0), (6, 9, 0), (7, 9, 0), (3, 10, 0), (4, 10, 0), (5, 10, 0), (6, 10, 0), (7, 10, 0), (3, 11, 0), (4, 11, 0), (5, 11, 0), (6, 11, 0), (7, 11, 0), (3, 12, 0), (4, 12, 0), (5, 12, 0), (6, 12, 0), (7, 12, 0), (3, 13, 0), (4, 13, 0), (5, 13, 0), (6, 13, 0), (7, 13, 0), (3, 14, 0), (4, 14, 0), (5, 14, 0), (6, 14, 0), (7, 14, 0), (3, 15, 0), (4, 15, 0), (5, 15, 0), (6, 15, 0), (7, 15, 0), (3, 16, 0), (4, 16, 0), (5, 16, 0), (6, 16, 0), (7, 16, 0), (7, 16, 1), (7, 16, 2), (7, 16, 3), (3, 17, 0), (4, 17, 0), (5, 17, 0), (6, 17, 0), (7, 17, 0), (3, 18, 0), (4, 18, 0), (5, 18, 0), (6, 18, 0), (7, 18, 0), (7, 18, 1), (3, 19, 0), (4, 19, 0), (5, 19, 0), (6, 19, 0), (7, 19, 0), (7, 19, 1), (3, 20, 0), (4, 20, 0), (5, 20, 0), (6, 20, 0), (7, 20, 0), (7, 20, 1), (7, 20, 2), (7, 20, 3), (7, 20, 4), (3, 21, 0), (4, 21, 0), (5, 21, 0), (6, 21, 0), (7, 21, 0), (7, 21, 1), (7, 21, 2), (7, 21, 3), (3, 22, 0), (4, 22, 0), (5, 22, 0), (6, 22, 0), (7, 22, 0), (7, 22, 1), (7, 22, 2), (7, 22, 3), (7, 22, 4), (3, 23, 0), (4, 23, 0), (5, 23, 0), (6, 23, 0), (7, 23, 0), (7, 23, 1), (7, 23, 2), (7, 23, 3), (3, 24, 0), (4, 24, 0), (5, 24, 0), (6, 24, 0), (7, 24, 0), (7, 24, 1), (7, 24, 2), (3, 25, 0), (4, 25, 0), (5, 25, 0), (6, 25, 0), (7, 25, 0), (7, 25, 1), (7, 25, 2), (7, 25, 3), (3, 26, 0), (4, 26, 0), (5, 26, 0), (6, 26, 0), (7, 26, 0), (7, 26, 1), (7, 26, 2), (3, 27, 0), (4, 27, 0), (5, 27, 0), (6, 27, 0), (7, 27, 0), (7, 27, 1), (7, 27, 2), (3, 28, 0), (4, 28, 0), (5, 28, 0), (6, 28, 0), (7, 28, 0), (7, 28, 1), (7, 28, 2), (7, 28, 3), (7, 28, 4), (3, 29, 0), (4, 29, 0), (5, 29, 0), (6, 29, 0), (7, 29, 0), (7, 29, 1), (3, 30, 0), (4, 30, 0), (5, 30, 0), (6, 30, 0), (7, 30, 0), (7, 30, 1), (7, 30, 2), (3, 31, 0), (4, 31, 0), (5, 31, 0), (6, 31, 0), (7, 31, 0), (7, 31, 1), (3, 32, 0), (4, 32, 0), (5, 32, 0), (6, 32, 0), (7, 32, 0), (7, 32, 1), (7, 32, 2), (3, 33, 0), (4, 33, 0), (5, 33, 0), (6, 33, 0), (7, 33, 0), (7, 33, 1), (7, 33, 2), (3, 34, 0), (4, 34, 0), (5, 34, 0), (6, 34, 0), (7, 34, 0), (7, 34, 1), (7, 34, 2), (7, 34, 3), (7, 34, 4), (3, 35, 0), (4, 35, 0), (5, 35, 0), (6, 35, 0), (7, 35, 0), (7, 35, 1), (7, 35, 2), (7, 35, 3), (3, 36, 0), (4, 36, 0), (5, 36, 0), (6, 36, 0), (7, 36, 0), (7, 36, 1), (7, 36, 2), (7, 36, 3), (3, 37, 0), (4, 37, 0), (5, 37, 0), (6, 37, 0), (7, 37, 0), (7, 37, 1), (7, 37, 2), (7, 37, 3), (3, 38, 0), (4, 38, 0), (5, 38, 0), (6, 38, 0), (7, 38, 0), (7, 38, 1), (7, 38, 2), (7, 38, 3), (7, 38, 4), (3, 39, 0), (4, 39, 0), (5, 39, 0), (6, 39, 0), (7, 39, 0), (7, 39, 1), (7, 39, 2), (7, 39, 3), (3, 40, 0), (4, 40, 0), (5, 40, 0), (6, 40, 0), (7, 40, 0), (7, 40, 1), (7, 40, 2), (3, 41, 0), (4, 41, 0), (5, 41, 0), (6, 41, 0), (7, 41, 0), (7, 41, 1), (7, 41, 2), (7, 41, 3), (3, 42, 0), (4, 42, 0), (5, 42, 0), (6, 42, 0), (7, 42, 0), (7, 42, 1), (7, 42, 2), (7, 42, 3), (7, 42, 4), (3, 43, 0), (4, 43, 0), (5, 43, 0), (6, 43, 0), (7, 43, 0), (7, 43, 1), (7, 43, 2), (7, 43, 3), (7, 43, 4), (7, 43, 5), (3, 44, 0), (4, 44, 0), (5, 44, 0), (6, 44, 0), (7, 44, 0), (3, 45, 0), (4, 45, 0), (5, 45, 0), (6, 45, 0), (7, 45, 0), (3, 46, 0), (4, 46, 0), (5, 46, 0), (6, 46, 0), (7, 46, 0), (7, 46, 1), (3, 47, 0), (4, 47, 0), (5, 47, 0), (6, 47, 0), (7, 47, 0), (7, 47, 1), (3, 48, 0), (4, 48, 0), (5, 48, 0), (6, 48, 0), (7, 48, 0), (3, 49, 0), (4, 49, 0), (5, 49, 0), (6, 49, 0), (7, 49, 0), (3, 50, 0), (4, 50, 0), (5, 50, 0), (6, 50, 0), (7, 50, 0), (3, 51, 0), (4, 51, 0), (5, 51, 0), (6, 51, 0), (7, 51, 0), (7, 51, 1), (3, 52, 0), (4, 52, 0), (5, 52, 0), (6, 52, 0), (7, 52, 0), (7, 52, 1), (3, 53, 0), (4, 53, 0), (5, 53, 0), (6, 53, 0), (7, 53, 0), (7, 53, 1), (7, 53, 2), (3, 54, 0), (4, 54, 0), (5, 54, 0), (6, 54, 0), (7, 54, 0), (3, 55, 0), (4, 55, 0), (5, 55, 0), (6, 55, 0), (7, 55, 0), (3, 56, 0), (4, 56, 0), (5, 56, 0), (6, 56, 0), (7, 56, 0), (3, 57, 0), (4, 57, 0), (5, 57, 0), (6, 57, 0), (7, 57, 0)]
/-- the second row holds the first's in their order -/
def qs_sub : List Cond → List Cond → Bool
  | [], _ => true
  | _ :: _, [] => false
  | a :: l, b :: r => if a = b then qs_sub l r else qs_sub (a :: l) r
theorem qs_sub_of : ∀ (r l : List Cond), qs_sub l r = true → ∀ c ∈ l, c ∈ r
  | [], [], _, c, hc => hc
  | [], _ :: _, h, _, _ => by simp [qs_sub] at h
  | b :: r, [], _, c, hc => by cases hc
  | b :: r, a :: l, h, c, hc => by
    rw [qs_sub] at h
    by_cases e : a = b
    · rw [if_pos e] at h
      rcases List.mem_cons.mp hc with h1 | h1
      · rw [h1, e]; exact List.mem_cons_self
      · exact List.mem_cons_of_mem _ (qs_sub_of r l h c h1)
    · rw [if_neg e] at h
      exact List.mem_cons_of_mem _ (qs_sub_of r (a :: l) h c hc)
set_option maxRecDepth 1000000 in
theorem qs_0 : qs_sub (qs_E.map qs_c) qs_nl = true := by decide +kernel
theorem qs_m {q : Nat × Nat × Nat} (h : q ∈ qs_E) : qs_c q ∈ qs_nl := qs_sub_of _ _ qs_0 _ (List.mem_map.mpr ⟨q, h, rfl⟩)
set_option maxRecDepth 100000 in
theorem qs_k1 : (List.range 62).all (fun i => decide ((0, i, 0) ∈ qs_E)) = true := by decide +kernel
set_option maxRecDepth 100000 in
theorem qs_k2 : (List.range 5).all (fun j => (List.range 62).all (fun i => decide ((1, i, j) ∈ qs_E))) = true := by decide +kernel
set_option maxRecDepth 100000 in
theorem qs_k3 : (List.range 62).all (fun i => decide ((2, i, 0) ∈ qs_E) && Nat.blt (qc_mk_text.getD i 0) 58) = true := by decide +kernel
set_option maxRecDepth 100000 in
theorem qs_k4 : (List.range 58).all (fun i => decide ((3, i, 0) ∈ qs_E) && decide ((4, i, 0) ∈ qs_E) && decide ((5, i, 0) ∈ qs_E) && decide ((6, i, 0) ∈ qs_E) && Nat.blt (qc_sxLen.getD i 0) 100) = true := by decide +kernel
set_option maxRecDepth 100000 in
theorem qs_k5 : (List.range 58).all (fun i => (List.range (qc_sxLen.getD i 0)).all (fun j => decide ((7, i, j) ∈ qs_E))) = true := by decide +kernel
set_option maxRecDepth 100000 in
theorem qs_k6 : (decide ((8, 0, 0) ∈ qs_E) && decide ((9, 0, 0) ∈ qs_E) && (List.range 62).all (fun i => decide ((10, i, 0) ∈ qs_E)) && decide ((11, 0, 0) ∈ qs_E)) = true := by decide +kernel
theorem qs_al {n : Nat} {f : Nat → Bool} (h : ∀ i, i < n → f i = true) : (List.range n).all f = true := List.all_eq_true.mpr (fun i hi => h i (List.mem_range.mp hi))
theorem qs_1 : (List.range 62).all (fun i => decide (Cond.exactly (qs_mk i) "QueryClasses$Mark" ∈ qs_nl)) = true := qs_al (fun i hi => decide_eq_true (qs_m (of_decide_eq_true (qc_all qs_k1 hi))))
theorem qs_2 : qs_F.all (fun q => (List.range 62).all (fun i => decide (Cond.eq (.field (qs_mk i) q.1 q.2.1 q.2.2.1) (.int (q.2.2.2.getD i 0)) ∈ qs_nl))) = true := by
  have h : ∀ j, j < 5 → ∀ i, i < 62 → qs_c (1, i, j) ∈ qs_nl := fun j hj i hi => qs_m (of_decide_eq_true (qc_all (qc_all qs_k2 hj) hi))
  refine List.all_eq_true.mpr (fun q hq => qs_al (fun i hi => decide_eq_true ?_))
  have h0 := h 0 (by decide) i hi
  have h1 := h 1 (by decide) i hi
  have h2 := h 2 (by decide) i hi
  have h3 := h 3 (by decide) i hi
  have h4 := h 4 (by decide) i hi
  rcases List.mem_cons.mp hq with e | hq
  · rw [e]; exact h0
  rcases List.mem_cons.mp hq with e | hq
  · rw [e]; exact h1
  rcases List.mem_cons.mp hq with e | hq
  · rw [e]; exact h2
  rcases List.mem_cons.mp hq with e | hq
  · rw [e]; exact h3
  rcases List.mem_cons.mp hq with e | hq
  · rw [e]; exact h4
  cases hq
theorem qs_3 : (List.range 62).all (fun i => decide (Cond.eq (.field (qs_mk i) "QueryClasses$Mark" "text" "Ljava/lang/String;") (qs_st (qc_mk_text.getD i 0)) ∈ qs_nl) && Nat.blt (qc_mk_text.getD i 0) 58) = true := qs_al (fun i hi => by
  have h := qc_all qs_k3 hi
  rw [Bool.and_eq_true] at h ⊢
  exact ⟨decide_eq_true (qs_m (of_decide_eq_true h.1)), h.2⟩)
theorem qs_4 : (List.range 58).all (fun i => decide (Cond.exactly (qs_st i) "java/lang/String" ∈ qs_nl) && decide (Cond.eq (.field (qs_st i) "java/lang/String" "coder" "B") (.int 0) ∈ qs_nl) && decide (Cond.arrayOf (qs_val i) .byte ∈ qs_nl) && decide (Cond.eq (.length (qs_val i)) (.int (Int32.ofNat (qc_sxLen.getD i 0))) ∈ qs_nl) && Nat.blt (qc_sxLen.getD i 0) 100) = true := qs_al (fun i hi => by
  have h := qc_all qs_k4 hi
  rw [Bool.and_eq_true, Bool.and_eq_true, Bool.and_eq_true, Bool.and_eq_true] at h ⊢
  obtain ⟨⟨⟨⟨a, b⟩, c⟩, d⟩, e⟩ := h
  exact ⟨⟨⟨⟨decide_eq_true (qs_m (of_decide_eq_true a)), decide_eq_true (qs_m (of_decide_eq_true b))⟩, decide_eq_true (qs_m (of_decide_eq_true c))⟩, decide_eq_true (qs_m (of_decide_eq_true d))⟩, e⟩)
theorem qs_5 : (List.range 58).all (fun i => (List.range (qc_sxLen.getD i 0)).all (fun j => decide (Cond.eq (.elem (qs_val i) (.int (Int32.ofNat j))) (.int ((qc_sxB.getD i []).getD j 0)) ∈ qs_nl))) = true := qs_al (fun i hi => qs_al (fun j hj => decide_eq_true (qs_m (of_decide_eq_true (qc_all (qc_all qs_k5 hi) hj)))))
theorem qs_6 : (decide (Cond.arrayOf qs_all (.object "QueryClasses$Mark") ∈ qs_nl) && decide (Cond.eq (.length qs_all) (.int 62) ∈ qs_nl) && (List.range 62).all (fun i => decide (Cond.eq (.elem qs_all (.int (Int32.ofNat i))) (qs_mk i) ∈ qs_nl)) && decide (Cond.eq (.static "java/lang/String" "COMPACT_STRINGS" "Z") (.int 1) ∈ qs_nl)) = true := by
  have h := qs_k6
  rw [Bool.and_eq_true, Bool.and_eq_true, Bool.and_eq_true] at h ⊢
  obtain ⟨⟨⟨a, b⟩, c⟩, d⟩ := h
  exact ⟨⟨⟨decide_eq_true (qs_m (of_decide_eq_true a)), decide_eq_true (qs_m (of_decide_eq_true b))⟩, qs_al (fun i hi => decide_eq_true (qs_m (of_decide_eq_true (qc_all c hi))))⟩, decide_eq_true (qs_m (of_decide_eq_true d))⟩
def qs_lp : List Nat := [224, 746, 748, 754, 672, 289, 930, 936, 938, 940, 291, 946, 948, 954, 956, 958, 818, 820, 822, 773, 924, 2161, 2162, 2163, 2164, 2165, 904, 950, 952, 2166, 2167, 2168, 2169, 2170, 2171, 2172, 916, 918, 2173, 2174, 2175, 2176, 2177, 2178, 2179, 2180, 2181, 2182, 2183, 800, 2184, 2185, 2186, 802, 890, 898, 838, 885, 896, 844, 859, 964]
set_option maxRecDepth 100000 in
theorem qs_k7 : ((List.range 62).all (fun i => decide (lw_tbl[qs_lp.getD i 0]? = some (Cond.laysStatic "QueryClasses$Mark" (qc_mkN.getD i "") "LQueryClasses$Mark;"))) && decide (lw_tbl[674]? = some (Cond.laysStatic "QueryClasses$Mark" "ALL" "[LQueryClasses$Mark;")) && decide (lw_tbl[684]? = some (Cond.laysStatic "java/lang/String" "COMPACT_STRINGS" "Z")) && decide (lw_tbl[139]? = some (Cond.initialized "QueryClasses$Mark")) && decide (lw_tbl[150]? = some (Cond.initialized "java/lang/String"))) = true := by decide +kernel
theorem qs_lt {i : Nat} {c : Cond} (h : decide (lw_tbl[i]? = some c) = true) : decide (c ∈ lw_tbl) = true := decide_eq_true (List.mem_of_getElem? (of_decide_eq_true h))
theorem qs_7 : ((List.range 62).all (fun i => decide (Cond.laysStatic "QueryClasses$Mark" (qc_mkN.getD i "") "LQueryClasses$Mark;" ∈ lw_tbl)) && decide (Cond.laysStatic "QueryClasses$Mark" "ALL" "[LQueryClasses$Mark;" ∈ lw_tbl) && decide (Cond.laysStatic "java/lang/String" "COMPACT_STRINGS" "Z" ∈ lw_tbl) && decide (Cond.initialized "QueryClasses$Mark" ∈ lw_tbl) && decide (Cond.initialized "java/lang/String" ∈ lw_tbl)) = true := by
  have h := qs_k7
  rw [Bool.and_eq_true, Bool.and_eq_true, Bool.and_eq_true, Bool.and_eq_true] at h ⊢
  obtain ⟨⟨⟨⟨a, b⟩, c⟩, d⟩, e⟩ := h
  exact ⟨⟨⟨⟨qs_al (fun i hi => qs_lt (qc_all a hi)), qs_lt b⟩, qs_lt c⟩, qs_lt d⟩, qs_lt e⟩
set_option maxRecDepth 100000 in
theorem qs_kf : (decide (lw_tbl[705]? = some (Cond.laysStatic "jdk/internal/util/Preconditions" "SIOOBE_FORMATTER" "Ljava/util/function/BiFunction;")) && decide (lw_tbl[152]? = some (Cond.initialized "jdk/internal/util/Preconditions")) && decide (qs_nl[100]? = some (Cond.isRef (.static "jdk/internal/util/Preconditions" "SIOOBE_FORMATTER" "Ljava/util/function/BiFunction;")))) = true := by decide +kernel
theorem qs_f0 : (decide (lw_tbl[705]? = some (Cond.laysStatic "jdk/internal/util/Preconditions" "SIOOBE_FORMATTER" "Ljava/util/function/BiFunction;")) = true ∧ decide (lw_tbl[152]? = some (Cond.initialized "jdk/internal/util/Preconditions")) = true) ∧ decide (qs_nl[100]? = some (Cond.isRef (.static "jdk/internal/util/Preconditions" "SIOOBE_FORMATTER" "Ljava/util/function/BiFunction;"))) = true := by
  have h := qs_kf
  rw [Bool.and_eq_true, Bool.and_eq_true] at h
  exact h
theorem qs_f1 : Cond.laysStatic "jdk/internal/util/Preconditions" "SIOOBE_FORMATTER" "Ljava/util/function/BiFunction;" ∈ lw_tbl := List.mem_of_getElem? (of_decide_eq_true qs_f0.1.1)
theorem qs_f2 : Cond.initialized "jdk/internal/util/Preconditions" ∈ lw_tbl := List.mem_of_getElem? (of_decide_eq_true qs_f0.1.2)
theorem qs_f3 : Cond.isRef (.static "jdk/internal/util/Preconditions" "SIOOBE_FORMATTER" "Ljava/util/function/BiFunction;") ∈ qs_nl := List.mem_of_getElem? (of_decide_eq_true qs_f0.2)
