def fX12_fault (w : qcW) (I : qTI) (L : qTL) (D : qTD) (R : qTR) : qcO Int32 :=
  (some ((I 291 64), I, L, D, R))
set_option maxRecDepth 100000 in
set_option maxHeartbeats 4000000 in
theorem tX12_fault {w : qcW} {I : qTI} {L : qTL} {D : qTD} {R : qTR} {r : Int32} {I' : qTI} {L' : qTL} {D' : qTD} {R' : qTR} (hn : qcNF ≤ w.1) (hR : qc_FR R) (h : fX12_fault w I L D R = some (r, I', L', D', R')) : qc_fm qcSM (I, L, D, R) (I', L', D', R') ∧ qc_V (0) 0 0 qmX12_fault [.ref 291] w (I, L, D, R) (qc_eq (some (.int r)) w (I', L', D', R')) := by
  unfold fX12_fault at h
  refine And.imp_right (fun hx => qc_V.of rfl rfl (Nat.le_of_ble_eq_true rfl) (lv := [(0, .ref 291)]) rfl hx) ?_
  obtain ⟨rfl, rfl, rfl, rfl, rfl⟩ := qc_some5 h
  exact ⟨qc_fm.rf _, qc_aload_n (qc_at qkX12_fault 0 rfl) rfl <| qc_gI (qc_at qkX12_fault 1 rfl) hn rfl <| qc_iret (qc_at qkX12_fault 2 rfl) rfl (Nat.le_refl _) (Nat.le_refl _) (qc_eq.rf _ _ _)⟩
def fX12_isQuery (w : qcW) (I : qTI) (L : qTL) (D : qTD) (R : qTR) (x1 : Int32) : qcO Bool :=
  (qc_bd (fX12_in w I L D R (Int32.toInt64 x1) (0 : Int64) (Int32.toInt64 ((I 291 40) - (1 : Int32)))) fun r1 I1 L1 D1 R1 => some (r1, I1, L1, D1, R1))
set_option maxRecDepth 100000 in
set_option maxHeartbeats 4000000 in
theorem tX12_isQuery {w : qcW} {I : qTI} {L : qTL} {D : qTD} {R : qTR} {x1 : Int32} {r : Bool} {I' : qTI} {L' : qTL} {D' : qTD} {R' : qTR} (hn : qcNF ≤ w.1) (hR : qc_FR R) (h : fX12_isQuery w I L D R x1 = some (r, I', L', D', R')) : qc_fm qcSM (I, L, D, R) (I', L', D', R') ∧ qc_V (1) 0 0 qmX12_isQuery [.ref 291, .int x1] w (I, L, D, R) (qc_eq (some (.int (qc_b r))) w (I', L', D', R')) := by
  unfold fX12_isQuery at h
  refine And.imp_right (fun hx => qc_V.of rfl rfl (Nat.le_of_ble_eq_true rfl) (lv := [(0, .ref 291), (1, .int x1)]) rfl hx) ?_
  refine And.imp_right (fun hx => qc_iload_n (qc_at qkX12_isQuery 0 rfl) rfl <| qc_i2l (qc_at qkX12_isQuery 1 rfl) <| qc_lconst (qc_at qkX12_isQuery 2 rfl) <| qc_aload_n (qc_at qkX12_isQuery 3 rfl) rfl <| qc_gI (qc_at qkX12_isQuery 4 rfl) hn rfl <| qc_iconst (qc_at qkX12_isQuery 5 rfl) <| qc_isub (qc_at qkX12_isQuery 6 rfl) <| qc_i2l (qc_at qkX12_isQuery 7 rfl) <| hx) ?_
  obtain ⟨r1, I1, L1, D1, R1, e1, h⟩ := qc_bd_of h
  have c1 := (tX12_in hn hR e1)
  refine qd_cSv (qc_at qkX12_isQuery 8 rfl) ql_12_162 qfX12_in c1 rfl rfl (Nat.le_of_ble_eq_true rfl) (qc_rml (by decide) (by decide)) ⟨Nat.zero_le _, Nat.zero_le _⟩ ?_
  obtain ⟨rfl, rfl, rfl, rfl, rfl⟩ := qc_some5 h
  exact ⟨qc_fm.rf _, qc_zret (qc_at qkX12_isQuery 9 rfl) rfl (qc_b01 _) (Nat.le_refl _) (Nat.le_refl _) (qc_eq.rf _ _ _)⟩
def fX12_acts (w : qcW) (I : qTI) (L : qTL) (D : qTD) (R : qTR) (x1 : Int32) (x2 : Int32) : qcO Int32 :=
  (qc_bd (fX12_isQuery w I L D R x1) fun r1 I1 L1 D1 R1 => if r1 = true then (qc_bd (fX12_in w I1 L1 D1 R1 (Int32.toInt64 x2) (0 : Int64) (2 : Int64)) fun r3 I3 L3 D3 R3 => if r3 = true then (qc_gd (qc_inb (((3 : Int32) * x1) + x2) 36) <| some ((I3 317 (Int32.toNatClampNeg (((3 : Int32) * x1) + x2))), I3, L3, D3, R3)) else (some ((-1 : Int32), I3, L3, D3, R3))) else (some ((-1 : Int32), I1, L1, D1, R1)))
set_option maxRecDepth 100000 in
set_option maxHeartbeats 4000000 in
theorem tX12_acts {w : qcW} {I : qTI} {L : qTL} {D : qTD} {R : qTR} {x1 : Int32} {x2 : Int32} {r : Int32} {I' : qTI} {L' : qTL} {D' : qTD} {R' : qTR} (hn : qcNF ≤ w.1) (hR : qc_FR R) (h : fX12_acts w I L D R x1 x2 = some (r, I', L', D', R')) : qc_fm qcSM (I, L, D, R) (I', L', D', R') ∧ qc_V (2) 0 0 qmX12_acts [.ref 291, .int x1, .int x2] w (I, L, D, R) (qc_eq (some (.int r)) w (I', L', D', R')) := by
  unfold fX12_acts at h
  refine And.imp_right (fun hx => qc_V.of rfl rfl (Nat.le_of_ble_eq_true rfl) (lv := [(0, .ref 291), (1, .int x1), (2, .int x2)]) rfl hx) ?_
  refine And.imp_right (fun hx => qc_aload_n (qc_at qkX12_acts 0 rfl) rfl <| qc_iload_n (qc_at qkX12_acts 1 rfl) rfl <| hx) ?_
  obtain ⟨r1, I1, L1, D1, R1, e1, h⟩ := qc_bd_of h
  have c1 := (tX12_isQuery hn hR e1)
  refine qd_cVv (ci := 10) (a0 := 291) (qc_at qkX12_acts 2 rfl) ql_12_585 qfX12_isQuery (qc_kf hn rfl) rfl c1 rfl rfl (Nat.le_of_ble_eq_true rfl) (qc_rml (by decide) (by decide)) ⟨Nat.zero_le _, Nat.zero_le _⟩ ?_
  refine qc_andB (qc_ifB_eq (qc_at qkX12_acts 3 rfl)) (fun u2 => ?_) (fun u2 => ?_)
  · replace h := qc_jf u2 h
    obtain ⟨rfl, rfl, rfl, rfl, rfl⟩ := qc_some5 h
    exact ⟨qc_fm.rf _, qc_iconst (qc_at qkX12_acts 19 rfl) <| qc_iret (qc_at qkX12_acts 20 rfl) rfl (Nat.le_refl _) (Nat.le_refl _) (qc_eq.rf _ _ _)⟩
  · replace h := qc_jt u2 h
    refine And.imp_right (fun hx => qc_iload_n (qc_at qkX12_acts 4 rfl) rfl <| qc_i2l (qc_at qkX12_acts 5 rfl) <| qc_lconst (qc_at qkX12_acts 6 rfl) <| qc_ldc2l (qc_at qkX12_acts 7 rfl) <| hx) ?_
    obtain ⟨r3, I3, L3, D3, R3, e3, h⟩ := qc_bd_of h
    have c3 := (tX12_in hn (c1.1.1 hR) e3)
    refine qd_cSv (qc_at qkX12_acts 8 rfl) ql_12_162 qfX12_in c3 rfl rfl (Nat.le_of_ble_eq_true rfl) (qc_rml (by decide) (by decide)) ⟨Nat.zero_le _, Nat.zero_le _⟩ ?_
    refine qc_andB (qc_ifB_eq (qc_at qkX12_acts 9 rfl)) (fun u4 => ?_) (fun u4 => ?_)
    · replace h := qc_jf u4 h
      obtain ⟨rfl, rfl, rfl, rfl, rfl⟩ := qc_some5 h
      exact ⟨qc_fm.rf _, qc_iconst (qc_at qkX12_acts 19 rfl) <| qc_iret (qc_at qkX12_acts 20 rfl) rfl (Nat.le_refl _) (Nat.le_refl _) (qc_eq.rf _ _ _)⟩
    · replace h := qc_jt u4 h
      refine And.imp_right (fun hx => qc_aload_n (qc_at qkX12_acts 10 rfl) rfl <| qc_gR (qc_at qkX12_acts 11 rfl) hn rfl (qfr_291_43 (c3.1.1 (c1.1.1 hR))) rfl <| qc_iconst (qc_at qkX12_acts 12 rfl) <| qc_iload_n (qc_at qkX12_acts 13 rfl) rfl <| qc_imul (qc_at qkX12_acts 14 rfl) <| qc_iload_n (qc_at qkX12_acts 15 rfl) rfl <| qc_iadd (qc_at qkX12_acts 16 rfl) <| hx) ?_
      obtain ⟨g5, h⟩ := qc_gd_of h
      obtain ⟨rfl, rfl, rfl, rfl, rfl⟩ := qc_some5 h
      exact ⟨qc_fm.rf _, qc_iald 36 (qc_at qkX12_acts 17 rfl) hn rfl (qc_inb_in g5) <| qc_goto (qc_at qkX12_acts 18 rfl) <| qc_iret (qc_at qkX12_acts 20 rfl) rfl (Nat.le_refl _) (Nat.le_refl _) (qc_eq.rf _ _ _)⟩
def fX12_act (w : qcW) (I : qTI) (L : qTL) (D : qTD) (R : qTR) (x1 : Int32) (x2 : Int32) (x3 : Int32) (x4 : Int32) : qcO Int32 :=
  (qc_bd (fX12_isQuery w I L D R x1) fun r1 I1 L1 D1 R1 => if r1 = true then (qc_bd (fX12_in w I1 L1 D1 R1 (Int32.toInt64 x2) (0 : Int64) (2 : Int64)) fun r3 I3 L3 D3 R3 => if r3 = true then (qc_gd (qc_inb (((3 : Int32) * x1) + x2) 36) <| qc_bd (fX12_in w I3 L3 D3 R3 (Int32.toInt64 x3) (0 : Int64) (Int32.toInt64 ((I3 317 (Int32.toNatClampNeg (((3 : Int32) * x1) + x2))) - (1 : Int32)))) fun r6 I6 L6 D6 R6 => if r6 = true then (qc_bd (fX12_in w I6 L6 D6 R6 (Int32.toInt64 x4) (0 : Int64) (1 : Int64)) fun r8 I8 L8 D8 R8 => if r8 = true then (if x4 = 0 then (qc_gd (qc_inb ((((600 : Int32) * x1) + ((200 : Int32) * x2)) + x3) 7200) <| some ((I8 315 (Int32.toNatClampNeg ((((600 : Int32) * x1) + ((200 : Int32) * x2)) + x3))), I8, L8, D8, R8)) else (qc_gd (qc_inb ((((600 : Int32) * x1) + ((200 : Int32) * x2)) + x3) 7200) <| some ((I8 316 (Int32.toNatClampNeg ((((600 : Int32) * x1) + ((200 : Int32) * x2)) + x3))), I8, L8, D8, R8))) else (some ((-2 : Int32), I8, L8, D8, R8))) else (some ((-2 : Int32), I6, L6, D6, R6))) else (some ((-2 : Int32), I3, L3, D3, R3))) else (some ((-2 : Int32), I1, L1, D1, R1)))
set_option maxRecDepth 100000 in
set_option maxHeartbeats 4000000 in
theorem tX12_act {w : qcW} {I : qTI} {L : qTL} {D : qTD} {R : qTR} {x1 : Int32} {x2 : Int32} {x3 : Int32} {x4 : Int32} {r : Int32} {I' : qTI} {L' : qTL} {D' : qTD} {R' : qTR} (hn : qcNF ≤ w.1) (hR : qc_FR R) (h : fX12_act w I L D R x1 x2 x3 x4 = some (r, I', L', D', R')) : qc_fm qcSM (I, L, D, R) (I', L', D', R') ∧ qc_V (2) 0 0 qmX12_act [.ref 291, .int x1, .int x2, .int x3, .int x4] w (I, L, D, R) (qc_eq (some (.int r)) w (I', L', D', R')) := by
  unfold fX12_act at h
  refine And.imp_right (fun hx => qc_V.of rfl rfl (Nat.le_of_ble_eq_true rfl) (lv := [(0, .ref 291), (1, .int x1), (2, .int x2), (3, .int x3), (4, .int x4)]) rfl hx) ?_
  refine And.imp_right (fun hx => qc_aload_n (qc_at qkX12_act 0 rfl) rfl <| qc_iload_n (qc_at qkX12_act 1 rfl) rfl <| hx) ?_
  obtain ⟨r1, I1, L1, D1, R1, e1, h⟩ := qc_bd_of h
  have c1 := (tX12_isQuery hn hR e1)
  refine qd_cVv (ci := 10) (a0 := 291) (qc_at qkX12_act 2 rfl) ql_12_585 qfX12_isQuery (qc_kf hn rfl) rfl c1 rfl rfl (Nat.le_of_ble_eq_true rfl) (qc_rml (by decide) (by decide)) ⟨Nat.zero_le _, Nat.zero_le _⟩ ?_
  refine qc_andB (qc_ifB_eq (qc_at qkX12_act 3 rfl)) (fun u2 => ?_) (fun u2 => ?_)
  · replace h := qc_jf u2 h
    obtain ⟨rfl, rfl, rfl, rfl, rfl⟩ := qc_some5 h
    exact ⟨qc_fm.rf _, qc_bipush (qc_at qkX12_act 32 rfl) <| qc_iret (qc_at qkX12_act 33 rfl) rfl (Nat.le_refl _) (Nat.le_refl _) (qc_eq.rf _ _ _)⟩
  · replace h := qc_jt u2 h
    refine And.imp_right (fun hx => qc_iload_n (qc_at qkX12_act 4 rfl) rfl <| qc_i2l (qc_at qkX12_act 5 rfl) <| qc_lconst (qc_at qkX12_act 6 rfl) <| qc_ldc2l (qc_at qkX12_act 7 rfl) <| hx) ?_
    obtain ⟨r3, I3, L3, D3, R3, e3, h⟩ := qc_bd_of h
    have c3 := (tX12_in hn (c1.1.1 hR) e3)
    refine qd_cSv (qc_at qkX12_act 8 rfl) ql_12_162 qfX12_in c3 rfl rfl (Nat.le_of_ble_eq_true rfl) (qc_rml (by decide) (by decide)) ⟨Nat.zero_le _, Nat.zero_le _⟩ ?_
    refine qc_andB (qc_ifB_eq (qc_at qkX12_act 9 rfl)) (fun u4 => ?_) (fun u4 => ?_)
    · replace h := qc_jf u4 h
      obtain ⟨rfl, rfl, rfl, rfl, rfl⟩ := qc_some5 h
      exact ⟨qc_fm.rf _, qc_bipush (qc_at qkX12_act 32 rfl) <| qc_iret (qc_at qkX12_act 33 rfl) rfl (Nat.le_refl _) (Nat.le_refl _) (qc_eq.rf _ _ _)⟩
    · replace h := qc_jt u4 h
      refine And.imp_right (fun hx => qc_iload_n (qc_at qkX12_act 10 rfl) rfl <| qc_i2l (qc_at qkX12_act 11 rfl) <| qc_lconst (qc_at qkX12_act 12 rfl) <| qc_aload_n (qc_at qkX12_act 13 rfl) rfl <| qc_gR (qc_at qkX12_act 14 rfl) hn rfl (qfr_291_43 (c3.1.1 (c1.1.1 hR))) rfl <| qc_iconst (qc_at qkX12_act 15 rfl) <| qc_iload_n (qc_at qkX12_act 16 rfl) rfl <| qc_imul (qc_at qkX12_act 17 rfl) <| qc_iload_n (qc_at qkX12_act 18 rfl) rfl <| qc_iadd (qc_at qkX12_act 19 rfl) <| hx) ?_
      obtain ⟨g5, h⟩ := qc_gd_of h
      refine And.imp_right (fun hx => qc_iald 36 (qc_at qkX12_act 20 rfl) hn rfl (qc_inb_in g5) <| qc_iconst (qc_at qkX12_act 21 rfl) <| qc_isub (qc_at qkX12_act 22 rfl) <| qc_i2l (qc_at qkX12_act 23 rfl) <| hx) ?_
      obtain ⟨r6, I6, L6, D6, R6, e6, h⟩ := qc_bd_of h
      have c6 := (tX12_in hn (c3.1.1 (c1.1.1 hR)) e6)
      refine qd_cSv (qc_at qkX12_act 24 rfl) ql_12_162 qfX12_in c6 rfl rfl (Nat.le_of_ble_eq_true rfl) (qc_rml (by decide) (by decide)) ⟨Nat.zero_le _, Nat.zero_le _⟩ ?_
      refine qc_andB (qc_ifB_eq (qc_at qkX12_act 25 rfl)) (fun u7 => ?_) (fun u7 => ?_)
      · replace h := qc_jf u7 h
        obtain ⟨rfl, rfl, rfl, rfl, rfl⟩ := qc_some5 h
        exact ⟨qc_fm.rf _, qc_bipush (qc_at qkX12_act 32 rfl) <| qc_iret (qc_at qkX12_act 33 rfl) rfl (Nat.le_refl _) (Nat.le_refl _) (qc_eq.rf _ _ _)⟩
      · replace h := qc_jt u7 h
        refine And.imp_right (fun hx => qc_iload (qc_at qkX12_act 26 rfl) rfl <| qc_i2l (qc_at qkX12_act 27 rfl) <| qc_lconst (qc_at qkX12_act 28 rfl) <| qc_lconst (qc_at qkX12_act 29 rfl) <| hx) ?_
        obtain ⟨r8, I8, L8, D8, R8, e8, h⟩ := qc_bd_of h
        have c8 := (tX12_in hn (c6.1.1 (c3.1.1 (c1.1.1 hR))) e8)
        refine qd_cSv (qc_at qkX12_act 30 rfl) ql_12_162 qfX12_in c8 rfl rfl (Nat.le_of_ble_eq_true rfl) (qc_rml (by decide) (by decide)) ⟨Nat.zero_le _, Nat.zero_le _⟩ ?_
        refine qc_andBn (qc_ifB_ne (qc_at qkX12_act 31 rfl)) (fun u9 => ?_) (fun u9 => ?_)
        · replace h := qc_jt u9 h
          refine And.imp_right (fun hx => qc_sipush (qc_at qkX12_act 34 rfl) <| qc_iload_n (qc_at qkX12_act 35 rfl) rfl <| qc_imul (qc_at qkX12_act 36 rfl) <| qc_sipush (qc_at qkX12_act 37 rfl) <| qc_iload_n (qc_at qkX12_act 38 rfl) rfl <| qc_imul (qc_at qkX12_act 39 rfl) <| qc_iadd (qc_at qkX12_act 40 rfl) <| qc_iload_n (qc_at qkX12_act 41 rfl) rfl <| qc_iadd (qc_at qkX12_act 42 rfl) <| qc_istore (lv' := [(5, _), (0, _), (1, _), (2, _), (3, _), (4, _)]) (qc_at qkX12_act 43 rfl) rfl rfl <| qc_iload (qc_at qkX12_act 44 rfl) rfl <| hx) ?_
          refine qc_andN (qc_if_ne (qc_at qkX12_act 45 rfl)) (fun u10 => ?_) (fun u10 => ?_)
          · replace h := qc_jn u10 h
            refine And.imp_right (fun hx => qc_aload_n (qc_at qkX12_act 51 rfl) rfl <| qc_gR (qc_at qkX12_act 52 rfl) hn rfl (qfr_291_42 (c8.1.1 (c6.1.1 (c3.1.1 (c1.1.1 hR))))) rfl <| qc_iload (qc_at qkX12_act 53 rfl) rfl <| hx) ?_
            obtain ⟨g11, h⟩ := qc_gd_of h
            obtain ⟨rfl, rfl, rfl, rfl, rfl⟩ := qc_some5 h
            exact ⟨qc_fm.rf _, qc_iald 7200 (qc_at qkX12_act 54 rfl) hn rfl (qc_inb_in g11) <| qc_iret (qc_at qkX12_act 55 rfl) rfl (Nat.le_refl _) (Nat.le_refl _) (qc_eq.rf _ _ _)⟩
          · replace h := qc_jp u10 h
            refine And.imp_right (fun hx => qc_aload_n (qc_at qkX12_act 46 rfl) rfl <| qc_gR (qc_at qkX12_act 47 rfl) hn rfl (qfr_291_41 (c8.1.1 (c6.1.1 (c3.1.1 (c1.1.1 hR))))) rfl <| qc_iload (qc_at qkX12_act 48 rfl) rfl <| hx) ?_
            obtain ⟨g12, h⟩ := qc_gd_of h
            obtain ⟨rfl, rfl, rfl, rfl, rfl⟩ := qc_some5 h
            exact ⟨qc_fm.rf _, qc_iald 7200 (qc_at qkX12_act 49 rfl) hn rfl (qc_inb_in g12) <| qc_goto (qc_at qkX12_act 50 rfl) <| qc_iret (qc_at qkX12_act 55 rfl) rfl (Nat.le_refl _) (Nat.le_refl _) (qc_eq.rf _ _ _)⟩
        · replace h := qc_jf u9 h
          obtain ⟨rfl, rfl, rfl, rfl, rfl⟩ := qc_some5 h
          exact ⟨qc_fm.rf _, qc_bipush (qc_at qkX12_act 32 rfl) <| qc_iret (qc_at qkX12_act 33 rfl) rfl (Nat.le_refl _) (Nat.le_refl _) (qc_eq.rf _ _ _)⟩
def fX12_isEndless (w : qcW) (I : qTI) (L : qTL) (D : qTD) (R : qTR) (x0 : UInt64) : qcO Bool :=
  (if 0 < (Op.cmpValue (FP.dcmp x0 (9218868437227405311 : UInt64)) .l) then (some (true, I, L, D, R)) else (if 0 ≤ (Op.cmpValue (FP.dcmp x0 (18442240474082181119 : UInt64)) .g) then (some (false, I, L, D, R)) else (some (true, I, L, D, R))))
set_option maxRecDepth 100000 in
set_option maxHeartbeats 4000000 in
theorem tX12_isEndless {w : qcW} {I : qTI} {L : qTL} {D : qTD} {R : qTR} {x0 : UInt64} {r : Bool} {I' : qTI} {L' : qTL} {D' : qTD} {R' : qTR} (hn : qcNF ≤ w.1) (hR : qc_FR R) (h : fX12_isEndless w I L D R x0 = some (r, I', L', D', R')) : qc_fm qcSM (I, L, D, R) (I', L', D', R') ∧ qc_V (0) 0 0 qmX12_isEndless [.double x0] w (I, L, D, R) (qc_eq (some (.int (qc_b r))) w (I', L', D', R')) := by
  unfold fX12_isEndless at h
  refine And.imp_right (fun hx => qc_V.of rfl rfl (Nat.le_of_ble_eq_true rfl) (lv := [(0, .double x0)]) rfl hx) ?_
  refine And.imp_right (fun hx => qc_dload_n (qc_at qkX12_isEndless 0 rfl) rfl <| qc_ldc2d (qc_at qkX12_isEndless 1 rfl) <| qc_dcmp (qc_at qkX12_isEndless 2 rfl) <| hx) ?_
  refine qc_andC (qc_if_gt (qc_at qkX12_isEndless 3 rfl)) (fun u1 => ?_) (fun u1 => ?_)
  · replace h := qc_jp u1 h
    obtain ⟨rfl, rfl, rfl, rfl, rfl⟩ := qc_some5 h
    exact ⟨qc_fm.rf _, qc_iconst (qc_at qkX12_isEndless 8 rfl) <| qc_goto (qc_at qkX12_isEndless 9 rfl) <| qc_zret (qc_at qkX12_isEndless 11 rfl) rfl (Or.inr rfl) (Nat.le_refl _) (Nat.le_refl _) ⟨rfl, rfl, rfl⟩⟩
  · replace h := qc_jn u1 h
    refine And.imp_right (fun hx => qc_dload_n (qc_at qkX12_isEndless 4 rfl) rfl <| qc_ldc2d (qc_at qkX12_isEndless 5 rfl) <| qc_dcmp (qc_at qkX12_isEndless 6 rfl) <| hx) ?_
    refine qc_andC (qc_if_ge (qc_at qkX12_isEndless 7 rfl)) (fun u2 => ?_) (fun u2 => ?_)
    · replace h := qc_jp u2 h
      obtain ⟨rfl, rfl, rfl, rfl, rfl⟩ := qc_some5 h
      exact ⟨qc_fm.rf _, qc_iconst (qc_at qkX12_isEndless 10 rfl) <| qc_zret (qc_at qkX12_isEndless 11 rfl) rfl (Or.inl rfl) (Nat.le_refl _) (Nat.le_refl _) ⟨rfl, rfl, rfl⟩⟩
    · replace h := qc_jn u2 h
      obtain ⟨rfl, rfl, rfl, rfl, rfl⟩ := qc_some5 h
      exact ⟨qc_fm.rf _, qc_iconst (qc_at qkX12_isEndless 8 rfl) <| qc_goto (qc_at qkX12_isEndless 9 rfl) <| qc_zret (qc_at qkX12_isEndless 11 rfl) rfl (Or.inr rfl) (Nat.le_refl _) (Nat.le_refl _) ⟨rfl, rfl, rfl⟩⟩
def fX12_isMinus (w : qcW) (I : qTI) (L : qTL) (D : qTD) (R : qTR) (x0 : UInt64) : qcO Bool :=
  (if (Op.cmpValue (FP.dcmp x0 (0 : UInt64)) .g) < 0 then (some (true, I, L, D, R)) else (if (Op.cmpValue (FP.dcmp x0 (0 : UInt64)) .l) = 0 then (qc_gd (qc_n64 (FP.ddiv (4607182418800017408 : UInt64) x0)) <| if 0 ≤ (Op.cmpValue (FP.dcmp (FP.ddiv (4607182418800017408 : UInt64) x0) (0 : UInt64)) .g) then (some (false, I, L, D, R)) else (some (true, I, L, D, R))) else (some (false, I, L, D, R))))
set_option maxRecDepth 100000 in
set_option maxHeartbeats 4000000 in
theorem tX12_isMinus {w : qcW} {I : qTI} {L : qTL} {D : qTD} {R : qTR} {x0 : UInt64} {r : Bool} {I' : qTI} {L' : qTL} {D' : qTD} {R' : qTR} (hn : qcNF ≤ w.1) (hR : qc_FR R) (h : fX12_isMinus w I L D R x0 = some (r, I', L', D', R')) : qc_fm qcSM (I, L, D, R) (I', L', D', R') ∧ qc_V (0) 0 0 qmX12_isMinus [.double x0] w (I, L, D, R) (qc_eq (some (.int (qc_b r))) w (I', L', D', R')) := by
  unfold fX12_isMinus at h
  refine And.imp_right (fun hx => qc_V.of rfl rfl (Nat.le_of_ble_eq_true rfl) (lv := [(0, .double x0)]) rfl hx) ?_
  refine And.imp_right (fun hx => qc_dload_n (qc_at qkX12_isMinus 0 rfl) rfl <| qc_dconst (qc_at qkX12_isMinus 1 rfl) <| qc_dcmp (qc_at qkX12_isMinus 2 rfl) <| hx) ?_
  refine qc_andC (qc_if_lt (qc_at qkX12_isMinus 3 rfl)) (fun u1 => ?_) (fun u1 => ?_)
  · replace h := qc_jp u1 h
    obtain ⟨rfl, rfl, rfl, rfl, rfl⟩ := qc_some5 h
    exact ⟨qc_fm.rf _, qc_iconst (qc_at qkX12_isMinus 14 rfl) <| qc_goto (qc_at qkX12_isMinus 15 rfl) <| qc_zret (qc_at qkX12_isMinus 17 rfl) rfl (Or.inr rfl) (Nat.le_refl _) (Nat.le_refl _) ⟨rfl, rfl, rfl⟩⟩
  · replace h := qc_jn u1 h
    refine And.imp_right (fun hx => qc_dload_n (qc_at qkX12_isMinus 4 rfl) rfl <| qc_dconst (qc_at qkX12_isMinus 5 rfl) <| qc_dcmp (qc_at qkX12_isMinus 6 rfl) <| hx) ?_
    refine qc_andN (qc_if_ne (qc_at qkX12_isMinus 7 rfl)) (fun u2 => ?_) (fun u2 => ?_)
    · replace h := qc_jn u2 h
      obtain ⟨rfl, rfl, rfl, rfl, rfl⟩ := qc_some5 h
      exact ⟨qc_fm.rf _, qc_iconst (qc_at qkX12_isMinus 16 rfl) <| qc_zret (qc_at qkX12_isMinus 17 rfl) rfl (Or.inl rfl) (Nat.le_refl _) (Nat.le_refl _) ⟨rfl, rfl, rfl⟩⟩
    · replace h := qc_jp u2 h
      refine And.imp_right (fun hx => qc_dconst (qc_at qkX12_isMinus 8 rfl) <| qc_dload_n (qc_at qkX12_isMinus 9 rfl) rfl <| hx) ?_
      obtain ⟨g3, h⟩ := qc_gd_of h
      replace g3 := qc_n64_of g3
      refine And.imp_right (fun hx => qc_ddiv (qc_at qkX12_isMinus 10 rfl) g3 <| qc_dconst (qc_at qkX12_isMinus 11 rfl) <| qc_dcmp (qc_at qkX12_isMinus 12 rfl) <| hx) ?_
      refine qc_andC (qc_if_ge (qc_at qkX12_isMinus 13 rfl)) (fun u4 => ?_) (fun u4 => ?_)
      · replace h := qc_jp u4 h
        obtain ⟨rfl, rfl, rfl, rfl, rfl⟩ := qc_some5 h
        exact ⟨qc_fm.rf _, qc_iconst (qc_at qkX12_isMinus 16 rfl) <| qc_zret (qc_at qkX12_isMinus 17 rfl) rfl (Or.inl rfl) (Nat.le_refl _) (Nat.le_refl _) ⟨rfl, rfl, rfl⟩⟩
      · replace h := qc_jn u4 h
        obtain ⟨rfl, rfl, rfl, rfl, rfl⟩ := qc_some5 h
        exact ⟨qc_fm.rf _, qc_iconst (qc_at qkX12_isMinus 14 rfl) <| qc_goto (qc_at qkX12_isMinus 15 rfl) <| qc_zret (qc_at qkX12_isMinus 17 rfl) rfl (Or.inr rfl) (Nat.le_refl _) (Nat.le_refl _) ⟨rfl, rfl, rfl⟩⟩
def fX12_without (w : qcW) (I : qTI) (L : qTL) (D : qTD) (R : qTR) (x0 : UInt64) : qcO UInt64 :=
  (qc_bd (fX12_isMinus w I L D R x0) fun r1 I1 L1 D1 R1 => if r1 = true then (some ((FP.dneg x0), I1, L1, D1, R1)) else (some (x0, I1, L1, D1, R1)))
set_option maxRecDepth 100000 in
set_option maxHeartbeats 4000000 in
theorem tX12_without {w : qcW} {I : qTI} {L : qTL} {D : qTD} {R : qTR} {x0 : UInt64} {r : UInt64} {I' : qTI} {L' : qTL} {D' : qTD} {R' : qTR} (hn : qcNF ≤ w.1) (hR : qc_FR R) (h : fX12_without w I L D R x0 = some (r, I', L', D', R')) : qc_fm qcSM (I, L, D, R) (I', L', D', R') ∧ qc_V (1) 0 0 qmX12_without [.double x0] w (I, L, D, R) (qc_eq (some (.double r)) w (I', L', D', R')) := by
  unfold fX12_without at h
  refine And.imp_right (fun hx => qc_V.of rfl rfl (Nat.le_of_ble_eq_true rfl) (lv := [(0, .double x0)]) rfl hx) ?_
  refine And.imp_right (fun hx => qc_dload_n (qc_at qkX12_without 0 rfl) rfl <| hx) ?_
  obtain ⟨r1, I1, L1, D1, R1, e1, h⟩ := qc_bd_of h
  have c1 := (tX12_isMinus hn hR e1)
  refine qd_cSv (qc_at qkX12_without 1 rfl) ql_12_592 qfX12_isMinus c1 rfl rfl (Nat.le_of_ble_eq_true rfl) (qc_rml (by decide) (by decide)) ⟨Nat.zero_le _, Nat.zero_le _⟩ ?_
  refine qc_andB (qc_ifB_eq (qc_at qkX12_without 2 rfl)) (fun u2 => ?_) (fun u2 => ?_)
  · replace h := qc_jf u2 h
    obtain ⟨rfl, rfl, rfl, rfl, rfl⟩ := qc_some5 h
    exact ⟨qc_fm.rf _, qc_dload_n (qc_at qkX12_without 6 rfl) rfl <| qc_dret (qc_at qkX12_without 7 rfl) rfl (Nat.le_refl _) (Nat.le_refl _) (qc_eq.rf _ _ _)⟩
  · replace h := qc_jt u2 h
    obtain ⟨rfl, rfl, rfl, rfl, rfl⟩ := qc_some5 h
    exact ⟨qc_fm.rf _, qc_dload_n (qc_at qkX12_without 3 rfl) rfl <| qc_dneg (qc_at qkX12_without 4 rfl) <| qc_goto (qc_at qkX12_without 5 rfl) <| qc_dret (qc_at qkX12_without 7 rfl) rfl (Nat.le_refl _) (Nat.le_refl _) (qc_eq.rf _ _ _)⟩
def fX12_floor (w : qcW) (I : qTI) (L : qTL) (D : qTD) (R : qTR) (x0 : UInt64) : qcO UInt64 :=
  (if (Op.cmpValue (FP.dcmp x0 (0 : UInt64)) .l) = 0 then (some (x0, I, L, D, R)) else (if 0 ≤ (Op.cmpValue (FP.dcmp x0 (4841369599423283200 : UInt64)) .l) then (some (x0, I, L, D, R)) else (if 0 < (Op.cmpValue (FP.dcmp x0 (14064741636278059008 : UInt64)) .g) then (if (Op.cmpValue (FP.dcmp (FP.l2d (FP.d2l x0)) x0) .l) ≤ 0 then (some ((FP.l2d (FP.d2l x0)), I, L, D, R)) else (qc_gd (qc_n64 (FP.dsub (FP.l2d (FP.d2l x0)) (4607182418800017408 : UInt64))) <| some ((FP.dsub (FP.l2d (FP.d2l x0)) (4607182418800017408 : UInt64)), I, L, D, R))) else (some (x0, I, L, D, R)))))
set_option maxRecDepth 100000 in
set_option maxHeartbeats 4000000 in
theorem tX12_floor {w : qcW} {I : qTI} {L : qTL} {D : qTD} {R : qTR} {x0 : UInt64} {r : UInt64} {I' : qTI} {L' : qTL} {D' : qTD} {R' : qTR} (hn : qcNF ≤ w.1) (hR : qc_FR R) (h : fX12_floor w I L D R x0 = some (r, I', L', D', R')) : qc_fm qcSM (I, L, D, R) (I', L', D', R') ∧ qc_V (0) 0 0 qmX12_floor [.double x0] w (I, L, D, R) (qc_eq (some (.double r)) w (I', L', D', R')) := by
  unfold fX12_floor at h
  refine And.imp_right (fun hx => qc_V.of rfl rfl (Nat.le_of_ble_eq_true rfl) (lv := [(0, .double x0)]) rfl hx) ?_
  refine And.imp_right (fun hx => qc_dload_n (qc_at qkX12_floor 0 rfl) rfl <| qc_dconst (qc_at qkX12_floor 1 rfl) <| qc_dcmp (qc_at qkX12_floor 2 rfl) <| hx) ?_
  refine qc_andC (qc_if_eq (qc_at qkX12_floor 3 rfl)) (fun u1 => ?_) (fun u1 => ?_)
  · replace h := qc_jp u1 h
    obtain ⟨rfl, rfl, rfl, rfl, rfl⟩ := qc_some5 h
    exact ⟨qc_fm.rf _, qc_dload_n (qc_at qkX12_floor 12 rfl) rfl <| qc_dret (qc_at qkX12_floor 13 rfl) rfl (Nat.le_refl _) (Nat.le_refl _) (qc_eq.rf _ _ _)⟩
  · replace h := qc_jn u1 h
    refine And.imp_right (fun hx => qc_dload_n (qc_at qkX12_floor 4 rfl) rfl <| qc_ldc2d (qc_at qkX12_floor 5 rfl) <| qc_dcmp (qc_at qkX12_floor 6 rfl) <| hx) ?_
    refine qc_andC (qc_if_ge (qc_at qkX12_floor 7 rfl)) (fun u2 => ?_) (fun u2 => ?_)
    · replace h := qc_jp u2 h
      obtain ⟨rfl, rfl, rfl, rfl, rfl⟩ := qc_some5 h
      exact ⟨qc_fm.rf _, qc_dload_n (qc_at qkX12_floor 12 rfl) rfl <| qc_dret (qc_at qkX12_floor 13 rfl) rfl (Nat.le_refl _) (Nat.le_refl _) (qc_eq.rf _ _ _)⟩
    · replace h := qc_jn u2 h
      refine And.imp_right (fun hx => qc_dload_n (qc_at qkX12_floor 8 rfl) rfl <| qc_ldc2d (qc_at qkX12_floor 9 rfl) <| qc_dcmp (qc_at qkX12_floor 10 rfl) <| hx) ?_
      refine qc_andC (qc_if_gt (qc_at qkX12_floor 11 rfl)) (fun u3 => ?_) (fun u3 => ?_)
      · replace h := qc_jp u3 h
        refine And.imp_right (fun hx => qc_dload_n (qc_at qkX12_floor 14 rfl) rfl <| qc_d2l (qc_at qkX12_floor 15 rfl) <| qc_l2d (qc_at qkX12_floor 16 rfl) <| qc_dstore_n (lv' := [(2, _), (0, _)]) (qc_at qkX12_floor 17 rfl) rfl rfl <| qc_dload_n (qc_at qkX12_floor 18 rfl) rfl <| qc_dload_n (qc_at qkX12_floor 19 rfl) rfl <| qc_dcmp (qc_at qkX12_floor 20 rfl) <| hx) ?_
        refine qc_andC (qc_if_le (qc_at qkX12_floor 21 rfl)) (fun u4 => ?_) (fun u4 => ?_)
        · replace h := qc_jp u4 h
          obtain ⟨rfl, rfl, rfl, rfl, rfl⟩ := qc_some5 h
          exact ⟨qc_fm.rf _, qc_dload_n (qc_at qkX12_floor 26 rfl) rfl <| qc_dret (qc_at qkX12_floor 27 rfl) rfl (Nat.le_refl _) (Nat.le_refl _) (qc_eq.rf _ _ _)⟩
        · replace h := qc_jn u4 h
          refine And.imp_right (fun hx => qc_dload_n (qc_at qkX12_floor 22 rfl) rfl <| qc_dconst (qc_at qkX12_floor 23 rfl) <| hx) ?_
          obtain ⟨g5, h⟩ := qc_gd_of h
          replace g5 := qc_n64_of g5
          obtain ⟨rfl, rfl, rfl, rfl, rfl⟩ := qc_some5 h
          exact ⟨qc_fm.rf _, qc_dsub (qc_at qkX12_floor 24 rfl) g5 <| qc_goto (qc_at qkX12_floor 25 rfl) <| qc_dret (qc_at qkX12_floor 27 rfl) rfl (Nat.le_refl _) (Nat.le_refl _) (qc_eq.rf _ _ _)⟩
      · replace h := qc_jn u3 h
        obtain ⟨rfl, rfl, rfl, rfl, rfl⟩ := qc_some5 h
        exact ⟨qc_fm.rf _, qc_dload_n (qc_at qkX12_floor 12 rfl) rfl <| qc_dret (qc_at qkX12_floor 13 rfl) rfl (Nat.le_refl _) (Nat.le_refl _) (qc_eq.rf _ _ _)⟩
def fX12_nearest_b88 (w : qcW) (I : qTI) (L : qTL) (D : qTD) (R : qTR) (x0 : UInt64) (s0 : UInt64) : qcO UInt64 :=
  (qc_bd (fX12_without w I L D R s0) fun r1 I1 L1 D1 R1 => qc_bd (fX12_isMinus w I1 L1 D1 R1 x0) fun r2 I2 L2 D2 R2 => if r2 = true then (some ((FP.dneg r1), I2, L2, D2, R2)) else (some (r1, I2, L2, D2, R2)))
set_option maxRecDepth 100000 in
set_option maxHeartbeats 4000000 in
theorem tX12_nearest_b88 {w : qcW} {I : qTI} {L : qTL} {D : qTD} {R : qTR} {x0 : UInt64} {s0 : UInt64} {r : UInt64} {I' : qTI} {L' : qTL} {D' : qTD} {R' : qTR} (hn : qcNF ≤ w.1) (hR : qc_FR R) (h : fX12_nearest_b88 w I L D R x0 s0 = some (r, I', L', D', R')) : qc_fm qcSM (I, L, D, R) (I', L', D', R') ∧ qc_X (qc_rm (2) 0 0) qmX12_nearest (qc_QM 0 0 (qc_eq (some (.double r)) w (I', L', D', R'))) 0 0 w (88, [(0, .double x0)], [.double s0], I, L, D, R) := by
  unfold fX12_nearest_b88 at h
  obtain ⟨r1, I1, L1, D1, R1, e1, h⟩ := qc_bd_of h
  have c1 := (tX12_without hn hR e1)
  refine qd_cSv (qc_at qkX12_nearest 49 rfl) ql_12_608 qfX12_without c1 rfl rfl (Nat.le_of_ble_eq_true rfl) (qc_rml (by decide) (by decide)) ⟨Nat.zero_le _, Nat.zero_le _⟩ ?_
  refine And.imp_right (fun hx => qc_dstore (lv' := [(7, _), (0, _)]) (qc_at qkX12_nearest 50 rfl) rfl rfl <| qc_dload_n (qc_at qkX12_nearest 51 rfl) rfl <| hx) ?_
  obtain ⟨r2, I2, L2, D2, R2, e2, h⟩ := qc_bd_of h
  have c2 := (tX12_isMinus hn (c1.1.1 hR) e2)
  refine qd_cSv (qc_at qkX12_nearest 52 rfl) ql_12_592 qfX12_isMinus c2 rfl rfl (Nat.le_of_ble_eq_true rfl) (qc_rml (by decide) (by decide)) ⟨Nat.zero_le _, Nat.zero_le _⟩ ?_
  refine qc_andB (qc_ifB_eq (qc_at qkX12_nearest 53 rfl)) (fun u3 => ?_) (fun u3 => ?_)
  · replace h := qc_jf u3 h
    obtain ⟨rfl, rfl, rfl, rfl, rfl⟩ := qc_some5 h
    exact ⟨qc_fm.rf _, qc_dload (qc_at qkX12_nearest 57 rfl) rfl <| qc_dret (qc_at qkX12_nearest 58 rfl) rfl (Nat.le_refl _) (Nat.le_refl _) (qc_eq.rf _ _ _)⟩
  · replace h := qc_jt u3 h
    obtain ⟨rfl, rfl, rfl, rfl, rfl⟩ := qc_some5 h
    exact ⟨qc_fm.rf _, qc_dload (qc_at qkX12_nearest 54 rfl) rfl <| qc_dneg (qc_at qkX12_nearest 55 rfl) <| qc_goto (qc_at qkX12_nearest 56 rfl) <| qc_dret (qc_at qkX12_nearest 58 rfl) rfl (Nat.le_refl _) (Nat.le_refl _) (qc_eq.rf _ _ _)⟩
def fX12_nearest_b81 (w : qcW) (I : qTI) (L : qTL) (D : qTD) (R : qTR) (x0 : UInt64) (x2 : UInt64) : qcO UInt64 :=
  (fX12_nearest_b88 w I L D R x0 x2)
set_option maxRecDepth 100000 in
set_option maxHeartbeats 4000000 in
theorem tX12_nearest_b81 {w : qcW} {I : qTI} {L : qTL} {D : qTD} {R : qTR} {x0 : UInt64} {x2 : UInt64} {r : UInt64} {I' : qTI} {L' : qTL} {D' : qTD} {R' : qTR} (hn : qcNF ≤ w.1) (hR : qc_FR R) (h : fX12_nearest_b81 w I L D R x0 x2 = some (r, I', L', D', R')) : qc_fm qcSM (I, L, D, R) (I', L', D', R') ∧ qc_X (qc_rm (2) 0 0) qmX12_nearest (qc_QM 0 0 (qc_eq (some (.double r)) w (I', L', D', R'))) 0 0 w (81, [(0, .double x0), (2, .double x2)], [], I, L, D, R) := by
  unfold fX12_nearest_b81 at h
  exact And.imp_right (fun hx => qc_dload_n (qc_at qkX12_nearest 44 rfl) rfl <| qc_goto (qc_at qkX12_nearest 45 rfl) <| qc_sub [0] rfl hx) (tX12_nearest_b88 hn hR h)
def fX12_nearest_b85 (w : qcW) (I : qTI) (L : qTL) (D : qTD) (R : qTR) (x0 : UInt64) (x2 : UInt64) : qcO UInt64 :=
  (qc_gd (qc_n64 (FP.dadd x2 (4607182418800017408 : UInt64))) <| fX12_nearest_b88 w I L D R x0 (FP.dadd x2 (4607182418800017408 : UInt64)))
set_option maxRecDepth 100000 in
set_option maxHeartbeats 4000000 in
theorem tX12_nearest_b85 {w : qcW} {I : qTI} {L : qTL} {D : qTD} {R : qTR} {x0 : UInt64} {x2 : UInt64} {r : UInt64} {I' : qTI} {L' : qTL} {D' : qTD} {R' : qTR} (hn : qcNF ≤ w.1) (hR : qc_FR R) (h : fX12_nearest_b85 w I L D R x0 x2 = some (r, I', L', D', R')) : qc_fm qcSM (I, L, D, R) (I', L', D', R') ∧ qc_X (qc_rm (2) 0 0) qmX12_nearest (qc_QM 0 0 (qc_eq (some (.double r)) w (I', L', D', R'))) 0 0 w (85, [(0, .double x0), (2, .double x2)], [], I, L, D, R) := by
  unfold fX12_nearest_b85 at h
  refine And.imp_right (fun hx => qc_dload_n (qc_at qkX12_nearest 46 rfl) rfl <| qc_dconst (qc_at qkX12_nearest 47 rfl) <| hx) ?_
  obtain ⟨g4, h⟩ := qc_gd_of h
  replace g4 := qc_n64_of g4
  exact And.imp_right (fun hx => qc_dadd (qc_at qkX12_nearest 48 rfl) g4 <| qc_sub [0] rfl hx) (tX12_nearest_b88 hn hR h)
def fX12_nearest_b56 (w : qcW) (I : qTI) (L : qTL) (D : qTD) (R : qTR) (x0 : UInt64) (x2 : UInt64) (x4 : UInt64) (s0 : Int32) : qcO UInt64 :=
  (if (Op.cmpValue (FP.dcmp x4 (4602678819172646912 : UInt64)) .g) < 0 then (fX12_nearest_b81 w I L D R x0 x2) else (if (Op.cmpValue (FP.dcmp x4 (4602678819172646912 : UInt64)) .l) = 0 then (if s0 = 0 then (fX12_nearest_b85 w I L D R x0 x2) else (fX12_nearest_b81 w I L D R x0 x2)) else (fX12_nearest_b85 w I L D R x0 x2)))
set_option maxRecDepth 100000 in
set_option maxHeartbeats 4000000 in
theorem tX12_nearest_b56 {w : qcW} {I : qTI} {L : qTL} {D : qTD} {R : qTR} {x0 : UInt64} {x2 : UInt64} {x4 : UInt64} {s0 : Int32} {r : UInt64} {I' : qTI} {L' : qTL} {D' : qTD} {R' : qTR} (hn : qcNF ≤ w.1) (hR : qc_FR R) (h : fX12_nearest_b56 w I L D R x0 x2 x4 s0 = some (r, I', L', D', R')) : qc_fm qcSM (I, L, D, R) (I', L', D', R') ∧ qc_X (qc_rm (2) 0 0) qmX12_nearest (qc_QM 0 0 (qc_eq (some (.double r)) w (I', L', D', R'))) 0 0 w (56, [(0, .double x0), (2, .double x2), (4, .double x4)], [.int s0], I, L, D, R) := by
  unfold fX12_nearest_b56 at h
  refine And.imp_right (fun hx => qc_istore (lv' := [(6, _), (0, _), (2, _), (4, _)]) (qc_at qkX12_nearest 33 rfl) rfl rfl <| qc_dload (qc_at qkX12_nearest 34 rfl) rfl <| qc_ldc2d (qc_at qkX12_nearest 35 rfl) <| qc_dcmp (qc_at qkX12_nearest 36 rfl) <| hx) ?_
  refine qc_andC (qc_if_lt (qc_at qkX12_nearest 37 rfl)) (fun u5 => ?_) (fun u5 => ?_)
  · replace h := qc_jp u5 h
    exact And.imp_right (fun hx => qc_sub [1, 2] rfl hx) (tX12_nearest_b81 hn hR h)
  · replace h := qc_jn u5 h
    refine And.imp_right (fun hx => qc_dload (qc_at qkX12_nearest 38 rfl) rfl <| qc_ldc2d (qc_at qkX12_nearest 39 rfl) <| qc_dcmp (qc_at qkX12_nearest 40 rfl) <| hx) ?_
    refine qc_andN (qc_if_ne (qc_at qkX12_nearest 41 rfl)) (fun u6 => ?_) (fun u6 => ?_)
    · replace h := qc_jn u6 h
      exact And.imp_right (fun hx => qc_sub [1, 2] rfl hx) (tX12_nearest_b85 hn hR h)
    · replace h := qc_jp u6 h
      refine And.imp_right (fun hx => qc_iload (qc_at qkX12_nearest 42 rfl) rfl <| hx) ?_
      refine qc_andC (qc_if_eq (qc_at qkX12_nearest 43 rfl)) (fun u7 => ?_) (fun u7 => ?_)
      · replace h := qc_jp u7 h
        exact And.imp_right (fun hx => qc_sub [1, 2] rfl hx) (tX12_nearest_b85 hn hR h)
      · replace h := qc_jn u7 h
        exact And.imp_right (fun hx => qc_sub [1, 2] rfl hx) (tX12_nearest_b81 hn hR h)
def fX12_nearest (w : qcW) (I : qTI) (L : qTL) (D : qTD) (R : qTR) (x0 : UInt64) : qcO UInt64 :=
  (if (Op.cmpValue (FP.dcmp x0 (0 : UInt64)) .l) = 0 then (some (x0, I, L, D, R)) else (if 0 ≤ (Op.cmpValue (FP.dcmp x0 (4841369599423283200 : UInt64)) .l) then (some (x0, I, L, D, R)) else (if 0 < (Op.cmpValue (FP.dcmp x0 (14064741636278059008 : UInt64)) .g) then (qc_bd (fX12_floor w I L D R x0) fun r11 I11 L11 D11 R11 => qc_gd (qc_n64 (FP.dsub x0 r11)) <| qc_gd (qc_n64 (FP.ddiv r11 (4611686018427387904 : UInt64))) <| qc_bd (fX12_floor w I11 L11 D11 R11 (FP.ddiv r11 (4611686018427387904 : UInt64))) fun r14 I14 L14 D14 R14 => qc_gd (qc_n64 (FP.dmul (4611686018427387904 : UInt64) r14)) <| if (Op.cmpValue (FP.dcmp (FP.dmul (4611686018427387904 : UInt64) r14) r11) .l) = 0 then (fX12_nearest_b56 w I14 L14 D14 R14 x0 r11 (FP.dsub x0 r11) (1 : Int32)) else (fX12_nearest_b56 w I14 L14 D14 R14 x0 r11 (FP.dsub x0 r11) (0 : Int32))) else (some (x0, I, L, D, R)))))
set_option maxRecDepth 100000 in
set_option maxHeartbeats 4000000 in
theorem tX12_nearest {w : qcW} {I : qTI} {L : qTL} {D : qTD} {R : qTR} {x0 : UInt64} {r : UInt64} {I' : qTI} {L' : qTL} {D' : qTD} {R' : qTR} (hn : qcNF ≤ w.1) (hR : qc_FR R) (h : fX12_nearest w I L D R x0 = some (r, I', L', D', R')) : qc_fm qcSM (I, L, D, R) (I', L', D', R') ∧ qc_V (2) 0 0 qmX12_nearest [.double x0] w (I, L, D, R) (qc_eq (some (.double r)) w (I', L', D', R')) := by
  unfold fX12_nearest at h
  refine And.imp_right (fun hx => qc_V.of rfl rfl (Nat.le_of_ble_eq_true rfl) (lv := [(0, .double x0)]) rfl hx) ?_
  refine And.imp_right (fun hx => qc_dload_n (qc_at qkX12_nearest 0 rfl) rfl <| qc_dconst (qc_at qkX12_nearest 1 rfl) <| qc_dcmp (qc_at qkX12_nearest 2 rfl) <| hx) ?_
  refine qc_andC (qc_if_eq (qc_at qkX12_nearest 3 rfl)) (fun u8 => ?_) (fun u8 => ?_)
  · replace h := qc_jp u8 h
    obtain ⟨rfl, rfl, rfl, rfl, rfl⟩ := qc_some5 h
    exact ⟨qc_fm.rf _, qc_dload_n (qc_at qkX12_nearest 12 rfl) rfl <| qc_dret (qc_at qkX12_nearest 13 rfl) rfl (Nat.le_refl _) (Nat.le_refl _) (qc_eq.rf _ _ _)⟩
  · replace h := qc_jn u8 h
    refine And.imp_right (fun hx => qc_dload_n (qc_at qkX12_nearest 4 rfl) rfl <| qc_ldc2d (qc_at qkX12_nearest 5 rfl) <| qc_dcmp (qc_at qkX12_nearest 6 rfl) <| hx) ?_
    refine qc_andC (qc_if_ge (qc_at qkX12_nearest 7 rfl)) (fun u9 => ?_) (fun u9 => ?_)
    · replace h := qc_jp u9 h
      obtain ⟨rfl, rfl, rfl, rfl, rfl⟩ := qc_some5 h
      exact ⟨qc_fm.rf _, qc_dload_n (qc_at qkX12_nearest 12 rfl) rfl <| qc_dret (qc_at qkX12_nearest 13 rfl) rfl (Nat.le_refl _) (Nat.le_refl _) (qc_eq.rf _ _ _)⟩
    · replace h := qc_jn u9 h
      refine And.imp_right (fun hx => qc_dload_n (qc_at qkX12_nearest 8 rfl) rfl <| qc_ldc2d (qc_at qkX12_nearest 9 rfl) <| qc_dcmp (qc_at qkX12_nearest 10 rfl) <| hx) ?_
      refine qc_andC (qc_if_gt (qc_at qkX12_nearest 11 rfl)) (fun u10 => ?_) (fun u10 => ?_)
      · replace h := qc_jp u10 h
        refine And.imp_right (fun hx => qc_dload_n (qc_at qkX12_nearest 14 rfl) rfl <| hx) ?_
        obtain ⟨r11, I11, L11, D11, R11, e11, h⟩ := qc_bd_of h
        have c11 := (tX12_floor hn hR e11)
        refine qd_cSv (qc_at qkX12_nearest 15 rfl) ql_12_600 qfX12_floor c11 rfl rfl (Nat.le_of_ble_eq_true rfl) (qc_rml (by decide) (by decide)) ⟨Nat.zero_le _, Nat.zero_le _⟩ ?_
        refine And.imp_right (fun hx => qc_dstore_n (lv' := [(2, _), (0, _)]) (qc_at qkX12_nearest 16 rfl) rfl rfl <| qc_dload_n (qc_at qkX12_nearest 17 rfl) rfl <| qc_dload_n (qc_at qkX12_nearest 18 rfl) rfl <| hx) ?_
        obtain ⟨g12, h⟩ := qc_gd_of h
        replace g12 := qc_n64_of g12
        refine And.imp_right (fun hx => qc_dsub (qc_at qkX12_nearest 19 rfl) g12 <| qc_dstore (lv' := [(4, _), (2, _), (0, _)]) (qc_at qkX12_nearest 20 rfl) rfl rfl <| qc_ldc2d (qc_at qkX12_nearest 21 rfl) <| qc_dload_n (qc_at qkX12_nearest 22 rfl) rfl <| qc_ldc2d (qc_at qkX12_nearest 23 rfl) <| hx) ?_
        obtain ⟨g13, h⟩ := qc_gd_of h
        replace g13 := qc_n64_of g13
        refine And.imp_right (fun hx => qc_ddiv (qc_at qkX12_nearest 24 rfl) g13 <| hx) ?_
        obtain ⟨r14, I14, L14, D14, R14, e14, h⟩ := qc_bd_of h
        have c14 := (tX12_floor hn (c11.1.1 hR) e14)
        refine qd_cSv (qc_at qkX12_nearest 25 rfl) ql_12_600 qfX12_floor c14 rfl rfl (Nat.le_of_ble_eq_true rfl) (qc_rml (by decide) (by decide)) ⟨Nat.zero_le _, Nat.zero_le _⟩ ?_
        obtain ⟨g15, h⟩ := qc_gd_of h
        replace g15 := qc_n64_of g15
        refine And.imp_right (fun hx => qc_dmul (qc_at qkX12_nearest 26 rfl) g15 <| qc_dload_n (qc_at qkX12_nearest 27 rfl) rfl <| qc_dcmp (qc_at qkX12_nearest 28 rfl) <| hx) ?_
        refine qc_andN (qc_if_ne (qc_at qkX12_nearest 29 rfl)) (fun u16 => ?_) (fun u16 => ?_)
        · replace h := qc_jn u16 h
          exact And.imp_right (fun hx => qc_iconst (qc_at qkX12_nearest 32 rfl) <| qc_sub [2, 1, 0] rfl hx) (tX12_nearest_b56 hn (c14.1.1 (c11.1.1 hR)) h)
        · replace h := qc_jp u16 h
          exact And.imp_right (fun hx => qc_iconst (qc_at qkX12_nearest 30 rfl) <| qc_goto (qc_at qkX12_nearest 31 rfl) <| qc_sub [2, 1, 0] rfl hx) (tX12_nearest_b56 hn (c14.1.1 (c11.1.1 hR)) h)
      · replace h := qc_jn u10 h
        obtain ⟨rfl, rfl, rfl, rfl, rfl⟩ := qc_some5 h
        exact ⟨qc_fm.rf _, qc_dload_n (qc_at qkX12_nearest 12 rfl) rfl <| qc_dret (qc_at qkX12_nearest 13 rfl) rfl (Nat.le_refl _) (Nat.le_refl _) (qc_eq.rf _ _ _)⟩
def fX12_lesser (w : qcW) (I : qTI) (L : qTL) (D : qTD) (R : qTR) (x0 : UInt64) (x2 : UInt64) : qcO UInt64 :=
  (if 0 ≤ (Op.cmpValue (FP.dcmp x0 x2) .g) then (if 0 ≤ (Op.cmpValue (FP.dcmp x2 x0) .g) then (qc_bd (fX12_isMinus w I L D R x0) fun r3 I3 L3 D3 R3 => if r3 = true then (some (x0, I3, L3, D3, R3)) else (some (x2, I3, L3, D3, R3))) else (some (x2, I, L, D, R))) else (some (x0, I, L, D, R)))
set_option maxRecDepth 100000 in
set_option maxHeartbeats 4000000 in
theorem tX12_lesser {w : qcW} {I : qTI} {L : qTL} {D : qTD} {R : qTR} {x0 : UInt64} {x2 : UInt64} {r : UInt64} {I' : qTI} {L' : qTL} {D' : qTD} {R' : qTR} (hn : qcNF ≤ w.1) (hR : qc_FR R) (h : fX12_lesser w I L D R x0 x2 = some (r, I', L', D', R')) : qc_fm qcSM (I, L, D, R) (I', L', D', R') ∧ qc_V (1) 0 0 qmX12_lesser [.double x0, .double x2] w (I, L, D, R) (qc_eq (some (.double r)) w (I', L', D', R')) := by
  unfold fX12_lesser at h
  refine And.imp_right (fun hx => qc_V.of rfl rfl (Nat.le_of_ble_eq_true rfl) (lv := [(0, .double x0), (2, .double x2)]) rfl hx) ?_
  refine And.imp_right (fun hx => qc_dload_n (qc_at qkX12_lesser 0 rfl) rfl <| qc_dload_n (qc_at qkX12_lesser 1 rfl) rfl <| qc_dcmp (qc_at qkX12_lesser 2 rfl) <| hx) ?_
  refine qc_andC (qc_if_ge (qc_at qkX12_lesser 3 rfl)) (fun u1 => ?_) (fun u1 => ?_)
  · replace h := qc_jp u1 h
    refine And.imp_right (fun hx => qc_dload_n (qc_at qkX12_lesser 6 rfl) rfl <| qc_dload_n (qc_at qkX12_lesser 7 rfl) rfl <| qc_dcmp (qc_at qkX12_lesser 8 rfl) <| hx) ?_
    refine qc_andC (qc_if_ge (qc_at qkX12_lesser 9 rfl)) (fun u2 => ?_) (fun u2 => ?_)
    · replace h := qc_jp u2 h
      refine And.imp_right (fun hx => qc_dload_n (qc_at qkX12_lesser 12 rfl) rfl <| hx) ?_
      obtain ⟨r3, I3, L3, D3, R3, e3, h⟩ := qc_bd_of h
      have c3 := (tX12_isMinus hn hR e3)
      refine qd_cSv (qc_at qkX12_lesser 13 rfl) ql_12_592 qfX12_isMinus c3 rfl rfl (Nat.le_of_ble_eq_true rfl) (qc_rml (by decide) (by decide)) ⟨Nat.zero_le _, Nat.zero_le _⟩ ?_
      refine qc_andB (qc_ifB_eq (qc_at qkX12_lesser 14 rfl)) (fun u4 => ?_) (fun u4 => ?_)
      · replace h := qc_jf u4 h
        obtain ⟨rfl, rfl, rfl, rfl, rfl⟩ := qc_some5 h
        exact ⟨qc_fm.rf _, qc_dload_n (qc_at qkX12_lesser 17 rfl) rfl <| qc_dret (qc_at qkX12_lesser 18 rfl) rfl (Nat.le_refl _) (Nat.le_refl _) (qc_eq.rf _ _ _)⟩
      · replace h := qc_jt u4 h
        obtain ⟨rfl, rfl, rfl, rfl, rfl⟩ := qc_some5 h
        exact ⟨qc_fm.rf _, qc_dload_n (qc_at qkX12_lesser 15 rfl) rfl <| qc_goto (qc_at qkX12_lesser 16 rfl) <| qc_dret (qc_at qkX12_lesser 18 rfl) rfl (Nat.le_refl _) (Nat.le_refl _) (qc_eq.rf _ _ _)⟩
    · replace h := qc_jn u2 h
      obtain ⟨rfl, rfl, rfl, rfl, rfl⟩ := qc_some5 h
      exact ⟨qc_fm.rf _, qc_dload_n (qc_at qkX12_lesser 10 rfl) rfl <| qc_goto (qc_at qkX12_lesser 11 rfl) <| qc_dret (qc_at qkX12_lesser 18 rfl) rfl (Nat.le_refl _) (Nat.le_refl _) (qc_eq.rf _ _ _)⟩
  · replace h := qc_jn u1 h
    obtain ⟨rfl, rfl, rfl, rfl, rfl⟩ := qc_some5 h
    exact ⟨qc_fm.rf _, qc_dload_n (qc_at qkX12_lesser 4 rfl) rfl <| qc_goto (qc_at qkX12_lesser 5 rfl) <| qc_dret (qc_at qkX12_lesser 18 rfl) rfl (Nat.le_refl _) (Nat.le_refl _) (qc_eq.rf _ _ _)⟩
def fX12_greater (w : qcW) (I : qTI) (L : qTL) (D : qTD) (R : qTR) (x0 : UInt64) (x2 : UInt64) : qcO UInt64 :=
  (if (Op.cmpValue (FP.dcmp x0 x2) .l) ≤ 0 then (if (Op.cmpValue (FP.dcmp x2 x0) .l) ≤ 0 then (qc_bd (fX12_isMinus w I L D R x0) fun r3 I3 L3 D3 R3 => if r3 = true then (some (x2, I3, L3, D3, R3)) else (some (x0, I3, L3, D3, R3))) else (some (x2, I, L, D, R))) else (some (x0, I, L, D, R)))
set_option maxRecDepth 100000 in
set_option maxHeartbeats 4000000 in
theorem tX12_greater {w : qcW} {I : qTI} {L : qTL} {D : qTD} {R : qTR} {x0 : UInt64} {x2 : UInt64} {r : UInt64} {I' : qTI} {L' : qTL} {D' : qTD} {R' : qTR} (hn : qcNF ≤ w.1) (hR : qc_FR R) (h : fX12_greater w I L D R x0 x2 = some (r, I', L', D', R')) : qc_fm qcSM (I, L, D, R) (I', L', D', R') ∧ qc_V (1) 0 0 qmX12_greater [.double x0, .double x2] w (I, L, D, R) (qc_eq (some (.double r)) w (I', L', D', R')) := by
  unfold fX12_greater at h
  refine And.imp_right (fun hx => qc_V.of rfl rfl (Nat.le_of_ble_eq_true rfl) (lv := [(0, .double x0), (2, .double x2)]) rfl hx) ?_
  refine And.imp_right (fun hx => qc_dload_n (qc_at qkX12_greater 0 rfl) rfl <| qc_dload_n (qc_at qkX12_greater 1 rfl) rfl <| qc_dcmp (qc_at qkX12_greater 2 rfl) <| hx) ?_
  refine qc_andC (qc_if_le (qc_at qkX12_greater 3 rfl)) (fun u1 => ?_) (fun u1 => ?_)
  · replace h := qc_jp u1 h
    refine And.imp_right (fun hx => qc_dload_n (qc_at qkX12_greater 6 rfl) rfl <| qc_dload_n (qc_at qkX12_greater 7 rfl) rfl <| qc_dcmp (qc_at qkX12_greater 8 rfl) <| hx) ?_
    refine qc_andC (qc_if_le (qc_at qkX12_greater 9 rfl)) (fun u2 => ?_) (fun u2 => ?_)
    · replace h := qc_jp u2 h
      refine And.imp_right (fun hx => qc_dload_n (qc_at qkX12_greater 12 rfl) rfl <| hx) ?_
      obtain ⟨r3, I3, L3, D3, R3, e3, h⟩ := qc_bd_of h
      have c3 := (tX12_isMinus hn hR e3)
      refine qd_cSv (qc_at qkX12_greater 13 rfl) ql_12_592 qfX12_isMinus c3 rfl rfl (Nat.le_of_ble_eq_true rfl) (qc_rml (by decide) (by decide)) ⟨Nat.zero_le _, Nat.zero_le _⟩ ?_
      refine qc_andB (qc_ifB_eq (qc_at qkX12_greater 14 rfl)) (fun u4 => ?_) (fun u4 => ?_)
      · replace h := qc_jf u4 h
        obtain ⟨rfl, rfl, rfl, rfl, rfl⟩ := qc_some5 h
        exact ⟨qc_fm.rf _, qc_dload_n (qc_at qkX12_greater 17 rfl) rfl <| qc_dret (qc_at qkX12_greater 18 rfl) rfl (Nat.le_refl _) (Nat.le_refl _) (qc_eq.rf _ _ _)⟩
      · replace h := qc_jt u4 h
        obtain ⟨rfl, rfl, rfl, rfl, rfl⟩ := qc_some5 h
        exact ⟨qc_fm.rf _, qc_dload_n (qc_at qkX12_greater 15 rfl) rfl <| qc_goto (qc_at qkX12_greater 16 rfl) <| qc_dret (qc_at qkX12_greater 18 rfl) rfl (Nat.le_refl _) (Nat.le_refl _) (qc_eq.rf _ _ _)⟩
    · replace h := qc_jn u2 h
      obtain ⟨rfl, rfl, rfl, rfl, rfl⟩ := qc_some5 h
      exact ⟨qc_fm.rf _, qc_dload_n (qc_at qkX12_greater 10 rfl) rfl <| qc_goto (qc_at qkX12_greater 11 rfl) <| qc_dret (qc_at qkX12_greater 18 rfl) rfl (Nat.le_refl _) (Nat.le_refl _) (qc_eq.rf _ _ _)⟩
  · replace h := qc_jn u1 h
    obtain ⟨rfl, rfl, rfl, rfl, rfl⟩ := qc_some5 h
    exact ⟨qc_fm.rf _, qc_dload_n (qc_at qkX12_greater 4 rfl) rfl <| qc_goto (qc_at qkX12_greater 5 rfl) <| qc_dret (qc_at qkX12_greater 18 rfl) rfl (Nat.le_refl _) (Nat.le_refl _) (qc_eq.rf _ _ _)⟩
def fX12_isNone_b109 (w : qcW) (I : qTI) (L : qTL) (D : qTD) (R : qTR) (x1 : UInt64) (x3 : UInt64) : qcO Bool :=
  (qc_bd (fX12_isEndless w I L D R x1) fun r1 I1 L1 D1 R1 => if r1 = true then (if (Op.cmpValue (FP.dcmp x3 (0 : UInt64)) .l) = 0 then (some (true, I1, L1, D1, R1)) else (some (false, I1, L1, D1, R1))) else (some (false, I1, L1, D1, R1)))
set_option maxRecDepth 100000 in
set_option maxHeartbeats 4000000 in
theorem tX12_isNone_b109 {w : qcW} {I : qTI} {L : qTL} {D : qTD} {R : qTR} {x1 : UInt64} {x3 : UInt64} {r : Bool} {I' : qTI} {L' : qTL} {D' : qTD} {R' : qTR} (hn : qcNF ≤ w.1) (hR : qc_FR R) (h : fX12_isNone_b109 w I L D R x1 x3 = some (r, I', L', D', R')) : qc_fm qcSM (I, L, D, R) (I', L', D', R') ∧ qc_X (qc_rm (1) 0 0) qmX12_isNone (qc_QM 0 0 (qc_eq (some (.int (qc_b r))) w (I', L', D', R'))) 0 0 w (109, [(1, .double x1), (3, .double x3)], [], I, L, D, R) := by
  unfold fX12_isNone_b109 at h
  refine And.imp_right (fun hx => qc_dload_n (qc_at qkX12_isNone 41 rfl) rfl <| hx) ?_
  obtain ⟨r1, I1, L1, D1, R1, e1, h⟩ := qc_bd_of h
  have c1 := (tX12_isEndless hn hR e1)
  refine qd_cSv (qc_at qkX12_isNone 42 rfl) ql_12_611 qfX12_isEndless c1 rfl rfl (Nat.le_of_ble_eq_true rfl) (qc_rml (by decide) (by decide)) ⟨Nat.zero_le _, Nat.zero_le _⟩ ?_
  refine qc_andB (qc_ifB_eq (qc_at qkX12_isNone 43 rfl)) (fun u2 => ?_) (fun u2 => ?_)
  · replace h := qc_jf u2 h
    obtain ⟨rfl, rfl, rfl, rfl, rfl⟩ := qc_some5 h
    exact ⟨qc_fm.rf _, qc_iconst (qc_at qkX12_isNone 50 rfl) <| qc_zret (qc_at qkX12_isNone 51 rfl) rfl (Or.inl rfl) (Nat.le_refl _) (Nat.le_refl _) ⟨rfl, rfl, rfl⟩⟩
  · replace h := qc_jt u2 h
    refine And.imp_right (fun hx => qc_dload_n (qc_at qkX12_isNone 44 rfl) rfl <| qc_dconst (qc_at qkX12_isNone 45 rfl) <| qc_dcmp (qc_at qkX12_isNone 46 rfl) <| hx) ?_
    refine qc_andN (qc_if_ne (qc_at qkX12_isNone 47 rfl)) (fun u3 => ?_) (fun u3 => ?_)
    · replace h := qc_jn u3 h
      obtain ⟨rfl, rfl, rfl, rfl, rfl⟩ := qc_some5 h
      exact ⟨qc_fm.rf _, qc_iconst (qc_at qkX12_isNone 50 rfl) <| qc_zret (qc_at qkX12_isNone 51 rfl) rfl (Or.inl rfl) (Nat.le_refl _) (Nat.le_refl _) ⟨rfl, rfl, rfl⟩⟩
    · replace h := qc_jp u3 h
      obtain ⟨rfl, rfl, rfl, rfl, rfl⟩ := qc_some5 h
      exact ⟨qc_fm.rf _, qc_iconst (qc_at qkX12_isNone 48 rfl) <| qc_goto (qc_at qkX12_isNone 49 rfl) <| qc_zret (qc_at qkX12_isNone 51 rfl) rfl (Or.inr rfl) (Nat.le_refl _) (Nat.le_refl _) ⟨rfl, rfl, rfl⟩⟩
def fX12_isNone_b19 (w : qcW) (I : qTI) (L : qTL) (D : qTD) (R : qTR) (x0 : Int32) (x1 : UInt64) (x3 : UInt64) (s0 : Int32) : qcO Bool :=
  (if x0 = 1 then (if s0 = 0 then (some (false, I, L, D, R)) else (qc_bd (fX12_isMinus w I L D R x1) fun r6 I6 L6 D6 R6 => qc_bd (fX12_isMinus w I6 L6 D6 R6 x3) fun r7 I7 L7 D7 R7 => if (qc_b r6) = (qc_b r7) then (some (false, I7, L7, D7, R7)) else (some (true, I7, L7, D7, R7)))) else if x0 = 2 then (if s0 = 0 then (some (false, I, L, D, R)) else (qc_bd (fX12_isMinus w I L D R x1) fun r11 I11 L11 D11 R11 => qc_bd (fX12_isMinus w I11 L11 D11 R11 x3) fun r12 I12 L12 D12 R12 => if (qc_b r11) = (qc_b r12) then (some (true, I12, L12, D12, R12)) else (some (false, I12, L12, D12, R12)))) else if x0 = 3 then (if (Op.cmpValue (FP.dcmp x1 (0 : UInt64)) .l) = 0 then (qc_bd (fX12_isEndless w I L D R x3) fun r16 I16 L16 D16 R16 => if r16 = true then (some (true, I16, L16, D16, R16)) else (fX12_isNone_b109 w I16 L16 D16 R16 x1 x3)) else (fX12_isNone_b109 w I L D R x1 x3)) else if x0 = 4 then (if s0 = 0 then (if (Op.cmpValue (FP.dcmp x1 (0 : UInt64)) .l) = 0 then (if (Op.cmpValue (FP.dcmp x3 (0 : UInt64)) .l) = 0 then (some (true, I, L, D, R)) else (some (false, I, L, D, R))) else (some (false, I, L, D, R))) else (some (true, I, L, D, R))) else (if (Op.cmpValue (FP.dcmp x3 (0 : UInt64)) .l) = 0 then (some (true, I, L, D, R)) else (qc_bd (fX12_isEndless w I L D R x1) fun r23 I23 L23 D23 R23 => if r23 = true then (some (true, I23, L23, D23, R23)) else (some (false, I23, L23, D23, R23)))))
set_option maxRecDepth 100000 in
set_option maxHeartbeats 4000000 in
theorem tX12_isNone_b19 {w : qcW} {I : qTI} {L : qTL} {D : qTD} {R : qTR} {x0 : Int32} {x1 : UInt64} {x3 : UInt64} {s0 : Int32} {r : Bool} {I' : qTI} {L' : qTL} {D' : qTD} {R' : qTR} (hn : qcNF ≤ w.1) (hR : qc_FR R) (h : fX12_isNone_b19 w I L D R x0 x1 x3 s0 = some (r, I', L', D', R')) : qc_fm qcSM (I, L, D, R) (I', L', D', R') ∧ qc_X (qc_rm (1) 0 0) qmX12_isNone (qc_QM 0 0 (qc_eq (some (.int (qc_b r))) w (I', L', D', R'))) 0 0 w (19, [(0, .int x0), (1, .double x1), (3, .double x3)], [.int s0], I, L, D, R) := by
  unfold fX12_isNone_b19 at h
  refine And.imp_right (fun hx => qc_istore (lv' := [(5, _), (0, _), (1, _), (3, _)]) (qc_at qkX12_isNone 9 rfl) rfl rfl <| qc_iload_n (qc_at qkX12_isNone 10 rfl) rfl <| hx) ?_
  refine qc_by (c := x0 = 1) (fun u4 => ?_) (fun u4 => ?_)
  · refine And.imp_right (fun hx => qc_tabIn (qc_at qkX12_isNone 11 rfl) 0 (by rw [u4]; rfl) (by decide) rfl rfl hx) ?_
    replace h := qc_jp u4 h
    refine And.imp_right (fun hx => qc_iload (qc_at qkX12_isNone 12 rfl) rfl <| hx) ?_
    refine qc_andC (qc_if_eq (qc_at qkX12_isNone 13 rfl)) (fun u5 => ?_) (fun u5 => ?_)
    · replace h := qc_jp u5 h
      obtain ⟨rfl, rfl, rfl, rfl, rfl⟩ := qc_some5 h
      exact ⟨qc_fm.rf _, qc_iconst (qc_at qkX12_isNone 21 rfl) <| qc_zret (qc_at qkX12_isNone 22 rfl) rfl (Or.inl rfl) (Nat.le_refl _) (Nat.le_refl _) ⟨rfl, rfl, rfl⟩⟩
    · replace h := qc_jn u5 h
      refine And.imp_right (fun hx => qc_dload_n (qc_at qkX12_isNone 14 rfl) rfl <| hx) ?_
      obtain ⟨r6, I6, L6, D6, R6, e6, h⟩ := qc_bd_of h
      have c6 := (tX12_isMinus hn hR e6)
      refine qd_cSv (qc_at qkX12_isNone 15 rfl) ql_12_592 qfX12_isMinus c6 rfl rfl (Nat.le_of_ble_eq_true rfl) (qc_rml (by decide) (by decide)) ⟨Nat.zero_le _, Nat.zero_le _⟩ ?_
      refine And.imp_right (fun hx => qc_dload_n (qc_at qkX12_isNone 16 rfl) rfl <| hx) ?_
      obtain ⟨r7, I7, L7, D7, R7, e7, h⟩ := qc_bd_of h
      have c7 := (tX12_isMinus hn (c6.1.1 hR) e7)
      refine qd_cSv (qc_at qkX12_isNone 17 rfl) ql_12_592 qfX12_isMinus c7 rfl rfl (Nat.le_of_ble_eq_true rfl) (qc_rml (by decide) (by decide)) ⟨Nat.zero_le _, Nat.zero_le _⟩ ?_
      refine qc_andC (qc_icmp_eq (qc_at qkX12_isNone 18 rfl)) (fun u8 => ?_) (fun u8 => ?_)
      · replace h := qc_jp u8 h
        obtain ⟨rfl, rfl, rfl, rfl, rfl⟩ := qc_some5 h
        exact ⟨qc_fm.rf _, qc_iconst (qc_at qkX12_isNone 21 rfl) <| qc_zret (qc_at qkX12_isNone 22 rfl) rfl (Or.inl rfl) (Nat.le_refl _) (Nat.le_refl _) ⟨rfl, rfl, rfl⟩⟩
      · replace h := qc_jn u8 h
        obtain ⟨rfl, rfl, rfl, rfl, rfl⟩ := qc_some5 h
        exact ⟨qc_fm.rf _, qc_iconst (qc_at qkX12_isNone 19 rfl) <| qc_goto (qc_at qkX12_isNone 20 rfl) <| qc_zret (qc_at qkX12_isNone 22 rfl) rfl (Or.inr rfl) (Nat.le_refl _) (Nat.le_refl _) ⟨rfl, rfl, rfl⟩⟩
  · replace h := qc_jn u4 h
    refine qc_by (c := x0 = 2) (fun u9 => ?_) (fun u9 => ?_)
    · refine And.imp_right (fun hx => qc_tabIn (qc_at qkX12_isNone 11 rfl) 1 (by rw [u9]; rfl) (by decide) rfl rfl hx) ?_
      replace h := qc_jp u9 h
      refine And.imp_right (fun hx => qc_iload (qc_at qkX12_isNone 23 rfl) rfl <| hx) ?_
      refine qc_andC (qc_if_eq (qc_at qkX12_isNone 24 rfl)) (fun u10 => ?_) (fun u10 => ?_)
      · replace h := qc_jp u10 h
        obtain ⟨rfl, rfl, rfl, rfl, rfl⟩ := qc_some5 h
        exact ⟨qc_fm.rf _, qc_iconst (qc_at qkX12_isNone 32 rfl) <| qc_zret (qc_at qkX12_isNone 33 rfl) rfl (Or.inl rfl) (Nat.le_refl _) (Nat.le_refl _) ⟨rfl, rfl, rfl⟩⟩
      · replace h := qc_jn u10 h
        refine And.imp_right (fun hx => qc_dload_n (qc_at qkX12_isNone 25 rfl) rfl <| hx) ?_
        obtain ⟨r11, I11, L11, D11, R11, e11, h⟩ := qc_bd_of h
        have c11 := (tX12_isMinus hn hR e11)
        refine qd_cSv (qc_at qkX12_isNone 26 rfl) ql_12_592 qfX12_isMinus c11 rfl rfl (Nat.le_of_ble_eq_true rfl) (qc_rml (by decide) (by decide)) ⟨Nat.zero_le _, Nat.zero_le _⟩ ?_
        refine And.imp_right (fun hx => qc_dload_n (qc_at qkX12_isNone 27 rfl) rfl <| hx) ?_
        obtain ⟨r12, I12, L12, D12, R12, e12, h⟩ := qc_bd_of h
        have c12 := (tX12_isMinus hn (c11.1.1 hR) e12)
        refine qd_cSv (qc_at qkX12_isNone 28 rfl) ql_12_592 qfX12_isMinus c12 rfl rfl (Nat.le_of_ble_eq_true rfl) (qc_rml (by decide) (by decide)) ⟨Nat.zero_le _, Nat.zero_le _⟩ ?_
        refine qc_andN (qc_icmp_ne (qc_at qkX12_isNone 29 rfl)) (fun u13 => ?_) (fun u13 => ?_)
        · replace h := qc_jn u13 h
          obtain ⟨rfl, rfl, rfl, rfl, rfl⟩ := qc_some5 h
          exact ⟨qc_fm.rf _, qc_iconst (qc_at qkX12_isNone 32 rfl) <| qc_zret (qc_at qkX12_isNone 33 rfl) rfl (Or.inl rfl) (Nat.le_refl _) (Nat.le_refl _) ⟨rfl, rfl, rfl⟩⟩
        · replace h := qc_jp u13 h
          obtain ⟨rfl, rfl, rfl, rfl, rfl⟩ := qc_some5 h
          exact ⟨qc_fm.rf _, qc_iconst (qc_at qkX12_isNone 30 rfl) <| qc_goto (qc_at qkX12_isNone 31 rfl) <| qc_zret (qc_at qkX12_isNone 33 rfl) rfl (Or.inr rfl) (Nat.le_refl _) (Nat.le_refl _) ⟨rfl, rfl, rfl⟩⟩
    · replace h := qc_jn u9 h
      refine qc_by (c := x0 = 3) (fun u14 => ?_) (fun u14 => ?_)
      · refine And.imp_right (fun hx => qc_tabIn (qc_at qkX12_isNone 11 rfl) 2 (by rw [u14]; rfl) (by decide) rfl rfl hx) ?_
        replace h := qc_jp u14 h
        refine And.imp_right (fun hx => qc_dload_n (qc_at qkX12_isNone 34 rfl) rfl <| qc_dconst (qc_at qkX12_isNone 35 rfl) <| qc_dcmp (qc_at qkX12_isNone 36 rfl) <| hx) ?_
        refine qc_andN (qc_if_ne (qc_at qkX12_isNone 37 rfl)) (fun u15 => ?_) (fun u15 => ?_)
        · replace h := qc_jn u15 h
          exact And.imp_right (fun hx => qc_sub [2, 3] rfl hx) (tX12_isNone_b109 hn hR h)
        · replace h := qc_jp u15 h
          refine And.imp_right (fun hx => qc_dload_n (qc_at qkX12_isNone 38 rfl) rfl <| hx) ?_
          obtain ⟨r16, I16, L16, D16, R16, e16, h⟩ := qc_bd_of h
          have c16 := (tX12_isEndless hn hR e16)
          refine qd_cSv (qc_at qkX12_isNone 39 rfl) ql_12_611 qfX12_isEndless c16 rfl rfl (Nat.le_of_ble_eq_true rfl) (qc_rml (by decide) (by decide)) ⟨Nat.zero_le _, Nat.zero_le _⟩ ?_
          refine qc_andBn (qc_ifB_ne (qc_at qkX12_isNone 40 rfl)) (fun u17 => ?_) (fun u17 => ?_)
          · replace h := qc_jt u17 h
            obtain ⟨rfl, rfl, rfl, rfl, rfl⟩ := qc_some5 h
            exact ⟨qc_fm.rf _, qc_iconst (qc_at qkX12_isNone 48 rfl) <| qc_goto (qc_at qkX12_isNone 49 rfl) <| qc_zret (qc_at qkX12_isNone 51 rfl) rfl (Or.inr rfl) (Nat.le_refl _) (Nat.le_refl _) ⟨rfl, rfl, rfl⟩⟩
          · replace h := qc_jf u17 h
            exact And.imp_right (fun hx => qc_sub [2, 3] rfl hx) (tX12_isNone_b109 hn (c16.1.1 hR) h)
      · replace h := qc_jn u14 h
        refine qc_by (c := x0 = 4) (fun u18 => ?_) (fun u18 => ?_)
        · refine And.imp_right (fun hx => qc_tabIn (qc_at qkX12_isNone 11 rfl) 3 (by rw [u18]; rfl) (by decide) rfl rfl hx) ?_
          replace h := qc_jp u18 h
          refine And.imp_right (fun hx => qc_iload (qc_at qkX12_isNone 52 rfl) rfl <| hx) ?_
          refine qc_andN (qc_if_ne (qc_at qkX12_isNone 53 rfl)) (fun u19 => ?_) (fun u19 => ?_)
          · replace h := qc_jn u19 h
            obtain ⟨rfl, rfl, rfl, rfl, rfl⟩ := qc_some5 h
            exact ⟨qc_fm.rf _, qc_iconst (qc_at qkX12_isNone 62 rfl) <| qc_goto (qc_at qkX12_isNone 63 rfl) <| qc_zret (qc_at qkX12_isNone 65 rfl) rfl (Or.inr rfl) (Nat.le_refl _) (Nat.le_refl _) ⟨rfl, rfl, rfl⟩⟩
          · replace h := qc_jp u19 h
            refine And.imp_right (fun hx => qc_dload_n (qc_at qkX12_isNone 54 rfl) rfl <| qc_dconst (qc_at qkX12_isNone 55 rfl) <| qc_dcmp (qc_at qkX12_isNone 56 rfl) <| hx) ?_
            refine qc_andN (qc_if_ne (qc_at qkX12_isNone 57 rfl)) (fun u20 => ?_) (fun u20 => ?_)
            · replace h := qc_jn u20 h
              obtain ⟨rfl, rfl, rfl, rfl, rfl⟩ := qc_some5 h
              exact ⟨qc_fm.rf _, qc_iconst (qc_at qkX12_isNone 64 rfl) <| qc_zret (qc_at qkX12_isNone 65 rfl) rfl (Or.inl rfl) (Nat.le_refl _) (Nat.le_refl _) ⟨rfl, rfl, rfl⟩⟩
            · replace h := qc_jp u20 h
              refine And.imp_right (fun hx => qc_dload_n (qc_at qkX12_isNone 58 rfl) rfl <| qc_dconst (qc_at qkX12_isNone 59 rfl) <| qc_dcmp (qc_at qkX12_isNone 60 rfl) <| hx) ?_
              refine qc_andN (qc_if_ne (qc_at qkX12_isNone 61 rfl)) (fun u21 => ?_) (fun u21 => ?_)
              · replace h := qc_jn u21 h
                obtain ⟨rfl, rfl, rfl, rfl, rfl⟩ := qc_some5 h
                exact ⟨qc_fm.rf _, qc_iconst (qc_at qkX12_isNone 64 rfl) <| qc_zret (qc_at qkX12_isNone 65 rfl) rfl (Or.inl rfl) (Nat.le_refl _) (Nat.le_refl _) ⟨rfl, rfl, rfl⟩⟩
              · replace h := qc_jp u21 h
                obtain ⟨rfl, rfl, rfl, rfl, rfl⟩ := qc_some5 h
                exact ⟨qc_fm.rf _, qc_iconst (qc_at qkX12_isNone 62 rfl) <| qc_goto (qc_at qkX12_isNone 63 rfl) <| qc_zret (qc_at qkX12_isNone 65 rfl) rfl (Or.inr rfl) (Nat.le_refl _) (Nat.le_refl _) ⟨rfl, rfl, rfl⟩⟩
        · replace h := qc_jn u18 h
          have v4 : ¬ Int32.toInt x0 = 1 := fun z => u4 (qc_i32 z rfl)
          have v9 : ¬ Int32.toInt x0 = 2 := fun z => u9 (qc_i32 z rfl)
          have v14 : ¬ Int32.toInt x0 = 3 := fun z => u14 (qc_i32 z rfl)
          have v18 : ¬ Int32.toInt x0 = 4 := fun z => u18 (qc_i32 z rfl)
          refine And.imp_right (fun hx => qc_tabOut (qc_at qkX12_isNone 11 rfl) (by omega) rfl hx) ?_
          refine And.imp_right (fun hx => qc_dload_n (qc_at qkX12_isNone 66 rfl) rfl <| qc_dconst (qc_at qkX12_isNone 67 rfl) <| qc_dcmp (qc_at qkX12_isNone 68 rfl) <| hx) ?_
          refine qc_andC (qc_if_eq (qc_at qkX12_isNone 69 rfl)) (fun u22 => ?_) (fun u22 => ?_)
          · replace h := qc_jp u22 h
            obtain ⟨rfl, rfl, rfl, rfl, rfl⟩ := qc_some5 h
            exact ⟨qc_fm.rf _, qc_iconst (qc_at qkX12_isNone 73 rfl) <| qc_goto (qc_at qkX12_isNone 74 rfl) <| qc_zret (qc_at qkX12_isNone 76 rfl) rfl (Or.inr rfl) (Nat.le_refl _) (Nat.le_refl _) ⟨rfl, rfl, rfl⟩⟩
          · replace h := qc_jn u22 h
            refine And.imp_right (fun hx => qc_dload_n (qc_at qkX12_isNone 70 rfl) rfl <| hx) ?_
            obtain ⟨r23, I23, L23, D23, R23, e23, h⟩ := qc_bd_of h
            have c23 := (tX12_isEndless hn hR e23)
            refine qd_cSv (qc_at qkX12_isNone 71 rfl) ql_12_611 qfX12_isEndless c23 rfl rfl (Nat.le_of_ble_eq_true rfl) (qc_rml (by decide) (by decide)) ⟨Nat.zero_le _, Nat.zero_le _⟩ ?_
            refine qc_andB (qc_ifB_eq (qc_at qkX12_isNone 72 rfl)) (fun u24 => ?_) (fun u24 => ?_)
            · replace h := qc_jf u24 h
              obtain ⟨rfl, rfl, rfl, rfl, rfl⟩ := qc_some5 h
              exact ⟨qc_fm.rf _, qc_iconst (qc_at qkX12_isNone 75 rfl) <| qc_zret (qc_at qkX12_isNone 76 rfl) rfl (Or.inl rfl) (Nat.le_refl _) (Nat.le_refl _) ⟨rfl, rfl, rfl⟩⟩
            · replace h := qc_jt u24 h
              obtain ⟨rfl, rfl, rfl, rfl, rfl⟩ := qc_some5 h
              exact ⟨qc_fm.rf _, qc_iconst (qc_at qkX12_isNone 73 rfl) <| qc_goto (qc_at qkX12_isNone 74 rfl) <| qc_zret (qc_at qkX12_isNone 76 rfl) rfl (Or.inr rfl) (Nat.le_refl _) (Nat.le_refl _) ⟨rfl, rfl, rfl⟩⟩
def fX12_isNone_b18 (w : qcW) (I : qTI) (L : qTL) (D : qTD) (R : qTR) (x0 : Int32) (x1 : UInt64) (x3 : UInt64) : qcO Bool :=
  (fX12_isNone_b19 w I L D R x0 x1 x3 (0 : Int32))
set_option maxRecDepth 100000 in
set_option maxHeartbeats 4000000 in
theorem tX12_isNone_b18 {w : qcW} {I : qTI} {L : qTL} {D : qTD} {R : qTR} {x0 : Int32} {x1 : UInt64} {x3 : UInt64} {r : Bool} {I' : qTI} {L' : qTL} {D' : qTD} {R' : qTR} (hn : qcNF ≤ w.1) (hR : qc_FR R) (h : fX12_isNone_b18 w I L D R x0 x1 x3 = some (r, I', L', D', R')) : qc_fm qcSM (I, L, D, R) (I', L', D', R') ∧ qc_X (qc_rm (1) 0 0) qmX12_isNone (qc_QM 0 0 (qc_eq (some (.int (qc_b r))) w (I', L', D', R'))) 0 0 w (18, [(0, .int x0), (1, .double x1), (3, .double x3)], [], I, L, D, R) := by
  unfold fX12_isNone_b18 at h
  exact And.imp_right (fun hx => qc_iconst (qc_at qkX12_isNone 8 rfl) <| qc_sub [0, 1, 2] rfl hx) (tX12_isNone_b19 hn hR h)
def fX12_isNone (w : qcW) (I : qTI) (L : qTL) (D : qTD) (R : qTR) (x0 : Int32) (x1 : UInt64) (x3 : UInt64) : qcO Bool :=
  (qc_bd (fX12_isEndless w I L D R x1) fun r25 I25 L25 D25 R25 => if r25 = true then (qc_bd (fX12_isEndless w I25 L25 D25 R25 x3) fun r27 I27 L27 D27 R27 => if r27 = true then (fX12_isNone_b19 w I27 L27 D27 R27 x0 x1 x3 (1 : Int32)) else (fX12_isNone_b18 w I27 L27 D27 R27 x0 x1 x3)) else (fX12_isNone_b18 w I25 L25 D25 R25 x0 x1 x3))
set_option maxRecDepth 100000 in
set_option maxHeartbeats 4000000 in
theorem tX12_isNone {w : qcW} {I : qTI} {L : qTL} {D : qTD} {R : qTR} {x0 : Int32} {x1 : UInt64} {x3 : UInt64} {r : Bool} {I' : qTI} {L' : qTL} {D' : qTD} {R' : qTR} (hn : qcNF ≤ w.1) (hR : qc_FR R) (h : fX12_isNone w I L D R x0 x1 x3 = some (r, I', L', D', R')) : qc_fm qcSM (I, L, D, R) (I', L', D', R') ∧ qc_V (1) 0 0 qmX12_isNone [.int x0, .double x1, .double x3] w (I, L, D, R) (qc_eq (some (.int (qc_b r))) w (I', L', D', R')) := by
  unfold fX12_isNone at h
  refine And.imp_right (fun hx => qc_V.of rfl rfl (Nat.le_of_ble_eq_true rfl) (lv := [(0, .int x0), (1, .double x1), (3, .double x3)]) rfl hx) ?_
  refine And.imp_right (fun hx => qc_dload_n (qc_at qkX12_isNone 0 rfl) rfl <| hx) ?_
  obtain ⟨r25, I25, L25, D25, R25, e25, h⟩ := qc_bd_of h
  have c25 := (tX12_isEndless hn hR e25)
  refine qd_cSv (qc_at qkX12_isNone 1 rfl) ql_12_611 qfX12_isEndless c25 rfl rfl (Nat.le_of_ble_eq_true rfl) (qc_rml (by decide) (by decide)) ⟨Nat.zero_le _, Nat.zero_le _⟩ ?_
  refine qc_andB (qc_ifB_eq (qc_at qkX12_isNone 2 rfl)) (fun u26 => ?_) (fun u26 => ?_)
  · replace h := qc_jf u26 h
    exact And.imp_right (fun hx => qc_sub [0, 1, 2] rfl hx) (tX12_isNone_b18 hn (c25.1.1 hR) h)
  · replace h := qc_jt u26 h
    refine And.imp_right (fun hx => qc_dload_n (qc_at qkX12_isNone 3 rfl) rfl <| hx) ?_
    obtain ⟨r27, I27, L27, D27, R27, e27, h⟩ := qc_bd_of h
    have c27 := (tX12_isEndless hn (c25.1.1 hR) e27)
    refine qd_cSv (qc_at qkX12_isNone 4 rfl) ql_12_611 qfX12_isEndless c27 rfl rfl (Nat.le_of_ble_eq_true rfl) (qc_rml (by decide) (by decide)) ⟨Nat.zero_le _, Nat.zero_le _⟩ ?_
    refine qc_andB (qc_ifB_eq (qc_at qkX12_isNone 5 rfl)) (fun u28 => ?_) (fun u28 => ?_)
    · replace h := qc_jf u28 h
      exact And.imp_right (fun hx => qc_sub [0, 1, 2] rfl hx) (tX12_isNone_b18 hn (c27.1.1 (c25.1.1 hR)) h)
    · replace h := qc_jt u28 h
      exact And.imp_right (fun hx => qc_iconst (qc_at qkX12_isNone 6 rfl) <| qc_goto (qc_at qkX12_isNone 7 rfl) <| qc_sub [0, 1, 2] rfl hx) (tX12_isNone_b19 hn (c27.1.1 (c25.1.1 hR)) h)
def fX12_lays (w : qcW) (I : qTI) (L : qTL) (D : qTD) (R : qTR) (x1 : Int64) : qcO Unit :=
  (qc_gd (qc_inb (I 291 67) 32) <| some ((), (qc_u I 291 67 ((I 291 67) + (1 : Int32))), (qc_u L 328 (Int32.toNatClampNeg (I 291 67)) x1), D, R))
set_option maxRecDepth 100000 in
set_option maxHeartbeats 4000000 in
theorem tX12_lays {w : qcW} {I : qTI} {L : qTL} {D : qTD} {R : qTR} {x1 : Int64} {r : Unit} {I' : qTI} {L' : qTL} {D' : qTD} {R' : qTR} (hn : qcNF ≤ w.1) (hR : qc_FR R) (h : fX12_lays w I L D R x1 = some (r, I', L', D', R')) : qc_fm qcSM (I, L, D, R) (I', L', D', R') ∧ qc_V (0) 0 0 qmX12_lays [.ref 291, .long x1] w (I, L, D, R) (qc_eq none w (I', L', D', R')) := by
  unfold fX12_lays at h
  refine And.imp_right (fun hx => qc_V.of rfl rfl (Nat.le_of_ble_eq_true rfl) (lv := [(0, .ref 291), (1, .long x1)]) rfl hx) ?_
  refine And.imp_right (fun hx => qc_aload_n (qc_at qkX12_lays 0 rfl) rfl <| qc_gR (qc_at qkX12_lays 1 rfl) hn rfl (qfr_291_65 hR) rfl <| qc_aload_n (qc_at qkX12_lays 2 rfl) rfl <| qc_gI (qc_at qkX12_lays 3 rfl) hn rfl <| qc_lload_n (qc_at qkX12_lays 4 rfl) rfl <| hx) ?_
  obtain ⟨g1, h⟩ := qc_gd_of h
  refine qd_last 32 (qc_at qkX12_lays 5 rfl) hn rfl (qc_inb_in g1) rfl ?_
  refine And.imp_right (fun hx => qc_aload_n (qc_at qkX12_lays 6 rfl) rfl <| qc_dup (qc_at qkX12_lays 7 rfl) rfl <| qc_gI (qc_at qkX12_lays 8 rfl) hn rfl <| qc_iconst (qc_at qkX12_lays 9 rfl) <| qc_iadd (qc_at qkX12_lays 10 rfl) <| hx) (qd_pI (qc_at qkX12_lays 11 rfl) hn rfl rfl ?_)
  obtain ⟨rfl, rfl, rfl, rfl, rfl⟩ := qc_some5 h
  exact ⟨qc_fm.rf _, qc_vret (qc_at qkX12_lays 12 rfl) rfl (Nat.le_refl _) (Nat.le_refl _) (qc_eq.rf _ _ _)⟩
def fX12_laysReal (w : qcW) (I : qTI) (L : qTL) (D : qTD) (R : qTR) (x1 : UInt64) : qcO Unit :=
  (qc_gd (qc_inb (I 291 67) 32) <| some ((), (qc_u I 291 67 ((I 291 67) + (1 : Int32))), L, (qc_u D 329 (Int32.toNatClampNeg (I 291 67)) x1), R))
set_option maxRecDepth 100000 in
set_option maxHeartbeats 4000000 in
theorem tX12_laysReal {w : qcW} {I : qTI} {L : qTL} {D : qTD} {R : qTR} {x1 : UInt64} {r : Unit} {I' : qTI} {L' : qTL} {D' : qTD} {R' : qTR} (hn : qcNF ≤ w.1) (hR : qc_FR R) (h : fX12_laysReal w I L D R x1 = some (r, I', L', D', R')) : qc_fm qcSM (I, L, D, R) (I', L', D', R') ∧ qc_V (0) 0 0 qmX12_laysReal [.ref 291, .double x1] w (I, L, D, R) (qc_eq none w (I', L', D', R')) := by
  unfold fX12_laysReal at h
  refine And.imp_right (fun hx => qc_V.of rfl rfl (Nat.le_of_ble_eq_true rfl) (lv := [(0, .ref 291), (1, .double x1)]) rfl hx) ?_
  refine And.imp_right (fun hx => qc_aload_n (qc_at qkX12_laysReal 0 rfl) rfl <| qc_gR (qc_at qkX12_laysReal 1 rfl) hn rfl (qfr_291_66 hR) rfl <| qc_aload_n (qc_at qkX12_laysReal 2 rfl) rfl <| qc_gI (qc_at qkX12_laysReal 3 rfl) hn rfl <| qc_dload_n (qc_at qkX12_laysReal 4 rfl) rfl <| hx) ?_
  obtain ⟨g1, h⟩ := qc_gd_of h
  refine qd_dast 32 (qc_at qkX12_laysReal 5 rfl) hn rfl (qc_inb_in g1) rfl ?_
  refine And.imp_right (fun hx => qc_aload_n (qc_at qkX12_laysReal 6 rfl) rfl <| qc_dup (qc_at qkX12_laysReal 7 rfl) rfl <| qc_gI (qc_at qkX12_laysReal 8 rfl) hn rfl <| qc_iconst (qc_at qkX12_laysReal 9 rfl) <| qc_iadd (qc_at qkX12_laysReal 10 rfl) <| hx) (qd_pI (qc_at qkX12_laysReal 11 rfl) hn rfl rfl ?_)
  obtain ⟨rfl, rfl, rfl, rfl, rfl⟩ := qc_some5 h
  exact ⟨qc_fm.rf _, qc_vret (qc_at qkX12_laysReal 12 rfl) rfl (Nat.le_refl _) (Nat.le_refl _) (qc_eq.rf _ _ _)⟩
def fX12_cellAt_b90 (w : qcW) (I : qTI) (L : qTL) (D : qTD) (R : qTR) (x3 : Int64) (x5 : Int32) : qcO Int32 :=
  (if (I 291 69) ≤ 0 then (some ((((16 : Int32) * x5) + (Int64.toInt32 x3)), I, L, D, R)) else (some ((-1 : Int32), I, L, D, R)))
set_option maxRecDepth 100000 in
set_option maxHeartbeats 4000000 in
theorem tX12_cellAt_b90 {w : qcW} {I : qTI} {L : qTL} {D : qTD} {R : qTR} {x3 : Int64} {x5 : Int32} {r : Int32} {I' : qTI} {L' : qTL} {D' : qTD} {R' : qTR} (hn : qcNF ≤ w.1) (hR : qc_FR R) (h : fX12_cellAt_b90 w I L D R x3 x5 = some (r, I', L', D', R')) : qc_fm qcSM (I, L, D, R) (I', L', D', R') ∧ qc_X (qc_rm (1) 0 0) qmX12_cellAt (qc_QM 0 0 (qc_eq (some (.int r)) w (I', L', D', R'))) 0 0 w (90, [(0, .ref 291), (3, .long x3), (5, .int x5)], [], I, L, D, R) := by
  unfold fX12_cellAt_b90 at h
  refine And.imp_right (fun hx => qc_aload_n (qc_at qkX12_cellAt 51 rfl) rfl <| qc_gI (qc_at qkX12_cellAt 52 rfl) hn rfl <| hx) ?_
  refine qc_andC (qc_if_le (qc_at qkX12_cellAt 53 rfl)) (fun u1 => ?_) (fun u1 => ?_)
  · replace h := qc_jp u1 h
    obtain ⟨rfl, rfl, rfl, rfl, rfl⟩ := qc_some5 h
    exact ⟨qc_fm.rf _, qc_bipush (qc_at qkX12_cellAt 56 rfl) <| qc_iload (qc_at qkX12_cellAt 57 rfl) rfl <| qc_imul (qc_at qkX12_cellAt 58 rfl) <| qc_lload_n (qc_at qkX12_cellAt 59 rfl) rfl <| qc_l2i (qc_at qkX12_cellAt 60 rfl) <| qc_iadd (qc_at qkX12_cellAt 61 rfl) <| qc_iret (qc_at qkX12_cellAt 62 rfl) rfl (Nat.le_refl _) (Nat.le_refl _) (qc_eq.rf _ _ _)⟩
  · replace h := qc_jn u1 h
    obtain ⟨rfl, rfl, rfl, rfl, rfl⟩ := qc_some5 h
    exact ⟨qc_fm.rf _, qc_iconst (qc_at qkX12_cellAt 54 rfl) <| qc_goto (qc_at qkX12_cellAt 55 rfl) <| qc_iret (qc_at qkX12_cellAt 62 rfl) rfl (Nat.le_refl _) (Nat.le_refl _) (qc_eq.rf _ _ _)⟩
def fX12_cellAt_b53 (w : qcW) (I : qTI) (L : qTL) (D : qTD) (R : qTR) (x3 : Int64) (x5 : Int32) : qcO Int32 :=
  (if x5 = (-1 : Int32) then (fX12_cellAt_b90 w (qc_u I 291 69 (1 : Int32)) L D R x3 x5) else (qc_gd (qc_inb x5 11) <| qc_bd (fX12_in w I L D R x3 (0 : Int64) (Int32.toInt64 ((I 294 (Int32.toNatClampNeg x5)) - (1 : Int32)))) fun r4 I4 L4 D4 R4 => if r4 = true then (fX12_cellAt_b90 w I4 L4 D4 R4 x3 x5) else (fX12_cellAt_b90 w (qc_u I4 291 69 (2 : Int32)) L4 D4 R4 x3 x5)))
set_option maxRecDepth 100000 in
set_option maxHeartbeats 4000000 in
theorem tX12_cellAt_b53 {w : qcW} {I : qTI} {L : qTL} {D : qTD} {R : qTR} {x3 : Int64} {x5 : Int32} {r : Int32} {I' : qTI} {L' : qTL} {D' : qTD} {R' : qTR} (hn : qcNF ≤ w.1) (hR : qc_FR R) (h : fX12_cellAt_b53 w I L D R x3 x5 = some (r, I', L', D', R')) : qc_fm qcSM (I, L, D, R) (I', L', D', R') ∧ qc_X (qc_rm (1) 0 0) qmX12_cellAt (qc_QM 0 0 (qc_eq (some (.int r)) w (I', L', D', R'))) 0 0 w (53, [(0, .ref 291), (3, .long x3), (5, .int x5)], [], I, L, D, R) := by
  unfold fX12_cellAt_b53 at h
  refine And.imp_right (fun hx => qc_iload (qc_at qkX12_cellAt 30 rfl) rfl <| qc_iconst (qc_at qkX12_cellAt 31 rfl) <| hx) ?_
  refine qc_andN (qc_icmp_ne (qc_at qkX12_cellAt 32 rfl)) (fun u2 => ?_) (fun u2 => ?_)
  · replace h := qc_jn u2 h
    refine And.imp_right (fun hx => qc_lload_n (qc_at qkX12_cellAt 37 rfl) rfl <| qc_lconst (qc_at qkX12_cellAt 38 rfl) <| qc_aload_n (qc_at qkX12_cellAt 39 rfl) rfl <| qc_gR (qc_at qkX12_cellAt 40 rfl) hn rfl (qfr_291_3 hR) rfl <| qc_iload (qc_at qkX12_cellAt 41 rfl) rfl <| hx) ?_
    obtain ⟨g3, h⟩ := qc_gd_of h
    refine And.imp_right (fun hx => qc_iald 11 (qc_at qkX12_cellAt 42 rfl) hn rfl (qc_inb_in g3) <| qc_iconst (qc_at qkX12_cellAt 43 rfl) <| qc_isub (qc_at qkX12_cellAt 44 rfl) <| qc_i2l (qc_at qkX12_cellAt 45 rfl) <| hx) ?_
    obtain ⟨r4, I4, L4, D4, R4, e4, h⟩ := qc_bd_of h
    have c4 := (tX12_in hn hR e4)
    refine qd_cSv (qc_at qkX12_cellAt 46 rfl) ql_12_162 qfX12_in c4 rfl rfl (Nat.le_of_ble_eq_true rfl) (qc_rml (by decide) (by decide)) ⟨Nat.zero_le _, Nat.zero_le _⟩ ?_
    refine qc_andBn (qc_ifB_ne (qc_at qkX12_cellAt 47 rfl)) (fun u5 => ?_) (fun u5 => ?_)
    · replace h := qc_jt u5 h
      exact And.imp_right (fun hx => qc_sub [0, 1, 2] rfl hx) (tX12_cellAt_b90 hn (c4.1.1 hR) h)
    · replace h := qc_jf u5 h
      refine And.imp_right (fun hx => qc_aload_n (qc_at qkX12_cellAt 48 rfl) rfl <| qc_iconst (qc_at qkX12_cellAt 49 rfl) <| hx) (qd_pI (qc_at qkX12_cellAt 50 rfl) hn rfl rfl ?_)
      exact And.imp_right (fun hx => qc_sub [0, 1, 2] rfl hx) (tX12_cellAt_b90 hn (c4.1.1 hR) h)
  · replace h := qc_jp u2 h
    refine And.imp_right (fun hx => qc_aload_n (qc_at qkX12_cellAt 33 rfl) rfl <| qc_iconst (qc_at qkX12_cellAt 34 rfl) <| hx) (qd_pI (qc_at qkX12_cellAt 35 rfl) hn rfl rfl ?_)
    exact And.imp_right (fun hx => qc_goto (qc_at qkX12_cellAt 36 rfl) <| qc_sub [0, 1, 2] rfl hx) (tX12_cellAt_b90 hn hR h)
def fX12_cellAt (w : qcW) (I : qTI) (L : qTL) (D : qTD) (R : qTR) (x1 : Int32) (x2 : Int32) : qcO Int32 :=
  (qc_gd (qc_inb ((qc_u I 291 67 ((I 291 67) - (1 : Int32))) 291 67) 32) <| qc_gd (qc_inb x1 10) <| if ((qc_u I 291 67 ((I 291 67) - (1 : Int32))) 292 (Int32.toNatClampNeg x1)) = (-1 : Int32) then (fX12_cellAt_b53 w (qc_u I 291 67 ((I 291 67) - (1 : Int32))) L D R (L 328 (Int32.toNatClampNeg ((qc_u I 291 67 ((I 291 67) - (1 : Int32))) 291 67))) ((qc_u I 291 67 ((I 291 67) - (1 : Int32))) 292 (Int32.toNatClampNeg x1))) else (qc_gd (qc_inb ((qc_u I 291 67 ((I 291 67) - (1 : Int32))) 292 (Int32.toNatClampNeg x1)) 11) <| if ((qc_u I 291 67 ((I 291 67) - (1 : Int32))) 293 (Int32.toNatClampNeg ((qc_u I 291 67 ((I 291 67) - (1 : Int32))) 292 (Int32.toNatClampNeg x1)))) = x2 then (fX12_cellAt_b53 w (qc_u I 291 67 ((I 291 67) - (1 : Int32))) L D R (L 328 (Int32.toNatClampNeg ((qc_u I 291 67 ((I 291 67) - (1 : Int32))) 291 67))) ((qc_u I 291 67 ((I 291 67) - (1 : Int32))) 292 (Int32.toNatClampNeg x1))) else (fX12_cellAt_b90 w (qc_u (qc_u I 291 67 ((I 291 67) - (1 : Int32))) 291 69 (3 : Int32)) L D R (L 328 (Int32.toNatClampNeg ((qc_u I 291 67 ((I 291 67) - (1 : Int32))) 291 67))) ((qc_u I 291 67 ((I 291 67) - (1 : Int32))) 292 (Int32.toNatClampNeg x1)))))
set_option maxRecDepth 100000 in
set_option maxHeartbeats 4000000 in
theorem tX12_cellAt {w : qcW} {I : qTI} {L : qTL} {D : qTD} {R : qTR} {x1 : Int32} {x2 : Int32} {r : Int32} {I' : qTI} {L' : qTL} {D' : qTD} {R' : qTR} (hn : qcNF ≤ w.1) (hR : qc_FR R) (h : fX12_cellAt w I L D R x1 x2 = some (r, I', L', D', R')) : qc_fm qcSM (I, L, D, R) (I', L', D', R') ∧ qc_V (1) 0 0 qmX12_cellAt [.ref 291, .int x1, .int x2] w (I, L, D, R) (qc_eq (some (.int r)) w (I', L', D', R')) := by
  unfold fX12_cellAt at h
  refine And.imp_right (fun hx => qc_V.of rfl rfl (Nat.le_of_ble_eq_true rfl) (lv := [(0, .ref 291), (1, .int x1), (2, .int x2)]) rfl hx) ?_
  refine And.imp_right (fun hx => qc_aload_n (qc_at qkX12_cellAt 0 rfl) rfl <| qc_dup (qc_at qkX12_cellAt 1 rfl) rfl <| qc_gI (qc_at qkX12_cellAt 2 rfl) hn rfl <| qc_iconst (qc_at qkX12_cellAt 3 rfl) <| qc_isub (qc_at qkX12_cellAt 4 rfl) <| hx) (qd_pI (qc_at qkX12_cellAt 5 rfl) hn rfl rfl ?_)
  refine And.imp_right (fun hx => qc_aload_n (qc_at qkX12_cellAt 6 rfl) rfl <| qc_gR (qc_at qkX12_cellAt 7 rfl) hn rfl (qfr_291_65 hR) rfl <| qc_aload_n (qc_at qkX12_cellAt 8 rfl) rfl <| qc_gI (qc_at qkX12_cellAt 9 rfl) hn rfl <| hx) ?_
  obtain ⟨g6, h⟩ := qc_gd_of h
  refine And.imp_right (fun hx => qc_lald 32 (qc_at qkX12_cellAt 10 rfl) hn rfl (qc_inb_in g6) <| qc_lstore_n (lv' := [(3, _), (0, _), (1, _), (2, _)]) (qc_at qkX12_cellAt 11 rfl) rfl rfl <| qc_aload_n (qc_at qkX12_cellAt 12 rfl) rfl <| qc_gR (qc_at qkX12_cellAt 13 rfl) hn rfl (qfr_291_1 hR) rfl <| qc_iload_n (qc_at qkX12_cellAt 14 rfl) rfl <| hx) ?_
  obtain ⟨g7, h⟩ := qc_gd_of h
  refine And.imp_right (fun hx => qc_iald 10 (qc_at qkX12_cellAt 15 rfl) hn rfl (qc_inb_in g7) <| qc_istore (lv' := [(5, _), (3, _), (0, _), (1, _), (2, _)]) (qc_at qkX12_cellAt 16 rfl) rfl rfl <| qc_iload (qc_at qkX12_cellAt 17 rfl) rfl <| qc_iconst (qc_at qkX12_cellAt 18 rfl) <| hx) ?_
  refine qc_andC (qc_icmp_eq (qc_at qkX12_cellAt 19 rfl)) (fun u8 => ?_) (fun u8 => ?_)
  · replace h := qc_jp u8 h
    exact And.imp_right (fun hx => qc_sub [2, 1, 0] rfl hx) (tX12_cellAt_b53 hn hR h)
  · replace h := qc_jn u8 h
    refine And.imp_right (fun hx => qc_aload_n (qc_at qkX12_cellAt 20 rfl) rfl <| qc_gR (qc_at qkX12_cellAt 21 rfl) hn rfl (qfr_291_2 hR) rfl <| qc_iload (qc_at qkX12_cellAt 22 rfl) rfl <| hx) ?_
    obtain ⟨g9, h⟩ := qc_gd_of h
    refine And.imp_right (fun hx => qc_iald 11 (qc_at qkX12_cellAt 23 rfl) hn rfl (qc_inb_in g9) <| qc_iload_n (qc_at qkX12_cellAt 24 rfl) rfl <| hx) ?_
    refine qc_andC (qc_icmp_eq (qc_at qkX12_cellAt 25 rfl)) (fun u10 => ?_) (fun u10 => ?_)
    · replace h := qc_jp u10 h
      exact And.imp_right (fun hx => qc_sub [2, 1, 0] rfl hx) (tX12_cellAt_b53 hn hR h)
    · replace h := qc_jn u10 h
      refine And.imp_right (fun hx => qc_aload_n (qc_at qkX12_cellAt 26 rfl) rfl <| qc_iconst (qc_at qkX12_cellAt 27 rfl) <| hx) (qd_pI (qc_at qkX12_cellAt 28 rfl) hn rfl rfl ?_)
      exact And.imp_right (fun hx => qc_goto (qc_at qkX12_cellAt 29 rfl) <| qc_sub [2, 1, 0] rfl hx) (tX12_cellAt_b90 hn hR h)
def fX12_loads (w : qcW) (I : qTI) (L : qTL) (D : qTD) (R : qTR) (x1 : Int32) (x2 : Int32) : qcO Unit :=
  (qc_bd (fX12_cellAt w I L D R x2 x1) fun r1 I1 L1 D1 R1 => if (I1 291 69) ≤ 0 then (if x1 ≤ (5 : Int32) then (qc_gd (qc_inb r1 176) <| qc_bd (fX12_lays w I1 L1 D1 R1 (L1 295 (Int32.toNatClampNeg r1))) fun r5 I5 L5 D5 R5 => some ((), I5, L5, D5, R5)) else (qc_gd (qc_inb r1 176) <| qc_bd (fX12_laysReal w I1 L1 D1 R1 (D1 296 (Int32.toNatClampNeg r1))) fun r7 I7 L7 D7 R7 => some ((), I7, L7, D7, R7))) else (some ((), I1, L1, D1, R1)))
set_option maxRecDepth 100000 in
set_option maxHeartbeats 4000000 in
theorem tX12_loads {w : qcW} {I : qTI} {L : qTL} {D : qTD} {R : qTR} {x1 : Int32} {x2 : Int32} {r : Unit} {I' : qTI} {L' : qTL} {D' : qTD} {R' : qTR} (hn : qcNF ≤ w.1) (hR : qc_FR R) (h : fX12_loads w I L D R x1 x2 = some (r, I', L', D', R')) : qc_fm qcSM (I, L, D, R) (I', L', D', R') ∧ qc_V (2) 0 0 qmX12_loads [.ref 291, .int x1, .int x2] w (I, L, D, R) (qc_eq none w (I', L', D', R')) := by
  unfold fX12_loads at h
  refine And.imp_right (fun hx => qc_V.of rfl rfl (Nat.le_of_ble_eq_true rfl) (lv := [(0, .ref 291), (1, .int x1), (2, .int x2)]) rfl hx) ?_
  refine And.imp_right (fun hx => qc_aload_n (qc_at qkX12_loads 0 rfl) rfl <| qc_iload_n (qc_at qkX12_loads 1 rfl) rfl <| qc_iload_n (qc_at qkX12_loads 2 rfl) rfl <| hx) ?_
  obtain ⟨r1, I1, L1, D1, R1, e1, h⟩ := qc_bd_of h
  have c1 := (tX12_cellAt hn hR e1)
  refine qd_cVv (ci := 10) (a0 := 291) (qc_at qkX12_loads 3 rfl) ql_12_620 qfX12_cellAt (qc_kf hn rfl) rfl c1 rfl rfl (Nat.le_of_ble_eq_true rfl) (qc_rml (by decide) (by decide)) ⟨Nat.zero_le _, Nat.zero_le _⟩ ?_
  refine And.imp_right (fun hx => qc_istore_n (lv' := [(3, _), (0, _), (1, _), (2, _)]) (qc_at qkX12_loads 4 rfl) rfl rfl <| qc_aload_n (qc_at qkX12_loads 5 rfl) rfl <| qc_gI (qc_at qkX12_loads 6 rfl) hn rfl <| hx) ?_
  refine qc_andC (qc_if_le (qc_at qkX12_loads 7 rfl)) (fun u2 => ?_) (fun u2 => ?_)
  · replace h := qc_jp u2 h
    refine And.imp_right (fun hx => qc_iload_n (qc_at qkX12_loads 9 rfl) rfl <| qc_iconst (qc_at qkX12_loads 10 rfl) <| hx) ?_
    refine qc_andC (qc_icmp_le (qc_at qkX12_loads 11 rfl)) (fun u3 => ?_) (fun u3 => ?_)
    · replace h := qc_jp u3 h
      refine And.imp_right (fun hx => qc_aload_n (qc_at qkX12_loads 19 rfl) rfl <| qc_aload_n (qc_at qkX12_loads 20 rfl) rfl <| qc_gR (qc_at qkX12_loads 21 rfl) hn rfl (qfr_291_4 (c1.1.1 hR)) rfl <| qc_iload_n (qc_at qkX12_loads 22 rfl) rfl <| hx) ?_
      obtain ⟨g4, h⟩ := qc_gd_of h
      refine And.imp_right (fun hx => qc_lald 176 (qc_at qkX12_loads 23 rfl) hn rfl (qc_inb_in g4) <| hx) ?_
      obtain ⟨r5, I5, L5, D5, R5, e5, h⟩ := qc_bd_of h
      have c5 := (tX12_lays hn (c1.1.1 hR) e5)
      refine qd_cVn (ci := 10) (a0 := 291) (qc_at qkX12_loads 24 rfl) ql_12_627 qfX12_lays (qc_kf hn rfl) rfl c5 rfl rfl (Nat.le_of_ble_eq_true rfl) (qc_rml (by decide) (by decide)) ⟨Nat.zero_le _, Nat.zero_le _⟩ ?_
      obtain ⟨rfl, rfl, rfl, rfl, rfl⟩ := qc_some5 h
      exact ⟨qc_fm.rf _, qc_vret (qc_at qkX12_loads 25 rfl) rfl (Nat.le_refl _) (Nat.le_refl _) (qc_eq.rf _ _ _)⟩
    · replace h := qc_jn u3 h
      refine And.imp_right (fun hx => qc_aload_n (qc_at qkX12_loads 12 rfl) rfl <| qc_aload_n (qc_at qkX12_loads 13 rfl) rfl <| qc_gR (qc_at qkX12_loads 14 rfl) hn rfl (qfr_291_5 (c1.1.1 hR)) rfl <| qc_iload_n (qc_at qkX12_loads 15 rfl) rfl <| hx) ?_
      obtain ⟨g6, h⟩ := qc_gd_of h
      refine And.imp_right (fun hx => qc_dald 176 (qc_at qkX12_loads 16 rfl) hn rfl (qc_inb_in g6) <| hx) ?_
      obtain ⟨r7, I7, L7, D7, R7, e7, h⟩ := qc_bd_of h
      have c7 := (tX12_laysReal hn (c1.1.1 hR) e7)
      refine qd_cVn (ci := 10) (a0 := 291) (qc_at qkX12_loads 17 rfl) ql_12_623 qfX12_laysReal (qc_kf hn rfl) rfl c7 rfl rfl (Nat.le_of_ble_eq_true rfl) (qc_rml (by decide) (by decide)) ⟨Nat.zero_le _, Nat.zero_le _⟩ ?_
      obtain ⟨rfl, rfl, rfl, rfl, rfl⟩ := qc_some5 h
      exact ⟨qc_fm.rf _, qc_goto (qc_at qkX12_loads 18 rfl) <| qc_vret (qc_at qkX12_loads 25 rfl) rfl (Nat.le_refl _) (Nat.le_refl _) (qc_eq.rf _ _ _)⟩
  · replace h := qc_jn u2 h
    obtain ⟨rfl, rfl, rfl, rfl, rfl⟩ := qc_some5 h
    exact ⟨qc_fm.rf _, qc_vret (qc_at qkX12_loads 8 rfl) rfl (Nat.le_refl _) (Nat.le_refl _) (qc_eq.rf _ _ _)⟩
def fX12_stores (w : qcW) (I : qTI) (L : qTL) (D : qTD) (R : qTR) (x1 : Int32) (x2 : Int32) : qcO Unit :=
  (qc_gd (qc_inb ((qc_u I 291 67 ((I 291 67) - (1 : Int32))) 291 67) 32) <| qc_gd (qc_inb ((qc_u I 291 67 ((I 291 67) - (1 : Int32))) 291 67) 32) <| qc_bd (fX12_cellAt w (qc_u I 291 67 ((I 291 67) - (1 : Int32))) L D R x2 x1) fun r3 I3 L3 D3 R3 => if (I3 291 69) ≤ 0 then (qc_gd (qc_inb (I3 291 73) 16) <| qc_gd (qc_inb r3 176) <| qc_gd (qc_inb ((qc_u I3 330 (Int32.toNatClampNeg (I3 291 73)) r3) 291 73) 16) <| qc_gd (qc_inb r3 176) <| qc_gd (qc_inb ((qc_u I3 330 (Int32.toNatClampNeg (I3 291 73)) r3) 291 73) 16) <| if x1 ≤ (5 : Int32) then (qc_gd (qc_inb r3 176) <| some ((), (qc_u (qc_u I3 330 (Int32.toNatClampNeg (I3 291 73)) r3) 291 73 (((qc_u I3 330 (Int32.toNatClampNeg (I3 291 73)) r3) 291 73) + (1 : Int32))), (qc_u (qc_u L3 331 (Int32.toNatClampNeg ((qc_u I3 330 (Int32.toNatClampNeg (I3 291 73)) r3) 291 73)) (L3 295 (Int32.toNatClampNeg r3))) 295 (Int32.toNatClampNeg r3) (L 328 (Int32.toNatClampNeg ((qc_u I 291 67 ((I 291 67) - (1 : Int32))) 291 67)))), (qc_u D3 332 (Int32.toNatClampNeg ((qc_u I3 330 (Int32.toNatClampNeg (I3 291 73)) r3) 291 73)) (D3 296 (Int32.toNatClampNeg r3))), R3)) else (qc_gd (qc_inb r3 176) <| some ((), (qc_u (qc_u I3 330 (Int32.toNatClampNeg (I3 291 73)) r3) 291 73 (((qc_u I3 330 (Int32.toNatClampNeg (I3 291 73)) r3) 291 73) + (1 : Int32))), (qc_u L3 331 (Int32.toNatClampNeg ((qc_u I3 330 (Int32.toNatClampNeg (I3 291 73)) r3) 291 73)) (L3 295 (Int32.toNatClampNeg r3))), (qc_u (qc_u D3 332 (Int32.toNatClampNeg ((qc_u I3 330 (Int32.toNatClampNeg (I3 291 73)) r3) 291 73)) (D3 296 (Int32.toNatClampNeg r3))) 296 (Int32.toNatClampNeg r3) (D 329 (Int32.toNatClampNeg ((qc_u I 291 67 ((I 291 67) - (1 : Int32))) 291 67)))), R3))) else (some ((), I3, L3, D3, R3)))
set_option maxRecDepth 100000 in
set_option maxHeartbeats 4000000 in
theorem tX12_stores {w : qcW} {I : qTI} {L : qTL} {D : qTD} {R : qTR} {x1 : Int32} {x2 : Int32} {r : Unit} {I' : qTI} {L' : qTL} {D' : qTD} {R' : qTR} (hn : qcNF ≤ w.1) (hR : qc_FR R) (h : fX12_stores w I L D R x1 x2 = some (r, I', L', D', R')) : qc_fm qcSM (I, L, D, R) (I', L', D', R') ∧ qc_V (2) 0 0 qmX12_stores [.ref 291, .int x1, .int x2] w (I, L, D, R) (qc_eq none w (I', L', D', R')) := by
  unfold fX12_stores at h
  refine And.imp_right (fun hx => qc_V.of rfl rfl (Nat.le_of_ble_eq_true rfl) (lv := [(0, .ref 291), (1, .int x1), (2, .int x2)]) rfl hx) ?_
  refine And.imp_right (fun hx => qc_aload_n (qc_at qkX12_stores 0 rfl) rfl <| qc_dup (qc_at qkX12_stores 1 rfl) rfl <| qc_gI (qc_at qkX12_stores 2 rfl) hn rfl <| qc_iconst (qc_at qkX12_stores 3 rfl) <| qc_isub (qc_at qkX12_stores 4 rfl) <| hx) (qd_pI (qc_at qkX12_stores 5 rfl) hn rfl rfl ?_)
  refine And.imp_right (fun hx => qc_aload_n (qc_at qkX12_stores 6 rfl) rfl <| qc_gR (qc_at qkX12_stores 7 rfl) hn rfl (qfr_291_65 hR) rfl <| qc_aload_n (qc_at qkX12_stores 8 rfl) rfl <| qc_gI (qc_at qkX12_stores 9 rfl) hn rfl <| hx) ?_
  obtain ⟨g1, h⟩ := qc_gd_of h
  refine And.imp_right (fun hx => qc_lald 32 (qc_at qkX12_stores 10 rfl) hn rfl (qc_inb_in g1) <| qc_lstore_n (lv' := [(3, _), (0, _), (1, _), (2, _)]) (qc_at qkX12_stores 11 rfl) rfl rfl <| qc_aload_n (qc_at qkX12_stores 12 rfl) rfl <| qc_gR (qc_at qkX12_stores 13 rfl) hn rfl (qfr_291_66 hR) rfl <| qc_aload_n (qc_at qkX12_stores 14 rfl) rfl <| qc_gI (qc_at qkX12_stores 15 rfl) hn rfl <| hx) ?_
  obtain ⟨g2, h⟩ := qc_gd_of h
  refine And.imp_right (fun hx => qc_dald 32 (qc_at qkX12_stores 16 rfl) hn rfl (qc_inb_in g2) <| qc_dstore (lv' := [(5, _), (3, _), (0, _), (1, _), (2, _)]) (qc_at qkX12_stores 17 rfl) rfl rfl <| qc_aload_n (qc_at qkX12_stores 18 rfl) rfl <| qc_iload_n (qc_at qkX12_stores 19 rfl) rfl <| qc_iload_n (qc_at qkX12_stores 20 rfl) rfl <| hx) ?_
  obtain ⟨r3, I3, L3, D3, R3, e3, h⟩ := qc_bd_of h
  have c3 := (tX12_cellAt hn hR e3)
  refine qd_cVv (ci := 10) (a0 := 291) (qc_at qkX12_stores 21 rfl) ql_12_620 qfX12_cellAt (qc_kf hn rfl) rfl c3 rfl rfl (Nat.le_of_ble_eq_true rfl) (qc_rml (by decide) (by decide)) ⟨Nat.zero_le _, Nat.zero_le _⟩ ?_
  refine And.imp_right (fun hx => qc_istore (lv' := [(7, _), (5, _), (3, _), (0, _), (1, _), (2, _)]) (qc_at qkX12_stores 22 rfl) rfl rfl <| qc_aload_n (qc_at qkX12_stores 23 rfl) rfl <| qc_gI (qc_at qkX12_stores 24 rfl) hn rfl <| hx) ?_
  refine qc_andC (qc_if_le (qc_at qkX12_stores 25 rfl)) (fun u4 => ?_) (fun u4 => ?_)
  · replace h := qc_jp u4 h
    refine And.imp_right (fun hx => qc_aload_n (qc_at qkX12_stores 27 rfl) rfl <| qc_gR (qc_at qkX12_stores 28 rfl) hn rfl (qfr_291_74 (c3.1.1 hR)) rfl <| qc_aload_n (qc_at qkX12_stores 29 rfl) rfl <| qc_gI (qc_at qkX12_stores 30 rfl) hn rfl <| qc_iload (qc_at qkX12_stores 31 rfl) rfl <| hx) ?_
    obtain ⟨g5, h⟩ := qc_gd_of h
    refine qd_iast 16 (qc_at qkX12_stores 32 rfl) hn rfl (qc_inb_in g5) rfl ?_
    refine And.imp_right (fun hx => qc_aload_n (qc_at qkX12_stores 33 rfl) rfl <| qc_gR (qc_at qkX12_stores 34 rfl) hn rfl (qfr_291_75 (c3.1.1 hR)) rfl <| qc_aload_n (qc_at qkX12_stores 35 rfl) rfl <| qc_gI (qc_at qkX12_stores 36 rfl) hn rfl <| qc_aload_n (qc_at qkX12_stores 37 rfl) rfl <| qc_gR (qc_at qkX12_stores 38 rfl) hn rfl (qfr_291_4 (c3.1.1 hR)) rfl <| qc_iload (qc_at qkX12_stores 39 rfl) rfl <| hx) ?_
    obtain ⟨g6, h⟩ := qc_gd_of h
    refine And.imp_right (fun hx => qc_lald 176 (qc_at qkX12_stores 40 rfl) hn rfl (qc_inb_in g6) <| hx) ?_
    obtain ⟨g7, h⟩ := qc_gd_of h
    refine qd_last 16 (qc_at qkX12_stores 41 rfl) hn rfl (qc_inb_in g7) rfl ?_
    refine And.imp_right (fun hx => qc_aload_n (qc_at qkX12_stores 42 rfl) rfl <| qc_gR (qc_at qkX12_stores 43 rfl) hn rfl (qfr_291_76 (c3.1.1 hR)) rfl <| qc_aload_n (qc_at qkX12_stores 44 rfl) rfl <| qc_gI (qc_at qkX12_stores 45 rfl) hn rfl <| qc_aload_n (qc_at qkX12_stores 46 rfl) rfl <| qc_gR (qc_at qkX12_stores 47 rfl) hn rfl (qfr_291_5 (c3.1.1 hR)) rfl <| qc_iload (qc_at qkX12_stores 48 rfl) rfl <| hx) ?_
    obtain ⟨g8, h⟩ := qc_gd_of h
    refine And.imp_right (fun hx => qc_dald 176 (qc_at qkX12_stores 49 rfl) hn rfl (qc_inb_in g8) <| hx) ?_
    obtain ⟨g9, h⟩ := qc_gd_of h
    refine qd_dast 16 (qc_at qkX12_stores 50 rfl) hn rfl (qc_inb_in g9) rfl ?_
    refine And.imp_right (fun hx => qc_aload_n (qc_at qkX12_stores 51 rfl) rfl <| qc_dup (qc_at qkX12_stores 52 rfl) rfl <| qc_gI (qc_at qkX12_stores 53 rfl) hn rfl <| qc_iconst (qc_at qkX12_stores 54 rfl) <| qc_iadd (qc_at qkX12_stores 55 rfl) <| hx) (qd_pI (qc_at qkX12_stores 56 rfl) hn rfl rfl ?_)
    refine And.imp_right (fun hx => qc_iload_n (qc_at qkX12_stores 57 rfl) rfl <| qc_iconst (qc_at qkX12_stores 58 rfl) <| hx) ?_
    refine qc_andC (qc_icmp_le (qc_at qkX12_stores 59 rfl)) (fun u10 => ?_) (fun u10 => ?_)
    · replace h := qc_jp u10 h
      refine And.imp_right (fun hx => qc_aload_n (qc_at qkX12_stores 66 rfl) rfl <| qc_gR (qc_at qkX12_stores 67 rfl) hn rfl (qfr_291_4 (c3.1.1 hR)) rfl <| qc_iload (qc_at qkX12_stores 68 rfl) rfl <| qc_lload_n (qc_at qkX12_stores 69 rfl) rfl <| hx) ?_
      obtain ⟨g11, h⟩ := qc_gd_of h
      refine qd_last 176 (qc_at qkX12_stores 70 rfl) hn rfl (qc_inb_in g11) rfl ?_
      obtain ⟨rfl, rfl, rfl, rfl, rfl⟩ := qc_some5 h
      exact ⟨qc_fm.rf _, qc_vret (qc_at qkX12_stores 71 rfl) rfl (Nat.le_refl _) (Nat.le_refl _) (qc_eq.rf _ _ _)⟩
    · replace h := qc_jn u10 h
      refine And.imp_right (fun hx => qc_aload_n (qc_at qkX12_stores 60 rfl) rfl <| qc_gR (qc_at qkX12_stores 61 rfl) hn rfl (qfr_291_5 (c3.1.1 hR)) rfl <| qc_iload (qc_at qkX12_stores 62 rfl) rfl <| qc_dload (qc_at qkX12_stores 63 rfl) rfl <| hx) ?_
      obtain ⟨g12, h⟩ := qc_gd_of h
      refine qd_dast 176 (qc_at qkX12_stores 64 rfl) hn rfl (qc_inb_in g12) rfl ?_
      obtain ⟨rfl, rfl, rfl, rfl, rfl⟩ := qc_some5 h
      exact ⟨qc_fm.rf _, qc_goto (qc_at qkX12_stores 65 rfl) <| qc_vret (qc_at qkX12_stores 71 rfl) rfl (Nat.le_refl _) (Nat.le_refl _) (qc_eq.rf _ _ _)⟩
  · replace h := qc_jn u4 h
    obtain ⟨rfl, rfl, rfl, rfl, rfl⟩ := qc_some5 h
    exact ⟨qc_fm.rf _, qc_vret (qc_at qkX12_stores 26 rfl) rfl (Nat.le_refl _) (Nat.le_refl _) (qc_eq.rf _ _ _)⟩
def fX12_reckoned (w : qcW) (I : qTI) (L : qTL) (D : qTD) (R : qTR) (x0 : Int32) (x1 : Int64) (x3 : Int64) : qcO Int64 :=
  (if x0 = 1 then (some ((x1 + x3), I, L, D, R)) else if x0 = 2 then (some ((x1 - x3), I, L, D, R)) else if x0 = 3 then (some ((x1 * x3), I, L, D, R)) else if x0 = 4 then (qc_gd (qc_nz x3) <| some ((x1 / x3), I, L, D, R)) else if x0 = 5 then (qc_gd (qc_nz x3) <| some ((x1 - x1 / x3 * x3), I, L, D, R)) else if x0 = 6 then (some ((x1 &&& x3), I, L, D, R)) else if x0 = 7 then (some ((x1 ||| x3), I, L, D, R)) else (some ((x1 ^^^ x3), I, L, D, R)))
set_option maxRecDepth 100000 in
set_option maxHeartbeats 4000000 in
theorem tX12_reckoned {w : qcW} {I : qTI} {L : qTL} {D : qTD} {R : qTR} {x0 : Int32} {x1 : Int64} {x3 : Int64} {r : Int64} {I' : qTI} {L' : qTL} {D' : qTD} {R' : qTR} (hn : qcNF ≤ w.1) (hR : qc_FR R) (h : fX12_reckoned w I L D R x0 x1 x3 = some (r, I', L', D', R')) : qc_fm qcSM (I, L, D, R) (I', L', D', R') ∧ qc_V (0) 0 0 qmX12_reckoned [.int x0, .long x1, .long x3] w (I, L, D, R) (qc_eq (some (.long r)) w (I', L', D', R')) := by
  unfold fX12_reckoned at h
  refine And.imp_right (fun hx => qc_V.of rfl rfl (Nat.le_of_ble_eq_true rfl) (lv := [(0, .int x0), (1, .long x1), (3, .long x3)]) rfl hx) ?_
  refine And.imp_right (fun hx => qc_iload_n (qc_at qkX12_reckoned 0 rfl) rfl <| hx) ?_
  refine qc_by (c := x0 = 1) (fun u1 => ?_) (fun u1 => ?_)
  · refine And.imp_right (fun hx => qc_tabIn (qc_at qkX12_reckoned 1 rfl) 0 (by rw [u1]; rfl) (by decide) rfl rfl hx) ?_
    replace h := qc_jp u1 h
    obtain ⟨rfl, rfl, rfl, rfl, rfl⟩ := qc_some5 h
    exact ⟨qc_fm.rf _, qc_lload_n (qc_at qkX12_reckoned 2 rfl) rfl <| qc_lload_n (qc_at qkX12_reckoned 3 rfl) rfl <| qc_ladd (qc_at qkX12_reckoned 4 rfl) <| qc_lret (qc_at qkX12_reckoned 5 rfl) rfl (Nat.le_refl _) (Nat.le_refl _) (qc_eq.rf _ _ _)⟩
  · replace h := qc_jn u1 h
    refine qc_by (c := x0 = 2) (fun u2 => ?_) (fun u2 => ?_)
    · refine And.imp_right (fun hx => qc_tabIn (qc_at qkX12_reckoned 1 rfl) 1 (by rw [u2]; rfl) (by decide) rfl rfl hx) ?_
      replace h := qc_jp u2 h
      obtain ⟨rfl, rfl, rfl, rfl, rfl⟩ := qc_some5 h
      exact ⟨qc_fm.rf _, qc_lload_n (qc_at qkX12_reckoned 6 rfl) rfl <| qc_lload_n (qc_at qkX12_reckoned 7 rfl) rfl <| qc_lsub (qc_at qkX12_reckoned 8 rfl) <| qc_lret (qc_at qkX12_reckoned 9 rfl) rfl (Nat.le_refl _) (Nat.le_refl _) (qc_eq.rf _ _ _)⟩
    · replace h := qc_jn u2 h
      refine qc_by (c := x0 = 3) (fun u3 => ?_) (fun u3 => ?_)
      · refine And.imp_right (fun hx => qc_tabIn (qc_at qkX12_reckoned 1 rfl) 2 (by rw [u3]; rfl) (by decide) rfl rfl hx) ?_
        replace h := qc_jp u3 h
        obtain ⟨rfl, rfl, rfl, rfl, rfl⟩ := qc_some5 h
        exact ⟨qc_fm.rf _, qc_lload_n (qc_at qkX12_reckoned 10 rfl) rfl <| qc_lload_n (qc_at qkX12_reckoned 11 rfl) rfl <| qc_lmul (qc_at qkX12_reckoned 12 rfl) <| qc_lret (qc_at qkX12_reckoned 13 rfl) rfl (Nat.le_refl _) (Nat.le_refl _) (qc_eq.rf _ _ _)⟩
      · replace h := qc_jn u3 h
        refine qc_by (c := x0 = 4) (fun u4 => ?_) (fun u4 => ?_)
        · refine And.imp_right (fun hx => qc_tabIn (qc_at qkX12_reckoned 1 rfl) 3 (by rw [u4]; rfl) (by decide) rfl rfl hx) ?_
          replace h := qc_jp u4 h
          refine And.imp_right (fun hx => qc_lload_n (qc_at qkX12_reckoned 14 rfl) rfl <| qc_lload_n (qc_at qkX12_reckoned 15 rfl) rfl <| hx) ?_
          obtain ⟨g5, h⟩ := qc_gd_of h
          replace g5 := qc_nz_of g5
          obtain ⟨rfl, rfl, rfl, rfl, rfl⟩ := qc_some5 h
          exact ⟨qc_fm.rf _, qc_ldiv (qc_at qkX12_reckoned 16 rfl) g5 <| qc_lret (qc_at qkX12_reckoned 17 rfl) rfl (Nat.le_refl _) (Nat.le_refl _) (qc_eq.rf _ _ _)⟩
        · replace h := qc_jn u4 h
          refine qc_by (c := x0 = 5) (fun u6 => ?_) (fun u6 => ?_)
          · refine And.imp_right (fun hx => qc_tabIn (qc_at qkX12_reckoned 1 rfl) 4 (by rw [u6]; rfl) (by decide) rfl rfl hx) ?_
            replace h := qc_jp u6 h
            refine And.imp_right (fun hx => qc_lload_n (qc_at qkX12_reckoned 18 rfl) rfl <| qc_lload_n (qc_at qkX12_reckoned 19 rfl) rfl <| hx) ?_
            obtain ⟨g7, h⟩ := qc_gd_of h
            replace g7 := qc_nz_of g7
            obtain ⟨rfl, rfl, rfl, rfl, rfl⟩ := qc_some5 h
            exact ⟨qc_fm.rf _, qc_lrem (qc_at qkX12_reckoned 20 rfl) g7 <| qc_lret (qc_at qkX12_reckoned 21 rfl) rfl (Nat.le_refl _) (Nat.le_refl _) (qc_eq.rf _ _ _)⟩
          · replace h := qc_jn u6 h
            refine qc_by (c := x0 = 6) (fun u8 => ?_) (fun u8 => ?_)
            · refine And.imp_right (fun hx => qc_tabIn (qc_at qkX12_reckoned 1 rfl) 5 (by rw [u8]; rfl) (by decide) rfl rfl hx) ?_
              replace h := qc_jp u8 h
              obtain ⟨rfl, rfl, rfl, rfl, rfl⟩ := qc_some5 h
              exact ⟨qc_fm.rf _, qc_lload_n (qc_at qkX12_reckoned 22 rfl) rfl <| qc_lload_n (qc_at qkX12_reckoned 23 rfl) rfl <| qc_land (qc_at qkX12_reckoned 24 rfl) <| qc_lret (qc_at qkX12_reckoned 25 rfl) rfl (Nat.le_refl _) (Nat.le_refl _) (qc_eq.rf _ _ _)⟩
            · replace h := qc_jn u8 h
              refine qc_by (c := x0 = 7) (fun u9 => ?_) (fun u9 => ?_)
              · refine And.imp_right (fun hx => qc_tabIn (qc_at qkX12_reckoned 1 rfl) 6 (by rw [u9]; rfl) (by decide) rfl rfl hx) ?_
                replace h := qc_jp u9 h
                obtain ⟨rfl, rfl, rfl, rfl, rfl⟩ := qc_some5 h
                exact ⟨qc_fm.rf _, qc_lload_n (qc_at qkX12_reckoned 26 rfl) rfl <| qc_lload_n (qc_at qkX12_reckoned 27 rfl) rfl <| qc_lor (qc_at qkX12_reckoned 28 rfl) <| qc_lret (qc_at qkX12_reckoned 29 rfl) rfl (Nat.le_refl _) (Nat.le_refl _) (qc_eq.rf _ _ _)⟩
              · replace h := qc_jn u9 h
                have v1 : ¬ Int32.toInt x0 = 1 := fun z => u1 (qc_i32 z rfl)
                have v2 : ¬ Int32.toInt x0 = 2 := fun z => u2 (qc_i32 z rfl)
                have v3 : ¬ Int32.toInt x0 = 3 := fun z => u3 (qc_i32 z rfl)
                have v4 : ¬ Int32.toInt x0 = 4 := fun z => u4 (qc_i32 z rfl)
                have v6 : ¬ Int32.toInt x0 = 5 := fun z => u6 (qc_i32 z rfl)
                have v8 : ¬ Int32.toInt x0 = 6 := fun z => u8 (qc_i32 z rfl)
                have v9 : ¬ Int32.toInt x0 = 7 := fun z => u9 (qc_i32 z rfl)
                refine And.imp_right (fun hx => qc_tabOut (qc_at qkX12_reckoned 1 rfl) (by omega) rfl hx) ?_
                obtain ⟨rfl, rfl, rfl, rfl, rfl⟩ := qc_some5 h
                exact ⟨qc_fm.rf _, qc_lload_n (qc_at qkX12_reckoned 30 rfl) rfl <| qc_lload_n (qc_at qkX12_reckoned 31 rfl) rfl <| qc_lxor (qc_at qkX12_reckoned 32 rfl) <| qc_lret (qc_at qkX12_reckoned 33 rfl) rfl (Nat.le_refl _) (Nat.le_refl _) (qc_eq.rf _ _ _)⟩
def fX12_reckonedReal (w : qcW) (I : qTI) (L : qTL) (D : qTD) (R : qTR) (x0 : Int32) (x1 : UInt64) (x3 : UInt64) : qcO UInt64 :=
  (if x0 = (1 : Int32) then (qc_gd (qc_n64 (FP.dadd x1 x3)) <| some ((FP.dadd x1 x3), I, L, D, R)) else (if x0 = (2 : Int32) then (qc_gd (qc_n64 (FP.dsub x1 x3)) <| some ((FP.dsub x1 x3), I, L, D, R)) else (if x0 = (3 : Int32) then (qc_gd (qc_n64 (FP.dmul x1 x3)) <| some ((FP.dmul x1 x3), I, L, D, R)) else (if x0 = (4 : Int32) then (qc_gd (qc_n64 (FP.ddiv x1 x3)) <| some ((FP.ddiv x1 x3), I, L, D, R)) else (qc_gd (qc_n64 (FP.drem x1 x3)) <| some ((FP.drem x1 x3), I, L, D, R))))))
set_option maxRecDepth 100000 in
set_option maxHeartbeats 4000000 in
theorem tX12_reckonedReal {w : qcW} {I : qTI} {L : qTL} {D : qTD} {R : qTR} {x0 : Int32} {x1 : UInt64} {x3 : UInt64} {r : UInt64} {I' : qTI} {L' : qTL} {D' : qTD} {R' : qTR} (hn : qcNF ≤ w.1) (hR : qc_FR R) (h : fX12_reckonedReal w I L D R x0 x1 x3 = some (r, I', L', D', R')) : qc_fm qcSM (I, L, D, R) (I', L', D', R') ∧ qc_V (0) 0 0 qmX12_reckonedReal [.int x0, .double x1, .double x3] w (I, L, D, R) (qc_eq (some (.double r)) w (I', L', D', R')) := by
  unfold fX12_reckonedReal at h
  refine And.imp_right (fun hx => qc_V.of rfl rfl (Nat.le_of_ble_eq_true rfl) (lv := [(0, .int x0), (1, .double x1), (3, .double x3)]) rfl hx) ?_
  refine And.imp_right (fun hx => qc_iload_n (qc_at qkX12_reckonedReal 0 rfl) rfl <| qc_iconst (qc_at qkX12_reckonedReal 1 rfl) <| hx) ?_
  refine qc_andN (qc_icmp_ne (qc_at qkX12_reckonedReal 2 rfl)) (fun u1 => ?_) (fun u1 => ?_)
  · replace h := qc_jn u1 h
    refine And.imp_right (fun hx => qc_iload_n (qc_at qkX12_reckonedReal 7 rfl) rfl <| qc_iconst (qc_at qkX12_reckonedReal 8 rfl) <| hx) ?_
    refine qc_andN (qc_icmp_ne (qc_at qkX12_reckonedReal 9 rfl)) (fun u2 => ?_) (fun u2 => ?_)
    · replace h := qc_jn u2 h
      refine And.imp_right (fun hx => qc_iload_n (qc_at qkX12_reckonedReal 14 rfl) rfl <| qc_iconst (qc_at qkX12_reckonedReal 15 rfl) <| hx) ?_
      refine qc_andN (qc_icmp_ne (qc_at qkX12_reckonedReal 16 rfl)) (fun u3 => ?_) (fun u3 => ?_)
      · replace h := qc_jn u3 h
        refine And.imp_right (fun hx => qc_iload_n (qc_at qkX12_reckonedReal 21 rfl) rfl <| qc_iconst (qc_at qkX12_reckonedReal 22 rfl) <| hx) ?_
        refine qc_andN (qc_icmp_ne (qc_at qkX12_reckonedReal 23 rfl)) (fun u4 => ?_) (fun u4 => ?_)
        · replace h := qc_jn u4 h
          refine And.imp_right (fun hx => qc_dload_n (qc_at qkX12_reckonedReal 28 rfl) rfl <| qc_dload_n (qc_at qkX12_reckonedReal 29 rfl) rfl <| hx) ?_
          obtain ⟨g5, h⟩ := qc_gd_of h
          replace g5 := qc_n64_of g5
          obtain ⟨rfl, rfl, rfl, rfl, rfl⟩ := qc_some5 h
          exact ⟨qc_fm.rf _, qc_drem (qc_at qkX12_reckonedReal 30 rfl) g5 <| qc_dret (qc_at qkX12_reckonedReal 31 rfl) rfl (Nat.le_refl _) (Nat.le_refl _) (qc_eq.rf _ _ _)⟩
        · replace h := qc_jp u4 h
          refine And.imp_right (fun hx => qc_dload_n (qc_at qkX12_reckonedReal 24 rfl) rfl <| qc_dload_n (qc_at qkX12_reckonedReal 25 rfl) rfl <| hx) ?_
          obtain ⟨g6, h⟩ := qc_gd_of h
          replace g6 := qc_n64_of g6
          obtain ⟨rfl, rfl, rfl, rfl, rfl⟩ := qc_some5 h
          exact ⟨qc_fm.rf _, qc_ddiv (qc_at qkX12_reckonedReal 26 rfl) g6 <| qc_goto (qc_at qkX12_reckonedReal 27 rfl) <| qc_dret (qc_at qkX12_reckonedReal 31 rfl) rfl (Nat.le_refl _) (Nat.le_refl _) (qc_eq.rf _ _ _)⟩
      · replace h := qc_jp u3 h
        refine And.imp_right (fun hx => qc_dload_n (qc_at qkX12_reckonedReal 17 rfl) rfl <| qc_dload_n (qc_at qkX12_reckonedReal 18 rfl) rfl <| hx) ?_
        obtain ⟨g7, h⟩ := qc_gd_of h
        replace g7 := qc_n64_of g7
        obtain ⟨rfl, rfl, rfl, rfl, rfl⟩ := qc_some5 h
        exact ⟨qc_fm.rf _, qc_dmul (qc_at qkX12_reckonedReal 19 rfl) g7 <| qc_goto (qc_at qkX12_reckonedReal 20 rfl) <| qc_dret (qc_at qkX12_reckonedReal 31 rfl) rfl (Nat.le_refl _) (Nat.le_refl _) (qc_eq.rf _ _ _)⟩
    · replace h := qc_jp u2 h
      refine And.imp_right (fun hx => qc_dload_n (qc_at qkX12_reckonedReal 10 rfl) rfl <| qc_dload_n (qc_at qkX12_reckonedReal 11 rfl) rfl <| hx) ?_
      obtain ⟨g8, h⟩ := qc_gd_of h
      replace g8 := qc_n64_of g8
      obtain ⟨rfl, rfl, rfl, rfl, rfl⟩ := qc_some5 h
      exact ⟨qc_fm.rf _, qc_dsub (qc_at qkX12_reckonedReal 12 rfl) g8 <| qc_goto (qc_at qkX12_reckonedReal 13 rfl) <| qc_dret (qc_at qkX12_reckonedReal 31 rfl) rfl (Nat.le_refl _) (Nat.le_refl _) (qc_eq.rf _ _ _)⟩
  · replace h := qc_jp u1 h
    refine And.imp_right (fun hx => qc_dload_n (qc_at qkX12_reckonedReal 3 rfl) rfl <| qc_dload_n (qc_at qkX12_reckonedReal 4 rfl) rfl <| hx) ?_
    obtain ⟨g9, h⟩ := qc_gd_of h
    replace g9 := qc_n64_of g9
    obtain ⟨rfl, rfl, rfl, rfl, rfl⟩ := qc_some5 h
    exact ⟨qc_fm.rf _, qc_dadd (qc_at qkX12_reckonedReal 5 rfl) g9 <| qc_goto (qc_at qkX12_reckonedReal 6 rfl) <| qc_dret (qc_at qkX12_reckonedReal 31 rfl) rfl (Nat.le_refl _) (Nat.le_refl _) (qc_eq.rf _ _ _)⟩
def fX12_reckonedFloat (w : qcW) (I : qTI) (L : qTL) (D : qTD) (R : qTR) (x0 : Int32) (x1 : UInt32) (x2 : UInt32) : qcO UInt64 :=
  (if x0 = (1 : Int32) then (qc_gd (qc_n32 (FP.fadd x1 x2)) <| qc_gd (qc_n64 (FP.f2d (FP.fadd x1 x2))) <| some ((FP.f2d (FP.fadd x1 x2)), I, L, D, R)) else (if x0 = (2 : Int32) then (qc_gd (qc_n32 (FP.fsub x1 x2)) <| qc_gd (qc_n64 (FP.f2d (FP.fsub x1 x2))) <| some ((FP.f2d (FP.fsub x1 x2)), I, L, D, R)) else (if x0 = (3 : Int32) then (qc_gd (qc_n32 (FP.fmul x1 x2)) <| qc_gd (qc_n64 (FP.f2d (FP.fmul x1 x2))) <| some ((FP.f2d (FP.fmul x1 x2)), I, L, D, R)) else (if x0 = (4 : Int32) then (qc_gd (qc_n32 (FP.fdiv x1 x2)) <| qc_gd (qc_n64 (FP.f2d (FP.fdiv x1 x2))) <| some ((FP.f2d (FP.fdiv x1 x2)), I, L, D, R)) else (qc_gd (qc_n32 (FP.frem x1 x2)) <| qc_gd (qc_n64 (FP.f2d (FP.frem x1 x2))) <| some ((FP.f2d (FP.frem x1 x2)), I, L, D, R))))))
set_option maxRecDepth 100000 in
set_option maxHeartbeats 4000000 in
theorem tX12_reckonedFloat {w : qcW} {I : qTI} {L : qTL} {D : qTD} {R : qTR} {x0 : Int32} {x1 : UInt32} {x2 : UInt32} {r : UInt64} {I' : qTI} {L' : qTL} {D' : qTD} {R' : qTR} (hn : qcNF ≤ w.1) (hR : qc_FR R) (h : fX12_reckonedFloat w I L D R x0 x1 x2 = some (r, I', L', D', R')) : qc_fm qcSM (I, L, D, R) (I', L', D', R') ∧ qc_V (0) 0 0 qmX12_reckonedFloat [.int x0, .float x1, .float x2] w (I, L, D, R) (qc_eq (some (.double r)) w (I', L', D', R')) := by
  unfold fX12_reckonedFloat at h
  refine And.imp_right (fun hx => qc_V.of rfl rfl (Nat.le_of_ble_eq_true rfl) (lv := [(0, .int x0), (1, .float x1), (2, .float x2)]) rfl hx) ?_
  refine And.imp_right (fun hx => qc_iload_n (qc_at qkX12_reckonedFloat 0 rfl) rfl <| qc_iconst (qc_at qkX12_reckonedFloat 1 rfl) <| hx) ?_
  refine qc_andN (qc_icmp_ne (qc_at qkX12_reckonedFloat 2 rfl)) (fun u1 => ?_) (fun u1 => ?_)
  · replace h := qc_jn u1 h
    refine And.imp_right (fun hx => qc_iload_n (qc_at qkX12_reckonedFloat 8 rfl) rfl <| qc_iconst (qc_at qkX12_reckonedFloat 9 rfl) <| hx) ?_
    refine qc_andN (qc_icmp_ne (qc_at qkX12_reckonedFloat 10 rfl)) (fun u2 => ?_) (fun u2 => ?_)
    · replace h := qc_jn u2 h
      refine And.imp_right (fun hx => qc_iload_n (qc_at qkX12_reckonedFloat 16 rfl) rfl <| qc_iconst (qc_at qkX12_reckonedFloat 17 rfl) <| hx) ?_
      refine qc_andN (qc_icmp_ne (qc_at qkX12_reckonedFloat 18 rfl)) (fun u3 => ?_) (fun u3 => ?_)
      · replace h := qc_jn u3 h
        refine And.imp_right (fun hx => qc_iload_n (qc_at qkX12_reckonedFloat 24 rfl) rfl <| qc_iconst (qc_at qkX12_reckonedFloat 25 rfl) <| hx) ?_
        refine qc_andN (qc_icmp_ne (qc_at qkX12_reckonedFloat 26 rfl)) (fun u4 => ?_) (fun u4 => ?_)
        · replace h := qc_jn u4 h
          refine And.imp_right (fun hx => qc_fload_n (qc_at qkX12_reckonedFloat 32 rfl) rfl <| qc_fload_n (qc_at qkX12_reckonedFloat 33 rfl) rfl <| hx) ?_
          obtain ⟨g5, h⟩ := qc_gd_of h
          replace g5 := qc_n32_of g5
          refine And.imp_right (fun hx => qc_frem (qc_at qkX12_reckonedFloat 34 rfl) g5 <| hx) ?_
          obtain ⟨g6, h⟩ := qc_gd_of h
          replace g6 := qc_n64_of g6
          obtain ⟨rfl, rfl, rfl, rfl, rfl⟩ := qc_some5 h
          exact ⟨qc_fm.rf _, qc_f2d (qc_at qkX12_reckonedFloat 35 rfl) g6 <| qc_dret (qc_at qkX12_reckonedFloat 36 rfl) rfl (Nat.le_refl _) (Nat.le_refl _) (qc_eq.rf _ _ _)⟩
        · replace h := qc_jp u4 h
          refine And.imp_right (fun hx => qc_fload_n (qc_at qkX12_reckonedFloat 27 rfl) rfl <| qc_fload_n (qc_at qkX12_reckonedFloat 28 rfl) rfl <| hx) ?_
          obtain ⟨g7, h⟩ := qc_gd_of h
          replace g7 := qc_n32_of g7
          refine And.imp_right (fun hx => qc_fdiv (qc_at qkX12_reckonedFloat 29 rfl) g7 <| hx) ?_
          obtain ⟨g8, h⟩ := qc_gd_of h
          replace g8 := qc_n64_of g8
          obtain ⟨rfl, rfl, rfl, rfl, rfl⟩ := qc_some5 h
          exact ⟨qc_fm.rf _, qc_f2d (qc_at qkX12_reckonedFloat 30 rfl) g8 <| qc_goto (qc_at qkX12_reckonedFloat 31 rfl) <| qc_dret (qc_at qkX12_reckonedFloat 36 rfl) rfl (Nat.le_refl _) (Nat.le_refl _) (qc_eq.rf _ _ _)⟩
      · replace h := qc_jp u3 h
        refine And.imp_right (fun hx => qc_fload_n (qc_at qkX12_reckonedFloat 19 rfl) rfl <| qc_fload_n (qc_at qkX12_reckonedFloat 20 rfl) rfl <| hx) ?_
        obtain ⟨g9, h⟩ := qc_gd_of h
        replace g9 := qc_n32_of g9
        refine And.imp_right (fun hx => qc_fmul (qc_at qkX12_reckonedFloat 21 rfl) g9 <| hx) ?_
        obtain ⟨g10, h⟩ := qc_gd_of h
        replace g10 := qc_n64_of g10
        obtain ⟨rfl, rfl, rfl, rfl, rfl⟩ := qc_some5 h
        exact ⟨qc_fm.rf _, qc_f2d (qc_at qkX12_reckonedFloat 22 rfl) g10 <| qc_goto (qc_at qkX12_reckonedFloat 23 rfl) <| qc_dret (qc_at qkX12_reckonedFloat 36 rfl) rfl (Nat.le_refl _) (Nat.le_refl _) (qc_eq.rf _ _ _)⟩
    · replace h := qc_jp u2 h
      refine And.imp_right (fun hx => qc_fload_n (qc_at qkX12_reckonedFloat 11 rfl) rfl <| qc_fload_n (qc_at qkX12_reckonedFloat 12 rfl) rfl <| hx) ?_
      obtain ⟨g11, h⟩ := qc_gd_of h
      replace g11 := qc_n32_of g11
      refine And.imp_right (fun hx => qc_fsub (qc_at qkX12_reckonedFloat 13 rfl) g11 <| hx) ?_
      obtain ⟨g12, h⟩ := qc_gd_of h
      replace g12 := qc_n64_of g12
      obtain ⟨rfl, rfl, rfl, rfl, rfl⟩ := qc_some5 h
      exact ⟨qc_fm.rf _, qc_f2d (qc_at qkX12_reckonedFloat 14 rfl) g12 <| qc_goto (qc_at qkX12_reckonedFloat 15 rfl) <| qc_dret (qc_at qkX12_reckonedFloat 36 rfl) rfl (Nat.le_refl _) (Nat.le_refl _) (qc_eq.rf _ _ _)⟩
  · replace h := qc_jp u1 h
    refine And.imp_right (fun hx => qc_fload_n (qc_at qkX12_reckonedFloat 3 rfl) rfl <| qc_fload_n (qc_at qkX12_reckonedFloat 4 rfl) rfl <| hx) ?_
    obtain ⟨g13, h⟩ := qc_gd_of h
    replace g13 := qc_n32_of g13
    refine And.imp_right (fun hx => qc_fadd (qc_at qkX12_reckonedFloat 5 rfl) g13 <| hx) ?_
    obtain ⟨g14, h⟩ := qc_gd_of h
    replace g14 := qc_n64_of g14
    obtain ⟨rfl, rfl, rfl, rfl, rfl⟩ := qc_some5 h
    exact ⟨qc_fm.rf _, qc_f2d (qc_at qkX12_reckonedFloat 6 rfl) g14 <| qc_goto (qc_at qkX12_reckonedFloat 7 rfl) <| qc_dret (qc_at qkX12_reckonedFloat 36 rfl) rfl (Nat.le_refl _) (Nat.le_refl _) (qc_eq.rf _ _ _)⟩
def fX12_joins__b61 (w : qcW) (I : qTI) (L : qTL) (D : qTD) (R : qTR) (x1 : Int32) (x2 : Int32) (x3 : Int64) (x5 : Int64) : qcO Unit :=
  (qc_bd (fX12_reckoned w I L D R x1 x3 x5) fun r1 I1 L1 D1 R1 => if x2 = (1 : Int32) then (qc_gd (qc_inb ((I1 291 67) - (1 : Int32)) 32) <| some ((), I1, (qc_u L1 328 (Int32.toNatClampNeg ((I1 291 67) - (1 : Int32))) (Int32.toInt64 (Int64.toInt32 r1))), D1, R1)) else (qc_gd (qc_inb ((I1 291 67) - (1 : Int32)) 32) <| some ((), I1, (qc_u L1 328 (Int32.toNatClampNeg ((I1 291 67) - (1 : Int32))) r1), D1, R1)))
set_option maxRecDepth 100000 in
set_option maxHeartbeats 4000000 in
theorem tX12_joins__b61 {w : qcW} {I : qTI} {L : qTL} {D : qTD} {R : qTR} {x1 : Int32} {x2 : Int32} {x3 : Int64} {x5 : Int64} {r : Unit} {I' : qTI} {L' : qTL} {D' : qTD} {R' : qTR} (hn : qcNF ≤ w.1) (hR : qc_FR R) (h : fX12_joins__b61 w I L D R x1 x2 x3 x5 = some (r, I', L', D', R')) : qc_fm qcSM (I, L, D, R) (I', L', D', R') ∧ qc_X (qc_rm (2) 0 0) qmX12_joins_ (qc_QM 0 0 (qc_eq none w (I', L', D', R'))) 0 0 w (61, [(0, .ref 291), (1, .int x1), (2, .int x2), (3, .long x3), (5, .long x5)], [], I, L, D, R) := by
  unfold fX12_joins__b61 at h
  refine And.imp_right (fun hx => qc_iload_n (qc_at qkX12_joins_ 37 rfl) rfl <| qc_lload_n (qc_at qkX12_joins_ 38 rfl) rfl <| qc_lload (qc_at qkX12_joins_ 39 rfl) rfl <| hx) ?_
  obtain ⟨r1, I1, L1, D1, R1, e1, h⟩ := qc_bd_of h
  have c1 := (tX12_reckoned hn hR e1)
  refine qd_cSv (qc_at qkX12_joins_ 40 rfl) ql_12_634 qfX12_reckoned c1 rfl rfl (Nat.le_of_ble_eq_true rfl) (qc_rml (by decide) (by decide)) ⟨Nat.zero_le _, Nat.zero_le _⟩ ?_
  refine And.imp_right (fun hx => qc_lstore (lv' := [(7, _), (0, _), (1, _), (2, _), (3, _), (5, _)]) (qc_at qkX12_joins_ 41 rfl) rfl rfl <| qc_aload_n (qc_at qkX12_joins_ 42 rfl) rfl <| qc_gR (qc_at qkX12_joins_ 43 rfl) hn rfl (qfr_291_65 (c1.1.1 hR)) rfl <| qc_aload_n (qc_at qkX12_joins_ 44 rfl) rfl <| qc_gI (qc_at qkX12_joins_ 45 rfl) hn rfl <| qc_iconst (qc_at qkX12_joins_ 46 rfl) <| qc_isub (qc_at qkX12_joins_ 47 rfl) <| qc_iload_n (qc_at qkX12_joins_ 48 rfl) rfl <| qc_iconst (qc_at qkX12_joins_ 49 rfl) <| hx) ?_
  refine qc_andN (qc_icmp_ne (qc_at qkX12_joins_ 50 rfl)) (fun u2 => ?_) (fun u2 => ?_)
  · replace h := qc_jn u2 h
    refine And.imp_right (fun hx => qc_lload (qc_at qkX12_joins_ 55 rfl) rfl <| hx) ?_
    obtain ⟨g3, h⟩ := qc_gd_of h
    refine qd_last 32 (qc_at qkX12_joins_ 56 rfl) hn rfl (qc_inb_in g3) rfl ?_
    obtain ⟨rfl, rfl, rfl, rfl, rfl⟩ := qc_some5 h
    exact ⟨qc_fm.rf _, qc_vret (qc_at qkX12_joins_ 57 rfl) rfl (Nat.le_refl _) (Nat.le_refl _) (qc_eq.rf _ _ _)⟩
  · replace h := qc_jp u2 h
    refine And.imp_right (fun hx => qc_lload (qc_at qkX12_joins_ 51 rfl) rfl <| qc_l2i (qc_at qkX12_joins_ 52 rfl) <| qc_i2l (qc_at qkX12_joins_ 53 rfl) <| qc_goto (qc_at qkX12_joins_ 54 rfl) <| hx) ?_
    obtain ⟨g4, h⟩ := qc_gd_of h
    refine qd_last 32 (qc_at qkX12_joins_ 56 rfl) hn rfl (qc_inb_in g4) rfl ?_
    obtain ⟨rfl, rfl, rfl, rfl, rfl⟩ := qc_some5 h
    exact ⟨qc_fm.rf _, qc_vret (qc_at qkX12_joins_ 57 rfl) rfl (Nat.le_refl _) (Nat.le_refl _) (qc_eq.rf _ _ _)⟩
def fX12_joins_ (w : qcW) (I : qTI) (L : qTL) (D : qTD) (R : qTR) (x1 : Int32) (x2 : Int32) : qcO Unit :=
  (if (3 : Int32) ≤ x2 then (qc_gd (qc_inb (((qc_u I 291 67 ((I 291 67) - (1 : Int32))) 291 67) - (1 : Int32)) 32) <| qc_gd (qc_inb ((qc_u I 291 67 ((I 291 67) - (1 : Int32))) 291 67) 32) <| qc_bd (fX12_isNone w (qc_u I 291 67 ((I 291 67) - (1 : Int32))) L D R x1 (D 329 (Int32.toNatClampNeg (((qc_u I 291 67 ((I 291 67) - (1 : Int32))) 291 67) - (1 : Int32)))) (D 329 (Int32.toNatClampNeg ((qc_u I 291 67 ((I 291 67) - (1 : Int32))) 291 67)))) fun r8 I8 L8 D8 R8 => if r8 = true then (some ((), (qc_u I8 291 69 (5 : Int32)), L8, D8, R8)) else (if x2 = (3 : Int32) then (qc_gd (qc_n32 (FP.d2f (D 329 (Int32.toNatClampNeg (((qc_u I 291 67 ((I 291 67) - (1 : Int32))) 291 67) - (1 : Int32)))))) <| qc_gd (qc_n32 (FP.d2f (D 329 (Int32.toNatClampNeg ((qc_u I 291 67 ((I 291 67) - (1 : Int32))) 291 67))))) <| qc_bd (fX12_reckonedFloat w I8 L8 D8 R8 x1 (FP.d2f (D 329 (Int32.toNatClampNeg (((qc_u I 291 67 ((I 291 67) - (1 : Int32))) 291 67) - (1 : Int32))))) (FP.d2f (D 329 (Int32.toNatClampNeg ((qc_u I 291 67 ((I 291 67) - (1 : Int32))) 291 67))))) fun r15 I15 L15 D15 R15 => qc_gd (qc_inb ((I8 291 67) - (1 : Int32)) 32) <| some ((), I15, L15, (qc_u D15 329 (Int32.toNatClampNeg ((I8 291 67) - (1 : Int32))) r15), R15)) else (qc_bd (fX12_reckonedReal w I8 L8 D8 R8 x1 (D 329 (Int32.toNatClampNeg (((qc_u I 291 67 ((I 291 67) - (1 : Int32))) 291 67) - (1 : Int32)))) (D 329 (Int32.toNatClampNeg ((qc_u I 291 67 ((I 291 67) - (1 : Int32))) 291 67)))) fun r11 I11 L11 D11 R11 => qc_gd (qc_inb ((I8 291 67) - (1 : Int32)) 32) <| some ((), I11, L11, (qc_u D11 329 (Int32.toNatClampNeg ((I8 291 67) - (1 : Int32))) r11), R11)))) else (qc_gd (qc_inb (((qc_u I 291 67 ((I 291 67) - (1 : Int32))) 291 67) - (1 : Int32)) 32) <| qc_gd (qc_inb ((qc_u I 291 67 ((I 291 67) - (1 : Int32))) 291 67) 32) <| if (lg_cmp (L 328 (Int32.toNatClampNeg ((qc_u I 291 67 ((I 291 67) - (1 : Int32))) 291 67))) (0 : Int64)) = 0 then (if x1 = (4 : Int32) then (some ((), (qc_u (qc_u I 291 67 ((I 291 67) - (1 : Int32))) 291 69 (4 : Int32)), L, D, R)) else (if x1 = (5 : Int32) then (some ((), (qc_u (qc_u I 291 67 ((I 291 67) - (1 : Int32))) 291 69 (4 : Int32)), L, D, R)) else (fX12_joins__b61 w (qc_u I 291 67 ((I 291 67) - (1 : Int32))) L D R x1 x2 (L 328 (Int32.toNatClampNeg (((qc_u I 291 67 ((I 291 67) - (1 : Int32))) 291 67) - (1 : Int32)))) (L 328 (Int32.toNatClampNeg ((qc_u I 291 67 ((I 291 67) - (1 : Int32))) 291 67)))))) else (fX12_joins__b61 w (qc_u I 291 67 ((I 291 67) - (1 : Int32))) L D R x1 x2 (L 328 (Int32.toNatClampNeg (((qc_u I 291 67 ((I 291 67) - (1 : Int32))) 291 67) - (1 : Int32)))) (L 328 (Int32.toNatClampNeg ((qc_u I 291 67 ((I 291 67) - (1 : Int32))) 291 67))))))
set_option maxRecDepth 100000 in
set_option maxHeartbeats 4000000 in
theorem tX12_joins_ {w : qcW} {I : qTI} {L : qTL} {D : qTD} {R : qTR} {x1 : Int32} {x2 : Int32} {r : Unit} {I' : qTI} {L' : qTL} {D' : qTD} {R' : qTR} (hn : qcNF ≤ w.1) (hR : qc_FR R) (h : fX12_joins_ w I L D R x1 x2 = some (r, I', L', D', R')) : qc_fm qcSM (I, L, D, R) (I', L', D', R') ∧ qc_V (2) 0 0 qmX12_joins_ [.ref 291, .int x1, .int x2] w (I, L, D, R) (qc_eq none w (I', L', D', R')) := by
  unfold fX12_joins_ at h
  refine And.imp_right (fun hx => qc_V.of rfl rfl (Nat.le_of_ble_eq_true rfl) (lv := [(0, .ref 291), (1, .int x1), (2, .int x2)]) rfl hx) ?_
  refine And.imp_right (fun hx => qc_aload_n (qc_at qkX12_joins_ 0 rfl) rfl <| qc_dup (qc_at qkX12_joins_ 1 rfl) rfl <| qc_gI (qc_at qkX12_joins_ 2 rfl) hn rfl <| qc_iconst (qc_at qkX12_joins_ 3 rfl) <| qc_isub (qc_at qkX12_joins_ 4 rfl) <| hx) (qd_pI (qc_at qkX12_joins_ 5 rfl) hn rfl rfl ?_)
  refine And.imp_right (fun hx => qc_iload_n (qc_at qkX12_joins_ 6 rfl) rfl <| qc_iconst (qc_at qkX12_joins_ 7 rfl) <| hx) ?_
  refine qc_andC (qc_icmp_ge (qc_at qkX12_joins_ 8 rfl)) (fun u5 => ?_) (fun u5 => ?_)
  · replace h := qc_jp u5 h
    refine And.imp_right (fun hx => qc_aload_n (qc_at qkX12_joins_ 58 rfl) rfl <| qc_gR (qc_at qkX12_joins_ 59 rfl) hn rfl (qfr_291_66 hR) rfl <| qc_aload_n (qc_at qkX12_joins_ 60 rfl) rfl <| qc_gI (qc_at qkX12_joins_ 61 rfl) hn rfl <| qc_iconst (qc_at qkX12_joins_ 62 rfl) <| qc_isub (qc_at qkX12_joins_ 63 rfl) <| hx) ?_
    obtain ⟨g6, h⟩ := qc_gd_of h
    refine And.imp_right (fun hx => qc_dald 32 (qc_at qkX12_joins_ 64 rfl) hn rfl (qc_inb_in g6) <| qc_dstore_n (lv' := [(3, _), (0, _), (1, _), (2, _)]) (qc_at qkX12_joins_ 65 rfl) rfl rfl <| qc_aload_n (qc_at qkX12_joins_ 66 rfl) rfl <| qc_gR (qc_at qkX12_joins_ 67 rfl) hn rfl (qfr_291_66 hR) rfl <| qc_aload_n (qc_at qkX12_joins_ 68 rfl) rfl <| qc_gI (qc_at qkX12_joins_ 69 rfl) hn rfl <| hx) ?_
    obtain ⟨g7, h⟩ := qc_gd_of h
    refine And.imp_right (fun hx => qc_dald 32 (qc_at qkX12_joins_ 70 rfl) hn rfl (qc_inb_in g7) <| qc_dstore (lv' := [(5, _), (3, _), (0, _), (1, _), (2, _)]) (qc_at qkX12_joins_ 71 rfl) rfl rfl <| qc_iload_n (qc_at qkX12_joins_ 72 rfl) rfl <| qc_dload_n (qc_at qkX12_joins_ 73 rfl) rfl <| qc_dload (qc_at qkX12_joins_ 74 rfl) rfl <| hx) ?_
    obtain ⟨r8, I8, L8, D8, R8, e8, h⟩ := qc_bd_of h
    have c8 := (tX12_isNone hn hR e8)
    refine qd_cSv (qc_at qkX12_joins_ 75 rfl) ql_12_638 qfX12_isNone c8 rfl rfl (Nat.le_of_ble_eq_true rfl) (qc_rml (by decide) (by decide)) ⟨Nat.zero_le _, Nat.zero_le _⟩ ?_
    refine qc_andB (qc_ifB_eq (qc_at qkX12_joins_ 76 rfl)) (fun u9 => ?_) (fun u9 => ?_)
    · replace h := qc_jf u9 h
      refine And.imp_right (fun hx => qc_aload_n (qc_at qkX12_joins_ 81 rfl) rfl <| qc_gR (qc_at qkX12_joins_ 82 rfl) hn rfl (qfr_291_66 (c8.1.1 hR)) rfl <| qc_aload_n (qc_at qkX12_joins_ 83 rfl) rfl <| qc_gI (qc_at qkX12_joins_ 84 rfl) hn rfl <| qc_iconst (qc_at qkX12_joins_ 85 rfl) <| qc_isub (qc_at qkX12_joins_ 86 rfl) <| qc_iload_n (qc_at qkX12_joins_ 87 rfl) rfl <| qc_iconst (qc_at qkX12_joins_ 88 rfl) <| hx) ?_
      refine qc_andN (qc_icmp_ne (qc_at qkX12_joins_ 89 rfl)) (fun u10 => ?_) (fun u10 => ?_)
      · replace h := qc_jn u10 h
        refine And.imp_right (fun hx => qc_iload_n (qc_at qkX12_joins_ 97 rfl) rfl <| qc_dload_n (qc_at qkX12_joins_ 98 rfl) rfl <| qc_dload (qc_at qkX12_joins_ 99 rfl) rfl <| hx) ?_
        obtain ⟨r11, I11, L11, D11, R11, e11, h⟩ := qc_bd_of h
        have c11 := (tX12_reckonedReal hn (c8.1.1 hR) e11)
        refine qd_cSv (qc_at qkX12_joins_ 100 rfl) ql_12_646 qfX12_reckonedReal c11 rfl rfl (Nat.le_of_ble_eq_true rfl) (qc_rml (by decide) (by decide)) ⟨Nat.zero_le _, Nat.zero_le _⟩ ?_
        obtain ⟨g12, h⟩ := qc_gd_of h
        refine qd_dast 32 (qc_at qkX12_joins_ 101 rfl) hn rfl (qc_inb_in g12) rfl ?_
        obtain ⟨rfl, rfl, rfl, rfl, rfl⟩ := qc_some5 h
        exact ⟨qc_fm.rf _, qc_vret (qc_at qkX12_joins_ 102 rfl) rfl (Nat.le_refl _) (Nat.le_refl _) (qc_eq.rf _ _ _)⟩
      · replace h := qc_jp u10 h
        refine And.imp_right (fun hx => qc_iload_n (qc_at qkX12_joins_ 90 rfl) rfl <| qc_dload_n (qc_at qkX12_joins_ 91 rfl) rfl <| hx) ?_
        obtain ⟨g13, h⟩ := qc_gd_of h
        replace g13 := qc_n32_of g13
        refine And.imp_right (fun hx => qc_d2f (qc_at qkX12_joins_ 92 rfl) g13 <| qc_dload (qc_at qkX12_joins_ 93 rfl) rfl <| hx) ?_
        obtain ⟨g14, h⟩ := qc_gd_of h
        replace g14 := qc_n32_of g14
        refine And.imp_right (fun hx => qc_d2f (qc_at qkX12_joins_ 94 rfl) g14 <| hx) ?_
        obtain ⟨r15, I15, L15, D15, R15, e15, h⟩ := qc_bd_of h
        have c15 := (tX12_reckonedFloat hn (c8.1.1 hR) e15)
        refine qd_cSv (qc_at qkX12_joins_ 95 rfl) ql_12_642 qfX12_reckonedFloat c15 rfl rfl (Nat.le_of_ble_eq_true rfl) (qc_rml (by decide) (by decide)) ⟨Nat.zero_le _, Nat.zero_le _⟩ ?_
        refine And.imp_right (fun hx => qc_goto (qc_at qkX12_joins_ 96 rfl) <| hx) ?_
        obtain ⟨g16, h⟩ := qc_gd_of h
        refine qd_dast 32 (qc_at qkX12_joins_ 101 rfl) hn rfl (qc_inb_in g16) rfl ?_
        obtain ⟨rfl, rfl, rfl, rfl, rfl⟩ := qc_some5 h
        exact ⟨qc_fm.rf _, qc_vret (qc_at qkX12_joins_ 102 rfl) rfl (Nat.le_refl _) (Nat.le_refl _) (qc_eq.rf _ _ _)⟩
    · replace h := qc_jt u9 h
      refine And.imp_right (fun hx => qc_aload_n (qc_at qkX12_joins_ 77 rfl) rfl <| qc_iconst (qc_at qkX12_joins_ 78 rfl) <| hx) (qd_pI (qc_at qkX12_joins_ 79 rfl) hn rfl rfl ?_)
      obtain ⟨rfl, rfl, rfl, rfl, rfl⟩ := qc_some5 h
      exact ⟨qc_fm.rf _, qc_vret (qc_at qkX12_joins_ 80 rfl) rfl (Nat.le_refl _) (Nat.le_refl _) (qc_eq.rf _ _ _)⟩
  · replace h := qc_jn u5 h
    refine And.imp_right (fun hx => qc_aload_n (qc_at qkX12_joins_ 9 rfl) rfl <| qc_gR (qc_at qkX12_joins_ 10 rfl) hn rfl (qfr_291_65 hR) rfl <| qc_aload_n (qc_at qkX12_joins_ 11 rfl) rfl <| qc_gI (qc_at qkX12_joins_ 12 rfl) hn rfl <| qc_iconst (qc_at qkX12_joins_ 13 rfl) <| qc_isub (qc_at qkX12_joins_ 14 rfl) <| hx) ?_
    obtain ⟨g17, h⟩ := qc_gd_of h
    refine And.imp_right (fun hx => qc_lald 32 (qc_at qkX12_joins_ 15 rfl) hn rfl (qc_inb_in g17) <| qc_lstore_n (lv' := [(3, _), (0, _), (1, _), (2, _)]) (qc_at qkX12_joins_ 16 rfl) rfl rfl <| qc_aload_n (qc_at qkX12_joins_ 17 rfl) rfl <| qc_gR (qc_at qkX12_joins_ 18 rfl) hn rfl (qfr_291_65 hR) rfl <| qc_aload_n (qc_at qkX12_joins_ 19 rfl) rfl <| qc_gI (qc_at qkX12_joins_ 20 rfl) hn rfl <| hx) ?_
    obtain ⟨g18, h⟩ := qc_gd_of h
    refine And.imp_right (fun hx => qc_lald 32 (qc_at qkX12_joins_ 21 rfl) hn rfl (qc_inb_in g18) <| qc_lstore (lv' := [(5, _), (3, _), (0, _), (1, _), (2, _)]) (qc_at qkX12_joins_ 22 rfl) rfl rfl <| qc_lload (qc_at qkX12_joins_ 23 rfl) rfl <| qc_lconst (qc_at qkX12_joins_ 24 rfl) <| qc_lcmp (qc_at qkX12_joins_ 25 rfl) <| hx) ?_
    refine qc_andN (qc_if_ne (qc_at qkX12_joins_ 26 rfl)) (fun u19 => ?_) (fun u19 => ?_)
    · replace h := qc_jn u19 h
      exact And.imp_right (fun hx => qc_sub [2, 3, 4, 1, 0] rfl hx) (tX12_joins__b61 hn hR h)
    · replace h := qc_jp u19 h
      refine And.imp_right (fun hx => qc_iload_n (qc_at qkX12_joins_ 27 rfl) rfl <| qc_iconst (qc_at qkX12_joins_ 28 rfl) <| hx) ?_
      refine qc_andC (qc_icmp_eq (qc_at qkX12_joins_ 29 rfl)) (fun u20 => ?_) (fun u20 => ?_)
      · replace h := qc_jp u20 h
        refine And.imp_right (fun hx => qc_aload_n (qc_at qkX12_joins_ 33 rfl) rfl <| qc_iconst (qc_at qkX12_joins_ 34 rfl) <| hx) (qd_pI (qc_at qkX12_joins_ 35 rfl) hn rfl rfl ?_)
        obtain ⟨rfl, rfl, rfl, rfl, rfl⟩ := qc_some5 h
        exact ⟨qc_fm.rf _, qc_vret (qc_at qkX12_joins_ 36 rfl) rfl (Nat.le_refl _) (Nat.le_refl _) (qc_eq.rf _ _ _)⟩
      · replace h := qc_jn u20 h
        refine And.imp_right (fun hx => qc_iload_n (qc_at qkX12_joins_ 30 rfl) rfl <| qc_iconst (qc_at qkX12_joins_ 31 rfl) <| hx) ?_
        refine qc_andN (qc_icmp_ne (qc_at qkX12_joins_ 32 rfl)) (fun u21 => ?_) (fun u21 => ?_)
        · replace h := qc_jn u21 h
          exact And.imp_right (fun hx => qc_sub [2, 3, 4, 1, 0] rfl hx) (tX12_joins__b61 hn hR h)
        · replace h := qc_jp u21 h
          refine And.imp_right (fun hx => qc_aload_n (qc_at qkX12_joins_ 33 rfl) rfl <| qc_iconst (qc_at qkX12_joins_ 34 rfl) <| hx) (qd_pI (qc_at qkX12_joins_ 35 rfl) hn rfl rfl ?_)
          obtain ⟨rfl, rfl, rfl, rfl, rfl⟩ := qc_some5 h
          exact ⟨qc_fm.rf _, qc_vret (qc_at qkX12_joins_ 36 rfl) rfl (Nat.le_refl _) (Nat.le_refl _) (qc_eq.rf _ _ _)⟩
def fX12_shifts (w : qcW) (I : qTI) (L : qTL) (D : qTD) (R : qTR) (x1 : Int32) (x2 : Int32) : qcO Unit :=
  (qc_gd (qc_inb ((qc_u I 291 67 ((I 291 67) - (1 : Int32))) 291 67) 32) <| qc_gd (qc_inb (((qc_u I 291 67 ((I 291 67) - (1 : Int32))) 291 67) - (1 : Int32)) 32) <| if x2 = (1 : Int32) then (if x1 = (9 : Int32) then (qc_gd (qc_inb (((qc_u I 291 67 ((I 291 67) - (1 : Int32))) 291 67) - (1 : Int32)) 32) <| some ((), (qc_u I 291 67 ((I 291 67) - (1 : Int32))), (qc_u L 328 (Int32.toNatClampNeg (((qc_u I 291 67 ((I 291 67) - (1 : Int32))) 291 67) - (1 : Int32))) (Int32.toInt64 ((Int64.toInt32 (L 328 (Int32.toNatClampNeg (((qc_u I 291 67 ((I 291 67) - (1 : Int32))) 291 67) - (1 : Int32))))) <<< (((Int64.toInt32 (L 328 (Int32.toNatClampNeg ((qc_u I 291 67 ((I 291 67) - (1 : Int32))) 291 67)))) &&& (31 : Int32)) &&& 31)))), D, R)) else (if x1 = (10 : Int32) then (qc_gd (qc_inb (((qc_u I 291 67 ((I 291 67) - (1 : Int32))) 291 67) - (1 : Int32)) 32) <| some ((), (qc_u I 291 67 ((I 291 67) - (1 : Int32))), (qc_u L 328 (Int32.toNatClampNeg (((qc_u I 291 67 ((I 291 67) - (1 : Int32))) 291 67) - (1 : Int32))) (Int32.toInt64 ((Int64.toInt32 (L 328 (Int32.toNatClampNeg (((qc_u I 291 67 ((I 291 67) - (1 : Int32))) 291 67) - (1 : Int32))))) >>> (((Int64.toInt32 (L 328 (Int32.toNatClampNeg ((qc_u I 291 67 ((I 291 67) - (1 : Int32))) 291 67)))) &&& (31 : Int32)) &&& 31)))), D, R)) else (qc_gd (qc_inb (((qc_u I 291 67 ((I 291 67) - (1 : Int32))) 291 67) - (1 : Int32)) 32) <| some ((), (qc_u I 291 67 ((I 291 67) - (1 : Int32))), (qc_u L 328 (Int32.toNatClampNeg (((qc_u I 291 67 ((I 291 67) - (1 : Int32))) 291 67) - (1 : Int32))) (Int32.toInt64 (UInt32.toInt32 (Int32.toUInt32 (Int64.toInt32 (L 328 (Int32.toNatClampNeg (((qc_u I 291 67 ((I 291 67) - (1 : Int32))) 291 67) - (1 : Int32))))) >>> (Int32.toUInt32 ((Int64.toInt32 (L 328 (Int32.toNatClampNeg ((qc_u I 291 67 ((I 291 67) - (1 : Int32))) 291 67)))) &&& (31 : Int32)) &&& Int32.toUInt32 31))))), D, R)))) else (if x1 = (9 : Int32) then (qc_gd (qc_inb (((qc_u I 291 67 ((I 291 67) - (1 : Int32))) 291 67) - (1 : Int32)) 32) <| some ((), (qc_u I 291 67 ((I 291 67) - (1 : Int32))), (qc_u L 328 (Int32.toNatClampNeg (((qc_u I 291 67 ((I 291 67) - (1 : Int32))) 291 67) - (1 : Int32))) ((L 328 (Int32.toNatClampNeg (((qc_u I 291 67 ((I 291 67) - (1 : Int32))) 291 67) - (1 : Int32)))) <<< (Int32.toInt64 ((Int64.toInt32 (L 328 (Int32.toNatClampNeg ((qc_u I 291 67 ((I 291 67) - (1 : Int32))) 291 67)))) &&& (63 : Int32)) &&& 63))), D, R)) else (if x1 = (10 : Int32) then (qc_gd (qc_inb (((qc_u I 291 67 ((I 291 67) - (1 : Int32))) 291 67) - (1 : Int32)) 32) <| some ((), (qc_u I 291 67 ((I 291 67) - (1 : Int32))), (qc_u L 328 (Int32.toNatClampNeg (((qc_u I 291 67 ((I 291 67) - (1 : Int32))) 291 67) - (1 : Int32))) ((L 328 (Int32.toNatClampNeg (((qc_u I 291 67 ((I 291 67) - (1 : Int32))) 291 67) - (1 : Int32)))) >>> (Int32.toInt64 ((Int64.toInt32 (L 328 (Int32.toNatClampNeg ((qc_u I 291 67 ((I 291 67) - (1 : Int32))) 291 67)))) &&& (63 : Int32)) &&& 63))), D, R)) else (qc_gd (qc_inb (((qc_u I 291 67 ((I 291 67) - (1 : Int32))) 291 67) - (1 : Int32)) 32) <| some ((), (qc_u I 291 67 ((I 291 67) - (1 : Int32))), (qc_u L 328 (Int32.toNatClampNeg (((qc_u I 291 67 ((I 291 67) - (1 : Int32))) 291 67) - (1 : Int32))) (UInt64.toInt64 (Int64.toUInt64 (L 328 (Int32.toNatClampNeg (((qc_u I 291 67 ((I 291 67) - (1 : Int32))) 291 67) - (1 : Int32)))) >>> (Int64.toUInt64 (Int32.toInt64 ((Int64.toInt32 (L 328 (Int32.toNatClampNeg ((qc_u I 291 67 ((I 291 67) - (1 : Int32))) 291 67)))) &&& (63 : Int32))) &&& Int64.toUInt64 63)))), D, R)))))
set_option maxRecDepth 100000 in
set_option maxHeartbeats 4000000 in
theorem tX12_shifts {w : qcW} {I : qTI} {L : qTL} {D : qTD} {R : qTR} {x1 : Int32} {x2 : Int32} {r : Unit} {I' : qTI} {L' : qTL} {D' : qTD} {R' : qTR} (hn : qcNF ≤ w.1) (hR : qc_FR R) (h : fX12_shifts w I L D R x1 x2 = some (r, I', L', D', R')) : qc_fm qcSM (I, L, D, R) (I', L', D', R') ∧ qc_V (0) 0 0 qmX12_shifts [.ref 291, .int x1, .int x2] w (I, L, D, R) (qc_eq none w (I', L', D', R')) := by
  unfold fX12_shifts at h
  refine And.imp_right (fun hx => qc_V.of rfl rfl (Nat.le_of_ble_eq_true rfl) (lv := [(0, .ref 291), (1, .int x1), (2, .int x2)]) rfl hx) ?_
  refine And.imp_right (fun hx => qc_aload_n (qc_at qkX12_shifts 0 rfl) rfl <| qc_dup (qc_at qkX12_shifts 1 rfl) rfl <| qc_gI (qc_at qkX12_shifts 2 rfl) hn rfl <| qc_iconst (qc_at qkX12_shifts 3 rfl) <| qc_isub (qc_at qkX12_shifts 4 rfl) <| hx) (qd_pI (qc_at qkX12_shifts 5 rfl) hn rfl rfl ?_)
  refine And.imp_right (fun hx => qc_aload_n (qc_at qkX12_shifts 6 rfl) rfl <| qc_gR (qc_at qkX12_shifts 7 rfl) hn rfl (qfr_291_65 hR) rfl <| qc_aload_n (qc_at qkX12_shifts 8 rfl) rfl <| qc_gI (qc_at qkX12_shifts 9 rfl) hn rfl <| hx) ?_
  obtain ⟨g1, h⟩ := qc_gd_of h
  refine And.imp_right (fun hx => qc_lald 32 (qc_at qkX12_shifts 10 rfl) hn rfl (qc_inb_in g1) <| qc_l2i (qc_at qkX12_shifts 11 rfl) <| qc_istore_n (lv' := [(3, _), (0, _), (1, _), (2, _)]) (qc_at qkX12_shifts 12 rfl) rfl rfl <| qc_aload_n (qc_at qkX12_shifts 13 rfl) rfl <| qc_gR (qc_at qkX12_shifts 14 rfl) hn rfl (qfr_291_65 hR) rfl <| qc_aload_n (qc_at qkX12_shifts 15 rfl) rfl <| qc_gI (qc_at qkX12_shifts 16 rfl) hn rfl <| qc_iconst (qc_at qkX12_shifts 17 rfl) <| qc_isub (qc_at qkX12_shifts 18 rfl) <| hx) ?_
  obtain ⟨g2, h⟩ := qc_gd_of h
  refine And.imp_right (fun hx => qc_lald 32 (qc_at qkX12_shifts 19 rfl) hn rfl (qc_inb_in g2) <| qc_lstore (lv' := [(4, _), (3, _), (0, _), (1, _), (2, _)]) (qc_at qkX12_shifts 20 rfl) rfl rfl <| qc_iload_n (qc_at qkX12_shifts 21 rfl) rfl <| qc_iconst (qc_at qkX12_shifts 22 rfl) <| hx) ?_
  refine qc_andN (qc_icmp_ne (qc_at qkX12_shifts 23 rfl)) (fun u3 => ?_) (fun u3 => ?_)
  · replace h := qc_jn u3 h
    refine And.imp_right (fun hx => qc_aload_n (qc_at qkX12_shifts 61 rfl) rfl <| qc_gR (qc_at qkX12_shifts 62 rfl) hn rfl (qfr_291_65 hR) rfl <| qc_aload_n (qc_at qkX12_shifts 63 rfl) rfl <| qc_gI (qc_at qkX12_shifts 64 rfl) hn rfl <| qc_iconst (qc_at qkX12_shifts 65 rfl) <| qc_isub (qc_at qkX12_shifts 66 rfl) <| qc_iload_n (qc_at qkX12_shifts 67 rfl) rfl <| qc_bipush (qc_at qkX12_shifts 68 rfl) <| hx) ?_
    refine qc_andN (qc_icmp_ne (qc_at qkX12_shifts 69 rfl)) (fun u4 => ?_) (fun u4 => ?_)
    · replace h := qc_jn u4 h
      refine And.imp_right (fun hx => qc_iload_n (qc_at qkX12_shifts 76 rfl) rfl <| qc_bipush (qc_at qkX12_shifts 77 rfl) <| hx) ?_
      refine qc_andN (qc_icmp_ne (qc_at qkX12_shifts 78 rfl)) (fun u5 => ?_) (fun u5 => ?_)
      · replace h := qc_jn u5 h
        refine And.imp_right (fun hx => qc_lload (qc_at qkX12_shifts 85 rfl) rfl <| qc_iload_n (qc_at qkX12_shifts 86 rfl) rfl <| qc_bipush (qc_at qkX12_shifts 87 rfl) <| qc_iand (qc_at qkX12_shifts 88 rfl) <| qc_lushr (qc_at qkX12_shifts 89 rfl) <| hx) ?_
        obtain ⟨g6, h⟩ := qc_gd_of h
        refine qd_last 32 (qc_at qkX12_shifts 90 rfl) hn rfl (qc_inb_in g6) rfl ?_
        obtain ⟨rfl, rfl, rfl, rfl, rfl⟩ := qc_some5 h
        exact ⟨qc_fm.rf _, qc_vret (qc_at qkX12_shifts 91 rfl) rfl (Nat.le_refl _) (Nat.le_refl _) (qc_eq.rf _ _ _)⟩
      · replace h := qc_jp u5 h
        refine And.imp_right (fun hx => qc_lload (qc_at qkX12_shifts 79 rfl) rfl <| qc_iload_n (qc_at qkX12_shifts 80 rfl) rfl <| qc_bipush (qc_at qkX12_shifts 81 rfl) <| qc_iand (qc_at qkX12_shifts 82 rfl) <| qc_lshr (qc_at qkX12_shifts 83 rfl) <| qc_goto (qc_at qkX12_shifts 84 rfl) <| hx) ?_
        obtain ⟨g7, h⟩ := qc_gd_of h
        refine qd_last 32 (qc_at qkX12_shifts 90 rfl) hn rfl (qc_inb_in g7) rfl ?_
        obtain ⟨rfl, rfl, rfl, rfl, rfl⟩ := qc_some5 h
        exact ⟨qc_fm.rf _, qc_vret (qc_at qkX12_shifts 91 rfl) rfl (Nat.le_refl _) (Nat.le_refl _) (qc_eq.rf _ _ _)⟩
    · replace h := qc_jp u4 h
      refine And.imp_right (fun hx => qc_lload (qc_at qkX12_shifts 70 rfl) rfl <| qc_iload_n (qc_at qkX12_shifts 71 rfl) rfl <| qc_bipush (qc_at qkX12_shifts 72 rfl) <| qc_iand (qc_at qkX12_shifts 73 rfl) <| qc_lshl (qc_at qkX12_shifts 74 rfl) <| qc_goto (qc_at qkX12_shifts 75 rfl) <| hx) ?_
      obtain ⟨g8, h⟩ := qc_gd_of h
      refine qd_last 32 (qc_at qkX12_shifts 90 rfl) hn rfl (qc_inb_in g8) rfl ?_
      obtain ⟨rfl, rfl, rfl, rfl, rfl⟩ := qc_some5 h
      exact ⟨qc_fm.rf _, qc_vret (qc_at qkX12_shifts 91 rfl) rfl (Nat.le_refl _) (Nat.le_refl _) (qc_eq.rf _ _ _)⟩
  · replace h := qc_jp u3 h
    refine And.imp_right (fun hx => qc_lload (qc_at qkX12_shifts 24 rfl) rfl <| qc_l2i (qc_at qkX12_shifts 25 rfl) <| qc_istore (lv' := [(6, _), (4, _), (3, _), (0, _), (1, _), (2, _)]) (qc_at qkX12_shifts 26 rfl) rfl rfl <| qc_aload_n (qc_at qkX12_shifts 27 rfl) rfl <| qc_gR (qc_at qkX12_shifts 28 rfl) hn rfl (qfr_291_65 hR) rfl <| qc_aload_n (qc_at qkX12_shifts 29 rfl) rfl <| qc_gI (qc_at qkX12_shifts 30 rfl) hn rfl <| qc_iconst (qc_at qkX12_shifts 31 rfl) <| qc_isub (qc_at qkX12_shifts 32 rfl) <| qc_iload_n (qc_at qkX12_shifts 33 rfl) rfl <| qc_bipush (qc_at qkX12_shifts 34 rfl) <| hx) ?_
    refine qc_andN (qc_icmp_ne (qc_at qkX12_shifts 35 rfl)) (fun u9 => ?_) (fun u9 => ?_)
    · replace h := qc_jn u9 h
      refine And.imp_right (fun hx => qc_iload_n (qc_at qkX12_shifts 43 rfl) rfl <| qc_bipush (qc_at qkX12_shifts 44 rfl) <| hx) ?_
      refine qc_andN (qc_icmp_ne (qc_at qkX12_shifts 45 rfl)) (fun u10 => ?_) (fun u10 => ?_)
      · replace h := qc_jn u10 h
        refine And.imp_right (fun hx => qc_iload (qc_at qkX12_shifts 53 rfl) rfl <| qc_iload_n (qc_at qkX12_shifts 54 rfl) rfl <| qc_bipush (qc_at qkX12_shifts 55 rfl) <| qc_iand (qc_at qkX12_shifts 56 rfl) <| qc_iushr (qc_at qkX12_shifts 57 rfl) <| qc_i2l (qc_at qkX12_shifts 58 rfl) <| hx) ?_
        obtain ⟨g11, h⟩ := qc_gd_of h
        refine qd_last 32 (qc_at qkX12_shifts 59 rfl) hn rfl (qc_inb_in g11) rfl ?_
        obtain ⟨rfl, rfl, rfl, rfl, rfl⟩ := qc_some5 h
        exact ⟨qc_fm.rf _, qc_goto (qc_at qkX12_shifts 60 rfl) <| qc_vret (qc_at qkX12_shifts 91 rfl) rfl (Nat.le_refl _) (Nat.le_refl _) (qc_eq.rf _ _ _)⟩
      · replace h := qc_jp u10 h
        refine And.imp_right (fun hx => qc_iload (qc_at qkX12_shifts 46 rfl) rfl <| qc_iload_n (qc_at qkX12_shifts 47 rfl) rfl <| qc_bipush (qc_at qkX12_shifts 48 rfl) <| qc_iand (qc_at qkX12_shifts 49 rfl) <| qc_ishr (qc_at qkX12_shifts 50 rfl) <| qc_i2l (qc_at qkX12_shifts 51 rfl) <| qc_goto (qc_at qkX12_shifts 52 rfl) <| hx) ?_
        obtain ⟨g12, h⟩ := qc_gd_of h
        refine qd_last 32 (qc_at qkX12_shifts 59 rfl) hn rfl (qc_inb_in g12) rfl ?_
        obtain ⟨rfl, rfl, rfl, rfl, rfl⟩ := qc_some5 h
        exact ⟨qc_fm.rf _, qc_goto (qc_at qkX12_shifts 60 rfl) <| qc_vret (qc_at qkX12_shifts 91 rfl) rfl (Nat.le_refl _) (Nat.le_refl _) (qc_eq.rf _ _ _)⟩
    · replace h := qc_jp u9 h
      refine And.imp_right (fun hx => qc_iload (qc_at qkX12_shifts 36 rfl) rfl <| qc_iload_n (qc_at qkX12_shifts 37 rfl) rfl <| qc_bipush (qc_at qkX12_shifts 38 rfl) <| qc_iand (qc_at qkX12_shifts 39 rfl) <| qc_ishl (qc_at qkX12_shifts 40 rfl) <| qc_i2l (qc_at qkX12_shifts 41 rfl) <| qc_goto (qc_at qkX12_shifts 42 rfl) <| hx) ?_
      obtain ⟨g13, h⟩ := qc_gd_of h
      refine qd_last 32 (qc_at qkX12_shifts 59 rfl) hn rfl (qc_inb_in g13) rfl ?_
      obtain ⟨rfl, rfl, rfl, rfl, rfl⟩ := qc_some5 h
      exact ⟨qc_fm.rf _, qc_goto (qc_at qkX12_shifts 60 rfl) <| qc_vret (qc_at qkX12_shifts 91 rfl) rfl (Nat.le_refl _) (Nat.le_refl _) (qc_eq.rf _ _ _)⟩
def fX12_compares_b143 (w : qcW) (I : qTI) (L : qTL) (D : qTD) (R : qTR) (x2 : Int32) (s0 : Int32) : qcO Unit :=
  (if x2 = 0 then (if s0 = 0 then (qc_gd (qc_inb ((I 291 67) - (1 : Int32)) 32) <| some ((), I, (qc_u L 328 (Int32.toNatClampNeg ((I 291 67) - (1 : Int32))) (0 : Int64)), D, R)) else (qc_gd (qc_inb ((I 291 67) - (1 : Int32)) 32) <| some ((), I, (qc_u L 328 (Int32.toNatClampNeg ((I 291 67) - (1 : Int32))) (1 : Int64)), D, R))) else (qc_gd (qc_inb ((I 291 67) - (1 : Int32)) 32) <| some ((), I, (qc_u L 328 (Int32.toNatClampNeg ((I 291 67) - (1 : Int32))) (-1 : Int64)), D, R)))
set_option maxRecDepth 100000 in
set_option maxHeartbeats 4000000 in
theorem tX12_compares_b143 {w : qcW} {I : qTI} {L : qTL} {D : qTD} {R : qTR} {x2 : Int32} {s0 : Int32} {r : Unit} {I' : qTI} {L' : qTL} {D' : qTD} {R' : qTR} (hn : qcNF ≤ w.1) (hR : qc_FR R) (h : fX12_compares_b143 w I L D R x2 s0 = some (r, I', L', D', R')) : qc_fm qcSM (I, L, D, R) (I', L', D', R') ∧ qc_X (qc_rm (0) 0 0) qmX12_compares (qc_QM 0 0 (qc_eq none w (I', L', D', R'))) 0 0 w (143, [(0, .ref 291), (2, .int x2)], [.int s0], I, L, D, R) := by
  unfold fX12_compares_b143 at h
  refine And.imp_right (fun hx => qc_istore_n (lv' := [(3, _), (0, _), (2, _)]) (qc_at qkX12_compares 83 rfl) rfl rfl <| qc_aload_n (qc_at qkX12_compares 84 rfl) rfl <| qc_gR (qc_at qkX12_compares 85 rfl) hn rfl (qfr_291_65 hR) rfl <| qc_aload_n (qc_at qkX12_compares 86 rfl) rfl <| qc_gI (qc_at qkX12_compares 87 rfl) hn rfl <| qc_iconst (qc_at qkX12_compares 88 rfl) <| qc_isub (qc_at qkX12_compares 89 rfl) <| qc_iload_n (qc_at qkX12_compares 90 rfl) rfl <| hx) ?_
  refine qc_andC (qc_if_eq (qc_at qkX12_compares 91 rfl)) (fun u1 => ?_) (fun u1 => ?_)
  · replace h := qc_jp u1 h
    refine And.imp_right (fun hx => qc_iload_n (qc_at qkX12_compares 94 rfl) rfl <| hx) ?_
    refine qc_andC (qc_if_eq (qc_at qkX12_compares 95 rfl)) (fun u2 => ?_) (fun u2 => ?_)
    · replace h := qc_jp u2 h
      refine And.imp_right (fun hx => qc_lconst (qc_at qkX12_compares 98 rfl) <| hx) ?_
      obtain ⟨g3, h⟩ := qc_gd_of h
      refine qd_last 32 (qc_at qkX12_compares 99 rfl) hn rfl (qc_inb_in g3) rfl ?_
      obtain ⟨rfl, rfl, rfl, rfl, rfl⟩ := qc_some5 h
      exact ⟨qc_fm.rf _, qc_vret (qc_at qkX12_compares 100 rfl) rfl (Nat.le_refl _) (Nat.le_refl _) (qc_eq.rf _ _ _)⟩
    · replace h := qc_jn u2 h
      refine And.imp_right (fun hx => qc_lconst (qc_at qkX12_compares 96 rfl) <| qc_goto (qc_at qkX12_compares 97 rfl) <| hx) ?_
      obtain ⟨g4, h⟩ := qc_gd_of h
      refine qd_last 32 (qc_at qkX12_compares 99 rfl) hn rfl (qc_inb_in g4) rfl ?_
      obtain ⟨rfl, rfl, rfl, rfl, rfl⟩ := qc_some5 h
      exact ⟨qc_fm.rf _, qc_vret (qc_at qkX12_compares 100 rfl) rfl (Nat.le_refl _) (Nat.le_refl _) (qc_eq.rf _ _ _)⟩
  · replace h := qc_jn u1 h
    refine And.imp_right (fun hx => qc_ldc2l (qc_at qkX12_compares 92 rfl) <| qc_goto (qc_at qkX12_compares 93 rfl) <| hx) ?_
    obtain ⟨g5, h⟩ := qc_gd_of h
    refine qd_last 32 (qc_at qkX12_compares 99 rfl) hn rfl (qc_inb_in g5) rfl ?_
    obtain ⟨rfl, rfl, rfl, rfl, rfl⟩ := qc_some5 h
    exact ⟨qc_fm.rf _, qc_vret (qc_at qkX12_compares 100 rfl) rfl (Nat.le_refl _) (Nat.le_refl _) (qc_eq.rf _ _ _)⟩
def fX12_compares_b76 (w : qcW) (I : qTI) (L : qTL) (D : qTD) (R : qTR) (x1 : Int32) (s0 : Int32) : qcO Unit :=
  (if (3 : Int32) ≤ x1 then (qc_gd (qc_inb ((I 291 67) - (1 : Int32)) 32) <| qc_gd (qc_inb (I 291 67) 32) <| if (Op.cmpValue (FP.dcmp (D 329 (Int32.toNatClampNeg ((I 291 67) - (1 : Int32)))) (D 329 (Int32.toNatClampNeg (I 291 67)))) .l) ≤ 0 then (fX12_compares_b143 w I L D R s0 (0 : Int32)) else (fX12_compares_b143 w I L D R s0 (1 : Int32))) else (qc_gd (qc_inb ((I 291 67) - (1 : Int32)) 32) <| qc_gd (qc_inb (I 291 67) 32) <| if (lg_cmp (L 328 (Int32.toNatClampNeg ((I 291 67) - (1 : Int32)))) (L 328 (Int32.toNatClampNeg (I 291 67)))) ≤ 0 then (fX12_compares_b143 w I L D R s0 (0 : Int32)) else (fX12_compares_b143 w I L D R s0 (1 : Int32))))
set_option maxRecDepth 100000 in
set_option maxHeartbeats 4000000 in
theorem tX12_compares_b76 {w : qcW} {I : qTI} {L : qTL} {D : qTD} {R : qTR} {x1 : Int32} {s0 : Int32} {r : Unit} {I' : qTI} {L' : qTL} {D' : qTD} {R' : qTR} (hn : qcNF ≤ w.1) (hR : qc_FR R) (h : fX12_compares_b76 w I L D R x1 s0 = some (r, I', L', D', R')) : qc_fm qcSM (I, L, D, R) (I', L', D', R') ∧ qc_X (qc_rm (0) 0 0) qmX12_compares (qc_QM 0 0 (qc_eq none w (I', L', D', R'))) 0 0 w (76, [(0, .ref 291), (1, .int x1)], [.int s0], I, L, D, R) := by
  unfold fX12_compares_b76 at h
  refine And.imp_right (fun hx => qc_istore_n (lv' := [(2, _), (0, _), (1, _)]) (qc_at qkX12_compares 44 rfl) rfl rfl <| qc_iload_n (qc_at qkX12_compares 45 rfl) rfl <| qc_iconst (qc_at qkX12_compares 46 rfl) <| hx) ?_
  refine qc_andC (qc_icmp_ge (qc_at qkX12_compares 47 rfl)) (fun u6 => ?_) (fun u6 => ?_)
  · replace h := qc_jp u6 h
    refine And.imp_right (fun hx => qc_aload_n (qc_at qkX12_compares 66 rfl) rfl <| qc_gR (qc_at qkX12_compares 67 rfl) hn rfl (qfr_291_66 hR) rfl <| qc_aload_n (qc_at qkX12_compares 68 rfl) rfl <| qc_gI (qc_at qkX12_compares 69 rfl) hn rfl <| qc_iconst (qc_at qkX12_compares 70 rfl) <| qc_isub (qc_at qkX12_compares 71 rfl) <| hx) ?_
    obtain ⟨g7, h⟩ := qc_gd_of h
    refine And.imp_right (fun hx => qc_dald 32 (qc_at qkX12_compares 72 rfl) hn rfl (qc_inb_in g7) <| qc_aload_n (qc_at qkX12_compares 73 rfl) rfl <| qc_gR (qc_at qkX12_compares 74 rfl) hn rfl (qfr_291_66 hR) rfl <| qc_aload_n (qc_at qkX12_compares 75 rfl) rfl <| qc_gI (qc_at qkX12_compares 76 rfl) hn rfl <| hx) ?_
    obtain ⟨g8, h⟩ := qc_gd_of h
    refine And.imp_right (fun hx => qc_dald 32 (qc_at qkX12_compares 77 rfl) hn rfl (qc_inb_in g8) <| qc_dcmp (qc_at qkX12_compares 78 rfl) <| hx) ?_
    refine qc_andC (qc_if_le (qc_at qkX12_compares 79 rfl)) (fun u9 => ?_) (fun u9 => ?_)
    · replace h := qc_jp u9 h
      exact And.imp_right (fun hx => qc_iconst (qc_at qkX12_compares 82 rfl) <| qc_sub [1, 0] rfl hx) (tX12_compares_b143 hn hR h)
    · replace h := qc_jn u9 h
      exact And.imp_right (fun hx => qc_iconst (qc_at qkX12_compares 80 rfl) <| qc_goto (qc_at qkX12_compares 81 rfl) <| qc_sub [1, 0] rfl hx) (tX12_compares_b143 hn hR h)
  · replace h := qc_jn u6 h
    refine And.imp_right (fun hx => qc_aload_n (qc_at qkX12_compares 48 rfl) rfl <| qc_gR (qc_at qkX12_compares 49 rfl) hn rfl (qfr_291_65 hR) rfl <| qc_aload_n (qc_at qkX12_compares 50 rfl) rfl <| qc_gI (qc_at qkX12_compares 51 rfl) hn rfl <| qc_iconst (qc_at qkX12_compares 52 rfl) <| qc_isub (qc_at qkX12_compares 53 rfl) <| hx) ?_
    obtain ⟨g10, h⟩ := qc_gd_of h
    refine And.imp_right (fun hx => qc_lald 32 (qc_at qkX12_compares 54 rfl) hn rfl (qc_inb_in g10) <| qc_aload_n (qc_at qkX12_compares 55 rfl) rfl <| qc_gR (qc_at qkX12_compares 56 rfl) hn rfl (qfr_291_65 hR) rfl <| qc_aload_n (qc_at qkX12_compares 57 rfl) rfl <| qc_gI (qc_at qkX12_compares 58 rfl) hn rfl <| hx) ?_
    obtain ⟨g11, h⟩ := qc_gd_of h
    refine And.imp_right (fun hx => qc_lald 32 (qc_at qkX12_compares 59 rfl) hn rfl (qc_inb_in g11) <| qc_lcmp (qc_at qkX12_compares 60 rfl) <| hx) ?_
    refine qc_andC (qc_if_le (qc_at qkX12_compares 61 rfl)) (fun u12 => ?_) (fun u12 => ?_)
    · replace h := qc_jp u12 h
      exact And.imp_right (fun hx => qc_iconst (qc_at qkX12_compares 64 rfl) <| qc_goto (qc_at qkX12_compares 65 rfl) <| qc_sub [1, 0] rfl hx) (tX12_compares_b143 hn hR h)
    · replace h := qc_jn u12 h
      exact And.imp_right (fun hx => qc_iconst (qc_at qkX12_compares 62 rfl) <| qc_goto (qc_at qkX12_compares 63 rfl) <| qc_sub [1, 0] rfl hx) (tX12_compares_b143 hn hR h)
def fX12_compares (w : qcW) (I : qTI) (L : qTL) (D : qTD) (R : qTR) (x1 : Int32) : qcO Unit :=
  (if (3 : Int32) ≤ x1 then (qc_gd (qc_inb (((qc_u I 291 67 ((I 291 67) - (1 : Int32))) 291 67) - (1 : Int32)) 32) <| qc_gd (qc_inb ((qc_u I 291 67 ((I 291 67) - (1 : Int32))) 291 67) 32) <| if 0 ≤ (Op.cmpValue (FP.dcmp (D 329 (Int32.toNatClampNeg (((qc_u I 291 67 ((I 291 67) - (1 : Int32))) 291 67) - (1 : Int32)))) (D 329 (Int32.toNatClampNeg ((qc_u I 291 67 ((I 291 67) - (1 : Int32))) 291 67)))) .g) then (fX12_compares_b76 w (qc_u I 291 67 ((I 291 67) - (1 : Int32))) L D R x1 (0 : Int32)) else (fX12_compares_b76 w (qc_u I 291 67 ((I 291 67) - (1 : Int32))) L D R x1 (1 : Int32))) else (qc_gd (qc_inb (((qc_u I 291 67 ((I 291 67) - (1 : Int32))) 291 67) - (1 : Int32)) 32) <| qc_gd (qc_inb ((qc_u I 291 67 ((I 291 67) - (1 : Int32))) 291 67) 32) <| if 0 ≤ (lg_cmp (L 328 (Int32.toNatClampNeg (((qc_u I 291 67 ((I 291 67) - (1 : Int32))) 291 67) - (1 : Int32)))) (L 328 (Int32.toNatClampNeg ((qc_u I 291 67 ((I 291 67) - (1 : Int32))) 291 67)))) then (fX12_compares_b76 w (qc_u I 291 67 ((I 291 67) - (1 : Int32))) L D R x1 (0 : Int32)) else (fX12_compares_b76 w (qc_u I 291 67 ((I 291 67) - (1 : Int32))) L D R x1 (1 : Int32))))
set_option maxRecDepth 100000 in
set_option maxHeartbeats 4000000 in
theorem tX12_compares {w : qcW} {I : qTI} {L : qTL} {D : qTD} {R : qTR} {x1 : Int32} {r : Unit} {I' : qTI} {L' : qTL} {D' : qTD} {R' : qTR} (hn : qcNF ≤ w.1) (hR : qc_FR R) (h : fX12_compares w I L D R x1 = some (r, I', L', D', R')) : qc_fm qcSM (I, L, D, R) (I', L', D', R') ∧ qc_V (0) 0 0 qmX12_compares [.ref 291, .int x1] w (I, L, D, R) (qc_eq none w (I', L', D', R')) := by
  unfold fX12_compares at h
  refine And.imp_right (fun hx => qc_V.of rfl rfl (Nat.le_of_ble_eq_true rfl) (lv := [(0, .ref 291), (1, .int x1)]) rfl hx) ?_
  refine And.imp_right (fun hx => qc_aload_n (qc_at qkX12_compares 0 rfl) rfl <| qc_dup (qc_at qkX12_compares 1 rfl) rfl <| qc_gI (qc_at qkX12_compares 2 rfl) hn rfl <| qc_iconst (qc_at qkX12_compares 3 rfl) <| qc_isub (qc_at qkX12_compares 4 rfl) <| hx) (qd_pI (qc_at qkX12_compares 5 rfl) hn rfl rfl ?_)
  refine And.imp_right (fun hx => qc_iload_n (qc_at qkX12_compares 6 rfl) rfl <| qc_iconst (qc_at qkX12_compares 7 rfl) <| hx) ?_
  refine qc_andC (qc_icmp_ge (qc_at qkX12_compares 8 rfl)) (fun u13 => ?_) (fun u13 => ?_)
  · replace h := qc_jp u13 h
    refine And.imp_right (fun hx => qc_aload_n (qc_at qkX12_compares 27 rfl) rfl <| qc_gR (qc_at qkX12_compares 28 rfl) hn rfl (qfr_291_66 hR) rfl <| qc_aload_n (qc_at qkX12_compares 29 rfl) rfl <| qc_gI (qc_at qkX12_compares 30 rfl) hn rfl <| qc_iconst (qc_at qkX12_compares 31 rfl) <| qc_isub (qc_at qkX12_compares 32 rfl) <| hx) ?_
    obtain ⟨g14, h⟩ := qc_gd_of h
    refine And.imp_right (fun hx => qc_dald 32 (qc_at qkX12_compares 33 rfl) hn rfl (qc_inb_in g14) <| qc_aload_n (qc_at qkX12_compares 34 rfl) rfl <| qc_gR (qc_at qkX12_compares 35 rfl) hn rfl (qfr_291_66 hR) rfl <| qc_aload_n (qc_at qkX12_compares 36 rfl) rfl <| qc_gI (qc_at qkX12_compares 37 rfl) hn rfl <| hx) ?_
    obtain ⟨g15, h⟩ := qc_gd_of h
    refine And.imp_right (fun hx => qc_dald 32 (qc_at qkX12_compares 38 rfl) hn rfl (qc_inb_in g15) <| qc_dcmp (qc_at qkX12_compares 39 rfl) <| hx) ?_
    refine qc_andC (qc_if_ge (qc_at qkX12_compares 40 rfl)) (fun u16 => ?_) (fun u16 => ?_)
    · replace h := qc_jp u16 h
      exact And.imp_right (fun hx => qc_iconst (qc_at qkX12_compares 43 rfl) <| qc_sub [0, 1] rfl hx) (tX12_compares_b76 hn hR h)
    · replace h := qc_jn u16 h
      exact And.imp_right (fun hx => qc_iconst (qc_at qkX12_compares 41 rfl) <| qc_goto (qc_at qkX12_compares 42 rfl) <| qc_sub [0, 1] rfl hx) (tX12_compares_b76 hn hR h)
  · replace h := qc_jn u13 h
    refine And.imp_right (fun hx => qc_aload_n (qc_at qkX12_compares 9 rfl) rfl <| qc_gR (qc_at qkX12_compares 10 rfl) hn rfl (qfr_291_65 hR) rfl <| qc_aload_n (qc_at qkX12_compares 11 rfl) rfl <| qc_gI (qc_at qkX12_compares 12 rfl) hn rfl <| qc_iconst (qc_at qkX12_compares 13 rfl) <| qc_isub (qc_at qkX12_compares 14 rfl) <| hx) ?_
    obtain ⟨g17, h⟩ := qc_gd_of h
    refine And.imp_right (fun hx => qc_lald 32 (qc_at qkX12_compares 15 rfl) hn rfl (qc_inb_in g17) <| qc_aload_n (qc_at qkX12_compares 16 rfl) rfl <| qc_gR (qc_at qkX12_compares 17 rfl) hn rfl (qfr_291_65 hR) rfl <| qc_aload_n (qc_at qkX12_compares 18 rfl) rfl <| qc_gI (qc_at qkX12_compares 19 rfl) hn rfl <| hx) ?_
    obtain ⟨g18, h⟩ := qc_gd_of h
    refine And.imp_right (fun hx => qc_lald 32 (qc_at qkX12_compares 20 rfl) hn rfl (qc_inb_in g18) <| qc_lcmp (qc_at qkX12_compares 21 rfl) <| hx) ?_
    refine qc_andC (qc_if_ge (qc_at qkX12_compares 22 rfl)) (fun u19 => ?_) (fun u19 => ?_)
    · replace h := qc_jp u19 h
      exact And.imp_right (fun hx => qc_iconst (qc_at qkX12_compares 25 rfl) <| qc_goto (qc_at qkX12_compares 26 rfl) <| qc_sub [0, 1] rfl hx) (tX12_compares_b76 hn hR h)
    · replace h := qc_jn u19 h
      exact And.imp_right (fun hx => qc_iconst (qc_at qkX12_compares 23 rfl) <| qc_goto (qc_at qkX12_compares 24 rfl) <| qc_sub [0, 1] rfl hx) (tX12_compares_b76 hn hR h)
def fX12_isSo (w : qcW) (I : qTI) (L : qTL) (D : qTD) (R : qTR) (x0 : Int32) (x1 : Int64) : qcO Bool :=
  (if x0 = 0 then (if (lg_cmp x1 (0 : Int64)) = 0 then (some (true, I, L, D, R)) else (some (false, I, L, D, R))) else (if x0 = (1 : Int32) then (if (lg_cmp x1 (0 : Int64)) = 0 then (some (false, I, L, D, R)) else (some (true, I, L, D, R))) else (if x0 = (2 : Int32) then (if 0 ≤ (lg_cmp x1 (0 : Int64)) then (some (false, I, L, D, R)) else (some (true, I, L, D, R))) else (if x0 = (3 : Int32) then (if (lg_cmp x1 (0 : Int64)) ≤ 0 then (some (false, I, L, D, R)) else (some (true, I, L, D, R))) else (if x0 = (4 : Int32) then (if 0 < (lg_cmp x1 (0 : Int64)) then (some (false, I, L, D, R)) else (some (true, I, L, D, R))) else (if (lg_cmp x1 (0 : Int64)) < 0 then (some (false, I, L, D, R)) else (some (true, I, L, D, R))))))))
set_option maxRecDepth 100000 in
set_option maxHeartbeats 4000000 in
theorem tX12_isSo {w : qcW} {I : qTI} {L : qTL} {D : qTD} {R : qTR} {x0 : Int32} {x1 : Int64} {r : Bool} {I' : qTI} {L' : qTL} {D' : qTD} {R' : qTR} (hn : qcNF ≤ w.1) (hR : qc_FR R) (h : fX12_isSo w I L D R x0 x1 = some (r, I', L', D', R')) : qc_fm qcSM (I, L, D, R) (I', L', D', R') ∧ qc_V (0) 0 0 qmX12_isSo [.int x0, .long x1] w (I, L, D, R) (qc_eq (some (.int (qc_b r))) w (I', L', D', R')) := by
  unfold fX12_isSo at h
  refine And.imp_right (fun hx => qc_V.of rfl rfl (Nat.le_of_ble_eq_true rfl) (lv := [(0, .int x0), (1, .long x1)]) rfl hx) ?_
  refine And.imp_right (fun hx => qc_iload_n (qc_at qkX12_isSo 0 rfl) rfl <| hx) ?_
  refine qc_andN (qc_if_ne (qc_at qkX12_isSo 1 rfl)) (fun u1 => ?_) (fun u1 => ?_)
  · replace h := qc_jn u1 h
    refine And.imp_right (fun hx => qc_iload_n (qc_at qkX12_isSo 10 rfl) rfl <| qc_iconst (qc_at qkX12_isSo 11 rfl) <| hx) ?_
    refine qc_andN (qc_icmp_ne (qc_at qkX12_isSo 12 rfl)) (fun u2 => ?_) (fun u2 => ?_)
    · replace h := qc_jn u2 h
      refine And.imp_right (fun hx => qc_iload_n (qc_at qkX12_isSo 21 rfl) rfl <| qc_iconst (qc_at qkX12_isSo 22 rfl) <| hx) ?_
      refine qc_andN (qc_icmp_ne (qc_at qkX12_isSo 23 rfl)) (fun u3 => ?_) (fun u3 => ?_)
      · replace h := qc_jn u3 h
        refine And.imp_right (fun hx => qc_iload_n (qc_at qkX12_isSo 32 rfl) rfl <| qc_iconst (qc_at qkX12_isSo 33 rfl) <| hx) ?_
        refine qc_andN (qc_icmp_ne (qc_at qkX12_isSo 34 rfl)) (fun u4 => ?_) (fun u4 => ?_)
        · replace h := qc_jn u4 h
          refine And.imp_right (fun hx => qc_iload_n (qc_at qkX12_isSo 43 rfl) rfl <| qc_iconst (qc_at qkX12_isSo 44 rfl) <| hx) ?_
          refine qc_andN (qc_icmp_ne (qc_at qkX12_isSo 45 rfl)) (fun u5 => ?_) (fun u5 => ?_)
          · replace h := qc_jn u5 h
            refine And.imp_right (fun hx => qc_lload_n (qc_at qkX12_isSo 54 rfl) rfl <| qc_lconst (qc_at qkX12_isSo 55 rfl) <| qc_lcmp (qc_at qkX12_isSo 56 rfl) <| hx) ?_
            refine qc_andC (qc_if_lt (qc_at qkX12_isSo 57 rfl)) (fun u6 => ?_) (fun u6 => ?_)
            · replace h := qc_jp u6 h
              obtain ⟨rfl, rfl, rfl, rfl, rfl⟩ := qc_some5 h
              exact ⟨qc_fm.rf _, qc_iconst (qc_at qkX12_isSo 60 rfl) <| qc_zret (qc_at qkX12_isSo 61 rfl) rfl (Or.inl rfl) (Nat.le_refl _) (Nat.le_refl _) ⟨rfl, rfl, rfl⟩⟩
            · replace h := qc_jn u6 h
              obtain ⟨rfl, rfl, rfl, rfl, rfl⟩ := qc_some5 h
              exact ⟨qc_fm.rf _, qc_iconst (qc_at qkX12_isSo 58 rfl) <| qc_goto (qc_at qkX12_isSo 59 rfl) <| qc_zret (qc_at qkX12_isSo 61 rfl) rfl (Or.inr rfl) (Nat.le_refl _) (Nat.le_refl _) ⟨rfl, rfl, rfl⟩⟩
          · replace h := qc_jp u5 h
            refine And.imp_right (fun hx => qc_lload_n (qc_at qkX12_isSo 46 rfl) rfl <| qc_lconst (qc_at qkX12_isSo 47 rfl) <| qc_lcmp (qc_at qkX12_isSo 48 rfl) <| hx) ?_
            refine qc_andC (qc_if_gt (qc_at qkX12_isSo 49 rfl)) (fun u7 => ?_) (fun u7 => ?_)
            · replace h := qc_jp u7 h
              obtain ⟨rfl, rfl, rfl, rfl, rfl⟩ := qc_some5 h
              exact ⟨qc_fm.rf _, qc_iconst (qc_at qkX12_isSo 52 rfl) <| qc_goto (qc_at qkX12_isSo 53 rfl) <| qc_zret (qc_at qkX12_isSo 61 rfl) rfl (Or.inl rfl) (Nat.le_refl _) (Nat.le_refl _) ⟨rfl, rfl, rfl⟩⟩
            · replace h := qc_jn u7 h
              obtain ⟨rfl, rfl, rfl, rfl, rfl⟩ := qc_some5 h
              exact ⟨qc_fm.rf _, qc_iconst (qc_at qkX12_isSo 50 rfl) <| qc_goto (qc_at qkX12_isSo 51 rfl) <| qc_zret (qc_at qkX12_isSo 61 rfl) rfl (Or.inr rfl) (Nat.le_refl _) (Nat.le_refl _) ⟨rfl, rfl, rfl⟩⟩
        · replace h := qc_jp u4 h
          refine And.imp_right (fun hx => qc_lload_n (qc_at qkX12_isSo 35 rfl) rfl <| qc_lconst (qc_at qkX12_isSo 36 rfl) <| qc_lcmp (qc_at qkX12_isSo 37 rfl) <| hx) ?_
          refine qc_andC (qc_if_le (qc_at qkX12_isSo 38 rfl)) (fun u8 => ?_) (fun u8 => ?_)
          · replace h := qc_jp u8 h
            obtain ⟨rfl, rfl, rfl, rfl, rfl⟩ := qc_some5 h
            exact ⟨qc_fm.rf _, qc_iconst (qc_at qkX12_isSo 41 rfl) <| qc_goto (qc_at qkX12_isSo 42 rfl) <| qc_zret (qc_at qkX12_isSo 61 rfl) rfl (Or.inl rfl) (Nat.le_refl _) (Nat.le_refl _) ⟨rfl, rfl, rfl⟩⟩
          · replace h := qc_jn u8 h
            obtain ⟨rfl, rfl, rfl, rfl, rfl⟩ := qc_some5 h
            exact ⟨qc_fm.rf _, qc_iconst (qc_at qkX12_isSo 39 rfl) <| qc_goto (qc_at qkX12_isSo 40 rfl) <| qc_zret (qc_at qkX12_isSo 61 rfl) rfl (Or.inr rfl) (Nat.le_refl _) (Nat.le_refl _) ⟨rfl, rfl, rfl⟩⟩
      · replace h := qc_jp u3 h
        refine And.imp_right (fun hx => qc_lload_n (qc_at qkX12_isSo 24 rfl) rfl <| qc_lconst (qc_at qkX12_isSo 25 rfl) <| qc_lcmp (qc_at qkX12_isSo 26 rfl) <| hx) ?_
        refine qc_andC (qc_if_ge (qc_at qkX12_isSo 27 rfl)) (fun u9 => ?_) (fun u9 => ?_)
        · replace h := qc_jp u9 h
          obtain ⟨rfl, rfl, rfl, rfl, rfl⟩ := qc_some5 h
          exact ⟨qc_fm.rf _, qc_iconst (qc_at qkX12_isSo 30 rfl) <| qc_goto (qc_at qkX12_isSo 31 rfl) <| qc_zret (qc_at qkX12_isSo 61 rfl) rfl (Or.inl rfl) (Nat.le_refl _) (Nat.le_refl _) ⟨rfl, rfl, rfl⟩⟩
        · replace h := qc_jn u9 h
          obtain ⟨rfl, rfl, rfl, rfl, rfl⟩ := qc_some5 h
          exact ⟨qc_fm.rf _, qc_iconst (qc_at qkX12_isSo 28 rfl) <| qc_goto (qc_at qkX12_isSo 29 rfl) <| qc_zret (qc_at qkX12_isSo 61 rfl) rfl (Or.inr rfl) (Nat.le_refl _) (Nat.le_refl _) ⟨rfl, rfl, rfl⟩⟩
    · replace h := qc_jp u2 h
      refine And.imp_right (fun hx => qc_lload_n (qc_at qkX12_isSo 13 rfl) rfl <| qc_lconst (qc_at qkX12_isSo 14 rfl) <| qc_lcmp (qc_at qkX12_isSo 15 rfl) <| hx) ?_
      refine qc_andC (qc_if_eq (qc_at qkX12_isSo 16 rfl)) (fun u10 => ?_) (fun u10 => ?_)
      · replace h := qc_jp u10 h
        obtain ⟨rfl, rfl, rfl, rfl, rfl⟩ := qc_some5 h
        exact ⟨qc_fm.rf _, qc_iconst (qc_at qkX12_isSo 19 rfl) <| qc_goto (qc_at qkX12_isSo 20 rfl) <| qc_zret (qc_at qkX12_isSo 61 rfl) rfl (Or.inl rfl) (Nat.le_refl _) (Nat.le_refl _) ⟨rfl, rfl, rfl⟩⟩
      · replace h := qc_jn u10 h
        obtain ⟨rfl, rfl, rfl, rfl, rfl⟩ := qc_some5 h
        exact ⟨qc_fm.rf _, qc_iconst (qc_at qkX12_isSo 17 rfl) <| qc_goto (qc_at qkX12_isSo 18 rfl) <| qc_zret (qc_at qkX12_isSo 61 rfl) rfl (Or.inr rfl) (Nat.le_refl _) (Nat.le_refl _) ⟨rfl, rfl, rfl⟩⟩
  · replace h := qc_jp u1 h
    refine And.imp_right (fun hx => qc_lload_n (qc_at qkX12_isSo 2 rfl) rfl <| qc_lconst (qc_at qkX12_isSo 3 rfl) <| qc_lcmp (qc_at qkX12_isSo 4 rfl) <| hx) ?_
    refine qc_andN (qc_if_ne (qc_at qkX12_isSo 5 rfl)) (fun u11 => ?_) (fun u11 => ?_)
    · replace h := qc_jn u11 h
      obtain ⟨rfl, rfl, rfl, rfl, rfl⟩ := qc_some5 h
      exact ⟨qc_fm.rf _, qc_iconst (qc_at qkX12_isSo 8 rfl) <| qc_goto (qc_at qkX12_isSo 9 rfl) <| qc_zret (qc_at qkX12_isSo 61 rfl) rfl (Or.inl rfl) (Nat.le_refl _) (Nat.le_refl _) ⟨rfl, rfl, rfl⟩⟩
    · replace h := qc_jp u11 h
      obtain ⟨rfl, rfl, rfl, rfl, rfl⟩ := qc_some5 h
      exact ⟨qc_fm.rf _, qc_iconst (qc_at qkX12_isSo 6 rfl) <| qc_goto (qc_at qkX12_isSo 7 rfl) <| qc_zret (qc_at qkX12_isSo 61 rfl) rfl (Or.inr rfl) (Nat.le_refl _) (Nat.le_refl _) ⟨rfl, rfl, rfl⟩⟩
def fX12_converts_b105 (w : qcW) (I : qTI) (L : qTL) (D : qTD) (R : qTR) (x1 : Int32) (x2 : Int32) (x3 : Int32) : qcO Unit :=
  (if (3 : Int32) ≤ x1 then (if (3 : Int32) ≤ x2 then (if x2 = (3 : Int32) then (qc_gd (qc_inb x3 32) <| qc_gd (qc_n32 (FP.d2f (D 329 (Int32.toNatClampNeg x3)))) <| qc_gd (qc_n64 (FP.f2d (FP.d2f (D 329 (Int32.toNatClampNeg x3))))) <| qc_gd (qc_inb x3 32) <| some ((), I, L, (qc_u D 329 (Int32.toNatClampNeg x3) (FP.f2d (FP.d2f (D 329 (Int32.toNatClampNeg x3))))), R)) else (qc_gd (qc_inb x3 32) <| qc_gd (qc_inb x3 32) <| some ((), I, L, (qc_u D 329 (Int32.toNatClampNeg x3) (D 329 (Int32.toNatClampNeg x3))), R))) else (if x2 = (1 : Int32) then (qc_gd (qc_inb x3 32) <| qc_gd (qc_inb x3 32) <| some ((), I, (qc_u L 328 (Int32.toNatClampNeg x3) (Int32.toInt64 (FP.d2i (D 329 (Int32.toNatClampNeg x3))))), D, R)) else (qc_gd (qc_inb x3 32) <| qc_gd (qc_inb x3 32) <| some ((), I, (qc_u L 328 (Int32.toNatClampNeg x3) (FP.d2l (D 329 (Int32.toNatClampNeg x3)))), D, R)))) else (if x2 = (3 : Int32) then (qc_gd (qc_inb x3 32) <| qc_gd (qc_n64 (FP.f2d (FP.l2f (L 328 (Int32.toNatClampNeg x3))))) <| qc_gd (qc_inb x3 32) <| some ((), I, L, (qc_u D 329 (Int32.toNatClampNeg x3) (FP.f2d (FP.l2f (L 328 (Int32.toNatClampNeg x3))))), R)) else (qc_gd (qc_inb x3 32) <| qc_gd (qc_inb x3 32) <| some ((), I, L, (qc_u D 329 (Int32.toNatClampNeg x3) (FP.l2d (L 328 (Int32.toNatClampNeg x3)))), R))))
set_option maxRecDepth 100000 in
set_option maxHeartbeats 4000000 in
theorem tX12_converts_b105 {w : qcW} {I : qTI} {L : qTL} {D : qTD} {R : qTR} {x1 : Int32} {x2 : Int32} {x3 : Int32} {r : Unit} {I' : qTI} {L' : qTL} {D' : qTD} {R' : qTR} (hn : qcNF ≤ w.1) (hR : qc_FR R) (h : fX12_converts_b105 w I L D R x1 x2 x3 = some (r, I', L', D', R')) : qc_fm qcSM (I, L, D, R) (I', L', D', R') ∧ qc_X (qc_rm (0) 0 0) qmX12_converts (qc_QM 0 0 (qc_eq none w (I', L', D', R'))) 0 0 w (105, [(0, .ref 291), (1, .int x1), (2, .int x2), (3, .int x3)], [], I, L, D, R) := by
  unfold fX12_converts_b105 at h
  refine And.imp_right (fun hx => qc_iload_n (qc_at qkX12_converts 67 rfl) rfl <| qc_iconst (qc_at qkX12_converts 68 rfl) <| hx) ?_
  refine qc_andC (qc_icmp_ge (qc_at qkX12_converts 69 rfl)) (fun u1 => ?_) (fun u1 => ?_)
  · replace h := qc_jp u1 h
    refine And.imp_right (fun hx => qc_iload_n (qc_at qkX12_converts 90 rfl) rfl <| qc_iconst (qc_at qkX12_converts 91 rfl) <| hx) ?_
    refine qc_andC (qc_icmp_ge (qc_at qkX12_converts 92 rfl)) (fun u2 => ?_) (fun u2 => ?_)
    · replace h := qc_jp u2 h
      refine And.imp_right (fun hx => qc_aload_n (qc_at qkX12_converts 113 rfl) rfl <| qc_gR (qc_at qkX12_converts 114 rfl) hn rfl (qfr_291_66 hR) rfl <| qc_iload_n (qc_at qkX12_converts 115 rfl) rfl <| qc_iload_n (qc_at qkX12_converts 116 rfl) rfl <| qc_iconst (qc_at qkX12_converts 117 rfl) <| hx) ?_
      refine qc_andN (qc_icmp_ne (qc_at qkX12_converts 118 rfl)) (fun u3 => ?_) (fun u3 => ?_)
      · replace h := qc_jn u3 h
        refine And.imp_right (fun hx => qc_aload_n (qc_at qkX12_converts 126 rfl) rfl <| qc_gR (qc_at qkX12_converts 127 rfl) hn rfl (qfr_291_66 hR) rfl <| qc_iload_n (qc_at qkX12_converts 128 rfl) rfl <| hx) ?_
        obtain ⟨g4, h⟩ := qc_gd_of h
        refine And.imp_right (fun hx => qc_dald 32 (qc_at qkX12_converts 129 rfl) hn rfl (qc_inb_in g4) <| hx) ?_
        obtain ⟨g5, h⟩ := qc_gd_of h
        refine qd_dast 32 (qc_at qkX12_converts 130 rfl) hn rfl (qc_inb_in g5) rfl ?_
        obtain ⟨rfl, rfl, rfl, rfl, rfl⟩ := qc_some5 h
        exact ⟨qc_fm.rf _, qc_vret (qc_at qkX12_converts 131 rfl) rfl (Nat.le_refl _) (Nat.le_refl _) (qc_eq.rf _ _ _)⟩
      · replace h := qc_jp u3 h
        refine And.imp_right (fun hx => qc_aload_n (qc_at qkX12_converts 119 rfl) rfl <| qc_gR (qc_at qkX12_converts 120 rfl) hn rfl (qfr_291_66 hR) rfl <| qc_iload_n (qc_at qkX12_converts 121 rfl) rfl <| hx) ?_
        obtain ⟨g6, h⟩ := qc_gd_of h
        refine And.imp_right (fun hx => qc_dald 32 (qc_at qkX12_converts 122 rfl) hn rfl (qc_inb_in g6) <| hx) ?_
        obtain ⟨g7, h⟩ := qc_gd_of h
        replace g7 := qc_n32_of g7
        refine And.imp_right (fun hx => qc_d2f (qc_at qkX12_converts 123 rfl) g7 <| hx) ?_
        obtain ⟨g8, h⟩ := qc_gd_of h
        replace g8 := qc_n64_of g8
        refine And.imp_right (fun hx => qc_f2d (qc_at qkX12_converts 124 rfl) g8 <| qc_goto (qc_at qkX12_converts 125 rfl) <| hx) ?_
        obtain ⟨g9, h⟩ := qc_gd_of h
        refine qd_dast 32 (qc_at qkX12_converts 130 rfl) hn rfl (qc_inb_in g9) rfl ?_
        obtain ⟨rfl, rfl, rfl, rfl, rfl⟩ := qc_some5 h
        exact ⟨qc_fm.rf _, qc_vret (qc_at qkX12_converts 131 rfl) rfl (Nat.le_refl _) (Nat.le_refl _) (qc_eq.rf _ _ _)⟩
    · replace h := qc_jn u2 h
      refine And.imp_right (fun hx => qc_aload_n (qc_at qkX12_converts 93 rfl) rfl <| qc_gR (qc_at qkX12_converts 94 rfl) hn rfl (qfr_291_65 hR) rfl <| qc_iload_n (qc_at qkX12_converts 95 rfl) rfl <| qc_iload_n (qc_at qkX12_converts 96 rfl) rfl <| qc_iconst (qc_at qkX12_converts 97 rfl) <| hx) ?_
      refine qc_andN (qc_icmp_ne (qc_at qkX12_converts 98 rfl)) (fun u10 => ?_) (fun u10 => ?_)
      · replace h := qc_jn u10 h
        refine And.imp_right (fun hx => qc_aload_n (qc_at qkX12_converts 106 rfl) rfl <| qc_gR (qc_at qkX12_converts 107 rfl) hn rfl (qfr_291_66 hR) rfl <| qc_iload_n (qc_at qkX12_converts 108 rfl) rfl <| hx) ?_
        obtain ⟨g11, h⟩ := qc_gd_of h
        refine And.imp_right (fun hx => qc_dald 32 (qc_at qkX12_converts 109 rfl) hn rfl (qc_inb_in g11) <| qc_d2l (qc_at qkX12_converts 110 rfl) <| hx) ?_
        obtain ⟨g12, h⟩ := qc_gd_of h
        refine qd_last 32 (qc_at qkX12_converts 111 rfl) hn rfl (qc_inb_in g12) rfl ?_
        obtain ⟨rfl, rfl, rfl, rfl, rfl⟩ := qc_some5 h
        exact ⟨qc_fm.rf _, qc_goto (qc_at qkX12_converts 112 rfl) <| qc_vret (qc_at qkX12_converts 131 rfl) rfl (Nat.le_refl _) (Nat.le_refl _) (qc_eq.rf _ _ _)⟩
      · replace h := qc_jp u10 h
        refine And.imp_right (fun hx => qc_aload_n (qc_at qkX12_converts 99 rfl) rfl <| qc_gR (qc_at qkX12_converts 100 rfl) hn rfl (qfr_291_66 hR) rfl <| qc_iload_n (qc_at qkX12_converts 101 rfl) rfl <| hx) ?_
        obtain ⟨g13, h⟩ := qc_gd_of h
        refine And.imp_right (fun hx => qc_dald 32 (qc_at qkX12_converts 102 rfl) hn rfl (qc_inb_in g13) <| qc_d2i (qc_at qkX12_converts 103 rfl) <| qc_i2l (qc_at qkX12_converts 104 rfl) <| qc_goto (qc_at qkX12_converts 105 rfl) <| hx) ?_
        obtain ⟨g14, h⟩ := qc_gd_of h
        refine qd_last 32 (qc_at qkX12_converts 111 rfl) hn rfl (qc_inb_in g14) rfl ?_
        obtain ⟨rfl, rfl, rfl, rfl, rfl⟩ := qc_some5 h
        exact ⟨qc_fm.rf _, qc_goto (qc_at qkX12_converts 112 rfl) <| qc_vret (qc_at qkX12_converts 131 rfl) rfl (Nat.le_refl _) (Nat.le_refl _) (qc_eq.rf _ _ _)⟩
  · replace h := qc_jn u1 h
    refine And.imp_right (fun hx => qc_aload_n (qc_at qkX12_converts 70 rfl) rfl <| qc_gR (qc_at qkX12_converts 71 rfl) hn rfl (qfr_291_66 hR) rfl <| qc_iload_n (qc_at qkX12_converts 72 rfl) rfl <| qc_iload_n (qc_at qkX12_converts 73 rfl) rfl <| qc_iconst (qc_at qkX12_converts 74 rfl) <| hx) ?_
    refine qc_andN (qc_icmp_ne (qc_at qkX12_converts 75 rfl)) (fun u15 => ?_) (fun u15 => ?_)
    · replace h := qc_jn u15 h
      refine And.imp_right (fun hx => qc_aload_n (qc_at qkX12_converts 83 rfl) rfl <| qc_gR (qc_at qkX12_converts 84 rfl) hn rfl (qfr_291_65 hR) rfl <| qc_iload_n (qc_at qkX12_converts 85 rfl) rfl <| hx) ?_
      obtain ⟨g16, h⟩ := qc_gd_of h
      refine And.imp_right (fun hx => qc_lald 32 (qc_at qkX12_converts 86 rfl) hn rfl (qc_inb_in g16) <| qc_l2d (qc_at qkX12_converts 87 rfl) <| hx) ?_
      obtain ⟨g17, h⟩ := qc_gd_of h
      refine qd_dast 32 (qc_at qkX12_converts 88 rfl) hn rfl (qc_inb_in g17) rfl ?_
      obtain ⟨rfl, rfl, rfl, rfl, rfl⟩ := qc_some5 h
      exact ⟨qc_fm.rf _, qc_goto (qc_at qkX12_converts 89 rfl) <| qc_vret (qc_at qkX12_converts 131 rfl) rfl (Nat.le_refl _) (Nat.le_refl _) (qc_eq.rf _ _ _)⟩
    · replace h := qc_jp u15 h
      refine And.imp_right (fun hx => qc_aload_n (qc_at qkX12_converts 76 rfl) rfl <| qc_gR (qc_at qkX12_converts 77 rfl) hn rfl (qfr_291_65 hR) rfl <| qc_iload_n (qc_at qkX12_converts 78 rfl) rfl <| hx) ?_
      obtain ⟨g18, h⟩ := qc_gd_of h
      refine And.imp_right (fun hx => qc_lald 32 (qc_at qkX12_converts 79 rfl) hn rfl (qc_inb_in g18) <| qc_l2f (qc_at qkX12_converts 80 rfl) <| hx) ?_
      obtain ⟨g19, h⟩ := qc_gd_of h
      replace g19 := qc_n64_of g19
      refine And.imp_right (fun hx => qc_f2d (qc_at qkX12_converts 81 rfl) g19 <| qc_goto (qc_at qkX12_converts 82 rfl) <| hx) ?_
      obtain ⟨g20, h⟩ := qc_gd_of h
      refine qd_dast 32 (qc_at qkX12_converts 88 rfl) hn rfl (qc_inb_in g20) rfl ?_
      obtain ⟨rfl, rfl, rfl, rfl, rfl⟩ := qc_some5 h
      exact ⟨qc_fm.rf _, qc_goto (qc_at qkX12_converts 89 rfl) <| qc_vret (qc_at qkX12_converts 131 rfl) rfl (Nat.le_refl _) (Nat.le_refl _) (qc_eq.rf _ _ _)⟩
def fX12_converts (w : qcW) (I : qTI) (L : qTL) (D : qTD) (R : qTR) (x1 : Int32) (x2 : Int32) : qcO Unit :=
  (if x1 = (5 : Int32) then (if x2 = (1 : Int32) then (qc_gd (qc_inb ((I 291 67) - (1 : Int32)) 32) <| qc_gd (qc_inb ((I 291 67) - (1 : Int32)) 32) <| some ((), I, (qc_u L 328 (Int32.toNatClampNeg ((I 291 67) - (1 : Int32))) (Int32.toInt64 (Int8.toInt32 (Int32.toInt8 (Int64.toInt32 (L 328 (Int32.toNatClampNeg ((I 291 67) - (1 : Int32))))))))), D, R)) else (if x2 = (2 : Int32) then (qc_gd (qc_inb ((I 291 67) - (1 : Int32)) 32) <| qc_gd (qc_inb ((I 291 67) - (1 : Int32)) 32) <| some ((), I, (qc_u L 328 (Int32.toNatClampNeg ((I 291 67) - (1 : Int32))) (Int32.toInt64 (Int16.toInt32 (Int32.toInt16 (Int64.toInt32 (L 328 (Int32.toNatClampNeg ((I 291 67) - (1 : Int32))))))))), D, R)) else (qc_gd (qc_inb ((I 291 67) - (1 : Int32)) 32) <| qc_gd (qc_inb ((I 291 67) - (1 : Int32)) 32) <| some ((), I, (qc_u L 328 (Int32.toNatClampNeg ((I 291 67) - (1 : Int32))) (Int32.toInt64 (UInt32.toInt32 (Int32.toUInt32 (Int64.toInt32 (L 328 (Int32.toNatClampNeg ((I 291 67) - (1 : Int32))))) % 65536)))), D, R)))) else (if (3 : Int32) ≤ x1 then (fX12_converts_b105 w I L D R x1 x2 ((I 291 67) - (1 : Int32))) else (if (3 : Int32) ≤ x2 then (fX12_converts_b105 w I L D R x1 x2 ((I 291 67) - (1 : Int32))) else (if x2 = (1 : Int32) then (qc_gd (qc_inb ((I 291 67) - (1 : Int32)) 32) <| qc_gd (qc_inb ((I 291 67) - (1 : Int32)) 32) <| some ((), I, (qc_u L 328 (Int32.toNatClampNeg ((I 291 67) - (1 : Int32))) (Int32.toInt64 (Int64.toInt32 (L 328 (Int32.toNatClampNeg ((I 291 67) - (1 : Int32))))))), D, R)) else (qc_gd (qc_inb ((I 291 67) - (1 : Int32)) 32) <| qc_gd (qc_inb ((I 291 67) - (1 : Int32)) 32) <| some ((), I, (qc_u L 328 (Int32.toNatClampNeg ((I 291 67) - (1 : Int32))) (L 328 (Int32.toNatClampNeg ((I 291 67) - (1 : Int32))))), D, R))))))
set_option maxRecDepth 100000 in
set_option maxHeartbeats 4000000 in
theorem tX12_converts {w : qcW} {I : qTI} {L : qTL} {D : qTD} {R : qTR} {x1 : Int32} {x2 : Int32} {r : Unit} {I' : qTI} {L' : qTL} {D' : qTD} {R' : qTR} (hn : qcNF ≤ w.1) (hR : qc_FR R) (h : fX12_converts w I L D R x1 x2 = some (r, I', L', D', R')) : qc_fm qcSM (I, L, D, R) (I', L', D', R') ∧ qc_V (0) 0 0 qmX12_converts [.ref 291, .int x1, .int x2] w (I, L, D, R) (qc_eq none w (I', L', D', R')) := by
  unfold fX12_converts at h
  refine And.imp_right (fun hx => qc_V.of rfl rfl (Nat.le_of_ble_eq_true rfl) (lv := [(0, .ref 291), (1, .int x1), (2, .int x2)]) rfl hx) ?_
  refine And.imp_right (fun hx => qc_aload_n (qc_at qkX12_converts 0 rfl) rfl <| qc_gI (qc_at qkX12_converts 1 rfl) hn rfl <| qc_iconst (qc_at qkX12_converts 2 rfl) <| qc_isub (qc_at qkX12_converts 3 rfl) <| qc_istore_n (lv' := [(3, _), (0, _), (1, _), (2, _)]) (qc_at qkX12_converts 4 rfl) rfl rfl <| qc_iload_n (qc_at qkX12_converts 5 rfl) rfl <| qc_iconst (qc_at qkX12_converts 6 rfl) <| hx) ?_
  refine qc_andN (qc_icmp_ne (qc_at qkX12_converts 7 rfl)) (fun u21 => ?_) (fun u21 => ?_)
  · replace h := qc_jn u21 h
    refine And.imp_right (fun hx => qc_iload_n (qc_at qkX12_converts 42 rfl) rfl <| qc_iconst (qc_at qkX12_converts 43 rfl) <| hx) ?_
    refine qc_andC (qc_icmp_ge (qc_at qkX12_converts 44 rfl)) (fun u22 => ?_) (fun u22 => ?_)
    · replace h := qc_jp u22 h
      exact And.imp_right (fun hx => qc_sub [1, 2, 3, 0] rfl hx) (tX12_converts_b105 hn hR h)
    · replace h := qc_jn u22 h
      refine And.imp_right (fun hx => qc_iload_n (qc_at qkX12_converts 45 rfl) rfl <| qc_iconst (qc_at qkX12_converts 46 rfl) <| hx) ?_
      refine qc_andC (qc_icmp_ge (qc_at qkX12_converts 47 rfl)) (fun u23 => ?_) (fun u23 => ?_)
      · replace h := qc_jp u23 h
        exact And.imp_right (fun hx => qc_sub [1, 2, 3, 0] rfl hx) (tX12_converts_b105 hn hR h)
      · replace h := qc_jn u23 h
        refine And.imp_right (fun hx => qc_aload_n (qc_at qkX12_converts 48 rfl) rfl <| qc_gR (qc_at qkX12_converts 49 rfl) hn rfl (qfr_291_65 hR) rfl <| qc_iload_n (qc_at qkX12_converts 50 rfl) rfl <| qc_iload_n (qc_at qkX12_converts 51 rfl) rfl <| qc_iconst (qc_at qkX12_converts 52 rfl) <| hx) ?_
        refine qc_andN (qc_icmp_ne (qc_at qkX12_converts 53 rfl)) (fun u24 => ?_) (fun u24 => ?_)
        · replace h := qc_jn u24 h
          refine And.imp_right (fun hx => qc_aload_n (qc_at qkX12_converts 61 rfl) rfl <| qc_gR (qc_at qkX12_converts 62 rfl) hn rfl (qfr_291_65 hR) rfl <| qc_iload_n (qc_at qkX12_converts 63 rfl) rfl <| hx) ?_
          obtain ⟨g25, h⟩ := qc_gd_of h
          refine And.imp_right (fun hx => qc_lald 32 (qc_at qkX12_converts 64 rfl) hn rfl (qc_inb_in g25) <| hx) ?_
          obtain ⟨g26, h⟩ := qc_gd_of h
          refine qd_last 32 (qc_at qkX12_converts 65 rfl) hn rfl (qc_inb_in g26) rfl ?_
          obtain ⟨rfl, rfl, rfl, rfl, rfl⟩ := qc_some5 h
          exact ⟨qc_fm.rf _, qc_goto (qc_at qkX12_converts 66 rfl) <| qc_vret (qc_at qkX12_converts 131 rfl) rfl (Nat.le_refl _) (Nat.le_refl _) (qc_eq.rf _ _ _)⟩
        · replace h := qc_jp u24 h
          refine And.imp_right (fun hx => qc_aload_n (qc_at qkX12_converts 54 rfl) rfl <| qc_gR (qc_at qkX12_converts 55 rfl) hn rfl (qfr_291_65 hR) rfl <| qc_iload_n (qc_at qkX12_converts 56 rfl) rfl <| hx) ?_
          obtain ⟨g27, h⟩ := qc_gd_of h
          refine And.imp_right (fun hx => qc_lald 32 (qc_at qkX12_converts 57 rfl) hn rfl (qc_inb_in g27) <| qc_l2i (qc_at qkX12_converts 58 rfl) <| qc_i2l (qc_at qkX12_converts 59 rfl) <| qc_goto (qc_at qkX12_converts 60 rfl) <| hx) ?_
          obtain ⟨g28, h⟩ := qc_gd_of h
          refine qd_last 32 (qc_at qkX12_converts 65 rfl) hn rfl (qc_inb_in g28) rfl ?_
          obtain ⟨rfl, rfl, rfl, rfl, rfl⟩ := qc_some5 h
          exact ⟨qc_fm.rf _, qc_goto (qc_at qkX12_converts 66 rfl) <| qc_vret (qc_at qkX12_converts 131 rfl) rfl (Nat.le_refl _) (Nat.le_refl _) (qc_eq.rf _ _ _)⟩
  · replace h := qc_jp u21 h
    refine And.imp_right (fun hx => qc_aload_n (qc_at qkX12_converts 8 rfl) rfl <| qc_gR (qc_at qkX12_converts 9 rfl) hn rfl (qfr_291_65 hR) rfl <| qc_iload_n (qc_at qkX12_converts 10 rfl) rfl <| qc_iload_n (qc_at qkX12_converts 11 rfl) rfl <| qc_iconst (qc_at qkX12_converts 12 rfl) <| hx) ?_
    refine qc_andN (qc_icmp_ne (qc_at qkX12_converts 13 rfl)) (fun u29 => ?_) (fun u29 => ?_)
    · replace h := qc_jn u29 h
      refine And.imp_right (fun hx => qc_iload_n (qc_at qkX12_converts 22 rfl) rfl <| qc_iconst (qc_at qkX12_converts 23 rfl) <| hx) ?_
      refine qc_andN (qc_icmp_ne (qc_at qkX12_converts 24 rfl)) (fun u30 => ?_) (fun u30 => ?_)
      · replace h := qc_jn u30 h
        refine And.imp_right (fun hx => qc_aload_n (qc_at qkX12_converts 33 rfl) rfl <| qc_gR (qc_at qkX12_converts 34 rfl) hn rfl (qfr_291_65 hR) rfl <| qc_iload_n (qc_at qkX12_converts 35 rfl) rfl <| hx) ?_
        obtain ⟨g31, h⟩ := qc_gd_of h
        refine And.imp_right (fun hx => qc_lald 32 (qc_at qkX12_converts 36 rfl) hn rfl (qc_inb_in g31) <| qc_l2i (qc_at qkX12_converts 37 rfl) <| qc_i2c (qc_at qkX12_converts 38 rfl) <| qc_i2l (qc_at qkX12_converts 39 rfl) <| hx) ?_
        obtain ⟨g32, h⟩ := qc_gd_of h
        refine qd_last 32 (qc_at qkX12_converts 40 rfl) hn rfl (qc_inb_in g32) rfl ?_
        obtain ⟨rfl, rfl, rfl, rfl, rfl⟩ := qc_some5 h
        exact ⟨qc_fm.rf _, qc_goto (qc_at qkX12_converts 41 rfl) <| qc_vret (qc_at qkX12_converts 131 rfl) rfl (Nat.le_refl _) (Nat.le_refl _) (qc_eq.rf _ _ _)⟩
      · replace h := qc_jp u30 h
        refine And.imp_right (fun hx => qc_aload_n (qc_at qkX12_converts 25 rfl) rfl <| qc_gR (qc_at qkX12_converts 26 rfl) hn rfl (qfr_291_65 hR) rfl <| qc_iload_n (qc_at qkX12_converts 27 rfl) rfl <| hx) ?_
        obtain ⟨g33, h⟩ := qc_gd_of h
        refine And.imp_right (fun hx => qc_lald 32 (qc_at qkX12_converts 28 rfl) hn rfl (qc_inb_in g33) <| qc_l2i (qc_at qkX12_converts 29 rfl) <| qc_i2s (qc_at qkX12_converts 30 rfl) <| qc_i2l (qc_at qkX12_converts 31 rfl) <| qc_goto (qc_at qkX12_converts 32 rfl) <| hx) ?_
        obtain ⟨g34, h⟩ := qc_gd_of h
        refine qd_last 32 (qc_at qkX12_converts 40 rfl) hn rfl (qc_inb_in g34) rfl ?_
        obtain ⟨rfl, rfl, rfl, rfl, rfl⟩ := qc_some5 h
        exact ⟨qc_fm.rf _, qc_goto (qc_at qkX12_converts 41 rfl) <| qc_vret (qc_at qkX12_converts 131 rfl) rfl (Nat.le_refl _) (Nat.le_refl _) (qc_eq.rf _ _ _)⟩
    · replace h := qc_jp u29 h
      refine And.imp_right (fun hx => qc_aload_n (qc_at qkX12_converts 14 rfl) rfl <| qc_gR (qc_at qkX12_converts 15 rfl) hn rfl (qfr_291_65 hR) rfl <| qc_iload_n (qc_at qkX12_converts 16 rfl) rfl <| hx) ?_
      obtain ⟨g35, h⟩ := qc_gd_of h
      refine And.imp_right (fun hx => qc_lald 32 (qc_at qkX12_converts 17 rfl) hn rfl (qc_inb_in g35) <| qc_l2i (qc_at qkX12_converts 18 rfl) <| qc_i2b (qc_at qkX12_converts 19 rfl) <| qc_i2l (qc_at qkX12_converts 20 rfl) <| qc_goto (qc_at qkX12_converts 21 rfl) <| hx) ?_
      obtain ⟨g36, h⟩ := qc_gd_of h
      refine qd_last 32 (qc_at qkX12_converts 40 rfl) hn rfl (qc_inb_in g36) rfl ?_
      obtain ⟨rfl, rfl, rfl, rfl, rfl⟩ := qc_some5 h
      exact ⟨qc_fm.rf _, qc_goto (qc_at qkX12_converts 41 rfl) <| qc_vret (qc_at qkX12_converts 131 rfl) rfl (Nat.le_refl _) (Nat.le_refl _) (qc_eq.rf _ _ _)⟩
