def fX4_applyToWholes_b44 (w : qcW) (I : qTI) (L : qTL) (D : qTD) (R : qTR) (s0 : Int64) : qcO Unit :=
  (qc_bd (fX6_lay w I L D R s0) fun r1 I1 L1 D1 R1 => some ((), I1, L1, D1, R1))
set_option maxRecDepth 100000 in
set_option maxHeartbeats 4000000 in
theorem tX4_applyToWholes_b44 {w : qcW} {I : qTI} {L : qTL} {D : qTD} {R : qTR} {s0 : Int64} {r : Unit} {I' : qTI} {L' : qTL} {D' : qTD} {R' : qTR} (hn : qcNF ≤ w.1) (hR : qc_FR R) (h : fX4_applyToWholes_b44 w I L D R s0 = some (r, I', L', D', R')) : qc_fm qcSX (I, L, D, R) (I', L', D', R') ∧ qc_X (qc_rm (1) 0 0) qmX4_applyToWholes (qc_QM 0 0 (qc_eq none w (I', L', D', R'))) 0 0 w (44, [], [.long s0, .ref 287], I, L, D, R) := by
  unfold fX4_applyToWholes_b44 at h
  obtain ⟨r1, I1, L1, D1, R1, e1, h⟩ := qc_bd_of h
  have c1 := (tX6_lay hn hR e1)
  refine qd_cVn (ci := 5) (a0 := 287) (qc_at qkX4_applyToWholes 25 rfl) ql_4_158 qfX6_lay (qc_kf hn rfl) rfl c1 rfl rfl (Nat.le_of_ble_eq_true rfl) (qc_rml (by decide) (by decide)) ⟨Nat.zero_le _, Nat.zero_le _⟩ ?_
  obtain ⟨rfl, rfl, rfl, rfl, rfl⟩ := qc_some5 h
  exact ⟨qc_fm.rf _, qc_goto (qc_at qkX4_applyToWholes 26 rfl) <| qc_vret (qc_at qkX4_applyToWholes 44 rfl) rfl (Nat.le_refl _) (Nat.le_refl _) (qc_eq.rf _ _ _)⟩
def fX4_applyToWholes_b24 (w : qcW) (I : qTI) (L : qTL) (D : qTD) (R : qTR) (x2 : Int32) (s0 : Int64) : qcO Unit :=
  (if x2 = (1 : Int32) then (fX4_applyToWholes_b44 w I L D R (Int32.toInt64 (Int64.toInt32 s0))) else (fX4_applyToWholes_b44 w I L D R s0))
set_option maxRecDepth 100000 in
set_option maxHeartbeats 4000000 in
theorem tX4_applyToWholes_b24 {w : qcW} {I : qTI} {L : qTL} {D : qTD} {R : qTR} {x2 : Int32} {s0 : Int64} {r : Unit} {I' : qTI} {L' : qTL} {D' : qTD} {R' : qTR} (hn : qcNF ≤ w.1) (hR : qc_FR R) (h : fX4_applyToWholes_b24 w I L D R x2 s0 = some (r, I', L', D', R')) : qc_fm qcSX (I, L, D, R) (I', L', D', R') ∧ qc_X (qc_rm (1) 0 0) qmX4_applyToWholes (qc_QM 0 0 (qc_eq none w (I', L', D', R'))) 0 0 w (24, [(0, .ref 286), (2, .int x2)], [.long s0], I, L, D, R) := by
  unfold fX4_applyToWholes_b24 at h
  refine And.imp_right (fun hx => qc_lstore (lv' := [(5, _), (0, _), (2, _)]) (qc_at qkX4_applyToWholes 14 rfl) rfl rfl <| qc_aload_n (qc_at qkX4_applyToWholes 15 rfl) rfl <| qc_gR (qc_at qkX4_applyToWholes 16 rfl) hn rfl (qfr_286_2 hR) rfl <| qc_iload_n (qc_at qkX4_applyToWholes 17 rfl) rfl <| qc_iconst (qc_at qkX4_applyToWholes 18 rfl) <| hx) ?_
  refine qc_andN (qc_icmp_ne (qc_at qkX4_applyToWholes 19 rfl)) (fun u2 => ?_) (fun u2 => ?_)
  · replace h := qc_jn u2 h
    exact And.imp_right (fun hx => qc_lload (qc_at qkX4_applyToWholes 24 rfl) rfl <| qc_sub [] rfl hx) (tX4_applyToWholes_b44 hn hR h)
  · replace h := qc_jp u2 h
    exact And.imp_right (fun hx => qc_lload (qc_at qkX4_applyToWholes 20 rfl) rfl <| qc_l2i (qc_at qkX4_applyToWholes 21 rfl) <| qc_i2l (qc_at qkX4_applyToWholes 22 rfl) <| qc_goto (qc_at qkX4_applyToWholes 23 rfl) <| qc_sub [] rfl hx) (tX4_applyToWholes_b44 hn hR h)
def fX4_applyToWholes_b83 (w : qcW) (I : qTI) (L : qTL) (D : qTD) (R : qTR) (s0 : Int64) : qcO Unit :=
  (qc_bd (fX6_lay w I L D R s0) fun r3 I3 L3 D3 R3 => some ((), I3, L3, D3, R3))
set_option maxRecDepth 100000 in
set_option maxHeartbeats 4000000 in
theorem tX4_applyToWholes_b83 {w : qcW} {I : qTI} {L : qTL} {D : qTD} {R : qTR} {s0 : Int64} {r : Unit} {I' : qTI} {L' : qTL} {D' : qTD} {R' : qTR} (hn : qcNF ≤ w.1) (hR : qc_FR R) (h : fX4_applyToWholes_b83 w I L D R s0 = some (r, I', L', D', R')) : qc_fm qcSX (I, L, D, R) (I', L', D', R') ∧ qc_X (qc_rm (1) 0 0) qmX4_applyToWholes (qc_QM 0 0 (qc_eq none w (I', L', D', R'))) 0 0 w (83, [], [.long s0, .ref 287], I, L, D, R) := by
  unfold fX4_applyToWholes_b83 at h
  obtain ⟨r3, I3, L3, D3, R3, e3, h⟩ := qc_bd_of h
  have c3 := (tX6_lay hn hR e3)
  refine qd_cVn (ci := 5) (a0 := 287) (qc_at qkX4_applyToWholes 43 rfl) ql_4_158 qfX6_lay (qc_kf hn rfl) rfl c3 rfl rfl (Nat.le_of_ble_eq_true rfl) (qc_rml (by decide) (by decide)) ⟨Nat.zero_le _, Nat.zero_le _⟩ ?_
  obtain ⟨rfl, rfl, rfl, rfl, rfl⟩ := qc_some5 h
  exact ⟨qc_fm.rf _, qc_vret (qc_at qkX4_applyToWholes 44 rfl) rfl (Nat.le_refl _) (Nat.le_refl _) (qc_eq.rf _ _ _)⟩
def fX4_applyToWholes (w : qcW) (I : qTI) (L : qTL) (D : qTD) (R : qTR) (x1 : Int32) (x2 : Int32) : qcO Unit :=
  (qc_bd (fX6_take w I L D R) fun r4 I4 L4 D4 R4 => if x1 = 0 then (if 0 ≤ (lg_cmp r4 (0 : Int64)) then (fX4_applyToWholes_b24 w I4 L4 D4 R4 x2 r4) else (fX4_applyToWholes_b24 w I4 L4 D4 R4 x2 (-r4))) else (qc_bd (fX6_take w I4 L4 D4 R4) fun r6 I6 L6 D6 R6 => if x1 = (5 : Int32) then (qc_bd (fJ9_min_f86c9 w I6 L6 D6 R6 r6 r4) fun r9 I9 L9 D9 R9 => fX4_applyToWholes_b83 w I9 L9 D9 R9 r9) else (qc_bd (fJ9_max_f86c9 w I6 L6 D6 R6 r6 r4) fun r8 I8 L8 D8 R8 => fX4_applyToWholes_b83 w I8 L8 D8 R8 r8)))
set_option maxRecDepth 100000 in
set_option maxHeartbeats 4000000 in
theorem tX4_applyToWholes {w : qcW} {I : qTI} {L : qTL} {D : qTD} {R : qTR} {x1 : Int32} {x2 : Int32} {r : Unit} {I' : qTI} {L' : qTL} {D' : qTD} {R' : qTR} (hn : qcNF ≤ w.1) (hR : qc_FR R) (h : fX4_applyToWholes w I L D R x1 x2 = some (r, I', L', D', R')) : qc_fm qcSX (I, L, D, R) (I', L', D', R') ∧ qc_V (1) 0 0 qmX4_applyToWholes [.ref 286, .int x1, .int x2] w (I, L, D, R) (qc_eq none w (I', L', D', R')) := by
  unfold fX4_applyToWholes at h
  refine And.imp_right (fun hx => qc_V.of rfl rfl (Nat.le_of_ble_eq_true rfl) (lv := [(0, .ref 286), (1, .int x1), (2, .int x2)]) rfl hx) ?_
  refine And.imp_right (fun hx => qc_aload_n (qc_at qkX4_applyToWholes 0 rfl) rfl <| qc_gR (qc_at qkX4_applyToWholes 1 rfl) hn rfl (qfr_286_2 hR) rfl <| hx) ?_
  obtain ⟨r4, I4, L4, D4, R4, e4, h⟩ := qc_bd_of h
  have c4 := (tX6_take hn hR e4)
  refine qd_cVv (ci := 5) (a0 := 287) (qc_at qkX4_applyToWholes 2 rfl) ql_4_75 qfX6_take (qc_kf hn rfl) rfl c4 rfl rfl (Nat.le_of_ble_eq_true rfl) (qc_rml (by decide) (by decide)) ⟨Nat.zero_le _, Nat.zero_le _⟩ ?_
  refine And.imp_right (fun hx => qc_lstore_n (lv' := [(3, _), (0, _), (1, _), (2, _)]) (qc_at qkX4_applyToWholes 3 rfl) rfl rfl <| qc_iload_n (qc_at qkX4_applyToWholes 4 rfl) rfl <| hx) ?_
  refine qc_andN (qc_if_ne (qc_at qkX4_applyToWholes 5 rfl)) (fun u5 => ?_) (fun u5 => ?_)
  · replace h := qc_jn u5 h
    refine And.imp_right (fun hx => qc_aload_n (qc_at qkX4_applyToWholes 27 rfl) rfl <| qc_gR (qc_at qkX4_applyToWholes 28 rfl) hn rfl (qfr_286_2 (c4.1.1 hR)) rfl <| hx) ?_
    obtain ⟨r6, I6, L6, D6, R6, e6, h⟩ := qc_bd_of h
    have c6 := (tX6_take hn (c4.1.1 hR) e6)
    refine qd_cVv (ci := 5) (a0 := 287) (qc_at qkX4_applyToWholes 29 rfl) ql_4_75 qfX6_take (qc_kf hn rfl) rfl c6 rfl rfl (Nat.le_of_ble_eq_true rfl) (qc_rml (by decide) (by decide)) ⟨Nat.zero_le _, Nat.zero_le _⟩ ?_
    refine And.imp_right (fun hx => qc_lstore (lv' := [(5, _), (3, _), (0, _), (1, _), (2, _)]) (qc_at qkX4_applyToWholes 30 rfl) rfl rfl <| qc_aload_n (qc_at qkX4_applyToWholes 31 rfl) rfl <| qc_gR (qc_at qkX4_applyToWholes 32 rfl) hn rfl (qfr_286_2 (c6.1.1 (c4.1.1 hR))) rfl <| qc_iload_n (qc_at qkX4_applyToWholes 33 rfl) rfl <| qc_iconst (qc_at qkX4_applyToWholes 34 rfl) <| hx) ?_
    refine qc_andN (qc_icmp_ne (qc_at qkX4_applyToWholes 35 rfl)) (fun u7 => ?_) (fun u7 => ?_)
    · replace h := qc_jn u7 h
      refine And.imp_right (fun hx => qc_lload (qc_at qkX4_applyToWholes 40 rfl) rfl <| qc_lload_n (qc_at qkX4_applyToWholes 41 rfl) rfl <| hx) ?_
      obtain ⟨r8, I8, L8, D8, R8, e8, h⟩ := qc_bd_of h
      have c8 := (tJ9_max_f86c9 (sd := qcSX) hn (c6.1.1 (c4.1.1 hR)) e8)
      refine qd_cSv (qc_at qkX4_applyToWholes 42 rfl) ql_4_241 qfJ9_max_f86c9 c8 rfl rfl (Nat.le_of_ble_eq_true rfl) (qc_rml (by decide) (by decide)) ⟨Nat.zero_le _, Nat.zero_le _⟩ ?_
      exact And.imp_right (fun hx => qc_sub [] rfl hx) (tX4_applyToWholes_b83 hn (c8.1.1 (c6.1.1 (c4.1.1 hR))) h)
    · replace h := qc_jp u7 h
      refine And.imp_right (fun hx => qc_lload (qc_at qkX4_applyToWholes 36 rfl) rfl <| qc_lload_n (qc_at qkX4_applyToWholes 37 rfl) rfl <| hx) ?_
      obtain ⟨r9, I9, L9, D9, R9, e9, h⟩ := qc_bd_of h
      have c9 := (tJ9_min_f86c9 (sd := qcSX) hn (c6.1.1 (c4.1.1 hR)) e9)
      refine qd_cSv (qc_at qkX4_applyToWholes 38 rfl) ql_4_235 qfJ9_min_f86c9 c9 rfl rfl (Nat.le_of_ble_eq_true rfl) (qc_rml (by decide) (by decide)) ⟨Nat.zero_le _, Nat.zero_le _⟩ ?_
      exact And.imp_right (fun hx => qc_goto (qc_at qkX4_applyToWholes 39 rfl) <| qc_sub [] rfl hx) (tX4_applyToWholes_b83 hn (c9.1.1 (c6.1.1 (c4.1.1 hR))) h)
  · replace h := qc_jp u5 h
    refine And.imp_right (fun hx => qc_lload_n (qc_at qkX4_applyToWholes 6 rfl) rfl <| qc_lconst (qc_at qkX4_applyToWholes 7 rfl) <| qc_lcmp (qc_at qkX4_applyToWholes 8 rfl) <| hx) ?_
    refine qc_andC (qc_if_ge (qc_at qkX4_applyToWholes 9 rfl)) (fun u10 => ?_) (fun u10 => ?_)
    · replace h := qc_jp u10 h
      exact And.imp_right (fun hx => qc_lload_n (qc_at qkX4_applyToWholes 13 rfl) rfl <| qc_sub [1, 3] rfl hx) (tX4_applyToWholes_b24 hn (c4.1.1 hR) h)
    · replace h := qc_jn u10 h
      exact And.imp_right (fun hx => qc_lload_n (qc_at qkX4_applyToWholes 10 rfl) rfl <| qc_lneg (qc_at qkX4_applyToWholes 11 rfl) <| qc_goto (qc_at qkX4_applyToWholes 12 rfl) <| qc_sub [1, 3] rfl hx) (tX4_applyToWholes_b24 hn (c4.1.1 hR) h)
def fX4_compare (w : qcW) (I : qTI) (L : qTL) (D : qTD) (R : qTR) (x1 : Int32) : qcO Unit :=
  (if x1 < (3 : Int32) then (qc_bd (fX6_take w I L D R) fun r2 I2 L2 D2 R2 => qc_bd (fX6_take w I2 L2 D2 R2) fun r3 I3 L3 D3 R3 => qc_bd (fJ13_compare_74951 w I3 L3 D3 R3 r3 r2) fun r4 I4 L4 D4 R4 => qc_bd (fX6_lay w I4 L4 D4 R4 (Int32.toInt64 r4)) fun r5 I5 L5 D5 R5 => some ((), I5, L5, D5, R5)) else (qc_bd (fX6_takeReal w I L D R) fun r6 I6 L6 D6 R6 => qc_bd (fX6_takeReal w I6 L6 D6 R6) fun r7 I7 L7 D7 R7 => qc_bd (fX8_compared w I7 L7 D7 R7 r7 r6) fun r8 I8 L8 D8 R8 => qc_bd (fX6_lay w I8 L8 D8 R8 (Int32.toInt64 r8)) fun r9 I9 L9 D9 R9 => some ((), I9, L9, D9, R9)))
set_option maxRecDepth 100000 in
set_option maxHeartbeats 4000000 in
theorem tX4_compare {w : qcW} {I : qTI} {L : qTL} {D : qTD} {R : qTR} {x1 : Int32} {r : Unit} {I' : qTI} {L' : qTL} {D' : qTD} {R' : qTR} (hn : qcNF ≤ w.1) (hR : qc_FR R) (h : fX4_compare w I L D R x1 = some (r, I', L', D', R')) : qc_fm qcSX (I, L, D, R) (I', L', D', R') ∧ qc_V (1) 0 0 qmX4_compare [.ref 286, .int x1] w (I, L, D, R) (qc_eq none w (I', L', D', R')) := by
  unfold fX4_compare at h
  refine And.imp_right (fun hx => qc_V.of rfl rfl (Nat.le_of_ble_eq_true rfl) (lv := [(0, .ref 286), (1, .int x1)]) rfl hx) ?_
  refine And.imp_right (fun hx => qc_iload_n (qc_at qkX4_compare 0 rfl) rfl <| qc_iconst (qc_at qkX4_compare 1 rfl) <| hx) ?_
  refine qc_andC (qc_icmp_lt (qc_at qkX4_compare 2 rfl)) (fun u1 => ?_) (fun u1 => ?_)
  · replace h := qc_jp u1 h
    refine And.imp_right (fun hx => qc_aload_n (qc_at qkX4_compare 17 rfl) rfl <| qc_gR (qc_at qkX4_compare 18 rfl) hn rfl (qfr_286_2 hR) rfl <| hx) ?_
    obtain ⟨r2, I2, L2, D2, R2, e2, h⟩ := qc_bd_of h
    have c2 := (tX6_take hn hR e2)
    refine qd_cVv (ci := 5) (a0 := 287) (qc_at qkX4_compare 19 rfl) ql_4_75 qfX6_take (qc_kf hn rfl) rfl c2 rfl rfl (Nat.le_of_ble_eq_true rfl) (qc_rml (by decide) (by decide)) ⟨Nat.zero_le _, Nat.zero_le _⟩ ?_
    refine And.imp_right (fun hx => qc_lstore_n (lv' := [(2, _), (0, _), (1, _)]) (qc_at qkX4_compare 20 rfl) rfl rfl <| qc_aload_n (qc_at qkX4_compare 21 rfl) rfl <| qc_gR (qc_at qkX4_compare 22 rfl) hn rfl (qfr_286_2 (c2.1.1 hR)) rfl <| qc_aload_n (qc_at qkX4_compare 23 rfl) rfl <| qc_gR (qc_at qkX4_compare 24 rfl) hn rfl (qfr_286_2 (c2.1.1 hR)) rfl <| hx) ?_
    obtain ⟨r3, I3, L3, D3, R3, e3, h⟩ := qc_bd_of h
    have c3 := (tX6_take hn (c2.1.1 hR) e3)
    refine qd_cVv (ci := 5) (a0 := 287) (qc_at qkX4_compare 25 rfl) ql_4_75 qfX6_take (qc_kf hn rfl) rfl c3 rfl rfl (Nat.le_of_ble_eq_true rfl) (qc_rml (by decide) (by decide)) ⟨Nat.zero_le _, Nat.zero_le _⟩ ?_
    refine And.imp_right (fun hx => qc_lload_n (qc_at qkX4_compare 26 rfl) rfl <| hx) ?_
    obtain ⟨r4, I4, L4, D4, R4, e4, h⟩ := qc_bd_of h
    have c4 := (tJ13_compare_74951 (sd := qcSX) hn (c3.1.1 (c2.1.1 hR)) e4)
    refine qd_cSv (qc_at qkX4_compare 27 rfl) ql_4_222 qfJ13_compare_74951 c4 rfl rfl (Nat.le_of_ble_eq_true rfl) (qc_rml (by decide) (by decide)) ⟨Nat.zero_le _, Nat.zero_le _⟩ ?_
    refine And.imp_right (fun hx => qc_i2l (qc_at qkX4_compare 28 rfl) <| hx) ?_
    obtain ⟨r5, I5, L5, D5, R5, e5, h⟩ := qc_bd_of h
    have c5 := (tX6_lay hn (c4.1.1 (c3.1.1 (c2.1.1 hR))) e5)
    refine qd_cVn (ci := 5) (a0 := 287) (qc_at qkX4_compare 29 rfl) ql_4_158 qfX6_lay (qc_kf hn rfl) rfl c5 rfl rfl (Nat.le_of_ble_eq_true rfl) (qc_rml (by decide) (by decide)) ⟨Nat.zero_le _, Nat.zero_le _⟩ ?_
    obtain ⟨rfl, rfl, rfl, rfl, rfl⟩ := qc_some5 h
    exact ⟨qc_fm.rf _, qc_vret (qc_at qkX4_compare 30 rfl) rfl (Nat.le_refl _) (Nat.le_refl _) (qc_eq.rf _ _ _)⟩
  · replace h := qc_jn u1 h
    refine And.imp_right (fun hx => qc_aload_n (qc_at qkX4_compare 3 rfl) rfl <| qc_gR (qc_at qkX4_compare 4 rfl) hn rfl (qfr_286_2 hR) rfl <| hx) ?_
    obtain ⟨r6, I6, L6, D6, R6, e6, h⟩ := qc_bd_of h
    have c6 := (tX6_takeReal hn hR e6)
    refine qd_cVv (ci := 5) (a0 := 287) (qc_at qkX4_compare 5 rfl) ql_4_82 qfX6_takeReal (qc_kf hn rfl) rfl c6 rfl rfl (Nat.le_of_ble_eq_true rfl) (qc_rml (by decide) (by decide)) ⟨Nat.zero_le _, Nat.zero_le _⟩ ?_
    refine And.imp_right (fun hx => qc_dstore_n (lv' := [(2, _), (0, _), (1, _)]) (qc_at qkX4_compare 6 rfl) rfl rfl <| qc_aload_n (qc_at qkX4_compare 7 rfl) rfl <| qc_gR (qc_at qkX4_compare 8 rfl) hn rfl (qfr_286_2 (c6.1.1 hR)) rfl <| qc_aload_n (qc_at qkX4_compare 9 rfl) rfl <| qc_gR (qc_at qkX4_compare 10 rfl) hn rfl (qfr_286_2 (c6.1.1 hR)) rfl <| hx) ?_
    obtain ⟨r7, I7, L7, D7, R7, e7, h⟩ := qc_bd_of h
    have c7 := (tX6_takeReal hn (c6.1.1 hR) e7)
    refine qd_cVv (ci := 5) (a0 := 287) (qc_at qkX4_compare 11 rfl) ql_4_82 qfX6_takeReal (qc_kf hn rfl) rfl c7 rfl rfl (Nat.le_of_ble_eq_true rfl) (qc_rml (by decide) (by decide)) ⟨Nat.zero_le _, Nat.zero_le _⟩ ?_
    refine And.imp_right (fun hx => qc_dload_n (qc_at qkX4_compare 12 rfl) rfl <| hx) ?_
    obtain ⟨r8, I8, L8, D8, R8, e8, h⟩ := qc_bd_of h
    have c8 := (tX8_compared hn (c7.1.1 (c6.1.1 hR)) e8)
    refine qd_cSv (qc_at qkX4_compare 13 rfl) ql_4_218 qfX8_compared c8 rfl rfl (Nat.le_of_ble_eq_true rfl) (qc_rml (by decide) (by decide)) ⟨Nat.zero_le _, Nat.zero_le _⟩ ?_
    refine And.imp_right (fun hx => qc_i2l (qc_at qkX4_compare 14 rfl) <| hx) ?_
    obtain ⟨r9, I9, L9, D9, R9, e9, h⟩ := qc_bd_of h
    have c9 := (tX6_lay hn (c8.1.1 (c7.1.1 (c6.1.1 hR))) e9)
    refine qd_cVn (ci := 5) (a0 := 287) (qc_at qkX4_compare 15 rfl) ql_4_158 qfX6_lay (qc_kf hn rfl) rfl c9 rfl rfl (Nat.le_of_ble_eq_true rfl) (qc_rml (by decide) (by decide)) ⟨Nat.zero_le _, Nat.zero_le _⟩ ?_
    obtain ⟨rfl, rfl, rfl, rfl, rfl⟩ := qc_some5 h
    exact ⟨qc_fm.rf _, qc_goto (qc_at qkX4_compare 16 rfl) <| qc_vret (qc_at qkX4_compare 30 rfl) rfl (Nat.le_refl _) (Nat.le_refl _) (qc_eq.rf _ _ _)⟩
def fX4_convertReal_b51 (w : qcW) (I : qTI) (L : qTL) (D : qTD) (R : qTR) (s0 : UInt64) : qcO Unit :=
  (qc_bd (fX6_layReal w I L D R s0) fun r1 I1 L1 D1 R1 => some ((), I1, L1, D1, R1))
set_option maxRecDepth 100000 in
set_option maxHeartbeats 4000000 in
theorem tX4_convertReal_b51 {w : qcW} {I : qTI} {L : qTL} {D : qTD} {R : qTR} {s0 : UInt64} {r : Unit} {I' : qTI} {L' : qTL} {D' : qTD} {R' : qTR} (hn : qcNF ≤ w.1) (hR : qc_FR R) (h : fX4_convertReal_b51 w I L D R s0 = some (r, I', L', D', R')) : qc_fm qcSX (I, L, D, R) (I', L', D', R') ∧ qc_X (qc_rm (1) 0 0) qmX4_convertReal (qc_QM 0 0 (qc_eq none w (I', L', D', R'))) 0 0 w (51, [], [.double s0, .ref 287], I, L, D, R) := by
  unfold fX4_convertReal_b51 at h
  obtain ⟨r1, I1, L1, D1, R1, e1, h⟩ := qc_bd_of h
  have c1 := (tX6_layReal hn hR e1)
  refine qd_cVn (ci := 5) (a0 := 287) (qc_at qkX4_convertReal 29 rfl) ql_4_178 qfX6_layReal (qc_kf hn rfl) rfl c1 rfl rfl (Nat.le_of_ble_eq_true rfl) (qc_rml (by decide) (by decide)) ⟨Nat.zero_le _, Nat.zero_le _⟩ ?_
  obtain ⟨rfl, rfl, rfl, rfl, rfl⟩ := qc_some5 h
  exact ⟨qc_fm.rf _, qc_vret (qc_at qkX4_convertReal 30 rfl) rfl (Nat.le_refl _) (Nat.le_refl _) (qc_eq.rf _ _ _)⟩
def fX4_convertReal (w : qcW) (I : qTI) (L : qTL) (D : qTD) (R : qTR) (x1 : UInt64) (x3 : Int32) : qcO Unit :=
  (if x3 = (1 : Int32) then (qc_bd (fX6_lay w I L D R (Int32.toInt64 (FP.d2i x1))) fun r8 I8 L8 D8 R8 => some ((), I8, L8, D8, R8)) else (if x3 = (2 : Int32) then (qc_bd (fX6_lay w I L D R (FP.d2l x1)) fun r7 I7 L7 D7 R7 => some ((), I7, L7, D7, R7)) else (if x3 = (3 : Int32) then (qc_gd (qc_n32 (FP.d2f x1)) <| qc_gd (qc_n64 (FP.f2d (FP.d2f x1))) <| fX4_convertReal_b51 w I L D R (FP.f2d (FP.d2f x1))) else (fX4_convertReal_b51 w I L D R x1))))
set_option maxRecDepth 100000 in
set_option maxHeartbeats 4000000 in
theorem tX4_convertReal {w : qcW} {I : qTI} {L : qTL} {D : qTD} {R : qTR} {x1 : UInt64} {x3 : Int32} {r : Unit} {I' : qTI} {L' : qTL} {D' : qTD} {R' : qTR} (hn : qcNF ≤ w.1) (hR : qc_FR R) (h : fX4_convertReal w I L D R x1 x3 = some (r, I', L', D', R')) : qc_fm qcSX (I, L, D, R) (I', L', D', R') ∧ qc_V (1) 0 0 qmX4_convertReal [.ref 286, .double x1, .int x3] w (I, L, D, R) (qc_eq none w (I', L', D', R')) := by
  unfold fX4_convertReal at h
  refine And.imp_right (fun hx => qc_V.of rfl rfl (Nat.le_of_ble_eq_true rfl) (lv := [(0, .ref 286), (1, .double x1), (3, .int x3)]) rfl hx) ?_
  refine And.imp_right (fun hx => qc_iload_n (qc_at qkX4_convertReal 0 rfl) rfl <| qc_iconst (qc_at qkX4_convertReal 1 rfl) <| hx) ?_
  refine qc_andN (qc_icmp_ne (qc_at qkX4_convertReal 2 rfl)) (fun u2 => ?_) (fun u2 => ?_)
  · replace h := qc_jn u2 h
    refine And.imp_right (fun hx => qc_iload_n (qc_at qkX4_convertReal 10 rfl) rfl <| qc_iconst (qc_at qkX4_convertReal 11 rfl) <| hx) ?_
    refine qc_andN (qc_icmp_ne (qc_at qkX4_convertReal 12 rfl)) (fun u3 => ?_) (fun u3 => ?_)
    · replace h := qc_jn u3 h
      refine And.imp_right (fun hx => qc_aload_n (qc_at qkX4_convertReal 19 rfl) rfl <| qc_gR (qc_at qkX4_convertReal 20 rfl) hn rfl (qfr_286_2 hR) rfl <| qc_iload_n (qc_at qkX4_convertReal 21 rfl) rfl <| qc_iconst (qc_at qkX4_convertReal 22 rfl) <| hx) ?_
      refine qc_andN (qc_icmp_ne (qc_at qkX4_convertReal 23 rfl)) (fun u4 => ?_) (fun u4 => ?_)
      · replace h := qc_jn u4 h
        exact And.imp_right (fun hx => qc_dload_n (qc_at qkX4_convertReal 28 rfl) rfl <| qc_sub [] rfl hx) (tX4_convertReal_b51 hn hR h)
      · replace h := qc_jp u4 h
        refine And.imp_right (fun hx => qc_dload_n (qc_at qkX4_convertReal 24 rfl) rfl <| hx) ?_
        obtain ⟨g5, h⟩ := qc_gd_of h
        replace g5 := qc_n32_of g5
        refine And.imp_right (fun hx => qc_d2f (qc_at qkX4_convertReal 25 rfl) g5 <| hx) ?_
        obtain ⟨g6, h⟩ := qc_gd_of h
        replace g6 := qc_n64_of g6
        exact And.imp_right (fun hx => qc_f2d (qc_at qkX4_convertReal 26 rfl) g6 <| qc_goto (qc_at qkX4_convertReal 27 rfl) <| qc_sub [] rfl hx) (tX4_convertReal_b51 hn hR h)
    · replace h := qc_jp u3 h
      refine And.imp_right (fun hx => qc_aload_n (qc_at qkX4_convertReal 13 rfl) rfl <| qc_gR (qc_at qkX4_convertReal 14 rfl) hn rfl (qfr_286_2 hR) rfl <| qc_dload_n (qc_at qkX4_convertReal 15 rfl) rfl <| qc_d2l (qc_at qkX4_convertReal 16 rfl) <| hx) ?_
      obtain ⟨r7, I7, L7, D7, R7, e7, h⟩ := qc_bd_of h
      have c7 := (tX6_lay hn hR e7)
      refine qd_cVn (ci := 5) (a0 := 287) (qc_at qkX4_convertReal 17 rfl) ql_4_158 qfX6_lay (qc_kf hn rfl) rfl c7 rfl rfl (Nat.le_of_ble_eq_true rfl) (qc_rml (by decide) (by decide)) ⟨Nat.zero_le _, Nat.zero_le _⟩ ?_
      obtain ⟨rfl, rfl, rfl, rfl, rfl⟩ := qc_some5 h
      exact ⟨qc_fm.rf _, qc_goto (qc_at qkX4_convertReal 18 rfl) <| qc_vret (qc_at qkX4_convertReal 30 rfl) rfl (Nat.le_refl _) (Nat.le_refl _) (qc_eq.rf _ _ _)⟩
  · replace h := qc_jp u2 h
    refine And.imp_right (fun hx => qc_aload_n (qc_at qkX4_convertReal 3 rfl) rfl <| qc_gR (qc_at qkX4_convertReal 4 rfl) hn rfl (qfr_286_2 hR) rfl <| qc_dload_n (qc_at qkX4_convertReal 5 rfl) rfl <| qc_d2i (qc_at qkX4_convertReal 6 rfl) <| qc_i2l (qc_at qkX4_convertReal 7 rfl) <| hx) ?_
    obtain ⟨r8, I8, L8, D8, R8, e8, h⟩ := qc_bd_of h
    have c8 := (tX6_lay hn hR e8)
    refine qd_cVn (ci := 5) (a0 := 287) (qc_at qkX4_convertReal 8 rfl) ql_4_158 qfX6_lay (qc_kf hn rfl) rfl c8 rfl rfl (Nat.le_of_ble_eq_true rfl) (qc_rml (by decide) (by decide)) ⟨Nat.zero_le _, Nat.zero_le _⟩ ?_
    obtain ⟨rfl, rfl, rfl, rfl, rfl⟩ := qc_some5 h
    exact ⟨qc_fm.rf _, qc_goto (qc_at qkX4_convertReal 9 rfl) <| qc_vret (qc_at qkX4_convertReal 30 rfl) rfl (Nat.le_refl _) (Nat.le_refl _) (qc_eq.rf _ _ _)⟩
def fX4_convertWhole_b51 (w : qcW) (I : qTI) (L : qTL) (D : qTD) (R : qTR) (s0 : Int64) : qcO Unit :=
  (qc_bd (fX6_lay w I L D R s0) fun r1 I1 L1 D1 R1 => some ((), I1, L1, D1, R1))
set_option maxRecDepth 100000 in
set_option maxHeartbeats 4000000 in
theorem tX4_convertWhole_b51 {w : qcW} {I : qTI} {L : qTL} {D : qTD} {R : qTR} {s0 : Int64} {r : Unit} {I' : qTI} {L' : qTL} {D' : qTD} {R' : qTR} (hn : qcNF ≤ w.1) (hR : qc_FR R) (h : fX4_convertWhole_b51 w I L D R s0 = some (r, I', L', D', R')) : qc_fm qcSX (I, L, D, R) (I', L', D', R') ∧ qc_X (qc_rm (1) 0 0) qmX4_convertWhole (qc_QM 0 0 (qc_eq none w (I', L', D', R'))) 0 0 w (51, [], [.long s0, .ref 287], I, L, D, R) := by
  unfold fX4_convertWhole_b51 at h
  obtain ⟨r1, I1, L1, D1, R1, e1, h⟩ := qc_bd_of h
  have c1 := (tX6_lay hn hR e1)
  refine qd_cVn (ci := 5) (a0 := 287) (qc_at qkX4_convertWhole 29 rfl) ql_4_158 qfX6_lay (qc_kf hn rfl) rfl c1 rfl rfl (Nat.le_of_ble_eq_true rfl) (qc_rml (by decide) (by decide)) ⟨Nat.zero_le _, Nat.zero_le _⟩ ?_
  obtain ⟨rfl, rfl, rfl, rfl, rfl⟩ := qc_some5 h
  exact ⟨qc_fm.rf _, qc_vret (qc_at qkX4_convertWhole 30 rfl) rfl (Nat.le_refl _) (Nat.le_refl _) (qc_eq.rf _ _ _)⟩
def fX4_convertWhole (w : qcW) (I : qTI) (L : qTL) (D : qTD) (R : qTR) (x1 : Int64) (x3 : Int32) : qcO Unit :=
  (if x3 = (3 : Int32) then (qc_gd (qc_n64 (FP.f2d (FP.l2f x1))) <| qc_bd (fX6_layReal w I L D R (FP.f2d (FP.l2f x1))) fun r7 I7 L7 D7 R7 => some ((), I7, L7, D7, R7)) else (if x3 = (4 : Int32) then (qc_bd (fX6_layReal w I L D R (FP.l2d x1)) fun r5 I5 L5 D5 R5 => some ((), I5, L5, D5, R5)) else (if x3 = (1 : Int32) then (fX4_convertWhole_b51 w I L D R (Int32.toInt64 (Int64.toInt32 x1))) else (fX4_convertWhole_b51 w I L D R x1))))
set_option maxRecDepth 100000 in
set_option maxHeartbeats 4000000 in
theorem tX4_convertWhole {w : qcW} {I : qTI} {L : qTL} {D : qTD} {R : qTR} {x1 : Int64} {x3 : Int32} {r : Unit} {I' : qTI} {L' : qTL} {D' : qTD} {R' : qTR} (hn : qcNF ≤ w.1) (hR : qc_FR R) (h : fX4_convertWhole w I L D R x1 x3 = some (r, I', L', D', R')) : qc_fm qcSX (I, L, D, R) (I', L', D', R') ∧ qc_V (1) 0 0 qmX4_convertWhole [.ref 286, .long x1, .int x3] w (I, L, D, R) (qc_eq none w (I', L', D', R')) := by
  unfold fX4_convertWhole at h
  refine And.imp_right (fun hx => qc_V.of rfl rfl (Nat.le_of_ble_eq_true rfl) (lv := [(0, .ref 286), (1, .long x1), (3, .int x3)]) rfl hx) ?_
  refine And.imp_right (fun hx => qc_iload_n (qc_at qkX4_convertWhole 0 rfl) rfl <| qc_iconst (qc_at qkX4_convertWhole 1 rfl) <| hx) ?_
  refine qc_andN (qc_icmp_ne (qc_at qkX4_convertWhole 2 rfl)) (fun u2 => ?_) (fun u2 => ?_)
  · replace h := qc_jn u2 h
    refine And.imp_right (fun hx => qc_iload_n (qc_at qkX4_convertWhole 10 rfl) rfl <| qc_iconst (qc_at qkX4_convertWhole 11 rfl) <| hx) ?_
    refine qc_andN (qc_icmp_ne (qc_at qkX4_convertWhole 12 rfl)) (fun u3 => ?_) (fun u3 => ?_)
    · replace h := qc_jn u3 h
      refine And.imp_right (fun hx => qc_aload_n (qc_at qkX4_convertWhole 19 rfl) rfl <| qc_gR (qc_at qkX4_convertWhole 20 rfl) hn rfl (qfr_286_2 hR) rfl <| qc_iload_n (qc_at qkX4_convertWhole 21 rfl) rfl <| qc_iconst (qc_at qkX4_convertWhole 22 rfl) <| hx) ?_
      refine qc_andN (qc_icmp_ne (qc_at qkX4_convertWhole 23 rfl)) (fun u4 => ?_) (fun u4 => ?_)
      · replace h := qc_jn u4 h
        exact And.imp_right (fun hx => qc_lload_n (qc_at qkX4_convertWhole 28 rfl) rfl <| qc_sub [] rfl hx) (tX4_convertWhole_b51 hn hR h)
      · replace h := qc_jp u4 h
        exact And.imp_right (fun hx => qc_lload_n (qc_at qkX4_convertWhole 24 rfl) rfl <| qc_l2i (qc_at qkX4_convertWhole 25 rfl) <| qc_i2l (qc_at qkX4_convertWhole 26 rfl) <| qc_goto (qc_at qkX4_convertWhole 27 rfl) <| qc_sub [] rfl hx) (tX4_convertWhole_b51 hn hR h)
    · replace h := qc_jp u3 h
      refine And.imp_right (fun hx => qc_aload_n (qc_at qkX4_convertWhole 13 rfl) rfl <| qc_gR (qc_at qkX4_convertWhole 14 rfl) hn rfl (qfr_286_2 hR) rfl <| qc_lload_n (qc_at qkX4_convertWhole 15 rfl) rfl <| qc_l2d (qc_at qkX4_convertWhole 16 rfl) <| hx) ?_
      obtain ⟨r5, I5, L5, D5, R5, e5, h⟩ := qc_bd_of h
      have c5 := (tX6_layReal hn hR e5)
      refine qd_cVn (ci := 5) (a0 := 287) (qc_at qkX4_convertWhole 17 rfl) ql_4_178 qfX6_layReal (qc_kf hn rfl) rfl c5 rfl rfl (Nat.le_of_ble_eq_true rfl) (qc_rml (by decide) (by decide)) ⟨Nat.zero_le _, Nat.zero_le _⟩ ?_
      obtain ⟨rfl, rfl, rfl, rfl, rfl⟩ := qc_some5 h
      exact ⟨qc_fm.rf _, qc_goto (qc_at qkX4_convertWhole 18 rfl) <| qc_vret (qc_at qkX4_convertWhole 30 rfl) rfl (Nat.le_refl _) (Nat.le_refl _) (qc_eq.rf _ _ _)⟩
  · replace h := qc_jp u2 h
    refine And.imp_right (fun hx => qc_aload_n (qc_at qkX4_convertWhole 3 rfl) rfl <| qc_gR (qc_at qkX4_convertWhole 4 rfl) hn rfl (qfr_286_2 hR) rfl <| qc_lload_n (qc_at qkX4_convertWhole 5 rfl) rfl <| qc_l2f (qc_at qkX4_convertWhole 6 rfl) <| hx) ?_
    obtain ⟨g6, h⟩ := qc_gd_of h
    replace g6 := qc_n64_of g6
    refine And.imp_right (fun hx => qc_f2d (qc_at qkX4_convertWhole 7 rfl) g6 <| hx) ?_
    obtain ⟨r7, I7, L7, D7, R7, e7, h⟩ := qc_bd_of h
    have c7 := (tX6_layReal hn hR e7)
    refine qd_cVn (ci := 5) (a0 := 287) (qc_at qkX4_convertWhole 8 rfl) ql_4_178 qfX6_layReal (qc_kf hn rfl) rfl c7 rfl rfl (Nat.le_of_ble_eq_true rfl) (qc_rml (by decide) (by decide)) ⟨Nat.zero_le _, Nat.zero_le _⟩ ?_
    obtain ⟨rfl, rfl, rfl, rfl, rfl⟩ := qc_some5 h
    exact ⟨qc_fm.rf _, qc_goto (qc_at qkX4_convertWhole 9 rfl) <| qc_vret (qc_at qkX4_convertWhole 30 rfl) rfl (Nat.le_refl _) (Nat.le_refl _) (qc_eq.rf _ _ _)⟩
def fX4_convert_b43 (w : qcW) (I : qTI) (L : qTL) (D : qTD) (R : qTR) (s0 : Int64) : qcO Unit :=
  (qc_bd (fX6_lay w I L D R s0) fun r1 I1 L1 D1 R1 => some ((), I1, L1, D1, R1))
set_option maxRecDepth 100000 in
set_option maxHeartbeats 4000000 in
theorem tX4_convert_b43 {w : qcW} {I : qTI} {L : qTL} {D : qTD} {R : qTR} {s0 : Int64} {r : Unit} {I' : qTI} {L' : qTL} {D' : qTD} {R' : qTR} (hn : qcNF ≤ w.1) (hR : qc_FR R) (h : fX4_convert_b43 w I L D R s0 = some (r, I', L', D', R')) : qc_fm qcSX (I, L, D, R) (I', L', D', R') ∧ qc_X (qc_rm (2) 0 0) qmX4_convert (qc_QM 0 0 (qc_eq none w (I', L', D', R'))) 0 0 w (43, [], [.long s0, .ref 287], I, L, D, R) := by
  unfold fX4_convert_b43 at h
  obtain ⟨r1, I1, L1, D1, R1, e1, h⟩ := qc_bd_of h
  have c1 := (tX6_lay hn hR e1)
  refine qd_cVn (ci := 5) (a0 := 287) (qc_at qkX4_convert 27 rfl) ql_4_158 qfX6_lay (qc_kf hn rfl) rfl c1 rfl rfl (Nat.le_of_ble_eq_true rfl) (qc_rml (by decide) (by decide)) ⟨Nat.zero_le _, Nat.zero_le _⟩ ?_
  obtain ⟨rfl, rfl, rfl, rfl, rfl⟩ := qc_some5 h
  exact ⟨qc_fm.rf _, qc_goto (qc_at qkX4_convert 28 rfl) <| qc_vret (qc_at qkX4_convert 45 rfl) rfl (Nat.le_refl _) (Nat.le_refl _) (qc_eq.rf _ _ _)⟩
def fX4_convert (w : qcW) (I : qTI) (L : qTL) (D : qTD) (R : qTR) (x1 : Int32) (x2 : Int32) : qcO Unit :=
  (if x1 = (5 : Int32) then (qc_bd (fX6_take w I L D R) fun r8 I8 L8 D8 R8 => if x2 = (1 : Int32) then (fX4_convert_b43 w I8 L8 D8 R8 (Int32.toInt64 (Int8.toInt32 (Int32.toInt8 (Int64.toInt32 r8))))) else (if x2 = (2 : Int32) then (fX4_convert_b43 w I8 L8 D8 R8 (Int32.toInt64 (Int16.toInt32 (Int32.toInt16 (Int64.toInt32 r8))))) else (fX4_convert_b43 w I8 L8 D8 R8 (Int32.toInt64 (UInt32.toInt32 (Int32.toUInt32 (Int64.toInt32 r8) % 65536)))))) else (if x1 < (3 : Int32) then (qc_bd (fX6_take w I L D R) fun r4 I4 L4 D4 R4 => qc_bd (fX4_convertWhole w I4 L4 D4 R4 r4 x2) fun r5 I5 L5 D5 R5 => some ((), I5, L5, D5, R5)) else (qc_bd (fX6_takeReal w I L D R) fun r6 I6 L6 D6 R6 => qc_bd (fX4_convertReal w I6 L6 D6 R6 r6 x2) fun r7 I7 L7 D7 R7 => some ((), I7, L7, D7, R7))))
set_option maxRecDepth 100000 in
set_option maxHeartbeats 4000000 in
theorem tX4_convert {w : qcW} {I : qTI} {L : qTL} {D : qTD} {R : qTR} {x1 : Int32} {x2 : Int32} {r : Unit} {I' : qTI} {L' : qTL} {D' : qTD} {R' : qTR} (hn : qcNF ≤ w.1) (hR : qc_FR R) (h : fX4_convert w I L D R x1 x2 = some (r, I', L', D', R')) : qc_fm qcSX (I, L, D, R) (I', L', D', R') ∧ qc_V (2) 0 0 qmX4_convert [.ref 286, .int x1, .int x2] w (I, L, D, R) (qc_eq none w (I', L', D', R')) := by
  unfold fX4_convert at h
  refine And.imp_right (fun hx => qc_V.of rfl rfl (Nat.le_of_ble_eq_true rfl) (lv := [(0, .ref 286), (1, .int x1), (2, .int x2)]) rfl hx) ?_
  refine And.imp_right (fun hx => qc_iload_n (qc_at qkX4_convert 0 rfl) rfl <| qc_iconst (qc_at qkX4_convert 1 rfl) <| hx) ?_
  refine qc_andN (qc_icmp_ne (qc_at qkX4_convert 2 rfl)) (fun u2 => ?_) (fun u2 => ?_)
  · replace h := qc_jn u2 h
    refine And.imp_right (fun hx => qc_iload_n (qc_at qkX4_convert 29 rfl) rfl <| qc_iconst (qc_at qkX4_convert 30 rfl) <| hx) ?_
    refine qc_andC (qc_icmp_lt (qc_at qkX4_convert 31 rfl)) (fun u3 => ?_) (fun u3 => ?_)
    · replace h := qc_jp u3 h
      refine And.imp_right (fun hx => qc_aload_n (qc_at qkX4_convert 39 rfl) rfl <| qc_aload_n (qc_at qkX4_convert 40 rfl) rfl <| qc_gR (qc_at qkX4_convert 41 rfl) hn rfl (qfr_286_2 hR) rfl <| hx) ?_
      obtain ⟨r4, I4, L4, D4, R4, e4, h⟩ := qc_bd_of h
      have c4 := (tX6_take hn hR e4)
      refine qd_cVv (ci := 5) (a0 := 287) (qc_at qkX4_convert 42 rfl) ql_4_75 qfX6_take (qc_kf hn rfl) rfl c4 rfl rfl (Nat.le_of_ble_eq_true rfl) (qc_rml (by decide) (by decide)) ⟨Nat.zero_le _, Nat.zero_le _⟩ ?_
      refine And.imp_right (fun hx => qc_iload_n (qc_at qkX4_convert 43 rfl) rfl <| hx) ?_
      obtain ⟨r5, I5, L5, D5, R5, e5, h⟩ := qc_bd_of h
      have c5 := (tX4_convertWhole hn (c4.1.1 hR) e5)
      refine qd_cVn (ci := 4) (a0 := 286) (qc_at qkX4_convert 44 rfl) ql_4_231 qfX4_convertWhole (qc_kf hn rfl) rfl c5 rfl rfl (Nat.le_of_ble_eq_true rfl) (qc_rml (by decide) (by decide)) ⟨Nat.zero_le _, Nat.zero_le _⟩ ?_
      obtain ⟨rfl, rfl, rfl, rfl, rfl⟩ := qc_some5 h
      exact ⟨qc_fm.rf _, qc_vret (qc_at qkX4_convert 45 rfl) rfl (Nat.le_refl _) (Nat.le_refl _) (qc_eq.rf _ _ _)⟩
    · replace h := qc_jn u3 h
      refine And.imp_right (fun hx => qc_aload_n (qc_at qkX4_convert 32 rfl) rfl <| qc_aload_n (qc_at qkX4_convert 33 rfl) rfl <| qc_gR (qc_at qkX4_convert 34 rfl) hn rfl (qfr_286_2 hR) rfl <| hx) ?_
      obtain ⟨r6, I6, L6, D6, R6, e6, h⟩ := qc_bd_of h
      have c6 := (tX6_takeReal hn hR e6)
      refine qd_cVv (ci := 5) (a0 := 287) (qc_at qkX4_convert 35 rfl) ql_4_82 qfX6_takeReal (qc_kf hn rfl) rfl c6 rfl rfl (Nat.le_of_ble_eq_true rfl) (qc_rml (by decide) (by decide)) ⟨Nat.zero_le _, Nat.zero_le _⟩ ?_
      refine And.imp_right (fun hx => qc_iload_n (qc_at qkX4_convert 36 rfl) rfl <| hx) ?_
      obtain ⟨r7, I7, L7, D7, R7, e7, h⟩ := qc_bd_of h
      have c7 := (tX4_convertReal hn (c6.1.1 hR) e7)
      refine qd_cVn (ci := 4) (a0 := 286) (qc_at qkX4_convert 37 rfl) ql_4_227 qfX4_convertReal (qc_kf hn rfl) rfl c7 rfl rfl (Nat.le_of_ble_eq_true rfl) (qc_rml (by decide) (by decide)) ⟨Nat.zero_le _, Nat.zero_le _⟩ ?_
      obtain ⟨rfl, rfl, rfl, rfl, rfl⟩ := qc_some5 h
      exact ⟨qc_fm.rf _, qc_goto (qc_at qkX4_convert 38 rfl) <| qc_vret (qc_at qkX4_convert 45 rfl) rfl (Nat.le_refl _) (Nat.le_refl _) (qc_eq.rf _ _ _)⟩
  · replace h := qc_jp u2 h
    refine And.imp_right (fun hx => qc_aload_n (qc_at qkX4_convert 3 rfl) rfl <| qc_gR (qc_at qkX4_convert 4 rfl) hn rfl (qfr_286_2 hR) rfl <| hx) ?_
    obtain ⟨r8, I8, L8, D8, R8, e8, h⟩ := qc_bd_of h
    have c8 := (tX6_take hn hR e8)
    refine qd_cVv (ci := 5) (a0 := 287) (qc_at qkX4_convert 5 rfl) ql_4_75 qfX6_take (qc_kf hn rfl) rfl c8 rfl rfl (Nat.le_of_ble_eq_true rfl) (qc_rml (by decide) (by decide)) ⟨Nat.zero_le _, Nat.zero_le _⟩ ?_
    refine And.imp_right (fun hx => qc_l2i (qc_at qkX4_convert 6 rfl) <| qc_istore_n (lv' := [(3, _), (0, _), (1, _), (2, _)]) (qc_at qkX4_convert 7 rfl) rfl rfl <| qc_aload_n (qc_at qkX4_convert 8 rfl) rfl <| qc_gR (qc_at qkX4_convert 9 rfl) hn rfl (qfr_286_2 (c8.1.1 hR)) rfl <| qc_iload_n (qc_at qkX4_convert 10 rfl) rfl <| qc_iconst (qc_at qkX4_convert 11 rfl) <| hx) ?_
    refine qc_andN (qc_icmp_ne (qc_at qkX4_convert 12 rfl)) (fun u9 => ?_) (fun u9 => ?_)
    · replace h := qc_jn u9 h
      refine And.imp_right (fun hx => qc_iload_n (qc_at qkX4_convert 17 rfl) rfl <| qc_iconst (qc_at qkX4_convert 18 rfl) <| hx) ?_
      refine qc_andN (qc_icmp_ne (qc_at qkX4_convert 19 rfl)) (fun u10 => ?_) (fun u10 => ?_)
      · replace h := qc_jn u10 h
        exact And.imp_right (fun hx => qc_iload_n (qc_at qkX4_convert 24 rfl) rfl <| qc_i2c (qc_at qkX4_convert 25 rfl) <| qc_i2l (qc_at qkX4_convert 26 rfl) <| qc_sub [] rfl hx) (tX4_convert_b43 hn (c8.1.1 hR) h)
      · replace h := qc_jp u10 h
        exact And.imp_right (fun hx => qc_iload_n (qc_at qkX4_convert 20 rfl) rfl <| qc_i2s (qc_at qkX4_convert 21 rfl) <| qc_i2l (qc_at qkX4_convert 22 rfl) <| qc_goto (qc_at qkX4_convert 23 rfl) <| qc_sub [] rfl hx) (tX4_convert_b43 hn (c8.1.1 hR) h)
    · replace h := qc_jp u9 h
      exact And.imp_right (fun hx => qc_iload_n (qc_at qkX4_convert 13 rfl) rfl <| qc_i2b (qc_at qkX4_convert 14 rfl) <| qc_i2l (qc_at qkX4_convert 15 rfl) <| qc_goto (qc_at qkX4_convert 16 rfl) <| qc_sub [] rfl hx) (tX4_convert_b43 hn (c8.1.1 hR) h)
def fX4_fetch (w : qcW) (I : qTI) (L : qTL) (D : qTD) (R : qTR) (x1 : Int32) (x2 : Int32) : qcO Int32 :=
  (qc_bd (fX6_take w I L D R) fun r1 I1 L1 D1 R1 => qc_bd (fX1_cellFault w I1 L1 D1 R1 x2 x1 r1) fun r2 I2 L2 D2 R2 => if r2 = 0 then (if x1 < (6 : Int32) then (qc_bd (fX1_wholeAt w I2 L2 D2 R2 x2 (Int64.toInt32 r1)) fun r5 I5 L5 D5 R5 => qc_bd (fX6_lay w I5 L5 D5 R5 r5) fun r6 I6 L6 D6 R6 => some ((0 : Int32), I6, L6, D6, R6)) else (qc_bd (fX1_realAt w I2 L2 D2 R2 x2 (Int64.toInt32 r1)) fun r7 I7 L7 D7 R7 => qc_bd (fX6_layReal w I7 L7 D7 R7 r7) fun r8 I8 L8 D8 R8 => some ((0 : Int32), I8, L8, D8, R8))) else (some (r2, I2, L2, D2, R2)))
set_option maxRecDepth 100000 in
set_option maxHeartbeats 4000000 in
theorem tX4_fetch {w : qcW} {I : qTI} {L : qTL} {D : qTD} {R : qTR} {x1 : Int32} {x2 : Int32} {r : Int32} {I' : qTI} {L' : qTL} {D' : qTD} {R' : qTR} (hn : qcNF ≤ w.1) (hR : qc_FR R) (h : fX4_fetch w I L D R x1 x2 = some (r, I', L', D', R')) : qc_fm qcSX (I, L, D, R) (I', L', D', R') ∧ qc_V (2) 0 0 qmX4_fetch [.ref 286, .int x1, .int x2] w (I, L, D, R) (qc_eq (some (.int r)) w (I', L', D', R')) := by
  unfold fX4_fetch at h
  refine And.imp_right (fun hx => qc_V.of rfl rfl (Nat.le_of_ble_eq_true rfl) (lv := [(0, .ref 286), (1, .int x1), (2, .int x2)]) rfl hx) ?_
  refine And.imp_right (fun hx => qc_aload_n (qc_at qkX4_fetch 0 rfl) rfl <| qc_gR (qc_at qkX4_fetch 1 rfl) hn rfl (qfr_286_2 hR) rfl <| hx) ?_
  obtain ⟨r1, I1, L1, D1, R1, e1, h⟩ := qc_bd_of h
  have c1 := (tX6_take hn hR e1)
  refine qd_cVv (ci := 5) (a0 := 287) (qc_at qkX4_fetch 2 rfl) ql_4_75 qfX6_take (qc_kf hn rfl) rfl c1 rfl rfl (Nat.le_of_ble_eq_true rfl) (qc_rml (by decide) (by decide)) ⟨Nat.zero_le _, Nat.zero_le _⟩ ?_
  refine And.imp_right (fun hx => qc_lstore_n (lv' := [(3, _), (0, _), (1, _), (2, _)]) (qc_at qkX4_fetch 3 rfl) rfl rfl <| qc_aload_n (qc_at qkX4_fetch 4 rfl) rfl <| qc_gR (qc_at qkX4_fetch 5 rfl) hn rfl (qfr_286_0 (c1.1.1 hR)) rfl <| qc_iload_n (qc_at qkX4_fetch 6 rfl) rfl <| qc_iload_n (qc_at qkX4_fetch 7 rfl) rfl <| qc_lload_n (qc_at qkX4_fetch 8 rfl) rfl <| hx) ?_
  obtain ⟨r2, I2, L2, D2, R2, e2, h⟩ := qc_bd_of h
  have c2 := (tX1_cellFault hn (c1.1.1 hR) e2)
  refine qd_cVv (ci := 1) (a0 := 257) (qc_at qkX4_fetch 9 rfl) ql_4_182 qfX1_cellFault (qc_kf hn rfl) rfl c2 rfl rfl (Nat.le_of_ble_eq_true rfl) (qc_rml (by decide) (by decide)) ⟨Nat.zero_le _, Nat.zero_le _⟩ ?_
  refine And.imp_right (fun hx => qc_istore (lv' := [(5, _), (3, _), (0, _), (1, _), (2, _)]) (qc_at qkX4_fetch 10 rfl) rfl rfl <| qc_iload (qc_at qkX4_fetch 11 rfl) rfl <| hx) ?_
  refine qc_andC (qc_if_eq (qc_at qkX4_fetch 12 rfl)) (fun u3 => ?_) (fun u3 => ?_)
  · replace h := qc_jp u3 h
    refine And.imp_right (fun hx => qc_iload_n (qc_at qkX4_fetch 15 rfl) rfl <| qc_bipush (qc_at qkX4_fetch 16 rfl) <| hx) ?_
    refine qc_andC (qc_icmp_lt (qc_at qkX4_fetch 17 rfl)) (fun u4 => ?_) (fun u4 => ?_)
    · replace h := qc_jp u4 h
      refine And.imp_right (fun hx => qc_aload_n (qc_at qkX4_fetch 28 rfl) rfl <| qc_gR (qc_at qkX4_fetch 29 rfl) hn rfl (qfr_286_2 (c2.1.1 (c1.1.1 hR))) rfl <| qc_aload_n (qc_at qkX4_fetch 30 rfl) rfl <| qc_gR (qc_at qkX4_fetch 31 rfl) hn rfl (qfr_286_0 (c2.1.1 (c1.1.1 hR))) rfl <| qc_iload_n (qc_at qkX4_fetch 32 rfl) rfl <| qc_lload_n (qc_at qkX4_fetch 33 rfl) rfl <| qc_l2i (qc_at qkX4_fetch 34 rfl) <| hx) ?_
      obtain ⟨r5, I5, L5, D5, R5, e5, h⟩ := qc_bd_of h
      have c5 := (tX1_wholeAt hn (c2.1.1 (c1.1.1 hR)) e5)
      refine qd_cVv (ci := 1) (a0 := 257) (qc_at qkX4_fetch 35 rfl) ql_4_190 qfX1_wholeAt (qc_kf hn rfl) rfl c5 rfl rfl (Nat.le_of_ble_eq_true rfl) (qc_rml (by decide) (by decide)) ⟨Nat.zero_le _, Nat.zero_le _⟩ ?_
      obtain ⟨r6, I6, L6, D6, R6, e6, h⟩ := qc_bd_of h
      have c6 := (tX6_lay hn (c5.1.1 (c2.1.1 (c1.1.1 hR))) e6)
      refine qd_cVn (ci := 5) (a0 := 287) (qc_at qkX4_fetch 36 rfl) ql_4_158 qfX6_lay (qc_kf hn rfl) rfl c6 rfl rfl (Nat.le_of_ble_eq_true rfl) (qc_rml (by decide) (by decide)) ⟨Nat.zero_le _, Nat.zero_le _⟩ ?_
      obtain ⟨rfl, rfl, rfl, rfl, rfl⟩ := qc_some5 h
      exact ⟨qc_fm.rf _, qc_iconst (qc_at qkX4_fetch 37 rfl) <| qc_iret (qc_at qkX4_fetch 38 rfl) rfl (Nat.le_refl _) (Nat.le_refl _) (qc_eq.rf _ _ _)⟩
    · replace h := qc_jn u4 h
      refine And.imp_right (fun hx => qc_aload_n (qc_at qkX4_fetch 18 rfl) rfl <| qc_gR (qc_at qkX4_fetch 19 rfl) hn rfl (qfr_286_2 (c2.1.1 (c1.1.1 hR))) rfl <| qc_aload_n (qc_at qkX4_fetch 20 rfl) rfl <| qc_gR (qc_at qkX4_fetch 21 rfl) hn rfl (qfr_286_0 (c2.1.1 (c1.1.1 hR))) rfl <| qc_iload_n (qc_at qkX4_fetch 22 rfl) rfl <| qc_lload_n (qc_at qkX4_fetch 23 rfl) rfl <| qc_l2i (qc_at qkX4_fetch 24 rfl) <| hx) ?_
      obtain ⟨r7, I7, L7, D7, R7, e7, h⟩ := qc_bd_of h
      have c7 := (tX1_realAt hn (c2.1.1 (c1.1.1 hR)) e7)
      refine qd_cVv (ci := 1) (a0 := 257) (qc_at qkX4_fetch 25 rfl) ql_4_186 qfX1_realAt (qc_kf hn rfl) rfl c7 rfl rfl (Nat.le_of_ble_eq_true rfl) (qc_rml (by decide) (by decide)) ⟨Nat.zero_le _, Nat.zero_le _⟩ ?_
      obtain ⟨r8, I8, L8, D8, R8, e8, h⟩ := qc_bd_of h
      have c8 := (tX6_layReal hn (c7.1.1 (c2.1.1 (c1.1.1 hR))) e8)
      refine qd_cVn (ci := 5) (a0 := 287) (qc_at qkX4_fetch 26 rfl) ql_4_178 qfX6_layReal (qc_kf hn rfl) rfl c8 rfl rfl (Nat.le_of_ble_eq_true rfl) (qc_rml (by decide) (by decide)) ⟨Nat.zero_le _, Nat.zero_le _⟩ ?_
      obtain ⟨rfl, rfl, rfl, rfl, rfl⟩ := qc_some5 h
      exact ⟨qc_fm.rf _, qc_goto (qc_at qkX4_fetch 27 rfl) <| qc_iconst (qc_at qkX4_fetch 37 rfl) <| qc_iret (qc_at qkX4_fetch 38 rfl) rfl (Nat.le_refl _) (Nat.le_refl _) (qc_eq.rf _ _ _)⟩
  · replace h := qc_jn u3 h
    obtain ⟨rfl, rfl, rfl, rfl, rfl⟩ := qc_some5 h
    exact ⟨qc_fm.rf _, qc_iload (qc_at qkX4_fetch 13 rfl) rfl <| qc_iret (qc_at qkX4_fetch 14 rfl) rfl (Nat.le_refl _) (Nat.le_refl _) (qc_eq.rf _ _ _)⟩
def fX4_holds (w : qcW) (I : qTI) (L : qTL) (D : qTD) (R : qTR) (x0 : Int32) (x1 : Int64) : qcO Bool :=
  (if x0 = 0 then (if (lg_cmp x1 (0 : Int64)) = 0 then (some (true, I, L, D, R)) else (some (false, I, L, D, R))) else if x0 = 1 then (if (lg_cmp x1 (0 : Int64)) = 0 then (some (false, I, L, D, R)) else (some (true, I, L, D, R))) else if x0 = 2 then (if 0 ≤ (lg_cmp x1 (0 : Int64)) then (some (false, I, L, D, R)) else (some (true, I, L, D, R))) else if x0 = 3 then (if (lg_cmp x1 (0 : Int64)) ≤ 0 then (some (false, I, L, D, R)) else (some (true, I, L, D, R))) else if x0 = 4 then (if 0 < (lg_cmp x1 (0 : Int64)) then (some (false, I, L, D, R)) else (some (true, I, L, D, R))) else (if (lg_cmp x1 (0 : Int64)) < 0 then (some (false, I, L, D, R)) else (some (true, I, L, D, R))))
set_option maxRecDepth 100000 in
set_option maxHeartbeats 4000000 in
theorem tX4_holds {w : qcW} {I : qTI} {L : qTL} {D : qTD} {R : qTR} {x0 : Int32} {x1 : Int64} {r : Bool} {I' : qTI} {L' : qTL} {D' : qTD} {R' : qTR} (hn : qcNF ≤ w.1) (hR : qc_FR R) (h : fX4_holds w I L D R x0 x1 = some (r, I', L', D', R')) : qc_fm qcSX (I, L, D, R) (I', L', D', R') ∧ qc_V (0) 0 0 qmX4_holds [.int x0, .long x1] w (I, L, D, R) (qc_eq (some (.int (qc_b r))) w (I', L', D', R')) := by
  unfold fX4_holds at h
  refine And.imp_right (fun hx => qc_V.of rfl rfl (Nat.le_of_ble_eq_true rfl) (lv := [(0, .int x0), (1, .long x1)]) rfl hx) ?_
  refine And.imp_right (fun hx => qc_iload_n (qc_at qkX4_holds 0 rfl) rfl <| hx) ?_
  refine qc_by (c := x0 = 0) (fun u1 => ?_) (fun u1 => ?_)
  · refine And.imp_right (fun hx => qc_tabIn (qc_at qkX4_holds 1 rfl) 0 (by rw [u1]; rfl) (by decide) rfl rfl hx) ?_
    replace h := qc_jp u1 h
    refine And.imp_right (fun hx => qc_lload_n (qc_at qkX4_holds 2 rfl) rfl <| qc_lconst (qc_at qkX4_holds 3 rfl) <| qc_lcmp (qc_at qkX4_holds 4 rfl) <| hx) ?_
    refine qc_andN (qc_if_ne (qc_at qkX4_holds 5 rfl)) (fun u2 => ?_) (fun u2 => ?_)
    · replace h := qc_jn u2 h
      obtain ⟨rfl, rfl, rfl, rfl, rfl⟩ := qc_some5 h
      exact ⟨qc_fm.rf _, qc_iconst (qc_at qkX4_holds 8 rfl) <| qc_zret (qc_at qkX4_holds 9 rfl) rfl (Or.inl rfl) (Nat.le_refl _) (Nat.le_refl _) ⟨rfl, rfl, rfl⟩⟩
    · replace h := qc_jp u2 h
      obtain ⟨rfl, rfl, rfl, rfl, rfl⟩ := qc_some5 h
      exact ⟨qc_fm.rf _, qc_iconst (qc_at qkX4_holds 6 rfl) <| qc_goto (qc_at qkX4_holds 7 rfl) <| qc_zret (qc_at qkX4_holds 9 rfl) rfl (Or.inr rfl) (Nat.le_refl _) (Nat.le_refl _) ⟨rfl, rfl, rfl⟩⟩
  · replace h := qc_jn u1 h
    refine qc_by (c := x0 = 1) (fun u3 => ?_) (fun u3 => ?_)
    · refine And.imp_right (fun hx => qc_tabIn (qc_at qkX4_holds 1 rfl) 1 (by rw [u3]; rfl) (by decide) rfl rfl hx) ?_
      replace h := qc_jp u3 h
      refine And.imp_right (fun hx => qc_lload_n (qc_at qkX4_holds 10 rfl) rfl <| qc_lconst (qc_at qkX4_holds 11 rfl) <| qc_lcmp (qc_at qkX4_holds 12 rfl) <| hx) ?_
      refine qc_andC (qc_if_eq (qc_at qkX4_holds 13 rfl)) (fun u4 => ?_) (fun u4 => ?_)
      · replace h := qc_jp u4 h
        obtain ⟨rfl, rfl, rfl, rfl, rfl⟩ := qc_some5 h
        exact ⟨qc_fm.rf _, qc_iconst (qc_at qkX4_holds 16 rfl) <| qc_zret (qc_at qkX4_holds 17 rfl) rfl (Or.inl rfl) (Nat.le_refl _) (Nat.le_refl _) ⟨rfl, rfl, rfl⟩⟩
      · replace h := qc_jn u4 h
        obtain ⟨rfl, rfl, rfl, rfl, rfl⟩ := qc_some5 h
        exact ⟨qc_fm.rf _, qc_iconst (qc_at qkX4_holds 14 rfl) <| qc_goto (qc_at qkX4_holds 15 rfl) <| qc_zret (qc_at qkX4_holds 17 rfl) rfl (Or.inr rfl) (Nat.le_refl _) (Nat.le_refl _) ⟨rfl, rfl, rfl⟩⟩
    · replace h := qc_jn u3 h
      refine qc_by (c := x0 = 2) (fun u5 => ?_) (fun u5 => ?_)
      · refine And.imp_right (fun hx => qc_tabIn (qc_at qkX4_holds 1 rfl) 2 (by rw [u5]; rfl) (by decide) rfl rfl hx) ?_
        replace h := qc_jp u5 h
        refine And.imp_right (fun hx => qc_lload_n (qc_at qkX4_holds 18 rfl) rfl <| qc_lconst (qc_at qkX4_holds 19 rfl) <| qc_lcmp (qc_at qkX4_holds 20 rfl) <| hx) ?_
        refine qc_andC (qc_if_ge (qc_at qkX4_holds 21 rfl)) (fun u6 => ?_) (fun u6 => ?_)
        · replace h := qc_jp u6 h
          obtain ⟨rfl, rfl, rfl, rfl, rfl⟩ := qc_some5 h
          exact ⟨qc_fm.rf _, qc_iconst (qc_at qkX4_holds 24 rfl) <| qc_zret (qc_at qkX4_holds 25 rfl) rfl (Or.inl rfl) (Nat.le_refl _) (Nat.le_refl _) ⟨rfl, rfl, rfl⟩⟩
        · replace h := qc_jn u6 h
          obtain ⟨rfl, rfl, rfl, rfl, rfl⟩ := qc_some5 h
          exact ⟨qc_fm.rf _, qc_iconst (qc_at qkX4_holds 22 rfl) <| qc_goto (qc_at qkX4_holds 23 rfl) <| qc_zret (qc_at qkX4_holds 25 rfl) rfl (Or.inr rfl) (Nat.le_refl _) (Nat.le_refl _) ⟨rfl, rfl, rfl⟩⟩
      · replace h := qc_jn u5 h
        refine qc_by (c := x0 = 3) (fun u7 => ?_) (fun u7 => ?_)
        · refine And.imp_right (fun hx => qc_tabIn (qc_at qkX4_holds 1 rfl) 3 (by rw [u7]; rfl) (by decide) rfl rfl hx) ?_
          replace h := qc_jp u7 h
          refine And.imp_right (fun hx => qc_lload_n (qc_at qkX4_holds 26 rfl) rfl <| qc_lconst (qc_at qkX4_holds 27 rfl) <| qc_lcmp (qc_at qkX4_holds 28 rfl) <| hx) ?_
          refine qc_andC (qc_if_le (qc_at qkX4_holds 29 rfl)) (fun u8 => ?_) (fun u8 => ?_)
          · replace h := qc_jp u8 h
            obtain ⟨rfl, rfl, rfl, rfl, rfl⟩ := qc_some5 h
            exact ⟨qc_fm.rf _, qc_iconst (qc_at qkX4_holds 32 rfl) <| qc_zret (qc_at qkX4_holds 33 rfl) rfl (Or.inl rfl) (Nat.le_refl _) (Nat.le_refl _) ⟨rfl, rfl, rfl⟩⟩
          · replace h := qc_jn u8 h
            obtain ⟨rfl, rfl, rfl, rfl, rfl⟩ := qc_some5 h
            exact ⟨qc_fm.rf _, qc_iconst (qc_at qkX4_holds 30 rfl) <| qc_goto (qc_at qkX4_holds 31 rfl) <| qc_zret (qc_at qkX4_holds 33 rfl) rfl (Or.inr rfl) (Nat.le_refl _) (Nat.le_refl _) ⟨rfl, rfl, rfl⟩⟩
        · replace h := qc_jn u7 h
          refine qc_by (c := x0 = 4) (fun u9 => ?_) (fun u9 => ?_)
          · refine And.imp_right (fun hx => qc_tabIn (qc_at qkX4_holds 1 rfl) 4 (by rw [u9]; rfl) (by decide) rfl rfl hx) ?_
            replace h := qc_jp u9 h
            refine And.imp_right (fun hx => qc_lload_n (qc_at qkX4_holds 34 rfl) rfl <| qc_lconst (qc_at qkX4_holds 35 rfl) <| qc_lcmp (qc_at qkX4_holds 36 rfl) <| hx) ?_
            refine qc_andC (qc_if_gt (qc_at qkX4_holds 37 rfl)) (fun u10 => ?_) (fun u10 => ?_)
            · replace h := qc_jp u10 h
              obtain ⟨rfl, rfl, rfl, rfl, rfl⟩ := qc_some5 h
              exact ⟨qc_fm.rf _, qc_iconst (qc_at qkX4_holds 40 rfl) <| qc_zret (qc_at qkX4_holds 41 rfl) rfl (Or.inl rfl) (Nat.le_refl _) (Nat.le_refl _) ⟨rfl, rfl, rfl⟩⟩
            · replace h := qc_jn u10 h
              obtain ⟨rfl, rfl, rfl, rfl, rfl⟩ := qc_some5 h
              exact ⟨qc_fm.rf _, qc_iconst (qc_at qkX4_holds 38 rfl) <| qc_goto (qc_at qkX4_holds 39 rfl) <| qc_zret (qc_at qkX4_holds 41 rfl) rfl (Or.inr rfl) (Nat.le_refl _) (Nat.le_refl _) ⟨rfl, rfl, rfl⟩⟩
          · replace h := qc_jn u9 h
            have v1 : ¬ Int32.toInt x0 = 0 := fun z => u1 (qc_i32 z rfl)
            have v3 : ¬ Int32.toInt x0 = 1 := fun z => u3 (qc_i32 z rfl)
            have v5 : ¬ Int32.toInt x0 = 2 := fun z => u5 (qc_i32 z rfl)
            have v7 : ¬ Int32.toInt x0 = 3 := fun z => u7 (qc_i32 z rfl)
            have v9 : ¬ Int32.toInt x0 = 4 := fun z => u9 (qc_i32 z rfl)
            refine And.imp_right (fun hx => qc_tabOut (qc_at qkX4_holds 1 rfl) (by omega) rfl hx) ?_
            refine And.imp_right (fun hx => qc_lload_n (qc_at qkX4_holds 42 rfl) rfl <| qc_lconst (qc_at qkX4_holds 43 rfl) <| qc_lcmp (qc_at qkX4_holds 44 rfl) <| hx) ?_
            refine qc_andC (qc_if_lt (qc_at qkX4_holds 45 rfl)) (fun u11 => ?_) (fun u11 => ?_)
            · replace h := qc_jp u11 h
              obtain ⟨rfl, rfl, rfl, rfl, rfl⟩ := qc_some5 h
              exact ⟨qc_fm.rf _, qc_iconst (qc_at qkX4_holds 48 rfl) <| qc_zret (qc_at qkX4_holds 49 rfl) rfl (Or.inl rfl) (Nat.le_refl _) (Nat.le_refl _) ⟨rfl, rfl, rfl⟩⟩
            · replace h := qc_jn u11 h
              obtain ⟨rfl, rfl, rfl, rfl, rfl⟩ := qc_some5 h
              exact ⟨qc_fm.rf _, qc_iconst (qc_at qkX4_holds 46 rfl) <| qc_goto (qc_at qkX4_holds 47 rfl) <| qc_zret (qc_at qkX4_holds 49 rfl) rfl (Or.inr rfl) (Nat.le_refl _) (Nat.le_refl _) ⟨rfl, rfl, rfl⟩⟩
def fX4_joinBits_b118 (w : qcW) (I : qTI) (L : qTL) (D : qTD) (R : qTR) (s0 : Int64) : qcO Unit :=
  (qc_bd (fX6_lay w I L D R s0) fun r1 I1 L1 D1 R1 => some ((), I1, L1, D1, R1))
set_option maxRecDepth 100000 in
set_option maxHeartbeats 4000000 in
theorem tX4_joinBits_b118 {w : qcW} {I : qTI} {L : qTL} {D : qTD} {R : qTR} {s0 : Int64} {r : Unit} {I' : qTI} {L' : qTL} {D' : qTD} {R' : qTR} (hn : qcNF ≤ w.1) (hR : qc_FR R) (h : fX4_joinBits_b118 w I L D R s0 = some (r, I', L', D', R')) : qc_fm qcSX (I, L, D, R) (I', L', D', R') ∧ qc_X (qc_rm (1) 0 0) qmX4_joinBits (qc_QM 0 0 (qc_eq none w (I', L', D', R'))) 0 0 w (118, [], [.long s0, .ref 287], I, L, D, R) := by
  unfold fX4_joinBits_b118 at h
  obtain ⟨r1, I1, L1, D1, R1, e1, h⟩ := qc_bd_of h
  have c1 := (tX6_lay hn hR e1)
  refine qd_cVn (ci := 5) (a0 := 287) (qc_at qkX4_joinBits 47 rfl) ql_4_158 qfX6_lay (qc_kf hn rfl) rfl c1 rfl rfl (Nat.le_of_ble_eq_true rfl) (qc_rml (by decide) (by decide)) ⟨Nat.zero_le _, Nat.zero_le _⟩ ?_
  obtain ⟨rfl, rfl, rfl, rfl, rfl⟩ := qc_some5 h
  exact ⟨qc_fm.rf _, qc_goto (qc_at qkX4_joinBits 48 rfl) <| qc_vret (qc_at qkX4_joinBits 84 rfl) rfl (Nat.le_refl _) (Nat.le_refl _) (qc_eq.rf _ _ _)⟩
def fX4_joinBits_b148 (w : qcW) (I : qTI) (L : qTL) (D : qTD) (R : qTR) (s0 : Int64) : qcO Unit :=
  (qc_bd (fX6_lay w I L D R s0) fun r2 I2 L2 D2 R2 => some ((), I2, L2, D2, R2))
set_option maxRecDepth 100000 in
set_option maxHeartbeats 4000000 in
theorem tX4_joinBits_b148 {w : qcW} {I : qTI} {L : qTL} {D : qTD} {R : qTR} {s0 : Int64} {r : Unit} {I' : qTI} {L' : qTL} {D' : qTD} {R' : qTR} (hn : qcNF ≤ w.1) (hR : qc_FR R) (h : fX4_joinBits_b148 w I L D R s0 = some (r, I', L', D', R')) : qc_fm qcSX (I, L, D, R) (I', L', D', R') ∧ qc_X (qc_rm (1) 0 0) qmX4_joinBits (qc_QM 0 0 (qc_eq none w (I', L', D', R'))) 0 0 w (148, [], [.long s0, .ref 287], I, L, D, R) := by
  unfold fX4_joinBits_b148 at h
  obtain ⟨r2, I2, L2, D2, R2, e2, h⟩ := qc_bd_of h
  have c2 := (tX6_lay hn hR e2)
  refine qd_cVn (ci := 5) (a0 := 287) (qc_at qkX4_joinBits 65 rfl) ql_4_158 qfX6_lay (qc_kf hn rfl) rfl c2 rfl rfl (Nat.le_of_ble_eq_true rfl) (qc_rml (by decide) (by decide)) ⟨Nat.zero_le _, Nat.zero_le _⟩ ?_
  obtain ⟨rfl, rfl, rfl, rfl, rfl⟩ := qc_some5 h
  exact ⟨qc_fm.rf _, qc_goto (qc_at qkX4_joinBits 66 rfl) <| qc_vret (qc_at qkX4_joinBits 84 rfl) rfl (Nat.le_refl _) (Nat.le_refl _) (qc_eq.rf _ _ _)⟩
def fX4_joinBits_b178 (w : qcW) (I : qTI) (L : qTL) (D : qTD) (R : qTR) (s0 : Int64) : qcO Unit :=
  (qc_bd (fX6_lay w I L D R s0) fun r3 I3 L3 D3 R3 => some ((), I3, L3, D3, R3))
set_option maxRecDepth 100000 in
set_option maxHeartbeats 4000000 in
theorem tX4_joinBits_b178 {w : qcW} {I : qTI} {L : qTL} {D : qTD} {R : qTR} {s0 : Int64} {r : Unit} {I' : qTI} {L' : qTL} {D' : qTD} {R' : qTR} (hn : qcNF ≤ w.1) (hR : qc_FR R) (h : fX4_joinBits_b178 w I L D R s0 = some (r, I', L', D', R')) : qc_fm qcSX (I, L, D, R) (I', L', D', R') ∧ qc_X (qc_rm (1) 0 0) qmX4_joinBits (qc_QM 0 0 (qc_eq none w (I', L', D', R'))) 0 0 w (178, [], [.long s0, .ref 287], I, L, D, R) := by
  unfold fX4_joinBits_b178 at h
  obtain ⟨r3, I3, L3, D3, R3, e3, h⟩ := qc_bd_of h
  have c3 := (tX6_lay hn hR e3)
  refine qd_cVn (ci := 5) (a0 := 287) (qc_at qkX4_joinBits 83 rfl) ql_4_158 qfX6_lay (qc_kf hn rfl) rfl c3 rfl rfl (Nat.le_of_ble_eq_true rfl) (qc_rml (by decide) (by decide)) ⟨Nat.zero_le _, Nat.zero_le _⟩ ?_
  obtain ⟨rfl, rfl, rfl, rfl, rfl⟩ := qc_some5 h
  exact ⟨qc_fm.rf _, qc_vret (qc_at qkX4_joinBits 84 rfl) rfl (Nat.le_refl _) (Nat.le_refl _) (qc_eq.rf _ _ _)⟩
def fX4_joinBits (w : qcW) (I : qTI) (L : qTL) (D : qTD) (R : qTR) (x1 : Int32) (x2 : Int32) : qcO Unit :=
  (qc_bd (fX6_take w I L D R) fun r4 I4 L4 D4 R4 => qc_bd (fX6_take w I4 L4 D4 R4) fun r5 I5 L5 D5 R5 => if x1 = 6 then (qc_bd (fX6_lay w I5 L5 D5 R5 (r5 &&& r4)) fun r7 I7 L7 D7 R7 => some ((), I7, L7, D7, R7)) else if x1 = 7 then (qc_bd (fX6_lay w I5 L5 D5 R5 (r5 ||| r4)) fun r9 I9 L9 D9 R9 => some ((), I9, L9, D9, R9)) else if x1 = 8 then (qc_bd (fX6_lay w I5 L5 D5 R5 (r5 ^^^ r4)) fun r11 I11 L11 D11 R11 => some ((), I11, L11, D11, R11)) else if x1 = 9 then (if x2 = (1 : Int32) then (fX4_joinBits_b118 w I5 L5 D5 R5 (Int32.toInt64 ((Int64.toInt32 r5) <<< ((Int64.toInt32 r4) &&& 31)))) else (fX4_joinBits_b118 w I5 L5 D5 R5 (r5 <<< (Int32.toInt64 (Int64.toInt32 r4) &&& 63)))) else if x1 = 10 then (if x2 = (1 : Int32) then (fX4_joinBits_b148 w I5 L5 D5 R5 (Int32.toInt64 ((Int64.toInt32 r5) >>> ((Int64.toInt32 r4) &&& 31)))) else (fX4_joinBits_b148 w I5 L5 D5 R5 (r5 >>> (Int32.toInt64 (Int64.toInt32 r4) &&& 63)))) else (if x2 = (1 : Int32) then (fX4_joinBits_b178 w I5 L5 D5 R5 (Int32.toInt64 (UInt32.toInt32 (Int32.toUInt32 (Int64.toInt32 r5) >>> (Int32.toUInt32 (Int64.toInt32 r4) &&& Int32.toUInt32 31))))) else (fX4_joinBits_b178 w I5 L5 D5 R5 (UInt64.toInt64 (Int64.toUInt64 r5 >>> (Int64.toUInt64 (Int32.toInt64 (Int64.toInt32 r4)) &&& Int64.toUInt64 63))))))
set_option maxRecDepth 100000 in
set_option maxHeartbeats 4000000 in
theorem tX4_joinBits {w : qcW} {I : qTI} {L : qTL} {D : qTD} {R : qTR} {x1 : Int32} {x2 : Int32} {r : Unit} {I' : qTI} {L' : qTL} {D' : qTD} {R' : qTR} (hn : qcNF ≤ w.1) (hR : qc_FR R) (h : fX4_joinBits w I L D R x1 x2 = some (r, I', L', D', R')) : qc_fm qcSX (I, L, D, R) (I', L', D', R') ∧ qc_V (1) 0 0 qmX4_joinBits [.ref 286, .int x1, .int x2] w (I, L, D, R) (qc_eq none w (I', L', D', R')) := by
  unfold fX4_joinBits at h
  refine And.imp_right (fun hx => qc_V.of rfl rfl (Nat.le_of_ble_eq_true rfl) (lv := [(0, .ref 286), (1, .int x1), (2, .int x2)]) rfl hx) ?_
  refine And.imp_right (fun hx => qc_aload_n (qc_at qkX4_joinBits 0 rfl) rfl <| qc_gR (qc_at qkX4_joinBits 1 rfl) hn rfl (qfr_286_2 hR) rfl <| hx) ?_
  obtain ⟨r4, I4, L4, D4, R4, e4, h⟩ := qc_bd_of h
  have c4 := (tX6_take hn hR e4)
  refine qd_cVv (ci := 5) (a0 := 287) (qc_at qkX4_joinBits 2 rfl) ql_4_75 qfX6_take (qc_kf hn rfl) rfl c4 rfl rfl (Nat.le_of_ble_eq_true rfl) (qc_rml (by decide) (by decide)) ⟨Nat.zero_le _, Nat.zero_le _⟩ ?_
  refine And.imp_right (fun hx => qc_lstore_n (lv' := [(3, _), (0, _), (1, _), (2, _)]) (qc_at qkX4_joinBits 3 rfl) rfl rfl <| qc_aload_n (qc_at qkX4_joinBits 4 rfl) rfl <| qc_gR (qc_at qkX4_joinBits 5 rfl) hn rfl (qfr_286_2 (c4.1.1 hR)) rfl <| hx) ?_
  obtain ⟨r5, I5, L5, D5, R5, e5, h⟩ := qc_bd_of h
  have c5 := (tX6_take hn (c4.1.1 hR) e5)
  refine qd_cVv (ci := 5) (a0 := 287) (qc_at qkX4_joinBits 6 rfl) ql_4_75 qfX6_take (qc_kf hn rfl) rfl c5 rfl rfl (Nat.le_of_ble_eq_true rfl) (qc_rml (by decide) (by decide)) ⟨Nat.zero_le _, Nat.zero_le _⟩ ?_
  refine And.imp_right (fun hx => qc_lstore (lv' := [(5, _), (3, _), (0, _), (1, _), (2, _)]) (qc_at qkX4_joinBits 7 rfl) rfl rfl <| qc_iload_n (qc_at qkX4_joinBits 8 rfl) rfl <| hx) ?_
  refine qc_by (c := x1 = 6) (fun u6 => ?_) (fun u6 => ?_)
  · refine And.imp_right (fun hx => qc_tabIn (qc_at qkX4_joinBits 9 rfl) 0 (by rw [u6]; rfl) (by decide) rfl rfl hx) ?_
    replace h := qc_jp u6 h
    refine And.imp_right (fun hx => qc_aload_n (qc_at qkX4_joinBits 10 rfl) rfl <| qc_gR (qc_at qkX4_joinBits 11 rfl) hn rfl (qfr_286_2 (c5.1.1 (c4.1.1 hR))) rfl <| qc_lload (qc_at qkX4_joinBits 12 rfl) rfl <| qc_lload_n (qc_at qkX4_joinBits 13 rfl) rfl <| qc_land (qc_at qkX4_joinBits 14 rfl) <| hx) ?_
    obtain ⟨r7, I7, L7, D7, R7, e7, h⟩ := qc_bd_of h
    have c7 := (tX6_lay hn (c5.1.1 (c4.1.1 hR)) e7)
    refine qd_cVn (ci := 5) (a0 := 287) (qc_at qkX4_joinBits 15 rfl) ql_4_158 qfX6_lay (qc_kf hn rfl) rfl c7 rfl rfl (Nat.le_of_ble_eq_true rfl) (qc_rml (by decide) (by decide)) ⟨Nat.zero_le _, Nat.zero_le _⟩ ?_
    obtain ⟨rfl, rfl, rfl, rfl, rfl⟩ := qc_some5 h
    exact ⟨qc_fm.rf _, qc_goto (qc_at qkX4_joinBits 16 rfl) <| qc_vret (qc_at qkX4_joinBits 84 rfl) rfl (Nat.le_refl _) (Nat.le_refl _) (qc_eq.rf _ _ _)⟩
  · replace h := qc_jn u6 h
    refine qc_by (c := x1 = 7) (fun u8 => ?_) (fun u8 => ?_)
    · refine And.imp_right (fun hx => qc_tabIn (qc_at qkX4_joinBits 9 rfl) 1 (by rw [u8]; rfl) (by decide) rfl rfl hx) ?_
      replace h := qc_jp u8 h
      refine And.imp_right (fun hx => qc_aload_n (qc_at qkX4_joinBits 17 rfl) rfl <| qc_gR (qc_at qkX4_joinBits 18 rfl) hn rfl (qfr_286_2 (c5.1.1 (c4.1.1 hR))) rfl <| qc_lload (qc_at qkX4_joinBits 19 rfl) rfl <| qc_lload_n (qc_at qkX4_joinBits 20 rfl) rfl <| qc_lor (qc_at qkX4_joinBits 21 rfl) <| hx) ?_
      obtain ⟨r9, I9, L9, D9, R9, e9, h⟩ := qc_bd_of h
      have c9 := (tX6_lay hn (c5.1.1 (c4.1.1 hR)) e9)
      refine qd_cVn (ci := 5) (a0 := 287) (qc_at qkX4_joinBits 22 rfl) ql_4_158 qfX6_lay (qc_kf hn rfl) rfl c9 rfl rfl (Nat.le_of_ble_eq_true rfl) (qc_rml (by decide) (by decide)) ⟨Nat.zero_le _, Nat.zero_le _⟩ ?_
      obtain ⟨rfl, rfl, rfl, rfl, rfl⟩ := qc_some5 h
      exact ⟨qc_fm.rf _, qc_goto (qc_at qkX4_joinBits 23 rfl) <| qc_vret (qc_at qkX4_joinBits 84 rfl) rfl (Nat.le_refl _) (Nat.le_refl _) (qc_eq.rf _ _ _)⟩
    · replace h := qc_jn u8 h
      refine qc_by (c := x1 = 8) (fun u10 => ?_) (fun u10 => ?_)
      · refine And.imp_right (fun hx => qc_tabIn (qc_at qkX4_joinBits 9 rfl) 2 (by rw [u10]; rfl) (by decide) rfl rfl hx) ?_
        replace h := qc_jp u10 h
        refine And.imp_right (fun hx => qc_aload_n (qc_at qkX4_joinBits 24 rfl) rfl <| qc_gR (qc_at qkX4_joinBits 25 rfl) hn rfl (qfr_286_2 (c5.1.1 (c4.1.1 hR))) rfl <| qc_lload (qc_at qkX4_joinBits 26 rfl) rfl <| qc_lload_n (qc_at qkX4_joinBits 27 rfl) rfl <| qc_lxor (qc_at qkX4_joinBits 28 rfl) <| hx) ?_
        obtain ⟨r11, I11, L11, D11, R11, e11, h⟩ := qc_bd_of h
        have c11 := (tX6_lay hn (c5.1.1 (c4.1.1 hR)) e11)
        refine qd_cVn (ci := 5) (a0 := 287) (qc_at qkX4_joinBits 29 rfl) ql_4_158 qfX6_lay (qc_kf hn rfl) rfl c11 rfl rfl (Nat.le_of_ble_eq_true rfl) (qc_rml (by decide) (by decide)) ⟨Nat.zero_le _, Nat.zero_le _⟩ ?_
        obtain ⟨rfl, rfl, rfl, rfl, rfl⟩ := qc_some5 h
        exact ⟨qc_fm.rf _, qc_goto (qc_at qkX4_joinBits 30 rfl) <| qc_vret (qc_at qkX4_joinBits 84 rfl) rfl (Nat.le_refl _) (Nat.le_refl _) (qc_eq.rf _ _ _)⟩
      · replace h := qc_jn u10 h
        refine qc_by (c := x1 = 9) (fun u12 => ?_) (fun u12 => ?_)
        · refine And.imp_right (fun hx => qc_tabIn (qc_at qkX4_joinBits 9 rfl) 3 (by rw [u12]; rfl) (by decide) rfl rfl hx) ?_
          replace h := qc_jp u12 h
          refine And.imp_right (fun hx => qc_aload_n (qc_at qkX4_joinBits 31 rfl) rfl <| qc_gR (qc_at qkX4_joinBits 32 rfl) hn rfl (qfr_286_2 (c5.1.1 (c4.1.1 hR))) rfl <| qc_iload_n (qc_at qkX4_joinBits 33 rfl) rfl <| qc_iconst (qc_at qkX4_joinBits 34 rfl) <| hx) ?_
          refine qc_andN (qc_icmp_ne (qc_at qkX4_joinBits 35 rfl)) (fun u13 => ?_) (fun u13 => ?_)
          · replace h := qc_jn u13 h
            exact And.imp_right (fun hx => qc_lload (qc_at qkX4_joinBits 43 rfl) rfl <| qc_lload_n (qc_at qkX4_joinBits 44 rfl) rfl <| qc_l2i (qc_at qkX4_joinBits 45 rfl) <| qc_lshl (qc_at qkX4_joinBits 46 rfl) <| qc_sub [] rfl hx) (tX4_joinBits_b118 hn (c5.1.1 (c4.1.1 hR)) h)
          · replace h := qc_jp u13 h
            exact And.imp_right (fun hx => qc_lload (qc_at qkX4_joinBits 36 rfl) rfl <| qc_l2i (qc_at qkX4_joinBits 37 rfl) <| qc_lload_n (qc_at qkX4_joinBits 38 rfl) rfl <| qc_l2i (qc_at qkX4_joinBits 39 rfl) <| qc_ishl (qc_at qkX4_joinBits 40 rfl) <| qc_i2l (qc_at qkX4_joinBits 41 rfl) <| qc_goto (qc_at qkX4_joinBits 42 rfl) <| qc_sub [] rfl hx) (tX4_joinBits_b118 hn (c5.1.1 (c4.1.1 hR)) h)
        · replace h := qc_jn u12 h
          refine qc_by (c := x1 = 10) (fun u14 => ?_) (fun u14 => ?_)
          · refine And.imp_right (fun hx => qc_tabIn (qc_at qkX4_joinBits 9 rfl) 4 (by rw [u14]; rfl) (by decide) rfl rfl hx) ?_
            replace h := qc_jp u14 h
            refine And.imp_right (fun hx => qc_aload_n (qc_at qkX4_joinBits 49 rfl) rfl <| qc_gR (qc_at qkX4_joinBits 50 rfl) hn rfl (qfr_286_2 (c5.1.1 (c4.1.1 hR))) rfl <| qc_iload_n (qc_at qkX4_joinBits 51 rfl) rfl <| qc_iconst (qc_at qkX4_joinBits 52 rfl) <| hx) ?_
            refine qc_andN (qc_icmp_ne (qc_at qkX4_joinBits 53 rfl)) (fun u15 => ?_) (fun u15 => ?_)
            · replace h := qc_jn u15 h
              exact And.imp_right (fun hx => qc_lload (qc_at qkX4_joinBits 61 rfl) rfl <| qc_lload_n (qc_at qkX4_joinBits 62 rfl) rfl <| qc_l2i (qc_at qkX4_joinBits 63 rfl) <| qc_lshr (qc_at qkX4_joinBits 64 rfl) <| qc_sub [] rfl hx) (tX4_joinBits_b148 hn (c5.1.1 (c4.1.1 hR)) h)
            · replace h := qc_jp u15 h
              exact And.imp_right (fun hx => qc_lload (qc_at qkX4_joinBits 54 rfl) rfl <| qc_l2i (qc_at qkX4_joinBits 55 rfl) <| qc_lload_n (qc_at qkX4_joinBits 56 rfl) rfl <| qc_l2i (qc_at qkX4_joinBits 57 rfl) <| qc_ishr (qc_at qkX4_joinBits 58 rfl) <| qc_i2l (qc_at qkX4_joinBits 59 rfl) <| qc_goto (qc_at qkX4_joinBits 60 rfl) <| qc_sub [] rfl hx) (tX4_joinBits_b148 hn (c5.1.1 (c4.1.1 hR)) h)
          · replace h := qc_jn u14 h
            have v6 : ¬ Int32.toInt x1 = 6 := fun z => u6 (qc_i32 z rfl)
            have v8 : ¬ Int32.toInt x1 = 7 := fun z => u8 (qc_i32 z rfl)
            have v10 : ¬ Int32.toInt x1 = 8 := fun z => u10 (qc_i32 z rfl)
            have v12 : ¬ Int32.toInt x1 = 9 := fun z => u12 (qc_i32 z rfl)
            have v14 : ¬ Int32.toInt x1 = 10 := fun z => u14 (qc_i32 z rfl)
            refine And.imp_right (fun hx => qc_tabOut (qc_at qkX4_joinBits 9 rfl) (by omega) rfl hx) ?_
            refine And.imp_right (fun hx => qc_aload_n (qc_at qkX4_joinBits 67 rfl) rfl <| qc_gR (qc_at qkX4_joinBits 68 rfl) hn rfl (qfr_286_2 (c5.1.1 (c4.1.1 hR))) rfl <| qc_iload_n (qc_at qkX4_joinBits 69 rfl) rfl <| qc_iconst (qc_at qkX4_joinBits 70 rfl) <| hx) ?_
            refine qc_andN (qc_icmp_ne (qc_at qkX4_joinBits 71 rfl)) (fun u16 => ?_) (fun u16 => ?_)
            · replace h := qc_jn u16 h
              exact And.imp_right (fun hx => qc_lload (qc_at qkX4_joinBits 79 rfl) rfl <| qc_lload_n (qc_at qkX4_joinBits 80 rfl) rfl <| qc_l2i (qc_at qkX4_joinBits 81 rfl) <| qc_lushr (qc_at qkX4_joinBits 82 rfl) <| qc_sub [] rfl hx) (tX4_joinBits_b178 hn (c5.1.1 (c4.1.1 hR)) h)
            · replace h := qc_jp u16 h
              exact And.imp_right (fun hx => qc_lload (qc_at qkX4_joinBits 72 rfl) rfl <| qc_l2i (qc_at qkX4_joinBits 73 rfl) <| qc_lload_n (qc_at qkX4_joinBits 74 rfl) rfl <| qc_l2i (qc_at qkX4_joinBits 75 rfl) <| qc_iushr (qc_at qkX4_joinBits 76 rfl) <| qc_i2l (qc_at qkX4_joinBits 77 rfl) <| qc_goto (qc_at qkX4_joinBits 78 rfl) <| qc_sub [] rfl hx) (tX4_joinBits_b178 hn (c5.1.1 (c4.1.1 hR)) h)
def fX4_joinReals_b57 (w : qcW) (I : qTI) (L : qTL) (D : qTD) (R : qTR) (s0 : UInt64) : qcO Int32 :=
  (qc_bd (fX6_layReal w I L D R s0) fun r1 I1 L1 D1 R1 => some ((0 : Int32), I1, L1, D1, R1))
set_option maxRecDepth 100000 in
set_option maxHeartbeats 4000000 in
theorem tX4_joinReals_b57 {w : qcW} {I : qTI} {L : qTL} {D : qTD} {R : qTR} {s0 : UInt64} {r : Int32} {I' : qTI} {L' : qTL} {D' : qTD} {R' : qTR} (hn : qcNF ≤ w.1) (hR : qc_FR R) (h : fX4_joinReals_b57 w I L D R s0 = some (r, I', L', D', R')) : qc_fm qcSX (I, L, D, R) (I', L', D', R') ∧ qc_X (qc_rm (2) 0 0) qmX4_joinReals (qc_QM 0 0 (qc_eq (some (.int r)) w (I', L', D', R'))) 0 0 w (57, [], [.double s0, .ref 287], I, L, D, R) := by
  unfold fX4_joinReals_b57 at h
  obtain ⟨r1, I1, L1, D1, R1, e1, h⟩ := qc_bd_of h
  have c1 := (tX6_layReal hn hR e1)
  refine qd_cVn (ci := 5) (a0 := 287) (qc_at qkX4_joinReals 31 rfl) ql_4_178 qfX6_layReal (qc_kf hn rfl) rfl c1 rfl rfl (Nat.le_of_ble_eq_true rfl) (qc_rml (by decide) (by decide)) ⟨Nat.zero_le _, Nat.zero_le _⟩ ?_
  obtain ⟨rfl, rfl, rfl, rfl, rfl⟩ := qc_some5 h
  exact ⟨qc_fm.rf _, qc_iconst (qc_at qkX4_joinReals 32 rfl) <| qc_iret (qc_at qkX4_joinReals 33 rfl) rfl (Nat.le_refl _) (Nat.le_refl _) (qc_eq.rf _ _ _)⟩
def fX4_joinReals (w : qcW) (I : qTI) (L : qTL) (D : qTD) (R : qTR) (x1 : Int32) (x2 : Int32) : qcO Int32 :=
  (qc_bd (fX6_takeReal w I L D R) fun r2 I2 L2 D2 R2 => qc_bd (fX6_takeReal w I2 L2 D2 R2) fun r3 I3 L3 D3 R3 => qc_bd (fX8_isLost w I3 L3 D3 R3 x1 r3 r2) fun r4 I4 L4 D4 R4 => if r4 = true then (some ((5 : Int32), I4, L4, D4, R4)) else (if x2 = (3 : Int32) then (qc_gd (qc_n32 (FP.d2f r3)) <| qc_gd (qc_n32 (FP.d2f r2)) <| qc_bd (fX8_joinedFloats w I4 L4 D4 R4 x1 (FP.d2f r3) (FP.d2f r2)) fun r10 I10 L10 D10 R10 => fX4_joinReals_b57 w I10 L10 D10 R10 r10) else (qc_bd (fX8_joined w I4 L4 D4 R4 x1 r3 r2) fun r7 I7 L7 D7 R7 => fX4_joinReals_b57 w I7 L7 D7 R7 r7)))
set_option maxRecDepth 100000 in
set_option maxHeartbeats 4000000 in
theorem tX4_joinReals {w : qcW} {I : qTI} {L : qTL} {D : qTD} {R : qTR} {x1 : Int32} {x2 : Int32} {r : Int32} {I' : qTI} {L' : qTL} {D' : qTD} {R' : qTR} (hn : qcNF ≤ w.1) (hR : qc_FR R) (h : fX4_joinReals w I L D R x1 x2 = some (r, I', L', D', R')) : qc_fm qcSX (I, L, D, R) (I', L', D', R') ∧ qc_V (2) 0 0 qmX4_joinReals [.ref 286, .int x1, .int x2] w (I, L, D, R) (qc_eq (some (.int r)) w (I', L', D', R')) := by
  unfold fX4_joinReals at h
  refine And.imp_right (fun hx => qc_V.of rfl rfl (Nat.le_of_ble_eq_true rfl) (lv := [(0, .ref 286), (1, .int x1), (2, .int x2)]) rfl hx) ?_
  refine And.imp_right (fun hx => qc_aload_n (qc_at qkX4_joinReals 0 rfl) rfl <| qc_gR (qc_at qkX4_joinReals 1 rfl) hn rfl (qfr_286_2 hR) rfl <| hx) ?_
  obtain ⟨r2, I2, L2, D2, R2, e2, h⟩ := qc_bd_of h
  have c2 := (tX6_takeReal hn hR e2)
  refine qd_cVv (ci := 5) (a0 := 287) (qc_at qkX4_joinReals 2 rfl) ql_4_82 qfX6_takeReal (qc_kf hn rfl) rfl c2 rfl rfl (Nat.le_of_ble_eq_true rfl) (qc_rml (by decide) (by decide)) ⟨Nat.zero_le _, Nat.zero_le _⟩ ?_
  refine And.imp_right (fun hx => qc_dstore_n (lv' := [(3, _), (0, _), (1, _), (2, _)]) (qc_at qkX4_joinReals 3 rfl) rfl rfl <| qc_aload_n (qc_at qkX4_joinReals 4 rfl) rfl <| qc_gR (qc_at qkX4_joinReals 5 rfl) hn rfl (qfr_286_2 (c2.1.1 hR)) rfl <| hx) ?_
  obtain ⟨r3, I3, L3, D3, R3, e3, h⟩ := qc_bd_of h
  have c3 := (tX6_takeReal hn (c2.1.1 hR) e3)
  refine qd_cVv (ci := 5) (a0 := 287) (qc_at qkX4_joinReals 6 rfl) ql_4_82 qfX6_takeReal (qc_kf hn rfl) rfl c3 rfl rfl (Nat.le_of_ble_eq_true rfl) (qc_rml (by decide) (by decide)) ⟨Nat.zero_le _, Nat.zero_le _⟩ ?_
  refine And.imp_right (fun hx => qc_dstore (lv' := [(5, _), (3, _), (0, _), (1, _), (2, _)]) (qc_at qkX4_joinReals 7 rfl) rfl rfl <| qc_iload_n (qc_at qkX4_joinReals 8 rfl) rfl <| qc_dload (qc_at qkX4_joinReals 9 rfl) rfl <| qc_dload_n (qc_at qkX4_joinReals 10 rfl) rfl <| hx) ?_
  obtain ⟨r4, I4, L4, D4, R4, e4, h⟩ := qc_bd_of h
  have c4 := (tX8_isLost hn (c3.1.1 (c2.1.1 hR)) e4)
  refine qd_cSv (qc_at qkX4_joinReals 11 rfl) ql_4_202 qfX8_isLost c4 rfl rfl (Nat.le_of_ble_eq_true rfl) (qc_rml (by decide) (by decide)) ⟨Nat.zero_le _, Nat.zero_le _⟩ ?_
  refine qc_andB (qc_ifB_eq (qc_at qkX4_joinReals 12 rfl)) (fun u5 => ?_) (fun u5 => ?_)
  · replace h := qc_jf u5 h
    refine And.imp_right (fun hx => qc_aload_n (qc_at qkX4_joinReals 15 rfl) rfl <| qc_gR (qc_at qkX4_joinReals 16 rfl) hn rfl (qfr_286_2 (c4.1.1 (c3.1.1 (c2.1.1 hR)))) rfl <| qc_iload_n (qc_at qkX4_joinReals 17 rfl) rfl <| qc_iconst (qc_at qkX4_joinReals 18 rfl) <| hx) ?_
    refine qc_andN (qc_icmp_ne (qc_at qkX4_joinReals 19 rfl)) (fun u6 => ?_) (fun u6 => ?_)
    · replace h := qc_jn u6 h
      refine And.imp_right (fun hx => qc_iload_n (qc_at qkX4_joinReals 27 rfl) rfl <| qc_dload (qc_at qkX4_joinReals 28 rfl) rfl <| qc_dload_n (qc_at qkX4_joinReals 29 rfl) rfl <| hx) ?_
      obtain ⟨r7, I7, L7, D7, R7, e7, h⟩ := qc_bd_of h
      have c7 := (tX8_joined hn (c4.1.1 (c3.1.1 (c2.1.1 hR))) e7)
      refine qd_cSv (qc_at qkX4_joinReals 30 rfl) ql_4_212 qfX8_joined c7 rfl rfl (Nat.le_of_ble_eq_true rfl) (qc_rml (by decide) (by decide)) ⟨Nat.zero_le _, Nat.zero_le _⟩ ?_
      exact And.imp_right (fun hx => qc_sub [] rfl hx) (tX4_joinReals_b57 hn (c7.1.1 (c4.1.1 (c3.1.1 (c2.1.1 hR)))) h)
    · replace h := qc_jp u6 h
      refine And.imp_right (fun hx => qc_iload_n (qc_at qkX4_joinReals 20 rfl) rfl <| qc_dload (qc_at qkX4_joinReals 21 rfl) rfl <| hx) ?_
      obtain ⟨g8, h⟩ := qc_gd_of h
      replace g8 := qc_n32_of g8
      refine And.imp_right (fun hx => qc_d2f (qc_at qkX4_joinReals 22 rfl) g8 <| qc_dload_n (qc_at qkX4_joinReals 23 rfl) rfl <| hx) ?_
      obtain ⟨g9, h⟩ := qc_gd_of h
      replace g9 := qc_n32_of g9
      refine And.imp_right (fun hx => qc_d2f (qc_at qkX4_joinReals 24 rfl) g9 <| hx) ?_
      obtain ⟨r10, I10, L10, D10, R10, e10, h⟩ := qc_bd_of h
      have c10 := (tX8_joinedFloats hn (c4.1.1 (c3.1.1 (c2.1.1 hR))) e10)
      refine qd_cSv (qc_at qkX4_joinReals 25 rfl) ql_4_208 qfX8_joinedFloats c10 rfl rfl (Nat.le_of_ble_eq_true rfl) (qc_rml (by decide) (by decide)) ⟨Nat.zero_le _, Nat.zero_le _⟩ ?_
      exact And.imp_right (fun hx => qc_goto (qc_at qkX4_joinReals 26 rfl) <| qc_sub [] rfl hx) (tX4_joinReals_b57 hn (c10.1.1 (c4.1.1 (c3.1.1 (c2.1.1 hR)))) h)
  · replace h := qc_jt u5 h
    obtain ⟨rfl, rfl, rfl, rfl, rfl⟩ := qc_some5 h
    exact ⟨qc_fm.rf _, qc_iconst (qc_at qkX4_joinReals 13 rfl) <| qc_iret (qc_at qkX4_joinReals 14 rfl) rfl (Nat.le_refl _) (Nat.le_refl _) (qc_eq.rf _ _ _)⟩
def fX4_joinWholes_b120 (w : qcW) (I : qTI) (L : qTL) (D : qTD) (R : qTR) (s0 : Int64) : qcO Int32 :=
  (qc_bd (fX6_lay w I L D R s0) fun r1 I1 L1 D1 R1 => some ((0 : Int32), I1, L1, D1, R1))
set_option maxRecDepth 100000 in
set_option maxHeartbeats 4000000 in
theorem tX4_joinWholes_b120 {w : qcW} {I : qTI} {L : qTL} {D : qTD} {R : qTR} {s0 : Int64} {r : Int32} {I' : qTI} {L' : qTL} {D' : qTD} {R' : qTR} (hn : qcNF ≤ w.1) (hR : qc_FR R) (h : fX4_joinWholes_b120 w I L D R s0 = some (r, I', L', D', R')) : qc_fm qcSX (I, L, D, R) (I', L', D', R') ∧ qc_X (qc_rm (1) 0 0) qmX4_joinWholes (qc_QM 0 0 (qc_eq (some (.int r)) w (I', L', D', R'))) 0 0 w (120, [], [.long s0, .ref 287], I, L, D, R) := by
  unfold fX4_joinWholes_b120 at h
  obtain ⟨r1, I1, L1, D1, R1, e1, h⟩ := qc_bd_of h
  have c1 := (tX6_lay hn hR e1)
  refine qd_cVn (ci := 5) (a0 := 287) (qc_at qkX4_joinWholes 53 rfl) ql_4_158 qfX6_lay (qc_kf hn rfl) rfl c1 rfl rfl (Nat.le_of_ble_eq_true rfl) (qc_rml (by decide) (by decide)) ⟨Nat.zero_le _, Nat.zero_le _⟩ ?_
  obtain ⟨rfl, rfl, rfl, rfl, rfl⟩ := qc_some5 h
  exact ⟨qc_fm.rf _, qc_iconst (qc_at qkX4_joinWholes 54 rfl) <| qc_iret (qc_at qkX4_joinWholes 55 rfl) rfl (Nat.le_refl _) (Nat.le_refl _) (qc_eq.rf _ _ _)⟩
def fX4_joinWholes_b102 (w : qcW) (I : qTI) (L : qTL) (D : qTD) (R : qTR) (x2 : Int32) (x7 : Int64) : qcO Int32 :=
  (if x2 = (1 : Int32) then (fX4_joinWholes_b120 w I L D R (Int32.toInt64 (Int64.toInt32 x7))) else (fX4_joinWholes_b120 w I L D R x7))
set_option maxRecDepth 100000 in
set_option maxHeartbeats 4000000 in
theorem tX4_joinWholes_b102 {w : qcW} {I : qTI} {L : qTL} {D : qTD} {R : qTR} {x2 : Int32} {x7 : Int64} {r : Int32} {I' : qTI} {L' : qTL} {D' : qTD} {R' : qTR} (hn : qcNF ≤ w.1) (hR : qc_FR R) (h : fX4_joinWholes_b102 w I L D R x2 x7 = some (r, I', L', D', R')) : qc_fm qcSX (I, L, D, R) (I', L', D', R') ∧ qc_X (qc_rm (1) 0 0) qmX4_joinWholes (qc_QM 0 0 (qc_eq (some (.int r)) w (I', L', D', R'))) 0 0 w (102, [(0, .ref 286), (2, .int x2), (7, .long x7)], [], I, L, D, R) := by
  unfold fX4_joinWholes_b102 at h
  refine And.imp_right (fun hx => qc_aload_n (qc_at qkX4_joinWholes 43 rfl) rfl <| qc_gR (qc_at qkX4_joinWholes 44 rfl) hn rfl (qfr_286_2 hR) rfl <| qc_iload_n (qc_at qkX4_joinWholes 45 rfl) rfl <| qc_iconst (qc_at qkX4_joinWholes 46 rfl) <| hx) ?_
  refine qc_andN (qc_icmp_ne (qc_at qkX4_joinWholes 47 rfl)) (fun u2 => ?_) (fun u2 => ?_)
  · replace h := qc_jn u2 h
    exact And.imp_right (fun hx => qc_lload (qc_at qkX4_joinWholes 52 rfl) rfl <| qc_sub [] rfl hx) (tX4_joinWholes_b120 hn hR h)
  · replace h := qc_jp u2 h
    exact And.imp_right (fun hx => qc_lload (qc_at qkX4_joinWholes 48 rfl) rfl <| qc_l2i (qc_at qkX4_joinWholes 49 rfl) <| qc_i2l (qc_at qkX4_joinWholes 50 rfl) <| qc_goto (qc_at qkX4_joinWholes 51 rfl) <| qc_sub [] rfl hx) (tX4_joinWholes_b120 hn hR h)
def fX4_joinWholes_b30 (w : qcW) (I : qTI) (L : qTL) (D : qTD) (R : qTR) (x1 : Int32) (x2 : Int32) (x3 : Int64) (x5 : Int64) : qcO Int32 :=
  (if x1 = 1 then (fX4_joinWholes_b102 w I L D R x2 (x5 + x3)) else if x1 = 2 then (fX4_joinWholes_b102 w I L D R x2 (x5 - x3)) else if x1 = 3 then (fX4_joinWholes_b102 w I L D R x2 (x5 * x3)) else if x1 = 4 then (qc_gd (qc_nz x3) <| fX4_joinWholes_b102 w I L D R x2 (x5 / x3)) else (qc_gd (qc_nz x3) <| fX4_joinWholes_b102 w I L D R x2 (x5 - x5 / x3 * x3)))
set_option maxRecDepth 100000 in
set_option maxHeartbeats 4000000 in
theorem tX4_joinWholes_b30 {w : qcW} {I : qTI} {L : qTL} {D : qTD} {R : qTR} {x1 : Int32} {x2 : Int32} {x3 : Int64} {x5 : Int64} {r : Int32} {I' : qTI} {L' : qTL} {D' : qTD} {R' : qTR} (hn : qcNF ≤ w.1) (hR : qc_FR R) (h : fX4_joinWholes_b30 w I L D R x1 x2 x3 x5 = some (r, I', L', D', R')) : qc_fm qcSX (I, L, D, R) (I', L', D', R') ∧ qc_X (qc_rm (1) 0 0) qmX4_joinWholes (qc_QM 0 0 (qc_eq (some (.int r)) w (I', L', D', R'))) 0 0 w (30, [(0, .ref 286), (1, .int x1), (2, .int x2), (3, .long x3), (5, .long x5)], [], I, L, D, R) := by
  unfold fX4_joinWholes_b30 at h
  refine And.imp_right (fun hx => qc_iload_n (qc_at qkX4_joinWholes 17 rfl) rfl <| hx) ?_
  refine qc_by (c := x1 = 1) (fun u3 => ?_) (fun u3 => ?_)
  · refine And.imp_right (fun hx => qc_tabIn (qc_at qkX4_joinWholes 18 rfl) 0 (by rw [u3]; rfl) (by decide) rfl rfl hx) ?_
    replace h := qc_jp u3 h
    exact And.imp_right (fun hx => qc_lload (qc_at qkX4_joinWholes 19 rfl) rfl <| qc_lload_n (qc_at qkX4_joinWholes 20 rfl) rfl <| qc_ladd (qc_at qkX4_joinWholes 21 rfl) <| qc_lstore (lv' := [(7, _), (0, _), (1, _), (2, _), (3, _), (5, _)]) (qc_at qkX4_joinWholes 22 rfl) rfl rfl <| qc_goto (qc_at qkX4_joinWholes 23 rfl) <| qc_sub [1, 3, 0] rfl hx) (tX4_joinWholes_b102 hn hR h)
  · replace h := qc_jn u3 h
    refine qc_by (c := x1 = 2) (fun u4 => ?_) (fun u4 => ?_)
    · refine And.imp_right (fun hx => qc_tabIn (qc_at qkX4_joinWholes 18 rfl) 1 (by rw [u4]; rfl) (by decide) rfl rfl hx) ?_
      replace h := qc_jp u4 h
      exact And.imp_right (fun hx => qc_lload (qc_at qkX4_joinWholes 24 rfl) rfl <| qc_lload_n (qc_at qkX4_joinWholes 25 rfl) rfl <| qc_lsub (qc_at qkX4_joinWholes 26 rfl) <| qc_lstore (lv' := [(7, _), (0, _), (1, _), (2, _), (3, _), (5, _)]) (qc_at qkX4_joinWholes 27 rfl) rfl rfl <| qc_goto (qc_at qkX4_joinWholes 28 rfl) <| qc_sub [1, 3, 0] rfl hx) (tX4_joinWholes_b102 hn hR h)
    · replace h := qc_jn u4 h
      refine qc_by (c := x1 = 3) (fun u5 => ?_) (fun u5 => ?_)
      · refine And.imp_right (fun hx => qc_tabIn (qc_at qkX4_joinWholes 18 rfl) 2 (by rw [u5]; rfl) (by decide) rfl rfl hx) ?_
        replace h := qc_jp u5 h
        exact And.imp_right (fun hx => qc_lload (qc_at qkX4_joinWholes 29 rfl) rfl <| qc_lload_n (qc_at qkX4_joinWholes 30 rfl) rfl <| qc_lmul (qc_at qkX4_joinWholes 31 rfl) <| qc_lstore (lv' := [(7, _), (0, _), (1, _), (2, _), (3, _), (5, _)]) (qc_at qkX4_joinWholes 32 rfl) rfl rfl <| qc_goto (qc_at qkX4_joinWholes 33 rfl) <| qc_sub [1, 3, 0] rfl hx) (tX4_joinWholes_b102 hn hR h)
      · replace h := qc_jn u5 h
        refine qc_by (c := x1 = 4) (fun u6 => ?_) (fun u6 => ?_)
        · refine And.imp_right (fun hx => qc_tabIn (qc_at qkX4_joinWholes 18 rfl) 3 (by rw [u6]; rfl) (by decide) rfl rfl hx) ?_
          replace h := qc_jp u6 h
          refine And.imp_right (fun hx => qc_lload (qc_at qkX4_joinWholes 34 rfl) rfl <| qc_lload_n (qc_at qkX4_joinWholes 35 rfl) rfl <| hx) ?_
          obtain ⟨g7, h⟩ := qc_gd_of h
          replace g7 := qc_nz_of g7
          exact And.imp_right (fun hx => qc_ldiv (qc_at qkX4_joinWholes 36 rfl) g7 <| qc_lstore (lv' := [(7, _), (0, _), (1, _), (2, _), (3, _), (5, _)]) (qc_at qkX4_joinWholes 37 rfl) rfl rfl <| qc_goto (qc_at qkX4_joinWholes 38 rfl) <| qc_sub [1, 3, 0] rfl hx) (tX4_joinWholes_b102 hn hR h)
        · replace h := qc_jn u6 h
          have v3 : ¬ Int32.toInt x1 = 1 := fun z => u3 (qc_i32 z rfl)
          have v4 : ¬ Int32.toInt x1 = 2 := fun z => u4 (qc_i32 z rfl)
          have v5 : ¬ Int32.toInt x1 = 3 := fun z => u5 (qc_i32 z rfl)
          have v6 : ¬ Int32.toInt x1 = 4 := fun z => u6 (qc_i32 z rfl)
          refine And.imp_right (fun hx => qc_tabOut (qc_at qkX4_joinWholes 18 rfl) (by omega) rfl hx) ?_
          refine And.imp_right (fun hx => qc_lload (qc_at qkX4_joinWholes 39 rfl) rfl <| qc_lload_n (qc_at qkX4_joinWholes 40 rfl) rfl <| hx) ?_
          obtain ⟨g8, h⟩ := qc_gd_of h
          replace g8 := qc_nz_of g8
          exact And.imp_right (fun hx => qc_lrem (qc_at qkX4_joinWholes 41 rfl) g8 <| qc_lstore (lv' := [(7, _), (0, _), (1, _), (2, _), (3, _), (5, _)]) (qc_at qkX4_joinWholes 42 rfl) rfl rfl <| qc_sub [1, 3, 0] rfl hx) (tX4_joinWholes_b102 hn hR h)
def fX4_joinWholes (w : qcW) (I : qTI) (L : qTL) (D : qTD) (R : qTR) (x1 : Int32) (x2 : Int32) : qcO Int32 :=
  (qc_bd (fX6_take w I L D R) fun r9 I9 L9 D9 R9 => qc_bd (fX6_take w I9 L9 D9 R9) fun r10 I10 L10 D10 R10 => if x1 < (4 : Int32) then (fX4_joinWholes_b30 w I10 L10 D10 R10 x1 x2 r9 r10) else (if (lg_cmp r9 (0 : Int64)) = 0 then (some ((4 : Int32), I10, L10, D10, R10)) else (fX4_joinWholes_b30 w I10 L10 D10 R10 x1 x2 r9 r10)))
set_option maxRecDepth 100000 in
set_option maxHeartbeats 4000000 in
theorem tX4_joinWholes {w : qcW} {I : qTI} {L : qTL} {D : qTD} {R : qTR} {x1 : Int32} {x2 : Int32} {r : Int32} {I' : qTI} {L' : qTL} {D' : qTD} {R' : qTR} (hn : qcNF ≤ w.1) (hR : qc_FR R) (h : fX4_joinWholes w I L D R x1 x2 = some (r, I', L', D', R')) : qc_fm qcSX (I, L, D, R) (I', L', D', R') ∧ qc_V (1) 0 0 qmX4_joinWholes [.ref 286, .int x1, .int x2] w (I, L, D, R) (qc_eq (some (.int r)) w (I', L', D', R')) := by
  unfold fX4_joinWholes at h
  refine And.imp_right (fun hx => qc_V.of rfl rfl (Nat.le_of_ble_eq_true rfl) (lv := [(0, .ref 286), (1, .int x1), (2, .int x2)]) rfl hx) ?_
  refine And.imp_right (fun hx => qc_aload_n (qc_at qkX4_joinWholes 0 rfl) rfl <| qc_gR (qc_at qkX4_joinWholes 1 rfl) hn rfl (qfr_286_2 hR) rfl <| hx) ?_
  obtain ⟨r9, I9, L9, D9, R9, e9, h⟩ := qc_bd_of h
  have c9 := (tX6_take hn hR e9)
  refine qd_cVv (ci := 5) (a0 := 287) (qc_at qkX4_joinWholes 2 rfl) ql_4_75 qfX6_take (qc_kf hn rfl) rfl c9 rfl rfl (Nat.le_of_ble_eq_true rfl) (qc_rml (by decide) (by decide)) ⟨Nat.zero_le _, Nat.zero_le _⟩ ?_
  refine And.imp_right (fun hx => qc_lstore_n (lv' := [(3, _), (0, _), (1, _), (2, _)]) (qc_at qkX4_joinWholes 3 rfl) rfl rfl <| qc_aload_n (qc_at qkX4_joinWholes 4 rfl) rfl <| qc_gR (qc_at qkX4_joinWholes 5 rfl) hn rfl (qfr_286_2 (c9.1.1 hR)) rfl <| hx) ?_
  obtain ⟨r10, I10, L10, D10, R10, e10, h⟩ := qc_bd_of h
  have c10 := (tX6_take hn (c9.1.1 hR) e10)
  refine qd_cVv (ci := 5) (a0 := 287) (qc_at qkX4_joinWholes 6 rfl) ql_4_75 qfX6_take (qc_kf hn rfl) rfl c10 rfl rfl (Nat.le_of_ble_eq_true rfl) (qc_rml (by decide) (by decide)) ⟨Nat.zero_le _, Nat.zero_le _⟩ ?_
  refine And.imp_right (fun hx => qc_lstore (lv' := [(5, _), (3, _), (0, _), (1, _), (2, _)]) (qc_at qkX4_joinWholes 7 rfl) rfl rfl <| qc_iload_n (qc_at qkX4_joinWholes 8 rfl) rfl <| qc_iconst (qc_at qkX4_joinWholes 9 rfl) <| hx) ?_
  refine qc_andC (qc_icmp_lt (qc_at qkX4_joinWholes 10 rfl)) (fun u11 => ?_) (fun u11 => ?_)
  · replace h := qc_jp u11 h
    exact And.imp_right (fun hx => qc_sub [2, 3, 4, 1, 0] rfl hx) (tX4_joinWholes_b30 hn (c10.1.1 (c9.1.1 hR)) h)
  · replace h := qc_jn u11 h
    refine And.imp_right (fun hx => qc_lload_n (qc_at qkX4_joinWholes 11 rfl) rfl <| qc_lconst (qc_at qkX4_joinWholes 12 rfl) <| qc_lcmp (qc_at qkX4_joinWholes 13 rfl) <| hx) ?_
    refine qc_andN (qc_if_ne (qc_at qkX4_joinWholes 14 rfl)) (fun u12 => ?_) (fun u12 => ?_)
    · replace h := qc_jn u12 h
      exact And.imp_right (fun hx => qc_sub [2, 3, 4, 1, 0] rfl hx) (tX4_joinWholes_b30 hn (c10.1.1 (c9.1.1 hR)) h)
    · replace h := qc_jp u12 h
      obtain ⟨rfl, rfl, rfl, rfl, rfl⟩ := qc_some5 h
      exact ⟨qc_fm.rf _, qc_iconst (qc_at qkX4_joinWholes 15 rfl) <| qc_iret (qc_at qkX4_joinWholes 16 rfl) rfl (Nat.le_refl _) (Nat.le_refl _) (qc_eq.rf _ _ _)⟩
def fX4_jump_b28 (w : qcW) (I : qTI) (L : qTL) (D : qTD) (R : qTR) (s0 : Int64) : qcO Unit :=
  (qc_bd (fX6_lay w I L D R s0) fun r1 I1 L1 D1 R1 => some ((), I1, L1, D1, R1))
set_option maxRecDepth 100000 in
set_option maxHeartbeats 4000000 in
theorem tX4_jump_b28 {w : qcW} {I : qTI} {L : qTL} {D : qTD} {R : qTR} {s0 : Int64} {r : Unit} {I' : qTI} {L' : qTL} {D' : qTD} {R' : qTR} (hn : qcNF ≤ w.1) (hR : qc_FR R) (h : fX4_jump_b28 w I L D R s0 = some (r, I', L', D', R')) : qc_fm qcSX (I, L, D, R) (I', L', D', R') ∧ qc_X (qc_rm (1) 0 0) qmX4_jump (qc_QM 0 0 (qc_eq none w (I', L', D', R'))) 0 0 w (28, [], [.long s0, .ref 287], I, L, D, R) := by
  unfold fX4_jump_b28 at h
  obtain ⟨r1, I1, L1, D1, R1, e1, h⟩ := qc_bd_of h
  have c1 := (tX6_lay hn hR e1)
  refine qd_cVn (ci := 5) (a0 := 287) (qc_at qkX4_jump 14 rfl) ql_4_158 qfX6_lay (qc_kf hn rfl) rfl c1 rfl rfl (Nat.le_of_ble_eq_true rfl) (qc_rml (by decide) (by decide)) ⟨Nat.zero_le _, Nat.zero_le _⟩ ?_
  obtain ⟨rfl, rfl, rfl, rfl, rfl⟩ := qc_some5 h
  exact ⟨qc_fm.rf _, qc_goto (qc_at qkX4_jump 15 rfl) <| qc_vret (qc_at qkX4_jump 42 rfl) rfl (Nat.le_refl _) (Nat.le_refl _) (qc_eq.rf _ _ _)⟩
def fX4_jump_b78 (w : qcW) (I : qTI) (L : qTL) (D : qTD) (R : qTR) (x2 : Int32) (s0 : Int32) (s1 : Int32) : qcO Unit :=
  (if s1 = s0 then (some ((), (qc_u I 286 5 x2), L, D, R)) else (some ((), I, L, D, R)))
set_option maxRecDepth 100000 in
set_option maxHeartbeats 4000000 in
theorem tX4_jump_b78 {w : qcW} {I : qTI} {L : qTL} {D : qTD} {R : qTR} {x2 : Int32} {s0 : Int32} {s1 : Int32} {r : Unit} {I' : qTI} {L' : qTL} {D' : qTD} {R' : qTR} (hn : qcNF ≤ w.1) (hR : qc_FR R) (h : fX4_jump_b78 w I L D R x2 s0 s1 = some (r, I', L', D', R')) : qc_fm qcSX (I, L, D, R) (I', L', D', R') ∧ qc_X (qc_rm (1) 0 0) qmX4_jump (qc_QM 0 0 (qc_eq none w (I', L', D', R'))) 0 0 w (78, [(0, .ref 286), (2, .int x2)], [.int s0, .int s1], I, L, D, R) := by
  unfold fX4_jump_b78 at h
  refine qc_andN (qc_icmp_ne (qc_at qkX4_jump 38 rfl)) (fun u2 => ?_) (fun u2 => ?_)
  · replace h := qc_jn u2 h
    obtain ⟨rfl, rfl, rfl, rfl, rfl⟩ := qc_some5 h
    exact ⟨qc_fm.rf _, qc_vret (qc_at qkX4_jump 42 rfl) rfl (Nat.le_refl _) (Nat.le_refl _) (qc_eq.rf _ _ _)⟩
  · replace h := qc_jp u2 h
    refine And.imp_right (fun hx => qc_aload_n (qc_at qkX4_jump 39 rfl) rfl <| qc_iload_n (qc_at qkX4_jump 40 rfl) rfl <| hx) (qd_pI (qc_at qkX4_jump 41 rfl) hn rfl rfl ?_)
    obtain ⟨rfl, rfl, rfl, rfl, rfl⟩ := qc_some5 h
    exact ⟨qc_fm.rf _, qc_vret (qc_at qkX4_jump 42 rfl) rfl (Nat.le_refl _) (Nat.le_refl _) (qc_eq.rf _ _ _)⟩
def fX4_jump_b66 (w : qcW) (I : qTI) (L : qTL) (D : qTD) (R : qTR) (x1 : Int32) (x2 : Int32) (s0 : Int32) : qcO Unit :=
  (if x1 = (1801 : Int32) then (fX4_jump_b78 w I L D R x2 (1 : Int32) s0) else (fX4_jump_b78 w I L D R x2 (0 : Int32) s0))
set_option maxRecDepth 100000 in
set_option maxHeartbeats 4000000 in
theorem tX4_jump_b66 {w : qcW} {I : qTI} {L : qTL} {D : qTD} {R : qTR} {x1 : Int32} {x2 : Int32} {s0 : Int32} {r : Unit} {I' : qTI} {L' : qTL} {D' : qTD} {R' : qTR} (hn : qcNF ≤ w.1) (hR : qc_FR R) (h : fX4_jump_b66 w I L D R x1 x2 s0 = some (r, I', L', D', R')) : qc_fm qcSX (I, L, D, R) (I', L', D', R') ∧ qc_X (qc_rm (1) 0 0) qmX4_jump (qc_QM 0 0 (qc_eq none w (I', L', D', R'))) 0 0 w (66, [(0, .ref 286), (1, .int x1), (2, .int x2)], [.int s0], I, L, D, R) := by
  unfold fX4_jump_b66 at h
  refine And.imp_right (fun hx => qc_iload_n (qc_at qkX4_jump 32 rfl) rfl <| qc_sipush (qc_at qkX4_jump 33 rfl) <| hx) ?_
  refine qc_andN (qc_icmp_ne (qc_at qkX4_jump 34 rfl)) (fun u3 => ?_) (fun u3 => ?_)
  · replace h := qc_jn u3 h
    exact And.imp_right (fun hx => qc_iconst (qc_at qkX4_jump 37 rfl) <| qc_sub [0, 2] rfl hx) (tX4_jump_b78 hn hR h)
  · replace h := qc_jp u3 h
    exact And.imp_right (fun hx => qc_iconst (qc_at qkX4_jump 35 rfl) <| qc_goto (qc_at qkX4_jump 36 rfl) <| qc_sub [0, 2] rfl hx) (tX4_jump_b78 hn hR h)
def fX4_jump (w : qcW) (I : qTI) (L : qTL) (D : qTD) (R : qTR) (x1 : Int32) (x2 : Int32) : qcO Unit :=
  (if x1 = (1810 : Int32) then (qc_bd (fX6_take w I L D R) fun r8 I8 L8 D8 R8 => if (lg_cmp r8 (0 : Int64)) = 0 then (fX4_jump_b28 w I8 L8 D8 R8 (1 : Int64)) else (fX4_jump_b28 w I8 L8 D8 R8 (0 : Int64))) else (if x1 = (1802 : Int32) then (some ((), (qc_u I 286 5 x2), L, D, R)) else (qc_bd (fX6_take w I L D R) fun r6 I6 L6 D6 R6 => if (lg_cmp r6 (0 : Int64)) = 0 then (fX4_jump_b66 w I6 L6 D6 R6 x1 x2 (0 : Int32)) else (fX4_jump_b66 w I6 L6 D6 R6 x1 x2 (1 : Int32)))))
set_option maxRecDepth 100000 in
set_option maxHeartbeats 4000000 in
theorem tX4_jump {w : qcW} {I : qTI} {L : qTL} {D : qTD} {R : qTR} {x1 : Int32} {x2 : Int32} {r : Unit} {I' : qTI} {L' : qTL} {D' : qTD} {R' : qTR} (hn : qcNF ≤ w.1) (hR : qc_FR R) (h : fX4_jump w I L D R x1 x2 = some (r, I', L', D', R')) : qc_fm qcSX (I, L, D, R) (I', L', D', R') ∧ qc_V (1) 0 0 qmX4_jump [.ref 286, .int x1, .int x2] w (I, L, D, R) (qc_eq none w (I', L', D', R')) := by
  unfold fX4_jump at h
  refine And.imp_right (fun hx => qc_V.of rfl rfl (Nat.le_of_ble_eq_true rfl) (lv := [(0, .ref 286), (1, .int x1), (2, .int x2)]) rfl hx) ?_
  refine And.imp_right (fun hx => qc_iload_n (qc_at qkX4_jump 0 rfl) rfl <| qc_sipush (qc_at qkX4_jump 1 rfl) <| hx) ?_
  refine qc_andN (qc_icmp_ne (qc_at qkX4_jump 2 rfl)) (fun u4 => ?_) (fun u4 => ?_)
  · replace h := qc_jn u4 h
    refine And.imp_right (fun hx => qc_iload_n (qc_at qkX4_jump 16 rfl) rfl <| qc_sipush (qc_at qkX4_jump 17 rfl) <| hx) ?_
    refine qc_andN (qc_icmp_ne (qc_at qkX4_jump 18 rfl)) (fun u5 => ?_) (fun u5 => ?_)
    · replace h := qc_jn u5 h
      refine And.imp_right (fun hx => qc_aload_n (qc_at qkX4_jump 23 rfl) rfl <| qc_gR (qc_at qkX4_jump 24 rfl) hn rfl (qfr_286_2 hR) rfl <| hx) ?_
      obtain ⟨r6, I6, L6, D6, R6, e6, h⟩ := qc_bd_of h
      have c6 := (tX6_take hn hR e6)
      refine qd_cVv (ci := 5) (a0 := 287) (qc_at qkX4_jump 25 rfl) ql_4_75 qfX6_take (qc_kf hn rfl) rfl c6 rfl rfl (Nat.le_of_ble_eq_true rfl) (qc_rml (by decide) (by decide)) ⟨Nat.zero_le _, Nat.zero_le _⟩ ?_
      refine And.imp_right (fun hx => qc_lconst (qc_at qkX4_jump 26 rfl) <| qc_lcmp (qc_at qkX4_jump 27 rfl) <| hx) ?_
      refine qc_andC (qc_if_eq (qc_at qkX4_jump 28 rfl)) (fun u7 => ?_) (fun u7 => ?_)
      · replace h := qc_jp u7 h
        exact And.imp_right (fun hx => qc_iconst (qc_at qkX4_jump 31 rfl) <| qc_sub [0, 1, 2] rfl hx) (tX4_jump_b66 hn (c6.1.1 hR) h)
      · replace h := qc_jn u7 h
        exact And.imp_right (fun hx => qc_iconst (qc_at qkX4_jump 29 rfl) <| qc_goto (qc_at qkX4_jump 30 rfl) <| qc_sub [0, 1, 2] rfl hx) (tX4_jump_b66 hn (c6.1.1 hR) h)
    · replace h := qc_jp u5 h
      refine And.imp_right (fun hx => qc_aload_n (qc_at qkX4_jump 19 rfl) rfl <| qc_iload_n (qc_at qkX4_jump 20 rfl) rfl <| hx) (qd_pI (qc_at qkX4_jump 21 rfl) hn rfl rfl ?_)
      obtain ⟨rfl, rfl, rfl, rfl, rfl⟩ := qc_some5 h
      exact ⟨qc_fm.rf _, qc_goto (qc_at qkX4_jump 22 rfl) <| qc_vret (qc_at qkX4_jump 42 rfl) rfl (Nat.le_refl _) (Nat.le_refl _) (qc_eq.rf _ _ _)⟩
  · replace h := qc_jp u4 h
    refine And.imp_right (fun hx => qc_aload_n (qc_at qkX4_jump 3 rfl) rfl <| qc_gR (qc_at qkX4_jump 4 rfl) hn rfl (qfr_286_2 hR) rfl <| qc_aload_n (qc_at qkX4_jump 5 rfl) rfl <| qc_gR (qc_at qkX4_jump 6 rfl) hn rfl (qfr_286_2 hR) rfl <| hx) ?_
    obtain ⟨r8, I8, L8, D8, R8, e8, h⟩ := qc_bd_of h
    have c8 := (tX6_take hn hR e8)
    refine qd_cVv (ci := 5) (a0 := 287) (qc_at qkX4_jump 7 rfl) ql_4_75 qfX6_take (qc_kf hn rfl) rfl c8 rfl rfl (Nat.le_of_ble_eq_true rfl) (qc_rml (by decide) (by decide)) ⟨Nat.zero_le _, Nat.zero_le _⟩ ?_
    refine And.imp_right (fun hx => qc_lconst (qc_at qkX4_jump 8 rfl) <| qc_lcmp (qc_at qkX4_jump 9 rfl) <| hx) ?_
    refine qc_andN (qc_if_ne (qc_at qkX4_jump 10 rfl)) (fun u9 => ?_) (fun u9 => ?_)
    · replace h := qc_jn u9 h
      exact And.imp_right (fun hx => qc_lconst (qc_at qkX4_jump 13 rfl) <| qc_sub [] rfl hx) (tX4_jump_b28 hn (c8.1.1 hR) h)
    · replace h := qc_jp u9 h
      exact And.imp_right (fun hx => qc_lconst (qc_at qkX4_jump 11 rfl) <| qc_goto (qc_at qkX4_jump 12 rfl) <| qc_sub [] rfl hx) (tX4_jump_b28 hn (c8.1.1 hR) h)
def fX4_layGiven_b42 (w : qcW) (I : qTI) (L : qTL) (D : qTD) (R : qTR) (s0 : Int64) : qcO Unit :=
  (qc_bd (fX6_lay w I L D R s0) fun r1 I1 L1 D1 R1 => some ((), I1, L1, D1, R1))
set_option maxRecDepth 100000 in
set_option maxHeartbeats 4000000 in
theorem tX4_layGiven_b42 {w : qcW} {I : qTI} {L : qTL} {D : qTD} {R : qTR} {s0 : Int64} {r : Unit} {I' : qTI} {L' : qTL} {D' : qTD} {R' : qTR} (hn : qcNF ≤ w.1) (hR : qc_FR R) (h : fX4_layGiven_b42 w I L D R s0 = some (r, I', L', D', R')) : qc_fm qcSX (I, L, D, R) (I', L', D', R') ∧ qc_X (qc_rm (1) 0 0) qmX4_layGiven (qc_QM 0 0 (qc_eq none w (I', L', D', R'))) 0 0 w (42, [], [.long s0, .ref 287], I, L, D, R) := by
  unfold fX4_layGiven_b42 at h
  obtain ⟨r1, I1, L1, D1, R1, e1, h⟩ := qc_bd_of h
  have c1 := (tX6_lay hn hR e1)
  refine qd_cVn (ci := 5) (a0 := 287) (qc_at qkX4_layGiven 22 rfl) ql_4_158 qfX6_lay (qc_kf hn rfl) rfl c1 rfl rfl (Nat.le_of_ble_eq_true rfl) (qc_rml (by decide) (by decide)) ⟨Nat.zero_le _, Nat.zero_le _⟩ ?_
  obtain ⟨rfl, rfl, rfl, rfl, rfl⟩ := qc_some5 h
  exact ⟨qc_fm.rf _, qc_vret (qc_at qkX4_layGiven 23 rfl) rfl (Nat.le_refl _) (Nat.le_refl _) (qc_eq.rf _ _ _)⟩
def fX4_layGiven (w : qcW) (I : qTI) (L : qTL) (D : qTD) (R : qTR) (x1 : Int32) (x2 : Int32) : qcO Unit :=
  (if x1 = (2 : Int32) then (qc_gd (qc_io w (R 286 3) 6) <| qc_bd (fX7_real w I L D R (R 286 3) x2) fun r5 I5 L5 D5 R5 => qc_bd (fX6_layReal w I5 L5 D5 R5 r5) fun r6 I6 L6 D6 R6 => some ((), I6, L6, D6, R6)) else (if x1 = (1 : Int32) then (fX4_layGiven_b42 w I L D R (Int32.toInt64 x2)) else (fX4_layGiven_b42 w I L D R (Int32.toInt64 (I 286 4)))))
set_option maxRecDepth 100000 in
set_option maxHeartbeats 4000000 in
theorem tX4_layGiven {w : qcW} {I : qTI} {L : qTL} {D : qTD} {R : qTR} {x1 : Int32} {x2 : Int32} {r : Unit} {I' : qTI} {L' : qTL} {D' : qTD} {R' : qTR} (hn : qcNF ≤ w.1) (hR : qc_FR R) (h : fX4_layGiven w I L D R x1 x2 = some (r, I', L', D', R')) : qc_fm qcSX (I, L, D, R) (I', L', D', R') ∧ qc_V (1) 0 0 qmX4_layGiven [.ref 286, .int x1, .int x2] w (I, L, D, R) (qc_eq none w (I', L', D', R')) := by
  unfold fX4_layGiven at h
  refine And.imp_right (fun hx => qc_V.of rfl rfl (Nat.le_of_ble_eq_true rfl) (lv := [(0, .ref 286), (1, .int x1), (2, .int x2)]) rfl hx) ?_
  refine And.imp_right (fun hx => qc_iload_n (qc_at qkX4_layGiven 0 rfl) rfl <| qc_iconst (qc_at qkX4_layGiven 1 rfl) <| hx) ?_
  refine qc_andN (qc_icmp_ne (qc_at qkX4_layGiven 2 rfl)) (fun u2 => ?_) (fun u2 => ?_)
  · replace h := qc_jn u2 h
    refine And.imp_right (fun hx => qc_aload_n (qc_at qkX4_layGiven 11 rfl) rfl <| qc_gR (qc_at qkX4_layGiven 12 rfl) hn rfl (qfr_286_2 hR) rfl <| qc_iload_n (qc_at qkX4_layGiven 13 rfl) rfl <| qc_iconst (qc_at qkX4_layGiven 14 rfl) <| hx) ?_
    refine qc_andN (qc_icmp_ne (qc_at qkX4_layGiven 15 rfl)) (fun u3 => ?_) (fun u3 => ?_)
    · replace h := qc_jn u3 h
      exact And.imp_right (fun hx => qc_aload_n (qc_at qkX4_layGiven 19 rfl) rfl <| qc_gI (qc_at qkX4_layGiven 20 rfl) hn rfl <| qc_i2l (qc_at qkX4_layGiven 21 rfl) <| qc_sub [] rfl hx) (tX4_layGiven_b42 hn hR h)
    · replace h := qc_jp u3 h
      exact And.imp_right (fun hx => qc_iload_n (qc_at qkX4_layGiven 16 rfl) rfl <| qc_i2l (qc_at qkX4_layGiven 17 rfl) <| qc_goto (qc_at qkX4_layGiven 18 rfl) <| qc_sub [] rfl hx) (tX4_layGiven_b42 hn hR h)
  · replace h := qc_jp u2 h
    refine And.imp_right (fun hx => qc_aload_n (qc_at qkX4_layGiven 3 rfl) rfl <| qc_gR (qc_at qkX4_layGiven 4 rfl) hn rfl (qfr_286_2 hR) rfl <| qc_aload_n (qc_at qkX4_layGiven 5 rfl) rfl <| hx) ?_
    obtain ⟨g4, h⟩ := qc_gd_of h
    replace g4 := qc_io_of g4
    refine And.imp_right (fun hx => qc_gR (qc_at qkX4_layGiven 6 rfl) hn rfl rfl (qc_ki255 g4) <| qc_iload_n (qc_at qkX4_layGiven 7 rfl) rfl <| hx) ?_
    obtain ⟨r5, I5, L5, D5, R5, e5, h⟩ := qc_bd_of h
    have c5 := (tX7_real hn hR e5)
    refine qd_cVv (ci := 6) (qc_at qkX4_layGiven 8 rfl) ql_4_174 qfX7_real g4 rfl c5 rfl rfl (Nat.le_of_ble_eq_true rfl) (qc_rml (by decide) (by decide)) ⟨Nat.zero_le _, Nat.zero_le _⟩ ?_
    obtain ⟨r6, I6, L6, D6, R6, e6, h⟩ := qc_bd_of h
    have c6 := (tX6_layReal hn (c5.1.1 hR) e6)
    refine qd_cVn (ci := 5) (a0 := 287) (qc_at qkX4_layGiven 9 rfl) ql_4_178 qfX6_layReal (qc_kf hn rfl) rfl c6 rfl rfl (Nat.le_of_ble_eq_true rfl) (qc_rml (by decide) (by decide)) ⟨Nat.zero_le _, Nat.zero_le _⟩ ?_
    obtain ⟨rfl, rfl, rfl, rfl, rfl⟩ := qc_some5 h
    exact ⟨qc_fm.rf _, qc_goto (qc_at qkX4_layGiven 10 rfl) <| qc_vret (qc_at qkX4_layGiven 23 rfl) rfl (Nat.le_refl _) (Nat.le_refl _) (qc_eq.rf _ _ _)⟩
def fX4_store_b44 (w : qcW) (I : qTI) (L : qTL) (D : qTD) (R : qTR) (x1 : Int32) (x2 : Int32) (x3 : Int32) (x4 : Int64) (s0 : UInt64) : qcO Int32 :=
  (qc_bd (fX6_take w I L D R) fun r1 I1 L1 D1 R1 => qc_bd (fX1_cellFault w I1 L1 D1 R1 x2 x1 r1) fun r2 I2 L2 D2 R2 => if r2 = 0 then (if x3 = 0 then (qc_bd (fX1_setWhole w I2 L2 D2 R2 x2 (Int64.toInt32 r1) x4) fun r5 I5 L5 D5 R5 => some ((0 : Int32), I5, L5, D5, R5)) else (qc_bd (fX1_setReal w I2 L2 D2 R2 x2 (Int64.toInt32 r1) s0) fun r6 I6 L6 D6 R6 => some ((0 : Int32), I6, L6, D6, R6))) else (some (r2, I2, L2, D2, R2)))
set_option maxRecDepth 100000 in
set_option maxHeartbeats 4000000 in
theorem tX4_store_b44 {w : qcW} {I : qTI} {L : qTL} {D : qTD} {R : qTR} {x1 : Int32} {x2 : Int32} {x3 : Int32} {x4 : Int64} {s0 : UInt64} {r : Int32} {I' : qTI} {L' : qTL} {D' : qTD} {R' : qTR} (hn : qcNF ≤ w.1) (hR : qc_FR R) (h : fX4_store_b44 w I L D R x1 x2 x3 x4 s0 = some (r, I', L', D', R')) : qc_fm qcSX (I, L, D, R) (I', L', D', R') ∧ qc_X (qc_rm (2) 0 0) qmX4_store (qc_QM 0 0 (qc_eq (some (.int r)) w (I', L', D', R'))) 0 0 w (44, [(0, .ref 286), (1, .int x1), (2, .int x2), (3, .int x3), (4, .long x4)], [.double s0], I, L, D, R) := by
  unfold fX4_store_b44 at h
  refine And.imp_right (fun hx => qc_dstore (lv' := [(6, _), (0, _), (1, _), (2, _), (3, _), (4, _)]) (qc_at qkX4_store 22 rfl) rfl rfl <| qc_aload_n (qc_at qkX4_store 23 rfl) rfl <| qc_gR (qc_at qkX4_store 24 rfl) hn rfl (qfr_286_2 hR) rfl <| hx) ?_
  obtain ⟨r1, I1, L1, D1, R1, e1, h⟩ := qc_bd_of h
  have c1 := (tX6_take hn hR e1)
  refine qd_cVv (ci := 5) (a0 := 287) (qc_at qkX4_store 25 rfl) ql_4_75 qfX6_take (qc_kf hn rfl) rfl c1 rfl rfl (Nat.le_of_ble_eq_true rfl) (qc_rml (by decide) (by decide)) ⟨Nat.zero_le _, Nat.zero_le _⟩ ?_
  refine And.imp_right (fun hx => qc_lstore (lv' := [(8, _), (6, _), (0, _), (1, _), (2, _), (3, _), (4, _)]) (qc_at qkX4_store 26 rfl) rfl rfl <| qc_aload_n (qc_at qkX4_store 27 rfl) rfl <| qc_gR (qc_at qkX4_store 28 rfl) hn rfl (qfr_286_0 (c1.1.1 hR)) rfl <| qc_iload_n (qc_at qkX4_store 29 rfl) rfl <| qc_iload_n (qc_at qkX4_store 30 rfl) rfl <| qc_lload (qc_at qkX4_store 31 rfl) rfl <| hx) ?_
  obtain ⟨r2, I2, L2, D2, R2, e2, h⟩ := qc_bd_of h
  have c2 := (tX1_cellFault hn (c1.1.1 hR) e2)
  refine qd_cVv (ci := 1) (a0 := 257) (qc_at qkX4_store 32 rfl) ql_4_182 qfX1_cellFault (qc_kf hn rfl) rfl c2 rfl rfl (Nat.le_of_ble_eq_true rfl) (qc_rml (by decide) (by decide)) ⟨Nat.zero_le _, Nat.zero_le _⟩ ?_
  refine And.imp_right (fun hx => qc_istore (lv' := [(10, _), (8, _), (6, _), (0, _), (1, _), (2, _), (3, _), (4, _)]) (qc_at qkX4_store 33 rfl) rfl rfl <| qc_iload (qc_at qkX4_store 34 rfl) rfl <| hx) ?_
  refine qc_andC (qc_if_eq (qc_at qkX4_store 35 rfl)) (fun u3 => ?_) (fun u3 => ?_)
  · replace h := qc_jp u3 h
    refine And.imp_right (fun hx => qc_iload_n (qc_at qkX4_store 38 rfl) rfl <| hx) ?_
    refine qc_andC (qc_if_eq (qc_at qkX4_store 39 rfl)) (fun u4 => ?_) (fun u4 => ?_)
    · replace h := qc_jp u4 h
      refine And.imp_right (fun hx => qc_aload_n (qc_at qkX4_store 48 rfl) rfl <| qc_gR (qc_at qkX4_store 49 rfl) hn rfl (qfr_286_0 (c2.1.1 (c1.1.1 hR))) rfl <| qc_iload_n (qc_at qkX4_store 50 rfl) rfl <| qc_lload (qc_at qkX4_store 51 rfl) rfl <| qc_l2i (qc_at qkX4_store 52 rfl) <| qc_lload (qc_at qkX4_store 53 rfl) rfl <| hx) ?_
      obtain ⟨r5, I5, L5, D5, R5, e5, h⟩ := qc_bd_of h
      have c5 := (tX1_setWhole hn (c2.1.1 (c1.1.1 hR)) e5)
      refine qd_cVn (ci := 1) (a0 := 257) (qc_at qkX4_store 54 rfl) ql_4_198 qfX1_setWhole (qc_kf hn rfl) rfl c5 rfl rfl (Nat.le_of_ble_eq_true rfl) (qc_rml (by decide) (by decide)) ⟨Nat.zero_le _, Nat.zero_le _⟩ ?_
      obtain ⟨rfl, rfl, rfl, rfl, rfl⟩ := qc_some5 h
      exact ⟨qc_fm.rf _, qc_iconst (qc_at qkX4_store 55 rfl) <| qc_iret (qc_at qkX4_store 56 rfl) rfl (Nat.le_refl _) (Nat.le_refl _) (qc_eq.rf _ _ _)⟩
    · replace h := qc_jn u4 h
      refine And.imp_right (fun hx => qc_aload_n (qc_at qkX4_store 40 rfl) rfl <| qc_gR (qc_at qkX4_store 41 rfl) hn rfl (qfr_286_0 (c2.1.1 (c1.1.1 hR))) rfl <| qc_iload_n (qc_at qkX4_store 42 rfl) rfl <| qc_lload (qc_at qkX4_store 43 rfl) rfl <| qc_l2i (qc_at qkX4_store 44 rfl) <| qc_dload (qc_at qkX4_store 45 rfl) rfl <| hx) ?_
      obtain ⟨r6, I6, L6, D6, R6, e6, h⟩ := qc_bd_of h
      have c6 := (tX1_setReal hn (c2.1.1 (c1.1.1 hR)) e6)
      refine qd_cVn (ci := 1) (a0 := 257) (qc_at qkX4_store 46 rfl) ql_4_194 qfX1_setReal (qc_kf hn rfl) rfl c6 rfl rfl (Nat.le_of_ble_eq_true rfl) (qc_rml (by decide) (by decide)) ⟨Nat.zero_le _, Nat.zero_le _⟩ ?_
      obtain ⟨rfl, rfl, rfl, rfl, rfl⟩ := qc_some5 h
      exact ⟨qc_fm.rf _, qc_goto (qc_at qkX4_store 47 rfl) <| qc_iconst (qc_at qkX4_store 55 rfl) <| qc_iret (qc_at qkX4_store 56 rfl) rfl (Nat.le_refl _) (Nat.le_refl _) (qc_eq.rf _ _ _)⟩
  · replace h := qc_jn u3 h
    obtain ⟨rfl, rfl, rfl, rfl, rfl⟩ := qc_some5 h
    exact ⟨qc_fm.rf _, qc_iload (qc_at qkX4_store 36 rfl) rfl <| qc_iret (qc_at qkX4_store 37 rfl) rfl (Nat.le_refl _) (Nat.le_refl _) (qc_eq.rf _ _ _)⟩
def fX4_store_b27 (w : qcW) (I : qTI) (L : qTL) (D : qTD) (R : qTR) (x1 : Int32) (x2 : Int32) (x3 : Int32) (s0 : Int64) : qcO Int32 :=
  (if x3 = 0 then (fX4_store_b44 w I L D R x1 x2 x3 s0 (0 : UInt64)) else (qc_bd (fX6_takeReal w I L D R) fun r8 I8 L8 D8 R8 => fX4_store_b44 w I8 L8 D8 R8 x1 x2 x3 s0 r8))
set_option maxRecDepth 100000 in
set_option maxHeartbeats 4000000 in
theorem tX4_store_b27 {w : qcW} {I : qTI} {L : qTL} {D : qTD} {R : qTR} {x1 : Int32} {x2 : Int32} {x3 : Int32} {s0 : Int64} {r : Int32} {I' : qTI} {L' : qTL} {D' : qTD} {R' : qTR} (hn : qcNF ≤ w.1) (hR : qc_FR R) (h : fX4_store_b27 w I L D R x1 x2 x3 s0 = some (r, I', L', D', R')) : qc_fm qcSX (I, L, D, R) (I', L', D', R') ∧ qc_X (qc_rm (2) 0 0) qmX4_store (qc_QM 0 0 (qc_eq (some (.int r)) w (I', L', D', R'))) 0 0 w (27, [(0, .ref 286), (1, .int x1), (2, .int x2), (3, .int x3)], [.long s0], I, L, D, R) := by
  unfold fX4_store_b27 at h
  refine And.imp_right (fun hx => qc_lstore (lv' := [(4, _), (0, _), (1, _), (2, _), (3, _)]) (qc_at qkX4_store 14 rfl) rfl rfl <| qc_iload_n (qc_at qkX4_store 15 rfl) rfl <| hx) ?_
  refine qc_andC (qc_if_eq (qc_at qkX4_store 16 rfl)) (fun u7 => ?_) (fun u7 => ?_)
  · replace h := qc_jp u7 h
    exact And.imp_right (fun hx => qc_dconst (qc_at qkX4_store 21 rfl) <| qc_sub [1, 2, 3, 4, 0] rfl hx) (tX4_store_b44 hn hR h)
  · replace h := qc_jn u7 h
    refine And.imp_right (fun hx => qc_aload_n (qc_at qkX4_store 17 rfl) rfl <| qc_gR (qc_at qkX4_store 18 rfl) hn rfl (qfr_286_2 hR) rfl <| hx) ?_
    obtain ⟨r8, I8, L8, D8, R8, e8, h⟩ := qc_bd_of h
    have c8 := (tX6_takeReal hn hR e8)
    refine qd_cVv (ci := 5) (a0 := 287) (qc_at qkX4_store 19 rfl) ql_4_82 qfX6_takeReal (qc_kf hn rfl) rfl c8 rfl rfl (Nat.le_of_ble_eq_true rfl) (qc_rml (by decide) (by decide)) ⟨Nat.zero_le _, Nat.zero_le _⟩ ?_
    exact And.imp_right (fun hx => qc_goto (qc_at qkX4_store 20 rfl) <| qc_sub [1, 2, 3, 4, 0] rfl hx) (tX4_store_b44 hn (c8.1.1 hR) h)
def fX4_store_b11 (w : qcW) (I : qTI) (L : qTL) (D : qTD) (R : qTR) (x1 : Int32) (x2 : Int32) (s0 : Int32) : qcO Int32 :=
  (if s0 = 0 then (qc_bd (fX6_take w I L D R) fun r10 I10 L10 D10 R10 => fX4_store_b27 w I10 L10 D10 R10 x1 x2 s0 r10) else (fX4_store_b27 w I L D R x1 x2 s0 (0 : Int64)))
set_option maxRecDepth 100000 in
set_option maxHeartbeats 4000000 in
theorem tX4_store_b11 {w : qcW} {I : qTI} {L : qTL} {D : qTD} {R : qTR} {x1 : Int32} {x2 : Int32} {s0 : Int32} {r : Int32} {I' : qTI} {L' : qTL} {D' : qTD} {R' : qTR} (hn : qcNF ≤ w.1) (hR : qc_FR R) (h : fX4_store_b11 w I L D R x1 x2 s0 = some (r, I', L', D', R')) : qc_fm qcSX (I, L, D, R) (I', L', D', R') ∧ qc_X (qc_rm (2) 0 0) qmX4_store (qc_QM 0 0 (qc_eq (some (.int r)) w (I', L', D', R'))) 0 0 w (11, [(0, .ref 286), (1, .int x1), (2, .int x2)], [.int s0], I, L, D, R) := by
  unfold fX4_store_b11 at h
  refine And.imp_right (fun hx => qc_istore_n (lv' := [(3, _), (0, _), (1, _), (2, _)]) (qc_at qkX4_store 6 rfl) rfl rfl <| qc_iload_n (qc_at qkX4_store 7 rfl) rfl <| hx) ?_
  refine qc_andC (qc_if_eq (qc_at qkX4_store 8 rfl)) (fun u9 => ?_) (fun u9 => ?_)
  · replace h := qc_jp u9 h
    refine And.imp_right (fun hx => qc_aload_n (qc_at qkX4_store 11 rfl) rfl <| qc_gR (qc_at qkX4_store 12 rfl) hn rfl (qfr_286_2 hR) rfl <| hx) ?_
    obtain ⟨r10, I10, L10, D10, R10, e10, h⟩ := qc_bd_of h
    have c10 := (tX6_take hn hR e10)
    refine qd_cVv (ci := 5) (a0 := 287) (qc_at qkX4_store 13 rfl) ql_4_75 qfX6_take (qc_kf hn rfl) rfl c10 rfl rfl (Nat.le_of_ble_eq_true rfl) (qc_rml (by decide) (by decide)) ⟨Nat.zero_le _, Nat.zero_le _⟩ ?_
    exact And.imp_right (fun hx => qc_sub [1, 2, 3, 0] rfl hx) (tX4_store_b27 hn (c10.1.1 hR) h)
  · replace h := qc_jn u9 h
    exact And.imp_right (fun hx => qc_lconst (qc_at qkX4_store 9 rfl) <| qc_goto (qc_at qkX4_store 10 rfl) <| qc_sub [1, 2, 3, 0] rfl hx) (tX4_store_b27 hn hR h)
def fX4_store (w : qcW) (I : qTI) (L : qTL) (D : qTD) (R : qTR) (x1 : Int32) (x2 : Int32) : qcO Int32 :=
  (if x1 < (6 : Int32) then (fX4_store_b11 w I L D R x1 x2 (0 : Int32)) else (fX4_store_b11 w I L D R x1 x2 (1 : Int32)))
set_option maxRecDepth 100000 in
set_option maxHeartbeats 4000000 in
theorem tX4_store {w : qcW} {I : qTI} {L : qTL} {D : qTD} {R : qTR} {x1 : Int32} {x2 : Int32} {r : Int32} {I' : qTI} {L' : qTL} {D' : qTD} {R' : qTR} (hn : qcNF ≤ w.1) (hR : qc_FR R) (h : fX4_store w I L D R x1 x2 = some (r, I', L', D', R')) : qc_fm qcSX (I, L, D, R) (I', L', D', R') ∧ qc_V (2) 0 0 qmX4_store [.ref 286, .int x1, .int x2] w (I, L, D, R) (qc_eq (some (.int r)) w (I', L', D', R')) := by
  unfold fX4_store at h
  refine And.imp_right (fun hx => qc_V.of rfl rfl (Nat.le_of_ble_eq_true rfl) (lv := [(0, .ref 286), (1, .int x1), (2, .int x2)]) rfl hx) ?_
  refine And.imp_right (fun hx => qc_iload_n (qc_at qkX4_store 0 rfl) rfl <| qc_bipush (qc_at qkX4_store 1 rfl) <| hx) ?_
  refine qc_andC (qc_icmp_lt (qc_at qkX4_store 2 rfl)) (fun u11 => ?_) (fun u11 => ?_)
  · replace h := qc_jp u11 h
    exact And.imp_right (fun hx => qc_iconst (qc_at qkX4_store 5 rfl) <| qc_sub [0, 1, 2] rfl hx) (tX4_store_b11 hn hR h)
  · replace h := qc_jn u11 h
    exact And.imp_right (fun hx => qc_iconst (qc_at qkX4_store 3 rfl) <| qc_goto (qc_at qkX4_store 4 rfl) <| qc_sub [0, 1, 2] rfl hx) (tX4_store_b11 hn hR h)
def fX4_turn_b65 (w : qcW) (I : qTI) (L : qTL) (D : qTD) (R : qTR) (s0 : Int64) : qcO Unit :=
  (qc_bd (fX6_lay w I L D R s0) fun r1 I1 L1 D1 R1 => some ((), I1, L1, D1, R1))
set_option maxRecDepth 100000 in
set_option maxHeartbeats 4000000 in
theorem tX4_turn_b65 {w : qcW} {I : qTI} {L : qTL} {D : qTD} {R : qTR} {s0 : Int64} {r : Unit} {I' : qTI} {L' : qTL} {D' : qTD} {R' : qTR} (hn : qcNF ≤ w.1) (hR : qc_FR R) (h : fX4_turn_b65 w I L D R s0 = some (r, I', L', D', R')) : qc_fm qcSX (I, L, D, R) (I', L', D', R') ∧ qc_X (qc_rm (1) 0 0) qmX4_turn (qc_QM 0 0 (qc_eq none w (I', L', D', R'))) 0 0 w (65, [], [.long s0, .ref 287], I, L, D, R) := by
  unfold fX4_turn_b65 at h
  obtain ⟨r1, I1, L1, D1, R1, e1, h⟩ := qc_bd_of h
  have c1 := (tX6_lay hn hR e1)
  refine qd_cVn (ci := 5) (a0 := 287) (qc_at qkX4_turn 35 rfl) ql_4_158 qfX6_lay (qc_kf hn rfl) rfl c1 rfl rfl (Nat.le_of_ble_eq_true rfl) (qc_rml (by decide) (by decide)) ⟨Nat.zero_le _, Nat.zero_le _⟩ ?_
  obtain ⟨rfl, rfl, rfl, rfl, rfl⟩ := qc_some5 h
  exact ⟨qc_fm.rf _, qc_vret (qc_at qkX4_turn 36 rfl) rfl (Nat.le_refl _) (Nat.le_refl _) (qc_eq.rf _ _ _)⟩
def fX4_turn_b45 (w : qcW) (I : qTI) (L : qTL) (D : qTD) (R : qTR) (x2 : Int32) (s0 : Int64) : qcO Unit :=
  (if x2 = (1 : Int32) then (fX4_turn_b65 w I L D R (Int32.toInt64 (Int64.toInt32 s0))) else (fX4_turn_b65 w I L D R s0))
set_option maxRecDepth 100000 in
set_option maxHeartbeats 4000000 in
theorem tX4_turn_b45 {w : qcW} {I : qTI} {L : qTL} {D : qTD} {R : qTR} {x2 : Int32} {s0 : Int64} {r : Unit} {I' : qTI} {L' : qTL} {D' : qTD} {R' : qTR} (hn : qcNF ≤ w.1) (hR : qc_FR R) (h : fX4_turn_b45 w I L D R x2 s0 = some (r, I', L', D', R')) : qc_fm qcSX (I, L, D, R) (I', L', D', R') ∧ qc_X (qc_rm (1) 0 0) qmX4_turn (qc_QM 0 0 (qc_eq none w (I', L', D', R'))) 0 0 w (45, [(0, .ref 286), (2, .int x2)], [.long s0], I, L, D, R) := by
  unfold fX4_turn_b45 at h
  refine And.imp_right (fun hx => qc_lstore (lv' := [(5, _), (0, _), (2, _)]) (qc_at qkX4_turn 24 rfl) rfl rfl <| qc_aload_n (qc_at qkX4_turn 25 rfl) rfl <| qc_gR (qc_at qkX4_turn 26 rfl) hn rfl (qfr_286_2 hR) rfl <| qc_iload_n (qc_at qkX4_turn 27 rfl) rfl <| qc_iconst (qc_at qkX4_turn 28 rfl) <| hx) ?_
  refine qc_andN (qc_icmp_ne (qc_at qkX4_turn 29 rfl)) (fun u2 => ?_) (fun u2 => ?_)
  · replace h := qc_jn u2 h
    exact And.imp_right (fun hx => qc_lload (qc_at qkX4_turn 34 rfl) rfl <| qc_sub [] rfl hx) (tX4_turn_b65 hn hR h)
  · replace h := qc_jp u2 h
    exact And.imp_right (fun hx => qc_lload (qc_at qkX4_turn 30 rfl) rfl <| qc_l2i (qc_at qkX4_turn 31 rfl) <| qc_i2l (qc_at qkX4_turn 32 rfl) <| qc_goto (qc_at qkX4_turn 33 rfl) <| qc_sub [] rfl hx) (tX4_turn_b65 hn hR h)
def fX4_turn (w : qcW) (I : qTI) (L : qTL) (D : qTD) (R : qTR) (x1 : Int32) (x2 : Int32) : qcO Unit :=
  (if x2 < (3 : Int32) then (qc_bd (fX6_take w I L D R) fun r4 I4 L4 D4 R4 => if x1 = (12 : Int32) then (fX4_turn_b45 w I4 L4 D4 R4 x2 (-r4)) else (fX4_turn_b45 w I4 L4 D4 R4 x2 (r4 ^^^ (-1 : Int64)))) else (qc_bd (fX6_takeReal w I L D R) fun r6 I6 L6 D6 R6 => qc_bd (fX6_layReal w I6 L6 D6 R6 (FP.dneg r6)) fun r7 I7 L7 D7 R7 => some ((), I7, L7, D7, R7)))
set_option maxRecDepth 100000 in
set_option maxHeartbeats 4000000 in
theorem tX4_turn {w : qcW} {I : qTI} {L : qTL} {D : qTD} {R : qTR} {x1 : Int32} {x2 : Int32} {r : Unit} {I' : qTI} {L' : qTL} {D' : qTD} {R' : qTR} (hn : qcNF ≤ w.1) (hR : qc_FR R) (h : fX4_turn w I L D R x1 x2 = some (r, I', L', D', R')) : qc_fm qcSX (I, L, D, R) (I', L', D', R') ∧ qc_V (1) 0 0 qmX4_turn [.ref 286, .int x1, .int x2] w (I, L, D, R) (qc_eq none w (I', L', D', R')) := by
  unfold fX4_turn at h
  refine And.imp_right (fun hx => qc_V.of rfl rfl (Nat.le_of_ble_eq_true rfl) (lv := [(0, .ref 286), (1, .int x1), (2, .int x2)]) rfl hx) ?_
  refine And.imp_right (fun hx => qc_iload_n (qc_at qkX4_turn 0 rfl) rfl <| qc_iconst (qc_at qkX4_turn 1 rfl) <| hx) ?_
  refine qc_andC (qc_icmp_lt (qc_at qkX4_turn 2 rfl)) (fun u3 => ?_) (fun u3 => ?_)
  · replace h := qc_jp u3 h
    refine And.imp_right (fun hx => qc_aload_n (qc_at qkX4_turn 11 rfl) rfl <| qc_gR (qc_at qkX4_turn 12 rfl) hn rfl (qfr_286_2 hR) rfl <| hx) ?_
    obtain ⟨r4, I4, L4, D4, R4, e4, h⟩ := qc_bd_of h
    have c4 := (tX6_take hn hR e4)
    refine qd_cVv (ci := 5) (a0 := 287) (qc_at qkX4_turn 13 rfl) ql_4_75 qfX6_take (qc_kf hn rfl) rfl c4 rfl rfl (Nat.le_of_ble_eq_true rfl) (qc_rml (by decide) (by decide)) ⟨Nat.zero_le _, Nat.zero_le _⟩ ?_
    refine And.imp_right (fun hx => qc_lstore_n (lv' := [(3, _), (0, _), (1, _), (2, _)]) (qc_at qkX4_turn 14 rfl) rfl rfl <| qc_iload_n (qc_at qkX4_turn 15 rfl) rfl <| qc_bipush (qc_at qkX4_turn 16 rfl) <| hx) ?_
    refine qc_andN (qc_icmp_ne (qc_at qkX4_turn 17 rfl)) (fun u5 => ?_) (fun u5 => ?_)
    · replace h := qc_jn u5 h
      exact And.imp_right (fun hx => qc_lload_n (qc_at qkX4_turn 21 rfl) rfl <| qc_ldc2l (qc_at qkX4_turn 22 rfl) <| qc_lxor (qc_at qkX4_turn 23 rfl) <| qc_sub [1, 3] rfl hx) (tX4_turn_b45 hn (c4.1.1 hR) h)
    · replace h := qc_jp u5 h
      exact And.imp_right (fun hx => qc_lload_n (qc_at qkX4_turn 18 rfl) rfl <| qc_lneg (qc_at qkX4_turn 19 rfl) <| qc_goto (qc_at qkX4_turn 20 rfl) <| qc_sub [1, 3] rfl hx) (tX4_turn_b45 hn (c4.1.1 hR) h)
  · replace h := qc_jn u3 h
    refine And.imp_right (fun hx => qc_aload_n (qc_at qkX4_turn 3 rfl) rfl <| qc_gR (qc_at qkX4_turn 4 rfl) hn rfl (qfr_286_2 hR) rfl <| qc_aload_n (qc_at qkX4_turn 5 rfl) rfl <| qc_gR (qc_at qkX4_turn 6 rfl) hn rfl (qfr_286_2 hR) rfl <| hx) ?_
    obtain ⟨r6, I6, L6, D6, R6, e6, h⟩ := qc_bd_of h
    have c6 := (tX6_takeReal hn hR e6)
    refine qd_cVv (ci := 5) (a0 := 287) (qc_at qkX4_turn 7 rfl) ql_4_82 qfX6_takeReal (qc_kf hn rfl) rfl c6 rfl rfl (Nat.le_of_ble_eq_true rfl) (qc_rml (by decide) (by decide)) ⟨Nat.zero_le _, Nat.zero_le _⟩ ?_
    refine And.imp_right (fun hx => qc_dneg (qc_at qkX4_turn 8 rfl) <| hx) ?_
    obtain ⟨r7, I7, L7, D7, R7, e7, h⟩ := qc_bd_of h
    have c7 := (tX6_layReal hn (c6.1.1 hR) e7)
    refine qd_cVn (ci := 5) (a0 := 287) (qc_at qkX4_turn 9 rfl) ql_4_178 qfX6_layReal (qc_kf hn rfl) rfl c7 rfl rfl (Nat.le_of_ble_eq_true rfl) (qc_rml (by decide) (by decide)) ⟨Nat.zero_le _, Nat.zero_le _⟩ ?_
    obtain ⟨rfl, rfl, rfl, rfl, rfl⟩ := qc_some5 h
    exact ⟨qc_fm.rf _, qc_vret (qc_at qkX4_turn 10 rfl) rfl (Nat.le_refl _) (Nat.le_refl _) (qc_eq.rf _ _ _)⟩
def fX4_step_b175 (w : qcW) (I : qTI) (L : qTL) (D : qTD) (R : qTR) (s0 : Int64) : qcO Int32 :=
  (qc_bd (fX6_lay w I L D R s0) fun r1 I1 L1 D1 R1 => some ((0 : Int32), I1, L1, D1, R1))
set_option maxRecDepth 100000 in
set_option maxHeartbeats 4000000 in
theorem tX4_step_b175 {w : qcW} {I : qTI} {L : qTL} {D : qTD} {R : qTR} {s0 : Int64} {r : Int32} {I' : qTI} {L' : qTL} {D' : qTD} {R' : qTR} (hn : qcNF ≤ w.1) (hR : qc_FR R) (h : fX4_step_b175 w I L D R s0 = some (r, I', L', D', R')) : qc_fm qcSX (I, L, D, R) (I', L', D', R') ∧ qc_X (qc_rm (3) 0 0) qmX4_step (qc_QM 0 0 (qc_eq (some (.int r)) w (I', L', D', R'))) 0 0 w (175, [], [.long s0, .ref 287], I, L, D, R) := by
  unfold fX4_step_b175 at h
  obtain ⟨r1, I1, L1, D1, R1, e1, h⟩ := qc_bd_of h
  have c1 := (tX6_lay hn hR e1)
  refine qd_cVn (ci := 5) (a0 := 287) (qc_at qkX4_step 95 rfl) ql_4_158 qfX6_lay (qc_kf hn rfl) rfl c1 rfl rfl (Nat.le_of_ble_eq_true rfl) (qc_rml (by decide) (by decide)) ⟨Nat.zero_le _, Nat.zero_le _⟩ ?_
  obtain ⟨rfl, rfl, rfl, rfl, rfl⟩ := qc_some5 h
  exact ⟨qc_fm.rf _, qc_goto (qc_at qkX4_step 96 rfl) <| qc_iconst (qc_at qkX4_step 139 rfl) <| qc_iret (qc_at qkX4_step 140 rfl) rfl (Nat.le_refl _) (Nat.le_refl _) (qc_eq.rf _ _ _)⟩
def fX4_step_b231 (w : qcW) (I : qTI) (L : qTL) (D : qTD) (R : qTR) (x1 : Int32) (x2 : Int32) (x3 : Int32) (x4 : Int32) : qcO Int32 :=
  (if x3 = (17 : Int32) then (qc_bd (fX4_applyToWholes w I L D R (x4 / (10 : Int32)) (x4 - x4 / (10 : Int32) * (10 : Int32))) fun r4 I4 L4 D4 R4 => some ((0 : Int32), I4, L4, D4, R4)) else (qc_bd (fX4_jump w I L D R x1 x2) fun r3 I3 L3 D3 R3 => some ((0 : Int32), I3, L3, D3, R3)))
set_option maxRecDepth 100000 in
set_option maxHeartbeats 4000000 in
theorem tX4_step_b231 {w : qcW} {I : qTI} {L : qTL} {D : qTD} {R : qTR} {x1 : Int32} {x2 : Int32} {x3 : Int32} {x4 : Int32} {r : Int32} {I' : qTI} {L' : qTL} {D' : qTD} {R' : qTR} (hn : qcNF ≤ w.1) (hR : qc_FR R) (h : fX4_step_b231 w I L D R x1 x2 x3 x4 = some (r, I', L', D', R')) : qc_fm qcSX (I, L, D, R) (I', L', D', R') ∧ qc_X (qc_rm (3) 0 0) qmX4_step (qc_QM 0 0 (qc_eq (some (.int r)) w (I', L', D', R'))) 0 0 w (231, [(0, .ref 286), (1, .int x1), (2, .int x2), (3, .int x3), (4, .int x4)], [], I, L, D, R) := by
  unfold fX4_step_b231 at h
  refine And.imp_right (fun hx => qc_iload_n (qc_at qkX4_step 123 rfl) rfl <| qc_bipush (qc_at qkX4_step 124 rfl) <| hx) ?_
  refine qc_andN (qc_icmp_ne (qc_at qkX4_step 125 rfl)) (fun u2 => ?_) (fun u2 => ?_)
  · replace h := qc_jn u2 h
    refine And.imp_right (fun hx => qc_aload_n (qc_at qkX4_step 135 rfl) rfl <| qc_iload_n (qc_at qkX4_step 136 rfl) rfl <| qc_iload_n (qc_at qkX4_step 137 rfl) rfl <| hx) ?_
    obtain ⟨r3, I3, L3, D3, R3, e3, h⟩ := qc_bd_of h
    have c3 := (tX4_jump hn hR e3)
    refine qd_cVn (ci := 4) (a0 := 286) (qc_at qkX4_step 138 rfl) ql_4_171 qfX4_jump (qc_kf hn rfl) rfl c3 rfl rfl (Nat.le_of_ble_eq_true rfl) (qc_rml (by decide) (by decide)) ⟨Nat.zero_le _, Nat.zero_le _⟩ ?_
    obtain ⟨rfl, rfl, rfl, rfl, rfl⟩ := qc_some5 h
    exact ⟨qc_fm.rf _, qc_iconst (qc_at qkX4_step 139 rfl) <| qc_iret (qc_at qkX4_step 140 rfl) rfl (Nat.le_refl _) (Nat.le_refl _) (qc_eq.rf _ _ _)⟩
  · replace h := qc_jp u2 h
    refine And.imp_right (fun hx => qc_aload_n (qc_at qkX4_step 126 rfl) rfl <| qc_iload (qc_at qkX4_step 127 rfl) rfl <| qc_bipush (qc_at qkX4_step 128 rfl) <| qc_idiv (qc_at qkX4_step 129 rfl) (by decide) <| qc_iload (qc_at qkX4_step 130 rfl) rfl <| qc_bipush (qc_at qkX4_step 131 rfl) <| qc_irem (qc_at qkX4_step 132 rfl) (by decide) <| hx) ?_
    obtain ⟨r4, I4, L4, D4, R4, e4, h⟩ := qc_bd_of h
    have c4 := (tX4_applyToWholes hn hR e4)
    refine qd_cVn (ci := 4) (a0 := 286) (qc_at qkX4_step 133 rfl) ql_4_168 qfX4_applyToWholes (qc_kf hn rfl) rfl c4 rfl rfl (Nat.le_of_ble_eq_true rfl) (qc_rml (by decide) (by decide)) ⟨Nat.zero_le _, Nat.zero_le _⟩ ?_
    obtain ⟨rfl, rfl, rfl, rfl, rfl⟩ := qc_some5 h
    exact ⟨qc_fm.rf _, qc_goto (qc_at qkX4_step 134 rfl) <| qc_iconst (qc_at qkX4_step 139 rfl) <| qc_iret (qc_at qkX4_step 140 rfl) rfl (Nat.le_refl _) (Nat.le_refl _) (qc_eq.rf _ _ _)⟩
def fX4_step_b85 (w : qcW) (I : qTI) (L : qTL) (D : qTD) (R : qTR) (x1 : Int32) (x2 : Int32) (x3 : Int32) (x4 : Int32) : qcO Int32 :=
  (if x3 = 0 then (qc_bd (fX4_layGiven w I L D R x1 x2) fun r21 I21 L21 D21 R21 => some ((0 : Int32), I21, L21, D21, R21)) else (if (11 : Int32) < x3 then (if (13 : Int32) < x3 then (if x3 = (14 : Int32) then (qc_bd (fX4_compare w I L D R x4) fun r18 I18 L18 D18 R18 => some ((0 : Int32), I18, L18, D18, R18)) else (if x3 = (15 : Int32) then (qc_bd (fX6_take w I L D R) fun r15 I15 L15 D15 R15 => qc_bd (fX4_holds w I15 L15 D15 R15 x4 r15) fun r16 I16 L16 D16 R16 => if r16 = true then (fX4_step_b175 w I16 L16 D16 R16 (1 : Int64)) else (fX4_step_b175 w I16 L16 D16 R16 (0 : Int64))) else (if x3 = (16 : Int32) then (qc_bd (fX4_convert w I L D R (x4 / (10 : Int32)) (x4 - x4 / (10 : Int32) * (10 : Int32))) fun r14 I14 L14 D14 R14 => some ((0 : Int32), I14, L14, D14, R14)) else (if x3 = (17 : Int32) then (if (x4 - x4 / (10 : Int32) * (10 : Int32)) < (3 : Int32) then (fX4_step_b231 w I L D R x1 x2 x3 x4) else (qc_bd (fX4_applyToReals w I L D R (x4 / (10 : Int32))) fun r13 I13 L13 D13 R13 => some ((0 : Int32), I13, L13, D13, R13))) else (fX4_step_b231 w I L D R x1 x2 x3 x4))))) else (qc_bd (fX4_turn w I L D R x3 x4) fun r19 I19 L19 D19 R19 => some ((0 : Int32), I19, L19, D19, R19))) else (qc_bd (fX4_joinBits w I L D R x3 x4) fun r20 I20 L20 D20 R20 => some ((0 : Int32), I20, L20, D20, R20))))
set_option maxRecDepth 100000 in
set_option maxHeartbeats 4000000 in
theorem tX4_step_b85 {w : qcW} {I : qTI} {L : qTL} {D : qTD} {R : qTR} {x1 : Int32} {x2 : Int32} {x3 : Int32} {x4 : Int32} {r : Int32} {I' : qTI} {L' : qTL} {D' : qTD} {R' : qTR} (hn : qcNF ≤ w.1) (hR : qc_FR R) (h : fX4_step_b85 w I L D R x1 x2 x3 x4 = some (r, I', L', D', R')) : qc_fm qcSX (I, L, D, R) (I', L', D', R') ∧ qc_X (qc_rm (3) 0 0) qmX4_step (qc_QM 0 0 (qc_eq (some (.int r)) w (I', L', D', R'))) 0 0 w (85, [(0, .ref 286), (1, .int x1), (2, .int x2), (3, .int x3), (4, .int x4)], [], I, L, D, R) := by
  unfold fX4_step_b85 at h
  refine And.imp_right (fun hx => qc_iload_n (qc_at qkX4_step 51 rfl) rfl <| hx) ?_
  refine qc_andN (qc_if_ne (qc_at qkX4_step 52 rfl)) (fun u5 => ?_) (fun u5 => ?_)
  · replace h := qc_jn u5 h
    refine And.imp_right (fun hx => qc_iload_n (qc_at qkX4_step 58 rfl) rfl <| qc_bipush (qc_at qkX4_step 59 rfl) <| hx) ?_
    refine qc_andC (qc_icmp_gt (qc_at qkX4_step 60 rfl)) (fun u6 => ?_) (fun u6 => ?_)
    · replace h := qc_jp u6 h
      refine And.imp_right (fun hx => qc_iload_n (qc_at qkX4_step 66 rfl) rfl <| qc_bipush (qc_at qkX4_step 67 rfl) <| hx) ?_
      refine qc_andC (qc_icmp_gt (qc_at qkX4_step 68 rfl)) (fun u7 => ?_) (fun u7 => ?_)
      · replace h := qc_jp u7 h
        refine And.imp_right (fun hx => qc_iload_n (qc_at qkX4_step 74 rfl) rfl <| qc_bipush (qc_at qkX4_step 75 rfl) <| hx) ?_
        refine qc_andN (qc_icmp_ne (qc_at qkX4_step 76 rfl)) (fun u8 => ?_) (fun u8 => ?_)
        · replace h := qc_jn u8 h
          refine And.imp_right (fun hx => qc_iload_n (qc_at qkX4_step 81 rfl) rfl <| qc_bipush (qc_at qkX4_step 82 rfl) <| hx) ?_
          refine qc_andN (qc_icmp_ne (qc_at qkX4_step 83 rfl)) (fun u9 => ?_) (fun u9 => ?_)
          · replace h := qc_jn u9 h
            refine And.imp_right (fun hx => qc_iload_n (qc_at qkX4_step 97 rfl) rfl <| qc_bipush (qc_at qkX4_step 98 rfl) <| hx) ?_
            refine qc_andN (qc_icmp_ne (qc_at qkX4_step 99 rfl)) (fun u10 => ?_) (fun u10 => ?_)
            · replace h := qc_jn u10 h
              refine And.imp_right (fun hx => qc_iload_n (qc_at qkX4_step 109 rfl) rfl <| qc_bipush (qc_at qkX4_step 110 rfl) <| hx) ?_
              refine qc_andN (qc_icmp_ne (qc_at qkX4_step 111 rfl)) (fun u11 => ?_) (fun u11 => ?_)
              · replace h := qc_jn u11 h
                exact And.imp_right (fun hx => qc_sub [0, 1, 2, 3, 4] rfl hx) (tX4_step_b231 hn hR h)
              · replace h := qc_jp u11 h
                refine And.imp_right (fun hx => qc_iload (qc_at qkX4_step 112 rfl) rfl <| qc_bipush (qc_at qkX4_step 113 rfl) <| qc_irem (qc_at qkX4_step 114 rfl) (by decide) <| qc_iconst (qc_at qkX4_step 115 rfl) <| hx) ?_
                refine qc_andC (qc_icmp_lt (qc_at qkX4_step 116 rfl)) (fun u12 => ?_) (fun u12 => ?_)
                · replace h := qc_jp u12 h
                  exact And.imp_right (fun hx => qc_sub [0, 1, 2, 3, 4] rfl hx) (tX4_step_b231 hn hR h)
                · replace h := qc_jn u12 h
                  refine And.imp_right (fun hx => qc_aload_n (qc_at qkX4_step 117 rfl) rfl <| qc_iload (qc_at qkX4_step 118 rfl) rfl <| qc_bipush (qc_at qkX4_step 119 rfl) <| qc_idiv (qc_at qkX4_step 120 rfl) (by decide) <| hx) ?_
                  obtain ⟨r13, I13, L13, D13, R13, e13, h⟩ := qc_bd_of h
                  have c13 := (tX4_applyToReals hn hR e13)
                  refine qd_cVn (ci := 4) (a0 := 286) (qc_at qkX4_step 121 rfl) ql_4_165 qfX4_applyToReals (qc_kf hn rfl) rfl c13 rfl rfl (Nat.le_of_ble_eq_true rfl) (qc_rml (by decide) (by decide)) ⟨Nat.zero_le _, Nat.zero_le _⟩ ?_
                  obtain ⟨rfl, rfl, rfl, rfl, rfl⟩ := qc_some5 h
                  exact ⟨qc_fm.rf _, qc_goto (qc_at qkX4_step 122 rfl) <| qc_iconst (qc_at qkX4_step 139 rfl) <| qc_iret (qc_at qkX4_step 140 rfl) rfl (Nat.le_refl _) (Nat.le_refl _) (qc_eq.rf _ _ _)⟩
            · replace h := qc_jp u10 h
              refine And.imp_right (fun hx => qc_aload_n (qc_at qkX4_step 100 rfl) rfl <| qc_iload (qc_at qkX4_step 101 rfl) rfl <| qc_bipush (qc_at qkX4_step 102 rfl) <| qc_idiv (qc_at qkX4_step 103 rfl) (by decide) <| qc_iload (qc_at qkX4_step 104 rfl) rfl <| qc_bipush (qc_at qkX4_step 105 rfl) <| qc_irem (qc_at qkX4_step 106 rfl) (by decide) <| hx) ?_
              obtain ⟨r14, I14, L14, D14, R14, e14, h⟩ := qc_bd_of h
              have c14 := (tX4_convert hn hR e14)
              refine qd_cVn (ci := 4) (a0 := 286) (qc_at qkX4_step 107 rfl) ql_4_162 qfX4_convert (qc_kf hn rfl) rfl c14 rfl rfl (Nat.le_of_ble_eq_true rfl) (qc_rml (by decide) (by decide)) ⟨Nat.zero_le _, Nat.zero_le _⟩ ?_
              obtain ⟨rfl, rfl, rfl, rfl, rfl⟩ := qc_some5 h
              exact ⟨qc_fm.rf _, qc_goto (qc_at qkX4_step 108 rfl) <| qc_iconst (qc_at qkX4_step 139 rfl) <| qc_iret (qc_at qkX4_step 140 rfl) rfl (Nat.le_refl _) (Nat.le_refl _) (qc_eq.rf _ _ _)⟩
          · replace h := qc_jp u9 h
            refine And.imp_right (fun hx => qc_aload_n (qc_at qkX4_step 84 rfl) rfl <| qc_gR (qc_at qkX4_step 85 rfl) hn rfl (qfr_286_2 hR) rfl <| qc_iload (qc_at qkX4_step 86 rfl) rfl <| qc_aload_n (qc_at qkX4_step 87 rfl) rfl <| qc_gR (qc_at qkX4_step 88 rfl) hn rfl (qfr_286_2 hR) rfl <| hx) ?_
            obtain ⟨r15, I15, L15, D15, R15, e15, h⟩ := qc_bd_of h
            have c15 := (tX6_take hn hR e15)
            refine qd_cVv (ci := 5) (a0 := 287) (qc_at qkX4_step 89 rfl) ql_4_75 qfX6_take (qc_kf hn rfl) rfl c15 rfl rfl (Nat.le_of_ble_eq_true rfl) (qc_rml (by decide) (by decide)) ⟨Nat.zero_le _, Nat.zero_le _⟩ ?_
            obtain ⟨r16, I16, L16, D16, R16, e16, h⟩ := qc_bd_of h
            have c16 := (tX4_holds hn (c15.1.1 hR) e16)
            refine qd_cSv (qc_at qkX4_step 90 rfl) ql_4_154 qfX4_holds c16 rfl rfl (Nat.le_of_ble_eq_true rfl) (qc_rml (by decide) (by decide)) ⟨Nat.zero_le _, Nat.zero_le _⟩ ?_
            refine qc_andB (qc_ifB_eq (qc_at qkX4_step 91 rfl)) (fun u17 => ?_) (fun u17 => ?_)
            · replace h := qc_jf u17 h
              exact And.imp_right (fun hx => qc_lconst (qc_at qkX4_step 94 rfl) <| qc_sub [] rfl hx) (tX4_step_b175 hn (c16.1.1 (c15.1.1 hR)) h)
            · replace h := qc_jt u17 h
              exact And.imp_right (fun hx => qc_lconst (qc_at qkX4_step 92 rfl) <| qc_goto (qc_at qkX4_step 93 rfl) <| qc_sub [] rfl hx) (tX4_step_b175 hn (c16.1.1 (c15.1.1 hR)) h)
        · replace h := qc_jp u8 h
          refine And.imp_right (fun hx => qc_aload_n (qc_at qkX4_step 77 rfl) rfl <| qc_iload (qc_at qkX4_step 78 rfl) rfl <| hx) ?_
          obtain ⟨r18, I18, L18, D18, R18, e18, h⟩ := qc_bd_of h
          have c18 := (tX4_compare hn hR e18)
          refine qd_cVn (ci := 4) (a0 := 286) (qc_at qkX4_step 79 rfl) ql_4_151 qfX4_compare (qc_kf hn rfl) rfl c18 rfl rfl (Nat.le_of_ble_eq_true rfl) (qc_rml (by decide) (by decide)) ⟨Nat.zero_le _, Nat.zero_le _⟩ ?_
          obtain ⟨rfl, rfl, rfl, rfl, rfl⟩ := qc_some5 h
          exact ⟨qc_fm.rf _, qc_goto (qc_at qkX4_step 80 rfl) <| qc_iconst (qc_at qkX4_step 139 rfl) <| qc_iret (qc_at qkX4_step 140 rfl) rfl (Nat.le_refl _) (Nat.le_refl _) (qc_eq.rf _ _ _)⟩
      · replace h := qc_jn u7 h
        refine And.imp_right (fun hx => qc_aload_n (qc_at qkX4_step 69 rfl) rfl <| qc_iload_n (qc_at qkX4_step 70 rfl) rfl <| qc_iload (qc_at qkX4_step 71 rfl) rfl <| hx) ?_
        obtain ⟨r19, I19, L19, D19, R19, e19, h⟩ := qc_bd_of h
        have c19 := (tX4_turn hn hR e19)
        refine qd_cVn (ci := 4) (a0 := 286) (qc_at qkX4_step 72 rfl) ql_4_148 qfX4_turn (qc_kf hn rfl) rfl c19 rfl rfl (Nat.le_of_ble_eq_true rfl) (qc_rml (by decide) (by decide)) ⟨Nat.zero_le _, Nat.zero_le _⟩ ?_
        obtain ⟨rfl, rfl, rfl, rfl, rfl⟩ := qc_some5 h
        exact ⟨qc_fm.rf _, qc_goto (qc_at qkX4_step 73 rfl) <| qc_iconst (qc_at qkX4_step 139 rfl) <| qc_iret (qc_at qkX4_step 140 rfl) rfl (Nat.le_refl _) (Nat.le_refl _) (qc_eq.rf _ _ _)⟩
    · replace h := qc_jn u6 h
      refine And.imp_right (fun hx => qc_aload_n (qc_at qkX4_step 61 rfl) rfl <| qc_iload_n (qc_at qkX4_step 62 rfl) rfl <| qc_iload (qc_at qkX4_step 63 rfl) rfl <| hx) ?_
      obtain ⟨r20, I20, L20, D20, R20, e20, h⟩ := qc_bd_of h
      have c20 := (tX4_joinBits hn hR e20)
      refine qd_cVn (ci := 4) (a0 := 286) (qc_at qkX4_step 64 rfl) ql_4_145 qfX4_joinBits (qc_kf hn rfl) rfl c20 rfl rfl (Nat.le_of_ble_eq_true rfl) (qc_rml (by decide) (by decide)) ⟨Nat.zero_le _, Nat.zero_le _⟩ ?_
      obtain ⟨rfl, rfl, rfl, rfl, rfl⟩ := qc_some5 h
      exact ⟨qc_fm.rf _, qc_goto (qc_at qkX4_step 65 rfl) <| qc_iconst (qc_at qkX4_step 139 rfl) <| qc_iret (qc_at qkX4_step 140 rfl) rfl (Nat.le_refl _) (Nat.le_refl _) (qc_eq.rf _ _ _)⟩
  · replace h := qc_jp u5 h
    refine And.imp_right (fun hx => qc_aload_n (qc_at qkX4_step 53 rfl) rfl <| qc_iload_n (qc_at qkX4_step 54 rfl) rfl <| qc_iload_n (qc_at qkX4_step 55 rfl) rfl <| hx) ?_
    obtain ⟨r21, I21, L21, D21, R21, e21, h⟩ := qc_bd_of h
    have c21 := (tX4_layGiven hn hR e21)
    refine qd_cVn (ci := 4) (a0 := 286) (qc_at qkX4_step 56 rfl) ql_4_141 qfX4_layGiven (qc_kf hn rfl) rfl c21 rfl rfl (Nat.le_of_ble_eq_true rfl) (qc_rml (by decide) (by decide)) ⟨Nat.zero_le _, Nat.zero_le _⟩ ?_
    obtain ⟨rfl, rfl, rfl, rfl, rfl⟩ := qc_some5 h
    exact ⟨qc_fm.rf _, qc_goto (qc_at qkX4_step 57 rfl) <| qc_iconst (qc_at qkX4_step 139 rfl) <| qc_iret (qc_at qkX4_step 140 rfl) rfl (Nat.le_refl _) (Nat.le_refl _) (qc_eq.rf _ _ _)⟩
def fX4_step_b51 (w : qcW) (I : qTI) (L : qTL) (D : qTD) (R : qTR) (x1 : Int32) (x2 : Int32) (x3 : Int32) (x4 : Int32) : qcO Int32 :=
  (if x3 < (1 : Int32) then (fX4_step_b85 w I L D R x1 x2 x3 x4) else (if (5 : Int32) < x3 then (fX4_step_b85 w I L D R x1 x2 x3 x4) else (if x4 < (3 : Int32) then (qc_bd (fX4_joinWholes w I L D R x3 x4) fun r25 I25 L25 D25 R25 => some (r25, I25, L25, D25, R25)) else (qc_bd (fX4_joinReals w I L D R x3 x4) fun r26 I26 L26 D26 R26 => some (r26, I26, L26, D26, R26)))))
set_option maxRecDepth 100000 in
set_option maxHeartbeats 4000000 in
theorem tX4_step_b51 {w : qcW} {I : qTI} {L : qTL} {D : qTD} {R : qTR} {x1 : Int32} {x2 : Int32} {x3 : Int32} {x4 : Int32} {r : Int32} {I' : qTI} {L' : qTL} {D' : qTD} {R' : qTR} (hn : qcNF ≤ w.1) (hR : qc_FR R) (h : fX4_step_b51 w I L D R x1 x2 x3 x4 = some (r, I', L', D', R')) : qc_fm qcSX (I, L, D, R) (I', L', D', R') ∧ qc_X (qc_rm (3) 0 0) qmX4_step (qc_QM 0 0 (qc_eq (some (.int r)) w (I', L', D', R'))) 0 0 w (51, [(0, .ref 286), (1, .int x1), (2, .int x2), (3, .int x3), (4, .int x4)], [], I, L, D, R) := by
  unfold fX4_step_b51 at h
  refine And.imp_right (fun hx => qc_iload_n (qc_at qkX4_step 32 rfl) rfl <| qc_iconst (qc_at qkX4_step 33 rfl) <| hx) ?_
  refine qc_andC (qc_icmp_lt (qc_at qkX4_step 34 rfl)) (fun u22 => ?_) (fun u22 => ?_)
  · replace h := qc_jp u22 h
    exact And.imp_right (fun hx => qc_sub [0, 1, 2, 3, 4] rfl hx) (tX4_step_b85 hn hR h)
  · replace h := qc_jn u22 h
    refine And.imp_right (fun hx => qc_iload_n (qc_at qkX4_step 35 rfl) rfl <| qc_iconst (qc_at qkX4_step 36 rfl) <| hx) ?_
    refine qc_andC (qc_icmp_gt (qc_at qkX4_step 37 rfl)) (fun u23 => ?_) (fun u23 => ?_)
    · replace h := qc_jp u23 h
      exact And.imp_right (fun hx => qc_sub [0, 1, 2, 3, 4] rfl hx) (tX4_step_b85 hn hR h)
    · replace h := qc_jn u23 h
      refine And.imp_right (fun hx => qc_iload (qc_at qkX4_step 38 rfl) rfl <| qc_iconst (qc_at qkX4_step 39 rfl) <| hx) ?_
      refine qc_andC (qc_icmp_lt (qc_at qkX4_step 40 rfl)) (fun u24 => ?_) (fun u24 => ?_)
      · replace h := qc_jp u24 h
        refine And.imp_right (fun hx => qc_aload_n (qc_at qkX4_step 46 rfl) rfl <| qc_iload_n (qc_at qkX4_step 47 rfl) rfl <| qc_iload (qc_at qkX4_step 48 rfl) rfl <| hx) ?_
        obtain ⟨r25, I25, L25, D25, R25, e25, h⟩ := qc_bd_of h
        have c25 := (tX4_joinWholes hn hR e25)
        refine qd_cVv (ci := 4) (a0 := 286) (qc_at qkX4_step 49 rfl) ql_4_138 qfX4_joinWholes (qc_kf hn rfl) rfl c25 rfl rfl (Nat.le_of_ble_eq_true rfl) (qc_rml (by decide) (by decide)) ⟨Nat.zero_le _, Nat.zero_le _⟩ ?_
        obtain ⟨rfl, rfl, rfl, rfl, rfl⟩ := qc_some5 h
        exact ⟨qc_fm.rf _, qc_iret (qc_at qkX4_step 50 rfl) rfl (Nat.le_refl _) (Nat.le_refl _) (qc_eq.rf _ _ _)⟩
      · replace h := qc_jn u24 h
        refine And.imp_right (fun hx => qc_aload_n (qc_at qkX4_step 41 rfl) rfl <| qc_iload_n (qc_at qkX4_step 42 rfl) rfl <| qc_iload (qc_at qkX4_step 43 rfl) rfl <| hx) ?_
        obtain ⟨r26, I26, L26, D26, R26, e26, h⟩ := qc_bd_of h
        have c26 := (tX4_joinReals hn hR e26)
        refine qd_cVv (ci := 4) (a0 := 286) (qc_at qkX4_step 44 rfl) ql_4_135 qfX4_joinReals (qc_kf hn rfl) rfl c26 rfl rfl (Nat.le_of_ble_eq_true rfl) (qc_rml (by decide) (by decide)) ⟨Nat.zero_le _, Nat.zero_le _⟩ ?_
        obtain ⟨rfl, rfl, rfl, rfl, rfl⟩ := qc_some5 h
        exact ⟨qc_fm.rf _, qc_goto (qc_at qkX4_step 45 rfl) <| qc_iret (qc_at qkX4_step 50 rfl) rfl (Nat.le_refl _) (Nat.le_refl _) (qc_eq.rf _ _ _)⟩
def fX4_step_b31 (w : qcW) (I : qTI) (L : qTL) (D : qTD) (R : qTR) (x1 : Int32) (x2 : Int32) (x3 : Int32) (x4 : Int32) : qcO Int32 :=
  (if x1 < (10 : Int32) then (fX4_step_b51 w I L D R x1 x2 x3 x4) else (if x3 = 0 then (qc_bd (fX4_fetch w I L D R (x1 - (10 : Int32)) x2) fun r29 I29 L29 D29 R29 => some (r29, I29, L29, D29, R29)) else (fX4_step_b51 w I L D R x1 x2 x3 x4)))
set_option maxRecDepth 100000 in
set_option maxHeartbeats 4000000 in
theorem tX4_step_b31 {w : qcW} {I : qTI} {L : qTL} {D : qTD} {R : qTR} {x1 : Int32} {x2 : Int32} {x3 : Int32} {x4 : Int32} {r : Int32} {I' : qTI} {L' : qTL} {D' : qTD} {R' : qTR} (hn : qcNF ≤ w.1) (hR : qc_FR R) (h : fX4_step_b31 w I L D R x1 x2 x3 x4 = some (r, I', L', D', R')) : qc_fm qcSX (I, L, D, R) (I', L', D', R') ∧ qc_X (qc_rm (3) 0 0) qmX4_step (qc_QM 0 0 (qc_eq (some (.int r)) w (I', L', D', R'))) 0 0 w (31, [(0, .ref 286), (1, .int x1), (2, .int x2), (3, .int x3), (4, .int x4)], [], I, L, D, R) := by
  unfold fX4_step_b31 at h
  refine And.imp_right (fun hx => qc_iload_n (qc_at qkX4_step 20 rfl) rfl <| qc_bipush (qc_at qkX4_step 21 rfl) <| hx) ?_
  refine qc_andC (qc_icmp_lt (qc_at qkX4_step 22 rfl)) (fun u27 => ?_) (fun u27 => ?_)
  · replace h := qc_jp u27 h
    exact And.imp_right (fun hx => qc_sub [0, 1, 2, 3, 4] rfl hx) (tX4_step_b51 hn hR h)
  · replace h := qc_jn u27 h
    refine And.imp_right (fun hx => qc_iload_n (qc_at qkX4_step 23 rfl) rfl <| hx) ?_
    refine qc_andN (qc_if_ne (qc_at qkX4_step 24 rfl)) (fun u28 => ?_) (fun u28 => ?_)
    · replace h := qc_jn u28 h
      exact And.imp_right (fun hx => qc_sub [0, 1, 2, 3, 4] rfl hx) (tX4_step_b51 hn hR h)
    · replace h := qc_jp u28 h
      refine And.imp_right (fun hx => qc_aload_n (qc_at qkX4_step 25 rfl) rfl <| qc_iload_n (qc_at qkX4_step 26 rfl) rfl <| qc_bipush (qc_at qkX4_step 27 rfl) <| qc_isub (qc_at qkX4_step 28 rfl) <| qc_iload_n (qc_at qkX4_step 29 rfl) rfl <| hx) ?_
      obtain ⟨r29, I29, L29, D29, R29, e29, h⟩ := qc_bd_of h
      have c29 := (tX4_fetch hn hR e29)
      refine qd_cVv (ci := 4) (a0 := 286) (qc_at qkX4_step 30 rfl) ql_4_132 qfX4_fetch (qc_kf hn rfl) rfl c29 rfl rfl (Nat.le_of_ble_eq_true rfl) (qc_rml (by decide) (by decide)) ⟨Nat.zero_le _, Nat.zero_le _⟩ ?_
      obtain ⟨rfl, rfl, rfl, rfl, rfl⟩ := qc_some5 h
      exact ⟨qc_fm.rf _, qc_iret (qc_at qkX4_step 31 rfl) rfl (Nat.le_refl _) (Nat.le_refl _) (qc_eq.rf _ _ _)⟩
def fX4_step (w : qcW) (I : qTI) (L : qTL) (D : qTD) (R : qTR) (x1 : Int32) (x2 : Int32) : qcO Int32 :=
  (if x1 < (20 : Int32) then (fX4_step_b31 w I L D R x1 x2 (x1 / (100 : Int32)) (x1 - x1 / (100 : Int32) * (100 : Int32))) else (if (x1 / (100 : Int32)) = 0 then (qc_bd (fX4_store w I L D R (x1 - (20 : Int32)) x2) fun r32 I32 L32 D32 R32 => some (r32, I32, L32, D32, R32)) else (fX4_step_b31 w I L D R x1 x2 (x1 / (100 : Int32)) (x1 - x1 / (100 : Int32) * (100 : Int32)))))
set_option maxRecDepth 100000 in
set_option maxHeartbeats 4000000 in
theorem tX4_step {w : qcW} {I : qTI} {L : qTL} {D : qTD} {R : qTR} {x1 : Int32} {x2 : Int32} {r : Int32} {I' : qTI} {L' : qTL} {D' : qTD} {R' : qTR} (hn : qcNF ≤ w.1) (hR : qc_FR R) (h : fX4_step w I L D R x1 x2 = some (r, I', L', D', R')) : qc_fm qcSX (I, L, D, R) (I', L', D', R') ∧ qc_V (3) 0 0 qmX4_step [.ref 286, .int x1, .int x2] w (I, L, D, R) (qc_eq (some (.int r)) w (I', L', D', R')) := by
  unfold fX4_step at h
  refine And.imp_right (fun hx => qc_V.of rfl rfl (Nat.le_of_ble_eq_true rfl) (lv := [(0, .ref 286), (1, .int x1), (2, .int x2)]) rfl hx) ?_
  refine And.imp_right (fun hx => qc_iload_n (qc_at qkX4_step 0 rfl) rfl <| qc_bipush (qc_at qkX4_step 1 rfl) <| qc_idiv (qc_at qkX4_step 2 rfl) (by decide) <| qc_istore_n (lv' := [(3, _), (0, _), (1, _), (2, _)]) (qc_at qkX4_step 3 rfl) rfl rfl <| qc_iload_n (qc_at qkX4_step 4 rfl) rfl <| qc_bipush (qc_at qkX4_step 5 rfl) <| qc_irem (qc_at qkX4_step 6 rfl) (by decide) <| qc_istore (lv' := [(4, _), (3, _), (0, _), (1, _), (2, _)]) (qc_at qkX4_step 7 rfl) rfl rfl <| qc_iload_n (qc_at qkX4_step 8 rfl) rfl <| qc_bipush (qc_at qkX4_step 9 rfl) <| hx) ?_
  refine qc_andC (qc_icmp_lt (qc_at qkX4_step 10 rfl)) (fun u30 => ?_) (fun u30 => ?_)
  · replace h := qc_jp u30 h
    exact And.imp_right (fun hx => qc_sub [2, 3, 4, 1, 0] rfl hx) (tX4_step_b31 hn hR h)
  · replace h := qc_jn u30 h
    refine And.imp_right (fun hx => qc_iload_n (qc_at qkX4_step 11 rfl) rfl <| hx) ?_
    refine qc_andN (qc_if_ne (qc_at qkX4_step 12 rfl)) (fun u31 => ?_) (fun u31 => ?_)
    · replace h := qc_jn u31 h
      exact And.imp_right (fun hx => qc_sub [2, 3, 4, 1, 0] rfl hx) (tX4_step_b31 hn hR h)
    · replace h := qc_jp u31 h
      refine And.imp_right (fun hx => qc_aload_n (qc_at qkX4_step 13 rfl) rfl <| qc_iload_n (qc_at qkX4_step 14 rfl) rfl <| qc_bipush (qc_at qkX4_step 15 rfl) <| qc_isub (qc_at qkX4_step 16 rfl) <| qc_iload_n (qc_at qkX4_step 17 rfl) rfl <| hx) ?_
      obtain ⟨r32, I32, L32, D32, R32, e32, h⟩ := qc_bd_of h
      have c32 := (tX4_store hn hR e32)
      refine qd_cVv (ci := 4) (a0 := 286) (qc_at qkX4_step 18 rfl) ql_4_129 qfX4_store (qc_kf hn rfl) rfl c32 rfl rfl (Nat.le_of_ble_eq_true rfl) (qc_rml (by decide) (by decide)) ⟨Nat.zero_le _, Nat.zero_le _⟩ ?_
      obtain ⟨rfl, rfl, rfl, rfl, rfl⟩ := qc_some5 h
      exact ⟨qc_fm.rf _, qc_iret (qc_at qkX4_step 19 rfl) rfl (Nat.le_refl _) (Nat.le_refl _) (qc_eq.rf _ _ _)⟩
def fX4_perform_b23 (w : qcW) (k23 : qTI × qTL × qTD × qTR × Int32 × Int32 × Int32 → qcO Bool) (I : qTI) (L : qTL) (D : qTD) (R : qTR) (x1 : Int32) (x2 : Int32) (x3 : Int32) : qcO Bool :=
  (if x2 ≤ x3 then (some (true, I, L, D, R)) else (if x2 ≤ (I 286 5) then (some (true, I, L, D, R)) else (qc_gd (qc_io w (R 286 3) 6) <| qc_bd (fX7_op w (qc_u I 286 5 ((I 286 5) + (1 : Int32))) L D R (R 286 3) x1 (I 286 5)) fun r4 I4 L4 D4 R4 => qc_gd (qc_io w (R4 286 3) 6) <| qc_bd (fX7_number w I4 L4 D4 R4 (R4 286 3) x1 (I 286 5)) fun r6 I6 L6 D6 R6 => qc_bd (fX4_step w I6 L6 D6 R6 r4 r6) fun r7 I7 L7 D7 R7 => if r7 = 0 then (k23 ((qc_u I7 280 4 ((I7 280 4) + (1 : Int32))), L7, D7, R7, x1, x2, (x3 + (1)))) else (qc_bd (fX3_fail w I7 L7 D7 R7 r7 x1 (I 286 5)) fun r9 I9 L9 D9 R9 => some (false, I9, L9, D9, R9)))))
set_option maxRecDepth 100000 in
set_option maxHeartbeats 4000000 in
theorem tX4_perform_b23 {w : qcW} {I : qTI} {L : qTL} {D : qTD} {R : qTR} {k23 : qTI × qTL × qTD × qTR × Int32 × Int32 × Int32 → qcO Bool} {x1 : Int32} {x2 : Int32} {x3 : Int32} {r : Bool} {I' : qTI} {L' : qTL} {D' : qTD} {R' : qTR} (hn : qcNF ≤ w.1) (hR : qc_FR R) (hk23 : ∀ {I : qTI} {L : qTL} {D : qTD} {R : qTR} {x1 : Int32} {x2 : Int32} {x3 : Int32} {r : Bool} {I' : qTI} {L' : qTL} {D' : qTD} {R' : qTR}, qc_FR R → k23 (I, L, D, R, x1, x2, x3) = some (r, I', L', D', R') → qc_fm qcSX (I, L, D, R) (I', L', D', R') ∧ qc_X (qc_rm (4) 0 0) qmX4_perform (qc_QM 0 0 (qc_eq (some (.int (qc_b r))) w (I', L', D', R'))) 0 0 w (23, [(0, .ref 286), (1, .int x1), (2, .int x2), (3, .int x3)], [], I, L, D, R)) (h : fX4_perform_b23 w k23 I L D R x1 x2 x3 = some (r, I', L', D', R')) : qc_fm qcSX (I, L, D, R) (I', L', D', R') ∧ qc_X (qc_rm (4) 0 0) qmX4_perform (qc_QM 0 0 (qc_eq (some (.int (qc_b r))) w (I', L', D', R'))) 0 0 w (23, [(0, .ref 286), (1, .int x1), (2, .int x2), (3, .int x3)], [], I, L, D, R) := by
  unfold fX4_perform_b23 at h
  refine And.imp_right (fun hx => qc_iload_n (qc_at qkX4_perform 13 rfl) rfl <| qc_iload_n (qc_at qkX4_perform 14 rfl) rfl <| hx) ?_
  refine qc_andC (qc_icmp_ge (qc_at qkX4_perform 15 rfl)) (fun u1 => ?_) (fun u1 => ?_)
  · replace h := qc_jp u1 h
    obtain ⟨rfl, rfl, rfl, rfl, rfl⟩ := qc_some5 h
    exact ⟨qc_fm.rf _, qc_iconst (qc_at qkX4_perform 61 rfl) <| qc_zret (qc_at qkX4_perform 62 rfl) rfl (Or.inr rfl) (Nat.le_refl _) (Nat.le_refl _) ⟨rfl, rfl, rfl⟩⟩
  · replace h := qc_jn u1 h
    refine And.imp_right (fun hx => qc_aload_n (qc_at qkX4_perform 16 rfl) rfl <| qc_gI (qc_at qkX4_perform 17 rfl) hn rfl <| qc_iload_n (qc_at qkX4_perform 18 rfl) rfl <| hx) ?_
    refine qc_andC (qc_icmp_ge (qc_at qkX4_perform 19 rfl)) (fun u2 => ?_) (fun u2 => ?_)
    · replace h := qc_jp u2 h
      obtain ⟨rfl, rfl, rfl, rfl, rfl⟩ := qc_some5 h
      exact ⟨qc_fm.rf _, qc_iconst (qc_at qkX4_perform 61 rfl) <| qc_zret (qc_at qkX4_perform 62 rfl) rfl (Or.inr rfl) (Nat.le_refl _) (Nat.le_refl _) ⟨rfl, rfl, rfl⟩⟩
    · replace h := qc_jn u2 h
      refine And.imp_right (fun hx => qc_aload_n (qc_at qkX4_perform 20 rfl) rfl <| qc_gI (qc_at qkX4_perform 21 rfl) hn rfl <| qc_istore (lv' := [(4, _), (0, _), (1, _), (2, _), (3, _)]) (qc_at qkX4_perform 22 rfl) rfl rfl <| qc_aload_n (qc_at qkX4_perform 23 rfl) rfl <| qc_dup (qc_at qkX4_perform 24 rfl) rfl <| qc_gI (qc_at qkX4_perform 25 rfl) hn rfl <| qc_iconst (qc_at qkX4_perform 26 rfl) <| qc_iadd (qc_at qkX4_perform 27 rfl) <| hx) (qd_pI (qc_at qkX4_perform 28 rfl) hn rfl rfl ?_)
      refine And.imp_right (fun hx => qc_aload_n (qc_at qkX4_perform 29 rfl) rfl <| qc_aload_n (qc_at qkX4_perform 30 rfl) rfl <| hx) ?_
      obtain ⟨g3, h⟩ := qc_gd_of h
      replace g3 := qc_io_of g3
      refine And.imp_right (fun hx => qc_gR (qc_at qkX4_perform 31 rfl) hn rfl rfl (qc_ki255 g3) <| qc_iload_n (qc_at qkX4_perform 32 rfl) rfl <| qc_iload (qc_at qkX4_perform 33 rfl) rfl <| hx) ?_
      obtain ⟨r4, I4, L4, D4, R4, e4, h⟩ := qc_bd_of h
      have c4 := (tX7_op hn hR e4)
      refine qd_cVv (ci := 6) (qc_at qkX4_perform 34 rfl) ql_4_116 qfX7_op g3 rfl c4 rfl rfl (Nat.le_of_ble_eq_true rfl) (qc_rml (by decide) (by decide)) ⟨Nat.zero_le _, Nat.zero_le _⟩ ?_
      refine And.imp_right (fun hx => qc_aload_n (qc_at qkX4_perform 35 rfl) rfl <| hx) ?_
      obtain ⟨g5, h⟩ := qc_gd_of h
      replace g5 := qc_io_of g5
      refine And.imp_right (fun hx => qc_gR (qc_at qkX4_perform 36 rfl) hn rfl rfl (qc_ki255 g5) <| qc_iload_n (qc_at qkX4_perform 37 rfl) rfl <| qc_iload (qc_at qkX4_perform 38 rfl) rfl <| hx) ?_
      obtain ⟨r6, I6, L6, D6, R6, e6, h⟩ := qc_bd_of h
      have c6 := (tX7_number hn (c4.1.1 hR) e6)
      refine qd_cVv (ci := 6) (qc_at qkX4_perform 39 rfl) ql_4_120 qfX7_number g5 rfl c6 rfl rfl (Nat.le_of_ble_eq_true rfl) (qc_rml (by decide) (by decide)) ⟨Nat.zero_le _, Nat.zero_le _⟩ ?_
      obtain ⟨r7, I7, L7, D7, R7, e7, h⟩ := qc_bd_of h
      have c7 := (tX4_step hn (c6.1.1 (c4.1.1 hR)) e7)
      refine qd_cVv (ci := 4) (a0 := 286) (qc_at qkX4_perform 40 rfl) ql_4_123 qfX4_step (qc_kf hn rfl) rfl c7 rfl rfl (Nat.le_of_ble_eq_true rfl) (qc_rml (by decide) (by decide)) ⟨Nat.zero_le _, Nat.zero_le _⟩ ?_
      refine And.imp_right (fun hx => qc_istore (lv' := [(5, _), (4, _), (0, _), (1, _), (2, _), (3, _)]) (qc_at qkX4_perform 41 rfl) rfl rfl <| qc_iload (qc_at qkX4_perform 42 rfl) rfl <| hx) ?_
      refine qc_andC (qc_if_eq (qc_at qkX4_perform 43 rfl)) (fun u8 => ?_) (fun u8 => ?_)
      · replace h := qc_jp u8 h
        refine And.imp_right (fun hx => qc_aload_n (qc_at qkX4_perform 52 rfl) rfl <| qc_gR (qc_at qkX4_perform 53 rfl) hn rfl (qfr_286_1 (c7.1.1 (c6.1.1 (c4.1.1 hR)))) rfl <| qc_dup (qc_at qkX4_perform 54 rfl) rfl <| qc_gI (qc_at qkX4_perform 55 rfl) hn rfl <| qc_iconst (qc_at qkX4_perform 56 rfl) <| qc_iadd (qc_at qkX4_perform 57 rfl) <| hx) (qd_pI (qc_at qkX4_perform 58 rfl) hn rfl rfl ?_)
        exact And.imp_right (fun hx => qc_iinc (lv' := [(3, _), (5, _), (4, _), (0, _), (1, _), (2, _)]) (qc_at qkX4_perform 59 rfl) rfl rfl rfl <| qc_goto (qc_at qkX4_perform 60 rfl) <| qc_sub [3, 4, 5, 0] rfl hx) (hk23 (c7.1.1 (c6.1.1 (c4.1.1 hR))) h)
      · replace h := qc_jn u8 h
        refine And.imp_right (fun hx => qc_aload_n (qc_at qkX4_perform 44 rfl) rfl <| qc_gR (qc_at qkX4_perform 45 rfl) hn rfl (qfr_286_1 (c7.1.1 (c6.1.1 (c4.1.1 hR)))) rfl <| qc_iload (qc_at qkX4_perform 46 rfl) rfl <| qc_iload_n (qc_at qkX4_perform 47 rfl) rfl <| qc_iload (qc_at qkX4_perform 48 rfl) rfl <| hx) ?_
        obtain ⟨r9, I9, L9, D9, R9, e9, h⟩ := qc_bd_of h
        have c9 := (tX3_fail hn (c7.1.1 (c6.1.1 (c4.1.1 hR))) e9)
        refine qd_cVn (ci := 3) (a0 := 280) (qc_at qkX4_perform 49 rfl) ql_4_106 qfX3_fail (qc_kf hn rfl) rfl c9 rfl rfl (Nat.le_of_ble_eq_true rfl) (qc_rml (by decide) (by decide)) ⟨Nat.zero_le _, Nat.zero_le _⟩ ?_
        obtain ⟨rfl, rfl, rfl, rfl, rfl⟩ := qc_some5 h
        exact ⟨qc_fm.rf _, qc_iconst (qc_at qkX4_perform 50 rfl) <| qc_zret (qc_at qkX4_perform 51 rfl) rfl (Or.inl rfl) (Nat.le_refl _) (Nat.le_refl _) ⟨rfl, rfl, rfl⟩⟩
def fX4_perform_l23 (w : qcW) : Nat → qTI × qTL × qTD × qTR × Int32 × Int32 × Int32 → qcO Bool := qc_lp (fun k q => match q with | (I, L, D, R, x1, x2, x3) => fX4_perform_b23 w k I L D R x1 x2 x3)
set_option maxRecDepth 100000 in
set_option maxHeartbeats 4000000 in
theorem tX4_perform_l23 {w : qcW} (hn : qcNF ≤ w.1) : ∀ (n : Nat) {r : Bool} {I' : qTI} {L' : qTL} {D' : qTD} {R' : qTR} {I : qTI} {L : qTL} {D : qTD} {R : qTR} {x1 : Int32} {x2 : Int32} {x3 : Int32} (hR : qc_FR R) (h : fX4_perform_l23 w n (I, L, D, R, x1, x2, x3) = some (r, I', L', D', R')), qc_fm qcSX (I, L, D, R) (I', L', D', R') ∧ qc_X (qc_rm (4) 0 0) qmX4_perform (qc_QM 0 0 (qc_eq (some (.int (qc_b r))) w (I', L', D', R'))) 0 0 w (23, [(0, .ref 286), (1, .int x1), (2, .int x2), (3, .int x3)], [], I, L, D, R) := by
  intro n
  induction n with
  | zero => intro _ _ _ _ _ _ _ _ _ _ _ _ _ h; cases h
  | succ n ih => intro _ _ _ _ _ _ _ _ _ _ _ _ hR h; exact tX4_perform_b23 hn hR (k23 := fX4_perform_l23 w n) (fun hR h => ih hR h) h
def fX4_perform (w : qcW) (I : qTI) (L : qTL) (D : qTD) (R : qTR) (x1 : Int32) : qcO Bool :=
  (qc_bd (fX6_empty w I L D R) fun r10 I10 L10 D10 R10 => qc_gd (qc_io w (R10 286 3) 6) <| qc_bd (fX7_size w (qc_u I10 286 5 (0 : Int32)) L10 D10 R10 (R10 286 3) x1) fun r12 I12 L12 D12 R12 => fX4_perform_l23 w qcF (I12, L12, D12, R12, x1, r12, (0 : Int32)))
set_option maxRecDepth 100000 in
set_option maxHeartbeats 4000000 in
theorem tX4_perform {w : qcW} {I : qTI} {L : qTL} {D : qTD} {R : qTR} {x1 : Int32} {r : Bool} {I' : qTI} {L' : qTL} {D' : qTD} {R' : qTR} (hn : qcNF ≤ w.1) (hR : qc_FR R) (h : fX4_perform w I L D R x1 = some (r, I', L', D', R')) : qc_fm qcSX (I, L, D, R) (I', L', D', R') ∧ qc_V (4) 0 0 qmX4_perform [.ref 286, .int x1] w (I, L, D, R) (qc_eq (some (.int (qc_b r))) w (I', L', D', R')) := by
  unfold fX4_perform at h
  refine And.imp_right (fun hx => qc_V.of rfl rfl (Nat.le_of_ble_eq_true rfl) (lv := [(0, .ref 286), (1, .int x1)]) rfl hx) ?_
  refine And.imp_right (fun hx => qc_aload_n (qc_at qkX4_perform 0 rfl) rfl <| qc_gR (qc_at qkX4_perform 1 rfl) hn rfl (qfr_286_2 hR) rfl <| hx) ?_
  obtain ⟨r10, I10, L10, D10, R10, e10, h⟩ := qc_bd_of h
  have c10 := (tX6_empty hn hR e10)
  refine qd_cVn (ci := 5) (a0 := 287) (qc_at qkX4_perform 2 rfl) ql_4_110 qfX6_empty (qc_kf hn rfl) rfl c10 rfl rfl (Nat.le_of_ble_eq_true rfl) (qc_rml (by decide) (by decide)) ⟨Nat.zero_le _, Nat.zero_le _⟩ ?_
  refine And.imp_right (fun hx => qc_aload_n (qc_at qkX4_perform 3 rfl) rfl <| qc_iconst (qc_at qkX4_perform 4 rfl) <| hx) (qd_pI (qc_at qkX4_perform 5 rfl) hn rfl rfl ?_)
  refine And.imp_right (fun hx => qc_aload_n (qc_at qkX4_perform 6 rfl) rfl <| hx) ?_
  obtain ⟨g11, h⟩ := qc_gd_of h
  replace g11 := qc_io_of g11
  refine And.imp_right (fun hx => qc_gR (qc_at qkX4_perform 7 rfl) hn rfl rfl (qc_ki255 g11) <| qc_iload_n (qc_at qkX4_perform 8 rfl) rfl <| hx) ?_
  obtain ⟨r12, I12, L12, D12, R12, e12, h⟩ := qc_bd_of h
  have c12 := (tX7_size hn (c10.1.1 hR) e12)
  refine qd_cVv (ci := 6) (qc_at qkX4_perform 9 rfl) ql_4_67 qfX7_size g11 rfl c12 rfl rfl (Nat.le_of_ble_eq_true rfl) (qc_rml (by decide) (by decide)) ⟨Nat.zero_le _, Nat.zero_le _⟩ ?_
  exact And.imp_right (fun hx => qc_istore_n (lv' := [(2, _), (0, _), (1, _)]) (qc_at qkX4_perform 10 rfl) rfl rfl <| qc_iconst (qc_at qkX4_perform 11 rfl) <| qc_istore_n (lv' := [(3, _), (2, _), (0, _), (1, _)]) (qc_at qkX4_perform 12 rfl) rfl rfl <| qc_sub [2, 3, 1, 0] rfl hx) (tX4_perform_l23 hn qcF (c12.1.1 (c10.1.1 hR)) h)
def fX4_visit_b175 (w : qcW) (I : qTI) (L : qTL) (D : qTD) (R : qTR) (x6 : Int32) : qcO Bool :=
  (if x6 = 0 then (some (true, I, L, D, R)) else (some (false, I, L, D, R)))
set_option maxRecDepth 100000 in
set_option maxHeartbeats 4000000 in
theorem tX4_visit_b175 {w : qcW} {I : qTI} {L : qTL} {D : qTD} {R : qTR} {x6 : Int32} {r : Bool} {I' : qTI} {L' : qTL} {D' : qTD} {R' : qTR} (hn : qcNF ≤ w.1) (hR : qc_FR R) (h : fX4_visit_b175 w I L D R x6 = some (r, I', L', D', R')) : qc_fm qcSX (I, L, D, R) (I', L', D', R') ∧ qc_X (qc_rm (5) 0 0) qmX4_visit (qc_QM 0 0 (qc_eq (some (.int (qc_b r))) w (I', L', D', R'))) 0 0 w (175, [(6, .int x6)], [], I, L, D, R) := by
  unfold fX4_visit_b175 at h
  refine And.imp_right (fun hx => qc_iload (qc_at qkX4_visit 89 rfl) rfl <| hx) ?_
  refine qc_andN (qc_if_ne (qc_at qkX4_visit 90 rfl)) (fun u1 => ?_) (fun u1 => ?_)
  · replace h := qc_jn u1 h
    obtain ⟨rfl, rfl, rfl, rfl, rfl⟩ := qc_some5 h
    exact ⟨qc_fm.rf _, qc_iconst (qc_at qkX4_visit 93 rfl) <| qc_zret (qc_at qkX4_visit 94 rfl) rfl (Or.inl rfl) (Nat.le_refl _) (Nat.le_refl _) ⟨rfl, rfl, rfl⟩⟩
  · replace h := qc_jp u1 h
    obtain ⟨rfl, rfl, rfl, rfl, rfl⟩ := qc_some5 h
    exact ⟨qc_fm.rf _, qc_iconst (qc_at qkX4_visit 91 rfl) <| qc_goto (qc_at qkX4_visit 92 rfl) <| qc_zret (qc_at qkX4_visit 94 rfl) rfl (Or.inr rfl) (Nat.le_refl _) (Nat.le_refl _) ⟨rfl, rfl, rfl⟩⟩
def fX4_visit_b93 (w : qcW) (I : qTI) (L : qTL) (D : qTD) (R : qTR) (x2 : Int64) (s0 : UInt64) : qcO Bool :=
  (qc_bd (fX4_perform w I L D R (2 : Int32)) fun r2 I2 L2 D2 R2 => if r2 = true then (qc_gd (qc_io w (R2 286 3) 6) <| qc_gd (qc_l62 (R2 (R2 286 3) 4)) <| if (R2 (R2 286 3) 4) = 9 then (qc_bd (fX6_take w I2 L2 D2 R2) fun r7 I7 L7 D7 R7 => qc_bd (fX3_fold w I7 L7 D7 R7 r7 x2 s0) fun r8 I8 L8 D8 R8 => if r8 = 0 then (fX4_visit_b175 w I8 L8 D8 R8 r8) else (qc_bd (fX3_fail w I8 L8 D8 R8 r8 (3 : Int32) (0 : Int32)) fun r10 I10 L10 D10 R10 => fX4_visit_b175 w I10 L10 D10 R10 r8)) else (qc_gd (qc_io w (R2 286 3) 6) <| qc_bd (fX3_insert w I2 L2 D2 R2 (I2 286 4) s0 (I2 (R2 286 3) 8)) fun r12 I12 L12 D12 R12 => some (true, I12, L12, D12, R12))) else (some (false, I2, L2, D2, R2)))
set_option maxRecDepth 100000 in
set_option maxHeartbeats 4000000 in
theorem tX4_visit_b93 {w : qcW} {I : qTI} {L : qTL} {D : qTD} {R : qTR} {x2 : Int64} {s0 : UInt64} {r : Bool} {I' : qTI} {L' : qTL} {D' : qTD} {R' : qTR} (hn : qcNF ≤ w.1) (hR : qc_FR R) (h : fX4_visit_b93 w I L D R x2 s0 = some (r, I', L', D', R')) : qc_fm qcSX (I, L, D, R) (I', L', D', R') ∧ qc_X (qc_rm (5) 0 0) qmX4_visit (qc_QM 0 0 (qc_eq (some (.int (qc_b r))) w (I', L', D', R'))) 0 0 w (93, [(0, .ref 286), (2, .long x2)], [.double s0], I, L, D, R) := by
  unfold fX4_visit_b93 at h
  refine And.imp_right (fun hx => qc_dstore (lv' := [(4, _), (0, _), (2, _)]) (qc_at qkX4_visit 49 rfl) rfl rfl <| qc_aload_n (qc_at qkX4_visit 50 rfl) rfl <| qc_iconst (qc_at qkX4_visit 51 rfl) <| hx) ?_
  obtain ⟨r2, I2, L2, D2, R2, e2, h⟩ := qc_bd_of h
  have c2 := (tX4_perform hn hR e2)
  refine qd_cVv (ci := 4) (a0 := 286) (qc_at qkX4_visit 52 rfl) ql_4_71 qfX4_perform (qc_kf hn rfl) rfl c2 rfl rfl (Nat.le_of_ble_eq_true rfl) (qc_rml (by decide) (by decide)) ⟨Nat.zero_le _, Nat.zero_le _⟩ ?_
  refine qc_andBn (qc_ifB_ne (qc_at qkX4_visit 53 rfl)) (fun u3 => ?_) (fun u3 => ?_)
  · replace h := qc_jt u3 h
    refine And.imp_right (fun hx => qc_aload_n (qc_at qkX4_visit 56 rfl) rfl <| hx) ?_
    obtain ⟨g4, h⟩ := qc_gd_of h
    replace g4 := qc_io_of g4
    refine And.imp_right (fun hx => qc_gR (qc_at qkX4_visit 57 rfl) hn rfl rfl (qc_ki255 g4) <| hx) ?_
    obtain ⟨g5, h⟩ := qc_gd_of h
    replace g5 := qc_l62_of g5
    refine And.imp_right (fun hx => qc_gRd (qc_at qkX4_visit 58 rfl) g4 rfl rfl (qc_ne62 g5) <| qc_gS (qc_at qkX4_visit 59 rfl) rfl <| hx) ?_
    refine qc_andC (qc_acmp_eq (qc_at qkX4_visit 60 rfl) (Or.inl g5) (Or.inl (by decide))) (fun u6 => ?_) (fun u6 => ?_)
    · replace h := qc_jp u6 h
      refine And.imp_right (fun hx => qc_aload_n (qc_at qkX4_visit 72 rfl) rfl <| qc_gR (qc_at qkX4_visit 73 rfl) hn rfl (qfr_286_1 (c2.1.1 hR)) rfl <| qc_aload_n (qc_at qkX4_visit 74 rfl) rfl <| qc_gR (qc_at qkX4_visit 75 rfl) hn rfl (qfr_286_2 (c2.1.1 hR)) rfl <| hx) ?_
      obtain ⟨r7, I7, L7, D7, R7, e7, h⟩ := qc_bd_of h
      have c7 := (tX6_take hn (c2.1.1 hR) e7)
      refine qd_cVv (ci := 5) (a0 := 287) (qc_at qkX4_visit 76 rfl) ql_4_75 qfX6_take (qc_kf hn rfl) rfl c7 rfl rfl (Nat.le_of_ble_eq_true rfl) (qc_rml (by decide) (by decide)) ⟨Nat.zero_le _, Nat.zero_le _⟩ ?_
      refine And.imp_right (fun hx => qc_lload_n (qc_at qkX4_visit 77 rfl) rfl <| qc_dload (qc_at qkX4_visit 78 rfl) rfl <| hx) ?_
      obtain ⟨r8, I8, L8, D8, R8, e8, h⟩ := qc_bd_of h
      have c8 := (tX3_fold hn (c7.1.1 (c2.1.1 hR)) e8)
      refine qd_cVv (ci := 3) (a0 := 280) (qc_at qkX4_visit 79 rfl) ql_4_102 qfX3_fold (qc_kf hn rfl) rfl c8 rfl rfl (Nat.le_of_ble_eq_true rfl) (qc_rml (by decide) (by decide)) ⟨Nat.zero_le _, Nat.zero_le _⟩ ?_
      refine And.imp_right (fun hx => qc_istore (lv' := [(6, _), (4, _), (0, _), (2, _)]) (qc_at qkX4_visit 80 rfl) rfl rfl <| qc_iload (qc_at qkX4_visit 81 rfl) rfl <| hx) ?_
      refine qc_andC (qc_if_eq (qc_at qkX4_visit 82 rfl)) (fun u9 => ?_) (fun u9 => ?_)
      · replace h := qc_jp u9 h
        exact And.imp_right (fun hx => qc_sub [0] rfl hx) (tX4_visit_b175 hn (c8.1.1 (c7.1.1 (c2.1.1 hR))) h)
      · replace h := qc_jn u9 h
        refine And.imp_right (fun hx => qc_aload_n (qc_at qkX4_visit 83 rfl) rfl <| qc_gR (qc_at qkX4_visit 84 rfl) hn rfl (qfr_286_1 (c8.1.1 (c7.1.1 (c2.1.1 hR)))) rfl <| qc_iload (qc_at qkX4_visit 85 rfl) rfl <| qc_iconst (qc_at qkX4_visit 86 rfl) <| qc_iconst (qc_at qkX4_visit 87 rfl) <| hx) ?_
        obtain ⟨r10, I10, L10, D10, R10, e10, h⟩ := qc_bd_of h
        have c10 := (tX3_fail hn (c8.1.1 (c7.1.1 (c2.1.1 hR))) e10)
        refine qd_cVn (ci := 3) (a0 := 280) (qc_at qkX4_visit 88 rfl) ql_4_106 qfX3_fail (qc_kf hn rfl) rfl c10 rfl rfl (Nat.le_of_ble_eq_true rfl) (qc_rml (by decide) (by decide)) ⟨Nat.zero_le _, Nat.zero_le _⟩ ?_
        exact And.imp_right (fun hx => qc_sub [0] rfl hx) (tX4_visit_b175 hn (c10.1.1 (c8.1.1 (c7.1.1 (c2.1.1 hR)))) h)
    · replace h := qc_jn u6 h
      refine And.imp_right (fun hx => qc_aload_n (qc_at qkX4_visit 61 rfl) rfl <| qc_gR (qc_at qkX4_visit 62 rfl) hn rfl (qfr_286_1 (c2.1.1 hR)) rfl <| qc_aload_n (qc_at qkX4_visit 63 rfl) rfl <| qc_gI (qc_at qkX4_visit 64 rfl) hn rfl <| qc_dload (qc_at qkX4_visit 65 rfl) rfl <| qc_aload_n (qc_at qkX4_visit 66 rfl) rfl <| hx) ?_
      obtain ⟨g11, h⟩ := qc_gd_of h
      replace g11 := qc_io_of g11
      refine And.imp_right (fun hx => qc_gR (qc_at qkX4_visit 67 rfl) hn rfl rfl (qc_ki255 g11) <| qc_gId (qc_at qkX4_visit 68 rfl) g11 rfl <| hx) ?_
      obtain ⟨r12, I12, L12, D12, R12, e12, h⟩ := qc_bd_of h
      have c12 := (tX3_insert hn (c2.1.1 hR) e12)
      refine qd_cVn (ci := 3) (a0 := 280) (qc_at qkX4_visit 69 rfl) ql_4_98 qfX3_insert (qc_kf hn rfl) rfl c12 rfl rfl (Nat.le_of_ble_eq_true rfl) (qc_rml (by decide) (by decide)) ⟨Nat.zero_le _, Nat.zero_le _⟩ ?_
      obtain ⟨rfl, rfl, rfl, rfl, rfl⟩ := qc_some5 h
      exact ⟨qc_fm.rf _, qc_iconst (qc_at qkX4_visit 70 rfl) <| qc_zret (qc_at qkX4_visit 71 rfl) rfl (Or.inr rfl) (Nat.le_refl _) (Nat.le_refl _) ⟨rfl, rfl, rfl⟩⟩
  · replace h := qc_jf u3 h
    obtain ⟨rfl, rfl, rfl, rfl, rfl⟩ := qc_some5 h
    exact ⟨qc_fm.rf _, qc_iconst (qc_at qkX4_visit 54 rfl) <| qc_zret (qc_at qkX4_visit 55 rfl) rfl (Or.inl rfl) (Nat.le_refl _) (Nat.le_refl _) ⟨rfl, rfl, rfl⟩⟩
def fX4_visit_b77 (w : qcW) (I : qTI) (L : qTL) (D : qTD) (R : qTR) (x1 : Int32) (s0 : Int64) : qcO Bool :=
  (if x1 = 0 then (fX4_visit_b93 w I L D R s0 (0 : UInt64)) else (qc_bd (fX6_takeReal w I L D R) fun r14 I14 L14 D14 R14 => fX4_visit_b93 w I14 L14 D14 R14 s0 r14))
set_option maxRecDepth 100000 in
set_option maxHeartbeats 4000000 in
theorem tX4_visit_b77 {w : qcW} {I : qTI} {L : qTL} {D : qTD} {R : qTR} {x1 : Int32} {s0 : Int64} {r : Bool} {I' : qTI} {L' : qTL} {D' : qTD} {R' : qTR} (hn : qcNF ≤ w.1) (hR : qc_FR R) (h : fX4_visit_b77 w I L D R x1 s0 = some (r, I', L', D', R')) : qc_fm qcSX (I, L, D, R) (I', L', D', R') ∧ qc_X (qc_rm (5) 0 0) qmX4_visit (qc_QM 0 0 (qc_eq (some (.int (qc_b r))) w (I', L', D', R'))) 0 0 w (77, [(0, .ref 286), (1, .int x1)], [.long s0], I, L, D, R) := by
  unfold fX4_visit_b77 at h
  refine And.imp_right (fun hx => qc_lstore_n (lv' := [(2, _), (0, _), (1, _)]) (qc_at qkX4_visit 41 rfl) rfl rfl <| qc_iload_n (qc_at qkX4_visit 42 rfl) rfl <| hx) ?_
  refine qc_andC (qc_if_eq (qc_at qkX4_visit 43 rfl)) (fun u13 => ?_) (fun u13 => ?_)
  · replace h := qc_jp u13 h
    exact And.imp_right (fun hx => qc_dconst (qc_at qkX4_visit 48 rfl) <| qc_sub [1, 0] rfl hx) (tX4_visit_b93 hn hR h)
  · replace h := qc_jn u13 h
    refine And.imp_right (fun hx => qc_aload_n (qc_at qkX4_visit 44 rfl) rfl <| qc_gR (qc_at qkX4_visit 45 rfl) hn rfl (qfr_286_2 hR) rfl <| hx) ?_
    obtain ⟨r14, I14, L14, D14, R14, e14, h⟩ := qc_bd_of h
    have c14 := (tX6_takeReal hn hR e14)
    refine qd_cVv (ci := 5) (a0 := 287) (qc_at qkX4_visit 46 rfl) ql_4_82 qfX6_takeReal (qc_kf hn rfl) rfl c14 rfl rfl (Nat.le_of_ble_eq_true rfl) (qc_rml (by decide) (by decide)) ⟨Nat.zero_le _, Nat.zero_le _⟩ ?_
    exact And.imp_right (fun hx => qc_goto (qc_at qkX4_visit 47 rfl) <| qc_sub [1, 0] rfl hx) (tX4_visit_b93 hn (c14.1.1 hR) h)
def fX4_visit_b61 (w : qcW) (I : qTI) (L : qTL) (D : qTD) (R : qTR) (s0 : Int32) : qcO Bool :=
  (if s0 = 0 then (qc_bd (fX6_take w I L D R) fun r16 I16 L16 D16 R16 => fX4_visit_b77 w I16 L16 D16 R16 s0 r16) else (fX4_visit_b77 w I L D R s0 (0 : Int64)))
set_option maxRecDepth 100000 in
set_option maxHeartbeats 4000000 in
theorem tX4_visit_b61 {w : qcW} {I : qTI} {L : qTL} {D : qTD} {R : qTR} {s0 : Int32} {r : Bool} {I' : qTI} {L' : qTL} {D' : qTD} {R' : qTR} (hn : qcNF ≤ w.1) (hR : qc_FR R) (h : fX4_visit_b61 w I L D R s0 = some (r, I', L', D', R')) : qc_fm qcSX (I, L, D, R) (I', L', D', R') ∧ qc_X (qc_rm (5) 0 0) qmX4_visit (qc_QM 0 0 (qc_eq (some (.int (qc_b r))) w (I', L', D', R'))) 0 0 w (61, [(0, .ref 286)], [.int s0], I, L, D, R) := by
  unfold fX4_visit_b61 at h
  refine And.imp_right (fun hx => qc_istore_n (lv' := [(1, _), (0, _)]) (qc_at qkX4_visit 33 rfl) rfl rfl <| qc_iload_n (qc_at qkX4_visit 34 rfl) rfl <| hx) ?_
  refine qc_andC (qc_if_eq (qc_at qkX4_visit 35 rfl)) (fun u15 => ?_) (fun u15 => ?_)
  · replace h := qc_jp u15 h
    refine And.imp_right (fun hx => qc_aload_n (qc_at qkX4_visit 38 rfl) rfl <| qc_gR (qc_at qkX4_visit 39 rfl) hn rfl (qfr_286_2 hR) rfl <| hx) ?_
    obtain ⟨r16, I16, L16, D16, R16, e16, h⟩ := qc_bd_of h
    have c16 := (tX6_take hn hR e16)
    refine qd_cVv (ci := 5) (a0 := 287) (qc_at qkX4_visit 40 rfl) ql_4_75 qfX6_take (qc_kf hn rfl) rfl c16 rfl rfl (Nat.le_of_ble_eq_true rfl) (qc_rml (by decide) (by decide)) ⟨Nat.zero_le _, Nat.zero_le _⟩ ?_
    exact And.imp_right (fun hx => qc_sub [1, 0] rfl hx) (tX4_visit_b77 hn (c16.1.1 hR) h)
  · replace h := qc_jn u15 h
    exact And.imp_right (fun hx => qc_lconst (qc_at qkX4_visit 36 rfl) <| qc_goto (qc_at qkX4_visit 37 rfl) <| qc_sub [1, 0] rfl hx) (tX4_visit_b77 hn hR h)
def fX4_visit_b35 (w : qcW) (I : qTI) (L : qTL) (D : qTD) (R : qTR) : qcO Bool :=
  (qc_bd (fX4_perform w I L D R (1 : Int32)) fun r17 I17 L17 D17 R17 => if r17 = true then (qc_gd (qc_io w (R17 286 3) 6) <| if (I17 (R17 286 3) 6) < (3 : Int32) then (fX4_visit_b61 w I17 L17 D17 R17 (0 : Int32)) else (fX4_visit_b61 w I17 L17 D17 R17 (1 : Int32))) else (some (false, I17, L17, D17, R17)))
set_option maxRecDepth 100000 in
set_option maxHeartbeats 4000000 in
theorem tX4_visit_b35 {w : qcW} {I : qTI} {L : qTL} {D : qTD} {R : qTR} {r : Bool} {I' : qTI} {L' : qTL} {D' : qTD} {R' : qTR} (hn : qcNF ≤ w.1) (hR : qc_FR R) (h : fX4_visit_b35 w I L D R = some (r, I', L', D', R')) : qc_fm qcSX (I, L, D, R) (I', L', D', R') ∧ qc_X (qc_rm (5) 0 0) qmX4_visit (qc_QM 0 0 (qc_eq (some (.int (qc_b r))) w (I', L', D', R'))) 0 0 w (35, [(0, .ref 286)], [], I, L, D, R) := by
  unfold fX4_visit_b35 at h
  refine And.imp_right (fun hx => qc_aload_n (qc_at qkX4_visit 19 rfl) rfl <| qc_iconst (qc_at qkX4_visit 20 rfl) <| hx) ?_
  obtain ⟨r17, I17, L17, D17, R17, e17, h⟩ := qc_bd_of h
  have c17 := (tX4_perform hn hR e17)
  refine qd_cVv (ci := 4) (a0 := 286) (qc_at qkX4_visit 21 rfl) ql_4_71 qfX4_perform (qc_kf hn rfl) rfl c17 rfl rfl (Nat.le_of_ble_eq_true rfl) (qc_rml (by decide) (by decide)) ⟨Nat.zero_le _, Nat.zero_le _⟩ ?_
  refine qc_andBn (qc_ifB_ne (qc_at qkX4_visit 22 rfl)) (fun u18 => ?_) (fun u18 => ?_)
  · replace h := qc_jt u18 h
    refine And.imp_right (fun hx => qc_aload_n (qc_at qkX4_visit 25 rfl) rfl <| hx) ?_
    obtain ⟨g19, h⟩ := qc_gd_of h
    replace g19 := qc_io_of g19
    refine And.imp_right (fun hx => qc_gR (qc_at qkX4_visit 26 rfl) hn rfl rfl (qc_ki255 g19) <| qc_gId (qc_at qkX4_visit 27 rfl) g19 rfl <| qc_iconst (qc_at qkX4_visit 28 rfl) <| hx) ?_
    refine qc_andC (qc_icmp_lt (qc_at qkX4_visit 29 rfl)) (fun u20 => ?_) (fun u20 => ?_)
    · replace h := qc_jp u20 h
      exact And.imp_right (fun hx => qc_iconst (qc_at qkX4_visit 32 rfl) <| qc_sub [0] rfl hx) (tX4_visit_b61 hn (c17.1.1 hR) h)
    · replace h := qc_jn u20 h
      exact And.imp_right (fun hx => qc_iconst (qc_at qkX4_visit 30 rfl) <| qc_goto (qc_at qkX4_visit 31 rfl) <| qc_sub [0] rfl hx) (tX4_visit_b61 hn (c17.1.1 hR) h)
  · replace h := qc_jf u18 h
    obtain ⟨rfl, rfl, rfl, rfl, rfl⟩ := qc_some5 h
    exact ⟨qc_fm.rf _, qc_iconst (qc_at qkX4_visit 23 rfl) <| qc_zret (qc_at qkX4_visit 24 rfl) rfl (Or.inl rfl) (Nat.le_refl _) (Nat.le_refl _) ⟨rfl, rfl, rfl⟩⟩
def fX4_visit (w : qcW) (I : qTI) (L : qTL) (D : qTD) (R : qTR) : qcO Bool :=
  (qc_gd (qc_io w (R 286 3) 6) <| qc_bd (fX7_size w I L D R (R 286 3) (0 : Int32)) fun r22 I22 L22 D22 R22 => if r22 ≤ 0 then (fX4_visit_b35 w I22 L22 D22 R22) else (qc_bd (fX4_perform w I22 L22 D22 R22 (0 : Int32)) fun r24 I24 L24 D24 R24 => if r24 = true then (qc_bd (fX6_take w I24 L24 D24 R24) fun r26 I26 L26 D26 R26 => if (lg_cmp r26 (0 : Int64)) = 0 then (some (true, I26, L26, D26, R26)) else (fX4_visit_b35 w I26 L26 D26 R26)) else (some (false, I24, L24, D24, R24))))
set_option maxRecDepth 100000 in
set_option maxHeartbeats 4000000 in
theorem tX4_visit {w : qcW} {I : qTI} {L : qTL} {D : qTD} {R : qTR} {r : Bool} {I' : qTI} {L' : qTL} {D' : qTD} {R' : qTR} (hn : qcNF ≤ w.1) (hR : qc_FR R) (h : fX4_visit w I L D R = some (r, I', L', D', R')) : qc_fm qcSX (I, L, D, R) (I', L', D', R') ∧ qc_V (5) 0 0 qmX4_visit [.ref 286] w (I, L, D, R) (qc_eq (some (.int (qc_b r))) w (I', L', D', R')) := by
  unfold fX4_visit at h
  refine And.imp_right (fun hx => qc_V.of rfl rfl (Nat.le_of_ble_eq_true rfl) (lv := [(0, .ref 286)]) rfl hx) ?_
  refine And.imp_right (fun hx => qc_aload_n (qc_at qkX4_visit 0 rfl) rfl <| hx) ?_
  obtain ⟨g21, h⟩ := qc_gd_of h
  replace g21 := qc_io_of g21
  refine And.imp_right (fun hx => qc_gR (qc_at qkX4_visit 1 rfl) hn rfl rfl (qc_ki255 g21) <| qc_iconst (qc_at qkX4_visit 2 rfl) <| hx) ?_
  obtain ⟨r22, I22, L22, D22, R22, e22, h⟩ := qc_bd_of h
  have c22 := (tX7_size hn hR e22)
  refine qd_cVv (ci := 6) (qc_at qkX4_visit 3 rfl) ql_4_67 qfX7_size g21 rfl c22 rfl rfl (Nat.le_of_ble_eq_true rfl) (qc_rml (by decide) (by decide)) ⟨Nat.zero_le _, Nat.zero_le _⟩ ?_
  refine qc_andC (qc_if_le (qc_at qkX4_visit 4 rfl)) (fun u23 => ?_) (fun u23 => ?_)
  · replace h := qc_jp u23 h
    exact And.imp_right (fun hx => qc_sub [0] rfl hx) (tX4_visit_b35 hn (c22.1.1 hR) h)
  · replace h := qc_jn u23 h
    refine And.imp_right (fun hx => qc_aload_n (qc_at qkX4_visit 5 rfl) rfl <| qc_iconst (qc_at qkX4_visit 6 rfl) <| hx) ?_
    obtain ⟨r24, I24, L24, D24, R24, e24, h⟩ := qc_bd_of h
    have c24 := (tX4_perform hn (c22.1.1 hR) e24)
    refine qd_cVv (ci := 4) (a0 := 286) (qc_at qkX4_visit 7 rfl) ql_4_71 qfX4_perform (qc_kf hn rfl) rfl c24 rfl rfl (Nat.le_of_ble_eq_true rfl) (qc_rml (by decide) (by decide)) ⟨Nat.zero_le _, Nat.zero_le _⟩ ?_
    refine qc_andBn (qc_ifB_ne (qc_at qkX4_visit 8 rfl)) (fun u25 => ?_) (fun u25 => ?_)
    · replace h := qc_jt u25 h
      refine And.imp_right (fun hx => qc_aload_n (qc_at qkX4_visit 11 rfl) rfl <| qc_gR (qc_at qkX4_visit 12 rfl) hn rfl (qfr_286_2 (c24.1.1 (c22.1.1 hR))) rfl <| hx) ?_
      obtain ⟨r26, I26, L26, D26, R26, e26, h⟩ := qc_bd_of h
      have c26 := (tX6_take hn (c24.1.1 (c22.1.1 hR)) e26)
      refine qd_cVv (ci := 5) (a0 := 287) (qc_at qkX4_visit 13 rfl) ql_4_75 qfX6_take (qc_kf hn rfl) rfl c26 rfl rfl (Nat.le_of_ble_eq_true rfl) (qc_rml (by decide) (by decide)) ⟨Nat.zero_le _, Nat.zero_le _⟩ ?_
      refine And.imp_right (fun hx => qc_lconst (qc_at qkX4_visit 14 rfl) <| qc_lcmp (qc_at qkX4_visit 15 rfl) <| hx) ?_
      refine qc_andN (qc_if_ne (qc_at qkX4_visit 16 rfl)) (fun u27 => ?_) (fun u27 => ?_)
      · replace h := qc_jn u27 h
        exact And.imp_right (fun hx => qc_sub [0] rfl hx) (tX4_visit_b35 hn (c26.1.1 (c24.1.1 (c22.1.1 hR))) h)
      · replace h := qc_jp u27 h
        obtain ⟨rfl, rfl, rfl, rfl, rfl⟩ := qc_some5 h
        exact ⟨qc_fm.rf _, qc_iconst (qc_at qkX4_visit 17 rfl) <| qc_zret (qc_at qkX4_visit 18 rfl) rfl (Or.inr rfl) (Nat.le_refl _) (Nat.le_refl _) ⟨rfl, rfl, rfl⟩⟩
    · replace h := qc_jf u25 h
      obtain ⟨rfl, rfl, rfl, rfl, rfl⟩ := qc_some5 h
      exact ⟨qc_fm.rf _, qc_iconst (qc_at qkX4_visit 9 rfl) <| qc_zret (qc_at qkX4_visit 10 rfl) rfl (Or.inl rfl) (Nat.le_refl _) (Nat.le_refl _) ⟨rfl, rfl, rfl⟩⟩
