def fX2_read_b250 (w : qcW) (I : qTI) (L : qTL) (D : qTD) (R : qTR) : qcO Unit :=
  (some ((), I, L, D, R))
set_option maxRecDepth 100000 in
set_option maxHeartbeats 4000000 in
theorem tX2_read_b250 {w : qcW} {I : qTI} {L : qTL} {D : qTD} {R : qTR} {QQ : qcQ} {r : Unit} {I' : qTI} {L' : qTL} {D' : qTD} {R' : qTR} (hn : qcNF ≤ w.1) (hst : qc_X (qc_rm (213) 8 1500) qmX2_read QQ 0 0 w (250, [(0, .ref 267)], [], I', L', D', R')) (hR : qc_FR R) (h : fX2_read_b250 w I L D R = some (r, I', L', D', R')) : qc_fm qcSX (I, L, D, R) (I', L', D', R') ∧ qc_X (qc_rm (213) 8 1500) qmX2_read QQ 0 0 w (250, [(0, .ref 267)], [], I, L, D, R) := by
  unfold fX2_read_b250 at h
  cases h
  exact ⟨qc_fm.rf _, hst⟩
def fX2_read_b231 (w : qcW) (I : qTI) (L : qTL) (D : qTD) (R : qTR) : qcO Unit :=
  (qc_bd (fX9_refuse w I L D R (6 : Int32) (I 265 1)) fun r1 I1 L1 D1 R1 => fX2_read_b250 w I1 L1 D1 R1)
set_option maxRecDepth 100000 in
set_option maxHeartbeats 4000000 in
theorem tX2_read_b231 {w : qcW} {I : qTI} {L : qTL} {D : qTD} {R : qTR} {QQ : qcQ} {r : Unit} {I' : qTI} {L' : qTL} {D' : qTD} {R' : qTR} (hn : qcNF ≤ w.1) (hst : qc_X (qc_rm (213) 8 1500) qmX2_read QQ 0 0 w (250, [(0, .ref 267)], [], I', L', D', R')) (hR : qc_FR R) (h : fX2_read_b231 w I L D R = some (r, I', L', D', R')) : qc_fm qcSX (I, L, D, R) (I', L', D', R') ∧ qc_X (qc_rm (213) 8 1500) qmX2_read QQ 0 0 w (231, [(0, .ref 267)], [], I, L, D, R) := by
  unfold fX2_read_b231 at h
  refine And.imp_right (fun hx => qc_aload_n (qc_at qkX2_read 103 rfl) rfl <| qc_gR (qc_at qkX2_read 104 rfl) hn rfl (qfr_267_0 hR) rfl <| qc_bipush (qc_at qkX2_read 105 rfl) <| qc_aload_n (qc_at qkX2_read 106 rfl) rfl <| qc_gR (qc_at qkX2_read 107 rfl) hn rfl (qfr_267_0 hR) rfl <| qc_gR (qc_at qkX2_read 108 rfl) hn rfl (qfr_268_0 hR) rfl <| qc_gI (qc_at qkX2_read 109 rfl) hn rfl <| hx) ?_
  obtain ⟨r1, I1, L1, D1, R1, e1, h⟩ := qc_bd_of h
  have c1 := (tX9_refuse hn hR e1)
  refine qd_cVn (ci := 7) (a0 := 268) (qc_at qkX2_read 110 rfl) ql_2_145 qfX9_refuse (qc_kf hn rfl) rfl c1 rfl rfl (Nat.le_of_ble_eq_true rfl) (qc_rml (by decide) (by decide)) ⟨Nat.zero_le _, Nat.zero_le _⟩ ?_
  exact And.imp_right (fun hx => qc_sub [0] rfl hx) (tX2_read_b250 hn hst (c1.1.1 hR) h)
def fX2_read_b195 (w : qcW) (I : qTI) (L : qTL) (D : qTD) (R : qTR) : qcO Unit :=
  (qc_bd (fX0_isTooLong w I L D R 270) fun r2 I2 L2 D2 R2 => if r2 = true then (fX2_read_b231 w I2 L2 D2 R2) else (qc_bd (fX0_isTooLong w I2 L2 D2 R2 273) fun r4 I4 L4 D4 R4 => if r4 = true then (fX2_read_b231 w I4 L4 D4 R4) else (qc_bd (fX0_isTooLong w I4 L4 D4 R4 276) fun r6 I6 L6 D6 R6 => if r6 = true then (fX2_read_b231 w I6 L6 D6 R6) else (fX2_read_b250 w I6 L6 D6 R6))))
set_option maxRecDepth 100000 in
set_option maxHeartbeats 4000000 in
theorem tX2_read_b195 {w : qcW} {I : qTI} {L : qTL} {D : qTD} {R : qTR} {QQ : qcQ} {r : Unit} {I' : qTI} {L' : qTL} {D' : qTD} {R' : qTR} (hn : qcNF ≤ w.1) (hst : qc_X (qc_rm (213) 8 1500) qmX2_read QQ 0 0 w (250, [(0, .ref 267)], [], I', L', D', R')) (hR : qc_FR R) (h : fX2_read_b195 w I L D R = some (r, I', L', D', R')) : qc_fm qcSX (I, L, D, R) (I', L', D', R') ∧ qc_X (qc_rm (213) 8 1500) qmX2_read QQ 0 0 w (195, [(0, .ref 267)], [], I, L, D, R) := by
  unfold fX2_read_b195 at h
  refine And.imp_right (fun hx => qc_aload_n (qc_at qkX2_read 85 rfl) rfl <| qc_gR (qc_at qkX2_read 86 rfl) hn rfl (qfr_267_2 hR) rfl <| qc_iconst (qc_at qkX2_read 87 rfl) <| qc_aald 0 (Or.inl rfl) (qc_at qkX2_read 88 rfl) (qc_kaf hn rfl) (qc_inb_in (n := 3) (by decide)) (qfr_269_0 hR) rfl <| hx) ?_
  obtain ⟨r2, I2, L2, D2, R2, e2, h⟩ := qc_bd_of h
  have c2 := (tX0_isTooLong hn hR e2)
  refine qd_cVv (ci := 0) (a0 := 270) (qc_at qkX2_read 89 rfl) ql_2_132 qfX0_isTooLong (qc_kf hn rfl) rfl c2 rfl rfl (Nat.le_of_ble_eq_true rfl) (qc_rml (by decide) (by decide)) ⟨Nat.zero_le _, Nat.zero_le _⟩ ?_
  refine qc_andBn (qc_ifB_ne (qc_at qkX2_read 90 rfl)) (fun u3 => ?_) (fun u3 => ?_)
  · replace h := qc_jt u3 h
    exact And.imp_right (fun hx => qc_sub [0] rfl hx) (tX2_read_b231 hn hst (c2.1.1 hR) h)
  · replace h := qc_jf u3 h
    refine And.imp_right (fun hx => qc_aload_n (qc_at qkX2_read 91 rfl) rfl <| qc_gR (qc_at qkX2_read 92 rfl) hn rfl (qfr_267_2 (c2.1.1 hR)) rfl <| qc_iconst (qc_at qkX2_read 93 rfl) <| qc_aald 0 (Or.inl rfl) (qc_at qkX2_read 94 rfl) (qc_kaf hn rfl) (qc_inb_in (n := 3) (by decide)) (qfr_269_1 (c2.1.1 hR)) rfl <| hx) ?_
    obtain ⟨r4, I4, L4, D4, R4, e4, h⟩ := qc_bd_of h
    have c4 := (tX0_isTooLong hn (c2.1.1 hR) e4)
    refine qd_cVv (ci := 0) (a0 := 273) (qc_at qkX2_read 95 rfl) ql_2_132 qfX0_isTooLong (qc_kf hn rfl) rfl c4 rfl rfl (Nat.le_of_ble_eq_true rfl) (qc_rml (by decide) (by decide)) ⟨Nat.zero_le _, Nat.zero_le _⟩ ?_
    refine qc_andBn (qc_ifB_ne (qc_at qkX2_read 96 rfl)) (fun u5 => ?_) (fun u5 => ?_)
    · replace h := qc_jt u5 h
      exact And.imp_right (fun hx => qc_sub [0] rfl hx) (tX2_read_b231 hn hst (c4.1.1 (c2.1.1 hR)) h)
    · replace h := qc_jf u5 h
      refine And.imp_right (fun hx => qc_aload_n (qc_at qkX2_read 97 rfl) rfl <| qc_gR (qc_at qkX2_read 98 rfl) hn rfl (qfr_267_2 (c4.1.1 (c2.1.1 hR))) rfl <| qc_iconst (qc_at qkX2_read 99 rfl) <| qc_aald 0 (Or.inl rfl) (qc_at qkX2_read 100 rfl) (qc_kaf hn rfl) (qc_inb_in (n := 3) (by decide)) (qfr_269_2 (c4.1.1 (c2.1.1 hR))) rfl <| hx) ?_
      obtain ⟨r6, I6, L6, D6, R6, e6, h⟩ := qc_bd_of h
      have c6 := (tX0_isTooLong hn (c4.1.1 (c2.1.1 hR)) e6)
      refine qd_cVv (ci := 0) (a0 := 276) (qc_at qkX2_read 101 rfl) ql_2_132 qfX0_isTooLong (qc_kf hn rfl) rfl c6 rfl rfl (Nat.le_of_ble_eq_true rfl) (qc_rml (by decide) (by decide)) ⟨Nat.zero_le _, Nat.zero_le _⟩ ?_
      refine qc_andB (qc_ifB_eq (qc_at qkX2_read 102 rfl)) (fun u7 => ?_) (fun u7 => ?_)
      · replace h := qc_jf u7 h
        exact And.imp_right (fun hx => qc_sub [0] rfl hx) (tX2_read_b250 hn hst (c6.1.1 (c4.1.1 (c2.1.1 hR))) h)
      · replace h := qc_jt u7 h
        exact And.imp_right (fun hx => qc_sub [0] rfl hx) (tX2_read_b231 hn hst (c6.1.1 (c4.1.1 (c2.1.1 hR))) h)
def fX2_read_b178 (w : qcW) (I : qTI) (L : qTL) (D : qTD) (R : qTR) : qcO Unit :=
  (qc_gd (qc_l62 (R 268 1)) <| if (R 268 1) = 0 then (fX2_read_b195 w I L D R) else (qc_bd (fX2_misplaced w I L D R) fun r10 I10 L10 D10 R10 => fX2_read_b195 w I10 L10 D10 R10))
set_option maxRecDepth 100000 in
set_option maxHeartbeats 4000000 in
theorem tX2_read_b178 {w : qcW} {I : qTI} {L : qTL} {D : qTD} {R : qTR} {QQ : qcQ} {r : Unit} {I' : qTI} {L' : qTL} {D' : qTD} {R' : qTR} (hn : qcNF ≤ w.1) (hst : qc_X (qc_rm (213) 8 1500) qmX2_read QQ 0 0 w (250, [(0, .ref 267)], [], I', L', D', R')) (hR : qc_FR R) (h : fX2_read_b178 w I L D R = some (r, I', L', D', R')) : qc_fm qcSX (I, L, D, R) (I', L', D', R') ∧ qc_X (qc_rm (213) 8 1500) qmX2_read QQ 0 0 w (178, [(0, .ref 267)], [], I, L, D, R) := by
  unfold fX2_read_b178 at h
  refine And.imp_right (fun hx => qc_aload_n (qc_at qkX2_read 78 rfl) rfl <| qc_gR (qc_at qkX2_read 79 rfl) hn rfl (qfr_267_0 hR) rfl <| hx) ?_
  obtain ⟨g8, h⟩ := qc_gd_of h
  replace g8 := qc_l62_of g8
  refine And.imp_right (fun hx => qc_gR (qc_at qkX2_read 80 rfl) hn rfl rfl (qc_ne62 g8) <| qc_gS (qc_at qkX2_read 81 rfl) rfl <| hx) ?_
  refine qc_andC (qc_acmp_eq (qc_at qkX2_read 82 rfl) (Or.inl g8) (Or.inl (by decide))) (fun u9 => ?_) (fun u9 => ?_)
  · replace h := qc_jp u9 h
    exact And.imp_right (fun hx => qc_sub [0] rfl hx) (tX2_read_b195 hn hst hR h)
  · replace h := qc_jn u9 h
    refine And.imp_right (fun hx => qc_aload_n (qc_at qkX2_read 83 rfl) rfl <| hx) ?_
    obtain ⟨r10, I10, L10, D10, R10, e10, h⟩ := qc_bd_of h
    have c10 := (tX2_misplaced hn hR e10)
    refine qd_cVn (ci := 2) (a0 := 267) (qc_at qkX2_read 84 rfl) ql_2_126 qfX2_misplaced (qc_kf hn rfl) rfl c10 rfl rfl (Nat.le_of_ble_eq_true rfl) (qc_rml (by decide) (by decide)) ⟨Nat.zero_le _, Nat.zero_le _⟩ ?_
    exact And.imp_right (fun hx => qc_sub [0] rfl hx) (tX2_read_b195 hn hst (c10.1.1 hR) h)
def fX2_read_b43 (w : qcW) (I : qTI) (L : qTL) (D : qTD) (R : qTR) : qcO Unit :=
  (qc_bd (fX2_took w I L D R 8) fun r11 I11 L11 D11 R11 => if r11 = true then (qc_bd (fX2_expect w (qc_u I11 267 12 (I11 268 4)) L11 D11 R11 1) fun r13 I13 L13 D13 R13 => fX2_read_b178 w I13 L13 D13 R13) else (fX2_read_b178 w I11 L11 D11 R11))
set_option maxRecDepth 100000 in
set_option maxHeartbeats 4000000 in
theorem tX2_read_b43 {w : qcW} {I : qTI} {L : qTL} {D : qTD} {R : qTR} {QQ : qcQ} {r : Unit} {I' : qTI} {L' : qTL} {D' : qTD} {R' : qTR} (hn : qcNF ≤ w.1) (hst : qc_X (qc_rm (213) 8 1500) qmX2_read QQ 0 0 w (250, [(0, .ref 267)], [], I', L', D', R')) (hR : qc_FR R) (h : fX2_read_b43 w I L D R = some (r, I', L', D', R')) : qc_fm qcSX (I, L, D, R) (I', L', D', R') ∧ qc_X (qc_rm (213) 8 1500) qmX2_read QQ 0 0 w (43, [(0, .ref 267)], [], I, L, D, R) := by
  unfold fX2_read_b43 at h
  refine And.imp_right (fun hx => qc_aload_n (qc_at qkX2_read 19 rfl) rfl <| qc_gS (qc_at qkX2_read 20 rfl) rfl <| hx) ?_
  obtain ⟨r11, I11, L11, D11, R11, e11, h⟩ := qc_bd_of h
  have c11 := (tX2_took hn hR e11)
  refine qd_cVv (ci := 2) (a0 := 267) (qc_at qkX2_read 21 rfl) ql_2_64 qfX2_took (qc_kf hn rfl) rfl c11 rfl rfl (Nat.le_of_ble_eq_true rfl) (qc_rml (by decide) (by decide)) ⟨Nat.zero_le _, Nat.zero_le _⟩ ?_
  refine qc_andB (qc_ifB_eq (qc_at qkX2_read 22 rfl)) (fun u12 => ?_) (fun u12 => ?_)
  · replace h := qc_jf u12 h
    exact And.imp_right (fun hx => qc_sub [0] rfl hx) (tX2_read_b178 hn hst (c11.1.1 hR) h)
  · replace h := qc_jt u12 h
    refine And.imp_right (fun hx => qc_aload_n (qc_at qkX2_read 23 rfl) rfl <| qc_aload_n (qc_at qkX2_read 24 rfl) rfl <| qc_gR (qc_at qkX2_read 25 rfl) hn rfl (qfr_267_0 (c11.1.1 hR)) rfl <| qc_gI (qc_at qkX2_read 26 rfl) hn rfl <| hx) (qd_pI (qc_at qkX2_read 27 rfl) hn rfl rfl ?_)
    refine And.imp_right (fun hx => qc_aload_n (qc_at qkX2_read 28 rfl) rfl <| qc_gS (qc_at qkX2_read 29 rfl) rfl <| hx) ?_
    obtain ⟨r13, I13, L13, D13, R13, e13, h⟩ := qc_bd_of h
    have c13 := (tX2_expect hn (c11.1.1 hR) e13)
    refine qd_cVn (ci := 2) (a0 := 267) (qc_at qkX2_read 30 rfl) ql_2_89 qfX2_expect (qc_kf hn rfl) rfl c13 rfl rfl (Nat.le_of_ble_eq_true rfl) (qc_rml (by decide) (by decide)) ⟨Nat.zero_le _, Nat.zero_le _⟩ ?_
    exact And.imp_right (fun hx => qc_goto (qc_at qkX2_read 31 rfl) <| qc_sub [0] rfl hx) (tX2_read_b178 hn hst (c13.1.1 (c11.1.1 hR)) h)
def fX2_read_b102 (w : qcW) (I : qTI) (L : qTL) (D : qTD) (R : qTR) : qcO Unit :=
  (qc_bd (fX2_took w I L D R 14) fun r14 I14 L14 D14 R14 => if r14 = true then (qc_bd (fX2_rc w 200 0 0 I14 L14 D14 (qc_u R14 267 4 276)) fun r16 I16 L16 D16 R16 => qc_bd (fX2_isWhole w I16 L16 D16 R16 r16) fun r17 I17 L17 D17 R17 => qc_bd (fX2_fit w I17 L17 D17 R17 (qc_b r17) (I17 268 2)) fun r18 I18 L18 D18 R18 => fX2_read_b178 w I18 L18 D18 R18) else (fX2_read_b178 w I14 L14 D14 R14))
set_option maxRecDepth 100000 in
set_option maxHeartbeats 4000000 in
theorem tX2_read_b102 {w : qcW} {I : qTI} {L : qTL} {D : qTD} {R : qTR} {QQ : qcQ} {r : Unit} {I' : qTI} {L' : qTL} {D' : qTD} {R' : qTR} (hn : qcNF ≤ w.1) (hst : qc_X (qc_rm (213) 8 1500) qmX2_read QQ 0 0 w (250, [(0, .ref 267)], [], I', L', D', R')) (hR : qc_FR R) (h : fX2_read_b102 w I L D R = some (r, I', L', D', R')) : qc_fm qcSX (I, L, D, R) (I', L', D', R') ∧ qc_X (qc_rm (213) 8 1500) qmX2_read QQ 0 0 w (102, [(0, .ref 267)], [], I, L, D, R) := by
  unfold fX2_read_b102 at h
  refine And.imp_right (fun hx => qc_aload_n (qc_at qkX2_read 44 rfl) rfl <| qc_gS (qc_at qkX2_read 45 rfl) rfl <| hx) ?_
  obtain ⟨r14, I14, L14, D14, R14, e14, h⟩ := qc_bd_of h
  have c14 := (tX2_took hn hR e14)
  refine qd_cVv (ci := 2) (a0 := 267) (qc_at qkX2_read 46 rfl) ql_2_64 qfX2_took (qc_kf hn rfl) rfl c14 rfl rfl (Nat.le_of_ble_eq_true rfl) (qc_rml (by decide) (by decide)) ⟨Nat.zero_le _, Nat.zero_le _⟩ ?_
  refine qc_andB (qc_ifB_eq (qc_at qkX2_read 47 rfl)) (fun u15 => ?_) (fun u15 => ?_)
  · replace h := qc_jf u15 h
    exact And.imp_right (fun hx => qc_sub [0] rfl hx) (tX2_read_b178 hn hst (c14.1.1 hR) h)
  · replace h := qc_jt u15 h
    refine And.imp_right (fun hx => qc_aload_n (qc_at qkX2_read 48 rfl) rfl <| qc_aload_n (qc_at qkX2_read 49 rfl) rfl <| qc_gR (qc_at qkX2_read 50 rfl) hn rfl (qfr_267_2 (c14.1.1 hR)) rfl <| qc_iconst (qc_at qkX2_read 51 rfl) <| qc_aald 0 (Or.inl rfl) (qc_at qkX2_read 52 rfl) (qc_kaf hn rfl) (qc_inb_in (n := 3) (by decide)) (qfr_269_2 (c14.1.1 hR)) rfl <| hx) (qd_pR (qc_at qkX2_read 53 rfl) hn rfl rfl rfl rfl ?_)
    refine And.imp_right (fun hx => qc_aload_n (qc_at qkX2_read 54 rfl) rfl <| qc_aload_n (qc_at qkX2_read 55 rfl) rfl <| hx) ?_
    obtain ⟨r16, I16, L16, D16, R16, e16, h⟩ := qc_bd_of h
    have c16 := (qd_rc0 (tX2_rc hn 200) ((c14.1.1 hR).u _ rfl) e16)
    refine qd_cVv (ci := 2) (a0 := 267) (qc_at qkX2_read 56 rfl) ql_2_105 qfX2_sum (qc_kf hn rfl) rfl c16 rfl rfl (Nat.le_of_ble_eq_true rfl) (qc_rml (by decide) (by decide)) ⟨Nat.zero_le _, Nat.zero_le _⟩ ?_
    obtain ⟨r17, I17, L17, D17, R17, e17, h⟩ := qc_bd_of h
    have c17 := (tX2_isWhole hn (c16.1.1 ((c14.1.1 hR).u _ rfl)) e17)
    refine qd_cSv (qc_at qkX2_read 57 rfl) ql_2_109 qfX2_isWhole c17 rfl rfl (Nat.le_of_ble_eq_true rfl) (qc_rml (by decide) (by decide)) ⟨Nat.zero_le _, Nat.zero_le _⟩ ?_
    refine And.imp_right (fun hx => qc_aload_n (qc_at qkX2_read 58 rfl) rfl <| qc_gR (qc_at qkX2_read 59 rfl) hn rfl (qfr_267_0 (c17.1.1 (c16.1.1 ((c14.1.1 hR).u _ rfl)))) rfl <| qc_gI (qc_at qkX2_read 60 rfl) hn rfl <| hx) ?_
    obtain ⟨r18, I18, L18, D18, R18, e18, h⟩ := qc_bd_of h
    have c18 := (tX2_fit hn (c17.1.1 (c16.1.1 ((c14.1.1 hR).u _ rfl))) e18)
    refine qd_cVn (ci := 2) (a0 := 267) (qc_at qkX2_read 61 rfl) ql_2_116 qfX2_fit (qc_kf hn rfl) rfl c18 rfl rfl (Nat.le_of_ble_eq_true rfl) (qc_rml (by decide) (by decide)) ⟨Nat.zero_le _, Nat.zero_le _⟩ ?_
    exact And.imp_right (fun hx => qc_goto (qc_at qkX2_read 62 rfl) <| qc_sub [0] rfl hx) (tX2_read_b178 hn hst (c18.1.1 (c17.1.1 (c16.1.1 ((c14.1.1 hR).u _ rfl)))) h)
def fX2_read (w : qcW) (I : qTI) (L : qTL) (D : qTD) (R : qTR) : qcO Unit :=
  (qc_bd (fX2_begin w I L D R) fun r19 I19 L19 D19 R19 => qc_gd (qc_l62 (R19 268 1)) <| qc_bd (fX2_took w I19 L19 D19 (qc_u R19 267 7 (R19 268 1)) 5) fun r21 I21 L21 D21 R21 => if r21 = true then (qc_bd (fX2_readCondition w I21 L21 D21 R21) fun r36 I36 L36 D36 R36 => qc_bd (fX2_took w I36 L36 D36 R36 6) fun r37 I37 L37 D37 R37 => if r37 = true then (qc_bd (fX2_readOrder w I37 L37 D37 R37) fun r39 I39 L39 D39 R39 => fX2_read_b43 w I39 L39 D39 R39) else (fX2_read_b43 w I37 L37 D37 R37)) else (qc_bd (fX2_took w I21 L21 D21 R21 9) fun r23 I23 L23 D23 R23 => if r23 = true then (qc_bd (fX2_readHow w I23 L23 D23 R23) fun r32 I32 L32 D32 R32 => qc_bd (fX2_took w I32 L32 D32 R32 13) fun r33 I33 L33 D33 R33 => if r33 = true then (qc_bd (fX2_readCondition w I33 L33 D33 R33) fun r35 I35 L35 D35 R35 => fX2_read_b102 w I35 L35 D35 R35) else (fX2_read_b102 w I33 L33 D33 R33)) else (qc_bd (fX2_took w I23 L23 D23 R23 15) fun r25 I25 L25 D25 R25 => if r25 = true then (qc_bd (fX2_readSet w I25 L25 D25 R25) fun r28 I28 L28 D28 R28 => qc_bd (fX2_took w I28 L28 D28 R28 13) fun r29 I29 L29 D29 R29 => if r29 = true then (qc_bd (fX2_readCondition w I29 L29 D29 R29) fun r31 I31 L31 D31 R31 => fX2_read_b178 w I31 L31 D31 R31) else (fX2_read_b178 w I29 L29 D29 R29)) else (qc_bd (fX2_misplaced w I25 L25 D25 R25) fun r27 I27 L27 D27 R27 => fX2_read_b178 w I27 L27 D27 R27))))
set_option maxRecDepth 100000 in
set_option maxHeartbeats 4000000 in
theorem tX2_read {w : qcW} {I : qTI} {L : qTL} {D : qTD} {R : qTR} {QQ : qcQ} {r : Unit} {I' : qTI} {L' : qTL} {D' : qTD} {R' : qTR} (hn : qcNF ≤ w.1) (hst : qc_X (qc_rm (213) 8 1500) qmX2_read QQ 0 0 w (250, [(0, .ref 267)], [], I', L', D', R')) (hR : qc_FR R) (h : fX2_read w I L D R = some (r, I', L', D', R')) : qc_fm qcSX (I, L, D, R) (I', L', D', R') ∧ qc_X (qc_rm (213) 8 1500) qmX2_read QQ 0 0 w (0, [(0, .ref 267)], [], I, L, D, R) := by
  unfold fX2_read at h
  refine And.imp_right (fun hx => qc_aload_n (qc_at qkX2_read 0 rfl) rfl <| hx) ?_
  obtain ⟨r19, I19, L19, D19, R19, e19, h⟩ := qc_bd_of h
  have c19 := (tX2_begin hn hR e19)
  refine qd_cVn (ci := 2) (a0 := 267) (qc_at qkX2_read 1 rfl) ql_2_58 qfX2_begin (qc_kf hn rfl) rfl c19 rfl rfl (Nat.le_of_ble_eq_true rfl) (qc_rml (by decide) (by decide)) ⟨Nat.zero_le _, Nat.zero_le _⟩ ?_
  refine And.imp_right (fun hx => qc_aload_n (qc_at qkX2_read 2 rfl) rfl <| qc_aload_n (qc_at qkX2_read 3 rfl) rfl <| qc_gR (qc_at qkX2_read 4 rfl) hn rfl (qfr_267_0 (c19.1.1 hR)) rfl <| hx) ?_
  obtain ⟨g20, h⟩ := qc_gd_of h
  replace g20 := qc_l62_of g20
  refine And.imp_right (fun hx => qc_gR (qc_at qkX2_read 5 rfl) hn rfl rfl (qc_ne62 g20) <| hx) (qd_pR (qc_at qkX2_read 6 rfl) hn rfl (qc_ne62 g20) rfl rfl ?_)
  refine And.imp_right (fun hx => qc_aload_n (qc_at qkX2_read 7 rfl) rfl <| qc_gS (qc_at qkX2_read 8 rfl) rfl <| hx) ?_
  obtain ⟨r21, I21, L21, D21, R21, e21, h⟩ := qc_bd_of h
  have c21 := (tX2_took hn ((c19.1.1 hR).u _ rfl) e21)
  refine qd_cVv (ci := 2) (a0 := 267) (qc_at qkX2_read 9 rfl) ql_2_64 qfX2_took (qc_kf hn rfl) rfl c21 rfl rfl (Nat.le_of_ble_eq_true rfl) (qc_rml (by decide) (by decide)) ⟨Nat.zero_le _, Nat.zero_le _⟩ ?_
  refine qc_andB (qc_ifB_eq (qc_at qkX2_read 10 rfl)) (fun u22 => ?_) (fun u22 => ?_)
  · replace h := qc_jf u22 h
    refine And.imp_right (fun hx => qc_aload_n (qc_at qkX2_read 32 rfl) rfl <| qc_gS (qc_at qkX2_read 33 rfl) rfl <| hx) ?_
    obtain ⟨r23, I23, L23, D23, R23, e23, h⟩ := qc_bd_of h
    have c23 := (tX2_took hn (c21.1.1 ((c19.1.1 hR).u _ rfl)) e23)
    refine qd_cVv (ci := 2) (a0 := 267) (qc_at qkX2_read 34 rfl) ql_2_64 qfX2_took (qc_kf hn rfl) rfl c23 rfl rfl (Nat.le_of_ble_eq_true rfl) (qc_rml (by decide) (by decide)) ⟨Nat.zero_le _, Nat.zero_le _⟩ ?_
    refine qc_andB (qc_ifB_eq (qc_at qkX2_read 35 rfl)) (fun u24 => ?_) (fun u24 => ?_)
    · replace h := qc_jf u24 h
      refine And.imp_right (fun hx => qc_aload_n (qc_at qkX2_read 63 rfl) rfl <| qc_gS (qc_at qkX2_read 64 rfl) rfl <| hx) ?_
      obtain ⟨r25, I25, L25, D25, R25, e25, h⟩ := qc_bd_of h
      have c25 := (tX2_took hn (c23.1.1 (c21.1.1 ((c19.1.1 hR).u _ rfl))) e25)
      refine qd_cVv (ci := 2) (a0 := 267) (qc_at qkX2_read 65 rfl) ql_2_64 qfX2_took (qc_kf hn rfl) rfl c25 rfl rfl (Nat.le_of_ble_eq_true rfl) (qc_rml (by decide) (by decide)) ⟨Nat.zero_le _, Nat.zero_le _⟩ ?_
      refine qc_andB (qc_ifB_eq (qc_at qkX2_read 66 rfl)) (fun u26 => ?_) (fun u26 => ?_)
      · replace h := qc_jf u26 h
        refine And.imp_right (fun hx => qc_aload_n (qc_at qkX2_read 76 rfl) rfl <| hx) ?_
        obtain ⟨r27, I27, L27, D27, R27, e27, h⟩ := qc_bd_of h
        have c27 := (tX2_misplaced hn (c25.1.1 (c23.1.1 (c21.1.1 ((c19.1.1 hR).u _ rfl)))) e27)
        refine qd_cVn (ci := 2) (a0 := 267) (qc_at qkX2_read 77 rfl) ql_2_126 qfX2_misplaced (qc_kf hn rfl) rfl c27 rfl rfl (Nat.le_of_ble_eq_true rfl) (qc_rml (by decide) (by decide)) ⟨Nat.zero_le _, Nat.zero_le _⟩ ?_
        exact And.imp_right (fun hx => qc_sub [0] rfl hx) (tX2_read_b178 hn hst (c27.1.1 (c25.1.1 (c23.1.1 (c21.1.1 ((c19.1.1 hR).u _ rfl))))) h)
      · replace h := qc_jt u26 h
        refine And.imp_right (fun hx => qc_aload_n (qc_at qkX2_read 67 rfl) rfl <| hx) ?_
        obtain ⟨r28, I28, L28, D28, R28, e28, h⟩ := qc_bd_of h
        have c28 := (tX2_readSet hn (c25.1.1 (c23.1.1 (c21.1.1 ((c19.1.1 hR).u _ rfl)))) e28)
        refine qd_cVn (ci := 2) (a0 := 267) (qc_at qkX2_read 68 rfl) ql_2_123 qfX2_readSet (qc_kf hn rfl) rfl c28 rfl rfl (Nat.le_of_ble_eq_true rfl) (qc_rml (by decide) (by decide)) ⟨Nat.zero_le _, Nat.zero_le _⟩ ?_
        refine And.imp_right (fun hx => qc_aload_n (qc_at qkX2_read 69 rfl) rfl <| qc_gS (qc_at qkX2_read 70 rfl) rfl <| hx) ?_
        obtain ⟨r29, I29, L29, D29, R29, e29, h⟩ := qc_bd_of h
        have c29 := (tX2_took hn (c28.1.1 (c25.1.1 (c23.1.1 (c21.1.1 ((c19.1.1 hR).u _ rfl))))) e29)
        refine qd_cVv (ci := 2) (a0 := 267) (qc_at qkX2_read 71 rfl) ql_2_64 qfX2_took (qc_kf hn rfl) rfl c29 rfl rfl (Nat.le_of_ble_eq_true rfl) (qc_rml (by decide) (by decide)) ⟨Nat.zero_le _, Nat.zero_le _⟩ ?_
        refine qc_andB (qc_ifB_eq (qc_at qkX2_read 72 rfl)) (fun u30 => ?_) (fun u30 => ?_)
        · replace h := qc_jf u30 h
          exact And.imp_right (fun hx => qc_sub [0] rfl hx) (tX2_read_b178 hn hst (c29.1.1 (c28.1.1 (c25.1.1 (c23.1.1 (c21.1.1 ((c19.1.1 hR).u _ rfl)))))) h)
        · replace h := qc_jt u30 h
          refine And.imp_right (fun hx => qc_aload_n (qc_at qkX2_read 73 rfl) rfl <| hx) ?_
          obtain ⟨r31, I31, L31, D31, R31, e31, h⟩ := qc_bd_of h
          have c31 := (tX2_readCondition hn (c29.1.1 (c28.1.1 (c25.1.1 (c23.1.1 (c21.1.1 ((c19.1.1 hR).u _ rfl)))))) e31)
          refine qd_cVn (ci := 2) (a0 := 267) (qc_at qkX2_read 74 rfl) ql_2_68 qfX2_readCondition (qc_kf hn rfl) rfl c31 rfl rfl (Nat.le_of_ble_eq_true rfl) (qc_rml (by decide) (by decide)) ⟨Nat.zero_le _, Nat.zero_le _⟩ ?_
          exact And.imp_right (fun hx => qc_goto (qc_at qkX2_read 75 rfl) <| qc_sub [0] rfl hx) (tX2_read_b178 hn hst (c31.1.1 (c29.1.1 (c28.1.1 (c25.1.1 (c23.1.1 (c21.1.1 ((c19.1.1 hR).u _ rfl))))))) h)
    · replace h := qc_jt u24 h
      refine And.imp_right (fun hx => qc_aload_n (qc_at qkX2_read 36 rfl) rfl <| hx) ?_
      obtain ⟨r32, I32, L32, D32, R32, e32, h⟩ := qc_bd_of h
      have c32 := (tX2_readHow hn (c23.1.1 (c21.1.1 ((c19.1.1 hR).u _ rfl))) e32)
      refine qd_cVn (ci := 2) (a0 := 267) (qc_at qkX2_read 37 rfl) ql_2_96 qfX2_readHow (qc_kf hn rfl) rfl c32 rfl rfl (Nat.le_of_ble_eq_true rfl) (qc_rml (by decide) (by decide)) ⟨Nat.zero_le _, Nat.zero_le _⟩ ?_
      refine And.imp_right (fun hx => qc_aload_n (qc_at qkX2_read 38 rfl) rfl <| qc_gS (qc_at qkX2_read 39 rfl) rfl <| hx) ?_
      obtain ⟨r33, I33, L33, D33, R33, e33, h⟩ := qc_bd_of h
      have c33 := (tX2_took hn (c32.1.1 (c23.1.1 (c21.1.1 ((c19.1.1 hR).u _ rfl)))) e33)
      refine qd_cVv (ci := 2) (a0 := 267) (qc_at qkX2_read 40 rfl) ql_2_64 qfX2_took (qc_kf hn rfl) rfl c33 rfl rfl (Nat.le_of_ble_eq_true rfl) (qc_rml (by decide) (by decide)) ⟨Nat.zero_le _, Nat.zero_le _⟩ ?_
      refine qc_andB (qc_ifB_eq (qc_at qkX2_read 41 rfl)) (fun u34 => ?_) (fun u34 => ?_)
      · replace h := qc_jf u34 h
        exact And.imp_right (fun hx => qc_sub [0] rfl hx) (tX2_read_b102 hn hst (c33.1.1 (c32.1.1 (c23.1.1 (c21.1.1 ((c19.1.1 hR).u _ rfl))))) h)
      · replace h := qc_jt u34 h
        refine And.imp_right (fun hx => qc_aload_n (qc_at qkX2_read 42 rfl) rfl <| hx) ?_
        obtain ⟨r35, I35, L35, D35, R35, e35, h⟩ := qc_bd_of h
        have c35 := (tX2_readCondition hn (c33.1.1 (c32.1.1 (c23.1.1 (c21.1.1 ((c19.1.1 hR).u _ rfl))))) e35)
        refine qd_cVn (ci := 2) (a0 := 267) (qc_at qkX2_read 43 rfl) ql_2_68 qfX2_readCondition (qc_kf hn rfl) rfl c35 rfl rfl (Nat.le_of_ble_eq_true rfl) (qc_rml (by decide) (by decide)) ⟨Nat.zero_le _, Nat.zero_le _⟩ ?_
        exact And.imp_right (fun hx => qc_sub [0] rfl hx) (tX2_read_b102 hn hst (c35.1.1 (c33.1.1 (c32.1.1 (c23.1.1 (c21.1.1 ((c19.1.1 hR).u _ rfl)))))) h)
  · replace h := qc_jt u22 h
    refine And.imp_right (fun hx => qc_aload_n (qc_at qkX2_read 11 rfl) rfl <| hx) ?_
    obtain ⟨r36, I36, L36, D36, R36, e36, h⟩ := qc_bd_of h
    have c36 := (tX2_readCondition hn (c21.1.1 ((c19.1.1 hR).u _ rfl)) e36)
    refine qd_cVn (ci := 2) (a0 := 267) (qc_at qkX2_read 12 rfl) ql_2_68 qfX2_readCondition (qc_kf hn rfl) rfl c36 rfl rfl (Nat.le_of_ble_eq_true rfl) (qc_rml (by decide) (by decide)) ⟨Nat.zero_le _, Nat.zero_le _⟩ ?_
    refine And.imp_right (fun hx => qc_aload_n (qc_at qkX2_read 13 rfl) rfl <| qc_gS (qc_at qkX2_read 14 rfl) rfl <| hx) ?_
    obtain ⟨r37, I37, L37, D37, R37, e37, h⟩ := qc_bd_of h
    have c37 := (tX2_took hn (c36.1.1 (c21.1.1 ((c19.1.1 hR).u _ rfl))) e37)
    refine qd_cVv (ci := 2) (a0 := 267) (qc_at qkX2_read 15 rfl) ql_2_64 qfX2_took (qc_kf hn rfl) rfl c37 rfl rfl (Nat.le_of_ble_eq_true rfl) (qc_rml (by decide) (by decide)) ⟨Nat.zero_le _, Nat.zero_le _⟩ ?_
    refine qc_andB (qc_ifB_eq (qc_at qkX2_read 16 rfl)) (fun u38 => ?_) (fun u38 => ?_)
    · replace h := qc_jf u38 h
      exact And.imp_right (fun hx => qc_sub [0] rfl hx) (tX2_read_b43 hn hst (c37.1.1 (c36.1.1 (c21.1.1 ((c19.1.1 hR).u _ rfl)))) h)
    · replace h := qc_jt u38 h
      refine And.imp_right (fun hx => qc_aload_n (qc_at qkX2_read 17 rfl) rfl <| hx) ?_
      obtain ⟨r39, I39, L39, D39, R39, e39, h⟩ := qc_bd_of h
      have c39 := (tX2_readOrder hn (c37.1.1 (c36.1.1 (c21.1.1 ((c19.1.1 hR).u _ rfl)))) e39)
      refine qd_cVn (ci := 2) (a0 := 267) (qc_at qkX2_read 18 rfl) ql_2_74 qfX2_readOrder (qc_kf hn rfl) rfl c39 rfl rfl (Nat.le_of_ble_eq_true rfl) (qc_rml (by decide) (by decide)) ⟨Nat.zero_le _, Nat.zero_le _⟩ ?_
      exact And.imp_right (fun hx => qc_sub [0] rfl hx) (tX2_read_b43 hn hst (c39.1.1 (c37.1.1 (c36.1.1 (c21.1.1 ((c19.1.1 hR).u _ rfl))))) h)
