def fX9_take_b50 (w : qcW) (I : qTI) (L : qTL) (D : qTD) (R : qTR) : qcO Unit :=
  (qc_bd (fX10_at w (qc_u I 268 2 (I 268 3)) L D R ((qc_u I 268 2 (I 268 3)) 268 2)) fun r1 I1 L1 D1 R1 => if r1 = (-1 : Int32) then (some ((), I1, L1, D1, (qc_u R1 268 1 0))) else (qc_bd (fX9_isLetter w I1 L1 D1 R1 r1) fun r3 I3 L3 D3 R3 => if r3 = true then (qc_bd (fX9_readWord w I3 L3 D3 R3) fun r11 I11 L11 D11 R11 => some ((), I11, L11, D11, R11)) else (qc_bd (fX9_isFigure w I3 L3 D3 R3 r1) fun r5 I5 L5 D5 R5 => if r5 = true then (qc_bd (fX9_readFigures w I5 L5 D5 R5) fun r10 I10 L10 D10 R10 => some ((), I10, L10, D10, R10)) else (if r1 = (36 : Int32) then (qc_bd (fX9_readColumn w I5 L5 D5 R5) fun r9 I9 L9 D9 R9 => some ((), I9, L9, D9, R9)) else (qc_bd (fX9_readSign w I5 L5 D5 R5) fun r8 I8 L8 D8 R8 => some ((), I8, L8, D8, R8))))))
set_option maxRecDepth 100000 in
set_option maxHeartbeats 4000000 in
theorem tX9_take_b50 {w : qcW} {I : qTI} {L : qTL} {D : qTD} {R : qTR} {r : Unit} {I' : qTI} {L' : qTL} {D' : qTD} {R' : qTR} (hn : qcNF ≤ w.1) (hR : qc_FR R) (h : fX9_take_b50 w I L D R = some (r, I', L', D', R')) : qc_fm qcSX (I, L, D, R) (I', L', D', R') ∧ qc_X (qc_rm (6) 0 0) qmX9_take (qc_QM 0 0 (qc_eq none w (I', L', D', R'))) 0 0 w (50, [(0, .ref 268)], [], I, L, D, R) := by
  unfold fX9_take_b50 at h
  refine And.imp_right (fun hx => qc_aload_n (qc_at qkX9_take 24 rfl) rfl <| qc_aload_n (qc_at qkX9_take 25 rfl) rfl <| qc_gI (qc_at qkX9_take 26 rfl) hn rfl <| hx) (qd_pI (qc_at qkX9_take 27 rfl) hn rfl rfl ?_)
  refine And.imp_right (fun hx => qc_aload_n (qc_at qkX9_take 28 rfl) rfl <| qc_gR (qc_at qkX9_take 29 rfl) hn rfl (qfr_268_0 hR) rfl <| qc_aload_n (qc_at qkX9_take 30 rfl) rfl <| qc_gI (qc_at qkX9_take 31 rfl) hn rfl <| hx) ?_
  obtain ⟨r1, I1, L1, D1, R1, e1, h⟩ := qc_bd_of h
  have c1 := (tX10_at hn hR e1)
  refine qd_cVv (ci := 8) (a0 := 265) (qc_at qkX9_take 32 rfl) ql_9_42 qfX10_at (qc_kf hn rfl) rfl c1 rfl rfl (Nat.le_of_ble_eq_true rfl) (qc_rml (by decide) (by decide)) ⟨Nat.zero_le _, Nat.zero_le _⟩ ?_
  refine And.imp_right (fun hx => qc_istore_n (lv' := [(1, _), (0, _)]) (qc_at qkX9_take 33 rfl) rfl rfl <| qc_iload_n (qc_at qkX9_take 34 rfl) rfl <| qc_iconst (qc_at qkX9_take 35 rfl) <| hx) ?_
  refine qc_andN (qc_icmp_ne (qc_at qkX9_take 36 rfl)) (fun u2 => ?_) (fun u2 => ?_)
  · replace h := qc_jn u2 h
    refine And.imp_right (fun hx => qc_iload_n (qc_at qkX9_take 41 rfl) rfl <| hx) ?_
    obtain ⟨r3, I3, L3, D3, R3, e3, h⟩ := qc_bd_of h
    have c3 := (tX9_isLetter hn (c1.1.1 hR) e3)
    refine qd_cSv (qc_at qkX9_take 42 rfl) ql_9_53 qfX9_isLetter c3 rfl rfl (Nat.le_of_ble_eq_true rfl) (qc_rml (by decide) (by decide)) ⟨Nat.zero_le _, Nat.zero_le _⟩ ?_
    refine qc_andB (qc_ifB_eq (qc_at qkX9_take 43 rfl)) (fun u4 => ?_) (fun u4 => ?_)
    · replace h := qc_jf u4 h
      refine And.imp_right (fun hx => qc_iload_n (qc_at qkX9_take 47 rfl) rfl <| hx) ?_
      obtain ⟨r5, I5, L5, D5, R5, e5, h⟩ := qc_bd_of h
      have c5 := (tX9_isFigure hn (c3.1.1 (c1.1.1 hR)) e5)
      refine qd_cSv (qc_at qkX9_take 48 rfl) ql_9_59 qfX9_isFigure c5 rfl rfl (Nat.le_of_ble_eq_true rfl) (qc_rml (by decide) (by decide)) ⟨Nat.zero_le _, Nat.zero_le _⟩ ?_
      refine qc_andB (qc_ifB_eq (qc_at qkX9_take 49 rfl)) (fun u6 => ?_) (fun u6 => ?_)
      · replace h := qc_jf u6 h
        refine And.imp_right (fun hx => qc_iload_n (qc_at qkX9_take 53 rfl) rfl <| qc_bipush (qc_at qkX9_take 54 rfl) <| hx) ?_
        refine qc_andN (qc_icmp_ne (qc_at qkX9_take 55 rfl)) (fun u7 => ?_) (fun u7 => ?_)
        · replace h := qc_jn u7 h
          refine And.imp_right (fun hx => qc_aload_n (qc_at qkX9_take 59 rfl) rfl <| hx) ?_
          obtain ⟨r8, I8, L8, D8, R8, e8, h⟩ := qc_bd_of h
          have c8 := (tX9_readSign hn (c5.1.1 (c3.1.1 (c1.1.1 hR))) e8)
          refine qd_cVn (ci := 7) (a0 := 268) (qc_at qkX9_take 60 rfl) ql_9_68 qfX9_readSign (qc_kf hn rfl) rfl c8 rfl rfl (Nat.le_of_ble_eq_true rfl) (qc_rml (by decide) (by decide)) ⟨Nat.zero_le _, Nat.zero_le _⟩ ?_
          obtain ⟨rfl, rfl, rfl, rfl, rfl⟩ := qc_some5 h
          exact ⟨qc_fm.rf _, qc_vret (qc_at qkX9_take 61 rfl) rfl (Nat.le_refl _) (Nat.le_refl _) (qc_eq.rf _ _ _)⟩
        · replace h := qc_jp u7 h
          refine And.imp_right (fun hx => qc_aload_n (qc_at qkX9_take 56 rfl) rfl <| hx) ?_
          obtain ⟨r9, I9, L9, D9, R9, e9, h⟩ := qc_bd_of h
          have c9 := (tX9_readColumn hn (c5.1.1 (c3.1.1 (c1.1.1 hR))) e9)
          refine qd_cVn (ci := 7) (a0 := 268) (qc_at qkX9_take 57 rfl) ql_9_65 qfX9_readColumn (qc_kf hn rfl) rfl c9 rfl rfl (Nat.le_of_ble_eq_true rfl) (qc_rml (by decide) (by decide)) ⟨Nat.zero_le _, Nat.zero_le _⟩ ?_
          obtain ⟨rfl, rfl, rfl, rfl, rfl⟩ := qc_some5 h
          exact ⟨qc_fm.rf _, qc_goto (qc_at qkX9_take 58 rfl) <| qc_vret (qc_at qkX9_take 61 rfl) rfl (Nat.le_refl _) (Nat.le_refl _) (qc_eq.rf _ _ _)⟩
      · replace h := qc_jt u6 h
        refine And.imp_right (fun hx => qc_aload_n (qc_at qkX9_take 50 rfl) rfl <| hx) ?_
        obtain ⟨r10, I10, L10, D10, R10, e10, h⟩ := qc_bd_of h
        have c10 := (tX9_readFigures hn (c5.1.1 (c3.1.1 (c1.1.1 hR))) e10)
        refine qd_cVn (ci := 7) (a0 := 268) (qc_at qkX9_take 51 rfl) ql_9_62 qfX9_readFigures (qc_kf hn rfl) rfl c10 rfl rfl (Nat.le_of_ble_eq_true rfl) (qc_rml (by decide) (by decide)) ⟨Nat.zero_le _, Nat.zero_le _⟩ ?_
        obtain ⟨rfl, rfl, rfl, rfl, rfl⟩ := qc_some5 h
        exact ⟨qc_fm.rf _, qc_goto (qc_at qkX9_take 52 rfl) <| qc_vret (qc_at qkX9_take 61 rfl) rfl (Nat.le_refl _) (Nat.le_refl _) (qc_eq.rf _ _ _)⟩
    · replace h := qc_jt u4 h
      refine And.imp_right (fun hx => qc_aload_n (qc_at qkX9_take 44 rfl) rfl <| hx) ?_
      obtain ⟨r11, I11, L11, D11, R11, e11, h⟩ := qc_bd_of h
      have c11 := (tX9_readWord hn (c3.1.1 (c1.1.1 hR)) e11)
      refine qd_cVn (ci := 7) (a0 := 268) (qc_at qkX9_take 45 rfl) ql_9_56 qfX9_readWord (qc_kf hn rfl) rfl c11 rfl rfl (Nat.le_of_ble_eq_true rfl) (qc_rml (by decide) (by decide)) ⟨Nat.zero_le _, Nat.zero_le _⟩ ?_
      obtain ⟨rfl, rfl, rfl, rfl, rfl⟩ := qc_some5 h
      exact ⟨qc_fm.rf _, qc_goto (qc_at qkX9_take 46 rfl) <| qc_vret (qc_at qkX9_take 61 rfl) rfl (Nat.le_refl _) (Nat.le_refl _) (qc_eq.rf _ _ _)⟩
  · replace h := qc_jp u2 h
    refine And.imp_right (fun hx => qc_aload_n (qc_at qkX9_take 37 rfl) rfl <| qc_gS (qc_at qkX9_take 38 rfl) rfl <| hx) (qd_pR (qc_at qkX9_take 39 rfl) hn rfl rfl rfl rfl ?_)
    obtain ⟨rfl, rfl, rfl, rfl, rfl⟩ := qc_some5 h
    exact ⟨qc_fm.rf _, qc_goto (qc_at qkX9_take 40 rfl) <| qc_vret (qc_at qkX9_take 61 rfl) rfl (Nat.le_refl _) (Nat.le_refl _) (qc_eq.rf _ _ _)⟩
def fX9_take_b10 (w : qcW) (k10 : qTI × qTL × qTD × qTR × Int32 → qcO Unit) (I : qTI) (L : qTL) (D : qTD) (R : qTR) (x1 : Int32) : qcO Unit :=
  (if (400 : Int32) ≤ x1 then (fX9_take_b50 w I L D R) else (qc_bd (fX10_at w I L D R (I 268 3)) fun r13 I13 L13 D13 R13 => qc_bd (fX9_isBlank w I13 L13 D13 R13 r13) fun r14 I14 L14 D14 R14 => if r14 = true then (k10 ((qc_u I14 268 3 ((I14 268 3) + (1 : Int32))), L14, D14, R14, (x1 + (1)))) else (fX9_take_b50 w I14 L14 D14 R14)))
set_option maxRecDepth 100000 in
set_option maxHeartbeats 4000000 in
theorem tX9_take_b10 {w : qcW} {I : qTI} {L : qTL} {D : qTD} {R : qTR} {k10 : qTI × qTL × qTD × qTR × Int32 → qcO Unit} {x1 : Int32} {r : Unit} {I' : qTI} {L' : qTL} {D' : qTD} {R' : qTR} (hn : qcNF ≤ w.1) (hR : qc_FR R) (hk10 : ∀ {I : qTI} {L : qTL} {D : qTD} {R : qTR} {x1 : Int32} {r : Unit} {I' : qTI} {L' : qTL} {D' : qTD} {R' : qTR}, qc_FR R → k10 (I, L, D, R, x1) = some (r, I', L', D', R') → qc_fm qcSX (I, L, D, R) (I', L', D', R') ∧ qc_X (qc_rm (6) 0 0) qmX9_take (qc_QM 0 0 (qc_eq none w (I', L', D', R'))) 0 0 w (10, [(0, .ref 268), (1, .int x1)], [], I, L, D, R)) (h : fX9_take_b10 w k10 I L D R x1 = some (r, I', L', D', R')) : qc_fm qcSX (I, L, D, R) (I', L', D', R') ∧ qc_X (qc_rm (6) 0 0) qmX9_take (qc_QM 0 0 (qc_eq none w (I', L', D', R'))) 0 0 w (10, [(0, .ref 268), (1, .int x1)], [], I, L, D, R) := by
  unfold fX9_take_b10 at h
  refine And.imp_right (fun hx => qc_iload_n (qc_at qkX9_take 6 rfl) rfl <| qc_sipush (qc_at qkX9_take 7 rfl) <| hx) ?_
  refine qc_andC (qc_icmp_ge (qc_at qkX9_take 8 rfl)) (fun u12 => ?_) (fun u12 => ?_)
  · replace h := qc_jp u12 h
    exact And.imp_right (fun hx => qc_sub [0] rfl hx) (tX9_take_b50 hn hR h)
  · replace h := qc_jn u12 h
    refine And.imp_right (fun hx => qc_aload_n (qc_at qkX9_take 9 rfl) rfl <| qc_gR (qc_at qkX9_take 10 rfl) hn rfl (qfr_268_0 hR) rfl <| qc_aload_n (qc_at qkX9_take 11 rfl) rfl <| qc_gI (qc_at qkX9_take 12 rfl) hn rfl <| hx) ?_
    obtain ⟨r13, I13, L13, D13, R13, e13, h⟩ := qc_bd_of h
    have c13 := (tX10_at hn hR e13)
    refine qd_cVv (ci := 8) (a0 := 265) (qc_at qkX9_take 13 rfl) ql_9_42 qfX10_at (qc_kf hn rfl) rfl c13 rfl rfl (Nat.le_of_ble_eq_true rfl) (qc_rml (by decide) (by decide)) ⟨Nat.zero_le _, Nat.zero_le _⟩ ?_
    obtain ⟨r14, I14, L14, D14, R14, e14, h⟩ := qc_bd_of h
    have c14 := (tX9_isBlank hn (c13.1.1 hR) e14)
    refine qd_cSv (qc_at qkX9_take 14 rfl) ql_9_46 qfX9_isBlank c14 rfl rfl (Nat.le_of_ble_eq_true rfl) (qc_rml (by decide) (by decide)) ⟨Nat.zero_le _, Nat.zero_le _⟩ ?_
    refine qc_andB (qc_ifB_eq (qc_at qkX9_take 15 rfl)) (fun u15 => ?_) (fun u15 => ?_)
    · replace h := qc_jf u15 h
      exact And.imp_right (fun hx => qc_sub [0] rfl hx) (tX9_take_b50 hn (c14.1.1 (c13.1.1 hR)) h)
    · replace h := qc_jt u15 h
      refine And.imp_right (fun hx => qc_aload_n (qc_at qkX9_take 16 rfl) rfl <| qc_dup (qc_at qkX9_take 17 rfl) rfl <| qc_gI (qc_at qkX9_take 18 rfl) hn rfl <| qc_iconst (qc_at qkX9_take 19 rfl) <| qc_iadd (qc_at qkX9_take 20 rfl) <| hx) (qd_pI (qc_at qkX9_take 21 rfl) hn rfl rfl ?_)
      exact And.imp_right (fun hx => qc_iinc (lv' := [(1, _), (0, _)]) (qc_at qkX9_take 22 rfl) rfl rfl rfl <| qc_goto (qc_at qkX9_take 23 rfl) <| qc_sub [1, 0] rfl hx) (hk10 (c14.1.1 (c13.1.1 hR)) h)
def fX9_take_l10 (w : qcW) : Nat → qTI × qTL × qTD × qTR × Int32 → qcO Unit := qc_lp (fun k q => match q with | (I, L, D, R, x1) => fX9_take_b10 w k I L D R x1)
set_option maxRecDepth 100000 in
set_option maxHeartbeats 4000000 in
theorem tX9_take_l10 {w : qcW} (hn : qcNF ≤ w.1) : ∀ (n : Nat) {r : Unit} {I' : qTI} {L' : qTL} {D' : qTD} {R' : qTR} {I : qTI} {L : qTL} {D : qTD} {R : qTR} {x1 : Int32} (hR : qc_FR R) (h : fX9_take_l10 w n (I, L, D, R, x1) = some (r, I', L', D', R')), qc_fm qcSX (I, L, D, R) (I', L', D', R') ∧ qc_X (qc_rm (6) 0 0) qmX9_take (qc_QM 0 0 (qc_eq none w (I', L', D', R'))) 0 0 w (10, [(0, .ref 268), (1, .int x1)], [], I, L, D, R) := by
  intro n
  induction n with
  | zero => intro _ _ _ _ _ _ _ _ _ _ _ h; cases h
  | succ n ih => intro _ _ _ _ _ _ _ _ _ _ hR h; exact tX9_take_b10 hn hR (k10 := fX9_take_l10 w n) (fun hR h => ih hR h) h
def fX9_take (w : qcW) (I : qTI) (L : qTL) (D : qTD) (R : qTR) : qcO Unit :=
  (if (I 268 6) = 0 then (fX9_take_l10 w qcF (I, L, D, R, (0 : Int32))) else (some ((), I, L, D, R)))
set_option maxRecDepth 100000 in
set_option maxHeartbeats 4000000 in
theorem tX9_take {w : qcW} {I : qTI} {L : qTL} {D : qTD} {R : qTR} {r : Unit} {I' : qTI} {L' : qTL} {D' : qTD} {R' : qTR} (hn : qcNF ≤ w.1) (hR : qc_FR R) (h : fX9_take w I L D R = some (r, I', L', D', R')) : qc_fm qcSX (I, L, D, R) (I', L', D', R') ∧ qc_V (6) 0 0 qmX9_take [.ref 268] w (I, L, D, R) (qc_eq none w (I', L', D', R')) := by
  unfold fX9_take at h
  refine And.imp_right (fun hx => qc_V.of rfl rfl (Nat.le_of_ble_eq_true rfl) (lv := [(0, .ref 268)]) rfl hx) ?_
  refine And.imp_right (fun hx => qc_aload_n (qc_at qkX9_take 0 rfl) rfl <| qc_gI (qc_at qkX9_take 1 rfl) hn rfl <| hx) ?_
  refine qc_andC (qc_if_eq (qc_at qkX9_take 2 rfl)) (fun u16 => ?_) (fun u16 => ?_)
  · replace h := qc_jp u16 h
    exact And.imp_right (fun hx => qc_iconst (qc_at qkX9_take 4 rfl) <| qc_istore_n (lv' := [(1, _), (0, _)]) (qc_at qkX9_take 5 rfl) rfl rfl <| qc_sub [1, 0] rfl hx) (tX9_take_l10 hn qcF hR h)
  · replace h := qc_jn u16 h
    obtain ⟨rfl, rfl, rfl, rfl, rfl⟩ := qc_some5 h
    exact ⟨qc_fm.rf _, qc_vret (qc_at qkX9_take 3 rfl) rfl (Nat.le_refl _) (Nat.le_refl _) (qc_eq.rf _ _ _)⟩
def fX9_start (w : qcW) (I : qTI) (L : qTL) (D : qTD) (R : qTR) : qcO Unit :=
  (qc_bd (fX9_take w (qc_u (qc_u (qc_u I 268 3 (0 : Int32)) 268 6 (0 : Int32)) 268 7 (0 : Int32)) L D R) fun r1 I1 L1 D1 R1 => some ((), I1, L1, D1, R1))
set_option maxRecDepth 100000 in
set_option maxHeartbeats 4000000 in
theorem tX9_start {w : qcW} {I : qTI} {L : qTL} {D : qTD} {R : qTR} {r : Unit} {I' : qTI} {L' : qTL} {D' : qTD} {R' : qTR} (hn : qcNF ≤ w.1) (hR : qc_FR R) (h : fX9_start w I L D R = some (r, I', L', D', R')) : qc_fm qcSX (I, L, D, R) (I', L', D', R') ∧ qc_V (7) 0 0 qmX9_start [.ref 268] w (I, L, D, R) (qc_eq none w (I', L', D', R')) := by
  unfold fX9_start at h
  refine And.imp_right (fun hx => qc_V.of rfl rfl (Nat.le_of_ble_eq_true rfl) (lv := [(0, .ref 268)]) rfl hx) ?_
  refine And.imp_right (fun hx => qc_aload_n (qc_at qkX9_start 0 rfl) rfl <| qc_iconst (qc_at qkX9_start 1 rfl) <| hx) (qd_pI (qc_at qkX9_start 2 rfl) hn rfl rfl ?_)
  refine And.imp_right (fun hx => qc_aload_n (qc_at qkX9_start 3 rfl) rfl <| qc_iconst (qc_at qkX9_start 4 rfl) <| hx) (qd_pI (qc_at qkX9_start 5 rfl) hn rfl rfl ?_)
  refine And.imp_right (fun hx => qc_aload_n (qc_at qkX9_start 6 rfl) rfl <| qc_iconst (qc_at qkX9_start 7 rfl) <| hx) (qd_pI (qc_at qkX9_start 8 rfl) hn rfl rfl ?_)
  refine And.imp_right (fun hx => qc_aload_n (qc_at qkX9_start 9 rfl) rfl <| hx) ?_
  obtain ⟨r1, I1, L1, D1, R1, e1, h⟩ := qc_bd_of h
  have c1 := (tX9_take hn hR e1)
  refine qd_cVn (ci := 7) (a0 := 268) (qc_at qkX9_start 10 rfl) ql_9_34 qfX9_take (qc_kf hn rfl) rfl c1 rfl rfl (Nat.le_of_ble_eq_true rfl) (qc_rml (by decide) (by decide)) ⟨Nat.zero_le _, Nat.zero_le _⟩ ?_
  obtain ⟨rfl, rfl, rfl, rfl, rfl⟩ := qc_some5 h
  exact ⟨qc_fm.rf _, qc_vret (qc_at qkX9_start 11 rfl) rfl (Nat.le_refl _) (Nat.le_refl _) (qc_eq.rf _ _ _)⟩
def fX0_begin (w : qcW) (I : qTI) (L : qTL) (D : qTD) (R : qTR) (x0 : Nat) : qcO Unit :=
  (qc_gd (qc_io w x0 0) <| (qc_gd (qcSX x0) <| qc_gd (qcSX x0) <| qc_gd (qcSX x0) <| some ((), (qc_u (qc_u (qc_u I x0 2 (0 : Int32)) x0 3 (0 : Int32)) x0 4 (0 : Int32)), L, D, R)))
set_option maxRecDepth 100000 in
set_option maxHeartbeats 4000000 in
theorem tX0_begin {w : qcW} {I : qTI} {L : qTL} {D : qTD} {R : qTR} {x0 : Nat} {r : Unit} {I' : qTI} {L' : qTL} {D' : qTD} {R' : qTR} (hn : qcNF ≤ w.1) (hR : qc_FR R) (h : fX0_begin w I L D R x0 = some (r, I', L', D', R')) : qc_fm qcSX (I, L, D, R) (I', L', D', R') ∧ qc_V (0) 0 0 qmX0_begin [.ref x0] w (I, L, D, R) (qc_eq none w (I', L', D', R')) := by
  unfold fX0_begin at h
  refine And.imp_right (fun hx => qc_V.of rfl rfl (Nat.le_of_ble_eq_true rfl) (lv := [(0, .ref x0)]) rfl hx) ?_
  obtain ⟨g1, h⟩ := qc_gd_of h
  replace g1 := qc_io_of g1
  refine And.imp_right (fun hx => qc_aload_n (qc_at qkX0_begin 0 rfl) rfl <| qc_iconst (qc_at qkX0_begin 1 rfl) <| hx) ?_
  obtain ⟨g2, h⟩ := qc_gd_of h
  refine qd_pId (qc_at qkX0_begin 2 rfl) g1 rfl g2 ?_
  refine And.imp_right (fun hx => qc_aload_n (qc_at qkX0_begin 3 rfl) rfl <| qc_iconst (qc_at qkX0_begin 4 rfl) <| hx) ?_
  obtain ⟨g3, h⟩ := qc_gd_of h
  refine qd_pId (qc_at qkX0_begin 5 rfl) g1 rfl g3 ?_
  refine And.imp_right (fun hx => qc_aload_n (qc_at qkX0_begin 6 rfl) rfl <| qc_iconst (qc_at qkX0_begin 7 rfl) <| hx) ?_
  obtain ⟨g4, h⟩ := qc_gd_of h
  refine qd_pId (qc_at qkX0_begin 8 rfl) g1 rfl g4 ?_
  obtain ⟨rfl, rfl, rfl, rfl, rfl⟩ := qc_some5 h
  exact ⟨qc_fm.rf _, qc_vret (qc_at qkX0_begin 9 rfl) rfl (Nat.le_refl _) (Nat.le_refl _) (qc_eq.rf _ _ _)⟩
def fX0_isTooLong (w : qcW) (I : qTI) (L : qTL) (D : qTD) (R : qTR) (x0 : Nat) : qcO Bool :=
  (qc_gd (qc_io w x0 0) <| (if (200 : Int32) < (I x0 2) then (some (true, I, L, D, R)) else (if (I x0 4) ≤ (24 : Int32) then (some (false, I, L, D, R)) else (some (true, I, L, D, R)))))
set_option maxRecDepth 100000 in
set_option maxHeartbeats 4000000 in
theorem tX0_isTooLong {w : qcW} {I : qTI} {L : qTL} {D : qTD} {R : qTR} {x0 : Nat} {r : Bool} {I' : qTI} {L' : qTL} {D' : qTD} {R' : qTR} (hn : qcNF ≤ w.1) (hR : qc_FR R) (h : fX0_isTooLong w I L D R x0 = some (r, I', L', D', R')) : qc_fm qcSX (I, L, D, R) (I', L', D', R') ∧ qc_V (0) 0 0 qmX0_isTooLong [.ref x0] w (I, L, D, R) (qc_eq (some (.int (qc_b r))) w (I', L', D', R')) := by
  unfold fX0_isTooLong at h
  refine And.imp_right (fun hx => qc_V.of rfl rfl (Nat.le_of_ble_eq_true rfl) (lv := [(0, .ref x0)]) rfl hx) ?_
  obtain ⟨g1, h⟩ := qc_gd_of h
  replace g1 := qc_io_of g1
  refine And.imp_right (fun hx => qc_aload_n (qc_at qkX0_isTooLong 0 rfl) rfl <| qc_gId (qc_at qkX0_isTooLong 1 rfl) g1 rfl <| qc_sipush (qc_at qkX0_isTooLong 2 rfl) <| hx) ?_
  refine qc_andC (qc_icmp_gt (qc_at qkX0_isTooLong 3 rfl)) (fun u2 => ?_) (fun u2 => ?_)
  · replace h := qc_jp u2 h
    obtain ⟨rfl, rfl, rfl, rfl, rfl⟩ := qc_some5 h
    exact ⟨qc_fm.rf _, qc_iconst (qc_at qkX0_isTooLong 8 rfl) <| qc_goto (qc_at qkX0_isTooLong 9 rfl) <| qc_zret (qc_at qkX0_isTooLong 11 rfl) rfl (Or.inr rfl) (Nat.le_refl _) (Nat.le_refl _) ⟨rfl, rfl, rfl⟩⟩
  · replace h := qc_jn u2 h
    refine And.imp_right (fun hx => qc_aload_n (qc_at qkX0_isTooLong 4 rfl) rfl <| qc_gId (qc_at qkX0_isTooLong 5 rfl) g1 rfl <| qc_bipush (qc_at qkX0_isTooLong 6 rfl) <| hx) ?_
    refine qc_andC (qc_icmp_le (qc_at qkX0_isTooLong 7 rfl)) (fun u3 => ?_) (fun u3 => ?_)
    · replace h := qc_jp u3 h
      obtain ⟨rfl, rfl, rfl, rfl, rfl⟩ := qc_some5 h
      exact ⟨qc_fm.rf _, qc_iconst (qc_at qkX0_isTooLong 10 rfl) <| qc_zret (qc_at qkX0_isTooLong 11 rfl) rfl (Or.inl rfl) (Nat.le_refl _) (Nat.le_refl _) ⟨rfl, rfl, rfl⟩⟩
    · replace h := qc_jn u3 h
      obtain ⟨rfl, rfl, rfl, rfl, rfl⟩ := qc_some5 h
      exact ⟨qc_fm.rf _, qc_iconst (qc_at qkX0_isTooLong 8 rfl) <| qc_goto (qc_at qkX0_isTooLong 9 rfl) <| qc_zret (qc_at qkX0_isTooLong 11 rfl) rfl (Or.inr rfl) (Nat.le_refl _) (Nat.le_refl _) ⟨rfl, rfl, rfl⟩⟩
def fX0_change_b65 (w : qcW) (I : qTI) (L : qTL) (D : qTD) (R : qTR) (x0 : Int32) (s0 : Int32) : qcO Int32 :=
  (if s0 = 0 then (if x0 = (1800 : Int32) then (some ((-1 : Int32), I, L, D, R)) else (if x0 = (1801 : Int32) then (some ((-1 : Int32), I, L, D, R)) else (some ((0 : Int32), I, L, D, R)))) else (some ((-1 : Int32), I, L, D, R)))
set_option maxRecDepth 100000 in
set_option maxHeartbeats 4000000 in
theorem tX0_change_b65 {w : qcW} {I : qTI} {L : qTL} {D : qTD} {R : qTR} {x0 : Int32} {s0 : Int32} {r : Int32} {I' : qTI} {L' : qTL} {D' : qTD} {R' : qTR} (hn : qcNF ≤ w.1) (hR : qc_FR R) (h : fX0_change_b65 w I L D R x0 s0 = some (r, I', L', D', R')) : qc_fm qcSX (I, L, D, R) (I', L', D', R') ∧ qc_X (qc_rm (0) 0 0) qmX0_change (qc_QM 0 0 (qc_eq (some (.int r)) w (I', L', D', R'))) 0 0 w (65, [(0, .int x0)], [.int s0], I, L, D, R) := by
  unfold fX0_change_b65 at h
  refine And.imp_right (fun hx => qc_istore_n (lv' := [(1, _), (0, _)]) (qc_at qkX0_change 33 rfl) rfl rfl <| qc_iload_n (qc_at qkX0_change 34 rfl) rfl <| hx) ?_
  refine qc_andN (qc_if_ne (qc_at qkX0_change 35 rfl)) (fun u1 => ?_) (fun u1 => ?_)
  · replace h := qc_jn u1 h
    obtain ⟨rfl, rfl, rfl, rfl, rfl⟩ := qc_some5 h
    exact ⟨qc_fm.rf _, qc_iconst (qc_at qkX0_change 42 rfl) <| qc_goto (qc_at qkX0_change 43 rfl) <| qc_iret (qc_at qkX0_change 45 rfl) rfl (Nat.le_refl _) (Nat.le_refl _) (qc_eq.rf _ _ _)⟩
  · replace h := qc_jp u1 h
    refine And.imp_right (fun hx => qc_iload_n (qc_at qkX0_change 36 rfl) rfl <| qc_sipush (qc_at qkX0_change 37 rfl) <| hx) ?_
    refine qc_andC (qc_icmp_eq (qc_at qkX0_change 38 rfl)) (fun u2 => ?_) (fun u2 => ?_)
    · replace h := qc_jp u2 h
      obtain ⟨rfl, rfl, rfl, rfl, rfl⟩ := qc_some5 h
      exact ⟨qc_fm.rf _, qc_iconst (qc_at qkX0_change 42 rfl) <| qc_goto (qc_at qkX0_change 43 rfl) <| qc_iret (qc_at qkX0_change 45 rfl) rfl (Nat.le_refl _) (Nat.le_refl _) (qc_eq.rf _ _ _)⟩
    · replace h := qc_jn u2 h
      refine And.imp_right (fun hx => qc_iload_n (qc_at qkX0_change 39 rfl) rfl <| qc_sipush (qc_at qkX0_change 40 rfl) <| hx) ?_
      refine qc_andN (qc_icmp_ne (qc_at qkX0_change 41 rfl)) (fun u3 => ?_) (fun u3 => ?_)
      · replace h := qc_jn u3 h
        obtain ⟨rfl, rfl, rfl, rfl, rfl⟩ := qc_some5 h
        exact ⟨qc_fm.rf _, qc_iconst (qc_at qkX0_change 44 rfl) <| qc_iret (qc_at qkX0_change 45 rfl) rfl (Nat.le_refl _) (Nat.le_refl _) (qc_eq.rf _ _ _)⟩
      · replace h := qc_jp u3 h
        obtain ⟨rfl, rfl, rfl, rfl, rfl⟩ := qc_some5 h
        exact ⟨qc_fm.rf _, qc_iconst (qc_at qkX0_change 42 rfl) <| qc_goto (qc_at qkX0_change 43 rfl) <| qc_iret (qc_at qkX0_change 45 rfl) rfl (Nat.le_refl _) (Nat.le_refl _) (qc_eq.rf _ _ _)⟩
def fX0_change_b60 (w : qcW) (I : qTI) (L : qTL) (D : qTD) (R : qTR) (x0 : Int32) : qcO Int32 :=
  (fX0_change_b65 w I L D R x0 (1 : Int32))
set_option maxRecDepth 100000 in
set_option maxHeartbeats 4000000 in
theorem tX0_change_b60 {w : qcW} {I : qTI} {L : qTL} {D : qTD} {R : qTR} {x0 : Int32} {r : Int32} {I' : qTI} {L' : qTL} {D' : qTD} {R' : qTR} (hn : qcNF ≤ w.1) (hR : qc_FR R) (h : fX0_change_b60 w I L D R x0 = some (r, I', L', D', R')) : qc_fm qcSX (I, L, D, R) (I', L', D', R') ∧ qc_X (qc_rm (0) 0 0) qmX0_change (qc_QM 0 0 (qc_eq (some (.int r)) w (I', L', D', R'))) 0 0 w (60, [(0, .int x0)], [], I, L, D, R) := by
  unfold fX0_change_b60 at h
  exact And.imp_right (fun hx => qc_iconst (qc_at qkX0_change 30 rfl) <| qc_goto (qc_at qkX0_change 31 rfl) <| qc_sub [0] rfl hx) (tX0_change_b65 hn hR h)
def fX0_change_b64 (w : qcW) (I : qTI) (L : qTL) (D : qTD) (R : qTR) (x0 : Int32) : qcO Int32 :=
  (fX0_change_b65 w I L D R x0 (0 : Int32))
set_option maxRecDepth 100000 in
set_option maxHeartbeats 4000000 in
theorem tX0_change_b64 {w : qcW} {I : qTI} {L : qTL} {D : qTD} {R : qTR} {x0 : Int32} {r : Int32} {I' : qTI} {L' : qTL} {D' : qTD} {R' : qTR} (hn : qcNF ≤ w.1) (hR : qc_FR R) (h : fX0_change_b64 w I L D R x0 = some (r, I', L', D', R')) : qc_fm qcSX (I, L, D, R) (I', L', D', R') ∧ qc_X (qc_rm (0) 0 0) qmX0_change (qc_QM 0 0 (qc_eq (some (.int r)) w (I', L', D', R'))) 0 0 w (64, [(0, .int x0)], [], I, L, D, R) := by
  unfold fX0_change_b64 at h
  exact And.imp_right (fun hx => qc_iconst (qc_at qkX0_change 32 rfl) <| qc_sub [0] rfl hx) (tX0_change_b65 hn hR h)
def fX0_change_b46 (w : qcW) (I : qTI) (L : qTL) (D : qTD) (R : qTR) (x0 : Int32) : qcO Int32 :=
  (if x0 ≤ (1750 : Int32) then (fX0_change_b64 w I L D R x0) else (if (1800 : Int32) ≤ x0 then (fX0_change_b64 w I L D R x0) else (fX0_change_b60 w I L D R x0)))
set_option maxRecDepth 100000 in
set_option maxHeartbeats 4000000 in
theorem tX0_change_b46 {w : qcW} {I : qTI} {L : qTL} {D : qTD} {R : qTR} {x0 : Int32} {r : Int32} {I' : qTI} {L' : qTL} {D' : qTD} {R' : qTR} (hn : qcNF ≤ w.1) (hR : qc_FR R) (h : fX0_change_b46 w I L D R x0 = some (r, I', L', D', R')) : qc_fm qcSX (I, L, D, R) (I', L', D', R') ∧ qc_X (qc_rm (0) 0 0) qmX0_change (qc_QM 0 0 (qc_eq (some (.int r)) w (I', L', D', R'))) 0 0 w (46, [(0, .int x0)], [], I, L, D, R) := by
  unfold fX0_change_b46 at h
  refine And.imp_right (fun hx => qc_iload_n (qc_at qkX0_change 24 rfl) rfl <| qc_sipush (qc_at qkX0_change 25 rfl) <| hx) ?_
  refine qc_andC (qc_icmp_le (qc_at qkX0_change 26 rfl)) (fun u4 => ?_) (fun u4 => ?_)
  · replace h := qc_jp u4 h
    exact And.imp_right (fun hx => qc_sub [0] rfl hx) (tX0_change_b64 hn hR h)
  · replace h := qc_jn u4 h
    refine And.imp_right (fun hx => qc_iload_n (qc_at qkX0_change 27 rfl) rfl <| qc_sipush (qc_at qkX0_change 28 rfl) <| hx) ?_
    refine qc_andC (qc_icmp_ge (qc_at qkX0_change 29 rfl)) (fun u5 => ?_) (fun u5 => ?_)
    · replace h := qc_jp u5 h
      exact And.imp_right (fun hx => qc_sub [0] rfl hx) (tX0_change_b64 hn hR h)
    · replace h := qc_jn u5 h
      exact And.imp_right (fun hx => qc_sub [0] rfl hx) (tX0_change_b60 hn hR h)
def fX0_change (w : qcW) (I : qTI) (L : qTL) (D : qTD) (R : qTR) (x0 : Int32) : qcO Int32 :=
  (if (10 : Int32) ≤ x0 then (if (20 : Int32) ≤ x0 then (if (100 : Int32) ≤ x0 then (if x0 < (1200 : Int32) then (fX0_change_b60 w I L D R x0) else (if x0 ≤ (1400 : Int32) then (fX0_change_b46 w I L D R x0) else (if x0 < (1500 : Int32) then (fX0_change_b60 w I L D R x0) else (fX0_change_b46 w I L D R x0)))) else (some ((-2 : Int32), I, L, D, R))) else (some ((0 : Int32), I, L, D, R))) else (some ((1 : Int32), I, L, D, R)))
set_option maxRecDepth 100000 in
set_option maxHeartbeats 4000000 in
theorem tX0_change {w : qcW} {I : qTI} {L : qTL} {D : qTD} {R : qTR} {x0 : Int32} {r : Int32} {I' : qTI} {L' : qTL} {D' : qTD} {R' : qTR} (hn : qcNF ≤ w.1) (hR : qc_FR R) (h : fX0_change w I L D R x0 = some (r, I', L', D', R')) : qc_fm qcSX (I, L, D, R) (I', L', D', R') ∧ qc_V (0) 0 0 qmX0_change [.int x0] w (I, L, D, R) (qc_eq (some (.int r)) w (I', L', D', R')) := by
  unfold fX0_change at h
  refine And.imp_right (fun hx => qc_V.of rfl rfl (Nat.le_of_ble_eq_true rfl) (lv := [(0, .int x0)]) rfl hx) ?_
  refine And.imp_right (fun hx => qc_iload_n (qc_at qkX0_change 0 rfl) rfl <| qc_bipush (qc_at qkX0_change 1 rfl) <| hx) ?_
  refine qc_andC (qc_icmp_ge (qc_at qkX0_change 2 rfl)) (fun u6 => ?_) (fun u6 => ?_)
  · replace h := qc_jp u6 h
    refine And.imp_right (fun hx => qc_iload_n (qc_at qkX0_change 5 rfl) rfl <| qc_bipush (qc_at qkX0_change 6 rfl) <| hx) ?_
    refine qc_andC (qc_icmp_ge (qc_at qkX0_change 7 rfl)) (fun u7 => ?_) (fun u7 => ?_)
    · replace h := qc_jp u7 h
      refine And.imp_right (fun hx => qc_iload_n (qc_at qkX0_change 10 rfl) rfl <| qc_bipush (qc_at qkX0_change 11 rfl) <| hx) ?_
      refine qc_andC (qc_icmp_ge (qc_at qkX0_change 12 rfl)) (fun u8 => ?_) (fun u8 => ?_)
      · replace h := qc_jp u8 h
        refine And.imp_right (fun hx => qc_iload_n (qc_at qkX0_change 15 rfl) rfl <| qc_sipush (qc_at qkX0_change 16 rfl) <| hx) ?_
        refine qc_andC (qc_icmp_lt (qc_at qkX0_change 17 rfl)) (fun u9 => ?_) (fun u9 => ?_)
        · replace h := qc_jp u9 h
          exact And.imp_right (fun hx => qc_sub [0] rfl hx) (tX0_change_b60 hn hR h)
        · replace h := qc_jn u9 h
          refine And.imp_right (fun hx => qc_iload_n (qc_at qkX0_change 18 rfl) rfl <| qc_sipush (qc_at qkX0_change 19 rfl) <| hx) ?_
          refine qc_andC (qc_icmp_le (qc_at qkX0_change 20 rfl)) (fun u10 => ?_) (fun u10 => ?_)
          · replace h := qc_jp u10 h
            exact And.imp_right (fun hx => qc_sub [0] rfl hx) (tX0_change_b46 hn hR h)
          · replace h := qc_jn u10 h
            refine And.imp_right (fun hx => qc_iload_n (qc_at qkX0_change 21 rfl) rfl <| qc_sipush (qc_at qkX0_change 22 rfl) <| hx) ?_
            refine qc_andC (qc_icmp_lt (qc_at qkX0_change 23 rfl)) (fun u11 => ?_) (fun u11 => ?_)
            · replace h := qc_jp u11 h
              exact And.imp_right (fun hx => qc_sub [0] rfl hx) (tX0_change_b60 hn hR h)
            · replace h := qc_jn u11 h
              exact And.imp_right (fun hx => qc_sub [0] rfl hx) (tX0_change_b46 hn hR h)
      · replace h := qc_jn u8 h
        obtain ⟨rfl, rfl, rfl, rfl, rfl⟩ := qc_some5 h
        exact ⟨qc_fm.rf _, qc_bipush (qc_at qkX0_change 13 rfl) <| qc_iret (qc_at qkX0_change 14 rfl) rfl (Nat.le_refl _) (Nat.le_refl _) (qc_eq.rf _ _ _)⟩
    · replace h := qc_jn u7 h
      obtain ⟨rfl, rfl, rfl, rfl, rfl⟩ := qc_some5 h
      exact ⟨qc_fm.rf _, qc_iconst (qc_at qkX0_change 8 rfl) <| qc_iret (qc_at qkX0_change 9 rfl) rfl (Nat.le_refl _) (Nat.le_refl _) (qc_eq.rf _ _ _)⟩
  · replace h := qc_jn u6 h
    obtain ⟨rfl, rfl, rfl, rfl, rfl⟩ := qc_some5 h
    exact ⟨qc_fm.rf _, qc_iconst (qc_at qkX0_change 3 rfl) <| qc_iret (qc_at qkX0_change 4 rfl) rfl (Nat.le_refl _) (Nat.le_refl _) (qc_eq.rf _ _ _)⟩
def fX0_add_b30 (w : qcW) (I : qTI) (L : qTL) (D : qTD) (R : qTR) (x0 : Nat) (x1 : Int32) : qcO Unit :=
  (qc_gd (qc_io w x0 0) <| (qc_gd (qcSX x0) <| qc_bd (fX0_change w (qc_u I x0 2 ((I x0 2) + (1 : Int32))) L D R x1) fun r3 I3 L3 D3 R3 => qc_gd (qcSX x0) <| qc_bd (fJ9_max_7cf53 w (qc_u I3 x0 3 (((qc_u I x0 2 ((I x0 2) + (1 : Int32))) x0 3) + r3)) L3 D3 R3 ((qc_u I3 x0 3 (((qc_u I x0 2 ((I x0 2) + (1 : Int32))) x0 3) + r3)) x0 4) ((qc_u I3 x0 3 (((qc_u I x0 2 ((I x0 2) + (1 : Int32))) x0 3) + r3)) x0 3)) fun r5 I5 L5 D5 R5 => qc_gd (qcSX x0) <| some ((), (qc_u I5 x0 4 r5), L5, D5, R5)))
set_option maxRecDepth 100000 in
set_option maxHeartbeats 4000000 in
theorem tX0_add_b30 {w : qcW} {I : qTI} {L : qTL} {D : qTD} {R : qTR} {x0 : Nat} {x1 : Int32} {r : Unit} {I' : qTI} {L' : qTL} {D' : qTD} {R' : qTR} (hn : qcNF ≤ w.1) (hR : qc_FR R) (h : fX0_add_b30 w I L D R x0 x1 = some (r, I', L', D', R')) : qc_fm qcSX (I, L, D, R) (I', L', D', R') ∧ qc_X (qc_rm (1) 0 0) qmX0_add (qc_QM 0 0 (qc_eq none w (I', L', D', R'))) 0 0 w (30, [(0, .ref x0), (1, .int x1)], [], I, L, D, R) := by
  unfold fX0_add_b30 at h
  obtain ⟨g1, h⟩ := qc_gd_of h
  replace g1 := qc_io_of g1
  refine And.imp_right (fun hx => qc_aload_n (qc_at qkX0_add 16 rfl) rfl <| qc_dup (qc_at qkX0_add 17 rfl) rfl <| qc_gId (qc_at qkX0_add 18 rfl) g1 rfl <| qc_iconst (qc_at qkX0_add 19 rfl) <| qc_iadd (qc_at qkX0_add 20 rfl) <| hx) ?_
  obtain ⟨g2, h⟩ := qc_gd_of h
  refine qd_pId (qc_at qkX0_add 21 rfl) g1 rfl g2 ?_
  refine And.imp_right (fun hx => qc_aload_n (qc_at qkX0_add 22 rfl) rfl <| qc_dup (qc_at qkX0_add 23 rfl) rfl <| qc_gId (qc_at qkX0_add 24 rfl) g1 rfl <| qc_iload_n (qc_at qkX0_add 25 rfl) rfl <| hx) ?_
  obtain ⟨r3, I3, L3, D3, R3, e3, h⟩ := qc_bd_of h
  have c3 := (tX0_change hn hR e3)
  refine qd_cSv (qc_at qkX0_add 26 rfl) ql_0_28 qfX0_change c3 rfl rfl (Nat.le_of_ble_eq_true rfl) (qc_rml (by decide) (by decide)) ⟨Nat.zero_le _, Nat.zero_le _⟩ ?_
  refine And.imp_right (fun hx => qc_iadd (qc_at qkX0_add 27 rfl) <| hx) ?_
  obtain ⟨g4, h⟩ := qc_gd_of h
  refine qd_pId (qc_at qkX0_add 28 rfl) g1 rfl g4 ?_
  refine And.imp_right (fun hx => qc_aload_n (qc_at qkX0_add 29 rfl) rfl <| qc_aload_n (qc_at qkX0_add 30 rfl) rfl <| qc_gId (qc_at qkX0_add 31 rfl) g1 rfl <| qc_aload_n (qc_at qkX0_add 32 rfl) rfl <| qc_gId (qc_at qkX0_add 33 rfl) g1 rfl <| hx) ?_
  obtain ⟨r5, I5, L5, D5, R5, e5, h⟩ := qc_bd_of h
  have c5 := (tJ9_max_7cf53 (sd := qcSX) hn (c3.1.1 hR) e5)
  refine qd_cSv (qc_at qkX0_add 34 rfl) ql_0_32 qfJ9_max_7cf53 c5 rfl rfl (Nat.le_of_ble_eq_true rfl) (qc_rml (by decide) (by decide)) ⟨Nat.zero_le _, Nat.zero_le _⟩ ?_
  obtain ⟨g6, h⟩ := qc_gd_of h
  refine qd_pId (qc_at qkX0_add 35 rfl) g1 rfl g6 ?_
  obtain ⟨rfl, rfl, rfl, rfl, rfl⟩ := qc_some5 h
  exact ⟨qc_fm.rf _, qc_vret (qc_at qkX0_add 36 rfl) rfl (Nat.le_refl _) (Nat.le_refl _) (qc_eq.rf _ _ _)⟩
def fX0_add (w : qcW) (I : qTI) (L : qTL) (D : qTD) (R : qTR) (x0 : Nat) (x1 : Int32) (x2 : Int32) : qcO Unit :=
  (qc_gd (qc_io w x0 0) <| (if (200 : Int32) ≤ (I x0 2) then (fX0_add_b30 w I L D R x0 x1) else (qc_gd (qc_ia w (R x0 0) 100) <| qc_gd (qc_inb (I x0 2) (w.2.2 (R x0 0))) <| qc_gd (qcSX (R x0 0)) <| qc_gd (qc_ia w (R x0 1) 100) <| qc_gd (qc_inb ((qc_u I (R x0 0) (Int32.toNatClampNeg (I x0 2)) x1) x0 2) (w.2.2 (R x0 1))) <| qc_gd (qcSX (R x0 1)) <| fX0_add_b30 w (qc_u (qc_u I (R x0 0) (Int32.toNatClampNeg (I x0 2)) x1) (R x0 1) (Int32.toNatClampNeg ((qc_u I (R x0 0) (Int32.toNatClampNeg (I x0 2)) x1) x0 2)) x2) L D R x0 x1)))
set_option maxRecDepth 100000 in
set_option maxHeartbeats 4000000 in
theorem tX0_add {w : qcW} {I : qTI} {L : qTL} {D : qTD} {R : qTR} {x0 : Nat} {x1 : Int32} {x2 : Int32} {r : Unit} {I' : qTI} {L' : qTL} {D' : qTD} {R' : qTR} (hn : qcNF ≤ w.1) (hR : qc_FR R) (h : fX0_add w I L D R x0 x1 x2 = some (r, I', L', D', R')) : qc_fm qcSX (I, L, D, R) (I', L', D', R') ∧ qc_V (1) 0 0 qmX0_add [.ref x0, .int x1, .int x2] w (I, L, D, R) (qc_eq none w (I', L', D', R')) := by
  unfold fX0_add at h
  refine And.imp_right (fun hx => qc_V.of rfl rfl (Nat.le_of_ble_eq_true rfl) (lv := [(0, .ref x0), (1, .int x1), (2, .int x2)]) rfl hx) ?_
  obtain ⟨g7, h⟩ := qc_gd_of h
  replace g7 := qc_io_of g7
  refine And.imp_right (fun hx => qc_aload_n (qc_at qkX0_add 0 rfl) rfl <| qc_gId (qc_at qkX0_add 1 rfl) g7 rfl <| qc_sipush (qc_at qkX0_add 2 rfl) <| hx) ?_
  refine qc_andC (qc_icmp_ge (qc_at qkX0_add 3 rfl)) (fun u8 => ?_) (fun u8 => ?_)
  · replace h := qc_jp u8 h
    exact And.imp_right (fun hx => qc_sub [0, 1] rfl hx) (tX0_add_b30 hn hR h)
  · replace h := qc_jn u8 h
    refine And.imp_right (fun hx => qc_aload_n (qc_at qkX0_add 4 rfl) rfl <| hx) ?_
    obtain ⟨g9, h⟩ := qc_gd_of h
    replace g9 := qc_ia_of g9
    refine And.imp_right (fun hx => qc_gRd (qc_at qkX0_add 5 rfl) g7 rfl rfl (qc_ka255 g9) <| qc_aload_n (qc_at qkX0_add 6 rfl) rfl <| qc_gId (qc_at qkX0_add 7 rfl) g7 rfl <| qc_iload_n (qc_at qkX0_add 8 rfl) rfl <| hx) ?_
    obtain ⟨g10, h⟩ := qc_gd_of h
    obtain ⟨g11, h⟩ := qc_gd_of h
    refine qd_iastd (qc_at qkX0_add 9 rfl) g9 (qc_inb_in g10) g11 ?_
    refine And.imp_right (fun hx => qc_aload_n (qc_at qkX0_add 10 rfl) rfl <| hx) ?_
    obtain ⟨g12, h⟩ := qc_gd_of h
    replace g12 := qc_ia_of g12
    refine And.imp_right (fun hx => qc_gRd (qc_at qkX0_add 11 rfl) g7 rfl rfl (qc_ka255 g12) <| qc_aload_n (qc_at qkX0_add 12 rfl) rfl <| qc_gId (qc_at qkX0_add 13 rfl) g7 rfl <| qc_iload_n (qc_at qkX0_add 14 rfl) rfl <| hx) ?_
    obtain ⟨g13, h⟩ := qc_gd_of h
    obtain ⟨g14, h⟩ := qc_gd_of h
    refine qd_iastd (qc_at qkX0_add 15 rfl) g12 (qc_inb_in g13) g14 ?_
    exact And.imp_right (fun hx => qc_sub [0, 1] rfl hx) (tX0_add_b30 hn hR h)
def fX0_addJump (w : qcW) (I : qTI) (L : qTL) (D : qTD) (R : qTR) (x0 : Nat) (x1 : Int32) : qcO Int32 :=
  (qc_gd (qc_io w x0 0) <| (qc_bd (fX0_add w I L D R x0 x1 (0 : Int32)) fun r2 I2 L2 D2 R2 => some (((I2 x0 2) - (1 : Int32)), I2, L2, D2, R2)))
set_option maxRecDepth 100000 in
set_option maxHeartbeats 4000000 in
theorem tX0_addJump {w : qcW} {I : qTI} {L : qTL} {D : qTD} {R : qTR} {x0 : Nat} {x1 : Int32} {r : Int32} {I' : qTI} {L' : qTL} {D' : qTD} {R' : qTR} (hn : qcNF ≤ w.1) (hR : qc_FR R) (h : fX0_addJump w I L D R x0 x1 = some (r, I', L', D', R')) : qc_fm qcSX (I, L, D, R) (I', L', D', R') ∧ qc_V (2) 0 0 qmX0_addJump [.ref x0, .int x1] w (I, L, D, R) (qc_eq (some (.int r)) w (I', L', D', R')) := by
  unfold fX0_addJump at h
  refine And.imp_right (fun hx => qc_V.of rfl rfl (Nat.le_of_ble_eq_true rfl) (lv := [(0, .ref x0), (1, .int x1)]) rfl hx) ?_
  obtain ⟨g1, h⟩ := qc_gd_of h
  replace g1 := qc_io_of g1
  refine And.imp_right (fun hx => qc_aload_n (qc_at qkX0_addJump 0 rfl) rfl <| qc_iload_n (qc_at qkX0_addJump 1 rfl) rfl <| qc_iconst (qc_at qkX0_addJump 2 rfl) <| hx) ?_
  obtain ⟨r2, I2, L2, D2, R2, e2, h⟩ := qc_bd_of h
  have c2 := (tX0_add hn hR e2)
  refine qd_cVn (ci := 0) (qc_at qkX0_addJump 3 rfl) ql_0_38 qfX0_add g1 rfl c2 rfl rfl (Nat.le_of_ble_eq_true rfl) (qc_rml (by decide) (by decide)) ⟨Nat.zero_le _, Nat.zero_le _⟩ ?_
  obtain ⟨rfl, rfl, rfl, rfl, rfl⟩ := qc_some5 h
  exact ⟨qc_fm.rf _, qc_aload_n (qc_at qkX0_addJump 4 rfl) rfl <| qc_gId (qc_at qkX0_addJump 5 rfl) g1 rfl <| qc_iconst (qc_at qkX0_addJump 6 rfl) <| qc_isub (qc_at qkX0_addJump 7 rfl) <| qc_iret (qc_at qkX0_addJump 8 rfl) rfl (Nat.le_refl _) (Nat.le_refl _) (qc_eq.rf _ _ _)⟩
def fX0_aim (w : qcW) (I : qTI) (L : qTL) (D : qTD) (R : qTR) (x0 : Nat) (x1 : Int32) : qcO Unit :=
  (qc_gd (qc_io w x0 0) <| (if x1 < 0 then (some ((), I, L, D, R)) else (if (200 : Int32) ≤ x1 then (some ((), I, L, D, R)) else (qc_gd (qc_ia w (R x0 1) 100) <| qc_gd (qc_inb x1 (w.2.2 (R x0 1))) <| qc_gd (qcSX (R x0 1)) <| some ((), (qc_u I (R x0 1) (Int32.toNatClampNeg x1) (I x0 2)), L, D, R)))))
set_option maxRecDepth 100000 in
set_option maxHeartbeats 4000000 in
theorem tX0_aim {w : qcW} {I : qTI} {L : qTL} {D : qTD} {R : qTR} {x0 : Nat} {x1 : Int32} {r : Unit} {I' : qTI} {L' : qTL} {D' : qTD} {R' : qTR} (hn : qcNF ≤ w.1) (hR : qc_FR R) (h : fX0_aim w I L D R x0 x1 = some (r, I', L', D', R')) : qc_fm qcSX (I, L, D, R) (I', L', D', R') ∧ qc_V (0) 0 0 qmX0_aim [.ref x0, .int x1] w (I, L, D, R) (qc_eq none w (I', L', D', R')) := by
  unfold fX0_aim at h
  refine And.imp_right (fun hx => qc_V.of rfl rfl (Nat.le_of_ble_eq_true rfl) (lv := [(0, .ref x0), (1, .int x1)]) rfl hx) ?_
  obtain ⟨g1, h⟩ := qc_gd_of h
  replace g1 := qc_io_of g1
  refine And.imp_right (fun hx => qc_iload_n (qc_at qkX0_aim 0 rfl) rfl <| hx) ?_
  refine qc_andC (qc_if_lt (qc_at qkX0_aim 1 rfl)) (fun u2 => ?_) (fun u2 => ?_)
  · replace h := qc_jp u2 h
    obtain ⟨rfl, rfl, rfl, rfl, rfl⟩ := qc_some5 h
    exact ⟨qc_fm.rf _, qc_vret (qc_at qkX0_aim 11 rfl) rfl (Nat.le_refl _) (Nat.le_refl _) (qc_eq.rf _ _ _)⟩
  · replace h := qc_jn u2 h
    refine And.imp_right (fun hx => qc_iload_n (qc_at qkX0_aim 2 rfl) rfl <| qc_sipush (qc_at qkX0_aim 3 rfl) <| hx) ?_
    refine qc_andC (qc_icmp_ge (qc_at qkX0_aim 4 rfl)) (fun u3 => ?_) (fun u3 => ?_)
    · replace h := qc_jp u3 h
      obtain ⟨rfl, rfl, rfl, rfl, rfl⟩ := qc_some5 h
      exact ⟨qc_fm.rf _, qc_vret (qc_at qkX0_aim 11 rfl) rfl (Nat.le_refl _) (Nat.le_refl _) (qc_eq.rf _ _ _)⟩
    · replace h := qc_jn u3 h
      refine And.imp_right (fun hx => qc_aload_n (qc_at qkX0_aim 5 rfl) rfl <| hx) ?_
      obtain ⟨g4, h⟩ := qc_gd_of h
      replace g4 := qc_ia_of g4
      refine And.imp_right (fun hx => qc_gRd (qc_at qkX0_aim 6 rfl) g1 rfl rfl (qc_ka255 g4) <| qc_iload_n (qc_at qkX0_aim 7 rfl) rfl <| qc_aload_n (qc_at qkX0_aim 8 rfl) rfl <| qc_gId (qc_at qkX0_aim 9 rfl) g1 rfl <| hx) ?_
      obtain ⟨g5, h⟩ := qc_gd_of h
      obtain ⟨g6, h⟩ := qc_gd_of h
      refine qd_iastd (qc_at qkX0_aim 10 rfl) g4 (qc_inb_in g5) g6 ?_
      obtain ⟨rfl, rfl, rfl, rfl, rfl⟩ := qc_some5 h
      exact ⟨qc_fm.rf _, qc_vret (qc_at qkX0_aim 11 rfl) rfl (Nat.le_refl _) (Nat.le_refl _) (qc_eq.rf _ _ _)⟩
def fX0_otherWay (w : qcW) (I : qTI) (L : qTL) (D : qTD) (R : qTR) (x0 : Nat) : qcO Unit :=
  (qc_gd (qc_io w x0 0) <| (qc_gd (qcSX x0) <| some ((), (qc_u I x0 3 ((I x0 3) - (1 : Int32))), L, D, R)))
set_option maxRecDepth 100000 in
set_option maxHeartbeats 4000000 in
theorem tX0_otherWay {w : qcW} {I : qTI} {L : qTL} {D : qTD} {R : qTR} {x0 : Nat} {r : Unit} {I' : qTI} {L' : qTL} {D' : qTD} {R' : qTR} (hn : qcNF ≤ w.1) (hR : qc_FR R) (h : fX0_otherWay w I L D R x0 = some (r, I', L', D', R')) : qc_fm qcSX (I, L, D, R) (I', L', D', R') ∧ qc_V (0) 0 0 qmX0_otherWay [.ref x0] w (I, L, D, R) (qc_eq none w (I', L', D', R')) := by
  unfold fX0_otherWay at h
  refine And.imp_right (fun hx => qc_V.of rfl rfl (Nat.le_of_ble_eq_true rfl) (lv := [(0, .ref x0)]) rfl hx) ?_
  obtain ⟨g1, h⟩ := qc_gd_of h
  replace g1 := qc_io_of g1
  refine And.imp_right (fun hx => qc_aload_n (qc_at qkX0_otherWay 0 rfl) rfl <| qc_dup (qc_at qkX0_otherWay 1 rfl) rfl <| qc_gId (qc_at qkX0_otherWay 2 rfl) g1 rfl <| qc_iconst (qc_at qkX0_otherWay 3 rfl) <| qc_isub (qc_at qkX0_otherWay 4 rfl) <| hx) ?_
  obtain ⟨g2, h⟩ := qc_gd_of h
  refine qd_pId (qc_at qkX0_otherWay 5 rfl) g1 rfl g2 ?_
  obtain ⟨rfl, rfl, rfl, rfl, rfl⟩ := qc_some5 h
  exact ⟨qc_fm.rf _, qc_vret (qc_at qkX0_otherWay 6 rfl) rfl (Nat.le_refl _) (Nat.le_refl _) (qc_eq.rf _ _ _)⟩
def fX0_conversion (w : qcW) (I : qTI) (L : qTL) (D : qTD) (R : qTR) (x0 : Int32) (x1 : Int32) : qcO Int32 :=
  (some ((((1600 : Int32) + ((10 : Int32) * x0)) + x1), I, L, D, R))
set_option maxRecDepth 100000 in
set_option maxHeartbeats 4000000 in
theorem tX0_conversion {w : qcW} {I : qTI} {L : qTL} {D : qTD} {R : qTR} {x0 : Int32} {x1 : Int32} {r : Int32} {I' : qTI} {L' : qTL} {D' : qTD} {R' : qTR} (hn : qcNF ≤ w.1) (hR : qc_FR R) (h : fX0_conversion w I L D R x0 x1 = some (r, I', L', D', R')) : qc_fm qcSX (I, L, D, R) (I', L', D', R') ∧ qc_V (0) 0 0 qmX0_conversion [.int x0, .int x1] w (I, L, D, R) (qc_eq (some (.int r)) w (I', L', D', R')) := by
  unfold fX0_conversion at h
  refine And.imp_right (fun hx => qc_V.of rfl rfl (Nat.le_of_ble_eq_true rfl) (lv := [(0, .int x0), (1, .int x1)]) rfl hx) ?_
  obtain ⟨rfl, rfl, rfl, rfl, rfl⟩ := qc_some5 h
  exact ⟨qc_fm.rf _, qc_sipush (qc_at qkX0_conversion 0 rfl) <| qc_bipush (qc_at qkX0_conversion 1 rfl) <| qc_iload_n (qc_at qkX0_conversion 2 rfl) rfl <| qc_imul (qc_at qkX0_conversion 3 rfl) <| qc_iadd (qc_at qkX0_conversion 4 rfl) <| qc_iload_n (qc_at qkX0_conversion 5 rfl) rfl <| qc_iadd (qc_at qkX0_conversion 6 rfl) <| qc_iret (qc_at qkX0_conversion 7 rfl) rfl (Nat.le_refl _) (Nat.le_refl _) (qc_eq.rf _ _ _)⟩
def fX0_convert (w : qcW) (I : qTI) (L : qTL) (D : qTD) (R : qTR) (x0 : Nat) (x1 : Int32) (x2 : Int32) : qcO Unit :=
  (qc_gd (qc_io w x0 0) <| (if x1 = x2 then (some ((), I, L, D, R)) else (qc_bd (fX0_conversion w I L D R x1 x2) fun r3 I3 L3 D3 R3 => qc_bd (fX0_add w I3 L3 D3 R3 x0 r3 (0 : Int32)) fun r4 I4 L4 D4 R4 => some ((), I4, L4, D4, R4))))
set_option maxRecDepth 100000 in
set_option maxHeartbeats 4000000 in
theorem tX0_convert {w : qcW} {I : qTI} {L : qTL} {D : qTD} {R : qTR} {x0 : Nat} {x1 : Int32} {x2 : Int32} {r : Unit} {I' : qTI} {L' : qTL} {D' : qTD} {R' : qTR} (hn : qcNF ≤ w.1) (hR : qc_FR R) (h : fX0_convert w I L D R x0 x1 x2 = some (r, I', L', D', R')) : qc_fm qcSX (I, L, D, R) (I', L', D', R') ∧ qc_V (2) 0 0 qmX0_convert [.ref x0, .int x1, .int x2] w (I, L, D, R) (qc_eq none w (I', L', D', R')) := by
  unfold fX0_convert at h
  refine And.imp_right (fun hx => qc_V.of rfl rfl (Nat.le_of_ble_eq_true rfl) (lv := [(0, .ref x0), (1, .int x1), (2, .int x2)]) rfl hx) ?_
  obtain ⟨g1, h⟩ := qc_gd_of h
  replace g1 := qc_io_of g1
  refine And.imp_right (fun hx => qc_iload_n (qc_at qkX0_convert 0 rfl) rfl <| qc_iload_n (qc_at qkX0_convert 1 rfl) rfl <| hx) ?_
  refine qc_andC (qc_icmp_eq (qc_at qkX0_convert 2 rfl)) (fun u2 => ?_) (fun u2 => ?_)
  · replace h := qc_jp u2 h
    obtain ⟨rfl, rfl, rfl, rfl, rfl⟩ := qc_some5 h
    exact ⟨qc_fm.rf _, qc_vret (qc_at qkX0_convert 9 rfl) rfl (Nat.le_refl _) (Nat.le_refl _) (qc_eq.rf _ _ _)⟩
  · replace h := qc_jn u2 h
    refine And.imp_right (fun hx => qc_aload_n (qc_at qkX0_convert 3 rfl) rfl <| qc_iload_n (qc_at qkX0_convert 4 rfl) rfl <| qc_iload_n (qc_at qkX0_convert 5 rfl) rfl <| hx) ?_
    obtain ⟨r3, I3, L3, D3, R3, e3, h⟩ := qc_bd_of h
    have c3 := (tX0_conversion hn hR e3)
    refine qd_cSv (qc_at qkX0_convert 6 rfl) ql_0_42 qfX0_conversion c3 rfl rfl (Nat.le_of_ble_eq_true rfl) (qc_rml (by decide) (by decide)) ⟨Nat.zero_le _, Nat.zero_le _⟩ ?_
    refine And.imp_right (fun hx => qc_iconst (qc_at qkX0_convert 7 rfl) <| hx) ?_
    obtain ⟨r4, I4, L4, D4, R4, e4, h⟩ := qc_bd_of h
    have c4 := (tX0_add hn (c3.1.1 hR) e4)
    refine qd_cVn (ci := 0) (qc_at qkX0_convert 8 rfl) ql_0_38 qfX0_add g1 rfl c4 rfl rfl (Nat.le_of_ble_eq_true rfl) (qc_rml (by decide) (by decide)) ⟨Nat.zero_le _, Nat.zero_le _⟩ ?_
    obtain ⟨rfl, rfl, rfl, rfl, rfl⟩ := qc_some5 h
    exact ⟨qc_fm.rf _, qc_vret (qc_at qkX0_convert 9 rfl) rfl (Nat.le_refl _) (Nat.le_refl _) (qc_eq.rf _ _ _)⟩
def fX0_moveGoals_b54 (w : qcW) (k2 : qTI × qTL × qTD × qTR × Nat × Int32 × Int32 → qcO Unit) (I : qTI) (L : qTL) (D : qTD) (R : qTR) (x0 : Nat) (x1 : Int32) (x2 : Int32) : qcO Unit :=
  (qc_gd (qc_io w x0 0) <| (k2 (I, L, D, R, x0, x1, (x2 + (1)))))
set_option maxRecDepth 100000 in
set_option maxHeartbeats 4000000 in
theorem tX0_moveGoals_b54 {w : qcW} {I : qTI} {L : qTL} {D : qTD} {R : qTR} {k2 : qTI × qTL × qTD × qTR × Nat × Int32 × Int32 → qcO Unit} {x0 : Nat} {x1 : Int32} {x2 : Int32} {r : Unit} {I' : qTI} {L' : qTL} {D' : qTD} {R' : qTR} (hn : qcNF ≤ w.1) (hR : qc_FR R) (hk2 : ∀ {I : qTI} {L : qTL} {D : qTD} {R : qTR} {x0 : Nat} {x1 : Int32} {x2 : Int32} {r : Unit} {I' : qTI} {L' : qTL} {D' : qTD} {R' : qTR}, qc_FR R → k2 (I, L, D, R, x0, x1, x2) = some (r, I', L', D', R') → qc_fm qcSX (I, L, D, R) (I', L', D', R') ∧ qc_X (qc_rm (0) 0 0) qmX0_moveGoals (qc_QM 0 0 (qc_eq none w (I', L', D', R'))) 0 0 w (2, [(0, .ref x0), (1, .int x1), (2, .int x2)], [], I, L, D, R)) (h : fX0_moveGoals_b54 w k2 I L D R x0 x1 x2 = some (r, I', L', D', R')) : qc_fm qcSX (I, L, D, R) (I', L', D', R') ∧ qc_X (qc_rm (0) 0 0) qmX0_moveGoals (qc_QM 0 0 (qc_eq none w (I', L', D', R'))) 0 0 w (54, [(0, .ref x0), (1, .int x1), (2, .int x2)], [], I, L, D, R) := by
  unfold fX0_moveGoals_b54 at h
  obtain ⟨g1, h⟩ := qc_gd_of h
  replace g1 := qc_io_of g1
  exact And.imp_right (fun hx => qc_iinc (lv' := [(2, _), (0, _), (1, _)]) (qc_at qkX0_moveGoals 32 rfl) rfl rfl rfl <| qc_goto (qc_at qkX0_moveGoals 33 rfl) <| qc_sub [1, 2, 0] rfl hx) (hk2 hR h)
def fX0_moveGoals_b2 (w : qcW) (k2 : qTI × qTL × qTD × qTR × Nat × Int32 × Int32 → qcO Unit) (I : qTI) (L : qTL) (D : qTD) (R : qTR) (x0 : Nat) (x1 : Int32) (x2 : Int32) : qcO Unit :=
  (qc_gd (qc_io w x0 0) <| (if (I x0 2) < x2 then (some ((), I, L, D, R)) else (qc_gd (qc_ia w (R x0 0) 100) <| qc_gd (qc_inb x2 (w.2.2 (R x0 0))) <| if (I (R x0 0) (Int32.toNatClampNeg x2)) < (1800 : Int32) then (fX0_moveGoals_b54 w k2 I L D R x0 x1 x2) else (qc_gd (qc_ia w (R x0 0) 100) <| qc_gd (qc_inb x2 (w.2.2 (R x0 0))) <| if (1802 : Int32) < (I (R x0 0) (Int32.toNatClampNeg x2)) then (fX0_moveGoals_b54 w k2 I L D R x0 x1 x2) else (qc_gd (qc_ia w (R x0 1) 100) <| qc_gd (qc_inb x2 (w.2.2 (R x0 1))) <| if (I (R x0 1) (Int32.toNatClampNeg x2)) ≤ x1 then (fX0_moveGoals_b54 w k2 I L D R x0 x1 x2) else (qc_gd (qc_ia w (R x0 1) 100) <| qc_gd (qc_inb x2 (w.2.2 (R x0 1))) <| qc_gd (qc_inb x2 (w.2.2 (R x0 1))) <| qc_gd (qcSX (R x0 1)) <| fX0_moveGoals_b54 w k2 (qc_u I (R x0 1) (Int32.toNatClampNeg x2) ((I (R x0 1) (Int32.toNatClampNeg x2)) + (1 : Int32))) L D R x0 x1 x2))))))
set_option maxRecDepth 100000 in
set_option maxHeartbeats 4000000 in
theorem tX0_moveGoals_b2 {w : qcW} {I : qTI} {L : qTL} {D : qTD} {R : qTR} {k2 : qTI × qTL × qTD × qTR × Nat × Int32 × Int32 → qcO Unit} {x0 : Nat} {x1 : Int32} {x2 : Int32} {r : Unit} {I' : qTI} {L' : qTL} {D' : qTD} {R' : qTR} (hn : qcNF ≤ w.1) (hR : qc_FR R) (hk2 : ∀ {I : qTI} {L : qTL} {D : qTD} {R : qTR} {x0 : Nat} {x1 : Int32} {x2 : Int32} {r : Unit} {I' : qTI} {L' : qTL} {D' : qTD} {R' : qTR}, qc_FR R → k2 (I, L, D, R, x0, x1, x2) = some (r, I', L', D', R') → qc_fm qcSX (I, L, D, R) (I', L', D', R') ∧ qc_X (qc_rm (0) 0 0) qmX0_moveGoals (qc_QM 0 0 (qc_eq none w (I', L', D', R'))) 0 0 w (2, [(0, .ref x0), (1, .int x1), (2, .int x2)], [], I, L, D, R)) (h : fX0_moveGoals_b2 w k2 I L D R x0 x1 x2 = some (r, I', L', D', R')) : qc_fm qcSX (I, L, D, R) (I', L', D', R') ∧ qc_X (qc_rm (0) 0 0) qmX0_moveGoals (qc_QM 0 0 (qc_eq none w (I', L', D', R'))) 0 0 w (2, [(0, .ref x0), (1, .int x1), (2, .int x2)], [], I, L, D, R) := by
  unfold fX0_moveGoals_b2 at h
  obtain ⟨g2, h⟩ := qc_gd_of h
  replace g2 := qc_io_of g2
  refine And.imp_right (fun hx => qc_iload_n (qc_at qkX0_moveGoals 2 rfl) rfl <| qc_aload_n (qc_at qkX0_moveGoals 3 rfl) rfl <| qc_gId (qc_at qkX0_moveGoals 4 rfl) g2 rfl <| hx) ?_
  refine qc_andC (qc_icmp_gt (qc_at qkX0_moveGoals 5 rfl)) (fun u3 => ?_) (fun u3 => ?_)
  · replace h := qc_jp u3 h
    obtain ⟨rfl, rfl, rfl, rfl, rfl⟩ := qc_some5 h
    exact ⟨qc_fm.rf _, qc_vret (qc_at qkX0_moveGoals 34 rfl) rfl (Nat.le_refl _) (Nat.le_refl _) (qc_eq.rf _ _ _)⟩
  · replace h := qc_jn u3 h
    refine And.imp_right (fun hx => qc_aload_n (qc_at qkX0_moveGoals 6 rfl) rfl <| hx) ?_
    obtain ⟨g4, h⟩ := qc_gd_of h
    replace g4 := qc_ia_of g4
    refine And.imp_right (fun hx => qc_gRd (qc_at qkX0_moveGoals 7 rfl) g2 rfl rfl (qc_ka255 g4) <| qc_iload_n (qc_at qkX0_moveGoals 8 rfl) rfl <| hx) ?_
    obtain ⟨g5, h⟩ := qc_gd_of h
    refine And.imp_right (fun hx => qc_ialdd (qc_at qkX0_moveGoals 9 rfl) g4 (qc_inb_in g5) <| qc_sipush (qc_at qkX0_moveGoals 10 rfl) <| hx) ?_
    refine qc_andC (qc_icmp_lt (qc_at qkX0_moveGoals 11 rfl)) (fun u6 => ?_) (fun u6 => ?_)
    · replace h := qc_jp u6 h
      exact And.imp_right (fun hx => qc_sub [0, 1, 2] rfl hx) (tX0_moveGoals_b54 hn hR hk2 h)
    · replace h := qc_jn u6 h
      refine And.imp_right (fun hx => qc_aload_n (qc_at qkX0_moveGoals 12 rfl) rfl <| hx) ?_
      obtain ⟨g7, h⟩ := qc_gd_of h
      replace g7 := qc_ia_of g7
      refine And.imp_right (fun hx => qc_gRd (qc_at qkX0_moveGoals 13 rfl) g2 rfl rfl (qc_ka255 g7) <| qc_iload_n (qc_at qkX0_moveGoals 14 rfl) rfl <| hx) ?_
      obtain ⟨g8, h⟩ := qc_gd_of h
      refine And.imp_right (fun hx => qc_ialdd (qc_at qkX0_moveGoals 15 rfl) g7 (qc_inb_in g8) <| qc_sipush (qc_at qkX0_moveGoals 16 rfl) <| hx) ?_
      refine qc_andC (qc_icmp_gt (qc_at qkX0_moveGoals 17 rfl)) (fun u9 => ?_) (fun u9 => ?_)
      · replace h := qc_jp u9 h
        exact And.imp_right (fun hx => qc_sub [0, 1, 2] rfl hx) (tX0_moveGoals_b54 hn hR hk2 h)
      · replace h := qc_jn u9 h
        refine And.imp_right (fun hx => qc_aload_n (qc_at qkX0_moveGoals 18 rfl) rfl <| hx) ?_
        obtain ⟨g10, h⟩ := qc_gd_of h
        replace g10 := qc_ia_of g10
        refine And.imp_right (fun hx => qc_gRd (qc_at qkX0_moveGoals 19 rfl) g2 rfl rfl (qc_ka255 g10) <| qc_iload_n (qc_at qkX0_moveGoals 20 rfl) rfl <| hx) ?_
        obtain ⟨g11, h⟩ := qc_gd_of h
        refine And.imp_right (fun hx => qc_ialdd (qc_at qkX0_moveGoals 21 rfl) g10 (qc_inb_in g11) <| qc_iload_n (qc_at qkX0_moveGoals 22 rfl) rfl <| hx) ?_
        refine qc_andC (qc_icmp_le (qc_at qkX0_moveGoals 23 rfl)) (fun u12 => ?_) (fun u12 => ?_)
        · replace h := qc_jp u12 h
          exact And.imp_right (fun hx => qc_sub [0, 1, 2] rfl hx) (tX0_moveGoals_b54 hn hR hk2 h)
        · replace h := qc_jn u12 h
          refine And.imp_right (fun hx => qc_aload_n (qc_at qkX0_moveGoals 24 rfl) rfl <| hx) ?_
          obtain ⟨g13, h⟩ := qc_gd_of h
          replace g13 := qc_ia_of g13
          refine And.imp_right (fun hx => qc_gRd (qc_at qkX0_moveGoals 25 rfl) g2 rfl rfl (qc_ka255 g13) <| qc_iload_n (qc_at qkX0_moveGoals 26 rfl) rfl <| qc_dup2_11 (qc_at qkX0_moveGoals 27 rfl) rfl rfl <| hx) ?_
          obtain ⟨g14, h⟩ := qc_gd_of h
          refine And.imp_right (fun hx => qc_ialdd (qc_at qkX0_moveGoals 28 rfl) g13 (qc_inb_in g14) <| qc_iconst (qc_at qkX0_moveGoals 29 rfl) <| qc_iadd (qc_at qkX0_moveGoals 30 rfl) <| hx) ?_
          obtain ⟨g15, h⟩ := qc_gd_of h
          obtain ⟨g16, h⟩ := qc_gd_of h
          refine qd_iastd (qc_at qkX0_moveGoals 31 rfl) g13 (qc_inb_in g15) g16 ?_
          exact And.imp_right (fun hx => qc_sub [0, 1, 2] rfl hx) (tX0_moveGoals_b54 hn hR hk2 h)
def fX0_moveGoals_l2 (w : qcW) : Nat → qTI × qTL × qTD × qTR × Nat × Int32 × Int32 → qcO Unit := qc_lp (fun k q => match q with | (I, L, D, R, x0, x1, x2) => fX0_moveGoals_b2 w k I L D R x0 x1 x2)
set_option maxRecDepth 100000 in
set_option maxHeartbeats 4000000 in
theorem tX0_moveGoals_l2 {w : qcW} (hn : qcNF ≤ w.1) : ∀ (n : Nat) {r : Unit} {I' : qTI} {L' : qTL} {D' : qTD} {R' : qTR} {I : qTI} {L : qTL} {D : qTD} {R : qTR} {x0 : Nat} {x1 : Int32} {x2 : Int32} (hR : qc_FR R) (h : fX0_moveGoals_l2 w n (I, L, D, R, x0, x1, x2) = some (r, I', L', D', R')), qc_fm qcSX (I, L, D, R) (I', L', D', R') ∧ qc_X (qc_rm (0) 0 0) qmX0_moveGoals (qc_QM 0 0 (qc_eq none w (I', L', D', R'))) 0 0 w (2, [(0, .ref x0), (1, .int x1), (2, .int x2)], [], I, L, D, R) := by
  intro n
  induction n with
  | zero => intro _ _ _ _ _ _ _ _ _ _ _ _ _ h; cases h
  | succ n ih => intro _ _ _ _ _ _ _ _ _ _ _ _ hR h; exact tX0_moveGoals_b2 hn hR (k2 := fX0_moveGoals_l2 w n) (fun hR h => ih hR h) h
def fX0_moveGoals (w : qcW) (I : qTI) (L : qTL) (D : qTD) (R : qTR) (x0 : Nat) (x1 : Int32) : qcO Unit :=
  (qc_gd (qc_io w x0 0) <| (fX0_moveGoals_l2 w qcF (I, L, D, R, x0, x1, (0 : Int32))))
set_option maxRecDepth 100000 in
set_option maxHeartbeats 4000000 in
theorem tX0_moveGoals {w : qcW} {I : qTI} {L : qTL} {D : qTD} {R : qTR} {x0 : Nat} {x1 : Int32} {r : Unit} {I' : qTI} {L' : qTL} {D' : qTD} {R' : qTR} (hn : qcNF ≤ w.1) (hR : qc_FR R) (h : fX0_moveGoals w I L D R x0 x1 = some (r, I', L', D', R')) : qc_fm qcSX (I, L, D, R) (I', L', D', R') ∧ qc_V (0) 0 0 qmX0_moveGoals [.ref x0, .int x1] w (I, L, D, R) (qc_eq none w (I', L', D', R')) := by
  unfold fX0_moveGoals at h
  refine And.imp_right (fun hx => qc_V.of rfl rfl (Nat.le_of_ble_eq_true rfl) (lv := [(0, .ref x0), (1, .int x1)]) rfl hx) ?_
  obtain ⟨g17, h⟩ := qc_gd_of h
  replace g17 := qc_io_of g17
  exact And.imp_right (fun hx => qc_iconst (qc_at qkX0_moveGoals 0 rfl) <| qc_istore_n (lv' := [(2, _), (0, _), (1, _)]) (qc_at qkX0_moveGoals 1 rfl) rfl rfl <| qc_sub [1, 2, 0] rfl hx) (tX0_moveGoals_l2 hn qcF hR h)
def fX0_convertAt_b89 (w : qcW) (I : qTI) (L : qTL) (D : qTD) (R : qTR) (x0 : Nat) : qcO Unit :=
  (qc_gd (qc_io w x0 0) <| (qc_gd (qcSX x0) <| some ((), (qc_u I x0 2 ((I x0 2) + (1 : Int32))), L, D, R)))
set_option maxRecDepth 100000 in
set_option maxHeartbeats 4000000 in
theorem tX0_convertAt_b89 {w : qcW} {I : qTI} {L : qTL} {D : qTD} {R : qTR} {x0 : Nat} {r : Unit} {I' : qTI} {L' : qTL} {D' : qTD} {R' : qTR} (hn : qcNF ≤ w.1) (hR : qc_FR R) (h : fX0_convertAt_b89 w I L D R x0 = some (r, I', L', D', R')) : qc_fm qcSX (I, L, D, R) (I', L', D', R') ∧ qc_X (qc_rm (1) 0 0) qmX0_convertAt (qc_QM 0 0 (qc_eq none w (I', L', D', R'))) 0 0 w (89, [(0, .ref x0)], [], I, L, D, R) := by
  unfold fX0_convertAt_b89 at h
  obtain ⟨g1, h⟩ := qc_gd_of h
  replace g1 := qc_io_of g1
  refine And.imp_right (fun hx => qc_aload_n (qc_at qkX0_convertAt 51 rfl) rfl <| qc_dup (qc_at qkX0_convertAt 52 rfl) rfl <| qc_gId (qc_at qkX0_convertAt 53 rfl) g1 rfl <| qc_iconst (qc_at qkX0_convertAt 54 rfl) <| qc_iadd (qc_at qkX0_convertAt 55 rfl) <| hx) ?_
  obtain ⟨g2, h⟩ := qc_gd_of h
  refine qd_pId (qc_at qkX0_convertAt 56 rfl) g1 rfl g2 ?_
  obtain ⟨rfl, rfl, rfl, rfl, rfl⟩ := qc_some5 h
  exact ⟨qc_fm.rf _, qc_vret (qc_at qkX0_convertAt 57 rfl) rfl (Nat.le_refl _) (Nat.le_refl _) (qc_eq.rf _ _ _)⟩
def fX0_convertAt_b22 (w : qcW) (k22 : qTI × qTL × qTD × qTR × Nat × Int32 × Int32 × Int32 × Int32 → qcO Unit) (I : qTI) (L : qTL) (D : qTD) (R : qTR) (x0 : Nat) (x1 : Int32) (x2 : Int32) (x3 : Int32) (x4 : Int32) : qcO Unit :=
  (qc_gd (qc_io w x0 0) <| (if x4 ≤ x1 then (qc_gd (qc_ia w (R x0 0) 100) <| qc_bd (fX0_conversion w I L D R x2 x3) fun r6 I6 L6 D6 R6 => qc_gd (qc_inb x1 (w.2.2 (R x0 0))) <| qc_gd (qcSX (R x0 0)) <| qc_gd (qc_ia w (R6 x0 1) 100) <| qc_gd (qc_inb x1 (w.2.2 (R6 x0 1))) <| qc_gd (qcSX (R6 x0 1)) <| qc_bd (fX0_moveGoals w (qc_u (qc_u I6 (R x0 0) (Int32.toNatClampNeg x1) r6) (R6 x0 1) (Int32.toNatClampNeg x1) (0 : Int32)) L6 D6 R6 x0 x1) fun r12 I12 L12 D12 R12 => fX0_convertAt_b89 w I12 L12 D12 R12 x0) else (qc_gd (qc_ia w (R x0 0) 100) <| qc_gd (qc_ia w (R x0 0) 100) <| qc_gd (qc_inb (x4 - (1 : Int32)) (w.2.2 (R x0 0))) <| qc_gd (qc_inb x4 (w.2.2 (R x0 0))) <| qc_gd (qcSX (R x0 0)) <| qc_gd (qc_ia w (R x0 1) 100) <| qc_gd (qc_ia w (R x0 1) 100) <| qc_gd (qc_inb (x4 - (1 : Int32)) (w.2.2 (R x0 1))) <| qc_gd (qc_inb x4 (w.2.2 (R x0 1))) <| qc_gd (qcSX (R x0 1)) <| k22 ((qc_u (qc_u I (R x0 0) (Int32.toNatClampNeg x4) (I (R x0 0) (Int32.toNatClampNeg (x4 - (1 : Int32))))) (R x0 1) (Int32.toNatClampNeg x4) ((qc_u I (R x0 0) (Int32.toNatClampNeg x4) (I (R x0 0) (Int32.toNatClampNeg (x4 - (1 : Int32))))) (R x0 1) (Int32.toNatClampNeg (x4 - (1 : Int32))))), L, D, R, x0, x1, x2, x3, (x4 + (-1))))))
set_option maxRecDepth 100000 in
set_option maxHeartbeats 4000000 in
theorem tX0_convertAt_b22 {w : qcW} {I : qTI} {L : qTL} {D : qTD} {R : qTR} {k22 : qTI × qTL × qTD × qTR × Nat × Int32 × Int32 × Int32 × Int32 → qcO Unit} {x0 : Nat} {x1 : Int32} {x2 : Int32} {x3 : Int32} {x4 : Int32} {r : Unit} {I' : qTI} {L' : qTL} {D' : qTD} {R' : qTR} (hn : qcNF ≤ w.1) (hR : qc_FR R) (hk22 : ∀ {I : qTI} {L : qTL} {D : qTD} {R : qTR} {x0 : Nat} {x1 : Int32} {x2 : Int32} {x3 : Int32} {x4 : Int32} {r : Unit} {I' : qTI} {L' : qTL} {D' : qTD} {R' : qTR}, qc_FR R → k22 (I, L, D, R, x0, x1, x2, x3, x4) = some (r, I', L', D', R') → qc_fm qcSX (I, L, D, R) (I', L', D', R') ∧ qc_X (qc_rm (1) 0 0) qmX0_convertAt (qc_QM 0 0 (qc_eq none w (I', L', D', R'))) 0 0 w (22, [(0, .ref x0), (1, .int x1), (2, .int x2), (3, .int x3), (4, .int x4)], [], I, L, D, R)) (h : fX0_convertAt_b22 w k22 I L D R x0 x1 x2 x3 x4 = some (r, I', L', D', R')) : qc_fm qcSX (I, L, D, R) (I', L', D', R') ∧ qc_X (qc_rm (1) 0 0) qmX0_convertAt (qc_QM 0 0 (qc_eq none w (I', L', D', R'))) 0 0 w (22, [(0, .ref x0), (1, .int x1), (2, .int x2), (3, .int x3), (4, .int x4)], [], I, L, D, R) := by
  unfold fX0_convertAt_b22 at h
  obtain ⟨g3, h⟩ := qc_gd_of h
  replace g3 := qc_io_of g3
  refine And.imp_right (fun hx => qc_iload (qc_at qkX0_convertAt 11 rfl) rfl <| qc_iload_n (qc_at qkX0_convertAt 12 rfl) rfl <| hx) ?_
  refine qc_andC (qc_icmp_le (qc_at qkX0_convertAt 13 rfl)) (fun u4 => ?_) (fun u4 => ?_)
  · replace h := qc_jp u4 h
    refine And.imp_right (fun hx => qc_aload_n (qc_at qkX0_convertAt 36 rfl) rfl <| hx) ?_
    obtain ⟨g5, h⟩ := qc_gd_of h
    replace g5 := qc_ia_of g5
    refine And.imp_right (fun hx => qc_gRd (qc_at qkX0_convertAt 37 rfl) g3 rfl rfl (qc_ka255 g5) <| qc_iload_n (qc_at qkX0_convertAt 38 rfl) rfl <| qc_iload_n (qc_at qkX0_convertAt 39 rfl) rfl <| qc_iload_n (qc_at qkX0_convertAt 40 rfl) rfl <| hx) ?_
    obtain ⟨r6, I6, L6, D6, R6, e6, h⟩ := qc_bd_of h
    have c6 := (tX0_conversion hn hR e6)
    refine qd_cSv (qc_at qkX0_convertAt 41 rfl) ql_0_42 qfX0_conversion c6 rfl rfl (Nat.le_of_ble_eq_true rfl) (qc_rml (by decide) (by decide)) ⟨Nat.zero_le _, Nat.zero_le _⟩ ?_
    obtain ⟨g7, h⟩ := qc_gd_of h
    obtain ⟨g8, h⟩ := qc_gd_of h
    refine qd_iastd (qc_at qkX0_convertAt 42 rfl) g5 (qc_inb_in g7) g8 ?_
    refine And.imp_right (fun hx => qc_aload_n (qc_at qkX0_convertAt 43 rfl) rfl <| hx) ?_
    obtain ⟨g9, h⟩ := qc_gd_of h
    replace g9 := qc_ia_of g9
    refine And.imp_right (fun hx => qc_gRd (qc_at qkX0_convertAt 44 rfl) g3 rfl rfl (qc_ka255 g9) <| qc_iload_n (qc_at qkX0_convertAt 45 rfl) rfl <| qc_iconst (qc_at qkX0_convertAt 46 rfl) <| hx) ?_
    obtain ⟨g10, h⟩ := qc_gd_of h
    obtain ⟨g11, h⟩ := qc_gd_of h
    refine qd_iastd (qc_at qkX0_convertAt 47 rfl) g9 (qc_inb_in g10) g11 ?_
    refine And.imp_right (fun hx => qc_aload_n (qc_at qkX0_convertAt 48 rfl) rfl <| qc_iload_n (qc_at qkX0_convertAt 49 rfl) rfl <| hx) ?_
    obtain ⟨r12, I12, L12, D12, R12, e12, h⟩ := qc_bd_of h
    have c12 := (tX0_moveGoals hn (c6.1.1 hR) e12)
    refine qd_cVn (ci := 0) (qc_at qkX0_convertAt 50 rfl) ql_0_45 qfX0_moveGoals g3 rfl c12 rfl rfl (Nat.le_of_ble_eq_true rfl) (qc_rml (by decide) (by decide)) ⟨Nat.zero_le _, Nat.zero_le _⟩ ?_
    exact And.imp_right (fun hx => qc_sub [0] rfl hx) (tX0_convertAt_b89 hn (c12.1.1 (c6.1.1 hR)) h)
  · replace h := qc_jn u4 h
    refine And.imp_right (fun hx => qc_aload_n (qc_at qkX0_convertAt 14 rfl) rfl <| hx) ?_
    obtain ⟨g13, h⟩ := qc_gd_of h
    replace g13 := qc_ia_of g13
    refine And.imp_right (fun hx => qc_gRd (qc_at qkX0_convertAt 15 rfl) g3 rfl rfl (qc_ka255 g13) <| qc_iload (qc_at qkX0_convertAt 16 rfl) rfl <| qc_aload_n (qc_at qkX0_convertAt 17 rfl) rfl <| hx) ?_
    obtain ⟨g14, h⟩ := qc_gd_of h
    replace g14 := qc_ia_of g14
    refine And.imp_right (fun hx => qc_gRd (qc_at qkX0_convertAt 18 rfl) g3 rfl rfl (qc_ka255 g14) <| qc_iload (qc_at qkX0_convertAt 19 rfl) rfl <| qc_iconst (qc_at qkX0_convertAt 20 rfl) <| qc_isub (qc_at qkX0_convertAt 21 rfl) <| hx) ?_
    obtain ⟨g15, h⟩ := qc_gd_of h
    refine And.imp_right (fun hx => qc_ialdd (qc_at qkX0_convertAt 22 rfl) g14 (qc_inb_in g15) <| hx) ?_
    obtain ⟨g16, h⟩ := qc_gd_of h
    obtain ⟨g17, h⟩ := qc_gd_of h
    refine qd_iastd (qc_at qkX0_convertAt 23 rfl) g13 (qc_inb_in g16) g17 ?_
    refine And.imp_right (fun hx => qc_aload_n (qc_at qkX0_convertAt 24 rfl) rfl <| hx) ?_
    obtain ⟨g18, h⟩ := qc_gd_of h
    replace g18 := qc_ia_of g18
    refine And.imp_right (fun hx => qc_gRd (qc_at qkX0_convertAt 25 rfl) g3 rfl rfl (qc_ka255 g18) <| qc_iload (qc_at qkX0_convertAt 26 rfl) rfl <| qc_aload_n (qc_at qkX0_convertAt 27 rfl) rfl <| hx) ?_
    obtain ⟨g19, h⟩ := qc_gd_of h
    replace g19 := qc_ia_of g19
    refine And.imp_right (fun hx => qc_gRd (qc_at qkX0_convertAt 28 rfl) g3 rfl rfl (qc_ka255 g19) <| qc_iload (qc_at qkX0_convertAt 29 rfl) rfl <| qc_iconst (qc_at qkX0_convertAt 30 rfl) <| qc_isub (qc_at qkX0_convertAt 31 rfl) <| hx) ?_
    obtain ⟨g20, h⟩ := qc_gd_of h
    refine And.imp_right (fun hx => qc_ialdd (qc_at qkX0_convertAt 32 rfl) g19 (qc_inb_in g20) <| hx) ?_
    obtain ⟨g21, h⟩ := qc_gd_of h
    obtain ⟨g22, h⟩ := qc_gd_of h
    refine qd_iastd (qc_at qkX0_convertAt 33 rfl) g18 (qc_inb_in g21) g22 ?_
    exact And.imp_right (fun hx => qc_iinc (lv' := [(4, _), (0, _), (1, _), (2, _), (3, _)]) (qc_at qkX0_convertAt 34 rfl) rfl rfl rfl <| qc_goto (qc_at qkX0_convertAt 35 rfl) <| qc_sub [1, 2, 3, 4, 0] rfl hx) (hk22 hR h)
def fX0_convertAt_l22 (w : qcW) : Nat → qTI × qTL × qTD × qTR × Nat × Int32 × Int32 × Int32 × Int32 → qcO Unit := qc_lp (fun k q => match q with | (I, L, D, R, x0, x1, x2, x3, x4) => fX0_convertAt_b22 w k I L D R x0 x1 x2 x3 x4)
set_option maxRecDepth 100000 in
set_option maxHeartbeats 4000000 in
theorem tX0_convertAt_l22 {w : qcW} (hn : qcNF ≤ w.1) : ∀ (n : Nat) {r : Unit} {I' : qTI} {L' : qTL} {D' : qTD} {R' : qTR} {I : qTI} {L : qTL} {D : qTD} {R : qTR} {x0 : Nat} {x1 : Int32} {x2 : Int32} {x3 : Int32} {x4 : Int32} (hR : qc_FR R) (h : fX0_convertAt_l22 w n (I, L, D, R, x0, x1, x2, x3, x4) = some (r, I', L', D', R')), qc_fm qcSX (I, L, D, R) (I', L', D', R') ∧ qc_X (qc_rm (1) 0 0) qmX0_convertAt (qc_QM 0 0 (qc_eq none w (I', L', D', R'))) 0 0 w (22, [(0, .ref x0), (1, .int x1), (2, .int x2), (3, .int x3), (4, .int x4)], [], I, L, D, R) := by
  intro n
  induction n with
  | zero => intro _ _ _ _ _ _ _ _ _ _ _ _ _ _ _ h; cases h
  | succ n ih => intro _ _ _ _ _ _ _ _ _ _ _ _ _ _ hR h; exact tX0_convertAt_b22 hn hR (k22 := fX0_convertAt_l22 w n) (fun hR h => ih hR h) h
def fX0_convertAt (w : qcW) (I : qTI) (L : qTL) (D : qTD) (R : qTR) (x0 : Nat) (x1 : Int32) (x2 : Int32) (x3 : Int32) : qcO Unit :=
  (qc_gd (qc_io w x0 0) <| (if x2 = x3 then (some ((), I, L, D, R)) else (if (200 : Int32) ≤ (I x0 2) then (fX0_convertAt_b89 w I L D R x0) else (fX0_convertAt_l22 w qcF (I, L, D, R, x0, x1, x2, x3, (I x0 2))))))
set_option maxRecDepth 100000 in
set_option maxHeartbeats 4000000 in
theorem tX0_convertAt {w : qcW} {I : qTI} {L : qTL} {D : qTD} {R : qTR} {x0 : Nat} {x1 : Int32} {x2 : Int32} {x3 : Int32} {r : Unit} {I' : qTI} {L' : qTL} {D' : qTD} {R' : qTR} (hn : qcNF ≤ w.1) (hR : qc_FR R) (h : fX0_convertAt w I L D R x0 x1 x2 x3 = some (r, I', L', D', R')) : qc_fm qcSX (I, L, D, R) (I', L', D', R') ∧ qc_V (1) 0 0 qmX0_convertAt [.ref x0, .int x1, .int x2, .int x3] w (I, L, D, R) (qc_eq none w (I', L', D', R')) := by
  unfold fX0_convertAt at h
  refine And.imp_right (fun hx => qc_V.of rfl rfl (Nat.le_of_ble_eq_true rfl) (lv := [(0, .ref x0), (1, .int x1), (2, .int x2), (3, .int x3)]) rfl hx) ?_
  obtain ⟨g23, h⟩ := qc_gd_of h
  replace g23 := qc_io_of g23
  refine And.imp_right (fun hx => qc_iload_n (qc_at qkX0_convertAt 0 rfl) rfl <| qc_iload_n (qc_at qkX0_convertAt 1 rfl) rfl <| hx) ?_
  refine qc_andN (qc_icmp_ne (qc_at qkX0_convertAt 2 rfl)) (fun u24 => ?_) (fun u24 => ?_)
  · replace h := qc_jn u24 h
    refine And.imp_right (fun hx => qc_aload_n (qc_at qkX0_convertAt 4 rfl) rfl <| qc_gId (qc_at qkX0_convertAt 5 rfl) g23 rfl <| qc_sipush (qc_at qkX0_convertAt 6 rfl) <| hx) ?_
    refine qc_andC (qc_icmp_ge (qc_at qkX0_convertAt 7 rfl)) (fun u25 => ?_) (fun u25 => ?_)
    · replace h := qc_jp u25 h
      exact And.imp_right (fun hx => qc_sub [0] rfl hx) (tX0_convertAt_b89 hn hR h)
    · replace h := qc_jn u25 h
      exact And.imp_right (fun hx => qc_aload_n (qc_at qkX0_convertAt 8 rfl) rfl <| qc_gId (qc_at qkX0_convertAt 9 rfl) g23 rfl <| qc_istore (lv' := [(4, _), (0, _), (1, _), (2, _), (3, _)]) (qc_at qkX0_convertAt 10 rfl) rfl rfl <| qc_sub [1, 2, 3, 4, 0] rfl hx) (tX0_convertAt_l22 hn qcF hR h)
  · replace h := qc_jp u24 h
    obtain ⟨rfl, rfl, rfl, rfl, rfl⟩ := qc_some5 h
    exact ⟨qc_fm.rf _, qc_vret (qc_at qkX0_convertAt 3 rfl) rfl (Nat.le_refl _) (Nat.le_refl _) (qc_eq.rf _ _ _)⟩
def fX7_size (w : qcW) (I : qTI) (L : qTL) (D : qTD) (R : qTR) (x0 : Nat) (x1 : Int32) : qcO Int32 :=
  (qc_gd (qc_io w x0 6) <| (qc_gd (qc_ia w (R x0 2) 100) <| qc_gd (qc_inb (x1 + (1 : Int32)) (w.2.2 (R x0 2))) <| qc_gd (qc_ia w (R x0 2) 100) <| qc_gd (qc_inb x1 (w.2.2 (R x0 2))) <| some (((I (R x0 2) (Int32.toNatClampNeg (x1 + (1 : Int32)))) - (I (R x0 2) (Int32.toNatClampNeg x1))), I, L, D, R)))
set_option maxRecDepth 100000 in
set_option maxHeartbeats 4000000 in
theorem tX7_size {w : qcW} {I : qTI} {L : qTL} {D : qTD} {R : qTR} {x0 : Nat} {x1 : Int32} {r : Int32} {I' : qTI} {L' : qTL} {D' : qTD} {R' : qTR} (hn : qcNF ≤ w.1) (hR : qc_FR R) (h : fX7_size w I L D R x0 x1 = some (r, I', L', D', R')) : qc_fm qcSX (I, L, D, R) (I', L', D', R') ∧ qc_V (0) 0 0 qmX7_size [.ref x0, .int x1] w (I, L, D, R) (qc_eq (some (.int r)) w (I', L', D', R')) := by
  unfold fX7_size at h
  refine And.imp_right (fun hx => qc_V.of rfl rfl (Nat.le_of_ble_eq_true rfl) (lv := [(0, .ref x0), (1, .int x1)]) rfl hx) ?_
  obtain ⟨g1, h⟩ := qc_gd_of h
  replace g1 := qc_io_of g1
  refine And.imp_right (fun hx => qc_aload_n (qc_at qkX7_size 0 rfl) rfl <| hx) ?_
  obtain ⟨g2, h⟩ := qc_gd_of h
  replace g2 := qc_ia_of g2
  refine And.imp_right (fun hx => qc_gRd (qc_at qkX7_size 1 rfl) g1 rfl rfl (qc_ka255 g2) <| qc_iload_n (qc_at qkX7_size 2 rfl) rfl <| qc_iconst (qc_at qkX7_size 3 rfl) <| qc_iadd (qc_at qkX7_size 4 rfl) <| hx) ?_
  obtain ⟨g3, h⟩ := qc_gd_of h
  refine And.imp_right (fun hx => qc_ialdd (qc_at qkX7_size 5 rfl) g2 (qc_inb_in g3) <| qc_aload_n (qc_at qkX7_size 6 rfl) rfl <| hx) ?_
  obtain ⟨g4, h⟩ := qc_gd_of h
  replace g4 := qc_ia_of g4
  refine And.imp_right (fun hx => qc_gRd (qc_at qkX7_size 7 rfl) g1 rfl rfl (qc_ka255 g4) <| qc_iload_n (qc_at qkX7_size 8 rfl) rfl <| hx) ?_
  obtain ⟨g5, h⟩ := qc_gd_of h
  obtain ⟨rfl, rfl, rfl, rfl, rfl⟩ := qc_some5 h
  exact ⟨qc_fm.rf _, qc_ialdd (qc_at qkX7_size 9 rfl) g4 (qc_inb_in g5) <| qc_isub (qc_at qkX7_size 10 rfl) <| qc_iret (qc_at qkX7_size 11 rfl) rfl (Nat.le_refl _) (Nat.le_refl _) (qc_eq.rf _ _ _)⟩
def fX7_op (w : qcW) (I : qTI) (L : qTL) (D : qTD) (R : qTR) (x0 : Nat) (x1 : Int32) (x2 : Int32) : qcO Int32 :=
  (qc_gd (qc_io w x0 6) <| (qc_gd (qc_ia w (R x0 0) 100) <| qc_gd (qc_ia w (R x0 2) 100) <| qc_gd (qc_inb x1 (w.2.2 (R x0 2))) <| qc_gd (qc_inb ((I (R x0 2) (Int32.toNatClampNeg x1)) + x2) (w.2.2 (R x0 0))) <| some ((I (R x0 0) (Int32.toNatClampNeg ((I (R x0 2) (Int32.toNatClampNeg x1)) + x2))), I, L, D, R)))
set_option maxRecDepth 100000 in
set_option maxHeartbeats 4000000 in
theorem tX7_op {w : qcW} {I : qTI} {L : qTL} {D : qTD} {R : qTR} {x0 : Nat} {x1 : Int32} {x2 : Int32} {r : Int32} {I' : qTI} {L' : qTL} {D' : qTD} {R' : qTR} (hn : qcNF ≤ w.1) (hR : qc_FR R) (h : fX7_op w I L D R x0 x1 x2 = some (r, I', L', D', R')) : qc_fm qcSX (I, L, D, R) (I', L', D', R') ∧ qc_V (0) 0 0 qmX7_op [.ref x0, .int x1, .int x2] w (I, L, D, R) (qc_eq (some (.int r)) w (I', L', D', R')) := by
  unfold fX7_op at h
  refine And.imp_right (fun hx => qc_V.of rfl rfl (Nat.le_of_ble_eq_true rfl) (lv := [(0, .ref x0), (1, .int x1), (2, .int x2)]) rfl hx) ?_
  obtain ⟨g1, h⟩ := qc_gd_of h
  replace g1 := qc_io_of g1
  refine And.imp_right (fun hx => qc_aload_n (qc_at qkX7_op 0 rfl) rfl <| hx) ?_
  obtain ⟨g2, h⟩ := qc_gd_of h
  replace g2 := qc_ia_of g2
  refine And.imp_right (fun hx => qc_gRd (qc_at qkX7_op 1 rfl) g1 rfl rfl (qc_ka255 g2) <| qc_aload_n (qc_at qkX7_op 2 rfl) rfl <| hx) ?_
  obtain ⟨g3, h⟩ := qc_gd_of h
  replace g3 := qc_ia_of g3
  refine And.imp_right (fun hx => qc_gRd (qc_at qkX7_op 3 rfl) g1 rfl rfl (qc_ka255 g3) <| qc_iload_n (qc_at qkX7_op 4 rfl) rfl <| hx) ?_
  obtain ⟨g4, h⟩ := qc_gd_of h
  refine And.imp_right (fun hx => qc_ialdd (qc_at qkX7_op 5 rfl) g3 (qc_inb_in g4) <| qc_iload_n (qc_at qkX7_op 6 rfl) rfl <| qc_iadd (qc_at qkX7_op 7 rfl) <| hx) ?_
  obtain ⟨g5, h⟩ := qc_gd_of h
  obtain ⟨rfl, rfl, rfl, rfl, rfl⟩ := qc_some5 h
  exact ⟨qc_fm.rf _, qc_ialdd (qc_at qkX7_op 8 rfl) g2 (qc_inb_in g5) <| qc_iret (qc_at qkX7_op 9 rfl) rfl (Nat.le_refl _) (Nat.le_refl _) (qc_eq.rf _ _ _)⟩
def fX7_number (w : qcW) (I : qTI) (L : qTL) (D : qTD) (R : qTR) (x0 : Nat) (x1 : Int32) (x2 : Int32) : qcO Int32 :=
  (qc_gd (qc_io w x0 6) <| (qc_gd (qc_ia w (R x0 1) 100) <| qc_gd (qc_ia w (R x0 2) 100) <| qc_gd (qc_inb x1 (w.2.2 (R x0 2))) <| qc_gd (qc_inb ((I (R x0 2) (Int32.toNatClampNeg x1)) + x2) (w.2.2 (R x0 1))) <| some ((I (R x0 1) (Int32.toNatClampNeg ((I (R x0 2) (Int32.toNatClampNeg x1)) + x2))), I, L, D, R)))
set_option maxRecDepth 100000 in
set_option maxHeartbeats 4000000 in
theorem tX7_number {w : qcW} {I : qTI} {L : qTL} {D : qTD} {R : qTR} {x0 : Nat} {x1 : Int32} {x2 : Int32} {r : Int32} {I' : qTI} {L' : qTL} {D' : qTD} {R' : qTR} (hn : qcNF ≤ w.1) (hR : qc_FR R) (h : fX7_number w I L D R x0 x1 x2 = some (r, I', L', D', R')) : qc_fm qcSX (I, L, D, R) (I', L', D', R') ∧ qc_V (0) 0 0 qmX7_number [.ref x0, .int x1, .int x2] w (I, L, D, R) (qc_eq (some (.int r)) w (I', L', D', R')) := by
  unfold fX7_number at h
  refine And.imp_right (fun hx => qc_V.of rfl rfl (Nat.le_of_ble_eq_true rfl) (lv := [(0, .ref x0), (1, .int x1), (2, .int x2)]) rfl hx) ?_
  obtain ⟨g1, h⟩ := qc_gd_of h
  replace g1 := qc_io_of g1
  refine And.imp_right (fun hx => qc_aload_n (qc_at qkX7_number 0 rfl) rfl <| hx) ?_
  obtain ⟨g2, h⟩ := qc_gd_of h
  replace g2 := qc_ia_of g2
  refine And.imp_right (fun hx => qc_gRd (qc_at qkX7_number 1 rfl) g1 rfl rfl (qc_ka255 g2) <| qc_aload_n (qc_at qkX7_number 2 rfl) rfl <| hx) ?_
  obtain ⟨g3, h⟩ := qc_gd_of h
  replace g3 := qc_ia_of g3
  refine And.imp_right (fun hx => qc_gRd (qc_at qkX7_number 3 rfl) g1 rfl rfl (qc_ka255 g3) <| qc_iload_n (qc_at qkX7_number 4 rfl) rfl <| hx) ?_
  obtain ⟨g4, h⟩ := qc_gd_of h
  refine And.imp_right (fun hx => qc_ialdd (qc_at qkX7_number 5 rfl) g3 (qc_inb_in g4) <| qc_iload_n (qc_at qkX7_number 6 rfl) rfl <| qc_iadd (qc_at qkX7_number 7 rfl) <| hx) ?_
  obtain ⟨g5, h⟩ := qc_gd_of h
  obtain ⟨rfl, rfl, rfl, rfl, rfl⟩ := qc_some5 h
  exact ⟨qc_fm.rf _, qc_ialdd (qc_at qkX7_number 8 rfl) g2 (qc_inb_in g5) <| qc_iret (qc_at qkX7_number 9 rfl) rfl (Nat.le_refl _) (Nat.le_refl _) (qc_eq.rf _ _ _)⟩
def fX7_real (w : qcW) (I : qTI) (L : qTL) (D : qTD) (R : qTR) (x0 : Nat) (x1 : Int32) : qcO UInt64 :=
  (qc_gd (qc_io w x0 6) <| (if x1 < 0 then (some ((0 : UInt64), I, L, D, R)) else (qc_gd (qc_ia w (R x0 3) 102) <| if (nI (w.2.2 (R x0 3))) ≤ x1 then (some ((0 : UInt64), I, L, D, R)) else (qc_gd (qc_ia w (R x0 3) 102) <| qc_gd (qc_inb x1 (w.2.2 (R x0 3))) <| some ((D (R x0 3) (Int32.toNatClampNeg x1)), I, L, D, R)))))
set_option maxRecDepth 100000 in
set_option maxHeartbeats 4000000 in
theorem tX7_real {w : qcW} {I : qTI} {L : qTL} {D : qTD} {R : qTR} {x0 : Nat} {x1 : Int32} {r : UInt64} {I' : qTI} {L' : qTL} {D' : qTD} {R' : qTR} (hn : qcNF ≤ w.1) (hR : qc_FR R) (h : fX7_real w I L D R x0 x1 = some (r, I', L', D', R')) : qc_fm qcSX (I, L, D, R) (I', L', D', R') ∧ qc_V (0) 0 0 qmX7_real [.ref x0, .int x1] w (I, L, D, R) (qc_eq (some (.double r)) w (I', L', D', R')) := by
  unfold fX7_real at h
  refine And.imp_right (fun hx => qc_V.of rfl rfl (Nat.le_of_ble_eq_true rfl) (lv := [(0, .ref x0), (1, .int x1)]) rfl hx) ?_
  obtain ⟨g1, h⟩ := qc_gd_of h
  replace g1 := qc_io_of g1
  refine And.imp_right (fun hx => qc_iload_n (qc_at qkX7_real 0 rfl) rfl <| hx) ?_
  refine qc_andC (qc_if_lt (qc_at qkX7_real 1 rfl)) (fun u2 => ?_) (fun u2 => ?_)
  · replace h := qc_jp u2 h
    obtain ⟨rfl, rfl, rfl, rfl, rfl⟩ := qc_some5 h
    exact ⟨qc_fm.rf _, qc_dconst (qc_at qkX7_real 12 rfl) <| qc_dret (qc_at qkX7_real 13 rfl) rfl (Nat.le_refl _) (Nat.le_refl _) (qc_eq.rf _ _ _)⟩
  · replace h := qc_jn u2 h
    refine And.imp_right (fun hx => qc_iload_n (qc_at qkX7_real 2 rfl) rfl <| qc_aload_n (qc_at qkX7_real 3 rfl) rfl <| hx) ?_
    obtain ⟨g3, h⟩ := qc_gd_of h
    replace g3 := qc_ia_of g3
    refine And.imp_right (fun hx => qc_gRd (qc_at qkX7_real 4 rfl) g1 rfl rfl (qc_ka255 g3) <| qc_alen 102 (by decide) (qc_at qkX7_real 5 rfl) g3 <| hx) ?_
    refine qc_andC (qc_icmp_ge (qc_at qkX7_real 6 rfl)) (fun u4 => ?_) (fun u4 => ?_)
    · replace h := qc_jp u4 h
      obtain ⟨rfl, rfl, rfl, rfl, rfl⟩ := qc_some5 h
      exact ⟨qc_fm.rf _, qc_dconst (qc_at qkX7_real 12 rfl) <| qc_dret (qc_at qkX7_real 13 rfl) rfl (Nat.le_refl _) (Nat.le_refl _) (qc_eq.rf _ _ _)⟩
    · replace h := qc_jn u4 h
      refine And.imp_right (fun hx => qc_aload_n (qc_at qkX7_real 7 rfl) rfl <| hx) ?_
      obtain ⟨g5, h⟩ := qc_gd_of h
      replace g5 := qc_ia_of g5
      refine And.imp_right (fun hx => qc_gRd (qc_at qkX7_real 8 rfl) g1 rfl rfl (qc_ka255 g5) <| qc_iload_n (qc_at qkX7_real 9 rfl) rfl <| hx) ?_
      obtain ⟨g6, h⟩ := qc_gd_of h
      obtain ⟨rfl, rfl, rfl, rfl, rfl⟩ := qc_some5 h
      exact ⟨qc_fm.rf _, qc_daldd (qc_at qkX7_real 10 rfl) g5 (qc_inb_in g6) <| qc_goto (qc_at qkX7_real 11 rfl) <| qc_dret (qc_at qkX7_real 13 rfl) rfl (Nat.le_refl _) (Nat.le_refl _) (qc_eq.rf _ _ _)⟩
def fX3_forget (w : qcW) (I : qTI) (L : qTL) (D : qTD) (R : qTR) : qcO Unit :=
  (some ((), (qc_u (qc_u (qc_u (qc_u (qc_u (qc_u (qc_u I 280 0 (-1 : Int32)) 280 1 (0 : Int32)) 280 2 (-1 : Int32)) 280 3 (-1 : Int32)) 280 4 (0 : Int32)) 280 5 (0 : Int32)) 280 6 (0 : Int32)), L, D, R))
set_option maxRecDepth 100000 in
set_option maxHeartbeats 4000000 in
theorem tX3_forget {w : qcW} {I : qTI} {L : qTL} {D : qTD} {R : qTR} {r : Unit} {I' : qTI} {L' : qTL} {D' : qTD} {R' : qTR} (hn : qcNF ≤ w.1) (hR : qc_FR R) (h : fX3_forget w I L D R = some (r, I', L', D', R')) : qc_fm qcSX (I, L, D, R) (I', L', D', R') ∧ qc_V (0) 0 0 qmX3_forget [.ref 280] w (I, L, D, R) (qc_eq none w (I', L', D', R')) := by
  unfold fX3_forget at h
  refine And.imp_right (fun hx => qc_V.of rfl rfl (Nat.le_of_ble_eq_true rfl) (lv := [(0, .ref 280)]) rfl hx) ?_
  refine And.imp_right (fun hx => qc_aload_n (qc_at qkX3_forget 0 rfl) rfl <| qc_iconst (qc_at qkX3_forget 1 rfl) <| hx) (qd_pI (qc_at qkX3_forget 2 rfl) hn rfl rfl ?_)
  refine And.imp_right (fun hx => qc_aload_n (qc_at qkX3_forget 3 rfl) rfl <| qc_iconst (qc_at qkX3_forget 4 rfl) <| hx) (qd_pI (qc_at qkX3_forget 5 rfl) hn rfl rfl ?_)
  refine And.imp_right (fun hx => qc_aload_n (qc_at qkX3_forget 6 rfl) rfl <| qc_iconst (qc_at qkX3_forget 7 rfl) <| hx) (qd_pI (qc_at qkX3_forget 8 rfl) hn rfl rfl ?_)
  refine And.imp_right (fun hx => qc_aload_n (qc_at qkX3_forget 9 rfl) rfl <| qc_iconst (qc_at qkX3_forget 10 rfl) <| hx) (qd_pI (qc_at qkX3_forget 11 rfl) hn rfl rfl ?_)
  refine And.imp_right (fun hx => qc_aload_n (qc_at qkX3_forget 12 rfl) rfl <| qc_iconst (qc_at qkX3_forget 13 rfl) <| hx) (qd_pI (qc_at qkX3_forget 14 rfl) hn rfl rfl ?_)
  refine And.imp_right (fun hx => qc_aload_n (qc_at qkX3_forget 15 rfl) rfl <| qc_iconst (qc_at qkX3_forget 16 rfl) <| hx) (qd_pI (qc_at qkX3_forget 17 rfl) hn rfl rfl ?_)
  refine And.imp_right (fun hx => qc_aload_n (qc_at qkX3_forget 18 rfl) rfl <| qc_iconst (qc_at qkX3_forget 19 rfl) <| hx) (qd_pZ (qc_at qkX3_forget 20 rfl) hn rfl (Or.inl rfl) rfl ?_)
  obtain ⟨rfl, rfl, rfl, rfl, rfl⟩ := qc_some5 h
  exact ⟨qc_fm.rf _, qc_vret (qc_at qkX3_forget 21 rfl) rfl (Nat.le_refl _) (Nat.le_refl _) (qc_eq.rf _ _ _)⟩
def fX3_openGroup (w : qcW) (I : qTI) (L : qTL) (D : qTD) (R : qTR) (x1 : Int64) : qcO Unit :=
  (qc_gd (qc_inb (I 280 5) 16) <| qc_gd (qc_inb ((qc_u I 281 (Int32.toNatClampNeg (I 280 5)) (0 : Int32)) 280 5) 8) <| qc_gd (qc_inb ((qc_u I 281 (Int32.toNatClampNeg (I 280 5)) (0 : Int32)) 280 5) 8) <| qc_gd (qc_inb ((qc_u I 281 (Int32.toNatClampNeg (I 280 5)) (0 : Int32)) 280 5) 8) <| some ((), (qc_u (qc_u I 281 (Int32.toNatClampNeg (I 280 5)) (0 : Int32)) 280 5 (((qc_u I 281 (Int32.toNatClampNeg (I 280 5)) (0 : Int32)) 280 5) + (1 : Int32))), (qc_u (qc_u L 283 (Int32.toNatClampNeg ((qc_u I 281 (Int32.toNatClampNeg (I 280 5)) (0 : Int32)) 280 5)) x1) 284 (Int32.toNatClampNeg ((qc_u I 281 (Int32.toNatClampNeg (I 280 5)) (0 : Int32)) 280 5)) (0 : Int64)), (qc_u D 285 (Int32.toNatClampNeg ((qc_u I 281 (Int32.toNatClampNeg (I 280 5)) (0 : Int32)) 280 5)) (0 : UInt64)), R))
set_option maxRecDepth 100000 in
set_option maxHeartbeats 4000000 in
theorem tX3_openGroup {w : qcW} {I : qTI} {L : qTL} {D : qTD} {R : qTR} {x1 : Int64} {r : Unit} {I' : qTI} {L' : qTL} {D' : qTD} {R' : qTR} (hn : qcNF ≤ w.1) (hR : qc_FR R) (h : fX3_openGroup w I L D R x1 = some (r, I', L', D', R')) : qc_fm qcSX (I, L, D, R) (I', L', D', R') ∧ qc_V (0) 0 0 qmX3_openGroup [.ref 280, .long x1] w (I, L, D, R) (qc_eq none w (I', L', D', R')) := by
  unfold fX3_openGroup at h
  refine And.imp_right (fun hx => qc_V.of rfl rfl (Nat.le_of_ble_eq_true rfl) (lv := [(0, .ref 280), (1, .long x1)]) rfl hx) ?_
  refine And.imp_right (fun hx => qc_aload_n (qc_at qkX3_openGroup 0 rfl) rfl <| qc_gR (qc_at qkX3_openGroup 1 rfl) hn rfl (qfr_280_7 hR) rfl <| qc_aload_n (qc_at qkX3_openGroup 2 rfl) rfl <| qc_gI (qc_at qkX3_openGroup 3 rfl) hn rfl <| qc_iconst (qc_at qkX3_openGroup 4 rfl) <| hx) ?_
  obtain ⟨g1, h⟩ := qc_gd_of h
  refine qd_iast 16 (qc_at qkX3_openGroup 5 rfl) hn rfl (qc_inb_in g1) rfl ?_
  refine And.imp_right (fun hx => qc_aload_n (qc_at qkX3_openGroup 6 rfl) rfl <| qc_gR (qc_at qkX3_openGroup 7 rfl) hn rfl (qfr_280_9 hR) rfl <| qc_aload_n (qc_at qkX3_openGroup 8 rfl) rfl <| qc_gI (qc_at qkX3_openGroup 9 rfl) hn rfl <| qc_lload_n (qc_at qkX3_openGroup 10 rfl) rfl <| hx) ?_
  obtain ⟨g2, h⟩ := qc_gd_of h
  refine qd_last 8 (qc_at qkX3_openGroup 11 rfl) hn rfl (qc_inb_in g2) rfl ?_
  refine And.imp_right (fun hx => qc_aload_n (qc_at qkX3_openGroup 12 rfl) rfl <| qc_gR (qc_at qkX3_openGroup 13 rfl) hn rfl (qfr_280_10 hR) rfl <| qc_aload_n (qc_at qkX3_openGroup 14 rfl) rfl <| qc_gI (qc_at qkX3_openGroup 15 rfl) hn rfl <| qc_lconst (qc_at qkX3_openGroup 16 rfl) <| hx) ?_
  obtain ⟨g3, h⟩ := qc_gd_of h
  refine qd_last 8 (qc_at qkX3_openGroup 17 rfl) hn rfl (qc_inb_in g3) rfl ?_
  refine And.imp_right (fun hx => qc_aload_n (qc_at qkX3_openGroup 18 rfl) rfl <| qc_gR (qc_at qkX3_openGroup 19 rfl) hn rfl (qfr_280_11 hR) rfl <| qc_aload_n (qc_at qkX3_openGroup 20 rfl) rfl <| qc_gI (qc_at qkX3_openGroup 21 rfl) hn rfl <| qc_dconst (qc_at qkX3_openGroup 22 rfl) <| hx) ?_
  obtain ⟨g4, h⟩ := qc_gd_of h
  refine qd_dast 8 (qc_at qkX3_openGroup 23 rfl) hn rfl (qc_inb_in g4) rfl ?_
  refine And.imp_right (fun hx => qc_aload_n (qc_at qkX3_openGroup 24 rfl) rfl <| qc_dup (qc_at qkX3_openGroup 25 rfl) rfl <| qc_gI (qc_at qkX3_openGroup 26 rfl) hn rfl <| qc_iconst (qc_at qkX3_openGroup 27 rfl) <| qc_iadd (qc_at qkX3_openGroup 28 rfl) <| hx) (qd_pI (qc_at qkX3_openGroup 29 rfl) hn rfl rfl ?_)
  obtain ⟨rfl, rfl, rfl, rfl, rfl⟩ := qc_some5 h
  exact ⟨qc_fm.rf _, qc_vret (qc_at qkX3_openGroup 30 rfl) rfl (Nat.le_refl _) (Nat.le_refl _) (qc_eq.rf _ _ _)⟩
def fX3_begin_b41 (w : qcW) (I : qTI) (L : qTL) (D : qTD) (R : qTR) (x2 : Nat) (s0 : Int32) : qcO Unit :=
  (qc_gd (qc_io w x2 6) <| (qc_gd (qc_01 s0) <| if ((qc_u I 280 6 s0) 280 6) = 0 then (some ((), (qc_u I 280 6 s0), L, D, R)) else (qc_bd (fX7_size w (qc_u I 280 6 s0) L D R x2 (2 : Int32)) fun r4 I4 L4 D4 R4 => if r4 = 0 then (qc_bd (fX3_openGroup w I4 L4 D4 R4 (0 : Int64)) fun r6 I6 L6 D6 R6 => some ((), I6, L6, D6, R6)) else (some ((), I4, L4, D4, R4)))))
set_option maxRecDepth 100000 in
set_option maxHeartbeats 4000000 in
theorem tX3_begin_b41 {w : qcW} {I : qTI} {L : qTL} {D : qTD} {R : qTR} {x2 : Nat} {s0 : Int32} {r : Unit} {I' : qTI} {L' : qTL} {D' : qTD} {R' : qTR} (hn : qcNF ≤ w.1) (hR : qc_FR R) (h : fX3_begin_b41 w I L D R x2 s0 = some (r, I', L', D', R')) : qc_fm qcSX (I, L, D, R) (I', L', D', R') ∧ qc_X (qc_rm (1) 0 0) qmX3_begin (qc_QM 0 0 (qc_eq none w (I', L', D', R'))) 0 0 w (41, [(0, .ref 280), (2, .ref x2)], [.int s0, .ref 280], I, L, D, R) := by
  unfold fX3_begin_b41 at h
  obtain ⟨g1, h⟩ := qc_gd_of h
  replace g1 := qc_io_of g1
  obtain ⟨g2, h⟩ := qc_gd_of h
  replace g2 := qc_01_of g2
  refine qd_pZ (qc_at qkX3_begin 21 rfl) hn rfl g2 rfl ?_
  refine And.imp_right (fun hx => qc_aload_n (qc_at qkX3_begin 22 rfl) rfl <| qc_gI (qc_at qkX3_begin 23 rfl) hn rfl <| hx) ?_
  refine qc_andC (qc_if_eq (qc_at qkX3_begin 24 rfl)) (fun u3 => ?_) (fun u3 => ?_)
  · replace h := qc_jp u3 h
    obtain ⟨rfl, rfl, rfl, rfl, rfl⟩ := qc_some5 h
    exact ⟨qc_fm.rf _, qc_vret (qc_at qkX3_begin 32 rfl) rfl (Nat.le_refl _) (Nat.le_refl _) (qc_eq.rf _ _ _)⟩
  · replace h := qc_jn u3 h
    refine And.imp_right (fun hx => qc_aload_n (qc_at qkX3_begin 25 rfl) rfl <| qc_iconst (qc_at qkX3_begin 26 rfl) <| hx) ?_
    obtain ⟨r4, I4, L4, D4, R4, e4, h⟩ := qc_bd_of h
    have c4 := (tX7_size hn hR e4)
    refine qd_cVv (ci := 6) (qc_at qkX3_begin 27 rfl) ql_3_77 qfX7_size g1 rfl c4 rfl rfl (Nat.le_of_ble_eq_true rfl) (qc_rml (by decide) (by decide)) ⟨Nat.zero_le _, Nat.zero_le _⟩ ?_
    refine qc_andN (qc_if_ne (qc_at qkX3_begin 28 rfl)) (fun u5 => ?_) (fun u5 => ?_)
    · replace h := qc_jn u5 h
      obtain ⟨rfl, rfl, rfl, rfl, rfl⟩ := qc_some5 h
      exact ⟨qc_fm.rf _, qc_vret (qc_at qkX3_begin 32 rfl) rfl (Nat.le_refl _) (Nat.le_refl _) (qc_eq.rf _ _ _)⟩
    · replace h := qc_jp u5 h
      refine And.imp_right (fun hx => qc_aload_n (qc_at qkX3_begin 29 rfl) rfl <| qc_lconst (qc_at qkX3_begin 30 rfl) <| hx) ?_
      obtain ⟨r6, I6, L6, D6, R6, e6, h⟩ := qc_bd_of h
      have c6 := (tX3_openGroup hn (c4.1.1 hR) e6)
      refine qd_cVn (ci := 3) (a0 := 280) (qc_at qkX3_begin 31 rfl) ql_3_81 qfX3_openGroup (qc_kf hn rfl) rfl c6 rfl rfl (Nat.le_of_ble_eq_true rfl) (qc_rml (by decide) (by decide)) ⟨Nat.zero_le _, Nat.zero_le _⟩ ?_
      obtain ⟨rfl, rfl, rfl, rfl, rfl⟩ := qc_some5 h
      exact ⟨qc_fm.rf _, qc_vret (qc_at qkX3_begin 32 rfl) rfl (Nat.le_refl _) (Nat.le_refl _) (qc_eq.rf _ _ _)⟩
def fX3_begin (w : qcW) (I : qTI) (L : qTL) (D : qTD) (R : qTR) (x1 : Int32) (x2 : Nat) : qcO Unit :=
  (qc_gd (qc_io w x2 6) <| (qc_bd (fX3_forget w I L D R) fun r8 I8 L8 D8 R8 => qc_gd (qc_l62 (R8 x2 5)) <| qc_gd (qc_l62 ((qc_u R8 280 12 (R8 x2 5)) x2 4)) <| if ((qc_u R8 280 12 (R8 x2 5)) x2 4) = 9 then (fX3_begin_b41 w (qc_u (qc_u I8 280 0 x1) 280 13 ((qc_u I8 280 0 x1) x2 6)) L8 D8 (qc_u R8 280 12 (R8 x2 5)) x2 (1 : Int32)) else (fX3_begin_b41 w (qc_u (qc_u I8 280 0 x1) 280 13 ((qc_u I8 280 0 x1) x2 6)) L8 D8 (qc_u R8 280 12 (R8 x2 5)) x2 (0 : Int32))))
set_option maxRecDepth 100000 in
set_option maxHeartbeats 4000000 in
theorem tX3_begin {w : qcW} {I : qTI} {L : qTL} {D : qTD} {R : qTR} {x1 : Int32} {x2 : Nat} {r : Unit} {I' : qTI} {L' : qTL} {D' : qTD} {R' : qTR} (hn : qcNF ≤ w.1) (hR : qc_FR R) (h : fX3_begin w I L D R x1 x2 = some (r, I', L', D', R')) : qc_fm qcSX (I, L, D, R) (I', L', D', R') ∧ qc_V (1) 0 0 qmX3_begin [.ref 280, .int x1, .ref x2] w (I, L, D, R) (qc_eq none w (I', L', D', R')) := by
  unfold fX3_begin at h
  refine And.imp_right (fun hx => qc_V.of rfl rfl (Nat.le_of_ble_eq_true rfl) (lv := [(0, .ref 280), (1, .int x1), (2, .ref x2)]) rfl hx) ?_
  obtain ⟨g7, h⟩ := qc_gd_of h
  replace g7 := qc_io_of g7
  refine And.imp_right (fun hx => qc_aload_n (qc_at qkX3_begin 0 rfl) rfl <| hx) ?_
  obtain ⟨r8, I8, L8, D8, R8, e8, h⟩ := qc_bd_of h
  have c8 := (tX3_forget hn hR e8)
  refine qd_cVn (ci := 3) (a0 := 280) (qc_at qkX3_begin 1 rfl) ql_3_61 qfX3_forget (qc_kf hn rfl) rfl c8 rfl rfl (Nat.le_of_ble_eq_true rfl) (qc_rml (by decide) (by decide)) ⟨Nat.zero_le _, Nat.zero_le _⟩ ?_
  refine And.imp_right (fun hx => qc_aload_n (qc_at qkX3_begin 2 rfl) rfl <| qc_iload_n (qc_at qkX3_begin 3 rfl) rfl <| hx) (qd_pI (qc_at qkX3_begin 4 rfl) hn rfl rfl ?_)
  refine And.imp_right (fun hx => qc_aload_n (qc_at qkX3_begin 5 rfl) rfl <| qc_aload_n (qc_at qkX3_begin 6 rfl) rfl <| hx) ?_
  obtain ⟨g9, h⟩ := qc_gd_of h
  replace g9 := qc_l62_of g9
  refine And.imp_right (fun hx => qc_gRd (qc_at qkX3_begin 7 rfl) g7 rfl rfl (qc_ne62 g9) <| hx) (qd_pR (qc_at qkX3_begin 8 rfl) hn rfl (qc_ne62 g9) rfl rfl ?_)
  refine And.imp_right (fun hx => qc_aload_n (qc_at qkX3_begin 9 rfl) rfl <| qc_aload_n (qc_at qkX3_begin 10 rfl) rfl <| qc_gId (qc_at qkX3_begin 11 rfl) g7 rfl <| hx) (qd_pI (qc_at qkX3_begin 12 rfl) hn rfl rfl ?_)
  refine And.imp_right (fun hx => qc_aload_n (qc_at qkX3_begin 13 rfl) rfl <| qc_aload_n (qc_at qkX3_begin 14 rfl) rfl <| hx) ?_
  obtain ⟨g10, h⟩ := qc_gd_of h
  replace g10 := qc_l62_of g10
  refine And.imp_right (fun hx => qc_gRd (qc_at qkX3_begin 15 rfl) g7 rfl rfl (qc_ne62 g10) <| qc_gS (qc_at qkX3_begin 16 rfl) rfl <| hx) ?_
  refine qc_andN (qc_acmp_ne (qc_at qkX3_begin 17 rfl) (Or.inl g10) (Or.inl (by decide))) (fun u11 => ?_) (fun u11 => ?_)
  · replace h := qc_jn u11 h
    exact And.imp_right (fun hx => qc_iconst (qc_at qkX3_begin 20 rfl) <| qc_sub [0, 2] rfl hx) (tX3_begin_b41 hn ((c8.1.1 hR).u _ rfl) h)
  · replace h := qc_jp u11 h
    exact And.imp_right (fun hx => qc_iconst (qc_at qkX3_begin 18 rfl) <| qc_goto (qc_at qkX3_begin 19 rfl) <| qc_sub [0, 2] rfl hx) (tX3_begin_b41 hn ((c8.1.1 hR).u _ rfl) h)
def fX3_fail (w : qcW) (I : qTI) (L : qTL) (D : qTD) (R : qTR) (x1 : Int32) (x2 : Int32) (x3 : Int32) : qcO Unit :=
  (some ((), (qc_u (qc_u (qc_u (qc_u I 280 1 x1) 280 2 x2) 280 3 x3) 280 5 (0 : Int32)), L, D, R))
set_option maxRecDepth 100000 in
set_option maxHeartbeats 4000000 in
theorem tX3_fail {w : qcW} {I : qTI} {L : qTL} {D : qTD} {R : qTR} {x1 : Int32} {x2 : Int32} {x3 : Int32} {r : Unit} {I' : qTI} {L' : qTL} {D' : qTD} {R' : qTR} (hn : qcNF ≤ w.1) (hR : qc_FR R) (h : fX3_fail w I L D R x1 x2 x3 = some (r, I', L', D', R')) : qc_fm qcSX (I, L, D, R) (I', L', D', R') ∧ qc_V (0) 0 0 qmX3_fail [.ref 280, .int x1, .int x2, .int x3] w (I, L, D, R) (qc_eq none w (I', L', D', R')) := by
  unfold fX3_fail at h
  refine And.imp_right (fun hx => qc_V.of rfl rfl (Nat.le_of_ble_eq_true rfl) (lv := [(0, .ref 280), (1, .int x1), (2, .int x2), (3, .int x3)]) rfl hx) ?_
  refine And.imp_right (fun hx => qc_aload_n (qc_at qkX3_fail 0 rfl) rfl <| qc_iload_n (qc_at qkX3_fail 1 rfl) rfl <| hx) (qd_pI (qc_at qkX3_fail 2 rfl) hn rfl rfl ?_)
  refine And.imp_right (fun hx => qc_aload_n (qc_at qkX3_fail 3 rfl) rfl <| qc_iload_n (qc_at qkX3_fail 4 rfl) rfl <| hx) (qd_pI (qc_at qkX3_fail 5 rfl) hn rfl rfl ?_)
  refine And.imp_right (fun hx => qc_aload_n (qc_at qkX3_fail 6 rfl) rfl <| qc_iload_n (qc_at qkX3_fail 7 rfl) rfl <| hx) (qd_pI (qc_at qkX3_fail 8 rfl) hn rfl rfl ?_)
  refine And.imp_right (fun hx => qc_aload_n (qc_at qkX3_fail 9 rfl) rfl <| qc_iconst (qc_at qkX3_fail 10 rfl) <| hx) (qd_pI (qc_at qkX3_fail 11 rfl) hn rfl rfl ?_)
  obtain ⟨rfl, rfl, rfl, rfl, rfl⟩ := qc_some5 h
  exact ⟨qc_fm.rf _, qc_vret (qc_at qkX3_fail 12 rfl) rfl (Nat.le_refl _) (Nat.le_refl _) (qc_eq.rf _ _ _)⟩
def fX3_isHit (w : qcW) (I : qTI) (L : qTL) (D : qTD) (R : qTR) (x1 : Int32) : qcO Bool :=
  (if x1 < 0 then (some (false, I, L, D, R)) else (if (I 280 5) ≤ x1 then (some (false, I, L, D, R)) else (some (true, I, L, D, R))))
set_option maxRecDepth 100000 in
set_option maxHeartbeats 4000000 in
theorem tX3_isHit {w : qcW} {I : qTI} {L : qTL} {D : qTD} {R : qTR} {x1 : Int32} {r : Bool} {I' : qTI} {L' : qTL} {D' : qTD} {R' : qTR} (hn : qcNF ≤ w.1) (hR : qc_FR R) (h : fX3_isHit w I L D R x1 = some (r, I', L', D', R')) : qc_fm qcSX (I, L, D, R) (I', L', D', R') ∧ qc_V (0) 0 0 qmX3_isHit [.ref 280, .int x1] w (I, L, D, R) (qc_eq (some (.int (qc_b r))) w (I', L', D', R')) := by
  unfold fX3_isHit at h
  refine And.imp_right (fun hx => qc_V.of rfl rfl (Nat.le_of_ble_eq_true rfl) (lv := [(0, .ref 280), (1, .int x1)]) rfl hx) ?_
  refine And.imp_right (fun hx => qc_iload_n (qc_at qkX3_isHit 0 rfl) rfl <| hx) ?_
  refine qc_andC (qc_if_lt (qc_at qkX3_isHit 1 rfl)) (fun u1 => ?_) (fun u1 => ?_)
  · replace h := qc_jp u1 h
    obtain ⟨rfl, rfl, rfl, rfl, rfl⟩ := qc_some5 h
    exact ⟨qc_fm.rf _, qc_iconst (qc_at qkX3_isHit 8 rfl) <| qc_zret (qc_at qkX3_isHit 9 rfl) rfl (Or.inl rfl) (Nat.le_refl _) (Nat.le_refl _) ⟨rfl, rfl, rfl⟩⟩
  · replace h := qc_jn u1 h
    refine And.imp_right (fun hx => qc_iload_n (qc_at qkX3_isHit 2 rfl) rfl <| qc_aload_n (qc_at qkX3_isHit 3 rfl) rfl <| qc_gI (qc_at qkX3_isHit 4 rfl) hn rfl <| hx) ?_
    refine qc_andC (qc_icmp_ge (qc_at qkX3_isHit 5 rfl)) (fun u2 => ?_) (fun u2 => ?_)
    · replace h := qc_jp u2 h
      obtain ⟨rfl, rfl, rfl, rfl, rfl⟩ := qc_some5 h
      exact ⟨qc_fm.rf _, qc_iconst (qc_at qkX3_isHit 8 rfl) <| qc_zret (qc_at qkX3_isHit 9 rfl) rfl (Or.inl rfl) (Nat.le_refl _) (Nat.le_refl _) ⟨rfl, rfl, rfl⟩⟩
    · replace h := qc_jn u2 h
      obtain ⟨rfl, rfl, rfl, rfl, rfl⟩ := qc_some5 h
      exact ⟨qc_fm.rf _, qc_iconst (qc_at qkX3_isHit 6 rfl) <| qc_goto (qc_at qkX3_isHit 7 rfl) <| qc_zret (qc_at qkX3_isHit 9 rfl) rfl (Or.inr rfl) (Nat.le_refl _) (Nat.le_refl _) ⟨rfl, rfl, rfl⟩⟩
def fX3_insert_b90 (w : qcW) (I : qTI) (L : qTL) (D : qTD) (R : qTR) (x1 : Int32) (x2 : UInt64) (x5 : Int32) : qcO Unit :=
  (qc_gd (qc_inb x5 16) <| qc_gd (qc_inb x5 16) <| some ((), (qc_u (qc_u I 281 (Int32.toNatClampNeg x5) x1) 280 5 (((qc_u I 281 (Int32.toNatClampNeg x5) x1) 280 5) + (1 : Int32))), L, (qc_u D 282 (Int32.toNatClampNeg x5) x2), R))
set_option maxRecDepth 100000 in
set_option maxHeartbeats 4000000 in
theorem tX3_insert_b90 {w : qcW} {I : qTI} {L : qTL} {D : qTD} {R : qTR} {x1 : Int32} {x2 : UInt64} {x5 : Int32} {r : Unit} {I' : qTI} {L' : qTL} {D' : qTD} {R' : qTR} (hn : qcNF ≤ w.1) (hR : qc_FR R) (h : fX3_insert_b90 w I L D R x1 x2 x5 = some (r, I', L', D', R')) : qc_fm qcSX (I, L, D, R) (I', L', D', R') ∧ qc_X (qc_rm (1) 0 0) qmX3_insert (qc_QM 0 0 (qc_eq none w (I', L', D', R'))) 0 0 w (90, [(0, .ref 280), (1, .int x1), (2, .double x2), (5, .int x5)], [], I, L, D, R) := by
  unfold fX3_insert_b90 at h
  refine And.imp_right (fun hx => qc_aload_n (qc_at qkX3_insert 50 rfl) rfl <| qc_gR (qc_at qkX3_insert 51 rfl) hn rfl (qfr_280_7 hR) rfl <| qc_iload (qc_at qkX3_insert 52 rfl) rfl <| qc_iload_n (qc_at qkX3_insert 53 rfl) rfl <| hx) ?_
  obtain ⟨g1, h⟩ := qc_gd_of h
  refine qd_iast 16 (qc_at qkX3_insert 54 rfl) hn rfl (qc_inb_in g1) rfl ?_
  refine And.imp_right (fun hx => qc_aload_n (qc_at qkX3_insert 55 rfl) rfl <| qc_gR (qc_at qkX3_insert 56 rfl) hn rfl (qfr_280_8 hR) rfl <| qc_iload (qc_at qkX3_insert 57 rfl) rfl <| qc_dload_n (qc_at qkX3_insert 58 rfl) rfl <| hx) ?_
  obtain ⟨g2, h⟩ := qc_gd_of h
  refine qd_dast 16 (qc_at qkX3_insert 59 rfl) hn rfl (qc_inb_in g2) rfl ?_
  refine And.imp_right (fun hx => qc_aload_n (qc_at qkX3_insert 60 rfl) rfl <| qc_dup (qc_at qkX3_insert 61 rfl) rfl <| qc_gI (qc_at qkX3_insert 62 rfl) hn rfl <| qc_iconst (qc_at qkX3_insert 63 rfl) <| qc_iadd (qc_at qkX3_insert 64 rfl) <| hx) (qd_pI (qc_at qkX3_insert 65 rfl) hn rfl rfl ?_)
  obtain ⟨rfl, rfl, rfl, rfl, rfl⟩ := qc_some5 h
  exact ⟨qc_fm.rf _, qc_vret (qc_at qkX3_insert 66 rfl) rfl (Nat.le_refl _) (Nat.le_refl _) (qc_eq.rf _ _ _)⟩
def fX3_insert_b22 (w : qcW) (k22 : qTI × qTL × qTD × qTR × Int32 × UInt64 × Int32 × Int32 × Int32 → qcO Unit) (I : qTI) (L : qTL) (D : qTD) (R : qTR) (x1 : Int32) (x2 : UInt64) (x4 : Int32) (x5 : Int32) (x6 : Int32) : qcO Unit :=
  (if x6 ≤ 0 then (fX3_insert_b90 w I L D R x1 x2 x5) else (qc_gd (qc_inb (x6 - (1 : Int32)) 16) <| qc_bd (fX8_compared w I L D R x2 (D 282 (Int32.toNatClampNeg (x6 - (1 : Int32))))) fun r5 I5 L5 D5 R5 => if 0 ≤ (x4 * r5) then (fX3_insert_b90 w I5 L5 D5 R5 x1 x2 x5) else (qc_gd (qc_inb (x6 - (1 : Int32)) 16) <| qc_gd (qc_inb x6 16) <| qc_gd (qc_inb (x6 - (1 : Int32)) 16) <| qc_gd (qc_inb x6 16) <| k22 ((qc_u I5 281 (Int32.toNatClampNeg x6) (I5 281 (Int32.toNatClampNeg (x6 - (1 : Int32))))), L5, (qc_u D5 282 (Int32.toNatClampNeg x6) (D5 282 (Int32.toNatClampNeg (x6 - (1 : Int32))))), R5, x1, x2, x4, (x6 - (1 : Int32)), (x6 + (-1))))))
set_option maxRecDepth 100000 in
set_option maxHeartbeats 4000000 in
theorem tX3_insert_b22 {w : qcW} {I : qTI} {L : qTL} {D : qTD} {R : qTR} {k22 : qTI × qTL × qTD × qTR × Int32 × UInt64 × Int32 × Int32 × Int32 → qcO Unit} {x1 : Int32} {x2 : UInt64} {x4 : Int32} {x5 : Int32} {x6 : Int32} {r : Unit} {I' : qTI} {L' : qTL} {D' : qTD} {R' : qTR} (hn : qcNF ≤ w.1) (hR : qc_FR R) (hk22 : ∀ {I : qTI} {L : qTL} {D : qTD} {R : qTR} {x1 : Int32} {x2 : UInt64} {x4 : Int32} {x5 : Int32} {x6 : Int32} {r : Unit} {I' : qTI} {L' : qTL} {D' : qTD} {R' : qTR}, qc_FR R → k22 (I, L, D, R, x1, x2, x4, x5, x6) = some (r, I', L', D', R') → qc_fm qcSX (I, L, D, R) (I', L', D', R') ∧ qc_X (qc_rm (1) 0 0) qmX3_insert (qc_QM 0 0 (qc_eq none w (I', L', D', R'))) 0 0 w (22, [(0, .ref 280), (1, .int x1), (2, .double x2), (4, .int x4), (5, .int x5), (6, .int x6)], [], I, L, D, R)) (h : fX3_insert_b22 w k22 I L D R x1 x2 x4 x5 x6 = some (r, I', L', D', R')) : qc_fm qcSX (I, L, D, R) (I', L', D', R') ∧ qc_X (qc_rm (1) 0 0) qmX3_insert (qc_QM 0 0 (qc_eq none w (I', L', D', R'))) 0 0 w (22, [(0, .ref 280), (1, .int x1), (2, .double x2), (4, .int x4), (5, .int x5), (6, .int x6)], [], I, L, D, R) := by
  unfold fX3_insert_b22 at h
  refine And.imp_right (fun hx => qc_iload (qc_at qkX3_insert 11 rfl) rfl <| hx) ?_
  refine qc_andC (qc_if_le (qc_at qkX3_insert 12 rfl)) (fun u3 => ?_) (fun u3 => ?_)
  · replace h := qc_jp u3 h
    exact And.imp_right (fun hx => qc_sub [0, 1, 2, 4] rfl hx) (tX3_insert_b90 hn hR h)
  · replace h := qc_jn u3 h
    refine And.imp_right (fun hx => qc_iload (qc_at qkX3_insert 13 rfl) rfl <| qc_dload_n (qc_at qkX3_insert 14 rfl) rfl <| qc_aload_n (qc_at qkX3_insert 15 rfl) rfl <| qc_gR (qc_at qkX3_insert 16 rfl) hn rfl (qfr_280_8 hR) rfl <| qc_iload (qc_at qkX3_insert 17 rfl) rfl <| qc_iconst (qc_at qkX3_insert 18 rfl) <| qc_isub (qc_at qkX3_insert 19 rfl) <| hx) ?_
    obtain ⟨g4, h⟩ := qc_gd_of h
    refine And.imp_right (fun hx => qc_dald 16 (qc_at qkX3_insert 20 rfl) hn rfl (qc_inb_in g4) <| hx) ?_
    obtain ⟨r5, I5, L5, D5, R5, e5, h⟩ := qc_bd_of h
    have c5 := (tX8_compared hn hR e5)
    refine qd_cSv (qc_at qkX3_insert 21 rfl) ql_3_85 qfX8_compared c5 rfl rfl (Nat.le_of_ble_eq_true rfl) (qc_rml (by decide) (by decide)) ⟨Nat.zero_le _, Nat.zero_le _⟩ ?_
    refine And.imp_right (fun hx => qc_imul (qc_at qkX3_insert 22 rfl) <| hx) ?_
    refine qc_andC (qc_if_ge (qc_at qkX3_insert 23 rfl)) (fun u6 => ?_) (fun u6 => ?_)
    · replace h := qc_jp u6 h
      exact And.imp_right (fun hx => qc_sub [0, 1, 2, 4] rfl hx) (tX3_insert_b90 hn (c5.1.1 hR) h)
    · replace h := qc_jn u6 h
      refine And.imp_right (fun hx => qc_aload_n (qc_at qkX3_insert 24 rfl) rfl <| qc_gR (qc_at qkX3_insert 25 rfl) hn rfl (qfr_280_7 (c5.1.1 hR)) rfl <| qc_iload (qc_at qkX3_insert 26 rfl) rfl <| qc_aload_n (qc_at qkX3_insert 27 rfl) rfl <| qc_gR (qc_at qkX3_insert 28 rfl) hn rfl (qfr_280_7 (c5.1.1 hR)) rfl <| qc_iload (qc_at qkX3_insert 29 rfl) rfl <| qc_iconst (qc_at qkX3_insert 30 rfl) <| qc_isub (qc_at qkX3_insert 31 rfl) <| hx) ?_
      obtain ⟨g7, h⟩ := qc_gd_of h
      refine And.imp_right (fun hx => qc_iald 16 (qc_at qkX3_insert 32 rfl) hn rfl (qc_inb_in g7) <| hx) ?_
      obtain ⟨g8, h⟩ := qc_gd_of h
      refine qd_iast 16 (qc_at qkX3_insert 33 rfl) hn rfl (qc_inb_in g8) rfl ?_
      refine And.imp_right (fun hx => qc_aload_n (qc_at qkX3_insert 34 rfl) rfl <| qc_gR (qc_at qkX3_insert 35 rfl) hn rfl (qfr_280_8 (c5.1.1 hR)) rfl <| qc_iload (qc_at qkX3_insert 36 rfl) rfl <| qc_aload_n (qc_at qkX3_insert 37 rfl) rfl <| qc_gR (qc_at qkX3_insert 38 rfl) hn rfl (qfr_280_8 (c5.1.1 hR)) rfl <| qc_iload (qc_at qkX3_insert 39 rfl) rfl <| qc_iconst (qc_at qkX3_insert 40 rfl) <| qc_isub (qc_at qkX3_insert 41 rfl) <| hx) ?_
      obtain ⟨g9, h⟩ := qc_gd_of h
      refine And.imp_right (fun hx => qc_dald 16 (qc_at qkX3_insert 42 rfl) hn rfl (qc_inb_in g9) <| hx) ?_
      obtain ⟨g10, h⟩ := qc_gd_of h
      refine qd_dast 16 (qc_at qkX3_insert 43 rfl) hn rfl (qc_inb_in g10) rfl ?_
      exact And.imp_right (fun hx => qc_iload (qc_at qkX3_insert 44 rfl) rfl <| qc_iconst (qc_at qkX3_insert 45 rfl) <| qc_isub (qc_at qkX3_insert 46 rfl) <| qc_istore (lv' := [(5, _), (0, _), (1, _), (2, _), (4, _), (6, _)]) (qc_at qkX3_insert 47 rfl) rfl rfl <| qc_iinc (lv' := [(6, _), (5, _), (0, _), (1, _), (2, _), (4, _)]) (qc_at qkX3_insert 48 rfl) rfl rfl rfl <| qc_goto (qc_at qkX3_insert 49 rfl) <| qc_sub [2, 3, 4, 5, 1, 0] rfl hx) (hk22 (c5.1.1 hR) h)
def fX3_insert_l22 (w : qcW) : Nat → qTI × qTL × qTD × qTR × Int32 × UInt64 × Int32 × Int32 × Int32 → qcO Unit := qc_lp (fun k q => match q with | (I, L, D, R, x1, x2, x4, x5, x6) => fX3_insert_b22 w k I L D R x1 x2 x4 x5 x6)
set_option maxRecDepth 100000 in
set_option maxHeartbeats 4000000 in
theorem tX3_insert_l22 {w : qcW} (hn : qcNF ≤ w.1) : ∀ (n : Nat) {r : Unit} {I' : qTI} {L' : qTL} {D' : qTD} {R' : qTR} {I : qTI} {L : qTL} {D : qTD} {R : qTR} {x1 : Int32} {x2 : UInt64} {x4 : Int32} {x5 : Int32} {x6 : Int32} (hR : qc_FR R) (h : fX3_insert_l22 w n (I, L, D, R, x1, x2, x4, x5, x6) = some (r, I', L', D', R')), qc_fm qcSX (I, L, D, R) (I', L', D', R') ∧ qc_X (qc_rm (1) 0 0) qmX3_insert (qc_QM 0 0 (qc_eq none w (I', L', D', R'))) 0 0 w (22, [(0, .ref 280), (1, .int x1), (2, .double x2), (4, .int x4), (5, .int x5), (6, .int x6)], [], I, L, D, R) := by
  intro n
  induction n with
  | zero => intro _ _ _ _ _ _ _ _ _ _ _ _ _ _ _ h; cases h
  | succ n ih => intro _ _ _ _ _ _ _ _ _ _ _ _ _ _ hR h; exact tX3_insert_b22 hn hR (k22 := fX3_insert_l22 w n) (fun hR h => ih hR h) h
def fX3_insert (w : qcW) (I : qTI) (L : qTL) (D : qTD) (R : qTR) (x1 : Int32) (x2 : UInt64) (x4 : Int32) : qcO Unit :=
  (if (I 280 5) < (16 : Int32) then (fX3_insert_l22 w qcF (I, L, D, R, x1, x2, x4, (I 280 5), (I 280 5))) else (some ((), I, L, D, R)))
set_option maxRecDepth 100000 in
set_option maxHeartbeats 4000000 in
theorem tX3_insert {w : qcW} {I : qTI} {L : qTL} {D : qTD} {R : qTR} {x1 : Int32} {x2 : UInt64} {x4 : Int32} {r : Unit} {I' : qTI} {L' : qTL} {D' : qTD} {R' : qTR} (hn : qcNF ≤ w.1) (hR : qc_FR R) (h : fX3_insert w I L D R x1 x2 x4 = some (r, I', L', D', R')) : qc_fm qcSX (I, L, D, R) (I', L', D', R') ∧ qc_V (1) 0 0 qmX3_insert [.ref 280, .int x1, .double x2, .int x4] w (I, L, D, R) (qc_eq none w (I', L', D', R')) := by
  unfold fX3_insert at h
  refine And.imp_right (fun hx => qc_V.of rfl rfl (Nat.le_of_ble_eq_true rfl) (lv := [(0, .ref 280), (1, .int x1), (2, .double x2), (4, .int x4)]) rfl hx) ?_
  refine And.imp_right (fun hx => qc_aload_n (qc_at qkX3_insert 0 rfl) rfl <| qc_gI (qc_at qkX3_insert 1 rfl) hn rfl <| qc_bipush (qc_at qkX3_insert 2 rfl) <| hx) ?_
  refine qc_andC (qc_icmp_lt (qc_at qkX3_insert 3 rfl)) (fun u11 => ?_) (fun u11 => ?_)
  · replace h := qc_jp u11 h
    exact And.imp_right (fun hx => qc_aload_n (qc_at qkX3_insert 5 rfl) rfl <| qc_gI (qc_at qkX3_insert 6 rfl) hn rfl <| qc_istore (lv' := [(5, _), (0, _), (1, _), (2, _), (4, _)]) (qc_at qkX3_insert 7 rfl) rfl rfl <| qc_aload_n (qc_at qkX3_insert 8 rfl) rfl <| qc_gI (qc_at qkX3_insert 9 rfl) hn rfl <| qc_istore (lv' := [(6, _), (5, _), (0, _), (1, _), (2, _), (4, _)]) (qc_at qkX3_insert 10 rfl) rfl rfl <| qc_sub [2, 3, 4, 5, 1, 0] rfl hx) (tX3_insert_l22 hn qcF hR h)
  · replace h := qc_jn u11 h
    obtain ⟨rfl, rfl, rfl, rfl, rfl⟩ := qc_some5 h
    exact ⟨qc_fm.rf _, qc_vret (qc_at qkX3_insert 4 rfl) rfl (Nat.le_refl _) (Nat.le_refl _) (qc_eq.rf _ _ _)⟩
def fX3_keepFirst (w : qcW) (I : qTI) (L : qTL) (D : qTD) (R : qTR) (x1 : Int32) : qcO Unit :=
  (qc_bd (fJ9_min_7cf53 w I L D R (I 280 5) x1) fun r1 I1 L1 D1 R1 => some ((), (qc_u I1 280 5 r1), L1, D1, R1))
set_option maxRecDepth 100000 in
set_option maxHeartbeats 4000000 in
theorem tX3_keepFirst {w : qcW} {I : qTI} {L : qTL} {D : qTD} {R : qTR} {x1 : Int32} {r : Unit} {I' : qTI} {L' : qTL} {D' : qTD} {R' : qTR} (hn : qcNF ≤ w.1) (hR : qc_FR R) (h : fX3_keepFirst w I L D R x1 = some (r, I', L', D', R')) : qc_fm qcSX (I, L, D, R) (I', L', D', R') ∧ qc_V (1) 0 0 qmX3_keepFirst [.ref 280, .int x1] w (I, L, D, R) (qc_eq none w (I', L', D', R')) := by
  unfold fX3_keepFirst at h
  refine And.imp_right (fun hx => qc_V.of rfl rfl (Nat.le_of_ble_eq_true rfl) (lv := [(0, .ref 280), (1, .int x1)]) rfl hx) ?_
  refine And.imp_right (fun hx => qc_aload_n (qc_at qkX3_keepFirst 0 rfl) rfl <| qc_aload_n (qc_at qkX3_keepFirst 1 rfl) rfl <| qc_gI (qc_at qkX3_keepFirst 2 rfl) hn rfl <| qc_iload_n (qc_at qkX3_keepFirst 3 rfl) rfl <| hx) ?_
  obtain ⟨r1, I1, L1, D1, R1, e1, h⟩ := qc_bd_of h
  have c1 := (tJ9_min_7cf53 (sd := qcSX) hn hR e1)
  refine qd_cSv (qc_at qkX3_keepFirst 4 rfl) ql_3_91 qfJ9_min_7cf53 c1 rfl rfl (Nat.le_of_ble_eq_true rfl) (qc_rml (by decide) (by decide)) ⟨Nat.zero_le _, Nat.zero_le _⟩ ?_
  refine qd_pI (qc_at qkX3_keepFirst 5 rfl) hn rfl rfl ?_
  obtain ⟨rfl, rfl, rfl, rfl, rfl⟩ := qc_some5 h
  exact ⟨qc_fm.rf _, qc_vret (qc_at qkX3_keepFirst 6 rfl) rfl (Nat.le_refl _) (Nat.le_refl _) (qc_eq.rf _ _ _)⟩
def fX3_isSummed (w : qcW) (I : qTI) (L : qTL) (D : qTD) (R : qTR) : qcO Bool :=
  (qc_gd (qc_l62 (R 280 12)) <| if (R 280 12) = 11 then (some (true, I, L, D, R)) else (qc_gd (qc_l62 (R 280 12)) <| if (R 280 12) = 12 then (some (true, I, L, D, R)) else (some (false, I, L, D, R))))
set_option maxRecDepth 100000 in
set_option maxHeartbeats 4000000 in
theorem tX3_isSummed {w : qcW} {I : qTI} {L : qTL} {D : qTD} {R : qTR} {r : Bool} {I' : qTI} {L' : qTL} {D' : qTD} {R' : qTR} (hn : qcNF ≤ w.1) (hR : qc_FR R) (h : fX3_isSummed w I L D R = some (r, I', L', D', R')) : qc_fm qcSX (I, L, D, R) (I', L', D', R') ∧ qc_V (0) 0 0 qmX3_isSummed [.ref 280] w (I, L, D, R) (qc_eq (some (.int (qc_b r))) w (I', L', D', R')) := by
  unfold fX3_isSummed at h
  refine And.imp_right (fun hx => qc_V.of rfl rfl (Nat.le_of_ble_eq_true rfl) (lv := [(0, .ref 280)]) rfl hx) ?_
  refine And.imp_right (fun hx => qc_aload_n (qc_at qkX3_isSummed 0 rfl) rfl <| hx) ?_
  obtain ⟨g1, h⟩ := qc_gd_of h
  replace g1 := qc_l62_of g1
  refine And.imp_right (fun hx => qc_gR (qc_at qkX3_isSummed 1 rfl) hn rfl rfl (qc_ne62 g1) <| qc_gS (qc_at qkX3_isSummed 2 rfl) rfl <| hx) ?_
  refine qc_andC (qc_acmp_eq (qc_at qkX3_isSummed 3 rfl) (Or.inl g1) (Or.inl (by decide))) (fun u2 => ?_) (fun u2 => ?_)
  · replace h := qc_jp u2 h
    obtain ⟨rfl, rfl, rfl, rfl, rfl⟩ := qc_some5 h
    exact ⟨qc_fm.rf _, qc_iconst (qc_at qkX3_isSummed 8 rfl) <| qc_goto (qc_at qkX3_isSummed 9 rfl) <| qc_zret (qc_at qkX3_isSummed 11 rfl) rfl (Or.inr rfl) (Nat.le_refl _) (Nat.le_refl _) ⟨rfl, rfl, rfl⟩⟩
  · replace h := qc_jn u2 h
    refine And.imp_right (fun hx => qc_aload_n (qc_at qkX3_isSummed 4 rfl) rfl <| hx) ?_
    obtain ⟨g3, h⟩ := qc_gd_of h
    replace g3 := qc_l62_of g3
    refine And.imp_right (fun hx => qc_gR (qc_at qkX3_isSummed 5 rfl) hn rfl rfl (qc_ne62 g3) <| qc_gS (qc_at qkX3_isSummed 6 rfl) rfl <| hx) ?_
    refine qc_andN (qc_acmp_ne (qc_at qkX3_isSummed 7 rfl) (Or.inl g3) (Or.inl (by decide))) (fun u4 => ?_) (fun u4 => ?_)
    · replace h := qc_jn u4 h
      obtain ⟨rfl, rfl, rfl, rfl, rfl⟩ := qc_some5 h
      exact ⟨qc_fm.rf _, qc_iconst (qc_at qkX3_isSummed 10 rfl) <| qc_zret (qc_at qkX3_isSummed 11 rfl) rfl (Or.inl rfl) (Nat.le_refl _) (Nat.le_refl _) ⟨rfl, rfl, rfl⟩⟩
    · replace h := qc_jp u4 h
      obtain ⟨rfl, rfl, rfl, rfl, rfl⟩ := qc_some5 h
      exact ⟨qc_fm.rf _, qc_iconst (qc_at qkX3_isSummed 8 rfl) <| qc_goto (qc_at qkX3_isSummed 9 rfl) <| qc_zret (qc_at qkX3_isSummed 11 rfl) rfl (Or.inr rfl) (Nat.le_refl _) (Nat.le_refl _) ⟨rfl, rfl, rfl⟩⟩
def fX3_foldedReal (w : qcW) (I : qTI) (L : qTL) (D : qTD) (R : qTR) (x1 : Int32) (x2 : UInt64) : qcO UInt64 :=
  (qc_bd (fX3_isSummed w I L D R) fun r1 I1 L1 D1 R1 => if r1 = true then (qc_gd (qc_inb x1 8) <| qc_gd (qc_n64 (FP.dadd (D1 285 (Int32.toNatClampNeg x1)) x2)) <| some ((FP.dadd (D1 285 (Int32.toNatClampNeg x1)) x2), I1, L1, D1, R1)) else (qc_gd (qc_inb x1 16) <| if (I1 281 (Int32.toNatClampNeg x1)) = 0 then (some (x2, I1, L1, D1, R1)) else (qc_gd (qc_l62 (R1 280 12)) <| if (R1 280 12) = 27 then (qc_gd (qc_inb x1 8) <| qc_bd (fX8_lesser w I1 L1 D1 R1 (D1 285 (Int32.toNatClampNeg x1)) x2) fun r10 I10 L10 D10 R10 => some (r10, I10, L10, D10, R10)) else (qc_gd (qc_inb x1 8) <| qc_bd (fX8_greater w I1 L1 D1 R1 (D1 285 (Int32.toNatClampNeg x1)) x2) fun r8 I8 L8 D8 R8 => some (r8, I8, L8, D8, R8)))))
set_option maxRecDepth 100000 in
set_option maxHeartbeats 4000000 in
theorem tX3_foldedReal {w : qcW} {I : qTI} {L : qTL} {D : qTD} {R : qTR} {x1 : Int32} {x2 : UInt64} {r : UInt64} {I' : qTI} {L' : qTL} {D' : qTD} {R' : qTR} (hn : qcNF ≤ w.1) (hR : qc_FR R) (h : fX3_foldedReal w I L D R x1 x2 = some (r, I', L', D', R')) : qc_fm qcSX (I, L, D, R) (I', L', D', R') ∧ qc_V (2) 0 0 qmX3_foldedReal [.ref 280, .int x1, .double x2] w (I, L, D, R) (qc_eq (some (.double r)) w (I', L', D', R')) := by
  unfold fX3_foldedReal at h
  refine And.imp_right (fun hx => qc_V.of rfl rfl (Nat.le_of_ble_eq_true rfl) (lv := [(0, .ref 280), (1, .int x1), (2, .double x2)]) rfl hx) ?_
  refine And.imp_right (fun hx => qc_aload_n (qc_at qkX3_foldedReal 0 rfl) rfl <| hx) ?_
  obtain ⟨r1, I1, L1, D1, R1, e1, h⟩ := qc_bd_of h
  have c1 := (tX3_isSummed hn hR e1)
  refine qd_cVv (ci := 3) (a0 := 280) (qc_at qkX3_foldedReal 1 rfl) ql_3_105 qfX3_isSummed (qc_kf hn rfl) rfl c1 rfl rfl (Nat.le_of_ble_eq_true rfl) (qc_rml (by decide) (by decide)) ⟨Nat.zero_le _, Nat.zero_le _⟩ ?_
  refine qc_andB (qc_ifB_eq (qc_at qkX3_foldedReal 2 rfl)) (fun u2 => ?_) (fun u2 => ?_)
  · replace h := qc_jf u2 h
    refine And.imp_right (fun hx => qc_aload_n (qc_at qkX3_foldedReal 10 rfl) rfl <| qc_gR (qc_at qkX3_foldedReal 11 rfl) hn rfl (qfr_280_7 (c1.1.1 hR)) rfl <| qc_iload_n (qc_at qkX3_foldedReal 12 rfl) rfl <| hx) ?_
    obtain ⟨g3, h⟩ := qc_gd_of h
    refine And.imp_right (fun hx => qc_iald 16 (qc_at qkX3_foldedReal 13 rfl) hn rfl (qc_inb_in g3) <| hx) ?_
    refine qc_andN (qc_if_ne (qc_at qkX3_foldedReal 14 rfl)) (fun u4 => ?_) (fun u4 => ?_)
    · replace h := qc_jn u4 h
      refine And.imp_right (fun hx => qc_aload_n (qc_at qkX3_foldedReal 17 rfl) rfl <| hx) ?_
      obtain ⟨g5, h⟩ := qc_gd_of h
      replace g5 := qc_l62_of g5
      refine And.imp_right (fun hx => qc_gR (qc_at qkX3_foldedReal 18 rfl) hn rfl rfl (qc_ne62 g5) <| qc_gS (qc_at qkX3_foldedReal 19 rfl) rfl <| hx) ?_
      refine qc_andN (qc_acmp_ne (qc_at qkX3_foldedReal 20 rfl) (Or.inl g5) (Or.inl (by decide))) (fun u6 => ?_) (fun u6 => ?_)
      · replace h := qc_jn u6 h
        refine And.imp_right (fun hx => qc_aload_n (qc_at qkX3_foldedReal 28 rfl) rfl <| qc_gR (qc_at qkX3_foldedReal 29 rfl) hn rfl (qfr_280_11 (c1.1.1 hR)) rfl <| qc_iload_n (qc_at qkX3_foldedReal 30 rfl) rfl <| hx) ?_
        obtain ⟨g7, h⟩ := qc_gd_of h
        refine And.imp_right (fun hx => qc_dald 8 (qc_at qkX3_foldedReal 31 rfl) hn rfl (qc_inb_in g7) <| qc_dload_n (qc_at qkX3_foldedReal 32 rfl) rfl <| hx) ?_
        obtain ⟨r8, I8, L8, D8, R8, e8, h⟩ := qc_bd_of h
        have c8 := (tX8_greater hn (c1.1.1 hR) e8)
        refine qd_cSv (qc_at qkX3_foldedReal 33 rfl) ql_3_136 qfX8_greater c8 rfl rfl (Nat.le_of_ble_eq_true rfl) (qc_rml (by decide) (by decide)) ⟨Nat.zero_le _, Nat.zero_le _⟩ ?_
        obtain ⟨rfl, rfl, rfl, rfl, rfl⟩ := qc_some5 h
        exact ⟨qc_fm.rf _, qc_dret (qc_at qkX3_foldedReal 34 rfl) rfl (Nat.le_refl _) (Nat.le_refl _) (qc_eq.rf _ _ _)⟩
      · replace h := qc_jp u6 h
        refine And.imp_right (fun hx => qc_aload_n (qc_at qkX3_foldedReal 21 rfl) rfl <| qc_gR (qc_at qkX3_foldedReal 22 rfl) hn rfl (qfr_280_11 (c1.1.1 hR)) rfl <| qc_iload_n (qc_at qkX3_foldedReal 23 rfl) rfl <| hx) ?_
        obtain ⟨g9, h⟩ := qc_gd_of h
        refine And.imp_right (fun hx => qc_dald 8 (qc_at qkX3_foldedReal 24 rfl) hn rfl (qc_inb_in g9) <| qc_dload_n (qc_at qkX3_foldedReal 25 rfl) rfl <| hx) ?_
        obtain ⟨r10, I10, L10, D10, R10, e10, h⟩ := qc_bd_of h
        have c10 := (tX8_lesser hn (c1.1.1 hR) e10)
        refine qd_cSv (qc_at qkX3_foldedReal 26 rfl) ql_3_132 qfX8_lesser c10 rfl rfl (Nat.le_of_ble_eq_true rfl) (qc_rml (by decide) (by decide)) ⟨Nat.zero_le _, Nat.zero_le _⟩ ?_
        obtain ⟨rfl, rfl, rfl, rfl, rfl⟩ := qc_some5 h
        exact ⟨qc_fm.rf _, qc_goto (qc_at qkX3_foldedReal 27 rfl) <| qc_dret (qc_at qkX3_foldedReal 34 rfl) rfl (Nat.le_refl _) (Nat.le_refl _) (qc_eq.rf _ _ _)⟩
    · replace h := qc_jp u4 h
      obtain ⟨rfl, rfl, rfl, rfl, rfl⟩ := qc_some5 h
      exact ⟨qc_fm.rf _, qc_dload_n (qc_at qkX3_foldedReal 15 rfl) rfl <| qc_dret (qc_at qkX3_foldedReal 16 rfl) rfl (Nat.le_refl _) (Nat.le_refl _) (qc_eq.rf _ _ _)⟩
  · replace h := qc_jt u2 h
    refine And.imp_right (fun hx => qc_aload_n (qc_at qkX3_foldedReal 3 rfl) rfl <| qc_gR (qc_at qkX3_foldedReal 4 rfl) hn rfl (qfr_280_11 (c1.1.1 hR)) rfl <| qc_iload_n (qc_at qkX3_foldedReal 5 rfl) rfl <| hx) ?_
    obtain ⟨g11, h⟩ := qc_gd_of h
    refine And.imp_right (fun hx => qc_dald 8 (qc_at qkX3_foldedReal 6 rfl) hn rfl (qc_inb_in g11) <| qc_dload_n (qc_at qkX3_foldedReal 7 rfl) rfl <| hx) ?_
    obtain ⟨g12, h⟩ := qc_gd_of h
    replace g12 := qc_n64_of g12
    obtain ⟨rfl, rfl, rfl, rfl, rfl⟩ := qc_some5 h
    exact ⟨qc_fm.rf _, qc_dadd (qc_at qkX3_foldedReal 8 rfl) g12 <| qc_dret (qc_at qkX3_foldedReal 9 rfl) rfl (Nat.le_refl _) (Nat.le_refl _) (qc_eq.rf _ _ _)⟩
def fX3_foldedWhole (w : qcW) (I : qTI) (L : qTL) (D : qTD) (R : qTR) (x1 : Int32) (x2 : Int64) : qcO Int64 :=
  (qc_gd (qc_l62 (R 280 12)) <| if (R 280 12) = 10 then (qc_gd (qc_inb x1 8) <| some (((L 284 (Int32.toNatClampNeg x1)) + (1 : Int64)), I, L, D, R)) else (qc_gd (qc_l62 (R 280 12)) <| if (R 280 12) = 11 then (qc_gd (qc_inb x1 8) <| some (((L 284 (Int32.toNatClampNeg x1)) + x2), I, L, D, R)) else (qc_gd (qc_inb x1 16) <| if (I 281 (Int32.toNatClampNeg x1)) = 0 then (some (x2, I, L, D, R)) else (qc_gd (qc_l62 (R 280 12)) <| if (R 280 12) = 27 then (qc_gd (qc_inb x1 8) <| qc_bd (fJ9_min_f86c9 w I L D R (L 284 (Int32.toNatClampNeg x1)) x2) fun r12 I12 L12 D12 R12 => some (r12, I12, L12, D12, R12)) else (qc_gd (qc_inb x1 8) <| qc_bd (fJ9_max_f86c9 w I L D R (L 284 (Int32.toNatClampNeg x1)) x2) fun r10 I10 L10 D10 R10 => some (r10, I10, L10, D10, R10))))))
set_option maxRecDepth 100000 in
set_option maxHeartbeats 4000000 in
theorem tX3_foldedWhole {w : qcW} {I : qTI} {L : qTL} {D : qTD} {R : qTR} {x1 : Int32} {x2 : Int64} {r : Int64} {I' : qTI} {L' : qTL} {D' : qTD} {R' : qTR} (hn : qcNF ≤ w.1) (hR : qc_FR R) (h : fX3_foldedWhole w I L D R x1 x2 = some (r, I', L', D', R')) : qc_fm qcSX (I, L, D, R) (I', L', D', R') ∧ qc_V (1) 0 0 qmX3_foldedWhole [.ref 280, .int x1, .long x2] w (I, L, D, R) (qc_eq (some (.long r)) w (I', L', D', R')) := by
  unfold fX3_foldedWhole at h
  refine And.imp_right (fun hx => qc_V.of rfl rfl (Nat.le_of_ble_eq_true rfl) (lv := [(0, .ref 280), (1, .int x1), (2, .long x2)]) rfl hx) ?_
  refine And.imp_right (fun hx => qc_aload_n (qc_at qkX3_foldedWhole 0 rfl) rfl <| hx) ?_
  obtain ⟨g1, h⟩ := qc_gd_of h
  replace g1 := qc_l62_of g1
  refine And.imp_right (fun hx => qc_gR (qc_at qkX3_foldedWhole 1 rfl) hn rfl rfl (qc_ne62 g1) <| qc_gS (qc_at qkX3_foldedWhole 2 rfl) rfl <| hx) ?_
  refine qc_andN (qc_acmp_ne (qc_at qkX3_foldedWhole 3 rfl) (Or.inl g1) (Or.inl (by decide))) (fun u2 => ?_) (fun u2 => ?_)
  · replace h := qc_jn u2 h
    refine And.imp_right (fun hx => qc_aload_n (qc_at qkX3_foldedWhole 11 rfl) rfl <| hx) ?_
    obtain ⟨g3, h⟩ := qc_gd_of h
    replace g3 := qc_l62_of g3
    refine And.imp_right (fun hx => qc_gR (qc_at qkX3_foldedWhole 12 rfl) hn rfl rfl (qc_ne62 g3) <| qc_gS (qc_at qkX3_foldedWhole 13 rfl) rfl <| hx) ?_
    refine qc_andN (qc_acmp_ne (qc_at qkX3_foldedWhole 14 rfl) (Or.inl g3) (Or.inl (by decide))) (fun u4 => ?_) (fun u4 => ?_)
    · replace h := qc_jn u4 h
      refine And.imp_right (fun hx => qc_aload_n (qc_at qkX3_foldedWhole 22 rfl) rfl <| qc_gR (qc_at qkX3_foldedWhole 23 rfl) hn rfl (qfr_280_7 hR) rfl <| qc_iload_n (qc_at qkX3_foldedWhole 24 rfl) rfl <| hx) ?_
      obtain ⟨g5, h⟩ := qc_gd_of h
      refine And.imp_right (fun hx => qc_iald 16 (qc_at qkX3_foldedWhole 25 rfl) hn rfl (qc_inb_in g5) <| hx) ?_
      refine qc_andN (qc_if_ne (qc_at qkX3_foldedWhole 26 rfl)) (fun u6 => ?_) (fun u6 => ?_)
      · replace h := qc_jn u6 h
        refine And.imp_right (fun hx => qc_aload_n (qc_at qkX3_foldedWhole 29 rfl) rfl <| hx) ?_
        obtain ⟨g7, h⟩ := qc_gd_of h
        replace g7 := qc_l62_of g7
        refine And.imp_right (fun hx => qc_gR (qc_at qkX3_foldedWhole 30 rfl) hn rfl rfl (qc_ne62 g7) <| qc_gS (qc_at qkX3_foldedWhole 31 rfl) rfl <| hx) ?_
        refine qc_andN (qc_acmp_ne (qc_at qkX3_foldedWhole 32 rfl) (Or.inl g7) (Or.inl (by decide))) (fun u8 => ?_) (fun u8 => ?_)
        · replace h := qc_jn u8 h
          refine And.imp_right (fun hx => qc_aload_n (qc_at qkX3_foldedWhole 40 rfl) rfl <| qc_gR (qc_at qkX3_foldedWhole 41 rfl) hn rfl (qfr_280_10 hR) rfl <| qc_iload_n (qc_at qkX3_foldedWhole 42 rfl) rfl <| hx) ?_
          obtain ⟨g9, h⟩ := qc_gd_of h
          refine And.imp_right (fun hx => qc_lald 8 (qc_at qkX3_foldedWhole 43 rfl) hn rfl (qc_inb_in g9) <| qc_lload_n (qc_at qkX3_foldedWhole 44 rfl) rfl <| hx) ?_
          obtain ⟨r10, I10, L10, D10, R10, e10, h⟩ := qc_bd_of h
          have c10 := (tJ9_max_f86c9 (sd := qcSX) hn hR e10)
          refine qd_cSv (qc_at qkX3_foldedWhole 45 rfl) ql_3_129 qfJ9_max_f86c9 c10 rfl rfl (Nat.le_of_ble_eq_true rfl) (qc_rml (by decide) (by decide)) ⟨Nat.zero_le _, Nat.zero_le _⟩ ?_
          obtain ⟨rfl, rfl, rfl, rfl, rfl⟩ := qc_some5 h
          exact ⟨qc_fm.rf _, qc_lret (qc_at qkX3_foldedWhole 46 rfl) rfl (Nat.le_refl _) (Nat.le_refl _) (qc_eq.rf _ _ _)⟩
        · replace h := qc_jp u8 h
          refine And.imp_right (fun hx => qc_aload_n (qc_at qkX3_foldedWhole 33 rfl) rfl <| qc_gR (qc_at qkX3_foldedWhole 34 rfl) hn rfl (qfr_280_10 hR) rfl <| qc_iload_n (qc_at qkX3_foldedWhole 35 rfl) rfl <| hx) ?_
          obtain ⟨g11, h⟩ := qc_gd_of h
          refine And.imp_right (fun hx => qc_lald 8 (qc_at qkX3_foldedWhole 36 rfl) hn rfl (qc_inb_in g11) <| qc_lload_n (qc_at qkX3_foldedWhole 37 rfl) rfl <| hx) ?_
          obtain ⟨r12, I12, L12, D12, R12, e12, h⟩ := qc_bd_of h
          have c12 := (tJ9_min_f86c9 (sd := qcSX) hn hR e12)
          refine qd_cSv (qc_at qkX3_foldedWhole 38 rfl) ql_3_126 qfJ9_min_f86c9 c12 rfl rfl (Nat.le_of_ble_eq_true rfl) (qc_rml (by decide) (by decide)) ⟨Nat.zero_le _, Nat.zero_le _⟩ ?_
          obtain ⟨rfl, rfl, rfl, rfl, rfl⟩ := qc_some5 h
          exact ⟨qc_fm.rf _, qc_goto (qc_at qkX3_foldedWhole 39 rfl) <| qc_lret (qc_at qkX3_foldedWhole 46 rfl) rfl (Nat.le_refl _) (Nat.le_refl _) (qc_eq.rf _ _ _)⟩
      · replace h := qc_jp u6 h
        obtain ⟨rfl, rfl, rfl, rfl, rfl⟩ := qc_some5 h
        exact ⟨qc_fm.rf _, qc_lload_n (qc_at qkX3_foldedWhole 27 rfl) rfl <| qc_lret (qc_at qkX3_foldedWhole 28 rfl) rfl (Nat.le_refl _) (Nat.le_refl _) (qc_eq.rf _ _ _)⟩
    · replace h := qc_jp u4 h
      refine And.imp_right (fun hx => qc_aload_n (qc_at qkX3_foldedWhole 15 rfl) rfl <| qc_gR (qc_at qkX3_foldedWhole 16 rfl) hn rfl (qfr_280_10 hR) rfl <| qc_iload_n (qc_at qkX3_foldedWhole 17 rfl) rfl <| hx) ?_
      obtain ⟨g13, h⟩ := qc_gd_of h
      obtain ⟨rfl, rfl, rfl, rfl, rfl⟩ := qc_some5 h
      exact ⟨qc_fm.rf _, qc_lald 8 (qc_at qkX3_foldedWhole 18 rfl) hn rfl (qc_inb_in g13) <| qc_lload_n (qc_at qkX3_foldedWhole 19 rfl) rfl <| qc_ladd (qc_at qkX3_foldedWhole 20 rfl) <| qc_lret (qc_at qkX3_foldedWhole 21 rfl) rfl (Nat.le_refl _) (Nat.le_refl _) (qc_eq.rf _ _ _)⟩
  · replace h := qc_jp u2 h
    refine And.imp_right (fun hx => qc_aload_n (qc_at qkX3_foldedWhole 4 rfl) rfl <| qc_gR (qc_at qkX3_foldedWhole 5 rfl) hn rfl (qfr_280_10 hR) rfl <| qc_iload_n (qc_at qkX3_foldedWhole 6 rfl) rfl <| hx) ?_
    obtain ⟨g14, h⟩ := qc_gd_of h
    obtain ⟨rfl, rfl, rfl, rfl, rfl⟩ := qc_some5 h
    exact ⟨qc_fm.rf _, qc_lald 8 (qc_at qkX3_foldedWhole 7 rfl) hn rfl (qc_inb_in g14) <| qc_lconst (qc_at qkX3_foldedWhole 8 rfl) <| qc_ladd (qc_at qkX3_foldedWhole 9 rfl) <| qc_lret (qc_at qkX3_foldedWhole 10 rfl) rfl (Nat.le_refl _) (Nat.le_refl _) (qc_eq.rf _ _ _)⟩
def fX3_groupOf_b2 (w : qcW) (k2 : qTI × qTL × qTD × qTR × Int64 × Int32 → qcO Int32) (I : qTI) (L : qTL) (D : qTD) (R : qTR) (x1 : Int64) (x3 : Int32) : qcO Int32 :=
  (if (I 280 5) ≤ x3 then (some ((I 280 5), I, L, D, R)) else (qc_gd (qc_inb x3 8) <| if (lg_cmp (L 283 (Int32.toNatClampNeg x3)) x1) = 0 then (some (x3, I, L, D, R)) else (k2 (I, L, D, R, x1, (x3 + (1))))))
set_option maxRecDepth 100000 in
set_option maxHeartbeats 4000000 in
theorem tX3_groupOf_b2 {w : qcW} {I : qTI} {L : qTL} {D : qTD} {R : qTR} {k2 : qTI × qTL × qTD × qTR × Int64 × Int32 → qcO Int32} {x1 : Int64} {x3 : Int32} {r : Int32} {I' : qTI} {L' : qTL} {D' : qTD} {R' : qTR} (hn : qcNF ≤ w.1) (hR : qc_FR R) (hk2 : ∀ {I : qTI} {L : qTL} {D : qTD} {R : qTR} {x1 : Int64} {x3 : Int32} {r : Int32} {I' : qTI} {L' : qTL} {D' : qTD} {R' : qTR}, qc_FR R → k2 (I, L, D, R, x1, x3) = some (r, I', L', D', R') → qc_fm qcSX (I, L, D, R) (I', L', D', R') ∧ qc_X (qc_rm (0) 0 0) qmX3_groupOf (qc_QM 0 0 (qc_eq (some (.int r)) w (I', L', D', R'))) 0 0 w (2, [(0, .ref 280), (1, .long x1), (3, .int x3)], [], I, L, D, R)) (h : fX3_groupOf_b2 w k2 I L D R x1 x3 = some (r, I', L', D', R')) : qc_fm qcSX (I, L, D, R) (I', L', D', R') ∧ qc_X (qc_rm (0) 0 0) qmX3_groupOf (qc_QM 0 0 (qc_eq (some (.int r)) w (I', L', D', R'))) 0 0 w (2, [(0, .ref 280), (1, .long x1), (3, .int x3)], [], I, L, D, R) := by
  unfold fX3_groupOf_b2 at h
  refine And.imp_right (fun hx => qc_iload_n (qc_at qkX3_groupOf 2 rfl) rfl <| qc_aload_n (qc_at qkX3_groupOf 3 rfl) rfl <| qc_gI (qc_at qkX3_groupOf 4 rfl) hn rfl <| hx) ?_
  refine qc_andC (qc_icmp_ge (qc_at qkX3_groupOf 5 rfl)) (fun u1 => ?_) (fun u1 => ?_)
  · replace h := qc_jp u1 h
    obtain ⟨rfl, rfl, rfl, rfl, rfl⟩ := qc_some5 h
    exact ⟨qc_fm.rf _, qc_aload_n (qc_at qkX3_groupOf 17 rfl) rfl <| qc_gI (qc_at qkX3_groupOf 18 rfl) hn rfl <| qc_iret (qc_at qkX3_groupOf 19 rfl) rfl (Nat.le_refl _) (Nat.le_refl _) (qc_eq.rf _ _ _)⟩
  · replace h := qc_jn u1 h
    refine And.imp_right (fun hx => qc_aload_n (qc_at qkX3_groupOf 6 rfl) rfl <| qc_gR (qc_at qkX3_groupOf 7 rfl) hn rfl (qfr_280_9 hR) rfl <| qc_iload_n (qc_at qkX3_groupOf 8 rfl) rfl <| hx) ?_
    obtain ⟨g2, h⟩ := qc_gd_of h
    refine And.imp_right (fun hx => qc_lald 8 (qc_at qkX3_groupOf 9 rfl) hn rfl (qc_inb_in g2) <| qc_lload_n (qc_at qkX3_groupOf 10 rfl) rfl <| qc_lcmp (qc_at qkX3_groupOf 11 rfl) <| hx) ?_
    refine qc_andN (qc_if_ne (qc_at qkX3_groupOf 12 rfl)) (fun u3 => ?_) (fun u3 => ?_)
    · replace h := qc_jn u3 h
      exact And.imp_right (fun hx => qc_iinc (lv' := [(3, _), (0, _), (1, _)]) (qc_at qkX3_groupOf 15 rfl) rfl rfl rfl <| qc_goto (qc_at qkX3_groupOf 16 rfl) <| qc_sub [1, 2, 0] rfl hx) (hk2 hR h)
    · replace h := qc_jp u3 h
      obtain ⟨rfl, rfl, rfl, rfl, rfl⟩ := qc_some5 h
      exact ⟨qc_fm.rf _, qc_iload_n (qc_at qkX3_groupOf 13 rfl) rfl <| qc_iret (qc_at qkX3_groupOf 14 rfl) rfl (Nat.le_refl _) (Nat.le_refl _) (qc_eq.rf _ _ _)⟩
def fX3_groupOf_l2 (w : qcW) : Nat → qTI × qTL × qTD × qTR × Int64 × Int32 → qcO Int32 := qc_lp (fun k q => match q with | (I, L, D, R, x1, x3) => fX3_groupOf_b2 w k I L D R x1 x3)
set_option maxRecDepth 100000 in
set_option maxHeartbeats 4000000 in
theorem tX3_groupOf_l2 {w : qcW} (hn : qcNF ≤ w.1) : ∀ (n : Nat) {r : Int32} {I' : qTI} {L' : qTL} {D' : qTD} {R' : qTR} {I : qTI} {L : qTL} {D : qTD} {R : qTR} {x1 : Int64} {x3 : Int32} (hR : qc_FR R) (h : fX3_groupOf_l2 w n (I, L, D, R, x1, x3) = some (r, I', L', D', R')), qc_fm qcSX (I, L, D, R) (I', L', D', R') ∧ qc_X (qc_rm (0) 0 0) qmX3_groupOf (qc_QM 0 0 (qc_eq (some (.int r)) w (I', L', D', R'))) 0 0 w (2, [(0, .ref 280), (1, .long x1), (3, .int x3)], [], I, L, D, R) := by
  intro n
  induction n with
  | zero => intro _ _ _ _ _ _ _ _ _ _ _ _ h; cases h
  | succ n ih => intro _ _ _ _ _ _ _ _ _ _ _ hR h; exact tX3_groupOf_b2 hn hR (k2 := fX3_groupOf_l2 w n) (fun hR h => ih hR h) h
def fX3_groupOf (w : qcW) (I : qTI) (L : qTL) (D : qTD) (R : qTR) (x1 : Int64) : qcO Int32 :=
  (fX3_groupOf_l2 w qcF (I, L, D, R, x1, (0 : Int32)))
set_option maxRecDepth 100000 in
set_option maxHeartbeats 4000000 in
theorem tX3_groupOf {w : qcW} {I : qTI} {L : qTL} {D : qTD} {R : qTR} {x1 : Int64} {r : Int32} {I' : qTI} {L' : qTL} {D' : qTD} {R' : qTR} (hn : qcNF ≤ w.1) (hR : qc_FR R) (h : fX3_groupOf w I L D R x1 = some (r, I', L', D', R')) : qc_fm qcSX (I, L, D, R) (I', L', D', R') ∧ qc_V (0) 0 0 qmX3_groupOf [.ref 280, .long x1] w (I, L, D, R) (qc_eq (some (.int r)) w (I', L', D', R')) := by
  unfold fX3_groupOf at h
  refine And.imp_right (fun hx => qc_V.of rfl rfl (Nat.le_of_ble_eq_true rfl) (lv := [(0, .ref 280), (1, .long x1)]) rfl hx) ?_
  exact And.imp_right (fun hx => qc_iconst (qc_at qkX3_groupOf 0 rfl) <| qc_istore_n (lv' := [(3, _), (0, _), (1, _)]) (qc_at qkX3_groupOf 1 rfl) rfl rfl <| qc_sub [1, 2, 0] rfl hx) (tX3_groupOf_l2 hn qcF hR h)
def fX3_fold_b96 (w : qcW) (I : qTI) (L : qTL) (D : qTD) (R : qTR) (x7 : Int32) : qcO Int32 :=
  (qc_gd (qc_inb x7 16) <| qc_gd (qc_inb x7 16) <| some ((0 : Int32), (qc_u I 281 (Int32.toNatClampNeg x7) ((I 281 (Int32.toNatClampNeg x7)) + (1 : Int32))), L, D, R))
set_option maxRecDepth 100000 in
set_option maxHeartbeats 4000000 in
theorem tX3_fold_b96 {w : qcW} {I : qTI} {L : qTL} {D : qTD} {R : qTR} {x7 : Int32} {r : Int32} {I' : qTI} {L' : qTL} {D' : qTD} {R' : qTR} (hn : qcNF ≤ w.1) (hR : qc_FR R) (h : fX3_fold_b96 w I L D R x7 = some (r, I', L', D', R')) : qc_fm qcSX (I, L, D, R) (I', L', D', R') ∧ qc_X (qc_rm (3) 0 0) qmX3_fold (qc_QM 0 0 (qc_eq (some (.int r)) w (I', L', D', R'))) 0 0 w (96, [(0, .ref 280), (7, .int x7)], [], I, L, D, R) := by
  unfold fX3_fold_b96 at h
  refine And.imp_right (fun hx => qc_aload_n (qc_at qkX3_fold 50 rfl) rfl <| qc_gR (qc_at qkX3_fold 51 rfl) hn rfl (qfr_280_7 hR) rfl <| qc_iload (qc_at qkX3_fold 52 rfl) rfl <| qc_dup2_11 (qc_at qkX3_fold 53 rfl) rfl rfl <| hx) ?_
  obtain ⟨g1, h⟩ := qc_gd_of h
  refine And.imp_right (fun hx => qc_iald 16 (qc_at qkX3_fold 54 rfl) hn rfl (qc_inb_in g1) <| qc_iconst (qc_at qkX3_fold 55 rfl) <| qc_iadd (qc_at qkX3_fold 56 rfl) <| hx) ?_
  obtain ⟨g2, h⟩ := qc_gd_of h
  refine qd_iast 16 (qc_at qkX3_fold 57 rfl) hn rfl (qc_inb_in g2) rfl ?_
  obtain ⟨rfl, rfl, rfl, rfl, rfl⟩ := qc_some5 h
  exact ⟨qc_fm.rf _, qc_iconst (qc_at qkX3_fold 58 rfl) <| qc_iret (qc_at qkX3_fold 59 rfl) rfl (Nat.le_refl _) (Nat.le_refl _) (qc_eq.rf _ _ _)⟩
def fX3_fold_b81 (w : qcW) (I : qTI) (L : qTL) (D : qTD) (R : qTR) (x5 : UInt64) (x7 : Int32) : qcO Int32 :=
  (qc_bd (fX3_foldedReal w I L D R x7 x5) fun r3 I3 L3 D3 R3 => qc_gd (qc_inb x7 8) <| fX3_fold_b96 w I3 L3 (qc_u D3 285 (Int32.toNatClampNeg x7) r3) R3 x7)
set_option maxRecDepth 100000 in
set_option maxHeartbeats 4000000 in
theorem tX3_fold_b81 {w : qcW} {I : qTI} {L : qTL} {D : qTD} {R : qTR} {x5 : UInt64} {x7 : Int32} {r : Int32} {I' : qTI} {L' : qTL} {D' : qTD} {R' : qTR} (hn : qcNF ≤ w.1) (hR : qc_FR R) (h : fX3_fold_b81 w I L D R x5 x7 = some (r, I', L', D', R')) : qc_fm qcSX (I, L, D, R) (I', L', D', R') ∧ qc_X (qc_rm (3) 0 0) qmX3_fold (qc_QM 0 0 (qc_eq (some (.int r)) w (I', L', D', R'))) 0 0 w (81, [(0, .ref 280), (5, .double x5), (7, .int x7)], [], I, L, D, R) := by
  unfold fX3_fold_b81 at h
  refine And.imp_right (fun hx => qc_aload_n (qc_at qkX3_fold 42 rfl) rfl <| qc_gR (qc_at qkX3_fold 43 rfl) hn rfl (qfr_280_11 hR) rfl <| qc_iload (qc_at qkX3_fold 44 rfl) rfl <| qc_aload_n (qc_at qkX3_fold 45 rfl) rfl <| qc_iload (qc_at qkX3_fold 46 rfl) rfl <| qc_dload (qc_at qkX3_fold 47 rfl) rfl <| hx) ?_
  obtain ⟨r3, I3, L3, D3, R3, e3, h⟩ := qc_bd_of h
  have c3 := (tX3_foldedReal hn hR e3)
  refine qd_cVv (ci := 3) (a0 := 280) (qc_at qkX3_fold 48 rfl) ql_3_113 qfX3_foldedReal (qc_kf hn rfl) rfl c3 rfl rfl (Nat.le_of_ble_eq_true rfl) (qc_rml (by decide) (by decide)) ⟨Nat.zero_le _, Nat.zero_le _⟩ ?_
  obtain ⟨g4, h⟩ := qc_gd_of h
  refine qd_dast 8 (qc_at qkX3_fold 49 rfl) hn rfl (qc_inb_in g4) rfl ?_
  exact And.imp_right (fun hx => qc_sub [0, 2] rfl hx) (tX3_fold_b96 hn (c3.1.1 hR) h)
def fX3_fold_b31 (w : qcW) (I : qTI) (L : qTL) (D : qTD) (R : qTR) (x3 : Int64) (x5 : UInt64) (x7 : Int32) : qcO Int32 :=
  (if (2 : Int32) < (I 280 13) then (qc_bd (fX3_isSummed w I L D R) fun r6 I6 L6 D6 R6 => if r6 = true then (qc_gd (qc_inb x7 8) <| qc_bd (fX8_isLost w I6 L6 D6 R6 (1 : Int32) (D6 285 (Int32.toNatClampNeg x7)) x5) fun r9 I9 L9 D9 R9 => if r9 = true then (some ((5 : Int32), I9, L9, D9, R9)) else (fX3_fold_b81 w I9 L9 D9 R9 x5 x7)) else (fX3_fold_b81 w I6 L6 D6 R6 x5 x7)) else (qc_bd (fX3_foldedWhole w I L D R x7 x3) fun r11 I11 L11 D11 R11 => qc_gd (qc_inb x7 8) <| fX3_fold_b96 w I11 (qc_u L11 284 (Int32.toNatClampNeg x7) r11) D11 R11 x7))
set_option maxRecDepth 100000 in
set_option maxHeartbeats 4000000 in
theorem tX3_fold_b31 {w : qcW} {I : qTI} {L : qTL} {D : qTD} {R : qTR} {x3 : Int64} {x5 : UInt64} {x7 : Int32} {r : Int32} {I' : qTI} {L' : qTL} {D' : qTD} {R' : qTR} (hn : qcNF ≤ w.1) (hR : qc_FR R) (h : fX3_fold_b31 w I L D R x3 x5 x7 = some (r, I', L', D', R')) : qc_fm qcSX (I, L, D, R) (I', L', D', R') ∧ qc_X (qc_rm (3) 0 0) qmX3_fold (qc_QM 0 0 (qc_eq (some (.int r)) w (I', L', D', R'))) 0 0 w (31, [(0, .ref 280), (3, .long x3), (5, .double x5), (7, .int x7)], [], I, L, D, R) := by
  unfold fX3_fold_b31 at h
  refine And.imp_right (fun hx => qc_aload_n (qc_at qkX3_fold 16 rfl) rfl <| qc_gI (qc_at qkX3_fold 17 rfl) hn rfl <| qc_iconst (qc_at qkX3_fold 18 rfl) <| hx) ?_
  refine qc_andC (qc_icmp_gt (qc_at qkX3_fold 19 rfl)) (fun u5 => ?_) (fun u5 => ?_)
  · replace h := qc_jp u5 h
    refine And.imp_right (fun hx => qc_aload_n (qc_at qkX3_fold 29 rfl) rfl <| hx) ?_
    obtain ⟨r6, I6, L6, D6, R6, e6, h⟩ := qc_bd_of h
    have c6 := (tX3_isSummed hn hR e6)
    refine qd_cVv (ci := 3) (a0 := 280) (qc_at qkX3_fold 30 rfl) ql_3_105 qfX3_isSummed (qc_kf hn rfl) rfl c6 rfl rfl (Nat.le_of_ble_eq_true rfl) (qc_rml (by decide) (by decide)) ⟨Nat.zero_le _, Nat.zero_le _⟩ ?_
    refine qc_andB (qc_ifB_eq (qc_at qkX3_fold 31 rfl)) (fun u7 => ?_) (fun u7 => ?_)
    · replace h := qc_jf u7 h
      exact And.imp_right (fun hx => qc_sub [0, 2, 3] rfl hx) (tX3_fold_b81 hn (c6.1.1 hR) h)
    · replace h := qc_jt u7 h
      refine And.imp_right (fun hx => qc_iconst (qc_at qkX3_fold 32 rfl) <| qc_aload_n (qc_at qkX3_fold 33 rfl) rfl <| qc_gR (qc_at qkX3_fold 34 rfl) hn rfl (qfr_280_11 (c6.1.1 hR)) rfl <| qc_iload (qc_at qkX3_fold 35 rfl) rfl <| hx) ?_
      obtain ⟨g8, h⟩ := qc_gd_of h
      refine And.imp_right (fun hx => qc_dald 8 (qc_at qkX3_fold 36 rfl) hn rfl (qc_inb_in g8) <| qc_dload (qc_at qkX3_fold 37 rfl) rfl <| hx) ?_
      obtain ⟨r9, I9, L9, D9, R9, e9, h⟩ := qc_bd_of h
      have c9 := (tX8_isLost hn (c6.1.1 hR) e9)
      refine qd_cSv (qc_at qkX3_fold 38 rfl) ql_3_109 qfX8_isLost c9 rfl rfl (Nat.le_of_ble_eq_true rfl) (qc_rml (by decide) (by decide)) ⟨Nat.zero_le _, Nat.zero_le _⟩ ?_
      refine qc_andB (qc_ifB_eq (qc_at qkX3_fold 39 rfl)) (fun u10 => ?_) (fun u10 => ?_)
      · replace h := qc_jf u10 h
        exact And.imp_right (fun hx => qc_sub [0, 2, 3] rfl hx) (tX3_fold_b81 hn (c9.1.1 (c6.1.1 hR)) h)
      · replace h := qc_jt u10 h
        obtain ⟨rfl, rfl, rfl, rfl, rfl⟩ := qc_some5 h
        exact ⟨qc_fm.rf _, qc_iconst (qc_at qkX3_fold 40 rfl) <| qc_iret (qc_at qkX3_fold 41 rfl) rfl (Nat.le_refl _) (Nat.le_refl _) (qc_eq.rf _ _ _)⟩
  · replace h := qc_jn u5 h
    refine And.imp_right (fun hx => qc_aload_n (qc_at qkX3_fold 20 rfl) rfl <| qc_gR (qc_at qkX3_fold 21 rfl) hn rfl (qfr_280_10 hR) rfl <| qc_iload (qc_at qkX3_fold 22 rfl) rfl <| qc_aload_n (qc_at qkX3_fold 23 rfl) rfl <| qc_iload (qc_at qkX3_fold 24 rfl) rfl <| qc_lload_n (qc_at qkX3_fold 25 rfl) rfl <| hx) ?_
    obtain ⟨r11, I11, L11, D11, R11, e11, h⟩ := qc_bd_of h
    have c11 := (tX3_foldedWhole hn hR e11)
    refine qd_cVv (ci := 3) (a0 := 280) (qc_at qkX3_fold 26 rfl) ql_3_101 qfX3_foldedWhole (qc_kf hn rfl) rfl c11 rfl rfl (Nat.le_of_ble_eq_true rfl) (qc_rml (by decide) (by decide)) ⟨Nat.zero_le _, Nat.zero_le _⟩ ?_
    obtain ⟨g12, h⟩ := qc_gd_of h
    refine qd_last 8 (qc_at qkX3_fold 27 rfl) hn rfl (qc_inb_in g12) rfl ?_
    exact And.imp_right (fun hx => qc_goto (qc_at qkX3_fold 28 rfl) <| qc_sub [0, 3] rfl hx) (tX3_fold_b96 hn (c11.1.1 hR) h)
def fX3_fold (w : qcW) (I : qTI) (L : qTL) (D : qTD) (R : qTR) (x1 : Int64) (x3 : Int64) (x5 : UInt64) : qcO Int32 :=
  (qc_bd (fX3_groupOf w I L D R x1) fun r13 I13 L13 D13 R13 => if r13 < (8 : Int32) then (if r13 = (I13 280 5) then (qc_bd (fX3_openGroup w I13 L13 D13 R13 x1) fun r16 I16 L16 D16 R16 => fX3_fold_b31 w I16 L16 D16 R16 x3 x5 r13) else (fX3_fold_b31 w I13 L13 D13 R13 x3 x5 r13)) else (some ((6 : Int32), I13, L13, D13, R13)))
set_option maxRecDepth 100000 in
set_option maxHeartbeats 4000000 in
theorem tX3_fold {w : qcW} {I : qTI} {L : qTL} {D : qTD} {R : qTR} {x1 : Int64} {x3 : Int64} {x5 : UInt64} {r : Int32} {I' : qTI} {L' : qTL} {D' : qTD} {R' : qTR} (hn : qcNF ≤ w.1) (hR : qc_FR R) (h : fX3_fold w I L D R x1 x3 x5 = some (r, I', L', D', R')) : qc_fm qcSX (I, L, D, R) (I', L', D', R') ∧ qc_V (3) 0 0 qmX3_fold [.ref 280, .long x1, .long x3, .double x5] w (I, L, D, R) (qc_eq (some (.int r)) w (I', L', D', R')) := by
  unfold fX3_fold at h
  refine And.imp_right (fun hx => qc_V.of rfl rfl (Nat.le_of_ble_eq_true rfl) (lv := [(0, .ref 280), (1, .long x1), (3, .long x3), (5, .double x5)]) rfl hx) ?_
  refine And.imp_right (fun hx => qc_aload_n (qc_at qkX3_fold 0 rfl) rfl <| qc_lload_n (qc_at qkX3_fold 1 rfl) rfl <| hx) ?_
  obtain ⟨r13, I13, L13, D13, R13, e13, h⟩ := qc_bd_of h
  have c13 := (tX3_groupOf hn hR e13)
  refine qd_cVv (ci := 3) (a0 := 280) (qc_at qkX3_fold 2 rfl) ql_3_97 qfX3_groupOf (qc_kf hn rfl) rfl c13 rfl rfl (Nat.le_of_ble_eq_true rfl) (qc_rml (by decide) (by decide)) ⟨Nat.zero_le _, Nat.zero_le _⟩ ?_
  refine And.imp_right (fun hx => qc_istore (lv' := [(7, _), (0, _), (1, _), (3, _), (5, _)]) (qc_at qkX3_fold 3 rfl) rfl rfl <| qc_iload (qc_at qkX3_fold 4 rfl) rfl <| qc_bipush (qc_at qkX3_fold 5 rfl) <| hx) ?_
  refine qc_andC (qc_icmp_lt (qc_at qkX3_fold 6 rfl)) (fun u14 => ?_) (fun u14 => ?_)
  · replace h := qc_jp u14 h
    refine And.imp_right (fun hx => qc_iload (qc_at qkX3_fold 9 rfl) rfl <| qc_aload_n (qc_at qkX3_fold 10 rfl) rfl <| qc_gI (qc_at qkX3_fold 11 rfl) hn rfl <| hx) ?_
    refine qc_andN (qc_icmp_ne (qc_at qkX3_fold 12 rfl)) (fun u15 => ?_) (fun u15 => ?_)
    · replace h := qc_jn u15 h
      exact And.imp_right (fun hx => qc_sub [1, 3, 4, 0] rfl hx) (tX3_fold_b31 hn (c13.1.1 hR) h)
    · replace h := qc_jp u15 h
      refine And.imp_right (fun hx => qc_aload_n (qc_at qkX3_fold 13 rfl) rfl <| qc_lload_n (qc_at qkX3_fold 14 rfl) rfl <| hx) ?_
      obtain ⟨r16, I16, L16, D16, R16, e16, h⟩ := qc_bd_of h
      have c16 := (tX3_openGroup hn (c13.1.1 hR) e16)
      refine qd_cVn (ci := 3) (a0 := 280) (qc_at qkX3_fold 15 rfl) ql_3_81 qfX3_openGroup (qc_kf hn rfl) rfl c16 rfl rfl (Nat.le_of_ble_eq_true rfl) (qc_rml (by decide) (by decide)) ⟨Nat.zero_le _, Nat.zero_le _⟩ ?_
      exact And.imp_right (fun hx => qc_sub [1, 3, 4, 0] rfl hx) (tX3_fold_b31 hn (c16.1.1 (c13.1.1 hR)) h)
  · replace h := qc_jn u14 h
    obtain ⟨rfl, rfl, rfl, rfl, rfl⟩ := qc_some5 h
    exact ⟨qc_fm.rf _, qc_bipush (qc_at qkX3_fold 7 rfl) <| qc_iret (qc_at qkX3_fold 8 rfl) rfl (Nat.le_refl _) (Nat.le_refl _) (qc_eq.rf _ _ _)⟩
def fX3_valueBits_b85 (w : qcW) (I : qTI) (L : qTL) (D : qTD) (R : qTR) (s0 : UInt64) : qcO Int64 :=
  (qc_bd (fX8_bitsOfDouble w I L D R s0) fun r1 I1 L1 D1 R1 => some (r1, I1, L1, D1, R1))
set_option maxRecDepth 100000 in
set_option maxHeartbeats 4000000 in
theorem tX3_valueBits_b85 {w : qcW} {I : qTI} {L : qTL} {D : qTD} {R : qTR} {s0 : UInt64} {r : Int64} {I' : qTI} {L' : qTL} {D' : qTD} {R' : qTR} (hn : qcNF ≤ w.1) (hR : qc_FR R) (h : fX3_valueBits_b85 w I L D R s0 = some (r, I', L', D', R')) : qc_fm qcSX (I, L, D, R) (I', L', D', R') ∧ qc_X (qc_rm (4) 0 0) qmX3_valueBits (qc_QM 0 0 (qc_eq (some (.long r)) w (I', L', D', R'))) 0 0 w (85, [], [.double s0], I, L, D, R) := by
  unfold fX3_valueBits_b85 at h
  obtain ⟨r1, I1, L1, D1, R1, e1, h⟩ := qc_bd_of h
  have c1 := (tX8_bitsOfDouble hn hR e1)
  refine qd_cSv (qc_at qkX3_valueBits 49 rfl) ql_3_143 qfX8_bitsOfDouble c1 rfl rfl (Nat.le_of_ble_eq_true rfl) (qc_rml (by decide) (by decide)) ⟨Nat.zero_le _, Nat.zero_le _⟩ ?_
  obtain ⟨rfl, rfl, rfl, rfl, rfl⟩ := qc_some5 h
  exact ⟨qc_fm.rf _, qc_lret (qc_at qkX3_valueBits 50 rfl) rfl (Nat.le_refl _) (Nat.le_refl _) (qc_eq.rf _ _ _)⟩
def fX3_valueBits_b57 (w : qcW) (I : qTI) (L : qTL) (D : qTD) (R : qTR) (x1 : Int32) (s0 : Int32) : qcO Int64 :=
  (if s0 = 0 then (qc_gd (qc_inb x1 8) <| fX3_valueBits_b85 w I L D R (D 285 (Int32.toNatClampNeg x1))) else (qc_gd (qc_inb x1 8) <| qc_gd (qc_inb x1 16) <| qc_gd (qc_n64 (FP.ddiv (D 285 (Int32.toNatClampNeg x1)) (FP.i2d (I 281 (Int32.toNatClampNeg x1))))) <| fX3_valueBits_b85 w I L D R (FP.ddiv (D 285 (Int32.toNatClampNeg x1)) (FP.i2d (I 281 (Int32.toNatClampNeg x1))))))
set_option maxRecDepth 100000 in
set_option maxHeartbeats 4000000 in
theorem tX3_valueBits_b57 {w : qcW} {I : qTI} {L : qTL} {D : qTD} {R : qTR} {x1 : Int32} {s0 : Int32} {r : Int64} {I' : qTI} {L' : qTL} {D' : qTD} {R' : qTR} (hn : qcNF ≤ w.1) (hR : qc_FR R) (h : fX3_valueBits_b57 w I L D R x1 s0 = some (r, I', L', D', R')) : qc_fm qcSX (I, L, D, R) (I', L', D', R') ∧ qc_X (qc_rm (4) 0 0) qmX3_valueBits (qc_QM 0 0 (qc_eq (some (.long r)) w (I', L', D', R'))) 0 0 w (57, [(0, .ref 280), (1, .int x1)], [.int s0], I, L, D, R) := by
  unfold fX3_valueBits_b57 at h
  refine And.imp_right (fun hx => qc_istore_n (lv' := [(2, _), (0, _), (1, _)]) (qc_at qkX3_valueBits 31 rfl) rfl rfl <| qc_iload_n (qc_at qkX3_valueBits 32 rfl) rfl <| hx) ?_
  refine qc_andC (qc_if_eq (qc_at qkX3_valueBits 33 rfl)) (fun u2 => ?_) (fun u2 => ?_)
  · replace h := qc_jp u2 h
    refine And.imp_right (fun hx => qc_aload_n (qc_at qkX3_valueBits 45 rfl) rfl <| qc_gR (qc_at qkX3_valueBits 46 rfl) hn rfl (qfr_280_11 hR) rfl <| qc_iload_n (qc_at qkX3_valueBits 47 rfl) rfl <| hx) ?_
    obtain ⟨g3, h⟩ := qc_gd_of h
    exact And.imp_right (fun hx => qc_dald 8 (qc_at qkX3_valueBits 48 rfl) hn rfl (qc_inb_in g3) <| qc_sub [] rfl hx) (tX3_valueBits_b85 hn hR h)
  · replace h := qc_jn u2 h
    refine And.imp_right (fun hx => qc_aload_n (qc_at qkX3_valueBits 34 rfl) rfl <| qc_gR (qc_at qkX3_valueBits 35 rfl) hn rfl (qfr_280_11 hR) rfl <| qc_iload_n (qc_at qkX3_valueBits 36 rfl) rfl <| hx) ?_
    obtain ⟨g4, h⟩ := qc_gd_of h
    refine And.imp_right (fun hx => qc_dald 8 (qc_at qkX3_valueBits 37 rfl) hn rfl (qc_inb_in g4) <| qc_aload_n (qc_at qkX3_valueBits 38 rfl) rfl <| qc_gR (qc_at qkX3_valueBits 39 rfl) hn rfl (qfr_280_7 hR) rfl <| qc_iload_n (qc_at qkX3_valueBits 40 rfl) rfl <| hx) ?_
    obtain ⟨g5, h⟩ := qc_gd_of h
    refine And.imp_right (fun hx => qc_iald 16 (qc_at qkX3_valueBits 41 rfl) hn rfl (qc_inb_in g5) <| qc_i2d (qc_at qkX3_valueBits 42 rfl) <| hx) ?_
    obtain ⟨g6, h⟩ := qc_gd_of h
    replace g6 := qc_n64_of g6
    exact And.imp_right (fun hx => qc_ddiv (qc_at qkX3_valueBits 43 rfl) g6 <| qc_goto (qc_at qkX3_valueBits 44 rfl) <| qc_sub [] rfl hx) (tX3_valueBits_b85 hn hR h)
def fX3_valueBits_b56 (w : qcW) (I : qTI) (L : qTL) (D : qTD) (R : qTR) (x1 : Int32) : qcO Int64 :=
  (fX3_valueBits_b57 w I L D R x1 (0 : Int32))
set_option maxRecDepth 100000 in
set_option maxHeartbeats 4000000 in
theorem tX3_valueBits_b56 {w : qcW} {I : qTI} {L : qTL} {D : qTD} {R : qTR} {x1 : Int32} {r : Int64} {I' : qTI} {L' : qTL} {D' : qTD} {R' : qTR} (hn : qcNF ≤ w.1) (hR : qc_FR R) (h : fX3_valueBits_b56 w I L D R x1 = some (r, I', L', D', R')) : qc_fm qcSX (I, L, D, R) (I', L', D', R') ∧ qc_X (qc_rm (4) 0 0) qmX3_valueBits (qc_QM 0 0 (qc_eq (some (.long r)) w (I', L', D', R'))) 0 0 w (56, [(0, .ref 280), (1, .int x1)], [], I, L, D, R) := by
  unfold fX3_valueBits_b56 at h
  exact And.imp_right (fun hx => qc_iconst (qc_at qkX3_valueBits 30 rfl) <| qc_sub [0, 1] rfl hx) (tX3_valueBits_b57 hn hR h)
def fX3_valueBits (w : qcW) (I : qTI) (L : qTL) (D : qTD) (R : qTR) (x1 : Int32) : qcO Int64 :=
  (if (2 : Int32) < (I 280 13) then (if (I 280 13) = (3 : Int32) then (qc_gd (qc_inb x1 8) <| qc_bd (fX8_bitsOfFloat w I L D R (D 285 (Int32.toNatClampNeg x1))) fun r14 I14 L14 D14 R14 => some (r14, I14, L14, D14, R14)) else (qc_gd (qc_l62 (R 280 12)) <| if (R 280 12) = 12 then (qc_gd (qc_inb x1 16) <| if (I 281 (Int32.toNatClampNeg x1)) ≤ 0 then (fX3_valueBits_b56 w I L D R x1) else (fX3_valueBits_b57 w I L D R x1 (1 : Int32))) else (fX3_valueBits_b56 w I L D R x1))) else (qc_gd (qc_inb x1 8) <| some ((L 284 (Int32.toNatClampNeg x1)), I, L, D, R)))
set_option maxRecDepth 100000 in
set_option maxHeartbeats 4000000 in
theorem tX3_valueBits {w : qcW} {I : qTI} {L : qTL} {D : qTD} {R : qTR} {x1 : Int32} {r : Int64} {I' : qTI} {L' : qTL} {D' : qTD} {R' : qTR} (hn : qcNF ≤ w.1) (hR : qc_FR R) (h : fX3_valueBits w I L D R x1 = some (r, I', L', D', R')) : qc_fm qcSX (I, L, D, R) (I', L', D', R') ∧ qc_V (4) 0 0 qmX3_valueBits [.ref 280, .int x1] w (I, L, D, R) (qc_eq (some (.long r)) w (I', L', D', R')) := by
  unfold fX3_valueBits at h
  refine And.imp_right (fun hx => qc_V.of rfl rfl (Nat.le_of_ble_eq_true rfl) (lv := [(0, .ref 280), (1, .int x1)]) rfl hx) ?_
  refine And.imp_right (fun hx => qc_aload_n (qc_at qkX3_valueBits 0 rfl) rfl <| qc_gI (qc_at qkX3_valueBits 1 rfl) hn rfl <| qc_iconst (qc_at qkX3_valueBits 2 rfl) <| hx) ?_
  refine qc_andC (qc_icmp_gt (qc_at qkX3_valueBits 3 rfl)) (fun u7 => ?_) (fun u7 => ?_)
  · replace h := qc_jp u7 h
    refine And.imp_right (fun hx => qc_aload_n (qc_at qkX3_valueBits 9 rfl) rfl <| qc_gI (qc_at qkX3_valueBits 10 rfl) hn rfl <| qc_iconst (qc_at qkX3_valueBits 11 rfl) <| hx) ?_
    refine qc_andN (qc_icmp_ne (qc_at qkX3_valueBits 12 rfl)) (fun u8 => ?_) (fun u8 => ?_)
    · replace h := qc_jn u8 h
      refine And.imp_right (fun hx => qc_aload_n (qc_at qkX3_valueBits 19 rfl) rfl <| hx) ?_
      obtain ⟨g9, h⟩ := qc_gd_of h
      replace g9 := qc_l62_of g9
      refine And.imp_right (fun hx => qc_gR (qc_at qkX3_valueBits 20 rfl) hn rfl rfl (qc_ne62 g9) <| qc_gS (qc_at qkX3_valueBits 21 rfl) rfl <| hx) ?_
      refine qc_andN (qc_acmp_ne (qc_at qkX3_valueBits 22 rfl) (Or.inl g9) (Or.inl (by decide))) (fun u10 => ?_) (fun u10 => ?_)
      · replace h := qc_jn u10 h
        exact And.imp_right (fun hx => qc_sub [0, 1] rfl hx) (tX3_valueBits_b56 hn hR h)
      · replace h := qc_jp u10 h
        refine And.imp_right (fun hx => qc_aload_n (qc_at qkX3_valueBits 23 rfl) rfl <| qc_gR (qc_at qkX3_valueBits 24 rfl) hn rfl (qfr_280_7 hR) rfl <| qc_iload_n (qc_at qkX3_valueBits 25 rfl) rfl <| hx) ?_
        obtain ⟨g11, h⟩ := qc_gd_of h
        refine And.imp_right (fun hx => qc_iald 16 (qc_at qkX3_valueBits 26 rfl) hn rfl (qc_inb_in g11) <| hx) ?_
        refine qc_andC (qc_if_le (qc_at qkX3_valueBits 27 rfl)) (fun u12 => ?_) (fun u12 => ?_)
        · replace h := qc_jp u12 h
          exact And.imp_right (fun hx => qc_sub [0, 1] rfl hx) (tX3_valueBits_b56 hn hR h)
        · replace h := qc_jn u12 h
          exact And.imp_right (fun hx => qc_iconst (qc_at qkX3_valueBits 28 rfl) <| qc_goto (qc_at qkX3_valueBits 29 rfl) <| qc_sub [0, 1] rfl hx) (tX3_valueBits_b57 hn hR h)
    · replace h := qc_jp u8 h
      refine And.imp_right (fun hx => qc_aload_n (qc_at qkX3_valueBits 13 rfl) rfl <| qc_gR (qc_at qkX3_valueBits 14 rfl) hn rfl (qfr_280_11 hR) rfl <| qc_iload_n (qc_at qkX3_valueBits 15 rfl) rfl <| hx) ?_
      obtain ⟨g13, h⟩ := qc_gd_of h
      refine And.imp_right (fun hx => qc_dald 8 (qc_at qkX3_valueBits 16 rfl) hn rfl (qc_inb_in g13) <| hx) ?_
      obtain ⟨r14, I14, L14, D14, R14, e14, h⟩ := qc_bd_of h
      have c14 := (tX8_bitsOfFloat hn hR e14)
      refine qd_cSv (qc_at qkX3_valueBits 17 rfl) ql_3_139 qfX8_bitsOfFloat c14 rfl rfl (Nat.le_of_ble_eq_true rfl) (qc_rml (by decide) (by decide)) ⟨Nat.zero_le _, Nat.zero_le _⟩ ?_
      obtain ⟨rfl, rfl, rfl, rfl, rfl⟩ := qc_some5 h
      exact ⟨qc_fm.rf _, qc_lret (qc_at qkX3_valueBits 18 rfl) rfl (Nat.le_refl _) (Nat.le_refl _) (qc_eq.rf _ _ _)⟩
  · replace h := qc_jn u7 h
    refine And.imp_right (fun hx => qc_aload_n (qc_at qkX3_valueBits 4 rfl) rfl <| qc_gR (qc_at qkX3_valueBits 5 rfl) hn rfl (qfr_280_10 hR) rfl <| qc_iload_n (qc_at qkX3_valueBits 6 rfl) rfl <| hx) ?_
    obtain ⟨g15, h⟩ := qc_gd_of h
    obtain ⟨rfl, rfl, rfl, rfl, rfl⟩ := qc_some5 h
    exact ⟨qc_fm.rf _, qc_lald 8 (qc_at qkX3_valueBits 7 rfl) hn rfl (qc_inb_in g15) <| qc_lret (qc_at qkX3_valueBits 8 rfl) rfl (Nat.le_refl _) (Nat.le_refl _) (qc_eq.rf _ _ _)⟩
def fX4_applyToReals (w : qcW) (I : qTI) (L : qTL) (D : qTD) (R : qTR) (x1 : Int32) : qcO Unit :=
  (qc_bd (fX6_takeReal w I L D R) fun r1 I1 L1 D1 R1 => if x1 = 0 then (qc_bd (fX8_magnitude w I1 L1 D1 R1 r1) fun r3 I3 L3 D3 R3 => qc_bd (fX6_layReal w I3 L3 D3 R3 r3) fun r4 I4 L4 D4 R4 => some ((), I4, L4, D4, R4)) else if x1 = 1 then (qc_bd (fX8_floor w I1 L1 D1 R1 r1) fun r6 I6 L6 D6 R6 => qc_bd (fX6_layReal w I6 L6 D6 R6 r6) fun r7 I7 L7 D7 R7 => some ((), I7, L7, D7, R7)) else if x1 = 2 then (qc_bd (fX8_floor w I1 L1 D1 R1 (FP.dneg r1)) fun r9 I9 L9 D9 R9 => qc_bd (fX6_layReal w I9 L9 D9 R9 (FP.dneg r9)) fun r10 I10 L10 D10 R10 => some ((), I10, L10, D10, R10)) else if x1 = 3 then (qc_bd (fX8_nearest w I1 L1 D1 R1 r1) fun r12 I12 L12 D12 R12 => qc_bd (fX6_layReal w I12 L12 D12 R12 r12) fun r13 I13 L13 D13 R13 => some ((), I13, L13, D13, R13)) else if x1 = 4 then (qc_bd (fX8_signOf w I1 L1 D1 R1 r1) fun r15 I15 L15 D15 R15 => qc_bd (fX6_layReal w I15 L15 D15 R15 r15) fun r16 I16 L16 D16 R16 => some ((), I16, L16, D16, R16)) else if x1 = 5 then (qc_bd (fX6_takeReal w I1 L1 D1 R1) fun r18 I18 L18 D18 R18 => qc_bd (fX8_lesser w I18 L18 D18 R18 r18 r1) fun r19 I19 L19 D19 R19 => qc_bd (fX6_layReal w I19 L19 D19 R19 r19) fun r20 I20 L20 D20 R20 => some ((), I20, L20, D20, R20)) else (qc_bd (fX6_takeReal w I1 L1 D1 R1) fun r21 I21 L21 D21 R21 => qc_bd (fX8_greater w I21 L21 D21 R21 r21 r1) fun r22 I22 L22 D22 R22 => qc_bd (fX6_layReal w I22 L22 D22 R22 r22) fun r23 I23 L23 D23 R23 => some ((), I23, L23, D23, R23)))
set_option maxRecDepth 100000 in
set_option maxHeartbeats 4000000 in
theorem tX4_applyToReals {w : qcW} {I : qTI} {L : qTL} {D : qTD} {R : qTR} {x1 : Int32} {r : Unit} {I' : qTI} {L' : qTL} {D' : qTD} {R' : qTR} (hn : qcNF ≤ w.1) (hR : qc_FR R) (h : fX4_applyToReals w I L D R x1 = some (r, I', L', D', R')) : qc_fm qcSX (I, L, D, R) (I', L', D', R') ∧ qc_V (2) 0 0 qmX4_applyToReals [.ref 286, .int x1] w (I, L, D, R) (qc_eq none w (I', L', D', R')) := by
  unfold fX4_applyToReals at h
  refine And.imp_right (fun hx => qc_V.of rfl rfl (Nat.le_of_ble_eq_true rfl) (lv := [(0, .ref 286), (1, .int x1)]) rfl hx) ?_
  refine And.imp_right (fun hx => qc_aload_n (qc_at qkX4_applyToReals 0 rfl) rfl <| qc_gR (qc_at qkX4_applyToReals 1 rfl) hn rfl (qfr_286_2 hR) rfl <| hx) ?_
  obtain ⟨r1, I1, L1, D1, R1, e1, h⟩ := qc_bd_of h
  have c1 := (tX6_takeReal hn hR e1)
  refine qd_cVv (ci := 5) (a0 := 287) (qc_at qkX4_applyToReals 2 rfl) ql_4_82 qfX6_takeReal (qc_kf hn rfl) rfl c1 rfl rfl (Nat.le_of_ble_eq_true rfl) (qc_rml (by decide) (by decide)) ⟨Nat.zero_le _, Nat.zero_le _⟩ ?_
  refine And.imp_right (fun hx => qc_dstore_n (lv' := [(2, _), (0, _), (1, _)]) (qc_at qkX4_applyToReals 3 rfl) rfl rfl <| qc_iload_n (qc_at qkX4_applyToReals 4 rfl) rfl <| hx) ?_
  refine qc_by (c := x1 = 0) (fun u2 => ?_) (fun u2 => ?_)
  · refine And.imp_right (fun hx => qc_tabIn (qc_at qkX4_applyToReals 5 rfl) 0 (by rw [u2]; rfl) (by decide) rfl rfl hx) ?_
    replace h := qc_jp u2 h
    refine And.imp_right (fun hx => qc_aload_n (qc_at qkX4_applyToReals 6 rfl) rfl <| qc_gR (qc_at qkX4_applyToReals 7 rfl) hn rfl (qfr_286_2 (c1.1.1 hR)) rfl <| qc_dload_n (qc_at qkX4_applyToReals 8 rfl) rfl <| hx) ?_
    obtain ⟨r3, I3, L3, D3, R3, e3, h⟩ := qc_bd_of h
    have c3 := (tX8_magnitude hn (c1.1.1 hR) e3)
    refine qd_cSv (qc_at qkX4_applyToReals 9 rfl) ql_4_244 qfX8_magnitude c3 rfl rfl (Nat.le_of_ble_eq_true rfl) (qc_rml (by decide) (by decide)) ⟨Nat.zero_le _, Nat.zero_le _⟩ ?_
    obtain ⟨r4, I4, L4, D4, R4, e4, h⟩ := qc_bd_of h
    have c4 := (tX6_layReal hn (c3.1.1 (c1.1.1 hR)) e4)
    refine qd_cVn (ci := 5) (a0 := 287) (qc_at qkX4_applyToReals 10 rfl) ql_4_178 qfX6_layReal (qc_kf hn rfl) rfl c4 rfl rfl (Nat.le_of_ble_eq_true rfl) (qc_rml (by decide) (by decide)) ⟨Nat.zero_le _, Nat.zero_le _⟩ ?_
    obtain ⟨rfl, rfl, rfl, rfl, rfl⟩ := qc_some5 h
    exact ⟨qc_fm.rf _, qc_goto (qc_at qkX4_applyToReals 11 rfl) <| qc_vret (qc_at qkX4_applyToReals 55 rfl) rfl (Nat.le_refl _) (Nat.le_refl _) (qc_eq.rf _ _ _)⟩
  · replace h := qc_jn u2 h
    refine qc_by (c := x1 = 1) (fun u5 => ?_) (fun u5 => ?_)
    · refine And.imp_right (fun hx => qc_tabIn (qc_at qkX4_applyToReals 5 rfl) 1 (by rw [u5]; rfl) (by decide) rfl rfl hx) ?_
      replace h := qc_jp u5 h
      refine And.imp_right (fun hx => qc_aload_n (qc_at qkX4_applyToReals 12 rfl) rfl <| qc_gR (qc_at qkX4_applyToReals 13 rfl) hn rfl (qfr_286_2 (c1.1.1 hR)) rfl <| qc_dload_n (qc_at qkX4_applyToReals 14 rfl) rfl <| hx) ?_
      obtain ⟨r6, I6, L6, D6, R6, e6, h⟩ := qc_bd_of h
      have c6 := (tX8_floor hn (c1.1.1 hR) e6)
      refine qd_cSv (qc_at qkX4_applyToReals 15 rfl) ql_4_248 qfX8_floor c6 rfl rfl (Nat.le_of_ble_eq_true rfl) (qc_rml (by decide) (by decide)) ⟨Nat.zero_le _, Nat.zero_le _⟩ ?_
      obtain ⟨r7, I7, L7, D7, R7, e7, h⟩ := qc_bd_of h
      have c7 := (tX6_layReal hn (c6.1.1 (c1.1.1 hR)) e7)
      refine qd_cVn (ci := 5) (a0 := 287) (qc_at qkX4_applyToReals 16 rfl) ql_4_178 qfX6_layReal (qc_kf hn rfl) rfl c7 rfl rfl (Nat.le_of_ble_eq_true rfl) (qc_rml (by decide) (by decide)) ⟨Nat.zero_le _, Nat.zero_le _⟩ ?_
      obtain ⟨rfl, rfl, rfl, rfl, rfl⟩ := qc_some5 h
      exact ⟨qc_fm.rf _, qc_goto (qc_at qkX4_applyToReals 17 rfl) <| qc_vret (qc_at qkX4_applyToReals 55 rfl) rfl (Nat.le_refl _) (Nat.le_refl _) (qc_eq.rf _ _ _)⟩
    · replace h := qc_jn u5 h
      refine qc_by (c := x1 = 2) (fun u8 => ?_) (fun u8 => ?_)
      · refine And.imp_right (fun hx => qc_tabIn (qc_at qkX4_applyToReals 5 rfl) 2 (by rw [u8]; rfl) (by decide) rfl rfl hx) ?_
        replace h := qc_jp u8 h
        refine And.imp_right (fun hx => qc_aload_n (qc_at qkX4_applyToReals 18 rfl) rfl <| qc_gR (qc_at qkX4_applyToReals 19 rfl) hn rfl (qfr_286_2 (c1.1.1 hR)) rfl <| qc_dload_n (qc_at qkX4_applyToReals 20 rfl) rfl <| qc_dneg (qc_at qkX4_applyToReals 21 rfl) <| hx) ?_
        obtain ⟨r9, I9, L9, D9, R9, e9, h⟩ := qc_bd_of h
        have c9 := (tX8_floor hn (c1.1.1 hR) e9)
        refine qd_cSv (qc_at qkX4_applyToReals 22 rfl) ql_4_248 qfX8_floor c9 rfl rfl (Nat.le_of_ble_eq_true rfl) (qc_rml (by decide) (by decide)) ⟨Nat.zero_le _, Nat.zero_le _⟩ ?_
        refine And.imp_right (fun hx => qc_dneg (qc_at qkX4_applyToReals 23 rfl) <| hx) ?_
        obtain ⟨r10, I10, L10, D10, R10, e10, h⟩ := qc_bd_of h
        have c10 := (tX6_layReal hn (c9.1.1 (c1.1.1 hR)) e10)
        refine qd_cVn (ci := 5) (a0 := 287) (qc_at qkX4_applyToReals 24 rfl) ql_4_178 qfX6_layReal (qc_kf hn rfl) rfl c10 rfl rfl (Nat.le_of_ble_eq_true rfl) (qc_rml (by decide) (by decide)) ⟨Nat.zero_le _, Nat.zero_le _⟩ ?_
        obtain ⟨rfl, rfl, rfl, rfl, rfl⟩ := qc_some5 h
        exact ⟨qc_fm.rf _, qc_goto (qc_at qkX4_applyToReals 25 rfl) <| qc_vret (qc_at qkX4_applyToReals 55 rfl) rfl (Nat.le_refl _) (Nat.le_refl _) (qc_eq.rf _ _ _)⟩
      · replace h := qc_jn u8 h
        refine qc_by (c := x1 = 3) (fun u11 => ?_) (fun u11 => ?_)
        · refine And.imp_right (fun hx => qc_tabIn (qc_at qkX4_applyToReals 5 rfl) 3 (by rw [u11]; rfl) (by decide) rfl rfl hx) ?_
          replace h := qc_jp u11 h
          refine And.imp_right (fun hx => qc_aload_n (qc_at qkX4_applyToReals 26 rfl) rfl <| qc_gR (qc_at qkX4_applyToReals 27 rfl) hn rfl (qfr_286_2 (c1.1.1 hR)) rfl <| qc_dload_n (qc_at qkX4_applyToReals 28 rfl) rfl <| hx) ?_
          obtain ⟨r12, I12, L12, D12, R12, e12, h⟩ := qc_bd_of h
          have c12 := (tX8_nearest hn (c1.1.1 hR) e12)
          refine qd_cSv (qc_at qkX4_applyToReals 29 rfl) ql_4_251 qfX8_nearest c12 rfl rfl (Nat.le_of_ble_eq_true rfl) (qc_rml (by decide) (by decide)) ⟨Nat.zero_le _, Nat.zero_le _⟩ ?_
          obtain ⟨r13, I13, L13, D13, R13, e13, h⟩ := qc_bd_of h
          have c13 := (tX6_layReal hn (c12.1.1 (c1.1.1 hR)) e13)
          refine qd_cVn (ci := 5) (a0 := 287) (qc_at qkX4_applyToReals 30 rfl) ql_4_178 qfX6_layReal (qc_kf hn rfl) rfl c13 rfl rfl (Nat.le_of_ble_eq_true rfl) (qc_rml (by decide) (by decide)) ⟨Nat.zero_le _, Nat.zero_le _⟩ ?_
          obtain ⟨rfl, rfl, rfl, rfl, rfl⟩ := qc_some5 h
          exact ⟨qc_fm.rf _, qc_goto (qc_at qkX4_applyToReals 31 rfl) <| qc_vret (qc_at qkX4_applyToReals 55 rfl) rfl (Nat.le_refl _) (Nat.le_refl _) (qc_eq.rf _ _ _)⟩
        · replace h := qc_jn u11 h
          refine qc_by (c := x1 = 4) (fun u14 => ?_) (fun u14 => ?_)
          · refine And.imp_right (fun hx => qc_tabIn (qc_at qkX4_applyToReals 5 rfl) 4 (by rw [u14]; rfl) (by decide) rfl rfl hx) ?_
            replace h := qc_jp u14 h
            refine And.imp_right (fun hx => qc_aload_n (qc_at qkX4_applyToReals 32 rfl) rfl <| qc_gR (qc_at qkX4_applyToReals 33 rfl) hn rfl (qfr_286_2 (c1.1.1 hR)) rfl <| qc_dload_n (qc_at qkX4_applyToReals 34 rfl) rfl <| hx) ?_
            obtain ⟨r15, I15, L15, D15, R15, e15, h⟩ := qc_bd_of h
            have c15 := (tX8_signOf hn (c1.1.1 hR) e15)
            refine qd_cSv (qc_at qkX4_applyToReals 35 rfl) ql_4_254 qfX8_signOf c15 rfl rfl (Nat.le_of_ble_eq_true rfl) (qc_rml (by decide) (by decide)) ⟨Nat.zero_le _, Nat.zero_le _⟩ ?_
            obtain ⟨r16, I16, L16, D16, R16, e16, h⟩ := qc_bd_of h
            have c16 := (tX6_layReal hn (c15.1.1 (c1.1.1 hR)) e16)
            refine qd_cVn (ci := 5) (a0 := 287) (qc_at qkX4_applyToReals 36 rfl) ql_4_178 qfX6_layReal (qc_kf hn rfl) rfl c16 rfl rfl (Nat.le_of_ble_eq_true rfl) (qc_rml (by decide) (by decide)) ⟨Nat.zero_le _, Nat.zero_le _⟩ ?_
            obtain ⟨rfl, rfl, rfl, rfl, rfl⟩ := qc_some5 h
            exact ⟨qc_fm.rf _, qc_goto (qc_at qkX4_applyToReals 37 rfl) <| qc_vret (qc_at qkX4_applyToReals 55 rfl) rfl (Nat.le_refl _) (Nat.le_refl _) (qc_eq.rf _ _ _)⟩
          · replace h := qc_jn u14 h
            refine qc_by (c := x1 = 5) (fun u17 => ?_) (fun u17 => ?_)
            · refine And.imp_right (fun hx => qc_tabIn (qc_at qkX4_applyToReals 5 rfl) 5 (by rw [u17]; rfl) (by decide) rfl rfl hx) ?_
              replace h := qc_jp u17 h
              refine And.imp_right (fun hx => qc_aload_n (qc_at qkX4_applyToReals 38 rfl) rfl <| qc_gR (qc_at qkX4_applyToReals 39 rfl) hn rfl (qfr_286_2 (c1.1.1 hR)) rfl <| qc_aload_n (qc_at qkX4_applyToReals 40 rfl) rfl <| qc_gR (qc_at qkX4_applyToReals 41 rfl) hn rfl (qfr_286_2 (c1.1.1 hR)) rfl <| hx) ?_
              obtain ⟨r18, I18, L18, D18, R18, e18, h⟩ := qc_bd_of h
              have c18 := (tX6_takeReal hn (c1.1.1 hR) e18)
              refine qd_cVv (ci := 5) (a0 := 287) (qc_at qkX4_applyToReals 42 rfl) ql_4_82 qfX6_takeReal (qc_kf hn rfl) rfl c18 rfl rfl (Nat.le_of_ble_eq_true rfl) (qc_rml (by decide) (by decide)) ⟨Nat.zero_le _, Nat.zero_le _⟩ ?_
              refine And.imp_right (fun hx => qc_dload_n (qc_at qkX4_applyToReals 43 rfl) rfl <| hx) ?_
              obtain ⟨r19, I19, L19, D19, R19, e19, h⟩ := qc_bd_of h
              have c19 := (tX8_lesser hn (c18.1.1 (c1.1.1 hR)) e19)
              refine qd_cSv (qc_at qkX4_applyToReals 44 rfl) ql_4_257 qfX8_lesser c19 rfl rfl (Nat.le_of_ble_eq_true rfl) (qc_rml (by decide) (by decide)) ⟨Nat.zero_le _, Nat.zero_le _⟩ ?_
              obtain ⟨r20, I20, L20, D20, R20, e20, h⟩ := qc_bd_of h
              have c20 := (tX6_layReal hn (c19.1.1 (c18.1.1 (c1.1.1 hR))) e20)
              refine qd_cVn (ci := 5) (a0 := 287) (qc_at qkX4_applyToReals 45 rfl) ql_4_178 qfX6_layReal (qc_kf hn rfl) rfl c20 rfl rfl (Nat.le_of_ble_eq_true rfl) (qc_rml (by decide) (by decide)) ⟨Nat.zero_le _, Nat.zero_le _⟩ ?_
              obtain ⟨rfl, rfl, rfl, rfl, rfl⟩ := qc_some5 h
              exact ⟨qc_fm.rf _, qc_goto (qc_at qkX4_applyToReals 46 rfl) <| qc_vret (qc_at qkX4_applyToReals 55 rfl) rfl (Nat.le_refl _) (Nat.le_refl _) (qc_eq.rf _ _ _)⟩
            · replace h := qc_jn u17 h
              have v2 : ¬ Int32.toInt x1 = 0 := fun z => u2 (qc_i32 z rfl)
              have v5 : ¬ Int32.toInt x1 = 1 := fun z => u5 (qc_i32 z rfl)
              have v8 : ¬ Int32.toInt x1 = 2 := fun z => u8 (qc_i32 z rfl)
              have v11 : ¬ Int32.toInt x1 = 3 := fun z => u11 (qc_i32 z rfl)
              have v14 : ¬ Int32.toInt x1 = 4 := fun z => u14 (qc_i32 z rfl)
              have v17 : ¬ Int32.toInt x1 = 5 := fun z => u17 (qc_i32 z rfl)
              refine And.imp_right (fun hx => qc_tabOut (qc_at qkX4_applyToReals 5 rfl) (by omega) rfl hx) ?_
              refine And.imp_right (fun hx => qc_aload_n (qc_at qkX4_applyToReals 47 rfl) rfl <| qc_gR (qc_at qkX4_applyToReals 48 rfl) hn rfl (qfr_286_2 (c1.1.1 hR)) rfl <| qc_aload_n (qc_at qkX4_applyToReals 49 rfl) rfl <| qc_gR (qc_at qkX4_applyToReals 50 rfl) hn rfl (qfr_286_2 (c1.1.1 hR)) rfl <| hx) ?_
              obtain ⟨r21, I21, L21, D21, R21, e21, h⟩ := qc_bd_of h
              have c21 := (tX6_takeReal hn (c1.1.1 hR) e21)
              refine qd_cVv (ci := 5) (a0 := 287) (qc_at qkX4_applyToReals 51 rfl) ql_4_82 qfX6_takeReal (qc_kf hn rfl) rfl c21 rfl rfl (Nat.le_of_ble_eq_true rfl) (qc_rml (by decide) (by decide)) ⟨Nat.zero_le _, Nat.zero_le _⟩ ?_
              refine And.imp_right (fun hx => qc_dload_n (qc_at qkX4_applyToReals 52 rfl) rfl <| hx) ?_
              obtain ⟨r22, I22, L22, D22, R22, e22, h⟩ := qc_bd_of h
              have c22 := (tX8_greater hn (c21.1.1 (c1.1.1 hR)) e22)
              refine qd_cSv (qc_at qkX4_applyToReals 53 rfl) ql_4_261 qfX8_greater c22 rfl rfl (Nat.le_of_ble_eq_true rfl) (qc_rml (by decide) (by decide)) ⟨Nat.zero_le _, Nat.zero_le _⟩ ?_
              obtain ⟨r23, I23, L23, D23, R23, e23, h⟩ := qc_bd_of h
              have c23 := (tX6_layReal hn (c22.1.1 (c21.1.1 (c1.1.1 hR))) e23)
              refine qd_cVn (ci := 5) (a0 := 287) (qc_at qkX4_applyToReals 54 rfl) ql_4_178 qfX6_layReal (qc_kf hn rfl) rfl c23 rfl rfl (Nat.le_of_ble_eq_true rfl) (qc_rml (by decide) (by decide)) ⟨Nat.zero_le _, Nat.zero_le _⟩ ?_
              obtain ⟨rfl, rfl, rfl, rfl, rfl⟩ := qc_some5 h
              exact ⟨qc_fm.rf _, qc_vret (qc_at qkX4_applyToReals 55 rfl) rfl (Nat.le_refl _) (Nat.le_refl _) (qc_eq.rf _ _ _)⟩
