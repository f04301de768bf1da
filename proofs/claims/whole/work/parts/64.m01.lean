def fX12_next_b42 (w : qcW) (k16 : qTI × qTL × qTD × qTR → qcO Unit) (I : qTI) (L : qTL) (D : qTD) (R : qTR) : qcO Unit :=
  (k16 ((qc_u I 291 10 ((I 291 10) + (1 : Int32))), L, D, R))
set_option maxRecDepth 100000 in
set_option maxHeartbeats 4000000 in
theorem tX12_next_b42 {w : qcW} {I : qTI} {L : qTL} {D : qTD} {R : qTR} {k16 : qTI × qTL × qTD × qTR → qcO Unit} {r : Unit} {I' : qTI} {L' : qTL} {D' : qTD} {R' : qTR} (hn : qcNF ≤ w.1) (hR : qc_FR R) (hk16 : ∀ {I : qTI} {L : qTL} {D : qTD} {R : qTR} {r : Unit} {I' : qTI} {L' : qTL} {D' : qTD} {R' : qTR}, qc_FR R → k16 (I, L, D, R) = some (r, I', L', D', R') → qc_fm qcSM (I, L, D, R) (I', L', D', R') ∧ qc_X (qc_rm (3) 0 0) qmX12_next (qc_QM 0 0 (qc_eq none w (I', L', D', R'))) 0 0 w (16, [(0, .ref 291)], [], I, L, D, R)) (h : fX12_next_b42 w k16 I L D R = some (r, I', L', D', R')) : qc_fm qcSM (I, L, D, R) (I', L', D', R') ∧ qc_X (qc_rm (3) 0 0) qmX12_next (qc_QM 0 0 (qc_eq none w (I', L', D', R'))) 0 0 w (42, [(0, .ref 291)], [], I, L, D, R) := by
  unfold fX12_next_b42 at h
  refine And.imp_right (fun hx => qc_aload_n (qc_at qkX12_next 20 rfl) rfl <| qc_dup (qc_at qkX12_next 21 rfl) rfl <| qc_gI (qc_at qkX12_next 22 rfl) hn rfl <| qc_iconst (qc_at qkX12_next 23 rfl) <| qc_iadd (qc_at qkX12_next 24 rfl) <| hx) (qd_pI (qc_at qkX12_next 25 rfl) hn rfl rfl ?_)
  exact And.imp_right (fun hx => qc_goto (qc_at qkX12_next 26 rfl) <| qc_sub [0] rfl hx) (hk16 hR h)
def fX12_next_b182 (w : qcW) (I : qTI) (L : qTL) (D : qTD) (R : qTR) : qcO Unit :=
  (some ((), (qc_u I 291 11 ((I 291 11) + (1 : Int32))), L, D, R))
set_option maxRecDepth 100000 in
set_option maxHeartbeats 4000000 in
theorem tX12_next_b182 {w : qcW} {I : qTI} {L : qTL} {D : qTD} {R : qTR} {r : Unit} {I' : qTI} {L' : qTL} {D' : qTD} {R' : qTR} (hn : qcNF ≤ w.1) (hR : qc_FR R) (h : fX12_next_b182 w I L D R = some (r, I', L', D', R')) : qc_fm qcSM (I, L, D, R) (I', L', D', R') ∧ qc_X (qc_rm (3) 0 0) qmX12_next (qc_QM 0 0 (qc_eq none w (I', L', D', R'))) 0 0 w (182, [(0, .ref 291)], [], I, L, D, R) := by
  unfold fX12_next_b182 at h
  refine And.imp_right (fun hx => qc_aload_n (qc_at qkX12_next 90 rfl) rfl <| qc_dup (qc_at qkX12_next 91 rfl) rfl <| qc_gI (qc_at qkX12_next 92 rfl) hn rfl <| qc_iconst (qc_at qkX12_next 93 rfl) <| qc_iadd (qc_at qkX12_next 94 rfl) <| hx) (qd_pI (qc_at qkX12_next 95 rfl) hn rfl rfl ?_)
  obtain ⟨rfl, rfl, rfl, rfl, rfl⟩ := qc_some5 h
  exact ⟨qc_fm.rf _, qc_goto (qc_at qkX12_next 96 rfl) <| qc_vret (qc_at qkX12_next 100 rfl) rfl (Nat.le_refl _) (Nat.le_refl _) (qc_eq.rf _ _ _)⟩
def fX12_next_b16 (w : qcW) (k16 : qTI × qTL × qTD × qTR → qcO Unit) (I : qTI) (L : qTL) (D : qTD) (R : qTR) : qcO Unit :=
  (qc_bd (fX12_byteAt w I L D R (I 291 10)) fun r1 I1 L1 D1 R1 => if r1 = (32 : Int32) then (fX12_next_b42 w k16 I1 L1 D1 R1) else (qc_bd (fX12_byteAt w I1 L1 D1 R1 (I1 291 10)) fun r3 I3 L3 D3 R3 => if r3 = (10 : Int32) then (fX12_next_b42 w k16 I3 L3 D3 R3) else (qc_bd (fX12_byteAt w I3 L3 D3 R3 (I3 291 10)) fun r5 I5 L5 D5 R5 => if 0 ≤ r5 then (qc_bd (fX12_in w (qc_u I5 291 11 ((I5 291 10) + (1 : Int32))) L5 D5 R5 (Int32.toInt64 r5) (97 : Int64) (122 : Int64)) fun r7 I7 L7 D7 R7 => if r7 = true then (qc_bd (fX12_letters w I7 L7 D7 R7) fun r18 I18 L18 D18 R18 => some ((), I18, L18, D18, R18)) else (qc_bd (fX12_in w I7 L7 D7 R7 (Int32.toInt64 r5) (48 : Int64) (57 : Int64)) fun r9 I9 L9 D9 R9 => if r9 = true then (qc_bd (fX12_figures w I9 L9 D9 R9) fun r17 I17 L17 D17 R17 => some ((), I17, L17, D17, R17)) else (if r5 = (36 : Int32) then (qc_bd (fX12_byteAt w (qc_u I9 291 9 (4 : Int32)) L9 D9 R9 ((qc_u I9 291 9 (4 : Int32)) 291 11)) fun r13 I13 L13 D13 R13 => qc_bd (fX12_isFigure w (qc_u I13 291 13 (r13 - (48 : Int32))) L13 D13 R13 ((qc_u I13 291 13 (r13 - (48 : Int32))) 291 11)) fun r14 I14 L14 D14 R14 => if r14 = true then (fX12_next_b182 w I14 L14 D14 R14) else (qc_bd (fX12_fail w I14 L14 D14 R14 (1 : Int32) (I14 291 10)) fun r16 I16 L16 D16 R16 => fX12_next_b182 w I16 L16 D16 R16)) else (qc_bd (fX12_sign w I9 L9 D9 R9 r5) fun r12 I12 L12 D12 R12 => some ((), I12, L12, D12, R12))))) else (some ((), (qc_u (qc_u (qc_u I5 291 11 ((I5 291 10) + (1 : Int32))) 291 9 (0 : Int32)) 291 11 ((qc_u (qc_u I5 291 11 ((I5 291 10) + (1 : Int32))) 291 9 (0 : Int32)) 291 10)), L5, D5, R5)))))
set_option maxRecDepth 100000 in
set_option maxHeartbeats 4000000 in
theorem tX12_next_b16 {w : qcW} {I : qTI} {L : qTL} {D : qTD} {R : qTR} {k16 : qTI × qTL × qTD × qTR → qcO Unit} {r : Unit} {I' : qTI} {L' : qTL} {D' : qTD} {R' : qTR} (hn : qcNF ≤ w.1) (hR : qc_FR R) (hk16 : ∀ {I : qTI} {L : qTL} {D : qTD} {R : qTR} {r : Unit} {I' : qTI} {L' : qTL} {D' : qTD} {R' : qTR}, qc_FR R → k16 (I, L, D, R) = some (r, I', L', D', R') → qc_fm qcSM (I, L, D, R) (I', L', D', R') ∧ qc_X (qc_rm (3) 0 0) qmX12_next (qc_QM 0 0 (qc_eq none w (I', L', D', R'))) 0 0 w (16, [(0, .ref 291)], [], I, L, D, R)) (h : fX12_next_b16 w k16 I L D R = some (r, I', L', D', R')) : qc_fm qcSM (I, L, D, R) (I', L', D', R') ∧ qc_X (qc_rm (3) 0 0) qmX12_next (qc_QM 0 0 (qc_eq none w (I', L', D', R'))) 0 0 w (16, [(0, .ref 291)], [], I, L, D, R) := by
  unfold fX12_next_b16 at h
  refine And.imp_right (fun hx => qc_aload_n (qc_at qkX12_next 8 rfl) rfl <| qc_aload_n (qc_at qkX12_next 9 rfl) rfl <| qc_gI (qc_at qkX12_next 10 rfl) hn rfl <| hx) ?_
  obtain ⟨r1, I1, L1, D1, R1, e1, h⟩ := qc_bd_of h
  have c1 := (tX12_byteAt hn hR e1)
  refine qd_cVv (ci := 10) (a0 := 291) (qc_at qkX12_next 11 rfl) ql_12_235 qfX12_byteAt (qc_kf hn rfl) rfl c1 rfl rfl (Nat.le_of_ble_eq_true rfl) (qc_rml (by decide) (by decide)) ⟨Nat.zero_le _, Nat.zero_le _⟩ ?_
  refine And.imp_right (fun hx => qc_bipush (qc_at qkX12_next 12 rfl) <| hx) ?_
  refine qc_andC (qc_icmp_eq (qc_at qkX12_next 13 rfl)) (fun u2 => ?_) (fun u2 => ?_)
  · replace h := qc_jp u2 h
    exact And.imp_right (fun hx => qc_sub [0] rfl hx) (tX12_next_b42 hn (c1.1.1 hR) hk16 h)
  · replace h := qc_jn u2 h
    refine And.imp_right (fun hx => qc_aload_n (qc_at qkX12_next 14 rfl) rfl <| qc_aload_n (qc_at qkX12_next 15 rfl) rfl <| qc_gI (qc_at qkX12_next 16 rfl) hn rfl <| hx) ?_
    obtain ⟨r3, I3, L3, D3, R3, e3, h⟩ := qc_bd_of h
    have c3 := (tX12_byteAt hn (c1.1.1 hR) e3)
    refine qd_cVv (ci := 10) (a0 := 291) (qc_at qkX12_next 17 rfl) ql_12_235 qfX12_byteAt (qc_kf hn rfl) rfl c3 rfl rfl (Nat.le_of_ble_eq_true rfl) (qc_rml (by decide) (by decide)) ⟨Nat.zero_le _, Nat.zero_le _⟩ ?_
    refine And.imp_right (fun hx => qc_bipush (qc_at qkX12_next 18 rfl) <| hx) ?_
    refine qc_andN (qc_icmp_ne (qc_at qkX12_next 19 rfl)) (fun u4 => ?_) (fun u4 => ?_)
    · replace h := qc_jn u4 h
      refine And.imp_right (fun hx => qc_aload_n (qc_at qkX12_next 27 rfl) rfl <| qc_aload_n (qc_at qkX12_next 28 rfl) rfl <| qc_gI (qc_at qkX12_next 29 rfl) hn rfl <| hx) ?_
      obtain ⟨r5, I5, L5, D5, R5, e5, h⟩ := qc_bd_of h
      have c5 := (tX12_byteAt hn (c3.1.1 (c1.1.1 hR)) e5)
      refine qd_cVv (ci := 10) (a0 := 291) (qc_at qkX12_next 30 rfl) ql_12_235 qfX12_byteAt (qc_kf hn rfl) rfl c5 rfl rfl (Nat.le_of_ble_eq_true rfl) (qc_rml (by decide) (by decide)) ⟨Nat.zero_le _, Nat.zero_le _⟩ ?_
      refine And.imp_right (fun hx => qc_istore_n (lv' := [(1, _), (0, _)]) (qc_at qkX12_next 31 rfl) rfl rfl <| qc_aload_n (qc_at qkX12_next 32 rfl) rfl <| qc_aload_n (qc_at qkX12_next 33 rfl) rfl <| qc_gI (qc_at qkX12_next 34 rfl) hn rfl <| qc_iconst (qc_at qkX12_next 35 rfl) <| qc_iadd (qc_at qkX12_next 36 rfl) <| hx) (qd_pI (qc_at qkX12_next 37 rfl) hn rfl rfl ?_)
      refine And.imp_right (fun hx => qc_iload_n (qc_at qkX12_next 38 rfl) rfl <| hx) ?_
      refine qc_andC (qc_if_ge (qc_at qkX12_next 39 rfl)) (fun u6 => ?_) (fun u6 => ?_)
      · replace h := qc_jp u6 h
        refine And.imp_right (fun hx => qc_iload_n (qc_at qkX12_next 48 rfl) rfl <| qc_i2l (qc_at qkX12_next 49 rfl) <| qc_ldc2l (qc_at qkX12_next 50 rfl) <| qc_ldc2l (qc_at qkX12_next 51 rfl) <| hx) ?_
        obtain ⟨r7, I7, L7, D7, R7, e7, h⟩ := qc_bd_of h
        have c7 := (tX12_in hn (c5.1.1 (c3.1.1 (c1.1.1 hR))) e7)
        refine qd_cSv (qc_at qkX12_next 52 rfl) ql_12_162 qfX12_in c7 rfl rfl (Nat.le_of_ble_eq_true rfl) (qc_rml (by decide) (by decide)) ⟨Nat.zero_le _, Nat.zero_le _⟩ ?_
        refine qc_andB (qc_ifB_eq (qc_at qkX12_next 53 rfl)) (fun u8 => ?_) (fun u8 => ?_)
        · replace h := qc_jf u8 h
          refine And.imp_right (fun hx => qc_iload_n (qc_at qkX12_next 57 rfl) rfl <| qc_i2l (qc_at qkX12_next 58 rfl) <| qc_ldc2l (qc_at qkX12_next 59 rfl) <| qc_ldc2l (qc_at qkX12_next 60 rfl) <| hx) ?_
          obtain ⟨r9, I9, L9, D9, R9, e9, h⟩ := qc_bd_of h
          have c9 := (tX12_in hn (c7.1.1 (c5.1.1 (c3.1.1 (c1.1.1 hR)))) e9)
          refine qd_cSv (qc_at qkX12_next 61 rfl) ql_12_162 qfX12_in c9 rfl rfl (Nat.le_of_ble_eq_true rfl) (qc_rml (by decide) (by decide)) ⟨Nat.zero_le _, Nat.zero_le _⟩ ?_
          refine qc_andB (qc_ifB_eq (qc_at qkX12_next 62 rfl)) (fun u10 => ?_) (fun u10 => ?_)
          · replace h := qc_jf u10 h
            refine And.imp_right (fun hx => qc_iload_n (qc_at qkX12_next 66 rfl) rfl <| qc_bipush (qc_at qkX12_next 67 rfl) <| hx) ?_
            refine qc_andN (qc_icmp_ne (qc_at qkX12_next 68 rfl)) (fun u11 => ?_) (fun u11 => ?_)
            · replace h := qc_jn u11 h
              refine And.imp_right (fun hx => qc_aload_n (qc_at qkX12_next 97 rfl) rfl <| qc_iload_n (qc_at qkX12_next 98 rfl) rfl <| hx) ?_
              obtain ⟨r12, I12, L12, D12, R12, e12, h⟩ := qc_bd_of h
              have c12 := (tX12_sign hn (c9.1.1 (c7.1.1 (c5.1.1 (c3.1.1 (c1.1.1 hR))))) e12)
              refine qd_cVn (ci := 10) (a0 := 291) (qc_at qkX12_next 99 rfl) ql_12_272 qfX12_sign (qc_kf hn rfl) rfl c12 rfl rfl (Nat.le_of_ble_eq_true rfl) (qc_rml (by decide) (by decide)) ⟨Nat.zero_le _, Nat.zero_le _⟩ ?_
              obtain ⟨rfl, rfl, rfl, rfl, rfl⟩ := qc_some5 h
              exact ⟨qc_fm.rf _, qc_vret (qc_at qkX12_next 100 rfl) rfl (Nat.le_refl _) (Nat.le_refl _) (qc_eq.rf _ _ _)⟩
            · replace h := qc_jp u11 h
              refine And.imp_right (fun hx => qc_aload_n (qc_at qkX12_next 69 rfl) rfl <| qc_iconst (qc_at qkX12_next 70 rfl) <| hx) (qd_pI (qc_at qkX12_next 71 rfl) hn rfl rfl ?_)
              refine And.imp_right (fun hx => qc_aload_n (qc_at qkX12_next 72 rfl) rfl <| qc_aload_n (qc_at qkX12_next 73 rfl) rfl <| qc_aload_n (qc_at qkX12_next 74 rfl) rfl <| qc_gI (qc_at qkX12_next 75 rfl) hn rfl <| hx) ?_
              obtain ⟨r13, I13, L13, D13, R13, e13, h⟩ := qc_bd_of h
              have c13 := (tX12_byteAt hn (c9.1.1 (c7.1.1 (c5.1.1 (c3.1.1 (c1.1.1 hR))))) e13)
              refine qd_cVv (ci := 10) (a0 := 291) (qc_at qkX12_next 76 rfl) ql_12_235 qfX12_byteAt (qc_kf hn rfl) rfl c13 rfl rfl (Nat.le_of_ble_eq_true rfl) (qc_rml (by decide) (by decide)) ⟨Nat.zero_le _, Nat.zero_le _⟩ ?_
              refine And.imp_right (fun hx => qc_bipush (qc_at qkX12_next 77 rfl) <| qc_isub (qc_at qkX12_next 78 rfl) <| hx) (qd_pI (qc_at qkX12_next 79 rfl) hn rfl rfl ?_)
              refine And.imp_right (fun hx => qc_aload_n (qc_at qkX12_next 80 rfl) rfl <| qc_aload_n (qc_at qkX12_next 81 rfl) rfl <| qc_gI (qc_at qkX12_next 82 rfl) hn rfl <| hx) ?_
              obtain ⟨r14, I14, L14, D14, R14, e14, h⟩ := qc_bd_of h
              have c14 := (tX12_isFigure hn (c13.1.1 (c9.1.1 (c7.1.1 (c5.1.1 (c3.1.1 (c1.1.1 hR)))))) e14)
              refine qd_cVv (ci := 10) (a0 := 291) (qc_at qkX12_next 83 rfl) ql_12_265 qfX12_isFigure (qc_kf hn rfl) rfl c14 rfl rfl (Nat.le_of_ble_eq_true rfl) (qc_rml (by decide) (by decide)) ⟨Nat.zero_le _, Nat.zero_le _⟩ ?_
              refine qc_andBn (qc_ifB_ne (qc_at qkX12_next 84 rfl)) (fun u15 => ?_) (fun u15 => ?_)
              · replace h := qc_jt u15 h
                exact And.imp_right (fun hx => qc_sub [1] rfl hx) (tX12_next_b182 hn (c14.1.1 (c13.1.1 (c9.1.1 (c7.1.1 (c5.1.1 (c3.1.1 (c1.1.1 hR))))))) h)
              · replace h := qc_jf u15 h
                refine And.imp_right (fun hx => qc_aload_n (qc_at qkX12_next 85 rfl) rfl <| qc_iconst (qc_at qkX12_next 86 rfl) <| qc_aload_n (qc_at qkX12_next 87 rfl) rfl <| qc_gI (qc_at qkX12_next 88 rfl) hn rfl <| hx) ?_
                obtain ⟨r16, I16, L16, D16, R16, e16, h⟩ := qc_bd_of h
                have c16 := (tX12_fail hn (c14.1.1 (c13.1.1 (c9.1.1 (c7.1.1 (c5.1.1 (c3.1.1 (c1.1.1 hR))))))) e16)
                refine qd_cVn (ci := 10) (a0 := 291) (qc_at qkX12_next 89 rfl) ql_12_268 qfX12_fail (qc_kf hn rfl) rfl c16 rfl rfl (Nat.le_of_ble_eq_true rfl) (qc_rml (by decide) (by decide)) ⟨Nat.zero_le _, Nat.zero_le _⟩ ?_
                exact And.imp_right (fun hx => qc_sub [1] rfl hx) (tX12_next_b182 hn (c16.1.1 (c14.1.1 (c13.1.1 (c9.1.1 (c7.1.1 (c5.1.1 (c3.1.1 (c1.1.1 hR)))))))) h)
          · replace h := qc_jt u10 h
            refine And.imp_right (fun hx => qc_aload_n (qc_at qkX12_next 63 rfl) rfl <| hx) ?_
            obtain ⟨r17, I17, L17, D17, R17, e17, h⟩ := qc_bd_of h
            have c17 := (tX12_figures hn (c9.1.1 (c7.1.1 (c5.1.1 (c3.1.1 (c1.1.1 hR))))) e17)
            refine qd_cVn (ci := 10) (a0 := 291) (qc_at qkX12_next 64 rfl) ql_12_259 qfX12_figures (qc_kf hn rfl) rfl c17 rfl rfl (Nat.le_of_ble_eq_true rfl) (qc_rml (by decide) (by decide)) ⟨Nat.zero_le _, Nat.zero_le _⟩ ?_
            obtain ⟨rfl, rfl, rfl, rfl, rfl⟩ := qc_some5 h
            exact ⟨qc_fm.rf _, qc_goto (qc_at qkX12_next 65 rfl) <| qc_vret (qc_at qkX12_next 100 rfl) rfl (Nat.le_refl _) (Nat.le_refl _) (qc_eq.rf _ _ _)⟩
        · replace h := qc_jt u8 h
          refine And.imp_right (fun hx => qc_aload_n (qc_at qkX12_next 54 rfl) rfl <| hx) ?_
          obtain ⟨r18, I18, L18, D18, R18, e18, h⟩ := qc_bd_of h
          have c18 := (tX12_letters hn (c7.1.1 (c5.1.1 (c3.1.1 (c1.1.1 hR)))) e18)
          refine qd_cVn (ci := 10) (a0 := 291) (qc_at qkX12_next 55 rfl) ql_12_256 qfX12_letters (qc_kf hn rfl) rfl c18 rfl rfl (Nat.le_of_ble_eq_true rfl) (qc_rml (by decide) (by decide)) ⟨Nat.zero_le _, Nat.zero_le _⟩ ?_
          obtain ⟨rfl, rfl, rfl, rfl, rfl⟩ := qc_some5 h
          exact ⟨qc_fm.rf _, qc_goto (qc_at qkX12_next 56 rfl) <| qc_vret (qc_at qkX12_next 100 rfl) rfl (Nat.le_refl _) (Nat.le_refl _) (qc_eq.rf _ _ _)⟩
      · replace h := qc_jn u6 h
        refine And.imp_right (fun hx => qc_aload_n (qc_at qkX12_next 40 rfl) rfl <| qc_iconst (qc_at qkX12_next 41 rfl) <| hx) (qd_pI (qc_at qkX12_next 42 rfl) hn rfl rfl ?_)
        refine And.imp_right (fun hx => qc_aload_n (qc_at qkX12_next 43 rfl) rfl <| qc_aload_n (qc_at qkX12_next 44 rfl) rfl <| qc_gI (qc_at qkX12_next 45 rfl) hn rfl <| hx) (qd_pI (qc_at qkX12_next 46 rfl) hn rfl rfl ?_)
        obtain ⟨rfl, rfl, rfl, rfl, rfl⟩ := qc_some5 h
        exact ⟨qc_fm.rf _, qc_goto (qc_at qkX12_next 47 rfl) <| qc_vret (qc_at qkX12_next 100 rfl) rfl (Nat.le_refl _) (Nat.le_refl _) (qc_eq.rf _ _ _)⟩
    · replace h := qc_jp u4 h
      exact And.imp_right (fun hx => qc_sub [0] rfl hx) (tX12_next_b42 hn (c3.1.1 (c1.1.1 hR)) hk16 h)
def fX12_next_l16 (w : qcW) : Nat → qTI × qTL × qTD × qTR → qcO Unit := qc_lp (fun k q => match q with | (I, L, D, R) => fX12_next_b16 w k I L D R)
set_option maxRecDepth 100000 in
set_option maxHeartbeats 4000000 in
theorem tX12_next_l16 {w : qcW} (hn : qcNF ≤ w.1) : ∀ (n : Nat) {r : Unit} {I' : qTI} {L' : qTL} {D' : qTD} {R' : qTR} {I : qTI} {L : qTL} {D : qTD} {R : qTR} (hR : qc_FR R) (h : fX12_next_l16 w n (I, L, D, R) = some (r, I', L', D', R')), qc_fm qcSM (I, L, D, R) (I', L', D', R') ∧ qc_X (qc_rm (3) 0 0) qmX12_next (qc_QM 0 0 (qc_eq none w (I', L', D', R'))) 0 0 w (16, [(0, .ref 291)], [], I, L, D, R) := by
  intro n
  induction n with
  | zero => intro _ _ _ _ _ _ _ _ _ _ h; cases h
  | succ n ih => intro _ _ _ _ _ _ _ _ _ hR h; exact tX12_next_b16 hn hR (k16 := fX12_next_l16 w n) (fun hR h => ih hR h) h
def fX12_next (w : qcW) (I : qTI) (L : qTL) (D : qTD) (R : qTR) : qcO Unit :=
  (if (I 291 15) ≤ 0 then (fX12_next_l16 w qcF ((qc_u I 291 10 (I 291 11)), L, D, R)) else (some ((), I, L, D, R)))
set_option maxRecDepth 100000 in
set_option maxHeartbeats 4000000 in
theorem tX12_next {w : qcW} {I : qTI} {L : qTL} {D : qTD} {R : qTR} {r : Unit} {I' : qTI} {L' : qTL} {D' : qTD} {R' : qTR} (hn : qcNF ≤ w.1) (hR : qc_FR R) (h : fX12_next w I L D R = some (r, I', L', D', R')) : qc_fm qcSM (I, L, D, R) (I', L', D', R') ∧ qc_V (3) 0 0 qmX12_next [.ref 291] w (I, L, D, R) (qc_eq none w (I', L', D', R')) := by
  unfold fX12_next at h
  refine And.imp_right (fun hx => qc_V.of rfl rfl (Nat.le_of_ble_eq_true rfl) (lv := [(0, .ref 291)]) rfl hx) ?_
  refine And.imp_right (fun hx => qc_aload_n (qc_at qkX12_next 0 rfl) rfl <| qc_gI (qc_at qkX12_next 1 rfl) hn rfl <| hx) ?_
  refine qc_andC (qc_if_le (qc_at qkX12_next 2 rfl)) (fun u19 => ?_) (fun u19 => ?_)
  · replace h := qc_jp u19 h
    refine And.imp_right (fun hx => qc_aload_n (qc_at qkX12_next 4 rfl) rfl <| qc_aload_n (qc_at qkX12_next 5 rfl) rfl <| qc_gI (qc_at qkX12_next 6 rfl) hn rfl <| hx) (qd_pI (qc_at qkX12_next 7 rfl) hn rfl rfl ?_)
    exact And.imp_right (fun hx => qc_sub [0] rfl hx) (tX12_next_l16 hn qcF hR h)
  · replace h := qc_jn u19 h
    obtain ⟨rfl, rfl, rfl, rfl, rfl⟩ := qc_some5 h
    exact ⟨qc_fm.rf _, qc_vret (qc_at qkX12_next 3 rfl) rfl (Nat.le_refl _) (Nat.le_refl _) (qc_eq.rf _ _ _)⟩
def fX12_isWord (w : qcW) (I : qTI) (L : qTL) (D : qTD) (R : qTR) (x1 : Int64) : qcO Bool :=
  (if (I 291 15) = 0 then (if (I 291 9) = (1 : Int32) then (if (lg_cmp (L 291 12) x1) = 0 then (some (true, I, L, D, R)) else (some (false, I, L, D, R))) else (some (false, I, L, D, R))) else (some (false, I, L, D, R)))
set_option maxRecDepth 100000 in
set_option maxHeartbeats 4000000 in
theorem tX12_isWord {w : qcW} {I : qTI} {L : qTL} {D : qTD} {R : qTR} {x1 : Int64} {r : Bool} {I' : qTI} {L' : qTL} {D' : qTD} {R' : qTR} (hn : qcNF ≤ w.1) (hR : qc_FR R) (h : fX12_isWord w I L D R x1 = some (r, I', L', D', R')) : qc_fm qcSM (I, L, D, R) (I', L', D', R') ∧ qc_V (0) 0 0 qmX12_isWord [.ref 291, .long x1] w (I, L, D, R) (qc_eq (some (.int (qc_b r))) w (I', L', D', R')) := by
  unfold fX12_isWord at h
  refine And.imp_right (fun hx => qc_V.of rfl rfl (Nat.le_of_ble_eq_true rfl) (lv := [(0, .ref 291), (1, .long x1)]) rfl hx) ?_
  refine And.imp_right (fun hx => qc_aload_n (qc_at qkX12_isWord 0 rfl) rfl <| qc_gI (qc_at qkX12_isWord 1 rfl) hn rfl <| hx) ?_
  refine qc_andN (qc_if_ne (qc_at qkX12_isWord 2 rfl)) (fun u1 => ?_) (fun u1 => ?_)
  · replace h := qc_jn u1 h
    obtain ⟨rfl, rfl, rfl, rfl, rfl⟩ := qc_some5 h
    exact ⟨qc_fm.rf _, qc_iconst (qc_at qkX12_isWord 14 rfl) <| qc_zret (qc_at qkX12_isWord 15 rfl) rfl (Or.inl rfl) (Nat.le_refl _) (Nat.le_refl _) ⟨rfl, rfl, rfl⟩⟩
  · replace h := qc_jp u1 h
    refine And.imp_right (fun hx => qc_aload_n (qc_at qkX12_isWord 3 rfl) rfl <| qc_gI (qc_at qkX12_isWord 4 rfl) hn rfl <| qc_iconst (qc_at qkX12_isWord 5 rfl) <| hx) ?_
    refine qc_andN (qc_icmp_ne (qc_at qkX12_isWord 6 rfl)) (fun u2 => ?_) (fun u2 => ?_)
    · replace h := qc_jn u2 h
      obtain ⟨rfl, rfl, rfl, rfl, rfl⟩ := qc_some5 h
      exact ⟨qc_fm.rf _, qc_iconst (qc_at qkX12_isWord 14 rfl) <| qc_zret (qc_at qkX12_isWord 15 rfl) rfl (Or.inl rfl) (Nat.le_refl _) (Nat.le_refl _) ⟨rfl, rfl, rfl⟩⟩
    · replace h := qc_jp u2 h
      refine And.imp_right (fun hx => qc_aload_n (qc_at qkX12_isWord 7 rfl) rfl <| qc_gL (qc_at qkX12_isWord 8 rfl) hn rfl <| qc_lload_n (qc_at qkX12_isWord 9 rfl) rfl <| qc_lcmp (qc_at qkX12_isWord 10 rfl) <| hx) ?_
      refine qc_andN (qc_if_ne (qc_at qkX12_isWord 11 rfl)) (fun u3 => ?_) (fun u3 => ?_)
      · replace h := qc_jn u3 h
        obtain ⟨rfl, rfl, rfl, rfl, rfl⟩ := qc_some5 h
        exact ⟨qc_fm.rf _, qc_iconst (qc_at qkX12_isWord 14 rfl) <| qc_zret (qc_at qkX12_isWord 15 rfl) rfl (Or.inl rfl) (Nat.le_refl _) (Nat.le_refl _) ⟨rfl, rfl, rfl⟩⟩
      · replace h := qc_jp u3 h
        obtain ⟨rfl, rfl, rfl, rfl, rfl⟩ := qc_some5 h
        exact ⟨qc_fm.rf _, qc_iconst (qc_at qkX12_isWord 12 rfl) <| qc_goto (qc_at qkX12_isWord 13 rfl) <| qc_zret (qc_at qkX12_isWord 15 rfl) rfl (Or.inr rfl) (Nat.le_refl _) (Nat.le_refl _) ⟨rfl, rfl, rfl⟩⟩
def fX12_isSign_b82 (w : qcW) (I : qTI) (L : qTL) (D : qTD) (R : qTR) (x3 : Int32) (x4 : Int32) : qcO Bool :=
  (if x4 < (3 : Int32) then (some (true, I, L, D, R)) else (qc_gd (qc_inb ((I 291 10) + (2 : Int32)) 400) <| if (I 297 (Int32.toNatClampNeg ((I 291 10) + (2 : Int32)))) = x3 then (some (true, I, L, D, R)) else (some (false, I, L, D, R))))
set_option maxRecDepth 100000 in
set_option maxHeartbeats 4000000 in
theorem tX12_isSign_b82 {w : qcW} {I : qTI} {L : qTL} {D : qTD} {R : qTR} {x3 : Int32} {x4 : Int32} {r : Bool} {I' : qTI} {L' : qTL} {D' : qTD} {R' : qTR} (hn : qcNF ≤ w.1) (hR : qc_FR R) (h : fX12_isSign_b82 w I L D R x3 x4 = some (r, I', L', D', R')) : qc_fm qcSM (I, L, D, R) (I', L', D', R') ∧ qc_X (qc_rm (0) 0 0) qmX12_isSign (qc_QM 0 0 (qc_eq (some (.int (qc_b r))) w (I', L', D', R'))) 0 0 w (82, [(0, .ref 291), (3, .int x3), (4, .int x4)], [], I, L, D, R) := by
  unfold fX12_isSign_b82 at h
  refine And.imp_right (fun hx => qc_iload (qc_at qkX12_isSign 43 rfl) rfl <| qc_iconst (qc_at qkX12_isSign 44 rfl) <| hx) ?_
  refine qc_andC (qc_icmp_lt (qc_at qkX12_isSign 45 rfl)) (fun u1 => ?_) (fun u1 => ?_)
  · replace h := qc_jp u1 h
    obtain ⟨rfl, rfl, rfl, rfl, rfl⟩ := qc_some5 h
    exact ⟨qc_fm.rf _, qc_iconst (qc_at qkX12_isSign 55 rfl) <| qc_goto (qc_at qkX12_isSign 56 rfl) <| qc_zret (qc_at qkX12_isSign 58 rfl) rfl (Or.inr rfl) (Nat.le_refl _) (Nat.le_refl _) ⟨rfl, rfl, rfl⟩⟩
  · replace h := qc_jn u1 h
    refine And.imp_right (fun hx => qc_aload_n (qc_at qkX12_isSign 46 rfl) rfl <| qc_gR (qc_at qkX12_isSign 47 rfl) hn rfl (qfr_291_6 hR) rfl <| qc_aload_n (qc_at qkX12_isSign 48 rfl) rfl <| qc_gI (qc_at qkX12_isSign 49 rfl) hn rfl <| qc_iconst (qc_at qkX12_isSign 50 rfl) <| qc_iadd (qc_at qkX12_isSign 51 rfl) <| hx) ?_
    obtain ⟨g2, h⟩ := qc_gd_of h
    refine And.imp_right (fun hx => qc_iald 400 (qc_at qkX12_isSign 52 rfl) hn rfl (qc_inb_in g2) <| qc_iload_n (qc_at qkX12_isSign 53 rfl) rfl <| hx) ?_
    refine qc_andN (qc_icmp_ne (qc_at qkX12_isSign 54 rfl)) (fun u3 => ?_) (fun u3 => ?_)
    · replace h := qc_jn u3 h
      obtain ⟨rfl, rfl, rfl, rfl, rfl⟩ := qc_some5 h
      exact ⟨qc_fm.rf _, qc_iconst (qc_at qkX12_isSign 57 rfl) <| qc_zret (qc_at qkX12_isSign 58 rfl) rfl (Or.inl rfl) (Nat.le_refl _) (Nat.le_refl _) ⟨rfl, rfl, rfl⟩⟩
    · replace h := qc_jp u3 h
      obtain ⟨rfl, rfl, rfl, rfl, rfl⟩ := qc_some5 h
      exact ⟨qc_fm.rf _, qc_iconst (qc_at qkX12_isSign 55 rfl) <| qc_goto (qc_at qkX12_isSign 56 rfl) <| qc_zret (qc_at qkX12_isSign 58 rfl) rfl (Or.inr rfl) (Nat.le_refl _) (Nat.le_refl _) ⟨rfl, rfl, rfl⟩⟩
def fX12_isSign_b17 (w : qcW) (I : qTI) (L : qTL) (D : qTD) (R : qTR) (x1 : Int32) (x2 : Int32) (x3 : Int32) (s0 : Int32) : qcO Bool :=
  (if (I 291 15) = 0 then (if (I 291 9) = (5 : Int32) then (if ((I 291 11) - (I 291 10)) = s0 then (qc_gd (qc_inb (I 291 10) 400) <| if (I 297 (Int32.toNatClampNeg (I 291 10))) = x1 then (if s0 < (2 : Int32) then (fX12_isSign_b82 w I L D R x3 s0) else (qc_gd (qc_inb ((I 291 10) + (1 : Int32)) 400) <| if (I 297 (Int32.toNatClampNeg ((I 291 10) + (1 : Int32)))) = x2 then (fX12_isSign_b82 w I L D R x3 s0) else (some (false, I, L, D, R)))) else (some (false, I, L, D, R))) else (some (false, I, L, D, R))) else (some (false, I, L, D, R))) else (some (false, I, L, D, R)))
set_option maxRecDepth 100000 in
set_option maxHeartbeats 4000000 in
theorem tX12_isSign_b17 {w : qcW} {I : qTI} {L : qTL} {D : qTD} {R : qTR} {x1 : Int32} {x2 : Int32} {x3 : Int32} {s0 : Int32} {r : Bool} {I' : qTI} {L' : qTL} {D' : qTD} {R' : qTR} (hn : qcNF ≤ w.1) (hR : qc_FR R) (h : fX12_isSign_b17 w I L D R x1 x2 x3 s0 = some (r, I', L', D', R')) : qc_fm qcSM (I, L, D, R) (I', L', D', R') ∧ qc_X (qc_rm (0) 0 0) qmX12_isSign (qc_QM 0 0 (qc_eq (some (.int (qc_b r))) w (I', L', D', R'))) 0 0 w (17, [(0, .ref 291), (1, .int x1), (2, .int x2), (3, .int x3)], [.int s0], I, L, D, R) := by
  unfold fX12_isSign_b17 at h
  refine And.imp_right (fun hx => qc_istore (lv' := [(4, _), (0, _), (1, _), (2, _), (3, _)]) (qc_at qkX12_isSign 9 rfl) rfl rfl <| qc_aload_n (qc_at qkX12_isSign 10 rfl) rfl <| qc_gI (qc_at qkX12_isSign 11 rfl) hn rfl <| hx) ?_
  refine qc_andN (qc_if_ne (qc_at qkX12_isSign 12 rfl)) (fun u4 => ?_) (fun u4 => ?_)
  · replace h := qc_jn u4 h
    obtain ⟨rfl, rfl, rfl, rfl, rfl⟩ := qc_some5 h
    exact ⟨qc_fm.rf _, qc_iconst (qc_at qkX12_isSign 57 rfl) <| qc_zret (qc_at qkX12_isSign 58 rfl) rfl (Or.inl rfl) (Nat.le_refl _) (Nat.le_refl _) ⟨rfl, rfl, rfl⟩⟩
  · replace h := qc_jp u4 h
    refine And.imp_right (fun hx => qc_aload_n (qc_at qkX12_isSign 13 rfl) rfl <| qc_gI (qc_at qkX12_isSign 14 rfl) hn rfl <| qc_iconst (qc_at qkX12_isSign 15 rfl) <| hx) ?_
    refine qc_andN (qc_icmp_ne (qc_at qkX12_isSign 16 rfl)) (fun u5 => ?_) (fun u5 => ?_)
    · replace h := qc_jn u5 h
      obtain ⟨rfl, rfl, rfl, rfl, rfl⟩ := qc_some5 h
      exact ⟨qc_fm.rf _, qc_iconst (qc_at qkX12_isSign 57 rfl) <| qc_zret (qc_at qkX12_isSign 58 rfl) rfl (Or.inl rfl) (Nat.le_refl _) (Nat.le_refl _) ⟨rfl, rfl, rfl⟩⟩
    · replace h := qc_jp u5 h
      refine And.imp_right (fun hx => qc_aload_n (qc_at qkX12_isSign 17 rfl) rfl <| qc_gI (qc_at qkX12_isSign 18 rfl) hn rfl <| qc_aload_n (qc_at qkX12_isSign 19 rfl) rfl <| qc_gI (qc_at qkX12_isSign 20 rfl) hn rfl <| qc_isub (qc_at qkX12_isSign 21 rfl) <| qc_iload (qc_at qkX12_isSign 22 rfl) rfl <| hx) ?_
      refine qc_andN (qc_icmp_ne (qc_at qkX12_isSign 23 rfl)) (fun u6 => ?_) (fun u6 => ?_)
      · replace h := qc_jn u6 h
        obtain ⟨rfl, rfl, rfl, rfl, rfl⟩ := qc_some5 h
        exact ⟨qc_fm.rf _, qc_iconst (qc_at qkX12_isSign 57 rfl) <| qc_zret (qc_at qkX12_isSign 58 rfl) rfl (Or.inl rfl) (Nat.le_refl _) (Nat.le_refl _) ⟨rfl, rfl, rfl⟩⟩
      · replace h := qc_jp u6 h
        refine And.imp_right (fun hx => qc_aload_n (qc_at qkX12_isSign 24 rfl) rfl <| qc_gR (qc_at qkX12_isSign 25 rfl) hn rfl (qfr_291_6 hR) rfl <| qc_aload_n (qc_at qkX12_isSign 26 rfl) rfl <| qc_gI (qc_at qkX12_isSign 27 rfl) hn rfl <| hx) ?_
        obtain ⟨g7, h⟩ := qc_gd_of h
        refine And.imp_right (fun hx => qc_iald 400 (qc_at qkX12_isSign 28 rfl) hn rfl (qc_inb_in g7) <| qc_iload_n (qc_at qkX12_isSign 29 rfl) rfl <| hx) ?_
        refine qc_andN (qc_icmp_ne (qc_at qkX12_isSign 30 rfl)) (fun u8 => ?_) (fun u8 => ?_)
        · replace h := qc_jn u8 h
          obtain ⟨rfl, rfl, rfl, rfl, rfl⟩ := qc_some5 h
          exact ⟨qc_fm.rf _, qc_iconst (qc_at qkX12_isSign 57 rfl) <| qc_zret (qc_at qkX12_isSign 58 rfl) rfl (Or.inl rfl) (Nat.le_refl _) (Nat.le_refl _) ⟨rfl, rfl, rfl⟩⟩
        · replace h := qc_jp u8 h
          refine And.imp_right (fun hx => qc_iload (qc_at qkX12_isSign 31 rfl) rfl <| qc_iconst (qc_at qkX12_isSign 32 rfl) <| hx) ?_
          refine qc_andC (qc_icmp_lt (qc_at qkX12_isSign 33 rfl)) (fun u9 => ?_) (fun u9 => ?_)
          · replace h := qc_jp u9 h
            exact And.imp_right (fun hx => qc_sub [1, 4, 0] rfl hx) (tX12_isSign_b82 hn hR h)
          · replace h := qc_jn u9 h
            refine And.imp_right (fun hx => qc_aload_n (qc_at qkX12_isSign 34 rfl) rfl <| qc_gR (qc_at qkX12_isSign 35 rfl) hn rfl (qfr_291_6 hR) rfl <| qc_aload_n (qc_at qkX12_isSign 36 rfl) rfl <| qc_gI (qc_at qkX12_isSign 37 rfl) hn rfl <| qc_iconst (qc_at qkX12_isSign 38 rfl) <| qc_iadd (qc_at qkX12_isSign 39 rfl) <| hx) ?_
            obtain ⟨g10, h⟩ := qc_gd_of h
            refine And.imp_right (fun hx => qc_iald 400 (qc_at qkX12_isSign 40 rfl) hn rfl (qc_inb_in g10) <| qc_iload_n (qc_at qkX12_isSign 41 rfl) rfl <| hx) ?_
            refine qc_andN (qc_icmp_ne (qc_at qkX12_isSign 42 rfl)) (fun u11 => ?_) (fun u11 => ?_)
            · replace h := qc_jn u11 h
              obtain ⟨rfl, rfl, rfl, rfl, rfl⟩ := qc_some5 h
              exact ⟨qc_fm.rf _, qc_iconst (qc_at qkX12_isSign 57 rfl) <| qc_zret (qc_at qkX12_isSign 58 rfl) rfl (Or.inl rfl) (Nat.le_refl _) (Nat.le_refl _) ⟨rfl, rfl, rfl⟩⟩
            · replace h := qc_jp u11 h
              exact And.imp_right (fun hx => qc_sub [1, 4, 0] rfl hx) (tX12_isSign_b82 hn hR h)
def fX12_isSign (w : qcW) (I : qTI) (L : qTL) (D : qTD) (R : qTR) (x1 : Int32) (x2 : Int32) (x3 : Int32) : qcO Bool :=
  (if x3 ≤ 0 then (if x2 ≤ 0 then (fX12_isSign_b17 w I L D R x1 x2 x3 (1 : Int32)) else (fX12_isSign_b17 w I L D R x1 x2 x3 (2 : Int32))) else (fX12_isSign_b17 w I L D R x1 x2 x3 (3 : Int32)))
set_option maxRecDepth 100000 in
set_option maxHeartbeats 4000000 in
theorem tX12_isSign {w : qcW} {I : qTI} {L : qTL} {D : qTD} {R : qTR} {x1 : Int32} {x2 : Int32} {x3 : Int32} {r : Bool} {I' : qTI} {L' : qTL} {D' : qTD} {R' : qTR} (hn : qcNF ≤ w.1) (hR : qc_FR R) (h : fX12_isSign w I L D R x1 x2 x3 = some (r, I', L', D', R')) : qc_fm qcSM (I, L, D, R) (I', L', D', R') ∧ qc_V (0) 0 0 qmX12_isSign [.ref 291, .int x1, .int x2, .int x3] w (I, L, D, R) (qc_eq (some (.int (qc_b r))) w (I', L', D', R')) := by
  unfold fX12_isSign at h
  refine And.imp_right (fun hx => qc_V.of rfl rfl (Nat.le_of_ble_eq_true rfl) (lv := [(0, .ref 291), (1, .int x1), (2, .int x2), (3, .int x3)]) rfl hx) ?_
  refine And.imp_right (fun hx => qc_iload_n (qc_at qkX12_isSign 0 rfl) rfl <| hx) ?_
  refine qc_andC (qc_if_le (qc_at qkX12_isSign 1 rfl)) (fun u12 => ?_) (fun u12 => ?_)
  · replace h := qc_jp u12 h
    refine And.imp_right (fun hx => qc_iload_n (qc_at qkX12_isSign 4 rfl) rfl <| hx) ?_
    refine qc_andC (qc_if_le (qc_at qkX12_isSign 5 rfl)) (fun u13 => ?_) (fun u13 => ?_)
    · replace h := qc_jp u13 h
      exact And.imp_right (fun hx => qc_iconst (qc_at qkX12_isSign 8 rfl) <| qc_sub [0, 1, 2, 3] rfl hx) (tX12_isSign_b17 hn hR h)
    · replace h := qc_jn u13 h
      exact And.imp_right (fun hx => qc_iconst (qc_at qkX12_isSign 6 rfl) <| qc_goto (qc_at qkX12_isSign 7 rfl) <| qc_sub [0, 1, 2, 3] rfl hx) (tX12_isSign_b17 hn hR h)
  · replace h := qc_jn u12 h
    exact And.imp_right (fun hx => qc_iconst (qc_at qkX12_isSign 2 rfl) <| qc_goto (qc_at qkX12_isSign 3 rfl) <| qc_sub [0, 1, 2, 3] rfl hx) (tX12_isSign_b17 hn hR h)
def fX12_is (w : qcW) (I : qTI) (L : qTL) (D : qTD) (R : qTR) (x1 : Int32) : qcO Bool :=
  (qc_bd (fX12_isSign w I L D R x1 (0 : Int32) (0 : Int32)) fun r1 I1 L1 D1 R1 => some (r1, I1, L1, D1, R1))
set_option maxRecDepth 100000 in
set_option maxHeartbeats 4000000 in
theorem tX12_is {w : qcW} {I : qTI} {L : qTL} {D : qTD} {R : qTR} {x1 : Int32} {r : Bool} {I' : qTI} {L' : qTL} {D' : qTD} {R' : qTR} (hn : qcNF ≤ w.1) (hR : qc_FR R) (h : fX12_is w I L D R x1 = some (r, I', L', D', R')) : qc_fm qcSM (I, L, D, R) (I', L', D', R') ∧ qc_V (1) 0 0 qmX12_is [.ref 291, .int x1] w (I, L, D, R) (qc_eq (some (.int (qc_b r))) w (I', L', D', R')) := by
  unfold fX12_is at h
  refine And.imp_right (fun hx => qc_V.of rfl rfl (Nat.le_of_ble_eq_true rfl) (lv := [(0, .ref 291), (1, .int x1)]) rfl hx) ?_
  refine And.imp_right (fun hx => qc_aload_n (qc_at qkX12_is 0 rfl) rfl <| qc_iload_n (qc_at qkX12_is 1 rfl) rfl <| qc_iconst (qc_at qkX12_is 2 rfl) <| qc_iconst (qc_at qkX12_is 3 rfl) <| hx) ?_
  obtain ⟨r1, I1, L1, D1, R1, e1, h⟩ := qc_bd_of h
  have c1 := (tX12_isSign hn hR e1)
  refine qd_cVv (ci := 10) (a0 := 291) (qc_at qkX12_is 4 rfl) ql_12_297 qfX12_isSign (qc_kf hn rfl) rfl c1 rfl rfl (Nat.le_of_ble_eq_true rfl) (qc_rml (by decide) (by decide)) ⟨Nat.zero_le _, Nat.zero_le _⟩ ?_
  obtain ⟨rfl, rfl, rfl, rfl, rfl⟩ := qc_some5 h
  exact ⟨qc_fm.rf _, qc_zret (qc_at qkX12_is 5 rfl) rfl (qc_b01 _) (Nat.le_refl _) (Nat.le_refl _) (qc_eq.rf _ _ _)⟩
def fX12_want_b17 (w : qcW) (I : qTI) (L : qTL) (D : qTD) (R : qTR) : qcO Unit :=
  (qc_bd (fX12_next w I L D R) fun r1 I1 L1 D1 R1 => some ((), I1, L1, D1, R1))
set_option maxRecDepth 100000 in
set_option maxHeartbeats 4000000 in
theorem tX12_want_b17 {w : qcW} {I : qTI} {L : qTL} {D : qTD} {R : qTR} {r : Unit} {I' : qTI} {L' : qTL} {D' : qTD} {R' : qTR} (hn : qcNF ≤ w.1) (hR : qc_FR R) (h : fX12_want_b17 w I L D R = some (r, I', L', D', R')) : qc_fm qcSM (I, L, D, R) (I', L', D', R') ∧ qc_X (qc_rm (4) 0 0) qmX12_want (qc_QM 0 0 (qc_eq none w (I', L', D', R'))) 0 0 w (17, [(0, .ref 291)], [], I, L, D, R) := by
  unfold fX12_want_b17 at h
  refine And.imp_right (fun hx => qc_aload_n (qc_at qkX12_want 9 rfl) rfl <| hx) ?_
  obtain ⟨r1, I1, L1, D1, R1, e1, h⟩ := qc_bd_of h
  have c1 := (tX12_next hn hR e1)
  refine qd_cVn (ci := 10) (a0 := 291) (qc_at qkX12_want 10 rfl) ql_12_304 qfX12_next (qc_kf hn rfl) rfl c1 rfl rfl (Nat.le_of_ble_eq_true rfl) (qc_rml (by decide) (by decide)) ⟨Nat.zero_le _, Nat.zero_le _⟩ ?_
  obtain ⟨rfl, rfl, rfl, rfl, rfl⟩ := qc_some5 h
  exact ⟨qc_fm.rf _, qc_vret (qc_at qkX12_want 11 rfl) rfl (Nat.le_refl _) (Nat.le_refl _) (qc_eq.rf _ _ _)⟩
def fX12_want (w : qcW) (I : qTI) (L : qTL) (D : qTD) (R : qTR) (x1 : Int32) : qcO Unit :=
  (qc_bd (fX12_is w I L D R x1) fun r2 I2 L2 D2 R2 => if r2 = true then (fX12_want_b17 w I2 L2 D2 R2) else (qc_bd (fX12_fail w I2 L2 D2 R2 (2 : Int32) (I2 291 10)) fun r4 I4 L4 D4 R4 => fX12_want_b17 w I4 L4 D4 R4))
set_option maxRecDepth 100000 in
set_option maxHeartbeats 4000000 in
theorem tX12_want {w : qcW} {I : qTI} {L : qTL} {D : qTD} {R : qTR} {x1 : Int32} {r : Unit} {I' : qTI} {L' : qTL} {D' : qTD} {R' : qTR} (hn : qcNF ≤ w.1) (hR : qc_FR R) (h : fX12_want w I L D R x1 = some (r, I', L', D', R')) : qc_fm qcSM (I, L, D, R) (I', L', D', R') ∧ qc_V (4) 0 0 qmX12_want [.ref 291, .int x1] w (I, L, D, R) (qc_eq none w (I', L', D', R')) := by
  unfold fX12_want at h
  refine And.imp_right (fun hx => qc_V.of rfl rfl (Nat.le_of_ble_eq_true rfl) (lv := [(0, .ref 291), (1, .int x1)]) rfl hx) ?_
  refine And.imp_right (fun hx => qc_aload_n (qc_at qkX12_want 0 rfl) rfl <| qc_iload_n (qc_at qkX12_want 1 rfl) rfl <| hx) ?_
  obtain ⟨r2, I2, L2, D2, R2, e2, h⟩ := qc_bd_of h
  have c2 := (tX12_is hn hR e2)
  refine qd_cVv (ci := 10) (a0 := 291) (qc_at qkX12_want 2 rfl) ql_12_301 qfX12_is (qc_kf hn rfl) rfl c2 rfl rfl (Nat.le_of_ble_eq_true rfl) (qc_rml (by decide) (by decide)) ⟨Nat.zero_le _, Nat.zero_le _⟩ ?_
  refine qc_andBn (qc_ifB_ne (qc_at qkX12_want 3 rfl)) (fun u3 => ?_) (fun u3 => ?_)
  · replace h := qc_jt u3 h
    exact And.imp_right (fun hx => qc_sub [0] rfl hx) (tX12_want_b17 hn (c2.1.1 hR) h)
  · replace h := qc_jf u3 h
    refine And.imp_right (fun hx => qc_aload_n (qc_at qkX12_want 4 rfl) rfl <| qc_iconst (qc_at qkX12_want 5 rfl) <| qc_aload_n (qc_at qkX12_want 6 rfl) rfl <| qc_gI (qc_at qkX12_want 7 rfl) hn rfl <| hx) ?_
    obtain ⟨r4, I4, L4, D4, R4, e4, h⟩ := qc_bd_of h
    have c4 := (tX12_fail hn (c2.1.1 hR) e4)
    refine qd_cVn (ci := 10) (a0 := 291) (qc_at qkX12_want 8 rfl) ql_12_268 qfX12_fail (qc_kf hn rfl) rfl c4 rfl rfl (Nat.le_of_ble_eq_true rfl) (qc_rml (by decide) (by decide)) ⟨Nat.zero_le _, Nat.zero_le _⟩ ?_
    exact And.imp_right (fun hx => qc_sub [0] rfl hx) (tX12_want_b17 hn (c4.1.1 (c2.1.1 hR)) h)
def fX12_most (w : qcW) (I : qTI) (L : qTL) (D : qTD) (R : qTR) (x0 : Int32) (x1 : Int32) : qcO Int32 :=
  (if x0 ≤ x1 then (some (x1, I, L, D, R)) else (some (x0, I, L, D, R)))
set_option maxRecDepth 100000 in
set_option maxHeartbeats 4000000 in
theorem tX12_most {w : qcW} {I : qTI} {L : qTL} {D : qTD} {R : qTR} {x0 : Int32} {x1 : Int32} {r : Int32} {I' : qTI} {L' : qTL} {D' : qTD} {R' : qTR} (hn : qcNF ≤ w.1) (hR : qc_FR R) (h : fX12_most w I L D R x0 x1 = some (r, I', L', D', R')) : qc_fm qcSM (I, L, D, R) (I', L', D', R') ∧ qc_V (0) 0 0 qmX12_most [.int x0, .int x1] w (I, L, D, R) (qc_eq (some (.int r)) w (I', L', D', R')) := by
  unfold fX12_most at h
  refine And.imp_right (fun hx => qc_V.of rfl rfl (Nat.le_of_ble_eq_true rfl) (lv := [(0, .int x0), (1, .int x1)]) rfl hx) ?_
  refine And.imp_right (fun hx => qc_iload_n (qc_at qkX12_most 0 rfl) rfl <| qc_iload_n (qc_at qkX12_most 1 rfl) rfl <| hx) ?_
  refine qc_andC (qc_icmp_le (qc_at qkX12_most 2 rfl)) (fun u1 => ?_) (fun u1 => ?_)
  · replace h := qc_jp u1 h
    obtain ⟨rfl, rfl, rfl, rfl, rfl⟩ := qc_some5 h
    exact ⟨qc_fm.rf _, qc_iload_n (qc_at qkX12_most 5 rfl) rfl <| qc_iret (qc_at qkX12_most 6 rfl) rfl (Nat.le_refl _) (Nat.le_refl _) (qc_eq.rf _ _ _)⟩
  · replace h := qc_jn u1 h
    obtain ⟨rfl, rfl, rfl, rfl, rfl⟩ := qc_some5 h
    exact ⟨qc_fm.rf _, qc_iload_n (qc_at qkX12_most 3 rfl) rfl <| qc_goto (qc_at qkX12_most 4 rfl) <| qc_iret (qc_at qkX12_most 6 rfl) rfl (Nat.le_refl _) (Nat.le_refl _) (qc_eq.rf _ _ _)⟩
def fX12_needOf_b90 (w : qcW) (I : qTI) (L : qTL) (D : qTD) (R : qTR) (x2 : Int32) (x3 : Int32) : qcO Int32 :=
  (qc_gd (qc_inb x2 420) <| qc_gd (qc_inb x3 420) <| qc_bd (fX12_most w I L D R (I 304 (Int32.toNatClampNeg x2)) ((1 : Int32) + (I 304 (Int32.toNatClampNeg x3)))) fun r3 I3 L3 D3 R3 => some (r3, I3, L3, D3, R3))
set_option maxRecDepth 100000 in
set_option maxHeartbeats 4000000 in
theorem tX12_needOf_b90 {w : qcW} {I : qTI} {L : qTL} {D : qTD} {R : qTR} {x2 : Int32} {x3 : Int32} {r : Int32} {I' : qTI} {L' : qTL} {D' : qTD} {R' : qTR} (hn : qcNF ≤ w.1) (hR : qc_FR R) (h : fX12_needOf_b90 w I L D R x2 x3 = some (r, I', L', D', R')) : qc_fm qcSM (I, L, D, R) (I', L', D', R') ∧ qc_X (qc_rm (1) 0 0) qmX12_needOf (qc_QM 0 0 (qc_eq (some (.int r)) w (I', L', D', R'))) 0 0 w (90, [(0, .ref 291), (2, .int x2), (3, .int x3)], [], I, L, D, R) := by
  unfold fX12_needOf_b90 at h
  refine And.imp_right (fun hx => qc_aload_n (qc_at qkX12_needOf 14 rfl) rfl <| qc_gR (qc_at qkX12_needOf 15 rfl) hn rfl (qfr_291_24 hR) rfl <| qc_iload_n (qc_at qkX12_needOf 16 rfl) rfl <| hx) ?_
  obtain ⟨g1, h⟩ := qc_gd_of h
  refine And.imp_right (fun hx => qc_iald 420 (qc_at qkX12_needOf 17 rfl) hn rfl (qc_inb_in g1) <| qc_iconst (qc_at qkX12_needOf 18 rfl) <| qc_aload_n (qc_at qkX12_needOf 19 rfl) rfl <| qc_gR (qc_at qkX12_needOf 20 rfl) hn rfl (qfr_291_24 hR) rfl <| qc_iload_n (qc_at qkX12_needOf 21 rfl) rfl <| hx) ?_
  obtain ⟨g2, h⟩ := qc_gd_of h
  refine And.imp_right (fun hx => qc_iald 420 (qc_at qkX12_needOf 22 rfl) hn rfl (qc_inb_in g2) <| qc_iadd (qc_at qkX12_needOf 23 rfl) <| hx) ?_
  obtain ⟨r3, I3, L3, D3, R3, e3, h⟩ := qc_bd_of h
  have c3 := (tX12_most hn hR e3)
  refine qd_cSv (qc_at qkX12_needOf 24 rfl) ql_12_314 qfX12_most c3 rfl rfl (Nat.le_of_ble_eq_true rfl) (qc_rml (by decide) (by decide)) ⟨Nat.zero_le _, Nat.zero_le _⟩ ?_
  obtain ⟨rfl, rfl, rfl, rfl, rfl⟩ := qc_some5 h
  exact ⟨qc_fm.rf _, qc_iret (qc_at qkX12_needOf 25 rfl) rfl (Nat.le_refl _) (Nat.le_refl _) (qc_eq.rf _ _ _)⟩
def fX12_needOf_b108 (w : qcW) (I : qTI) (L : qTL) (D : qTD) (R : qTR) (x2 : Int32) (x3 : Int32) : qcO Int32 :=
  (qc_gd (qc_inb x2 420) <| qc_gd (qc_inb x3 420) <| qc_bd (fX12_most w I L D R (I 304 (Int32.toNatClampNeg x2)) (I 304 (Int32.toNatClampNeg x3))) fun r6 I6 L6 D6 R6 => some (r6, I6, L6, D6, R6))
set_option maxRecDepth 100000 in
set_option maxHeartbeats 4000000 in
theorem tX12_needOf_b108 {w : qcW} {I : qTI} {L : qTL} {D : qTD} {R : qTR} {x2 : Int32} {x3 : Int32} {r : Int32} {I' : qTI} {L' : qTL} {D' : qTD} {R' : qTR} (hn : qcNF ≤ w.1) (hR : qc_FR R) (h : fX12_needOf_b108 w I L D R x2 x3 = some (r, I', L', D', R')) : qc_fm qcSM (I, L, D, R) (I', L', D', R') ∧ qc_X (qc_rm (1) 0 0) qmX12_needOf (qc_QM 0 0 (qc_eq (some (.int r)) w (I', L', D', R'))) 0 0 w (108, [(0, .ref 291), (2, .int x2), (3, .int x3)], [], I, L, D, R) := by
  unfold fX12_needOf_b108 at h
  refine And.imp_right (fun hx => qc_aload_n (qc_at qkX12_needOf 26 rfl) rfl <| qc_gR (qc_at qkX12_needOf 27 rfl) hn rfl (qfr_291_24 hR) rfl <| qc_iload_n (qc_at qkX12_needOf 28 rfl) rfl <| hx) ?_
  obtain ⟨g4, h⟩ := qc_gd_of h
  refine And.imp_right (fun hx => qc_iald 420 (qc_at qkX12_needOf 29 rfl) hn rfl (qc_inb_in g4) <| qc_aload_n (qc_at qkX12_needOf 30 rfl) rfl <| qc_gR (qc_at qkX12_needOf 31 rfl) hn rfl (qfr_291_24 hR) rfl <| qc_iload_n (qc_at qkX12_needOf 32 rfl) rfl <| hx) ?_
  obtain ⟨g5, h⟩ := qc_gd_of h
  refine And.imp_right (fun hx => qc_iald 420 (qc_at qkX12_needOf 33 rfl) hn rfl (qc_inb_in g5) <| hx) ?_
  obtain ⟨r6, I6, L6, D6, R6, e6, h⟩ := qc_bd_of h
  have c6 := (tX12_most hn hR e6)
  refine qd_cSv (qc_at qkX12_needOf 34 rfl) ql_12_314 qfX12_most c6 rfl rfl (Nat.le_of_ble_eq_true rfl) (qc_rml (by decide) (by decide)) ⟨Nat.zero_le _, Nat.zero_le _⟩ ?_
  obtain ⟨rfl, rfl, rfl, rfl, rfl⟩ := qc_some5 h
  exact ⟨qc_fm.rf _, qc_iret (qc_at qkX12_needOf 35 rfl) rfl (Nat.le_refl _) (Nat.le_refl _) (qc_eq.rf _ _ _)⟩
def fX12_needOf_b150 (w : qcW) (I : qTI) (L : qTL) (D : qTD) (R : qTR) (x2 : Int32) : qcO Int32 :=
  (qc_gd (qc_inb x2 420) <| some ((I 304 (Int32.toNatClampNeg x2)), I, L, D, R))
set_option maxRecDepth 100000 in
set_option maxHeartbeats 4000000 in
theorem tX12_needOf_b150 {w : qcW} {I : qTI} {L : qTL} {D : qTD} {R : qTR} {x2 : Int32} {r : Int32} {I' : qTI} {L' : qTL} {D' : qTD} {R' : qTR} (hn : qcNF ≤ w.1) (hR : qc_FR R) (h : fX12_needOf_b150 w I L D R x2 = some (r, I', L', D', R')) : qc_fm qcSM (I, L, D, R) (I', L', D', R') ∧ qc_X (qc_rm (1) 0 0) qmX12_needOf (qc_QM 0 0 (qc_eq (some (.int r)) w (I', L', D', R'))) 0 0 w (150, [(0, .ref 291), (2, .int x2)], [], I, L, D, R) := by
  unfold fX12_needOf_b150 at h
  refine And.imp_right (fun hx => qc_aload_n (qc_at qkX12_needOf 51 rfl) rfl <| qc_gR (qc_at qkX12_needOf 52 rfl) hn rfl (qfr_291_24 hR) rfl <| qc_iload_n (qc_at qkX12_needOf 53 rfl) rfl <| hx) ?_
  obtain ⟨g7, h⟩ := qc_gd_of h
  obtain ⟨rfl, rfl, rfl, rfl, rfl⟩ := qc_some5 h
  exact ⟨qc_fm.rf _, qc_iald 420 (qc_at qkX12_needOf 54 rfl) hn rfl (qc_inb_in g7) <| qc_iret (qc_at qkX12_needOf 55 rfl) rfl (Nat.le_refl _) (Nat.le_refl _) (qc_eq.rf _ _ _)⟩
def fX12_needOf (w : qcW) (I : qTI) (L : qTL) (D : qTD) (R : qTR) (x1 : Int32) (x2 : Int32) (x3 : Int32) (x4 : Int32) : qcO Int32 :=
  (if x1 = 0 then (some ((1 : Int32), I, L, D, R)) else if x1 = 1 then (some ((1 : Int32), I, L, D, R)) else if x1 = 2 then (some ((1 : Int32), I, L, D, R)) else if x1 = 3 then (some ((1 : Int32), I, L, D, R)) else if x1 = 4 then (if x2 = (-1 : Int32) then (some ((1 : Int32), I, L, D, R)) else (qc_gd (qc_inb x2 420) <| some ((I 304 (Int32.toNatClampNeg x2)), I, L, D, R))) else if x1 = 5 then (fX12_needOf_b90 w I L D R x2 x3) else if x1 = 6 then (fX12_needOf_b90 w I L D R x2 x3) else if x1 = 7 then (fX12_needOf_b90 w I L D R x2 x3) else if x1 = 8 then (fX12_needOf_b150 w I L D R x2) else if x1 = 9 then (fX12_needOf_b150 w I L D R x2) else if x1 = 10 then (fX12_needOf_b108 w I L D R x2 x3) else if x1 = 11 then (fX12_needOf_b108 w I L D R x2 x3) else if x1 = 12 then (fX12_needOf_b150 w I L D R x2) else if x1 = 13 then (qc_gd (qc_inb x2 420) <| qc_gd (qc_inb x3 420) <| qc_gd (qc_inb x4 420) <| qc_bd (fX12_most w I L D R (I 304 (Int32.toNatClampNeg x3)) (I 304 (Int32.toNatClampNeg x4))) fun r27 I27 L27 D27 R27 => qc_bd (fX12_most w I27 L27 D27 R27 (I 304 (Int32.toNatClampNeg x2)) r27) fun r28 I28 L28 D28 R28 => some (r28, I28, L28, D28, R28)) else (fX12_needOf_b150 w I L D R x2))
set_option maxRecDepth 100000 in
set_option maxHeartbeats 4000000 in
theorem tX12_needOf {w : qcW} {I : qTI} {L : qTL} {D : qTD} {R : qTR} {x1 : Int32} {x2 : Int32} {x3 : Int32} {x4 : Int32} {r : Int32} {I' : qTI} {L' : qTL} {D' : qTD} {R' : qTR} (hn : qcNF ≤ w.1) (hR : qc_FR R) (h : fX12_needOf w I L D R x1 x2 x3 x4 = some (r, I', L', D', R')) : qc_fm qcSM (I, L, D, R) (I', L', D', R') ∧ qc_V (1) 0 0 qmX12_needOf [.ref 291, .int x1, .int x2, .int x3, .int x4] w (I, L, D, R) (qc_eq (some (.int r)) w (I', L', D', R')) := by
  unfold fX12_needOf at h
  refine And.imp_right (fun hx => qc_V.of rfl rfl (Nat.le_of_ble_eq_true rfl) (lv := [(0, .ref 291), (1, .int x1), (2, .int x2), (3, .int x3), (4, .int x4)]) rfl hx) ?_
  refine And.imp_right (fun hx => qc_iload_n (qc_at qkX12_needOf 0 rfl) rfl <| hx) ?_
  refine qc_by (c := x1 = 0) (fun u8 => ?_) (fun u8 => ?_)
  · refine And.imp_right (fun hx => qc_tabIn (qc_at qkX12_needOf 1 rfl) 0 (by rw [u8]; rfl) (by decide) rfl rfl hx) ?_
    replace h := qc_jp u8 h
    obtain ⟨rfl, rfl, rfl, rfl, rfl⟩ := qc_some5 h
    exact ⟨qc_fm.rf _, qc_iconst (qc_at qkX12_needOf 2 rfl) <| qc_iret (qc_at qkX12_needOf 3 rfl) rfl (Nat.le_refl _) (Nat.le_refl _) (qc_eq.rf _ _ _)⟩
  · replace h := qc_jn u8 h
    refine qc_by (c := x1 = 1) (fun u9 => ?_) (fun u9 => ?_)
    · refine And.imp_right (fun hx => qc_tabIn (qc_at qkX12_needOf 1 rfl) 1 (by rw [u9]; rfl) (by decide) rfl rfl hx) ?_
      replace h := qc_jp u9 h
      obtain ⟨rfl, rfl, rfl, rfl, rfl⟩ := qc_some5 h
      exact ⟨qc_fm.rf _, qc_iconst (qc_at qkX12_needOf 2 rfl) <| qc_iret (qc_at qkX12_needOf 3 rfl) rfl (Nat.le_refl _) (Nat.le_refl _) (qc_eq.rf _ _ _)⟩
    · replace h := qc_jn u9 h
      refine qc_by (c := x1 = 2) (fun u10 => ?_) (fun u10 => ?_)
      · refine And.imp_right (fun hx => qc_tabIn (qc_at qkX12_needOf 1 rfl) 2 (by rw [u10]; rfl) (by decide) rfl rfl hx) ?_
        replace h := qc_jp u10 h
        obtain ⟨rfl, rfl, rfl, rfl, rfl⟩ := qc_some5 h
        exact ⟨qc_fm.rf _, qc_iconst (qc_at qkX12_needOf 2 rfl) <| qc_iret (qc_at qkX12_needOf 3 rfl) rfl (Nat.le_refl _) (Nat.le_refl _) (qc_eq.rf _ _ _)⟩
      · replace h := qc_jn u10 h
        refine qc_by (c := x1 = 3) (fun u11 => ?_) (fun u11 => ?_)
        · refine And.imp_right (fun hx => qc_tabIn (qc_at qkX12_needOf 1 rfl) 3 (by rw [u11]; rfl) (by decide) rfl rfl hx) ?_
          replace h := qc_jp u11 h
          obtain ⟨rfl, rfl, rfl, rfl, rfl⟩ := qc_some5 h
          exact ⟨qc_fm.rf _, qc_iconst (qc_at qkX12_needOf 2 rfl) <| qc_iret (qc_at qkX12_needOf 3 rfl) rfl (Nat.le_refl _) (Nat.le_refl _) (qc_eq.rf _ _ _)⟩
        · replace h := qc_jn u11 h
          refine qc_by (c := x1 = 4) (fun u12 => ?_) (fun u12 => ?_)
          · refine And.imp_right (fun hx => qc_tabIn (qc_at qkX12_needOf 1 rfl) 4 (by rw [u12]; rfl) (by decide) rfl rfl hx) ?_
            replace h := qc_jp u12 h
            refine And.imp_right (fun hx => qc_iload_n (qc_at qkX12_needOf 4 rfl) rfl <| qc_iconst (qc_at qkX12_needOf 5 rfl) <| hx) ?_
            refine qc_andN (qc_icmp_ne (qc_at qkX12_needOf 6 rfl)) (fun u13 => ?_) (fun u13 => ?_)
            · replace h := qc_jn u13 h
              refine And.imp_right (fun hx => qc_aload_n (qc_at qkX12_needOf 9 rfl) rfl <| qc_gR (qc_at qkX12_needOf 10 rfl) hn rfl (qfr_291_24 hR) rfl <| qc_iload_n (qc_at qkX12_needOf 11 rfl) rfl <| hx) ?_
              obtain ⟨g14, h⟩ := qc_gd_of h
              obtain ⟨rfl, rfl, rfl, rfl, rfl⟩ := qc_some5 h
              exact ⟨qc_fm.rf _, qc_iald 420 (qc_at qkX12_needOf 12 rfl) hn rfl (qc_inb_in g14) <| qc_iret (qc_at qkX12_needOf 13 rfl) rfl (Nat.le_refl _) (Nat.le_refl _) (qc_eq.rf _ _ _)⟩
            · replace h := qc_jp u13 h
              obtain ⟨rfl, rfl, rfl, rfl, rfl⟩ := qc_some5 h
              exact ⟨qc_fm.rf _, qc_iconst (qc_at qkX12_needOf 7 rfl) <| qc_goto (qc_at qkX12_needOf 8 rfl) <| qc_iret (qc_at qkX12_needOf 13 rfl) rfl (Nat.le_refl _) (Nat.le_refl _) (qc_eq.rf _ _ _)⟩
          · replace h := qc_jn u12 h
            refine qc_by (c := x1 = 5) (fun u15 => ?_) (fun u15 => ?_)
            · refine And.imp_right (fun hx => qc_tabIn (qc_at qkX12_needOf 1 rfl) 5 (by rw [u15]; rfl) (by decide) rfl rfl hx) ?_
              replace h := qc_jp u15 h
              exact And.imp_right (fun hx => qc_sub [0, 2, 3] rfl hx) (tX12_needOf_b90 hn hR h)
            · replace h := qc_jn u15 h
              refine qc_by (c := x1 = 6) (fun u16 => ?_) (fun u16 => ?_)
              · refine And.imp_right (fun hx => qc_tabIn (qc_at qkX12_needOf 1 rfl) 6 (by rw [u16]; rfl) (by decide) rfl rfl hx) ?_
                replace h := qc_jp u16 h
                exact And.imp_right (fun hx => qc_sub [0, 2, 3] rfl hx) (tX12_needOf_b90 hn hR h)
              · replace h := qc_jn u16 h
                refine qc_by (c := x1 = 7) (fun u17 => ?_) (fun u17 => ?_)
                · refine And.imp_right (fun hx => qc_tabIn (qc_at qkX12_needOf 1 rfl) 7 (by rw [u17]; rfl) (by decide) rfl rfl hx) ?_
                  replace h := qc_jp u17 h
                  exact And.imp_right (fun hx => qc_sub [0, 2, 3] rfl hx) (tX12_needOf_b90 hn hR h)
                · replace h := qc_jn u17 h
                  refine qc_by (c := x1 = 8) (fun u18 => ?_) (fun u18 => ?_)
                  · refine And.imp_right (fun hx => qc_tabIn (qc_at qkX12_needOf 1 rfl) 8 (by rw [u18]; rfl) (by decide) rfl rfl hx) ?_
                    replace h := qc_jp u18 h
                    exact And.imp_right (fun hx => qc_sub [0, 2] rfl hx) (tX12_needOf_b150 hn hR h)
                  · replace h := qc_jn u18 h
                    refine qc_by (c := x1 = 9) (fun u19 => ?_) (fun u19 => ?_)
                    · refine And.imp_right (fun hx => qc_tabIn (qc_at qkX12_needOf 1 rfl) 9 (by rw [u19]; rfl) (by decide) rfl rfl hx) ?_
                      replace h := qc_jp u19 h
                      exact And.imp_right (fun hx => qc_sub [0, 2] rfl hx) (tX12_needOf_b150 hn hR h)
                    · replace h := qc_jn u19 h
                      refine qc_by (c := x1 = 10) (fun u20 => ?_) (fun u20 => ?_)
                      · refine And.imp_right (fun hx => qc_tabIn (qc_at qkX12_needOf 1 rfl) 10 (by rw [u20]; rfl) (by decide) rfl rfl hx) ?_
                        replace h := qc_jp u20 h
                        exact And.imp_right (fun hx => qc_sub [0, 2, 3] rfl hx) (tX12_needOf_b108 hn hR h)
                      · replace h := qc_jn u20 h
                        refine qc_by (c := x1 = 11) (fun u21 => ?_) (fun u21 => ?_)
                        · refine And.imp_right (fun hx => qc_tabIn (qc_at qkX12_needOf 1 rfl) 11 (by rw [u21]; rfl) (by decide) rfl rfl hx) ?_
                          replace h := qc_jp u21 h
                          exact And.imp_right (fun hx => qc_sub [0, 2, 3] rfl hx) (tX12_needOf_b108 hn hR h)
                        · replace h := qc_jn u21 h
                          refine qc_by (c := x1 = 12) (fun u22 => ?_) (fun u22 => ?_)
                          · refine And.imp_right (fun hx => qc_tabIn (qc_at qkX12_needOf 1 rfl) 12 (by rw [u22]; rfl) (by decide) rfl rfl hx) ?_
                            replace h := qc_jp u22 h
                            exact And.imp_right (fun hx => qc_sub [0, 2] rfl hx) (tX12_needOf_b150 hn hR h)
                          · replace h := qc_jn u22 h
                            refine qc_by (c := x1 = 13) (fun u23 => ?_) (fun u23 => ?_)
                            · refine And.imp_right (fun hx => qc_tabIn (qc_at qkX12_needOf 1 rfl) 13 (by rw [u23]; rfl) (by decide) rfl rfl hx) ?_
                              replace h := qc_jp u23 h
                              refine And.imp_right (fun hx => qc_aload_n (qc_at qkX12_needOf 36 rfl) rfl <| qc_gR (qc_at qkX12_needOf 37 rfl) hn rfl (qfr_291_24 hR) rfl <| qc_iload_n (qc_at qkX12_needOf 38 rfl) rfl <| hx) ?_
                              obtain ⟨g24, h⟩ := qc_gd_of h
                              refine And.imp_right (fun hx => qc_iald 420 (qc_at qkX12_needOf 39 rfl) hn rfl (qc_inb_in g24) <| qc_aload_n (qc_at qkX12_needOf 40 rfl) rfl <| qc_gR (qc_at qkX12_needOf 41 rfl) hn rfl (qfr_291_24 hR) rfl <| qc_iload_n (qc_at qkX12_needOf 42 rfl) rfl <| hx) ?_
                              obtain ⟨g25, h⟩ := qc_gd_of h
                              refine And.imp_right (fun hx => qc_iald 420 (qc_at qkX12_needOf 43 rfl) hn rfl (qc_inb_in g25) <| qc_aload_n (qc_at qkX12_needOf 44 rfl) rfl <| qc_gR (qc_at qkX12_needOf 45 rfl) hn rfl (qfr_291_24 hR) rfl <| qc_iload (qc_at qkX12_needOf 46 rfl) rfl <| hx) ?_
                              obtain ⟨g26, h⟩ := qc_gd_of h
                              refine And.imp_right (fun hx => qc_iald 420 (qc_at qkX12_needOf 47 rfl) hn rfl (qc_inb_in g26) <| hx) ?_
                              obtain ⟨r27, I27, L27, D27, R27, e27, h⟩ := qc_bd_of h
                              have c27 := (tX12_most hn hR e27)
                              refine qd_cSv (qc_at qkX12_needOf 48 rfl) ql_12_314 qfX12_most c27 rfl rfl (Nat.le_of_ble_eq_true rfl) (qc_rml (by decide) (by decide)) ⟨Nat.zero_le _, Nat.zero_le _⟩ ?_
                              obtain ⟨r28, I28, L28, D28, R28, e28, h⟩ := qc_bd_of h
                              have c28 := (tX12_most hn (c27.1.1 hR) e28)
                              refine qd_cSv (qc_at qkX12_needOf 49 rfl) ql_12_314 qfX12_most c28 rfl rfl (Nat.le_of_ble_eq_true rfl) (qc_rml (by decide) (by decide)) ⟨Nat.zero_le _, Nat.zero_le _⟩ ?_
                              obtain ⟨rfl, rfl, rfl, rfl, rfl⟩ := qc_some5 h
                              exact ⟨qc_fm.rf _, qc_iret (qc_at qkX12_needOf 50 rfl) rfl (Nat.le_refl _) (Nat.le_refl _) (qc_eq.rf _ _ _)⟩
                            · replace h := qc_jn u23 h
                              have v8 : ¬ Int32.toInt x1 = 0 := fun z => u8 (qc_i32 z rfl)
                              have v9 : ¬ Int32.toInt x1 = 1 := fun z => u9 (qc_i32 z rfl)
                              have v10 : ¬ Int32.toInt x1 = 2 := fun z => u10 (qc_i32 z rfl)
                              have v11 : ¬ Int32.toInt x1 = 3 := fun z => u11 (qc_i32 z rfl)
                              have v12 : ¬ Int32.toInt x1 = 4 := fun z => u12 (qc_i32 z rfl)
                              have v15 : ¬ Int32.toInt x1 = 5 := fun z => u15 (qc_i32 z rfl)
                              have v16 : ¬ Int32.toInt x1 = 6 := fun z => u16 (qc_i32 z rfl)
                              have v17 : ¬ Int32.toInt x1 = 7 := fun z => u17 (qc_i32 z rfl)
                              have v18 : ¬ Int32.toInt x1 = 8 := fun z => u18 (qc_i32 z rfl)
                              have v19 : ¬ Int32.toInt x1 = 9 := fun z => u19 (qc_i32 z rfl)
                              have v20 : ¬ Int32.toInt x1 = 10 := fun z => u20 (qc_i32 z rfl)
                              have v21 : ¬ Int32.toInt x1 = 11 := fun z => u21 (qc_i32 z rfl)
                              have v22 : ¬ Int32.toInt x1 = 12 := fun z => u22 (qc_i32 z rfl)
                              have v23 : ¬ Int32.toInt x1 = 13 := fun z => u23 (qc_i32 z rfl)
                              refine And.imp_right (fun hx => qc_tabOut (qc_at qkX12_needOf 1 rfl) (by omega) rfl hx) ?_
                              exact And.imp_right (fun hx => qc_sub [0, 2] rfl hx) (tX12_needOf_b150 hn hR h)
def fX12_node (w : qcW) (I : qTI) (L : qTL) (D : qTD) (R : qTR) (x1 : Int32) (x2 : Int32) (x3 : Int32) (x4 : Int32) (x5 : Int32) (x6 : Int32) : qcO Int32 :=
  (if (I 291 15) ≤ 0 then (qc_gd (qc_inb (I 291 17) 420) <| qc_gd (qc_inb ((qc_u I 298 (Int32.toNatClampNeg (I 291 17)) x1) 291 17) 420) <| qc_gd (qc_inb ((qc_u (qc_u I 298 (Int32.toNatClampNeg (I 291 17)) x1) 299 (Int32.toNatClampNeg ((qc_u I 298 (Int32.toNatClampNeg (I 291 17)) x1) 291 17)) x2) 291 17) 420) <| qc_gd (qc_inb ((qc_u (qc_u (qc_u I 298 (Int32.toNatClampNeg (I 291 17)) x1) 299 (Int32.toNatClampNeg ((qc_u I 298 (Int32.toNatClampNeg (I 291 17)) x1) 291 17)) x2) 300 (Int32.toNatClampNeg ((qc_u (qc_u I 298 (Int32.toNatClampNeg (I 291 17)) x1) 299 (Int32.toNatClampNeg ((qc_u I 298 (Int32.toNatClampNeg (I 291 17)) x1) 291 17)) x2) 291 17)) x3) 291 17) 420) <| qc_gd (qc_inb ((qc_u (qc_u (qc_u (qc_u I 298 (Int32.toNatClampNeg (I 291 17)) x1) 299 (Int32.toNatClampNeg ((qc_u I 298 (Int32.toNatClampNeg (I 291 17)) x1) 291 17)) x2) 300 (Int32.toNatClampNeg ((qc_u (qc_u I 298 (Int32.toNatClampNeg (I 291 17)) x1) 299 (Int32.toNatClampNeg ((qc_u I 298 (Int32.toNatClampNeg (I 291 17)) x1) 291 17)) x2) 291 17)) x3) 301 (Int32.toNatClampNeg ((qc_u (qc_u (qc_u I 298 (Int32.toNatClampNeg (I 291 17)) x1) 299 (Int32.toNatClampNeg ((qc_u I 298 (Int32.toNatClampNeg (I 291 17)) x1) 291 17)) x2) 300 (Int32.toNatClampNeg ((qc_u (qc_u I 298 (Int32.toNatClampNeg (I 291 17)) x1) 299 (Int32.toNatClampNeg ((qc_u I 298 (Int32.toNatClampNeg (I 291 17)) x1) 291 17)) x2) 291 17)) x3) 291 17)) x4) 291 17) 420) <| qc_gd (qc_inb ((qc_u (qc_u (qc_u (qc_u (qc_u I 298 (Int32.toNatClampNeg (I 291 17)) x1) 299 (Int32.toNatClampNeg ((qc_u I 298 (Int32.toNatClampNeg (I 291 17)) x1) 291 17)) x2) 300 (Int32.toNatClampNeg ((qc_u (qc_u I 298 (Int32.toNatClampNeg (I 291 17)) x1) 299 (Int32.toNatClampNeg ((qc_u I 298 (Int32.toNatClampNeg (I 291 17)) x1) 291 17)) x2) 291 17)) x3) 301 (Int32.toNatClampNeg ((qc_u (qc_u (qc_u I 298 (Int32.toNatClampNeg (I 291 17)) x1) 299 (Int32.toNatClampNeg ((qc_u I 298 (Int32.toNatClampNeg (I 291 17)) x1) 291 17)) x2) 300 (Int32.toNatClampNeg ((qc_u (qc_u I 298 (Int32.toNatClampNeg (I 291 17)) x1) 299 (Int32.toNatClampNeg ((qc_u I 298 (Int32.toNatClampNeg (I 291 17)) x1) 291 17)) x2) 291 17)) x3) 291 17)) x4) 302 (Int32.toNatClampNeg ((qc_u (qc_u (qc_u (qc_u I 298 (Int32.toNatClampNeg (I 291 17)) x1) 299 (Int32.toNatClampNeg ((qc_u I 298 (Int32.toNatClampNeg (I 291 17)) x1) 291 17)) x2) 300 (Int32.toNatClampNeg ((qc_u (qc_u I 298 (Int32.toNatClampNeg (I 291 17)) x1) 299 (Int32.toNatClampNeg ((qc_u I 298 (Int32.toNatClampNeg (I 291 17)) x1) 291 17)) x2) 291 17)) x3) 301 (Int32.toNatClampNeg ((qc_u (qc_u (qc_u I 298 (Int32.toNatClampNeg (I 291 17)) x1) 299 (Int32.toNatClampNeg ((qc_u I 298 (Int32.toNatClampNeg (I 291 17)) x1) 291 17)) x2) 300 (Int32.toNatClampNeg ((qc_u (qc_u I 298 (Int32.toNatClampNeg (I 291 17)) x1) 299 (Int32.toNatClampNeg ((qc_u I 298 (Int32.toNatClampNeg (I 291 17)) x1) 291 17)) x2) 291 17)) x3) 291 17)) x4) 291 17)) x5) 291 17) 420) <| qc_bd (fX12_needOf w (qc_u (qc_u (qc_u (qc_u (qc_u (qc_u I 298 (Int32.toNatClampNeg (I 291 17)) x1) 299 (Int32.toNatClampNeg ((qc_u I 298 (Int32.toNatClampNeg (I 291 17)) x1) 291 17)) x2) 300 (Int32.toNatClampNeg ((qc_u (qc_u I 298 (Int32.toNatClampNeg (I 291 17)) x1) 299 (Int32.toNatClampNeg ((qc_u I 298 (Int32.toNatClampNeg (I 291 17)) x1) 291 17)) x2) 291 17)) x3) 301 (Int32.toNatClampNeg ((qc_u (qc_u (qc_u I 298 (Int32.toNatClampNeg (I 291 17)) x1) 299 (Int32.toNatClampNeg ((qc_u I 298 (Int32.toNatClampNeg (I 291 17)) x1) 291 17)) x2) 300 (Int32.toNatClampNeg ((qc_u (qc_u I 298 (Int32.toNatClampNeg (I 291 17)) x1) 299 (Int32.toNatClampNeg ((qc_u I 298 (Int32.toNatClampNeg (I 291 17)) x1) 291 17)) x2) 291 17)) x3) 291 17)) x4) 302 (Int32.toNatClampNeg ((qc_u (qc_u (qc_u (qc_u I 298 (Int32.toNatClampNeg (I 291 17)) x1) 299 (Int32.toNatClampNeg ((qc_u I 298 (Int32.toNatClampNeg (I 291 17)) x1) 291 17)) x2) 300 (Int32.toNatClampNeg ((qc_u (qc_u I 298 (Int32.toNatClampNeg (I 291 17)) x1) 299 (Int32.toNatClampNeg ((qc_u I 298 (Int32.toNatClampNeg (I 291 17)) x1) 291 17)) x2) 291 17)) x3) 301 (Int32.toNatClampNeg ((qc_u (qc_u (qc_u I 298 (Int32.toNatClampNeg (I 291 17)) x1) 299 (Int32.toNatClampNeg ((qc_u I 298 (Int32.toNatClampNeg (I 291 17)) x1) 291 17)) x2) 300 (Int32.toNatClampNeg ((qc_u (qc_u I 298 (Int32.toNatClampNeg (I 291 17)) x1) 299 (Int32.toNatClampNeg ((qc_u I 298 (Int32.toNatClampNeg (I 291 17)) x1) 291 17)) x2) 291 17)) x3) 291 17)) x4) 291 17)) x5) 303 (Int32.toNatClampNeg ((qc_u (qc_u (qc_u (qc_u (qc_u I 298 (Int32.toNatClampNeg (I 291 17)) x1) 299 (Int32.toNatClampNeg ((qc_u I 298 (Int32.toNatClampNeg (I 291 17)) x1) 291 17)) x2) 300 (Int32.toNatClampNeg ((qc_u (qc_u I 298 (Int32.toNatClampNeg (I 291 17)) x1) 299 (Int32.toNatClampNeg ((qc_u I 298 (Int32.toNatClampNeg (I 291 17)) x1) 291 17)) x2) 291 17)) x3) 301 (Int32.toNatClampNeg ((qc_u (qc_u (qc_u I 298 (Int32.toNatClampNeg (I 291 17)) x1) 299 (Int32.toNatClampNeg ((qc_u I 298 (Int32.toNatClampNeg (I 291 17)) x1) 291 17)) x2) 300 (Int32.toNatClampNeg ((qc_u (qc_u I 298 (Int32.toNatClampNeg (I 291 17)) x1) 299 (Int32.toNatClampNeg ((qc_u I 298 (Int32.toNatClampNeg (I 291 17)) x1) 291 17)) x2) 291 17)) x3) 291 17)) x4) 302 (Int32.toNatClampNeg ((qc_u (qc_u (qc_u (qc_u I 298 (Int32.toNatClampNeg (I 291 17)) x1) 299 (Int32.toNatClampNeg ((qc_u I 298 (Int32.toNatClampNeg (I 291 17)) x1) 291 17)) x2) 300 (Int32.toNatClampNeg ((qc_u (qc_u I 298 (Int32.toNatClampNeg (I 291 17)) x1) 299 (Int32.toNatClampNeg ((qc_u I 298 (Int32.toNatClampNeg (I 291 17)) x1) 291 17)) x2) 291 17)) x3) 301 (Int32.toNatClampNeg ((qc_u (qc_u (qc_u I 298 (Int32.toNatClampNeg (I 291 17)) x1) 299 (Int32.toNatClampNeg ((qc_u I 298 (Int32.toNatClampNeg (I 291 17)) x1) 291 17)) x2) 300 (Int32.toNatClampNeg ((qc_u (qc_u I 298 (Int32.toNatClampNeg (I 291 17)) x1) 299 (Int32.toNatClampNeg ((qc_u I 298 (Int32.toNatClampNeg (I 291 17)) x1) 291 17)) x2) 291 17)) x3) 291 17)) x4) 291 17)) x5) 291 17)) x6) L D R x1 x2 x3 x4) fun r8 I8 L8 D8 R8 => qc_gd (qc_inb ((qc_u (qc_u (qc_u (qc_u (qc_u (qc_u I 298 (Int32.toNatClampNeg (I 291 17)) x1) 299 (Int32.toNatClampNeg ((qc_u I 298 (Int32.toNatClampNeg (I 291 17)) x1) 291 17)) x2) 300 (Int32.toNatClampNeg ((qc_u (qc_u I 298 (Int32.toNatClampNeg (I 291 17)) x1) 299 (Int32.toNatClampNeg ((qc_u I 298 (Int32.toNatClampNeg (I 291 17)) x1) 291 17)) x2) 291 17)) x3) 301 (Int32.toNatClampNeg ((qc_u (qc_u (qc_u I 298 (Int32.toNatClampNeg (I 291 17)) x1) 299 (Int32.toNatClampNeg ((qc_u I 298 (Int32.toNatClampNeg (I 291 17)) x1) 291 17)) x2) 300 (Int32.toNatClampNeg ((qc_u (qc_u I 298 (Int32.toNatClampNeg (I 291 17)) x1) 299 (Int32.toNatClampNeg ((qc_u I 298 (Int32.toNatClampNeg (I 291 17)) x1) 291 17)) x2) 291 17)) x3) 291 17)) x4) 302 (Int32.toNatClampNeg ((qc_u (qc_u (qc_u (qc_u I 298 (Int32.toNatClampNeg (I 291 17)) x1) 299 (Int32.toNatClampNeg ((qc_u I 298 (Int32.toNatClampNeg (I 291 17)) x1) 291 17)) x2) 300 (Int32.toNatClampNeg ((qc_u (qc_u I 298 (Int32.toNatClampNeg (I 291 17)) x1) 299 (Int32.toNatClampNeg ((qc_u I 298 (Int32.toNatClampNeg (I 291 17)) x1) 291 17)) x2) 291 17)) x3) 301 (Int32.toNatClampNeg ((qc_u (qc_u (qc_u I 298 (Int32.toNatClampNeg (I 291 17)) x1) 299 (Int32.toNatClampNeg ((qc_u I 298 (Int32.toNatClampNeg (I 291 17)) x1) 291 17)) x2) 300 (Int32.toNatClampNeg ((qc_u (qc_u I 298 (Int32.toNatClampNeg (I 291 17)) x1) 299 (Int32.toNatClampNeg ((qc_u I 298 (Int32.toNatClampNeg (I 291 17)) x1) 291 17)) x2) 291 17)) x3) 291 17)) x4) 291 17)) x5) 303 (Int32.toNatClampNeg ((qc_u (qc_u (qc_u (qc_u (qc_u I 298 (Int32.toNatClampNeg (I 291 17)) x1) 299 (Int32.toNatClampNeg ((qc_u I 298 (Int32.toNatClampNeg (I 291 17)) x1) 291 17)) x2) 300 (Int32.toNatClampNeg ((qc_u (qc_u I 298 (Int32.toNatClampNeg (I 291 17)) x1) 299 (Int32.toNatClampNeg ((qc_u I 298 (Int32.toNatClampNeg (I 291 17)) x1) 291 17)) x2) 291 17)) x3) 301 (Int32.toNatClampNeg ((qc_u (qc_u (qc_u I 298 (Int32.toNatClampNeg (I 291 17)) x1) 299 (Int32.toNatClampNeg ((qc_u I 298 (Int32.toNatClampNeg (I 291 17)) x1) 291 17)) x2) 300 (Int32.toNatClampNeg ((qc_u (qc_u I 298 (Int32.toNatClampNeg (I 291 17)) x1) 299 (Int32.toNatClampNeg ((qc_u I 298 (Int32.toNatClampNeg (I 291 17)) x1) 291 17)) x2) 291 17)) x3) 291 17)) x4) 302 (Int32.toNatClampNeg ((qc_u (qc_u (qc_u (qc_u I 298 (Int32.toNatClampNeg (I 291 17)) x1) 299 (Int32.toNatClampNeg ((qc_u I 298 (Int32.toNatClampNeg (I 291 17)) x1) 291 17)) x2) 300 (Int32.toNatClampNeg ((qc_u (qc_u I 298 (Int32.toNatClampNeg (I 291 17)) x1) 299 (Int32.toNatClampNeg ((qc_u I 298 (Int32.toNatClampNeg (I 291 17)) x1) 291 17)) x2) 291 17)) x3) 301 (Int32.toNatClampNeg ((qc_u (qc_u (qc_u I 298 (Int32.toNatClampNeg (I 291 17)) x1) 299 (Int32.toNatClampNeg ((qc_u I 298 (Int32.toNatClampNeg (I 291 17)) x1) 291 17)) x2) 300 (Int32.toNatClampNeg ((qc_u (qc_u I 298 (Int32.toNatClampNeg (I 291 17)) x1) 299 (Int32.toNatClampNeg ((qc_u I 298 (Int32.toNatClampNeg (I 291 17)) x1) 291 17)) x2) 291 17)) x3) 291 17)) x4) 291 17)) x5) 291 17)) x6) 291 17) 420) <| some ((((qc_u (qc_u I8 304 (Int32.toNatClampNeg ((qc_u (qc_u (qc_u (qc_u (qc_u (qc_u I 298 (Int32.toNatClampNeg (I 291 17)) x1) 299 (Int32.toNatClampNeg ((qc_u I 298 (Int32.toNatClampNeg (I 291 17)) x1) 291 17)) x2) 300 (Int32.toNatClampNeg ((qc_u (qc_u I 298 (Int32.toNatClampNeg (I 291 17)) x1) 299 (Int32.toNatClampNeg ((qc_u I 298 (Int32.toNatClampNeg (I 291 17)) x1) 291 17)) x2) 291 17)) x3) 301 (Int32.toNatClampNeg ((qc_u (qc_u (qc_u I 298 (Int32.toNatClampNeg (I 291 17)) x1) 299 (Int32.toNatClampNeg ((qc_u I 298 (Int32.toNatClampNeg (I 291 17)) x1) 291 17)) x2) 300 (Int32.toNatClampNeg ((qc_u (qc_u I 298 (Int32.toNatClampNeg (I 291 17)) x1) 299 (Int32.toNatClampNeg ((qc_u I 298 (Int32.toNatClampNeg (I 291 17)) x1) 291 17)) x2) 291 17)) x3) 291 17)) x4) 302 (Int32.toNatClampNeg ((qc_u (qc_u (qc_u (qc_u I 298 (Int32.toNatClampNeg (I 291 17)) x1) 299 (Int32.toNatClampNeg ((qc_u I 298 (Int32.toNatClampNeg (I 291 17)) x1) 291 17)) x2) 300 (Int32.toNatClampNeg ((qc_u (qc_u I 298 (Int32.toNatClampNeg (I 291 17)) x1) 299 (Int32.toNatClampNeg ((qc_u I 298 (Int32.toNatClampNeg (I 291 17)) x1) 291 17)) x2) 291 17)) x3) 301 (Int32.toNatClampNeg ((qc_u (qc_u (qc_u I 298 (Int32.toNatClampNeg (I 291 17)) x1) 299 (Int32.toNatClampNeg ((qc_u I 298 (Int32.toNatClampNeg (I 291 17)) x1) 291 17)) x2) 300 (Int32.toNatClampNeg ((qc_u (qc_u I 298 (Int32.toNatClampNeg (I 291 17)) x1) 299 (Int32.toNatClampNeg ((qc_u I 298 (Int32.toNatClampNeg (I 291 17)) x1) 291 17)) x2) 291 17)) x3) 291 17)) x4) 291 17)) x5) 303 (Int32.toNatClampNeg ((qc_u (qc_u (qc_u (qc_u (qc_u I 298 (Int32.toNatClampNeg (I 291 17)) x1) 299 (Int32.toNatClampNeg ((qc_u I 298 (Int32.toNatClampNeg (I 291 17)) x1) 291 17)) x2) 300 (Int32.toNatClampNeg ((qc_u (qc_u I 298 (Int32.toNatClampNeg (I 291 17)) x1) 299 (Int32.toNatClampNeg ((qc_u I 298 (Int32.toNatClampNeg (I 291 17)) x1) 291 17)) x2) 291 17)) x3) 301 (Int32.toNatClampNeg ((qc_u (qc_u (qc_u I 298 (Int32.toNatClampNeg (I 291 17)) x1) 299 (Int32.toNatClampNeg ((qc_u I 298 (Int32.toNatClampNeg (I 291 17)) x1) 291 17)) x2) 300 (Int32.toNatClampNeg ((qc_u (qc_u I 298 (Int32.toNatClampNeg (I 291 17)) x1) 299 (Int32.toNatClampNeg ((qc_u I 298 (Int32.toNatClampNeg (I 291 17)) x1) 291 17)) x2) 291 17)) x3) 291 17)) x4) 302 (Int32.toNatClampNeg ((qc_u (qc_u (qc_u (qc_u I 298 (Int32.toNatClampNeg (I 291 17)) x1) 299 (Int32.toNatClampNeg ((qc_u I 298 (Int32.toNatClampNeg (I 291 17)) x1) 291 17)) x2) 300 (Int32.toNatClampNeg ((qc_u (qc_u I 298 (Int32.toNatClampNeg (I 291 17)) x1) 299 (Int32.toNatClampNeg ((qc_u I 298 (Int32.toNatClampNeg (I 291 17)) x1) 291 17)) x2) 291 17)) x3) 301 (Int32.toNatClampNeg ((qc_u (qc_u (qc_u I 298 (Int32.toNatClampNeg (I 291 17)) x1) 299 (Int32.toNatClampNeg ((qc_u I 298 (Int32.toNatClampNeg (I 291 17)) x1) 291 17)) x2) 300 (Int32.toNatClampNeg ((qc_u (qc_u I 298 (Int32.toNatClampNeg (I 291 17)) x1) 299 (Int32.toNatClampNeg ((qc_u I 298 (Int32.toNatClampNeg (I 291 17)) x1) 291 17)) x2) 291 17)) x3) 291 17)) x4) 291 17)) x5) 291 17)) x6) 291 17)) r8) 291 17 (((qc_u I8 304 (Int32.toNatClampNeg ((qc_u (qc_u (qc_u (qc_u (qc_u (qc_u I 298 (Int32.toNatClampNeg (I 291 17)) x1) 299 (Int32.toNatClampNeg ((qc_u I 298 (Int32.toNatClampNeg (I 291 17)) x1) 291 17)) x2) 300 (Int32.toNatClampNeg ((qc_u (qc_u I 298 (Int32.toNatClampNeg (I 291 17)) x1) 299 (Int32.toNatClampNeg ((qc_u I 298 (Int32.toNatClampNeg (I 291 17)) x1) 291 17)) x2) 291 17)) x3) 301 (Int32.toNatClampNeg ((qc_u (qc_u (qc_u I 298 (Int32.toNatClampNeg (I 291 17)) x1) 299 (Int32.toNatClampNeg ((qc_u I 298 (Int32.toNatClampNeg (I 291 17)) x1) 291 17)) x2) 300 (Int32.toNatClampNeg ((qc_u (qc_u I 298 (Int32.toNatClampNeg (I 291 17)) x1) 299 (Int32.toNatClampNeg ((qc_u I 298 (Int32.toNatClampNeg (I 291 17)) x1) 291 17)) x2) 291 17)) x3) 291 17)) x4) 302 (Int32.toNatClampNeg ((qc_u (qc_u (qc_u (qc_u I 298 (Int32.toNatClampNeg (I 291 17)) x1) 299 (Int32.toNatClampNeg ((qc_u I 298 (Int32.toNatClampNeg (I 291 17)) x1) 291 17)) x2) 300 (Int32.toNatClampNeg ((qc_u (qc_u I 298 (Int32.toNatClampNeg (I 291 17)) x1) 299 (Int32.toNatClampNeg ((qc_u I 298 (Int32.toNatClampNeg (I 291 17)) x1) 291 17)) x2) 291 17)) x3) 301 (Int32.toNatClampNeg ((qc_u (qc_u (qc_u I 298 (Int32.toNatClampNeg (I 291 17)) x1) 299 (Int32.toNatClampNeg ((qc_u I 298 (Int32.toNatClampNeg (I 291 17)) x1) 291 17)) x2) 300 (Int32.toNatClampNeg ((qc_u (qc_u I 298 (Int32.toNatClampNeg (I 291 17)) x1) 299 (Int32.toNatClampNeg ((qc_u I 298 (Int32.toNatClampNeg (I 291 17)) x1) 291 17)) x2) 291 17)) x3) 291 17)) x4) 291 17)) x5) 303 (Int32.toNatClampNeg ((qc_u (qc_u (qc_u (qc_u (qc_u I 298 (Int32.toNatClampNeg (I 291 17)) x1) 299 (Int32.toNatClampNeg ((qc_u I 298 (Int32.toNatClampNeg (I 291 17)) x1) 291 17)) x2) 300 (Int32.toNatClampNeg ((qc_u (qc_u I 298 (Int32.toNatClampNeg (I 291 17)) x1) 299 (Int32.toNatClampNeg ((qc_u I 298 (Int32.toNatClampNeg (I 291 17)) x1) 291 17)) x2) 291 17)) x3) 301 (Int32.toNatClampNeg ((qc_u (qc_u (qc_u I 298 (Int32.toNatClampNeg (I 291 17)) x1) 299 (Int32.toNatClampNeg ((qc_u I 298 (Int32.toNatClampNeg (I 291 17)) x1) 291 17)) x2) 300 (Int32.toNatClampNeg ((qc_u (qc_u I 298 (Int32.toNatClampNeg (I 291 17)) x1) 299 (Int32.toNatClampNeg ((qc_u I 298 (Int32.toNatClampNeg (I 291 17)) x1) 291 17)) x2) 291 17)) x3) 291 17)) x4) 302 (Int32.toNatClampNeg ((qc_u (qc_u (qc_u (qc_u I 298 (Int32.toNatClampNeg (I 291 17)) x1) 299 (Int32.toNatClampNeg ((qc_u I 298 (Int32.toNatClampNeg (I 291 17)) x1) 291 17)) x2) 300 (Int32.toNatClampNeg ((qc_u (qc_u I 298 (Int32.toNatClampNeg (I 291 17)) x1) 299 (Int32.toNatClampNeg ((qc_u I 298 (Int32.toNatClampNeg (I 291 17)) x1) 291 17)) x2) 291 17)) x3) 301 (Int32.toNatClampNeg ((qc_u (qc_u (qc_u I 298 (Int32.toNatClampNeg (I 291 17)) x1) 299 (Int32.toNatClampNeg ((qc_u I 298 (Int32.toNatClampNeg (I 291 17)) x1) 291 17)) x2) 300 (Int32.toNatClampNeg ((qc_u (qc_u I 298 (Int32.toNatClampNeg (I 291 17)) x1) 299 (Int32.toNatClampNeg ((qc_u I 298 (Int32.toNatClampNeg (I 291 17)) x1) 291 17)) x2) 291 17)) x3) 291 17)) x4) 291 17)) x5) 291 17)) x6) 291 17)) r8) 291 17) + (1 : Int32))) 291 17) - (1 : Int32)), (qc_u (qc_u I8 304 (Int32.toNatClampNeg ((qc_u (qc_u (qc_u (qc_u (qc_u (qc_u I 298 (Int32.toNatClampNeg (I 291 17)) x1) 299 (Int32.toNatClampNeg ((qc_u I 298 (Int32.toNatClampNeg (I 291 17)) x1) 291 17)) x2) 300 (Int32.toNatClampNeg ((qc_u (qc_u I 298 (Int32.toNatClampNeg (I 291 17)) x1) 299 (Int32.toNatClampNeg ((qc_u I 298 (Int32.toNatClampNeg (I 291 17)) x1) 291 17)) x2) 291 17)) x3) 301 (Int32.toNatClampNeg ((qc_u (qc_u (qc_u I 298 (Int32.toNatClampNeg (I 291 17)) x1) 299 (Int32.toNatClampNeg ((qc_u I 298 (Int32.toNatClampNeg (I 291 17)) x1) 291 17)) x2) 300 (Int32.toNatClampNeg ((qc_u (qc_u I 298 (Int32.toNatClampNeg (I 291 17)) x1) 299 (Int32.toNatClampNeg ((qc_u I 298 (Int32.toNatClampNeg (I 291 17)) x1) 291 17)) x2) 291 17)) x3) 291 17)) x4) 302 (Int32.toNatClampNeg ((qc_u (qc_u (qc_u (qc_u I 298 (Int32.toNatClampNeg (I 291 17)) x1) 299 (Int32.toNatClampNeg ((qc_u I 298 (Int32.toNatClampNeg (I 291 17)) x1) 291 17)) x2) 300 (Int32.toNatClampNeg ((qc_u (qc_u I 298 (Int32.toNatClampNeg (I 291 17)) x1) 299 (Int32.toNatClampNeg ((qc_u I 298 (Int32.toNatClampNeg (I 291 17)) x1) 291 17)) x2) 291 17)) x3) 301 (Int32.toNatClampNeg ((qc_u (qc_u (qc_u I 298 (Int32.toNatClampNeg (I 291 17)) x1) 299 (Int32.toNatClampNeg ((qc_u I 298 (Int32.toNatClampNeg (I 291 17)) x1) 291 17)) x2) 300 (Int32.toNatClampNeg ((qc_u (qc_u I 298 (Int32.toNatClampNeg (I 291 17)) x1) 299 (Int32.toNatClampNeg ((qc_u I 298 (Int32.toNatClampNeg (I 291 17)) x1) 291 17)) x2) 291 17)) x3) 291 17)) x4) 291 17)) x5) 303 (Int32.toNatClampNeg ((qc_u (qc_u (qc_u (qc_u (qc_u I 298 (Int32.toNatClampNeg (I 291 17)) x1) 299 (Int32.toNatClampNeg ((qc_u I 298 (Int32.toNatClampNeg (I 291 17)) x1) 291 17)) x2) 300 (Int32.toNatClampNeg ((qc_u (qc_u I 298 (Int32.toNatClampNeg (I 291 17)) x1) 299 (Int32.toNatClampNeg ((qc_u I 298 (Int32.toNatClampNeg (I 291 17)) x1) 291 17)) x2) 291 17)) x3) 301 (Int32.toNatClampNeg ((qc_u (qc_u (qc_u I 298 (Int32.toNatClampNeg (I 291 17)) x1) 299 (Int32.toNatClampNeg ((qc_u I 298 (Int32.toNatClampNeg (I 291 17)) x1) 291 17)) x2) 300 (Int32.toNatClampNeg ((qc_u (qc_u I 298 (Int32.toNatClampNeg (I 291 17)) x1) 299 (Int32.toNatClampNeg ((qc_u I 298 (Int32.toNatClampNeg (I 291 17)) x1) 291 17)) x2) 291 17)) x3) 291 17)) x4) 302 (Int32.toNatClampNeg ((qc_u (qc_u (qc_u (qc_u I 298 (Int32.toNatClampNeg (I 291 17)) x1) 299 (Int32.toNatClampNeg ((qc_u I 298 (Int32.toNatClampNeg (I 291 17)) x1) 291 17)) x2) 300 (Int32.toNatClampNeg ((qc_u (qc_u I 298 (Int32.toNatClampNeg (I 291 17)) x1) 299 (Int32.toNatClampNeg ((qc_u I 298 (Int32.toNatClampNeg (I 291 17)) x1) 291 17)) x2) 291 17)) x3) 301 (Int32.toNatClampNeg ((qc_u (qc_u (qc_u I 298 (Int32.toNatClampNeg (I 291 17)) x1) 299 (Int32.toNatClampNeg ((qc_u I 298 (Int32.toNatClampNeg (I 291 17)) x1) 291 17)) x2) 300 (Int32.toNatClampNeg ((qc_u (qc_u I 298 (Int32.toNatClampNeg (I 291 17)) x1) 299 (Int32.toNatClampNeg ((qc_u I 298 (Int32.toNatClampNeg (I 291 17)) x1) 291 17)) x2) 291 17)) x3) 291 17)) x4) 291 17)) x5) 291 17)) x6) 291 17)) r8) 291 17 (((qc_u I8 304 (Int32.toNatClampNeg ((qc_u (qc_u (qc_u (qc_u (qc_u (qc_u I 298 (Int32.toNatClampNeg (I 291 17)) x1) 299 (Int32.toNatClampNeg ((qc_u I 298 (Int32.toNatClampNeg (I 291 17)) x1) 291 17)) x2) 300 (Int32.toNatClampNeg ((qc_u (qc_u I 298 (Int32.toNatClampNeg (I 291 17)) x1) 299 (Int32.toNatClampNeg ((qc_u I 298 (Int32.toNatClampNeg (I 291 17)) x1) 291 17)) x2) 291 17)) x3) 301 (Int32.toNatClampNeg ((qc_u (qc_u (qc_u I 298 (Int32.toNatClampNeg (I 291 17)) x1) 299 (Int32.toNatClampNeg ((qc_u I 298 (Int32.toNatClampNeg (I 291 17)) x1) 291 17)) x2) 300 (Int32.toNatClampNeg ((qc_u (qc_u I 298 (Int32.toNatClampNeg (I 291 17)) x1) 299 (Int32.toNatClampNeg ((qc_u I 298 (Int32.toNatClampNeg (I 291 17)) x1) 291 17)) x2) 291 17)) x3) 291 17)) x4) 302 (Int32.toNatClampNeg ((qc_u (qc_u (qc_u (qc_u I 298 (Int32.toNatClampNeg (I 291 17)) x1) 299 (Int32.toNatClampNeg ((qc_u I 298 (Int32.toNatClampNeg (I 291 17)) x1) 291 17)) x2) 300 (Int32.toNatClampNeg ((qc_u (qc_u I 298 (Int32.toNatClampNeg (I 291 17)) x1) 299 (Int32.toNatClampNeg ((qc_u I 298 (Int32.toNatClampNeg (I 291 17)) x1) 291 17)) x2) 291 17)) x3) 301 (Int32.toNatClampNeg ((qc_u (qc_u (qc_u I 298 (Int32.toNatClampNeg (I 291 17)) x1) 299 (Int32.toNatClampNeg ((qc_u I 298 (Int32.toNatClampNeg (I 291 17)) x1) 291 17)) x2) 300 (Int32.toNatClampNeg ((qc_u (qc_u I 298 (Int32.toNatClampNeg (I 291 17)) x1) 299 (Int32.toNatClampNeg ((qc_u I 298 (Int32.toNatClampNeg (I 291 17)) x1) 291 17)) x2) 291 17)) x3) 291 17)) x4) 291 17)) x5) 303 (Int32.toNatClampNeg ((qc_u (qc_u (qc_u (qc_u (qc_u I 298 (Int32.toNatClampNeg (I 291 17)) x1) 299 (Int32.toNatClampNeg ((qc_u I 298 (Int32.toNatClampNeg (I 291 17)) x1) 291 17)) x2) 300 (Int32.toNatClampNeg ((qc_u (qc_u I 298 (Int32.toNatClampNeg (I 291 17)) x1) 299 (Int32.toNatClampNeg ((qc_u I 298 (Int32.toNatClampNeg (I 291 17)) x1) 291 17)) x2) 291 17)) x3) 301 (Int32.toNatClampNeg ((qc_u (qc_u (qc_u I 298 (Int32.toNatClampNeg (I 291 17)) x1) 299 (Int32.toNatClampNeg ((qc_u I 298 (Int32.toNatClampNeg (I 291 17)) x1) 291 17)) x2) 300 (Int32.toNatClampNeg ((qc_u (qc_u I 298 (Int32.toNatClampNeg (I 291 17)) x1) 299 (Int32.toNatClampNeg ((qc_u I 298 (Int32.toNatClampNeg (I 291 17)) x1) 291 17)) x2) 291 17)) x3) 291 17)) x4) 302 (Int32.toNatClampNeg ((qc_u (qc_u (qc_u (qc_u I 298 (Int32.toNatClampNeg (I 291 17)) x1) 299 (Int32.toNatClampNeg ((qc_u I 298 (Int32.toNatClampNeg (I 291 17)) x1) 291 17)) x2) 300 (Int32.toNatClampNeg ((qc_u (qc_u I 298 (Int32.toNatClampNeg (I 291 17)) x1) 299 (Int32.toNatClampNeg ((qc_u I 298 (Int32.toNatClampNeg (I 291 17)) x1) 291 17)) x2) 291 17)) x3) 301 (Int32.toNatClampNeg ((qc_u (qc_u (qc_u I 298 (Int32.toNatClampNeg (I 291 17)) x1) 299 (Int32.toNatClampNeg ((qc_u I 298 (Int32.toNatClampNeg (I 291 17)) x1) 291 17)) x2) 300 (Int32.toNatClampNeg ((qc_u (qc_u I 298 (Int32.toNatClampNeg (I 291 17)) x1) 299 (Int32.toNatClampNeg ((qc_u I 298 (Int32.toNatClampNeg (I 291 17)) x1) 291 17)) x2) 291 17)) x3) 291 17)) x4) 291 17)) x5) 291 17)) x6) 291 17)) r8) 291 17) + (1 : Int32))), L8, D8, R8)) else (some ((0 : Int32), I, L, D, R)))
set_option maxRecDepth 100000 in
set_option maxHeartbeats 4000000 in
theorem tX12_node {w : qcW} {I : qTI} {L : qTL} {D : qTD} {R : qTR} {x1 : Int32} {x2 : Int32} {x3 : Int32} {x4 : Int32} {x5 : Int32} {x6 : Int32} {r : Int32} {I' : qTI} {L' : qTL} {D' : qTD} {R' : qTR} (hn : qcNF ≤ w.1) (hR : qc_FR R) (h : fX12_node w I L D R x1 x2 x3 x4 x5 x6 = some (r, I', L', D', R')) : qc_fm qcSM (I, L, D, R) (I', L', D', R') ∧ qc_V (2) 0 0 qmX12_node [.ref 291, .int x1, .int x2, .int x3, .int x4, .int x5, .int x6] w (I, L, D, R) (qc_eq (some (.int r)) w (I', L', D', R')) := by
  unfold fX12_node at h
  refine And.imp_right (fun hx => qc_V.of rfl rfl (Nat.le_of_ble_eq_true rfl) (lv := [(0, .ref 291), (1, .int x1), (2, .int x2), (3, .int x3), (4, .int x4), (5, .int x5), (6, .int x6)]) rfl hx) ?_
  refine And.imp_right (fun hx => qc_aload_n (qc_at qkX12_node 0 rfl) rfl <| qc_gI (qc_at qkX12_node 1 rfl) hn rfl <| hx) ?_
  refine qc_andC (qc_if_le (qc_at qkX12_node 2 rfl)) (fun u1 => ?_) (fun u1 => ?_)
  · replace h := qc_jp u1 h
    refine And.imp_right (fun hx => qc_aload_n (qc_at qkX12_node 5 rfl) rfl <| qc_gR (qc_at qkX12_node 6 rfl) hn rfl (qfr_291_18 hR) rfl <| qc_aload_n (qc_at qkX12_node 7 rfl) rfl <| qc_gI (qc_at qkX12_node 8 rfl) hn rfl <| qc_iload_n (qc_at qkX12_node 9 rfl) rfl <| hx) ?_
    obtain ⟨g2, h⟩ := qc_gd_of h
    refine qd_iast 420 (qc_at qkX12_node 10 rfl) hn rfl (qc_inb_in g2) rfl ?_
    refine And.imp_right (fun hx => qc_aload_n (qc_at qkX12_node 11 rfl) rfl <| qc_gR (qc_at qkX12_node 12 rfl) hn rfl (qfr_291_19 hR) rfl <| qc_aload_n (qc_at qkX12_node 13 rfl) rfl <| qc_gI (qc_at qkX12_node 14 rfl) hn rfl <| qc_iload_n (qc_at qkX12_node 15 rfl) rfl <| hx) ?_
    obtain ⟨g3, h⟩ := qc_gd_of h
    refine qd_iast 420 (qc_at qkX12_node 16 rfl) hn rfl (qc_inb_in g3) rfl ?_
    refine And.imp_right (fun hx => qc_aload_n (qc_at qkX12_node 17 rfl) rfl <| qc_gR (qc_at qkX12_node 18 rfl) hn rfl (qfr_291_20 hR) rfl <| qc_aload_n (qc_at qkX12_node 19 rfl) rfl <| qc_gI (qc_at qkX12_node 20 rfl) hn rfl <| qc_iload_n (qc_at qkX12_node 21 rfl) rfl <| hx) ?_
    obtain ⟨g4, h⟩ := qc_gd_of h
    refine qd_iast 420 (qc_at qkX12_node 22 rfl) hn rfl (qc_inb_in g4) rfl ?_
    refine And.imp_right (fun hx => qc_aload_n (qc_at qkX12_node 23 rfl) rfl <| qc_gR (qc_at qkX12_node 24 rfl) hn rfl (qfr_291_21 hR) rfl <| qc_aload_n (qc_at qkX12_node 25 rfl) rfl <| qc_gI (qc_at qkX12_node 26 rfl) hn rfl <| qc_iload (qc_at qkX12_node 27 rfl) rfl <| hx) ?_
    obtain ⟨g5, h⟩ := qc_gd_of h
    refine qd_iast 420 (qc_at qkX12_node 28 rfl) hn rfl (qc_inb_in g5) rfl ?_
    refine And.imp_right (fun hx => qc_aload_n (qc_at qkX12_node 29 rfl) rfl <| qc_gR (qc_at qkX12_node 30 rfl) hn rfl (qfr_291_22 hR) rfl <| qc_aload_n (qc_at qkX12_node 31 rfl) rfl <| qc_gI (qc_at qkX12_node 32 rfl) hn rfl <| qc_iload (qc_at qkX12_node 33 rfl) rfl <| hx) ?_
    obtain ⟨g6, h⟩ := qc_gd_of h
    refine qd_iast 420 (qc_at qkX12_node 34 rfl) hn rfl (qc_inb_in g6) rfl ?_
    refine And.imp_right (fun hx => qc_aload_n (qc_at qkX12_node 35 rfl) rfl <| qc_gR (qc_at qkX12_node 36 rfl) hn rfl (qfr_291_23 hR) rfl <| qc_aload_n (qc_at qkX12_node 37 rfl) rfl <| qc_gI (qc_at qkX12_node 38 rfl) hn rfl <| qc_iload (qc_at qkX12_node 39 rfl) rfl <| hx) ?_
    obtain ⟨g7, h⟩ := qc_gd_of h
    refine qd_iast 420 (qc_at qkX12_node 40 rfl) hn rfl (qc_inb_in g7) rfl ?_
    refine And.imp_right (fun hx => qc_aload_n (qc_at qkX12_node 41 rfl) rfl <| qc_gR (qc_at qkX12_node 42 rfl) hn rfl (qfr_291_24 hR) rfl <| qc_aload_n (qc_at qkX12_node 43 rfl) rfl <| qc_gI (qc_at qkX12_node 44 rfl) hn rfl <| qc_aload_n (qc_at qkX12_node 45 rfl) rfl <| qc_iload_n (qc_at qkX12_node 46 rfl) rfl <| qc_iload_n (qc_at qkX12_node 47 rfl) rfl <| qc_iload_n (qc_at qkX12_node 48 rfl) rfl <| qc_iload (qc_at qkX12_node 49 rfl) rfl <| hx) ?_
    obtain ⟨r8, I8, L8, D8, R8, e8, h⟩ := qc_bd_of h
    have c8 := (tX12_needOf hn hR e8)
    refine qd_cVv (ci := 10) (a0 := 291) (qc_at qkX12_node 50 rfl) ql_12_310 qfX12_needOf (qc_kf hn rfl) rfl c8 rfl rfl (Nat.le_of_ble_eq_true rfl) (qc_rml (by decide) (by decide)) ⟨Nat.zero_le _, Nat.zero_le _⟩ ?_
    obtain ⟨g9, h⟩ := qc_gd_of h
    refine qd_iast 420 (qc_at qkX12_node 51 rfl) hn rfl (qc_inb_in g9) rfl ?_
    refine And.imp_right (fun hx => qc_aload_n (qc_at qkX12_node 52 rfl) rfl <| qc_dup (qc_at qkX12_node 53 rfl) rfl <| qc_gI (qc_at qkX12_node 54 rfl) hn rfl <| qc_iconst (qc_at qkX12_node 55 rfl) <| qc_iadd (qc_at qkX12_node 56 rfl) <| hx) (qd_pI (qc_at qkX12_node 57 rfl) hn rfl rfl ?_)
    obtain ⟨rfl, rfl, rfl, rfl, rfl⟩ := qc_some5 h
    exact ⟨qc_fm.rf _, qc_aload_n (qc_at qkX12_node 58 rfl) rfl <| qc_gI (qc_at qkX12_node 59 rfl) hn rfl <| qc_iconst (qc_at qkX12_node 60 rfl) <| qc_isub (qc_at qkX12_node 61 rfl) <| qc_iret (qc_at qkX12_node 62 rfl) rfl (Nat.le_refl _) (Nat.le_refl _) (qc_eq.rf _ _ _)⟩
  · replace h := qc_jn u1 h
    obtain ⟨rfl, rfl, rfl, rfl, rfl⟩ := qc_some5 h
    exact ⟨qc_fm.rf _, qc_iconst (qc_at qkX12_node 3 rfl) <| qc_iret (qc_at qkX12_node 4 rfl) rfl (Nat.le_refl _) (Nat.le_refl _) (qc_eq.rf _ _ _)⟩
def fX12_opens_b25 (w : qcW) (I : qTI) (L : qTL) (D : qTD) (R : qTR) : qcO Unit :=
  (some ((), (qc_u I 291 25 ((I 291 25) + (1 : Int32))), L, D, R))
set_option maxRecDepth 100000 in
set_option maxHeartbeats 4000000 in
theorem tX12_opens_b25 {w : qcW} {I : qTI} {L : qTL} {D : qTD} {R : qTR} {r : Unit} {I' : qTI} {L' : qTL} {D' : qTD} {R' : qTR} (hn : qcNF ≤ w.1) (hR : qc_FR R) (h : fX12_opens_b25 w I L D R = some (r, I', L', D', R')) : qc_fm qcSM (I, L, D, R) (I', L', D', R') ∧ qc_X (qc_rm (1) 0 0) qmX12_opens (qc_QM 0 0 (qc_eq none w (I', L', D', R'))) 0 0 w (25, [(0, .ref 291)], [], I, L, D, R) := by
  unfold fX12_opens_b25 at h
  refine And.imp_right (fun hx => qc_aload_n (qc_at qkX12_opens 12 rfl) rfl <| qc_dup (qc_at qkX12_opens 13 rfl) rfl <| qc_gI (qc_at qkX12_opens 14 rfl) hn rfl <| qc_iconst (qc_at qkX12_opens 15 rfl) <| qc_iadd (qc_at qkX12_opens 16 rfl) <| hx) (qd_pI (qc_at qkX12_opens 17 rfl) hn rfl rfl ?_)
  obtain ⟨rfl, rfl, rfl, rfl, rfl⟩ := qc_some5 h
  exact ⟨qc_fm.rf _, qc_vret (qc_at qkX12_opens 18 rfl) rfl (Nat.le_refl _) (Nat.le_refl _) (qc_eq.rf _ _ _)⟩
def fX12_opens (w : qcW) (I : qTI) (L : qTL) (D : qTD) (R : qTR) : qcO Unit :=
  (if (I 291 15) = 0 then (if (I 291 25) = (12 : Int32) then (qc_bd (fX12_fail w I L D R (3 : Int32) (I 291 10)) fun r3 I3 L3 D3 R3 => fX12_opens_b25 w I3 L3 D3 R3) else (fX12_opens_b25 w I L D R)) else (fX12_opens_b25 w I L D R))
set_option maxRecDepth 100000 in
set_option maxHeartbeats 4000000 in
theorem tX12_opens {w : qcW} {I : qTI} {L : qTL} {D : qTD} {R : qTR} {r : Unit} {I' : qTI} {L' : qTL} {D' : qTD} {R' : qTR} (hn : qcNF ≤ w.1) (hR : qc_FR R) (h : fX12_opens w I L D R = some (r, I', L', D', R')) : qc_fm qcSM (I, L, D, R) (I', L', D', R') ∧ qc_V (1) 0 0 qmX12_opens [.ref 291] w (I, L, D, R) (qc_eq none w (I', L', D', R')) := by
  unfold fX12_opens at h
  refine And.imp_right (fun hx => qc_V.of rfl rfl (Nat.le_of_ble_eq_true rfl) (lv := [(0, .ref 291)]) rfl hx) ?_
  refine And.imp_right (fun hx => qc_aload_n (qc_at qkX12_opens 0 rfl) rfl <| qc_gI (qc_at qkX12_opens 1 rfl) hn rfl <| hx) ?_
  refine qc_andN (qc_if_ne (qc_at qkX12_opens 2 rfl)) (fun u1 => ?_) (fun u1 => ?_)
  · replace h := qc_jn u1 h
    exact And.imp_right (fun hx => qc_sub [0] rfl hx) (tX12_opens_b25 hn hR h)
  · replace h := qc_jp u1 h
    refine And.imp_right (fun hx => qc_aload_n (qc_at qkX12_opens 3 rfl) rfl <| qc_gI (qc_at qkX12_opens 4 rfl) hn rfl <| qc_bipush (qc_at qkX12_opens 5 rfl) <| hx) ?_
    refine qc_andN (qc_icmp_ne (qc_at qkX12_opens 6 rfl)) (fun u2 => ?_) (fun u2 => ?_)
    · replace h := qc_jn u2 h
      exact And.imp_right (fun hx => qc_sub [0] rfl hx) (tX12_opens_b25 hn hR h)
    · replace h := qc_jp u2 h
      refine And.imp_right (fun hx => qc_aload_n (qc_at qkX12_opens 7 rfl) rfl <| qc_iconst (qc_at qkX12_opens 8 rfl) <| qc_aload_n (qc_at qkX12_opens 9 rfl) rfl <| qc_gI (qc_at qkX12_opens 10 rfl) hn rfl <| hx) ?_
      obtain ⟨r3, I3, L3, D3, R3, e3, h⟩ := qc_bd_of h
      have c3 := (tX12_fail hn hR e3)
      refine qd_cVn (ci := 10) (a0 := 291) (qc_at qkX12_opens 11 rfl) ql_12_268 qfX12_fail (qc_kf hn rfl) rfl c3 rfl rfl (Nat.le_of_ble_eq_true rfl) (qc_rml (by decide) (by decide)) ⟨Nat.zero_le _, Nat.zero_le _⟩ ?_
      exact And.imp_right (fun hx => qc_sub [0] rfl hx) (tX12_opens_b25 hn (c3.1.1 hR) h)
def fX12_isNumber (w : qcW) (I : qTI) (L : qTL) (D : qTD) (R : qTR) (x0 : Int32) : qcO Bool :=
  (if x0 ≤ 0 then (some (false, I, L, D, R)) else (some (true, I, L, D, R)))
set_option maxRecDepth 100000 in
set_option maxHeartbeats 4000000 in
theorem tX12_isNumber {w : qcW} {I : qTI} {L : qTL} {D : qTD} {R : qTR} {x0 : Int32} {r : Bool} {I' : qTI} {L' : qTL} {D' : qTD} {R' : qTR} (hn : qcNF ≤ w.1) (hR : qc_FR R) (h : fX12_isNumber w I L D R x0 = some (r, I', L', D', R')) : qc_fm qcSM (I, L, D, R) (I', L', D', R') ∧ qc_V (0) 0 0 qmX12_isNumber [.int x0] w (I, L, D, R) (qc_eq (some (.int (qc_b r))) w (I', L', D', R')) := by
  unfold fX12_isNumber at h
  refine And.imp_right (fun hx => qc_V.of rfl rfl (Nat.le_of_ble_eq_true rfl) (lv := [(0, .int x0)]) rfl hx) ?_
  refine And.imp_right (fun hx => qc_iload_n (qc_at qkX12_isNumber 0 rfl) rfl <| hx) ?_
  refine qc_andC (qc_if_le (qc_at qkX12_isNumber 1 rfl)) (fun u1 => ?_) (fun u1 => ?_)
  · replace h := qc_jp u1 h
    obtain ⟨rfl, rfl, rfl, rfl, rfl⟩ := qc_some5 h
    exact ⟨qc_fm.rf _, qc_iconst (qc_at qkX12_isNumber 4 rfl) <| qc_zret (qc_at qkX12_isNumber 5 rfl) rfl (Or.inl rfl) (Nat.le_refl _) (Nat.le_refl _) ⟨rfl, rfl, rfl⟩⟩
  · replace h := qc_jn u1 h
    obtain ⟨rfl, rfl, rfl, rfl, rfl⟩ := qc_some5 h
    exact ⟨qc_fm.rf _, qc_iconst (qc_at qkX12_isNumber 2 rfl) <| qc_goto (qc_at qkX12_isNumber 3 rfl) <| qc_zret (qc_at qkX12_isNumber 5 rfl) rfl (Or.inr rfl) (Nat.le_refl _) (Nat.le_refl _) ⟨rfl, rfl, rfl⟩⟩
def fX12_isWhole (w : qcW) (I : qTI) (L : qTL) (D : qTD) (R : qTR) (x0 : Int32) : qcO Bool :=
  (if x0 = (1 : Int32) then (some (true, I, L, D, R)) else (if x0 = (2 : Int32) then (some (true, I, L, D, R)) else (some (false, I, L, D, R))))
set_option maxRecDepth 100000 in
set_option maxHeartbeats 4000000 in
theorem tX12_isWhole {w : qcW} {I : qTI} {L : qTL} {D : qTD} {R : qTR} {x0 : Int32} {r : Bool} {I' : qTI} {L' : qTL} {D' : qTD} {R' : qTR} (hn : qcNF ≤ w.1) (hR : qc_FR R) (h : fX12_isWhole w I L D R x0 = some (r, I', L', D', R')) : qc_fm qcSM (I, L, D, R) (I', L', D', R') ∧ qc_V (0) 0 0 qmX12_isWhole [.int x0] w (I, L, D, R) (qc_eq (some (.int (qc_b r))) w (I', L', D', R')) := by
  unfold fX12_isWhole at h
  refine And.imp_right (fun hx => qc_V.of rfl rfl (Nat.le_of_ble_eq_true rfl) (lv := [(0, .int x0)]) rfl hx) ?_
  refine And.imp_right (fun hx => qc_iload_n (qc_at qkX12_isWhole 0 rfl) rfl <| qc_iconst (qc_at qkX12_isWhole 1 rfl) <| hx) ?_
  refine qc_andC (qc_icmp_eq (qc_at qkX12_isWhole 2 rfl)) (fun u1 => ?_) (fun u1 => ?_)
  · replace h := qc_jp u1 h
    obtain ⟨rfl, rfl, rfl, rfl, rfl⟩ := qc_some5 h
    exact ⟨qc_fm.rf _, qc_iconst (qc_at qkX12_isWhole 6 rfl) <| qc_goto (qc_at qkX12_isWhole 7 rfl) <| qc_zret (qc_at qkX12_isWhole 9 rfl) rfl (Or.inr rfl) (Nat.le_refl _) (Nat.le_refl _) ⟨rfl, rfl, rfl⟩⟩
  · replace h := qc_jn u1 h
    refine And.imp_right (fun hx => qc_iload_n (qc_at qkX12_isWhole 3 rfl) rfl <| qc_iconst (qc_at qkX12_isWhole 4 rfl) <| hx) ?_
    refine qc_andN (qc_icmp_ne (qc_at qkX12_isWhole 5 rfl)) (fun u2 => ?_) (fun u2 => ?_)
    · replace h := qc_jn u2 h
      obtain ⟨rfl, rfl, rfl, rfl, rfl⟩ := qc_some5 h
      exact ⟨qc_fm.rf _, qc_iconst (qc_at qkX12_isWhole 8 rfl) <| qc_zret (qc_at qkX12_isWhole 9 rfl) rfl (Or.inl rfl) (Nat.le_refl _) (Nat.le_refl _) ⟨rfl, rfl, rfl⟩⟩
    · replace h := qc_jp u2 h
      obtain ⟨rfl, rfl, rfl, rfl, rfl⟩ := qc_some5 h
      exact ⟨qc_fm.rf _, qc_iconst (qc_at qkX12_isWhole 6 rfl) <| qc_goto (qc_at qkX12_isWhole 7 rfl) <| qc_zret (qc_at qkX12_isWhole 9 rfl) rfl (Or.inr rfl) (Nat.le_refl _) (Nat.le_refl _) ⟨rfl, rfl, rfl⟩⟩
def fX12_later (w : qcW) (I : qTI) (L : qTL) (D : qTD) (R : qTR) (x0 : Int32) (x1 : Int32) : qcO Int32 :=
  (if x0 ≤ x1 then (some (x1, I, L, D, R)) else (some (x0, I, L, D, R)))
set_option maxRecDepth 100000 in
set_option maxHeartbeats 4000000 in
theorem tX12_later {w : qcW} {I : qTI} {L : qTL} {D : qTD} {R : qTR} {x0 : Int32} {x1 : Int32} {r : Int32} {I' : qTI} {L' : qTL} {D' : qTD} {R' : qTR} (hn : qcNF ≤ w.1) (hR : qc_FR R) (h : fX12_later w I L D R x0 x1 = some (r, I', L', D', R')) : qc_fm qcSM (I, L, D, R) (I', L', D', R') ∧ qc_V (0) 0 0 qmX12_later [.int x0, .int x1] w (I, L, D, R) (qc_eq (some (.int r)) w (I', L', D', R')) := by
  unfold fX12_later at h
  refine And.imp_right (fun hx => qc_V.of rfl rfl (Nat.le_of_ble_eq_true rfl) (lv := [(0, .int x0), (1, .int x1)]) rfl hx) ?_
  refine And.imp_right (fun hx => qc_iload_n (qc_at qkX12_later 0 rfl) rfl <| qc_iload_n (qc_at qkX12_later 1 rfl) rfl <| hx) ?_
  refine qc_andC (qc_icmp_le (qc_at qkX12_later 2 rfl)) (fun u1 => ?_) (fun u1 => ?_)
  · replace h := qc_jp u1 h
    obtain ⟨rfl, rfl, rfl, rfl, rfl⟩ := qc_some5 h
    exact ⟨qc_fm.rf _, qc_iload_n (qc_at qkX12_later 5 rfl) rfl <| qc_iret (qc_at qkX12_later 6 rfl) rfl (Nat.le_refl _) (Nat.le_refl _) (qc_eq.rf _ _ _)⟩
  · replace h := qc_jn u1 h
    obtain ⟨rfl, rfl, rfl, rfl, rfl⟩ := qc_some5 h
    exact ⟨qc_fm.rf _, qc_iload_n (qc_at qkX12_later 3 rfl) rfl <| qc_goto (qc_at qkX12_later 4 rfl) <| qc_iret (qc_at qkX12_later 6 rfl) rfl (Nat.le_refl _) (Nat.le_refl _) (qc_eq.rf _ _ _)⟩
def fX12_lay (w : qcW) (I : qTI) (L : qTL) (D : qTD) (R : qTR) (x1 : Int32) : qcO Unit :=
  (qc_gd (qc_inb (I 291 32) 420) <| some ((), (qc_u (qc_u I 309 (Int32.toNatClampNeg (I 291 32)) x1) 291 32 (((qc_u I 309 (Int32.toNatClampNeg (I 291 32)) x1) 291 32) + (1 : Int32))), L, D, R))
set_option maxRecDepth 100000 in
set_option maxHeartbeats 4000000 in
theorem tX12_lay {w : qcW} {I : qTI} {L : qTL} {D : qTD} {R : qTR} {x1 : Int32} {r : Unit} {I' : qTI} {L' : qTL} {D' : qTD} {R' : qTR} (hn : qcNF ≤ w.1) (hR : qc_FR R) (h : fX12_lay w I L D R x1 = some (r, I', L', D', R')) : qc_fm qcSM (I, L, D, R) (I', L', D', R') ∧ qc_V (0) 0 0 qmX12_lay [.ref 291, .int x1] w (I, L, D, R) (qc_eq none w (I', L', D', R')) := by
  unfold fX12_lay at h
  refine And.imp_right (fun hx => qc_V.of rfl rfl (Nat.le_of_ble_eq_true rfl) (lv := [(0, .ref 291), (1, .int x1)]) rfl hx) ?_
  refine And.imp_right (fun hx => qc_aload_n (qc_at qkX12_lay 0 rfl) rfl <| qc_gR (qc_at qkX12_lay 1 rfl) hn rfl (qfr_291_33 hR) rfl <| qc_aload_n (qc_at qkX12_lay 2 rfl) rfl <| qc_gI (qc_at qkX12_lay 3 rfl) hn rfl <| qc_iload_n (qc_at qkX12_lay 4 rfl) rfl <| hx) ?_
  obtain ⟨g1, h⟩ := qc_gd_of h
  refine qd_iast 420 (qc_at qkX12_lay 5 rfl) hn rfl (qc_inb_in g1) rfl ?_
  refine And.imp_right (fun hx => qc_aload_n (qc_at qkX12_lay 6 rfl) rfl <| qc_dup (qc_at qkX12_lay 7 rfl) rfl <| qc_gI (qc_at qkX12_lay 8 rfl) hn rfl <| qc_iconst (qc_at qkX12_lay 9 rfl) <| qc_iadd (qc_at qkX12_lay 10 rfl) <| hx) (qd_pI (qc_at qkX12_lay 11 rfl) hn rfl rfl ?_)
  obtain ⟨rfl, rfl, rfl, rfl, rfl⟩ := qc_some5 h
  exact ⟨qc_fm.rf _, qc_vret (qc_at qkX12_lay 12 rfl) rfl (Nat.le_refl _) (Nat.le_refl _) (qc_eq.rf _ _ _)⟩
def fX12_taken (w : qcW) (I : qTI) (L : qTL) (D : qTD) (R : qTR) : qcO Int32 :=
  (qc_gd (qc_inb ((qc_u I 291 32 ((I 291 32) - (1 : Int32))) 291 32) 420) <| some (((qc_u I 291 32 ((I 291 32) - (1 : Int32))) 309 (Int32.toNatClampNeg ((qc_u I 291 32 ((I 291 32) - (1 : Int32))) 291 32))), (qc_u I 291 32 ((I 291 32) - (1 : Int32))), L, D, R))
set_option maxRecDepth 100000 in
set_option maxHeartbeats 4000000 in
theorem tX12_taken {w : qcW} {I : qTI} {L : qTL} {D : qTD} {R : qTR} {r : Int32} {I' : qTI} {L' : qTL} {D' : qTD} {R' : qTR} (hn : qcNF ≤ w.1) (hR : qc_FR R) (h : fX12_taken w I L D R = some (r, I', L', D', R')) : qc_fm qcSM (I, L, D, R) (I', L', D', R') ∧ qc_V (0) 0 0 qmX12_taken [.ref 291] w (I, L, D, R) (qc_eq (some (.int r)) w (I', L', D', R')) := by
  unfold fX12_taken at h
  refine And.imp_right (fun hx => qc_V.of rfl rfl (Nat.le_of_ble_eq_true rfl) (lv := [(0, .ref 291)]) rfl hx) ?_
  refine And.imp_right (fun hx => qc_aload_n (qc_at qkX12_taken 0 rfl) rfl <| qc_dup (qc_at qkX12_taken 1 rfl) rfl <| qc_gI (qc_at qkX12_taken 2 rfl) hn rfl <| qc_iconst (qc_at qkX12_taken 3 rfl) <| qc_isub (qc_at qkX12_taken 4 rfl) <| hx) (qd_pI (qc_at qkX12_taken 5 rfl) hn rfl rfl ?_)
  refine And.imp_right (fun hx => qc_aload_n (qc_at qkX12_taken 6 rfl) rfl <| qc_gR (qc_at qkX12_taken 7 rfl) hn rfl (qfr_291_33 hR) rfl <| qc_aload_n (qc_at qkX12_taken 8 rfl) rfl <| qc_gI (qc_at qkX12_taken 9 rfl) hn rfl <| hx) ?_
  obtain ⟨g1, h⟩ := qc_gd_of h
  obtain ⟨rfl, rfl, rfl, rfl, rfl⟩ := qc_some5 h
  exact ⟨qc_fm.rf _, qc_iald 420 (qc_at qkX12_taken 10 rfl) hn rfl (qc_inb_in g1) <| qc_iret (qc_at qkX12_taken 11 rfl) rfl (Nat.le_refl _) (Nat.le_refl _) (qc_eq.rf _ _ _)⟩
def fX12_frame (w : qcW) (I : qTI) (L : qTL) (D : qTD) (R : qTR) (x1 : Int32) (x2 : Int32) (x3 : Int32) (x4 : Int32) : qcO Unit :=
  (qc_gd (qc_inb (I 291 34) 40) <| qc_gd (qc_inb ((qc_u I 310 (Int32.toNatClampNeg (I 291 34)) x1) 291 34) 40) <| qc_gd (qc_inb ((qc_u (qc_u I 310 (Int32.toNatClampNeg (I 291 34)) x1) 311 (Int32.toNatClampNeg ((qc_u I 310 (Int32.toNatClampNeg (I 291 34)) x1) 291 34)) ((qc_u I 310 (Int32.toNatClampNeg (I 291 34)) x1) 291 28)) 291 34) 40) <| qc_gd (qc_inb ((qc_u (qc_u (qc_u I 310 (Int32.toNatClampNeg (I 291 34)) x1) 311 (Int32.toNatClampNeg ((qc_u I 310 (Int32.toNatClampNeg (I 291 34)) x1) 291 34)) ((qc_u I 310 (Int32.toNatClampNeg (I 291 34)) x1) 291 28)) 312 (Int32.toNatClampNeg ((qc_u (qc_u I 310 (Int32.toNatClampNeg (I 291 34)) x1) 311 (Int32.toNatClampNeg ((qc_u I 310 (Int32.toNatClampNeg (I 291 34)) x1) 291 34)) ((qc_u I 310 (Int32.toNatClampNeg (I 291 34)) x1) 291 28)) 291 34)) x2) 291 34) 40) <| qc_gd (qc_inb ((qc_u (qc_u (qc_u (qc_u I 310 (Int32.toNatClampNeg (I 291 34)) x1) 311 (Int32.toNatClampNeg ((qc_u I 310 (Int32.toNatClampNeg (I 291 34)) x1) 291 34)) ((qc_u I 310 (Int32.toNatClampNeg (I 291 34)) x1) 291 28)) 312 (Int32.toNatClampNeg ((qc_u (qc_u I 310 (Int32.toNatClampNeg (I 291 34)) x1) 311 (Int32.toNatClampNeg ((qc_u I 310 (Int32.toNatClampNeg (I 291 34)) x1) 291 34)) ((qc_u I 310 (Int32.toNatClampNeg (I 291 34)) x1) 291 28)) 291 34)) x2) 313 (Int32.toNatClampNeg ((qc_u (qc_u (qc_u I 310 (Int32.toNatClampNeg (I 291 34)) x1) 311 (Int32.toNatClampNeg ((qc_u I 310 (Int32.toNatClampNeg (I 291 34)) x1) 291 34)) ((qc_u I 310 (Int32.toNatClampNeg (I 291 34)) x1) 291 28)) 312 (Int32.toNatClampNeg ((qc_u (qc_u I 310 (Int32.toNatClampNeg (I 291 34)) x1) 311 (Int32.toNatClampNeg ((qc_u I 310 (Int32.toNatClampNeg (I 291 34)) x1) 291 34)) ((qc_u I 310 (Int32.toNatClampNeg (I 291 34)) x1) 291 28)) 291 34)) x2) 291 34)) x3) 291 34) 40) <| some ((), (qc_u (qc_u (qc_u (qc_u (qc_u (qc_u I 310 (Int32.toNatClampNeg (I 291 34)) x1) 311 (Int32.toNatClampNeg ((qc_u I 310 (Int32.toNatClampNeg (I 291 34)) x1) 291 34)) ((qc_u I 310 (Int32.toNatClampNeg (I 291 34)) x1) 291 28)) 312 (Int32.toNatClampNeg ((qc_u (qc_u I 310 (Int32.toNatClampNeg (I 291 34)) x1) 311 (Int32.toNatClampNeg ((qc_u I 310 (Int32.toNatClampNeg (I 291 34)) x1) 291 34)) ((qc_u I 310 (Int32.toNatClampNeg (I 291 34)) x1) 291 28)) 291 34)) x2) 313 (Int32.toNatClampNeg ((qc_u (qc_u (qc_u I 310 (Int32.toNatClampNeg (I 291 34)) x1) 311 (Int32.toNatClampNeg ((qc_u I 310 (Int32.toNatClampNeg (I 291 34)) x1) 291 34)) ((qc_u I 310 (Int32.toNatClampNeg (I 291 34)) x1) 291 28)) 312 (Int32.toNatClampNeg ((qc_u (qc_u I 310 (Int32.toNatClampNeg (I 291 34)) x1) 311 (Int32.toNatClampNeg ((qc_u I 310 (Int32.toNatClampNeg (I 291 34)) x1) 291 34)) ((qc_u I 310 (Int32.toNatClampNeg (I 291 34)) x1) 291 28)) 291 34)) x2) 291 34)) x3) 314 (Int32.toNatClampNeg ((qc_u (qc_u (qc_u (qc_u I 310 (Int32.toNatClampNeg (I 291 34)) x1) 311 (Int32.toNatClampNeg ((qc_u I 310 (Int32.toNatClampNeg (I 291 34)) x1) 291 34)) ((qc_u I 310 (Int32.toNatClampNeg (I 291 34)) x1) 291 28)) 312 (Int32.toNatClampNeg ((qc_u (qc_u I 310 (Int32.toNatClampNeg (I 291 34)) x1) 311 (Int32.toNatClampNeg ((qc_u I 310 (Int32.toNatClampNeg (I 291 34)) x1) 291 34)) ((qc_u I 310 (Int32.toNatClampNeg (I 291 34)) x1) 291 28)) 291 34)) x2) 313 (Int32.toNatClampNeg ((qc_u (qc_u (qc_u I 310 (Int32.toNatClampNeg (I 291 34)) x1) 311 (Int32.toNatClampNeg ((qc_u I 310 (Int32.toNatClampNeg (I 291 34)) x1) 291 34)) ((qc_u I 310 (Int32.toNatClampNeg (I 291 34)) x1) 291 28)) 312 (Int32.toNatClampNeg ((qc_u (qc_u I 310 (Int32.toNatClampNeg (I 291 34)) x1) 311 (Int32.toNatClampNeg ((qc_u I 310 (Int32.toNatClampNeg (I 291 34)) x1) 291 34)) ((qc_u I 310 (Int32.toNatClampNeg (I 291 34)) x1) 291 28)) 291 34)) x2) 291 34)) x3) 291 34)) x4) 291 34 (((qc_u (qc_u (qc_u (qc_u (qc_u I 310 (Int32.toNatClampNeg (I 291 34)) x1) 311 (Int32.toNatClampNeg ((qc_u I 310 (Int32.toNatClampNeg (I 291 34)) x1) 291 34)) ((qc_u I 310 (Int32.toNatClampNeg (I 291 34)) x1) 291 28)) 312 (Int32.toNatClampNeg ((qc_u (qc_u I 310 (Int32.toNatClampNeg (I 291 34)) x1) 311 (Int32.toNatClampNeg ((qc_u I 310 (Int32.toNatClampNeg (I 291 34)) x1) 291 34)) ((qc_u I 310 (Int32.toNatClampNeg (I 291 34)) x1) 291 28)) 291 34)) x2) 313 (Int32.toNatClampNeg ((qc_u (qc_u (qc_u I 310 (Int32.toNatClampNeg (I 291 34)) x1) 311 (Int32.toNatClampNeg ((qc_u I 310 (Int32.toNatClampNeg (I 291 34)) x1) 291 34)) ((qc_u I 310 (Int32.toNatClampNeg (I 291 34)) x1) 291 28)) 312 (Int32.toNatClampNeg ((qc_u (qc_u I 310 (Int32.toNatClampNeg (I 291 34)) x1) 311 (Int32.toNatClampNeg ((qc_u I 310 (Int32.toNatClampNeg (I 291 34)) x1) 291 34)) ((qc_u I 310 (Int32.toNatClampNeg (I 291 34)) x1) 291 28)) 291 34)) x2) 291 34)) x3) 314 (Int32.toNatClampNeg ((qc_u (qc_u (qc_u (qc_u I 310 (Int32.toNatClampNeg (I 291 34)) x1) 311 (Int32.toNatClampNeg ((qc_u I 310 (Int32.toNatClampNeg (I 291 34)) x1) 291 34)) ((qc_u I 310 (Int32.toNatClampNeg (I 291 34)) x1) 291 28)) 312 (Int32.toNatClampNeg ((qc_u (qc_u I 310 (Int32.toNatClampNeg (I 291 34)) x1) 311 (Int32.toNatClampNeg ((qc_u I 310 (Int32.toNatClampNeg (I 291 34)) x1) 291 34)) ((qc_u I 310 (Int32.toNatClampNeg (I 291 34)) x1) 291 28)) 291 34)) x2) 313 (Int32.toNatClampNeg ((qc_u (qc_u (qc_u I 310 (Int32.toNatClampNeg (I 291 34)) x1) 311 (Int32.toNatClampNeg ((qc_u I 310 (Int32.toNatClampNeg (I 291 34)) x1) 291 34)) ((qc_u I 310 (Int32.toNatClampNeg (I 291 34)) x1) 291 28)) 312 (Int32.toNatClampNeg ((qc_u (qc_u I 310 (Int32.toNatClampNeg (I 291 34)) x1) 311 (Int32.toNatClampNeg ((qc_u I 310 (Int32.toNatClampNeg (I 291 34)) x1) 291 34)) ((qc_u I 310 (Int32.toNatClampNeg (I 291 34)) x1) 291 28)) 291 34)) x2) 291 34)) x3) 291 34)) x4) 291 34) + (1 : Int32))), L, D, R))
set_option maxRecDepth 100000 in
set_option maxHeartbeats 4000000 in
theorem tX12_frame {w : qcW} {I : qTI} {L : qTL} {D : qTD} {R : qTR} {x1 : Int32} {x2 : Int32} {x3 : Int32} {x4 : Int32} {r : Unit} {I' : qTI} {L' : qTL} {D' : qTD} {R' : qTR} (hn : qcNF ≤ w.1) (hR : qc_FR R) (h : fX12_frame w I L D R x1 x2 x3 x4 = some (r, I', L', D', R')) : qc_fm qcSM (I, L, D, R) (I', L', D', R') ∧ qc_V (0) 0 0 qmX12_frame [.ref 291, .int x1, .int x2, .int x3, .int x4] w (I, L, D, R) (qc_eq none w (I', L', D', R')) := by
  unfold fX12_frame at h
  refine And.imp_right (fun hx => qc_V.of rfl rfl (Nat.le_of_ble_eq_true rfl) (lv := [(0, .ref 291), (1, .int x1), (2, .int x2), (3, .int x3), (4, .int x4)]) rfl hx) ?_
  refine And.imp_right (fun hx => qc_aload_n (qc_at qkX12_frame 0 rfl) rfl <| qc_gR (qc_at qkX12_frame 1 rfl) hn rfl (qfr_291_35 hR) rfl <| qc_aload_n (qc_at qkX12_frame 2 rfl) rfl <| qc_gI (qc_at qkX12_frame 3 rfl) hn rfl <| qc_iload_n (qc_at qkX12_frame 4 rfl) rfl <| hx) ?_
  obtain ⟨g1, h⟩ := qc_gd_of h
  refine qd_iast 40 (qc_at qkX12_frame 5 rfl) hn rfl (qc_inb_in g1) rfl ?_
  refine And.imp_right (fun hx => qc_aload_n (qc_at qkX12_frame 6 rfl) rfl <| qc_gR (qc_at qkX12_frame 7 rfl) hn rfl (qfr_291_36 hR) rfl <| qc_aload_n (qc_at qkX12_frame 8 rfl) rfl <| qc_gI (qc_at qkX12_frame 9 rfl) hn rfl <| qc_aload_n (qc_at qkX12_frame 10 rfl) rfl <| qc_gI (qc_at qkX12_frame 11 rfl) hn rfl <| hx) ?_
  obtain ⟨g2, h⟩ := qc_gd_of h
  refine qd_iast 40 (qc_at qkX12_frame 12 rfl) hn rfl (qc_inb_in g2) rfl ?_
  refine And.imp_right (fun hx => qc_aload_n (qc_at qkX12_frame 13 rfl) rfl <| qc_gR (qc_at qkX12_frame 14 rfl) hn rfl (qfr_291_37 hR) rfl <| qc_aload_n (qc_at qkX12_frame 15 rfl) rfl <| qc_gI (qc_at qkX12_frame 16 rfl) hn rfl <| qc_iload_n (qc_at qkX12_frame 17 rfl) rfl <| hx) ?_
  obtain ⟨g3, h⟩ := qc_gd_of h
  refine qd_iast 40 (qc_at qkX12_frame 18 rfl) hn rfl (qc_inb_in g3) rfl ?_
  refine And.imp_right (fun hx => qc_aload_n (qc_at qkX12_frame 19 rfl) rfl <| qc_gR (qc_at qkX12_frame 20 rfl) hn rfl (qfr_291_38 hR) rfl <| qc_aload_n (qc_at qkX12_frame 21 rfl) rfl <| qc_gI (qc_at qkX12_frame 22 rfl) hn rfl <| qc_iload_n (qc_at qkX12_frame 23 rfl) rfl <| hx) ?_
  obtain ⟨g4, h⟩ := qc_gd_of h
  refine qd_iast 40 (qc_at qkX12_frame 24 rfl) hn rfl (qc_inb_in g4) rfl ?_
  refine And.imp_right (fun hx => qc_aload_n (qc_at qkX12_frame 25 rfl) rfl <| qc_gR (qc_at qkX12_frame 26 rfl) hn rfl (qfr_291_39 hR) rfl <| qc_aload_n (qc_at qkX12_frame 27 rfl) rfl <| qc_gI (qc_at qkX12_frame 28 rfl) hn rfl <| qc_iload (qc_at qkX12_frame 29 rfl) rfl <| hx) ?_
  obtain ⟨g5, h⟩ := qc_gd_of h
  refine qd_iast 40 (qc_at qkX12_frame 30 rfl) hn rfl (qc_inb_in g5) rfl ?_
  refine And.imp_right (fun hx => qc_aload_n (qc_at qkX12_frame 31 rfl) rfl <| qc_dup (qc_at qkX12_frame 32 rfl) rfl <| qc_gI (qc_at qkX12_frame 33 rfl) hn rfl <| qc_iconst (qc_at qkX12_frame 34 rfl) <| qc_iadd (qc_at qkX12_frame 35 rfl) <| hx) (qd_pI (qc_at qkX12_frame 36 rfl) hn rfl rfl ?_)
  obtain ⟨rfl, rfl, rfl, rfl, rfl⟩ := qc_some5 h
  exact ⟨qc_fm.rf _, qc_vret (qc_at qkX12_frame 37 rfl) rfl (Nat.le_refl _) (Nat.le_refl _) (qc_eq.rf _ _ _)⟩
def fX12_joint (w : qcW) (I : qTI) (L : qTL) (D : qTD) (R : qTR) (x1 : Int32) (x2 : Int32) : qcO Unit :=
  (qc_gd (qc_inb (I 291 28) 420) <| qc_gd (qc_inb ((qc_u I 306 (Int32.toNatClampNeg (I 291 28)) x1) 291 28) 420) <| qc_gd (qc_inb ((qc_u (qc_u I 306 (Int32.toNatClampNeg (I 291 28)) x1) 307 (Int32.toNatClampNeg ((qc_u I 306 (Int32.toNatClampNeg (I 291 28)) x1) 291 28)) x2) 291 28) 420) <| some ((), (qc_u (qc_u (qc_u (qc_u I 306 (Int32.toNatClampNeg (I 291 28)) x1) 307 (Int32.toNatClampNeg ((qc_u I 306 (Int32.toNatClampNeg (I 291 28)) x1) 291 28)) x2) 308 (Int32.toNatClampNeg ((qc_u (qc_u I 306 (Int32.toNatClampNeg (I 291 28)) x1) 307 (Int32.toNatClampNeg ((qc_u I 306 (Int32.toNatClampNeg (I 291 28)) x1) 291 28)) x2) 291 28)) ((qc_u (qc_u I 306 (Int32.toNatClampNeg (I 291 28)) x1) 307 (Int32.toNatClampNeg ((qc_u I 306 (Int32.toNatClampNeg (I 291 28)) x1) 291 28)) x2) 291 10)) 291 28 (((qc_u (qc_u (qc_u I 306 (Int32.toNatClampNeg (I 291 28)) x1) 307 (Int32.toNatClampNeg ((qc_u I 306 (Int32.toNatClampNeg (I 291 28)) x1) 291 28)) x2) 308 (Int32.toNatClampNeg ((qc_u (qc_u I 306 (Int32.toNatClampNeg (I 291 28)) x1) 307 (Int32.toNatClampNeg ((qc_u I 306 (Int32.toNatClampNeg (I 291 28)) x1) 291 28)) x2) 291 28)) ((qc_u (qc_u I 306 (Int32.toNatClampNeg (I 291 28)) x1) 307 (Int32.toNatClampNeg ((qc_u I 306 (Int32.toNatClampNeg (I 291 28)) x1) 291 28)) x2) 291 10)) 291 28) + (1 : Int32))), L, D, R))
set_option maxRecDepth 100000 in
set_option maxHeartbeats 4000000 in
theorem tX12_joint {w : qcW} {I : qTI} {L : qTL} {D : qTD} {R : qTR} {x1 : Int32} {x2 : Int32} {r : Unit} {I' : qTI} {L' : qTL} {D' : qTD} {R' : qTR} (hn : qcNF ≤ w.1) (hR : qc_FR R) (h : fX12_joint w I L D R x1 x2 = some (r, I', L', D', R')) : qc_fm qcSM (I, L, D, R) (I', L', D', R') ∧ qc_V (0) 0 0 qmX12_joint [.ref 291, .int x1, .int x2] w (I, L, D, R) (qc_eq none w (I', L', D', R')) := by
  unfold fX12_joint at h
  refine And.imp_right (fun hx => qc_V.of rfl rfl (Nat.le_of_ble_eq_true rfl) (lv := [(0, .ref 291), (1, .int x1), (2, .int x2)]) rfl hx) ?_
  refine And.imp_right (fun hx => qc_aload_n (qc_at qkX12_joint 0 rfl) rfl <| qc_gR (qc_at qkX12_joint 1 rfl) hn rfl (qfr_291_29 hR) rfl <| qc_aload_n (qc_at qkX12_joint 2 rfl) rfl <| qc_gI (qc_at qkX12_joint 3 rfl) hn rfl <| qc_iload_n (qc_at qkX12_joint 4 rfl) rfl <| hx) ?_
  obtain ⟨g1, h⟩ := qc_gd_of h
  refine qd_iast 420 (qc_at qkX12_joint 5 rfl) hn rfl (qc_inb_in g1) rfl ?_
  refine And.imp_right (fun hx => qc_aload_n (qc_at qkX12_joint 6 rfl) rfl <| qc_gR (qc_at qkX12_joint 7 rfl) hn rfl (qfr_291_30 hR) rfl <| qc_aload_n (qc_at qkX12_joint 8 rfl) rfl <| qc_gI (qc_at qkX12_joint 9 rfl) hn rfl <| qc_iload_n (qc_at qkX12_joint 10 rfl) rfl <| hx) ?_
  obtain ⟨g2, h⟩ := qc_gd_of h
  refine qd_iast 420 (qc_at qkX12_joint 11 rfl) hn rfl (qc_inb_in g2) rfl ?_
  refine And.imp_right (fun hx => qc_aload_n (qc_at qkX12_joint 12 rfl) rfl <| qc_gR (qc_at qkX12_joint 13 rfl) hn rfl (qfr_291_31 hR) rfl <| qc_aload_n (qc_at qkX12_joint 14 rfl) rfl <| qc_gI (qc_at qkX12_joint 15 rfl) hn rfl <| qc_aload_n (qc_at qkX12_joint 16 rfl) rfl <| qc_gI (qc_at qkX12_joint 17 rfl) hn rfl <| hx) ?_
  obtain ⟨g3, h⟩ := qc_gd_of h
  refine qd_iast 420 (qc_at qkX12_joint 18 rfl) hn rfl (qc_inb_in g3) rfl ?_
  refine And.imp_right (fun hx => qc_aload_n (qc_at qkX12_joint 19 rfl) rfl <| qc_dup (qc_at qkX12_joint 20 rfl) rfl <| qc_gI (qc_at qkX12_joint 21 rfl) hn rfl <| qc_iconst (qc_at qkX12_joint 22 rfl) <| qc_iadd (qc_at qkX12_joint 23 rfl) <| hx) (qd_pI (qc_at qkX12_joint 24 rfl) hn rfl rfl ?_)
  obtain ⟨rfl, rfl, rfl, rfl, rfl⟩ := qc_some5 h
  exact ⟨qc_fm.rf _, qc_vret (qc_at qkX12_joint 25 rfl) rfl (Nat.le_refl _) (Nat.le_refl _) (qc_eq.rf _ _ _)⟩
def fX12_needs4 (w : qcW) (I : qTI) (L : qTL) (D : qTD) (R : qTR) (x1 : Int32) (x2 : Int32) : qcO Unit :=
  (if (I 291 15) = 0 then (if x1 = 0 then (qc_bd (fX12_fail w I L D R (4 : Int32) x2) fun r3 I3 L3 D3 R3 => some ((), I3, L3, D3, R3)) else (some ((), I, L, D, R))) else (some ((), I, L, D, R)))
set_option maxRecDepth 100000 in
set_option maxHeartbeats 4000000 in
theorem tX12_needs4 {w : qcW} {I : qTI} {L : qTL} {D : qTD} {R : qTR} {x1 : Int32} {x2 : Int32} {r : Unit} {I' : qTI} {L' : qTL} {D' : qTD} {R' : qTR} (hn : qcNF ≤ w.1) (hR : qc_FR R) (h : fX12_needs4 w I L D R x1 x2 = some (r, I', L', D', R')) : qc_fm qcSM (I, L, D, R) (I', L', D', R') ∧ qc_V (1) 0 0 qmX12_needs4 [.ref 291, .int x1, .int x2] w (I, L, D, R) (qc_eq none w (I', L', D', R')) := by
  unfold fX12_needs4 at h
  refine And.imp_right (fun hx => qc_V.of rfl rfl (Nat.le_of_ble_eq_true rfl) (lv := [(0, .ref 291), (1, .int x1), (2, .int x2)]) rfl hx) ?_
  refine And.imp_right (fun hx => qc_aload_n (qc_at qkX12_needs4 0 rfl) rfl <| qc_gI (qc_at qkX12_needs4 1 rfl) hn rfl <| hx) ?_
  refine qc_andN (qc_if_ne (qc_at qkX12_needs4 2 rfl)) (fun u1 => ?_) (fun u1 => ?_)
  · replace h := qc_jn u1 h
    obtain ⟨rfl, rfl, rfl, rfl, rfl⟩ := qc_some5 h
    exact ⟨qc_fm.rf _, qc_vret (qc_at qkX12_needs4 9 rfl) rfl (Nat.le_refl _) (Nat.le_refl _) (qc_eq.rf _ _ _)⟩
  · replace h := qc_jp u1 h
    refine And.imp_right (fun hx => qc_iload_n (qc_at qkX12_needs4 3 rfl) rfl <| hx) ?_
    refine qc_andN (qc_if_ne (qc_at qkX12_needs4 4 rfl)) (fun u2 => ?_) (fun u2 => ?_)
    · replace h := qc_jn u2 h
      obtain ⟨rfl, rfl, rfl, rfl, rfl⟩ := qc_some5 h
      exact ⟨qc_fm.rf _, qc_vret (qc_at qkX12_needs4 9 rfl) rfl (Nat.le_refl _) (Nat.le_refl _) (qc_eq.rf _ _ _)⟩
    · replace h := qc_jp u2 h
      refine And.imp_right (fun hx => qc_aload_n (qc_at qkX12_needs4 5 rfl) rfl <| qc_iconst (qc_at qkX12_needs4 6 rfl) <| qc_iload_n (qc_at qkX12_needs4 7 rfl) rfl <| hx) ?_
      obtain ⟨r3, I3, L3, D3, R3, e3, h⟩ := qc_bd_of h
      have c3 := (tX12_fail hn hR e3)
      refine qd_cVn (ci := 10) (a0 := 291) (qc_at qkX12_needs4 8 rfl) ql_12_268 qfX12_fail (qc_kf hn rfl) rfl c3 rfl rfl (Nat.le_of_ble_eq_true rfl) (qc_rml (by decide) (by decide)) ⟨Nat.zero_le _, Nat.zero_le _⟩ ?_
      obtain ⟨rfl, rfl, rfl, rfl, rfl⟩ := qc_some5 h
      exact ⟨qc_fm.rf _, qc_vret (qc_at qkX12_needs4 9 rfl) rfl (Nat.le_refl _) (Nat.le_refl _) (qc_eq.rf _ _ _)⟩
def fX12_joins_b112 (w : qcW) (I : qTI) (L : qTL) (D : qTD) (R : qTR) (x4 : Int32) (x5 : Int32) (s0 : Int32) : qcO Unit :=
  (qc_bd (fX12_node w I L D R s0 x4 (0 : Int32) (0 : Int32) (0 : Int32) x5) fun r1 I1 L1 D1 R1 => qc_bd (fX12_lay w I1 L1 D1 R1 r1) fun r2 I2 L2 D2 R2 => some ((), I2, L2, D2, R2))
set_option maxRecDepth 100000 in
set_option maxHeartbeats 4000000 in
theorem tX12_joins_b112 {w : qcW} {I : qTI} {L : qTL} {D : qTD} {R : qTR} {x4 : Int32} {x5 : Int32} {s0 : Int32} {r : Unit} {I' : qTI} {L' : qTL} {D' : qTD} {R' : qTR} (hn : qcNF ≤ w.1) (hR : qc_FR R) (h : fX12_joins_b112 w I L D R x4 x5 s0 = some (r, I', L', D', R')) : qc_fm qcSM (I, L, D, R) (I', L', D', R') ∧ qc_X (qc_rm (3) 0 0) qmX12_joins (qc_QM 0 0 (qc_eq none w (I', L', D', R'))) 0 0 w (112, [(4, .int x4), (5, .int x5)], [.int s0, .ref 291, .ref 291], I, L, D, R) := by
  unfold fX12_joins_b112 at h
  refine And.imp_right (fun hx => qc_iload (qc_at qkX12_joins 60 rfl) rfl <| qc_iconst (qc_at qkX12_joins 61 rfl) <| qc_iconst (qc_at qkX12_joins 62 rfl) <| qc_iconst (qc_at qkX12_joins 63 rfl) <| qc_iload (qc_at qkX12_joins 64 rfl) rfl <| hx) ?_
  obtain ⟨r1, I1, L1, D1, R1, e1, h⟩ := qc_bd_of h
  have c1 := (tX12_node hn hR e1)
  refine qd_cVv (ci := 10) (a0 := 291) (qc_at qkX12_joins 65 rfl) ql_12_343 qfX12_node (qc_kf hn rfl) rfl c1 rfl rfl (Nat.le_of_ble_eq_true rfl) (qc_rml (by decide) (by decide)) ⟨Nat.zero_le _, Nat.zero_le _⟩ ?_
  obtain ⟨r2, I2, L2, D2, R2, e2, h⟩ := qc_bd_of h
  have c2 := (tX12_lay hn (c1.1.1 hR) e2)
  refine qd_cVn (ci := 10) (a0 := 291) (qc_at qkX12_joins 66 rfl) ql_12_347 qfX12_lay (qc_kf hn rfl) rfl c2 rfl rfl (Nat.le_of_ble_eq_true rfl) (qc_rml (by decide) (by decide)) ⟨Nat.zero_le _, Nat.zero_le _⟩ ?_
  obtain ⟨rfl, rfl, rfl, rfl, rfl⟩ := qc_some5 h
  exact ⟨qc_fm.rf _, qc_vret (qc_at qkX12_joins 67 rfl) rfl (Nat.le_refl _) (Nat.le_refl _) (qc_eq.rf _ _ _)⟩
def fX12_joins_b92 (w : qcW) (I : qTI) (L : qTL) (D : qTD) (R : qTR) (x2 : Int32) (x3 : Int32) (x4 : Int32) (x5 : Int32) (s0 : Int32) : qcO Unit :=
  (qc_bd (fX12_needs4 w I L D R s0 x3) fun r3 I3 L3 D3 R3 => if x2 = (1200 : Int32) then (fX12_joins_b112 w I3 L3 D3 R3 x4 x5 (8 : Int32)) else (fX12_joins_b112 w I3 L3 D3 R3 x4 x5 (9 : Int32)))
set_option maxRecDepth 100000 in
set_option maxHeartbeats 4000000 in
theorem tX12_joins_b92 {w : qcW} {I : qTI} {L : qTL} {D : qTD} {R : qTR} {x2 : Int32} {x3 : Int32} {x4 : Int32} {x5 : Int32} {s0 : Int32} {r : Unit} {I' : qTI} {L' : qTL} {D' : qTD} {R' : qTR} (hn : qcNF ≤ w.1) (hR : qc_FR R) (h : fX12_joins_b92 w I L D R x2 x3 x4 x5 s0 = some (r, I', L', D', R')) : qc_fm qcSM (I, L, D, R) (I', L', D', R') ∧ qc_X (qc_rm (3) 0 0) qmX12_joins (qc_QM 0 0 (qc_eq none w (I', L', D', R'))) 0 0 w (92, [(0, .ref 291), (2, .int x2), (3, .int x3), (4, .int x4), (5, .int x5)], [.int s0, .ref 291], I, L, D, R) := by
  unfold fX12_joins_b92 at h
  refine And.imp_right (fun hx => qc_iload_n (qc_at qkX12_joins 50 rfl) rfl <| hx) ?_
  obtain ⟨r3, I3, L3, D3, R3, e3, h⟩ := qc_bd_of h
  have c3 := (tX12_needs4 hn hR e3)
  refine qd_cVn (ci := 10) (a0 := 291) (qc_at qkX12_joins 51 rfl) ql_12_339 qfX12_needs4 (qc_kf hn rfl) rfl c3 rfl rfl (Nat.le_of_ble_eq_true rfl) (qc_rml (by decide) (by decide)) ⟨Nat.zero_le _, Nat.zero_le _⟩ ?_
  refine And.imp_right (fun hx => qc_aload_n (qc_at qkX12_joins 52 rfl) rfl <| qc_aload_n (qc_at qkX12_joins 53 rfl) rfl <| qc_iload_n (qc_at qkX12_joins 54 rfl) rfl <| qc_sipush (qc_at qkX12_joins 55 rfl) <| hx) ?_
  refine qc_andN (qc_icmp_ne (qc_at qkX12_joins 56 rfl)) (fun u4 => ?_) (fun u4 => ?_)
  · replace h := qc_jn u4 h
    exact And.imp_right (fun hx => qc_bipush (qc_at qkX12_joins 59 rfl) <| qc_sub [3, 4] rfl hx) (tX12_joins_b112 hn (c3.1.1 hR) h)
  · replace h := qc_jp u4 h
    exact And.imp_right (fun hx => qc_bipush (qc_at qkX12_joins 57 rfl) <| qc_goto (qc_at qkX12_joins 58 rfl) <| qc_sub [3, 4] rfl hx) (tX12_joins_b112 hn (c3.1.1 hR) h)
def fX12_joins_b152 (w : qcW) (I : qTI) (L : qTL) (D : qTD) (R : qTR) (x3 : Int32) (x4 : Int32) (s0 : Int32) : qcO Unit :=
  (qc_bd (fX12_needs4 w I L D R s0 x3) fun r5 I5 L5 D5 R5 => qc_bd (fX12_node w I5 L5 D5 R5 (12 : Int32) x4 (0 : Int32) (0 : Int32) (0 : Int32) (0 : Int32)) fun r6 I6 L6 D6 R6 => qc_bd (fX12_lay w I6 L6 D6 R6 r6) fun r7 I7 L7 D7 R7 => some ((), I7, L7, D7, R7))
set_option maxRecDepth 100000 in
set_option maxHeartbeats 4000000 in
theorem tX12_joins_b152 {w : qcW} {I : qTI} {L : qTL} {D : qTD} {R : qTR} {x3 : Int32} {x4 : Int32} {s0 : Int32} {r : Unit} {I' : qTI} {L' : qTL} {D' : qTD} {R' : qTR} (hn : qcNF ≤ w.1) (hR : qc_FR R) (h : fX12_joins_b152 w I L D R x3 x4 s0 = some (r, I', L', D', R')) : qc_fm qcSM (I, L, D, R) (I', L', D', R') ∧ qc_X (qc_rm (3) 0 0) qmX12_joins (qc_QM 0 0 (qc_eq none w (I', L', D', R'))) 0 0 w (152, [(0, .ref 291), (3, .int x3), (4, .int x4)], [.int s0, .ref 291], I, L, D, R) := by
  unfold fX12_joins_b152 at h
  refine And.imp_right (fun hx => qc_iload_n (qc_at qkX12_joins 83 rfl) rfl <| hx) ?_
  obtain ⟨r5, I5, L5, D5, R5, e5, h⟩ := qc_bd_of h
  have c5 := (tX12_needs4 hn hR e5)
  refine qd_cVn (ci := 10) (a0 := 291) (qc_at qkX12_joins 84 rfl) ql_12_339 qfX12_needs4 (qc_kf hn rfl) rfl c5 rfl rfl (Nat.le_of_ble_eq_true rfl) (qc_rml (by decide) (by decide)) ⟨Nat.zero_le _, Nat.zero_le _⟩ ?_
  refine And.imp_right (fun hx => qc_aload_n (qc_at qkX12_joins 85 rfl) rfl <| qc_aload_n (qc_at qkX12_joins 86 rfl) rfl <| qc_bipush (qc_at qkX12_joins 87 rfl) <| qc_iload (qc_at qkX12_joins 88 rfl) rfl <| qc_iconst (qc_at qkX12_joins 89 rfl) <| qc_iconst (qc_at qkX12_joins 90 rfl) <| qc_iconst (qc_at qkX12_joins 91 rfl) <| qc_iconst (qc_at qkX12_joins 92 rfl) <| hx) ?_
  obtain ⟨r6, I6, L6, D6, R6, e6, h⟩ := qc_bd_of h
  have c6 := (tX12_node hn (c5.1.1 hR) e6)
  refine qd_cVv (ci := 10) (a0 := 291) (qc_at qkX12_joins 93 rfl) ql_12_343 qfX12_node (qc_kf hn rfl) rfl c6 rfl rfl (Nat.le_of_ble_eq_true rfl) (qc_rml (by decide) (by decide)) ⟨Nat.zero_le _, Nat.zero_le _⟩ ?_
  obtain ⟨r7, I7, L7, D7, R7, e7, h⟩ := qc_bd_of h
  have c7 := (tX12_lay hn (c6.1.1 (c5.1.1 hR)) e7)
  refine qd_cVn (ci := 10) (a0 := 291) (qc_at qkX12_joins 94 rfl) ql_12_347 qfX12_lay (qc_kf hn rfl) rfl c7 rfl rfl (Nat.le_of_ble_eq_true rfl) (qc_rml (by decide) (by decide)) ⟨Nat.zero_le _, Nat.zero_le _⟩ ?_
  obtain ⟨rfl, rfl, rfl, rfl, rfl⟩ := qc_some5 h
  exact ⟨qc_fm.rf _, qc_vret (qc_at qkX12_joins 95 rfl) rfl (Nat.le_refl _) (Nat.le_refl _) (qc_eq.rf _ _ _)⟩
def fX12_joins_b231 (w : qcW) (I : qTI) (L : qTL) (D : qTD) (R : qTR) (x4 : Int32) (x6 : Int32) (s0 : Int32) : qcO Unit :=
  (qc_bd (fX12_node w I L D R s0 x6 x4 (0 : Int32) (0 : Int32) (0 : Int32)) fun r8 I8 L8 D8 R8 => qc_bd (fX12_lay w I8 L8 D8 R8 r8) fun r9 I9 L9 D9 R9 => some ((), I9, L9, D9, R9))
set_option maxRecDepth 100000 in
set_option maxHeartbeats 4000000 in
theorem tX12_joins_b231 {w : qcW} {I : qTI} {L : qTL} {D : qTD} {R : qTR} {x4 : Int32} {x6 : Int32} {s0 : Int32} {r : Unit} {I' : qTI} {L' : qTL} {D' : qTD} {R' : qTR} (hn : qcNF ≤ w.1) (hR : qc_FR R) (h : fX12_joins_b231 w I L D R x4 x6 s0 = some (r, I', L', D', R')) : qc_fm qcSM (I, L, D, R) (I', L', D', R') ∧ qc_X (qc_rm (3) 0 0) qmX12_joins (qc_QM 0 0 (qc_eq none w (I', L', D', R'))) 0 0 w (231, [(4, .int x4), (6, .int x6)], [.int s0, .ref 291, .ref 291], I, L, D, R) := by
  unfold fX12_joins_b231 at h
  refine And.imp_right (fun hx => qc_iload (qc_at qkX12_joins 127 rfl) rfl <| qc_iload (qc_at qkX12_joins 128 rfl) rfl <| qc_iconst (qc_at qkX12_joins 129 rfl) <| qc_iconst (qc_at qkX12_joins 130 rfl) <| qc_iconst (qc_at qkX12_joins 131 rfl) <| hx) ?_
  obtain ⟨r8, I8, L8, D8, R8, e8, h⟩ := qc_bd_of h
  have c8 := (tX12_node hn hR e8)
  refine qd_cVv (ci := 10) (a0 := 291) (qc_at qkX12_joins 132 rfl) ql_12_343 qfX12_node (qc_kf hn rfl) rfl c8 rfl rfl (Nat.le_of_ble_eq_true rfl) (qc_rml (by decide) (by decide)) ⟨Nat.zero_le _, Nat.zero_le _⟩ ?_
  obtain ⟨r9, I9, L9, D9, R9, e9, h⟩ := qc_bd_of h
  have c9 := (tX12_lay hn (c8.1.1 hR) e9)
  refine qd_cVn (ci := 10) (a0 := 291) (qc_at qkX12_joins 133 rfl) ql_12_347 qfX12_lay (qc_kf hn rfl) rfl c9 rfl rfl (Nat.le_of_ble_eq_true rfl) (qc_rml (by decide) (by decide)) ⟨Nat.zero_le _, Nat.zero_le _⟩ ?_
  obtain ⟨rfl, rfl, rfl, rfl, rfl⟩ := qc_some5 h
  exact ⟨qc_fm.rf _, qc_goto (qc_at qkX12_joins 134 rfl) <| qc_vret (qc_at qkX12_joins 246 rfl) rfl (Nat.le_refl _) (Nat.le_refl _) (qc_eq.rf _ _ _)⟩
def fX12_joins_b284 (w : qcW) (I : qTI) (L : qTL) (D : qTD) (R : qTR) (x2 : Int32) (x3 : Int32) (x4 : Int32) (x6 : Int32) (s0 : Int32) : qcO Unit :=
  (qc_bd (fX12_needs4 w I L D R s0 x3) fun r10 I10 L10 D10 R10 => qc_bd (fX12_node w I10 L10 D10 R10 (6 : Int32) x6 x4 (0 : Int32) x2 (0 : Int32)) fun r11 I11 L11 D11 R11 => qc_bd (fX12_lay w I11 L11 D11 R11 r11) fun r12 I12 L12 D12 R12 => some ((), I12, L12, D12, R12))
set_option maxRecDepth 100000 in
set_option maxHeartbeats 4000000 in
theorem tX12_joins_b284 {w : qcW} {I : qTI} {L : qTL} {D : qTD} {R : qTR} {x2 : Int32} {x3 : Int32} {x4 : Int32} {x6 : Int32} {s0 : Int32} {r : Unit} {I' : qTI} {L' : qTL} {D' : qTD} {R' : qTR} (hn : qcNF ≤ w.1) (hR : qc_FR R) (h : fX12_joins_b284 w I L D R x2 x3 x4 x6 s0 = some (r, I', L', D', R')) : qc_fm qcSM (I, L, D, R) (I', L', D', R') ∧ qc_X (qc_rm (3) 0 0) qmX12_joins (qc_QM 0 0 (qc_eq none w (I', L', D', R'))) 0 0 w (284, [(0, .ref 291), (2, .int x2), (3, .int x3), (4, .int x4), (6, .int x6)], [.int s0, .ref 291], I, L, D, R) := by
  unfold fX12_joins_b284 at h
  refine And.imp_right (fun hx => qc_iload_n (qc_at qkX12_joins 153 rfl) rfl <| hx) ?_
  obtain ⟨r10, I10, L10, D10, R10, e10, h⟩ := qc_bd_of h
  have c10 := (tX12_needs4 hn hR e10)
  refine qd_cVn (ci := 10) (a0 := 291) (qc_at qkX12_joins 154 rfl) ql_12_339 qfX12_needs4 (qc_kf hn rfl) rfl c10 rfl rfl (Nat.le_of_ble_eq_true rfl) (qc_rml (by decide) (by decide)) ⟨Nat.zero_le _, Nat.zero_le _⟩ ?_
  refine And.imp_right (fun hx => qc_aload_n (qc_at qkX12_joins 155 rfl) rfl <| qc_aload_n (qc_at qkX12_joins 156 rfl) rfl <| qc_bipush (qc_at qkX12_joins 157 rfl) <| qc_iload (qc_at qkX12_joins 158 rfl) rfl <| qc_iload (qc_at qkX12_joins 159 rfl) rfl <| qc_iconst (qc_at qkX12_joins 160 rfl) <| qc_iload_n (qc_at qkX12_joins 161 rfl) rfl <| qc_iconst (qc_at qkX12_joins 162 rfl) <| hx) ?_
  obtain ⟨r11, I11, L11, D11, R11, e11, h⟩ := qc_bd_of h
  have c11 := (tX12_node hn (c10.1.1 hR) e11)
  refine qd_cVv (ci := 10) (a0 := 291) (qc_at qkX12_joins 163 rfl) ql_12_343 qfX12_node (qc_kf hn rfl) rfl c11 rfl rfl (Nat.le_of_ble_eq_true rfl) (qc_rml (by decide) (by decide)) ⟨Nat.zero_le _, Nat.zero_le _⟩ ?_
  obtain ⟨r12, I12, L12, D12, R12, e12, h⟩ := qc_bd_of h
  have c12 := (tX12_lay hn (c11.1.1 (c10.1.1 hR)) e12)
  refine qd_cVn (ci := 10) (a0 := 291) (qc_at qkX12_joins 164 rfl) ql_12_347 qfX12_lay (qc_kf hn rfl) rfl c12 rfl rfl (Nat.le_of_ble_eq_true rfl) (qc_rml (by decide) (by decide)) ⟨Nat.zero_le _, Nat.zero_le _⟩ ?_
  obtain ⟨rfl, rfl, rfl, rfl, rfl⟩ := qc_some5 h
  exact ⟨qc_fm.rf _, qc_goto (qc_at qkX12_joins 165 rfl) <| qc_vret (qc_at qkX12_joins 246 rfl) rfl (Nat.le_refl _) (Nat.le_refl _) (qc_eq.rf _ _ _)⟩
def fX12_joins_b279 (w : qcW) (I : qTI) (L : qTL) (D : qTD) (R : qTR) (x2 : Int32) (x3 : Int32) (x4 : Int32) (x6 : Int32) : qcO Unit :=
  (fX12_joins_b284 w I L D R x2 x3 x4 x6 (1 : Int32))
set_option maxRecDepth 100000 in
set_option maxHeartbeats 4000000 in
theorem tX12_joins_b279 {w : qcW} {I : qTI} {L : qTL} {D : qTD} {R : qTR} {x2 : Int32} {x3 : Int32} {x4 : Int32} {x6 : Int32} {r : Unit} {I' : qTI} {L' : qTL} {D' : qTD} {R' : qTR} (hn : qcNF ≤ w.1) (hR : qc_FR R) (h : fX12_joins_b279 w I L D R x2 x3 x4 x6 = some (r, I', L', D', R')) : qc_fm qcSM (I, L, D, R) (I', L', D', R') ∧ qc_X (qc_rm (3) 0 0) qmX12_joins (qc_QM 0 0 (qc_eq none w (I', L', D', R'))) 0 0 w (279, [(0, .ref 291), (2, .int x2), (3, .int x3), (4, .int x4), (6, .int x6)], [.ref 291], I, L, D, R) := by
  unfold fX12_joins_b279 at h
  exact And.imp_right (fun hx => qc_iconst (qc_at qkX12_joins 150 rfl) <| qc_goto (qc_at qkX12_joins 151 rfl) <| qc_sub [0, 1, 2, 3, 4] rfl hx) (tX12_joins_b284 hn hR h)
def fX12_joins_b283 (w : qcW) (I : qTI) (L : qTL) (D : qTD) (R : qTR) (x2 : Int32) (x3 : Int32) (x4 : Int32) (x6 : Int32) : qcO Unit :=
  (fX12_joins_b284 w I L D R x2 x3 x4 x6 (0 : Int32))
set_option maxRecDepth 100000 in
set_option maxHeartbeats 4000000 in
theorem tX12_joins_b283 {w : qcW} {I : qTI} {L : qTL} {D : qTD} {R : qTR} {x2 : Int32} {x3 : Int32} {x4 : Int32} {x6 : Int32} {r : Unit} {I' : qTI} {L' : qTL} {D' : qTD} {R' : qTR} (hn : qcNF ≤ w.1) (hR : qc_FR R) (h : fX12_joins_b283 w I L D R x2 x3 x4 x6 = some (r, I', L', D', R')) : qc_fm qcSM (I, L, D, R) (I', L', D', R') ∧ qc_X (qc_rm (3) 0 0) qmX12_joins (qc_QM 0 0 (qc_eq none w (I', L', D', R'))) 0 0 w (283, [(0, .ref 291), (2, .int x2), (3, .int x3), (4, .int x4), (6, .int x6)], [.ref 291], I, L, D, R) := by
  unfold fX12_joins_b283 at h
  exact And.imp_right (fun hx => qc_iconst (qc_at qkX12_joins 152 rfl) <| qc_sub [0, 1, 2, 3, 4] rfl hx) (tX12_joins_b284 hn hR h)
def fX12_joins_b269 (w : qcW) (I : qTI) (L : qTL) (D : qTD) (R : qTR) (x2 : Int32) (x3 : Int32) (x4 : Int32) (x6 : Int32) (x8 : Int32) : qcO Unit :=
  (if x8 = 0 then (fX12_joins_b283 w I L D R x2 x3 x4 x6) else (if (2 : Int32) ≤ x2 then (fX12_joins_b283 w I L D R x2 x3 x4 x6) else (fX12_joins_b279 w I L D R x2 x3 x4 x6)))
set_option maxRecDepth 100000 in
set_option maxHeartbeats 4000000 in
theorem tX12_joins_b269 {w : qcW} {I : qTI} {L : qTL} {D : qTD} {R : qTR} {x2 : Int32} {x3 : Int32} {x4 : Int32} {x6 : Int32} {x8 : Int32} {r : Unit} {I' : qTI} {L' : qTL} {D' : qTD} {R' : qTR} (hn : qcNF ≤ w.1) (hR : qc_FR R) (h : fX12_joins_b269 w I L D R x2 x3 x4 x6 x8 = some (r, I', L', D', R')) : qc_fm qcSM (I, L, D, R) (I', L', D', R') ∧ qc_X (qc_rm (3) 0 0) qmX12_joins (qc_QM 0 0 (qc_eq none w (I', L', D', R'))) 0 0 w (269, [(0, .ref 291), (2, .int x2), (3, .int x3), (4, .int x4), (6, .int x6), (8, .int x8)], [.ref 291], I, L, D, R) := by
  unfold fX12_joins_b269 at h
  refine And.imp_right (fun hx => qc_iload (qc_at qkX12_joins 145 rfl) rfl <| hx) ?_
  refine qc_andC (qc_if_eq (qc_at qkX12_joins 146 rfl)) (fun u13 => ?_) (fun u13 => ?_)
  · replace h := qc_jp u13 h
    exact And.imp_right (fun hx => qc_sub [0, 1, 2, 3, 4] rfl hx) (tX12_joins_b283 hn hR h)
  · replace h := qc_jn u13 h
    refine And.imp_right (fun hx => qc_iload_n (qc_at qkX12_joins 147 rfl) rfl <| qc_iconst (qc_at qkX12_joins 148 rfl) <| hx) ?_
    refine qc_andC (qc_icmp_ge (qc_at qkX12_joins 149 rfl)) (fun u14 => ?_) (fun u14 => ?_)
    · replace h := qc_jp u14 h
      exact And.imp_right (fun hx => qc_sub [0, 1, 2, 3, 4] rfl hx) (tX12_joins_b283 hn hR h)
    · replace h := qc_jn u14 h
      exact And.imp_right (fun hx => qc_sub [0, 1, 2, 3, 4] rfl hx) (tX12_joins_b279 hn hR h)
def fX12_joins_b340 (w : qcW) (I : qTI) (L : qTL) (D : qTD) (R : qTR) (x2 : Int32) (x3 : Int32) (x4 : Int32) (x5 : Int32) (x6 : Int32) (x7 : Int32) (s0 : Int32) : qcO Unit :=
  (qc_bd (fX12_needs4 w I L D R s0 x3) fun r15 I15 L15 D15 R15 => qc_bd (fX12_later w I15 L15 D15 R15 x7 x5) fun r16 I16 L16 D16 R16 => qc_bd (fX12_node w I16 L16 D16 R16 (5 : Int32) x6 x4 (0 : Int32) x2 r16) fun r17 I17 L17 D17 R17 => qc_bd (fX12_lay w I17 L17 D17 R17 r17) fun r18 I18 L18 D18 R18 => some ((), I18, L18, D18, R18))
set_option maxRecDepth 100000 in
set_option maxHeartbeats 4000000 in
theorem tX12_joins_b340 {w : qcW} {I : qTI} {L : qTL} {D : qTD} {R : qTR} {x2 : Int32} {x3 : Int32} {x4 : Int32} {x5 : Int32} {x6 : Int32} {x7 : Int32} {s0 : Int32} {r : Unit} {I' : qTI} {L' : qTL} {D' : qTD} {R' : qTR} (hn : qcNF ≤ w.1) (hR : qc_FR R) (h : fX12_joins_b340 w I L D R x2 x3 x4 x5 x6 x7 s0 = some (r, I', L', D', R')) : qc_fm qcSM (I, L, D, R) (I', L', D', R') ∧ qc_X (qc_rm (3) 0 0) qmX12_joins (qc_QM 0 0 (qc_eq none w (I', L', D', R'))) 0 0 w (340, [(0, .ref 291), (2, .int x2), (3, .int x3), (4, .int x4), (5, .int x5), (6, .int x6), (7, .int x7)], [.int s0, .ref 291], I, L, D, R) := by
  unfold fX12_joins_b340 at h
  refine And.imp_right (fun hx => qc_iload_n (qc_at qkX12_joins 181 rfl) rfl <| hx) ?_
  obtain ⟨r15, I15, L15, D15, R15, e15, h⟩ := qc_bd_of h
  have c15 := (tX12_needs4 hn hR e15)
  refine qd_cVn (ci := 10) (a0 := 291) (qc_at qkX12_joins 182 rfl) ql_12_339 qfX12_needs4 (qc_kf hn rfl) rfl c15 rfl rfl (Nat.le_of_ble_eq_true rfl) (qc_rml (by decide) (by decide)) ⟨Nat.zero_le _, Nat.zero_le _⟩ ?_
  refine And.imp_right (fun hx => qc_aload_n (qc_at qkX12_joins 183 rfl) rfl <| qc_aload_n (qc_at qkX12_joins 184 rfl) rfl <| qc_iconst (qc_at qkX12_joins 185 rfl) <| qc_iload (qc_at qkX12_joins 186 rfl) rfl <| qc_iload (qc_at qkX12_joins 187 rfl) rfl <| qc_iconst (qc_at qkX12_joins 188 rfl) <| qc_iload_n (qc_at qkX12_joins 189 rfl) rfl <| qc_iload (qc_at qkX12_joins 190 rfl) rfl <| qc_iload (qc_at qkX12_joins 191 rfl) rfl <| hx) ?_
  obtain ⟨r16, I16, L16, D16, R16, e16, h⟩ := qc_bd_of h
  have c16 := (tX12_later hn (c15.1.1 hR) e16)
  refine qd_cSv (qc_at qkX12_joins 192 rfl) ql_12_350 qfX12_later c16 rfl rfl (Nat.le_of_ble_eq_true rfl) (qc_rml (by decide) (by decide)) ⟨Nat.zero_le _, Nat.zero_le _⟩ ?_
  obtain ⟨r17, I17, L17, D17, R17, e17, h⟩ := qc_bd_of h
  have c17 := (tX12_node hn (c16.1.1 (c15.1.1 hR)) e17)
  refine qd_cVv (ci := 10) (a0 := 291) (qc_at qkX12_joins 193 rfl) ql_12_343 qfX12_node (qc_kf hn rfl) rfl c17 rfl rfl (Nat.le_of_ble_eq_true rfl) (qc_rml (by decide) (by decide)) ⟨Nat.zero_le _, Nat.zero_le _⟩ ?_
  obtain ⟨r18, I18, L18, D18, R18, e18, h⟩ := qc_bd_of h
  have c18 := (tX12_lay hn (c17.1.1 (c16.1.1 (c15.1.1 hR))) e18)
  refine qd_cVn (ci := 10) (a0 := 291) (qc_at qkX12_joins 194 rfl) ql_12_347 qfX12_lay (qc_kf hn rfl) rfl c18 rfl rfl (Nat.le_of_ble_eq_true rfl) (qc_rml (by decide) (by decide)) ⟨Nat.zero_le _, Nat.zero_le _⟩ ?_
  obtain ⟨rfl, rfl, rfl, rfl, rfl⟩ := qc_some5 h
  exact ⟨qc_fm.rf _, qc_goto (qc_at qkX12_joins 195 rfl) <| qc_vret (qc_at qkX12_joins 246 rfl) rfl (Nat.le_refl _) (Nat.le_refl _) (qc_eq.rf _ _ _)⟩
def fX12_joins_b335 (w : qcW) (I : qTI) (L : qTL) (D : qTD) (R : qTR) (x2 : Int32) (x3 : Int32) (x4 : Int32) (x5 : Int32) (x6 : Int32) (x7 : Int32) : qcO Unit :=
  (fX12_joins_b340 w I L D R x2 x3 x4 x5 x6 x7 (1 : Int32))
set_option maxRecDepth 100000 in
set_option maxHeartbeats 4000000 in
theorem tX12_joins_b335 {w : qcW} {I : qTI} {L : qTL} {D : qTD} {R : qTR} {x2 : Int32} {x3 : Int32} {x4 : Int32} {x5 : Int32} {x6 : Int32} {x7 : Int32} {r : Unit} {I' : qTI} {L' : qTL} {D' : qTD} {R' : qTR} (hn : qcNF ≤ w.1) (hR : qc_FR R) (h : fX12_joins_b335 w I L D R x2 x3 x4 x5 x6 x7 = some (r, I', L', D', R')) : qc_fm qcSM (I, L, D, R) (I', L', D', R') ∧ qc_X (qc_rm (3) 0 0) qmX12_joins (qc_QM 0 0 (qc_eq none w (I', L', D', R'))) 0 0 w (335, [(0, .ref 291), (2, .int x2), (3, .int x3), (4, .int x4), (5, .int x5), (6, .int x6), (7, .int x7)], [.ref 291], I, L, D, R) := by
  unfold fX12_joins_b335 at h
  exact And.imp_right (fun hx => qc_iconst (qc_at qkX12_joins 178 rfl) <| qc_goto (qc_at qkX12_joins 179 rfl) <| qc_sub [0, 1, 2, 3, 4, 5, 6] rfl hx) (tX12_joins_b340 hn hR h)
def fX12_joins_b339 (w : qcW) (I : qTI) (L : qTL) (D : qTD) (R : qTR) (x2 : Int32) (x3 : Int32) (x4 : Int32) (x5 : Int32) (x6 : Int32) (x7 : Int32) : qcO Unit :=
  (fX12_joins_b340 w I L D R x2 x3 x4 x5 x6 x7 (0 : Int32))
set_option maxRecDepth 100000 in
set_option maxHeartbeats 4000000 in
theorem tX12_joins_b339 {w : qcW} {I : qTI} {L : qTL} {D : qTD} {R : qTR} {x2 : Int32} {x3 : Int32} {x4 : Int32} {x5 : Int32} {x6 : Int32} {x7 : Int32} {r : Unit} {I' : qTI} {L' : qTL} {D' : qTD} {R' : qTR} (hn : qcNF ≤ w.1) (hR : qc_FR R) (h : fX12_joins_b339 w I L D R x2 x3 x4 x5 x6 x7 = some (r, I', L', D', R')) : qc_fm qcSM (I, L, D, R) (I', L', D', R') ∧ qc_X (qc_rm (3) 0 0) qmX12_joins (qc_QM 0 0 (qc_eq none w (I', L', D', R'))) 0 0 w (339, [(0, .ref 291), (2, .int x2), (3, .int x3), (4, .int x4), (5, .int x5), (6, .int x6), (7, .int x7)], [.ref 291], I, L, D, R) := by
  unfold fX12_joins_b339 at h
  exact And.imp_right (fun hx => qc_iconst (qc_at qkX12_joins 180 rfl) <| qc_sub [0, 1, 2, 3, 4, 5, 6] rfl hx) (tX12_joins_b340 hn hR h)
def fX12_joins_b397 (w : qcW) (I : qTI) (L : qTL) (D : qTD) (R : qTR) (x2 : Int32) (x3 : Int32) (x4 : Int32) (x6 : Int32) (x7 : Int32) (s0 : Int32) : qcO Unit :=
  (qc_bd (fX12_needs4 w I L D R s0 x3) fun r19 I19 L19 D19 R19 => qc_bd (fX12_node w I19 L19 D19 R19 (7 : Int32) x6 x4 (0 : Int32) x2 x7) fun r20 I20 L20 D20 R20 => qc_bd (fX12_lay w I20 L20 D20 R20 r20) fun r21 I21 L21 D21 R21 => some ((), I21, L21, D21, R21))
set_option maxRecDepth 100000 in
set_option maxHeartbeats 4000000 in
theorem tX12_joins_b397 {w : qcW} {I : qTI} {L : qTL} {D : qTD} {R : qTR} {x2 : Int32} {x3 : Int32} {x4 : Int32} {x6 : Int32} {x7 : Int32} {s0 : Int32} {r : Unit} {I' : qTI} {L' : qTL} {D' : qTD} {R' : qTR} (hn : qcNF ≤ w.1) (hR : qc_FR R) (h : fX12_joins_b397 w I L D R x2 x3 x4 x6 x7 s0 = some (r, I', L', D', R')) : qc_fm qcSM (I, L, D, R) (I', L', D', R') ∧ qc_X (qc_rm (3) 0 0) qmX12_joins (qc_QM 0 0 (qc_eq none w (I', L', D', R'))) 0 0 w (397, [(0, .ref 291), (2, .int x2), (3, .int x3), (4, .int x4), (6, .int x6), (7, .int x7)], [.int s0, .ref 291], I, L, D, R) := by
  unfold fX12_joins_b397 at h
  refine And.imp_right (fun hx => qc_iload_n (qc_at qkX12_joins 209 rfl) rfl <| hx) ?_
  obtain ⟨r19, I19, L19, D19, R19, e19, h⟩ := qc_bd_of h
  have c19 := (tX12_needs4 hn hR e19)
  refine qd_cVn (ci := 10) (a0 := 291) (qc_at qkX12_joins 210 rfl) ql_12_339 qfX12_needs4 (qc_kf hn rfl) rfl c19 rfl rfl (Nat.le_of_ble_eq_true rfl) (qc_rml (by decide) (by decide)) ⟨Nat.zero_le _, Nat.zero_le _⟩ ?_
  refine And.imp_right (fun hx => qc_aload_n (qc_at qkX12_joins 211 rfl) rfl <| qc_aload_n (qc_at qkX12_joins 212 rfl) rfl <| qc_bipush (qc_at qkX12_joins 213 rfl) <| qc_iload (qc_at qkX12_joins 214 rfl) rfl <| qc_iload (qc_at qkX12_joins 215 rfl) rfl <| qc_iconst (qc_at qkX12_joins 216 rfl) <| qc_iload_n (qc_at qkX12_joins 217 rfl) rfl <| qc_iload (qc_at qkX12_joins 218 rfl) rfl <| hx) ?_
  obtain ⟨r20, I20, L20, D20, R20, e20, h⟩ := qc_bd_of h
  have c20 := (tX12_node hn (c19.1.1 hR) e20)
  refine qd_cVv (ci := 10) (a0 := 291) (qc_at qkX12_joins 219 rfl) ql_12_343 qfX12_node (qc_kf hn rfl) rfl c20 rfl rfl (Nat.le_of_ble_eq_true rfl) (qc_rml (by decide) (by decide)) ⟨Nat.zero_le _, Nat.zero_le _⟩ ?_
  obtain ⟨r21, I21, L21, D21, R21, e21, h⟩ := qc_bd_of h
  have c21 := (tX12_lay hn (c20.1.1 (c19.1.1 hR)) e21)
  refine qd_cVn (ci := 10) (a0 := 291) (qc_at qkX12_joins 220 rfl) ql_12_347 qfX12_lay (qc_kf hn rfl) rfl c21 rfl rfl (Nat.le_of_ble_eq_true rfl) (qc_rml (by decide) (by decide)) ⟨Nat.zero_le _, Nat.zero_le _⟩ ?_
  obtain ⟨rfl, rfl, rfl, rfl, rfl⟩ := qc_some5 h
  exact ⟨qc_fm.rf _, qc_goto (qc_at qkX12_joins 221 rfl) <| qc_vret (qc_at qkX12_joins 246 rfl) rfl (Nat.le_refl _) (Nat.le_refl _) (qc_eq.rf _ _ _)⟩
def fX12_joins_b396 (w : qcW) (I : qTI) (L : qTL) (D : qTD) (R : qTR) (x2 : Int32) (x3 : Int32) (x4 : Int32) (x6 : Int32) (x7 : Int32) : qcO Unit :=
  (fX12_joins_b397 w I L D R x2 x3 x4 x6 x7 (0 : Int32))
set_option maxRecDepth 100000 in
set_option maxHeartbeats 4000000 in
theorem tX12_joins_b396 {w : qcW} {I : qTI} {L : qTL} {D : qTD} {R : qTR} {x2 : Int32} {x3 : Int32} {x4 : Int32} {x6 : Int32} {x7 : Int32} {r : Unit} {I' : qTI} {L' : qTL} {D' : qTD} {R' : qTR} (hn : qcNF ≤ w.1) (hR : qc_FR R) (h : fX12_joins_b396 w I L D R x2 x3 x4 x6 x7 = some (r, I', L', D', R')) : qc_fm qcSM (I, L, D, R) (I', L', D', R') ∧ qc_X (qc_rm (3) 0 0) qmX12_joins (qc_QM 0 0 (qc_eq none w (I', L', D', R'))) 0 0 w (396, [(0, .ref 291), (2, .int x2), (3, .int x3), (4, .int x4), (6, .int x6), (7, .int x7)], [.ref 291], I, L, D, R) := by
  unfold fX12_joins_b396 at h
  exact And.imp_right (fun hx => qc_iconst (qc_at qkX12_joins 208 rfl) <| qc_sub [0, 1, 2, 3, 4, 5] rfl hx) (tX12_joins_b397 hn hR h)
def fX12_joins_b444 (w : qcW) (I : qTI) (L : qTL) (D : qTD) (R : qTR) (x2 : Int32) (x3 : Int32) (x4 : Int32) (x5 : Int32) (x6 : Int32) (x7 : Int32) (s0 : Int32) : qcO Unit :=
  (qc_bd (fX12_needs4 w I L D R s0 x3) fun r22 I22 L22 D22 R22 => qc_bd (fX12_later w I22 L22 D22 R22 x7 x5) fun r23 I23 L23 D23 R23 => qc_bd (fX12_node w I23 L23 D23 R23 (5 : Int32) x6 x4 (0 : Int32) x2 r23) fun r24 I24 L24 D24 R24 => qc_bd (fX12_lay w I24 L24 D24 R24 r24) fun r25 I25 L25 D25 R25 => some ((), I25, L25, D25, R25))
set_option maxRecDepth 100000 in
set_option maxHeartbeats 4000000 in
theorem tX12_joins_b444 {w : qcW} {I : qTI} {L : qTL} {D : qTD} {R : qTR} {x2 : Int32} {x3 : Int32} {x4 : Int32} {x5 : Int32} {x6 : Int32} {x7 : Int32} {s0 : Int32} {r : Unit} {I' : qTI} {L' : qTL} {D' : qTD} {R' : qTR} (hn : qcNF ≤ w.1) (hR : qc_FR R) (h : fX12_joins_b444 w I L D R x2 x3 x4 x5 x6 x7 s0 = some (r, I', L', D', R')) : qc_fm qcSM (I, L, D, R) (I', L', D', R') ∧ qc_X (qc_rm (3) 0 0) qmX12_joins (qc_QM 0 0 (qc_eq none w (I', L', D', R'))) 0 0 w (444, [(0, .ref 291), (2, .int x2), (3, .int x3), (4, .int x4), (5, .int x5), (6, .int x6), (7, .int x7)], [.int s0, .ref 291], I, L, D, R) := by
  unfold fX12_joins_b444 at h
  refine And.imp_right (fun hx => qc_iload_n (qc_at qkX12_joins 232 rfl) rfl <| hx) ?_
  obtain ⟨r22, I22, L22, D22, R22, e22, h⟩ := qc_bd_of h
  have c22 := (tX12_needs4 hn hR e22)
  refine qd_cVn (ci := 10) (a0 := 291) (qc_at qkX12_joins 233 rfl) ql_12_339 qfX12_needs4 (qc_kf hn rfl) rfl c22 rfl rfl (Nat.le_of_ble_eq_true rfl) (qc_rml (by decide) (by decide)) ⟨Nat.zero_le _, Nat.zero_le _⟩ ?_
  refine And.imp_right (fun hx => qc_aload_n (qc_at qkX12_joins 234 rfl) rfl <| qc_aload_n (qc_at qkX12_joins 235 rfl) rfl <| qc_iconst (qc_at qkX12_joins 236 rfl) <| qc_iload (qc_at qkX12_joins 237 rfl) rfl <| qc_iload (qc_at qkX12_joins 238 rfl) rfl <| qc_iconst (qc_at qkX12_joins 239 rfl) <| qc_iload_n (qc_at qkX12_joins 240 rfl) rfl <| qc_iload (qc_at qkX12_joins 241 rfl) rfl <| qc_iload (qc_at qkX12_joins 242 rfl) rfl <| hx) ?_
  obtain ⟨r23, I23, L23, D23, R23, e23, h⟩ := qc_bd_of h
  have c23 := (tX12_later hn (c22.1.1 hR) e23)
  refine qd_cSv (qc_at qkX12_joins 243 rfl) ql_12_350 qfX12_later c23 rfl rfl (Nat.le_of_ble_eq_true rfl) (qc_rml (by decide) (by decide)) ⟨Nat.zero_le _, Nat.zero_le _⟩ ?_
  obtain ⟨r24, I24, L24, D24, R24, e24, h⟩ := qc_bd_of h
  have c24 := (tX12_node hn (c23.1.1 (c22.1.1 hR)) e24)
  refine qd_cVv (ci := 10) (a0 := 291) (qc_at qkX12_joins 244 rfl) ql_12_343 qfX12_node (qc_kf hn rfl) rfl c24 rfl rfl (Nat.le_of_ble_eq_true rfl) (qc_rml (by decide) (by decide)) ⟨Nat.zero_le _, Nat.zero_le _⟩ ?_
  obtain ⟨r25, I25, L25, D25, R25, e25, h⟩ := qc_bd_of h
  have c25 := (tX12_lay hn (c24.1.1 (c23.1.1 (c22.1.1 hR))) e25)
  refine qd_cVn (ci := 10) (a0 := 291) (qc_at qkX12_joins 245 rfl) ql_12_347 qfX12_lay (qc_kf hn rfl) rfl c25 rfl rfl (Nat.le_of_ble_eq_true rfl) (qc_rml (by decide) (by decide)) ⟨Nat.zero_le _, Nat.zero_le _⟩ ?_
  obtain ⟨rfl, rfl, rfl, rfl, rfl⟩ := qc_some5 h
  exact ⟨qc_fm.rf _, qc_vret (qc_at qkX12_joins 246 rfl) rfl (Nat.le_refl _) (Nat.le_refl _) (qc_eq.rf _ _ _)⟩
def fX12_joins_b443 (w : qcW) (I : qTI) (L : qTL) (D : qTD) (R : qTR) (x2 : Int32) (x3 : Int32) (x4 : Int32) (x5 : Int32) (x6 : Int32) (x7 : Int32) : qcO Unit :=
  (fX12_joins_b444 w I L D R x2 x3 x4 x5 x6 x7 (0 : Int32))
set_option maxRecDepth 100000 in
set_option maxHeartbeats 4000000 in
theorem tX12_joins_b443 {w : qcW} {I : qTI} {L : qTL} {D : qTD} {R : qTR} {x2 : Int32} {x3 : Int32} {x4 : Int32} {x5 : Int32} {x6 : Int32} {x7 : Int32} {r : Unit} {I' : qTI} {L' : qTL} {D' : qTD} {R' : qTR} (hn : qcNF ≤ w.1) (hR : qc_FR R) (h : fX12_joins_b443 w I L D R x2 x3 x4 x5 x6 x7 = some (r, I', L', D', R')) : qc_fm qcSM (I, L, D, R) (I', L', D', R') ∧ qc_X (qc_rm (3) 0 0) qmX12_joins (qc_QM 0 0 (qc_eq none w (I', L', D', R'))) 0 0 w (443, [(0, .ref 291), (2, .int x2), (3, .int x3), (4, .int x4), (5, .int x5), (6, .int x6), (7, .int x7)], [.ref 291], I, L, D, R) := by
  unfold fX12_joins_b443 at h
  exact And.imp_right (fun hx => qc_iconst (qc_at qkX12_joins 231 rfl) <| qc_sub [0, 1, 2, 3, 4, 5, 6] rfl hx) (tX12_joins_b444 hn hR h)
def fX12_joins_b203 (w : qcW) (I : qTI) (L : qTL) (D : qTD) (R : qTR) (x1 : Int32) (x2 : Int32) (x3 : Int32) (x4 : Int32) (x5 : Int32) (x6 : Int32) (x7 : Int32) (s0 : Int32) : qcO Unit :=
  (if (3 : Int32) ≤ x1 then (if x1 = (4 : Int32) then (qc_bd (fX12_isNumber w I L D R x7) fun r43 I43 L43 D43 R43 => if r43 = true then (qc_bd (fX12_isNumber w I43 L43 D43 R43 x5) fun r45 I45 L45 D45 R45 => if r45 = true then (fX12_joins_b279 w I45 L45 D45 R45 x2 x3 x4 x6) else (fX12_joins_b269 w I45 L45 D45 R45 x2 x3 x4 x6 s0)) else (fX12_joins_b269 w I43 L43 D43 R43 x2 x3 x4 x6 s0)) else (if x1 = (5 : Int32) then (if s0 = 0 then (qc_bd (fX12_isWhole w I L D R x7) fun r39 I39 L39 D39 R39 => if r39 = true then (qc_bd (fX12_isWhole w I39 L39 D39 R39 x5) fun r41 I41 L41 D41 R41 => if r41 = true then (fX12_joins_b335 w I41 L41 D41 R41 x2 x3 x4 x5 x6 x7) else (fX12_joins_b339 w I41 L41 D41 R41 x2 x3 x4 x5 x6 x7)) else (fX12_joins_b339 w I39 L39 D39 R39 x2 x3 x4 x5 x6 x7)) else (fX12_joins_b335 w I L D R x2 x3 x4 x5 x6 x7)) else (if x1 = (6 : Int32) then (qc_bd (fX12_isWhole w I L D R x7) fun r34 I34 L34 D34 R34 => if r34 = true then (qc_bd (fX12_isWhole w I34 L34 D34 R34 x5) fun r36 I36 L36 D36 R36 => if r36 = true then (fX12_joins_b397 w I36 L36 D36 R36 x2 x3 x4 x6 x7 (1 : Int32)) else (fX12_joins_b396 w I36 L36 D36 R36 x2 x3 x4 x6 x7)) else (fX12_joins_b396 w I34 L34 D34 R34 x2 x3 x4 x6 x7)) else (qc_bd (fX12_isNumber w I L D R x7) fun r30 I30 L30 D30 R30 => if r30 = true then (qc_bd (fX12_isNumber w I30 L30 D30 R30 x5) fun r32 I32 L32 D32 R32 => if r32 = true then (fX12_joins_b444 w I32 L32 D32 R32 x2 x3 x4 x5 x6 x7 (1 : Int32)) else (fX12_joins_b443 w I32 L32 D32 R32 x2 x3 x4 x5 x6 x7)) else (fX12_joins_b443 w I30 L30 D30 R30 x2 x3 x4 x5 x6 x7))))) else (qc_bd (fX12_needs4 w I L D R s0 x3) fun r47 I47 L47 D47 R47 => if x1 = (1 : Int32) then (fX12_joins_b231 w I47 L47 D47 R47 x4 x6 (11 : Int32)) else (fX12_joins_b231 w I47 L47 D47 R47 x4 x6 (10 : Int32))))
set_option maxRecDepth 100000 in
set_option maxHeartbeats 4000000 in
theorem tX12_joins_b203 {w : qcW} {I : qTI} {L : qTL} {D : qTD} {R : qTR} {x1 : Int32} {x2 : Int32} {x3 : Int32} {x4 : Int32} {x5 : Int32} {x6 : Int32} {x7 : Int32} {s0 : Int32} {r : Unit} {I' : qTI} {L' : qTL} {D' : qTD} {R' : qTR} (hn : qcNF ≤ w.1) (hR : qc_FR R) (h : fX12_joins_b203 w I L D R x1 x2 x3 x4 x5 x6 x7 s0 = some (r, I', L', D', R')) : qc_fm qcSM (I, L, D, R) (I', L', D', R') ∧ qc_X (qc_rm (3) 0 0) qmX12_joins (qc_QM 0 0 (qc_eq none w (I', L', D', R'))) 0 0 w (203, [(0, .ref 291), (1, .int x1), (2, .int x2), (3, .int x3), (4, .int x4), (5, .int x5), (6, .int x6), (7, .int x7)], [.int s0], I, L, D, R) := by
  unfold fX12_joins_b203 at h
  refine And.imp_right (fun hx => qc_istore (lv' := [(8, _), (0, _), (1, _), (2, _), (3, _), (4, _), (5, _), (6, _), (7, _)]) (qc_at qkX12_joins 111 rfl) rfl rfl <| qc_iload_n (qc_at qkX12_joins 112 rfl) rfl <| qc_iconst (qc_at qkX12_joins 113 rfl) <| hx) ?_
  refine qc_andC (qc_icmp_ge (qc_at qkX12_joins 114 rfl)) (fun u26 => ?_) (fun u26 => ?_)
  · replace h := qc_jp u26 h
    refine And.imp_right (fun hx => qc_iload_n (qc_at qkX12_joins 135 rfl) rfl <| qc_iconst (qc_at qkX12_joins 136 rfl) <| hx) ?_
    refine qc_andN (qc_icmp_ne (qc_at qkX12_joins 137 rfl)) (fun u27 => ?_) (fun u27 => ?_)
    · replace h := qc_jn u27 h
      refine And.imp_right (fun hx => qc_iload_n (qc_at qkX12_joins 166 rfl) rfl <| qc_iconst (qc_at qkX12_joins 167 rfl) <| hx) ?_
      refine qc_andN (qc_icmp_ne (qc_at qkX12_joins 168 rfl)) (fun u28 => ?_) (fun u28 => ?_)
      · replace h := qc_jn u28 h
        refine And.imp_right (fun hx => qc_iload_n (qc_at qkX12_joins 196 rfl) rfl <| qc_bipush (qc_at qkX12_joins 197 rfl) <| hx) ?_
        refine qc_andN (qc_icmp_ne (qc_at qkX12_joins 198 rfl)) (fun u29 => ?_) (fun u29 => ?_)
        · replace h := qc_jn u29 h
          refine And.imp_right (fun hx => qc_aload_n (qc_at qkX12_joins 222 rfl) rfl <| qc_iload (qc_at qkX12_joins 223 rfl) rfl <| hx) ?_
          obtain ⟨r30, I30, L30, D30, R30, e30, h⟩ := qc_bd_of h
          have c30 := (tX12_isNumber hn hR e30)
          refine qd_cSv (qc_at qkX12_joins 224 rfl) ql_12_333 qfX12_isNumber c30 rfl rfl (Nat.le_of_ble_eq_true rfl) (qc_rml (by decide) (by decide)) ⟨Nat.zero_le _, Nat.zero_le _⟩ ?_
          refine qc_andB (qc_ifB_eq (qc_at qkX12_joins 225 rfl)) (fun u31 => ?_) (fun u31 => ?_)
          · replace h := qc_jf u31 h
            exact And.imp_right (fun hx => qc_sub [1, 3, 4, 5, 6, 7, 8] rfl hx) (tX12_joins_b443 hn (c30.1.1 hR) h)
          · replace h := qc_jt u31 h
            refine And.imp_right (fun hx => qc_iload (qc_at qkX12_joins 226 rfl) rfl <| hx) ?_
            obtain ⟨r32, I32, L32, D32, R32, e32, h⟩ := qc_bd_of h
            have c32 := (tX12_isNumber hn (c30.1.1 hR) e32)
            refine qd_cSv (qc_at qkX12_joins 227 rfl) ql_12_333 qfX12_isNumber c32 rfl rfl (Nat.le_of_ble_eq_true rfl) (qc_rml (by decide) (by decide)) ⟨Nat.zero_le _, Nat.zero_le _⟩ ?_
            refine qc_andB (qc_ifB_eq (qc_at qkX12_joins 228 rfl)) (fun u33 => ?_) (fun u33 => ?_)
            · replace h := qc_jf u33 h
              exact And.imp_right (fun hx => qc_sub [1, 3, 4, 5, 6, 7, 8] rfl hx) (tX12_joins_b443 hn (c32.1.1 (c30.1.1 hR)) h)
            · replace h := qc_jt u33 h
              exact And.imp_right (fun hx => qc_iconst (qc_at qkX12_joins 229 rfl) <| qc_goto (qc_at qkX12_joins 230 rfl) <| qc_sub [1, 3, 4, 5, 6, 7, 8] rfl hx) (tX12_joins_b444 hn (c32.1.1 (c30.1.1 hR)) h)
        · replace h := qc_jp u29 h
          refine And.imp_right (fun hx => qc_aload_n (qc_at qkX12_joins 199 rfl) rfl <| qc_iload (qc_at qkX12_joins 200 rfl) rfl <| hx) ?_
          obtain ⟨r34, I34, L34, D34, R34, e34, h⟩ := qc_bd_of h
          have c34 := (tX12_isWhole hn hR e34)
          refine qd_cSv (qc_at qkX12_joins 201 rfl) ql_12_336 qfX12_isWhole c34 rfl rfl (Nat.le_of_ble_eq_true rfl) (qc_rml (by decide) (by decide)) ⟨Nat.zero_le _, Nat.zero_le _⟩ ?_
          refine qc_andB (qc_ifB_eq (qc_at qkX12_joins 202 rfl)) (fun u35 => ?_) (fun u35 => ?_)
          · replace h := qc_jf u35 h
            exact And.imp_right (fun hx => qc_sub [1, 3, 4, 5, 7, 8] rfl hx) (tX12_joins_b396 hn (c34.1.1 hR) h)
          · replace h := qc_jt u35 h
            refine And.imp_right (fun hx => qc_iload (qc_at qkX12_joins 203 rfl) rfl <| hx) ?_
            obtain ⟨r36, I36, L36, D36, R36, e36, h⟩ := qc_bd_of h
            have c36 := (tX12_isWhole hn (c34.1.1 hR) e36)
            refine qd_cSv (qc_at qkX12_joins 204 rfl) ql_12_336 qfX12_isWhole c36 rfl rfl (Nat.le_of_ble_eq_true rfl) (qc_rml (by decide) (by decide)) ⟨Nat.zero_le _, Nat.zero_le _⟩ ?_
            refine qc_andB (qc_ifB_eq (qc_at qkX12_joins 205 rfl)) (fun u37 => ?_) (fun u37 => ?_)
            · replace h := qc_jf u37 h
              exact And.imp_right (fun hx => qc_sub [1, 3, 4, 5, 7, 8] rfl hx) (tX12_joins_b396 hn (c36.1.1 (c34.1.1 hR)) h)
            · replace h := qc_jt u37 h
              exact And.imp_right (fun hx => qc_iconst (qc_at qkX12_joins 206 rfl) <| qc_goto (qc_at qkX12_joins 207 rfl) <| qc_sub [1, 3, 4, 5, 7, 8] rfl hx) (tX12_joins_b397 hn (c36.1.1 (c34.1.1 hR)) h)
      · replace h := qc_jp u28 h
        refine And.imp_right (fun hx => qc_aload_n (qc_at qkX12_joins 169 rfl) rfl <| qc_iload (qc_at qkX12_joins 170 rfl) rfl <| hx) ?_
        refine qc_andN (qc_if_ne (qc_at qkX12_joins 171 rfl)) (fun u38 => ?_) (fun u38 => ?_)
        · replace h := qc_jn u38 h
          exact And.imp_right (fun hx => qc_sub [1, 3, 4, 5, 6, 7, 8] rfl hx) (tX12_joins_b335 hn hR h)
        · replace h := qc_jp u38 h
          refine And.imp_right (fun hx => qc_iload (qc_at qkX12_joins 172 rfl) rfl <| hx) ?_
          obtain ⟨r39, I39, L39, D39, R39, e39, h⟩ := qc_bd_of h
          have c39 := (tX12_isWhole hn hR e39)
          refine qd_cSv (qc_at qkX12_joins 173 rfl) ql_12_336 qfX12_isWhole c39 rfl rfl (Nat.le_of_ble_eq_true rfl) (qc_rml (by decide) (by decide)) ⟨Nat.zero_le _, Nat.zero_le _⟩ ?_
          refine qc_andB (qc_ifB_eq (qc_at qkX12_joins 174 rfl)) (fun u40 => ?_) (fun u40 => ?_)
          · replace h := qc_jf u40 h
            exact And.imp_right (fun hx => qc_sub [1, 3, 4, 5, 6, 7, 8] rfl hx) (tX12_joins_b339 hn (c39.1.1 hR) h)
          · replace h := qc_jt u40 h
            refine And.imp_right (fun hx => qc_iload (qc_at qkX12_joins 175 rfl) rfl <| hx) ?_
            obtain ⟨r41, I41, L41, D41, R41, e41, h⟩ := qc_bd_of h
            have c41 := (tX12_isWhole hn (c39.1.1 hR) e41)
            refine qd_cSv (qc_at qkX12_joins 176 rfl) ql_12_336 qfX12_isWhole c41 rfl rfl (Nat.le_of_ble_eq_true rfl) (qc_rml (by decide) (by decide)) ⟨Nat.zero_le _, Nat.zero_le _⟩ ?_
            refine qc_andB (qc_ifB_eq (qc_at qkX12_joins 177 rfl)) (fun u42 => ?_) (fun u42 => ?_)
            · replace h := qc_jf u42 h
              exact And.imp_right (fun hx => qc_sub [1, 3, 4, 5, 6, 7, 8] rfl hx) (tX12_joins_b339 hn (c41.1.1 (c39.1.1 hR)) h)
            · replace h := qc_jt u42 h
              exact And.imp_right (fun hx => qc_sub [1, 3, 4, 5, 6, 7, 8] rfl hx) (tX12_joins_b335 hn (c41.1.1 (c39.1.1 hR)) h)
    · replace h := qc_jp u27 h
      refine And.imp_right (fun hx => qc_aload_n (qc_at qkX12_joins 138 rfl) rfl <| qc_iload (qc_at qkX12_joins 139 rfl) rfl <| hx) ?_
      obtain ⟨r43, I43, L43, D43, R43, e43, h⟩ := qc_bd_of h
      have c43 := (tX12_isNumber hn hR e43)
      refine qd_cSv (qc_at qkX12_joins 140 rfl) ql_12_333 qfX12_isNumber c43 rfl rfl (Nat.le_of_ble_eq_true rfl) (qc_rml (by decide) (by decide)) ⟨Nat.zero_le _, Nat.zero_le _⟩ ?_
      refine qc_andB (qc_ifB_eq (qc_at qkX12_joins 141 rfl)) (fun u44 => ?_) (fun u44 => ?_)
      · replace h := qc_jf u44 h
        exact And.imp_right (fun hx => qc_sub [1, 3, 4, 5, 7, 0] rfl hx) (tX12_joins_b269 hn (c43.1.1 hR) h)
      · replace h := qc_jt u44 h
        refine And.imp_right (fun hx => qc_iload (qc_at qkX12_joins 142 rfl) rfl <| hx) ?_
        obtain ⟨r45, I45, L45, D45, R45, e45, h⟩ := qc_bd_of h
        have c45 := (tX12_isNumber hn (c43.1.1 hR) e45)
        refine qd_cSv (qc_at qkX12_joins 143 rfl) ql_12_333 qfX12_isNumber c45 rfl rfl (Nat.le_of_ble_eq_true rfl) (qc_rml (by decide) (by decide)) ⟨Nat.zero_le _, Nat.zero_le _⟩ ?_
        refine qc_andBn (qc_ifB_ne (qc_at qkX12_joins 144 rfl)) (fun u46 => ?_) (fun u46 => ?_)
        · replace h := qc_jt u46 h
          exact And.imp_right (fun hx => qc_sub [1, 3, 4, 5, 7] rfl hx) (tX12_joins_b279 hn (c45.1.1 (c43.1.1 hR)) h)
        · replace h := qc_jf u46 h
          exact And.imp_right (fun hx => qc_sub [1, 3, 4, 5, 7, 0] rfl hx) (tX12_joins_b269 hn (c45.1.1 (c43.1.1 hR)) h)
  · replace h := qc_jn u26 h
    refine And.imp_right (fun hx => qc_aload_n (qc_at qkX12_joins 115 rfl) rfl <| qc_iload (qc_at qkX12_joins 116 rfl) rfl <| qc_iload_n (qc_at qkX12_joins 117 rfl) rfl <| hx) ?_
    obtain ⟨r47, I47, L47, D47, R47, e47, h⟩ := qc_bd_of h
    have c47 := (tX12_needs4 hn hR e47)
    refine qd_cVn (ci := 10) (a0 := 291) (qc_at qkX12_joins 118 rfl) ql_12_339 qfX12_needs4 (qc_kf hn rfl) rfl c47 rfl rfl (Nat.le_of_ble_eq_true rfl) (qc_rml (by decide) (by decide)) ⟨Nat.zero_le _, Nat.zero_le _⟩ ?_
    refine And.imp_right (fun hx => qc_aload_n (qc_at qkX12_joins 119 rfl) rfl <| qc_aload_n (qc_at qkX12_joins 120 rfl) rfl <| qc_iload_n (qc_at qkX12_joins 121 rfl) rfl <| qc_iconst (qc_at qkX12_joins 122 rfl) <| hx) ?_
    refine qc_andN (qc_icmp_ne (qc_at qkX12_joins 123 rfl)) (fun u48 => ?_) (fun u48 => ?_)
    · replace h := qc_jn u48 h
      exact And.imp_right (fun hx => qc_bipush (qc_at qkX12_joins 126 rfl) <| qc_sub [5, 7] rfl hx) (tX12_joins_b231 hn (c47.1.1 hR) h)
    · replace h := qc_jp u48 h
      exact And.imp_right (fun hx => qc_bipush (qc_at qkX12_joins 124 rfl) <| qc_goto (qc_at qkX12_joins 125 rfl) <| qc_sub [5, 7] rfl hx) (tX12_joins_b231 hn (c47.1.1 hR) h)
def fX12_joins_b202 (w : qcW) (I : qTI) (L : qTL) (D : qTD) (R : qTR) (x1 : Int32) (x2 : Int32) (x3 : Int32) (x4 : Int32) (x5 : Int32) (x6 : Int32) (x7 : Int32) : qcO Unit :=
  (fX12_joins_b203 w I L D R x1 x2 x3 x4 x5 x6 x7 (0 : Int32))
set_option maxRecDepth 100000 in
set_option maxHeartbeats 4000000 in
theorem tX12_joins_b202 {w : qcW} {I : qTI} {L : qTL} {D : qTD} {R : qTR} {x1 : Int32} {x2 : Int32} {x3 : Int32} {x4 : Int32} {x5 : Int32} {x6 : Int32} {x7 : Int32} {r : Unit} {I' : qTI} {L' : qTL} {D' : qTD} {R' : qTR} (hn : qcNF ≤ w.1) (hR : qc_FR R) (h : fX12_joins_b202 w I L D R x1 x2 x3 x4 x5 x6 x7 = some (r, I', L', D', R')) : qc_fm qcSM (I, L, D, R) (I', L', D', R') ∧ qc_X (qc_rm (3) 0 0) qmX12_joins (qc_QM 0 0 (qc_eq none w (I', L', D', R'))) 0 0 w (202, [(0, .ref 291), (1, .int x1), (2, .int x2), (3, .int x3), (4, .int x4), (5, .int x5), (6, .int x6), (7, .int x7)], [], I, L, D, R) := by
  unfold fX12_joins_b202 at h
  exact And.imp_right (fun hx => qc_iconst (qc_at qkX12_joins 110 rfl) <| qc_sub [0, 1, 2, 3, 4, 5, 6, 7] rfl hx) (tX12_joins_b203 hn hR h)
def fX12_joins (w : qcW) (I : qTI) (L : qTL) (D : qTD) (R : qTR) : qcO Unit :=
  (qc_gd (qc_inb ((qc_u I 291 28 ((I 291 28) - (1 : Int32))) 291 28) 420) <| qc_gd (qc_inb ((qc_u I 291 28 ((I 291 28) - (1 : Int32))) 291 28) 420) <| qc_gd (qc_inb ((qc_u I 291 28 ((I 291 28) - (1 : Int32))) 291 28) 420) <| qc_bd (fX12_taken w (qc_u I 291 28 ((I 291 28) - (1 : Int32))) L D R) fun r52 I52 L52 D52 R52 => qc_gd (qc_inb r52 420) <| if ((qc_u I 291 28 ((I 291 28) - (1 : Int32))) 306 (Int32.toNatClampNeg ((qc_u I 291 28 ((I 291 28) - (1 : Int32))) 291 28))) = (9 : Int32) then (if ((qc_u I 291 28 ((I 291 28) - (1 : Int32))) 307 (Int32.toNatClampNeg ((qc_u I 291 28 ((I 291 28) - (1 : Int32))) 291 28))) = (1200 : Int32) then (qc_bd (fX12_isNumber w (qc_u I52 291 25 ((I52 291 25) - (1 : Int32))) L52 D52 R52 (I52 303 (Int32.toNatClampNeg r52))) fun r63 I63 L63 D63 R63 => fX12_joins_b92 w I63 L63 D63 R63 ((qc_u I 291 28 ((I 291 28) - (1 : Int32))) 307 (Int32.toNatClampNeg ((qc_u I 291 28 ((I 291 28) - (1 : Int32))) 291 28))) ((qc_u I 291 28 ((I 291 28) - (1 : Int32))) 308 (Int32.toNatClampNeg ((qc_u I 291 28 ((I 291 28) - (1 : Int32))) 291 28))) r52 (I52 303 (Int32.toNatClampNeg r52)) (qc_b r63)) else (qc_bd (fX12_isWhole w (qc_u I52 291 25 ((I52 291 25) - (1 : Int32))) L52 D52 R52 (I52 303 (Int32.toNatClampNeg r52))) fun r62 I62 L62 D62 R62 => fX12_joins_b92 w I62 L62 D62 R62 ((qc_u I 291 28 ((I 291 28) - (1 : Int32))) 307 (Int32.toNatClampNeg ((qc_u I 291 28 ((I 291 28) - (1 : Int32))) 291 28))) ((qc_u I 291 28 ((I 291 28) - (1 : Int32))) 308 (Int32.toNatClampNeg ((qc_u I 291 28 ((I 291 28) - (1 : Int32))) 291 28))) r52 (I52 303 (Int32.toNatClampNeg r52)) (qc_b r62))) else (if ((qc_u I 291 28 ((I 291 28) - (1 : Int32))) 306 (Int32.toNatClampNeg ((qc_u I 291 28 ((I 291 28) - (1 : Int32))) 291 28))) = (3 : Int32) then (if (I52 303 (Int32.toNatClampNeg r52)) = 0 then (fX12_joins_b152 w (qc_u I52 291 25 ((I52 291 25) - (1 : Int32))) L52 D52 R52 ((qc_u I 291 28 ((I 291 28) - (1 : Int32))) 308 (Int32.toNatClampNeg ((qc_u I 291 28 ((I 291 28) - (1 : Int32))) 291 28))) r52 (1 : Int32)) else (fX12_joins_b152 w (qc_u I52 291 25 ((I52 291 25) - (1 : Int32))) L52 D52 R52 ((qc_u I 291 28 ((I 291 28) - (1 : Int32))) 308 (Int32.toNatClampNeg ((qc_u I 291 28 ((I 291 28) - (1 : Int32))) 291 28))) r52 (0 : Int32))) else (qc_bd (fX12_taken w I52 L52 D52 R52) fun r56 I56 L56 D56 R56 => qc_gd (qc_inb r56 420) <| if (I56 303 (Int32.toNatClampNeg r56)) = 0 then (if (I52 303 (Int32.toNatClampNeg r52)) = 0 then (fX12_joins_b203 w I56 L56 D56 R56 ((qc_u I 291 28 ((I 291 28) - (1 : Int32))) 306 (Int32.toNatClampNeg ((qc_u I 291 28 ((I 291 28) - (1 : Int32))) 291 28))) ((qc_u I 291 28 ((I 291 28) - (1 : Int32))) 307 (Int32.toNatClampNeg ((qc_u I 291 28 ((I 291 28) - (1 : Int32))) 291 28))) ((qc_u I 291 28 ((I 291 28) - (1 : Int32))) 308 (Int32.toNatClampNeg ((qc_u I 291 28 ((I 291 28) - (1 : Int32))) 291 28))) r52 (I52 303 (Int32.toNatClampNeg r52)) r56 (I56 303 (Int32.toNatClampNeg r56)) (1 : Int32)) else (fX12_joins_b202 w I56 L56 D56 R56 ((qc_u I 291 28 ((I 291 28) - (1 : Int32))) 306 (Int32.toNatClampNeg ((qc_u I 291 28 ((I 291 28) - (1 : Int32))) 291 28))) ((qc_u I 291 28 ((I 291 28) - (1 : Int32))) 307 (Int32.toNatClampNeg ((qc_u I 291 28 ((I 291 28) - (1 : Int32))) 291 28))) ((qc_u I 291 28 ((I 291 28) - (1 : Int32))) 308 (Int32.toNatClampNeg ((qc_u I 291 28 ((I 291 28) - (1 : Int32))) 291 28))) r52 (I52 303 (Int32.toNatClampNeg r52)) r56 (I56 303 (Int32.toNatClampNeg r56)))) else (fX12_joins_b202 w I56 L56 D56 R56 ((qc_u I 291 28 ((I 291 28) - (1 : Int32))) 306 (Int32.toNatClampNeg ((qc_u I 291 28 ((I 291 28) - (1 : Int32))) 291 28))) ((qc_u I 291 28 ((I 291 28) - (1 : Int32))) 307 (Int32.toNatClampNeg ((qc_u I 291 28 ((I 291 28) - (1 : Int32))) 291 28))) ((qc_u I 291 28 ((I 291 28) - (1 : Int32))) 308 (Int32.toNatClampNeg ((qc_u I 291 28 ((I 291 28) - (1 : Int32))) 291 28))) r52 (I52 303 (Int32.toNatClampNeg r52)) r56 (I56 303 (Int32.toNatClampNeg r56))))))
set_option maxRecDepth 100000 in
set_option maxHeartbeats 4000000 in
theorem tX12_joins {w : qcW} {I : qTI} {L : qTL} {D : qTD} {R : qTR} {r : Unit} {I' : qTI} {L' : qTL} {D' : qTD} {R' : qTR} (hn : qcNF ≤ w.1) (hR : qc_FR R) (h : fX12_joins w I L D R = some (r, I', L', D', R')) : qc_fm qcSM (I, L, D, R) (I', L', D', R') ∧ qc_V (3) 0 0 qmX12_joins [.ref 291] w (I, L, D, R) (qc_eq none w (I', L', D', R')) := by
  unfold fX12_joins at h
  refine And.imp_right (fun hx => qc_V.of rfl rfl (Nat.le_of_ble_eq_true rfl) (lv := [(0, .ref 291)]) rfl hx) ?_
  refine And.imp_right (fun hx => qc_aload_n (qc_at qkX12_joins 0 rfl) rfl <| qc_dup (qc_at qkX12_joins 1 rfl) rfl <| qc_gI (qc_at qkX12_joins 2 rfl) hn rfl <| qc_iconst (qc_at qkX12_joins 3 rfl) <| qc_isub (qc_at qkX12_joins 4 rfl) <| hx) (qd_pI (qc_at qkX12_joins 5 rfl) hn rfl rfl ?_)
  refine And.imp_right (fun hx => qc_aload_n (qc_at qkX12_joins 6 rfl) rfl <| qc_gR (qc_at qkX12_joins 7 rfl) hn rfl (qfr_291_29 hR) rfl <| qc_aload_n (qc_at qkX12_joins 8 rfl) rfl <| qc_gI (qc_at qkX12_joins 9 rfl) hn rfl <| hx) ?_
  obtain ⟨g49, h⟩ := qc_gd_of h
  refine And.imp_right (fun hx => qc_iald 420 (qc_at qkX12_joins 10 rfl) hn rfl (qc_inb_in g49) <| qc_istore_n (lv' := [(1, _), (0, _)]) (qc_at qkX12_joins 11 rfl) rfl rfl <| qc_aload_n (qc_at qkX12_joins 12 rfl) rfl <| qc_gR (qc_at qkX12_joins 13 rfl) hn rfl (qfr_291_30 hR) rfl <| qc_aload_n (qc_at qkX12_joins 14 rfl) rfl <| qc_gI (qc_at qkX12_joins 15 rfl) hn rfl <| hx) ?_
  obtain ⟨g50, h⟩ := qc_gd_of h
  refine And.imp_right (fun hx => qc_iald 420 (qc_at qkX12_joins 16 rfl) hn rfl (qc_inb_in g50) <| qc_istore_n (lv' := [(2, _), (1, _), (0, _)]) (qc_at qkX12_joins 17 rfl) rfl rfl <| qc_aload_n (qc_at qkX12_joins 18 rfl) rfl <| qc_gR (qc_at qkX12_joins 19 rfl) hn rfl (qfr_291_31 hR) rfl <| qc_aload_n (qc_at qkX12_joins 20 rfl) rfl <| qc_gI (qc_at qkX12_joins 21 rfl) hn rfl <| hx) ?_
  obtain ⟨g51, h⟩ := qc_gd_of h
  refine And.imp_right (fun hx => qc_iald 420 (qc_at qkX12_joins 22 rfl) hn rfl (qc_inb_in g51) <| qc_istore_n (lv' := [(3, _), (2, _), (1, _), (0, _)]) (qc_at qkX12_joins 23 rfl) rfl rfl <| qc_aload_n (qc_at qkX12_joins 24 rfl) rfl <| hx) ?_
  obtain ⟨r52, I52, L52, D52, R52, e52, h⟩ := qc_bd_of h
  have c52 := (tX12_taken hn hR e52)
  refine qd_cVv (ci := 10) (a0 := 291) (qc_at qkX12_joins 25 rfl) ql_12_330 qfX12_taken (qc_kf hn rfl) rfl c52 rfl rfl (Nat.le_of_ble_eq_true rfl) (qc_rml (by decide) (by decide)) ⟨Nat.zero_le _, Nat.zero_le _⟩ ?_
  refine And.imp_right (fun hx => qc_istore (lv' := [(4, _), (3, _), (2, _), (1, _), (0, _)]) (qc_at qkX12_joins 26 rfl) rfl rfl <| qc_aload_n (qc_at qkX12_joins 27 rfl) rfl <| qc_gR (qc_at qkX12_joins 28 rfl) hn rfl (qfr_291_23 (c52.1.1 hR)) rfl <| qc_iload (qc_at qkX12_joins 29 rfl) rfl <| hx) ?_
  obtain ⟨g53, h⟩ := qc_gd_of h
  refine And.imp_right (fun hx => qc_iald 420 (qc_at qkX12_joins 30 rfl) hn rfl (qc_inb_in g53) <| qc_istore (lv' := [(5, _), (4, _), (3, _), (2, _), (1, _), (0, _)]) (qc_at qkX12_joins 31 rfl) rfl rfl <| qc_iload_n (qc_at qkX12_joins 32 rfl) rfl <| qc_bipush (qc_at qkX12_joins 33 rfl) <| hx) ?_
  refine qc_andN (qc_icmp_ne (qc_at qkX12_joins 34 rfl)) (fun u54 => ?_) (fun u54 => ?_)
  · replace h := qc_jn u54 h
    refine And.imp_right (fun hx => qc_iload_n (qc_at qkX12_joins 68 rfl) rfl <| qc_iconst (qc_at qkX12_joins 69 rfl) <| hx) ?_
    refine qc_andN (qc_icmp_ne (qc_at qkX12_joins 70 rfl)) (fun u55 => ?_) (fun u55 => ?_)
    · replace h := qc_jn u55 h
      refine And.imp_right (fun hx => qc_aload_n (qc_at qkX12_joins 96 rfl) rfl <| hx) ?_
      obtain ⟨r56, I56, L56, D56, R56, e56, h⟩ := qc_bd_of h
      have c56 := (tX12_taken hn (c52.1.1 hR) e56)
      refine qd_cVv (ci := 10) (a0 := 291) (qc_at qkX12_joins 97 rfl) ql_12_330 qfX12_taken (qc_kf hn rfl) rfl c56 rfl rfl (Nat.le_of_ble_eq_true rfl) (qc_rml (by decide) (by decide)) ⟨Nat.zero_le _, Nat.zero_le _⟩ ?_
      refine And.imp_right (fun hx => qc_istore (lv' := [(6, _), (5, _), (4, _), (3, _), (2, _), (1, _), (0, _)]) (qc_at qkX12_joins 98 rfl) rfl rfl <| qc_aload_n (qc_at qkX12_joins 99 rfl) rfl <| qc_gR (qc_at qkX12_joins 100 rfl) hn rfl (qfr_291_23 (c56.1.1 (c52.1.1 hR))) rfl <| qc_iload (qc_at qkX12_joins 101 rfl) rfl <| hx) ?_
      obtain ⟨g57, h⟩ := qc_gd_of h
      refine And.imp_right (fun hx => qc_iald 420 (qc_at qkX12_joins 102 rfl) hn rfl (qc_inb_in g57) <| qc_istore (lv' := [(7, _), (6, _), (5, _), (4, _), (3, _), (2, _), (1, _), (0, _)]) (qc_at qkX12_joins 103 rfl) rfl rfl <| qc_iload (qc_at qkX12_joins 104 rfl) rfl <| hx) ?_
      refine qc_andN (qc_if_ne (qc_at qkX12_joins 105 rfl)) (fun u58 => ?_) (fun u58 => ?_)
      · replace h := qc_jn u58 h
        exact And.imp_right (fun hx => qc_sub [7, 6, 5, 4, 3, 2, 1, 0] rfl hx) (tX12_joins_b202 hn (c56.1.1 (c52.1.1 hR)) h)
      · replace h := qc_jp u58 h
        refine And.imp_right (fun hx => qc_iload (qc_at qkX12_joins 106 rfl) rfl <| hx) ?_
        refine qc_andN (qc_if_ne (qc_at qkX12_joins 107 rfl)) (fun u59 => ?_) (fun u59 => ?_)
        · replace h := qc_jn u59 h
          exact And.imp_right (fun hx => qc_sub [7, 6, 5, 4, 3, 2, 1, 0] rfl hx) (tX12_joins_b202 hn (c56.1.1 (c52.1.1 hR)) h)
        · replace h := qc_jp u59 h
          exact And.imp_right (fun hx => qc_iconst (qc_at qkX12_joins 108 rfl) <| qc_goto (qc_at qkX12_joins 109 rfl) <| qc_sub [7, 6, 5, 4, 3, 2, 1, 0] rfl hx) (tX12_joins_b203 hn (c56.1.1 (c52.1.1 hR)) h)
    · replace h := qc_jp u55 h
      refine And.imp_right (fun hx => qc_aload_n (qc_at qkX12_joins 71 rfl) rfl <| qc_dup (qc_at qkX12_joins 72 rfl) rfl <| qc_gI (qc_at qkX12_joins 73 rfl) hn rfl <| qc_iconst (qc_at qkX12_joins 74 rfl) <| qc_isub (qc_at qkX12_joins 75 rfl) <| hx) (qd_pI (qc_at qkX12_joins 76 rfl) hn rfl rfl ?_)
      refine And.imp_right (fun hx => qc_aload_n (qc_at qkX12_joins 77 rfl) rfl <| qc_iload (qc_at qkX12_joins 78 rfl) rfl <| hx) ?_
      refine qc_andN (qc_if_ne (qc_at qkX12_joins 79 rfl)) (fun u60 => ?_) (fun u60 => ?_)
      · replace h := qc_jn u60 h
        exact And.imp_right (fun hx => qc_iconst (qc_at qkX12_joins 82 rfl) <| qc_sub [5, 2, 1] rfl hx) (tX12_joins_b152 hn (c52.1.1 hR) h)
      · replace h := qc_jp u60 h
        exact And.imp_right (fun hx => qc_iconst (qc_at qkX12_joins 80 rfl) <| qc_goto (qc_at qkX12_joins 81 rfl) <| qc_sub [5, 2, 1] rfl hx) (tX12_joins_b152 hn (c52.1.1 hR) h)
  · replace h := qc_jp u54 h
    refine And.imp_right (fun hx => qc_aload_n (qc_at qkX12_joins 35 rfl) rfl <| qc_dup (qc_at qkX12_joins 36 rfl) rfl <| qc_gI (qc_at qkX12_joins 37 rfl) hn rfl <| qc_iconst (qc_at qkX12_joins 38 rfl) <| qc_isub (qc_at qkX12_joins 39 rfl) <| hx) (qd_pI (qc_at qkX12_joins 40 rfl) hn rfl rfl ?_)
    refine And.imp_right (fun hx => qc_aload_n (qc_at qkX12_joins 41 rfl) rfl <| qc_iload_n (qc_at qkX12_joins 42 rfl) rfl <| qc_sipush (qc_at qkX12_joins 43 rfl) <| hx) ?_
    refine qc_andN (qc_icmp_ne (qc_at qkX12_joins 44 rfl)) (fun u61 => ?_) (fun u61 => ?_)
    · replace h := qc_jn u61 h
      refine And.imp_right (fun hx => qc_iload (qc_at qkX12_joins 48 rfl) rfl <| hx) ?_
      obtain ⟨r62, I62, L62, D62, R62, e62, h⟩ := qc_bd_of h
      have c62 := (tX12_isWhole hn (c52.1.1 hR) e62)
      refine qd_cSv (qc_at qkX12_joins 49 rfl) ql_12_336 qfX12_isWhole c62 rfl rfl (Nat.le_of_ble_eq_true rfl) (qc_rml (by decide) (by decide)) ⟨Nat.zero_le _, Nat.zero_le _⟩ ?_
      exact And.imp_right (fun hx => qc_sub [5, 3, 2, 1, 0] rfl hx) (tX12_joins_b92 hn (c62.1.1 (c52.1.1 hR)) h)
    · replace h := qc_jp u61 h
      refine And.imp_right (fun hx => qc_iload (qc_at qkX12_joins 45 rfl) rfl <| hx) ?_
      obtain ⟨r63, I63, L63, D63, R63, e63, h⟩ := qc_bd_of h
      have c63 := (tX12_isNumber hn (c52.1.1 hR) e63)
      refine qd_cSv (qc_at qkX12_joins 46 rfl) ql_12_333 qfX12_isNumber c63 rfl rfl (Nat.le_of_ble_eq_true rfl) (qc_rml (by decide) (by decide)) ⟨Nat.zero_le _, Nat.zero_le _⟩ ?_
      exact And.imp_right (fun hx => qc_goto (qc_at qkX12_joins 47 rfl) <| qc_sub [5, 3, 2, 1, 0] rfl hx) (tX12_joins_b92 hn (c63.1.1 (c52.1.1 hR)) h)
