def fX12_joinsDown_b0 (w : qcW) (k0 : qTI × qTL × qTD × qTR × Int32 → qcO Unit) (I : qTI) (L : qTL) (D : qTD) (R : qTR) (x1 : Int32) : qcO Unit :=
  (if (I 291 15) = 0 then (qc_gd (qc_inb ((I 291 34) - (1 : Int32)) 40) <| if (I 291 28) ≤ (I 311 (Int32.toNatClampNeg ((I 291 34) - (1 : Int32)))) then (some ((), I, L, D, R)) else (qc_gd (qc_inb ((I 291 28) - (1 : Int32)) 420) <| if (I 306 (Int32.toNatClampNeg ((I 291 28) - (1 : Int32)))) < x1 then (some ((), I, L, D, R)) else (qc_bd (fX12_joins w I L D R) fun r6 I6 L6 D6 R6 => k0 (I6, L6, D6, R6, x1)))) else (some ((), I, L, D, R)))
set_option maxRecDepth 100000 in
set_option maxHeartbeats 4000000 in
theorem tX12_joinsDown_b0 {w : qcW} {I : qTI} {L : qTL} {D : qTD} {R : qTR} {k0 : qTI × qTL × qTD × qTR × Int32 → qcO Unit} {x1 : Int32} {r : Unit} {I' : qTI} {L' : qTL} {D' : qTD} {R' : qTR} (hn : qcNF ≤ w.1) (hR : qc_FR R) (hk0 : ∀ {I : qTI} {L : qTL} {D : qTD} {R : qTR} {x1 : Int32} {r : Unit} {I' : qTI} {L' : qTL} {D' : qTD} {R' : qTR}, qc_FR R → k0 (I, L, D, R, x1) = some (r, I', L', D', R') → qc_fm qcSM (I, L, D, R) (I', L', D', R') ∧ qc_X (qc_rm (4) 0 0) qmX12_joinsDown (qc_QM 0 0 (qc_eq none w (I', L', D', R'))) 0 0 w (0, [(0, .ref 291), (1, .int x1)], [], I, L, D, R)) (h : fX12_joinsDown_b0 w k0 I L D R x1 = some (r, I', L', D', R')) : qc_fm qcSM (I, L, D, R) (I', L', D', R') ∧ qc_X (qc_rm (4) 0 0) qmX12_joinsDown (qc_QM 0 0 (qc_eq none w (I', L', D', R'))) 0 0 w (0, [(0, .ref 291), (1, .int x1)], [], I, L, D, R) := by
  unfold fX12_joinsDown_b0 at h
  refine And.imp_right (fun hx => qc_aload_n (qc_at qkX12_joinsDown 0 rfl) rfl <| qc_gI (qc_at qkX12_joinsDown 1 rfl) hn rfl <| hx) ?_
  refine qc_andN (qc_if_ne (qc_at qkX12_joinsDown 2 rfl)) (fun u1 => ?_) (fun u1 => ?_)
  · replace h := qc_jn u1 h
    obtain ⟨rfl, rfl, rfl, rfl, rfl⟩ := qc_some5 h
    exact ⟨qc_fm.rf _, qc_vret (qc_at qkX12_joinsDown 25 rfl) rfl (Nat.le_refl _) (Nat.le_refl _) (qc_eq.rf _ _ _)⟩
  · replace h := qc_jp u1 h
    refine And.imp_right (fun hx => qc_aload_n (qc_at qkX12_joinsDown 3 rfl) rfl <| qc_gI (qc_at qkX12_joinsDown 4 rfl) hn rfl <| qc_aload_n (qc_at qkX12_joinsDown 5 rfl) rfl <| qc_gR (qc_at qkX12_joinsDown 6 rfl) hn rfl (qfr_291_36 hR) rfl <| qc_aload_n (qc_at qkX12_joinsDown 7 rfl) rfl <| qc_gI (qc_at qkX12_joinsDown 8 rfl) hn rfl <| qc_iconst (qc_at qkX12_joinsDown 9 rfl) <| qc_isub (qc_at qkX12_joinsDown 10 rfl) <| hx) ?_
    obtain ⟨g2, h⟩ := qc_gd_of h
    refine And.imp_right (fun hx => qc_iald 40 (qc_at qkX12_joinsDown 11 rfl) hn rfl (qc_inb_in g2) <| hx) ?_
    refine qc_andC (qc_icmp_le (qc_at qkX12_joinsDown 12 rfl)) (fun u3 => ?_) (fun u3 => ?_)
    · replace h := qc_jp u3 h
      obtain ⟨rfl, rfl, rfl, rfl, rfl⟩ := qc_some5 h
      exact ⟨qc_fm.rf _, qc_vret (qc_at qkX12_joinsDown 25 rfl) rfl (Nat.le_refl _) (Nat.le_refl _) (qc_eq.rf _ _ _)⟩
    · replace h := qc_jn u3 h
      refine And.imp_right (fun hx => qc_aload_n (qc_at qkX12_joinsDown 13 rfl) rfl <| qc_gR (qc_at qkX12_joinsDown 14 rfl) hn rfl (qfr_291_29 hR) rfl <| qc_aload_n (qc_at qkX12_joinsDown 15 rfl) rfl <| qc_gI (qc_at qkX12_joinsDown 16 rfl) hn rfl <| qc_iconst (qc_at qkX12_joinsDown 17 rfl) <| qc_isub (qc_at qkX12_joinsDown 18 rfl) <| hx) ?_
      obtain ⟨g4, h⟩ := qc_gd_of h
      refine And.imp_right (fun hx => qc_iald 420 (qc_at qkX12_joinsDown 19 rfl) hn rfl (qc_inb_in g4) <| qc_iload_n (qc_at qkX12_joinsDown 20 rfl) rfl <| hx) ?_
      refine qc_andC (qc_icmp_lt (qc_at qkX12_joinsDown 21 rfl)) (fun u5 => ?_) (fun u5 => ?_)
      · replace h := qc_jp u5 h
        obtain ⟨rfl, rfl, rfl, rfl, rfl⟩ := qc_some5 h
        exact ⟨qc_fm.rf _, qc_vret (qc_at qkX12_joinsDown 25 rfl) rfl (Nat.le_refl _) (Nat.le_refl _) (qc_eq.rf _ _ _)⟩
      · replace h := qc_jn u5 h
        refine And.imp_right (fun hx => qc_aload_n (qc_at qkX12_joinsDown 22 rfl) rfl <| hx) ?_
        obtain ⟨r6, I6, L6, D6, R6, e6, h⟩ := qc_bd_of h
        have c6 := (tX12_joins hn hR e6)
        refine qd_cVn (ci := 10) (a0 := 291) (qc_at qkX12_joinsDown 23 rfl) ql_12_353 qfX12_joins (qc_kf hn rfl) rfl c6 rfl rfl (Nat.le_of_ble_eq_true rfl) (qc_rml (by decide) (by decide)) ⟨Nat.zero_le _, Nat.zero_le _⟩ ?_
        exact And.imp_right (fun hx => qc_goto (qc_at qkX12_joinsDown 24 rfl) <| qc_sub [0, 1] rfl hx) (hk0 (c6.1.1 hR) h)
def fX12_joinsDown_l0 (w : qcW) : Nat → qTI × qTL × qTD × qTR × Int32 → qcO Unit := qc_lp (fun k q => match q with | (I, L, D, R, x1) => fX12_joinsDown_b0 w k I L D R x1)
set_option maxRecDepth 100000 in
set_option maxHeartbeats 4000000 in
theorem tX12_joinsDown_l0 {w : qcW} (hn : qcNF ≤ w.1) : ∀ (n : Nat) {r : Unit} {I' : qTI} {L' : qTL} {D' : qTD} {R' : qTR} {I : qTI} {L : qTL} {D : qTD} {R : qTR} {x1 : Int32} (hR : qc_FR R) (h : fX12_joinsDown_l0 w n (I, L, D, R, x1) = some (r, I', L', D', R')), qc_fm qcSM (I, L, D, R) (I', L', D', R') ∧ qc_X (qc_rm (4) 0 0) qmX12_joinsDown (qc_QM 0 0 (qc_eq none w (I', L', D', R'))) 0 0 w (0, [(0, .ref 291), (1, .int x1)], [], I, L, D, R) := by
  intro n
  induction n with
  | zero => intro _ _ _ _ _ _ _ _ _ _ _ h; cases h
  | succ n ih => intro _ _ _ _ _ _ _ _ _ _ hR h; exact tX12_joinsDown_b0 hn hR (k0 := fX12_joinsDown_l0 w n) (fun hR h => ih hR h) h
def fX12_joinsDown (w : qcW) (I : qTI) (L : qTL) (D : qTD) (R : qTR) (x1 : Int32) : qcO Unit :=
  (fX12_joinsDown_l0 w qcF (I, L, D, R, x1))
set_option maxRecDepth 100000 in
set_option maxHeartbeats 4000000 in
theorem tX12_joinsDown {w : qcW} {I : qTI} {L : qTL} {D : qTD} {R : qTR} {x1 : Int32} {r : Unit} {I' : qTI} {L' : qTL} {D' : qTD} {R' : qTR} (hn : qcNF ≤ w.1) (hR : qc_FR R) (h : fX12_joinsDown w I L D R x1 = some (r, I', L', D', R')) : qc_fm qcSM (I, L, D, R) (I', L', D', R') ∧ qc_V (4) 0 0 qmX12_joinsDown [.ref 291, .int x1] w (I, L, D, R) (qc_eq none w (I', L', D', R')) := by
  unfold fX12_joinsDown at h
  refine And.imp_right (fun hx => qc_V.of rfl rfl (Nat.le_of_ble_eq_true rfl) (lv := [(0, .ref 291), (1, .int x1)]) rfl hx) ?_
  exact And.imp_right (fun hx => qc_sub [0, 1] rfl hx) (tX12_joinsDown_l0 hn qcF hR h)
def fX12_comparison (w : qcW) (I : qTI) (L : qTL) (D : qTD) (R : qTR) : qcO Int32 :=
  (qc_bd (fX12_is w I L D R (61 : Int32)) fun r1 I1 L1 D1 R1 => if r1 = true then (some ((0 : Int32), I1, L1, D1, R1)) else (qc_bd (fX12_isSign w I1 L1 D1 R1 (33 : Int32) (61 : Int32) (0 : Int32)) fun r3 I3 L3 D3 R3 => if r3 = true then (some ((1 : Int32), I3, L3, D3, R3)) else (qc_bd (fX12_is w I3 L3 D3 R3 (60 : Int32)) fun r5 I5 L5 D5 R5 => if r5 = true then (some ((2 : Int32), I5, L5, D5, R5)) else (qc_bd (fX12_is w I5 L5 D5 R5 (62 : Int32)) fun r7 I7 L7 D7 R7 => if r7 = true then (some ((3 : Int32), I7, L7, D7, R7)) else (qc_bd (fX12_isSign w I7 L7 D7 R7 (60 : Int32) (61 : Int32) (0 : Int32)) fun r9 I9 L9 D9 R9 => if r9 = true then (some ((4 : Int32), I9, L9, D9, R9)) else (qc_bd (fX12_isSign w I9 L9 D9 R9 (62 : Int32) (61 : Int32) (0 : Int32)) fun r11 I11 L11 D11 R11 => if r11 = true then (some ((5 : Int32), I11, L11, D11, R11)) else (some ((-1 : Int32), I11, L11, D11, R11))))))))
set_option maxRecDepth 100000 in
set_option maxHeartbeats 4000000 in
theorem tX12_comparison {w : qcW} {I : qTI} {L : qTL} {D : qTD} {R : qTR} {r : Int32} {I' : qTI} {L' : qTL} {D' : qTD} {R' : qTR} (hn : qcNF ≤ w.1) (hR : qc_FR R) (h : fX12_comparison w I L D R = some (r, I', L', D', R')) : qc_fm qcSM (I, L, D, R) (I', L', D', R') ∧ qc_V (2) 0 0 qmX12_comparison [.ref 291] w (I, L, D, R) (qc_eq (some (.int r)) w (I', L', D', R')) := by
  unfold fX12_comparison at h
  refine And.imp_right (fun hx => qc_V.of rfl rfl (Nat.le_of_ble_eq_true rfl) (lv := [(0, .ref 291)]) rfl hx) ?_
  refine And.imp_right (fun hx => qc_aload_n (qc_at qkX12_comparison 0 rfl) rfl <| qc_bipush (qc_at qkX12_comparison 1 rfl) <| hx) ?_
  obtain ⟨r1, I1, L1, D1, R1, e1, h⟩ := qc_bd_of h
  have c1 := (tX12_is hn hR e1)
  refine qd_cVv (ci := 10) (a0 := 291) (qc_at qkX12_comparison 2 rfl) ql_12_301 qfX12_is (qc_kf hn rfl) rfl c1 rfl rfl (Nat.le_of_ble_eq_true rfl) (qc_rml (by decide) (by decide)) ⟨Nat.zero_le _, Nat.zero_le _⟩ ?_
  refine qc_andB (qc_ifB_eq (qc_at qkX12_comparison 3 rfl)) (fun u2 => ?_) (fun u2 => ?_)
  · replace h := qc_jf u2 h
    refine And.imp_right (fun hx => qc_aload_n (qc_at qkX12_comparison 6 rfl) rfl <| qc_bipush (qc_at qkX12_comparison 7 rfl) <| qc_bipush (qc_at qkX12_comparison 8 rfl) <| qc_iconst (qc_at qkX12_comparison 9 rfl) <| hx) ?_
    obtain ⟨r3, I3, L3, D3, R3, e3, h⟩ := qc_bd_of h
    have c3 := (tX12_isSign hn (c1.1.1 hR) e3)
    refine qd_cVv (ci := 10) (a0 := 291) (qc_at qkX12_comparison 10 rfl) ql_12_297 qfX12_isSign (qc_kf hn rfl) rfl c3 rfl rfl (Nat.le_of_ble_eq_true rfl) (qc_rml (by decide) (by decide)) ⟨Nat.zero_le _, Nat.zero_le _⟩ ?_
    refine qc_andB (qc_ifB_eq (qc_at qkX12_comparison 11 rfl)) (fun u4 => ?_) (fun u4 => ?_)
    · replace h := qc_jf u4 h
      refine And.imp_right (fun hx => qc_aload_n (qc_at qkX12_comparison 14 rfl) rfl <| qc_bipush (qc_at qkX12_comparison 15 rfl) <| hx) ?_
      obtain ⟨r5, I5, L5, D5, R5, e5, h⟩ := qc_bd_of h
      have c5 := (tX12_is hn (c3.1.1 (c1.1.1 hR)) e5)
      refine qd_cVv (ci := 10) (a0 := 291) (qc_at qkX12_comparison 16 rfl) ql_12_301 qfX12_is (qc_kf hn rfl) rfl c5 rfl rfl (Nat.le_of_ble_eq_true rfl) (qc_rml (by decide) (by decide)) ⟨Nat.zero_le _, Nat.zero_le _⟩ ?_
      refine qc_andB (qc_ifB_eq (qc_at qkX12_comparison 17 rfl)) (fun u6 => ?_) (fun u6 => ?_)
      · replace h := qc_jf u6 h
        refine And.imp_right (fun hx => qc_aload_n (qc_at qkX12_comparison 20 rfl) rfl <| qc_bipush (qc_at qkX12_comparison 21 rfl) <| hx) ?_
        obtain ⟨r7, I7, L7, D7, R7, e7, h⟩ := qc_bd_of h
        have c7 := (tX12_is hn (c5.1.1 (c3.1.1 (c1.1.1 hR))) e7)
        refine qd_cVv (ci := 10) (a0 := 291) (qc_at qkX12_comparison 22 rfl) ql_12_301 qfX12_is (qc_kf hn rfl) rfl c7 rfl rfl (Nat.le_of_ble_eq_true rfl) (qc_rml (by decide) (by decide)) ⟨Nat.zero_le _, Nat.zero_le _⟩ ?_
        refine qc_andB (qc_ifB_eq (qc_at qkX12_comparison 23 rfl)) (fun u8 => ?_) (fun u8 => ?_)
        · replace h := qc_jf u8 h
          refine And.imp_right (fun hx => qc_aload_n (qc_at qkX12_comparison 26 rfl) rfl <| qc_bipush (qc_at qkX12_comparison 27 rfl) <| qc_bipush (qc_at qkX12_comparison 28 rfl) <| qc_iconst (qc_at qkX12_comparison 29 rfl) <| hx) ?_
          obtain ⟨r9, I9, L9, D9, R9, e9, h⟩ := qc_bd_of h
          have c9 := (tX12_isSign hn (c7.1.1 (c5.1.1 (c3.1.1 (c1.1.1 hR)))) e9)
          refine qd_cVv (ci := 10) (a0 := 291) (qc_at qkX12_comparison 30 rfl) ql_12_297 qfX12_isSign (qc_kf hn rfl) rfl c9 rfl rfl (Nat.le_of_ble_eq_true rfl) (qc_rml (by decide) (by decide)) ⟨Nat.zero_le _, Nat.zero_le _⟩ ?_
          refine qc_andB (qc_ifB_eq (qc_at qkX12_comparison 31 rfl)) (fun u10 => ?_) (fun u10 => ?_)
          · replace h := qc_jf u10 h
            refine And.imp_right (fun hx => qc_aload_n (qc_at qkX12_comparison 34 rfl) rfl <| qc_bipush (qc_at qkX12_comparison 35 rfl) <| qc_bipush (qc_at qkX12_comparison 36 rfl) <| qc_iconst (qc_at qkX12_comparison 37 rfl) <| hx) ?_
            obtain ⟨r11, I11, L11, D11, R11, e11, h⟩ := qc_bd_of h
            have c11 := (tX12_isSign hn (c9.1.1 (c7.1.1 (c5.1.1 (c3.1.1 (c1.1.1 hR))))) e11)
            refine qd_cVv (ci := 10) (a0 := 291) (qc_at qkX12_comparison 38 rfl) ql_12_297 qfX12_isSign (qc_kf hn rfl) rfl c11 rfl rfl (Nat.le_of_ble_eq_true rfl) (qc_rml (by decide) (by decide)) ⟨Nat.zero_le _, Nat.zero_le _⟩ ?_
            refine qc_andB (qc_ifB_eq (qc_at qkX12_comparison 39 rfl)) (fun u12 => ?_) (fun u12 => ?_)
            · replace h := qc_jf u12 h
              obtain ⟨rfl, rfl, rfl, rfl, rfl⟩ := qc_some5 h
              exact ⟨qc_fm.rf _, qc_iconst (qc_at qkX12_comparison 42 rfl) <| qc_iret (qc_at qkX12_comparison 43 rfl) rfl (Nat.le_refl _) (Nat.le_refl _) (qc_eq.rf _ _ _)⟩
            · replace h := qc_jt u12 h
              obtain ⟨rfl, rfl, rfl, rfl, rfl⟩ := qc_some5 h
              exact ⟨qc_fm.rf _, qc_iconst (qc_at qkX12_comparison 40 rfl) <| qc_goto (qc_at qkX12_comparison 41 rfl) <| qc_iret (qc_at qkX12_comparison 43 rfl) rfl (Nat.le_refl _) (Nat.le_refl _) (qc_eq.rf _ _ _)⟩
          · replace h := qc_jt u10 h
            obtain ⟨rfl, rfl, rfl, rfl, rfl⟩ := qc_some5 h
            exact ⟨qc_fm.rf _, qc_iconst (qc_at qkX12_comparison 32 rfl) <| qc_goto (qc_at qkX12_comparison 33 rfl) <| qc_iret (qc_at qkX12_comparison 43 rfl) rfl (Nat.le_refl _) (Nat.le_refl _) (qc_eq.rf _ _ _)⟩
        · replace h := qc_jt u8 h
          obtain ⟨rfl, rfl, rfl, rfl, rfl⟩ := qc_some5 h
          exact ⟨qc_fm.rf _, qc_iconst (qc_at qkX12_comparison 24 rfl) <| qc_goto (qc_at qkX12_comparison 25 rfl) <| qc_iret (qc_at qkX12_comparison 43 rfl) rfl (Nat.le_refl _) (Nat.le_refl _) (qc_eq.rf _ _ _)⟩
      · replace h := qc_jt u6 h
        obtain ⟨rfl, rfl, rfl, rfl, rfl⟩ := qc_some5 h
        exact ⟨qc_fm.rf _, qc_iconst (qc_at qkX12_comparison 18 rfl) <| qc_goto (qc_at qkX12_comparison 19 rfl) <| qc_iret (qc_at qkX12_comparison 43 rfl) rfl (Nat.le_refl _) (Nat.le_refl _) (qc_eq.rf _ _ _)⟩
    · replace h := qc_jt u4 h
      obtain ⟨rfl, rfl, rfl, rfl, rfl⟩ := qc_some5 h
      exact ⟨qc_fm.rf _, qc_iconst (qc_at qkX12_comparison 12 rfl) <| qc_goto (qc_at qkX12_comparison 13 rfl) <| qc_iret (qc_at qkX12_comparison 43 rfl) rfl (Nat.le_refl _) (Nat.le_refl _) (qc_eq.rf _ _ _)⟩
  · replace h := qc_jt u2 h
    obtain ⟨rfl, rfl, rfl, rfl, rfl⟩ := qc_some5 h
    exact ⟨qc_fm.rf _, qc_iconst (qc_at qkX12_comparison 4 rfl) <| qc_goto (qc_at qkX12_comparison 5 rfl) <| qc_iret (qc_at qkX12_comparison 43 rfl) rfl (Nat.le_refl _) (Nat.le_refl _) (qc_eq.rf _ _ _)⟩
def fX12_strengthHere (w : qcW) (I : qTI) (L : qTL) (D : qTD) (R : qTR) : qcO Int32 :=
  (qc_bd (fX12_isWord w I L D R (498 : Int64)) fun r1 I1 L1 D1 R1 => if r1 = true then (some ((1 : Int32), I1, L1, D1, R1)) else (qc_bd (fX12_isWord w I1 L1 D1 R1 (1476 : Int64)) fun r3 I3 L3 D3 R3 => if r3 = true then (some ((2 : Int32), I3, L3, D3, R3)) else (qc_bd (fX12_comparison w I3 L3 D3 R3) fun r5 I5 L5 D5 R5 => if r5 = (-1 : Int32) then (qc_bd (fX12_is w I5 L5 D5 R5 (38 : Int32)) fun r7 I7 L7 D7 R7 => if r7 = true then (some ((5 : Int32), I7, L7, D7, R7)) else (qc_bd (fX12_is w I7 L7 D7 R7 (124 : Int32)) fun r9 I9 L9 D9 R9 => if r9 = true then (some ((5 : Int32), I9, L9, D9, R9)) else (qc_bd (fX12_is w I9 L9 D9 R9 (94 : Int32)) fun r11 I11 L11 D11 R11 => if r11 = true then (some ((5 : Int32), I11, L11, D11, R11)) else (qc_bd (fX12_isSign w I11 L11 D11 R11 (60 : Int32) (60 : Int32) (0 : Int32)) fun r13 I13 L13 D13 R13 => if r13 = true then (some ((6 : Int32), I13, L13, D13, R13)) else (qc_bd (fX12_isSign w I13 L13 D13 R13 (62 : Int32) (62 : Int32) (0 : Int32)) fun r15 I15 L15 D15 R15 => if r15 = true then (some ((6 : Int32), I15, L15, D15, R15)) else (qc_bd (fX12_isSign w I15 L15 D15 R15 (62 : Int32) (62 : Int32) (62 : Int32)) fun r17 I17 L17 D17 R17 => if r17 = true then (some ((6 : Int32), I17, L17, D17, R17)) else (qc_bd (fX12_is w I17 L17 D17 R17 (43 : Int32)) fun r19 I19 L19 D19 R19 => if r19 = true then (some ((7 : Int32), I19, L19, D19, R19)) else (qc_bd (fX12_is w I19 L19 D19 R19 (45 : Int32)) fun r21 I21 L21 D21 R21 => if r21 = true then (some ((7 : Int32), I21, L21, D21, R21)) else (qc_bd (fX12_is w I21 L21 D21 R21 (42 : Int32)) fun r23 I23 L23 D23 R23 => if r23 = true then (some ((8 : Int32), I23, L23, D23, R23)) else (qc_bd (fX12_is w I23 L23 D23 R23 (47 : Int32)) fun r25 I25 L25 D25 R25 => if r25 = true then (some ((8 : Int32), I25, L25, D25, R25)) else (qc_bd (fX12_is w I25 L25 D25 R25 (37 : Int32)) fun r27 I27 L27 D27 R27 => if r27 = true then (some ((8 : Int32), I27, L27, D27, R27)) else (some ((-1 : Int32), I27, L27, D27, R27))))))))))))) else (some ((4 : Int32), I5, L5, D5, R5)))))
set_option maxRecDepth 100000 in
set_option maxHeartbeats 4000000 in
theorem tX12_strengthHere {w : qcW} {I : qTI} {L : qTL} {D : qTD} {R : qTR} {r : Int32} {I' : qTI} {L' : qTL} {D' : qTD} {R' : qTR} (hn : qcNF ≤ w.1) (hR : qc_FR R) (h : fX12_strengthHere w I L D R = some (r, I', L', D', R')) : qc_fm qcSM (I, L, D, R) (I', L', D', R') ∧ qc_V (3) 0 0 qmX12_strengthHere [.ref 291] w (I, L, D, R) (qc_eq (some (.int r)) w (I', L', D', R')) := by
  unfold fX12_strengthHere at h
  refine And.imp_right (fun hx => qc_V.of rfl rfl (Nat.le_of_ble_eq_true rfl) (lv := [(0, .ref 291)]) rfl hx) ?_
  refine And.imp_right (fun hx => qc_aload_n (qc_at qkX12_strengthHere 0 rfl) rfl <| qc_ldc2l (qc_at qkX12_strengthHere 1 rfl) <| hx) ?_
  obtain ⟨r1, I1, L1, D1, R1, e1, h⟩ := qc_bd_of h
  have c1 := (tX12_isWord hn hR e1)
  refine qd_cVv (ci := 10) (a0 := 291) (qc_at qkX12_strengthHere 2 rfl) ql_12_358 qfX12_isWord (qc_kf hn rfl) rfl c1 rfl rfl (Nat.le_of_ble_eq_true rfl) (qc_rml (by decide) (by decide)) ⟨Nat.zero_le _, Nat.zero_le _⟩ ?_
  refine qc_andB (qc_ifB_eq (qc_at qkX12_strengthHere 3 rfl)) (fun u2 => ?_) (fun u2 => ?_)
  · replace h := qc_jf u2 h
    refine And.imp_right (fun hx => qc_aload_n (qc_at qkX12_strengthHere 6 rfl) rfl <| qc_ldc2l (qc_at qkX12_strengthHere 7 rfl) <| hx) ?_
    obtain ⟨r3, I3, L3, D3, R3, e3, h⟩ := qc_bd_of h
    have c3 := (tX12_isWord hn (c1.1.1 hR) e3)
    refine qd_cVv (ci := 10) (a0 := 291) (qc_at qkX12_strengthHere 8 rfl) ql_12_358 qfX12_isWord (qc_kf hn rfl) rfl c3 rfl rfl (Nat.le_of_ble_eq_true rfl) (qc_rml (by decide) (by decide)) ⟨Nat.zero_le _, Nat.zero_le _⟩ ?_
    refine qc_andB (qc_ifB_eq (qc_at qkX12_strengthHere 9 rfl)) (fun u4 => ?_) (fun u4 => ?_)
    · replace h := qc_jf u4 h
      refine And.imp_right (fun hx => qc_aload_n (qc_at qkX12_strengthHere 12 rfl) rfl <| hx) ?_
      obtain ⟨r5, I5, L5, D5, R5, e5, h⟩ := qc_bd_of h
      have c5 := (tX12_comparison hn (c3.1.1 (c1.1.1 hR)) e5)
      refine qd_cVv (ci := 10) (a0 := 291) (qc_at qkX12_strengthHere 13 rfl) ql_12_364 qfX12_comparison (qc_kf hn rfl) rfl c5 rfl rfl (Nat.le_of_ble_eq_true rfl) (qc_rml (by decide) (by decide)) ⟨Nat.zero_le _, Nat.zero_le _⟩ ?_
      refine And.imp_right (fun hx => qc_iconst (qc_at qkX12_strengthHere 14 rfl) <| hx) ?_
      refine qc_andC (qc_icmp_eq (qc_at qkX12_strengthHere 15 rfl)) (fun u6 => ?_) (fun u6 => ?_)
      · replace h := qc_jp u6 h
        refine And.imp_right (fun hx => qc_aload_n (qc_at qkX12_strengthHere 18 rfl) rfl <| qc_bipush (qc_at qkX12_strengthHere 19 rfl) <| hx) ?_
        obtain ⟨r7, I7, L7, D7, R7, e7, h⟩ := qc_bd_of h
        have c7 := (tX12_is hn (c5.1.1 (c3.1.1 (c1.1.1 hR))) e7)
        refine qd_cVv (ci := 10) (a0 := 291) (qc_at qkX12_strengthHere 20 rfl) ql_12_301 qfX12_is (qc_kf hn rfl) rfl c7 rfl rfl (Nat.le_of_ble_eq_true rfl) (qc_rml (by decide) (by decide)) ⟨Nat.zero_le _, Nat.zero_le _⟩ ?_
        refine qc_andBn (qc_ifB_ne (qc_at qkX12_strengthHere 21 rfl)) (fun u8 => ?_) (fun u8 => ?_)
        · replace h := qc_jt u8 h
          obtain ⟨rfl, rfl, rfl, rfl, rfl⟩ := qc_some5 h
          exact ⟨qc_fm.rf _, qc_iconst (qc_at qkX12_strengthHere 30 rfl) <| qc_iret (qc_at qkX12_strengthHere 31 rfl) rfl (Nat.le_refl _) (Nat.le_refl _) (qc_eq.rf _ _ _)⟩
        · replace h := qc_jf u8 h
          refine And.imp_right (fun hx => qc_aload_n (qc_at qkX12_strengthHere 22 rfl) rfl <| qc_bipush (qc_at qkX12_strengthHere 23 rfl) <| hx) ?_
          obtain ⟨r9, I9, L9, D9, R9, e9, h⟩ := qc_bd_of h
          have c9 := (tX12_is hn (c7.1.1 (c5.1.1 (c3.1.1 (c1.1.1 hR)))) e9)
          refine qd_cVv (ci := 10) (a0 := 291) (qc_at qkX12_strengthHere 24 rfl) ql_12_301 qfX12_is (qc_kf hn rfl) rfl c9 rfl rfl (Nat.le_of_ble_eq_true rfl) (qc_rml (by decide) (by decide)) ⟨Nat.zero_le _, Nat.zero_le _⟩ ?_
          refine qc_andBn (qc_ifB_ne (qc_at qkX12_strengthHere 25 rfl)) (fun u10 => ?_) (fun u10 => ?_)
          · replace h := qc_jt u10 h
            obtain ⟨rfl, rfl, rfl, rfl, rfl⟩ := qc_some5 h
            exact ⟨qc_fm.rf _, qc_iconst (qc_at qkX12_strengthHere 30 rfl) <| qc_iret (qc_at qkX12_strengthHere 31 rfl) rfl (Nat.le_refl _) (Nat.le_refl _) (qc_eq.rf _ _ _)⟩
          · replace h := qc_jf u10 h
            refine And.imp_right (fun hx => qc_aload_n (qc_at qkX12_strengthHere 26 rfl) rfl <| qc_bipush (qc_at qkX12_strengthHere 27 rfl) <| hx) ?_
            obtain ⟨r11, I11, L11, D11, R11, e11, h⟩ := qc_bd_of h
            have c11 := (tX12_is hn (c9.1.1 (c7.1.1 (c5.1.1 (c3.1.1 (c1.1.1 hR))))) e11)
            refine qd_cVv (ci := 10) (a0 := 291) (qc_at qkX12_strengthHere 28 rfl) ql_12_301 qfX12_is (qc_kf hn rfl) rfl c11 rfl rfl (Nat.le_of_ble_eq_true rfl) (qc_rml (by decide) (by decide)) ⟨Nat.zero_le _, Nat.zero_le _⟩ ?_
            refine qc_andB (qc_ifB_eq (qc_at qkX12_strengthHere 29 rfl)) (fun u12 => ?_) (fun u12 => ?_)
            · replace h := qc_jf u12 h
              refine And.imp_right (fun hx => qc_aload_n (qc_at qkX12_strengthHere 32 rfl) rfl <| qc_bipush (qc_at qkX12_strengthHere 33 rfl) <| qc_bipush (qc_at qkX12_strengthHere 34 rfl) <| qc_iconst (qc_at qkX12_strengthHere 35 rfl) <| hx) ?_
              obtain ⟨r13, I13, L13, D13, R13, e13, h⟩ := qc_bd_of h
              have c13 := (tX12_isSign hn (c11.1.1 (c9.1.1 (c7.1.1 (c5.1.1 (c3.1.1 (c1.1.1 hR)))))) e13)
              refine qd_cVv (ci := 10) (a0 := 291) (qc_at qkX12_strengthHere 36 rfl) ql_12_297 qfX12_isSign (qc_kf hn rfl) rfl c13 rfl rfl (Nat.le_of_ble_eq_true rfl) (qc_rml (by decide) (by decide)) ⟨Nat.zero_le _, Nat.zero_le _⟩ ?_
              refine qc_andBn (qc_ifB_ne (qc_at qkX12_strengthHere 37 rfl)) (fun u14 => ?_) (fun u14 => ?_)
              · replace h := qc_jt u14 h
                obtain ⟨rfl, rfl, rfl, rfl, rfl⟩ := qc_some5 h
                exact ⟨qc_fm.rf _, qc_bipush (qc_at qkX12_strengthHere 50 rfl) <| qc_iret (qc_at qkX12_strengthHere 51 rfl) rfl (Nat.le_refl _) (Nat.le_refl _) (qc_eq.rf _ _ _)⟩
              · replace h := qc_jf u14 h
                refine And.imp_right (fun hx => qc_aload_n (qc_at qkX12_strengthHere 38 rfl) rfl <| qc_bipush (qc_at qkX12_strengthHere 39 rfl) <| qc_bipush (qc_at qkX12_strengthHere 40 rfl) <| qc_iconst (qc_at qkX12_strengthHere 41 rfl) <| hx) ?_
                obtain ⟨r15, I15, L15, D15, R15, e15, h⟩ := qc_bd_of h
                have c15 := (tX12_isSign hn (c13.1.1 (c11.1.1 (c9.1.1 (c7.1.1 (c5.1.1 (c3.1.1 (c1.1.1 hR))))))) e15)
                refine qd_cVv (ci := 10) (a0 := 291) (qc_at qkX12_strengthHere 42 rfl) ql_12_297 qfX12_isSign (qc_kf hn rfl) rfl c15 rfl rfl (Nat.le_of_ble_eq_true rfl) (qc_rml (by decide) (by decide)) ⟨Nat.zero_le _, Nat.zero_le _⟩ ?_
                refine qc_andBn (qc_ifB_ne (qc_at qkX12_strengthHere 43 rfl)) (fun u16 => ?_) (fun u16 => ?_)
                · replace h := qc_jt u16 h
                  obtain ⟨rfl, rfl, rfl, rfl, rfl⟩ := qc_some5 h
                  exact ⟨qc_fm.rf _, qc_bipush (qc_at qkX12_strengthHere 50 rfl) <| qc_iret (qc_at qkX12_strengthHere 51 rfl) rfl (Nat.le_refl _) (Nat.le_refl _) (qc_eq.rf _ _ _)⟩
                · replace h := qc_jf u16 h
                  refine And.imp_right (fun hx => qc_aload_n (qc_at qkX12_strengthHere 44 rfl) rfl <| qc_bipush (qc_at qkX12_strengthHere 45 rfl) <| qc_bipush (qc_at qkX12_strengthHere 46 rfl) <| qc_bipush (qc_at qkX12_strengthHere 47 rfl) <| hx) ?_
                  obtain ⟨r17, I17, L17, D17, R17, e17, h⟩ := qc_bd_of h
                  have c17 := (tX12_isSign hn (c15.1.1 (c13.1.1 (c11.1.1 (c9.1.1 (c7.1.1 (c5.1.1 (c3.1.1 (c1.1.1 hR)))))))) e17)
                  refine qd_cVv (ci := 10) (a0 := 291) (qc_at qkX12_strengthHere 48 rfl) ql_12_297 qfX12_isSign (qc_kf hn rfl) rfl c17 rfl rfl (Nat.le_of_ble_eq_true rfl) (qc_rml (by decide) (by decide)) ⟨Nat.zero_le _, Nat.zero_le _⟩ ?_
                  refine qc_andB (qc_ifB_eq (qc_at qkX12_strengthHere 49 rfl)) (fun u18 => ?_) (fun u18 => ?_)
                  · replace h := qc_jf u18 h
                    refine And.imp_right (fun hx => qc_aload_n (qc_at qkX12_strengthHere 52 rfl) rfl <| qc_bipush (qc_at qkX12_strengthHere 53 rfl) <| hx) ?_
                    obtain ⟨r19, I19, L19, D19, R19, e19, h⟩ := qc_bd_of h
                    have c19 := (tX12_is hn (c17.1.1 (c15.1.1 (c13.1.1 (c11.1.1 (c9.1.1 (c7.1.1 (c5.1.1 (c3.1.1 (c1.1.1 hR))))))))) e19)
                    refine qd_cVv (ci := 10) (a0 := 291) (qc_at qkX12_strengthHere 54 rfl) ql_12_301 qfX12_is (qc_kf hn rfl) rfl c19 rfl rfl (Nat.le_of_ble_eq_true rfl) (qc_rml (by decide) (by decide)) ⟨Nat.zero_le _, Nat.zero_le _⟩ ?_
                    refine qc_andBn (qc_ifB_ne (qc_at qkX12_strengthHere 55 rfl)) (fun u20 => ?_) (fun u20 => ?_)
                    · replace h := qc_jt u20 h
                      obtain ⟨rfl, rfl, rfl, rfl, rfl⟩ := qc_some5 h
                      exact ⟨qc_fm.rf _, qc_bipush (qc_at qkX12_strengthHere 60 rfl) <| qc_goto (qc_at qkX12_strengthHere 61 rfl) <| qc_iret (qc_at qkX12_strengthHere 77 rfl) rfl (Nat.le_refl _) (Nat.le_refl _) (qc_eq.rf _ _ _)⟩
                    · replace h := qc_jf u20 h
                      refine And.imp_right (fun hx => qc_aload_n (qc_at qkX12_strengthHere 56 rfl) rfl <| qc_bipush (qc_at qkX12_strengthHere 57 rfl) <| hx) ?_
                      obtain ⟨r21, I21, L21, D21, R21, e21, h⟩ := qc_bd_of h
                      have c21 := (tX12_is hn (c19.1.1 (c17.1.1 (c15.1.1 (c13.1.1 (c11.1.1 (c9.1.1 (c7.1.1 (c5.1.1 (c3.1.1 (c1.1.1 hR)))))))))) e21)
                      refine qd_cVv (ci := 10) (a0 := 291) (qc_at qkX12_strengthHere 58 rfl) ql_12_301 qfX12_is (qc_kf hn rfl) rfl c21 rfl rfl (Nat.le_of_ble_eq_true rfl) (qc_rml (by decide) (by decide)) ⟨Nat.zero_le _, Nat.zero_le _⟩ ?_
                      refine qc_andB (qc_ifB_eq (qc_at qkX12_strengthHere 59 rfl)) (fun u22 => ?_) (fun u22 => ?_)
                      · replace h := qc_jf u22 h
                        refine And.imp_right (fun hx => qc_aload_n (qc_at qkX12_strengthHere 62 rfl) rfl <| qc_bipush (qc_at qkX12_strengthHere 63 rfl) <| hx) ?_
                        obtain ⟨r23, I23, L23, D23, R23, e23, h⟩ := qc_bd_of h
                        have c23 := (tX12_is hn (c21.1.1 (c19.1.1 (c17.1.1 (c15.1.1 (c13.1.1 (c11.1.1 (c9.1.1 (c7.1.1 (c5.1.1 (c3.1.1 (c1.1.1 hR))))))))))) e23)
                        refine qd_cVv (ci := 10) (a0 := 291) (qc_at qkX12_strengthHere 64 rfl) ql_12_301 qfX12_is (qc_kf hn rfl) rfl c23 rfl rfl (Nat.le_of_ble_eq_true rfl) (qc_rml (by decide) (by decide)) ⟨Nat.zero_le _, Nat.zero_le _⟩ ?_
                        refine qc_andBn (qc_ifB_ne (qc_at qkX12_strengthHere 65 rfl)) (fun u24 => ?_) (fun u24 => ?_)
                        · replace h := qc_jt u24 h
                          obtain ⟨rfl, rfl, rfl, rfl, rfl⟩ := qc_some5 h
                          exact ⟨qc_fm.rf _, qc_bipush (qc_at qkX12_strengthHere 74 rfl) <| qc_goto (qc_at qkX12_strengthHere 75 rfl) <| qc_iret (qc_at qkX12_strengthHere 77 rfl) rfl (Nat.le_refl _) (Nat.le_refl _) (qc_eq.rf _ _ _)⟩
                        · replace h := qc_jf u24 h
                          refine And.imp_right (fun hx => qc_aload_n (qc_at qkX12_strengthHere 66 rfl) rfl <| qc_bipush (qc_at qkX12_strengthHere 67 rfl) <| hx) ?_
                          obtain ⟨r25, I25, L25, D25, R25, e25, h⟩ := qc_bd_of h
                          have c25 := (tX12_is hn (c23.1.1 (c21.1.1 (c19.1.1 (c17.1.1 (c15.1.1 (c13.1.1 (c11.1.1 (c9.1.1 (c7.1.1 (c5.1.1 (c3.1.1 (c1.1.1 hR)))))))))))) e25)
                          refine qd_cVv (ci := 10) (a0 := 291) (qc_at qkX12_strengthHere 68 rfl) ql_12_301 qfX12_is (qc_kf hn rfl) rfl c25 rfl rfl (Nat.le_of_ble_eq_true rfl) (qc_rml (by decide) (by decide)) ⟨Nat.zero_le _, Nat.zero_le _⟩ ?_
                          refine qc_andBn (qc_ifB_ne (qc_at qkX12_strengthHere 69 rfl)) (fun u26 => ?_) (fun u26 => ?_)
                          · replace h := qc_jt u26 h
                            obtain ⟨rfl, rfl, rfl, rfl, rfl⟩ := qc_some5 h
                            exact ⟨qc_fm.rf _, qc_bipush (qc_at qkX12_strengthHere 74 rfl) <| qc_goto (qc_at qkX12_strengthHere 75 rfl) <| qc_iret (qc_at qkX12_strengthHere 77 rfl) rfl (Nat.le_refl _) (Nat.le_refl _) (qc_eq.rf _ _ _)⟩
                          · replace h := qc_jf u26 h
                            refine And.imp_right (fun hx => qc_aload_n (qc_at qkX12_strengthHere 70 rfl) rfl <| qc_bipush (qc_at qkX12_strengthHere 71 rfl) <| hx) ?_
                            obtain ⟨r27, I27, L27, D27, R27, e27, h⟩ := qc_bd_of h
                            have c27 := (tX12_is hn (c25.1.1 (c23.1.1 (c21.1.1 (c19.1.1 (c17.1.1 (c15.1.1 (c13.1.1 (c11.1.1 (c9.1.1 (c7.1.1 (c5.1.1 (c3.1.1 (c1.1.1 hR))))))))))))) e27)
                            refine qd_cVv (ci := 10) (a0 := 291) (qc_at qkX12_strengthHere 72 rfl) ql_12_301 qfX12_is (qc_kf hn rfl) rfl c27 rfl rfl (Nat.le_of_ble_eq_true rfl) (qc_rml (by decide) (by decide)) ⟨Nat.zero_le _, Nat.zero_le _⟩ ?_
                            refine qc_andB (qc_ifB_eq (qc_at qkX12_strengthHere 73 rfl)) (fun u28 => ?_) (fun u28 => ?_)
                            · replace h := qc_jf u28 h
                              obtain ⟨rfl, rfl, rfl, rfl, rfl⟩ := qc_some5 h
                              exact ⟨qc_fm.rf _, qc_iconst (qc_at qkX12_strengthHere 76 rfl) <| qc_iret (qc_at qkX12_strengthHere 77 rfl) rfl (Nat.le_refl _) (Nat.le_refl _) (qc_eq.rf _ _ _)⟩
                            · replace h := qc_jt u28 h
                              obtain ⟨rfl, rfl, rfl, rfl, rfl⟩ := qc_some5 h
                              exact ⟨qc_fm.rf _, qc_bipush (qc_at qkX12_strengthHere 74 rfl) <| qc_goto (qc_at qkX12_strengthHere 75 rfl) <| qc_iret (qc_at qkX12_strengthHere 77 rfl) rfl (Nat.le_refl _) (Nat.le_refl _) (qc_eq.rf _ _ _)⟩
                      · replace h := qc_jt u22 h
                        obtain ⟨rfl, rfl, rfl, rfl, rfl⟩ := qc_some5 h
                        exact ⟨qc_fm.rf _, qc_bipush (qc_at qkX12_strengthHere 60 rfl) <| qc_goto (qc_at qkX12_strengthHere 61 rfl) <| qc_iret (qc_at qkX12_strengthHere 77 rfl) rfl (Nat.le_refl _) (Nat.le_refl _) (qc_eq.rf _ _ _)⟩
                  · replace h := qc_jt u18 h
                    obtain ⟨rfl, rfl, rfl, rfl, rfl⟩ := qc_some5 h
                    exact ⟨qc_fm.rf _, qc_bipush (qc_at qkX12_strengthHere 50 rfl) <| qc_iret (qc_at qkX12_strengthHere 51 rfl) rfl (Nat.le_refl _) (Nat.le_refl _) (qc_eq.rf _ _ _)⟩
            · replace h := qc_jt u12 h
              obtain ⟨rfl, rfl, rfl, rfl, rfl⟩ := qc_some5 h
              exact ⟨qc_fm.rf _, qc_iconst (qc_at qkX12_strengthHere 30 rfl) <| qc_iret (qc_at qkX12_strengthHere 31 rfl) rfl (Nat.le_refl _) (Nat.le_refl _) (qc_eq.rf _ _ _)⟩
      · replace h := qc_jn u6 h
        obtain ⟨rfl, rfl, rfl, rfl, rfl⟩ := qc_some5 h
        exact ⟨qc_fm.rf _, qc_iconst (qc_at qkX12_strengthHere 16 rfl) <| qc_iret (qc_at qkX12_strengthHere 17 rfl) rfl (Nat.le_refl _) (Nat.le_refl _) (qc_eq.rf _ _ _)⟩
    · replace h := qc_jt u4 h
      obtain ⟨rfl, rfl, rfl, rfl, rfl⟩ := qc_some5 h
      exact ⟨qc_fm.rf _, qc_iconst (qc_at qkX12_strengthHere 10 rfl) <| qc_iret (qc_at qkX12_strengthHere 11 rfl) rfl (Nat.le_refl _) (Nat.le_refl _) (qc_eq.rf _ _ _)⟩
  · replace h := qc_jt u2 h
    obtain ⟨rfl, rfl, rfl, rfl, rfl⟩ := qc_some5 h
    exact ⟨qc_fm.rf _, qc_iconst (qc_at qkX12_strengthHere 4 rfl) <| qc_iret (qc_at qkX12_strengthHere 5 rfl) rfl (Nat.le_refl _) (Nat.le_refl _) (qc_eq.rf _ _ _)⟩
def fX12_opHere (w : qcW) (I : qTI) (L : qTL) (D : qTD) (R : qTR) (x1 : Int32) : qcO Int32 :=
  (if x1 = 4 then (qc_bd (fX12_comparison w I L D R) fun r2 I2 L2 D2 R2 => some (r2, I2, L2, D2, R2)) else if x1 = 5 then (qc_bd (fX12_is w I L D R (38 : Int32)) fun r4 I4 L4 D4 R4 => if r4 = true then (some ((600 : Int32), I4, L4, D4, R4)) else (qc_bd (fX12_is w I4 L4 D4 R4 (124 : Int32)) fun r6 I6 L6 D6 R6 => if r6 = true then (some ((700 : Int32), I6, L6, D6, R6)) else (some ((800 : Int32), I6, L6, D6, R6)))) else if x1 = 6 then (qc_bd (fX12_isSign w I L D R (60 : Int32) (60 : Int32) (0 : Int32)) fun r9 I9 L9 D9 R9 => if r9 = true then (some ((900 : Int32), I9, L9, D9, R9)) else (qc_bd (fX12_isSign w I9 L9 D9 R9 (62 : Int32) (62 : Int32) (0 : Int32)) fun r11 I11 L11 D11 R11 => if r11 = true then (some ((1000 : Int32), I11, L11, D11, R11)) else (some ((1100 : Int32), I11, L11, D11, R11)))) else if x1 = 7 then (qc_bd (fX12_is w I L D R (43 : Int32)) fun r14 I14 L14 D14 R14 => if r14 = true then (some ((100 : Int32), I14, L14, D14, R14)) else (some ((200 : Int32), I14, L14, D14, R14))) else (qc_bd (fX12_is w I L D R (42 : Int32)) fun r16 I16 L16 D16 R16 => if r16 = true then (some ((300 : Int32), I16, L16, D16, R16)) else (qc_bd (fX12_is w I16 L16 D16 R16 (47 : Int32)) fun r18 I18 L18 D18 R18 => if r18 = true then (some ((400 : Int32), I18, L18, D18, R18)) else (some ((500 : Int32), I18, L18, D18, R18)))))
set_option maxRecDepth 100000 in
set_option maxHeartbeats 4000000 in
theorem tX12_opHere {w : qcW} {I : qTI} {L : qTL} {D : qTD} {R : qTR} {x1 : Int32} {r : Int32} {I' : qTI} {L' : qTL} {D' : qTD} {R' : qTR} (hn : qcNF ≤ w.1) (hR : qc_FR R) (h : fX12_opHere w I L D R x1 = some (r, I', L', D', R')) : qc_fm qcSM (I, L, D, R) (I', L', D', R') ∧ qc_V (3) 0 0 qmX12_opHere [.ref 291, .int x1] w (I, L, D, R) (qc_eq (some (.int r)) w (I', L', D', R')) := by
  unfold fX12_opHere at h
  refine And.imp_right (fun hx => qc_V.of rfl rfl (Nat.le_of_ble_eq_true rfl) (lv := [(0, .ref 291), (1, .int x1)]) rfl hx) ?_
  refine And.imp_right (fun hx => qc_iload_n (qc_at qkX12_opHere 0 rfl) rfl <| hx) ?_
  refine qc_by (c := x1 = 4) (fun u1 => ?_) (fun u1 => ?_)
  · refine And.imp_right (fun hx => qc_tabIn (qc_at qkX12_opHere 1 rfl) 0 (by rw [u1]; rfl) (by decide) rfl rfl hx) ?_
    replace h := qc_jp u1 h
    refine And.imp_right (fun hx => qc_aload_n (qc_at qkX12_opHere 2 rfl) rfl <| hx) ?_
    obtain ⟨r2, I2, L2, D2, R2, e2, h⟩ := qc_bd_of h
    have c2 := (tX12_comparison hn hR e2)
    refine qd_cVv (ci := 10) (a0 := 291) (qc_at qkX12_opHere 3 rfl) ql_12_364 qfX12_comparison (qc_kf hn rfl) rfl c2 rfl rfl (Nat.le_of_ble_eq_true rfl) (qc_rml (by decide) (by decide)) ⟨Nat.zero_le _, Nat.zero_le _⟩ ?_
    obtain ⟨rfl, rfl, rfl, rfl, rfl⟩ := qc_some5 h
    exact ⟨qc_fm.rf _, qc_iret (qc_at qkX12_opHere 4 rfl) rfl (Nat.le_refl _) (Nat.le_refl _) (qc_eq.rf _ _ _)⟩
  · replace h := qc_jn u1 h
    refine qc_by (c := x1 = 5) (fun u3 => ?_) (fun u3 => ?_)
    · refine And.imp_right (fun hx => qc_tabIn (qc_at qkX12_opHere 1 rfl) 1 (by rw [u3]; rfl) (by decide) rfl rfl hx) ?_
      replace h := qc_jp u3 h
      refine And.imp_right (fun hx => qc_aload_n (qc_at qkX12_opHere 5 rfl) rfl <| qc_bipush (qc_at qkX12_opHere 6 rfl) <| hx) ?_
      obtain ⟨r4, I4, L4, D4, R4, e4, h⟩ := qc_bd_of h
      have c4 := (tX12_is hn hR e4)
      refine qd_cVv (ci := 10) (a0 := 291) (qc_at qkX12_opHere 7 rfl) ql_12_301 qfX12_is (qc_kf hn rfl) rfl c4 rfl rfl (Nat.le_of_ble_eq_true rfl) (qc_rml (by decide) (by decide)) ⟨Nat.zero_le _, Nat.zero_le _⟩ ?_
      refine qc_andB (qc_ifB_eq (qc_at qkX12_opHere 8 rfl)) (fun u5 => ?_) (fun u5 => ?_)
      · replace h := qc_jf u5 h
        refine And.imp_right (fun hx => qc_aload_n (qc_at qkX12_opHere 11 rfl) rfl <| qc_bipush (qc_at qkX12_opHere 12 rfl) <| hx) ?_
        obtain ⟨r6, I6, L6, D6, R6, e6, h⟩ := qc_bd_of h
        have c6 := (tX12_is hn (c4.1.1 hR) e6)
        refine qd_cVv (ci := 10) (a0 := 291) (qc_at qkX12_opHere 13 rfl) ql_12_301 qfX12_is (qc_kf hn rfl) rfl c6 rfl rfl (Nat.le_of_ble_eq_true rfl) (qc_rml (by decide) (by decide)) ⟨Nat.zero_le _, Nat.zero_le _⟩ ?_
        refine qc_andB (qc_ifB_eq (qc_at qkX12_opHere 14 rfl)) (fun u7 => ?_) (fun u7 => ?_)
        · replace h := qc_jf u7 h
          obtain ⟨rfl, rfl, rfl, rfl, rfl⟩ := qc_some5 h
          exact ⟨qc_fm.rf _, qc_sipush (qc_at qkX12_opHere 17 rfl) <| qc_iret (qc_at qkX12_opHere 18 rfl) rfl (Nat.le_refl _) (Nat.le_refl _) (qc_eq.rf _ _ _)⟩
        · replace h := qc_jt u7 h
          obtain ⟨rfl, rfl, rfl, rfl, rfl⟩ := qc_some5 h
          exact ⟨qc_fm.rf _, qc_sipush (qc_at qkX12_opHere 15 rfl) <| qc_goto (qc_at qkX12_opHere 16 rfl) <| qc_iret (qc_at qkX12_opHere 18 rfl) rfl (Nat.le_refl _) (Nat.le_refl _) (qc_eq.rf _ _ _)⟩
      · replace h := qc_jt u5 h
        obtain ⟨rfl, rfl, rfl, rfl, rfl⟩ := qc_some5 h
        exact ⟨qc_fm.rf _, qc_sipush (qc_at qkX12_opHere 9 rfl) <| qc_goto (qc_at qkX12_opHere 10 rfl) <| qc_iret (qc_at qkX12_opHere 18 rfl) rfl (Nat.le_refl _) (Nat.le_refl _) (qc_eq.rf _ _ _)⟩
    · replace h := qc_jn u3 h
      refine qc_by (c := x1 = 6) (fun u8 => ?_) (fun u8 => ?_)
      · refine And.imp_right (fun hx => qc_tabIn (qc_at qkX12_opHere 1 rfl) 2 (by rw [u8]; rfl) (by decide) rfl rfl hx) ?_
        replace h := qc_jp u8 h
        refine And.imp_right (fun hx => qc_aload_n (qc_at qkX12_opHere 19 rfl) rfl <| qc_bipush (qc_at qkX12_opHere 20 rfl) <| qc_bipush (qc_at qkX12_opHere 21 rfl) <| qc_iconst (qc_at qkX12_opHere 22 rfl) <| hx) ?_
        obtain ⟨r9, I9, L9, D9, R9, e9, h⟩ := qc_bd_of h
        have c9 := (tX12_isSign hn hR e9)
        refine qd_cVv (ci := 10) (a0 := 291) (qc_at qkX12_opHere 23 rfl) ql_12_297 qfX12_isSign (qc_kf hn rfl) rfl c9 rfl rfl (Nat.le_of_ble_eq_true rfl) (qc_rml (by decide) (by decide)) ⟨Nat.zero_le _, Nat.zero_le _⟩ ?_
        refine qc_andB (qc_ifB_eq (qc_at qkX12_opHere 24 rfl)) (fun u10 => ?_) (fun u10 => ?_)
        · replace h := qc_jf u10 h
          refine And.imp_right (fun hx => qc_aload_n (qc_at qkX12_opHere 27 rfl) rfl <| qc_bipush (qc_at qkX12_opHere 28 rfl) <| qc_bipush (qc_at qkX12_opHere 29 rfl) <| qc_iconst (qc_at qkX12_opHere 30 rfl) <| hx) ?_
          obtain ⟨r11, I11, L11, D11, R11, e11, h⟩ := qc_bd_of h
          have c11 := (tX12_isSign hn (c9.1.1 hR) e11)
          refine qd_cVv (ci := 10) (a0 := 291) (qc_at qkX12_opHere 31 rfl) ql_12_297 qfX12_isSign (qc_kf hn rfl) rfl c11 rfl rfl (Nat.le_of_ble_eq_true rfl) (qc_rml (by decide) (by decide)) ⟨Nat.zero_le _, Nat.zero_le _⟩ ?_
          refine qc_andB (qc_ifB_eq (qc_at qkX12_opHere 32 rfl)) (fun u12 => ?_) (fun u12 => ?_)
          · replace h := qc_jf u12 h
            obtain ⟨rfl, rfl, rfl, rfl, rfl⟩ := qc_some5 h
            exact ⟨qc_fm.rf _, qc_sipush (qc_at qkX12_opHere 35 rfl) <| qc_iret (qc_at qkX12_opHere 36 rfl) rfl (Nat.le_refl _) (Nat.le_refl _) (qc_eq.rf _ _ _)⟩
          · replace h := qc_jt u12 h
            obtain ⟨rfl, rfl, rfl, rfl, rfl⟩ := qc_some5 h
            exact ⟨qc_fm.rf _, qc_sipush (qc_at qkX12_opHere 33 rfl) <| qc_goto (qc_at qkX12_opHere 34 rfl) <| qc_iret (qc_at qkX12_opHere 36 rfl) rfl (Nat.le_refl _) (Nat.le_refl _) (qc_eq.rf _ _ _)⟩
        · replace h := qc_jt u10 h
          obtain ⟨rfl, rfl, rfl, rfl, rfl⟩ := qc_some5 h
          exact ⟨qc_fm.rf _, qc_sipush (qc_at qkX12_opHere 25 rfl) <| qc_goto (qc_at qkX12_opHere 26 rfl) <| qc_iret (qc_at qkX12_opHere 36 rfl) rfl (Nat.le_refl _) (Nat.le_refl _) (qc_eq.rf _ _ _)⟩
      · replace h := qc_jn u8 h
        refine qc_by (c := x1 = 7) (fun u13 => ?_) (fun u13 => ?_)
        · refine And.imp_right (fun hx => qc_tabIn (qc_at qkX12_opHere 1 rfl) 3 (by rw [u13]; rfl) (by decide) rfl rfl hx) ?_
          replace h := qc_jp u13 h
          refine And.imp_right (fun hx => qc_aload_n (qc_at qkX12_opHere 37 rfl) rfl <| qc_bipush (qc_at qkX12_opHere 38 rfl) <| hx) ?_
          obtain ⟨r14, I14, L14, D14, R14, e14, h⟩ := qc_bd_of h
          have c14 := (tX12_is hn hR e14)
          refine qd_cVv (ci := 10) (a0 := 291) (qc_at qkX12_opHere 39 rfl) ql_12_301 qfX12_is (qc_kf hn rfl) rfl c14 rfl rfl (Nat.le_of_ble_eq_true rfl) (qc_rml (by decide) (by decide)) ⟨Nat.zero_le _, Nat.zero_le _⟩ ?_
          refine qc_andB (qc_ifB_eq (qc_at qkX12_opHere 40 rfl)) (fun u15 => ?_) (fun u15 => ?_)
          · replace h := qc_jf u15 h
            obtain ⟨rfl, rfl, rfl, rfl, rfl⟩ := qc_some5 h
            exact ⟨qc_fm.rf _, qc_sipush (qc_at qkX12_opHere 43 rfl) <| qc_iret (qc_at qkX12_opHere 44 rfl) rfl (Nat.le_refl _) (Nat.le_refl _) (qc_eq.rf _ _ _)⟩
          · replace h := qc_jt u15 h
            obtain ⟨rfl, rfl, rfl, rfl, rfl⟩ := qc_some5 h
            exact ⟨qc_fm.rf _, qc_bipush (qc_at qkX12_opHere 41 rfl) <| qc_goto (qc_at qkX12_opHere 42 rfl) <| qc_iret (qc_at qkX12_opHere 44 rfl) rfl (Nat.le_refl _) (Nat.le_refl _) (qc_eq.rf _ _ _)⟩
        · replace h := qc_jn u13 h
          have v1 : ¬ Int32.toInt x1 = 4 := fun z => u1 (qc_i32 z rfl)
          have v3 : ¬ Int32.toInt x1 = 5 := fun z => u3 (qc_i32 z rfl)
          have v8 : ¬ Int32.toInt x1 = 6 := fun z => u8 (qc_i32 z rfl)
          have v13 : ¬ Int32.toInt x1 = 7 := fun z => u13 (qc_i32 z rfl)
          refine And.imp_right (fun hx => qc_tabOut (qc_at qkX12_opHere 1 rfl) (by omega) rfl hx) ?_
          refine And.imp_right (fun hx => qc_aload_n (qc_at qkX12_opHere 45 rfl) rfl <| qc_bipush (qc_at qkX12_opHere 46 rfl) <| hx) ?_
          obtain ⟨r16, I16, L16, D16, R16, e16, h⟩ := qc_bd_of h
          have c16 := (tX12_is hn hR e16)
          refine qd_cVv (ci := 10) (a0 := 291) (qc_at qkX12_opHere 47 rfl) ql_12_301 qfX12_is (qc_kf hn rfl) rfl c16 rfl rfl (Nat.le_of_ble_eq_true rfl) (qc_rml (by decide) (by decide)) ⟨Nat.zero_le _, Nat.zero_le _⟩ ?_
          refine qc_andB (qc_ifB_eq (qc_at qkX12_opHere 48 rfl)) (fun u17 => ?_) (fun u17 => ?_)
          · replace h := qc_jf u17 h
            refine And.imp_right (fun hx => qc_aload_n (qc_at qkX12_opHere 51 rfl) rfl <| qc_bipush (qc_at qkX12_opHere 52 rfl) <| hx) ?_
            obtain ⟨r18, I18, L18, D18, R18, e18, h⟩ := qc_bd_of h
            have c18 := (tX12_is hn (c16.1.1 hR) e18)
            refine qd_cVv (ci := 10) (a0 := 291) (qc_at qkX12_opHere 53 rfl) ql_12_301 qfX12_is (qc_kf hn rfl) rfl c18 rfl rfl (Nat.le_of_ble_eq_true rfl) (qc_rml (by decide) (by decide)) ⟨Nat.zero_le _, Nat.zero_le _⟩ ?_
            refine qc_andB (qc_ifB_eq (qc_at qkX12_opHere 54 rfl)) (fun u19 => ?_) (fun u19 => ?_)
            · replace h := qc_jf u19 h
              obtain ⟨rfl, rfl, rfl, rfl, rfl⟩ := qc_some5 h
              exact ⟨qc_fm.rf _, qc_sipush (qc_at qkX12_opHere 57 rfl) <| qc_iret (qc_at qkX12_opHere 58 rfl) rfl (Nat.le_refl _) (Nat.le_refl _) (qc_eq.rf _ _ _)⟩
            · replace h := qc_jt u19 h
              obtain ⟨rfl, rfl, rfl, rfl, rfl⟩ := qc_some5 h
              exact ⟨qc_fm.rf _, qc_sipush (qc_at qkX12_opHere 55 rfl) <| qc_goto (qc_at qkX12_opHere 56 rfl) <| qc_iret (qc_at qkX12_opHere 58 rfl) rfl (Nat.le_refl _) (Nat.le_refl _) (qc_eq.rf _ _ _)⟩
          · replace h := qc_jt u17 h
            obtain ⟨rfl, rfl, rfl, rfl, rfl⟩ := qc_some5 h
            exact ⟨qc_fm.rf _, qc_sipush (qc_at qkX12_opHere 49 rfl) <| qc_goto (qc_at qkX12_opHere 50 rfl) <| qc_iret (qc_at qkX12_opHere 58 rfl) rfl (Nat.le_refl _) (Nat.le_refl _) (qc_eq.rf _ _ _)⟩
def fX12_kindOfLane (w : qcW) (I : qTI) (L : qTL) (D : qTD) (R : qTR) (x0 : Int32) : qcO Int32 :=
  (if x0 = 0 then (some ((0 : Int32), I, L, D, R)) else (if (5 : Int32) ≤ x0 then (if x0 = (5 : Int32) then (some ((2 : Int32), I, L, D, R)) else (if x0 = (6 : Int32) then (some ((3 : Int32), I, L, D, R)) else (some ((4 : Int32), I, L, D, R)))) else (some ((1 : Int32), I, L, D, R))))
set_option maxRecDepth 100000 in
set_option maxHeartbeats 4000000 in
theorem tX12_kindOfLane {w : qcW} {I : qTI} {L : qTL} {D : qTD} {R : qTR} {x0 : Int32} {r : Int32} {I' : qTI} {L' : qTL} {D' : qTD} {R' : qTR} (hn : qcNF ≤ w.1) (hR : qc_FR R) (h : fX12_kindOfLane w I L D R x0 = some (r, I', L', D', R')) : qc_fm qcSM (I, L, D, R) (I', L', D', R') ∧ qc_V (0) 0 0 qmX12_kindOfLane [.int x0] w (I, L, D, R) (qc_eq (some (.int r)) w (I', L', D', R')) := by
  unfold fX12_kindOfLane at h
  refine And.imp_right (fun hx => qc_V.of rfl rfl (Nat.le_of_ble_eq_true rfl) (lv := [(0, .int x0)]) rfl hx) ?_
  refine And.imp_right (fun hx => qc_iload_n (qc_at qkX12_kindOfLane 0 rfl) rfl <| hx) ?_
  refine qc_andN (qc_if_ne (qc_at qkX12_kindOfLane 1 rfl)) (fun u1 => ?_) (fun u1 => ?_)
  · replace h := qc_jn u1 h
    refine And.imp_right (fun hx => qc_iload_n (qc_at qkX12_kindOfLane 4 rfl) rfl <| qc_iconst (qc_at qkX12_kindOfLane 5 rfl) <| hx) ?_
    refine qc_andC (qc_icmp_ge (qc_at qkX12_kindOfLane 6 rfl)) (fun u2 => ?_) (fun u2 => ?_)
    · replace h := qc_jp u2 h
      refine And.imp_right (fun hx => qc_iload_n (qc_at qkX12_kindOfLane 9 rfl) rfl <| qc_iconst (qc_at qkX12_kindOfLane 10 rfl) <| hx) ?_
      refine qc_andN (qc_icmp_ne (qc_at qkX12_kindOfLane 11 rfl)) (fun u3 => ?_) (fun u3 => ?_)
      · replace h := qc_jn u3 h
        refine And.imp_right (fun hx => qc_iload_n (qc_at qkX12_kindOfLane 14 rfl) rfl <| qc_bipush (qc_at qkX12_kindOfLane 15 rfl) <| hx) ?_
        refine qc_andN (qc_icmp_ne (qc_at qkX12_kindOfLane 16 rfl)) (fun u4 => ?_) (fun u4 => ?_)
        · replace h := qc_jn u4 h
          obtain ⟨rfl, rfl, rfl, rfl, rfl⟩ := qc_some5 h
          exact ⟨qc_fm.rf _, qc_iconst (qc_at qkX12_kindOfLane 19 rfl) <| qc_iret (qc_at qkX12_kindOfLane 20 rfl) rfl (Nat.le_refl _) (Nat.le_refl _) (qc_eq.rf _ _ _)⟩
        · replace h := qc_jp u4 h
          obtain ⟨rfl, rfl, rfl, rfl, rfl⟩ := qc_some5 h
          exact ⟨qc_fm.rf _, qc_iconst (qc_at qkX12_kindOfLane 17 rfl) <| qc_goto (qc_at qkX12_kindOfLane 18 rfl) <| qc_iret (qc_at qkX12_kindOfLane 20 rfl) rfl (Nat.le_refl _) (Nat.le_refl _) (qc_eq.rf _ _ _)⟩
      · replace h := qc_jp u3 h
        obtain ⟨rfl, rfl, rfl, rfl, rfl⟩ := qc_some5 h
        exact ⟨qc_fm.rf _, qc_iconst (qc_at qkX12_kindOfLane 12 rfl) <| qc_goto (qc_at qkX12_kindOfLane 13 rfl) <| qc_iret (qc_at qkX12_kindOfLane 20 rfl) rfl (Nat.le_refl _) (Nat.le_refl _) (qc_eq.rf _ _ _)⟩
    · replace h := qc_jn u2 h
      obtain ⟨rfl, rfl, rfl, rfl, rfl⟩ := qc_some5 h
      exact ⟨qc_fm.rf _, qc_iconst (qc_at qkX12_kindOfLane 7 rfl) <| qc_goto (qc_at qkX12_kindOfLane 8 rfl) <| qc_iret (qc_at qkX12_kindOfLane 20 rfl) rfl (Nat.le_refl _) (Nat.le_refl _) (qc_eq.rf _ _ _)⟩
  · replace h := qc_jp u1 h
    obtain ⟨rfl, rfl, rfl, rfl, rfl⟩ := qc_some5 h
    exact ⟨qc_fm.rf _, qc_iconst (qc_at qkX12_kindOfLane 2 rfl) <| qc_goto (qc_at qkX12_kindOfLane 3 rfl) <| qc_iret (qc_at qkX12_kindOfLane 20 rfl) rfl (Nat.le_refl _) (Nat.le_refl _) (qc_eq.rf _ _ _)⟩
def fX12_column__b31 (w : qcW) (I : qTI) (L : qTL) (D : qTD) (R : qTR) (x1 : Int32) : qcO Int32 :=
  (qc_bd (fX12_next w I L D R) fun r1 I1 L1 D1 R1 => some (x1, I1, L1, D1, R1))
set_option maxRecDepth 100000 in
set_option maxHeartbeats 4000000 in
theorem tX12_column__b31 {w : qcW} {I : qTI} {L : qTL} {D : qTD} {R : qTR} {x1 : Int32} {r : Int32} {I' : qTI} {L' : qTL} {D' : qTD} {R' : qTR} (hn : qcNF ≤ w.1) (hR : qc_FR R) (h : fX12_column__b31 w I L D R x1 = some (r, I', L', D', R')) : qc_fm qcSM (I, L, D, R) (I', L', D', R') ∧ qc_X (qc_rm (4) 0 0) qmX12_column_ (qc_QM 0 0 (qc_eq (some (.int r)) w (I', L', D', R'))) 0 0 w (31, [(0, .ref 291), (1, .int x1)], [], I, L, D, R) := by
  unfold fX12_column__b31 at h
  refine And.imp_right (fun hx => qc_aload_n (qc_at qkX12_column_ 17 rfl) rfl <| hx) ?_
  obtain ⟨r1, I1, L1, D1, R1, e1, h⟩ := qc_bd_of h
  have c1 := (tX12_next hn hR e1)
  refine qd_cVn (ci := 10) (a0 := 291) (qc_at qkX12_column_ 18 rfl) ql_12_304 qfX12_next (qc_kf hn rfl) rfl c1 rfl rfl (Nat.le_of_ble_eq_true rfl) (qc_rml (by decide) (by decide)) ⟨Nat.zero_le _, Nat.zero_le _⟩ ?_
  obtain ⟨rfl, rfl, rfl, rfl, rfl⟩ := qc_some5 h
  exact ⟨qc_fm.rf _, qc_iload_n (qc_at qkX12_column_ 19 rfl) rfl <| qc_iret (qc_at qkX12_column_ 20 rfl) rfl (Nat.le_refl _) (Nat.le_refl _) (qc_eq.rf _ _ _)⟩
def fX12_column_ (w : qcW) (I : qTI) (L : qTL) (D : qTD) (R : qTR) : qcO Int32 :=
  (if (I 291 15) = 0 then (qc_gd (qc_inb (I 291 13) 10) <| if (I 292 (Int32.toNatClampNeg (I 291 13))) = (-1 : Int32) then (qc_bd (fX12_fail w I L D R (5 : Int32) (I 291 10)) fun r5 I5 L5 D5 R5 => fX12_column__b31 w I5 L5 D5 R5 (I 291 13)) else (fX12_column__b31 w I L D R (I 291 13))) else (fX12_column__b31 w I L D R (I 291 13)))
set_option maxRecDepth 100000 in
set_option maxHeartbeats 4000000 in
theorem tX12_column_ {w : qcW} {I : qTI} {L : qTL} {D : qTD} {R : qTR} {r : Int32} {I' : qTI} {L' : qTL} {D' : qTD} {R' : qTR} (hn : qcNF ≤ w.1) (hR : qc_FR R) (h : fX12_column_ w I L D R = some (r, I', L', D', R')) : qc_fm qcSM (I, L, D, R) (I', L', D', R') ∧ qc_V (4) 0 0 qmX12_column_ [.ref 291] w (I, L, D, R) (qc_eq (some (.int r)) w (I', L', D', R')) := by
  unfold fX12_column_ at h
  refine And.imp_right (fun hx => qc_V.of rfl rfl (Nat.le_of_ble_eq_true rfl) (lv := [(0, .ref 291)]) rfl hx) ?_
  refine And.imp_right (fun hx => qc_aload_n (qc_at qkX12_column_ 0 rfl) rfl <| qc_gI (qc_at qkX12_column_ 1 rfl) hn rfl <| qc_istore_n (lv' := [(1, _), (0, _)]) (qc_at qkX12_column_ 2 rfl) rfl rfl <| qc_aload_n (qc_at qkX12_column_ 3 rfl) rfl <| qc_gI (qc_at qkX12_column_ 4 rfl) hn rfl <| hx) ?_
  refine qc_andN (qc_if_ne (qc_at qkX12_column_ 5 rfl)) (fun u2 => ?_) (fun u2 => ?_)
  · replace h := qc_jn u2 h
    exact And.imp_right (fun hx => qc_sub [1, 0] rfl hx) (tX12_column__b31 hn hR h)
  · replace h := qc_jp u2 h
    refine And.imp_right (fun hx => qc_aload_n (qc_at qkX12_column_ 6 rfl) rfl <| qc_gR (qc_at qkX12_column_ 7 rfl) hn rfl (qfr_291_1 hR) rfl <| qc_iload_n (qc_at qkX12_column_ 8 rfl) rfl <| hx) ?_
    obtain ⟨g3, h⟩ := qc_gd_of h
    refine And.imp_right (fun hx => qc_iald 10 (qc_at qkX12_column_ 9 rfl) hn rfl (qc_inb_in g3) <| qc_iconst (qc_at qkX12_column_ 10 rfl) <| hx) ?_
    refine qc_andN (qc_icmp_ne (qc_at qkX12_column_ 11 rfl)) (fun u4 => ?_) (fun u4 => ?_)
    · replace h := qc_jn u4 h
      exact And.imp_right (fun hx => qc_sub [1, 0] rfl hx) (tX12_column__b31 hn hR h)
    · replace h := qc_jp u4 h
      refine And.imp_right (fun hx => qc_aload_n (qc_at qkX12_column_ 12 rfl) rfl <| qc_iconst (qc_at qkX12_column_ 13 rfl) <| qc_aload_n (qc_at qkX12_column_ 14 rfl) rfl <| qc_gI (qc_at qkX12_column_ 15 rfl) hn rfl <| hx) ?_
      obtain ⟨r5, I5, L5, D5, R5, e5, h⟩ := qc_bd_of h
      have c5 := (tX12_fail hn hR e5)
      refine qd_cVn (ci := 10) (a0 := 291) (qc_at qkX12_column_ 16 rfl) ql_12_268 qfX12_fail (qc_kf hn rfl) rfl c5 rfl rfl (Nat.le_of_ble_eq_true rfl) (qc_rml (by decide) (by decide)) ⟨Nat.zero_le _, Nat.zero_le _⟩ ?_
      exact And.imp_right (fun hx => qc_sub [1, 0] rfl hx) (tX12_column__b31 hn (c5.1.1 hR) h)
def fX12_cast (w : qcW) (I : qTI) (L : qTL) (D : qTD) (R : qTR) : qcO Int32 :=
  (qc_bd (fX12_isWord w I L D R (91781 : Int64)) fun r1 I1 L1 D1 R1 => if r1 = true then (some ((7 : Int32), I1, L1, D1, R1)) else (qc_bd (fX12_isWord w I1 L1 D1 R1 (20201044 : Int64)) fun r3 I3 L3 D3 R3 => if r3 = true then (some ((8 : Int32), I3, L3, D3, R3)) else (qc_bd (fX12_isWord w I3 L3 D3 R3 (106546 : Int64)) fun r5 I5 L5 D5 R5 => if r5 = true then (some ((9 : Int32), I5, L5, D5, R5)) else (qc_bd (fX12_isWord w I5 L5 D5 R5 (9684 : Int64)) fun r7 I7 L7 D7 R7 => if r7 = true then (some ((10 : Int32), I7, L7, D7, R7)) else (qc_bd (fX12_isWord w I7 L7 D7 R7 (409031 : Int64)) fun r9 I9 L9 D9 R9 => if r9 = true then (some ((11 : Int32), I9, L9, D9, R9)) else (qc_bd (fX12_isWord w I9 L9 D9 R9 (6700084 : Int64)) fun r11 I11 L11 D11 R11 => if r11 = true then (some ((12 : Int32), I11, L11, D11, R11)) else (qc_bd (fX12_isWord w I11 L11 D11 R11 (150636933 : Int64)) fun r13 I13 L13 D13 R13 => if r13 = true then (some ((13 : Int32), I13, L13, D13, R13)) else (some ((-1 : Int32), I13, L13, D13, R13)))))))))
set_option maxRecDepth 100000 in
set_option maxHeartbeats 4000000 in
theorem tX12_cast {w : qcW} {I : qTI} {L : qTL} {D : qTD} {R : qTR} {r : Int32} {I' : qTI} {L' : qTL} {D' : qTD} {R' : qTR} (hn : qcNF ≤ w.1) (hR : qc_FR R) (h : fX12_cast w I L D R = some (r, I', L', D', R')) : qc_fm qcSM (I, L, D, R) (I', L', D', R') ∧ qc_V (1) 0 0 qmX12_cast [.ref 291] w (I, L, D, R) (qc_eq (some (.int r)) w (I', L', D', R')) := by
  unfold fX12_cast at h
  refine And.imp_right (fun hx => qc_V.of rfl rfl (Nat.le_of_ble_eq_true rfl) (lv := [(0, .ref 291)]) rfl hx) ?_
  refine And.imp_right (fun hx => qc_aload_n (qc_at qkX12_cast 0 rfl) rfl <| qc_ldc2l (qc_at qkX12_cast 1 rfl) <| hx) ?_
  obtain ⟨r1, I1, L1, D1, R1, e1, h⟩ := qc_bd_of h
  have c1 := (tX12_isWord hn hR e1)
  refine qd_cVv (ci := 10) (a0 := 291) (qc_at qkX12_cast 2 rfl) ql_12_358 qfX12_isWord (qc_kf hn rfl) rfl c1 rfl rfl (Nat.le_of_ble_eq_true rfl) (qc_rml (by decide) (by decide)) ⟨Nat.zero_le _, Nat.zero_le _⟩ ?_
  refine qc_andB (qc_ifB_eq (qc_at qkX12_cast 3 rfl)) (fun u2 => ?_) (fun u2 => ?_)
  · replace h := qc_jf u2 h
    refine And.imp_right (fun hx => qc_aload_n (qc_at qkX12_cast 6 rfl) rfl <| qc_ldc2l (qc_at qkX12_cast 7 rfl) <| hx) ?_
    obtain ⟨r3, I3, L3, D3, R3, e3, h⟩ := qc_bd_of h
    have c3 := (tX12_isWord hn (c1.1.1 hR) e3)
    refine qd_cVv (ci := 10) (a0 := 291) (qc_at qkX12_cast 8 rfl) ql_12_358 qfX12_isWord (qc_kf hn rfl) rfl c3 rfl rfl (Nat.le_of_ble_eq_true rfl) (qc_rml (by decide) (by decide)) ⟨Nat.zero_le _, Nat.zero_le _⟩ ?_
    refine qc_andB (qc_ifB_eq (qc_at qkX12_cast 9 rfl)) (fun u4 => ?_) (fun u4 => ?_)
    · replace h := qc_jf u4 h
      refine And.imp_right (fun hx => qc_aload_n (qc_at qkX12_cast 12 rfl) rfl <| qc_ldc2l (qc_at qkX12_cast 13 rfl) <| hx) ?_
      obtain ⟨r5, I5, L5, D5, R5, e5, h⟩ := qc_bd_of h
      have c5 := (tX12_isWord hn (c3.1.1 (c1.1.1 hR)) e5)
      refine qd_cVv (ci := 10) (a0 := 291) (qc_at qkX12_cast 14 rfl) ql_12_358 qfX12_isWord (qc_kf hn rfl) rfl c5 rfl rfl (Nat.le_of_ble_eq_true rfl) (qc_rml (by decide) (by decide)) ⟨Nat.zero_le _, Nat.zero_le _⟩ ?_
      refine qc_andB (qc_ifB_eq (qc_at qkX12_cast 15 rfl)) (fun u6 => ?_) (fun u6 => ?_)
      · replace h := qc_jf u6 h
        refine And.imp_right (fun hx => qc_aload_n (qc_at qkX12_cast 18 rfl) rfl <| qc_ldc2l (qc_at qkX12_cast 19 rfl) <| hx) ?_
        obtain ⟨r7, I7, L7, D7, R7, e7, h⟩ := qc_bd_of h
        have c7 := (tX12_isWord hn (c5.1.1 (c3.1.1 (c1.1.1 hR))) e7)
        refine qd_cVv (ci := 10) (a0 := 291) (qc_at qkX12_cast 20 rfl) ql_12_358 qfX12_isWord (qc_kf hn rfl) rfl c7 rfl rfl (Nat.le_of_ble_eq_true rfl) (qc_rml (by decide) (by decide)) ⟨Nat.zero_le _, Nat.zero_le _⟩ ?_
        refine qc_andB (qc_ifB_eq (qc_at qkX12_cast 21 rfl)) (fun u8 => ?_) (fun u8 => ?_)
        · replace h := qc_jf u8 h
          refine And.imp_right (fun hx => qc_aload_n (qc_at qkX12_cast 24 rfl) rfl <| qc_ldc2l (qc_at qkX12_cast 25 rfl) <| hx) ?_
          obtain ⟨r9, I9, L9, D9, R9, e9, h⟩ := qc_bd_of h
          have c9 := (tX12_isWord hn (c7.1.1 (c5.1.1 (c3.1.1 (c1.1.1 hR)))) e9)
          refine qd_cVv (ci := 10) (a0 := 291) (qc_at qkX12_cast 26 rfl) ql_12_358 qfX12_isWord (qc_kf hn rfl) rfl c9 rfl rfl (Nat.le_of_ble_eq_true rfl) (qc_rml (by decide) (by decide)) ⟨Nat.zero_le _, Nat.zero_le _⟩ ?_
          refine qc_andB (qc_ifB_eq (qc_at qkX12_cast 27 rfl)) (fun u10 => ?_) (fun u10 => ?_)
          · replace h := qc_jf u10 h
            refine And.imp_right (fun hx => qc_aload_n (qc_at qkX12_cast 30 rfl) rfl <| qc_ldc2l (qc_at qkX12_cast 31 rfl) <| hx) ?_
            obtain ⟨r11, I11, L11, D11, R11, e11, h⟩ := qc_bd_of h
            have c11 := (tX12_isWord hn (c9.1.1 (c7.1.1 (c5.1.1 (c3.1.1 (c1.1.1 hR))))) e11)
            refine qd_cVv (ci := 10) (a0 := 291) (qc_at qkX12_cast 32 rfl) ql_12_358 qfX12_isWord (qc_kf hn rfl) rfl c11 rfl rfl (Nat.le_of_ble_eq_true rfl) (qc_rml (by decide) (by decide)) ⟨Nat.zero_le _, Nat.zero_le _⟩ ?_
            refine qc_andB (qc_ifB_eq (qc_at qkX12_cast 33 rfl)) (fun u12 => ?_) (fun u12 => ?_)
            · replace h := qc_jf u12 h
              refine And.imp_right (fun hx => qc_aload_n (qc_at qkX12_cast 36 rfl) rfl <| qc_ldc2l (qc_at qkX12_cast 37 rfl) <| hx) ?_
              obtain ⟨r13, I13, L13, D13, R13, e13, h⟩ := qc_bd_of h
              have c13 := (tX12_isWord hn (c11.1.1 (c9.1.1 (c7.1.1 (c5.1.1 (c3.1.1 (c1.1.1 hR)))))) e13)
              refine qd_cVv (ci := 10) (a0 := 291) (qc_at qkX12_cast 38 rfl) ql_12_358 qfX12_isWord (qc_kf hn rfl) rfl c13 rfl rfl (Nat.le_of_ble_eq_true rfl) (qc_rml (by decide) (by decide)) ⟨Nat.zero_le _, Nat.zero_le _⟩ ?_
              refine qc_andB (qc_ifB_eq (qc_at qkX12_cast 39 rfl)) (fun u14 => ?_) (fun u14 => ?_)
              · replace h := qc_jf u14 h
                obtain ⟨rfl, rfl, rfl, rfl, rfl⟩ := qc_some5 h
                exact ⟨qc_fm.rf _, qc_iconst (qc_at qkX12_cast 42 rfl) <| qc_iret (qc_at qkX12_cast 43 rfl) rfl (Nat.le_refl _) (Nat.le_refl _) (qc_eq.rf _ _ _)⟩
              · replace h := qc_jt u14 h
                obtain ⟨rfl, rfl, rfl, rfl, rfl⟩ := qc_some5 h
                exact ⟨qc_fm.rf _, qc_bipush (qc_at qkX12_cast 40 rfl) <| qc_goto (qc_at qkX12_cast 41 rfl) <| qc_iret (qc_at qkX12_cast 43 rfl) rfl (Nat.le_refl _) (Nat.le_refl _) (qc_eq.rf _ _ _)⟩
            · replace h := qc_jt u12 h
              obtain ⟨rfl, rfl, rfl, rfl, rfl⟩ := qc_some5 h
              exact ⟨qc_fm.rf _, qc_bipush (qc_at qkX12_cast 34 rfl) <| qc_goto (qc_at qkX12_cast 35 rfl) <| qc_iret (qc_at qkX12_cast 43 rfl) rfl (Nat.le_refl _) (Nat.le_refl _) (qc_eq.rf _ _ _)⟩
          · replace h := qc_jt u10 h
            obtain ⟨rfl, rfl, rfl, rfl, rfl⟩ := qc_some5 h
            exact ⟨qc_fm.rf _, qc_bipush (qc_at qkX12_cast 28 rfl) <| qc_goto (qc_at qkX12_cast 29 rfl) <| qc_iret (qc_at qkX12_cast 43 rfl) rfl (Nat.le_refl _) (Nat.le_refl _) (qc_eq.rf _ _ _)⟩
        · replace h := qc_jt u8 h
          obtain ⟨rfl, rfl, rfl, rfl, rfl⟩ := qc_some5 h
          exact ⟨qc_fm.rf _, qc_bipush (qc_at qkX12_cast 22 rfl) <| qc_goto (qc_at qkX12_cast 23 rfl) <| qc_iret (qc_at qkX12_cast 43 rfl) rfl (Nat.le_refl _) (Nat.le_refl _) (qc_eq.rf _ _ _)⟩
      · replace h := qc_jt u6 h
        obtain ⟨rfl, rfl, rfl, rfl, rfl⟩ := qc_some5 h
        exact ⟨qc_fm.rf _, qc_bipush (qc_at qkX12_cast 16 rfl) <| qc_goto (qc_at qkX12_cast 17 rfl) <| qc_iret (qc_at qkX12_cast 43 rfl) rfl (Nat.le_refl _) (Nat.le_refl _) (qc_eq.rf _ _ _)⟩
    · replace h := qc_jt u4 h
      obtain ⟨rfl, rfl, rfl, rfl, rfl⟩ := qc_some5 h
      exact ⟨qc_fm.rf _, qc_bipush (qc_at qkX12_cast 10 rfl) <| qc_goto (qc_at qkX12_cast 11 rfl) <| qc_iret (qc_at qkX12_cast 43 rfl) rfl (Nat.le_refl _) (Nat.le_refl _) (qc_eq.rf _ _ _)⟩
  · replace h := qc_jt u2 h
    obtain ⟨rfl, rfl, rfl, rfl, rfl⟩ := qc_some5 h
    exact ⟨qc_fm.rf _, qc_bipush (qc_at qkX12_cast 4 rfl) <| qc_goto (qc_at qkX12_cast 5 rfl) <| qc_iret (qc_at qkX12_cast 43 rfl) rfl (Nat.le_refl _) (Nat.le_refl _) (qc_eq.rf _ _ _)⟩
def fX12_function (w : qcW) (I : qTI) (L : qTL) (D : qTD) (R : qTR) : qcO Int32 :=
  (qc_bd (fX12_isWord w I L D R (1107 : Int64)) fun r1 I1 L1 D1 R1 => if r1 = true then (some ((0 : Int32), I1, L1, D1, R1)) else (qc_bd (fX12_isWord w I1 L1 D1 R1 (6700530 : Int64)) fun r3 I3 L3 D3 R3 => if r3 = true then (some ((1 : Int32), I3, L3, D3, R3)) else (qc_bd (fX12_isWord w I3 L3 D3 R3 (103724 : Int64)) fun r5 I5 L5 D5 R5 => if r5 = true then (some ((2 : Int32), I5, L5, D5, R5)) else (qc_bd (fX12_isWord w I5 L5 D5 R5 (599508 : Int64)) fun r7 I7 L7 D7 R7 => if r7 = true then (some ((3 : Int32), I7, L7, D7, R7)) else (qc_bd (fX12_isWord w I7 L7 D7 R7 (632046 : Int64)) fun r9 I9 L9 D9 R9 => if r9 = true then (some ((4 : Int32), I9, L9, D9, R9)) else (qc_bd (fX12_isWord w I9 L9 D9 R9 (13614 : Int64)) fun r11 I11 L11 D11 R11 => if r11 = true then (some ((5 : Int32), I11, L11, D11, R11)) else (qc_bd (fX12_isWord w I11 L11 D11 R11 (13368 : Int64)) fun r13 I13 L13 D13 R13 => if r13 = true then (some ((6 : Int32), I13, L13, D13, R13)) else (qc_bd (fX12_cast w I13 L13 D13 R13) fun r15 I15 L15 D15 R15 => some (r15, I15, L15, D15, R15)))))))))
set_option maxRecDepth 100000 in
set_option maxHeartbeats 4000000 in
theorem tX12_function {w : qcW} {I : qTI} {L : qTL} {D : qTD} {R : qTR} {r : Int32} {I' : qTI} {L' : qTL} {D' : qTD} {R' : qTR} (hn : qcNF ≤ w.1) (hR : qc_FR R) (h : fX12_function w I L D R = some (r, I', L', D', R')) : qc_fm qcSM (I, L, D, R) (I', L', D', R') ∧ qc_V (2) 0 0 qmX12_function [.ref 291] w (I, L, D, R) (qc_eq (some (.int r)) w (I', L', D', R')) := by
  unfold fX12_function at h
  refine And.imp_right (fun hx => qc_V.of rfl rfl (Nat.le_of_ble_eq_true rfl) (lv := [(0, .ref 291)]) rfl hx) ?_
  refine And.imp_right (fun hx => qc_aload_n (qc_at qkX12_function 0 rfl) rfl <| qc_ldc2l (qc_at qkX12_function 1 rfl) <| hx) ?_
  obtain ⟨r1, I1, L1, D1, R1, e1, h⟩ := qc_bd_of h
  have c1 := (tX12_isWord hn hR e1)
  refine qd_cVv (ci := 10) (a0 := 291) (qc_at qkX12_function 2 rfl) ql_12_358 qfX12_isWord (qc_kf hn rfl) rfl c1 rfl rfl (Nat.le_of_ble_eq_true rfl) (qc_rml (by decide) (by decide)) ⟨Nat.zero_le _, Nat.zero_le _⟩ ?_
  refine qc_andB (qc_ifB_eq (qc_at qkX12_function 3 rfl)) (fun u2 => ?_) (fun u2 => ?_)
  · replace h := qc_jf u2 h
    refine And.imp_right (fun hx => qc_aload_n (qc_at qkX12_function 6 rfl) rfl <| qc_ldc2l (qc_at qkX12_function 7 rfl) <| hx) ?_
    obtain ⟨r3, I3, L3, D3, R3, e3, h⟩ := qc_bd_of h
    have c3 := (tX12_isWord hn (c1.1.1 hR) e3)
    refine qd_cVv (ci := 10) (a0 := 291) (qc_at qkX12_function 8 rfl) ql_12_358 qfX12_isWord (qc_kf hn rfl) rfl c3 rfl rfl (Nat.le_of_ble_eq_true rfl) (qc_rml (by decide) (by decide)) ⟨Nat.zero_le _, Nat.zero_le _⟩ ?_
    refine qc_andB (qc_ifB_eq (qc_at qkX12_function 9 rfl)) (fun u4 => ?_) (fun u4 => ?_)
    · replace h := qc_jf u4 h
      refine And.imp_right (fun hx => qc_aload_n (qc_at qkX12_function 12 rfl) rfl <| qc_ldc2l (qc_at qkX12_function 13 rfl) <| hx) ?_
      obtain ⟨r5, I5, L5, D5, R5, e5, h⟩ := qc_bd_of h
      have c5 := (tX12_isWord hn (c3.1.1 (c1.1.1 hR)) e5)
      refine qd_cVv (ci := 10) (a0 := 291) (qc_at qkX12_function 14 rfl) ql_12_358 qfX12_isWord (qc_kf hn rfl) rfl c5 rfl rfl (Nat.le_of_ble_eq_true rfl) (qc_rml (by decide) (by decide)) ⟨Nat.zero_le _, Nat.zero_le _⟩ ?_
      refine qc_andB (qc_ifB_eq (qc_at qkX12_function 15 rfl)) (fun u6 => ?_) (fun u6 => ?_)
      · replace h := qc_jf u6 h
        refine And.imp_right (fun hx => qc_aload_n (qc_at qkX12_function 18 rfl) rfl <| qc_ldc2l (qc_at qkX12_function 19 rfl) <| hx) ?_
        obtain ⟨r7, I7, L7, D7, R7, e7, h⟩ := qc_bd_of h
        have c7 := (tX12_isWord hn (c5.1.1 (c3.1.1 (c1.1.1 hR))) e7)
        refine qd_cVv (ci := 10) (a0 := 291) (qc_at qkX12_function 20 rfl) ql_12_358 qfX12_isWord (qc_kf hn rfl) rfl c7 rfl rfl (Nat.le_of_ble_eq_true rfl) (qc_rml (by decide) (by decide)) ⟨Nat.zero_le _, Nat.zero_le _⟩ ?_
        refine qc_andB (qc_ifB_eq (qc_at qkX12_function 21 rfl)) (fun u8 => ?_) (fun u8 => ?_)
        · replace h := qc_jf u8 h
          refine And.imp_right (fun hx => qc_aload_n (qc_at qkX12_function 24 rfl) rfl <| qc_ldc2l (qc_at qkX12_function 25 rfl) <| hx) ?_
          obtain ⟨r9, I9, L9, D9, R9, e9, h⟩ := qc_bd_of h
          have c9 := (tX12_isWord hn (c7.1.1 (c5.1.1 (c3.1.1 (c1.1.1 hR)))) e9)
          refine qd_cVv (ci := 10) (a0 := 291) (qc_at qkX12_function 26 rfl) ql_12_358 qfX12_isWord (qc_kf hn rfl) rfl c9 rfl rfl (Nat.le_of_ble_eq_true rfl) (qc_rml (by decide) (by decide)) ⟨Nat.zero_le _, Nat.zero_le _⟩ ?_
          refine qc_andB (qc_ifB_eq (qc_at qkX12_function 27 rfl)) (fun u10 => ?_) (fun u10 => ?_)
          · replace h := qc_jf u10 h
            refine And.imp_right (fun hx => qc_aload_n (qc_at qkX12_function 30 rfl) rfl <| qc_ldc2l (qc_at qkX12_function 31 rfl) <| hx) ?_
            obtain ⟨r11, I11, L11, D11, R11, e11, h⟩ := qc_bd_of h
            have c11 := (tX12_isWord hn (c9.1.1 (c7.1.1 (c5.1.1 (c3.1.1 (c1.1.1 hR))))) e11)
            refine qd_cVv (ci := 10) (a0 := 291) (qc_at qkX12_function 32 rfl) ql_12_358 qfX12_isWord (qc_kf hn rfl) rfl c11 rfl rfl (Nat.le_of_ble_eq_true rfl) (qc_rml (by decide) (by decide)) ⟨Nat.zero_le _, Nat.zero_le _⟩ ?_
            refine qc_andB (qc_ifB_eq (qc_at qkX12_function 33 rfl)) (fun u12 => ?_) (fun u12 => ?_)
            · replace h := qc_jf u12 h
              refine And.imp_right (fun hx => qc_aload_n (qc_at qkX12_function 36 rfl) rfl <| qc_ldc2l (qc_at qkX12_function 37 rfl) <| hx) ?_
              obtain ⟨r13, I13, L13, D13, R13, e13, h⟩ := qc_bd_of h
              have c13 := (tX12_isWord hn (c11.1.1 (c9.1.1 (c7.1.1 (c5.1.1 (c3.1.1 (c1.1.1 hR)))))) e13)
              refine qd_cVv (ci := 10) (a0 := 291) (qc_at qkX12_function 38 rfl) ql_12_358 qfX12_isWord (qc_kf hn rfl) rfl c13 rfl rfl (Nat.le_of_ble_eq_true rfl) (qc_rml (by decide) (by decide)) ⟨Nat.zero_le _, Nat.zero_le _⟩ ?_
              refine qc_andB (qc_ifB_eq (qc_at qkX12_function 39 rfl)) (fun u14 => ?_) (fun u14 => ?_)
              · replace h := qc_jf u14 h
                refine And.imp_right (fun hx => qc_aload_n (qc_at qkX12_function 42 rfl) rfl <| hx) ?_
                obtain ⟨r15, I15, L15, D15, R15, e15, h⟩ := qc_bd_of h
                have c15 := (tX12_cast hn (c13.1.1 (c11.1.1 (c9.1.1 (c7.1.1 (c5.1.1 (c3.1.1 (c1.1.1 hR))))))) e15)
                refine qd_cVv (ci := 10) (a0 := 291) (qc_at qkX12_function 43 rfl) ql_12_381 qfX12_cast (qc_kf hn rfl) rfl c15 rfl rfl (Nat.le_of_ble_eq_true rfl) (qc_rml (by decide) (by decide)) ⟨Nat.zero_le _, Nat.zero_le _⟩ ?_
                obtain ⟨rfl, rfl, rfl, rfl, rfl⟩ := qc_some5 h
                exact ⟨qc_fm.rf _, qc_iret (qc_at qkX12_function 44 rfl) rfl (Nat.le_refl _) (Nat.le_refl _) (qc_eq.rf _ _ _)⟩
              · replace h := qc_jt u14 h
                obtain ⟨rfl, rfl, rfl, rfl, rfl⟩ := qc_some5 h
                exact ⟨qc_fm.rf _, qc_bipush (qc_at qkX12_function 40 rfl) <| qc_goto (qc_at qkX12_function 41 rfl) <| qc_iret (qc_at qkX12_function 44 rfl) rfl (Nat.le_refl _) (Nat.le_refl _) (qc_eq.rf _ _ _)⟩
            · replace h := qc_jt u12 h
              obtain ⟨rfl, rfl, rfl, rfl, rfl⟩ := qc_some5 h
              exact ⟨qc_fm.rf _, qc_iconst (qc_at qkX12_function 34 rfl) <| qc_goto (qc_at qkX12_function 35 rfl) <| qc_iret (qc_at qkX12_function 44 rfl) rfl (Nat.le_refl _) (Nat.le_refl _) (qc_eq.rf _ _ _)⟩
          · replace h := qc_jt u10 h
            obtain ⟨rfl, rfl, rfl, rfl, rfl⟩ := qc_some5 h
            exact ⟨qc_fm.rf _, qc_iconst (qc_at qkX12_function 28 rfl) <| qc_goto (qc_at qkX12_function 29 rfl) <| qc_iret (qc_at qkX12_function 44 rfl) rfl (Nat.le_refl _) (Nat.le_refl _) (qc_eq.rf _ _ _)⟩
        · replace h := qc_jt u8 h
          obtain ⟨rfl, rfl, rfl, rfl, rfl⟩ := qc_some5 h
          exact ⟨qc_fm.rf _, qc_iconst (qc_at qkX12_function 22 rfl) <| qc_goto (qc_at qkX12_function 23 rfl) <| qc_iret (qc_at qkX12_function 44 rfl) rfl (Nat.le_refl _) (Nat.le_refl _) (qc_eq.rf _ _ _)⟩
      · replace h := qc_jt u6 h
        obtain ⟨rfl, rfl, rfl, rfl, rfl⟩ := qc_some5 h
        exact ⟨qc_fm.rf _, qc_iconst (qc_at qkX12_function 16 rfl) <| qc_goto (qc_at qkX12_function 17 rfl) <| qc_iret (qc_at qkX12_function 44 rfl) rfl (Nat.le_refl _) (Nat.le_refl _) (qc_eq.rf _ _ _)⟩
    · replace h := qc_jt u4 h
      obtain ⟨rfl, rfl, rfl, rfl, rfl⟩ := qc_some5 h
      exact ⟨qc_fm.rf _, qc_iconst (qc_at qkX12_function 10 rfl) <| qc_goto (qc_at qkX12_function 11 rfl) <| qc_iret (qc_at qkX12_function 44 rfl) rfl (Nat.le_refl _) (Nat.le_refl _) (qc_eq.rf _ _ _)⟩
  · replace h := qc_jt u2 h
    obtain ⟨rfl, rfl, rfl, rfl, rfl⟩ := qc_some5 h
    exact ⟨qc_fm.rf _, qc_iconst (qc_at qkX12_function 4 rfl) <| qc_goto (qc_at qkX12_function 5 rfl) <| qc_iret (qc_at qkX12_function 44 rfl) rfl (Nat.le_refl _) (Nat.le_refl _) (qc_eq.rf _ _ _)⟩
def fX12_beginsCell (w : qcW) (I : qTI) (L : qTL) (D : qTD) (R : qTR) : qcO Bool :=
  (qc_bd (fX12_column_ w I L D R) fun r1 I1 L1 D1 R1 => if (I1 291 15) ≤ 0 then (qc_gd (qc_inb r1 10) <| qc_gd (qc_inb (I1 292 (Int32.toNatClampNeg r1)) 11) <| qc_bd (fX12_is w I1 L1 D1 R1 (91 : Int32)) fun r5 I5 L5 D5 R5 => if r5 = true then (qc_bd (fX12_opens w I5 L5 D5 R5) fun r10 I10 L10 D10 R10 => qc_bd (fX12_frame w I10 L10 D10 R10 (2 : Int32) (I10 291 10) r1 (I1 293 (Int32.toNatClampNeg (I1 292 (Int32.toNatClampNeg r1))))) fun r11 I11 L11 D11 R11 => qc_bd (fX12_next w I11 L11 D11 R11) fun r12 I12 L12 D12 R12 => some (false, I12, L12, D12, R12)) else (qc_bd (fX12_kindOfLane w I5 L5 D5 R5 (I1 293 (Int32.toNatClampNeg (I1 292 (Int32.toNatClampNeg r1))))) fun r7 I7 L7 D7 R7 => qc_bd (fX12_node w I7 L7 D7 R7 (4 : Int32) (-1 : Int32) (I1 293 (Int32.toNatClampNeg (I1 292 (Int32.toNatClampNeg r1)))) (0 : Int32) r1 r7) fun r8 I8 L8 D8 R8 => qc_bd (fX12_lay w I8 L8 D8 R8 r8) fun r9 I9 L9 D9 R9 => some (true, I9, L9, D9, R9))) else (some (true, I1, L1, D1, R1)))
set_option maxRecDepth 100000 in
set_option maxHeartbeats 4000000 in
theorem tX12_beginsCell {w : qcW} {I : qTI} {L : qTL} {D : qTD} {R : qTR} {r : Bool} {I' : qTI} {L' : qTL} {D' : qTD} {R' : qTR} (hn : qcNF ≤ w.1) (hR : qc_FR R) (h : fX12_beginsCell w I L D R = some (r, I', L', D', R')) : qc_fm qcSM (I, L, D, R) (I', L', D', R') ∧ qc_V (5) 0 0 qmX12_beginsCell [.ref 291] w (I, L, D, R) (qc_eq (some (.int (qc_b r))) w (I', L', D', R')) := by
  unfold fX12_beginsCell at h
  refine And.imp_right (fun hx => qc_V.of rfl rfl (Nat.le_of_ble_eq_true rfl) (lv := [(0, .ref 291)]) rfl hx) ?_
  refine And.imp_right (fun hx => qc_aload_n (qc_at qkX12_beginsCell 0 rfl) rfl <| hx) ?_
  obtain ⟨r1, I1, L1, D1, R1, e1, h⟩ := qc_bd_of h
  have c1 := (tX12_column_ hn hR e1)
  refine qd_cVv (ci := 10) (a0 := 291) (qc_at qkX12_beginsCell 1 rfl) ql_12_423 qfX12_column_ (qc_kf hn rfl) rfl c1 rfl rfl (Nat.le_of_ble_eq_true rfl) (qc_rml (by decide) (by decide)) ⟨Nat.zero_le _, Nat.zero_le _⟩ ?_
  refine And.imp_right (fun hx => qc_istore_n (lv' := [(1, _), (0, _)]) (qc_at qkX12_beginsCell 2 rfl) rfl rfl <| qc_aload_n (qc_at qkX12_beginsCell 3 rfl) rfl <| qc_gI (qc_at qkX12_beginsCell 4 rfl) hn rfl <| hx) ?_
  refine qc_andC (qc_if_le (qc_at qkX12_beginsCell 5 rfl)) (fun u2 => ?_) (fun u2 => ?_)
  · replace h := qc_jp u2 h
    refine And.imp_right (fun hx => qc_aload_n (qc_at qkX12_beginsCell 8 rfl) rfl <| qc_gR (qc_at qkX12_beginsCell 9 rfl) hn rfl (qfr_291_2 (c1.1.1 hR)) rfl <| qc_aload_n (qc_at qkX12_beginsCell 10 rfl) rfl <| qc_gR (qc_at qkX12_beginsCell 11 rfl) hn rfl (qfr_291_1 (c1.1.1 hR)) rfl <| qc_iload_n (qc_at qkX12_beginsCell 12 rfl) rfl <| hx) ?_
    obtain ⟨g3, h⟩ := qc_gd_of h
    refine And.imp_right (fun hx => qc_iald 10 (qc_at qkX12_beginsCell 13 rfl) hn rfl (qc_inb_in g3) <| hx) ?_
    obtain ⟨g4, h⟩ := qc_gd_of h
    refine And.imp_right (fun hx => qc_iald 11 (qc_at qkX12_beginsCell 14 rfl) hn rfl (qc_inb_in g4) <| qc_istore_n (lv' := [(2, _), (1, _), (0, _)]) (qc_at qkX12_beginsCell 15 rfl) rfl rfl <| qc_aload_n (qc_at qkX12_beginsCell 16 rfl) rfl <| qc_bipush (qc_at qkX12_beginsCell 17 rfl) <| hx) ?_
    obtain ⟨r5, I5, L5, D5, R5, e5, h⟩ := qc_bd_of h
    have c5 := (tX12_is hn (c1.1.1 hR) e5)
    refine qd_cVv (ci := 10) (a0 := 291) (qc_at qkX12_beginsCell 18 rfl) ql_12_301 qfX12_is (qc_kf hn rfl) rfl c5 rfl rfl (Nat.le_of_ble_eq_true rfl) (qc_rml (by decide) (by decide)) ⟨Nat.zero_le _, Nat.zero_le _⟩ ?_
    refine qc_andB (qc_ifB_eq (qc_at qkX12_beginsCell 19 rfl)) (fun u6 => ?_) (fun u6 => ?_)
    · replace h := qc_jf u6 h
      refine And.imp_right (fun hx => qc_aload_n (qc_at qkX12_beginsCell 33 rfl) rfl <| qc_aload_n (qc_at qkX12_beginsCell 34 rfl) rfl <| qc_iconst (qc_at qkX12_beginsCell 35 rfl) <| qc_iconst (qc_at qkX12_beginsCell 36 rfl) <| qc_iload_n (qc_at qkX12_beginsCell 37 rfl) rfl <| qc_iconst (qc_at qkX12_beginsCell 38 rfl) <| qc_iload_n (qc_at qkX12_beginsCell 39 rfl) rfl <| qc_iload_n (qc_at qkX12_beginsCell 40 rfl) rfl <| hx) ?_
      obtain ⟨r7, I7, L7, D7, R7, e7, h⟩ := qc_bd_of h
      have c7 := (tX12_kindOfLane hn (c5.1.1 (c1.1.1 hR)) e7)
      refine qd_cSv (qc_at qkX12_beginsCell 41 rfl) ql_12_426 qfX12_kindOfLane c7 rfl rfl (Nat.le_of_ble_eq_true rfl) (qc_rml (by decide) (by decide)) ⟨Nat.zero_le _, Nat.zero_le _⟩ ?_
      obtain ⟨r8, I8, L8, D8, R8, e8, h⟩ := qc_bd_of h
      have c8 := (tX12_node hn (c7.1.1 (c5.1.1 (c1.1.1 hR))) e8)
      refine qd_cVv (ci := 10) (a0 := 291) (qc_at qkX12_beginsCell 42 rfl) ql_12_343 qfX12_node (qc_kf hn rfl) rfl c8 rfl rfl (Nat.le_of_ble_eq_true rfl) (qc_rml (by decide) (by decide)) ⟨Nat.zero_le _, Nat.zero_le _⟩ ?_
      obtain ⟨r9, I9, L9, D9, R9, e9, h⟩ := qc_bd_of h
      have c9 := (tX12_lay hn (c8.1.1 (c7.1.1 (c5.1.1 (c1.1.1 hR)))) e9)
      refine qd_cVn (ci := 10) (a0 := 291) (qc_at qkX12_beginsCell 43 rfl) ql_12_347 qfX12_lay (qc_kf hn rfl) rfl c9 rfl rfl (Nat.le_of_ble_eq_true rfl) (qc_rml (by decide) (by decide)) ⟨Nat.zero_le _, Nat.zero_le _⟩ ?_
      obtain ⟨rfl, rfl, rfl, rfl, rfl⟩ := qc_some5 h
      exact ⟨qc_fm.rf _, qc_iconst (qc_at qkX12_beginsCell 44 rfl) <| qc_zret (qc_at qkX12_beginsCell 45 rfl) rfl (Or.inr rfl) (Nat.le_refl _) (Nat.le_refl _) ⟨rfl, rfl, rfl⟩⟩
    · replace h := qc_jt u6 h
      refine And.imp_right (fun hx => qc_aload_n (qc_at qkX12_beginsCell 20 rfl) rfl <| hx) ?_
      obtain ⟨r10, I10, L10, D10, R10, e10, h⟩ := qc_bd_of h
      have c10 := (tX12_opens hn (c5.1.1 (c1.1.1 hR)) e10)
      refine qd_cVn (ci := 10) (a0 := 291) (qc_at qkX12_beginsCell 21 rfl) ql_12_400 qfX12_opens (qc_kf hn rfl) rfl c10 rfl rfl (Nat.le_of_ble_eq_true rfl) (qc_rml (by decide) (by decide)) ⟨Nat.zero_le _, Nat.zero_le _⟩ ?_
      refine And.imp_right (fun hx => qc_aload_n (qc_at qkX12_beginsCell 22 rfl) rfl <| qc_iconst (qc_at qkX12_beginsCell 23 rfl) <| qc_aload_n (qc_at qkX12_beginsCell 24 rfl) rfl <| qc_gI (qc_at qkX12_beginsCell 25 rfl) hn rfl <| qc_iload_n (qc_at qkX12_beginsCell 26 rfl) rfl <| qc_iload_n (qc_at qkX12_beginsCell 27 rfl) rfl <| hx) ?_
      obtain ⟨r11, I11, L11, D11, R11, e11, h⟩ := qc_bd_of h
      have c11 := (tX12_frame hn (c10.1.1 (c5.1.1 (c1.1.1 hR))) e11)
      refine qd_cVn (ci := 10) (a0 := 291) (qc_at qkX12_beginsCell 28 rfl) ql_12_419 qfX12_frame (qc_kf hn rfl) rfl c11 rfl rfl (Nat.le_of_ble_eq_true rfl) (qc_rml (by decide) (by decide)) ⟨Nat.zero_le _, Nat.zero_le _⟩ ?_
      refine And.imp_right (fun hx => qc_aload_n (qc_at qkX12_beginsCell 29 rfl) rfl <| hx) ?_
      obtain ⟨r12, I12, L12, D12, R12, e12, h⟩ := qc_bd_of h
      have c12 := (tX12_next hn (c11.1.1 (c10.1.1 (c5.1.1 (c1.1.1 hR)))) e12)
      refine qd_cVn (ci := 10) (a0 := 291) (qc_at qkX12_beginsCell 30 rfl) ql_12_304 qfX12_next (qc_kf hn rfl) rfl c12 rfl rfl (Nat.le_of_ble_eq_true rfl) (qc_rml (by decide) (by decide)) ⟨Nat.zero_le _, Nat.zero_le _⟩ ?_
      obtain ⟨rfl, rfl, rfl, rfl, rfl⟩ := qc_some5 h
      exact ⟨qc_fm.rf _, qc_iconst (qc_at qkX12_beginsCell 31 rfl) <| qc_zret (qc_at qkX12_beginsCell 32 rfl) rfl (Or.inl rfl) (Nat.le_refl _) (Nat.le_refl _) ⟨rfl, rfl, rfl⟩⟩
  · replace h := qc_jn u2 h
    obtain ⟨rfl, rfl, rfl, rfl, rfl⟩ := qc_some5 h
    exact ⟨qc_fm.rf _, qc_iconst (qc_at qkX12_beginsCell 6 rfl) <| qc_zret (qc_at qkX12_beginsCell 7 rfl) rfl (Or.inr rfl) (Nat.le_refl _) (Nat.le_refl _) ⟨rfl, rfl, rfl⟩⟩
def fX12_beginsWord_b72 (w : qcW) (I : qTI) (L : qTL) (D : qTD) (R : qTR) (s0 : Int32) (s1 : Int32) (s2 : Int32) (s3 : Int32) (s4 : Int32) (s5 : Int32) : qcO Bool :=
  (qc_bd (fX12_node w I L D R s5 s4 s3 s2 s1 s0) fun r1 I1 L1 D1 R1 => qc_bd (fX12_lay w I1 L1 D1 R1 r1) fun r2 I2 L2 D2 R2 => qc_bd (fX12_next w I2 L2 D2 R2) fun r3 I3 L3 D3 R3 => some (true, I3, L3, D3, R3))
set_option maxRecDepth 100000 in
set_option maxHeartbeats 4000000 in
theorem tX12_beginsWord_b72 {w : qcW} {I : qTI} {L : qTL} {D : qTD} {R : qTR} {s0 : Int32} {s1 : Int32} {s2 : Int32} {s3 : Int32} {s4 : Int32} {s5 : Int32} {r : Bool} {I' : qTI} {L' : qTL} {D' : qTD} {R' : qTR} (hn : qcNF ≤ w.1) (hR : qc_FR R) (h : fX12_beginsWord_b72 w I L D R s0 s1 s2 s3 s4 s5 = some (r, I', L', D', R')) : qc_fm qcSM (I, L, D, R) (I', L', D', R') ∧ qc_X (qc_rm (4) 0 0) qmX12_beginsWord (qc_QM 0 0 (qc_eq (some (.int (qc_b r))) w (I', L', D', R'))) 0 0 w (72, [(0, .ref 291)], [.int s0, .int s1, .int s2, .int s3, .int s4, .int s5, .ref 291, .ref 291], I, L, D, R) := by
  unfold fX12_beginsWord_b72 at h
  obtain ⟨r1, I1, L1, D1, R1, e1, h⟩ := qc_bd_of h
  have c1 := (tX12_node hn hR e1)
  refine qd_cVv (ci := 10) (a0 := 291) (qc_at qkX12_beginsWord 38 rfl) ql_12_343 qfX12_node (qc_kf hn rfl) rfl c1 rfl rfl (Nat.le_of_ble_eq_true rfl) (qc_rml (by decide) (by decide)) ⟨Nat.zero_le _, Nat.zero_le _⟩ ?_
  obtain ⟨r2, I2, L2, D2, R2, e2, h⟩ := qc_bd_of h
  have c2 := (tX12_lay hn (c1.1.1 hR) e2)
  refine qd_cVn (ci := 10) (a0 := 291) (qc_at qkX12_beginsWord 39 rfl) ql_12_347 qfX12_lay (qc_kf hn rfl) rfl c2 rfl rfl (Nat.le_of_ble_eq_true rfl) (qc_rml (by decide) (by decide)) ⟨Nat.zero_le _, Nat.zero_le _⟩ ?_
  refine And.imp_right (fun hx => qc_aload_n (qc_at qkX12_beginsWord 40 rfl) rfl <| hx) ?_
  obtain ⟨r3, I3, L3, D3, R3, e3, h⟩ := qc_bd_of h
  have c3 := (tX12_next hn (c2.1.1 (c1.1.1 hR)) e3)
  refine qd_cVn (ci := 10) (a0 := 291) (qc_at qkX12_beginsWord 41 rfl) ql_12_304 qfX12_next (qc_kf hn rfl) rfl c3 rfl rfl (Nat.le_of_ble_eq_true rfl) (qc_rml (by decide) (by decide)) ⟨Nat.zero_le _, Nat.zero_le _⟩ ?_
  obtain ⟨rfl, rfl, rfl, rfl, rfl⟩ := qc_some5 h
  exact ⟨qc_fm.rf _, qc_iconst (qc_at qkX12_beginsWord 42 rfl) <| qc_zret (qc_at qkX12_beginsWord 43 rfl) rfl (Or.inr rfl) (Nat.le_refl _) (Nat.le_refl _) ⟨rfl, rfl, rfl⟩⟩
def fX12_beginsWord_b63 (w : qcW) (I : qTI) (L : qTL) (D : qTD) (R : qTR) (x2 : Int32) (s0 : Int32) (s1 : Int32) (s2 : Int32) (s3 : Int32) (s4 : Int32) : qcO Bool :=
  (if x2 = 0 then (fX12_beginsWord_b72 w I L D R (0 : Int32) s0 s1 s2 s3 s4) else (fX12_beginsWord_b72 w I L D R (1 : Int32) s0 s1 s2 s3 s4))
set_option maxRecDepth 100000 in
set_option maxHeartbeats 4000000 in
theorem tX12_beginsWord_b63 {w : qcW} {I : qTI} {L : qTL} {D : qTD} {R : qTR} {x2 : Int32} {s0 : Int32} {s1 : Int32} {s2 : Int32} {s3 : Int32} {s4 : Int32} {r : Bool} {I' : qTI} {L' : qTL} {D' : qTD} {R' : qTR} (hn : qcNF ≤ w.1) (hR : qc_FR R) (h : fX12_beginsWord_b63 w I L D R x2 s0 s1 s2 s3 s4 = some (r, I', L', D', R')) : qc_fm qcSM (I, L, D, R) (I', L', D', R') ∧ qc_X (qc_rm (4) 0 0) qmX12_beginsWord (qc_QM 0 0 (qc_eq (some (.int (qc_b r))) w (I', L', D', R'))) 0 0 w (63, [(0, .ref 291), (2, .int x2)], [.int s0, .int s1, .int s2, .int s3, .int s4, .ref 291, .ref 291], I, L, D, R) := by
  unfold fX12_beginsWord_b63 at h
  refine And.imp_right (fun hx => qc_iload_n (qc_at qkX12_beginsWord 33 rfl) rfl <| hx) ?_
  refine qc_andC (qc_if_eq (qc_at qkX12_beginsWord 34 rfl)) (fun u4 => ?_) (fun u4 => ?_)
  · replace h := qc_jp u4 h
    exact And.imp_right (fun hx => qc_iconst (qc_at qkX12_beginsWord 37 rfl) <| qc_sub [0] rfl hx) (tX12_beginsWord_b72 hn hR h)
  · replace h := qc_jn u4 h
    exact And.imp_right (fun hx => qc_iconst (qc_at qkX12_beginsWord 35 rfl) <| qc_goto (qc_at qkX12_beginsWord 36 rfl) <| qc_sub [0] rfl hx) (tX12_beginsWord_b72 hn hR h)
def fX12_beginsWord_b51 (w : qcW) (I : qTI) (L : qTL) (D : qTD) (R : qTR) (x1 : Int32) (x2 : Int32) (s0 : Int32) : qcO Bool :=
  (if x1 = 0 then (fX12_beginsWord_b63 w I L D R x2 (0 : Int32) (0 : Int32) (0 : Int32) (0 : Int32) s0) else (fX12_beginsWord_b63 w I L D R x2 (1 : Int32) (0 : Int32) (0 : Int32) (0 : Int32) s0))
set_option maxRecDepth 100000 in
set_option maxHeartbeats 4000000 in
theorem tX12_beginsWord_b51 {w : qcW} {I : qTI} {L : qTL} {D : qTD} {R : qTR} {x1 : Int32} {x2 : Int32} {s0 : Int32} {r : Bool} {I' : qTI} {L' : qTL} {D' : qTD} {R' : qTR} (hn : qcNF ≤ w.1) (hR : qc_FR R) (h : fX12_beginsWord_b51 w I L D R x1 x2 s0 = some (r, I', L', D', R')) : qc_fm qcSM (I, L, D, R) (I', L', D', R') ∧ qc_X (qc_rm (4) 0 0) qmX12_beginsWord (qc_QM 0 0 (qc_eq (some (.int (qc_b r))) w (I', L', D', R'))) 0 0 w (51, [(0, .ref 291), (1, .int x1), (2, .int x2)], [.int s0, .ref 291, .ref 291], I, L, D, R) := by
  unfold fX12_beginsWord_b51 at h
  refine And.imp_right (fun hx => qc_iconst (qc_at qkX12_beginsWord 25 rfl) <| qc_iconst (qc_at qkX12_beginsWord 26 rfl) <| qc_iconst (qc_at qkX12_beginsWord 27 rfl) <| qc_iload_n (qc_at qkX12_beginsWord 28 rfl) rfl <| hx) ?_
  refine qc_andC (qc_if_eq (qc_at qkX12_beginsWord 29 rfl)) (fun u5 => ?_) (fun u5 => ?_)
  · replace h := qc_jp u5 h
    exact And.imp_right (fun hx => qc_iconst (qc_at qkX12_beginsWord 32 rfl) <| qc_sub [0, 2] rfl hx) (tX12_beginsWord_b63 hn hR h)
  · replace h := qc_jn u5 h
    exact And.imp_right (fun hx => qc_iconst (qc_at qkX12_beginsWord 30 rfl) <| qc_goto (qc_at qkX12_beginsWord 31 rfl) <| qc_sub [0, 2] rfl hx) (tX12_beginsWord_b63 hn hR h)
def fX12_beginsWord_b32 (w : qcW) (I : qTI) (L : qTL) (D : qTD) (R : qTR) (x1 : Int32) : qcO Bool :=
  (qc_bd (fX12_isWord w I L D R (18935 : Int64)) fun r6 I6 L6 D6 R6 => if r6 = true then (fX12_beginsWord_b51 w I6 L6 D6 R6 x1 (qc_b r6) (2 : Int32)) else (fX12_beginsWord_b51 w I6 L6 D6 R6 x1 (qc_b r6) (3 : Int32)))
set_option maxRecDepth 100000 in
set_option maxHeartbeats 4000000 in
theorem tX12_beginsWord_b32 {w : qcW} {I : qTI} {L : qTL} {D : qTD} {R : qTR} {x1 : Int32} {r : Bool} {I' : qTI} {L' : qTL} {D' : qTD} {R' : qTR} (hn : qcNF ≤ w.1) (hR : qc_FR R) (h : fX12_beginsWord_b32 w I L D R x1 = some (r, I', L', D', R')) : qc_fm qcSM (I, L, D, R) (I', L', D', R') ∧ qc_X (qc_rm (4) 0 0) qmX12_beginsWord (qc_QM 0 0 (qc_eq (some (.int (qc_b r))) w (I', L', D', R'))) 0 0 w (32, [(0, .ref 291), (1, .int x1)], [], I, L, D, R) := by
  unfold fX12_beginsWord_b32 at h
  refine And.imp_right (fun hx => qc_aload_n (qc_at qkX12_beginsWord 14 rfl) rfl <| qc_ldc2l (qc_at qkX12_beginsWord 15 rfl) <| hx) ?_
  obtain ⟨r6, I6, L6, D6, R6, e6, h⟩ := qc_bd_of h
  have c6 := (tX12_isWord hn hR e6)
  refine qd_cVv (ci := 10) (a0 := 291) (qc_at qkX12_beginsWord 16 rfl) ql_12_358 qfX12_isWord (qc_kf hn rfl) rfl c6 rfl rfl (Nat.le_of_ble_eq_true rfl) (qc_rml (by decide) (by decide)) ⟨Nat.zero_le _, Nat.zero_le _⟩ ?_
  refine And.imp_right (fun hx => qc_istore_n (lv' := [(2, _), (0, _), (1, _)]) (qc_at qkX12_beginsWord 17 rfl) rfl rfl <| qc_aload_n (qc_at qkX12_beginsWord 18 rfl) rfl <| qc_aload_n (qc_at qkX12_beginsWord 19 rfl) rfl <| qc_iload_n (qc_at qkX12_beginsWord 20 rfl) rfl <| hx) ?_
  refine qc_andB (qc_ifB_eq (qc_at qkX12_beginsWord 21 rfl)) (fun u7 => ?_) (fun u7 => ?_)
  · replace h := qc_jf u7 h
    exact And.imp_right (fun hx => qc_iconst (qc_at qkX12_beginsWord 24 rfl) <| qc_sub [1, 2, 0] rfl hx) (tX12_beginsWord_b51 hn (c6.1.1 hR) h)
  · replace h := qc_jt u7 h
    exact And.imp_right (fun hx => qc_iconst (qc_at qkX12_beginsWord 22 rfl) <| qc_goto (qc_at qkX12_beginsWord 23 rfl) <| qc_sub [1, 2, 0] rfl hx) (tX12_beginsWord_b51 hn (c6.1.1 hR) h)
def fX12_beginsWord_b127 (w : qcW) (I : qTI) (L : qTL) (D : qTD) (R : qTR) (x2 : Int32) : qcO Bool :=
  (qc_bd (fX12_opens w I L D R) fun r8 I8 L8 D8 R8 => qc_bd (fX12_frame w I8 L8 D8 R8 (3 : Int32) (I8 291 10) x2 (-1 : Int32)) fun r9 I9 L9 D9 R9 => qc_bd (fX12_next w I9 L9 D9 R9) fun r10 I10 L10 D10 R10 => some (false, I10, L10, D10, R10))
set_option maxRecDepth 100000 in
set_option maxHeartbeats 4000000 in
theorem tX12_beginsWord_b127 {w : qcW} {I : qTI} {L : qTL} {D : qTD} {R : qTR} {x2 : Int32} {r : Bool} {I' : qTI} {L' : qTL} {D' : qTD} {R' : qTR} (hn : qcNF ≤ w.1) (hR : qc_FR R) (h : fX12_beginsWord_b127 w I L D R x2 = some (r, I', L', D', R')) : qc_fm qcSM (I, L, D, R) (I', L', D', R') ∧ qc_X (qc_rm (4) 0 0) qmX12_beginsWord (qc_QM 0 0 (qc_eq (some (.int (qc_b r))) w (I', L', D', R'))) 0 0 w (127, [(0, .ref 291), (2, .int x2)], [], I, L, D, R) := by
  unfold fX12_beginsWord_b127 at h
  refine And.imp_right (fun hx => qc_aload_n (qc_at qkX12_beginsWord 68 rfl) rfl <| hx) ?_
  obtain ⟨r8, I8, L8, D8, R8, e8, h⟩ := qc_bd_of h
  have c8 := (tX12_opens hn hR e8)
  refine qd_cVn (ci := 10) (a0 := 291) (qc_at qkX12_beginsWord 69 rfl) ql_12_400 qfX12_opens (qc_kf hn rfl) rfl c8 rfl rfl (Nat.le_of_ble_eq_true rfl) (qc_rml (by decide) (by decide)) ⟨Nat.zero_le _, Nat.zero_le _⟩ ?_
  refine And.imp_right (fun hx => qc_aload_n (qc_at qkX12_beginsWord 70 rfl) rfl <| qc_iconst (qc_at qkX12_beginsWord 71 rfl) <| qc_aload_n (qc_at qkX12_beginsWord 72 rfl) rfl <| qc_gI (qc_at qkX12_beginsWord 73 rfl) hn rfl <| qc_iload_n (qc_at qkX12_beginsWord 74 rfl) rfl <| qc_iconst (qc_at qkX12_beginsWord 75 rfl) <| hx) ?_
  obtain ⟨r9, I9, L9, D9, R9, e9, h⟩ := qc_bd_of h
  have c9 := (tX12_frame hn (c8.1.1 hR) e9)
  refine qd_cVn (ci := 10) (a0 := 291) (qc_at qkX12_beginsWord 76 rfl) ql_12_419 qfX12_frame (qc_kf hn rfl) rfl c9 rfl rfl (Nat.le_of_ble_eq_true rfl) (qc_rml (by decide) (by decide)) ⟨Nat.zero_le _, Nat.zero_le _⟩ ?_
  refine And.imp_right (fun hx => qc_aload_n (qc_at qkX12_beginsWord 77 rfl) rfl <| hx) ?_
  obtain ⟨r10, I10, L10, D10, R10, e10, h⟩ := qc_bd_of h
  have c10 := (tX12_next hn (c9.1.1 (c8.1.1 hR)) e10)
  refine qd_cVn (ci := 10) (a0 := 291) (qc_at qkX12_beginsWord 78 rfl) ql_12_304 qfX12_next (qc_kf hn rfl) rfl c10 rfl rfl (Nat.le_of_ble_eq_true rfl) (qc_rml (by decide) (by decide)) ⟨Nat.zero_le _, Nat.zero_le _⟩ ?_
  obtain ⟨rfl, rfl, rfl, rfl, rfl⟩ := qc_some5 h
  exact ⟨qc_fm.rf _, qc_iconst (qc_at qkX12_beginsWord 79 rfl) <| qc_zret (qc_at qkX12_beginsWord 80 rfl) rfl (Or.inl rfl) (Nat.le_refl _) (Nat.le_refl _) ⟨rfl, rfl, rfl⟩⟩
def fX12_beginsWord (w : qcW) (I : qTI) (L : qTL) (D : qTD) (R : qTR) : qcO Bool :=
  (qc_bd (fX12_isWord w I L D R (25779 : Int64)) fun r11 I11 L11 D11 R11 => qc_bd (fX12_isWord w I11 L11 D11 R11 (18935 : Int64)) fun r12 I12 L12 D12 R12 => if r12 = true then (fX12_beginsWord_b32 w I12 L12 D12 R12 (qc_b r11)) else (if r11 = true then (fX12_beginsWord_b32 w I12 L12 D12 R12 (qc_b r11)) else (qc_bd (fX12_isWord w I12 L12 D12 R12 (463 : Int64)) fun r15 I15 L15 D15 R15 => if r15 = true then (fX12_beginsWord_b32 w I15 L15 D15 R15 (qc_b r11)) else (qc_bd (fX12_function w I15 L15 D15 R15) fun r17 I17 L17 D17 R17 => if r17 = (-1 : Int32) then (qc_bd (fX12_fail w I17 L17 D17 R17 (2 : Int32) (I17 291 10)) fun r23 I23 L23 D23 R23 => some (true, I23, L23, D23, R23)) else (qc_bd (fX12_next w I17 L17 D17 R17) fun r19 I19 L19 D19 R19 => qc_bd (fX12_is w I19 L19 D19 R19 (40 : Int32)) fun r20 I20 L20 D20 R20 => if r20 = true then (fX12_beginsWord_b127 w I20 L20 D20 R20 r17) else (qc_bd (fX12_fail w I20 L20 D20 R20 (2 : Int32) (I20 291 10)) fun r22 I22 L22 D22 R22 => fX12_beginsWord_b127 w I22 L22 D22 R22 r17))))))
set_option maxRecDepth 100000 in
set_option maxHeartbeats 4000000 in
theorem tX12_beginsWord {w : qcW} {I : qTI} {L : qTL} {D : qTD} {R : qTR} {r : Bool} {I' : qTI} {L' : qTL} {D' : qTD} {R' : qTR} (hn : qcNF ≤ w.1) (hR : qc_FR R) (h : fX12_beginsWord w I L D R = some (r, I', L', D', R')) : qc_fm qcSM (I, L, D, R) (I', L', D', R') ∧ qc_V (4) 0 0 qmX12_beginsWord [.ref 291] w (I, L, D, R) (qc_eq (some (.int (qc_b r))) w (I', L', D', R')) := by
  unfold fX12_beginsWord at h
  refine And.imp_right (fun hx => qc_V.of rfl rfl (Nat.le_of_ble_eq_true rfl) (lv := [(0, .ref 291)]) rfl hx) ?_
  refine And.imp_right (fun hx => qc_aload_n (qc_at qkX12_beginsWord 0 rfl) rfl <| qc_ldc2l (qc_at qkX12_beginsWord 1 rfl) <| hx) ?_
  obtain ⟨r11, I11, L11, D11, R11, e11, h⟩ := qc_bd_of h
  have c11 := (tX12_isWord hn hR e11)
  refine qd_cVv (ci := 10) (a0 := 291) (qc_at qkX12_beginsWord 2 rfl) ql_12_358 qfX12_isWord (qc_kf hn rfl) rfl c11 rfl rfl (Nat.le_of_ble_eq_true rfl) (qc_rml (by decide) (by decide)) ⟨Nat.zero_le _, Nat.zero_le _⟩ ?_
  refine And.imp_right (fun hx => qc_istore_n (lv' := [(1, _), (0, _)]) (qc_at qkX12_beginsWord 3 rfl) rfl rfl <| qc_aload_n (qc_at qkX12_beginsWord 4 rfl) rfl <| qc_ldc2l (qc_at qkX12_beginsWord 5 rfl) <| hx) ?_
  obtain ⟨r12, I12, L12, D12, R12, e12, h⟩ := qc_bd_of h
  have c12 := (tX12_isWord hn (c11.1.1 hR) e12)
  refine qd_cVv (ci := 10) (a0 := 291) (qc_at qkX12_beginsWord 6 rfl) ql_12_358 qfX12_isWord (qc_kf hn rfl) rfl c12 rfl rfl (Nat.le_of_ble_eq_true rfl) (qc_rml (by decide) (by decide)) ⟨Nat.zero_le _, Nat.zero_le _⟩ ?_
  refine qc_andBn (qc_ifB_ne (qc_at qkX12_beginsWord 7 rfl)) (fun u13 => ?_) (fun u13 => ?_)
  · replace h := qc_jt u13 h
    exact And.imp_right (fun hx => qc_sub [1, 0] rfl hx) (tX12_beginsWord_b32 hn (c12.1.1 (c11.1.1 hR)) h)
  · replace h := qc_jf u13 h
    refine And.imp_right (fun hx => qc_iload_n (qc_at qkX12_beginsWord 8 rfl) rfl <| hx) ?_
    refine qc_andBn (qc_ifB_ne (qc_at qkX12_beginsWord 9 rfl)) (fun u14 => ?_) (fun u14 => ?_)
    · replace h := qc_jt u14 h
      exact And.imp_right (fun hx => qc_sub [1, 0] rfl hx) (tX12_beginsWord_b32 hn (c12.1.1 (c11.1.1 hR)) h)
    · replace h := qc_jf u14 h
      refine And.imp_right (fun hx => qc_aload_n (qc_at qkX12_beginsWord 10 rfl) rfl <| qc_ldc2l (qc_at qkX12_beginsWord 11 rfl) <| hx) ?_
      obtain ⟨r15, I15, L15, D15, R15, e15, h⟩ := qc_bd_of h
      have c15 := (tX12_isWord hn (c12.1.1 (c11.1.1 hR)) e15)
      refine qd_cVv (ci := 10) (a0 := 291) (qc_at qkX12_beginsWord 12 rfl) ql_12_358 qfX12_isWord (qc_kf hn rfl) rfl c15 rfl rfl (Nat.le_of_ble_eq_true rfl) (qc_rml (by decide) (by decide)) ⟨Nat.zero_le _, Nat.zero_le _⟩ ?_
      refine qc_andB (qc_ifB_eq (qc_at qkX12_beginsWord 13 rfl)) (fun u16 => ?_) (fun u16 => ?_)
      · replace h := qc_jf u16 h
        refine And.imp_right (fun hx => qc_aload_n (qc_at qkX12_beginsWord 44 rfl) rfl <| hx) ?_
        obtain ⟨r17, I17, L17, D17, R17, e17, h⟩ := qc_bd_of h
        have c17 := (tX12_function hn (c15.1.1 (c12.1.1 (c11.1.1 hR))) e17)
        refine qd_cVv (ci := 10) (a0 := 291) (qc_at qkX12_beginsWord 45 rfl) ql_12_435 qfX12_function (qc_kf hn rfl) rfl c17 rfl rfl (Nat.le_of_ble_eq_true rfl) (qc_rml (by decide) (by decide)) ⟨Nat.zero_le _, Nat.zero_le _⟩ ?_
        refine And.imp_right (fun hx => qc_istore_n (lv' := [(2, _), (1, _), (0, _)]) (qc_at qkX12_beginsWord 46 rfl) rfl rfl <| qc_iload_n (qc_at qkX12_beginsWord 47 rfl) rfl <| qc_iconst (qc_at qkX12_beginsWord 48 rfl) <| hx) ?_
        refine qc_andN (qc_icmp_ne (qc_at qkX12_beginsWord 49 rfl)) (fun u18 => ?_) (fun u18 => ?_)
        · replace h := qc_jn u18 h
          refine And.imp_right (fun hx => qc_aload_n (qc_at qkX12_beginsWord 57 rfl) rfl <| hx) ?_
          obtain ⟨r19, I19, L19, D19, R19, e19, h⟩ := qc_bd_of h
          have c19 := (tX12_next hn (c17.1.1 (c15.1.1 (c12.1.1 (c11.1.1 hR)))) e19)
          refine qd_cVn (ci := 10) (a0 := 291) (qc_at qkX12_beginsWord 58 rfl) ql_12_304 qfX12_next (qc_kf hn rfl) rfl c19 rfl rfl (Nat.le_of_ble_eq_true rfl) (qc_rml (by decide) (by decide)) ⟨Nat.zero_le _, Nat.zero_le _⟩ ?_
          refine And.imp_right (fun hx => qc_aload_n (qc_at qkX12_beginsWord 59 rfl) rfl <| qc_bipush (qc_at qkX12_beginsWord 60 rfl) <| hx) ?_
          obtain ⟨r20, I20, L20, D20, R20, e20, h⟩ := qc_bd_of h
          have c20 := (tX12_is hn (c19.1.1 (c17.1.1 (c15.1.1 (c12.1.1 (c11.1.1 hR))))) e20)
          refine qd_cVv (ci := 10) (a0 := 291) (qc_at qkX12_beginsWord 61 rfl) ql_12_301 qfX12_is (qc_kf hn rfl) rfl c20 rfl rfl (Nat.le_of_ble_eq_true rfl) (qc_rml (by decide) (by decide)) ⟨Nat.zero_le _, Nat.zero_le _⟩ ?_
          refine qc_andBn (qc_ifB_ne (qc_at qkX12_beginsWord 62 rfl)) (fun u21 => ?_) (fun u21 => ?_)
          · replace h := qc_jt u21 h
            exact And.imp_right (fun hx => qc_sub [2, 0] rfl hx) (tX12_beginsWord_b127 hn (c20.1.1 (c19.1.1 (c17.1.1 (c15.1.1 (c12.1.1 (c11.1.1 hR)))))) h)
          · replace h := qc_jf u21 h
            refine And.imp_right (fun hx => qc_aload_n (qc_at qkX12_beginsWord 63 rfl) rfl <| qc_iconst (qc_at qkX12_beginsWord 64 rfl) <| qc_aload_n (qc_at qkX12_beginsWord 65 rfl) rfl <| qc_gI (qc_at qkX12_beginsWord 66 rfl) hn rfl <| hx) ?_
            obtain ⟨r22, I22, L22, D22, R22, e22, h⟩ := qc_bd_of h
            have c22 := (tX12_fail hn (c20.1.1 (c19.1.1 (c17.1.1 (c15.1.1 (c12.1.1 (c11.1.1 hR)))))) e22)
            refine qd_cVn (ci := 10) (a0 := 291) (qc_at qkX12_beginsWord 67 rfl) ql_12_268 qfX12_fail (qc_kf hn rfl) rfl c22 rfl rfl (Nat.le_of_ble_eq_true rfl) (qc_rml (by decide) (by decide)) ⟨Nat.zero_le _, Nat.zero_le _⟩ ?_
            exact And.imp_right (fun hx => qc_sub [2, 0] rfl hx) (tX12_beginsWord_b127 hn (c22.1.1 (c20.1.1 (c19.1.1 (c17.1.1 (c15.1.1 (c12.1.1 (c11.1.1 hR))))))) h)
        · replace h := qc_jp u18 h
          refine And.imp_right (fun hx => qc_aload_n (qc_at qkX12_beginsWord 50 rfl) rfl <| qc_iconst (qc_at qkX12_beginsWord 51 rfl) <| qc_aload_n (qc_at qkX12_beginsWord 52 rfl) rfl <| qc_gI (qc_at qkX12_beginsWord 53 rfl) hn rfl <| hx) ?_
          obtain ⟨r23, I23, L23, D23, R23, e23, h⟩ := qc_bd_of h
          have c23 := (tX12_fail hn (c17.1.1 (c15.1.1 (c12.1.1 (c11.1.1 hR)))) e23)
          refine qd_cVn (ci := 10) (a0 := 291) (qc_at qkX12_beginsWord 54 rfl) ql_12_268 qfX12_fail (qc_kf hn rfl) rfl c23 rfl rfl (Nat.le_of_ble_eq_true rfl) (qc_rml (by decide) (by decide)) ⟨Nat.zero_le _, Nat.zero_le _⟩ ?_
          obtain ⟨rfl, rfl, rfl, rfl, rfl⟩ := qc_some5 h
          exact ⟨qc_fm.rf _, qc_iconst (qc_at qkX12_beginsWord 55 rfl) <| qc_zret (qc_at qkX12_beginsWord 56 rfl) rfl (Or.inr rfl) (Nat.le_refl _) (Nat.le_refl _) ⟨rfl, rfl, rfl⟩⟩
      · replace h := qc_jt u16 h
        exact And.imp_right (fun hx => qc_sub [1, 0] rfl hx) (tX12_beginsWord_b32 hn (c15.1.1 (c12.1.1 (c11.1.1 hR))) h)
def fX12_begins_b73 (w : qcW) (I : qTI) (L : qTL) (D : qTD) (R : qTR) (s0 : Int32) (s1 : Int32) : qcO Bool :=
  (qc_bd (fX12_joint w I L D R s1 s0) fun r1 I1 L1 D1 R1 => qc_bd (fX12_next w I1 L1 D1 R1) fun r2 I2 L2 D2 R2 => some (false, I2, L2, D2, R2))
set_option maxRecDepth 100000 in
set_option maxHeartbeats 4000000 in
theorem tX12_begins_b73 {w : qcW} {I : qTI} {L : qTL} {D : qTD} {R : qTR} {s0 : Int32} {s1 : Int32} {r : Bool} {I' : qTI} {L' : qTL} {D' : qTD} {R' : qTR} (hn : qcNF ≤ w.1) (hR : qc_FR R) (h : fX12_begins_b73 w I L D R s0 s1 = some (r, I', L', D', R')) : qc_fm qcSM (I, L, D, R) (I', L', D', R') ∧ qc_X (qc_rm (6) 0 0) qmX12_begins (qc_QM 0 0 (qc_eq (some (.int (qc_b r))) w (I', L', D', R'))) 0 0 w (73, [(0, .ref 291)], [.int s0, .int s1, .ref 291], I, L, D, R) := by
  unfold fX12_begins_b73 at h
  obtain ⟨r1, I1, L1, D1, R1, e1, h⟩ := qc_bd_of h
  have c1 := (tX12_joint hn hR e1)
  refine qd_cVn (ci := 10) (a0 := 291) (qc_at qkX12_begins 35 rfl) ql_12_403 qfX12_joint (qc_kf hn rfl) rfl c1 rfl rfl (Nat.le_of_ble_eq_true rfl) (qc_rml (by decide) (by decide)) ⟨Nat.zero_le _, Nat.zero_le _⟩ ?_
  refine And.imp_right (fun hx => qc_aload_n (qc_at qkX12_begins 36 rfl) rfl <| hx) ?_
  obtain ⟨r2, I2, L2, D2, R2, e2, h⟩ := qc_bd_of h
  have c2 := (tX12_next hn (c1.1.1 hR) e2)
  refine qd_cVn (ci := 10) (a0 := 291) (qc_at qkX12_begins 37 rfl) ql_12_304 qfX12_next (qc_kf hn rfl) rfl c2 rfl rfl (Nat.le_of_ble_eq_true rfl) (qc_rml (by decide) (by decide)) ⟨Nat.zero_le _, Nat.zero_le _⟩ ?_
  obtain ⟨rfl, rfl, rfl, rfl, rfl⟩ := qc_some5 h
  exact ⟨qc_fm.rf _, qc_iconst (qc_at qkX12_begins 38 rfl) <| qc_zret (qc_at qkX12_begins 39 rfl) rfl (Or.inl rfl) (Nat.le_refl _) (Nat.le_refl _) ⟨rfl, rfl, rfl⟩⟩
def fX12_begins_b48 (w : qcW) (I : qTI) (L : qTL) (D : qTD) (R : qTR) : qcO Bool :=
  (qc_bd (fX12_opens w I L D R) fun r3 I3 L3 D3 R3 => qc_bd (fX12_is w I3 L3 D3 R3 (45 : Int32)) fun r4 I4 L4 D4 R4 => if r4 = true then (fX12_begins_b73 w I4 L4 D4 R4 (1200 : Int32) (9 : Int32)) else (fX12_begins_b73 w I4 L4 D4 R4 (1300 : Int32) (9 : Int32)))
set_option maxRecDepth 100000 in
set_option maxHeartbeats 4000000 in
theorem tX12_begins_b48 {w : qcW} {I : qTI} {L : qTL} {D : qTD} {R : qTR} {r : Bool} {I' : qTI} {L' : qTL} {D' : qTD} {R' : qTR} (hn : qcNF ≤ w.1) (hR : qc_FR R) (h : fX12_begins_b48 w I L D R = some (r, I', L', D', R')) : qc_fm qcSM (I, L, D, R) (I', L', D', R') ∧ qc_X (qc_rm (6) 0 0) qmX12_begins (qc_QM 0 0 (qc_eq (some (.int (qc_b r))) w (I', L', D', R'))) 0 0 w (48, [(0, .ref 291)], [], I, L, D, R) := by
  unfold fX12_begins_b48 at h
  refine And.imp_right (fun hx => qc_aload_n (qc_at qkX12_begins 24 rfl) rfl <| hx) ?_
  obtain ⟨r3, I3, L3, D3, R3, e3, h⟩ := qc_bd_of h
  have c3 := (tX12_opens hn hR e3)
  refine qd_cVn (ci := 10) (a0 := 291) (qc_at qkX12_begins 25 rfl) ql_12_400 qfX12_opens (qc_kf hn rfl) rfl c3 rfl rfl (Nat.le_of_ble_eq_true rfl) (qc_rml (by decide) (by decide)) ⟨Nat.zero_le _, Nat.zero_le _⟩ ?_
  refine And.imp_right (fun hx => qc_aload_n (qc_at qkX12_begins 26 rfl) rfl <| qc_bipush (qc_at qkX12_begins 27 rfl) <| qc_aload_n (qc_at qkX12_begins 28 rfl) rfl <| qc_bipush (qc_at qkX12_begins 29 rfl) <| hx) ?_
  obtain ⟨r4, I4, L4, D4, R4, e4, h⟩ := qc_bd_of h
  have c4 := (tX12_is hn (c3.1.1 hR) e4)
  refine qd_cVv (ci := 10) (a0 := 291) (qc_at qkX12_begins 30 rfl) ql_12_301 qfX12_is (qc_kf hn rfl) rfl c4 rfl rfl (Nat.le_of_ble_eq_true rfl) (qc_rml (by decide) (by decide)) ⟨Nat.zero_le _, Nat.zero_le _⟩ ?_
  refine qc_andB (qc_ifB_eq (qc_at qkX12_begins 31 rfl)) (fun u5 => ?_) (fun u5 => ?_)
  · replace h := qc_jf u5 h
    exact And.imp_right (fun hx => qc_sipush (qc_at qkX12_begins 34 rfl) <| qc_sub [0] rfl hx) (tX12_begins_b73 hn (c4.1.1 (c3.1.1 hR)) h)
  · replace h := qc_jt u5 h
    exact And.imp_right (fun hx => qc_sipush (qc_at qkX12_begins 32 rfl) <| qc_goto (qc_at qkX12_begins 33 rfl) <| qc_sub [0] rfl hx) (tX12_begins_b73 hn (c4.1.1 (c3.1.1 hR)) h)
def fX12_begins_b219 (w : qcW) (I : qTI) (L : qTL) (D : qTD) (R : qTR) : qcO Bool :=
  (qc_bd (fX12_opens w I L D R) fun r6 I6 L6 D6 R6 => qc_bd (fX12_frame w I6 L6 D6 R6 (1 : Int32) (I6 291 10) (0 : Int32) (0 : Int32)) fun r7 I7 L7 D7 R7 => qc_bd (fX12_next w I7 L7 D7 R7) fun r8 I8 L8 D8 R8 => some (false, I8, L8, D8, R8))
set_option maxRecDepth 100000 in
set_option maxHeartbeats 4000000 in
theorem tX12_begins_b219 {w : qcW} {I : qTI} {L : qTL} {D : qTD} {R : qTR} {r : Bool} {I' : qTI} {L' : qTL} {D' : qTD} {R' : qTR} (hn : qcNF ≤ w.1) (hR : qc_FR R) (h : fX12_begins_b219 w I L D R = some (r, I', L', D', R')) : qc_fm qcSM (I, L, D, R) (I', L', D', R') ∧ qc_X (qc_rm (6) 0 0) qmX12_begins (qc_QM 0 0 (qc_eq (some (.int (qc_b r))) w (I', L', D', R'))) 0 0 w (219, [(0, .ref 291)], [], I, L, D, R) := by
  unfold fX12_begins_b219 at h
  refine And.imp_right (fun hx => qc_aload_n (qc_at qkX12_begins 119 rfl) rfl <| hx) ?_
  obtain ⟨r6, I6, L6, D6, R6, e6, h⟩ := qc_bd_of h
  have c6 := (tX12_opens hn hR e6)
  refine qd_cVn (ci := 10) (a0 := 291) (qc_at qkX12_begins 120 rfl) ql_12_400 qfX12_opens (qc_kf hn rfl) rfl c6 rfl rfl (Nat.le_of_ble_eq_true rfl) (qc_rml (by decide) (by decide)) ⟨Nat.zero_le _, Nat.zero_le _⟩ ?_
  refine And.imp_right (fun hx => qc_aload_n (qc_at qkX12_begins 121 rfl) rfl <| qc_iconst (qc_at qkX12_begins 122 rfl) <| qc_aload_n (qc_at qkX12_begins 123 rfl) rfl <| qc_gI (qc_at qkX12_begins 124 rfl) hn rfl <| qc_iconst (qc_at qkX12_begins 125 rfl) <| qc_iconst (qc_at qkX12_begins 126 rfl) <| hx) ?_
  obtain ⟨r7, I7, L7, D7, R7, e7, h⟩ := qc_bd_of h
  have c7 := (tX12_frame hn (c6.1.1 hR) e7)
  refine qd_cVn (ci := 10) (a0 := 291) (qc_at qkX12_begins 127 rfl) ql_12_419 qfX12_frame (qc_kf hn rfl) rfl c7 rfl rfl (Nat.le_of_ble_eq_true rfl) (qc_rml (by decide) (by decide)) ⟨Nat.zero_le _, Nat.zero_le _⟩ ?_
  refine And.imp_right (fun hx => qc_aload_n (qc_at qkX12_begins 128 rfl) rfl <| hx) ?_
  obtain ⟨r8, I8, L8, D8, R8, e8, h⟩ := qc_bd_of h
  have c8 := (tX12_next hn (c7.1.1 (c6.1.1 hR)) e8)
  refine qd_cVn (ci := 10) (a0 := 291) (qc_at qkX12_begins 129 rfl) ql_12_304 qfX12_next (qc_kf hn rfl) rfl c8 rfl rfl (Nat.le_of_ble_eq_true rfl) (qc_rml (by decide) (by decide)) ⟨Nat.zero_le _, Nat.zero_le _⟩ ?_
  obtain ⟨rfl, rfl, rfl, rfl, rfl⟩ := qc_some5 h
  exact ⟨qc_fm.rf _, qc_iconst (qc_at qkX12_begins 130 rfl) <| qc_zret (qc_at qkX12_begins 131 rfl) rfl (Or.inl rfl) (Nat.le_refl _) (Nat.le_refl _) ⟨rfl, rfl, rfl⟩⟩
def fX12_begins_b30 (w : qcW) (I : qTI) (L : qTL) (D : qTD) (R : qTR) : qcO Bool :=
  (qc_bd (fX12_is w I L D R (45 : Int32)) fun r9 I9 L9 D9 R9 => if r9 = true then (fX12_begins_b48 w I9 L9 D9 R9) else (qc_bd (fX12_is w I9 L9 D9 R9 (126 : Int32)) fun r11 I11 L11 D11 R11 => if r11 = true then (fX12_begins_b48 w I11 L11 D11 R11) else (if (I11 291 9) = (2 : Int32) then (qc_bd (fX12_node w I11 L11 D11 R11 (0 : Int32) (0 : Int32) (0 : Int32) (0 : Int32) (I11 291 13) (1 : Int32)) fun r26 I26 L26 D26 R26 => qc_bd (fX12_lay w I26 L26 D26 R26 r26) fun r27 I27 L27 D27 R27 => qc_bd (fX12_next w I27 L27 D27 R27) fun r28 I28 L28 D28 R28 => some (true, I28, L28, D28, R28)) else (if (I11 291 9) = (3 : Int32) then (qc_gd (qc_inb (((100 : Int32) * (I11 291 40)) + (I11 291 26)) 1200) <| qc_bd (fX12_node w I11 L11 (qc_u D11 305 (Int32.toNatClampNeg (((100 : Int32) * (I11 291 40)) + (I11 291 26))) (D11 291 14)) R11 (1 : Int32) (0 : Int32) (0 : Int32) (0 : Int32) (I11 291 26) (4 : Int32)) fun r23 I23 L23 D23 R23 => qc_bd (fX12_lay w I23 L23 D23 R23 r23) fun r24 I24 L24 D24 R24 => qc_bd (fX12_next w (qc_u I24 291 26 ((I24 291 26) + (1 : Int32))) L24 D24 R24) fun r25 I25 L25 D25 R25 => some (true, I25, L25, D25, R25)) else (if (I11 291 9) = (4 : Int32) then (qc_bd (fX12_beginsCell w I11 L11 D11 R11) fun r21 I21 L21 D21 R21 => some (r21, I21, L21, D21, R21)) else (if (I11 291 9) = (1 : Int32) then (qc_bd (fX12_beginsWord w I11 L11 D11 R11) fun r20 I20 L20 D20 R20 => some (r20, I20, L20, D20, R20)) else (qc_bd (fX12_is w I11 L11 D11 R11 (40 : Int32)) fun r17 I17 L17 D17 R17 => if r17 = true then (fX12_begins_b219 w I17 L17 D17 R17) else (qc_bd (fX12_fail w I17 L17 D17 R17 (2 : Int32) (I17 291 10)) fun r19 I19 L19 D19 R19 => fX12_begins_b219 w I19 L19 D19 R19))))))))
set_option maxRecDepth 100000 in
set_option maxHeartbeats 4000000 in
theorem tX12_begins_b30 {w : qcW} {I : qTI} {L : qTL} {D : qTD} {R : qTR} {r : Bool} {I' : qTI} {L' : qTL} {D' : qTD} {R' : qTR} (hn : qcNF ≤ w.1) (hR : qc_FR R) (h : fX12_begins_b30 w I L D R = some (r, I', L', D', R')) : qc_fm qcSM (I, L, D, R) (I', L', D', R') ∧ qc_X (qc_rm (6) 0 0) qmX12_begins (qc_QM 0 0 (qc_eq (some (.int (qc_b r))) w (I', L', D', R'))) 0 0 w (30, [(0, .ref 291)], [], I, L, D, R) := by
  unfold fX12_begins_b30 at h
  refine And.imp_right (fun hx => qc_aload_n (qc_at qkX12_begins 16 rfl) rfl <| qc_bipush (qc_at qkX12_begins 17 rfl) <| hx) ?_
  obtain ⟨r9, I9, L9, D9, R9, e9, h⟩ := qc_bd_of h
  have c9 := (tX12_is hn hR e9)
  refine qd_cVv (ci := 10) (a0 := 291) (qc_at qkX12_begins 18 rfl) ql_12_301 qfX12_is (qc_kf hn rfl) rfl c9 rfl rfl (Nat.le_of_ble_eq_true rfl) (qc_rml (by decide) (by decide)) ⟨Nat.zero_le _, Nat.zero_le _⟩ ?_
  refine qc_andBn (qc_ifB_ne (qc_at qkX12_begins 19 rfl)) (fun u10 => ?_) (fun u10 => ?_)
  · replace h := qc_jt u10 h
    exact And.imp_right (fun hx => qc_sub [0] rfl hx) (tX12_begins_b48 hn (c9.1.1 hR) h)
  · replace h := qc_jf u10 h
    refine And.imp_right (fun hx => qc_aload_n (qc_at qkX12_begins 20 rfl) rfl <| qc_bipush (qc_at qkX12_begins 21 rfl) <| hx) ?_
    obtain ⟨r11, I11, L11, D11, R11, e11, h⟩ := qc_bd_of h
    have c11 := (tX12_is hn (c9.1.1 hR) e11)
    refine qd_cVv (ci := 10) (a0 := 291) (qc_at qkX12_begins 22 rfl) ql_12_301 qfX12_is (qc_kf hn rfl) rfl c11 rfl rfl (Nat.le_of_ble_eq_true rfl) (qc_rml (by decide) (by decide)) ⟨Nat.zero_le _, Nat.zero_le _⟩ ?_
    refine qc_andB (qc_ifB_eq (qc_at qkX12_begins 23 rfl)) (fun u12 => ?_) (fun u12 => ?_)
    · replace h := qc_jf u12 h
      refine And.imp_right (fun hx => qc_aload_n (qc_at qkX12_begins 40 rfl) rfl <| qc_gI (qc_at qkX12_begins 41 rfl) hn rfl <| qc_iconst (qc_at qkX12_begins 42 rfl) <| hx) ?_
      refine qc_andN (qc_icmp_ne (qc_at qkX12_begins 43 rfl)) (fun u13 => ?_) (fun u13 => ?_)
      · replace h := qc_jn u13 h
        refine And.imp_right (fun hx => qc_aload_n (qc_at qkX12_begins 59 rfl) rfl <| qc_gI (qc_at qkX12_begins 60 rfl) hn rfl <| qc_iconst (qc_at qkX12_begins 61 rfl) <| hx) ?_
        refine qc_andN (qc_icmp_ne (qc_at qkX12_begins 62 rfl)) (fun u14 => ?_) (fun u14 => ?_)
        · replace h := qc_jn u14 h
          refine And.imp_right (fun hx => qc_aload_n (qc_at qkX12_begins 96 rfl) rfl <| qc_gI (qc_at qkX12_begins 97 rfl) hn rfl <| qc_iconst (qc_at qkX12_begins 98 rfl) <| hx) ?_
          refine qc_andN (qc_icmp_ne (qc_at qkX12_begins 99 rfl)) (fun u15 => ?_) (fun u15 => ?_)
          · replace h := qc_jn u15 h
            refine And.imp_right (fun hx => qc_aload_n (qc_at qkX12_begins 103 rfl) rfl <| qc_gI (qc_at qkX12_begins 104 rfl) hn rfl <| qc_iconst (qc_at qkX12_begins 105 rfl) <| hx) ?_
            refine qc_andN (qc_icmp_ne (qc_at qkX12_begins 106 rfl)) (fun u16 => ?_) (fun u16 => ?_)
            · replace h := qc_jn u16 h
              refine And.imp_right (fun hx => qc_aload_n (qc_at qkX12_begins 110 rfl) rfl <| qc_bipush (qc_at qkX12_begins 111 rfl) <| hx) ?_
              obtain ⟨r17, I17, L17, D17, R17, e17, h⟩ := qc_bd_of h
              have c17 := (tX12_is hn (c11.1.1 (c9.1.1 hR)) e17)
              refine qd_cVv (ci := 10) (a0 := 291) (qc_at qkX12_begins 112 rfl) ql_12_301 qfX12_is (qc_kf hn rfl) rfl c17 rfl rfl (Nat.le_of_ble_eq_true rfl) (qc_rml (by decide) (by decide)) ⟨Nat.zero_le _, Nat.zero_le _⟩ ?_
              refine qc_andBn (qc_ifB_ne (qc_at qkX12_begins 113 rfl)) (fun u18 => ?_) (fun u18 => ?_)
              · replace h := qc_jt u18 h
                exact And.imp_right (fun hx => qc_sub [0] rfl hx) (tX12_begins_b219 hn (c17.1.1 (c11.1.1 (c9.1.1 hR))) h)
              · replace h := qc_jf u18 h
                refine And.imp_right (fun hx => qc_aload_n (qc_at qkX12_begins 114 rfl) rfl <| qc_iconst (qc_at qkX12_begins 115 rfl) <| qc_aload_n (qc_at qkX12_begins 116 rfl) rfl <| qc_gI (qc_at qkX12_begins 117 rfl) hn rfl <| hx) ?_
                obtain ⟨r19, I19, L19, D19, R19, e19, h⟩ := qc_bd_of h
                have c19 := (tX12_fail hn (c17.1.1 (c11.1.1 (c9.1.1 hR))) e19)
                refine qd_cVn (ci := 10) (a0 := 291) (qc_at qkX12_begins 118 rfl) ql_12_268 qfX12_fail (qc_kf hn rfl) rfl c19 rfl rfl (Nat.le_of_ble_eq_true rfl) (qc_rml (by decide) (by decide)) ⟨Nat.zero_le _, Nat.zero_le _⟩ ?_
                exact And.imp_right (fun hx => qc_sub [0] rfl hx) (tX12_begins_b219 hn (c19.1.1 (c17.1.1 (c11.1.1 (c9.1.1 hR)))) h)
            · replace h := qc_jp u16 h
              refine And.imp_right (fun hx => qc_aload_n (qc_at qkX12_begins 107 rfl) rfl <| hx) ?_
              obtain ⟨r20, I20, L20, D20, R20, e20, h⟩ := qc_bd_of h
              have c20 := (tX12_beginsWord hn (c11.1.1 (c9.1.1 hR)) e20)
              refine qd_cVv (ci := 10) (a0 := 291) (qc_at qkX12_begins 108 rfl) ql_12_416 qfX12_beginsWord (qc_kf hn rfl) rfl c20 rfl rfl (Nat.le_of_ble_eq_true rfl) (qc_rml (by decide) (by decide)) ⟨Nat.zero_le _, Nat.zero_le _⟩ ?_
              obtain ⟨rfl, rfl, rfl, rfl, rfl⟩ := qc_some5 h
              exact ⟨qc_fm.rf _, qc_zret (qc_at qkX12_begins 109 rfl) rfl (qc_b01 _) (Nat.le_refl _) (Nat.le_refl _) (qc_eq.rf _ _ _)⟩
          · replace h := qc_jp u15 h
            refine And.imp_right (fun hx => qc_aload_n (qc_at qkX12_begins 100 rfl) rfl <| hx) ?_
            obtain ⟨r21, I21, L21, D21, R21, e21, h⟩ := qc_bd_of h
            have c21 := (tX12_beginsCell hn (c11.1.1 (c9.1.1 hR)) e21)
            refine qd_cVv (ci := 10) (a0 := 291) (qc_at qkX12_begins 101 rfl) ql_12_412 qfX12_beginsCell (qc_kf hn rfl) rfl c21 rfl rfl (Nat.le_of_ble_eq_true rfl) (qc_rml (by decide) (by decide)) ⟨Nat.zero_le _, Nat.zero_le _⟩ ?_
            obtain ⟨rfl, rfl, rfl, rfl, rfl⟩ := qc_some5 h
            exact ⟨qc_fm.rf _, qc_zret (qc_at qkX12_begins 102 rfl) rfl (qc_b01 _) (Nat.le_refl _) (Nat.le_refl _) (qc_eq.rf _ _ _)⟩
        · replace h := qc_jp u14 h
          refine And.imp_right (fun hx => qc_aload_n (qc_at qkX12_begins 63 rfl) rfl <| qc_gR (qc_at qkX12_begins 64 rfl) hn rfl (qfr_291_27 (c11.1.1 (c9.1.1 hR))) rfl <| qc_bipush (qc_at qkX12_begins 65 rfl) <| qc_aload_n (qc_at qkX12_begins 66 rfl) rfl <| qc_gI (qc_at qkX12_begins 67 rfl) hn rfl <| qc_imul (qc_at qkX12_begins 68 rfl) <| qc_aload_n (qc_at qkX12_begins 69 rfl) rfl <| qc_gI (qc_at qkX12_begins 70 rfl) hn rfl <| qc_iadd (qc_at qkX12_begins 71 rfl) <| qc_aload_n (qc_at qkX12_begins 72 rfl) rfl <| qc_gD (qc_at qkX12_begins 73 rfl) hn rfl <| hx) ?_
          obtain ⟨g22, h⟩ := qc_gd_of h
          refine qd_dast 1200 (qc_at qkX12_begins 74 rfl) hn rfl (qc_inb_in g22) rfl ?_
          refine And.imp_right (fun hx => qc_aload_n (qc_at qkX12_begins 75 rfl) rfl <| qc_aload_n (qc_at qkX12_begins 76 rfl) rfl <| qc_iconst (qc_at qkX12_begins 77 rfl) <| qc_iconst (qc_at qkX12_begins 78 rfl) <| qc_iconst (qc_at qkX12_begins 79 rfl) <| qc_iconst (qc_at qkX12_begins 80 rfl) <| qc_aload_n (qc_at qkX12_begins 81 rfl) rfl <| qc_gI (qc_at qkX12_begins 82 rfl) hn rfl <| qc_iconst (qc_at qkX12_begins 83 rfl) <| hx) ?_
          obtain ⟨r23, I23, L23, D23, R23, e23, h⟩ := qc_bd_of h
          have c23 := (tX12_node hn (c11.1.1 (c9.1.1 hR)) e23)
          refine qd_cVv (ci := 10) (a0 := 291) (qc_at qkX12_begins 84 rfl) ql_12_343 qfX12_node (qc_kf hn rfl) rfl c23 rfl rfl (Nat.le_of_ble_eq_true rfl) (qc_rml (by decide) (by decide)) ⟨Nat.zero_le _, Nat.zero_le _⟩ ?_
          obtain ⟨r24, I24, L24, D24, R24, e24, h⟩ := qc_bd_of h
          have c24 := (tX12_lay hn (c23.1.1 (c11.1.1 (c9.1.1 hR))) e24)
          refine qd_cVn (ci := 10) (a0 := 291) (qc_at qkX12_begins 85 rfl) ql_12_347 qfX12_lay (qc_kf hn rfl) rfl c24 rfl rfl (Nat.le_of_ble_eq_true rfl) (qc_rml (by decide) (by decide)) ⟨Nat.zero_le _, Nat.zero_le _⟩ ?_
          refine And.imp_right (fun hx => qc_aload_n (qc_at qkX12_begins 86 rfl) rfl <| qc_dup (qc_at qkX12_begins 87 rfl) rfl <| qc_gI (qc_at qkX12_begins 88 rfl) hn rfl <| qc_iconst (qc_at qkX12_begins 89 rfl) <| qc_iadd (qc_at qkX12_begins 90 rfl) <| hx) (qd_pI (qc_at qkX12_begins 91 rfl) hn rfl rfl ?_)
          refine And.imp_right (fun hx => qc_aload_n (qc_at qkX12_begins 92 rfl) rfl <| hx) ?_
          obtain ⟨r25, I25, L25, D25, R25, e25, h⟩ := qc_bd_of h
          have c25 := (tX12_next hn (c24.1.1 (c23.1.1 (c11.1.1 (c9.1.1 hR)))) e25)
          refine qd_cVn (ci := 10) (a0 := 291) (qc_at qkX12_begins 93 rfl) ql_12_304 qfX12_next (qc_kf hn rfl) rfl c25 rfl rfl (Nat.le_of_ble_eq_true rfl) (qc_rml (by decide) (by decide)) ⟨Nat.zero_le _, Nat.zero_le _⟩ ?_
          obtain ⟨rfl, rfl, rfl, rfl, rfl⟩ := qc_some5 h
          exact ⟨qc_fm.rf _, qc_iconst (qc_at qkX12_begins 94 rfl) <| qc_zret (qc_at qkX12_begins 95 rfl) rfl (Or.inr rfl) (Nat.le_refl _) (Nat.le_refl _) ⟨rfl, rfl, rfl⟩⟩
      · replace h := qc_jp u13 h
        refine And.imp_right (fun hx => qc_aload_n (qc_at qkX12_begins 44 rfl) rfl <| qc_aload_n (qc_at qkX12_begins 45 rfl) rfl <| qc_iconst (qc_at qkX12_begins 46 rfl) <| qc_iconst (qc_at qkX12_begins 47 rfl) <| qc_iconst (qc_at qkX12_begins 48 rfl) <| qc_iconst (qc_at qkX12_begins 49 rfl) <| qc_aload_n (qc_at qkX12_begins 50 rfl) rfl <| qc_gI (qc_at qkX12_begins 51 rfl) hn rfl <| qc_iconst (qc_at qkX12_begins 52 rfl) <| hx) ?_
        obtain ⟨r26, I26, L26, D26, R26, e26, h⟩ := qc_bd_of h
        have c26 := (tX12_node hn (c11.1.1 (c9.1.1 hR)) e26)
        refine qd_cVv (ci := 10) (a0 := 291) (qc_at qkX12_begins 53 rfl) ql_12_343 qfX12_node (qc_kf hn rfl) rfl c26 rfl rfl (Nat.le_of_ble_eq_true rfl) (qc_rml (by decide) (by decide)) ⟨Nat.zero_le _, Nat.zero_le _⟩ ?_
        obtain ⟨r27, I27, L27, D27, R27, e27, h⟩ := qc_bd_of h
        have c27 := (tX12_lay hn (c26.1.1 (c11.1.1 (c9.1.1 hR))) e27)
        refine qd_cVn (ci := 10) (a0 := 291) (qc_at qkX12_begins 54 rfl) ql_12_347 qfX12_lay (qc_kf hn rfl) rfl c27 rfl rfl (Nat.le_of_ble_eq_true rfl) (qc_rml (by decide) (by decide)) ⟨Nat.zero_le _, Nat.zero_le _⟩ ?_
        refine And.imp_right (fun hx => qc_aload_n (qc_at qkX12_begins 55 rfl) rfl <| hx) ?_
        obtain ⟨r28, I28, L28, D28, R28, e28, h⟩ := qc_bd_of h
        have c28 := (tX12_next hn (c27.1.1 (c26.1.1 (c11.1.1 (c9.1.1 hR)))) e28)
        refine qd_cVn (ci := 10) (a0 := 291) (qc_at qkX12_begins 56 rfl) ql_12_304 qfX12_next (qc_kf hn rfl) rfl c28 rfl rfl (Nat.le_of_ble_eq_true rfl) (qc_rml (by decide) (by decide)) ⟨Nat.zero_le _, Nat.zero_le _⟩ ?_
        obtain ⟨rfl, rfl, rfl, rfl, rfl⟩ := qc_some5 h
        exact ⟨qc_fm.rf _, qc_iconst (qc_at qkX12_begins 57 rfl) <| qc_zret (qc_at qkX12_begins 58 rfl) rfl (Or.inr rfl) (Nat.le_refl _) (Nat.le_refl _) ⟨rfl, rfl, rfl⟩⟩
    · replace h := qc_jt u12 h
      exact And.imp_right (fun hx => qc_sub [0] rfl hx) (tX12_begins_b48 hn (c11.1.1 (c9.1.1 hR)) h)
def fX12_begins (w : qcW) (I : qTI) (L : qTL) (D : qTD) (R : qTR) (x1 : Int32) : qcO Bool :=
  (qc_bd (fX12_isWord w I L D R (14836 : Int64)) fun r29 I29 L29 D29 R29 => if r29 = true then (if x1 = 0 then (fX12_begins_b30 w I29 L29 D29 R29) else (qc_bd (fX12_opens w I29 L29 D29 R29) fun r32 I32 L32 D32 R32 => qc_bd (fX12_joint w I32 L32 D32 R32 (3 : Int32) (0 : Int32)) fun r33 I33 L33 D33 R33 => qc_bd (fX12_next w I33 L33 D33 R33) fun r34 I34 L34 D34 R34 => some (false, I34, L34, D34, R34))) else (fX12_begins_b30 w I29 L29 D29 R29))
set_option maxRecDepth 100000 in
set_option maxHeartbeats 4000000 in
theorem tX12_begins {w : qcW} {I : qTI} {L : qTL} {D : qTD} {R : qTR} {x1 : Int32} {r : Bool} {I' : qTI} {L' : qTL} {D' : qTD} {R' : qTR} (hn : qcNF ≤ w.1) (hR : qc_FR R) (h : fX12_begins w I L D R x1 = some (r, I', L', D', R')) : qc_fm qcSM (I, L, D, R) (I', L', D', R') ∧ qc_V (6) 0 0 qmX12_begins [.ref 291, .int x1] w (I, L, D, R) (qc_eq (some (.int (qc_b r))) w (I', L', D', R')) := by
  unfold fX12_begins at h
  refine And.imp_right (fun hx => qc_V.of rfl rfl (Nat.le_of_ble_eq_true rfl) (lv := [(0, .ref 291), (1, .int x1)]) rfl hx) ?_
  refine And.imp_right (fun hx => qc_aload_n (qc_at qkX12_begins 0 rfl) rfl <| qc_ldc2l (qc_at qkX12_begins 1 rfl) <| hx) ?_
  obtain ⟨r29, I29, L29, D29, R29, e29, h⟩ := qc_bd_of h
  have c29 := (tX12_isWord hn hR e29)
  refine qd_cVv (ci := 10) (a0 := 291) (qc_at qkX12_begins 2 rfl) ql_12_358 qfX12_isWord (qc_kf hn rfl) rfl c29 rfl rfl (Nat.le_of_ble_eq_true rfl) (qc_rml (by decide) (by decide)) ⟨Nat.zero_le _, Nat.zero_le _⟩ ?_
  refine qc_andB (qc_ifB_eq (qc_at qkX12_begins 3 rfl)) (fun u30 => ?_) (fun u30 => ?_)
  · replace h := qc_jf u30 h
    exact And.imp_right (fun hx => qc_sub [0] rfl hx) (tX12_begins_b30 hn (c29.1.1 hR) h)
  · replace h := qc_jt u30 h
    refine And.imp_right (fun hx => qc_iload_n (qc_at qkX12_begins 4 rfl) rfl <| hx) ?_
    refine qc_andC (qc_if_eq (qc_at qkX12_begins 5 rfl)) (fun u31 => ?_) (fun u31 => ?_)
    · replace h := qc_jp u31 h
      exact And.imp_right (fun hx => qc_sub [0] rfl hx) (tX12_begins_b30 hn (c29.1.1 hR) h)
    · replace h := qc_jn u31 h
      refine And.imp_right (fun hx => qc_aload_n (qc_at qkX12_begins 6 rfl) rfl <| hx) ?_
      obtain ⟨r32, I32, L32, D32, R32, e32, h⟩ := qc_bd_of h
      have c32 := (tX12_opens hn (c29.1.1 hR) e32)
      refine qd_cVn (ci := 10) (a0 := 291) (qc_at qkX12_begins 7 rfl) ql_12_400 qfX12_opens (qc_kf hn rfl) rfl c32 rfl rfl (Nat.le_of_ble_eq_true rfl) (qc_rml (by decide) (by decide)) ⟨Nat.zero_le _, Nat.zero_le _⟩ ?_
      refine And.imp_right (fun hx => qc_aload_n (qc_at qkX12_begins 8 rfl) rfl <| qc_iconst (qc_at qkX12_begins 9 rfl) <| qc_iconst (qc_at qkX12_begins 10 rfl) <| hx) ?_
      obtain ⟨r33, I33, L33, D33, R33, e33, h⟩ := qc_bd_of h
      have c33 := (tX12_joint hn (c32.1.1 (c29.1.1 hR)) e33)
      refine qd_cVn (ci := 10) (a0 := 291) (qc_at qkX12_begins 11 rfl) ql_12_403 qfX12_joint (qc_kf hn rfl) rfl c33 rfl rfl (Nat.le_of_ble_eq_true rfl) (qc_rml (by decide) (by decide)) ⟨Nat.zero_le _, Nat.zero_le _⟩ ?_
      refine And.imp_right (fun hx => qc_aload_n (qc_at qkX12_begins 12 rfl) rfl <| hx) ?_
      obtain ⟨r34, I34, L34, D34, R34, e34, h⟩ := qc_bd_of h
      have c34 := (tX12_next hn (c33.1.1 (c32.1.1 (c29.1.1 hR))) e34)
      refine qd_cVn (ci := 10) (a0 := 291) (qc_at qkX12_begins 13 rfl) ql_12_304 qfX12_next (qc_kf hn rfl) rfl c34 rfl rfl (Nat.le_of_ble_eq_true rfl) (qc_rml (by decide) (by decide)) ⟨Nat.zero_le _, Nat.zero_le _⟩ ?_
      obtain ⟨rfl, rfl, rfl, rfl, rfl⟩ := qc_some5 h
      exact ⟨qc_fm.rf _, qc_iconst (qc_at qkX12_begins 14 rfl) <| qc_zret (qc_at qkX12_begins 15 rfl) rfl (Or.inl rfl) (Nat.le_refl _) (Nat.le_refl _) ⟨rfl, rfl, rfl⟩⟩
def fX12_called_b65 (w : qcW) (I : qTI) (L : qTL) (D : qTD) (R : qTR) (x1 : Int32) (x2 : Int32) : qcO Int32 :=
  (qc_bd (fX12_node w I L D R (15 : Int32) x2 (0 : Int32) (0 : Int32) x1 (4 : Int32)) fun r1 I1 L1 D1 R1 => some (r1, I1, L1, D1, R1))
set_option maxRecDepth 100000 in
set_option maxHeartbeats 4000000 in
theorem tX12_called_b65 {w : qcW} {I : qTI} {L : qTL} {D : qTD} {R : qTR} {x1 : Int32} {x2 : Int32} {r : Int32} {I' : qTI} {L' : qTL} {D' : qTD} {R' : qTR} (hn : qcNF ≤ w.1) (hR : qc_FR R) (h : fX12_called_b65 w I L D R x1 x2 = some (r, I', L', D', R')) : qc_fm qcSM (I, L, D, R) (I', L', D', R') ∧ qc_X (qc_rm (3) 0 0) qmX12_called (qc_QM 0 0 (qc_eq (some (.int r)) w (I', L', D', R'))) 0 0 w (65, [(0, .ref 291), (1, .int x1), (2, .int x2)], [], I, L, D, R) := by
  unfold fX12_called_b65 at h
  refine And.imp_right (fun hx => qc_aload_n (qc_at qkX12_called 16 rfl) rfl <| qc_bipush (qc_at qkX12_called 17 rfl) <| qc_iload_n (qc_at qkX12_called 18 rfl) rfl <| qc_iconst (qc_at qkX12_called 19 rfl) <| qc_iconst (qc_at qkX12_called 20 rfl) <| qc_iload_n (qc_at qkX12_called 21 rfl) rfl <| qc_iconst (qc_at qkX12_called 22 rfl) <| hx) ?_
  obtain ⟨r1, I1, L1, D1, R1, e1, h⟩ := qc_bd_of h
  have c1 := (tX12_node hn hR e1)
  refine qd_cVv (ci := 10) (a0 := 291) (qc_at qkX12_called 23 rfl) ql_12_343 qfX12_node (qc_kf hn rfl) rfl c1 rfl rfl (Nat.le_of_ble_eq_true rfl) (qc_rml (by decide) (by decide)) ⟨Nat.zero_le _, Nat.zero_le _⟩ ?_
  obtain ⟨rfl, rfl, rfl, rfl, rfl⟩ := qc_some5 h
  exact ⟨qc_fm.rf _, qc_iret (qc_at qkX12_called 24 rfl) rfl (Nat.le_refl _) (Nat.le_refl _) (qc_eq.rf _ _ _)⟩
def fX12_called_b95 (w : qcW) (I : qTI) (L : qTL) (D : qTD) (R : qTR) (s0 : Int32) (s1 : Int32) (s2 : Int32) (s3 : Int32) (s4 : Int32) (s5 : Int32) : qcO Int32 :=
  (qc_bd (fX12_node w I L D R s5 s4 s3 s2 s1 s0) fun r2 I2 L2 D2 R2 => some (r2, I2, L2, D2, R2))
set_option maxRecDepth 100000 in
set_option maxHeartbeats 4000000 in
theorem tX12_called_b95 {w : qcW} {I : qTI} {L : qTL} {D : qTD} {R : qTR} {s0 : Int32} {s1 : Int32} {s2 : Int32} {s3 : Int32} {s4 : Int32} {s5 : Int32} {r : Int32} {I' : qTI} {L' : qTL} {D' : qTD} {R' : qTR} (hn : qcNF ≤ w.1) (hR : qc_FR R) (h : fX12_called_b95 w I L D R s0 s1 s2 s3 s4 s5 = some (r, I', L', D', R')) : qc_fm qcSM (I, L, D, R) (I', L', D', R') ∧ qc_X (qc_rm (3) 0 0) qmX12_called (qc_QM 0 0 (qc_eq (some (.int r)) w (I', L', D', R'))) 0 0 w (95, [], [.int s0, .int s1, .int s2, .int s3, .int s4, .int s5, .ref 291], I, L, D, R) := by
  unfold fX12_called_b95 at h
  obtain ⟨r2, I2, L2, D2, R2, e2, h⟩ := qc_bd_of h
  have c2 := (tX12_node hn hR e2)
  refine qd_cVv (ci := 10) (a0 := 291) (qc_at qkX12_called 37 rfl) ql_12_343 qfX12_node (qc_kf hn rfl) rfl c2 rfl rfl (Nat.le_of_ble_eq_true rfl) (qc_rml (by decide) (by decide)) ⟨Nat.zero_le _, Nat.zero_le _⟩ ?_
  obtain ⟨rfl, rfl, rfl, rfl, rfl⟩ := qc_some5 h
  exact ⟨qc_fm.rf _, qc_iret (qc_at qkX12_called 38 rfl) rfl (Nat.le_refl _) (Nat.le_refl _) (qc_eq.rf _ _ _)⟩
def fX12_called_b118 (w : qcW) (I : qTI) (L : qTL) (D : qTD) (R : qTR) (x3 : Int32) (x4 : Int32) (s0 : Int32) (s1 : Int32) (s2 : Int32) (s3 : Int32) (s4 : Int32) : qcO Int32 :=
  (qc_gd (qc_inb x3 420) <| qc_bd (fX12_later w I L D R x4 (I 303 (Int32.toNatClampNeg x3))) fun r4 I4 L4 D4 R4 => qc_bd (fX12_node w I4 L4 D4 R4 s4 s3 s2 s1 s0 r4) fun r5 I5 L5 D5 R5 => some (r5, I5, L5, D5, R5))
set_option maxRecDepth 100000 in
set_option maxHeartbeats 4000000 in
theorem tX12_called_b118 {w : qcW} {I : qTI} {L : qTL} {D : qTD} {R : qTR} {x3 : Int32} {x4 : Int32} {s0 : Int32} {s1 : Int32} {s2 : Int32} {s3 : Int32} {s4 : Int32} {r : Int32} {I' : qTI} {L' : qTL} {D' : qTD} {R' : qTR} (hn : qcNF ≤ w.1) (hR : qc_FR R) (h : fX12_called_b118 w I L D R x3 x4 s0 s1 s2 s3 s4 = some (r, I', L', D', R')) : qc_fm qcSM (I, L, D, R) (I', L', D', R') ∧ qc_X (qc_rm (3) 0 0) qmX12_called (qc_QM 0 0 (qc_eq (some (.int r)) w (I', L', D', R'))) 0 0 w (118, [(0, .ref 291), (3, .int x3), (4, .int x4)], [.int s0, .int s1, .int s2, .int s3, .int s4, .ref 291], I, L, D, R) := by
  unfold fX12_called_b118 at h
  refine And.imp_right (fun hx => qc_iload (qc_at qkX12_called 50 rfl) rfl <| qc_aload_n (qc_at qkX12_called 51 rfl) rfl <| qc_gR (qc_at qkX12_called 52 rfl) hn rfl (qfr_291_23 hR) rfl <| qc_iload_n (qc_at qkX12_called 53 rfl) rfl <| hx) ?_
  obtain ⟨g3, h⟩ := qc_gd_of h
  refine And.imp_right (fun hx => qc_iald 420 (qc_at qkX12_called 54 rfl) hn rfl (qc_inb_in g3) <| hx) ?_
  obtain ⟨r4, I4, L4, D4, R4, e4, h⟩ := qc_bd_of h
  have c4 := (tX12_later hn hR e4)
  refine qd_cSv (qc_at qkX12_called 55 rfl) ql_12_350 qfX12_later c4 rfl rfl (Nat.le_of_ble_eq_true rfl) (qc_rml (by decide) (by decide)) ⟨Nat.zero_le _, Nat.zero_le _⟩ ?_
  obtain ⟨r5, I5, L5, D5, R5, e5, h⟩ := qc_bd_of h
  have c5 := (tX12_node hn (c4.1.1 hR) e5)
  refine qd_cVv (ci := 10) (a0 := 291) (qc_at qkX12_called 56 rfl) ql_12_343 qfX12_node (qc_kf hn rfl) rfl c5 rfl rfl (Nat.le_of_ble_eq_true rfl) (qc_rml (by decide) (by decide)) ⟨Nat.zero_le _, Nat.zero_le _⟩ ?_
  obtain ⟨rfl, rfl, rfl, rfl, rfl⟩ := qc_some5 h
  exact ⟨qc_fm.rf _, qc_iret (qc_at qkX12_called 57 rfl) rfl (Nat.le_refl _) (Nat.le_refl _) (qc_eq.rf _ _ _)⟩
def fX12_called_b99 (w : qcW) (I : qTI) (L : qTL) (D : qTD) (R : qTR) (x1 : Int32) (x2 : Int32) (x3 : Int32) (x4 : Int32) : qcO Int32 :=
  (if x1 = (5 : Int32) then (fX12_called_b118 w I L D R x3 x4 (1750 : Int32) (0 : Int32) x3 x2 (5 : Int32)) else (fX12_called_b118 w I L D R x3 x4 (1760 : Int32) (0 : Int32) x3 x2 (5 : Int32)))
set_option maxRecDepth 100000 in
set_option maxHeartbeats 4000000 in
theorem tX12_called_b99 {w : qcW} {I : qTI} {L : qTL} {D : qTD} {R : qTR} {x1 : Int32} {x2 : Int32} {x3 : Int32} {x4 : Int32} {r : Int32} {I' : qTI} {L' : qTL} {D' : qTD} {R' : qTR} (hn : qcNF ≤ w.1) (hR : qc_FR R) (h : fX12_called_b99 w I L D R x1 x2 x3 x4 = some (r, I', L', D', R')) : qc_fm qcSM (I, L, D, R) (I', L', D', R') ∧ qc_X (qc_rm (3) 0 0) qmX12_called (qc_QM 0 0 (qc_eq (some (.int r)) w (I', L', D', R'))) 0 0 w (99, [(0, .ref 291), (1, .int x1), (2, .int x2), (3, .int x3), (4, .int x4)], [], I, L, D, R) := by
  unfold fX12_called_b99 at h
  refine And.imp_right (fun hx => qc_aload_n (qc_at qkX12_called 39 rfl) rfl <| qc_iconst (qc_at qkX12_called 40 rfl) <| qc_iload_n (qc_at qkX12_called 41 rfl) rfl <| qc_iload_n (qc_at qkX12_called 42 rfl) rfl <| qc_iconst (qc_at qkX12_called 43 rfl) <| qc_iload_n (qc_at qkX12_called 44 rfl) rfl <| qc_iconst (qc_at qkX12_called 45 rfl) <| hx) ?_
  refine qc_andN (qc_icmp_ne (qc_at qkX12_called 46 rfl)) (fun u6 => ?_) (fun u6 => ?_)
  · replace h := qc_jn u6 h
    exact And.imp_right (fun hx => qc_sipush (qc_at qkX12_called 49 rfl) <| qc_sub [0, 3, 4] rfl hx) (tX12_called_b118 hn hR h)
  · replace h := qc_jp u6 h
    exact And.imp_right (fun hx => qc_sipush (qc_at qkX12_called 47 rfl) <| qc_goto (qc_at qkX12_called 48 rfl) <| qc_sub [0, 3, 4] rfl hx) (tX12_called_b118 hn hR h)
def fX12_called_b174 (w : qcW) (I : qTI) (L : qTL) (D : qTD) (R : qTR) (s0 : Int32) (s1 : Int32) (s2 : Int32) (s3 : Int32) (s4 : Int32) (s5 : Int32) : qcO Int32 :=
  (qc_bd (fX12_node w I L D R s5 s4 s3 s2 s1 s0) fun r7 I7 L7 D7 R7 => some (r7, I7, L7, D7, R7))
set_option maxRecDepth 100000 in
set_option maxHeartbeats 4000000 in
theorem tX12_called_b174 {w : qcW} {I : qTI} {L : qTL} {D : qTD} {R : qTR} {s0 : Int32} {s1 : Int32} {s2 : Int32} {s3 : Int32} {s4 : Int32} {s5 : Int32} {r : Int32} {I' : qTI} {L' : qTL} {D' : qTD} {R' : qTR} (hn : qcNF ≤ w.1) (hR : qc_FR R) (h : fX12_called_b174 w I L D R s0 s1 s2 s3 s4 s5 = some (r, I', L', D', R')) : qc_fm qcSM (I, L, D, R) (I', L', D', R') ∧ qc_X (qc_rm (3) 0 0) qmX12_called (qc_QM 0 0 (qc_eq (some (.int r)) w (I', L', D', R'))) 0 0 w (174, [], [.int s0, .int s1, .int s2, .int s3, .int s4, .int s5, .ref 291], I, L, D, R) := by
  unfold fX12_called_b174 at h
  obtain ⟨r7, I7, L7, D7, R7, e7, h⟩ := qc_bd_of h
  have c7 := (tX12_node hn hR e7)
  refine qd_cVv (ci := 10) (a0 := 291) (qc_at qkX12_called 82 rfl) ql_12_343 qfX12_node (qc_kf hn rfl) rfl c7 rfl rfl (Nat.le_of_ble_eq_true rfl) (qc_rml (by decide) (by decide)) ⟨Nat.zero_le _, Nat.zero_le _⟩ ?_
  obtain ⟨rfl, rfl, rfl, rfl, rfl⟩ := qc_some5 h
  exact ⟨qc_fm.rf _, qc_iret (qc_at qkX12_called 83 rfl) rfl (Nat.le_refl _) (Nat.le_refl _) (qc_eq.rf _ _ _)⟩
def fX12_called (w : qcW) (I : qTI) (L : qTL) (D : qTD) (R : qTR) (x1 : Int32) (x2 : Int32) (x3 : Int32) : qcO Int32 :=
  (qc_gd (qc_inb x2 420) <| if x1 = 0 then (qc_bd (fX12_node w I L D R (14 : Int32) x2 (0 : Int32) (0 : Int32) (0 : Int32) (I 303 (Int32.toNatClampNeg x2))) fun r10 I10 L10 D10 R10 => some (r10, I10, L10, D10, R10)) else if x1 = 1 then (fX12_called_b65 w I L D R x1 x2) else if x1 = 2 then (fX12_called_b65 w I L D R x1 x2) else if x1 = 3 then (fX12_called_b65 w I L D R x1 x2) else if x1 = 4 then (if (I 303 (Int32.toNatClampNeg x2)) = (3 : Int32) then (fX12_called_b95 w I L D R (3 : Int32) (0 : Int32) (0 : Int32) (0 : Int32) x2 (16 : Int32)) else (fX12_called_b95 w I L D R (4 : Int32) (0 : Int32) (0 : Int32) (0 : Int32) x2 (16 : Int32))) else if x1 = 5 then (fX12_called_b99 w I L D R x1 x2 x3 (I 303 (Int32.toNatClampNeg x2))) else if x1 = 6 then (fX12_called_b99 w I L D R x1 x2 x3 (I 303 (Int32.toNatClampNeg x2))) else (if (11 : Int32) ≤ x1 then (if x1 = (11 : Int32) then (fX12_called_b174 w I L D R (2 : Int32) (x1 - (6 : Int32)) (0 : Int32) (0 : Int32) x2 (17 : Int32)) else (if x1 = (12 : Int32) then (fX12_called_b174 w I L D R (3 : Int32) (x1 - (6 : Int32)) (0 : Int32) (0 : Int32) x2 (17 : Int32)) else (fX12_called_b174 w I L D R (4 : Int32) (x1 - (6 : Int32)) (0 : Int32) (0 : Int32) x2 (17 : Int32)))) else (fX12_called_b174 w I L D R (1 : Int32) (x1 - (6 : Int32)) (0 : Int32) (0 : Int32) x2 (17 : Int32))))
set_option maxRecDepth 100000 in
set_option maxHeartbeats 4000000 in
theorem tX12_called {w : qcW} {I : qTI} {L : qTL} {D : qTD} {R : qTR} {x1 : Int32} {x2 : Int32} {x3 : Int32} {r : Int32} {I' : qTI} {L' : qTL} {D' : qTD} {R' : qTR} (hn : qcNF ≤ w.1) (hR : qc_FR R) (h : fX12_called w I L D R x1 x2 x3 = some (r, I', L', D', R')) : qc_fm qcSM (I, L, D, R) (I', L', D', R') ∧ qc_V (3) 0 0 qmX12_called [.ref 291, .int x1, .int x2, .int x3] w (I, L, D, R) (qc_eq (some (.int r)) w (I', L', D', R')) := by
  unfold fX12_called at h
  refine And.imp_right (fun hx => qc_V.of rfl rfl (Nat.le_of_ble_eq_true rfl) (lv := [(0, .ref 291), (1, .int x1), (2, .int x2), (3, .int x3)]) rfl hx) ?_
  refine And.imp_right (fun hx => qc_aload_n (qc_at qkX12_called 0 rfl) rfl <| qc_gR (qc_at qkX12_called 1 rfl) hn rfl (qfr_291_23 hR) rfl <| qc_iload_n (qc_at qkX12_called 2 rfl) rfl <| hx) ?_
  obtain ⟨g8, h⟩ := qc_gd_of h
  refine And.imp_right (fun hx => qc_iald 420 (qc_at qkX12_called 3 rfl) hn rfl (qc_inb_in g8) <| qc_istore (lv' := [(4, _), (0, _), (1, _), (2, _), (3, _)]) (qc_at qkX12_called 4 rfl) rfl rfl <| qc_iload_n (qc_at qkX12_called 5 rfl) rfl <| hx) ?_
  refine qc_by (c := x1 = 0) (fun u9 => ?_) (fun u9 => ?_)
  · refine And.imp_right (fun hx => qc_tabIn (qc_at qkX12_called 6 rfl) 0 (by rw [u9]; rfl) (by decide) rfl rfl hx) ?_
    replace h := qc_jp u9 h
    refine And.imp_right (fun hx => qc_aload_n (qc_at qkX12_called 7 rfl) rfl <| qc_bipush (qc_at qkX12_called 8 rfl) <| qc_iload_n (qc_at qkX12_called 9 rfl) rfl <| qc_iconst (qc_at qkX12_called 10 rfl) <| qc_iconst (qc_at qkX12_called 11 rfl) <| qc_iconst (qc_at qkX12_called 12 rfl) <| qc_iload (qc_at qkX12_called 13 rfl) rfl <| hx) ?_
    obtain ⟨r10, I10, L10, D10, R10, e10, h⟩ := qc_bd_of h
    have c10 := (tX12_node hn hR e10)
    refine qd_cVv (ci := 10) (a0 := 291) (qc_at qkX12_called 14 rfl) ql_12_343 qfX12_node (qc_kf hn rfl) rfl c10 rfl rfl (Nat.le_of_ble_eq_true rfl) (qc_rml (by decide) (by decide)) ⟨Nat.zero_le _, Nat.zero_le _⟩ ?_
    obtain ⟨rfl, rfl, rfl, rfl, rfl⟩ := qc_some5 h
    exact ⟨qc_fm.rf _, qc_iret (qc_at qkX12_called 15 rfl) rfl (Nat.le_refl _) (Nat.le_refl _) (qc_eq.rf _ _ _)⟩
  · replace h := qc_jn u9 h
    refine qc_by (c := x1 = 1) (fun u11 => ?_) (fun u11 => ?_)
    · refine And.imp_right (fun hx => qc_tabIn (qc_at qkX12_called 6 rfl) 1 (by rw [u11]; rfl) (by decide) rfl rfl hx) ?_
      replace h := qc_jp u11 h
      exact And.imp_right (fun hx => qc_sub [1, 2, 3] rfl hx) (tX12_called_b65 hn hR h)
    · replace h := qc_jn u11 h
      refine qc_by (c := x1 = 2) (fun u12 => ?_) (fun u12 => ?_)
      · refine And.imp_right (fun hx => qc_tabIn (qc_at qkX12_called 6 rfl) 2 (by rw [u12]; rfl) (by decide) rfl rfl hx) ?_
        replace h := qc_jp u12 h
        exact And.imp_right (fun hx => qc_sub [1, 2, 3] rfl hx) (tX12_called_b65 hn hR h)
      · replace h := qc_jn u12 h
        refine qc_by (c := x1 = 3) (fun u13 => ?_) (fun u13 => ?_)
        · refine And.imp_right (fun hx => qc_tabIn (qc_at qkX12_called 6 rfl) 3 (by rw [u13]; rfl) (by decide) rfl rfl hx) ?_
          replace h := qc_jp u13 h
          exact And.imp_right (fun hx => qc_sub [1, 2, 3] rfl hx) (tX12_called_b65 hn hR h)
        · replace h := qc_jn u13 h
          refine qc_by (c := x1 = 4) (fun u14 => ?_) (fun u14 => ?_)
          · refine And.imp_right (fun hx => qc_tabIn (qc_at qkX12_called 6 rfl) 4 (by rw [u14]; rfl) (by decide) rfl rfl hx) ?_
            replace h := qc_jp u14 h
            refine And.imp_right (fun hx => qc_aload_n (qc_at qkX12_called 25 rfl) rfl <| qc_bipush (qc_at qkX12_called 26 rfl) <| qc_iload_n (qc_at qkX12_called 27 rfl) rfl <| qc_iconst (qc_at qkX12_called 28 rfl) <| qc_iconst (qc_at qkX12_called 29 rfl) <| qc_iconst (qc_at qkX12_called 30 rfl) <| qc_iload (qc_at qkX12_called 31 rfl) rfl <| qc_iconst (qc_at qkX12_called 32 rfl) <| hx) ?_
            refine qc_andN (qc_icmp_ne (qc_at qkX12_called 33 rfl)) (fun u15 => ?_) (fun u15 => ?_)
            · replace h := qc_jn u15 h
              exact And.imp_right (fun hx => qc_iconst (qc_at qkX12_called 36 rfl) <| qc_sub [] rfl hx) (tX12_called_b95 hn hR h)
            · replace h := qc_jp u15 h
              exact And.imp_right (fun hx => qc_iconst (qc_at qkX12_called 34 rfl) <| qc_goto (qc_at qkX12_called 35 rfl) <| qc_sub [] rfl hx) (tX12_called_b95 hn hR h)
          · replace h := qc_jn u14 h
            refine qc_by (c := x1 = 5) (fun u16 => ?_) (fun u16 => ?_)
            · refine And.imp_right (fun hx => qc_tabIn (qc_at qkX12_called 6 rfl) 5 (by rw [u16]; rfl) (by decide) rfl rfl hx) ?_
              replace h := qc_jp u16 h
              exact And.imp_right (fun hx => qc_sub [1, 2, 3, 4, 0] rfl hx) (tX12_called_b99 hn hR h)
            · replace h := qc_jn u16 h
              refine qc_by (c := x1 = 6) (fun u17 => ?_) (fun u17 => ?_)
              · refine And.imp_right (fun hx => qc_tabIn (qc_at qkX12_called 6 rfl) 6 (by rw [u17]; rfl) (by decide) rfl rfl hx) ?_
                replace h := qc_jp u17 h
                exact And.imp_right (fun hx => qc_sub [1, 2, 3, 4, 0] rfl hx) (tX12_called_b99 hn hR h)
              · replace h := qc_jn u17 h
                have v9 : ¬ Int32.toInt x1 = 0 := fun z => u9 (qc_i32 z rfl)
                have v11 : ¬ Int32.toInt x1 = 1 := fun z => u11 (qc_i32 z rfl)
                have v12 : ¬ Int32.toInt x1 = 2 := fun z => u12 (qc_i32 z rfl)
                have v13 : ¬ Int32.toInt x1 = 3 := fun z => u13 (qc_i32 z rfl)
                have v14 : ¬ Int32.toInt x1 = 4 := fun z => u14 (qc_i32 z rfl)
                have v16 : ¬ Int32.toInt x1 = 5 := fun z => u16 (qc_i32 z rfl)
                have v17 : ¬ Int32.toInt x1 = 6 := fun z => u17 (qc_i32 z rfl)
                refine And.imp_right (fun hx => qc_tabOut (qc_at qkX12_called 6 rfl) (by omega) rfl hx) ?_
                refine And.imp_right (fun hx => qc_aload_n (qc_at qkX12_called 58 rfl) rfl <| qc_bipush (qc_at qkX12_called 59 rfl) <| qc_iload_n (qc_at qkX12_called 60 rfl) rfl <| qc_iconst (qc_at qkX12_called 61 rfl) <| qc_iconst (qc_at qkX12_called 62 rfl) <| qc_iload_n (qc_at qkX12_called 63 rfl) rfl <| qc_bipush (qc_at qkX12_called 64 rfl) <| qc_isub (qc_at qkX12_called 65 rfl) <| qc_iload_n (qc_at qkX12_called 66 rfl) rfl <| qc_bipush (qc_at qkX12_called 67 rfl) <| hx) ?_
                refine qc_andC (qc_icmp_ge (qc_at qkX12_called 68 rfl)) (fun u18 => ?_) (fun u18 => ?_)
                · replace h := qc_jp u18 h
                  refine And.imp_right (fun hx => qc_iload_n (qc_at qkX12_called 71 rfl) rfl <| qc_bipush (qc_at qkX12_called 72 rfl) <| hx) ?_
                  refine qc_andN (qc_icmp_ne (qc_at qkX12_called 73 rfl)) (fun u19 => ?_) (fun u19 => ?_)
                  · replace h := qc_jn u19 h
                    refine And.imp_right (fun hx => qc_iload_n (qc_at qkX12_called 76 rfl) rfl <| qc_bipush (qc_at qkX12_called 77 rfl) <| hx) ?_
                    refine qc_andN (qc_icmp_ne (qc_at qkX12_called 78 rfl)) (fun u20 => ?_) (fun u20 => ?_)
                    · replace h := qc_jn u20 h
                      exact And.imp_right (fun hx => qc_iconst (qc_at qkX12_called 81 rfl) <| qc_sub [] rfl hx) (tX12_called_b174 hn hR h)
                    · replace h := qc_jp u20 h
                      exact And.imp_right (fun hx => qc_iconst (qc_at qkX12_called 79 rfl) <| qc_goto (qc_at qkX12_called 80 rfl) <| qc_sub [] rfl hx) (tX12_called_b174 hn hR h)
                  · replace h := qc_jp u19 h
                    exact And.imp_right (fun hx => qc_iconst (qc_at qkX12_called 74 rfl) <| qc_goto (qc_at qkX12_called 75 rfl) <| qc_sub [] rfl hx) (tX12_called_b174 hn hR h)
                · replace h := qc_jn u18 h
                  exact And.imp_right (fun hx => qc_iconst (qc_at qkX12_called 69 rfl) <| qc_goto (qc_at qkX12_called 70 rfl) <| qc_sub [] rfl hx) (tX12_called_b174 hn hR h)
def fX12_endsFunction_b141 (w : qcW) (I : qTI) (L : qTL) (D : qTD) (R : qTR) (x1 : Int32) (x2 : Int32) (x3 : Int32) (x4 : Int32) (s0 : Int32) : qcO Bool :=
  (qc_gd (qc_inb x1 40) <| qc_bd (fX12_needs4 w I L D R s0 (I 312 (Int32.toNatClampNeg x1))) fun r2 I2 L2 D2 R2 => qc_bd (fX12_called w I2 L2 D2 R2 x2 x4 x3) fun r3 I3 L3 D3 R3 => qc_bd (fX12_lay w I3 L3 D3 R3 r3) fun r4 I4 L4 D4 R4 => some (true, I4, L4, D4, R4))
set_option maxRecDepth 100000 in
set_option maxHeartbeats 4000000 in
theorem tX12_endsFunction_b141 {w : qcW} {I : qTI} {L : qTL} {D : qTD} {R : qTR} {x1 : Int32} {x2 : Int32} {x3 : Int32} {x4 : Int32} {s0 : Int32} {r : Bool} {I' : qTI} {L' : qTL} {D' : qTD} {R' : qTR} (hn : qcNF ≤ w.1) (hR : qc_FR R) (h : fX12_endsFunction_b141 w I L D R x1 x2 x3 x4 s0 = some (r, I', L', D', R')) : qc_fm qcSM (I, L, D, R) (I', L', D', R') ∧ qc_X (qc_rm (5) 0 0) qmX12_endsFunction (qc_QM 0 0 (qc_eq (some (.int (qc_b r))) w (I', L', D', R'))) 0 0 w (141, [(0, .ref 291), (1, .int x1), (2, .int x2), (3, .int x3), (4, .int x4)], [.int s0, .ref 291], I, L, D, R) := by
  unfold fX12_endsFunction_b141 at h
  refine And.imp_right (fun hx => qc_aload_n (qc_at qkX12_endsFunction 82 rfl) rfl <| qc_gR (qc_at qkX12_endsFunction 83 rfl) hn rfl (qfr_291_37 hR) rfl <| qc_iload_n (qc_at qkX12_endsFunction 84 rfl) rfl <| hx) ?_
  obtain ⟨g1, h⟩ := qc_gd_of h
  refine And.imp_right (fun hx => qc_iald 40 (qc_at qkX12_endsFunction 85 rfl) hn rfl (qc_inb_in g1) <| hx) ?_
  obtain ⟨r2, I2, L2, D2, R2, e2, h⟩ := qc_bd_of h
  have c2 := (tX12_needs4 hn hR e2)
  refine qd_cVn (ci := 10) (a0 := 291) (qc_at qkX12_endsFunction 86 rfl) ql_12_339 qfX12_needs4 (qc_kf hn rfl) rfl c2 rfl rfl (Nat.le_of_ble_eq_true rfl) (qc_rml (by decide) (by decide)) ⟨Nat.zero_le _, Nat.zero_le _⟩ ?_
  refine And.imp_right (fun hx => qc_aload_n (qc_at qkX12_endsFunction 87 rfl) rfl <| qc_aload_n (qc_at qkX12_endsFunction 88 rfl) rfl <| qc_iload_n (qc_at qkX12_endsFunction 89 rfl) rfl <| qc_iload (qc_at qkX12_endsFunction 90 rfl) rfl <| qc_iload_n (qc_at qkX12_endsFunction 91 rfl) rfl <| hx) ?_
  obtain ⟨r3, I3, L3, D3, R3, e3, h⟩ := qc_bd_of h
  have c3 := (tX12_called hn (c2.1.1 hR) e3)
  refine qd_cVv (ci := 10) (a0 := 291) (qc_at qkX12_endsFunction 92 rfl) ql_12_441 qfX12_called (qc_kf hn rfl) rfl c3 rfl rfl (Nat.le_of_ble_eq_true rfl) (qc_rml (by decide) (by decide)) ⟨Nat.zero_le _, Nat.zero_le _⟩ ?_
  obtain ⟨r4, I4, L4, D4, R4, e4, h⟩ := qc_bd_of h
  have c4 := (tX12_lay hn (c3.1.1 (c2.1.1 hR)) e4)
  refine qd_cVn (ci := 10) (a0 := 291) (qc_at qkX12_endsFunction 93 rfl) ql_12_347 qfX12_lay (qc_kf hn rfl) rfl c4 rfl rfl (Nat.le_of_ble_eq_true rfl) (qc_rml (by decide) (by decide)) ⟨Nat.zero_le _, Nat.zero_le _⟩ ?_
  obtain ⟨rfl, rfl, rfl, rfl, rfl⟩ := qc_some5 h
  exact ⟨qc_fm.rf _, qc_iconst (qc_at qkX12_endsFunction 94 rfl) <| qc_zret (qc_at qkX12_endsFunction 95 rfl) rfl (Or.inr rfl) (Nat.le_refl _) (Nat.le_refl _) ⟨rfl, rfl, rfl⟩⟩
def fX12_endsFunction_b140 (w : qcW) (I : qTI) (L : qTL) (D : qTD) (R : qTR) (x1 : Int32) (x2 : Int32) (x3 : Int32) (x4 : Int32) : qcO Bool :=
  (fX12_endsFunction_b141 w I L D R x1 x2 x3 x4 (0 : Int32))
set_option maxRecDepth 100000 in
set_option maxHeartbeats 4000000 in
theorem tX12_endsFunction_b140 {w : qcW} {I : qTI} {L : qTL} {D : qTD} {R : qTR} {x1 : Int32} {x2 : Int32} {x3 : Int32} {x4 : Int32} {r : Bool} {I' : qTI} {L' : qTL} {D' : qTD} {R' : qTR} (hn : qcNF ≤ w.1) (hR : qc_FR R) (h : fX12_endsFunction_b140 w I L D R x1 x2 x3 x4 = some (r, I', L', D', R')) : qc_fm qcSM (I, L, D, R) (I', L', D', R') ∧ qc_X (qc_rm (5) 0 0) qmX12_endsFunction (qc_QM 0 0 (qc_eq (some (.int (qc_b r))) w (I', L', D', R'))) 0 0 w (140, [(0, .ref 291), (1, .int x1), (2, .int x2), (3, .int x3), (4, .int x4)], [.ref 291], I, L, D, R) := by
  unfold fX12_endsFunction_b140 at h
  exact And.imp_right (fun hx => qc_iconst (qc_at qkX12_endsFunction 81 rfl) <| qc_sub [0, 1, 2, 3, 4] rfl hx) (tX12_endsFunction_b141 hn hR h)
def fX12_endsFunction_b101 (w : qcW) (I : qTI) (L : qTL) (D : qTD) (R : qTR) (x1 : Int32) (x2 : Int32) (x3 : Int32) (s0 : Int32) : qcO Bool :=
  (if (I 291 15) = 0 then (qc_gd (qc_inb s0 420) <| qc_bd (fX12_isNumber w I L D R (I 303 (Int32.toNatClampNeg s0))) fun r7 I7 L7 D7 R7 => if r7 = true then (qc_gd (qc_inb x3 420) <| qc_bd (fX12_isNumber w I7 L7 D7 R7 (I7 303 (Int32.toNatClampNeg x3))) fun r10 I10 L10 D10 R10 => if r10 = true then (fX12_endsFunction_b141 w I10 L10 D10 R10 x1 x2 x3 s0 (1 : Int32)) else (fX12_endsFunction_b140 w I10 L10 D10 R10 x1 x2 x3 s0)) else (fX12_endsFunction_b140 w I7 L7 D7 R7 x1 x2 x3 s0)) else (some (true, I, L, D, R)))
set_option maxRecDepth 100000 in
set_option maxHeartbeats 4000000 in
theorem tX12_endsFunction_b101 {w : qcW} {I : qTI} {L : qTL} {D : qTD} {R : qTR} {x1 : Int32} {x2 : Int32} {x3 : Int32} {s0 : Int32} {r : Bool} {I' : qTI} {L' : qTL} {D' : qTD} {R' : qTR} (hn : qcNF ≤ w.1) (hR : qc_FR R) (h : fX12_endsFunction_b101 w I L D R x1 x2 x3 s0 = some (r, I', L', D', R')) : qc_fm qcSM (I, L, D, R) (I', L', D', R') ∧ qc_X (qc_rm (5) 0 0) qmX12_endsFunction (qc_QM 0 0 (qc_eq (some (.int (qc_b r))) w (I', L', D', R'))) 0 0 w (101, [(0, .ref 291), (1, .int x1), (2, .int x2), (3, .int x3)], [.int s0], I, L, D, R) := by
  unfold fX12_endsFunction_b101 at h
  refine And.imp_right (fun hx => qc_istore (lv' := [(4, _), (0, _), (1, _), (2, _), (3, _)]) (qc_at qkX12_endsFunction 62 rfl) rfl rfl <| qc_aload_n (qc_at qkX12_endsFunction 63 rfl) rfl <| qc_gI (qc_at qkX12_endsFunction 64 rfl) hn rfl <| hx) ?_
  refine qc_andN (qc_if_ne (qc_at qkX12_endsFunction 65 rfl)) (fun u5 => ?_) (fun u5 => ?_)
  · replace h := qc_jn u5 h
    obtain ⟨rfl, rfl, rfl, rfl, rfl⟩ := qc_some5 h
    exact ⟨qc_fm.rf _, qc_iconst (qc_at qkX12_endsFunction 94 rfl) <| qc_zret (qc_at qkX12_endsFunction 95 rfl) rfl (Or.inr rfl) (Nat.le_refl _) (Nat.le_refl _) ⟨rfl, rfl, rfl⟩⟩
  · replace h := qc_jp u5 h
    refine And.imp_right (fun hx => qc_aload_n (qc_at qkX12_endsFunction 66 rfl) rfl <| qc_aload_n (qc_at qkX12_endsFunction 67 rfl) rfl <| qc_gR (qc_at qkX12_endsFunction 68 rfl) hn rfl (qfr_291_23 hR) rfl <| qc_iload (qc_at qkX12_endsFunction 69 rfl) rfl <| hx) ?_
    obtain ⟨g6, h⟩ := qc_gd_of h
    refine And.imp_right (fun hx => qc_iald 420 (qc_at qkX12_endsFunction 70 rfl) hn rfl (qc_inb_in g6) <| hx) ?_
    obtain ⟨r7, I7, L7, D7, R7, e7, h⟩ := qc_bd_of h
    have c7 := (tX12_isNumber hn hR e7)
    refine qd_cSv (qc_at qkX12_endsFunction 71 rfl) ql_12_333 qfX12_isNumber c7 rfl rfl (Nat.le_of_ble_eq_true rfl) (qc_rml (by decide) (by decide)) ⟨Nat.zero_le _, Nat.zero_le _⟩ ?_
    refine qc_andB (qc_ifB_eq (qc_at qkX12_endsFunction 72 rfl)) (fun u8 => ?_) (fun u8 => ?_)
    · replace h := qc_jf u8 h
      exact And.imp_right (fun hx => qc_sub [1, 2, 3, 4, 0] rfl hx) (tX12_endsFunction_b140 hn (c7.1.1 hR) h)
    · replace h := qc_jt u8 h
      refine And.imp_right (fun hx => qc_aload_n (qc_at qkX12_endsFunction 73 rfl) rfl <| qc_gR (qc_at qkX12_endsFunction 74 rfl) hn rfl (qfr_291_23 (c7.1.1 hR)) rfl <| qc_iload_n (qc_at qkX12_endsFunction 75 rfl) rfl <| hx) ?_
      obtain ⟨g9, h⟩ := qc_gd_of h
      refine And.imp_right (fun hx => qc_iald 420 (qc_at qkX12_endsFunction 76 rfl) hn rfl (qc_inb_in g9) <| hx) ?_
      obtain ⟨r10, I10, L10, D10, R10, e10, h⟩ := qc_bd_of h
      have c10 := (tX12_isNumber hn (c7.1.1 hR) e10)
      refine qd_cSv (qc_at qkX12_endsFunction 77 rfl) ql_12_333 qfX12_isNumber c10 rfl rfl (Nat.le_of_ble_eq_true rfl) (qc_rml (by decide) (by decide)) ⟨Nat.zero_le _, Nat.zero_le _⟩ ?_
      refine qc_andB (qc_ifB_eq (qc_at qkX12_endsFunction 78 rfl)) (fun u11 => ?_) (fun u11 => ?_)
      · replace h := qc_jf u11 h
        exact And.imp_right (fun hx => qc_sub [1, 2, 3, 4, 0] rfl hx) (tX12_endsFunction_b140 hn (c10.1.1 (c7.1.1 hR)) h)
      · replace h := qc_jt u11 h
        exact And.imp_right (fun hx => qc_iconst (qc_at qkX12_endsFunction 79 rfl) <| qc_goto (qc_at qkX12_endsFunction 80 rfl) <| qc_sub [1, 2, 3, 4, 0] rfl hx) (tX12_endsFunction_b141 hn (c10.1.1 (c7.1.1 hR)) h)
def fX12_endsFunction_b55 (w : qcW) (I : qTI) (L : qTL) (D : qTD) (R : qTR) (x1 : Int32) (x2 : Int32) (x3 : Int32) : qcO Bool :=
  (qc_bd (fX12_want w I L D R (41 : Int32)) fun r12 I12 L12 D12 R12 => qc_gd (qc_inb x1 40) <| if ((qc_u (qc_u I12 291 25 ((I12 291 25) - (1 : Int32))) 291 34 (((qc_u I12 291 25 ((I12 291 25) - (1 : Int32))) 291 34) - (1 : Int32))) 314 (Int32.toNatClampNeg x1)) = (-1 : Int32) then (fX12_endsFunction_b101 w (qc_u (qc_u I12 291 25 ((I12 291 25) - (1 : Int32))) 291 34 (((qc_u I12 291 25 ((I12 291 25) - (1 : Int32))) 291 34) - (1 : Int32))) L12 D12 R12 x1 x2 x3 x3) else (qc_gd (qc_inb x1 40) <| fX12_endsFunction_b101 w (qc_u (qc_u I12 291 25 ((I12 291 25) - (1 : Int32))) 291 34 (((qc_u I12 291 25 ((I12 291 25) - (1 : Int32))) 291 34) - (1 : Int32))) L12 D12 R12 x1 x2 x3 ((qc_u (qc_u I12 291 25 ((I12 291 25) - (1 : Int32))) 291 34 (((qc_u I12 291 25 ((I12 291 25) - (1 : Int32))) 291 34) - (1 : Int32))) 314 (Int32.toNatClampNeg x1))))
set_option maxRecDepth 100000 in
set_option maxHeartbeats 4000000 in
theorem tX12_endsFunction_b55 {w : qcW} {I : qTI} {L : qTL} {D : qTD} {R : qTR} {x1 : Int32} {x2 : Int32} {x3 : Int32} {r : Bool} {I' : qTI} {L' : qTL} {D' : qTD} {R' : qTR} (hn : qcNF ≤ w.1) (hR : qc_FR R) (h : fX12_endsFunction_b55 w I L D R x1 x2 x3 = some (r, I', L', D', R')) : qc_fm qcSM (I, L, D, R) (I', L', D', R') ∧ qc_X (qc_rm (5) 0 0) qmX12_endsFunction (qc_QM 0 0 (qc_eq (some (.int (qc_b r))) w (I', L', D', R'))) 0 0 w (55, [(0, .ref 291), (1, .int x1), (2, .int x2), (3, .int x3)], [], I, L, D, R) := by
  unfold fX12_endsFunction_b55 at h
  refine And.imp_right (fun hx => qc_aload_n (qc_at qkX12_endsFunction 35 rfl) rfl <| qc_bipush (qc_at qkX12_endsFunction 36 rfl) <| hx) ?_
  obtain ⟨r12, I12, L12, D12, R12, e12, h⟩ := qc_bd_of h
  have c12 := (tX12_want hn hR e12)
  refine qd_cVn (ci := 10) (a0 := 291) (qc_at qkX12_endsFunction 37 rfl) ql_12_438 qfX12_want (qc_kf hn rfl) rfl c12 rfl rfl (Nat.le_of_ble_eq_true rfl) (qc_rml (by decide) (by decide)) ⟨Nat.zero_le _, Nat.zero_le _⟩ ?_
  refine And.imp_right (fun hx => qc_aload_n (qc_at qkX12_endsFunction 38 rfl) rfl <| qc_dup (qc_at qkX12_endsFunction 39 rfl) rfl <| qc_gI (qc_at qkX12_endsFunction 40 rfl) hn rfl <| qc_iconst (qc_at qkX12_endsFunction 41 rfl) <| qc_isub (qc_at qkX12_endsFunction 42 rfl) <| hx) (qd_pI (qc_at qkX12_endsFunction 43 rfl) hn rfl rfl ?_)
  refine And.imp_right (fun hx => qc_aload_n (qc_at qkX12_endsFunction 44 rfl) rfl <| qc_dup (qc_at qkX12_endsFunction 45 rfl) rfl <| qc_gI (qc_at qkX12_endsFunction 46 rfl) hn rfl <| qc_iconst (qc_at qkX12_endsFunction 47 rfl) <| qc_isub (qc_at qkX12_endsFunction 48 rfl) <| hx) (qd_pI (qc_at qkX12_endsFunction 49 rfl) hn rfl rfl ?_)
  refine And.imp_right (fun hx => qc_aload_n (qc_at qkX12_endsFunction 50 rfl) rfl <| qc_gR (qc_at qkX12_endsFunction 51 rfl) hn rfl (qfr_291_39 (c12.1.1 hR)) rfl <| qc_iload_n (qc_at qkX12_endsFunction 52 rfl) rfl <| hx) ?_
  obtain ⟨g13, h⟩ := qc_gd_of h
  refine And.imp_right (fun hx => qc_iald 40 (qc_at qkX12_endsFunction 53 rfl) hn rfl (qc_inb_in g13) <| qc_iconst (qc_at qkX12_endsFunction 54 rfl) <| hx) ?_
  refine qc_andN (qc_icmp_ne (qc_at qkX12_endsFunction 55 rfl)) (fun u14 => ?_) (fun u14 => ?_)
  · replace h := qc_jn u14 h
    refine And.imp_right (fun hx => qc_aload_n (qc_at qkX12_endsFunction 58 rfl) rfl <| qc_gR (qc_at qkX12_endsFunction 59 rfl) hn rfl (qfr_291_39 (c12.1.1 hR)) rfl <| qc_iload_n (qc_at qkX12_endsFunction 60 rfl) rfl <| hx) ?_
    obtain ⟨g15, h⟩ := qc_gd_of h
    exact And.imp_right (fun hx => qc_iald 40 (qc_at qkX12_endsFunction 61 rfl) hn rfl (qc_inb_in g15) <| qc_sub [0, 1, 2, 3] rfl hx) (tX12_endsFunction_b101 hn (c12.1.1 hR) h)
  · replace h := qc_jp u14 h
    exact And.imp_right (fun hx => qc_iload_n (qc_at qkX12_endsFunction 56 rfl) rfl <| qc_goto (qc_at qkX12_endsFunction 57 rfl) <| qc_sub [0, 1, 2, 3] rfl hx) (tX12_endsFunction_b101 hn (c12.1.1 hR) h)
def fX12_endsFunction_b30 (w : qcW) (I : qTI) (L : qTL) (D : qTD) (R : qTR) (x1 : Int32) (x2 : Int32) (x3 : Int32) : qcO Bool :=
  (qc_gd (qc_inb x1 40) <| if (I 314 (Int32.toNatClampNeg x1)) = (-1 : Int32) then (qc_bd (fX12_want w I L D R (44 : Int32)) fun r18 I18 L18 D18 R18 => qc_gd (qc_inb x1 40) <| some (false, (qc_u I18 314 (Int32.toNatClampNeg x1) x3), L18, D18, R18)) else (fX12_endsFunction_b55 w I L D R x1 x2 x3))
set_option maxRecDepth 100000 in
set_option maxHeartbeats 4000000 in
theorem tX12_endsFunction_b30 {w : qcW} {I : qTI} {L : qTL} {D : qTD} {R : qTR} {x1 : Int32} {x2 : Int32} {x3 : Int32} {r : Bool} {I' : qTI} {L' : qTL} {D' : qTD} {R' : qTR} (hn : qcNF ≤ w.1) (hR : qc_FR R) (h : fX12_endsFunction_b30 w I L D R x1 x2 x3 = some (r, I', L', D', R')) : qc_fm qcSM (I, L, D, R) (I', L', D', R') ∧ qc_X (qc_rm (5) 0 0) qmX12_endsFunction (qc_QM 0 0 (qc_eq (some (.int (qc_b r))) w (I', L', D', R'))) 0 0 w (30, [(0, .ref 291), (1, .int x1), (2, .int x2), (3, .int x3)], [], I, L, D, R) := by
  unfold fX12_endsFunction_b30 at h
  refine And.imp_right (fun hx => qc_aload_n (qc_at qkX12_endsFunction 19 rfl) rfl <| qc_gR (qc_at qkX12_endsFunction 20 rfl) hn rfl (qfr_291_39 hR) rfl <| qc_iload_n (qc_at qkX12_endsFunction 21 rfl) rfl <| hx) ?_
  obtain ⟨g16, h⟩ := qc_gd_of h
  refine And.imp_right (fun hx => qc_iald 40 (qc_at qkX12_endsFunction 22 rfl) hn rfl (qc_inb_in g16) <| qc_iconst (qc_at qkX12_endsFunction 23 rfl) <| hx) ?_
  refine qc_andN (qc_icmp_ne (qc_at qkX12_endsFunction 24 rfl)) (fun u17 => ?_) (fun u17 => ?_)
  · replace h := qc_jn u17 h
    exact And.imp_right (fun hx => qc_sub [0, 1, 2, 3] rfl hx) (tX12_endsFunction_b55 hn hR h)
  · replace h := qc_jp u17 h
    refine And.imp_right (fun hx => qc_aload_n (qc_at qkX12_endsFunction 25 rfl) rfl <| qc_bipush (qc_at qkX12_endsFunction 26 rfl) <| hx) ?_
    obtain ⟨r18, I18, L18, D18, R18, e18, h⟩ := qc_bd_of h
    have c18 := (tX12_want hn hR e18)
    refine qd_cVn (ci := 10) (a0 := 291) (qc_at qkX12_endsFunction 27 rfl) ql_12_438 qfX12_want (qc_kf hn rfl) rfl c18 rfl rfl (Nat.le_of_ble_eq_true rfl) (qc_rml (by decide) (by decide)) ⟨Nat.zero_le _, Nat.zero_le _⟩ ?_
    refine And.imp_right (fun hx => qc_aload_n (qc_at qkX12_endsFunction 28 rfl) rfl <| qc_gR (qc_at qkX12_endsFunction 29 rfl) hn rfl (qfr_291_39 (c18.1.1 hR)) rfl <| qc_iload_n (qc_at qkX12_endsFunction 30 rfl) rfl <| qc_iload_n (qc_at qkX12_endsFunction 31 rfl) rfl <| hx) ?_
    obtain ⟨g19, h⟩ := qc_gd_of h
    refine qd_iast 40 (qc_at qkX12_endsFunction 32 rfl) hn rfl (qc_inb_in g19) rfl ?_
    obtain ⟨rfl, rfl, rfl, rfl, rfl⟩ := qc_some5 h
    exact ⟨qc_fm.rf _, qc_iconst (qc_at qkX12_endsFunction 33 rfl) <| qc_zret (qc_at qkX12_endsFunction 34 rfl) rfl (Or.inl rfl) (Nat.le_refl _) (Nat.le_refl _) ⟨rfl, rfl, rfl⟩⟩
def fX12_endsFunction (w : qcW) (I : qTI) (L : qTL) (D : qTD) (R : qTR) : qcO Bool :=
  (qc_gd (qc_inb ((I 291 34) - (1 : Int32)) 40) <| qc_bd (fX12_taken w I L D R) fun r21 I21 L21 D21 R21 => if (I 313 (Int32.toNatClampNeg ((I 291 34) - (1 : Int32)))) = (5 : Int32) then (fX12_endsFunction_b30 w I21 L21 D21 R21 ((I 291 34) - (1 : Int32)) (I 313 (Int32.toNatClampNeg ((I 291 34) - (1 : Int32)))) r21) else (if (I 313 (Int32.toNatClampNeg ((I 291 34) - (1 : Int32)))) = (6 : Int32) then (fX12_endsFunction_b30 w I21 L21 D21 R21 ((I 291 34) - (1 : Int32)) (I 313 (Int32.toNatClampNeg ((I 291 34) - (1 : Int32)))) r21) else (fX12_endsFunction_b55 w I21 L21 D21 R21 ((I 291 34) - (1 : Int32)) (I 313 (Int32.toNatClampNeg ((I 291 34) - (1 : Int32)))) r21)))
set_option maxRecDepth 100000 in
set_option maxHeartbeats 4000000 in
theorem tX12_endsFunction {w : qcW} {I : qTI} {L : qTL} {D : qTD} {R : qTR} {r : Bool} {I' : qTI} {L' : qTL} {D' : qTD} {R' : qTR} (hn : qcNF ≤ w.1) (hR : qc_FR R) (h : fX12_endsFunction w I L D R = some (r, I', L', D', R')) : qc_fm qcSM (I, L, D, R) (I', L', D', R') ∧ qc_V (5) 0 0 qmX12_endsFunction [.ref 291] w (I, L, D, R) (qc_eq (some (.int (qc_b r))) w (I', L', D', R')) := by
  unfold fX12_endsFunction at h
  refine And.imp_right (fun hx => qc_V.of rfl rfl (Nat.le_of_ble_eq_true rfl) (lv := [(0, .ref 291)]) rfl hx) ?_
  refine And.imp_right (fun hx => qc_aload_n (qc_at qkX12_endsFunction 0 rfl) rfl <| qc_gI (qc_at qkX12_endsFunction 1 rfl) hn rfl <| qc_iconst (qc_at qkX12_endsFunction 2 rfl) <| qc_isub (qc_at qkX12_endsFunction 3 rfl) <| qc_istore_n (lv' := [(1, _), (0, _)]) (qc_at qkX12_endsFunction 4 rfl) rfl rfl <| qc_aload_n (qc_at qkX12_endsFunction 5 rfl) rfl <| qc_gR (qc_at qkX12_endsFunction 6 rfl) hn rfl (qfr_291_38 hR) rfl <| qc_iload_n (qc_at qkX12_endsFunction 7 rfl) rfl <| hx) ?_
  obtain ⟨g20, h⟩ := qc_gd_of h
  refine And.imp_right (fun hx => qc_iald 40 (qc_at qkX12_endsFunction 8 rfl) hn rfl (qc_inb_in g20) <| qc_istore_n (lv' := [(2, _), (1, _), (0, _)]) (qc_at qkX12_endsFunction 9 rfl) rfl rfl <| qc_aload_n (qc_at qkX12_endsFunction 10 rfl) rfl <| hx) ?_
  obtain ⟨r21, I21, L21, D21, R21, e21, h⟩ := qc_bd_of h
  have c21 := (tX12_taken hn hR e21)
  refine qd_cVv (ci := 10) (a0 := 291) (qc_at qkX12_endsFunction 11 rfl) ql_12_330 qfX12_taken (qc_kf hn rfl) rfl c21 rfl rfl (Nat.le_of_ble_eq_true rfl) (qc_rml (by decide) (by decide)) ⟨Nat.zero_le _, Nat.zero_le _⟩ ?_
  refine And.imp_right (fun hx => qc_istore_n (lv' := [(3, _), (2, _), (1, _), (0, _)]) (qc_at qkX12_endsFunction 12 rfl) rfl rfl <| qc_iload_n (qc_at qkX12_endsFunction 13 rfl) rfl <| qc_iconst (qc_at qkX12_endsFunction 14 rfl) <| hx) ?_
  refine qc_andC (qc_icmp_eq (qc_at qkX12_endsFunction 15 rfl)) (fun u22 => ?_) (fun u22 => ?_)
  · replace h := qc_jp u22 h
    exact And.imp_right (fun hx => qc_sub [3, 2, 1, 0] rfl hx) (tX12_endsFunction_b30 hn (c21.1.1 hR) h)
  · replace h := qc_jn u22 h
    refine And.imp_right (fun hx => qc_iload_n (qc_at qkX12_endsFunction 16 rfl) rfl <| qc_bipush (qc_at qkX12_endsFunction 17 rfl) <| hx) ?_
    refine qc_andN (qc_icmp_ne (qc_at qkX12_endsFunction 18 rfl)) (fun u23 => ?_) (fun u23 => ?_)
    · replace h := qc_jn u23 h
      exact And.imp_right (fun hx => qc_sub [3, 2, 1, 0] rfl hx) (tX12_endsFunction_b55 hn (c21.1.1 hR) h)
    · replace h := qc_jp u23 h
      exact And.imp_right (fun hx => qc_sub [3, 2, 1, 0] rfl hx) (tX12_endsFunction_b30 hn (c21.1.1 hR) h)
def fX12_ends_b119 (w : qcW) (I : qTI) (L : qTL) (D : qTD) (R : qTR) (x1 : Int32) (x2 : Int32) (s0 : Int32) : qcO Int32 :=
  (qc_gd (qc_inb x1 40) <| qc_bd (fX12_needs4 w I L D R s0 (I 312 (Int32.toNatClampNeg x1))) fun r2 I2 L2 D2 R2 => qc_gd (qc_inb x1 40) <| qc_gd (qc_inb x1 40) <| qc_gd (qc_inb x1 40) <| qc_bd (fX12_kindOfLane w I2 L2 D2 R2 (I2 314 (Int32.toNatClampNeg x1))) fun r6 I6 L6 D6 R6 => qc_bd (fX12_node w I6 L6 D6 R6 (4 : Int32) x2 (I2 314 (Int32.toNatClampNeg x1)) (0 : Int32) (I2 313 (Int32.toNatClampNeg x1)) r6) fun r7 I7 L7 D7 R7 => qc_bd (fX12_lay w I7 L7 D7 R7 r7) fun r8 I8 L8 D8 R8 => some ((1 : Int32), I8, L8, D8, R8))
set_option maxRecDepth 100000 in
set_option maxHeartbeats 4000000 in
theorem tX12_ends_b119 {w : qcW} {I : qTI} {L : qTL} {D : qTD} {R : qTR} {x1 : Int32} {x2 : Int32} {s0 : Int32} {r : Int32} {I' : qTI} {L' : qTL} {D' : qTD} {R' : qTR} (hn : qcNF ≤ w.1) (hR : qc_FR R) (h : fX12_ends_b119 w I L D R x1 x2 s0 = some (r, I', L', D', R')) : qc_fm qcSM (I, L, D, R) (I', L', D', R') ∧ qc_X (qc_rm (6) 0 0) qmX12_ends (qc_QM 0 0 (qc_eq (some (.int r)) w (I', L', D', R'))) 0 0 w (119, [(0, .ref 291), (1, .int x1), (2, .int x2)], [.int s0, .ref 291], I, L, D, R) := by
  unfold fX12_ends_b119 at h
  refine And.imp_right (fun hx => qc_aload_n (qc_at qkX12_ends 55 rfl) rfl <| qc_gR (qc_at qkX12_ends 56 rfl) hn rfl (qfr_291_37 hR) rfl <| qc_iload_n (qc_at qkX12_ends 57 rfl) rfl <| hx) ?_
  obtain ⟨g1, h⟩ := qc_gd_of h
  refine And.imp_right (fun hx => qc_iald 40 (qc_at qkX12_ends 58 rfl) hn rfl (qc_inb_in g1) <| hx) ?_
  obtain ⟨r2, I2, L2, D2, R2, e2, h⟩ := qc_bd_of h
  have c2 := (tX12_needs4 hn hR e2)
  refine qd_cVn (ci := 10) (a0 := 291) (qc_at qkX12_ends 59 rfl) ql_12_339 qfX12_needs4 (qc_kf hn rfl) rfl c2 rfl rfl (Nat.le_of_ble_eq_true rfl) (qc_rml (by decide) (by decide)) ⟨Nat.zero_le _, Nat.zero_le _⟩ ?_
  refine And.imp_right (fun hx => qc_aload_n (qc_at qkX12_ends 60 rfl) rfl <| qc_aload_n (qc_at qkX12_ends 61 rfl) rfl <| qc_iconst (qc_at qkX12_ends 62 rfl) <| qc_iload_n (qc_at qkX12_ends 63 rfl) rfl <| qc_aload_n (qc_at qkX12_ends 64 rfl) rfl <| qc_gR (qc_at qkX12_ends 65 rfl) hn rfl (qfr_291_39 (c2.1.1 hR)) rfl <| qc_iload_n (qc_at qkX12_ends 66 rfl) rfl <| hx) ?_
  obtain ⟨g3, h⟩ := qc_gd_of h
  refine And.imp_right (fun hx => qc_iald 40 (qc_at qkX12_ends 67 rfl) hn rfl (qc_inb_in g3) <| qc_iconst (qc_at qkX12_ends 68 rfl) <| qc_aload_n (qc_at qkX12_ends 69 rfl) rfl <| qc_gR (qc_at qkX12_ends 70 rfl) hn rfl (qfr_291_38 (c2.1.1 hR)) rfl <| qc_iload_n (qc_at qkX12_ends 71 rfl) rfl <| hx) ?_
  obtain ⟨g4, h⟩ := qc_gd_of h
  refine And.imp_right (fun hx => qc_iald 40 (qc_at qkX12_ends 72 rfl) hn rfl (qc_inb_in g4) <| qc_aload_n (qc_at qkX12_ends 73 rfl) rfl <| qc_gR (qc_at qkX12_ends 74 rfl) hn rfl (qfr_291_39 (c2.1.1 hR)) rfl <| qc_iload_n (qc_at qkX12_ends 75 rfl) rfl <| hx) ?_
  obtain ⟨g5, h⟩ := qc_gd_of h
  refine And.imp_right (fun hx => qc_iald 40 (qc_at qkX12_ends 76 rfl) hn rfl (qc_inb_in g5) <| hx) ?_
  obtain ⟨r6, I6, L6, D6, R6, e6, h⟩ := qc_bd_of h
  have c6 := (tX12_kindOfLane hn (c2.1.1 hR) e6)
  refine qd_cSv (qc_at qkX12_ends 77 rfl) ql_12_426 qfX12_kindOfLane c6 rfl rfl (Nat.le_of_ble_eq_true rfl) (qc_rml (by decide) (by decide)) ⟨Nat.zero_le _, Nat.zero_le _⟩ ?_
  obtain ⟨r7, I7, L7, D7, R7, e7, h⟩ := qc_bd_of h
  have c7 := (tX12_node hn (c6.1.1 (c2.1.1 hR)) e7)
  refine qd_cVv (ci := 10) (a0 := 291) (qc_at qkX12_ends 78 rfl) ql_12_343 qfX12_node (qc_kf hn rfl) rfl c7 rfl rfl (Nat.le_of_ble_eq_true rfl) (qc_rml (by decide) (by decide)) ⟨Nat.zero_le _, Nat.zero_le _⟩ ?_
  obtain ⟨r8, I8, L8, D8, R8, e8, h⟩ := qc_bd_of h
  have c8 := (tX12_lay hn (c7.1.1 (c6.1.1 (c2.1.1 hR))) e8)
  refine qd_cVn (ci := 10) (a0 := 291) (qc_at qkX12_ends 79 rfl) ql_12_347 qfX12_lay (qc_kf hn rfl) rfl c8 rfl rfl (Nat.le_of_ble_eq_true rfl) (qc_rml (by decide) (by decide)) ⟨Nat.zero_le _, Nat.zero_le _⟩ ?_
  obtain ⟨rfl, rfl, rfl, rfl, rfl⟩ := qc_some5 h
  exact ⟨qc_fm.rf _, qc_iconst (qc_at qkX12_ends 80 rfl) <| qc_iret (qc_at qkX12_ends 81 rfl) rfl (Nat.le_refl _) (Nat.le_refl _) (qc_eq.rf _ _ _)⟩
def fX12_ends_b350 (w : qcW) (I : qTI) (L : qTL) (D : qTD) (R : qTR) (s0 : Int32) (s1 : Int32) (s2 : Int32) (s3 : Int32) (s4 : Int32) (s5 : Int32) : qcO Int32 :=
  (qc_bd (fX12_node w I L D R s5 s4 s3 s2 s1 s0) fun r9 I9 L9 D9 R9 => qc_bd (fX12_lay w I9 L9 D9 R9 r9) fun r10 I10 L10 D10 R10 => some ((2 : Int32), I10, L10, D10, R10))
set_option maxRecDepth 100000 in
set_option maxHeartbeats 4000000 in
theorem tX12_ends_b350 {w : qcW} {I : qTI} {L : qTL} {D : qTD} {R : qTR} {s0 : Int32} {s1 : Int32} {s2 : Int32} {s3 : Int32} {s4 : Int32} {s5 : Int32} {r : Int32} {I' : qTI} {L' : qTL} {D' : qTD} {R' : qTR} (hn : qcNF ≤ w.1) (hR : qc_FR R) (h : fX12_ends_b350 w I L D R s0 s1 s2 s3 s4 s5 = some (r, I', L', D', R')) : qc_fm qcSM (I, L, D, R) (I', L', D', R') ∧ qc_X (qc_rm (6) 0 0) qmX12_ends (qc_QM 0 0 (qc_eq (some (.int r)) w (I', L', D', R'))) 0 0 w (350, [], [.int s0, .int s1, .int s2, .int s3, .int s4, .int s5, .ref 291, .ref 291], I, L, D, R) := by
  unfold fX12_ends_b350 at h
  obtain ⟨r9, I9, L9, D9, R9, e9, h⟩ := qc_bd_of h
  have c9 := (tX12_node hn hR e9)
  refine qd_cVv (ci := 10) (a0 := 291) (qc_at qkX12_ends 193 rfl) ql_12_343 qfX12_node (qc_kf hn rfl) rfl c9 rfl rfl (Nat.le_of_ble_eq_true rfl) (qc_rml (by decide) (by decide)) ⟨Nat.zero_le _, Nat.zero_le _⟩ ?_
  obtain ⟨r10, I10, L10, D10, R10, e10, h⟩ := qc_bd_of h
  have c10 := (tX12_lay hn (c9.1.1 hR) e10)
  refine qd_cVn (ci := 10) (a0 := 291) (qc_at qkX12_ends 194 rfl) ql_12_347 qfX12_lay (qc_kf hn rfl) rfl c10 rfl rfl (Nat.le_of_ble_eq_true rfl) (qc_rml (by decide) (by decide)) ⟨Nat.zero_le _, Nat.zero_le _⟩ ?_
  obtain ⟨rfl, rfl, rfl, rfl, rfl⟩ := qc_some5 h
  exact ⟨qc_fm.rf _, qc_iconst (qc_at qkX12_ends 195 rfl) <| qc_iret (qc_at qkX12_ends 196 rfl) rfl (Nat.le_refl _) (Nat.le_refl _) (qc_eq.rf _ _ _)⟩
def fX12_ends_b304 (w : qcW) (I : qTI) (L : qTL) (D : qTD) (R : qTR) (x1 : Int32) (x2 : Int32) (x3 : Int32) (x4 : Int32) (s0 : Int32) : qcO Int32 :=
  (qc_gd (qc_inb x1 40) <| qc_bd (fX12_needs4 w I L D R s0 (I 312 (Int32.toNatClampNeg x1))) fun r12 I12 L12 D12 R12 => qc_gd (qc_inb x1 40) <| if x4 = 0 then (qc_gd (qc_inb x3 420) <| qc_gd (qc_inb x2 420) <| qc_bd (fX12_later w I12 L12 D12 R12 (I12 303 (Int32.toNatClampNeg x3)) (I12 303 (Int32.toNatClampNeg x2))) fun r17 I17 L17 D17 R17 => fX12_ends_b350 w I17 L17 D17 R17 r17 (0 : Int32) x2 x3 (I12 313 (Int32.toNatClampNeg x1)) (13 : Int32)) else (fX12_ends_b350 w I12 L12 D12 R12 (0 : Int32) (0 : Int32) x2 x3 (I12 313 (Int32.toNatClampNeg x1)) (13 : Int32)))
set_option maxRecDepth 100000 in
set_option maxHeartbeats 4000000 in
theorem tX12_ends_b304 {w : qcW} {I : qTI} {L : qTL} {D : qTD} {R : qTR} {x1 : Int32} {x2 : Int32} {x3 : Int32} {x4 : Int32} {s0 : Int32} {r : Int32} {I' : qTI} {L' : qTL} {D' : qTD} {R' : qTR} (hn : qcNF ≤ w.1) (hR : qc_FR R) (h : fX12_ends_b304 w I L D R x1 x2 x3 x4 s0 = some (r, I', L', D', R')) : qc_fm qcSM (I, L, D, R) (I', L', D', R') ∧ qc_X (qc_rm (6) 0 0) qmX12_ends (qc_QM 0 0 (qc_eq (some (.int r)) w (I', L', D', R'))) 0 0 w (304, [(0, .ref 291), (1, .int x1), (2, .int x2), (3, .int x3), (4, .int x4)], [.int s0, .ref 291], I, L, D, R) := by
  unfold fX12_ends_b304 at h
  refine And.imp_right (fun hx => qc_aload_n (qc_at qkX12_ends 165 rfl) rfl <| qc_gR (qc_at qkX12_ends 166 rfl) hn rfl (qfr_291_37 hR) rfl <| qc_iload_n (qc_at qkX12_ends 167 rfl) rfl <| hx) ?_
  obtain ⟨g11, h⟩ := qc_gd_of h
  refine And.imp_right (fun hx => qc_iald 40 (qc_at qkX12_ends 168 rfl) hn rfl (qc_inb_in g11) <| hx) ?_
  obtain ⟨r12, I12, L12, D12, R12, e12, h⟩ := qc_bd_of h
  have c12 := (tX12_needs4 hn hR e12)
  refine qd_cVn (ci := 10) (a0 := 291) (qc_at qkX12_ends 169 rfl) ql_12_339 qfX12_needs4 (qc_kf hn rfl) rfl c12 rfl rfl (Nat.le_of_ble_eq_true rfl) (qc_rml (by decide) (by decide)) ⟨Nat.zero_le _, Nat.zero_le _⟩ ?_
  refine And.imp_right (fun hx => qc_aload_n (qc_at qkX12_ends 170 rfl) rfl <| qc_aload_n (qc_at qkX12_ends 171 rfl) rfl <| qc_bipush (qc_at qkX12_ends 172 rfl) <| qc_aload_n (qc_at qkX12_ends 173 rfl) rfl <| qc_gR (qc_at qkX12_ends 174 rfl) hn rfl (qfr_291_38 (c12.1.1 hR)) rfl <| qc_iload_n (qc_at qkX12_ends 175 rfl) rfl <| hx) ?_
  obtain ⟨g13, h⟩ := qc_gd_of h
  refine And.imp_right (fun hx => qc_iald 40 (qc_at qkX12_ends 176 rfl) hn rfl (qc_inb_in g13) <| qc_iload_n (qc_at qkX12_ends 177 rfl) rfl <| qc_iload_n (qc_at qkX12_ends 178 rfl) rfl <| qc_iconst (qc_at qkX12_ends 179 rfl) <| qc_iload (qc_at qkX12_ends 180 rfl) rfl <| hx) ?_
  refine qc_andC (qc_if_eq (qc_at qkX12_ends 181 rfl)) (fun u14 => ?_) (fun u14 => ?_)
  · replace h := qc_jp u14 h
    refine And.imp_right (fun hx => qc_aload_n (qc_at qkX12_ends 184 rfl) rfl <| qc_gR (qc_at qkX12_ends 185 rfl) hn rfl (qfr_291_23 (c12.1.1 hR)) rfl <| qc_iload_n (qc_at qkX12_ends 186 rfl) rfl <| hx) ?_
    obtain ⟨g15, h⟩ := qc_gd_of h
    refine And.imp_right (fun hx => qc_iald 420 (qc_at qkX12_ends 187 rfl) hn rfl (qc_inb_in g15) <| qc_aload_n (qc_at qkX12_ends 188 rfl) rfl <| qc_gR (qc_at qkX12_ends 189 rfl) hn rfl (qfr_291_23 (c12.1.1 hR)) rfl <| qc_iload_n (qc_at qkX12_ends 190 rfl) rfl <| hx) ?_
    obtain ⟨g16, h⟩ := qc_gd_of h
    refine And.imp_right (fun hx => qc_iald 420 (qc_at qkX12_ends 191 rfl) hn rfl (qc_inb_in g16) <| hx) ?_
    obtain ⟨r17, I17, L17, D17, R17, e17, h⟩ := qc_bd_of h
    have c17 := (tX12_later hn (c12.1.1 hR) e17)
    refine qd_cSv (qc_at qkX12_ends 192 rfl) ql_12_350 qfX12_later c17 rfl rfl (Nat.le_of_ble_eq_true rfl) (qc_rml (by decide) (by decide)) ⟨Nat.zero_le _, Nat.zero_le _⟩ ?_
    exact And.imp_right (fun hx => qc_sub [] rfl hx) (tX12_ends_b350 hn (c17.1.1 (c12.1.1 hR)) h)
  · replace h := qc_jn u14 h
    exact And.imp_right (fun hx => qc_iconst (qc_at qkX12_ends 182 rfl) <| qc_goto (qc_at qkX12_ends 183 rfl) <| qc_sub [] rfl hx) (tX12_ends_b350 hn (c12.1.1 hR) h)
def fX12_ends_b299 (w : qcW) (I : qTI) (L : qTL) (D : qTD) (R : qTR) (x1 : Int32) (x2 : Int32) (x3 : Int32) (x4 : Int32) : qcO Int32 :=
  (fX12_ends_b304 w I L D R x1 x2 x3 x4 (1 : Int32))
set_option maxRecDepth 100000 in
set_option maxHeartbeats 4000000 in
theorem tX12_ends_b299 {w : qcW} {I : qTI} {L : qTL} {D : qTD} {R : qTR} {x1 : Int32} {x2 : Int32} {x3 : Int32} {x4 : Int32} {r : Int32} {I' : qTI} {L' : qTL} {D' : qTD} {R' : qTR} (hn : qcNF ≤ w.1) (hR : qc_FR R) (h : fX12_ends_b299 w I L D R x1 x2 x3 x4 = some (r, I', L', D', R')) : qc_fm qcSM (I, L, D, R) (I', L', D', R') ∧ qc_X (qc_rm (6) 0 0) qmX12_ends (qc_QM 0 0 (qc_eq (some (.int r)) w (I', L', D', R'))) 0 0 w (299, [(0, .ref 291), (1, .int x1), (2, .int x2), (3, .int x3), (4, .int x4)], [.ref 291], I, L, D, R) := by
  unfold fX12_ends_b299 at h
  exact And.imp_right (fun hx => qc_iconst (qc_at qkX12_ends 162 rfl) <| qc_goto (qc_at qkX12_ends 163 rfl) <| qc_sub [0, 1, 2, 3, 4] rfl hx) (tX12_ends_b304 hn hR h)
def fX12_ends_b303 (w : qcW) (I : qTI) (L : qTL) (D : qTD) (R : qTR) (x1 : Int32) (x2 : Int32) (x3 : Int32) (x4 : Int32) : qcO Int32 :=
  (fX12_ends_b304 w I L D R x1 x2 x3 x4 (0 : Int32))
set_option maxRecDepth 100000 in
set_option maxHeartbeats 4000000 in
theorem tX12_ends_b303 {w : qcW} {I : qTI} {L : qTL} {D : qTD} {R : qTR} {x1 : Int32} {x2 : Int32} {x3 : Int32} {x4 : Int32} {r : Int32} {I' : qTI} {L' : qTL} {D' : qTD} {R' : qTR} (hn : qcNF ≤ w.1) (hR : qc_FR R) (h : fX12_ends_b303 w I L D R x1 x2 x3 x4 = some (r, I', L', D', R')) : qc_fm qcSM (I, L, D, R) (I', L', D', R') ∧ qc_X (qc_rm (6) 0 0) qmX12_ends (qc_QM 0 0 (qc_eq (some (.int r)) w (I', L', D', R'))) 0 0 w (303, [(0, .ref 291), (1, .int x1), (2, .int x2), (3, .int x3), (4, .int x4)], [.ref 291], I, L, D, R) := by
  unfold fX12_ends_b303 at h
  exact And.imp_right (fun hx => qc_iconst (qc_at qkX12_ends 164 rfl) <| qc_sub [0, 1, 2, 3, 4] rfl hx) (tX12_ends_b304 hn hR h)
def fX12_ends_b267 (w : qcW) (I : qTI) (L : qTL) (D : qTD) (R : qTR) (x1 : Int32) (x2 : Int32) (x3 : Int32) (s0 : Int32) : qcO Int32 :=
  (if s0 = 0 then (qc_gd (qc_inb x3 420) <| qc_bd (fX12_isNumber w I L D R (I 303 (Int32.toNatClampNeg x3))) fun r20 I20 L20 D20 R20 => if r20 = true then (qc_gd (qc_inb x2 420) <| qc_bd (fX12_isNumber w I20 L20 D20 R20 (I20 303 (Int32.toNatClampNeg x2))) fun r23 I23 L23 D23 R23 => if r23 = true then (fX12_ends_b299 w I23 L23 D23 R23 x1 x2 x3 s0) else (fX12_ends_b303 w I23 L23 D23 R23 x1 x2 x3 s0)) else (fX12_ends_b303 w I20 L20 D20 R20 x1 x2 x3 s0)) else (fX12_ends_b299 w I L D R x1 x2 x3 s0))
set_option maxRecDepth 100000 in
set_option maxHeartbeats 4000000 in
theorem tX12_ends_b267 {w : qcW} {I : qTI} {L : qTL} {D : qTD} {R : qTR} {x1 : Int32} {x2 : Int32} {x3 : Int32} {s0 : Int32} {r : Int32} {I' : qTI} {L' : qTL} {D' : qTD} {R' : qTR} (hn : qcNF ≤ w.1) (hR : qc_FR R) (h : fX12_ends_b267 w I L D R x1 x2 x3 s0 = some (r, I', L', D', R')) : qc_fm qcSM (I, L, D, R) (I', L', D', R') ∧ qc_X (qc_rm (6) 0 0) qmX12_ends (qc_QM 0 0 (qc_eq (some (.int r)) w (I', L', D', R'))) 0 0 w (267, [(0, .ref 291), (1, .int x1), (2, .int x2), (3, .int x3)], [.int s0], I, L, D, R) := by
  unfold fX12_ends_b267 at h
  refine And.imp_right (fun hx => qc_istore (lv' := [(4, _), (0, _), (1, _), (2, _), (3, _)]) (qc_at qkX12_ends 146 rfl) rfl rfl <| qc_aload_n (qc_at qkX12_ends 147 rfl) rfl <| qc_iload (qc_at qkX12_ends 148 rfl) rfl <| hx) ?_
  refine qc_andN (qc_if_ne (qc_at qkX12_ends 149 rfl)) (fun u18 => ?_) (fun u18 => ?_)
  · replace h := qc_jn u18 h
    exact And.imp_right (fun hx => qc_sub [1, 2, 3, 4, 0] rfl hx) (tX12_ends_b299 hn hR h)
  · replace h := qc_jp u18 h
    refine And.imp_right (fun hx => qc_aload_n (qc_at qkX12_ends 150 rfl) rfl <| qc_gR (qc_at qkX12_ends 151 rfl) hn rfl (qfr_291_23 hR) rfl <| qc_iload_n (qc_at qkX12_ends 152 rfl) rfl <| hx) ?_
    obtain ⟨g19, h⟩ := qc_gd_of h
    refine And.imp_right (fun hx => qc_iald 420 (qc_at qkX12_ends 153 rfl) hn rfl (qc_inb_in g19) <| hx) ?_
    obtain ⟨r20, I20, L20, D20, R20, e20, h⟩ := qc_bd_of h
    have c20 := (tX12_isNumber hn hR e20)
    refine qd_cSv (qc_at qkX12_ends 154 rfl) ql_12_333 qfX12_isNumber c20 rfl rfl (Nat.le_of_ble_eq_true rfl) (qc_rml (by decide) (by decide)) ⟨Nat.zero_le _, Nat.zero_le _⟩ ?_
    refine qc_andB (qc_ifB_eq (qc_at qkX12_ends 155 rfl)) (fun u21 => ?_) (fun u21 => ?_)
    · replace h := qc_jf u21 h
      exact And.imp_right (fun hx => qc_sub [1, 2, 3, 4, 0] rfl hx) (tX12_ends_b303 hn (c20.1.1 hR) h)
    · replace h := qc_jt u21 h
      refine And.imp_right (fun hx => qc_aload_n (qc_at qkX12_ends 156 rfl) rfl <| qc_gR (qc_at qkX12_ends 157 rfl) hn rfl (qfr_291_23 (c20.1.1 hR)) rfl <| qc_iload_n (qc_at qkX12_ends 158 rfl) rfl <| hx) ?_
      obtain ⟨g22, h⟩ := qc_gd_of h
      refine And.imp_right (fun hx => qc_iald 420 (qc_at qkX12_ends 159 rfl) hn rfl (qc_inb_in g22) <| hx) ?_
      obtain ⟨r23, I23, L23, D23, R23, e23, h⟩ := qc_bd_of h
      have c23 := (tX12_isNumber hn (c20.1.1 hR) e23)
      refine qd_cSv (qc_at qkX12_ends 160 rfl) ql_12_333 qfX12_isNumber c23 rfl rfl (Nat.le_of_ble_eq_true rfl) (qc_rml (by decide) (by decide)) ⟨Nat.zero_le _, Nat.zero_le _⟩ ?_
      refine qc_andB (qc_ifB_eq (qc_at qkX12_ends 161 rfl)) (fun u24 => ?_) (fun u24 => ?_)
      · replace h := qc_jf u24 h
        exact And.imp_right (fun hx => qc_sub [1, 2, 3, 4, 0] rfl hx) (tX12_ends_b303 hn (c23.1.1 (c20.1.1 hR)) h)
      · replace h := qc_jt u24 h
        exact And.imp_right (fun hx => qc_sub [1, 2, 3, 4, 0] rfl hx) (tX12_ends_b299 hn (c23.1.1 (c20.1.1 hR)) h)
def fX12_ends_b266 (w : qcW) (I : qTI) (L : qTL) (D : qTD) (R : qTR) (x1 : Int32) (x2 : Int32) (x3 : Int32) : qcO Int32 :=
  (fX12_ends_b267 w I L D R x1 x2 x3 (0 : Int32))
set_option maxRecDepth 100000 in
set_option maxHeartbeats 4000000 in
theorem tX12_ends_b266 {w : qcW} {I : qTI} {L : qTL} {D : qTD} {R : qTR} {x1 : Int32} {x2 : Int32} {x3 : Int32} {r : Int32} {I' : qTI} {L' : qTL} {D' : qTD} {R' : qTR} (hn : qcNF ≤ w.1) (hR : qc_FR R) (h : fX12_ends_b266 w I L D R x1 x2 x3 = some (r, I', L', D', R')) : qc_fm qcSM (I, L, D, R) (I', L', D', R') ∧ qc_X (qc_rm (6) 0 0) qmX12_ends (qc_QM 0 0 (qc_eq (some (.int r)) w (I', L', D', R'))) 0 0 w (266, [(0, .ref 291), (1, .int x1), (2, .int x2), (3, .int x3)], [], I, L, D, R) := by
  unfold fX12_ends_b266 at h
  exact And.imp_right (fun hx => qc_iconst (qc_at qkX12_ends 145 rfl) <| qc_sub [0, 1, 2, 3] rfl hx) (tX12_ends_b267 hn hR h)
def fX12_ends (w : qcW) (I : qTI) (L : qTL) (D : qTD) (R : qTR) : qcO Int32 :=
  (qc_gd (qc_inb ((I 291 34) - (1 : Int32)) 40) <| if (I 310 (Int32.toNatClampNeg ((I 291 34) - (1 : Int32)))) = 1 then (qc_bd (fX12_want w I L D R (41 : Int32)) fun r27 I27 L27 D27 R27 => some ((1 : Int32), (qc_u (qc_u I27 291 25 ((I27 291 25) - (1 : Int32))) 291 34 (((qc_u I27 291 25 ((I27 291 25) - (1 : Int32))) 291 34) - (1 : Int32))), L27, D27, R27)) else if (I 310 (Int32.toNatClampNeg ((I 291 34) - (1 : Int32)))) = 2 then (qc_bd (fX12_taken w I L D R) fun r29 I29 L29 D29 R29 => qc_bd (fX12_want w I29 L29 D29 R29 (93 : Int32)) fun r30 I30 L30 D30 R30 => qc_gd (qc_inb r29 420) <| if ((qc_u (qc_u I30 291 25 ((I30 291 25) - (1 : Int32))) 291 34 (((qc_u I30 291 25 ((I30 291 25) - (1 : Int32))) 291 34) - (1 : Int32))) 303 (Int32.toNatClampNeg r29)) = (1 : Int32) then (fX12_ends_b119 w (qc_u (qc_u I30 291 25 ((I30 291 25) - (1 : Int32))) 291 34 (((qc_u I30 291 25 ((I30 291 25) - (1 : Int32))) 291 34) - (1 : Int32))) L30 D30 R30 ((I 291 34) - (1 : Int32)) r29 (1 : Int32)) else (fX12_ends_b119 w (qc_u (qc_u I30 291 25 ((I30 291 25) - (1 : Int32))) 291 34 (((qc_u I30 291 25 ((I30 291 25) - (1 : Int32))) 291 34) - (1 : Int32))) L30 D30 R30 ((I 291 34) - (1 : Int32)) r29 (0 : Int32))) else if (I 310 (Int32.toNatClampNeg ((I 291 34) - (1 : Int32)))) = 3 then (qc_bd (fX12_endsFunction w I L D R) fun r34 I34 L34 D34 R34 => if r34 = true then (some ((1 : Int32), I34, L34, D34, R34)) else (some ((0 : Int32), I34, L34, D34, R34))) else if (I 310 (Int32.toNatClampNeg ((I 291 34) - (1 : Int32)))) = 4 then (qc_bd (fX12_want w I L D R (58 : Int32)) fun r37 I37 L37 D37 R37 => qc_gd (qc_inb ((I 291 34) - (1 : Int32)) 40) <| qc_gd (qc_inb ((I 291 34) - (1 : Int32)) 40) <| qc_bd (fX12_taken w (qc_u (qc_u I37 310 (Int32.toNatClampNeg ((I 291 34) - (1 : Int32))) (5 : Int32)) 312 (Int32.toNatClampNeg ((I 291 34) - (1 : Int32))) (I 291 10)) L37 D37 R37) fun r40 I40 L40 D40 R40 => qc_gd (qc_inb ((I 291 34) - (1 : Int32)) 40) <| some ((0 : Int32), (qc_u I40 314 (Int32.toNatClampNeg ((I 291 34) - (1 : Int32))) r40), L40, D40, R40)) else (qc_bd (fX12_taken w I L D R) fun r42 I42 L42 D42 R42 => qc_gd (qc_inb ((I 291 34) - (1 : Int32)) 40) <| qc_gd (qc_inb (I42 314 (Int32.toNatClampNeg ((I 291 34) - (1 : Int32)))) 420) <| if ((qc_u (qc_u I42 291 25 ((I42 291 25) - (1 : Int32))) 291 34 (((qc_u I42 291 25 ((I42 291 25) - (1 : Int32))) 291 34) - (1 : Int32))) 303 (Int32.toNatClampNeg (I42 314 (Int32.toNatClampNeg ((I 291 34) - (1 : Int32)))))) = 0 then (qc_gd (qc_inb r42 420) <| if ((qc_u (qc_u I42 291 25 ((I42 291 25) - (1 : Int32))) 291 34 (((qc_u I42 291 25 ((I42 291 25) - (1 : Int32))) 291 34) - (1 : Int32))) 303 (Int32.toNatClampNeg r42)) = 0 then (fX12_ends_b267 w (qc_u (qc_u I42 291 25 ((I42 291 25) - (1 : Int32))) 291 34 (((qc_u I42 291 25 ((I42 291 25) - (1 : Int32))) 291 34) - (1 : Int32))) L42 D42 R42 ((I 291 34) - (1 : Int32)) r42 (I42 314 (Int32.toNatClampNeg ((I 291 34) - (1 : Int32)))) (1 : Int32)) else (fX12_ends_b266 w (qc_u (qc_u I42 291 25 ((I42 291 25) - (1 : Int32))) 291 34 (((qc_u I42 291 25 ((I42 291 25) - (1 : Int32))) 291 34) - (1 : Int32))) L42 D42 R42 ((I 291 34) - (1 : Int32)) r42 (I42 314 (Int32.toNatClampNeg ((I 291 34) - (1 : Int32)))))) else (fX12_ends_b266 w (qc_u (qc_u I42 291 25 ((I42 291 25) - (1 : Int32))) 291 34 (((qc_u I42 291 25 ((I42 291 25) - (1 : Int32))) 291 34) - (1 : Int32))) L42 D42 R42 ((I 291 34) - (1 : Int32)) r42 (I42 314 (Int32.toNatClampNeg ((I 291 34) - (1 : Int32)))))))
set_option maxRecDepth 100000 in
set_option maxHeartbeats 4000000 in
theorem tX12_ends {w : qcW} {I : qTI} {L : qTL} {D : qTD} {R : qTR} {r : Int32} {I' : qTI} {L' : qTL} {D' : qTD} {R' : qTR} (hn : qcNF ≤ w.1) (hR : qc_FR R) (h : fX12_ends w I L D R = some (r, I', L', D', R')) : qc_fm qcSM (I, L, D, R) (I', L', D', R') ∧ qc_V (6) 0 0 qmX12_ends [.ref 291] w (I, L, D, R) (qc_eq (some (.int r)) w (I', L', D', R')) := by
  unfold fX12_ends at h
  refine And.imp_right (fun hx => qc_V.of rfl rfl (Nat.le_of_ble_eq_true rfl) (lv := [(0, .ref 291)]) rfl hx) ?_
  refine And.imp_right (fun hx => qc_aload_n (qc_at qkX12_ends 0 rfl) rfl <| qc_gI (qc_at qkX12_ends 1 rfl) hn rfl <| qc_iconst (qc_at qkX12_ends 2 rfl) <| qc_isub (qc_at qkX12_ends 3 rfl) <| qc_istore_n (lv' := [(1, _), (0, _)]) (qc_at qkX12_ends 4 rfl) rfl rfl <| qc_aload_n (qc_at qkX12_ends 5 rfl) rfl <| qc_gR (qc_at qkX12_ends 6 rfl) hn rfl (qfr_291_35 hR) rfl <| qc_iload_n (qc_at qkX12_ends 7 rfl) rfl <| hx) ?_
  obtain ⟨g25, h⟩ := qc_gd_of h
  refine And.imp_right (fun hx => qc_iald 40 (qc_at qkX12_ends 8 rfl) hn rfl (qc_inb_in g25) <| hx) ?_
  refine qc_by (c := (I 310 (Int32.toNatClampNeg ((I 291 34) - (1 : Int32)))) = 1) (fun u26 => ?_) (fun u26 => ?_)
  · refine And.imp_right (fun hx => qc_tabIn (qc_at qkX12_ends 9 rfl) 0 (by rw [u26]; rfl) (by decide) rfl rfl hx) ?_
    replace h := qc_jp u26 h
    refine And.imp_right (fun hx => qc_aload_n (qc_at qkX12_ends 10 rfl) rfl <| qc_bipush (qc_at qkX12_ends 11 rfl) <| hx) ?_
    obtain ⟨r27, I27, L27, D27, R27, e27, h⟩ := qc_bd_of h
    have c27 := (tX12_want hn hR e27)
    refine qd_cVn (ci := 10) (a0 := 291) (qc_at qkX12_ends 12 rfl) ql_12_438 qfX12_want (qc_kf hn rfl) rfl c27 rfl rfl (Nat.le_of_ble_eq_true rfl) (qc_rml (by decide) (by decide)) ⟨Nat.zero_le _, Nat.zero_le _⟩ ?_
    refine And.imp_right (fun hx => qc_aload_n (qc_at qkX12_ends 13 rfl) rfl <| qc_dup (qc_at qkX12_ends 14 rfl) rfl <| qc_gI (qc_at qkX12_ends 15 rfl) hn rfl <| qc_iconst (qc_at qkX12_ends 16 rfl) <| qc_isub (qc_at qkX12_ends 17 rfl) <| hx) (qd_pI (qc_at qkX12_ends 18 rfl) hn rfl rfl ?_)
    refine And.imp_right (fun hx => qc_aload_n (qc_at qkX12_ends 19 rfl) rfl <| qc_dup (qc_at qkX12_ends 20 rfl) rfl <| qc_gI (qc_at qkX12_ends 21 rfl) hn rfl <| qc_iconst (qc_at qkX12_ends 22 rfl) <| qc_isub (qc_at qkX12_ends 23 rfl) <| hx) (qd_pI (qc_at qkX12_ends 24 rfl) hn rfl rfl ?_)
    obtain ⟨rfl, rfl, rfl, rfl, rfl⟩ := qc_some5 h
    exact ⟨qc_fm.rf _, qc_iconst (qc_at qkX12_ends 25 rfl) <| qc_iret (qc_at qkX12_ends 26 rfl) rfl (Nat.le_refl _) (Nat.le_refl _) (qc_eq.rf _ _ _)⟩
  · replace h := qc_jn u26 h
    refine qc_by (c := (I 310 (Int32.toNatClampNeg ((I 291 34) - (1 : Int32)))) = 2) (fun u28 => ?_) (fun u28 => ?_)
    · refine And.imp_right (fun hx => qc_tabIn (qc_at qkX12_ends 9 rfl) 1 (by rw [u28]; rfl) (by decide) rfl rfl hx) ?_
      replace h := qc_jp u28 h
      refine And.imp_right (fun hx => qc_aload_n (qc_at qkX12_ends 27 rfl) rfl <| hx) ?_
      obtain ⟨r29, I29, L29, D29, R29, e29, h⟩ := qc_bd_of h
      have c29 := (tX12_taken hn hR e29)
      refine qd_cVv (ci := 10) (a0 := 291) (qc_at qkX12_ends 28 rfl) ql_12_330 qfX12_taken (qc_kf hn rfl) rfl c29 rfl rfl (Nat.le_of_ble_eq_true rfl) (qc_rml (by decide) (by decide)) ⟨Nat.zero_le _, Nat.zero_le _⟩ ?_
      refine And.imp_right (fun hx => qc_istore_n (lv' := [(2, _), (1, _), (0, _)]) (qc_at qkX12_ends 29 rfl) rfl rfl <| qc_aload_n (qc_at qkX12_ends 30 rfl) rfl <| qc_bipush (qc_at qkX12_ends 31 rfl) <| hx) ?_
      obtain ⟨r30, I30, L30, D30, R30, e30, h⟩ := qc_bd_of h
      have c30 := (tX12_want hn (c29.1.1 hR) e30)
      refine qd_cVn (ci := 10) (a0 := 291) (qc_at qkX12_ends 32 rfl) ql_12_438 qfX12_want (qc_kf hn rfl) rfl c30 rfl rfl (Nat.le_of_ble_eq_true rfl) (qc_rml (by decide) (by decide)) ⟨Nat.zero_le _, Nat.zero_le _⟩ ?_
      refine And.imp_right (fun hx => qc_aload_n (qc_at qkX12_ends 33 rfl) rfl <| qc_dup (qc_at qkX12_ends 34 rfl) rfl <| qc_gI (qc_at qkX12_ends 35 rfl) hn rfl <| qc_iconst (qc_at qkX12_ends 36 rfl) <| qc_isub (qc_at qkX12_ends 37 rfl) <| hx) (qd_pI (qc_at qkX12_ends 38 rfl) hn rfl rfl ?_)
      refine And.imp_right (fun hx => qc_aload_n (qc_at qkX12_ends 39 rfl) rfl <| qc_dup (qc_at qkX12_ends 40 rfl) rfl <| qc_gI (qc_at qkX12_ends 41 rfl) hn rfl <| qc_iconst (qc_at qkX12_ends 42 rfl) <| qc_isub (qc_at qkX12_ends 43 rfl) <| hx) (qd_pI (qc_at qkX12_ends 44 rfl) hn rfl rfl ?_)
      refine And.imp_right (fun hx => qc_aload_n (qc_at qkX12_ends 45 rfl) rfl <| qc_aload_n (qc_at qkX12_ends 46 rfl) rfl <| qc_gR (qc_at qkX12_ends 47 rfl) hn rfl (qfr_291_23 (c30.1.1 (c29.1.1 hR))) rfl <| qc_iload_n (qc_at qkX12_ends 48 rfl) rfl <| hx) ?_
      obtain ⟨g31, h⟩ := qc_gd_of h
      refine And.imp_right (fun hx => qc_iald 420 (qc_at qkX12_ends 49 rfl) hn rfl (qc_inb_in g31) <| qc_iconst (qc_at qkX12_ends 50 rfl) <| hx) ?_
      refine qc_andN (qc_icmp_ne (qc_at qkX12_ends 51 rfl)) (fun u32 => ?_) (fun u32 => ?_)
      · replace h := qc_jn u32 h
        exact And.imp_right (fun hx => qc_iconst (qc_at qkX12_ends 54 rfl) <| qc_sub [2, 1, 0] rfl hx) (tX12_ends_b119 hn (c30.1.1 (c29.1.1 hR)) h)
      · replace h := qc_jp u32 h
        exact And.imp_right (fun hx => qc_iconst (qc_at qkX12_ends 52 rfl) <| qc_goto (qc_at qkX12_ends 53 rfl) <| qc_sub [2, 1, 0] rfl hx) (tX12_ends_b119 hn (c30.1.1 (c29.1.1 hR)) h)
    · replace h := qc_jn u28 h
      refine qc_by (c := (I 310 (Int32.toNatClampNeg ((I 291 34) - (1 : Int32)))) = 3) (fun u33 => ?_) (fun u33 => ?_)
      · refine And.imp_right (fun hx => qc_tabIn (qc_at qkX12_ends 9 rfl) 2 (by rw [u33]; rfl) (by decide) rfl rfl hx) ?_
        replace h := qc_jp u33 h
        refine And.imp_right (fun hx => qc_aload_n (qc_at qkX12_ends 82 rfl) rfl <| hx) ?_
        obtain ⟨r34, I34, L34, D34, R34, e34, h⟩ := qc_bd_of h
        have c34 := (tX12_endsFunction hn hR e34)
        refine qd_cVv (ci := 10) (a0 := 291) (qc_at qkX12_ends 83 rfl) ql_12_445 qfX12_endsFunction (qc_kf hn rfl) rfl c34 rfl rfl (Nat.le_of_ble_eq_true rfl) (qc_rml (by decide) (by decide)) ⟨Nat.zero_le _, Nat.zero_le _⟩ ?_
        refine qc_andB (qc_ifB_eq (qc_at qkX12_ends 84 rfl)) (fun u35 => ?_) (fun u35 => ?_)
        · replace h := qc_jf u35 h
          obtain ⟨rfl, rfl, rfl, rfl, rfl⟩ := qc_some5 h
          exact ⟨qc_fm.rf _, qc_iconst (qc_at qkX12_ends 87 rfl) <| qc_iret (qc_at qkX12_ends 88 rfl) rfl (Nat.le_refl _) (Nat.le_refl _) (qc_eq.rf _ _ _)⟩
        · replace h := qc_jt u35 h
          obtain ⟨rfl, rfl, rfl, rfl, rfl⟩ := qc_some5 h
          exact ⟨qc_fm.rf _, qc_iconst (qc_at qkX12_ends 85 rfl) <| qc_goto (qc_at qkX12_ends 86 rfl) <| qc_iret (qc_at qkX12_ends 88 rfl) rfl (Nat.le_refl _) (Nat.le_refl _) (qc_eq.rf _ _ _)⟩
      · replace h := qc_jn u33 h
        refine qc_by (c := (I 310 (Int32.toNatClampNeg ((I 291 34) - (1 : Int32)))) = 4) (fun u36 => ?_) (fun u36 => ?_)
        · refine And.imp_right (fun hx => qc_tabIn (qc_at qkX12_ends 9 rfl) 3 (by rw [u36]; rfl) (by decide) rfl rfl hx) ?_
          replace h := qc_jp u36 h
          refine And.imp_right (fun hx => qc_aload_n (qc_at qkX12_ends 89 rfl) rfl <| qc_gI (qc_at qkX12_ends 90 rfl) hn rfl <| qc_istore_n (lv' := [(2, _), (1, _), (0, _)]) (qc_at qkX12_ends 91 rfl) rfl rfl <| qc_aload_n (qc_at qkX12_ends 92 rfl) rfl <| qc_bipush (qc_at qkX12_ends 93 rfl) <| hx) ?_
          obtain ⟨r37, I37, L37, D37, R37, e37, h⟩ := qc_bd_of h
          have c37 := (tX12_want hn hR e37)
          refine qd_cVn (ci := 10) (a0 := 291) (qc_at qkX12_ends 94 rfl) ql_12_438 qfX12_want (qc_kf hn rfl) rfl c37 rfl rfl (Nat.le_of_ble_eq_true rfl) (qc_rml (by decide) (by decide)) ⟨Nat.zero_le _, Nat.zero_le _⟩ ?_
          refine And.imp_right (fun hx => qc_aload_n (qc_at qkX12_ends 95 rfl) rfl <| qc_gR (qc_at qkX12_ends 96 rfl) hn rfl (qfr_291_35 (c37.1.1 hR)) rfl <| qc_iload_n (qc_at qkX12_ends 97 rfl) rfl <| qc_iconst (qc_at qkX12_ends 98 rfl) <| hx) ?_
          obtain ⟨g38, h⟩ := qc_gd_of h
          refine qd_iast 40 (qc_at qkX12_ends 99 rfl) hn rfl (qc_inb_in g38) rfl ?_
          refine And.imp_right (fun hx => qc_aload_n (qc_at qkX12_ends 100 rfl) rfl <| qc_gR (qc_at qkX12_ends 101 rfl) hn rfl (qfr_291_37 (c37.1.1 hR)) rfl <| qc_iload_n (qc_at qkX12_ends 102 rfl) rfl <| qc_iload_n (qc_at qkX12_ends 103 rfl) rfl <| hx) ?_
          obtain ⟨g39, h⟩ := qc_gd_of h
          refine qd_iast 40 (qc_at qkX12_ends 104 rfl) hn rfl (qc_inb_in g39) rfl ?_
          refine And.imp_right (fun hx => qc_aload_n (qc_at qkX12_ends 105 rfl) rfl <| qc_gR (qc_at qkX12_ends 106 rfl) hn rfl (qfr_291_39 (c37.1.1 hR)) rfl <| qc_iload_n (qc_at qkX12_ends 107 rfl) rfl <| qc_aload_n (qc_at qkX12_ends 108 rfl) rfl <| hx) ?_
          obtain ⟨r40, I40, L40, D40, R40, e40, h⟩ := qc_bd_of h
          have c40 := (tX12_taken hn (c37.1.1 hR) e40)
          refine qd_cVv (ci := 10) (a0 := 291) (qc_at qkX12_ends 109 rfl) ql_12_330 qfX12_taken (qc_kf hn rfl) rfl c40 rfl rfl (Nat.le_of_ble_eq_true rfl) (qc_rml (by decide) (by decide)) ⟨Nat.zero_le _, Nat.zero_le _⟩ ?_
          obtain ⟨g41, h⟩ := qc_gd_of h
          refine qd_iast 40 (qc_at qkX12_ends 110 rfl) hn rfl (qc_inb_in g41) rfl ?_
          obtain ⟨rfl, rfl, rfl, rfl, rfl⟩ := qc_some5 h
          exact ⟨qc_fm.rf _, qc_iconst (qc_at qkX12_ends 111 rfl) <| qc_iret (qc_at qkX12_ends 112 rfl) rfl (Nat.le_refl _) (Nat.le_refl _) (qc_eq.rf _ _ _)⟩
        · replace h := qc_jn u36 h
          have v26 : ¬ Int32.toInt (I 310 (Int32.toNatClampNeg ((I 291 34) - (1 : Int32)))) = 1 := fun z => u26 (qc_i32 z rfl)
          have v28 : ¬ Int32.toInt (I 310 (Int32.toNatClampNeg ((I 291 34) - (1 : Int32)))) = 2 := fun z => u28 (qc_i32 z rfl)
          have v33 : ¬ Int32.toInt (I 310 (Int32.toNatClampNeg ((I 291 34) - (1 : Int32)))) = 3 := fun z => u33 (qc_i32 z rfl)
          have v36 : ¬ Int32.toInt (I 310 (Int32.toNatClampNeg ((I 291 34) - (1 : Int32)))) = 4 := fun z => u36 (qc_i32 z rfl)
          refine And.imp_right (fun hx => qc_tabOut (qc_at qkX12_ends 9 rfl) (by omega) rfl hx) ?_
          refine And.imp_right (fun hx => qc_aload_n (qc_at qkX12_ends 113 rfl) rfl <| hx) ?_
          obtain ⟨r42, I42, L42, D42, R42, e42, h⟩ := qc_bd_of h
          have c42 := (tX12_taken hn hR e42)
          refine qd_cVv (ci := 10) (a0 := 291) (qc_at qkX12_ends 114 rfl) ql_12_330 qfX12_taken (qc_kf hn rfl) rfl c42 rfl rfl (Nat.le_of_ble_eq_true rfl) (qc_rml (by decide) (by decide)) ⟨Nat.zero_le _, Nat.zero_le _⟩ ?_
          refine And.imp_right (fun hx => qc_istore_n (lv' := [(2, _), (1, _), (0, _)]) (qc_at qkX12_ends 115 rfl) rfl rfl <| qc_aload_n (qc_at qkX12_ends 116 rfl) rfl <| qc_gR (qc_at qkX12_ends 117 rfl) hn rfl (qfr_291_39 (c42.1.1 hR)) rfl <| qc_iload_n (qc_at qkX12_ends 118 rfl) rfl <| hx) ?_
          obtain ⟨g43, h⟩ := qc_gd_of h
          refine And.imp_right (fun hx => qc_iald 40 (qc_at qkX12_ends 119 rfl) hn rfl (qc_inb_in g43) <| qc_istore_n (lv' := [(3, _), (2, _), (1, _), (0, _)]) (qc_at qkX12_ends 120 rfl) rfl rfl <| qc_aload_n (qc_at qkX12_ends 121 rfl) rfl <| qc_dup (qc_at qkX12_ends 122 rfl) rfl <| qc_gI (qc_at qkX12_ends 123 rfl) hn rfl <| qc_iconst (qc_at qkX12_ends 124 rfl) <| qc_isub (qc_at qkX12_ends 125 rfl) <| hx) (qd_pI (qc_at qkX12_ends 126 rfl) hn rfl rfl ?_)
          refine And.imp_right (fun hx => qc_aload_n (qc_at qkX12_ends 127 rfl) rfl <| qc_dup (qc_at qkX12_ends 128 rfl) rfl <| qc_gI (qc_at qkX12_ends 129 rfl) hn rfl <| qc_iconst (qc_at qkX12_ends 130 rfl) <| qc_isub (qc_at qkX12_ends 131 rfl) <| hx) (qd_pI (qc_at qkX12_ends 132 rfl) hn rfl rfl ?_)
          refine And.imp_right (fun hx => qc_aload_n (qc_at qkX12_ends 133 rfl) rfl <| qc_gR (qc_at qkX12_ends 134 rfl) hn rfl (qfr_291_23 (c42.1.1 hR)) rfl <| qc_iload_n (qc_at qkX12_ends 135 rfl) rfl <| hx) ?_
          obtain ⟨g44, h⟩ := qc_gd_of h
          refine And.imp_right (fun hx => qc_iald 420 (qc_at qkX12_ends 136 rfl) hn rfl (qc_inb_in g44) <| hx) ?_
          refine qc_andN (qc_if_ne (qc_at qkX12_ends 137 rfl)) (fun u45 => ?_) (fun u45 => ?_)
          · replace h := qc_jn u45 h
            exact And.imp_right (fun hx => qc_sub [3, 2, 1, 0] rfl hx) (tX12_ends_b266 hn (c42.1.1 hR) h)
          · replace h := qc_jp u45 h
            refine And.imp_right (fun hx => qc_aload_n (qc_at qkX12_ends 138 rfl) rfl <| qc_gR (qc_at qkX12_ends 139 rfl) hn rfl (qfr_291_23 (c42.1.1 hR)) rfl <| qc_iload_n (qc_at qkX12_ends 140 rfl) rfl <| hx) ?_
            obtain ⟨g46, h⟩ := qc_gd_of h
            refine And.imp_right (fun hx => qc_iald 420 (qc_at qkX12_ends 141 rfl) hn rfl (qc_inb_in g46) <| hx) ?_
            refine qc_andN (qc_if_ne (qc_at qkX12_ends 142 rfl)) (fun u47 => ?_) (fun u47 => ?_)
            · replace h := qc_jn u47 h
              exact And.imp_right (fun hx => qc_sub [3, 2, 1, 0] rfl hx) (tX12_ends_b266 hn (c42.1.1 hR) h)
            · replace h := qc_jp u47 h
              exact And.imp_right (fun hx => qc_iconst (qc_at qkX12_ends 143 rfl) <| qc_goto (qc_at qkX12_ends 144 rfl) <| qc_sub [3, 2, 1, 0] rfl hx) (tX12_ends_b267 hn (c42.1.1 hR) h)
