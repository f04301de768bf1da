def fX11_objects (w : qcW) (I : qTI) (L : qTL) (D : qTD) (R : qTR) (x1 : Int32) : qcO Int32 :=
  (if x1 < 0 then (some ((-1 : Int32), I, L, D, R)) else (if x1 ≤ (16 : Int32) then (some ((I 256 7), (qc_u I 256 7 x1), L, D, R)) else (some ((-1 : Int32), I, L, D, R))))
set_option maxRecDepth 100000 in
set_option maxHeartbeats 4000000 in
theorem tX11_objects {w : qcW} {I : qTI} {L : qTL} {D : qTD} {R : qTR} {x1 : Int32} {r : Int32} {I' : qTI} {L' : qTL} {D' : qTD} {R' : qTR} (hn : qcNF ≤ w.1) (hR : qc_FR R) (h : fX11_objects w I L D R x1 = some (r, I', L', D', R')) : qc_fm qcSX (I, L, D, R) (I', L', D', R') ∧ qc_V (0) 0 0 qmX11_objects [.ref 256, .int x1] w (I, L, D, R) (qc_eq (some (.int r)) w (I', L', D', R')) := by
  unfold fX11_objects at h
  refine And.imp_right (fun hx => qc_V.of rfl rfl (Nat.le_of_ble_eq_true rfl) (lv := [(0, .ref 256), (1, .int x1)]) rfl hx) ?_
  refine And.imp_right (fun hx => qc_iload_n (qc_at qkX11_objects 0 rfl) rfl <| hx) ?_
  refine qc_andC (qc_if_lt (qc_at qkX11_objects 1 rfl)) (fun u1 => ?_) (fun u1 => ?_)
  · replace h := qc_jp u1 h
    obtain ⟨rfl, rfl, rfl, rfl, rfl⟩ := qc_some5 h
    exact ⟨qc_fm.rf _, qc_iconst (qc_at qkX11_objects 5 rfl) <| qc_iret (qc_at qkX11_objects 6 rfl) rfl (Nat.le_refl _) (Nat.le_refl _) (qc_eq.rf _ _ _)⟩
  · replace h := qc_jn u1 h
    refine And.imp_right (fun hx => qc_iload_n (qc_at qkX11_objects 2 rfl) rfl <| qc_bipush (qc_at qkX11_objects 3 rfl) <| hx) ?_
    refine qc_andC (qc_icmp_le (qc_at qkX11_objects 4 rfl)) (fun u2 => ?_) (fun u2 => ?_)
    · replace h := qc_jp u2 h
      refine And.imp_right (fun hx => qc_aload_n (qc_at qkX11_objects 7 rfl) rfl <| qc_gI (qc_at qkX11_objects 8 rfl) hn rfl <| qc_istore_n (lv' := [(2, _), (0, _), (1, _)]) (qc_at qkX11_objects 9 rfl) rfl rfl <| qc_aload_n (qc_at qkX11_objects 10 rfl) rfl <| qc_iload_n (qc_at qkX11_objects 11 rfl) rfl <| hx) (qd_pI (qc_at qkX11_objects 12 rfl) hn rfl rfl ?_)
      obtain ⟨rfl, rfl, rfl, rfl, rfl⟩ := qc_some5 h
      exact ⟨qc_fm.rf _, qc_iload_n (qc_at qkX11_objects 13 rfl) rfl <| qc_iret (qc_at qkX11_objects 14 rfl) rfl (Nat.le_refl _) (Nat.le_refl _) (qc_eq.rf _ _ _)⟩
    · replace h := qc_jn u2 h
      obtain ⟨rfl, rfl, rfl, rfl, rfl⟩ := qc_some5 h
      exact ⟨qc_fm.rf _, qc_iconst (qc_at qkX11_objects 5 rfl) <| qc_iret (qc_at qkX11_objects 6 rfl) rfl (Nat.le_refl _) (Nat.le_refl _) (qc_eq.rf _ _ _)⟩
def fX11_column (w : qcW) (I : qTI) (L : qTL) (D : qTD) (R : qTR) (x1 : Int32) (x2 : Int32) (x3 : Int32) : qcO Int32 :=
  (qc_bd (fX1_isColumn w I L D R x1) fun r1 I1 L1 D1 R1 => if r1 = true then (qc_bd (fX1_isLane w I1 L1 D1 R1 x2) fun r3 I3 L3 D3 R3 => if r3 = true then (if x3 < 0 then (some ((-1 : Int32), I3, L3, D3, R3)) else (if x3 ≤ (16 : Int32) then (qc_bd (fX1_make w I3 L3 D3 R3 x1 x2 x3) fun r7 I7 L7 D7 R7 => some ((1 : Int32), I7, L7, D7, R7)) else (some ((-1 : Int32), I3, L3, D3, R3)))) else (some ((-1 : Int32), I3, L3, D3, R3))) else (some ((-1 : Int32), I1, L1, D1, R1)))
set_option maxRecDepth 100000 in
set_option maxHeartbeats 4000000 in
theorem tX11_column {w : qcW} {I : qTI} {L : qTL} {D : qTD} {R : qTR} {x1 : Int32} {x2 : Int32} {x3 : Int32} {r : Int32} {I' : qTI} {L' : qTL} {D' : qTD} {R' : qTR} (hn : qcNF ≤ w.1) (hR : qc_FR R) (h : fX11_column w I L D R x1 x2 x3 = some (r, I', L', D', R')) : qc_fm qcSX (I, L, D, R) (I', L', D', R') ∧ qc_V (3) 0 0 qmX11_column [.ref 256, .int x1, .int x2, .int x3] w (I, L, D, R) (qc_eq (some (.int r)) w (I', L', D', R')) := by
  unfold fX11_column at h
  refine And.imp_right (fun hx => qc_V.of rfl rfl (Nat.le_of_ble_eq_true rfl) (lv := [(0, .ref 256), (1, .int x1), (2, .int x2), (3, .int x3)]) rfl hx) ?_
  refine And.imp_right (fun hx => qc_iload_n (qc_at qkX11_column 0 rfl) rfl <| hx) ?_
  obtain ⟨r1, I1, L1, D1, R1, e1, h⟩ := qc_bd_of h
  have c1 := (tX1_isColumn hn hR e1)
  refine qd_cSv (qc_at qkX11_column 1 rfl) ql_11_71 qfX1_isColumn c1 rfl rfl (Nat.le_of_ble_eq_true rfl) (qc_rml (by decide) (by decide)) ⟨Nat.zero_le _, Nat.zero_le _⟩ ?_
  refine qc_andB (qc_ifB_eq (qc_at qkX11_column 2 rfl)) (fun u2 => ?_) (fun u2 => ?_)
  · replace h := qc_jf u2 h
    obtain ⟨rfl, rfl, rfl, rfl, rfl⟩ := qc_some5 h
    exact ⟨qc_fm.rf _, qc_iconst (qc_at qkX11_column 11 rfl) <| qc_iret (qc_at qkX11_column 12 rfl) rfl (Nat.le_refl _) (Nat.le_refl _) (qc_eq.rf _ _ _)⟩
  · replace h := qc_jt u2 h
    refine And.imp_right (fun hx => qc_iload_n (qc_at qkX11_column 3 rfl) rfl <| hx) ?_
    obtain ⟨r3, I3, L3, D3, R3, e3, h⟩ := qc_bd_of h
    have c3 := (tX1_isLane hn (c1.1.1 hR) e3)
    refine qd_cSv (qc_at qkX11_column 4 rfl) ql_11_75 qfX1_isLane c3 rfl rfl (Nat.le_of_ble_eq_true rfl) (qc_rml (by decide) (by decide)) ⟨Nat.zero_le _, Nat.zero_le _⟩ ?_
    refine qc_andB (qc_ifB_eq (qc_at qkX11_column 5 rfl)) (fun u4 => ?_) (fun u4 => ?_)
    · replace h := qc_jf u4 h
      obtain ⟨rfl, rfl, rfl, rfl, rfl⟩ := qc_some5 h
      exact ⟨qc_fm.rf _, qc_iconst (qc_at qkX11_column 11 rfl) <| qc_iret (qc_at qkX11_column 12 rfl) rfl (Nat.le_refl _) (Nat.le_refl _) (qc_eq.rf _ _ _)⟩
    · replace h := qc_jt u4 h
      refine And.imp_right (fun hx => qc_iload_n (qc_at qkX11_column 6 rfl) rfl <| hx) ?_
      refine qc_andC (qc_if_lt (qc_at qkX11_column 7 rfl)) (fun u5 => ?_) (fun u5 => ?_)
      · replace h := qc_jp u5 h
        obtain ⟨rfl, rfl, rfl, rfl, rfl⟩ := qc_some5 h
        exact ⟨qc_fm.rf _, qc_iconst (qc_at qkX11_column 11 rfl) <| qc_iret (qc_at qkX11_column 12 rfl) rfl (Nat.le_refl _) (Nat.le_refl _) (qc_eq.rf _ _ _)⟩
      · replace h := qc_jn u5 h
        refine And.imp_right (fun hx => qc_iload_n (qc_at qkX11_column 8 rfl) rfl <| qc_bipush (qc_at qkX11_column 9 rfl) <| hx) ?_
        refine qc_andC (qc_icmp_le (qc_at qkX11_column 10 rfl)) (fun u6 => ?_) (fun u6 => ?_)
        · replace h := qc_jp u6 h
          refine And.imp_right (fun hx => qc_aload_n (qc_at qkX11_column 13 rfl) rfl <| qc_gR (qc_at qkX11_column 14 rfl) hn rfl (qfr_256_0 (c3.1.1 (c1.1.1 hR))) rfl <| qc_iload_n (qc_at qkX11_column 15 rfl) rfl <| qc_iload_n (qc_at qkX11_column 16 rfl) rfl <| qc_iload_n (qc_at qkX11_column 17 rfl) rfl <| hx) ?_
          obtain ⟨r7, I7, L7, D7, R7, e7, h⟩ := qc_bd_of h
          have c7 := (tX1_make hn (c3.1.1 (c1.1.1 hR)) e7)
          refine qd_cVn (ci := 1) (a0 := 257) (qc_at qkX11_column 18 rfl) ql_11_78 qfX1_make (qc_kf hn rfl) rfl c7 rfl rfl (Nat.le_of_ble_eq_true rfl) (qc_rml (by decide) (by decide)) ⟨Nat.zero_le _, Nat.zero_le _⟩ ?_
          obtain ⟨rfl, rfl, rfl, rfl, rfl⟩ := qc_some5 h
          exact ⟨qc_fm.rf _, qc_iconst (qc_at qkX11_column 19 rfl) <| qc_iret (qc_at qkX11_column 20 rfl) rfl (Nat.le_refl _) (Nat.le_refl _) (qc_eq.rf _ _ _)⟩
        · replace h := qc_jn u6 h
          obtain ⟨rfl, rfl, rfl, rfl, rfl⟩ := qc_some5 h
          exact ⟨qc_fm.rf _, qc_iconst (qc_at qkX11_column 11 rfl) <| qc_iret (qc_at qkX11_column 12 rfl) rfl (Nat.le_refl _) (Nat.le_refl _) (qc_eq.rf _ _ _)⟩
def fX11_share (w : qcW) (I : qTI) (L : qTL) (D : qTD) (R : qTR) (x1 : Int32) (x2 : Int32) : qcO Int32 :=
  (qc_bd (fX1_isColumn w I L D R x1) fun r1 I1 L1 D1 R1 => if r1 = true then (qc_bd (fX1_isColumn w I1 L1 D1 R1 x2) fun r3 I3 L3 D3 R3 => if r3 = true then (qc_bd (fX1_unite w I3 L3 D3 R3 x1 x2) fun r5 I5 L5 D5 R5 => some ((1 : Int32), I5, L5, D5, R5)) else (some ((-1 : Int32), I3, L3, D3, R3))) else (some ((-1 : Int32), I1, L1, D1, R1)))
set_option maxRecDepth 100000 in
set_option maxHeartbeats 4000000 in
theorem tX11_share {w : qcW} {I : qTI} {L : qTL} {D : qTD} {R : qTR} {x1 : Int32} {x2 : Int32} {r : Int32} {I' : qTI} {L' : qTL} {D' : qTD} {R' : qTR} (hn : qcNF ≤ w.1) (hR : qc_FR R) (h : fX11_share w I L D R x1 x2 = some (r, I', L', D', R')) : qc_fm qcSX (I, L, D, R) (I', L', D', R') ∧ qc_V (1) 0 0 qmX11_share [.ref 256, .int x1, .int x2] w (I, L, D, R) (qc_eq (some (.int r)) w (I', L', D', R')) := by
  unfold fX11_share at h
  refine And.imp_right (fun hx => qc_V.of rfl rfl (Nat.le_of_ble_eq_true rfl) (lv := [(0, .ref 256), (1, .int x1), (2, .int x2)]) rfl hx) ?_
  refine And.imp_right (fun hx => qc_iload_n (qc_at qkX11_share 0 rfl) rfl <| hx) ?_
  obtain ⟨r1, I1, L1, D1, R1, e1, h⟩ := qc_bd_of h
  have c1 := (tX1_isColumn hn hR e1)
  refine qd_cSv (qc_at qkX11_share 1 rfl) ql_11_71 qfX1_isColumn c1 rfl rfl (Nat.le_of_ble_eq_true rfl) (qc_rml (by decide) (by decide)) ⟨Nat.zero_le _, Nat.zero_le _⟩ ?_
  refine qc_andB (qc_ifB_eq (qc_at qkX11_share 2 rfl)) (fun u2 => ?_) (fun u2 => ?_)
  · replace h := qc_jf u2 h
    obtain ⟨rfl, rfl, rfl, rfl, rfl⟩ := qc_some5 h
    exact ⟨qc_fm.rf _, qc_iconst (qc_at qkX11_share 6 rfl) <| qc_iret (qc_at qkX11_share 7 rfl) rfl (Nat.le_refl _) (Nat.le_refl _) (qc_eq.rf _ _ _)⟩
  · replace h := qc_jt u2 h
    refine And.imp_right (fun hx => qc_iload_n (qc_at qkX11_share 3 rfl) rfl <| hx) ?_
    obtain ⟨r3, I3, L3, D3, R3, e3, h⟩ := qc_bd_of h
    have c3 := (tX1_isColumn hn (c1.1.1 hR) e3)
    refine qd_cSv (qc_at qkX11_share 4 rfl) ql_11_71 qfX1_isColumn c3 rfl rfl (Nat.le_of_ble_eq_true rfl) (qc_rml (by decide) (by decide)) ⟨Nat.zero_le _, Nat.zero_le _⟩ ?_
    refine qc_andBn (qc_ifB_ne (qc_at qkX11_share 5 rfl)) (fun u4 => ?_) (fun u4 => ?_)
    · replace h := qc_jt u4 h
      refine And.imp_right (fun hx => qc_aload_n (qc_at qkX11_share 8 rfl) rfl <| qc_gR (qc_at qkX11_share 9 rfl) hn rfl (qfr_256_0 (c3.1.1 (c1.1.1 hR))) rfl <| qc_iload_n (qc_at qkX11_share 10 rfl) rfl <| qc_iload_n (qc_at qkX11_share 11 rfl) rfl <| hx) ?_
      obtain ⟨r5, I5, L5, D5, R5, e5, h⟩ := qc_bd_of h
      have c5 := (tX1_unite hn (c3.1.1 (c1.1.1 hR)) e5)
      refine qd_cVn (ci := 1) (a0 := 257) (qc_at qkX11_share 12 rfl) ql_11_82 qfX1_unite (qc_kf hn rfl) rfl c5 rfl rfl (Nat.le_of_ble_eq_true rfl) (qc_rml (by decide) (by decide)) ⟨Nat.zero_le _, Nat.zero_le _⟩ ?_
      obtain ⟨rfl, rfl, rfl, rfl, rfl⟩ := qc_some5 h
      exact ⟨qc_fm.rf _, qc_iconst (qc_at qkX11_share 13 rfl) <| qc_iret (qc_at qkX11_share 14 rfl) rfl (Nat.le_refl _) (Nat.le_refl _) (qc_eq.rf _ _ _)⟩
    · replace h := qc_jf u4 h
      obtain ⟨rfl, rfl, rfl, rfl, rfl⟩ := qc_some5 h
      exact ⟨qc_fm.rf _, qc_iconst (qc_at qkX11_share 6 rfl) <| qc_iret (qc_at qkX11_share 7 rfl) rfl (Nat.le_refl _) (Nat.le_refl _) (qc_eq.rf _ _ _)⟩
def fX11_drop (w : qcW) (I : qTI) (L : qTL) (D : qTD) (R : qTR) (x1 : Int32) : qcO Int32 :=
  (qc_bd (fX1_isColumn w I L D R x1) fun r1 I1 L1 D1 R1 => if r1 = true then (qc_bd (fX1_lose w I1 L1 D1 R1 x1) fun r3 I3 L3 D3 R3 => if r3 = true then (some ((1 : Int32), I3, L3, D3, R3)) else (some ((0 : Int32), I3, L3, D3, R3))) else (some ((-1 : Int32), I1, L1, D1, R1)))
set_option maxRecDepth 100000 in
set_option maxHeartbeats 4000000 in
theorem tX11_drop {w : qcW} {I : qTI} {L : qTL} {D : qTD} {R : qTR} {x1 : Int32} {r : Int32} {I' : qTI} {L' : qTL} {D' : qTD} {R' : qTR} (hn : qcNF ≤ w.1) (hR : qc_FR R) (h : fX11_drop w I L D R x1 = some (r, I', L', D', R')) : qc_fm qcSX (I, L, D, R) (I', L', D', R') ∧ qc_V (1) 0 0 qmX11_drop [.ref 256, .int x1] w (I, L, D, R) (qc_eq (some (.int r)) w (I', L', D', R')) := by
  unfold fX11_drop at h
  refine And.imp_right (fun hx => qc_V.of rfl rfl (Nat.le_of_ble_eq_true rfl) (lv := [(0, .ref 256), (1, .int x1)]) rfl hx) ?_
  refine And.imp_right (fun hx => qc_iload_n (qc_at qkX11_drop 0 rfl) rfl <| hx) ?_
  obtain ⟨r1, I1, L1, D1, R1, e1, h⟩ := qc_bd_of h
  have c1 := (tX1_isColumn hn hR e1)
  refine qd_cSv (qc_at qkX11_drop 1 rfl) ql_11_71 qfX1_isColumn c1 rfl rfl (Nat.le_of_ble_eq_true rfl) (qc_rml (by decide) (by decide)) ⟨Nat.zero_le _, Nat.zero_le _⟩ ?_
  refine qc_andBn (qc_ifB_ne (qc_at qkX11_drop 2 rfl)) (fun u2 => ?_) (fun u2 => ?_)
  · replace h := qc_jt u2 h
    refine And.imp_right (fun hx => qc_aload_n (qc_at qkX11_drop 5 rfl) rfl <| qc_gR (qc_at qkX11_drop 6 rfl) hn rfl (qfr_256_0 (c1.1.1 hR)) rfl <| qc_iload_n (qc_at qkX11_drop 7 rfl) rfl <| hx) ?_
    obtain ⟨r3, I3, L3, D3, R3, e3, h⟩ := qc_bd_of h
    have c3 := (tX1_lose hn (c1.1.1 hR) e3)
    refine qd_cVv (ci := 1) (a0 := 257) (qc_at qkX11_drop 8 rfl) ql_11_86 qfX1_lose (qc_kf hn rfl) rfl c3 rfl rfl (Nat.le_of_ble_eq_true rfl) (qc_rml (by decide) (by decide)) ⟨Nat.zero_le _, Nat.zero_le _⟩ ?_
    refine qc_andB (qc_ifB_eq (qc_at qkX11_drop 9 rfl)) (fun u4 => ?_) (fun u4 => ?_)
    · replace h := qc_jf u4 h
      obtain ⟨rfl, rfl, rfl, rfl, rfl⟩ := qc_some5 h
      exact ⟨qc_fm.rf _, qc_iconst (qc_at qkX11_drop 12 rfl) <| qc_iret (qc_at qkX11_drop 13 rfl) rfl (Nat.le_refl _) (Nat.le_refl _) (qc_eq.rf _ _ _)⟩
    · replace h := qc_jt u4 h
      obtain ⟨rfl, rfl, rfl, rfl, rfl⟩ := qc_some5 h
      exact ⟨qc_fm.rf _, qc_iconst (qc_at qkX11_drop 10 rfl) <| qc_goto (qc_at qkX11_drop 11 rfl) <| qc_iret (qc_at qkX11_drop 13 rfl) rfl (Nat.le_refl _) (Nat.le_refl _) (qc_eq.rf _ _ _)⟩
  · replace h := qc_jf u2 h
    obtain ⟨rfl, rfl, rfl, rfl, rfl⟩ := qc_some5 h
    exact ⟨qc_fm.rf _, qc_iconst (qc_at qkX11_drop 3 rfl) <| qc_iret (qc_at qkX11_drop 4 rfl) rfl (Nat.le_refl _) (Nat.le_refl _) (qc_eq.rf _ _ _)⟩
def fX11_put (w : qcW) (I : qTI) (L : qTL) (D : qTD) (R : qTR) (x1 : Int32) (x2 : Int32) (x3 : Int64) : qcO Int32 :=
  (qc_bd (fX1_isColumn w I L D R x1) fun r1 I1 L1 D1 R1 => if r1 = true then (qc_bd (fX1_laneOf w I1 L1 D1 R1 x1) fun r3 I3 L3 D3 R3 => if r3 = (-1 : Int32) then (some ((-3 : Int32), I3, L3, D3, R3)) else (qc_bd (fX1_setBits w I3 L3 D3 R3 x1 x2 x3) fun r5 I5 L5 D5 R5 => if r5 = true then (some ((1 : Int32), I5, L5, D5, R5)) else (some ((-1 : Int32), I5, L5, D5, R5)))) else (some ((-1 : Int32), I1, L1, D1, R1)))
set_option maxRecDepth 100000 in
set_option maxHeartbeats 4000000 in
theorem tX11_put {w : qcW} {I : qTI} {L : qTL} {D : qTD} {R : qTR} {x1 : Int32} {x2 : Int32} {x3 : Int64} {r : Int32} {I' : qTI} {L' : qTL} {D' : qTD} {R' : qTR} (hn : qcNF ≤ w.1) (hR : qc_FR R) (h : fX11_put w I L D R x1 x2 x3 = some (r, I', L', D', R')) : qc_fm qcSX (I, L, D, R) (I', L', D', R') ∧ qc_V (5) 0 0 qmX11_put [.ref 256, .int x1, .int x2, .long x3] w (I, L, D, R) (qc_eq (some (.int r)) w (I', L', D', R')) := by
  unfold fX11_put at h
  refine And.imp_right (fun hx => qc_V.of rfl rfl (Nat.le_of_ble_eq_true rfl) (lv := [(0, .ref 256), (1, .int x1), (2, .int x2), (3, .long x3)]) rfl hx) ?_
  refine And.imp_right (fun hx => qc_iload_n (qc_at qkX11_put 0 rfl) rfl <| hx) ?_
  obtain ⟨r1, I1, L1, D1, R1, e1, h⟩ := qc_bd_of h
  have c1 := (tX1_isColumn hn hR e1)
  refine qd_cSv (qc_at qkX11_put 1 rfl) ql_11_71 qfX1_isColumn c1 rfl rfl (Nat.le_of_ble_eq_true rfl) (qc_rml (by decide) (by decide)) ⟨Nat.zero_le _, Nat.zero_le _⟩ ?_
  refine qc_andBn (qc_ifB_ne (qc_at qkX11_put 2 rfl)) (fun u2 => ?_) (fun u2 => ?_)
  · replace h := qc_jt u2 h
    refine And.imp_right (fun hx => qc_aload_n (qc_at qkX11_put 5 rfl) rfl <| qc_gR (qc_at qkX11_put 6 rfl) hn rfl (qfr_256_0 (c1.1.1 hR)) rfl <| qc_iload_n (qc_at qkX11_put 7 rfl) rfl <| hx) ?_
    obtain ⟨r3, I3, L3, D3, R3, e3, h⟩ := qc_bd_of h
    have c3 := (tX1_laneOf hn (c1.1.1 hR) e3)
    refine qd_cVv (ci := 1) (a0 := 257) (qc_at qkX11_put 8 rfl) ql_11_89 qfX1_laneOf (qc_kf hn rfl) rfl c3 rfl rfl (Nat.le_of_ble_eq_true rfl) (qc_rml (by decide) (by decide)) ⟨Nat.zero_le _, Nat.zero_le _⟩ ?_
    refine And.imp_right (fun hx => qc_iconst (qc_at qkX11_put 9 rfl) <| hx) ?_
    refine qc_andN (qc_icmp_ne (qc_at qkX11_put 10 rfl)) (fun u4 => ?_) (fun u4 => ?_)
    · replace h := qc_jn u4 h
      refine And.imp_right (fun hx => qc_aload_n (qc_at qkX11_put 13 rfl) rfl <| qc_gR (qc_at qkX11_put 14 rfl) hn rfl (qfr_256_0 (c3.1.1 (c1.1.1 hR))) rfl <| qc_iload_n (qc_at qkX11_put 15 rfl) rfl <| qc_iload_n (qc_at qkX11_put 16 rfl) rfl <| qc_lload_n (qc_at qkX11_put 17 rfl) rfl <| hx) ?_
      obtain ⟨r5, I5, L5, D5, R5, e5, h⟩ := qc_bd_of h
      have c5 := (tX1_setBits hn (c3.1.1 (c1.1.1 hR)) e5)
      refine qd_cVv (ci := 1) (a0 := 257) (qc_at qkX11_put 18 rfl) ql_11_93 qfX1_setBits (qc_kf hn rfl) rfl c5 rfl rfl (Nat.le_of_ble_eq_true rfl) (qc_rml (by decide) (by decide)) ⟨Nat.zero_le _, Nat.zero_le _⟩ ?_
      refine qc_andB (qc_ifB_eq (qc_at qkX11_put 19 rfl)) (fun u6 => ?_) (fun u6 => ?_)
      · replace h := qc_jf u6 h
        obtain ⟨rfl, rfl, rfl, rfl, rfl⟩ := qc_some5 h
        exact ⟨qc_fm.rf _, qc_iconst (qc_at qkX11_put 22 rfl) <| qc_iret (qc_at qkX11_put 23 rfl) rfl (Nat.le_refl _) (Nat.le_refl _) (qc_eq.rf _ _ _)⟩
      · replace h := qc_jt u6 h
        obtain ⟨rfl, rfl, rfl, rfl, rfl⟩ := qc_some5 h
        exact ⟨qc_fm.rf _, qc_iconst (qc_at qkX11_put 20 rfl) <| qc_goto (qc_at qkX11_put 21 rfl) <| qc_iret (qc_at qkX11_put 23 rfl) rfl (Nat.le_refl _) (Nat.le_refl _) (qc_eq.rf _ _ _)⟩
    · replace h := qc_jp u4 h
      obtain ⟨rfl, rfl, rfl, rfl, rfl⟩ := qc_some5 h
      exact ⟨qc_fm.rf _, qc_bipush (qc_at qkX11_put 11 rfl) <| qc_iret (qc_at qkX11_put 12 rfl) rfl (Nat.le_refl _) (Nat.le_refl _) (qc_eq.rf _ _ _)⟩
  · replace h := qc_jf u2 h
    obtain ⟨rfl, rfl, rfl, rfl, rfl⟩ := qc_some5 h
    exact ⟨qc_fm.rf _, qc_iconst (qc_at qkX11_put 3 rfl) <| qc_iret (qc_at qkX11_put 4 rfl) rfl (Nat.le_refl _) (Nat.le_refl _) (qc_eq.rf _ _ _)⟩
def fX11_cell (w : qcW) (I : qTI) (L : qTL) (D : qTD) (R : qTR) (x1 : Int32) (x2 : Int32) : qcO Int64 :=
  (qc_bd (fX1_isColumn w I L D R x1) fun r1 I1 L1 D1 R1 => if r1 = true then (if x2 < 0 then (some ((-9223372036854775808 : Int64), I1, L1, D1, R1)) else (qc_bd (fX1_sizeOf w I1 L1 D1 R1 x1) fun r4 I4 L4 D4 R4 => if x2 < r4 then (qc_bd (fX1_bitsOf w I4 L4 D4 R4 x1 x2) fun r6 I6 L6 D6 R6 => some (r6, I6, L6, D6, R6)) else (some ((-9223372036854775808 : Int64), I4, L4, D4, R4)))) else (some ((-9223372036854775808 : Int64), I1, L1, D1, R1)))
set_option maxRecDepth 100000 in
set_option maxHeartbeats 4000000 in
theorem tX11_cell {w : qcW} {I : qTI} {L : qTL} {D : qTD} {R : qTR} {x1 : Int32} {x2 : Int32} {r : Int64} {I' : qTI} {L' : qTL} {D' : qTD} {R' : qTR} (hn : qcNF ≤ w.1) (hR : qc_FR R) (h : fX11_cell w I L D R x1 x2 = some (r, I', L', D', R')) : qc_fm qcSX (I, L, D, R) (I', L', D', R') ∧ qc_V (5) 0 0 qmX11_cell [.ref 256, .int x1, .int x2] w (I, L, D, R) (qc_eq (some (.long r)) w (I', L', D', R')) := by
  unfold fX11_cell at h
  refine And.imp_right (fun hx => qc_V.of rfl rfl (Nat.le_of_ble_eq_true rfl) (lv := [(0, .ref 256), (1, .int x1), (2, .int x2)]) rfl hx) ?_
  refine And.imp_right (fun hx => qc_iload_n (qc_at qkX11_cell 0 rfl) rfl <| hx) ?_
  obtain ⟨r1, I1, L1, D1, R1, e1, h⟩ := qc_bd_of h
  have c1 := (tX1_isColumn hn hR e1)
  refine qd_cSv (qc_at qkX11_cell 1 rfl) ql_11_71 qfX1_isColumn c1 rfl rfl (Nat.le_of_ble_eq_true rfl) (qc_rml (by decide) (by decide)) ⟨Nat.zero_le _, Nat.zero_le _⟩ ?_
  refine qc_andB (qc_ifB_eq (qc_at qkX11_cell 2 rfl)) (fun u2 => ?_) (fun u2 => ?_)
  · replace h := qc_jf u2 h
    obtain ⟨rfl, rfl, rfl, rfl, rfl⟩ := qc_some5 h
    exact ⟨qc_fm.rf _, qc_ldc2l (qc_at qkX11_cell 11 rfl) <| qc_lret (qc_at qkX11_cell 12 rfl) rfl (Nat.le_refl _) (Nat.le_refl _) (qc_eq.rf _ _ _)⟩
  · replace h := qc_jt u2 h
    refine And.imp_right (fun hx => qc_iload_n (qc_at qkX11_cell 3 rfl) rfl <| hx) ?_
    refine qc_andC (qc_if_lt (qc_at qkX11_cell 4 rfl)) (fun u3 => ?_) (fun u3 => ?_)
    · replace h := qc_jp u3 h
      obtain ⟨rfl, rfl, rfl, rfl, rfl⟩ := qc_some5 h
      exact ⟨qc_fm.rf _, qc_ldc2l (qc_at qkX11_cell 11 rfl) <| qc_lret (qc_at qkX11_cell 12 rfl) rfl (Nat.le_refl _) (Nat.le_refl _) (qc_eq.rf _ _ _)⟩
    · replace h := qc_jn u3 h
      refine And.imp_right (fun hx => qc_iload_n (qc_at qkX11_cell 5 rfl) rfl <| qc_aload_n (qc_at qkX11_cell 6 rfl) rfl <| qc_gR (qc_at qkX11_cell 7 rfl) hn rfl (qfr_256_0 (c1.1.1 hR)) rfl <| qc_iload_n (qc_at qkX11_cell 8 rfl) rfl <| hx) ?_
      obtain ⟨r4, I4, L4, D4, R4, e4, h⟩ := qc_bd_of h
      have c4 := (tX1_sizeOf hn (c1.1.1 hR) e4)
      refine qd_cVv (ci := 1) (a0 := 257) (qc_at qkX11_cell 9 rfl) ql_11_97 qfX1_sizeOf (qc_kf hn rfl) rfl c4 rfl rfl (Nat.le_of_ble_eq_true rfl) (qc_rml (by decide) (by decide)) ⟨Nat.zero_le _, Nat.zero_le _⟩ ?_
      refine qc_andC (qc_icmp_lt (qc_at qkX11_cell 10 rfl)) (fun u5 => ?_) (fun u5 => ?_)
      · replace h := qc_jp u5 h
        refine And.imp_right (fun hx => qc_aload_n (qc_at qkX11_cell 13 rfl) rfl <| qc_gR (qc_at qkX11_cell 14 rfl) hn rfl (qfr_256_0 (c4.1.1 (c1.1.1 hR))) rfl <| qc_iload_n (qc_at qkX11_cell 15 rfl) rfl <| qc_iload_n (qc_at qkX11_cell 16 rfl) rfl <| hx) ?_
        obtain ⟨r6, I6, L6, D6, R6, e6, h⟩ := qc_bd_of h
        have c6 := (tX1_bitsOf hn (c4.1.1 (c1.1.1 hR)) e6)
        refine qd_cVv (ci := 1) (a0 := 257) (qc_at qkX11_cell 17 rfl) ql_11_102 qfX1_bitsOf (qc_kf hn rfl) rfl c6 rfl rfl (Nat.le_of_ble_eq_true rfl) (qc_rml (by decide) (by decide)) ⟨Nat.zero_le _, Nat.zero_le _⟩ ?_
        obtain ⟨rfl, rfl, rfl, rfl, rfl⟩ := qc_some5 h
        exact ⟨qc_fm.rf _, qc_lret (qc_at qkX11_cell 18 rfl) rfl (Nat.le_refl _) (Nat.le_refl _) (qc_eq.rf _ _ _)⟩
      · replace h := qc_jn u5 h
        obtain ⟨rfl, rfl, rfl, rfl, rfl⟩ := qc_some5 h
        exact ⟨qc_fm.rf _, qc_ldc2l (qc_at qkX11_cell 11 rfl) <| qc_lret (qc_at qkX11_cell 12 rfl) rfl (Nat.le_refl _) (Nat.le_refl _) (qc_eq.rf _ _ _)⟩
def fX11_about (w : qcW) (I : qTI) (L : qTL) (D : qTD) (R : qTR) (x1 : Int32) (x2 : Int32) : qcO Int32 :=
  (qc_bd (fX1_isColumn w I L D R x1) fun r1 I1 L1 D1 R1 => if r1 = true then (if x2 = 0 then (qc_bd (fX1_laneOf w I1 L1 D1 R1 x1) fun r4 I4 L4 D4 R4 => some (r4, I4, L4, D4, R4)) else if x2 = 1 then (qc_bd (fX1_sizeOf w I1 L1 D1 R1 x1) fun r6 I6 L6 D6 R6 => some (r6, I6, L6, D6, R6)) else if x2 = 2 then (qc_bd (fX1_leastLike w I1 L1 D1 R1 x1) fun r8 I8 L8 D8 R8 => some (r8, I8, L8, D8, R8)) else (some ((-2 : Int32), I1, L1, D1, R1))) else (some ((-2 : Int32), I1, L1, D1, R1)))
set_option maxRecDepth 100000 in
set_option maxHeartbeats 4000000 in
theorem tX11_about {w : qcW} {I : qTI} {L : qTL} {D : qTD} {R : qTR} {x1 : Int32} {x2 : Int32} {r : Int32} {I' : qTI} {L' : qTL} {D' : qTD} {R' : qTR} (hn : qcNF ≤ w.1) (hR : qc_FR R) (h : fX11_about w I L D R x1 x2 = some (r, I', L', D', R')) : qc_fm qcSX (I, L, D, R) (I', L', D', R') ∧ qc_V (2) 0 0 qmX11_about [.ref 256, .int x1, .int x2] w (I, L, D, R) (qc_eq (some (.int r)) w (I', L', D', R')) := by
  unfold fX11_about at h
  refine And.imp_right (fun hx => qc_V.of rfl rfl (Nat.le_of_ble_eq_true rfl) (lv := [(0, .ref 256), (1, .int x1), (2, .int x2)]) rfl hx) ?_
  refine And.imp_right (fun hx => qc_iload_n (qc_at qkX11_about 0 rfl) rfl <| hx) ?_
  obtain ⟨r1, I1, L1, D1, R1, e1, h⟩ := qc_bd_of h
  have c1 := (tX1_isColumn hn hR e1)
  refine qd_cSv (qc_at qkX11_about 1 rfl) ql_11_71 qfX1_isColumn c1 rfl rfl (Nat.le_of_ble_eq_true rfl) (qc_rml (by decide) (by decide)) ⟨Nat.zero_le _, Nat.zero_le _⟩ ?_
  refine qc_andBn (qc_ifB_ne (qc_at qkX11_about 2 rfl)) (fun u2 => ?_) (fun u2 => ?_)
  · replace h := qc_jt u2 h
    refine And.imp_right (fun hx => qc_iload_n (qc_at qkX11_about 5 rfl) rfl <| hx) ?_
    refine qc_by (c := x2 = 0) (fun u3 => ?_) (fun u3 => ?_)
    · refine And.imp_right (fun hx => qc_tabIn (qc_at qkX11_about 6 rfl) 0 (by rw [u3]; rfl) (by decide) rfl rfl hx) ?_
      replace h := qc_jp u3 h
      refine And.imp_right (fun hx => qc_aload_n (qc_at qkX11_about 7 rfl) rfl <| qc_gR (qc_at qkX11_about 8 rfl) hn rfl (qfr_256_0 (c1.1.1 hR)) rfl <| qc_iload_n (qc_at qkX11_about 9 rfl) rfl <| hx) ?_
      obtain ⟨r4, I4, L4, D4, R4, e4, h⟩ := qc_bd_of h
      have c4 := (tX1_laneOf hn (c1.1.1 hR) e4)
      refine qd_cVv (ci := 1) (a0 := 257) (qc_at qkX11_about 10 rfl) ql_11_89 qfX1_laneOf (qc_kf hn rfl) rfl c4 rfl rfl (Nat.le_of_ble_eq_true rfl) (qc_rml (by decide) (by decide)) ⟨Nat.zero_le _, Nat.zero_le _⟩ ?_
      obtain ⟨rfl, rfl, rfl, rfl, rfl⟩ := qc_some5 h
      exact ⟨qc_fm.rf _, qc_iret (qc_at qkX11_about 11 rfl) rfl (Nat.le_refl _) (Nat.le_refl _) (qc_eq.rf _ _ _)⟩
    · replace h := qc_jn u3 h
      refine qc_by (c := x2 = 1) (fun u5 => ?_) (fun u5 => ?_)
      · refine And.imp_right (fun hx => qc_tabIn (qc_at qkX11_about 6 rfl) 1 (by rw [u5]; rfl) (by decide) rfl rfl hx) ?_
        replace h := qc_jp u5 h
        refine And.imp_right (fun hx => qc_aload_n (qc_at qkX11_about 12 rfl) rfl <| qc_gR (qc_at qkX11_about 13 rfl) hn rfl (qfr_256_0 (c1.1.1 hR)) rfl <| qc_iload_n (qc_at qkX11_about 14 rfl) rfl <| hx) ?_
        obtain ⟨r6, I6, L6, D6, R6, e6, h⟩ := qc_bd_of h
        have c6 := (tX1_sizeOf hn (c1.1.1 hR) e6)
        refine qd_cVv (ci := 1) (a0 := 257) (qc_at qkX11_about 15 rfl) ql_11_97 qfX1_sizeOf (qc_kf hn rfl) rfl c6 rfl rfl (Nat.le_of_ble_eq_true rfl) (qc_rml (by decide) (by decide)) ⟨Nat.zero_le _, Nat.zero_le _⟩ ?_
        obtain ⟨rfl, rfl, rfl, rfl, rfl⟩ := qc_some5 h
        exact ⟨qc_fm.rf _, qc_iret (qc_at qkX11_about 16 rfl) rfl (Nat.le_refl _) (Nat.le_refl _) (qc_eq.rf _ _ _)⟩
      · replace h := qc_jn u5 h
        refine qc_by (c := x2 = 2) (fun u7 => ?_) (fun u7 => ?_)
        · refine And.imp_right (fun hx => qc_tabIn (qc_at qkX11_about 6 rfl) 2 (by rw [u7]; rfl) (by decide) rfl rfl hx) ?_
          replace h := qc_jp u7 h
          refine And.imp_right (fun hx => qc_aload_n (qc_at qkX11_about 17 rfl) rfl <| qc_gR (qc_at qkX11_about 18 rfl) hn rfl (qfr_256_0 (c1.1.1 hR)) rfl <| qc_iload_n (qc_at qkX11_about 19 rfl) rfl <| hx) ?_
          obtain ⟨r8, I8, L8, D8, R8, e8, h⟩ := qc_bd_of h
          have c8 := (tX1_leastLike hn (c1.1.1 hR) e8)
          refine qd_cVv (ci := 1) (a0 := 257) (qc_at qkX11_about 20 rfl) ql_11_106 qfX1_leastLike (qc_kf hn rfl) rfl c8 rfl rfl (Nat.le_of_ble_eq_true rfl) (qc_rml (by decide) (by decide)) ⟨Nat.zero_le _, Nat.zero_le _⟩ ?_
          obtain ⟨rfl, rfl, rfl, rfl, rfl⟩ := qc_some5 h
          exact ⟨qc_fm.rf _, qc_iret (qc_at qkX11_about 21 rfl) rfl (Nat.le_refl _) (Nat.le_refl _) (qc_eq.rf _ _ _)⟩
        · replace h := qc_jn u7 h
          have v3 : ¬ Int32.toInt x2 = 0 := fun z => u3 (qc_i32 z rfl)
          have v5 : ¬ Int32.toInt x2 = 1 := fun z => u5 (qc_i32 z rfl)
          have v7 : ¬ Int32.toInt x2 = 2 := fun z => u7 (qc_i32 z rfl)
          refine And.imp_right (fun hx => qc_tabOut (qc_at qkX11_about 6 rfl) (by omega) rfl hx) ?_
          obtain ⟨rfl, rfl, rfl, rfl, rfl⟩ := qc_some5 h
          exact ⟨qc_fm.rf _, qc_bipush (qc_at qkX11_about 22 rfl) <| qc_iret (qc_at qkX11_about 23 rfl) rfl (Nat.le_refl _) (Nat.le_refl _) (qc_eq.rf _ _ _)⟩
  · replace h := qc_jf u2 h
    obtain ⟨rfl, rfl, rfl, rfl, rfl⟩ := qc_some5 h
    exact ⟨qc_fm.rf _, qc_bipush (qc_at qkX11_about 3 rfl) <| qc_iret (qc_at qkX11_about 4 rfl) rfl (Nat.le_refl _) (Nat.le_refl _) (qc_eq.rf _ _ _)⟩
def fX11_feed (w : qcW) (I : qTI) (L : qTL) (D : qTD) (R : qTR) (x1 : Int32) (x2 : Int32) (x3 : Int32) (x4 : Int32) (x5 : Int32) : qcO Int32 :=
  (qc_bd (fX10_hasRoom w I L D R) fun r1 I1 L1 D1 R1 => if r1 = true then (qc_bd (fX10_append w I1 L1 D1 R1 x1) fun r3 I3 L3 D3 R3 => qc_bd (fX10_append w I3 L3 D3 R3 x2) fun r4 I4 L4 D4 R4 => qc_bd (fX10_append w I4 L4 D4 R4 x3) fun r5 I5 L5 D5 R5 => qc_bd (fX10_append w I5 L5 D5 R5 x4) fun r6 I6 L6 D6 R6 => qc_bd (fX10_append w I6 L6 D6 R6 x5) fun r7 I7 L7 D7 R7 => some ((I7 265 1), I7, L7, D7, R7)) else (some ((-2 : Int32), I1, L1, D1, R1)))
set_option maxRecDepth 100000 in
set_option maxHeartbeats 4000000 in
theorem tX11_feed {w : qcW} {I : qTI} {L : qTL} {D : qTD} {R : qTR} {x1 : Int32} {x2 : Int32} {x3 : Int32} {x4 : Int32} {x5 : Int32} {r : Int32} {I' : qTI} {L' : qTL} {D' : qTD} {R' : qTR} (hn : qcNF ≤ w.1) (hR : qc_FR R) (h : fX11_feed w I L D R x1 x2 x3 x4 x5 = some (r, I', L', D', R')) : qc_fm qcSX (I, L, D, R) (I', L', D', R') ∧ qc_V (1) 0 0 qmX11_feed [.ref 256, .int x1, .int x2, .int x3, .int x4, .int x5] w (I, L, D, R) (qc_eq (some (.int r)) w (I', L', D', R')) := by
  unfold fX11_feed at h
  refine And.imp_right (fun hx => qc_V.of rfl rfl (Nat.le_of_ble_eq_true rfl) (lv := [(0, .ref 256), (1, .int x1), (2, .int x2), (3, .int x3), (4, .int x4), (5, .int x5)]) rfl hx) ?_
  refine And.imp_right (fun hx => qc_aload_n (qc_at qkX11_feed 0 rfl) rfl <| qc_gR (qc_at qkX11_feed 1 rfl) hn rfl (qfr_256_1 hR) rfl <| hx) ?_
  obtain ⟨r1, I1, L1, D1, R1, e1, h⟩ := qc_bd_of h
  have c1 := (tX10_hasRoom hn hR e1)
  refine qd_cVv (ci := 8) (a0 := 265) (qc_at qkX11_feed 2 rfl) ql_11_109 qfX10_hasRoom (qc_kf hn rfl) rfl c1 rfl rfl (Nat.le_of_ble_eq_true rfl) (qc_rml (by decide) (by decide)) ⟨Nat.zero_le _, Nat.zero_le _⟩ ?_
  refine qc_andBn (qc_ifB_ne (qc_at qkX11_feed 3 rfl)) (fun u2 => ?_) (fun u2 => ?_)
  · replace h := qc_jt u2 h
    refine And.imp_right (fun hx => qc_aload_n (qc_at qkX11_feed 6 rfl) rfl <| qc_gR (qc_at qkX11_feed 7 rfl) hn rfl (qfr_256_1 (c1.1.1 hR)) rfl <| qc_iload_n (qc_at qkX11_feed 8 rfl) rfl <| hx) ?_
    obtain ⟨r3, I3, L3, D3, R3, e3, h⟩ := qc_bd_of h
    have c3 := (tX10_append hn (c1.1.1 hR) e3)
    refine qd_cVn (ci := 8) (a0 := 265) (qc_at qkX11_feed 9 rfl) ql_11_113 qfX10_append (qc_kf hn rfl) rfl c3 rfl rfl (Nat.le_of_ble_eq_true rfl) (qc_rml (by decide) (by decide)) ⟨Nat.zero_le _, Nat.zero_le _⟩ ?_
    refine And.imp_right (fun hx => qc_aload_n (qc_at qkX11_feed 10 rfl) rfl <| qc_gR (qc_at qkX11_feed 11 rfl) hn rfl (qfr_256_1 (c3.1.1 (c1.1.1 hR))) rfl <| qc_iload_n (qc_at qkX11_feed 12 rfl) rfl <| hx) ?_
    obtain ⟨r4, I4, L4, D4, R4, e4, h⟩ := qc_bd_of h
    have c4 := (tX10_append hn (c3.1.1 (c1.1.1 hR)) e4)
    refine qd_cVn (ci := 8) (a0 := 265) (qc_at qkX11_feed 13 rfl) ql_11_113 qfX10_append (qc_kf hn rfl) rfl c4 rfl rfl (Nat.le_of_ble_eq_true rfl) (qc_rml (by decide) (by decide)) ⟨Nat.zero_le _, Nat.zero_le _⟩ ?_
    refine And.imp_right (fun hx => qc_aload_n (qc_at qkX11_feed 14 rfl) rfl <| qc_gR (qc_at qkX11_feed 15 rfl) hn rfl (qfr_256_1 (c4.1.1 (c3.1.1 (c1.1.1 hR)))) rfl <| qc_iload_n (qc_at qkX11_feed 16 rfl) rfl <| hx) ?_
    obtain ⟨r5, I5, L5, D5, R5, e5, h⟩ := qc_bd_of h
    have c5 := (tX10_append hn (c4.1.1 (c3.1.1 (c1.1.1 hR))) e5)
    refine qd_cVn (ci := 8) (a0 := 265) (qc_at qkX11_feed 17 rfl) ql_11_113 qfX10_append (qc_kf hn rfl) rfl c5 rfl rfl (Nat.le_of_ble_eq_true rfl) (qc_rml (by decide) (by decide)) ⟨Nat.zero_le _, Nat.zero_le _⟩ ?_
    refine And.imp_right (fun hx => qc_aload_n (qc_at qkX11_feed 18 rfl) rfl <| qc_gR (qc_at qkX11_feed 19 rfl) hn rfl (qfr_256_1 (c5.1.1 (c4.1.1 (c3.1.1 (c1.1.1 hR))))) rfl <| qc_iload (qc_at qkX11_feed 20 rfl) rfl <| hx) ?_
    obtain ⟨r6, I6, L6, D6, R6, e6, h⟩ := qc_bd_of h
    have c6 := (tX10_append hn (c5.1.1 (c4.1.1 (c3.1.1 (c1.1.1 hR)))) e6)
    refine qd_cVn (ci := 8) (a0 := 265) (qc_at qkX11_feed 21 rfl) ql_11_113 qfX10_append (qc_kf hn rfl) rfl c6 rfl rfl (Nat.le_of_ble_eq_true rfl) (qc_rml (by decide) (by decide)) ⟨Nat.zero_le _, Nat.zero_le _⟩ ?_
    refine And.imp_right (fun hx => qc_aload_n (qc_at qkX11_feed 22 rfl) rfl <| qc_gR (qc_at qkX11_feed 23 rfl) hn rfl (qfr_256_1 (c6.1.1 (c5.1.1 (c4.1.1 (c3.1.1 (c1.1.1 hR)))))) rfl <| qc_iload (qc_at qkX11_feed 24 rfl) rfl <| hx) ?_
    obtain ⟨r7, I7, L7, D7, R7, e7, h⟩ := qc_bd_of h
    have c7 := (tX10_append hn (c6.1.1 (c5.1.1 (c4.1.1 (c3.1.1 (c1.1.1 hR))))) e7)
    refine qd_cVn (ci := 8) (a0 := 265) (qc_at qkX11_feed 25 rfl) ql_11_113 qfX10_append (qc_kf hn rfl) rfl c7 rfl rfl (Nat.le_of_ble_eq_true rfl) (qc_rml (by decide) (by decide)) ⟨Nat.zero_le _, Nat.zero_le _⟩ ?_
    obtain ⟨rfl, rfl, rfl, rfl, rfl⟩ := qc_some5 h
    exact ⟨qc_fm.rf _, qc_aload_n (qc_at qkX11_feed 26 rfl) rfl <| qc_gR (qc_at qkX11_feed 27 rfl) hn rfl (qfr_256_1 (c7.1.1 (c6.1.1 (c5.1.1 (c4.1.1 (c3.1.1 (c1.1.1 hR))))))) rfl <| qc_gI (qc_at qkX11_feed 28 rfl) hn rfl <| qc_iret (qc_at qkX11_feed 29 rfl) rfl (Nat.le_refl _) (Nat.le_refl _) (qc_eq.rf _ _ _)⟩
  · replace h := qc_jf u2 h
    obtain ⟨rfl, rfl, rfl, rfl, rfl⟩ := qc_some5 h
    exact ⟨qc_fm.rf _, qc_bipush (qc_at qkX11_feed 4 rfl) <| qc_iret (qc_at qkX11_feed 5 rfl) rfl (Nat.le_refl _) (Nat.le_refl _) (qc_eq.rf _ _ _)⟩
def fX11_end (w : qcW) (I : qTI) (L : qTL) (D : qTD) (R : qTR) (x1 : Int32) : qcO Int32 :=
  (qc_bd (fX10_cut w I L D R x1) fun r1 I1 L1 D1 R1 => if r1 = true then (some ((1 : Int32), I1, L1, D1, R1)) else (some ((-1 : Int32), I1, L1, D1, R1)))
set_option maxRecDepth 100000 in
set_option maxHeartbeats 4000000 in
theorem tX11_end {w : qcW} {I : qTI} {L : qTL} {D : qTD} {R : qTR} {x1 : Int32} {r : Int32} {I' : qTI} {L' : qTL} {D' : qTD} {R' : qTR} (hn : qcNF ≤ w.1) (hR : qc_FR R) (h : fX11_end w I L D R x1 = some (r, I', L', D', R')) : qc_fm qcSX (I, L, D, R) (I', L', D', R') ∧ qc_V (1) 0 0 qmX11_end [.ref 256, .int x1] w (I, L, D, R) (qc_eq (some (.int r)) w (I', L', D', R')) := by
  unfold fX11_end at h
  refine And.imp_right (fun hx => qc_V.of rfl rfl (Nat.le_of_ble_eq_true rfl) (lv := [(0, .ref 256), (1, .int x1)]) rfl hx) ?_
  refine And.imp_right (fun hx => qc_aload_n (qc_at qkX11_end 0 rfl) rfl <| qc_gR (qc_at qkX11_end 1 rfl) hn rfl (qfr_256_1 hR) rfl <| qc_iload_n (qc_at qkX11_end 2 rfl) rfl <| hx) ?_
  obtain ⟨r1, I1, L1, D1, R1, e1, h⟩ := qc_bd_of h
  have c1 := (tX10_cut hn hR e1)
  refine qd_cVv (ci := 8) (a0 := 265) (qc_at qkX11_end 3 rfl) ql_11_120 qfX10_cut (qc_kf hn rfl) rfl c1 rfl rfl (Nat.le_of_ble_eq_true rfl) (qc_rml (by decide) (by decide)) ⟨Nat.zero_le _, Nat.zero_le _⟩ ?_
  refine qc_andB (qc_ifB_eq (qc_at qkX11_end 4 rfl)) (fun u2 => ?_) (fun u2 => ?_)
  · replace h := qc_jf u2 h
    obtain ⟨rfl, rfl, rfl, rfl, rfl⟩ := qc_some5 h
    exact ⟨qc_fm.rf _, qc_iconst (qc_at qkX11_end 7 rfl) <| qc_iret (qc_at qkX11_end 8 rfl) rfl (Nat.le_refl _) (Nat.le_refl _) (qc_eq.rf _ _ _)⟩
  · replace h := qc_jt u2 h
    obtain ⟨rfl, rfl, rfl, rfl, rfl⟩ := qc_some5 h
    exact ⟨qc_fm.rf _, qc_iconst (qc_at qkX11_end 5 rfl) <| qc_goto (qc_at qkX11_end 6 rfl) <| qc_iret (qc_at qkX11_end 8 rfl) rfl (Nat.le_refl _) (Nat.le_refl _) (qc_eq.rf _ _ _)⟩
def fX11_fault (w : qcW) (I : qTI) (L : qTL) (D : qTD) (R : qTR) : qcO Int32 :=
  (some ((I 256 8), I, L, D, R))
set_option maxRecDepth 100000 in
set_option maxHeartbeats 4000000 in
theorem tX11_fault {w : qcW} {I : qTI} {L : qTL} {D : qTD} {R : qTR} {r : Int32} {I' : qTI} {L' : qTL} {D' : qTD} {R' : qTR} (hn : qcNF ≤ w.1) (hR : qc_FR R) (h : fX11_fault w I L D R = some (r, I', L', D', R')) : qc_fm qcSX (I, L, D, R) (I', L', D', R') ∧ qc_V (0) 0 0 qmX11_fault [.ref 256] w (I, L, D, R) (qc_eq (some (.int r)) w (I', L', D', R')) := by
  unfold fX11_fault at h
  refine And.imp_right (fun hx => qc_V.of rfl rfl (Nat.le_of_ble_eq_true rfl) (lv := [(0, .ref 256)]) rfl hx) ?_
  obtain ⟨rfl, rfl, rfl, rfl, rfl⟩ := qc_some5 h
  exact ⟨qc_fm.rf _, qc_aload_n (qc_at qkX11_fault 0 rfl) rfl <| qc_gI (qc_at qkX11_fault 1 rfl) hn rfl <| qc_iret (qc_at qkX11_fault 2 rfl) rfl (Nat.le_refl _) (Nat.le_refl _) (qc_eq.rf _ _ _)⟩
def fX11_queryAt (w : qcW) (I : qTI) (L : qTL) (D : qTD) (R : qTR) (x1 : Int32) : qcO Nat :=
  (if x1 < 0 then (some (255, I, L, D, R)) else (if (I 256 6) ≤ x1 then (some (255, I, L, D, R)) else (qc_gd (qc_inb x1 12) <| qc_gd (qc_io w (R 290 (Int32.toNatClampNeg x1)) 6) <| some ((R 290 (Int32.toNatClampNeg x1)), I, L, D, R))))
set_option maxRecDepth 100000 in
set_option maxHeartbeats 4000000 in
theorem tX11_queryAt {w : qcW} {I : qTI} {L : qTL} {D : qTD} {R : qTR} {x1 : Int32} {r : Nat} {I' : qTI} {L' : qTL} {D' : qTD} {R' : qTR} (hn : qcNF ≤ w.1) (hR : qc_FR R) (h : fX11_queryAt w I L D R x1 = some (r, I', L', D', R')) : qc_fm qcSX (I, L, D, R) (I', L', D', R') ∧ qc_V (0) 0 0 qmX11_queryAt [.ref 256, .int x1] w (I, L, D, R) (qc_eq (some (qc_rv r)) w (I', L', D', R')) := by
  unfold fX11_queryAt at h
  refine And.imp_right (fun hx => qc_V.of rfl rfl (Nat.le_of_ble_eq_true rfl) (lv := [(0, .ref 256), (1, .int x1)]) rfl hx) ?_
  refine And.imp_right (fun hx => qc_iload_n (qc_at qkX11_queryAt 0 rfl) rfl <| hx) ?_
  refine qc_andC (qc_if_lt (qc_at qkX11_queryAt 1 rfl)) (fun u1 => ?_) (fun u1 => ?_)
  · replace h := qc_jp u1 h
    obtain ⟨rfl, rfl, rfl, rfl, rfl⟩ := qc_some5 h
    exact ⟨qc_fm.rf _, qc_aconst_null (qc_at qkX11_queryAt 11 rfl) <| qc_aret (qc_at qkX11_queryAt 12 rfl) rfl (Or.inl ⟨_, rfl⟩) (Or.inl rfl) (Nat.le_refl _) (Nat.le_refl _) ⟨rfl, rfl, rfl⟩⟩
  · replace h := qc_jn u1 h
    refine And.imp_right (fun hx => qc_iload_n (qc_at qkX11_queryAt 2 rfl) rfl <| qc_aload_n (qc_at qkX11_queryAt 3 rfl) rfl <| qc_gI (qc_at qkX11_queryAt 4 rfl) hn rfl <| hx) ?_
    refine qc_andC (qc_icmp_ge (qc_at qkX11_queryAt 5 rfl)) (fun u2 => ?_) (fun u2 => ?_)
    · replace h := qc_jp u2 h
      obtain ⟨rfl, rfl, rfl, rfl, rfl⟩ := qc_some5 h
      exact ⟨qc_fm.rf _, qc_aconst_null (qc_at qkX11_queryAt 11 rfl) <| qc_aret (qc_at qkX11_queryAt 12 rfl) rfl (Or.inl ⟨_, rfl⟩) (Or.inl rfl) (Nat.le_refl _) (Nat.le_refl _) ⟨rfl, rfl, rfl⟩⟩
    · replace h := qc_jn u2 h
      refine And.imp_right (fun hx => qc_aload_n (qc_at qkX11_queryAt 6 rfl) rfl <| qc_gR (qc_at qkX11_queryAt 7 rfl) hn rfl (qfr_256_5 hR) rfl <| qc_iload_n (qc_at qkX11_queryAt 8 rfl) rfl <| hx) ?_
      obtain ⟨g3, h⟩ := qc_gd_of h
      obtain ⟨g4, h⟩ := qc_gd_of h
      replace g4 := qc_io_of g4
      obtain ⟨rfl, rfl, rfl, rfl, rfl⟩ := qc_some5 h
      exact ⟨qc_fm.rf _, qc_aald 1 (Or.inr rfl) (qc_at qkX11_queryAt 9 rfl) (qc_kaf hn rfl) (qc_inb_in (n := 12) g3) rfl (qc_ki255 g4) <| qc_goto (qc_at qkX11_queryAt 10 rfl) <| qc_aret (qc_at qkX11_queryAt 12 rfl) rfl (Or.inl ⟨_, rfl⟩) (Or.inr ⟨_, rfl⟩) (Nat.le_refl _) (Nat.le_refl _) ⟨by rw [qc_rv_ki g4], rfl, rfl⟩⟩
def fX11_acts (w : qcW) (I : qTI) (L : qTL) (D : qTD) (R : qTR) (x1 : Int32) (x2 : Int32) : qcO Int32 :=
  (qc_bd (fX11_queryAt w I L D R x1) fun r1 I1 L1 D1 R1 => if Nat.beq r1 255 = true then (some ((-1 : Int32), I1, L1, D1, R1)) else (qc_gd (qc_io w r1 6) <| (if x2 < 0 then (some ((-1 : Int32), I1, L1, D1, R1)) else (if x2 < (3 : Int32) then (qc_bd (fX7_size w I1 L1 D1 R1 r1 x2) fun r6 I6 L6 D6 R6 => some (r6, I6, L6, D6, R6)) else (some ((-1 : Int32), I1, L1, D1, R1))))))
set_option maxRecDepth 100000 in
set_option maxHeartbeats 4000000 in
theorem tX11_acts {w : qcW} {I : qTI} {L : qTL} {D : qTD} {R : qTR} {x1 : Int32} {x2 : Int32} {r : Int32} {I' : qTI} {L' : qTL} {D' : qTD} {R' : qTR} (hn : qcNF ≤ w.1) (hR : qc_FR R) (h : fX11_acts w I L D R x1 x2 = some (r, I', L', D', R')) : qc_fm qcSX (I, L, D, R) (I', L', D', R') ∧ qc_V (1) 0 0 qmX11_acts [.ref 256, .int x1, .int x2] w (I, L, D, R) (qc_eq (some (.int r)) w (I', L', D', R')) := by
  unfold fX11_acts at h
  refine And.imp_right (fun hx => qc_V.of rfl rfl (Nat.le_of_ble_eq_true rfl) (lv := [(0, .ref 256), (1, .int x1), (2, .int x2)]) rfl hx) ?_
  refine And.imp_right (fun hx => qc_aload_n (qc_at qkX11_acts 0 rfl) rfl <| qc_iload_n (qc_at qkX11_acts 1 rfl) rfl <| hx) ?_
  obtain ⟨r1, I1, L1, D1, R1, e1, h⟩ := qc_bd_of h
  have c1 := (tX11_queryAt hn hR e1)
  refine qc_by (c := Nat.beq r1 255 = true) (fun u2 => ?_) (fun u2 => ?_)
  · replace h := qc_jp u2 h
    rw [qc_rv_n u2] at c1
    refine qd_cVv (ci := 9) (a0 := 256) (qc_at qkX11_acts 2 rfl) ql_11_134 qfX11_queryAt (qc_kf hn rfl) rfl c1 rfl rfl (Nat.le_of_ble_eq_true rfl) (qc_rml (by decide) (by decide)) ⟨Nat.zero_le _, Nat.zero_le _⟩ ?_
    obtain ⟨rfl, rfl, rfl, rfl, rfl⟩ := qc_some5 h
    exact ⟨qc_fm.rf _, qc_astore_nN (lv' := [(3, _), (0, _), (1, _), (2, _)]) (qc_at qkX11_acts 3 rfl) rfl rfl <| qc_aload_nN (qc_at qkX11_acts 4 rfl) rfl <| qc_ifnullN (qc_at qkX11_acts 5 rfl) <| qc_iconst (qc_at qkX11_acts 11 rfl) <| qc_iret (qc_at qkX11_acts 12 rfl) rfl (Nat.le_refl _) (Nat.le_refl _) (qc_eq.rf _ _ _)⟩
  · replace h := qc_jn u2 h
    obtain ⟨g3, h⟩ := qc_gd_of h
    replace g3 := qc_io_of g3
    rw [qc_rv_ki g3] at c1
    refine qd_cVv (ci := 9) (a0 := 256) (qc_at qkX11_acts 2 rfl) ql_11_134 qfX11_queryAt (qc_kf hn rfl) rfl c1 rfl rfl (Nat.le_of_ble_eq_true rfl) (qc_rml (by decide) (by decide)) ⟨Nat.zero_le _, Nat.zero_le _⟩ ?_
    refine And.imp_right (fun hx => qc_astore_n (lv' := [(3, _), (0, _), (1, _), (2, _)]) (qc_at qkX11_acts 3 rfl) rfl rfl <| qc_aload_n (qc_at qkX11_acts 4 rfl) rfl <| qc_ifnull (qc_at qkX11_acts 5 rfl) <| qc_iload_n (qc_at qkX11_acts 6 rfl) rfl <| hx) ?_
    refine qc_andC (qc_if_lt (qc_at qkX11_acts 7 rfl)) (fun u4 => ?_) (fun u4 => ?_)
    · replace h := qc_jp u4 h
      obtain ⟨rfl, rfl, rfl, rfl, rfl⟩ := qc_some5 h
      exact ⟨qc_fm.rf _, qc_iconst (qc_at qkX11_acts 11 rfl) <| qc_iret (qc_at qkX11_acts 12 rfl) rfl (Nat.le_refl _) (Nat.le_refl _) (qc_eq.rf _ _ _)⟩
    · replace h := qc_jn u4 h
      refine And.imp_right (fun hx => qc_iload_n (qc_at qkX11_acts 8 rfl) rfl <| qc_iconst (qc_at qkX11_acts 9 rfl) <| hx) ?_
      refine qc_andC (qc_icmp_lt (qc_at qkX11_acts 10 rfl)) (fun u5 => ?_) (fun u5 => ?_)
      · replace h := qc_jp u5 h
        refine And.imp_right (fun hx => qc_aload_n (qc_at qkX11_acts 13 rfl) rfl <| qc_iload_n (qc_at qkX11_acts 14 rfl) rfl <| hx) ?_
        obtain ⟨r6, I6, L6, D6, R6, e6, h⟩ := qc_bd_of h
        have c6 := (tX7_size hn (c1.1.1 hR) e6)
        refine qd_cVv (ci := 6) (qc_at qkX11_acts 15 rfl) ql_11_138 qfX7_size g3 rfl c6 rfl rfl (Nat.le_of_ble_eq_true rfl) (qc_rml (by decide) (by decide)) ⟨Nat.zero_le _, Nat.zero_le _⟩ ?_
        obtain ⟨rfl, rfl, rfl, rfl, rfl⟩ := qc_some5 h
        exact ⟨qc_fm.rf _, qc_iret (qc_at qkX11_acts 16 rfl) rfl (Nat.le_refl _) (Nat.le_refl _) (qc_eq.rf _ _ _)⟩
      · replace h := qc_jn u5 h
        obtain ⟨rfl, rfl, rfl, rfl, rfl⟩ := qc_some5 h
        exact ⟨qc_fm.rf _, qc_iconst (qc_at qkX11_acts 11 rfl) <| qc_iret (qc_at qkX11_acts 12 rfl) rfl (Nat.le_refl _) (Nat.le_refl _) (qc_eq.rf _ _ _)⟩
def fX11_act (w : qcW) (I : qTI) (L : qTL) (D : qTD) (R : qTR) (x1 : Int32) (x2 : Int32) (x3 : Int32) (x4 : Int32) : qcO Int32 :=
  (qc_bd (fX11_queryAt w I L D R x1) fun r1 I1 L1 D1 R1 => if Nat.beq r1 255 = true then (some ((-2 : Int32), I1, L1, D1, R1)) else (qc_gd (qc_io w r1 6) <| (if x2 < 0 then (some ((-2 : Int32), I1, L1, D1, R1)) else (if (3 : Int32) ≤ x2 then (some ((-2 : Int32), I1, L1, D1, R1)) else (if x3 < 0 then (some ((-2 : Int32), I1, L1, D1, R1)) else (qc_bd (fX7_size w I1 L1 D1 R1 r1 x2) fun r7 I7 L7 D7 R7 => if x3 < r7 then (if x4 = 0 then (qc_bd (fX7_op w I7 L7 D7 R7 r1 x2 x3) fun r12 I12 L12 D12 R12 => some (r12, I12, L12, D12, R12)) else (if x4 = (1 : Int32) then (qc_bd (fX7_number w I7 L7 D7 R7 r1 x2 x3) fun r11 I11 L11 D11 R11 => some (r11, I11, L11, D11, R11)) else (some ((-2 : Int32), I7, L7, D7, R7)))) else (some ((-2 : Int32), I7, L7, D7, R7))))))))
set_option maxRecDepth 100000 in
set_option maxHeartbeats 4000000 in
theorem tX11_act {w : qcW} {I : qTI} {L : qTL} {D : qTD} {R : qTR} {x1 : Int32} {x2 : Int32} {x3 : Int32} {x4 : Int32} {r : Int32} {I' : qTI} {L' : qTL} {D' : qTD} {R' : qTR} (hn : qcNF ≤ w.1) (hR : qc_FR R) (h : fX11_act w I L D R x1 x2 x3 x4 = some (r, I', L', D', R')) : qc_fm qcSX (I, L, D, R) (I', L', D', R') ∧ qc_V (1) 0 0 qmX11_act [.ref 256, .int x1, .int x2, .int x3, .int x4] w (I, L, D, R) (qc_eq (some (.int r)) w (I', L', D', R')) := by
  unfold fX11_act at h
  refine And.imp_right (fun hx => qc_V.of rfl rfl (Nat.le_of_ble_eq_true rfl) (lv := [(0, .ref 256), (1, .int x1), (2, .int x2), (3, .int x3), (4, .int x4)]) rfl hx) ?_
  refine And.imp_right (fun hx => qc_aload_n (qc_at qkX11_act 0 rfl) rfl <| qc_iload_n (qc_at qkX11_act 1 rfl) rfl <| hx) ?_
  obtain ⟨r1, I1, L1, D1, R1, e1, h⟩ := qc_bd_of h
  have c1 := (tX11_queryAt hn hR e1)
  refine qc_by (c := Nat.beq r1 255 = true) (fun u2 => ?_) (fun u2 => ?_)
  · replace h := qc_jp u2 h
    rw [qc_rv_n u2] at c1
    refine qd_cVv (ci := 9) (a0 := 256) (qc_at qkX11_act 2 rfl) ql_11_134 qfX11_queryAt (qc_kf hn rfl) rfl c1 rfl rfl (Nat.le_of_ble_eq_true rfl) (qc_rml (by decide) (by decide)) ⟨Nat.zero_le _, Nat.zero_le _⟩ ?_
    obtain ⟨rfl, rfl, rfl, rfl, rfl⟩ := qc_some5 h
    exact ⟨qc_fm.rf _, qc_astoreN (lv' := [(5, _), (0, _), (1, _), (2, _), (3, _), (4, _)]) (qc_at qkX11_act 3 rfl) rfl rfl <| qc_aloadN (qc_at qkX11_act 4 rfl) rfl <| qc_ifnullN (qc_at qkX11_act 5 rfl) <| qc_bipush (qc_at qkX11_act 18 rfl) <| qc_iret (qc_at qkX11_act 19 rfl) rfl (Nat.le_refl _) (Nat.le_refl _) (qc_eq.rf _ _ _)⟩
  · replace h := qc_jn u2 h
    obtain ⟨g3, h⟩ := qc_gd_of h
    replace g3 := qc_io_of g3
    rw [qc_rv_ki g3] at c1
    refine qd_cVv (ci := 9) (a0 := 256) (qc_at qkX11_act 2 rfl) ql_11_134 qfX11_queryAt (qc_kf hn rfl) rfl c1 rfl rfl (Nat.le_of_ble_eq_true rfl) (qc_rml (by decide) (by decide)) ⟨Nat.zero_le _, Nat.zero_le _⟩ ?_
    refine And.imp_right (fun hx => qc_astore (lv' := [(5, _), (0, _), (1, _), (2, _), (3, _), (4, _)]) (qc_at qkX11_act 3 rfl) rfl rfl <| qc_aload (qc_at qkX11_act 4 rfl) rfl <| qc_ifnull (qc_at qkX11_act 5 rfl) <| qc_iload_n (qc_at qkX11_act 6 rfl) rfl <| hx) ?_
    refine qc_andC (qc_if_lt (qc_at qkX11_act 7 rfl)) (fun u4 => ?_) (fun u4 => ?_)
    · replace h := qc_jp u4 h
      obtain ⟨rfl, rfl, rfl, rfl, rfl⟩ := qc_some5 h
      exact ⟨qc_fm.rf _, qc_bipush (qc_at qkX11_act 18 rfl) <| qc_iret (qc_at qkX11_act 19 rfl) rfl (Nat.le_refl _) (Nat.le_refl _) (qc_eq.rf _ _ _)⟩
    · replace h := qc_jn u4 h
      refine And.imp_right (fun hx => qc_iload_n (qc_at qkX11_act 8 rfl) rfl <| qc_iconst (qc_at qkX11_act 9 rfl) <| hx) ?_
      refine qc_andC (qc_icmp_ge (qc_at qkX11_act 10 rfl)) (fun u5 => ?_) (fun u5 => ?_)
      · replace h := qc_jp u5 h
        obtain ⟨rfl, rfl, rfl, rfl, rfl⟩ := qc_some5 h
        exact ⟨qc_fm.rf _, qc_bipush (qc_at qkX11_act 18 rfl) <| qc_iret (qc_at qkX11_act 19 rfl) rfl (Nat.le_refl _) (Nat.le_refl _) (qc_eq.rf _ _ _)⟩
      · replace h := qc_jn u5 h
        refine And.imp_right (fun hx => qc_iload_n (qc_at qkX11_act 11 rfl) rfl <| hx) ?_
        refine qc_andC (qc_if_lt (qc_at qkX11_act 12 rfl)) (fun u6 => ?_) (fun u6 => ?_)
        · replace h := qc_jp u6 h
          obtain ⟨rfl, rfl, rfl, rfl, rfl⟩ := qc_some5 h
          exact ⟨qc_fm.rf _, qc_bipush (qc_at qkX11_act 18 rfl) <| qc_iret (qc_at qkX11_act 19 rfl) rfl (Nat.le_refl _) (Nat.le_refl _) (qc_eq.rf _ _ _)⟩
        · replace h := qc_jn u6 h
          refine And.imp_right (fun hx => qc_iload_n (qc_at qkX11_act 13 rfl) rfl <| qc_aload (qc_at qkX11_act 14 rfl) rfl <| qc_iload_n (qc_at qkX11_act 15 rfl) rfl <| hx) ?_
          obtain ⟨r7, I7, L7, D7, R7, e7, h⟩ := qc_bd_of h
          have c7 := (tX7_size hn (c1.1.1 hR) e7)
          refine qd_cVv (ci := 6) (qc_at qkX11_act 16 rfl) ql_11_138 qfX7_size g3 rfl c7 rfl rfl (Nat.le_of_ble_eq_true rfl) (qc_rml (by decide) (by decide)) ⟨Nat.zero_le _, Nat.zero_le _⟩ ?_
          refine qc_andC (qc_icmp_lt (qc_at qkX11_act 17 rfl)) (fun u8 => ?_) (fun u8 => ?_)
          · replace h := qc_jp u8 h
            refine And.imp_right (fun hx => qc_iload (qc_at qkX11_act 20 rfl) rfl <| hx) ?_
            refine qc_andN (qc_if_ne (qc_at qkX11_act 21 rfl)) (fun u9 => ?_) (fun u9 => ?_)
            · replace h := qc_jn u9 h
              refine And.imp_right (fun hx => qc_iload (qc_at qkX11_act 27 rfl) rfl <| qc_iconst (qc_at qkX11_act 28 rfl) <| hx) ?_
              refine qc_andN (qc_icmp_ne (qc_at qkX11_act 29 rfl)) (fun u10 => ?_) (fun u10 => ?_)
              · replace h := qc_jn u10 h
                obtain ⟨rfl, rfl, rfl, rfl, rfl⟩ := qc_some5 h
                exact ⟨qc_fm.rf _, qc_bipush (qc_at qkX11_act 35 rfl) <| qc_iret (qc_at qkX11_act 36 rfl) rfl (Nat.le_refl _) (Nat.le_refl _) (qc_eq.rf _ _ _)⟩
              · replace h := qc_jp u10 h
                refine And.imp_right (fun hx => qc_aload (qc_at qkX11_act 30 rfl) rfl <| qc_iload_n (qc_at qkX11_act 31 rfl) rfl <| qc_iload_n (qc_at qkX11_act 32 rfl) rfl <| hx) ?_
                obtain ⟨r11, I11, L11, D11, R11, e11, h⟩ := qc_bd_of h
                have c11 := (tX7_number hn (c7.1.1 (c1.1.1 hR)) e11)
                refine qd_cVv (ci := 6) (qc_at qkX11_act 33 rfl) ql_11_145 qfX7_number g3 rfl c11 rfl rfl (Nat.le_of_ble_eq_true rfl) (qc_rml (by decide) (by decide)) ⟨Nat.zero_le _, Nat.zero_le _⟩ ?_
                obtain ⟨rfl, rfl, rfl, rfl, rfl⟩ := qc_some5 h
                exact ⟨qc_fm.rf _, qc_goto (qc_at qkX11_act 34 rfl) <| qc_iret (qc_at qkX11_act 36 rfl) rfl (Nat.le_refl _) (Nat.le_refl _) (qc_eq.rf _ _ _)⟩
            · replace h := qc_jp u9 h
              refine And.imp_right (fun hx => qc_aload (qc_at qkX11_act 22 rfl) rfl <| qc_iload_n (qc_at qkX11_act 23 rfl) rfl <| qc_iload_n (qc_at qkX11_act 24 rfl) rfl <| hx) ?_
              obtain ⟨r12, I12, L12, D12, R12, e12, h⟩ := qc_bd_of h
              have c12 := (tX7_op hn (c7.1.1 (c1.1.1 hR)) e12)
              refine qd_cVv (ci := 6) (qc_at qkX11_act 25 rfl) ql_11_141 qfX7_op g3 rfl c12 rfl rfl (Nat.le_of_ble_eq_true rfl) (qc_rml (by decide) (by decide)) ⟨Nat.zero_le _, Nat.zero_le _⟩ ?_
              obtain ⟨rfl, rfl, rfl, rfl, rfl⟩ := qc_some5 h
              exact ⟨qc_fm.rf _, qc_iret (qc_at qkX11_act 26 rfl) rfl (Nat.le_refl _) (Nat.le_refl _) (qc_eq.rf _ _ _)⟩
          · replace h := qc_jn u8 h
            obtain ⟨rfl, rfl, rfl, rfl, rfl⟩ := qc_some5 h
            exact ⟨qc_fm.rf _, qc_bipush (qc_at qkX11_act 18 rfl) <| qc_iret (qc_at qkX11_act 19 rfl) rfl (Nat.le_refl _) (Nat.le_refl _) (qc_eq.rf _ _ _)⟩
def fX11_run (w : qcW) (I : qTI) (L : qTL) (D : qTD) (R : qTR) (x1 : Int32) : qcO Int32 :=
  (qc_bd (fX11_queryAt w I L D R x1) fun r1 I1 L1 D1 R1 => if Nat.beq r1 255 = true then (some ((-1 : Int32), I1, L1, D1, R1)) else (qc_gd (qc_io w r1 6) <| (qc_bd (fX4_go w I1 L1 D1 R1 r1 x1 (I1 256 7)) fun r4 I4 L4 D4 R4 => some (r4, I4, L4, D4, R4))))
set_option maxRecDepth 100000 in
set_option maxHeartbeats 4000000 in
theorem tX11_run {w : qcW} {I : qTI} {L : qTL} {D : qTD} {R : qTR} {x1 : Int32} {r : Int32} {I' : qTI} {L' : qTL} {D' : qTD} {R' : qTR} (hn : qcNF ≤ w.1) (hR : qc_FR R) (h : fX11_run w I L D R x1 = some (r, I', L', D', R')) : qc_fm qcSX (I, L, D, R) (I', L', D', R') ∧ qc_V (7) 0 0 qmX11_run [.ref 256, .int x1] w (I, L, D, R) (qc_eq (some (.int r)) w (I', L', D', R')) := by
  unfold fX11_run at h
  refine And.imp_right (fun hx => qc_V.of rfl rfl (Nat.le_of_ble_eq_true rfl) (lv := [(0, .ref 256), (1, .int x1)]) rfl hx) ?_
  refine And.imp_right (fun hx => qc_aload_n (qc_at qkX11_run 0 rfl) rfl <| qc_iload_n (qc_at qkX11_run 1 rfl) rfl <| hx) ?_
  obtain ⟨r1, I1, L1, D1, R1, e1, h⟩ := qc_bd_of h
  have c1 := (tX11_queryAt hn hR e1)
  refine qc_by (c := Nat.beq r1 255 = true) (fun u2 => ?_) (fun u2 => ?_)
  · replace h := qc_jp u2 h
    rw [qc_rv_n u2] at c1
    refine qd_cVv (ci := 9) (a0 := 256) (qc_at qkX11_run 2 rfl) ql_11_134 qfX11_queryAt (qc_kf hn rfl) rfl c1 rfl rfl (Nat.le_of_ble_eq_true rfl) (qc_rml (by decide) (by decide)) ⟨Nat.zero_le _, Nat.zero_le _⟩ ?_
    obtain ⟨rfl, rfl, rfl, rfl, rfl⟩ := qc_some5 h
    exact ⟨qc_fm.rf _, qc_astore_nN (lv' := [(2, _), (0, _), (1, _)]) (qc_at qkX11_run 3 rfl) rfl rfl <| qc_aload_nN (qc_at qkX11_run 4 rfl) rfl <| qc_ifnonnullN (qc_at qkX11_run 5 rfl) <| qc_iconst (qc_at qkX11_run 6 rfl) <| qc_iret (qc_at qkX11_run 7 rfl) rfl (Nat.le_refl _) (Nat.le_refl _) (qc_eq.rf _ _ _)⟩
  · replace h := qc_jn u2 h
    obtain ⟨g3, h⟩ := qc_gd_of h
    replace g3 := qc_io_of g3
    rw [qc_rv_ki g3] at c1
    refine qd_cVv (ci := 9) (a0 := 256) (qc_at qkX11_run 2 rfl) ql_11_134 qfX11_queryAt (qc_kf hn rfl) rfl c1 rfl rfl (Nat.le_of_ble_eq_true rfl) (qc_rml (by decide) (by decide)) ⟨Nat.zero_le _, Nat.zero_le _⟩ ?_
    refine And.imp_right (fun hx => qc_astore_n (lv' := [(2, _), (0, _), (1, _)]) (qc_at qkX11_run 3 rfl) rfl rfl <| qc_aload_n (qc_at qkX11_run 4 rfl) rfl <| qc_ifnonnull (qc_at qkX11_run 5 rfl) <| qc_aload_n (qc_at qkX11_run 8 rfl) rfl <| qc_gR (qc_at qkX11_run 9 rfl) hn rfl (qfr_256_4 (c1.1.1 hR)) rfl <| qc_aload_n (qc_at qkX11_run 10 rfl) rfl <| qc_iload_n (qc_at qkX11_run 11 rfl) rfl <| qc_aload_n (qc_at qkX11_run 12 rfl) rfl <| qc_gI (qc_at qkX11_run 13 rfl) hn rfl <| hx) ?_
    obtain ⟨r4, I4, L4, D4, R4, e4, h⟩ := qc_bd_of h
    have c4 := (tX4_go hn (c1.1.1 hR) e4)
    refine qd_cVv (ci := 4) (a0 := 286) (qc_at qkX11_run 14 rfl) ql_11_148 qfX4_go (qc_kf hn rfl) rfl c4 rfl rfl (Nat.le_of_ble_eq_true rfl) (qc_rml (by decide) (by decide)) ⟨Nat.zero_le _, Nat.zero_le _⟩ ?_
    obtain ⟨rfl, rfl, rfl, rfl, rfl⟩ := qc_some5 h
    exact ⟨qc_fm.rf _, qc_iret (qc_at qkX11_run 15 rfl) rfl (Nat.le_refl _) (Nat.le_refl _) (qc_eq.rf _ _ _)⟩
def fX11_told (w : qcW) (I : qTI) (L : qTL) (D : qTD) (R : qTR) (x1 : Int32) : qcO Int32 :=
  (if x1 = 0 then (some ((I 280 1), I, L, D, R)) else if x1 = 1 then (some ((I 280 2), I, L, D, R)) else if x1 = 2 then (some ((I 280 3), I, L, D, R)) else if x1 = 3 then (some ((I 280 4), I, L, D, R)) else if x1 = 4 then (some ((I 280 5), I, L, D, R)) else if x1 = 5 then (some ((I 280 0), I, L, D, R)) else (some ((-2 : Int32), I, L, D, R)))
set_option maxRecDepth 100000 in
set_option maxHeartbeats 4000000 in
theorem tX11_told {w : qcW} {I : qTI} {L : qTL} {D : qTD} {R : qTR} {x1 : Int32} {r : Int32} {I' : qTI} {L' : qTL} {D' : qTD} {R' : qTR} (hn : qcNF ≤ w.1) (hR : qc_FR R) (h : fX11_told w I L D R x1 = some (r, I', L', D', R')) : qc_fm qcSX (I, L, D, R) (I', L', D', R') ∧ qc_V (0) 0 0 qmX11_told [.ref 256, .int x1] w (I, L, D, R) (qc_eq (some (.int r)) w (I', L', D', R')) := by
  unfold fX11_told at h
  refine And.imp_right (fun hx => qc_V.of rfl rfl (Nat.le_of_ble_eq_true rfl) (lv := [(0, .ref 256), (1, .int x1)]) rfl hx) ?_
  refine And.imp_right (fun hx => qc_iload_n (qc_at qkX11_told 0 rfl) rfl <| hx) ?_
  refine qc_by (c := x1 = 0) (fun u1 => ?_) (fun u1 => ?_)
  · refine And.imp_right (fun hx => qc_tabIn (qc_at qkX11_told 1 rfl) 0 (by rw [u1]; rfl) (by decide) rfl rfl hx) ?_
    replace h := qc_jp u1 h
    obtain ⟨rfl, rfl, rfl, rfl, rfl⟩ := qc_some5 h
    exact ⟨qc_fm.rf _, qc_aload_n (qc_at qkX11_told 2 rfl) rfl <| qc_gR (qc_at qkX11_told 3 rfl) hn rfl (qfr_256_3 hR) rfl <| qc_gI (qc_at qkX11_told 4 rfl) hn rfl <| qc_iret (qc_at qkX11_told 5 rfl) rfl (Nat.le_refl _) (Nat.le_refl _) (qc_eq.rf _ _ _)⟩
  · replace h := qc_jn u1 h
    refine qc_by (c := x1 = 1) (fun u2 => ?_) (fun u2 => ?_)
    · refine And.imp_right (fun hx => qc_tabIn (qc_at qkX11_told 1 rfl) 1 (by rw [u2]; rfl) (by decide) rfl rfl hx) ?_
      replace h := qc_jp u2 h
      obtain ⟨rfl, rfl, rfl, rfl, rfl⟩ := qc_some5 h
      exact ⟨qc_fm.rf _, qc_aload_n (qc_at qkX11_told 6 rfl) rfl <| qc_gR (qc_at qkX11_told 7 rfl) hn rfl (qfr_256_3 hR) rfl <| qc_gI (qc_at qkX11_told 8 rfl) hn rfl <| qc_iret (qc_at qkX11_told 9 rfl) rfl (Nat.le_refl _) (Nat.le_refl _) (qc_eq.rf _ _ _)⟩
    · replace h := qc_jn u2 h
      refine qc_by (c := x1 = 2) (fun u3 => ?_) (fun u3 => ?_)
      · refine And.imp_right (fun hx => qc_tabIn (qc_at qkX11_told 1 rfl) 2 (by rw [u3]; rfl) (by decide) rfl rfl hx) ?_
        replace h := qc_jp u3 h
        obtain ⟨rfl, rfl, rfl, rfl, rfl⟩ := qc_some5 h
        exact ⟨qc_fm.rf _, qc_aload_n (qc_at qkX11_told 10 rfl) rfl <| qc_gR (qc_at qkX11_told 11 rfl) hn rfl (qfr_256_3 hR) rfl <| qc_gI (qc_at qkX11_told 12 rfl) hn rfl <| qc_iret (qc_at qkX11_told 13 rfl) rfl (Nat.le_refl _) (Nat.le_refl _) (qc_eq.rf _ _ _)⟩
      · replace h := qc_jn u3 h
        refine qc_by (c := x1 = 3) (fun u4 => ?_) (fun u4 => ?_)
        · refine And.imp_right (fun hx => qc_tabIn (qc_at qkX11_told 1 rfl) 3 (by rw [u4]; rfl) (by decide) rfl rfl hx) ?_
          replace h := qc_jp u4 h
          obtain ⟨rfl, rfl, rfl, rfl, rfl⟩ := qc_some5 h
          exact ⟨qc_fm.rf _, qc_aload_n (qc_at qkX11_told 14 rfl) rfl <| qc_gR (qc_at qkX11_told 15 rfl) hn rfl (qfr_256_3 hR) rfl <| qc_gI (qc_at qkX11_told 16 rfl) hn rfl <| qc_iret (qc_at qkX11_told 17 rfl) rfl (Nat.le_refl _) (Nat.le_refl _) (qc_eq.rf _ _ _)⟩
        · replace h := qc_jn u4 h
          refine qc_by (c := x1 = 4) (fun u5 => ?_) (fun u5 => ?_)
          · refine And.imp_right (fun hx => qc_tabIn (qc_at qkX11_told 1 rfl) 4 (by rw [u5]; rfl) (by decide) rfl rfl hx) ?_
            replace h := qc_jp u5 h
            obtain ⟨rfl, rfl, rfl, rfl, rfl⟩ := qc_some5 h
            exact ⟨qc_fm.rf _, qc_aload_n (qc_at qkX11_told 18 rfl) rfl <| qc_gR (qc_at qkX11_told 19 rfl) hn rfl (qfr_256_3 hR) rfl <| qc_gI (qc_at qkX11_told 20 rfl) hn rfl <| qc_iret (qc_at qkX11_told 21 rfl) rfl (Nat.le_refl _) (Nat.le_refl _) (qc_eq.rf _ _ _)⟩
          · replace h := qc_jn u5 h
            refine qc_by (c := x1 = 5) (fun u6 => ?_) (fun u6 => ?_)
            · refine And.imp_right (fun hx => qc_tabIn (qc_at qkX11_told 1 rfl) 5 (by rw [u6]; rfl) (by decide) rfl rfl hx) ?_
              replace h := qc_jp u6 h
              obtain ⟨rfl, rfl, rfl, rfl, rfl⟩ := qc_some5 h
              exact ⟨qc_fm.rf _, qc_aload_n (qc_at qkX11_told 22 rfl) rfl <| qc_gR (qc_at qkX11_told 23 rfl) hn rfl (qfr_256_3 hR) rfl <| qc_gI (qc_at qkX11_told 24 rfl) hn rfl <| qc_iret (qc_at qkX11_told 25 rfl) rfl (Nat.le_refl _) (Nat.le_refl _) (qc_eq.rf _ _ _)⟩
            · replace h := qc_jn u6 h
              have v1 : ¬ Int32.toInt x1 = 0 := fun z => u1 (qc_i32 z rfl)
              have v2 : ¬ Int32.toInt x1 = 1 := fun z => u2 (qc_i32 z rfl)
              have v3 : ¬ Int32.toInt x1 = 2 := fun z => u3 (qc_i32 z rfl)
              have v4 : ¬ Int32.toInt x1 = 3 := fun z => u4 (qc_i32 z rfl)
              have v5 : ¬ Int32.toInt x1 = 4 := fun z => u5 (qc_i32 z rfl)
              have v6 : ¬ Int32.toInt x1 = 5 := fun z => u6 (qc_i32 z rfl)
              refine And.imp_right (fun hx => qc_tabOut (qc_at qkX11_told 1 rfl) (by omega) rfl hx) ?_
              obtain ⟨rfl, rfl, rfl, rfl, rfl⟩ := qc_some5 h
              exact ⟨qc_fm.rf _, qc_bipush (qc_at qkX11_told 26 rfl) <| qc_iret (qc_at qkX11_told 27 rfl) rfl (Nat.le_refl _) (Nat.le_refl _) (qc_eq.rf _ _ _)⟩
def fX11_hit (w : qcW) (I : qTI) (L : qTL) (D : qTD) (R : qTR) (x1 : Int32) : qcO Int32 :=
  (qc_bd (fX3_isHit w I L D R x1) fun r1 I1 L1 D1 R1 => if r1 = true then (qc_gd (qc_inb x1 16) <| some ((I1 281 (Int32.toNatClampNeg x1)), I1, L1, D1, R1)) else (some ((-1 : Int32), I1, L1, D1, R1)))
set_option maxRecDepth 100000 in
set_option maxHeartbeats 4000000 in
theorem tX11_hit {w : qcW} {I : qTI} {L : qTL} {D : qTD} {R : qTR} {x1 : Int32} {r : Int32} {I' : qTI} {L' : qTL} {D' : qTD} {R' : qTR} (hn : qcNF ≤ w.1) (hR : qc_FR R) (h : fX11_hit w I L D R x1 = some (r, I', L', D', R')) : qc_fm qcSX (I, L, D, R) (I', L', D', R') ∧ qc_V (1) 0 0 qmX11_hit [.ref 256, .int x1] w (I, L, D, R) (qc_eq (some (.int r)) w (I', L', D', R')) := by
  unfold fX11_hit at h
  refine And.imp_right (fun hx => qc_V.of rfl rfl (Nat.le_of_ble_eq_true rfl) (lv := [(0, .ref 256), (1, .int x1)]) rfl hx) ?_
  refine And.imp_right (fun hx => qc_aload_n (qc_at qkX11_hit 0 rfl) rfl <| qc_gR (qc_at qkX11_hit 1 rfl) hn rfl (qfr_256_3 hR) rfl <| qc_iload_n (qc_at qkX11_hit 2 rfl) rfl <| hx) ?_
  obtain ⟨r1, I1, L1, D1, R1, e1, h⟩ := qc_bd_of h
  have c1 := (tX3_isHit hn hR e1)
  refine qd_cVv (ci := 3) (a0 := 280) (qc_at qkX11_hit 3 rfl) ql_11_169 qfX3_isHit (qc_kf hn rfl) rfl c1 rfl rfl (Nat.le_of_ble_eq_true rfl) (qc_rml (by decide) (by decide)) ⟨Nat.zero_le _, Nat.zero_le _⟩ ?_
  refine qc_andB (qc_ifB_eq (qc_at qkX11_hit 4 rfl)) (fun u2 => ?_) (fun u2 => ?_)
  · replace h := qc_jf u2 h
    obtain ⟨rfl, rfl, rfl, rfl, rfl⟩ := qc_some5 h
    exact ⟨qc_fm.rf _, qc_iconst (qc_at qkX11_hit 11 rfl) <| qc_iret (qc_at qkX11_hit 12 rfl) rfl (Nat.le_refl _) (Nat.le_refl _) (qc_eq.rf _ _ _)⟩
  · replace h := qc_jt u2 h
    refine And.imp_right (fun hx => qc_aload_n (qc_at qkX11_hit 5 rfl) rfl <| qc_gR (qc_at qkX11_hit 6 rfl) hn rfl (qfr_256_3 (c1.1.1 hR)) rfl <| qc_gR (qc_at qkX11_hit 7 rfl) hn rfl (qfr_280_7 (c1.1.1 hR)) rfl <| qc_iload_n (qc_at qkX11_hit 8 rfl) rfl <| hx) ?_
    obtain ⟨g3, h⟩ := qc_gd_of h
    obtain ⟨rfl, rfl, rfl, rfl, rfl⟩ := qc_some5 h
    exact ⟨qc_fm.rf _, qc_iald 16 (qc_at qkX11_hit 9 rfl) hn rfl (qc_inb_in g3) <| qc_goto (qc_at qkX11_hit 10 rfl) <| qc_iret (qc_at qkX11_hit 12 rfl) rfl (Nat.le_refl _) (Nat.le_refl _) (qc_eq.rf _ _ _)⟩
def fX11_score (w : qcW) (I : qTI) (L : qTL) (D : qTD) (R : qTR) (x1 : Int32) : qcO Int64 :=
  (qc_bd (fX3_isHit w I L D R x1) fun r1 I1 L1 D1 R1 => if r1 = true then (if (I1 280 6) = 0 then (qc_gd (qc_inb x1 16) <| qc_bd (fX8_bitsOfDouble w I1 L1 D1 R1 (D1 282 (Int32.toNatClampNeg x1))) fun r5 I5 L5 D5 R5 => some (r5, I5, L5, D5, R5)) else (qc_gd (qc_inb x1 8) <| some ((L1 283 (Int32.toNatClampNeg x1)), I1, L1, D1, R1))) else (some ((-9223372036854775808 : Int64), I1, L1, D1, R1)))
set_option maxRecDepth 100000 in
set_option maxHeartbeats 4000000 in
theorem tX11_score {w : qcW} {I : qTI} {L : qTL} {D : qTD} {R : qTR} {x1 : Int32} {r : Int64} {I' : qTI} {L' : qTL} {D' : qTD} {R' : qTR} (hn : qcNF ≤ w.1) (hR : qc_FR R) (h : fX11_score w I L D R x1 = some (r, I', L', D', R')) : qc_fm qcSX (I, L, D, R) (I', L', D', R') ∧ qc_V (4) 0 0 qmX11_score [.ref 256, .int x1] w (I, L, D, R) (qc_eq (some (.long r)) w (I', L', D', R')) := by
  unfold fX11_score at h
  refine And.imp_right (fun hx => qc_V.of rfl rfl (Nat.le_of_ble_eq_true rfl) (lv := [(0, .ref 256), (1, .int x1)]) rfl hx) ?_
  refine And.imp_right (fun hx => qc_aload_n (qc_at qkX11_score 0 rfl) rfl <| qc_gR (qc_at qkX11_score 1 rfl) hn rfl (qfr_256_3 hR) rfl <| qc_iload_n (qc_at qkX11_score 2 rfl) rfl <| hx) ?_
  obtain ⟨r1, I1, L1, D1, R1, e1, h⟩ := qc_bd_of h
  have c1 := (tX3_isHit hn hR e1)
  refine qd_cVv (ci := 3) (a0 := 280) (qc_at qkX11_score 3 rfl) ql_11_169 qfX3_isHit (qc_kf hn rfl) rfl c1 rfl rfl (Nat.le_of_ble_eq_true rfl) (qc_rml (by decide) (by decide)) ⟨Nat.zero_le _, Nat.zero_le _⟩ ?_
  refine qc_andBn (qc_ifB_ne (qc_at qkX11_score 4 rfl)) (fun u2 => ?_) (fun u2 => ?_)
  · replace h := qc_jt u2 h
    refine And.imp_right (fun hx => qc_aload_n (qc_at qkX11_score 7 rfl) rfl <| qc_gR (qc_at qkX11_score 8 rfl) hn rfl (qfr_256_3 (c1.1.1 hR)) rfl <| qc_gI (qc_at qkX11_score 9 rfl) hn rfl <| hx) ?_
    refine qc_andC (qc_if_eq (qc_at qkX11_score 10 rfl)) (fun u3 => ?_) (fun u3 => ?_)
    · replace h := qc_jp u3 h
      refine And.imp_right (fun hx => qc_aload_n (qc_at qkX11_score 17 rfl) rfl <| qc_gR (qc_at qkX11_score 18 rfl) hn rfl (qfr_256_3 (c1.1.1 hR)) rfl <| qc_gR (qc_at qkX11_score 19 rfl) hn rfl (qfr_280_8 (c1.1.1 hR)) rfl <| qc_iload_n (qc_at qkX11_score 20 rfl) rfl <| hx) ?_
      obtain ⟨g4, h⟩ := qc_gd_of h
      refine And.imp_right (fun hx => qc_dald 16 (qc_at qkX11_score 21 rfl) hn rfl (qc_inb_in g4) <| hx) ?_
      obtain ⟨r5, I5, L5, D5, R5, e5, h⟩ := qc_bd_of h
      have c5 := (tX8_bitsOfDouble hn (c1.1.1 hR) e5)
      refine qd_cSv (qc_at qkX11_score 22 rfl) ql_11_188 qfX8_bitsOfDouble c5 rfl rfl (Nat.le_of_ble_eq_true rfl) (qc_rml (by decide) (by decide)) ⟨Nat.zero_le _, Nat.zero_le _⟩ ?_
      obtain ⟨rfl, rfl, rfl, rfl, rfl⟩ := qc_some5 h
      exact ⟨qc_fm.rf _, qc_lret (qc_at qkX11_score 23 rfl) rfl (Nat.le_refl _) (Nat.le_refl _) (qc_eq.rf _ _ _)⟩
    · replace h := qc_jn u3 h
      refine And.imp_right (fun hx => qc_aload_n (qc_at qkX11_score 11 rfl) rfl <| qc_gR (qc_at qkX11_score 12 rfl) hn rfl (qfr_256_3 (c1.1.1 hR)) rfl <| qc_gR (qc_at qkX11_score 13 rfl) hn rfl (qfr_280_9 (c1.1.1 hR)) rfl <| qc_iload_n (qc_at qkX11_score 14 rfl) rfl <| hx) ?_
      obtain ⟨g6, h⟩ := qc_gd_of h
      obtain ⟨rfl, rfl, rfl, rfl, rfl⟩ := qc_some5 h
      exact ⟨qc_fm.rf _, qc_lald 8 (qc_at qkX11_score 15 rfl) hn rfl (qc_inb_in g6) <| qc_goto (qc_at qkX11_score 16 rfl) <| qc_lret (qc_at qkX11_score 23 rfl) rfl (Nat.le_refl _) (Nat.le_refl _) (qc_eq.rf _ _ _)⟩
  · replace h := qc_jf u2 h
    obtain ⟨rfl, rfl, rfl, rfl, rfl⟩ := qc_some5 h
    exact ⟨qc_fm.rf _, qc_ldc2l (qc_at qkX11_score 5 rfl) <| qc_lret (qc_at qkX11_score 6 rfl) rfl (Nat.le_refl _) (Nat.le_refl _) (qc_eq.rf _ _ _)⟩
def fX11_value (w : qcW) (I : qTI) (L : qTL) (D : qTD) (R : qTR) (x1 : Int32) : qcO Int64 :=
  (qc_bd (fX3_isHit w I L D R x1) fun r1 I1 L1 D1 R1 => if r1 = true then (if (I1 280 6) = 0 then (some ((-9223372036854775808 : Int64), I1, L1, D1, R1)) else (qc_bd (fX3_valueBits w I1 L1 D1 R1 x1) fun r4 I4 L4 D4 R4 => some (r4, I4, L4, D4, R4))) else (some ((-9223372036854775808 : Int64), I1, L1, D1, R1)))
set_option maxRecDepth 100000 in
set_option maxHeartbeats 4000000 in
theorem tX11_value {w : qcW} {I : qTI} {L : qTL} {D : qTD} {R : qTR} {x1 : Int32} {r : Int64} {I' : qTI} {L' : qTL} {D' : qTD} {R' : qTR} (hn : qcNF ≤ w.1) (hR : qc_FR R) (h : fX11_value w I L D R x1 = some (r, I', L', D', R')) : qc_fm qcSX (I, L, D, R) (I', L', D', R') ∧ qc_V (5) 0 0 qmX11_value [.ref 256, .int x1] w (I, L, D, R) (qc_eq (some (.long r)) w (I', L', D', R')) := by
  unfold fX11_value at h
  refine And.imp_right (fun hx => qc_V.of rfl rfl (Nat.le_of_ble_eq_true rfl) (lv := [(0, .ref 256), (1, .int x1)]) rfl hx) ?_
  refine And.imp_right (fun hx => qc_aload_n (qc_at qkX11_value 0 rfl) rfl <| qc_gR (qc_at qkX11_value 1 rfl) hn rfl (qfr_256_3 hR) rfl <| qc_iload_n (qc_at qkX11_value 2 rfl) rfl <| hx) ?_
  obtain ⟨r1, I1, L1, D1, R1, e1, h⟩ := qc_bd_of h
  have c1 := (tX3_isHit hn hR e1)
  refine qd_cVv (ci := 3) (a0 := 280) (qc_at qkX11_value 3 rfl) ql_11_169 qfX3_isHit (qc_kf hn rfl) rfl c1 rfl rfl (Nat.le_of_ble_eq_true rfl) (qc_rml (by decide) (by decide)) ⟨Nat.zero_le _, Nat.zero_le _⟩ ?_
  refine qc_andB (qc_ifB_eq (qc_at qkX11_value 4 rfl)) (fun u2 => ?_) (fun u2 => ?_)
  · replace h := qc_jf u2 h
    obtain ⟨rfl, rfl, rfl, rfl, rfl⟩ := qc_some5 h
    exact ⟨qc_fm.rf _, qc_ldc2l (qc_at qkX11_value 9 rfl) <| qc_lret (qc_at qkX11_value 10 rfl) rfl (Nat.le_refl _) (Nat.le_refl _) (qc_eq.rf _ _ _)⟩
  · replace h := qc_jt u2 h
    refine And.imp_right (fun hx => qc_aload_n (qc_at qkX11_value 5 rfl) rfl <| qc_gR (qc_at qkX11_value 6 rfl) hn rfl (qfr_256_3 (c1.1.1 hR)) rfl <| qc_gI (qc_at qkX11_value 7 rfl) hn rfl <| hx) ?_
    refine qc_andN (qc_if_ne (qc_at qkX11_value 8 rfl)) (fun u3 => ?_) (fun u3 => ?_)
    · replace h := qc_jn u3 h
      refine And.imp_right (fun hx => qc_aload_n (qc_at qkX11_value 11 rfl) rfl <| qc_gR (qc_at qkX11_value 12 rfl) hn rfl (qfr_256_3 (c1.1.1 hR)) rfl <| qc_iload_n (qc_at qkX11_value 13 rfl) rfl <| hx) ?_
      obtain ⟨r4, I4, L4, D4, R4, e4, h⟩ := qc_bd_of h
      have c4 := (tX3_valueBits hn (c1.1.1 hR) e4)
      refine qd_cVv (ci := 3) (a0 := 280) (qc_at qkX11_value 14 rfl) ql_11_194 qfX3_valueBits (qc_kf hn rfl) rfl c4 rfl rfl (Nat.le_of_ble_eq_true rfl) (qc_rml (by decide) (by decide)) ⟨Nat.zero_le _, Nat.zero_le _⟩ ?_
      obtain ⟨rfl, rfl, rfl, rfl, rfl⟩ := qc_some5 h
      exact ⟨qc_fm.rf _, qc_lret (qc_at qkX11_value 15 rfl) rfl (Nat.le_refl _) (Nat.le_refl _) (qc_eq.rf _ _ _)⟩
    · replace h := qc_jp u3 h
      obtain ⟨rfl, rfl, rfl, rfl, rfl⟩ := qc_some5 h
      exact ⟨qc_fm.rf _, qc_ldc2l (qc_at qkX11_value 9 rfl) <| qc_lret (qc_at qkX11_value 10 rfl) rfl (Nat.le_refl _) (Nat.le_refl _) (qc_eq.rf _ _ _)⟩
def fX11_count (w : qcW) (I : qTI) (L : qTL) (D : qTD) (R : qTR) (x1 : Int32) : qcO Int32 :=
  (if x1 = 0 then (some ((I 256 7), I, L, D, R)) else if x1 = 1 then (qc_bd (fX1_present w I L D R) fun r3 I3 L3 D3 R3 => some (r3, I3, L3, D3, R3)) else if x1 = 2 then (some ((I 256 6), I, L, D, R)) else if x1 = 3 then (some ((I 265 1), I, L, D, R)) else (some ((-1 : Int32), I, L, D, R)))
set_option maxRecDepth 100000 in
set_option maxHeartbeats 4000000 in
theorem tX11_count {w : qcW} {I : qTI} {L : qTL} {D : qTD} {R : qTR} {x1 : Int32} {r : Int32} {I' : qTI} {L' : qTL} {D' : qTD} {R' : qTR} (hn : qcNF ≤ w.1) (hR : qc_FR R) (h : fX11_count w I L D R x1 = some (r, I', L', D', R')) : qc_fm qcSX (I, L, D, R) (I', L', D', R') ∧ qc_V (1) 0 0 qmX11_count [.ref 256, .int x1] w (I, L, D, R) (qc_eq (some (.int r)) w (I', L', D', R')) := by
  unfold fX11_count at h
  refine And.imp_right (fun hx => qc_V.of rfl rfl (Nat.le_of_ble_eq_true rfl) (lv := [(0, .ref 256), (1, .int x1)]) rfl hx) ?_
  refine And.imp_right (fun hx => qc_iload_n (qc_at qkX11_count 0 rfl) rfl <| hx) ?_
  refine qc_by (c := x1 = 0) (fun u1 => ?_) (fun u1 => ?_)
  · refine And.imp_right (fun hx => qc_tabIn (qc_at qkX11_count 1 rfl) 0 (by rw [u1]; rfl) (by decide) rfl rfl hx) ?_
    replace h := qc_jp u1 h
    obtain ⟨rfl, rfl, rfl, rfl, rfl⟩ := qc_some5 h
    exact ⟨qc_fm.rf _, qc_aload_n (qc_at qkX11_count 2 rfl) rfl <| qc_gI (qc_at qkX11_count 3 rfl) hn rfl <| qc_iret (qc_at qkX11_count 4 rfl) rfl (Nat.le_refl _) (Nat.le_refl _) (qc_eq.rf _ _ _)⟩
  · replace h := qc_jn u1 h
    refine qc_by (c := x1 = 1) (fun u2 => ?_) (fun u2 => ?_)
    · refine And.imp_right (fun hx => qc_tabIn (qc_at qkX11_count 1 rfl) 1 (by rw [u2]; rfl) (by decide) rfl rfl hx) ?_
      replace h := qc_jp u2 h
      refine And.imp_right (fun hx => qc_aload_n (qc_at qkX11_count 5 rfl) rfl <| qc_gR (qc_at qkX11_count 6 rfl) hn rfl (qfr_256_0 hR) rfl <| hx) ?_
      obtain ⟨r3, I3, L3, D3, R3, e3, h⟩ := qc_bd_of h
      have c3 := (tX1_present hn hR e3)
      refine qd_cVv (ci := 1) (a0 := 257) (qc_at qkX11_count 7 rfl) ql_11_198 qfX1_present (qc_kf hn rfl) rfl c3 rfl rfl (Nat.le_of_ble_eq_true rfl) (qc_rml (by decide) (by decide)) ⟨Nat.zero_le _, Nat.zero_le _⟩ ?_
      obtain ⟨rfl, rfl, rfl, rfl, rfl⟩ := qc_some5 h
      exact ⟨qc_fm.rf _, qc_iret (qc_at qkX11_count 8 rfl) rfl (Nat.le_refl _) (Nat.le_refl _) (qc_eq.rf _ _ _)⟩
    · replace h := qc_jn u2 h
      refine qc_by (c := x1 = 2) (fun u4 => ?_) (fun u4 => ?_)
      · refine And.imp_right (fun hx => qc_tabIn (qc_at qkX11_count 1 rfl) 2 (by rw [u4]; rfl) (by decide) rfl rfl hx) ?_
        replace h := qc_jp u4 h
        obtain ⟨rfl, rfl, rfl, rfl, rfl⟩ := qc_some5 h
        exact ⟨qc_fm.rf _, qc_aload_n (qc_at qkX11_count 9 rfl) rfl <| qc_gI (qc_at qkX11_count 10 rfl) hn rfl <| qc_iret (qc_at qkX11_count 11 rfl) rfl (Nat.le_refl _) (Nat.le_refl _) (qc_eq.rf _ _ _)⟩
      · replace h := qc_jn u4 h
        refine qc_by (c := x1 = 3) (fun u5 => ?_) (fun u5 => ?_)
        · refine And.imp_right (fun hx => qc_tabIn (qc_at qkX11_count 1 rfl) 3 (by rw [u5]; rfl) (by decide) rfl rfl hx) ?_
          replace h := qc_jp u5 h
          obtain ⟨rfl, rfl, rfl, rfl, rfl⟩ := qc_some5 h
          exact ⟨qc_fm.rf _, qc_aload_n (qc_at qkX11_count 12 rfl) rfl <| qc_gR (qc_at qkX11_count 13 rfl) hn rfl (qfr_256_1 hR) rfl <| qc_gI (qc_at qkX11_count 14 rfl) hn rfl <| qc_iret (qc_at qkX11_count 15 rfl) rfl (Nat.le_refl _) (Nat.le_refl _) (qc_eq.rf _ _ _)⟩
        · replace h := qc_jn u5 h
          have v1 : ¬ Int32.toInt x1 = 0 := fun z => u1 (qc_i32 z rfl)
          have v2 : ¬ Int32.toInt x1 = 1 := fun z => u2 (qc_i32 z rfl)
          have v4 : ¬ Int32.toInt x1 = 2 := fun z => u4 (qc_i32 z rfl)
          have v5 : ¬ Int32.toInt x1 = 3 := fun z => u5 (qc_i32 z rfl)
          refine And.imp_right (fun hx => qc_tabOut (qc_at qkX11_count 1 rfl) (by omega) rfl hx) ?_
          obtain ⟨rfl, rfl, rfl, rfl, rfl⟩ := qc_some5 h
          exact ⟨qc_fm.rf _, qc_iconst (qc_at qkX11_count 16 rfl) <| qc_iret (qc_at qkX11_count 17 rfl) rfl (Nat.le_refl _) (Nat.le_refl _) (qc_eq.rf _ _ _)⟩
def fX11_clear_b7 (w : qcW) (k7 : qTI × qTL × qTD × qTR × Int32 × Int32 → qcO Int32) (I : qTI) (L : qTL) (D : qTD) (R : qTR) (x1 : Int32) (x2 : Int32) : qcO Int32 :=
  (if (12 : Int32) ≤ x2 then (qc_bd (fX3_forget w (qc_u I 256 6 (0 : Int32)) L D R) fun r2 I2 L2 D2 R2 => some (x1, I2, L2, D2, R2)) else (qc_gd (qc_inb x2 12) <| k7 (I, L, D, (qc_u R 290 (Int32.toNatClampNeg x2) 255), x1, (x2 + (1)))))
set_option maxRecDepth 100000 in
set_option maxHeartbeats 4000000 in
theorem tX11_clear_b7 {w : qcW} {I : qTI} {L : qTL} {D : qTD} {R : qTR} {k7 : qTI × qTL × qTD × qTR × Int32 × Int32 → qcO Int32} {x1 : Int32} {x2 : Int32} {r : Int32} {I' : qTI} {L' : qTL} {D' : qTD} {R' : qTR} (hn : qcNF ≤ w.1) (hR : qc_FR R) (hk7 : ∀ {I : qTI} {L : qTL} {D : qTD} {R : qTR} {x1 : Int32} {x2 : Int32} {r : Int32} {I' : qTI} {L' : qTL} {D' : qTD} {R' : qTR}, qc_FR R → k7 (I, L, D, R, x1, x2) = some (r, I', L', D', R') → qc_fm qcSX (I, L, D, R) (I', L', D', R') ∧ qc_X (qc_rm (1) 0 0) qmX11_clear (qc_QM 0 0 (qc_eq (some (.int r)) w (I', L', D', R'))) 0 0 w (7, [(0, .ref 256), (1, .int x1), (2, .int x2)], [], I, L, D, R)) (h : fX11_clear_b7 w k7 I L D R x1 x2 = some (r, I', L', D', R')) : qc_fm qcSX (I, L, D, R) (I', L', D', R') ∧ qc_X (qc_rm (1) 0 0) qmX11_clear (qc_QM 0 0 (qc_eq (some (.int r)) w (I', L', D', R'))) 0 0 w (7, [(0, .ref 256), (1, .int x1), (2, .int x2)], [], I, L, D, R) := by
  unfold fX11_clear_b7 at h
  refine And.imp_right (fun hx => qc_iload_n (qc_at qkX11_clear 5 rfl) rfl <| qc_bipush (qc_at qkX11_clear 6 rfl) <| hx) ?_
  refine qc_andC (qc_icmp_ge (qc_at qkX11_clear 7 rfl)) (fun u1 => ?_) (fun u1 => ?_)
  · replace h := qc_jp u1 h
    refine And.imp_right (fun hx => qc_aload_n (qc_at qkX11_clear 15 rfl) rfl <| qc_iconst (qc_at qkX11_clear 16 rfl) <| hx) (qd_pI (qc_at qkX11_clear 17 rfl) hn rfl rfl ?_)
    refine And.imp_right (fun hx => qc_aload_n (qc_at qkX11_clear 18 rfl) rfl <| qc_gR (qc_at qkX11_clear 19 rfl) hn rfl (qfr_256_3 hR) rfl <| hx) ?_
    obtain ⟨r2, I2, L2, D2, R2, e2, h⟩ := qc_bd_of h
    have c2 := (tX3_forget hn hR e2)
    refine qd_cVn (ci := 3) (a0 := 280) (qc_at qkX11_clear 20 rfl) ql_11_201 qfX3_forget (qc_kf hn rfl) rfl c2 rfl rfl (Nat.le_of_ble_eq_true rfl) (qc_rml (by decide) (by decide)) ⟨Nat.zero_le _, Nat.zero_le _⟩ ?_
    obtain ⟨rfl, rfl, rfl, rfl, rfl⟩ := qc_some5 h
    exact ⟨qc_fm.rf _, qc_iload_n (qc_at qkX11_clear 21 rfl) rfl <| qc_iret (qc_at qkX11_clear 22 rfl) rfl (Nat.le_refl _) (Nat.le_refl _) (qc_eq.rf _ _ _)⟩
  · replace h := qc_jn u1 h
    refine And.imp_right (fun hx => qc_aload_n (qc_at qkX11_clear 8 rfl) rfl <| qc_gR (qc_at qkX11_clear 9 rfl) hn rfl (qfr_256_5 hR) rfl <| qc_iload_n (qc_at qkX11_clear 10 rfl) rfl <| qc_aconst_null (qc_at qkX11_clear 11 rfl) <| hx) ?_
    obtain ⟨g3, h⟩ := qc_gd_of h
    refine qd_aastN 1 (Or.inr rfl) (qc_at qkX11_clear 12 rfl) (qc_kaf hn rfl) (qc_inb_in (n := 12) g3) rfl rfl ?_
    exact And.imp_right (fun hx => qc_iinc (lv' := [(2, _), (0, _), (1, _)]) (qc_at qkX11_clear 13 rfl) rfl rfl rfl <| qc_goto (qc_at qkX11_clear 14 rfl) <| qc_sub [1, 2, 0] rfl hx) (hk7 (hR.ua _ _ rfl) h)
def fX11_clear_l7 (w : qcW) : Nat → qTI × qTL × qTD × qTR × Int32 × Int32 → qcO Int32 := qc_lp (fun k q => match q with | (I, L, D, R, x1, x2) => fX11_clear_b7 w k I L D R x1 x2)
set_option maxRecDepth 100000 in
set_option maxHeartbeats 4000000 in
theorem tX11_clear_l7 {w : qcW} (hn : qcNF ≤ w.1) : ∀ (n : Nat) {r : Int32} {I' : qTI} {L' : qTL} {D' : qTD} {R' : qTR} {I : qTI} {L : qTL} {D : qTD} {R : qTR} {x1 : Int32} {x2 : Int32} (hR : qc_FR R) (h : fX11_clear_l7 w n (I, L, D, R, x1, x2) = some (r, I', L', D', R')), qc_fm qcSX (I, L, D, R) (I', L', D', R') ∧ qc_X (qc_rm (1) 0 0) qmX11_clear (qc_QM 0 0 (qc_eq (some (.int r)) w (I', L', D', R'))) 0 0 w (7, [(0, .ref 256), (1, .int x1), (2, .int x2)], [], I, L, D, R) := by
  intro n
  induction n with
  | zero => intro _ _ _ _ _ _ _ _ _ _ _ _ h; cases h
  | succ n ih => intro _ _ _ _ _ _ _ _ _ _ _ hR h; exact tX11_clear_b7 hn hR (k7 := fX11_clear_l7 w n) (fun hR h => ih hR h) h
def fX11_clear (w : qcW) (I : qTI) (L : qTL) (D : qTD) (R : qTR) : qcO Int32 :=
  (fX11_clear_l7 w qcF (I, L, D, R, (I 256 6), (0 : Int32)))
set_option maxRecDepth 100000 in
set_option maxHeartbeats 4000000 in
theorem tX11_clear {w : qcW} {I : qTI} {L : qTL} {D : qTD} {R : qTR} {r : Int32} {I' : qTI} {L' : qTL} {D' : qTD} {R' : qTR} (hn : qcNF ≤ w.1) (hR : qc_FR R) (h : fX11_clear w I L D R = some (r, I', L', D', R')) : qc_fm qcSX (I, L, D, R) (I', L', D', R') ∧ qc_V (1) 0 0 qmX11_clear [.ref 256] w (I, L, D, R) (qc_eq (some (.int r)) w (I', L', D', R')) := by
  unfold fX11_clear at h
  refine And.imp_right (fun hx => qc_V.of rfl rfl (Nat.le_of_ble_eq_true rfl) (lv := [(0, .ref 256)]) rfl hx) ?_
  exact And.imp_right (fun hx => qc_aload_n (qc_at qkX11_clear 0 rfl) rfl <| qc_gI (qc_at qkX11_clear 1 rfl) hn rfl <| qc_istore_n (lv' := [(1, _), (0, _)]) (qc_at qkX11_clear 2 rfl) rfl rfl <| qc_iconst (qc_at qkX11_clear 3 rfl) <| qc_istore_n (lv' := [(2, _), (1, _), (0, _)]) (qc_at qkX11_clear 4 rfl) rfl rfl <| qc_sub [2, 1, 0] rfl hx) (tX11_clear_l7 hn qcF hR h)
