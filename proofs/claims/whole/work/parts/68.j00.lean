def fX2_readCondition_b24 (w : qcW) (I : qTI) (L : qTL) (D : qTD) (R : qTR) (s0 : Int32) : qcO Unit :=
  (qc_bd (fX2_fit w I L D R s0 (I 268 2)) fun r1 I1 L1 D1 R1 => some ((), I1, L1, D1, R1))
set_option maxRecDepth 100000 in
set_option maxHeartbeats 4000000 in
theorem tX2_readCondition_b24 {w : qcW} {I : qTI} {L : qTL} {D : qTD} {R : qTR} {s0 : Int32} {r : Unit} {I' : qTI} {L' : qTL} {D' : qTD} {R' : qTR} (hn : qcNF ≤ w.1) (hR : qc_FR R) (h : fX2_readCondition_b24 w I L D R s0 = some (r, I', L', D', R')) : qc_fm qcSX (I, L, D, R) (I', L', D', R') ∧ qc_X (qc_rm (208) 0 0) qmX2_readCondition (qc_QM 0 0 (qc_eq none w (I', L', D', R'))) 0 0 w (24, [(0, .ref 267)], [.int s0, .ref 267], I, L, D, R) := by
  unfold fX2_readCondition_b24 at h
  refine And.imp_right (fun hx => qc_aload_n (qc_at qkX2_readCondition 14 rfl) rfl <| qc_gR (qc_at qkX2_readCondition 15 rfl) hn rfl (qfr_267_0 hR) rfl <| qc_gI (qc_at qkX2_readCondition 16 rfl) hn rfl <| hx) ?_
  obtain ⟨r1, I1, L1, D1, R1, e1, h⟩ := qc_bd_of h
  have c1 := (tX2_fit hn hR e1)
  refine qd_cVn (ci := 2) (a0 := 267) (qc_at qkX2_readCondition 17 rfl) ql_2_116 qfX2_fit (qc_kf hn rfl) rfl c1 rfl rfl (Nat.le_of_ble_eq_true rfl) (qc_rml (by decide) (by decide)) ⟨Nat.zero_le _, Nat.zero_le _⟩ ?_
  obtain ⟨rfl, rfl, rfl, rfl, rfl⟩ := qc_some5 h
  exact ⟨qc_fm.rf _, qc_vret (qc_at qkX2_readCondition 18 rfl) rfl (Nat.le_refl _) (Nat.le_refl _) (qc_eq.rf _ _ _)⟩
def fX2_readCondition (w : qcW) (I : qTI) (L : qTL) (D : qTD) (R : qTR) : qcO Unit :=
  (qc_bd (fX2_rc w 200 2 (0 : Int32) I L D (qc_u R 267 4 270)) fun r2 I2 L2 D2 R2 => if r2 = 0 then (fX2_readCondition_b24 w I2 L2 D2 R2 (1 : Int32)) else (fX2_readCondition_b24 w I2 L2 D2 R2 (0 : Int32)))
set_option maxRecDepth 100000 in
set_option maxHeartbeats 4000000 in
theorem tX2_readCondition {w : qcW} {I : qTI} {L : qTL} {D : qTD} {R : qTR} {r : Unit} {I' : qTI} {L' : qTL} {D' : qTD} {R' : qTR} (hn : qcNF ≤ w.1) (hR : qc_FR R) (h : fX2_readCondition w I L D R = some (r, I', L', D', R')) : qc_fm qcSX (I, L, D, R) (I', L', D', R') ∧ qc_V (208) 0 0 qmX2_readCondition [.ref 267] w (I, L, D, R) (qc_eq none w (I', L', D', R')) := by
  unfold fX2_readCondition at h
  refine And.imp_right (fun hx => qc_V.of rfl rfl (Nat.le_of_ble_eq_true rfl) (lv := [(0, .ref 267)]) rfl hx) ?_
  refine And.imp_right (fun hx => qc_aload_n (qc_at qkX2_readCondition 0 rfl) rfl <| qc_aload_n (qc_at qkX2_readCondition 1 rfl) rfl <| qc_gR (qc_at qkX2_readCondition 2 rfl) hn rfl (qfr_267_2 hR) rfl <| qc_iconst (qc_at qkX2_readCondition 3 rfl) <| qc_aald 0 (Or.inl rfl) (qc_at qkX2_readCondition 4 rfl) (qc_kaf hn rfl) (qc_inb_in (n := 3) (by decide)) (qfr_269_0 hR) rfl <| hx) (qd_pR (qc_at qkX2_readCondition 5 rfl) hn rfl rfl rfl rfl ?_)
  refine And.imp_right (fun hx => qc_aload_n (qc_at qkX2_readCondition 6 rfl) rfl <| qc_aload_n (qc_at qkX2_readCondition 7 rfl) rfl <| qc_iconst (qc_at qkX2_readCondition 8 rfl) <| hx) ?_
  obtain ⟨r2, I2, L2, D2, R2, e2, h⟩ := qc_bd_of h
  have c2 := (qd_rc2 (tX2_rc hn 200) (hR.u _ rfl) e2)
  refine qd_cVv (ci := 2) (a0 := 267) (qc_at qkX2_readCondition 9 rfl) ql_2_173 qfX2_joined (qc_kf hn rfl) rfl c2 rfl rfl (Nat.le_of_ble_eq_true rfl) (qc_rml (by decide) (by decide)) ⟨Nat.zero_le _, Nat.zero_le _⟩ ?_
  refine qc_andN (qc_if_ne (qc_at qkX2_readCondition 10 rfl)) (fun u3 => ?_) (fun u3 => ?_)
  · replace h := qc_jn u3 h
    exact And.imp_right (fun hx => qc_iconst (qc_at qkX2_readCondition 13 rfl) <| qc_sub [0] rfl hx) (tX2_readCondition_b24 hn (c2.1.1 (hR.u _ rfl)) h)
  · replace h := qc_jp u3 h
    exact And.imp_right (fun hx => qc_iconst (qc_at qkX2_readCondition 11 rfl) <| qc_goto (qc_at qkX2_readCondition 12 rfl) <| qc_sub [0] rfl hx) (tX2_readCondition_b24 hn (c2.1.1 (hR.u _ rfl)) h)
def fX2_readOrder_b25 (w : qcW) (I : qTI) (L : qTL) (D : qTD) (R : qTR) (x1 : Int32) (s0 : Int32) : qcO Unit :=
  (qc_bd (fX2_fit w I L D R s0 (I 268 2)) fun r1 I1 L1 D1 R1 => qc_gd (qc_io w (R1 267 4) 0) <| qc_bd (fX0_convert w (qc_u I1 267 9 (4 : Int32)) L1 D1 R1 (R1 267 4) x1 (4 : Int32)) fun r3 I3 L3 D3 R3 => qc_bd (fX2_took w I3 L3 D3 R3 7) fun r4 I4 L4 D4 R4 => if r4 = true then (some ((), (qc_u I4 267 11 (-1 : Int32)), L4, D4, R4)) else (some ((), (qc_u I4 267 11 (1 : Int32)), L4, D4, R4)))
set_option maxRecDepth 100000 in
set_option maxHeartbeats 4000000 in
theorem tX2_readOrder_b25 {w : qcW} {I : qTI} {L : qTL} {D : qTD} {R : qTR} {x1 : Int32} {s0 : Int32} {r : Unit} {I' : qTI} {L' : qTL} {D' : qTD} {R' : qTR} (hn : qcNF ≤ w.1) (hR : qc_FR R) (h : fX2_readOrder_b25 w I L D R x1 s0 = some (r, I', L', D', R')) : qc_fm qcSX (I, L, D, R) (I', L', D', R') ∧ qc_X (qc_rm (208) 0 0) qmX2_readOrder (qc_QM 0 0 (qc_eq none w (I', L', D', R'))) 0 0 w (25, [(0, .ref 267), (1, .int x1)], [.int s0, .ref 267], I, L, D, R) := by
  unfold fX2_readOrder_b25 at h
  refine And.imp_right (fun hx => qc_aload_n (qc_at qkX2_readOrder 15 rfl) rfl <| qc_gR (qc_at qkX2_readOrder 16 rfl) hn rfl (qfr_267_0 hR) rfl <| qc_gI (qc_at qkX2_readOrder 17 rfl) hn rfl <| hx) ?_
  obtain ⟨r1, I1, L1, D1, R1, e1, h⟩ := qc_bd_of h
  have c1 := (tX2_fit hn hR e1)
  refine qd_cVn (ci := 2) (a0 := 267) (qc_at qkX2_readOrder 18 rfl) ql_2_116 qfX2_fit (qc_kf hn rfl) rfl c1 rfl rfl (Nat.le_of_ble_eq_true rfl) (qc_rml (by decide) (by decide)) ⟨Nat.zero_le _, Nat.zero_le _⟩ ?_
  refine And.imp_right (fun hx => qc_aload_n (qc_at qkX2_readOrder 19 rfl) rfl <| qc_iconst (qc_at qkX2_readOrder 20 rfl) <| hx) (qd_pI (qc_at qkX2_readOrder 21 rfl) hn rfl rfl ?_)
  refine And.imp_right (fun hx => qc_aload_n (qc_at qkX2_readOrder 22 rfl) rfl <| hx) ?_
  obtain ⟨g2, h⟩ := qc_gd_of h
  replace g2 := qc_io_of g2
  refine And.imp_right (fun hx => qc_gR (qc_at qkX2_readOrder 23 rfl) hn rfl rfl (qc_ki255 g2) <| qc_iload_n (qc_at qkX2_readOrder 24 rfl) rfl <| qc_iconst (qc_at qkX2_readOrder 25 rfl) <| hx) ?_
  obtain ⟨r3, I3, L3, D3, R3, e3, h⟩ := qc_bd_of h
  have c3 := (tX0_convert hn (c1.1.1 hR) e3)
  refine qd_cVn (ci := 0) (qc_at qkX2_readOrder 26 rfl) ql_2_177 qfX0_convert g2 rfl c3 rfl rfl (Nat.le_of_ble_eq_true rfl) (qc_rml (by decide) (by decide)) ⟨Nat.zero_le _, Nat.zero_le _⟩ ?_
  refine And.imp_right (fun hx => qc_aload_n (qc_at qkX2_readOrder 27 rfl) rfl <| qc_aload_n (qc_at qkX2_readOrder 28 rfl) rfl <| qc_gS (qc_at qkX2_readOrder 29 rfl) rfl <| hx) ?_
  obtain ⟨r4, I4, L4, D4, R4, e4, h⟩ := qc_bd_of h
  have c4 := (tX2_took hn (c3.1.1 (c1.1.1 hR)) e4)
  refine qd_cVv (ci := 2) (a0 := 267) (qc_at qkX2_readOrder 30 rfl) ql_2_64 qfX2_took (qc_kf hn rfl) rfl c4 rfl rfl (Nat.le_of_ble_eq_true rfl) (qc_rml (by decide) (by decide)) ⟨Nat.zero_le _, Nat.zero_le _⟩ ?_
  refine qc_andB (qc_ifB_eq (qc_at qkX2_readOrder 31 rfl)) (fun u5 => ?_) (fun u5 => ?_)
  · replace h := qc_jf u5 h
    refine And.imp_right (fun hx => qc_iconst (qc_at qkX2_readOrder 34 rfl) <| hx) (qd_pI (qc_at qkX2_readOrder 35 rfl) hn rfl rfl ?_)
    obtain ⟨rfl, rfl, rfl, rfl, rfl⟩ := qc_some5 h
    exact ⟨qc_fm.rf _, qc_vret (qc_at qkX2_readOrder 36 rfl) rfl (Nat.le_refl _) (Nat.le_refl _) (qc_eq.rf _ _ _)⟩
  · replace h := qc_jt u5 h
    refine And.imp_right (fun hx => qc_iconst (qc_at qkX2_readOrder 32 rfl) <| qc_goto (qc_at qkX2_readOrder 33 rfl) <| hx) (qd_pI (qc_at qkX2_readOrder 35 rfl) hn rfl rfl ?_)
    obtain ⟨rfl, rfl, rfl, rfl, rfl⟩ := qc_some5 h
    exact ⟨qc_fm.rf _, qc_vret (qc_at qkX2_readOrder 36 rfl) rfl (Nat.le_refl _) (Nat.le_refl _) (qc_eq.rf _ _ _)⟩
def fX2_readOrder (w : qcW) (I : qTI) (L : qTL) (D : qTD) (R : qTR) : qcO Unit :=
  (qc_bd (fX2_rc w 200 0 0 I L D (qc_u R 267 4 273)) fun r6 I6 L6 D6 R6 => if r6 = 0 then (fX2_readOrder_b25 w I6 L6 D6 R6 r6 (0 : Int32)) else (fX2_readOrder_b25 w I6 L6 D6 R6 r6 (1 : Int32)))
set_option maxRecDepth 100000 in
set_option maxHeartbeats 4000000 in
theorem tX2_readOrder {w : qcW} {I : qTI} {L : qTL} {D : qTD} {R : qTR} {r : Unit} {I' : qTI} {L' : qTL} {D' : qTD} {R' : qTR} (hn : qcNF ≤ w.1) (hR : qc_FR R) (h : fX2_readOrder w I L D R = some (r, I', L', D', R')) : qc_fm qcSX (I, L, D, R) (I', L', D', R') ∧ qc_V (208) 0 0 qmX2_readOrder [.ref 267] w (I, L, D, R) (qc_eq none w (I', L', D', R')) := by
  unfold fX2_readOrder at h
  refine And.imp_right (fun hx => qc_V.of rfl rfl (Nat.le_of_ble_eq_true rfl) (lv := [(0, .ref 267)]) rfl hx) ?_
  refine And.imp_right (fun hx => qc_aload_n (qc_at qkX2_readOrder 0 rfl) rfl <| qc_aload_n (qc_at qkX2_readOrder 1 rfl) rfl <| qc_gR (qc_at qkX2_readOrder 2 rfl) hn rfl (qfr_267_2 hR) rfl <| qc_iconst (qc_at qkX2_readOrder 3 rfl) <| qc_aald 0 (Or.inl rfl) (qc_at qkX2_readOrder 4 rfl) (qc_kaf hn rfl) (qc_inb_in (n := 3) (by decide)) (qfr_269_1 hR) rfl <| hx) (qd_pR (qc_at qkX2_readOrder 5 rfl) hn rfl rfl rfl rfl ?_)
  refine And.imp_right (fun hx => qc_aload_n (qc_at qkX2_readOrder 6 rfl) rfl <| hx) ?_
  obtain ⟨r6, I6, L6, D6, R6, e6, h⟩ := qc_bd_of h
  have c6 := (qd_rc0 (tX2_rc hn 200) (hR.u _ rfl) e6)
  refine qd_cVv (ci := 2) (a0 := 267) (qc_at qkX2_readOrder 7 rfl) ql_2_105 qfX2_sum (qc_kf hn rfl) rfl c6 rfl rfl (Nat.le_of_ble_eq_true rfl) (qc_rml (by decide) (by decide)) ⟨Nat.zero_le _, Nat.zero_le _⟩ ?_
  refine And.imp_right (fun hx => qc_istore_n (lv' := [(1, _), (0, _)]) (qc_at qkX2_readOrder 8 rfl) rfl rfl <| qc_aload_n (qc_at qkX2_readOrder 9 rfl) rfl <| qc_iload_n (qc_at qkX2_readOrder 10 rfl) rfl <| hx) ?_
  refine qc_andC (qc_if_eq (qc_at qkX2_readOrder 11 rfl)) (fun u7 => ?_) (fun u7 => ?_)
  · replace h := qc_jp u7 h
    exact And.imp_right (fun hx => qc_iconst (qc_at qkX2_readOrder 14 rfl) <| qc_sub [1, 0] rfl hx) (tX2_readOrder_b25 hn (c6.1.1 (hR.u _ rfl)) h)
  · replace h := qc_jn u7 h
    exact And.imp_right (fun hx => qc_iconst (qc_at qkX2_readOrder 12 rfl) <| qc_goto (qc_at qkX2_readOrder 13 rfl) <| qc_sub [1, 0] rfl hx) (tX2_readOrder_b25 hn (c6.1.1 (hR.u _ rfl)) h)
def fX2_readHow_b155 (w : qcW) (I : qTI) (L : qTL) (D : qTD) (R : qTR) (x1 : Int32) : qcO Unit :=
  (qc_gd (qc_io w (R 267 4) 0) <| qc_bd (fX0_convert w I L D R (R 267 4) x1 (I 267 9)) fun r2 I2 L2 D2 R2 => some ((), I2, L2, D2, R2))
set_option maxRecDepth 100000 in
set_option maxHeartbeats 4000000 in
theorem tX2_readHow_b155 {w : qcW} {I : qTI} {L : qTL} {D : qTD} {R : qTR} {x1 : Int32} {r : Unit} {I' : qTI} {L' : qTL} {D' : qTD} {R' : qTR} (hn : qcNF ≤ w.1) (hR : qc_FR R) (h : fX2_readHow_b155 w I L D R x1 = some (r, I', L', D', R')) : qc_fm qcSX (I, L, D, R) (I', L', D', R') ∧ qc_X (qc_rm (208) 0 0) qmX2_readHow (qc_QM 0 0 (qc_eq none w (I', L', D', R'))) 0 0 w (155, [(0, .ref 267), (1, .int x1)], [], I, L, D, R) := by
  unfold fX2_readHow_b155 at h
  refine And.imp_right (fun hx => qc_aload_n (qc_at qkX2_readHow 73 rfl) rfl <| hx) ?_
  obtain ⟨g1, h⟩ := qc_gd_of h
  replace g1 := qc_io_of g1
  refine And.imp_right (fun hx => qc_gR (qc_at qkX2_readHow 74 rfl) hn rfl rfl (qc_ki255 g1) <| qc_iload_n (qc_at qkX2_readHow 75 rfl) rfl <| qc_aload_n (qc_at qkX2_readHow 76 rfl) rfl <| qc_gI (qc_at qkX2_readHow 77 rfl) hn rfl <| hx) ?_
  obtain ⟨r2, I2, L2, D2, R2, e2, h⟩ := qc_bd_of h
  have c2 := (tX0_convert hn hR e2)
  refine qd_cVn (ci := 0) (qc_at qkX2_readHow 78 rfl) ql_2_177 qfX0_convert g1 rfl c2 rfl rfl (Nat.le_of_ble_eq_true rfl) (qc_rml (by decide) (by decide)) ⟨Nat.zero_le _, Nat.zero_le _⟩ ?_
  obtain ⟨rfl, rfl, rfl, rfl, rfl⟩ := qc_some5 h
  exact ⟨qc_fm.rf _, qc_vret (qc_at qkX2_readHow 79 rfl) rfl (Nat.le_refl _) (Nat.le_refl _) (qc_eq.rf _ _ _)⟩
def fX2_readHow_b134 (w : qcW) (I : qTI) (L : qTL) (D : qTD) (R : qTR) (x1 : Int32) (s0 : Int32) : qcO Unit :=
  (fX2_readHow_b155 w (qc_u I 267 9 s0) L D R x1)
set_option maxRecDepth 100000 in
set_option maxHeartbeats 4000000 in
theorem tX2_readHow_b134 {w : qcW} {I : qTI} {L : qTL} {D : qTD} {R : qTR} {x1 : Int32} {s0 : Int32} {r : Unit} {I' : qTI} {L' : qTL} {D' : qTD} {R' : qTR} (hn : qcNF ≤ w.1) (hR : qc_FR R) (h : fX2_readHow_b134 w I L D R x1 s0 = some (r, I', L', D', R')) : qc_fm qcSX (I, L, D, R) (I', L', D', R') ∧ qc_X (qc_rm (208) 0 0) qmX2_readHow (qc_QM 0 0 (qc_eq none w (I', L', D', R'))) 0 0 w (134, [(0, .ref 267), (1, .int x1)], [.int s0, .ref 267], I, L, D, R) := by
  unfold fX2_readHow_b134 at h
  refine qd_pI (qc_at qkX2_readHow 64 rfl) hn rfl rfl ?_
  exact And.imp_right (fun hx => qc_goto (qc_at qkX2_readHow 65 rfl) <| qc_sub [0, 1] rfl hx) (tX2_readHow_b155 hn hR h)
def fX2_readHow_b98 (w : qcW) (I : qTI) (L : qTL) (D : qTD) (R : qTR) (x1 : Int32) (s0 : Int32) : qcO Unit :=
  (qc_bd (fX2_fit w I L D R s0 (I 268 2)) fun r3 I3 L3 D3 R3 => qc_gd (qc_l62 (R3 267 8)) <| if (R3 267 8) = 11 then (if (2 : Int32) < x1 then (fX2_readHow_b134 w (qc_u I3 267 9 x1) L3 D3 R3 x1 (4 : Int32)) else (fX2_readHow_b134 w (qc_u I3 267 9 x1) L3 D3 R3 x1 (2 : Int32))) else (qc_gd (qc_l62 (R3 267 8)) <| if (R3 267 8) = 12 then (fX2_readHow_b155 w (qc_u (qc_u I3 267 9 x1) 267 9 (4 : Int32)) L3 D3 R3 x1) else (fX2_readHow_b155 w (qc_u I3 267 9 x1) L3 D3 R3 x1)))
set_option maxRecDepth 100000 in
set_option maxHeartbeats 4000000 in
theorem tX2_readHow_b98 {w : qcW} {I : qTI} {L : qTL} {D : qTD} {R : qTR} {x1 : Int32} {s0 : Int32} {r : Unit} {I' : qTI} {L' : qTL} {D' : qTD} {R' : qTR} (hn : qcNF ≤ w.1) (hR : qc_FR R) (h : fX2_readHow_b98 w I L D R x1 s0 = some (r, I', L', D', R')) : qc_fm qcSX (I, L, D, R) (I', L', D', R') ∧ qc_X (qc_rm (208) 0 0) qmX2_readHow (qc_QM 0 0 (qc_eq none w (I', L', D', R'))) 0 0 w (98, [(0, .ref 267), (1, .int x1)], [.int s0, .ref 267], I, L, D, R) := by
  unfold fX2_readHow_b98 at h
  refine And.imp_right (fun hx => qc_aload_n (qc_at qkX2_readHow 46 rfl) rfl <| qc_gR (qc_at qkX2_readHow 47 rfl) hn rfl (qfr_267_0 hR) rfl <| qc_gI (qc_at qkX2_readHow 48 rfl) hn rfl <| hx) ?_
  obtain ⟨r3, I3, L3, D3, R3, e3, h⟩ := qc_bd_of h
  have c3 := (tX2_fit hn hR e3)
  refine qd_cVn (ci := 2) (a0 := 267) (qc_at qkX2_readHow 49 rfl) ql_2_116 qfX2_fit (qc_kf hn rfl) rfl c3 rfl rfl (Nat.le_of_ble_eq_true rfl) (qc_rml (by decide) (by decide)) ⟨Nat.zero_le _, Nat.zero_le _⟩ ?_
  refine And.imp_right (fun hx => qc_aload_n (qc_at qkX2_readHow 50 rfl) rfl <| qc_iload_n (qc_at qkX2_readHow 51 rfl) rfl <| hx) (qd_pI (qc_at qkX2_readHow 52 rfl) hn rfl rfl ?_)
  refine And.imp_right (fun hx => qc_aload_n (qc_at qkX2_readHow 53 rfl) rfl <| hx) ?_
  obtain ⟨g4, h⟩ := qc_gd_of h
  replace g4 := qc_l62_of g4
  refine And.imp_right (fun hx => qc_gR (qc_at qkX2_readHow 54 rfl) hn rfl rfl (qc_ne62 g4) <| qc_gS (qc_at qkX2_readHow 55 rfl) rfl <| hx) ?_
  refine qc_andN (qc_acmp_ne (qc_at qkX2_readHow 56 rfl) (Or.inl g4) (Or.inl (by decide))) (fun u5 => ?_) (fun u5 => ?_)
  · replace h := qc_jn u5 h
    refine And.imp_right (fun hx => qc_aload_n (qc_at qkX2_readHow 66 rfl) rfl <| hx) ?_
    obtain ⟨g6, h⟩ := qc_gd_of h
    replace g6 := qc_l62_of g6
    refine And.imp_right (fun hx => qc_gR (qc_at qkX2_readHow 67 rfl) hn rfl rfl (qc_ne62 g6) <| qc_gS (qc_at qkX2_readHow 68 rfl) rfl <| hx) ?_
    refine qc_andN (qc_acmp_ne (qc_at qkX2_readHow 69 rfl) (Or.inl g6) (Or.inl (by decide))) (fun u7 => ?_) (fun u7 => ?_)
    · replace h := qc_jn u7 h
      exact And.imp_right (fun hx => qc_sub [0, 1] rfl hx) (tX2_readHow_b155 hn (c3.1.1 hR) h)
    · replace h := qc_jp u7 h
      refine And.imp_right (fun hx => qc_aload_n (qc_at qkX2_readHow 70 rfl) rfl <| qc_iconst (qc_at qkX2_readHow 71 rfl) <| hx) (qd_pI (qc_at qkX2_readHow 72 rfl) hn rfl rfl ?_)
      exact And.imp_right (fun hx => qc_sub [0, 1] rfl hx) (tX2_readHow_b155 hn (c3.1.1 hR) h)
  · replace h := qc_jp u5 h
    refine And.imp_right (fun hx => qc_aload_n (qc_at qkX2_readHow 57 rfl) rfl <| qc_iload_n (qc_at qkX2_readHow 58 rfl) rfl <| qc_iconst (qc_at qkX2_readHow 59 rfl) <| hx) ?_
    refine qc_andC (qc_icmp_gt (qc_at qkX2_readHow 60 rfl)) (fun u8 => ?_) (fun u8 => ?_)
    · replace h := qc_jp u8 h
      exact And.imp_right (fun hx => qc_iconst (qc_at qkX2_readHow 63 rfl) <| qc_sub [0, 1] rfl hx) (tX2_readHow_b134 hn (c3.1.1 hR) h)
    · replace h := qc_jn u8 h
      exact And.imp_right (fun hx => qc_iconst (qc_at qkX2_readHow 61 rfl) <| qc_goto (qc_at qkX2_readHow 62 rfl) <| qc_sub [0, 1] rfl hx) (tX2_readHow_b134 hn (c3.1.1 hR) h)
def fX2_readHow_b66 (w : qcW) (I : qTI) (L : qTL) (D : qTD) (R : qTR) : qcO Unit :=
  (qc_bd (fX9_take w I L D R) fun r9 I9 L9 D9 R9 => qc_bd (fX2_rc w 200 0 0 I9 L9 D9 (qc_u R9 267 4 273)) fun r10 I10 L10 D10 R10 => if r10 = 0 then (fX2_readHow_b98 w I10 L10 D10 R10 r10 (0 : Int32)) else (fX2_readHow_b98 w I10 L10 D10 R10 r10 (1 : Int32)))
set_option maxRecDepth 100000 in
set_option maxHeartbeats 4000000 in
theorem tX2_readHow_b66 {w : qcW} {I : qTI} {L : qTL} {D : qTD} {R : qTR} {r : Unit} {I' : qTI} {L' : qTL} {D' : qTD} {R' : qTR} (hn : qcNF ≤ w.1) (hR : qc_FR R) (h : fX2_readHow_b66 w I L D R = some (r, I', L', D', R')) : qc_fm qcSX (I, L, D, R) (I', L', D', R') ∧ qc_X (qc_rm (208) 0 0) qmX2_readHow (qc_QM 0 0 (qc_eq none w (I', L', D', R'))) 0 0 w (66, [(0, .ref 267)], [], I, L, D, R) := by
  unfold fX2_readHow_b66 at h
  refine And.imp_right (fun hx => qc_aload_n (qc_at qkX2_readHow 28 rfl) rfl <| qc_gR (qc_at qkX2_readHow 29 rfl) hn rfl (qfr_267_0 hR) rfl <| hx) ?_
  obtain ⟨r9, I9, L9, D9, R9, e9, h⟩ := qc_bd_of h
  have c9 := (tX9_take hn hR e9)
  refine qd_cVn (ci := 7) (a0 := 268) (qc_at qkX2_readHow 30 rfl) ql_2_195 qfX9_take (qc_kf hn rfl) rfl c9 rfl rfl (Nat.le_of_ble_eq_true rfl) (qc_rml (by decide) (by decide)) ⟨Nat.zero_le _, Nat.zero_le _⟩ ?_
  refine And.imp_right (fun hx => qc_aload_n (qc_at qkX2_readHow 31 rfl) rfl <| qc_aload_n (qc_at qkX2_readHow 32 rfl) rfl <| qc_gR (qc_at qkX2_readHow 33 rfl) hn rfl (qfr_267_2 (c9.1.1 hR)) rfl <| qc_iconst (qc_at qkX2_readHow 34 rfl) <| qc_aald 0 (Or.inl rfl) (qc_at qkX2_readHow 35 rfl) (qc_kaf hn rfl) (qc_inb_in (n := 3) (by decide)) (qfr_269_1 (c9.1.1 hR)) rfl <| hx) (qd_pR (qc_at qkX2_readHow 36 rfl) hn rfl rfl rfl rfl ?_)
  refine And.imp_right (fun hx => qc_aload_n (qc_at qkX2_readHow 37 rfl) rfl <| hx) ?_
  obtain ⟨r10, I10, L10, D10, R10, e10, h⟩ := qc_bd_of h
  have c10 := (qd_rc0 (tX2_rc hn 200) ((c9.1.1 hR).u _ rfl) e10)
  refine qd_cVv (ci := 2) (a0 := 267) (qc_at qkX2_readHow 38 rfl) ql_2_105 qfX2_sum (qc_kf hn rfl) rfl c10 rfl rfl (Nat.le_of_ble_eq_true rfl) (qc_rml (by decide) (by decide)) ⟨Nat.zero_le _, Nat.zero_le _⟩ ?_
  refine And.imp_right (fun hx => qc_istore_n (lv' := [(1, _), (0, _)]) (qc_at qkX2_readHow 39 rfl) rfl rfl <| qc_aload_n (qc_at qkX2_readHow 40 rfl) rfl <| qc_iload_n (qc_at qkX2_readHow 41 rfl) rfl <| hx) ?_
  refine qc_andC (qc_if_eq (qc_at qkX2_readHow 42 rfl)) (fun u11 => ?_) (fun u11 => ?_)
  · replace h := qc_jp u11 h
    exact And.imp_right (fun hx => qc_iconst (qc_at qkX2_readHow 45 rfl) <| qc_sub [1, 0] rfl hx) (tX2_readHow_b98 hn (c10.1.1 ((c9.1.1 hR).u _ rfl)) h)
  · replace h := qc_jn u11 h
    exact And.imp_right (fun hx => qc_iconst (qc_at qkX2_readHow 43 rfl) <| qc_goto (qc_at qkX2_readHow 44 rfl) <| qc_sub [1, 0] rfl hx) (tX2_readHow_b98 hn (c10.1.1 ((c9.1.1 hR).u _ rfl)) h)
def fX2_readHow (w : qcW) (I : qTI) (L : qTL) (D : qTD) (R : qTR) : qcO Unit :=
  (qc_gd (qc_l62 (R 268 1)) <| qc_bd (fX2_took w I L D (qc_u R 267 8 (R 268 1)) 10) fun r13 I13 L13 D13 R13 => if r13 = true then (some ((), I13, L13, D13, R13)) else (qc_gd (qc_l62 (R13 267 8)) <| if (R13 267 8) = 11 then (fX2_readHow_b66 w I13 L13 D13 R13) else (qc_gd (qc_l62 (R13 267 8)) <| if (R13 267 8) = 12 then (fX2_readHow_b66 w I13 L13 D13 R13) else (qc_gd (qc_l62 (R13 267 8)) <| if (R13 267 8) = 27 then (fX2_readHow_b66 w I13 L13 D13 R13) else (qc_gd (qc_l62 (R13 267 8)) <| if (R13 267 8) = 28 then (fX2_readHow_b66 w I13 L13 D13 R13) else (qc_bd (fX2_misplaced w I13 L13 D13 R13) fun r23 I23 L23 D23 R23 => fX2_readHow_b66 w I23 L23 D23 R23))))))
set_option maxRecDepth 100000 in
set_option maxHeartbeats 4000000 in
theorem tX2_readHow {w : qcW} {I : qTI} {L : qTL} {D : qTD} {R : qTR} {r : Unit} {I' : qTI} {L' : qTL} {D' : qTD} {R' : qTR} (hn : qcNF ≤ w.1) (hR : qc_FR R) (h : fX2_readHow w I L D R = some (r, I', L', D', R')) : qc_fm qcSX (I, L, D, R) (I', L', D', R') ∧ qc_V (208) 0 0 qmX2_readHow [.ref 267] w (I, L, D, R) (qc_eq none w (I', L', D', R')) := by
  unfold fX2_readHow at h
  refine And.imp_right (fun hx => qc_V.of rfl rfl (Nat.le_of_ble_eq_true rfl) (lv := [(0, .ref 267)]) rfl hx) ?_
  refine And.imp_right (fun hx => qc_aload_n (qc_at qkX2_readHow 0 rfl) rfl <| qc_aload_n (qc_at qkX2_readHow 1 rfl) rfl <| qc_gR (qc_at qkX2_readHow 2 rfl) hn rfl (qfr_267_0 hR) rfl <| hx) ?_
  obtain ⟨g12, h⟩ := qc_gd_of h
  replace g12 := qc_l62_of g12
  refine And.imp_right (fun hx => qc_gR (qc_at qkX2_readHow 3 rfl) hn rfl rfl (qc_ne62 g12) <| hx) (qd_pR (qc_at qkX2_readHow 4 rfl) hn rfl (qc_ne62 g12) rfl rfl ?_)
  refine And.imp_right (fun hx => qc_aload_n (qc_at qkX2_readHow 5 rfl) rfl <| qc_gS (qc_at qkX2_readHow 6 rfl) rfl <| hx) ?_
  obtain ⟨r13, I13, L13, D13, R13, e13, h⟩ := qc_bd_of h
  have c13 := (tX2_took hn (hR.u _ rfl) e13)
  refine qd_cVv (ci := 2) (a0 := 267) (qc_at qkX2_readHow 7 rfl) ql_2_64 qfX2_took (qc_kf hn rfl) rfl c13 rfl rfl (Nat.le_of_ble_eq_true rfl) (qc_rml (by decide) (by decide)) ⟨Nat.zero_le _, Nat.zero_le _⟩ ?_
  refine qc_andB (qc_ifB_eq (qc_at qkX2_readHow 8 rfl)) (fun u14 => ?_) (fun u14 => ?_)
  · replace h := qc_jf u14 h
    refine And.imp_right (fun hx => qc_aload_n (qc_at qkX2_readHow 10 rfl) rfl <| hx) ?_
    obtain ⟨g15, h⟩ := qc_gd_of h
    replace g15 := qc_l62_of g15
    refine And.imp_right (fun hx => qc_gR (qc_at qkX2_readHow 11 rfl) hn rfl rfl (qc_ne62 g15) <| qc_gS (qc_at qkX2_readHow 12 rfl) rfl <| hx) ?_
    refine qc_andC (qc_acmp_eq (qc_at qkX2_readHow 13 rfl) (Or.inl g15) (Or.inl (by decide))) (fun u16 => ?_) (fun u16 => ?_)
    · replace h := qc_jp u16 h
      exact And.imp_right (fun hx => qc_sub [0] rfl hx) (tX2_readHow_b66 hn (c13.1.1 (hR.u _ rfl)) h)
    · replace h := qc_jn u16 h
      refine And.imp_right (fun hx => qc_aload_n (qc_at qkX2_readHow 14 rfl) rfl <| hx) ?_
      obtain ⟨g17, h⟩ := qc_gd_of h
      replace g17 := qc_l62_of g17
      refine And.imp_right (fun hx => qc_gR (qc_at qkX2_readHow 15 rfl) hn rfl rfl (qc_ne62 g17) <| qc_gS (qc_at qkX2_readHow 16 rfl) rfl <| hx) ?_
      refine qc_andC (qc_acmp_eq (qc_at qkX2_readHow 17 rfl) (Or.inl g17) (Or.inl (by decide))) (fun u18 => ?_) (fun u18 => ?_)
      · replace h := qc_jp u18 h
        exact And.imp_right (fun hx => qc_sub [0] rfl hx) (tX2_readHow_b66 hn (c13.1.1 (hR.u _ rfl)) h)
      · replace h := qc_jn u18 h
        refine And.imp_right (fun hx => qc_aload_n (qc_at qkX2_readHow 18 rfl) rfl <| hx) ?_
        obtain ⟨g19, h⟩ := qc_gd_of h
        replace g19 := qc_l62_of g19
        refine And.imp_right (fun hx => qc_gR (qc_at qkX2_readHow 19 rfl) hn rfl rfl (qc_ne62 g19) <| qc_gS (qc_at qkX2_readHow 20 rfl) rfl <| hx) ?_
        refine qc_andC (qc_acmp_eq (qc_at qkX2_readHow 21 rfl) (Or.inl g19) (Or.inl (by decide))) (fun u20 => ?_) (fun u20 => ?_)
        · replace h := qc_jp u20 h
          exact And.imp_right (fun hx => qc_sub [0] rfl hx) (tX2_readHow_b66 hn (c13.1.1 (hR.u _ rfl)) h)
        · replace h := qc_jn u20 h
          refine And.imp_right (fun hx => qc_aload_n (qc_at qkX2_readHow 22 rfl) rfl <| hx) ?_
          obtain ⟨g21, h⟩ := qc_gd_of h
          replace g21 := qc_l62_of g21
          refine And.imp_right (fun hx => qc_gR (qc_at qkX2_readHow 23 rfl) hn rfl rfl (qc_ne62 g21) <| qc_gS (qc_at qkX2_readHow 24 rfl) rfl <| hx) ?_
          refine qc_andC (qc_acmp_eq (qc_at qkX2_readHow 25 rfl) (Or.inl g21) (Or.inl (by decide))) (fun u22 => ?_) (fun u22 => ?_)
          · replace h := qc_jp u22 h
            exact And.imp_right (fun hx => qc_sub [0] rfl hx) (tX2_readHow_b66 hn (c13.1.1 (hR.u _ rfl)) h)
          · replace h := qc_jn u22 h
            refine And.imp_right (fun hx => qc_aload_n (qc_at qkX2_readHow 26 rfl) rfl <| hx) ?_
            obtain ⟨r23, I23, L23, D23, R23, e23, h⟩ := qc_bd_of h
            have c23 := (tX2_misplaced hn (c13.1.1 (hR.u _ rfl)) e23)
            refine qd_cVn (ci := 2) (a0 := 267) (qc_at qkX2_readHow 27 rfl) ql_2_126 qfX2_misplaced (qc_kf hn rfl) rfl c23 rfl rfl (Nat.le_of_ble_eq_true rfl) (qc_rml (by decide) (by decide)) ⟨Nat.zero_le _, Nat.zero_le _⟩ ?_
            exact And.imp_right (fun hx => qc_sub [0] rfl hx) (tX2_readHow_b66 hn (c23.1.1 (c13.1.1 (hR.u _ rfl))) h)
  · replace h := qc_jt u14 h
    obtain ⟨rfl, rfl, rfl, rfl, rfl⟩ := qc_some5 h
    exact ⟨qc_fm.rf _, qc_vret (qc_at qkX2_readHow 9 rfl) rfl (Nat.le_refl _) (Nat.le_refl _) (qc_eq.rf _ _ _)⟩
def fX2_readSet_b128 (w : qcW) (I : qTI) (L : qTL) (D : qTD) (R : qTR) (x1 : Int32) : qcO Unit :=
  (qc_gd (qc_io w (R 267 4) 0) <| qc_bd (fX0_add w I L D R (R 267 4) ((20 : Int32) + x1) (I 267 10)) fun r2 I2 L2 D2 R2 => some ((), I2, L2, D2, R2))
set_option maxRecDepth 100000 in
set_option maxHeartbeats 4000000 in
theorem tX2_readSet_b128 {w : qcW} {I : qTI} {L : qTL} {D : qTD} {R : qTR} {x1 : Int32} {r : Unit} {I' : qTI} {L' : qTL} {D' : qTD} {R' : qTR} (hn : qcNF ≤ w.1) (hR : qc_FR R) (h : fX2_readSet_b128 w I L D R x1 = some (r, I', L', D', R')) : qc_fm qcSX (I, L, D, R) (I', L', D', R') ∧ qc_X (qc_rm (208) 0 0) qmX2_readSet (qc_QM 0 0 (qc_eq none w (I', L', D', R'))) 0 0 w (128, [(0, .ref 267), (1, .int x1)], [], I, L, D, R) := by
  unfold fX2_readSet_b128 at h
  refine And.imp_right (fun hx => qc_aload_n (qc_at qkX2_readSet 68 rfl) rfl <| hx) ?_
  obtain ⟨g1, h⟩ := qc_gd_of h
  replace g1 := qc_io_of g1
  refine And.imp_right (fun hx => qc_gR (qc_at qkX2_readSet 69 rfl) hn rfl rfl (qc_ki255 g1) <| qc_bipush (qc_at qkX2_readSet 70 rfl) <| qc_iload_n (qc_at qkX2_readSet 71 rfl) rfl <| qc_iadd (qc_at qkX2_readSet 72 rfl) <| qc_aload_n (qc_at qkX2_readSet 73 rfl) rfl <| qc_gI (qc_at qkX2_readSet 74 rfl) hn rfl <| hx) ?_
  obtain ⟨r2, I2, L2, D2, R2, e2, h⟩ := qc_bd_of h
  have c2 := (tX0_add hn hR e2)
  refine qd_cVn (ci := 0) (qc_at qkX2_readSet 75 rfl) ql_2_207 qfX0_add g1 rfl c2 rfl rfl (Nat.le_of_ble_eq_true rfl) (qc_rml (by decide) (by decide)) ⟨Nat.zero_le _, Nat.zero_le _⟩ ?_
  obtain ⟨rfl, rfl, rfl, rfl, rfl⟩ := qc_some5 h
  exact ⟨qc_fm.rf _, qc_vret (qc_at qkX2_readSet 76 rfl) rfl (Nat.le_refl _) (Nat.le_refl _) (qc_eq.rf _ _ _)⟩
def fX2_readSet_b89 (w : qcW) (I : qTI) (L : qTL) (D : qTD) (R : qTR) (x1 : Int32) (x2 : Int32) (x3 : Int32) (s0 : Int32) : qcO Unit :=
  (qc_bd (fX2_fit w I L D R s0 x2) fun r3 I3 L3 D3 R3 => qc_gd (qc_io w (R3 267 4) 0) <| qc_bd (fX1_kindOf w I3 L3 D3 R3 x1) fun r5 I5 L5 D5 R5 => qc_bd (fX0_convert w I5 L5 D5 R5 (R3 267 4) x3 r5) fun r6 I6 L6 D6 R6 => if x1 < (1 : Int32) then (fX2_readSet_b128 w I6 L6 D6 R6 x1) else (if (3 : Int32) < x1 then (fX2_readSet_b128 w I6 L6 D6 R6 x1) else (qc_gd (qc_io w (R6 267 4) 0) <| qc_bd (fX0_add w I6 L6 D6 R6 (R6 267 4) ((1650 : Int32) + x1) (0 : Int32)) fun r10 I10 L10 D10 R10 => fX2_readSet_b128 w I10 L10 D10 R10 x1)))
set_option maxRecDepth 100000 in
set_option maxHeartbeats 4000000 in
theorem tX2_readSet_b89 {w : qcW} {I : qTI} {L : qTL} {D : qTD} {R : qTR} {x1 : Int32} {x2 : Int32} {x3 : Int32} {s0 : Int32} {r : Unit} {I' : qTI} {L' : qTL} {D' : qTD} {R' : qTR} (hn : qcNF ≤ w.1) (hR : qc_FR R) (h : fX2_readSet_b89 w I L D R x1 x2 x3 s0 = some (r, I', L', D', R')) : qc_fm qcSX (I, L, D, R) (I', L', D', R') ∧ qc_X (qc_rm (208) 0 0) qmX2_readSet (qc_QM 0 0 (qc_eq none w (I', L', D', R'))) 0 0 w (89, [(0, .ref 267), (1, .int x1), (2, .int x2), (3, .int x3)], [.int s0, .ref 267], I, L, D, R) := by
  unfold fX2_readSet_b89 at h
  refine And.imp_right (fun hx => qc_iload_n (qc_at qkX2_readSet 47 rfl) rfl <| hx) ?_
  obtain ⟨r3, I3, L3, D3, R3, e3, h⟩ := qc_bd_of h
  have c3 := (tX2_fit hn hR e3)
  refine qd_cVn (ci := 2) (a0 := 267) (qc_at qkX2_readSet 48 rfl) ql_2_116 qfX2_fit (qc_kf hn rfl) rfl c3 rfl rfl (Nat.le_of_ble_eq_true rfl) (qc_rml (by decide) (by decide)) ⟨Nat.zero_le _, Nat.zero_le _⟩ ?_
  refine And.imp_right (fun hx => qc_aload_n (qc_at qkX2_readSet 49 rfl) rfl <| hx) ?_
  obtain ⟨g4, h⟩ := qc_gd_of h
  replace g4 := qc_io_of g4
  refine And.imp_right (fun hx => qc_gR (qc_at qkX2_readSet 50 rfl) hn rfl rfl (qc_ki255 g4) <| qc_iload_n (qc_at qkX2_readSet 51 rfl) rfl <| qc_iload_n (qc_at qkX2_readSet 52 rfl) rfl <| hx) ?_
  obtain ⟨r5, I5, L5, D5, R5, e5, h⟩ := qc_bd_of h
  have c5 := (tX1_kindOf hn (c3.1.1 hR) e5)
  refine qd_cSv (qc_at qkX2_readSet 53 rfl) ql_2_210 qfX1_kindOf c5 rfl rfl (Nat.le_of_ble_eq_true rfl) (qc_rml (by decide) (by decide)) ⟨Nat.zero_le _, Nat.zero_le _⟩ ?_
  obtain ⟨r6, I6, L6, D6, R6, e6, h⟩ := qc_bd_of h
  have c6 := (tX0_convert hn (c5.1.1 (c3.1.1 hR)) e6)
  refine qd_cVn (ci := 0) (qc_at qkX2_readSet 54 rfl) ql_2_177 qfX0_convert g4 rfl c6 rfl rfl (Nat.le_of_ble_eq_true rfl) (qc_rml (by decide) (by decide)) ⟨Nat.zero_le _, Nat.zero_le _⟩ ?_
  refine And.imp_right (fun hx => qc_iload_n (qc_at qkX2_readSet 55 rfl) rfl <| qc_iconst (qc_at qkX2_readSet 56 rfl) <| hx) ?_
  refine qc_andC (qc_icmp_lt (qc_at qkX2_readSet 57 rfl)) (fun u7 => ?_) (fun u7 => ?_)
  · replace h := qc_jp u7 h
    exact And.imp_right (fun hx => qc_sub [0, 1] rfl hx) (tX2_readSet_b128 hn (c6.1.1 (c5.1.1 (c3.1.1 hR))) h)
  · replace h := qc_jn u7 h
    refine And.imp_right (fun hx => qc_iload_n (qc_at qkX2_readSet 58 rfl) rfl <| qc_iconst (qc_at qkX2_readSet 59 rfl) <| hx) ?_
    refine qc_andC (qc_icmp_gt (qc_at qkX2_readSet 60 rfl)) (fun u8 => ?_) (fun u8 => ?_)
    · replace h := qc_jp u8 h
      exact And.imp_right (fun hx => qc_sub [0, 1] rfl hx) (tX2_readSet_b128 hn (c6.1.1 (c5.1.1 (c3.1.1 hR))) h)
    · replace h := qc_jn u8 h
      refine And.imp_right (fun hx => qc_aload_n (qc_at qkX2_readSet 61 rfl) rfl <| hx) ?_
      obtain ⟨g9, h⟩ := qc_gd_of h
      replace g9 := qc_io_of g9
      refine And.imp_right (fun hx => qc_gR (qc_at qkX2_readSet 62 rfl) hn rfl rfl (qc_ki255 g9) <| qc_sipush (qc_at qkX2_readSet 63 rfl) <| qc_iload_n (qc_at qkX2_readSet 64 rfl) rfl <| qc_iadd (qc_at qkX2_readSet 65 rfl) <| qc_iconst (qc_at qkX2_readSet 66 rfl) <| hx) ?_
      obtain ⟨r10, I10, L10, D10, R10, e10, h⟩ := qc_bd_of h
      have c10 := (tX0_add hn (c6.1.1 (c5.1.1 (c3.1.1 hR))) e10)
      refine qd_cVn (ci := 0) (qc_at qkX2_readSet 67 rfl) ql_2_207 qfX0_add g9 rfl c10 rfl rfl (Nat.le_of_ble_eq_true rfl) (qc_rml (by decide) (by decide)) ⟨Nat.zero_le _, Nat.zero_le _⟩ ?_
      exact And.imp_right (fun hx => qc_sub [0, 1] rfl hx) (tX2_readSet_b128 hn (c10.1.1 (c6.1.1 (c5.1.1 (c3.1.1 hR)))) h)
def fX2_readSet_b81 (w : qcW) (I : qTI) (L : qTL) (D : qTD) (R : qTR) (x1 : Int32) (x2 : Int32) (x3 : Int32) (s0 : Int32) (s1 : Int32) : qcO Unit :=
  (if s1 = s0 then (fX2_readSet_b89 w I L D R x1 x2 x3 (1 : Int32)) else (fX2_readSet_b89 w I L D R x1 x2 x3 (0 : Int32)))
set_option maxRecDepth 100000 in
set_option maxHeartbeats 4000000 in
theorem tX2_readSet_b81 {w : qcW} {I : qTI} {L : qTL} {D : qTD} {R : qTR} {x1 : Int32} {x2 : Int32} {x3 : Int32} {s0 : Int32} {s1 : Int32} {r : Unit} {I' : qTI} {L' : qTL} {D' : qTD} {R' : qTR} (hn : qcNF ≤ w.1) (hR : qc_FR R) (h : fX2_readSet_b81 w I L D R x1 x2 x3 s0 s1 = some (r, I', L', D', R')) : qc_fm qcSX (I, L, D, R) (I', L', D', R') ∧ qc_X (qc_rm (208) 0 0) qmX2_readSet (qc_QM 0 0 (qc_eq none w (I', L', D', R'))) 0 0 w (81, [(0, .ref 267), (1, .int x1), (2, .int x2), (3, .int x3)], [.int s0, .int s1, .ref 267], I, L, D, R) := by
  unfold fX2_readSet_b81 at h
  refine qc_andN (qc_icmp_ne (qc_at qkX2_readSet 43 rfl)) (fun u11 => ?_) (fun u11 => ?_)
  · replace h := qc_jn u11 h
    exact And.imp_right (fun hx => qc_iconst (qc_at qkX2_readSet 46 rfl) <| qc_sub [0, 1, 2, 3] rfl hx) (tX2_readSet_b89 hn hR h)
  · replace h := qc_jp u11 h
    exact And.imp_right (fun hx => qc_iconst (qc_at qkX2_readSet 44 rfl) <| qc_goto (qc_at qkX2_readSet 45 rfl) <| qc_sub [0, 1, 2, 3] rfl hx) (tX2_readSet_b89 hn hR h)
def fX2_readSet_b72 (w : qcW) (I : qTI) (L : qTL) (D : qTD) (R : qTR) (x1 : Int32) (x2 : Int32) (x3 : Int32) (s0 : Int32) : qcO Unit :=
  (if x1 = 0 then (fX2_readSet_b81 w I L D R x1 x2 x3 (1 : Int32) s0) else (fX2_readSet_b81 w I L D R x1 x2 x3 (0 : Int32) s0))
set_option maxRecDepth 100000 in
set_option maxHeartbeats 4000000 in
theorem tX2_readSet_b72 {w : qcW} {I : qTI} {L : qTL} {D : qTD} {R : qTR} {x1 : Int32} {x2 : Int32} {x3 : Int32} {s0 : Int32} {r : Unit} {I' : qTI} {L' : qTL} {D' : qTD} {R' : qTR} (hn : qcNF ≤ w.1) (hR : qc_FR R) (h : fX2_readSet_b72 w I L D R x1 x2 x3 s0 = some (r, I', L', D', R')) : qc_fm qcSX (I, L, D, R) (I', L', D', R') ∧ qc_X (qc_rm (208) 0 0) qmX2_readSet (qc_QM 0 0 (qc_eq none w (I', L', D', R'))) 0 0 w (72, [(0, .ref 267), (1, .int x1), (2, .int x2), (3, .int x3)], [.int s0, .ref 267], I, L, D, R) := by
  unfold fX2_readSet_b72 at h
  refine And.imp_right (fun hx => qc_iload_n (qc_at qkX2_readSet 38 rfl) rfl <| hx) ?_
  refine qc_andN (qc_if_ne (qc_at qkX2_readSet 39 rfl)) (fun u12 => ?_) (fun u12 => ?_)
  · replace h := qc_jn u12 h
    exact And.imp_right (fun hx => qc_iconst (qc_at qkX2_readSet 42 rfl) <| qc_sub [0, 1, 2, 3] rfl hx) (tX2_readSet_b81 hn hR h)
  · replace h := qc_jp u12 h
    exact And.imp_right (fun hx => qc_iconst (qc_at qkX2_readSet 40 rfl) <| qc_goto (qc_at qkX2_readSet 41 rfl) <| qc_sub [0, 1, 2, 3] rfl hx) (tX2_readSet_b81 hn hR h)
def fX2_readSet (w : qcW) (I : qTI) (L : qTL) (D : qTD) (R : qTR) : qcO Unit :=
  (qc_bd (fX2_metColumn w (qc_u I 267 10 (I 268 4)) L D R) fun r13 I13 L13 D13 R13 => qc_bd (fX2_expect w I13 L13 D13 R13 3) fun r14 I14 L14 D14 R14 => qc_bd (fX2_expect w I14 L14 D14 R14 61) fun r15 I15 L15 D15 R15 => qc_gd (qc_io w ((qc_u R15 267 4 273) 267 4) 0) <| qc_bd (fX0_add w I15 L15 D15 (qc_u R15 267 4 273) ((qc_u R15 267 4 273) 267 4) (3 : Int32) (0 : Int32)) fun r17 I17 L17 D17 R17 => qc_bd (fX2_rc w 200 0 0 I17 L17 D17 R17) fun r18 I18 L18 D18 R18 => if r18 = 0 then (fX2_readSet_b72 w I18 L18 D18 R18 r13 (I14 268 2) r18 (1 : Int32)) else (fX2_readSet_b72 w I18 L18 D18 R18 r13 (I14 268 2) r18 (0 : Int32)))
set_option maxRecDepth 100000 in
set_option maxHeartbeats 4000000 in
theorem tX2_readSet {w : qcW} {I : qTI} {L : qTL} {D : qTD} {R : qTR} {r : Unit} {I' : qTI} {L' : qTL} {D' : qTD} {R' : qTR} (hn : qcNF ≤ w.1) (hR : qc_FR R) (h : fX2_readSet w I L D R = some (r, I', L', D', R')) : qc_fm qcSX (I, L, D, R) (I', L', D', R') ∧ qc_V (208) 0 0 qmX2_readSet [.ref 267] w (I, L, D, R) (qc_eq none w (I', L', D', R')) := by
  unfold fX2_readSet at h
  refine And.imp_right (fun hx => qc_V.of rfl rfl (Nat.le_of_ble_eq_true rfl) (lv := [(0, .ref 267)]) rfl hx) ?_
  refine And.imp_right (fun hx => qc_aload_n (qc_at qkX2_readSet 0 rfl) rfl <| qc_aload_n (qc_at qkX2_readSet 1 rfl) rfl <| qc_gR (qc_at qkX2_readSet 2 rfl) hn rfl (qfr_267_0 hR) rfl <| qc_gI (qc_at qkX2_readSet 3 rfl) hn rfl <| hx) (qd_pI (qc_at qkX2_readSet 4 rfl) hn rfl rfl ?_)
  refine And.imp_right (fun hx => qc_aload_n (qc_at qkX2_readSet 5 rfl) rfl <| hx) ?_
  obtain ⟨r13, I13, L13, D13, R13, e13, h⟩ := qc_bd_of h
  have c13 := (tX2_metColumn hn hR e13)
  refine qd_cVv (ci := 2) (a0 := 267) (qc_at qkX2_readSet 6 rfl) ql_2_198 qfX2_metColumn (qc_kf hn rfl) rfl c13 rfl rfl (Nat.le_of_ble_eq_true rfl) (qc_rml (by decide) (by decide)) ⟨Nat.zero_le _, Nat.zero_le _⟩ ?_
  refine And.imp_right (fun hx => qc_istore_n (lv' := [(1, _), (0, _)]) (qc_at qkX2_readSet 7 rfl) rfl rfl <| qc_aload_n (qc_at qkX2_readSet 8 rfl) rfl <| qc_gS (qc_at qkX2_readSet 9 rfl) rfl <| hx) ?_
  obtain ⟨r14, I14, L14, D14, R14, e14, h⟩ := qc_bd_of h
  have c14 := (tX2_expect hn (c13.1.1 hR) e14)
  refine qd_cVn (ci := 2) (a0 := 267) (qc_at qkX2_readSet 10 rfl) ql_2_89 qfX2_expect (qc_kf hn rfl) rfl c14 rfl rfl (Nat.le_of_ble_eq_true rfl) (qc_rml (by decide) (by decide)) ⟨Nat.zero_le _, Nat.zero_le _⟩ ?_
  refine And.imp_right (fun hx => qc_aload_n (qc_at qkX2_readSet 11 rfl) rfl <| qc_gR (qc_at qkX2_readSet 12 rfl) hn rfl (qfr_267_0 (c14.1.1 (c13.1.1 hR))) rfl <| qc_gI (qc_at qkX2_readSet 13 rfl) hn rfl <| qc_istore_n (lv' := [(2, _), (1, _), (0, _)]) (qc_at qkX2_readSet 14 rfl) rfl rfl <| qc_aload_n (qc_at qkX2_readSet 15 rfl) rfl <| qc_gS (qc_at qkX2_readSet 16 rfl) rfl <| hx) ?_
  obtain ⟨r15, I15, L15, D15, R15, e15, h⟩ := qc_bd_of h
  have c15 := (tX2_expect hn (c14.1.1 (c13.1.1 hR)) e15)
  refine qd_cVn (ci := 2) (a0 := 267) (qc_at qkX2_readSet 17 rfl) ql_2_89 qfX2_expect (qc_kf hn rfl) rfl c15 rfl rfl (Nat.le_of_ble_eq_true rfl) (qc_rml (by decide) (by decide)) ⟨Nat.zero_le _, Nat.zero_le _⟩ ?_
  refine And.imp_right (fun hx => qc_aload_n (qc_at qkX2_readSet 18 rfl) rfl <| qc_aload_n (qc_at qkX2_readSet 19 rfl) rfl <| qc_gR (qc_at qkX2_readSet 20 rfl) hn rfl (qfr_267_2 (c15.1.1 (c14.1.1 (c13.1.1 hR)))) rfl <| qc_iconst (qc_at qkX2_readSet 21 rfl) <| qc_aald 0 (Or.inl rfl) (qc_at qkX2_readSet 22 rfl) (qc_kaf hn rfl) (qc_inb_in (n := 3) (by decide)) (qfr_269_1 (c15.1.1 (c14.1.1 (c13.1.1 hR)))) rfl <| hx) (qd_pR (qc_at qkX2_readSet 23 rfl) hn rfl rfl rfl rfl ?_)
  refine And.imp_right (fun hx => qc_aload_n (qc_at qkX2_readSet 24 rfl) rfl <| hx) ?_
  obtain ⟨g16, h⟩ := qc_gd_of h
  replace g16 := qc_io_of g16
  refine And.imp_right (fun hx => qc_gR (qc_at qkX2_readSet 25 rfl) hn rfl rfl (qc_ki255 g16) <| qc_iconst (qc_at qkX2_readSet 26 rfl) <| qc_iconst (qc_at qkX2_readSet 27 rfl) <| hx) ?_
  obtain ⟨r17, I17, L17, D17, R17, e17, h⟩ := qc_bd_of h
  have c17 := (tX0_add hn ((c15.1.1 (c14.1.1 (c13.1.1 hR))).u _ rfl) e17)
  refine qd_cVn (ci := 0) (qc_at qkX2_readSet 28 rfl) ql_2_207 qfX0_add g16 rfl c17 rfl rfl (Nat.le_of_ble_eq_true rfl) (qc_rml (by decide) (by decide)) ⟨Nat.zero_le _, Nat.zero_le _⟩ ?_
  refine And.imp_right (fun hx => qc_aload_n (qc_at qkX2_readSet 29 rfl) rfl <| hx) ?_
  obtain ⟨r18, I18, L18, D18, R18, e18, h⟩ := qc_bd_of h
  have c18 := (qd_rc0 (tX2_rc hn 200) (c17.1.1 ((c15.1.1 (c14.1.1 (c13.1.1 hR))).u _ rfl)) e18)
  refine qd_cVv (ci := 2) (a0 := 267) (qc_at qkX2_readSet 30 rfl) ql_2_105 qfX2_sum (qc_kf hn rfl) rfl c18 rfl rfl (Nat.le_of_ble_eq_true rfl) (qc_rml (by decide) (by decide)) ⟨Nat.zero_le _, Nat.zero_le _⟩ ?_
  refine And.imp_right (fun hx => qc_istore_n (lv' := [(3, _), (2, _), (1, _), (0, _)]) (qc_at qkX2_readSet 31 rfl) rfl rfl <| qc_aload_n (qc_at qkX2_readSet 32 rfl) rfl <| qc_iload_n (qc_at qkX2_readSet 33 rfl) rfl <| hx) ?_
  refine qc_andN (qc_if_ne (qc_at qkX2_readSet 34 rfl)) (fun u19 => ?_) (fun u19 => ?_)
  · replace h := qc_jn u19 h
    exact And.imp_right (fun hx => qc_iconst (qc_at qkX2_readSet 37 rfl) <| qc_sub [3, 2, 1, 0] rfl hx) (tX2_readSet_b72 hn (c18.1.1 (c17.1.1 ((c15.1.1 (c14.1.1 (c13.1.1 hR))).u _ rfl))) h)
  · replace h := qc_jp u19 h
    exact And.imp_right (fun hx => qc_iconst (qc_at qkX2_readSet 35 rfl) <| qc_goto (qc_at qkX2_readSet 36 rfl) <| qc_sub [3, 2, 1, 0] rfl hx) (tX2_readSet_b72 hn (c18.1.1 (c17.1.1 ((c15.1.1 (c14.1.1 (c13.1.1 hR))).u _ rfl))) h)
