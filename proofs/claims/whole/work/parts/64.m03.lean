def fX12_expression_b96 (w : qcW) (k27 : qTI × qTL × qTD × qTR × Int32 × Int32 × Int32 → qcO Int32) (I : qTI) (L : qTL) (D : qTD) (R : qTR) (x1 : Int32) (x3 : Int32) (s0 : Int32) : qcO Int32 :=
  (k27 (I, L, D, R, x1, s0, x3))
set_option maxRecDepth 100000 in
set_option maxHeartbeats 4000000 in
theorem tX12_expression_b96 {w : qcW} {I : qTI} {L : qTL} {D : qTD} {R : qTR} {k27 : qTI × qTL × qTD × qTR × Int32 × Int32 × Int32 → qcO Int32} {x1 : Int32} {x3 : Int32} {s0 : Int32} {r : Int32} {I' : qTI} {L' : qTL} {D' : qTD} {R' : qTR} (hn : qcNF ≤ w.1) (hR : qc_FR R) (hk27 : ∀ {I : qTI} {L : qTL} {D : qTD} {R : qTR} {x1 : Int32} {x2 : Int32} {x3 : Int32} {r : Int32} {I' : qTI} {L' : qTL} {D' : qTD} {R' : qTR}, qc_FR R → k27 (I, L, D, R, x1, x2, x3) = some (r, I', L', D', R') → qc_fm qcSM (I, L, D, R) (I', L', D', R') ∧ qc_X (qc_rm (7) 0 0) qmX12_expression (qc_QM 0 0 (qc_eq (some (.int r)) w (I', L', D', R'))) 0 0 w (27, [(0, .ref 291), (1, .int x1), (2, .int x2), (3, .int x3)], [], I, L, D, R)) (h : fX12_expression_b96 w k27 I L D R x1 x3 s0 = some (r, I', L', D', R')) : qc_fm qcSM (I, L, D, R) (I', L', D', R') ∧ qc_X (qc_rm (7) 0 0) qmX12_expression (qc_QM 0 0 (qc_eq (some (.int r)) w (I', L', D', R'))) 0 0 w (96, [(0, .ref 291), (1, .int x1), (3, .int x3)], [.int s0], I, L, D, R) := by
  unfold fX12_expression_b96 at h
  exact And.imp_right (fun hx => qc_istore_n (lv' := [(2, _), (0, _), (1, _), (3, _)]) (qc_at qkX12_expression 55 rfl) rfl rfl <| qc_goto (qc_at qkX12_expression 56 rfl) <| qc_sub [1, 2, 0, 3] rfl hx) (hk27 hR h)
def fX12_expression_b85 (w : qcW) (k27 : qTI × qTL × qTD × qTR × Int32 × Int32 × Int32 → qcO Int32) (I : qTI) (L : qTL) (D : qTD) (R : qTR) (x1 : Int32) (x5 : Int32) (s0 : Int32) : qcO Int32 :=
  (if x5 = 0 then (fX12_expression_b96 w k27 I L D R x1 s0 (1 : Int32)) else (fX12_expression_b96 w k27 I L D R x1 s0 (0 : Int32)))
set_option maxRecDepth 100000 in
set_option maxHeartbeats 4000000 in
theorem tX12_expression_b85 {w : qcW} {I : qTI} {L : qTL} {D : qTD} {R : qTR} {k27 : qTI × qTL × qTD × qTR × Int32 × Int32 × Int32 → qcO Int32} {x1 : Int32} {x5 : Int32} {s0 : Int32} {r : Int32} {I' : qTI} {L' : qTL} {D' : qTD} {R' : qTR} (hn : qcNF ≤ w.1) (hR : qc_FR R) (hk27 : ∀ {I : qTI} {L : qTL} {D : qTD} {R : qTR} {x1 : Int32} {x2 : Int32} {x3 : Int32} {r : Int32} {I' : qTI} {L' : qTL} {D' : qTD} {R' : qTR}, qc_FR R → k27 (I, L, D, R, x1, x2, x3) = some (r, I', L', D', R') → qc_fm qcSM (I, L, D, R) (I', L', D', R') ∧ qc_X (qc_rm (7) 0 0) qmX12_expression (qc_QM 0 0 (qc_eq (some (.int r)) w (I', L', D', R'))) 0 0 w (27, [(0, .ref 291), (1, .int x1), (2, .int x2), (3, .int x3)], [], I, L, D, R)) (h : fX12_expression_b85 w k27 I L D R x1 x5 s0 = some (r, I', L', D', R')) : qc_fm qcSM (I, L, D, R) (I', L', D', R') ∧ qc_X (qc_rm (7) 0 0) qmX12_expression (qc_QM 0 0 (qc_eq (some (.int r)) w (I', L', D', R'))) 0 0 w (85, [(0, .ref 291), (1, .int x1), (5, .int x5)], [.int s0], I, L, D, R) := by
  unfold fX12_expression_b85 at h
  refine And.imp_right (fun hx => qc_istore_n (lv' := [(3, _), (0, _), (1, _), (5, _)]) (qc_at qkX12_expression 49 rfl) rfl rfl <| qc_iload (qc_at qkX12_expression 50 rfl) rfl <| hx) ?_
  refine qc_andN (qc_if_ne (qc_at qkX12_expression 51 rfl)) (fun u1 => ?_) (fun u1 => ?_)
  · replace h := qc_jn u1 h
    exact And.imp_right (fun hx => qc_iconst (qc_at qkX12_expression 54 rfl) <| qc_sub [1, 2, 0] rfl hx) (tX12_expression_b96 hn hR hk27 h)
  · replace h := qc_jp u1 h
    exact And.imp_right (fun hx => qc_iconst (qc_at qkX12_expression 52 rfl) <| qc_goto (qc_at qkX12_expression 53 rfl) <| qc_sub [1, 2, 0] rfl hx) (tX12_expression_b96 hn hR hk27 h)
def fX12_expression_b80 (w : qcW) (k27 : qTI × qTL × qTD × qTR × Int32 × Int32 × Int32 → qcO Int32) (I : qTI) (L : qTL) (D : qTD) (R : qTR) (x1 : Int32) (x5 : Int32) : qcO Int32 :=
  (fX12_expression_b85 w k27 I L D R x1 x5 (1 : Int32))
set_option maxRecDepth 100000 in
set_option maxHeartbeats 4000000 in
theorem tX12_expression_b80 {w : qcW} {I : qTI} {L : qTL} {D : qTD} {R : qTR} {k27 : qTI × qTL × qTD × qTR × Int32 × Int32 × Int32 → qcO Int32} {x1 : Int32} {x5 : Int32} {r : Int32} {I' : qTI} {L' : qTL} {D' : qTD} {R' : qTR} (hn : qcNF ≤ w.1) (hR : qc_FR R) (hk27 : ∀ {I : qTI} {L : qTL} {D : qTD} {R : qTR} {x1 : Int32} {x2 : Int32} {x3 : Int32} {r : Int32} {I' : qTI} {L' : qTL} {D' : qTD} {R' : qTR}, qc_FR R → k27 (I, L, D, R, x1, x2, x3) = some (r, I', L', D', R') → qc_fm qcSM (I, L, D, R) (I', L', D', R') ∧ qc_X (qc_rm (7) 0 0) qmX12_expression (qc_QM 0 0 (qc_eq (some (.int r)) w (I', L', D', R'))) 0 0 w (27, [(0, .ref 291), (1, .int x1), (2, .int x2), (3, .int x3)], [], I, L, D, R)) (h : fX12_expression_b80 w k27 I L D R x1 x5 = some (r, I', L', D', R')) : qc_fm qcSM (I, L, D, R) (I', L', D', R') ∧ qc_X (qc_rm (7) 0 0) qmX12_expression (qc_QM 0 0 (qc_eq (some (.int r)) w (I', L', D', R'))) 0 0 w (80, [(0, .ref 291), (1, .int x1), (5, .int x5)], [], I, L, D, R) := by
  unfold fX12_expression_b80 at h
  exact And.imp_right (fun hx => qc_iconst (qc_at qkX12_expression 46 rfl) <| qc_goto (qc_at qkX12_expression 47 rfl) <| qc_sub [0, 1, 2] rfl hx) (tX12_expression_b85 hn hR hk27 h)
def fX12_expression_b84 (w : qcW) (k27 : qTI × qTL × qTD × qTR × Int32 × Int32 × Int32 → qcO Int32) (I : qTI) (L : qTL) (D : qTD) (R : qTR) (x1 : Int32) (x5 : Int32) : qcO Int32 :=
  (fX12_expression_b85 w k27 I L D R x1 x5 (0 : Int32))
set_option maxRecDepth 100000 in
set_option maxHeartbeats 4000000 in
theorem tX12_expression_b84 {w : qcW} {I : qTI} {L : qTL} {D : qTD} {R : qTR} {k27 : qTI × qTL × qTD × qTR × Int32 × Int32 × Int32 → qcO Int32} {x1 : Int32} {x5 : Int32} {r : Int32} {I' : qTI} {L' : qTL} {D' : qTD} {R' : qTR} (hn : qcNF ≤ w.1) (hR : qc_FR R) (hk27 : ∀ {I : qTI} {L : qTL} {D : qTD} {R : qTR} {x1 : Int32} {x2 : Int32} {x3 : Int32} {r : Int32} {I' : qTI} {L' : qTL} {D' : qTD} {R' : qTR}, qc_FR R → k27 (I, L, D, R, x1, x2, x3) = some (r, I', L', D', R') → qc_fm qcSM (I, L, D, R) (I', L', D', R') ∧ qc_X (qc_rm (7) 0 0) qmX12_expression (qc_QM 0 0 (qc_eq (some (.int r)) w (I', L', D', R'))) 0 0 w (27, [(0, .ref 291), (1, .int x1), (2, .int x2), (3, .int x3)], [], I, L, D, R)) (h : fX12_expression_b84 w k27 I L D R x1 x5 = some (r, I', L', D', R')) : qc_fm qcSM (I, L, D, R) (I', L', D', R') ∧ qc_X (qc_rm (7) 0 0) qmX12_expression (qc_QM 0 0 (qc_eq (some (.int r)) w (I', L', D', R'))) 0 0 w (84, [(0, .ref 291), (1, .int x1), (5, .int x5)], [], I, L, D, R) := by
  unfold fX12_expression_b84 at h
  exact And.imp_right (fun hx => qc_iconst (qc_at qkX12_expression 48 rfl) <| qc_sub [0, 1, 2] rfl hx) (tX12_expression_b85 hn hR hk27 h)
def fX12_expression_b211 (w : qcW) (k27 : qTI × qTL × qTD × qTR × Int32 × Int32 × Int32 → qcO Int32) (I : qTI) (L : qTL) (D : qTD) (R : qTR) (x1 : Int32) (s0 : Int32) : qcO Int32 :=
  (k27 (I, L, D, R, x1, (1 : Int32), s0))
set_option maxRecDepth 100000 in
set_option maxHeartbeats 4000000 in
theorem tX12_expression_b211 {w : qcW} {I : qTI} {L : qTL} {D : qTD} {R : qTR} {k27 : qTI × qTL × qTD × qTR × Int32 × Int32 × Int32 → qcO Int32} {x1 : Int32} {s0 : Int32} {r : Int32} {I' : qTI} {L' : qTL} {D' : qTD} {R' : qTR} (hn : qcNF ≤ w.1) (hR : qc_FR R) (hk27 : ∀ {I : qTI} {L : qTL} {D : qTD} {R : qTR} {x1 : Int32} {x2 : Int32} {x3 : Int32} {r : Int32} {I' : qTI} {L' : qTL} {D' : qTD} {R' : qTR}, qc_FR R → k27 (I, L, D, R, x1, x2, x3) = some (r, I', L', D', R') → qc_fm qcSM (I, L, D, R) (I', L', D', R') ∧ qc_X (qc_rm (7) 0 0) qmX12_expression (qc_QM 0 0 (qc_eq (some (.int r)) w (I', L', D', R'))) 0 0 w (27, [(0, .ref 291), (1, .int x1), (2, .int x2), (3, .int x3)], [], I, L, D, R)) (h : fX12_expression_b211 w k27 I L D R x1 s0 = some (r, I', L', D', R')) : qc_fm qcSM (I, L, D, R) (I', L', D', R') ∧ qc_X (qc_rm (7) 0 0) qmX12_expression (qc_QM 0 0 (qc_eq (some (.int r)) w (I', L', D', R'))) 0 0 w (211, [(0, .ref 291), (1, .int x1)], [.int s0], I, L, D, R) := by
  unfold fX12_expression_b211 at h
  exact And.imp_right (fun hx => qc_istore_n (lv' := [(3, _), (0, _), (1, _)]) (qc_at qkX12_expression 116 rfl) rfl rfl <| qc_iconst (qc_at qkX12_expression 117 rfl) <| qc_istore_n (lv' := [(2, _), (3, _), (0, _), (1, _)]) (qc_at qkX12_expression 118 rfl) rfl rfl <| qc_goto (qc_at qkX12_expression 119 rfl) <| qc_sub [2, 3, 0, 1] rfl hx) (hk27 hR h)
def fX12_expression_b196 (w : qcW) (k27 : qTI × qTL × qTD × qTR × Int32 × Int32 × Int32 → qcO Int32) (I : qTI) (L : qTL) (D : qTD) (R : qTR) (x1 : Int32) (x4 : Int32) : qcO Int32 :=
  (qc_bd (fX12_next w I L D R) fun r2 I2 L2 D2 R2 => if (3 : Int32) ≤ x4 then (fX12_expression_b211 w k27 I2 L2 D2 R2 x1 (0 : Int32)) else (fX12_expression_b211 w k27 I2 L2 D2 R2 x1 (1 : Int32)))
set_option maxRecDepth 100000 in
set_option maxHeartbeats 4000000 in
theorem tX12_expression_b196 {w : qcW} {I : qTI} {L : qTL} {D : qTD} {R : qTR} {k27 : qTI × qTL × qTD × qTR × Int32 × Int32 × Int32 → qcO Int32} {x1 : Int32} {x4 : Int32} {r : Int32} {I' : qTI} {L' : qTL} {D' : qTD} {R' : qTR} (hn : qcNF ≤ w.1) (hR : qc_FR R) (hk27 : ∀ {I : qTI} {L : qTL} {D : qTD} {R : qTR} {x1 : Int32} {x2 : Int32} {x3 : Int32} {r : Int32} {I' : qTI} {L' : qTL} {D' : qTD} {R' : qTR}, qc_FR R → k27 (I, L, D, R, x1, x2, x3) = some (r, I', L', D', R') → qc_fm qcSM (I, L, D, R) (I', L', D', R') ∧ qc_X (qc_rm (7) 0 0) qmX12_expression (qc_QM 0 0 (qc_eq (some (.int r)) w (I', L', D', R'))) 0 0 w (27, [(0, .ref 291), (1, .int x1), (2, .int x2), (3, .int x3)], [], I, L, D, R)) (h : fX12_expression_b196 w k27 I L D R x1 x4 = some (r, I', L', D', R')) : qc_fm qcSM (I, L, D, R) (I', L', D', R') ∧ qc_X (qc_rm (7) 0 0) qmX12_expression (qc_QM 0 0 (qc_eq (some (.int r)) w (I', L', D', R'))) 0 0 w (196, [(0, .ref 291), (1, .int x1), (4, .int x4)], [], I, L, D, R) := by
  unfold fX12_expression_b196 at h
  refine And.imp_right (fun hx => qc_aload_n (qc_at qkX12_expression 108 rfl) rfl <| hx) ?_
  obtain ⟨r2, I2, L2, D2, R2, e2, h⟩ := qc_bd_of h
  have c2 := (tX12_next hn hR e2)
  refine qd_cVn (ci := 10) (a0 := 291) (qc_at qkX12_expression 109 rfl) ql_12_304 qfX12_next (qc_kf hn rfl) rfl c2 rfl rfl (Nat.le_of_ble_eq_true rfl) (qc_rml (by decide) (by decide)) ⟨Nat.zero_le _, Nat.zero_le _⟩ ?_
  refine And.imp_right (fun hx => qc_iload (qc_at qkX12_expression 110 rfl) rfl <| qc_iconst (qc_at qkX12_expression 111 rfl) <| hx) ?_
  refine qc_andC (qc_icmp_ge (qc_at qkX12_expression 112 rfl)) (fun u3 => ?_) (fun u3 => ?_)
  · replace h := qc_jp u3 h
    exact And.imp_right (fun hx => qc_iconst (qc_at qkX12_expression 115 rfl) <| qc_sub [0, 1] rfl hx) (tX12_expression_b211 hn (c2.1.1 hR) hk27 h)
  · replace h := qc_jn u3 h
    exact And.imp_right (fun hx => qc_iconst (qc_at qkX12_expression 113 rfl) <| qc_goto (qc_at qkX12_expression 114 rfl) <| qc_sub [0, 1] rfl hx) (tX12_expression_b211 hn (c2.1.1 hR) hk27 h)
def fX12_expression_b276 (w : qcW) (k27 : qTI × qTL × qTD × qTR × Int32 × Int32 × Int32 → qcO Int32) (I : qTI) (L : qTL) (D : qTD) (R : qTR) (x1 : Int32) (x6 : Int32) (s0 : Int32) : qcO Int32 :=
  (qc_bd (fX12_needs4 w I L D R s0 (I 291 10)) fun r4 I4 L4 D4 R4 => qc_bd (fX12_frame w I4 L4 D4 R4 (4 : Int32) (I4 291 10) x6 (-1 : Int32)) fun r5 I5 L5 D5 R5 => qc_bd (fX12_next w I5 L5 D5 R5) fun r6 I6 L6 D6 R6 => k27 (I6, L6, D6, R6, x1, (1 : Int32), (1 : Int32)))
set_option maxRecDepth 100000 in
set_option maxHeartbeats 4000000 in
theorem tX12_expression_b276 {w : qcW} {I : qTI} {L : qTL} {D : qTD} {R : qTR} {k27 : qTI × qTL × qTD × qTR × Int32 × Int32 × Int32 → qcO Int32} {x1 : Int32} {x6 : Int32} {s0 : Int32} {r : Int32} {I' : qTI} {L' : qTL} {D' : qTD} {R' : qTR} (hn : qcNF ≤ w.1) (hR : qc_FR R) (hk27 : ∀ {I : qTI} {L : qTL} {D : qTD} {R : qTR} {x1 : Int32} {x2 : Int32} {x3 : Int32} {r : Int32} {I' : qTI} {L' : qTL} {D' : qTD} {R' : qTR}, qc_FR R → k27 (I, L, D, R, x1, x2, x3) = some (r, I', L', D', R') → qc_fm qcSM (I, L, D, R) (I', L', D', R') ∧ qc_X (qc_rm (7) 0 0) qmX12_expression (qc_QM 0 0 (qc_eq (some (.int r)) w (I', L', D', R'))) 0 0 w (27, [(0, .ref 291), (1, .int x1), (2, .int x2), (3, .int x3)], [], I, L, D, R)) (h : fX12_expression_b276 w k27 I L D R x1 x6 s0 = some (r, I', L', D', R')) : qc_fm qcSM (I, L, D, R) (I', L', D', R') ∧ qc_X (qc_rm (7) 0 0) qmX12_expression (qc_QM 0 0 (qc_eq (some (.int r)) w (I', L', D', R'))) 0 0 w (276, [(0, .ref 291), (1, .int x1), (6, .int x6)], [.int s0, .ref 291], I, L, D, R) := by
  unfold fX12_expression_b276 at h
  refine And.imp_right (fun hx => qc_aload_n (qc_at qkX12_expression 150 rfl) rfl <| qc_gI (qc_at qkX12_expression 151 rfl) hn rfl <| hx) ?_
  obtain ⟨r4, I4, L4, D4, R4, e4, h⟩ := qc_bd_of h
  have c4 := (tX12_needs4 hn hR e4)
  refine qd_cVn (ci := 10) (a0 := 291) (qc_at qkX12_expression 152 rfl) ql_12_339 qfX12_needs4 (qc_kf hn rfl) rfl c4 rfl rfl (Nat.le_of_ble_eq_true rfl) (qc_rml (by decide) (by decide)) ⟨Nat.zero_le _, Nat.zero_le _⟩ ?_
  refine And.imp_right (fun hx => qc_aload_n (qc_at qkX12_expression 153 rfl) rfl <| qc_iconst (qc_at qkX12_expression 154 rfl) <| qc_aload_n (qc_at qkX12_expression 155 rfl) rfl <| qc_gI (qc_at qkX12_expression 156 rfl) hn rfl <| qc_iload (qc_at qkX12_expression 157 rfl) rfl <| qc_iconst (qc_at qkX12_expression 158 rfl) <| hx) ?_
  obtain ⟨r5, I5, L5, D5, R5, e5, h⟩ := qc_bd_of h
  have c5 := (tX12_frame hn (c4.1.1 hR) e5)
  refine qd_cVn (ci := 10) (a0 := 291) (qc_at qkX12_expression 159 rfl) ql_12_419 qfX12_frame (qc_kf hn rfl) rfl c5 rfl rfl (Nat.le_of_ble_eq_true rfl) (qc_rml (by decide) (by decide)) ⟨Nat.zero_le _, Nat.zero_le _⟩ ?_
  refine And.imp_right (fun hx => qc_aload_n (qc_at qkX12_expression 160 rfl) rfl <| hx) ?_
  obtain ⟨r6, I6, L6, D6, R6, e6, h⟩ := qc_bd_of h
  have c6 := (tX12_next hn (c5.1.1 (c4.1.1 hR)) e6)
  refine qd_cVn (ci := 10) (a0 := 291) (qc_at qkX12_expression 161 rfl) ql_12_304 qfX12_next (qc_kf hn rfl) rfl c6 rfl rfl (Nat.le_of_ble_eq_true rfl) (qc_rml (by decide) (by decide)) ⟨Nat.zero_le _, Nat.zero_le _⟩ ?_
  exact And.imp_right (fun hx => qc_iconst (qc_at qkX12_expression 162 rfl) <| qc_istore_n (lv' := [(3, _), (0, _), (1, _), (6, _)]) (qc_at qkX12_expression 163 rfl) rfl rfl <| qc_iconst (qc_at qkX12_expression 164 rfl) <| qc_istore_n (lv' := [(2, _), (3, _), (0, _), (1, _), (6, _)]) (qc_at qkX12_expression 165 rfl) rfl rfl <| qc_goto (qc_at qkX12_expression 166 rfl) <| qc_sub [2, 3, 0, 1] rfl hx) (hk27 (c6.1.1 (c5.1.1 (c4.1.1 hR))) h)
def fX12_expression_b250 (w : qcW) (k27 : qTI × qTL × qTD × qTR × Int32 × Int32 × Int32 → qcO Int32) (I : qTI) (L : qTL) (D : qTD) (R : qTR) (x1 : Int32) : qcO Int32 :=
  (qc_bd (fX12_opens w I L D R) fun r7 I7 L7 D7 R7 => qc_bd (fX12_taken w I7 L7 D7 R7) fun r8 I8 L8 D8 R8 => qc_gd (qc_inb r8 420) <| if (I8 303 (Int32.toNatClampNeg r8)) = 0 then (fX12_expression_b276 w k27 I8 L8 D8 R8 x1 r8 (1 : Int32)) else (fX12_expression_b276 w k27 I8 L8 D8 R8 x1 r8 (0 : Int32)))
set_option maxRecDepth 100000 in
set_option maxHeartbeats 4000000 in
theorem tX12_expression_b250 {w : qcW} {I : qTI} {L : qTL} {D : qTD} {R : qTR} {k27 : qTI × qTL × qTD × qTR × Int32 × Int32 × Int32 → qcO Int32} {x1 : Int32} {r : Int32} {I' : qTI} {L' : qTL} {D' : qTD} {R' : qTR} (hn : qcNF ≤ w.1) (hR : qc_FR R) (hk27 : ∀ {I : qTI} {L : qTL} {D : qTD} {R : qTR} {x1 : Int32} {x2 : Int32} {x3 : Int32} {r : Int32} {I' : qTI} {L' : qTL} {D' : qTD} {R' : qTR}, qc_FR R → k27 (I, L, D, R, x1, x2, x3) = some (r, I', L', D', R') → qc_fm qcSM (I, L, D, R) (I', L', D', R') ∧ qc_X (qc_rm (7) 0 0) qmX12_expression (qc_QM 0 0 (qc_eq (some (.int r)) w (I', L', D', R'))) 0 0 w (27, [(0, .ref 291), (1, .int x1), (2, .int x2), (3, .int x3)], [], I, L, D, R)) (h : fX12_expression_b250 w k27 I L D R x1 = some (r, I', L', D', R')) : qc_fm qcSM (I, L, D, R) (I', L', D', R') ∧ qc_X (qc_rm (7) 0 0) qmX12_expression (qc_QM 0 0 (qc_eq (some (.int r)) w (I', L', D', R'))) 0 0 w (250, [(0, .ref 291), (1, .int x1)], [], I, L, D, R) := by
  unfold fX12_expression_b250 at h
  refine And.imp_right (fun hx => qc_aload_n (qc_at qkX12_expression 136 rfl) rfl <| hx) ?_
  obtain ⟨r7, I7, L7, D7, R7, e7, h⟩ := qc_bd_of h
  have c7 := (tX12_opens hn hR e7)
  refine qd_cVn (ci := 10) (a0 := 291) (qc_at qkX12_expression 137 rfl) ql_12_400 qfX12_opens (qc_kf hn rfl) rfl c7 rfl rfl (Nat.le_of_ble_eq_true rfl) (qc_rml (by decide) (by decide)) ⟨Nat.zero_le _, Nat.zero_le _⟩ ?_
  refine And.imp_right (fun hx => qc_aload_n (qc_at qkX12_expression 138 rfl) rfl <| hx) ?_
  obtain ⟨r8, I8, L8, D8, R8, e8, h⟩ := qc_bd_of h
  have c8 := (tX12_taken hn (c7.1.1 hR) e8)
  refine qd_cVv (ci := 10) (a0 := 291) (qc_at qkX12_expression 139 rfl) ql_12_330 qfX12_taken (qc_kf hn rfl) rfl c8 rfl rfl (Nat.le_of_ble_eq_true rfl) (qc_rml (by decide) (by decide)) ⟨Nat.zero_le _, Nat.zero_le _⟩ ?_
  refine And.imp_right (fun hx => qc_istore (lv' := [(6, _), (0, _), (1, _)]) (qc_at qkX12_expression 140 rfl) rfl rfl <| qc_aload_n (qc_at qkX12_expression 141 rfl) rfl <| qc_aload_n (qc_at qkX12_expression 142 rfl) rfl <| qc_gR (qc_at qkX12_expression 143 rfl) hn rfl (qfr_291_23 (c8.1.1 (c7.1.1 hR))) rfl <| qc_iload (qc_at qkX12_expression 144 rfl) rfl <| hx) ?_
  obtain ⟨g9, h⟩ := qc_gd_of h
  refine And.imp_right (fun hx => qc_iald 420 (qc_at qkX12_expression 145 rfl) hn rfl (qc_inb_in g9) <| hx) ?_
  refine qc_andN (qc_if_ne (qc_at qkX12_expression 146 rfl)) (fun u10 => ?_) (fun u10 => ?_)
  · replace h := qc_jn u10 h
    exact And.imp_right (fun hx => qc_iconst (qc_at qkX12_expression 149 rfl) <| qc_sub [1, 2, 0] rfl hx) (tX12_expression_b276 hn (c8.1.1 (c7.1.1 hR)) hk27 h)
  · replace h := qc_jp u10 h
    exact And.imp_right (fun hx => qc_iconst (qc_at qkX12_expression 147 rfl) <| qc_goto (qc_at qkX12_expression 148 rfl) <| qc_sub [1, 2, 0] rfl hx) (tX12_expression_b276 hn (c8.1.1 (c7.1.1 hR)) hk27 h)
def fX12_expression_b369 (w : qcW) (k27 : qTI × qTL × qTD × qTR × Int32 × Int32 × Int32 → qcO Int32) (I : qTI) (L : qTL) (D : qTD) (R : qTR) (x1 : Int32) (x3 : Int32) (s0 : Int32) : qcO Int32 :=
  (k27 (I, L, D, R, x1, s0, x3))
set_option maxRecDepth 100000 in
set_option maxHeartbeats 4000000 in
theorem tX12_expression_b369 {w : qcW} {I : qTI} {L : qTL} {D : qTD} {R : qTR} {k27 : qTI × qTL × qTD × qTR × Int32 × Int32 × Int32 → qcO Int32} {x1 : Int32} {x3 : Int32} {s0 : Int32} {r : Int32} {I' : qTI} {L' : qTL} {D' : qTD} {R' : qTR} (hn : qcNF ≤ w.1) (hR : qc_FR R) (hk27 : ∀ {I : qTI} {L : qTL} {D : qTD} {R : qTR} {x1 : Int32} {x2 : Int32} {x3 : Int32} {r : Int32} {I' : qTI} {L' : qTL} {D' : qTD} {R' : qTR}, qc_FR R → k27 (I, L, D, R, x1, x2, x3) = some (r, I', L', D', R') → qc_fm qcSM (I, L, D, R) (I', L', D', R') ∧ qc_X (qc_rm (7) 0 0) qmX12_expression (qc_QM 0 0 (qc_eq (some (.int r)) w (I', L', D', R'))) 0 0 w (27, [(0, .ref 291), (1, .int x1), (2, .int x2), (3, .int x3)], [], I, L, D, R)) (h : fX12_expression_b369 w k27 I L D R x1 x3 s0 = some (r, I', L', D', R')) : qc_fm qcSM (I, L, D, R) (I', L', D', R') ∧ qc_X (qc_rm (7) 0 0) qmX12_expression (qc_QM 0 0 (qc_eq (some (.int r)) w (I', L', D', R'))) 0 0 w (369, [(0, .ref 291), (1, .int x1), (3, .int x3)], [.int s0], I, L, D, R) := by
  unfold fX12_expression_b369 at h
  exact And.imp_right (fun hx => qc_istore_n (lv' := [(2, _), (0, _), (1, _), (3, _)]) (qc_at qkX12_expression 199 rfl) rfl rfl <| qc_goto (qc_at qkX12_expression 200 rfl) <| qc_sub [1, 2, 0, 3] rfl hx) (hk27 hR h)
def fX12_expression_b357 (w : qcW) (k27 : qTI × qTL × qTD × qTR × Int32 × Int32 × Int32 → qcO Int32) (I : qTI) (L : qTL) (D : qTD) (R : qTR) (x1 : Int32) (x6 : Int32) : qcO Int32 :=
  (if x6 = 0 then (fX12_expression_b369 w k27 I L D R x1 (1 : Int32) (1 : Int32)) else (fX12_expression_b369 w k27 I L D R x1 (1 : Int32) (0 : Int32)))
set_option maxRecDepth 100000 in
set_option maxHeartbeats 4000000 in
theorem tX12_expression_b357 {w : qcW} {I : qTI} {L : qTL} {D : qTD} {R : qTR} {k27 : qTI × qTL × qTD × qTR × Int32 × Int32 × Int32 → qcO Int32} {x1 : Int32} {x6 : Int32} {r : Int32} {I' : qTI} {L' : qTL} {D' : qTD} {R' : qTR} (hn : qcNF ≤ w.1) (hR : qc_FR R) (hk27 : ∀ {I : qTI} {L : qTL} {D : qTD} {R : qTR} {x1 : Int32} {x2 : Int32} {x3 : Int32} {r : Int32} {I' : qTI} {L' : qTL} {D' : qTD} {R' : qTR}, qc_FR R → k27 (I, L, D, R, x1, x2, x3) = some (r, I', L', D', R') → qc_fm qcSM (I, L, D, R) (I', L', D', R') ∧ qc_X (qc_rm (7) 0 0) qmX12_expression (qc_QM 0 0 (qc_eq (some (.int r)) w (I', L', D', R'))) 0 0 w (27, [(0, .ref 291), (1, .int x1), (2, .int x2), (3, .int x3)], [], I, L, D, R)) (h : fX12_expression_b357 w k27 I L D R x1 x6 = some (r, I', L', D', R')) : qc_fm qcSM (I, L, D, R) (I', L', D', R') ∧ qc_X (qc_rm (7) 0 0) qmX12_expression (qc_QM 0 0 (qc_eq (some (.int r)) w (I', L', D', R'))) 0 0 w (357, [(0, .ref 291), (1, .int x1), (6, .int x6)], [], I, L, D, R) := by
  unfold fX12_expression_b357 at h
  refine And.imp_right (fun hx => qc_iconst (qc_at qkX12_expression 192 rfl) <| qc_istore_n (lv' := [(3, _), (0, _), (1, _), (6, _)]) (qc_at qkX12_expression 193 rfl) rfl rfl <| qc_iload (qc_at qkX12_expression 194 rfl) rfl <| hx) ?_
  refine qc_andN (qc_if_ne (qc_at qkX12_expression 195 rfl)) (fun u11 => ?_) (fun u11 => ?_)
  · replace h := qc_jn u11 h
    exact And.imp_right (fun hx => qc_iconst (qc_at qkX12_expression 198 rfl) <| qc_sub [1, 2, 0] rfl hx) (tX12_expression_b369 hn hR hk27 h)
  · replace h := qc_jp u11 h
    exact And.imp_right (fun hx => qc_iconst (qc_at qkX12_expression 196 rfl) <| qc_goto (qc_at qkX12_expression 197 rfl) <| qc_sub [1, 2, 0] rfl hx) (tX12_expression_b369 hn hR hk27 h)
def fX12_expression_b339 (w : qcW) (k27 : qTI × qTL × qTD × qTR × Int32 × Int32 × Int32 → qcO Int32) (I : qTI) (L : qTL) (D : qTD) (R : qTR) (x1 : Int32) (x6 : Int32) : qcO Int32 :=
  (if (I 291 15) = 0 then (if x6 = (2 : Int32) then (qc_bd (fX12_taken w I L D R) fun r14 I14 L14 D14 R14 => some (r14, I14, L14, D14, R14)) else (fX12_expression_b357 w k27 I L D R x1 x6)) else (fX12_expression_b357 w k27 I L D R x1 x6))
set_option maxRecDepth 100000 in
set_option maxHeartbeats 4000000 in
theorem tX12_expression_b339 {w : qcW} {I : qTI} {L : qTL} {D : qTD} {R : qTR} {k27 : qTI × qTL × qTD × qTR × Int32 × Int32 × Int32 → qcO Int32} {x1 : Int32} {x6 : Int32} {r : Int32} {I' : qTI} {L' : qTL} {D' : qTD} {R' : qTR} (hn : qcNF ≤ w.1) (hR : qc_FR R) (hk27 : ∀ {I : qTI} {L : qTL} {D : qTD} {R : qTR} {x1 : Int32} {x2 : Int32} {x3 : Int32} {r : Int32} {I' : qTI} {L' : qTL} {D' : qTD} {R' : qTR}, qc_FR R → k27 (I, L, D, R, x1, x2, x3) = some (r, I', L', D', R') → qc_fm qcSM (I, L, D, R) (I', L', D', R') ∧ qc_X (qc_rm (7) 0 0) qmX12_expression (qc_QM 0 0 (qc_eq (some (.int r)) w (I', L', D', R'))) 0 0 w (27, [(0, .ref 291), (1, .int x1), (2, .int x2), (3, .int x3)], [], I, L, D, R)) (h : fX12_expression_b339 w k27 I L D R x1 x6 = some (r, I', L', D', R')) : qc_fm qcSM (I, L, D, R) (I', L', D', R') ∧ qc_X (qc_rm (7) 0 0) qmX12_expression (qc_QM 0 0 (qc_eq (some (.int r)) w (I', L', D', R'))) 0 0 w (339, [(0, .ref 291), (1, .int x1), (6, .int x6)], [], I, L, D, R) := by
  unfold fX12_expression_b339 at h
  refine And.imp_right (fun hx => qc_aload_n (qc_at qkX12_expression 183 rfl) rfl <| qc_gI (qc_at qkX12_expression 184 rfl) hn rfl <| hx) ?_
  refine qc_andN (qc_if_ne (qc_at qkX12_expression 185 rfl)) (fun u12 => ?_) (fun u12 => ?_)
  · replace h := qc_jn u12 h
    exact And.imp_right (fun hx => qc_sub [0, 1, 2] rfl hx) (tX12_expression_b357 hn hR hk27 h)
  · replace h := qc_jp u12 h
    refine And.imp_right (fun hx => qc_iload (qc_at qkX12_expression 186 rfl) rfl <| qc_iconst (qc_at qkX12_expression 187 rfl) <| hx) ?_
    refine qc_andN (qc_icmp_ne (qc_at qkX12_expression 188 rfl)) (fun u13 => ?_) (fun u13 => ?_)
    · replace h := qc_jn u13 h
      exact And.imp_right (fun hx => qc_sub [0, 1, 2] rfl hx) (tX12_expression_b357 hn hR hk27 h)
    · replace h := qc_jp u13 h
      refine And.imp_right (fun hx => qc_aload_n (qc_at qkX12_expression 189 rfl) rfl <| hx) ?_
      obtain ⟨r14, I14, L14, D14, R14, e14, h⟩ := qc_bd_of h
      have c14 := (tX12_taken hn hR e14)
      refine qd_cVv (ci := 10) (a0 := 291) (qc_at qkX12_expression 190 rfl) ql_12_330 qfX12_taken (qc_kf hn rfl) rfl c14 rfl rfl (Nat.le_of_ble_eq_true rfl) (qc_rml (by decide) (by decide)) ⟨Nat.zero_le _, Nat.zero_le _⟩ ?_
      obtain ⟨rfl, rfl, rfl, rfl, rfl⟩ := qc_some5 h
      exact ⟨qc_fm.rf _, qc_iret (qc_at qkX12_expression 191 rfl) rfl (Nat.le_refl _) (Nat.le_refl _) (qc_eq.rf _ _ _)⟩
def fX12_expression_b309 (w : qcW) (k27 : qTI × qTL × qTD × qTR × Int32 × Int32 × Int32 → qcO Int32) (k309 : qTI × qTL × qTD × qTR × Int32 × Int32 → qcO Int32) (I : qTI) (L : qTL) (D : qTD) (R : qTR) (x1 : Int32) (x6 : Int32) : qcO Int32 :=
  (if (I 291 15) = 0 then (if x6 = (2 : Int32) then (if (I 291 34) ≤ (1 : Int32) then (fX12_expression_b339 w k27 I L D R x1 x6) else (qc_bd (fX12_ends w I L D R) fun r18 I18 L18 D18 R18 => k309 (I18, L18, D18, R18, x1, r18))) else (fX12_expression_b339 w k27 I L D R x1 x6)) else (fX12_expression_b339 w k27 I L D R x1 x6))
set_option maxRecDepth 100000 in
set_option maxHeartbeats 4000000 in
theorem tX12_expression_b309 {w : qcW} {I : qTI} {L : qTL} {D : qTD} {R : qTR} {k27 : qTI × qTL × qTD × qTR × Int32 × Int32 × Int32 → qcO Int32} {k309 : qTI × qTL × qTD × qTR × Int32 × Int32 → qcO Int32} {x1 : Int32} {x6 : Int32} {r : Int32} {I' : qTI} {L' : qTL} {D' : qTD} {R' : qTR} (hn : qcNF ≤ w.1) (hR : qc_FR R) (hk27 : ∀ {I : qTI} {L : qTL} {D : qTD} {R : qTR} {x1 : Int32} {x2 : Int32} {x3 : Int32} {r : Int32} {I' : qTI} {L' : qTL} {D' : qTD} {R' : qTR}, qc_FR R → k27 (I, L, D, R, x1, x2, x3) = some (r, I', L', D', R') → qc_fm qcSM (I, L, D, R) (I', L', D', R') ∧ qc_X (qc_rm (7) 0 0) qmX12_expression (qc_QM 0 0 (qc_eq (some (.int r)) w (I', L', D', R'))) 0 0 w (27, [(0, .ref 291), (1, .int x1), (2, .int x2), (3, .int x3)], [], I, L, D, R)) (hk309 : ∀ {I : qTI} {L : qTL} {D : qTD} {R : qTR} {x1 : Int32} {x6 : Int32} {r : Int32} {I' : qTI} {L' : qTL} {D' : qTD} {R' : qTR}, qc_FR R → k309 (I, L, D, R, x1, x6) = some (r, I', L', D', R') → qc_fm qcSM (I, L, D, R) (I', L', D', R') ∧ qc_X (qc_rm (7) 0 0) qmX12_expression (qc_QM 0 0 (qc_eq (some (.int r)) w (I', L', D', R'))) 0 0 w (309, [(0, .ref 291), (1, .int x1), (6, .int x6)], [], I, L, D, R)) (h : fX12_expression_b309 w k27 k309 I L D R x1 x6 = some (r, I', L', D', R')) : qc_fm qcSM (I, L, D, R) (I', L', D', R') ∧ qc_X (qc_rm (7) 0 0) qmX12_expression (qc_QM 0 0 (qc_eq (some (.int r)) w (I', L', D', R'))) 0 0 w (309, [(0, .ref 291), (1, .int x1), (6, .int x6)], [], I, L, D, R) := by
  unfold fX12_expression_b309 at h
  refine And.imp_right (fun hx => qc_aload_n (qc_at qkX12_expression 169 rfl) rfl <| qc_gI (qc_at qkX12_expression 170 rfl) hn rfl <| hx) ?_
  refine qc_andN (qc_if_ne (qc_at qkX12_expression 171 rfl)) (fun u15 => ?_) (fun u15 => ?_)
  · replace h := qc_jn u15 h
    exact And.imp_right (fun hx => qc_sub [0, 1, 2] rfl hx) (tX12_expression_b339 hn hR hk27 h)
  · replace h := qc_jp u15 h
    refine And.imp_right (fun hx => qc_iload (qc_at qkX12_expression 172 rfl) rfl <| qc_iconst (qc_at qkX12_expression 173 rfl) <| hx) ?_
    refine qc_andN (qc_icmp_ne (qc_at qkX12_expression 174 rfl)) (fun u16 => ?_) (fun u16 => ?_)
    · replace h := qc_jn u16 h
      exact And.imp_right (fun hx => qc_sub [0, 1, 2] rfl hx) (tX12_expression_b339 hn hR hk27 h)
    · replace h := qc_jp u16 h
      refine And.imp_right (fun hx => qc_aload_n (qc_at qkX12_expression 175 rfl) rfl <| qc_gI (qc_at qkX12_expression 176 rfl) hn rfl <| qc_iconst (qc_at qkX12_expression 177 rfl) <| hx) ?_
      refine qc_andC (qc_icmp_le (qc_at qkX12_expression 178 rfl)) (fun u17 => ?_) (fun u17 => ?_)
      · replace h := qc_jp u17 h
        exact And.imp_right (fun hx => qc_sub [0, 1, 2] rfl hx) (tX12_expression_b339 hn hR hk27 h)
      · replace h := qc_jn u17 h
        refine And.imp_right (fun hx => qc_aload_n (qc_at qkX12_expression 179 rfl) rfl <| hx) ?_
        obtain ⟨r18, I18, L18, D18, R18, e18, h⟩ := qc_bd_of h
        have c18 := (tX12_ends hn hR e18)
        refine qd_cVv (ci := 10) (a0 := 291) (qc_at qkX12_expression 180 rfl) ql_12_461 qfX12_ends (qc_kf hn rfl) rfl c18 rfl rfl (Nat.le_of_ble_eq_true rfl) (qc_rml (by decide) (by decide)) ⟨Nat.zero_le _, Nat.zero_le _⟩ ?_
        exact And.imp_right (fun hx => qc_istore (lv' := [(6, _), (0, _), (1, _)]) (qc_at qkX12_expression 181 rfl) rfl rfl <| qc_goto (qc_at qkX12_expression 182 rfl) <| qc_sub [1, 2, 0] rfl hx) (hk309 (c18.1.1 hR) h)
def fX12_expression_l309 (w : qcW) (k27 : qTI × qTL × qTD × qTR × Int32 × Int32 × Int32 → qcO Int32) : Nat → qTI × qTL × qTD × qTR × Int32 × Int32 → qcO Int32 := qc_lp (fun k q => match q with | (I, L, D, R, x1, x6) => fX12_expression_b309 w k27 k I L D R x1 x6)
set_option maxRecDepth 100000 in
set_option maxHeartbeats 4000000 in
theorem tX12_expression_l309 {w : qcW} {k27 : qTI × qTL × qTD × qTR × Int32 × Int32 × Int32 → qcO Int32} (hn : qcNF ≤ w.1) (hk27 : ∀ {I : qTI} {L : qTL} {D : qTD} {R : qTR} {x1 : Int32} {x2 : Int32} {x3 : Int32} {r : Int32} {I' : qTI} {L' : qTL} {D' : qTD} {R' : qTR}, qc_FR R → k27 (I, L, D, R, x1, x2, x3) = some (r, I', L', D', R') → qc_fm qcSM (I, L, D, R) (I', L', D', R') ∧ qc_X (qc_rm (7) 0 0) qmX12_expression (qc_QM 0 0 (qc_eq (some (.int r)) w (I', L', D', R'))) 0 0 w (27, [(0, .ref 291), (1, .int x1), (2, .int x2), (3, .int x3)], [], I, L, D, R)) : ∀ (n : Nat) {r : Int32} {I' : qTI} {L' : qTL} {D' : qTD} {R' : qTR} {I : qTI} {L : qTL} {D : qTD} {R : qTR} {x1 : Int32} {x6 : Int32} (hR : qc_FR R) (h : fX12_expression_l309 w k27 n (I, L, D, R, x1, x6) = some (r, I', L', D', R')), qc_fm qcSM (I, L, D, R) (I', L', D', R') ∧ qc_X (qc_rm (7) 0 0) qmX12_expression (qc_QM 0 0 (qc_eq (some (.int r)) w (I', L', D', R'))) 0 0 w (309, [(0, .ref 291), (1, .int x1), (6, .int x6)], [], I, L, D, R) := by
  intro n
  induction n with
  | zero => intro _ _ _ _ _ _ _ _ _ _ _ _ h; cases h
  | succ n ih => intro _ _ _ _ _ _ _ _ _ _ _ hR h; exact tX12_expression_b309 hn hR hk27 (k309 := fX12_expression_l309 w k27 n) (fun hR h => ih hR h) h
def fX12_expression_b306 (w : qcW) (k27 : qTI × qTL × qTD × qTR × Int32 × Int32 × Int32 → qcO Int32) (I : qTI) (L : qTL) (D : qTD) (R : qTR) (x1 : Int32) : qcO Int32 :=
  (fX12_expression_l309 w k27 qcF (I, L, D, R, x1, (2 : Int32)))
set_option maxRecDepth 100000 in
set_option maxHeartbeats 4000000 in
theorem tX12_expression_b306 {w : qcW} {I : qTI} {L : qTL} {D : qTD} {R : qTR} {k27 : qTI × qTL × qTD × qTR × Int32 × Int32 × Int32 → qcO Int32} {x1 : Int32} {r : Int32} {I' : qTI} {L' : qTL} {D' : qTD} {R' : qTR} (hn : qcNF ≤ w.1) (hR : qc_FR R) (hk27 : ∀ {I : qTI} {L : qTL} {D : qTD} {R : qTR} {x1 : Int32} {x2 : Int32} {x3 : Int32} {r : Int32} {I' : qTI} {L' : qTL} {D' : qTD} {R' : qTR}, qc_FR R → k27 (I, L, D, R, x1, x2, x3) = some (r, I', L', D', R') → qc_fm qcSM (I, L, D, R) (I', L', D', R') ∧ qc_X (qc_rm (7) 0 0) qmX12_expression (qc_QM 0 0 (qc_eq (some (.int r)) w (I', L', D', R'))) 0 0 w (27, [(0, .ref 291), (1, .int x1), (2, .int x2), (3, .int x3)], [], I, L, D, R)) (h : fX12_expression_b306 w k27 I L D R x1 = some (r, I', L', D', R')) : qc_fm qcSM (I, L, D, R) (I', L', D', R') ∧ qc_X (qc_rm (7) 0 0) qmX12_expression (qc_QM 0 0 (qc_eq (some (.int r)) w (I', L', D', R'))) 0 0 w (306, [(0, .ref 291), (1, .int x1)], [], I, L, D, R) := by
  unfold fX12_expression_b306 at h
  exact And.imp_right (fun hx => qc_iconst (qc_at qkX12_expression 167 rfl) <| qc_istore (lv' := [(6, _), (0, _), (1, _)]) (qc_at qkX12_expression 168 rfl) rfl rfl <| qc_sub [1, 2, 0] rfl hx) (tX12_expression_l309 hn hk27 qcF hR h)
def fX12_expression_b217 (w : qcW) (k27 : qTI × qTL × qTD × qTR × Int32 × Int32 × Int32 → qcO Int32) (I : qTI) (L : qTL) (D : qTD) (R : qTR) (x1 : Int32) : qcO Int32 :=
  (qc_bd (fX12_joinsDown w I L D R (0 : Int32)) fun r19 I19 L19 D19 R19 => if (I19 291 15) = 0 then (qc_bd (fX12_is w I19 L19 D19 R19 (63 : Int32)) fun r21 I21 L21 D21 R21 => if r21 = true then (if (1 : Int32) < (I21 291 34) then (fX12_expression_b250 w k27 I21 L21 D21 R21 x1) else (if x1 = 0 then (fX12_expression_b306 w k27 I21 L21 D21 R21 x1) else (fX12_expression_b250 w k27 I21 L21 D21 R21 x1))) else (fX12_expression_b306 w k27 I21 L21 D21 R21 x1)) else (fX12_expression_b306 w k27 I19 L19 D19 R19 x1))
set_option maxRecDepth 100000 in
set_option maxHeartbeats 4000000 in
theorem tX12_expression_b217 {w : qcW} {I : qTI} {L : qTL} {D : qTD} {R : qTR} {k27 : qTI × qTL × qTD × qTR × Int32 × Int32 × Int32 → qcO Int32} {x1 : Int32} {r : Int32} {I' : qTI} {L' : qTL} {D' : qTD} {R' : qTR} (hn : qcNF ≤ w.1) (hR : qc_FR R) (hk27 : ∀ {I : qTI} {L : qTL} {D : qTD} {R : qTR} {x1 : Int32} {x2 : Int32} {x3 : Int32} {r : Int32} {I' : qTI} {L' : qTL} {D' : qTD} {R' : qTR}, qc_FR R → k27 (I, L, D, R, x1, x2, x3) = some (r, I', L', D', R') → qc_fm qcSM (I, L, D, R) (I', L', D', R') ∧ qc_X (qc_rm (7) 0 0) qmX12_expression (qc_QM 0 0 (qc_eq (some (.int r)) w (I', L', D', R'))) 0 0 w (27, [(0, .ref 291), (1, .int x1), (2, .int x2), (3, .int x3)], [], I, L, D, R)) (h : fX12_expression_b217 w k27 I L D R x1 = some (r, I', L', D', R')) : qc_fm qcSM (I, L, D, R) (I', L', D', R') ∧ qc_X (qc_rm (7) 0 0) qmX12_expression (qc_QM 0 0 (qc_eq (some (.int r)) w (I', L', D', R'))) 0 0 w (217, [(0, .ref 291), (1, .int x1)], [], I, L, D, R) := by
  unfold fX12_expression_b217 at h
  refine And.imp_right (fun hx => qc_aload_n (qc_at qkX12_expression 120 rfl) rfl <| qc_iconst (qc_at qkX12_expression 121 rfl) <| hx) ?_
  obtain ⟨r19, I19, L19, D19, R19, e19, h⟩ := qc_bd_of h
  have c19 := (tX12_joinsDown hn hR e19)
  refine qd_cVn (ci := 10) (a0 := 291) (qc_at qkX12_expression 122 rfl) ql_12_455 qfX12_joinsDown (qc_kf hn rfl) rfl c19 rfl rfl (Nat.le_of_ble_eq_true rfl) (qc_rml (by decide) (by decide)) ⟨Nat.zero_le _, Nat.zero_le _⟩ ?_
  refine And.imp_right (fun hx => qc_aload_n (qc_at qkX12_expression 123 rfl) rfl <| qc_gI (qc_at qkX12_expression 124 rfl) hn rfl <| hx) ?_
  refine qc_andN (qc_if_ne (qc_at qkX12_expression 125 rfl)) (fun u20 => ?_) (fun u20 => ?_)
  · replace h := qc_jn u20 h
    exact And.imp_right (fun hx => qc_sub [0, 1] rfl hx) (tX12_expression_b306 hn (c19.1.1 hR) hk27 h)
  · replace h := qc_jp u20 h
    refine And.imp_right (fun hx => qc_aload_n (qc_at qkX12_expression 126 rfl) rfl <| qc_bipush (qc_at qkX12_expression 127 rfl) <| hx) ?_
    obtain ⟨r21, I21, L21, D21, R21, e21, h⟩ := qc_bd_of h
    have c21 := (tX12_is hn (c19.1.1 hR) e21)
    refine qd_cVv (ci := 10) (a0 := 291) (qc_at qkX12_expression 128 rfl) ql_12_301 qfX12_is (qc_kf hn rfl) rfl c21 rfl rfl (Nat.le_of_ble_eq_true rfl) (qc_rml (by decide) (by decide)) ⟨Nat.zero_le _, Nat.zero_le _⟩ ?_
    refine qc_andB (qc_ifB_eq (qc_at qkX12_expression 129 rfl)) (fun u22 => ?_) (fun u22 => ?_)
    · replace h := qc_jf u22 h
      exact And.imp_right (fun hx => qc_sub [0, 1] rfl hx) (tX12_expression_b306 hn (c21.1.1 (c19.1.1 hR)) hk27 h)
    · replace h := qc_jt u22 h
      refine And.imp_right (fun hx => qc_aload_n (qc_at qkX12_expression 130 rfl) rfl <| qc_gI (qc_at qkX12_expression 131 rfl) hn rfl <| qc_iconst (qc_at qkX12_expression 132 rfl) <| hx) ?_
      refine qc_andC (qc_icmp_gt (qc_at qkX12_expression 133 rfl)) (fun u23 => ?_) (fun u23 => ?_)
      · replace h := qc_jp u23 h
        exact And.imp_right (fun hx => qc_sub [0, 1] rfl hx) (tX12_expression_b250 hn (c21.1.1 (c19.1.1 hR)) hk27 h)
      · replace h := qc_jn u23 h
        refine And.imp_right (fun hx => qc_iload_n (qc_at qkX12_expression 134 rfl) rfl <| hx) ?_
        refine qc_andC (qc_if_eq (qc_at qkX12_expression 135 rfl)) (fun u24 => ?_) (fun u24 => ?_)
        · replace h := qc_jp u24 h
          exact And.imp_right (fun hx => qc_sub [0, 1] rfl hx) (tX12_expression_b306 hn (c21.1.1 (c19.1.1 hR)) hk27 h)
        · replace h := qc_jn u24 h
          exact And.imp_right (fun hx => qc_sub [0, 1] rfl hx) (tX12_expression_b250 hn (c21.1.1 (c19.1.1 hR)) hk27 h)
def fX12_expression_b160 (w : qcW) (k27 : qTI × qTL × qTD × qTR × Int32 × Int32 × Int32 → qcO Int32) (I : qTI) (L : qTL) (D : qTD) (R : qTR) (x1 : Int32) (x4 : Int32) (x5 : Int32) : qcO Int32 :=
  (if x4 = (-1 : Int32) then (fX12_expression_b217 w k27 I L D R x1) else (if x5 = 0 then (qc_bd (fX12_joinsDown w I L D R x4) fun r27 I27 L27 D27 R27 => if (I27 291 15) = 0 then (qc_bd (fX12_opHere w I27 L27 D27 R27 x4) fun r29 I29 L29 D29 R29 => qc_bd (fX12_joint w I29 L29 D29 R29 x4 r29) fun r30 I30 L30 D30 R30 => fX12_expression_b196 w k27 I30 L30 D30 R30 x1 x4) else (fX12_expression_b196 w k27 I27 L27 D27 R27 x1 x4)) else (fX12_expression_b217 w k27 I L D R x1)))
set_option maxRecDepth 100000 in
set_option maxHeartbeats 4000000 in
theorem tX12_expression_b160 {w : qcW} {I : qTI} {L : qTL} {D : qTD} {R : qTR} {k27 : qTI × qTL × qTD × qTR × Int32 × Int32 × Int32 → qcO Int32} {x1 : Int32} {x4 : Int32} {x5 : Int32} {r : Int32} {I' : qTI} {L' : qTL} {D' : qTD} {R' : qTR} (hn : qcNF ≤ w.1) (hR : qc_FR R) (hk27 : ∀ {I : qTI} {L : qTL} {D : qTD} {R : qTR} {x1 : Int32} {x2 : Int32} {x3 : Int32} {r : Int32} {I' : qTI} {L' : qTL} {D' : qTD} {R' : qTR}, qc_FR R → k27 (I, L, D, R, x1, x2, x3) = some (r, I', L', D', R') → qc_fm qcSM (I, L, D, R) (I', L', D', R') ∧ qc_X (qc_rm (7) 0 0) qmX12_expression (qc_QM 0 0 (qc_eq (some (.int r)) w (I', L', D', R'))) 0 0 w (27, [(0, .ref 291), (1, .int x1), (2, .int x2), (3, .int x3)], [], I, L, D, R)) (h : fX12_expression_b160 w k27 I L D R x1 x4 x5 = some (r, I', L', D', R')) : qc_fm qcSM (I, L, D, R) (I', L', D', R') ∧ qc_X (qc_rm (7) 0 0) qmX12_expression (qc_QM 0 0 (qc_eq (some (.int r)) w (I', L', D', R'))) 0 0 w (160, [(0, .ref 291), (1, .int x1), (4, .int x4), (5, .int x5)], [], I, L, D, R) := by
  unfold fX12_expression_b160 at h
  refine And.imp_right (fun hx => qc_iload (qc_at qkX12_expression 91 rfl) rfl <| qc_iconst (qc_at qkX12_expression 92 rfl) <| hx) ?_
  refine qc_andC (qc_icmp_eq (qc_at qkX12_expression 93 rfl)) (fun u25 => ?_) (fun u25 => ?_)
  · replace h := qc_jp u25 h
    exact And.imp_right (fun hx => qc_sub [0, 1] rfl hx) (tX12_expression_b217 hn hR hk27 h)
  · replace h := qc_jn u25 h
    refine And.imp_right (fun hx => qc_iload (qc_at qkX12_expression 94 rfl) rfl <| hx) ?_
    refine qc_andN (qc_if_ne (qc_at qkX12_expression 95 rfl)) (fun u26 => ?_) (fun u26 => ?_)
    · replace h := qc_jn u26 h
      exact And.imp_right (fun hx => qc_sub [0, 1] rfl hx) (tX12_expression_b217 hn hR hk27 h)
    · replace h := qc_jp u26 h
      refine And.imp_right (fun hx => qc_aload_n (qc_at qkX12_expression 96 rfl) rfl <| qc_iload (qc_at qkX12_expression 97 rfl) rfl <| hx) ?_
      obtain ⟨r27, I27, L27, D27, R27, e27, h⟩ := qc_bd_of h
      have c27 := (tX12_joinsDown hn hR e27)
      refine qd_cVn (ci := 10) (a0 := 291) (qc_at qkX12_expression 98 rfl) ql_12_455 qfX12_joinsDown (qc_kf hn rfl) rfl c27 rfl rfl (Nat.le_of_ble_eq_true rfl) (qc_rml (by decide) (by decide)) ⟨Nat.zero_le _, Nat.zero_le _⟩ ?_
      refine And.imp_right (fun hx => qc_aload_n (qc_at qkX12_expression 99 rfl) rfl <| qc_gI (qc_at qkX12_expression 100 rfl) hn rfl <| hx) ?_
      refine qc_andN (qc_if_ne (qc_at qkX12_expression 101 rfl)) (fun u28 => ?_) (fun u28 => ?_)
      · replace h := qc_jn u28 h
        exact And.imp_right (fun hx => qc_sub [0, 1, 2] rfl hx) (tX12_expression_b196 hn (c27.1.1 hR) hk27 h)
      · replace h := qc_jp u28 h
        refine And.imp_right (fun hx => qc_aload_n (qc_at qkX12_expression 102 rfl) rfl <| qc_iload (qc_at qkX12_expression 103 rfl) rfl <| qc_aload_n (qc_at qkX12_expression 104 rfl) rfl <| qc_iload (qc_at qkX12_expression 105 rfl) rfl <| hx) ?_
        obtain ⟨r29, I29, L29, D29, R29, e29, h⟩ := qc_bd_of h
        have c29 := (tX12_opHere hn (c27.1.1 hR) e29)
        refine qd_cVv (ci := 10) (a0 := 291) (qc_at qkX12_expression 106 rfl) ql_12_458 qfX12_opHere (qc_kf hn rfl) rfl c29 rfl rfl (Nat.le_of_ble_eq_true rfl) (qc_rml (by decide) (by decide)) ⟨Nat.zero_le _, Nat.zero_le _⟩ ?_
        obtain ⟨r30, I30, L30, D30, R30, e30, h⟩ := qc_bd_of h
        have c30 := (tX12_joint hn (c29.1.1 (c27.1.1 hR)) e30)
        refine qd_cVn (ci := 10) (a0 := 291) (qc_at qkX12_expression 107 rfl) ql_12_403 qfX12_joint (qc_kf hn rfl) rfl c30 rfl rfl (Nat.le_of_ble_eq_true rfl) (qc_rml (by decide) (by decide)) ⟨Nat.zero_le _, Nat.zero_le _⟩ ?_
        exact And.imp_right (fun hx => qc_sub [0, 1, 2] rfl hx) (tX12_expression_b196 hn (c30.1.1 (c29.1.1 (c27.1.1 hR))) hk27 h)
def fX12_expression_b158 (w : qcW) (k27 : qTI × qTL × qTD × qTR × Int32 × Int32 × Int32 → qcO Int32) (I : qTI) (L : qTL) (D : qTD) (R : qTR) (x1 : Int32) (x4 : Int32) (s0 : Int32) : qcO Int32 :=
  (fX12_expression_b160 w k27 I L D R x1 x4 s0)
set_option maxRecDepth 100000 in
set_option maxHeartbeats 4000000 in
theorem tX12_expression_b158 {w : qcW} {I : qTI} {L : qTL} {D : qTD} {R : qTR} {k27 : qTI × qTL × qTD × qTR × Int32 × Int32 × Int32 → qcO Int32} {x1 : Int32} {x4 : Int32} {s0 : Int32} {r : Int32} {I' : qTI} {L' : qTL} {D' : qTD} {R' : qTR} (hn : qcNF ≤ w.1) (hR : qc_FR R) (hk27 : ∀ {I : qTI} {L : qTL} {D : qTD} {R : qTR} {x1 : Int32} {x2 : Int32} {x3 : Int32} {r : Int32} {I' : qTI} {L' : qTL} {D' : qTD} {R' : qTR}, qc_FR R → k27 (I, L, D, R, x1, x2, x3) = some (r, I', L', D', R') → qc_fm qcSM (I, L, D, R) (I', L', D', R') ∧ qc_X (qc_rm (7) 0 0) qmX12_expression (qc_QM 0 0 (qc_eq (some (.int r)) w (I', L', D', R'))) 0 0 w (27, [(0, .ref 291), (1, .int x1), (2, .int x2), (3, .int x3)], [], I, L, D, R)) (h : fX12_expression_b158 w k27 I L D R x1 x4 s0 = some (r, I', L', D', R')) : qc_fm qcSM (I, L, D, R) (I', L', D', R') ∧ qc_X (qc_rm (7) 0 0) qmX12_expression (qc_QM 0 0 (qc_eq (some (.int r)) w (I', L', D', R'))) 0 0 w (158, [(0, .ref 291), (1, .int x1), (4, .int x4)], [.int s0], I, L, D, R) := by
  unfold fX12_expression_b158 at h
  exact And.imp_right (fun hx => qc_istore (lv' := [(5, _), (0, _), (1, _), (4, _)]) (qc_at qkX12_expression 90 rfl) rfl rfl <| qc_sub [1, 2, 3, 0] rfl hx) (tX12_expression_b160 hn hR hk27 h)
def fX12_expression_b157 (w : qcW) (k27 : qTI × qTL × qTD × qTR × Int32 × Int32 × Int32 → qcO Int32) (I : qTI) (L : qTL) (D : qTD) (R : qTR) (x1 : Int32) (x4 : Int32) : qcO Int32 :=
  (fX12_expression_b158 w k27 I L D R x1 x4 (0 : Int32))
set_option maxRecDepth 100000 in
set_option maxHeartbeats 4000000 in
theorem tX12_expression_b157 {w : qcW} {I : qTI} {L : qTL} {D : qTD} {R : qTR} {k27 : qTI × qTL × qTD × qTR × Int32 × Int32 × Int32 → qcO Int32} {x1 : Int32} {x4 : Int32} {r : Int32} {I' : qTI} {L' : qTL} {D' : qTD} {R' : qTR} (hn : qcNF ≤ w.1) (hR : qc_FR R) (hk27 : ∀ {I : qTI} {L : qTL} {D : qTD} {R : qTR} {x1 : Int32} {x2 : Int32} {x3 : Int32} {r : Int32} {I' : qTI} {L' : qTL} {D' : qTD} {R' : qTR}, qc_FR R → k27 (I, L, D, R, x1, x2, x3) = some (r, I', L', D', R') → qc_fm qcSM (I, L, D, R) (I', L', D', R') ∧ qc_X (qc_rm (7) 0 0) qmX12_expression (qc_QM 0 0 (qc_eq (some (.int r)) w (I', L', D', R'))) 0 0 w (27, [(0, .ref 291), (1, .int x1), (2, .int x2), (3, .int x3)], [], I, L, D, R)) (h : fX12_expression_b157 w k27 I L D R x1 x4 = some (r, I', L', D', R')) : qc_fm qcSM (I, L, D, R) (I', L', D', R') ∧ qc_X (qc_rm (7) 0 0) qmX12_expression (qc_QM 0 0 (qc_eq (some (.int r)) w (I', L', D', R'))) 0 0 w (157, [(0, .ref 291), (1, .int x1), (4, .int x4)], [], I, L, D, R) := by
  unfold fX12_expression_b157 at h
  exact And.imp_right (fun hx => qc_iconst (qc_at qkX12_expression 89 rfl) <| qc_sub [0, 1, 2] rfl hx) (tX12_expression_b158 hn hR hk27 h)
def fX12_expression_b27 (w : qcW) (k27 : qTI × qTL × qTD × qTR × Int32 × Int32 × Int32 → qcO Int32) (I : qTI) (L : qTL) (D : qTD) (R : qTR) (x1 : Int32) (x2 : Int32) (x3 : Int32) : qcO Int32 :=
  (if (I 291 15) = 0 then (if x2 = 0 then (qc_bd (fX12_strengthHere w I L D R) fun r33 I33 L33 D33 R33 => if r33 = (4 : Int32) then (qc_bd (fX12_joinsDown w I33 L33 D33 R33 (5 : Int32)) fun r35 I35 L35 D35 R35 => qc_gd (qc_inb ((I35 291 34) - (1 : Int32)) 40) <| if (I35 291 28) ≤ (I35 311 (Int32.toNatClampNeg ((I35 291 34) - (1 : Int32)))) then (fX12_expression_b157 w k27 I35 L35 D35 R35 x1 r33) else (qc_gd (qc_inb ((I35 291 28) - (1 : Int32)) 420) <| if (I35 306 (Int32.toNatClampNeg ((I35 291 28) - (1 : Int32)))) = (4 : Int32) then (fX12_expression_b158 w k27 I35 L35 D35 R35 x1 r33 (1 : Int32)) else (fX12_expression_b157 w k27 I35 L35 D35 R35 x1 r33))) else (fX12_expression_b160 w k27 I33 L33 D33 R33 x1 r33 (0 : Int32))) else (qc_bd (fX12_begins w I L D R x3) fun r40 I40 L40 D40 R40 => if (I 291 34) < (I40 291 34) then (fX12_expression_b80 w k27 I40 L40 D40 R40 x1 (qc_b r40)) else (if r40 = true then (fX12_expression_b84 w k27 I40 L40 D40 R40 x1 (qc_b r40)) else (qc_gd (qc_inb ((I40 291 28) - (1 : Int32)) 420) <| if (I40 306 (Int32.toNatClampNeg ((I40 291 28) - (1 : Int32)))) = (3 : Int32) then (fX12_expression_b80 w k27 I40 L40 D40 R40 x1 (qc_b r40)) else (fX12_expression_b84 w k27 I40 L40 D40 R40 x1 (qc_b r40)))))) else (some ((0 : Int32), I, L, D, R)))
set_option maxRecDepth 100000 in
set_option maxHeartbeats 4000000 in
theorem tX12_expression_b27 {w : qcW} {I : qTI} {L : qTL} {D : qTD} {R : qTR} {k27 : qTI × qTL × qTD × qTR × Int32 × Int32 × Int32 → qcO Int32} {x1 : Int32} {x2 : Int32} {x3 : Int32} {r : Int32} {I' : qTI} {L' : qTL} {D' : qTD} {R' : qTR} (hn : qcNF ≤ w.1) (hR : qc_FR R) (hk27 : ∀ {I : qTI} {L : qTL} {D : qTD} {R : qTR} {x1 : Int32} {x2 : Int32} {x3 : Int32} {r : Int32} {I' : qTI} {L' : qTL} {D' : qTD} {R' : qTR}, qc_FR R → k27 (I, L, D, R, x1, x2, x3) = some (r, I', L', D', R') → qc_fm qcSM (I, L, D, R) (I', L', D', R') ∧ qc_X (qc_rm (7) 0 0) qmX12_expression (qc_QM 0 0 (qc_eq (some (.int r)) w (I', L', D', R'))) 0 0 w (27, [(0, .ref 291), (1, .int x1), (2, .int x2), (3, .int x3)], [], I, L, D, R)) (h : fX12_expression_b27 w k27 I L D R x1 x2 x3 = some (r, I', L', D', R')) : qc_fm qcSM (I, L, D, R) (I', L', D', R') ∧ qc_X (qc_rm (7) 0 0) qmX12_expression (qc_QM 0 0 (qc_eq (some (.int r)) w (I', L', D', R'))) 0 0 w (27, [(0, .ref 291), (1, .int x1), (2, .int x2), (3, .int x3)], [], I, L, D, R) := by
  unfold fX12_expression_b27 at h
  refine And.imp_right (fun hx => qc_aload_n (qc_at qkX12_expression 19 rfl) rfl <| qc_gI (qc_at qkX12_expression 20 rfl) hn rfl <| hx) ?_
  refine qc_andN (qc_if_ne (qc_at qkX12_expression 21 rfl)) (fun u31 => ?_) (fun u31 => ?_)
  · replace h := qc_jn u31 h
    obtain ⟨rfl, rfl, rfl, rfl, rfl⟩ := qc_some5 h
    exact ⟨qc_fm.rf _, qc_iconst (qc_at qkX12_expression 201 rfl) <| qc_iret (qc_at qkX12_expression 202 rfl) rfl (Nat.le_refl _) (Nat.le_refl _) (qc_eq.rf _ _ _)⟩
  · replace h := qc_jp u31 h
    refine And.imp_right (fun hx => qc_iload_n (qc_at qkX12_expression 22 rfl) rfl <| hx) ?_
    refine qc_andC (qc_if_eq (qc_at qkX12_expression 23 rfl)) (fun u32 => ?_) (fun u32 => ?_)
    · replace h := qc_jp u32 h
      refine And.imp_right (fun hx => qc_aload_n (qc_at qkX12_expression 57 rfl) rfl <| hx) ?_
      obtain ⟨r33, I33, L33, D33, R33, e33, h⟩ := qc_bd_of h
      have c33 := (tX12_strengthHere hn hR e33)
      refine qd_cVv (ci := 10) (a0 := 291) (qc_at qkX12_expression 58 rfl) ql_12_452 qfX12_strengthHere (qc_kf hn rfl) rfl c33 rfl rfl (Nat.le_of_ble_eq_true rfl) (qc_rml (by decide) (by decide)) ⟨Nat.zero_le _, Nat.zero_le _⟩ ?_
      refine And.imp_right (fun hx => qc_istore (lv' := [(4, _), (0, _), (1, _), (2, _), (3, _)]) (qc_at qkX12_expression 59 rfl) rfl rfl <| qc_iconst (qc_at qkX12_expression 60 rfl) <| qc_istore (lv' := [(5, _), (4, _), (0, _), (1, _), (2, _), (3, _)]) (qc_at qkX12_expression 61 rfl) rfl rfl <| qc_iload (qc_at qkX12_expression 62 rfl) rfl <| qc_iconst (qc_at qkX12_expression 63 rfl) <| hx) ?_
      refine qc_andN (qc_icmp_ne (qc_at qkX12_expression 64 rfl)) (fun u34 => ?_) (fun u34 => ?_)
      · replace h := qc_jn u34 h
        exact And.imp_right (fun hx => qc_sub [2, 3, 1, 0] rfl hx) (tX12_expression_b160 hn (c33.1.1 hR) hk27 h)
      · replace h := qc_jp u34 h
        refine And.imp_right (fun hx => qc_aload_n (qc_at qkX12_expression 65 rfl) rfl <| qc_iconst (qc_at qkX12_expression 66 rfl) <| hx) ?_
        obtain ⟨r35, I35, L35, D35, R35, e35, h⟩ := qc_bd_of h
        have c35 := (tX12_joinsDown hn (c33.1.1 hR) e35)
        refine qd_cVn (ci := 10) (a0 := 291) (qc_at qkX12_expression 67 rfl) ql_12_455 qfX12_joinsDown (qc_kf hn rfl) rfl c35 rfl rfl (Nat.le_of_ble_eq_true rfl) (qc_rml (by decide) (by decide)) ⟨Nat.zero_le _, Nat.zero_le _⟩ ?_
        refine And.imp_right (fun hx => qc_aload_n (qc_at qkX12_expression 68 rfl) rfl <| qc_gI (qc_at qkX12_expression 69 rfl) hn rfl <| qc_aload_n (qc_at qkX12_expression 70 rfl) rfl <| qc_gR (qc_at qkX12_expression 71 rfl) hn rfl (qfr_291_36 (c35.1.1 (c33.1.1 hR))) rfl <| qc_aload_n (qc_at qkX12_expression 72 rfl) rfl <| qc_gI (qc_at qkX12_expression 73 rfl) hn rfl <| qc_iconst (qc_at qkX12_expression 74 rfl) <| qc_isub (qc_at qkX12_expression 75 rfl) <| hx) ?_
        obtain ⟨g36, h⟩ := qc_gd_of h
        refine And.imp_right (fun hx => qc_iald 40 (qc_at qkX12_expression 76 rfl) hn rfl (qc_inb_in g36) <| hx) ?_
        refine qc_andC (qc_icmp_le (qc_at qkX12_expression 77 rfl)) (fun u37 => ?_) (fun u37 => ?_)
        · replace h := qc_jp u37 h
          exact And.imp_right (fun hx => qc_sub [2, 3, 1] rfl hx) (tX12_expression_b157 hn (c35.1.1 (c33.1.1 hR)) hk27 h)
        · replace h := qc_jn u37 h
          refine And.imp_right (fun hx => qc_aload_n (qc_at qkX12_expression 78 rfl) rfl <| qc_gR (qc_at qkX12_expression 79 rfl) hn rfl (qfr_291_29 (c35.1.1 (c33.1.1 hR))) rfl <| qc_aload_n (qc_at qkX12_expression 80 rfl) rfl <| qc_gI (qc_at qkX12_expression 81 rfl) hn rfl <| qc_iconst (qc_at qkX12_expression 82 rfl) <| qc_isub (qc_at qkX12_expression 83 rfl) <| hx) ?_
          obtain ⟨g38, h⟩ := qc_gd_of h
          refine And.imp_right (fun hx => qc_iald 420 (qc_at qkX12_expression 84 rfl) hn rfl (qc_inb_in g38) <| qc_iconst (qc_at qkX12_expression 85 rfl) <| hx) ?_
          refine qc_andN (qc_icmp_ne (qc_at qkX12_expression 86 rfl)) (fun u39 => ?_) (fun u39 => ?_)
          · replace h := qc_jn u39 h
            exact And.imp_right (fun hx => qc_sub [2, 3, 1] rfl hx) (tX12_expression_b157 hn (c35.1.1 (c33.1.1 hR)) hk27 h)
          · replace h := qc_jp u39 h
            exact And.imp_right (fun hx => qc_iconst (qc_at qkX12_expression 87 rfl) <| qc_goto (qc_at qkX12_expression 88 rfl) <| qc_sub [2, 3, 1] rfl hx) (tX12_expression_b158 hn (c35.1.1 (c33.1.1 hR)) hk27 h)
    · replace h := qc_jn u32 h
      refine And.imp_right (fun hx => qc_aload_n (qc_at qkX12_expression 24 rfl) rfl <| qc_gI (qc_at qkX12_expression 25 rfl) hn rfl <| qc_istore (lv' := [(4, _), (0, _), (1, _), (2, _), (3, _)]) (qc_at qkX12_expression 26 rfl) rfl rfl <| qc_aload_n (qc_at qkX12_expression 27 rfl) rfl <| qc_iload_n (qc_at qkX12_expression 28 rfl) rfl <| hx) ?_
      obtain ⟨r40, I40, L40, D40, R40, e40, h⟩ := qc_bd_of h
      have c40 := (tX12_begins hn hR e40)
      refine qd_cVv (ci := 10) (a0 := 291) (qc_at qkX12_expression 29 rfl) ql_12_448 qfX12_begins (qc_kf hn rfl) rfl c40 rfl rfl (Nat.le_of_ble_eq_true rfl) (qc_rml (by decide) (by decide)) ⟨Nat.zero_le _, Nat.zero_le _⟩ ?_
      refine And.imp_right (fun hx => qc_istore (lv' := [(5, _), (4, _), (0, _), (1, _), (2, _), (3, _)]) (qc_at qkX12_expression 30 rfl) rfl rfl <| qc_aload_n (qc_at qkX12_expression 31 rfl) rfl <| qc_gI (qc_at qkX12_expression 32 rfl) hn rfl <| qc_iload (qc_at qkX12_expression 33 rfl) rfl <| hx) ?_
      refine qc_andC (qc_icmp_gt (qc_at qkX12_expression 34 rfl)) (fun u41 => ?_) (fun u41 => ?_)
      · replace h := qc_jp u41 h
        exact And.imp_right (fun hx => qc_sub [2, 3, 0] rfl hx) (tX12_expression_b80 hn (c40.1.1 hR) hk27 h)
      · replace h := qc_jn u41 h
        refine And.imp_right (fun hx => qc_iload (qc_at qkX12_expression 35 rfl) rfl <| hx) ?_
        refine qc_andBn (qc_ifB_ne (qc_at qkX12_expression 36 rfl)) (fun u42 => ?_) (fun u42 => ?_)
        · replace h := qc_jt u42 h
          exact And.imp_right (fun hx => qc_sub [2, 3, 0] rfl hx) (tX12_expression_b84 hn (c40.1.1 hR) hk27 h)
        · replace h := qc_jf u42 h
          refine And.imp_right (fun hx => qc_aload_n (qc_at qkX12_expression 37 rfl) rfl <| qc_gR (qc_at qkX12_expression 38 rfl) hn rfl (qfr_291_29 (c40.1.1 hR)) rfl <| qc_aload_n (qc_at qkX12_expression 39 rfl) rfl <| qc_gI (qc_at qkX12_expression 40 rfl) hn rfl <| qc_iconst (qc_at qkX12_expression 41 rfl) <| qc_isub (qc_at qkX12_expression 42 rfl) <| hx) ?_
          obtain ⟨g43, h⟩ := qc_gd_of h
          refine And.imp_right (fun hx => qc_iald 420 (qc_at qkX12_expression 43 rfl) hn rfl (qc_inb_in g43) <| qc_iconst (qc_at qkX12_expression 44 rfl) <| hx) ?_
          refine qc_andN (qc_icmp_ne (qc_at qkX12_expression 45 rfl)) (fun u44 => ?_) (fun u44 => ?_)
          · replace h := qc_jn u44 h
            exact And.imp_right (fun hx => qc_sub [2, 3, 0] rfl hx) (tX12_expression_b84 hn (c40.1.1 hR) hk27 h)
          · replace h := qc_jp u44 h
            exact And.imp_right (fun hx => qc_sub [2, 3, 0] rfl hx) (tX12_expression_b80 hn (c40.1.1 hR) hk27 h)
def fX12_expression_l27 (w : qcW) : Nat → qTI × qTL × qTD × qTR × Int32 × Int32 × Int32 → qcO Int32 := qc_lp (fun k q => match q with | (I, L, D, R, x1, x2, x3) => fX12_expression_b27 w k I L D R x1 x2 x3)
set_option maxRecDepth 100000 in
set_option maxHeartbeats 4000000 in
theorem tX12_expression_l27 {w : qcW} (hn : qcNF ≤ w.1) : ∀ (n : Nat) {r : Int32} {I' : qTI} {L' : qTL} {D' : qTD} {R' : qTR} {I : qTI} {L : qTL} {D : qTD} {R : qTR} {x1 : Int32} {x2 : Int32} {x3 : Int32} (hR : qc_FR R) (h : fX12_expression_l27 w n (I, L, D, R, x1, x2, x3) = some (r, I', L', D', R')), qc_fm qcSM (I, L, D, R) (I', L', D', R') ∧ qc_X (qc_rm (7) 0 0) qmX12_expression (qc_QM 0 0 (qc_eq (some (.int r)) w (I', L', D', R'))) 0 0 w (27, [(0, .ref 291), (1, .int x1), (2, .int x2), (3, .int x3)], [], I, L, D, R) := by
  intro n
  induction n with
  | zero => intro _ _ _ _ _ _ _ _ _ _ _ _ _ h; cases h
  | succ n ih => intro _ _ _ _ _ _ _ _ _ _ _ _ hR h; exact tX12_expression_b27 hn hR (k27 := fX12_expression_l27 w n) (fun hR h => ih hR h) h
def fX12_expression (w : qcW) (I : qTI) (L : qTL) (D : qTD) (R : qTR) (x1 : Int32) : qcO Int32 :=
  (qc_bd (fX12_frame w (qc_u (qc_u (qc_u I 291 28 (0 : Int32)) 291 32 (0 : Int32)) 291 34 (0 : Int32)) L D R (0 : Int32) (0 : Int32) (0 : Int32) (0 : Int32)) fun r45 I45 L45 D45 R45 => fX12_expression_l27 w qcF (I45, L45, D45, R45, x1, (1 : Int32), (1 : Int32)))
set_option maxRecDepth 100000 in
set_option maxHeartbeats 4000000 in
theorem tX12_expression {w : qcW} {I : qTI} {L : qTL} {D : qTD} {R : qTR} {x1 : Int32} {r : Int32} {I' : qTI} {L' : qTL} {D' : qTD} {R' : qTR} (hn : qcNF ≤ w.1) (hR : qc_FR R) (h : fX12_expression w I L D R x1 = some (r, I', L', D', R')) : qc_fm qcSM (I, L, D, R) (I', L', D', R') ∧ qc_V (7) 0 0 qmX12_expression [.ref 291, .int x1] w (I, L, D, R) (qc_eq (some (.int r)) w (I', L', D', R')) := by
  unfold fX12_expression at h
  refine And.imp_right (fun hx => qc_V.of rfl rfl (Nat.le_of_ble_eq_true rfl) (lv := [(0, .ref 291), (1, .int x1)]) rfl hx) ?_
  refine And.imp_right (fun hx => qc_aload_n (qc_at qkX12_expression 0 rfl) rfl <| qc_iconst (qc_at qkX12_expression 1 rfl) <| hx) (qd_pI (qc_at qkX12_expression 2 rfl) hn rfl rfl ?_)
  refine And.imp_right (fun hx => qc_aload_n (qc_at qkX12_expression 3 rfl) rfl <| qc_iconst (qc_at qkX12_expression 4 rfl) <| hx) (qd_pI (qc_at qkX12_expression 5 rfl) hn rfl rfl ?_)
  refine And.imp_right (fun hx => qc_aload_n (qc_at qkX12_expression 6 rfl) rfl <| qc_iconst (qc_at qkX12_expression 7 rfl) <| hx) (qd_pI (qc_at qkX12_expression 8 rfl) hn rfl rfl ?_)
  refine And.imp_right (fun hx => qc_aload_n (qc_at qkX12_expression 9 rfl) rfl <| qc_iconst (qc_at qkX12_expression 10 rfl) <| qc_iconst (qc_at qkX12_expression 11 rfl) <| qc_iconst (qc_at qkX12_expression 12 rfl) <| qc_iconst (qc_at qkX12_expression 13 rfl) <| hx) ?_
  obtain ⟨r45, I45, L45, D45, R45, e45, h⟩ := qc_bd_of h
  have c45 := (tX12_frame hn hR e45)
  refine qd_cVn (ci := 10) (a0 := 291) (qc_at qkX12_expression 14 rfl) ql_12_419 qfX12_frame (qc_kf hn rfl) rfl c45 rfl rfl (Nat.le_of_ble_eq_true rfl) (qc_rml (by decide) (by decide)) ⟨Nat.zero_le _, Nat.zero_le _⟩ ?_
  exact And.imp_right (fun hx => qc_iconst (qc_at qkX12_expression 15 rfl) <| qc_istore_n (lv' := [(2, _), (0, _), (1, _)]) (qc_at qkX12_expression 16 rfl) rfl rfl <| qc_iconst (qc_at qkX12_expression 17 rfl) <| qc_istore_n (lv' := [(3, _), (2, _), (0, _), (1, _)]) (qc_at qkX12_expression 18 rfl) rfl rfl <| qc_sub [2, 3, 1, 0] rfl hx) (tX12_expression_l27 hn qcF (c45.1.1 hR) h)
def fX12_sum (w : qcW) (I : qTI) (L : qTL) (D : qTD) (R : qTR) : qcO Int32 :=
  (qc_bd (fX12_expression w I L D R (1 : Int32)) fun r1 I1 L1 D1 R1 => some (r1, I1, L1, D1, R1))
set_option maxRecDepth 100000 in
set_option maxHeartbeats 4000000 in
theorem tX12_sum {w : qcW} {I : qTI} {L : qTL} {D : qTD} {R : qTR} {r : Int32} {I' : qTI} {L' : qTL} {D' : qTD} {R' : qTR} (hn : qcNF ≤ w.1) (hR : qc_FR R) (h : fX12_sum w I L D R = some (r, I', L', D', R')) : qc_fm qcSM (I, L, D, R) (I', L', D', R') ∧ qc_V (8) 0 0 qmX12_sum [.ref 291] w (I, L, D, R) (qc_eq (some (.int r)) w (I', L', D', R')) := by
  unfold fX12_sum at h
  refine And.imp_right (fun hx => qc_V.of rfl rfl (Nat.le_of_ble_eq_true rfl) (lv := [(0, .ref 291)]) rfl hx) ?_
  refine And.imp_right (fun hx => qc_aload_n (qc_at qkX12_sum 0 rfl) rfl <| qc_iconst (qc_at qkX12_sum 1 rfl) <| hx) ?_
  obtain ⟨r1, I1, L1, D1, R1, e1, h⟩ := qc_bd_of h
  have c1 := (tX12_expression hn hR e1)
  refine qd_cVv (ci := 10) (a0 := 291) (qc_at qkX12_sum 2 rfl) ql_12_464 qfX12_expression (qc_kf hn rfl) rfl c1 rfl rfl (Nat.le_of_ble_eq_true rfl) (qc_rml (by decide) (by decide)) ⟨Nat.zero_le _, Nat.zero_le _⟩ ?_
  obtain ⟨rfl, rfl, rfl, rfl, rfl⟩ := qc_some5 h
  exact ⟨qc_fm.rf _, qc_iret (qc_at qkX12_sum 3 rfl) rfl (Nat.le_refl _) (Nat.le_refl _) (qc_eq.rf _ _ _)⟩
def fX12_or (w : qcW) (I : qTI) (L : qTL) (D : qTD) (R : qTR) : qcO Int32 :=
  (qc_bd (fX12_expression w I L D R (0 : Int32)) fun r1 I1 L1 D1 R1 => some (r1, I1, L1, D1, R1))
set_option maxRecDepth 100000 in
set_option maxHeartbeats 4000000 in
theorem tX12_or {w : qcW} {I : qTI} {L : qTL} {D : qTD} {R : qTR} {r : Int32} {I' : qTI} {L' : qTL} {D' : qTD} {R' : qTR} (hn : qcNF ≤ w.1) (hR : qc_FR R) (h : fX12_or w I L D R = some (r, I', L', D', R')) : qc_fm qcSM (I, L, D, R) (I', L', D', R') ∧ qc_V (8) 0 0 qmX12_or [.ref 291] w (I, L, D, R) (qc_eq (some (.int r)) w (I', L', D', R')) := by
  unfold fX12_or at h
  refine And.imp_right (fun hx => qc_V.of rfl rfl (Nat.le_of_ble_eq_true rfl) (lv := [(0, .ref 291)]) rfl hx) ?_
  refine And.imp_right (fun hx => qc_aload_n (qc_at qkX12_or 0 rfl) rfl <| qc_iconst (qc_at qkX12_or 1 rfl) <| hx) ?_
  obtain ⟨r1, I1, L1, D1, R1, e1, h⟩ := qc_bd_of h
  have c1 := (tX12_expression hn hR e1)
  refine qd_cVv (ci := 10) (a0 := 291) (qc_at qkX12_or 2 rfl) ql_12_464 qfX12_expression (qc_kf hn rfl) rfl c1 rfl rfl (Nat.le_of_ble_eq_true rfl) (qc_rml (by decide) (by decide)) ⟨Nat.zero_le _, Nat.zero_le _⟩ ?_
  obtain ⟨rfl, rfl, rfl, rfl, rfl⟩ := qc_some5 h
  exact ⟨qc_fm.rf _, qc_iret (qc_at qkX12_or 3 rfl) rfl (Nat.le_refl _) (Nat.le_refl _) (qc_eq.rf _ _ _)⟩
def fX12_here (w : qcW) (I : qTI) (L : qTL) (D : qTD) (R : qTR) : qcO Int32 :=
  (qc_gd (qc_inb (((3 : Int32) * (I 291 40)) + (I 291 50)) 36) <| some ((I 317 (Int32.toNatClampNeg (((3 : Int32) * (I 291 40)) + (I 291 50)))), I, L, D, R))
set_option maxRecDepth 100000 in
set_option maxHeartbeats 4000000 in
theorem tX12_here {w : qcW} {I : qTI} {L : qTL} {D : qTD} {R : qTR} {r : Int32} {I' : qTI} {L' : qTL} {D' : qTD} {R' : qTR} (hn : qcNF ≤ w.1) (hR : qc_FR R) (h : fX12_here w I L D R = some (r, I', L', D', R')) : qc_fm qcSM (I, L, D, R) (I', L', D', R') ∧ qc_V (0) 0 0 qmX12_here [.ref 291] w (I, L, D, R) (qc_eq (some (.int r)) w (I', L', D', R')) := by
  unfold fX12_here at h
  refine And.imp_right (fun hx => qc_V.of rfl rfl (Nat.le_of_ble_eq_true rfl) (lv := [(0, .ref 291)]) rfl hx) ?_
  refine And.imp_right (fun hx => qc_aload_n (qc_at qkX12_here 0 rfl) rfl <| qc_gR (qc_at qkX12_here 1 rfl) hn rfl (qfr_291_43 hR) rfl <| qc_iconst (qc_at qkX12_here 2 rfl) <| qc_aload_n (qc_at qkX12_here 3 rfl) rfl <| qc_gI (qc_at qkX12_here 4 rfl) hn rfl <| qc_imul (qc_at qkX12_here 5 rfl) <| qc_aload_n (qc_at qkX12_here 6 rfl) rfl <| qc_gI (qc_at qkX12_here 7 rfl) hn rfl <| qc_iadd (qc_at qkX12_here 8 rfl) <| hx) ?_
  obtain ⟨g1, h⟩ := qc_gd_of h
  obtain ⟨rfl, rfl, rfl, rfl, rfl⟩ := qc_some5 h
  exact ⟨qc_fm.rf _, qc_iald 36 (qc_at qkX12_here 9 rfl) hn rfl (qc_inb_in g1) <| qc_iret (qc_at qkX12_here 10 rfl) rfl (Nat.le_refl _) (Nat.le_refl _) (qc_eq.rf _ _ _)⟩
def fX12_emit (w : qcW) (I : qTI) (L : qTL) (D : qTD) (R : qTR) (x1 : Int32) (x2 : Int32) : qcO Unit :=
  (qc_bd (fX12_here w I L D R) fun r1 I1 L1 D1 R1 => if r1 = (200 : Int32) then (some ((), (qc_u I1 291 51 (1 : Int32)), L1, D1, R1)) else (qc_gd (qc_inb ((((600 : Int32) * (I1 291 40)) + ((200 : Int32) * (I1 291 50))) + r1) 7200) <| qc_gd (qc_inb ((((600 : Int32) * ((qc_u I1 315 (Int32.toNatClampNeg ((((600 : Int32) * (I1 291 40)) + ((200 : Int32) * (I1 291 50))) + r1)) x1) 291 40)) + ((200 : Int32) * ((qc_u I1 315 (Int32.toNatClampNeg ((((600 : Int32) * (I1 291 40)) + ((200 : Int32) * (I1 291 50))) + r1)) x1) 291 50))) + r1) 7200) <| qc_gd (qc_inb (((3 : Int32) * ((qc_u (qc_u I1 315 (Int32.toNatClampNeg ((((600 : Int32) * (I1 291 40)) + ((200 : Int32) * (I1 291 50))) + r1)) x1) 316 (Int32.toNatClampNeg ((((600 : Int32) * ((qc_u I1 315 (Int32.toNatClampNeg ((((600 : Int32) * (I1 291 40)) + ((200 : Int32) * (I1 291 50))) + r1)) x1) 291 40)) + ((200 : Int32) * ((qc_u I1 315 (Int32.toNatClampNeg ((((600 : Int32) * (I1 291 40)) + ((200 : Int32) * (I1 291 50))) + r1)) x1) 291 50))) + r1)) x2) 291 40)) + ((qc_u (qc_u I1 315 (Int32.toNatClampNeg ((((600 : Int32) * (I1 291 40)) + ((200 : Int32) * (I1 291 50))) + r1)) x1) 316 (Int32.toNatClampNeg ((((600 : Int32) * ((qc_u I1 315 (Int32.toNatClampNeg ((((600 : Int32) * (I1 291 40)) + ((200 : Int32) * (I1 291 50))) + r1)) x1) 291 40)) + ((200 : Int32) * ((qc_u I1 315 (Int32.toNatClampNeg ((((600 : Int32) * (I1 291 40)) + ((200 : Int32) * (I1 291 50))) + r1)) x1) 291 50))) + r1)) x2) 291 50)) 36) <| qc_gd (qc_inb (((3 : Int32) * ((qc_u (qc_u I1 315 (Int32.toNatClampNeg ((((600 : Int32) * (I1 291 40)) + ((200 : Int32) * (I1 291 50))) + r1)) x1) 316 (Int32.toNatClampNeg ((((600 : Int32) * ((qc_u I1 315 (Int32.toNatClampNeg ((((600 : Int32) * (I1 291 40)) + ((200 : Int32) * (I1 291 50))) + r1)) x1) 291 40)) + ((200 : Int32) * ((qc_u I1 315 (Int32.toNatClampNeg ((((600 : Int32) * (I1 291 40)) + ((200 : Int32) * (I1 291 50))) + r1)) x1) 291 50))) + r1)) x2) 291 40)) + ((qc_u (qc_u I1 315 (Int32.toNatClampNeg ((((600 : Int32) * (I1 291 40)) + ((200 : Int32) * (I1 291 50))) + r1)) x1) 316 (Int32.toNatClampNeg ((((600 : Int32) * ((qc_u I1 315 (Int32.toNatClampNeg ((((600 : Int32) * (I1 291 40)) + ((200 : Int32) * (I1 291 50))) + r1)) x1) 291 40)) + ((200 : Int32) * ((qc_u I1 315 (Int32.toNatClampNeg ((((600 : Int32) * (I1 291 40)) + ((200 : Int32) * (I1 291 50))) + r1)) x1) 291 50))) + r1)) x2) 291 50)) 36) <| some ((), (qc_u (qc_u (qc_u I1 315 (Int32.toNatClampNeg ((((600 : Int32) * (I1 291 40)) + ((200 : Int32) * (I1 291 50))) + r1)) x1) 316 (Int32.toNatClampNeg ((((600 : Int32) * ((qc_u I1 315 (Int32.toNatClampNeg ((((600 : Int32) * (I1 291 40)) + ((200 : Int32) * (I1 291 50))) + r1)) x1) 291 40)) + ((200 : Int32) * ((qc_u I1 315 (Int32.toNatClampNeg ((((600 : Int32) * (I1 291 40)) + ((200 : Int32) * (I1 291 50))) + r1)) x1) 291 50))) + r1)) x2) 317 (Int32.toNatClampNeg (((3 : Int32) * ((qc_u (qc_u I1 315 (Int32.toNatClampNeg ((((600 : Int32) * (I1 291 40)) + ((200 : Int32) * (I1 291 50))) + r1)) x1) 316 (Int32.toNatClampNeg ((((600 : Int32) * ((qc_u I1 315 (Int32.toNatClampNeg ((((600 : Int32) * (I1 291 40)) + ((200 : Int32) * (I1 291 50))) + r1)) x1) 291 40)) + ((200 : Int32) * ((qc_u I1 315 (Int32.toNatClampNeg ((((600 : Int32) * (I1 291 40)) + ((200 : Int32) * (I1 291 50))) + r1)) x1) 291 50))) + r1)) x2) 291 40)) + ((qc_u (qc_u I1 315 (Int32.toNatClampNeg ((((600 : Int32) * (I1 291 40)) + ((200 : Int32) * (I1 291 50))) + r1)) x1) 316 (Int32.toNatClampNeg ((((600 : Int32) * ((qc_u I1 315 (Int32.toNatClampNeg ((((600 : Int32) * (I1 291 40)) + ((200 : Int32) * (I1 291 50))) + r1)) x1) 291 40)) + ((200 : Int32) * ((qc_u I1 315 (Int32.toNatClampNeg ((((600 : Int32) * (I1 291 40)) + ((200 : Int32) * (I1 291 50))) + r1)) x1) 291 50))) + r1)) x2) 291 50))) (((qc_u (qc_u I1 315 (Int32.toNatClampNeg ((((600 : Int32) * (I1 291 40)) + ((200 : Int32) * (I1 291 50))) + r1)) x1) 316 (Int32.toNatClampNeg ((((600 : Int32) * ((qc_u I1 315 (Int32.toNatClampNeg ((((600 : Int32) * (I1 291 40)) + ((200 : Int32) * (I1 291 50))) + r1)) x1) 291 40)) + ((200 : Int32) * ((qc_u I1 315 (Int32.toNatClampNeg ((((600 : Int32) * (I1 291 40)) + ((200 : Int32) * (I1 291 50))) + r1)) x1) 291 50))) + r1)) x2) 317 (Int32.toNatClampNeg (((3 : Int32) * ((qc_u (qc_u I1 315 (Int32.toNatClampNeg ((((600 : Int32) * (I1 291 40)) + ((200 : Int32) * (I1 291 50))) + r1)) x1) 316 (Int32.toNatClampNeg ((((600 : Int32) * ((qc_u I1 315 (Int32.toNatClampNeg ((((600 : Int32) * (I1 291 40)) + ((200 : Int32) * (I1 291 50))) + r1)) x1) 291 40)) + ((200 : Int32) * ((qc_u I1 315 (Int32.toNatClampNeg ((((600 : Int32) * (I1 291 40)) + ((200 : Int32) * (I1 291 50))) + r1)) x1) 291 50))) + r1)) x2) 291 40)) + ((qc_u (qc_u I1 315 (Int32.toNatClampNeg ((((600 : Int32) * (I1 291 40)) + ((200 : Int32) * (I1 291 50))) + r1)) x1) 316 (Int32.toNatClampNeg ((((600 : Int32) * ((qc_u I1 315 (Int32.toNatClampNeg ((((600 : Int32) * (I1 291 40)) + ((200 : Int32) * (I1 291 50))) + r1)) x1) 291 40)) + ((200 : Int32) * ((qc_u I1 315 (Int32.toNatClampNeg ((((600 : Int32) * (I1 291 40)) + ((200 : Int32) * (I1 291 50))) + r1)) x1) 291 50))) + r1)) x2) 291 50)))) + (1 : Int32))), L1, D1, R1)))
set_option maxRecDepth 100000 in
set_option maxHeartbeats 4000000 in
theorem tX12_emit {w : qcW} {I : qTI} {L : qTL} {D : qTD} {R : qTR} {x1 : Int32} {x2 : Int32} {r : Unit} {I' : qTI} {L' : qTL} {D' : qTD} {R' : qTR} (hn : qcNF ≤ w.1) (hR : qc_FR R) (h : fX12_emit w I L D R x1 x2 = some (r, I', L', D', R')) : qc_fm qcSM (I, L, D, R) (I', L', D', R') ∧ qc_V (1) 0 0 qmX12_emit [.ref 291, .int x1, .int x2] w (I, L, D, R) (qc_eq none w (I', L', D', R')) := by
  unfold fX12_emit at h
  refine And.imp_right (fun hx => qc_V.of rfl rfl (Nat.le_of_ble_eq_true rfl) (lv := [(0, .ref 291), (1, .int x1), (2, .int x2)]) rfl hx) ?_
  refine And.imp_right (fun hx => qc_aload_n (qc_at qkX12_emit 0 rfl) rfl <| hx) ?_
  obtain ⟨r1, I1, L1, D1, R1, e1, h⟩ := qc_bd_of h
  have c1 := (tX12_here hn hR e1)
  refine qd_cVv (ci := 10) (a0 := 291) (qc_at qkX12_emit 1 rfl) ql_12_471 qfX12_here (qc_kf hn rfl) rfl c1 rfl rfl (Nat.le_of_ble_eq_true rfl) (qc_rml (by decide) (by decide)) ⟨Nat.zero_le _, Nat.zero_le _⟩ ?_
  refine And.imp_right (fun hx => qc_istore_n (lv' := [(3, _), (0, _), (1, _), (2, _)]) (qc_at qkX12_emit 2 rfl) rfl rfl <| qc_iload_n (qc_at qkX12_emit 3 rfl) rfl <| qc_sipush (qc_at qkX12_emit 4 rfl) <| hx) ?_
  refine qc_andN (qc_icmp_ne (qc_at qkX12_emit 5 rfl)) (fun u2 => ?_) (fun u2 => ?_)
  · replace h := qc_jn u2 h
    refine And.imp_right (fun hx => qc_aload_n (qc_at qkX12_emit 10 rfl) rfl <| qc_gR (qc_at qkX12_emit 11 rfl) hn rfl (qfr_291_41 (c1.1.1 hR)) rfl <| qc_sipush (qc_at qkX12_emit 12 rfl) <| qc_aload_n (qc_at qkX12_emit 13 rfl) rfl <| qc_gI (qc_at qkX12_emit 14 rfl) hn rfl <| qc_imul (qc_at qkX12_emit 15 rfl) <| qc_sipush (qc_at qkX12_emit 16 rfl) <| qc_aload_n (qc_at qkX12_emit 17 rfl) rfl <| qc_gI (qc_at qkX12_emit 18 rfl) hn rfl <| qc_imul (qc_at qkX12_emit 19 rfl) <| qc_iadd (qc_at qkX12_emit 20 rfl) <| qc_iload_n (qc_at qkX12_emit 21 rfl) rfl <| qc_iadd (qc_at qkX12_emit 22 rfl) <| qc_iload_n (qc_at qkX12_emit 23 rfl) rfl <| hx) ?_
    obtain ⟨g3, h⟩ := qc_gd_of h
    refine qd_iast 7200 (qc_at qkX12_emit 24 rfl) hn rfl (qc_inb_in g3) rfl ?_
    refine And.imp_right (fun hx => qc_aload_n (qc_at qkX12_emit 25 rfl) rfl <| qc_gR (qc_at qkX12_emit 26 rfl) hn rfl (qfr_291_42 (c1.1.1 hR)) rfl <| qc_sipush (qc_at qkX12_emit 27 rfl) <| qc_aload_n (qc_at qkX12_emit 28 rfl) rfl <| qc_gI (qc_at qkX12_emit 29 rfl) hn rfl <| qc_imul (qc_at qkX12_emit 30 rfl) <| qc_sipush (qc_at qkX12_emit 31 rfl) <| qc_aload_n (qc_at qkX12_emit 32 rfl) rfl <| qc_gI (qc_at qkX12_emit 33 rfl) hn rfl <| qc_imul (qc_at qkX12_emit 34 rfl) <| qc_iadd (qc_at qkX12_emit 35 rfl) <| qc_iload_n (qc_at qkX12_emit 36 rfl) rfl <| qc_iadd (qc_at qkX12_emit 37 rfl) <| qc_iload_n (qc_at qkX12_emit 38 rfl) rfl <| hx) ?_
    obtain ⟨g4, h⟩ := qc_gd_of h
    refine qd_iast 7200 (qc_at qkX12_emit 39 rfl) hn rfl (qc_inb_in g4) rfl ?_
    refine And.imp_right (fun hx => qc_aload_n (qc_at qkX12_emit 40 rfl) rfl <| qc_gR (qc_at qkX12_emit 41 rfl) hn rfl (qfr_291_43 (c1.1.1 hR)) rfl <| qc_iconst (qc_at qkX12_emit 42 rfl) <| qc_aload_n (qc_at qkX12_emit 43 rfl) rfl <| qc_gI (qc_at qkX12_emit 44 rfl) hn rfl <| qc_imul (qc_at qkX12_emit 45 rfl) <| qc_aload_n (qc_at qkX12_emit 46 rfl) rfl <| qc_gI (qc_at qkX12_emit 47 rfl) hn rfl <| qc_iadd (qc_at qkX12_emit 48 rfl) <| qc_dup2_11 (qc_at qkX12_emit 49 rfl) rfl rfl <| hx) ?_
    obtain ⟨g5, h⟩ := qc_gd_of h
    refine And.imp_right (fun hx => qc_iald 36 (qc_at qkX12_emit 50 rfl) hn rfl (qc_inb_in g5) <| qc_iconst (qc_at qkX12_emit 51 rfl) <| qc_iadd (qc_at qkX12_emit 52 rfl) <| hx) ?_
    obtain ⟨g6, h⟩ := qc_gd_of h
    refine qd_iast 36 (qc_at qkX12_emit 53 rfl) hn rfl (qc_inb_in g6) rfl ?_
    obtain ⟨rfl, rfl, rfl, rfl, rfl⟩ := qc_some5 h
    exact ⟨qc_fm.rf _, qc_vret (qc_at qkX12_emit 54 rfl) rfl (Nat.le_refl _) (Nat.le_refl _) (qc_eq.rf _ _ _)⟩
  · replace h := qc_jp u2 h
    refine And.imp_right (fun hx => qc_aload_n (qc_at qkX12_emit 6 rfl) rfl <| qc_iconst (qc_at qkX12_emit 7 rfl) <| hx) (qd_pZ (qc_at qkX12_emit 8 rfl) hn rfl (Or.inr rfl) rfl ?_)
    obtain ⟨rfl, rfl, rfl, rfl, rfl⟩ := qc_some5 h
    exact ⟨qc_fm.rf _, qc_vret (qc_at qkX12_emit 9 rfl) rfl (Nat.le_refl _) (Nat.le_refl _) (qc_eq.rf _ _ _)⟩
def fX12_patch (w : qcW) (I : qTI) (L : qTL) (D : qTD) (R : qTR) (x1 : Int32) : qcO Unit :=
  (if (200 : Int32) ≤ x1 then (some ((), I, L, D, R)) else (qc_bd (fX12_here w I L D R) fun r2 I2 L2 D2 R2 => qc_gd (qc_inb ((((600 : Int32) * (I 291 40)) + ((200 : Int32) * (I 291 50))) + x1) 7200) <| some ((), (qc_u I2 316 (Int32.toNatClampNeg ((((600 : Int32) * (I 291 40)) + ((200 : Int32) * (I 291 50))) + x1)) r2), L2, D2, R2)))
set_option maxRecDepth 100000 in
set_option maxHeartbeats 4000000 in
theorem tX12_patch {w : qcW} {I : qTI} {L : qTL} {D : qTD} {R : qTR} {x1 : Int32} {r : Unit} {I' : qTI} {L' : qTL} {D' : qTD} {R' : qTR} (hn : qcNF ≤ w.1) (hR : qc_FR R) (h : fX12_patch w I L D R x1 = some (r, I', L', D', R')) : qc_fm qcSM (I, L, D, R) (I', L', D', R') ∧ qc_V (1) 0 0 qmX12_patch [.ref 291, .int x1] w (I, L, D, R) (qc_eq none w (I', L', D', R')) := by
  unfold fX12_patch at h
  refine And.imp_right (fun hx => qc_V.of rfl rfl (Nat.le_of_ble_eq_true rfl) (lv := [(0, .ref 291), (1, .int x1)]) rfl hx) ?_
  refine And.imp_right (fun hx => qc_iload_n (qc_at qkX12_patch 0 rfl) rfl <| qc_sipush (qc_at qkX12_patch 1 rfl) <| hx) ?_
  refine qc_andC (qc_icmp_ge (qc_at qkX12_patch 2 rfl)) (fun u1 => ?_) (fun u1 => ?_)
  · replace h := qc_jp u1 h
    obtain ⟨rfl, rfl, rfl, rfl, rfl⟩ := qc_some5 h
    exact ⟨qc_fm.rf _, qc_vret (qc_at qkX12_patch 19 rfl) rfl (Nat.le_refl _) (Nat.le_refl _) (qc_eq.rf _ _ _)⟩
  · replace h := qc_jn u1 h
    refine And.imp_right (fun hx => qc_aload_n (qc_at qkX12_patch 3 rfl) rfl <| qc_gR (qc_at qkX12_patch 4 rfl) hn rfl (qfr_291_42 hR) rfl <| qc_sipush (qc_at qkX12_patch 5 rfl) <| qc_aload_n (qc_at qkX12_patch 6 rfl) rfl <| qc_gI (qc_at qkX12_patch 7 rfl) hn rfl <| qc_imul (qc_at qkX12_patch 8 rfl) <| qc_sipush (qc_at qkX12_patch 9 rfl) <| qc_aload_n (qc_at qkX12_patch 10 rfl) rfl <| qc_gI (qc_at qkX12_patch 11 rfl) hn rfl <| qc_imul (qc_at qkX12_patch 12 rfl) <| qc_iadd (qc_at qkX12_patch 13 rfl) <| qc_iload_n (qc_at qkX12_patch 14 rfl) rfl <| qc_iadd (qc_at qkX12_patch 15 rfl) <| qc_aload_n (qc_at qkX12_patch 16 rfl) rfl <| hx) ?_
    obtain ⟨r2, I2, L2, D2, R2, e2, h⟩ := qc_bd_of h
    have c2 := (tX12_here hn hR e2)
    refine qd_cVv (ci := 10) (a0 := 291) (qc_at qkX12_patch 17 rfl) ql_12_471 qfX12_here (qc_kf hn rfl) rfl c2 rfl rfl (Nat.le_of_ble_eq_true rfl) (qc_rml (by decide) (by decide)) ⟨Nat.zero_le _, Nat.zero_le _⟩ ?_
    obtain ⟨g3, h⟩ := qc_gd_of h
    refine qd_iast 7200 (qc_at qkX12_patch 18 rfl) hn rfl (qc_inb_in g3) rfl ?_
    obtain ⟨rfl, rfl, rfl, rfl, rfl⟩ := qc_some5 h
    exact ⟨qc_fm.rf _, qc_vret (qc_at qkX12_patch 19 rfl) rfl (Nat.le_refl _) (Nat.le_refl _) (qc_eq.rf _ _ _)⟩
def fX12_becomes (w : qcW) (I : qTI) (L : qTL) (D : qTD) (R : qTR) (x1 : Int32) (x2 : Int32) : qcO Unit :=
  (if x1 = x2 then (some ((), I, L, D, R)) else (qc_bd (fX12_emit w I L D R (((1600 : Int32) + ((10 : Int32) * x1)) + x2) (0 : Int32)) fun r2 I2 L2 D2 R2 => some ((), I2, L2, D2, R2)))
set_option maxRecDepth 100000 in
set_option maxHeartbeats 4000000 in
theorem tX12_becomes {w : qcW} {I : qTI} {L : qTL} {D : qTD} {R : qTR} {x1 : Int32} {x2 : Int32} {r : Unit} {I' : qTI} {L' : qTL} {D' : qTD} {R' : qTR} (hn : qcNF ≤ w.1) (hR : qc_FR R) (h : fX12_becomes w I L D R x1 x2 = some (r, I', L', D', R')) : qc_fm qcSM (I, L, D, R) (I', L', D', R') ∧ qc_V (2) 0 0 qmX12_becomes [.ref 291, .int x1, .int x2] w (I, L, D, R) (qc_eq none w (I', L', D', R')) := by
  unfold fX12_becomes at h
  refine And.imp_right (fun hx => qc_V.of rfl rfl (Nat.le_of_ble_eq_true rfl) (lv := [(0, .ref 291), (1, .int x1), (2, .int x2)]) rfl hx) ?_
  refine And.imp_right (fun hx => qc_iload_n (qc_at qkX12_becomes 0 rfl) rfl <| qc_iload_n (qc_at qkX12_becomes 1 rfl) rfl <| hx) ?_
  refine qc_andC (qc_icmp_eq (qc_at qkX12_becomes 2 rfl)) (fun u1 => ?_) (fun u1 => ?_)
  · replace h := qc_jp u1 h
    obtain ⟨rfl, rfl, rfl, rfl, rfl⟩ := qc_some5 h
    exact ⟨qc_fm.rf _, qc_vret (qc_at qkX12_becomes 13 rfl) rfl (Nat.le_refl _) (Nat.le_refl _) (qc_eq.rf _ _ _)⟩
  · replace h := qc_jn u1 h
    refine And.imp_right (fun hx => qc_aload_n (qc_at qkX12_becomes 3 rfl) rfl <| qc_sipush (qc_at qkX12_becomes 4 rfl) <| qc_bipush (qc_at qkX12_becomes 5 rfl) <| qc_iload_n (qc_at qkX12_becomes 6 rfl) rfl <| qc_imul (qc_at qkX12_becomes 7 rfl) <| qc_iadd (qc_at qkX12_becomes 8 rfl) <| qc_iload_n (qc_at qkX12_becomes 9 rfl) rfl <| qc_iadd (qc_at qkX12_becomes 10 rfl) <| qc_iconst (qc_at qkX12_becomes 11 rfl) <| hx) ?_
    obtain ⟨r2, I2, L2, D2, R2, e2, h⟩ := qc_bd_of h
    have c2 := (tX12_emit hn hR e2)
    refine qd_cVn (ci := 10) (a0 := 291) (qc_at qkX12_becomes 12 rfl) ql_12_478 qfX12_emit (qc_kf hn rfl) rfl c2 rfl rfl (Nat.le_of_ble_eq_true rfl) (qc_rml (by decide) (by decide)) ⟨Nat.zero_le _, Nat.zero_le _⟩ ?_
    obtain ⟨rfl, rfl, rfl, rfl, rfl⟩ := qc_some5 h
    exact ⟨qc_fm.rf _, qc_vret (qc_at qkX12_becomes 13 rfl) rfl (Nat.le_refl _) (Nat.le_refl _) (qc_eq.rf _ _ _)⟩
def fX12_casts_b31 (w : qcW) (I : qTI) (L : qTL) (D : qTD) (R : qTR) (x2 : Int32) (s0 : Int32) (s1 : Int32) : qcO Unit :=
  (qc_bd (fX12_becomes w I L D R s1 s0) fun r1 I1 L1 D1 R1 => if (4 : Int32) ≤ x2 then (some ((), I1, L1, D1, R1)) else (qc_bd (fX12_emit w I1 L1 D1 R1 ((1650 : Int32) + x2) (0 : Int32)) fun r3 I3 L3 D3 R3 => some ((), I3, L3, D3, R3)))
set_option maxRecDepth 100000 in
set_option maxHeartbeats 4000000 in
theorem tX12_casts_b31 {w : qcW} {I : qTI} {L : qTL} {D : qTD} {R : qTR} {x2 : Int32} {s0 : Int32} {s1 : Int32} {r : Unit} {I' : qTI} {L' : qTL} {D' : qTD} {R' : qTR} (hn : qcNF ≤ w.1) (hR : qc_FR R) (h : fX12_casts_b31 w I L D R x2 s0 s1 = some (r, I', L', D', R')) : qc_fm qcSM (I, L, D, R) (I', L', D', R') ∧ qc_X (qc_rm (3) 0 0) qmX12_casts (qc_QM 0 0 (qc_eq none w (I', L', D', R'))) 0 0 w (31, [(0, .ref 291), (2, .int x2)], [.int s0, .int s1, .ref 291], I, L, D, R) := by
  unfold fX12_casts_b31 at h
  obtain ⟨r1, I1, L1, D1, R1, e1, h⟩ := qc_bd_of h
  have c1 := (tX12_becomes hn hR e1)
  refine qd_cVn (ci := 10) (a0 := 291) (qc_at qkX12_casts 18 rfl) ql_12_481 qfX12_becomes (qc_kf hn rfl) rfl c1 rfl rfl (Nat.le_of_ble_eq_true rfl) (qc_rml (by decide) (by decide)) ⟨Nat.zero_le _, Nat.zero_le _⟩ ?_
  refine And.imp_right (fun hx => qc_iload_n (qc_at qkX12_casts 19 rfl) rfl <| qc_iconst (qc_at qkX12_casts 20 rfl) <| hx) ?_
  refine qc_andC (qc_icmp_ge (qc_at qkX12_casts 21 rfl)) (fun u2 => ?_) (fun u2 => ?_)
  · replace h := qc_jp u2 h
    obtain ⟨rfl, rfl, rfl, rfl, rfl⟩ := qc_some5 h
    exact ⟨qc_fm.rf _, qc_vret (qc_at qkX12_casts 28 rfl) rfl (Nat.le_refl _) (Nat.le_refl _) (qc_eq.rf _ _ _)⟩
  · replace h := qc_jn u2 h
    refine And.imp_right (fun hx => qc_aload_n (qc_at qkX12_casts 22 rfl) rfl <| qc_sipush (qc_at qkX12_casts 23 rfl) <| qc_iload_n (qc_at qkX12_casts 24 rfl) rfl <| qc_iadd (qc_at qkX12_casts 25 rfl) <| qc_iconst (qc_at qkX12_casts 26 rfl) <| hx) ?_
    obtain ⟨r3, I3, L3, D3, R3, e3, h⟩ := qc_bd_of h
    have c3 := (tX12_emit hn (c1.1.1 hR) e3)
    refine qd_cVn (ci := 10) (a0 := 291) (qc_at qkX12_casts 27 rfl) ql_12_478 qfX12_emit (qc_kf hn rfl) rfl c3 rfl rfl (Nat.le_of_ble_eq_true rfl) (qc_rml (by decide) (by decide)) ⟨Nat.zero_le _, Nat.zero_le _⟩ ?_
    obtain ⟨rfl, rfl, rfl, rfl, rfl⟩ := qc_some5 h
    exact ⟨qc_fm.rf _, qc_vret (qc_at qkX12_casts 28 rfl) rfl (Nat.le_refl _) (Nat.le_refl _) (qc_eq.rf _ _ _)⟩
def fX12_casts (w : qcW) (I : qTI) (L : qTL) (D : qTD) (R : qTR) (x1 : Int32) (x2 : Int32) : qcO Unit :=
  (if (5 : Int32) ≤ x2 then (if x2 = (5 : Int32) then (fX12_casts_b31 w I L D R x2 (2 : Int32) x1) else (if x2 = (6 : Int32) then (fX12_casts_b31 w I L D R x2 (3 : Int32) x1) else (fX12_casts_b31 w I L D R x2 (4 : Int32) x1))) else (fX12_casts_b31 w I L D R x2 (1 : Int32) x1))
set_option maxRecDepth 100000 in
set_option maxHeartbeats 4000000 in
theorem tX12_casts {w : qcW} {I : qTI} {L : qTL} {D : qTD} {R : qTR} {x1 : Int32} {x2 : Int32} {r : Unit} {I' : qTI} {L' : qTL} {D' : qTD} {R' : qTR} (hn : qcNF ≤ w.1) (hR : qc_FR R) (h : fX12_casts w I L D R x1 x2 = some (r, I', L', D', R')) : qc_fm qcSM (I, L, D, R) (I', L', D', R') ∧ qc_V (3) 0 0 qmX12_casts [.ref 291, .int x1, .int x2] w (I, L, D, R) (qc_eq none w (I', L', D', R')) := by
  unfold fX12_casts at h
  refine And.imp_right (fun hx => qc_V.of rfl rfl (Nat.le_of_ble_eq_true rfl) (lv := [(0, .ref 291), (1, .int x1), (2, .int x2)]) rfl hx) ?_
  refine And.imp_right (fun hx => qc_aload_n (qc_at qkX12_casts 0 rfl) rfl <| qc_iload_n (qc_at qkX12_casts 1 rfl) rfl <| qc_iload_n (qc_at qkX12_casts 2 rfl) rfl <| qc_iconst (qc_at qkX12_casts 3 rfl) <| hx) ?_
  refine qc_andC (qc_icmp_ge (qc_at qkX12_casts 4 rfl)) (fun u4 => ?_) (fun u4 => ?_)
  · replace h := qc_jp u4 h
    refine And.imp_right (fun hx => qc_iload_n (qc_at qkX12_casts 7 rfl) rfl <| qc_iconst (qc_at qkX12_casts 8 rfl) <| hx) ?_
    refine qc_andN (qc_icmp_ne (qc_at qkX12_casts 9 rfl)) (fun u5 => ?_) (fun u5 => ?_)
    · replace h := qc_jn u5 h
      refine And.imp_right (fun hx => qc_iload_n (qc_at qkX12_casts 12 rfl) rfl <| qc_bipush (qc_at qkX12_casts 13 rfl) <| hx) ?_
      refine qc_andN (qc_icmp_ne (qc_at qkX12_casts 14 rfl)) (fun u6 => ?_) (fun u6 => ?_)
      · replace h := qc_jn u6 h
        exact And.imp_right (fun hx => qc_iconst (qc_at qkX12_casts 17 rfl) <| qc_sub [0, 2] rfl hx) (tX12_casts_b31 hn hR h)
      · replace h := qc_jp u6 h
        exact And.imp_right (fun hx => qc_iconst (qc_at qkX12_casts 15 rfl) <| qc_goto (qc_at qkX12_casts 16 rfl) <| qc_sub [0, 2] rfl hx) (tX12_casts_b31 hn hR h)
    · replace h := qc_jp u5 h
      exact And.imp_right (fun hx => qc_iconst (qc_at qkX12_casts 10 rfl) <| qc_goto (qc_at qkX12_casts 11 rfl) <| qc_sub [0, 2] rfl hx) (tX12_casts_b31 hn hR h)
  · replace h := qc_jn u4 h
    exact And.imp_right (fun hx => qc_iconst (qc_at qkX12_casts 5 rfl) <| qc_goto (qc_at qkX12_casts 6 rfl) <| qc_sub [0, 2] rfl hx) (tX12_casts_b31 hn hR h)
def fX12_kindOp (w : qcW) (I : qTI) (L : qTL) (D : qTD) (R : qTR) (x0 : Int32) : qcO Int32 :=
  (if x0 = 0 then (some ((1 : Int32), I, L, D, R)) else (some (x0, I, L, D, R)))
set_option maxRecDepth 100000 in
set_option maxHeartbeats 4000000 in
theorem tX12_kindOp {w : qcW} {I : qTI} {L : qTL} {D : qTD} {R : qTR} {x0 : Int32} {r : Int32} {I' : qTI} {L' : qTL} {D' : qTD} {R' : qTR} (hn : qcNF ≤ w.1) (hR : qc_FR R) (h : fX12_kindOp w I L D R x0 = some (r, I', L', D', R')) : qc_fm qcSM (I, L, D, R) (I', L', D', R') ∧ qc_V (0) 0 0 qmX12_kindOp [.int x0] w (I, L, D, R) (qc_eq (some (.int r)) w (I', L', D', R')) := by
  unfold fX12_kindOp at h
  refine And.imp_right (fun hx => qc_V.of rfl rfl (Nat.le_of_ble_eq_true rfl) (lv := [(0, .int x0)]) rfl hx) ?_
  refine And.imp_right (fun hx => qc_iload_n (qc_at qkX12_kindOp 0 rfl) rfl <| hx) ?_
  refine qc_andN (qc_if_ne (qc_at qkX12_kindOp 1 rfl)) (fun u1 => ?_) (fun u1 => ?_)
  · replace h := qc_jn u1 h
    obtain ⟨rfl, rfl, rfl, rfl, rfl⟩ := qc_some5 h
    exact ⟨qc_fm.rf _, qc_iload_n (qc_at qkX12_kindOp 4 rfl) rfl <| qc_iret (qc_at qkX12_kindOp 5 rfl) rfl (Nat.le_refl _) (Nat.le_refl _) (qc_eq.rf _ _ _)⟩
  · replace h := qc_jp u1 h
    obtain ⟨rfl, rfl, rfl, rfl, rfl⟩ := qc_some5 h
    exact ⟨qc_fm.rf _, qc_iconst (qc_at qkX12_kindOp 2 rfl) <| qc_goto (qc_at qkX12_kindOp 3 rfl) <| qc_iret (qc_at qkX12_kindOp 5 rfl) rfl (Nat.le_refl _) (Nat.le_refl _) (qc_eq.rf _ _ _)⟩
def fX12_task (w : qcW) (I : qTI) (L : qTL) (D : qTD) (R : qTR) (x1 : Int32) (x2 : Int32) (x3 : Int32) : qcO Unit :=
  (qc_gd (qc_inb (I 291 52) 2000) <| qc_gd (qc_inb ((qc_u I 324 (Int32.toNatClampNeg (I 291 52)) x1) 291 52) 2000) <| qc_gd (qc_inb ((qc_u (qc_u I 324 (Int32.toNatClampNeg (I 291 52)) x1) 325 (Int32.toNatClampNeg ((qc_u I 324 (Int32.toNatClampNeg (I 291 52)) x1) 291 52)) x2) 291 52) 2000) <| some ((), (qc_u (qc_u (qc_u (qc_u I 324 (Int32.toNatClampNeg (I 291 52)) x1) 325 (Int32.toNatClampNeg ((qc_u I 324 (Int32.toNatClampNeg (I 291 52)) x1) 291 52)) x2) 326 (Int32.toNatClampNeg ((qc_u (qc_u I 324 (Int32.toNatClampNeg (I 291 52)) x1) 325 (Int32.toNatClampNeg ((qc_u I 324 (Int32.toNatClampNeg (I 291 52)) x1) 291 52)) x2) 291 52)) x3) 291 52 (((qc_u (qc_u (qc_u I 324 (Int32.toNatClampNeg (I 291 52)) x1) 325 (Int32.toNatClampNeg ((qc_u I 324 (Int32.toNatClampNeg (I 291 52)) x1) 291 52)) x2) 326 (Int32.toNatClampNeg ((qc_u (qc_u I 324 (Int32.toNatClampNeg (I 291 52)) x1) 325 (Int32.toNatClampNeg ((qc_u I 324 (Int32.toNatClampNeg (I 291 52)) x1) 291 52)) x2) 291 52)) x3) 291 52) + (1 : Int32))), L, D, R))
set_option maxRecDepth 100000 in
set_option maxHeartbeats 4000000 in
theorem tX12_task {w : qcW} {I : qTI} {L : qTL} {D : qTD} {R : qTR} {x1 : Int32} {x2 : Int32} {x3 : Int32} {r : Unit} {I' : qTI} {L' : qTL} {D' : qTD} {R' : qTR} (hn : qcNF ≤ w.1) (hR : qc_FR R) (h : fX12_task w I L D R x1 x2 x3 = some (r, I', L', D', R')) : qc_fm qcSM (I, L, D, R) (I', L', D', R') ∧ qc_V (0) 0 0 qmX12_task [.ref 291, .int x1, .int x2, .int x3] w (I, L, D, R) (qc_eq none w (I', L', D', R')) := by
  unfold fX12_task at h
  refine And.imp_right (fun hx => qc_V.of rfl rfl (Nat.le_of_ble_eq_true rfl) (lv := [(0, .ref 291), (1, .int x1), (2, .int x2), (3, .int x3)]) rfl hx) ?_
  refine And.imp_right (fun hx => qc_aload_n (qc_at qkX12_task 0 rfl) rfl <| qc_gR (qc_at qkX12_task 1 rfl) hn rfl (qfr_291_53 hR) rfl <| qc_aload_n (qc_at qkX12_task 2 rfl) rfl <| qc_gI (qc_at qkX12_task 3 rfl) hn rfl <| qc_iload_n (qc_at qkX12_task 4 rfl) rfl <| hx) ?_
  obtain ⟨g1, h⟩ := qc_gd_of h
  refine qd_iast 2000 (qc_at qkX12_task 5 rfl) hn rfl (qc_inb_in g1) rfl ?_
  refine And.imp_right (fun hx => qc_aload_n (qc_at qkX12_task 6 rfl) rfl <| qc_gR (qc_at qkX12_task 7 rfl) hn rfl (qfr_291_54 hR) rfl <| qc_aload_n (qc_at qkX12_task 8 rfl) rfl <| qc_gI (qc_at qkX12_task 9 rfl) hn rfl <| qc_iload_n (qc_at qkX12_task 10 rfl) rfl <| hx) ?_
  obtain ⟨g2, h⟩ := qc_gd_of h
  refine qd_iast 2000 (qc_at qkX12_task 11 rfl) hn rfl (qc_inb_in g2) rfl ?_
  refine And.imp_right (fun hx => qc_aload_n (qc_at qkX12_task 12 rfl) rfl <| qc_gR (qc_at qkX12_task 13 rfl) hn rfl (qfr_291_55 hR) rfl <| qc_aload_n (qc_at qkX12_task 14 rfl) rfl <| qc_gI (qc_at qkX12_task 15 rfl) hn rfl <| qc_iload_n (qc_at qkX12_task 16 rfl) rfl <| hx) ?_
  obtain ⟨g3, h⟩ := qc_gd_of h
  refine qd_iast 2000 (qc_at qkX12_task 17 rfl) hn rfl (qc_inb_in g3) rfl ?_
  refine And.imp_right (fun hx => qc_aload_n (qc_at qkX12_task 18 rfl) rfl <| qc_dup (qc_at qkX12_task 19 rfl) rfl <| qc_gI (qc_at qkX12_task 20 rfl) hn rfl <| qc_iconst (qc_at qkX12_task 21 rfl) <| qc_iadd (qc_at qkX12_task 22 rfl) <| hx) (qd_pI (qc_at qkX12_task 23 rfl) hn rfl rfl ?_)
  obtain ⟨rfl, rfl, rfl, rfl, rfl⟩ := qc_some5 h
  exact ⟨qc_fm.rf _, qc_vret (qc_at qkX12_task 24 rfl) rfl (Nat.le_refl _) (Nat.le_refl _) (qc_eq.rf _ _ _)⟩
def fX12_taskOfKind (w : qcW) (I : qTI) (L : qTL) (D : qTD) (R : qTR) (x1 : Int32) (x2 : Int32) : qcO Unit :=
  (qc_gd (qc_inb x1 420) <| qc_bd (fX12_task w I L D R (1 : Int32) (I 303 (Int32.toNatClampNeg x1)) x2) fun r2 I2 L2 D2 R2 => qc_bd (fX12_task w I2 L2 D2 R2 (0 : Int32) x1 (0 : Int32)) fun r3 I3 L3 D3 R3 => some ((), I3, L3, D3, R3))
set_option maxRecDepth 100000 in
set_option maxHeartbeats 4000000 in
theorem tX12_taskOfKind {w : qcW} {I : qTI} {L : qTL} {D : qTD} {R : qTR} {x1 : Int32} {x2 : Int32} {r : Unit} {I' : qTI} {L' : qTL} {D' : qTD} {R' : qTR} (hn : qcNF ≤ w.1) (hR : qc_FR R) (h : fX12_taskOfKind w I L D R x1 x2 = some (r, I', L', D', R')) : qc_fm qcSM (I, L, D, R) (I', L', D', R') ∧ qc_V (1) 0 0 qmX12_taskOfKind [.ref 291, .int x1, .int x2] w (I, L, D, R) (qc_eq none w (I', L', D', R')) := by
  unfold fX12_taskOfKind at h
  refine And.imp_right (fun hx => qc_V.of rfl rfl (Nat.le_of_ble_eq_true rfl) (lv := [(0, .ref 291), (1, .int x1), (2, .int x2)]) rfl hx) ?_
  refine And.imp_right (fun hx => qc_aload_n (qc_at qkX12_taskOfKind 0 rfl) rfl <| qc_iconst (qc_at qkX12_taskOfKind 1 rfl) <| qc_aload_n (qc_at qkX12_taskOfKind 2 rfl) rfl <| qc_gR (qc_at qkX12_taskOfKind 3 rfl) hn rfl (qfr_291_23 hR) rfl <| qc_iload_n (qc_at qkX12_taskOfKind 4 rfl) rfl <| hx) ?_
  obtain ⟨g1, h⟩ := qc_gd_of h
  refine And.imp_right (fun hx => qc_iald 420 (qc_at qkX12_taskOfKind 5 rfl) hn rfl (qc_inb_in g1) <| qc_iload_n (qc_at qkX12_taskOfKind 6 rfl) rfl <| hx) ?_
  obtain ⟨r2, I2, L2, D2, R2, e2, h⟩ := qc_bd_of h
  have c2 := (tX12_task hn hR e2)
  refine qd_cVn (ci := 10) (a0 := 291) (qc_at qkX12_taskOfKind 7 rfl) ql_12_487 qfX12_task (qc_kf hn rfl) rfl c2 rfl rfl (Nat.le_of_ble_eq_true rfl) (qc_rml (by decide) (by decide)) ⟨Nat.zero_le _, Nat.zero_le _⟩ ?_
  refine And.imp_right (fun hx => qc_aload_n (qc_at qkX12_taskOfKind 8 rfl) rfl <| qc_iconst (qc_at qkX12_taskOfKind 9 rfl) <| qc_iload_n (qc_at qkX12_taskOfKind 10 rfl) rfl <| qc_iconst (qc_at qkX12_taskOfKind 11 rfl) <| hx) ?_
  obtain ⟨r3, I3, L3, D3, R3, e3, h⟩ := qc_bd_of h
  have c3 := (tX12_task hn (c2.1.1 hR) e3)
  refine qd_cVn (ci := 10) (a0 := 291) (qc_at qkX12_taskOfKind 12 rfl) ql_12_487 qfX12_task (qc_kf hn rfl) rfl c3 rfl rfl (Nat.le_of_ble_eq_true rfl) (qc_rml (by decide) (by decide)) ⟨Nat.zero_le _, Nat.zero_le _⟩ ?_
  obtain ⟨rfl, rfl, rfl, rfl, rfl⟩ := qc_some5 h
  exact ⟨qc_fm.rf _, qc_vret (qc_at qkX12_taskOfKind 13 rfl) rfl (Nat.le_refl _) (Nat.le_refl _) (qc_eq.rf _ _ _)⟩
def fX12_unfoldJumps_b137 (w : qcW) (I : qTI) (L : qTL) (D : qTD) (R : qTR) (x1 : Int32) (x2 : Int32) (s0 : Int32) (s1 : Int32) : qcO Unit :=
  (qc_bd (fX12_task w I L D R s1 s0 ((2 : Int32) * x1)) fun r1 I1 L1 D1 R1 => qc_bd (fX12_task w I1 L1 D1 R1 (0 : Int32) x2 (0 : Int32)) fun r2 I2 L2 D2 R2 => some ((), I2, L2, D2, R2))
set_option maxRecDepth 100000 in
set_option maxHeartbeats 4000000 in
theorem tX12_unfoldJumps_b137 {w : qcW} {I : qTI} {L : qTL} {D : qTD} {R : qTR} {x1 : Int32} {x2 : Int32} {s0 : Int32} {s1 : Int32} {r : Unit} {I' : qTI} {L' : qTL} {D' : qTD} {R' : qTR} (hn : qcNF ≤ w.1) (hR : qc_FR R) (h : fX12_unfoldJumps_b137 w I L D R x1 x2 s0 s1 = some (r, I', L', D', R')) : qc_fm qcSM (I, L, D, R) (I', L', D', R') ∧ qc_X (qc_rm (2) 0 0) qmX12_unfoldJumps (qc_QM 0 0 (qc_eq none w (I', L', D', R'))) 0 0 w (137, [(0, .ref 291), (1, .int x1), (2, .int x2)], [.int s0, .int s1, .ref 291], I, L, D, R) := by
  unfold fX12_unfoldJumps_b137 at h
  refine And.imp_right (fun hx => qc_iconst (qc_at qkX12_unfoldJumps 81 rfl) <| qc_iload_n (qc_at qkX12_unfoldJumps 82 rfl) rfl <| qc_imul (qc_at qkX12_unfoldJumps 83 rfl) <| hx) ?_
  obtain ⟨r1, I1, L1, D1, R1, e1, h⟩ := qc_bd_of h
  have c1 := (tX12_task hn hR e1)
  refine qd_cVn (ci := 10) (a0 := 291) (qc_at qkX12_unfoldJumps 84 rfl) ql_12_487 qfX12_task (qc_kf hn rfl) rfl c1 rfl rfl (Nat.le_of_ble_eq_true rfl) (qc_rml (by decide) (by decide)) ⟨Nat.zero_le _, Nat.zero_le _⟩ ?_
  refine And.imp_right (fun hx => qc_aload_n (qc_at qkX12_unfoldJumps 85 rfl) rfl <| qc_iconst (qc_at qkX12_unfoldJumps 86 rfl) <| qc_iload_n (qc_at qkX12_unfoldJumps 87 rfl) rfl <| qc_iconst (qc_at qkX12_unfoldJumps 88 rfl) <| hx) ?_
  obtain ⟨r2, I2, L2, D2, R2, e2, h⟩ := qc_bd_of h
  have c2 := (tX12_task hn (c1.1.1 hR) e2)
  refine qd_cVn (ci := 10) (a0 := 291) (qc_at qkX12_unfoldJumps 89 rfl) ql_12_487 qfX12_task (qc_kf hn rfl) rfl c2 rfl rfl (Nat.le_of_ble_eq_true rfl) (qc_rml (by decide) (by decide)) ⟨Nat.zero_le _, Nat.zero_le _⟩ ?_
  obtain ⟨rfl, rfl, rfl, rfl, rfl⟩ := qc_some5 h
  exact ⟨qc_fm.rf _, qc_vret (qc_at qkX12_unfoldJumps 90 rfl) rfl (Nat.le_refl _) (Nat.le_refl _) (qc_eq.rf _ _ _)⟩
def fX12_unfoldJumps_b121 (w : qcW) (I : qTI) (L : qTL) (D : qTD) (R : qTR) (x1 : Int32) (x2 : Int32) (x5 : Int32) : qcO Unit :=
  (if x5 = 0 then (fX12_unfoldJumps_b137 w I L D R x1 x2 (1800 : Int32) (3 : Int32)) else (fX12_unfoldJumps_b137 w I L D R x1 x2 (1801 : Int32) (3 : Int32)))
set_option maxRecDepth 100000 in
set_option maxHeartbeats 4000000 in
theorem tX12_unfoldJumps_b121 {w : qcW} {I : qTI} {L : qTL} {D : qTD} {R : qTR} {x1 : Int32} {x2 : Int32} {x5 : Int32} {r : Unit} {I' : qTI} {L' : qTL} {D' : qTD} {R' : qTR} (hn : qcNF ≤ w.1) (hR : qc_FR R) (h : fX12_unfoldJumps_b121 w I L D R x1 x2 x5 = some (r, I', L', D', R')) : qc_fm qcSM (I, L, D, R) (I', L', D', R') ∧ qc_X (qc_rm (2) 0 0) qmX12_unfoldJumps (qc_QM 0 0 (qc_eq none w (I', L', D', R'))) 0 0 w (121, [(0, .ref 291), (1, .int x1), (2, .int x2), (5, .int x5)], [], I, L, D, R) := by
  unfold fX12_unfoldJumps_b121 at h
  refine And.imp_right (fun hx => qc_aload_n (qc_at qkX12_unfoldJumps 74 rfl) rfl <| qc_iconst (qc_at qkX12_unfoldJumps 75 rfl) <| qc_iload (qc_at qkX12_unfoldJumps 76 rfl) rfl <| hx) ?_
  refine qc_andC (qc_if_eq (qc_at qkX12_unfoldJumps 77 rfl)) (fun u3 => ?_) (fun u3 => ?_)
  · replace h := qc_jp u3 h
    exact And.imp_right (fun hx => qc_sipush (qc_at qkX12_unfoldJumps 80 rfl) <| qc_sub [0, 1, 2] rfl hx) (tX12_unfoldJumps_b137 hn hR h)
  · replace h := qc_jn u3 h
    exact And.imp_right (fun hx => qc_sipush (qc_at qkX12_unfoldJumps 78 rfl) <| qc_goto (qc_at qkX12_unfoldJumps 79 rfl) <| qc_sub [0, 1, 2] rfl hx) (tX12_unfoldJumps_b137 hn hR h)
def fX12_unfoldJumps_b71 (w : qcW) (I : qTI) (L : qTL) (D : qTD) (R : qTR) (x1 : Int32) (x2 : Int32) (x3 : Int32) (x4 : Int32) (x5 : Int32) : qcO Unit :=
  (qc_bd (fX12_task w I L D R (4 : Int32) ((2 : Int32) * x1) (0 : Int32)) fun r4 I4 L4 D4 R4 => qc_bd (fX12_task w I4 L4 D4 R4 (3 : Int32) (1802 : Int32) (((2 : Int32) * x1) + (1 : Int32))) fun r5 I5 L5 D5 R5 => qc_gd (qc_inb x1 420) <| if (I5 298 (Int32.toNatClampNeg x1)) = (13 : Int32) then (qc_bd (fX12_taskOfKind w I5 L5 D5 R5 x3 x4) fun r9 I9 L9 D9 R9 => fX12_unfoldJumps_b121 w I9 L9 D9 R9 x1 x2 x5) else (qc_bd (fX12_task w I5 L5 D5 R5 (0 : Int32) x3 (0 : Int32)) fun r8 I8 L8 D8 R8 => fX12_unfoldJumps_b121 w I8 L8 D8 R8 x1 x2 x5))
set_option maxRecDepth 100000 in
set_option maxHeartbeats 4000000 in
theorem tX12_unfoldJumps_b71 {w : qcW} {I : qTI} {L : qTL} {D : qTD} {R : qTR} {x1 : Int32} {x2 : Int32} {x3 : Int32} {x4 : Int32} {x5 : Int32} {r : Unit} {I' : qTI} {L' : qTL} {D' : qTD} {R' : qTR} (hn : qcNF ≤ w.1) (hR : qc_FR R) (h : fX12_unfoldJumps_b71 w I L D R x1 x2 x3 x4 x5 = some (r, I', L', D', R')) : qc_fm qcSM (I, L, D, R) (I', L', D', R') ∧ qc_X (qc_rm (2) 0 0) qmX12_unfoldJumps (qc_QM 0 0 (qc_eq none w (I', L', D', R'))) 0 0 w (71, [(0, .ref 291), (1, .int x1), (2, .int x2), (3, .int x3), (4, .int x4), (5, .int x5)], [], I, L, D, R) := by
  unfold fX12_unfoldJumps_b71 at h
  refine And.imp_right (fun hx => qc_aload_n (qc_at qkX12_unfoldJumps 42 rfl) rfl <| qc_iconst (qc_at qkX12_unfoldJumps 43 rfl) <| qc_iconst (qc_at qkX12_unfoldJumps 44 rfl) <| qc_iload_n (qc_at qkX12_unfoldJumps 45 rfl) rfl <| qc_imul (qc_at qkX12_unfoldJumps 46 rfl) <| qc_iconst (qc_at qkX12_unfoldJumps 47 rfl) <| hx) ?_
  obtain ⟨r4, I4, L4, D4, R4, e4, h⟩ := qc_bd_of h
  have c4 := (tX12_task hn hR e4)
  refine qd_cVn (ci := 10) (a0 := 291) (qc_at qkX12_unfoldJumps 48 rfl) ql_12_487 qfX12_task (qc_kf hn rfl) rfl c4 rfl rfl (Nat.le_of_ble_eq_true rfl) (qc_rml (by decide) (by decide)) ⟨Nat.zero_le _, Nat.zero_le _⟩ ?_
  refine And.imp_right (fun hx => qc_aload_n (qc_at qkX12_unfoldJumps 49 rfl) rfl <| qc_iconst (qc_at qkX12_unfoldJumps 50 rfl) <| qc_sipush (qc_at qkX12_unfoldJumps 51 rfl) <| qc_iconst (qc_at qkX12_unfoldJumps 52 rfl) <| qc_iload_n (qc_at qkX12_unfoldJumps 53 rfl) rfl <| qc_imul (qc_at qkX12_unfoldJumps 54 rfl) <| qc_iconst (qc_at qkX12_unfoldJumps 55 rfl) <| qc_iadd (qc_at qkX12_unfoldJumps 56 rfl) <| hx) ?_
  obtain ⟨r5, I5, L5, D5, R5, e5, h⟩ := qc_bd_of h
  have c5 := (tX12_task hn (c4.1.1 hR) e5)
  refine qd_cVn (ci := 10) (a0 := 291) (qc_at qkX12_unfoldJumps 57 rfl) ql_12_487 qfX12_task (qc_kf hn rfl) rfl c5 rfl rfl (Nat.le_of_ble_eq_true rfl) (qc_rml (by decide) (by decide)) ⟨Nat.zero_le _, Nat.zero_le _⟩ ?_
  refine And.imp_right (fun hx => qc_aload_n (qc_at qkX12_unfoldJumps 58 rfl) rfl <| qc_gR (qc_at qkX12_unfoldJumps 59 rfl) hn rfl (qfr_291_18 (c5.1.1 (c4.1.1 hR))) rfl <| qc_iload_n (qc_at qkX12_unfoldJumps 60 rfl) rfl <| hx) ?_
  obtain ⟨g6, h⟩ := qc_gd_of h
  refine And.imp_right (fun hx => qc_iald 420 (qc_at qkX12_unfoldJumps 61 rfl) hn rfl (qc_inb_in g6) <| qc_bipush (qc_at qkX12_unfoldJumps 62 rfl) <| hx) ?_
  refine qc_andN (qc_icmp_ne (qc_at qkX12_unfoldJumps 63 rfl)) (fun u7 => ?_) (fun u7 => ?_)
  · replace h := qc_jn u7 h
    refine And.imp_right (fun hx => qc_aload_n (qc_at qkX12_unfoldJumps 69 rfl) rfl <| qc_iconst (qc_at qkX12_unfoldJumps 70 rfl) <| qc_iload_n (qc_at qkX12_unfoldJumps 71 rfl) rfl <| qc_iconst (qc_at qkX12_unfoldJumps 72 rfl) <| hx) ?_
    obtain ⟨r8, I8, L8, D8, R8, e8, h⟩ := qc_bd_of h
    have c8 := (tX12_task hn (c5.1.1 (c4.1.1 hR)) e8)
    refine qd_cVn (ci := 10) (a0 := 291) (qc_at qkX12_unfoldJumps 73 rfl) ql_12_487 qfX12_task (qc_kf hn rfl) rfl c8 rfl rfl (Nat.le_of_ble_eq_true rfl) (qc_rml (by decide) (by decide)) ⟨Nat.zero_le _, Nat.zero_le _⟩ ?_
    exact And.imp_right (fun hx => qc_sub [0, 1, 2, 5] rfl hx) (tX12_unfoldJumps_b121 hn (c8.1.1 (c5.1.1 (c4.1.1 hR))) h)
  · replace h := qc_jp u7 h
    refine And.imp_right (fun hx => qc_aload_n (qc_at qkX12_unfoldJumps 64 rfl) rfl <| qc_iload_n (qc_at qkX12_unfoldJumps 65 rfl) rfl <| qc_iload (qc_at qkX12_unfoldJumps 66 rfl) rfl <| hx) ?_
    obtain ⟨r9, I9, L9, D9, R9, e9, h⟩ := qc_bd_of h
    have c9 := (tX12_taskOfKind hn (c5.1.1 (c4.1.1 hR)) e9)
    refine qd_cVn (ci := 10) (a0 := 291) (qc_at qkX12_unfoldJumps 67 rfl) ql_12_503 qfX12_taskOfKind (qc_kf hn rfl) rfl c9 rfl rfl (Nat.le_of_ble_eq_true rfl) (qc_rml (by decide) (by decide)) ⟨Nat.zero_le _, Nat.zero_le _⟩ ?_
    exact And.imp_right (fun hx => qc_goto (qc_at qkX12_unfoldJumps 68 rfl) <| qc_sub [0, 1, 2, 5] rfl hx) (tX12_unfoldJumps_b121 hn (c9.1.1 (c5.1.1 (c4.1.1 hR))) h)
def fX12_unfoldJumps_b68 (w : qcW) (I : qTI) (L : qTL) (D : qTD) (R : qTR) (x1 : Int32) (x2 : Int32) (x3 : Int32) (x4 : Int32) (x5 : Int32) (s0 : Int32) (s1 : Int32) (s2 : Int32) : qcO Unit :=
  (qc_bd (fX12_task w I L D R s2 s1 s0) fun r10 I10 L10 D10 R10 => fX12_unfoldJumps_b71 w I10 L10 D10 R10 x1 x2 x3 x4 x5)
set_option maxRecDepth 100000 in
set_option maxHeartbeats 4000000 in
theorem tX12_unfoldJumps_b68 {w : qcW} {I : qTI} {L : qTL} {D : qTD} {R : qTR} {x1 : Int32} {x2 : Int32} {x3 : Int32} {x4 : Int32} {x5 : Int32} {s0 : Int32} {s1 : Int32} {s2 : Int32} {r : Unit} {I' : qTI} {L' : qTL} {D' : qTD} {R' : qTR} (hn : qcNF ≤ w.1) (hR : qc_FR R) (h : fX12_unfoldJumps_b68 w I L D R x1 x2 x3 x4 x5 s0 s1 s2 = some (r, I', L', D', R')) : qc_fm qcSM (I, L, D, R) (I', L', D', R') ∧ qc_X (qc_rm (2) 0 0) qmX12_unfoldJumps (qc_QM 0 0 (qc_eq none w (I', L', D', R'))) 0 0 w (68, [(0, .ref 291), (1, .int x1), (2, .int x2), (3, .int x3), (4, .int x4), (5, .int x5)], [.int s0, .int s1, .int s2, .ref 291], I, L, D, R) := by
  unfold fX12_unfoldJumps_b68 at h
  obtain ⟨r10, I10, L10, D10, R10, e10, h⟩ := qc_bd_of h
  have c10 := (tX12_task hn hR e10)
  refine qd_cVn (ci := 10) (a0 := 291) (qc_at qkX12_unfoldJumps 41 rfl) ql_12_487 qfX12_task (qc_kf hn rfl) rfl c10 rfl rfl (Nat.le_of_ble_eq_true rfl) (qc_rml (by decide) (by decide)) ⟨Nat.zero_le _, Nat.zero_le _⟩ ?_
  exact And.imp_right (fun hx => qc_sub [0, 1, 2, 3, 4, 5] rfl hx) (tX12_unfoldJumps_b71 hn (c10.1.1 hR) h)
def fX12_unfoldJumps_b16 (w : qcW) (I : qTI) (L : qTL) (D : qTD) (R : qTR) (x1 : Int32) (x2 : Int32) (x3 : Int32) (x4 : Int32) (s0 : Int32) : qcO Unit :=
  (qc_bd (fX12_task w I L D R (4 : Int32) (((2 : Int32) * x1) + (1 : Int32)) (0 : Int32)) fun r11 I11 L11 D11 R11 => qc_gd (qc_inb x1 420) <| if (I11 298 (Int32.toNatClampNeg x1)) = (13 : Int32) then (qc_gd (qc_inb x1 420) <| qc_bd (fX12_taskOfKind w I11 L11 D11 R11 (I11 301 (Int32.toNatClampNeg x1)) x4) fun r16 I16 L16 D16 R16 => fX12_unfoldJumps_b71 w I16 L16 D16 R16 x1 x2 x3 x4 s0) else (if s0 = 0 then (fX12_unfoldJumps_b68 w I11 L11 D11 R11 x1 x2 x3 x4 s0 (0 : Int32) (1 : Int32) (2 : Int32)) else (fX12_unfoldJumps_b68 w I11 L11 D11 R11 x1 x2 x3 x4 s0 (1 : Int32) (1 : Int32) (2 : Int32))))
set_option maxRecDepth 100000 in
set_option maxHeartbeats 4000000 in
theorem tX12_unfoldJumps_b16 {w : qcW} {I : qTI} {L : qTL} {D : qTD} {R : qTR} {x1 : Int32} {x2 : Int32} {x3 : Int32} {x4 : Int32} {s0 : Int32} {r : Unit} {I' : qTI} {L' : qTL} {D' : qTD} {R' : qTR} (hn : qcNF ≤ w.1) (hR : qc_FR R) (h : fX12_unfoldJumps_b16 w I L D R x1 x2 x3 x4 s0 = some (r, I', L', D', R')) : qc_fm qcSM (I, L, D, R) (I', L', D', R') ∧ qc_X (qc_rm (2) 0 0) qmX12_unfoldJumps (qc_QM 0 0 (qc_eq none w (I', L', D', R'))) 0 0 w (16, [(0, .ref 291), (1, .int x1), (2, .int x2), (3, .int x3), (4, .int x4)], [.int s0], I, L, D, R) := by
  unfold fX12_unfoldJumps_b16 at h
  refine And.imp_right (fun hx => qc_istore (lv' := [(5, _), (0, _), (1, _), (2, _), (3, _), (4, _)]) (qc_at qkX12_unfoldJumps 9 rfl) rfl rfl <| qc_aload_n (qc_at qkX12_unfoldJumps 10 rfl) rfl <| qc_iconst (qc_at qkX12_unfoldJumps 11 rfl) <| qc_iconst (qc_at qkX12_unfoldJumps 12 rfl) <| qc_iload_n (qc_at qkX12_unfoldJumps 13 rfl) rfl <| qc_imul (qc_at qkX12_unfoldJumps 14 rfl) <| qc_iconst (qc_at qkX12_unfoldJumps 15 rfl) <| qc_iadd (qc_at qkX12_unfoldJumps 16 rfl) <| qc_iconst (qc_at qkX12_unfoldJumps 17 rfl) <| hx) ?_
  obtain ⟨r11, I11, L11, D11, R11, e11, h⟩ := qc_bd_of h
  have c11 := (tX12_task hn hR e11)
  refine qd_cVn (ci := 10) (a0 := 291) (qc_at qkX12_unfoldJumps 18 rfl) ql_12_487 qfX12_task (qc_kf hn rfl) rfl c11 rfl rfl (Nat.le_of_ble_eq_true rfl) (qc_rml (by decide) (by decide)) ⟨Nat.zero_le _, Nat.zero_le _⟩ ?_
  refine And.imp_right (fun hx => qc_aload_n (qc_at qkX12_unfoldJumps 19 rfl) rfl <| qc_gR (qc_at qkX12_unfoldJumps 20 rfl) hn rfl (qfr_291_18 (c11.1.1 hR)) rfl <| qc_iload_n (qc_at qkX12_unfoldJumps 21 rfl) rfl <| hx) ?_
  obtain ⟨g12, h⟩ := qc_gd_of h
  refine And.imp_right (fun hx => qc_iald 420 (qc_at qkX12_unfoldJumps 22 rfl) hn rfl (qc_inb_in g12) <| qc_bipush (qc_at qkX12_unfoldJumps 23 rfl) <| hx) ?_
  refine qc_andN (qc_icmp_ne (qc_at qkX12_unfoldJumps 24 rfl)) (fun u13 => ?_) (fun u13 => ?_)
  · replace h := qc_jn u13 h
    refine And.imp_right (fun hx => qc_aload_n (qc_at qkX12_unfoldJumps 33 rfl) rfl <| qc_iconst (qc_at qkX12_unfoldJumps 34 rfl) <| qc_iconst (qc_at qkX12_unfoldJumps 35 rfl) <| qc_iload (qc_at qkX12_unfoldJumps 36 rfl) rfl <| hx) ?_
    refine qc_andC (qc_if_eq (qc_at qkX12_unfoldJumps 37 rfl)) (fun u14 => ?_) (fun u14 => ?_)
    · replace h := qc_jp u14 h
      exact And.imp_right (fun hx => qc_iconst (qc_at qkX12_unfoldJumps 40 rfl) <| qc_sub [1, 2, 3, 4, 5, 0] rfl hx) (tX12_unfoldJumps_b68 hn (c11.1.1 hR) h)
    · replace h := qc_jn u14 h
      exact And.imp_right (fun hx => qc_iconst (qc_at qkX12_unfoldJumps 38 rfl) <| qc_goto (qc_at qkX12_unfoldJumps 39 rfl) <| qc_sub [1, 2, 3, 4, 5, 0] rfl hx) (tX12_unfoldJumps_b68 hn (c11.1.1 hR) h)
  · replace h := qc_jp u13 h
    refine And.imp_right (fun hx => qc_aload_n (qc_at qkX12_unfoldJumps 25 rfl) rfl <| qc_aload_n (qc_at qkX12_unfoldJumps 26 rfl) rfl <| qc_gR (qc_at qkX12_unfoldJumps 27 rfl) hn rfl (qfr_291_21 (c11.1.1 hR)) rfl <| qc_iload_n (qc_at qkX12_unfoldJumps 28 rfl) rfl <| hx) ?_
    obtain ⟨g15, h⟩ := qc_gd_of h
    refine And.imp_right (fun hx => qc_iald 420 (qc_at qkX12_unfoldJumps 29 rfl) hn rfl (qc_inb_in g15) <| qc_iload (qc_at qkX12_unfoldJumps 30 rfl) rfl <| hx) ?_
    obtain ⟨r16, I16, L16, D16, R16, e16, h⟩ := qc_bd_of h
    have c16 := (tX12_taskOfKind hn (c11.1.1 hR) e16)
    refine qd_cVn (ci := 10) (a0 := 291) (qc_at qkX12_unfoldJumps 31 rfl) ql_12_503 qfX12_taskOfKind (qc_kf hn rfl) rfl c16 rfl rfl (Nat.le_of_ble_eq_true rfl) (qc_rml (by decide) (by decide)) ⟨Nat.zero_le _, Nat.zero_le _⟩ ?_
    exact And.imp_right (fun hx => qc_goto (qc_at qkX12_unfoldJumps 32 rfl) <| qc_sub [1, 2, 3, 4, 5, 0] rfl hx) (tX12_unfoldJumps_b71 hn (c16.1.1 (c11.1.1 hR)) h)
def fX12_unfoldJumps (w : qcW) (I : qTI) (L : qTL) (D : qTD) (R : qTR) (x1 : Int32) (x2 : Int32) (x3 : Int32) (x4 : Int32) : qcO Unit :=
  (qc_gd (qc_inb x1 420) <| if (I 298 (Int32.toNatClampNeg x1)) = (11 : Int32) then (fX12_unfoldJumps_b16 w I L D R x1 x2 x3 x4 (1 : Int32)) else (fX12_unfoldJumps_b16 w I L D R x1 x2 x3 x4 (0 : Int32)))
set_option maxRecDepth 100000 in
set_option maxHeartbeats 4000000 in
theorem tX12_unfoldJumps {w : qcW} {I : qTI} {L : qTL} {D : qTD} {R : qTR} {x1 : Int32} {x2 : Int32} {x3 : Int32} {x4 : Int32} {r : Unit} {I' : qTI} {L' : qTL} {D' : qTD} {R' : qTR} (hn : qcNF ≤ w.1) (hR : qc_FR R) (h : fX12_unfoldJumps w I L D R x1 x2 x3 x4 = some (r, I', L', D', R')) : qc_fm qcSM (I, L, D, R) (I', L', D', R') ∧ qc_V (2) 0 0 qmX12_unfoldJumps [.ref 291, .int x1, .int x2, .int x3, .int x4] w (I, L, D, R) (qc_eq none w (I', L', D', R')) := by
  unfold fX12_unfoldJumps at h
  refine And.imp_right (fun hx => qc_V.of rfl rfl (Nat.le_of_ble_eq_true rfl) (lv := [(0, .ref 291), (1, .int x1), (2, .int x2), (3, .int x3), (4, .int x4)]) rfl hx) ?_
  refine And.imp_right (fun hx => qc_aload_n (qc_at qkX12_unfoldJumps 0 rfl) rfl <| qc_gR (qc_at qkX12_unfoldJumps 1 rfl) hn rfl (qfr_291_18 hR) rfl <| qc_iload_n (qc_at qkX12_unfoldJumps 2 rfl) rfl <| hx) ?_
  obtain ⟨g17, h⟩ := qc_gd_of h
  refine And.imp_right (fun hx => qc_iald 420 (qc_at qkX12_unfoldJumps 3 rfl) hn rfl (qc_inb_in g17) <| qc_bipush (qc_at qkX12_unfoldJumps 4 rfl) <| hx) ?_
  refine qc_andN (qc_icmp_ne (qc_at qkX12_unfoldJumps 5 rfl)) (fun u18 => ?_) (fun u18 => ?_)
  · replace h := qc_jn u18 h
    exact And.imp_right (fun hx => qc_iconst (qc_at qkX12_unfoldJumps 8 rfl) <| qc_sub [0, 1, 2, 3, 4] rfl hx) (tX12_unfoldJumps_b16 hn hR h)
  · replace h := qc_jp u18 h
    exact And.imp_right (fun hx => qc_iconst (qc_at qkX12_unfoldJumps 6 rfl) <| qc_goto (qc_at qkX12_unfoldJumps 7 rfl) <| qc_sub [0, 1, 2, 3, 4] rfl hx) (tX12_unfoldJumps_b16 hn hR h)
def fX12_unfoldOne_b186 (w : qcW) (I : qTI) (L : qTL) (D : qTD) (R : qTR) (x1 : Int32) (x2 : Int32) : qcO Unit :=
  (qc_gd (qc_inb x2 420) <| qc_gd (qc_inb x1 420) <| qc_bd (fX12_task w I L D R (5 : Int32) (I 303 (Int32.toNatClampNeg x2)) (I 302 (Int32.toNatClampNeg x1))) fun r3 I3 L3 D3 R3 => qc_bd (fX12_task w I3 L3 D3 R3 (0 : Int32) x2 (0 : Int32)) fun r4 I4 L4 D4 R4 => some ((), I4, L4, D4, R4))
set_option maxRecDepth 100000 in
set_option maxHeartbeats 4000000 in
theorem tX12_unfoldOne_b186 {w : qcW} {I : qTI} {L : qTL} {D : qTD} {R : qTR} {x1 : Int32} {x2 : Int32} {r : Unit} {I' : qTI} {L' : qTL} {D' : qTD} {R' : qTR} (hn : qcNF ≤ w.1) (hR : qc_FR R) (h : fX12_unfoldOne_b186 w I L D R x1 x2 = some (r, I', L', D', R')) : qc_fm qcSM (I, L, D, R) (I', L', D', R') ∧ qc_X (qc_rm (2) 0 0) qmX12_unfoldOne (qc_QM 0 0 (qc_eq none w (I', L', D', R'))) 0 0 w (186, [(0, .ref 291), (1, .int x1), (2, .int x2)], [], I, L, D, R) := by
  unfold fX12_unfoldOne_b186 at h
  refine And.imp_right (fun hx => qc_aload_n (qc_at qkX12_unfoldOne 84 rfl) rfl <| qc_iconst (qc_at qkX12_unfoldOne 85 rfl) <| qc_aload_n (qc_at qkX12_unfoldOne 86 rfl) rfl <| qc_gR (qc_at qkX12_unfoldOne 87 rfl) hn rfl (qfr_291_23 hR) rfl <| qc_iload_n (qc_at qkX12_unfoldOne 88 rfl) rfl <| hx) ?_
  obtain ⟨g1, h⟩ := qc_gd_of h
  refine And.imp_right (fun hx => qc_iald 420 (qc_at qkX12_unfoldOne 89 rfl) hn rfl (qc_inb_in g1) <| qc_aload_n (qc_at qkX12_unfoldOne 90 rfl) rfl <| qc_gR (qc_at qkX12_unfoldOne 91 rfl) hn rfl (qfr_291_22 hR) rfl <| qc_iload_n (qc_at qkX12_unfoldOne 92 rfl) rfl <| hx) ?_
  obtain ⟨g2, h⟩ := qc_gd_of h
  refine And.imp_right (fun hx => qc_iald 420 (qc_at qkX12_unfoldOne 93 rfl) hn rfl (qc_inb_in g2) <| hx) ?_
  obtain ⟨r3, I3, L3, D3, R3, e3, h⟩ := qc_bd_of h
  have c3 := (tX12_task hn hR e3)
  refine qd_cVn (ci := 10) (a0 := 291) (qc_at qkX12_unfoldOne 94 rfl) ql_12_487 qfX12_task (qc_kf hn rfl) rfl c3 rfl rfl (Nat.le_of_ble_eq_true rfl) (qc_rml (by decide) (by decide)) ⟨Nat.zero_le _, Nat.zero_le _⟩ ?_
  refine And.imp_right (fun hx => qc_aload_n (qc_at qkX12_unfoldOne 95 rfl) rfl <| qc_iconst (qc_at qkX12_unfoldOne 96 rfl) <| qc_iload_n (qc_at qkX12_unfoldOne 97 rfl) rfl <| qc_iconst (qc_at qkX12_unfoldOne 98 rfl) <| hx) ?_
  obtain ⟨r4, I4, L4, D4, R4, e4, h⟩ := qc_bd_of h
  have c4 := (tX12_task hn (c3.1.1 hR) e4)
  refine qd_cVn (ci := 10) (a0 := 291) (qc_at qkX12_unfoldOne 99 rfl) ql_12_487 qfX12_task (qc_kf hn rfl) rfl c4 rfl rfl (Nat.le_of_ble_eq_true rfl) (qc_rml (by decide) (by decide)) ⟨Nat.zero_le _, Nat.zero_le _⟩ ?_
  obtain ⟨rfl, rfl, rfl, rfl, rfl⟩ := qc_some5 h
  exact ⟨qc_fm.rf _, qc_vret (qc_at qkX12_unfoldOne 100 rfl) rfl (Nat.le_refl _) (Nat.le_refl _) (qc_eq.rf _ _ _)⟩
def fX12_unfoldOne (w : qcW) (I : qTI) (L : qTL) (D : qTD) (R : qTR) (x1 : Int32) (x2 : Int32) (x3 : Int32) : qcO Unit :=
  (qc_gd (qc_inb x1 420) <| if (I 298 (Int32.toNatClampNeg x1)) = 8 then (qc_bd (fX12_task w I L D R (2 : Int32) ((1200 : Int32) + x3) (0 : Int32)) fun r7 I7 L7 D7 R7 => qc_bd (fX12_task w I7 L7 D7 R7 (0 : Int32) x2 (0 : Int32)) fun r8 I8 L8 D8 R8 => some ((), I8, L8, D8, R8)) else if (I 298 (Int32.toNatClampNeg x1)) = 9 then (qc_bd (fX12_task w I L D R (2 : Int32) ((1300 : Int32) + x3) (0 : Int32)) fun r10 I10 L10 D10 R10 => qc_bd (fX12_task w I10 L10 D10 R10 (0 : Int32) x2 (0 : Int32)) fun r11 I11 L11 D11 R11 => some ((), I11, L11, D11, R11)) else if (I 298 (Int32.toNatClampNeg x1)) = 10 then (fX12_unfoldOne_b186 w I L D R x1 x2) else if (I 298 (Int32.toNatClampNeg x1)) = 11 then (fX12_unfoldOne_b186 w I L D R x1 x2) else if (I 298 (Int32.toNatClampNeg x1)) = 12 then (qc_bd (fX12_task w I L D R (2 : Int32) (1810 : Int32) (0 : Int32)) fun r15 I15 L15 D15 R15 => qc_bd (fX12_task w I15 L15 D15 R15 (0 : Int32) x2 (0 : Int32)) fun r16 I16 L16 D16 R16 => some ((), I16, L16, D16, R16)) else if (I 298 (Int32.toNatClampNeg x1)) = 13 then (fX12_unfoldOne_b186 w I L D R x1 x2) else if (I 298 (Int32.toNatClampNeg x1)) = 14 then (qc_bd (fX12_task w I L D R (2 : Int32) ((1700 : Int32) + x3) (0 : Int32)) fun r19 I19 L19 D19 R19 => qc_bd (fX12_task w I19 L19 D19 R19 (0 : Int32) x2 (0 : Int32)) fun r20 I20 L20 D20 R20 => some ((), I20, L20, D20, R20)) else if (I 298 (Int32.toNatClampNeg x1)) = 15 then (qc_gd (qc_inb x1 420) <| qc_bd (fX12_task w I L D R (2 : Int32) ((1704 : Int32) + ((10 : Int32) * (I 302 (Int32.toNatClampNeg x1)))) (0 : Int32)) fun r23 I23 L23 D23 R23 => qc_bd (fX12_taskOfKind w I23 L23 D23 R23 x2 (4 : Int32)) fun r24 I24 L24 D24 R24 => some ((), I24, L24, D24, R24)) else if (I 298 (Int32.toNatClampNeg x1)) = 16 then (qc_bd (fX12_task w I L D R (2 : Int32) ((1740 : Int32) + x3) (0 : Int32)) fun r26 I26 L26 D26 R26 => qc_bd (fX12_taskOfKind w I26 L26 D26 R26 x2 x3) fun r27 I27 L27 D27 R27 => some ((), I27, L27, D27, R27)) else (fX12_unfoldOne_b186 w I L D R x1 x2))
set_option maxRecDepth 100000 in
set_option maxHeartbeats 4000000 in
theorem tX12_unfoldOne {w : qcW} {I : qTI} {L : qTL} {D : qTD} {R : qTR} {x1 : Int32} {x2 : Int32} {x3 : Int32} {r : Unit} {I' : qTI} {L' : qTL} {D' : qTD} {R' : qTR} (hn : qcNF ≤ w.1) (hR : qc_FR R) (h : fX12_unfoldOne w I L D R x1 x2 x3 = some (r, I', L', D', R')) : qc_fm qcSM (I, L, D, R) (I', L', D', R') ∧ qc_V (2) 0 0 qmX12_unfoldOne [.ref 291, .int x1, .int x2, .int x3] w (I, L, D, R) (qc_eq none w (I', L', D', R')) := by
  unfold fX12_unfoldOne at h
  refine And.imp_right (fun hx => qc_V.of rfl rfl (Nat.le_of_ble_eq_true rfl) (lv := [(0, .ref 291), (1, .int x1), (2, .int x2), (3, .int x3)]) rfl hx) ?_
  refine And.imp_right (fun hx => qc_aload_n (qc_at qkX12_unfoldOne 0 rfl) rfl <| qc_gR (qc_at qkX12_unfoldOne 1 rfl) hn rfl (qfr_291_18 hR) rfl <| qc_iload_n (qc_at qkX12_unfoldOne 2 rfl) rfl <| hx) ?_
  obtain ⟨g5, h⟩ := qc_gd_of h
  refine And.imp_right (fun hx => qc_iald 420 (qc_at qkX12_unfoldOne 3 rfl) hn rfl (qc_inb_in g5) <| hx) ?_
  refine qc_by (c := (I 298 (Int32.toNatClampNeg x1)) = 8) (fun u6 => ?_) (fun u6 => ?_)
  · refine And.imp_right (fun hx => qc_tabIn (qc_at qkX12_unfoldOne 4 rfl) 0 (by rw [u6]; rfl) (by decide) rfl rfl hx) ?_
    replace h := qc_jp u6 h
    refine And.imp_right (fun hx => qc_aload_n (qc_at qkX12_unfoldOne 5 rfl) rfl <| qc_iconst (qc_at qkX12_unfoldOne 6 rfl) <| qc_sipush (qc_at qkX12_unfoldOne 7 rfl) <| qc_iload_n (qc_at qkX12_unfoldOne 8 rfl) rfl <| qc_iadd (qc_at qkX12_unfoldOne 9 rfl) <| qc_iconst (qc_at qkX12_unfoldOne 10 rfl) <| hx) ?_
    obtain ⟨r7, I7, L7, D7, R7, e7, h⟩ := qc_bd_of h
    have c7 := (tX12_task hn hR e7)
    refine qd_cVn (ci := 10) (a0 := 291) (qc_at qkX12_unfoldOne 11 rfl) ql_12_487 qfX12_task (qc_kf hn rfl) rfl c7 rfl rfl (Nat.le_of_ble_eq_true rfl) (qc_rml (by decide) (by decide)) ⟨Nat.zero_le _, Nat.zero_le _⟩ ?_
    refine And.imp_right (fun hx => qc_aload_n (qc_at qkX12_unfoldOne 12 rfl) rfl <| qc_iconst (qc_at qkX12_unfoldOne 13 rfl) <| qc_iload_n (qc_at qkX12_unfoldOne 14 rfl) rfl <| qc_iconst (qc_at qkX12_unfoldOne 15 rfl) <| hx) ?_
    obtain ⟨r8, I8, L8, D8, R8, e8, h⟩ := qc_bd_of h
    have c8 := (tX12_task hn (c7.1.1 hR) e8)
    refine qd_cVn (ci := 10) (a0 := 291) (qc_at qkX12_unfoldOne 16 rfl) ql_12_487 qfX12_task (qc_kf hn rfl) rfl c8 rfl rfl (Nat.le_of_ble_eq_true rfl) (qc_rml (by decide) (by decide)) ⟨Nat.zero_le _, Nat.zero_le _⟩ ?_
    obtain ⟨rfl, rfl, rfl, rfl, rfl⟩ := qc_some5 h
    exact ⟨qc_fm.rf _, qc_goto (qc_at qkX12_unfoldOne 17 rfl) <| qc_vret (qc_at qkX12_unfoldOne 100 rfl) rfl (Nat.le_refl _) (Nat.le_refl _) (qc_eq.rf _ _ _)⟩
  · replace h := qc_jn u6 h
    refine qc_by (c := (I 298 (Int32.toNatClampNeg x1)) = 9) (fun u9 => ?_) (fun u9 => ?_)
    · refine And.imp_right (fun hx => qc_tabIn (qc_at qkX12_unfoldOne 4 rfl) 1 (by rw [u9]; rfl) (by decide) rfl rfl hx) ?_
      replace h := qc_jp u9 h
      refine And.imp_right (fun hx => qc_aload_n (qc_at qkX12_unfoldOne 18 rfl) rfl <| qc_iconst (qc_at qkX12_unfoldOne 19 rfl) <| qc_sipush (qc_at qkX12_unfoldOne 20 rfl) <| qc_iload_n (qc_at qkX12_unfoldOne 21 rfl) rfl <| qc_iadd (qc_at qkX12_unfoldOne 22 rfl) <| qc_iconst (qc_at qkX12_unfoldOne 23 rfl) <| hx) ?_
      obtain ⟨r10, I10, L10, D10, R10, e10, h⟩ := qc_bd_of h
      have c10 := (tX12_task hn hR e10)
      refine qd_cVn (ci := 10) (a0 := 291) (qc_at qkX12_unfoldOne 24 rfl) ql_12_487 qfX12_task (qc_kf hn rfl) rfl c10 rfl rfl (Nat.le_of_ble_eq_true rfl) (qc_rml (by decide) (by decide)) ⟨Nat.zero_le _, Nat.zero_le _⟩ ?_
      refine And.imp_right (fun hx => qc_aload_n (qc_at qkX12_unfoldOne 25 rfl) rfl <| qc_iconst (qc_at qkX12_unfoldOne 26 rfl) <| qc_iload_n (qc_at qkX12_unfoldOne 27 rfl) rfl <| qc_iconst (qc_at qkX12_unfoldOne 28 rfl) <| hx) ?_
      obtain ⟨r11, I11, L11, D11, R11, e11, h⟩ := qc_bd_of h
      have c11 := (tX12_task hn (c10.1.1 hR) e11)
      refine qd_cVn (ci := 10) (a0 := 291) (qc_at qkX12_unfoldOne 29 rfl) ql_12_487 qfX12_task (qc_kf hn rfl) rfl c11 rfl rfl (Nat.le_of_ble_eq_true rfl) (qc_rml (by decide) (by decide)) ⟨Nat.zero_le _, Nat.zero_le _⟩ ?_
      obtain ⟨rfl, rfl, rfl, rfl, rfl⟩ := qc_some5 h
      exact ⟨qc_fm.rf _, qc_goto (qc_at qkX12_unfoldOne 30 rfl) <| qc_vret (qc_at qkX12_unfoldOne 100 rfl) rfl (Nat.le_refl _) (Nat.le_refl _) (qc_eq.rf _ _ _)⟩
    · replace h := qc_jn u9 h
      refine qc_by (c := (I 298 (Int32.toNatClampNeg x1)) = 10) (fun u12 => ?_) (fun u12 => ?_)
      · refine And.imp_right (fun hx => qc_tabIn (qc_at qkX12_unfoldOne 4 rfl) 2 (by rw [u12]; rfl) (by decide) rfl rfl hx) ?_
        replace h := qc_jp u12 h
        exact And.imp_right (fun hx => qc_sub [0, 1, 2] rfl hx) (tX12_unfoldOne_b186 hn hR h)
      · replace h := qc_jn u12 h
        refine qc_by (c := (I 298 (Int32.toNatClampNeg x1)) = 11) (fun u13 => ?_) (fun u13 => ?_)
        · refine And.imp_right (fun hx => qc_tabIn (qc_at qkX12_unfoldOne 4 rfl) 3 (by rw [u13]; rfl) (by decide) rfl rfl hx) ?_
          replace h := qc_jp u13 h
          exact And.imp_right (fun hx => qc_sub [0, 1, 2] rfl hx) (tX12_unfoldOne_b186 hn hR h)
        · replace h := qc_jn u13 h
          refine qc_by (c := (I 298 (Int32.toNatClampNeg x1)) = 12) (fun u14 => ?_) (fun u14 => ?_)
          · refine And.imp_right (fun hx => qc_tabIn (qc_at qkX12_unfoldOne 4 rfl) 4 (by rw [u14]; rfl) (by decide) rfl rfl hx) ?_
            replace h := qc_jp u14 h
            refine And.imp_right (fun hx => qc_aload_n (qc_at qkX12_unfoldOne 31 rfl) rfl <| qc_iconst (qc_at qkX12_unfoldOne 32 rfl) <| qc_sipush (qc_at qkX12_unfoldOne 33 rfl) <| qc_iconst (qc_at qkX12_unfoldOne 34 rfl) <| hx) ?_
            obtain ⟨r15, I15, L15, D15, R15, e15, h⟩ := qc_bd_of h
            have c15 := (tX12_task hn hR e15)
            refine qd_cVn (ci := 10) (a0 := 291) (qc_at qkX12_unfoldOne 35 rfl) ql_12_487 qfX12_task (qc_kf hn rfl) rfl c15 rfl rfl (Nat.le_of_ble_eq_true rfl) (qc_rml (by decide) (by decide)) ⟨Nat.zero_le _, Nat.zero_le _⟩ ?_
            refine And.imp_right (fun hx => qc_aload_n (qc_at qkX12_unfoldOne 36 rfl) rfl <| qc_iconst (qc_at qkX12_unfoldOne 37 rfl) <| qc_iload_n (qc_at qkX12_unfoldOne 38 rfl) rfl <| qc_iconst (qc_at qkX12_unfoldOne 39 rfl) <| hx) ?_
            obtain ⟨r16, I16, L16, D16, R16, e16, h⟩ := qc_bd_of h
            have c16 := (tX12_task hn (c15.1.1 hR) e16)
            refine qd_cVn (ci := 10) (a0 := 291) (qc_at qkX12_unfoldOne 40 rfl) ql_12_487 qfX12_task (qc_kf hn rfl) rfl c16 rfl rfl (Nat.le_of_ble_eq_true rfl) (qc_rml (by decide) (by decide)) ⟨Nat.zero_le _, Nat.zero_le _⟩ ?_
            obtain ⟨rfl, rfl, rfl, rfl, rfl⟩ := qc_some5 h
            exact ⟨qc_fm.rf _, qc_goto (qc_at qkX12_unfoldOne 41 rfl) <| qc_vret (qc_at qkX12_unfoldOne 100 rfl) rfl (Nat.le_refl _) (Nat.le_refl _) (qc_eq.rf _ _ _)⟩
          · replace h := qc_jn u14 h
            refine qc_by (c := (I 298 (Int32.toNatClampNeg x1)) = 13) (fun u17 => ?_) (fun u17 => ?_)
            · refine And.imp_right (fun hx => qc_tabIn (qc_at qkX12_unfoldOne 4 rfl) 5 (by rw [u17]; rfl) (by decide) rfl rfl hx) ?_
              replace h := qc_jp u17 h
              exact And.imp_right (fun hx => qc_sub [0, 1, 2] rfl hx) (tX12_unfoldOne_b186 hn hR h)
            · replace h := qc_jn u17 h
              refine qc_by (c := (I 298 (Int32.toNatClampNeg x1)) = 14) (fun u18 => ?_) (fun u18 => ?_)
              · refine And.imp_right (fun hx => qc_tabIn (qc_at qkX12_unfoldOne 4 rfl) 6 (by rw [u18]; rfl) (by decide) rfl rfl hx) ?_
                replace h := qc_jp u18 h
                refine And.imp_right (fun hx => qc_aload_n (qc_at qkX12_unfoldOne 42 rfl) rfl <| qc_iconst (qc_at qkX12_unfoldOne 43 rfl) <| qc_sipush (qc_at qkX12_unfoldOne 44 rfl) <| qc_iload_n (qc_at qkX12_unfoldOne 45 rfl) rfl <| qc_iadd (qc_at qkX12_unfoldOne 46 rfl) <| qc_iconst (qc_at qkX12_unfoldOne 47 rfl) <| hx) ?_
                obtain ⟨r19, I19, L19, D19, R19, e19, h⟩ := qc_bd_of h
                have c19 := (tX12_task hn hR e19)
                refine qd_cVn (ci := 10) (a0 := 291) (qc_at qkX12_unfoldOne 48 rfl) ql_12_487 qfX12_task (qc_kf hn rfl) rfl c19 rfl rfl (Nat.le_of_ble_eq_true rfl) (qc_rml (by decide) (by decide)) ⟨Nat.zero_le _, Nat.zero_le _⟩ ?_
                refine And.imp_right (fun hx => qc_aload_n (qc_at qkX12_unfoldOne 49 rfl) rfl <| qc_iconst (qc_at qkX12_unfoldOne 50 rfl) <| qc_iload_n (qc_at qkX12_unfoldOne 51 rfl) rfl <| qc_iconst (qc_at qkX12_unfoldOne 52 rfl) <| hx) ?_
                obtain ⟨r20, I20, L20, D20, R20, e20, h⟩ := qc_bd_of h
                have c20 := (tX12_task hn (c19.1.1 hR) e20)
                refine qd_cVn (ci := 10) (a0 := 291) (qc_at qkX12_unfoldOne 53 rfl) ql_12_487 qfX12_task (qc_kf hn rfl) rfl c20 rfl rfl (Nat.le_of_ble_eq_true rfl) (qc_rml (by decide) (by decide)) ⟨Nat.zero_le _, Nat.zero_le _⟩ ?_
                obtain ⟨rfl, rfl, rfl, rfl, rfl⟩ := qc_some5 h
                exact ⟨qc_fm.rf _, qc_goto (qc_at qkX12_unfoldOne 54 rfl) <| qc_vret (qc_at qkX12_unfoldOne 100 rfl) rfl (Nat.le_refl _) (Nat.le_refl _) (qc_eq.rf _ _ _)⟩
              · replace h := qc_jn u18 h
                refine qc_by (c := (I 298 (Int32.toNatClampNeg x1)) = 15) (fun u21 => ?_) (fun u21 => ?_)
                · refine And.imp_right (fun hx => qc_tabIn (qc_at qkX12_unfoldOne 4 rfl) 7 (by rw [u21]; rfl) (by decide) rfl rfl hx) ?_
                  replace h := qc_jp u21 h
                  refine And.imp_right (fun hx => qc_aload_n (qc_at qkX12_unfoldOne 55 rfl) rfl <| qc_iconst (qc_at qkX12_unfoldOne 56 rfl) <| qc_sipush (qc_at qkX12_unfoldOne 57 rfl) <| qc_bipush (qc_at qkX12_unfoldOne 58 rfl) <| qc_aload_n (qc_at qkX12_unfoldOne 59 rfl) rfl <| qc_gR (qc_at qkX12_unfoldOne 60 rfl) hn rfl (qfr_291_22 hR) rfl <| qc_iload_n (qc_at qkX12_unfoldOne 61 rfl) rfl <| hx) ?_
                  obtain ⟨g22, h⟩ := qc_gd_of h
                  refine And.imp_right (fun hx => qc_iald 420 (qc_at qkX12_unfoldOne 62 rfl) hn rfl (qc_inb_in g22) <| qc_imul (qc_at qkX12_unfoldOne 63 rfl) <| qc_iadd (qc_at qkX12_unfoldOne 64 rfl) <| qc_iconst (qc_at qkX12_unfoldOne 65 rfl) <| hx) ?_
                  obtain ⟨r23, I23, L23, D23, R23, e23, h⟩ := qc_bd_of h
                  have c23 := (tX12_task hn hR e23)
                  refine qd_cVn (ci := 10) (a0 := 291) (qc_at qkX12_unfoldOne 66 rfl) ql_12_487 qfX12_task (qc_kf hn rfl) rfl c23 rfl rfl (Nat.le_of_ble_eq_true rfl) (qc_rml (by decide) (by decide)) ⟨Nat.zero_le _, Nat.zero_le _⟩ ?_
                  refine And.imp_right (fun hx => qc_aload_n (qc_at qkX12_unfoldOne 67 rfl) rfl <| qc_iload_n (qc_at qkX12_unfoldOne 68 rfl) rfl <| qc_iconst (qc_at qkX12_unfoldOne 69 rfl) <| hx) ?_
                  obtain ⟨r24, I24, L24, D24, R24, e24, h⟩ := qc_bd_of h
                  have c24 := (tX12_taskOfKind hn (c23.1.1 hR) e24)
                  refine qd_cVn (ci := 10) (a0 := 291) (qc_at qkX12_unfoldOne 70 rfl) ql_12_503 qfX12_taskOfKind (qc_kf hn rfl) rfl c24 rfl rfl (Nat.le_of_ble_eq_true rfl) (qc_rml (by decide) (by decide)) ⟨Nat.zero_le _, Nat.zero_le _⟩ ?_
                  obtain ⟨rfl, rfl, rfl, rfl, rfl⟩ := qc_some5 h
                  exact ⟨qc_fm.rf _, qc_goto (qc_at qkX12_unfoldOne 71 rfl) <| qc_vret (qc_at qkX12_unfoldOne 100 rfl) rfl (Nat.le_refl _) (Nat.le_refl _) (qc_eq.rf _ _ _)⟩
                · replace h := qc_jn u21 h
                  refine qc_by (c := (I 298 (Int32.toNatClampNeg x1)) = 16) (fun u25 => ?_) (fun u25 => ?_)
                  · refine And.imp_right (fun hx => qc_tabIn (qc_at qkX12_unfoldOne 4 rfl) 8 (by rw [u25]; rfl) (by decide) rfl rfl hx) ?_
                    replace h := qc_jp u25 h
                    refine And.imp_right (fun hx => qc_aload_n (qc_at qkX12_unfoldOne 72 rfl) rfl <| qc_iconst (qc_at qkX12_unfoldOne 73 rfl) <| qc_sipush (qc_at qkX12_unfoldOne 74 rfl) <| qc_iload_n (qc_at qkX12_unfoldOne 75 rfl) rfl <| qc_iadd (qc_at qkX12_unfoldOne 76 rfl) <| qc_iconst (qc_at qkX12_unfoldOne 77 rfl) <| hx) ?_
                    obtain ⟨r26, I26, L26, D26, R26, e26, h⟩ := qc_bd_of h
                    have c26 := (tX12_task hn hR e26)
                    refine qd_cVn (ci := 10) (a0 := 291) (qc_at qkX12_unfoldOne 78 rfl) ql_12_487 qfX12_task (qc_kf hn rfl) rfl c26 rfl rfl (Nat.le_of_ble_eq_true rfl) (qc_rml (by decide) (by decide)) ⟨Nat.zero_le _, Nat.zero_le _⟩ ?_
                    refine And.imp_right (fun hx => qc_aload_n (qc_at qkX12_unfoldOne 79 rfl) rfl <| qc_iload_n (qc_at qkX12_unfoldOne 80 rfl) rfl <| qc_iload_n (qc_at qkX12_unfoldOne 81 rfl) rfl <| hx) ?_
                    obtain ⟨r27, I27, L27, D27, R27, e27, h⟩ := qc_bd_of h
                    have c27 := (tX12_taskOfKind hn (c26.1.1 hR) e27)
                    refine qd_cVn (ci := 10) (a0 := 291) (qc_at qkX12_unfoldOne 82 rfl) ql_12_503 qfX12_taskOfKind (qc_kf hn rfl) rfl c27 rfl rfl (Nat.le_of_ble_eq_true rfl) (qc_rml (by decide) (by decide)) ⟨Nat.zero_le _, Nat.zero_le _⟩ ?_
                    obtain ⟨rfl, rfl, rfl, rfl, rfl⟩ := qc_some5 h
                    exact ⟨qc_fm.rf _, qc_goto (qc_at qkX12_unfoldOne 83 rfl) <| qc_vret (qc_at qkX12_unfoldOne 100 rfl) rfl (Nat.le_refl _) (Nat.le_refl _) (qc_eq.rf _ _ _)⟩
                  · replace h := qc_jn u25 h
                    have v6 : ¬ Int32.toInt (I 298 (Int32.toNatClampNeg x1)) = 8 := fun z => u6 (qc_i32 z rfl)
                    have v9 : ¬ Int32.toInt (I 298 (Int32.toNatClampNeg x1)) = 9 := fun z => u9 (qc_i32 z rfl)
                    have v12 : ¬ Int32.toInt (I 298 (Int32.toNatClampNeg x1)) = 10 := fun z => u12 (qc_i32 z rfl)
                    have v13 : ¬ Int32.toInt (I 298 (Int32.toNatClampNeg x1)) = 11 := fun z => u13 (qc_i32 z rfl)
                    have v14 : ¬ Int32.toInt (I 298 (Int32.toNatClampNeg x1)) = 12 := fun z => u14 (qc_i32 z rfl)
                    have v17 : ¬ Int32.toInt (I 298 (Int32.toNatClampNeg x1)) = 13 := fun z => u17 (qc_i32 z rfl)
                    have v18 : ¬ Int32.toInt (I 298 (Int32.toNatClampNeg x1)) = 14 := fun z => u18 (qc_i32 z rfl)
                    have v21 : ¬ Int32.toInt (I 298 (Int32.toNatClampNeg x1)) = 15 := fun z => u21 (qc_i32 z rfl)
                    have v25 : ¬ Int32.toInt (I 298 (Int32.toNatClampNeg x1)) = 16 := fun z => u25 (qc_i32 z rfl)
                    refine And.imp_right (fun hx => qc_tabOut (qc_at qkX12_unfoldOne 4 rfl) (by omega) rfl hx) ?_
                    exact And.imp_right (fun hx => qc_sub [0, 1, 2] rfl hx) (tX12_unfoldOne_b186 hn hR h)
def fX12_unfold_b100 (w : qcW) (I : qTI) (L : qTL) (D : qTD) (R : qTR) (x1 : Int32) : qcO Unit :=
  (qc_gd (qc_inb x1 420) <| qc_bd (fX12_emit w I L D R (1 : Int32) (I 302 (Int32.toNatClampNeg x1))) fun r2 I2 L2 D2 R2 => some ((), I2, L2, D2, R2))
set_option maxRecDepth 100000 in
set_option maxHeartbeats 4000000 in
theorem tX12_unfold_b100 {w : qcW} {I : qTI} {L : qTL} {D : qTD} {R : qTR} {x1 : Int32} {r : Unit} {I' : qTI} {L' : qTL} {D' : qTD} {R' : qTR} (hn : qcNF ≤ w.1) (hR : qc_FR R) (h : fX12_unfold_b100 w I L D R x1 = some (r, I', L', D', R')) : qc_fm qcSM (I, L, D, R) (I', L', D', R') ∧ qc_X (qc_rm (3) 0 0) qmX12_unfold (qc_QM 0 0 (qc_eq none w (I', L', D', R'))) 0 0 w (100, [(0, .ref 291), (1, .int x1)], [], I, L, D, R) := by
  unfold fX12_unfold_b100 at h
  refine And.imp_right (fun hx => qc_aload_n (qc_at qkX12_unfold 20 rfl) rfl <| qc_iconst (qc_at qkX12_unfold 21 rfl) <| qc_aload_n (qc_at qkX12_unfold 22 rfl) rfl <| qc_gR (qc_at qkX12_unfold 23 rfl) hn rfl (qfr_291_22 hR) rfl <| qc_iload_n (qc_at qkX12_unfold 24 rfl) rfl <| hx) ?_
  obtain ⟨g1, h⟩ := qc_gd_of h
  refine And.imp_right (fun hx => qc_iald 420 (qc_at qkX12_unfold 25 rfl) hn rfl (qc_inb_in g1) <| hx) ?_
  obtain ⟨r2, I2, L2, D2, R2, e2, h⟩ := qc_bd_of h
  have c2 := (tX12_emit hn hR e2)
  refine qd_cVn (ci := 10) (a0 := 291) (qc_at qkX12_unfold 26 rfl) ql_12_478 qfX12_emit (qc_kf hn rfl) rfl c2 rfl rfl (Nat.le_of_ble_eq_true rfl) (qc_rml (by decide) (by decide)) ⟨Nat.zero_le _, Nat.zero_le _⟩ ?_
  obtain ⟨rfl, rfl, rfl, rfl, rfl⟩ := qc_some5 h
  exact ⟨qc_fm.rf _, qc_goto (qc_at qkX12_unfold 27 rfl) <| qc_vret (qc_at qkX12_unfold 153 rfl) rfl (Nat.le_refl _) (Nat.le_refl _) (qc_eq.rf _ _ _)⟩
def fX12_unfold_b307 (w : qcW) (I : qTI) (L : qTL) (D : qTD) (R : qTR) (x1 : Int32) (x2 : Int32) (x3 : Int32) (x4 : Int32) : qcO Unit :=
  (qc_bd (fX12_unfoldJumps w I L D R x1 x2 x3 x4) fun r3 I3 L3 D3 R3 => some ((), I3, L3, D3, R3))
set_option maxRecDepth 100000 in
set_option maxHeartbeats 4000000 in
theorem tX12_unfold_b307 {w : qcW} {I : qTI} {L : qTL} {D : qTD} {R : qTR} {x1 : Int32} {x2 : Int32} {x3 : Int32} {x4 : Int32} {r : Unit} {I' : qTI} {L' : qTL} {D' : qTD} {R' : qTR} (hn : qcNF ≤ w.1) (hR : qc_FR R) (h : fX12_unfold_b307 w I L D R x1 x2 x3 x4 = some (r, I', L', D', R')) : qc_fm qcSM (I, L, D, R) (I', L', D', R') ∧ qc_X (qc_rm (3) 0 0) qmX12_unfold (qc_QM 0 0 (qc_eq none w (I', L', D', R'))) 0 0 w (307, [(0, .ref 291), (1, .int x1), (2, .int x2), (3, .int x3), (4, .int x4)], [], I, L, D, R) := by
  unfold fX12_unfold_b307 at h
  refine And.imp_right (fun hx => qc_aload_n (qc_at qkX12_unfold 141 rfl) rfl <| qc_iload_n (qc_at qkX12_unfold 142 rfl) rfl <| qc_iload_n (qc_at qkX12_unfold 143 rfl) rfl <| qc_iload_n (qc_at qkX12_unfold 144 rfl) rfl <| qc_iload (qc_at qkX12_unfold 145 rfl) rfl <| hx) ?_
  obtain ⟨r3, I3, L3, D3, R3, e3, h⟩ := qc_bd_of h
  have c3 := (tX12_unfoldJumps hn hR e3)
  refine qd_cVn (ci := 10) (a0 := 291) (qc_at qkX12_unfold 146 rfl) ql_12_506 qfX12_unfoldJumps (qc_kf hn rfl) rfl c3 rfl rfl (Nat.le_of_ble_eq_true rfl) (qc_rml (by decide) (by decide)) ⟨Nat.zero_le _, Nat.zero_le _⟩ ?_
  obtain ⟨rfl, rfl, rfl, rfl, rfl⟩ := qc_some5 h
  exact ⟨qc_fm.rf _, qc_goto (qc_at qkX12_unfold 147 rfl) <| qc_vret (qc_at qkX12_unfold 153 rfl) rfl (Nat.le_refl _) (Nat.le_refl _) (qc_eq.rf _ _ _)⟩
def fX12_unfold_b319 (w : qcW) (I : qTI) (L : qTL) (D : qTD) (R : qTR) (x1 : Int32) (x2 : Int32) (x4 : Int32) : qcO Unit :=
  (qc_bd (fX12_unfoldOne w I L D R x1 x2 x4) fun r4 I4 L4 D4 R4 => some ((), I4, L4, D4, R4))
set_option maxRecDepth 100000 in
set_option maxHeartbeats 4000000 in
theorem tX12_unfold_b319 {w : qcW} {I : qTI} {L : qTL} {D : qTD} {R : qTR} {x1 : Int32} {x2 : Int32} {x4 : Int32} {r : Unit} {I' : qTI} {L' : qTL} {D' : qTD} {R' : qTR} (hn : qcNF ≤ w.1) (hR : qc_FR R) (h : fX12_unfold_b319 w I L D R x1 x2 x4 = some (r, I', L', D', R')) : qc_fm qcSM (I, L, D, R) (I', L', D', R') ∧ qc_X (qc_rm (3) 0 0) qmX12_unfold (qc_QM 0 0 (qc_eq none w (I', L', D', R'))) 0 0 w (319, [(0, .ref 291), (1, .int x1), (2, .int x2), (4, .int x4)], [], I, L, D, R) := by
  unfold fX12_unfold_b319 at h
  refine And.imp_right (fun hx => qc_aload_n (qc_at qkX12_unfold 148 rfl) rfl <| qc_iload_n (qc_at qkX12_unfold 149 rfl) rfl <| qc_iload_n (qc_at qkX12_unfold 150 rfl) rfl <| qc_iload (qc_at qkX12_unfold 151 rfl) rfl <| hx) ?_
  obtain ⟨r4, I4, L4, D4, R4, e4, h⟩ := qc_bd_of h
  have c4 := (tX12_unfoldOne hn hR e4)
  refine qd_cVn (ci := 10) (a0 := 291) (qc_at qkX12_unfold 152 rfl) ql_12_509 qfX12_unfoldOne (qc_kf hn rfl) rfl c4 rfl rfl (Nat.le_of_ble_eq_true rfl) (qc_rml (by decide) (by decide)) ⟨Nat.zero_le _, Nat.zero_le _⟩ ?_
  obtain ⟨rfl, rfl, rfl, rfl, rfl⟩ := qc_some5 h
  exact ⟨qc_fm.rf _, qc_vret (qc_at qkX12_unfold 153 rfl) rfl (Nat.le_refl _) (Nat.le_refl _) (qc_eq.rf _ _ _)⟩
def fX12_unfold (w : qcW) (I : qTI) (L : qTL) (D : qTD) (R : qTR) (x1 : Int32) : qcO Unit :=
  (qc_gd (qc_inb x1 420) <| qc_gd (qc_inb x1 420) <| qc_gd (qc_inb x1 420) <| qc_gd (qc_inb x1 420) <| if (I 298 (Int32.toNatClampNeg x1)) = 0 then (fX12_unfold_b100 w I L D R x1) else if (I 298 (Int32.toNatClampNeg x1)) = 1 then (qc_gd (qc_inb x1 420) <| qc_bd (fX12_emit w I L D R (2 : Int32) (I 302 (Int32.toNatClampNeg x1))) fun r12 I12 L12 D12 R12 => some ((), I12, L12, D12, R12)) else if (I 298 (Int32.toNatClampNeg x1)) = 2 then (qc_bd (fX12_emit w I L D R (3 : Int32) (0 : Int32)) fun r14 I14 L14 D14 R14 => some ((), I14, L14, D14, R14)) else if (I 298 (Int32.toNatClampNeg x1)) = 3 then (fX12_unfold_b100 w I L D R x1) else if (I 298 (Int32.toNatClampNeg x1)) = 4 then (qc_gd (qc_inb x1 420) <| qc_bd (fX12_task w I L D R (2 : Int32) ((10 : Int32) + (I 300 (Int32.toNatClampNeg x1))) (I 302 (Int32.toNatClampNeg x1))) fun r18 I18 L18 D18 R18 => if (I 299 (Int32.toNatClampNeg x1)) = (-1 : Int32) then (qc_bd (fX12_emit w I18 L18 D18 R18 (3 : Int32) (0 : Int32)) fun r21 I21 L21 D21 R21 => some ((), I21, L21, D21, R21)) else (qc_bd (fX12_task w I18 L18 D18 R18 (0 : Int32) (I 299 (Int32.toNatClampNeg x1)) (0 : Int32)) fun r20 I20 L20 D20 R20 => some ((), I20, L20, D20, R20))) else if (I 298 (Int32.toNatClampNeg x1)) = 5 then (qc_gd (qc_inb x1 420) <| qc_bd (fX12_kindOp w I L D R (I 303 (Int32.toNatClampNeg x1))) fun r24 I24 L24 D24 R24 => qc_bd (fX12_task w I24 L24 D24 R24 (2 : Int32) ((I 302 (Int32.toNatClampNeg x1)) + r24) (0 : Int32)) fun r25 I25 L25 D25 R25 => qc_bd (fX12_taskOfKind w I25 L25 D25 R25 (I 300 (Int32.toNatClampNeg x1)) (I 303 (Int32.toNatClampNeg x1))) fun r26 I26 L26 D26 R26 => qc_bd (fX12_taskOfKind w I26 L26 D26 R26 (I 299 (Int32.toNatClampNeg x1)) (I 303 (Int32.toNatClampNeg x1))) fun r27 I27 L27 D27 R27 => some ((), I27, L27, D27, R27)) else if (I 298 (Int32.toNatClampNeg x1)) = 6 then (qc_gd (qc_inb (I 299 (Int32.toNatClampNeg x1)) 420) <| qc_gd (qc_inb (I 300 (Int32.toNatClampNeg x1)) 420) <| qc_bd (fX12_later w I L D R (I 303 (Int32.toNatClampNeg (I 299 (Int32.toNatClampNeg x1)))) (I 303 (Int32.toNatClampNeg (I 300 (Int32.toNatClampNeg x1))))) fun r31 I31 L31 D31 R31 => qc_gd (qc_inb x1 420) <| qc_bd (fX12_task w I31 L31 D31 R31 (2 : Int32) ((1500 : Int32) + (I31 302 (Int32.toNatClampNeg x1))) (0 : Int32)) fun r33 I33 L33 D33 R33 => qc_bd (fX12_kindOp w I33 L33 D33 R33 r31) fun r34 I34 L34 D34 R34 => qc_bd (fX12_task w I34 L34 D34 R34 (2 : Int32) ((1400 : Int32) + r34) (0 : Int32)) fun r35 I35 L35 D35 R35 => qc_bd (fX12_taskOfKind w I35 L35 D35 R35 (I 300 (Int32.toNatClampNeg x1)) r31) fun r36 I36 L36 D36 R36 => qc_bd (fX12_taskOfKind w I36 L36 D36 R36 (I 299 (Int32.toNatClampNeg x1)) r31) fun r37 I37 L37 D37 R37 => some ((), I37, L37, D37, R37)) else if (I 298 (Int32.toNatClampNeg x1)) = 7 then (qc_gd (qc_inb x1 420) <| qc_bd (fX12_task w I L D R (2 : Int32) ((I 302 (Int32.toNatClampNeg x1)) + (I 303 (Int32.toNatClampNeg x1))) (0 : Int32)) fun r40 I40 L40 D40 R40 => qc_bd (fX12_taskOfKind w I40 L40 D40 R40 (I 300 (Int32.toNatClampNeg x1)) (1 : Int32)) fun r41 I41 L41 D41 R41 => qc_bd (fX12_taskOfKind w I41 L41 D41 R41 (I 299 (Int32.toNatClampNeg x1)) (I 303 (Int32.toNatClampNeg x1))) fun r42 I42 L42 D42 R42 => some ((), I42, L42, D42, R42)) else if (I 298 (Int32.toNatClampNeg x1)) = 8 then (fX12_unfold_b319 w I L D R x1 (I 299 (Int32.toNatClampNeg x1)) (I 303 (Int32.toNatClampNeg x1))) else if (I 298 (Int32.toNatClampNeg x1)) = 9 then (fX12_unfold_b319 w I L D R x1 (I 299 (Int32.toNatClampNeg x1)) (I 303 (Int32.toNatClampNeg x1))) else if (I 298 (Int32.toNatClampNeg x1)) = 10 then (fX12_unfold_b307 w I L D R x1 (I 299 (Int32.toNatClampNeg x1)) (I 300 (Int32.toNatClampNeg x1)) (I 303 (Int32.toNatClampNeg x1))) else if (I 298 (Int32.toNatClampNeg x1)) = 11 then (fX12_unfold_b307 w I L D R x1 (I 299 (Int32.toNatClampNeg x1)) (I 300 (Int32.toNatClampNeg x1)) (I 303 (Int32.toNatClampNeg x1))) else if (I 298 (Int32.toNatClampNeg x1)) = 12 then (fX12_unfold_b319 w I L D R x1 (I 299 (Int32.toNatClampNeg x1)) (I 303 (Int32.toNatClampNeg x1))) else if (I 298 (Int32.toNatClampNeg x1)) = 13 then (fX12_unfold_b307 w I L D R x1 (I 299 (Int32.toNatClampNeg x1)) (I 300 (Int32.toNatClampNeg x1)) (I 303 (Int32.toNatClampNeg x1))) else (fX12_unfold_b319 w I L D R x1 (I 299 (Int32.toNatClampNeg x1)) (I 303 (Int32.toNatClampNeg x1))))
set_option maxRecDepth 100000 in
set_option maxHeartbeats 4000000 in
theorem tX12_unfold {w : qcW} {I : qTI} {L : qTL} {D : qTD} {R : qTR} {x1 : Int32} {r : Unit} {I' : qTI} {L' : qTL} {D' : qTD} {R' : qTR} (hn : qcNF ≤ w.1) (hR : qc_FR R) (h : fX12_unfold w I L D R x1 = some (r, I', L', D', R')) : qc_fm qcSM (I, L, D, R) (I', L', D', R') ∧ qc_V (3) 0 0 qmX12_unfold [.ref 291, .int x1] w (I, L, D, R) (qc_eq none w (I', L', D', R')) := by
  unfold fX12_unfold at h
  refine And.imp_right (fun hx => qc_V.of rfl rfl (Nat.le_of_ble_eq_true rfl) (lv := [(0, .ref 291), (1, .int x1)]) rfl hx) ?_
  refine And.imp_right (fun hx => qc_aload_n (qc_at qkX12_unfold 0 rfl) rfl <| qc_gR (qc_at qkX12_unfold 1 rfl) hn rfl (qfr_291_19 hR) rfl <| qc_iload_n (qc_at qkX12_unfold 2 rfl) rfl <| hx) ?_
  obtain ⟨g5, h⟩ := qc_gd_of h
  refine And.imp_right (fun hx => qc_iald 420 (qc_at qkX12_unfold 3 rfl) hn rfl (qc_inb_in g5) <| qc_istore_n (lv' := [(2, _), (0, _), (1, _)]) (qc_at qkX12_unfold 4 rfl) rfl rfl <| qc_aload_n (qc_at qkX12_unfold 5 rfl) rfl <| qc_gR (qc_at qkX12_unfold 6 rfl) hn rfl (qfr_291_20 hR) rfl <| qc_iload_n (qc_at qkX12_unfold 7 rfl) rfl <| hx) ?_
  obtain ⟨g6, h⟩ := qc_gd_of h
  refine And.imp_right (fun hx => qc_iald 420 (qc_at qkX12_unfold 8 rfl) hn rfl (qc_inb_in g6) <| qc_istore_n (lv' := [(3, _), (2, _), (0, _), (1, _)]) (qc_at qkX12_unfold 9 rfl) rfl rfl <| qc_aload_n (qc_at qkX12_unfold 10 rfl) rfl <| qc_gR (qc_at qkX12_unfold 11 rfl) hn rfl (qfr_291_23 hR) rfl <| qc_iload_n (qc_at qkX12_unfold 12 rfl) rfl <| hx) ?_
  obtain ⟨g7, h⟩ := qc_gd_of h
  refine And.imp_right (fun hx => qc_iald 420 (qc_at qkX12_unfold 13 rfl) hn rfl (qc_inb_in g7) <| qc_istore (lv' := [(4, _), (3, _), (2, _), (0, _), (1, _)]) (qc_at qkX12_unfold 14 rfl) rfl rfl <| qc_aload_n (qc_at qkX12_unfold 15 rfl) rfl <| qc_gR (qc_at qkX12_unfold 16 rfl) hn rfl (qfr_291_18 hR) rfl <| qc_iload_n (qc_at qkX12_unfold 17 rfl) rfl <| hx) ?_
  obtain ⟨g8, h⟩ := qc_gd_of h
  refine And.imp_right (fun hx => qc_iald 420 (qc_at qkX12_unfold 18 rfl) hn rfl (qc_inb_in g8) <| hx) ?_
  refine qc_by (c := (I 298 (Int32.toNatClampNeg x1)) = 0) (fun u9 => ?_) (fun u9 => ?_)
  · refine And.imp_right (fun hx => qc_tabIn (qc_at qkX12_unfold 19 rfl) 0 (by rw [u9]; rfl) (by decide) rfl rfl hx) ?_
    replace h := qc_jp u9 h
    exact And.imp_right (fun hx => qc_sub [3, 4] rfl hx) (tX12_unfold_b100 hn hR h)
  · replace h := qc_jn u9 h
    refine qc_by (c := (I 298 (Int32.toNatClampNeg x1)) = 1) (fun u10 => ?_) (fun u10 => ?_)
    · refine And.imp_right (fun hx => qc_tabIn (qc_at qkX12_unfold 19 rfl) 1 (by rw [u10]; rfl) (by decide) rfl rfl hx) ?_
      replace h := qc_jp u10 h
      refine And.imp_right (fun hx => qc_aload_n (qc_at qkX12_unfold 28 rfl) rfl <| qc_iconst (qc_at qkX12_unfold 29 rfl) <| qc_aload_n (qc_at qkX12_unfold 30 rfl) rfl <| qc_gR (qc_at qkX12_unfold 31 rfl) hn rfl (qfr_291_22 hR) rfl <| qc_iload_n (qc_at qkX12_unfold 32 rfl) rfl <| hx) ?_
      obtain ⟨g11, h⟩ := qc_gd_of h
      refine And.imp_right (fun hx => qc_iald 420 (qc_at qkX12_unfold 33 rfl) hn rfl (qc_inb_in g11) <| hx) ?_
      obtain ⟨r12, I12, L12, D12, R12, e12, h⟩ := qc_bd_of h
      have c12 := (tX12_emit hn hR e12)
      refine qd_cVn (ci := 10) (a0 := 291) (qc_at qkX12_unfold 34 rfl) ql_12_478 qfX12_emit (qc_kf hn rfl) rfl c12 rfl rfl (Nat.le_of_ble_eq_true rfl) (qc_rml (by decide) (by decide)) ⟨Nat.zero_le _, Nat.zero_le _⟩ ?_
      obtain ⟨rfl, rfl, rfl, rfl, rfl⟩ := qc_some5 h
      exact ⟨qc_fm.rf _, qc_goto (qc_at qkX12_unfold 35 rfl) <| qc_vret (qc_at qkX12_unfold 153 rfl) rfl (Nat.le_refl _) (Nat.le_refl _) (qc_eq.rf _ _ _)⟩
    · replace h := qc_jn u10 h
      refine qc_by (c := (I 298 (Int32.toNatClampNeg x1)) = 2) (fun u13 => ?_) (fun u13 => ?_)
      · refine And.imp_right (fun hx => qc_tabIn (qc_at qkX12_unfold 19 rfl) 2 (by rw [u13]; rfl) (by decide) rfl rfl hx) ?_
        replace h := qc_jp u13 h
        refine And.imp_right (fun hx => qc_aload_n (qc_at qkX12_unfold 36 rfl) rfl <| qc_iconst (qc_at qkX12_unfold 37 rfl) <| qc_iconst (qc_at qkX12_unfold 38 rfl) <| hx) ?_
        obtain ⟨r14, I14, L14, D14, R14, e14, h⟩ := qc_bd_of h
        have c14 := (tX12_emit hn hR e14)
        refine qd_cVn (ci := 10) (a0 := 291) (qc_at qkX12_unfold 39 rfl) ql_12_478 qfX12_emit (qc_kf hn rfl) rfl c14 rfl rfl (Nat.le_of_ble_eq_true rfl) (qc_rml (by decide) (by decide)) ⟨Nat.zero_le _, Nat.zero_le _⟩ ?_
        obtain ⟨rfl, rfl, rfl, rfl, rfl⟩ := qc_some5 h
        exact ⟨qc_fm.rf _, qc_goto (qc_at qkX12_unfold 40 rfl) <| qc_vret (qc_at qkX12_unfold 153 rfl) rfl (Nat.le_refl _) (Nat.le_refl _) (qc_eq.rf _ _ _)⟩
      · replace h := qc_jn u13 h
        refine qc_by (c := (I 298 (Int32.toNatClampNeg x1)) = 3) (fun u15 => ?_) (fun u15 => ?_)
        · refine And.imp_right (fun hx => qc_tabIn (qc_at qkX12_unfold 19 rfl) 3 (by rw [u15]; rfl) (by decide) rfl rfl hx) ?_
          replace h := qc_jp u15 h
          exact And.imp_right (fun hx => qc_sub [3, 4] rfl hx) (tX12_unfold_b100 hn hR h)
        · replace h := qc_jn u15 h
          refine qc_by (c := (I 298 (Int32.toNatClampNeg x1)) = 4) (fun u16 => ?_) (fun u16 => ?_)
          · refine And.imp_right (fun hx => qc_tabIn (qc_at qkX12_unfold 19 rfl) 4 (by rw [u16]; rfl) (by decide) rfl rfl hx) ?_
            replace h := qc_jp u16 h
            refine And.imp_right (fun hx => qc_aload_n (qc_at qkX12_unfold 41 rfl) rfl <| qc_iconst (qc_at qkX12_unfold 42 rfl) <| qc_bipush (qc_at qkX12_unfold 43 rfl) <| qc_iload_n (qc_at qkX12_unfold 44 rfl) rfl <| qc_iadd (qc_at qkX12_unfold 45 rfl) <| qc_aload_n (qc_at qkX12_unfold 46 rfl) rfl <| qc_gR (qc_at qkX12_unfold 47 rfl) hn rfl (qfr_291_22 hR) rfl <| qc_iload_n (qc_at qkX12_unfold 48 rfl) rfl <| hx) ?_
            obtain ⟨g17, h⟩ := qc_gd_of h
            refine And.imp_right (fun hx => qc_iald 420 (qc_at qkX12_unfold 49 rfl) hn rfl (qc_inb_in g17) <| hx) ?_
            obtain ⟨r18, I18, L18, D18, R18, e18, h⟩ := qc_bd_of h
            have c18 := (tX12_task hn hR e18)
            refine qd_cVn (ci := 10) (a0 := 291) (qc_at qkX12_unfold 50 rfl) ql_12_487 qfX12_task (qc_kf hn rfl) rfl c18 rfl rfl (Nat.le_of_ble_eq_true rfl) (qc_rml (by decide) (by decide)) ⟨Nat.zero_le _, Nat.zero_le _⟩ ?_
            refine And.imp_right (fun hx => qc_iload_n (qc_at qkX12_unfold 51 rfl) rfl <| qc_iconst (qc_at qkX12_unfold 52 rfl) <| hx) ?_
            refine qc_andN (qc_icmp_ne (qc_at qkX12_unfold 53 rfl)) (fun u19 => ?_) (fun u19 => ?_)
            · replace h := qc_jn u19 h
              refine And.imp_right (fun hx => qc_aload_n (qc_at qkX12_unfold 59 rfl) rfl <| qc_iconst (qc_at qkX12_unfold 60 rfl) <| qc_iload_n (qc_at qkX12_unfold 61 rfl) rfl <| qc_iconst (qc_at qkX12_unfold 62 rfl) <| hx) ?_
              obtain ⟨r20, I20, L20, D20, R20, e20, h⟩ := qc_bd_of h
              have c20 := (tX12_task hn (c18.1.1 hR) e20)
              refine qd_cVn (ci := 10) (a0 := 291) (qc_at qkX12_unfold 63 rfl) ql_12_487 qfX12_task (qc_kf hn rfl) rfl c20 rfl rfl (Nat.le_of_ble_eq_true rfl) (qc_rml (by decide) (by decide)) ⟨Nat.zero_le _, Nat.zero_le _⟩ ?_
              obtain ⟨rfl, rfl, rfl, rfl, rfl⟩ := qc_some5 h
              exact ⟨qc_fm.rf _, qc_goto (qc_at qkX12_unfold 64 rfl) <| qc_vret (qc_at qkX12_unfold 153 rfl) rfl (Nat.le_refl _) (Nat.le_refl _) (qc_eq.rf _ _ _)⟩
            · replace h := qc_jp u19 h
              refine And.imp_right (fun hx => qc_aload_n (qc_at qkX12_unfold 54 rfl) rfl <| qc_iconst (qc_at qkX12_unfold 55 rfl) <| qc_iconst (qc_at qkX12_unfold 56 rfl) <| hx) ?_
              obtain ⟨r21, I21, L21, D21, R21, e21, h⟩ := qc_bd_of h
              have c21 := (tX12_emit hn (c18.1.1 hR) e21)
              refine qd_cVn (ci := 10) (a0 := 291) (qc_at qkX12_unfold 57 rfl) ql_12_478 qfX12_emit (qc_kf hn rfl) rfl c21 rfl rfl (Nat.le_of_ble_eq_true rfl) (qc_rml (by decide) (by decide)) ⟨Nat.zero_le _, Nat.zero_le _⟩ ?_
              obtain ⟨rfl, rfl, rfl, rfl, rfl⟩ := qc_some5 h
              exact ⟨qc_fm.rf _, qc_goto (qc_at qkX12_unfold 58 rfl) <| qc_vret (qc_at qkX12_unfold 153 rfl) rfl (Nat.le_refl _) (Nat.le_refl _) (qc_eq.rf _ _ _)⟩
          · replace h := qc_jn u16 h
            refine qc_by (c := (I 298 (Int32.toNatClampNeg x1)) = 5) (fun u22 => ?_) (fun u22 => ?_)
            · refine And.imp_right (fun hx => qc_tabIn (qc_at qkX12_unfold 19 rfl) 5 (by rw [u22]; rfl) (by decide) rfl rfl hx) ?_
              replace h := qc_jp u22 h
              refine And.imp_right (fun hx => qc_aload_n (qc_at qkX12_unfold 65 rfl) rfl <| qc_iconst (qc_at qkX12_unfold 66 rfl) <| qc_aload_n (qc_at qkX12_unfold 67 rfl) rfl <| qc_gR (qc_at qkX12_unfold 68 rfl) hn rfl (qfr_291_22 hR) rfl <| qc_iload_n (qc_at qkX12_unfold 69 rfl) rfl <| hx) ?_
              obtain ⟨g23, h⟩ := qc_gd_of h
              refine And.imp_right (fun hx => qc_iald 420 (qc_at qkX12_unfold 70 rfl) hn rfl (qc_inb_in g23) <| qc_iload (qc_at qkX12_unfold 71 rfl) rfl <| hx) ?_
              obtain ⟨r24, I24, L24, D24, R24, e24, h⟩ := qc_bd_of h
              have c24 := (tX12_kindOp hn hR e24)
              refine qd_cSv (qc_at qkX12_unfold 72 rfl) ql_12_500 qfX12_kindOp c24 rfl rfl (Nat.le_of_ble_eq_true rfl) (qc_rml (by decide) (by decide)) ⟨Nat.zero_le _, Nat.zero_le _⟩ ?_
              refine And.imp_right (fun hx => qc_iadd (qc_at qkX12_unfold 73 rfl) <| qc_iconst (qc_at qkX12_unfold 74 rfl) <| hx) ?_
              obtain ⟨r25, I25, L25, D25, R25, e25, h⟩ := qc_bd_of h
              have c25 := (tX12_task hn (c24.1.1 hR) e25)
              refine qd_cVn (ci := 10) (a0 := 291) (qc_at qkX12_unfold 75 rfl) ql_12_487 qfX12_task (qc_kf hn rfl) rfl c25 rfl rfl (Nat.le_of_ble_eq_true rfl) (qc_rml (by decide) (by decide)) ⟨Nat.zero_le _, Nat.zero_le _⟩ ?_
              refine And.imp_right (fun hx => qc_aload_n (qc_at qkX12_unfold 76 rfl) rfl <| qc_iload_n (qc_at qkX12_unfold 77 rfl) rfl <| qc_iload (qc_at qkX12_unfold 78 rfl) rfl <| hx) ?_
              obtain ⟨r26, I26, L26, D26, R26, e26, h⟩ := qc_bd_of h
              have c26 := (tX12_taskOfKind hn (c25.1.1 (c24.1.1 hR)) e26)
              refine qd_cVn (ci := 10) (a0 := 291) (qc_at qkX12_unfold 79 rfl) ql_12_503 qfX12_taskOfKind (qc_kf hn rfl) rfl c26 rfl rfl (Nat.le_of_ble_eq_true rfl) (qc_rml (by decide) (by decide)) ⟨Nat.zero_le _, Nat.zero_le _⟩ ?_
              refine And.imp_right (fun hx => qc_aload_n (qc_at qkX12_unfold 80 rfl) rfl <| qc_iload_n (qc_at qkX12_unfold 81 rfl) rfl <| qc_iload (qc_at qkX12_unfold 82 rfl) rfl <| hx) ?_
              obtain ⟨r27, I27, L27, D27, R27, e27, h⟩ := qc_bd_of h
              have c27 := (tX12_taskOfKind hn (c26.1.1 (c25.1.1 (c24.1.1 hR))) e27)
              refine qd_cVn (ci := 10) (a0 := 291) (qc_at qkX12_unfold 83 rfl) ql_12_503 qfX12_taskOfKind (qc_kf hn rfl) rfl c27 rfl rfl (Nat.le_of_ble_eq_true rfl) (qc_rml (by decide) (by decide)) ⟨Nat.zero_le _, Nat.zero_le _⟩ ?_
              obtain ⟨rfl, rfl, rfl, rfl, rfl⟩ := qc_some5 h
              exact ⟨qc_fm.rf _, qc_goto (qc_at qkX12_unfold 84 rfl) <| qc_vret (qc_at qkX12_unfold 153 rfl) rfl (Nat.le_refl _) (Nat.le_refl _) (qc_eq.rf _ _ _)⟩
            · replace h := qc_jn u22 h
              refine qc_by (c := (I 298 (Int32.toNatClampNeg x1)) = 6) (fun u28 => ?_) (fun u28 => ?_)
              · refine And.imp_right (fun hx => qc_tabIn (qc_at qkX12_unfold 19 rfl) 6 (by rw [u28]; rfl) (by decide) rfl rfl hx) ?_
                replace h := qc_jp u28 h
                refine And.imp_right (fun hx => qc_aload_n (qc_at qkX12_unfold 85 rfl) rfl <| qc_gR (qc_at qkX12_unfold 86 rfl) hn rfl (qfr_291_23 hR) rfl <| qc_iload_n (qc_at qkX12_unfold 87 rfl) rfl <| hx) ?_
                obtain ⟨g29, h⟩ := qc_gd_of h
                refine And.imp_right (fun hx => qc_iald 420 (qc_at qkX12_unfold 88 rfl) hn rfl (qc_inb_in g29) <| qc_aload_n (qc_at qkX12_unfold 89 rfl) rfl <| qc_gR (qc_at qkX12_unfold 90 rfl) hn rfl (qfr_291_23 hR) rfl <| qc_iload_n (qc_at qkX12_unfold 91 rfl) rfl <| hx) ?_
                obtain ⟨g30, h⟩ := qc_gd_of h
                refine And.imp_right (fun hx => qc_iald 420 (qc_at qkX12_unfold 92 rfl) hn rfl (qc_inb_in g30) <| hx) ?_
                obtain ⟨r31, I31, L31, D31, R31, e31, h⟩ := qc_bd_of h
                have c31 := (tX12_later hn hR e31)
                refine qd_cSv (qc_at qkX12_unfold 93 rfl) ql_12_350 qfX12_later c31 rfl rfl (Nat.le_of_ble_eq_true rfl) (qc_rml (by decide) (by decide)) ⟨Nat.zero_le _, Nat.zero_le _⟩ ?_
                refine And.imp_right (fun hx => qc_istore (lv' := [(5, _), (4, _), (3, _), (2, _), (0, _), (1, _)]) (qc_at qkX12_unfold 94 rfl) rfl rfl <| qc_aload_n (qc_at qkX12_unfold 95 rfl) rfl <| qc_iconst (qc_at qkX12_unfold 96 rfl) <| qc_sipush (qc_at qkX12_unfold 97 rfl) <| qc_aload_n (qc_at qkX12_unfold 98 rfl) rfl <| qc_gR (qc_at qkX12_unfold 99 rfl) hn rfl (qfr_291_22 (c31.1.1 hR)) rfl <| qc_iload_n (qc_at qkX12_unfold 100 rfl) rfl <| hx) ?_
                obtain ⟨g32, h⟩ := qc_gd_of h
                refine And.imp_right (fun hx => qc_iald 420 (qc_at qkX12_unfold 101 rfl) hn rfl (qc_inb_in g32) <| qc_iadd (qc_at qkX12_unfold 102 rfl) <| qc_iconst (qc_at qkX12_unfold 103 rfl) <| hx) ?_
                obtain ⟨r33, I33, L33, D33, R33, e33, h⟩ := qc_bd_of h
                have c33 := (tX12_task hn (c31.1.1 hR) e33)
                refine qd_cVn (ci := 10) (a0 := 291) (qc_at qkX12_unfold 104 rfl) ql_12_487 qfX12_task (qc_kf hn rfl) rfl c33 rfl rfl (Nat.le_of_ble_eq_true rfl) (qc_rml (by decide) (by decide)) ⟨Nat.zero_le _, Nat.zero_le _⟩ ?_
                refine And.imp_right (fun hx => qc_aload_n (qc_at qkX12_unfold 105 rfl) rfl <| qc_iconst (qc_at qkX12_unfold 106 rfl) <| qc_sipush (qc_at qkX12_unfold 107 rfl) <| qc_iload (qc_at qkX12_unfold 108 rfl) rfl <| hx) ?_
                obtain ⟨r34, I34, L34, D34, R34, e34, h⟩ := qc_bd_of h
                have c34 := (tX12_kindOp hn (c33.1.1 (c31.1.1 hR)) e34)
                refine qd_cSv (qc_at qkX12_unfold 109 rfl) ql_12_500 qfX12_kindOp c34 rfl rfl (Nat.le_of_ble_eq_true rfl) (qc_rml (by decide) (by decide)) ⟨Nat.zero_le _, Nat.zero_le _⟩ ?_
                refine And.imp_right (fun hx => qc_iadd (qc_at qkX12_unfold 110 rfl) <| qc_iconst (qc_at qkX12_unfold 111 rfl) <| hx) ?_
                obtain ⟨r35, I35, L35, D35, R35, e35, h⟩ := qc_bd_of h
                have c35 := (tX12_task hn (c34.1.1 (c33.1.1 (c31.1.1 hR))) e35)
                refine qd_cVn (ci := 10) (a0 := 291) (qc_at qkX12_unfold 112 rfl) ql_12_487 qfX12_task (qc_kf hn rfl) rfl c35 rfl rfl (Nat.le_of_ble_eq_true rfl) (qc_rml (by decide) (by decide)) ⟨Nat.zero_le _, Nat.zero_le _⟩ ?_
                refine And.imp_right (fun hx => qc_aload_n (qc_at qkX12_unfold 113 rfl) rfl <| qc_iload_n (qc_at qkX12_unfold 114 rfl) rfl <| qc_iload (qc_at qkX12_unfold 115 rfl) rfl <| hx) ?_
                obtain ⟨r36, I36, L36, D36, R36, e36, h⟩ := qc_bd_of h
                have c36 := (tX12_taskOfKind hn (c35.1.1 (c34.1.1 (c33.1.1 (c31.1.1 hR)))) e36)
                refine qd_cVn (ci := 10) (a0 := 291) (qc_at qkX12_unfold 116 rfl) ql_12_503 qfX12_taskOfKind (qc_kf hn rfl) rfl c36 rfl rfl (Nat.le_of_ble_eq_true rfl) (qc_rml (by decide) (by decide)) ⟨Nat.zero_le _, Nat.zero_le _⟩ ?_
                refine And.imp_right (fun hx => qc_aload_n (qc_at qkX12_unfold 117 rfl) rfl <| qc_iload_n (qc_at qkX12_unfold 118 rfl) rfl <| qc_iload (qc_at qkX12_unfold 119 rfl) rfl <| hx) ?_
                obtain ⟨r37, I37, L37, D37, R37, e37, h⟩ := qc_bd_of h
                have c37 := (tX12_taskOfKind hn (c36.1.1 (c35.1.1 (c34.1.1 (c33.1.1 (c31.1.1 hR))))) e37)
                refine qd_cVn (ci := 10) (a0 := 291) (qc_at qkX12_unfold 120 rfl) ql_12_503 qfX12_taskOfKind (qc_kf hn rfl) rfl c37 rfl rfl (Nat.le_of_ble_eq_true rfl) (qc_rml (by decide) (by decide)) ⟨Nat.zero_le _, Nat.zero_le _⟩ ?_
                obtain ⟨rfl, rfl, rfl, rfl, rfl⟩ := qc_some5 h
                exact ⟨qc_fm.rf _, qc_goto (qc_at qkX12_unfold 121 rfl) <| qc_vret (qc_at qkX12_unfold 153 rfl) rfl (Nat.le_refl _) (Nat.le_refl _) (qc_eq.rf _ _ _)⟩
              · replace h := qc_jn u28 h
                refine qc_by (c := (I 298 (Int32.toNatClampNeg x1)) = 7) (fun u38 => ?_) (fun u38 => ?_)
                · refine And.imp_right (fun hx => qc_tabIn (qc_at qkX12_unfold 19 rfl) 7 (by rw [u38]; rfl) (by decide) rfl rfl hx) ?_
                  replace h := qc_jp u38 h
                  refine And.imp_right (fun hx => qc_aload_n (qc_at qkX12_unfold 122 rfl) rfl <| qc_iconst (qc_at qkX12_unfold 123 rfl) <| qc_aload_n (qc_at qkX12_unfold 124 rfl) rfl <| qc_gR (qc_at qkX12_unfold 125 rfl) hn rfl (qfr_291_22 hR) rfl <| qc_iload_n (qc_at qkX12_unfold 126 rfl) rfl <| hx) ?_
                  obtain ⟨g39, h⟩ := qc_gd_of h
                  refine And.imp_right (fun hx => qc_iald 420 (qc_at qkX12_unfold 127 rfl) hn rfl (qc_inb_in g39) <| qc_iload (qc_at qkX12_unfold 128 rfl) rfl <| qc_iadd (qc_at qkX12_unfold 129 rfl) <| qc_iconst (qc_at qkX12_unfold 130 rfl) <| hx) ?_
                  obtain ⟨r40, I40, L40, D40, R40, e40, h⟩ := qc_bd_of h
                  have c40 := (tX12_task hn hR e40)
                  refine qd_cVn (ci := 10) (a0 := 291) (qc_at qkX12_unfold 131 rfl) ql_12_487 qfX12_task (qc_kf hn rfl) rfl c40 rfl rfl (Nat.le_of_ble_eq_true rfl) (qc_rml (by decide) (by decide)) ⟨Nat.zero_le _, Nat.zero_le _⟩ ?_
                  refine And.imp_right (fun hx => qc_aload_n (qc_at qkX12_unfold 132 rfl) rfl <| qc_iload_n (qc_at qkX12_unfold 133 rfl) rfl <| qc_iconst (qc_at qkX12_unfold 134 rfl) <| hx) ?_
                  obtain ⟨r41, I41, L41, D41, R41, e41, h⟩ := qc_bd_of h
                  have c41 := (tX12_taskOfKind hn (c40.1.1 hR) e41)
                  refine qd_cVn (ci := 10) (a0 := 291) (qc_at qkX12_unfold 135 rfl) ql_12_503 qfX12_taskOfKind (qc_kf hn rfl) rfl c41 rfl rfl (Nat.le_of_ble_eq_true rfl) (qc_rml (by decide) (by decide)) ⟨Nat.zero_le _, Nat.zero_le _⟩ ?_
                  refine And.imp_right (fun hx => qc_aload_n (qc_at qkX12_unfold 136 rfl) rfl <| qc_iload_n (qc_at qkX12_unfold 137 rfl) rfl <| qc_iload (qc_at qkX12_unfold 138 rfl) rfl <| hx) ?_
                  obtain ⟨r42, I42, L42, D42, R42, e42, h⟩ := qc_bd_of h
                  have c42 := (tX12_taskOfKind hn (c41.1.1 (c40.1.1 hR)) e42)
                  refine qd_cVn (ci := 10) (a0 := 291) (qc_at qkX12_unfold 139 rfl) ql_12_503 qfX12_taskOfKind (qc_kf hn rfl) rfl c42 rfl rfl (Nat.le_of_ble_eq_true rfl) (qc_rml (by decide) (by decide)) ⟨Nat.zero_le _, Nat.zero_le _⟩ ?_
                  obtain ⟨rfl, rfl, rfl, rfl, rfl⟩ := qc_some5 h
                  exact ⟨qc_fm.rf _, qc_goto (qc_at qkX12_unfold 140 rfl) <| qc_vret (qc_at qkX12_unfold 153 rfl) rfl (Nat.le_refl _) (Nat.le_refl _) (qc_eq.rf _ _ _)⟩
                · replace h := qc_jn u38 h
                  refine qc_by (c := (I 298 (Int32.toNatClampNeg x1)) = 8) (fun u43 => ?_) (fun u43 => ?_)
                  · refine And.imp_right (fun hx => qc_tabIn (qc_at qkX12_unfold 19 rfl) 8 (by rw [u43]; rfl) (by decide) rfl rfl hx) ?_
                    replace h := qc_jp u43 h
                    exact And.imp_right (fun hx => qc_sub [3, 4, 2, 0] rfl hx) (tX12_unfold_b319 hn hR h)
                  · replace h := qc_jn u43 h
                    refine qc_by (c := (I 298 (Int32.toNatClampNeg x1)) = 9) (fun u44 => ?_) (fun u44 => ?_)
                    · refine And.imp_right (fun hx => qc_tabIn (qc_at qkX12_unfold 19 rfl) 9 (by rw [u44]; rfl) (by decide) rfl rfl hx) ?_
                      replace h := qc_jp u44 h
                      exact And.imp_right (fun hx => qc_sub [3, 4, 2, 0] rfl hx) (tX12_unfold_b319 hn hR h)
                    · replace h := qc_jn u44 h
                      refine qc_by (c := (I 298 (Int32.toNatClampNeg x1)) = 10) (fun u45 => ?_) (fun u45 => ?_)
                      · refine And.imp_right (fun hx => qc_tabIn (qc_at qkX12_unfold 19 rfl) 10 (by rw [u45]; rfl) (by decide) rfl rfl hx) ?_
                        replace h := qc_jp u45 h
                        exact And.imp_right (fun hx => qc_sub [3, 4, 2, 1, 0] rfl hx) (tX12_unfold_b307 hn hR h)
                      · replace h := qc_jn u45 h
                        refine qc_by (c := (I 298 (Int32.toNatClampNeg x1)) = 11) (fun u46 => ?_) (fun u46 => ?_)
                        · refine And.imp_right (fun hx => qc_tabIn (qc_at qkX12_unfold 19 rfl) 11 (by rw [u46]; rfl) (by decide) rfl rfl hx) ?_
                          replace h := qc_jp u46 h
                          exact And.imp_right (fun hx => qc_sub [3, 4, 2, 1, 0] rfl hx) (tX12_unfold_b307 hn hR h)
                        · replace h := qc_jn u46 h
                          refine qc_by (c := (I 298 (Int32.toNatClampNeg x1)) = 12) (fun u47 => ?_) (fun u47 => ?_)
                          · refine And.imp_right (fun hx => qc_tabIn (qc_at qkX12_unfold 19 rfl) 12 (by rw [u47]; rfl) (by decide) rfl rfl hx) ?_
                            replace h := qc_jp u47 h
                            exact And.imp_right (fun hx => qc_sub [3, 4, 2, 0] rfl hx) (tX12_unfold_b319 hn hR h)
                          · replace h := qc_jn u47 h
                            refine qc_by (c := (I 298 (Int32.toNatClampNeg x1)) = 13) (fun u48 => ?_) (fun u48 => ?_)
                            · refine And.imp_right (fun hx => qc_tabIn (qc_at qkX12_unfold 19 rfl) 13 (by rw [u48]; rfl) (by decide) rfl rfl hx) ?_
                              replace h := qc_jp u48 h
                              exact And.imp_right (fun hx => qc_sub [3, 4, 2, 1, 0] rfl hx) (tX12_unfold_b307 hn hR h)
                            · replace h := qc_jn u48 h
                              have v9 : ¬ Int32.toInt (I 298 (Int32.toNatClampNeg x1)) = 0 := fun z => u9 (qc_i32 z rfl)
                              have v10 : ¬ Int32.toInt (I 298 (Int32.toNatClampNeg x1)) = 1 := fun z => u10 (qc_i32 z rfl)
                              have v13 : ¬ Int32.toInt (I 298 (Int32.toNatClampNeg x1)) = 2 := fun z => u13 (qc_i32 z rfl)
                              have v15 : ¬ Int32.toInt (I 298 (Int32.toNatClampNeg x1)) = 3 := fun z => u15 (qc_i32 z rfl)
                              have v16 : ¬ Int32.toInt (I 298 (Int32.toNatClampNeg x1)) = 4 := fun z => u16 (qc_i32 z rfl)
                              have v22 : ¬ Int32.toInt (I 298 (Int32.toNatClampNeg x1)) = 5 := fun z => u22 (qc_i32 z rfl)
                              have v28 : ¬ Int32.toInt (I 298 (Int32.toNatClampNeg x1)) = 6 := fun z => u28 (qc_i32 z rfl)
                              have v38 : ¬ Int32.toInt (I 298 (Int32.toNatClampNeg x1)) = 7 := fun z => u38 (qc_i32 z rfl)
                              have v43 : ¬ Int32.toInt (I 298 (Int32.toNatClampNeg x1)) = 8 := fun z => u43 (qc_i32 z rfl)
                              have v44 : ¬ Int32.toInt (I 298 (Int32.toNatClampNeg x1)) = 9 := fun z => u44 (qc_i32 z rfl)
                              have v45 : ¬ Int32.toInt (I 298 (Int32.toNatClampNeg x1)) = 10 := fun z => u45 (qc_i32 z rfl)
                              have v46 : ¬ Int32.toInt (I 298 (Int32.toNatClampNeg x1)) = 11 := fun z => u46 (qc_i32 z rfl)
                              have v47 : ¬ Int32.toInt (I 298 (Int32.toNatClampNeg x1)) = 12 := fun z => u47 (qc_i32 z rfl)
                              have v48 : ¬ Int32.toInt (I 298 (Int32.toNatClampNeg x1)) = 13 := fun z => u48 (qc_i32 z rfl)
                              refine And.imp_right (fun hx => qc_tabOut (qc_at qkX12_unfold 19 rfl) (by omega) rfl hx) ?_
                              exact And.imp_right (fun hx => qc_sub [3, 4, 2, 0] rfl hx) (tX12_unfold_b319 hn hR h)
